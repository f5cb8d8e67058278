section
-- ===== PART A: goes FIRST, ahead of the names: the tables' words, and 'selects' of the private methods out of them =====
/-- a private method of a class that the tables say can be made, by its rows of tables_1 -/
def lw_okq (q : MethodName × Nat) : Prop := (q.1.cls ≠ "java/lang/invoke/MethodHandle" ∧ q.1.cls ≠ "java/lang/invoke/VarHandle") ∧ Cond.instantiable q.1.cls q.2 ∈ tables_1 ∧ Cond.privateMethod q.1 ∈ tables_1 ∧ Cond.instanceMethod q.1 ∈ tables_1
theorem lw_p0 : lw_okq (⟨"StepRewriter$FormCheck", "wrongInMethod", "(LStepRewriter$CodeSet;LStepRewriter$Method;I)I"⟩, 1) := ⟨⟨by decide +kernel, by decide +kernel⟩, List.mem_of_getElem? (i := 145) (by decide +kernel), List.mem_of_getElem? (i := 320) (by decide +kernel), List.mem_of_getElem? (i := 321) (by decide +kernel)⟩
theorem lw_p1 : lw_okq (⟨"StepRewriter$FormCheck", "wrongNumber", "(LStepRewriter$CodeSet;LStepRewriter$Method;I)I"⟩, 1) := ⟨⟨by decide +kernel, by decide +kernel⟩, List.mem_of_getElem? (i := 145) (by decide +kernel), List.mem_of_getElem? (i := 328) (by decide +kernel), List.mem_of_getElem? (i := 329) (by decide +kernel)⟩
theorem lw_p2 : lw_okq (⟨"StepRewriter$FormCheck", "wrongHandlerCount", "(LStepRewriter$CodeSet;LStepRewriter$Method;)I"⟩, 1) := ⟨⟨by decide +kernel, by decide +kernel⟩, List.mem_of_getElem? (i := 145) (by decide +kernel), List.mem_of_getElem? (i := 337) (by decide +kernel), List.mem_of_getElem? (i := 338) (by decide +kernel)⟩
theorem lw_p3 : lw_okq (⟨"StepRewriter$FormCheck", "endOf", "(LStepRewriter$Method;)I"⟩, 1) := ⟨⟨by decide +kernel, by decide +kernel⟩, List.mem_of_getElem? (i := 145) (by decide +kernel), List.mem_of_getElem? (i := 341) (by decide +kernel), List.mem_of_getElem? (i := 342) (by decide +kernel)⟩
theorem lw_p4 : lw_okq (⟨"StepRewriter$FormCheck", "handlerPlace", "(LStepRewriter$Method;I)I"⟩, 1) := ⟨⟨by decide +kernel, by decide +kernel⟩, List.mem_of_getElem? (i := 145) (by decide +kernel), List.mem_of_getElem? (i := 345) (by decide +kernel), List.mem_of_getElem? (i := 346) (by decide +kernel)⟩
theorem lw_p5 : lw_okq (⟨"StepRewriter$FormCheck", "wrongInstruction", "(LStepRewriter$CodeSet;LStepRewriter$Method;)I"⟩, 1) := ⟨⟨by decide +kernel, by decide +kernel⟩, List.mem_of_getElem? (i := 145) (by decide +kernel), List.mem_of_getElem? (i := 349) (by decide +kernel), List.mem_of_getElem? (i := 350) (by decide +kernel)⟩
theorem lw_p6 : lw_okq (⟨"StepRewriter$Method", "hasPlace", "(I)Z"⟩, 11) := ⟨⟨by decide +kernel, by decide +kernel⟩, List.mem_of_getElem? (i := 32) (by decide +kernel), List.mem_of_getElem? (i := 361) (by decide +kernel), List.mem_of_getElem? (i := 362) (by decide +kernel)⟩
theorem lw_p7 : lw_okq (⟨"StepRewriter$FormCheck", "hasOperand", "(LStepRewriter$CodeSet;LStepRewriter$Method;I)Z"⟩, 1) := ⟨⟨by decide +kernel, by decide +kernel⟩, List.mem_of_getElem? (i := 145) (by decide +kernel), List.mem_of_getElem? (i := 377) (by decide +kernel), List.mem_of_getElem? (i := 378) (by decide +kernel)⟩
theorem lw_p8 : lw_okq (⟨"StepRewriter$FormCheck", "wrongHandler", "(LStepRewriter$CodeSet;LStepRewriter$Method;)I"⟩, 1) := ⟨⟨by decide +kernel, by decide +kernel⟩, List.mem_of_getElem? (i := 145) (by decide +kernel), List.mem_of_getElem? (i := 391) (by decide +kernel), List.mem_of_getElem? (i := 392) (by decide +kernel)⟩
theorem lw_p9 : lw_okq (⟨"StepRewriter$FormCheck", "wrongJump", "(LStepRewriter$Method;)I"⟩, 1) := ⟨⟨by decide +kernel, by decide +kernel⟩, List.mem_of_getElem? (i := 145) (by decide +kernel), List.mem_of_getElem? (i := 404) (by decide +kernel), List.mem_of_getElem? (i := 405) (by decide +kernel)⟩
theorem lw_p10 : lw_okq (⟨"StepRewriter$FormCheck", "markBlocks", "(LStepRewriter$Method;)V"⟩, 1) := ⟨⟨by decide +kernel, by decide +kernel⟩, List.mem_of_getElem? (i := 145) (by decide +kernel), List.mem_of_getElem? (i := 420) (by decide +kernel), List.mem_of_getElem? (i := 421) (by decide +kernel)⟩
theorem lw_p11 : lw_okq (⟨"StepRewriter$DepthCheck", "wrongPlace", "(LStepRewriter$CodeSet;LStepRewriter$Method;)I"⟩, 3) := ⟨⟨by decide +kernel, by decide +kernel⟩, List.mem_of_getElem? (i := 151) (by decide +kernel), List.mem_of_getElem? (i := 441) (by decide +kernel), List.mem_of_getElem? (i := 442) (by decide +kernel)⟩
theorem lw_p12 : lw_okq (⟨"StepRewriter$DepthCheck", "findLowest", "(I)Z"⟩, 3) := ⟨⟨by decide +kernel, by decide +kernel⟩, List.mem_of_getElem? (i := 151) (by decide +kernel), List.mem_of_getElem? (i := 448) (by decide +kernel), List.mem_of_getElem? (i := 449) (by decide +kernel)⟩
theorem lw_p13 : lw_okq (⟨"StepRewriter$DepthCheck", "goOn", "(LStepRewriter$CodeSet;LStepRewriter$Method;I)I"⟩, 3) := ⟨⟨by decide +kernel, by decide +kernel⟩, List.mem_of_getElem? (i := 151) (by decide +kernel), List.mem_of_getElem? (i := 453) (by decide +kernel), List.mem_of_getElem? (i := 454) (by decide +kernel)⟩
theorem lw_p14 : lw_okq (⟨"StepRewriter$DepthCheck", "reach", "(II)I"⟩, 3) := ⟨⟨by decide +kernel, by decide +kernel⟩, List.mem_of_getElem? (i := 151) (by decide +kernel), List.mem_of_getElem? (i := 466) (by decide +kernel), List.mem_of_getElem? (i := 467) (by decide +kernel)⟩
theorem lw_p15 : lw_okq (⟨"StepRewriter$DepthCheck", "greatest", "()I"⟩, 3) := ⟨⟨by decide +kernel, by decide +kernel⟩, List.mem_of_getElem? (i := 151) (by decide +kernel), List.mem_of_getElem? (i := 475) (by decide +kernel), List.mem_of_getElem? (i := 476) (by decide +kernel)⟩
def lw_privs_1 : List (MethodName × Nat) := [(⟨"StepRewriter$FormCheck", "wrongInMethod", "(LStepRewriter$CodeSet;LStepRewriter$Method;I)I"⟩, 1), (⟨"StepRewriter$FormCheck", "wrongNumber", "(LStepRewriter$CodeSet;LStepRewriter$Method;I)I"⟩, 1), (⟨"StepRewriter$FormCheck", "wrongHandlerCount", "(LStepRewriter$CodeSet;LStepRewriter$Method;)I"⟩, 1), (⟨"StepRewriter$FormCheck", "endOf", "(LStepRewriter$Method;)I"⟩, 1), (⟨"StepRewriter$FormCheck", "handlerPlace", "(LStepRewriter$Method;I)I"⟩, 1), (⟨"StepRewriter$FormCheck", "wrongInstruction", "(LStepRewriter$CodeSet;LStepRewriter$Method;)I"⟩, 1), (⟨"StepRewriter$Method", "hasPlace", "(I)Z"⟩, 11), (⟨"StepRewriter$FormCheck", "hasOperand", "(LStepRewriter$CodeSet;LStepRewriter$Method;I)Z"⟩, 1), (⟨"StepRewriter$FormCheck", "wrongHandler", "(LStepRewriter$CodeSet;LStepRewriter$Method;)I"⟩, 1), (⟨"StepRewriter$FormCheck", "wrongJump", "(LStepRewriter$Method;)I"⟩, 1), (⟨"StepRewriter$FormCheck", "markBlocks", "(LStepRewriter$Method;)V"⟩, 1), (⟨"StepRewriter$DepthCheck", "wrongPlace", "(LStepRewriter$CodeSet;LStepRewriter$Method;)I"⟩, 3), (⟨"StepRewriter$DepthCheck", "findLowest", "(I)Z"⟩, 3), (⟨"StepRewriter$DepthCheck", "goOn", "(LStepRewriter$CodeSet;LStepRewriter$Method;I)I"⟩, 3), (⟨"StepRewriter$DepthCheck", "reach", "(II)I"⟩, 3), (⟨"StepRewriter$DepthCheck", "greatest", "()I"⟩, 3)]
theorem lw_r1 : ∀ q ∈ lw_privs_1, lw_okq q := List.forall_mem_cons.mpr ⟨lw_p0, List.forall_mem_cons.mpr ⟨lw_p1, List.forall_mem_cons.mpr ⟨lw_p2, List.forall_mem_cons.mpr ⟨lw_p3, List.forall_mem_cons.mpr ⟨lw_p4, List.forall_mem_cons.mpr ⟨lw_p5, List.forall_mem_cons.mpr ⟨lw_p6, List.forall_mem_cons.mpr ⟨lw_p7, List.forall_mem_cons.mpr ⟨lw_p8, List.forall_mem_cons.mpr ⟨lw_p9, List.forall_mem_cons.mpr ⟨lw_p10, List.forall_mem_cons.mpr ⟨lw_p11, List.forall_mem_cons.mpr ⟨lw_p12, List.forall_mem_cons.mpr ⟨lw_p13, List.forall_mem_cons.mpr ⟨lw_p14, List.forall_mem_cons.mpr ⟨lw_p15, fun _ h => absurd h List.not_mem_nil⟩⟩⟩⟩⟩⟩⟩⟩⟩⟩⟩⟩⟩⟩⟩⟩
theorem lw_p16 : lw_okq (⟨"StepRewriter$Layout", "takeSums", "(LStepRewriter$Method;LStepRewriter$Prices;)V"⟩, 5) := ⟨⟨by decide +kernel, by decide +kernel⟩, List.mem_of_getElem? (i := 171) (by decide +kernel), List.mem_of_getElem? (i := 509) (by decide +kernel), List.mem_of_getElem? (i := 510) (by decide +kernel)⟩
theorem lw_p17 : lw_okq (⟨"StepRewriter$Layout", "placeAll", "(LStepRewriter$Method;)I"⟩, 5) := ⟨⟨by decide +kernel, by decide +kernel⟩, List.mem_of_getElem? (i := 171) (by decide +kernel), List.mem_of_getElem? (i := 522) (by decide +kernel), List.mem_of_getElem? (i := 523) (by decide +kernel)⟩
theorem lw_p18 : lw_okq (⟨"StepRewriter$Layout", "bytesAhead", "(LStepRewriter$Method;I)I"⟩, 5) := ⟨⟨by decide +kernel, by decide +kernel⟩, List.mem_of_getElem? (i := 171) (by decide +kernel), List.mem_of_getElem? (i := 527) (by decide +kernel), List.mem_of_getElem? (i := 528) (by decide +kernel)⟩
theorem lw_p19 : lw_okq (⟨"StepRewriter$Layout", "sumBytes", "(I)I"⟩, 5) := ⟨⟨by decide +kernel, by decide +kernel⟩, List.mem_of_getElem? (i := 171) (by decide +kernel), List.mem_of_getElem? (i := 531) (by decide +kernel), List.mem_of_getElem? (i := 532) (by decide +kernel)⟩
theorem lw_p20 : lw_okq (⟨"StepRewriter$Layout", "paysTop", "(LStepRewriter$Method;I)Z"⟩, 5) := ⟨⟨by decide +kernel, by decide +kernel⟩, List.mem_of_getElem? (i := 171) (by decide +kernel), List.mem_of_getElem? (i := 536) (by decide +kernel), List.mem_of_getElem? (i := 537) (by decide +kernel)⟩
theorem lw_p21 : lw_okq (⟨"StepRewriter$Layout", "bytesOf", "(LStepRewriter$Method;I)I"⟩, 5) := ⟨⟨by decide +kernel, by decide +kernel⟩, List.mem_of_getElem? (i := 171) (by decide +kernel), List.mem_of_getElem? (i := 541) (by decide +kernel), List.mem_of_getElem? (i := 542) (by decide +kernel)⟩
theorem lw_p22 : lw_okq (⟨"StepRewriter$Layout", "isLong", "(I)Z"⟩, 5) := ⟨⟨by decide +kernel, by decide +kernel⟩, List.mem_of_getElem? (i := 171) (by decide +kernel), List.mem_of_getElem? (i := 547) (by decide +kernel), List.mem_of_getElem? (i := 548) (by decide +kernel)⟩
theorem lw_p23 : lw_okq (⟨"StepRewriter$Layout", "lengthen", "(LStepRewriter$Method;)Z"⟩, 5) := ⟨⟨by decide +kernel, by decide +kernel⟩, List.mem_of_getElem? (i := 171) (by decide +kernel), List.mem_of_getElem? (i := 552) (by decide +kernel), List.mem_of_getElem? (i := 553) (by decide +kernel)⟩
theorem lw_p24 : lw_okq (⟨"StepRewriter$Layout", "wayOf", "(LStepRewriter$Method;I)I"⟩, 5) := ⟨⟨by decide +kernel, by decide +kernel⟩, List.mem_of_getElem? (i := 171) (by decide +kernel), List.mem_of_getElem? (i := 557) (by decide +kernel), List.mem_of_getElem? (i := 558) (by decide +kernel)⟩
theorem lw_p25 : lw_okq (⟨"StepRewriter$Layout", "writeInstruction", "(LStepRewriter$Method;ILStepRewriter$CodeSet;LStepRewriter$Method;)V"⟩, 5) := ⟨⟨by decide +kernel, by decide +kernel⟩, List.mem_of_getElem? (i := 171) (by decide +kernel), List.mem_of_getElem? (i := 567) (by decide +kernel), List.mem_of_getElem? (i := 568) (by decide +kernel)⟩
theorem lw_p26 : lw_okq (⟨"StepRewriter$Layout", "writeJump", "(LStepRewriter$Method;ILStepRewriter$CodeSet;LStepRewriter$Method;)V"⟩, 5) := ⟨⟨by decide +kernel, by decide +kernel⟩, List.mem_of_getElem? (i := 171) (by decide +kernel), List.mem_of_getElem? (i := 577) (by decide +kernel), List.mem_of_getElem? (i := 578) (by decide +kernel)⟩
theorem lw_p27 : lw_okq (⟨"StepRewriter$Layout", "moveHandlers", "(LStepRewriter$Method;LStepRewriter$Method;)V"⟩, 5) := ⟨⟨by decide +kernel, by decide +kernel⟩, List.mem_of_getElem? (i := 171) (by decide +kernel), List.mem_of_getElem? (i := 585) (by decide +kernel), List.mem_of_getElem? (i := 586) (by decide +kernel)⟩
theorem lw_p28 : lw_okq (⟨"StepRewriter$Machine", "frame", "(I)LStepRewriter$Frame;"⟩, 8) := ⟨⟨by decide +kernel, by decide +kernel⟩, List.mem_of_getElem? (i := 193) (by decide +kernel), List.mem_of_getElem? (i := 638) (by decide +kernel), List.mem_of_getElem? (i := 639) (by decide +kernel)⟩
theorem lw_p29 : lw_okq (⟨"StepRewriter$Machine", "goOn", "(LStepRewriter$Frame;)I"⟩, 8) := ⟨⟨by decide +kernel, by decide +kernel⟩, List.mem_of_getElem? (i := 193) (by decide +kernel), List.mem_of_getElem? (i := 653) (by decide +kernel), List.mem_of_getElem? (i := 654) (by decide +kernel)⟩
theorem lw_p30 : lw_okq (⟨"StepRewriter$Machine", "pay", "(LStepRewriter$Frame;II)I"⟩, 8) := ⟨⟨by decide +kernel, by decide +kernel⟩, List.mem_of_getElem? (i := 193) (by decide +kernel), List.mem_of_getElem? (i := 670) (by decide +kernel), List.mem_of_getElem? (i := 671) (by decide +kernel)⟩
theorem lw_p31 : lw_okq (⟨"StepRewriter$Machine", "call", "(LStepRewriter$Frame;)I"⟩, 8) := ⟨⟨by decide +kernel, by decide +kernel⟩, List.mem_of_getElem? (i := 193) (by decide +kernel), List.mem_of_getElem? (i := 680) (by decide +kernel), List.mem_of_getElem? (i := 681) (by decide +kernel)⟩
def lw_privs_2 : List (MethodName × Nat) := [(⟨"StepRewriter$Layout", "takeSums", "(LStepRewriter$Method;LStepRewriter$Prices;)V"⟩, 5), (⟨"StepRewriter$Layout", "placeAll", "(LStepRewriter$Method;)I"⟩, 5), (⟨"StepRewriter$Layout", "bytesAhead", "(LStepRewriter$Method;I)I"⟩, 5), (⟨"StepRewriter$Layout", "sumBytes", "(I)I"⟩, 5), (⟨"StepRewriter$Layout", "paysTop", "(LStepRewriter$Method;I)Z"⟩, 5), (⟨"StepRewriter$Layout", "bytesOf", "(LStepRewriter$Method;I)I"⟩, 5), (⟨"StepRewriter$Layout", "isLong", "(I)Z"⟩, 5), (⟨"StepRewriter$Layout", "lengthen", "(LStepRewriter$Method;)Z"⟩, 5), (⟨"StepRewriter$Layout", "wayOf", "(LStepRewriter$Method;I)I"⟩, 5), (⟨"StepRewriter$Layout", "writeInstruction", "(LStepRewriter$Method;ILStepRewriter$CodeSet;LStepRewriter$Method;)V"⟩, 5), (⟨"StepRewriter$Layout", "writeJump", "(LStepRewriter$Method;ILStepRewriter$CodeSet;LStepRewriter$Method;)V"⟩, 5), (⟨"StepRewriter$Layout", "moveHandlers", "(LStepRewriter$Method;LStepRewriter$Method;)V"⟩, 5), (⟨"StepRewriter$Machine", "frame", "(I)LStepRewriter$Frame;"⟩, 8), (⟨"StepRewriter$Machine", "goOn", "(LStepRewriter$Frame;)I"⟩, 8), (⟨"StepRewriter$Machine", "pay", "(LStepRewriter$Frame;II)I"⟩, 8), (⟨"StepRewriter$Machine", "call", "(LStepRewriter$Frame;)I"⟩, 8)]
theorem lw_r2 : ∀ q ∈ lw_privs_2, lw_okq q := List.forall_mem_cons.mpr ⟨lw_p16, List.forall_mem_cons.mpr ⟨lw_p17, List.forall_mem_cons.mpr ⟨lw_p18, List.forall_mem_cons.mpr ⟨lw_p19, List.forall_mem_cons.mpr ⟨lw_p20, List.forall_mem_cons.mpr ⟨lw_p21, List.forall_mem_cons.mpr ⟨lw_p22, List.forall_mem_cons.mpr ⟨lw_p23, List.forall_mem_cons.mpr ⟨lw_p24, List.forall_mem_cons.mpr ⟨lw_p25, List.forall_mem_cons.mpr ⟨lw_p26, List.forall_mem_cons.mpr ⟨lw_p27, List.forall_mem_cons.mpr ⟨lw_p28, List.forall_mem_cons.mpr ⟨lw_p29, List.forall_mem_cons.mpr ⟨lw_p30, List.forall_mem_cons.mpr ⟨lw_p31, fun _ h => absurd h List.not_mem_nil⟩⟩⟩⟩⟩⟩⟩⟩⟩⟩⟩⟩⟩⟩⟩⟩
theorem lw_p32 : lw_okq (⟨"StepRewriter$Machine", "leave", "(I)I"⟩, 8) := ⟨⟨by decide +kernel, by decide +kernel⟩, List.mem_of_getElem? (i := 193) (by decide +kernel), List.mem_of_getElem? (i := 692) (by decide +kernel), List.mem_of_getElem? (i := 693) (by decide +kernel)⟩
theorem lw_p33 : lw_okq (⟨"StepRewriter$Machine", "jump", "(LStepRewriter$Frame;I)I"⟩, 8) := ⟨⟨by decide +kernel, by decide +kernel⟩, List.mem_of_getElem? (i := 193) (by decide +kernel), List.mem_of_getElem? (i := 702) (by decide +kernel), List.mem_of_getElem? (i := 703) (by decide +kernel)⟩
theorem lw_p34 : lw_okq (⟨"StepRewriter$Machine", "act", "(LStepRewriter$Frame;I)I"⟩, 8) := ⟨⟨by decide +kernel, by decide +kernel⟩, List.mem_of_getElem? (i := 193) (by decide +kernel), List.mem_of_getElem? (i := 711) (by decide +kernel), List.mem_of_getElem? (i := 712) (by decide +kernel)⟩
theorem lw_p35 : lw_okq (⟨"StepRewriter$Machine", "actOnArray", "(LStepRewriter$Frame;I)I"⟩, 8) := ⟨⟨by decide +kernel, by decide +kernel⟩, List.mem_of_getElem? (i := 193) (by decide +kernel), List.mem_of_getElem? (i := 721) (by decide +kernel), List.mem_of_getElem? (i := 722) (by decide +kernel)⟩
theorem lw_p36 : lw_okq (⟨"StepRewriter$Machine", "actOnTwo", "(LStepRewriter$Frame;I)I"⟩, 8) := ⟨⟨by decide +kernel, by decide +kernel⟩, List.mem_of_getElem? (i := 193) (by decide +kernel), List.mem_of_getElem? (i := 749) (by decide +kernel), List.mem_of_getElem? (i := 750) (by decide +kernel)⟩
theorem lw_p37 : lw_okq (⟨"StepRewriter$Machine", "joined", "(III)I"⟩, 8) := ⟨⟨by decide +kernel, by decide +kernel⟩, List.mem_of_getElem? (i := 193) (by decide +kernel), List.mem_of_getElem? (i := 753) (by decide +kernel), List.mem_of_getElem? (i := 754) (by decide +kernel)⟩
theorem lw_p38 : lw_okq (⟨"StepRewriter$Machine", "raise", "(I)I"⟩, 8) := ⟨⟨by decide +kernel, by decide +kernel⟩, List.mem_of_getElem? (i := 193) (by decide +kernel), List.mem_of_getElem? (i := 757) (by decide +kernel), List.mem_of_getElem? (i := 758) (by decide +kernel)⟩
theorem lw_p39 : lw_okq (⟨"StepRewriter", "unwriteMethod", "(LStepRewriter$Method;LStepRewriter$Method;)V"⟩, 8) := ⟨⟨by decide +kernel, by decide +kernel⟩, List.mem_of_getElem? (i := 17) (by decide +kernel), List.mem_of_getElem? (i := 794) (by decide +kernel), List.mem_of_getElem? (i := 795) (by decide +kernel)⟩
theorem lw_p40 : lw_okq (⟨"StepRewriterModel", "begin", "()V"⟩, 48) := ⟨⟨by decide +kernel, by decide +kernel⟩, List.mem_of_getElem? (i := 805) (by decide +kernel), List.mem_of_getElem? (i := 811) (by decide +kernel), List.mem_of_getElem? (i := 812) (by decide +kernel)⟩
theorem lw_p41 : lw_okq (⟨"StepRewriterModel", "read", "()I"⟩, 48) := ⟨⟨by decide +kernel, by decide +kernel⟩, List.mem_of_getElem? (i := 805) (by decide +kernel), List.mem_of_getElem? (i := 968) (by decide +kernel), List.mem_of_getElem? (i := 969) (by decide +kernel)⟩
theorem lw_p42 : lw_okq (⟨"StepRewriterModel", "one", "()I"⟩, 48) := ⟨⟨by decide +kernel, by decide +kernel⟩, List.mem_of_getElem? (i := 805) (by decide +kernel), List.mem_of_getElem? (i := 972) (by decide +kernel), List.mem_of_getElem? (i := 973) (by decide +kernel)⟩
theorem lw_p43 : lw_okq (⟨"StepRewriterModel", "wrong", "(I)I"⟩, 48) := ⟨⟨by decide +kernel, by decide +kernel⟩, List.mem_of_getElem? (i := 805) (by decide +kernel), List.mem_of_getElem? (i := 976) (by decide +kernel), List.mem_of_getElem? (i := 977) (by decide +kernel)⟩
theorem lw_p44 : lw_okq (⟨"StepRewriterModel", "readMethod", "(II)I"⟩, 48) := ⟨⟨by decide +kernel, by decide +kernel⟩, List.mem_of_getElem? (i := 805) (by decide +kernel), List.mem_of_getElem? (i := 980) (by decide +kernel), List.mem_of_getElem? (i := 981) (by decide +kernel)⟩
theorem lw_p45 : lw_okq (⟨"StepRewriterModel", "two", "()I"⟩, 48) := ⟨⟨by decide +kernel, by decide +kernel⟩, List.mem_of_getElem? (i := 805) (by decide +kernel), List.mem_of_getElem? (i := 984) (by decide +kernel), List.mem_of_getElem? (i := 985) (by decide +kernel)⟩
theorem lw_p46 : lw_okq (⟨"StepRewriterModel", "instructions", "(II)I"⟩, 48) := ⟨⟨by decide +kernel, by decide +kernel⟩, List.mem_of_getElem? (i := 805) (by decide +kernel), List.mem_of_getElem? (i := 988) (by decide +kernel), List.mem_of_getElem? (i := 989) (by decide +kernel)⟩
theorem lw_p47 : lw_okq (⟨"StepRewriterModel", "isBegin", "(II)Z"⟩, 48) := ⟨⟨by decide +kernel, by decide +kernel⟩, List.mem_of_getElem? (i := 805) (by decide +kernel), List.mem_of_getElem? (i := 998) (by decide +kernel), List.mem_of_getElem? (i := 999) (by decide +kernel)⟩
def lw_privs_3 : List (MethodName × Nat) := [(⟨"StepRewriter$Machine", "leave", "(I)I"⟩, 8), (⟨"StepRewriter$Machine", "jump", "(LStepRewriter$Frame;I)I"⟩, 8), (⟨"StepRewriter$Machine", "act", "(LStepRewriter$Frame;I)I"⟩, 8), (⟨"StepRewriter$Machine", "actOnArray", "(LStepRewriter$Frame;I)I"⟩, 8), (⟨"StepRewriter$Machine", "actOnTwo", "(LStepRewriter$Frame;I)I"⟩, 8), (⟨"StepRewriter$Machine", "joined", "(III)I"⟩, 8), (⟨"StepRewriter$Machine", "raise", "(I)I"⟩, 8), (⟨"StepRewriter", "unwriteMethod", "(LStepRewriter$Method;LStepRewriter$Method;)V"⟩, 8), (⟨"StepRewriterModel", "begin", "()V"⟩, 48), (⟨"StepRewriterModel", "read", "()I"⟩, 48), (⟨"StepRewriterModel", "one", "()I"⟩, 48), (⟨"StepRewriterModel", "wrong", "(I)I"⟩, 48), (⟨"StepRewriterModel", "readMethod", "(II)I"⟩, 48), (⟨"StepRewriterModel", "two", "()I"⟩, 48), (⟨"StepRewriterModel", "instructions", "(II)I"⟩, 48), (⟨"StepRewriterModel", "isBegin", "(II)Z"⟩, 48)]
theorem lw_r3 : ∀ q ∈ lw_privs_3, lw_okq q := List.forall_mem_cons.mpr ⟨lw_p32, List.forall_mem_cons.mpr ⟨lw_p33, List.forall_mem_cons.mpr ⟨lw_p34, List.forall_mem_cons.mpr ⟨lw_p35, List.forall_mem_cons.mpr ⟨lw_p36, List.forall_mem_cons.mpr ⟨lw_p37, List.forall_mem_cons.mpr ⟨lw_p38, List.forall_mem_cons.mpr ⟨lw_p39, List.forall_mem_cons.mpr ⟨lw_p40, List.forall_mem_cons.mpr ⟨lw_p41, List.forall_mem_cons.mpr ⟨lw_p42, List.forall_mem_cons.mpr ⟨lw_p43, List.forall_mem_cons.mpr ⟨lw_p44, List.forall_mem_cons.mpr ⟨lw_p45, List.forall_mem_cons.mpr ⟨lw_p46, List.forall_mem_cons.mpr ⟨lw_p47, fun _ h => absurd h List.not_mem_nil⟩⟩⟩⟩⟩⟩⟩⟩⟩⟩⟩⟩⟩⟩⟩⟩
theorem lw_p48 : lw_okq (⟨"StepRewriterModel", "stacks", "(I)I"⟩, 48) := ⟨⟨by decide +kernel, by decide +kernel⟩, List.mem_of_getElem? (i := 805) (by decide +kernel), List.mem_of_getElem? (i := 1015) (by decide +kernel), List.mem_of_getElem? (i := 1016) (by decide +kernel)⟩
theorem lw_p49 : lw_okq (⟨"StepRewriterModel", "goesOn", "(II)I"⟩, 48) := ⟨⟨by decide +kernel, by decide +kernel⟩, List.mem_of_getElem? (i := 805) (by decide +kernel), List.mem_of_getElem? (i := 1019) (by decide +kernel), List.mem_of_getElem? (i := 1020) (by decide +kernel)⟩
theorem lw_p50 : lw_okq (⟨"StepRewriterModel", "takes", "(II)I"⟩, 48) := ⟨⟨by decide +kernel, by decide +kernel⟩, List.mem_of_getElem? (i := 805) (by decide +kernel), List.mem_of_getElem? (i := 1023) (by decide +kernel), List.mem_of_getElem? (i := 1024) (by decide +kernel)⟩
theorem lw_p51 : lw_okq (⟨"StepRewriterModel", "comes", "(III)Z"⟩, 48) := ⟨⟨by decide +kernel, by decide +kernel⟩, List.mem_of_getElem? (i := 805) (by decide +kernel), List.mem_of_getElem? (i := 1030) (by decide +kernel), List.mem_of_getElem? (i := 1031) (by decide +kernel)⟩
theorem lw_p52 : lw_okq (⟨"StepRewriterModel", "keep", "()V"⟩, 48) := ⟨⟨by decide +kernel, by decide +kernel⟩, List.mem_of_getElem? (i := 805) (by decide +kernel), List.mem_of_getElem? (i := 1034) (by decide +kernel), List.mem_of_getElem? (i := 1035) (by decide +kernel)⟩
theorem lw_p53 : lw_okq (⟨"StepRewriterModel", "countBlocks", "(I)I"⟩, 48) := ⟨⟨by decide +kernel, by decide +kernel⟩, List.mem_of_getElem? (i := 805) (by decide +kernel), List.mem_of_getElem? (i := 1046) (by decide +kernel), List.mem_of_getElem? (i := 1047) (by decide +kernel)⟩
theorem lw_p54 : lw_okq (⟨"StepRewriterModel", "mark", "(I)V"⟩, 48) := ⟨⟨by decide +kernel, by decide +kernel⟩, List.mem_of_getElem? (i := 805) (by decide +kernel), List.mem_of_getElem? (i := 1050) (by decide +kernel), List.mem_of_getElem? (i := 1051) (by decide +kernel)⟩
theorem lw_p55 : lw_okq (⟨"StepRewriterModel", "kindAt", "(II)I"⟩, 48) := ⟨⟨by decide +kernel, by decide +kernel⟩, List.mem_of_getElem? (i := 805) (by decide +kernel), List.mem_of_getElem? (i := 1054) (by decide +kernel), List.mem_of_getElem? (i := 1055) (by decide +kernel)⟩
theorem lw_p56 : lw_okq (⟨"StepRewriterModel", "leads", "(II)I"⟩, 48) := ⟨⟨by decide +kernel, by decide +kernel⟩, List.mem_of_getElem? (i := 805) (by decide +kernel), List.mem_of_getElem? (i := 1058) (by decide +kernel), List.mem_of_getElem? (i := 1059) (by decide +kernel)⟩
theorem lw_p57 : lw_okq (⟨"StepRewriterModel", "sum", "(II)I"⟩, 48) := ⟨⟨by decide +kernel, by decide +kernel⟩, List.mem_of_getElem? (i := 805) (by decide +kernel), List.mem_of_getElem? (i := 1062) (by decide +kernel), List.mem_of_getElem? (i := 1063) (by decide +kernel)⟩
theorem lw_p58 : lw_okq (⟨"StepRewriterModel", "lay", "(IZ)I"⟩, 48) := ⟨⟨by decide +kernel, by decide +kernel⟩, List.mem_of_getElem? (i := 805) (by decide +kernel), List.mem_of_getElem? (i := 1070) (by decide +kernel), List.mem_of_getElem? (i := 1071) (by decide +kernel)⟩
theorem lw_p59 : lw_okq (⟨"StepRewriterModel", "paidAt", "(IIZ)I"⟩, 48) := ⟨⟨by decide +kernel, by decide +kernel⟩, List.mem_of_getElem? (i := 805) (by decide +kernel), List.mem_of_getElem? (i := 1074) (by decide +kernel), List.mem_of_getElem? (i := 1075) (by decide +kernel)⟩
theorem lw_p60 : lw_okq (⟨"StepRewriterModel", "put", "(IZ)V"⟩, 48) := ⟨⟨by decide +kernel, by decide +kernel⟩, List.mem_of_getElem? (i := 805) (by decide +kernel), List.mem_of_getElem? (i := 1081) (by decide +kernel), List.mem_of_getElem? (i := 1082) (by decide +kernel)⟩
theorem lw_p61 : lw_okq (⟨"StepRewriterModel", "putJump", "(III)V"⟩, 48) := ⟨⟨by decide +kernel, by decide +kernel⟩, List.mem_of_getElem? (i := 805) (by decide +kernel), List.mem_of_getElem? (i := 1085) (by decide +kernel), List.mem_of_getElem? (i := 1086) (by decide +kernel)⟩
theorem lw_p62 : lw_okq (⟨"StepRewriterModel", "longJumps", "(IZ)I"⟩, 48) := ⟨⟨by decide +kernel, by decide +kernel⟩, List.mem_of_getElem? (i := 805) (by decide +kernel), List.mem_of_getElem? (i := 1093) (by decide +kernel), List.mem_of_getElem? (i := 1094) (by decide +kernel)⟩
theorem lw_p63 : lw_okq (⟨"StepRewriterModel", "deepest", "(I)I"⟩, 48) := ⟨⟨by decide +kernel, by decide +kernel⟩, List.mem_of_getElem? (i := 805) (by decide +kernel), List.mem_of_getElem? (i := 1097) (by decide +kernel), List.mem_of_getElem? (i := 1098) (by decide +kernel)⟩
def lw_privs_4 : List (MethodName × Nat) := [(⟨"StepRewriterModel", "stacks", "(I)I"⟩, 48), (⟨"StepRewriterModel", "goesOn", "(II)I"⟩, 48), (⟨"StepRewriterModel", "takes", "(II)I"⟩, 48), (⟨"StepRewriterModel", "comes", "(III)Z"⟩, 48), (⟨"StepRewriterModel", "keep", "()V"⟩, 48), (⟨"StepRewriterModel", "countBlocks", "(I)I"⟩, 48), (⟨"StepRewriterModel", "mark", "(I)V"⟩, 48), (⟨"StepRewriterModel", "kindAt", "(II)I"⟩, 48), (⟨"StepRewriterModel", "leads", "(II)I"⟩, 48), (⟨"StepRewriterModel", "sum", "(II)I"⟩, 48), (⟨"StepRewriterModel", "lay", "(IZ)I"⟩, 48), (⟨"StepRewriterModel", "paidAt", "(IIZ)I"⟩, 48), (⟨"StepRewriterModel", "put", "(IZ)V"⟩, 48), (⟨"StepRewriterModel", "putJump", "(III)V"⟩, 48), (⟨"StepRewriterModel", "longJumps", "(IZ)I"⟩, 48), (⟨"StepRewriterModel", "deepest", "(I)I"⟩, 48)]
theorem lw_r4 : ∀ q ∈ lw_privs_4, lw_okq q := List.forall_mem_cons.mpr ⟨lw_p48, List.forall_mem_cons.mpr ⟨lw_p49, List.forall_mem_cons.mpr ⟨lw_p50, List.forall_mem_cons.mpr ⟨lw_p51, List.forall_mem_cons.mpr ⟨lw_p52, List.forall_mem_cons.mpr ⟨lw_p53, List.forall_mem_cons.mpr ⟨lw_p54, List.forall_mem_cons.mpr ⟨lw_p55, List.forall_mem_cons.mpr ⟨lw_p56, List.forall_mem_cons.mpr ⟨lw_p57, List.forall_mem_cons.mpr ⟨lw_p58, List.forall_mem_cons.mpr ⟨lw_p59, List.forall_mem_cons.mpr ⟨lw_p60, List.forall_mem_cons.mpr ⟨lw_p61, List.forall_mem_cons.mpr ⟨lw_p62, List.forall_mem_cons.mpr ⟨lw_p63, fun _ h => absurd h List.not_mem_nil⟩⟩⟩⟩⟩⟩⟩⟩⟩⟩⟩⟩⟩⟩⟩⟩
theorem lw_p64 : lw_okq (⟨"StepRewriterModel", "enter", "(I)V"⟩, 48) := ⟨⟨by decide +kernel, by decide +kernel⟩, List.mem_of_getElem? (i := 805) (by decide +kernel), List.mem_of_getElem? (i := 1118) (by decide +kernel), List.mem_of_getElem? (i := 1119) (by decide +kernel)⟩
theorem lw_p65 : lw_okq (⟨"StepRewriterModel", "step", "()V"⟩, 48) := ⟨⟨by decide +kernel, by decide +kernel⟩, List.mem_of_getElem? (i := 805) (by decide +kernel), List.mem_of_getElem? (i := 1122) (by decide +kernel), List.mem_of_getElem? (i := 1123) (by decide +kernel)⟩
theorem lw_p66 : lw_okq (⟨"StepRewriterModel", "codeAt", "(I)I"⟩, 48) := ⟨⟨by decide +kernel, by decide +kernel⟩, List.mem_of_getElem? (i := 805) (by decide +kernel), List.mem_of_getElem? (i := 1126) (by decide +kernel), List.mem_of_getElem? (i := 1127) (by decide +kernel)⟩
theorem lw_p67 : lw_okq (⟨"StepRewriterModel", "pays", "(I)Z"⟩, 48) := ⟨⟨by decide +kernel, by decide +kernel⟩, List.mem_of_getElem? (i := 805) (by decide +kernel), List.mem_of_getElem? (i := 1130) (by decide +kernel), List.mem_of_getElem? (i := 1131) (by decide +kernel)⟩
theorem lw_p68 : lw_okq (⟨"StepRewriterModel", "top", "()I"⟩, 48) := ⟨⟨by decide +kernel, by decide +kernel⟩, List.mem_of_getElem? (i := 805) (by decide +kernel), List.mem_of_getElem? (i := 1134) (by decide +kernel), List.mem_of_getElem? (i := 1135) (by decide +kernel)⟩
theorem lw_p69 : lw_okq (⟨"StepRewriterModel", "ends", "()V"⟩, 48) := ⟨⟨by decide +kernel, by decide +kernel⟩, List.mem_of_getElem? (i := 805) (by decide +kernel), List.mem_of_getElem? (i := 1138) (by decide +kernel), List.mem_of_getElem? (i := 1139) (by decide +kernel)⟩
theorem lw_p70 : lw_okq (⟨"StepRewriterModel", "pop", "()I"⟩, 48) := ⟨⟨by decide +kernel, by decide +kernel⟩, List.mem_of_getElem? (i := 805) (by decide +kernel), List.mem_of_getElem? (i := 1142) (by decide +kernel), List.mem_of_getElem? (i := 1143) (by decide +kernel)⟩
theorem lw_p71 : lw_okq (⟨"StepRewriterModel", "push", "(I)V"⟩, 48) := ⟨⟨by decide +kernel, by decide +kernel⟩, List.mem_of_getElem? (i := 805) (by decide +kernel), List.mem_of_getElem? (i := 1146) (by decide +kernel), List.mem_of_getElem? (i := 1147) (by decide +kernel)⟩
theorem lw_p72 : lw_okq (⟨"StepRewriterModel", "calls", "()V"⟩, 48) := ⟨⟨by decide +kernel, by decide +kernel⟩, List.mem_of_getElem? (i := 805) (by decide +kernel), List.mem_of_getElem? (i := 1150) (by decide +kernel), List.mem_of_getElem? (i := 1151) (by decide +kernel)⟩
theorem lw_p73 : lw_okq (⟨"StepRewriterModel", "jumps", "(I)V"⟩, 48) := ⟨⟨by decide +kernel, by decide +kernel⟩, List.mem_of_getElem? (i := 805) (by decide +kernel), List.mem_of_getElem? (i := 1154) (by decide +kernel), List.mem_of_getElem? (i := 1155) (by decide +kernel)⟩
theorem lw_p74 : lw_okq (⟨"StepRewriterModel", "ofArrays", "(I)V"⟩, 48) := ⟨⟨by decide +kernel, by decide +kernel⟩, List.mem_of_getElem? (i := 805) (by decide +kernel), List.mem_of_getElem? (i := 1158) (by decide +kernel), List.mem_of_getElem? (i := 1159) (by decide +kernel)⟩
theorem lw_p75 : lw_okq (⟨"StepRewriterModel", "plain", "(I)V"⟩, 48) := ⟨⟨by decide +kernel, by decide +kernel⟩, List.mem_of_getElem? (i := 805) (by decide +kernel), List.mem_of_getElem? (i := 1162) (by decide +kernel), List.mem_of_getElem? (i := 1163) (by decide +kernel)⟩
theorem lw_p76 : lw_okq (⟨"StepRewriterModel", "caught", "()V"⟩, 48) := ⟨⟨by decide +kernel, by decide +kernel⟩, List.mem_of_getElem? (i := 805) (by decide +kernel), List.mem_of_getElem? (i := 1169) (by decide +kernel), List.mem_of_getElem? (i := 1170) (by decide +kernel)⟩
def lw_privs_5 : List (MethodName × Nat) := [(⟨"StepRewriterModel", "enter", "(I)V"⟩, 48), (⟨"StepRewriterModel", "step", "()V"⟩, 48), (⟨"StepRewriterModel", "codeAt", "(I)I"⟩, 48), (⟨"StepRewriterModel", "pays", "(I)Z"⟩, 48), (⟨"StepRewriterModel", "top", "()I"⟩, 48), (⟨"StepRewriterModel", "ends", "()V"⟩, 48), (⟨"StepRewriterModel", "pop", "()I"⟩, 48), (⟨"StepRewriterModel", "push", "(I)V"⟩, 48), (⟨"StepRewriterModel", "calls", "()V"⟩, 48), (⟨"StepRewriterModel", "jumps", "(I)V"⟩, 48), (⟨"StepRewriterModel", "ofArrays", "(I)V"⟩, 48), (⟨"StepRewriterModel", "plain", "(I)V"⟩, 48), (⟨"StepRewriterModel", "caught", "()V"⟩, 48)]
theorem lw_r5 : ∀ q ∈ lw_privs_5, lw_okq q := List.forall_mem_cons.mpr ⟨lw_p64, List.forall_mem_cons.mpr ⟨lw_p65, List.forall_mem_cons.mpr ⟨lw_p66, List.forall_mem_cons.mpr ⟨lw_p67, List.forall_mem_cons.mpr ⟨lw_p68, List.forall_mem_cons.mpr ⟨lw_p69, List.forall_mem_cons.mpr ⟨lw_p70, List.forall_mem_cons.mpr ⟨lw_p71, List.forall_mem_cons.mpr ⟨lw_p72, List.forall_mem_cons.mpr ⟨lw_p73, List.forall_mem_cons.mpr ⟨lw_p74, List.forall_mem_cons.mpr ⟨lw_p75, List.forall_mem_cons.mpr ⟨lw_p76, fun _ h => absurd h List.not_mem_nil⟩⟩⟩⟩⟩⟩⟩⟩⟩⟩⟩⟩⟩
def lw_privs : List (MethodName × Nat) := lw_privs_1 ++ (lw_privs_2 ++ (lw_privs_3 ++ (lw_privs_4 ++ (lw_privs_5))))
def lw_tbl : List Cond := k2_sels lw_privs ++ tables_1
theorem lw_privs_ok : ∀ q ∈ lw_privs, lw_okq q := by
  show ∀ q ∈ lw_privs_1 ++ (lw_privs_2 ++ (lw_privs_3 ++ (lw_privs_4 ++ (lw_privs_5)))), lw_okq q
  exact List.forall_mem_append.mpr ⟨lw_r1, List.forall_mem_append.mpr ⟨lw_r2, List.forall_mem_append.mpr ⟨lw_r3, List.forall_mem_append.mpr ⟨lw_r4, lw_r5⟩⟩⟩⟩
-- ===== end of PART A; then your names; then what follows =====
end
section
/-! ===== BEGIN words of one list among another's, by their places ===== -/
theorem goodIn_r {big : List Cond} (ws : List Cond) (ps : List Nat) (hp : ws = ps.filterMap (fun i => big[i]?)) (h : ws.all goodWord = true) : GoodIn big ws := by
  intro w hw
  have h1 := List.all_eq_true.mp h w hw
  rw [hp] at hw
  obtain ⟨i, -, hi⟩ := List.mem_filterMap.mp hw
  have hm : w ∈ big := by first | exact List.mem_of_getElem? hi | exact List.getElem?_mem hi
  exact ⟨hm, good_of_word h1⟩
theorem goodIn_app {big a b : List Cond} (ha : GoodIn big a) (hb : GoodIn big b) : GoodIn big (a ++ b) := fun w h => (List.mem_append.mp h).elim (ha w) (hb w)
theorem goodIn_ca {big a b : List Cond} {c : Cond} (ha : GoodIn big (c :: a)) (hb : GoodIn big b) : GoodIn big (c :: (a ++ b)) := fun w h => (List.mem_cons.mp h).elim (fun e => ha w (List.mem_cons.mpr (Or.inl e))) (fun h => (List.mem_append.mp h).elim (fun h => ha w (List.mem_cons.mpr (Or.inr h))) (hb w))
theorem goodIn_sub {big ws : List Cond} (hm : ∀ w ∈ ws, w ∈ big) (h : ws.all goodWord = true) : GoodIn big ws := fun w hw => ⟨hm w hw, good_of_word (List.all_eq_true.mp h w hw)⟩
/-! ===== END ===== -/

/-! ===== BEGIN printed: names, fields, word lists, decode rows ===== -/
def RX0 : String := "StepRewriter$CodeSet"
def TX0 : u_T := fun k => match k with
  | 0 => ("StepRewriter$CodeSet", "row", "[I", true)
  | 1 => ("StepRewriter$CodeSet", "methods", "[LStepRewriter$Method;", true)
  | 2 => ("StepRewriter$CodeSet", "none", "LStepRewriter$Method;", true)
  | 3 => ("StepRewriter$CodeSet", "used", "I", false)
  | _ => ("StepRewriter$CodeSet", "count", "I", false)
def tyX0 : Nat → FieldType := fun k => match k with
  | 0 => .array .int
  | 1 => .array (.object "StepRewriter$Method")
  | 2 => .object "StepRewriter$Method"
  | 3 => .int
  | _ => .int
abbrev wsX00 : List Cond := u_ws RX0 TX0 5
theorem nmX0 : ∀ a, a < 5 → ∀ b, b < 5 → a ≠ b → (TX0 a).2.1 ≠ (TX0 b).2.1 := by decide +kernel
theorem tyX0_ok : ∀ k, k < 5 → parseFieldDescriptor (TX0 k).2.2.1 = some (tyX0 k) := by decide +kernel
abbrev cX0_init : ByteArray := prog_2_method_1_code
def yX0_init : MethodName := ⟨RX0, "<init>", "(I)V"⟩
abbrev cX0_empty : ByteArray := prog_2_method_2_code
def yX0_empty : MethodName := ⟨RX0, "empty", "()V"⟩
abbrev cX0_append : ByteArray := prog_2_method_3_code
def yX0_append : MethodName := ⟨RX0, "append", "(I)V"⟩
abbrev cX0_appendPair : ByteArray := prog_2_method_4_code
def yX0_appendPair : MethodName := ⟨RX0, "appendPair", "(I)V"⟩
abbrev cX0_valueAt : ByteArray := prog_2_method_5_code
def yX0_valueAt : MethodName := ⟨RX0, "valueAt", "(I)I"⟩
abbrev cX0_pairAt : ByteArray := prog_2_method_6_code
def yX0_pairAt : MethodName := ⟨RX0, "pairAt", "(I)I"⟩
abbrev cX0_has : ByteArray := prog_2_method_7_code
def yX0_has : MethodName := ⟨RX0, "has", "(I)Z"⟩
abbrev cX0_method : ByteArray := prog_2_method_8_code
def yX0_method : MethodName := ⟨RX0, "method", "(I)LStepRewriter$Method;"⟩
abbrev cX0_codeBytes : ByteArray := prog_2_method_9_code
def yX0_codeBytes : MethodName := ⟨RX0, "codeBytes", "()I"⟩
def RX1 : String := "StepRewriter$DepthCheck"
def TX1 : u_T := fun k => match k with
  | 0 => ("StepRewriter$DepthCheck", "depths", "[I", true)
  | 1 => ("StepRewriter$DepthCheck", "gone", "[I", true)
  | _ => ("StepRewriter$DepthCheck", "lowest", "I", false)
def tyX1 : Nat → FieldType := fun k => match k with
  | 0 => .array .int
  | 1 => .array .int
  | _ => .int
abbrev wsX10 : List Cond := u_ws RX1 TX1 3
theorem nmX1 : ∀ a, a < 3 → ∀ b, b < 3 → a ≠ b → (TX1 a).2.1 ≠ (TX1 b).2.1 := by decide +kernel
theorem tyX1_ok : ∀ k, k < 3 → parseFieldDescriptor (TX1 k).2.2.1 = some (tyX1 k) := by decide +kernel
abbrev cX1_init : ByteArray := prog_3_method_1_code
def yX1_init : MethodName := ⟨RX1, "<init>", "()V"⟩
abbrev cX1_firstWrong : ByteArray := prog_3_method_2_code
def yX1_firstWrong : MethodName := ⟨RX1, "firstWrong", "(LStepRewriter$CodeSet;)I"⟩
abbrev cX1_wrongPlace : ByteArray := prog_3_method_3_code
def yX1_wrongPlace : MethodName := ⟨RX1, "wrongPlace", "(LStepRewriter$CodeSet;LStepRewriter$Method;)I"⟩
abbrev cX1_findLowest : ByteArray := prog_3_method_4_code
def yX1_findLowest : MethodName := ⟨RX1, "findLowest", "(I)Z"⟩
abbrev cX1_goOn : ByteArray := prog_3_method_5_code
def yX1_goOn : MethodName := ⟨RX1, "goOn", "(LStepRewriter$CodeSet;LStepRewriter$Method;I)I"⟩
abbrev cX1_reach : ByteArray := prog_3_method_6_code
def yX1_reach : MethodName := ⟨RX1, "reach", "(II)I"⟩
abbrev cX1_greatest : ByteArray := prog_3_method_7_code
def yX1_greatest : MethodName := ⟨RX1, "greatest", "()I"⟩
def RX2 : String := "StepRewriter$FormCheck"
def TX2 : u_T := fun k => match k with
  | _ => ("StepRewriter$FormCheck", "depths", "LStepRewriter$DepthCheck;", true)
def tyX2 : Nat → FieldType := fun k => match k with
  | _ => .object "StepRewriter$DepthCheck"
abbrev wsX20 : List Cond := u_ws RX2 TX2 1
theorem nmX2 : ∀ a, a < 1 → ∀ b, b < 1 → a ≠ b → (TX2 a).2.1 ≠ (TX2 b).2.1 := by decide +kernel
theorem tyX2_ok : ∀ k, k < 1 → parseFieldDescriptor (TX2 k).2.2.1 = some (tyX2 k) := by decide +kernel
abbrev cX2_init : ByteArray := prog_4_method_1_code
def yX2_init : MethodName := ⟨RX2, "<init>", "()V"⟩
abbrev cX2_firstWrong : ByteArray := prog_4_method_2_code
def yX2_firstWrong : MethodName := ⟨RX2, "firstWrong", "(LStepRewriter$CodeSet;)I"⟩
abbrev cX2_endOf : ByteArray := prog_4_method_3_code
def yX2_endOf : MethodName := ⟨RX2, "endOf", "(LStepRewriter$Method;)I"⟩
abbrev cX2_handlerPlace : ByteArray := prog_4_method_4_code
def yX2_handlerPlace : MethodName := ⟨RX2, "handlerPlace", "(LStepRewriter$Method;I)I"⟩
abbrev cX2_wrongInMethod : ByteArray := prog_4_method_5_code
def yX2_wrongInMethod : MethodName := ⟨RX2, "wrongInMethod", "(LStepRewriter$CodeSet;LStepRewriter$Method;I)I"⟩
abbrev cX2_wrongNumber : ByteArray := prog_4_method_6_code
def yX2_wrongNumber : MethodName := ⟨RX2, "wrongNumber", "(LStepRewriter$CodeSet;LStepRewriter$Method;I)I"⟩
abbrev cX2_wrongHandlerCount : ByteArray := prog_4_method_7_code
def yX2_wrongHandlerCount : MethodName := ⟨RX2, "wrongHandlerCount", "(LStepRewriter$CodeSet;LStepRewriter$Method;)I"⟩
abbrev cX2_wrongInstruction : ByteArray := prog_4_method_8_code
def yX2_wrongInstruction : MethodName := ⟨RX2, "wrongInstruction", "(LStepRewriter$CodeSet;LStepRewriter$Method;)I"⟩
abbrev cX2_hasOperand : ByteArray := prog_4_method_9_code
def yX2_hasOperand : MethodName := ⟨RX2, "hasOperand", "(LStepRewriter$CodeSet;LStepRewriter$Method;I)Z"⟩
abbrev cX2_wrongHandler : ByteArray := prog_4_method_10_code
def yX2_wrongHandler : MethodName := ⟨RX2, "wrongHandler", "(LStepRewriter$CodeSet;LStepRewriter$Method;)I"⟩
abbrev cX2_wrongJump : ByteArray := prog_4_method_11_code
def yX2_wrongJump : MethodName := ⟨RX2, "wrongJump", "(LStepRewriter$Method;)I"⟩
abbrev cX2_markBlocks : ByteArray := prog_4_method_12_code
def yX2_markBlocks : MethodName := ⟨RX2, "markBlocks", "(LStepRewriter$Method;)V"⟩
def RX3 : String := "StepRewriter$Frame"
def TX3 : u_T := fun k => match k with
  | 0 => ("StepRewriter$Frame", "locals", "[I", true)
  | 1 => ("StepRewriter$Frame", "stack", "[I", true)
  | 2 => ("StepRewriter$Frame", "top", "I", false)
  | 3 => ("StepRewriter$Frame", "method", "LStepRewriter$Method;", false)
  | _ => ("StepRewriter$Frame", "place", "I", false)
def tyX3 : Nat → FieldType := fun k => match k with
  | 0 => .array .int
  | 1 => .array .int
  | 2 => .int
  | 3 => .object "StepRewriter$Method"
  | _ => .int
abbrev wsX30 : List Cond := u_ws RX3 TX3 5
theorem nmX3 : ∀ a, a < 5 → ∀ b, b < 5 → a ≠ b → (TX3 a).2.1 ≠ (TX3 b).2.1 := by decide +kernel
theorem tyX3_ok : ∀ k, k < 5 → parseFieldDescriptor (TX3 k).2.2.1 = some (tyX3 k) := by decide +kernel
abbrev cX3_init : ByteArray := prog_5_method_1_code
def yX3_init : MethodName := ⟨RX3, "<init>", "(LStepRewriter$Method;)V"⟩
abbrev cX3_begin : ByteArray := prog_5_method_2_code
def yX3_begin : MethodName := ⟨RX3, "begin", "(LStepRewriter$Method;)V"⟩
abbrev cX3_kind : ByteArray := prog_5_method_3_code
def yX3_kind : MethodName := ⟨RX3, "kind", "()I"⟩
abbrev cX3_operand : ByteArray := prog_5_method_4_code
def yX3_operand : MethodName := ⟨RX3, "operand", "()I"⟩
abbrev cX3_push : ByteArray := prog_5_method_5_code
def yX3_push : MethodName := ⟨RX3, "push", "(I)V"⟩
abbrev cX3_pop : ByteArray := prog_5_method_6_code
def yX3_pop : MethodName := ⟨RX3, "pop", "()I"⟩
abbrev cX3_peek : ByteArray := prog_5_method_7_code
def yX3_peek : MethodName := ⟨RX3, "peek", "()I"⟩
abbrev cX3_local : ByteArray := prog_5_method_8_code
def yX3_local : MethodName := ⟨RX3, "local", "(I)I"⟩
abbrev cX3_setLocal : ByteArray := prog_5_method_9_code
def yX3_setLocal : MethodName := ⟨RX3, "setLocal", "(II)V"⟩
abbrev cX3_goOnWith : ByteArray := prog_5_method_10_code
def yX3_goOnWith : MethodName := ⟨RX3, "goOnWith", "(II)V"⟩
def RX4 : String := "StepRewriter$Kind"
def TX4 : u_T := fun k => match k with
  | _ => ("", "", "", false)
def tyX4 : Nat → FieldType := fun k => match k with
  | _ => .int
abbrev wsX40 : List Cond := u_ws RX4 TX4 0
theorem nmX4 : ∀ a, a < 0 → ∀ b, b < 0 → a ≠ b → (TX4 a).2.1 ≠ (TX4 b).2.1 := by decide +kernel
theorem tyX4_ok : ∀ k, k < 0 → parseFieldDescriptor (TX4 k).2.2.1 = some (tyX4 k) := by decide +kernel
abbrev cX4_sizeOf : ByteArray := prog_6_method_2_code
def yX4_sizeOf : MethodName := ⟨RX4, "sizeOf", "(I)I"⟩
abbrev cX4_isBranch : ByteArray := prog_6_method_3_code
def yX4_isBranch : MethodName := ⟨RX4, "isBranch", "(I)Z"⟩
abbrev cX4_isJump : ByteArray := prog_6_method_4_code
def yX4_isJump : MethodName := ⟨RX4, "isJump", "(I)Z"⟩
abbrev cX4_endsWay : ByteArray := prog_6_method_5_code
def yX4_endsWay : MethodName := ⟨RX4, "endsWay", "(I)Z"⟩
abbrev cX4_isOfArray : ByteArray := prog_6_method_6_code
def yX4_isOfArray : MethodName := ⟨RX4, "isOfArray", "(I)Z"⟩
abbrev cX4_isOfTwo : ByteArray := prog_6_method_7_code
def yX4_isOfTwo : MethodName := ⟨RX4, "isOfTwo", "(I)Z"⟩
abbrev cX4_takes : ByteArray := prog_6_method_8_code
def yX4_takes : MethodName := ⟨RX4, "takes", "(I)I"⟩
abbrev cX4_gives : ByteArray := prog_6_method_9_code
def yX4_gives : MethodName := ⟨RX4, "gives", "(I)I"⟩
abbrev cX4_opposite : ByteArray := prog_6_method_10_code
def yX4_opposite : MethodName := ⟨RX4, "opposite", "(I)I"⟩
abbrev cX4_isTaken : ByteArray := prog_6_method_11_code
def yX4_isTaken : MethodName := ⟨RX4, "isTaken", "(II)Z"⟩
def RX5 : String := "StepRewriter$Layout"
def TX5 : u_T := fun k => match k with
  | 0 => ("StepRewriter$Layout", "sums", "[I", true)
  | 1 => ("StepRewriter$Layout", "places", "[I", true)
  | 2 => ("StepRewriter$Layout", "ways", "[I", true)
  | 3 => ("StepRewriter$Layout", "longs", "[I", true)
  | _ => ("StepRewriter$Layout", "paying", "Z", false)
def tyX5 : Nat → FieldType := fun k => match k with
  | 0 => .array .int
  | 1 => .array .int
  | 2 => .array .int
  | 3 => .array .int
  | _ => .boolean
abbrev wsX50 : List Cond := u_ws RX5 TX5 5
theorem nmX5 : ∀ a, a < 5 → ∀ b, b < 5 → a ≠ b → (TX5 a).2.1 ≠ (TX5 b).2.1 := by decide +kernel
theorem tyX5_ok : ∀ k, k < 5 → parseFieldDescriptor (TX5 k).2.2.1 = some (tyX5 k) := by decide +kernel
abbrev cX5_init : ByteArray := prog_7_method_1_code
def yX5_init : MethodName := ⟨RX5, "<init>", "()V"⟩
abbrev cX5_plan : ByteArray := prog_7_method_2_code
def yX5_plan : MethodName := ⟨RX5, "plan", "(LStepRewriter$Method;LStepRewriter$Prices;Z)I"⟩
abbrev cX5_write : ByteArray := prog_7_method_3_code
def yX5_write : MethodName := ⟨RX5, "write", "(LStepRewriter$Method;LStepRewriter$CodeSet;LStepRewriter$Method;)V"⟩
abbrev cX5_takeSums : ByteArray := prog_7_method_4_code
def yX5_takeSums : MethodName := ⟨RX5, "takeSums", "(LStepRewriter$Method;LStepRewriter$Prices;)V"⟩
abbrev cX5_placeAll : ByteArray := prog_7_method_5_code
def yX5_placeAll : MethodName := ⟨RX5, "placeAll", "(LStepRewriter$Method;)I"⟩
abbrev cX5_lengthen : ByteArray := prog_7_method_6_code
def yX5_lengthen : MethodName := ⟨RX5, "lengthen", "(LStepRewriter$Method;)Z"⟩
abbrev cX5_isLong : ByteArray := prog_7_method_7_code
def yX5_isLong : MethodName := ⟨RX5, "isLong", "(I)Z"⟩
abbrev cX5_paysTop : ByteArray := prog_7_method_8_code
def yX5_paysTop : MethodName := ⟨RX5, "paysTop", "(LStepRewriter$Method;I)Z"⟩
abbrev cX5_bytesAhead : ByteArray := prog_7_method_9_code
def yX5_bytesAhead : MethodName := ⟨RX5, "bytesAhead", "(LStepRewriter$Method;I)I"⟩
abbrev cX5_sumBytes : ByteArray := prog_7_method_10_code
def yX5_sumBytes : MethodName := ⟨RX5, "sumBytes", "(I)I"⟩
abbrev cX5_bytesOf : ByteArray := prog_7_method_11_code
def yX5_bytesOf : MethodName := ⟨RX5, "bytesOf", "(LStepRewriter$Method;I)I"⟩
abbrev cX5_wayOf : ByteArray := prog_7_method_12_code
def yX5_wayOf : MethodName := ⟨RX5, "wayOf", "(LStepRewriter$Method;I)I"⟩
abbrev cX5_writeInstruction : ByteArray := prog_7_method_13_code
def yX5_writeInstruction : MethodName := ⟨RX5, "writeInstruction", "(LStepRewriter$Method;ILStepRewriter$CodeSet;LStepRewriter$Method;)V"⟩
abbrev cX5_writeJump : ByteArray := prog_7_method_14_code
def yX5_writeJump : MethodName := ⟨RX5, "writeJump", "(LStepRewriter$Method;ILStepRewriter$CodeSet;LStepRewriter$Method;)V"⟩
abbrev cX5_moveHandlers : ByteArray := prog_7_method_15_code
def yX5_moveHandlers : MethodName := ⟨RX5, "moveHandlers", "(LStepRewriter$Method;LStepRewriter$Method;)V"⟩
def RX6 : String := "StepRewriter$Machine"
def TX6 : u_T := fun k => match k with
  | 0 => ("StepRewriter$Machine", "set", "LStepRewriter$CodeSet;", true)
  | 1 => ("StepRewriter$Machine", "frames", "[LStepRewriter$Frame;", true)
  | 2 => ("StepRewriter$Machine", "arrays", "LStepRewriter$RunArrays;", true)
  | 3 => ("StepRewriter$Machine", "underWay", "I", false)
  | 4 => ("StepRewriter$Machine", "limit", "I", false)
  | 5 => ("StepRewriter$Machine", "result", "I", false)
  | 6 => ("StepRewriter$Machine", "paid", "I", false)
  | _ => ("StepRewriter$Machine", "done", "I", false)
def tyX6 : Nat → FieldType := fun k => match k with
  | 0 => .object "StepRewriter$CodeSet"
  | 1 => .array (.object "StepRewriter$Frame")
  | 2 => .object "StepRewriter$RunArrays"
  | 3 => .int
  | 4 => .int
  | 5 => .int
  | 6 => .int
  | _ => .int
abbrev wsX60 : List Cond := u_ws RX6 TX6 8
theorem nmX6 : ∀ a, a < 8 → ∀ b, b < 8 → a ≠ b → (TX6 a).2.1 ≠ (TX6 b).2.1 := by decide +kernel
theorem tyX6_ok : ∀ k, k < 8 → parseFieldDescriptor (TX6 k).2.2.1 = some (tyX6 k) := by decide +kernel
abbrev cX6_init : ByteArray := prog_8_method_1_code
def yX6_init : MethodName := ⟨RX6, "<init>", "(LStepRewriter$CodeSet;)V"⟩
abbrev cX6_forget : ByteArray := prog_8_method_2_code
def yX6_forget : MethodName := ⟨RX6, "forget", "()V"⟩
abbrev cX6_perform : ByteArray := prog_8_method_3_code
def yX6_perform : MethodName := ⟨RX6, "perform", "(IIII)I"⟩
abbrev cX6_frame : ByteArray := prog_8_method_4_code
def yX6_frame : MethodName := ⟨RX6, "frame", "(I)LStepRewriter$Frame;"⟩
abbrev cX6_goOn : ByteArray := prog_8_method_5_code
def yX6_goOn : MethodName := ⟨RX6, "goOn", "(LStepRewriter$Frame;)I"⟩
abbrev cX6_pay : ByteArray := prog_8_method_6_code
def yX6_pay : MethodName := ⟨RX6, "pay", "(LStepRewriter$Frame;II)I"⟩
abbrev cX6_call : ByteArray := prog_8_method_7_code
def yX6_call : MethodName := ⟨RX6, "call", "(LStepRewriter$Frame;)I"⟩
abbrev cX6_leave : ByteArray := prog_8_method_8_code
def yX6_leave : MethodName := ⟨RX6, "leave", "(I)I"⟩
abbrev cX6_raise : ByteArray := prog_8_method_9_code
def yX6_raise : MethodName := ⟨RX6, "raise", "(I)I"⟩
abbrev cX6_jump : ByteArray := prog_8_method_10_code
def yX6_jump : MethodName := ⟨RX6, "jump", "(LStepRewriter$Frame;I)I"⟩
abbrev cX6_act : ByteArray := prog_8_method_11_code
def yX6_act : MethodName := ⟨RX6, "act", "(LStepRewriter$Frame;I)I"⟩
abbrev cX6_actOnArray : ByteArray := prog_8_method_12_code
def yX6_actOnArray : MethodName := ⟨RX6, "actOnArray", "(LStepRewriter$Frame;I)I"⟩
abbrev cX6_actOnTwo : ByteArray := prog_8_method_13_code
def yX6_actOnTwo : MethodName := ⟨RX6, "actOnTwo", "(LStepRewriter$Frame;I)I"⟩
abbrev cX6_joined : ByteArray := prog_8_method_14_code
def yX6_joined : MethodName := ⟨RX6, "joined", "(III)I"⟩
def RX7 : String := "StepRewriter$Method"
def TX7 : u_T := fun k => match k with
  | 0 => ("StepRewriter$Method", "row", "[I", true)
  | 1 => ("StepRewriter$Method", "table", "[I", true)
  | 2 => ("StepRewriter$Method", "codeAt", "I", false)
  | 3 => ("StepRewriter$Method", "length", "I", false)
  | 4 => ("StepRewriter$Method", "parameters", "I", false)
  | 5 => ("StepRewriter$Method", "locals", "I", false)
  | 6 => ("StepRewriter$Method", "handlers", "I", false)
  | 7 => ("StepRewriter$Method", "blocks", "I", false)
  | 8 => ("StepRewriter$Method", "longBranches", "I", false)
  | 9 => ("StepRewriter$Method", "longJumps", "I", false)
  | _ => ("StepRewriter$Method", "deepest", "I", false)
def tyX7 : Nat → FieldType := fun k => match k with
  | 0 => .array .int
  | 1 => .array .int
  | 2 => .int
  | 3 => .int
  | 4 => .int
  | 5 => .int
  | 6 => .int
  | 7 => .int
  | 8 => .int
  | 9 => .int
  | _ => .int
abbrev wsX70 : List Cond := u_ws RX7 TX7 11
theorem nmX7 : ∀ a, a < 11 → ∀ b, b < 11 → a ≠ b → (TX7 a).2.1 ≠ (TX7 b).2.1 := by decide +kernel
theorem tyX7_ok : ∀ k, k < 11 → parseFieldDescriptor (TX7 k).2.2.1 = some (tyX7 k) := by decide +kernel
abbrev cX7_init : ByteArray := prog_9_method_1_code
def yX7_init : MethodName := ⟨RX7, "<init>", "([I)V"⟩
abbrev cX7_empty : ByteArray := prog_9_method_2_code
def yX7_empty : MethodName := ⟨RX7, "empty", "()V"⟩
abbrev cX7_hasPlace : ByteArray := prog_9_method_3_code
def yX7_hasPlace : MethodName := ⟨RX7, "hasPlace", "(I)Z"⟩
abbrev cX7_valueAt : ByteArray := prog_9_method_4_code
def yX7_valueAt : MethodName := ⟨RX7, "valueAt", "(I)I"⟩
abbrev cX7_pairAt : ByteArray := prog_9_method_5_code
def yX7_pairAt : MethodName := ⟨RX7, "pairAt", "(I)I"⟩
abbrev cX7_fourAt : ByteArray := prog_9_method_6_code
def yX7_fourAt : MethodName := ⟨RX7, "fourAt", "(I)I"⟩
abbrev cX7_begins : ByteArray := prog_9_method_7_code
def yX7_begins : MethodName := ⟨RX7, "begins", "(I)Z"⟩
abbrev cX7_beginsBlock : ByteArray := prog_9_method_8_code
def yX7_beginsBlock : MethodName := ⟨RX7, "beginsBlock", "(I)Z"⟩
abbrev cX7_mark : ByteArray := prog_9_method_9_code
def yX7_mark : MethodName := ⟨RX7, "mark", "(II)V"⟩
abbrev cX7_jumpsAt : ByteArray := prog_9_method_10_code
def yX7_jumpsAt : MethodName := ⟨RX7, "jumpsAt", "(I)Z"⟩
abbrev cX7_sizeAt : ByteArray := prog_9_method_11_code
def yX7_sizeAt : MethodName := ⟨RX7, "sizeAt", "(I)I"⟩
abbrev cX7_targetOf : ByteArray := prog_9_method_12_code
def yX7_targetOf : MethodName := ⟨RX7, "targetOf", "(I)I"⟩
abbrev cX7_handlerNumber : ByteArray := prog_9_method_13_code
def yX7_handlerNumber : MethodName := ⟨RX7, "handlerNumber", "(II)I"⟩
abbrev cX7_setHandlerNumber : ByteArray := prog_9_method_14_code
def yX7_setHandlerNumber : MethodName := ⟨RX7, "setHandlerNumber", "(III)V"⟩
abbrev cX7_blockBegin : ByteArray := prog_9_method_15_code
def yX7_blockBegin : MethodName := ⟨RX7, "blockBegin", "(I)I"⟩
abbrev cX7_sumFrom : ByteArray := prog_9_method_16_code
def yX7_sumFrom : MethodName := ⟨RX7, "sumFrom", "(ILStepRewriter$Prices;)I"⟩
abbrev cX7_handlerFor : ByteArray := prog_9_method_17_code
def yX7_handlerFor : MethodName := ⟨RX7, "handlerFor", "(II)I"⟩
def RX8 : String := "StepRewriter$Prices"
def TX8 : u_T := fun k => match k with
  | _ => ("StepRewriter$Prices", "row", "[I", true)
def tyX8 : Nat → FieldType := fun k => match k with
  | _ => .array .int
abbrev wsX80 : List Cond := u_ws RX8 TX8 1
theorem nmX8 : ∀ a, a < 1 → ∀ b, b < 1 → a ≠ b → (TX8 a).2.1 ≠ (TX8 b).2.1 := by decide +kernel
theorem tyX8_ok : ∀ k, k < 1 → parseFieldDescriptor (TX8 k).2.2.1 = some (tyX8 k) := by decide +kernel
abbrev cX8_init : ByteArray := prog_10_method_1_code
def yX8_init : MethodName := ⟨RX8, "<init>", "()V"⟩
abbrev cX8_becomeFirst : ByteArray := prog_10_method_2_code
def yX8_becomeFirst : MethodName := ⟨RX8, "becomeFirst", "()V"⟩
abbrev cX8_of : ByteArray := prog_10_method_3_code
def yX8_of : MethodName := ⟨RX8, "of", "(I)I"⟩
abbrev cX8_become : ByteArray := prog_10_method_4_code
def yX8_become : MethodName := ⟨RX8, "become", "(II)V"⟩
def RX9 : String := "StepRewriter$Rows"
def TX9 : u_T := fun k => match k with
  | _ => ("", "", "", false)
def tyX9 : Nat → FieldType := fun k => match k with
  | _ => .int
abbrev wsX90 : List Cond := u_ws RX9 TX9 0
theorem nmX9 : ∀ a, a < 0 → ∀ b, b < 0 → a ≠ b → (TX9 a).2.1 ≠ (TX9 b).2.1 := by decide +kernel
theorem tyX9_ok : ∀ k, k < 0 → parseFieldDescriptor (TX9 k).2.2.1 = some (tyX9 k) := by decide +kernel
abbrev cX9_at : ByteArray := prog_11_method_2_code
def yX9_at : MethodName := ⟨RX9, "at", "([II)I"⟩
abbrev cX9_put : ByteArray := prog_11_method_3_code
def yX9_put : MethodName := ⟨RX9, "put", "([III)V"⟩
def RX10 : String := "StepRewriter$RunArrays"
def TX10 : u_T := fun k => match k with
  | 0 => ("StepRewriter$RunArrays", "sizes", "[I", true)
  | _ => ("StepRewriter$RunArrays", "elements", "[I", true)
def tyX10 : Nat → FieldType := fun k => match k with
  | 0 => .array .int
  | _ => .array .int
abbrev wsX100 : List Cond := u_ws RX10 TX10 2
theorem nmX10 : ∀ a, a < 2 → ∀ b, b < 2 → a ≠ b → (TX10 a).2.1 ≠ (TX10 b).2.1 := by decide +kernel
theorem tyX10_ok : ∀ k, k < 2 → parseFieldDescriptor (TX10 k).2.2.1 = some (tyX10 k) := by decide +kernel
abbrev cX10_init : ByteArray := prog_12_method_1_code
def yX10_init : MethodName := ⟨RX10, "<init>", "()V"⟩
abbrev cX10_empty : ByteArray := prog_12_method_2_code
def yX10_empty : MethodName := ⟨RX10, "empty", "()V"⟩
abbrev cX10_make : ByteArray := prog_12_method_3_code
def yX10_make : MethodName := ⟨RX10, "make", "(II)I"⟩
abbrev cX10_sizeOf : ByteArray := prog_12_method_4_code
def yX10_sizeOf : MethodName := ⟨RX10, "sizeOf", "(I)I"⟩
abbrev cX10_has : ByteArray := prog_12_method_5_code
def yX10_has : MethodName := ⟨RX10, "has", "(II)Z"⟩
abbrev cX10_get : ByteArray := prog_12_method_6_code
def yX10_get : MethodName := ⟨RX10, "get", "(II)I"⟩
abbrev cX10_put : ByteArray := prog_12_method_7_code
def yX10_put : MethodName := ⟨RX10, "put", "(III)V"⟩
def RX11 : String := "StepRewriter"
def TX11 : u_T := fun k => match k with
  | 0 => ("StepRewriter", "tape", "LStepRewriter$CodeSet;", false)
  | 1 => ("StepRewriter", "file", "LStepRewriter$CodeSet;", false)
  | 2 => ("StepRewriter", "spare", "LStepRewriter$CodeSet;", false)
  | 3 => ("StepRewriter", "rewritten", "LStepRewriter$CodeSet;", true)
  | 4 => ("StepRewriter", "prices", "LStepRewriter$Prices;", true)
  | 5 => ("StepRewriter", "check", "LStepRewriter$FormCheck;", true)
  | 6 => ("StepRewriter", "layout", "LStepRewriter$Layout;", true)
  | _ => ("StepRewriter", "machine", "LStepRewriter$Machine;", true)
def tyX11 : Nat → FieldType := fun k => match k with
  | 0 => .object "StepRewriter$CodeSet"
  | 1 => .object "StepRewriter$CodeSet"
  | 2 => .object "StepRewriter$CodeSet"
  | 3 => .object "StepRewriter$CodeSet"
  | 4 => .object "StepRewriter$Prices"
  | 5 => .object "StepRewriter$FormCheck"
  | 6 => .object "StepRewriter$Layout"
  | _ => .object "StepRewriter$Machine"
abbrev wsX110 : List Cond := u_ws RX11 TX11 8
theorem nmX11 : ∀ a, a < 8 → ∀ b, b < 8 → a ≠ b → (TX11 a).2.1 ≠ (TX11 b).2.1 := by decide +kernel
theorem tyX11_ok : ∀ k, k < 8 → parseFieldDescriptor (TX11 k).2.2.1 = some (tyX11 k) := by decide +kernel
abbrev cX11_init : ByteArray := prog_1_method_1_code
def yX11_init : MethodName := ⟨RX11, "<init>", "()V"⟩
abbrev cX11_feed : ByteArray := prog_1_method_2_code
def yX11_feed : MethodName := ⟨RX11, "feed", "(JI)I"⟩
abbrev cX11_load : ByteArray := prog_1_method_3_code
def yX11_load : MethodName := ⟨RX11, "load", "()I"⟩
abbrev cX11_price : ByteArray := prog_1_method_4_code
def yX11_price : MethodName := ⟨RX11, "price", "(II)I"⟩
abbrev cX11_rewrite : ByteArray := prog_1_method_5_code
def yX11_rewrite : MethodName := ⟨RX11, "rewrite", "()I"⟩
abbrev cX11_told : ByteArray := prog_1_method_6_code
def yX11_told : MethodName := ⟨RX11, "told", "(IZI)I"⟩
abbrev cX11_byteAt : ByteArray := prog_1_method_7_code
def yX11_byteAt : MethodName := ⟨RX11, "byteAt", "(IZI)I"⟩
abbrev cX11_handler : ByteArray := prog_1_method_8_code
def yX11_handler : MethodName := ⟨RX11, "handler", "(IZII)I"⟩
abbrev cX11_block : ByteArray := prog_1_method_9_code
def yX11_block : MethodName := ⟨RX11, "block", "(III)I"⟩
abbrev cX11_run : ByteArray := prog_1_method_10_code
def yX11_run : MethodName := ⟨RX11, "run", "(IIII)I"⟩
abbrev cX11_answer : ByteArray := prog_1_method_11_code
def yX11_answer : MethodName := ⟨RX11, "answer", "()I"⟩
abbrev cX11_counted : ByteArray := prog_1_method_12_code
def yX11_counted : MethodName := ⟨RX11, "counted", "()I"⟩
abbrev cX11_steps : ByteArray := prog_1_method_13_code
def yX11_steps : MethodName := ⟨RX11, "steps", "()I"⟩
abbrev cX11_element : ByteArray := prog_1_method_14_code
def yX11_element : MethodName := ⟨RX11, "element", "(II)I"⟩
abbrev cX11_unwrite : ByteArray := prog_1_method_15_code
def yX11_unwrite : MethodName := ⟨RX11, "unwrite", "()I"⟩
abbrev cX11_clear : ByteArray := prog_1_method_16_code
def yX11_clear : MethodName := ⟨RX11, "clear", "()V"⟩
abbrev cX11_unwriteMethod : ByteArray := prog_1_method_17_code
def yX11_unwriteMethod : MethodName := ⟨RX11, "unwriteMethod", "(LStepRewriter$Method;LStepRewriter$Method;)V"⟩
def RX12 : String := "StepRewriterModel"
def TX12 : u_T := fun k => match k with
  | 0 => ("StepRewriterModel", "thrown", "I", false)
  | 1 => ("StepRewriterModel", "tape", "[I", true)
  | 2 => ("StepRewriterModel", "taped", "I", false)
  | 3 => ("StepRewriterModel", "hasFile", "Z", false)
  | 4 => ("StepRewriterModel", "methods", "I", false)
  | 5 => ("StepRewriterModel", "parameters", "[I", true)
  | 6 => ("StepRewriterModel", "locals", "[I", true)
  | 7 => ("StepRewriterModel", "sizes", "[I", true)
  | 8 => ("StepRewriterModel", "handlers", "[I", true)
  | 9 => ("StepRewriterModel", "rows", "[I", true)
  | 10 => ("StepRewriterModel", "code", "[I", true)
  | 11 => ("StepRewriterModel", "begins", "[Z", true)
  | 12 => ("StepRewriterModel", "blocks", "[Z", true)
  | 13 => ("StepRewriterModel", "depths", "[I", true)
  | 14 => ("StepRewriterModel", "gone", "[Z", true)
  | 15 => ("StepRewriterModel", "nextParameters", "[I", true)
  | 16 => ("StepRewriterModel", "nextLocals", "[I", true)
  | 17 => ("StepRewriterModel", "nextSizes", "[I", true)
  | 18 => ("StepRewriterModel", "nextBases", "[I", true)
  | 19 => ("StepRewriterModel", "nextHandlers", "[I", true)
  | 20 => ("StepRewriterModel", "nextRows", "[I", true)
  | 21 => ("StepRewriterModel", "nextCode", "[I", true)
  | 22 => ("StepRewriterModel", "isRewritten", "Z", false)
  | 23 => ("StepRewriterModel", "written", "[I", true)
  | 24 => ("StepRewriterModel", "writtenSizes", "[I", true)
  | 25 => ("StepRewriterModel", "writtenRows", "[I", true)
  | 26 => ("StepRewriterModel", "longs", "[I", true)
  | 27 => ("StepRewriterModel", "starts", "[I", true)
  | 28 => ("StepRewriterModel", "places", "[I", true)
  | 29 => ("StepRewriterModel", "far", "[Z", true)
  | 30 => ("StepRewriterModel", "laid", "[I", true)
  | 31 => ("StepRewriterModel", "laidLongs", "I", false)
  | 32 => ("StepRewriterModel", "prices", "[I", true)
  | 33 => ("StepRewriterModel", "at", "I", false)
  | 34 => ("StepRewriterModel", "sizesOf", "[I", true)
  | 35 => ("StepRewriterModel", "arrays", "[I", true)
  | 36 => ("StepRewriterModel", "answer", "I", false)
  | 37 => ("StepRewriterModel", "counted", "I", false)
  | 38 => ("StepRewriterModel", "steps", "I", false)
  | 39 => ("StepRewriterModel", "left", "I", false)
  | 40 => ("StepRewriterModel", "deep", "I", false)
  | 41 => ("StepRewriterModel", "frameMethod", "[I", true)
  | 42 => ("StepRewriterModel", "framePlace", "[I", true)
  | 43 => ("StepRewriterModel", "frameDepth", "[I", true)
  | 44 => ("StepRewriterModel", "stacked", "[I", true)
  | 45 => ("StepRewriterModel", "local", "[I", true)
  | 46 => ("StepRewriterModel", "isStopped", "Z", false)
  | _ => ("StepRewriterModel", "kindThrown", "I", false)
def tyX12 : Nat → FieldType := fun k => match k with
  | 0 => .int
  | 1 => .array .int
  | 2 => .int
  | 3 => .boolean
  | 4 => .int
  | 5 => .array .int
  | 6 => .array .int
  | 7 => .array .int
  | 8 => .array .int
  | 9 => .array .int
  | 10 => .array .int
  | 11 => .array .boolean
  | 12 => .array .boolean
  | 13 => .array .int
  | 14 => .array .boolean
  | 15 => .array .int
  | 16 => .array .int
  | 17 => .array .int
  | 18 => .array .int
  | 19 => .array .int
  | 20 => .array .int
  | 21 => .array .int
  | 22 => .boolean
  | 23 => .array .int
  | 24 => .array .int
  | 25 => .array .int
  | 26 => .array .int
  | 27 => .array .int
  | 28 => .array .int
  | 29 => .array .boolean
  | 30 => .array .int
  | 31 => .int
  | 32 => .array .int
  | 33 => .int
  | 34 => .array .int
  | 35 => .array .int
  | 36 => .int
  | 37 => .int
  | 38 => .int
  | 39 => .int
  | 40 => .int
  | 41 => .array .int
  | 42 => .array .int
  | 43 => .array .int
  | 44 => .array .int
  | 45 => .array .int
  | 46 => .boolean
  | _ => .int
abbrev wsX120 : List Cond := u_ws RX12 TX12 48
theorem nmX12 : ∀ a, a < 48 → ∀ b, b < 48 → a ≠ b → (TX12 a).2.1 ≠ (TX12 b).2.1 := by decide +kernel
theorem tyX12_ok : ∀ k, k < 48 → parseFieldDescriptor (TX12 k).2.2.1 = some (tyX12 k) := by decide +kernel
abbrev cX12_init : ByteArray := prog_14_method_2_code
def yX12_init : MethodName := ⟨RX12, "<init>", "()V"⟩
abbrev cX12_begin : ByteArray := prog_14_method_3_code
def yX12_begin : MethodName := ⟨RX12, "begin", "()V"⟩
abbrev cX12_size : ByteArray := prog_14_method_4_code
def yX12_size : MethodName := ⟨RX12, "size", "(I)I"⟩
abbrev cX12_isKind : ByteArray := prog_14_method_5_code
def yX12_isKind : MethodName := ⟨RX12, "isKind", "(I)Z"⟩
abbrev cX12_isJump : ByteArray := prog_14_method_6_code
def yX12_isJump : MethodName := ⟨RX12, "isJump", "(I)Z"⟩
abbrev cX12_feed : ByteArray := prog_14_method_7_code
def yX12_feed : MethodName := ⟨RX12, "feed", "(JI)I"⟩
abbrev cX12_one : ByteArray := prog_14_method_8_code
def yX12_one : MethodName := ⟨RX12, "one", "()I"⟩
abbrev cX12_two : ByteArray := prog_14_method_9_code
def yX12_two : MethodName := ⟨RX12, "two", "()I"⟩
abbrev cX12_wrong : ByteArray := prog_14_method_10_code
def yX12_wrong : MethodName := ⟨RX12, "wrong", "(I)I"⟩
abbrev cX12_signed : ByteArray := prog_14_method_11_code
def yX12_signed : MethodName := ⟨RX12, "signed", "(I)I"⟩
abbrev cX12_signedTwo : ByteArray := prog_14_method_12_code
def yX12_signedTwo : MethodName := ⟨RX12, "signedTwo", "(I)I"⟩
abbrev cX12_target : ByteArray := prog_14_method_13_code
def yX12_target : MethodName := ⟨RX12, "target", "(IIII)I"⟩
abbrev cX12_read : ByteArray := prog_14_method_14_code
def yX12_read : MethodName := ⟨RX12, "read", "()I"⟩
abbrev cX12_readMethod : ByteArray := prog_14_method_15_code
def yX12_readMethod : MethodName := ⟨RX12, "readMethod", "(II)I"⟩
abbrev cX12_isBegin : ByteArray := prog_14_method_16_code
def yX12_isBegin : MethodName := ⟨RX12, "isBegin", "(II)Z"⟩
abbrev cX12_instructions : ByteArray := prog_14_method_17_code
def yX12_instructions : MethodName := ⟨RX12, "instructions", "(II)I"⟩
abbrev cX12_takes : ByteArray := prog_14_method_18_code
def yX12_takes : MethodName := ⟨RX12, "takes", "(II)I"⟩
abbrev cX12_gives : ByteArray := prog_14_method_19_code
def yX12_gives : MethodName := ⟨RX12, "gives", "(I)I"⟩
abbrev cX12_stacks : ByteArray := prog_14_method_20_code
def yX12_stacks : MethodName := ⟨RX12, "stacks", "(I)I"⟩
abbrev cX12_goesOn : ByteArray := prog_14_method_21_code
def yX12_goesOn : MethodName := ⟨RX12, "goesOn", "(II)I"⟩
abbrev cX12_comes : ByteArray := prog_14_method_22_code
def yX12_comes : MethodName := ⟨RX12, "comes", "(III)Z"⟩
abbrev cX12_keep : ByteArray := prog_14_method_23_code
def yX12_keep : MethodName := ⟨RX12, "keep", "()V"⟩
abbrev cX12_load : ByteArray := prog_14_method_24_code
def yX12_load : MethodName := ⟨RX12, "load", "()I"⟩
abbrev cX12_price : ByteArray := prog_14_method_25_code
def yX12_price : MethodName := ⟨RX12, "price", "(II)I"⟩
abbrev cX12_kindAt : ByteArray := prog_14_method_26_code
def yX12_kindAt : MethodName := ⟨RX12, "kindAt", "(II)I"⟩
abbrev cX12_leads : ByteArray := prog_14_method_27_code
def yX12_leads : MethodName := ⟨RX12, "leads", "(II)I"⟩
abbrev cX12_mark : ByteArray := prog_14_method_28_code
def yX12_mark : MethodName := ⟨RX12, "mark", "(I)V"⟩
abbrev cX12_sum : ByteArray := prog_14_method_29_code
def yX12_sum : MethodName := ⟨RX12, "sum", "(II)I"⟩
abbrev cX12_countBlocks : ByteArray := prog_14_method_30_code
def yX12_countBlocks : MethodName := ⟨RX12, "countBlocks", "(I)I"⟩
abbrev cX12_block : ByteArray := prog_14_method_31_code
def yX12_block : MethodName := ⟨RX12, "block", "(III)I"⟩
abbrev cX12_fits : ByteArray := prog_14_method_32_code
def yX12_fits : MethodName := ⟨RX12, "fits", "(I)Z"⟩
abbrev cX12_paidAt : ByteArray := prog_14_method_33_code
def yX12_paidAt : MethodName := ⟨RX12, "paidAt", "(IIZ)I"⟩
abbrev cX12_lay : ByteArray := prog_14_method_34_code
def yX12_lay : MethodName := ⟨RX12, "lay", "(IZ)I"⟩
abbrev cX12_put : ByteArray := prog_14_method_35_code
def yX12_put : MethodName := ⟨RX12, "put", "(IZ)V"⟩
abbrev cX12_putJump : ByteArray := prog_14_method_36_code
def yX12_putJump : MethodName := ⟨RX12, "putJump", "(III)V"⟩
abbrev cX12_rewrite : ByteArray := prog_14_method_37_code
def yX12_rewrite : MethodName := ⟨RX12, "rewrite", "()I"⟩
abbrev cX12_deepest : ByteArray := prog_14_method_38_code
def yX12_deepest : MethodName := ⟨RX12, "deepest", "(I)I"⟩
abbrev cX12_longJumps : ByteArray := prog_14_method_39_code
def yX12_longJumps : MethodName := ⟨RX12, "longJumps", "(IZ)I"⟩
abbrev cX12_told : ByteArray := prog_14_method_40_code
def yX12_told : MethodName := ⟨RX12, "told", "(IZI)I"⟩
abbrev cX12_byteAt : ByteArray := prog_14_method_41_code
def yX12_byteAt : MethodName := ⟨RX12, "byteAt", "(IZI)I"⟩
abbrev cX12_handler : ByteArray := prog_14_method_42_code
def yX12_handler : MethodName := ⟨RX12, "handler", "(IZII)I"⟩
abbrev cX12_unwrite : ByteArray := prog_14_method_43_code
def yX12_unwrite : MethodName := ⟨RX12, "unwrite", "()I"⟩
abbrev cX12_pays : ByteArray := prog_14_method_44_code
def yX12_pays : MethodName := ⟨RX12, "pays", "(I)Z"⟩
abbrev cX12_enter : ByteArray := prog_14_method_45_code
def yX12_enter : MethodName := ⟨RX12, "enter", "(I)V"⟩
abbrev cX12_run : ByteArray := prog_14_method_46_code
def yX12_run : MethodName := ⟨RX12, "run", "(IIII)I"⟩
abbrev cX12_caught : ByteArray := prog_14_method_47_code
def yX12_caught : MethodName := ⟨RX12, "caught", "()V"⟩
abbrev cX12_codeAt : ByteArray := prog_14_method_48_code
def yX12_codeAt : MethodName := ⟨RX12, "codeAt", "(I)I"⟩
abbrev cX12_push : ByteArray := prog_14_method_49_code
def yX12_push : MethodName := ⟨RX12, "push", "(I)V"⟩
abbrev cX12_pop : ByteArray := prog_14_method_50_code
def yX12_pop : MethodName := ⟨RX12, "pop", "()I"⟩
abbrev cX12_top : ByteArray := prog_14_method_51_code
def yX12_top : MethodName := ⟨RX12, "top", "()I"⟩
abbrev cX12_step : ByteArray := prog_14_method_52_code
def yX12_step : MethodName := ⟨RX12, "step", "()V"⟩
abbrev cX12_ends : ByteArray := prog_14_method_53_code
def yX12_ends : MethodName := ⟨RX12, "ends", "()V"⟩
abbrev cX12_calls : ByteArray := prog_14_method_54_code
def yX12_calls : MethodName := ⟨RX12, "calls", "()V"⟩
abbrev cX12_jumps : ByteArray := prog_14_method_55_code
def yX12_jumps : MethodName := ⟨RX12, "jumps", "(I)V"⟩
abbrev cX12_ofArrays : ByteArray := prog_14_method_56_code
def yX12_ofArrays : MethodName := ⟨RX12, "ofArrays", "(I)V"⟩
abbrev cX12_plain : ByteArray := prog_14_method_57_code
def yX12_plain : MethodName := ⟨RX12, "plain", "(I)V"⟩
abbrev cX12_reckoned : ByteArray := prog_14_method_58_code
def yX12_reckoned : MethodName := ⟨RX12, "reckoned", "(III)I"⟩
abbrev cX12_answer : ByteArray := prog_14_method_59_code
def yX12_answer : MethodName := ⟨RX12, "answer", "()I"⟩
abbrev cX12_counted : ByteArray := prog_14_method_60_code
def yX12_counted : MethodName := ⟨RX12, "counted", "()I"⟩
abbrev cX12_steps : ByteArray := prog_14_method_61_code
def yX12_steps : MethodName := ⟨RX12, "steps", "()I"⟩
abbrev cX12_element : ByteArray := prog_14_method_62_code
def yX12_element : MethodName := ⟨RX12, "element", "(II)I"⟩
abbrev cX12_clear : ByteArray := prog_14_method_63_code
def yX12_clear : MethodName := ⟨RX12, "clear", "()V"⟩
def RJ9 : String := "java/lang/Math"
def TJ9 : u_T := fun k => match k with
  | _ => ("", "", "", false)
def tyJ9 : Nat → FieldType := fun k => match k with
  | _ => .int
abbrev wsJ90 : List Cond := u_ws RJ9 TJ9 0
theorem nmJ9 : ∀ a, a < 0 → ∀ b, b < 0 → a ≠ b → (TJ9 a).2.1 ≠ (TJ9 b).2.1 := by decide +kernel
theorem tyJ9_ok : ∀ k, k < 0 → parseFieldDescriptor (TJ9 k).2.2.1 = some (tyJ9 k) := by decide +kernel
abbrev cJ9_max_7cf53 : ByteArray := prog_15_method_65_code
def yJ9_max_7cf53 : MethodName := ⟨RJ9, "max", "(II)I"⟩
abbrev cJ9_min_7cf53 : ByteArray := prog_15_method_69_code
def yJ9_min_7cf53 : MethodName := ⟨RJ9, "min", "(II)I"⟩
def RJ7 : String := "java/util/Arrays"
def TJ7 : u_T := fun k => match k with
  | _ => ("", "", "", false)
def tyJ7 : Nat → FieldType := fun k => match k with
  | _ => .int
abbrev wsJ70 : List Cond := u_ws RJ7 TJ7 0
theorem nmJ7 : ∀ a, a < 0 → ∀ b, b < 0 → a ≠ b → (TJ7 a).2.1 ≠ (TJ7 b).2.1 := by decide +kernel
theorem tyJ7_ok : ∀ k, k < 0 → parseFieldDescriptor (TJ7 k).2.2.1 = some (tyJ7 k) := by decide +kernel
abbrev cJ7_fill_53178 : ByteArray := prog_16_method_103_code
def yJ7_fill_53178 : MethodName := ⟨RJ7, "fill", "([II)V"⟩
def RL : String := "StepRewriterLaw"
abbrev cL_law : ByteArray := code
def yL_law : MethodName := ⟨RL, "law", "([I)Z"⟩
def wsX7_init : List Cond := .code yX7_init cX7_init 2 none :: ([.methodLink RX7 3 objectInit, .instanceMethod objectInit, .code objectInit ⟨#[0xb1]⟩ 1 none, .arrayClass .int, .fieldLink RX7 9 "StepRewriter$Method" "table" "[I", .fieldLink RX7 15 "StepRewriter$Method" "row" "[I"] ++ wsX70)
def wsX0_init : List Cond := .code yX0_init cX0_init 3 none :: ([.methodLink RX0 3 objectInit, .instanceMethod objectInit, .code objectInit ⟨#[0xb1]⟩ 1 none, .classLink RX0 9 RX7, .fieldLink RX0 11 "StepRewriter$CodeSet" "methods" "[LStepRewriter$Method;", .instantiable RX7 11, .initialized RX7, .arrayClass .int, .fieldLink RX0 20 "StepRewriter$CodeSet" "none" "LStepRewriter$Method;", .fieldLink RX0 24 "StepRewriter$CodeSet" "row" "[I", .methodLink RX0 17 yX7_init, .instanceMethod yX7_init, .code yX7_init cX7_init 2 none, .methodLink RX7 3 objectInit, .fieldLink RX7 9 "StepRewriter$Method" "table" "[I", .fieldLink RX7 15 "StepRewriter$Method" "row" "[I"] ++ wsX00 ++ wsX70)
def wsX0_empty : List Cond := .code yX0_empty cX0_empty 1 none :: ([.fieldLink RX0 28 "StepRewriter$CodeSet" "used" "I", .fieldLink RX0 32 "StepRewriter$CodeSet" "count" "I"] ++ wsX00)
def wsX9_put : List Cond := .code yX9_put cX9_put 3 none :: ([])
def wsX0_append : List Cond := .code yX0_append cX0_append 2 none :: ([.fieldLink RX0 28 "StepRewriter$CodeSet" "used" "I", .fieldLink RX0 24 "StepRewriter$CodeSet" "row" "[I", .methodLink RX0 35 yX9_put, .static yX9_put, .initialized RX9, .code yX9_put cX9_put 3 none] ++ wsX00)
def wsX0_appendPair : List Cond := .code yX0_appendPair cX0_appendPair 2 none :: ([.methodLink RX0 41 yX0_append, .instanceMethod yX0_append, .selects RX0 yX0_append yX0_append, .initialized RX0, .code yX0_append cX0_append 2 none, .fieldLink RX0 28 "StepRewriter$CodeSet" "used" "I", .fieldLink RX0 24 "StepRewriter$CodeSet" "row" "[I", .methodLink RX0 35 yX9_put, .static yX9_put, .initialized RX9, .code yX9_put cX9_put 3 none] ++ wsX00)
def wsX9_at : List Cond := .code yX9_at cX9_at 2 (some .int) :: ([])
def wsX0_valueAt : List Cond := .code yX0_valueAt cX0_valueAt 2 (some .int) :: ([.fieldLink RX0 28 "StepRewriter$CodeSet" "used" "I", .fieldLink RX0 24 "StepRewriter$CodeSet" "row" "[I", .methodLink RX0 45 yX9_at, .static yX9_at, .initialized RX9, .code yX9_at cX9_at 2 (some .int)] ++ wsX00)
def wsX0_pairAt : List Cond := .code yX0_pairAt cX0_pairAt 2 (some .int) :: ([.methodLink RX0 49 yX0_valueAt, .instanceMethod yX0_valueAt, .selects RX0 yX0_valueAt yX0_valueAt, .initialized RX0, .code yX0_valueAt cX0_valueAt 2 (some .int), .fieldLink RX0 28 "StepRewriter$CodeSet" "used" "I", .fieldLink RX0 24 "StepRewriter$CodeSet" "row" "[I", .methodLink RX0 45 yX9_at, .static yX9_at, .initialized RX9, .code yX9_at cX9_at 2 (some .int)] ++ wsX00)
def wsX0_has : List Cond := .code yX0_has cX0_has 2 (some .boolean) :: ([.fieldLink RX0 32 "StepRewriter$CodeSet" "count" "I"] ++ wsX00)
def wsX0_method : List Cond := .code yX0_method cX0_method 2 (some (.object "StepRewriter$Method")) :: ([.fieldLink RX0 11 "StepRewriter$CodeSet" "methods" "[LStepRewriter$Method;", .fieldLink RX0 20 "StepRewriter$CodeSet" "none" "LStepRewriter$Method;"] ++ wsX00)
def wsX0_codeBytes : List Cond := .code yX0_codeBytes cX0_codeBytes 3 (some .int) :: ([.fieldLink RX0 32 "StepRewriter$CodeSet" "count" "I", .fieldLink RX0 57 "StepRewriter$Method" "length" "I", .methodLink RX0 53 yX0_method, .instanceMethod yX0_method, .selects RX0 yX0_method yX0_method, .initialized RX0, .code yX0_method cX0_method 2 (some (.object "StepRewriter$Method")), .fieldLink RX0 11 "StepRewriter$CodeSet" "methods" "[LStepRewriter$Method;", .fieldLink RX0 20 "StepRewriter$CodeSet" "none" "LStepRewriter$Method;"] ++ wsX00 ++ wsX70)
def wsX1_init : List Cond := .code yX1_init cX1_init 1 none :: ([.methodLink RX1 3 objectInit, .instanceMethod objectInit, .code objectInit ⟨#[0xb1]⟩ 1 none, .arrayClass .int, .fieldLink RX1 9 "StepRewriter$DepthCheck" "depths" "[I", .fieldLink RX1 15 "StepRewriter$DepthCheck" "gone" "[I"] ++ wsX10)
def wsJ7_fill_53178 : List Cond := .code yJ7_fill_53178 cJ7_fill_53178 4 none :: ([])
def wsX7_handlerNumber : List Cond := .code yX7_handlerNumber cX7_handlerNumber 3 (some .int) :: ([.fieldLink RX7 9 "StepRewriter$Method" "table" "[I", .methodLink RX7 68 yX9_at, .static yX9_at, .initialized RX9, .code yX9_at cX9_at 2 (some .int)] ++ wsX70)
def wsX1_findLowest : List Cond := .code yX1_findLowest cX1_findLowest 2 (some .boolean) :: ([.fieldLink RX1 43 "StepRewriter$DepthCheck" "lowest" "I", .fieldLink RX1 9 "StepRewriter$DepthCheck" "depths" "[I", .fieldLink RX1 15 "StepRewriter$DepthCheck" "gone" "[I", .methodLink RX1 77 yX9_at, .static yX9_at, .initialized RX9, .code yX9_at cX9_at 2 (some .int)] ++ wsX10)
def wsX7_hasPlace : List Cond := .code yX7_hasPlace cX7_hasPlace 2 (some .boolean) :: ([.fieldLink RX7 22 "StepRewriter$Method" "length" "I", .fieldLink RX7 18 "StepRewriter$Method" "codeAt" "I", .fieldLink RX7 15 "StepRewriter$Method" "row" "[I"] ++ wsX70)
def wsX7_valueAt : List Cond := .code yX7_valueAt cX7_valueAt 2 (some .int) :: ([.fieldLink RX7 15 "StepRewriter$Method" "row" "[I", .fieldLink RX7 18 "StepRewriter$Method" "codeAt" "I", .methodLink RX7 46 yX7_hasPlace, .instanceMethod yX7_hasPlace, .selects RX7 yX7_hasPlace yX7_hasPlace, .initialized RX7, .code yX7_hasPlace cX7_hasPlace 2 (some .boolean), .fieldLink RX7 22 "StepRewriter$Method" "length" "I"] ++ wsX70)
def wsX4_isOfTwo : List Cond := .code yX4_isOfTwo cX4_isOfTwo 1 (some .boolean) :: ([])
def wsX4_isBranch : List Cond := .code yX4_isBranch cX4_isBranch 1 (some .boolean) :: ([])
def wsX4_takes : List Cond := .code yX4_takes cX4_takes 1 (some .int) :: ([.methodLink RX4 7 yX4_isOfTwo, .static yX4_isOfTwo, .initialized RX4, .code yX4_isOfTwo cX4_isOfTwo 1 (some .boolean), .methodLink RX4 13 yX4_isBranch, .static yX4_isBranch, .code yX4_isBranch cX4_isBranch 1 (some .boolean)])
def wsX4_gives : List Cond := .code yX4_gives cX4_gives 1 (some .int) :: ([.methodLink RX4 7 yX4_isOfTwo, .static yX4_isOfTwo, .initialized RX4, .code yX4_isOfTwo cX4_isOfTwo 1 (some .boolean)])
def wsX4_isOfArray : List Cond := .code yX4_isOfArray cX4_isOfArray 1 (some .boolean) :: ([])
def wsX4_sizeOf : List Cond := .code yX4_sizeOf cX4_sizeOf 1 (some .int) :: ([.methodLink RX4 7 yX4_isOfTwo, .static yX4_isOfTwo, .initialized RX4, .code yX4_isOfTwo cX4_isOfTwo 1 (some .boolean), .methodLink RX4 13 yX4_isBranch, .static yX4_isBranch, .code yX4_isBranch cX4_isBranch 1 (some .boolean), .methodLink RX4 16 yX4_isOfArray, .static yX4_isOfArray, .code yX4_isOfArray cX4_isOfArray 1 (some .boolean)])
def wsX7_sizeAt_r1 : List Cond := [Cond.methodLink RX7 50 yX7_valueAt, Cond.instanceMethod yX7_valueAt, Cond.selects RX7 yX7_valueAt yX7_valueAt, Cond.initialized RX7, Cond.code yX7_valueAt cX7_valueAt 2 (some .int), Cond.fieldLink RX7 15 "StepRewriter$Method" "row" "[I", Cond.fieldLink RX7 18 "StepRewriter$Method" "codeAt" "I", Cond.methodLink RX7 46 yX7_hasPlace, Cond.instanceMethod yX7_hasPlace, Cond.selects RX7 yX7_hasPlace yX7_hasPlace, Cond.code yX7_hasPlace cX7_hasPlace 2 (some .boolean), Cond.fieldLink RX7 22 "StepRewriter$Method" "length" "I", Cond.methodLink RX7 65 yX4_sizeOf, Cond.static yX4_sizeOf, Cond.initialized RX4, Cond.code yX4_sizeOf cX4_sizeOf 1 (some .int), Cond.methodLink RX4 7 yX4_isOfTwo, Cond.static yX4_isOfTwo, Cond.code yX4_isOfTwo cX4_isOfTwo 1 (some .boolean), Cond.methodLink RX4 13 yX4_isBranch, Cond.static yX4_isBranch, Cond.code yX4_isBranch cX4_isBranch 1 (some .boolean), Cond.methodLink RX4 16 yX4_isOfArray, Cond.static yX4_isOfArray]
def wsX7_sizeAt_r2 : List Cond := [Cond.code yX4_isOfArray cX4_isOfArray 1 (some .boolean)]
def wsX7_sizeAt : List Cond := .code yX7_sizeAt cX7_sizeAt 2 (some .int) :: ((wsX7_sizeAt_r1 ++ wsX7_sizeAt_r2) ++ wsX70)
def wsX4_endsWay : List Cond := .code yX4_endsWay cX4_endsWay 1 (some .boolean) :: ([])
def wsX1_reach : List Cond := .code yX1_reach cX1_reach 4 (some .int) :: ([.fieldLink RX1 9 "StepRewriter$DepthCheck" "depths" "[I", .fieldLink RX1 43 "StepRewriter$DepthCheck" "lowest" "I", .methodLink RX1 111 Lib.Math.min.name, .static Lib.Math.min.name, .initialized "java/lang/Math", .code Lib.Math.min.name Lib.Math.min.code 2 (some .int), .methodLink RX1 77 yX9_at, .static yX9_at, .initialized RX9, .code yX9_at cX9_at 2 (some .int), .methodLink RX1 46 yX9_put, .static yX9_put, .code yX9_put cX9_put 3 none] ++ wsX10)
def wsX4_isJump : List Cond := .code yX4_isJump cX4_isJump 1 (some .boolean) :: ([.methodLink RX4 13 yX4_isBranch, .static yX4_isBranch, .initialized RX4, .code yX4_isBranch cX4_isBranch 1 (some .boolean)])
def wsX7_targetOf : List Cond := .code yX7_targetOf cX7_targetOf 3 (some .int) :: ([.methodLink RX7 50 yX7_valueAt, .instanceMethod yX7_valueAt, .selects RX7 yX7_valueAt yX7_valueAt, .initialized RX7, .code yX7_valueAt cX7_valueAt 2 (some .int), .fieldLink RX7 15 "StepRewriter$Method" "row" "[I", .fieldLink RX7 18 "StepRewriter$Method" "codeAt" "I", .methodLink RX7 46 yX7_hasPlace, .instanceMethod yX7_hasPlace, .selects RX7 yX7_hasPlace yX7_hasPlace, .code yX7_hasPlace cX7_hasPlace 2 (some .boolean), .fieldLink RX7 22 "StepRewriter$Method" "length" "I"] ++ wsX70)
def wsX1_goOn_r1 : List Cond := [Cond.fieldLink RX1 15 "StepRewriter$DepthCheck" "gone" "[I", Cond.fieldLink RX1 90 "StepRewriter$Method" "parameters" "I", Cond.fieldLink RX1 9 "StepRewriter$DepthCheck" "depths" "[I", Cond.fieldLink RX1 59 "StepRewriter$Method" "length" "I", Cond.methodLink RX1 111 Lib.Math.min.name, Cond.static Lib.Math.min.name, Cond.initialized "java/lang/Math", Cond.code Lib.Math.min.name Lib.Math.min.code 2 (some .int), Cond.methodLink RX1 46 yX9_put, Cond.static yX9_put, Cond.initialized RX9, Cond.code yX9_put cX9_put 3 none, Cond.methodLink RX1 81 yX7_valueAt, Cond.instanceMethod yX7_valueAt, Cond.selects RX7 yX7_valueAt yX7_valueAt, Cond.initialized RX7, Cond.code yX7_valueAt cX7_valueAt 2 (some .int), Cond.fieldLink RX7 15 "StepRewriter$Method" "row" "[I", Cond.fieldLink RX7 18 "StepRewriter$Method" "codeAt" "I", Cond.methodLink RX7 46 yX7_hasPlace, Cond.instanceMethod yX7_hasPlace, Cond.selects RX7 yX7_hasPlace yX7_hasPlace, Cond.code yX7_hasPlace cX7_hasPlace 2 (some .boolean), Cond.fieldLink RX7 22 "StepRewriter$Method" "length" "I"]
def wsX1_goOn_r2 : List Cond := [Cond.methodLink RX1 87 yX4_takes, Cond.static yX4_takes, Cond.initialized RX4, Cond.code yX4_takes cX4_takes 1 (some .int), Cond.methodLink RX4 7 yX4_isOfTwo, Cond.static yX4_isOfTwo, Cond.code yX4_isOfTwo cX4_isOfTwo 1 (some .boolean), Cond.methodLink RX4 13 yX4_isBranch, Cond.static yX4_isBranch, Cond.code yX4_isBranch cX4_isBranch 1 (some .boolean), Cond.methodLink RX1 24 yX0_method, Cond.instanceMethod yX0_method, Cond.selects RX0 yX0_method yX0_method, Cond.initialized RX0, Cond.code yX0_method cX0_method 2 (some (.object "StepRewriter$Method")), Cond.fieldLink RX0 11 "StepRewriter$CodeSet" "methods" "[LStepRewriter$Method;", Cond.fieldLink RX0 20 "StepRewriter$CodeSet" "none" "LStepRewriter$Method;", Cond.methodLink RX1 77 yX9_at, Cond.static yX9_at, Cond.code yX9_at cX9_at 2 (some .int), Cond.methodLink RX1 93 yX4_gives, Cond.static yX4_gives, Cond.code yX4_gives cX4_gives 1 (some .int), Cond.methodLink RX1 96 yX7_sizeAt]
def wsX1_goOn_r3 : List Cond := [Cond.instanceMethod yX7_sizeAt, Cond.selects RX7 yX7_sizeAt yX7_sizeAt, Cond.code yX7_sizeAt cX7_sizeAt 2 (some .int), Cond.methodLink RX7 50 yX7_valueAt, Cond.methodLink RX7 65 yX4_sizeOf, Cond.static yX4_sizeOf, Cond.code yX4_sizeOf cX4_sizeOf 1 (some .int), Cond.methodLink RX4 16 yX4_isOfArray, Cond.static yX4_isOfArray, Cond.code yX4_isOfArray cX4_isOfArray 1 (some .boolean), Cond.methodLink RX1 99 yX4_endsWay, Cond.static yX4_endsWay, Cond.code yX4_endsWay cX4_endsWay 1 (some .boolean), Cond.methodLink RX1 102 yX1_reach, Cond.instanceMethod yX1_reach, Cond.selects RX1 yX1_reach yX1_reach, Cond.initialized RX1, Cond.code yX1_reach cX1_reach 4 (some .int), Cond.fieldLink RX1 43 "StepRewriter$DepthCheck" "lowest" "I", Cond.methodLink RX1 105 yX4_isJump, Cond.static yX4_isJump, Cond.code yX4_isJump cX4_isJump 1 (some .boolean), Cond.methodLink RX1 108 yX7_targetOf, Cond.instanceMethod yX7_targetOf]
def wsX1_goOn_r4 : List Cond := [Cond.selects RX7 yX7_targetOf yX7_targetOf, Cond.code yX7_targetOf cX7_targetOf 3 (some .int)]
def wsX1_goOn : List Cond := .code yX1_goOn cX1_goOn 13 (some .int) :: ((wsX1_goOn_r1 ++ (wsX1_goOn_r2 ++ (wsX1_goOn_r3 ++ wsX1_goOn_r4))) ++ wsX10 ++ wsX70 ++ wsX00)
def wsX1_greatest : List Cond := .code yX1_greatest cX1_greatest 3 (some .int) :: ([.fieldLink RX1 9 "StepRewriter$DepthCheck" "depths" "[I", .methodLink RX1 116 Lib.Math.max.name, .static Lib.Math.max.name, .initialized "java/lang/Math", .code Lib.Math.max.name Lib.Math.max.code 2 (some .int), .methodLink RX1 77 yX9_at, .static yX9_at, .initialized RX9, .code yX9_at cX9_at 2 (some .int)] ++ wsX10)
def wsX1_wrongPlace_r1 : List Cond := [Cond.fieldLink RX1 9 "StepRewriter$DepthCheck" "depths" "[I", Cond.fieldLink RX1 15 "StepRewriter$DepthCheck" "gone" "[I", Cond.fieldLink RX1 43 "StepRewriter$DepthCheck" "lowest" "I", Cond.fieldLink RX1 52 "StepRewriter$Method" "handlers" "I", Cond.fieldLink RX1 59 "StepRewriter$Method" "length" "I", Cond.fieldLink RX1 74 "StepRewriter$Method" "deepest" "I", Cond.methodLink RX1 37 yJ7_fill_53178, Cond.static yJ7_fill_53178, Cond.initialized RJ7, Cond.code yJ7_fill_53178 cJ7_fill_53178 4 none, Cond.methodLink RX1 46 yX9_put, Cond.static yX9_put, Cond.initialized RX9, Cond.code yX9_put cX9_put 3 none, Cond.methodLink RX1 55 yX7_handlerNumber, Cond.instanceMethod yX7_handlerNumber, Cond.selects RX7 yX7_handlerNumber yX7_handlerNumber, Cond.initialized RX7, Cond.code yX7_handlerNumber cX7_handlerNumber 3 (some .int), Cond.fieldLink RX7 9 "StepRewriter$Method" "table" "[I", Cond.methodLink RX7 68 yX9_at, Cond.static yX9_at, Cond.code yX9_at cX9_at 2 (some .int), Cond.methodLink RX1 62 yX1_findLowest]
def wsX1_wrongPlace_r2 : List Cond := [Cond.instanceMethod yX1_findLowest, Cond.selects RX1 yX1_findLowest yX1_findLowest, Cond.initialized RX1, Cond.code yX1_findLowest cX1_findLowest 2 (some .boolean), Cond.methodLink RX1 77 yX9_at, Cond.methodLink RX1 66 yX1_goOn, Cond.instanceMethod yX1_goOn, Cond.selects RX1 yX1_goOn yX1_goOn, Cond.code yX1_goOn cX1_goOn 13 (some .int), Cond.fieldLink RX1 90 "StepRewriter$Method" "parameters" "I", Cond.methodLink RX1 111 Lib.Math.min.name, Cond.static Lib.Math.min.name, Cond.initialized "java/lang/Math", Cond.code Lib.Math.min.name Lib.Math.min.code 2 (some .int), Cond.methodLink RX1 81 yX7_valueAt, Cond.instanceMethod yX7_valueAt, Cond.selects RX7 yX7_valueAt yX7_valueAt, Cond.code yX7_valueAt cX7_valueAt 2 (some .int), Cond.fieldLink RX7 15 "StepRewriter$Method" "row" "[I", Cond.fieldLink RX7 18 "StepRewriter$Method" "codeAt" "I", Cond.methodLink RX7 46 yX7_hasPlace, Cond.instanceMethod yX7_hasPlace, Cond.selects RX7 yX7_hasPlace yX7_hasPlace, Cond.code yX7_hasPlace cX7_hasPlace 2 (some .boolean)]
def wsX1_wrongPlace_r3 : List Cond := [Cond.fieldLink RX7 22 "StepRewriter$Method" "length" "I", Cond.methodLink RX1 87 yX4_takes, Cond.static yX4_takes, Cond.initialized RX4, Cond.code yX4_takes cX4_takes 1 (some .int), Cond.methodLink RX4 7 yX4_isOfTwo, Cond.static yX4_isOfTwo, Cond.code yX4_isOfTwo cX4_isOfTwo 1 (some .boolean), Cond.methodLink RX4 13 yX4_isBranch, Cond.static yX4_isBranch, Cond.code yX4_isBranch cX4_isBranch 1 (some .boolean), Cond.methodLink RX1 24 yX0_method, Cond.instanceMethod yX0_method, Cond.selects RX0 yX0_method yX0_method, Cond.initialized RX0, Cond.code yX0_method cX0_method 2 (some (.object "StepRewriter$Method")), Cond.fieldLink RX0 11 "StepRewriter$CodeSet" "methods" "[LStepRewriter$Method;", Cond.fieldLink RX0 20 "StepRewriter$CodeSet" "none" "LStepRewriter$Method;", Cond.methodLink RX1 93 yX4_gives, Cond.static yX4_gives, Cond.code yX4_gives cX4_gives 1 (some .int), Cond.methodLink RX1 96 yX7_sizeAt, Cond.instanceMethod yX7_sizeAt, Cond.selects RX7 yX7_sizeAt yX7_sizeAt]
def wsX1_wrongPlace_r4 : List Cond := [Cond.code yX7_sizeAt cX7_sizeAt 2 (some .int), Cond.methodLink RX7 50 yX7_valueAt, Cond.methodLink RX7 65 yX4_sizeOf, Cond.static yX4_sizeOf, Cond.code yX4_sizeOf cX4_sizeOf 1 (some .int), Cond.methodLink RX4 16 yX4_isOfArray, Cond.static yX4_isOfArray, Cond.code yX4_isOfArray cX4_isOfArray 1 (some .boolean), Cond.methodLink RX1 99 yX4_endsWay, Cond.static yX4_endsWay, Cond.code yX4_endsWay cX4_endsWay 1 (some .boolean), Cond.methodLink RX1 102 yX1_reach, Cond.instanceMethod yX1_reach, Cond.selects RX1 yX1_reach yX1_reach, Cond.code yX1_reach cX1_reach 4 (some .int), Cond.methodLink RX1 105 yX4_isJump, Cond.static yX4_isJump, Cond.code yX4_isJump cX4_isJump 1 (some .boolean), Cond.methodLink RX1 108 yX7_targetOf, Cond.instanceMethod yX7_targetOf, Cond.selects RX7 yX7_targetOf yX7_targetOf, Cond.code yX7_targetOf cX7_targetOf 3 (some .int), Cond.methodLink RX1 70 yX1_greatest, Cond.instanceMethod yX1_greatest]
def wsX1_wrongPlace_r5 : List Cond := [Cond.selects RX1 yX1_greatest yX1_greatest, Cond.code yX1_greatest cX1_greatest 3 (some .int), Cond.methodLink RX1 116 Lib.Math.max.name, Cond.static Lib.Math.max.name, Cond.code Lib.Math.max.name Lib.Math.max.code 2 (some .int)]
def wsX1_wrongPlace : List Cond := .code yX1_wrongPlace cX1_wrongPlace 5 (some .int) :: ((wsX1_wrongPlace_r1 ++ (wsX1_wrongPlace_r2 ++ (wsX1_wrongPlace_r3 ++ (wsX1_wrongPlace_r4 ++ wsX1_wrongPlace_r5)))) ++ wsX10 ++ wsX70 ++ wsX00)
def wsX1_firstWrong_r1 : List Cond := [Cond.fieldLink RX1 18 "StepRewriter$CodeSet" "count" "I", Cond.fieldLink RX1 32 "StepRewriter$Method" "codeAt" "I", Cond.methodLink RX1 24 yX0_method, Cond.instanceMethod yX0_method, Cond.selects RX0 yX0_method yX0_method, Cond.initialized RX0, Cond.code yX0_method cX0_method 2 (some (.object "StepRewriter$Method")), Cond.fieldLink RX0 11 "StepRewriter$CodeSet" "methods" "[LStepRewriter$Method;", Cond.fieldLink RX0 20 "StepRewriter$CodeSet" "none" "LStepRewriter$Method;", Cond.methodLink RX1 28 yX1_wrongPlace, Cond.instanceMethod yX1_wrongPlace, Cond.selects RX1 yX1_wrongPlace yX1_wrongPlace, Cond.initialized RX1, Cond.code yX1_wrongPlace cX1_wrongPlace 5 (some .int), Cond.fieldLink RX1 9 "StepRewriter$DepthCheck" "depths" "[I", Cond.fieldLink RX1 15 "StepRewriter$DepthCheck" "gone" "[I", Cond.fieldLink RX1 43 "StepRewriter$DepthCheck" "lowest" "I", Cond.fieldLink RX1 52 "StepRewriter$Method" "handlers" "I", Cond.fieldLink RX1 59 "StepRewriter$Method" "length" "I", Cond.fieldLink RX1 74 "StepRewriter$Method" "deepest" "I", Cond.methodLink RX1 37 yJ7_fill_53178, Cond.static yJ7_fill_53178, Cond.initialized RJ7, Cond.code yJ7_fill_53178 cJ7_fill_53178 4 none]
def wsX1_firstWrong_r2 : List Cond := [Cond.methodLink RX1 46 yX9_put, Cond.static yX9_put, Cond.initialized RX9, Cond.code yX9_put cX9_put 3 none, Cond.methodLink RX1 55 yX7_handlerNumber, Cond.instanceMethod yX7_handlerNumber, Cond.selects RX7 yX7_handlerNumber yX7_handlerNumber, Cond.initialized RX7, Cond.code yX7_handlerNumber cX7_handlerNumber 3 (some .int), Cond.fieldLink RX7 9 "StepRewriter$Method" "table" "[I", Cond.methodLink RX7 68 yX9_at, Cond.static yX9_at, Cond.code yX9_at cX9_at 2 (some .int), Cond.methodLink RX1 62 yX1_findLowest, Cond.instanceMethod yX1_findLowest, Cond.selects RX1 yX1_findLowest yX1_findLowest, Cond.code yX1_findLowest cX1_findLowest 2 (some .boolean), Cond.methodLink RX1 77 yX9_at, Cond.methodLink RX1 66 yX1_goOn, Cond.instanceMethod yX1_goOn, Cond.selects RX1 yX1_goOn yX1_goOn, Cond.code yX1_goOn cX1_goOn 13 (some .int), Cond.fieldLink RX1 90 "StepRewriter$Method" "parameters" "I", Cond.methodLink RX1 111 Lib.Math.min.name]
def wsX1_firstWrong_r3 : List Cond := [Cond.static Lib.Math.min.name, Cond.initialized "java/lang/Math", Cond.code Lib.Math.min.name Lib.Math.min.code 2 (some .int), Cond.methodLink RX1 81 yX7_valueAt, Cond.instanceMethod yX7_valueAt, Cond.selects RX7 yX7_valueAt yX7_valueAt, Cond.code yX7_valueAt cX7_valueAt 2 (some .int), Cond.fieldLink RX7 15 "StepRewriter$Method" "row" "[I", Cond.fieldLink RX7 18 "StepRewriter$Method" "codeAt" "I", Cond.methodLink RX7 46 yX7_hasPlace, Cond.instanceMethod yX7_hasPlace, Cond.selects RX7 yX7_hasPlace yX7_hasPlace, Cond.code yX7_hasPlace cX7_hasPlace 2 (some .boolean), Cond.fieldLink RX7 22 "StepRewriter$Method" "length" "I", Cond.methodLink RX1 87 yX4_takes, Cond.static yX4_takes, Cond.initialized RX4, Cond.code yX4_takes cX4_takes 1 (some .int), Cond.methodLink RX4 7 yX4_isOfTwo, Cond.static yX4_isOfTwo, Cond.code yX4_isOfTwo cX4_isOfTwo 1 (some .boolean), Cond.methodLink RX4 13 yX4_isBranch, Cond.static yX4_isBranch, Cond.code yX4_isBranch cX4_isBranch 1 (some .boolean)]
def wsX1_firstWrong_r4 : List Cond := [Cond.methodLink RX1 93 yX4_gives, Cond.static yX4_gives, Cond.code yX4_gives cX4_gives 1 (some .int), Cond.methodLink RX1 96 yX7_sizeAt, Cond.instanceMethod yX7_sizeAt, Cond.selects RX7 yX7_sizeAt yX7_sizeAt, Cond.code yX7_sizeAt cX7_sizeAt 2 (some .int), Cond.methodLink RX7 50 yX7_valueAt, Cond.methodLink RX7 65 yX4_sizeOf, Cond.static yX4_sizeOf, Cond.code yX4_sizeOf cX4_sizeOf 1 (some .int), Cond.methodLink RX4 16 yX4_isOfArray, Cond.static yX4_isOfArray, Cond.code yX4_isOfArray cX4_isOfArray 1 (some .boolean), Cond.methodLink RX1 99 yX4_endsWay, Cond.static yX4_endsWay, Cond.code yX4_endsWay cX4_endsWay 1 (some .boolean), Cond.methodLink RX1 102 yX1_reach, Cond.instanceMethod yX1_reach, Cond.selects RX1 yX1_reach yX1_reach, Cond.code yX1_reach cX1_reach 4 (some .int), Cond.methodLink RX1 105 yX4_isJump, Cond.static yX4_isJump, Cond.code yX4_isJump cX4_isJump 1 (some .boolean)]
def wsX1_firstWrong_r5 : List Cond := [Cond.methodLink RX1 108 yX7_targetOf, Cond.instanceMethod yX7_targetOf, Cond.selects RX7 yX7_targetOf yX7_targetOf, Cond.code yX7_targetOf cX7_targetOf 3 (some .int), Cond.methodLink RX1 70 yX1_greatest, Cond.instanceMethod yX1_greatest, Cond.selects RX1 yX1_greatest yX1_greatest, Cond.code yX1_greatest cX1_greatest 3 (some .int), Cond.methodLink RX1 116 Lib.Math.max.name, Cond.static Lib.Math.max.name, Cond.code Lib.Math.max.name Lib.Math.max.code 2 (some .int)]
def wsX1_firstWrong : List Cond := .code yX1_firstWrong cX1_firstWrong 4 (some .int) :: ((wsX1_firstWrong_r1 ++ (wsX1_firstWrong_r2 ++ (wsX1_firstWrong_r3 ++ (wsX1_firstWrong_r4 ++ wsX1_firstWrong_r5)))) ++ wsX00 ++ wsX70 ++ wsX10)
def wsX2_init : List Cond := .code yX2_init cX2_init 1 none :: ([.methodLink RX2 3 objectInit, .instanceMethod objectInit, .code objectInit ⟨#[0xb1]⟩ 1 none, .classLink RX2 9 RX1, .instantiable RX1 3, .initialized RX1, .fieldLink RX2 12 "StepRewriter$FormCheck" "depths" "LStepRewriter$DepthCheck;", .instanceMethod yX1_init, .code yX1_init cX1_init 1 none, .methodLink RX1 3 objectInit, .arrayClass .int, .fieldLink RX1 9 "StepRewriter$DepthCheck" "depths" "[I", .fieldLink RX1 15 "StepRewriter$DepthCheck" "gone" "[I"] ++ wsX10 ++ wsX20)
def wsX7_empty : List Cond := .code yX7_empty cX7_empty 1 none :: ([.fieldLink RX7 18 "StepRewriter$Method" "codeAt" "I", .fieldLink RX7 22 "StepRewriter$Method" "length" "I", .fieldLink RX7 25 "StepRewriter$Method" "parameters" "I", .fieldLink RX7 28 "StepRewriter$Method" "locals" "I", .fieldLink RX7 31 "StepRewriter$Method" "handlers" "I", .fieldLink RX7 34 "StepRewriter$Method" "blocks" "I", .fieldLink RX7 37 "StepRewriter$Method" "longBranches" "I", .fieldLink RX7 40 "StepRewriter$Method" "longJumps" "I", .fieldLink RX7 43 "StepRewriter$Method" "deepest" "I"] ++ wsX70)
def wsX2_handlerPlace : List Cond := .code yX2_handlerPlace cX2_handlerPlace 3 (some .int) :: ([.fieldLink RX2 56 "StepRewriter$Method" "codeAt" "I", .fieldLink RX2 59 "StepRewriter$Method" "length" "I"] ++ wsX70)
def wsX2_endOf : List Cond := .code yX2_endOf cX2_endOf 2 (some .int) :: ([.fieldLink RX2 47 "StepRewriter$Method" "handlers" "I", .methodLink RX2 52 yX2_handlerPlace, .instanceMethod yX2_handlerPlace, .selects RX2 yX2_handlerPlace yX2_handlerPlace, .initialized RX2, .code yX2_handlerPlace cX2_handlerPlace 3 (some .int), .fieldLink RX2 56 "StepRewriter$Method" "codeAt" "I", .fieldLink RX2 59 "StepRewriter$Method" "length" "I"] ++ wsX70)
def wsX2_wrongHandlerCount : List Cond := .code yX2_wrongHandlerCount cX2_wrongHandlerCount 4 (some .int) :: ([.fieldLink RX2 56 "StepRewriter$Method" "codeAt" "I", .fieldLink RX2 59 "StepRewriter$Method" "length" "I", .fieldLink RX2 28 "StepRewriter$CodeSet" "used" "I", .fieldLink RX2 47 "StepRewriter$Method" "handlers" "I", .methodLink RX2 18 yX0_valueAt, .instanceMethod yX0_valueAt, .selects RX0 yX0_valueAt yX0_valueAt, .initialized RX0, .code yX0_valueAt cX0_valueAt 2 (some .int), .fieldLink RX0 28 "StepRewriter$CodeSet" "used" "I", .fieldLink RX0 24 "StepRewriter$CodeSet" "row" "[I", .methodLink RX0 45 yX9_at, .static yX9_at, .initialized RX9, .code yX9_at cX9_at 2 (some .int), .methodLink RX2 39 yX2_endOf, .instanceMethod yX2_endOf, .selects RX2 yX2_endOf yX2_endOf, .initialized RX2, .code yX2_endOf cX2_endOf 2 (some .int), .methodLink RX2 52 yX2_handlerPlace, .instanceMethod yX2_handlerPlace, .selects RX2 yX2_handlerPlace yX2_handlerPlace, .code yX2_handlerPlace cX2_handlerPlace 3 (some .int)] ++ wsX70 ++ wsX00)
def wsX2_wrongNumber_r1 : List Cond := [Cond.fieldLink RX2 28 "StepRewriter$CodeSet" "used" "I", Cond.fieldLink RX2 82 "StepRewriter$Method" "parameters" "I", Cond.fieldLink RX2 85 "StepRewriter$Method" "locals" "I", Cond.fieldLink RX2 59 "StepRewriter$Method" "length" "I", Cond.fieldLink RX2 56 "StepRewriter$Method" "codeAt" "I", Cond.methodLink RX2 18 yX0_valueAt, Cond.instanceMethod yX0_valueAt, Cond.selects RX0 yX0_valueAt yX0_valueAt, Cond.initialized RX0, Cond.code yX0_valueAt cX0_valueAt 2 (some .int), Cond.fieldLink RX0 28 "StepRewriter$CodeSet" "used" "I", Cond.fieldLink RX0 24 "StepRewriter$CodeSet" "row" "[I", Cond.methodLink RX0 45 yX9_at, Cond.static yX9_at, Cond.initialized RX9, Cond.code yX9_at cX9_at 2 (some .int), Cond.methodLink RX2 88 yX0_pairAt, Cond.instanceMethod yX0_pairAt, Cond.selects RX0 yX0_pairAt yX0_pairAt, Cond.code yX0_pairAt cX0_pairAt 2 (some .int), Cond.methodLink RX0 49 yX0_valueAt, Cond.methodLink RX2 91 yX2_wrongHandlerCount, Cond.instanceMethod yX2_wrongHandlerCount, Cond.selects RX2 yX2_wrongHandlerCount yX2_wrongHandlerCount]
def wsX2_wrongNumber_r2 : List Cond := [Cond.initialized RX2, Cond.code yX2_wrongHandlerCount cX2_wrongHandlerCount 4 (some .int), Cond.fieldLink RX2 47 "StepRewriter$Method" "handlers" "I", Cond.methodLink RX2 39 yX2_endOf, Cond.instanceMethod yX2_endOf, Cond.selects RX2 yX2_endOf yX2_endOf, Cond.code yX2_endOf cX2_endOf 2 (some .int), Cond.methodLink RX2 52 yX2_handlerPlace, Cond.instanceMethod yX2_handlerPlace, Cond.selects RX2 yX2_handlerPlace yX2_handlerPlace, Cond.code yX2_handlerPlace cX2_handlerPlace 3 (some .int)]
def wsX2_wrongNumber : List Cond := .code yX2_wrongNumber cX2_wrongNumber 5 (some .int) :: ((wsX2_wrongNumber_r1 ++ wsX2_wrongNumber_r2) ++ wsX00 ++ wsX70)
def wsX2_hasOperand : List Cond := .code yX2_hasOperand cX2_hasOperand 6 (some .boolean) :: ([.fieldLink RX2 85 "StepRewriter$Method" "locals" "I", .methodLink RX2 105 yX7_valueAt, .instanceMethod yX7_valueAt, .selects RX7 yX7_valueAt yX7_valueAt, .initialized RX7, .code yX7_valueAt cX7_valueAt 2 (some .int), .fieldLink RX7 15 "StepRewriter$Method" "row" "[I", .fieldLink RX7 18 "StepRewriter$Method" "codeAt" "I", .methodLink RX7 46 yX7_hasPlace, .instanceMethod yX7_hasPlace, .selects RX7 yX7_hasPlace yX7_hasPlace, .code yX7_hasPlace cX7_hasPlace 2 (some .boolean), .fieldLink RX7 22 "StepRewriter$Method" "length" "I", .methodLink RX2 111 yX0_has, .instanceMethod yX0_has, .selects RX0 yX0_has yX0_has, .initialized RX0, .code yX0_has cX0_has 2 (some .boolean), .fieldLink RX0 32 "StepRewriter$CodeSet" "count" "I", .methodLink RX2 115 yX4_isOfArray, .static yX4_isOfArray, .initialized RX4, .code yX4_isOfArray cX4_isOfArray 1 (some .boolean)] ++ wsX70 ++ wsX00)
def wsX7_mark : List Cond := .code yX7_mark cX7_mark 3 none :: ([.fieldLink RX7 15 "StepRewriter$Method" "row" "[I", .fieldLink RX7 18 "StepRewriter$Method" "codeAt" "I", .methodLink RX7 46 yX7_hasPlace, .instanceMethod yX7_hasPlace, .selects RX7 yX7_hasPlace yX7_hasPlace, .initialized RX7, .code yX7_hasPlace cX7_hasPlace 2 (some .boolean), .fieldLink RX7 22 "StepRewriter$Method" "length" "I"] ++ wsX70)
def wsX2_wrongInstruction_r1 : List Cond := [Cond.fieldLink RX2 59 "StepRewriter$Method" "length" "I", Cond.fieldLink RX2 56 "StepRewriter$Method" "codeAt" "I", Cond.fieldLink RX2 108 "StepRewriter$Method" "longJumps" "I", Cond.methodLink RX2 94 yX7_sizeAt, Cond.instanceMethod yX7_sizeAt, Cond.selects RX7 yX7_sizeAt yX7_sizeAt, Cond.initialized RX7, Cond.code yX7_sizeAt cX7_sizeAt 2 (some .int), Cond.methodLink RX7 50 yX7_valueAt, Cond.instanceMethod yX7_valueAt, Cond.selects RX7 yX7_valueAt yX7_valueAt, Cond.code yX7_valueAt cX7_valueAt 2 (some .int), Cond.fieldLink RX7 15 "StepRewriter$Method" "row" "[I", Cond.fieldLink RX7 18 "StepRewriter$Method" "codeAt" "I", Cond.methodLink RX7 46 yX7_hasPlace, Cond.instanceMethod yX7_hasPlace, Cond.selects RX7 yX7_hasPlace yX7_hasPlace, Cond.code yX7_hasPlace cX7_hasPlace 2 (some .boolean), Cond.fieldLink RX7 22 "StepRewriter$Method" "length" "I", Cond.methodLink RX7 65 yX4_sizeOf, Cond.static yX4_sizeOf, Cond.initialized RX4, Cond.code yX4_sizeOf cX4_sizeOf 1 (some .int), Cond.methodLink RX4 7 yX4_isOfTwo]
def wsX2_wrongInstruction_r2 : List Cond := [Cond.static yX4_isOfTwo, Cond.code yX4_isOfTwo cX4_isOfTwo 1 (some .boolean), Cond.methodLink RX4 13 yX4_isBranch, Cond.static yX4_isBranch, Cond.code yX4_isBranch cX4_isBranch 1 (some .boolean), Cond.methodLink RX4 16 yX4_isOfArray, Cond.static yX4_isOfArray, Cond.code yX4_isOfArray cX4_isOfArray 1 (some .boolean), Cond.methodLink RX2 97 yX2_hasOperand, Cond.instanceMethod yX2_hasOperand, Cond.selects RX2 yX2_hasOperand yX2_hasOperand, Cond.initialized RX2, Cond.code yX2_hasOperand cX2_hasOperand 6 (some .boolean), Cond.fieldLink RX2 85 "StepRewriter$Method" "locals" "I", Cond.methodLink RX2 105 yX7_valueAt, Cond.methodLink RX2 111 yX0_has, Cond.instanceMethod yX0_has, Cond.selects RX0 yX0_has yX0_has, Cond.initialized RX0, Cond.code yX0_has cX0_has 2 (some .boolean), Cond.fieldLink RX0 32 "StepRewriter$CodeSet" "count" "I", Cond.methodLink RX2 115 yX4_isOfArray, Cond.methodLink RX2 101 yX7_mark, Cond.instanceMethod yX7_mark]
def wsX2_wrongInstruction_r3 : List Cond := [Cond.selects RX7 yX7_mark yX7_mark, Cond.code yX7_mark cX7_mark 3 none]
def wsX2_wrongInstruction : List Cond := .code yX2_wrongInstruction cX2_wrongInstruction 6 (some .int) :: ((wsX2_wrongInstruction_r1 ++ (wsX2_wrongInstruction_r2 ++ wsX2_wrongInstruction_r3)) ++ wsX70 ++ wsX00)
def wsX7_begins : List Cond := .code yX7_begins cX7_begins 2 (some .boolean) :: ([.fieldLink RX7 15 "StepRewriter$Method" "row" "[I", .fieldLink RX7 18 "StepRewriter$Method" "codeAt" "I", .methodLink RX7 46 yX7_hasPlace, .instanceMethod yX7_hasPlace, .selects RX7 yX7_hasPlace yX7_hasPlace, .initialized RX7, .code yX7_hasPlace cX7_hasPlace 2 (some .boolean), .fieldLink RX7 22 "StepRewriter$Method" "length" "I"] ++ wsX70)
def wsX7_setHandlerNumber : List Cond := .code yX7_setHandlerNumber cX7_setHandlerNumber 4 none :: ([.fieldLink RX7 9 "StepRewriter$Method" "table" "[I", .methodLink RX7 74 yX9_put, .static yX9_put, .initialized RX9, .code yX9_put cX9_put 3 none] ++ wsX70)
def wsX2_wrongHandler_r1 : List Cond := [Cond.fieldLink RX2 47 "StepRewriter$Method" "handlers" "I", Cond.fieldLink RX2 59 "StepRewriter$Method" "length" "I", Cond.methodLink RX2 52 yX2_handlerPlace, Cond.instanceMethod yX2_handlerPlace, Cond.selects RX2 yX2_handlerPlace yX2_handlerPlace, Cond.initialized RX2, Cond.code yX2_handlerPlace cX2_handlerPlace 3 (some .int), Cond.fieldLink RX2 56 "StepRewriter$Method" "codeAt" "I", Cond.methodLink RX2 88 yX0_pairAt, Cond.instanceMethod yX0_pairAt, Cond.selects RX0 yX0_pairAt yX0_pairAt, Cond.initialized RX0, Cond.code yX0_pairAt cX0_pairAt 2 (some .int), Cond.methodLink RX0 49 yX0_valueAt, Cond.instanceMethod yX0_valueAt, Cond.selects RX0 yX0_valueAt yX0_valueAt, Cond.code yX0_valueAt cX0_valueAt 2 (some .int), Cond.fieldLink RX0 28 "StepRewriter$CodeSet" "used" "I", Cond.fieldLink RX0 24 "StepRewriter$CodeSet" "row" "[I", Cond.methodLink RX0 45 yX9_at, Cond.static yX9_at, Cond.initialized RX9, Cond.code yX9_at cX9_at 2 (some .int), Cond.methodLink RX2 18 yX0_valueAt]
def wsX2_wrongHandler_r2 : List Cond := [Cond.methodLink RX2 118 yX7_begins, Cond.instanceMethod yX7_begins, Cond.selects RX7 yX7_begins yX7_begins, Cond.initialized RX7, Cond.code yX7_begins cX7_begins 2 (some .boolean), Cond.fieldLink RX7 15 "StepRewriter$Method" "row" "[I", Cond.fieldLink RX7 18 "StepRewriter$Method" "codeAt" "I", Cond.methodLink RX7 46 yX7_hasPlace, Cond.instanceMethod yX7_hasPlace, Cond.selects RX7 yX7_hasPlace yX7_hasPlace, Cond.code yX7_hasPlace cX7_hasPlace 2 (some .boolean), Cond.fieldLink RX7 22 "StepRewriter$Method" "length" "I", Cond.methodLink RX2 121 yX7_setHandlerNumber, Cond.instanceMethod yX7_setHandlerNumber, Cond.selects RX7 yX7_setHandlerNumber yX7_setHandlerNumber, Cond.code yX7_setHandlerNumber cX7_setHandlerNumber 4 none, Cond.fieldLink RX7 9 "StepRewriter$Method" "table" "[I", Cond.methodLink RX7 74 yX9_put, Cond.static yX9_put, Cond.code yX9_put cX9_put 3 none]
def wsX2_wrongHandler : List Cond := .code yX2_wrongHandler cX2_wrongHandler 10 (some .int) :: ((wsX2_wrongHandler_r1 ++ wsX2_wrongHandler_r2) ++ wsX70 ++ wsX00)
def wsX7_jumpsAt : List Cond := .code yX7_jumpsAt cX7_jumpsAt 2 (some .boolean) :: ([.methodLink RX7 57 yX7_begins, .instanceMethod yX7_begins, .selects RX7 yX7_begins yX7_begins, .initialized RX7, .code yX7_begins cX7_begins 2 (some .boolean), .fieldLink RX7 15 "StepRewriter$Method" "row" "[I", .fieldLink RX7 18 "StepRewriter$Method" "codeAt" "I", .methodLink RX7 46 yX7_hasPlace, .instanceMethod yX7_hasPlace, .selects RX7 yX7_hasPlace yX7_hasPlace, .code yX7_hasPlace cX7_hasPlace 2 (some .boolean), .fieldLink RX7 22 "StepRewriter$Method" "length" "I", .methodLink RX7 50 yX7_valueAt, .instanceMethod yX7_valueAt, .selects RX7 yX7_valueAt yX7_valueAt, .code yX7_valueAt cX7_valueAt 2 (some .int), .methodLink RX7 60 yX4_isJump, .static yX4_isJump, .initialized RX4, .code yX4_isJump cX4_isJump 1 (some .boolean), .methodLink RX4 13 yX4_isBranch, .static yX4_isBranch, .code yX4_isBranch cX4_isBranch 1 (some .boolean)] ++ wsX70)
def wsX2_wrongJump_r1 : List Cond := [Cond.fieldLink RX2 59 "StepRewriter$Method" "length" "I", Cond.fieldLink RX2 56 "StepRewriter$Method" "codeAt" "I", Cond.methodLink RX2 125 yX7_jumpsAt, Cond.instanceMethod yX7_jumpsAt, Cond.selects RX7 yX7_jumpsAt yX7_jumpsAt, Cond.initialized RX7, Cond.code yX7_jumpsAt cX7_jumpsAt 2 (some .boolean), Cond.methodLink RX7 57 yX7_begins, Cond.instanceMethod yX7_begins, Cond.selects RX7 yX7_begins yX7_begins, Cond.code yX7_begins cX7_begins 2 (some .boolean), Cond.fieldLink RX7 15 "StepRewriter$Method" "row" "[I", Cond.fieldLink RX7 18 "StepRewriter$Method" "codeAt" "I", Cond.methodLink RX7 46 yX7_hasPlace, Cond.instanceMethod yX7_hasPlace, Cond.selects RX7 yX7_hasPlace yX7_hasPlace, Cond.code yX7_hasPlace cX7_hasPlace 2 (some .boolean), Cond.fieldLink RX7 22 "StepRewriter$Method" "length" "I", Cond.methodLink RX7 50 yX7_valueAt, Cond.instanceMethod yX7_valueAt, Cond.selects RX7 yX7_valueAt yX7_valueAt, Cond.code yX7_valueAt cX7_valueAt 2 (some .int), Cond.methodLink RX7 60 yX4_isJump, Cond.static yX4_isJump]
def wsX2_wrongJump_r2 : List Cond := [Cond.initialized RX4, Cond.code yX4_isJump cX4_isJump 1 (some .boolean), Cond.methodLink RX4 13 yX4_isBranch, Cond.static yX4_isBranch, Cond.code yX4_isBranch cX4_isBranch 1 (some .boolean), Cond.methodLink RX2 128 yX7_targetOf, Cond.instanceMethod yX7_targetOf, Cond.selects RX7 yX7_targetOf yX7_targetOf, Cond.code yX7_targetOf cX7_targetOf 3 (some .int), Cond.methodLink RX2 118 yX7_begins]
def wsX2_wrongJump : List Cond := .code yX2_wrongJump cX2_wrongJump 3 (some .int) :: ((wsX2_wrongJump_r1 ++ wsX2_wrongJump_r2) ++ wsX70)
def wsX7_beginsBlock : List Cond := .code yX7_beginsBlock cX7_beginsBlock 2 (some .boolean) :: ([.fieldLink RX7 15 "StepRewriter$Method" "row" "[I", .fieldLink RX7 18 "StepRewriter$Method" "codeAt" "I", .methodLink RX7 46 yX7_hasPlace, .instanceMethod yX7_hasPlace, .selects RX7 yX7_hasPlace yX7_hasPlace, .initialized RX7, .code yX7_hasPlace cX7_hasPlace 2 (some .boolean), .fieldLink RX7 22 "StepRewriter$Method" "length" "I"] ++ wsX70)
def wsX2_markBlocks_r1 : List Cond := [Cond.fieldLink RX2 59 "StepRewriter$Method" "length" "I", Cond.fieldLink RX2 47 "StepRewriter$Method" "handlers" "I", Cond.fieldLink RX2 138 "StepRewriter$Method" "blocks" "I", Cond.methodLink RX2 101 yX7_mark, Cond.instanceMethod yX7_mark, Cond.selects RX7 yX7_mark yX7_mark, Cond.initialized RX7, Cond.code yX7_mark cX7_mark 3 none, Cond.fieldLink RX7 15 "StepRewriter$Method" "row" "[I", Cond.fieldLink RX7 18 "StepRewriter$Method" "codeAt" "I", Cond.methodLink RX7 46 yX7_hasPlace, Cond.instanceMethod yX7_hasPlace, Cond.selects RX7 yX7_hasPlace yX7_hasPlace, Cond.code yX7_hasPlace cX7_hasPlace 2 (some .boolean), Cond.fieldLink RX7 22 "StepRewriter$Method" "length" "I", Cond.methodLink RX2 125 yX7_jumpsAt, Cond.instanceMethod yX7_jumpsAt, Cond.selects RX7 yX7_jumpsAt yX7_jumpsAt, Cond.code yX7_jumpsAt cX7_jumpsAt 2 (some .boolean), Cond.methodLink RX7 57 yX7_begins, Cond.instanceMethod yX7_begins, Cond.selects RX7 yX7_begins yX7_begins, Cond.code yX7_begins cX7_begins 2 (some .boolean), Cond.methodLink RX7 50 yX7_valueAt]
def wsX2_markBlocks_r2 : List Cond := [Cond.instanceMethod yX7_valueAt, Cond.selects RX7 yX7_valueAt yX7_valueAt, Cond.code yX7_valueAt cX7_valueAt 2 (some .int), Cond.methodLink RX7 60 yX4_isJump, Cond.static yX4_isJump, Cond.initialized RX4, Cond.code yX4_isJump cX4_isJump 1 (some .boolean), Cond.methodLink RX4 13 yX4_isBranch, Cond.static yX4_isBranch, Cond.code yX4_isBranch cX4_isBranch 1 (some .boolean), Cond.methodLink RX2 128 yX7_targetOf, Cond.instanceMethod yX7_targetOf, Cond.selects RX7 yX7_targetOf yX7_targetOf, Cond.code yX7_targetOf cX7_targetOf 3 (some .int), Cond.methodLink RX2 118 yX7_begins, Cond.methodLink RX2 105 yX7_valueAt, Cond.methodLink RX2 131 yX4_endsWay, Cond.static yX4_endsWay, Cond.code yX4_endsWay cX4_endsWay 1 (some .boolean), Cond.methodLink RX2 94 yX7_sizeAt, Cond.instanceMethod yX7_sizeAt, Cond.selects RX7 yX7_sizeAt yX7_sizeAt, Cond.code yX7_sizeAt cX7_sizeAt 2 (some .int), Cond.methodLink RX7 65 yX4_sizeOf]
def wsX2_markBlocks_r3 : List Cond := [Cond.static yX4_sizeOf, Cond.code yX4_sizeOf cX4_sizeOf 1 (some .int), Cond.methodLink RX4 7 yX4_isOfTwo, Cond.static yX4_isOfTwo, Cond.code yX4_isOfTwo cX4_isOfTwo 1 (some .boolean), Cond.methodLink RX4 16 yX4_isOfArray, Cond.static yX4_isOfArray, Cond.code yX4_isOfArray cX4_isOfArray 1 (some .boolean), Cond.methodLink RX2 134 yX7_handlerNumber, Cond.instanceMethod yX7_handlerNumber, Cond.selects RX7 yX7_handlerNumber yX7_handlerNumber, Cond.code yX7_handlerNumber cX7_handlerNumber 3 (some .int), Cond.fieldLink RX7 9 "StepRewriter$Method" "table" "[I", Cond.methodLink RX7 68 yX9_at, Cond.static yX9_at, Cond.initialized RX9, Cond.code yX9_at cX9_at 2 (some .int), Cond.methodLink RX2 141 yX7_beginsBlock, Cond.instanceMethod yX7_beginsBlock, Cond.selects RX7 yX7_beginsBlock yX7_beginsBlock, Cond.code yX7_beginsBlock cX7_beginsBlock 2 (some .boolean)]
def wsX2_markBlocks : List Cond := .code yX2_markBlocks cX2_markBlocks 4 none :: ((wsX2_markBlocks_r1 ++ (wsX2_markBlocks_r2 ++ wsX2_markBlocks_r3)) ++ wsX70)
def wsX2_wrongInMethod_r1 : List Cond := [Cond.methodLink RX2 62 yX7_empty, Cond.instanceMethod yX7_empty, Cond.selects RX7 yX7_empty yX7_empty, Cond.initialized RX7, Cond.code yX7_empty cX7_empty 1 none, Cond.fieldLink RX7 18 "StepRewriter$Method" "codeAt" "I", Cond.fieldLink RX7 22 "StepRewriter$Method" "length" "I", Cond.fieldLink RX7 25 "StepRewriter$Method" "parameters" "I", Cond.fieldLink RX7 28 "StepRewriter$Method" "locals" "I", Cond.fieldLink RX7 31 "StepRewriter$Method" "handlers" "I", Cond.fieldLink RX7 34 "StepRewriter$Method" "blocks" "I", Cond.fieldLink RX7 37 "StepRewriter$Method" "longBranches" "I", Cond.fieldLink RX7 40 "StepRewriter$Method" "longJumps" "I", Cond.fieldLink RX7 43 "StepRewriter$Method" "deepest" "I", Cond.methodLink RX2 65 yX2_wrongNumber, Cond.instanceMethod yX2_wrongNumber, Cond.selects RX2 yX2_wrongNumber yX2_wrongNumber, Cond.initialized RX2, Cond.code yX2_wrongNumber cX2_wrongNumber 5 (some .int), Cond.fieldLink RX2 28 "StepRewriter$CodeSet" "used" "I", Cond.fieldLink RX2 82 "StepRewriter$Method" "parameters" "I", Cond.fieldLink RX2 85 "StepRewriter$Method" "locals" "I", Cond.fieldLink RX2 59 "StepRewriter$Method" "length" "I", Cond.fieldLink RX2 56 "StepRewriter$Method" "codeAt" "I"]
def wsX2_wrongInMethod_r2 : List Cond := [Cond.methodLink RX2 18 yX0_valueAt, Cond.instanceMethod yX0_valueAt, Cond.selects RX0 yX0_valueAt yX0_valueAt, Cond.initialized RX0, Cond.code yX0_valueAt cX0_valueAt 2 (some .int), Cond.fieldLink RX0 28 "StepRewriter$CodeSet" "used" "I", Cond.fieldLink RX0 24 "StepRewriter$CodeSet" "row" "[I", Cond.methodLink RX0 45 yX9_at, Cond.static yX9_at, Cond.initialized RX9, Cond.code yX9_at cX9_at 2 (some .int), Cond.methodLink RX2 88 yX0_pairAt, Cond.instanceMethod yX0_pairAt, Cond.selects RX0 yX0_pairAt yX0_pairAt, Cond.code yX0_pairAt cX0_pairAt 2 (some .int), Cond.methodLink RX0 49 yX0_valueAt, Cond.methodLink RX2 91 yX2_wrongHandlerCount, Cond.instanceMethod yX2_wrongHandlerCount, Cond.selects RX2 yX2_wrongHandlerCount yX2_wrongHandlerCount, Cond.code yX2_wrongHandlerCount cX2_wrongHandlerCount 4 (some .int), Cond.fieldLink RX2 47 "StepRewriter$Method" "handlers" "I", Cond.methodLink RX2 39 yX2_endOf, Cond.instanceMethod yX2_endOf, Cond.selects RX2 yX2_endOf yX2_endOf]
def wsX2_wrongInMethod_r3 : List Cond := [Cond.code yX2_endOf cX2_endOf 2 (some .int), Cond.methodLink RX2 52 yX2_handlerPlace, Cond.instanceMethod yX2_handlerPlace, Cond.selects RX2 yX2_handlerPlace yX2_handlerPlace, Cond.code yX2_handlerPlace cX2_handlerPlace 3 (some .int), Cond.methodLink RX2 68 yX2_wrongInstruction, Cond.instanceMethod yX2_wrongInstruction, Cond.selects RX2 yX2_wrongInstruction yX2_wrongInstruction, Cond.code yX2_wrongInstruction cX2_wrongInstruction 6 (some .int), Cond.fieldLink RX2 108 "StepRewriter$Method" "longJumps" "I", Cond.methodLink RX2 94 yX7_sizeAt, Cond.instanceMethod yX7_sizeAt, Cond.selects RX7 yX7_sizeAt yX7_sizeAt, Cond.code yX7_sizeAt cX7_sizeAt 2 (some .int), Cond.methodLink RX7 50 yX7_valueAt, Cond.instanceMethod yX7_valueAt, Cond.selects RX7 yX7_valueAt yX7_valueAt, Cond.code yX7_valueAt cX7_valueAt 2 (some .int), Cond.fieldLink RX7 15 "StepRewriter$Method" "row" "[I", Cond.methodLink RX7 46 yX7_hasPlace, Cond.instanceMethod yX7_hasPlace, Cond.selects RX7 yX7_hasPlace yX7_hasPlace, Cond.code yX7_hasPlace cX7_hasPlace 2 (some .boolean), Cond.methodLink RX7 65 yX4_sizeOf]
def wsX2_wrongInMethod_r4 : List Cond := [Cond.static yX4_sizeOf, Cond.initialized RX4, Cond.code yX4_sizeOf cX4_sizeOf 1 (some .int), Cond.methodLink RX4 7 yX4_isOfTwo, Cond.static yX4_isOfTwo, Cond.code yX4_isOfTwo cX4_isOfTwo 1 (some .boolean), Cond.methodLink RX4 13 yX4_isBranch, Cond.static yX4_isBranch, Cond.code yX4_isBranch cX4_isBranch 1 (some .boolean), Cond.methodLink RX4 16 yX4_isOfArray, Cond.static yX4_isOfArray, Cond.code yX4_isOfArray cX4_isOfArray 1 (some .boolean), Cond.methodLink RX2 97 yX2_hasOperand, Cond.instanceMethod yX2_hasOperand, Cond.selects RX2 yX2_hasOperand yX2_hasOperand, Cond.code yX2_hasOperand cX2_hasOperand 6 (some .boolean), Cond.methodLink RX2 105 yX7_valueAt, Cond.methodLink RX2 111 yX0_has, Cond.instanceMethod yX0_has, Cond.selects RX0 yX0_has yX0_has, Cond.code yX0_has cX0_has 2 (some .boolean), Cond.fieldLink RX0 32 "StepRewriter$CodeSet" "count" "I", Cond.methodLink RX2 115 yX4_isOfArray, Cond.methodLink RX2 101 yX7_mark]
def wsX2_wrongInMethod_r5 : List Cond := [Cond.instanceMethod yX7_mark, Cond.selects RX7 yX7_mark yX7_mark, Cond.code yX7_mark cX7_mark 3 none, Cond.methodLink RX2 72 yX2_wrongHandler, Cond.instanceMethod yX2_wrongHandler, Cond.selects RX2 yX2_wrongHandler yX2_wrongHandler, Cond.code yX2_wrongHandler cX2_wrongHandler 10 (some .int), Cond.methodLink RX2 118 yX7_begins, Cond.instanceMethod yX7_begins, Cond.selects RX7 yX7_begins yX7_begins, Cond.code yX7_begins cX7_begins 2 (some .boolean), Cond.methodLink RX2 121 yX7_setHandlerNumber, Cond.instanceMethod yX7_setHandlerNumber, Cond.selects RX7 yX7_setHandlerNumber yX7_setHandlerNumber, Cond.code yX7_setHandlerNumber cX7_setHandlerNumber 4 none, Cond.fieldLink RX7 9 "StepRewriter$Method" "table" "[I", Cond.methodLink RX7 74 yX9_put, Cond.static yX9_put, Cond.code yX9_put cX9_put 3 none, Cond.methodLink RX2 75 yX2_wrongJump, Cond.instanceMethod yX2_wrongJump, Cond.selects RX2 yX2_wrongJump yX2_wrongJump, Cond.code yX2_wrongJump cX2_wrongJump 3 (some .int), Cond.methodLink RX2 125 yX7_jumpsAt]
def wsX2_wrongInMethod_r6 : List Cond := [Cond.instanceMethod yX7_jumpsAt, Cond.selects RX7 yX7_jumpsAt yX7_jumpsAt, Cond.code yX7_jumpsAt cX7_jumpsAt 2 (some .boolean), Cond.methodLink RX7 57 yX7_begins, Cond.methodLink RX7 60 yX4_isJump, Cond.static yX4_isJump, Cond.code yX4_isJump cX4_isJump 1 (some .boolean), Cond.methodLink RX2 128 yX7_targetOf, Cond.instanceMethod yX7_targetOf, Cond.selects RX7 yX7_targetOf yX7_targetOf, Cond.code yX7_targetOf cX7_targetOf 3 (some .int), Cond.methodLink RX2 78 yX2_markBlocks, Cond.instanceMethod yX2_markBlocks, Cond.selects RX2 yX2_markBlocks yX2_markBlocks, Cond.code yX2_markBlocks cX2_markBlocks 4 none, Cond.fieldLink RX2 138 "StepRewriter$Method" "blocks" "I", Cond.methodLink RX2 131 yX4_endsWay, Cond.static yX4_endsWay, Cond.code yX4_endsWay cX4_endsWay 1 (some .boolean), Cond.methodLink RX2 134 yX7_handlerNumber, Cond.instanceMethod yX7_handlerNumber, Cond.selects RX7 yX7_handlerNumber yX7_handlerNumber, Cond.code yX7_handlerNumber cX7_handlerNumber 3 (some .int), Cond.methodLink RX7 68 yX9_at]
def wsX2_wrongInMethod_r7 : List Cond := [Cond.methodLink RX2 141 yX7_beginsBlock, Cond.instanceMethod yX7_beginsBlock, Cond.selects RX7 yX7_beginsBlock yX7_beginsBlock, Cond.code yX7_beginsBlock cX7_beginsBlock 2 (some .boolean)]
def wsX2_wrongInMethod : List Cond := .code yX2_wrongInMethod cX2_wrongInMethod 5 (some .int) :: ((wsX2_wrongInMethod_r1 ++ (wsX2_wrongInMethod_r2 ++ (wsX2_wrongInMethod_r3 ++ (wsX2_wrongInMethod_r4 ++ (wsX2_wrongInMethod_r5 ++ (wsX2_wrongInMethod_r6 ++ wsX2_wrongInMethod_r7)))))) ++ wsX70 ++ wsX00)
def wsX2_firstWrong_r1 : List Cond := [Cond.fieldLink RX2 24 "StepRewriter$CodeSet" "count" "I", Cond.fieldLink RX2 28 "StepRewriter$CodeSet" "used" "I", Cond.fieldLink RX2 12 "StepRewriter$FormCheck" "depths" "LStepRewriter$DepthCheck;", Cond.methodLink RX2 18 yX0_valueAt, Cond.instanceMethod yX0_valueAt, Cond.selects RX0 yX0_valueAt yX0_valueAt, Cond.initialized RX0, Cond.code yX0_valueAt cX0_valueAt 2 (some .int), Cond.fieldLink RX0 28 "StepRewriter$CodeSet" "used" "I", Cond.fieldLink RX0 24 "StepRewriter$CodeSet" "row" "[I", Cond.methodLink RX0 45 yX9_at, Cond.static yX9_at, Cond.initialized RX9, Cond.code yX9_at cX9_at 2 (some .int), Cond.methodLink RX2 31 yX0_method, Cond.instanceMethod yX0_method, Cond.selects RX0 yX0_method yX0_method, Cond.code yX0_method cX0_method 2 (some (.object "StepRewriter$Method")), Cond.fieldLink RX0 11 "StepRewriter$CodeSet" "methods" "[LStepRewriter$Method;", Cond.fieldLink RX0 20 "StepRewriter$CodeSet" "none" "LStepRewriter$Method;", Cond.methodLink RX2 35 yX2_wrongInMethod, Cond.instanceMethod yX2_wrongInMethod, Cond.selects RX2 yX2_wrongInMethod yX2_wrongInMethod, Cond.initialized RX2]
def wsX2_firstWrong_r2 : List Cond := [Cond.code yX2_wrongInMethod cX2_wrongInMethod 5 (some .int), Cond.methodLink RX2 62 yX7_empty, Cond.instanceMethod yX7_empty, Cond.selects RX7 yX7_empty yX7_empty, Cond.initialized RX7, Cond.code yX7_empty cX7_empty 1 none, Cond.fieldLink RX7 18 "StepRewriter$Method" "codeAt" "I", Cond.fieldLink RX7 22 "StepRewriter$Method" "length" "I", Cond.fieldLink RX7 25 "StepRewriter$Method" "parameters" "I", Cond.fieldLink RX7 28 "StepRewriter$Method" "locals" "I", Cond.fieldLink RX7 31 "StepRewriter$Method" "handlers" "I", Cond.fieldLink RX7 34 "StepRewriter$Method" "blocks" "I", Cond.fieldLink RX7 37 "StepRewriter$Method" "longBranches" "I", Cond.fieldLink RX7 40 "StepRewriter$Method" "longJumps" "I", Cond.fieldLink RX7 43 "StepRewriter$Method" "deepest" "I", Cond.methodLink RX2 65 yX2_wrongNumber, Cond.instanceMethod yX2_wrongNumber, Cond.selects RX2 yX2_wrongNumber yX2_wrongNumber, Cond.code yX2_wrongNumber cX2_wrongNumber 5 (some .int), Cond.fieldLink RX2 82 "StepRewriter$Method" "parameters" "I", Cond.fieldLink RX2 85 "StepRewriter$Method" "locals" "I", Cond.fieldLink RX2 59 "StepRewriter$Method" "length" "I", Cond.fieldLink RX2 56 "StepRewriter$Method" "codeAt" "I", Cond.methodLink RX2 88 yX0_pairAt]
def wsX2_firstWrong_r3 : List Cond := [Cond.instanceMethod yX0_pairAt, Cond.selects RX0 yX0_pairAt yX0_pairAt, Cond.code yX0_pairAt cX0_pairAt 2 (some .int), Cond.methodLink RX0 49 yX0_valueAt, Cond.methodLink RX2 91 yX2_wrongHandlerCount, Cond.instanceMethod yX2_wrongHandlerCount, Cond.selects RX2 yX2_wrongHandlerCount yX2_wrongHandlerCount, Cond.code yX2_wrongHandlerCount cX2_wrongHandlerCount 4 (some .int), Cond.fieldLink RX2 47 "StepRewriter$Method" "handlers" "I", Cond.methodLink RX2 39 yX2_endOf, Cond.instanceMethod yX2_endOf, Cond.selects RX2 yX2_endOf yX2_endOf, Cond.code yX2_endOf cX2_endOf 2 (some .int), Cond.methodLink RX2 52 yX2_handlerPlace, Cond.instanceMethod yX2_handlerPlace, Cond.selects RX2 yX2_handlerPlace yX2_handlerPlace, Cond.code yX2_handlerPlace cX2_handlerPlace 3 (some .int), Cond.methodLink RX2 68 yX2_wrongInstruction, Cond.instanceMethod yX2_wrongInstruction, Cond.selects RX2 yX2_wrongInstruction yX2_wrongInstruction, Cond.code yX2_wrongInstruction cX2_wrongInstruction 6 (some .int), Cond.fieldLink RX2 108 "StepRewriter$Method" "longJumps" "I", Cond.methodLink RX2 94 yX7_sizeAt, Cond.instanceMethod yX7_sizeAt]
def wsX2_firstWrong_r4 : List Cond := [Cond.selects RX7 yX7_sizeAt yX7_sizeAt, Cond.code yX7_sizeAt cX7_sizeAt 2 (some .int), Cond.methodLink RX7 50 yX7_valueAt, Cond.instanceMethod yX7_valueAt, Cond.selects RX7 yX7_valueAt yX7_valueAt, Cond.code yX7_valueAt cX7_valueAt 2 (some .int), Cond.fieldLink RX7 15 "StepRewriter$Method" "row" "[I", Cond.methodLink RX7 46 yX7_hasPlace, Cond.instanceMethod yX7_hasPlace, Cond.selects RX7 yX7_hasPlace yX7_hasPlace, Cond.code yX7_hasPlace cX7_hasPlace 2 (some .boolean), Cond.methodLink RX7 65 yX4_sizeOf, Cond.static yX4_sizeOf, Cond.initialized RX4, Cond.code yX4_sizeOf cX4_sizeOf 1 (some .int), Cond.methodLink RX4 7 yX4_isOfTwo, Cond.static yX4_isOfTwo, Cond.code yX4_isOfTwo cX4_isOfTwo 1 (some .boolean), Cond.methodLink RX4 13 yX4_isBranch, Cond.static yX4_isBranch, Cond.code yX4_isBranch cX4_isBranch 1 (some .boolean), Cond.methodLink RX4 16 yX4_isOfArray, Cond.static yX4_isOfArray, Cond.code yX4_isOfArray cX4_isOfArray 1 (some .boolean)]
def wsX2_firstWrong_r5 : List Cond := [Cond.methodLink RX2 97 yX2_hasOperand, Cond.instanceMethod yX2_hasOperand, Cond.selects RX2 yX2_hasOperand yX2_hasOperand, Cond.code yX2_hasOperand cX2_hasOperand 6 (some .boolean), Cond.methodLink RX2 105 yX7_valueAt, Cond.methodLink RX2 111 yX0_has, Cond.instanceMethod yX0_has, Cond.selects RX0 yX0_has yX0_has, Cond.code yX0_has cX0_has 2 (some .boolean), Cond.fieldLink RX0 32 "StepRewriter$CodeSet" "count" "I", Cond.methodLink RX2 115 yX4_isOfArray, Cond.methodLink RX2 101 yX7_mark, Cond.instanceMethod yX7_mark, Cond.selects RX7 yX7_mark yX7_mark, Cond.code yX7_mark cX7_mark 3 none, Cond.methodLink RX2 72 yX2_wrongHandler, Cond.instanceMethod yX2_wrongHandler, Cond.selects RX2 yX2_wrongHandler yX2_wrongHandler, Cond.code yX2_wrongHandler cX2_wrongHandler 10 (some .int), Cond.methodLink RX2 118 yX7_begins, Cond.instanceMethod yX7_begins, Cond.selects RX7 yX7_begins yX7_begins, Cond.code yX7_begins cX7_begins 2 (some .boolean), Cond.methodLink RX2 121 yX7_setHandlerNumber]
def wsX2_firstWrong_r6 : List Cond := [Cond.instanceMethod yX7_setHandlerNumber, Cond.selects RX7 yX7_setHandlerNumber yX7_setHandlerNumber, Cond.code yX7_setHandlerNumber cX7_setHandlerNumber 4 none, Cond.fieldLink RX7 9 "StepRewriter$Method" "table" "[I", Cond.methodLink RX7 74 yX9_put, Cond.static yX9_put, Cond.code yX9_put cX9_put 3 none, Cond.methodLink RX2 75 yX2_wrongJump, Cond.instanceMethod yX2_wrongJump, Cond.selects RX2 yX2_wrongJump yX2_wrongJump, Cond.code yX2_wrongJump cX2_wrongJump 3 (some .int), Cond.methodLink RX2 125 yX7_jumpsAt, Cond.instanceMethod yX7_jumpsAt, Cond.selects RX7 yX7_jumpsAt yX7_jumpsAt, Cond.code yX7_jumpsAt cX7_jumpsAt 2 (some .boolean), Cond.methodLink RX7 57 yX7_begins, Cond.methodLink RX7 60 yX4_isJump, Cond.static yX4_isJump, Cond.code yX4_isJump cX4_isJump 1 (some .boolean), Cond.methodLink RX2 128 yX7_targetOf, Cond.instanceMethod yX7_targetOf, Cond.selects RX7 yX7_targetOf yX7_targetOf, Cond.code yX7_targetOf cX7_targetOf 3 (some .int), Cond.methodLink RX2 78 yX2_markBlocks]
def wsX2_firstWrong_r7 : List Cond := [Cond.instanceMethod yX2_markBlocks, Cond.selects RX2 yX2_markBlocks yX2_markBlocks, Cond.code yX2_markBlocks cX2_markBlocks 4 none, Cond.fieldLink RX2 138 "StepRewriter$Method" "blocks" "I", Cond.methodLink RX2 131 yX4_endsWay, Cond.static yX4_endsWay, Cond.code yX4_endsWay cX4_endsWay 1 (some .boolean), Cond.methodLink RX2 134 yX7_handlerNumber, Cond.instanceMethod yX7_handlerNumber, Cond.selects RX7 yX7_handlerNumber yX7_handlerNumber, Cond.code yX7_handlerNumber cX7_handlerNumber 3 (some .int), Cond.methodLink RX7 68 yX9_at, Cond.methodLink RX2 141 yX7_beginsBlock, Cond.instanceMethod yX7_beginsBlock, Cond.selects RX7 yX7_beginsBlock yX7_beginsBlock, Cond.code yX7_beginsBlock cX7_beginsBlock 2 (some .boolean), Cond.methodLink RX2 43 yX1_firstWrong, Cond.instanceMethod yX1_firstWrong, Cond.selects RX1 yX1_firstWrong yX1_firstWrong, Cond.initialized RX1, Cond.code yX1_firstWrong cX1_firstWrong 4 (some .int), Cond.fieldLink RX1 18 "StepRewriter$CodeSet" "count" "I", Cond.fieldLink RX1 32 "StepRewriter$Method" "codeAt" "I", Cond.methodLink RX1 24 yX0_method]
def wsX2_firstWrong_r8 : List Cond := [Cond.methodLink RX1 28 yX1_wrongPlace, Cond.instanceMethod yX1_wrongPlace, Cond.selects RX1 yX1_wrongPlace yX1_wrongPlace, Cond.code yX1_wrongPlace cX1_wrongPlace 5 (some .int), Cond.fieldLink RX1 9 "StepRewriter$DepthCheck" "depths" "[I", Cond.fieldLink RX1 15 "StepRewriter$DepthCheck" "gone" "[I", Cond.fieldLink RX1 43 "StepRewriter$DepthCheck" "lowest" "I", Cond.fieldLink RX1 52 "StepRewriter$Method" "handlers" "I", Cond.fieldLink RX1 59 "StepRewriter$Method" "length" "I", Cond.fieldLink RX1 74 "StepRewriter$Method" "deepest" "I", Cond.methodLink RX1 37 yJ7_fill_53178, Cond.static yJ7_fill_53178, Cond.initialized RJ7, Cond.code yJ7_fill_53178 cJ7_fill_53178 4 none, Cond.methodLink RX1 46 yX9_put, Cond.methodLink RX1 55 yX7_handlerNumber, Cond.methodLink RX1 62 yX1_findLowest, Cond.instanceMethod yX1_findLowest, Cond.selects RX1 yX1_findLowest yX1_findLowest, Cond.code yX1_findLowest cX1_findLowest 2 (some .boolean), Cond.methodLink RX1 77 yX9_at, Cond.methodLink RX1 66 yX1_goOn, Cond.instanceMethod yX1_goOn, Cond.selects RX1 yX1_goOn yX1_goOn]
def wsX2_firstWrong_r9 : List Cond := [Cond.code yX1_goOn cX1_goOn 13 (some .int), Cond.fieldLink RX1 90 "StepRewriter$Method" "parameters" "I", Cond.methodLink RX1 111 Lib.Math.min.name, Cond.static Lib.Math.min.name, Cond.initialized "java/lang/Math", Cond.code Lib.Math.min.name Lib.Math.min.code 2 (some .int), Cond.methodLink RX1 81 yX7_valueAt, Cond.methodLink RX1 87 yX4_takes, Cond.static yX4_takes, Cond.code yX4_takes cX4_takes 1 (some .int), Cond.methodLink RX1 93 yX4_gives, Cond.static yX4_gives, Cond.code yX4_gives cX4_gives 1 (some .int), Cond.methodLink RX1 96 yX7_sizeAt, Cond.methodLink RX1 99 yX4_endsWay, Cond.methodLink RX1 102 yX1_reach, Cond.instanceMethod yX1_reach, Cond.selects RX1 yX1_reach yX1_reach, Cond.code yX1_reach cX1_reach 4 (some .int), Cond.methodLink RX1 105 yX4_isJump, Cond.methodLink RX1 108 yX7_targetOf, Cond.methodLink RX1 70 yX1_greatest, Cond.instanceMethod yX1_greatest, Cond.selects RX1 yX1_greatest yX1_greatest]
def wsX2_firstWrong_r10 : List Cond := [Cond.code yX1_greatest cX1_greatest 3 (some .int), Cond.methodLink RX1 116 Lib.Math.max.name, Cond.static Lib.Math.max.name, Cond.code Lib.Math.max.name Lib.Math.max.code 2 (some .int)]
def wsX2_firstWrong : List Cond := .code yX2_firstWrong cX2_firstWrong 5 (some .int) :: ((wsX2_firstWrong_r1 ++ (wsX2_firstWrong_r2 ++ (wsX2_firstWrong_r3 ++ (wsX2_firstWrong_r4 ++ (wsX2_firstWrong_r5 ++ (wsX2_firstWrong_r6 ++ (wsX2_firstWrong_r7 ++ (wsX2_firstWrong_r8 ++ (wsX2_firstWrong_r9 ++ wsX2_firstWrong_r10))))))))) ++ wsX00 ++ wsX20 ++ wsX70 ++ wsX10)
def wsX3_init : List Cond := .code yX3_init cX3_init 2 none :: ([.methodLink RX3 3 objectInit, .instanceMethod objectInit, .code objectInit ⟨#[0xb1]⟩ 1 none, .arrayClass .int, .fieldLink RX3 9 "StepRewriter$Frame" "locals" "[I", .fieldLink RX3 15 "StepRewriter$Frame" "stack" "[I", .fieldLink RX3 18 "StepRewriter$Frame" "method" "LStepRewriter$Method;"] ++ wsX30)
def wsX3_begin : List Cond := .code yX3_begin cX3_begin 2 none :: ([.fieldLink RX3 18 "StepRewriter$Frame" "method" "LStepRewriter$Method;", .fieldLink RX3 22 "StepRewriter$Frame" "place" "I", .fieldLink RX3 26 "StepRewriter$Frame" "top" "I", .fieldLink RX3 9 "StepRewriter$Frame" "locals" "[I", .methodLink RX3 29 yJ7_fill_53178, .static yJ7_fill_53178, .initialized RJ7, .code yJ7_fill_53178 cJ7_fill_53178 4 none] ++ wsX30)
def wsX3_kind : List Cond := .code yX3_kind cX3_kind 1 (some .int) :: ([.fieldLink RX3 18 "StepRewriter$Frame" "method" "LStepRewriter$Method;", .fieldLink RX3 22 "StepRewriter$Frame" "place" "I", .methodLink RX3 35 yX7_valueAt, .instanceMethod yX7_valueAt, .selects RX7 yX7_valueAt yX7_valueAt, .initialized RX7, .code yX7_valueAt cX7_valueAt 2 (some .int), .fieldLink RX7 15 "StepRewriter$Method" "row" "[I", .fieldLink RX7 18 "StepRewriter$Method" "codeAt" "I", .methodLink RX7 46 yX7_hasPlace, .instanceMethod yX7_hasPlace, .selects RX7 yX7_hasPlace yX7_hasPlace, .code yX7_hasPlace cX7_hasPlace 2 (some .boolean), .fieldLink RX7 22 "StepRewriter$Method" "length" "I"] ++ wsX30 ++ wsX70)
def wsX3_operand : List Cond := .code yX3_operand cX3_operand 1 (some .int) :: ([.fieldLink RX3 18 "StepRewriter$Frame" "method" "LStepRewriter$Method;", .fieldLink RX3 22 "StepRewriter$Frame" "place" "I", .methodLink RX3 35 yX7_valueAt, .instanceMethod yX7_valueAt, .selects RX7 yX7_valueAt yX7_valueAt, .initialized RX7, .code yX7_valueAt cX7_valueAt 2 (some .int), .fieldLink RX7 15 "StepRewriter$Method" "row" "[I", .fieldLink RX7 18 "StepRewriter$Method" "codeAt" "I", .methodLink RX7 46 yX7_hasPlace, .instanceMethod yX7_hasPlace, .selects RX7 yX7_hasPlace yX7_hasPlace, .code yX7_hasPlace cX7_hasPlace 2 (some .boolean), .fieldLink RX7 22 "StepRewriter$Method" "length" "I"] ++ wsX30 ++ wsX70)
def wsX3_push : List Cond := .code yX3_push cX3_push 2 none :: ([.fieldLink RX3 26 "StepRewriter$Frame" "top" "I", .fieldLink RX3 15 "StepRewriter$Frame" "stack" "[I", .methodLink RX3 41 yX9_put, .static yX9_put, .initialized RX9, .code yX9_put cX9_put 3 none] ++ wsX30)
def wsX3_pop : List Cond := .code yX3_pop cX3_pop 1 (some .int) :: ([.fieldLink RX3 26 "StepRewriter$Frame" "top" "I", .fieldLink RX3 15 "StepRewriter$Frame" "stack" "[I", .methodLink RX3 47 yX9_at, .static yX9_at, .initialized RX9, .code yX9_at cX9_at 2 (some .int)] ++ wsX30)
def wsX3_peek : List Cond := .code yX3_peek cX3_peek 1 (some .int) :: ([.fieldLink RX3 15 "StepRewriter$Frame" "stack" "[I", .fieldLink RX3 26 "StepRewriter$Frame" "top" "I", .methodLink RX3 47 yX9_at, .static yX9_at, .initialized RX9, .code yX9_at cX9_at 2 (some .int)] ++ wsX30)
def wsX3_local : List Cond := .code yX3_local cX3_local 2 (some .int) :: ([.fieldLink RX3 9 "StepRewriter$Frame" "locals" "[I", .methodLink RX3 47 yX9_at, .static yX9_at, .initialized RX9, .code yX9_at cX9_at 2 (some .int)] ++ wsX30)
def wsX3_setLocal : List Cond := .code yX3_setLocal cX3_setLocal 3 none :: ([.fieldLink RX3 9 "StepRewriter$Frame" "locals" "[I", .methodLink RX3 41 yX9_put, .static yX9_put, .initialized RX9, .code yX9_put cX9_put 3 none] ++ wsX30)
def wsX3_goOnWith : List Cond := .code yX3_goOnWith cX3_goOnWith 3 none :: ([.fieldLink RX3 26 "StepRewriter$Frame" "top" "I", .fieldLink RX3 22 "StepRewriter$Frame" "place" "I", .methodLink RX3 51 yX3_push, .instanceMethod yX3_push, .selects RX3 yX3_push yX3_push, .initialized RX3, .code yX3_push cX3_push 2 none, .fieldLink RX3 15 "StepRewriter$Frame" "stack" "[I", .methodLink RX3 41 yX9_put, .static yX9_put, .initialized RX9, .code yX9_put cX9_put 3 none] ++ wsX30)
def wsX4_opposite : List Cond := .code yX4_opposite cX4_opposite 1 (some .int) :: ([])
def wsX4_isTaken : List Cond := .code yX4_isTaken cX4_isTaken 2 (some .boolean) :: ([])
def wsX5_init : List Cond := .code yX5_init cX5_init 1 none :: ([.methodLink RX5 3 objectInit, .instanceMethod objectInit, .code objectInit ⟨#[0xb1]⟩ 1 none, .arrayClass .int, .fieldLink RX5 9 "StepRewriter$Layout" "sums" "[I", .fieldLink RX5 15 "StepRewriter$Layout" "places" "[I", .fieldLink RX5 18 "StepRewriter$Layout" "ways" "[I", .fieldLink RX5 21 "StepRewriter$Layout" "longs" "[I"] ++ wsX50)
def wsX8_of : List Cond := .code yX8_of cX8_of 2 (some .int) :: ([.fieldLink RX8 9 "StepRewriter$Prices" "row" "[I", .methodLink RX8 30 yX9_at, .static yX9_at, .initialized RX9, .code yX9_at cX9_at 2 (some .int)] ++ wsX80)
def wsX7_sumFrom_r1 : List Cond := [Cond.fieldLink RX7 22 "StepRewriter$Method" "length" "I", Cond.methodLink RX7 78 yX7_beginsBlock, Cond.instanceMethod yX7_beginsBlock, Cond.selects RX7 yX7_beginsBlock yX7_beginsBlock, Cond.initialized RX7, Cond.code yX7_beginsBlock cX7_beginsBlock 2 (some .boolean), Cond.fieldLink RX7 15 "StepRewriter$Method" "row" "[I", Cond.fieldLink RX7 18 "StepRewriter$Method" "codeAt" "I", Cond.methodLink RX7 46 yX7_hasPlace, Cond.instanceMethod yX7_hasPlace, Cond.selects RX7 yX7_hasPlace yX7_hasPlace, Cond.code yX7_hasPlace cX7_hasPlace 2 (some .boolean), Cond.methodLink RX7 57 yX7_begins, Cond.instanceMethod yX7_begins, Cond.selects RX7 yX7_begins yX7_begins, Cond.code yX7_begins cX7_begins 2 (some .boolean), Cond.methodLink RX7 50 yX7_valueAt, Cond.instanceMethod yX7_valueAt, Cond.selects RX7 yX7_valueAt yX7_valueAt, Cond.code yX7_valueAt cX7_valueAt 2 (some .int), Cond.methodLink RX7 81 yX8_of, Cond.instanceMethod yX8_of, Cond.selects RX8 yX8_of yX8_of, Cond.initialized RX8]
def wsX7_sumFrom_r2 : List Cond := [Cond.code yX8_of cX8_of 2 (some .int), Cond.fieldLink RX8 9 "StepRewriter$Prices" "row" "[I", Cond.methodLink RX8 30 yX9_at, Cond.static yX9_at, Cond.initialized RX9, Cond.code yX9_at cX9_at 2 (some .int)]
def wsX7_sumFrom : List Cond := .code yX7_sumFrom cX7_sumFrom 5 (some .int) :: ((wsX7_sumFrom_r1 ++ wsX7_sumFrom_r2) ++ wsX70 ++ wsX80)
def wsX5_takeSums_r1 : List Cond := [Cond.fieldLink RX5 9 "StepRewriter$Layout" "sums" "[I", Cond.fieldLink RX5 24 "StepRewriter$Layout" "paying" "Z", Cond.fieldLink RX5 42 "StepRewriter$Method" "length" "I", Cond.methodLink RX5 32 yJ7_fill_53178, Cond.static yJ7_fill_53178, Cond.initialized RJ7, Cond.code yJ7_fill_53178 cJ7_fill_53178 4 none, Cond.methodLink RX5 84 yX7_beginsBlock, Cond.instanceMethod yX7_beginsBlock, Cond.selects RX7 yX7_beginsBlock yX7_beginsBlock, Cond.initialized RX7, Cond.code yX7_beginsBlock cX7_beginsBlock 2 (some .boolean), Cond.fieldLink RX7 15 "StepRewriter$Method" "row" "[I", Cond.fieldLink RX7 18 "StepRewriter$Method" "codeAt" "I", Cond.methodLink RX7 46 yX7_hasPlace, Cond.instanceMethod yX7_hasPlace, Cond.selects RX7 yX7_hasPlace yX7_hasPlace, Cond.code yX7_hasPlace cX7_hasPlace 2 (some .boolean), Cond.fieldLink RX7 22 "StepRewriter$Method" "length" "I", Cond.methodLink RX5 87 yX7_sumFrom, Cond.instanceMethod yX7_sumFrom, Cond.selects RX7 yX7_sumFrom yX7_sumFrom, Cond.code yX7_sumFrom cX7_sumFrom 5 (some .int), Cond.methodLink RX7 78 yX7_beginsBlock]
def wsX5_takeSums_r2 : List Cond := [Cond.methodLink RX7 57 yX7_begins, Cond.instanceMethod yX7_begins, Cond.selects RX7 yX7_begins yX7_begins, Cond.code yX7_begins cX7_begins 2 (some .boolean), Cond.methodLink RX7 50 yX7_valueAt, Cond.instanceMethod yX7_valueAt, Cond.selects RX7 yX7_valueAt yX7_valueAt, Cond.code yX7_valueAt cX7_valueAt 2 (some .int), Cond.methodLink RX7 81 yX8_of, Cond.instanceMethod yX8_of, Cond.selects RX8 yX8_of yX8_of, Cond.initialized RX8, Cond.code yX8_of cX8_of 2 (some .int), Cond.fieldLink RX8 9 "StepRewriter$Prices" "row" "[I", Cond.methodLink RX8 30 yX9_at, Cond.static yX9_at, Cond.initialized RX9, Cond.code yX9_at cX9_at 2 (some .int), Cond.methodLink RX5 91 yX9_put, Cond.static yX9_put, Cond.code yX9_put cX9_put 3 none]
def wsX5_takeSums : List Cond := .code yX5_takeSums cX5_takeSums 4 none :: ((wsX5_takeSums_r1 ++ wsX5_takeSums_r2) ++ wsX50 ++ wsX70 ++ wsX80)
def wsX5_sumBytes : List Cond := .code yX5_sumBytes cX5_sumBytes 2 (some .int) :: ([.fieldLink RX5 9 "StepRewriter$Layout" "sums" "[I", .methodLink RX5 113 yX9_at, .static yX9_at, .initialized RX9, .code yX9_at cX9_at 2 (some .int)] ++ wsX50)
def wsX5_paysTop : List Cond := .code yX5_paysTop cX5_paysTop 3 (some .boolean) :: ([.fieldLink RX5 24 "StepRewriter$Layout" "paying" "Z", .methodLink RX5 117 yX7_valueAt, .instanceMethod yX7_valueAt, .selects RX7 yX7_valueAt yX7_valueAt, .initialized RX7, .code yX7_valueAt cX7_valueAt 2 (some .int), .fieldLink RX7 15 "StepRewriter$Method" "row" "[I", .fieldLink RX7 18 "StepRewriter$Method" "codeAt" "I", .methodLink RX7 46 yX7_hasPlace, .instanceMethod yX7_hasPlace, .selects RX7 yX7_hasPlace yX7_hasPlace, .code yX7_hasPlace cX7_hasPlace 2 (some .boolean), .fieldLink RX7 22 "StepRewriter$Method" "length" "I"] ++ wsX50 ++ wsX70)
def wsX5_bytesAhead_r1 : List Cond := [Cond.methodLink RX5 123 yX5_sumBytes, Cond.instanceMethod yX5_sumBytes, Cond.selects RX5 yX5_sumBytes yX5_sumBytes, Cond.initialized RX5, Cond.code yX5_sumBytes cX5_sumBytes 2 (some .int), Cond.fieldLink RX5 9 "StepRewriter$Layout" "sums" "[I", Cond.methodLink RX5 113 yX9_at, Cond.static yX9_at, Cond.initialized RX9, Cond.code yX9_at cX9_at 2 (some .int), Cond.methodLink RX5 126 yX5_paysTop, Cond.instanceMethod yX5_paysTop, Cond.selects RX5 yX5_paysTop yX5_paysTop, Cond.code yX5_paysTop cX5_paysTop 3 (some .boolean), Cond.fieldLink RX5 24 "StepRewriter$Layout" "paying" "Z", Cond.methodLink RX5 117 yX7_valueAt, Cond.instanceMethod yX7_valueAt, Cond.selects RX7 yX7_valueAt yX7_valueAt, Cond.initialized RX7, Cond.code yX7_valueAt cX7_valueAt 2 (some .int), Cond.fieldLink RX7 15 "StepRewriter$Method" "row" "[I", Cond.fieldLink RX7 18 "StepRewriter$Method" "codeAt" "I", Cond.methodLink RX7 46 yX7_hasPlace, Cond.instanceMethod yX7_hasPlace]
def wsX5_bytesAhead_r2 : List Cond := [Cond.selects RX7 yX7_hasPlace yX7_hasPlace, Cond.code yX7_hasPlace cX7_hasPlace 2 (some .boolean), Cond.fieldLink RX7 22 "StepRewriter$Method" "length" "I"]
def wsX5_bytesAhead : List Cond := .code yX5_bytesAhead cX5_bytesAhead 3 (some .int) :: ((wsX5_bytesAhead_r1 ++ wsX5_bytesAhead_r2) ++ wsX50 ++ wsX70)
def wsX5_isLong : List Cond := .code yX5_isLong cX5_isLong 2 (some .boolean) :: ([.fieldLink RX5 21 "StepRewriter$Layout" "longs" "[I", .methodLink RX5 113 yX9_at, .static yX9_at, .initialized RX9, .code yX9_at cX9_at 2 (some .int)] ++ wsX50)
def wsX5_bytesOf_r1 : List Cond := [Cond.methodLink RX5 117 yX7_valueAt, Cond.instanceMethod yX7_valueAt, Cond.selects RX7 yX7_valueAt yX7_valueAt, Cond.initialized RX7, Cond.code yX7_valueAt cX7_valueAt 2 (some .int), Cond.fieldLink RX7 15 "StepRewriter$Method" "row" "[I", Cond.fieldLink RX7 18 "StepRewriter$Method" "codeAt" "I", Cond.methodLink RX7 46 yX7_hasPlace, Cond.instanceMethod yX7_hasPlace, Cond.selects RX7 yX7_hasPlace yX7_hasPlace, Cond.code yX7_hasPlace cX7_hasPlace 2 (some .boolean), Cond.fieldLink RX7 22 "StepRewriter$Method" "length" "I", Cond.methodLink RX5 130 yX4_isJump, Cond.static yX4_isJump, Cond.initialized RX4, Cond.code yX4_isJump cX4_isJump 1 (some .boolean), Cond.methodLink RX4 13 yX4_isBranch, Cond.static yX4_isBranch, Cond.code yX4_isBranch cX4_isBranch 1 (some .boolean), Cond.methodLink RX5 133 yX4_sizeOf, Cond.static yX4_sizeOf, Cond.code yX4_sizeOf cX4_sizeOf 1 (some .int), Cond.methodLink RX4 7 yX4_isOfTwo, Cond.static yX4_isOfTwo]
def wsX5_bytesOf_r2 : List Cond := [Cond.code yX4_isOfTwo cX4_isOfTwo 1 (some .boolean), Cond.methodLink RX4 16 yX4_isOfArray, Cond.static yX4_isOfArray, Cond.code yX4_isOfArray cX4_isOfArray 1 (some .boolean), Cond.methodLink RX5 110 yX5_isLong, Cond.instanceMethod yX5_isLong, Cond.selects RX5 yX5_isLong yX5_isLong, Cond.initialized RX5, Cond.code yX5_isLong cX5_isLong 2 (some .boolean), Cond.fieldLink RX5 21 "StepRewriter$Layout" "longs" "[I", Cond.methodLink RX5 113 yX9_at, Cond.static yX9_at, Cond.initialized RX9, Cond.code yX9_at cX9_at 2 (some .int), Cond.methodLink RX5 136 yX4_isBranch]
def wsX5_bytesOf : List Cond := .code yX5_bytesOf cX5_bytesOf 4 (some .int) :: ((wsX5_bytesOf_r1 ++ wsX5_bytesOf_r2) ++ wsX70 ++ wsX50)
def wsX5_placeAll_r1 : List Cond := [Cond.fieldLink RX5 42 "StepRewriter$Method" "length" "I", Cond.fieldLink RX5 15 "StepRewriter$Layout" "places" "[I", Cond.methodLink RX5 72 yX7_begins, Cond.instanceMethod yX7_begins, Cond.selects RX7 yX7_begins yX7_begins, Cond.initialized RX7, Cond.code yX7_begins cX7_begins 2 (some .boolean), Cond.fieldLink RX7 15 "StepRewriter$Method" "row" "[I", Cond.fieldLink RX7 18 "StepRewriter$Method" "codeAt" "I", Cond.methodLink RX7 46 yX7_hasPlace, Cond.instanceMethod yX7_hasPlace, Cond.selects RX7 yX7_hasPlace yX7_hasPlace, Cond.code yX7_hasPlace cX7_hasPlace 2 (some .boolean), Cond.fieldLink RX7 22 "StepRewriter$Method" "length" "I", Cond.methodLink RX5 91 yX9_put, Cond.static yX9_put, Cond.initialized RX9, Cond.code yX9_put cX9_put 3 none, Cond.methodLink RX5 97 yX5_bytesAhead, Cond.instanceMethod yX5_bytesAhead, Cond.selects RX5 yX5_bytesAhead yX5_bytesAhead, Cond.initialized RX5, Cond.code yX5_bytesAhead cX5_bytesAhead 3 (some .int), Cond.methodLink RX5 123 yX5_sumBytes]
def wsX5_placeAll_r2 : List Cond := [Cond.instanceMethod yX5_sumBytes, Cond.selects RX5 yX5_sumBytes yX5_sumBytes, Cond.code yX5_sumBytes cX5_sumBytes 2 (some .int), Cond.fieldLink RX5 9 "StepRewriter$Layout" "sums" "[I", Cond.methodLink RX5 113 yX9_at, Cond.static yX9_at, Cond.code yX9_at cX9_at 2 (some .int), Cond.methodLink RX5 126 yX5_paysTop, Cond.instanceMethod yX5_paysTop, Cond.selects RX5 yX5_paysTop yX5_paysTop, Cond.code yX5_paysTop cX5_paysTop 3 (some .boolean), Cond.fieldLink RX5 24 "StepRewriter$Layout" "paying" "Z", Cond.methodLink RX5 117 yX7_valueAt, Cond.instanceMethod yX7_valueAt, Cond.selects RX7 yX7_valueAt yX7_valueAt, Cond.code yX7_valueAt cX7_valueAt 2 (some .int), Cond.methodLink RX5 101 yX5_bytesOf, Cond.instanceMethod yX5_bytesOf, Cond.selects RX5 yX5_bytesOf yX5_bytesOf, Cond.code yX5_bytesOf cX5_bytesOf 4 (some .int), Cond.methodLink RX5 130 yX4_isJump, Cond.static yX4_isJump, Cond.initialized RX4, Cond.code yX4_isJump cX4_isJump 1 (some .boolean)]
def wsX5_placeAll_r3 : List Cond := [Cond.methodLink RX4 13 yX4_isBranch, Cond.static yX4_isBranch, Cond.code yX4_isBranch cX4_isBranch 1 (some .boolean), Cond.methodLink RX5 133 yX4_sizeOf, Cond.static yX4_sizeOf, Cond.code yX4_sizeOf cX4_sizeOf 1 (some .int), Cond.methodLink RX4 7 yX4_isOfTwo, Cond.static yX4_isOfTwo, Cond.code yX4_isOfTwo cX4_isOfTwo 1 (some .boolean), Cond.methodLink RX4 16 yX4_isOfArray, Cond.static yX4_isOfArray, Cond.code yX4_isOfArray cX4_isOfArray 1 (some .boolean), Cond.methodLink RX5 110 yX5_isLong, Cond.instanceMethod yX5_isLong, Cond.selects RX5 yX5_isLong yX5_isLong, Cond.code yX5_isLong cX5_isLong 2 (some .boolean), Cond.fieldLink RX5 21 "StepRewriter$Layout" "longs" "[I", Cond.methodLink RX5 136 yX4_isBranch]
def wsX5_placeAll : List Cond := .code yX5_placeAll cX5_placeAll 4 (some .int) :: ((wsX5_placeAll_r1 ++ (wsX5_placeAll_r2 ++ wsX5_placeAll_r3)) ++ wsX70 ++ wsX50)
def wsX5_wayOf_r1 : List Cond := [Cond.fieldLink RX5 15 "StepRewriter$Layout" "places" "[I", Cond.methodLink RX5 113 yX9_at, Cond.static yX9_at, Cond.initialized RX9, Cond.code yX9_at cX9_at 2 (some .int), Cond.methodLink RX5 123 yX5_sumBytes, Cond.instanceMethod yX5_sumBytes, Cond.selects RX5 yX5_sumBytes yX5_sumBytes, Cond.initialized RX5, Cond.code yX5_sumBytes cX5_sumBytes 2 (some .int), Cond.fieldLink RX5 9 "StepRewriter$Layout" "sums" "[I", Cond.methodLink RX5 139 yX7_targetOf, Cond.instanceMethod yX7_targetOf, Cond.selects RX7 yX7_targetOf yX7_targetOf, Cond.initialized RX7, Cond.code yX7_targetOf cX7_targetOf 3 (some .int), Cond.methodLink RX7 50 yX7_valueAt, Cond.instanceMethod yX7_valueAt, Cond.selects RX7 yX7_valueAt yX7_valueAt, Cond.code yX7_valueAt cX7_valueAt 2 (some .int), Cond.fieldLink RX7 15 "StepRewriter$Method" "row" "[I", Cond.fieldLink RX7 18 "StepRewriter$Method" "codeAt" "I", Cond.methodLink RX7 46 yX7_hasPlace, Cond.instanceMethod yX7_hasPlace]
def wsX5_wayOf_r2 : List Cond := [Cond.selects RX7 yX7_hasPlace yX7_hasPlace, Cond.code yX7_hasPlace cX7_hasPlace 2 (some .boolean), Cond.fieldLink RX7 22 "StepRewriter$Method" "length" "I"]
def wsX5_wayOf : List Cond := .code yX5_wayOf cX5_wayOf 4 (some .int) :: ((wsX5_wayOf_r1 ++ wsX5_wayOf_r2) ++ wsX50 ++ wsX70)
def wsX5_lengthen_r1 : List Cond := [Cond.fieldLink RX5 42 "StepRewriter$Method" "length" "I", Cond.fieldLink RX5 18 "StepRewriter$Layout" "ways" "[I", Cond.fieldLink RX5 21 "StepRewriter$Layout" "longs" "[I", Cond.methodLink RX5 104 yX7_jumpsAt, Cond.instanceMethod yX7_jumpsAt, Cond.selects RX7 yX7_jumpsAt yX7_jumpsAt, Cond.initialized RX7, Cond.code yX7_jumpsAt cX7_jumpsAt 2 (some .boolean), Cond.methodLink RX7 57 yX7_begins, Cond.instanceMethod yX7_begins, Cond.selects RX7 yX7_begins yX7_begins, Cond.code yX7_begins cX7_begins 2 (some .boolean), Cond.fieldLink RX7 15 "StepRewriter$Method" "row" "[I", Cond.fieldLink RX7 18 "StepRewriter$Method" "codeAt" "I", Cond.methodLink RX7 46 yX7_hasPlace, Cond.instanceMethod yX7_hasPlace, Cond.selects RX7 yX7_hasPlace yX7_hasPlace, Cond.code yX7_hasPlace cX7_hasPlace 2 (some .boolean), Cond.fieldLink RX7 22 "StepRewriter$Method" "length" "I", Cond.methodLink RX7 50 yX7_valueAt, Cond.instanceMethod yX7_valueAt, Cond.selects RX7 yX7_valueAt yX7_valueAt, Cond.code yX7_valueAt cX7_valueAt 2 (some .int), Cond.methodLink RX7 60 yX4_isJump]
def wsX5_lengthen_r2 : List Cond := [Cond.static yX4_isJump, Cond.initialized RX4, Cond.code yX4_isJump cX4_isJump 1 (some .boolean), Cond.methodLink RX4 13 yX4_isBranch, Cond.static yX4_isBranch, Cond.code yX4_isBranch cX4_isBranch 1 (some .boolean), Cond.methodLink RX5 107 yX5_wayOf, Cond.instanceMethod yX5_wayOf, Cond.selects RX5 yX5_wayOf yX5_wayOf, Cond.initialized RX5, Cond.code yX5_wayOf cX5_wayOf 4 (some .int), Cond.fieldLink RX5 15 "StepRewriter$Layout" "places" "[I", Cond.methodLink RX5 113 yX9_at, Cond.static yX9_at, Cond.initialized RX9, Cond.code yX9_at cX9_at 2 (some .int), Cond.methodLink RX5 123 yX5_sumBytes, Cond.instanceMethod yX5_sumBytes, Cond.selects RX5 yX5_sumBytes yX5_sumBytes, Cond.code yX5_sumBytes cX5_sumBytes 2 (some .int), Cond.fieldLink RX5 9 "StepRewriter$Layout" "sums" "[I", Cond.methodLink RX5 139 yX7_targetOf, Cond.instanceMethod yX7_targetOf, Cond.selects RX7 yX7_targetOf yX7_targetOf]
def wsX5_lengthen_r3 : List Cond := [Cond.code yX7_targetOf cX7_targetOf 3 (some .int), Cond.methodLink RX5 91 yX9_put, Cond.static yX9_put, Cond.code yX9_put cX9_put 3 none, Cond.methodLink RX5 110 yX5_isLong, Cond.instanceMethod yX5_isLong, Cond.selects RX5 yX5_isLong yX5_isLong, Cond.code yX5_isLong cX5_isLong 2 (some .boolean)]
def wsX5_lengthen : List Cond := .code yX5_lengthen cX5_lengthen 5 (some .boolean) :: ((wsX5_lengthen_r1 ++ (wsX5_lengthen_r2 ++ wsX5_lengthen_r3)) ++ wsX70 ++ wsX50)
def wsX5_plan_r1 : List Cond := [Cond.fieldLink RX5 24 "StepRewriter$Layout" "paying" "Z", Cond.fieldLink RX5 21 "StepRewriter$Layout" "longs" "[I", Cond.fieldLink RX5 42 "StepRewriter$Method" "length" "I", Cond.methodLink RX5 28 yX5_takeSums, Cond.instanceMethod yX5_takeSums, Cond.selects RX5 yX5_takeSums yX5_takeSums, Cond.initialized RX5, Cond.code yX5_takeSums cX5_takeSums 4 none, Cond.fieldLink RX5 9 "StepRewriter$Layout" "sums" "[I", Cond.methodLink RX5 32 yJ7_fill_53178, Cond.static yJ7_fill_53178, Cond.initialized RJ7, Cond.code yJ7_fill_53178 cJ7_fill_53178 4 none, Cond.methodLink RX5 84 yX7_beginsBlock, Cond.instanceMethod yX7_beginsBlock, Cond.selects RX7 yX7_beginsBlock yX7_beginsBlock, Cond.initialized RX7, Cond.code yX7_beginsBlock cX7_beginsBlock 2 (some .boolean), Cond.fieldLink RX7 15 "StepRewriter$Method" "row" "[I", Cond.fieldLink RX7 18 "StepRewriter$Method" "codeAt" "I", Cond.methodLink RX7 46 yX7_hasPlace, Cond.instanceMethod yX7_hasPlace, Cond.selects RX7 yX7_hasPlace yX7_hasPlace, Cond.code yX7_hasPlace cX7_hasPlace 2 (some .boolean)]
def wsX5_plan_r2 : List Cond := [Cond.fieldLink RX7 22 "StepRewriter$Method" "length" "I", Cond.methodLink RX5 87 yX7_sumFrom, Cond.instanceMethod yX7_sumFrom, Cond.selects RX7 yX7_sumFrom yX7_sumFrom, Cond.code yX7_sumFrom cX7_sumFrom 5 (some .int), Cond.methodLink RX7 78 yX7_beginsBlock, Cond.methodLink RX7 57 yX7_begins, Cond.instanceMethod yX7_begins, Cond.selects RX7 yX7_begins yX7_begins, Cond.code yX7_begins cX7_begins 2 (some .boolean), Cond.methodLink RX7 50 yX7_valueAt, Cond.instanceMethod yX7_valueAt, Cond.selects RX7 yX7_valueAt yX7_valueAt, Cond.code yX7_valueAt cX7_valueAt 2 (some .int), Cond.methodLink RX7 81 yX8_of, Cond.instanceMethod yX8_of, Cond.selects RX8 yX8_of yX8_of, Cond.initialized RX8, Cond.code yX8_of cX8_of 2 (some .int), Cond.fieldLink RX8 9 "StepRewriter$Prices" "row" "[I", Cond.methodLink RX8 30 yX9_at, Cond.static yX9_at, Cond.initialized RX9, Cond.code yX9_at cX9_at 2 (some .int)]
def wsX5_plan_r3 : List Cond := [Cond.methodLink RX5 91 yX9_put, Cond.static yX9_put, Cond.code yX9_put cX9_put 3 none, Cond.methodLink RX5 38 yX5_placeAll, Cond.instanceMethod yX5_placeAll, Cond.selects RX5 yX5_placeAll yX5_placeAll, Cond.code yX5_placeAll cX5_placeAll 4 (some .int), Cond.fieldLink RX5 15 "StepRewriter$Layout" "places" "[I", Cond.methodLink RX5 72 yX7_begins, Cond.methodLink RX5 97 yX5_bytesAhead, Cond.instanceMethod yX5_bytesAhead, Cond.selects RX5 yX5_bytesAhead yX5_bytesAhead, Cond.code yX5_bytesAhead cX5_bytesAhead 3 (some .int), Cond.methodLink RX5 123 yX5_sumBytes, Cond.instanceMethod yX5_sumBytes, Cond.selects RX5 yX5_sumBytes yX5_sumBytes, Cond.code yX5_sumBytes cX5_sumBytes 2 (some .int), Cond.methodLink RX5 113 yX9_at, Cond.methodLink RX5 126 yX5_paysTop, Cond.instanceMethod yX5_paysTop, Cond.selects RX5 yX5_paysTop yX5_paysTop, Cond.code yX5_paysTop cX5_paysTop 3 (some .boolean), Cond.methodLink RX5 117 yX7_valueAt, Cond.methodLink RX5 101 yX5_bytesOf]
def wsX5_plan_r4 : List Cond := [Cond.instanceMethod yX5_bytesOf, Cond.selects RX5 yX5_bytesOf yX5_bytesOf, Cond.code yX5_bytesOf cX5_bytesOf 4 (some .int), Cond.methodLink RX5 130 yX4_isJump, Cond.static yX4_isJump, Cond.initialized RX4, Cond.code yX4_isJump cX4_isJump 1 (some .boolean), Cond.methodLink RX4 13 yX4_isBranch, Cond.static yX4_isBranch, Cond.code yX4_isBranch cX4_isBranch 1 (some .boolean), Cond.methodLink RX5 133 yX4_sizeOf, Cond.static yX4_sizeOf, Cond.code yX4_sizeOf cX4_sizeOf 1 (some .int), Cond.methodLink RX4 7 yX4_isOfTwo, Cond.static yX4_isOfTwo, Cond.code yX4_isOfTwo cX4_isOfTwo 1 (some .boolean), Cond.methodLink RX4 16 yX4_isOfArray, Cond.static yX4_isOfArray, Cond.code yX4_isOfArray cX4_isOfArray 1 (some .boolean), Cond.methodLink RX5 110 yX5_isLong, Cond.instanceMethod yX5_isLong, Cond.selects RX5 yX5_isLong yX5_isLong, Cond.code yX5_isLong cX5_isLong 2 (some .boolean), Cond.methodLink RX5 136 yX4_isBranch]
def wsX5_plan_r5 : List Cond := [Cond.methodLink RX5 48 yX5_lengthen, Cond.instanceMethod yX5_lengthen, Cond.selects RX5 yX5_lengthen yX5_lengthen, Cond.code yX5_lengthen cX5_lengthen 5 (some .boolean), Cond.fieldLink RX5 18 "StepRewriter$Layout" "ways" "[I", Cond.methodLink RX5 104 yX7_jumpsAt, Cond.instanceMethod yX7_jumpsAt, Cond.selects RX7 yX7_jumpsAt yX7_jumpsAt, Cond.code yX7_jumpsAt cX7_jumpsAt 2 (some .boolean), Cond.methodLink RX7 60 yX4_isJump, Cond.methodLink RX5 107 yX5_wayOf, Cond.instanceMethod yX5_wayOf, Cond.selects RX5 yX5_wayOf yX5_wayOf, Cond.code yX5_wayOf cX5_wayOf 4 (some .int), Cond.methodLink RX5 139 yX7_targetOf, Cond.instanceMethod yX7_targetOf, Cond.selects RX7 yX7_targetOf yX7_targetOf, Cond.code yX7_targetOf cX7_targetOf 3 (some .int)]
def wsX5_plan : List Cond := .code yX5_plan cX5_plan 6 (some .int) :: ((wsX5_plan_r1 ++ (wsX5_plan_r2 ++ (wsX5_plan_r3 ++ (wsX5_plan_r4 ++ wsX5_plan_r5)))) ++ wsX50 ++ wsX70 ++ wsX80)
def wsX5_writeJump_r1 : List Cond := [Cond.fieldLink RX5 18 "StepRewriter$Layout" "ways" "[I", Cond.fieldLink RX5 158 "StepRewriter$Method" "longBranches" "I", Cond.fieldLink RX5 161 "StepRewriter$Method" "longJumps" "I", Cond.methodLink RX5 117 yX7_valueAt, Cond.instanceMethod yX7_valueAt, Cond.selects RX7 yX7_valueAt yX7_valueAt, Cond.initialized RX7, Cond.code yX7_valueAt cX7_valueAt 2 (some .int), Cond.fieldLink RX7 15 "StepRewriter$Method" "row" "[I", Cond.fieldLink RX7 18 "StepRewriter$Method" "codeAt" "I", Cond.methodLink RX7 46 yX7_hasPlace, Cond.instanceMethod yX7_hasPlace, Cond.selects RX7 yX7_hasPlace yX7_hasPlace, Cond.code yX7_hasPlace cX7_hasPlace 2 (some .boolean), Cond.fieldLink RX7 22 "StepRewriter$Method" "length" "I", Cond.methodLink RX5 113 yX9_at, Cond.static yX9_at, Cond.initialized RX9, Cond.code yX9_at cX9_at 2 (some .int), Cond.methodLink RX5 110 yX5_isLong, Cond.instanceMethod yX5_isLong, Cond.selects RX5 yX5_isLong yX5_isLong, Cond.initialized RX5, Cond.code yX5_isLong cX5_isLong 2 (some .boolean)]
def wsX5_writeJump_r2 : List Cond := [Cond.fieldLink RX5 21 "StepRewriter$Layout" "longs" "[I", Cond.methodLink RX5 136 yX4_isBranch, Cond.static yX4_isBranch, Cond.initialized RX4, Cond.code yX4_isBranch cX4_isBranch 1 (some .boolean), Cond.methodLink RX5 142 yX0_append, Cond.instanceMethod yX0_append, Cond.selects RX0 yX0_append yX0_append, Cond.initialized RX0, Cond.code yX0_append cX0_append 2 none, Cond.fieldLink RX0 28 "StepRewriter$CodeSet" "used" "I", Cond.fieldLink RX0 24 "StepRewriter$CodeSet" "row" "[I", Cond.methodLink RX0 35 yX9_put, Cond.static yX9_put, Cond.code yX9_put cX9_put 3 none, Cond.methodLink RX5 155 yX4_opposite, Cond.static yX4_opposite, Cond.code yX4_opposite cX4_opposite 1 (some .int), Cond.methodLink RX5 146 yX0_appendPair, Cond.instanceMethod yX0_appendPair, Cond.selects RX0 yX0_appendPair yX0_appendPair, Cond.code yX0_appendPair cX0_appendPair 2 none, Cond.methodLink RX0 41 yX0_append]
def wsX5_writeJump : List Cond := .code yX5_writeJump cX5_writeJump 7 none :: ((wsX5_writeJump_r1 ++ wsX5_writeJump_r2) ++ wsX50 ++ wsX70 ++ wsX00)
def wsX5_writeInstruction_r1 : List Cond := [Cond.fieldLink RX5 9 "StepRewriter$Layout" "sums" "[I", Cond.methodLink RX5 113 yX9_at, Cond.static yX9_at, Cond.initialized RX9, Cond.code yX9_at cX9_at 2 (some .int), Cond.methodLink RX5 142 yX0_append, Cond.instanceMethod yX0_append, Cond.selects RX0 yX0_append yX0_append, Cond.initialized RX0, Cond.code yX0_append cX0_append 2 none, Cond.fieldLink RX0 28 "StepRewriter$CodeSet" "used" "I", Cond.fieldLink RX0 24 "StepRewriter$CodeSet" "row" "[I", Cond.methodLink RX0 35 yX9_put, Cond.static yX9_put, Cond.code yX9_put cX9_put 3 none, Cond.methodLink RX5 146 yX0_appendPair, Cond.instanceMethod yX0_appendPair, Cond.selects RX0 yX0_appendPair yX0_appendPair, Cond.code yX0_appendPair cX0_appendPair 2 none, Cond.methodLink RX0 41 yX0_append, Cond.methodLink RX5 126 yX5_paysTop, Cond.instanceMethod yX5_paysTop, Cond.selects RX5 yX5_paysTop yX5_paysTop, Cond.initialized RX5]
def wsX5_writeInstruction_r2 : List Cond := [Cond.code yX5_paysTop cX5_paysTop 3 (some .boolean), Cond.fieldLink RX5 24 "StepRewriter$Layout" "paying" "Z", Cond.methodLink RX5 117 yX7_valueAt, Cond.instanceMethod yX7_valueAt, Cond.selects RX7 yX7_valueAt yX7_valueAt, Cond.initialized RX7, Cond.code yX7_valueAt cX7_valueAt 2 (some .int), Cond.fieldLink RX7 15 "StepRewriter$Method" "row" "[I", Cond.fieldLink RX7 18 "StepRewriter$Method" "codeAt" "I", Cond.methodLink RX7 46 yX7_hasPlace, Cond.instanceMethod yX7_hasPlace, Cond.selects RX7 yX7_hasPlace yX7_hasPlace, Cond.code yX7_hasPlace cX7_hasPlace 2 (some .boolean), Cond.fieldLink RX7 22 "StepRewriter$Method" "length" "I", Cond.methodLink RX5 130 yX4_isJump, Cond.static yX4_isJump, Cond.initialized RX4, Cond.code yX4_isJump cX4_isJump 1 (some .boolean), Cond.methodLink RX4 13 yX4_isBranch, Cond.static yX4_isBranch, Cond.code yX4_isBranch cX4_isBranch 1 (some .boolean), Cond.methodLink RX5 149 yX5_writeJump, Cond.instanceMethod yX5_writeJump, Cond.selects RX5 yX5_writeJump yX5_writeJump]
def wsX5_writeInstruction_r3 : List Cond := [Cond.code yX5_writeJump cX5_writeJump 7 none, Cond.fieldLink RX5 18 "StepRewriter$Layout" "ways" "[I", Cond.fieldLink RX5 158 "StepRewriter$Method" "longBranches" "I", Cond.fieldLink RX5 161 "StepRewriter$Method" "longJumps" "I", Cond.methodLink RX5 110 yX5_isLong, Cond.instanceMethod yX5_isLong, Cond.selects RX5 yX5_isLong yX5_isLong, Cond.code yX5_isLong cX5_isLong 2 (some .boolean), Cond.fieldLink RX5 21 "StepRewriter$Layout" "longs" "[I", Cond.methodLink RX5 136 yX4_isBranch, Cond.methodLink RX5 155 yX4_opposite, Cond.static yX4_opposite, Cond.code yX4_opposite cX4_opposite 1 (some .int), Cond.methodLink RX5 152 yX7_sizeAt, Cond.instanceMethod yX7_sizeAt, Cond.selects RX7 yX7_sizeAt yX7_sizeAt, Cond.code yX7_sizeAt cX7_sizeAt 2 (some .int), Cond.methodLink RX7 50 yX7_valueAt, Cond.methodLink RX7 65 yX4_sizeOf, Cond.static yX4_sizeOf, Cond.code yX4_sizeOf cX4_sizeOf 1 (some .int), Cond.methodLink RX4 7 yX4_isOfTwo, Cond.static yX4_isOfTwo, Cond.code yX4_isOfTwo cX4_isOfTwo 1 (some .boolean)]
def wsX5_writeInstruction_r4 : List Cond := [Cond.methodLink RX4 16 yX4_isOfArray, Cond.static yX4_isOfArray, Cond.code yX4_isOfArray cX4_isOfArray 1 (some .boolean)]
def wsX5_writeInstruction : List Cond := .code yX5_writeInstruction cX5_writeInstruction 8 none :: ((wsX5_writeInstruction_r1 ++ (wsX5_writeInstruction_r2 ++ (wsX5_writeInstruction_r3 ++ wsX5_writeInstruction_r4))) ++ wsX50 ++ wsX00 ++ wsX70)
def wsX5_moveHandlers : List Cond := .code yX5_moveHandlers cX5_moveHandlers 6 none :: ([.fieldLink RX5 164 "StepRewriter$Method" "handlers" "I", .fieldLink RX5 15 "StepRewriter$Layout" "places" "[I", .methodLink RX5 167 yX7_handlerNumber, .instanceMethod yX7_handlerNumber, .selects RX7 yX7_handlerNumber yX7_handlerNumber, .initialized RX7, .code yX7_handlerNumber cX7_handlerNumber 3 (some .int), .fieldLink RX7 9 "StepRewriter$Method" "table" "[I", .methodLink RX7 68 yX9_at, .static yX9_at, .initialized RX9, .code yX9_at cX9_at 2 (some .int), .methodLink RX5 113 yX9_at, .methodLink RX5 171 yX7_setHandlerNumber, .instanceMethod yX7_setHandlerNumber, .selects RX7 yX7_setHandlerNumber yX7_setHandlerNumber, .code yX7_setHandlerNumber cX7_setHandlerNumber 4 none, .methodLink RX7 74 yX9_put, .static yX9_put, .code yX9_put cX9_put 3 none] ++ wsX70 ++ wsX50)
def wsX5_write_r1 : List Cond := [Cond.fieldLink RX5 55 "StepRewriter$Method" "parameters" "I", Cond.fieldLink RX5 58 "StepRewriter$Method" "locals" "I", Cond.fieldLink RX5 61 "StepRewriter$Method" "blocks" "I", Cond.fieldLink RX5 64 "StepRewriter$CodeSet" "used" "I", Cond.fieldLink RX5 69 "StepRewriter$Method" "codeAt" "I", Cond.fieldLink RX5 42 "StepRewriter$Method" "length" "I", Cond.methodLink RX5 52 yX7_empty, Cond.instanceMethod yX7_empty, Cond.selects RX7 yX7_empty yX7_empty, Cond.initialized RX7, Cond.code yX7_empty cX7_empty 1 none, Cond.fieldLink RX7 18 "StepRewriter$Method" "codeAt" "I", Cond.fieldLink RX7 22 "StepRewriter$Method" "length" "I", Cond.fieldLink RX7 25 "StepRewriter$Method" "parameters" "I", Cond.fieldLink RX7 28 "StepRewriter$Method" "locals" "I", Cond.fieldLink RX7 31 "StepRewriter$Method" "handlers" "I", Cond.fieldLink RX7 34 "StepRewriter$Method" "blocks" "I", Cond.fieldLink RX7 37 "StepRewriter$Method" "longBranches" "I", Cond.fieldLink RX7 40 "StepRewriter$Method" "longJumps" "I", Cond.fieldLink RX7 43 "StepRewriter$Method" "deepest" "I", Cond.methodLink RX5 72 yX7_begins, Cond.instanceMethod yX7_begins, Cond.selects RX7 yX7_begins yX7_begins, Cond.code yX7_begins cX7_begins 2 (some .boolean)]
def wsX5_write_r2 : List Cond := [Cond.fieldLink RX7 15 "StepRewriter$Method" "row" "[I", Cond.methodLink RX7 46 yX7_hasPlace, Cond.instanceMethod yX7_hasPlace, Cond.selects RX7 yX7_hasPlace yX7_hasPlace, Cond.code yX7_hasPlace cX7_hasPlace 2 (some .boolean), Cond.methodLink RX5 76 yX5_writeInstruction, Cond.instanceMethod yX5_writeInstruction, Cond.selects RX5 yX5_writeInstruction yX5_writeInstruction, Cond.initialized RX5, Cond.code yX5_writeInstruction cX5_writeInstruction 8 none, Cond.fieldLink RX5 9 "StepRewriter$Layout" "sums" "[I", Cond.methodLink RX5 113 yX9_at, Cond.static yX9_at, Cond.initialized RX9, Cond.code yX9_at cX9_at 2 (some .int), Cond.methodLink RX5 142 yX0_append, Cond.instanceMethod yX0_append, Cond.selects RX0 yX0_append yX0_append, Cond.initialized RX0, Cond.code yX0_append cX0_append 2 none, Cond.fieldLink RX0 28 "StepRewriter$CodeSet" "used" "I", Cond.fieldLink RX0 24 "StepRewriter$CodeSet" "row" "[I", Cond.methodLink RX0 35 yX9_put, Cond.static yX9_put]
def wsX5_write_r3 : List Cond := [Cond.code yX9_put cX9_put 3 none, Cond.methodLink RX5 146 yX0_appendPair, Cond.instanceMethod yX0_appendPair, Cond.selects RX0 yX0_appendPair yX0_appendPair, Cond.code yX0_appendPair cX0_appendPair 2 none, Cond.methodLink RX0 41 yX0_append, Cond.methodLink RX5 126 yX5_paysTop, Cond.instanceMethod yX5_paysTop, Cond.selects RX5 yX5_paysTop yX5_paysTop, Cond.code yX5_paysTop cX5_paysTop 3 (some .boolean), Cond.fieldLink RX5 24 "StepRewriter$Layout" "paying" "Z", Cond.methodLink RX5 117 yX7_valueAt, Cond.instanceMethod yX7_valueAt, Cond.selects RX7 yX7_valueAt yX7_valueAt, Cond.code yX7_valueAt cX7_valueAt 2 (some .int), Cond.methodLink RX5 130 yX4_isJump, Cond.static yX4_isJump, Cond.initialized RX4, Cond.code yX4_isJump cX4_isJump 1 (some .boolean), Cond.methodLink RX4 13 yX4_isBranch, Cond.static yX4_isBranch, Cond.code yX4_isBranch cX4_isBranch 1 (some .boolean), Cond.methodLink RX5 149 yX5_writeJump, Cond.instanceMethod yX5_writeJump]
def wsX5_write_r4 : List Cond := [Cond.selects RX5 yX5_writeJump yX5_writeJump, Cond.code yX5_writeJump cX5_writeJump 7 none, Cond.fieldLink RX5 18 "StepRewriter$Layout" "ways" "[I", Cond.fieldLink RX5 158 "StepRewriter$Method" "longBranches" "I", Cond.fieldLink RX5 161 "StepRewriter$Method" "longJumps" "I", Cond.methodLink RX5 110 yX5_isLong, Cond.instanceMethod yX5_isLong, Cond.selects RX5 yX5_isLong yX5_isLong, Cond.code yX5_isLong cX5_isLong 2 (some .boolean), Cond.fieldLink RX5 21 "StepRewriter$Layout" "longs" "[I", Cond.methodLink RX5 136 yX4_isBranch, Cond.methodLink RX5 155 yX4_opposite, Cond.static yX4_opposite, Cond.code yX4_opposite cX4_opposite 1 (some .int), Cond.methodLink RX5 152 yX7_sizeAt, Cond.instanceMethod yX7_sizeAt, Cond.selects RX7 yX7_sizeAt yX7_sizeAt, Cond.code yX7_sizeAt cX7_sizeAt 2 (some .int), Cond.methodLink RX7 50 yX7_valueAt, Cond.methodLink RX7 65 yX4_sizeOf, Cond.static yX4_sizeOf, Cond.code yX4_sizeOf cX4_sizeOf 1 (some .int), Cond.methodLink RX4 7 yX4_isOfTwo, Cond.static yX4_isOfTwo]
def wsX5_write_r5 : List Cond := [Cond.code yX4_isOfTwo cX4_isOfTwo 1 (some .boolean), Cond.methodLink RX4 16 yX4_isOfArray, Cond.static yX4_isOfArray, Cond.code yX4_isOfArray cX4_isOfArray 1 (some .boolean), Cond.methodLink RX5 80 yX5_moveHandlers, Cond.instanceMethod yX5_moveHandlers, Cond.selects RX5 yX5_moveHandlers yX5_moveHandlers, Cond.code yX5_moveHandlers cX5_moveHandlers 6 none, Cond.fieldLink RX5 164 "StepRewriter$Method" "handlers" "I", Cond.fieldLink RX5 15 "StepRewriter$Layout" "places" "[I", Cond.methodLink RX5 167 yX7_handlerNumber, Cond.instanceMethod yX7_handlerNumber, Cond.selects RX7 yX7_handlerNumber yX7_handlerNumber, Cond.code yX7_handlerNumber cX7_handlerNumber 3 (some .int), Cond.fieldLink RX7 9 "StepRewriter$Method" "table" "[I", Cond.methodLink RX7 68 yX9_at, Cond.methodLink RX5 171 yX7_setHandlerNumber, Cond.instanceMethod yX7_setHandlerNumber, Cond.selects RX7 yX7_setHandlerNumber yX7_setHandlerNumber, Cond.code yX7_setHandlerNumber cX7_setHandlerNumber 4 none, Cond.methodLink RX7 74 yX9_put]
def wsX5_write : List Cond := .code yX5_write cX5_write 5 none :: ((wsX5_write_r1 ++ (wsX5_write_r2 ++ (wsX5_write_r3 ++ (wsX5_write_r4 ++ wsX5_write_r5)))) ++ wsX70 ++ wsX00 ++ wsX50)
def wsX10_init : List Cond := .code yX10_init cX10_init 1 none :: ([.methodLink RX10 3 objectInit, .instanceMethod objectInit, .code objectInit ⟨#[0xb1]⟩ 1 none, .arrayClass .int, .fieldLink RX10 9 "StepRewriter$RunArrays" "sizes" "[I", .fieldLink RX10 15 "StepRewriter$RunArrays" "elements" "[I"] ++ wsX100)
def wsX6_init_r1 : List Cond := [Cond.methodLink RX6 3 objectInit, Cond.instanceMethod objectInit, Cond.code objectInit ⟨#[0xb1]⟩ 1 none, Cond.classLink RX6 11 RX3, Cond.fieldLink RX6 13 "StepRewriter$Machine" "frames" "[LStepRewriter$Frame;", Cond.classLink RX6 17 RX10, Cond.instantiable RX10 2, Cond.initialized RX10, Cond.fieldLink RX6 20 "StepRewriter$Machine" "arrays" "LStepRewriter$RunArrays;", Cond.fieldLink RX6 24 "StepRewriter$Machine" "set" "LStepRewriter$CodeSet;", Cond.instantiable RX3 5, Cond.initialized RX3, Cond.instanceMethod yX10_init, Cond.code yX10_init cX10_init 1 none, Cond.methodLink RX10 3 objectInit, Cond.arrayClass .int, Cond.fieldLink RX10 9 "StepRewriter$RunArrays" "sizes" "[I", Cond.fieldLink RX10 15 "StepRewriter$RunArrays" "elements" "[I", Cond.methodLink RX6 28 yX0_method, Cond.instanceMethod yX0_method, Cond.selects RX0 yX0_method yX0_method, Cond.initialized RX0, Cond.code yX0_method cX0_method 2 (some (.object "StepRewriter$Method")), Cond.fieldLink RX0 11 "StepRewriter$CodeSet" "methods" "[LStepRewriter$Method;"]
def wsX6_init_r2 : List Cond := [Cond.fieldLink RX0 20 "StepRewriter$CodeSet" "none" "LStepRewriter$Method;", Cond.methodLink RX6 34 yX3_init, Cond.instanceMethod yX3_init, Cond.code yX3_init cX3_init 2 none, Cond.methodLink RX3 3 objectInit, Cond.fieldLink RX3 9 "StepRewriter$Frame" "locals" "[I", Cond.fieldLink RX3 15 "StepRewriter$Frame" "stack" "[I", Cond.fieldLink RX3 18 "StepRewriter$Frame" "method" "LStepRewriter$Method;"]
def wsX6_init : List Cond := .code yX6_init cX6_init 3 none :: ((wsX6_init_r1 ++ wsX6_init_r2) ++ wsX60 ++ wsX100 ++ wsX30 ++ wsX00)
def wsX10_empty : List Cond := .code yX10_empty cX10_empty 1 none :: ([.fieldLink RX10 9 "StepRewriter$RunArrays" "sizes" "[I", .methodLink RX10 18 yJ7_fill_53178, .static yJ7_fill_53178, .initialized RJ7, .code yJ7_fill_53178 cJ7_fill_53178 4 none] ++ wsX100)
def wsX6_forget : List Cond := .code yX6_forget cX6_forget 1 none :: ([.fieldLink RX6 20 "StepRewriter$Machine" "arrays" "LStepRewriter$RunArrays;", .fieldLink RX6 40 "StepRewriter$Machine" "underWay" "I", .fieldLink RX6 44 "StepRewriter$Machine" "result" "I", .fieldLink RX6 47 "StepRewriter$Machine" "paid" "I", .fieldLink RX6 50 "StepRewriter$Machine" "done" "I", .methodLink RX6 37 yX10_empty, .instanceMethod yX10_empty, .selects RX10 yX10_empty yX10_empty, .initialized RX10, .code yX10_empty cX10_empty 1 none, .fieldLink RX10 9 "StepRewriter$RunArrays" "sizes" "[I", .methodLink RX10 18 yJ7_fill_53178, .static yJ7_fill_53178, .initialized RJ7, .code yJ7_fill_53178 cJ7_fill_53178 4 none] ++ wsX60 ++ wsX100)
def wsX6_frame : List Cond := .code yX6_frame cX6_frame 2 (some (.object "StepRewriter$Frame")) :: ([.fieldLink RX6 13 "StepRewriter$Machine" "frames" "[LStepRewriter$Frame;"] ++ wsX60)
def wsX7_pairAt : List Cond := .code yX7_pairAt cX7_pairAt 2 (some .int) :: ([.methodLink RX7 50 yX7_valueAt, .instanceMethod yX7_valueAt, .selects RX7 yX7_valueAt yX7_valueAt, .initialized RX7, .code yX7_valueAt cX7_valueAt 2 (some .int), .fieldLink RX7 15 "StepRewriter$Method" "row" "[I", .fieldLink RX7 18 "StepRewriter$Method" "codeAt" "I", .methodLink RX7 46 yX7_hasPlace, .instanceMethod yX7_hasPlace, .selects RX7 yX7_hasPlace yX7_hasPlace, .code yX7_hasPlace cX7_hasPlace 2 (some .boolean), .fieldLink RX7 22 "StepRewriter$Method" "length" "I"] ++ wsX70)
def wsX7_fourAt : List Cond := .code yX7_fourAt cX7_fourAt 2 (some .int) :: ([.methodLink RX7 54 yX7_pairAt, .instanceMethod yX7_pairAt, .selects RX7 yX7_pairAt yX7_pairAt, .initialized RX7, .code yX7_pairAt cX7_pairAt 2 (some .int), .methodLink RX7 50 yX7_valueAt, .instanceMethod yX7_valueAt, .selects RX7 yX7_valueAt yX7_valueAt, .code yX7_valueAt cX7_valueAt 2 (some .int), .fieldLink RX7 15 "StepRewriter$Method" "row" "[I", .fieldLink RX7 18 "StepRewriter$Method" "codeAt" "I", .methodLink RX7 46 yX7_hasPlace, .instanceMethod yX7_hasPlace, .selects RX7 yX7_hasPlace yX7_hasPlace, .code yX7_hasPlace cX7_hasPlace 2 (some .boolean), .fieldLink RX7 22 "StepRewriter$Method" "length" "I"] ++ wsX70)
def wsX6_pay : List Cond := .code yX6_pay cX6_pay 4 (some .int) :: ([.fieldLink RX6 56 "StepRewriter$Machine" "limit" "I", .fieldLink RX6 47 "StepRewriter$Machine" "paid" "I", .fieldLink RX6 89 "StepRewriter$Frame" "place" "I"] ++ wsX60 ++ wsX30)
def wsX6_call_r1 : List Cond := [Cond.fieldLink RX6 40 "StepRewriter$Machine" "underWay" "I", Cond.fieldLink RX6 24 "StepRewriter$Machine" "set" "LStepRewriter$CodeSet;", Cond.fieldLink RX6 69 "StepRewriter$Method" "parameters" "I", Cond.methodLink RX6 135 yX3_operand, Cond.instanceMethod yX3_operand, Cond.selects RX3 yX3_operand yX3_operand, Cond.initialized RX3, Cond.code yX3_operand cX3_operand 1 (some .int), Cond.fieldLink RX3 18 "StepRewriter$Frame" "method" "LStepRewriter$Method;", Cond.fieldLink RX3 22 "StepRewriter$Frame" "place" "I", Cond.methodLink RX3 35 yX7_valueAt, Cond.instanceMethod yX7_valueAt, Cond.selects RX7 yX7_valueAt yX7_valueAt, Cond.initialized RX7, Cond.code yX7_valueAt cX7_valueAt 2 (some .int), Cond.fieldLink RX7 15 "StepRewriter$Method" "row" "[I", Cond.fieldLink RX7 18 "StepRewriter$Method" "codeAt" "I", Cond.methodLink RX7 46 yX7_hasPlace, Cond.instanceMethod yX7_hasPlace, Cond.selects RX7 yX7_hasPlace yX7_hasPlace, Cond.code yX7_hasPlace cX7_hasPlace 2 (some .boolean), Cond.fieldLink RX7 22 "StepRewriter$Method" "length" "I", Cond.methodLink RX6 28 yX0_method, Cond.instanceMethod yX0_method]
def wsX6_call_r2 : List Cond := [Cond.selects RX0 yX0_method yX0_method, Cond.initialized RX0, Cond.code yX0_method cX0_method 2 (some (.object "StepRewriter$Method")), Cond.fieldLink RX0 11 "StepRewriter$CodeSet" "methods" "[LStepRewriter$Method;", Cond.fieldLink RX0 20 "StepRewriter$CodeSet" "none" "LStepRewriter$Method;", Cond.methodLink RX6 59 yX6_frame, Cond.instanceMethod yX6_frame, Cond.selects RX6 yX6_frame yX6_frame, Cond.initialized RX6, Cond.code yX6_frame cX6_frame 2 (some (.object "StepRewriter$Frame")), Cond.fieldLink RX6 13 "StepRewriter$Machine" "frames" "[LStepRewriter$Frame;", Cond.methodLink RX6 63 yX3_begin, Cond.instanceMethod yX3_begin, Cond.selects RX3 yX3_begin yX3_begin, Cond.code yX3_begin cX3_begin 2 none, Cond.fieldLink RX3 26 "StepRewriter$Frame" "top" "I", Cond.fieldLink RX3 9 "StepRewriter$Frame" "locals" "[I", Cond.methodLink RX3 29 yJ7_fill_53178, Cond.static yJ7_fill_53178, Cond.initialized RJ7, Cond.code yJ7_fill_53178 cJ7_fill_53178 4 none, Cond.methodLink RX6 112 yX3_pop, Cond.instanceMethod yX3_pop, Cond.selects RX3 yX3_pop yX3_pop]
def wsX6_call_r3 : List Cond := [Cond.code yX3_pop cX3_pop 1 (some .int), Cond.fieldLink RX3 15 "StepRewriter$Frame" "stack" "[I", Cond.methodLink RX3 47 yX9_at, Cond.static yX9_at, Cond.initialized RX9, Cond.code yX9_at cX9_at 2 (some .int), Cond.methodLink RX6 74 yX3_setLocal, Cond.instanceMethod yX3_setLocal, Cond.selects RX3 yX3_setLocal yX3_setLocal, Cond.code yX3_setLocal cX3_setLocal 3 none, Cond.methodLink RX3 41 yX9_put, Cond.static yX9_put, Cond.code yX9_put cX9_put 3 none]
def wsX6_call : List Cond := .code yX6_call cX6_call 5 (some .int) :: ((wsX6_call_r1 ++ (wsX6_call_r2 ++ wsX6_call_r3)) ++ wsX60 ++ wsX70 ++ wsX30 ++ wsX00)
def wsX6_leave_r1 : List Cond := [Cond.fieldLink RX6 40 "StepRewriter$Machine" "underWay" "I", Cond.fieldLink RX6 44 "StepRewriter$Machine" "result" "I", Cond.fieldLink RX6 89 "StepRewriter$Frame" "place" "I", Cond.methodLink RX6 59 yX6_frame, Cond.instanceMethod yX6_frame, Cond.selects RX6 yX6_frame yX6_frame, Cond.initialized RX6, Cond.code yX6_frame cX6_frame 2 (some (.object "StepRewriter$Frame")), Cond.fieldLink RX6 13 "StepRewriter$Machine" "frames" "[LStepRewriter$Frame;", Cond.methodLink RX6 138 yX3_push, Cond.instanceMethod yX3_push, Cond.selects RX3 yX3_push yX3_push, Cond.initialized RX3, Cond.code yX3_push cX3_push 2 none, Cond.fieldLink RX3 26 "StepRewriter$Frame" "top" "I", Cond.fieldLink RX3 15 "StepRewriter$Frame" "stack" "[I", Cond.methodLink RX3 41 yX9_put, Cond.static yX9_put, Cond.initialized RX9, Cond.code yX9_put cX9_put 3 none, Cond.methodLink RX6 132 yX4_sizeOf, Cond.static yX4_sizeOf, Cond.initialized RX4, Cond.code yX4_sizeOf cX4_sizeOf 1 (some .int)]
def wsX6_leave_r2 : List Cond := [Cond.methodLink RX4 7 yX4_isOfTwo, Cond.static yX4_isOfTwo, Cond.code yX4_isOfTwo cX4_isOfTwo 1 (some .boolean), Cond.methodLink RX4 13 yX4_isBranch, Cond.static yX4_isBranch, Cond.code yX4_isBranch cX4_isBranch 1 (some .boolean), Cond.methodLink RX4 16 yX4_isOfArray, Cond.static yX4_isOfArray, Cond.code yX4_isOfArray cX4_isOfArray 1 (some .boolean)]
def wsX6_leave : List Cond := .code yX6_leave cX6_leave 3 (some .int) :: ((wsX6_leave_r1 ++ wsX6_leave_r2) ++ wsX60 ++ wsX30)
def wsX6_jump_r1 : List Cond := [Cond.fieldLink RX6 89 "StepRewriter$Frame" "place" "I", Cond.fieldLink RX6 66 "StepRewriter$Frame" "method" "LStepRewriter$Method;", Cond.methodLink RX6 148 yX4_isBranch, Cond.static yX4_isBranch, Cond.initialized RX4, Cond.code yX4_isBranch cX4_isBranch 1 (some .boolean), Cond.methodLink RX6 112 yX3_pop, Cond.instanceMethod yX3_pop, Cond.selects RX3 yX3_pop yX3_pop, Cond.initialized RX3, Cond.code yX3_pop cX3_pop 1 (some .int), Cond.fieldLink RX3 26 "StepRewriter$Frame" "top" "I", Cond.fieldLink RX3 15 "StepRewriter$Frame" "stack" "[I", Cond.methodLink RX3 47 yX9_at, Cond.static yX9_at, Cond.initialized RX9, Cond.code yX9_at cX9_at 2 (some .int), Cond.methodLink RX6 151 yX4_isTaken, Cond.static yX4_isTaken, Cond.code yX4_isTaken cX4_isTaken 2 (some .boolean), Cond.methodLink RX6 132 yX4_sizeOf, Cond.static yX4_sizeOf, Cond.code yX4_sizeOf cX4_sizeOf 1 (some .int), Cond.methodLink RX4 7 yX4_isOfTwo]
def wsX6_jump_r2 : List Cond := [Cond.static yX4_isOfTwo, Cond.code yX4_isOfTwo cX4_isOfTwo 1 (some .boolean), Cond.methodLink RX4 13 yX4_isBranch, Cond.methodLink RX4 16 yX4_isOfArray, Cond.static yX4_isOfArray, Cond.code yX4_isOfArray cX4_isOfArray 1 (some .boolean), Cond.methodLink RX6 155 yX7_targetOf, Cond.instanceMethod yX7_targetOf, Cond.selects RX7 yX7_targetOf yX7_targetOf, Cond.initialized RX7, Cond.code yX7_targetOf cX7_targetOf 3 (some .int), Cond.methodLink RX7 50 yX7_valueAt, Cond.instanceMethod yX7_valueAt, Cond.selects RX7 yX7_valueAt yX7_valueAt, Cond.code yX7_valueAt cX7_valueAt 2 (some .int), Cond.fieldLink RX7 15 "StepRewriter$Method" "row" "[I", Cond.fieldLink RX7 18 "StepRewriter$Method" "codeAt" "I", Cond.methodLink RX7 46 yX7_hasPlace, Cond.instanceMethod yX7_hasPlace, Cond.selects RX7 yX7_hasPlace yX7_hasPlace, Cond.code yX7_hasPlace cX7_hasPlace 2 (some .boolean), Cond.fieldLink RX7 22 "StepRewriter$Method" "length" "I"]
def wsX6_jump : List Cond := .code yX6_jump cX6_jump 5 (some .int) :: ((wsX6_jump_r1 ++ wsX6_jump_r2) ++ wsX30 ++ wsX70)
def wsX10_put : List Cond := .code yX10_put cX10_put 4 none :: ([.fieldLink RX10 15 "StepRewriter$RunArrays" "elements" "[I", .methodLink RX10 26 yX9_put, .static yX9_put, .initialized RX9, .code yX9_put cX9_put 3 none] ++ wsX100)
def wsX10_make : List Cond := .code yX10_make cX10_make 4 (some .int) :: ([.fieldLink RX10 9 "StepRewriter$RunArrays" "sizes" "[I", .methodLink RX10 26 yX9_put, .static yX9_put, .initialized RX9, .code yX9_put cX9_put 3 none, .methodLink RX10 32 yX10_put, .instanceMethod yX10_put, .selects RX10 yX10_put yX10_put, .initialized RX10, .code yX10_put cX10_put 4 none, .fieldLink RX10 15 "StepRewriter$RunArrays" "elements" "[I"] ++ wsX100)
def wsX10_sizeOf : List Cond := .code yX10_sizeOf cX10_sizeOf 2 (some .int) :: ([.fieldLink RX10 9 "StepRewriter$RunArrays" "sizes" "[I", .methodLink RX10 35 yX9_at, .static yX9_at, .initialized RX9, .code yX9_at cX9_at 2 (some .int)] ++ wsX100)
def wsX10_has : List Cond := .code yX10_has cX10_has 3 (some .boolean) :: ([.methodLink RX10 39 yX10_sizeOf, .instanceMethod yX10_sizeOf, .selects RX10 yX10_sizeOf yX10_sizeOf, .initialized RX10, .code yX10_sizeOf cX10_sizeOf 2 (some .int), .fieldLink RX10 9 "StepRewriter$RunArrays" "sizes" "[I", .methodLink RX10 35 yX9_at, .static yX9_at, .initialized RX9, .code yX9_at cX9_at 2 (some .int)] ++ wsX100)
def wsX10_get : List Cond := .code yX10_get cX10_get 3 (some .int) :: ([.fieldLink RX10 15 "StepRewriter$RunArrays" "elements" "[I", .methodLink RX10 35 yX9_at, .static yX9_at, .initialized RX9, .code yX9_at cX9_at 2 (some .int)] ++ wsX100)
def wsX6_actOnArray_r1 : List Cond := [Cond.fieldLink RX6 20 "StepRewriter$Machine" "arrays" "LStepRewriter$RunArrays;", Cond.methodLink RX6 135 yX3_operand, Cond.instanceMethod yX3_operand, Cond.selects RX3 yX3_operand yX3_operand, Cond.initialized RX3, Cond.code yX3_operand cX3_operand 1 (some .int), Cond.fieldLink RX3 18 "StepRewriter$Frame" "method" "LStepRewriter$Method;", Cond.fieldLink RX3 22 "StepRewriter$Frame" "place" "I", Cond.methodLink RX3 35 yX7_valueAt, Cond.instanceMethod yX7_valueAt, Cond.selects RX7 yX7_valueAt yX7_valueAt, Cond.initialized RX7, Cond.code yX7_valueAt cX7_valueAt 2 (some .int), Cond.fieldLink RX7 15 "StepRewriter$Method" "row" "[I", Cond.fieldLink RX7 18 "StepRewriter$Method" "codeAt" "I", Cond.methodLink RX7 46 yX7_hasPlace, Cond.instanceMethod yX7_hasPlace, Cond.selects RX7 yX7_hasPlace yX7_hasPlace, Cond.code yX7_hasPlace cX7_hasPlace 2 (some .boolean), Cond.fieldLink RX7 22 "StepRewriter$Method" "length" "I", Cond.methodLink RX6 112 yX3_pop, Cond.instanceMethod yX3_pop, Cond.selects RX3 yX3_pop yX3_pop, Cond.code yX3_pop cX3_pop 1 (some .int)]
def wsX6_actOnArray_r2 : List Cond := [Cond.fieldLink RX3 26 "StepRewriter$Frame" "top" "I", Cond.fieldLink RX3 15 "StepRewriter$Frame" "stack" "[I", Cond.methodLink RX3 47 yX9_at, Cond.static yX9_at, Cond.initialized RX9, Cond.code yX9_at cX9_at 2 (some .int), Cond.methodLink RX6 173 yX10_make, Cond.instanceMethod yX10_make, Cond.selects RX10 yX10_make yX10_make, Cond.initialized RX10, Cond.code yX10_make cX10_make 4 (some .int), Cond.fieldLink RX10 9 "StepRewriter$RunArrays" "sizes" "[I", Cond.methodLink RX10 26 yX9_put, Cond.static yX9_put, Cond.code yX9_put cX9_put 3 none, Cond.methodLink RX10 32 yX10_put, Cond.instanceMethod yX10_put, Cond.selects RX10 yX10_put yX10_put, Cond.code yX10_put cX10_put 4 none, Cond.fieldLink RX10 15 "StepRewriter$RunArrays" "elements" "[I", Cond.methodLink RX6 176 yX10_sizeOf, Cond.instanceMethod yX10_sizeOf, Cond.selects RX10 yX10_sizeOf yX10_sizeOf, Cond.code yX10_sizeOf cX10_sizeOf 2 (some .int)]
def wsX6_actOnArray_r3 : List Cond := [Cond.methodLink RX10 35 yX9_at, Cond.methodLink RX6 138 yX3_push, Cond.instanceMethod yX3_push, Cond.selects RX3 yX3_push yX3_push, Cond.code yX3_push cX3_push 2 none, Cond.methodLink RX3 41 yX9_put, Cond.methodLink RX6 177 yX10_has, Cond.instanceMethod yX10_has, Cond.selects RX10 yX10_has yX10_has, Cond.code yX10_has cX10_has 3 (some .boolean), Cond.methodLink RX10 39 yX10_sizeOf, Cond.methodLink RX6 180 yX10_put, Cond.methodLink RX6 184 yX10_get, Cond.instanceMethod yX10_get, Cond.selects RX10 yX10_get yX10_get, Cond.code yX10_get cX10_get 3 (some .int)]
def wsX6_actOnArray : List Cond := .code yX6_actOnArray cX6_actOnArray 6 (some .int) :: ((wsX6_actOnArray_r1 ++ (wsX6_actOnArray_r2 ++ wsX6_actOnArray_r3)) ++ wsX60 ++ wsX30 ++ wsX70 ++ wsX100)
def wsX6_joined : List Cond := .code yX6_joined cX6_joined 4 (some .int) :: ([])
def wsX6_actOnTwo : List Cond := .code yX6_actOnTwo cX6_actOnTwo 5 (some .int) :: ([.methodLink RX6 112 yX3_pop, .instanceMethod yX3_pop, .selects RX3 yX3_pop yX3_pop, .initialized RX3, .code yX3_pop cX3_pop 1 (some .int), .fieldLink RX3 26 "StepRewriter$Frame" "top" "I", .fieldLink RX3 15 "StepRewriter$Frame" "stack" "[I", .methodLink RX3 47 yX9_at, .static yX9_at, .initialized RX9, .code yX9_at cX9_at 2 (some .int), .methodLink RX6 138 yX3_push, .instanceMethod yX3_push, .selects RX3 yX3_push yX3_push, .code yX3_push cX3_push 2 none, .methodLink RX3 41 yX9_put, .static yX9_put, .code yX9_put cX9_put 3 none, .methodLink RX6 187 yX6_joined, .instanceMethod yX6_joined, .selects RX6 yX6_joined yX6_joined, .initialized RX6, .code yX6_joined cX6_joined 4 (some .int)] ++ wsX30)
def wsX6_act_r1 : List Cond := [Cond.fieldLink RX6 66 "StepRewriter$Frame" "method" "LStepRewriter$Method;", Cond.fieldLink RX6 89 "StepRewriter$Frame" "place" "I", Cond.methodLink RX6 135 yX3_operand, Cond.instanceMethod yX3_operand, Cond.selects RX3 yX3_operand yX3_operand, Cond.initialized RX3, Cond.code yX3_operand cX3_operand 1 (some .int), Cond.fieldLink RX3 18 "StepRewriter$Frame" "method" "LStepRewriter$Method;", Cond.fieldLink RX3 22 "StepRewriter$Frame" "place" "I", Cond.methodLink RX3 35 yX7_valueAt, Cond.instanceMethod yX7_valueAt, Cond.selects RX7 yX7_valueAt yX7_valueAt, Cond.initialized RX7, Cond.code yX7_valueAt cX7_valueAt 2 (some .int), Cond.fieldLink RX7 15 "StepRewriter$Method" "row" "[I", Cond.fieldLink RX7 18 "StepRewriter$Method" "codeAt" "I", Cond.methodLink RX7 46 yX7_hasPlace, Cond.instanceMethod yX7_hasPlace, Cond.selects RX7 yX7_hasPlace yX7_hasPlace, Cond.code yX7_hasPlace cX7_hasPlace 2 (some .boolean), Cond.fieldLink RX7 22 "StepRewriter$Method" "length" "I", Cond.methodLink RX6 138 yX3_push, Cond.instanceMethod yX3_push, Cond.selects RX3 yX3_push yX3_push]
def wsX6_act_r2 : List Cond := [Cond.code yX3_push cX3_push 2 none, Cond.fieldLink RX3 26 "StepRewriter$Frame" "top" "I", Cond.fieldLink RX3 15 "StepRewriter$Frame" "stack" "[I", Cond.methodLink RX3 41 yX9_put, Cond.static yX9_put, Cond.initialized RX9, Cond.code yX9_put cX9_put 3 none, Cond.methodLink RX6 158 yX7_pairAt, Cond.instanceMethod yX7_pairAt, Cond.selects RX7 yX7_pairAt yX7_pairAt, Cond.code yX7_pairAt cX7_pairAt 2 (some .int), Cond.methodLink RX7 50 yX7_valueAt, Cond.methodLink RX6 161 yX3_local, Cond.instanceMethod yX3_local, Cond.selects RX3 yX3_local yX3_local, Cond.code yX3_local cX3_local 2 (some .int), Cond.fieldLink RX3 9 "StepRewriter$Frame" "locals" "[I", Cond.methodLink RX3 47 yX9_at, Cond.static yX9_at, Cond.code yX9_at cX9_at 2 (some .int), Cond.methodLink RX6 112 yX3_pop, Cond.instanceMethod yX3_pop, Cond.selects RX3 yX3_pop yX3_pop, Cond.code yX3_pop cX3_pop 1 (some .int)]
def wsX6_act_r3 : List Cond := [Cond.methodLink RX6 74 yX3_setLocal, Cond.instanceMethod yX3_setLocal, Cond.selects RX3 yX3_setLocal yX3_setLocal, Cond.code yX3_setLocal cX3_setLocal 3 none, Cond.methodLink RX6 100 yX3_peek, Cond.instanceMethod yX3_peek, Cond.selects RX3 yX3_peek yX3_peek, Cond.code yX3_peek cX3_peek 1 (some .int), Cond.methodLink RX6 164 yX4_isOfArray, Cond.static yX4_isOfArray, Cond.initialized RX4, Cond.code yX4_isOfArray cX4_isOfArray 1 (some .boolean), Cond.methodLink RX6 167 yX6_actOnArray, Cond.instanceMethod yX6_actOnArray, Cond.selects RX6 yX6_actOnArray yX6_actOnArray, Cond.initialized RX6, Cond.code yX6_actOnArray cX6_actOnArray 6 (some .int), Cond.fieldLink RX6 20 "StepRewriter$Machine" "arrays" "LStepRewriter$RunArrays;", Cond.methodLink RX6 173 yX10_make, Cond.instanceMethod yX10_make, Cond.selects RX10 yX10_make yX10_make, Cond.initialized RX10, Cond.code yX10_make cX10_make 4 (some .int), Cond.fieldLink RX10 9 "StepRewriter$RunArrays" "sizes" "[I"]
def wsX6_act_r4 : List Cond := [Cond.methodLink RX10 26 yX9_put, Cond.methodLink RX10 32 yX10_put, Cond.instanceMethod yX10_put, Cond.selects RX10 yX10_put yX10_put, Cond.code yX10_put cX10_put 4 none, Cond.fieldLink RX10 15 "StepRewriter$RunArrays" "elements" "[I", Cond.methodLink RX6 176 yX10_sizeOf, Cond.instanceMethod yX10_sizeOf, Cond.selects RX10 yX10_sizeOf yX10_sizeOf, Cond.code yX10_sizeOf cX10_sizeOf 2 (some .int), Cond.methodLink RX10 35 yX9_at, Cond.methodLink RX6 177 yX10_has, Cond.instanceMethod yX10_has, Cond.selects RX10 yX10_has yX10_has, Cond.code yX10_has cX10_has 3 (some .boolean), Cond.methodLink RX10 39 yX10_sizeOf, Cond.methodLink RX6 180 yX10_put, Cond.methodLink RX6 184 yX10_get, Cond.instanceMethod yX10_get, Cond.selects RX10 yX10_get yX10_get, Cond.code yX10_get cX10_get 3 (some .int), Cond.methodLink RX6 170 yX6_actOnTwo, Cond.instanceMethod yX6_actOnTwo, Cond.selects RX6 yX6_actOnTwo yX6_actOnTwo]
def wsX6_act_r5 : List Cond := [Cond.code yX6_actOnTwo cX6_actOnTwo 5 (some .int), Cond.methodLink RX6 187 yX6_joined, Cond.instanceMethod yX6_joined, Cond.selects RX6 yX6_joined yX6_joined, Cond.code yX6_joined cX6_joined 4 (some .int)]
def wsX6_act : List Cond := .code yX6_act cX6_act 3 (some .int) :: ((wsX6_act_r1 ++ (wsX6_act_r2 ++ (wsX6_act_r3 ++ (wsX6_act_r4 ++ wsX6_act_r5)))) ++ wsX30 ++ wsX70 ++ wsX60 ++ wsX100)
def wsX7_handlerFor : List Cond := .code yX7_handlerFor cX7_handlerFor 6 (some .int) :: ([.fieldLink RX7 31 "StepRewriter$Method" "handlers" "I", .methodLink RX7 86 yX7_handlerNumber, .instanceMethod yX7_handlerNumber, .selects RX7 yX7_handlerNumber yX7_handlerNumber, .initialized RX7, .code yX7_handlerNumber cX7_handlerNumber 3 (some .int), .fieldLink RX7 9 "StepRewriter$Method" "table" "[I", .methodLink RX7 68 yX9_at, .static yX9_at, .initialized RX9, .code yX9_at cX9_at 2 (some .int)] ++ wsX70)
def wsX6_raise_r1 : List Cond := [Cond.fieldLink RX6 40 "StepRewriter$Machine" "underWay" "I", Cond.fieldLink RX6 66 "StepRewriter$Frame" "method" "LStepRewriter$Method;", Cond.fieldLink RX6 89 "StepRewriter$Frame" "place" "I", Cond.fieldLink RX6 44 "StepRewriter$Machine" "result" "I", Cond.methodLink RX6 59 yX6_frame, Cond.instanceMethod yX6_frame, Cond.selects RX6 yX6_frame yX6_frame, Cond.initialized RX6, Cond.code yX6_frame cX6_frame 2 (some (.object "StepRewriter$Frame")), Cond.fieldLink RX6 13 "StepRewriter$Machine" "frames" "[LStepRewriter$Frame;", Cond.methodLink RX6 142 yX7_handlerFor, Cond.instanceMethod yX7_handlerFor, Cond.selects RX7 yX7_handlerFor yX7_handlerFor, Cond.initialized RX7, Cond.code yX7_handlerFor cX7_handlerFor 6 (some .int), Cond.fieldLink RX7 31 "StepRewriter$Method" "handlers" "I", Cond.methodLink RX7 86 yX7_handlerNumber, Cond.instanceMethod yX7_handlerNumber, Cond.selects RX7 yX7_handlerNumber yX7_handlerNumber, Cond.code yX7_handlerNumber cX7_handlerNumber 3 (some .int), Cond.fieldLink RX7 9 "StepRewriter$Method" "table" "[I", Cond.methodLink RX7 68 yX9_at, Cond.static yX9_at, Cond.initialized RX9]
def wsX6_raise_r2 : List Cond := [Cond.code yX9_at cX9_at 2 (some .int), Cond.methodLink RX6 145 yX3_goOnWith, Cond.instanceMethod yX3_goOnWith, Cond.selects RX3 yX3_goOnWith yX3_goOnWith, Cond.initialized RX3, Cond.code yX3_goOnWith cX3_goOnWith 3 none, Cond.fieldLink RX3 26 "StepRewriter$Frame" "top" "I", Cond.fieldLink RX3 22 "StepRewriter$Frame" "place" "I", Cond.methodLink RX3 51 yX3_push, Cond.instanceMethod yX3_push, Cond.selects RX3 yX3_push yX3_push, Cond.code yX3_push cX3_push 2 none, Cond.fieldLink RX3 15 "StepRewriter$Frame" "stack" "[I", Cond.methodLink RX3 41 yX9_put, Cond.static yX9_put, Cond.code yX9_put cX9_put 3 none]
def wsX6_raise : List Cond := .code yX6_raise cX6_raise 4 (some .int) :: ((wsX6_raise_r1 ++ wsX6_raise_r2) ++ wsX60 ++ wsX30 ++ wsX70)
def wsX6_goOn_r1 : List Cond := [Cond.fieldLink RX6 66 "StepRewriter$Frame" "method" "LStepRewriter$Method;", Cond.fieldLink RX6 89 "StepRewriter$Frame" "place" "I", Cond.methodLink RX6 103 Lib.Math.max.name, Cond.static Lib.Math.max.name, Cond.initialized "java/lang/Math", Cond.code Lib.Math.max.name Lib.Math.max.code 2 (some .int), Cond.fieldLink RX6 50 "StepRewriter$Machine" "done" "I", Cond.methodLink RX6 83 yX3_kind, Cond.instanceMethod yX3_kind, Cond.selects RX3 yX3_kind yX3_kind, Cond.initialized RX3, Cond.code yX3_kind cX3_kind 1 (some .int), Cond.fieldLink RX3 18 "StepRewriter$Frame" "method" "LStepRewriter$Method;", Cond.fieldLink RX3 22 "StepRewriter$Frame" "place" "I", Cond.methodLink RX3 35 yX7_valueAt, Cond.instanceMethod yX7_valueAt, Cond.selects RX7 yX7_valueAt yX7_valueAt, Cond.initialized RX7, Cond.code yX7_valueAt cX7_valueAt 2 (some .int), Cond.fieldLink RX7 15 "StepRewriter$Method" "row" "[I", Cond.fieldLink RX7 18 "StepRewriter$Method" "codeAt" "I", Cond.methodLink RX7 46 yX7_hasPlace, Cond.instanceMethod yX7_hasPlace, Cond.selects RX7 yX7_hasPlace yX7_hasPlace]
def wsX6_goOn_r2 : List Cond := [Cond.code yX7_hasPlace cX7_hasPlace 2 (some .boolean), Cond.fieldLink RX7 22 "StepRewriter$Method" "length" "I", Cond.methodLink RX6 92 yX7_fourAt, Cond.instanceMethod yX7_fourAt, Cond.selects RX7 yX7_fourAt yX7_fourAt, Cond.code yX7_fourAt cX7_fourAt 2 (some .int), Cond.methodLink RX7 54 yX7_pairAt, Cond.instanceMethod yX7_pairAt, Cond.selects RX7 yX7_pairAt yX7_pairAt, Cond.code yX7_pairAt cX7_pairAt 2 (some .int), Cond.methodLink RX7 50 yX7_valueAt, Cond.methodLink RX6 96 yX6_pay, Cond.instanceMethod yX6_pay, Cond.selects RX6 yX6_pay yX6_pay, Cond.initialized RX6, Cond.code yX6_pay cX6_pay 4 (some .int), Cond.fieldLink RX6 56 "StepRewriter$Machine" "limit" "I", Cond.fieldLink RX6 47 "StepRewriter$Machine" "paid" "I", Cond.methodLink RX6 100 yX3_peek, Cond.instanceMethod yX3_peek, Cond.selects RX3 yX3_peek yX3_peek, Cond.code yX3_peek cX3_peek 1 (some .int), Cond.fieldLink RX3 15 "StepRewriter$Frame" "stack" "[I", Cond.fieldLink RX3 26 "StepRewriter$Frame" "top" "I"]
def wsX6_goOn_r3 : List Cond := [Cond.methodLink RX3 47 yX9_at, Cond.static yX9_at, Cond.initialized RX9, Cond.code yX9_at cX9_at 2 (some .int), Cond.methodLink RX6 109 yX6_call, Cond.instanceMethod yX6_call, Cond.selects RX6 yX6_call yX6_call, Cond.code yX6_call cX6_call 5 (some .int), Cond.fieldLink RX6 40 "StepRewriter$Machine" "underWay" "I", Cond.fieldLink RX6 24 "StepRewriter$Machine" "set" "LStepRewriter$CodeSet;", Cond.fieldLink RX6 69 "StepRewriter$Method" "parameters" "I", Cond.methodLink RX6 135 yX3_operand, Cond.instanceMethod yX3_operand, Cond.selects RX3 yX3_operand yX3_operand, Cond.code yX3_operand cX3_operand 1 (some .int), Cond.methodLink RX6 28 yX0_method, Cond.instanceMethod yX0_method, Cond.selects RX0 yX0_method yX0_method, Cond.initialized RX0, Cond.code yX0_method cX0_method 2 (some (.object "StepRewriter$Method")), Cond.fieldLink RX0 11 "StepRewriter$CodeSet" "methods" "[LStepRewriter$Method;", Cond.fieldLink RX0 20 "StepRewriter$CodeSet" "none" "LStepRewriter$Method;", Cond.methodLink RX6 59 yX6_frame, Cond.instanceMethod yX6_frame]
def wsX6_goOn_r4 : List Cond := [Cond.selects RX6 yX6_frame yX6_frame, Cond.code yX6_frame cX6_frame 2 (some (.object "StepRewriter$Frame")), Cond.fieldLink RX6 13 "StepRewriter$Machine" "frames" "[LStepRewriter$Frame;", Cond.methodLink RX6 63 yX3_begin, Cond.instanceMethod yX3_begin, Cond.selects RX3 yX3_begin yX3_begin, Cond.code yX3_begin cX3_begin 2 none, Cond.fieldLink RX3 9 "StepRewriter$Frame" "locals" "[I", Cond.methodLink RX3 29 yJ7_fill_53178, Cond.static yJ7_fill_53178, Cond.initialized RJ7, Cond.code yJ7_fill_53178 cJ7_fill_53178 4 none, Cond.methodLink RX6 112 yX3_pop, Cond.instanceMethod yX3_pop, Cond.selects RX3 yX3_pop yX3_pop, Cond.code yX3_pop cX3_pop 1 (some .int), Cond.methodLink RX6 74 yX3_setLocal, Cond.instanceMethod yX3_setLocal, Cond.selects RX3 yX3_setLocal yX3_setLocal, Cond.code yX3_setLocal cX3_setLocal 3 none, Cond.methodLink RX3 41 yX9_put, Cond.static yX9_put, Cond.code yX9_put cX9_put 3 none, Cond.methodLink RX6 115 yX6_leave]
def wsX6_goOn_r5 : List Cond := [Cond.instanceMethod yX6_leave, Cond.selects RX6 yX6_leave yX6_leave, Cond.code yX6_leave cX6_leave 3 (some .int), Cond.fieldLink RX6 44 "StepRewriter$Machine" "result" "I", Cond.methodLink RX6 138 yX3_push, Cond.instanceMethod yX3_push, Cond.selects RX3 yX3_push yX3_push, Cond.code yX3_push cX3_push 2 none, Cond.methodLink RX6 132 yX4_sizeOf, Cond.static yX4_sizeOf, Cond.initialized RX4, Cond.code yX4_sizeOf cX4_sizeOf 1 (some .int), Cond.methodLink RX4 7 yX4_isOfTwo, Cond.static yX4_isOfTwo, Cond.code yX4_isOfTwo cX4_isOfTwo 1 (some .boolean), Cond.methodLink RX4 13 yX4_isBranch, Cond.static yX4_isBranch, Cond.code yX4_isBranch cX4_isBranch 1 (some .boolean), Cond.methodLink RX4 16 yX4_isOfArray, Cond.static yX4_isOfArray, Cond.code yX4_isOfArray cX4_isOfArray 1 (some .boolean), Cond.methodLink RX6 118 yX4_isJump, Cond.static yX4_isJump, Cond.code yX4_isJump cX4_isJump 1 (some .boolean)]
def wsX6_goOn_r6 : List Cond := [Cond.methodLink RX6 122 yX6_jump, Cond.instanceMethod yX6_jump, Cond.selects RX6 yX6_jump yX6_jump, Cond.code yX6_jump cX6_jump 5 (some .int), Cond.methodLink RX6 148 yX4_isBranch, Cond.methodLink RX6 151 yX4_isTaken, Cond.static yX4_isTaken, Cond.code yX4_isTaken cX4_isTaken 2 (some .boolean), Cond.methodLink RX6 155 yX7_targetOf, Cond.instanceMethod yX7_targetOf, Cond.selects RX7 yX7_targetOf yX7_targetOf, Cond.code yX7_targetOf cX7_targetOf 3 (some .int), Cond.methodLink RX6 126 yX6_act, Cond.instanceMethod yX6_act, Cond.selects RX6 yX6_act yX6_act, Cond.code yX6_act cX6_act 3 (some .int), Cond.methodLink RX6 158 yX7_pairAt, Cond.methodLink RX6 161 yX3_local, Cond.instanceMethod yX3_local, Cond.selects RX3 yX3_local yX3_local, Cond.code yX3_local cX3_local 2 (some .int), Cond.methodLink RX6 164 yX4_isOfArray, Cond.methodLink RX6 167 yX6_actOnArray, Cond.instanceMethod yX6_actOnArray]
def wsX6_goOn_r7 : List Cond := [Cond.selects RX6 yX6_actOnArray yX6_actOnArray, Cond.code yX6_actOnArray cX6_actOnArray 6 (some .int), Cond.fieldLink RX6 20 "StepRewriter$Machine" "arrays" "LStepRewriter$RunArrays;", Cond.methodLink RX6 173 yX10_make, Cond.instanceMethod yX10_make, Cond.selects RX10 yX10_make yX10_make, Cond.initialized RX10, Cond.code yX10_make cX10_make 4 (some .int), Cond.fieldLink RX10 9 "StepRewriter$RunArrays" "sizes" "[I", Cond.methodLink RX10 26 yX9_put, Cond.methodLink RX10 32 yX10_put, Cond.instanceMethod yX10_put, Cond.selects RX10 yX10_put yX10_put, Cond.code yX10_put cX10_put 4 none, Cond.fieldLink RX10 15 "StepRewriter$RunArrays" "elements" "[I", Cond.methodLink RX6 176 yX10_sizeOf, Cond.instanceMethod yX10_sizeOf, Cond.selects RX10 yX10_sizeOf yX10_sizeOf, Cond.code yX10_sizeOf cX10_sizeOf 2 (some .int), Cond.methodLink RX10 35 yX9_at, Cond.methodLink RX6 177 yX10_has, Cond.instanceMethod yX10_has, Cond.selects RX10 yX10_has yX10_has, Cond.code yX10_has cX10_has 3 (some .boolean)]
def wsX6_goOn_r8 : List Cond := [Cond.methodLink RX10 39 yX10_sizeOf, Cond.methodLink RX6 180 yX10_put, Cond.methodLink RX6 184 yX10_get, Cond.instanceMethod yX10_get, Cond.selects RX10 yX10_get yX10_get, Cond.code yX10_get cX10_get 3 (some .int), Cond.methodLink RX6 170 yX6_actOnTwo, Cond.instanceMethod yX6_actOnTwo, Cond.selects RX6 yX6_actOnTwo yX6_actOnTwo, Cond.code yX6_actOnTwo cX6_actOnTwo 5 (some .int), Cond.methodLink RX6 187 yX6_joined, Cond.instanceMethod yX6_joined, Cond.selects RX6 yX6_joined yX6_joined, Cond.code yX6_joined cX6_joined 4 (some .int), Cond.methodLink RX6 129 yX6_raise, Cond.instanceMethod yX6_raise, Cond.selects RX6 yX6_raise yX6_raise, Cond.code yX6_raise cX6_raise 4 (some .int), Cond.methodLink RX6 142 yX7_handlerFor, Cond.instanceMethod yX7_handlerFor, Cond.selects RX7 yX7_handlerFor yX7_handlerFor, Cond.code yX7_handlerFor cX7_handlerFor 6 (some .int), Cond.fieldLink RX7 31 "StepRewriter$Method" "handlers" "I", Cond.methodLink RX7 86 yX7_handlerNumber]
def wsX6_goOn_r9 : List Cond := [Cond.instanceMethod yX7_handlerNumber, Cond.selects RX7 yX7_handlerNumber yX7_handlerNumber, Cond.code yX7_handlerNumber cX7_handlerNumber 3 (some .int), Cond.fieldLink RX7 9 "StepRewriter$Method" "table" "[I", Cond.methodLink RX7 68 yX9_at, Cond.methodLink RX6 145 yX3_goOnWith, Cond.instanceMethod yX3_goOnWith, Cond.selects RX3 yX3_goOnWith yX3_goOnWith, Cond.code yX3_goOnWith cX3_goOnWith 3 none, Cond.methodLink RX3 51 yX3_push]
def wsX6_goOn : List Cond := .code yX6_goOn cX6_goOn 4 (some .int) :: ((wsX6_goOn_r1 ++ (wsX6_goOn_r2 ++ (wsX6_goOn_r3 ++ (wsX6_goOn_r4 ++ (wsX6_goOn_r5 ++ (wsX6_goOn_r6 ++ (wsX6_goOn_r7 ++ (wsX6_goOn_r8 ++ wsX6_goOn_r9)))))))) ++ wsX30 ++ wsX60 ++ wsX70 ++ wsX00 ++ wsX100)
def wsX6_perform_r1 : List Cond := [Cond.fieldLink RX6 56 "StepRewriter$Machine" "limit" "I", Cond.fieldLink RX6 24 "StepRewriter$Machine" "set" "LStepRewriter$CodeSet;", Cond.fieldLink RX6 66 "StepRewriter$Frame" "method" "LStepRewriter$Method;", Cond.fieldLink RX6 69 "StepRewriter$Method" "parameters" "I", Cond.fieldLink RX6 40 "StepRewriter$Machine" "underWay" "I", Cond.constant RX6 78 (1000000), Cond.methodLink RX6 53 yX6_forget, Cond.instanceMethod yX6_forget, Cond.selects RX6 yX6_forget yX6_forget, Cond.initialized RX6, Cond.code yX6_forget cX6_forget 1 none, Cond.fieldLink RX6 20 "StepRewriter$Machine" "arrays" "LStepRewriter$RunArrays;", Cond.fieldLink RX6 44 "StepRewriter$Machine" "result" "I", Cond.fieldLink RX6 47 "StepRewriter$Machine" "paid" "I", Cond.fieldLink RX6 50 "StepRewriter$Machine" "done" "I", Cond.methodLink RX6 37 yX10_empty, Cond.instanceMethod yX10_empty, Cond.selects RX10 yX10_empty yX10_empty, Cond.initialized RX10, Cond.code yX10_empty cX10_empty 1 none, Cond.fieldLink RX10 9 "StepRewriter$RunArrays" "sizes" "[I", Cond.methodLink RX10 18 yJ7_fill_53178, Cond.static yJ7_fill_53178, Cond.initialized RJ7]
def wsX6_perform_r2 : List Cond := [Cond.code yJ7_fill_53178 cJ7_fill_53178 4 none, Cond.methodLink RX6 59 yX6_frame, Cond.instanceMethod yX6_frame, Cond.selects RX6 yX6_frame yX6_frame, Cond.code yX6_frame cX6_frame 2 (some (.object "StepRewriter$Frame")), Cond.fieldLink RX6 13 "StepRewriter$Machine" "frames" "[LStepRewriter$Frame;", Cond.methodLink RX6 28 yX0_method, Cond.instanceMethod yX0_method, Cond.selects RX0 yX0_method yX0_method, Cond.initialized RX0, Cond.code yX0_method cX0_method 2 (some (.object "StepRewriter$Method")), Cond.fieldLink RX0 11 "StepRewriter$CodeSet" "methods" "[LStepRewriter$Method;", Cond.fieldLink RX0 20 "StepRewriter$CodeSet" "none" "LStepRewriter$Method;", Cond.methodLink RX6 63 yX3_begin, Cond.instanceMethod yX3_begin, Cond.selects RX3 yX3_begin yX3_begin, Cond.initialized RX3, Cond.code yX3_begin cX3_begin 2 none, Cond.fieldLink RX3 18 "StepRewriter$Frame" "method" "LStepRewriter$Method;", Cond.fieldLink RX3 22 "StepRewriter$Frame" "place" "I", Cond.fieldLink RX3 26 "StepRewriter$Frame" "top" "I", Cond.fieldLink RX3 9 "StepRewriter$Frame" "locals" "[I", Cond.methodLink RX3 29 yJ7_fill_53178, Cond.methodLink RX6 74 yX3_setLocal]
def wsX6_perform_r3 : List Cond := [Cond.instanceMethod yX3_setLocal, Cond.selects RX3 yX3_setLocal yX3_setLocal, Cond.code yX3_setLocal cX3_setLocal 3 none, Cond.methodLink RX3 41 yX9_put, Cond.static yX9_put, Cond.initialized RX9, Cond.code yX9_put cX9_put 3 none, Cond.methodLink RX6 79 yX6_goOn, Cond.instanceMethod yX6_goOn, Cond.selects RX6 yX6_goOn yX6_goOn, Cond.code yX6_goOn cX6_goOn 4 (some .int), Cond.fieldLink RX6 89 "StepRewriter$Frame" "place" "I", Cond.methodLink RX6 103 Lib.Math.max.name, Cond.static Lib.Math.max.name, Cond.initialized "java/lang/Math", Cond.code Lib.Math.max.name Lib.Math.max.code 2 (some .int), Cond.methodLink RX6 83 yX3_kind, Cond.instanceMethod yX3_kind, Cond.selects RX3 yX3_kind yX3_kind, Cond.code yX3_kind cX3_kind 1 (some .int), Cond.methodLink RX3 35 yX7_valueAt, Cond.instanceMethod yX7_valueAt, Cond.selects RX7 yX7_valueAt yX7_valueAt, Cond.initialized RX7]
def wsX6_perform_r4 : List Cond := [Cond.code yX7_valueAt cX7_valueAt 2 (some .int), Cond.fieldLink RX7 15 "StepRewriter$Method" "row" "[I", Cond.fieldLink RX7 18 "StepRewriter$Method" "codeAt" "I", Cond.methodLink RX7 46 yX7_hasPlace, Cond.instanceMethod yX7_hasPlace, Cond.selects RX7 yX7_hasPlace yX7_hasPlace, Cond.code yX7_hasPlace cX7_hasPlace 2 (some .boolean), Cond.fieldLink RX7 22 "StepRewriter$Method" "length" "I", Cond.methodLink RX6 92 yX7_fourAt, Cond.instanceMethod yX7_fourAt, Cond.selects RX7 yX7_fourAt yX7_fourAt, Cond.code yX7_fourAt cX7_fourAt 2 (some .int), Cond.methodLink RX7 54 yX7_pairAt, Cond.instanceMethod yX7_pairAt, Cond.selects RX7 yX7_pairAt yX7_pairAt, Cond.code yX7_pairAt cX7_pairAt 2 (some .int), Cond.methodLink RX7 50 yX7_valueAt, Cond.methodLink RX6 96 yX6_pay, Cond.instanceMethod yX6_pay, Cond.selects RX6 yX6_pay yX6_pay, Cond.code yX6_pay cX6_pay 4 (some .int), Cond.methodLink RX6 100 yX3_peek, Cond.instanceMethod yX3_peek, Cond.selects RX3 yX3_peek yX3_peek]
def wsX6_perform_r5 : List Cond := [Cond.code yX3_peek cX3_peek 1 (some .int), Cond.fieldLink RX3 15 "StepRewriter$Frame" "stack" "[I", Cond.methodLink RX3 47 yX9_at, Cond.static yX9_at, Cond.code yX9_at cX9_at 2 (some .int), Cond.methodLink RX6 109 yX6_call, Cond.instanceMethod yX6_call, Cond.selects RX6 yX6_call yX6_call, Cond.code yX6_call cX6_call 5 (some .int), Cond.methodLink RX6 135 yX3_operand, Cond.instanceMethod yX3_operand, Cond.selects RX3 yX3_operand yX3_operand, Cond.code yX3_operand cX3_operand 1 (some .int), Cond.methodLink RX6 112 yX3_pop, Cond.instanceMethod yX3_pop, Cond.selects RX3 yX3_pop yX3_pop, Cond.code yX3_pop cX3_pop 1 (some .int), Cond.methodLink RX6 115 yX6_leave, Cond.instanceMethod yX6_leave, Cond.selects RX6 yX6_leave yX6_leave, Cond.code yX6_leave cX6_leave 3 (some .int), Cond.methodLink RX6 138 yX3_push, Cond.instanceMethod yX3_push, Cond.selects RX3 yX3_push yX3_push]
def wsX6_perform_r6 : List Cond := [Cond.code yX3_push cX3_push 2 none, Cond.methodLink RX6 132 yX4_sizeOf, Cond.static yX4_sizeOf, Cond.initialized RX4, Cond.code yX4_sizeOf cX4_sizeOf 1 (some .int), Cond.methodLink RX4 7 yX4_isOfTwo, Cond.static yX4_isOfTwo, Cond.code yX4_isOfTwo cX4_isOfTwo 1 (some .boolean), Cond.methodLink RX4 13 yX4_isBranch, Cond.static yX4_isBranch, Cond.code yX4_isBranch cX4_isBranch 1 (some .boolean), Cond.methodLink RX4 16 yX4_isOfArray, Cond.static yX4_isOfArray, Cond.code yX4_isOfArray cX4_isOfArray 1 (some .boolean), Cond.methodLink RX6 118 yX4_isJump, Cond.static yX4_isJump, Cond.code yX4_isJump cX4_isJump 1 (some .boolean), Cond.methodLink RX6 122 yX6_jump, Cond.instanceMethod yX6_jump, Cond.selects RX6 yX6_jump yX6_jump, Cond.code yX6_jump cX6_jump 5 (some .int), Cond.methodLink RX6 148 yX4_isBranch, Cond.methodLink RX6 151 yX4_isTaken, Cond.static yX4_isTaken]
def wsX6_perform_r7 : List Cond := [Cond.code yX4_isTaken cX4_isTaken 2 (some .boolean), Cond.methodLink RX6 155 yX7_targetOf, Cond.instanceMethod yX7_targetOf, Cond.selects RX7 yX7_targetOf yX7_targetOf, Cond.code yX7_targetOf cX7_targetOf 3 (some .int), Cond.methodLink RX6 126 yX6_act, Cond.instanceMethod yX6_act, Cond.selects RX6 yX6_act yX6_act, Cond.code yX6_act cX6_act 3 (some .int), Cond.methodLink RX6 158 yX7_pairAt, Cond.methodLink RX6 161 yX3_local, Cond.instanceMethod yX3_local, Cond.selects RX3 yX3_local yX3_local, Cond.code yX3_local cX3_local 2 (some .int), Cond.methodLink RX6 164 yX4_isOfArray, Cond.methodLink RX6 167 yX6_actOnArray, Cond.instanceMethod yX6_actOnArray, Cond.selects RX6 yX6_actOnArray yX6_actOnArray, Cond.code yX6_actOnArray cX6_actOnArray 6 (some .int), Cond.methodLink RX6 173 yX10_make, Cond.instanceMethod yX10_make, Cond.selects RX10 yX10_make yX10_make, Cond.code yX10_make cX10_make 4 (some .int), Cond.methodLink RX10 26 yX9_put]
def wsX6_perform_r8 : List Cond := [Cond.methodLink RX10 32 yX10_put, Cond.instanceMethod yX10_put, Cond.selects RX10 yX10_put yX10_put, Cond.code yX10_put cX10_put 4 none, Cond.fieldLink RX10 15 "StepRewriter$RunArrays" "elements" "[I", Cond.methodLink RX6 176 yX10_sizeOf, Cond.instanceMethod yX10_sizeOf, Cond.selects RX10 yX10_sizeOf yX10_sizeOf, Cond.code yX10_sizeOf cX10_sizeOf 2 (some .int), Cond.methodLink RX10 35 yX9_at, Cond.methodLink RX6 177 yX10_has, Cond.instanceMethod yX10_has, Cond.selects RX10 yX10_has yX10_has, Cond.code yX10_has cX10_has 3 (some .boolean), Cond.methodLink RX10 39 yX10_sizeOf, Cond.methodLink RX6 180 yX10_put, Cond.methodLink RX6 184 yX10_get, Cond.instanceMethod yX10_get, Cond.selects RX10 yX10_get yX10_get, Cond.code yX10_get cX10_get 3 (some .int), Cond.methodLink RX6 170 yX6_actOnTwo, Cond.instanceMethod yX6_actOnTwo, Cond.selects RX6 yX6_actOnTwo yX6_actOnTwo, Cond.code yX6_actOnTwo cX6_actOnTwo 5 (some .int)]
def wsX6_perform_r9 : List Cond := [Cond.methodLink RX6 187 yX6_joined, Cond.instanceMethod yX6_joined, Cond.selects RX6 yX6_joined yX6_joined, Cond.code yX6_joined cX6_joined 4 (some .int), Cond.methodLink RX6 129 yX6_raise, Cond.instanceMethod yX6_raise, Cond.selects RX6 yX6_raise yX6_raise, Cond.code yX6_raise cX6_raise 4 (some .int), Cond.methodLink RX6 142 yX7_handlerFor, Cond.instanceMethod yX7_handlerFor, Cond.selects RX7 yX7_handlerFor yX7_handlerFor, Cond.code yX7_handlerFor cX7_handlerFor 6 (some .int), Cond.fieldLink RX7 31 "StepRewriter$Method" "handlers" "I", Cond.methodLink RX7 86 yX7_handlerNumber, Cond.instanceMethod yX7_handlerNumber, Cond.selects RX7 yX7_handlerNumber yX7_handlerNumber, Cond.code yX7_handlerNumber cX7_handlerNumber 3 (some .int), Cond.fieldLink RX7 9 "StepRewriter$Method" "table" "[I", Cond.methodLink RX7 68 yX9_at, Cond.methodLink RX6 145 yX3_goOnWith, Cond.instanceMethod yX3_goOnWith, Cond.selects RX3 yX3_goOnWith yX3_goOnWith, Cond.code yX3_goOnWith cX3_goOnWith 3 none, Cond.methodLink RX3 51 yX3_push]
def wsX6_perform : List Cond := .code yX6_perform cX6_perform 8 (some .int) :: ((wsX6_perform_r1 ++ (wsX6_perform_r2 ++ (wsX6_perform_r3 ++ (wsX6_perform_r4 ++ (wsX6_perform_r5 ++ (wsX6_perform_r6 ++ (wsX6_perform_r7 ++ (wsX6_perform_r8 ++ wsX6_perform_r9)))))))) ++ wsX60 ++ wsX30 ++ wsX70 ++ wsX100 ++ wsX00)
def wsX7_blockBegin : List Cond := .code yX7_blockBegin cX7_blockBegin 4 (some .int) :: ([.fieldLink RX7 22 "StepRewriter$Method" "length" "I", .methodLink RX7 78 yX7_beginsBlock, .instanceMethod yX7_beginsBlock, .selects RX7 yX7_beginsBlock yX7_beginsBlock, .initialized RX7, .code yX7_beginsBlock cX7_beginsBlock 2 (some .boolean), .fieldLink RX7 15 "StepRewriter$Method" "row" "[I", .fieldLink RX7 18 "StepRewriter$Method" "codeAt" "I", .methodLink RX7 46 yX7_hasPlace, .instanceMethod yX7_hasPlace, .selects RX7 yX7_hasPlace yX7_hasPlace, .code yX7_hasPlace cX7_hasPlace 2 (some .boolean)] ++ wsX70)
def wsX8_becomeFirst : List Cond := .code yX8_becomeFirst cX8_becomeFirst 1 none :: ([.fieldLink RX8 9 "StepRewriter$Prices" "row" "[I", .methodLink RX8 16 yJ7_fill_53178, .static yJ7_fill_53178, .initialized RJ7, .code yJ7_fill_53178 cJ7_fill_53178 4 none, .methodLink RX8 24 yX9_put, .static yX9_put, .initialized RX9, .code yX9_put cX9_put 3 none] ++ wsX80)
def wsX8_init : List Cond := .code yX8_init cX8_init 1 none :: ([.methodLink RX8 1 objectInit, .instanceMethod objectInit, .code objectInit ⟨#[0xb1]⟩ 1 none, .arrayClass .int, .fieldLink RX8 9 "StepRewriter$Prices" "row" "[I", .methodLink RX8 13 yX8_becomeFirst, .instanceMethod yX8_becomeFirst, .selects RX8 yX8_becomeFirst yX8_becomeFirst, .initialized RX8, .code yX8_becomeFirst cX8_becomeFirst 1 none, .methodLink RX8 16 yJ7_fill_53178, .static yJ7_fill_53178, .initialized RJ7, .code yJ7_fill_53178 cJ7_fill_53178 4 none, .methodLink RX8 24 yX9_put, .static yX9_put, .initialized RX9, .code yX9_put cX9_put 3 none] ++ wsX80)
def wsX8_become : List Cond := .code yX8_become cX8_become 3 none :: ([.fieldLink RX8 9 "StepRewriter$Prices" "row" "[I", .methodLink RX8 24 yX9_put, .static yX9_put, .initialized RX9, .code yX9_put cX9_put 3 none] ++ wsX80)
def wsX11_init_r1 : List Cond := [Cond.methodLink RX11 1 objectInit, Cond.instanceMethod objectInit, Cond.code objectInit ⟨#[0xb1]⟩ 1 none, Cond.classLink RX11 7 RX0, Cond.instantiable RX0 5, Cond.initialized RX0, Cond.fieldLink RX11 14 "StepRewriter" "tape" "LStepRewriter$CodeSet;", Cond.fieldLink RX11 18 "StepRewriter" "file" "LStepRewriter$CodeSet;", Cond.fieldLink RX11 21 "StepRewriter" "spare" "LStepRewriter$CodeSet;", Cond.fieldLink RX11 24 "StepRewriter" "rewritten" "LStepRewriter$CodeSet;", Cond.classLink RX11 27 RX8, Cond.instantiable RX8 1, Cond.initialized RX8, Cond.fieldLink RX11 30 "StepRewriter" "prices" "LStepRewriter$Prices;", Cond.classLink RX11 34 RX2, Cond.instantiable RX2 1, Cond.initialized RX2, Cond.fieldLink RX11 37 "StepRewriter" "check" "LStepRewriter$FormCheck;", Cond.classLink RX11 41 RX5, Cond.instantiable RX5 5, Cond.initialized RX5, Cond.fieldLink RX11 44 "StepRewriter" "layout" "LStepRewriter$Layout;", Cond.classLink RX11 48 RX6, Cond.instantiable RX6 8]
def wsX11_init_r2 : List Cond := [Cond.initialized RX6, Cond.fieldLink RX11 53 "StepRewriter" "machine" "LStepRewriter$Machine;", Cond.methodLink RX11 11 yX0_init, Cond.instanceMethod yX0_init, Cond.code yX0_init cX0_init 3 none, Cond.methodLink RX0 3 objectInit, Cond.classLink RX0 9 RX7, Cond.fieldLink RX0 11 "StepRewriter$CodeSet" "methods" "[LStepRewriter$Method;", Cond.instantiable RX7 11, Cond.initialized RX7, Cond.arrayClass .int, Cond.fieldLink RX0 20 "StepRewriter$CodeSet" "none" "LStepRewriter$Method;", Cond.fieldLink RX0 24 "StepRewriter$CodeSet" "row" "[I", Cond.methodLink RX0 17 yX7_init, Cond.instanceMethod yX7_init, Cond.code yX7_init cX7_init 2 none, Cond.methodLink RX7 3 objectInit, Cond.fieldLink RX7 9 "StepRewriter$Method" "table" "[I", Cond.fieldLink RX7 15 "StepRewriter$Method" "row" "[I", Cond.methodLink RX11 29 yX8_init, Cond.instanceMethod yX8_init, Cond.code yX8_init cX8_init 1 none, Cond.methodLink RX8 1 objectInit, Cond.fieldLink RX8 9 "StepRewriter$Prices" "row" "[I"]
def wsX11_init_r3 : List Cond := [Cond.methodLink RX8 13 yX8_becomeFirst, Cond.instanceMethod yX8_becomeFirst, Cond.selects RX8 yX8_becomeFirst yX8_becomeFirst, Cond.code yX8_becomeFirst cX8_becomeFirst 1 none, Cond.methodLink RX8 16 yJ7_fill_53178, Cond.static yJ7_fill_53178, Cond.initialized RJ7, Cond.code yJ7_fill_53178 cJ7_fill_53178 4 none, Cond.methodLink RX8 24 yX9_put, Cond.static yX9_put, Cond.initialized RX9, Cond.code yX9_put cX9_put 3 none, Cond.instanceMethod yX2_init, Cond.code yX2_init cX2_init 1 none, Cond.methodLink RX2 3 objectInit, Cond.classLink RX2 9 RX1, Cond.instantiable RX1 3, Cond.initialized RX1, Cond.fieldLink RX2 12 "StepRewriter$FormCheck" "depths" "LStepRewriter$DepthCheck;", Cond.instanceMethod yX1_init, Cond.code yX1_init cX1_init 1 none, Cond.methodLink RX1 3 objectInit, Cond.fieldLink RX1 9 "StepRewriter$DepthCheck" "depths" "[I", Cond.fieldLink RX1 15 "StepRewriter$DepthCheck" "gone" "[I"]
def wsX11_init_r4 : List Cond := [Cond.instanceMethod yX5_init, Cond.code yX5_init cX5_init 1 none, Cond.methodLink RX5 3 objectInit, Cond.fieldLink RX5 9 "StepRewriter$Layout" "sums" "[I", Cond.fieldLink RX5 15 "StepRewriter$Layout" "places" "[I", Cond.fieldLink RX5 18 "StepRewriter$Layout" "ways" "[I", Cond.fieldLink RX5 21 "StepRewriter$Layout" "longs" "[I", Cond.methodLink RX11 50 yX6_init, Cond.instanceMethod yX6_init, Cond.code yX6_init cX6_init 3 none, Cond.methodLink RX6 3 objectInit, Cond.classLink RX6 11 RX3, Cond.fieldLink RX6 13 "StepRewriter$Machine" "frames" "[LStepRewriter$Frame;", Cond.classLink RX6 17 RX10, Cond.instantiable RX10 2, Cond.initialized RX10, Cond.fieldLink RX6 20 "StepRewriter$Machine" "arrays" "LStepRewriter$RunArrays;", Cond.fieldLink RX6 24 "StepRewriter$Machine" "set" "LStepRewriter$CodeSet;", Cond.instantiable RX3 5, Cond.initialized RX3, Cond.instanceMethod yX10_init, Cond.code yX10_init cX10_init 1 none, Cond.methodLink RX10 3 objectInit, Cond.fieldLink RX10 9 "StepRewriter$RunArrays" "sizes" "[I"]
def wsX11_init_r5 : List Cond := [Cond.fieldLink RX10 15 "StepRewriter$RunArrays" "elements" "[I", Cond.methodLink RX6 28 yX0_method, Cond.instanceMethod yX0_method, Cond.selects RX0 yX0_method yX0_method, Cond.code yX0_method cX0_method 2 (some (.object "StepRewriter$Method")), Cond.methodLink RX6 34 yX3_init, Cond.instanceMethod yX3_init, Cond.code yX3_init cX3_init 2 none, Cond.methodLink RX3 3 objectInit, Cond.fieldLink RX3 9 "StepRewriter$Frame" "locals" "[I", Cond.fieldLink RX3 15 "StepRewriter$Frame" "stack" "[I", Cond.fieldLink RX3 18 "StepRewriter$Frame" "method" "LStepRewriter$Method;"]
def wsX11_init : List Cond := .code yX11_init cX11_init 1 none :: ((wsX11_init_r1 ++ (wsX11_init_r2 ++ (wsX11_init_r3 ++ (wsX11_init_r4 ++ wsX11_init_r5)))) ++ wsX00 ++ wsX110 ++ wsX80 ++ wsX20 ++ wsX50 ++ wsX60 ++ wsX70 ++ wsX10 ++ wsX100 ++ wsX30)
def wsX11_feed : List Cond := .code yX11_feed cX11_feed 5 (some .int) :: ([.fieldLink RX11 14 "StepRewriter" "tape" "LStepRewriter$CodeSet;", .fieldLink RX11 57 "StepRewriter$CodeSet" "used" "I", .methodLink RX11 61 yX0_append, .instanceMethod yX0_append, .selects RX0 yX0_append yX0_append, .initialized RX0, .code yX0_append cX0_append 2 none, .fieldLink RX0 28 "StepRewriter$CodeSet" "used" "I", .fieldLink RX0 24 "StepRewriter$CodeSet" "row" "[I", .methodLink RX0 35 yX9_put, .static yX9_put, .initialized RX9, .code yX9_put cX9_put 3 none] ++ wsX110 ++ wsX00)
def wsX11_load_r1 : List Cond := [Cond.fieldLink RX11 37 "StepRewriter" "check" "LStepRewriter$FormCheck;", Cond.fieldLink RX11 14 "StepRewriter" "tape" "LStepRewriter$CodeSet;", Cond.fieldLink RX11 18 "StepRewriter" "file" "LStepRewriter$CodeSet;", Cond.fieldLink RX11 24 "StepRewriter" "rewritten" "LStepRewriter$CodeSet;", Cond.fieldLink RX11 71 "StepRewriter$CodeSet" "count" "I", Cond.methodLink RX11 64 yX2_firstWrong, Cond.instanceMethod yX2_firstWrong, Cond.selects RX2 yX2_firstWrong yX2_firstWrong, Cond.initialized RX2, Cond.code yX2_firstWrong cX2_firstWrong 5 (some .int), Cond.fieldLink RX2 24 "StepRewriter$CodeSet" "count" "I", Cond.fieldLink RX2 28 "StepRewriter$CodeSet" "used" "I", Cond.fieldLink RX2 12 "StepRewriter$FormCheck" "depths" "LStepRewriter$DepthCheck;", Cond.methodLink RX2 18 yX0_valueAt, Cond.instanceMethod yX0_valueAt, Cond.selects RX0 yX0_valueAt yX0_valueAt, Cond.initialized RX0, Cond.code yX0_valueAt cX0_valueAt 2 (some .int), Cond.fieldLink RX0 28 "StepRewriter$CodeSet" "used" "I", Cond.fieldLink RX0 24 "StepRewriter$CodeSet" "row" "[I", Cond.methodLink RX0 45 yX9_at, Cond.static yX9_at, Cond.initialized RX9, Cond.code yX9_at cX9_at 2 (some .int)]
def wsX11_load_r2 : List Cond := [Cond.methodLink RX2 31 yX0_method, Cond.instanceMethod yX0_method, Cond.selects RX0 yX0_method yX0_method, Cond.code yX0_method cX0_method 2 (some (.object "StepRewriter$Method")), Cond.fieldLink RX0 11 "StepRewriter$CodeSet" "methods" "[LStepRewriter$Method;", Cond.fieldLink RX0 20 "StepRewriter$CodeSet" "none" "LStepRewriter$Method;", Cond.methodLink RX2 35 yX2_wrongInMethod, Cond.instanceMethod yX2_wrongInMethod, Cond.selects RX2 yX2_wrongInMethod yX2_wrongInMethod, Cond.code yX2_wrongInMethod cX2_wrongInMethod 5 (some .int), Cond.methodLink RX2 62 yX7_empty, Cond.instanceMethod yX7_empty, Cond.selects RX7 yX7_empty yX7_empty, Cond.initialized RX7, Cond.code yX7_empty cX7_empty 1 none, Cond.fieldLink RX7 18 "StepRewriter$Method" "codeAt" "I", Cond.fieldLink RX7 22 "StepRewriter$Method" "length" "I", Cond.fieldLink RX7 25 "StepRewriter$Method" "parameters" "I", Cond.fieldLink RX7 28 "StepRewriter$Method" "locals" "I", Cond.fieldLink RX7 31 "StepRewriter$Method" "handlers" "I", Cond.fieldLink RX7 34 "StepRewriter$Method" "blocks" "I", Cond.fieldLink RX7 37 "StepRewriter$Method" "longBranches" "I", Cond.fieldLink RX7 40 "StepRewriter$Method" "longJumps" "I", Cond.fieldLink RX7 43 "StepRewriter$Method" "deepest" "I"]
def wsX11_load_r3 : List Cond := [Cond.methodLink RX2 65 yX2_wrongNumber, Cond.instanceMethod yX2_wrongNumber, Cond.selects RX2 yX2_wrongNumber yX2_wrongNumber, Cond.code yX2_wrongNumber cX2_wrongNumber 5 (some .int), Cond.fieldLink RX2 82 "StepRewriter$Method" "parameters" "I", Cond.fieldLink RX2 85 "StepRewriter$Method" "locals" "I", Cond.fieldLink RX2 59 "StepRewriter$Method" "length" "I", Cond.fieldLink RX2 56 "StepRewriter$Method" "codeAt" "I", Cond.methodLink RX2 88 yX0_pairAt, Cond.instanceMethod yX0_pairAt, Cond.selects RX0 yX0_pairAt yX0_pairAt, Cond.code yX0_pairAt cX0_pairAt 2 (some .int), Cond.methodLink RX0 49 yX0_valueAt, Cond.methodLink RX2 91 yX2_wrongHandlerCount, Cond.instanceMethod yX2_wrongHandlerCount, Cond.selects RX2 yX2_wrongHandlerCount yX2_wrongHandlerCount, Cond.code yX2_wrongHandlerCount cX2_wrongHandlerCount 4 (some .int), Cond.fieldLink RX2 47 "StepRewriter$Method" "handlers" "I", Cond.methodLink RX2 39 yX2_endOf, Cond.instanceMethod yX2_endOf, Cond.selects RX2 yX2_endOf yX2_endOf, Cond.code yX2_endOf cX2_endOf 2 (some .int), Cond.methodLink RX2 52 yX2_handlerPlace, Cond.instanceMethod yX2_handlerPlace]
def wsX11_load_r4 : List Cond := [Cond.selects RX2 yX2_handlerPlace yX2_handlerPlace, Cond.code yX2_handlerPlace cX2_handlerPlace 3 (some .int), Cond.methodLink RX2 68 yX2_wrongInstruction, Cond.instanceMethod yX2_wrongInstruction, Cond.selects RX2 yX2_wrongInstruction yX2_wrongInstruction, Cond.code yX2_wrongInstruction cX2_wrongInstruction 6 (some .int), Cond.fieldLink RX2 108 "StepRewriter$Method" "longJumps" "I", Cond.methodLink RX2 94 yX7_sizeAt, Cond.instanceMethod yX7_sizeAt, Cond.selects RX7 yX7_sizeAt yX7_sizeAt, Cond.code yX7_sizeAt cX7_sizeAt 2 (some .int), Cond.methodLink RX7 50 yX7_valueAt, Cond.instanceMethod yX7_valueAt, Cond.selects RX7 yX7_valueAt yX7_valueAt, Cond.code yX7_valueAt cX7_valueAt 2 (some .int), Cond.fieldLink RX7 15 "StepRewriter$Method" "row" "[I", Cond.methodLink RX7 46 yX7_hasPlace, Cond.instanceMethod yX7_hasPlace, Cond.selects RX7 yX7_hasPlace yX7_hasPlace, Cond.code yX7_hasPlace cX7_hasPlace 2 (some .boolean), Cond.methodLink RX7 65 yX4_sizeOf, Cond.static yX4_sizeOf, Cond.initialized RX4, Cond.code yX4_sizeOf cX4_sizeOf 1 (some .int)]
def wsX11_load_r5 : List Cond := [Cond.methodLink RX4 7 yX4_isOfTwo, Cond.static yX4_isOfTwo, Cond.code yX4_isOfTwo cX4_isOfTwo 1 (some .boolean), Cond.methodLink RX4 13 yX4_isBranch, Cond.static yX4_isBranch, Cond.code yX4_isBranch cX4_isBranch 1 (some .boolean), Cond.methodLink RX4 16 yX4_isOfArray, Cond.static yX4_isOfArray, Cond.code yX4_isOfArray cX4_isOfArray 1 (some .boolean), Cond.methodLink RX2 97 yX2_hasOperand, Cond.instanceMethod yX2_hasOperand, Cond.selects RX2 yX2_hasOperand yX2_hasOperand, Cond.code yX2_hasOperand cX2_hasOperand 6 (some .boolean), Cond.methodLink RX2 105 yX7_valueAt, Cond.methodLink RX2 111 yX0_has, Cond.instanceMethod yX0_has, Cond.selects RX0 yX0_has yX0_has, Cond.code yX0_has cX0_has 2 (some .boolean), Cond.fieldLink RX0 32 "StepRewriter$CodeSet" "count" "I", Cond.methodLink RX2 115 yX4_isOfArray, Cond.methodLink RX2 101 yX7_mark, Cond.instanceMethod yX7_mark, Cond.selects RX7 yX7_mark yX7_mark, Cond.code yX7_mark cX7_mark 3 none]
def wsX11_load_r6 : List Cond := [Cond.methodLink RX2 72 yX2_wrongHandler, Cond.instanceMethod yX2_wrongHandler, Cond.selects RX2 yX2_wrongHandler yX2_wrongHandler, Cond.code yX2_wrongHandler cX2_wrongHandler 10 (some .int), Cond.methodLink RX2 118 yX7_begins, Cond.instanceMethod yX7_begins, Cond.selects RX7 yX7_begins yX7_begins, Cond.code yX7_begins cX7_begins 2 (some .boolean), Cond.methodLink RX2 121 yX7_setHandlerNumber, Cond.instanceMethod yX7_setHandlerNumber, Cond.selects RX7 yX7_setHandlerNumber yX7_setHandlerNumber, Cond.code yX7_setHandlerNumber cX7_setHandlerNumber 4 none, Cond.fieldLink RX7 9 "StepRewriter$Method" "table" "[I", Cond.methodLink RX7 74 yX9_put, Cond.static yX9_put, Cond.code yX9_put cX9_put 3 none, Cond.methodLink RX2 75 yX2_wrongJump, Cond.instanceMethod yX2_wrongJump, Cond.selects RX2 yX2_wrongJump yX2_wrongJump, Cond.code yX2_wrongJump cX2_wrongJump 3 (some .int), Cond.methodLink RX2 125 yX7_jumpsAt, Cond.instanceMethod yX7_jumpsAt, Cond.selects RX7 yX7_jumpsAt yX7_jumpsAt, Cond.code yX7_jumpsAt cX7_jumpsAt 2 (some .boolean)]
def wsX11_load_r7 : List Cond := [Cond.methodLink RX7 57 yX7_begins, Cond.methodLink RX7 60 yX4_isJump, Cond.static yX4_isJump, Cond.code yX4_isJump cX4_isJump 1 (some .boolean), Cond.methodLink RX2 128 yX7_targetOf, Cond.instanceMethod yX7_targetOf, Cond.selects RX7 yX7_targetOf yX7_targetOf, Cond.code yX7_targetOf cX7_targetOf 3 (some .int), Cond.methodLink RX2 78 yX2_markBlocks, Cond.instanceMethod yX2_markBlocks, Cond.selects RX2 yX2_markBlocks yX2_markBlocks, Cond.code yX2_markBlocks cX2_markBlocks 4 none, Cond.fieldLink RX2 138 "StepRewriter$Method" "blocks" "I", Cond.methodLink RX2 131 yX4_endsWay, Cond.static yX4_endsWay, Cond.code yX4_endsWay cX4_endsWay 1 (some .boolean), Cond.methodLink RX2 134 yX7_handlerNumber, Cond.instanceMethod yX7_handlerNumber, Cond.selects RX7 yX7_handlerNumber yX7_handlerNumber, Cond.code yX7_handlerNumber cX7_handlerNumber 3 (some .int), Cond.methodLink RX7 68 yX9_at, Cond.methodLink RX2 141 yX7_beginsBlock, Cond.instanceMethod yX7_beginsBlock, Cond.selects RX7 yX7_beginsBlock yX7_beginsBlock]
def wsX11_load_r8 : List Cond := [Cond.code yX7_beginsBlock cX7_beginsBlock 2 (some .boolean), Cond.methodLink RX2 43 yX1_firstWrong, Cond.instanceMethod yX1_firstWrong, Cond.selects RX1 yX1_firstWrong yX1_firstWrong, Cond.initialized RX1, Cond.code yX1_firstWrong cX1_firstWrong 4 (some .int), Cond.fieldLink RX1 18 "StepRewriter$CodeSet" "count" "I", Cond.fieldLink RX1 32 "StepRewriter$Method" "codeAt" "I", Cond.methodLink RX1 24 yX0_method, Cond.methodLink RX1 28 yX1_wrongPlace, Cond.instanceMethod yX1_wrongPlace, Cond.selects RX1 yX1_wrongPlace yX1_wrongPlace, Cond.code yX1_wrongPlace cX1_wrongPlace 5 (some .int), Cond.fieldLink RX1 9 "StepRewriter$DepthCheck" "depths" "[I", Cond.fieldLink RX1 15 "StepRewriter$DepthCheck" "gone" "[I", Cond.fieldLink RX1 43 "StepRewriter$DepthCheck" "lowest" "I", Cond.fieldLink RX1 52 "StepRewriter$Method" "handlers" "I", Cond.fieldLink RX1 59 "StepRewriter$Method" "length" "I", Cond.fieldLink RX1 74 "StepRewriter$Method" "deepest" "I", Cond.methodLink RX1 37 yJ7_fill_53178, Cond.static yJ7_fill_53178, Cond.initialized RJ7, Cond.code yJ7_fill_53178 cJ7_fill_53178 4 none, Cond.methodLink RX1 46 yX9_put]
def wsX11_load_r9 : List Cond := [Cond.methodLink RX1 55 yX7_handlerNumber, Cond.methodLink RX1 62 yX1_findLowest, Cond.instanceMethod yX1_findLowest, Cond.selects RX1 yX1_findLowest yX1_findLowest, Cond.code yX1_findLowest cX1_findLowest 2 (some .boolean), Cond.methodLink RX1 77 yX9_at, Cond.methodLink RX1 66 yX1_goOn, Cond.instanceMethod yX1_goOn, Cond.selects RX1 yX1_goOn yX1_goOn, Cond.code yX1_goOn cX1_goOn 13 (some .int), Cond.fieldLink RX1 90 "StepRewriter$Method" "parameters" "I", Cond.methodLink RX1 111 Lib.Math.min.name, Cond.static Lib.Math.min.name, Cond.initialized "java/lang/Math", Cond.code Lib.Math.min.name Lib.Math.min.code 2 (some .int), Cond.methodLink RX1 81 yX7_valueAt, Cond.methodLink RX1 87 yX4_takes, Cond.static yX4_takes, Cond.code yX4_takes cX4_takes 1 (some .int), Cond.methodLink RX1 93 yX4_gives, Cond.static yX4_gives, Cond.code yX4_gives cX4_gives 1 (some .int), Cond.methodLink RX1 96 yX7_sizeAt, Cond.methodLink RX1 99 yX4_endsWay]
def wsX11_load_r10 : List Cond := [Cond.methodLink RX1 102 yX1_reach, Cond.instanceMethod yX1_reach, Cond.selects RX1 yX1_reach yX1_reach, Cond.code yX1_reach cX1_reach 4 (some .int), Cond.methodLink RX1 105 yX4_isJump, Cond.methodLink RX1 108 yX7_targetOf, Cond.methodLink RX1 70 yX1_greatest, Cond.instanceMethod yX1_greatest, Cond.selects RX1 yX1_greatest yX1_greatest, Cond.code yX1_greatest cX1_greatest 3 (some .int), Cond.methodLink RX1 116 Lib.Math.max.name, Cond.static Lib.Math.max.name, Cond.code Lib.Math.max.name Lib.Math.max.code 2 (some .int), Cond.methodLink RX11 68 yX0_empty, Cond.instanceMethod yX0_empty, Cond.selects RX0 yX0_empty yX0_empty, Cond.code yX0_empty cX0_empty 1 none]
def wsX11_load : List Cond := .code yX11_load cX11_load 3 (some .int) :: ((wsX11_load_r1 ++ (wsX11_load_r2 ++ (wsX11_load_r3 ++ (wsX11_load_r4 ++ (wsX11_load_r5 ++ (wsX11_load_r6 ++ (wsX11_load_r7 ++ (wsX11_load_r8 ++ (wsX11_load_r9 ++ wsX11_load_r10))))))))) ++ wsX110 ++ wsX00 ++ wsX20 ++ wsX70 ++ wsX10)
def wsX11_price_r1 : List Cond := [Cond.fieldLink RX11 30 "StepRewriter" "prices" "LStepRewriter$Prices;", Cond.methodLink RX11 74 yX4_sizeOf, Cond.static yX4_sizeOf, Cond.initialized RX4, Cond.code yX4_sizeOf cX4_sizeOf 1 (some .int), Cond.methodLink RX4 7 yX4_isOfTwo, Cond.static yX4_isOfTwo, Cond.code yX4_isOfTwo cX4_isOfTwo 1 (some .boolean), Cond.methodLink RX4 13 yX4_isBranch, Cond.static yX4_isBranch, Cond.code yX4_isBranch cX4_isBranch 1 (some .boolean), Cond.methodLink RX4 16 yX4_isOfArray, Cond.static yX4_isOfArray, Cond.code yX4_isOfArray cX4_isOfArray 1 (some .boolean), Cond.methodLink RX11 80 yX8_of, Cond.instanceMethod yX8_of, Cond.selects RX8 yX8_of yX8_of, Cond.initialized RX8, Cond.code yX8_of cX8_of 2 (some .int), Cond.fieldLink RX8 9 "StepRewriter$Prices" "row" "[I", Cond.methodLink RX8 30 yX9_at, Cond.static yX9_at, Cond.initialized RX9, Cond.code yX9_at cX9_at 2 (some .int)]
def wsX11_price_r2 : List Cond := [Cond.methodLink RX11 83 yX8_become, Cond.instanceMethod yX8_become, Cond.selects RX8 yX8_become yX8_become, Cond.code yX8_become cX8_become 3 none, Cond.methodLink RX8 24 yX9_put, Cond.static yX9_put, Cond.code yX9_put cX9_put 3 none]
def wsX11_price : List Cond := .code yX11_price cX11_price 4 (some .int) :: ((wsX11_price_r1 ++ wsX11_price_r2) ++ wsX110 ++ wsX80)
def wsX11_rewrite_r1 : List Cond := [Cond.fieldLink RX11 18 "StepRewriter" "file" "LStepRewriter$CodeSet;", Cond.fieldLink RX11 71 "StepRewriter$CodeSet" "count" "I", Cond.fieldLink RX11 24 "StepRewriter" "rewritten" "LStepRewriter$CodeSet;", Cond.fieldLink RX11 44 "StepRewriter" "layout" "LStepRewriter$Layout;", Cond.fieldLink RX11 30 "StepRewriter" "prices" "LStepRewriter$Prices;", Cond.methodLink RX11 68 yX0_empty, Cond.instanceMethod yX0_empty, Cond.selects RX0 yX0_empty yX0_empty, Cond.initialized RX0, Cond.code yX0_empty cX0_empty 1 none, Cond.fieldLink RX0 28 "StepRewriter$CodeSet" "used" "I", Cond.fieldLink RX0 32 "StepRewriter$CodeSet" "count" "I", Cond.methodLink RX11 87 yX0_method, Cond.instanceMethod yX0_method, Cond.selects RX0 yX0_method yX0_method, Cond.code yX0_method cX0_method 2 (some (.object "StepRewriter$Method")), Cond.fieldLink RX0 11 "StepRewriter$CodeSet" "methods" "[LStepRewriter$Method;", Cond.fieldLink RX0 20 "StepRewriter$CodeSet" "none" "LStepRewriter$Method;", Cond.methodLink RX11 91 yX5_plan, Cond.instanceMethod yX5_plan, Cond.selects RX5 yX5_plan yX5_plan, Cond.initialized RX5, Cond.code yX5_plan cX5_plan 6 (some .int), Cond.fieldLink RX5 24 "StepRewriter$Layout" "paying" "Z"]
def wsX11_rewrite_r2 : List Cond := [Cond.fieldLink RX5 21 "StepRewriter$Layout" "longs" "[I", Cond.fieldLink RX5 42 "StepRewriter$Method" "length" "I", Cond.methodLink RX5 28 yX5_takeSums, Cond.instanceMethod yX5_takeSums, Cond.selects RX5 yX5_takeSums yX5_takeSums, Cond.code yX5_takeSums cX5_takeSums 4 none, Cond.fieldLink RX5 9 "StepRewriter$Layout" "sums" "[I", Cond.methodLink RX5 32 yJ7_fill_53178, Cond.static yJ7_fill_53178, Cond.initialized RJ7, Cond.code yJ7_fill_53178 cJ7_fill_53178 4 none, Cond.methodLink RX5 84 yX7_beginsBlock, Cond.instanceMethod yX7_beginsBlock, Cond.selects RX7 yX7_beginsBlock yX7_beginsBlock, Cond.initialized RX7, Cond.code yX7_beginsBlock cX7_beginsBlock 2 (some .boolean), Cond.fieldLink RX7 15 "StepRewriter$Method" "row" "[I", Cond.fieldLink RX7 18 "StepRewriter$Method" "codeAt" "I", Cond.methodLink RX7 46 yX7_hasPlace, Cond.instanceMethod yX7_hasPlace, Cond.selects RX7 yX7_hasPlace yX7_hasPlace, Cond.code yX7_hasPlace cX7_hasPlace 2 (some .boolean), Cond.fieldLink RX7 22 "StepRewriter$Method" "length" "I", Cond.methodLink RX5 87 yX7_sumFrom]
def wsX11_rewrite_r3 : List Cond := [Cond.instanceMethod yX7_sumFrom, Cond.selects RX7 yX7_sumFrom yX7_sumFrom, Cond.code yX7_sumFrom cX7_sumFrom 5 (some .int), Cond.methodLink RX7 78 yX7_beginsBlock, Cond.methodLink RX7 57 yX7_begins, Cond.instanceMethod yX7_begins, Cond.selects RX7 yX7_begins yX7_begins, Cond.code yX7_begins cX7_begins 2 (some .boolean), Cond.methodLink RX7 50 yX7_valueAt, Cond.instanceMethod yX7_valueAt, Cond.selects RX7 yX7_valueAt yX7_valueAt, Cond.code yX7_valueAt cX7_valueAt 2 (some .int), Cond.methodLink RX7 81 yX8_of, Cond.instanceMethod yX8_of, Cond.selects RX8 yX8_of yX8_of, Cond.initialized RX8, Cond.code yX8_of cX8_of 2 (some .int), Cond.fieldLink RX8 9 "StepRewriter$Prices" "row" "[I", Cond.methodLink RX8 30 yX9_at, Cond.static yX9_at, Cond.initialized RX9, Cond.code yX9_at cX9_at 2 (some .int), Cond.methodLink RX5 91 yX9_put, Cond.static yX9_put]
def wsX11_rewrite_r4 : List Cond := [Cond.code yX9_put cX9_put 3 none, Cond.methodLink RX5 38 yX5_placeAll, Cond.instanceMethod yX5_placeAll, Cond.selects RX5 yX5_placeAll yX5_placeAll, Cond.code yX5_placeAll cX5_placeAll 4 (some .int), Cond.fieldLink RX5 15 "StepRewriter$Layout" "places" "[I", Cond.methodLink RX5 72 yX7_begins, Cond.methodLink RX5 97 yX5_bytesAhead, Cond.instanceMethod yX5_bytesAhead, Cond.selects RX5 yX5_bytesAhead yX5_bytesAhead, Cond.code yX5_bytesAhead cX5_bytesAhead 3 (some .int), Cond.methodLink RX5 123 yX5_sumBytes, Cond.instanceMethod yX5_sumBytes, Cond.selects RX5 yX5_sumBytes yX5_sumBytes, Cond.code yX5_sumBytes cX5_sumBytes 2 (some .int), Cond.methodLink RX5 113 yX9_at, Cond.methodLink RX5 126 yX5_paysTop, Cond.instanceMethod yX5_paysTop, Cond.selects RX5 yX5_paysTop yX5_paysTop, Cond.code yX5_paysTop cX5_paysTop 3 (some .boolean), Cond.methodLink RX5 117 yX7_valueAt, Cond.methodLink RX5 101 yX5_bytesOf, Cond.instanceMethod yX5_bytesOf, Cond.selects RX5 yX5_bytesOf yX5_bytesOf]
def wsX11_rewrite_r5 : List Cond := [Cond.code yX5_bytesOf cX5_bytesOf 4 (some .int), Cond.methodLink RX5 130 yX4_isJump, Cond.static yX4_isJump, Cond.initialized RX4, Cond.code yX4_isJump cX4_isJump 1 (some .boolean), Cond.methodLink RX4 13 yX4_isBranch, Cond.static yX4_isBranch, Cond.code yX4_isBranch cX4_isBranch 1 (some .boolean), Cond.methodLink RX5 133 yX4_sizeOf, Cond.static yX4_sizeOf, Cond.code yX4_sizeOf cX4_sizeOf 1 (some .int), Cond.methodLink RX4 7 yX4_isOfTwo, Cond.static yX4_isOfTwo, Cond.code yX4_isOfTwo cX4_isOfTwo 1 (some .boolean), Cond.methodLink RX4 16 yX4_isOfArray, Cond.static yX4_isOfArray, Cond.code yX4_isOfArray cX4_isOfArray 1 (some .boolean), Cond.methodLink RX5 110 yX5_isLong, Cond.instanceMethod yX5_isLong, Cond.selects RX5 yX5_isLong yX5_isLong, Cond.code yX5_isLong cX5_isLong 2 (some .boolean), Cond.methodLink RX5 136 yX4_isBranch, Cond.methodLink RX5 48 yX5_lengthen, Cond.instanceMethod yX5_lengthen]
def wsX11_rewrite_r6 : List Cond := [Cond.selects RX5 yX5_lengthen yX5_lengthen, Cond.code yX5_lengthen cX5_lengthen 5 (some .boolean), Cond.fieldLink RX5 18 "StepRewriter$Layout" "ways" "[I", Cond.methodLink RX5 104 yX7_jumpsAt, Cond.instanceMethod yX7_jumpsAt, Cond.selects RX7 yX7_jumpsAt yX7_jumpsAt, Cond.code yX7_jumpsAt cX7_jumpsAt 2 (some .boolean), Cond.methodLink RX7 60 yX4_isJump, Cond.methodLink RX5 107 yX5_wayOf, Cond.instanceMethod yX5_wayOf, Cond.selects RX5 yX5_wayOf yX5_wayOf, Cond.code yX5_wayOf cX5_wayOf 4 (some .int), Cond.methodLink RX5 139 yX7_targetOf, Cond.instanceMethod yX7_targetOf, Cond.selects RX7 yX7_targetOf yX7_targetOf, Cond.code yX7_targetOf cX7_targetOf 3 (some .int), Cond.methodLink RX11 95 yX5_write, Cond.instanceMethod yX5_write, Cond.selects RX5 yX5_write yX5_write, Cond.code yX5_write cX5_write 5 none, Cond.fieldLink RX5 55 "StepRewriter$Method" "parameters" "I", Cond.fieldLink RX5 58 "StepRewriter$Method" "locals" "I", Cond.fieldLink RX5 61 "StepRewriter$Method" "blocks" "I", Cond.fieldLink RX5 64 "StepRewriter$CodeSet" "used" "I"]
def wsX11_rewrite_r7 : List Cond := [Cond.fieldLink RX5 69 "StepRewriter$Method" "codeAt" "I", Cond.methodLink RX5 52 yX7_empty, Cond.instanceMethod yX7_empty, Cond.selects RX7 yX7_empty yX7_empty, Cond.code yX7_empty cX7_empty 1 none, Cond.fieldLink RX7 25 "StepRewriter$Method" "parameters" "I", Cond.fieldLink RX7 28 "StepRewriter$Method" "locals" "I", Cond.fieldLink RX7 31 "StepRewriter$Method" "handlers" "I", Cond.fieldLink RX7 34 "StepRewriter$Method" "blocks" "I", Cond.fieldLink RX7 37 "StepRewriter$Method" "longBranches" "I", Cond.fieldLink RX7 40 "StepRewriter$Method" "longJumps" "I", Cond.fieldLink RX7 43 "StepRewriter$Method" "deepest" "I", Cond.methodLink RX5 76 yX5_writeInstruction, Cond.instanceMethod yX5_writeInstruction, Cond.selects RX5 yX5_writeInstruction yX5_writeInstruction, Cond.code yX5_writeInstruction cX5_writeInstruction 8 none, Cond.methodLink RX5 142 yX0_append, Cond.instanceMethod yX0_append, Cond.selects RX0 yX0_append yX0_append, Cond.code yX0_append cX0_append 2 none, Cond.fieldLink RX0 24 "StepRewriter$CodeSet" "row" "[I", Cond.methodLink RX0 35 yX9_put, Cond.methodLink RX5 146 yX0_appendPair, Cond.instanceMethod yX0_appendPair]
def wsX11_rewrite_r8 : List Cond := [Cond.selects RX0 yX0_appendPair yX0_appendPair, Cond.code yX0_appendPair cX0_appendPair 2 none, Cond.methodLink RX0 41 yX0_append, Cond.methodLink RX5 149 yX5_writeJump, Cond.instanceMethod yX5_writeJump, Cond.selects RX5 yX5_writeJump yX5_writeJump, Cond.code yX5_writeJump cX5_writeJump 7 none, Cond.fieldLink RX5 158 "StepRewriter$Method" "longBranches" "I", Cond.fieldLink RX5 161 "StepRewriter$Method" "longJumps" "I", Cond.methodLink RX5 155 yX4_opposite, Cond.static yX4_opposite, Cond.code yX4_opposite cX4_opposite 1 (some .int), Cond.methodLink RX5 152 yX7_sizeAt, Cond.instanceMethod yX7_sizeAt, Cond.selects RX7 yX7_sizeAt yX7_sizeAt, Cond.code yX7_sizeAt cX7_sizeAt 2 (some .int), Cond.methodLink RX7 65 yX4_sizeOf, Cond.methodLink RX5 80 yX5_moveHandlers, Cond.instanceMethod yX5_moveHandlers, Cond.selects RX5 yX5_moveHandlers yX5_moveHandlers, Cond.code yX5_moveHandlers cX5_moveHandlers 6 none, Cond.fieldLink RX5 164 "StepRewriter$Method" "handlers" "I", Cond.methodLink RX5 167 yX7_handlerNumber, Cond.instanceMethod yX7_handlerNumber]
def wsX11_rewrite_r9 : List Cond := [Cond.selects RX7 yX7_handlerNumber yX7_handlerNumber, Cond.code yX7_handlerNumber cX7_handlerNumber 3 (some .int), Cond.fieldLink RX7 9 "StepRewriter$Method" "table" "[I", Cond.methodLink RX7 68 yX9_at, Cond.methodLink RX5 171 yX7_setHandlerNumber, Cond.instanceMethod yX7_setHandlerNumber, Cond.selects RX7 yX7_setHandlerNumber yX7_setHandlerNumber, Cond.code yX7_setHandlerNumber cX7_setHandlerNumber 4 none, Cond.methodLink RX7 74 yX9_put, Cond.methodLink RX11 99 yX0_codeBytes, Cond.instanceMethod yX0_codeBytes, Cond.selects RX0 yX0_codeBytes yX0_codeBytes, Cond.code yX0_codeBytes cX0_codeBytes 3 (some .int), Cond.fieldLink RX0 57 "StepRewriter$Method" "length" "I", Cond.methodLink RX0 53 yX0_method]
def wsX11_rewrite : List Cond := .code yX11_rewrite cX11_rewrite 3 (some .int) :: ((wsX11_rewrite_r1 ++ (wsX11_rewrite_r2 ++ (wsX11_rewrite_r3 ++ (wsX11_rewrite_r4 ++ (wsX11_rewrite_r5 ++ (wsX11_rewrite_r6 ++ (wsX11_rewrite_r7 ++ (wsX11_rewrite_r8 ++ wsX11_rewrite_r9)))))))) ++ wsX110 ++ wsX00 ++ wsX50 ++ wsX70 ++ wsX80)
def wsX11_told : List Cond := .code yX11_told cX11_told 6 (some .int) :: ([.fieldLink RX11 24 "StepRewriter" "rewritten" "LStepRewriter$CodeSet;", .fieldLink RX11 18 "StepRewriter" "file" "LStepRewriter$CodeSet;", .fieldLink RX11 71 "StepRewriter$CodeSet" "count" "I", .fieldLink RX11 107 "StepRewriter$Method" "length" "I", .fieldLink RX11 112 "StepRewriter$Method" "blocks" "I", .fieldLink RX11 115 "StepRewriter$Method" "handlers" "I", .fieldLink RX11 118 "StepRewriter$Method" "longBranches" "I", .fieldLink RX11 121 "StepRewriter$Method" "longJumps" "I", .fieldLink RX11 124 "StepRewriter$Method" "deepest" "I", .methodLink RX11 103 yX0_has, .instanceMethod yX0_has, .selects RX0 yX0_has yX0_has, .initialized RX0, .code yX0_has cX0_has 2 (some .boolean), .fieldLink RX0 32 "StepRewriter$CodeSet" "count" "I", .methodLink RX11 87 yX0_method, .instanceMethod yX0_method, .selects RX0 yX0_method yX0_method, .code yX0_method cX0_method 2 (some (.object "StepRewriter$Method")), .fieldLink RX0 11 "StepRewriter$CodeSet" "methods" "[LStepRewriter$Method;", .fieldLink RX0 20 "StepRewriter$CodeSet" "none" "LStepRewriter$Method;"] ++ wsX110 ++ wsX00 ++ wsX70)
def wsX11_byteAt_r1 : List Cond := [Cond.fieldLink RX11 24 "StepRewriter" "rewritten" "LStepRewriter$CodeSet;", Cond.fieldLink RX11 18 "StepRewriter" "file" "LStepRewriter$CodeSet;", Cond.fieldLink RX11 71 "StepRewriter$CodeSet" "count" "I", Cond.fieldLink RX11 107 "StepRewriter$Method" "length" "I", Cond.methodLink RX11 103 yX0_has, Cond.instanceMethod yX0_has, Cond.selects RX0 yX0_has yX0_has, Cond.initialized RX0, Cond.code yX0_has cX0_has 2 (some .boolean), Cond.fieldLink RX0 32 "StepRewriter$CodeSet" "count" "I", Cond.methodLink RX11 87 yX0_method, Cond.instanceMethod yX0_method, Cond.selects RX0 yX0_method yX0_method, Cond.code yX0_method cX0_method 2 (some (.object "StepRewriter$Method")), Cond.fieldLink RX0 11 "StepRewriter$CodeSet" "methods" "[LStepRewriter$Method;", Cond.fieldLink RX0 20 "StepRewriter$CodeSet" "none" "LStepRewriter$Method;", Cond.methodLink RX11 127 yX7_valueAt, Cond.instanceMethod yX7_valueAt, Cond.selects RX7 yX7_valueAt yX7_valueAt, Cond.initialized RX7, Cond.code yX7_valueAt cX7_valueAt 2 (some .int), Cond.fieldLink RX7 15 "StepRewriter$Method" "row" "[I", Cond.fieldLink RX7 18 "StepRewriter$Method" "codeAt" "I", Cond.methodLink RX7 46 yX7_hasPlace]
def wsX11_byteAt_r2 : List Cond := [Cond.instanceMethod yX7_hasPlace, Cond.selects RX7 yX7_hasPlace yX7_hasPlace, Cond.code yX7_hasPlace cX7_hasPlace 2 (some .boolean), Cond.fieldLink RX7 22 "StepRewriter$Method" "length" "I"]
def wsX11_byteAt : List Cond := .code yX11_byteAt cX11_byteAt 5 (some .int) :: ((wsX11_byteAt_r1 ++ wsX11_byteAt_r2) ++ wsX110 ++ wsX00 ++ wsX70)
def wsX11_handler_r1 : List Cond := [Cond.fieldLink RX11 24 "StepRewriter" "rewritten" "LStepRewriter$CodeSet;", Cond.fieldLink RX11 18 "StepRewriter" "file" "LStepRewriter$CodeSet;", Cond.fieldLink RX11 71 "StepRewriter$CodeSet" "count" "I", Cond.fieldLink RX11 115 "StepRewriter$Method" "handlers" "I", Cond.methodLink RX11 103 yX0_has, Cond.instanceMethod yX0_has, Cond.selects RX0 yX0_has yX0_has, Cond.initialized RX0, Cond.code yX0_has cX0_has 2 (some .boolean), Cond.fieldLink RX0 32 "StepRewriter$CodeSet" "count" "I", Cond.methodLink RX11 87 yX0_method, Cond.instanceMethod yX0_method, Cond.selects RX0 yX0_method yX0_method, Cond.code yX0_method cX0_method 2 (some (.object "StepRewriter$Method")), Cond.fieldLink RX0 11 "StepRewriter$CodeSet" "methods" "[LStepRewriter$Method;", Cond.fieldLink RX0 20 "StepRewriter$CodeSet" "none" "LStepRewriter$Method;", Cond.methodLink RX11 130 yX7_handlerNumber, Cond.instanceMethod yX7_handlerNumber, Cond.selects RX7 yX7_handlerNumber yX7_handlerNumber, Cond.initialized RX7, Cond.code yX7_handlerNumber cX7_handlerNumber 3 (some .int), Cond.fieldLink RX7 9 "StepRewriter$Method" "table" "[I", Cond.methodLink RX7 68 yX9_at, Cond.static yX9_at]
def wsX11_handler_r2 : List Cond := [Cond.initialized RX9, Cond.code yX9_at cX9_at 2 (some .int)]
def wsX11_handler : List Cond := .code yX11_handler cX11_handler 6 (some .int) :: ((wsX11_handler_r1 ++ wsX11_handler_r2) ++ wsX110 ++ wsX00 ++ wsX70)
def wsX11_block_r1 : List Cond := [Cond.fieldLink RX11 18 "StepRewriter" "file" "LStepRewriter$CodeSet;", Cond.fieldLink RX11 71 "StepRewriter$CodeSet" "count" "I", Cond.fieldLink RX11 112 "StepRewriter$Method" "blocks" "I", Cond.fieldLink RX11 30 "StepRewriter" "prices" "LStepRewriter$Prices;", Cond.methodLink RX11 103 yX0_has, Cond.instanceMethod yX0_has, Cond.selects RX0 yX0_has yX0_has, Cond.initialized RX0, Cond.code yX0_has cX0_has 2 (some .boolean), Cond.fieldLink RX0 32 "StepRewriter$CodeSet" "count" "I", Cond.methodLink RX11 87 yX0_method, Cond.instanceMethod yX0_method, Cond.selects RX0 yX0_method yX0_method, Cond.code yX0_method cX0_method 2 (some (.object "StepRewriter$Method")), Cond.fieldLink RX0 11 "StepRewriter$CodeSet" "methods" "[LStepRewriter$Method;", Cond.fieldLink RX0 20 "StepRewriter$CodeSet" "none" "LStepRewriter$Method;", Cond.methodLink RX11 134 yX7_blockBegin, Cond.instanceMethod yX7_blockBegin, Cond.selects RX7 yX7_blockBegin yX7_blockBegin, Cond.initialized RX7, Cond.code yX7_blockBegin cX7_blockBegin 4 (some .int), Cond.fieldLink RX7 22 "StepRewriter$Method" "length" "I", Cond.methodLink RX7 78 yX7_beginsBlock, Cond.instanceMethod yX7_beginsBlock]
def wsX11_block_r2 : List Cond := [Cond.selects RX7 yX7_beginsBlock yX7_beginsBlock, Cond.code yX7_beginsBlock cX7_beginsBlock 2 (some .boolean), Cond.fieldLink RX7 15 "StepRewriter$Method" "row" "[I", Cond.fieldLink RX7 18 "StepRewriter$Method" "codeAt" "I", Cond.methodLink RX7 46 yX7_hasPlace, Cond.instanceMethod yX7_hasPlace, Cond.selects RX7 yX7_hasPlace yX7_hasPlace, Cond.code yX7_hasPlace cX7_hasPlace 2 (some .boolean), Cond.methodLink RX11 137 yX7_sumFrom, Cond.instanceMethod yX7_sumFrom, Cond.selects RX7 yX7_sumFrom yX7_sumFrom, Cond.code yX7_sumFrom cX7_sumFrom 5 (some .int), Cond.methodLink RX7 57 yX7_begins, Cond.instanceMethod yX7_begins, Cond.selects RX7 yX7_begins yX7_begins, Cond.code yX7_begins cX7_begins 2 (some .boolean), Cond.methodLink RX7 50 yX7_valueAt, Cond.instanceMethod yX7_valueAt, Cond.selects RX7 yX7_valueAt yX7_valueAt, Cond.code yX7_valueAt cX7_valueAt 2 (some .int), Cond.methodLink RX7 81 yX8_of, Cond.instanceMethod yX8_of, Cond.selects RX8 yX8_of yX8_of, Cond.initialized RX8]
def wsX11_block_r3 : List Cond := [Cond.code yX8_of cX8_of 2 (some .int), Cond.fieldLink RX8 9 "StepRewriter$Prices" "row" "[I", Cond.methodLink RX8 30 yX9_at, Cond.static yX9_at, Cond.initialized RX9, Cond.code yX9_at cX9_at 2 (some .int)]
def wsX11_block : List Cond := .code yX11_block cX11_block 5 (some .int) :: ((wsX11_block_r1 ++ (wsX11_block_r2 ++ wsX11_block_r3)) ++ wsX110 ++ wsX00 ++ wsX70 ++ wsX80)
def wsX11_run_r1 : List Cond := [Cond.fieldLink RX11 24 "StepRewriter" "rewritten" "LStepRewriter$CodeSet;", Cond.fieldLink RX11 71 "StepRewriter$CodeSet" "count" "I", Cond.constant RX11 141 (100000), Cond.fieldLink RX11 53 "StepRewriter" "machine" "LStepRewriter$Machine;", Cond.methodLink RX11 103 yX0_has, Cond.instanceMethod yX0_has, Cond.selects RX0 yX0_has yX0_has, Cond.initialized RX0, Cond.code yX0_has cX0_has 2 (some .boolean), Cond.fieldLink RX0 32 "StepRewriter$CodeSet" "count" "I", Cond.methodLink RX11 142 yX6_perform, Cond.instanceMethod yX6_perform, Cond.selects RX6 yX6_perform yX6_perform, Cond.initialized RX6, Cond.code yX6_perform cX6_perform 8 (some .int), Cond.fieldLink RX6 56 "StepRewriter$Machine" "limit" "I", Cond.fieldLink RX6 24 "StepRewriter$Machine" "set" "LStepRewriter$CodeSet;", Cond.fieldLink RX6 66 "StepRewriter$Frame" "method" "LStepRewriter$Method;", Cond.fieldLink RX6 69 "StepRewriter$Method" "parameters" "I", Cond.fieldLink RX6 40 "StepRewriter$Machine" "underWay" "I", Cond.constant RX6 78 (1000000), Cond.methodLink RX6 53 yX6_forget, Cond.instanceMethod yX6_forget, Cond.selects RX6 yX6_forget yX6_forget]
def wsX11_run_r2 : List Cond := [Cond.code yX6_forget cX6_forget 1 none, Cond.fieldLink RX6 20 "StepRewriter$Machine" "arrays" "LStepRewriter$RunArrays;", Cond.fieldLink RX6 44 "StepRewriter$Machine" "result" "I", Cond.fieldLink RX6 47 "StepRewriter$Machine" "paid" "I", Cond.fieldLink RX6 50 "StepRewriter$Machine" "done" "I", Cond.methodLink RX6 37 yX10_empty, Cond.instanceMethod yX10_empty, Cond.selects RX10 yX10_empty yX10_empty, Cond.initialized RX10, Cond.code yX10_empty cX10_empty 1 none, Cond.fieldLink RX10 9 "StepRewriter$RunArrays" "sizes" "[I", Cond.methodLink RX10 18 yJ7_fill_53178, Cond.static yJ7_fill_53178, Cond.initialized RJ7, Cond.code yJ7_fill_53178 cJ7_fill_53178 4 none, Cond.methodLink RX6 59 yX6_frame, Cond.instanceMethod yX6_frame, Cond.selects RX6 yX6_frame yX6_frame, Cond.code yX6_frame cX6_frame 2 (some (.object "StepRewriter$Frame")), Cond.fieldLink RX6 13 "StepRewriter$Machine" "frames" "[LStepRewriter$Frame;", Cond.methodLink RX6 28 yX0_method, Cond.instanceMethod yX0_method, Cond.selects RX0 yX0_method yX0_method, Cond.code yX0_method cX0_method 2 (some (.object "StepRewriter$Method"))]
def wsX11_run_r3 : List Cond := [Cond.fieldLink RX0 11 "StepRewriter$CodeSet" "methods" "[LStepRewriter$Method;", Cond.fieldLink RX0 20 "StepRewriter$CodeSet" "none" "LStepRewriter$Method;", Cond.methodLink RX6 63 yX3_begin, Cond.instanceMethod yX3_begin, Cond.selects RX3 yX3_begin yX3_begin, Cond.initialized RX3, Cond.code yX3_begin cX3_begin 2 none, Cond.fieldLink RX3 18 "StepRewriter$Frame" "method" "LStepRewriter$Method;", Cond.fieldLink RX3 22 "StepRewriter$Frame" "place" "I", Cond.fieldLink RX3 26 "StepRewriter$Frame" "top" "I", Cond.fieldLink RX3 9 "StepRewriter$Frame" "locals" "[I", Cond.methodLink RX3 29 yJ7_fill_53178, Cond.methodLink RX6 74 yX3_setLocal, Cond.instanceMethod yX3_setLocal, Cond.selects RX3 yX3_setLocal yX3_setLocal, Cond.code yX3_setLocal cX3_setLocal 3 none, Cond.methodLink RX3 41 yX9_put, Cond.static yX9_put, Cond.initialized RX9, Cond.code yX9_put cX9_put 3 none, Cond.methodLink RX6 79 yX6_goOn, Cond.instanceMethod yX6_goOn, Cond.selects RX6 yX6_goOn yX6_goOn, Cond.code yX6_goOn cX6_goOn 4 (some .int)]
def wsX11_run_r4 : List Cond := [Cond.fieldLink RX6 89 "StepRewriter$Frame" "place" "I", Cond.methodLink RX6 103 Lib.Math.max.name, Cond.static Lib.Math.max.name, Cond.initialized "java/lang/Math", Cond.code Lib.Math.max.name Lib.Math.max.code 2 (some .int), Cond.methodLink RX6 83 yX3_kind, Cond.instanceMethod yX3_kind, Cond.selects RX3 yX3_kind yX3_kind, Cond.code yX3_kind cX3_kind 1 (some .int), Cond.methodLink RX3 35 yX7_valueAt, Cond.instanceMethod yX7_valueAt, Cond.selects RX7 yX7_valueAt yX7_valueAt, Cond.initialized RX7, Cond.code yX7_valueAt cX7_valueAt 2 (some .int), Cond.fieldLink RX7 15 "StepRewriter$Method" "row" "[I", Cond.fieldLink RX7 18 "StepRewriter$Method" "codeAt" "I", Cond.methodLink RX7 46 yX7_hasPlace, Cond.instanceMethod yX7_hasPlace, Cond.selects RX7 yX7_hasPlace yX7_hasPlace, Cond.code yX7_hasPlace cX7_hasPlace 2 (some .boolean), Cond.fieldLink RX7 22 "StepRewriter$Method" "length" "I", Cond.methodLink RX6 92 yX7_fourAt, Cond.instanceMethod yX7_fourAt, Cond.selects RX7 yX7_fourAt yX7_fourAt]
def wsX11_run_r5 : List Cond := [Cond.code yX7_fourAt cX7_fourAt 2 (some .int), Cond.methodLink RX7 54 yX7_pairAt, Cond.instanceMethod yX7_pairAt, Cond.selects RX7 yX7_pairAt yX7_pairAt, Cond.code yX7_pairAt cX7_pairAt 2 (some .int), Cond.methodLink RX7 50 yX7_valueAt, Cond.methodLink RX6 96 yX6_pay, Cond.instanceMethod yX6_pay, Cond.selects RX6 yX6_pay yX6_pay, Cond.code yX6_pay cX6_pay 4 (some .int), Cond.methodLink RX6 100 yX3_peek, Cond.instanceMethod yX3_peek, Cond.selects RX3 yX3_peek yX3_peek, Cond.code yX3_peek cX3_peek 1 (some .int), Cond.fieldLink RX3 15 "StepRewriter$Frame" "stack" "[I", Cond.methodLink RX3 47 yX9_at, Cond.static yX9_at, Cond.code yX9_at cX9_at 2 (some .int), Cond.methodLink RX6 109 yX6_call, Cond.instanceMethod yX6_call, Cond.selects RX6 yX6_call yX6_call, Cond.code yX6_call cX6_call 5 (some .int), Cond.methodLink RX6 135 yX3_operand, Cond.instanceMethod yX3_operand]
def wsX11_run_r6 : List Cond := [Cond.selects RX3 yX3_operand yX3_operand, Cond.code yX3_operand cX3_operand 1 (some .int), Cond.methodLink RX6 112 yX3_pop, Cond.instanceMethod yX3_pop, Cond.selects RX3 yX3_pop yX3_pop, Cond.code yX3_pop cX3_pop 1 (some .int), Cond.methodLink RX6 115 yX6_leave, Cond.instanceMethod yX6_leave, Cond.selects RX6 yX6_leave yX6_leave, Cond.code yX6_leave cX6_leave 3 (some .int), Cond.methodLink RX6 138 yX3_push, Cond.instanceMethod yX3_push, Cond.selects RX3 yX3_push yX3_push, Cond.code yX3_push cX3_push 2 none, Cond.methodLink RX6 132 yX4_sizeOf, Cond.static yX4_sizeOf, Cond.initialized RX4, Cond.code yX4_sizeOf cX4_sizeOf 1 (some .int), Cond.methodLink RX4 7 yX4_isOfTwo, Cond.static yX4_isOfTwo, Cond.code yX4_isOfTwo cX4_isOfTwo 1 (some .boolean), Cond.methodLink RX4 13 yX4_isBranch, Cond.static yX4_isBranch, Cond.code yX4_isBranch cX4_isBranch 1 (some .boolean)]
def wsX11_run_r7 : List Cond := [Cond.methodLink RX4 16 yX4_isOfArray, Cond.static yX4_isOfArray, Cond.code yX4_isOfArray cX4_isOfArray 1 (some .boolean), Cond.methodLink RX6 118 yX4_isJump, Cond.static yX4_isJump, Cond.code yX4_isJump cX4_isJump 1 (some .boolean), Cond.methodLink RX6 122 yX6_jump, Cond.instanceMethod yX6_jump, Cond.selects RX6 yX6_jump yX6_jump, Cond.code yX6_jump cX6_jump 5 (some .int), Cond.methodLink RX6 148 yX4_isBranch, Cond.methodLink RX6 151 yX4_isTaken, Cond.static yX4_isTaken, Cond.code yX4_isTaken cX4_isTaken 2 (some .boolean), Cond.methodLink RX6 155 yX7_targetOf, Cond.instanceMethod yX7_targetOf, Cond.selects RX7 yX7_targetOf yX7_targetOf, Cond.code yX7_targetOf cX7_targetOf 3 (some .int), Cond.methodLink RX6 126 yX6_act, Cond.instanceMethod yX6_act, Cond.selects RX6 yX6_act yX6_act, Cond.code yX6_act cX6_act 3 (some .int), Cond.methodLink RX6 158 yX7_pairAt, Cond.methodLink RX6 161 yX3_local]
def wsX11_run_r8 : List Cond := [Cond.instanceMethod yX3_local, Cond.selects RX3 yX3_local yX3_local, Cond.code yX3_local cX3_local 2 (some .int), Cond.methodLink RX6 164 yX4_isOfArray, Cond.methodLink RX6 167 yX6_actOnArray, Cond.instanceMethod yX6_actOnArray, Cond.selects RX6 yX6_actOnArray yX6_actOnArray, Cond.code yX6_actOnArray cX6_actOnArray 6 (some .int), Cond.methodLink RX6 173 yX10_make, Cond.instanceMethod yX10_make, Cond.selects RX10 yX10_make yX10_make, Cond.code yX10_make cX10_make 4 (some .int), Cond.methodLink RX10 26 yX9_put, Cond.methodLink RX10 32 yX10_put, Cond.instanceMethod yX10_put, Cond.selects RX10 yX10_put yX10_put, Cond.code yX10_put cX10_put 4 none, Cond.fieldLink RX10 15 "StepRewriter$RunArrays" "elements" "[I", Cond.methodLink RX6 176 yX10_sizeOf, Cond.instanceMethod yX10_sizeOf, Cond.selects RX10 yX10_sizeOf yX10_sizeOf, Cond.code yX10_sizeOf cX10_sizeOf 2 (some .int), Cond.methodLink RX10 35 yX9_at, Cond.methodLink RX6 177 yX10_has]
def wsX11_run_r9 : List Cond := [Cond.instanceMethod yX10_has, Cond.selects RX10 yX10_has yX10_has, Cond.code yX10_has cX10_has 3 (some .boolean), Cond.methodLink RX10 39 yX10_sizeOf, Cond.methodLink RX6 180 yX10_put, Cond.methodLink RX6 184 yX10_get, Cond.instanceMethod yX10_get, Cond.selects RX10 yX10_get yX10_get, Cond.code yX10_get cX10_get 3 (some .int), Cond.methodLink RX6 170 yX6_actOnTwo, Cond.instanceMethod yX6_actOnTwo, Cond.selects RX6 yX6_actOnTwo yX6_actOnTwo, Cond.code yX6_actOnTwo cX6_actOnTwo 5 (some .int), Cond.methodLink RX6 187 yX6_joined, Cond.instanceMethod yX6_joined, Cond.selects RX6 yX6_joined yX6_joined, Cond.code yX6_joined cX6_joined 4 (some .int), Cond.methodLink RX6 129 yX6_raise, Cond.instanceMethod yX6_raise, Cond.selects RX6 yX6_raise yX6_raise, Cond.code yX6_raise cX6_raise 4 (some .int), Cond.methodLink RX6 142 yX7_handlerFor, Cond.instanceMethod yX7_handlerFor, Cond.selects RX7 yX7_handlerFor yX7_handlerFor]
def wsX11_run_r10 : List Cond := [Cond.code yX7_handlerFor cX7_handlerFor 6 (some .int), Cond.fieldLink RX7 31 "StepRewriter$Method" "handlers" "I", Cond.methodLink RX7 86 yX7_handlerNumber, Cond.instanceMethod yX7_handlerNumber, Cond.selects RX7 yX7_handlerNumber yX7_handlerNumber, Cond.code yX7_handlerNumber cX7_handlerNumber 3 (some .int), Cond.fieldLink RX7 9 "StepRewriter$Method" "table" "[I", Cond.methodLink RX7 68 yX9_at, Cond.methodLink RX6 145 yX3_goOnWith, Cond.instanceMethod yX3_goOnWith, Cond.selects RX3 yX3_goOnWith yX3_goOnWith, Cond.code yX3_goOnWith cX3_goOnWith 3 none, Cond.methodLink RX3 51 yX3_push]
def wsX11_run : List Cond := .code yX11_run cX11_run 5 (some .int) :: ((wsX11_run_r1 ++ (wsX11_run_r2 ++ (wsX11_run_r3 ++ (wsX11_run_r4 ++ (wsX11_run_r5 ++ (wsX11_run_r6 ++ (wsX11_run_r7 ++ (wsX11_run_r8 ++ (wsX11_run_r9 ++ wsX11_run_r10))))))))) ++ wsX110 ++ wsX00 ++ wsX60 ++ wsX30 ++ wsX70 ++ wsX100)
def wsX11_answer : List Cond := .code yX11_answer cX11_answer 1 (some .int) :: ([.fieldLink RX11 53 "StepRewriter" "machine" "LStepRewriter$Machine;", .fieldLink RX11 146 "StepRewriter$Machine" "result" "I"] ++ wsX110 ++ wsX60)
def wsX11_counted : List Cond := .code yX11_counted cX11_counted 1 (some .int) :: ([.fieldLink RX11 53 "StepRewriter" "machine" "LStepRewriter$Machine;", .fieldLink RX11 149 "StepRewriter$Machine" "paid" "I"] ++ wsX110 ++ wsX60)
def wsX11_steps : List Cond := .code yX11_steps cX11_steps 1 (some .int) :: ([.fieldLink RX11 53 "StepRewriter" "machine" "LStepRewriter$Machine;", .fieldLink RX11 152 "StepRewriter$Machine" "done" "I"] ++ wsX110 ++ wsX60)
def wsX11_element : List Cond := .code yX11_element cX11_element 3 (some .int) :: ([.fieldLink RX11 53 "StepRewriter" "machine" "LStepRewriter$Machine;", .fieldLink RX11 155 "StepRewriter$Machine" "arrays" "LStepRewriter$RunArrays;", .methodLink RX11 159 yX10_sizeOf, .instanceMethod yX10_sizeOf, .selects RX10 yX10_sizeOf yX10_sizeOf, .initialized RX10, .code yX10_sizeOf cX10_sizeOf 2 (some .int), .fieldLink RX10 9 "StepRewriter$RunArrays" "sizes" "[I", .methodLink RX10 35 yX9_at, .static yX9_at, .initialized RX9, .code yX9_at cX9_at 2 (some .int), .methodLink RX11 162 yX10_has, .instanceMethod yX10_has, .selects RX10 yX10_has yX10_has, .code yX10_has cX10_has 3 (some .boolean), .methodLink RX10 39 yX10_sizeOf, .methodLink RX11 165 yX10_get, .instanceMethod yX10_get, .selects RX10 yX10_get yX10_get, .code yX10_get cX10_get 3 (some .int), .fieldLink RX10 15 "StepRewriter$RunArrays" "elements" "[I"] ++ wsX110 ++ wsX60 ++ wsX100)
def wsX11_unwriteMethod_r1 : List Cond := [Cond.fieldLink RX11 44 "StepRewriter" "layout" "LStepRewriter$Layout;", Cond.fieldLink RX11 30 "StepRewriter" "prices" "LStepRewriter$Prices;", Cond.fieldLink RX11 21 "StepRewriter" "spare" "LStepRewriter$CodeSet;", Cond.fieldLink RX11 178 "StepRewriter$Method" "parameters" "I", Cond.fieldLink RX11 181 "StepRewriter$Method" "locals" "I", Cond.fieldLink RX11 115 "StepRewriter$Method" "handlers" "I", Cond.methodLink RX11 91 yX5_plan, Cond.instanceMethod yX5_plan, Cond.selects RX5 yX5_plan yX5_plan, Cond.initialized RX5, Cond.code yX5_plan cX5_plan 6 (some .int), Cond.fieldLink RX5 24 "StepRewriter$Layout" "paying" "Z", Cond.fieldLink RX5 21 "StepRewriter$Layout" "longs" "[I", Cond.fieldLink RX5 42 "StepRewriter$Method" "length" "I", Cond.methodLink RX5 28 yX5_takeSums, Cond.instanceMethod yX5_takeSums, Cond.selects RX5 yX5_takeSums yX5_takeSums, Cond.code yX5_takeSums cX5_takeSums 4 none, Cond.fieldLink RX5 9 "StepRewriter$Layout" "sums" "[I", Cond.methodLink RX5 32 yJ7_fill_53178, Cond.static yJ7_fill_53178, Cond.initialized RJ7, Cond.code yJ7_fill_53178 cJ7_fill_53178 4 none, Cond.methodLink RX5 84 yX7_beginsBlock]
def wsX11_unwriteMethod_r2 : List Cond := [Cond.instanceMethod yX7_beginsBlock, Cond.selects RX7 yX7_beginsBlock yX7_beginsBlock, Cond.initialized RX7, Cond.code yX7_beginsBlock cX7_beginsBlock 2 (some .boolean), Cond.fieldLink RX7 15 "StepRewriter$Method" "row" "[I", Cond.fieldLink RX7 18 "StepRewriter$Method" "codeAt" "I", Cond.methodLink RX7 46 yX7_hasPlace, Cond.instanceMethod yX7_hasPlace, Cond.selects RX7 yX7_hasPlace yX7_hasPlace, Cond.code yX7_hasPlace cX7_hasPlace 2 (some .boolean), Cond.fieldLink RX7 22 "StepRewriter$Method" "length" "I", Cond.methodLink RX5 87 yX7_sumFrom, Cond.instanceMethod yX7_sumFrom, Cond.selects RX7 yX7_sumFrom yX7_sumFrom, Cond.code yX7_sumFrom cX7_sumFrom 5 (some .int), Cond.methodLink RX7 78 yX7_beginsBlock, Cond.methodLink RX7 57 yX7_begins, Cond.instanceMethod yX7_begins, Cond.selects RX7 yX7_begins yX7_begins, Cond.code yX7_begins cX7_begins 2 (some .boolean), Cond.methodLink RX7 50 yX7_valueAt, Cond.instanceMethod yX7_valueAt, Cond.selects RX7 yX7_valueAt yX7_valueAt, Cond.code yX7_valueAt cX7_valueAt 2 (some .int)]
def wsX11_unwriteMethod_r3 : List Cond := [Cond.methodLink RX7 81 yX8_of, Cond.instanceMethod yX8_of, Cond.selects RX8 yX8_of yX8_of, Cond.initialized RX8, Cond.code yX8_of cX8_of 2 (some .int), Cond.fieldLink RX8 9 "StepRewriter$Prices" "row" "[I", Cond.methodLink RX8 30 yX9_at, Cond.static yX9_at, Cond.initialized RX9, Cond.code yX9_at cX9_at 2 (some .int), Cond.methodLink RX5 91 yX9_put, Cond.static yX9_put, Cond.code yX9_put cX9_put 3 none, Cond.methodLink RX5 38 yX5_placeAll, Cond.instanceMethod yX5_placeAll, Cond.selects RX5 yX5_placeAll yX5_placeAll, Cond.code yX5_placeAll cX5_placeAll 4 (some .int), Cond.fieldLink RX5 15 "StepRewriter$Layout" "places" "[I", Cond.methodLink RX5 72 yX7_begins, Cond.methodLink RX5 97 yX5_bytesAhead, Cond.instanceMethod yX5_bytesAhead, Cond.selects RX5 yX5_bytesAhead yX5_bytesAhead, Cond.code yX5_bytesAhead cX5_bytesAhead 3 (some .int), Cond.methodLink RX5 123 yX5_sumBytes]
def wsX11_unwriteMethod_r4 : List Cond := [Cond.instanceMethod yX5_sumBytes, Cond.selects RX5 yX5_sumBytes yX5_sumBytes, Cond.code yX5_sumBytes cX5_sumBytes 2 (some .int), Cond.methodLink RX5 113 yX9_at, Cond.methodLink RX5 126 yX5_paysTop, Cond.instanceMethod yX5_paysTop, Cond.selects RX5 yX5_paysTop yX5_paysTop, Cond.code yX5_paysTop cX5_paysTop 3 (some .boolean), Cond.methodLink RX5 117 yX7_valueAt, Cond.methodLink RX5 101 yX5_bytesOf, Cond.instanceMethod yX5_bytesOf, Cond.selects RX5 yX5_bytesOf yX5_bytesOf, Cond.code yX5_bytesOf cX5_bytesOf 4 (some .int), Cond.methodLink RX5 130 yX4_isJump, Cond.static yX4_isJump, Cond.initialized RX4, Cond.code yX4_isJump cX4_isJump 1 (some .boolean), Cond.methodLink RX4 13 yX4_isBranch, Cond.static yX4_isBranch, Cond.code yX4_isBranch cX4_isBranch 1 (some .boolean), Cond.methodLink RX5 133 yX4_sizeOf, Cond.static yX4_sizeOf, Cond.code yX4_sizeOf cX4_sizeOf 1 (some .int), Cond.methodLink RX4 7 yX4_isOfTwo]
def wsX11_unwriteMethod_r5 : List Cond := [Cond.static yX4_isOfTwo, Cond.code yX4_isOfTwo cX4_isOfTwo 1 (some .boolean), Cond.methodLink RX4 16 yX4_isOfArray, Cond.static yX4_isOfArray, Cond.code yX4_isOfArray cX4_isOfArray 1 (some .boolean), Cond.methodLink RX5 110 yX5_isLong, Cond.instanceMethod yX5_isLong, Cond.selects RX5 yX5_isLong yX5_isLong, Cond.code yX5_isLong cX5_isLong 2 (some .boolean), Cond.methodLink RX5 136 yX4_isBranch, Cond.methodLink RX5 48 yX5_lengthen, Cond.instanceMethod yX5_lengthen, Cond.selects RX5 yX5_lengthen yX5_lengthen, Cond.code yX5_lengthen cX5_lengthen 5 (some .boolean), Cond.fieldLink RX5 18 "StepRewriter$Layout" "ways" "[I", Cond.methodLink RX5 104 yX7_jumpsAt, Cond.instanceMethod yX7_jumpsAt, Cond.selects RX7 yX7_jumpsAt yX7_jumpsAt, Cond.code yX7_jumpsAt cX7_jumpsAt 2 (some .boolean), Cond.methodLink RX7 60 yX4_isJump, Cond.methodLink RX5 107 yX5_wayOf, Cond.instanceMethod yX5_wayOf, Cond.selects RX5 yX5_wayOf yX5_wayOf, Cond.code yX5_wayOf cX5_wayOf 4 (some .int)]
def wsX11_unwriteMethod_r6 : List Cond := [Cond.methodLink RX5 139 yX7_targetOf, Cond.instanceMethod yX7_targetOf, Cond.selects RX7 yX7_targetOf yX7_targetOf, Cond.code yX7_targetOf cX7_targetOf 3 (some .int), Cond.methodLink RX11 61 yX0_append, Cond.instanceMethod yX0_append, Cond.selects RX0 yX0_append yX0_append, Cond.initialized RX0, Cond.code yX0_append cX0_append 2 none, Cond.fieldLink RX0 28 "StepRewriter$CodeSet" "used" "I", Cond.fieldLink RX0 24 "StepRewriter$CodeSet" "row" "[I", Cond.methodLink RX0 35 yX9_put, Cond.methodLink RX11 184 yX0_appendPair, Cond.instanceMethod yX0_appendPair, Cond.selects RX0 yX0_appendPair yX0_appendPair, Cond.code yX0_appendPair cX0_appendPair 2 none, Cond.methodLink RX0 41 yX0_append, Cond.methodLink RX11 95 yX5_write, Cond.instanceMethod yX5_write, Cond.selects RX5 yX5_write yX5_write, Cond.code yX5_write cX5_write 5 none, Cond.fieldLink RX5 55 "StepRewriter$Method" "parameters" "I", Cond.fieldLink RX5 58 "StepRewriter$Method" "locals" "I", Cond.fieldLink RX5 61 "StepRewriter$Method" "blocks" "I"]
def wsX11_unwriteMethod_r7 : List Cond := [Cond.fieldLink RX5 64 "StepRewriter$CodeSet" "used" "I", Cond.fieldLink RX5 69 "StepRewriter$Method" "codeAt" "I", Cond.methodLink RX5 52 yX7_empty, Cond.instanceMethod yX7_empty, Cond.selects RX7 yX7_empty yX7_empty, Cond.code yX7_empty cX7_empty 1 none, Cond.fieldLink RX7 25 "StepRewriter$Method" "parameters" "I", Cond.fieldLink RX7 28 "StepRewriter$Method" "locals" "I", Cond.fieldLink RX7 31 "StepRewriter$Method" "handlers" "I", Cond.fieldLink RX7 34 "StepRewriter$Method" "blocks" "I", Cond.fieldLink RX7 37 "StepRewriter$Method" "longBranches" "I", Cond.fieldLink RX7 40 "StepRewriter$Method" "longJumps" "I", Cond.fieldLink RX7 43 "StepRewriter$Method" "deepest" "I", Cond.methodLink RX5 76 yX5_writeInstruction, Cond.instanceMethod yX5_writeInstruction, Cond.selects RX5 yX5_writeInstruction yX5_writeInstruction, Cond.code yX5_writeInstruction cX5_writeInstruction 8 none, Cond.methodLink RX5 142 yX0_append, Cond.methodLink RX5 146 yX0_appendPair, Cond.methodLink RX5 149 yX5_writeJump, Cond.instanceMethod yX5_writeJump, Cond.selects RX5 yX5_writeJump yX5_writeJump, Cond.code yX5_writeJump cX5_writeJump 7 none, Cond.fieldLink RX5 158 "StepRewriter$Method" "longBranches" "I"]
def wsX11_unwriteMethod_r8 : List Cond := [Cond.fieldLink RX5 161 "StepRewriter$Method" "longJumps" "I", Cond.methodLink RX5 155 yX4_opposite, Cond.static yX4_opposite, Cond.code yX4_opposite cX4_opposite 1 (some .int), Cond.methodLink RX5 152 yX7_sizeAt, Cond.instanceMethod yX7_sizeAt, Cond.selects RX7 yX7_sizeAt yX7_sizeAt, Cond.code yX7_sizeAt cX7_sizeAt 2 (some .int), Cond.methodLink RX7 65 yX4_sizeOf, Cond.methodLink RX5 80 yX5_moveHandlers, Cond.instanceMethod yX5_moveHandlers, Cond.selects RX5 yX5_moveHandlers yX5_moveHandlers, Cond.code yX5_moveHandlers cX5_moveHandlers 6 none, Cond.fieldLink RX5 164 "StepRewriter$Method" "handlers" "I", Cond.methodLink RX5 167 yX7_handlerNumber, Cond.instanceMethod yX7_handlerNumber, Cond.selects RX7 yX7_handlerNumber yX7_handlerNumber, Cond.code yX7_handlerNumber cX7_handlerNumber 3 (some .int), Cond.fieldLink RX7 9 "StepRewriter$Method" "table" "[I", Cond.methodLink RX7 68 yX9_at, Cond.methodLink RX5 171 yX7_setHandlerNumber, Cond.instanceMethod yX7_setHandlerNumber, Cond.selects RX7 yX7_setHandlerNumber yX7_setHandlerNumber, Cond.code yX7_setHandlerNumber cX7_setHandlerNumber 4 none]
def wsX11_unwriteMethod_r9 : List Cond := [Cond.methodLink RX7 74 yX9_put, Cond.methodLink RX11 130 yX7_handlerNumber]
def wsX11_unwriteMethod : List Cond := .code yX11_unwriteMethod cX11_unwriteMethod 6 none :: ((wsX11_unwriteMethod_r1 ++ (wsX11_unwriteMethod_r2 ++ (wsX11_unwriteMethod_r3 ++ (wsX11_unwriteMethod_r4 ++ (wsX11_unwriteMethod_r5 ++ (wsX11_unwriteMethod_r6 ++ (wsX11_unwriteMethod_r7 ++ (wsX11_unwriteMethod_r8 ++ wsX11_unwriteMethod_r9)))))))) ++ wsX110 ++ wsX70 ++ wsX50 ++ wsX80 ++ wsX00)
def wsX11_unwrite_r1 : List Cond := [Cond.fieldLink RX11 24 "StepRewriter" "rewritten" "LStepRewriter$CodeSet;", Cond.fieldLink RX11 71 "StepRewriter$CodeSet" "count" "I", Cond.fieldLink RX11 21 "StepRewriter" "spare" "LStepRewriter$CodeSet;", Cond.fieldLink RX11 18 "StepRewriter" "file" "LStepRewriter$CodeSet;", Cond.fieldLink RX11 37 "StepRewriter" "check" "LStepRewriter$FormCheck;", Cond.methodLink RX11 68 yX0_empty, Cond.instanceMethod yX0_empty, Cond.selects RX0 yX0_empty yX0_empty, Cond.initialized RX0, Cond.code yX0_empty cX0_empty 1 none, Cond.fieldLink RX0 28 "StepRewriter$CodeSet" "used" "I", Cond.fieldLink RX0 32 "StepRewriter$CodeSet" "count" "I", Cond.methodLink RX11 61 yX0_append, Cond.instanceMethod yX0_append, Cond.selects RX0 yX0_append yX0_append, Cond.code yX0_append cX0_append 2 none, Cond.fieldLink RX0 24 "StepRewriter$CodeSet" "row" "[I", Cond.methodLink RX0 35 yX9_put, Cond.static yX9_put, Cond.initialized RX9, Cond.code yX9_put cX9_put 3 none, Cond.methodLink RX11 87 yX0_method, Cond.instanceMethod yX0_method, Cond.selects RX0 yX0_method yX0_method]
def wsX11_unwrite_r2 : List Cond := [Cond.code yX0_method cX0_method 2 (some (.object "StepRewriter$Method")), Cond.fieldLink RX0 11 "StepRewriter$CodeSet" "methods" "[LStepRewriter$Method;", Cond.fieldLink RX0 20 "StepRewriter$CodeSet" "none" "LStepRewriter$Method;", Cond.methodLink RX11 168 yX11_unwriteMethod, Cond.instanceMethod yX11_unwriteMethod, Cond.selects RX11 yX11_unwriteMethod yX11_unwriteMethod, Cond.initialized RX11, Cond.code yX11_unwriteMethod cX11_unwriteMethod 6 none, Cond.fieldLink RX11 44 "StepRewriter" "layout" "LStepRewriter$Layout;", Cond.fieldLink RX11 30 "StepRewriter" "prices" "LStepRewriter$Prices;", Cond.fieldLink RX11 178 "StepRewriter$Method" "parameters" "I", Cond.fieldLink RX11 181 "StepRewriter$Method" "locals" "I", Cond.fieldLink RX11 115 "StepRewriter$Method" "handlers" "I", Cond.methodLink RX11 91 yX5_plan, Cond.instanceMethod yX5_plan, Cond.selects RX5 yX5_plan yX5_plan, Cond.initialized RX5, Cond.code yX5_plan cX5_plan 6 (some .int), Cond.fieldLink RX5 24 "StepRewriter$Layout" "paying" "Z", Cond.fieldLink RX5 21 "StepRewriter$Layout" "longs" "[I", Cond.fieldLink RX5 42 "StepRewriter$Method" "length" "I", Cond.methodLink RX5 28 yX5_takeSums, Cond.instanceMethod yX5_takeSums, Cond.selects RX5 yX5_takeSums yX5_takeSums]
def wsX11_unwrite_r3 : List Cond := [Cond.code yX5_takeSums cX5_takeSums 4 none, Cond.fieldLink RX5 9 "StepRewriter$Layout" "sums" "[I", Cond.methodLink RX5 32 yJ7_fill_53178, Cond.static yJ7_fill_53178, Cond.initialized RJ7, Cond.code yJ7_fill_53178 cJ7_fill_53178 4 none, Cond.methodLink RX5 84 yX7_beginsBlock, Cond.instanceMethod yX7_beginsBlock, Cond.selects RX7 yX7_beginsBlock yX7_beginsBlock, Cond.initialized RX7, Cond.code yX7_beginsBlock cX7_beginsBlock 2 (some .boolean), Cond.fieldLink RX7 15 "StepRewriter$Method" "row" "[I", Cond.fieldLink RX7 18 "StepRewriter$Method" "codeAt" "I", Cond.methodLink RX7 46 yX7_hasPlace, Cond.instanceMethod yX7_hasPlace, Cond.selects RX7 yX7_hasPlace yX7_hasPlace, Cond.code yX7_hasPlace cX7_hasPlace 2 (some .boolean), Cond.fieldLink RX7 22 "StepRewriter$Method" "length" "I", Cond.methodLink RX5 87 yX7_sumFrom, Cond.instanceMethod yX7_sumFrom, Cond.selects RX7 yX7_sumFrom yX7_sumFrom, Cond.code yX7_sumFrom cX7_sumFrom 5 (some .int), Cond.methodLink RX7 78 yX7_beginsBlock, Cond.methodLink RX7 57 yX7_begins]
def wsX11_unwrite_r4 : List Cond := [Cond.instanceMethod yX7_begins, Cond.selects RX7 yX7_begins yX7_begins, Cond.code yX7_begins cX7_begins 2 (some .boolean), Cond.methodLink RX7 50 yX7_valueAt, Cond.instanceMethod yX7_valueAt, Cond.selects RX7 yX7_valueAt yX7_valueAt, Cond.code yX7_valueAt cX7_valueAt 2 (some .int), Cond.methodLink RX7 81 yX8_of, Cond.instanceMethod yX8_of, Cond.selects RX8 yX8_of yX8_of, Cond.initialized RX8, Cond.code yX8_of cX8_of 2 (some .int), Cond.fieldLink RX8 9 "StepRewriter$Prices" "row" "[I", Cond.methodLink RX8 30 yX9_at, Cond.static yX9_at, Cond.code yX9_at cX9_at 2 (some .int), Cond.methodLink RX5 91 yX9_put, Cond.methodLink RX5 38 yX5_placeAll, Cond.instanceMethod yX5_placeAll, Cond.selects RX5 yX5_placeAll yX5_placeAll, Cond.code yX5_placeAll cX5_placeAll 4 (some .int), Cond.fieldLink RX5 15 "StepRewriter$Layout" "places" "[I", Cond.methodLink RX5 72 yX7_begins, Cond.methodLink RX5 97 yX5_bytesAhead]
def wsX11_unwrite_r5 : List Cond := [Cond.instanceMethod yX5_bytesAhead, Cond.selects RX5 yX5_bytesAhead yX5_bytesAhead, Cond.code yX5_bytesAhead cX5_bytesAhead 3 (some .int), Cond.methodLink RX5 123 yX5_sumBytes, Cond.instanceMethod yX5_sumBytes, Cond.selects RX5 yX5_sumBytes yX5_sumBytes, Cond.code yX5_sumBytes cX5_sumBytes 2 (some .int), Cond.methodLink RX5 113 yX9_at, Cond.methodLink RX5 126 yX5_paysTop, Cond.instanceMethod yX5_paysTop, Cond.selects RX5 yX5_paysTop yX5_paysTop, Cond.code yX5_paysTop cX5_paysTop 3 (some .boolean), Cond.methodLink RX5 117 yX7_valueAt, Cond.methodLink RX5 101 yX5_bytesOf, Cond.instanceMethod yX5_bytesOf, Cond.selects RX5 yX5_bytesOf yX5_bytesOf, Cond.code yX5_bytesOf cX5_bytesOf 4 (some .int), Cond.methodLink RX5 130 yX4_isJump, Cond.static yX4_isJump, Cond.initialized RX4, Cond.code yX4_isJump cX4_isJump 1 (some .boolean), Cond.methodLink RX4 13 yX4_isBranch, Cond.static yX4_isBranch, Cond.code yX4_isBranch cX4_isBranch 1 (some .boolean)]
def wsX11_unwrite_r6 : List Cond := [Cond.methodLink RX5 133 yX4_sizeOf, Cond.static yX4_sizeOf, Cond.code yX4_sizeOf cX4_sizeOf 1 (some .int), Cond.methodLink RX4 7 yX4_isOfTwo, Cond.static yX4_isOfTwo, Cond.code yX4_isOfTwo cX4_isOfTwo 1 (some .boolean), Cond.methodLink RX4 16 yX4_isOfArray, Cond.static yX4_isOfArray, Cond.code yX4_isOfArray cX4_isOfArray 1 (some .boolean), Cond.methodLink RX5 110 yX5_isLong, Cond.instanceMethod yX5_isLong, Cond.selects RX5 yX5_isLong yX5_isLong, Cond.code yX5_isLong cX5_isLong 2 (some .boolean), Cond.methodLink RX5 136 yX4_isBranch, Cond.methodLink RX5 48 yX5_lengthen, Cond.instanceMethod yX5_lengthen, Cond.selects RX5 yX5_lengthen yX5_lengthen, Cond.code yX5_lengthen cX5_lengthen 5 (some .boolean), Cond.fieldLink RX5 18 "StepRewriter$Layout" "ways" "[I", Cond.methodLink RX5 104 yX7_jumpsAt, Cond.instanceMethod yX7_jumpsAt, Cond.selects RX7 yX7_jumpsAt yX7_jumpsAt, Cond.code yX7_jumpsAt cX7_jumpsAt 2 (some .boolean), Cond.methodLink RX7 60 yX4_isJump]
def wsX11_unwrite_r7 : List Cond := [Cond.methodLink RX5 107 yX5_wayOf, Cond.instanceMethod yX5_wayOf, Cond.selects RX5 yX5_wayOf yX5_wayOf, Cond.code yX5_wayOf cX5_wayOf 4 (some .int), Cond.methodLink RX5 139 yX7_targetOf, Cond.instanceMethod yX7_targetOf, Cond.selects RX7 yX7_targetOf yX7_targetOf, Cond.code yX7_targetOf cX7_targetOf 3 (some .int), Cond.methodLink RX11 184 yX0_appendPair, Cond.instanceMethod yX0_appendPair, Cond.selects RX0 yX0_appendPair yX0_appendPair, Cond.code yX0_appendPair cX0_appendPair 2 none, Cond.methodLink RX0 41 yX0_append, Cond.methodLink RX11 95 yX5_write, Cond.instanceMethod yX5_write, Cond.selects RX5 yX5_write yX5_write, Cond.code yX5_write cX5_write 5 none, Cond.fieldLink RX5 55 "StepRewriter$Method" "parameters" "I", Cond.fieldLink RX5 58 "StepRewriter$Method" "locals" "I", Cond.fieldLink RX5 61 "StepRewriter$Method" "blocks" "I", Cond.fieldLink RX5 64 "StepRewriter$CodeSet" "used" "I", Cond.fieldLink RX5 69 "StepRewriter$Method" "codeAt" "I", Cond.methodLink RX5 52 yX7_empty, Cond.instanceMethod yX7_empty]
def wsX11_unwrite_r8 : List Cond := [Cond.selects RX7 yX7_empty yX7_empty, Cond.code yX7_empty cX7_empty 1 none, Cond.fieldLink RX7 25 "StepRewriter$Method" "parameters" "I", Cond.fieldLink RX7 28 "StepRewriter$Method" "locals" "I", Cond.fieldLink RX7 31 "StepRewriter$Method" "handlers" "I", Cond.fieldLink RX7 34 "StepRewriter$Method" "blocks" "I", Cond.fieldLink RX7 37 "StepRewriter$Method" "longBranches" "I", Cond.fieldLink RX7 40 "StepRewriter$Method" "longJumps" "I", Cond.fieldLink RX7 43 "StepRewriter$Method" "deepest" "I", Cond.methodLink RX5 76 yX5_writeInstruction, Cond.instanceMethod yX5_writeInstruction, Cond.selects RX5 yX5_writeInstruction yX5_writeInstruction, Cond.code yX5_writeInstruction cX5_writeInstruction 8 none, Cond.methodLink RX5 142 yX0_append, Cond.methodLink RX5 146 yX0_appendPair, Cond.methodLink RX5 149 yX5_writeJump, Cond.instanceMethod yX5_writeJump, Cond.selects RX5 yX5_writeJump yX5_writeJump, Cond.code yX5_writeJump cX5_writeJump 7 none, Cond.fieldLink RX5 158 "StepRewriter$Method" "longBranches" "I", Cond.fieldLink RX5 161 "StepRewriter$Method" "longJumps" "I", Cond.methodLink RX5 155 yX4_opposite, Cond.static yX4_opposite, Cond.code yX4_opposite cX4_opposite 1 (some .int)]
def wsX11_unwrite_r9 : List Cond := [Cond.methodLink RX5 152 yX7_sizeAt, Cond.instanceMethod yX7_sizeAt, Cond.selects RX7 yX7_sizeAt yX7_sizeAt, Cond.code yX7_sizeAt cX7_sizeAt 2 (some .int), Cond.methodLink RX7 65 yX4_sizeOf, Cond.methodLink RX5 80 yX5_moveHandlers, Cond.instanceMethod yX5_moveHandlers, Cond.selects RX5 yX5_moveHandlers yX5_moveHandlers, Cond.code yX5_moveHandlers cX5_moveHandlers 6 none, Cond.fieldLink RX5 164 "StepRewriter$Method" "handlers" "I", Cond.methodLink RX5 167 yX7_handlerNumber, Cond.instanceMethod yX7_handlerNumber, Cond.selects RX7 yX7_handlerNumber yX7_handlerNumber, Cond.code yX7_handlerNumber cX7_handlerNumber 3 (some .int), Cond.fieldLink RX7 9 "StepRewriter$Method" "table" "[I", Cond.methodLink RX7 68 yX9_at, Cond.methodLink RX5 171 yX7_setHandlerNumber, Cond.instanceMethod yX7_setHandlerNumber, Cond.selects RX7 yX7_setHandlerNumber yX7_setHandlerNumber, Cond.code yX7_setHandlerNumber cX7_setHandlerNumber 4 none, Cond.methodLink RX7 74 yX9_put, Cond.methodLink RX11 130 yX7_handlerNumber, Cond.methodLink RX11 64 yX2_firstWrong, Cond.instanceMethod yX2_firstWrong]
def wsX11_unwrite_r10 : List Cond := [Cond.selects RX2 yX2_firstWrong yX2_firstWrong, Cond.initialized RX2, Cond.code yX2_firstWrong cX2_firstWrong 5 (some .int), Cond.fieldLink RX2 24 "StepRewriter$CodeSet" "count" "I", Cond.fieldLink RX2 28 "StepRewriter$CodeSet" "used" "I", Cond.fieldLink RX2 12 "StepRewriter$FormCheck" "depths" "LStepRewriter$DepthCheck;", Cond.methodLink RX2 18 yX0_valueAt, Cond.instanceMethod yX0_valueAt, Cond.selects RX0 yX0_valueAt yX0_valueAt, Cond.code yX0_valueAt cX0_valueAt 2 (some .int), Cond.methodLink RX0 45 yX9_at, Cond.methodLink RX2 31 yX0_method, Cond.methodLink RX2 35 yX2_wrongInMethod, Cond.instanceMethod yX2_wrongInMethod, Cond.selects RX2 yX2_wrongInMethod yX2_wrongInMethod, Cond.code yX2_wrongInMethod cX2_wrongInMethod 5 (some .int), Cond.methodLink RX2 62 yX7_empty, Cond.methodLink RX2 65 yX2_wrongNumber, Cond.instanceMethod yX2_wrongNumber, Cond.selects RX2 yX2_wrongNumber yX2_wrongNumber, Cond.code yX2_wrongNumber cX2_wrongNumber 5 (some .int), Cond.fieldLink RX2 82 "StepRewriter$Method" "parameters" "I", Cond.fieldLink RX2 85 "StepRewriter$Method" "locals" "I", Cond.fieldLink RX2 59 "StepRewriter$Method" "length" "I"]
def wsX11_unwrite_r11 : List Cond := [Cond.fieldLink RX2 56 "StepRewriter$Method" "codeAt" "I", Cond.methodLink RX2 88 yX0_pairAt, Cond.instanceMethod yX0_pairAt, Cond.selects RX0 yX0_pairAt yX0_pairAt, Cond.code yX0_pairAt cX0_pairAt 2 (some .int), Cond.methodLink RX0 49 yX0_valueAt, Cond.methodLink RX2 91 yX2_wrongHandlerCount, Cond.instanceMethod yX2_wrongHandlerCount, Cond.selects RX2 yX2_wrongHandlerCount yX2_wrongHandlerCount, Cond.code yX2_wrongHandlerCount cX2_wrongHandlerCount 4 (some .int), Cond.fieldLink RX2 47 "StepRewriter$Method" "handlers" "I", Cond.methodLink RX2 39 yX2_endOf, Cond.instanceMethod yX2_endOf, Cond.selects RX2 yX2_endOf yX2_endOf, Cond.code yX2_endOf cX2_endOf 2 (some .int), Cond.methodLink RX2 52 yX2_handlerPlace, Cond.instanceMethod yX2_handlerPlace, Cond.selects RX2 yX2_handlerPlace yX2_handlerPlace, Cond.code yX2_handlerPlace cX2_handlerPlace 3 (some .int), Cond.methodLink RX2 68 yX2_wrongInstruction, Cond.instanceMethod yX2_wrongInstruction, Cond.selects RX2 yX2_wrongInstruction yX2_wrongInstruction, Cond.code yX2_wrongInstruction cX2_wrongInstruction 6 (some .int), Cond.fieldLink RX2 108 "StepRewriter$Method" "longJumps" "I"]
def wsX11_unwrite_r12 : List Cond := [Cond.methodLink RX2 94 yX7_sizeAt, Cond.methodLink RX2 97 yX2_hasOperand, Cond.instanceMethod yX2_hasOperand, Cond.selects RX2 yX2_hasOperand yX2_hasOperand, Cond.code yX2_hasOperand cX2_hasOperand 6 (some .boolean), Cond.methodLink RX2 105 yX7_valueAt, Cond.methodLink RX2 111 yX0_has, Cond.instanceMethod yX0_has, Cond.selects RX0 yX0_has yX0_has, Cond.code yX0_has cX0_has 2 (some .boolean), Cond.methodLink RX2 115 yX4_isOfArray, Cond.methodLink RX2 101 yX7_mark, Cond.instanceMethod yX7_mark, Cond.selects RX7 yX7_mark yX7_mark, Cond.code yX7_mark cX7_mark 3 none, Cond.methodLink RX2 72 yX2_wrongHandler, Cond.instanceMethod yX2_wrongHandler, Cond.selects RX2 yX2_wrongHandler yX2_wrongHandler, Cond.code yX2_wrongHandler cX2_wrongHandler 10 (some .int), Cond.methodLink RX2 118 yX7_begins, Cond.methodLink RX2 121 yX7_setHandlerNumber, Cond.methodLink RX2 75 yX2_wrongJump, Cond.instanceMethod yX2_wrongJump, Cond.selects RX2 yX2_wrongJump yX2_wrongJump]
def wsX11_unwrite_r13 : List Cond := [Cond.code yX2_wrongJump cX2_wrongJump 3 (some .int), Cond.methodLink RX2 125 yX7_jumpsAt, Cond.methodLink RX2 128 yX7_targetOf, Cond.methodLink RX2 78 yX2_markBlocks, Cond.instanceMethod yX2_markBlocks, Cond.selects RX2 yX2_markBlocks yX2_markBlocks, Cond.code yX2_markBlocks cX2_markBlocks 4 none, Cond.fieldLink RX2 138 "StepRewriter$Method" "blocks" "I", Cond.methodLink RX2 131 yX4_endsWay, Cond.static yX4_endsWay, Cond.code yX4_endsWay cX4_endsWay 1 (some .boolean), Cond.methodLink RX2 134 yX7_handlerNumber, Cond.methodLink RX2 141 yX7_beginsBlock, Cond.methodLink RX2 43 yX1_firstWrong, Cond.instanceMethod yX1_firstWrong, Cond.selects RX1 yX1_firstWrong yX1_firstWrong, Cond.initialized RX1, Cond.code yX1_firstWrong cX1_firstWrong 4 (some .int), Cond.fieldLink RX1 18 "StepRewriter$CodeSet" "count" "I", Cond.fieldLink RX1 32 "StepRewriter$Method" "codeAt" "I", Cond.methodLink RX1 24 yX0_method, Cond.methodLink RX1 28 yX1_wrongPlace, Cond.instanceMethod yX1_wrongPlace, Cond.selects RX1 yX1_wrongPlace yX1_wrongPlace]
def wsX11_unwrite_r14 : List Cond := [Cond.code yX1_wrongPlace cX1_wrongPlace 5 (some .int), Cond.fieldLink RX1 9 "StepRewriter$DepthCheck" "depths" "[I", Cond.fieldLink RX1 15 "StepRewriter$DepthCheck" "gone" "[I", Cond.fieldLink RX1 43 "StepRewriter$DepthCheck" "lowest" "I", Cond.fieldLink RX1 52 "StepRewriter$Method" "handlers" "I", Cond.fieldLink RX1 59 "StepRewriter$Method" "length" "I", Cond.fieldLink RX1 74 "StepRewriter$Method" "deepest" "I", Cond.methodLink RX1 37 yJ7_fill_53178, Cond.methodLink RX1 46 yX9_put, Cond.methodLink RX1 55 yX7_handlerNumber, Cond.methodLink RX1 62 yX1_findLowest, Cond.instanceMethod yX1_findLowest, Cond.selects RX1 yX1_findLowest yX1_findLowest, Cond.code yX1_findLowest cX1_findLowest 2 (some .boolean), Cond.methodLink RX1 77 yX9_at, Cond.methodLink RX1 66 yX1_goOn, Cond.instanceMethod yX1_goOn, Cond.selects RX1 yX1_goOn yX1_goOn, Cond.code yX1_goOn cX1_goOn 13 (some .int), Cond.fieldLink RX1 90 "StepRewriter$Method" "parameters" "I", Cond.methodLink RX1 111 Lib.Math.min.name, Cond.static Lib.Math.min.name, Cond.initialized "java/lang/Math", Cond.code Lib.Math.min.name Lib.Math.min.code 2 (some .int)]
def wsX11_unwrite_r15 : List Cond := [Cond.methodLink RX1 81 yX7_valueAt, Cond.methodLink RX1 87 yX4_takes, Cond.static yX4_takes, Cond.code yX4_takes cX4_takes 1 (some .int), Cond.methodLink RX1 93 yX4_gives, Cond.static yX4_gives, Cond.code yX4_gives cX4_gives 1 (some .int), Cond.methodLink RX1 96 yX7_sizeAt, Cond.methodLink RX1 99 yX4_endsWay, Cond.methodLink RX1 102 yX1_reach, Cond.instanceMethod yX1_reach, Cond.selects RX1 yX1_reach yX1_reach, Cond.code yX1_reach cX1_reach 4 (some .int), Cond.methodLink RX1 105 yX4_isJump, Cond.methodLink RX1 108 yX7_targetOf, Cond.methodLink RX1 70 yX1_greatest, Cond.instanceMethod yX1_greatest, Cond.selects RX1 yX1_greatest yX1_greatest, Cond.code yX1_greatest cX1_greatest 3 (some .int), Cond.methodLink RX1 116 Lib.Math.max.name, Cond.static Lib.Math.max.name, Cond.code Lib.Math.max.name Lib.Math.max.code 2 (some .int), Cond.methodLink RX11 99 yX0_codeBytes, Cond.instanceMethod yX0_codeBytes]
def wsX11_unwrite_r16 : List Cond := [Cond.selects RX0 yX0_codeBytes yX0_codeBytes, Cond.code yX0_codeBytes cX0_codeBytes 3 (some .int), Cond.fieldLink RX0 57 "StepRewriter$Method" "length" "I", Cond.methodLink RX0 53 yX0_method]
def wsX11_unwrite : List Cond := .code yX11_unwrite cX11_unwrite 2 (some .int) :: ((wsX11_unwrite_r1 ++ (wsX11_unwrite_r2 ++ (wsX11_unwrite_r3 ++ (wsX11_unwrite_r4 ++ (wsX11_unwrite_r5 ++ (wsX11_unwrite_r6 ++ (wsX11_unwrite_r7 ++ (wsX11_unwrite_r8 ++ (wsX11_unwrite_r9 ++ (wsX11_unwrite_r10 ++ (wsX11_unwrite_r11 ++ (wsX11_unwrite_r12 ++ (wsX11_unwrite_r13 ++ (wsX11_unwrite_r14 ++ (wsX11_unwrite_r15 ++ wsX11_unwrite_r16))))))))))))))) ++ wsX110 ++ wsX00 ++ wsX70 ++ wsX50 ++ wsX80 ++ wsX20 ++ wsX10)
def wsX11_clear_r1 : List Cond := [Cond.fieldLink RX11 14 "StepRewriter" "tape" "LStepRewriter$CodeSet;", Cond.fieldLink RX11 18 "StepRewriter" "file" "LStepRewriter$CodeSet;", Cond.fieldLink RX11 24 "StepRewriter" "rewritten" "LStepRewriter$CodeSet;", Cond.fieldLink RX11 30 "StepRewriter" "prices" "LStepRewriter$Prices;", Cond.fieldLink RX11 53 "StepRewriter" "machine" "LStepRewriter$Machine;", Cond.methodLink RX11 68 yX0_empty, Cond.instanceMethod yX0_empty, Cond.selects RX0 yX0_empty yX0_empty, Cond.initialized RX0, Cond.code yX0_empty cX0_empty 1 none, Cond.fieldLink RX0 28 "StepRewriter$CodeSet" "used" "I", Cond.fieldLink RX0 32 "StepRewriter$CodeSet" "count" "I", Cond.methodLink RX11 172 yX8_becomeFirst, Cond.instanceMethod yX8_becomeFirst, Cond.selects RX8 yX8_becomeFirst yX8_becomeFirst, Cond.initialized RX8, Cond.code yX8_becomeFirst cX8_becomeFirst 1 none, Cond.fieldLink RX8 9 "StepRewriter$Prices" "row" "[I", Cond.methodLink RX8 16 yJ7_fill_53178, Cond.static yJ7_fill_53178, Cond.initialized RJ7, Cond.code yJ7_fill_53178 cJ7_fill_53178 4 none, Cond.methodLink RX8 24 yX9_put, Cond.static yX9_put]
def wsX11_clear_r2 : List Cond := [Cond.initialized RX9, Cond.code yX9_put cX9_put 3 none, Cond.methodLink RX11 175 yX6_forget, Cond.instanceMethod yX6_forget, Cond.selects RX6 yX6_forget yX6_forget, Cond.initialized RX6, Cond.code yX6_forget cX6_forget 1 none, Cond.fieldLink RX6 20 "StepRewriter$Machine" "arrays" "LStepRewriter$RunArrays;", Cond.fieldLink RX6 40 "StepRewriter$Machine" "underWay" "I", Cond.fieldLink RX6 44 "StepRewriter$Machine" "result" "I", Cond.fieldLink RX6 47 "StepRewriter$Machine" "paid" "I", Cond.fieldLink RX6 50 "StepRewriter$Machine" "done" "I", Cond.methodLink RX6 37 yX10_empty, Cond.instanceMethod yX10_empty, Cond.selects RX10 yX10_empty yX10_empty, Cond.initialized RX10, Cond.code yX10_empty cX10_empty 1 none, Cond.fieldLink RX10 9 "StepRewriter$RunArrays" "sizes" "[I", Cond.methodLink RX10 18 yJ7_fill_53178]
def wsX11_clear : List Cond := .code yX11_clear cX11_clear 1 none :: ((wsX11_clear_r1 ++ wsX11_clear_r2) ++ wsX110 ++ wsX00 ++ wsX80 ++ wsX60 ++ wsX100)
def wsX12_begin : List Cond := .code yX12_begin cX12_begin 2 none :: ([.fieldLink RX12 93 "StepRewriterModel" "prices" "[I"] ++ wsX120)
def wsX12_init_r1 : List Cond := [Cond.methodLink RX12 7 objectInit, Cond.instanceMethod objectInit, Cond.code objectInit ⟨#[0xb1]⟩ 1 none, Cond.arrayClass .int, Cond.fieldLink RX12 13 "StepRewriterModel" "tape" "[I", Cond.fieldLink RX12 17 "StepRewriterModel" "parameters" "[I", Cond.fieldLink RX12 20 "StepRewriterModel" "locals" "[I", Cond.fieldLink RX12 23 "StepRewriterModel" "sizes" "[I", Cond.fieldLink RX12 26 "StepRewriterModel" "handlers" "[I", Cond.fieldLink RX12 29 "StepRewriterModel" "rows" "[I", Cond.fieldLink RX12 32 "StepRewriterModel" "code" "[I", Cond.arrayClass .boolean, Cond.fieldLink RX12 35 "StepRewriterModel" "begins" "[Z", Cond.fieldLink RX12 39 "StepRewriterModel" "blocks" "[Z", Cond.fieldLink RX12 42 "StepRewriterModel" "depths" "[I", Cond.fieldLink RX12 45 "StepRewriterModel" "gone" "[Z", Cond.fieldLink RX12 48 "StepRewriterModel" "nextParameters" "[I", Cond.fieldLink RX12 51 "StepRewriterModel" "nextLocals" "[I", Cond.fieldLink RX12 54 "StepRewriterModel" "nextSizes" "[I", Cond.fieldLink RX12 57 "StepRewriterModel" "nextBases" "[I", Cond.fieldLink RX12 60 "StepRewriterModel" "nextHandlers" "[I", Cond.fieldLink RX12 63 "StepRewriterModel" "nextRows" "[I", Cond.fieldLink RX12 66 "StepRewriterModel" "nextCode" "[I", Cond.fieldLink RX12 69 "StepRewriterModel" "written" "[I"]
def wsX12_init_r2 : List Cond := [Cond.fieldLink RX12 72 "StepRewriterModel" "writtenSizes" "[I", Cond.fieldLink RX12 75 "StepRewriterModel" "writtenRows" "[I", Cond.fieldLink RX12 78 "StepRewriterModel" "longs" "[I", Cond.fieldLink RX12 81 "StepRewriterModel" "starts" "[I", Cond.fieldLink RX12 84 "StepRewriterModel" "places" "[I", Cond.fieldLink RX12 87 "StepRewriterModel" "far" "[Z", Cond.fieldLink RX12 90 "StepRewriterModel" "laid" "[I", Cond.fieldLink RX12 93 "StepRewriterModel" "prices" "[I", Cond.fieldLink RX12 96 "StepRewriterModel" "sizesOf" "[I", Cond.fieldLink RX12 99 "StepRewriterModel" "arrays" "[I", Cond.fieldLink RX12 102 "StepRewriterModel" "frameMethod" "[I", Cond.fieldLink RX12 105 "StepRewriterModel" "framePlace" "[I", Cond.fieldLink RX12 108 "StepRewriterModel" "frameDepth" "[I", Cond.fieldLink RX12 111 "StepRewriterModel" "stacked" "[I", Cond.fieldLink RX12 114 "StepRewriterModel" "local" "[I", Cond.methodLink RX12 117 yX12_begin, Cond.instanceMethod yX12_begin, Cond.selects RX12 yX12_begin yX12_begin, Cond.initialized RX12, Cond.code yX12_begin cX12_begin 2 none]
def wsX12_init : List Cond := .code yX12_init cX12_init 1 none :: ((wsX12_init_r1 ++ wsX12_init_r2) ++ wsX120)
def wsX12_size : List Cond := .code yX12_size cX12_size 1 (some .int) :: ([])
def wsX12_isKind : List Cond := .code yX12_isKind cX12_isKind 1 (some .boolean) :: ([.methodLink RX12 120 yX12_size, .static yX12_size, .initialized RX12, .code yX12_size cX12_size 1 (some .int)])
def wsX12_isJump : List Cond := .code yX12_isJump cX12_isJump 1 (some .boolean) :: ([])
def wsX12_feed : List Cond := .code yX12_feed cX12_feed 5 (some .int) :: ([.fieldLink RX12 124 "StepRewriterModel" "taped" "I", .fieldLink RX12 13 "StepRewriterModel" "tape" "[I"] ++ wsX120)
def wsX12_one : List Cond := .code yX12_one cX12_one 2 (some .int) :: ([.fieldLink RX12 127 "StepRewriterModel" "at" "I", .fieldLink RX12 124 "StepRewriterModel" "taped" "I", .fieldLink RX12 13 "StepRewriterModel" "tape" "[I"] ++ wsX120)
def wsX12_two : List Cond := .code yX12_two cX12_two 2 (some .int) :: ([.fieldLink RX12 127 "StepRewriterModel" "at" "I", .fieldLink RX12 124 "StepRewriterModel" "taped" "I", .fieldLink RX12 13 "StepRewriterModel" "tape" "[I"] ++ wsX120)
def wsX12_wrong : List Cond := .code yX12_wrong cX12_wrong 2 (some .int) :: ([.fieldLink RX12 124 "StepRewriterModel" "taped" "I"] ++ wsX120)
def wsX12_signed : List Cond := .code yX12_signed cX12_signed 1 (some .int) :: ([])
def wsX12_signedTwo : List Cond := .code yX12_signedTwo cX12_signedTwo 1 (some .int) :: ([.constant RX12 130 (65536)])
def wsX12_target : List Cond := .code yX12_target cX12_target 4 (some .int) :: ([.methodLink RX12 131 yX12_signedTwo, .static yX12_signedTwo, .initialized RX12, .code yX12_signedTwo cX12_signedTwo 1 (some .int), .constant RX12 130 (65536), .methodLink RX12 134 yX12_signed, .static yX12_signed, .code yX12_signed cX12_signed 1 (some .int)])
def wsX12_instructions : List Cond := .code yX12_instructions cX12_instructions 9 (some .int) :: ([.fieldLink RX12 54 "StepRewriterModel" "nextSizes" "[I", .fieldLink RX12 35 "StepRewriterModel" "begins" "[Z", .fieldLink RX12 66 "StepRewriterModel" "nextCode" "[I", .fieldLink RX12 51 "StepRewriterModel" "nextLocals" "[I", .fieldLink RX12 57 "StepRewriterModel" "nextBases" "[I", .methodLink RX12 169 yX12_isKind, .static yX12_isKind, .initialized RX12, .code yX12_isKind cX12_isKind 1 (some .boolean), .methodLink RX12 120 yX12_size, .static yX12_size, .code yX12_size cX12_size 1 (some .int), .methodLink RX12 141 yX12_wrong, .instanceMethod yX12_wrong, .selects RX12 yX12_wrong yX12_wrong, .code yX12_wrong cX12_wrong 2 (some .int), .fieldLink RX12 124 "StepRewriterModel" "taped" "I"] ++ wsX120)
def wsX12_isBegin : List Cond := .code yX12_isBegin cX12_isBegin 3 (some .boolean) :: ([.fieldLink RX12 54 "StepRewriterModel" "nextSizes" "[I", .fieldLink RX12 35 "StepRewriterModel" "begins" "[Z"] ++ wsX120)
def wsX12_readMethod_r1 : List Cond := [Cond.fieldLink RX12 127 "StepRewriterModel" "at" "I", Cond.fieldLink RX12 124 "StepRewriterModel" "taped" "I", Cond.fieldLink RX12 48 "StepRewriterModel" "nextParameters" "[I", Cond.fieldLink RX12 51 "StepRewriterModel" "nextLocals" "[I", Cond.fieldLink RX12 54 "StepRewriterModel" "nextSizes" "[I", Cond.fieldLink RX12 57 "StepRewriterModel" "nextBases" "[I", Cond.fieldLink RX12 66 "StepRewriterModel" "nextCode" "[I", Cond.fieldLink RX12 60 "StepRewriterModel" "nextHandlers" "[I", Cond.fieldLink RX12 63 "StepRewriterModel" "nextRows" "[I", Cond.fieldLink RX12 35 "StepRewriterModel" "begins" "[Z", Cond.methodLink RX12 137 yX12_one, Cond.instanceMethod yX12_one, Cond.selects RX12 yX12_one yX12_one, Cond.initialized RX12, Cond.code yX12_one cX12_one 2 (some .int), Cond.fieldLink RX12 13 "StepRewriterModel" "tape" "[I", Cond.methodLink RX12 141 yX12_wrong, Cond.instanceMethod yX12_wrong, Cond.selects RX12 yX12_wrong yX12_wrong, Cond.code yX12_wrong cX12_wrong 2 (some .int), Cond.methodLink RX12 151 yX12_two, Cond.instanceMethod yX12_two, Cond.selects RX12 yX12_two yX12_two, Cond.code yX12_two cX12_two 2 (some .int)]
def wsX12_readMethod_r2 : List Cond := [Cond.methodLink RX12 154 yX12_instructions, Cond.instanceMethod yX12_instructions, Cond.selects RX12 yX12_instructions yX12_instructions, Cond.code yX12_instructions cX12_instructions 9 (some .int), Cond.methodLink RX12 169 yX12_isKind, Cond.static yX12_isKind, Cond.code yX12_isKind cX12_isKind 1 (some .boolean), Cond.methodLink RX12 120 yX12_size, Cond.static yX12_size, Cond.code yX12_size cX12_size 1 (some .int), Cond.methodLink RX12 157 yX12_isBegin, Cond.instanceMethod yX12_isBegin, Cond.selects RX12 yX12_isBegin yX12_isBegin, Cond.code yX12_isBegin cX12_isBegin 3 (some .boolean), Cond.methodLink RX12 161 yX12_isJump, Cond.static yX12_isJump, Cond.code yX12_isJump cX12_isJump 1 (some .boolean), Cond.methodLink RX12 165 yX12_target, Cond.static yX12_target, Cond.code yX12_target cX12_target 4 (some .int), Cond.methodLink RX12 131 yX12_signedTwo, Cond.static yX12_signedTwo, Cond.code yX12_signedTwo cX12_signedTwo 1 (some .int), Cond.constant RX12 130 (65536)]
def wsX12_readMethod_r3 : List Cond := [Cond.methodLink RX12 134 yX12_signed, Cond.static yX12_signed, Cond.code yX12_signed cX12_signed 1 (some .int)]
def wsX12_readMethod : List Cond := .code yX12_readMethod cX12_readMethod 13 (some .int) :: ((wsX12_readMethod_r1 ++ (wsX12_readMethod_r2 ++ wsX12_readMethod_r3)) ++ wsX120)
def wsX12_takes : List Cond := .code yX12_takes cX12_takes 3 (some .int) :: ([.fieldLink RX12 48 "StepRewriterModel" "nextParameters" "[I"] ++ wsX120)
def wsX12_gives : List Cond := .code yX12_gives cX12_gives 1 (some .int) :: ([.methodLink RX12 161 yX12_isJump, .static yX12_isJump, .initialized RX12, .code yX12_isJump cX12_isJump 1 (some .boolean)])
def wsX12_comes : List Cond := .code yX12_comes cX12_comes 5 (some .boolean) :: ([.fieldLink RX12 42 "StepRewriterModel" "depths" "[I"] ++ wsX120)
def wsX12_goesOn_r1 : List Cond := [Cond.fieldLink RX12 66 "StepRewriterModel" "nextCode" "[I", Cond.fieldLink RX12 42 "StepRewriterModel" "depths" "[I", Cond.fieldLink RX12 54 "StepRewriterModel" "nextSizes" "[I", Cond.fieldLink RX12 57 "StepRewriterModel" "nextBases" "[I", Cond.methodLink RX12 175 yX12_takes, Cond.instanceMethod yX12_takes, Cond.selects RX12 yX12_takes yX12_takes, Cond.initialized RX12, Cond.code yX12_takes cX12_takes 3 (some .int), Cond.fieldLink RX12 48 "StepRewriterModel" "nextParameters" "[I", Cond.methodLink RX12 178 yX12_gives, Cond.static yX12_gives, Cond.code yX12_gives cX12_gives 1 (some .int), Cond.methodLink RX12 161 yX12_isJump, Cond.static yX12_isJump, Cond.code yX12_isJump cX12_isJump 1 (some .boolean), Cond.methodLink RX12 120 yX12_size, Cond.static yX12_size, Cond.code yX12_size cX12_size 1 (some .int), Cond.methodLink RX12 141 yX12_wrong, Cond.instanceMethod yX12_wrong, Cond.selects RX12 yX12_wrong yX12_wrong, Cond.code yX12_wrong cX12_wrong 2 (some .int), Cond.fieldLink RX12 124 "StepRewriterModel" "taped" "I"]
def wsX12_goesOn_r2 : List Cond := [Cond.methodLink RX12 181 yX12_comes, Cond.instanceMethod yX12_comes, Cond.selects RX12 yX12_comes yX12_comes, Cond.code yX12_comes cX12_comes 5 (some .boolean), Cond.methodLink RX12 165 yX12_target, Cond.static yX12_target, Cond.code yX12_target cX12_target 4 (some .int), Cond.methodLink RX12 131 yX12_signedTwo, Cond.static yX12_signedTwo, Cond.code yX12_signedTwo cX12_signedTwo 1 (some .int), Cond.constant RX12 130 (65536), Cond.methodLink RX12 134 yX12_signed, Cond.static yX12_signed, Cond.code yX12_signed cX12_signed 1 (some .int)]
def wsX12_goesOn : List Cond := .code yX12_goesOn cX12_goesOn 10 (some .int) :: ((wsX12_goesOn_r1 ++ wsX12_goesOn_r2) ++ wsX120)
def wsX12_stacks_r1 : List Cond := [Cond.fieldLink RX12 54 "StepRewriterModel" "nextSizes" "[I", Cond.fieldLink RX12 42 "StepRewriterModel" "depths" "[I", Cond.fieldLink RX12 45 "StepRewriterModel" "gone" "[Z", Cond.fieldLink RX12 60 "StepRewriterModel" "nextHandlers" "[I", Cond.fieldLink RX12 63 "StepRewriterModel" "nextRows" "[I", Cond.fieldLink RX12 57 "StepRewriterModel" "nextBases" "[I", Cond.methodLink RX12 141 yX12_wrong, Cond.instanceMethod yX12_wrong, Cond.selects RX12 yX12_wrong yX12_wrong, Cond.initialized RX12, Cond.code yX12_wrong cX12_wrong 2 (some .int), Cond.fieldLink RX12 124 "StepRewriterModel" "taped" "I", Cond.methodLink RX12 172 yX12_goesOn, Cond.instanceMethod yX12_goesOn, Cond.selects RX12 yX12_goesOn yX12_goesOn, Cond.code yX12_goesOn cX12_goesOn 10 (some .int), Cond.fieldLink RX12 66 "StepRewriterModel" "nextCode" "[I", Cond.methodLink RX12 175 yX12_takes, Cond.instanceMethod yX12_takes, Cond.selects RX12 yX12_takes yX12_takes, Cond.code yX12_takes cX12_takes 3 (some .int), Cond.fieldLink RX12 48 "StepRewriterModel" "nextParameters" "[I", Cond.methodLink RX12 178 yX12_gives, Cond.static yX12_gives]
def wsX12_stacks_r2 : List Cond := [Cond.code yX12_gives cX12_gives 1 (some .int), Cond.methodLink RX12 161 yX12_isJump, Cond.static yX12_isJump, Cond.code yX12_isJump cX12_isJump 1 (some .boolean), Cond.methodLink RX12 120 yX12_size, Cond.static yX12_size, Cond.code yX12_size cX12_size 1 (some .int), Cond.methodLink RX12 181 yX12_comes, Cond.instanceMethod yX12_comes, Cond.selects RX12 yX12_comes yX12_comes, Cond.code yX12_comes cX12_comes 5 (some .boolean), Cond.methodLink RX12 165 yX12_target, Cond.static yX12_target, Cond.code yX12_target cX12_target 4 (some .int), Cond.methodLink RX12 131 yX12_signedTwo, Cond.static yX12_signedTwo, Cond.code yX12_signedTwo cX12_signedTwo 1 (some .int), Cond.constant RX12 130 (65536), Cond.methodLink RX12 134 yX12_signed, Cond.static yX12_signed, Cond.code yX12_signed cX12_signed 1 (some .int)]
def wsX12_stacks : List Cond := .code yX12_stacks cX12_stacks 6 (some .int) :: ((wsX12_stacks_r1 ++ wsX12_stacks_r2) ++ wsX120)
def wsX12_read_r1 : List Cond := [Cond.fieldLink RX12 127 "StepRewriterModel" "at" "I", Cond.fieldLink RX12 124 "StepRewriterModel" "taped" "I", Cond.methodLink RX12 137 yX12_one, Cond.instanceMethod yX12_one, Cond.selects RX12 yX12_one yX12_one, Cond.initialized RX12, Cond.code yX12_one cX12_one 2 (some .int), Cond.fieldLink RX12 13 "StepRewriterModel" "tape" "[I", Cond.methodLink RX12 141 yX12_wrong, Cond.instanceMethod yX12_wrong, Cond.selects RX12 yX12_wrong yX12_wrong, Cond.code yX12_wrong cX12_wrong 2 (some .int), Cond.methodLink RX12 144 yX12_readMethod, Cond.instanceMethod yX12_readMethod, Cond.selects RX12 yX12_readMethod yX12_readMethod, Cond.code yX12_readMethod cX12_readMethod 13 (some .int), Cond.fieldLink RX12 48 "StepRewriterModel" "nextParameters" "[I", Cond.fieldLink RX12 51 "StepRewriterModel" "nextLocals" "[I", Cond.fieldLink RX12 54 "StepRewriterModel" "nextSizes" "[I", Cond.fieldLink RX12 57 "StepRewriterModel" "nextBases" "[I", Cond.fieldLink RX12 66 "StepRewriterModel" "nextCode" "[I", Cond.fieldLink RX12 60 "StepRewriterModel" "nextHandlers" "[I", Cond.fieldLink RX12 63 "StepRewriterModel" "nextRows" "[I", Cond.fieldLink RX12 35 "StepRewriterModel" "begins" "[Z"]
def wsX12_read_r2 : List Cond := [Cond.methodLink RX12 151 yX12_two, Cond.instanceMethod yX12_two, Cond.selects RX12 yX12_two yX12_two, Cond.code yX12_two cX12_two 2 (some .int), Cond.methodLink RX12 154 yX12_instructions, Cond.instanceMethod yX12_instructions, Cond.selects RX12 yX12_instructions yX12_instructions, Cond.code yX12_instructions cX12_instructions 9 (some .int), Cond.methodLink RX12 169 yX12_isKind, Cond.static yX12_isKind, Cond.code yX12_isKind cX12_isKind 1 (some .boolean), Cond.methodLink RX12 120 yX12_size, Cond.static yX12_size, Cond.code yX12_size cX12_size 1 (some .int), Cond.methodLink RX12 157 yX12_isBegin, Cond.instanceMethod yX12_isBegin, Cond.selects RX12 yX12_isBegin yX12_isBegin, Cond.code yX12_isBegin cX12_isBegin 3 (some .boolean), Cond.methodLink RX12 161 yX12_isJump, Cond.static yX12_isJump, Cond.code yX12_isJump cX12_isJump 1 (some .boolean), Cond.methodLink RX12 165 yX12_target, Cond.static yX12_target, Cond.code yX12_target cX12_target 4 (some .int)]
def wsX12_read_r3 : List Cond := [Cond.methodLink RX12 131 yX12_signedTwo, Cond.static yX12_signedTwo, Cond.code yX12_signedTwo cX12_signedTwo 1 (some .int), Cond.constant RX12 130 (65536), Cond.methodLink RX12 134 yX12_signed, Cond.static yX12_signed, Cond.code yX12_signed cX12_signed 1 (some .int), Cond.methodLink RX12 148 yX12_stacks, Cond.instanceMethod yX12_stacks, Cond.selects RX12 yX12_stacks yX12_stacks, Cond.code yX12_stacks cX12_stacks 6 (some .int), Cond.fieldLink RX12 42 "StepRewriterModel" "depths" "[I", Cond.fieldLink RX12 45 "StepRewriterModel" "gone" "[Z", Cond.methodLink RX12 172 yX12_goesOn, Cond.instanceMethod yX12_goesOn, Cond.selects RX12 yX12_goesOn yX12_goesOn, Cond.code yX12_goesOn cX12_goesOn 10 (some .int), Cond.methodLink RX12 175 yX12_takes, Cond.instanceMethod yX12_takes, Cond.selects RX12 yX12_takes yX12_takes, Cond.code yX12_takes cX12_takes 3 (some .int), Cond.methodLink RX12 178 yX12_gives, Cond.static yX12_gives, Cond.code yX12_gives cX12_gives 1 (some .int)]
def wsX12_read_r4 : List Cond := [Cond.methodLink RX12 181 yX12_comes, Cond.instanceMethod yX12_comes, Cond.selects RX12 yX12_comes yX12_comes, Cond.code yX12_comes cX12_comes 5 (some .boolean)]
def wsX12_read : List Cond := .code yX12_read cX12_read 4 (some .int) :: ((wsX12_read_r1 ++ (wsX12_read_r2 ++ (wsX12_read_r3 ++ wsX12_read_r4))) ++ wsX120)
def wsX12_keep : List Cond := .code yX12_keep cX12_keep 2 none :: ([.fieldLink RX12 17 "StepRewriterModel" "parameters" "[I", .fieldLink RX12 48 "StepRewriterModel" "nextParameters" "[I", .fieldLink RX12 20 "StepRewriterModel" "locals" "[I", .fieldLink RX12 51 "StepRewriterModel" "nextLocals" "[I", .fieldLink RX12 23 "StepRewriterModel" "sizes" "[I", .fieldLink RX12 54 "StepRewriterModel" "nextSizes" "[I", .fieldLink RX12 26 "StepRewriterModel" "handlers" "[I", .fieldLink RX12 60 "StepRewriterModel" "nextHandlers" "[I", .fieldLink RX12 29 "StepRewriterModel" "rows" "[I", .fieldLink RX12 63 "StepRewriterModel" "nextRows" "[I", .fieldLink RX12 32 "StepRewriterModel" "code" "[I", .fieldLink RX12 66 "StepRewriterModel" "nextCode" "[I"] ++ wsX120)
def wsX12_load_r1 : List Cond := [Cond.fieldLink RX12 124 "StepRewriterModel" "taped" "I", Cond.fieldLink RX12 188 "StepRewriterModel" "methods" "I", Cond.fieldLink RX12 191 "StepRewriterModel" "hasFile" "Z", Cond.fieldLink RX12 195 "StepRewriterModel" "isRewritten" "Z", Cond.methodLink RX12 185 yX12_read, Cond.instanceMethod yX12_read, Cond.selects RX12 yX12_read yX12_read, Cond.initialized RX12, Cond.code yX12_read cX12_read 4 (some .int), Cond.fieldLink RX12 127 "StepRewriterModel" "at" "I", Cond.methodLink RX12 137 yX12_one, Cond.instanceMethod yX12_one, Cond.selects RX12 yX12_one yX12_one, Cond.code yX12_one cX12_one 2 (some .int), Cond.fieldLink RX12 13 "StepRewriterModel" "tape" "[I", Cond.methodLink RX12 141 yX12_wrong, Cond.instanceMethod yX12_wrong, Cond.selects RX12 yX12_wrong yX12_wrong, Cond.code yX12_wrong cX12_wrong 2 (some .int), Cond.methodLink RX12 144 yX12_readMethod, Cond.instanceMethod yX12_readMethod, Cond.selects RX12 yX12_readMethod yX12_readMethod, Cond.code yX12_readMethod cX12_readMethod 13 (some .int), Cond.fieldLink RX12 48 "StepRewriterModel" "nextParameters" "[I"]
def wsX12_load_r2 : List Cond := [Cond.fieldLink RX12 51 "StepRewriterModel" "nextLocals" "[I", Cond.fieldLink RX12 54 "StepRewriterModel" "nextSizes" "[I", Cond.fieldLink RX12 57 "StepRewriterModel" "nextBases" "[I", Cond.fieldLink RX12 66 "StepRewriterModel" "nextCode" "[I", Cond.fieldLink RX12 60 "StepRewriterModel" "nextHandlers" "[I", Cond.fieldLink RX12 63 "StepRewriterModel" "nextRows" "[I", Cond.fieldLink RX12 35 "StepRewriterModel" "begins" "[Z", Cond.methodLink RX12 151 yX12_two, Cond.instanceMethod yX12_two, Cond.selects RX12 yX12_two yX12_two, Cond.code yX12_two cX12_two 2 (some .int), Cond.methodLink RX12 154 yX12_instructions, Cond.instanceMethod yX12_instructions, Cond.selects RX12 yX12_instructions yX12_instructions, Cond.code yX12_instructions cX12_instructions 9 (some .int), Cond.methodLink RX12 169 yX12_isKind, Cond.static yX12_isKind, Cond.code yX12_isKind cX12_isKind 1 (some .boolean), Cond.methodLink RX12 120 yX12_size, Cond.static yX12_size, Cond.code yX12_size cX12_size 1 (some .int), Cond.methodLink RX12 157 yX12_isBegin, Cond.instanceMethod yX12_isBegin, Cond.selects RX12 yX12_isBegin yX12_isBegin]
def wsX12_load_r3 : List Cond := [Cond.code yX12_isBegin cX12_isBegin 3 (some .boolean), Cond.methodLink RX12 161 yX12_isJump, Cond.static yX12_isJump, Cond.code yX12_isJump cX12_isJump 1 (some .boolean), Cond.methodLink RX12 165 yX12_target, Cond.static yX12_target, Cond.code yX12_target cX12_target 4 (some .int), Cond.methodLink RX12 131 yX12_signedTwo, Cond.static yX12_signedTwo, Cond.code yX12_signedTwo cX12_signedTwo 1 (some .int), Cond.constant RX12 130 (65536), Cond.methodLink RX12 134 yX12_signed, Cond.static yX12_signed, Cond.code yX12_signed cX12_signed 1 (some .int), Cond.methodLink RX12 148 yX12_stacks, Cond.instanceMethod yX12_stacks, Cond.selects RX12 yX12_stacks yX12_stacks, Cond.code yX12_stacks cX12_stacks 6 (some .int), Cond.fieldLink RX12 42 "StepRewriterModel" "depths" "[I", Cond.fieldLink RX12 45 "StepRewriterModel" "gone" "[Z", Cond.methodLink RX12 172 yX12_goesOn, Cond.instanceMethod yX12_goesOn, Cond.selects RX12 yX12_goesOn yX12_goesOn, Cond.code yX12_goesOn cX12_goesOn 10 (some .int)]
def wsX12_load_r4 : List Cond := [Cond.methodLink RX12 175 yX12_takes, Cond.instanceMethod yX12_takes, Cond.selects RX12 yX12_takes yX12_takes, Cond.code yX12_takes cX12_takes 3 (some .int), Cond.methodLink RX12 178 yX12_gives, Cond.static yX12_gives, Cond.code yX12_gives cX12_gives 1 (some .int), Cond.methodLink RX12 181 yX12_comes, Cond.instanceMethod yX12_comes, Cond.selects RX12 yX12_comes yX12_comes, Cond.code yX12_comes cX12_comes 5 (some .boolean), Cond.methodLink RX12 198 yX12_keep, Cond.instanceMethod yX12_keep, Cond.selects RX12 yX12_keep yX12_keep, Cond.code yX12_keep cX12_keep 2 none, Cond.fieldLink RX12 17 "StepRewriterModel" "parameters" "[I", Cond.fieldLink RX12 20 "StepRewriterModel" "locals" "[I", Cond.fieldLink RX12 23 "StepRewriterModel" "sizes" "[I", Cond.fieldLink RX12 26 "StepRewriterModel" "handlers" "[I", Cond.fieldLink RX12 29 "StepRewriterModel" "rows" "[I", Cond.fieldLink RX12 32 "StepRewriterModel" "code" "[I"]
def wsX12_load : List Cond := .code yX12_load cX12_load 2 (some .int) :: ((wsX12_load_r1 ++ (wsX12_load_r2 ++ (wsX12_load_r3 ++ wsX12_load_r4))) ++ wsX120)
def wsX12_price : List Cond := .code yX12_price cX12_price 4 (some .int) :: ([.fieldLink RX12 93 "StepRewriterModel" "prices" "[I", .methodLink RX12 169 yX12_isKind, .static yX12_isKind, .initialized RX12, .code yX12_isKind cX12_isKind 1 (some .boolean), .methodLink RX12 120 yX12_size, .static yX12_size, .code yX12_size cX12_size 1 (some .int)] ++ wsX120)
def wsX12_kindAt : List Cond := .code yX12_kindAt cX12_kindAt 3 (some .int) :: ([.fieldLink RX12 32 "StepRewriterModel" "code" "[I"] ++ wsX120)
def wsX12_leads : List Cond := .code yX12_leads cX12_leads 4 (some .int) :: ([.fieldLink RX12 32 "StepRewriterModel" "code" "[I", .methodLink RX12 165 yX12_target, .static yX12_target, .initialized RX12, .code yX12_target cX12_target 4 (some .int), .methodLink RX12 131 yX12_signedTwo, .static yX12_signedTwo, .code yX12_signedTwo cX12_signedTwo 1 (some .int), .constant RX12 130 (65536), .methodLink RX12 134 yX12_signed, .static yX12_signed, .code yX12_signed cX12_signed 1 (some .int)] ++ wsX120)
def wsX12_mark_r1 : List Cond := [Cond.fieldLink RX12 23 "StepRewriterModel" "sizes" "[I", Cond.fieldLink RX12 39 "StepRewriterModel" "blocks" "[Z", Cond.fieldLink RX12 26 "StepRewriterModel" "handlers" "[I", Cond.fieldLink RX12 29 "StepRewriterModel" "rows" "[I", Cond.methodLink RX12 201 yX12_kindAt, Cond.instanceMethod yX12_kindAt, Cond.selects RX12 yX12_kindAt yX12_kindAt, Cond.initialized RX12, Cond.code yX12_kindAt cX12_kindAt 3 (some .int), Cond.fieldLink RX12 32 "StepRewriterModel" "code" "[I", Cond.methodLink RX12 120 yX12_size, Cond.static yX12_size, Cond.code yX12_size cX12_size 1 (some .int), Cond.methodLink RX12 161 yX12_isJump, Cond.static yX12_isJump, Cond.code yX12_isJump cX12_isJump 1 (some .boolean), Cond.methodLink RX12 204 yX12_leads, Cond.instanceMethod yX12_leads, Cond.selects RX12 yX12_leads yX12_leads, Cond.code yX12_leads cX12_leads 4 (some .int), Cond.methodLink RX12 165 yX12_target, Cond.static yX12_target, Cond.code yX12_target cX12_target 4 (some .int), Cond.methodLink RX12 131 yX12_signedTwo]
def wsX12_mark_r2 : List Cond := [Cond.static yX12_signedTwo, Cond.code yX12_signedTwo cX12_signedTwo 1 (some .int), Cond.constant RX12 130 (65536), Cond.methodLink RX12 134 yX12_signed, Cond.static yX12_signed, Cond.code yX12_signed cX12_signed 1 (some .int)]
def wsX12_mark : List Cond := .code yX12_mark cX12_mark 5 none :: ((wsX12_mark_r1 ++ wsX12_mark_r2) ++ wsX120)
def wsX12_sum : List Cond := .code yX12_sum cX12_sum 5 (some .int) :: ([.fieldLink RX12 93 "StepRewriterModel" "prices" "[I", .fieldLink RX12 23 "StepRewriterModel" "sizes" "[I", .fieldLink RX12 39 "StepRewriterModel" "blocks" "[Z", .methodLink RX12 201 yX12_kindAt, .instanceMethod yX12_kindAt, .selects RX12 yX12_kindAt yX12_kindAt, .initialized RX12, .code yX12_kindAt cX12_kindAt 3 (some .int), .fieldLink RX12 32 "StepRewriterModel" "code" "[I", .methodLink RX12 120 yX12_size, .static yX12_size, .code yX12_size cX12_size 1 (some .int)] ++ wsX120)
def wsX12_countBlocks_r1 : List Cond := [Cond.fieldLink RX12 23 "StepRewriterModel" "sizes" "[I", Cond.fieldLink RX12 39 "StepRewriterModel" "blocks" "[Z", Cond.methodLink RX12 207 yX12_mark, Cond.instanceMethod yX12_mark, Cond.selects RX12 yX12_mark yX12_mark, Cond.initialized RX12, Cond.code yX12_mark cX12_mark 5 none, Cond.fieldLink RX12 26 "StepRewriterModel" "handlers" "[I", Cond.fieldLink RX12 29 "StepRewriterModel" "rows" "[I", Cond.methodLink RX12 201 yX12_kindAt, Cond.instanceMethod yX12_kindAt, Cond.selects RX12 yX12_kindAt yX12_kindAt, Cond.code yX12_kindAt cX12_kindAt 3 (some .int), Cond.fieldLink RX12 32 "StepRewriterModel" "code" "[I", Cond.methodLink RX12 120 yX12_size, Cond.static yX12_size, Cond.code yX12_size cX12_size 1 (some .int), Cond.methodLink RX12 161 yX12_isJump, Cond.static yX12_isJump, Cond.code yX12_isJump cX12_isJump 1 (some .boolean), Cond.methodLink RX12 204 yX12_leads, Cond.instanceMethod yX12_leads, Cond.selects RX12 yX12_leads yX12_leads, Cond.code yX12_leads cX12_leads 4 (some .int)]
def wsX12_countBlocks_r2 : List Cond := [Cond.methodLink RX12 165 yX12_target, Cond.static yX12_target, Cond.code yX12_target cX12_target 4 (some .int), Cond.methodLink RX12 131 yX12_signedTwo, Cond.static yX12_signedTwo, Cond.code yX12_signedTwo cX12_signedTwo 1 (some .int), Cond.constant RX12 130 (65536), Cond.methodLink RX12 134 yX12_signed, Cond.static yX12_signed, Cond.code yX12_signed cX12_signed 1 (some .int)]
def wsX12_countBlocks : List Cond := .code yX12_countBlocks cX12_countBlocks 4 (some .int) :: ((wsX12_countBlocks_r1 ++ wsX12_countBlocks_r2) ++ wsX120)
def wsX12_block_r1 : List Cond := [Cond.fieldLink RX12 191 "StepRewriterModel" "hasFile" "Z", Cond.fieldLink RX12 188 "StepRewriterModel" "methods" "I", Cond.fieldLink RX12 39 "StepRewriterModel" "blocks" "[Z", Cond.methodLink RX12 211 yX12_countBlocks, Cond.instanceMethod yX12_countBlocks, Cond.selects RX12 yX12_countBlocks yX12_countBlocks, Cond.initialized RX12, Cond.code yX12_countBlocks cX12_countBlocks 4 (some .int), Cond.fieldLink RX12 23 "StepRewriterModel" "sizes" "[I", Cond.methodLink RX12 207 yX12_mark, Cond.instanceMethod yX12_mark, Cond.selects RX12 yX12_mark yX12_mark, Cond.code yX12_mark cX12_mark 5 none, Cond.fieldLink RX12 26 "StepRewriterModel" "handlers" "[I", Cond.fieldLink RX12 29 "StepRewriterModel" "rows" "[I", Cond.methodLink RX12 201 yX12_kindAt, Cond.instanceMethod yX12_kindAt, Cond.selects RX12 yX12_kindAt yX12_kindAt, Cond.code yX12_kindAt cX12_kindAt 3 (some .int), Cond.fieldLink RX12 32 "StepRewriterModel" "code" "[I", Cond.methodLink RX12 120 yX12_size, Cond.static yX12_size, Cond.code yX12_size cX12_size 1 (some .int), Cond.methodLink RX12 161 yX12_isJump]
def wsX12_block_r2 : List Cond := [Cond.static yX12_isJump, Cond.code yX12_isJump cX12_isJump 1 (some .boolean), Cond.methodLink RX12 204 yX12_leads, Cond.instanceMethod yX12_leads, Cond.selects RX12 yX12_leads yX12_leads, Cond.code yX12_leads cX12_leads 4 (some .int), Cond.methodLink RX12 165 yX12_target, Cond.static yX12_target, Cond.code yX12_target cX12_target 4 (some .int), Cond.methodLink RX12 131 yX12_signedTwo, Cond.static yX12_signedTwo, Cond.code yX12_signedTwo cX12_signedTwo 1 (some .int), Cond.constant RX12 130 (65536), Cond.methodLink RX12 134 yX12_signed, Cond.static yX12_signed, Cond.code yX12_signed cX12_signed 1 (some .int), Cond.methodLink RX12 214 yX12_sum, Cond.instanceMethod yX12_sum, Cond.selects RX12 yX12_sum yX12_sum, Cond.code yX12_sum cX12_sum 5 (some .int), Cond.fieldLink RX12 93 "StepRewriterModel" "prices" "[I"]
def wsX12_block : List Cond := .code yX12_block cX12_block 6 (some .int) :: ((wsX12_block_r1 ++ wsX12_block_r2) ++ wsX120)
def wsX12_fits : List Cond := .code yX12_fits cX12_fits 1 (some .boolean) :: ([])
def wsX12_paidAt : List Cond := .code yX12_paidAt cX12_paidAt 4 (some .int) :: ([.fieldLink RX12 39 "StepRewriterModel" "blocks" "[Z", .methodLink RX12 214 yX12_sum, .instanceMethod yX12_sum, .selects RX12 yX12_sum yX12_sum, .initialized RX12, .code yX12_sum cX12_sum 5 (some .int), .fieldLink RX12 93 "StepRewriterModel" "prices" "[I", .fieldLink RX12 23 "StepRewriterModel" "sizes" "[I", .methodLink RX12 201 yX12_kindAt, .instanceMethod yX12_kindAt, .selects RX12 yX12_kindAt yX12_kindAt, .code yX12_kindAt cX12_kindAt 3 (some .int), .fieldLink RX12 32 "StepRewriterModel" "code" "[I", .methodLink RX12 120 yX12_size, .static yX12_size, .code yX12_size cX12_size 1 (some .int)] ++ wsX120)
def wsX12_lay_r1 : List Cond := [Cond.fieldLink RX12 23 "StepRewriterModel" "sizes" "[I", Cond.fieldLink RX12 87 "StepRewriterModel" "far" "[Z", Cond.fieldLink RX12 81 "StepRewriterModel" "starts" "[I", Cond.fieldLink RX12 84 "StepRewriterModel" "places" "[I", Cond.methodLink RX12 207 yX12_mark, Cond.instanceMethod yX12_mark, Cond.selects RX12 yX12_mark yX12_mark, Cond.initialized RX12, Cond.code yX12_mark cX12_mark 5 none, Cond.fieldLink RX12 39 "StepRewriterModel" "blocks" "[Z", Cond.fieldLink RX12 26 "StepRewriterModel" "handlers" "[I", Cond.fieldLink RX12 29 "StepRewriterModel" "rows" "[I", Cond.methodLink RX12 201 yX12_kindAt, Cond.instanceMethod yX12_kindAt, Cond.selects RX12 yX12_kindAt yX12_kindAt, Cond.code yX12_kindAt cX12_kindAt 3 (some .int), Cond.fieldLink RX12 32 "StepRewriterModel" "code" "[I", Cond.methodLink RX12 120 yX12_size, Cond.static yX12_size, Cond.code yX12_size cX12_size 1 (some .int), Cond.methodLink RX12 161 yX12_isJump, Cond.static yX12_isJump, Cond.code yX12_isJump cX12_isJump 1 (some .boolean), Cond.methodLink RX12 204 yX12_leads]
def wsX12_lay_r2 : List Cond := [Cond.instanceMethod yX12_leads, Cond.selects RX12 yX12_leads yX12_leads, Cond.code yX12_leads cX12_leads 4 (some .int), Cond.methodLink RX12 165 yX12_target, Cond.static yX12_target, Cond.code yX12_target cX12_target 4 (some .int), Cond.methodLink RX12 131 yX12_signedTwo, Cond.static yX12_signedTwo, Cond.code yX12_signedTwo cX12_signedTwo 1 (some .int), Cond.constant RX12 130 (65536), Cond.methodLink RX12 134 yX12_signed, Cond.static yX12_signed, Cond.code yX12_signed cX12_signed 1 (some .int), Cond.methodLink RX12 217 yX12_paidAt, Cond.instanceMethod yX12_paidAt, Cond.selects RX12 yX12_paidAt yX12_paidAt, Cond.code yX12_paidAt cX12_paidAt 4 (some .int), Cond.methodLink RX12 214 yX12_sum, Cond.instanceMethod yX12_sum, Cond.selects RX12 yX12_sum yX12_sum, Cond.code yX12_sum cX12_sum 5 (some .int), Cond.fieldLink RX12 93 "StepRewriterModel" "prices" "[I", Cond.methodLink RX12 221 yX12_fits, Cond.static yX12_fits]
def wsX12_lay_r3 : List Cond := [Cond.code yX12_fits cX12_fits 1 (some .boolean)]
def wsX12_lay : List Cond := .code yX12_lay cX12_lay 7 (some .int) :: ((wsX12_lay_r1 ++ (wsX12_lay_r2 ++ wsX12_lay_r3)) ++ wsX120)
def wsX12_putJump : List Cond := .code yX12_putJump cX12_putJump 8 none :: ([.fieldLink RX12 81 "StepRewriterModel" "starts" "[I", .fieldLink RX12 87 "StepRewriterModel" "far" "[Z", .fieldLink RX12 90 "StepRewriterModel" "laid" "[I", .fieldLink RX12 224 "StepRewriterModel" "laidLongs" "I", .methodLink RX12 201 yX12_kindAt, .instanceMethod yX12_kindAt, .selects RX12 yX12_kindAt yX12_kindAt, .initialized RX12, .code yX12_kindAt cX12_kindAt 3 (some .int), .fieldLink RX12 32 "StepRewriterModel" "code" "[I", .methodLink RX12 204 yX12_leads, .instanceMethod yX12_leads, .selects RX12 yX12_leads yX12_leads, .code yX12_leads cX12_leads 4 (some .int), .methodLink RX12 165 yX12_target, .static yX12_target, .code yX12_target cX12_target 4 (some .int), .methodLink RX12 131 yX12_signedTwo, .static yX12_signedTwo, .code yX12_signedTwo cX12_signedTwo 1 (some .int), .constant RX12 130 (65536), .methodLink RX12 134 yX12_signed, .static yX12_signed, .code yX12_signed cX12_signed 1 (some .int)] ++ wsX120)
def wsX12_put_r1 : List Cond := [Cond.fieldLink RX12 224 "StepRewriterModel" "laidLongs" "I", Cond.fieldLink RX12 23 "StepRewriterModel" "sizes" "[I", Cond.fieldLink RX12 81 "StepRewriterModel" "starts" "[I", Cond.fieldLink RX12 90 "StepRewriterModel" "laid" "[I", Cond.fieldLink RX12 84 "StepRewriterModel" "places" "[I", Cond.fieldLink RX12 32 "StepRewriterModel" "code" "[I", Cond.methodLink RX12 201 yX12_kindAt, Cond.instanceMethod yX12_kindAt, Cond.selects RX12 yX12_kindAt yX12_kindAt, Cond.initialized RX12, Cond.code yX12_kindAt cX12_kindAt 3 (some .int), Cond.methodLink RX12 217 yX12_paidAt, Cond.instanceMethod yX12_paidAt, Cond.selects RX12 yX12_paidAt yX12_paidAt, Cond.code yX12_paidAt cX12_paidAt 4 (some .int), Cond.fieldLink RX12 39 "StepRewriterModel" "blocks" "[Z", Cond.methodLink RX12 214 yX12_sum, Cond.instanceMethod yX12_sum, Cond.selects RX12 yX12_sum yX12_sum, Cond.code yX12_sum cX12_sum 5 (some .int), Cond.fieldLink RX12 93 "StepRewriterModel" "prices" "[I", Cond.methodLink RX12 120 yX12_size, Cond.static yX12_size, Cond.code yX12_size cX12_size 1 (some .int)]
def wsX12_put_r2 : List Cond := [Cond.methodLink RX12 161 yX12_isJump, Cond.static yX12_isJump, Cond.code yX12_isJump cX12_isJump 1 (some .boolean), Cond.methodLink RX12 227 yX12_putJump, Cond.instanceMethod yX12_putJump, Cond.selects RX12 yX12_putJump yX12_putJump, Cond.code yX12_putJump cX12_putJump 8 none, Cond.fieldLink RX12 87 "StepRewriterModel" "far" "[Z", Cond.methodLink RX12 204 yX12_leads, Cond.instanceMethod yX12_leads, Cond.selects RX12 yX12_leads yX12_leads, Cond.code yX12_leads cX12_leads 4 (some .int), Cond.methodLink RX12 165 yX12_target, Cond.static yX12_target, Cond.code yX12_target cX12_target 4 (some .int), Cond.methodLink RX12 131 yX12_signedTwo, Cond.static yX12_signedTwo, Cond.code yX12_signedTwo cX12_signedTwo 1 (some .int), Cond.constant RX12 130 (65536), Cond.methodLink RX12 134 yX12_signed, Cond.static yX12_signed, Cond.code yX12_signed cX12_signed 1 (some .int)]
def wsX12_put : List Cond := .code yX12_put cX12_put 8 none :: ((wsX12_put_r1 ++ wsX12_put_r2) ++ wsX120)
def wsX12_rewrite_r1 : List Cond := [Cond.fieldLink RX12 191 "StepRewriterModel" "hasFile" "Z", Cond.fieldLink RX12 195 "StepRewriterModel" "isRewritten" "Z", Cond.fieldLink RX12 188 "StepRewriterModel" "methods" "I", Cond.fieldLink RX12 78 "StepRewriterModel" "longs" "[I", Cond.fieldLink RX12 224 "StepRewriterModel" "laidLongs" "I", Cond.fieldLink RX12 72 "StepRewriterModel" "writtenSizes" "[I", Cond.fieldLink RX12 69 "StepRewriterModel" "written" "[I", Cond.fieldLink RX12 90 "StepRewriterModel" "laid" "[I", Cond.fieldLink RX12 26 "StepRewriterModel" "handlers" "[I", Cond.fieldLink RX12 75 "StepRewriterModel" "writtenRows" "[I", Cond.fieldLink RX12 81 "StepRewriterModel" "starts" "[I", Cond.fieldLink RX12 29 "StepRewriterModel" "rows" "[I", Cond.methodLink RX12 231 yX12_lay, Cond.instanceMethod yX12_lay, Cond.selects RX12 yX12_lay yX12_lay, Cond.initialized RX12, Cond.code yX12_lay cX12_lay 7 (some .int), Cond.fieldLink RX12 23 "StepRewriterModel" "sizes" "[I", Cond.fieldLink RX12 87 "StepRewriterModel" "far" "[Z", Cond.fieldLink RX12 84 "StepRewriterModel" "places" "[I", Cond.methodLink RX12 207 yX12_mark, Cond.instanceMethod yX12_mark, Cond.selects RX12 yX12_mark yX12_mark, Cond.code yX12_mark cX12_mark 5 none]
def wsX12_rewrite_r2 : List Cond := [Cond.fieldLink RX12 39 "StepRewriterModel" "blocks" "[Z", Cond.methodLink RX12 201 yX12_kindAt, Cond.instanceMethod yX12_kindAt, Cond.selects RX12 yX12_kindAt yX12_kindAt, Cond.code yX12_kindAt cX12_kindAt 3 (some .int), Cond.fieldLink RX12 32 "StepRewriterModel" "code" "[I", Cond.methodLink RX12 120 yX12_size, Cond.static yX12_size, Cond.code yX12_size cX12_size 1 (some .int), Cond.methodLink RX12 161 yX12_isJump, Cond.static yX12_isJump, Cond.code yX12_isJump cX12_isJump 1 (some .boolean), Cond.methodLink RX12 204 yX12_leads, Cond.instanceMethod yX12_leads, Cond.selects RX12 yX12_leads yX12_leads, Cond.code yX12_leads cX12_leads 4 (some .int), Cond.methodLink RX12 165 yX12_target, Cond.static yX12_target, Cond.code yX12_target cX12_target 4 (some .int), Cond.methodLink RX12 131 yX12_signedTwo, Cond.static yX12_signedTwo, Cond.code yX12_signedTwo cX12_signedTwo 1 (some .int), Cond.constant RX12 130 (65536), Cond.methodLink RX12 134 yX12_signed]
def wsX12_rewrite_r3 : List Cond := [Cond.static yX12_signed, Cond.code yX12_signed cX12_signed 1 (some .int), Cond.methodLink RX12 217 yX12_paidAt, Cond.instanceMethod yX12_paidAt, Cond.selects RX12 yX12_paidAt yX12_paidAt, Cond.code yX12_paidAt cX12_paidAt 4 (some .int), Cond.methodLink RX12 214 yX12_sum, Cond.instanceMethod yX12_sum, Cond.selects RX12 yX12_sum yX12_sum, Cond.code yX12_sum cX12_sum 5 (some .int), Cond.fieldLink RX12 93 "StepRewriterModel" "prices" "[I", Cond.methodLink RX12 221 yX12_fits, Cond.static yX12_fits, Cond.code yX12_fits cX12_fits 1 (some .boolean), Cond.methodLink RX12 235 yX12_put, Cond.instanceMethod yX12_put, Cond.selects RX12 yX12_put yX12_put, Cond.code yX12_put cX12_put 8 none, Cond.methodLink RX12 227 yX12_putJump, Cond.instanceMethod yX12_putJump, Cond.selects RX12 yX12_putJump yX12_putJump, Cond.code yX12_putJump cX12_putJump 8 none]
def wsX12_rewrite : List Cond := .code yX12_rewrite cX12_rewrite 7 (some .int) :: ((wsX12_rewrite_r1 ++ (wsX12_rewrite_r2 ++ wsX12_rewrite_r3)) ++ wsX120)
def wsX12_deepest_r1 : List Cond := [Cond.fieldLink RX12 48 "StepRewriterModel" "nextParameters" "[I", Cond.fieldLink RX12 17 "StepRewriterModel" "parameters" "[I", Cond.fieldLink RX12 51 "StepRewriterModel" "nextLocals" "[I", Cond.fieldLink RX12 20 "StepRewriterModel" "locals" "[I", Cond.fieldLink RX12 54 "StepRewriterModel" "nextSizes" "[I", Cond.fieldLink RX12 23 "StepRewriterModel" "sizes" "[I", Cond.fieldLink RX12 60 "StepRewriterModel" "nextHandlers" "[I", Cond.fieldLink RX12 26 "StepRewriterModel" "handlers" "[I", Cond.fieldLink RX12 63 "StepRewriterModel" "nextRows" "[I", Cond.fieldLink RX12 29 "StepRewriterModel" "rows" "[I", Cond.fieldLink RX12 66 "StepRewriterModel" "nextCode" "[I", Cond.fieldLink RX12 32 "StepRewriterModel" "code" "[I", Cond.fieldLink RX12 42 "StepRewriterModel" "depths" "[I", Cond.methodLink RX12 148 yX12_stacks, Cond.instanceMethod yX12_stacks, Cond.selects RX12 yX12_stacks yX12_stacks, Cond.initialized RX12, Cond.code yX12_stacks cX12_stacks 6 (some .int), Cond.fieldLink RX12 45 "StepRewriterModel" "gone" "[Z", Cond.fieldLink RX12 57 "StepRewriterModel" "nextBases" "[I", Cond.methodLink RX12 141 yX12_wrong, Cond.instanceMethod yX12_wrong, Cond.selects RX12 yX12_wrong yX12_wrong, Cond.code yX12_wrong cX12_wrong 2 (some .int)]
def wsX12_deepest_r2 : List Cond := [Cond.fieldLink RX12 124 "StepRewriterModel" "taped" "I", Cond.methodLink RX12 172 yX12_goesOn, Cond.instanceMethod yX12_goesOn, Cond.selects RX12 yX12_goesOn yX12_goesOn, Cond.code yX12_goesOn cX12_goesOn 10 (some .int), Cond.methodLink RX12 175 yX12_takes, Cond.instanceMethod yX12_takes, Cond.selects RX12 yX12_takes yX12_takes, Cond.code yX12_takes cX12_takes 3 (some .int), Cond.methodLink RX12 178 yX12_gives, Cond.static yX12_gives, Cond.code yX12_gives cX12_gives 1 (some .int), Cond.methodLink RX12 161 yX12_isJump, Cond.static yX12_isJump, Cond.code yX12_isJump cX12_isJump 1 (some .boolean), Cond.methodLink RX12 120 yX12_size, Cond.static yX12_size, Cond.code yX12_size cX12_size 1 (some .int), Cond.methodLink RX12 181 yX12_comes, Cond.instanceMethod yX12_comes, Cond.selects RX12 yX12_comes yX12_comes, Cond.code yX12_comes cX12_comes 5 (some .boolean), Cond.methodLink RX12 165 yX12_target, Cond.static yX12_target]
def wsX12_deepest_r3 : List Cond := [Cond.code yX12_target cX12_target 4 (some .int), Cond.methodLink RX12 131 yX12_signedTwo, Cond.static yX12_signedTwo, Cond.code yX12_signedTwo cX12_signedTwo 1 (some .int), Cond.constant RX12 130 (65536), Cond.methodLink RX12 134 yX12_signed, Cond.static yX12_signed, Cond.code yX12_signed cX12_signed 1 (some .int)]
def wsX12_deepest : List Cond := .code yX12_deepest cX12_deepest 4 (some .int) :: ((wsX12_deepest_r1 ++ (wsX12_deepest_r2 ++ wsX12_deepest_r3)) ++ wsX120)
def wsX12_longJumps : List Cond := .code yX12_longJumps cX12_longJumps 7 (some .int) :: ([.fieldLink RX12 72 "StepRewriterModel" "writtenSizes" "[I", .fieldLink RX12 23 "StepRewriterModel" "sizes" "[I", .fieldLink RX12 69 "StepRewriterModel" "written" "[I", .methodLink RX12 201 yX12_kindAt, .instanceMethod yX12_kindAt, .selects RX12 yX12_kindAt yX12_kindAt, .initialized RX12, .code yX12_kindAt cX12_kindAt 3 (some .int), .fieldLink RX12 32 "StepRewriterModel" "code" "[I", .methodLink RX12 120 yX12_size, .static yX12_size, .code yX12_size cX12_size 1 (some .int)] ++ wsX120)
def wsX12_told_r1 : List Cond := [Cond.fieldLink RX12 195 "StepRewriterModel" "isRewritten" "Z", Cond.fieldLink RX12 191 "StepRewriterModel" "hasFile" "Z", Cond.fieldLink RX12 188 "StepRewriterModel" "methods" "I", Cond.fieldLink RX12 72 "StepRewriterModel" "writtenSizes" "[I", Cond.fieldLink RX12 23 "StepRewriterModel" "sizes" "[I", Cond.fieldLink RX12 26 "StepRewriterModel" "handlers" "[I", Cond.fieldLink RX12 78 "StepRewriterModel" "longs" "[I", Cond.methodLink RX12 211 yX12_countBlocks, Cond.instanceMethod yX12_countBlocks, Cond.selects RX12 yX12_countBlocks yX12_countBlocks, Cond.initialized RX12, Cond.code yX12_countBlocks cX12_countBlocks 4 (some .int), Cond.fieldLink RX12 39 "StepRewriterModel" "blocks" "[Z", Cond.methodLink RX12 207 yX12_mark, Cond.instanceMethod yX12_mark, Cond.selects RX12 yX12_mark yX12_mark, Cond.code yX12_mark cX12_mark 5 none, Cond.fieldLink RX12 29 "StepRewriterModel" "rows" "[I", Cond.methodLink RX12 201 yX12_kindAt, Cond.instanceMethod yX12_kindAt, Cond.selects RX12 yX12_kindAt yX12_kindAt, Cond.code yX12_kindAt cX12_kindAt 3 (some .int), Cond.fieldLink RX12 32 "StepRewriterModel" "code" "[I", Cond.methodLink RX12 120 yX12_size]
def wsX12_told_r2 : List Cond := [Cond.static yX12_size, Cond.code yX12_size cX12_size 1 (some .int), Cond.methodLink RX12 161 yX12_isJump, Cond.static yX12_isJump, Cond.code yX12_isJump cX12_isJump 1 (some .boolean), Cond.methodLink RX12 204 yX12_leads, Cond.instanceMethod yX12_leads, Cond.selects RX12 yX12_leads yX12_leads, Cond.code yX12_leads cX12_leads 4 (some .int), Cond.methodLink RX12 165 yX12_target, Cond.static yX12_target, Cond.code yX12_target cX12_target 4 (some .int), Cond.methodLink RX12 131 yX12_signedTwo, Cond.static yX12_signedTwo, Cond.code yX12_signedTwo cX12_signedTwo 1 (some .int), Cond.constant RX12 130 (65536), Cond.methodLink RX12 134 yX12_signed, Cond.static yX12_signed, Cond.code yX12_signed cX12_signed 1 (some .int), Cond.methodLink RX12 239 yX12_longJumps, Cond.instanceMethod yX12_longJumps, Cond.selects RX12 yX12_longJumps yX12_longJumps, Cond.code yX12_longJumps cX12_longJumps 7 (some .int), Cond.fieldLink RX12 69 "StepRewriterModel" "written" "[I"]
def wsX12_told_r3 : List Cond := [Cond.methodLink RX12 242 yX12_deepest, Cond.instanceMethod yX12_deepest, Cond.selects RX12 yX12_deepest yX12_deepest, Cond.code yX12_deepest cX12_deepest 4 (some .int), Cond.fieldLink RX12 48 "StepRewriterModel" "nextParameters" "[I", Cond.fieldLink RX12 17 "StepRewriterModel" "parameters" "[I", Cond.fieldLink RX12 51 "StepRewriterModel" "nextLocals" "[I", Cond.fieldLink RX12 20 "StepRewriterModel" "locals" "[I", Cond.fieldLink RX12 54 "StepRewriterModel" "nextSizes" "[I", Cond.fieldLink RX12 60 "StepRewriterModel" "nextHandlers" "[I", Cond.fieldLink RX12 63 "StepRewriterModel" "nextRows" "[I", Cond.fieldLink RX12 66 "StepRewriterModel" "nextCode" "[I", Cond.fieldLink RX12 42 "StepRewriterModel" "depths" "[I", Cond.methodLink RX12 148 yX12_stacks, Cond.instanceMethod yX12_stacks, Cond.selects RX12 yX12_stacks yX12_stacks, Cond.code yX12_stacks cX12_stacks 6 (some .int), Cond.fieldLink RX12 45 "StepRewriterModel" "gone" "[Z", Cond.fieldLink RX12 57 "StepRewriterModel" "nextBases" "[I", Cond.methodLink RX12 141 yX12_wrong, Cond.instanceMethod yX12_wrong, Cond.selects RX12 yX12_wrong yX12_wrong, Cond.code yX12_wrong cX12_wrong 2 (some .int), Cond.fieldLink RX12 124 "StepRewriterModel" "taped" "I"]
def wsX12_told_r4 : List Cond := [Cond.methodLink RX12 172 yX12_goesOn, Cond.instanceMethod yX12_goesOn, Cond.selects RX12 yX12_goesOn yX12_goesOn, Cond.code yX12_goesOn cX12_goesOn 10 (some .int), Cond.methodLink RX12 175 yX12_takes, Cond.instanceMethod yX12_takes, Cond.selects RX12 yX12_takes yX12_takes, Cond.code yX12_takes cX12_takes 3 (some .int), Cond.methodLink RX12 178 yX12_gives, Cond.static yX12_gives, Cond.code yX12_gives cX12_gives 1 (some .int), Cond.methodLink RX12 181 yX12_comes, Cond.instanceMethod yX12_comes, Cond.selects RX12 yX12_comes yX12_comes, Cond.code yX12_comes cX12_comes 5 (some .boolean)]
def wsX12_told : List Cond := .code yX12_told cX12_told 4 (some .int) :: ((wsX12_told_r1 ++ (wsX12_told_r2 ++ (wsX12_told_r3 ++ wsX12_told_r4))) ++ wsX120)
def wsX12_byteAt : List Cond := .code yX12_byteAt cX12_byteAt 4 (some .int) :: ([.fieldLink RX12 195 "StepRewriterModel" "isRewritten" "Z", .fieldLink RX12 191 "StepRewriterModel" "hasFile" "Z", .fieldLink RX12 188 "StepRewriterModel" "methods" "I", .fieldLink RX12 72 "StepRewriterModel" "writtenSizes" "[I", .fieldLink RX12 23 "StepRewriterModel" "sizes" "[I", .fieldLink RX12 69 "StepRewriterModel" "written" "[I", .methodLink RX12 201 yX12_kindAt, .instanceMethod yX12_kindAt, .selects RX12 yX12_kindAt yX12_kindAt, .initialized RX12, .code yX12_kindAt cX12_kindAt 3 (some .int), .fieldLink RX12 32 "StepRewriterModel" "code" "[I"] ++ wsX120)
def wsX12_handler : List Cond := .code yX12_handler cX12_handler 6 (some .int) :: ([.fieldLink RX12 195 "StepRewriterModel" "isRewritten" "Z", .fieldLink RX12 191 "StepRewriterModel" "hasFile" "Z", .fieldLink RX12 188 "StepRewriterModel" "methods" "I", .fieldLink RX12 26 "StepRewriterModel" "handlers" "[I", .fieldLink RX12 75 "StepRewriterModel" "writtenRows" "[I", .fieldLink RX12 29 "StepRewriterModel" "rows" "[I"] ++ wsX120)
def wsX12_unwrite_r1 : List Cond := [Cond.fieldLink RX12 195 "StepRewriterModel" "isRewritten" "Z", Cond.fieldLink RX12 188 "StepRewriterModel" "methods" "I", Cond.fieldLink RX12 26 "StepRewriterModel" "handlers" "[I", Cond.fieldLink RX12 29 "StepRewriterModel" "rows" "[I", Cond.fieldLink RX12 81 "StepRewriterModel" "starts" "[I", Cond.fieldLink RX12 32 "StepRewriterModel" "code" "[I", Cond.fieldLink RX12 90 "StepRewriterModel" "laid" "[I", Cond.fieldLink RX12 23 "StepRewriterModel" "sizes" "[I", Cond.methodLink RX12 231 yX12_lay, Cond.instanceMethod yX12_lay, Cond.selects RX12 yX12_lay yX12_lay, Cond.initialized RX12, Cond.code yX12_lay cX12_lay 7 (some .int), Cond.fieldLink RX12 87 "StepRewriterModel" "far" "[Z", Cond.fieldLink RX12 84 "StepRewriterModel" "places" "[I", Cond.methodLink RX12 207 yX12_mark, Cond.instanceMethod yX12_mark, Cond.selects RX12 yX12_mark yX12_mark, Cond.code yX12_mark cX12_mark 5 none, Cond.fieldLink RX12 39 "StepRewriterModel" "blocks" "[Z", Cond.methodLink RX12 201 yX12_kindAt, Cond.instanceMethod yX12_kindAt, Cond.selects RX12 yX12_kindAt yX12_kindAt, Cond.code yX12_kindAt cX12_kindAt 3 (some .int)]
def wsX12_unwrite_r2 : List Cond := [Cond.methodLink RX12 120 yX12_size, Cond.static yX12_size, Cond.code yX12_size cX12_size 1 (some .int), Cond.methodLink RX12 161 yX12_isJump, Cond.static yX12_isJump, Cond.code yX12_isJump cX12_isJump 1 (some .boolean), Cond.methodLink RX12 204 yX12_leads, Cond.instanceMethod yX12_leads, Cond.selects RX12 yX12_leads yX12_leads, Cond.code yX12_leads cX12_leads 4 (some .int), Cond.methodLink RX12 165 yX12_target, Cond.static yX12_target, Cond.code yX12_target cX12_target 4 (some .int), Cond.methodLink RX12 131 yX12_signedTwo, Cond.static yX12_signedTwo, Cond.code yX12_signedTwo cX12_signedTwo 1 (some .int), Cond.constant RX12 130 (65536), Cond.methodLink RX12 134 yX12_signed, Cond.static yX12_signed, Cond.code yX12_signed cX12_signed 1 (some .int), Cond.methodLink RX12 217 yX12_paidAt, Cond.instanceMethod yX12_paidAt, Cond.selects RX12 yX12_paidAt yX12_paidAt, Cond.code yX12_paidAt cX12_paidAt 4 (some .int)]
def wsX12_unwrite_r3 : List Cond := [Cond.methodLink RX12 214 yX12_sum, Cond.instanceMethod yX12_sum, Cond.selects RX12 yX12_sum yX12_sum, Cond.code yX12_sum cX12_sum 5 (some .int), Cond.fieldLink RX12 93 "StepRewriterModel" "prices" "[I", Cond.methodLink RX12 221 yX12_fits, Cond.static yX12_fits, Cond.code yX12_fits cX12_fits 1 (some .boolean), Cond.methodLink RX12 235 yX12_put, Cond.instanceMethod yX12_put, Cond.selects RX12 yX12_put yX12_put, Cond.code yX12_put cX12_put 8 none, Cond.fieldLink RX12 224 "StepRewriterModel" "laidLongs" "I", Cond.methodLink RX12 227 yX12_putJump, Cond.instanceMethod yX12_putJump, Cond.selects RX12 yX12_putJump yX12_putJump, Cond.code yX12_putJump cX12_putJump 8 none]
def wsX12_unwrite : List Cond := .code yX12_unwrite cX12_unwrite 7 (some .int) :: ((wsX12_unwrite_r1 ++ (wsX12_unwrite_r2 ++ wsX12_unwrite_r3)) ++ wsX120)
def wsX12_pays : List Cond := .code yX12_pays cX12_pays 2 (some .boolean) :: ([.fieldLink RX12 245 "StepRewriterModel" "left" "I", .fieldLink RX12 248 "StepRewriterModel" "isStopped" "Z", .fieldLink RX12 251 "StepRewriterModel" "counted" "I"] ++ wsX120)
def wsX12_enter : List Cond := .code yX12_enter cX12_enter 3 none :: ([.fieldLink RX12 102 "StepRewriterModel" "frameMethod" "[I", .fieldLink RX12 254 "StepRewriterModel" "deep" "I", .fieldLink RX12 105 "StepRewriterModel" "framePlace" "[I", .fieldLink RX12 108 "StepRewriterModel" "frameDepth" "[I", .fieldLink RX12 114 "StepRewriterModel" "local" "[I"] ++ wsX120)
def wsX12_codeAt : List Cond := .code yX12_codeAt cX12_codeAt 2 (some .int) :: ([.fieldLink RX12 69 "StepRewriterModel" "written" "[I", .fieldLink RX12 102 "StepRewriterModel" "frameMethod" "[I", .fieldLink RX12 254 "StepRewriterModel" "deep" "I", .fieldLink RX12 105 "StepRewriterModel" "framePlace" "[I"] ++ wsX120)
def wsX12_top : List Cond := .code yX12_top cX12_top 1 (some .int) :: ([.fieldLink RX12 111 "StepRewriterModel" "stacked" "[I", .fieldLink RX12 254 "StepRewriterModel" "deep" "I", .fieldLink RX12 108 "StepRewriterModel" "frameDepth" "[I"] ++ wsX120)
def wsX12_pop : List Cond := .code yX12_pop cX12_pop 2 (some .int) :: ([.fieldLink RX12 254 "StepRewriterModel" "deep" "I", .fieldLink RX12 108 "StepRewriterModel" "frameDepth" "[I", .fieldLink RX12 111 "StepRewriterModel" "stacked" "[I"] ++ wsX120)
def wsX12_push : List Cond := .code yX12_push cX12_push 3 none :: ([.fieldLink RX12 254 "StepRewriterModel" "deep" "I", .fieldLink RX12 111 "StepRewriterModel" "stacked" "[I", .fieldLink RX12 108 "StepRewriterModel" "frameDepth" "[I"] ++ wsX120)
def wsX12_ends : List Cond := .code yX12_ends cX12_ends 2 none :: ([.fieldLink RX12 254 "StepRewriterModel" "deep" "I", .fieldLink RX12 258 "StepRewriterModel" "answer" "I", .fieldLink RX12 105 "StepRewriterModel" "framePlace" "[I", .methodLink RX12 300 yX12_pop, .instanceMethod yX12_pop, .selects RX12 yX12_pop yX12_pop, .initialized RX12, .code yX12_pop cX12_pop 2 (some .int), .fieldLink RX12 108 "StepRewriterModel" "frameDepth" "[I", .fieldLink RX12 111 "StepRewriterModel" "stacked" "[I", .methodLink RX12 303 yX12_push, .instanceMethod yX12_push, .selects RX12 yX12_push yX12_push, .code yX12_push cX12_push 3 none] ++ wsX120)
def wsX12_calls : List Cond := .code yX12_calls cX12_calls 4 none :: ([.fieldLink RX12 254 "StepRewriterModel" "deep" "I", .fieldLink RX12 248 "StepRewriterModel" "isStopped" "Z", .fieldLink RX12 108 "StepRewriterModel" "frameDepth" "[I", .fieldLink RX12 17 "StepRewriterModel" "parameters" "[I", .fieldLink RX12 114 "StepRewriterModel" "local" "[I", .fieldLink RX12 111 "StepRewriterModel" "stacked" "[I", .methodLink RX12 276 yX12_codeAt, .instanceMethod yX12_codeAt, .selects RX12 yX12_codeAt yX12_codeAt, .initialized RX12, .code yX12_codeAt cX12_codeAt 2 (some .int), .fieldLink RX12 69 "StepRewriterModel" "written" "[I", .fieldLink RX12 102 "StepRewriterModel" "frameMethod" "[I", .fieldLink RX12 105 "StepRewriterModel" "framePlace" "[I", .methodLink RX12 264 yX12_enter, .instanceMethod yX12_enter, .selects RX12 yX12_enter yX12_enter, .code yX12_enter cX12_enter 3 none] ++ wsX120)
def wsX12_jumps_r1 : List Cond := [Cond.fieldLink RX12 105 "StepRewriterModel" "framePlace" "[I", Cond.fieldLink RX12 254 "StepRewriterModel" "deep" "I", Cond.methodLink RX12 300 yX12_pop, Cond.instanceMethod yX12_pop, Cond.selects RX12 yX12_pop yX12_pop, Cond.initialized RX12, Cond.code yX12_pop cX12_pop 2 (some .int), Cond.fieldLink RX12 108 "StepRewriterModel" "frameDepth" "[I", Cond.fieldLink RX12 111 "StepRewriterModel" "stacked" "[I", Cond.methodLink RX12 276 yX12_codeAt, Cond.instanceMethod yX12_codeAt, Cond.selects RX12 yX12_codeAt yX12_codeAt, Cond.code yX12_codeAt cX12_codeAt 2 (some .int), Cond.fieldLink RX12 69 "StepRewriterModel" "written" "[I", Cond.fieldLink RX12 102 "StepRewriterModel" "frameMethod" "[I", Cond.methodLink RX12 165 yX12_target, Cond.static yX12_target, Cond.code yX12_target cX12_target 4 (some .int), Cond.methodLink RX12 131 yX12_signedTwo, Cond.static yX12_signedTwo, Cond.code yX12_signedTwo cX12_signedTwo 1 (some .int), Cond.constant RX12 130 (65536), Cond.methodLink RX12 134 yX12_signed, Cond.static yX12_signed]
def wsX12_jumps_r2 : List Cond := [Cond.code yX12_signed cX12_signed 1 (some .int), Cond.methodLink RX12 120 yX12_size, Cond.static yX12_size, Cond.code yX12_size cX12_size 1 (some .int)]
def wsX12_jumps : List Cond := .code yX12_jumps cX12_jumps 4 none :: ((wsX12_jumps_r1 ++ wsX12_jumps_r2) ++ wsX120)
def wsX12_ofArrays_r1 : List Cond := [Cond.fieldLink RX12 105 "StepRewriterModel" "framePlace" "[I", Cond.fieldLink RX12 254 "StepRewriterModel" "deep" "I", Cond.fieldLink RX12 267 "StepRewriterModel" "kindThrown" "I", Cond.fieldLink RX12 96 "StepRewriterModel" "sizesOf" "[I", Cond.fieldLink RX12 99 "StepRewriterModel" "arrays" "[I", Cond.methodLink RX12 276 yX12_codeAt, Cond.instanceMethod yX12_codeAt, Cond.selects RX12 yX12_codeAt yX12_codeAt, Cond.initialized RX12, Cond.code yX12_codeAt cX12_codeAt 2 (some .int), Cond.fieldLink RX12 69 "StepRewriterModel" "written" "[I", Cond.fieldLink RX12 102 "StepRewriterModel" "frameMethod" "[I", Cond.methodLink RX12 120 yX12_size, Cond.static yX12_size, Cond.code yX12_size cX12_size 1 (some .int), Cond.methodLink RX12 282 yX12_top, Cond.instanceMethod yX12_top, Cond.selects RX12 yX12_top yX12_top, Cond.code yX12_top cX12_top 1 (some .int), Cond.fieldLink RX12 111 "StepRewriterModel" "stacked" "[I", Cond.fieldLink RX12 108 "StepRewriterModel" "frameDepth" "[I", Cond.methodLink RX12 300 yX12_pop, Cond.instanceMethod yX12_pop, Cond.selects RX12 yX12_pop yX12_pop]
def wsX12_ofArrays_r2 : List Cond := [Cond.code yX12_pop cX12_pop 2 (some .int), Cond.methodLink RX12 303 yX12_push, Cond.instanceMethod yX12_push, Cond.selects RX12 yX12_push yX12_push, Cond.code yX12_push cX12_push 3 none]
def wsX12_ofArrays : List Cond := .code yX12_ofArrays cX12_ofArrays 6 none :: ((wsX12_ofArrays_r1 ++ wsX12_ofArrays_r2) ++ wsX120)
def wsX12_reckoned : List Cond := .code yX12_reckoned cX12_reckoned 3 (some .int) :: ([])
def wsX12_plain_r1 : List Cond := [Cond.fieldLink RX12 254 "StepRewriterModel" "deep" "I", Cond.fieldLink RX12 105 "StepRewriterModel" "framePlace" "[I", Cond.fieldLink RX12 114 "StepRewriterModel" "local" "[I", Cond.fieldLink RX12 267 "StepRewriterModel" "kindThrown" "I", Cond.methodLink RX12 120 yX12_size, Cond.static yX12_size, Cond.initialized RX12, Cond.code yX12_size cX12_size 1 (some .int), Cond.methodLink RX12 276 yX12_codeAt, Cond.instanceMethod yX12_codeAt, Cond.selects RX12 yX12_codeAt yX12_codeAt, Cond.code yX12_codeAt cX12_codeAt 2 (some .int), Cond.fieldLink RX12 69 "StepRewriterModel" "written" "[I", Cond.fieldLink RX12 102 "StepRewriterModel" "frameMethod" "[I", Cond.methodLink RX12 134 yX12_signed, Cond.static yX12_signed, Cond.code yX12_signed cX12_signed 1 (some .int), Cond.methodLink RX12 303 yX12_push, Cond.instanceMethod yX12_push, Cond.selects RX12 yX12_push yX12_push, Cond.code yX12_push cX12_push 3 none, Cond.fieldLink RX12 111 "StepRewriterModel" "stacked" "[I", Cond.fieldLink RX12 108 "StepRewriterModel" "frameDepth" "[I", Cond.methodLink RX12 131 yX12_signedTwo]
def wsX12_plain_r2 : List Cond := [Cond.static yX12_signedTwo, Cond.code yX12_signedTwo cX12_signedTwo 1 (some .int), Cond.constant RX12 130 (65536), Cond.methodLink RX12 300 yX12_pop, Cond.instanceMethod yX12_pop, Cond.selects RX12 yX12_pop yX12_pop, Cond.code yX12_pop cX12_pop 2 (some .int), Cond.methodLink RX12 282 yX12_top, Cond.instanceMethod yX12_top, Cond.selects RX12 yX12_top yX12_top, Cond.code yX12_top cX12_top 1 (some .int), Cond.methodLink RX12 306 yX12_reckoned, Cond.static yX12_reckoned, Cond.code yX12_reckoned cX12_reckoned 3 (some .int)]
def wsX12_plain : List Cond := .code yX12_plain cX12_plain 7 none :: ((wsX12_plain_r1 ++ wsX12_plain_r2) ++ wsX120)
def wsX12_step_r1 : List Cond := [Cond.fieldLink RX12 105 "StepRewriterModel" "framePlace" "[I", Cond.fieldLink RX12 254 "StepRewriterModel" "deep" "I", Cond.fieldLink RX12 261 "StepRewriterModel" "steps" "I", Cond.fieldLink RX12 248 "StepRewriterModel" "isStopped" "Z", Cond.methodLink RX12 276 yX12_codeAt, Cond.instanceMethod yX12_codeAt, Cond.selects RX12 yX12_codeAt yX12_codeAt, Cond.initialized RX12, Cond.code yX12_codeAt cX12_codeAt 2 (some .int), Cond.fieldLink RX12 69 "StepRewriterModel" "written" "[I", Cond.fieldLink RX12 102 "StepRewriterModel" "frameMethod" "[I", Cond.methodLink RX12 279 yX12_pays, Cond.instanceMethod yX12_pays, Cond.selects RX12 yX12_pays yX12_pays, Cond.code yX12_pays cX12_pays 2 (some .boolean), Cond.fieldLink RX12 245 "StepRewriterModel" "left" "I", Cond.fieldLink RX12 251 "StepRewriterModel" "counted" "I", Cond.methodLink RX12 282 yX12_top, Cond.instanceMethod yX12_top, Cond.selects RX12 yX12_top yX12_top, Cond.code yX12_top cX12_top 1 (some .int), Cond.fieldLink RX12 111 "StepRewriterModel" "stacked" "[I", Cond.fieldLink RX12 108 "StepRewriterModel" "frameDepth" "[I", Cond.methodLink RX12 285 yX12_ends]
def wsX12_step_r2 : List Cond := [Cond.instanceMethod yX12_ends, Cond.selects RX12 yX12_ends yX12_ends, Cond.code yX12_ends cX12_ends 2 none, Cond.fieldLink RX12 258 "StepRewriterModel" "answer" "I", Cond.methodLink RX12 300 yX12_pop, Cond.instanceMethod yX12_pop, Cond.selects RX12 yX12_pop yX12_pop, Cond.code yX12_pop cX12_pop 2 (some .int), Cond.methodLink RX12 303 yX12_push, Cond.instanceMethod yX12_push, Cond.selects RX12 yX12_push yX12_push, Cond.code yX12_push cX12_push 3 none, Cond.methodLink RX12 288 yX12_calls, Cond.instanceMethod yX12_calls, Cond.selects RX12 yX12_calls yX12_calls, Cond.code yX12_calls cX12_calls 4 none, Cond.fieldLink RX12 17 "StepRewriterModel" "parameters" "[I", Cond.fieldLink RX12 114 "StepRewriterModel" "local" "[I", Cond.methodLink RX12 264 yX12_enter, Cond.instanceMethod yX12_enter, Cond.selects RX12 yX12_enter yX12_enter, Cond.code yX12_enter cX12_enter 3 none, Cond.methodLink RX12 161 yX12_isJump, Cond.static yX12_isJump]
def wsX12_step_r3 : List Cond := [Cond.code yX12_isJump cX12_isJump 1 (some .boolean), Cond.methodLink RX12 291 yX12_jumps, Cond.instanceMethod yX12_jumps, Cond.selects RX12 yX12_jumps yX12_jumps, Cond.code yX12_jumps cX12_jumps 4 none, Cond.methodLink RX12 165 yX12_target, Cond.static yX12_target, Cond.code yX12_target cX12_target 4 (some .int), Cond.methodLink RX12 131 yX12_signedTwo, Cond.static yX12_signedTwo, Cond.code yX12_signedTwo cX12_signedTwo 1 (some .int), Cond.constant RX12 130 (65536), Cond.methodLink RX12 134 yX12_signed, Cond.static yX12_signed, Cond.code yX12_signed cX12_signed 1 (some .int), Cond.methodLink RX12 120 yX12_size, Cond.static yX12_size, Cond.code yX12_size cX12_size 1 (some .int), Cond.methodLink RX12 294 yX12_ofArrays, Cond.instanceMethod yX12_ofArrays, Cond.selects RX12 yX12_ofArrays yX12_ofArrays, Cond.code yX12_ofArrays cX12_ofArrays 6 none, Cond.fieldLink RX12 267 "StepRewriterModel" "kindThrown" "I", Cond.fieldLink RX12 96 "StepRewriterModel" "sizesOf" "[I"]
def wsX12_step_r4 : List Cond := [Cond.fieldLink RX12 99 "StepRewriterModel" "arrays" "[I", Cond.methodLink RX12 297 yX12_plain, Cond.instanceMethod yX12_plain, Cond.selects RX12 yX12_plain yX12_plain, Cond.code yX12_plain cX12_plain 7 none, Cond.methodLink RX12 306 yX12_reckoned, Cond.static yX12_reckoned, Cond.code yX12_reckoned cX12_reckoned 3 (some .int)]
def wsX12_step : List Cond := .code yX12_step cX12_step 2 none :: ((wsX12_step_r1 ++ (wsX12_step_r2 ++ (wsX12_step_r3 ++ wsX12_step_r4))) ++ wsX120)
def wsX12_caught : List Cond := .code yX12_caught cX12_caught 6 none :: ([.fieldLink RX12 254 "StepRewriterModel" "deep" "I", .fieldLink RX12 102 "StepRewriterModel" "frameMethod" "[I", .fieldLink RX12 105 "StepRewriterModel" "framePlace" "[I", .fieldLink RX12 26 "StepRewriterModel" "handlers" "[I", .fieldLink RX12 75 "StepRewriterModel" "writtenRows" "[I", .fieldLink RX12 267 "StepRewriterModel" "kindThrown" "I", .fieldLink RX12 111 "StepRewriterModel" "stacked" "[I", .fieldLink RX12 108 "StepRewriterModel" "frameDepth" "[I"] ++ wsX120)
def wsX12_run_r1 : List Cond := [Cond.fieldLink RX12 195 "StepRewriterModel" "isRewritten" "Z", Cond.fieldLink RX12 188 "StepRewriterModel" "methods" "I", Cond.constant RX12 257 (100000), Cond.fieldLink RX12 96 "StepRewriterModel" "sizesOf" "[I", Cond.fieldLink RX12 258 "StepRewriterModel" "answer" "I", Cond.fieldLink RX12 251 "StepRewriterModel" "counted" "I", Cond.fieldLink RX12 261 "StepRewriterModel" "steps" "I", Cond.fieldLink RX12 245 "StepRewriterModel" "left" "I", Cond.fieldLink RX12 254 "StepRewriterModel" "deep" "I", Cond.fieldLink RX12 248 "StepRewriterModel" "isStopped" "Z", Cond.fieldLink RX12 17 "StepRewriterModel" "parameters" "[I", Cond.fieldLink RX12 114 "StepRewriterModel" "local" "[I", Cond.fieldLink RX12 267 "StepRewriterModel" "kindThrown" "I", Cond.methodLink RX12 264 yX12_enter, Cond.instanceMethod yX12_enter, Cond.selects RX12 yX12_enter yX12_enter, Cond.initialized RX12, Cond.code yX12_enter cX12_enter 3 none, Cond.fieldLink RX12 102 "StepRewriterModel" "frameMethod" "[I", Cond.fieldLink RX12 105 "StepRewriterModel" "framePlace" "[I", Cond.fieldLink RX12 108 "StepRewriterModel" "frameDepth" "[I", Cond.methodLink RX12 270 yX12_step, Cond.instanceMethod yX12_step, Cond.selects RX12 yX12_step yX12_step]
def wsX12_run_r2 : List Cond := [Cond.code yX12_step cX12_step 2 none, Cond.methodLink RX12 276 yX12_codeAt, Cond.instanceMethod yX12_codeAt, Cond.selects RX12 yX12_codeAt yX12_codeAt, Cond.code yX12_codeAt cX12_codeAt 2 (some .int), Cond.fieldLink RX12 69 "StepRewriterModel" "written" "[I", Cond.methodLink RX12 279 yX12_pays, Cond.instanceMethod yX12_pays, Cond.selects RX12 yX12_pays yX12_pays, Cond.code yX12_pays cX12_pays 2 (some .boolean), Cond.methodLink RX12 282 yX12_top, Cond.instanceMethod yX12_top, Cond.selects RX12 yX12_top yX12_top, Cond.code yX12_top cX12_top 1 (some .int), Cond.fieldLink RX12 111 "StepRewriterModel" "stacked" "[I", Cond.methodLink RX12 285 yX12_ends, Cond.instanceMethod yX12_ends, Cond.selects RX12 yX12_ends yX12_ends, Cond.code yX12_ends cX12_ends 2 none, Cond.methodLink RX12 300 yX12_pop, Cond.instanceMethod yX12_pop, Cond.selects RX12 yX12_pop yX12_pop, Cond.code yX12_pop cX12_pop 2 (some .int), Cond.methodLink RX12 303 yX12_push]
def wsX12_run_r3 : List Cond := [Cond.instanceMethod yX12_push, Cond.selects RX12 yX12_push yX12_push, Cond.code yX12_push cX12_push 3 none, Cond.methodLink RX12 288 yX12_calls, Cond.instanceMethod yX12_calls, Cond.selects RX12 yX12_calls yX12_calls, Cond.code yX12_calls cX12_calls 4 none, Cond.methodLink RX12 161 yX12_isJump, Cond.static yX12_isJump, Cond.code yX12_isJump cX12_isJump 1 (some .boolean), Cond.methodLink RX12 291 yX12_jumps, Cond.instanceMethod yX12_jumps, Cond.selects RX12 yX12_jumps yX12_jumps, Cond.code yX12_jumps cX12_jumps 4 none, Cond.methodLink RX12 165 yX12_target, Cond.static yX12_target, Cond.code yX12_target cX12_target 4 (some .int), Cond.methodLink RX12 131 yX12_signedTwo, Cond.static yX12_signedTwo, Cond.code yX12_signedTwo cX12_signedTwo 1 (some .int), Cond.constant RX12 130 (65536), Cond.methodLink RX12 134 yX12_signed, Cond.static yX12_signed, Cond.code yX12_signed cX12_signed 1 (some .int)]
def wsX12_run_r4 : List Cond := [Cond.methodLink RX12 120 yX12_size, Cond.static yX12_size, Cond.code yX12_size cX12_size 1 (some .int), Cond.methodLink RX12 294 yX12_ofArrays, Cond.instanceMethod yX12_ofArrays, Cond.selects RX12 yX12_ofArrays yX12_ofArrays, Cond.code yX12_ofArrays cX12_ofArrays 6 none, Cond.fieldLink RX12 99 "StepRewriterModel" "arrays" "[I", Cond.methodLink RX12 297 yX12_plain, Cond.instanceMethod yX12_plain, Cond.selects RX12 yX12_plain yX12_plain, Cond.code yX12_plain cX12_plain 7 none, Cond.methodLink RX12 306 yX12_reckoned, Cond.static yX12_reckoned, Cond.code yX12_reckoned cX12_reckoned 3 (some .int), Cond.methodLink RX12 273 yX12_caught, Cond.instanceMethod yX12_caught, Cond.selects RX12 yX12_caught yX12_caught, Cond.code yX12_caught cX12_caught 6 none, Cond.fieldLink RX12 26 "StepRewriterModel" "handlers" "[I", Cond.fieldLink RX12 75 "StepRewriterModel" "writtenRows" "[I"]
def wsX12_run : List Cond := .code yX12_run cX12_run 6 (some .int) :: ((wsX12_run_r1 ++ (wsX12_run_r2 ++ (wsX12_run_r3 ++ wsX12_run_r4))) ++ wsX120)
def wsX12_answer : List Cond := .code yX12_answer cX12_answer 1 (some .int) :: ([.fieldLink RX12 258 "StepRewriterModel" "answer" "I"] ++ wsX120)
def wsX12_counted : List Cond := .code yX12_counted cX12_counted 1 (some .int) :: ([.fieldLink RX12 251 "StepRewriterModel" "counted" "I"] ++ wsX120)
def wsX12_steps : List Cond := .code yX12_steps cX12_steps 1 (some .int) :: ([.fieldLink RX12 261 "StepRewriterModel" "steps" "I"] ++ wsX120)
def wsX12_element : List Cond := .code yX12_element cX12_element 3 (some .int) :: ([.fieldLink RX12 96 "StepRewriterModel" "sizesOf" "[I", .fieldLink RX12 99 "StepRewriterModel" "arrays" "[I"] ++ wsX120)
def wsX12_clear : List Cond := .code yX12_clear cX12_clear 2 none :: ([.fieldLink RX12 124 "StepRewriterModel" "taped" "I", .fieldLink RX12 191 "StepRewriterModel" "hasFile" "Z", .fieldLink RX12 195 "StepRewriterModel" "isRewritten" "Z", .fieldLink RX12 96 "StepRewriterModel" "sizesOf" "[I", .fieldLink RX12 258 "StepRewriterModel" "answer" "I", .fieldLink RX12 251 "StepRewriterModel" "counted" "I", .fieldLink RX12 261 "StepRewriterModel" "steps" "I", .methodLink RX12 117 yX12_begin, .instanceMethod yX12_begin, .selects RX12 yX12_begin yX12_begin, .initialized RX12, .code yX12_begin cX12_begin 2 none, .fieldLink RX12 93 "StepRewriterModel" "prices" "[I"] ++ wsX120)
def wsJ9_max_7cf53 : List Cond := .code yJ9_max_7cf53 cJ9_max_7cf53 2 (some .int) :: ([])
def wsJ9_min_7cf53 : List Cond := .code yJ9_min_7cf53 cJ9_min_7cf53 2 (some .int) :: ([])
def wsL_law_r1 : List Cond := [Cond.classLink RL 7 RX11, Cond.instantiable RX11 8, Cond.initialized RX11, Cond.classLink RL 10 RX12, Cond.instantiable RX12 48, Cond.initialized RX12, Cond.constantLong RL 13 (4294967295), Cond.methodLink RL 9 yX11_init, Cond.instanceMethod yX11_init, Cond.code yX11_init cX11_init 1 none, Cond.methodLink RX11 1 objectInit, Cond.instanceMethod objectInit, Cond.code objectInit ⟨#[0xb1]⟩ 1 none, Cond.classLink RX11 7 RX0, Cond.instantiable RX0 5, Cond.initialized RX0, Cond.fieldLink RX11 14 "StepRewriter" "tape" "LStepRewriter$CodeSet;", Cond.fieldLink RX11 18 "StepRewriter" "file" "LStepRewriter$CodeSet;", Cond.fieldLink RX11 21 "StepRewriter" "spare" "LStepRewriter$CodeSet;", Cond.fieldLink RX11 24 "StepRewriter" "rewritten" "LStepRewriter$CodeSet;", Cond.classLink RX11 27 RX8, Cond.instantiable RX8 1, Cond.initialized RX8, Cond.fieldLink RX11 30 "StepRewriter" "prices" "LStepRewriter$Prices;"]
def wsL_law_r2 : List Cond := [Cond.classLink RX11 34 RX2, Cond.instantiable RX2 1, Cond.initialized RX2, Cond.fieldLink RX11 37 "StepRewriter" "check" "LStepRewriter$FormCheck;", Cond.classLink RX11 41 RX5, Cond.instantiable RX5 5, Cond.initialized RX5, Cond.fieldLink RX11 44 "StepRewriter" "layout" "LStepRewriter$Layout;", Cond.classLink RX11 48 RX6, Cond.instantiable RX6 8, Cond.initialized RX6, Cond.fieldLink RX11 53 "StepRewriter" "machine" "LStepRewriter$Machine;", Cond.methodLink RX11 11 yX0_init, Cond.instanceMethod yX0_init, Cond.code yX0_init cX0_init 3 none, Cond.methodLink RX0 3 objectInit, Cond.classLink RX0 9 RX7, Cond.fieldLink RX0 11 "StepRewriter$CodeSet" "methods" "[LStepRewriter$Method;", Cond.instantiable RX7 11, Cond.initialized RX7, Cond.arrayClass .int, Cond.fieldLink RX0 20 "StepRewriter$CodeSet" "none" "LStepRewriter$Method;", Cond.fieldLink RX0 24 "StepRewriter$CodeSet" "row" "[I", Cond.methodLink RX0 17 yX7_init]
def wsL_law_r3 : List Cond := [Cond.instanceMethod yX7_init, Cond.code yX7_init cX7_init 2 none, Cond.methodLink RX7 3 objectInit, Cond.fieldLink RX7 9 "StepRewriter$Method" "table" "[I", Cond.fieldLink RX7 15 "StepRewriter$Method" "row" "[I", Cond.methodLink RX11 29 yX8_init, Cond.instanceMethod yX8_init, Cond.code yX8_init cX8_init 1 none, Cond.methodLink RX8 1 objectInit, Cond.fieldLink RX8 9 "StepRewriter$Prices" "row" "[I", Cond.methodLink RX8 13 yX8_becomeFirst, Cond.instanceMethod yX8_becomeFirst, Cond.selects RX8 yX8_becomeFirst yX8_becomeFirst, Cond.code yX8_becomeFirst cX8_becomeFirst 1 none, Cond.methodLink RX8 16 yJ7_fill_53178, Cond.static yJ7_fill_53178, Cond.initialized RJ7, Cond.code yJ7_fill_53178 cJ7_fill_53178 4 none, Cond.methodLink RX8 24 yX9_put, Cond.static yX9_put, Cond.initialized RX9, Cond.code yX9_put cX9_put 3 none, Cond.instanceMethod yX2_init, Cond.code yX2_init cX2_init 1 none]
def wsL_law_r4 : List Cond := [Cond.methodLink RX2 3 objectInit, Cond.classLink RX2 9 RX1, Cond.instantiable RX1 3, Cond.initialized RX1, Cond.fieldLink RX2 12 "StepRewriter$FormCheck" "depths" "LStepRewriter$DepthCheck;", Cond.instanceMethod yX1_init, Cond.code yX1_init cX1_init 1 none, Cond.methodLink RX1 3 objectInit, Cond.fieldLink RX1 9 "StepRewriter$DepthCheck" "depths" "[I", Cond.fieldLink RX1 15 "StepRewriter$DepthCheck" "gone" "[I", Cond.instanceMethod yX5_init, Cond.code yX5_init cX5_init 1 none, Cond.methodLink RX5 3 objectInit, Cond.fieldLink RX5 9 "StepRewriter$Layout" "sums" "[I", Cond.fieldLink RX5 15 "StepRewriter$Layout" "places" "[I", Cond.fieldLink RX5 18 "StepRewriter$Layout" "ways" "[I", Cond.fieldLink RX5 21 "StepRewriter$Layout" "longs" "[I", Cond.methodLink RX11 50 yX6_init, Cond.instanceMethod yX6_init, Cond.code yX6_init cX6_init 3 none, Cond.methodLink RX6 3 objectInit, Cond.classLink RX6 11 RX3, Cond.fieldLink RX6 13 "StepRewriter$Machine" "frames" "[LStepRewriter$Frame;", Cond.classLink RX6 17 RX10]
def wsL_law_r5 : List Cond := [Cond.instantiable RX10 2, Cond.initialized RX10, Cond.fieldLink RX6 20 "StepRewriter$Machine" "arrays" "LStepRewriter$RunArrays;", Cond.fieldLink RX6 24 "StepRewriter$Machine" "set" "LStepRewriter$CodeSet;", Cond.instantiable RX3 5, Cond.initialized RX3, Cond.instanceMethod yX10_init, Cond.code yX10_init cX10_init 1 none, Cond.methodLink RX10 3 objectInit, Cond.fieldLink RX10 9 "StepRewriter$RunArrays" "sizes" "[I", Cond.fieldLink RX10 15 "StepRewriter$RunArrays" "elements" "[I", Cond.methodLink RX6 28 yX0_method, Cond.instanceMethod yX0_method, Cond.selects RX0 yX0_method yX0_method, Cond.code yX0_method cX0_method 2 (some (.object "StepRewriter$Method")), Cond.methodLink RX6 34 yX3_init, Cond.instanceMethod yX3_init, Cond.code yX3_init cX3_init 2 none, Cond.methodLink RX3 3 objectInit, Cond.fieldLink RX3 9 "StepRewriter$Frame" "locals" "[I", Cond.fieldLink RX3 15 "StepRewriter$Frame" "stack" "[I", Cond.fieldLink RX3 18 "StepRewriter$Frame" "method" "LStepRewriter$Method;", Cond.methodLink RL 12 yX12_init, Cond.instanceMethod yX12_init]
def wsL_law_r6 : List Cond := [Cond.code yX12_init cX12_init 1 none, Cond.methodLink RX12 7 objectInit, Cond.fieldLink RX12 13 "StepRewriterModel" "tape" "[I", Cond.fieldLink RX12 17 "StepRewriterModel" "parameters" "[I", Cond.fieldLink RX12 20 "StepRewriterModel" "locals" "[I", Cond.fieldLink RX12 23 "StepRewriterModel" "sizes" "[I", Cond.fieldLink RX12 26 "StepRewriterModel" "handlers" "[I", Cond.fieldLink RX12 29 "StepRewriterModel" "rows" "[I", Cond.fieldLink RX12 32 "StepRewriterModel" "code" "[I", Cond.arrayClass .boolean, Cond.fieldLink RX12 35 "StepRewriterModel" "begins" "[Z", Cond.fieldLink RX12 39 "StepRewriterModel" "blocks" "[Z", Cond.fieldLink RX12 42 "StepRewriterModel" "depths" "[I", Cond.fieldLink RX12 45 "StepRewriterModel" "gone" "[Z", Cond.fieldLink RX12 48 "StepRewriterModel" "nextParameters" "[I", Cond.fieldLink RX12 51 "StepRewriterModel" "nextLocals" "[I", Cond.fieldLink RX12 54 "StepRewriterModel" "nextSizes" "[I", Cond.fieldLink RX12 57 "StepRewriterModel" "nextBases" "[I", Cond.fieldLink RX12 60 "StepRewriterModel" "nextHandlers" "[I", Cond.fieldLink RX12 63 "StepRewriterModel" "nextRows" "[I", Cond.fieldLink RX12 66 "StepRewriterModel" "nextCode" "[I", Cond.fieldLink RX12 69 "StepRewriterModel" "written" "[I", Cond.fieldLink RX12 72 "StepRewriterModel" "writtenSizes" "[I", Cond.fieldLink RX12 75 "StepRewriterModel" "writtenRows" "[I"]
def wsL_law_r7 : List Cond := [Cond.fieldLink RX12 78 "StepRewriterModel" "longs" "[I", Cond.fieldLink RX12 81 "StepRewriterModel" "starts" "[I", Cond.fieldLink RX12 84 "StepRewriterModel" "places" "[I", Cond.fieldLink RX12 87 "StepRewriterModel" "far" "[Z", Cond.fieldLink RX12 90 "StepRewriterModel" "laid" "[I", Cond.fieldLink RX12 93 "StepRewriterModel" "prices" "[I", Cond.fieldLink RX12 96 "StepRewriterModel" "sizesOf" "[I", Cond.fieldLink RX12 99 "StepRewriterModel" "arrays" "[I", Cond.fieldLink RX12 102 "StepRewriterModel" "frameMethod" "[I", Cond.fieldLink RX12 105 "StepRewriterModel" "framePlace" "[I", Cond.fieldLink RX12 108 "StepRewriterModel" "frameDepth" "[I", Cond.fieldLink RX12 111 "StepRewriterModel" "stacked" "[I", Cond.fieldLink RX12 114 "StepRewriterModel" "local" "[I", Cond.methodLink RX12 117 yX12_begin, Cond.instanceMethod yX12_begin, Cond.selects RX12 yX12_begin yX12_begin, Cond.code yX12_begin cX12_begin 2 none, Cond.methodLink RL 15 yX11_feed, Cond.instanceMethod yX11_feed, Cond.selects RX11 yX11_feed yX11_feed, Cond.code yX11_feed cX11_feed 5 (some .int), Cond.fieldLink RX11 57 "StepRewriter$CodeSet" "used" "I", Cond.methodLink RX11 61 yX0_append, Cond.instanceMethod yX0_append]
def wsL_law_r8 : List Cond := [Cond.selects RX0 yX0_append yX0_append, Cond.code yX0_append cX0_append 2 none, Cond.fieldLink RX0 28 "StepRewriter$CodeSet" "used" "I", Cond.methodLink RX0 35 yX9_put, Cond.methodLink RL 19 yX12_feed, Cond.instanceMethod yX12_feed, Cond.selects RX12 yX12_feed yX12_feed, Cond.code yX12_feed cX12_feed 5 (some .int), Cond.fieldLink RX12 124 "StepRewriterModel" "taped" "I", Cond.methodLink RL 20 yX11_load, Cond.instanceMethod yX11_load, Cond.selects RX11 yX11_load yX11_load, Cond.code yX11_load cX11_load 3 (some .int), Cond.fieldLink RX11 71 "StepRewriter$CodeSet" "count" "I", Cond.methodLink RX11 64 yX2_firstWrong, Cond.instanceMethod yX2_firstWrong, Cond.selects RX2 yX2_firstWrong yX2_firstWrong, Cond.code yX2_firstWrong cX2_firstWrong 5 (some .int), Cond.fieldLink RX2 24 "StepRewriter$CodeSet" "count" "I", Cond.fieldLink RX2 28 "StepRewriter$CodeSet" "used" "I", Cond.methodLink RX2 18 yX0_valueAt, Cond.instanceMethod yX0_valueAt, Cond.selects RX0 yX0_valueAt yX0_valueAt, Cond.code yX0_valueAt cX0_valueAt 2 (some .int)]
def wsL_law_r9 : List Cond := [Cond.methodLink RX0 45 yX9_at, Cond.static yX9_at, Cond.code yX9_at cX9_at 2 (some .int), Cond.methodLink RX2 31 yX0_method, Cond.methodLink RX2 35 yX2_wrongInMethod, Cond.instanceMethod yX2_wrongInMethod, Cond.selects RX2 yX2_wrongInMethod yX2_wrongInMethod, Cond.code yX2_wrongInMethod cX2_wrongInMethod 5 (some .int), Cond.methodLink RX2 62 yX7_empty, Cond.instanceMethod yX7_empty, Cond.selects RX7 yX7_empty yX7_empty, Cond.code yX7_empty cX7_empty 1 none, Cond.fieldLink RX7 18 "StepRewriter$Method" "codeAt" "I", Cond.fieldLink RX7 22 "StepRewriter$Method" "length" "I", Cond.fieldLink RX7 25 "StepRewriter$Method" "parameters" "I", Cond.fieldLink RX7 28 "StepRewriter$Method" "locals" "I", Cond.fieldLink RX7 31 "StepRewriter$Method" "handlers" "I", Cond.fieldLink RX7 34 "StepRewriter$Method" "blocks" "I", Cond.fieldLink RX7 37 "StepRewriter$Method" "longBranches" "I", Cond.fieldLink RX7 40 "StepRewriter$Method" "longJumps" "I", Cond.fieldLink RX7 43 "StepRewriter$Method" "deepest" "I", Cond.methodLink RX2 65 yX2_wrongNumber, Cond.instanceMethod yX2_wrongNumber, Cond.selects RX2 yX2_wrongNumber yX2_wrongNumber]
def wsL_law_r10 : List Cond := [Cond.code yX2_wrongNumber cX2_wrongNumber 5 (some .int), Cond.fieldLink RX2 82 "StepRewriter$Method" "parameters" "I", Cond.fieldLink RX2 85 "StepRewriter$Method" "locals" "I", Cond.fieldLink RX2 59 "StepRewriter$Method" "length" "I", Cond.fieldLink RX2 56 "StepRewriter$Method" "codeAt" "I", Cond.methodLink RX2 88 yX0_pairAt, Cond.instanceMethod yX0_pairAt, Cond.selects RX0 yX0_pairAt yX0_pairAt, Cond.code yX0_pairAt cX0_pairAt 2 (some .int), Cond.methodLink RX0 49 yX0_valueAt, Cond.methodLink RX2 91 yX2_wrongHandlerCount, Cond.instanceMethod yX2_wrongHandlerCount, Cond.selects RX2 yX2_wrongHandlerCount yX2_wrongHandlerCount, Cond.code yX2_wrongHandlerCount cX2_wrongHandlerCount 4 (some .int), Cond.fieldLink RX2 47 "StepRewriter$Method" "handlers" "I", Cond.methodLink RX2 39 yX2_endOf, Cond.instanceMethod yX2_endOf, Cond.selects RX2 yX2_endOf yX2_endOf, Cond.code yX2_endOf cX2_endOf 2 (some .int), Cond.methodLink RX2 52 yX2_handlerPlace, Cond.instanceMethod yX2_handlerPlace, Cond.selects RX2 yX2_handlerPlace yX2_handlerPlace, Cond.code yX2_handlerPlace cX2_handlerPlace 3 (some .int), Cond.methodLink RX2 68 yX2_wrongInstruction]
def wsL_law_r11 : List Cond := [Cond.instanceMethod yX2_wrongInstruction, Cond.selects RX2 yX2_wrongInstruction yX2_wrongInstruction, Cond.code yX2_wrongInstruction cX2_wrongInstruction 6 (some .int), Cond.fieldLink RX2 108 "StepRewriter$Method" "longJumps" "I", Cond.methodLink RX2 94 yX7_sizeAt, Cond.instanceMethod yX7_sizeAt, Cond.selects RX7 yX7_sizeAt yX7_sizeAt, Cond.code yX7_sizeAt cX7_sizeAt 2 (some .int), Cond.methodLink RX7 50 yX7_valueAt, Cond.instanceMethod yX7_valueAt, Cond.selects RX7 yX7_valueAt yX7_valueAt, Cond.code yX7_valueAt cX7_valueAt 2 (some .int), Cond.methodLink RX7 46 yX7_hasPlace, Cond.instanceMethod yX7_hasPlace, Cond.selects RX7 yX7_hasPlace yX7_hasPlace, Cond.code yX7_hasPlace cX7_hasPlace 2 (some .boolean), Cond.methodLink RX7 65 yX4_sizeOf, Cond.static yX4_sizeOf, Cond.initialized RX4, Cond.code yX4_sizeOf cX4_sizeOf 1 (some .int), Cond.methodLink RX4 7 yX4_isOfTwo, Cond.static yX4_isOfTwo, Cond.code yX4_isOfTwo cX4_isOfTwo 1 (some .boolean), Cond.methodLink RX4 13 yX4_isBranch]
def wsL_law_r12 : List Cond := [Cond.static yX4_isBranch, Cond.code yX4_isBranch cX4_isBranch 1 (some .boolean), Cond.methodLink RX4 16 yX4_isOfArray, Cond.static yX4_isOfArray, Cond.code yX4_isOfArray cX4_isOfArray 1 (some .boolean), Cond.methodLink RX2 97 yX2_hasOperand, Cond.instanceMethod yX2_hasOperand, Cond.selects RX2 yX2_hasOperand yX2_hasOperand, Cond.code yX2_hasOperand cX2_hasOperand 6 (some .boolean), Cond.methodLink RX2 105 yX7_valueAt, Cond.methodLink RX2 111 yX0_has, Cond.instanceMethod yX0_has, Cond.selects RX0 yX0_has yX0_has, Cond.code yX0_has cX0_has 2 (some .boolean), Cond.fieldLink RX0 32 "StepRewriter$CodeSet" "count" "I", Cond.methodLink RX2 115 yX4_isOfArray, Cond.methodLink RX2 101 yX7_mark, Cond.instanceMethod yX7_mark, Cond.selects RX7 yX7_mark yX7_mark, Cond.code yX7_mark cX7_mark 3 none, Cond.methodLink RX2 72 yX2_wrongHandler, Cond.instanceMethod yX2_wrongHandler, Cond.selects RX2 yX2_wrongHandler yX2_wrongHandler, Cond.code yX2_wrongHandler cX2_wrongHandler 10 (some .int)]
def wsL_law_r13 : List Cond := [Cond.methodLink RX2 118 yX7_begins, Cond.instanceMethod yX7_begins, Cond.selects RX7 yX7_begins yX7_begins, Cond.code yX7_begins cX7_begins 2 (some .boolean), Cond.methodLink RX2 121 yX7_setHandlerNumber, Cond.instanceMethod yX7_setHandlerNumber, Cond.selects RX7 yX7_setHandlerNumber yX7_setHandlerNumber, Cond.code yX7_setHandlerNumber cX7_setHandlerNumber 4 none, Cond.methodLink RX7 74 yX9_put, Cond.methodLink RX2 75 yX2_wrongJump, Cond.instanceMethod yX2_wrongJump, Cond.selects RX2 yX2_wrongJump yX2_wrongJump, Cond.code yX2_wrongJump cX2_wrongJump 3 (some .int), Cond.methodLink RX2 125 yX7_jumpsAt, Cond.instanceMethod yX7_jumpsAt, Cond.selects RX7 yX7_jumpsAt yX7_jumpsAt, Cond.code yX7_jumpsAt cX7_jumpsAt 2 (some .boolean), Cond.methodLink RX7 57 yX7_begins, Cond.methodLink RX7 60 yX4_isJump, Cond.static yX4_isJump, Cond.code yX4_isJump cX4_isJump 1 (some .boolean), Cond.methodLink RX2 128 yX7_targetOf, Cond.instanceMethod yX7_targetOf, Cond.selects RX7 yX7_targetOf yX7_targetOf]
def wsL_law_r14 : List Cond := [Cond.code yX7_targetOf cX7_targetOf 3 (some .int), Cond.methodLink RX2 78 yX2_markBlocks, Cond.instanceMethod yX2_markBlocks, Cond.selects RX2 yX2_markBlocks yX2_markBlocks, Cond.code yX2_markBlocks cX2_markBlocks 4 none, Cond.fieldLink RX2 138 "StepRewriter$Method" "blocks" "I", Cond.methodLink RX2 131 yX4_endsWay, Cond.static yX4_endsWay, Cond.code yX4_endsWay cX4_endsWay 1 (some .boolean), Cond.methodLink RX2 134 yX7_handlerNumber, Cond.instanceMethod yX7_handlerNumber, Cond.selects RX7 yX7_handlerNumber yX7_handlerNumber, Cond.code yX7_handlerNumber cX7_handlerNumber 3 (some .int), Cond.methodLink RX7 68 yX9_at, Cond.methodLink RX2 141 yX7_beginsBlock, Cond.instanceMethod yX7_beginsBlock, Cond.selects RX7 yX7_beginsBlock yX7_beginsBlock, Cond.code yX7_beginsBlock cX7_beginsBlock 2 (some .boolean), Cond.methodLink RX2 43 yX1_firstWrong, Cond.instanceMethod yX1_firstWrong, Cond.selects RX1 yX1_firstWrong yX1_firstWrong, Cond.code yX1_firstWrong cX1_firstWrong 4 (some .int), Cond.fieldLink RX1 18 "StepRewriter$CodeSet" "count" "I", Cond.fieldLink RX1 32 "StepRewriter$Method" "codeAt" "I"]
def wsL_law_r15 : List Cond := [Cond.methodLink RX1 24 yX0_method, Cond.methodLink RX1 28 yX1_wrongPlace, Cond.instanceMethod yX1_wrongPlace, Cond.selects RX1 yX1_wrongPlace yX1_wrongPlace, Cond.code yX1_wrongPlace cX1_wrongPlace 5 (some .int), Cond.fieldLink RX1 43 "StepRewriter$DepthCheck" "lowest" "I", Cond.fieldLink RX1 52 "StepRewriter$Method" "handlers" "I", Cond.fieldLink RX1 59 "StepRewriter$Method" "length" "I", Cond.fieldLink RX1 74 "StepRewriter$Method" "deepest" "I", Cond.methodLink RX1 37 yJ7_fill_53178, Cond.methodLink RX1 46 yX9_put, Cond.methodLink RX1 55 yX7_handlerNumber, Cond.methodLink RX1 62 yX1_findLowest, Cond.instanceMethod yX1_findLowest, Cond.selects RX1 yX1_findLowest yX1_findLowest, Cond.code yX1_findLowest cX1_findLowest 2 (some .boolean), Cond.methodLink RX1 77 yX9_at, Cond.methodLink RX1 66 yX1_goOn, Cond.instanceMethod yX1_goOn, Cond.selects RX1 yX1_goOn yX1_goOn, Cond.code yX1_goOn cX1_goOn 13 (some .int), Cond.fieldLink RX1 90 "StepRewriter$Method" "parameters" "I", Cond.methodLink RX1 111 Lib.Math.min.name, Cond.static Lib.Math.min.name]
def wsL_law_r16 : List Cond := [Cond.initialized "java/lang/Math", Cond.code Lib.Math.min.name Lib.Math.min.code 2 (some .int), Cond.methodLink RX1 81 yX7_valueAt, Cond.methodLink RX1 87 yX4_takes, Cond.static yX4_takes, Cond.code yX4_takes cX4_takes 1 (some .int), Cond.methodLink RX1 93 yX4_gives, Cond.static yX4_gives, Cond.code yX4_gives cX4_gives 1 (some .int), Cond.methodLink RX1 96 yX7_sizeAt, Cond.methodLink RX1 99 yX4_endsWay, Cond.methodLink RX1 102 yX1_reach, Cond.instanceMethod yX1_reach, Cond.selects RX1 yX1_reach yX1_reach, Cond.code yX1_reach cX1_reach 4 (some .int), Cond.methodLink RX1 105 yX4_isJump, Cond.methodLink RX1 108 yX7_targetOf, Cond.methodLink RX1 70 yX1_greatest, Cond.instanceMethod yX1_greatest, Cond.selects RX1 yX1_greatest yX1_greatest, Cond.code yX1_greatest cX1_greatest 3 (some .int), Cond.methodLink RX1 116 Lib.Math.max.name, Cond.static Lib.Math.max.name, Cond.code Lib.Math.max.name Lib.Math.max.code 2 (some .int)]
def wsL_law_r17 : List Cond := [Cond.methodLink RX11 68 yX0_empty, Cond.instanceMethod yX0_empty, Cond.selects RX0 yX0_empty yX0_empty, Cond.code yX0_empty cX0_empty 1 none, Cond.methodLink RL 24 yX12_load, Cond.instanceMethod yX12_load, Cond.selects RX12 yX12_load yX12_load, Cond.code yX12_load cX12_load 2 (some .int), Cond.fieldLink RX12 188 "StepRewriterModel" "methods" "I", Cond.fieldLink RX12 191 "StepRewriterModel" "hasFile" "Z", Cond.fieldLink RX12 195 "StepRewriterModel" "isRewritten" "Z", Cond.methodLink RX12 185 yX12_read, Cond.instanceMethod yX12_read, Cond.selects RX12 yX12_read yX12_read, Cond.code yX12_read cX12_read 4 (some .int), Cond.fieldLink RX12 127 "StepRewriterModel" "at" "I", Cond.methodLink RX12 137 yX12_one, Cond.instanceMethod yX12_one, Cond.selects RX12 yX12_one yX12_one, Cond.code yX12_one cX12_one 2 (some .int), Cond.methodLink RX12 141 yX12_wrong, Cond.instanceMethod yX12_wrong, Cond.selects RX12 yX12_wrong yX12_wrong, Cond.code yX12_wrong cX12_wrong 2 (some .int)]
def wsL_law_r18 : List Cond := [Cond.methodLink RX12 144 yX12_readMethod, Cond.instanceMethod yX12_readMethod, Cond.selects RX12 yX12_readMethod yX12_readMethod, Cond.code yX12_readMethod cX12_readMethod 13 (some .int), Cond.methodLink RX12 151 yX12_two, Cond.instanceMethod yX12_two, Cond.selects RX12 yX12_two yX12_two, Cond.code yX12_two cX12_two 2 (some .int), Cond.methodLink RX12 154 yX12_instructions, Cond.instanceMethod yX12_instructions, Cond.selects RX12 yX12_instructions yX12_instructions, Cond.code yX12_instructions cX12_instructions 9 (some .int), Cond.methodLink RX12 169 yX12_isKind, Cond.static yX12_isKind, Cond.code yX12_isKind cX12_isKind 1 (some .boolean), Cond.methodLink RX12 120 yX12_size, Cond.static yX12_size, Cond.code yX12_size cX12_size 1 (some .int), Cond.methodLink RX12 157 yX12_isBegin, Cond.instanceMethod yX12_isBegin, Cond.selects RX12 yX12_isBegin yX12_isBegin, Cond.code yX12_isBegin cX12_isBegin 3 (some .boolean), Cond.methodLink RX12 161 yX12_isJump, Cond.static yX12_isJump]
def wsL_law_r19 : List Cond := [Cond.code yX12_isJump cX12_isJump 1 (some .boolean), Cond.methodLink RX12 165 yX12_target, Cond.static yX12_target, Cond.code yX12_target cX12_target 4 (some .int), Cond.methodLink RX12 131 yX12_signedTwo, Cond.static yX12_signedTwo, Cond.code yX12_signedTwo cX12_signedTwo 1 (some .int), Cond.constant RX12 130 (65536), Cond.methodLink RX12 134 yX12_signed, Cond.static yX12_signed, Cond.code yX12_signed cX12_signed 1 (some .int), Cond.methodLink RX12 148 yX12_stacks, Cond.instanceMethod yX12_stacks, Cond.selects RX12 yX12_stacks yX12_stacks, Cond.code yX12_stacks cX12_stacks 6 (some .int), Cond.methodLink RX12 172 yX12_goesOn, Cond.instanceMethod yX12_goesOn, Cond.selects RX12 yX12_goesOn yX12_goesOn, Cond.code yX12_goesOn cX12_goesOn 10 (some .int), Cond.methodLink RX12 175 yX12_takes, Cond.instanceMethod yX12_takes, Cond.selects RX12 yX12_takes yX12_takes, Cond.code yX12_takes cX12_takes 3 (some .int), Cond.methodLink RX12 178 yX12_gives]
def wsL_law_r20 : List Cond := [Cond.static yX12_gives, Cond.code yX12_gives cX12_gives 1 (some .int), Cond.methodLink RX12 181 yX12_comes, Cond.instanceMethod yX12_comes, Cond.selects RX12 yX12_comes yX12_comes, Cond.code yX12_comes cX12_comes 5 (some .boolean), Cond.methodLink RX12 198 yX12_keep, Cond.instanceMethod yX12_keep, Cond.selects RX12 yX12_keep yX12_keep, Cond.code yX12_keep cX12_keep 2 none, Cond.methodLink RL 25 yX11_price, Cond.instanceMethod yX11_price, Cond.selects RX11 yX11_price yX11_price, Cond.code yX11_price cX11_price 4 (some .int), Cond.methodLink RX11 74 yX4_sizeOf, Cond.methodLink RX11 80 yX8_of, Cond.instanceMethod yX8_of, Cond.selects RX8 yX8_of yX8_of, Cond.code yX8_of cX8_of 2 (some .int), Cond.methodLink RX8 30 yX9_at, Cond.methodLink RX11 83 yX8_become, Cond.instanceMethod yX8_become, Cond.selects RX8 yX8_become yX8_become, Cond.code yX8_become cX8_become 3 none]
def wsL_law_r21 : List Cond := [Cond.methodLink RL 29 yX12_price, Cond.instanceMethod yX12_price, Cond.selects RX12 yX12_price yX12_price, Cond.code yX12_price cX12_price 4 (some .int), Cond.methodLink RL 30 yX11_rewrite, Cond.instanceMethod yX11_rewrite, Cond.selects RX11 yX11_rewrite yX11_rewrite, Cond.code yX11_rewrite cX11_rewrite 3 (some .int), Cond.methodLink RX11 87 yX0_method, Cond.methodLink RX11 91 yX5_plan, Cond.instanceMethod yX5_plan, Cond.selects RX5 yX5_plan yX5_plan, Cond.code yX5_plan cX5_plan 6 (some .int), Cond.fieldLink RX5 24 "StepRewriter$Layout" "paying" "Z", Cond.fieldLink RX5 42 "StepRewriter$Method" "length" "I", Cond.methodLink RX5 28 yX5_takeSums, Cond.instanceMethod yX5_takeSums, Cond.selects RX5 yX5_takeSums yX5_takeSums, Cond.code yX5_takeSums cX5_takeSums 4 none, Cond.methodLink RX5 32 yJ7_fill_53178, Cond.methodLink RX5 84 yX7_beginsBlock, Cond.methodLink RX5 87 yX7_sumFrom, Cond.instanceMethod yX7_sumFrom, Cond.selects RX7 yX7_sumFrom yX7_sumFrom]
def wsL_law_r22 : List Cond := [Cond.code yX7_sumFrom cX7_sumFrom 5 (some .int), Cond.methodLink RX7 78 yX7_beginsBlock, Cond.methodLink RX7 81 yX8_of, Cond.methodLink RX5 91 yX9_put, Cond.methodLink RX5 38 yX5_placeAll, Cond.instanceMethod yX5_placeAll, Cond.selects RX5 yX5_placeAll yX5_placeAll, Cond.code yX5_placeAll cX5_placeAll 4 (some .int), Cond.methodLink RX5 72 yX7_begins, Cond.methodLink RX5 97 yX5_bytesAhead, Cond.instanceMethod yX5_bytesAhead, Cond.selects RX5 yX5_bytesAhead yX5_bytesAhead, Cond.code yX5_bytesAhead cX5_bytesAhead 3 (some .int), Cond.methodLink RX5 123 yX5_sumBytes, Cond.instanceMethod yX5_sumBytes, Cond.selects RX5 yX5_sumBytes yX5_sumBytes, Cond.code yX5_sumBytes cX5_sumBytes 2 (some .int), Cond.methodLink RX5 113 yX9_at, Cond.methodLink RX5 126 yX5_paysTop, Cond.instanceMethod yX5_paysTop, Cond.selects RX5 yX5_paysTop yX5_paysTop, Cond.code yX5_paysTop cX5_paysTop 3 (some .boolean), Cond.methodLink RX5 117 yX7_valueAt, Cond.methodLink RX5 101 yX5_bytesOf]
def wsL_law_r23 : List Cond := [Cond.instanceMethod yX5_bytesOf, Cond.selects RX5 yX5_bytesOf yX5_bytesOf, Cond.code yX5_bytesOf cX5_bytesOf 4 (some .int), Cond.methodLink RX5 130 yX4_isJump, Cond.methodLink RX5 133 yX4_sizeOf, Cond.methodLink RX5 110 yX5_isLong, Cond.instanceMethod yX5_isLong, Cond.selects RX5 yX5_isLong yX5_isLong, Cond.code yX5_isLong cX5_isLong 2 (some .boolean), Cond.methodLink RX5 136 yX4_isBranch, Cond.methodLink RX5 48 yX5_lengthen, Cond.instanceMethod yX5_lengthen, Cond.selects RX5 yX5_lengthen yX5_lengthen, Cond.code yX5_lengthen cX5_lengthen 5 (some .boolean), Cond.methodLink RX5 104 yX7_jumpsAt, Cond.methodLink RX5 107 yX5_wayOf, Cond.instanceMethod yX5_wayOf, Cond.selects RX5 yX5_wayOf yX5_wayOf, Cond.code yX5_wayOf cX5_wayOf 4 (some .int), Cond.methodLink RX5 139 yX7_targetOf, Cond.methodLink RX11 95 yX5_write, Cond.instanceMethod yX5_write, Cond.selects RX5 yX5_write yX5_write, Cond.code yX5_write cX5_write 5 none]
def wsL_law_r24 : List Cond := [Cond.fieldLink RX5 55 "StepRewriter$Method" "parameters" "I", Cond.fieldLink RX5 58 "StepRewriter$Method" "locals" "I", Cond.fieldLink RX5 61 "StepRewriter$Method" "blocks" "I", Cond.fieldLink RX5 64 "StepRewriter$CodeSet" "used" "I", Cond.fieldLink RX5 69 "StepRewriter$Method" "codeAt" "I", Cond.methodLink RX5 52 yX7_empty, Cond.methodLink RX5 76 yX5_writeInstruction, Cond.instanceMethod yX5_writeInstruction, Cond.selects RX5 yX5_writeInstruction yX5_writeInstruction, Cond.code yX5_writeInstruction cX5_writeInstruction 8 none, Cond.methodLink RX5 142 yX0_append, Cond.methodLink RX5 146 yX0_appendPair, Cond.instanceMethod yX0_appendPair, Cond.selects RX0 yX0_appendPair yX0_appendPair, Cond.code yX0_appendPair cX0_appendPair 2 none, Cond.methodLink RX0 41 yX0_append, Cond.methodLink RX5 149 yX5_writeJump, Cond.instanceMethod yX5_writeJump, Cond.selects RX5 yX5_writeJump yX5_writeJump, Cond.code yX5_writeJump cX5_writeJump 7 none, Cond.fieldLink RX5 158 "StepRewriter$Method" "longBranches" "I", Cond.fieldLink RX5 161 "StepRewriter$Method" "longJumps" "I", Cond.methodLink RX5 155 yX4_opposite, Cond.static yX4_opposite]
def wsL_law_r25 : List Cond := [Cond.code yX4_opposite cX4_opposite 1 (some .int), Cond.methodLink RX5 152 yX7_sizeAt, Cond.methodLink RX5 80 yX5_moveHandlers, Cond.instanceMethod yX5_moveHandlers, Cond.selects RX5 yX5_moveHandlers yX5_moveHandlers, Cond.code yX5_moveHandlers cX5_moveHandlers 6 none, Cond.fieldLink RX5 164 "StepRewriter$Method" "handlers" "I", Cond.methodLink RX5 167 yX7_handlerNumber, Cond.methodLink RX5 171 yX7_setHandlerNumber, Cond.methodLink RX11 99 yX0_codeBytes, Cond.instanceMethod yX0_codeBytes, Cond.selects RX0 yX0_codeBytes yX0_codeBytes, Cond.code yX0_codeBytes cX0_codeBytes 3 (some .int), Cond.fieldLink RX0 57 "StepRewriter$Method" "length" "I", Cond.methodLink RX0 53 yX0_method, Cond.methodLink RL 33 yX12_rewrite, Cond.instanceMethod yX12_rewrite, Cond.selects RX12 yX12_rewrite yX12_rewrite, Cond.code yX12_rewrite cX12_rewrite 7 (some .int), Cond.fieldLink RX12 224 "StepRewriterModel" "laidLongs" "I", Cond.methodLink RX12 231 yX12_lay, Cond.instanceMethod yX12_lay, Cond.selects RX12 yX12_lay yX12_lay, Cond.code yX12_lay cX12_lay 7 (some .int)]
def wsL_law_r26 : List Cond := [Cond.methodLink RX12 207 yX12_mark, Cond.instanceMethod yX12_mark, Cond.selects RX12 yX12_mark yX12_mark, Cond.code yX12_mark cX12_mark 5 none, Cond.methodLink RX12 201 yX12_kindAt, Cond.instanceMethod yX12_kindAt, Cond.selects RX12 yX12_kindAt yX12_kindAt, Cond.code yX12_kindAt cX12_kindAt 3 (some .int), Cond.methodLink RX12 204 yX12_leads, Cond.instanceMethod yX12_leads, Cond.selects RX12 yX12_leads yX12_leads, Cond.code yX12_leads cX12_leads 4 (some .int), Cond.methodLink RX12 217 yX12_paidAt, Cond.instanceMethod yX12_paidAt, Cond.selects RX12 yX12_paidAt yX12_paidAt, Cond.code yX12_paidAt cX12_paidAt 4 (some .int), Cond.methodLink RX12 214 yX12_sum, Cond.instanceMethod yX12_sum, Cond.selects RX12 yX12_sum yX12_sum, Cond.code yX12_sum cX12_sum 5 (some .int), Cond.methodLink RX12 221 yX12_fits, Cond.static yX12_fits, Cond.code yX12_fits cX12_fits 1 (some .boolean), Cond.methodLink RX12 235 yX12_put]
def wsL_law_r27 : List Cond := [Cond.instanceMethod yX12_put, Cond.selects RX12 yX12_put yX12_put, Cond.code yX12_put cX12_put 8 none, Cond.methodLink RX12 227 yX12_putJump, Cond.instanceMethod yX12_putJump, Cond.selects RX12 yX12_putJump yX12_putJump, Cond.code yX12_putJump cX12_putJump 8 none, Cond.methodLink RL 34 yX11_told, Cond.instanceMethod yX11_told, Cond.selects RX11 yX11_told yX11_told, Cond.code yX11_told cX11_told 6 (some .int), Cond.fieldLink RX11 107 "StepRewriter$Method" "length" "I", Cond.fieldLink RX11 112 "StepRewriter$Method" "blocks" "I", Cond.fieldLink RX11 115 "StepRewriter$Method" "handlers" "I", Cond.fieldLink RX11 118 "StepRewriter$Method" "longBranches" "I", Cond.fieldLink RX11 121 "StepRewriter$Method" "longJumps" "I", Cond.fieldLink RX11 124 "StepRewriter$Method" "deepest" "I", Cond.methodLink RX11 103 yX0_has, Cond.methodLink RL 38 yX12_told, Cond.instanceMethod yX12_told, Cond.selects RX12 yX12_told yX12_told, Cond.code yX12_told cX12_told 4 (some .int), Cond.methodLink RX12 211 yX12_countBlocks, Cond.instanceMethod yX12_countBlocks]
def wsL_law_r28 : List Cond := [Cond.selects RX12 yX12_countBlocks yX12_countBlocks, Cond.code yX12_countBlocks cX12_countBlocks 4 (some .int), Cond.methodLink RX12 239 yX12_longJumps, Cond.instanceMethod yX12_longJumps, Cond.selects RX12 yX12_longJumps yX12_longJumps, Cond.code yX12_longJumps cX12_longJumps 7 (some .int), Cond.methodLink RX12 242 yX12_deepest, Cond.instanceMethod yX12_deepest, Cond.selects RX12 yX12_deepest yX12_deepest, Cond.code yX12_deepest cX12_deepest 4 (some .int), Cond.methodLink RL 39 yX11_byteAt, Cond.instanceMethod yX11_byteAt, Cond.selects RX11 yX11_byteAt yX11_byteAt, Cond.code yX11_byteAt cX11_byteAt 5 (some .int), Cond.methodLink RX11 127 yX7_valueAt, Cond.methodLink RL 42 yX12_byteAt, Cond.instanceMethod yX12_byteAt, Cond.selects RX12 yX12_byteAt yX12_byteAt, Cond.code yX12_byteAt cX12_byteAt 4 (some .int), Cond.methodLink RL 43 yX11_handler, Cond.instanceMethod yX11_handler, Cond.selects RX11 yX11_handler yX11_handler, Cond.code yX11_handler cX11_handler 6 (some .int), Cond.methodLink RX11 130 yX7_handlerNumber]
def wsL_law_r29 : List Cond := [Cond.methodLink RL 47 yX12_handler, Cond.instanceMethod yX12_handler, Cond.selects RX12 yX12_handler yX12_handler, Cond.code yX12_handler cX12_handler 6 (some .int), Cond.methodLink RL 48 yX11_block, Cond.instanceMethod yX11_block, Cond.selects RX11 yX11_block yX11_block, Cond.code yX11_block cX11_block 5 (some .int), Cond.methodLink RX11 134 yX7_blockBegin, Cond.instanceMethod yX7_blockBegin, Cond.selects RX7 yX7_blockBegin yX7_blockBegin, Cond.code yX7_blockBegin cX7_blockBegin 4 (some .int), Cond.methodLink RX11 137 yX7_sumFrom, Cond.methodLink RL 52 yX12_block, Cond.instanceMethod yX12_block, Cond.selects RX12 yX12_block yX12_block, Cond.code yX12_block cX12_block 6 (some .int), Cond.methodLink RL 53 yX11_run, Cond.instanceMethod yX11_run, Cond.selects RX11 yX11_run yX11_run, Cond.code yX11_run cX11_run 5 (some .int), Cond.constant RX11 141 (100000), Cond.methodLink RX11 142 yX6_perform, Cond.instanceMethod yX6_perform]
def wsL_law_r30 : List Cond := [Cond.selects RX6 yX6_perform yX6_perform, Cond.code yX6_perform cX6_perform 8 (some .int), Cond.fieldLink RX6 56 "StepRewriter$Machine" "limit" "I", Cond.fieldLink RX6 66 "StepRewriter$Frame" "method" "LStepRewriter$Method;", Cond.fieldLink RX6 69 "StepRewriter$Method" "parameters" "I", Cond.fieldLink RX6 40 "StepRewriter$Machine" "underWay" "I", Cond.constant RX6 78 (1000000), Cond.methodLink RX6 53 yX6_forget, Cond.instanceMethod yX6_forget, Cond.selects RX6 yX6_forget yX6_forget, Cond.code yX6_forget cX6_forget 1 none, Cond.fieldLink RX6 44 "StepRewriter$Machine" "result" "I", Cond.fieldLink RX6 47 "StepRewriter$Machine" "paid" "I", Cond.fieldLink RX6 50 "StepRewriter$Machine" "done" "I", Cond.methodLink RX6 37 yX10_empty, Cond.instanceMethod yX10_empty, Cond.selects RX10 yX10_empty yX10_empty, Cond.code yX10_empty cX10_empty 1 none, Cond.methodLink RX10 18 yJ7_fill_53178, Cond.methodLink RX6 59 yX6_frame, Cond.instanceMethod yX6_frame, Cond.selects RX6 yX6_frame yX6_frame, Cond.code yX6_frame cX6_frame 2 (some (.object "StepRewriter$Frame")), Cond.methodLink RX6 63 yX3_begin]
def wsL_law_r31 : List Cond := [Cond.instanceMethod yX3_begin, Cond.selects RX3 yX3_begin yX3_begin, Cond.code yX3_begin cX3_begin 2 none, Cond.fieldLink RX3 22 "StepRewriter$Frame" "place" "I", Cond.fieldLink RX3 26 "StepRewriter$Frame" "top" "I", Cond.methodLink RX3 29 yJ7_fill_53178, Cond.methodLink RX6 74 yX3_setLocal, Cond.instanceMethod yX3_setLocal, Cond.selects RX3 yX3_setLocal yX3_setLocal, Cond.code yX3_setLocal cX3_setLocal 3 none, Cond.methodLink RX3 41 yX9_put, Cond.methodLink RX6 79 yX6_goOn, Cond.instanceMethod yX6_goOn, Cond.selects RX6 yX6_goOn yX6_goOn, Cond.code yX6_goOn cX6_goOn 4 (some .int), Cond.fieldLink RX6 89 "StepRewriter$Frame" "place" "I", Cond.methodLink RX6 103 Lib.Math.max.name, Cond.methodLink RX6 83 yX3_kind, Cond.instanceMethod yX3_kind, Cond.selects RX3 yX3_kind yX3_kind, Cond.code yX3_kind cX3_kind 1 (some .int), Cond.methodLink RX3 35 yX7_valueAt, Cond.methodLink RX6 92 yX7_fourAt, Cond.instanceMethod yX7_fourAt]
def wsL_law_r32 : List Cond := [Cond.selects RX7 yX7_fourAt yX7_fourAt, Cond.code yX7_fourAt cX7_fourAt 2 (some .int), Cond.methodLink RX7 54 yX7_pairAt, Cond.instanceMethod yX7_pairAt, Cond.selects RX7 yX7_pairAt yX7_pairAt, Cond.code yX7_pairAt cX7_pairAt 2 (some .int), Cond.methodLink RX6 96 yX6_pay, Cond.instanceMethod yX6_pay, Cond.selects RX6 yX6_pay yX6_pay, Cond.code yX6_pay cX6_pay 4 (some .int), Cond.methodLink RX6 100 yX3_peek, Cond.instanceMethod yX3_peek, Cond.selects RX3 yX3_peek yX3_peek, Cond.code yX3_peek cX3_peek 1 (some .int), Cond.methodLink RX3 47 yX9_at, Cond.methodLink RX6 109 yX6_call, Cond.instanceMethod yX6_call, Cond.selects RX6 yX6_call yX6_call, Cond.code yX6_call cX6_call 5 (some .int), Cond.methodLink RX6 135 yX3_operand, Cond.instanceMethod yX3_operand, Cond.selects RX3 yX3_operand yX3_operand, Cond.code yX3_operand cX3_operand 1 (some .int), Cond.methodLink RX6 112 yX3_pop]
def wsL_law_r33 : List Cond := [Cond.instanceMethod yX3_pop, Cond.selects RX3 yX3_pop yX3_pop, Cond.code yX3_pop cX3_pop 1 (some .int), Cond.methodLink RX6 115 yX6_leave, Cond.instanceMethod yX6_leave, Cond.selects RX6 yX6_leave yX6_leave, Cond.code yX6_leave cX6_leave 3 (some .int), Cond.methodLink RX6 138 yX3_push, Cond.instanceMethod yX3_push, Cond.selects RX3 yX3_push yX3_push, Cond.code yX3_push cX3_push 2 none, Cond.methodLink RX6 132 yX4_sizeOf, Cond.methodLink RX6 118 yX4_isJump, Cond.methodLink RX6 122 yX6_jump, Cond.instanceMethod yX6_jump, Cond.selects RX6 yX6_jump yX6_jump, Cond.code yX6_jump cX6_jump 5 (some .int), Cond.methodLink RX6 148 yX4_isBranch, Cond.methodLink RX6 151 yX4_isTaken, Cond.static yX4_isTaken, Cond.code yX4_isTaken cX4_isTaken 2 (some .boolean), Cond.methodLink RX6 155 yX7_targetOf, Cond.methodLink RX6 126 yX6_act, Cond.instanceMethod yX6_act]
def wsL_law_r34 : List Cond := [Cond.selects RX6 yX6_act yX6_act, Cond.code yX6_act cX6_act 3 (some .int), Cond.methodLink RX6 158 yX7_pairAt, Cond.methodLink RX6 161 yX3_local, Cond.instanceMethod yX3_local, Cond.selects RX3 yX3_local yX3_local, Cond.code yX3_local cX3_local 2 (some .int), Cond.methodLink RX6 164 yX4_isOfArray, Cond.methodLink RX6 167 yX6_actOnArray, Cond.instanceMethod yX6_actOnArray, Cond.selects RX6 yX6_actOnArray yX6_actOnArray, Cond.code yX6_actOnArray cX6_actOnArray 6 (some .int), Cond.methodLink RX6 173 yX10_make, Cond.instanceMethod yX10_make, Cond.selects RX10 yX10_make yX10_make, Cond.code yX10_make cX10_make 4 (some .int), Cond.methodLink RX10 26 yX9_put, Cond.methodLink RX10 32 yX10_put, Cond.instanceMethod yX10_put, Cond.selects RX10 yX10_put yX10_put, Cond.code yX10_put cX10_put 4 none, Cond.methodLink RX6 176 yX10_sizeOf, Cond.instanceMethod yX10_sizeOf, Cond.selects RX10 yX10_sizeOf yX10_sizeOf]
def wsL_law_r35 : List Cond := [Cond.code yX10_sizeOf cX10_sizeOf 2 (some .int), Cond.methodLink RX10 35 yX9_at, Cond.methodLink RX6 177 yX10_has, Cond.instanceMethod yX10_has, Cond.selects RX10 yX10_has yX10_has, Cond.code yX10_has cX10_has 3 (some .boolean), Cond.methodLink RX10 39 yX10_sizeOf, Cond.methodLink RX6 180 yX10_put, Cond.methodLink RX6 184 yX10_get, Cond.instanceMethod yX10_get, Cond.selects RX10 yX10_get yX10_get, Cond.code yX10_get cX10_get 3 (some .int), Cond.methodLink RX6 170 yX6_actOnTwo, Cond.instanceMethod yX6_actOnTwo, Cond.selects RX6 yX6_actOnTwo yX6_actOnTwo, Cond.code yX6_actOnTwo cX6_actOnTwo 5 (some .int), Cond.methodLink RX6 187 yX6_joined, Cond.instanceMethod yX6_joined, Cond.selects RX6 yX6_joined yX6_joined, Cond.code yX6_joined cX6_joined 4 (some .int), Cond.methodLink RX6 129 yX6_raise, Cond.instanceMethod yX6_raise, Cond.selects RX6 yX6_raise yX6_raise, Cond.code yX6_raise cX6_raise 4 (some .int)]
def wsL_law_r36 : List Cond := [Cond.methodLink RX6 142 yX7_handlerFor, Cond.instanceMethod yX7_handlerFor, Cond.selects RX7 yX7_handlerFor yX7_handlerFor, Cond.code yX7_handlerFor cX7_handlerFor 6 (some .int), Cond.methodLink RX7 86 yX7_handlerNumber, Cond.methodLink RX6 145 yX3_goOnWith, Cond.instanceMethod yX3_goOnWith, Cond.selects RX3 yX3_goOnWith yX3_goOnWith, Cond.code yX3_goOnWith cX3_goOnWith 3 none, Cond.methodLink RX3 51 yX3_push, Cond.methodLink RL 57 yX12_run, Cond.instanceMethod yX12_run, Cond.selects RX12 yX12_run yX12_run, Cond.code yX12_run cX12_run 6 (some .int), Cond.constant RX12 257 (100000), Cond.fieldLink RX12 258 "StepRewriterModel" "answer" "I", Cond.fieldLink RX12 251 "StepRewriterModel" "counted" "I", Cond.fieldLink RX12 261 "StepRewriterModel" "steps" "I", Cond.fieldLink RX12 245 "StepRewriterModel" "left" "I", Cond.fieldLink RX12 254 "StepRewriterModel" "deep" "I", Cond.fieldLink RX12 248 "StepRewriterModel" "isStopped" "Z", Cond.fieldLink RX12 267 "StepRewriterModel" "kindThrown" "I", Cond.methodLink RX12 264 yX12_enter, Cond.instanceMethod yX12_enter]
def wsL_law_r37 : List Cond := [Cond.selects RX12 yX12_enter yX12_enter, Cond.code yX12_enter cX12_enter 3 none, Cond.methodLink RX12 270 yX12_step, Cond.instanceMethod yX12_step, Cond.selects RX12 yX12_step yX12_step, Cond.code yX12_step cX12_step 2 none, Cond.methodLink RX12 276 yX12_codeAt, Cond.instanceMethod yX12_codeAt, Cond.selects RX12 yX12_codeAt yX12_codeAt, Cond.code yX12_codeAt cX12_codeAt 2 (some .int), Cond.methodLink RX12 279 yX12_pays, Cond.instanceMethod yX12_pays, Cond.selects RX12 yX12_pays yX12_pays, Cond.code yX12_pays cX12_pays 2 (some .boolean), Cond.methodLink RX12 282 yX12_top, Cond.instanceMethod yX12_top, Cond.selects RX12 yX12_top yX12_top, Cond.code yX12_top cX12_top 1 (some .int), Cond.methodLink RX12 285 yX12_ends, Cond.instanceMethod yX12_ends, Cond.selects RX12 yX12_ends yX12_ends, Cond.code yX12_ends cX12_ends 2 none, Cond.methodLink RX12 300 yX12_pop, Cond.instanceMethod yX12_pop]
def wsL_law_r38 : List Cond := [Cond.selects RX12 yX12_pop yX12_pop, Cond.code yX12_pop cX12_pop 2 (some .int), Cond.methodLink RX12 303 yX12_push, Cond.instanceMethod yX12_push, Cond.selects RX12 yX12_push yX12_push, Cond.code yX12_push cX12_push 3 none, Cond.methodLink RX12 288 yX12_calls, Cond.instanceMethod yX12_calls, Cond.selects RX12 yX12_calls yX12_calls, Cond.code yX12_calls cX12_calls 4 none, Cond.methodLink RX12 291 yX12_jumps, Cond.instanceMethod yX12_jumps, Cond.selects RX12 yX12_jumps yX12_jumps, Cond.code yX12_jumps cX12_jumps 4 none, Cond.methodLink RX12 294 yX12_ofArrays, Cond.instanceMethod yX12_ofArrays, Cond.selects RX12 yX12_ofArrays yX12_ofArrays, Cond.code yX12_ofArrays cX12_ofArrays 6 none, Cond.methodLink RX12 297 yX12_plain, Cond.instanceMethod yX12_plain, Cond.selects RX12 yX12_plain yX12_plain, Cond.code yX12_plain cX12_plain 7 none, Cond.methodLink RX12 306 yX12_reckoned, Cond.static yX12_reckoned]
def wsL_law_r39 : List Cond := [Cond.code yX12_reckoned cX12_reckoned 3 (some .int), Cond.methodLink RX12 273 yX12_caught, Cond.instanceMethod yX12_caught, Cond.selects RX12 yX12_caught yX12_caught, Cond.code yX12_caught cX12_caught 6 none, Cond.methodLink RL 58 yX11_answer, Cond.instanceMethod yX11_answer, Cond.selects RX11 yX11_answer yX11_answer, Cond.code yX11_answer cX11_answer 1 (some .int), Cond.fieldLink RX11 146 "StepRewriter$Machine" "result" "I", Cond.methodLink RL 61 yX12_answer, Cond.instanceMethod yX12_answer, Cond.selects RX12 yX12_answer yX12_answer, Cond.code yX12_answer cX12_answer 1 (some .int), Cond.methodLink RL 62 yX11_counted, Cond.instanceMethod yX11_counted, Cond.selects RX11 yX11_counted yX11_counted, Cond.code yX11_counted cX11_counted 1 (some .int), Cond.fieldLink RX11 149 "StepRewriter$Machine" "paid" "I", Cond.methodLink RL 65 yX12_counted, Cond.instanceMethod yX12_counted, Cond.selects RX12 yX12_counted yX12_counted, Cond.code yX12_counted cX12_counted 1 (some .int), Cond.methodLink RL 66 yX11_steps]
def wsL_law_r40 : List Cond := [Cond.instanceMethod yX11_steps, Cond.selects RX11 yX11_steps yX11_steps, Cond.code yX11_steps cX11_steps 1 (some .int), Cond.fieldLink RX11 152 "StepRewriter$Machine" "done" "I", Cond.methodLink RL 69 yX12_steps, Cond.instanceMethod yX12_steps, Cond.selects RX12 yX12_steps yX12_steps, Cond.code yX12_steps cX12_steps 1 (some .int), Cond.methodLink RL 70 yX11_element, Cond.instanceMethod yX11_element, Cond.selects RX11 yX11_element yX11_element, Cond.code yX11_element cX11_element 3 (some .int), Cond.fieldLink RX11 155 "StepRewriter$Machine" "arrays" "LStepRewriter$RunArrays;", Cond.methodLink RX11 159 yX10_sizeOf, Cond.methodLink RX11 162 yX10_has, Cond.methodLink RX11 165 yX10_get, Cond.methodLink RL 73 yX12_element, Cond.instanceMethod yX12_element, Cond.selects RX12 yX12_element yX12_element, Cond.code yX12_element cX12_element 3 (some .int), Cond.methodLink RL 74 yX11_unwrite, Cond.instanceMethod yX11_unwrite, Cond.selects RX11 yX11_unwrite yX11_unwrite, Cond.code yX11_unwrite cX11_unwrite 2 (some .int)]
def wsL_law_r41 : List Cond := [Cond.methodLink RX11 168 yX11_unwriteMethod, Cond.instanceMethod yX11_unwriteMethod, Cond.selects RX11 yX11_unwriteMethod yX11_unwriteMethod, Cond.code yX11_unwriteMethod cX11_unwriteMethod 6 none, Cond.fieldLink RX11 178 "StepRewriter$Method" "parameters" "I", Cond.fieldLink RX11 181 "StepRewriter$Method" "locals" "I", Cond.methodLink RX11 184 yX0_appendPair, Cond.methodLink RL 77 yX12_unwrite, Cond.instanceMethod yX12_unwrite, Cond.selects RX12 yX12_unwrite yX12_unwrite, Cond.code yX12_unwrite cX12_unwrite 7 (some .int), Cond.methodLink RL 78 yX11_clear, Cond.instanceMethod yX11_clear, Cond.selects RX11 yX11_clear yX11_clear, Cond.code yX11_clear cX11_clear 1 none, Cond.methodLink RX11 172 yX8_becomeFirst, Cond.methodLink RX11 175 yX6_forget, Cond.methodLink RL 81 yX12_clear, Cond.instanceMethod yX12_clear, Cond.selects RX12 yX12_clear yX12_clear, Cond.code yX12_clear cX12_clear 2 none]
def wsL_law : List Cond := (wsL_law_r1 ++ (wsL_law_r2 ++ (wsL_law_r3 ++ (wsL_law_r4 ++ (wsL_law_r5 ++ (wsL_law_r6 ++ (wsL_law_r7 ++ (wsL_law_r8 ++ (wsL_law_r9 ++ (wsL_law_r10 ++ (wsL_law_r11 ++ (wsL_law_r12 ++ (wsL_law_r13 ++ (wsL_law_r14 ++ (wsL_law_r15 ++ (wsL_law_r16 ++ (wsL_law_r17 ++ (wsL_law_r18 ++ (wsL_law_r19 ++ (wsL_law_r20 ++ (wsL_law_r21 ++ (wsL_law_r22 ++ (wsL_law_r23 ++ (wsL_law_r24 ++ (wsL_law_r25 ++ (wsL_law_r26 ++ (wsL_law_r27 ++ (wsL_law_r28 ++ (wsL_law_r29 ++ (wsL_law_r30 ++ (wsL_law_r31 ++ (wsL_law_r32 ++ (wsL_law_r33 ++ (wsL_law_r34 ++ (wsL_law_r35 ++ (wsL_law_r36 ++ (wsL_law_r37 ++ (wsL_law_r38 ++ (wsL_law_r39 ++ (wsL_law_r40 ++ wsL_law_r41)))))))))))))))))))))))))))))))))))))))) ++ wsX110 ++ wsX120 ++ wsX00 ++ wsX80 ++ wsX20 ++ wsX50 ++ wsX60 ++ wsX70 ++ wsX10 ++ wsX100 ++ wsX30 ++ ([] : List Cond)
abbrev vwCl : List vw_C := [(RX0, TX0, 5), (RX1, TX1, 3), (RX2, TX2, 1), (RX3, TX3, 5), (RX5, TX5, 5), (RX6, TX6, 8), (RX7, TX7, 11), (RX8, TX8, 1), (RX10, TX10, 2), (RX11, TX11, 8), (RX12, TX12, 48)]
end
section
theorem hs_ma {a b c : List Cond} (ha : ∀ w ∈ a, w ∈ c) (hb : ∀ w ∈ b, w ∈ c) : ∀ w ∈ a ++ b, w ∈ c := fun w h => (List.mem_append.mp h).elim (ha w) (hb w)
/-! The words of the law's list, each by its place in lw_tbl: made by wip/gen/words.py -/
set_option maxRecDepth 100000 in
theorem in_wsL_law_r1 : ∀ w ∈ wsL_law_r1, w ∈ lw_tbl := List.forall_mem_cons.mpr ⟨List.mem_of_getElem? (i := 93) rfl, List.forall_mem_cons.mpr ⟨List.mem_of_getElem? (i := 94) rfl, List.forall_mem_cons.mpr ⟨List.mem_of_getElem? (i := 78) rfl, List.forall_mem_cons.mpr ⟨List.mem_of_getElem? (i := 881) rfl, List.forall_mem_cons.mpr ⟨List.mem_of_getElem? (i := 882) rfl, List.forall_mem_cons.mpr ⟨List.mem_of_getElem? (i := 90) rfl, List.forall_mem_cons.mpr ⟨List.mem_of_getElem? (i := 1269) rfl, List.forall_mem_cons.mpr ⟨List.mem_of_getElem? (i := 95) rfl, List.forall_mem_cons.mpr ⟨List.mem_of_getElem? (i := 96) rfl, List.forall_mem_cons.mpr ⟨List.mem_of_getElem? (i := 97) rfl, List.forall_mem_cons.mpr ⟨List.mem_of_getElem? (i := 98) rfl, List.forall_mem_cons.mpr ⟨List.mem_of_getElem? (i := 99) rfl, List.forall_mem_cons.mpr ⟨List.mem_of_getElem? (i := 100) rfl, List.forall_mem_cons.mpr ⟨List.mem_of_getElem? (i := 101) rfl, List.forall_mem_cons.mpr ⟨List.mem_of_getElem? (i := 102) rfl, List.forall_mem_cons.mpr ⟨List.mem_of_getElem? (i := 79) rfl, List.forall_mem_cons.mpr ⟨List.mem_of_getElem? (i := 346) rfl, List.forall_mem_cons.mpr ⟨List.mem_of_getElem? (i := 347) rfl, List.forall_mem_cons.mpr ⟨List.mem_of_getElem? (i := 348) rfl, List.forall_mem_cons.mpr ⟨List.mem_of_getElem? (i := 349) rfl, List.forall_mem_cons.mpr ⟨List.mem_of_getElem? (i := 201) rfl, List.forall_mem_cons.mpr ⟨List.mem_of_getElem? (i := 202) rfl, List.forall_mem_cons.mpr ⟨List.mem_of_getElem? (i := 81) rfl, List.forall_mem_cons.mpr ⟨List.mem_of_getElem? (i := 350) rfl, (fun _ h => absurd h List.not_mem_nil)⟩⟩⟩⟩⟩⟩⟩⟩⟩⟩⟩⟩⟩⟩⟩⟩⟩⟩⟩⟩⟩⟩⟩⟩
set_option maxRecDepth 100000 in
theorem in_wsL_law_r2 : ∀ w ∈ wsL_law_r2, w ∈ lw_tbl := List.forall_mem_cons.mpr ⟨List.mem_of_getElem? (i := 221) rfl, List.forall_mem_cons.mpr ⟨List.mem_of_getElem? (i := 222) rfl, List.forall_mem_cons.mpr ⟨List.mem_of_getElem? (i := 84) rfl, List.forall_mem_cons.mpr ⟨List.mem_of_getElem? (i := 351) rfl, List.forall_mem_cons.mpr ⟨List.mem_of_getElem? (i := 247) rfl, List.forall_mem_cons.mpr ⟨List.mem_of_getElem? (i := 248) rfl, List.forall_mem_cons.mpr ⟨List.mem_of_getElem? (i := 86) rfl, List.forall_mem_cons.mpr ⟨List.mem_of_getElem? (i := 352) rfl, List.forall_mem_cons.mpr ⟨List.mem_of_getElem? (i := 269) rfl, List.forall_mem_cons.mpr ⟨List.mem_of_getElem? (i := 270) rfl, List.forall_mem_cons.mpr ⟨List.mem_of_getElem? (i := 87) rfl, List.forall_mem_cons.mpr ⟨List.mem_of_getElem? (i := 353) rfl, List.forall_mem_cons.mpr ⟨List.mem_of_getElem? (i := 103) rfl, List.forall_mem_cons.mpr ⟨List.mem_of_getElem? (i := 104) rfl, List.forall_mem_cons.mpr ⟨List.mem_of_getElem? (i := 105) rfl, List.forall_mem_cons.mpr ⟨List.mem_of_getElem? (i := 106) rfl, List.forall_mem_cons.mpr ⟨List.mem_of_getElem? (i := 107) rfl, List.forall_mem_cons.mpr ⟨List.mem_of_getElem? (i := 180) rfl, List.forall_mem_cons.mpr ⟨List.mem_of_getElem? (i := 109) rfl, List.forall_mem_cons.mpr ⟨List.mem_of_getElem? (i := 80) rfl, List.forall_mem_cons.mpr ⟨List.mem_of_getElem? (i := 178) rfl, List.forall_mem_cons.mpr ⟨List.mem_of_getElem? (i := 181) rfl, List.forall_mem_cons.mpr ⟨List.mem_of_getElem? (i := 179) rfl, List.forall_mem_cons.mpr ⟨List.mem_of_getElem? (i := 110) rfl, (fun _ h => absurd h List.not_mem_nil)⟩⟩⟩⟩⟩⟩⟩⟩⟩⟩⟩⟩⟩⟩⟩⟩⟩⟩⟩⟩⟩⟩⟩⟩
set_option maxRecDepth 100000 in
theorem in_wsL_law_r3 : ∀ w ∈ wsL_law_r3, w ∈ lw_tbl := List.forall_mem_cons.mpr ⟨List.mem_of_getElem? (i := 111) rfl, List.forall_mem_cons.mpr ⟨List.mem_of_getElem? (i := 112) rfl, List.forall_mem_cons.mpr ⟨List.mem_of_getElem? (i := 113) rfl, List.forall_mem_cons.mpr ⟨List.mem_of_getElem? (i := 115) rfl, List.forall_mem_cons.mpr ⟨List.mem_of_getElem? (i := 114) rfl, List.forall_mem_cons.mpr ⟨List.mem_of_getElem? (i := 203) rfl, List.forall_mem_cons.mpr ⟨List.mem_of_getElem? (i := 204) rfl, List.forall_mem_cons.mpr ⟨List.mem_of_getElem? (i := 205) rfl, List.forall_mem_cons.mpr ⟨List.mem_of_getElem? (i := 206) rfl, List.forall_mem_cons.mpr ⟨List.mem_of_getElem? (i := 217) rfl, List.forall_mem_cons.mpr ⟨List.mem_of_getElem? (i := 207) rfl, List.forall_mem_cons.mpr ⟨List.mem_of_getElem? (i := 208) rfl, List.forall_mem_cons.mpr ⟨List.mem_of_getElem? (i := 209) rfl, List.forall_mem_cons.mpr ⟨List.mem_of_getElem? (i := 210) rfl, List.forall_mem_cons.mpr ⟨List.mem_of_getElem? (i := 211) rfl, List.forall_mem_cons.mpr ⟨List.mem_of_getElem? (i := 212) rfl, List.forall_mem_cons.mpr ⟨List.mem_of_getElem? (i := 82) rfl, List.forall_mem_cons.mpr ⟨List.mem_of_getElem? (i := 213) rfl, List.forall_mem_cons.mpr ⟨List.mem_of_getElem? (i := 214) rfl, List.forall_mem_cons.mpr ⟨List.mem_of_getElem? (i := 215) rfl, List.forall_mem_cons.mpr ⟨List.mem_of_getElem? (i := 83) rfl, List.forall_mem_cons.mpr ⟨List.mem_of_getElem? (i := 216) rfl, List.forall_mem_cons.mpr ⟨List.mem_of_getElem? (i := 224) rfl, List.forall_mem_cons.mpr ⟨List.mem_of_getElem? (i := 225) rfl, (fun _ h => absurd h List.not_mem_nil)⟩⟩⟩⟩⟩⟩⟩⟩⟩⟩⟩⟩⟩⟩⟩⟩⟩⟩⟩⟩⟩⟩⟩⟩
set_option maxRecDepth 100000 in
theorem in_wsL_law_r4 : ∀ w ∈ wsL_law_r4, w ∈ lw_tbl := List.forall_mem_cons.mpr ⟨List.mem_of_getElem? (i := 226) rfl, List.forall_mem_cons.mpr ⟨List.mem_of_getElem? (i := 227) rfl, List.forall_mem_cons.mpr ⟨List.mem_of_getElem? (i := 228) rfl, List.forall_mem_cons.mpr ⟨List.mem_of_getElem? (i := 85) rfl, List.forall_mem_cons.mpr ⟨List.mem_of_getElem? (i := 243) rfl, List.forall_mem_cons.mpr ⟨List.mem_of_getElem? (i := 230) rfl, List.forall_mem_cons.mpr ⟨List.mem_of_getElem? (i := 231) rfl, List.forall_mem_cons.mpr ⟨List.mem_of_getElem? (i := 232) rfl, List.forall_mem_cons.mpr ⟨List.mem_of_getElem? (i := 233) rfl, List.forall_mem_cons.mpr ⟨List.mem_of_getElem? (i := 234) rfl, List.forall_mem_cons.mpr ⟨List.mem_of_getElem? (i := 250) rfl, List.forall_mem_cons.mpr ⟨List.mem_of_getElem? (i := 251) rfl, List.forall_mem_cons.mpr ⟨List.mem_of_getElem? (i := 252) rfl, List.forall_mem_cons.mpr ⟨List.mem_of_getElem? (i := 253) rfl, List.forall_mem_cons.mpr ⟨List.mem_of_getElem? (i := 254) rfl, List.forall_mem_cons.mpr ⟨List.mem_of_getElem? (i := 255) rfl, List.forall_mem_cons.mpr ⟨List.mem_of_getElem? (i := 256) rfl, List.forall_mem_cons.mpr ⟨List.mem_of_getElem? (i := 271) rfl, List.forall_mem_cons.mpr ⟨List.mem_of_getElem? (i := 272) rfl, List.forall_mem_cons.mpr ⟨List.mem_of_getElem? (i := 273) rfl, List.forall_mem_cons.mpr ⟨List.mem_of_getElem? (i := 274) rfl, List.forall_mem_cons.mpr ⟨List.mem_of_getElem? (i := 275) rfl, List.forall_mem_cons.mpr ⟨List.mem_of_getElem? (i := 318) rfl, List.forall_mem_cons.mpr ⟨List.mem_of_getElem? (i := 277) rfl, (fun _ h => absurd h List.not_mem_nil)⟩⟩⟩⟩⟩⟩⟩⟩⟩⟩⟩⟩⟩⟩⟩⟩⟩⟩⟩⟩⟩⟩⟩⟩
set_option maxRecDepth 100000 in
theorem in_wsL_law_r5 : ∀ w ∈ wsL_law_r5, w ∈ lw_tbl := List.forall_mem_cons.mpr ⟨List.mem_of_getElem? (i := 278) rfl, List.forall_mem_cons.mpr ⟨List.mem_of_getElem? (i := 88) rfl, List.forall_mem_cons.mpr ⟨List.mem_of_getElem? (i := 319) rfl, List.forall_mem_cons.mpr ⟨List.mem_of_getElem? (i := 317) rfl, List.forall_mem_cons.mpr ⟨List.mem_of_getElem? (i := 290) rfl, List.forall_mem_cons.mpr ⟨List.mem_of_getElem? (i := 89) rfl, List.forall_mem_cons.mpr ⟨List.mem_of_getElem? (i := 280) rfl, List.forall_mem_cons.mpr ⟨List.mem_of_getElem? (i := 281) rfl, List.forall_mem_cons.mpr ⟨List.mem_of_getElem? (i := 282) rfl, List.forall_mem_cons.mpr ⟨List.mem_of_getElem? (i := 283) rfl, List.forall_mem_cons.mpr ⟨List.mem_of_getElem? (i := 284) rfl, List.forall_mem_cons.mpr ⟨List.mem_of_getElem? (i := 291) rfl, List.forall_mem_cons.mpr ⟨List.mem_of_getElem? (i := 292) rfl, List.forall_mem_cons.mpr ⟨List.mem_of_getElem? (i := 293) rfl, List.forall_mem_cons.mpr ⟨List.mem_of_getElem? (i := 294) rfl, List.forall_mem_cons.mpr ⟨List.mem_of_getElem? (i := 295) rfl, List.forall_mem_cons.mpr ⟨List.mem_of_getElem? (i := 296) rfl, List.forall_mem_cons.mpr ⟨List.mem_of_getElem? (i := 297) rfl, List.forall_mem_cons.mpr ⟨List.mem_of_getElem? (i := 298) rfl, List.forall_mem_cons.mpr ⟨List.mem_of_getElem? (i := 299) rfl, List.forall_mem_cons.mpr ⟨List.mem_of_getElem? (i := 300) rfl, List.forall_mem_cons.mpr ⟨List.mem_of_getElem? (i := 302) rfl, List.forall_mem_cons.mpr ⟨List.mem_of_getElem? (i := 883) rfl, List.forall_mem_cons.mpr ⟨List.mem_of_getElem? (i := 884) rfl, (fun _ h => absurd h List.not_mem_nil)⟩⟩⟩⟩⟩⟩⟩⟩⟩⟩⟩⟩⟩⟩⟩⟩⟩⟩⟩⟩⟩⟩⟩⟩
set_option maxRecDepth 100000 in
theorem in_wsL_law_r6 : ∀ w ∈ wsL_law_r6, w ∈ lw_tbl := List.forall_mem_cons.mpr ⟨List.mem_of_getElem? (i := 885) rfl, List.forall_mem_cons.mpr ⟨List.mem_of_getElem? (i := 886) rfl, List.forall_mem_cons.mpr ⟨List.mem_of_getElem? (i := 891) rfl, List.forall_mem_cons.mpr ⟨List.mem_of_getElem? (i := 895) rfl, List.forall_mem_cons.mpr ⟨List.mem_of_getElem? (i := 896) rfl, List.forall_mem_cons.mpr ⟨List.mem_of_getElem? (i := 897) rfl, List.forall_mem_cons.mpr ⟨List.mem_of_getElem? (i := 898) rfl, List.forall_mem_cons.mpr ⟨List.mem_of_getElem? (i := 899) rfl, List.forall_mem_cons.mpr ⟨List.mem_of_getElem? (i := 900) rfl, List.forall_mem_cons.mpr ⟨List.mem_of_getElem? (i := 1035) rfl, List.forall_mem_cons.mpr ⟨List.mem_of_getElem? (i := 901) rfl, List.forall_mem_cons.mpr ⟨List.mem_of_getElem? (i := 902) rfl, List.forall_mem_cons.mpr ⟨List.mem_of_getElem? (i := 903) rfl, List.forall_mem_cons.mpr ⟨List.mem_of_getElem? (i := 904) rfl, List.forall_mem_cons.mpr ⟨List.mem_of_getElem? (i := 905) rfl, List.forall_mem_cons.mpr ⟨List.mem_of_getElem? (i := 906) rfl, List.forall_mem_cons.mpr ⟨List.mem_of_getElem? (i := 907) rfl, List.forall_mem_cons.mpr ⟨List.mem_of_getElem? (i := 908) rfl, List.forall_mem_cons.mpr ⟨List.mem_of_getElem? (i := 909) rfl, List.forall_mem_cons.mpr ⟨List.mem_of_getElem? (i := 910) rfl, List.forall_mem_cons.mpr ⟨List.mem_of_getElem? (i := 911) rfl, List.forall_mem_cons.mpr ⟨List.mem_of_getElem? (i := 913) rfl, List.forall_mem_cons.mpr ⟨List.mem_of_getElem? (i := 914) rfl, List.forall_mem_cons.mpr ⟨List.mem_of_getElem? (i := 915) rfl, (fun _ h => absurd h List.not_mem_nil)⟩⟩⟩⟩⟩⟩⟩⟩⟩⟩⟩⟩⟩⟩⟩⟩⟩⟩⟩⟩⟩⟩⟩⟩
set_option maxRecDepth 100000 in
theorem in_wsL_law_r7 : ∀ w ∈ wsL_law_r7, w ∈ lw_tbl := List.forall_mem_cons.mpr ⟨List.mem_of_getElem? (i := 916) rfl, List.forall_mem_cons.mpr ⟨List.mem_of_getElem? (i := 917) rfl, List.forall_mem_cons.mpr ⟨List.mem_of_getElem? (i := 918) rfl, List.forall_mem_cons.mpr ⟨List.mem_of_getElem? (i := 919) rfl, List.forall_mem_cons.mpr ⟨List.mem_of_getElem? (i := 920) rfl, List.forall_mem_cons.mpr ⟨List.mem_of_getElem? (i := 922) rfl, List.forall_mem_cons.mpr ⟨List.mem_of_getElem? (i := 924) rfl, List.forall_mem_cons.mpr ⟨List.mem_of_getElem? (i := 925) rfl, List.forall_mem_cons.mpr ⟨List.mem_of_getElem? (i := 931) rfl, List.forall_mem_cons.mpr ⟨List.mem_of_getElem? (i := 932) rfl, List.forall_mem_cons.mpr ⟨List.mem_of_getElem? (i := 933) rfl, List.forall_mem_cons.mpr ⟨List.mem_of_getElem? (i := 934) rfl, List.forall_mem_cons.mpr ⟨List.mem_of_getElem? (i := 935) rfl, List.forall_mem_cons.mpr ⟨List.mem_of_getElem? (i := 887) rfl, List.forall_mem_cons.mpr ⟨List.mem_of_getElem? (i := 889) rfl, List.forall_mem_cons.mpr ⟨List.mem_of_getElem? (i := 40) rfl, List.forall_mem_cons.mpr ⟨List.mem_of_getElem? (i := 890) rfl, List.forall_mem_cons.mpr ⟨List.mem_of_getElem? (i := 371) rfl, List.forall_mem_cons.mpr ⟨List.mem_of_getElem? (i := 372) rfl, List.forall_mem_cons.mpr ⟨List.mem_of_getElem? (i := 373) rfl, List.forall_mem_cons.mpr ⟨List.mem_of_getElem? (i := 374) rfl, List.forall_mem_cons.mpr ⟨List.mem_of_getElem? (i := 184) rfl, List.forall_mem_cons.mpr ⟨List.mem_of_getElem? (i := 375) rfl, List.forall_mem_cons.mpr ⟨List.mem_of_getElem? (i := 376) rfl, (fun _ h => absurd h List.not_mem_nil)⟩⟩⟩⟩⟩⟩⟩⟩⟩⟩⟩⟩⟩⟩⟩⟩⟩⟩⟩⟩⟩⟩⟩⟩
set_option maxRecDepth 100000 in
theorem in_wsL_law_r8 : ∀ w ∈ wsL_law_r8, w ∈ lw_tbl := List.forall_mem_cons.mpr ⟨List.mem_of_getElem? (i := 377) rfl, List.forall_mem_cons.mpr ⟨List.mem_of_getElem? (i := 378) rfl, List.forall_mem_cons.mpr ⟨List.mem_of_getElem? (i := 182) rfl, List.forall_mem_cons.mpr ⟨List.mem_of_getElem? (i := 379) rfl, List.forall_mem_cons.mpr ⟨List.mem_of_getElem? (i := 1036) rfl, List.forall_mem_cons.mpr ⟨List.mem_of_getElem? (i := 1037) rfl, List.forall_mem_cons.mpr ⟨List.mem_of_getElem? (i := 1038) rfl, List.forall_mem_cons.mpr ⟨List.mem_of_getElem? (i := 1039) rfl, List.forall_mem_cons.mpr ⟨List.mem_of_getElem? (i := 892) rfl, List.forall_mem_cons.mpr ⟨List.mem_of_getElem? (i := 380) rfl, List.forall_mem_cons.mpr ⟨List.mem_of_getElem? (i := 381) rfl, List.forall_mem_cons.mpr ⟨List.mem_of_getElem? (i := 382) rfl, List.forall_mem_cons.mpr ⟨List.mem_of_getElem? (i := 383) rfl, List.forall_mem_cons.mpr ⟨List.mem_of_getElem? (i := 189) rfl, List.forall_mem_cons.mpr ⟨List.mem_of_getElem? (i := 384) rfl, List.forall_mem_cons.mpr ⟨List.mem_of_getElem? (i := 385) rfl, List.forall_mem_cons.mpr ⟨List.mem_of_getElem? (i := 386) rfl, List.forall_mem_cons.mpr ⟨List.mem_of_getElem? (i := 387) rfl, List.forall_mem_cons.mpr ⟨List.mem_of_getElem? (i := 187) rfl, List.forall_mem_cons.mpr ⟨List.mem_of_getElem? (i := 183) rfl, List.forall_mem_cons.mpr ⟨List.mem_of_getElem? (i := 388) rfl, List.forall_mem_cons.mpr ⟨List.mem_of_getElem? (i := 389) rfl, List.forall_mem_cons.mpr ⟨List.mem_of_getElem? (i := 390) rfl, List.forall_mem_cons.mpr ⟨List.mem_of_getElem? (i := 391) rfl, (fun _ h => absurd h List.not_mem_nil)⟩⟩⟩⟩⟩⟩⟩⟩⟩⟩⟩⟩⟩⟩⟩⟩⟩⟩⟩⟩⟩⟩⟩⟩
set_option maxRecDepth 100000 in
theorem in_wsL_law_r9 : ∀ w ∈ wsL_law_r9, w ∈ lw_tbl := List.forall_mem_cons.mpr ⟨List.mem_of_getElem? (i := 392) rfl, List.forall_mem_cons.mpr ⟨List.mem_of_getElem? (i := 393) rfl, List.forall_mem_cons.mpr ⟨List.mem_of_getElem? (i := 394) rfl, List.forall_mem_cons.mpr ⟨List.mem_of_getElem? (i := 395) rfl, List.forall_mem_cons.mpr ⟨List.mem_of_getElem? (i := 396) rfl, List.forall_mem_cons.mpr ⟨List.mem_of_getElem? (i := 398) rfl, List.forall_mem_cons.mpr ⟨List.mem_of_getElem? (i := 0) rfl, List.forall_mem_cons.mpr ⟨List.mem_of_getElem? (i := 399) rfl, List.forall_mem_cons.mpr ⟨List.mem_of_getElem? (i := 400) rfl, List.forall_mem_cons.mpr ⟨List.mem_of_getElem? (i := 401) rfl, List.forall_mem_cons.mpr ⟨List.mem_of_getElem? (i := 402) rfl, List.forall_mem_cons.mpr ⟨List.mem_of_getElem? (i := 403) rfl, List.forall_mem_cons.mpr ⟨List.mem_of_getElem? (i := 116) rfl, List.forall_mem_cons.mpr ⟨List.mem_of_getElem? (i := 120) rfl, List.forall_mem_cons.mpr ⟨List.mem_of_getElem? (i := 126) rfl, List.forall_mem_cons.mpr ⟨List.mem_of_getElem? (i := 132) rfl, List.forall_mem_cons.mpr ⟨List.mem_of_getElem? (i := 136) rfl, List.forall_mem_cons.mpr ⟨List.mem_of_getElem? (i := 141) rfl, List.forall_mem_cons.mpr ⟨List.mem_of_getElem? (i := 145) rfl, List.forall_mem_cons.mpr ⟨List.mem_of_getElem? (i := 148) rfl, List.forall_mem_cons.mpr ⟨List.mem_of_getElem? (i := 152) rfl, List.forall_mem_cons.mpr ⟨List.mem_of_getElem? (i := 404) rfl, List.forall_mem_cons.mpr ⟨List.mem_of_getElem? (i := 406) rfl, List.forall_mem_cons.mpr ⟨List.mem_of_getElem? (i := 1) rfl, (fun _ h => absurd h List.not_mem_nil)⟩⟩⟩⟩⟩⟩⟩⟩⟩⟩⟩⟩⟩⟩⟩⟩⟩⟩⟩⟩⟩⟩⟩⟩
set_option maxRecDepth 100000 in
theorem in_wsL_law_r10 : ∀ w ∈ wsL_law_r10, w ∈ lw_tbl := List.forall_mem_cons.mpr ⟨List.mem_of_getElem? (i := 407) rfl, List.forall_mem_cons.mpr ⟨List.mem_of_getElem? (i := 130) rfl, List.forall_mem_cons.mpr ⟨List.mem_of_getElem? (i := 134) rfl, List.forall_mem_cons.mpr ⟨List.mem_of_getElem? (i := 123) rfl, List.forall_mem_cons.mpr ⟨List.mem_of_getElem? (i := 119) rfl, List.forall_mem_cons.mpr ⟨List.mem_of_getElem? (i := 408) rfl, List.forall_mem_cons.mpr ⟨List.mem_of_getElem? (i := 409) rfl, List.forall_mem_cons.mpr ⟨List.mem_of_getElem? (i := 410) rfl, List.forall_mem_cons.mpr ⟨List.mem_of_getElem? (i := 411) rfl, List.forall_mem_cons.mpr ⟨List.mem_of_getElem? (i := 412) rfl, List.forall_mem_cons.mpr ⟨List.mem_of_getElem? (i := 413) rfl, List.forall_mem_cons.mpr ⟨List.mem_of_getElem? (i := 415) rfl, List.forall_mem_cons.mpr ⟨List.mem_of_getElem? (i := 2) rfl, List.forall_mem_cons.mpr ⟨List.mem_of_getElem? (i := 416) rfl, List.forall_mem_cons.mpr ⟨List.mem_of_getElem? (i := 137) rfl, List.forall_mem_cons.mpr ⟨List.mem_of_getElem? (i := 417) rfl, List.forall_mem_cons.mpr ⟨List.mem_of_getElem? (i := 419) rfl, List.forall_mem_cons.mpr ⟨List.mem_of_getElem? (i := 3) rfl, List.forall_mem_cons.mpr ⟨List.mem_of_getElem? (i := 420) rfl, List.forall_mem_cons.mpr ⟨List.mem_of_getElem? (i := 421) rfl, List.forall_mem_cons.mpr ⟨List.mem_of_getElem? (i := 423) rfl, List.forall_mem_cons.mpr ⟨List.mem_of_getElem? (i := 4) rfl, List.forall_mem_cons.mpr ⟨List.mem_of_getElem? (i := 424) rfl, List.forall_mem_cons.mpr ⟨List.mem_of_getElem? (i := 425) rfl, (fun _ h => absurd h List.not_mem_nil)⟩⟩⟩⟩⟩⟩⟩⟩⟩⟩⟩⟩⟩⟩⟩⟩⟩⟩⟩⟩⟩⟩⟩⟩
set_option maxRecDepth 100000 in
theorem in_wsL_law_r11 : ∀ w ∈ wsL_law_r11, w ∈ lw_tbl := List.forall_mem_cons.mpr ⟨List.mem_of_getElem? (i := 427) rfl, List.forall_mem_cons.mpr ⟨List.mem_of_getElem? (i := 5) rfl, List.forall_mem_cons.mpr ⟨List.mem_of_getElem? (i := 428) rfl, List.forall_mem_cons.mpr ⟨List.mem_of_getElem? (i := 150) rfl, List.forall_mem_cons.mpr ⟨List.mem_of_getElem? (i := 429) rfl, List.forall_mem_cons.mpr ⟨List.mem_of_getElem? (i := 430) rfl, List.forall_mem_cons.mpr ⟨List.mem_of_getElem? (i := 431) rfl, List.forall_mem_cons.mpr ⟨List.mem_of_getElem? (i := 432) rfl, List.forall_mem_cons.mpr ⟨List.mem_of_getElem? (i := 433) rfl, List.forall_mem_cons.mpr ⟨List.mem_of_getElem? (i := 434) rfl, List.forall_mem_cons.mpr ⟨List.mem_of_getElem? (i := 435) rfl, List.forall_mem_cons.mpr ⟨List.mem_of_getElem? (i := 436) rfl, List.forall_mem_cons.mpr ⟨List.mem_of_getElem? (i := 437) rfl, List.forall_mem_cons.mpr ⟨List.mem_of_getElem? (i := 439) rfl, List.forall_mem_cons.mpr ⟨List.mem_of_getElem? (i := 6) rfl, List.forall_mem_cons.mpr ⟨List.mem_of_getElem? (i := 440) rfl, List.forall_mem_cons.mpr ⟨List.mem_of_getElem? (i := 441) rfl, List.forall_mem_cons.mpr ⟨List.mem_of_getElem? (i := 442) rfl, List.forall_mem_cons.mpr ⟨List.mem_of_getElem? (i := 91) rfl, List.forall_mem_cons.mpr ⟨List.mem_of_getElem? (i := 443) rfl, List.forall_mem_cons.mpr ⟨List.mem_of_getElem? (i := 444) rfl, List.forall_mem_cons.mpr ⟨List.mem_of_getElem? (i := 445) rfl, List.forall_mem_cons.mpr ⟨List.mem_of_getElem? (i := 446) rfl, List.forall_mem_cons.mpr ⟨List.mem_of_getElem? (i := 447) rfl, (fun _ h => absurd h List.not_mem_nil)⟩⟩⟩⟩⟩⟩⟩⟩⟩⟩⟩⟩⟩⟩⟩⟩⟩⟩⟩⟩⟩⟩⟩⟩
set_option maxRecDepth 100000 in
theorem in_wsL_law_r12 : ∀ w ∈ wsL_law_r12, w ∈ lw_tbl := List.forall_mem_cons.mpr ⟨List.mem_of_getElem? (i := 448) rfl, List.forall_mem_cons.mpr ⟨List.mem_of_getElem? (i := 449) rfl, List.forall_mem_cons.mpr ⟨List.mem_of_getElem? (i := 450) rfl, List.forall_mem_cons.mpr ⟨List.mem_of_getElem? (i := 451) rfl, List.forall_mem_cons.mpr ⟨List.mem_of_getElem? (i := 452) rfl, List.forall_mem_cons.mpr ⟨List.mem_of_getElem? (i := 453) rfl, List.forall_mem_cons.mpr ⟨List.mem_of_getElem? (i := 455) rfl, List.forall_mem_cons.mpr ⟨List.mem_of_getElem? (i := 7) rfl, List.forall_mem_cons.mpr ⟨List.mem_of_getElem? (i := 456) rfl, List.forall_mem_cons.mpr ⟨List.mem_of_getElem? (i := 457) rfl, List.forall_mem_cons.mpr ⟨List.mem_of_getElem? (i := 458) rfl, List.forall_mem_cons.mpr ⟨List.mem_of_getElem? (i := 459) rfl, List.forall_mem_cons.mpr ⟨List.mem_of_getElem? (i := 460) rfl, List.forall_mem_cons.mpr ⟨List.mem_of_getElem? (i := 461) rfl, List.forall_mem_cons.mpr ⟨List.mem_of_getElem? (i := 188) rfl, List.forall_mem_cons.mpr ⟨List.mem_of_getElem? (i := 462) rfl, List.forall_mem_cons.mpr ⟨List.mem_of_getElem? (i := 463) rfl, List.forall_mem_cons.mpr ⟨List.mem_of_getElem? (i := 464) rfl, List.forall_mem_cons.mpr ⟨List.mem_of_getElem? (i := 465) rfl, List.forall_mem_cons.mpr ⟨List.mem_of_getElem? (i := 466) rfl, List.forall_mem_cons.mpr ⟨List.mem_of_getElem? (i := 467) rfl, List.forall_mem_cons.mpr ⟨List.mem_of_getElem? (i := 469) rfl, List.forall_mem_cons.mpr ⟨List.mem_of_getElem? (i := 8) rfl, List.forall_mem_cons.mpr ⟨List.mem_of_getElem? (i := 470) rfl, (fun _ h => absurd h List.not_mem_nil)⟩⟩⟩⟩⟩⟩⟩⟩⟩⟩⟩⟩⟩⟩⟩⟩⟩⟩⟩⟩⟩⟩⟩⟩
set_option maxRecDepth 100000 in
theorem in_wsL_law_r13 : ∀ w ∈ wsL_law_r13, w ∈ lw_tbl := List.forall_mem_cons.mpr ⟨List.mem_of_getElem? (i := 471) rfl, List.forall_mem_cons.mpr ⟨List.mem_of_getElem? (i := 472) rfl, List.forall_mem_cons.mpr ⟨List.mem_of_getElem? (i := 473) rfl, List.forall_mem_cons.mpr ⟨List.mem_of_getElem? (i := 474) rfl, List.forall_mem_cons.mpr ⟨List.mem_of_getElem? (i := 475) rfl, List.forall_mem_cons.mpr ⟨List.mem_of_getElem? (i := 476) rfl, List.forall_mem_cons.mpr ⟨List.mem_of_getElem? (i := 477) rfl, List.forall_mem_cons.mpr ⟨List.mem_of_getElem? (i := 478) rfl, List.forall_mem_cons.mpr ⟨List.mem_of_getElem? (i := 479) rfl, List.forall_mem_cons.mpr ⟨List.mem_of_getElem? (i := 480) rfl, List.forall_mem_cons.mpr ⟨List.mem_of_getElem? (i := 482) rfl, List.forall_mem_cons.mpr ⟨List.mem_of_getElem? (i := 9) rfl, List.forall_mem_cons.mpr ⟨List.mem_of_getElem? (i := 483) rfl, List.forall_mem_cons.mpr ⟨List.mem_of_getElem? (i := 484) rfl, List.forall_mem_cons.mpr ⟨List.mem_of_getElem? (i := 485) rfl, List.forall_mem_cons.mpr ⟨List.mem_of_getElem? (i := 486) rfl, List.forall_mem_cons.mpr ⟨List.mem_of_getElem? (i := 487) rfl, List.forall_mem_cons.mpr ⟨List.mem_of_getElem? (i := 488) rfl, List.forall_mem_cons.mpr ⟨List.mem_of_getElem? (i := 489) rfl, List.forall_mem_cons.mpr ⟨List.mem_of_getElem? (i := 490) rfl, List.forall_mem_cons.mpr ⟨List.mem_of_getElem? (i := 491) rfl, List.forall_mem_cons.mpr ⟨List.mem_of_getElem? (i := 492) rfl, List.forall_mem_cons.mpr ⟨List.mem_of_getElem? (i := 493) rfl, List.forall_mem_cons.mpr ⟨List.mem_of_getElem? (i := 494) rfl, (fun _ h => absurd h List.not_mem_nil)⟩⟩⟩⟩⟩⟩⟩⟩⟩⟩⟩⟩⟩⟩⟩⟩⟩⟩⟩⟩⟩⟩⟩⟩
set_option maxRecDepth 100000 in
theorem in_wsL_law_r14 : ∀ w ∈ wsL_law_r14, w ∈ lw_tbl := List.forall_mem_cons.mpr ⟨List.mem_of_getElem? (i := 495) rfl, List.forall_mem_cons.mpr ⟨List.mem_of_getElem? (i := 496) rfl, List.forall_mem_cons.mpr ⟨List.mem_of_getElem? (i := 498) rfl, List.forall_mem_cons.mpr ⟨List.mem_of_getElem? (i := 10) rfl, List.forall_mem_cons.mpr ⟨List.mem_of_getElem? (i := 499) rfl, List.forall_mem_cons.mpr ⟨List.mem_of_getElem? (i := 144) rfl, List.forall_mem_cons.mpr ⟨List.mem_of_getElem? (i := 500) rfl, List.forall_mem_cons.mpr ⟨List.mem_of_getElem? (i := 501) rfl, List.forall_mem_cons.mpr ⟨List.mem_of_getElem? (i := 502) rfl, List.forall_mem_cons.mpr ⟨List.mem_of_getElem? (i := 503) rfl, List.forall_mem_cons.mpr ⟨List.mem_of_getElem? (i := 504) rfl, List.forall_mem_cons.mpr ⟨List.mem_of_getElem? (i := 505) rfl, List.forall_mem_cons.mpr ⟨List.mem_of_getElem? (i := 506) rfl, List.forall_mem_cons.mpr ⟨List.mem_of_getElem? (i := 507) rfl, List.forall_mem_cons.mpr ⟨List.mem_of_getElem? (i := 508) rfl, List.forall_mem_cons.mpr ⟨List.mem_of_getElem? (i := 509) rfl, List.forall_mem_cons.mpr ⟨List.mem_of_getElem? (i := 510) rfl, List.forall_mem_cons.mpr ⟨List.mem_of_getElem? (i := 511) rfl, List.forall_mem_cons.mpr ⟨List.mem_of_getElem? (i := 512) rfl, List.forall_mem_cons.mpr ⟨List.mem_of_getElem? (i := 513) rfl, List.forall_mem_cons.mpr ⟨List.mem_of_getElem? (i := 514) rfl, List.forall_mem_cons.mpr ⟨List.mem_of_getElem? (i := 515) rfl, List.forall_mem_cons.mpr ⟨List.mem_of_getElem? (i := 186) rfl, List.forall_mem_cons.mpr ⟨List.mem_of_getElem? (i := 117) rfl, (fun _ h => absurd h List.not_mem_nil)⟩⟩⟩⟩⟩⟩⟩⟩⟩⟩⟩⟩⟩⟩⟩⟩⟩⟩⟩⟩⟩⟩⟩⟩
set_option maxRecDepth 100000 in
theorem in_wsL_law_r15 : ∀ w ∈ wsL_law_r15, w ∈ lw_tbl := List.forall_mem_cons.mpr ⟨List.mem_of_getElem? (i := 516) rfl, List.forall_mem_cons.mpr ⟨List.mem_of_getElem? (i := 517) rfl, List.forall_mem_cons.mpr ⟨List.mem_of_getElem? (i := 519) rfl, List.forall_mem_cons.mpr ⟨List.mem_of_getElem? (i := 11) rfl, List.forall_mem_cons.mpr ⟨List.mem_of_getElem? (i := 520) rfl, List.forall_mem_cons.mpr ⟨List.mem_of_getElem? (i := 235) rfl, List.forall_mem_cons.mpr ⟨List.mem_of_getElem? (i := 138) rfl, List.forall_mem_cons.mpr ⟨List.mem_of_getElem? (i := 122) rfl, List.forall_mem_cons.mpr ⟨List.mem_of_getElem? (i := 153) rfl, List.forall_mem_cons.mpr ⟨List.mem_of_getElem? (i := 521) rfl, List.forall_mem_cons.mpr ⟨List.mem_of_getElem? (i := 522) rfl, List.forall_mem_cons.mpr ⟨List.mem_of_getElem? (i := 523) rfl, List.forall_mem_cons.mpr ⟨List.mem_of_getElem? (i := 524) rfl, List.forall_mem_cons.mpr ⟨List.mem_of_getElem? (i := 526) rfl, List.forall_mem_cons.mpr ⟨List.mem_of_getElem? (i := 12) rfl, List.forall_mem_cons.mpr ⟨List.mem_of_getElem? (i := 527) rfl, List.forall_mem_cons.mpr ⟨List.mem_of_getElem? (i := 528) rfl, List.forall_mem_cons.mpr ⟨List.mem_of_getElem? (i := 529) rfl, List.forall_mem_cons.mpr ⟨List.mem_of_getElem? (i := 531) rfl, List.forall_mem_cons.mpr ⟨List.mem_of_getElem? (i := 13) rfl, List.forall_mem_cons.mpr ⟨List.mem_of_getElem? (i := 532) rfl, List.forall_mem_cons.mpr ⟨List.mem_of_getElem? (i := 129) rfl, List.forall_mem_cons.mpr ⟨List.mem_of_getElem? (i := 546) rfl, List.forall_mem_cons.mpr ⟨List.mem_of_getElem? (i := 547) rfl, (fun _ h => absurd h List.not_mem_nil)⟩⟩⟩⟩⟩⟩⟩⟩⟩⟩⟩⟩⟩⟩⟩⟩⟩⟩⟩⟩⟩⟩⟩⟩
set_option maxRecDepth 100000 in
theorem in_wsL_law_r16 : ∀ w ∈ wsL_law_r16, w ∈ lw_tbl := List.forall_mem_cons.mpr ⟨List.mem_of_getElem? (i := 92) rfl, List.forall_mem_cons.mpr ⟨List.mem_of_getElem? (i := 548) rfl, List.forall_mem_cons.mpr ⟨List.mem_of_getElem? (i := 533) rfl, List.forall_mem_cons.mpr ⟨List.mem_of_getElem? (i := 534) rfl, List.forall_mem_cons.mpr ⟨List.mem_of_getElem? (i := 535) rfl, List.forall_mem_cons.mpr ⟨List.mem_of_getElem? (i := 536) rfl, List.forall_mem_cons.mpr ⟨List.mem_of_getElem? (i := 537) rfl, List.forall_mem_cons.mpr ⟨List.mem_of_getElem? (i := 538) rfl, List.forall_mem_cons.mpr ⟨List.mem_of_getElem? (i := 539) rfl, List.forall_mem_cons.mpr ⟨List.mem_of_getElem? (i := 540) rfl, List.forall_mem_cons.mpr ⟨List.mem_of_getElem? (i := 541) rfl, List.forall_mem_cons.mpr ⟨List.mem_of_getElem? (i := 542) rfl, List.forall_mem_cons.mpr ⟨List.mem_of_getElem? (i := 544) rfl, List.forall_mem_cons.mpr ⟨List.mem_of_getElem? (i := 14) rfl, List.forall_mem_cons.mpr ⟨List.mem_of_getElem? (i := 545) rfl, List.forall_mem_cons.mpr ⟨List.mem_of_getElem? (i := 549) rfl, List.forall_mem_cons.mpr ⟨List.mem_of_getElem? (i := 550) rfl, List.forall_mem_cons.mpr ⟨List.mem_of_getElem? (i := 551) rfl, List.forall_mem_cons.mpr ⟨List.mem_of_getElem? (i := 553) rfl, List.forall_mem_cons.mpr ⟨List.mem_of_getElem? (i := 15) rfl, List.forall_mem_cons.mpr ⟨List.mem_of_getElem? (i := 554) rfl, List.forall_mem_cons.mpr ⟨List.mem_of_getElem? (i := 555) rfl, List.forall_mem_cons.mpr ⟨List.mem_of_getElem? (i := 556) rfl, List.forall_mem_cons.mpr ⟨List.mem_of_getElem? (i := 557) rfl, (fun _ h => absurd h List.not_mem_nil)⟩⟩⟩⟩⟩⟩⟩⟩⟩⟩⟩⟩⟩⟩⟩⟩⟩⟩⟩⟩⟩⟩⟩⟩
set_option maxRecDepth 100000 in
theorem in_wsL_law_r17 : ∀ w ∈ wsL_law_r17, w ∈ lw_tbl := List.forall_mem_cons.mpr ⟨List.mem_of_getElem? (i := 558) rfl, List.forall_mem_cons.mpr ⟨List.mem_of_getElem? (i := 559) rfl, List.forall_mem_cons.mpr ⟨List.mem_of_getElem? (i := 560) rfl, List.forall_mem_cons.mpr ⟨List.mem_of_getElem? (i := 561) rfl, List.forall_mem_cons.mpr ⟨List.mem_of_getElem? (i := 1040) rfl, List.forall_mem_cons.mpr ⟨List.mem_of_getElem? (i := 1041) rfl, List.forall_mem_cons.mpr ⟨List.mem_of_getElem? (i := 1042) rfl, List.forall_mem_cons.mpr ⟨List.mem_of_getElem? (i := 1043) rfl, List.forall_mem_cons.mpr ⟨List.mem_of_getElem? (i := 894) rfl, List.forall_mem_cons.mpr ⟨List.mem_of_getElem? (i := 893) rfl, List.forall_mem_cons.mpr ⟨List.mem_of_getElem? (i := 912) rfl, List.forall_mem_cons.mpr ⟨List.mem_of_getElem? (i := 1044) rfl, List.forall_mem_cons.mpr ⟨List.mem_of_getElem? (i := 1046) rfl, List.forall_mem_cons.mpr ⟨List.mem_of_getElem? (i := 41) rfl, List.forall_mem_cons.mpr ⟨List.mem_of_getElem? (i := 1047) rfl, List.forall_mem_cons.mpr ⟨List.mem_of_getElem? (i := 923) rfl, List.forall_mem_cons.mpr ⟨List.mem_of_getElem? (i := 1048) rfl, List.forall_mem_cons.mpr ⟨List.mem_of_getElem? (i := 1050) rfl, List.forall_mem_cons.mpr ⟨List.mem_of_getElem? (i := 42) rfl, List.forall_mem_cons.mpr ⟨List.mem_of_getElem? (i := 1051) rfl, List.forall_mem_cons.mpr ⟨List.mem_of_getElem? (i := 1052) rfl, List.forall_mem_cons.mpr ⟨List.mem_of_getElem? (i := 1054) rfl, List.forall_mem_cons.mpr ⟨List.mem_of_getElem? (i := 43) rfl, List.forall_mem_cons.mpr ⟨List.mem_of_getElem? (i := 1055) rfl, (fun _ h => absurd h List.not_mem_nil)⟩⟩⟩⟩⟩⟩⟩⟩⟩⟩⟩⟩⟩⟩⟩⟩⟩⟩⟩⟩⟩⟩⟩⟩
set_option maxRecDepth 100000 in
theorem in_wsL_law_r18 : ∀ w ∈ wsL_law_r18, w ∈ lw_tbl := List.forall_mem_cons.mpr ⟨List.mem_of_getElem? (i := 1056) rfl, List.forall_mem_cons.mpr ⟨List.mem_of_getElem? (i := 1058) rfl, List.forall_mem_cons.mpr ⟨List.mem_of_getElem? (i := 44) rfl, List.forall_mem_cons.mpr ⟨List.mem_of_getElem? (i := 1059) rfl, List.forall_mem_cons.mpr ⟨List.mem_of_getElem? (i := 1060) rfl, List.forall_mem_cons.mpr ⟨List.mem_of_getElem? (i := 1062) rfl, List.forall_mem_cons.mpr ⟨List.mem_of_getElem? (i := 45) rfl, List.forall_mem_cons.mpr ⟨List.mem_of_getElem? (i := 1063) rfl, List.forall_mem_cons.mpr ⟨List.mem_of_getElem? (i := 1064) rfl, List.forall_mem_cons.mpr ⟨List.mem_of_getElem? (i := 1066) rfl, List.forall_mem_cons.mpr ⟨List.mem_of_getElem? (i := 46) rfl, List.forall_mem_cons.mpr ⟨List.mem_of_getElem? (i := 1067) rfl, List.forall_mem_cons.mpr ⟨List.mem_of_getElem? (i := 1068) rfl, List.forall_mem_cons.mpr ⟨List.mem_of_getElem? (i := 1069) rfl, List.forall_mem_cons.mpr ⟨List.mem_of_getElem? (i := 1070) rfl, List.forall_mem_cons.mpr ⟨List.mem_of_getElem? (i := 1071) rfl, List.forall_mem_cons.mpr ⟨List.mem_of_getElem? (i := 1072) rfl, List.forall_mem_cons.mpr ⟨List.mem_of_getElem? (i := 1073) rfl, List.forall_mem_cons.mpr ⟨List.mem_of_getElem? (i := 1074) rfl, List.forall_mem_cons.mpr ⟨List.mem_of_getElem? (i := 1076) rfl, List.forall_mem_cons.mpr ⟨List.mem_of_getElem? (i := 47) rfl, List.forall_mem_cons.mpr ⟨List.mem_of_getElem? (i := 1077) rfl, List.forall_mem_cons.mpr ⟨List.mem_of_getElem? (i := 1078) rfl, List.forall_mem_cons.mpr ⟨List.mem_of_getElem? (i := 1079) rfl, (fun _ h => absurd h List.not_mem_nil)⟩⟩⟩⟩⟩⟩⟩⟩⟩⟩⟩⟩⟩⟩⟩⟩⟩⟩⟩⟩⟩⟩⟩⟩
set_option maxRecDepth 100000 in
theorem in_wsL_law_r19 : ∀ w ∈ wsL_law_r19, w ∈ lw_tbl := List.forall_mem_cons.mpr ⟨List.mem_of_getElem? (i := 1080) rfl, List.forall_mem_cons.mpr ⟨List.mem_of_getElem? (i := 1081) rfl, List.forall_mem_cons.mpr ⟨List.mem_of_getElem? (i := 1082) rfl, List.forall_mem_cons.mpr ⟨List.mem_of_getElem? (i := 1083) rfl, List.forall_mem_cons.mpr ⟨List.mem_of_getElem? (i := 1084) rfl, List.forall_mem_cons.mpr ⟨List.mem_of_getElem? (i := 1085) rfl, List.forall_mem_cons.mpr ⟨List.mem_of_getElem? (i := 1086) rfl, List.forall_mem_cons.mpr ⟨List.mem_of_getElem? (i := 1087) rfl, List.forall_mem_cons.mpr ⟨List.mem_of_getElem? (i := 1088) rfl, List.forall_mem_cons.mpr ⟨List.mem_of_getElem? (i := 1089) rfl, List.forall_mem_cons.mpr ⟨List.mem_of_getElem? (i := 1090) rfl, List.forall_mem_cons.mpr ⟨List.mem_of_getElem? (i := 1091) rfl, List.forall_mem_cons.mpr ⟨List.mem_of_getElem? (i := 1093) rfl, List.forall_mem_cons.mpr ⟨List.mem_of_getElem? (i := 48) rfl, List.forall_mem_cons.mpr ⟨List.mem_of_getElem? (i := 1094) rfl, List.forall_mem_cons.mpr ⟨List.mem_of_getElem? (i := 1095) rfl, List.forall_mem_cons.mpr ⟨List.mem_of_getElem? (i := 1097) rfl, List.forall_mem_cons.mpr ⟨List.mem_of_getElem? (i := 49) rfl, List.forall_mem_cons.mpr ⟨List.mem_of_getElem? (i := 1098) rfl, List.forall_mem_cons.mpr ⟨List.mem_of_getElem? (i := 1099) rfl, List.forall_mem_cons.mpr ⟨List.mem_of_getElem? (i := 1101) rfl, List.forall_mem_cons.mpr ⟨List.mem_of_getElem? (i := 50) rfl, List.forall_mem_cons.mpr ⟨List.mem_of_getElem? (i := 1102) rfl, List.forall_mem_cons.mpr ⟨List.mem_of_getElem? (i := 1103) rfl, (fun _ h => absurd h List.not_mem_nil)⟩⟩⟩⟩⟩⟩⟩⟩⟩⟩⟩⟩⟩⟩⟩⟩⟩⟩⟩⟩⟩⟩⟩⟩
set_option maxRecDepth 100000 in
theorem in_wsL_law_r20 : ∀ w ∈ wsL_law_r20, w ∈ lw_tbl := List.forall_mem_cons.mpr ⟨List.mem_of_getElem? (i := 1104) rfl, List.forall_mem_cons.mpr ⟨List.mem_of_getElem? (i := 1105) rfl, List.forall_mem_cons.mpr ⟨List.mem_of_getElem? (i := 1106) rfl, List.forall_mem_cons.mpr ⟨List.mem_of_getElem? (i := 1108) rfl, List.forall_mem_cons.mpr ⟨List.mem_of_getElem? (i := 51) rfl, List.forall_mem_cons.mpr ⟨List.mem_of_getElem? (i := 1109) rfl, List.forall_mem_cons.mpr ⟨List.mem_of_getElem? (i := 1110) rfl, List.forall_mem_cons.mpr ⟨List.mem_of_getElem? (i := 1112) rfl, List.forall_mem_cons.mpr ⟨List.mem_of_getElem? (i := 52) rfl, List.forall_mem_cons.mpr ⟨List.mem_of_getElem? (i := 1113) rfl, List.forall_mem_cons.mpr ⟨List.mem_of_getElem? (i := 562) rfl, List.forall_mem_cons.mpr ⟨List.mem_of_getElem? (i := 563) rfl, List.forall_mem_cons.mpr ⟨List.mem_of_getElem? (i := 564) rfl, List.forall_mem_cons.mpr ⟨List.mem_of_getElem? (i := 565) rfl, List.forall_mem_cons.mpr ⟨List.mem_of_getElem? (i := 566) rfl, List.forall_mem_cons.mpr ⟨List.mem_of_getElem? (i := 567) rfl, List.forall_mem_cons.mpr ⟨List.mem_of_getElem? (i := 568) rfl, List.forall_mem_cons.mpr ⟨List.mem_of_getElem? (i := 569) rfl, List.forall_mem_cons.mpr ⟨List.mem_of_getElem? (i := 570) rfl, List.forall_mem_cons.mpr ⟨List.mem_of_getElem? (i := 571) rfl, List.forall_mem_cons.mpr ⟨List.mem_of_getElem? (i := 572) rfl, List.forall_mem_cons.mpr ⟨List.mem_of_getElem? (i := 573) rfl, List.forall_mem_cons.mpr ⟨List.mem_of_getElem? (i := 574) rfl, List.forall_mem_cons.mpr ⟨List.mem_of_getElem? (i := 575) rfl, (fun _ h => absurd h List.not_mem_nil)⟩⟩⟩⟩⟩⟩⟩⟩⟩⟩⟩⟩⟩⟩⟩⟩⟩⟩⟩⟩⟩⟩⟩⟩
set_option maxRecDepth 100000 in
theorem in_wsL_law_r21 : ∀ w ∈ wsL_law_r21, w ∈ lw_tbl := List.forall_mem_cons.mpr ⟨List.mem_of_getElem? (i := 1114) rfl, List.forall_mem_cons.mpr ⟨List.mem_of_getElem? (i := 1115) rfl, List.forall_mem_cons.mpr ⟨List.mem_of_getElem? (i := 1116) rfl, List.forall_mem_cons.mpr ⟨List.mem_of_getElem? (i := 1117) rfl, List.forall_mem_cons.mpr ⟨List.mem_of_getElem? (i := 576) rfl, List.forall_mem_cons.mpr ⟨List.mem_of_getElem? (i := 577) rfl, List.forall_mem_cons.mpr ⟨List.mem_of_getElem? (i := 578) rfl, List.forall_mem_cons.mpr ⟨List.mem_of_getElem? (i := 579) rfl, List.forall_mem_cons.mpr ⟨List.mem_of_getElem? (i := 580) rfl, List.forall_mem_cons.mpr ⟨List.mem_of_getElem? (i := 581) rfl, List.forall_mem_cons.mpr ⟨List.mem_of_getElem? (i := 582) rfl, List.forall_mem_cons.mpr ⟨List.mem_of_getElem? (i := 583) rfl, List.forall_mem_cons.mpr ⟨List.mem_of_getElem? (i := 584) rfl, List.forall_mem_cons.mpr ⟨List.mem_of_getElem? (i := 257) rfl, List.forall_mem_cons.mpr ⟨List.mem_of_getElem? (i := 121) rfl, List.forall_mem_cons.mpr ⟨List.mem_of_getElem? (i := 585) rfl, List.forall_mem_cons.mpr ⟨List.mem_of_getElem? (i := 587) rfl, List.forall_mem_cons.mpr ⟨List.mem_of_getElem? (i := 16) rfl, List.forall_mem_cons.mpr ⟨List.mem_of_getElem? (i := 588) rfl, List.forall_mem_cons.mpr ⟨List.mem_of_getElem? (i := 589) rfl, List.forall_mem_cons.mpr ⟨List.mem_of_getElem? (i := 590) rfl, List.forall_mem_cons.mpr ⟨List.mem_of_getElem? (i := 591) rfl, List.forall_mem_cons.mpr ⟨List.mem_of_getElem? (i := 592) rfl, List.forall_mem_cons.mpr ⟨List.mem_of_getElem? (i := 593) rfl, (fun _ h => absurd h List.not_mem_nil)⟩⟩⟩⟩⟩⟩⟩⟩⟩⟩⟩⟩⟩⟩⟩⟩⟩⟩⟩⟩⟩⟩⟩⟩
set_option maxRecDepth 100000 in
theorem in_wsL_law_r22 : ∀ w ∈ wsL_law_r22, w ∈ lw_tbl := List.forall_mem_cons.mpr ⟨List.mem_of_getElem? (i := 594) rfl, List.forall_mem_cons.mpr ⟨List.mem_of_getElem? (i := 595) rfl, List.forall_mem_cons.mpr ⟨List.mem_of_getElem? (i := 596) rfl, List.forall_mem_cons.mpr ⟨List.mem_of_getElem? (i := 597) rfl, List.forall_mem_cons.mpr ⟨List.mem_of_getElem? (i := 598) rfl, List.forall_mem_cons.mpr ⟨List.mem_of_getElem? (i := 600) rfl, List.forall_mem_cons.mpr ⟨List.mem_of_getElem? (i := 17) rfl, List.forall_mem_cons.mpr ⟨List.mem_of_getElem? (i := 601) rfl, List.forall_mem_cons.mpr ⟨List.mem_of_getElem? (i := 602) rfl, List.forall_mem_cons.mpr ⟨List.mem_of_getElem? (i := 603) rfl, List.forall_mem_cons.mpr ⟨List.mem_of_getElem? (i := 605) rfl, List.forall_mem_cons.mpr ⟨List.mem_of_getElem? (i := 18) rfl, List.forall_mem_cons.mpr ⟨List.mem_of_getElem? (i := 606) rfl, List.forall_mem_cons.mpr ⟨List.mem_of_getElem? (i := 607) rfl, List.forall_mem_cons.mpr ⟨List.mem_of_getElem? (i := 609) rfl, List.forall_mem_cons.mpr ⟨List.mem_of_getElem? (i := 19) rfl, List.forall_mem_cons.mpr ⟨List.mem_of_getElem? (i := 610) rfl, List.forall_mem_cons.mpr ⟨List.mem_of_getElem? (i := 611) rfl, List.forall_mem_cons.mpr ⟨List.mem_of_getElem? (i := 612) rfl, List.forall_mem_cons.mpr ⟨List.mem_of_getElem? (i := 614) rfl, List.forall_mem_cons.mpr ⟨List.mem_of_getElem? (i := 20) rfl, List.forall_mem_cons.mpr ⟨List.mem_of_getElem? (i := 615) rfl, List.forall_mem_cons.mpr ⟨List.mem_of_getElem? (i := 616) rfl, List.forall_mem_cons.mpr ⟨List.mem_of_getElem? (i := 617) rfl, (fun _ h => absurd h List.not_mem_nil)⟩⟩⟩⟩⟩⟩⟩⟩⟩⟩⟩⟩⟩⟩⟩⟩⟩⟩⟩⟩⟩⟩⟩⟩
set_option maxRecDepth 100000 in
theorem in_wsL_law_r23 : ∀ w ∈ wsL_law_r23, w ∈ lw_tbl := List.forall_mem_cons.mpr ⟨List.mem_of_getElem? (i := 619) rfl, List.forall_mem_cons.mpr ⟨List.mem_of_getElem? (i := 21) rfl, List.forall_mem_cons.mpr ⟨List.mem_of_getElem? (i := 620) rfl, List.forall_mem_cons.mpr ⟨List.mem_of_getElem? (i := 621) rfl, List.forall_mem_cons.mpr ⟨List.mem_of_getElem? (i := 622) rfl, List.forall_mem_cons.mpr ⟨List.mem_of_getElem? (i := 623) rfl, List.forall_mem_cons.mpr ⟨List.mem_of_getElem? (i := 625) rfl, List.forall_mem_cons.mpr ⟨List.mem_of_getElem? (i := 22) rfl, List.forall_mem_cons.mpr ⟨List.mem_of_getElem? (i := 626) rfl, List.forall_mem_cons.mpr ⟨List.mem_of_getElem? (i := 627) rfl, List.forall_mem_cons.mpr ⟨List.mem_of_getElem? (i := 628) rfl, List.forall_mem_cons.mpr ⟨List.mem_of_getElem? (i := 630) rfl, List.forall_mem_cons.mpr ⟨List.mem_of_getElem? (i := 23) rfl, List.forall_mem_cons.mpr ⟨List.mem_of_getElem? (i := 631) rfl, List.forall_mem_cons.mpr ⟨List.mem_of_getElem? (i := 632) rfl, List.forall_mem_cons.mpr ⟨List.mem_of_getElem? (i := 633) rfl, List.forall_mem_cons.mpr ⟨List.mem_of_getElem? (i := 635) rfl, List.forall_mem_cons.mpr ⟨List.mem_of_getElem? (i := 24) rfl, List.forall_mem_cons.mpr ⟨List.mem_of_getElem? (i := 636) rfl, List.forall_mem_cons.mpr ⟨List.mem_of_getElem? (i := 637) rfl, List.forall_mem_cons.mpr ⟨List.mem_of_getElem? (i := 638) rfl, List.forall_mem_cons.mpr ⟨List.mem_of_getElem? (i := 639) rfl, List.forall_mem_cons.mpr ⟨List.mem_of_getElem? (i := 640) rfl, List.forall_mem_cons.mpr ⟨List.mem_of_getElem? (i := 641) rfl, (fun _ h => absurd h List.not_mem_nil)⟩⟩⟩⟩⟩⟩⟩⟩⟩⟩⟩⟩⟩⟩⟩⟩⟩⟩⟩⟩⟩⟩⟩⟩
set_option maxRecDepth 100000 in
theorem in_wsL_law_r24 : ∀ w ∈ wsL_law_r24, w ∈ lw_tbl := List.forall_mem_cons.mpr ⟨List.mem_of_getElem? (i := 127) rfl, List.forall_mem_cons.mpr ⟨List.mem_of_getElem? (i := 133) rfl, List.forall_mem_cons.mpr ⟨List.mem_of_getElem? (i := 142) rfl, List.forall_mem_cons.mpr ⟨List.mem_of_getElem? (i := 185) rfl, List.forall_mem_cons.mpr ⟨List.mem_of_getElem? (i := 118) rfl, List.forall_mem_cons.mpr ⟨List.mem_of_getElem? (i := 642) rfl, List.forall_mem_cons.mpr ⟨List.mem_of_getElem? (i := 643) rfl, List.forall_mem_cons.mpr ⟨List.mem_of_getElem? (i := 645) rfl, List.forall_mem_cons.mpr ⟨List.mem_of_getElem? (i := 25) rfl, List.forall_mem_cons.mpr ⟨List.mem_of_getElem? (i := 646) rfl, List.forall_mem_cons.mpr ⟨List.mem_of_getElem? (i := 647) rfl, List.forall_mem_cons.mpr ⟨List.mem_of_getElem? (i := 648) rfl, List.forall_mem_cons.mpr ⟨List.mem_of_getElem? (i := 649) rfl, List.forall_mem_cons.mpr ⟨List.mem_of_getElem? (i := 650) rfl, List.forall_mem_cons.mpr ⟨List.mem_of_getElem? (i := 651) rfl, List.forall_mem_cons.mpr ⟨List.mem_of_getElem? (i := 652) rfl, List.forall_mem_cons.mpr ⟨List.mem_of_getElem? (i := 653) rfl, List.forall_mem_cons.mpr ⟨List.mem_of_getElem? (i := 655) rfl, List.forall_mem_cons.mpr ⟨List.mem_of_getElem? (i := 26) rfl, List.forall_mem_cons.mpr ⟨List.mem_of_getElem? (i := 656) rfl, List.forall_mem_cons.mpr ⟨List.mem_of_getElem? (i := 147) rfl, List.forall_mem_cons.mpr ⟨List.mem_of_getElem? (i := 151) rfl, List.forall_mem_cons.mpr ⟨List.mem_of_getElem? (i := 657) rfl, List.forall_mem_cons.mpr ⟨List.mem_of_getElem? (i := 658) rfl, (fun _ h => absurd h List.not_mem_nil)⟩⟩⟩⟩⟩⟩⟩⟩⟩⟩⟩⟩⟩⟩⟩⟩⟩⟩⟩⟩⟩⟩⟩⟩
set_option maxRecDepth 100000 in
theorem in_wsL_law_r25 : ∀ w ∈ wsL_law_r25, w ∈ lw_tbl := List.forall_mem_cons.mpr ⟨List.mem_of_getElem? (i := 659) rfl, List.forall_mem_cons.mpr ⟨List.mem_of_getElem? (i := 660) rfl, List.forall_mem_cons.mpr ⟨List.mem_of_getElem? (i := 661) rfl, List.forall_mem_cons.mpr ⟨List.mem_of_getElem? (i := 663) rfl, List.forall_mem_cons.mpr ⟨List.mem_of_getElem? (i := 27) rfl, List.forall_mem_cons.mpr ⟨List.mem_of_getElem? (i := 664) rfl, List.forall_mem_cons.mpr ⟨List.mem_of_getElem? (i := 140) rfl, List.forall_mem_cons.mpr ⟨List.mem_of_getElem? (i := 665) rfl, List.forall_mem_cons.mpr ⟨List.mem_of_getElem? (i := 666) rfl, List.forall_mem_cons.mpr ⟨List.mem_of_getElem? (i := 667) rfl, List.forall_mem_cons.mpr ⟨List.mem_of_getElem? (i := 668) rfl, List.forall_mem_cons.mpr ⟨List.mem_of_getElem? (i := 669) rfl, List.forall_mem_cons.mpr ⟨List.mem_of_getElem? (i := 670) rfl, List.forall_mem_cons.mpr ⟨List.mem_of_getElem? (i := 125) rfl, List.forall_mem_cons.mpr ⟨List.mem_of_getElem? (i := 671) rfl, List.forall_mem_cons.mpr ⟨List.mem_of_getElem? (i := 1142) rfl, List.forall_mem_cons.mpr ⟨List.mem_of_getElem? (i := 1143) rfl, List.forall_mem_cons.mpr ⟨List.mem_of_getElem? (i := 1144) rfl, List.forall_mem_cons.mpr ⟨List.mem_of_getElem? (i := 1145) rfl, List.forall_mem_cons.mpr ⟨List.mem_of_getElem? (i := 921) rfl, List.forall_mem_cons.mpr ⟨List.mem_of_getElem? (i := 1146) rfl, List.forall_mem_cons.mpr ⟨List.mem_of_getElem? (i := 1148) rfl, List.forall_mem_cons.mpr ⟨List.mem_of_getElem? (i := 58) rfl, List.forall_mem_cons.mpr ⟨List.mem_of_getElem? (i := 1149) rfl, (fun _ h => absurd h List.not_mem_nil)⟩⟩⟩⟩⟩⟩⟩⟩⟩⟩⟩⟩⟩⟩⟩⟩⟩⟩⟩⟩⟩⟩⟩⟩
set_option maxRecDepth 100000 in
theorem in_wsL_law_r26 : ∀ w ∈ wsL_law_r26, w ∈ lw_tbl := List.forall_mem_cons.mpr ⟨List.mem_of_getElem? (i := 1126) rfl, List.forall_mem_cons.mpr ⟨List.mem_of_getElem? (i := 1128) rfl, List.forall_mem_cons.mpr ⟨List.mem_of_getElem? (i := 54) rfl, List.forall_mem_cons.mpr ⟨List.mem_of_getElem? (i := 1129) rfl, List.forall_mem_cons.mpr ⟨List.mem_of_getElem? (i := 1130) rfl, List.forall_mem_cons.mpr ⟨List.mem_of_getElem? (i := 1132) rfl, List.forall_mem_cons.mpr ⟨List.mem_of_getElem? (i := 55) rfl, List.forall_mem_cons.mpr ⟨List.mem_of_getElem? (i := 1133) rfl, List.forall_mem_cons.mpr ⟨List.mem_of_getElem? (i := 1134) rfl, List.forall_mem_cons.mpr ⟨List.mem_of_getElem? (i := 1136) rfl, List.forall_mem_cons.mpr ⟨List.mem_of_getElem? (i := 56) rfl, List.forall_mem_cons.mpr ⟨List.mem_of_getElem? (i := 1137) rfl, List.forall_mem_cons.mpr ⟨List.mem_of_getElem? (i := 1150) rfl, List.forall_mem_cons.mpr ⟨List.mem_of_getElem? (i := 1152) rfl, List.forall_mem_cons.mpr ⟨List.mem_of_getElem? (i := 59) rfl, List.forall_mem_cons.mpr ⟨List.mem_of_getElem? (i := 1153) rfl, List.forall_mem_cons.mpr ⟨List.mem_of_getElem? (i := 1138) rfl, List.forall_mem_cons.mpr ⟨List.mem_of_getElem? (i := 1140) rfl, List.forall_mem_cons.mpr ⟨List.mem_of_getElem? (i := 57) rfl, List.forall_mem_cons.mpr ⟨List.mem_of_getElem? (i := 1141) rfl, List.forall_mem_cons.mpr ⟨List.mem_of_getElem? (i := 1154) rfl, List.forall_mem_cons.mpr ⟨List.mem_of_getElem? (i := 1155) rfl, List.forall_mem_cons.mpr ⟨List.mem_of_getElem? (i := 1156) rfl, List.forall_mem_cons.mpr ⟨List.mem_of_getElem? (i := 1157) rfl, (fun _ h => absurd h List.not_mem_nil)⟩⟩⟩⟩⟩⟩⟩⟩⟩⟩⟩⟩⟩⟩⟩⟩⟩⟩⟩⟩⟩⟩⟩⟩
set_option maxRecDepth 100000 in
theorem in_wsL_law_r27 : ∀ w ∈ wsL_law_r27, w ∈ lw_tbl := List.forall_mem_cons.mpr ⟨List.mem_of_getElem? (i := 1159) rfl, List.forall_mem_cons.mpr ⟨List.mem_of_getElem? (i := 60) rfl, List.forall_mem_cons.mpr ⟨List.mem_of_getElem? (i := 1160) rfl, List.forall_mem_cons.mpr ⟨List.mem_of_getElem? (i := 1161) rfl, List.forall_mem_cons.mpr ⟨List.mem_of_getElem? (i := 1163) rfl, List.forall_mem_cons.mpr ⟨List.mem_of_getElem? (i := 61) rfl, List.forall_mem_cons.mpr ⟨List.mem_of_getElem? (i := 1164) rfl, List.forall_mem_cons.mpr ⟨List.mem_of_getElem? (i := 672) rfl, List.forall_mem_cons.mpr ⟨List.mem_of_getElem? (i := 673) rfl, List.forall_mem_cons.mpr ⟨List.mem_of_getElem? (i := 674) rfl, List.forall_mem_cons.mpr ⟨List.mem_of_getElem? (i := 675) rfl, List.forall_mem_cons.mpr ⟨List.mem_of_getElem? (i := 124) rfl, List.forall_mem_cons.mpr ⟨List.mem_of_getElem? (i := 143) rfl, List.forall_mem_cons.mpr ⟨List.mem_of_getElem? (i := 139) rfl, List.forall_mem_cons.mpr ⟨List.mem_of_getElem? (i := 146) rfl, List.forall_mem_cons.mpr ⟨List.mem_of_getElem? (i := 149) rfl, List.forall_mem_cons.mpr ⟨List.mem_of_getElem? (i := 154) rfl, List.forall_mem_cons.mpr ⟨List.mem_of_getElem? (i := 676) rfl, List.forall_mem_cons.mpr ⟨List.mem_of_getElem? (i := 1165) rfl, List.forall_mem_cons.mpr ⟨List.mem_of_getElem? (i := 1166) rfl, List.forall_mem_cons.mpr ⟨List.mem_of_getElem? (i := 1167) rfl, List.forall_mem_cons.mpr ⟨List.mem_of_getElem? (i := 1168) rfl, List.forall_mem_cons.mpr ⟨List.mem_of_getElem? (i := 1122) rfl, List.forall_mem_cons.mpr ⟨List.mem_of_getElem? (i := 1124) rfl, (fun _ h => absurd h List.not_mem_nil)⟩⟩⟩⟩⟩⟩⟩⟩⟩⟩⟩⟩⟩⟩⟩⟩⟩⟩⟩⟩⟩⟩⟩⟩
set_option maxRecDepth 100000 in
theorem in_wsL_law_r28 : ∀ w ∈ wsL_law_r28, w ∈ lw_tbl := List.forall_mem_cons.mpr ⟨List.mem_of_getElem? (i := 53) rfl, List.forall_mem_cons.mpr ⟨List.mem_of_getElem? (i := 1125) rfl, List.forall_mem_cons.mpr ⟨List.mem_of_getElem? (i := 1169) rfl, List.forall_mem_cons.mpr ⟨List.mem_of_getElem? (i := 1171) rfl, List.forall_mem_cons.mpr ⟨List.mem_of_getElem? (i := 62) rfl, List.forall_mem_cons.mpr ⟨List.mem_of_getElem? (i := 1172) rfl, List.forall_mem_cons.mpr ⟨List.mem_of_getElem? (i := 1173) rfl, List.forall_mem_cons.mpr ⟨List.mem_of_getElem? (i := 1175) rfl, List.forall_mem_cons.mpr ⟨List.mem_of_getElem? (i := 63) rfl, List.forall_mem_cons.mpr ⟨List.mem_of_getElem? (i := 1176) rfl, List.forall_mem_cons.mpr ⟨List.mem_of_getElem? (i := 677) rfl, List.forall_mem_cons.mpr ⟨List.mem_of_getElem? (i := 678) rfl, List.forall_mem_cons.mpr ⟨List.mem_of_getElem? (i := 679) rfl, List.forall_mem_cons.mpr ⟨List.mem_of_getElem? (i := 680) rfl, List.forall_mem_cons.mpr ⟨List.mem_of_getElem? (i := 681) rfl, List.forall_mem_cons.mpr ⟨List.mem_of_getElem? (i := 1177) rfl, List.forall_mem_cons.mpr ⟨List.mem_of_getElem? (i := 1178) rfl, List.forall_mem_cons.mpr ⟨List.mem_of_getElem? (i := 1179) rfl, List.forall_mem_cons.mpr ⟨List.mem_of_getElem? (i := 1180) rfl, List.forall_mem_cons.mpr ⟨List.mem_of_getElem? (i := 682) rfl, List.forall_mem_cons.mpr ⟨List.mem_of_getElem? (i := 683) rfl, List.forall_mem_cons.mpr ⟨List.mem_of_getElem? (i := 684) rfl, List.forall_mem_cons.mpr ⟨List.mem_of_getElem? (i := 685) rfl, List.forall_mem_cons.mpr ⟨List.mem_of_getElem? (i := 686) rfl, (fun _ h => absurd h List.not_mem_nil)⟩⟩⟩⟩⟩⟩⟩⟩⟩⟩⟩⟩⟩⟩⟩⟩⟩⟩⟩⟩⟩⟩⟩⟩
set_option maxRecDepth 100000 in
theorem in_wsL_law_r29 : ∀ w ∈ wsL_law_r29, w ∈ lw_tbl := List.forall_mem_cons.mpr ⟨List.mem_of_getElem? (i := 1181) rfl, List.forall_mem_cons.mpr ⟨List.mem_of_getElem? (i := 1182) rfl, List.forall_mem_cons.mpr ⟨List.mem_of_getElem? (i := 1183) rfl, List.forall_mem_cons.mpr ⟨List.mem_of_getElem? (i := 1184) rfl, List.forall_mem_cons.mpr ⟨List.mem_of_getElem? (i := 687) rfl, List.forall_mem_cons.mpr ⟨List.mem_of_getElem? (i := 688) rfl, List.forall_mem_cons.mpr ⟨List.mem_of_getElem? (i := 689) rfl, List.forall_mem_cons.mpr ⟨List.mem_of_getElem? (i := 690) rfl, List.forall_mem_cons.mpr ⟨List.mem_of_getElem? (i := 691) rfl, List.forall_mem_cons.mpr ⟨List.mem_of_getElem? (i := 692) rfl, List.forall_mem_cons.mpr ⟨List.mem_of_getElem? (i := 693) rfl, List.forall_mem_cons.mpr ⟨List.mem_of_getElem? (i := 694) rfl, List.forall_mem_cons.mpr ⟨List.mem_of_getElem? (i := 695) rfl, List.forall_mem_cons.mpr ⟨List.mem_of_getElem? (i := 1118) rfl, List.forall_mem_cons.mpr ⟨List.mem_of_getElem? (i := 1119) rfl, List.forall_mem_cons.mpr ⟨List.mem_of_getElem? (i := 1120) rfl, List.forall_mem_cons.mpr ⟨List.mem_of_getElem? (i := 1121) rfl, List.forall_mem_cons.mpr ⟨List.mem_of_getElem? (i := 696) rfl, List.forall_mem_cons.mpr ⟨List.mem_of_getElem? (i := 697) rfl, List.forall_mem_cons.mpr ⟨List.mem_of_getElem? (i := 698) rfl, List.forall_mem_cons.mpr ⟨List.mem_of_getElem? (i := 699) rfl, List.forall_mem_cons.mpr ⟨List.mem_of_getElem? (i := 700) rfl, List.forall_mem_cons.mpr ⟨List.mem_of_getElem? (i := 701) rfl, List.forall_mem_cons.mpr ⟨List.mem_of_getElem? (i := 702) rfl, (fun _ h => absurd h List.not_mem_nil)⟩⟩⟩⟩⟩⟩⟩⟩⟩⟩⟩⟩⟩⟩⟩⟩⟩⟩⟩⟩⟩⟩⟩⟩
set_option maxRecDepth 100000 in
theorem in_wsL_law_r30 : ∀ w ∈ wsL_law_r30, w ∈ lw_tbl := List.forall_mem_cons.mpr ⟨List.mem_of_getElem? (i := 703) rfl, List.forall_mem_cons.mpr ⟨List.mem_of_getElem? (i := 704) rfl, List.forall_mem_cons.mpr ⟨List.mem_of_getElem? (i := 322) rfl, List.forall_mem_cons.mpr ⟨List.mem_of_getElem? (i := 303) rfl, List.forall_mem_cons.mpr ⟨List.mem_of_getElem? (i := 128) rfl, List.forall_mem_cons.mpr ⟨List.mem_of_getElem? (i := 321) rfl, List.forall_mem_cons.mpr ⟨List.mem_of_getElem? (i := 728) rfl, List.forall_mem_cons.mpr ⟨List.mem_of_getElem? (i := 705) rfl, List.forall_mem_cons.mpr ⟨List.mem_of_getElem? (i := 706) rfl, List.forall_mem_cons.mpr ⟨List.mem_of_getElem? (i := 707) rfl, List.forall_mem_cons.mpr ⟨List.mem_of_getElem? (i := 708) rfl, List.forall_mem_cons.mpr ⟨List.mem_of_getElem? (i := 323) rfl, List.forall_mem_cons.mpr ⟨List.mem_of_getElem? (i := 325) rfl, List.forall_mem_cons.mpr ⟨List.mem_of_getElem? (i := 327) rfl, List.forall_mem_cons.mpr ⟨List.mem_of_getElem? (i := 709) rfl, List.forall_mem_cons.mpr ⟨List.mem_of_getElem? (i := 710) rfl, List.forall_mem_cons.mpr ⟨List.mem_of_getElem? (i := 711) rfl, List.forall_mem_cons.mpr ⟨List.mem_of_getElem? (i := 712) rfl, List.forall_mem_cons.mpr ⟨List.mem_of_getElem? (i := 713) rfl, List.forall_mem_cons.mpr ⟨List.mem_of_getElem? (i := 714) rfl, List.forall_mem_cons.mpr ⟨List.mem_of_getElem? (i := 716) rfl, List.forall_mem_cons.mpr ⟨List.mem_of_getElem? (i := 28) rfl, List.forall_mem_cons.mpr ⟨List.mem_of_getElem? (i := 717) rfl, List.forall_mem_cons.mpr ⟨List.mem_of_getElem? (i := 718) rfl, (fun _ h => absurd h List.not_mem_nil)⟩⟩⟩⟩⟩⟩⟩⟩⟩⟩⟩⟩⟩⟩⟩⟩⟩⟩⟩⟩⟩⟩⟩⟩
set_option maxRecDepth 100000 in
theorem in_wsL_law_r31 : ∀ w ∈ wsL_law_r31, w ∈ lw_tbl := List.forall_mem_cons.mpr ⟨List.mem_of_getElem? (i := 719) rfl, List.forall_mem_cons.mpr ⟨List.mem_of_getElem? (i := 720) rfl, List.forall_mem_cons.mpr ⟨List.mem_of_getElem? (i := 721) rfl, List.forall_mem_cons.mpr ⟨List.mem_of_getElem? (i := 304) rfl, List.forall_mem_cons.mpr ⟨List.mem_of_getElem? (i := 301) rfl, List.forall_mem_cons.mpr ⟨List.mem_of_getElem? (i := 722) rfl, List.forall_mem_cons.mpr ⟨List.mem_of_getElem? (i := 723) rfl, List.forall_mem_cons.mpr ⟨List.mem_of_getElem? (i := 724) rfl, List.forall_mem_cons.mpr ⟨List.mem_of_getElem? (i := 725) rfl, List.forall_mem_cons.mpr ⟨List.mem_of_getElem? (i := 726) rfl, List.forall_mem_cons.mpr ⟨List.mem_of_getElem? (i := 727) rfl, List.forall_mem_cons.mpr ⟨List.mem_of_getElem? (i := 729) rfl, List.forall_mem_cons.mpr ⟨List.mem_of_getElem? (i := 731) rfl, List.forall_mem_cons.mpr ⟨List.mem_of_getElem? (i := 29) rfl, List.forall_mem_cons.mpr ⟨List.mem_of_getElem? (i := 732) rfl, List.forall_mem_cons.mpr ⟨List.mem_of_getElem? (i := 305) rfl, List.forall_mem_cons.mpr ⟨List.mem_of_getElem? (i := 755) rfl, List.forall_mem_cons.mpr ⟨List.mem_of_getElem? (i := 733) rfl, List.forall_mem_cons.mpr ⟨List.mem_of_getElem? (i := 734) rfl, List.forall_mem_cons.mpr ⟨List.mem_of_getElem? (i := 735) rfl, List.forall_mem_cons.mpr ⟨List.mem_of_getElem? (i := 736) rfl, List.forall_mem_cons.mpr ⟨List.mem_of_getElem? (i := 737) rfl, List.forall_mem_cons.mpr ⟨List.mem_of_getElem? (i := 738) rfl, List.forall_mem_cons.mpr ⟨List.mem_of_getElem? (i := 739) rfl, (fun _ h => absurd h List.not_mem_nil)⟩⟩⟩⟩⟩⟩⟩⟩⟩⟩⟩⟩⟩⟩⟩⟩⟩⟩⟩⟩⟩⟩⟩⟩
set_option maxRecDepth 100000 in
theorem in_wsL_law_r32 : ∀ w ∈ wsL_law_r32, w ∈ lw_tbl := List.forall_mem_cons.mpr ⟨List.mem_of_getElem? (i := 740) rfl, List.forall_mem_cons.mpr ⟨List.mem_of_getElem? (i := 741) rfl, List.forall_mem_cons.mpr ⟨List.mem_of_getElem? (i := 742) rfl, List.forall_mem_cons.mpr ⟨List.mem_of_getElem? (i := 743) rfl, List.forall_mem_cons.mpr ⟨List.mem_of_getElem? (i := 744) rfl, List.forall_mem_cons.mpr ⟨List.mem_of_getElem? (i := 745) rfl, List.forall_mem_cons.mpr ⟨List.mem_of_getElem? (i := 746) rfl, List.forall_mem_cons.mpr ⟨List.mem_of_getElem? (i := 748) rfl, List.forall_mem_cons.mpr ⟨List.mem_of_getElem? (i := 30) rfl, List.forall_mem_cons.mpr ⟨List.mem_of_getElem? (i := 749) rfl, List.forall_mem_cons.mpr ⟨List.mem_of_getElem? (i := 750) rfl, List.forall_mem_cons.mpr ⟨List.mem_of_getElem? (i := 751) rfl, List.forall_mem_cons.mpr ⟨List.mem_of_getElem? (i := 752) rfl, List.forall_mem_cons.mpr ⟨List.mem_of_getElem? (i := 753) rfl, List.forall_mem_cons.mpr ⟨List.mem_of_getElem? (i := 754) rfl, List.forall_mem_cons.mpr ⟨List.mem_of_getElem? (i := 756) rfl, List.forall_mem_cons.mpr ⟨List.mem_of_getElem? (i := 758) rfl, List.forall_mem_cons.mpr ⟨List.mem_of_getElem? (i := 31) rfl, List.forall_mem_cons.mpr ⟨List.mem_of_getElem? (i := 759) rfl, List.forall_mem_cons.mpr ⟨List.mem_of_getElem? (i := 760) rfl, List.forall_mem_cons.mpr ⟨List.mem_of_getElem? (i := 761) rfl, List.forall_mem_cons.mpr ⟨List.mem_of_getElem? (i := 762) rfl, List.forall_mem_cons.mpr ⟨List.mem_of_getElem? (i := 763) rfl, List.forall_mem_cons.mpr ⟨List.mem_of_getElem? (i := 764) rfl, (fun _ h => absurd h List.not_mem_nil)⟩⟩⟩⟩⟩⟩⟩⟩⟩⟩⟩⟩⟩⟩⟩⟩⟩⟩⟩⟩⟩⟩⟩⟩
set_option maxRecDepth 100000 in
theorem in_wsL_law_r33 : ∀ w ∈ wsL_law_r33, w ∈ lw_tbl := List.forall_mem_cons.mpr ⟨List.mem_of_getElem? (i := 765) rfl, List.forall_mem_cons.mpr ⟨List.mem_of_getElem? (i := 766) rfl, List.forall_mem_cons.mpr ⟨List.mem_of_getElem? (i := 767) rfl, List.forall_mem_cons.mpr ⟨List.mem_of_getElem? (i := 768) rfl, List.forall_mem_cons.mpr ⟨List.mem_of_getElem? (i := 770) rfl, List.forall_mem_cons.mpr ⟨List.mem_of_getElem? (i := 32) rfl, List.forall_mem_cons.mpr ⟨List.mem_of_getElem? (i := 771) rfl, List.forall_mem_cons.mpr ⟨List.mem_of_getElem? (i := 772) rfl, List.forall_mem_cons.mpr ⟨List.mem_of_getElem? (i := 773) rfl, List.forall_mem_cons.mpr ⟨List.mem_of_getElem? (i := 774) rfl, List.forall_mem_cons.mpr ⟨List.mem_of_getElem? (i := 775) rfl, List.forall_mem_cons.mpr ⟨List.mem_of_getElem? (i := 776) rfl, List.forall_mem_cons.mpr ⟨List.mem_of_getElem? (i := 777) rfl, List.forall_mem_cons.mpr ⟨List.mem_of_getElem? (i := 778) rfl, List.forall_mem_cons.mpr ⟨List.mem_of_getElem? (i := 780) rfl, List.forall_mem_cons.mpr ⟨List.mem_of_getElem? (i := 33) rfl, List.forall_mem_cons.mpr ⟨List.mem_of_getElem? (i := 781) rfl, List.forall_mem_cons.mpr ⟨List.mem_of_getElem? (i := 782) rfl, List.forall_mem_cons.mpr ⟨List.mem_of_getElem? (i := 783) rfl, List.forall_mem_cons.mpr ⟨List.mem_of_getElem? (i := 784) rfl, List.forall_mem_cons.mpr ⟨List.mem_of_getElem? (i := 785) rfl, List.forall_mem_cons.mpr ⟨List.mem_of_getElem? (i := 786) rfl, List.forall_mem_cons.mpr ⟨List.mem_of_getElem? (i := 787) rfl, List.forall_mem_cons.mpr ⟨List.mem_of_getElem? (i := 789) rfl, (fun _ h => absurd h List.not_mem_nil)⟩⟩⟩⟩⟩⟩⟩⟩⟩⟩⟩⟩⟩⟩⟩⟩⟩⟩⟩⟩⟩⟩⟩⟩
set_option maxRecDepth 100000 in
theorem in_wsL_law_r34 : ∀ w ∈ wsL_law_r34, w ∈ lw_tbl := List.forall_mem_cons.mpr ⟨List.mem_of_getElem? (i := 34) rfl, List.forall_mem_cons.mpr ⟨List.mem_of_getElem? (i := 790) rfl, List.forall_mem_cons.mpr ⟨List.mem_of_getElem? (i := 791) rfl, List.forall_mem_cons.mpr ⟨List.mem_of_getElem? (i := 792) rfl, List.forall_mem_cons.mpr ⟨List.mem_of_getElem? (i := 793) rfl, List.forall_mem_cons.mpr ⟨List.mem_of_getElem? (i := 794) rfl, List.forall_mem_cons.mpr ⟨List.mem_of_getElem? (i := 795) rfl, List.forall_mem_cons.mpr ⟨List.mem_of_getElem? (i := 796) rfl, List.forall_mem_cons.mpr ⟨List.mem_of_getElem? (i := 797) rfl, List.forall_mem_cons.mpr ⟨List.mem_of_getElem? (i := 799) rfl, List.forall_mem_cons.mpr ⟨List.mem_of_getElem? (i := 35) rfl, List.forall_mem_cons.mpr ⟨List.mem_of_getElem? (i := 800) rfl, List.forall_mem_cons.mpr ⟨List.mem_of_getElem? (i := 801) rfl, List.forall_mem_cons.mpr ⟨List.mem_of_getElem? (i := 802) rfl, List.forall_mem_cons.mpr ⟨List.mem_of_getElem? (i := 803) rfl, List.forall_mem_cons.mpr ⟨List.mem_of_getElem? (i := 804) rfl, List.forall_mem_cons.mpr ⟨List.mem_of_getElem? (i := 805) rfl, List.forall_mem_cons.mpr ⟨List.mem_of_getElem? (i := 806) rfl, List.forall_mem_cons.mpr ⟨List.mem_of_getElem? (i := 807) rfl, List.forall_mem_cons.mpr ⟨List.mem_of_getElem? (i := 808) rfl, List.forall_mem_cons.mpr ⟨List.mem_of_getElem? (i := 809) rfl, List.forall_mem_cons.mpr ⟨List.mem_of_getElem? (i := 810) rfl, List.forall_mem_cons.mpr ⟨List.mem_of_getElem? (i := 811) rfl, List.forall_mem_cons.mpr ⟨List.mem_of_getElem? (i := 812) rfl, (fun _ h => absurd h List.not_mem_nil)⟩⟩⟩⟩⟩⟩⟩⟩⟩⟩⟩⟩⟩⟩⟩⟩⟩⟩⟩⟩⟩⟩⟩⟩
set_option maxRecDepth 100000 in
theorem in_wsL_law_r35 : ∀ w ∈ wsL_law_r35, w ∈ lw_tbl := List.forall_mem_cons.mpr ⟨List.mem_of_getElem? (i := 813) rfl, List.forall_mem_cons.mpr ⟨List.mem_of_getElem? (i := 814) rfl, List.forall_mem_cons.mpr ⟨List.mem_of_getElem? (i := 815) rfl, List.forall_mem_cons.mpr ⟨List.mem_of_getElem? (i := 816) rfl, List.forall_mem_cons.mpr ⟨List.mem_of_getElem? (i := 817) rfl, List.forall_mem_cons.mpr ⟨List.mem_of_getElem? (i := 818) rfl, List.forall_mem_cons.mpr ⟨List.mem_of_getElem? (i := 819) rfl, List.forall_mem_cons.mpr ⟨List.mem_of_getElem? (i := 820) rfl, List.forall_mem_cons.mpr ⟨List.mem_of_getElem? (i := 821) rfl, List.forall_mem_cons.mpr ⟨List.mem_of_getElem? (i := 822) rfl, List.forall_mem_cons.mpr ⟨List.mem_of_getElem? (i := 823) rfl, List.forall_mem_cons.mpr ⟨List.mem_of_getElem? (i := 824) rfl, List.forall_mem_cons.mpr ⟨List.mem_of_getElem? (i := 825) rfl, List.forall_mem_cons.mpr ⟨List.mem_of_getElem? (i := 827) rfl, List.forall_mem_cons.mpr ⟨List.mem_of_getElem? (i := 36) rfl, List.forall_mem_cons.mpr ⟨List.mem_of_getElem? (i := 828) rfl, List.forall_mem_cons.mpr ⟨List.mem_of_getElem? (i := 829) rfl, List.forall_mem_cons.mpr ⟨List.mem_of_getElem? (i := 831) rfl, List.forall_mem_cons.mpr ⟨List.mem_of_getElem? (i := 37) rfl, List.forall_mem_cons.mpr ⟨List.mem_of_getElem? (i := 832) rfl, List.forall_mem_cons.mpr ⟨List.mem_of_getElem? (i := 833) rfl, List.forall_mem_cons.mpr ⟨List.mem_of_getElem? (i := 835) rfl, List.forall_mem_cons.mpr ⟨List.mem_of_getElem? (i := 38) rfl, List.forall_mem_cons.mpr ⟨List.mem_of_getElem? (i := 836) rfl, (fun _ h => absurd h List.not_mem_nil)⟩⟩⟩⟩⟩⟩⟩⟩⟩⟩⟩⟩⟩⟩⟩⟩⟩⟩⟩⟩⟩⟩⟩⟩
set_option maxRecDepth 100000 in
theorem in_wsL_law_r36 : ∀ w ∈ wsL_law_r36, w ∈ lw_tbl := List.forall_mem_cons.mpr ⟨List.mem_of_getElem? (i := 837) rfl, List.forall_mem_cons.mpr ⟨List.mem_of_getElem? (i := 838) rfl, List.forall_mem_cons.mpr ⟨List.mem_of_getElem? (i := 839) rfl, List.forall_mem_cons.mpr ⟨List.mem_of_getElem? (i := 840) rfl, List.forall_mem_cons.mpr ⟨List.mem_of_getElem? (i := 841) rfl, List.forall_mem_cons.mpr ⟨List.mem_of_getElem? (i := 842) rfl, List.forall_mem_cons.mpr ⟨List.mem_of_getElem? (i := 843) rfl, List.forall_mem_cons.mpr ⟨List.mem_of_getElem? (i := 844) rfl, List.forall_mem_cons.mpr ⟨List.mem_of_getElem? (i := 845) rfl, List.forall_mem_cons.mpr ⟨List.mem_of_getElem? (i := 846) rfl, List.forall_mem_cons.mpr ⟨List.mem_of_getElem? (i := 1189) rfl, List.forall_mem_cons.mpr ⟨List.mem_of_getElem? (i := 1190) rfl, List.forall_mem_cons.mpr ⟨List.mem_of_getElem? (i := 1191) rfl, List.forall_mem_cons.mpr ⟨List.mem_of_getElem? (i := 1192) rfl, List.forall_mem_cons.mpr ⟨List.mem_of_getElem? (i := 1193) rfl, List.forall_mem_cons.mpr ⟨List.mem_of_getElem? (i := 926) rfl, List.forall_mem_cons.mpr ⟨List.mem_of_getElem? (i := 927) rfl, List.forall_mem_cons.mpr ⟨List.mem_of_getElem? (i := 928) rfl, List.forall_mem_cons.mpr ⟨List.mem_of_getElem? (i := 929) rfl, List.forall_mem_cons.mpr ⟨List.mem_of_getElem? (i := 930) rfl, List.forall_mem_cons.mpr ⟨List.mem_of_getElem? (i := 936) rfl, List.forall_mem_cons.mpr ⟨List.mem_of_getElem? (i := 937) rfl, List.forall_mem_cons.mpr ⟨List.mem_of_getElem? (i := 1194) rfl, List.forall_mem_cons.mpr ⟨List.mem_of_getElem? (i := 1196) rfl, (fun _ h => absurd h List.not_mem_nil)⟩⟩⟩⟩⟩⟩⟩⟩⟩⟩⟩⟩⟩⟩⟩⟩⟩⟩⟩⟩⟩⟩⟩⟩
set_option maxRecDepth 100000 in
theorem in_wsL_law_r37 : ∀ w ∈ wsL_law_r37, w ∈ lw_tbl := List.forall_mem_cons.mpr ⟨List.mem_of_getElem? (i := 64) rfl, List.forall_mem_cons.mpr ⟨List.mem_of_getElem? (i := 1197) rfl, List.forall_mem_cons.mpr ⟨List.mem_of_getElem? (i := 1198) rfl, List.forall_mem_cons.mpr ⟨List.mem_of_getElem? (i := 1200) rfl, List.forall_mem_cons.mpr ⟨List.mem_of_getElem? (i := 65) rfl, List.forall_mem_cons.mpr ⟨List.mem_of_getElem? (i := 1201) rfl, List.forall_mem_cons.mpr ⟨List.mem_of_getElem? (i := 1202) rfl, List.forall_mem_cons.mpr ⟨List.mem_of_getElem? (i := 1204) rfl, List.forall_mem_cons.mpr ⟨List.mem_of_getElem? (i := 66) rfl, List.forall_mem_cons.mpr ⟨List.mem_of_getElem? (i := 1205) rfl, List.forall_mem_cons.mpr ⟨List.mem_of_getElem? (i := 1206) rfl, List.forall_mem_cons.mpr ⟨List.mem_of_getElem? (i := 1208) rfl, List.forall_mem_cons.mpr ⟨List.mem_of_getElem? (i := 67) rfl, List.forall_mem_cons.mpr ⟨List.mem_of_getElem? (i := 1209) rfl, List.forall_mem_cons.mpr ⟨List.mem_of_getElem? (i := 1210) rfl, List.forall_mem_cons.mpr ⟨List.mem_of_getElem? (i := 1212) rfl, List.forall_mem_cons.mpr ⟨List.mem_of_getElem? (i := 68) rfl, List.forall_mem_cons.mpr ⟨List.mem_of_getElem? (i := 1213) rfl, List.forall_mem_cons.mpr ⟨List.mem_of_getElem? (i := 1214) rfl, List.forall_mem_cons.mpr ⟨List.mem_of_getElem? (i := 1216) rfl, List.forall_mem_cons.mpr ⟨List.mem_of_getElem? (i := 69) rfl, List.forall_mem_cons.mpr ⟨List.mem_of_getElem? (i := 1217) rfl, List.forall_mem_cons.mpr ⟨List.mem_of_getElem? (i := 1218) rfl, List.forall_mem_cons.mpr ⟨List.mem_of_getElem? (i := 1220) rfl, (fun _ h => absurd h List.not_mem_nil)⟩⟩⟩⟩⟩⟩⟩⟩⟩⟩⟩⟩⟩⟩⟩⟩⟩⟩⟩⟩⟩⟩⟩⟩
set_option maxRecDepth 100000 in
theorem in_wsL_law_r38 : ∀ w ∈ wsL_law_r38, w ∈ lw_tbl := List.forall_mem_cons.mpr ⟨List.mem_of_getElem? (i := 70) rfl, List.forall_mem_cons.mpr ⟨List.mem_of_getElem? (i := 1221) rfl, List.forall_mem_cons.mpr ⟨List.mem_of_getElem? (i := 1222) rfl, List.forall_mem_cons.mpr ⟨List.mem_of_getElem? (i := 1224) rfl, List.forall_mem_cons.mpr ⟨List.mem_of_getElem? (i := 71) rfl, List.forall_mem_cons.mpr ⟨List.mem_of_getElem? (i := 1225) rfl, List.forall_mem_cons.mpr ⟨List.mem_of_getElem? (i := 1226) rfl, List.forall_mem_cons.mpr ⟨List.mem_of_getElem? (i := 1228) rfl, List.forall_mem_cons.mpr ⟨List.mem_of_getElem? (i := 72) rfl, List.forall_mem_cons.mpr ⟨List.mem_of_getElem? (i := 1229) rfl, List.forall_mem_cons.mpr ⟨List.mem_of_getElem? (i := 1230) rfl, List.forall_mem_cons.mpr ⟨List.mem_of_getElem? (i := 1232) rfl, List.forall_mem_cons.mpr ⟨List.mem_of_getElem? (i := 73) rfl, List.forall_mem_cons.mpr ⟨List.mem_of_getElem? (i := 1233) rfl, List.forall_mem_cons.mpr ⟨List.mem_of_getElem? (i := 1234) rfl, List.forall_mem_cons.mpr ⟨List.mem_of_getElem? (i := 1236) rfl, List.forall_mem_cons.mpr ⟨List.mem_of_getElem? (i := 74) rfl, List.forall_mem_cons.mpr ⟨List.mem_of_getElem? (i := 1237) rfl, List.forall_mem_cons.mpr ⟨List.mem_of_getElem? (i := 1238) rfl, List.forall_mem_cons.mpr ⟨List.mem_of_getElem? (i := 1240) rfl, List.forall_mem_cons.mpr ⟨List.mem_of_getElem? (i := 75) rfl, List.forall_mem_cons.mpr ⟨List.mem_of_getElem? (i := 1241) rfl, List.forall_mem_cons.mpr ⟨List.mem_of_getElem? (i := 1242) rfl, List.forall_mem_cons.mpr ⟨List.mem_of_getElem? (i := 1243) rfl, (fun _ h => absurd h List.not_mem_nil)⟩⟩⟩⟩⟩⟩⟩⟩⟩⟩⟩⟩⟩⟩⟩⟩⟩⟩⟩⟩⟩⟩⟩⟩
set_option maxRecDepth 100000 in
theorem in_wsL_law_r39 : ∀ w ∈ wsL_law_r39, w ∈ lw_tbl := List.forall_mem_cons.mpr ⟨List.mem_of_getElem? (i := 1244) rfl, List.forall_mem_cons.mpr ⟨List.mem_of_getElem? (i := 1245) rfl, List.forall_mem_cons.mpr ⟨List.mem_of_getElem? (i := 1247) rfl, List.forall_mem_cons.mpr ⟨List.mem_of_getElem? (i := 76) rfl, List.forall_mem_cons.mpr ⟨List.mem_of_getElem? (i := 1248) rfl, List.forall_mem_cons.mpr ⟨List.mem_of_getElem? (i := 847) rfl, List.forall_mem_cons.mpr ⟨List.mem_of_getElem? (i := 848) rfl, List.forall_mem_cons.mpr ⟨List.mem_of_getElem? (i := 849) rfl, List.forall_mem_cons.mpr ⟨List.mem_of_getElem? (i := 850) rfl, List.forall_mem_cons.mpr ⟨List.mem_of_getElem? (i := 324) rfl, List.forall_mem_cons.mpr ⟨List.mem_of_getElem? (i := 1249) rfl, List.forall_mem_cons.mpr ⟨List.mem_of_getElem? (i := 1250) rfl, List.forall_mem_cons.mpr ⟨List.mem_of_getElem? (i := 1251) rfl, List.forall_mem_cons.mpr ⟨List.mem_of_getElem? (i := 1252) rfl, List.forall_mem_cons.mpr ⟨List.mem_of_getElem? (i := 851) rfl, List.forall_mem_cons.mpr ⟨List.mem_of_getElem? (i := 852) rfl, List.forall_mem_cons.mpr ⟨List.mem_of_getElem? (i := 853) rfl, List.forall_mem_cons.mpr ⟨List.mem_of_getElem? (i := 854) rfl, List.forall_mem_cons.mpr ⟨List.mem_of_getElem? (i := 326) rfl, List.forall_mem_cons.mpr ⟨List.mem_of_getElem? (i := 1253) rfl, List.forall_mem_cons.mpr ⟨List.mem_of_getElem? (i := 1254) rfl, List.forall_mem_cons.mpr ⟨List.mem_of_getElem? (i := 1255) rfl, List.forall_mem_cons.mpr ⟨List.mem_of_getElem? (i := 1256) rfl, List.forall_mem_cons.mpr ⟨List.mem_of_getElem? (i := 855) rfl, (fun _ h => absurd h List.not_mem_nil)⟩⟩⟩⟩⟩⟩⟩⟩⟩⟩⟩⟩⟩⟩⟩⟩⟩⟩⟩⟩⟩⟩⟩⟩
set_option maxRecDepth 100000 in
theorem in_wsL_law_r40 : ∀ w ∈ wsL_law_r40, w ∈ lw_tbl := List.forall_mem_cons.mpr ⟨List.mem_of_getElem? (i := 856) rfl, List.forall_mem_cons.mpr ⟨List.mem_of_getElem? (i := 857) rfl, List.forall_mem_cons.mpr ⟨List.mem_of_getElem? (i := 858) rfl, List.forall_mem_cons.mpr ⟨List.mem_of_getElem? (i := 328) rfl, List.forall_mem_cons.mpr ⟨List.mem_of_getElem? (i := 1257) rfl, List.forall_mem_cons.mpr ⟨List.mem_of_getElem? (i := 1258) rfl, List.forall_mem_cons.mpr ⟨List.mem_of_getElem? (i := 1259) rfl, List.forall_mem_cons.mpr ⟨List.mem_of_getElem? (i := 1260) rfl, List.forall_mem_cons.mpr ⟨List.mem_of_getElem? (i := 859) rfl, List.forall_mem_cons.mpr ⟨List.mem_of_getElem? (i := 860) rfl, List.forall_mem_cons.mpr ⟨List.mem_of_getElem? (i := 861) rfl, List.forall_mem_cons.mpr ⟨List.mem_of_getElem? (i := 862) rfl, List.forall_mem_cons.mpr ⟨List.mem_of_getElem? (i := 320) rfl, List.forall_mem_cons.mpr ⟨List.mem_of_getElem? (i := 863) rfl, List.forall_mem_cons.mpr ⟨List.mem_of_getElem? (i := 864) rfl, List.forall_mem_cons.mpr ⟨List.mem_of_getElem? (i := 865) rfl, List.forall_mem_cons.mpr ⟨List.mem_of_getElem? (i := 1261) rfl, List.forall_mem_cons.mpr ⟨List.mem_of_getElem? (i := 1262) rfl, List.forall_mem_cons.mpr ⟨List.mem_of_getElem? (i := 1263) rfl, List.forall_mem_cons.mpr ⟨List.mem_of_getElem? (i := 1264) rfl, List.forall_mem_cons.mpr ⟨List.mem_of_getElem? (i := 866) rfl, List.forall_mem_cons.mpr ⟨List.mem_of_getElem? (i := 867) rfl, List.forall_mem_cons.mpr ⟨List.mem_of_getElem? (i := 868) rfl, List.forall_mem_cons.mpr ⟨List.mem_of_getElem? (i := 869) rfl, (fun _ h => absurd h List.not_mem_nil)⟩⟩⟩⟩⟩⟩⟩⟩⟩⟩⟩⟩⟩⟩⟩⟩⟩⟩⟩⟩⟩⟩⟩⟩
set_option maxRecDepth 100000 in
theorem in_wsL_law_r41 : ∀ w ∈ wsL_law_r41, w ∈ lw_tbl := List.forall_mem_cons.mpr ⟨List.mem_of_getElem? (i := 870) rfl, List.forall_mem_cons.mpr ⟨List.mem_of_getElem? (i := 872) rfl, List.forall_mem_cons.mpr ⟨List.mem_of_getElem? (i := 39) rfl, List.forall_mem_cons.mpr ⟨List.mem_of_getElem? (i := 873) rfl, List.forall_mem_cons.mpr ⟨List.mem_of_getElem? (i := 131) rfl, List.forall_mem_cons.mpr ⟨List.mem_of_getElem? (i := 135) rfl, List.forall_mem_cons.mpr ⟨List.mem_of_getElem? (i := 874) rfl, List.forall_mem_cons.mpr ⟨List.mem_of_getElem? (i := 1185) rfl, List.forall_mem_cons.mpr ⟨List.mem_of_getElem? (i := 1186) rfl, List.forall_mem_cons.mpr ⟨List.mem_of_getElem? (i := 1187) rfl, List.forall_mem_cons.mpr ⟨List.mem_of_getElem? (i := 1188) rfl, List.forall_mem_cons.mpr ⟨List.mem_of_getElem? (i := 875) rfl, List.forall_mem_cons.mpr ⟨List.mem_of_getElem? (i := 876) rfl, List.forall_mem_cons.mpr ⟨List.mem_of_getElem? (i := 877) rfl, List.forall_mem_cons.mpr ⟨List.mem_of_getElem? (i := 878) rfl, List.forall_mem_cons.mpr ⟨List.mem_of_getElem? (i := 879) rfl, List.forall_mem_cons.mpr ⟨List.mem_of_getElem? (i := 880) rfl, List.forall_mem_cons.mpr ⟨List.mem_of_getElem? (i := 1265) rfl, List.forall_mem_cons.mpr ⟨List.mem_of_getElem? (i := 1266) rfl, List.forall_mem_cons.mpr ⟨List.mem_of_getElem? (i := 1267) rfl, List.forall_mem_cons.mpr ⟨List.mem_of_getElem? (i := 1268) rfl, (fun _ h => absurd h List.not_mem_nil)⟩⟩⟩⟩⟩⟩⟩⟩⟩⟩⟩⟩⟩⟩⟩⟩⟩⟩⟩⟩⟩
set_option maxRecDepth 100000 in
theorem in_wsX110 : ∀ w ∈ wsX110, w ∈ lw_tbl := List.forall_mem_cons.mpr ⟨List.mem_of_getElem? (i := 354) rfl, List.forall_mem_cons.mpr ⟨List.mem_of_getElem? (i := 356) rfl, List.forall_mem_cons.mpr ⟨List.mem_of_getElem? (i := 358) rfl, List.forall_mem_cons.mpr ⟨List.mem_of_getElem? (i := 360) rfl, List.forall_mem_cons.mpr ⟨List.mem_of_getElem? (i := 362) rfl, List.forall_mem_cons.mpr ⟨List.mem_of_getElem? (i := 364) rfl, List.forall_mem_cons.mpr ⟨List.mem_of_getElem? (i := 366) rfl, List.forall_mem_cons.mpr ⟨List.mem_of_getElem? (i := 368) rfl, (fun _ h => absurd h List.not_mem_nil)⟩⟩⟩⟩⟩⟩⟩⟩
set_option maxRecDepth 100000 in
theorem in_wsX120 : ∀ w ∈ wsX120, w ∈ lw_tbl := List.forall_mem_cons.mpr ⟨List.mem_of_getElem? (i := 938) rfl, List.forall_mem_cons.mpr ⟨List.mem_of_getElem? (i := 940) rfl, List.forall_mem_cons.mpr ⟨List.mem_of_getElem? (i := 942) rfl, List.forall_mem_cons.mpr ⟨List.mem_of_getElem? (i := 944) rfl, List.forall_mem_cons.mpr ⟨List.mem_of_getElem? (i := 946) rfl, List.forall_mem_cons.mpr ⟨List.mem_of_getElem? (i := 948) rfl, List.forall_mem_cons.mpr ⟨List.mem_of_getElem? (i := 950) rfl, List.forall_mem_cons.mpr ⟨List.mem_of_getElem? (i := 952) rfl, List.forall_mem_cons.mpr ⟨List.mem_of_getElem? (i := 954) rfl, List.forall_mem_cons.mpr ⟨List.mem_of_getElem? (i := 956) rfl, List.forall_mem_cons.mpr ⟨List.mem_of_getElem? (i := 958) rfl, List.forall_mem_cons.mpr ⟨List.mem_of_getElem? (i := 960) rfl, List.forall_mem_cons.mpr ⟨List.mem_of_getElem? (i := 962) rfl, List.forall_mem_cons.mpr ⟨List.mem_of_getElem? (i := 964) rfl, List.forall_mem_cons.mpr ⟨List.mem_of_getElem? (i := 966) rfl, List.forall_mem_cons.mpr ⟨List.mem_of_getElem? (i := 968) rfl, List.forall_mem_cons.mpr ⟨List.mem_of_getElem? (i := 970) rfl, List.forall_mem_cons.mpr ⟨List.mem_of_getElem? (i := 972) rfl, List.forall_mem_cons.mpr ⟨List.mem_of_getElem? (i := 974) rfl, List.forall_mem_cons.mpr ⟨List.mem_of_getElem? (i := 976) rfl, List.forall_mem_cons.mpr ⟨List.mem_of_getElem? (i := 978) rfl, List.forall_mem_cons.mpr ⟨List.mem_of_getElem? (i := 980) rfl, List.forall_mem_cons.mpr ⟨List.mem_of_getElem? (i := 982) rfl, List.forall_mem_cons.mpr ⟨List.mem_of_getElem? (i := 984) rfl, List.forall_mem_cons.mpr ⟨List.mem_of_getElem? (i := 986) rfl, List.forall_mem_cons.mpr ⟨List.mem_of_getElem? (i := 988) rfl, List.forall_mem_cons.mpr ⟨List.mem_of_getElem? (i := 990) rfl, List.forall_mem_cons.mpr ⟨List.mem_of_getElem? (i := 992) rfl, List.forall_mem_cons.mpr ⟨List.mem_of_getElem? (i := 994) rfl, List.forall_mem_cons.mpr ⟨List.mem_of_getElem? (i := 996) rfl, List.forall_mem_cons.mpr ⟨List.mem_of_getElem? (i := 998) rfl, List.forall_mem_cons.mpr ⟨List.mem_of_getElem? (i := 1000) rfl, List.forall_mem_cons.mpr ⟨List.mem_of_getElem? (i := 1002) rfl, List.forall_mem_cons.mpr ⟨List.mem_of_getElem? (i := 1004) rfl, List.forall_mem_cons.mpr ⟨List.mem_of_getElem? (i := 1006) rfl, List.forall_mem_cons.mpr ⟨List.mem_of_getElem? (i := 1008) rfl, List.forall_mem_cons.mpr ⟨List.mem_of_getElem? (i := 1010) rfl, List.forall_mem_cons.mpr ⟨List.mem_of_getElem? (i := 1012) rfl, List.forall_mem_cons.mpr ⟨List.mem_of_getElem? (i := 1014) rfl, List.forall_mem_cons.mpr ⟨List.mem_of_getElem? (i := 1016) rfl, List.forall_mem_cons.mpr ⟨List.mem_of_getElem? (i := 1018) rfl, List.forall_mem_cons.mpr ⟨List.mem_of_getElem? (i := 1020) rfl, List.forall_mem_cons.mpr ⟨List.mem_of_getElem? (i := 1022) rfl, List.forall_mem_cons.mpr ⟨List.mem_of_getElem? (i := 1024) rfl, List.forall_mem_cons.mpr ⟨List.mem_of_getElem? (i := 1026) rfl, List.forall_mem_cons.mpr ⟨List.mem_of_getElem? (i := 1028) rfl, List.forall_mem_cons.mpr ⟨List.mem_of_getElem? (i := 1030) rfl, List.forall_mem_cons.mpr ⟨List.mem_of_getElem? (i := 1032) rfl, (fun _ h => absurd h List.not_mem_nil)⟩⟩⟩⟩⟩⟩⟩⟩⟩⟩⟩⟩⟩⟩⟩⟩⟩⟩⟩⟩⟩⟩⟩⟩⟩⟩⟩⟩⟩⟩⟩⟩⟩⟩⟩⟩⟩⟩⟩⟩⟩⟩⟩⟩⟩⟩⟩⟩
set_option maxRecDepth 100000 in
theorem in_wsX00 : ∀ w ∈ wsX00, w ∈ lw_tbl := List.forall_mem_cons.mpr ⟨List.mem_of_getElem? (i := 190) rfl, List.forall_mem_cons.mpr ⟨List.mem_of_getElem? (i := 192) rfl, List.forall_mem_cons.mpr ⟨List.mem_of_getElem? (i := 194) rfl, List.forall_mem_cons.mpr ⟨List.mem_of_getElem? (i := 196) rfl, List.forall_mem_cons.mpr ⟨List.mem_of_getElem? (i := 198) rfl, (fun _ h => absurd h List.not_mem_nil)⟩⟩⟩⟩⟩
set_option maxRecDepth 100000 in
theorem in_wsX80 : ∀ w ∈ wsX80, w ∈ lw_tbl := List.forall_mem_cons.mpr ⟨List.mem_of_getElem? (i := 218) rfl, (fun _ h => absurd h List.not_mem_nil)⟩
set_option maxRecDepth 100000 in
theorem in_wsX20 : ∀ w ∈ wsX20, w ∈ lw_tbl := List.forall_mem_cons.mpr ⟨List.mem_of_getElem? (i := 244) rfl, (fun _ h => absurd h List.not_mem_nil)⟩
set_option maxRecDepth 100000 in
theorem in_wsX50 : ∀ w ∈ wsX50, w ∈ lw_tbl := List.forall_mem_cons.mpr ⟨List.mem_of_getElem? (i := 258) rfl, List.forall_mem_cons.mpr ⟨List.mem_of_getElem? (i := 260) rfl, List.forall_mem_cons.mpr ⟨List.mem_of_getElem? (i := 262) rfl, List.forall_mem_cons.mpr ⟨List.mem_of_getElem? (i := 264) rfl, List.forall_mem_cons.mpr ⟨List.mem_of_getElem? (i := 266) rfl, (fun _ h => absurd h List.not_mem_nil)⟩⟩⟩⟩⟩
set_option maxRecDepth 100000 in
theorem in_wsX60 : ∀ w ∈ wsX60, w ∈ lw_tbl := List.forall_mem_cons.mpr ⟨List.mem_of_getElem? (i := 329) rfl, List.forall_mem_cons.mpr ⟨List.mem_of_getElem? (i := 331) rfl, List.forall_mem_cons.mpr ⟨List.mem_of_getElem? (i := 333) rfl, List.forall_mem_cons.mpr ⟨List.mem_of_getElem? (i := 335) rfl, List.forall_mem_cons.mpr ⟨List.mem_of_getElem? (i := 337) rfl, List.forall_mem_cons.mpr ⟨List.mem_of_getElem? (i := 339) rfl, List.forall_mem_cons.mpr ⟨List.mem_of_getElem? (i := 341) rfl, List.forall_mem_cons.mpr ⟨List.mem_of_getElem? (i := 343) rfl, (fun _ h => absurd h List.not_mem_nil)⟩⟩⟩⟩⟩⟩⟩⟩
set_option maxRecDepth 100000 in
theorem in_wsX70 : ∀ w ∈ wsX70, w ∈ lw_tbl := List.forall_mem_cons.mpr ⟨List.mem_of_getElem? (i := 155) rfl, List.forall_mem_cons.mpr ⟨List.mem_of_getElem? (i := 157) rfl, List.forall_mem_cons.mpr ⟨List.mem_of_getElem? (i := 159) rfl, List.forall_mem_cons.mpr ⟨List.mem_of_getElem? (i := 161) rfl, List.forall_mem_cons.mpr ⟨List.mem_of_getElem? (i := 163) rfl, List.forall_mem_cons.mpr ⟨List.mem_of_getElem? (i := 165) rfl, List.forall_mem_cons.mpr ⟨List.mem_of_getElem? (i := 167) rfl, List.forall_mem_cons.mpr ⟨List.mem_of_getElem? (i := 169) rfl, List.forall_mem_cons.mpr ⟨List.mem_of_getElem? (i := 171) rfl, List.forall_mem_cons.mpr ⟨List.mem_of_getElem? (i := 173) rfl, List.forall_mem_cons.mpr ⟨List.mem_of_getElem? (i := 175) rfl, (fun _ h => absurd h List.not_mem_nil)⟩⟩⟩⟩⟩⟩⟩⟩⟩⟩⟩
set_option maxRecDepth 100000 in
theorem in_wsX10 : ∀ w ∈ wsX10, w ∈ lw_tbl := List.forall_mem_cons.mpr ⟨List.mem_of_getElem? (i := 236) rfl, List.forall_mem_cons.mpr ⟨List.mem_of_getElem? (i := 238) rfl, List.forall_mem_cons.mpr ⟨List.mem_of_getElem? (i := 240) rfl, (fun _ h => absurd h List.not_mem_nil)⟩⟩⟩
set_option maxRecDepth 100000 in
theorem in_wsX100 : ∀ w ∈ wsX100, w ∈ lw_tbl := List.forall_mem_cons.mpr ⟨List.mem_of_getElem? (i := 285) rfl, List.forall_mem_cons.mpr ⟨List.mem_of_getElem? (i := 287) rfl, (fun _ h => absurd h List.not_mem_nil)⟩⟩
set_option maxRecDepth 100000 in
theorem in_wsX30 : ∀ w ∈ wsX30, w ∈ lw_tbl := List.forall_mem_cons.mpr ⟨List.mem_of_getElem? (i := 306) rfl, List.forall_mem_cons.mpr ⟨List.mem_of_getElem? (i := 308) rfl, List.forall_mem_cons.mpr ⟨List.mem_of_getElem? (i := 310) rfl, List.forall_mem_cons.mpr ⟨List.mem_of_getElem? (i := 312) rfl, List.forall_mem_cons.mpr ⟨List.mem_of_getElem? (i := 314) rfl, (fun _ h => absurd h List.not_mem_nil)⟩⟩⟩⟩⟩
theorem wsL_law_in : ∀ w ∈ wsL_law, w ∈ lw_tbl := hs_ma (hs_ma (hs_ma (hs_ma (hs_ma (hs_ma (hs_ma (hs_ma (hs_ma (hs_ma (hs_ma (hs_ma (hs_ma in_wsL_law_r1 (hs_ma in_wsL_law_r2 (hs_ma in_wsL_law_r3 (hs_ma in_wsL_law_r4 (hs_ma in_wsL_law_r5 (hs_ma in_wsL_law_r6 (hs_ma in_wsL_law_r7 (hs_ma in_wsL_law_r8 (hs_ma in_wsL_law_r9 (hs_ma in_wsL_law_r10 (hs_ma in_wsL_law_r11 (hs_ma in_wsL_law_r12 (hs_ma in_wsL_law_r13 (hs_ma in_wsL_law_r14 (hs_ma in_wsL_law_r15 (hs_ma in_wsL_law_r16 (hs_ma in_wsL_law_r17 (hs_ma in_wsL_law_r18 (hs_ma in_wsL_law_r19 (hs_ma in_wsL_law_r20 (hs_ma in_wsL_law_r21 (hs_ma in_wsL_law_r22 (hs_ma in_wsL_law_r23 (hs_ma in_wsL_law_r24 (hs_ma in_wsL_law_r25 (hs_ma in_wsL_law_r26 (hs_ma in_wsL_law_r27 (hs_ma in_wsL_law_r28 (hs_ma in_wsL_law_r29 (hs_ma in_wsL_law_r30 (hs_ma in_wsL_law_r31 (hs_ma in_wsL_law_r32 (hs_ma in_wsL_law_r33 (hs_ma in_wsL_law_r34 (hs_ma in_wsL_law_r35 (hs_ma in_wsL_law_r36 (hs_ma in_wsL_law_r37 (hs_ma in_wsL_law_r38 (hs_ma in_wsL_law_r39 (hs_ma in_wsL_law_r40 (in_wsL_law_r41))))))))))))))))))))))))))))))))))))))))) in_wsX110) in_wsX120) in_wsX00) in_wsX80) in_wsX20) in_wsX50) in_wsX60) in_wsX70) in_wsX10) in_wsX100) in_wsX30) (fun _ h => absurd h List.not_mem_nil)
theorem inlX0 : ∀ w ∈ wsX00, w ∈ wsL_law := fun _ h => List.mem_append_left _ (List.mem_append_left _ (List.mem_append_left _ (List.mem_append_left _ (List.mem_append_left _ (List.mem_append_left _ (List.mem_append_left _ (List.mem_append_left _ (List.mem_append_left _ (List.mem_append_right _ h)))))))))
theorem inX0 : ∀ w ∈ wsX00, w ∈ lw_tbl := fun w h => wsL_law_in w (inlX0 w h)
theorem inlX1 : ∀ w ∈ wsX10, w ∈ wsL_law := fun _ h => List.mem_append_left _ (List.mem_append_left _ (List.mem_append_left _ (List.mem_append_right _ h)))
theorem inX1 : ∀ w ∈ wsX10, w ∈ lw_tbl := fun w h => wsL_law_in w (inlX1 w h)
theorem inlX2 : ∀ w ∈ wsX20, w ∈ wsL_law := fun _ h => List.mem_append_left _ (List.mem_append_left _ (List.mem_append_left _ (List.mem_append_left _ (List.mem_append_left _ (List.mem_append_left _ (List.mem_append_left _ (List.mem_append_right _ h)))))))
theorem inX2 : ∀ w ∈ wsX20, w ∈ lw_tbl := fun w h => wsL_law_in w (inlX2 w h)
theorem inlX3 : ∀ w ∈ wsX30, w ∈ wsL_law := fun _ h => List.mem_append_left _ (List.mem_append_right _ h)
theorem inX3 : ∀ w ∈ wsX30, w ∈ lw_tbl := fun w h => wsL_law_in w (inlX3 w h)
theorem inX4 : ∀ w ∈ wsX40, w ∈ lw_tbl := by decide +kernel
theorem inlX5 : ∀ w ∈ wsX50, w ∈ wsL_law := fun _ h => List.mem_append_left _ (List.mem_append_left _ (List.mem_append_left _ (List.mem_append_left _ (List.mem_append_left _ (List.mem_append_left _ (List.mem_append_right _ h))))))
theorem inX5 : ∀ w ∈ wsX50, w ∈ lw_tbl := fun w h => wsL_law_in w (inlX5 w h)
theorem inlX6 : ∀ w ∈ wsX60, w ∈ wsL_law := fun _ h => List.mem_append_left _ (List.mem_append_left _ (List.mem_append_left _ (List.mem_append_left _ (List.mem_append_left _ (List.mem_append_right _ h)))))
theorem inX6 : ∀ w ∈ wsX60, w ∈ lw_tbl := fun w h => wsL_law_in w (inlX6 w h)
theorem inlX7 : ∀ w ∈ wsX70, w ∈ wsL_law := fun _ h => List.mem_append_left _ (List.mem_append_left _ (List.mem_append_left _ (List.mem_append_left _ (List.mem_append_right _ h))))
theorem inX7 : ∀ w ∈ wsX70, w ∈ lw_tbl := fun w h => wsL_law_in w (inlX7 w h)
theorem inlX8 : ∀ w ∈ wsX80, w ∈ wsL_law := fun _ h => List.mem_append_left _ (List.mem_append_left _ (List.mem_append_left _ (List.mem_append_left _ (List.mem_append_left _ (List.mem_append_left _ (List.mem_append_left _ (List.mem_append_left _ (List.mem_append_right _ h))))))))
theorem inX8 : ∀ w ∈ wsX80, w ∈ lw_tbl := fun w h => wsL_law_in w (inlX8 w h)
theorem inX9 : ∀ w ∈ wsX90, w ∈ lw_tbl := by decide +kernel
theorem inlX10 : ∀ w ∈ wsX100, w ∈ wsL_law := fun _ h => List.mem_append_left _ (List.mem_append_left _ (List.mem_append_right _ h))
theorem inX10 : ∀ w ∈ wsX100, w ∈ lw_tbl := fun w h => wsL_law_in w (inlX10 w h)
theorem inlX11 : ∀ w ∈ wsX110, w ∈ wsL_law := fun _ h => List.mem_append_left _ (List.mem_append_left _ (List.mem_append_left _ (List.mem_append_left _ (List.mem_append_left _ (List.mem_append_left _ (List.mem_append_left _ (List.mem_append_left _ (List.mem_append_left _ (List.mem_append_left _ (List.mem_append_left _ (List.mem_append_right _ h)))))))))))
theorem inX11 : ∀ w ∈ wsX110, w ∈ lw_tbl := fun w h => wsL_law_in w (inlX11 w h)
theorem inlX12 : ∀ w ∈ wsX120, w ∈ wsL_law := fun _ h => List.mem_append_left _ (List.mem_append_left _ (List.mem_append_left _ (List.mem_append_left _ (List.mem_append_left _ (List.mem_append_left _ (List.mem_append_left _ (List.mem_append_left _ (List.mem_append_left _ (List.mem_append_left _ (List.mem_append_right _ h))))))))))
theorem inX12 : ∀ w ∈ wsX120, w ∈ lw_tbl := fun w h => wsL_law_in w (inlX12 w h)
theorem inJ9 : ∀ w ∈ wsJ90, w ∈ lw_tbl := by decide +kernel
theorem inJ7 : ∀ w ∈ wsJ70, w ∈ lw_tbl := by decide +kernel
end
section
set_option maxRecDepth 100000 in
theorem hq_instX0 : Cond.instantiable RX0 5 ∈ lw_tbl := List.mem_of_getElem? (i := 102) rfl
set_option maxRecDepth 100000 in
theorem hq_instX1 : Cond.instantiable RX1 3 ∈ lw_tbl := List.mem_of_getElem? (i := 228) rfl
set_option maxRecDepth 100000 in
theorem hq_instX2 : Cond.instantiable RX2 1 ∈ lw_tbl := List.mem_of_getElem? (i := 222) rfl
set_option maxRecDepth 100000 in
theorem hq_instX3 : Cond.instantiable RX3 5 ∈ lw_tbl := List.mem_of_getElem? (i := 290) rfl
set_option maxRecDepth 100000 in
theorem hq_instX5 : Cond.instantiable RX5 5 ∈ lw_tbl := List.mem_of_getElem? (i := 248) rfl
set_option maxRecDepth 100000 in
theorem hq_instX6 : Cond.instantiable RX6 8 ∈ lw_tbl := List.mem_of_getElem? (i := 270) rfl
set_option maxRecDepth 100000 in
theorem hq_instX7 : Cond.instantiable RX7 11 ∈ lw_tbl := List.mem_of_getElem? (i := 109) rfl
set_option maxRecDepth 100000 in
theorem hq_instX8 : Cond.instantiable RX8 1 ∈ lw_tbl := List.mem_of_getElem? (i := 202) rfl
set_option maxRecDepth 100000 in
theorem hq_instX10 : Cond.instantiable RX10 2 ∈ lw_tbl := List.mem_of_getElem? (i := 278) rfl
set_option maxRecDepth 100000 in
theorem hq_instX11 : Cond.instantiable RX11 8 ∈ lw_tbl := List.mem_of_getElem? (i := 94) rfl
set_option maxRecDepth 100000 in
theorem hq_instX12 : Cond.instantiable RX12 48 ∈ lw_tbl := List.mem_of_getElem? (i := 882) rfl
set_option maxRecDepth 100000 in
theorem hq_aI : Cond.arrayClass .int ∈ lw_tbl := List.mem_of_getElem? (i := 178) rfl
set_option maxRecDepth 100000 in
theorem hq_aZ : Cond.arrayClass .boolean ∈ lw_tbl := List.mem_of_getElem? (i := 1035) rfl
set_option maxRecDepth 100000 in
theorem hq_aM : Cond.arrayOver (.object RX7) ∈ lw_tbl := List.mem_of_getElem? (i := 108) rfl
set_option maxRecDepth 100000 in
theorem hq_aF : Cond.arrayOver (.object RX3) ∈ lw_tbl := List.mem_of_getElem? (i := 276) rfl
set_option maxRecDepth 100000 in
theorem hq_n1 : Cond.methodLinkNest RX2 11 yX1_init "StepRewriter" ∈ lw_tbl := List.mem_of_getElem? (i := 229) rfl
set_option maxRecDepth 100000 in
theorem hq_n2 : Cond.methodLinkNest RX6 19 yX10_init "StepRewriter" ∈ lw_tbl := List.mem_of_getElem? (i := 279) rfl
set_option maxRecDepth 100000 in
theorem hq_n3 : Cond.methodLinkNest RX11 36 yX2_init "StepRewriter" ∈ lw_tbl := List.mem_of_getElem? (i := 223) rfl
set_option maxRecDepth 100000 in
theorem hq_n4 : Cond.methodLinkNest RX11 43 yX5_init "StepRewriter" ∈ lw_tbl := List.mem_of_getElem? (i := 249) rfl
end
section
def hs_RM : String := RX7
def hs_RF : String := RX3
def hs_frl : List (List Bool) := [[true, true, true, false, false], [true, true, false], [true], [true, true, false, true, false], [true, true, true, true, false], [true, true, true, false, false, false, false, false], [true, true, false, false, false, false, false, false, false, false, false], [true], [true, true], [true, true, true, true, true, true, true, true], [false, true, false, false, false, true, true, true, true, true, true, true, true, true, true, true, true, true, true, true, true, true, false, true, true, true, true, true, true, true, true, false, true, false, true, true, false, false, false, false, false, true, true, true, true, true, false, false]]
def hs_fr (ci j : Nat) : Bool := (hs_frl.getD ci []).getD j false
/-! A STATE OF THE WHOLE SYSTEM: the cells that were made since the law's entry, counted from 0 (the cell k lies at B + k):
how many; of each its kind (a class's number; 100 int[], 101 boolean[], 102 Method[], 103 Frame[]; 999 none), its length, its ints, its references (0 null, k + 1 the cell k) -/
abbrev hs_S : Type := Nat × (Nat → Nat) × (Nat → Nat) × (Nat → Nat → Int32) × (Nat → Nat → Nat)
def hs_kd (g : hs_S) (a : Nat) : Nat := g.2.1 a
def hs_ln (g : hs_S) (a : Nat) : Nat := g.2.2.1 a
def hs_I (g : hs_S) (a j : Nat) : Int32 := g.2.2.2.1 a j
def hs_R (g : hs_S) (a j : Nat) : Nat := g.2.2.2.2 a j
def hs_wI (g : hs_S) (a j : Nat) (v : Int32) : hs_S := (g.1, g.2.1, g.2.2.1, fun b i => if b = a then (if i = j then v else g.2.2.2.1 b i) else g.2.2.2.1 b i, g.2.2.2.2)
def hs_wR (g : hs_S) (a j : Nat) (v : Nat) : hs_S := (g.1, g.2.1, g.2.2.1, g.2.2.2.1, fun b i => if b = a then (if i = j then v + 1 else g.2.2.2.2 b i) else g.2.2.2.2 b i)
def hs_new (g : hs_S) (k n : Nat) : hs_S := (g.1 + 1, fun b => if b = g.1 then k else g.2.1 b, fun b => if b = g.1 then n else g.2.2.1 b, fun b i => if b = g.1 then 0 else g.2.2.2.1 b i, fun b i => if b = g.1 then 0 else g.2.2.2.2 b i)
def hs_0 : hs_S := (0, fun _ => 999, fun _ => 0, fun _ _ => 0, fun _ _ => 0)
/-- an index within, as the machine asks it -/
def hs_in (i : Int32) (n : Nat) : Bool := !(decide (i < 0)) && decide (i.toNatClampNeg < n)
/-- 0 or 1 -/
def hs_01 (x : Int32) : Bool := decide (x = 0) || decide (x = 1)
def hs_bd {α β : Type} (x : Option (α × hs_S)) (f : α → hs_S → Option β) : Option β := match x with
  | none => none
  | some (r, g) => f r g
def hs_bv {β : Type} (x : Option hs_S) (f : hs_S → Option β) : Option β := match x with
  | none => none
  | some g => f g
theorem hs_bd_some {α β : Type} {x : Option (α × hs_S)} {f : α → hs_S → Option β} {y : β} (h : hs_bd x f = some y) : ∃ (r : α) (g : hs_S), x = some (r, g) ∧ f r g = some y := by
  cases x with
  | none => cases h
  | some q => exact ⟨q.1, q.2, rfl, h⟩
theorem hs_bv_some {β : Type} {x : Option hs_S} {f : hs_S → Option β} {y : β} (h : hs_bv x f = some y) : ∃ g : hs_S, x = some g ∧ f g = some y := by
  cases x with
  | none => cases h
  | some q => exact ⟨q, rfl, h⟩
def hs_N : Nat := 4294967296
def hs_b3 {α0 α1 γ : Type} (x : Option (α0 × α1 × hs_S)) (f : α0 → α1 → hs_S → Option γ) : Option γ := match x with
  | none => none
  | some (a0, a1, g) => f a0 a1 g
theorem hs_b3_some {α0 α1 γ : Type} {x : Option (α0 × α1 × hs_S)} {f : α0 → α1 → hs_S → Option γ} {y : γ} (h : hs_b3 x f = some y) : ∃ (a0 : α0) (a1 : α1) (g : hs_S), x = some (a0, a1, g) ∧ f a0 a1 g = some y := by
  cases x with
  | none => cases h
  | some q => exact ⟨q.1, q.2.1, q.2.2, rfl, h⟩
def hs_b4 {α0 α1 α2 γ : Type} (x : Option (α0 × α1 × α2 × hs_S)) (f : α0 → α1 → α2 → hs_S → Option γ) : Option γ := match x with
  | none => none
  | some (a0, a1, a2, g) => f a0 a1 a2 g
theorem hs_b4_some {α0 α1 α2 γ : Type} {x : Option (α0 × α1 × α2 × hs_S)} {f : α0 → α1 → α2 → hs_S → Option γ} {y : γ} (h : hs_b4 x f = some y) : ∃ (a0 : α0) (a1 : α1) (a2 : α2) (g : hs_S), x = some (a0, a1, a2, g) ∧ f a0 a1 a2 g = some y := by
  cases x with
  | none => cases h
  | some q => exact ⟨q.1, q.2.1, q.2.2.1, q.2.2.2, rfl, h⟩
def hs_b5 {α0 α1 α2 α3 γ : Type} (x : Option (α0 × α1 × α2 × α3 × hs_S)) (f : α0 → α1 → α2 → α3 → hs_S → Option γ) : Option γ := match x with
  | none => none
  | some (a0, a1, a2, a3, g) => f a0 a1 a2 a3 g
theorem hs_b5_some {α0 α1 α2 α3 γ : Type} {x : Option (α0 × α1 × α2 × α3 × hs_S)} {f : α0 → α1 → α2 → α3 → hs_S → Option γ} {y : γ} (h : hs_b5 x f = some y) : ∃ (a0 : α0) (a1 : α1) (a2 : α2) (a3 : α3) (g : hs_S), x = some (a0, a1, a2, a3, g) ∧ f a0 a1 a2 a3 g = some y := by
  cases x with
  | none => cases h
  | some q => exact ⟨q.1, q.2.1, q.2.2.1, q.2.2.2.1, q.2.2.2.2, rfl, h⟩
def hs_b6 {α0 α1 α2 α3 α4 γ : Type} (x : Option (α0 × α1 × α2 × α3 × α4 × hs_S)) (f : α0 → α1 → α2 → α3 → α4 → hs_S → Option γ) : Option γ := match x with
  | none => none
  | some (a0, a1, a2, a3, a4, g) => f a0 a1 a2 a3 a4 g
theorem hs_b6_some {α0 α1 α2 α3 α4 γ : Type} {x : Option (α0 × α1 × α2 × α3 × α4 × hs_S)} {f : α0 → α1 → α2 → α3 → α4 → hs_S → Option γ} {y : γ} (h : hs_b6 x f = some y) : ∃ (a0 : α0) (a1 : α1) (a2 : α2) (a3 : α3) (a4 : α4) (g : hs_S), x = some (a0, a1, a2, a3, a4, g) ∧ f a0 a1 a2 a3 a4 g = some y := by
  cases x with
  | none => cases h
  | some q => exact ⟨q.1, q.2.1, q.2.2.1, q.2.2.2.1, q.2.2.2.2.1, q.2.2.2.2.2, rfl, h⟩
theorem hs_ck {β : Type} {c : Prop} {i : Decidable c} {x : Option β} {y : β} (h : @ite _ c i x none = some y) : c ∧ x = some y := by
  by_cases hc : c
  · exact ⟨hc, by rw [if_pos hc] at h; exact h⟩
  · rw [if_neg hc] at h; cases h
theorem hs_t {β : Type} {c : Prop} {i : Decidable c} {x z y : Option β} (h : @ite _ c i x z = y) (hc : c) : x = y := by rw [if_pos hc] at h; exact h
theorem hs_f {β : Type} {c : Prop} {i : Decidable c} {x z y : Option β} (h : @ite _ c i x z = y) (hc : ¬ c) : z = y := by rw [if_neg hc] at h; exact h
theorem hs_ft {β : Type} {c : Prop} {i : Decidable c} {x z y : Option β} (h : @ite _ c i x z = y) (hc : ¬ ¬ c) : x = y := hs_t h (Decidable.not_not.mp hc)
theorem hs_in_vp {i : Int32} {n : Nat} (h : hs_in i n = true) : vp_in i n := by
  simp only [hs_in, Bool.and_eq_true, Bool.not_eq_true', decide_eq_false_iff_not, decide_eq_true_eq] at h
  exact fun q => q.elim h.1 (fun z => absurd h.2 (Nat.not_lt.mpr z))
theorem hs_01_nar {x : Int32} (h : hs_01 x = true) : narrow .boolean (.int x) = .int x := by
  simp only [hs_01, Bool.or_eq_true, decide_eq_true_eq] at h
  rcases h with rfl | rfl <;> rfl
theorem hs_01_fit {x : Int32} (h : hs_01 x = true) : fits .boolean (.int x) = true := by
  simp only [hs_01, Bool.or_eq_true, decide_eq_true_eq] at h
  rcases h with rfl | rfl <;> rfl
def hs_rv (B : Nat) : Nat → Value
  | 0 => .null
  | k + 1 => .ref (B + k)
def hs_ro (B : Nat) : Nat → Option Nat
  | 0 => none
  | k + 1 => some (B + k)
theorem hs_ro_rv (B r : Nat) : va_rf (hs_ro B r) = hs_rv B r := by cases r <;> rfl
theorem hs_rv_ne {B r : Nat} (h : ¬ r = 0) : hs_rv B r = .ref (B + (r - 1)) := by
  cases r with
  | zero => exact absurd rfl h
  | succ k => rfl
/-- the fields of the cell a, of class ci, as values -/
def hs_V (B : Nat) (g : hs_S) (a ci : Nat) (j : Nat) : Value := if hs_fr ci j = true then hs_rv B (hs_R g a j) else .int (hs_I g a j)
/-- what the heap holds at B + a -/
def hs_at (B : Nat) (D : va_G) (E : Nat → ClassId) (g : hs_S) (H : Heap) (a : Nat) : Prop :=
  if hs_kd g a < 100 then ∃ r : vw_C, vwCl[hs_kd g a]? = some r ∧ t_OB (B + a) (D.1 (hs_kd g a)) r.2.2 (D.2 (hs_kd g a)) H (hs_V B g a (hs_kd g a))
  else if hs_kd g a < 102 then H[B + a]? = some (vp_cell (E (hs_kd g a - 100)) (hs_ln g a, .inl (hs_I g a)))
  else H[B + a]? = some (vp_cell (E (hs_kd g a - 100)) (hs_ln g a, .inr (.inr (.inr (.inr (fun j => hs_ro B (hs_R g a j)))))))
def hs_P (B : Nat) (D : va_G) (E : Nat → ClassId) (g : hs_S) (H : Heap) : Prop := H.size = B + g.1 ∧ (∀ a, a < g.1 → hs_at B D E g H a) ∧ ∀ a, g.1 ≤ a → hs_kd g a = 999
def hs_ty (E : Nat → ClassId) : List (ClassId × FieldType) := [(E 0, .int), (E 1, .boolean), (E 2, .object hs_RM), (E 3, .object hs_RF)]
/-- what the tables say: the classes' numbers and slots, the array classes, the links between nest mates -/
def hs_K (D : va_G) (E : Nat → ClassId) (U : State) : Prop := va_K D vwCl (hs_ty E) U ∧ va_AO hs_RM U ∧ va_AO hs_RF U ∧ va_Nw (.methodLinkNest RX2 11 yX1_init "StepRewriter") U ∧ va_Nw (.methodLinkNest RX6 19 yX10_init "StepRewriter") U ∧ va_Nw (.methodLinkNest RX11 36 yX2_init "StepRewriter") U ∧ va_Nw (.methodLinkNest RX11 43 yX5_init "StepRewriter") U
theorem hs_K.warm {D : va_G} {E : Nat → ClassId} {s U : State} (hW : s.WarmedH U.vm) (h : hs_K D E s) : hs_K D E U :=
  ⟨va_K.moved hW.alike h.1, h.2.1.moved hW.alike, h.2.2.1.moved hW.alike, va_Nw.warmM hW h.2.2.2.1, va_Nw.warmM hW h.2.2.2.2.1, va_Nw.warmM hW h.2.2.2.2.2.1, va_Nw.warmM hW h.2.2.2.2.2.2⟩
theorem hs_K.same {D : va_G} {E : Nat → ClassId} {s U : State} (hV : s.vm = U.vm) (h : hs_K D E s) : hs_K D E U := by
  have hA : s.vm.Alike U.vm := hV ▸ Vm.Alike.refl s.vm
  exact ⟨va_K.moved hA h.1, h.2.1.moved hA, h.2.2.1.moved hA, va_Nw.same rfl hV h.2.2.2.1, va_Nw.same rfl hV h.2.2.2.2.1, va_Nw.same rfl hV h.2.2.2.2.2.1, va_Nw.same rfl hV h.2.2.2.2.2.2⟩
/-- what a method's walk keeps beside the state: the cells below B as they were, its writes at or above B -/
abbrev hs_Sx (B : Nat) (H0 H : Heap) (locs : List Loc) : Prop := va_S (fun q : Nat => B ≤ q) H0 H locs
theorem hs_lt {B : Nat} {D : va_G} {E : Nat → ClassId} {g : hs_S} {H : Heap} (hP : hs_P B D E g H) {a k : Nat} (hk : hs_kd g a = k) (h : k < 999) : a < g.1 :=
  Nat.lt_of_not_le fun q => by have := hP.2.2 a q; omega
theorem hs_obj {B : Nat} {D : va_G} {E : Nat → ClassId} {g : hs_S} {H : Heap} (hP : hs_P B D E g H) {a ci : Nat} (hk : hs_kd g a = ci) (h : ci < 100) {r : vw_C} (hc : vwCl[ci]? = some r) :
    t_OB (B + a) (D.1 ci) r.2.2 (D.2 ci) H (hs_V B g a ci) := by
  have h1 := hP.2.1 a (hs_lt hP hk (by omega))
  unfold hs_at at h1
  rw [hk, if_pos h] at h1
  obtain ⟨r', h2, h3⟩ := h1
  cases h2.symm.trans hc
  exact h3
theorem hs_arrI {B : Nat} {D : va_G} {E : Nat → ClassId} {g : hs_S} {H : Heap} (hP : hs_P B D E g H) {a t : Nat} (hk : hs_kd g a = 100 + t) (h : t < 2) :
    H[B + a]? = some (arrV (E t) (hs_ln g a) (fun j => .int (hs_I g a j))) := by
  have h1 := hP.2.1 a (hs_lt hP hk (by omega))
  unfold hs_at at h1
  rw [hk, if_neg (by omega), if_pos (by omega), Nat.add_sub_cancel_left] at h1
  exact h1
theorem hs_arrR {B : Nat} {D : va_G} {E : Nat → ClassId} {g : hs_S} {H : Heap} (hP : hs_P B D E g H) {a t : Nat} (hk : hs_kd g a = 100 + t) (h : 2 ≤ t) (h' : t < 4) :
    H[B + a]? = some (arrV (E t) (hs_ln g a) (fun j => hs_rv B (hs_R g a j))) := by
  have h1 := hP.2.1 a (hs_lt hP hk (by omega))
  unfold hs_at at h1
  rw [hk, if_neg (by omega), if_neg (by omega), Nat.add_sub_cancel_left] at h1
  rw [h1, vp_cell_q]
  simp only [hs_ro_rv]
/-- another cell's change leaves a cell -/
theorem hs_at_kept {B : Nat} {D : va_G} {E : Nat → ClassId} {g g' : hs_S} {H H' : Heap} {b : Nat} (h : hs_at B D E g H b) (hH : H'[B + b]? = H[B + b]?) (hk : hs_kd g' b = hs_kd g b) (hn : hs_ln g' b = hs_ln g b) (hI : hs_I g' b = hs_I g b) (hR : hs_R g' b = hs_R g b) : hs_at B D E g' H' b := by
  unfold hs_at hs_V at *
  rw [hk, hn, hI, hR]
  split
  · rename_i hc
    rw [if_pos hc] at h
    obtain ⟨r, h1, h2⟩ := h
    exact ⟨r, h1, h2.kept hH⟩
  · rename_i hc
    rw [if_neg hc] at h
    split
    · rename_i hd
      rw [if_pos hd] at h
      rw [hH]; exact h
    · rename_i hd
      rw [if_neg hd] at h
      rw [hH]; exact h
theorem hs_I_wI_ne {g : hs_S} {a j : Nat} {v : Int32} {b : Nat} (h : ¬ b = a) : hs_I (hs_wI g a j v) b = hs_I g b := by
  funext i; simp [hs_I, hs_wI, h]
theorem hs_R_wR_ne {g : hs_S} {a j v b : Nat} (h : ¬ b = a) : hs_R (hs_wR g a j v) b = hs_R g b := by
  funext i; simp [hs_R, hs_wR, h]
theorem hs_I_wI (g : hs_S) (a j : Nat) (v : Int32) (b i : Nat) : hs_I (hs_wI g a j v) b i = if b = a then (if i = j then v else hs_I g b i) else hs_I g b i := rfl
theorem hs_R_wR (g : hs_S) (a j v b i : Nat) : hs_R (hs_wR g a j v) b i = if b = a then (if i = j then v + 1 else hs_R g b i) else hs_R g b i := rfl
/-- the state behind a write to the cell a -/
theorem hs_P_wr {B : Nat} {D : va_G} {E : Nat → ClassId} {g g' : hs_S} {H H' : Heap} {a : Nat} (hP : hs_P B D E g H) (hz : H'.size = H.size) (oq : ∀ q : Nat, q ≠ B + a → H'[q]? = H[q]?) (e1 : g'.1 = g.1) (e2 : g'.2.1 = g.2.1) (e3 : g'.2.2.1 = g.2.2.1) (e4 : ∀ b, ¬ b = a → hs_I g' b = hs_I g b ∧ hs_R g' b = hs_R g b) (h : hs_at B D E g' H' a) : hs_P B D E g' H' := by
  refine ⟨by rw [hz, hP.1, e1], fun b hb => ?_, fun b hb => ?_⟩
  · by_cases hba : b = a
    · rw [hba]; exact h
    · rw [e1] at hb
      exact hs_at_kept (hP.2.1 b hb) (oq _ (by omega)) (by unfold hs_kd; rw [e2]) (by unfold hs_ln; rw [e3]) (e4 b hba).1 (e4 b hba).2
  · rw [e1] at hb
    have := hP.2.2 b hb
    unfold hs_kd at *
    rw [e2]; exact this
/-- the state behind a new cell -/
theorem hs_P_new {B : Nat} {D : va_G} {E : Nat → ClassId} {g : hs_S} {H H' : Heap} {k n : Nat} (hP : hs_P B D E g H) (hz : H'.size = B + g.1 + 1) (oq : ∀ q : Nat, q < B + g.1 → H'[q]? = H[q]?) (h : hs_at B D E (hs_new g k n) H' g.1) : hs_P B D E (hs_new g k n) H' := by
  refine ⟨by rw [hz]; show _ = B + (g.1 + 1); omega, fun b hb => ?_, fun b hb => ?_⟩
  · by_cases hba : b = g.1
    · rw [hba]; exact h
    · have hb' : b < g.1 := by have : b < g.1 + 1 := hb; omega
      refine hs_at_kept (hP.2.1 b hb') (oq _ (by omega)) ?_ ?_ ?_ ?_
      · simp [hs_kd, hs_new, hba]
      · simp [hs_ln, hs_new, hba]
      · funext i; simp [hs_I, hs_new, hba]
      · funext i; simp [hs_R, hs_new, hba]
  · have hb' : g.1 + 1 ≤ b := hb
    have := hP.2.2 b (by omega)
    unfold hs_kd at *
    simp only [hs_new]
    rw [if_neg (by omega)]; exact this
section HSR
variable {p : Program} {l : Launch} {e : Env} {R : Room} {s : State} {m : MethodId} {args : Array Value} {below : List Frame} {meth : Method} {c : Code} {H : Heap} {locs : List Loc} {cells slots : Nat} {Q : State → Prop}
variable {cc : ByteArray} {pc : Nat} {ls : Array Slot} {rest : List Value} {B : Nat} {D : va_G} {E : Nat → ClassId} {g : hs_S} {a : Nat} {H0 : Heap}
theorem hs_getv (hexec : p.tables.exec = Jvm.exec) (hb : c.code = cc) {own ref C : String} {T : u_T} {N ci index : Nat} {Ts : List Cond} (hts : ∀ w ∈ Ts, w.before args s = true) (hin : ∀ w ∈ u_ws C T N, w ∈ Ts) (hown : s.vm.findClass own = some m.cls) (hK : va_K D vwCl (hs_ty E) s) (hP : hs_P B D E g H) (hk : hs_kd g a = ci) (hci : ci < 100) (hc : vwCl[ci]? = some (C, T, N)) (k : Nat) (hkN : k < N) (hlink : (Cond.fieldLink own index ref (T k).2.1 (T k).2.2.1).before args s = true) (hsame : ∀ x, s.fieldFound? (T k).1 (T k).2.1 (T k).2.2.1 = some x → s.fieldFound? ref (T k).2.1 (T k).2.2.1 = some x) {v : Value} (hv : hs_V B g a ci k = v) (hdg : decode cc pc = .ok (.getfield index, 3))
    (kk : W p l e R s m args below meth c H locs cells slots Q (F0 m (pc + 3) ls (v :: rest))) : W p l e R s m args below meth c H locs cells slots Q (F0 m pc ls (.ref (B + a) :: rest)) := by
  obtain ⟨cell, q1, q2, q3, q4⟩ := hs_obj hP hk hci hc
  obtain ⟨hS, hfc, kC, hkC, hkind⟩ := hK.1 ci _ hc
  obtain ⟨cf, kf, fi, f, hi, hsl⟩ := hS k hkN
  refine W.getf hexec hb hown hlink (hsame _ hi) (u_facts hfc hkC (u_lays hts hin hkN) hi).1 q1 (by rw [q3]; exact fun h => by cases h) (v := v) ?_ rfl rfl hdg kk
  rw [hsl, q4 k hkN, hv]
theorem hs_geti (hexec : p.tables.exec = Jvm.exec) (hb : c.code = cc) {own ref C : String} {T : u_T} {N ci index : Nat} {Ts : List Cond} (hts : ∀ w ∈ Ts, w.before args s = true) (hin : ∀ w ∈ u_ws C T N, w ∈ Ts) (hown : s.vm.findClass own = some m.cls) (hK : va_K D vwCl (hs_ty E) s) (hP : hs_P B D E g H) (hk : hs_kd g a = ci) (hci : ci < 100) (hc : vwCl[ci]? = some (C, T, N)) (k : Nat) (hkN : k < N) (hlink : (Cond.fieldLink own index ref (T k).2.1 (T k).2.2.1).before args s = true) (hsame : ∀ x, s.fieldFound? (T k).1 (T k).2.1 (T k).2.2.1 = some x → s.fieldFound? ref (T k).2.1 (T k).2.2.1 = some x) (hfr : hs_fr ci k = false) (hdg : decode cc pc = .ok (.getfield index, 3))
    (kk : W p l e R s m args below meth c H locs cells slots Q (F0 m (pc + 3) ls (.int (hs_I g a k) :: rest))) : W p l e R s m args below meth c H locs cells slots Q (F0 m pc ls (.ref (B + a) :: rest)) :=
  hs_getv hexec hb hts hin hown hK hP hk hci hc k hkN hlink hsame (by simp [hs_V, hfr]) hdg kk
theorem hs_getr (hexec : p.tables.exec = Jvm.exec) (hb : c.code = cc) {own ref C : String} {T : u_T} {N ci index : Nat} {Ts : List Cond} (hts : ∀ w ∈ Ts, w.before args s = true) (hin : ∀ w ∈ u_ws C T N, w ∈ Ts) (hown : s.vm.findClass own = some m.cls) (hK : va_K D vwCl (hs_ty E) s) (hP : hs_P B D E g H) (hk : hs_kd g a = ci) (hci : ci < 100) (hc : vwCl[ci]? = some (C, T, N)) (k : Nat) (hkN : k < N) (hlink : (Cond.fieldLink own index ref (T k).2.1 (T k).2.2.1).before args s = true) (hsame : ∀ x, s.fieldFound? (T k).1 (T k).2.1 (T k).2.2.1 = some x → s.fieldFound? ref (T k).2.1 (T k).2.2.1 = some x) (hfr : hs_fr ci k = true) (hne : ¬ hs_R g a k = 0) (hdg : decode cc pc = .ok (.getfield index, 3))
    (kk : W p l e R s m args below meth c H locs cells slots Q (F0 m (pc + 3) ls (.ref (B + (hs_R g a k - 1)) :: rest))) : W p l e R s m args below meth c H locs cells slots Q (F0 m pc ls (.ref (B + a) :: rest)) :=
  hs_getv hexec hb hts hin hown hK hP hk hci hc k hkN hlink hsame (by simp [hs_V, hfr, hs_rv_ne hne]) hdg kk
theorem hs_put0 (hexec : p.tables.exec = Jvm.exec) (hb : c.code = cc) {own ref C : String} {T : u_T} {N ci index : Nat} {Ts : List Cond} (hts : ∀ w ∈ Ts, w.before args s = true) (hin : ∀ w ∈ u_ws C T N, w ∈ Ts) (ty0 : Nat → FieldType) (hty : ∀ k, k < N → parseFieldDescriptor (T k).2.2.1 = some (ty0 k)) (hnm : ∀ a, a < N → ∀ b, b < N → a ≠ b → (T a).2.1 ≠ (T b).2.1) (hown : s.vm.findClass own = some m.cls) (hK : va_K D vwCl (hs_ty E) s) (hP : hs_P B D E g H) (hS0 : hs_Sx B H0 H locs) (hk : hs_kd g a = ci) (hci : ci < 100) (hc : vwCl[ci]? = some (C, T, N)) (k : Nat) (hkN : k < N) (hlink : (Cond.fieldLink own index ref (T k).2.1 (T k).2.2.1).before args s = true) (hsame : ∀ x, s.fieldFound? (T k).1 (T k).2.1 (T k).2.2.1 = some x → s.fieldFound? ref (T k).2.1 (T k).2.2.1 = some x) (hfin : (T k).2.2.2 = false ∨ ((T k).2.2.2 = true ∧ meth.name = "<init>" ∧ (T k).1 = own)) {v : Value} (hn : narrow (ty0 k) v = v) (hfit : fits (ty0 k) v = true)
    {g' : hs_S} (e1 : g'.1 = g.1) (e2 : g'.2.1 = g.2.1) (e3 : g'.2.2.1 = g.2.2.1) (e4 : ∀ b, ¬ b = a → hs_I g' b = hs_I g b ∧ hs_R g' b = hs_R g b) (e5 : ∀ j, j < N → updV (hs_V B g a ci) k v j = hs_V B g' a ci j)
    (hdg : decode cc pc = .ok (.putfield index, 3)) (kk : ∀ (H1 : Heap) (locs1 : List Loc), hs_P B D E g' H1 → hs_Sx B H0 H1 locs1 → W p l e R s m args below meth c H1 locs1 cells slots Q (F0 m (pc + 3) ls rest)) : W p l e R s m args below meth c H locs cells slots Q (F0 m pc ls (v :: .ref (B + a) :: rest)) := by
  have hap := va_apart (own := own) hts hin ty0 hty hnm hK hc
  have hd := hty k hkN
  obtain ⟨cell, q1, q2, q3, q4⟩ := hs_obj hP hk hci hc
  obtain ⟨hS, hfc, kC, hkC, hkind⟩ := hK.1 ci _ hc
  obtain ⟨cf, kf, fi, f, hi, hsl⟩ := hS k hkN
  have hlay := hts _ (hin _ (u_in_lay hkN))
  unfold u_lay at hlay
  have hst := (u_facts hfc hkC (u_lays hts hin hkN) hi).1
  have fin : ∀ (H1 : Heap), H1[B + a]? = some (cell.setSlot f.slot v) → H1.size = H.size → (∀ q : Nat, q ≠ B + a → H1[q]? = H[q]?) → W p l e R s m args below meth c H1 (locs ++ [⟨B + a, f.slot⟩]) cells slots Q (F0 m (pc + 3) ls rest) := by
    intro H1 x1 x2 x3
    refine kk H1 _ (hs_P_wr hP x2 x3 e1 e2 e3 e4 ?_) (hS0.put x2 x3 (Nat.le_add_right B a))
    have hk' : hs_kd g' a = ci := by unfold hs_kd at *; rw [e2]; exact hk
    unfold hs_at
    rw [hk', if_pos hci]
    rw [hsl] at x1
    exact ⟨_, hc, t_OB.to (V := updV (hs_V B g a ci) k v) ⟨_, x1, q2, q3, t_set q4 hap hkN v⟩ e5⟩
  rcases hfin with hfin | ⟨hfin, hin2, hdecl⟩
  · rw [if_neg (by rw [hfin]; decide)] at hlay
    have h6 := u_store hfc hkC hkind hlay hi hd hn hfit
    exact W.putK hexec hb (f := f) ⟨hown, hlink, ⟨_, _, _, hsame _ hi⟩, hst⟩ (by rw [q2]; exact h6) q1 q3 (by rw [hsl]; exact k2_hasslot (q4 k hkN)) rfl rfl hdg fin
  · rw [if_pos hfin] at hlay
    have hcf : m.cls = cf := by
      obtain ⟨_, _, c', _, _, _, -, -, hf', -, -, -, hown2, -⟩ := Cond.laysFinal_spec hlay
      have x1 : c' = cf := by have := hi.symm.trans hf'; simp at this; exact this.1.symm
      rw [hdecl] at hown2
      rw [← x1]; exact Option.some.inj (hown.symm.trans hown2)
    have h6 := u_fits hfc hkC hkind (Or.inr hlay) hi hd hn hfit
    exact W.putFinK hexec hb hown hlink (hsame _ hi) hst hcf hin2 (by rw [q2]; exact h6) q1 q3 (by rw [hsl]; exact k2_hasslot (q4 k hkN)) rfl rfl hdg fin
theorem hs_puti (hexec : p.tables.exec = Jvm.exec) (hb : c.code = cc) {own ref C : String} {T : u_T} {N ci index : Nat} {Ts : List Cond} (hts : ∀ w ∈ Ts, w.before args s = true) (hin : ∀ w ∈ u_ws C T N, w ∈ Ts) (ty0 : Nat → FieldType) (hty : ∀ k, k < N → parseFieldDescriptor (T k).2.2.1 = some (ty0 k)) (hnm : ∀ a, a < N → ∀ b, b < N → a ≠ b → (T a).2.1 ≠ (T b).2.1) (hown : s.vm.findClass own = some m.cls) (hK : va_K D vwCl (hs_ty E) s) (hP : hs_P B D E g H) (hS0 : hs_Sx B H0 H locs) (hk : hs_kd g a = ci) (hci : ci < 100) (hc : vwCl[ci]? = some (C, T, N)) (k : Nat) (hkN : k < N) (hlink : (Cond.fieldLink own index ref (T k).2.1 (T k).2.2.1).before args s = true) (hsame : ∀ x, s.fieldFound? (T k).1 (T k).2.1 (T k).2.2.1 = some x → s.fieldFound? ref (T k).2.1 (T k).2.2.1 = some x) (hfin : (T k).2.2.2 = false ∨ ((T k).2.2.2 = true ∧ meth.name = "<init>" ∧ (T k).1 = own)) {v : Int32} (hn : narrow (ty0 k) (.int v) = .int v) (hfit : fits (ty0 k) (.int v) = true) (hfr : hs_fr ci k = false)
    (hdg : decode cc pc = .ok (.putfield index, 3)) (kk : ∀ (H1 : Heap) (locs1 : List Loc), hs_P B D E (hs_wI g a k v) H1 → hs_Sx B H0 H1 locs1 → W p l e R s m args below meth c H1 locs1 cells slots Q (F0 m (pc + 3) ls rest)) : W p l e R s m args below meth c H locs cells slots Q (F0 m pc ls (.int v :: .ref (B + a) :: rest)) := by
  refine hs_put0 hexec hb hts hin ty0 hty hnm hown hK hP hS0 hk hci hc k hkN hlink hsame hfin hn hfit (g' := hs_wI g a k v) rfl rfl rfl (fun b hb => ⟨hs_I_wI_ne hb, rfl⟩) (fun j _ => ?_) hdg kk
  by_cases hj : j = k
  · subst hj; simp [updV, hs_V, hfr, hs_I_wI]
  · simp only [updV, hs_V, hs_I_wI, hj, if_false, if_true]; rfl
theorem hs_putr (hexec : p.tables.exec = Jvm.exec) (hb : c.code = cc) {own ref C : String} {T : u_T} {N ci index : Nat} {Ts : List Cond} (hts : ∀ w ∈ Ts, w.before args s = true) (hin : ∀ w ∈ u_ws C T N, w ∈ Ts) (ty0 : Nat → FieldType) (hty : ∀ k, k < N → parseFieldDescriptor (T k).2.2.1 = some (ty0 k)) (hnm : ∀ a, a < N → ∀ b, b < N → a ≠ b → (T a).2.1 ≠ (T b).2.1) (hown : s.vm.findClass own = some m.cls) (hK : va_K D vwCl (hs_ty E) s) (hP : hs_P B D E g H) (hS0 : hs_Sx B H0 H locs) (hk : hs_kd g a = ci) (hci : ci < 100) (hc : vwCl[ci]? = some (C, T, N)) (k : Nat) (hkN : k < N) (hlink : (Cond.fieldLink own index ref (T k).2.1 (T k).2.2.1).before args s = true) (hsame : ∀ x, s.fieldFound? (T k).1 (T k).2.1 (T k).2.2.1 = some x → s.fieldFound? ref (T k).2.1 (T k).2.2.1 = some x) (hfin : (T k).2.2.2 = false ∨ ((T k).2.2.2 = true ∧ meth.name = "<init>" ∧ (T k).1 = own)) {v : Nat} (hn : ∀ z : Nat, narrow (ty0 k) (.ref z) = .ref z) (hfit : ∀ z : Nat, fits (ty0 k) (.ref z) = true) (hfr : hs_fr ci k = true)
    (hdg : decode cc pc = .ok (.putfield index, 3)) (kk : ∀ (H1 : Heap) (locs1 : List Loc), hs_P B D E (hs_wR g a k v) H1 → hs_Sx B H0 H1 locs1 → W p l e R s m args below meth c H1 locs1 cells slots Q (F0 m (pc + 3) ls rest)) : W p l e R s m args below meth c H locs cells slots Q (F0 m pc ls (.ref (B + v) :: .ref (B + a) :: rest)) := by
  refine hs_put0 hexec hb hts hin ty0 hty hnm hown hK hP hS0 hk hci hc k hkN hlink hsame hfin (hn _) (hfit _) (g' := hs_wR g a k v) rfl rfl rfl (fun b hb => ⟨rfl, hs_R_wR_ne hb⟩) (fun j _ => ?_) hdg kk
  by_cases hj : j = k
  · subst hj; simp [updV, hs_V, hfr, hs_R_wR, hs_rv]
  · simp only [updV, hs_V, hs_R_wR, hj, if_false, if_true]; rfl
theorem hs_alen (hexec : p.tables.exec = Jvm.exec) (hb : c.code = cc) (hK : va_K D vwCl (hs_ty E) s) (hP : hs_P B D E g H) {t : Nat} (hk : hs_kd g a = 100 + t) (ht : t < 4) (hdg : decode cc pc = .ok (.arraylength, 1))
    (kk : W p l e R s m args below meth c H locs cells slots Q (F0 m (pc + 1) ls (.int (Int32.ofNat (hs_ln g a)) :: rest))) : W p l e R s m args below meth c H locs cells slots Q (F0 m pc ls (.ref (B + a) :: rest)) := by
  by_cases h2 : t < 2
  · have h := hs_arrI hP hk h2
    rcases (show t = 0 ∨ t = 1 by omega) with rfl | rfl
    · exact W.alen (n := Int32.ofNat (hs_ln g a)) hexec hb h ((hK.2 0 _ rfl).1 _ _) (by rw [arrV_size] <;> rfl) rfl rfl hdg kk
    · exact W.alen (n := Int32.ofNat (hs_ln g a)) hexec hb h ((hK.2 1 _ rfl).1 _ _) (by rw [arrV_size] <;> rfl) rfl rfl hdg kk
  · have h := hs_arrR hP hk (by omega) ht
    rcases (show t = 2 ∨ t = 3 by omega) with rfl | rfl
    · exact W.alen (n := Int32.ofNat (hs_ln g a)) hexec hb h ((hK.2 2 _ rfl).1 _ _) (by rw [arrV_size] <;> rfl) rfl rfl hdg kk
    · exact W.alen (n := Int32.ofNat (hs_ln g a)) hexec hb h ((hK.2 3 _ rfl).1 _ _) (by rw [arrV_size] <;> rfl) rfl rfl hdg kk
theorem hs_iald (hexec : p.tables.exec = Jvm.exec) (hb : c.code = cc) (hK : va_K D vwCl (hs_ty E) s) (hP : hs_P B D E g H) (hk : hs_kd g a = 100) {i : Int32} (hin : hs_in i (hs_ln g a) = true) (hdg : decode cc pc = .ok (.iaload, 1))
    (kk : W p l e R s m args below meth c H locs cells slots Q (F0 m (pc + 1) ls (.int (hs_I g a i.toNatClampNeg) :: rest))) : W p l e R s m args below meth c H locs cells slots Q (F0 m pc ls (.int i :: .ref (B + a) :: rest)) := by
  have hi := hs_in_vp hin
  have hlt : i.toNatClampNeg < hs_ln g a := Nat.not_le.mp fun q => hi (Or.inr q)
  exact W.iald (v := .int (hs_I g a i.toNatClampNeg)) hexec hb (hs_arrI hP (t := 0) hk (by decide)) ((hK.2 0 _ rfl).1 _ _) (fun q => by cases q) (by rw [arrV_size]; exact hi) (by rw [arrV_read _ _ hlt]) rfl rfl hdg kk
theorem hs_zald (hexec : p.tables.exec = Jvm.exec) (hb : c.code = cc) (hK : va_K D vwCl (hs_ty E) s) (hP : hs_P B D E g H) (hk : hs_kd g a = 101) {i : Int32} (hin : hs_in i (hs_ln g a) = true) (hdg : decode cc pc = .ok (.baload, 1))
    (kk : W p l e R s m args below meth c H locs cells slots Q (F0 m (pc + 1) ls (.int (hs_I g a i.toNatClampNeg) :: rest))) : W p l e R s m args below meth c H locs cells slots Q (F0 m pc ls (.int i :: .ref (B + a) :: rest)) := by
  have hi := hs_in_vp hin
  have hlt : i.toNatClampNeg < hs_ln g a := Nat.not_le.mp fun q => hi (Or.inr q)
  exact W.zald (v := .int (hs_I g a i.toNatClampNeg)) hexec hb (hs_arrI hP (t := 1) hk (by decide)) ((hK.2 1 _ rfl).1 _ _) (fun q => by cases q) (by rw [arrV_size]; exact hi) (by rw [arrV_read _ _ hlt]) rfl rfl hdg kk
theorem hs_aald (hexec : p.tables.exec = Jvm.exec) (hb : c.code = cc) (hK : va_K D vwCl (hs_ty E) s) (hP : hs_P B D E g H) {t : Nat} (hk : hs_kd g a = 100 + t) (h2 : 2 ≤ t) (h4 : t < 4) {i : Int32} (hin : hs_in i (hs_ln g a) = true) (hne : ¬ hs_R g a i.toNatClampNeg = 0) (hdg : decode cc pc = .ok (.aaload, 1))
    (kk : W p l e R s m args below meth c H locs cells slots Q (F0 m (pc + 1) ls (.ref (B + (hs_R g a i.toNatClampNeg - 1)) :: rest))) : W p l e R s m args below meth c H locs cells slots Q (F0 m pc ls (.int i :: .ref (B + a) :: rest)) := by
  have hi := hs_in_vp hin
  have hlt : i.toNatClampNeg < hs_ln g a := Nat.not_le.mp fun q => hi (Or.inr q)
  have h := hs_arrR hP hk h2 h4
  rcases (show t = 2 ∨ t = 3 by omega) with rfl | rfl
  · exact W.aald (v := .ref (B + (hs_R g a i.toNatClampNeg - 1))) hexec hb h ((hK.2 2 _ rfl).1 _ _) rfl (fun q => by cases q) (by rw [arrV_size]; exact hi) (by rw [arrV_read _ _ hlt, hs_rv_ne hne]) rfl rfl hdg kk
  · exact W.aald (v := .ref (B + (hs_R g a i.toNatClampNeg - 1))) hexec hb h ((hK.2 3 _ rfl).1 _ _) rfl (fun q => by cases q) (by rw [arrV_size]; exact hi) (by rw [arrV_read _ _ hlt, hs_rv_ne hne]) rfl rfl hdg kk
theorem hs_at_arrI {g' : hs_S} {H' : Heap} {t : Nat} (hk : hs_kd g' a = 100 + t) (h : t < 2) (hH : H'[B + a]? = some (arrV (E t) (hs_ln g' a) (fun j => .int (hs_I g' a j)))) : hs_at B D E g' H' a := by
  unfold hs_at
  rw [hk, if_neg (by omega), if_pos (by omega), Nat.add_sub_cancel_left]
  exact hH
theorem hs_at_arrR {g' : hs_S} {H' : Heap} {t : Nat} (hk : hs_kd g' a = 100 + t) (h : 2 ≤ t) (hH : H'[B + a]? = some (arrV (E t) (hs_ln g' a) (fun j => hs_rv B (hs_R g' a j)))) : hs_at B D E g' H' a := by
  unfold hs_at
  rw [hk, if_neg (by omega), if_neg (by omega), Nat.add_sub_cancel_left, vp_cell_q]
  simp only [hs_ro_rv]
  exact hH
theorem hs_iast (hexec : p.tables.exec = Jvm.exec) (hb : c.code = cc) (hK : va_K D vwCl (hs_ty E) s) (hP : hs_P B D E g H) (hS : hs_Sx B H0 H locs) (hk : hs_kd g a = 100) {i x : Int32} (hin : hs_in i (hs_ln g a) = true) (hdg : decode cc pc = .ok (.iastore, 1))
    (kk : ∀ (H1 : Heap) (locs1 : List Loc), hs_P B D E (hs_wI g a i.toNatClampNeg x) H1 → hs_Sx B H0 H1 locs1 → W p l e R s m args below meth c H1 locs1 cells slots Q (F0 m (pc + 1) ls rest)) : W p l e R s m args below meth c H locs cells slots Q (F0 m pc ls (.int x :: .int i :: .ref (B + a) :: rest)) := by
  have hi := hs_in_vp hin
  refine W.iast hexec hb (hs_arrI hP (t := 0) hk (by decide)) ((hK.2 0 _ rfl).1 _ _) (fun q => by cases q) (by rw [arrV_size]; exact hi) rfl rfl hdg fun H1 x1 z oq => ?_
  refine kk H1 _ (hs_P_wr hP z oq rfl rfl rfl (fun b hb => ⟨hs_I_wI_ne hb, rfl⟩) (hs_at_arrI (t := 0) hk (by decide) ?_)) (hS.put z oq (Nat.le_add_right B a))
  rw [x1, arrV_store]
  congr 2
  funext q
  by_cases hq : q = i.toNatClampNeg
  · subst hq; simp [updV, hs_I_wI]
  · simp [updV, hs_I_wI, hq]
theorem hs_zast (hexec : p.tables.exec = Jvm.exec) (hb : c.code = cc) (hK : va_K D vwCl (hs_ty E) s) (hP : hs_P B D E g H) (hS : hs_Sx B H0 H locs) (hk : hs_kd g a = 101) {i x : Int32} (hin : hs_in i (hs_ln g a) = true) (h01 : hs_01 x = true) (hdg : decode cc pc = .ok (.bastore, 1))
    (kk : ∀ (H1 : Heap) (locs1 : List Loc), hs_P B D E (hs_wI g a i.toNatClampNeg x) H1 → hs_Sx B H0 H1 locs1 → W p l e R s m args below meth c H1 locs1 cells slots Q (F0 m (pc + 1) ls rest)) : W p l e R s m args below meth c H locs cells slots Q (F0 m pc ls (.int x :: .int i :: .ref (B + a) :: rest)) := by
  have hi := hs_in_vp hin
  refine W.zast hexec hb (hs_arrI hP (t := 1) hk (by decide)) ((hK.2 1 _ rfl).1 _ _) (fun q => by cases q) (by rw [arrV_size]; exact hi) rfl rfl hdg fun H1 x1 z oq => ?_
  refine kk H1 _ (hs_P_wr hP z oq rfl rfl rfl (fun b hb => ⟨hs_I_wI_ne hb, rfl⟩) (hs_at_arrI (t := 1) hk (by decide) ?_)) (hS.put z oq (Nat.le_add_right B a))
  rw [x1, arrV_store, hs_01_nar h01]
  congr 2
  funext q
  by_cases hq : q = i.toNatClampNeg
  · subst hq; simp [updV, hs_I_wI]
  · simp [updV, hs_I_wI, hq]
theorem hs_aast (hexec : p.tables.exec = Jvm.exec) (hb : c.code = cc) (hK : va_K D vwCl (hs_ty E) s) (hP : hs_P B D E g H) (hS : hs_Sx B H0 H locs) {t ci v : Nat} {r : vw_C} (hk : hs_kd g a = 100 + t) (h2 : 2 ≤ t) (h4 : t < 4) (hty : (hs_ty E)[t]? = some (E t, .object r.1)) (hv : hs_kd g v = ci) (hci : ci < 100) (hc : vwCl[ci]? = some r) {i : Int32} (hin : hs_in i (hs_ln g a) = true) (hdg : decode cc pc = .ok (.aastore, 1))
    (kk : ∀ (H1 : Heap) (locs1 : List Loc), hs_P B D E (hs_wR g a i.toNatClampNeg v) H1 → hs_Sx B H0 H1 locs1 → W p l e R s m args below meth c H1 locs1 cells slots Q (F0 m (pc + 1) ls rest)) : W p l e R s m args below meth c H locs cells slots Q (F0 m pc ls (.ref (B + v) :: .int i :: .ref (B + a) :: rest)) := by
  have hi := hs_in_vp hin
  have hlt : i.toNatClampNeg < hs_ln g a := Nat.not_le.mp fun q => hi (Or.inr q)
  have h0 : ¬ i < 0 := fun q => hi (Or.inl q)
  obtain ⟨cellV, g1, g2, g3, -⟩ := hs_obj hP hv hci hc
  have hcls := (hK.1 ci r hc).2
  obtain ⟨kA, comp, k1, k2, k3, -⟩ := (hK.2 t _ hty).2
  have hcomp : comp = D.1 ci := Option.some.inj (k3.symm.trans hcls.1)
  subst hcomp
  obtain ⟨kC, hkC, -⟩ := hcls.2
  refine W.aast hexec hb (hs_arrR hP hk h2 h4) (fun q h => by cases h) (fun h => by cases h) k1 k2 rfl hkC ⟨h0, by rw [arrV_size]; exact hlt⟩ g1 (fun q h => by rw [g3] at h; cases h) (by rw [g2]; exact hkC) (by rw [g2]; exact va_assign hcls) rfl rfl hdg fun H1 x1 z oq => ?_
  refine kk H1 _ (hs_P_wr hP z oq rfl rfl rfl (fun b hb => ⟨rfl, hs_R_wR_ne hb⟩) (hs_at_arrR hk h2 ?_)) (hS.put z oq (Nat.le_add_right B a))
  rw [x1, arrV_store]
  congr 2
  funext q
  by_cases hq : q = i.toNatClampNeg
  · subst hq; simp [updV, hs_R_wR, hs_rv]
  · simp [updV, hs_R_wR, hq]
theorem hs_Sx_new {H1 : Heap} {n : Nat} (hS : hs_Sx B H0 H locs) (hz : H.size = n) (z1 : H1.size = n + 1) (o1 : ∀ q : Nat, q < n → H1[q]? = H[q]?) : hs_Sx B H0 H1 locs :=
  ⟨by have := hS.1; omega, fun q h1 h2 => by rw [o1 q (by have := hS.1; omega)]; exact hS.2.1 q h1 h2, hS.2.2⟩
theorem hs_newc (hexec : p.tables.exec = Jvm.exec) (hb : c.code = cc) {own C : String} {T : u_T} {N ci index : Nat} {Ts : List Cond} (hts : ∀ w ∈ Ts, w.before args s = true) (hin : ∀ w ∈ u_ws C T N, w ∈ Ts) (ty : Nat → FieldType) (hty : ∀ k, k < N → parseFieldDescriptor (T k).2.2.1 = some (ty k)) (hown : s.vm.findClass own = some m.cls) (hcl : (Cond.classLink own index C).before args s = true) (hinst : (Cond.instantiable C N).before args s = true) (hini : (Cond.initialized C).before args s = true)
    (hK : va_K D vwCl (hs_ty E) s) (hP : hs_P B D E g H) (hS : hs_Sx B H0 H locs) (hci : ci < 100) (hc : vwCl[ci]? = some (C, T, N)) (hfs : ∀ j, j < N → defaultValue (ty j) = if hs_fr ci j = true then .null else .int 0) (hcells : cells + 1 ≤ R.cells) (hslots : slots + N ≤ R.slots) (hdg : decode cc pc = .ok (.new index, 3))
    (kk : ∀ H1 : Heap, hs_P B D E (hs_new g ci 0) H1 → hs_Sx B H0 H1 locs → W p l e R s m args below meth c H1 locs (cells + 1) (slots + N) Q (F0 m (pc + 3) ls (.ref (B + g.1) :: rest))) : W p l e R s m args below meth c H locs cells slots Q (F0 m pc ls rest) := by
  have hKn := hK.1 ci _ hc
  refine W.newcK hexec hb hown hcl hinst hini rfl hdg hcells hslots hKn.2.1 hP.1 fun H1 kC hkC e1 z1 o1 => ?_
  refine kk H1 (hs_P_new hP z1 o1 ?_) (hs_Sx_new hS hP.1 z1 o1)
  have hk' : hs_kd (hs_new g ci 0) g.1 = ci := by simp [hs_kd, hs_new]
  unfold hs_at
  rw [hk', if_pos hci]
  refine ⟨_, hc, (u_born ty hts hin hKn hkC e1 hty).to (fun j hj => ?_)⟩
  rw [hfs j hj]
  simp [hs_V, hs_R, hs_I, hs_new, hs_rv]
theorem hs_newI (hexec : p.tables.exec = Jvm.exec) (hb : c.code = cc) {atype : ArrayType} {t k : Nat} (h2 : t < 2) (hkk : 100 + t = k) (harr : (Cond.arrayClass (newarray.typeOf atype)).before args s = true) (hty : (hs_ty E)[t]? = some (E t, newarray.typeOf atype)) (hra : ∀ U x, va_RA U x (newarray.typeOf atype) → U.vm.findClass ("[" ++ (newarray.typeOf atype).toString) = some x) (hdef : defaultValue (newarray.typeOf atype) = .int 0) (hK : va_K D vwCl (hs_ty E) s) (hP : hs_P B D E g H) (hS : hs_Sx B H0 H locs)
    {n : Int32} {N : Nat} (hn : ¬ n < 0) (hN : n.toNatClampNeg = N) (hbytes : N * componentBytes (newarray.typeOf atype) ≤ 536870912) (hcells : cells + 1 ≤ R.cells) (hslots : slots + N ≤ R.slots) (hdg : decode cc pc = .ok (.newarray atype, 2))
    (kk : ∀ H1 : Heap, hs_P B D E (hs_new g k N) H1 → hs_Sx B H0 H1 locs → W p l e R s m args below meth c H1 locs (cells + 1) (slots + N) Q (F0 m (pc + 2) ls (.ref (B + g.1) :: rest))) : W p l e R s m args below meth c H locs cells slots Q (F0 m pc ls (.int n :: rest)) := by
  subst hkk
  refine va_newaK hexec hb harr rfl hdg rfl hn hN hbytes hcells hslots hP.1 fun H1 cA e1 z1 o1 hAr hNm => ?_
  have hcA : cA = E t := Option.some.inj (hNm.symm.trans (hra _ _ (hK.2 t _ hty).2))
  subst hcA
  refine kk H1 (hs_P_new hP z1 o1 (hs_at_arrI (t := t) (by simp [hs_kd, hs_new]) h2 ?_)) (hs_Sx_new hS hP.1 z1 o1)
  rw [e1, hdef]
  simp [hs_ln, hs_I, hs_new]
theorem hs_newR (hexec : p.tables.exec = Jvm.exec) (hb : c.code = cc) {own C : String} {index t k : Nat} (h2 : 2 ≤ t) (hkk : 100 + t = k) (hown : s.vm.findClass own = some m.cls) (hclink : (Cond.classLink own index C).before args s = true) (hover : (Cond.arrayOver (.object C)).before args s = true) (hty : (hs_ty E)[t]? = some (E t, .object C)) (hK : va_K D vwCl (hs_ty E) s) (hP : hs_P B D E g H) (hS : hs_Sx B H0 H locs)
    {n : Int32} {N : Nat} (hn : ¬ n < 0) (hN : n.toNatClampNeg = N) (hbytes : N * 4 ≤ 536870912) (hcells : cells + 1 ≤ R.cells) (hslots : slots + N ≤ R.slots) (hdg : decode cc pc = .ok (.anewarray index, 3))
    (kk : ∀ H1 : Heap, hs_P B D E (hs_new g k N) H1 → hs_Sx B H0 H1 locs → W p l e R s m args below meth c H1 locs (cells + 1) (slots + N) Q (F0 m (pc + 3) ls (.ref (B + g.1) :: rest))) : W p l e R s m args below meth c H locs cells slots Q (F0 m pc ls (.int n :: rest)) := by
  subst hN
  subst hkk
  refine W.anew hexec hb hown hclink hover rfl hdg rfl hn hbytes hcells hslots fun cA kA comp f1 f2 f3 f4 => ?_
  obtain ⟨kA', comp', k1, k2, k3, k4⟩ := (hK.2 t _ hty).2
  have hcA : cA = E t := Option.some.inj (f1.symm.trans k4)
  subst hcA
  have hz : H.size = B + g.1 := hP.1
  generalize hH1 : H.push ({ cls := E t, slots := Array.replicate n.toNatClampNeg .null, vm := .none } : Cell) = H1
  have z1 : H1.size = B + g.1 + 1 := by rw [← hH1, Array.size_push, hz]
  have e1 : H1[B + g.1]? = some (arrV (E t) n.toNatClampNeg (fun _ => .null)) := by rw [← hz, ← hH1, Array.getElem?_push_size, ← arrV_new]
  have o1 : ∀ q : Nat, q < B + g.1 → H1[q]? = H[q]? := fun q hq => by rw [← hH1, Array.getElem?_push, if_neg (by omega)]
  have hgo := kk H1 (hs_P_new hP z1 o1 (hs_at_arrR (t := t) (by simp [hs_kd, hs_new]) h2 (by rw [e1]; simp [hs_ln, hs_R, hs_new, hs_rv]))) (hs_Sx_new hS hP.1 z1 o1)
  rw [← hz] at hgo
  exact hgo
end HSR
/-! A contract's start and end in these words -/
def hs_Pc (B : Nat) (D : va_G) (E : Nat → ClassId) (g : hs_S) (av : List Value) : Array Value → State → Prop := va_Pc av (fun U => hs_P B D E g U.heap ∧ hs_K D E U)
def hs_Qi (B : Nat) (D : va_G) (E : Nat → ClassId) (o : Int32 × hs_S) : Array Value → State → Outcome → State → Prop := va_Qi (fun r (u : hs_S) => r = o.1 ∧ u = o.2) (fun u t => hs_P B D E u t.heap ∧ hs_K D E t) (fun q : Nat => B ≤ q)
def hs_Qv (B : Nat) (D : va_G) (E : Nat → ClassId) (o : hs_S) : Array Value → State → Outcome → State → Prop := va_Qv (fun (u : hs_S) => u = o) (fun u t => hs_P B D E u t.heap ∧ hs_K D E t) (fun q : Nat => B ≤ q)
def hs_Qr (B : Nat) (D : va_G) (E : Nat → ClassId) (o : Nat × hs_S) : Array Value → State → Outcome → State → Prop := va_Qr (fun (u : hs_S) => u = o.2) (fun u a t => a = B + o.1 ∧ hs_P B D E u t.heap ∧ hs_K D E t) (fun q : Nat => B ≤ q)
/-- what a method may write: cells at or above B -/
def hs_F (B : Nat) : Nat → Prop := fun q => B ≤ q
theorem hs_blind {B : Nat} {D : va_G} {E : Nat → ClassId} {g : hs_S} {av : List Value} : FrameBlind (hs_Pc B D E g av) := fun a U f mk q => ⟨q.1, q.2.1, hs_K.same (s := U) (U := U.calling f mk a) rfl q.2.2⟩
theorem hs_pre {B : Nat} {D : va_G} {E : Nat → ClassId} {g : hs_S} {av : List Value} {s : State} {H : Heap} (hP : hs_P B D E g H) (hK : hs_K D E s) : PreS s H (hs_Pc B D E g av) av :=
  ⟨hs_blind, fun U hU hW => ⟨rfl, by rw [hU]; exact hP, hs_K.warm hW hK⟩⟩
theorem hs_preV {B : Nat} {D : va_G} {E : Nat → ClassId} {g : hs_S} {As : List Value} {s : State} {H : Heap} {a ci : Nat} {r : vw_C} (hP : hs_P B D E g H) (hK : hs_K D E s) (hk : hs_kd g a = ci) (hci : ci < 100) (hc : vwCl[ci]? = some r) : PreV s H r.1 (B + a) (hs_Pc B D E g (.ref (B + a) :: As)) As := by
  refine ⟨hs_blind, ?_, fun U hU hW => ⟨rfl, by rw [hU]; exact hP, hs_K.warm hW hK⟩⟩
  obtain ⟨cell, g1, g2, g3, -⟩ := hs_obj hP hk hci hc
  exact ⟨cell, g1, by rw [g3]; rfl, by rw [g2]; exact (hK.1.1 ci r hc).2.1⟩
section HSC
variable {p : Program} {l : Launch} {e : Env} {R : Room} {s : State} {m : MethodId} {args : Array Value} {below : List Frame} {meth : Method} {c : Code} {H : Heap} {locs : List Loc} {cells slots : Nat} {Q : State → Prop}
variable {pc : Nat} {ls : Array Slot} {rest st0 : List Value} {a : Array Value} {H0 : Heap} {mc ms B : Nat} {D : va_G} {E : Nat → ClassId}
theorem hs_calli {o : Int32 × hs_S} (hr : va_Run p l e R s m args below meth c H locs cells slots mc ms (F0 m pc ls st0) rest (hs_Qi B D E o a) (hs_F B)) (hS : hs_Sx B H0 H locs)
    (kk : ∀ (H1 : Heap) (locs1 : List Loc), hs_P B D E o.2 H1 → hs_Sx B H0 H1 locs1 → W p l e R s m args below meth c H1 locs1 (cells + mc) (slots + ms) Q (F0 m (pc + 3) ls (.int o.1 :: rest))) : W p l e R s m args below meth c H locs cells slots Q (F0 m pc ls st0) :=
  va_calli hr hS (fun _ _ h => h) (fun _ h => h) (fun r u t H1 locs1 ht _ hw hB _ _ hS1 => by
    obtain ⟨rfl, rfl⟩ := hw
    exact kk H1 locs1 (ht ▸ hB.1) hS1)
theorem hs_callv {o : hs_S} (hr : va_Run p l e R s m args below meth c H locs cells slots mc ms (F0 m pc ls st0) rest (hs_Qv B D E o a) (hs_F B)) (hS : hs_Sx B H0 H locs)
    (kk : ∀ (H1 : Heap) (locs1 : List Loc), hs_P B D E o H1 → hs_Sx B H0 H1 locs1 → W p l e R s m args below meth c H1 locs1 (cells + mc) (slots + ms) Q (F0 m (pc + 3) ls rest)) : W p l e R s m args below meth c H locs cells slots Q (F0 m pc ls st0) :=
  va_callv hr hS (fun _ _ h => h) (fun _ h => h) (fun u t H1 locs1 ht _ hw hB _ _ hS1 => by
    subst hw
    exact kk H1 locs1 (ht ▸ hB.1) hS1)
theorem hs_callr {o : Nat × hs_S} (hr : va_Run p l e R s m args below meth c H locs cells slots mc ms (F0 m pc ls st0) rest (hs_Qr B D E o a) (hs_F B)) (hS : hs_Sx B H0 H locs)
    (kk : ∀ (H1 : Heap) (locs1 : List Loc), hs_P B D E o.2 H1 → hs_Sx B H0 H1 locs1 → W p l e R s m args below meth c H1 locs1 (cells + mc) (slots + ms) Q (F0 m (pc + 3) ls (.ref (B + o.1) :: rest))) : W p l e R s m args below meth c H locs cells slots Q (F0 m pc ls st0) :=
  va_callr hr hS (fun _ _ h => h) (fun _ h => h) (fun u ra t H1 locs1 ht _ hw hB _ _ hS1 => by
    subst hw
    obtain ⟨rfl, hB, -⟩ := hB
    exact kk H1 locs1 (ht ▸ hB) hS1)
end HSC
section HSE
variable {p : Program} {l : Launch} {e : Env} {R : Room} {s : State} {m : MethodId} {args : Array Value} {below : List Frame} {meth : Method} {c : Code} {H : Heap} {locs : List Loc} {cells slots : Nat}
variable {cc : ByteArray} {pc : Nat} {ls : Array Slot} {B : Nat} {D : va_G} {E : Nat → ClassId} {g : hs_S}
theorem hs_iret {x : Int32} {ty : FieldType} {o : Int32 × hs_S} (hexec : p.tables.exec = Jvm.exec) (hb : c.code = cc) (hr : meth.sig.returnType = some ty) (hlocks : meth.locks = false) (hn : narrow ty (.int x) = .int x) (hK : hs_K D E s) (hP : hs_P B D E g H) (hS : hs_Sx B s.heap H locs) (ho : some (x, g) = some o) (hdg : decode cc pc = .ok (.ireturn, 1)) :
    W p l e R s m args below meth c H locs cells slots (MQ below (hs_Qi B D E o) args s cells slots (hs_F B)) (F0 m pc ls [.int x]) := by
  cases ho
  exact W.zret hexec hb hr hn (fun t ht hW => ⟨⟨_, _, rfl, ⟨rfl, rfl⟩, by rw [ht]; exact hP, hs_K.warm hW hK⟩, hS.F ht⟩) hS.2.2 hdg hlocks
theorem hs_vret {o : hs_S} (hexec : p.tables.exec = Jvm.exec) (hb : c.code = cc) (hr : meth.sig.returnType = none) (hlocks : meth.locks = false) (hK : hs_K D E s) (hP : hs_P B D E g H) (hS : hs_Sx B s.heap H locs) (ho : some g = some o) (hdg : decode cc pc = .ok (.return_, 1)) :
    W p l e R s m args below meth c H locs cells slots (MQ below (hs_Qv B D E o) args s cells slots (hs_F B)) (F0 m pc ls []) := by
  cases ho
  exact W.vret hexec hb hr (fun t ht hW => ⟨⟨_, rfl, rfl, by rw [ht]; exact hP, hs_K.warm hW hK⟩, hS.F ht⟩) hS.2.2 hdg hlocks
theorem hs_aret {x : Nat} {rt : FieldType} {o : Nat × hs_S} (hexec : p.tables.exec = Jvm.exec) (hb : c.code = cc) (hr : meth.sig.returnType = some rt) (hrt : (∃ n, rt = .object n) ∨ ∃ t, rt = .array t) (hlocks : meth.locks = false) (hK : hs_K D E s) (hP : hs_P B D E g H) (hS : hs_Sx B s.heap H locs) (ho : some (x, g) = some o) (hdg : decode cc pc = .ok (.areturn, 1)) :
    W p l e R s m args below meth c H locs cells slots (MQ below (hs_Qr B D E o) args s cells slots (hs_F B)) (F0 m pc ls [.ref (B + x)]) := by
  cases ho
  exact W.aret hexec hb hr hrt (Or.inr ⟨_, rfl⟩) (fun t ht hW => ⟨⟨_, _, rfl, rfl, rfl, by rw [ht]; exact hP, hs_K.warm hW hK⟩, hS.F ht⟩) hS.2.2 hdg hlocks
/-- what a method's walk stands on, all through -/
def hs_cx (cc : ByteArray) (ret : Option FieldType) (nL : Nat) (own : String) (ws : List Cond) (p : Program) (s : State) (m : MethodId) (args : Array Value) (meth : Method) (c : Code) (D : va_G) (E : Nat → ClassId) : Prop :=
  p.tables.exec = Jvm.exec ∧ c.code = cc ∧ meth.sig.returnType = ret ∧ c.maxLocals = nL ∧ s.vm.findClass own = some m.cls ∧ (∀ w ∈ ws, w.before args s = true) ∧ meth.locks = false ∧ hs_K D E s
end HSE
theorem hs_dfX0 : ∀ j, j < 5 → defaultValue (tyX0 j) = if hs_fr 0 j = true then .null else .int 0 := by decide +kernel
theorem hs_dfX1 : ∀ j, j < 3 → defaultValue (tyX1 j) = if hs_fr 1 j = true then .null else .int 0 := by decide +kernel
theorem hs_dfX2 : ∀ j, j < 1 → defaultValue (tyX2 j) = if hs_fr 2 j = true then .null else .int 0 := by decide +kernel
theorem hs_dfX3 : ∀ j, j < 5 → defaultValue (tyX3 j) = if hs_fr 3 j = true then .null else .int 0 := by decide +kernel
theorem hs_dfX5 : ∀ j, j < 5 → defaultValue (tyX5 j) = if hs_fr 4 j = true then .null else .int 0 := by decide +kernel
theorem hs_dfX6 : ∀ j, j < 8 → defaultValue (tyX6 j) = if hs_fr 5 j = true then .null else .int 0 := by decide +kernel
theorem hs_dfX7 : ∀ j, j < 11 → defaultValue (tyX7 j) = if hs_fr 6 j = true then .null else .int 0 := by decide +kernel
theorem hs_dfX8 : ∀ j, j < 1 → defaultValue (tyX8 j) = if hs_fr 7 j = true then .null else .int 0 := by decide +kernel
theorem hs_dfX10 : ∀ j, j < 2 → defaultValue (tyX10 j) = if hs_fr 8 j = true then .null else .int 0 := by decide +kernel
theorem hs_dfX11 : ∀ j, j < 8 → defaultValue (tyX11 j) = if hs_fr 9 j = true then .null else .int 0 := by decide +kernel
theorem hs_dfX12 : ∀ j, j < 48 → defaultValue (tyX12 j) = if hs_fr 10 j = true then .null else .int 0 := by decide +kernel
end
section
theorem dX9_at_0 : decode cX9_at 0 = .ok (.iload_n 1, 1) := by decide +kernel
theorem dX9_at_1 : decode cX9_at 1 = .ok (.ifCond .lt 15, 3) := by decide +kernel
theorem dX9_at_4 : decode cX9_at 4 = .ok (.iload_n 1, 1) := by decide +kernel
theorem dX9_at_5 : decode cX9_at 5 = .ok (.aload_n 0, 1) := by decide +kernel
theorem dX9_at_6 : decode cX9_at 6 = .ok (.arraylength, 1) := by decide +kernel
theorem dX9_at_7 : decode cX9_at 7 = .ok (.if_icmp .ge 9, 3) := by decide +kernel
theorem dX9_at_10 : decode cX9_at 10 = .ok (.aload_n 0, 1) := by decide +kernel
theorem dX9_at_11 : decode cX9_at 11 = .ok (.iload_n 1, 1) := by decide +kernel
theorem dX9_at_12 : decode cX9_at 12 = .ok (.iaload, 1) := by decide +kernel
theorem dX9_at_13 : decode cX9_at 13 = .ok (.goto 4, 3) := by decide +kernel
theorem dX9_at_16 : decode cX9_at 16 = .ok (.iconst 0, 1) := by decide +kernel
theorem dX9_at_17 : decode cX9_at 17 = .ok (.ireturn, 1) := by decide +kernel

def fX9_at (v0 : Nat) (v1 : Int32) (g : hs_S) : Option (Int32 × hs_S) :=
  if v1 < 0 then (
    some ((0 : Int32), g)
  ) else (
    if hs_kd g v0 = 100 then
    if (Int32.ofNat (hs_ln g v0)) ≤ v1 then (
      some ((0 : Int32), g)
    ) else (
      if hs_in v1 (hs_ln g v0) = true then
      some ((hs_I g v0 v1.toNatClampNeg), g)
      else none
    )
    else none
  )
abbrev rmX9_at : Room := { frames := 0, cells := 0, slots := 0, locals := 0 }
set_option maxHeartbeats 4000000 in
set_option maxRecDepth 100000 in
theorem ctX9_at (l : Launch) (B : Nat) (D : va_G) (E : Nat → ClassId) (v0 : Nat) (v1 : Int32) (g : hs_S) (o : Int32 × hs_S) (hf : fX9_at v0 v1 g = some o) : Met l yX9_at wsX9_at rmX9_at (hs_Pc B D E g [.ref (B + v0), .int v1]) (hs_Qi B D E o) (0) (0) (hs_F B) := by
  refine Met.ofW (cc := cX9_at) (maxL := 2) (ret := (some .int)) (by decide) rfl ?_
  intro p e s m args below meth c s₁ Bd hml hv
  obtain ⟨rfl, hP, hK⟩ := hv
  have hx := Bd.exec
  have hb := Bd.bytes
  have hr := Bd.returns
  have hts := atoms_spec (ws := wsX9_at) Bd.pre
  have hown : s.vm.findClass RX9 = some m.cls := findClass_of_methodNamed Bd.named
  have hlocks := Bd.notSynchronized
  have hS : hs_Sx B s.heap s.heap [] := va_S.rf
  have hX : hs_cx cX9_at (some .int) 2 RX9 wsX9_at p s m (List.toArray [.ref (B + v0), .int v1]) meth c D E := ⟨hx, hb, hr, hml, hown, hts, hlocks, hK⟩
  have hl := lv_entry ([.ref (B + v0), .int v1]) (n := 2) (Nat.le_of_ble_eq_true rfl)
  rw [lg_entry_eq]
  generalize (lg_sl ([.ref (B + v0), .int v1]) ++ List.replicate (2 - (lg_sl ([.ref (B + v0), .int v1])).length) Slot.unset).toArray = ls at hl ⊢
  have hl : lv_has ls 2 [(0, .ref (B + v0)), (1, .int v1)] := hl
  have hP : hs_P B D E g s.heap := hP
  unfold fX9_at at hf
  refine lv_iload_n hx hb dX9_at_0 rfl (lv_at hl 1 rfl) ?_
  refine lv_if_lt (tgt := 16) hx hb dX9_at_1 (by decide) (fun hc => ?_) (fun hc => ?_)
  · replace hf := hs_t hf hc
    refine lv_iconst (v := 0) hx hb dX9_at_16 (by decide) ?_
    exact hs_iret hx hb hr hlocks rfl hK hP hS hf dX9_at_17
  · replace hf := hs_f hf hc
    refine lv_iload_n hx hb dX9_at_4 rfl (lv_at hl 1 rfl) ?_
    refine lv_aload_n hx hb dX9_at_5 rfl (lv_at hl 0 rfl) ?_
    obtain ⟨h1, hf⟩ := hs_ck hf
    refine hs_alen (t := 0) hx hb hK.1 hP h1 (by decide) dX9_at_6 ?_
    refine lv_icmp_ge (tgt := 16) hx hb dX9_at_7 (by decide) (fun hc => ?_) (fun hc => ?_)
    · replace hf := hs_t hf hc
      refine lv_iconst (v := 0) hx hb dX9_at_16 (by decide) ?_
      exact hs_iret hx hb hr hlocks rfl hK hP hS hf dX9_at_17
    · replace hf := hs_f hf hc
      refine lv_aload_n hx hb dX9_at_10 rfl (lv_at hl 0 rfl) ?_
      refine lv_iload_n hx hb dX9_at_11 rfl (lv_at hl 1 rfl) ?_
      obtain ⟨h2, hf⟩ := hs_ck hf
      refine hs_iald hx hb hK.1 hP h1 h2 dX9_at_12 ?_
      refine lv_goto (tgt := 17) hx hb dX9_at_13 (by decide) ?_
      exact hs_iret hx hb hr hlocks rfl hK hP hS hf dX9_at_17

theorem dX9_put_0 : decode cX9_put 0 = .ok (.iload_n 1, 1) := by decide +kernel
theorem dX9_put_1 : decode cX9_put 1 = .ok (.ifCond .lt 13, 3) := by decide +kernel
theorem dX9_put_4 : decode cX9_put 4 = .ok (.iload_n 1, 1) := by decide +kernel
theorem dX9_put_5 : decode cX9_put 5 = .ok (.aload_n 0, 1) := by decide +kernel
theorem dX9_put_6 : decode cX9_put 6 = .ok (.arraylength, 1) := by decide +kernel
theorem dX9_put_7 : decode cX9_put 7 = .ok (.if_icmp .ge 7, 3) := by decide +kernel
theorem dX9_put_10 : decode cX9_put 10 = .ok (.aload_n 0, 1) := by decide +kernel
theorem dX9_put_11 : decode cX9_put 11 = .ok (.iload_n 1, 1) := by decide +kernel
theorem dX9_put_12 : decode cX9_put 12 = .ok (.iload_n 2, 1) := by decide +kernel
theorem dX9_put_13 : decode cX9_put 13 = .ok (.iastore, 1) := by decide +kernel
theorem dX9_put_14 : decode cX9_put 14 = .ok (.return_, 1) := by decide +kernel

def fX9_put (v0 : Nat) (v1 : Int32) (v2 : Int32) (g : hs_S) : Option (hs_S) :=
  if v1 < 0 then (
    some g
  ) else (
    if hs_kd g v0 = 100 then
    if (Int32.ofNat (hs_ln g v0)) ≤ v1 then (
      some g
    ) else (
      if hs_in v1 (hs_ln g v0) = true then
      some (hs_wI g v0 v1.toNatClampNeg v2)
      else none
    )
    else none
  )
abbrev rmX9_put : Room := { frames := 0, cells := 0, slots := 0, locals := 0 }
set_option maxHeartbeats 4000000 in
set_option maxRecDepth 100000 in
theorem ctX9_put (l : Launch) (B : Nat) (D : va_G) (E : Nat → ClassId) (v0 : Nat) (v1 : Int32) (v2 : Int32) (g : hs_S) (o : hs_S) (hf : fX9_put v0 v1 v2 g = some o) : Met l yX9_put wsX9_put rmX9_put (hs_Pc B D E g [.ref (B + v0), .int v1, .int v2]) (hs_Qv B D E o) (0) (0) (hs_F B) := by
  refine Met.ofW (cc := cX9_put) (maxL := 3) (ret := none) (by decide) rfl ?_
  intro p e s m args below meth c s₁ Bd hml hv
  obtain ⟨rfl, hP, hK⟩ := hv
  have hx := Bd.exec
  have hb := Bd.bytes
  have hr := Bd.returns
  have hts := atoms_spec (ws := wsX9_put) Bd.pre
  have hown : s.vm.findClass RX9 = some m.cls := findClass_of_methodNamed Bd.named
  have hlocks := Bd.notSynchronized
  have hS : hs_Sx B s.heap s.heap [] := va_S.rf
  have hX : hs_cx cX9_put none 3 RX9 wsX9_put p s m (List.toArray [.ref (B + v0), .int v1, .int v2]) meth c D E := ⟨hx, hb, hr, hml, hown, hts, hlocks, hK⟩
  have hl := lv_entry ([.ref (B + v0), .int v1, .int v2]) (n := 3) (Nat.le_of_ble_eq_true rfl)
  rw [lg_entry_eq]
  generalize (lg_sl ([.ref (B + v0), .int v1, .int v2]) ++ List.replicate (3 - (lg_sl ([.ref (B + v0), .int v1, .int v2])).length) Slot.unset).toArray = ls at hl ⊢
  have hl : lv_has ls 3 [(0, .ref (B + v0)), (1, .int v1), (2, .int v2)] := hl
  have hP : hs_P B D E g s.heap := hP
  unfold fX9_put at hf
  refine lv_iload_n hx hb dX9_put_0 rfl (lv_at hl 1 rfl) ?_
  refine lv_if_lt (tgt := 14) hx hb dX9_put_1 (by decide) (fun hc => ?_) (fun hc => ?_)
  · replace hf := hs_t hf hc
    exact hs_vret hx hb hr hlocks hK hP hS hf dX9_put_14
  · replace hf := hs_f hf hc
    refine lv_iload_n hx hb dX9_put_4 rfl (lv_at hl 1 rfl) ?_
    refine lv_aload_n hx hb dX9_put_5 rfl (lv_at hl 0 rfl) ?_
    obtain ⟨h1, hf⟩ := hs_ck hf
    refine hs_alen (t := 0) hx hb hK.1 hP h1 (by decide) dX9_put_6 ?_
    refine lv_icmp_ge (tgt := 14) hx hb dX9_put_7 (by decide) (fun hc => ?_) (fun hc => ?_)
    · replace hf := hs_t hf hc
      exact hs_vret hx hb hr hlocks hK hP hS hf dX9_put_14
    · replace hf := hs_f hf hc
      refine lv_aload_n hx hb dX9_put_10 rfl (lv_at hl 0 rfl) ?_
      refine lv_iload_n hx hb dX9_put_11 rfl (lv_at hl 1 rfl) ?_
      refine lv_iload_n hx hb dX9_put_12 rfl (lv_at hl 2 rfl) ?_
      obtain ⟨h2, hf⟩ := hs_ck hf
      refine hs_iast hx hb hK.1 hP hS h1 h2 dX9_put_13 (fun H locs hP hS => ?_)
      exact hs_vret hx hb hr hlocks hK hP hS hf dX9_put_14

theorem dJ7_fill_53178_0 : decode cJ7_fill_53178 0 = .ok (.iconst 0, 1) := by decide +kernel
theorem dJ7_fill_53178_1 : decode cJ7_fill_53178 1 = .ok (.istore_n 2, 1) := by decide +kernel
theorem dJ7_fill_53178_2 : decode cJ7_fill_53178 2 = .ok (.aload_n 0, 1) := by decide +kernel
theorem dJ7_fill_53178_3 : decode cJ7_fill_53178 3 = .ok (.arraylength, 1) := by decide +kernel
theorem dJ7_fill_53178_4 : decode cJ7_fill_53178 4 = .ok (.istore_n 3, 1) := by decide +kernel
theorem dJ7_fill_53178_5 : decode cJ7_fill_53178 5 = .ok (.iload_n 2, 1) := by decide +kernel
theorem dJ7_fill_53178_6 : decode cJ7_fill_53178 6 = .ok (.iload_n 3, 1) := by decide +kernel
theorem dJ7_fill_53178_7 : decode cJ7_fill_53178 7 = .ok (.if_icmp .ge 13, 3) := by decide +kernel
theorem dJ7_fill_53178_10 : decode cJ7_fill_53178 10 = .ok (.aload_n 0, 1) := by decide +kernel
theorem dJ7_fill_53178_11 : decode cJ7_fill_53178 11 = .ok (.iload_n 2, 1) := by decide +kernel
theorem dJ7_fill_53178_12 : decode cJ7_fill_53178 12 = .ok (.iload_n 1, 1) := by decide +kernel
theorem dJ7_fill_53178_13 : decode cJ7_fill_53178 13 = .ok (.iastore, 1) := by decide +kernel
theorem dJ7_fill_53178_14 : decode cJ7_fill_53178 14 = .ok (.iinc 2 1, 3) := by decide +kernel
theorem dJ7_fill_53178_17 : decode cJ7_fill_53178 17 = .ok (.goto (-12), 3) := by decide +kernel
theorem dJ7_fill_53178_20 : decode cJ7_fill_53178 20 = .ok (.return_, 1) := by decide +kernel

def lJ7_fill_53178_5 : Nat → Nat → Int32 → Int32 → Int32 → hs_S → Option (hs_S)
  | 0, _, _, _, _, _ => none
  | n + 1, v0, v1, v2, v3, g =>
    if v3 ≤ v2 then (
      some g
    ) else (
      if hs_kd g v0 = 100 then
      if hs_in v2 (hs_ln g v0) = true then
      lJ7_fill_53178_5 n v0 v1 (v2 + (1 : Int32)) v3 (hs_wI g v0 v2.toNatClampNeg v1)
      else none else none
    )
theorem lJ7_fill_53178_5_s (n : Nat) (v0 : Nat) (v1 : Int32) (v2 : Int32) (v3 : Int32) (g : hs_S) : lJ7_fill_53178_5 (n + 1) v0 v1 v2 v3 g =
    if v3 ≤ v2 then (
      some g
    ) else (
      if hs_kd g v0 = 100 then
      if hs_in v2 (hs_ln g v0) = true then
      lJ7_fill_53178_5 n v0 v1 (v2 + (1 : Int32)) v3 (hs_wI g v0 v2.toNatClampNeg v1)
      else none else none
    ) := rfl
def fJ7_fill_53178 (v0 : Nat) (v1 : Int32) (g : hs_S) : Option (hs_S) :=
  if hs_kd g v0 = 100 then
  hs_bv (lJ7_fill_53178_5 hs_N v0 v1 (0 : Int32) (Int32.ofNat (hs_ln g v0)) g) fun g5 =>
  some g5
  else none
abbrev rmJ7_fill_53178 : Room := { frames := 0, cells := 0, slots := 0, locals := 0 }
set_option maxHeartbeats 4000000 in
set_option maxRecDepth 100000 in
theorem wJ7_fill_53178_5 {p : Program} {l : Launch} {e : Env} {s : State} {m : MethodId} {args : Array Value} {below : List Frame} {meth : Method} {c : Code} {B : Nat} {D : va_G} {E : Nat → ClassId} (hX : hs_cx cJ7_fill_53178 none 4 RJ7 wsJ7_fill_53178 p s m args meth c D E) {Q : State → Prop} {o : hs_S} {v0 : Nat} {v1 : Int32} {v3 : Int32} (hex0 : ∀ (H : Heap) (locs : List Loc) (ls : Array Slot), hs_P B D E (o) H → hs_Sx B s.heap H locs → lv_has ls 4 [] → W p l e rmJ7_fill_53178 s m args below meth c H locs 0 0 Q (F0 m 20 ls [])) : ∀ (n : Nat) (v2 : Int32) (g : hs_S), lJ7_fill_53178_5 n v0 v1 v2 v3 g = some o → ∀ (H : Heap) (locs : List Loc) (ls : Array Slot), hs_P B D E g H → hs_Sx B s.heap H locs → lv_has ls 4 [(0, .ref (B + v0)), (1, .int v1), (2, .int v2), (3, .int v3)] → W p l e rmJ7_fill_53178 s m args below meth c H locs 0 0 Q (F0 m 5 ls []) := by
  obtain ⟨hx, hb, hr, hml, hown, hts, hlocks, hK⟩ := id hX
  intro n
  induction n with
  | zero =>
    intro v2 g hf
    cases hf
  | succ n ih =>
    intro v2 g hf H locs ls hP hS hl
    replace hf := (lJ7_fill_53178_5_s n v0 v1 v2 v3 g).symm.trans hf
    refine lv_iload_n hx hb dJ7_fill_53178_5 rfl (lv_at hl 2 rfl) ?_
    refine lv_iload_n hx hb dJ7_fill_53178_6 rfl (lv_at hl 3 rfl) ?_
    refine lv_icmp_ge (tgt := 20) hx hb dJ7_fill_53178_7 (by decide) (fun hc => ?_) (fun hc => ?_)
    · replace hf := hs_t hf hc
      obtain rfl := Option.some.inj hf
      exact hex0 _ _ _ hP hS (lv_sub hl [] rfl)
    · replace hf := hs_f hf hc
      refine lv_aload_n hx hb dJ7_fill_53178_10 rfl (lv_at hl 0 rfl) ?_
      refine lv_iload_n hx hb dJ7_fill_53178_11 rfl (lv_at hl 2 rfl) ?_
      refine lv_iload_n hx hb dJ7_fill_53178_12 rfl (lv_at hl 1 rfl) ?_
      obtain ⟨h2, hf⟩ := hs_ck hf
      obtain ⟨h3, hf⟩ := hs_ck hf
      refine hs_iast hx hb hK.1 hP hS h2 h3 dJ7_fill_53178_13 (fun H locs hP hS => ?_)
      refine lv_iinc (v := (v2 + (1 : Int32))) (lv' := [(2, .int (v2 + (1 : Int32))), (0, .ref (B + v0)), (1, .int v1), (3, .int v3)]) hx hb dJ7_fill_53178_14 hl (k := 2) rfl (by rfl) (by decide) rfl (fun ls hl => ?_)
      refine lv_goto (tgt := 5) hx hb dJ7_fill_53178_17 (by decide) ?_
      exact ih _ _ hf _ _ _ hP hS (lv_sub hl [1, 2, 0, 3] rfl)

set_option maxHeartbeats 4000000 in
set_option maxRecDepth 100000 in
theorem ctJ7_fill_53178 (l : Launch) (B : Nat) (D : va_G) (E : Nat → ClassId) (v0 : Nat) (v1 : Int32) (g : hs_S) (o : hs_S) (hf : fJ7_fill_53178 v0 v1 g = some o) : Met l yJ7_fill_53178 wsJ7_fill_53178 rmJ7_fill_53178 (hs_Pc B D E g [.ref (B + v0), .int v1]) (hs_Qv B D E o) (0) (0) (hs_F B) := by
  refine Met.ofW (cc := cJ7_fill_53178) (maxL := 4) (ret := none) (by decide) rfl ?_
  intro p e s m args below meth c s₁ Bd hml hv
  obtain ⟨rfl, hP, hK⟩ := hv
  have hx := Bd.exec
  have hb := Bd.bytes
  have hr := Bd.returns
  have hts := atoms_spec (ws := wsJ7_fill_53178) Bd.pre
  have hown : s.vm.findClass RJ7 = some m.cls := findClass_of_methodNamed Bd.named
  have hlocks := Bd.notSynchronized
  have hS : hs_Sx B s.heap s.heap [] := va_S.rf
  have hX : hs_cx cJ7_fill_53178 none 4 RJ7 wsJ7_fill_53178 p s m (List.toArray [.ref (B + v0), .int v1]) meth c D E := ⟨hx, hb, hr, hml, hown, hts, hlocks, hK⟩
  have hl := lv_entry ([.ref (B + v0), .int v1]) (n := 4) (Nat.le_of_ble_eq_true rfl)
  rw [lg_entry_eq]
  generalize (lg_sl ([.ref (B + v0), .int v1]) ++ List.replicate (4 - (lg_sl ([.ref (B + v0), .int v1])).length) Slot.unset).toArray = ls at hl ⊢
  have hl : lv_has ls 4 [(0, .ref (B + v0)), (1, .int v1)] := hl
  have hP : hs_P B D E g s.heap := hP
  unfold fJ7_fill_53178 at hf
  refine lv_iconst (v := 0) hx hb dJ7_fill_53178_0 (by decide) ?_
  refine lv_istore_n (lv' := [(2, .int (0 : Int32)), (0, .ref (B + v0)), (1, .int v1)]) hx hb dJ7_fill_53178_1 rfl hl (by decide) rfl (fun ls hl => ?_)
  refine lv_aload_n hx hb dJ7_fill_53178_2 rfl (lv_at hl 1 rfl) ?_
  obtain ⟨h1, hf⟩ := hs_ck hf
  refine hs_alen (t := 0) hx hb hK.1 hP h1 (by decide) dJ7_fill_53178_3 ?_
  refine lv_istore_n (lv' := [(3, .int (Int32.ofNat (hs_ln g v0))), (2, .int (0 : Int32)), (0, .ref (B + v0)), (1, .int v1)]) hx hb dJ7_fill_53178_4 rfl hl (by decide) rfl (fun ls hl => ?_)
  obtain ⟨g5, h6, hf⟩ := hs_bv_some hf
  refine wJ7_fill_53178_5 hX (fun H locs ls hP hS hl => ?_) hs_N _ _ h6 _ _ _ hP hS (lv_sub hl [2, 3, 1, 0] rfl)
  exact hs_vret hx hb hr hlocks hK hP hS hf dJ7_fill_53178_20

theorem dX4_isOfTwo_0 : decode cX4_isOfTwo 0 = .ok (.iload_n 0, 1) := by decide +kernel
theorem dX4_isOfTwo_1 : decode cX4_isOfTwo 1 = .ok (.lookupswitch 77 #[(96, 75), (100, 75), (104, 75), (108, 75), (112, 75), (126, 75), (128, 75), (130, 75)], 75) := by decide +kernel
theorem dX4_isOfTwo_76 : decode cX4_isOfTwo 76 = .ok (.iconst 1, 1) := by decide +kernel
theorem dX4_isOfTwo_77 : decode cX4_isOfTwo 77 = .ok (.ireturn, 1) := by decide +kernel
theorem dX4_isOfTwo_78 : decode cX4_isOfTwo 78 = .ok (.iconst 0, 1) := by decide +kernel
theorem dX4_isOfTwo_79 : decode cX4_isOfTwo 79 = .ok (.ireturn, 1) := by decide +kernel

def fX4_isOfTwo (v0 : Int32) (g : hs_S) : Option (Int32 × hs_S) :=
  if v0 = (96 : Int32) then (
    some ((1 : Int32), g)
  ) else (
  if v0 = (100 : Int32) then (
    some ((1 : Int32), g)
  ) else (
  if v0 = (104 : Int32) then (
    some ((1 : Int32), g)
  ) else (
  if v0 = (108 : Int32) then (
    some ((1 : Int32), g)
  ) else (
  if v0 = (112 : Int32) then (
    some ((1 : Int32), g)
  ) else (
  if v0 = (126 : Int32) then (
    some ((1 : Int32), g)
  ) else (
  if v0 = (128 : Int32) then (
    some ((1 : Int32), g)
  ) else (
  if v0 = (130 : Int32) then (
    some ((1 : Int32), g)
  ) else (
    some ((0 : Int32), g)
  ))))))))
abbrev rmX4_isOfTwo : Room := { frames := 0, cells := 0, slots := 0, locals := 0 }
set_option maxHeartbeats 4000000 in
set_option maxRecDepth 100000 in
theorem ctX4_isOfTwo (l : Launch) (B : Nat) (D : va_G) (E : Nat → ClassId) (v0 : Int32) (g : hs_S) (o : Int32 × hs_S) (hf : fX4_isOfTwo v0 g = some o) : Met l yX4_isOfTwo wsX4_isOfTwo rmX4_isOfTwo (hs_Pc B D E g [.int v0]) (hs_Qi B D E o) (0) (0) (hs_F B) := by
  refine Met.ofW (cc := cX4_isOfTwo) (maxL := 1) (ret := (some .boolean)) (by decide) rfl ?_
  intro p e s m args below meth c s₁ Bd hml hv
  obtain ⟨rfl, hP, hK⟩ := hv
  have hx := Bd.exec
  have hb := Bd.bytes
  have hr := Bd.returns
  have hts := atoms_spec (ws := wsX4_isOfTwo) Bd.pre
  have hown : s.vm.findClass RX4 = some m.cls := findClass_of_methodNamed Bd.named
  have hlocks := Bd.notSynchronized
  have hS : hs_Sx B s.heap s.heap [] := va_S.rf
  have hX : hs_cx cX4_isOfTwo (some .boolean) 1 RX4 wsX4_isOfTwo p s m (List.toArray [.int v0]) meth c D E := ⟨hx, hb, hr, hml, hown, hts, hlocks, hK⟩
  have hl := lv_entry ([.int v0]) (n := 1) (Nat.le_of_ble_eq_true rfl)
  rw [lg_entry_eq]
  generalize (lg_sl ([.int v0]) ++ List.replicate (1 - (lg_sl ([.int v0])).length) Slot.unset).toArray = ls at hl ⊢
  have hl : lv_has ls 1 [(0, .int v0)] := hl
  have hP : hs_P B D E g s.heap := hP
  unfold fX4_isOfTwo at hf
  refine lv_iload_n hx hb dX4_isOfTwo_0 rfl (lv_at hl 0 rfl) ?_
  by_cases hc : v0 = (96 : Int32)
  · replace hf := hs_t hf hc
    refine lv_lookup (off := 75) (tgt := 76) hx hb dX4_isOfTwo_1 (by decide +kernel) (by rw [hc]; first | done | decide +kernel) (by decide) ?_
    refine lv_iconst (v := 1) hx hb dX4_isOfTwo_76 (by decide) ?_
    exact hs_iret hx hb hr hlocks (hs_01_nar (rfl)) hK hP hS hf dX4_isOfTwo_77
  have hn0 := hc
  replace hf := hs_f hf hc
  clear hc
  by_cases hc : v0 = (100 : Int32)
  · replace hf := hs_t hf hc
    refine lv_lookup (off := 75) (tgt := 76) hx hb dX4_isOfTwo_1 (by decide +kernel) (by rw [hc]; first | done | decide +kernel) (by decide) ?_
    refine lv_iconst (v := 1) hx hb dX4_isOfTwo_76 (by decide) ?_
    exact hs_iret hx hb hr hlocks (hs_01_nar (rfl)) hK hP hS hf dX4_isOfTwo_77
  have hn1 := hc
  replace hf := hs_f hf hc
  clear hc
  by_cases hc : v0 = (104 : Int32)
  · replace hf := hs_t hf hc
    refine lv_lookup (off := 75) (tgt := 76) hx hb dX4_isOfTwo_1 (by decide +kernel) (by rw [hc]; first | done | decide +kernel) (by decide) ?_
    refine lv_iconst (v := 1) hx hb dX4_isOfTwo_76 (by decide) ?_
    exact hs_iret hx hb hr hlocks (hs_01_nar (rfl)) hK hP hS hf dX4_isOfTwo_77
  have hn2 := hc
  replace hf := hs_f hf hc
  clear hc
  by_cases hc : v0 = (108 : Int32)
  · replace hf := hs_t hf hc
    refine lv_lookup (off := 75) (tgt := 76) hx hb dX4_isOfTwo_1 (by decide +kernel) (by rw [hc]; first | done | decide +kernel) (by decide) ?_
    refine lv_iconst (v := 1) hx hb dX4_isOfTwo_76 (by decide) ?_
    exact hs_iret hx hb hr hlocks (hs_01_nar (rfl)) hK hP hS hf dX4_isOfTwo_77
  have hn3 := hc
  replace hf := hs_f hf hc
  clear hc
  by_cases hc : v0 = (112 : Int32)
  · replace hf := hs_t hf hc
    refine lv_lookup (off := 75) (tgt := 76) hx hb dX4_isOfTwo_1 (by decide +kernel) (by rw [hc]; first | done | decide +kernel) (by decide) ?_
    refine lv_iconst (v := 1) hx hb dX4_isOfTwo_76 (by decide) ?_
    exact hs_iret hx hb hr hlocks (hs_01_nar (rfl)) hK hP hS hf dX4_isOfTwo_77
  have hn4 := hc
  replace hf := hs_f hf hc
  clear hc
  by_cases hc : v0 = (126 : Int32)
  · replace hf := hs_t hf hc
    refine lv_lookup (off := 75) (tgt := 76) hx hb dX4_isOfTwo_1 (by decide +kernel) (by rw [hc]; first | done | decide +kernel) (by decide) ?_
    refine lv_iconst (v := 1) hx hb dX4_isOfTwo_76 (by decide) ?_
    exact hs_iret hx hb hr hlocks (hs_01_nar (rfl)) hK hP hS hf dX4_isOfTwo_77
  have hn5 := hc
  replace hf := hs_f hf hc
  clear hc
  by_cases hc : v0 = (128 : Int32)
  · replace hf := hs_t hf hc
    refine lv_lookup (off := 75) (tgt := 76) hx hb dX4_isOfTwo_1 (by decide +kernel) (by rw [hc]; first | done | decide +kernel) (by decide) ?_
    refine lv_iconst (v := 1) hx hb dX4_isOfTwo_76 (by decide) ?_
    exact hs_iret hx hb hr hlocks (hs_01_nar (rfl)) hK hP hS hf dX4_isOfTwo_77
  have hn6 := hc
  replace hf := hs_f hf hc
  clear hc
  by_cases hc : v0 = (130 : Int32)
  · replace hf := hs_t hf hc
    refine lv_lookup (off := 75) (tgt := 76) hx hb dX4_isOfTwo_1 (by decide +kernel) (by rw [hc]; first | done | decide +kernel) (by decide) ?_
    refine lv_iconst (v := 1) hx hb dX4_isOfTwo_76 (by decide) ?_
    exact hs_iret hx hb hr hlocks (hs_01_nar (rfl)) hK hP hS hf dX4_isOfTwo_77
  have hn7 := hc
  replace hf := hs_f hf hc
  clear hc
  refine lv_lookup (off := 77) (tgt := 78) hx hb dX4_isOfTwo_1 (by decide +kernel) (by simp only [Array.toList]; rw [lv_osw (a := 96) hn0 rfl, lv_osw (a := 100) hn1 rfl, lv_osw (a := 104) hn2 rfl, lv_osw (a := 108) hn3 rfl, lv_osw (a := 112) hn4 rfl, lv_osw (a := 126) hn5 rfl, lv_osw (a := 128) hn6 rfl, lv_osw (a := 130) hn7 rfl]; first | done | rfl) (by decide) ?_
  refine lv_iconst (v := 0) hx hb dX4_isOfTwo_78 (by decide) ?_
  exact hs_iret hx hb hr hlocks (hs_01_nar (rfl)) hK hP hS hf dX4_isOfTwo_79

theorem dX4_isBranch_0 : decode cX4_isBranch 0 = .ok (.iload_n 0, 1) := by decide +kernel
theorem dX4_isBranch_1 : decode cX4_isBranch 1 = .ok (.sipush 153, 3) := by decide +kernel
theorem dX4_isBranch_4 : decode cX4_isBranch 4 = .ok (.if_icmp .lt 14, 3) := by decide +kernel
theorem dX4_isBranch_7 : decode cX4_isBranch 7 = .ok (.iload_n 0, 1) := by decide +kernel
theorem dX4_isBranch_8 : decode cX4_isBranch 8 = .ok (.sipush 158, 3) := by decide +kernel
theorem dX4_isBranch_11 : decode cX4_isBranch 11 = .ok (.if_icmp .gt 7, 3) := by decide +kernel
theorem dX4_isBranch_14 : decode cX4_isBranch 14 = .ok (.iconst 1, 1) := by decide +kernel
theorem dX4_isBranch_15 : decode cX4_isBranch 15 = .ok (.goto 4, 3) := by decide +kernel
theorem dX4_isBranch_18 : decode cX4_isBranch 18 = .ok (.iconst 0, 1) := by decide +kernel
theorem dX4_isBranch_19 : decode cX4_isBranch 19 = .ok (.ireturn, 1) := by decide +kernel

def fX4_isBranch (v0 : Int32) (g : hs_S) : Option (Int32 × hs_S) :=
  if v0 < (153 : Int32) then (
    some ((0 : Int32), g)
  ) else (
    if (158 : Int32) < v0 then (
      some ((0 : Int32), g)
    ) else (
      some ((1 : Int32), g)
    )
  )
abbrev rmX4_isBranch : Room := { frames := 0, cells := 0, slots := 0, locals := 0 }
set_option maxHeartbeats 4000000 in
set_option maxRecDepth 100000 in
theorem ctX4_isBranch (l : Launch) (B : Nat) (D : va_G) (E : Nat → ClassId) (v0 : Int32) (g : hs_S) (o : Int32 × hs_S) (hf : fX4_isBranch v0 g = some o) : Met l yX4_isBranch wsX4_isBranch rmX4_isBranch (hs_Pc B D E g [.int v0]) (hs_Qi B D E o) (0) (0) (hs_F B) := by
  refine Met.ofW (cc := cX4_isBranch) (maxL := 1) (ret := (some .boolean)) (by decide) rfl ?_
  intro p e s m args below meth c s₁ Bd hml hv
  obtain ⟨rfl, hP, hK⟩ := hv
  have hx := Bd.exec
  have hb := Bd.bytes
  have hr := Bd.returns
  have hts := atoms_spec (ws := wsX4_isBranch) Bd.pre
  have hown : s.vm.findClass RX4 = some m.cls := findClass_of_methodNamed Bd.named
  have hlocks := Bd.notSynchronized
  have hS : hs_Sx B s.heap s.heap [] := va_S.rf
  have hX : hs_cx cX4_isBranch (some .boolean) 1 RX4 wsX4_isBranch p s m (List.toArray [.int v0]) meth c D E := ⟨hx, hb, hr, hml, hown, hts, hlocks, hK⟩
  have hl := lv_entry ([.int v0]) (n := 1) (Nat.le_of_ble_eq_true rfl)
  rw [lg_entry_eq]
  generalize (lg_sl ([.int v0]) ++ List.replicate (1 - (lg_sl ([.int v0])).length) Slot.unset).toArray = ls at hl ⊢
  have hl : lv_has ls 1 [(0, .int v0)] := hl
  have hP : hs_P B D E g s.heap := hP
  unfold fX4_isBranch at hf
  refine lv_iload_n hx hb dX4_isBranch_0 rfl (lv_at hl 0 rfl) ?_
  refine lv_sipush (v := 153) hx hb dX4_isBranch_1 (by decide) ?_
  refine lv_icmp_lt (tgt := 18) hx hb dX4_isBranch_4 (by decide) (fun hc => ?_) (fun hc => ?_)
  · replace hf := hs_t hf hc
    refine lv_iconst (v := 0) hx hb dX4_isBranch_18 (by decide) ?_
    exact hs_iret hx hb hr hlocks (hs_01_nar (rfl)) hK hP hS hf dX4_isBranch_19
  · replace hf := hs_f hf hc
    refine lv_iload_n hx hb dX4_isBranch_7 rfl (lv_at hl 0 rfl) ?_
    refine lv_sipush (v := 158) hx hb dX4_isBranch_8 (by decide) ?_
    refine lv_icmp_gt (tgt := 18) hx hb dX4_isBranch_11 (by decide) (fun hc => ?_) (fun hc => ?_)
    · replace hf := hs_t hf hc
      refine lv_iconst (v := 0) hx hb dX4_isBranch_18 (by decide) ?_
      exact hs_iret hx hb hr hlocks (hs_01_nar (rfl)) hK hP hS hf dX4_isBranch_19
    · replace hf := hs_f hf hc
      refine lv_iconst (v := 1) hx hb dX4_isBranch_14 (by decide) ?_
      refine lv_goto (tgt := 19) hx hb dX4_isBranch_15 (by decide) ?_
      exact hs_iret hx hb hr hlocks (hs_01_nar (rfl)) hK hP hS hf dX4_isBranch_19

theorem dX4_isOfArray_0 : decode cX4_isOfArray 0 = .ok (.iload_n 0, 1) := by decide +kernel
theorem dX4_isOfArray_1 : decode cX4_isOfArray 1 = .ok (.sipush 188, 3) := by decide +kernel
theorem dX4_isOfArray_4 : decode cX4_isOfArray 4 = .ok (.if_icmp .eq 22, 3) := by decide +kernel
theorem dX4_isOfArray_7 : decode cX4_isOfArray 7 = .ok (.iload_n 0, 1) := by decide +kernel
theorem dX4_isOfArray_8 : decode cX4_isOfArray 8 = .ok (.sipush 190, 3) := by decide +kernel
theorem dX4_isOfArray_11 : decode cX4_isOfArray 11 = .ok (.if_icmp .eq 15, 3) := by decide +kernel
theorem dX4_isOfArray_14 : decode cX4_isOfArray 14 = .ok (.iload_n 0, 1) := by decide +kernel
theorem dX4_isOfArray_15 : decode cX4_isOfArray 15 = .ok (.bipush 46, 2) := by decide +kernel
theorem dX4_isOfArray_17 : decode cX4_isOfArray 17 = .ok (.if_icmp .eq 9, 3) := by decide +kernel
theorem dX4_isOfArray_20 : decode cX4_isOfArray 20 = .ok (.iload_n 0, 1) := by decide +kernel
theorem dX4_isOfArray_21 : decode cX4_isOfArray 21 = .ok (.bipush 79, 2) := by decide +kernel
theorem dX4_isOfArray_23 : decode cX4_isOfArray 23 = .ok (.if_icmp .ne 7, 3) := by decide +kernel
theorem dX4_isOfArray_26 : decode cX4_isOfArray 26 = .ok (.iconst 1, 1) := by decide +kernel
theorem dX4_isOfArray_27 : decode cX4_isOfArray 27 = .ok (.goto 4, 3) := by decide +kernel
theorem dX4_isOfArray_30 : decode cX4_isOfArray 30 = .ok (.iconst 0, 1) := by decide +kernel
theorem dX4_isOfArray_31 : decode cX4_isOfArray 31 = .ok (.ireturn, 1) := by decide +kernel

def jX4_isOfArray_26  (g : hs_S) : Option (Int32 × hs_S) :=
  some ((1 : Int32), g)
def fX4_isOfArray (v0 : Int32) (g : hs_S) : Option (Int32 × hs_S) :=
  if v0 = (188 : Int32) then (
    jX4_isOfArray_26 g
  ) else (
    if v0 = (190 : Int32) then (
      jX4_isOfArray_26 g
    ) else (
      if v0 = (46 : Int32) then (
        jX4_isOfArray_26 g
      ) else (
        if v0 = (79 : Int32) then (
          jX4_isOfArray_26 g
        ) else (
          some ((0 : Int32), g)
        )
      )
    )
  )
abbrev rmX4_isOfArray : Room := { frames := 0, cells := 0, slots := 0, locals := 0 }
set_option maxHeartbeats 4000000 in
set_option maxRecDepth 100000 in
theorem wX4_isOfArray_j26 {p : Program} {l : Launch} {e : Env} {s : State} {m : MethodId} {args : Array Value} {below : List Frame} {meth : Method} {c : Code} {B : Nat} {D : va_G} {E : Nat → ClassId} (hX : hs_cx cX4_isOfArray (some .boolean) 1 RX4 wsX4_isOfArray p s m args meth c D E) {o : Int32 × hs_S}     {g : hs_S} {H : Heap} {locs : List Loc} {ls : Array Slot} (hf : jX4_isOfArray_26  g = some o) (hP : hs_P B D E g H) (hS : hs_Sx B s.heap H locs) (hl : lv_has ls 1 []) : W p l e rmX4_isOfArray s m args below meth c H locs 0 0 (MQ below (hs_Qi B D E o) args s 0 0 (hs_F B)) (F0 m 26 ls []) := by
  obtain ⟨hx, hb, hr, hml, hown, hts, hlocks, hK⟩ := id hX
  unfold jX4_isOfArray_26 at hf
  refine lv_iconst (v := 1) hx hb dX4_isOfArray_26 (by decide) ?_
  refine lv_goto (tgt := 31) hx hb dX4_isOfArray_27 (by decide) ?_
  exact hs_iret hx hb hr hlocks (hs_01_nar (rfl)) hK hP hS hf dX4_isOfArray_31

set_option maxHeartbeats 4000000 in
set_option maxRecDepth 100000 in
theorem ctX4_isOfArray (l : Launch) (B : Nat) (D : va_G) (E : Nat → ClassId) (v0 : Int32) (g : hs_S) (o : Int32 × hs_S) (hf : fX4_isOfArray v0 g = some o) : Met l yX4_isOfArray wsX4_isOfArray rmX4_isOfArray (hs_Pc B D E g [.int v0]) (hs_Qi B D E o) (0) (0) (hs_F B) := by
  refine Met.ofW (cc := cX4_isOfArray) (maxL := 1) (ret := (some .boolean)) (by decide) rfl ?_
  intro p e s m args below meth c s₁ Bd hml hv
  obtain ⟨rfl, hP, hK⟩ := hv
  have hx := Bd.exec
  have hb := Bd.bytes
  have hr := Bd.returns
  have hts := atoms_spec (ws := wsX4_isOfArray) Bd.pre
  have hown : s.vm.findClass RX4 = some m.cls := findClass_of_methodNamed Bd.named
  have hlocks := Bd.notSynchronized
  have hS : hs_Sx B s.heap s.heap [] := va_S.rf
  have hX : hs_cx cX4_isOfArray (some .boolean) 1 RX4 wsX4_isOfArray p s m (List.toArray [.int v0]) meth c D E := ⟨hx, hb, hr, hml, hown, hts, hlocks, hK⟩
  have hl := lv_entry ([.int v0]) (n := 1) (Nat.le_of_ble_eq_true rfl)
  rw [lg_entry_eq]
  generalize (lg_sl ([.int v0]) ++ List.replicate (1 - (lg_sl ([.int v0])).length) Slot.unset).toArray = ls at hl ⊢
  have hl : lv_has ls 1 [(0, .int v0)] := hl
  have hP : hs_P B D E g s.heap := hP
  unfold fX4_isOfArray at hf
  refine lv_iload_n hx hb dX4_isOfArray_0 rfl (lv_at hl 0 rfl) ?_
  refine lv_sipush (v := 188) hx hb dX4_isOfArray_1 (by decide) ?_
  refine lv_icmp_eq (tgt := 26) hx hb dX4_isOfArray_4 (by decide) (fun hc => ?_) (fun hc => ?_)
  · replace hf := hs_t hf hc
    exact wX4_isOfArray_j26 hX hf hP hS (lv_sub hl [] rfl)
  · replace hf := hs_f hf hc
    refine lv_iload_n hx hb dX4_isOfArray_7 rfl (lv_at hl 0 rfl) ?_
    refine lv_sipush (v := 190) hx hb dX4_isOfArray_8 (by decide) ?_
    refine lv_icmp_eq (tgt := 26) hx hb dX4_isOfArray_11 (by decide) (fun hc => ?_) (fun hc => ?_)
    · replace hf := hs_t hf hc
      exact wX4_isOfArray_j26 hX hf hP hS (lv_sub hl [] rfl)
    · replace hf := hs_f hf hc
      refine lv_iload_n hx hb dX4_isOfArray_14 rfl (lv_at hl 0 rfl) ?_
      refine lv_bipush (v := 46) hx hb dX4_isOfArray_15 (by decide) ?_
      refine lv_icmp_eq (tgt := 26) hx hb dX4_isOfArray_17 (by decide) (fun hc => ?_) (fun hc => ?_)
      · replace hf := hs_t hf hc
        exact wX4_isOfArray_j26 hX hf hP hS (lv_sub hl [] rfl)
      · replace hf := hs_f hf hc
        refine lv_iload_n hx hb dX4_isOfArray_20 rfl (lv_at hl 0 rfl) ?_
        refine lv_bipush (v := 79) hx hb dX4_isOfArray_21 (by decide) ?_
        refine lv_icmp_ne (tgt := 30) hx hb dX4_isOfArray_23 (by decide) (fun hc => ?_) (fun hc => ?_)
        · replace hf := hs_f hf hc
          refine lv_iconst (v := 0) hx hb dX4_isOfArray_30 (by decide) ?_
          exact hs_iret hx hb hr hlocks (hs_01_nar (rfl)) hK hP hS hf dX4_isOfArray_31
        · replace hf := hs_t hf hc
          exact wX4_isOfArray_j26 hX hf hP hS (lv_sub hl [] rfl)

set_option maxRecDepth 20000 in
theorem ggX4_sizeOf_X4_isOfTwo : GoodIn wsX4_sizeOf wsX4_isOfTwo := goodIn_r _ [4] (by decide +kernel) (by decide +kernel)
set_option maxRecDepth 20000 in
theorem gX4_sizeOf_X4_isOfTwo : GoodIn wsX4_sizeOf (va_wsS RX4 7 yX4_isOfTwo wsX4_isOfTwo) := goodIn_app (goodIn_of _ (by decide +kernel)) ggX4_sizeOf_X4_isOfTwo
set_option maxRecDepth 20000 in
theorem ggX4_sizeOf_X4_isBranch : GoodIn wsX4_sizeOf wsX4_isBranch := goodIn_r _ [7] (by decide +kernel) (by decide +kernel)
set_option maxRecDepth 20000 in
theorem gX4_sizeOf_X4_isBranch : GoodIn wsX4_sizeOf (va_wsS RX4 13 yX4_isBranch wsX4_isBranch) := goodIn_app (goodIn_of _ (by decide +kernel)) ggX4_sizeOf_X4_isBranch
set_option maxRecDepth 20000 in
theorem ggX4_sizeOf_X4_isOfArray : GoodIn wsX4_sizeOf wsX4_isOfArray := goodIn_r _ [10] (by decide +kernel) (by decide +kernel)
set_option maxRecDepth 20000 in
theorem gX4_sizeOf_X4_isOfArray : GoodIn wsX4_sizeOf (va_wsS RX4 16 yX4_isOfArray wsX4_isOfArray) := goodIn_app (goodIn_of _ (by decide +kernel)) ggX4_sizeOf_X4_isOfArray
theorem dX4_sizeOf_0 : decode cX4_sizeOf 0 = .ok (.iload_n 0, 1) := by decide +kernel
theorem dX4_sizeOf_1 : decode cX4_sizeOf 1 = .ok (.lookupswitch 121 #[(0, 115), (16, 117), (17, 119), (21, 117), (54, 117), (87, 115), (89, 115), (116, 115), (167, 117), (168, 119), (172, 115), (184, 117), (191, 115)], 115) := by decide +kernel
theorem dX4_sizeOf_116 : decode cX4_sizeOf 116 = .ok (.iconst 1, 1) := by decide +kernel
theorem dX4_sizeOf_117 : decode cX4_sizeOf 117 = .ok (.ireturn, 1) := by decide +kernel
theorem dX4_sizeOf_118 : decode cX4_sizeOf 118 = .ok (.iconst 2, 1) := by decide +kernel
theorem dX4_sizeOf_119 : decode cX4_sizeOf 119 = .ok (.ireturn, 1) := by decide +kernel
theorem dX4_sizeOf_120 : decode cX4_sizeOf 120 = .ok (.iconst 3, 1) := by decide +kernel
theorem dX4_sizeOf_121 : decode cX4_sizeOf 121 = .ok (.ireturn, 1) := by decide +kernel
theorem dX4_sizeOf_122 : decode cX4_sizeOf 122 = .ok (.iload_n 0, 1) := by decide +kernel
theorem dX4_sizeOf_123 : decode cX4_sizeOf 123 = .ok (.invokestatic 7, 3) := by decide +kernel
theorem dX4_sizeOf_126 : decode cX4_sizeOf 126 = .ok (.ifCond .eq 7, 3) := by decide +kernel
theorem dX4_sizeOf_129 : decode cX4_sizeOf 129 = .ok (.iconst 1, 1) := by decide +kernel
theorem dX4_sizeOf_130 : decode cX4_sizeOf 130 = .ok (.goto 22, 3) := by decide +kernel
theorem dX4_sizeOf_133 : decode cX4_sizeOf 133 = .ok (.iload_n 0, 1) := by decide +kernel
theorem dX4_sizeOf_134 : decode cX4_sizeOf 134 = .ok (.invokestatic 13, 3) := by decide +kernel
theorem dX4_sizeOf_137 : decode cX4_sizeOf 137 = .ok (.ifCond .ne 10, 3) := by decide +kernel
theorem dX4_sizeOf_140 : decode cX4_sizeOf 140 = .ok (.iload_n 0, 1) := by decide +kernel
theorem dX4_sizeOf_141 : decode cX4_sizeOf 141 = .ok (.invokestatic 16, 3) := by decide +kernel
theorem dX4_sizeOf_144 : decode cX4_sizeOf 144 = .ok (.ifCond .eq 7, 3) := by decide +kernel
theorem dX4_sizeOf_147 : decode cX4_sizeOf 147 = .ok (.iconst 2, 1) := by decide +kernel
theorem dX4_sizeOf_148 : decode cX4_sizeOf 148 = .ok (.goto 4, 3) := by decide +kernel
theorem dX4_sizeOf_151 : decode cX4_sizeOf 151 = .ok (.iconst 0, 1) := by decide +kernel
theorem dX4_sizeOf_152 : decode cX4_sizeOf 152 = .ok (.ireturn, 1) := by decide +kernel

def jX4_sizeOf_147  (g : hs_S) : Option (Int32 × hs_S) :=
  some ((2 : Int32), g)
def fX4_sizeOf (v0 : Int32) (g : hs_S) : Option (Int32 × hs_S) :=
  if v0 = (0 : Int32) then (
    some ((1 : Int32), g)
  ) else (
  if v0 = (16 : Int32) then (
    some ((2 : Int32), g)
  ) else (
  if v0 = (17 : Int32) then (
    some ((3 : Int32), g)
  ) else (
  if v0 = (21 : Int32) then (
    some ((2 : Int32), g)
  ) else (
  if v0 = (54 : Int32) then (
    some ((2 : Int32), g)
  ) else (
  if v0 = (87 : Int32) then (
    some ((1 : Int32), g)
  ) else (
  if v0 = (89 : Int32) then (
    some ((1 : Int32), g)
  ) else (
  if v0 = (116 : Int32) then (
    some ((1 : Int32), g)
  ) else (
  if v0 = (167 : Int32) then (
    some ((2 : Int32), g)
  ) else (
  if v0 = (168 : Int32) then (
    some ((3 : Int32), g)
  ) else (
  if v0 = (172 : Int32) then (
    some ((1 : Int32), g)
  ) else (
  if v0 = (184 : Int32) then (
    some ((2 : Int32), g)
  ) else (
  if v0 = (191 : Int32) then (
    some ((1 : Int32), g)
  ) else (
    hs_bd (fX4_isOfTwo v0 g) fun r2 g1 =>
    if r2 = 0 then (
      hs_bd (fX4_isBranch v0 g1) fun r5 g4 =>
      if r5 = 0 then (
        hs_bd (fX4_isOfArray v0 g4) fun r8 g7 =>
        if r8 = 0 then (
          some ((0 : Int32), g7)
        ) else (
          jX4_sizeOf_147 g7
        )
      ) else (
        jX4_sizeOf_147 g4
      )
    ) else (
      some ((1 : Int32), g1)
    )
  )))))))))))))
abbrev rmX4_sizeOf : Room := { frames := 1, cells := 0, slots := 0, locals := 20 }
set_option maxHeartbeats 4000000 in
set_option maxRecDepth 100000 in
theorem wX4_sizeOf_j147 {p : Program} {l : Launch} {e : Env} {s : State} {m : MethodId} {args : Array Value} {below : List Frame} {meth : Method} {c : Code} {B : Nat} {D : va_G} {E : Nat → ClassId} (hX : hs_cx cX4_sizeOf (some .int) 1 RX4 wsX4_sizeOf p s m args meth c D E) {o : Int32 × hs_S}     {g : hs_S} {H : Heap} {locs : List Loc} {ls : Array Slot} (hf : jX4_sizeOf_147  g = some o) (hP : hs_P B D E g H) (hS : hs_Sx B s.heap H locs) (hl : lv_has ls 1 []) : W p l e rmX4_sizeOf s m args below meth c H locs 0 0 (MQ below (hs_Qi B D E o) args s 0 0 (hs_F B)) (F0 m 147 ls []) := by
  obtain ⟨hx, hb, hr, hml, hown, hts, hlocks, hK⟩ := id hX
  unfold jX4_sizeOf_147 at hf
  refine lv_iconst (v := 2) hx hb dX4_sizeOf_147 (by decide) ?_
  refine lv_goto (tgt := 152) hx hb dX4_sizeOf_148 (by decide) ?_
  exact hs_iret hx hb hr hlocks rfl hK hP hS hf dX4_sizeOf_152

set_option maxHeartbeats 4000000 in
set_option maxRecDepth 100000 in
theorem ctX4_sizeOf (l : Launch) (B : Nat) (D : va_G) (E : Nat → ClassId) (v0 : Int32) (g : hs_S) (o : Int32 × hs_S) (hf : fX4_sizeOf v0 g = some o) : Met l yX4_sizeOf wsX4_sizeOf rmX4_sizeOf (hs_Pc B D E g [.int v0]) (hs_Qi B D E o) (0) (0) (hs_F B) := by
  refine Met.ofW (cc := cX4_sizeOf) (maxL := 1) (ret := (some .int)) (by decide) rfl ?_
  intro p e s m args below meth c s₁ Bd hml hv
  obtain ⟨rfl, hP, hK⟩ := hv
  have hx := Bd.exec
  have hb := Bd.bytes
  have hr := Bd.returns
  have hts := atoms_spec (ws := wsX4_sizeOf) Bd.pre
  have hown : s.vm.findClass RX4 = some m.cls := findClass_of_methodNamed Bd.named
  have hlocks := Bd.notSynchronized
  have hS : hs_Sx B s.heap s.heap [] := va_S.rf
  have hX : hs_cx cX4_sizeOf (some .int) 1 RX4 wsX4_sizeOf p s m (List.toArray [.int v0]) meth c D E := ⟨hx, hb, hr, hml, hown, hts, hlocks, hK⟩
  have hl := lv_entry ([.int v0]) (n := 1) (Nat.le_of_ble_eq_true rfl)
  rw [lg_entry_eq]
  generalize (lg_sl ([.int v0]) ++ List.replicate (1 - (lg_sl ([.int v0])).length) Slot.unset).toArray = ls at hl ⊢
  have hl : lv_has ls 1 [(0, .int v0)] := hl
  have hP : hs_P B D E g s.heap := hP
  unfold fX4_sizeOf at hf
  refine lv_iload_n hx hb dX4_sizeOf_0 rfl (lv_at hl 0 rfl) ?_
  by_cases hc : v0 = (0 : Int32)
  · replace hf := hs_t hf hc
    refine lv_lookup (off := 115) (tgt := 116) hx hb dX4_sizeOf_1 (by decide +kernel) (by rw [hc]; first | done | decide +kernel) (by decide) ?_
    refine lv_iconst (v := 1) hx hb dX4_sizeOf_116 (by decide) ?_
    exact hs_iret hx hb hr hlocks rfl hK hP hS hf dX4_sizeOf_117
  have hn0 := hc
  replace hf := hs_f hf hc
  clear hc
  by_cases hc : v0 = (16 : Int32)
  · replace hf := hs_t hf hc
    refine lv_lookup (off := 117) (tgt := 118) hx hb dX4_sizeOf_1 (by decide +kernel) (by rw [hc]; first | done | decide +kernel) (by decide) ?_
    refine lv_iconst (v := 2) hx hb dX4_sizeOf_118 (by decide) ?_
    exact hs_iret hx hb hr hlocks rfl hK hP hS hf dX4_sizeOf_119
  have hn1 := hc
  replace hf := hs_f hf hc
  clear hc
  by_cases hc : v0 = (17 : Int32)
  · replace hf := hs_t hf hc
    refine lv_lookup (off := 119) (tgt := 120) hx hb dX4_sizeOf_1 (by decide +kernel) (by rw [hc]; first | done | decide +kernel) (by decide) ?_
    refine lv_iconst (v := 3) hx hb dX4_sizeOf_120 (by decide) ?_
    exact hs_iret hx hb hr hlocks rfl hK hP hS hf dX4_sizeOf_121
  have hn2 := hc
  replace hf := hs_f hf hc
  clear hc
  by_cases hc : v0 = (21 : Int32)
  · replace hf := hs_t hf hc
    refine lv_lookup (off := 117) (tgt := 118) hx hb dX4_sizeOf_1 (by decide +kernel) (by rw [hc]; first | done | decide +kernel) (by decide) ?_
    refine lv_iconst (v := 2) hx hb dX4_sizeOf_118 (by decide) ?_
    exact hs_iret hx hb hr hlocks rfl hK hP hS hf dX4_sizeOf_119
  have hn3 := hc
  replace hf := hs_f hf hc
  clear hc
  by_cases hc : v0 = (54 : Int32)
  · replace hf := hs_t hf hc
    refine lv_lookup (off := 117) (tgt := 118) hx hb dX4_sizeOf_1 (by decide +kernel) (by rw [hc]; first | done | decide +kernel) (by decide) ?_
    refine lv_iconst (v := 2) hx hb dX4_sizeOf_118 (by decide) ?_
    exact hs_iret hx hb hr hlocks rfl hK hP hS hf dX4_sizeOf_119
  have hn4 := hc
  replace hf := hs_f hf hc
  clear hc
  by_cases hc : v0 = (87 : Int32)
  · replace hf := hs_t hf hc
    refine lv_lookup (off := 115) (tgt := 116) hx hb dX4_sizeOf_1 (by decide +kernel) (by rw [hc]; first | done | decide +kernel) (by decide) ?_
    refine lv_iconst (v := 1) hx hb dX4_sizeOf_116 (by decide) ?_
    exact hs_iret hx hb hr hlocks rfl hK hP hS hf dX4_sizeOf_117
  have hn5 := hc
  replace hf := hs_f hf hc
  clear hc
  by_cases hc : v0 = (89 : Int32)
  · replace hf := hs_t hf hc
    refine lv_lookup (off := 115) (tgt := 116) hx hb dX4_sizeOf_1 (by decide +kernel) (by rw [hc]; first | done | decide +kernel) (by decide) ?_
    refine lv_iconst (v := 1) hx hb dX4_sizeOf_116 (by decide) ?_
    exact hs_iret hx hb hr hlocks rfl hK hP hS hf dX4_sizeOf_117
  have hn6 := hc
  replace hf := hs_f hf hc
  clear hc
  by_cases hc : v0 = (116 : Int32)
  · replace hf := hs_t hf hc
    refine lv_lookup (off := 115) (tgt := 116) hx hb dX4_sizeOf_1 (by decide +kernel) (by rw [hc]; first | done | decide +kernel) (by decide) ?_
    refine lv_iconst (v := 1) hx hb dX4_sizeOf_116 (by decide) ?_
    exact hs_iret hx hb hr hlocks rfl hK hP hS hf dX4_sizeOf_117
  have hn7 := hc
  replace hf := hs_f hf hc
  clear hc
  by_cases hc : v0 = (167 : Int32)
  · replace hf := hs_t hf hc
    refine lv_lookup (off := 117) (tgt := 118) hx hb dX4_sizeOf_1 (by decide +kernel) (by rw [hc]; first | done | decide +kernel) (by decide) ?_
    refine lv_iconst (v := 2) hx hb dX4_sizeOf_118 (by decide) ?_
    exact hs_iret hx hb hr hlocks rfl hK hP hS hf dX4_sizeOf_119
  have hn8 := hc
  replace hf := hs_f hf hc
  clear hc
  by_cases hc : v0 = (168 : Int32)
  · replace hf := hs_t hf hc
    refine lv_lookup (off := 119) (tgt := 120) hx hb dX4_sizeOf_1 (by decide +kernel) (by rw [hc]; first | done | decide +kernel) (by decide) ?_
    refine lv_iconst (v := 3) hx hb dX4_sizeOf_120 (by decide) ?_
    exact hs_iret hx hb hr hlocks rfl hK hP hS hf dX4_sizeOf_121
  have hn9 := hc
  replace hf := hs_f hf hc
  clear hc
  by_cases hc : v0 = (172 : Int32)
  · replace hf := hs_t hf hc
    refine lv_lookup (off := 115) (tgt := 116) hx hb dX4_sizeOf_1 (by decide +kernel) (by rw [hc]; first | done | decide +kernel) (by decide) ?_
    refine lv_iconst (v := 1) hx hb dX4_sizeOf_116 (by decide) ?_
    exact hs_iret hx hb hr hlocks rfl hK hP hS hf dX4_sizeOf_117
  have hn10 := hc
  replace hf := hs_f hf hc
  clear hc
  by_cases hc : v0 = (184 : Int32)
  · replace hf := hs_t hf hc
    refine lv_lookup (off := 117) (tgt := 118) hx hb dX4_sizeOf_1 (by decide +kernel) (by rw [hc]; first | done | decide +kernel) (by decide) ?_
    refine lv_iconst (v := 2) hx hb dX4_sizeOf_118 (by decide) ?_
    exact hs_iret hx hb hr hlocks rfl hK hP hS hf dX4_sizeOf_119
  have hn11 := hc
  replace hf := hs_f hf hc
  clear hc
  by_cases hc : v0 = (191 : Int32)
  · replace hf := hs_t hf hc
    refine lv_lookup (off := 115) (tgt := 116) hx hb dX4_sizeOf_1 (by decide +kernel) (by rw [hc]; first | done | decide +kernel) (by decide) ?_
    refine lv_iconst (v := 1) hx hb dX4_sizeOf_116 (by decide) ?_
    exact hs_iret hx hb hr hlocks rfl hK hP hS hf dX4_sizeOf_117
  have hn12 := hc
  replace hf := hs_f hf hc
  clear hc
  refine lv_lookup (off := 121) (tgt := 122) hx hb dX4_sizeOf_1 (by decide +kernel) (by simp only [Array.toList]; rw [lv_osw (a := 0) hn0 rfl, lv_osw (a := 16) hn1 rfl, lv_osw (a := 17) hn2 rfl, lv_osw (a := 21) hn3 rfl, lv_osw (a := 54) hn4 rfl, lv_osw (a := 87) hn5 rfl, lv_osw (a := 89) hn6 rfl, lv_osw (a := 116) hn7 rfl, lv_osw (a := 167) hn8 rfl, lv_osw (a := 168) hn9 rfl, lv_osw (a := 172) hn10 rfl, lv_osw (a := 184) hn11 rfl, lv_osw (a := 191) hn12 rfl]; first | done | rfl) (by decide) ?_
  refine lv_iload_n hx hb dX4_sizeOf_122 rfl (lv_at hl 0 rfl) ?_
  obtain ⟨r2, g1, h3, hf⟩ := hs_bd_some hf
  refine hs_calli (va_runS (As := [.int v0]) (rest := []) ⟨hx, hb, hml, hown, hts⟩ (ctX4_isOfTwo l B D E v0 g _ h3) (va_cwS 1 hts gX4_sizeOf_X4_isOfTwo rfl rfl rfl (by decide +kernel) ⟨Nat.le_of_ble_eq_true rfl, Nat.le_of_ble_eq_true rfl⟩) (hs_pre hP hK) rfl rfl hl.1 rfl (lv_room (Nat.le_of_ble_eq_true rfl)) dX4_sizeOf_123 ⟨(Nat.le_of_ble_eq_true rfl), (Nat.le_of_ble_eq_true rfl)⟩) hS (fun H locs hP hS => ?_)
  refine lv_if_eq (tgt := 133) hx hb dX4_sizeOf_126 (by decide) (fun hc => ?_) (fun hc => ?_)
  · replace hf := hs_t hf hc
    refine lv_iload_n hx hb dX4_sizeOf_133 rfl (lv_at hl 0 rfl) ?_
    obtain ⟨r5, g4, h6, hf⟩ := hs_bd_some hf
    refine hs_calli (va_runS (As := [.int v0]) (rest := []) ⟨hx, hb, hml, hown, hts⟩ (ctX4_isBranch l B D E v0 g1 _ h6) (va_cwS 1 hts gX4_sizeOf_X4_isBranch rfl rfl rfl (by decide +kernel) ⟨Nat.le_of_ble_eq_true rfl, Nat.le_of_ble_eq_true rfl⟩) (hs_pre hP hK) rfl rfl hl.1 rfl (lv_room (Nat.le_of_ble_eq_true rfl)) dX4_sizeOf_134 ⟨(Nat.le_of_ble_eq_true rfl), (Nat.le_of_ble_eq_true rfl)⟩) hS (fun H locs hP hS => ?_)
    refine lv_if_ne (tgt := 147) hx hb dX4_sizeOf_137 (by decide) (fun hc => ?_) (fun hc => ?_)
    · replace hf := hs_f hf hc
      exact wX4_sizeOf_j147 hX hf hP hS (lv_sub hl [] rfl)
    · replace hf := hs_t hf hc
      refine lv_iload_n hx hb dX4_sizeOf_140 rfl (lv_at hl 0 rfl) ?_
      obtain ⟨r8, g7, h9, hf⟩ := hs_bd_some hf
      refine hs_calli (va_runS (As := [.int v0]) (rest := []) ⟨hx, hb, hml, hown, hts⟩ (ctX4_isOfArray l B D E v0 g4 _ h9) (va_cwS 1 hts gX4_sizeOf_X4_isOfArray rfl rfl rfl (by decide +kernel) ⟨Nat.le_of_ble_eq_true rfl, Nat.le_of_ble_eq_true rfl⟩) (hs_pre hP hK) rfl rfl hl.1 rfl (lv_room (Nat.le_of_ble_eq_true rfl)) dX4_sizeOf_141 ⟨(Nat.le_of_ble_eq_true rfl), (Nat.le_of_ble_eq_true rfl)⟩) hS (fun H locs hP hS => ?_)
      refine lv_if_eq (tgt := 151) hx hb dX4_sizeOf_144 (by decide) (fun hc => ?_) (fun hc => ?_)
      · replace hf := hs_t hf hc
        refine lv_iconst (v := 0) hx hb dX4_sizeOf_151 (by decide) ?_
        exact hs_iret hx hb hr hlocks rfl hK hP hS hf dX4_sizeOf_152
      · replace hf := hs_f hf hc
        exact wX4_sizeOf_j147 hX hf hP hS (lv_sub hl [] rfl)
  · replace hf := hs_f hf hc
    refine lv_iconst (v := 1) hx hb dX4_sizeOf_129 (by decide) ?_
    refine lv_goto (tgt := 152) hx hb dX4_sizeOf_130 (by decide) ?_
    exact hs_iret hx hb hr hlocks rfl hK hP hS hf dX4_sizeOf_152
end
section
theorem dX7_init_0 : decode cX7_init 0 = .ok (.aload_n 0, 1) := by decide +kernel
theorem dX7_init_1 : decode cX7_init 1 = .ok (.invokespecial 3, 3) := by decide +kernel
theorem dX7_init_4 : decode cX7_init 4 = .ok (.aload_n 0, 1) := by decide +kernel
theorem dX7_init_5 : decode cX7_init 5 = .ok (.bipush 32, 2) := by decide +kernel
theorem dX7_init_7 : decode cX7_init 7 = .ok (.newarray .int, 2) := by decide +kernel
theorem dX7_init_9 : decode cX7_init 9 = .ok (.putfield 9, 3) := by decide +kernel
theorem dX7_init_12 : decode cX7_init 12 = .ok (.aload_n 0, 1) := by decide +kernel
theorem dX7_init_13 : decode cX7_init 13 = .ok (.aload_n 1, 1) := by decide +kernel
theorem dX7_init_14 : decode cX7_init 14 = .ok (.putfield 15, 3) := by decide +kernel
theorem dX7_init_17 : decode cX7_init 17 = .ok (.return_, 1) := by decide +kernel
theorem kX7_init_0 : Cond.methodLink RX7 3 objectInit ∈ wsX7_init := by decide +kernel
theorem kX7_init_1 : Cond.instanceMethod objectInit ∈ wsX7_init := by decide +kernel
theorem kX7_init_2 : Cond.code objectInit ⟨#[0xb1]⟩ 1 none ∈ wsX7_init := by decide +kernel
theorem kX7_init_3 : Cond.arrayClass .int ∈ wsX7_init := by decide +kernel
theorem kX7_init_4 : Cond.fieldLink RX7 9 "StepRewriter$Method" "table" "[I" ∈ wsX7_init := by decide +kernel
theorem kX7_init_5 : ∀ w ∈ u_ws RX7 TX7 11, w ∈ wsX7_init := by decide +kernel
theorem kX7_init_6 : Cond.fieldLink RX7 15 "StepRewriter$Method" "row" "[I" ∈ wsX7_init := by decide +kernel
def fX7_init (v0 : Nat) (v1 : Nat) (g : hs_S) : Option (hs_S) :=
  if hs_kd (hs_new g 100 32) v0 = 6 then
  some (hs_wR (hs_wR (hs_new g 100 32) v0 1 g.1) v0 0 v1)
  else none
abbrev rmX7_init : Room := { frames := 1, cells := 1, slots := 32, locals := 20 }
set_option maxHeartbeats 4000000 in
set_option maxRecDepth 100000 in
theorem ctX7_init (l : Launch) (B : Nat) (D : va_G) (E : Nat → ClassId) (v0 : Nat) (v1 : Nat) (g : hs_S) (o : hs_S) (hf : fX7_init v0 v1 g = some o) : Met l yX7_init wsX7_init rmX7_init (hs_Pc B D E g [.ref (B + v0), .ref (B + v1)]) (hs_Qv B D E o) (1) (32) (hs_F B) := by
  refine Met.ofW (cc := cX7_init) (maxL := 2) (ret := none) (by decide) rfl ?_
  intro p e s m args below meth c s₁ Bd hml hv
  obtain ⟨rfl, hP, hK⟩ := hv
  have hx := Bd.exec
  have hb := Bd.bytes
  have hr := Bd.returns
  have hts := atoms_spec (ws := wsX7_init) Bd.pre
  have hown : s.vm.findClass RX7 = some m.cls := findClass_of_methodNamed Bd.named
  have hlocks := Bd.notSynchronized
  have hin : meth.name = "<init>" := (name_of_methodNamed Bd.named Bd.method).1
  have hS : hs_Sx B s.heap s.heap [] := va_S.rf
  have hX : hs_cx cX7_init none 2 RX7 wsX7_init p s m (List.toArray [.ref (B + v0), .ref (B + v1)]) meth c D E := ⟨hx, hb, hr, hml, hown, hts, hlocks, hK⟩
  have hl := lv_entry ([.ref (B + v0), .ref (B + v1)]) (n := 2) (Nat.le_of_ble_eq_true rfl)
  rw [lg_entry_eq]
  generalize (lg_sl ([.ref (B + v0), .ref (B + v1)]) ++ List.replicate (2 - (lg_sl ([.ref (B + v0), .ref (B + v1)])).length) Slot.unset).toArray = ls at hl ⊢
  have hl : lv_has ls 2 [(0, .ref (B + v0)), (1, .ref (B + v1))] := hl
  have hP : hs_P B D E g s.heap := hP
  unfold fX7_init at hf
  refine lv_aload_n hx hb dX7_init_0 rfl (lv_at hl 0 rfl) ?_
  refine W.objInit hx hb hown (hts _ kX7_init_0) (hts _ kX7_init_1) (hts _ kX7_init_2) rfl (hl.1.trans hml.symm) rfl dX7_init_1 (Nat.le_of_ble_eq_true rfl) (Nat.le_of_ble_eq_true rfl) ?_
  refine lv_aload_n hx hb dX7_init_4 rfl (lv_at hl 0 rfl) ?_
  refine lv_bipush (v := 32) hx hb dX7_init_5 (by decide) ?_
  refine hs_newI (t := 0) (k := 100) (N := 32) (atype := .int) hx hb (by decide) rfl (hts _ kX7_init_3) rfl (fun _ _ h => h) rfl hK.1 hP hS (by decide) (by rfl) (by decide) (Nat.le_of_ble_eq_true rfl) (Nat.le_of_ble_eq_true rfl) dX7_init_7 (fun H hP hS => ?_)
  refine W.widen (k := 1) (n := 32) (by omega) (by omega) ?_
  obtain ⟨h1, hf⟩ := hs_ck hf
  refine hs_putr (C := RX7) (T := TX7) (N := 11) hx hb hts kX7_init_5 tyX7 tyX7_ok nmX7 hown hK.1 hP hS h1 (by decide) rfl 1 (by decide) (hts _ kX7_init_4) (fun _ h => h) (Or.inr ⟨rfl, hin, rfl⟩) (fun _ => rfl) (fun _ => rfl) rfl dX7_init_9 (fun H locs hP hS => ?_)
  refine lv_aload_n hx hb dX7_init_12 rfl (lv_at hl 0 rfl) ?_
  refine lv_aload_n hx hb dX7_init_13 rfl (lv_at hl 1 rfl) ?_
  refine hs_putr (C := RX7) (T := TX7) (N := 11) hx hb hts kX7_init_5 tyX7 tyX7_ok nmX7 hown hK.1 hP hS h1 (by decide) rfl 0 (by decide) (hts _ kX7_init_6) (fun _ h => h) (Or.inr ⟨rfl, hin, rfl⟩) (fun _ => rfl) (fun _ => rfl) rfl dX7_init_14 (fun H locs hP hS => ?_)
  refine W.widen (k := 1) (n := 32) (by omega) (by omega) ?_
  exact hs_vret hx hb hr hlocks hK hP hS hf dX7_init_17

set_option maxRecDepth 20000 in
theorem ggX0_init_X7_init : GoodIn wsX0_init wsX7_init := goodIn_r _ [13, 14, 2, 3, 8, 15, 16, 22, 23, 24, 25, 26, 27, 28, 29, 30, 31, 32] (by decide +kernel) (by decide +kernel)
set_option maxRecDepth 20000 in
theorem gX0_init_X7_init : GoodIn wsX0_init (wsX7_init) := ggX0_init_X7_init
theorem dX0_init_0 : decode cX0_init 0 = .ok (.aload_n 0, 1) := by decide +kernel
theorem dX0_init_1 : decode cX0_init 1 = .ok (.invokespecial 3, 3) := by decide +kernel
theorem dX0_init_4 : decode cX0_init 4 = .ok (.aload_n 0, 1) := by decide +kernel
theorem dX0_init_5 : decode cX0_init 5 = .ok (.bipush 8, 2) := by decide +kernel
theorem dX0_init_7 : decode cX0_init 7 = .ok (.anewarray 9, 3) := by decide +kernel
theorem dX0_init_10 : decode cX0_init 10 = .ok (.putfield 11, 3) := by decide +kernel
theorem dX0_init_13 : decode cX0_init 13 = .ok (.aload_n 0, 1) := by decide +kernel
theorem dX0_init_14 : decode cX0_init 14 = .ok (.new 9, 3) := by decide +kernel
theorem dX0_init_17 : decode cX0_init 17 = .ok (.dup, 1) := by decide +kernel
theorem dX0_init_18 : decode cX0_init 18 = .ok (.iconst 0, 1) := by decide +kernel
theorem dX0_init_19 : decode cX0_init 19 = .ok (.newarray .int, 2) := by decide +kernel
theorem dX0_init_21 : decode cX0_init 21 = .ok (.invokespecial 17, 3) := by decide +kernel
theorem dX0_init_24 : decode cX0_init 24 = .ok (.putfield 20, 3) := by decide +kernel
theorem dX0_init_27 : decode cX0_init 27 = .ok (.aload_n 0, 1) := by decide +kernel
theorem dX0_init_28 : decode cX0_init 28 = .ok (.iload_n 1, 1) := by decide +kernel
theorem dX0_init_29 : decode cX0_init 29 = .ok (.newarray .int, 2) := by decide +kernel
theorem dX0_init_31 : decode cX0_init 31 = .ok (.putfield 24, 3) := by decide +kernel
theorem dX0_init_34 : decode cX0_init 34 = .ok (.iconst 0, 1) := by decide +kernel
theorem dX0_init_35 : decode cX0_init 35 = .ok (.istore_n 2, 1) := by decide +kernel
theorem dX0_init_36 : decode cX0_init 36 = .ok (.iload_n 2, 1) := by decide +kernel
theorem dX0_init_37 : decode cX0_init 37 = .ok (.bipush 8, 2) := by decide +kernel
theorem dX0_init_39 : decode cX0_init 39 = .ok (.if_icmp .ge 26, 3) := by decide +kernel
theorem dX0_init_42 : decode cX0_init 42 = .ok (.aload_n 0, 1) := by decide +kernel
theorem dX0_init_43 : decode cX0_init 43 = .ok (.getfield 11, 3) := by decide +kernel
theorem dX0_init_46 : decode cX0_init 46 = .ok (.iload_n 2, 1) := by decide +kernel
theorem dX0_init_47 : decode cX0_init 47 = .ok (.new 9, 3) := by decide +kernel
theorem dX0_init_50 : decode cX0_init 50 = .ok (.dup, 1) := by decide +kernel
theorem dX0_init_51 : decode cX0_init 51 = .ok (.aload_n 0, 1) := by decide +kernel
theorem dX0_init_52 : decode cX0_init 52 = .ok (.getfield 24, 3) := by decide +kernel
theorem dX0_init_55 : decode cX0_init 55 = .ok (.invokespecial 17, 3) := by decide +kernel
theorem dX0_init_58 : decode cX0_init 58 = .ok (.aastore, 1) := by decide +kernel
theorem dX0_init_59 : decode cX0_init 59 = .ok (.iinc 2 1, 3) := by decide +kernel
theorem dX0_init_62 : decode cX0_init 62 = .ok (.goto (-26), 3) := by decide +kernel
theorem dX0_init_65 : decode cX0_init 65 = .ok (.return_, 1) := by decide +kernel
theorem kX0_init_0 : Cond.methodLink RX0 3 objectInit ∈ wsX0_init := by decide +kernel
theorem kX0_init_1 : Cond.instanceMethod objectInit ∈ wsX0_init := by decide +kernel
theorem kX0_init_2 : Cond.code objectInit ⟨#[0xb1]⟩ 1 none ∈ wsX0_init := by decide +kernel
theorem kX0_init_3 : Cond.classLink RX0 9 RX7 ∈ wsX0_init := by decide +kernel
theorem kX0_init_4 : Cond.fieldLink RX0 11 "StepRewriter$CodeSet" "methods" "[LStepRewriter$Method;" ∈ wsX0_init := by decide +kernel
theorem kX0_init_5 : ∀ w ∈ u_ws RX0 TX0 5, w ∈ wsX0_init := by decide +kernel
theorem kX0_init_6 : ∀ w ∈ u_ws RX7 TX7 11, w ∈ wsX0_init := by decide +kernel
theorem kX0_init_7 : Cond.instantiable RX7 11 ∈ wsX0_init := by decide +kernel
theorem kX0_init_8 : Cond.initialized RX7 ∈ wsX0_init := by decide +kernel
theorem kX0_init_9 : Cond.arrayClass .int ∈ wsX0_init := by decide +kernel
theorem kX0_init_10 : Cond.methodLink RX0 17 yX7_init ∈ wsX0_init := by decide +kernel
theorem kX0_init_11 : Cond.instanceMethod yX7_init ∈ wsX0_init := by decide +kernel
theorem kX0_init_12 : Cond.fieldLink RX0 20 "StepRewriter$CodeSet" "none" "LStepRewriter$Method;" ∈ wsX0_init := by decide +kernel
theorem kX0_init_13 : Cond.fieldLink RX0 24 "StepRewriter$CodeSet" "row" "[I" ∈ wsX0_init := by decide +kernel
def lX0_init_36 : Nat → Nat → Int32 → hs_S → Option (hs_S)
  | 0, _, _, _ => none
  | n + 1, v0, v2, g =>
    if (8 : Int32) ≤ v2 then (
      some g
    ) else (
      if hs_kd g v0 = 0 then
      if ¬ (hs_R g v0 1) = 0 then
      if hs_kd (hs_new g 6 0) v0 = 0 then
      if ¬ (hs_R (hs_new g 6 0) v0 0) = 0 then
      hs_bv (fX7_init g.1 ((hs_R (hs_new g 6 0) v0 0) - 1) (hs_new g 6 0)) fun g21 =>
      if hs_kd g21 ((hs_R g v0 1) - 1) = 102 then
      if hs_in v2 (hs_ln g21 ((hs_R g v0 1) - 1)) = true then
      if hs_kd g21 g.1 = 6 then
      lX0_init_36 n v0 (v2 + (1 : Int32)) (hs_wR g21 ((hs_R g v0 1) - 1) v2.toNatClampNeg g.1)
      else none else none else none else none else none else none else none
    )
theorem lX0_init_36_s (n : Nat) (v0 : Nat) (v2 : Int32) (g : hs_S) : lX0_init_36 (n + 1) v0 v2 g =
    if (8 : Int32) ≤ v2 then (
      some g
    ) else (
      if hs_kd g v0 = 0 then
      if ¬ (hs_R g v0 1) = 0 then
      if hs_kd (hs_new g 6 0) v0 = 0 then
      if ¬ (hs_R (hs_new g 6 0) v0 0) = 0 then
      hs_bv (fX7_init g.1 ((hs_R (hs_new g 6 0) v0 0) - 1) (hs_new g 6 0)) fun g21 =>
      if hs_kd g21 ((hs_R g v0 1) - 1) = 102 then
      if hs_in v2 (hs_ln g21 ((hs_R g v0 1) - 1)) = true then
      if hs_kd g21 g.1 = 6 then
      lX0_init_36 n v0 (v2 + (1 : Int32)) (hs_wR g21 ((hs_R g v0 1) - 1) v2.toNatClampNeg g.1)
      else none else none else none else none else none else none else none
    ) := rfl
def fX0_init (v0 : Nat) (v1 : Int32) (g : hs_S) : Option (hs_S) :=
  if hs_kd (hs_new g 102 8) v0 = 0 then
  hs_bv (some (hs_wR (hs_new g 102 8) v0 1 g.1)) fun g2 =>
  hs_bv (some (hs_new g2 6 0)) fun g5 =>
  hs_bv (fX7_init g2.1 g5.1 (hs_new g5 100 0)) fun g7 =>
  if hs_kd g7 v0 = 0 then
  hs_bv (some (hs_wR g7 v0 2 g2.1)) fun g11 =>
  if ¬ v1 < 0 then
  if v1.toNatClampNeg ≤ 32000 then
  if hs_kd (hs_new g11 100 v1.toNatClampNeg) v0 = 0 then
  hs_bv (lX0_init_36 hs_N v0 (0 : Int32) (hs_wR (hs_new g11 100 v1.toNatClampNeg) v0 0 g11.1)) fun g28 =>
  some g28
  else none else none else none else none else none
abbrev rmX0_init : Room := { frames := 2, cells := 21, slots := 32395, locals := 41 }
set_option maxHeartbeats 4000000 in
set_option maxRecDepth 100000 in
theorem wX0_init_36 {p : Program} {l : Launch} {e : Env} {s : State} {m : MethodId} {args : Array Value} {below : List Frame} {meth : Method} {c : Code} {B : Nat} {D : va_G} {E : Nat → ClassId} (hX : hs_cx cX0_init none 3 RX0 wsX0_init p s m args meth c D E) {Q : State → Prop} {o : hs_S} {v0 : Nat} (hex0 : ∀ (H : Heap) (locs : List Loc) (ls : Array Slot), hs_P B D E (o) H → hs_Sx B s.heap H locs → lv_has ls 3 [] → W p l e rmX0_init s m args below meth c H locs (5 + 2 * 8) (32051 + 43 * 8) Q (F0 m 65 ls [])) : ∀ (n : Nat) (j : Nat) (v2 : Int32) (g : hs_S), lX0_init_36 n v0 v2 g = some o → v2 = nI j → j ≤ 8 → ∀ (H : Heap) (locs : List Loc) (ls : Array Slot), hs_P B D E g H → hs_Sx B s.heap H locs → lv_has ls 3 [(0, .ref (B + v0)), (2, .int v2)] → W p l e rmX0_init s m args below meth c H locs (5 + 2 * j) (32051 + 43 * j) Q (F0 m 36 ls []) := by
  obtain ⟨hx, hb, hr, hml, hown, hts, hlocks, hK⟩ := id hX
  intro n
  induction n with
  | zero =>
    intro j v2 g hf
    cases hf
  | succ n ih =>
    intro j v2 g hf hj hjK H locs ls hP hS hl
    replace hf := (lX0_init_36_s n v0 v2 g).symm.trans hf
    refine W.widen (k := 5 + 2 * j) (n := 32051 + 43 * j) (by omega) (by omega) ?_
    refine lv_iload_n hx hb dX0_init_36 rfl (lv_at hl 1 rfl) ?_
    refine lv_bipush (v := 8) hx hb dX0_init_37 (by decide) ?_
    refine lv_icmp_ge (tgt := 65) hx hb dX0_init_39 (by decide) (fun hc => ?_) (fun hc => ?_)
    · replace hf := hs_t hf hc
      obtain rfl := Option.some.inj hf
      refine W.widen (k := 5 + 2 * 8) (n := 32051 + 43 * 8) (by omega) (by omega) ?_
      exact hex0 _ _ _ hP hS (lv_sub hl [] rfl)
    · replace hf := hs_f hf hc
      have hjl : j < 8 := Nat.lt_of_not_le fun q => hc (by rw [hj]; exact nI_le (a := 8) q (by omega))
      refine lv_aload_n hx hb dX0_init_42 rfl (lv_at hl 0 rfl) ?_
      obtain ⟨h17, hf⟩ := hs_ck hf
      obtain ⟨h18, hf⟩ := hs_ck hf
      refine hs_getr (C := RX0) (T := TX0) (N := 5) hx hb hts kX0_init_5 hown hK.1 hP h17 (by decide) rfl 1 (by decide) (hts _ kX0_init_4) (fun _ h => h) rfl h18 dX0_init_43 ?_
      refine lv_iload_n hx hb dX0_init_46 rfl (lv_at hl 1 rfl) ?_
      refine hs_newc (ci := 6) (C := RX7) (T := TX7) (N := 11) hx hb hts kX0_init_6 tyX7 tyX7_ok hown (hts _ kX0_init_3) (hts _ kX0_init_7) (hts _ kX0_init_8) hK.1 hP hS (by decide) rfl hs_dfX7 (show _ ≤ (21 : Nat) by omega) (show _ ≤ (32395 : Nat) by omega) dX0_init_47 (fun H hP hS => ?_)
      refine W.widen (k := 5 + 2 * j + 1) (n := 32051 + 43 * j + 11) (by omega) (by omega) ?_
      refine lv_dup hx hb dX0_init_50 rfl ?_
      refine lv_aload_n hx hb dX0_init_51 rfl (lv_at hl 0 rfl) ?_
      obtain ⟨h19, hf⟩ := hs_ck hf
      obtain ⟨h20, hf⟩ := hs_ck hf
      refine hs_getr (C := RX0) (T := TX0) (N := 5) hx hb hts kX0_init_5 hown hK.1 hP h19 (by decide) rfl 0 (by decide) (hts _ kX0_init_13) (fun _ h => h) rfl h20 dX0_init_52 ?_
      obtain ⟨g21, h23, hf⟩ := hs_bv_some hf
      refine hs_callv (va_runI (As := [.ref (B + ((hs_R (hs_new g 6 0) v0 0) - 1))]) (rest := [.ref (B + g.1), .int v2, .ref (B + ((hs_R g v0 1) - 1))]) ⟨hx, hb, hml, hown, hts⟩ (ctX7_init l B D E g.1 ((hs_R (hs_new g 6 0) v0 0) - 1) (hs_new g 6 0) _ h23) (cwI 1 hts gX0_init_X7_init rfl rfl rfl (hts _ kX0_init_8) (hts _ kX0_init_10) (hts _ kX0_init_11) rfl (by decide +kernel) ⟨Nat.le_of_ble_eq_true rfl, Nat.le_of_ble_eq_true rfl⟩) (hs_pre hP hK) rfl rfl hl.1 rfl (lv_room (Nat.le_of_ble_eq_true rfl)) dX0_init_55 ⟨(show _ ≤ (21 : Nat) by omega), (show _ ≤ (32395 : Nat) by omega)⟩) hS (fun H locs hP hS => ?_)
      refine W.widen (k := 5 + 2 * j + 2) (n := 32051 + 43 * j + 43) (by omega) (by omega) ?_
      obtain ⟨h24, hf⟩ := hs_ck hf
      obtain ⟨h25, hf⟩ := hs_ck hf
      obtain ⟨h26, hf⟩ := hs_ck hf
      refine hs_aast (t := 2) (r := (RX7, TX7, 11)) hx hb hK.1 hP hS h24 (by decide) (by decide) rfl h26 (by decide) rfl h25 dX0_init_58 (fun H locs hP hS => ?_)
      refine lv_iinc (v := (v2 + (1 : Int32))) (lv' := [(2, .int (v2 + (1 : Int32))), (0, .ref (B + v0))]) hx hb dX0_init_59 hl (k := 1) rfl (by rfl) (by decide) rfl (fun ls hl => ?_)
      refine lv_goto (tgt := 36) hx hb dX0_init_62 (by decide) ?_
      refine W.widen (k := 5 + 2 * (j + 1)) (n := 32051 + 43 * (j + 1)) (by omega) (by omega) ?_
      exact ih (j + 1) _ _ hf (by rw [hj]; exact nI_1 j) (by omega) _ _ _ hP hS (lv_sub hl [1, 0] rfl)

set_option maxHeartbeats 4000000 in
set_option maxRecDepth 100000 in
theorem ctX0_init (l : Launch) (B : Nat) (D : va_G) (E : Nat → ClassId) (v0 : Nat) (v1 : Int32) (g : hs_S) (o : hs_S) (hf : fX0_init v0 v1 g = some o) : Met l yX0_init wsX0_init rmX0_init (hs_Pc B D E g [.ref (B + v0), .int v1]) (hs_Qv B D E o) (21) (32395) (hs_F B) := by
  refine Met.ofW (cc := cX0_init) (maxL := 3) (ret := none) (by decide) rfl ?_
  intro p e s m args below meth c s₁ Bd hml hv
  obtain ⟨rfl, hP, hK⟩ := hv
  have hx := Bd.exec
  have hb := Bd.bytes
  have hr := Bd.returns
  have hts := atoms_spec (ws := wsX0_init) Bd.pre
  have hown : s.vm.findClass RX0 = some m.cls := findClass_of_methodNamed Bd.named
  have hlocks := Bd.notSynchronized
  have hin : meth.name = "<init>" := (name_of_methodNamed Bd.named Bd.method).1
  have hS : hs_Sx B s.heap s.heap [] := va_S.rf
  have hX : hs_cx cX0_init none 3 RX0 wsX0_init p s m (List.toArray [.ref (B + v0), .int v1]) meth c D E := ⟨hx, hb, hr, hml, hown, hts, hlocks, hK⟩
  have hl := lv_entry ([.ref (B + v0), .int v1]) (n := 3) (Nat.le_of_ble_eq_true rfl)
  rw [lg_entry_eq]
  generalize (lg_sl ([.ref (B + v0), .int v1]) ++ List.replicate (3 - (lg_sl ([.ref (B + v0), .int v1])).length) Slot.unset).toArray = ls at hl ⊢
  have hl : lv_has ls 3 [(0, .ref (B + v0)), (1, .int v1)] := hl
  have hP : hs_P B D E g s.heap := hP
  unfold fX0_init at hf
  refine lv_aload_n hx hb dX0_init_0 rfl (lv_at hl 0 rfl) ?_
  refine W.objInit hx hb hown (hts _ kX0_init_0) (hts _ kX0_init_1) (hts _ kX0_init_2) rfl (hl.1.trans hml.symm) rfl dX0_init_1 (Nat.le_of_ble_eq_true rfl) (Nat.le_of_ble_eq_true rfl) ?_
  refine lv_aload_n hx hb dX0_init_4 rfl (lv_at hl 0 rfl) ?_
  refine lv_bipush (v := 8) hx hb dX0_init_5 (by decide) ?_
  refine hs_newR (t := 2) (k := 102) (N := 8) (C := RX7) hx hb (by decide) rfl hown (hts _ kX0_init_3) (va_AO.use hK.2.1) rfl hK.1 hP hS (by decide) (by rfl) (by decide) (Nat.le_of_ble_eq_true rfl) (Nat.le_of_ble_eq_true rfl) dX0_init_7 (fun H hP hS => ?_)
  refine W.widen (k := 1) (n := 8) (by omega) (by omega) ?_
  obtain ⟨h1, hf⟩ := hs_ck hf
  refine hs_putr (C := RX0) (T := TX0) (N := 5) hx hb hts kX0_init_5 tyX0 tyX0_ok nmX0 hown hK.1 hP hS h1 (by decide) rfl 1 (by decide) (hts _ kX0_init_4) (fun _ h => h) (Or.inr ⟨rfl, hin, rfl⟩) (fun _ => rfl) (fun _ => rfl) rfl dX0_init_10 (fun H locs hP hS => ?_)
  refine lv_aload_n hx hb dX0_init_13 rfl (lv_at hl 0 rfl) ?_
  obtain ⟨g2, e3, hf⟩ := hs_bv_some hf
  replace e3 := Option.some.inj e3
  rw [e3] at hP
  have h4 : hs_kd g2 v0 = 0 := by rw [← e3]; exact h1
  refine hs_newc (ci := 6) (C := RX7) (T := TX7) (N := 11) hx hb hts kX0_init_6 tyX7 tyX7_ok hown (hts _ kX0_init_3) (hts _ kX0_init_7) (hts _ kX0_init_8) hK.1 hP hS (by decide) rfl hs_dfX7 (Nat.le_of_ble_eq_true rfl) (Nat.le_of_ble_eq_true rfl) dX0_init_14 (fun H hP hS => ?_)
  refine W.widen (k := 2) (n := 19) (by omega) (by omega) ?_
  refine lv_dup hx hb dX0_init_17 rfl ?_
  refine lv_iconst (v := 0) hx hb dX0_init_18 (by decide) ?_
  obtain ⟨g5, e6, hf⟩ := hs_bv_some hf
  replace e6 := Option.some.inj e6
  rw [e6] at hP
  refine hs_newI (t := 0) (k := 100) (N := 0) (atype := .int) hx hb (by decide) rfl (hts _ kX0_init_9) rfl (fun _ _ h => h) rfl hK.1 hP hS (by decide) (by rfl) (by decide) (Nat.le_of_ble_eq_true rfl) (Nat.le_of_ble_eq_true rfl) dX0_init_19 (fun H hP hS => ?_)
  refine W.widen (k := 3) (n := 19) (by omega) (by omega) ?_
  obtain ⟨g7, h9, hf⟩ := hs_bv_some hf
  refine hs_callv (va_runI (As := [.ref (B + g5.1)]) (rest := [.ref (B + g2.1), .ref (B + v0)]) ⟨hx, hb, hml, hown, hts⟩ (ctX7_init l B D E g2.1 g5.1 (hs_new g5 100 0) _ h9) (cwI 1 hts gX0_init_X7_init rfl rfl rfl (hts _ kX0_init_8) (hts _ kX0_init_10) (hts _ kX0_init_11) rfl (by decide +kernel) ⟨Nat.le_of_ble_eq_true rfl, Nat.le_of_ble_eq_true rfl⟩) (hs_pre hP hK) rfl rfl hl.1 rfl (lv_room (Nat.le_of_ble_eq_true rfl)) dX0_init_21 ⟨(Nat.le_of_ble_eq_true rfl), (Nat.le_of_ble_eq_true rfl)⟩) hS (fun H locs hP hS => ?_)
  refine W.widen (k := 4) (n := 51) (by omega) (by omega) ?_
  obtain ⟨h10, hf⟩ := hs_ck hf
  refine hs_putr (C := RX0) (T := TX0) (N := 5) hx hb hts kX0_init_5 tyX0 tyX0_ok nmX0 hown hK.1 hP hS h10 (by decide) rfl 2 (by decide) (hts _ kX0_init_12) (fun _ h => h) (Or.inr ⟨rfl, hin, rfl⟩) (fun _ => rfl) (fun _ => rfl) rfl dX0_init_24 (fun H locs hP hS => ?_)
  refine lv_aload_n hx hb dX0_init_27 rfl (lv_at hl 0 rfl) ?_
  refine lv_iload_n hx hb dX0_init_28 rfl (lv_at hl 1 rfl) ?_
  obtain ⟨g11, e12, hf⟩ := hs_bv_some hf
  replace e12 := Option.some.inj e12
  rw [e12] at hP
  have h13 : hs_kd g11 v0 = 0 := by rw [← e12]; exact h10
  obtain ⟨h14, hf⟩ := hs_ck hf
  obtain ⟨h15, hf⟩ := hs_ck hf
  refine hs_newI (t := 0) (k := 100) (N := v1.toNatClampNeg) (atype := .int) hx hb (by decide) rfl (hts _ kX0_init_9) rfl (fun _ _ h => h) rfl hK.1 hP hS h14 (by rfl) (by simp only [newarray.typeOf, componentBytes]; omega) (show _ ≤ (21 : Nat) by omega) (show _ ≤ (32395 : Nat) by omega) dX0_init_29 (fun H hP hS => ?_)
  refine W.widen (k := 5) (n := 32051) (by omega) (by omega) ?_
  obtain ⟨h16, hf⟩ := hs_ck hf
  refine hs_putr (C := RX0) (T := TX0) (N := 5) hx hb hts kX0_init_5 tyX0 tyX0_ok nmX0 hown hK.1 hP hS h16 (by decide) rfl 0 (by decide) (hts _ kX0_init_13) (fun _ h => h) (Or.inr ⟨rfl, hin, rfl⟩) (fun _ => rfl) (fun _ => rfl) rfl dX0_init_31 (fun H locs hP hS => ?_)
  refine lv_iconst (v := 0) hx hb dX0_init_34 (by decide) ?_
  refine lv_istore_n (lv' := [(2, .int (0 : Int32)), (0, .ref (B + v0)), (1, .int v1)]) hx hb dX0_init_35 rfl hl (by decide) rfl (fun ls hl => ?_)
  obtain ⟨g28, h29, hf⟩ := hs_bv_some hf
  refine W.widen (k := 5 + 2 * 0) (n := 32051 + 43 * 0) (by omega) (by omega) ?_
  refine wX0_init_36 hX (fun H locs ls hP hS hl => ?_) hs_N 0 _ _ h29 nI_0.symm (by omega) _ _ _ hP hS (lv_sub hl [1, 0] rfl)
  refine W.widen (k := 21) (n := 32395) (by omega) (by omega) ?_
  exact hs_vret hx hb hr hlocks hK hP hS hf dX0_init_65

set_option maxRecDepth 20000 in
theorem ggX8_becomeFirst_J7_fill_53178 : GoodIn wsX8_becomeFirst wsJ7_fill_53178 := goodIn_r _ [5] (by decide +kernel) (by decide +kernel)
set_option maxRecDepth 20000 in
theorem gX8_becomeFirst_J7_fill_53178 : GoodIn wsX8_becomeFirst (va_wsS RX8 16 yJ7_fill_53178 wsJ7_fill_53178) := goodIn_app (goodIn_of _ (by decide +kernel)) ggX8_becomeFirst_J7_fill_53178
set_option maxRecDepth 20000 in
theorem ggX8_becomeFirst_X9_put : GoodIn wsX8_becomeFirst wsX9_put := goodIn_r _ [9] (by decide +kernel) (by decide +kernel)
set_option maxRecDepth 20000 in
theorem gX8_becomeFirst_X9_put : GoodIn wsX8_becomeFirst (va_wsS RX8 24 yX9_put wsX9_put) := goodIn_app (goodIn_of _ (by decide +kernel)) ggX8_becomeFirst_X9_put
theorem dX8_becomeFirst_0 : decode cX8_becomeFirst 0 = .ok (.aload_n 0, 1) := by decide +kernel
theorem dX8_becomeFirst_1 : decode cX8_becomeFirst 1 = .ok (.getfield 9, 3) := by decide +kernel
theorem dX8_becomeFirst_4 : decode cX8_becomeFirst 4 = .ok (.iconst 1, 1) := by decide +kernel
theorem dX8_becomeFirst_5 : decode cX8_becomeFirst 5 = .ok (.invokestatic 16, 3) := by decide +kernel
theorem dX8_becomeFirst_8 : decode cX8_becomeFirst 8 = .ok (.aload_n 0, 1) := by decide +kernel
theorem dX8_becomeFirst_9 : decode cX8_becomeFirst 9 = .ok (.getfield 9, 3) := by decide +kernel
theorem dX8_becomeFirst_12 : decode cX8_becomeFirst 12 = .ok (.sipush 184, 3) := by decide +kernel
theorem dX8_becomeFirst_15 : decode cX8_becomeFirst 15 = .ok (.iconst 5, 1) := by decide +kernel
theorem dX8_becomeFirst_16 : decode cX8_becomeFirst 16 = .ok (.invokestatic 24, 3) := by decide +kernel
theorem dX8_becomeFirst_19 : decode cX8_becomeFirst 19 = .ok (.return_, 1) := by decide +kernel
theorem kX8_becomeFirst_0 : Cond.fieldLink RX8 9 "StepRewriter$Prices" "row" "[I" ∈ wsX8_becomeFirst := by decide +kernel
theorem kX8_becomeFirst_1 : ∀ w ∈ u_ws RX8 TX8 1, w ∈ wsX8_becomeFirst := by decide +kernel
def fX8_becomeFirst (v0 : Nat) (g : hs_S) : Option (hs_S) :=
  if hs_kd g v0 = 7 then
  if ¬ (hs_R g v0 0) = 0 then
  hs_bv (fJ7_fill_53178 ((hs_R g v0 0) - 1) (1 : Int32) g) fun g3 =>
  if hs_kd g3 v0 = 7 then
  if ¬ (hs_R g3 v0 0) = 0 then
  hs_bv (fX9_put ((hs_R g3 v0 0) - 1) (184 : Int32) (5 : Int32) g3) fun g8 =>
  some g8
  else none else none else none else none
abbrev rmX8_becomeFirst : Room := { frames := 1, cells := 0, slots := 0, locals := 23 }
set_option maxHeartbeats 4000000 in
set_option maxRecDepth 100000 in
theorem ctX8_becomeFirst (l : Launch) (B : Nat) (D : va_G) (E : Nat → ClassId) (v0 : Nat) (g : hs_S) (o : hs_S) (hf : fX8_becomeFirst v0 g = some o) : Met l yX8_becomeFirst wsX8_becomeFirst rmX8_becomeFirst (hs_Pc B D E g [.ref (B + v0)]) (hs_Qv B D E o) (0) (0) (hs_F B) := by
  refine Met.ofW (cc := cX8_becomeFirst) (maxL := 1) (ret := none) (by decide) rfl ?_
  intro p e s m args below meth c s₁ Bd hml hv
  obtain ⟨rfl, hP, hK⟩ := hv
  have hx := Bd.exec
  have hb := Bd.bytes
  have hr := Bd.returns
  have hts := atoms_spec (ws := wsX8_becomeFirst) Bd.pre
  have hown : s.vm.findClass RX8 = some m.cls := findClass_of_methodNamed Bd.named
  have hlocks := Bd.notSynchronized
  have hS : hs_Sx B s.heap s.heap [] := va_S.rf
  have hX : hs_cx cX8_becomeFirst none 1 RX8 wsX8_becomeFirst p s m (List.toArray [.ref (B + v0)]) meth c D E := ⟨hx, hb, hr, hml, hown, hts, hlocks, hK⟩
  have hl := lv_entry ([.ref (B + v0)]) (n := 1) (Nat.le_of_ble_eq_true rfl)
  rw [lg_entry_eq]
  generalize (lg_sl ([.ref (B + v0)]) ++ List.replicate (1 - (lg_sl ([.ref (B + v0)])).length) Slot.unset).toArray = ls at hl ⊢
  have hl : lv_has ls 1 [(0, .ref (B + v0))] := hl
  have hP : hs_P B D E g s.heap := hP
  unfold fX8_becomeFirst at hf
  refine lv_aload_n hx hb dX8_becomeFirst_0 rfl (lv_at hl 0 rfl) ?_
  obtain ⟨h1, hf⟩ := hs_ck hf
  obtain ⟨h2, hf⟩ := hs_ck hf
  refine hs_getr (C := RX8) (T := TX8) (N := 1) hx hb hts kX8_becomeFirst_1 hown hK.1 hP h1 (by decide) rfl 0 (by decide) (hts _ kX8_becomeFirst_0) (fun _ h => h) rfl h2 dX8_becomeFirst_1 ?_
  refine lv_iconst (v := 1) hx hb dX8_becomeFirst_4 (by decide) ?_
  obtain ⟨g3, h5, hf⟩ := hs_bv_some hf
  refine hs_callv (va_runS (As := [.ref (B + ((hs_R g v0 0) - 1)), .int (1 : Int32)]) (rest := []) ⟨hx, hb, hml, hown, hts⟩ (ctJ7_fill_53178 l B D E ((hs_R g v0 0) - 1) (1 : Int32) g _ h5) (va_cwS 2 hts gX8_becomeFirst_J7_fill_53178 rfl rfl rfl (by decide +kernel) ⟨Nat.le_of_ble_eq_true rfl, Nat.le_of_ble_eq_true rfl⟩) (hs_pre hP hK) rfl rfl hl.1 rfl (lv_room (Nat.le_of_ble_eq_true rfl)) dX8_becomeFirst_5 ⟨(Nat.le_of_ble_eq_true rfl), (Nat.le_of_ble_eq_true rfl)⟩) hS (fun H locs hP hS => ?_)
  refine lv_aload_n hx hb dX8_becomeFirst_8 rfl (lv_at hl 0 rfl) ?_
  obtain ⟨h6, hf⟩ := hs_ck hf
  obtain ⟨h7, hf⟩ := hs_ck hf
  refine hs_getr (C := RX8) (T := TX8) (N := 1) hx hb hts kX8_becomeFirst_1 hown hK.1 hP h6 (by decide) rfl 0 (by decide) (hts _ kX8_becomeFirst_0) (fun _ h => h) rfl h7 dX8_becomeFirst_9 ?_
  refine lv_sipush (v := 184) hx hb dX8_becomeFirst_12 (by decide) ?_
  refine lv_iconst (v := 5) hx hb dX8_becomeFirst_15 (by decide) ?_
  obtain ⟨g8, h10, hf⟩ := hs_bv_some hf
  refine hs_callv (va_runS (As := [.ref (B + ((hs_R g3 v0 0) - 1)), .int (184 : Int32), .int (5 : Int32)]) (rest := []) ⟨hx, hb, hml, hown, hts⟩ (ctX9_put l B D E ((hs_R g3 v0 0) - 1) (184 : Int32) (5 : Int32) g3 _ h10) (va_cwS 3 hts gX8_becomeFirst_X9_put rfl rfl rfl (by decide +kernel) ⟨Nat.le_of_ble_eq_true rfl, Nat.le_of_ble_eq_true rfl⟩) (hs_pre hP hK) rfl rfl hl.1 rfl (lv_room (Nat.le_of_ble_eq_true rfl)) dX8_becomeFirst_16 ⟨(Nat.le_of_ble_eq_true rfl), (Nat.le_of_ble_eq_true rfl)⟩) hS (fun H locs hP hS => ?_)
  exact hs_vret hx hb hr hlocks hK hP hS hf dX8_becomeFirst_19

set_option maxRecDepth 20000 in
theorem ggX8_init_X8_becomeFirst : GoodIn wsX8_init wsX8_becomeFirst := goodIn_r _ [10, 5, 11, 12, 13, 14, 15, 16, 17, 18, 19] (by decide +kernel) (by decide +kernel)
set_option maxRecDepth 20000 in
theorem gX8_init_X8_becomeFirst : GoodIn wsX8_init (wsV RX8 13 RX8 yX8_becomeFirst wsX8_becomeFirst) := goodIn_app (goodIn_of _ (by decide +kernel)) ggX8_init_X8_becomeFirst
theorem dX8_init_0 : decode cX8_init 0 = .ok (.aload_n 0, 1) := by decide +kernel
theorem dX8_init_1 : decode cX8_init 1 = .ok (.invokespecial 1, 3) := by decide +kernel
theorem dX8_init_4 : decode cX8_init 4 = .ok (.aload_n 0, 1) := by decide +kernel
theorem dX8_init_5 : decode cX8_init 5 = .ok (.sipush 256, 3) := by decide +kernel
theorem dX8_init_8 : decode cX8_init 8 = .ok (.newarray .int, 2) := by decide +kernel
theorem dX8_init_10 : decode cX8_init 10 = .ok (.putfield 9, 3) := by decide +kernel
theorem dX8_init_13 : decode cX8_init 13 = .ok (.aload_n 0, 1) := by decide +kernel
theorem dX8_init_14 : decode cX8_init 14 = .ok (.invokevirtual 13, 3) := by decide +kernel
theorem dX8_init_17 : decode cX8_init 17 = .ok (.return_, 1) := by decide +kernel
theorem kX8_init_0 : Cond.methodLink RX8 1 objectInit ∈ wsX8_init := by decide +kernel
theorem kX8_init_1 : Cond.instanceMethod objectInit ∈ wsX8_init := by decide +kernel
theorem kX8_init_2 : Cond.code objectInit ⟨#[0xb1]⟩ 1 none ∈ wsX8_init := by decide +kernel
theorem kX8_init_3 : Cond.arrayClass .int ∈ wsX8_init := by decide +kernel
theorem kX8_init_4 : Cond.fieldLink RX8 9 "StepRewriter$Prices" "row" "[I" ∈ wsX8_init := by decide +kernel
theorem kX8_init_5 : ∀ w ∈ u_ws RX8 TX8 1, w ∈ wsX8_init := by decide +kernel
def fX8_init (v0 : Nat) (g : hs_S) : Option (hs_S) :=
  if hs_kd (hs_new g 100 256) v0 = 7 then
  hs_bv (fX8_becomeFirst v0 (hs_wR (hs_new g 100 256) v0 0 g.1)) fun g2 =>
  some g2
  else none
abbrev rmX8_init : Room := { frames := 2, cells := 1, slots := 256, locals := 43 }
set_option maxHeartbeats 4000000 in
set_option maxRecDepth 100000 in
theorem ctX8_init (l : Launch) (B : Nat) (D : va_G) (E : Nat → ClassId) (v0 : Nat) (g : hs_S) (o : hs_S) (hf : fX8_init v0 g = some o) : Met l yX8_init wsX8_init rmX8_init (hs_Pc B D E g [.ref (B + v0)]) (hs_Qv B D E o) (1) (256) (hs_F B) := by
  refine Met.ofW (cc := cX8_init) (maxL := 1) (ret := none) (by decide) rfl ?_
  intro p e s m args below meth c s₁ Bd hml hv
  obtain ⟨rfl, hP, hK⟩ := hv
  have hx := Bd.exec
  have hb := Bd.bytes
  have hr := Bd.returns
  have hts := atoms_spec (ws := wsX8_init) Bd.pre
  have hown : s.vm.findClass RX8 = some m.cls := findClass_of_methodNamed Bd.named
  have hlocks := Bd.notSynchronized
  have hin : meth.name = "<init>" := (name_of_methodNamed Bd.named Bd.method).1
  have hS : hs_Sx B s.heap s.heap [] := va_S.rf
  have hX : hs_cx cX8_init none 1 RX8 wsX8_init p s m (List.toArray [.ref (B + v0)]) meth c D E := ⟨hx, hb, hr, hml, hown, hts, hlocks, hK⟩
  have hl := lv_entry ([.ref (B + v0)]) (n := 1) (Nat.le_of_ble_eq_true rfl)
  rw [lg_entry_eq]
  generalize (lg_sl ([.ref (B + v0)]) ++ List.replicate (1 - (lg_sl ([.ref (B + v0)])).length) Slot.unset).toArray = ls at hl ⊢
  have hl : lv_has ls 1 [(0, .ref (B + v0))] := hl
  have hP : hs_P B D E g s.heap := hP
  unfold fX8_init at hf
  refine lv_aload_n hx hb dX8_init_0 rfl (lv_at hl 0 rfl) ?_
  refine W.objInit hx hb hown (hts _ kX8_init_0) (hts _ kX8_init_1) (hts _ kX8_init_2) rfl (hl.1.trans hml.symm) rfl dX8_init_1 (Nat.le_of_ble_eq_true rfl) (Nat.le_of_ble_eq_true rfl) ?_
  refine lv_aload_n hx hb dX8_init_4 rfl (lv_at hl 0 rfl) ?_
  refine lv_sipush (v := 256) hx hb dX8_init_5 (by decide) ?_
  refine hs_newI (t := 0) (k := 100) (N := 256) (atype := .int) hx hb (by decide) rfl (hts _ kX8_init_3) rfl (fun _ _ h => h) rfl hK.1 hP hS (by decide) (by rfl) (by decide) (Nat.le_of_ble_eq_true rfl) (Nat.le_of_ble_eq_true rfl) dX8_init_8 (fun H hP hS => ?_)
  refine W.widen (k := 1) (n := 256) (by omega) (by omega) ?_
  obtain ⟨h1, hf⟩ := hs_ck hf
  refine hs_putr (C := RX8) (T := TX8) (N := 1) hx hb hts kX8_init_5 tyX8 tyX8_ok nmX8 hown hK.1 hP hS h1 (by decide) rfl 0 (by decide) (hts _ kX8_init_4) (fun _ h => h) (Or.inr ⟨rfl, hin, rfl⟩) (fun _ => rfl) (fun _ => rfl) rfl dX8_init_10 (fun H locs hP hS => ?_)
  refine lv_aload_n hx hb dX8_init_13 rfl (lv_at hl 0 rfl) ?_
  obtain ⟨g2, h4, hf⟩ := hs_bv_some hf
  refine hs_callv (va_runV (As := []) (rest := []) ⟨hx, hb, hml, hown, hts⟩ (ctX8_becomeFirst l B D E v0 (hs_wR (hs_new g 100 256) v0 0 g.1) _ h4) (cwV 0 hts gX8_init_X8_becomeFirst rfl rfl rfl (by decide +kernel) ⟨Nat.le_of_ble_eq_true rfl, Nat.le_of_ble_eq_true rfl⟩) (hs_preV (r := (RX8, TX8, 1)) hP hK h1 (by decide) rfl) rfl rfl hl.1 rfl (lv_room (Nat.le_of_ble_eq_true rfl)) dX8_init_14 ⟨(Nat.le_of_ble_eq_true rfl), (Nat.le_of_ble_eq_true rfl)⟩) hS (fun H locs hP hS => ?_)
  refine W.widen (k := 1) (n := 256) (by omega) (by omega) ?_
  exact hs_vret hx hb hr hlocks hK hP hS hf dX8_init_17

theorem dX1_init_0 : decode cX1_init 0 = .ok (.aload_n 0, 1) := by decide +kernel
theorem dX1_init_1 : decode cX1_init 1 = .ok (.invokespecial 3, 3) := by decide +kernel
theorem dX1_init_4 : decode cX1_init 4 = .ok (.aload_n 0, 1) := by decide +kernel
theorem dX1_init_5 : decode cX1_init 5 = .ok (.sipush 2000, 3) := by decide +kernel
theorem dX1_init_8 : decode cX1_init 8 = .ok (.newarray .int, 2) := by decide +kernel
theorem dX1_init_10 : decode cX1_init 10 = .ok (.putfield 9, 3) := by decide +kernel
theorem dX1_init_13 : decode cX1_init 13 = .ok (.aload_n 0, 1) := by decide +kernel
theorem dX1_init_14 : decode cX1_init 14 = .ok (.sipush 2000, 3) := by decide +kernel
theorem dX1_init_17 : decode cX1_init 17 = .ok (.newarray .int, 2) := by decide +kernel
theorem dX1_init_19 : decode cX1_init 19 = .ok (.putfield 15, 3) := by decide +kernel
theorem dX1_init_22 : decode cX1_init 22 = .ok (.return_, 1) := by decide +kernel
theorem kX1_init_0 : Cond.methodLink RX1 3 objectInit ∈ wsX1_init := by decide +kernel
theorem kX1_init_1 : Cond.instanceMethod objectInit ∈ wsX1_init := by decide +kernel
theorem kX1_init_2 : Cond.code objectInit ⟨#[0xb1]⟩ 1 none ∈ wsX1_init := by decide +kernel
theorem kX1_init_3 : Cond.arrayClass .int ∈ wsX1_init := by decide +kernel
theorem kX1_init_4 : Cond.fieldLink RX1 9 "StepRewriter$DepthCheck" "depths" "[I" ∈ wsX1_init := by decide +kernel
theorem kX1_init_5 : ∀ w ∈ u_ws RX1 TX1 3, w ∈ wsX1_init := by decide +kernel
theorem kX1_init_6 : Cond.fieldLink RX1 15 "StepRewriter$DepthCheck" "gone" "[I" ∈ wsX1_init := by decide +kernel
def fX1_init (v0 : Nat) (g : hs_S) : Option (hs_S) :=
  if hs_kd (hs_new g 100 2000) v0 = 1 then
  hs_bv (some (hs_wR (hs_new g 100 2000) v0 0 g.1)) fun g2 =>
  if hs_kd (hs_new g2 100 2000) v0 = 1 then
  some (hs_wR (hs_new g2 100 2000) v0 1 g2.1)
  else none else none
abbrev rmX1_init : Room := { frames := 1, cells := 2, slots := 4000, locals := 20 }
set_option maxHeartbeats 4000000 in
set_option maxRecDepth 100000 in
theorem ctX1_init (l : Launch) (B : Nat) (D : va_G) (E : Nat → ClassId) (v0 : Nat) (g : hs_S) (o : hs_S) (hf : fX1_init v0 g = some o) : Met l yX1_init wsX1_init rmX1_init (hs_Pc B D E g [.ref (B + v0)]) (hs_Qv B D E o) (2) (4000) (hs_F B) := by
  refine Met.ofW (cc := cX1_init) (maxL := 1) (ret := none) (by decide) rfl ?_
  intro p e s m args below meth c s₁ Bd hml hv
  obtain ⟨rfl, hP, hK⟩ := hv
  have hx := Bd.exec
  have hb := Bd.bytes
  have hr := Bd.returns
  have hts := atoms_spec (ws := wsX1_init) Bd.pre
  have hown : s.vm.findClass RX1 = some m.cls := findClass_of_methodNamed Bd.named
  have hlocks := Bd.notSynchronized
  have hin : meth.name = "<init>" := (name_of_methodNamed Bd.named Bd.method).1
  have hS : hs_Sx B s.heap s.heap [] := va_S.rf
  have hX : hs_cx cX1_init none 1 RX1 wsX1_init p s m (List.toArray [.ref (B + v0)]) meth c D E := ⟨hx, hb, hr, hml, hown, hts, hlocks, hK⟩
  have hl := lv_entry ([.ref (B + v0)]) (n := 1) (Nat.le_of_ble_eq_true rfl)
  rw [lg_entry_eq]
  generalize (lg_sl ([.ref (B + v0)]) ++ List.replicate (1 - (lg_sl ([.ref (B + v0)])).length) Slot.unset).toArray = ls at hl ⊢
  have hl : lv_has ls 1 [(0, .ref (B + v0))] := hl
  have hP : hs_P B D E g s.heap := hP
  unfold fX1_init at hf
  refine lv_aload_n hx hb dX1_init_0 rfl (lv_at hl 0 rfl) ?_
  refine W.objInit hx hb hown (hts _ kX1_init_0) (hts _ kX1_init_1) (hts _ kX1_init_2) rfl (hl.1.trans hml.symm) rfl dX1_init_1 (Nat.le_of_ble_eq_true rfl) (Nat.le_of_ble_eq_true rfl) ?_
  refine lv_aload_n hx hb dX1_init_4 rfl (lv_at hl 0 rfl) ?_
  refine lv_sipush (v := 2000) hx hb dX1_init_5 (by decide) ?_
  refine hs_newI (t := 0) (k := 100) (N := 2000) (atype := .int) hx hb (by decide) rfl (hts _ kX1_init_3) rfl (fun _ _ h => h) rfl hK.1 hP hS (by decide) (by rfl) (by decide) (Nat.le_of_ble_eq_true rfl) (Nat.le_of_ble_eq_true rfl) dX1_init_8 (fun H hP hS => ?_)
  refine W.widen (k := 1) (n := 2000) (by omega) (by omega) ?_
  obtain ⟨h1, hf⟩ := hs_ck hf
  refine hs_putr (C := RX1) (T := TX1) (N := 3) hx hb hts kX1_init_5 tyX1 tyX1_ok nmX1 hown hK.1 hP hS h1 (by decide) rfl 0 (by decide) (hts _ kX1_init_4) (fun _ h => h) (Or.inr ⟨rfl, hin, rfl⟩) (fun _ => rfl) (fun _ => rfl) rfl dX1_init_10 (fun H locs hP hS => ?_)
  refine lv_aload_n hx hb dX1_init_13 rfl (lv_at hl 0 rfl) ?_
  refine lv_sipush (v := 2000) hx hb dX1_init_14 (by decide) ?_
  obtain ⟨g2, e3, hf⟩ := hs_bv_some hf
  replace e3 := Option.some.inj e3
  rw [e3] at hP
  have h4 : hs_kd g2 v0 = 1 := by rw [← e3]; exact h1
  refine hs_newI (t := 0) (k := 100) (N := 2000) (atype := .int) hx hb (by decide) rfl (hts _ kX1_init_3) rfl (fun _ _ h => h) rfl hK.1 hP hS (by decide) (by rfl) (by decide) (Nat.le_of_ble_eq_true rfl) (Nat.le_of_ble_eq_true rfl) dX1_init_17 (fun H hP hS => ?_)
  refine W.widen (k := 2) (n := 4000) (by omega) (by omega) ?_
  obtain ⟨h5, hf⟩ := hs_ck hf
  refine hs_putr (C := RX1) (T := TX1) (N := 3) hx hb hts kX1_init_5 tyX1 tyX1_ok nmX1 hown hK.1 hP hS h5 (by decide) rfl 1 (by decide) (hts _ kX1_init_6) (fun _ h => h) (Or.inr ⟨rfl, hin, rfl⟩) (fun _ => rfl) (fun _ => rfl) rfl dX1_init_19 (fun H locs hP hS => ?_)
  refine W.widen (k := 2) (n := 4000) (by omega) (by omega) ?_
  exact hs_vret hx hb hr hlocks hK hP hS hf dX1_init_22

set_option maxRecDepth 20000 in
theorem ggX2_init_X1_init : GoodIn wsX2_init wsX1_init := goodIn_r _ [9, 10, 2, 3, 11, 12, 13, 14, 15, 16] (by decide +kernel) (by decide +kernel)
set_option maxRecDepth 20000 in
theorem gX2_init_X1_init_n11 : GoodIn wsX2_init (wsX1_init) := ggX2_init_X1_init
theorem dX2_init_0 : decode cX2_init 0 = .ok (.aload_n 0, 1) := by decide +kernel
theorem dX2_init_1 : decode cX2_init 1 = .ok (.invokespecial 3, 3) := by decide +kernel
theorem dX2_init_4 : decode cX2_init 4 = .ok (.aload_n 0, 1) := by decide +kernel
theorem dX2_init_5 : decode cX2_init 5 = .ok (.new 9, 3) := by decide +kernel
theorem dX2_init_8 : decode cX2_init 8 = .ok (.dup, 1) := by decide +kernel
theorem dX2_init_9 : decode cX2_init 9 = .ok (.invokespecial 11, 3) := by decide +kernel
theorem dX2_init_12 : decode cX2_init 12 = .ok (.putfield 12, 3) := by decide +kernel
theorem dX2_init_15 : decode cX2_init 15 = .ok (.return_, 1) := by decide +kernel
theorem kX2_init_0 : Cond.methodLink RX2 3 objectInit ∈ wsX2_init := by decide +kernel
theorem kX2_init_1 : Cond.instanceMethod objectInit ∈ wsX2_init := by decide +kernel
theorem kX2_init_2 : Cond.code objectInit ⟨#[0xb1]⟩ 1 none ∈ wsX2_init := by decide +kernel
theorem kX2_init_3 : ∀ w ∈ u_ws RX1 TX1 3, w ∈ wsX2_init := by decide +kernel
theorem kX2_init_4 : Cond.classLink RX2 9 RX1 ∈ wsX2_init := by decide +kernel
theorem kX2_init_5 : Cond.instantiable RX1 3 ∈ wsX2_init := by decide +kernel
theorem kX2_init_6 : Cond.initialized RX1 ∈ wsX2_init := by decide +kernel
theorem kX2_init_7 : Cond.instanceMethod yX1_init ∈ wsX2_init := by decide +kernel
theorem kX2_init_8 : Cond.fieldLink RX2 12 "StepRewriter$FormCheck" "depths" "LStepRewriter$DepthCheck;" ∈ wsX2_init := by decide +kernel
theorem kX2_init_9 : ∀ w ∈ u_ws RX2 TX2 1, w ∈ wsX2_init := by decide +kernel
def fX2_init (v0 : Nat) (g : hs_S) : Option (hs_S) :=
  hs_bv (fX1_init g.1 (hs_new g 1 0)) fun g1 =>
  if hs_kd g1 v0 = 2 then
  some (hs_wR g1 v0 0 g.1)
  else none
abbrev rmX2_init : Room := { frames := 2, cells := 3, slots := 4003, locals := 40 }
set_option maxHeartbeats 4000000 in
set_option maxRecDepth 100000 in
theorem ctX2_init (l : Launch) (B : Nat) (D : va_G) (E : Nat → ClassId) (v0 : Nat) (g : hs_S) (o : hs_S) (hf : fX2_init v0 g = some o) : Met l yX2_init wsX2_init rmX2_init (hs_Pc B D E g [.ref (B + v0)]) (hs_Qv B D E o) (3) (4003) (hs_F B) := by
  refine Met.ofW (cc := cX2_init) (maxL := 1) (ret := none) (by decide) rfl ?_
  intro p e s m args below meth c s₁ Bd hml hv
  obtain ⟨rfl, hP, hK⟩ := hv
  have hx := Bd.exec
  have hb := Bd.bytes
  have hr := Bd.returns
  have hts := atoms_spec (ws := wsX2_init) Bd.pre
  have hown : s.vm.findClass RX2 = some m.cls := findClass_of_methodNamed Bd.named
  have hlocks := Bd.notSynchronized
  have hin : meth.name = "<init>" := (name_of_methodNamed Bd.named Bd.method).1
  have hS : hs_Sx B s.heap s.heap [] := va_S.rf
  have hX : hs_cx cX2_init none 1 RX2 wsX2_init p s m (List.toArray [.ref (B + v0)]) meth c D E := ⟨hx, hb, hr, hml, hown, hts, hlocks, hK⟩
  have hl := lv_entry ([.ref (B + v0)]) (n := 1) (Nat.le_of_ble_eq_true rfl)
  rw [lg_entry_eq]
  generalize (lg_sl ([.ref (B + v0)]) ++ List.replicate (1 - (lg_sl ([.ref (B + v0)])).length) Slot.unset).toArray = ls at hl ⊢
  have hl : lv_has ls 1 [(0, .ref (B + v0))] := hl
  have hP : hs_P B D E g s.heap := hP
  unfold fX2_init at hf
  refine lv_aload_n hx hb dX2_init_0 rfl (lv_at hl 0 rfl) ?_
  refine W.objInit hx hb hown (hts _ kX2_init_0) (hts _ kX2_init_1) (hts _ kX2_init_2) rfl (hl.1.trans hml.symm) rfl dX2_init_1 (Nat.le_of_ble_eq_true rfl) (Nat.le_of_ble_eq_true rfl) ?_
  refine lv_aload_n hx hb dX2_init_4 rfl (lv_at hl 0 rfl) ?_
  refine hs_newc (ci := 1) (C := RX1) (T := TX1) (N := 3) hx hb hts kX2_init_3 tyX1 tyX1_ok hown (hts _ kX2_init_4) (hts _ kX2_init_5) (hts _ kX2_init_6) hK.1 hP hS (by decide) rfl hs_dfX1 (Nat.le_of_ble_eq_true rfl) (Nat.le_of_ble_eq_true rfl) dX2_init_5 (fun H hP hS => ?_)
  refine W.widen (k := 1) (n := 3) (by omega) (by omega) ?_
  refine lv_dup hx hb dX2_init_8 rfl ?_
  obtain ⟨g1, h3, hf⟩ := hs_bv_some hf
  refine hs_callv (va_runIN (As := []) (rest := [.ref (B + g.1), .ref (B + v0)]) ⟨hx, hb, hml, hown, hts⟩ (ctX1_init l B D E g.1 (hs_new g 1 0) _ h3) ⟨va_cnB 0 hts gX2_init_X1_init_n11 rfl rfl rfl hK.2.2.2.1 (hts _ kX2_init_6) (by decide +kernel) ⟨Nat.le_of_ble_eq_true rfl, Nat.le_of_ble_eq_true rfl⟩, rfl, (hts _ kX2_init_7)⟩ (hs_pre hP hK) rfl rfl hl.1 rfl (lv_room (Nat.le_of_ble_eq_true rfl)) dX2_init_9 ⟨(Nat.le_of_ble_eq_true rfl), (Nat.le_of_ble_eq_true rfl)⟩) hS (fun H locs hP hS => ?_)
  refine W.widen (k := 3) (n := 4003) (by omega) (by omega) ?_
  obtain ⟨h4, hf⟩ := hs_ck hf
  refine hs_putr (C := RX2) (T := TX2) (N := 1) hx hb hts kX2_init_9 tyX2 tyX2_ok nmX2 hown hK.1 hP hS h4 (by decide) rfl 0 (by decide) (hts _ kX2_init_8) (fun _ h => h) (Or.inr ⟨rfl, hin, rfl⟩) (fun _ => rfl) (fun _ => rfl) rfl dX2_init_12 (fun H locs hP hS => ?_)
  refine W.widen (k := 3) (n := 4003) (by omega) (by omega) ?_
  exact hs_vret hx hb hr hlocks hK hP hS hf dX2_init_15

theorem dX5_init_0 : decode cX5_init 0 = .ok (.aload_n 0, 1) := by decide +kernel
theorem dX5_init_1 : decode cX5_init 1 = .ok (.invokespecial 3, 3) := by decide +kernel
theorem dX5_init_4 : decode cX5_init 4 = .ok (.aload_n 0, 1) := by decide +kernel
theorem dX5_init_5 : decode cX5_init 5 = .ok (.sipush 2000, 3) := by decide +kernel
theorem dX5_init_8 : decode cX5_init 8 = .ok (.newarray .int, 2) := by decide +kernel
theorem dX5_init_10 : decode cX5_init 10 = .ok (.putfield 9, 3) := by decide +kernel
theorem dX5_init_13 : decode cX5_init 13 = .ok (.aload_n 0, 1) := by decide +kernel
theorem dX5_init_14 : decode cX5_init 14 = .ok (.sipush 2001, 3) := by decide +kernel
theorem dX5_init_17 : decode cX5_init 17 = .ok (.newarray .int, 2) := by decide +kernel
theorem dX5_init_19 : decode cX5_init 19 = .ok (.putfield 15, 3) := by decide +kernel
theorem dX5_init_22 : decode cX5_init 22 = .ok (.aload_n 0, 1) := by decide +kernel
theorem dX5_init_23 : decode cX5_init 23 = .ok (.sipush 2000, 3) := by decide +kernel
theorem dX5_init_26 : decode cX5_init 26 = .ok (.newarray .int, 2) := by decide +kernel
theorem dX5_init_28 : decode cX5_init 28 = .ok (.putfield 18, 3) := by decide +kernel
theorem dX5_init_31 : decode cX5_init 31 = .ok (.aload_n 0, 1) := by decide +kernel
theorem dX5_init_32 : decode cX5_init 32 = .ok (.sipush 2000, 3) := by decide +kernel
theorem dX5_init_35 : decode cX5_init 35 = .ok (.newarray .int, 2) := by decide +kernel
theorem dX5_init_37 : decode cX5_init 37 = .ok (.putfield 21, 3) := by decide +kernel
theorem dX5_init_40 : decode cX5_init 40 = .ok (.return_, 1) := by decide +kernel
theorem kX5_init_0 : Cond.methodLink RX5 3 objectInit ∈ wsX5_init := by decide +kernel
theorem kX5_init_1 : Cond.instanceMethod objectInit ∈ wsX5_init := by decide +kernel
theorem kX5_init_2 : Cond.code objectInit ⟨#[0xb1]⟩ 1 none ∈ wsX5_init := by decide +kernel
theorem kX5_init_3 : Cond.arrayClass .int ∈ wsX5_init := by decide +kernel
theorem kX5_init_4 : Cond.fieldLink RX5 9 "StepRewriter$Layout" "sums" "[I" ∈ wsX5_init := by decide +kernel
theorem kX5_init_5 : ∀ w ∈ u_ws RX5 TX5 5, w ∈ wsX5_init := by decide +kernel
theorem kX5_init_6 : Cond.fieldLink RX5 15 "StepRewriter$Layout" "places" "[I" ∈ wsX5_init := by decide +kernel
theorem kX5_init_7 : Cond.fieldLink RX5 18 "StepRewriter$Layout" "ways" "[I" ∈ wsX5_init := by decide +kernel
theorem kX5_init_8 : Cond.fieldLink RX5 21 "StepRewriter$Layout" "longs" "[I" ∈ wsX5_init := by decide +kernel
def fX5_init (v0 : Nat) (g : hs_S) : Option (hs_S) :=
  if hs_kd (hs_new g 100 2000) v0 = 4 then
  hs_bv (some (hs_wR (hs_new g 100 2000) v0 0 g.1)) fun g2 =>
  if hs_kd (hs_new g2 100 2001) v0 = 4 then
  hs_bv (some (hs_wR (hs_new g2 100 2001) v0 1 g2.1)) fun g6 =>
  if hs_kd (hs_new g6 100 2000) v0 = 4 then
  hs_bv (some (hs_wR (hs_new g6 100 2000) v0 2 g6.1)) fun g10 =>
  if hs_kd (hs_new g10 100 2000) v0 = 4 then
  some (hs_wR (hs_new g10 100 2000) v0 3 g10.1)
  else none else none else none else none
abbrev rmX5_init : Room := { frames := 1, cells := 4, slots := 8001, locals := 20 }
set_option maxHeartbeats 4000000 in
set_option maxRecDepth 100000 in
theorem ctX5_init (l : Launch) (B : Nat) (D : va_G) (E : Nat → ClassId) (v0 : Nat) (g : hs_S) (o : hs_S) (hf : fX5_init v0 g = some o) : Met l yX5_init wsX5_init rmX5_init (hs_Pc B D E g [.ref (B + v0)]) (hs_Qv B D E o) (4) (8001) (hs_F B) := by
  refine Met.ofW (cc := cX5_init) (maxL := 1) (ret := none) (by decide) rfl ?_
  intro p e s m args below meth c s₁ Bd hml hv
  obtain ⟨rfl, hP, hK⟩ := hv
  have hx := Bd.exec
  have hb := Bd.bytes
  have hr := Bd.returns
  have hts := atoms_spec (ws := wsX5_init) Bd.pre
  have hown : s.vm.findClass RX5 = some m.cls := findClass_of_methodNamed Bd.named
  have hlocks := Bd.notSynchronized
  have hin : meth.name = "<init>" := (name_of_methodNamed Bd.named Bd.method).1
  have hS : hs_Sx B s.heap s.heap [] := va_S.rf
  have hX : hs_cx cX5_init none 1 RX5 wsX5_init p s m (List.toArray [.ref (B + v0)]) meth c D E := ⟨hx, hb, hr, hml, hown, hts, hlocks, hK⟩
  have hl := lv_entry ([.ref (B + v0)]) (n := 1) (Nat.le_of_ble_eq_true rfl)
  rw [lg_entry_eq]
  generalize (lg_sl ([.ref (B + v0)]) ++ List.replicate (1 - (lg_sl ([.ref (B + v0)])).length) Slot.unset).toArray = ls at hl ⊢
  have hl : lv_has ls 1 [(0, .ref (B + v0))] := hl
  have hP : hs_P B D E g s.heap := hP
  unfold fX5_init at hf
  refine lv_aload_n hx hb dX5_init_0 rfl (lv_at hl 0 rfl) ?_
  refine W.objInit hx hb hown (hts _ kX5_init_0) (hts _ kX5_init_1) (hts _ kX5_init_2) rfl (hl.1.trans hml.symm) rfl dX5_init_1 (Nat.le_of_ble_eq_true rfl) (Nat.le_of_ble_eq_true rfl) ?_
  refine lv_aload_n hx hb dX5_init_4 rfl (lv_at hl 0 rfl) ?_
  refine lv_sipush (v := 2000) hx hb dX5_init_5 (by decide) ?_
  refine hs_newI (t := 0) (k := 100) (N := 2000) (atype := .int) hx hb (by decide) rfl (hts _ kX5_init_3) rfl (fun _ _ h => h) rfl hK.1 hP hS (by decide) (by rfl) (by decide) (Nat.le_of_ble_eq_true rfl) (Nat.le_of_ble_eq_true rfl) dX5_init_8 (fun H hP hS => ?_)
  refine W.widen (k := 1) (n := 2000) (by omega) (by omega) ?_
  obtain ⟨h1, hf⟩ := hs_ck hf
  refine hs_putr (C := RX5) (T := TX5) (N := 5) hx hb hts kX5_init_5 tyX5 tyX5_ok nmX5 hown hK.1 hP hS h1 (by decide) rfl 0 (by decide) (hts _ kX5_init_4) (fun _ h => h) (Or.inr ⟨rfl, hin, rfl⟩) (fun _ => rfl) (fun _ => rfl) rfl dX5_init_10 (fun H locs hP hS => ?_)
  refine lv_aload_n hx hb dX5_init_13 rfl (lv_at hl 0 rfl) ?_
  refine lv_sipush (v := 2001) hx hb dX5_init_14 (by decide) ?_
  obtain ⟨g2, e3, hf⟩ := hs_bv_some hf
  replace e3 := Option.some.inj e3
  rw [e3] at hP
  have h4 : hs_kd g2 v0 = 4 := by rw [← e3]; exact h1
  refine hs_newI (t := 0) (k := 100) (N := 2001) (atype := .int) hx hb (by decide) rfl (hts _ kX5_init_3) rfl (fun _ _ h => h) rfl hK.1 hP hS (by decide) (by rfl) (by decide) (Nat.le_of_ble_eq_true rfl) (Nat.le_of_ble_eq_true rfl) dX5_init_17 (fun H hP hS => ?_)
  refine W.widen (k := 2) (n := 4001) (by omega) (by omega) ?_
  obtain ⟨h5, hf⟩ := hs_ck hf
  refine hs_putr (C := RX5) (T := TX5) (N := 5) hx hb hts kX5_init_5 tyX5 tyX5_ok nmX5 hown hK.1 hP hS h5 (by decide) rfl 1 (by decide) (hts _ kX5_init_6) (fun _ h => h) (Or.inr ⟨rfl, hin, rfl⟩) (fun _ => rfl) (fun _ => rfl) rfl dX5_init_19 (fun H locs hP hS => ?_)
  refine lv_aload_n hx hb dX5_init_22 rfl (lv_at hl 0 rfl) ?_
  refine lv_sipush (v := 2000) hx hb dX5_init_23 (by decide) ?_
  obtain ⟨g6, e7, hf⟩ := hs_bv_some hf
  replace e7 := Option.some.inj e7
  rw [e7] at hP
  have h8 : hs_kd g6 v0 = 4 := by rw [← e7]; exact h5
  refine hs_newI (t := 0) (k := 100) (N := 2000) (atype := .int) hx hb (by decide) rfl (hts _ kX5_init_3) rfl (fun _ _ h => h) rfl hK.1 hP hS (by decide) (by rfl) (by decide) (Nat.le_of_ble_eq_true rfl) (Nat.le_of_ble_eq_true rfl) dX5_init_26 (fun H hP hS => ?_)
  refine W.widen (k := 3) (n := 6001) (by omega) (by omega) ?_
  obtain ⟨h9, hf⟩ := hs_ck hf
  refine hs_putr (C := RX5) (T := TX5) (N := 5) hx hb hts kX5_init_5 tyX5 tyX5_ok nmX5 hown hK.1 hP hS h9 (by decide) rfl 2 (by decide) (hts _ kX5_init_7) (fun _ h => h) (Or.inr ⟨rfl, hin, rfl⟩) (fun _ => rfl) (fun _ => rfl) rfl dX5_init_28 (fun H locs hP hS => ?_)
  refine lv_aload_n hx hb dX5_init_31 rfl (lv_at hl 0 rfl) ?_
  refine lv_sipush (v := 2000) hx hb dX5_init_32 (by decide) ?_
  obtain ⟨g10, e11, hf⟩ := hs_bv_some hf
  replace e11 := Option.some.inj e11
  rw [e11] at hP
  have h12 : hs_kd g10 v0 = 4 := by rw [← e11]; exact h9
  refine hs_newI (t := 0) (k := 100) (N := 2000) (atype := .int) hx hb (by decide) rfl (hts _ kX5_init_3) rfl (fun _ _ h => h) rfl hK.1 hP hS (by decide) (by rfl) (by decide) (Nat.le_of_ble_eq_true rfl) (Nat.le_of_ble_eq_true rfl) dX5_init_35 (fun H hP hS => ?_)
  refine W.widen (k := 4) (n := 8001) (by omega) (by omega) ?_
  obtain ⟨h13, hf⟩ := hs_ck hf
  refine hs_putr (C := RX5) (T := TX5) (N := 5) hx hb hts kX5_init_5 tyX5 tyX5_ok nmX5 hown hK.1 hP hS h13 (by decide) rfl 3 (by decide) (hts _ kX5_init_8) (fun _ h => h) (Or.inr ⟨rfl, hin, rfl⟩) (fun _ => rfl) (fun _ => rfl) rfl dX5_init_37 (fun H locs hP hS => ?_)
  refine W.widen (k := 4) (n := 8001) (by omega) (by omega) ?_
  exact hs_vret hx hb hr hlocks hK hP hS hf dX5_init_40

theorem dX10_init_0 : decode cX10_init 0 = .ok (.aload_n 0, 1) := by decide +kernel
theorem dX10_init_1 : decode cX10_init 1 = .ok (.invokespecial 3, 3) := by decide +kernel
theorem dX10_init_4 : decode cX10_init 4 = .ok (.aload_n 0, 1) := by decide +kernel
theorem dX10_init_5 : decode cX10_init 5 = .ok (.iconst 4, 1) := by decide +kernel
theorem dX10_init_6 : decode cX10_init 6 = .ok (.newarray .int, 2) := by decide +kernel
theorem dX10_init_8 : decode cX10_init 8 = .ok (.putfield 9, 3) := by decide +kernel
theorem dX10_init_11 : decode cX10_init 11 = .ok (.aload_n 0, 1) := by decide +kernel
theorem dX10_init_12 : decode cX10_init 12 = .ok (.sipush 4000, 3) := by decide +kernel
theorem dX10_init_15 : decode cX10_init 15 = .ok (.newarray .int, 2) := by decide +kernel
theorem dX10_init_17 : decode cX10_init 17 = .ok (.putfield 15, 3) := by decide +kernel
theorem dX10_init_20 : decode cX10_init 20 = .ok (.return_, 1) := by decide +kernel
theorem kX10_init_0 : Cond.methodLink RX10 3 objectInit ∈ wsX10_init := by decide +kernel
theorem kX10_init_1 : Cond.instanceMethod objectInit ∈ wsX10_init := by decide +kernel
theorem kX10_init_2 : Cond.code objectInit ⟨#[0xb1]⟩ 1 none ∈ wsX10_init := by decide +kernel
theorem kX10_init_3 : Cond.arrayClass .int ∈ wsX10_init := by decide +kernel
theorem kX10_init_4 : Cond.fieldLink RX10 9 "StepRewriter$RunArrays" "sizes" "[I" ∈ wsX10_init := by decide +kernel
theorem kX10_init_5 : ∀ w ∈ u_ws RX10 TX10 2, w ∈ wsX10_init := by decide +kernel
theorem kX10_init_6 : Cond.fieldLink RX10 15 "StepRewriter$RunArrays" "elements" "[I" ∈ wsX10_init := by decide +kernel
def fX10_init (v0 : Nat) (g : hs_S) : Option (hs_S) :=
  if hs_kd (hs_new g 100 4) v0 = 8 then
  hs_bv (some (hs_wR (hs_new g 100 4) v0 0 g.1)) fun g2 =>
  if hs_kd (hs_new g2 100 4000) v0 = 8 then
  some (hs_wR (hs_new g2 100 4000) v0 1 g2.1)
  else none else none
abbrev rmX10_init : Room := { frames := 1, cells := 2, slots := 4004, locals := 20 }
set_option maxHeartbeats 4000000 in
set_option maxRecDepth 100000 in
theorem ctX10_init (l : Launch) (B : Nat) (D : va_G) (E : Nat → ClassId) (v0 : Nat) (g : hs_S) (o : hs_S) (hf : fX10_init v0 g = some o) : Met l yX10_init wsX10_init rmX10_init (hs_Pc B D E g [.ref (B + v0)]) (hs_Qv B D E o) (2) (4004) (hs_F B) := by
  refine Met.ofW (cc := cX10_init) (maxL := 1) (ret := none) (by decide) rfl ?_
  intro p e s m args below meth c s₁ Bd hml hv
  obtain ⟨rfl, hP, hK⟩ := hv
  have hx := Bd.exec
  have hb := Bd.bytes
  have hr := Bd.returns
  have hts := atoms_spec (ws := wsX10_init) Bd.pre
  have hown : s.vm.findClass RX10 = some m.cls := findClass_of_methodNamed Bd.named
  have hlocks := Bd.notSynchronized
  have hin : meth.name = "<init>" := (name_of_methodNamed Bd.named Bd.method).1
  have hS : hs_Sx B s.heap s.heap [] := va_S.rf
  have hX : hs_cx cX10_init none 1 RX10 wsX10_init p s m (List.toArray [.ref (B + v0)]) meth c D E := ⟨hx, hb, hr, hml, hown, hts, hlocks, hK⟩
  have hl := lv_entry ([.ref (B + v0)]) (n := 1) (Nat.le_of_ble_eq_true rfl)
  rw [lg_entry_eq]
  generalize (lg_sl ([.ref (B + v0)]) ++ List.replicate (1 - (lg_sl ([.ref (B + v0)])).length) Slot.unset).toArray = ls at hl ⊢
  have hl : lv_has ls 1 [(0, .ref (B + v0))] := hl
  have hP : hs_P B D E g s.heap := hP
  unfold fX10_init at hf
  refine lv_aload_n hx hb dX10_init_0 rfl (lv_at hl 0 rfl) ?_
  refine W.objInit hx hb hown (hts _ kX10_init_0) (hts _ kX10_init_1) (hts _ kX10_init_2) rfl (hl.1.trans hml.symm) rfl dX10_init_1 (Nat.le_of_ble_eq_true rfl) (Nat.le_of_ble_eq_true rfl) ?_
  refine lv_aload_n hx hb dX10_init_4 rfl (lv_at hl 0 rfl) ?_
  refine lv_iconst (v := 4) hx hb dX10_init_5 (by decide) ?_
  refine hs_newI (t := 0) (k := 100) (N := 4) (atype := .int) hx hb (by decide) rfl (hts _ kX10_init_3) rfl (fun _ _ h => h) rfl hK.1 hP hS (by decide) (by rfl) (by decide) (Nat.le_of_ble_eq_true rfl) (Nat.le_of_ble_eq_true rfl) dX10_init_6 (fun H hP hS => ?_)
  refine W.widen (k := 1) (n := 4) (by omega) (by omega) ?_
  obtain ⟨h1, hf⟩ := hs_ck hf
  refine hs_putr (C := RX10) (T := TX10) (N := 2) hx hb hts kX10_init_5 tyX10 tyX10_ok nmX10 hown hK.1 hP hS h1 (by decide) rfl 0 (by decide) (hts _ kX10_init_4) (fun _ h => h) (Or.inr ⟨rfl, hin, rfl⟩) (fun _ => rfl) (fun _ => rfl) rfl dX10_init_8 (fun H locs hP hS => ?_)
  refine lv_aload_n hx hb dX10_init_11 rfl (lv_at hl 0 rfl) ?_
  refine lv_sipush (v := 4000) hx hb dX10_init_12 (by decide) ?_
  obtain ⟨g2, e3, hf⟩ := hs_bv_some hf
  replace e3 := Option.some.inj e3
  rw [e3] at hP
  have h4 : hs_kd g2 v0 = 8 := by rw [← e3]; exact h1
  refine hs_newI (t := 0) (k := 100) (N := 4000) (atype := .int) hx hb (by decide) rfl (hts _ kX10_init_3) rfl (fun _ _ h => h) rfl hK.1 hP hS (by decide) (by rfl) (by decide) (Nat.le_of_ble_eq_true rfl) (Nat.le_of_ble_eq_true rfl) dX10_init_15 (fun H hP hS => ?_)
  refine W.widen (k := 2) (n := 4004) (by omega) (by omega) ?_
  obtain ⟨h5, hf⟩ := hs_ck hf
  refine hs_putr (C := RX10) (T := TX10) (N := 2) hx hb hts kX10_init_5 tyX10 tyX10_ok nmX10 hown hK.1 hP hS h5 (by decide) rfl 1 (by decide) (hts _ kX10_init_6) (fun _ h => h) (Or.inr ⟨rfl, hin, rfl⟩) (fun _ => rfl) (fun _ => rfl) rfl dX10_init_17 (fun H locs hP hS => ?_)
  refine W.widen (k := 2) (n := 4004) (by omega) (by omega) ?_
  exact hs_vret hx hb hr hlocks hK hP hS hf dX10_init_20

theorem dX3_init_0 : decode cX3_init 0 = .ok (.aload_n 0, 1) := by decide +kernel
theorem dX3_init_1 : decode cX3_init 1 = .ok (.invokespecial 3, 3) := by decide +kernel
theorem dX3_init_4 : decode cX3_init 4 = .ok (.aload_n 0, 1) := by decide +kernel
theorem dX3_init_5 : decode cX3_init 5 = .ok (.bipush 20, 2) := by decide +kernel
theorem dX3_init_7 : decode cX3_init 7 = .ok (.newarray .int, 2) := by decide +kernel
theorem dX3_init_9 : decode cX3_init 9 = .ok (.putfield 9, 3) := by decide +kernel
theorem dX3_init_12 : decode cX3_init 12 = .ok (.aload_n 0, 1) := by decide +kernel
theorem dX3_init_13 : decode cX3_init 13 = .ok (.bipush 20, 2) := by decide +kernel
theorem dX3_init_15 : decode cX3_init 15 = .ok (.newarray .int, 2) := by decide +kernel
theorem dX3_init_17 : decode cX3_init 17 = .ok (.putfield 15, 3) := by decide +kernel
theorem dX3_init_20 : decode cX3_init 20 = .ok (.aload_n 0, 1) := by decide +kernel
theorem dX3_init_21 : decode cX3_init 21 = .ok (.aload_n 1, 1) := by decide +kernel
theorem dX3_init_22 : decode cX3_init 22 = .ok (.putfield 18, 3) := by decide +kernel
theorem dX3_init_25 : decode cX3_init 25 = .ok (.return_, 1) := by decide +kernel
theorem kX3_init_0 : Cond.methodLink RX3 3 objectInit ∈ wsX3_init := by decide +kernel
theorem kX3_init_1 : Cond.instanceMethod objectInit ∈ wsX3_init := by decide +kernel
theorem kX3_init_2 : Cond.code objectInit ⟨#[0xb1]⟩ 1 none ∈ wsX3_init := by decide +kernel
theorem kX3_init_3 : Cond.arrayClass .int ∈ wsX3_init := by decide +kernel
theorem kX3_init_4 : Cond.fieldLink RX3 9 "StepRewriter$Frame" "locals" "[I" ∈ wsX3_init := by decide +kernel
theorem kX3_init_5 : ∀ w ∈ u_ws RX3 TX3 5, w ∈ wsX3_init := by decide +kernel
theorem kX3_init_6 : Cond.fieldLink RX3 15 "StepRewriter$Frame" "stack" "[I" ∈ wsX3_init := by decide +kernel
theorem kX3_init_7 : Cond.fieldLink RX3 18 "StepRewriter$Frame" "method" "LStepRewriter$Method;" ∈ wsX3_init := by decide +kernel
def fX3_init (v0 : Nat) (v1 : Nat) (g : hs_S) : Option (hs_S) :=
  if hs_kd (hs_new g 100 20) v0 = 3 then
  hs_bv (some (hs_wR (hs_new g 100 20) v0 0 g.1)) fun g2 =>
  if hs_kd (hs_new g2 100 20) v0 = 3 then
  some (hs_wR (hs_wR (hs_new g2 100 20) v0 1 g2.1) v0 3 v1)
  else none else none
abbrev rmX3_init : Room := { frames := 1, cells := 2, slots := 40, locals := 20 }
set_option maxHeartbeats 4000000 in
set_option maxRecDepth 100000 in
theorem ctX3_init (l : Launch) (B : Nat) (D : va_G) (E : Nat → ClassId) (v0 : Nat) (v1 : Nat) (g : hs_S) (o : hs_S) (hf : fX3_init v0 v1 g = some o) : Met l yX3_init wsX3_init rmX3_init (hs_Pc B D E g [.ref (B + v0), .ref (B + v1)]) (hs_Qv B D E o) (2) (40) (hs_F B) := by
  refine Met.ofW (cc := cX3_init) (maxL := 2) (ret := none) (by decide) rfl ?_
  intro p e s m args below meth c s₁ Bd hml hv
  obtain ⟨rfl, hP, hK⟩ := hv
  have hx := Bd.exec
  have hb := Bd.bytes
  have hr := Bd.returns
  have hts := atoms_spec (ws := wsX3_init) Bd.pre
  have hown : s.vm.findClass RX3 = some m.cls := findClass_of_methodNamed Bd.named
  have hlocks := Bd.notSynchronized
  have hin : meth.name = "<init>" := (name_of_methodNamed Bd.named Bd.method).1
  have hS : hs_Sx B s.heap s.heap [] := va_S.rf
  have hX : hs_cx cX3_init none 2 RX3 wsX3_init p s m (List.toArray [.ref (B + v0), .ref (B + v1)]) meth c D E := ⟨hx, hb, hr, hml, hown, hts, hlocks, hK⟩
  have hl := lv_entry ([.ref (B + v0), .ref (B + v1)]) (n := 2) (Nat.le_of_ble_eq_true rfl)
  rw [lg_entry_eq]
  generalize (lg_sl ([.ref (B + v0), .ref (B + v1)]) ++ List.replicate (2 - (lg_sl ([.ref (B + v0), .ref (B + v1)])).length) Slot.unset).toArray = ls at hl ⊢
  have hl : lv_has ls 2 [(0, .ref (B + v0)), (1, .ref (B + v1))] := hl
  have hP : hs_P B D E g s.heap := hP
  unfold fX3_init at hf
  refine lv_aload_n hx hb dX3_init_0 rfl (lv_at hl 0 rfl) ?_
  refine W.objInit hx hb hown (hts _ kX3_init_0) (hts _ kX3_init_1) (hts _ kX3_init_2) rfl (hl.1.trans hml.symm) rfl dX3_init_1 (Nat.le_of_ble_eq_true rfl) (Nat.le_of_ble_eq_true rfl) ?_
  refine lv_aload_n hx hb dX3_init_4 rfl (lv_at hl 0 rfl) ?_
  refine lv_bipush (v := 20) hx hb dX3_init_5 (by decide) ?_
  refine hs_newI (t := 0) (k := 100) (N := 20) (atype := .int) hx hb (by decide) rfl (hts _ kX3_init_3) rfl (fun _ _ h => h) rfl hK.1 hP hS (by decide) (by rfl) (by decide) (Nat.le_of_ble_eq_true rfl) (Nat.le_of_ble_eq_true rfl) dX3_init_7 (fun H hP hS => ?_)
  refine W.widen (k := 1) (n := 20) (by omega) (by omega) ?_
  obtain ⟨h1, hf⟩ := hs_ck hf
  refine hs_putr (C := RX3) (T := TX3) (N := 5) hx hb hts kX3_init_5 tyX3 tyX3_ok nmX3 hown hK.1 hP hS h1 (by decide) rfl 0 (by decide) (hts _ kX3_init_4) (fun _ h => h) (Or.inr ⟨rfl, hin, rfl⟩) (fun _ => rfl) (fun _ => rfl) rfl dX3_init_9 (fun H locs hP hS => ?_)
  refine lv_aload_n hx hb dX3_init_12 rfl (lv_at hl 0 rfl) ?_
  refine lv_bipush (v := 20) hx hb dX3_init_13 (by decide) ?_
  obtain ⟨g2, e3, hf⟩ := hs_bv_some hf
  replace e3 := Option.some.inj e3
  rw [e3] at hP
  have h4 : hs_kd g2 v0 = 3 := by rw [← e3]; exact h1
  refine hs_newI (t := 0) (k := 100) (N := 20) (atype := .int) hx hb (by decide) rfl (hts _ kX3_init_3) rfl (fun _ _ h => h) rfl hK.1 hP hS (by decide) (by rfl) (by decide) (Nat.le_of_ble_eq_true rfl) (Nat.le_of_ble_eq_true rfl) dX3_init_15 (fun H hP hS => ?_)
  refine W.widen (k := 2) (n := 40) (by omega) (by omega) ?_
  obtain ⟨h5, hf⟩ := hs_ck hf
  refine hs_putr (C := RX3) (T := TX3) (N := 5) hx hb hts kX3_init_5 tyX3 tyX3_ok nmX3 hown hK.1 hP hS h5 (by decide) rfl 1 (by decide) (hts _ kX3_init_6) (fun _ h => h) (Or.inr ⟨rfl, hin, rfl⟩) (fun _ => rfl) (fun _ => rfl) rfl dX3_init_17 (fun H locs hP hS => ?_)
  refine lv_aload_n hx hb dX3_init_20 rfl (lv_at hl 0 rfl) ?_
  refine lv_aload_n hx hb dX3_init_21 rfl (lv_at hl 1 rfl) ?_
  refine hs_putr (C := RX3) (T := TX3) (N := 5) hx hb hts kX3_init_5 tyX3 tyX3_ok nmX3 hown hK.1 hP hS h5 (by decide) rfl 3 (by decide) (hts _ kX3_init_7) (fun _ h => h) (Or.inl rfl) (fun _ => rfl) (fun _ => rfl) rfl dX3_init_22 (fun H locs hP hS => ?_)
  refine W.widen (k := 2) (n := 40) (by omega) (by omega) ?_
  exact hs_vret hx hb hr hlocks hK hP hS hf dX3_init_25

theorem dX0_method_0 : decode cX0_method 0 = .ok (.iload_n 1, 1) := by decide +kernel
theorem dX0_method_1 : decode cX0_method 1 = .ok (.ifCond .lt 18, 3) := by decide +kernel
theorem dX0_method_4 : decode cX0_method 4 = .ok (.iload_n 1, 1) := by decide +kernel
theorem dX0_method_5 : decode cX0_method 5 = .ok (.bipush 8, 2) := by decide +kernel
theorem dX0_method_7 : decode cX0_method 7 = .ok (.if_icmp .ge 12, 3) := by decide +kernel
theorem dX0_method_10 : decode cX0_method 10 = .ok (.aload_n 0, 1) := by decide +kernel
theorem dX0_method_11 : decode cX0_method 11 = .ok (.getfield 11, 3) := by decide +kernel
theorem dX0_method_14 : decode cX0_method 14 = .ok (.iload_n 1, 1) := by decide +kernel
theorem dX0_method_15 : decode cX0_method 15 = .ok (.aaload, 1) := by decide +kernel
theorem dX0_method_16 : decode cX0_method 16 = .ok (.goto 7, 3) := by decide +kernel
theorem dX0_method_19 : decode cX0_method 19 = .ok (.aload_n 0, 1) := by decide +kernel
theorem dX0_method_20 : decode cX0_method 20 = .ok (.getfield 20, 3) := by decide +kernel
theorem dX0_method_23 : decode cX0_method 23 = .ok (.areturn, 1) := by decide +kernel
theorem kX0_method_0 : Cond.fieldLink RX0 20 "StepRewriter$CodeSet" "none" "LStepRewriter$Method;" ∈ wsX0_method := by decide +kernel
theorem kX0_method_1 : ∀ w ∈ u_ws RX0 TX0 5, w ∈ wsX0_method := by decide +kernel
theorem kX0_method_2 : Cond.fieldLink RX0 11 "StepRewriter$CodeSet" "methods" "[LStepRewriter$Method;" ∈ wsX0_method := by decide +kernel
def fX0_method (v0 : Nat) (v1 : Int32) (g : hs_S) : Option (Nat × hs_S) :=
  if v1 < 0 then (
    if hs_kd g v0 = 0 then
    if ¬ (hs_R g v0 2) = 0 then
    some (((hs_R g v0 2) - 1), g)
    else none else none
  ) else (
    if (8 : Int32) ≤ v1 then (
      if hs_kd g v0 = 0 then
      if ¬ (hs_R g v0 2) = 0 then
      some (((hs_R g v0 2) - 1), g)
      else none else none
    ) else (
      if hs_kd g v0 = 0 then
      if ¬ (hs_R g v0 1) = 0 then
      if hs_kd g ((hs_R g v0 1) - 1) = 102 then
      if hs_in v1 (hs_ln g ((hs_R g v0 1) - 1)) = true then
      if ¬ (hs_R g ((hs_R g v0 1) - 1) v1.toNatClampNeg) = 0 then
      some (((hs_R g ((hs_R g v0 1) - 1) v1.toNatClampNeg) - 1), g)
      else none else none else none else none else none
    )
  )
abbrev rmX0_method : Room := { frames := 0, cells := 0, slots := 0, locals := 0 }
set_option maxHeartbeats 4000000 in
set_option maxRecDepth 100000 in
theorem ctX0_method (l : Launch) (B : Nat) (D : va_G) (E : Nat → ClassId) (v0 : Nat) (v1 : Int32) (g : hs_S) (o : Nat × hs_S) (hf : fX0_method v0 v1 g = some o) : Met l yX0_method wsX0_method rmX0_method (hs_Pc B D E g [.ref (B + v0), .int v1]) (hs_Qr B D E o) (0) (0) (hs_F B) := by
  refine Met.ofW (cc := cX0_method) (maxL := 2) (ret := (some (.object "StepRewriter$Method"))) (by decide) rfl ?_
  intro p e s m args below meth c s₁ Bd hml hv
  obtain ⟨rfl, hP, hK⟩ := hv
  have hx := Bd.exec
  have hb := Bd.bytes
  have hr := Bd.returns
  have hts := atoms_spec (ws := wsX0_method) Bd.pre
  have hown : s.vm.findClass RX0 = some m.cls := findClass_of_methodNamed Bd.named
  have hlocks := Bd.notSynchronized
  have hS : hs_Sx B s.heap s.heap [] := va_S.rf
  have hX : hs_cx cX0_method (some (.object "StepRewriter$Method")) 2 RX0 wsX0_method p s m (List.toArray [.ref (B + v0), .int v1]) meth c D E := ⟨hx, hb, hr, hml, hown, hts, hlocks, hK⟩
  have hl := lv_entry ([.ref (B + v0), .int v1]) (n := 2) (Nat.le_of_ble_eq_true rfl)
  rw [lg_entry_eq]
  generalize (lg_sl ([.ref (B + v0), .int v1]) ++ List.replicate (2 - (lg_sl ([.ref (B + v0), .int v1])).length) Slot.unset).toArray = ls at hl ⊢
  have hl : lv_has ls 2 [(0, .ref (B + v0)), (1, .int v1)] := hl
  have hP : hs_P B D E g s.heap := hP
  unfold fX0_method at hf
  refine lv_iload_n hx hb dX0_method_0 rfl (lv_at hl 1 rfl) ?_
  refine lv_if_lt (tgt := 19) hx hb dX0_method_1 (by decide) (fun hc => ?_) (fun hc => ?_)
  · replace hf := hs_t hf hc
    refine lv_aload_n hx hb dX0_method_19 rfl (lv_at hl 0 rfl) ?_
    obtain ⟨h1, hf⟩ := hs_ck hf
    obtain ⟨h2, hf⟩ := hs_ck hf
    refine hs_getr (C := RX0) (T := TX0) (N := 5) hx hb hts kX0_method_1 hown hK.1 hP h1 (by decide) rfl 2 (by decide) (hts _ kX0_method_0) (fun _ h => h) rfl h2 dX0_method_20 ?_
    exact hs_aret hx hb hr (Or.inl ⟨_, rfl⟩) hlocks hK hP hS hf dX0_method_23
  · replace hf := hs_f hf hc
    refine lv_iload_n hx hb dX0_method_4 rfl (lv_at hl 1 rfl) ?_
    refine lv_bipush (v := 8) hx hb dX0_method_5 (by decide) ?_
    refine lv_icmp_ge (tgt := 19) hx hb dX0_method_7 (by decide) (fun hc => ?_) (fun hc => ?_)
    · replace hf := hs_t hf hc
      refine lv_aload_n hx hb dX0_method_19 rfl (lv_at hl 0 rfl) ?_
      obtain ⟨h3, hf⟩ := hs_ck hf
      obtain ⟨h4, hf⟩ := hs_ck hf
      refine hs_getr (C := RX0) (T := TX0) (N := 5) hx hb hts kX0_method_1 hown hK.1 hP h3 (by decide) rfl 2 (by decide) (hts _ kX0_method_0) (fun _ h => h) rfl h4 dX0_method_20 ?_
      exact hs_aret hx hb hr (Or.inl ⟨_, rfl⟩) hlocks hK hP hS hf dX0_method_23
    · replace hf := hs_f hf hc
      refine lv_aload_n hx hb dX0_method_10 rfl (lv_at hl 0 rfl) ?_
      obtain ⟨h5, hf⟩ := hs_ck hf
      obtain ⟨h6, hf⟩ := hs_ck hf
      refine hs_getr (C := RX0) (T := TX0) (N := 5) hx hb hts kX0_method_1 hown hK.1 hP h5 (by decide) rfl 1 (by decide) (hts _ kX0_method_2) (fun _ h => h) rfl h6 dX0_method_11 ?_
      refine lv_iload_n hx hb dX0_method_14 rfl (lv_at hl 1 rfl) ?_
      obtain ⟨h7, hf⟩ := hs_ck hf
      obtain ⟨h8, hf⟩ := hs_ck hf
      obtain ⟨h9, hf⟩ := hs_ck hf
      refine hs_aald (t := 2) hx hb hK.1 hP h7 (by decide) (by decide) h8 h9 dX0_method_15 ?_
      refine lv_goto (tgt := 23) hx hb dX0_method_16 (by decide) ?_
      exact hs_aret hx hb hr (Or.inl ⟨_, rfl⟩) hlocks hK hP hS hf dX0_method_23

set_option maxRecDepth 20000 in
theorem ggX6_init_X10_init : GoodIn wsX6_init wsX10_init := goodIn_r _ [14, 15, 2, 3, 16, 17, 18, 41, 42] (by decide +kernel) (by decide +kernel)
set_option maxRecDepth 20000 in
theorem gX6_init_X10_init_n19 : GoodIn wsX6_init (wsX10_init) := ggX6_init_X10_init
set_option maxRecDepth 20000 in
theorem ggX6_init_X0_method : GoodIn wsX6_init wsX0_method := goodIn_r _ [23, 24, 25, 48, 49, 50, 51, 52] (by decide +kernel) (by decide +kernel)
set_option maxRecDepth 20000 in
theorem gX6_init_X0_method : GoodIn wsX6_init (wsV RX6 28 RX0 yX0_method wsX0_method) := goodIn_app (goodIn_of _ (by decide +kernel)) ggX6_init_X0_method
set_option maxRecDepth 20000 in
theorem ggX6_init_X3_init : GoodIn wsX6_init wsX3_init := goodIn_r _ [28, 29, 2, 3, 16, 30, 31, 32, 43, 44, 45, 46, 47] (by decide +kernel) (by decide +kernel)
set_option maxRecDepth 20000 in
theorem gX6_init_X3_init : GoodIn wsX6_init (wsX3_init) := ggX6_init_X3_init
theorem dX6_init_0 : decode cX6_init 0 = .ok (.aload_n 0, 1) := by decide +kernel
theorem dX6_init_1 : decode cX6_init 1 = .ok (.invokespecial 3, 3) := by decide +kernel
theorem dX6_init_4 : decode cX6_init 4 = .ok (.aload_n 0, 1) := by decide +kernel
theorem dX6_init_5 : decode cX6_init 5 = .ok (.bipush 60, 2) := by decide +kernel
theorem dX6_init_7 : decode cX6_init 7 = .ok (.anewarray 11, 3) := by decide +kernel
theorem dX6_init_10 : decode cX6_init 10 = .ok (.putfield 13, 3) := by decide +kernel
theorem dX6_init_13 : decode cX6_init 13 = .ok (.aload_n 0, 1) := by decide +kernel
theorem dX6_init_14 : decode cX6_init 14 = .ok (.new 17, 3) := by decide +kernel
theorem dX6_init_17 : decode cX6_init 17 = .ok (.dup, 1) := by decide +kernel
theorem dX6_init_18 : decode cX6_init 18 = .ok (.invokespecial 19, 3) := by decide +kernel
theorem dX6_init_21 : decode cX6_init 21 = .ok (.putfield 20, 3) := by decide +kernel
theorem dX6_init_24 : decode cX6_init 24 = .ok (.aload_n 0, 1) := by decide +kernel
theorem dX6_init_25 : decode cX6_init 25 = .ok (.aload_n 1, 1) := by decide +kernel
theorem dX6_init_26 : decode cX6_init 26 = .ok (.putfield 24, 3) := by decide +kernel
theorem dX6_init_29 : decode cX6_init 29 = .ok (.iconst 0, 1) := by decide +kernel
theorem dX6_init_30 : decode cX6_init 30 = .ok (.istore_n 2, 1) := by decide +kernel
theorem dX6_init_31 : decode cX6_init 31 = .ok (.iload_n 2, 1) := by decide +kernel
theorem dX6_init_32 : decode cX6_init 32 = .ok (.bipush 60, 2) := by decide +kernel
theorem dX6_init_34 : decode cX6_init 34 = .ok (.if_icmp .ge 27, 3) := by decide +kernel
theorem dX6_init_37 : decode cX6_init 37 = .ok (.aload_n 0, 1) := by decide +kernel
theorem dX6_init_38 : decode cX6_init 38 = .ok (.getfield 13, 3) := by decide +kernel
theorem dX6_init_41 : decode cX6_init 41 = .ok (.iload_n 2, 1) := by decide +kernel
theorem dX6_init_42 : decode cX6_init 42 = .ok (.new 11, 3) := by decide +kernel
theorem dX6_init_45 : decode cX6_init 45 = .ok (.dup, 1) := by decide +kernel
theorem dX6_init_46 : decode cX6_init 46 = .ok (.aload_n 1, 1) := by decide +kernel
theorem dX6_init_47 : decode cX6_init 47 = .ok (.iconst 0, 1) := by decide +kernel
theorem dX6_init_48 : decode cX6_init 48 = .ok (.invokevirtual 28, 3) := by decide +kernel
theorem dX6_init_51 : decode cX6_init 51 = .ok (.invokespecial 34, 3) := by decide +kernel
theorem dX6_init_54 : decode cX6_init 54 = .ok (.aastore, 1) := by decide +kernel
theorem dX6_init_55 : decode cX6_init 55 = .ok (.iinc 2 1, 3) := by decide +kernel
theorem dX6_init_58 : decode cX6_init 58 = .ok (.goto (-27), 3) := by decide +kernel
theorem dX6_init_61 : decode cX6_init 61 = .ok (.return_, 1) := by decide +kernel
theorem kX6_init_0 : Cond.methodLink RX6 3 objectInit ∈ wsX6_init := by decide +kernel
theorem kX6_init_1 : Cond.instanceMethod objectInit ∈ wsX6_init := by decide +kernel
theorem kX6_init_2 : Cond.code objectInit ⟨#[0xb1]⟩ 1 none ∈ wsX6_init := by decide +kernel
theorem kX6_init_3 : Cond.classLink RX6 11 RX3 ∈ wsX6_init := by decide +kernel
theorem kX6_init_4 : Cond.fieldLink RX6 13 "StepRewriter$Machine" "frames" "[LStepRewriter$Frame;" ∈ wsX6_init := by decide +kernel
theorem kX6_init_5 : ∀ w ∈ u_ws RX6 TX6 8, w ∈ wsX6_init := by decide +kernel
theorem kX6_init_6 : ∀ w ∈ u_ws RX10 TX10 2, w ∈ wsX6_init := by decide +kernel
theorem kX6_init_7 : Cond.classLink RX6 17 RX10 ∈ wsX6_init := by decide +kernel
theorem kX6_init_8 : Cond.instantiable RX10 2 ∈ wsX6_init := by decide +kernel
theorem kX6_init_9 : Cond.initialized RX10 ∈ wsX6_init := by decide +kernel
theorem kX6_init_10 : Cond.instanceMethod yX10_init ∈ wsX6_init := by decide +kernel
theorem kX6_init_11 : Cond.fieldLink RX6 20 "StepRewriter$Machine" "arrays" "LStepRewriter$RunArrays;" ∈ wsX6_init := by decide +kernel
theorem kX6_init_12 : Cond.fieldLink RX6 24 "StepRewriter$Machine" "set" "LStepRewriter$CodeSet;" ∈ wsX6_init := by decide +kernel
theorem kX6_init_13 : ∀ w ∈ u_ws RX3 TX3 5, w ∈ wsX6_init := by decide +kernel
theorem kX6_init_14 : Cond.instantiable RX3 5 ∈ wsX6_init := by decide +kernel
theorem kX6_init_15 : Cond.initialized RX3 ∈ wsX6_init := by decide +kernel
theorem kX6_init_16 : Cond.methodLink RX6 34 yX3_init ∈ wsX6_init := by decide +kernel
theorem kX6_init_17 : Cond.instanceMethod yX3_init ∈ wsX6_init := by decide +kernel
def lX6_init_31 : Nat → Nat → Nat → Int32 → hs_S → Option (hs_S)
  | 0, _, _, _, _ => none
  | n + 1, v0, v1, v2, g =>
    if (60 : Int32) ≤ v2 then (
      some g
    ) else (
      if hs_kd g v0 = 5 then
      if ¬ (hs_R g v0 1) = 0 then
      if hs_kd (hs_new g 3 0) v1 = 0 then
      hs_bd (fX0_method v1 (0 : Int32) (hs_new g 3 0)) fun r13 g12 =>
      hs_bv (fX3_init g.1 r13 g12) fun g15 =>
      if hs_kd g15 ((hs_R g v0 1) - 1) = 103 then
      if hs_in v2 (hs_ln g15 ((hs_R g v0 1) - 1)) = true then
      if hs_kd g15 g.1 = 3 then
      lX6_init_31 n v0 v1 (v2 + (1 : Int32)) (hs_wR g15 ((hs_R g v0 1) - 1) v2.toNatClampNeg g.1)
      else none else none else none else none else none else none
    )
theorem lX6_init_31_s (n : Nat) (v0 : Nat) (v1 : Nat) (v2 : Int32) (g : hs_S) : lX6_init_31 (n + 1) v0 v1 v2 g =
    if (60 : Int32) ≤ v2 then (
      some g
    ) else (
      if hs_kd g v0 = 5 then
      if ¬ (hs_R g v0 1) = 0 then
      if hs_kd (hs_new g 3 0) v1 = 0 then
      hs_bd (fX0_method v1 (0 : Int32) (hs_new g 3 0)) fun r13 g12 =>
      hs_bv (fX3_init g.1 r13 g12) fun g15 =>
      if hs_kd g15 ((hs_R g v0 1) - 1) = 103 then
      if hs_in v2 (hs_ln g15 ((hs_R g v0 1) - 1)) = true then
      if hs_kd g15 g.1 = 3 then
      lX6_init_31 n v0 v1 (v2 + (1 : Int32)) (hs_wR g15 ((hs_R g v0 1) - 1) v2.toNatClampNeg g.1)
      else none else none else none else none else none else none
    ) := rfl
def fX6_init (v0 : Nat) (v1 : Nat) (g : hs_S) : Option (hs_S) :=
  if hs_kd (hs_new g 103 60) v0 = 5 then
  hs_bv (some (hs_wR (hs_new g 103 60) v0 1 g.1)) fun g2 =>
  hs_bv (fX10_init g2.1 (hs_new g2 8 0)) fun g5 =>
  if hs_kd g5 v0 = 5 then
  hs_bv (lX6_init_31 hs_N v0 v1 (0 : Int32) (hs_wR (hs_wR g5 v0 2 g2.1) v0 0 v1)) fun g22 =>
  some g22
  else none else none
abbrev rmX6_init : Room := { frames := 2, cells := 184, slots := 6766, locals := 41 }
set_option maxHeartbeats 4000000 in
set_option maxRecDepth 100000 in
theorem wX6_init_31 {p : Program} {l : Launch} {e : Env} {s : State} {m : MethodId} {args : Array Value} {below : List Frame} {meth : Method} {c : Code} {B : Nat} {D : va_G} {E : Nat → ClassId} (hX : hs_cx cX6_init none 3 RX6 wsX6_init p s m args meth c D E) {Q : State → Prop} {o : hs_S} {v0 : Nat} {v1 : Nat} (hex0 : ∀ (H : Heap) (locs : List Loc) (ls : Array Slot), hs_P B D E (o) H → hs_Sx B s.heap H locs → lv_has ls 3 [] → W p l e rmX6_init s m args below meth c H locs (4 + 3 * 60) (4066 + 45 * 60) Q (F0 m 61 ls [])) : ∀ (n : Nat) (j : Nat) (v2 : Int32) (g : hs_S), lX6_init_31 n v0 v1 v2 g = some o → v2 = nI j → j ≤ 60 → ∀ (H : Heap) (locs : List Loc) (ls : Array Slot), hs_P B D E g H → hs_Sx B s.heap H locs → lv_has ls 3 [(0, .ref (B + v0)), (1, .ref (B + v1)), (2, .int v2)] → W p l e rmX6_init s m args below meth c H locs (4 + 3 * j) (4066 + 45 * j) Q (F0 m 31 ls []) := by
  obtain ⟨hx, hb, hr, hml, hown, hts, hlocks, hK⟩ := id hX
  intro n
  induction n with
  | zero =>
    intro j v2 g hf
    cases hf
  | succ n ih =>
    intro j v2 g hf hj hjK H locs ls hP hS hl
    replace hf := (lX6_init_31_s n v0 v1 v2 g).symm.trans hf
    refine W.widen (k := 4 + 3 * j) (n := 4066 + 45 * j) (by omega) (by omega) ?_
    refine lv_iload_n hx hb dX6_init_31 rfl (lv_at hl 2 rfl) ?_
    refine lv_bipush (v := 60) hx hb dX6_init_32 (by decide) ?_
    refine lv_icmp_ge (tgt := 61) hx hb dX6_init_34 (by decide) (fun hc => ?_) (fun hc => ?_)
    · replace hf := hs_t hf hc
      obtain rfl := Option.some.inj hf
      refine W.widen (k := 4 + 3 * 60) (n := 4066 + 45 * 60) (by omega) (by omega) ?_
      exact hex0 _ _ _ hP hS (lv_sub hl [] rfl)
    · replace hf := hs_f hf hc
      have hjl : j < 60 := Nat.lt_of_not_le fun q => hc (by rw [hj]; exact nI_le (a := 60) q (by omega))
      refine lv_aload_n hx hb dX6_init_37 rfl (lv_at hl 0 rfl) ?_
      obtain ⟨h9, hf⟩ := hs_ck hf
      obtain ⟨h10, hf⟩ := hs_ck hf
      refine hs_getr (C := RX6) (T := TX6) (N := 8) hx hb hts kX6_init_5 hown hK.1 hP h9 (by decide) rfl 1 (by decide) (hts _ kX6_init_4) (fun _ h => h) rfl h10 dX6_init_38 ?_
      refine lv_iload_n hx hb dX6_init_41 rfl (lv_at hl 2 rfl) ?_
      refine hs_newc (ci := 3) (C := RX3) (T := TX3) (N := 5) hx hb hts kX6_init_13 tyX3 tyX3_ok hown (hts _ kX6_init_3) (hts _ kX6_init_14) (hts _ kX6_init_15) hK.1 hP hS (by decide) rfl hs_dfX3 (show _ ≤ (184 : Nat) by omega) (show _ ≤ (6766 : Nat) by omega) dX6_init_42 (fun H hP hS => ?_)
      refine W.widen (k := 4 + 3 * j + 1) (n := 4066 + 45 * j + 5) (by omega) (by omega) ?_
      refine lv_dup hx hb dX6_init_45 rfl ?_
      refine lv_aload_n hx hb dX6_init_46 rfl (lv_at hl 1 rfl) ?_
      refine lv_iconst (v := 0) hx hb dX6_init_47 (by decide) ?_
      obtain ⟨h11, hf⟩ := hs_ck hf
      obtain ⟨r13, g12, h14, hf⟩ := hs_bd_some hf
      refine hs_callr (va_runV (As := [.int (0 : Int32)]) (rest := [.ref (B + g.1), .ref (B + g.1), .int v2, .ref (B + ((hs_R g v0 1) - 1))]) ⟨hx, hb, hml, hown, hts⟩ (ctX0_method l B D E v1 (0 : Int32) (hs_new g 3 0) _ h14) (cwV 1 hts gX6_init_X0_method rfl rfl rfl (by decide +kernel) ⟨Nat.le_of_ble_eq_true rfl, Nat.le_of_ble_eq_true rfl⟩) (hs_preV (r := (RX0, TX0, 5)) hP hK h11 (by decide) rfl) rfl rfl hl.1 rfl (lv_room (Nat.le_of_ble_eq_true rfl)) dX6_init_48 ⟨(show _ ≤ (184 : Nat) by omega), (show _ ≤ (6766 : Nat) by omega)⟩) hS (fun H locs hP hS => ?_)
      obtain ⟨g15, h17, hf⟩ := hs_bv_some hf
      refine hs_callv (va_runI (As := [.ref (B + r13)]) (rest := [.ref (B + g.1), .int v2, .ref (B + ((hs_R g v0 1) - 1))]) ⟨hx, hb, hml, hown, hts⟩ (ctX3_init l B D E g.1 r13 g12 _ h17) (cwI 1 hts gX6_init_X3_init rfl rfl rfl (hts _ kX6_init_15) (hts _ kX6_init_16) (hts _ kX6_init_17) rfl (by decide +kernel) ⟨Nat.le_of_ble_eq_true rfl, Nat.le_of_ble_eq_true rfl⟩) (hs_pre hP hK) rfl rfl hl.1 rfl (lv_room (Nat.le_of_ble_eq_true rfl)) dX6_init_51 ⟨(show _ ≤ (184 : Nat) by omega), (show _ ≤ (6766 : Nat) by omega)⟩) hS (fun H locs hP hS => ?_)
      refine W.widen (k := 4 + 3 * j + 3) (n := 4066 + 45 * j + 45) (by omega) (by omega) ?_
      obtain ⟨h18, hf⟩ := hs_ck hf
      obtain ⟨h19, hf⟩ := hs_ck hf
      obtain ⟨h20, hf⟩ := hs_ck hf
      refine hs_aast (t := 3) (r := (RX3, TX3, 5)) hx hb hK.1 hP hS h18 (by decide) (by decide) rfl h20 (by decide) rfl h19 dX6_init_54 (fun H locs hP hS => ?_)
      refine lv_iinc (v := (v2 + (1 : Int32))) (lv' := [(2, .int (v2 + (1 : Int32))), (0, .ref (B + v0)), (1, .ref (B + v1))]) hx hb dX6_init_55 hl (k := 2) rfl (by rfl) (by decide) rfl (fun ls hl => ?_)
      refine lv_goto (tgt := 31) hx hb dX6_init_58 (by decide) ?_
      refine W.widen (k := 4 + 3 * (j + 1)) (n := 4066 + 45 * (j + 1)) (by omega) (by omega) ?_
      exact ih (j + 1) _ _ hf (by rw [hj]; exact nI_1 j) (by omega) _ _ _ hP hS (lv_sub hl [1, 2, 0] rfl)

set_option maxHeartbeats 4000000 in
set_option maxRecDepth 100000 in
theorem ctX6_init (l : Launch) (B : Nat) (D : va_G) (E : Nat → ClassId) (v0 : Nat) (v1 : Nat) (g : hs_S) (o : hs_S) (hf : fX6_init v0 v1 g = some o) : Met l yX6_init wsX6_init rmX6_init (hs_Pc B D E g [.ref (B + v0), .ref (B + v1)]) (hs_Qv B D E o) (184) (6766) (hs_F B) := by
  refine Met.ofW (cc := cX6_init) (maxL := 3) (ret := none) (by decide) rfl ?_
  intro p e s m args below meth c s₁ Bd hml hv
  obtain ⟨rfl, hP, hK⟩ := hv
  have hx := Bd.exec
  have hb := Bd.bytes
  have hr := Bd.returns
  have hts := atoms_spec (ws := wsX6_init) Bd.pre
  have hown : s.vm.findClass RX6 = some m.cls := findClass_of_methodNamed Bd.named
  have hlocks := Bd.notSynchronized
  have hin : meth.name = "<init>" := (name_of_methodNamed Bd.named Bd.method).1
  have hS : hs_Sx B s.heap s.heap [] := va_S.rf
  have hX : hs_cx cX6_init none 3 RX6 wsX6_init p s m (List.toArray [.ref (B + v0), .ref (B + v1)]) meth c D E := ⟨hx, hb, hr, hml, hown, hts, hlocks, hK⟩
  have hl := lv_entry ([.ref (B + v0), .ref (B + v1)]) (n := 3) (Nat.le_of_ble_eq_true rfl)
  rw [lg_entry_eq]
  generalize (lg_sl ([.ref (B + v0), .ref (B + v1)]) ++ List.replicate (3 - (lg_sl ([.ref (B + v0), .ref (B + v1)])).length) Slot.unset).toArray = ls at hl ⊢
  have hl : lv_has ls 3 [(0, .ref (B + v0)), (1, .ref (B + v1))] := hl
  have hP : hs_P B D E g s.heap := hP
  unfold fX6_init at hf
  refine lv_aload_n hx hb dX6_init_0 rfl (lv_at hl 0 rfl) ?_
  refine W.objInit hx hb hown (hts _ kX6_init_0) (hts _ kX6_init_1) (hts _ kX6_init_2) rfl (hl.1.trans hml.symm) rfl dX6_init_1 (Nat.le_of_ble_eq_true rfl) (Nat.le_of_ble_eq_true rfl) ?_
  refine lv_aload_n hx hb dX6_init_4 rfl (lv_at hl 0 rfl) ?_
  refine lv_bipush (v := 60) hx hb dX6_init_5 (by decide) ?_
  refine hs_newR (t := 3) (k := 103) (N := 60) (C := RX3) hx hb (by decide) rfl hown (hts _ kX6_init_3) (va_AO.use hK.2.2.1) rfl hK.1 hP hS (by decide) (by rfl) (by decide) (Nat.le_of_ble_eq_true rfl) (Nat.le_of_ble_eq_true rfl) dX6_init_7 (fun H hP hS => ?_)
  refine W.widen (k := 1) (n := 60) (by omega) (by omega) ?_
  obtain ⟨h1, hf⟩ := hs_ck hf
  refine hs_putr (C := RX6) (T := TX6) (N := 8) hx hb hts kX6_init_5 tyX6 tyX6_ok nmX6 hown hK.1 hP hS h1 (by decide) rfl 1 (by decide) (hts _ kX6_init_4) (fun _ h => h) (Or.inr ⟨rfl, hin, rfl⟩) (fun _ => rfl) (fun _ => rfl) rfl dX6_init_10 (fun H locs hP hS => ?_)
  refine lv_aload_n hx hb dX6_init_13 rfl (lv_at hl 0 rfl) ?_
  obtain ⟨g2, e3, hf⟩ := hs_bv_some hf
  replace e3 := Option.some.inj e3
  rw [e3] at hP
  have h4 : hs_kd g2 v0 = 5 := by rw [← e3]; exact h1
  refine hs_newc (ci := 8) (C := RX10) (T := TX10) (N := 2) hx hb hts kX6_init_6 tyX10 tyX10_ok hown (hts _ kX6_init_7) (hts _ kX6_init_8) (hts _ kX6_init_9) hK.1 hP hS (by decide) rfl hs_dfX10 (Nat.le_of_ble_eq_true rfl) (Nat.le_of_ble_eq_true rfl) dX6_init_14 (fun H hP hS => ?_)
  refine W.widen (k := 2) (n := 62) (by omega) (by omega) ?_
  refine lv_dup hx hb dX6_init_17 rfl ?_
  obtain ⟨g5, h7, hf⟩ := hs_bv_some hf
  refine hs_callv (va_runIN (As := []) (rest := [.ref (B + g2.1), .ref (B + v0)]) ⟨hx, hb, hml, hown, hts⟩ (ctX10_init l B D E g2.1 (hs_new g2 8 0) _ h7) ⟨va_cnB 0 hts gX6_init_X10_init_n19 rfl rfl rfl hK.2.2.2.2.1 (hts _ kX6_init_9) (by decide +kernel) ⟨Nat.le_of_ble_eq_true rfl, Nat.le_of_ble_eq_true rfl⟩, rfl, (hts _ kX6_init_10)⟩ (hs_pre hP hK) rfl rfl hl.1 rfl (lv_room (Nat.le_of_ble_eq_true rfl)) dX6_init_18 ⟨(Nat.le_of_ble_eq_true rfl), (Nat.le_of_ble_eq_true rfl)⟩) hS (fun H locs hP hS => ?_)
  refine W.widen (k := 4) (n := 4066) (by omega) (by omega) ?_
  obtain ⟨h8, hf⟩ := hs_ck hf
  refine hs_putr (C := RX6) (T := TX6) (N := 8) hx hb hts kX6_init_5 tyX6 tyX6_ok nmX6 hown hK.1 hP hS h8 (by decide) rfl 2 (by decide) (hts _ kX6_init_11) (fun _ h => h) (Or.inr ⟨rfl, hin, rfl⟩) (fun _ => rfl) (fun _ => rfl) rfl dX6_init_21 (fun H locs hP hS => ?_)
  refine lv_aload_n hx hb dX6_init_24 rfl (lv_at hl 0 rfl) ?_
  refine lv_aload_n hx hb dX6_init_25 rfl (lv_at hl 1 rfl) ?_
  refine hs_putr (C := RX6) (T := TX6) (N := 8) hx hb hts kX6_init_5 tyX6 tyX6_ok nmX6 hown hK.1 hP hS h8 (by decide) rfl 0 (by decide) (hts _ kX6_init_12) (fun _ h => h) (Or.inr ⟨rfl, hin, rfl⟩) (fun _ => rfl) (fun _ => rfl) rfl dX6_init_26 (fun H locs hP hS => ?_)
  refine lv_iconst (v := 0) hx hb dX6_init_29 (by decide) ?_
  refine lv_istore_n (lv' := [(2, .int (0 : Int32)), (0, .ref (B + v0)), (1, .ref (B + v1))]) hx hb dX6_init_30 rfl hl (by decide) rfl (fun ls hl => ?_)
  obtain ⟨g22, h23, hf⟩ := hs_bv_some hf
  refine W.widen (k := 4 + 3 * 0) (n := 4066 + 45 * 0) (by omega) (by omega) ?_
  refine wX6_init_31 hX (fun H locs ls hP hS hl => ?_) hs_N 0 _ _ h23 nI_0.symm (by omega) _ _ _ hP hS (lv_sub hl [1, 2, 0] rfl)
  refine W.widen (k := 184) (n := 6766) (by omega) (by omega) ?_
  exact hs_vret hx hb hr hlocks hK hP hS hf dX6_init_61

set_option maxRecDepth 20000 in
theorem ggX11_init_X0_init : GoodIn wsX11_init wsX0_init := goodIn_r _ [29, 30, 2, 3, 31, 32, 33, 34, 35, 36, 37, 38, 39, 40, 41, 42, 43, 109, 110, 111, 112, 113, 137, 138, 139, 140, 141, 142, 143, 144, 145, 146, 147] (by decide +kernel) (by decide +kernel)
set_option maxRecDepth 20000 in
theorem gX11_init_X0_init : GoodIn wsX11_init (wsX0_init) := ggX11_init_X0_init
set_option maxRecDepth 20000 in
theorem ggX11_init_X8_init : GoodIn wsX11_init wsX8_init := goodIn_r _ [46, 47, 2, 3, 35, 48, 49, 50, 51, 13, 52, 53, 54, 55, 56, 57, 58, 59, 60, 122] (by decide +kernel) (by decide +kernel)
set_option maxRecDepth 20000 in
theorem gX11_init_X8_init : GoodIn wsX11_init (wsX8_init) := ggX11_init_X8_init
set_option maxRecDepth 20000 in
theorem ggX11_init_X2_init : GoodIn wsX11_init wsX2_init := goodIn_r _ [62, 63, 2, 3, 64, 65, 66, 67, 68, 69, 70, 35, 71, 72, 148, 149, 150, 123] (by decide +kernel) (by decide +kernel)
set_option maxRecDepth 20000 in
theorem gX11_init_X2_init_n36 : GoodIn wsX11_init (wsX2_init) := ggX11_init_X2_init
set_option maxRecDepth 20000 in
theorem ggX11_init_X5_init : GoodIn wsX11_init wsX5_init := goodIn_r _ [74, 75, 2, 3, 35, 76, 77, 78, 79, 124, 125, 126, 127, 128] (by decide +kernel) (by decide +kernel)
set_option maxRecDepth 20000 in
theorem gX11_init_X5_init_n43 : GoodIn wsX11_init (wsX5_init) := ggX11_init_X5_init
set_option maxRecDepth 20000 in
theorem ggX11_init_X6_init : GoodIn wsX11_init wsX6_init := goodIn_r _ [82, 83, 2, 3, 84, 85, 86, 87, 88, 89, 90, 91, 92, 93, 94, 95, 35, 96, 97, 98, 99, 100, 6, 101, 32, 36, 102, 103, 104, 105, 106, 107, 108, 129, 130, 131, 132, 133, 134, 135, 136, 151, 152, 153, 154, 155, 156, 157, 109, 110, 111, 112, 113] (by decide +kernel) (by decide +kernel)
set_option maxRecDepth 20000 in
theorem gX11_init_X6_init : GoodIn wsX11_init (wsX6_init) := ggX11_init_X6_init
theorem dX11_init_0 : decode cX11_init 0 = .ok (.aload_n 0, 1) := by decide +kernel
theorem dX11_init_1 : decode cX11_init 1 = .ok (.invokespecial 1, 3) := by decide +kernel
theorem dX11_init_4 : decode cX11_init 4 = .ok (.aload_n 0, 1) := by decide +kernel
theorem dX11_init_5 : decode cX11_init 5 = .ok (.new 7, 3) := by decide +kernel
theorem dX11_init_8 : decode cX11_init 8 = .ok (.dup, 1) := by decide +kernel
theorem dX11_init_9 : decode cX11_init 9 = .ok (.sipush 6000, 3) := by decide +kernel
theorem dX11_init_12 : decode cX11_init 12 = .ok (.invokespecial 11, 3) := by decide +kernel
theorem dX11_init_15 : decode cX11_init 15 = .ok (.putfield 14, 3) := by decide +kernel
theorem dX11_init_18 : decode cX11_init 18 = .ok (.aload_n 0, 1) := by decide +kernel
theorem dX11_init_19 : decode cX11_init 19 = .ok (.new 7, 3) := by decide +kernel
theorem dX11_init_22 : decode cX11_init 22 = .ok (.dup, 1) := by decide +kernel
theorem dX11_init_23 : decode cX11_init 23 = .ok (.sipush 6000, 3) := by decide +kernel
theorem dX11_init_26 : decode cX11_init 26 = .ok (.invokespecial 11, 3) := by decide +kernel
theorem dX11_init_29 : decode cX11_init 29 = .ok (.putfield 18, 3) := by decide +kernel
theorem dX11_init_32 : decode cX11_init 32 = .ok (.aload_n 0, 1) := by decide +kernel
theorem dX11_init_33 : decode cX11_init 33 = .ok (.new 7, 3) := by decide +kernel
theorem dX11_init_36 : decode cX11_init 36 = .ok (.dup, 1) := by decide +kernel
theorem dX11_init_37 : decode cX11_init 37 = .ok (.sipush 6000, 3) := by decide +kernel
theorem dX11_init_40 : decode cX11_init 40 = .ok (.invokespecial 11, 3) := by decide +kernel
theorem dX11_init_43 : decode cX11_init 43 = .ok (.putfield 21, 3) := by decide +kernel
theorem dX11_init_46 : decode cX11_init 46 = .ok (.aload_n 0, 1) := by decide +kernel
theorem dX11_init_47 : decode cX11_init 47 = .ok (.new 7, 3) := by decide +kernel
theorem dX11_init_50 : decode cX11_init 50 = .ok (.dup, 1) := by decide +kernel
theorem dX11_init_51 : decode cX11_init 51 = .ok (.sipush 32000, 3) := by decide +kernel
theorem dX11_init_54 : decode cX11_init 54 = .ok (.invokespecial 11, 3) := by decide +kernel
theorem dX11_init_57 : decode cX11_init 57 = .ok (.putfield 24, 3) := by decide +kernel
theorem dX11_init_60 : decode cX11_init 60 = .ok (.aload_n 0, 1) := by decide +kernel
theorem dX11_init_61 : decode cX11_init 61 = .ok (.new 27, 3) := by decide +kernel
theorem dX11_init_64 : decode cX11_init 64 = .ok (.dup, 1) := by decide +kernel
theorem dX11_init_65 : decode cX11_init 65 = .ok (.invokespecial 29, 3) := by decide +kernel
theorem dX11_init_68 : decode cX11_init 68 = .ok (.putfield 30, 3) := by decide +kernel
theorem dX11_init_71 : decode cX11_init 71 = .ok (.aload_n 0, 1) := by decide +kernel
theorem dX11_init_72 : decode cX11_init 72 = .ok (.new 34, 3) := by decide +kernel
theorem dX11_init_75 : decode cX11_init 75 = .ok (.dup, 1) := by decide +kernel
theorem dX11_init_76 : decode cX11_init 76 = .ok (.invokespecial 36, 3) := by decide +kernel
theorem dX11_init_79 : decode cX11_init 79 = .ok (.putfield 37, 3) := by decide +kernel
theorem dX11_init_82 : decode cX11_init 82 = .ok (.aload_n 0, 1) := by decide +kernel
theorem dX11_init_83 : decode cX11_init 83 = .ok (.new 41, 3) := by decide +kernel
theorem dX11_init_86 : decode cX11_init 86 = .ok (.dup, 1) := by decide +kernel
theorem dX11_init_87 : decode cX11_init 87 = .ok (.invokespecial 43, 3) := by decide +kernel
theorem dX11_init_90 : decode cX11_init 90 = .ok (.putfield 44, 3) := by decide +kernel
theorem dX11_init_93 : decode cX11_init 93 = .ok (.aload_n 0, 1) := by decide +kernel
theorem dX11_init_94 : decode cX11_init 94 = .ok (.new 48, 3) := by decide +kernel
theorem dX11_init_97 : decode cX11_init 97 = .ok (.dup, 1) := by decide +kernel
theorem dX11_init_98 : decode cX11_init 98 = .ok (.aload_n 0, 1) := by decide +kernel
theorem dX11_init_99 : decode cX11_init 99 = .ok (.getfield 24, 3) := by decide +kernel
theorem dX11_init_102 : decode cX11_init 102 = .ok (.invokespecial 50, 3) := by decide +kernel
theorem dX11_init_105 : decode cX11_init 105 = .ok (.putfield 53, 3) := by decide +kernel
theorem dX11_init_108 : decode cX11_init 108 = .ok (.return_, 1) := by decide +kernel
theorem kX11_init_0 : Cond.methodLink RX11 1 objectInit ∈ wsX11_init := by decide +kernel
theorem kX11_init_1 : Cond.instanceMethod objectInit ∈ wsX11_init := by decide +kernel
theorem kX11_init_2 : Cond.code objectInit ⟨#[0xb1]⟩ 1 none ∈ wsX11_init := by decide +kernel
theorem kX11_init_3 : ∀ w ∈ u_ws RX0 TX0 5, w ∈ wsX11_init := by decide +kernel
theorem kX11_init_4 : Cond.classLink RX11 7 RX0 ∈ wsX11_init := by decide +kernel
theorem kX11_init_5 : Cond.instantiable RX0 5 ∈ wsX11_init := by decide +kernel
theorem kX11_init_6 : Cond.initialized RX0 ∈ wsX11_init := by decide +kernel
theorem kX11_init_7 : Cond.methodLink RX11 11 yX0_init ∈ wsX11_init := by decide +kernel
theorem kX11_init_8 : Cond.instanceMethod yX0_init ∈ wsX11_init := by decide +kernel
theorem kX11_init_9 : Cond.fieldLink RX11 14 "StepRewriter" "tape" "LStepRewriter$CodeSet;" ∈ wsX11_init := by decide +kernel
theorem kX11_init_10 : ∀ w ∈ u_ws RX11 TX11 8, w ∈ wsX11_init := by decide +kernel
theorem kX11_init_11 : Cond.fieldLink RX11 18 "StepRewriter" "file" "LStepRewriter$CodeSet;" ∈ wsX11_init := by decide +kernel
theorem kX11_init_12 : Cond.fieldLink RX11 21 "StepRewriter" "spare" "LStepRewriter$CodeSet;" ∈ wsX11_init := by decide +kernel
theorem kX11_init_13 : Cond.fieldLink RX11 24 "StepRewriter" "rewritten" "LStepRewriter$CodeSet;" ∈ wsX11_init := by decide +kernel
theorem kX11_init_14 : ∀ w ∈ u_ws RX8 TX8 1, w ∈ wsX11_init := by decide +kernel
theorem kX11_init_15 : Cond.classLink RX11 27 RX8 ∈ wsX11_init := by decide +kernel
theorem kX11_init_16 : Cond.instantiable RX8 1 ∈ wsX11_init := by decide +kernel
theorem kX11_init_17 : Cond.initialized RX8 ∈ wsX11_init := by decide +kernel
theorem kX11_init_18 : Cond.methodLink RX11 29 yX8_init ∈ wsX11_init := by decide +kernel
theorem kX11_init_19 : Cond.instanceMethod yX8_init ∈ wsX11_init := by decide +kernel
theorem kX11_init_20 : Cond.fieldLink RX11 30 "StepRewriter" "prices" "LStepRewriter$Prices;" ∈ wsX11_init := by decide +kernel
theorem kX11_init_21 : ∀ w ∈ u_ws RX2 TX2 1, w ∈ wsX11_init := by decide +kernel
theorem kX11_init_22 : Cond.classLink RX11 34 RX2 ∈ wsX11_init := by decide +kernel
theorem kX11_init_23 : Cond.instantiable RX2 1 ∈ wsX11_init := by decide +kernel
theorem kX11_init_24 : Cond.initialized RX2 ∈ wsX11_init := by decide +kernel
theorem kX11_init_25 : Cond.instanceMethod yX2_init ∈ wsX11_init := by decide +kernel
theorem kX11_init_26 : Cond.fieldLink RX11 37 "StepRewriter" "check" "LStepRewriter$FormCheck;" ∈ wsX11_init := by decide +kernel
theorem kX11_init_27 : ∀ w ∈ u_ws RX5 TX5 5, w ∈ wsX11_init := by decide +kernel
theorem kX11_init_28 : Cond.classLink RX11 41 RX5 ∈ wsX11_init := by decide +kernel
theorem kX11_init_29 : Cond.instantiable RX5 5 ∈ wsX11_init := by decide +kernel
theorem kX11_init_30 : Cond.initialized RX5 ∈ wsX11_init := by decide +kernel
theorem kX11_init_31 : Cond.instanceMethod yX5_init ∈ wsX11_init := by decide +kernel
theorem kX11_init_32 : Cond.fieldLink RX11 44 "StepRewriter" "layout" "LStepRewriter$Layout;" ∈ wsX11_init := by decide +kernel
theorem kX11_init_33 : ∀ w ∈ u_ws RX6 TX6 8, w ∈ wsX11_init := by decide +kernel
theorem kX11_init_34 : Cond.classLink RX11 48 RX6 ∈ wsX11_init := by decide +kernel
theorem kX11_init_35 : Cond.instantiable RX6 8 ∈ wsX11_init := by decide +kernel
theorem kX11_init_36 : Cond.initialized RX6 ∈ wsX11_init := by decide +kernel
theorem kX11_init_37 : Cond.methodLink RX11 50 yX6_init ∈ wsX11_init := by decide +kernel
theorem kX11_init_38 : Cond.instanceMethod yX6_init ∈ wsX11_init := by decide +kernel
theorem kX11_init_39 : Cond.fieldLink RX11 53 "StepRewriter" "machine" "LStepRewriter$Machine;" ∈ wsX11_init := by decide +kernel
def fX11_init (v0 : Nat) (g : hs_S) : Option (hs_S) :=
  hs_bv (fX0_init g.1 (6000 : Int32) (hs_new g 0 0)) fun g1 =>
  if hs_kd g1 v0 = 9 then
  hs_bv (some (hs_wR g1 v0 0 g.1)) fun g5 =>
  hs_bv (fX0_init g5.1 (6000 : Int32) (hs_new g5 0 0)) fun g8 =>
  if hs_kd g8 v0 = 9 then
  hs_bv (some (hs_wR g8 v0 1 g5.1)) fun g12 =>
  hs_bv (fX0_init g12.1 (6000 : Int32) (hs_new g12 0 0)) fun g15 =>
  if hs_kd g15 v0 = 9 then
  hs_bv (some (hs_wR g15 v0 2 g12.1)) fun g19 =>
  hs_bv (fX0_init g19.1 (32000 : Int32) (hs_new g19 0 0)) fun g22 =>
  if hs_kd g22 v0 = 9 then
  hs_bv (some (hs_wR g22 v0 3 g19.1)) fun g26 =>
  hs_bv (fX8_init g26.1 (hs_new g26 7 0)) fun g29 =>
  if hs_kd g29 v0 = 9 then
  hs_bv (some (hs_wR g29 v0 4 g26.1)) fun g33 =>
  hs_bv (fX2_init g33.1 (hs_new g33 2 0)) fun g36 =>
  if hs_kd g36 v0 = 9 then
  hs_bv (some (hs_wR g36 v0 5 g33.1)) fun g40 =>
  hs_bv (fX5_init g40.1 (hs_new g40 4 0)) fun g43 =>
  if hs_kd g43 v0 = 9 then
  hs_bv (some (hs_wR g43 v0 6 g40.1)) fun g47 =>
  if hs_kd (hs_new g47 5 0) v0 = 9 then
  if ¬ (hs_R (hs_new g47 5 0) v0 3) = 0 then
  hs_bv (fX6_init g47.1 ((hs_R (hs_new g47 5 0) v0 3) - 1) (hs_new g47 5 0)) fun g52 =>
  if hs_kd g52 v0 = 9 then
  some (hs_wR g52 v0 7 g47.1)
  else none else none else none else none else none else none else none else none else none else none
abbrev rmX11_init : Room := { frames := 3, cells := 284, slots := 148641, locals := 63 }
set_option maxHeartbeats 4000000 in
set_option maxRecDepth 100000 in
theorem ctX11_init (l : Launch) (B : Nat) (D : va_G) (E : Nat → ClassId) (v0 : Nat) (g : hs_S) (o : hs_S) (hf : fX11_init v0 g = some o) : Met l yX11_init wsX11_init rmX11_init (hs_Pc B D E g [.ref (B + v0)]) (hs_Qv B D E o) (284) (148641) (hs_F B) := by
  refine Met.ofW (cc := cX11_init) (maxL := 1) (ret := none) (by decide) rfl ?_
  intro p e s m args below meth c s₁ Bd hml hv
  obtain ⟨rfl, hP, hK⟩ := hv
  have hx := Bd.exec
  have hb := Bd.bytes
  have hr := Bd.returns
  have hts := atoms_spec (ws := wsX11_init) Bd.pre
  have hown : s.vm.findClass RX11 = some m.cls := findClass_of_methodNamed Bd.named
  have hlocks := Bd.notSynchronized
  have hin : meth.name = "<init>" := (name_of_methodNamed Bd.named Bd.method).1
  have hS : hs_Sx B s.heap s.heap [] := va_S.rf
  have hX : hs_cx cX11_init none 1 RX11 wsX11_init p s m (List.toArray [.ref (B + v0)]) meth c D E := ⟨hx, hb, hr, hml, hown, hts, hlocks, hK⟩
  have hl := lv_entry ([.ref (B + v0)]) (n := 1) (Nat.le_of_ble_eq_true rfl)
  rw [lg_entry_eq]
  generalize (lg_sl ([.ref (B + v0)]) ++ List.replicate (1 - (lg_sl ([.ref (B + v0)])).length) Slot.unset).toArray = ls at hl ⊢
  have hl : lv_has ls 1 [(0, .ref (B + v0))] := hl
  have hP : hs_P B D E g s.heap := hP
  unfold fX11_init at hf
  refine lv_aload_n hx hb dX11_init_0 rfl (lv_at hl 0 rfl) ?_
  refine W.objInit hx hb hown (hts _ kX11_init_0) (hts _ kX11_init_1) (hts _ kX11_init_2) rfl (hl.1.trans hml.symm) rfl dX11_init_1 (Nat.le_of_ble_eq_true rfl) (Nat.le_of_ble_eq_true rfl) ?_
  refine lv_aload_n hx hb dX11_init_4 rfl (lv_at hl 0 rfl) ?_
  refine hs_newc (ci := 0) (C := RX0) (T := TX0) (N := 5) hx hb hts kX11_init_3 tyX0 tyX0_ok hown (hts _ kX11_init_4) (hts _ kX11_init_5) (hts _ kX11_init_6) hK.1 hP hS (by decide) rfl hs_dfX0 (Nat.le_of_ble_eq_true rfl) (Nat.le_of_ble_eq_true rfl) dX11_init_5 (fun H hP hS => ?_)
  refine W.widen (k := 1) (n := 5) (by omega) (by omega) ?_
  refine lv_dup hx hb dX11_init_8 rfl ?_
  refine lv_sipush (v := 6000) hx hb dX11_init_9 (by decide) ?_
  obtain ⟨g1, h3, hf⟩ := hs_bv_some hf
  refine hs_callv (va_runI (As := [.int (6000 : Int32)]) (rest := [.ref (B + g.1), .ref (B + v0)]) ⟨hx, hb, hml, hown, hts⟩ (ctX0_init l B D E g.1 (6000 : Int32) (hs_new g 0 0) _ h3) (cwI 1 hts gX11_init_X0_init rfl rfl rfl (hts _ kX11_init_6) (hts _ kX11_init_7) (hts _ kX11_init_8) rfl (by decide +kernel) ⟨Nat.le_of_ble_eq_true rfl, Nat.le_of_ble_eq_true rfl⟩) (hs_pre hP hK) rfl rfl hl.1 rfl (lv_room (Nat.le_of_ble_eq_true rfl)) dX11_init_12 ⟨(Nat.le_of_ble_eq_true rfl), (Nat.le_of_ble_eq_true rfl)⟩) hS (fun H locs hP hS => ?_)
  refine W.widen (k := 22) (n := 32400) (by omega) (by omega) ?_
  obtain ⟨h4, hf⟩ := hs_ck hf
  refine hs_putr (C := RX11) (T := TX11) (N := 8) hx hb hts kX11_init_10 tyX11 tyX11_ok nmX11 hown hK.1 hP hS h4 (by decide) rfl 0 (by decide) (hts _ kX11_init_9) (fun _ h => h) (Or.inl rfl) (fun _ => rfl) (fun _ => rfl) rfl dX11_init_15 (fun H locs hP hS => ?_)
  refine lv_aload_n hx hb dX11_init_18 rfl (lv_at hl 0 rfl) ?_
  obtain ⟨g5, e6, hf⟩ := hs_bv_some hf
  replace e6 := Option.some.inj e6
  rw [e6] at hP
  have h7 : hs_kd g5 v0 = 9 := by rw [← e6]; exact h4
  refine hs_newc (ci := 0) (C := RX0) (T := TX0) (N := 5) hx hb hts kX11_init_3 tyX0 tyX0_ok hown (hts _ kX11_init_4) (hts _ kX11_init_5) (hts _ kX11_init_6) hK.1 hP hS (by decide) rfl hs_dfX0 (Nat.le_of_ble_eq_true rfl) (Nat.le_of_ble_eq_true rfl) dX11_init_19 (fun H hP hS => ?_)
  refine W.widen (k := 23) (n := 32405) (by omega) (by omega) ?_
  refine lv_dup hx hb dX11_init_22 rfl ?_
  refine lv_sipush (v := 6000) hx hb dX11_init_23 (by decide) ?_
  obtain ⟨g8, h10, hf⟩ := hs_bv_some hf
  refine hs_callv (va_runI (As := [.int (6000 : Int32)]) (rest := [.ref (B + g5.1), .ref (B + v0)]) ⟨hx, hb, hml, hown, hts⟩ (ctX0_init l B D E g5.1 (6000 : Int32) (hs_new g5 0 0) _ h10) (cwI 1 hts gX11_init_X0_init rfl rfl rfl (hts _ kX11_init_6) (hts _ kX11_init_7) (hts _ kX11_init_8) rfl (by decide +kernel) ⟨Nat.le_of_ble_eq_true rfl, Nat.le_of_ble_eq_true rfl⟩) (hs_pre hP hK) rfl rfl hl.1 rfl (lv_room (Nat.le_of_ble_eq_true rfl)) dX11_init_26 ⟨(Nat.le_of_ble_eq_true rfl), (Nat.le_of_ble_eq_true rfl)⟩) hS (fun H locs hP hS => ?_)
  refine W.widen (k := 44) (n := 64800) (by omega) (by omega) ?_
  obtain ⟨h11, hf⟩ := hs_ck hf
  refine hs_putr (C := RX11) (T := TX11) (N := 8) hx hb hts kX11_init_10 tyX11 tyX11_ok nmX11 hown hK.1 hP hS h11 (by decide) rfl 1 (by decide) (hts _ kX11_init_11) (fun _ h => h) (Or.inl rfl) (fun _ => rfl) (fun _ => rfl) rfl dX11_init_29 (fun H locs hP hS => ?_)
  refine lv_aload_n hx hb dX11_init_32 rfl (lv_at hl 0 rfl) ?_
  obtain ⟨g12, e13, hf⟩ := hs_bv_some hf
  replace e13 := Option.some.inj e13
  rw [e13] at hP
  have h14 : hs_kd g12 v0 = 9 := by rw [← e13]; exact h11
  refine hs_newc (ci := 0) (C := RX0) (T := TX0) (N := 5) hx hb hts kX11_init_3 tyX0 tyX0_ok hown (hts _ kX11_init_4) (hts _ kX11_init_5) (hts _ kX11_init_6) hK.1 hP hS (by decide) rfl hs_dfX0 (Nat.le_of_ble_eq_true rfl) (Nat.le_of_ble_eq_true rfl) dX11_init_33 (fun H hP hS => ?_)
  refine W.widen (k := 45) (n := 64805) (by omega) (by omega) ?_
  refine lv_dup hx hb dX11_init_36 rfl ?_
  refine lv_sipush (v := 6000) hx hb dX11_init_37 (by decide) ?_
  obtain ⟨g15, h17, hf⟩ := hs_bv_some hf
  refine hs_callv (va_runI (As := [.int (6000 : Int32)]) (rest := [.ref (B + g12.1), .ref (B + v0)]) ⟨hx, hb, hml, hown, hts⟩ (ctX0_init l B D E g12.1 (6000 : Int32) (hs_new g12 0 0) _ h17) (cwI 1 hts gX11_init_X0_init rfl rfl rfl (hts _ kX11_init_6) (hts _ kX11_init_7) (hts _ kX11_init_8) rfl (by decide +kernel) ⟨Nat.le_of_ble_eq_true rfl, Nat.le_of_ble_eq_true rfl⟩) (hs_pre hP hK) rfl rfl hl.1 rfl (lv_room (Nat.le_of_ble_eq_true rfl)) dX11_init_40 ⟨(Nat.le_of_ble_eq_true rfl), (Nat.le_of_ble_eq_true rfl)⟩) hS (fun H locs hP hS => ?_)
  refine W.widen (k := 66) (n := 97200) (by omega) (by omega) ?_
  obtain ⟨h18, hf⟩ := hs_ck hf
  refine hs_putr (C := RX11) (T := TX11) (N := 8) hx hb hts kX11_init_10 tyX11 tyX11_ok nmX11 hown hK.1 hP hS h18 (by decide) rfl 2 (by decide) (hts _ kX11_init_12) (fun _ h => h) (Or.inl rfl) (fun _ => rfl) (fun _ => rfl) rfl dX11_init_43 (fun H locs hP hS => ?_)
  refine lv_aload_n hx hb dX11_init_46 rfl (lv_at hl 0 rfl) ?_
  obtain ⟨g19, e20, hf⟩ := hs_bv_some hf
  replace e20 := Option.some.inj e20
  rw [e20] at hP
  have h21 : hs_kd g19 v0 = 9 := by rw [← e20]; exact h18
  refine hs_newc (ci := 0) (C := RX0) (T := TX0) (N := 5) hx hb hts kX11_init_3 tyX0 tyX0_ok hown (hts _ kX11_init_4) (hts _ kX11_init_5) (hts _ kX11_init_6) hK.1 hP hS (by decide) rfl hs_dfX0 (Nat.le_of_ble_eq_true rfl) (Nat.le_of_ble_eq_true rfl) dX11_init_47 (fun H hP hS => ?_)
  refine W.widen (k := 67) (n := 97205) (by omega) (by omega) ?_
  refine lv_dup hx hb dX11_init_50 rfl ?_
  refine lv_sipush (v := 32000) hx hb dX11_init_51 (by decide) ?_
  obtain ⟨g22, h24, hf⟩ := hs_bv_some hf
  refine hs_callv (va_runI (As := [.int (32000 : Int32)]) (rest := [.ref (B + g19.1), .ref (B + v0)]) ⟨hx, hb, hml, hown, hts⟩ (ctX0_init l B D E g19.1 (32000 : Int32) (hs_new g19 0 0) _ h24) (cwI 1 hts gX11_init_X0_init rfl rfl rfl (hts _ kX11_init_6) (hts _ kX11_init_7) (hts _ kX11_init_8) rfl (by decide +kernel) ⟨Nat.le_of_ble_eq_true rfl, Nat.le_of_ble_eq_true rfl⟩) (hs_pre hP hK) rfl rfl hl.1 rfl (lv_room (Nat.le_of_ble_eq_true rfl)) dX11_init_54 ⟨(Nat.le_of_ble_eq_true rfl), (Nat.le_of_ble_eq_true rfl)⟩) hS (fun H locs hP hS => ?_)
  refine W.widen (k := 88) (n := 129600) (by omega) (by omega) ?_
  obtain ⟨h25, hf⟩ := hs_ck hf
  refine hs_putr (C := RX11) (T := TX11) (N := 8) hx hb hts kX11_init_10 tyX11 tyX11_ok nmX11 hown hK.1 hP hS h25 (by decide) rfl 3 (by decide) (hts _ kX11_init_13) (fun _ h => h) (Or.inr ⟨rfl, hin, rfl⟩) (fun _ => rfl) (fun _ => rfl) rfl dX11_init_57 (fun H locs hP hS => ?_)
  refine lv_aload_n hx hb dX11_init_60 rfl (lv_at hl 0 rfl) ?_
  obtain ⟨g26, e27, hf⟩ := hs_bv_some hf
  replace e27 := Option.some.inj e27
  rw [e27] at hP
  have h28 : hs_kd g26 v0 = 9 := by rw [← e27]; exact h25
  refine hs_newc (ci := 7) (C := RX8) (T := TX8) (N := 1) hx hb hts kX11_init_14 tyX8 tyX8_ok hown (hts _ kX11_init_15) (hts _ kX11_init_16) (hts _ kX11_init_17) hK.1 hP hS (by decide) rfl hs_dfX8 (Nat.le_of_ble_eq_true rfl) (Nat.le_of_ble_eq_true rfl) dX11_init_61 (fun H hP hS => ?_)
  refine W.widen (k := 89) (n := 129601) (by omega) (by omega) ?_
  refine lv_dup hx hb dX11_init_64 rfl ?_
  obtain ⟨g29, h31, hf⟩ := hs_bv_some hf
  refine hs_callv (va_runI (As := []) (rest := [.ref (B + g26.1), .ref (B + v0)]) ⟨hx, hb, hml, hown, hts⟩ (ctX8_init l B D E g26.1 (hs_new g26 7 0) _ h31) (cwI 0 hts gX11_init_X8_init rfl rfl rfl (hts _ kX11_init_17) (hts _ kX11_init_18) (hts _ kX11_init_19) rfl (by decide +kernel) ⟨Nat.le_of_ble_eq_true rfl, Nat.le_of_ble_eq_true rfl⟩) (hs_pre hP hK) rfl rfl hl.1 rfl (lv_room (Nat.le_of_ble_eq_true rfl)) dX11_init_65 ⟨(Nat.le_of_ble_eq_true rfl), (Nat.le_of_ble_eq_true rfl)⟩) hS (fun H locs hP hS => ?_)
  refine W.widen (k := 90) (n := 129857) (by omega) (by omega) ?_
  obtain ⟨h32, hf⟩ := hs_ck hf
  refine hs_putr (C := RX11) (T := TX11) (N := 8) hx hb hts kX11_init_10 tyX11 tyX11_ok nmX11 hown hK.1 hP hS h32 (by decide) rfl 4 (by decide) (hts _ kX11_init_20) (fun _ h => h) (Or.inr ⟨rfl, hin, rfl⟩) (fun _ => rfl) (fun _ => rfl) rfl dX11_init_68 (fun H locs hP hS => ?_)
  refine lv_aload_n hx hb dX11_init_71 rfl (lv_at hl 0 rfl) ?_
  obtain ⟨g33, e34, hf⟩ := hs_bv_some hf
  replace e34 := Option.some.inj e34
  rw [e34] at hP
  have h35 : hs_kd g33 v0 = 9 := by rw [← e34]; exact h32
  refine hs_newc (ci := 2) (C := RX2) (T := TX2) (N := 1) hx hb hts kX11_init_21 tyX2 tyX2_ok hown (hts _ kX11_init_22) (hts _ kX11_init_23) (hts _ kX11_init_24) hK.1 hP hS (by decide) rfl hs_dfX2 (Nat.le_of_ble_eq_true rfl) (Nat.le_of_ble_eq_true rfl) dX11_init_72 (fun H hP hS => ?_)
  refine W.widen (k := 91) (n := 129858) (by omega) (by omega) ?_
  refine lv_dup hx hb dX11_init_75 rfl ?_
  obtain ⟨g36, h38, hf⟩ := hs_bv_some hf
  refine hs_callv (va_runIN (As := []) (rest := [.ref (B + g33.1), .ref (B + v0)]) ⟨hx, hb, hml, hown, hts⟩ (ctX2_init l B D E g33.1 (hs_new g33 2 0) _ h38) ⟨va_cnB 0 hts gX11_init_X2_init_n36 rfl rfl rfl hK.2.2.2.2.2.1 (hts _ kX11_init_24) (by decide +kernel) ⟨Nat.le_of_ble_eq_true rfl, Nat.le_of_ble_eq_true rfl⟩, rfl, (hts _ kX11_init_25)⟩ (hs_pre hP hK) rfl rfl hl.1 rfl (lv_room (Nat.le_of_ble_eq_true rfl)) dX11_init_76 ⟨(Nat.le_of_ble_eq_true rfl), (Nat.le_of_ble_eq_true rfl)⟩) hS (fun H locs hP hS => ?_)
  refine W.widen (k := 94) (n := 133861) (by omega) (by omega) ?_
  obtain ⟨h39, hf⟩ := hs_ck hf
  refine hs_putr (C := RX11) (T := TX11) (N := 8) hx hb hts kX11_init_10 tyX11 tyX11_ok nmX11 hown hK.1 hP hS h39 (by decide) rfl 5 (by decide) (hts _ kX11_init_26) (fun _ h => h) (Or.inr ⟨rfl, hin, rfl⟩) (fun _ => rfl) (fun _ => rfl) rfl dX11_init_79 (fun H locs hP hS => ?_)
  refine lv_aload_n hx hb dX11_init_82 rfl (lv_at hl 0 rfl) ?_
  obtain ⟨g40, e41, hf⟩ := hs_bv_some hf
  replace e41 := Option.some.inj e41
  rw [e41] at hP
  have h42 : hs_kd g40 v0 = 9 := by rw [← e41]; exact h39
  refine hs_newc (ci := 4) (C := RX5) (T := TX5) (N := 5) hx hb hts kX11_init_27 tyX5 tyX5_ok hown (hts _ kX11_init_28) (hts _ kX11_init_29) (hts _ kX11_init_30) hK.1 hP hS (by decide) rfl hs_dfX5 (Nat.le_of_ble_eq_true rfl) (Nat.le_of_ble_eq_true rfl) dX11_init_83 (fun H hP hS => ?_)
  refine W.widen (k := 95) (n := 133866) (by omega) (by omega) ?_
  refine lv_dup hx hb dX11_init_86 rfl ?_
  obtain ⟨g43, h45, hf⟩ := hs_bv_some hf
  refine hs_callv (va_runIN (As := []) (rest := [.ref (B + g40.1), .ref (B + v0)]) ⟨hx, hb, hml, hown, hts⟩ (ctX5_init l B D E g40.1 (hs_new g40 4 0) _ h45) ⟨va_cnB 0 hts gX11_init_X5_init_n43 rfl rfl rfl hK.2.2.2.2.2.2 (hts _ kX11_init_30) (by decide +kernel) ⟨Nat.le_of_ble_eq_true rfl, Nat.le_of_ble_eq_true rfl⟩, rfl, (hts _ kX11_init_31)⟩ (hs_pre hP hK) rfl rfl hl.1 rfl (lv_room (Nat.le_of_ble_eq_true rfl)) dX11_init_87 ⟨(Nat.le_of_ble_eq_true rfl), (Nat.le_of_ble_eq_true rfl)⟩) hS (fun H locs hP hS => ?_)
  refine W.widen (k := 99) (n := 141867) (by omega) (by omega) ?_
  obtain ⟨h46, hf⟩ := hs_ck hf
  refine hs_putr (C := RX11) (T := TX11) (N := 8) hx hb hts kX11_init_10 tyX11 tyX11_ok nmX11 hown hK.1 hP hS h46 (by decide) rfl 6 (by decide) (hts _ kX11_init_32) (fun _ h => h) (Or.inr ⟨rfl, hin, rfl⟩) (fun _ => rfl) (fun _ => rfl) rfl dX11_init_90 (fun H locs hP hS => ?_)
  refine lv_aload_n hx hb dX11_init_93 rfl (lv_at hl 0 rfl) ?_
  obtain ⟨g47, e48, hf⟩ := hs_bv_some hf
  replace e48 := Option.some.inj e48
  rw [e48] at hP
  have h49 : hs_kd g47 v0 = 9 := by rw [← e48]; exact h46
  refine hs_newc (ci := 5) (C := RX6) (T := TX6) (N := 8) hx hb hts kX11_init_33 tyX6 tyX6_ok hown (hts _ kX11_init_34) (hts _ kX11_init_35) (hts _ kX11_init_36) hK.1 hP hS (by decide) rfl hs_dfX6 (Nat.le_of_ble_eq_true rfl) (Nat.le_of_ble_eq_true rfl) dX11_init_94 (fun H hP hS => ?_)
  refine W.widen (k := 100) (n := 141875) (by omega) (by omega) ?_
  refine lv_dup hx hb dX11_init_97 rfl ?_
  refine lv_aload_n hx hb dX11_init_98 rfl (lv_at hl 0 rfl) ?_
  obtain ⟨h50, hf⟩ := hs_ck hf
  obtain ⟨h51, hf⟩ := hs_ck hf
  refine hs_getr (C := RX11) (T := TX11) (N := 8) hx hb hts kX11_init_10 hown hK.1 hP h50 (by decide) rfl 3 (by decide) (hts _ kX11_init_13) (fun _ h => h) rfl h51 dX11_init_99 ?_
  obtain ⟨g52, h54, hf⟩ := hs_bv_some hf
  refine hs_callv (va_runI (As := [.ref (B + ((hs_R (hs_new g47 5 0) v0 3) - 1))]) (rest := [.ref (B + g47.1), .ref (B + v0)]) ⟨hx, hb, hml, hown, hts⟩ (ctX6_init l B D E g47.1 ((hs_R (hs_new g47 5 0) v0 3) - 1) (hs_new g47 5 0) _ h54) (cwI 1 hts gX11_init_X6_init rfl rfl rfl (hts _ kX11_init_36) (hts _ kX11_init_37) (hts _ kX11_init_38) rfl (by decide +kernel) ⟨Nat.le_of_ble_eq_true rfl, Nat.le_of_ble_eq_true rfl⟩) (hs_pre hP hK) rfl rfl hl.1 rfl (lv_room (Nat.le_of_ble_eq_true rfl)) dX11_init_102 ⟨(Nat.le_of_ble_eq_true rfl), (Nat.le_of_ble_eq_true rfl)⟩) hS (fun H locs hP hS => ?_)
  refine W.widen (k := 284) (n := 148641) (by omega) (by omega) ?_
  obtain ⟨h55, hf⟩ := hs_ck hf
  refine hs_putr (C := RX11) (T := TX11) (N := 8) hx hb hts kX11_init_10 tyX11 tyX11_ok nmX11 hown hK.1 hP hS h55 (by decide) rfl 7 (by decide) (hts _ kX11_init_39) (fun _ h => h) (Or.inr ⟨rfl, hin, rfl⟩) (fun _ => rfl) (fun _ => rfl) rfl dX11_init_105 (fun H locs hP hS => ?_)
  refine W.widen (k := 284) (n := 148641) (by omega) (by omega) ?_
  exact hs_vret hx hb hr hlocks hK hP hS hf dX11_init_108
end
section
theorem dX0_empty_0 : decode cX0_empty 0 = .ok (.aload_n 0, 1) := by decide +kernel
theorem dX0_empty_1 : decode cX0_empty 1 = .ok (.iconst 0, 1) := by decide +kernel
theorem dX0_empty_2 : decode cX0_empty 2 = .ok (.putfield 28, 3) := by decide +kernel
theorem dX0_empty_5 : decode cX0_empty 5 = .ok (.aload_n 0, 1) := by decide +kernel
theorem dX0_empty_6 : decode cX0_empty 6 = .ok (.iconst 0, 1) := by decide +kernel
theorem dX0_empty_7 : decode cX0_empty 7 = .ok (.putfield 32, 3) := by decide +kernel
theorem dX0_empty_10 : decode cX0_empty 10 = .ok (.return_, 1) := by decide +kernel
theorem kX0_empty_0 : Cond.fieldLink RX0 28 "StepRewriter$CodeSet" "used" "I" ∈ wsX0_empty := by decide +kernel
theorem kX0_empty_1 : ∀ w ∈ u_ws RX0 TX0 5, w ∈ wsX0_empty := by decide +kernel
theorem kX0_empty_2 : Cond.fieldLink RX0 32 "StepRewriter$CodeSet" "count" "I" ∈ wsX0_empty := by decide +kernel
def fX0_empty (v0 : Nat) (g : hs_S) : Option (hs_S) :=
  if hs_kd g v0 = 0 then
  some (hs_wI (hs_wI g v0 3 (0 : Int32)) v0 4 (0 : Int32))
  else none
abbrev rmX0_empty : Room := { frames := 0, cells := 0, slots := 0, locals := 0 }
set_option maxHeartbeats 4000000 in
set_option maxRecDepth 100000 in
theorem ctX0_empty (l : Launch) (B : Nat) (D : va_G) (E : Nat → ClassId) (v0 : Nat) (g : hs_S) (o : hs_S) (hf : fX0_empty v0 g = some o) : Met l yX0_empty wsX0_empty rmX0_empty (hs_Pc B D E g [.ref (B + v0)]) (hs_Qv B D E o) (0) (0) (hs_F B) := by
  refine Met.ofW (cc := cX0_empty) (maxL := 1) (ret := none) (by decide) rfl ?_
  intro p e s m args below meth c s₁ Bd hml hv
  obtain ⟨rfl, hP, hK⟩ := hv
  have hx := Bd.exec
  have hb := Bd.bytes
  have hr := Bd.returns
  have hts := atoms_spec (ws := wsX0_empty) Bd.pre
  have hown : s.vm.findClass RX0 = some m.cls := findClass_of_methodNamed Bd.named
  have hlocks := Bd.notSynchronized
  have hS : hs_Sx B s.heap s.heap [] := va_S.rf
  have hX : hs_cx cX0_empty none 1 RX0 wsX0_empty p s m (List.toArray [.ref (B + v0)]) meth c D E := ⟨hx, hb, hr, hml, hown, hts, hlocks, hK⟩
  have hl := lv_entry ([.ref (B + v0)]) (n := 1) (Nat.le_of_ble_eq_true rfl)
  rw [lg_entry_eq]
  generalize (lg_sl ([.ref (B + v0)]) ++ List.replicate (1 - (lg_sl ([.ref (B + v0)])).length) Slot.unset).toArray = ls at hl ⊢
  have hl : lv_has ls 1 [(0, .ref (B + v0))] := hl
  have hP : hs_P B D E g s.heap := hP
  unfold fX0_empty at hf
  refine lv_aload_n hx hb dX0_empty_0 rfl (lv_at hl 0 rfl) ?_
  refine lv_iconst (v := 0) hx hb dX0_empty_1 (by decide) ?_
  obtain ⟨h1, hf⟩ := hs_ck hf
  refine hs_puti (C := RX0) (T := TX0) (N := 5) hx hb hts kX0_empty_1 tyX0 tyX0_ok nmX0 hown hK.1 hP hS h1 (by decide) rfl 3 (by decide) (hts _ kX0_empty_0) (fun _ h => h) (Or.inl rfl) rfl rfl rfl dX0_empty_2 (fun H locs hP hS => ?_)
  refine lv_aload_n hx hb dX0_empty_5 rfl (lv_at hl 0 rfl) ?_
  refine lv_iconst (v := 0) hx hb dX0_empty_6 (by decide) ?_
  refine hs_puti (C := RX0) (T := TX0) (N := 5) hx hb hts kX0_empty_1 tyX0 tyX0_ok nmX0 hown hK.1 hP hS h1 (by decide) rfl 4 (by decide) (hts _ kX0_empty_2) (fun _ h => h) (Or.inl rfl) rfl rfl rfl dX0_empty_7 (fun H locs hP hS => ?_)
  exact hs_vret hx hb hr hlocks hK hP hS hf dX0_empty_10

set_option maxRecDepth 20000 in
theorem ggX0_append_X9_put : GoodIn wsX0_append wsX9_put := goodIn_r _ [6] (by decide +kernel) (by decide +kernel)
set_option maxRecDepth 20000 in
theorem gX0_append_X9_put : GoodIn wsX0_append (va_wsS RX0 35 yX9_put wsX9_put) := goodIn_app (goodIn_of _ (by decide +kernel)) ggX0_append_X9_put
theorem dX0_append_0 : decode cX0_append 0 = .ok (.aload_n 0, 1) := by decide +kernel
theorem dX0_append_1 : decode cX0_append 1 = .ok (.getfield 28, 3) := by decide +kernel
theorem dX0_append_4 : decode cX0_append 4 = .ok (.aload_n 0, 1) := by decide +kernel
theorem dX0_append_5 : decode cX0_append 5 = .ok (.getfield 24, 3) := by decide +kernel
theorem dX0_append_8 : decode cX0_append 8 = .ok (.arraylength, 1) := by decide +kernel
theorem dX0_append_9 : decode cX0_append 9 = .ok (.if_icmp .ge 29, 3) := by decide +kernel
theorem dX0_append_12 : decode cX0_append 12 = .ok (.aload_n 0, 1) := by decide +kernel
theorem dX0_append_13 : decode cX0_append 13 = .ok (.getfield 24, 3) := by decide +kernel
theorem dX0_append_16 : decode cX0_append 16 = .ok (.aload_n 0, 1) := by decide +kernel
theorem dX0_append_17 : decode cX0_append 17 = .ok (.getfield 28, 3) := by decide +kernel
theorem dX0_append_20 : decode cX0_append 20 = .ok (.iload_n 1, 1) := by decide +kernel
theorem dX0_append_21 : decode cX0_append 21 = .ok (.sipush 255, 3) := by decide +kernel
theorem dX0_append_24 : decode cX0_append 24 = .ok (.iand, 1) := by decide +kernel
theorem dX0_append_25 : decode cX0_append 25 = .ok (.invokestatic 35, 3) := by decide +kernel
theorem dX0_append_28 : decode cX0_append 28 = .ok (.aload_n 0, 1) := by decide +kernel
theorem dX0_append_29 : decode cX0_append 29 = .ok (.dup, 1) := by decide +kernel
theorem dX0_append_30 : decode cX0_append 30 = .ok (.getfield 28, 3) := by decide +kernel
theorem dX0_append_33 : decode cX0_append 33 = .ok (.iconst 1, 1) := by decide +kernel
theorem dX0_append_34 : decode cX0_append 34 = .ok (.iadd, 1) := by decide +kernel
theorem dX0_append_35 : decode cX0_append 35 = .ok (.putfield 28, 3) := by decide +kernel
theorem dX0_append_38 : decode cX0_append 38 = .ok (.return_, 1) := by decide +kernel
theorem kX0_append_0 : Cond.fieldLink RX0 28 "StepRewriter$CodeSet" "used" "I" ∈ wsX0_append := by decide +kernel
theorem kX0_append_1 : ∀ w ∈ u_ws RX0 TX0 5, w ∈ wsX0_append := by decide +kernel
theorem kX0_append_2 : Cond.fieldLink RX0 24 "StepRewriter$CodeSet" "row" "[I" ∈ wsX0_append := by decide +kernel
def fX0_append (v0 : Nat) (v1 : Int32) (g : hs_S) : Option (hs_S) :=
  if hs_kd g v0 = 0 then
  if ¬ (hs_R g v0 0) = 0 then
  if hs_kd g ((hs_R g v0 0) - 1) = 100 then
  if (Int32.ofNat (hs_ln g ((hs_R g v0 0) - 1))) ≤ (hs_I g v0 3) then (
    some g
  ) else (
    hs_bv (fX9_put ((hs_R g v0 0) - 1) (hs_I g v0 3) (v1 &&& (255 : Int32)) g) fun g4 =>
    if hs_kd g4 v0 = 0 then
    some (hs_wI g4 v0 3 ((hs_I g4 v0 3) + (1 : Int32)))
    else none
  )
  else none else none else none
abbrev rmX0_append : Room := { frames := 1, cells := 0, slots := 0, locals := 22 }
set_option maxHeartbeats 4000000 in
set_option maxRecDepth 100000 in
theorem ctX0_append (l : Launch) (B : Nat) (D : va_G) (E : Nat → ClassId) (v0 : Nat) (v1 : Int32) (g : hs_S) (o : hs_S) (hf : fX0_append v0 v1 g = some o) : Met l yX0_append wsX0_append rmX0_append (hs_Pc B D E g [.ref (B + v0), .int v1]) (hs_Qv B D E o) (0) (0) (hs_F B) := by
  refine Met.ofW (cc := cX0_append) (maxL := 2) (ret := none) (by decide) rfl ?_
  intro p e s m args below meth c s₁ Bd hml hv
  obtain ⟨rfl, hP, hK⟩ := hv
  have hx := Bd.exec
  have hb := Bd.bytes
  have hr := Bd.returns
  have hts := atoms_spec (ws := wsX0_append) Bd.pre
  have hown : s.vm.findClass RX0 = some m.cls := findClass_of_methodNamed Bd.named
  have hlocks := Bd.notSynchronized
  have hS : hs_Sx B s.heap s.heap [] := va_S.rf
  have hX : hs_cx cX0_append none 2 RX0 wsX0_append p s m (List.toArray [.ref (B + v0), .int v1]) meth c D E := ⟨hx, hb, hr, hml, hown, hts, hlocks, hK⟩
  have hl := lv_entry ([.ref (B + v0), .int v1]) (n := 2) (Nat.le_of_ble_eq_true rfl)
  rw [lg_entry_eq]
  generalize (lg_sl ([.ref (B + v0), .int v1]) ++ List.replicate (2 - (lg_sl ([.ref (B + v0), .int v1])).length) Slot.unset).toArray = ls at hl ⊢
  have hl : lv_has ls 2 [(0, .ref (B + v0)), (1, .int v1)] := hl
  have hP : hs_P B D E g s.heap := hP
  unfold fX0_append at hf
  refine lv_aload_n hx hb dX0_append_0 rfl (lv_at hl 0 rfl) ?_
  obtain ⟨h1, hf⟩ := hs_ck hf
  refine hs_geti (C := RX0) (T := TX0) (N := 5) hx hb hts kX0_append_1 hown hK.1 hP h1 (by decide) rfl 3 (by decide) (hts _ kX0_append_0) (fun _ h => h) rfl dX0_append_1 ?_
  refine lv_aload_n hx hb dX0_append_4 rfl (lv_at hl 0 rfl) ?_
  obtain ⟨h2, hf⟩ := hs_ck hf
  refine hs_getr (C := RX0) (T := TX0) (N := 5) hx hb hts kX0_append_1 hown hK.1 hP h1 (by decide) rfl 0 (by decide) (hts _ kX0_append_2) (fun _ h => h) rfl h2 dX0_append_5 ?_
  obtain ⟨h3, hf⟩ := hs_ck hf
  refine hs_alen (t := 0) hx hb hK.1 hP h3 (by decide) dX0_append_8 ?_
  refine lv_icmp_ge (tgt := 38) hx hb dX0_append_9 (by decide) (fun hc => ?_) (fun hc => ?_)
  · replace hf := hs_t hf hc
    exact hs_vret hx hb hr hlocks hK hP hS hf dX0_append_38
  · replace hf := hs_f hf hc
    refine lv_aload_n hx hb dX0_append_12 rfl (lv_at hl 0 rfl) ?_
    refine hs_getr (C := RX0) (T := TX0) (N := 5) hx hb hts kX0_append_1 hown hK.1 hP h1 (by decide) rfl 0 (by decide) (hts _ kX0_append_2) (fun _ h => h) rfl h2 dX0_append_13 ?_
    refine lv_aload_n hx hb dX0_append_16 rfl (lv_at hl 0 rfl) ?_
    refine hs_geti (C := RX0) (T := TX0) (N := 5) hx hb hts kX0_append_1 hown hK.1 hP h1 (by decide) rfl 3 (by decide) (hts _ kX0_append_0) (fun _ h => h) rfl dX0_append_17 ?_
    refine lv_iload_n hx hb dX0_append_20 rfl (lv_at hl 1 rfl) ?_
    refine lv_sipush (v := 255) hx hb dX0_append_21 (by decide) ?_
    refine lv_iand hx hb dX0_append_24 ?_
    obtain ⟨g4, h6, hf⟩ := hs_bv_some hf
    refine hs_callv (va_runS (As := [.ref (B + ((hs_R g v0 0) - 1)), .int (hs_I g v0 3), .int (v1 &&& (255 : Int32))]) (rest := []) ⟨hx, hb, hml, hown, hts⟩ (ctX9_put l B D E ((hs_R g v0 0) - 1) (hs_I g v0 3) (v1 &&& (255 : Int32)) g _ h6) (va_cwS 3 hts gX0_append_X9_put rfl rfl rfl (by decide +kernel) ⟨Nat.le_of_ble_eq_true rfl, Nat.le_of_ble_eq_true rfl⟩) (hs_pre hP hK) rfl rfl hl.1 rfl (lv_room (Nat.le_of_ble_eq_true rfl)) dX0_append_25 ⟨(Nat.le_of_ble_eq_true rfl), (Nat.le_of_ble_eq_true rfl)⟩) hS (fun H locs hP hS => ?_)
    refine lv_aload_n hx hb dX0_append_28 rfl (lv_at hl 0 rfl) ?_
    refine lv_dup hx hb dX0_append_29 rfl ?_
    obtain ⟨h7, hf⟩ := hs_ck hf
    refine hs_geti (C := RX0) (T := TX0) (N := 5) hx hb hts kX0_append_1 hown hK.1 hP h7 (by decide) rfl 3 (by decide) (hts _ kX0_append_0) (fun _ h => h) rfl dX0_append_30 ?_
    refine lv_iconst (v := 1) hx hb dX0_append_33 (by decide) ?_
    refine lv_iadd hx hb dX0_append_34 ?_
    refine hs_puti (C := RX0) (T := TX0) (N := 5) hx hb hts kX0_append_1 tyX0 tyX0_ok nmX0 hown hK.1 hP hS h7 (by decide) rfl 3 (by decide) (hts _ kX0_append_0) (fun _ h => h) (Or.inl rfl) rfl rfl rfl dX0_append_35 (fun H locs hP hS => ?_)
    exact hs_vret hx hb hr hlocks hK hP hS hf dX0_append_38

set_option maxRecDepth 20000 in
theorem ggX0_valueAt_X9_at : GoodIn wsX0_valueAt wsX9_at := goodIn_r _ [6] (by decide +kernel) (by decide +kernel)
set_option maxRecDepth 20000 in
theorem gX0_valueAt_X9_at : GoodIn wsX0_valueAt (va_wsS RX0 45 yX9_at wsX9_at) := goodIn_app (goodIn_of _ (by decide +kernel)) ggX0_valueAt_X9_at
theorem dX0_valueAt_0 : decode cX0_valueAt 0 = .ok (.iload_n 1, 1) := by decide +kernel
theorem dX0_valueAt_1 : decode cX0_valueAt 1 = .ok (.aload_n 0, 1) := by decide +kernel
theorem dX0_valueAt_2 : decode cX0_valueAt 2 = .ok (.getfield 28, 3) := by decide +kernel
theorem dX0_valueAt_5 : decode cX0_valueAt 5 = .ok (.if_icmp .ge 18, 3) := by decide +kernel
theorem dX0_valueAt_8 : decode cX0_valueAt 8 = .ok (.aload_n 0, 1) := by decide +kernel
theorem dX0_valueAt_9 : decode cX0_valueAt 9 = .ok (.getfield 24, 3) := by decide +kernel
theorem dX0_valueAt_12 : decode cX0_valueAt 12 = .ok (.iload_n 1, 1) := by decide +kernel
theorem dX0_valueAt_13 : decode cX0_valueAt 13 = .ok (.invokestatic 45, 3) := by decide +kernel
theorem dX0_valueAt_16 : decode cX0_valueAt 16 = .ok (.sipush 255, 3) := by decide +kernel
theorem dX0_valueAt_19 : decode cX0_valueAt 19 = .ok (.iand, 1) := by decide +kernel
theorem dX0_valueAt_20 : decode cX0_valueAt 20 = .ok (.goto 4, 3) := by decide +kernel
theorem dX0_valueAt_23 : decode cX0_valueAt 23 = .ok (.iconst 0, 1) := by decide +kernel
theorem dX0_valueAt_24 : decode cX0_valueAt 24 = .ok (.ireturn, 1) := by decide +kernel
theorem kX0_valueAt_0 : Cond.fieldLink RX0 28 "StepRewriter$CodeSet" "used" "I" ∈ wsX0_valueAt := by decide +kernel
theorem kX0_valueAt_1 : ∀ w ∈ u_ws RX0 TX0 5, w ∈ wsX0_valueAt := by decide +kernel
theorem kX0_valueAt_2 : Cond.fieldLink RX0 24 "StepRewriter$CodeSet" "row" "[I" ∈ wsX0_valueAt := by decide +kernel
def fX0_valueAt (v0 : Nat) (v1 : Int32) (g : hs_S) : Option (Int32 × hs_S) :=
  if hs_kd g v0 = 0 then
  if (hs_I g v0 3) ≤ v1 then (
    some ((0 : Int32), g)
  ) else (
    if ¬ (hs_R g v0 0) = 0 then
    hs_bd (fX9_at ((hs_R g v0 0) - 1) v1 g) fun r4 g3 =>
    some ((r4 &&& (255 : Int32)), g3)
    else none
  )
  else none
abbrev rmX0_valueAt : Room := { frames := 1, cells := 0, slots := 0, locals := 21 }
set_option maxHeartbeats 4000000 in
set_option maxRecDepth 100000 in
theorem ctX0_valueAt (l : Launch) (B : Nat) (D : va_G) (E : Nat → ClassId) (v0 : Nat) (v1 : Int32) (g : hs_S) (o : Int32 × hs_S) (hf : fX0_valueAt v0 v1 g = some o) : Met l yX0_valueAt wsX0_valueAt rmX0_valueAt (hs_Pc B D E g [.ref (B + v0), .int v1]) (hs_Qi B D E o) (0) (0) (hs_F B) := by
  refine Met.ofW (cc := cX0_valueAt) (maxL := 2) (ret := (some .int)) (by decide) rfl ?_
  intro p e s m args below meth c s₁ Bd hml hv
  obtain ⟨rfl, hP, hK⟩ := hv
  have hx := Bd.exec
  have hb := Bd.bytes
  have hr := Bd.returns
  have hts := atoms_spec (ws := wsX0_valueAt) Bd.pre
  have hown : s.vm.findClass RX0 = some m.cls := findClass_of_methodNamed Bd.named
  have hlocks := Bd.notSynchronized
  have hS : hs_Sx B s.heap s.heap [] := va_S.rf
  have hX : hs_cx cX0_valueAt (some .int) 2 RX0 wsX0_valueAt p s m (List.toArray [.ref (B + v0), .int v1]) meth c D E := ⟨hx, hb, hr, hml, hown, hts, hlocks, hK⟩
  have hl := lv_entry ([.ref (B + v0), .int v1]) (n := 2) (Nat.le_of_ble_eq_true rfl)
  rw [lg_entry_eq]
  generalize (lg_sl ([.ref (B + v0), .int v1]) ++ List.replicate (2 - (lg_sl ([.ref (B + v0), .int v1])).length) Slot.unset).toArray = ls at hl ⊢
  have hl : lv_has ls 2 [(0, .ref (B + v0)), (1, .int v1)] := hl
  have hP : hs_P B D E g s.heap := hP
  unfold fX0_valueAt at hf
  refine lv_iload_n hx hb dX0_valueAt_0 rfl (lv_at hl 1 rfl) ?_
  refine lv_aload_n hx hb dX0_valueAt_1 rfl (lv_at hl 0 rfl) ?_
  obtain ⟨h1, hf⟩ := hs_ck hf
  refine hs_geti (C := RX0) (T := TX0) (N := 5) hx hb hts kX0_valueAt_1 hown hK.1 hP h1 (by decide) rfl 3 (by decide) (hts _ kX0_valueAt_0) (fun _ h => h) rfl dX0_valueAt_2 ?_
  refine lv_icmp_ge (tgt := 23) hx hb dX0_valueAt_5 (by decide) (fun hc => ?_) (fun hc => ?_)
  · replace hf := hs_t hf hc
    refine lv_iconst (v := 0) hx hb dX0_valueAt_23 (by decide) ?_
    exact hs_iret hx hb hr hlocks rfl hK hP hS hf dX0_valueAt_24
  · replace hf := hs_f hf hc
    refine lv_aload_n hx hb dX0_valueAt_8 rfl (lv_at hl 0 rfl) ?_
    obtain ⟨h2, hf⟩ := hs_ck hf
    refine hs_getr (C := RX0) (T := TX0) (N := 5) hx hb hts kX0_valueAt_1 hown hK.1 hP h1 (by decide) rfl 0 (by decide) (hts _ kX0_valueAt_2) (fun _ h => h) rfl h2 dX0_valueAt_9 ?_
    refine lv_iload_n hx hb dX0_valueAt_12 rfl (lv_at hl 1 rfl) ?_
    obtain ⟨r4, g3, h5, hf⟩ := hs_bd_some hf
    refine hs_calli (va_runS (As := [.ref (B + ((hs_R g v0 0) - 1)), .int v1]) (rest := []) ⟨hx, hb, hml, hown, hts⟩ (ctX9_at l B D E ((hs_R g v0 0) - 1) v1 g _ h5) (va_cwS 2 hts gX0_valueAt_X9_at rfl rfl rfl (by decide +kernel) ⟨Nat.le_of_ble_eq_true rfl, Nat.le_of_ble_eq_true rfl⟩) (hs_pre hP hK) rfl rfl hl.1 rfl (lv_room (Nat.le_of_ble_eq_true rfl)) dX0_valueAt_13 ⟨(Nat.le_of_ble_eq_true rfl), (Nat.le_of_ble_eq_true rfl)⟩) hS (fun H locs hP hS => ?_)
    refine lv_sipush (v := 255) hx hb dX0_valueAt_16 (by decide) ?_
    refine lv_iand hx hb dX0_valueAt_19 ?_
    refine lv_goto (tgt := 24) hx hb dX0_valueAt_20 (by decide) ?_
    exact hs_iret hx hb hr hlocks rfl hK hP hS hf dX0_valueAt_24

theorem dX0_has_0 : decode cX0_has 0 = .ok (.iload_n 1, 1) := by decide +kernel
theorem dX0_has_1 : decode cX0_has 1 = .ok (.ifCond .lt 15, 3) := by decide +kernel
theorem dX0_has_4 : decode cX0_has 4 = .ok (.iload_n 1, 1) := by decide +kernel
theorem dX0_has_5 : decode cX0_has 5 = .ok (.aload_n 0, 1) := by decide +kernel
theorem dX0_has_6 : decode cX0_has 6 = .ok (.getfield 32, 3) := by decide +kernel
theorem dX0_has_9 : decode cX0_has 9 = .ok (.if_icmp .ge 7, 3) := by decide +kernel
theorem dX0_has_12 : decode cX0_has 12 = .ok (.iconst 1, 1) := by decide +kernel
theorem dX0_has_13 : decode cX0_has 13 = .ok (.goto 4, 3) := by decide +kernel
theorem dX0_has_16 : decode cX0_has 16 = .ok (.iconst 0, 1) := by decide +kernel
theorem dX0_has_17 : decode cX0_has 17 = .ok (.ireturn, 1) := by decide +kernel
theorem kX0_has_0 : Cond.fieldLink RX0 32 "StepRewriter$CodeSet" "count" "I" ∈ wsX0_has := by decide +kernel
theorem kX0_has_1 : ∀ w ∈ u_ws RX0 TX0 5, w ∈ wsX0_has := by decide +kernel
def fX0_has (v0 : Nat) (v1 : Int32) (g : hs_S) : Option (Int32 × hs_S) :=
  if v1 < 0 then (
    some ((0 : Int32), g)
  ) else (
    if hs_kd g v0 = 0 then
    if (hs_I g v0 4) ≤ v1 then (
      some ((0 : Int32), g)
    ) else (
      some ((1 : Int32), g)
    )
    else none
  )
abbrev rmX0_has : Room := { frames := 0, cells := 0, slots := 0, locals := 0 }
set_option maxHeartbeats 4000000 in
set_option maxRecDepth 100000 in
theorem ctX0_has (l : Launch) (B : Nat) (D : va_G) (E : Nat → ClassId) (v0 : Nat) (v1 : Int32) (g : hs_S) (o : Int32 × hs_S) (hf : fX0_has v0 v1 g = some o) : Met l yX0_has wsX0_has rmX0_has (hs_Pc B D E g [.ref (B + v0), .int v1]) (hs_Qi B D E o) (0) (0) (hs_F B) := by
  refine Met.ofW (cc := cX0_has) (maxL := 2) (ret := (some .boolean)) (by decide) rfl ?_
  intro p e s m args below meth c s₁ Bd hml hv
  obtain ⟨rfl, hP, hK⟩ := hv
  have hx := Bd.exec
  have hb := Bd.bytes
  have hr := Bd.returns
  have hts := atoms_spec (ws := wsX0_has) Bd.pre
  have hown : s.vm.findClass RX0 = some m.cls := findClass_of_methodNamed Bd.named
  have hlocks := Bd.notSynchronized
  have hS : hs_Sx B s.heap s.heap [] := va_S.rf
  have hX : hs_cx cX0_has (some .boolean) 2 RX0 wsX0_has p s m (List.toArray [.ref (B + v0), .int v1]) meth c D E := ⟨hx, hb, hr, hml, hown, hts, hlocks, hK⟩
  have hl := lv_entry ([.ref (B + v0), .int v1]) (n := 2) (Nat.le_of_ble_eq_true rfl)
  rw [lg_entry_eq]
  generalize (lg_sl ([.ref (B + v0), .int v1]) ++ List.replicate (2 - (lg_sl ([.ref (B + v0), .int v1])).length) Slot.unset).toArray = ls at hl ⊢
  have hl : lv_has ls 2 [(0, .ref (B + v0)), (1, .int v1)] := hl
  have hP : hs_P B D E g s.heap := hP
  unfold fX0_has at hf
  refine lv_iload_n hx hb dX0_has_0 rfl (lv_at hl 1 rfl) ?_
  refine lv_if_lt (tgt := 16) hx hb dX0_has_1 (by decide) (fun hc => ?_) (fun hc => ?_)
  · replace hf := hs_t hf hc
    refine lv_iconst (v := 0) hx hb dX0_has_16 (by decide) ?_
    exact hs_iret hx hb hr hlocks (hs_01_nar (rfl)) hK hP hS hf dX0_has_17
  · replace hf := hs_f hf hc
    refine lv_iload_n hx hb dX0_has_4 rfl (lv_at hl 1 rfl) ?_
    refine lv_aload_n hx hb dX0_has_5 rfl (lv_at hl 0 rfl) ?_
    obtain ⟨h1, hf⟩ := hs_ck hf
    refine hs_geti (C := RX0) (T := TX0) (N := 5) hx hb hts kX0_has_1 hown hK.1 hP h1 (by decide) rfl 4 (by decide) (hts _ kX0_has_0) (fun _ h => h) rfl dX0_has_6 ?_
    refine lv_icmp_ge (tgt := 16) hx hb dX0_has_9 (by decide) (fun hc => ?_) (fun hc => ?_)
    · replace hf := hs_t hf hc
      refine lv_iconst (v := 0) hx hb dX0_has_16 (by decide) ?_
      exact hs_iret hx hb hr hlocks (hs_01_nar (rfl)) hK hP hS hf dX0_has_17
    · replace hf := hs_f hf hc
      refine lv_iconst (v := 1) hx hb dX0_has_12 (by decide) ?_
      refine lv_goto (tgt := 17) hx hb dX0_has_13 (by decide) ?_
      exact hs_iret hx hb hr hlocks (hs_01_nar (rfl)) hK hP hS hf dX0_has_17

set_option maxRecDepth 20000 in
theorem ggX8_of_X9_at : GoodIn wsX8_of wsX9_at := goodIn_r _ [5] (by decide +kernel) (by decide +kernel)
set_option maxRecDepth 20000 in
theorem gX8_of_X9_at : GoodIn wsX8_of (va_wsS RX8 30 yX9_at wsX9_at) := goodIn_app (goodIn_of _ (by decide +kernel)) ggX8_of_X9_at
theorem dX8_of_0 : decode cX8_of 0 = .ok (.aload_n 0, 1) := by decide +kernel
theorem dX8_of_1 : decode cX8_of 1 = .ok (.getfield 9, 3) := by decide +kernel
theorem dX8_of_4 : decode cX8_of 4 = .ok (.iload_n 1, 1) := by decide +kernel
theorem dX8_of_5 : decode cX8_of 5 = .ok (.invokestatic 30, 3) := by decide +kernel
theorem dX8_of_8 : decode cX8_of 8 = .ok (.ireturn, 1) := by decide +kernel
theorem kX8_of_0 : Cond.fieldLink RX8 9 "StepRewriter$Prices" "row" "[I" ∈ wsX8_of := by decide +kernel
theorem kX8_of_1 : ∀ w ∈ u_ws RX8 TX8 1, w ∈ wsX8_of := by decide +kernel
def fX8_of (v0 : Nat) (v1 : Int32) (g : hs_S) : Option (Int32 × hs_S) :=
  if hs_kd g v0 = 7 then
  if ¬ (hs_R g v0 0) = 0 then
  hs_bd (fX9_at ((hs_R g v0 0) - 1) v1 g) fun r4 g3 =>
  some (r4, g3)
  else none else none
abbrev rmX8_of : Room := { frames := 1, cells := 0, slots := 0, locals := 21 }
set_option maxHeartbeats 4000000 in
set_option maxRecDepth 100000 in
theorem ctX8_of (l : Launch) (B : Nat) (D : va_G) (E : Nat → ClassId) (v0 : Nat) (v1 : Int32) (g : hs_S) (o : Int32 × hs_S) (hf : fX8_of v0 v1 g = some o) : Met l yX8_of wsX8_of rmX8_of (hs_Pc B D E g [.ref (B + v0), .int v1]) (hs_Qi B D E o) (0) (0) (hs_F B) := by
  refine Met.ofW (cc := cX8_of) (maxL := 2) (ret := (some .int)) (by decide) rfl ?_
  intro p e s m args below meth c s₁ Bd hml hv
  obtain ⟨rfl, hP, hK⟩ := hv
  have hx := Bd.exec
  have hb := Bd.bytes
  have hr := Bd.returns
  have hts := atoms_spec (ws := wsX8_of) Bd.pre
  have hown : s.vm.findClass RX8 = some m.cls := findClass_of_methodNamed Bd.named
  have hlocks := Bd.notSynchronized
  have hS : hs_Sx B s.heap s.heap [] := va_S.rf
  have hX : hs_cx cX8_of (some .int) 2 RX8 wsX8_of p s m (List.toArray [.ref (B + v0), .int v1]) meth c D E := ⟨hx, hb, hr, hml, hown, hts, hlocks, hK⟩
  have hl := lv_entry ([.ref (B + v0), .int v1]) (n := 2) (Nat.le_of_ble_eq_true rfl)
  rw [lg_entry_eq]
  generalize (lg_sl ([.ref (B + v0), .int v1]) ++ List.replicate (2 - (lg_sl ([.ref (B + v0), .int v1])).length) Slot.unset).toArray = ls at hl ⊢
  have hl : lv_has ls 2 [(0, .ref (B + v0)), (1, .int v1)] := hl
  have hP : hs_P B D E g s.heap := hP
  unfold fX8_of at hf
  refine lv_aload_n hx hb dX8_of_0 rfl (lv_at hl 0 rfl) ?_
  obtain ⟨h1, hf⟩ := hs_ck hf
  obtain ⟨h2, hf⟩ := hs_ck hf
  refine hs_getr (C := RX8) (T := TX8) (N := 1) hx hb hts kX8_of_1 hown hK.1 hP h1 (by decide) rfl 0 (by decide) (hts _ kX8_of_0) (fun _ h => h) rfl h2 dX8_of_1 ?_
  refine lv_iload_n hx hb dX8_of_4 rfl (lv_at hl 1 rfl) ?_
  obtain ⟨r4, g3, h5, hf⟩ := hs_bd_some hf
  refine hs_calli (va_runS (As := [.ref (B + ((hs_R g v0 0) - 1)), .int v1]) (rest := []) ⟨hx, hb, hml, hown, hts⟩ (ctX9_at l B D E ((hs_R g v0 0) - 1) v1 g _ h5) (va_cwS 2 hts gX8_of_X9_at rfl rfl rfl (by decide +kernel) ⟨Nat.le_of_ble_eq_true rfl, Nat.le_of_ble_eq_true rfl⟩) (hs_pre hP hK) rfl rfl hl.1 rfl (lv_room (Nat.le_of_ble_eq_true rfl)) dX8_of_5 ⟨(Nat.le_of_ble_eq_true rfl), (Nat.le_of_ble_eq_true rfl)⟩) hS (fun H locs hP hS => ?_)
  exact hs_iret hx hb hr hlocks rfl hK hP hS hf dX8_of_8

set_option maxRecDepth 20000 in
theorem ggX8_become_X9_put : GoodIn wsX8_become wsX9_put := goodIn_r _ [5] (by decide +kernel) (by decide +kernel)
set_option maxRecDepth 20000 in
theorem gX8_become_X9_put : GoodIn wsX8_become (va_wsS RX8 24 yX9_put wsX9_put) := goodIn_app (goodIn_of _ (by decide +kernel)) ggX8_become_X9_put
theorem dX8_become_0 : decode cX8_become 0 = .ok (.aload_n 0, 1) := by decide +kernel
theorem dX8_become_1 : decode cX8_become 1 = .ok (.getfield 9, 3) := by decide +kernel
theorem dX8_become_4 : decode cX8_become 4 = .ok (.iload_n 1, 1) := by decide +kernel
theorem dX8_become_5 : decode cX8_become 5 = .ok (.iload_n 2, 1) := by decide +kernel
theorem dX8_become_6 : decode cX8_become 6 = .ok (.invokestatic 24, 3) := by decide +kernel
theorem dX8_become_9 : decode cX8_become 9 = .ok (.return_, 1) := by decide +kernel
theorem kX8_become_0 : Cond.fieldLink RX8 9 "StepRewriter$Prices" "row" "[I" ∈ wsX8_become := by decide +kernel
theorem kX8_become_1 : ∀ w ∈ u_ws RX8 TX8 1, w ∈ wsX8_become := by decide +kernel
def fX8_become (v0 : Nat) (v1 : Int32) (v2 : Int32) (g : hs_S) : Option (hs_S) :=
  if hs_kd g v0 = 7 then
  if ¬ (hs_R g v0 0) = 0 then
  hs_bv (fX9_put ((hs_R g v0 0) - 1) v1 v2 g) fun g3 =>
  some g3
  else none else none
abbrev rmX8_become : Room := { frames := 1, cells := 0, slots := 0, locals := 22 }
set_option maxHeartbeats 4000000 in
set_option maxRecDepth 100000 in
theorem ctX8_become (l : Launch) (B : Nat) (D : va_G) (E : Nat → ClassId) (v0 : Nat) (v1 : Int32) (v2 : Int32) (g : hs_S) (o : hs_S) (hf : fX8_become v0 v1 v2 g = some o) : Met l yX8_become wsX8_become rmX8_become (hs_Pc B D E g [.ref (B + v0), .int v1, .int v2]) (hs_Qv B D E o) (0) (0) (hs_F B) := by
  refine Met.ofW (cc := cX8_become) (maxL := 3) (ret := none) (by decide) rfl ?_
  intro p e s m args below meth c s₁ Bd hml hv
  obtain ⟨rfl, hP, hK⟩ := hv
  have hx := Bd.exec
  have hb := Bd.bytes
  have hr := Bd.returns
  have hts := atoms_spec (ws := wsX8_become) Bd.pre
  have hown : s.vm.findClass RX8 = some m.cls := findClass_of_methodNamed Bd.named
  have hlocks := Bd.notSynchronized
  have hS : hs_Sx B s.heap s.heap [] := va_S.rf
  have hX : hs_cx cX8_become none 3 RX8 wsX8_become p s m (List.toArray [.ref (B + v0), .int v1, .int v2]) meth c D E := ⟨hx, hb, hr, hml, hown, hts, hlocks, hK⟩
  have hl := lv_entry ([.ref (B + v0), .int v1, .int v2]) (n := 3) (Nat.le_of_ble_eq_true rfl)
  rw [lg_entry_eq]
  generalize (lg_sl ([.ref (B + v0), .int v1, .int v2]) ++ List.replicate (3 - (lg_sl ([.ref (B + v0), .int v1, .int v2])).length) Slot.unset).toArray = ls at hl ⊢
  have hl : lv_has ls 3 [(0, .ref (B + v0)), (1, .int v1), (2, .int v2)] := hl
  have hP : hs_P B D E g s.heap := hP
  unfold fX8_become at hf
  refine lv_aload_n hx hb dX8_become_0 rfl (lv_at hl 0 rfl) ?_
  obtain ⟨h1, hf⟩ := hs_ck hf
  obtain ⟨h2, hf⟩ := hs_ck hf
  refine hs_getr (C := RX8) (T := TX8) (N := 1) hx hb hts kX8_become_1 hown hK.1 hP h1 (by decide) rfl 0 (by decide) (hts _ kX8_become_0) (fun _ h => h) rfl h2 dX8_become_1 ?_
  refine lv_iload_n hx hb dX8_become_4 rfl (lv_at hl 1 rfl) ?_
  refine lv_iload_n hx hb dX8_become_5 rfl (lv_at hl 2 rfl) ?_
  obtain ⟨g3, h5, hf⟩ := hs_bv_some hf
  refine hs_callv (va_runS (As := [.ref (B + ((hs_R g v0 0) - 1)), .int v1, .int v2]) (rest := []) ⟨hx, hb, hml, hown, hts⟩ (ctX9_put l B D E ((hs_R g v0 0) - 1) v1 v2 g _ h5) (va_cwS 3 hts gX8_become_X9_put rfl rfl rfl (by decide +kernel) ⟨Nat.le_of_ble_eq_true rfl, Nat.le_of_ble_eq_true rfl⟩) (hs_pre hP hK) rfl rfl hl.1 rfl (lv_room (Nat.le_of_ble_eq_true rfl)) dX8_become_6 ⟨(Nat.le_of_ble_eq_true rfl), (Nat.le_of_ble_eq_true rfl)⟩) hS (fun H locs hP hS => ?_)
  exact hs_vret hx hb hr hlocks hK hP hS hf dX8_become_9

set_option maxRecDepth 20000 in
theorem ggX10_empty_J7_fill_53178 : GoodIn wsX10_empty wsJ7_fill_53178 := goodIn_r _ [5] (by decide +kernel) (by decide +kernel)
set_option maxRecDepth 20000 in
theorem gX10_empty_J7_fill_53178 : GoodIn wsX10_empty (va_wsS RX10 18 yJ7_fill_53178 wsJ7_fill_53178) := goodIn_app (goodIn_of _ (by decide +kernel)) ggX10_empty_J7_fill_53178
theorem dX10_empty_0 : decode cX10_empty 0 = .ok (.aload_n 0, 1) := by decide +kernel
theorem dX10_empty_1 : decode cX10_empty 1 = .ok (.getfield 9, 3) := by decide +kernel
theorem dX10_empty_4 : decode cX10_empty 4 = .ok (.iconst 0, 1) := by decide +kernel
theorem dX10_empty_5 : decode cX10_empty 5 = .ok (.invokestatic 18, 3) := by decide +kernel
theorem dX10_empty_8 : decode cX10_empty 8 = .ok (.return_, 1) := by decide +kernel
theorem kX10_empty_0 : Cond.fieldLink RX10 9 "StepRewriter$RunArrays" "sizes" "[I" ∈ wsX10_empty := by decide +kernel
theorem kX10_empty_1 : ∀ w ∈ u_ws RX10 TX10 2, w ∈ wsX10_empty := by decide +kernel
def fX10_empty (v0 : Nat) (g : hs_S) : Option (hs_S) :=
  if hs_kd g v0 = 8 then
  if ¬ (hs_R g v0 0) = 0 then
  hs_bv (fJ7_fill_53178 ((hs_R g v0 0) - 1) (0 : Int32) g) fun g3 =>
  some g3
  else none else none
abbrev rmX10_empty : Room := { frames := 1, cells := 0, slots := 0, locals := 23 }
set_option maxHeartbeats 4000000 in
set_option maxRecDepth 100000 in
theorem ctX10_empty (l : Launch) (B : Nat) (D : va_G) (E : Nat → ClassId) (v0 : Nat) (g : hs_S) (o : hs_S) (hf : fX10_empty v0 g = some o) : Met l yX10_empty wsX10_empty rmX10_empty (hs_Pc B D E g [.ref (B + v0)]) (hs_Qv B D E o) (0) (0) (hs_F B) := by
  refine Met.ofW (cc := cX10_empty) (maxL := 1) (ret := none) (by decide) rfl ?_
  intro p e s m args below meth c s₁ Bd hml hv
  obtain ⟨rfl, hP, hK⟩ := hv
  have hx := Bd.exec
  have hb := Bd.bytes
  have hr := Bd.returns
  have hts := atoms_spec (ws := wsX10_empty) Bd.pre
  have hown : s.vm.findClass RX10 = some m.cls := findClass_of_methodNamed Bd.named
  have hlocks := Bd.notSynchronized
  have hS : hs_Sx B s.heap s.heap [] := va_S.rf
  have hX : hs_cx cX10_empty none 1 RX10 wsX10_empty p s m (List.toArray [.ref (B + v0)]) meth c D E := ⟨hx, hb, hr, hml, hown, hts, hlocks, hK⟩
  have hl := lv_entry ([.ref (B + v0)]) (n := 1) (Nat.le_of_ble_eq_true rfl)
  rw [lg_entry_eq]
  generalize (lg_sl ([.ref (B + v0)]) ++ List.replicate (1 - (lg_sl ([.ref (B + v0)])).length) Slot.unset).toArray = ls at hl ⊢
  have hl : lv_has ls 1 [(0, .ref (B + v0))] := hl
  have hP : hs_P B D E g s.heap := hP
  unfold fX10_empty at hf
  refine lv_aload_n hx hb dX10_empty_0 rfl (lv_at hl 0 rfl) ?_
  obtain ⟨h1, hf⟩ := hs_ck hf
  obtain ⟨h2, hf⟩ := hs_ck hf
  refine hs_getr (C := RX10) (T := TX10) (N := 2) hx hb hts kX10_empty_1 hown hK.1 hP h1 (by decide) rfl 0 (by decide) (hts _ kX10_empty_0) (fun _ h => h) rfl h2 dX10_empty_1 ?_
  refine lv_iconst (v := 0) hx hb dX10_empty_4 (by decide) ?_
  obtain ⟨g3, h5, hf⟩ := hs_bv_some hf
  refine hs_callv (va_runS (As := [.ref (B + ((hs_R g v0 0) - 1)), .int (0 : Int32)]) (rest := []) ⟨hx, hb, hml, hown, hts⟩ (ctJ7_fill_53178 l B D E ((hs_R g v0 0) - 1) (0 : Int32) g _ h5) (va_cwS 2 hts gX10_empty_J7_fill_53178 rfl rfl rfl (by decide +kernel) ⟨Nat.le_of_ble_eq_true rfl, Nat.le_of_ble_eq_true rfl⟩) (hs_pre hP hK) rfl rfl hl.1 rfl (lv_room (Nat.le_of_ble_eq_true rfl)) dX10_empty_5 ⟨(Nat.le_of_ble_eq_true rfl), (Nat.le_of_ble_eq_true rfl)⟩) hS (fun H locs hP hS => ?_)
  exact hs_vret hx hb hr hlocks hK hP hS hf dX10_empty_8

set_option maxRecDepth 20000 in
theorem ggX10_sizeOf_X9_at : GoodIn wsX10_sizeOf wsX9_at := goodIn_r _ [5] (by decide +kernel) (by decide +kernel)
set_option maxRecDepth 20000 in
theorem gX10_sizeOf_X9_at : GoodIn wsX10_sizeOf (va_wsS RX10 35 yX9_at wsX9_at) := goodIn_app (goodIn_of _ (by decide +kernel)) ggX10_sizeOf_X9_at
theorem dX10_sizeOf_0 : decode cX10_sizeOf 0 = .ok (.aload_n 0, 1) := by decide +kernel
theorem dX10_sizeOf_1 : decode cX10_sizeOf 1 = .ok (.getfield 9, 3) := by decide +kernel
theorem dX10_sizeOf_4 : decode cX10_sizeOf 4 = .ok (.iload_n 1, 1) := by decide +kernel
theorem dX10_sizeOf_5 : decode cX10_sizeOf 5 = .ok (.invokestatic 35, 3) := by decide +kernel
theorem dX10_sizeOf_8 : decode cX10_sizeOf 8 = .ok (.ireturn, 1) := by decide +kernel
theorem kX10_sizeOf_0 : Cond.fieldLink RX10 9 "StepRewriter$RunArrays" "sizes" "[I" ∈ wsX10_sizeOf := by decide +kernel
theorem kX10_sizeOf_1 : ∀ w ∈ u_ws RX10 TX10 2, w ∈ wsX10_sizeOf := by decide +kernel
def fX10_sizeOf (v0 : Nat) (v1 : Int32) (g : hs_S) : Option (Int32 × hs_S) :=
  if hs_kd g v0 = 8 then
  if ¬ (hs_R g v0 0) = 0 then
  hs_bd (fX9_at ((hs_R g v0 0) - 1) v1 g) fun r4 g3 =>
  some (r4, g3)
  else none else none
abbrev rmX10_sizeOf : Room := { frames := 1, cells := 0, slots := 0, locals := 21 }
set_option maxHeartbeats 4000000 in
set_option maxRecDepth 100000 in
theorem ctX10_sizeOf (l : Launch) (B : Nat) (D : va_G) (E : Nat → ClassId) (v0 : Nat) (v1 : Int32) (g : hs_S) (o : Int32 × hs_S) (hf : fX10_sizeOf v0 v1 g = some o) : Met l yX10_sizeOf wsX10_sizeOf rmX10_sizeOf (hs_Pc B D E g [.ref (B + v0), .int v1]) (hs_Qi B D E o) (0) (0) (hs_F B) := by
  refine Met.ofW (cc := cX10_sizeOf) (maxL := 2) (ret := (some .int)) (by decide) rfl ?_
  intro p e s m args below meth c s₁ Bd hml hv
  obtain ⟨rfl, hP, hK⟩ := hv
  have hx := Bd.exec
  have hb := Bd.bytes
  have hr := Bd.returns
  have hts := atoms_spec (ws := wsX10_sizeOf) Bd.pre
  have hown : s.vm.findClass RX10 = some m.cls := findClass_of_methodNamed Bd.named
  have hlocks := Bd.notSynchronized
  have hS : hs_Sx B s.heap s.heap [] := va_S.rf
  have hX : hs_cx cX10_sizeOf (some .int) 2 RX10 wsX10_sizeOf p s m (List.toArray [.ref (B + v0), .int v1]) meth c D E := ⟨hx, hb, hr, hml, hown, hts, hlocks, hK⟩
  have hl := lv_entry ([.ref (B + v0), .int v1]) (n := 2) (Nat.le_of_ble_eq_true rfl)
  rw [lg_entry_eq]
  generalize (lg_sl ([.ref (B + v0), .int v1]) ++ List.replicate (2 - (lg_sl ([.ref (B + v0), .int v1])).length) Slot.unset).toArray = ls at hl ⊢
  have hl : lv_has ls 2 [(0, .ref (B + v0)), (1, .int v1)] := hl
  have hP : hs_P B D E g s.heap := hP
  unfold fX10_sizeOf at hf
  refine lv_aload_n hx hb dX10_sizeOf_0 rfl (lv_at hl 0 rfl) ?_
  obtain ⟨h1, hf⟩ := hs_ck hf
  obtain ⟨h2, hf⟩ := hs_ck hf
  refine hs_getr (C := RX10) (T := TX10) (N := 2) hx hb hts kX10_sizeOf_1 hown hK.1 hP h1 (by decide) rfl 0 (by decide) (hts _ kX10_sizeOf_0) (fun _ h => h) rfl h2 dX10_sizeOf_1 ?_
  refine lv_iload_n hx hb dX10_sizeOf_4 rfl (lv_at hl 1 rfl) ?_
  obtain ⟨r4, g3, h5, hf⟩ := hs_bd_some hf
  refine hs_calli (va_runS (As := [.ref (B + ((hs_R g v0 0) - 1)), .int v1]) (rest := []) ⟨hx, hb, hml, hown, hts⟩ (ctX9_at l B D E ((hs_R g v0 0) - 1) v1 g _ h5) (va_cwS 2 hts gX10_sizeOf_X9_at rfl rfl rfl (by decide +kernel) ⟨Nat.le_of_ble_eq_true rfl, Nat.le_of_ble_eq_true rfl⟩) (hs_pre hP hK) rfl rfl hl.1 rfl (lv_room (Nat.le_of_ble_eq_true rfl)) dX10_sizeOf_5 ⟨(Nat.le_of_ble_eq_true rfl), (Nat.le_of_ble_eq_true rfl)⟩) hS (fun H locs hP hS => ?_)
  exact hs_iret hx hb hr hlocks rfl hK hP hS hf dX10_sizeOf_8

set_option maxRecDepth 20000 in
theorem ggX10_has_X10_sizeOf : GoodIn wsX10_has wsX10_sizeOf := goodIn_r _ [5, 6, 7, 8, 9, 10, 11, 12] (by decide +kernel) (by decide +kernel)
set_option maxRecDepth 20000 in
theorem gX10_has_X10_sizeOf : GoodIn wsX10_has (wsV RX10 39 RX10 yX10_sizeOf wsX10_sizeOf) := goodIn_app (goodIn_of _ (by decide +kernel)) ggX10_has_X10_sizeOf
theorem dX10_has_0 : decode cX10_has 0 = .ok (.iload_n 2, 1) := by decide +kernel
theorem dX10_has_1 : decode cX10_has 1 = .ok (.ifCond .lt 16, 3) := by decide +kernel
theorem dX10_has_4 : decode cX10_has 4 = .ok (.iload_n 2, 1) := by decide +kernel
theorem dX10_has_5 : decode cX10_has 5 = .ok (.aload_n 0, 1) := by decide +kernel
theorem dX10_has_6 : decode cX10_has 6 = .ok (.iload_n 1, 1) := by decide +kernel
theorem dX10_has_7 : decode cX10_has 7 = .ok (.invokevirtual 39, 3) := by decide +kernel
theorem dX10_has_10 : decode cX10_has 10 = .ok (.if_icmp .ge 7, 3) := by decide +kernel
theorem dX10_has_13 : decode cX10_has 13 = .ok (.iconst 1, 1) := by decide +kernel
theorem dX10_has_14 : decode cX10_has 14 = .ok (.goto 4, 3) := by decide +kernel
theorem dX10_has_17 : decode cX10_has 17 = .ok (.iconst 0, 1) := by decide +kernel
theorem dX10_has_18 : decode cX10_has 18 = .ok (.ireturn, 1) := by decide +kernel

def fX10_has (v0 : Nat) (v1 : Int32) (v2 : Int32) (g : hs_S) : Option (Int32 × hs_S) :=
  if v2 < 0 then (
    some ((0 : Int32), g)
  ) else (
    if hs_kd g v0 = 8 then
    hs_bd (fX10_sizeOf v0 v1 g) fun r3 g2 =>
    if r3 ≤ v2 then (
      some ((0 : Int32), g2)
    ) else (
      some ((1 : Int32), g2)
    )
    else none
  )
abbrev rmX10_has : Room := { frames := 2, cells := 0, slots := 0, locals := 42 }
set_option maxHeartbeats 4000000 in
set_option maxRecDepth 100000 in
theorem ctX10_has (l : Launch) (B : Nat) (D : va_G) (E : Nat → ClassId) (v0 : Nat) (v1 : Int32) (v2 : Int32) (g : hs_S) (o : Int32 × hs_S) (hf : fX10_has v0 v1 v2 g = some o) : Met l yX10_has wsX10_has rmX10_has (hs_Pc B D E g [.ref (B + v0), .int v1, .int v2]) (hs_Qi B D E o) (0) (0) (hs_F B) := by
  refine Met.ofW (cc := cX10_has) (maxL := 3) (ret := (some .boolean)) (by decide) rfl ?_
  intro p e s m args below meth c s₁ Bd hml hv
  obtain ⟨rfl, hP, hK⟩ := hv
  have hx := Bd.exec
  have hb := Bd.bytes
  have hr := Bd.returns
  have hts := atoms_spec (ws := wsX10_has) Bd.pre
  have hown : s.vm.findClass RX10 = some m.cls := findClass_of_methodNamed Bd.named
  have hlocks := Bd.notSynchronized
  have hS : hs_Sx B s.heap s.heap [] := va_S.rf
  have hX : hs_cx cX10_has (some .boolean) 3 RX10 wsX10_has p s m (List.toArray [.ref (B + v0), .int v1, .int v2]) meth c D E := ⟨hx, hb, hr, hml, hown, hts, hlocks, hK⟩
  have hl := lv_entry ([.ref (B + v0), .int v1, .int v2]) (n := 3) (Nat.le_of_ble_eq_true rfl)
  rw [lg_entry_eq]
  generalize (lg_sl ([.ref (B + v0), .int v1, .int v2]) ++ List.replicate (3 - (lg_sl ([.ref (B + v0), .int v1, .int v2])).length) Slot.unset).toArray = ls at hl ⊢
  have hl : lv_has ls 3 [(0, .ref (B + v0)), (1, .int v1), (2, .int v2)] := hl
  have hP : hs_P B D E g s.heap := hP
  unfold fX10_has at hf
  refine lv_iload_n hx hb dX10_has_0 rfl (lv_at hl 2 rfl) ?_
  refine lv_if_lt (tgt := 17) hx hb dX10_has_1 (by decide) (fun hc => ?_) (fun hc => ?_)
  · replace hf := hs_t hf hc
    refine lv_iconst (v := 0) hx hb dX10_has_17 (by decide) ?_
    exact hs_iret hx hb hr hlocks (hs_01_nar (rfl)) hK hP hS hf dX10_has_18
  · replace hf := hs_f hf hc
    refine lv_iload_n hx hb dX10_has_4 rfl (lv_at hl 2 rfl) ?_
    refine lv_aload_n hx hb dX10_has_5 rfl (lv_at hl 0 rfl) ?_
    refine lv_iload_n hx hb dX10_has_6 rfl (lv_at hl 1 rfl) ?_
    obtain ⟨h1, hf⟩ := hs_ck hf
    obtain ⟨r3, g2, h4, hf⟩ := hs_bd_some hf
    refine hs_calli (va_runV (As := [.int v1]) (rest := [.int v2]) ⟨hx, hb, hml, hown, hts⟩ (ctX10_sizeOf l B D E v0 v1 g _ h4) (cwV 1 hts gX10_has_X10_sizeOf rfl rfl rfl (by decide +kernel) ⟨Nat.le_of_ble_eq_true rfl, Nat.le_of_ble_eq_true rfl⟩) (hs_preV (r := (RX10, TX10, 2)) hP hK h1 (by decide) rfl) rfl rfl hl.1 rfl (lv_room (Nat.le_of_ble_eq_true rfl)) dX10_has_7 ⟨(Nat.le_of_ble_eq_true rfl), (Nat.le_of_ble_eq_true rfl)⟩) hS (fun H locs hP hS => ?_)
    refine lv_icmp_ge (tgt := 17) hx hb dX10_has_10 (by decide) (fun hc => ?_) (fun hc => ?_)
    · replace hf := hs_t hf hc
      refine lv_iconst (v := 0) hx hb dX10_has_17 (by decide) ?_
      exact hs_iret hx hb hr hlocks (hs_01_nar (rfl)) hK hP hS hf dX10_has_18
    · replace hf := hs_f hf hc
      refine lv_iconst (v := 1) hx hb dX10_has_13 (by decide) ?_
      refine lv_goto (tgt := 18) hx hb dX10_has_14 (by decide) ?_
      exact hs_iret hx hb hr hlocks (hs_01_nar (rfl)) hK hP hS hf dX10_has_18

set_option maxRecDepth 20000 in
theorem ggX10_get_X9_at : GoodIn wsX10_get wsX9_at := goodIn_r _ [5] (by decide +kernel) (by decide +kernel)
set_option maxRecDepth 20000 in
theorem gX10_get_X9_at : GoodIn wsX10_get (va_wsS RX10 35 yX9_at wsX9_at) := goodIn_app (goodIn_of _ (by decide +kernel)) ggX10_get_X9_at
theorem dX10_get_0 : decode cX10_get 0 = .ok (.aload_n 0, 1) := by decide +kernel
theorem dX10_get_1 : decode cX10_get 1 = .ok (.getfield 15, 3) := by decide +kernel
theorem dX10_get_4 : decode cX10_get 4 = .ok (.iload_n 1, 1) := by decide +kernel
theorem dX10_get_5 : decode cX10_get 5 = .ok (.sipush 1000, 3) := by decide +kernel
theorem dX10_get_8 : decode cX10_get 8 = .ok (.imul, 1) := by decide +kernel
theorem dX10_get_9 : decode cX10_get 9 = .ok (.iload_n 2, 1) := by decide +kernel
theorem dX10_get_10 : decode cX10_get 10 = .ok (.iadd, 1) := by decide +kernel
theorem dX10_get_11 : decode cX10_get 11 = .ok (.invokestatic 35, 3) := by decide +kernel
theorem dX10_get_14 : decode cX10_get 14 = .ok (.ireturn, 1) := by decide +kernel
theorem kX10_get_0 : Cond.fieldLink RX10 15 "StepRewriter$RunArrays" "elements" "[I" ∈ wsX10_get := by decide +kernel
theorem kX10_get_1 : ∀ w ∈ u_ws RX10 TX10 2, w ∈ wsX10_get := by decide +kernel
def fX10_get (v0 : Nat) (v1 : Int32) (v2 : Int32) (g : hs_S) : Option (Int32 × hs_S) :=
  if hs_kd g v0 = 8 then
  if ¬ (hs_R g v0 1) = 0 then
  hs_bd (fX9_at ((hs_R g v0 1) - 1) ((v1 * (1000 : Int32)) + v2) g) fun r4 g3 =>
  some (r4, g3)
  else none else none
abbrev rmX10_get : Room := { frames := 1, cells := 0, slots := 0, locals := 21 }
set_option maxHeartbeats 4000000 in
set_option maxRecDepth 100000 in
theorem ctX10_get (l : Launch) (B : Nat) (D : va_G) (E : Nat → ClassId) (v0 : Nat) (v1 : Int32) (v2 : Int32) (g : hs_S) (o : Int32 × hs_S) (hf : fX10_get v0 v1 v2 g = some o) : Met l yX10_get wsX10_get rmX10_get (hs_Pc B D E g [.ref (B + v0), .int v1, .int v2]) (hs_Qi B D E o) (0) (0) (hs_F B) := by
  refine Met.ofW (cc := cX10_get) (maxL := 3) (ret := (some .int)) (by decide) rfl ?_
  intro p e s m args below meth c s₁ Bd hml hv
  obtain ⟨rfl, hP, hK⟩ := hv
  have hx := Bd.exec
  have hb := Bd.bytes
  have hr := Bd.returns
  have hts := atoms_spec (ws := wsX10_get) Bd.pre
  have hown : s.vm.findClass RX10 = some m.cls := findClass_of_methodNamed Bd.named
  have hlocks := Bd.notSynchronized
  have hS : hs_Sx B s.heap s.heap [] := va_S.rf
  have hX : hs_cx cX10_get (some .int) 3 RX10 wsX10_get p s m (List.toArray [.ref (B + v0), .int v1, .int v2]) meth c D E := ⟨hx, hb, hr, hml, hown, hts, hlocks, hK⟩
  have hl := lv_entry ([.ref (B + v0), .int v1, .int v2]) (n := 3) (Nat.le_of_ble_eq_true rfl)
  rw [lg_entry_eq]
  generalize (lg_sl ([.ref (B + v0), .int v1, .int v2]) ++ List.replicate (3 - (lg_sl ([.ref (B + v0), .int v1, .int v2])).length) Slot.unset).toArray = ls at hl ⊢
  have hl : lv_has ls 3 [(0, .ref (B + v0)), (1, .int v1), (2, .int v2)] := hl
  have hP : hs_P B D E g s.heap := hP
  unfold fX10_get at hf
  refine lv_aload_n hx hb dX10_get_0 rfl (lv_at hl 0 rfl) ?_
  obtain ⟨h1, hf⟩ := hs_ck hf
  obtain ⟨h2, hf⟩ := hs_ck hf
  refine hs_getr (C := RX10) (T := TX10) (N := 2) hx hb hts kX10_get_1 hown hK.1 hP h1 (by decide) rfl 1 (by decide) (hts _ kX10_get_0) (fun _ h => h) rfl h2 dX10_get_1 ?_
  refine lv_iload_n hx hb dX10_get_4 rfl (lv_at hl 1 rfl) ?_
  refine lv_sipush (v := 1000) hx hb dX10_get_5 (by decide) ?_
  refine lv_imul hx hb dX10_get_8 ?_
  refine lv_iload_n hx hb dX10_get_9 rfl (lv_at hl 2 rfl) ?_
  refine lv_iadd hx hb dX10_get_10 ?_
  obtain ⟨r4, g3, h5, hf⟩ := hs_bd_some hf
  refine hs_calli (va_runS (As := [.ref (B + ((hs_R g v0 1) - 1)), .int ((v1 * (1000 : Int32)) + v2)]) (rest := []) ⟨hx, hb, hml, hown, hts⟩ (ctX9_at l B D E ((hs_R g v0 1) - 1) ((v1 * (1000 : Int32)) + v2) g _ h5) (va_cwS 2 hts gX10_get_X9_at rfl rfl rfl (by decide +kernel) ⟨Nat.le_of_ble_eq_true rfl, Nat.le_of_ble_eq_true rfl⟩) (hs_pre hP hK) rfl rfl hl.1 rfl (lv_room (Nat.le_of_ble_eq_true rfl)) dX10_get_11 ⟨(Nat.le_of_ble_eq_true rfl), (Nat.le_of_ble_eq_true rfl)⟩) hS (fun H locs hP hS => ?_)
  exact hs_iret hx hb hr hlocks rfl hK hP hS hf dX10_get_14

set_option maxRecDepth 20000 in
theorem ggX6_forget_X10_empty : GoodIn wsX6_forget wsX10_empty := goodIn_r _ [10, 11, 12, 13, 14, 15, 24, 25] (by decide +kernel) (by decide +kernel)
set_option maxRecDepth 20000 in
theorem gX6_forget_X10_empty : GoodIn wsX6_forget (wsV RX6 37 RX10 yX10_empty wsX10_empty) := goodIn_app (goodIn_of _ (by decide +kernel)) ggX6_forget_X10_empty
theorem dX6_forget_0 : decode cX6_forget 0 = .ok (.aload_n 0, 1) := by decide +kernel
theorem dX6_forget_1 : decode cX6_forget 1 = .ok (.getfield 20, 3) := by decide +kernel
theorem dX6_forget_4 : decode cX6_forget 4 = .ok (.invokevirtual 37, 3) := by decide +kernel
theorem dX6_forget_7 : decode cX6_forget 7 = .ok (.aload_n 0, 1) := by decide +kernel
theorem dX6_forget_8 : decode cX6_forget 8 = .ok (.iconst 0, 1) := by decide +kernel
theorem dX6_forget_9 : decode cX6_forget 9 = .ok (.putfield 40, 3) := by decide +kernel
theorem dX6_forget_12 : decode cX6_forget 12 = .ok (.aload_n 0, 1) := by decide +kernel
theorem dX6_forget_13 : decode cX6_forget 13 = .ok (.iconst 0, 1) := by decide +kernel
theorem dX6_forget_14 : decode cX6_forget 14 = .ok (.putfield 44, 3) := by decide +kernel
theorem dX6_forget_17 : decode cX6_forget 17 = .ok (.aload_n 0, 1) := by decide +kernel
theorem dX6_forget_18 : decode cX6_forget 18 = .ok (.iconst 0, 1) := by decide +kernel
theorem dX6_forget_19 : decode cX6_forget 19 = .ok (.putfield 47, 3) := by decide +kernel
theorem dX6_forget_22 : decode cX6_forget 22 = .ok (.aload_n 0, 1) := by decide +kernel
theorem dX6_forget_23 : decode cX6_forget 23 = .ok (.iconst 0, 1) := by decide +kernel
theorem dX6_forget_24 : decode cX6_forget 24 = .ok (.putfield 50, 3) := by decide +kernel
theorem dX6_forget_27 : decode cX6_forget 27 = .ok (.return_, 1) := by decide +kernel
theorem kX6_forget_0 : Cond.fieldLink RX6 20 "StepRewriter$Machine" "arrays" "LStepRewriter$RunArrays;" ∈ wsX6_forget := by decide +kernel
theorem kX6_forget_1 : ∀ w ∈ u_ws RX6 TX6 8, w ∈ wsX6_forget := by decide +kernel
theorem kX6_forget_2 : Cond.fieldLink RX6 40 "StepRewriter$Machine" "underWay" "I" ∈ wsX6_forget := by decide +kernel
theorem kX6_forget_3 : Cond.fieldLink RX6 44 "StepRewriter$Machine" "result" "I" ∈ wsX6_forget := by decide +kernel
theorem kX6_forget_4 : Cond.fieldLink RX6 47 "StepRewriter$Machine" "paid" "I" ∈ wsX6_forget := by decide +kernel
theorem kX6_forget_5 : Cond.fieldLink RX6 50 "StepRewriter$Machine" "done" "I" ∈ wsX6_forget := by decide +kernel
def fX6_forget (v0 : Nat) (g : hs_S) : Option (hs_S) :=
  if hs_kd g v0 = 5 then
  if ¬ (hs_R g v0 2) = 0 then
  if hs_kd g ((hs_R g v0 2) - 1) = 8 then
  hs_bv (fX10_empty ((hs_R g v0 2) - 1) g) fun g4 =>
  if hs_kd g4 v0 = 5 then
  some (hs_wI (hs_wI (hs_wI (hs_wI g4 v0 3 (0 : Int32)) v0 5 (0 : Int32)) v0 6 (0 : Int32)) v0 7 (0 : Int32))
  else none else none else none else none
abbrev rmX6_forget : Room := { frames := 2, cells := 0, slots := 0, locals := 43 }
set_option maxHeartbeats 4000000 in
set_option maxRecDepth 100000 in
theorem ctX6_forget (l : Launch) (B : Nat) (D : va_G) (E : Nat → ClassId) (v0 : Nat) (g : hs_S) (o : hs_S) (hf : fX6_forget v0 g = some o) : Met l yX6_forget wsX6_forget rmX6_forget (hs_Pc B D E g [.ref (B + v0)]) (hs_Qv B D E o) (0) (0) (hs_F B) := by
  refine Met.ofW (cc := cX6_forget) (maxL := 1) (ret := none) (by decide) rfl ?_
  intro p e s m args below meth c s₁ Bd hml hv
  obtain ⟨rfl, hP, hK⟩ := hv
  have hx := Bd.exec
  have hb := Bd.bytes
  have hr := Bd.returns
  have hts := atoms_spec (ws := wsX6_forget) Bd.pre
  have hown : s.vm.findClass RX6 = some m.cls := findClass_of_methodNamed Bd.named
  have hlocks := Bd.notSynchronized
  have hS : hs_Sx B s.heap s.heap [] := va_S.rf
  have hX : hs_cx cX6_forget none 1 RX6 wsX6_forget p s m (List.toArray [.ref (B + v0)]) meth c D E := ⟨hx, hb, hr, hml, hown, hts, hlocks, hK⟩
  have hl := lv_entry ([.ref (B + v0)]) (n := 1) (Nat.le_of_ble_eq_true rfl)
  rw [lg_entry_eq]
  generalize (lg_sl ([.ref (B + v0)]) ++ List.replicate (1 - (lg_sl ([.ref (B + v0)])).length) Slot.unset).toArray = ls at hl ⊢
  have hl : lv_has ls 1 [(0, .ref (B + v0))] := hl
  have hP : hs_P B D E g s.heap := hP
  unfold fX6_forget at hf
  refine lv_aload_n hx hb dX6_forget_0 rfl (lv_at hl 0 rfl) ?_
  obtain ⟨h1, hf⟩ := hs_ck hf
  obtain ⟨h2, hf⟩ := hs_ck hf
  refine hs_getr (C := RX6) (T := TX6) (N := 8) hx hb hts kX6_forget_1 hown hK.1 hP h1 (by decide) rfl 2 (by decide) (hts _ kX6_forget_0) (fun _ h => h) rfl h2 dX6_forget_1 ?_
  obtain ⟨h3, hf⟩ := hs_ck hf
  obtain ⟨g4, h6, hf⟩ := hs_bv_some hf
  refine hs_callv (va_runV (As := []) (rest := []) ⟨hx, hb, hml, hown, hts⟩ (ctX10_empty l B D E ((hs_R g v0 2) - 1) g _ h6) (cwV 0 hts gX6_forget_X10_empty rfl rfl rfl (by decide +kernel) ⟨Nat.le_of_ble_eq_true rfl, Nat.le_of_ble_eq_true rfl⟩) (hs_preV (r := (RX10, TX10, 2)) hP hK h3 (by decide) rfl) rfl rfl hl.1 rfl (lv_room (Nat.le_of_ble_eq_true rfl)) dX6_forget_4 ⟨(Nat.le_of_ble_eq_true rfl), (Nat.le_of_ble_eq_true rfl)⟩) hS (fun H locs hP hS => ?_)
  refine lv_aload_n hx hb dX6_forget_7 rfl (lv_at hl 0 rfl) ?_
  refine lv_iconst (v := 0) hx hb dX6_forget_8 (by decide) ?_
  obtain ⟨h7, hf⟩ := hs_ck hf
  refine hs_puti (C := RX6) (T := TX6) (N := 8) hx hb hts kX6_forget_1 tyX6 tyX6_ok nmX6 hown hK.1 hP hS h7 (by decide) rfl 3 (by decide) (hts _ kX6_forget_2) (fun _ h => h) (Or.inl rfl) rfl rfl rfl dX6_forget_9 (fun H locs hP hS => ?_)
  refine lv_aload_n hx hb dX6_forget_12 rfl (lv_at hl 0 rfl) ?_
  refine lv_iconst (v := 0) hx hb dX6_forget_13 (by decide) ?_
  refine hs_puti (C := RX6) (T := TX6) (N := 8) hx hb hts kX6_forget_1 tyX6 tyX6_ok nmX6 hown hK.1 hP hS h7 (by decide) rfl 5 (by decide) (hts _ kX6_forget_3) (fun _ h => h) (Or.inl rfl) rfl rfl rfl dX6_forget_14 (fun H locs hP hS => ?_)
  refine lv_aload_n hx hb dX6_forget_17 rfl (lv_at hl 0 rfl) ?_
  refine lv_iconst (v := 0) hx hb dX6_forget_18 (by decide) ?_
  refine hs_puti (C := RX6) (T := TX6) (N := 8) hx hb hts kX6_forget_1 tyX6 tyX6_ok nmX6 hown hK.1 hP hS h7 (by decide) rfl 6 (by decide) (hts _ kX6_forget_4) (fun _ h => h) (Or.inl rfl) rfl rfl rfl dX6_forget_19 (fun H locs hP hS => ?_)
  refine lv_aload_n hx hb dX6_forget_22 rfl (lv_at hl 0 rfl) ?_
  refine lv_iconst (v := 0) hx hb dX6_forget_23 (by decide) ?_
  refine hs_puti (C := RX6) (T := TX6) (N := 8) hx hb hts kX6_forget_1 tyX6 tyX6_ok nmX6 hown hK.1 hP hS h7 (by decide) rfl 7 (by decide) (hts _ kX6_forget_5) (fun _ h => h) (Or.inl rfl) rfl rfl rfl dX6_forget_24 (fun H locs hP hS => ?_)
  exact hs_vret hx hb hr hlocks hK hP hS hf dX6_forget_27

set_option maxRecDepth 20000 in
theorem ggX2_firstWrong_X0_valueAt : GoodIn wsX2_firstWrong wsX0_valueAt := goodIn_r _ [8, 9, 10, 11, 12, 13, 14, 221, 222, 223, 224, 225] (by decide +kernel) (by decide +kernel)
set_option maxRecDepth 20000 in
theorem gX2_firstWrong_X0_valueAt : GoodIn wsX2_firstWrong (wsV RX2 18 RX0 yX0_valueAt wsX0_valueAt) := goodIn_app (goodIn_of _ (by decide +kernel)) ggX2_firstWrong_X0_valueAt
set_option maxRecDepth 20000 in
theorem ggX2_firstWrong_X0_method : GoodIn wsX2_firstWrong wsX0_method := goodIn_r _ [18, 19, 20, 221, 222, 223, 224, 225] (by decide +kernel) (by decide +kernel)
set_option maxRecDepth 20000 in
theorem gX2_firstWrong_X0_method : GoodIn wsX2_firstWrong (wsV RX2 31 RX0 yX0_method wsX0_method) := goodIn_app (goodIn_of _ (by decide +kernel)) ggX2_firstWrong_X0_method
set_option maxRecDepth 20000 in
theorem ggX2_firstWrong_X2_wrongInMethod : GoodIn wsX2_firstWrong wsX2_wrongInMethod := goodIn_r _ [25, 26, 27, 28, 29, 30, 31, 32, 33, 34, 35, 36, 37, 38, 39, 40, 41, 42, 24, 43, 2, 44, 45, 46, 47, 4, 5, 6, 7, 8, 9, 10, 11, 12, 13, 14, 48, 49, 50, 51, 52, 53, 54, 55, 56, 57, 58, 59, 60, 61, 62, 63, 64, 65, 66, 67, 68, 69, 70, 71, 72, 73, 74, 75, 76, 77, 78, 79, 80, 81, 82, 83, 84, 85, 86, 87, 88, 89, 90, 91, 92, 93, 94, 95, 96, 97, 98, 99, 100, 101, 102, 103, 104, 105, 106, 107, 108, 109, 110, 111, 112, 113, 114, 115, 116, 117, 118, 119, 120, 121, 122, 123, 124, 125, 126, 127, 128, 129, 130, 131, 132, 133, 134, 135, 136, 137, 138, 139, 140, 141, 142, 143, 144, 145, 146, 147, 148, 149, 150, 151, 152, 153, 154, 155, 156, 157, 158, 159, 160, 227, 228, 229, 230, 231, 232, 233, 234, 235, 236, 237, 221, 222, 223, 224, 225] (by decide +kernel) (by decide +kernel)
set_option maxRecDepth 20000 in
theorem gX2_firstWrong_X2_wrongInMethod : GoodIn wsX2_firstWrong (wsV RX2 35 RX2 yX2_wrongInMethod wsX2_wrongInMethod) := goodIn_app (goodIn_of _ (by decide +kernel)) ggX2_firstWrong_X2_wrongInMethod
set_option maxRecDepth 20000 in
theorem ggX2_firstWrong_X2_endOf : GoodIn wsX2_firstWrong wsX2_endOf := goodIn_r _ [61, 57, 62, 63, 64, 24, 65, 47, 46, 227, 228, 229, 230, 231, 232, 233, 234, 235, 236, 237] (by decide +kernel) (by decide +kernel)
set_option maxRecDepth 20000 in
theorem gX2_firstWrong_X2_endOf : GoodIn wsX2_firstWrong (wsV RX2 39 RX2 yX2_endOf wsX2_endOf) := goodIn_app (goodIn_of _ (by decide +kernel)) ggX2_firstWrong_X2_endOf
set_option maxRecDepth 20000 in
theorem ggX2_firstWrong_X1_firstWrong : GoodIn wsX2_firstWrong wsX1_firstWrong := goodIn_r _ [165, 166, 167, 168, 16, 17, 7, 18, 19, 20, 169, 170, 171, 164, 172, 173, 174, 175, 176, 177, 178, 179, 180, 181, 182, 183, 126, 13, 127, 184, 153, 154, 29, 155, 124, 156, 12, 14, 185, 186, 187, 188, 189, 190, 191, 192, 193, 194, 195, 196, 197, 198, 199, 76, 77, 78, 79, 31, 80, 81, 82, 83, 32, 200, 201, 86, 202, 88, 89, 90, 91, 92, 93, 203, 204, 205, 206, 72, 73, 74, 75, 84, 85, 87, 94, 95, 96, 207, 150, 151, 208, 209, 210, 211, 212, 138, 139, 213, 141, 142, 143, 214, 215, 216, 217, 218, 219, 220, 221, 222, 223, 224, 225, 227, 228, 229, 230, 231, 232, 233, 234, 235, 236, 237, 238, 239, 240] (by decide +kernel) (by decide +kernel)
set_option maxRecDepth 20000 in
theorem gX2_firstWrong_X1_firstWrong : GoodIn wsX2_firstWrong (wsV RX2 43 RX1 yX1_firstWrong wsX1_firstWrong) := goodIn_app (goodIn_of _ (by decide +kernel)) ggX2_firstWrong_X1_firstWrong
theorem dX2_firstWrong_0 : decode cX2_firstWrong 0 = .ok (.aload_n 1, 1) := by decide +kernel
theorem dX2_firstWrong_1 : decode cX2_firstWrong 1 = .ok (.aload_n 1, 1) := by decide +kernel
theorem dX2_firstWrong_2 : decode cX2_firstWrong 2 = .ok (.iconst 0, 1) := by decide +kernel
theorem dX2_firstWrong_3 : decode cX2_firstWrong 3 = .ok (.invokevirtual 18, 3) := by decide +kernel
theorem dX2_firstWrong_6 : decode cX2_firstWrong 6 = .ok (.putfield 24, 3) := by decide +kernel
theorem dX2_firstWrong_9 : decode cX2_firstWrong 9 = .ok (.aload_n 1, 1) := by decide +kernel
theorem dX2_firstWrong_10 : decode cX2_firstWrong 10 = .ok (.getfield 28, 3) := by decide +kernel
theorem dX2_firstWrong_13 : decode cX2_firstWrong 13 = .ok (.iconst 1, 1) := by decide +kernel
theorem dX2_firstWrong_14 : decode cX2_firstWrong 14 = .ok (.if_icmp .lt 20, 3) := by decide +kernel
theorem dX2_firstWrong_17 : decode cX2_firstWrong 17 = .ok (.aload_n 1, 1) := by decide +kernel
theorem dX2_firstWrong_18 : decode cX2_firstWrong 18 = .ok (.getfield 24, 3) := by decide +kernel
theorem dX2_firstWrong_21 : decode cX2_firstWrong 21 = .ok (.iconst 1, 1) := by decide +kernel
theorem dX2_firstWrong_22 : decode cX2_firstWrong 22 = .ok (.if_icmp .lt 12, 3) := by decide +kernel
theorem dX2_firstWrong_25 : decode cX2_firstWrong 25 = .ok (.aload_n 1, 1) := by decide +kernel
theorem dX2_firstWrong_26 : decode cX2_firstWrong 26 = .ok (.getfield 24, 3) := by decide +kernel
theorem dX2_firstWrong_29 : decode cX2_firstWrong 29 = .ok (.bipush 8, 2) := by decide +kernel
theorem dX2_firstWrong_31 : decode cX2_firstWrong 31 = .ok (.if_icmp .le 5, 3) := by decide +kernel
theorem dX2_firstWrong_34 : decode cX2_firstWrong 34 = .ok (.iconst 0, 1) := by decide +kernel
theorem dX2_firstWrong_35 : decode cX2_firstWrong 35 = .ok (.ireturn, 1) := by decide +kernel
theorem dX2_firstWrong_36 : decode cX2_firstWrong 36 = .ok (.iconst 1, 1) := by decide +kernel
theorem dX2_firstWrong_37 : decode cX2_firstWrong 37 = .ok (.istore_n 2, 1) := by decide +kernel
theorem dX2_firstWrong_38 : decode cX2_firstWrong 38 = .ok (.iconst 0, 1) := by decide +kernel
theorem dX2_firstWrong_39 : decode cX2_firstWrong 39 = .ok (.istore_n 3, 1) := by decide +kernel
theorem dX2_firstWrong_40 : decode cX2_firstWrong 40 = .ok (.iload_n 3, 1) := by decide +kernel
theorem dX2_firstWrong_41 : decode cX2_firstWrong 41 = .ok (.aload_n 1, 1) := by decide +kernel
theorem dX2_firstWrong_42 : decode cX2_firstWrong 42 = .ok (.getfield 24, 3) := by decide +kernel
theorem dX2_firstWrong_45 : decode cX2_firstWrong 45 = .ok (.if_icmp .ge 41, 3) := by decide +kernel
theorem dX2_firstWrong_48 : decode cX2_firstWrong 48 = .ok (.aload_n 0, 1) := by decide +kernel
theorem dX2_firstWrong_49 : decode cX2_firstWrong 49 = .ok (.aload_n 1, 1) := by decide +kernel
theorem dX2_firstWrong_50 : decode cX2_firstWrong 50 = .ok (.aload_n 1, 1) := by decide +kernel
theorem dX2_firstWrong_51 : decode cX2_firstWrong 51 = .ok (.iload_n 3, 1) := by decide +kernel
theorem dX2_firstWrong_52 : decode cX2_firstWrong 52 = .ok (.invokevirtual 31, 3) := by decide +kernel
theorem dX2_firstWrong_55 : decode cX2_firstWrong 55 = .ok (.iload_n 2, 1) := by decide +kernel
theorem dX2_firstWrong_56 : decode cX2_firstWrong 56 = .ok (.invokevirtual 35, 3) := by decide +kernel
theorem dX2_firstWrong_59 : decode cX2_firstWrong 59 = .ok (.istore 4, 2) := by decide +kernel
theorem dX2_firstWrong_61 : decode cX2_firstWrong 61 = .ok (.iload 4, 2) := by decide +kernel
theorem dX2_firstWrong_63 : decode cX2_firstWrong 63 = .ok (.iconst (-1), 1) := by decide +kernel
theorem dX2_firstWrong_64 : decode cX2_firstWrong 64 = .ok (.if_icmp .eq 6, 3) := by decide +kernel
theorem dX2_firstWrong_67 : decode cX2_firstWrong 67 = .ok (.iload 4, 2) := by decide +kernel
theorem dX2_firstWrong_69 : decode cX2_firstWrong 69 = .ok (.ireturn, 1) := by decide +kernel
theorem dX2_firstWrong_70 : decode cX2_firstWrong 70 = .ok (.aload_n 0, 1) := by decide +kernel
theorem dX2_firstWrong_71 : decode cX2_firstWrong 71 = .ok (.aload_n 1, 1) := by decide +kernel
theorem dX2_firstWrong_72 : decode cX2_firstWrong 72 = .ok (.iload_n 3, 1) := by decide +kernel
theorem dX2_firstWrong_73 : decode cX2_firstWrong 73 = .ok (.invokevirtual 31, 3) := by decide +kernel
theorem dX2_firstWrong_76 : decode cX2_firstWrong 76 = .ok (.invokevirtual 39, 3) := by decide +kernel
theorem dX2_firstWrong_79 : decode cX2_firstWrong 79 = .ok (.istore_n 2, 1) := by decide +kernel
theorem dX2_firstWrong_80 : decode cX2_firstWrong 80 = .ok (.iinc 3 1, 3) := by decide +kernel
theorem dX2_firstWrong_83 : decode cX2_firstWrong 83 = .ok (.goto (-43), 3) := by decide +kernel
theorem dX2_firstWrong_86 : decode cX2_firstWrong 86 = .ok (.iload_n 2, 1) := by decide +kernel
theorem dX2_firstWrong_87 : decode cX2_firstWrong 87 = .ok (.aload_n 1, 1) := by decide +kernel
theorem dX2_firstWrong_88 : decode cX2_firstWrong 88 = .ok (.getfield 28, 3) := by decide +kernel
theorem dX2_firstWrong_91 : decode cX2_firstWrong 91 = .ok (.if_icmp .ge 7, 3) := by decide +kernel
theorem dX2_firstWrong_94 : decode cX2_firstWrong 94 = .ok (.iload_n 2, 1) := by decide +kernel
theorem dX2_firstWrong_95 : decode cX2_firstWrong 95 = .ok (.goto 11, 3) := by decide +kernel
theorem dX2_firstWrong_98 : decode cX2_firstWrong 98 = .ok (.aload_n 0, 1) := by decide +kernel
theorem dX2_firstWrong_99 : decode cX2_firstWrong 99 = .ok (.getfield 12, 3) := by decide +kernel
theorem dX2_firstWrong_102 : decode cX2_firstWrong 102 = .ok (.aload_n 1, 1) := by decide +kernel
theorem dX2_firstWrong_103 : decode cX2_firstWrong 103 = .ok (.invokevirtual 43, 3) := by decide +kernel
theorem dX2_firstWrong_106 : decode cX2_firstWrong 106 = .ok (.ireturn, 1) := by decide +kernel
theorem kX2_firstWrong_0 : Cond.fieldLink RX2 24 "StepRewriter$CodeSet" "count" "I" ∈ wsX2_firstWrong := by decide +kernel
theorem kX2_firstWrong_1 : ∀ w ∈ u_ws RX0 TX0 5, w ∈ wsX2_firstWrong := by decide +kernel
theorem kX2_firstWrong_2 : Cond.fieldLink RX2 28 "StepRewriter$CodeSet" "used" "I" ∈ wsX2_firstWrong := by decide +kernel
theorem kX2_firstWrong_3 : Cond.fieldLink RX2 12 "StepRewriter$FormCheck" "depths" "LStepRewriter$DepthCheck;" ∈ wsX2_firstWrong := by decide +kernel
theorem kX2_firstWrong_4 : ∀ w ∈ u_ws RX2 TX2 1, w ∈ wsX2_firstWrong := by decide +kernel
def lX2_firstWrong_40 : Nat → Nat → Nat → Int32 → Int32 → hs_S → Option (Nat × Int32 × Int32 × hs_S)
  | 0, _, _, _, _, _ => none
  | n + 1, v0, v1, v2, v3, g =>
    if hs_kd g v1 = 0 then
    if (hs_I g v1 4) ≤ v3 then (
      some (0, v2, 0, g)
    ) else (
      hs_bd (fX0_method v1 v3 g) fun r8 g7 =>
      if hs_kd g7 v0 = 2 then
      hs_bd ((none : Option (Int32 × hs_S))) fun r12 g11 =>
      none
      else none
    )
    else none
theorem lX2_firstWrong_40_s (n : Nat) (v0 : Nat) (v1 : Nat) (v2 : Int32) (v3 : Int32) (g : hs_S) : lX2_firstWrong_40 (n + 1) v0 v1 v2 v3 g =
    if hs_kd g v1 = 0 then
    if (hs_I g v1 4) ≤ v3 then (
      some (0, v2, 0, g)
    ) else (
      hs_bd (fX0_method v1 v3 g) fun r8 g7 =>
      if hs_kd g7 v0 = 2 then
      hs_bd ((none : Option (Int32 × hs_S))) fun r12 g11 =>
      none
      else none
    )
    else none := rfl
def fX2_firstWrong (v0 : Nat) (v1 : Nat) (g : hs_S) : Option (Int32 × hs_S) :=
  if hs_kd g v1 = 0 then
  hs_bd (fX0_valueAt v1 (0 : Int32) g) fun r3 g2 =>
  if hs_kd g2 v1 = 0 then
  if (hs_I (hs_wI g2 v1 4 r3) v1 3) < (1 : Int32) then (
    some ((0 : Int32), (hs_wI g2 v1 4 r3))
  ) else (
    if (hs_I (hs_wI g2 v1 4 r3) v1 4) < (1 : Int32) then (
      some ((0 : Int32), (hs_wI g2 v1 4 r3))
    ) else (
      if (hs_I (hs_wI g2 v1 4 r3) v1 4) ≤ (8 : Int32) then (
        hs_b4 (lX2_firstWrong_40 hs_N v0 v1 (1 : Int32) (0 : Int32) (hs_wI g2 v1 4 r3)) fun k16 x14 x15 g17 =>
        if k16 = 0 then (
          if hs_kd g17 v1 = 0 then
          if (hs_I g17 v1 3) ≤ x14 then (
            if hs_kd g17 v0 = 2 then
            if ¬ (hs_R g17 v0 0) = 0 then
            if hs_kd g17 ((hs_R g17 v0 0) - 1) = 1 then
            hs_bd ((none : Option (Int32 × hs_S))) fun r24 g23 =>
            none
            else none else none else none
          ) else (
            some (x14, g17)
          )
          else none
        ) else (
          some (x15, g17)
        )
      ) else (
        some ((0 : Int32), (hs_wI g2 v1 4 r3))
      )
    )
  )
  else none else none
abbrev rmX2_firstWrong : Room := { frames := 6, cells := 0, slots := 0, locals := 143 }
set_option maxHeartbeats 4000000 in
set_option maxRecDepth 100000 in
theorem wX2_firstWrong_40 {p : Program} {l : Launch} {e : Env} {s : State} {m : MethodId} {args : Array Value} {below : List Frame} {meth : Method} {c : Code} {B : Nat} {D : va_G} {E : Nat → ClassId} (hX : hs_cx cX2_firstWrong (some .int) 5 RX2 wsX2_firstWrong p s m args meth c D E) {Q : State → Prop} {o : Nat × Int32 × Int32 × hs_S} {v0 : Nat} {v1 : Nat} (hex0 : o.1 = 0 → ∀ (H : Heap) (locs : List Loc) (ls : Array Slot), hs_P B D E (o.2.2.2) H → hs_Sx B s.heap H locs → lv_has ls 5 [(0, .ref (B + v0)), (1, .ref (B + v1)), (2, .int (o.2.1))] → W p l e rmX2_firstWrong s m args below meth c H locs 0 0 Q (F0 m 86 ls [])) (hex1 : o.1 = 1 → ∀ (H : Heap) (locs : List Loc) (ls : Array Slot), hs_P B D E (o.2.2.2) H → hs_Sx B s.heap H locs → lv_has ls 5 [(4, .int (o.2.2.1))] → W p l e rmX2_firstWrong s m args below meth c H locs 0 0 Q (F0 m 67 ls [])) : ∀ (n : Nat) (v2 : Int32) (v3 : Int32) (g : hs_S), lX2_firstWrong_40 n v0 v1 v2 v3 g = some o → ∀ (H : Heap) (locs : List Loc) (ls : Array Slot), hs_P B D E g H → hs_Sx B s.heap H locs → lv_has ls 5 [(0, .ref (B + v0)), (1, .ref (B + v1)), (2, .int v2), (3, .int v3)] → W p l e rmX2_firstWrong s m args below meth c H locs 0 0 Q (F0 m 40 ls []) := by
  obtain ⟨hx, hb, hr, hml, hown, hts, hlocks, hK⟩ := id hX
  intro n
  induction n with
  | zero =>
    intro v2 v3 g hf
    cases hf
  | succ n ih =>
    intro v2 v3 g hf H locs ls hP hS hl
    replace hf := (lX2_firstWrong_40_s n v0 v1 v2 v3 g).symm.trans hf
    refine lv_iload_n hx hb dX2_firstWrong_40 rfl (lv_at hl 3 rfl) ?_
    refine lv_aload_n hx hb dX2_firstWrong_41 rfl (lv_at hl 1 rfl) ?_
    obtain ⟨h6, hf⟩ := hs_ck hf
    refine hs_geti (C := RX0) (T := TX0) (N := 5) hx hb hts kX2_firstWrong_1 hown hK.1 hP h6 (by decide) rfl 4 (by decide) (hts _ kX2_firstWrong_0) (fun _ h => h) rfl dX2_firstWrong_42 ?_
    refine lv_icmp_ge (tgt := 86) hx hb dX2_firstWrong_45 (by decide) (fun hc => ?_) (fun hc => ?_)
    · replace hf := hs_t hf hc
      obtain rfl := Option.some.inj hf
      exact hex0 rfl _ _ _ hP hS (lv_sub hl [0, 1, 2] rfl)
    · replace hf := hs_f hf hc
      refine lv_aload_n hx hb dX2_firstWrong_48 rfl (lv_at hl 0 rfl) ?_
      refine lv_aload_n hx hb dX2_firstWrong_49 rfl (lv_at hl 1 rfl) ?_
      refine lv_aload_n hx hb dX2_firstWrong_50 rfl (lv_at hl 1 rfl) ?_
      refine lv_iload_n hx hb dX2_firstWrong_51 rfl (lv_at hl 3 rfl) ?_
      obtain ⟨r8, g7, h9, hf⟩ := hs_bd_some hf
      refine hs_callr (va_runV (As := [.int v3]) (rest := [.ref (B + v1), .ref (B + v0)]) ⟨hx, hb, hml, hown, hts⟩ (ctX0_method l B D E v1 v3 g _ h9) (cwV 1 hts gX2_firstWrong_X0_method rfl rfl rfl (by decide +kernel) ⟨Nat.le_of_ble_eq_true rfl, Nat.le_of_ble_eq_true rfl⟩) (hs_preV (r := (RX0, TX0, 5)) hP hK h6 (by decide) rfl) rfl rfl hl.1 rfl (lv_room (Nat.le_of_ble_eq_true rfl)) dX2_firstWrong_52 ⟨(Nat.le_of_ble_eq_true rfl), (Nat.le_of_ble_eq_true rfl)⟩) hS (fun H locs hP hS => ?_)
      refine lv_iload_n hx hb dX2_firstWrong_55 rfl (lv_at hl 2 rfl) ?_
      obtain ⟨h10, hf⟩ := hs_ck hf
      obtain ⟨r12, g11, h13, hf⟩ := hs_bd_some hf
      cases h13

set_option maxHeartbeats 4000000 in
set_option maxRecDepth 100000 in
theorem ctX2_firstWrong (l : Launch) (B : Nat) (D : va_G) (E : Nat → ClassId) (v0 : Nat) (v1 : Nat) (g : hs_S) (o : Int32 × hs_S) (hf : fX2_firstWrong v0 v1 g = some o) : Met l yX2_firstWrong wsX2_firstWrong rmX2_firstWrong (hs_Pc B D E g [.ref (B + v0), .ref (B + v1)]) (hs_Qi B D E o) (0) (0) (hs_F B) := by
  refine Met.ofW (cc := cX2_firstWrong) (maxL := 5) (ret := (some .int)) (by decide) rfl ?_
  intro p e s m args below meth c s₁ Bd hml hv
  obtain ⟨rfl, hP, hK⟩ := hv
  have hx := Bd.exec
  have hb := Bd.bytes
  have hr := Bd.returns
  have hts := atoms_spec (ws := wsX2_firstWrong) Bd.pre
  have hown : s.vm.findClass RX2 = some m.cls := findClass_of_methodNamed Bd.named
  have hlocks := Bd.notSynchronized
  have hS : hs_Sx B s.heap s.heap [] := va_S.rf
  have hX : hs_cx cX2_firstWrong (some .int) 5 RX2 wsX2_firstWrong p s m (List.toArray [.ref (B + v0), .ref (B + v1)]) meth c D E := ⟨hx, hb, hr, hml, hown, hts, hlocks, hK⟩
  have hl := lv_entry ([.ref (B + v0), .ref (B + v1)]) (n := 5) (Nat.le_of_ble_eq_true rfl)
  rw [lg_entry_eq]
  generalize (lg_sl ([.ref (B + v0), .ref (B + v1)]) ++ List.replicate (5 - (lg_sl ([.ref (B + v0), .ref (B + v1)])).length) Slot.unset).toArray = ls at hl ⊢
  have hl : lv_has ls 5 [(0, .ref (B + v0)), (1, .ref (B + v1))] := hl
  have hP : hs_P B D E g s.heap := hP
  unfold fX2_firstWrong at hf
  refine lv_aload_n hx hb dX2_firstWrong_0 rfl (lv_at hl 1 rfl) ?_
  refine lv_aload_n hx hb dX2_firstWrong_1 rfl (lv_at hl 1 rfl) ?_
  refine lv_iconst (v := 0) hx hb dX2_firstWrong_2 (by decide) ?_
  obtain ⟨h1, hf⟩ := hs_ck hf
  obtain ⟨r3, g2, h4, hf⟩ := hs_bd_some hf
  refine hs_calli (va_runV (As := [.int (0 : Int32)]) (rest := [.ref (B + v1)]) ⟨hx, hb, hml, hown, hts⟩ (ctX0_valueAt l B D E v1 (0 : Int32) g _ h4) (cwV 1 hts gX2_firstWrong_X0_valueAt rfl rfl rfl (by decide +kernel) ⟨Nat.le_of_ble_eq_true rfl, Nat.le_of_ble_eq_true rfl⟩) (hs_preV (r := (RX0, TX0, 5)) hP hK h1 (by decide) rfl) rfl rfl hl.1 rfl (lv_room (Nat.le_of_ble_eq_true rfl)) dX2_firstWrong_3 ⟨(Nat.le_of_ble_eq_true rfl), (Nat.le_of_ble_eq_true rfl)⟩) hS (fun H locs hP hS => ?_)
  obtain ⟨h5, hf⟩ := hs_ck hf
  refine hs_puti (C := RX0) (T := TX0) (N := 5) hx hb hts kX2_firstWrong_1 tyX0 tyX0_ok nmX0 hown hK.1 hP hS h5 (by decide) rfl 4 (by decide) (hts _ kX2_firstWrong_0) (fun _ h => h) (Or.inl rfl) rfl rfl rfl dX2_firstWrong_6 (fun H locs hP hS => ?_)
  refine lv_aload_n hx hb dX2_firstWrong_9 rfl (lv_at hl 1 rfl) ?_
  refine hs_geti (C := RX0) (T := TX0) (N := 5) hx hb hts kX2_firstWrong_1 hown hK.1 hP h5 (by decide) rfl 3 (by decide) (hts _ kX2_firstWrong_2) (fun _ h => h) rfl dX2_firstWrong_10 ?_
  refine lv_iconst (v := 1) hx hb dX2_firstWrong_13 (by decide) ?_
  refine lv_icmp_lt (tgt := 34) hx hb dX2_firstWrong_14 (by decide) (fun hc => ?_) (fun hc => ?_)
  · replace hf := hs_t hf hc
    refine lv_iconst (v := 0) hx hb dX2_firstWrong_34 (by decide) ?_
    exact hs_iret hx hb hr hlocks rfl hK hP hS hf dX2_firstWrong_35
  · replace hf := hs_f hf hc
    refine lv_aload_n hx hb dX2_firstWrong_17 rfl (lv_at hl 1 rfl) ?_
    refine hs_geti (C := RX0) (T := TX0) (N := 5) hx hb hts kX2_firstWrong_1 hown hK.1 hP h5 (by decide) rfl 4 (by decide) (hts _ kX2_firstWrong_0) (fun _ h => h) rfl dX2_firstWrong_18 ?_
    refine lv_iconst (v := 1) hx hb dX2_firstWrong_21 (by decide) ?_
    refine lv_icmp_lt (tgt := 34) hx hb dX2_firstWrong_22 (by decide) (fun hc => ?_) (fun hc => ?_)
    · replace hf := hs_t hf hc
      refine lv_iconst (v := 0) hx hb dX2_firstWrong_34 (by decide) ?_
      exact hs_iret hx hb hr hlocks rfl hK hP hS hf dX2_firstWrong_35
    · replace hf := hs_f hf hc
      refine lv_aload_n hx hb dX2_firstWrong_25 rfl (lv_at hl 1 rfl) ?_
      refine hs_geti (C := RX0) (T := TX0) (N := 5) hx hb hts kX2_firstWrong_1 hown hK.1 hP h5 (by decide) rfl 4 (by decide) (hts _ kX2_firstWrong_0) (fun _ h => h) rfl dX2_firstWrong_26 ?_
      refine lv_bipush (v := 8) hx hb dX2_firstWrong_29 (by decide) ?_
      refine lv_icmp_le (tgt := 36) hx hb dX2_firstWrong_31 (by decide) (fun hc => ?_) (fun hc => ?_)
      · replace hf := hs_t hf hc
        refine lv_iconst (v := 1) hx hb dX2_firstWrong_36 (by decide) ?_
        refine lv_istore_n (lv' := [(2, .int (1 : Int32)), (0, .ref (B + v0)), (1, .ref (B + v1))]) hx hb dX2_firstWrong_37 rfl hl (by decide) rfl (fun ls hl => ?_)
        refine lv_iconst (v := 0) hx hb dX2_firstWrong_38 (by decide) ?_
        refine lv_istore_n (lv' := [(3, .int (0 : Int32)), (2, .int (1 : Int32)), (0, .ref (B + v0)), (1, .ref (B + v1))]) hx hb dX2_firstWrong_39 rfl hl (by decide) rfl (fun ls hl => ?_)
        obtain ⟨k16, x14, x15, g17, h18, hf⟩ := hs_b4_some hf
        refine wX2_firstWrong_40 hX (fun hlab H locs ls hP hS hl => ?_) (fun hlab H locs ls hP hS hl => ?_) hs_N _ _ _ h18 _ _ _ hP hS (lv_sub hl [2, 3, 1, 0] rfl)
        · replace hlab : k16 = 0 := hlab
          replace hf := hs_t hf hlab
          refine lv_iload_n hx hb dX2_firstWrong_86 rfl (lv_at hl 2 rfl) ?_
          refine lv_aload_n hx hb dX2_firstWrong_87 rfl (lv_at hl 1 rfl) ?_
          obtain ⟨h19, hf⟩ := hs_ck hf
          refine hs_geti (C := RX0) (T := TX0) (N := 5) hx hb hts kX2_firstWrong_1 hown hK.1 hP h19 (by decide) rfl 3 (by decide) (hts _ kX2_firstWrong_2) (fun _ h => h) rfl dX2_firstWrong_88 ?_
          refine lv_icmp_ge (tgt := 98) hx hb dX2_firstWrong_91 (by decide) (fun hc => ?_) (fun hc => ?_)
          · replace hf := hs_t hf hc
            refine lv_aload_n hx hb dX2_firstWrong_98 rfl (lv_at hl 0 rfl) ?_
            obtain ⟨h20, hf⟩ := hs_ck hf
            obtain ⟨h21, hf⟩ := hs_ck hf
            refine hs_getr (C := RX2) (T := TX2) (N := 1) hx hb hts kX2_firstWrong_4 hown hK.1 hP h20 (by decide) rfl 0 (by decide) (hts _ kX2_firstWrong_3) (fun _ h => h) rfl h21 dX2_firstWrong_99 ?_
            refine lv_aload_n hx hb dX2_firstWrong_102 rfl (lv_at hl 1 rfl) ?_
            obtain ⟨h22, hf⟩ := hs_ck hf
            obtain ⟨r24, g23, h25, hf⟩ := hs_bd_some hf
            cases h25
          · replace hf := hs_f hf hc
            refine lv_iload_n hx hb dX2_firstWrong_94 rfl (lv_at hl 2 rfl) ?_
            refine lv_goto (tgt := 106) hx hb dX2_firstWrong_95 (by decide) ?_
            exact hs_iret hx hb hr hlocks rfl hK hP hS hf dX2_firstWrong_106
        · replace hlab : k16 = 1 := hlab
          replace hf := hs_f hf (by rw [hlab]; decide)
          refine lv_iload hx hb dX2_firstWrong_67 (lv_at hl 0 rfl) ?_
          exact hs_iret hx hb hr hlocks rfl hK hP hS hf dX2_firstWrong_69
      · replace hf := hs_f hf hc
        refine lv_iconst (v := 0) hx hb dX2_firstWrong_34 (by decide) ?_
        exact hs_iret hx hb hr hlocks rfl hK hP hS hf dX2_firstWrong_35
end
section
set_option maxRecDepth 20000 in
theorem ggX11_feed_X0_append : GoodIn wsX11_feed wsX0_append := goodIn_r _ [7, 8, 9, 10, 11, 12, 13, 22, 23, 24, 25, 26] (by decide +kernel) (by decide +kernel)
set_option maxRecDepth 20000 in
theorem gX11_feed_X0_append : GoodIn wsX11_feed (wsV RX11 61 RX0 yX0_append wsX0_append) := goodIn_app (goodIn_of _ (by decide +kernel)) ggX11_feed_X0_append
theorem dX11_feed_0 : decode cX11_feed 0 = .ok (.iload_n 3, 1) := by decide +kernel
theorem dX11_feed_1 : decode cX11_feed 1 = .ok (.iconst 1, 1) := by decide +kernel
theorem dX11_feed_2 : decode cX11_feed 2 = .ok (.if_icmp .lt 9, 3) := by decide +kernel
theorem dX11_feed_5 : decode cX11_feed 5 = .ok (.iload_n 3, 1) := by decide +kernel
theorem dX11_feed_6 : decode cX11_feed 6 = .ok (.bipush 8, 2) := by decide +kernel
theorem dX11_feed_8 : decode cX11_feed 8 = .ok (.if_icmp .le 6, 3) := by decide +kernel
theorem dX11_feed_11 : decode cX11_feed 11 = .ok (.bipush (-3), 2) := by decide +kernel
theorem dX11_feed_13 : decode cX11_feed 13 = .ok (.ireturn, 1) := by decide +kernel
theorem dX11_feed_14 : decode cX11_feed 14 = .ok (.aload_n 0, 1) := by decide +kernel
theorem dX11_feed_15 : decode cX11_feed 15 = .ok (.getfield 14, 3) := by decide +kernel
theorem dX11_feed_18 : decode cX11_feed 18 = .ok (.getfield 57, 3) := by decide +kernel
theorem dX11_feed_21 : decode cX11_feed 21 = .ok (.iload_n 3, 1) := by decide +kernel
theorem dX11_feed_22 : decode cX11_feed 22 = .ok (.iadd, 1) := by decide +kernel
theorem dX11_feed_23 : decode cX11_feed 23 = .ok (.sipush 6000, 3) := by decide +kernel
theorem dX11_feed_26 : decode cX11_feed 26 = .ok (.if_icmp .le 6, 3) := by decide +kernel
theorem dX11_feed_29 : decode cX11_feed 29 = .ok (.bipush (-4), 2) := by decide +kernel
theorem dX11_feed_31 : decode cX11_feed 31 = .ok (.ireturn, 1) := by decide +kernel
theorem dX11_feed_32 : decode cX11_feed 32 = .ok (.iload_n 3, 1) := by decide +kernel
theorem dX11_feed_33 : decode cX11_feed 33 = .ok (.iconst 1, 1) := by decide +kernel
theorem dX11_feed_34 : decode cX11_feed 34 = .ok (.isub, 1) := by decide +kernel
theorem dX11_feed_35 : decode cX11_feed 35 = .ok (.istore 4, 2) := by decide +kernel
theorem dX11_feed_37 : decode cX11_feed 37 = .ok (.iload 4, 2) := by decide +kernel
theorem dX11_feed_39 : decode cX11_feed 39 = .ok (.ifCond .lt 24, 3) := by decide +kernel
theorem dX11_feed_42 : decode cX11_feed 42 = .ok (.aload_n 0, 1) := by decide +kernel
theorem dX11_feed_43 : decode cX11_feed 43 = .ok (.getfield 14, 3) := by decide +kernel
theorem dX11_feed_46 : decode cX11_feed 46 = .ok (.lload_n 1, 1) := by decide +kernel
theorem dX11_feed_47 : decode cX11_feed 47 = .ok (.bipush 8, 2) := by decide +kernel
theorem dX11_feed_49 : decode cX11_feed 49 = .ok (.iload 4, 2) := by decide +kernel
theorem dX11_feed_51 : decode cX11_feed 51 = .ok (.imul, 1) := by decide +kernel
theorem dX11_feed_52 : decode cX11_feed 52 = .ok (.lshr, 1) := by decide +kernel
theorem dX11_feed_53 : decode cX11_feed 53 = .ok (.l2i, 1) := by decide +kernel
theorem dX11_feed_54 : decode cX11_feed 54 = .ok (.invokevirtual 61, 3) := by decide +kernel
theorem dX11_feed_57 : decode cX11_feed 57 = .ok (.iinc 4 (-1), 3) := by decide +kernel
theorem dX11_feed_60 : decode cX11_feed 60 = .ok (.goto (-23), 3) := by decide +kernel
theorem dX11_feed_63 : decode cX11_feed 63 = .ok (.aload_n 0, 1) := by decide +kernel
theorem dX11_feed_64 : decode cX11_feed 64 = .ok (.getfield 14, 3) := by decide +kernel
theorem dX11_feed_67 : decode cX11_feed 67 = .ok (.getfield 57, 3) := by decide +kernel
theorem dX11_feed_70 : decode cX11_feed 70 = .ok (.ireturn, 1) := by decide +kernel
theorem kX11_feed_0 : Cond.fieldLink RX11 14 "StepRewriter" "tape" "LStepRewriter$CodeSet;" ∈ wsX11_feed := by decide +kernel
theorem kX11_feed_1 : ∀ w ∈ u_ws RX11 TX11 8, w ∈ wsX11_feed := by decide +kernel
theorem kX11_feed_2 : Cond.fieldLink RX11 57 "StepRewriter$CodeSet" "used" "I" ∈ wsX11_feed := by decide +kernel
theorem kX11_feed_3 : ∀ w ∈ u_ws RX0 TX0 5, w ∈ wsX11_feed := by decide +kernel
def lX11_feed_37 : Nat → Nat → Int64 → Int32 → hs_S → Option (hs_S)
  | 0, _, _, _, _ => none
  | n + 1, v0, v1, v4, g =>
    if v4 < 0 then (
      some g
    ) else (
      if hs_kd g v0 = 9 then
      if ¬ (hs_R g v0 0) = 0 then
      if hs_kd g ((hs_R g v0 0) - 1) = 0 then
      hs_bv (fX0_append ((hs_R g v0 0) - 1) ((v1 >>> (((8 : Int32) * v4).toInt64 &&& 63)).toInt32) g) fun g7 =>
      lX11_feed_37 n v0 v1 (v4 + (-1 : Int32)) g7
      else none else none else none
    )
theorem lX11_feed_37_s (n : Nat) (v0 : Nat) (v1 : Int64) (v4 : Int32) (g : hs_S) : lX11_feed_37 (n + 1) v0 v1 v4 g =
    if v4 < 0 then (
      some g
    ) else (
      if hs_kd g v0 = 9 then
      if ¬ (hs_R g v0 0) = 0 then
      if hs_kd g ((hs_R g v0 0) - 1) = 0 then
      hs_bv (fX0_append ((hs_R g v0 0) - 1) ((v1 >>> (((8 : Int32) * v4).toInt64 &&& 63)).toInt32) g) fun g7 =>
      lX11_feed_37 n v0 v1 (v4 + (-1 : Int32)) g7
      else none else none else none
    ) := rfl
def fX11_feed (v0 : Nat) (v1 : Int64) (v3 : Int32) (g : hs_S) : Option (Int32 × hs_S) :=
  if v3 < (1 : Int32) then (
    some ((-3 : Int32), g)
  ) else (
    if v3 ≤ (8 : Int32) then (
      if hs_kd g v0 = 9 then
      if ¬ (hs_R g v0 0) = 0 then
      if hs_kd g ((hs_R g v0 0) - 1) = 0 then
      if ((hs_I g ((hs_R g v0 0) - 1) 3) + v3) ≤ (6000 : Int32) then (
        hs_bv (lX11_feed_37 hs_N v0 v1 (v3 - (1 : Int32)) g) fun g11 =>
        if hs_kd g11 v0 = 9 then
        if ¬ (hs_R g11 v0 0) = 0 then
        if hs_kd g11 ((hs_R g11 v0 0) - 1) = 0 then
        some ((hs_I g11 ((hs_R g11 v0 0) - 1) 3), g11)
        else none else none else none
      ) else (
        some ((-4 : Int32), g)
      )
      else none else none else none
    ) else (
      some ((-3 : Int32), g)
    )
  )
abbrev rmX11_feed : Room := { frames := 2, cells := 0, slots := 0, locals := 43 }
set_option maxHeartbeats 4000000 in
set_option maxRecDepth 100000 in
theorem wX11_feed_37 {p : Program} {l : Launch} {e : Env} {s : State} {m : MethodId} {args : Array Value} {below : List Frame} {meth : Method} {c : Code} {B : Nat} {D : va_G} {E : Nat → ClassId} (hX : hs_cx cX11_feed (some .int) 5 RX11 wsX11_feed p s m args meth c D E) {Q : State → Prop} {o : hs_S} {v0 : Nat} {v1 : Int64} (hex0 : ∀ (H : Heap) (locs : List Loc) (ls : Array Slot), hs_P B D E (o) H → hs_Sx B s.heap H locs → lv_has ls 5 [(0, .ref (B + v0))] → W p l e rmX11_feed s m args below meth c H locs 0 0 Q (F0 m 63 ls [])) : ∀ (n : Nat) (v4 : Int32) (g : hs_S), lX11_feed_37 n v0 v1 v4 g = some o → ∀ (H : Heap) (locs : List Loc) (ls : Array Slot), hs_P B D E g H → hs_Sx B s.heap H locs → lv_has ls 5 [(0, .ref (B + v0)), (1, .long v1), (4, .int v4)] → W p l e rmX11_feed s m args below meth c H locs 0 0 Q (F0 m 37 ls []) := by
  obtain ⟨hx, hb, hr, hml, hown, hts, hlocks, hK⟩ := id hX
  intro n
  induction n with
  | zero =>
    intro v4 g hf
    cases hf
  | succ n ih =>
    intro v4 g hf H locs ls hP hS hl
    replace hf := (lX11_feed_37_s n v0 v1 v4 g).symm.trans hf
    refine lv_iload hx hb dX11_feed_37 (lv_at hl 2 rfl) ?_
    refine lv_if_lt (tgt := 63) hx hb dX11_feed_39 (by decide) (fun hc => ?_) (fun hc => ?_)
    · replace hf := hs_t hf hc
      obtain rfl := Option.some.inj hf
      exact hex0 _ _ _ hP hS (lv_sub hl [0] rfl)
    · replace hf := hs_f hf hc
      refine lv_aload_n hx hb dX11_feed_42 rfl (lv_at hl 0 rfl) ?_
      obtain ⟨h4, hf⟩ := hs_ck hf
      obtain ⟨h5, hf⟩ := hs_ck hf
      refine hs_getr (C := RX11) (T := TX11) (N := 8) hx hb hts kX11_feed_1 hown hK.1 hP h4 (by decide) rfl 0 (by decide) (hts _ kX11_feed_0) (fun _ h => h) rfl h5 dX11_feed_43 ?_
      refine lv_lload_n hx hb dX11_feed_46 rfl (lv_at hl 1 rfl) ?_
      refine lv_bipush (v := 8) hx hb dX11_feed_47 (by decide) ?_
      refine lv_iload hx hb dX11_feed_49 (lv_at hl 2 rfl) ?_
      refine lv_imul hx hb dX11_feed_51 ?_
      refine lv_lshr hx hb dX11_feed_52 rfl ?_
      refine lv_l2i hx hb dX11_feed_53 rfl ?_
      obtain ⟨h6, hf⟩ := hs_ck hf
      obtain ⟨g7, h9, hf⟩ := hs_bv_some hf
      refine hs_callv (va_runV (As := [.int ((v1 >>> (((8 : Int32) * v4).toInt64 &&& 63)).toInt32)]) (rest := []) ⟨hx, hb, hml, hown, hts⟩ (ctX0_append l B D E ((hs_R g v0 0) - 1) ((v1 >>> (((8 : Int32) * v4).toInt64 &&& 63)).toInt32) g _ h9) (cwV 1 hts gX11_feed_X0_append rfl rfl rfl (by decide +kernel) ⟨Nat.le_of_ble_eq_true rfl, Nat.le_of_ble_eq_true rfl⟩) (hs_preV (r := (RX0, TX0, 5)) hP hK h6 (by decide) rfl) rfl rfl hl.1 rfl (lv_room (Nat.le_of_ble_eq_true rfl)) dX11_feed_54 ⟨(Nat.le_of_ble_eq_true rfl), (Nat.le_of_ble_eq_true rfl)⟩) hS (fun H locs hP hS => ?_)
      refine lv_iinc (v := (v4 + (-1 : Int32))) (lv' := [(4, .int (v4 + (-1 : Int32))), (0, .ref (B + v0)), (1, .long v1)]) hx hb dX11_feed_57 hl (k := 2) rfl (by rfl) (by decide) rfl (fun ls hl => ?_)
      refine lv_goto (tgt := 37) hx hb dX11_feed_60 (by decide) ?_
      exact ih _ _ hf _ _ _ hP hS (lv_sub hl [1, 2, 0] rfl)

set_option maxHeartbeats 4000000 in
set_option maxRecDepth 100000 in
theorem ctX11_feed (l : Launch) (B : Nat) (D : va_G) (E : Nat → ClassId) (v0 : Nat) (v1 : Int64) (v3 : Int32) (g : hs_S) (o : Int32 × hs_S) (hf : fX11_feed v0 v1 v3 g = some o) : Met l yX11_feed wsX11_feed rmX11_feed (hs_Pc B D E g [.ref (B + v0), .long v1, .int v3]) (hs_Qi B D E o) (0) (0) (hs_F B) := by
  refine Met.ofW (cc := cX11_feed) (maxL := 5) (ret := (some .int)) (by decide) rfl ?_
  intro p e s m args below meth c s₁ Bd hml hv
  obtain ⟨rfl, hP, hK⟩ := hv
  have hx := Bd.exec
  have hb := Bd.bytes
  have hr := Bd.returns
  have hts := atoms_spec (ws := wsX11_feed) Bd.pre
  have hown : s.vm.findClass RX11 = some m.cls := findClass_of_methodNamed Bd.named
  have hlocks := Bd.notSynchronized
  have hS : hs_Sx B s.heap s.heap [] := va_S.rf
  have hX : hs_cx cX11_feed (some .int) 5 RX11 wsX11_feed p s m (List.toArray [.ref (B + v0), .long v1, .int v3]) meth c D E := ⟨hx, hb, hr, hml, hown, hts, hlocks, hK⟩
  have hl := lv_entry ([.ref (B + v0), .long v1, .int v3]) (n := 5) (Nat.le_of_ble_eq_true rfl)
  rw [lg_entry_eq]
  generalize (lg_sl ([.ref (B + v0), .long v1, .int v3]) ++ List.replicate (5 - (lg_sl ([.ref (B + v0), .long v1, .int v3])).length) Slot.unset).toArray = ls at hl ⊢
  have hl : lv_has ls 5 [(0, .ref (B + v0)), (1, .long v1), (3, .int v3)] := hl
  have hP : hs_P B D E g s.heap := hP
  unfold fX11_feed at hf
  refine lv_iload_n hx hb dX11_feed_0 rfl (lv_at hl 2 rfl) ?_
  refine lv_iconst (v := 1) hx hb dX11_feed_1 (by decide) ?_
  refine lv_icmp_lt (tgt := 11) hx hb dX11_feed_2 (by decide) (fun hc => ?_) (fun hc => ?_)
  · replace hf := hs_t hf hc
    refine lv_bipush (v := -3) hx hb dX11_feed_11 (by decide) ?_
    exact hs_iret hx hb hr hlocks rfl hK hP hS hf dX11_feed_13
  · replace hf := hs_f hf hc
    refine lv_iload_n hx hb dX11_feed_5 rfl (lv_at hl 2 rfl) ?_
    refine lv_bipush (v := 8) hx hb dX11_feed_6 (by decide) ?_
    refine lv_icmp_le (tgt := 14) hx hb dX11_feed_8 (by decide) (fun hc => ?_) (fun hc => ?_)
    · replace hf := hs_t hf hc
      refine lv_aload_n hx hb dX11_feed_14 rfl (lv_at hl 0 rfl) ?_
      obtain ⟨h1, hf⟩ := hs_ck hf
      obtain ⟨h2, hf⟩ := hs_ck hf
      refine hs_getr (C := RX11) (T := TX11) (N := 8) hx hb hts kX11_feed_1 hown hK.1 hP h1 (by decide) rfl 0 (by decide) (hts _ kX11_feed_0) (fun _ h => h) rfl h2 dX11_feed_15 ?_
      obtain ⟨h3, hf⟩ := hs_ck hf
      refine hs_geti (C := RX0) (T := TX0) (N := 5) hx hb hts kX11_feed_3 hown hK.1 hP h3 (by decide) rfl 3 (by decide) (hts _ kX11_feed_2) (fun _ h => h) rfl dX11_feed_18 ?_
      refine lv_iload_n hx hb dX11_feed_21 rfl (lv_at hl 2 rfl) ?_
      refine lv_iadd hx hb dX11_feed_22 ?_
      refine lv_sipush (v := 6000) hx hb dX11_feed_23 (by decide) ?_
      refine lv_icmp_le (tgt := 32) hx hb dX11_feed_26 (by decide) (fun hc => ?_) (fun hc => ?_)
      · replace hf := hs_t hf hc
        refine lv_iload_n hx hb dX11_feed_32 rfl (lv_at hl 2 rfl) ?_
        refine lv_iconst (v := 1) hx hb dX11_feed_33 (by decide) ?_
        refine lv_isub hx hb dX11_feed_34 ?_
        refine lv_istore (lv' := [(4, .int (v3 - (1 : Int32))), (0, .ref (B + v0)), (1, .long v1), (3, .int v3)]) hx hb dX11_feed_35 hl (by decide) rfl (fun ls hl => ?_)
        obtain ⟨g11, h12, hf⟩ := hs_bv_some hf
        refine wX11_feed_37 hX (fun H locs ls hP hS hl => ?_) hs_N _ _ h12 _ _ _ hP hS (lv_sub hl [1, 2, 0] rfl)
        refine lv_aload_n hx hb dX11_feed_63 rfl (lv_at hl 0 rfl) ?_
        obtain ⟨h13, hf⟩ := hs_ck hf
        obtain ⟨h14, hf⟩ := hs_ck hf
        refine hs_getr (C := RX11) (T := TX11) (N := 8) hx hb hts kX11_feed_1 hown hK.1 hP h13 (by decide) rfl 0 (by decide) (hts _ kX11_feed_0) (fun _ h => h) rfl h14 dX11_feed_64 ?_
        obtain ⟨h15, hf⟩ := hs_ck hf
        refine hs_geti (C := RX0) (T := TX0) (N := 5) hx hb hts kX11_feed_3 hown hK.1 hP h15 (by decide) rfl 3 (by decide) (hts _ kX11_feed_2) (fun _ h => h) rfl dX11_feed_67 ?_
        exact hs_iret hx hb hr hlocks rfl hK hP hS hf dX11_feed_70
      · replace hf := hs_f hf hc
        refine lv_bipush (v := -4) hx hb dX11_feed_29 (by decide) ?_
        exact hs_iret hx hb hr hlocks rfl hK hP hS hf dX11_feed_31
    · replace hf := hs_f hf hc
      refine lv_bipush (v := -3) hx hb dX11_feed_11 (by decide) ?_
      exact hs_iret hx hb hr hlocks rfl hK hP hS hf dX11_feed_13

set_option maxRecDepth 20000 in
theorem ggX11_load_X2_firstWrong : GoodIn wsX11_load wsX2_firstWrong := goodIn_r _ [10, 11, 12, 13, 14, 15, 16, 17, 18, 19, 20, 21, 22, 23, 24, 25, 26, 27, 28, 29, 30, 31, 32, 33, 9, 34, 35, 36, 37, 38, 39, 40, 41, 42, 43, 44, 45, 46, 47, 48, 49, 50, 51, 52, 53, 54, 55, 56, 57, 58, 59, 60, 61, 62, 63, 64, 65, 66, 67, 68, 69, 70, 71, 72, 73, 74, 75, 76, 77, 78, 79, 80, 81, 82, 83, 84, 85, 86, 87, 88, 89, 90, 91, 92, 93, 94, 95, 96, 97, 98, 99, 100, 101, 102, 103, 104, 105, 106, 107, 108, 109, 110, 111, 112, 113, 114, 115, 116, 117, 118, 119, 120, 121, 122, 123, 124, 125, 126, 127, 128, 129, 130, 131, 132, 133, 134, 135, 136, 137, 138, 139, 140, 141, 142, 143, 144, 145, 146, 147, 148, 149, 150, 151, 152, 153, 154, 155, 156, 157, 158, 159, 160, 161, 162, 163, 164, 165, 166, 167, 168, 169, 170, 171, 172, 173, 174, 175, 176, 177, 178, 179, 180, 181, 182, 183, 184, 185, 186, 187, 188, 189, 190, 191, 192, 193, 194, 195, 196, 197, 198, 199, 200, 201, 202, 203, 204, 205, 206, 207, 208, 209, 210, 211, 212, 213, 214, 215, 216, 217, 218, 219, 220, 221, 222, 223, 224, 225, 226, 227, 228, 229, 242, 243, 244, 245, 246, 247, 248, 249, 250, 251, 252, 253, 254, 255, 256, 257, 258, 259, 260, 261] (by decide +kernel) (by decide +kernel)
set_option maxRecDepth 20000 in
theorem gX11_load_X2_firstWrong : GoodIn wsX11_load (wsV RX11 64 RX2 yX2_firstWrong wsX2_firstWrong) := goodIn_app (goodIn_of _ (by decide +kernel)) ggX11_load_X2_firstWrong
set_option maxRecDepth 20000 in
theorem ggX11_load_X0_empty : GoodIn wsX11_load wsX0_empty := goodIn_r _ [233, 19, 115, 242, 243, 244, 245, 246] (by decide +kernel) (by decide +kernel)
set_option maxRecDepth 20000 in
theorem gX11_load_X0_empty : GoodIn wsX11_load (wsV RX11 68 RX0 yX0_empty wsX0_empty) := goodIn_app (goodIn_of _ (by decide +kernel)) ggX11_load_X0_empty
theorem dX11_load_0 : decode cX11_load 0 = .ok (.aload_n 0, 1) := by decide +kernel
theorem dX11_load_1 : decode cX11_load 1 = .ok (.getfield 37, 3) := by decide +kernel
theorem dX11_load_4 : decode cX11_load 4 = .ok (.aload_n 0, 1) := by decide +kernel
theorem dX11_load_5 : decode cX11_load 5 = .ok (.getfield 14, 3) := by decide +kernel
theorem dX11_load_8 : decode cX11_load 8 = .ok (.invokevirtual 64, 3) := by decide +kernel
theorem dX11_load_11 : decode cX11_load 11 = .ok (.istore_n 1, 1) := by decide +kernel
theorem dX11_load_12 : decode cX11_load 12 = .ok (.iload_n 1, 1) := by decide +kernel
theorem dX11_load_13 : decode cX11_load 13 = .ok (.iconst (-1), 1) := by decide +kernel
theorem dX11_load_14 : decode cX11_load 14 = .ok (.if_icmp .ne 28, 3) := by decide +kernel
theorem dX11_load_17 : decode cX11_load 17 = .ok (.aload_n 0, 1) := by decide +kernel
theorem dX11_load_18 : decode cX11_load 18 = .ok (.getfield 18, 3) := by decide +kernel
theorem dX11_load_21 : decode cX11_load 21 = .ok (.astore_n 2, 1) := by decide +kernel
theorem dX11_load_22 : decode cX11_load 22 = .ok (.aload_n 0, 1) := by decide +kernel
theorem dX11_load_23 : decode cX11_load 23 = .ok (.aload_n 0, 1) := by decide +kernel
theorem dX11_load_24 : decode cX11_load 24 = .ok (.getfield 14, 3) := by decide +kernel
theorem dX11_load_27 : decode cX11_load 27 = .ok (.putfield 18, 3) := by decide +kernel
theorem dX11_load_30 : decode cX11_load 30 = .ok (.aload_n 0, 1) := by decide +kernel
theorem dX11_load_31 : decode cX11_load 31 = .ok (.aload_n 2, 1) := by decide +kernel
theorem dX11_load_32 : decode cX11_load 32 = .ok (.putfield 14, 3) := by decide +kernel
theorem dX11_load_35 : decode cX11_load 35 = .ok (.aload_n 0, 1) := by decide +kernel
theorem dX11_load_36 : decode cX11_load 36 = .ok (.getfield 24, 3) := by decide +kernel
theorem dX11_load_39 : decode cX11_load 39 = .ok (.invokevirtual 68, 3) := by decide +kernel
theorem dX11_load_42 : decode cX11_load 42 = .ok (.aload_n 0, 1) := by decide +kernel
theorem dX11_load_43 : decode cX11_load 43 = .ok (.getfield 14, 3) := by decide +kernel
theorem dX11_load_46 : decode cX11_load 46 = .ok (.invokevirtual 68, 3) := by decide +kernel
theorem dX11_load_49 : decode cX11_load 49 = .ok (.iload_n 1, 1) := by decide +kernel
theorem dX11_load_50 : decode cX11_load 50 = .ok (.iconst (-1), 1) := by decide +kernel
theorem dX11_load_51 : decode cX11_load 51 = .ok (.if_icmp .ne 13, 3) := by decide +kernel
theorem dX11_load_54 : decode cX11_load 54 = .ok (.aload_n 0, 1) := by decide +kernel
theorem dX11_load_55 : decode cX11_load 55 = .ok (.getfield 18, 3) := by decide +kernel
theorem dX11_load_58 : decode cX11_load 58 = .ok (.getfield 71, 3) := by decide +kernel
theorem dX11_load_61 : decode cX11_load 61 = .ok (.goto 7, 3) := by decide +kernel
theorem dX11_load_64 : decode cX11_load 64 = .ok (.bipush (-10), 2) := by decide +kernel
theorem dX11_load_66 : decode cX11_load 66 = .ok (.iload_n 1, 1) := by decide +kernel
theorem dX11_load_67 : decode cX11_load 67 = .ok (.isub, 1) := by decide +kernel
theorem dX11_load_68 : decode cX11_load 68 = .ok (.ireturn, 1) := by decide +kernel
theorem kX11_load_0 : Cond.fieldLink RX11 37 "StepRewriter" "check" "LStepRewriter$FormCheck;" ∈ wsX11_load := by decide +kernel
theorem kX11_load_1 : ∀ w ∈ u_ws RX11 TX11 8, w ∈ wsX11_load := by decide +kernel
theorem kX11_load_2 : Cond.fieldLink RX11 14 "StepRewriter" "tape" "LStepRewriter$CodeSet;" ∈ wsX11_load := by decide +kernel
theorem kX11_load_3 : Cond.fieldLink RX11 18 "StepRewriter" "file" "LStepRewriter$CodeSet;" ∈ wsX11_load := by decide +kernel
theorem kX11_load_4 : Cond.fieldLink RX11 71 "StepRewriter$CodeSet" "count" "I" ∈ wsX11_load := by decide +kernel
theorem kX11_load_5 : ∀ w ∈ u_ws RX0 TX0 5, w ∈ wsX11_load := by decide +kernel
theorem kX11_load_6 : Cond.fieldLink RX11 24 "StepRewriter" "rewritten" "LStepRewriter$CodeSet;" ∈ wsX11_load := by decide +kernel
def jX11_load_42 (v0 : Nat) (v1 : Int32) (g : hs_S) : Option (Int32 × hs_S) :=
  if hs_kd g v0 = 9 then
  if ¬ (hs_R g v0 0) = 0 then
  if hs_kd g ((hs_R g v0 0) - 1) = 0 then
  hs_bv (fX0_empty ((hs_R g v0 0) - 1) g) fun g11 =>
  if v1 = (-1 : Int32) then (
    if hs_kd g11 v0 = 9 then
    if ¬ (hs_R g11 v0 1) = 0 then
    if hs_kd g11 ((hs_R g11 v0 1) - 1) = 0 then
    some ((hs_I g11 ((hs_R g11 v0 1) - 1) 4), g11)
    else none else none else none
  ) else (
    some (((-10 : Int32) - v1), g11)
  )
  else none else none else none
def fX11_load (v0 : Nat) (g : hs_S) : Option (Int32 × hs_S) :=
  if hs_kd g v0 = 9 then
  if ¬ (hs_R g v0 5) = 0 then
  if ¬ (hs_R g v0 0) = 0 then
  if hs_kd g ((hs_R g v0 5) - 1) = 2 then
  hs_bd (fX2_firstWrong ((hs_R g v0 5) - 1) ((hs_R g v0 0) - 1) g) fun r6 g5 =>
  if r6 = (-1 : Int32) then (
    if hs_kd g5 v0 = 9 then
    if ¬ (hs_R g5 v0 1) = 0 then
    if ¬ (hs_R g5 v0 0) = 0 then
    if ¬ (hs_R (hs_wR (hs_wR g5 v0 1 ((hs_R g5 v0 0) - 1)) v0 0 ((hs_R g5 v0 1) - 1)) v0 3) = 0 then
    if hs_kd (hs_wR (hs_wR g5 v0 1 ((hs_R g5 v0 0) - 1)) v0 0 ((hs_R g5 v0 1) - 1)) ((hs_R (hs_wR (hs_wR g5 v0 1 ((hs_R g5 v0 0) - 1)) v0 0 ((hs_R g5 v0 1) - 1)) v0 3) - 1) = 0 then
    hs_bv (fX0_empty ((hs_R (hs_wR (hs_wR g5 v0 1 ((hs_R g5 v0 0) - 1)) v0 0 ((hs_R g5 v0 1) - 1)) v0 3) - 1) (hs_wR (hs_wR g5 v0 1 ((hs_R g5 v0 0) - 1)) v0 0 ((hs_R g5 v0 1) - 1))) fun g22 =>
    jX11_load_42 v0 r6 g22
    else none else none else none else none else none
  ) else (
    jX11_load_42 v0 r6 g5
  )
  else none else none else none else none
abbrev rmX11_load : Room := { frames := 7, cells := 0, slots := 0, locals := 167 }
set_option maxHeartbeats 4000000 in
set_option maxRecDepth 100000 in
theorem wX11_load_j42 {p : Program} {l : Launch} {e : Env} {s : State} {m : MethodId} {args : Array Value} {below : List Frame} {meth : Method} {c : Code} {B : Nat} {D : va_G} {E : Nat → ClassId} (hX : hs_cx cX11_load (some .int) 3 RX11 wsX11_load p s m args meth c D E) {o : Int32 × hs_S}  {v0 : Nat} {v1 : Int32}   {g : hs_S} {H : Heap} {locs : List Loc} {ls : Array Slot} (hf : jX11_load_42 v0 v1 g = some o) (hP : hs_P B D E g H) (hS : hs_Sx B s.heap H locs) (hl : lv_has ls 3 [(0, .ref (B + v0)), (1, .int v1)]) : W p l e rmX11_load s m args below meth c H locs 0 0 (MQ below (hs_Qi B D E o) args s 0 0 (hs_F B)) (F0 m 42 ls []) := by
  obtain ⟨hx, hb, hr, hml, hown, hts, hlocks, hK⟩ := id hX
  unfold jX11_load_42 at hf
  refine lv_aload_n hx hb dX11_load_42 rfl (lv_at hl 0 rfl) ?_
  obtain ⟨h8, hf⟩ := hs_ck hf
  obtain ⟨h9, hf⟩ := hs_ck hf
  refine hs_getr (C := RX11) (T := TX11) (N := 8) hx hb hts kX11_load_1 hown hK.1 hP h8 (by decide) rfl 0 (by decide) (hts _ kX11_load_2) (fun _ h => h) rfl h9 dX11_load_43 ?_
  obtain ⟨h10, hf⟩ := hs_ck hf
  obtain ⟨g11, h13, hf⟩ := hs_bv_some hf
  refine hs_callv (va_runV (As := []) (rest := []) ⟨hx, hb, hml, hown, hts⟩ (ctX0_empty l B D E ((hs_R g v0 0) - 1) g _ h13) (cwV 0 hts gX11_load_X0_empty rfl rfl rfl (by decide +kernel) ⟨Nat.le_of_ble_eq_true rfl, Nat.le_of_ble_eq_true rfl⟩) (hs_preV (r := (RX0, TX0, 5)) hP hK h10 (by decide) rfl) rfl rfl hl.1 rfl (lv_room (Nat.le_of_ble_eq_true rfl)) dX11_load_46 ⟨(Nat.le_of_ble_eq_true rfl), (Nat.le_of_ble_eq_true rfl)⟩) hS (fun H locs hP hS => ?_)
  refine lv_iload_n hx hb dX11_load_49 rfl (lv_at hl 1 rfl) ?_
  refine lv_iconst (v := -1) hx hb dX11_load_50 (by decide) ?_
  refine lv_icmp_ne (tgt := 64) hx hb dX11_load_51 (by decide) (fun hc => ?_) (fun hc => ?_)
  · replace hf := hs_f hf hc
    refine lv_bipush (v := -10) hx hb dX11_load_64 (by decide) ?_
    refine lv_iload_n hx hb dX11_load_66 rfl (lv_at hl 1 rfl) ?_
    refine lv_isub hx hb dX11_load_67 ?_
    exact hs_iret hx hb hr hlocks rfl hK hP hS hf dX11_load_68
  · replace hf := hs_t hf hc
    refine lv_aload_n hx hb dX11_load_54 rfl (lv_at hl 0 rfl) ?_
    obtain ⟨h14, hf⟩ := hs_ck hf
    obtain ⟨h15, hf⟩ := hs_ck hf
    refine hs_getr (C := RX11) (T := TX11) (N := 8) hx hb hts kX11_load_1 hown hK.1 hP h14 (by decide) rfl 1 (by decide) (hts _ kX11_load_3) (fun _ h => h) rfl h15 dX11_load_55 ?_
    obtain ⟨h16, hf⟩ := hs_ck hf
    refine hs_geti (C := RX0) (T := TX0) (N := 5) hx hb hts kX11_load_5 hown hK.1 hP h16 (by decide) rfl 4 (by decide) (hts _ kX11_load_4) (fun _ h => h) rfl dX11_load_58 ?_
    refine lv_goto (tgt := 68) hx hb dX11_load_61 (by decide) ?_
    exact hs_iret hx hb hr hlocks rfl hK hP hS hf dX11_load_68

set_option maxHeartbeats 4000000 in
set_option maxRecDepth 100000 in
theorem ctX11_load (l : Launch) (B : Nat) (D : va_G) (E : Nat → ClassId) (v0 : Nat) (g : hs_S) (o : Int32 × hs_S) (hf : fX11_load v0 g = some o) : Met l yX11_load wsX11_load rmX11_load (hs_Pc B D E g [.ref (B + v0)]) (hs_Qi B D E o) (0) (0) (hs_F B) := by
  refine Met.ofW (cc := cX11_load) (maxL := 3) (ret := (some .int)) (by decide) rfl ?_
  intro p e s m args below meth c s₁ Bd hml hv
  obtain ⟨rfl, hP, hK⟩ := hv
  have hx := Bd.exec
  have hb := Bd.bytes
  have hr := Bd.returns
  have hts := atoms_spec (ws := wsX11_load) Bd.pre
  have hown : s.vm.findClass RX11 = some m.cls := findClass_of_methodNamed Bd.named
  have hlocks := Bd.notSynchronized
  have hS : hs_Sx B s.heap s.heap [] := va_S.rf
  have hX : hs_cx cX11_load (some .int) 3 RX11 wsX11_load p s m (List.toArray [.ref (B + v0)]) meth c D E := ⟨hx, hb, hr, hml, hown, hts, hlocks, hK⟩
  have hl := lv_entry ([.ref (B + v0)]) (n := 3) (Nat.le_of_ble_eq_true rfl)
  rw [lg_entry_eq]
  generalize (lg_sl ([.ref (B + v0)]) ++ List.replicate (3 - (lg_sl ([.ref (B + v0)])).length) Slot.unset).toArray = ls at hl ⊢
  have hl : lv_has ls 3 [(0, .ref (B + v0))] := hl
  have hP : hs_P B D E g s.heap := hP
  unfold fX11_load at hf
  refine lv_aload_n hx hb dX11_load_0 rfl (lv_at hl 0 rfl) ?_
  obtain ⟨h1, hf⟩ := hs_ck hf
  obtain ⟨h2, hf⟩ := hs_ck hf
  refine hs_getr (C := RX11) (T := TX11) (N := 8) hx hb hts kX11_load_1 hown hK.1 hP h1 (by decide) rfl 5 (by decide) (hts _ kX11_load_0) (fun _ h => h) rfl h2 dX11_load_1 ?_
  refine lv_aload_n hx hb dX11_load_4 rfl (lv_at hl 0 rfl) ?_
  obtain ⟨h3, hf⟩ := hs_ck hf
  refine hs_getr (C := RX11) (T := TX11) (N := 8) hx hb hts kX11_load_1 hown hK.1 hP h1 (by decide) rfl 0 (by decide) (hts _ kX11_load_2) (fun _ h => h) rfl h3 dX11_load_5 ?_
  obtain ⟨h4, hf⟩ := hs_ck hf
  obtain ⟨r6, g5, h7, hf⟩ := hs_bd_some hf
  refine hs_calli (va_runV (As := [.ref (B + ((hs_R g v0 0) - 1))]) (rest := []) ⟨hx, hb, hml, hown, hts⟩ (ctX2_firstWrong l B D E ((hs_R g v0 5) - 1) ((hs_R g v0 0) - 1) g _ h7) (cwV 1 hts gX11_load_X2_firstWrong rfl rfl rfl (by decide +kernel) ⟨Nat.le_of_ble_eq_true rfl, Nat.le_of_ble_eq_true rfl⟩) (hs_preV (r := (RX2, TX2, 1)) hP hK h4 (by decide) rfl) rfl rfl hl.1 rfl (lv_room (Nat.le_of_ble_eq_true rfl)) dX11_load_8 ⟨(Nat.le_of_ble_eq_true rfl), (Nat.le_of_ble_eq_true rfl)⟩) hS (fun H locs hP hS => ?_)
  refine lv_istore_n (lv' := [(1, .int r6), (0, .ref (B + v0))]) hx hb dX11_load_11 rfl hl (by decide) rfl (fun ls hl => ?_)
  refine lv_iload_n hx hb dX11_load_12 rfl (lv_at hl 0 rfl) ?_
  refine lv_iconst (v := -1) hx hb dX11_load_13 (by decide) ?_
  refine lv_icmp_ne (tgt := 42) hx hb dX11_load_14 (by decide) (fun hc => ?_) (fun hc => ?_)
  · replace hf := hs_f hf hc
    exact wX11_load_j42 hX hf hP hS (lv_sub hl [1, 0] rfl)
  · replace hf := hs_t hf hc
    refine lv_aload_n hx hb dX11_load_17 rfl (lv_at hl 1 rfl) ?_
    obtain ⟨h17, hf⟩ := hs_ck hf
    obtain ⟨h18, hf⟩ := hs_ck hf
    refine hs_getr (C := RX11) (T := TX11) (N := 8) hx hb hts kX11_load_1 hown hK.1 hP h17 (by decide) rfl 1 (by decide) (hts _ kX11_load_3) (fun _ h => h) rfl h18 dX11_load_18 ?_
    refine lv_astore_n (lv' := [(2, .ref (B + ((hs_R g5 v0 1) - 1))), (1, .int r6), (0, .ref (B + v0))]) hx hb dX11_load_21 rfl hl (by decide) rfl (fun ls hl => ?_)
    refine lv_aload_n hx hb dX11_load_22 rfl (lv_at hl 2 rfl) ?_
    refine lv_aload_n hx hb dX11_load_23 rfl (lv_at hl 2 rfl) ?_
    obtain ⟨h19, hf⟩ := hs_ck hf
    refine hs_getr (C := RX11) (T := TX11) (N := 8) hx hb hts kX11_load_1 hown hK.1 hP h17 (by decide) rfl 0 (by decide) (hts _ kX11_load_2) (fun _ h => h) rfl h19 dX11_load_24 ?_
    refine hs_putr (C := RX11) (T := TX11) (N := 8) hx hb hts kX11_load_1 tyX11 tyX11_ok nmX11 hown hK.1 hP hS h17 (by decide) rfl 1 (by decide) (hts _ kX11_load_3) (fun _ h => h) (Or.inl rfl) (fun _ => rfl) (fun _ => rfl) rfl dX11_load_27 (fun H locs hP hS => ?_)
    refine lv_aload_n hx hb dX11_load_30 rfl (lv_at hl 2 rfl) ?_
    refine lv_aload_n hx hb dX11_load_31 rfl (lv_at hl 0 rfl) ?_
    refine hs_putr (C := RX11) (T := TX11) (N := 8) hx hb hts kX11_load_1 tyX11 tyX11_ok nmX11 hown hK.1 hP hS h17 (by decide) rfl 0 (by decide) (hts _ kX11_load_2) (fun _ h => h) (Or.inl rfl) (fun _ => rfl) (fun _ => rfl) rfl dX11_load_32 (fun H locs hP hS => ?_)
    refine lv_aload_n hx hb dX11_load_35 rfl (lv_at hl 2 rfl) ?_
    obtain ⟨h20, hf⟩ := hs_ck hf
    refine hs_getr (C := RX11) (T := TX11) (N := 8) hx hb hts kX11_load_1 hown hK.1 hP h17 (by decide) rfl 3 (by decide) (hts _ kX11_load_6) (fun _ h => h) rfl h20 dX11_load_36 ?_
    obtain ⟨h21, hf⟩ := hs_ck hf
    obtain ⟨g22, h24, hf⟩ := hs_bv_some hf
    refine hs_callv (va_runV (As := []) (rest := []) ⟨hx, hb, hml, hown, hts⟩ (ctX0_empty l B D E ((hs_R (hs_wR (hs_wR g5 v0 1 ((hs_R g5 v0 0) - 1)) v0 0 ((hs_R g5 v0 1) - 1)) v0 3) - 1) (hs_wR (hs_wR g5 v0 1 ((hs_R g5 v0 0) - 1)) v0 0 ((hs_R g5 v0 1) - 1)) _ h24) (cwV 0 hts gX11_load_X0_empty rfl rfl rfl (by decide +kernel) ⟨Nat.le_of_ble_eq_true rfl, Nat.le_of_ble_eq_true rfl⟩) (hs_preV (r := (RX0, TX0, 5)) hP hK h21 (by decide) rfl) rfl rfl hl.1 rfl (lv_room (Nat.le_of_ble_eq_true rfl)) dX11_load_39 ⟨(Nat.le_of_ble_eq_true rfl), (Nat.le_of_ble_eq_true rfl)⟩) hS (fun H locs hP hS => ?_)
    exact wX11_load_j42 hX hf hP hS (lv_sub hl [2, 1] rfl)

set_option maxRecDepth 20000 in
theorem ggX11_price_X4_sizeOf : GoodIn wsX11_price wsX4_sizeOf := goodIn_r _ [5, 6, 7, 4, 8, 9, 10, 11, 12, 13, 14] (by decide +kernel) (by decide +kernel)
set_option maxRecDepth 20000 in
theorem gX11_price_X4_sizeOf : GoodIn wsX11_price (va_wsS RX11 74 yX4_sizeOf wsX4_sizeOf) := goodIn_app (goodIn_of _ (by decide +kernel)) ggX11_price_X4_sizeOf
set_option maxRecDepth 20000 in
theorem ggX11_price_X8_of : GoodIn wsX11_price wsX8_of := goodIn_r _ [19, 20, 21, 22, 23, 24, 40] (by decide +kernel) (by decide +kernel)
set_option maxRecDepth 20000 in
theorem gX11_price_X8_of : GoodIn wsX11_price (wsV RX11 80 RX8 yX8_of wsX8_of) := goodIn_app (goodIn_of _ (by decide +kernel)) ggX11_price_X8_of
set_option maxRecDepth 20000 in
theorem ggX11_price_X8_become : GoodIn wsX11_price wsX8_become := goodIn_r _ [28, 20, 29, 30, 23, 31, 40] (by decide +kernel) (by decide +kernel)
set_option maxRecDepth 20000 in
theorem gX11_price_X8_become : GoodIn wsX11_price (wsV RX11 83 RX8 yX8_become wsX8_become) := goodIn_app (goodIn_of _ (by decide +kernel)) ggX11_price_X8_become
theorem dX11_price_0 : decode cX11_price 0 = .ok (.iload_n 1, 1) := by decide +kernel
theorem dX11_price_1 : decode cX11_price 1 = .ok (.invokestatic 74, 3) := by decide +kernel
theorem dX11_price_4 : decode cX11_price 4 = .ok (.ifCond .eq 14, 3) := by decide +kernel
theorem dX11_price_7 : decode cX11_price 7 = .ok (.iload_n 2, 1) := by decide +kernel
theorem dX11_price_8 : decode cX11_price 8 = .ok (.ifCond .lt 10, 3) := by decide +kernel
theorem dX11_price_11 : decode cX11_price 11 = .ok (.iload_n 2, 1) := by decide +kernel
theorem dX11_price_12 : decode cX11_price 12 = .ok (.sipush 1000, 3) := by decide +kernel
theorem dX11_price_15 : decode cX11_price 15 = .ok (.if_icmp .le 6, 3) := by decide +kernel
theorem dX11_price_18 : decode cX11_price 18 = .ok (.bipush (-3), 2) := by decide +kernel
theorem dX11_price_20 : decode cX11_price 20 = .ok (.ireturn, 1) := by decide +kernel
theorem dX11_price_21 : decode cX11_price 21 = .ok (.aload_n 0, 1) := by decide +kernel
theorem dX11_price_22 : decode cX11_price 22 = .ok (.getfield 30, 3) := by decide +kernel
theorem dX11_price_25 : decode cX11_price 25 = .ok (.iload_n 1, 1) := by decide +kernel
theorem dX11_price_26 : decode cX11_price 26 = .ok (.invokevirtual 80, 3) := by decide +kernel
theorem dX11_price_29 : decode cX11_price 29 = .ok (.istore_n 3, 1) := by decide +kernel
theorem dX11_price_30 : decode cX11_price 30 = .ok (.aload_n 0, 1) := by decide +kernel
theorem dX11_price_31 : decode cX11_price 31 = .ok (.getfield 30, 3) := by decide +kernel
theorem dX11_price_34 : decode cX11_price 34 = .ok (.iload_n 1, 1) := by decide +kernel
theorem dX11_price_35 : decode cX11_price 35 = .ok (.iload_n 2, 1) := by decide +kernel
theorem dX11_price_36 : decode cX11_price 36 = .ok (.invokevirtual 83, 3) := by decide +kernel
theorem dX11_price_39 : decode cX11_price 39 = .ok (.iload_n 3, 1) := by decide +kernel
theorem dX11_price_40 : decode cX11_price 40 = .ok (.ireturn, 1) := by decide +kernel
theorem kX11_price_0 : Cond.fieldLink RX11 30 "StepRewriter" "prices" "LStepRewriter$Prices;" ∈ wsX11_price := by decide +kernel
theorem kX11_price_1 : ∀ w ∈ u_ws RX11 TX11 8, w ∈ wsX11_price := by decide +kernel
def fX11_price (v0 : Nat) (v1 : Int32) (v2 : Int32) (g : hs_S) : Option (Int32 × hs_S) :=
  hs_bd (fX4_sizeOf v1 g) fun r2 g1 =>
  if r2 = 0 then (
    some ((-3 : Int32), g1)
  ) else (
    if v2 < 0 then (
      some ((-3 : Int32), g1)
    ) else (
      if v2 ≤ (1000 : Int32) then (
        if hs_kd g1 v0 = 9 then
        if ¬ (hs_R g1 v0 4) = 0 then
        if hs_kd g1 ((hs_R g1 v0 4) - 1) = 7 then
        hs_bd (fX8_of ((hs_R g1 v0 4) - 1) v1 g1) fun r8 g7 =>
        if hs_kd g7 v0 = 9 then
        if ¬ (hs_R g7 v0 4) = 0 then
        if hs_kd g7 ((hs_R g7 v0 4) - 1) = 7 then
        hs_bv (fX8_become ((hs_R g7 v0 4) - 1) v1 v2 g7) fun g13 =>
        some (r8, g13)
        else none else none else none else none else none else none
      ) else (
        some ((-3 : Int32), g1)
      )
    )
  )
abbrev rmX11_price : Room := { frames := 2, cells := 0, slots := 0, locals := 44 }
set_option maxHeartbeats 4000000 in
set_option maxRecDepth 100000 in
theorem ctX11_price (l : Launch) (B : Nat) (D : va_G) (E : Nat → ClassId) (v0 : Nat) (v1 : Int32) (v2 : Int32) (g : hs_S) (o : Int32 × hs_S) (hf : fX11_price v0 v1 v2 g = some o) : Met l yX11_price wsX11_price rmX11_price (hs_Pc B D E g [.ref (B + v0), .int v1, .int v2]) (hs_Qi B D E o) (0) (0) (hs_F B) := by
  refine Met.ofW (cc := cX11_price) (maxL := 4) (ret := (some .int)) (by decide) rfl ?_
  intro p e s m args below meth c s₁ Bd hml hv
  obtain ⟨rfl, hP, hK⟩ := hv
  have hx := Bd.exec
  have hb := Bd.bytes
  have hr := Bd.returns
  have hts := atoms_spec (ws := wsX11_price) Bd.pre
  have hown : s.vm.findClass RX11 = some m.cls := findClass_of_methodNamed Bd.named
  have hlocks := Bd.notSynchronized
  have hS : hs_Sx B s.heap s.heap [] := va_S.rf
  have hX : hs_cx cX11_price (some .int) 4 RX11 wsX11_price p s m (List.toArray [.ref (B + v0), .int v1, .int v2]) meth c D E := ⟨hx, hb, hr, hml, hown, hts, hlocks, hK⟩
  have hl := lv_entry ([.ref (B + v0), .int v1, .int v2]) (n := 4) (Nat.le_of_ble_eq_true rfl)
  rw [lg_entry_eq]
  generalize (lg_sl ([.ref (B + v0), .int v1, .int v2]) ++ List.replicate (4 - (lg_sl ([.ref (B + v0), .int v1, .int v2])).length) Slot.unset).toArray = ls at hl ⊢
  have hl : lv_has ls 4 [(0, .ref (B + v0)), (1, .int v1), (2, .int v2)] := hl
  have hP : hs_P B D E g s.heap := hP
  unfold fX11_price at hf
  refine lv_iload_n hx hb dX11_price_0 rfl (lv_at hl 1 rfl) ?_
  obtain ⟨r2, g1, h3, hf⟩ := hs_bd_some hf
  refine hs_calli (va_runS (As := [.int v1]) (rest := []) ⟨hx, hb, hml, hown, hts⟩ (ctX4_sizeOf l B D E v1 g _ h3) (va_cwS 1 hts gX11_price_X4_sizeOf rfl rfl rfl (by decide +kernel) ⟨Nat.le_of_ble_eq_true rfl, Nat.le_of_ble_eq_true rfl⟩) (hs_pre hP hK) rfl rfl hl.1 rfl (lv_room (Nat.le_of_ble_eq_true rfl)) dX11_price_1 ⟨(Nat.le_of_ble_eq_true rfl), (Nat.le_of_ble_eq_true rfl)⟩) hS (fun H locs hP hS => ?_)
  refine lv_if_eq (tgt := 18) hx hb dX11_price_4 (by decide) (fun hc => ?_) (fun hc => ?_)
  · replace hf := hs_t hf hc
    refine lv_bipush (v := -3) hx hb dX11_price_18 (by decide) ?_
    exact hs_iret hx hb hr hlocks rfl hK hP hS hf dX11_price_20
  · replace hf := hs_f hf hc
    refine lv_iload_n hx hb dX11_price_7 rfl (lv_at hl 2 rfl) ?_
    refine lv_if_lt (tgt := 18) hx hb dX11_price_8 (by decide) (fun hc => ?_) (fun hc => ?_)
    · replace hf := hs_t hf hc
      refine lv_bipush (v := -3) hx hb dX11_price_18 (by decide) ?_
      exact hs_iret hx hb hr hlocks rfl hK hP hS hf dX11_price_20
    · replace hf := hs_f hf hc
      refine lv_iload_n hx hb dX11_price_11 rfl (lv_at hl 2 rfl) ?_
      refine lv_sipush (v := 1000) hx hb dX11_price_12 (by decide) ?_
      refine lv_icmp_le (tgt := 21) hx hb dX11_price_15 (by decide) (fun hc => ?_) (fun hc => ?_)
      · replace hf := hs_t hf hc
        refine lv_aload_n hx hb dX11_price_21 rfl (lv_at hl 0 rfl) ?_
        obtain ⟨h4, hf⟩ := hs_ck hf
        obtain ⟨h5, hf⟩ := hs_ck hf
        refine hs_getr (C := RX11) (T := TX11) (N := 8) hx hb hts kX11_price_1 hown hK.1 hP h4 (by decide) rfl 4 (by decide) (hts _ kX11_price_0) (fun _ h => h) rfl h5 dX11_price_22 ?_
        refine lv_iload_n hx hb dX11_price_25 rfl (lv_at hl 1 rfl) ?_
        obtain ⟨h6, hf⟩ := hs_ck hf
        obtain ⟨r8, g7, h9, hf⟩ := hs_bd_some hf
        refine hs_calli (va_runV (As := [.int v1]) (rest := []) ⟨hx, hb, hml, hown, hts⟩ (ctX8_of l B D E ((hs_R g1 v0 4) - 1) v1 g1 _ h9) (cwV 1 hts gX11_price_X8_of rfl rfl rfl (by decide +kernel) ⟨Nat.le_of_ble_eq_true rfl, Nat.le_of_ble_eq_true rfl⟩) (hs_preV (r := (RX8, TX8, 1)) hP hK h6 (by decide) rfl) rfl rfl hl.1 rfl (lv_room (Nat.le_of_ble_eq_true rfl)) dX11_price_26 ⟨(Nat.le_of_ble_eq_true rfl), (Nat.le_of_ble_eq_true rfl)⟩) hS (fun H locs hP hS => ?_)
        refine lv_istore_n (lv' := [(3, .int r8), (0, .ref (B + v0)), (1, .int v1), (2, .int v2)]) hx hb dX11_price_29 rfl hl (by decide) rfl (fun ls hl => ?_)
        refine lv_aload_n hx hb dX11_price_30 rfl (lv_at hl 1 rfl) ?_
        obtain ⟨h10, hf⟩ := hs_ck hf
        obtain ⟨h11, hf⟩ := hs_ck hf
        refine hs_getr (C := RX11) (T := TX11) (N := 8) hx hb hts kX11_price_1 hown hK.1 hP h10 (by decide) rfl 4 (by decide) (hts _ kX11_price_0) (fun _ h => h) rfl h11 dX11_price_31 ?_
        refine lv_iload_n hx hb dX11_price_34 rfl (lv_at hl 2 rfl) ?_
        refine lv_iload_n hx hb dX11_price_35 rfl (lv_at hl 3 rfl) ?_
        obtain ⟨h12, hf⟩ := hs_ck hf
        obtain ⟨g13, h15, hf⟩ := hs_bv_some hf
        refine hs_callv (va_runV (As := [.int v1, .int v2]) (rest := []) ⟨hx, hb, hml, hown, hts⟩ (ctX8_become l B D E ((hs_R g7 v0 4) - 1) v1 v2 g7 _ h15) (cwV 2 hts gX11_price_X8_become rfl rfl rfl (by decide +kernel) ⟨Nat.le_of_ble_eq_true rfl, Nat.le_of_ble_eq_true rfl⟩) (hs_preV (r := (RX8, TX8, 1)) hP hK h12 (by decide) rfl) rfl rfl hl.1 rfl (lv_room (Nat.le_of_ble_eq_true rfl)) dX11_price_36 ⟨(Nat.le_of_ble_eq_true rfl), (Nat.le_of_ble_eq_true rfl)⟩) hS (fun H locs hP hS => ?_)
        refine lv_iload_n hx hb dX11_price_39 rfl (lv_at hl 0 rfl) ?_
        exact hs_iret hx hb hr hlocks rfl hK hP hS hf dX11_price_40
      · replace hf := hs_f hf hc
        refine lv_bipush (v := -3) hx hb dX11_price_18 (by decide) ?_
        exact hs_iret hx hb hr hlocks rfl hK hP hS hf dX11_price_20

set_option maxRecDepth 20000 in
theorem ggX11_rewrite_X0_empty : GoodIn wsX11_rewrite wsX0_empty := goodIn_r _ [10, 11, 12, 216, 217, 218, 219, 220] (by decide +kernel) (by decide +kernel)
set_option maxRecDepth 20000 in
theorem gX11_rewrite_X0_empty : GoodIn wsX11_rewrite (wsV RX11 68 RX0 yX0_empty wsX0_empty) := goodIn_app (goodIn_of _ (by decide +kernel)) ggX11_rewrite_X0_empty
set_option maxRecDepth 20000 in
theorem ggX11_rewrite_X0_method : GoodIn wsX11_rewrite wsX0_method := goodIn_r _ [16, 17, 18, 216, 217, 218, 219, 220] (by decide +kernel) (by decide +kernel)
set_option maxRecDepth 20000 in
theorem gX11_rewrite_X0_method : GoodIn wsX11_rewrite (wsV RX11 87 RX0 yX0_method wsX0_method) := goodIn_app (goodIn_of _ (by decide +kernel)) ggX11_rewrite_X0_method
set_option maxRecDepth 20000 in
theorem ggX11_rewrite_X5_plan : GoodIn wsX11_rewrite wsX5_plan := goodIn_r _ [23, 24, 25, 26, 27, 28, 29, 22, 30, 31, 32, 33, 34, 35, 36, 37, 38, 39, 40, 41, 42, 43, 44, 45, 46, 47, 48, 49, 50, 51, 52, 53, 54, 55, 56, 57, 58, 59, 60, 61, 62, 63, 64, 65, 66, 67, 68, 69, 70, 71, 72, 73, 74, 75, 76, 77, 78, 79, 80, 81, 82, 83, 84, 85, 86, 87, 88, 89, 90, 91, 92, 93, 94, 95, 96, 97, 98, 99, 100, 101, 102, 103, 104, 105, 106, 107, 108, 109, 110, 111, 112, 113, 114, 115, 116, 117, 118, 119, 120, 121, 122, 123, 124, 125, 126, 127, 128, 129, 130, 131, 132, 133, 134, 135, 136, 221, 222, 223, 224, 225, 226, 227, 228, 229, 230, 231, 232, 233, 234, 235, 236, 237] (by decide +kernel) (by decide +kernel)
set_option maxRecDepth 20000 in
theorem gX11_rewrite_X5_plan : GoodIn wsX11_rewrite (wsV RX11 91 RX5 yX5_plan wsX5_plan) := goodIn_app (goodIn_of _ (by decide +kernel)) ggX11_rewrite_X5_plan
set_option maxRecDepth 20000 in
theorem ggX11_rewrite_X5_write : GoodIn wsX11_rewrite wsX5_write := goodIn_r _ [140, 141, 142, 143, 144, 145, 26, 146, 147, 148, 39, 149, 42, 47, 150, 151, 152, 153, 154, 155, 156, 79, 54, 55, 56, 41, 43, 44, 45, 46, 157, 158, 159, 22, 160, 31, 88, 68, 69, 70, 161, 162, 163, 9, 164, 11, 165, 166, 72, 73, 167, 168, 169, 170, 171, 89, 90, 91, 92, 24, 93, 58, 59, 60, 98, 99, 100, 101, 102, 103, 104, 172, 173, 174, 175, 123, 176, 177, 114, 115, 116, 117, 25, 118, 178, 179, 180, 181, 182, 183, 184, 57, 185, 106, 107, 108, 109, 110, 111, 112, 113, 186, 187, 188, 189, 190, 78, 191, 192, 193, 194, 195, 196, 197, 198, 199, 200, 201, 226, 227, 228, 229, 230, 231, 232, 233, 234, 235, 236, 216, 217, 218, 219, 220, 221, 222, 223, 224, 225] (by decide +kernel) (by decide +kernel)
set_option maxRecDepth 20000 in
theorem gX11_rewrite_X5_write : GoodIn wsX11_rewrite (wsV RX11 95 RX5 yX5_write wsX5_write) := goodIn_app (goodIn_of _ (by decide +kernel)) ggX11_rewrite_X5_write
set_option maxRecDepth 20000 in
theorem ggX11_rewrite_X0_codeBytes : GoodIn wsX11_rewrite wsX0_codeBytes := goodIn_r _ [205, 12, 206, 207, 14, 15, 9, 16, 17, 18, 216, 217, 218, 219, 220, 226, 227, 228, 229, 230, 231, 232, 233, 234, 235, 236] (by decide +kernel) (by decide +kernel)
set_option maxRecDepth 20000 in
theorem gX11_rewrite_X0_codeBytes : GoodIn wsX11_rewrite (wsV RX11 99 RX0 yX0_codeBytes wsX0_codeBytes) := goodIn_app (goodIn_of _ (by decide +kernel)) ggX11_rewrite_X0_codeBytes
theorem dX11_rewrite_0 : decode cX11_rewrite 0 = .ok (.aload_n 0, 1) := by decide +kernel
theorem dX11_rewrite_1 : decode cX11_rewrite 1 = .ok (.getfield 18, 3) := by decide +kernel
theorem dX11_rewrite_4 : decode cX11_rewrite 4 = .ok (.getfield 71, 3) := by decide +kernel
theorem dX11_rewrite_7 : decode cX11_rewrite 7 = .ok (.ifCond .ne 6, 3) := by decide +kernel
theorem dX11_rewrite_10 : decode cX11_rewrite 10 = .ok (.bipush (-2), 2) := by decide +kernel
theorem dX11_rewrite_12 : decode cX11_rewrite 12 = .ok (.ireturn, 1) := by decide +kernel
theorem dX11_rewrite_13 : decode cX11_rewrite 13 = .ok (.aload_n 0, 1) := by decide +kernel
theorem dX11_rewrite_14 : decode cX11_rewrite 14 = .ok (.getfield 24, 3) := by decide +kernel
theorem dX11_rewrite_17 : decode cX11_rewrite 17 = .ok (.invokevirtual 68, 3) := by decide +kernel
theorem dX11_rewrite_20 : decode cX11_rewrite 20 = .ok (.iconst 0, 1) := by decide +kernel
theorem dX11_rewrite_21 : decode cX11_rewrite 21 = .ok (.istore_n 1, 1) := by decide +kernel
theorem dX11_rewrite_22 : decode cX11_rewrite 22 = .ok (.iload_n 1, 1) := by decide +kernel
theorem dX11_rewrite_23 : decode cX11_rewrite 23 = .ok (.aload_n 0, 1) := by decide +kernel
theorem dX11_rewrite_24 : decode cX11_rewrite 24 = .ok (.getfield 18, 3) := by decide +kernel
theorem dX11_rewrite_27 : decode cX11_rewrite 27 = .ok (.getfield 71, 3) := by decide +kernel
theorem dX11_rewrite_30 : decode cX11_rewrite 30 = .ok (.if_icmp .ge 69, 3) := by decide +kernel
theorem dX11_rewrite_33 : decode cX11_rewrite 33 = .ok (.aload_n 0, 1) := by decide +kernel
theorem dX11_rewrite_34 : decode cX11_rewrite 34 = .ok (.getfield 44, 3) := by decide +kernel
theorem dX11_rewrite_37 : decode cX11_rewrite 37 = .ok (.aload_n 0, 1) := by decide +kernel
theorem dX11_rewrite_38 : decode cX11_rewrite 38 = .ok (.getfield 18, 3) := by decide +kernel
theorem dX11_rewrite_41 : decode cX11_rewrite 41 = .ok (.iload_n 1, 1) := by decide +kernel
theorem dX11_rewrite_42 : decode cX11_rewrite 42 = .ok (.invokevirtual 87, 3) := by decide +kernel
theorem dX11_rewrite_45 : decode cX11_rewrite 45 = .ok (.aload_n 0, 1) := by decide +kernel
theorem dX11_rewrite_46 : decode cX11_rewrite 46 = .ok (.getfield 30, 3) := by decide +kernel
theorem dX11_rewrite_49 : decode cX11_rewrite 49 = .ok (.iconst 1, 1) := by decide +kernel
theorem dX11_rewrite_50 : decode cX11_rewrite 50 = .ok (.invokevirtual 91, 3) := by decide +kernel
theorem dX11_rewrite_53 : decode cX11_rewrite 53 = .ok (.istore_n 2, 1) := by decide +kernel
theorem dX11_rewrite_54 : decode cX11_rewrite 54 = .ok (.iload_n 2, 1) := by decide +kernel
theorem dX11_rewrite_55 : decode cX11_rewrite 55 = .ok (.sipush 4000, 3) := by decide +kernel
theorem dX11_rewrite_58 : decode cX11_rewrite 58 = .ok (.if_icmp .le 8, 3) := by decide +kernel
theorem dX11_rewrite_61 : decode cX11_rewrite 61 = .ok (.bipush (-10), 2) := by decide +kernel
theorem dX11_rewrite_63 : decode cX11_rewrite 63 = .ok (.iload_n 1, 1) := by decide +kernel
theorem dX11_rewrite_64 : decode cX11_rewrite 64 = .ok (.isub, 1) := by decide +kernel
theorem dX11_rewrite_65 : decode cX11_rewrite 65 = .ok (.ireturn, 1) := by decide +kernel
theorem dX11_rewrite_66 : decode cX11_rewrite 66 = .ok (.aload_n 0, 1) := by decide +kernel
theorem dX11_rewrite_67 : decode cX11_rewrite 67 = .ok (.getfield 44, 3) := by decide +kernel
theorem dX11_rewrite_70 : decode cX11_rewrite 70 = .ok (.aload_n 0, 1) := by decide +kernel
theorem dX11_rewrite_71 : decode cX11_rewrite 71 = .ok (.getfield 18, 3) := by decide +kernel
theorem dX11_rewrite_74 : decode cX11_rewrite 74 = .ok (.iload_n 1, 1) := by decide +kernel
theorem dX11_rewrite_75 : decode cX11_rewrite 75 = .ok (.invokevirtual 87, 3) := by decide +kernel
theorem dX11_rewrite_78 : decode cX11_rewrite 78 = .ok (.aload_n 0, 1) := by decide +kernel
theorem dX11_rewrite_79 : decode cX11_rewrite 79 = .ok (.getfield 24, 3) := by decide +kernel
theorem dX11_rewrite_82 : decode cX11_rewrite 82 = .ok (.aload_n 0, 1) := by decide +kernel
theorem dX11_rewrite_83 : decode cX11_rewrite 83 = .ok (.getfield 24, 3) := by decide +kernel
theorem dX11_rewrite_86 : decode cX11_rewrite 86 = .ok (.iload_n 1, 1) := by decide +kernel
theorem dX11_rewrite_87 : decode cX11_rewrite 87 = .ok (.invokevirtual 87, 3) := by decide +kernel
theorem dX11_rewrite_90 : decode cX11_rewrite 90 = .ok (.invokevirtual 95, 3) := by decide +kernel
theorem dX11_rewrite_93 : decode cX11_rewrite 93 = .ok (.iinc 1 1, 3) := by decide +kernel
theorem dX11_rewrite_96 : decode cX11_rewrite 96 = .ok (.goto (-74), 3) := by decide +kernel
theorem dX11_rewrite_99 : decode cX11_rewrite 99 = .ok (.aload_n 0, 1) := by decide +kernel
theorem dX11_rewrite_100 : decode cX11_rewrite 100 = .ok (.getfield 24, 3) := by decide +kernel
theorem dX11_rewrite_103 : decode cX11_rewrite 103 = .ok (.aload_n 0, 1) := by decide +kernel
theorem dX11_rewrite_104 : decode cX11_rewrite 104 = .ok (.getfield 18, 3) := by decide +kernel
theorem dX11_rewrite_107 : decode cX11_rewrite 107 = .ok (.getfield 71, 3) := by decide +kernel
theorem dX11_rewrite_110 : decode cX11_rewrite 110 = .ok (.putfield 71, 3) := by decide +kernel
theorem dX11_rewrite_113 : decode cX11_rewrite 113 = .ok (.aload_n 0, 1) := by decide +kernel
theorem dX11_rewrite_114 : decode cX11_rewrite 114 = .ok (.getfield 24, 3) := by decide +kernel
theorem dX11_rewrite_117 : decode cX11_rewrite 117 = .ok (.invokevirtual 99, 3) := by decide +kernel
theorem dX11_rewrite_120 : decode cX11_rewrite 120 = .ok (.ireturn, 1) := by decide +kernel
theorem kX11_rewrite_0 : Cond.fieldLink RX11 18 "StepRewriter" "file" "LStepRewriter$CodeSet;" ∈ wsX11_rewrite := by decide +kernel
theorem kX11_rewrite_1 : ∀ w ∈ u_ws RX11 TX11 8, w ∈ wsX11_rewrite := by decide +kernel
theorem kX11_rewrite_2 : Cond.fieldLink RX11 71 "StepRewriter$CodeSet" "count" "I" ∈ wsX11_rewrite := by decide +kernel
theorem kX11_rewrite_3 : ∀ w ∈ u_ws RX0 TX0 5, w ∈ wsX11_rewrite := by decide +kernel
theorem kX11_rewrite_4 : Cond.fieldLink RX11 24 "StepRewriter" "rewritten" "LStepRewriter$CodeSet;" ∈ wsX11_rewrite := by decide +kernel
theorem kX11_rewrite_5 : Cond.fieldLink RX11 44 "StepRewriter" "layout" "LStepRewriter$Layout;" ∈ wsX11_rewrite := by decide +kernel
theorem kX11_rewrite_6 : Cond.fieldLink RX11 30 "StepRewriter" "prices" "LStepRewriter$Prices;" ∈ wsX11_rewrite := by decide +kernel
def lX11_rewrite_22 : Nat → Nat → Int32 → hs_S → Option (Nat × Int32 × hs_S)
  | 0, _, _, _ => none
  | n + 1, v0, v1, g =>
    if hs_kd g v0 = 9 then
    if ¬ (hs_R g v0 1) = 0 then
    if hs_kd g ((hs_R g v0 1) - 1) = 0 then
    if (hs_I g ((hs_R g v0 1) - 1) 4) ≤ v1 then (
      some (0, v1, g)
    ) else (
      if ¬ (hs_R g v0 6) = 0 then
      hs_bd (fX0_method ((hs_R g v0 1) - 1) v1 g) fun r14 g13 =>
      if hs_kd g13 v0 = 9 then
      if ¬ (hs_R g13 v0 4) = 0 then
      if hs_kd g13 ((hs_R g v0 6) - 1) = 4 then
      hs_bd ((none : Option (Int32 × hs_S))) fun r20 g19 =>
      none
      else none else none else none else none
    )
    else none else none else none
theorem lX11_rewrite_22_s (n : Nat) (v0 : Nat) (v1 : Int32) (g : hs_S) : lX11_rewrite_22 (n + 1) v0 v1 g =
    if hs_kd g v0 = 9 then
    if ¬ (hs_R g v0 1) = 0 then
    if hs_kd g ((hs_R g v0 1) - 1) = 0 then
    if (hs_I g ((hs_R g v0 1) - 1) 4) ≤ v1 then (
      some (0, v1, g)
    ) else (
      if ¬ (hs_R g v0 6) = 0 then
      hs_bd (fX0_method ((hs_R g v0 1) - 1) v1 g) fun r14 g13 =>
      if hs_kd g13 v0 = 9 then
      if ¬ (hs_R g13 v0 4) = 0 then
      if hs_kd g13 ((hs_R g v0 6) - 1) = 4 then
      hs_bd ((none : Option (Int32 × hs_S))) fun r20 g19 =>
      none
      else none else none else none else none
    )
    else none else none else none := rfl
def fX11_rewrite (v0 : Nat) (g : hs_S) : Option (Int32 × hs_S) :=
  if hs_kd g v0 = 9 then
  if ¬ (hs_R g v0 1) = 0 then
  if hs_kd g ((hs_R g v0 1) - 1) = 0 then
  if (hs_I g ((hs_R g v0 1) - 1) 4) = 0 then (
    some ((-2 : Int32), g)
  ) else (
    if ¬ (hs_R g v0 3) = 0 then
    if hs_kd g ((hs_R g v0 3) - 1) = 0 then
    hs_bv (fX0_empty ((hs_R g v0 3) - 1) g) fun g6 =>
    hs_b3 (lX11_rewrite_22 hs_N v0 (0 : Int32) g6) fun k23 x22 g24 =>
    if k23 = 0 then (
      if hs_kd g24 v0 = 9 then
      if ¬ (hs_R g24 v0 3) = 0 then
      if ¬ (hs_R g24 v0 1) = 0 then
      if hs_kd g24 ((hs_R g24 v0 1) - 1) = 0 then
      if hs_kd g24 ((hs_R g24 v0 3) - 1) = 0 then
      if ¬ (hs_R (hs_wI g24 ((hs_R g24 v0 3) - 1) 4 (hs_I g24 ((hs_R g24 v0 1) - 1) 4)) v0 3) = 0 then
      if hs_kd (hs_wI g24 ((hs_R g24 v0 3) - 1) 4 (hs_I g24 ((hs_R g24 v0 1) - 1) 4)) ((hs_R (hs_wI g24 ((hs_R g24 v0 3) - 1) 4 (hs_I g24 ((hs_R g24 v0 1) - 1) 4)) v0 3) - 1) = 0 then
      hs_bd ((none : Option (Int32 × hs_S))) fun r34 g33 =>
      none
      else none else none else none else none else none else none else none
    ) else (
      some (((-10 : Int32) - x22), g24)
    )
    else none else none
  )
  else none else none else none
abbrev rmX11_rewrite : Room := { frames := 6, cells := 0, slots := 0, locals := 141 }
set_option maxHeartbeats 4000000 in
set_option maxRecDepth 100000 in
theorem wX11_rewrite_22 {p : Program} {l : Launch} {e : Env} {s : State} {m : MethodId} {args : Array Value} {below : List Frame} {meth : Method} {c : Code} {B : Nat} {D : va_G} {E : Nat → ClassId} (hX : hs_cx cX11_rewrite (some .int) 3 RX11 wsX11_rewrite p s m args meth c D E) {Q : State → Prop} {o : Nat × Int32 × hs_S} {v0 : Nat} (hex0 : o.1 = 0 → ∀ (H : Heap) (locs : List Loc) (ls : Array Slot), hs_P B D E (o.2.2) H → hs_Sx B s.heap H locs → lv_has ls 3 [(0, .ref (B + v0))] → W p l e rmX11_rewrite s m args below meth c H locs 0 0 Q (F0 m 99 ls [])) (hex1 : o.1 = 1 → ∀ (H : Heap) (locs : List Loc) (ls : Array Slot), hs_P B D E (o.2.2) H → hs_Sx B s.heap H locs → lv_has ls 3 [(1, .int (o.2.1))] → W p l e rmX11_rewrite s m args below meth c H locs 0 0 Q (F0 m 61 ls [])) : ∀ (n : Nat) (v1 : Int32) (g : hs_S), lX11_rewrite_22 n v0 v1 g = some o → ∀ (H : Heap) (locs : List Loc) (ls : Array Slot), hs_P B D E g H → hs_Sx B s.heap H locs → lv_has ls 3 [(0, .ref (B + v0)), (1, .int v1)] → W p l e rmX11_rewrite s m args below meth c H locs 0 0 Q (F0 m 22 ls []) := by
  obtain ⟨hx, hb, hr, hml, hown, hts, hlocks, hK⟩ := id hX
  intro n
  induction n with
  | zero =>
    intro v1 g hf
    cases hf
  | succ n ih =>
    intro v1 g hf H locs ls hP hS hl
    replace hf := (lX11_rewrite_22_s n v0 v1 g).symm.trans hf
    refine lv_iload_n hx hb dX11_rewrite_22 rfl (lv_at hl 1 rfl) ?_
    refine lv_aload_n hx hb dX11_rewrite_23 rfl (lv_at hl 0 rfl) ?_
    obtain ⟨h9, hf⟩ := hs_ck hf
    obtain ⟨h10, hf⟩ := hs_ck hf
    refine hs_getr (C := RX11) (T := TX11) (N := 8) hx hb hts kX11_rewrite_1 hown hK.1 hP h9 (by decide) rfl 1 (by decide) (hts _ kX11_rewrite_0) (fun _ h => h) rfl h10 dX11_rewrite_24 ?_
    obtain ⟨h11, hf⟩ := hs_ck hf
    refine hs_geti (C := RX0) (T := TX0) (N := 5) hx hb hts kX11_rewrite_3 hown hK.1 hP h11 (by decide) rfl 4 (by decide) (hts _ kX11_rewrite_2) (fun _ h => h) rfl dX11_rewrite_27 ?_
    refine lv_icmp_ge (tgt := 99) hx hb dX11_rewrite_30 (by decide) (fun hc => ?_) (fun hc => ?_)
    · replace hf := hs_t hf hc
      obtain rfl := Option.some.inj hf
      exact hex0 rfl _ _ _ hP hS (lv_sub hl [0] rfl)
    · replace hf := hs_f hf hc
      refine lv_aload_n hx hb dX11_rewrite_33 rfl (lv_at hl 0 rfl) ?_
      obtain ⟨h12, hf⟩ := hs_ck hf
      refine hs_getr (C := RX11) (T := TX11) (N := 8) hx hb hts kX11_rewrite_1 hown hK.1 hP h9 (by decide) rfl 6 (by decide) (hts _ kX11_rewrite_5) (fun _ h => h) rfl h12 dX11_rewrite_34 ?_
      refine lv_aload_n hx hb dX11_rewrite_37 rfl (lv_at hl 0 rfl) ?_
      refine hs_getr (C := RX11) (T := TX11) (N := 8) hx hb hts kX11_rewrite_1 hown hK.1 hP h9 (by decide) rfl 1 (by decide) (hts _ kX11_rewrite_0) (fun _ h => h) rfl h10 dX11_rewrite_38 ?_
      refine lv_iload_n hx hb dX11_rewrite_41 rfl (lv_at hl 1 rfl) ?_
      obtain ⟨r14, g13, h15, hf⟩ := hs_bd_some hf
      refine hs_callr (va_runV (As := [.int v1]) (rest := [.ref (B + ((hs_R g v0 6) - 1))]) ⟨hx, hb, hml, hown, hts⟩ (ctX0_method l B D E ((hs_R g v0 1) - 1) v1 g _ h15) (cwV 1 hts gX11_rewrite_X0_method rfl rfl rfl (by decide +kernel) ⟨Nat.le_of_ble_eq_true rfl, Nat.le_of_ble_eq_true rfl⟩) (hs_preV (r := (RX0, TX0, 5)) hP hK h11 (by decide) rfl) rfl rfl hl.1 rfl (lv_room (Nat.le_of_ble_eq_true rfl)) dX11_rewrite_42 ⟨(Nat.le_of_ble_eq_true rfl), (Nat.le_of_ble_eq_true rfl)⟩) hS (fun H locs hP hS => ?_)
      refine lv_aload_n hx hb dX11_rewrite_45 rfl (lv_at hl 0 rfl) ?_
      obtain ⟨h16, hf⟩ := hs_ck hf
      obtain ⟨h17, hf⟩ := hs_ck hf
      refine hs_getr (C := RX11) (T := TX11) (N := 8) hx hb hts kX11_rewrite_1 hown hK.1 hP h16 (by decide) rfl 4 (by decide) (hts _ kX11_rewrite_6) (fun _ h => h) rfl h17 dX11_rewrite_46 ?_
      refine lv_iconst (v := 1) hx hb dX11_rewrite_49 (by decide) ?_
      obtain ⟨h18, hf⟩ := hs_ck hf
      obtain ⟨r20, g19, h21, hf⟩ := hs_bd_some hf
      cases h21

set_option maxHeartbeats 4000000 in
set_option maxRecDepth 100000 in
theorem ctX11_rewrite (l : Launch) (B : Nat) (D : va_G) (E : Nat → ClassId) (v0 : Nat) (g : hs_S) (o : Int32 × hs_S) (hf : fX11_rewrite v0 g = some o) : Met l yX11_rewrite wsX11_rewrite rmX11_rewrite (hs_Pc B D E g [.ref (B + v0)]) (hs_Qi B D E o) (0) (0) (hs_F B) := by
  refine Met.ofW (cc := cX11_rewrite) (maxL := 3) (ret := (some .int)) (by decide) rfl ?_
  intro p e s m args below meth c s₁ Bd hml hv
  obtain ⟨rfl, hP, hK⟩ := hv
  have hx := Bd.exec
  have hb := Bd.bytes
  have hr := Bd.returns
  have hts := atoms_spec (ws := wsX11_rewrite) Bd.pre
  have hown : s.vm.findClass RX11 = some m.cls := findClass_of_methodNamed Bd.named
  have hlocks := Bd.notSynchronized
  have hS : hs_Sx B s.heap s.heap [] := va_S.rf
  have hX : hs_cx cX11_rewrite (some .int) 3 RX11 wsX11_rewrite p s m (List.toArray [.ref (B + v0)]) meth c D E := ⟨hx, hb, hr, hml, hown, hts, hlocks, hK⟩
  have hl := lv_entry ([.ref (B + v0)]) (n := 3) (Nat.le_of_ble_eq_true rfl)
  rw [lg_entry_eq]
  generalize (lg_sl ([.ref (B + v0)]) ++ List.replicate (3 - (lg_sl ([.ref (B + v0)])).length) Slot.unset).toArray = ls at hl ⊢
  have hl : lv_has ls 3 [(0, .ref (B + v0))] := hl
  have hP : hs_P B D E g s.heap := hP
  unfold fX11_rewrite at hf
  refine lv_aload_n hx hb dX11_rewrite_0 rfl (lv_at hl 0 rfl) ?_
  obtain ⟨h1, hf⟩ := hs_ck hf
  obtain ⟨h2, hf⟩ := hs_ck hf
  refine hs_getr (C := RX11) (T := TX11) (N := 8) hx hb hts kX11_rewrite_1 hown hK.1 hP h1 (by decide) rfl 1 (by decide) (hts _ kX11_rewrite_0) (fun _ h => h) rfl h2 dX11_rewrite_1 ?_
  obtain ⟨h3, hf⟩ := hs_ck hf
  refine hs_geti (C := RX0) (T := TX0) (N := 5) hx hb hts kX11_rewrite_3 hown hK.1 hP h3 (by decide) rfl 4 (by decide) (hts _ kX11_rewrite_2) (fun _ h => h) rfl dX11_rewrite_4 ?_
  refine lv_if_ne (tgt := 13) hx hb dX11_rewrite_7 (by decide) (fun hc => ?_) (fun hc => ?_)
  · replace hf := hs_f hf hc
    refine lv_aload_n hx hb dX11_rewrite_13 rfl (lv_at hl 0 rfl) ?_
    obtain ⟨h4, hf⟩ := hs_ck hf
    refine hs_getr (C := RX11) (T := TX11) (N := 8) hx hb hts kX11_rewrite_1 hown hK.1 hP h1 (by decide) rfl 3 (by decide) (hts _ kX11_rewrite_4) (fun _ h => h) rfl h4 dX11_rewrite_14 ?_
    obtain ⟨h5, hf⟩ := hs_ck hf
    obtain ⟨g6, h8, hf⟩ := hs_bv_some hf
    refine hs_callv (va_runV (As := []) (rest := []) ⟨hx, hb, hml, hown, hts⟩ (ctX0_empty l B D E ((hs_R g v0 3) - 1) g _ h8) (cwV 0 hts gX11_rewrite_X0_empty rfl rfl rfl (by decide +kernel) ⟨Nat.le_of_ble_eq_true rfl, Nat.le_of_ble_eq_true rfl⟩) (hs_preV (r := (RX0, TX0, 5)) hP hK h5 (by decide) rfl) rfl rfl hl.1 rfl (lv_room (Nat.le_of_ble_eq_true rfl)) dX11_rewrite_17 ⟨(Nat.le_of_ble_eq_true rfl), (Nat.le_of_ble_eq_true rfl)⟩) hS (fun H locs hP hS => ?_)
    refine lv_iconst (v := 0) hx hb dX11_rewrite_20 (by decide) ?_
    refine lv_istore_n (lv' := [(1, .int (0 : Int32)), (0, .ref (B + v0))]) hx hb dX11_rewrite_21 rfl hl (by decide) rfl (fun ls hl => ?_)
    obtain ⟨k23, x22, g24, h25, hf⟩ := hs_b3_some hf
    refine wX11_rewrite_22 hX (fun hlab H locs ls hP hS hl => ?_) (fun hlab H locs ls hP hS hl => ?_) hs_N _ _ h25 _ _ _ hP hS (lv_sub hl [1, 0] rfl)
    · replace hlab : k23 = 0 := hlab
      replace hf := hs_t hf hlab
      refine lv_aload_n hx hb dX11_rewrite_99 rfl (lv_at hl 0 rfl) ?_
      obtain ⟨h26, hf⟩ := hs_ck hf
      obtain ⟨h27, hf⟩ := hs_ck hf
      refine hs_getr (C := RX11) (T := TX11) (N := 8) hx hb hts kX11_rewrite_1 hown hK.1 hP h26 (by decide) rfl 3 (by decide) (hts _ kX11_rewrite_4) (fun _ h => h) rfl h27 dX11_rewrite_100 ?_
      refine lv_aload_n hx hb dX11_rewrite_103 rfl (lv_at hl 0 rfl) ?_
      obtain ⟨h28, hf⟩ := hs_ck hf
      refine hs_getr (C := RX11) (T := TX11) (N := 8) hx hb hts kX11_rewrite_1 hown hK.1 hP h26 (by decide) rfl 1 (by decide) (hts _ kX11_rewrite_0) (fun _ h => h) rfl h28 dX11_rewrite_104 ?_
      obtain ⟨h29, hf⟩ := hs_ck hf
      refine hs_geti (C := RX0) (T := TX0) (N := 5) hx hb hts kX11_rewrite_3 hown hK.1 hP h29 (by decide) rfl 4 (by decide) (hts _ kX11_rewrite_2) (fun _ h => h) rfl dX11_rewrite_107 ?_
      obtain ⟨h30, hf⟩ := hs_ck hf
      refine hs_puti (C := RX0) (T := TX0) (N := 5) hx hb hts kX11_rewrite_3 tyX0 tyX0_ok nmX0 hown hK.1 hP hS h30 (by decide) rfl 4 (by decide) (hts _ kX11_rewrite_2) (fun _ h => h) (Or.inl rfl) rfl rfl rfl dX11_rewrite_110 (fun H locs hP hS => ?_)
      refine lv_aload_n hx hb dX11_rewrite_113 rfl (lv_at hl 0 rfl) ?_
      obtain ⟨h31, hf⟩ := hs_ck hf
      refine hs_getr (C := RX11) (T := TX11) (N := 8) hx hb hts kX11_rewrite_1 hown hK.1 hP h26 (by decide) rfl 3 (by decide) (hts _ kX11_rewrite_4) (fun _ h => h) rfl h31 dX11_rewrite_114 ?_
      obtain ⟨h32, hf⟩ := hs_ck hf
      obtain ⟨r34, g33, h35, hf⟩ := hs_bd_some hf
      cases h35
    · replace hlab : k23 = 1 := hlab
      replace hf := hs_f hf (by rw [hlab]; decide)
      refine lv_bipush (v := -10) hx hb dX11_rewrite_61 (by decide) ?_
      refine lv_iload_n hx hb dX11_rewrite_63 rfl (lv_at hl 0 rfl) ?_
      refine lv_isub hx hb dX11_rewrite_64 ?_
      exact hs_iret hx hb hr hlocks rfl hK hP hS hf dX11_rewrite_65
  · replace hf := hs_t hf hc
    refine lv_bipush (v := -2) hx hb dX11_rewrite_10 (by decide) ?_
    exact hs_iret hx hb hr hlocks rfl hK hP hS hf dX11_rewrite_12

set_option maxRecDepth 20000 in
theorem ggX11_told_X0_has : GoodIn wsX11_told wsX0_has := goodIn_r _ [14, 15, 30, 31, 32, 33, 34] (by decide +kernel) (by decide +kernel)
set_option maxRecDepth 20000 in
theorem gX11_told_X0_has : GoodIn wsX11_told (wsV RX11 103 RX0 yX0_has wsX0_has) := goodIn_app (goodIn_of _ (by decide +kernel)) ggX11_told_X0_has
set_option maxRecDepth 20000 in
theorem ggX11_told_X0_method : GoodIn wsX11_told wsX0_method := goodIn_r _ [19, 20, 21, 30, 31, 32, 33, 34] (by decide +kernel) (by decide +kernel)
set_option maxRecDepth 20000 in
theorem gX11_told_X0_method : GoodIn wsX11_told (wsV RX11 87 RX0 yX0_method wsX0_method) := goodIn_app (goodIn_of _ (by decide +kernel)) ggX11_told_X0_method
theorem dX11_told_0 : decode cX11_told 0 = .ok (.iload_n 2, 1) := by decide +kernel
theorem dX11_told_1 : decode cX11_told 1 = .ok (.ifCond .eq 10, 3) := by decide +kernel
theorem dX11_told_4 : decode cX11_told 4 = .ok (.aload_n 0, 1) := by decide +kernel
theorem dX11_told_5 : decode cX11_told 5 = .ok (.getfield 24, 3) := by decide +kernel
theorem dX11_told_8 : decode cX11_told 8 = .ok (.goto 7, 3) := by decide +kernel
theorem dX11_told_11 : decode cX11_told 11 = .ok (.aload_n 0, 1) := by decide +kernel
theorem dX11_told_12 : decode cX11_told 12 = .ok (.getfield 18, 3) := by decide +kernel
theorem dX11_told_15 : decode cX11_told 15 = .ok (.astore 4, 2) := by decide +kernel
theorem dX11_told_17 : decode cX11_told 17 = .ok (.aload 4, 2) := by decide +kernel
theorem dX11_told_19 : decode cX11_told 19 = .ok (.getfield 71, 3) := by decide +kernel
theorem dX11_told_22 : decode cX11_told 22 = .ok (.ifCond .ne 6, 3) := by decide +kernel
theorem dX11_told_25 : decode cX11_told 25 = .ok (.bipush (-2), 2) := by decide +kernel
theorem dX11_told_27 : decode cX11_told 27 = .ok (.ireturn, 1) := by decide +kernel
theorem dX11_told_28 : decode cX11_told 28 = .ok (.aload 4, 2) := by decide +kernel
theorem dX11_told_30 : decode cX11_told 30 = .ok (.iload_n 1, 1) := by decide +kernel
theorem dX11_told_31 : decode cX11_told 31 = .ok (.invokevirtual 103, 3) := by decide +kernel
theorem dX11_told_34 : decode cX11_told 34 = .ok (.ifCond .ne 6, 3) := by decide +kernel
theorem dX11_told_37 : decode cX11_told 37 = .ok (.bipush (-3), 2) := by decide +kernel
theorem dX11_told_39 : decode cX11_told 39 = .ok (.ireturn, 1) := by decide +kernel
theorem dX11_told_40 : decode cX11_told 40 = .ok (.aload 4, 2) := by decide +kernel
theorem dX11_told_42 : decode cX11_told 42 = .ok (.iload_n 1, 1) := by decide +kernel
theorem dX11_told_43 : decode cX11_told 43 = .ok (.invokevirtual 87, 3) := by decide +kernel
theorem dX11_told_46 : decode cX11_told 46 = .ok (.astore 5, 2) := by decide +kernel
theorem dX11_told_48 : decode cX11_told 48 = .ok (.iload_n 3, 1) := by decide +kernel
theorem dX11_told_49 : decode cX11_told 49 = .ok (.tableswitch 83 0 5 #[39, 45, 51, 57, 63, 69], 39) := by decide +kernel
theorem dX11_told_88 : decode cX11_told 88 = .ok (.aload 5, 2) := by decide +kernel
theorem dX11_told_90 : decode cX11_told 90 = .ok (.getfield 107, 3) := by decide +kernel
theorem dX11_told_93 : decode cX11_told 93 = .ok (.ireturn, 1) := by decide +kernel
theorem dX11_told_94 : decode cX11_told 94 = .ok (.aload 5, 2) := by decide +kernel
theorem dX11_told_96 : decode cX11_told 96 = .ok (.getfield 112, 3) := by decide +kernel
theorem dX11_told_99 : decode cX11_told 99 = .ok (.ireturn, 1) := by decide +kernel
theorem dX11_told_100 : decode cX11_told 100 = .ok (.aload 5, 2) := by decide +kernel
theorem dX11_told_102 : decode cX11_told 102 = .ok (.getfield 115, 3) := by decide +kernel
theorem dX11_told_105 : decode cX11_told 105 = .ok (.ireturn, 1) := by decide +kernel
theorem dX11_told_106 : decode cX11_told 106 = .ok (.aload 5, 2) := by decide +kernel
theorem dX11_told_108 : decode cX11_told 108 = .ok (.getfield 118, 3) := by decide +kernel
theorem dX11_told_111 : decode cX11_told 111 = .ok (.ireturn, 1) := by decide +kernel
theorem dX11_told_112 : decode cX11_told 112 = .ok (.aload 5, 2) := by decide +kernel
theorem dX11_told_114 : decode cX11_told 114 = .ok (.getfield 121, 3) := by decide +kernel
theorem dX11_told_117 : decode cX11_told 117 = .ok (.ireturn, 1) := by decide +kernel
theorem dX11_told_118 : decode cX11_told 118 = .ok (.iload_n 2, 1) := by decide +kernel
theorem dX11_told_119 : decode cX11_told 119 = .ok (.ifCond .eq 7, 3) := by decide +kernel
theorem dX11_told_122 : decode cX11_told 122 = .ok (.iconst (-1), 1) := by decide +kernel
theorem dX11_told_123 : decode cX11_told 123 = .ok (.goto 8, 3) := by decide +kernel
theorem dX11_told_126 : decode cX11_told 126 = .ok (.aload 5, 2) := by decide +kernel
theorem dX11_told_128 : decode cX11_told 128 = .ok (.getfield 124, 3) := by decide +kernel
theorem dX11_told_131 : decode cX11_told 131 = .ok (.ireturn, 1) := by decide +kernel
theorem dX11_told_132 : decode cX11_told 132 = .ok (.bipush (-3), 2) := by decide +kernel
theorem dX11_told_134 : decode cX11_told 134 = .ok (.ireturn, 1) := by decide +kernel
theorem kX11_told_0 : Cond.fieldLink RX11 18 "StepRewriter" "file" "LStepRewriter$CodeSet;" ∈ wsX11_told := by decide +kernel
theorem kX11_told_1 : ∀ w ∈ u_ws RX11 TX11 8, w ∈ wsX11_told := by decide +kernel
theorem kX11_told_2 : Cond.fieldLink RX11 71 "StepRewriter$CodeSet" "count" "I" ∈ wsX11_told := by decide +kernel
theorem kX11_told_3 : ∀ w ∈ u_ws RX0 TX0 5, w ∈ wsX11_told := by decide +kernel
theorem kX11_told_4 : Cond.fieldLink RX11 107 "StepRewriter$Method" "length" "I" ∈ wsX11_told := by decide +kernel
theorem kX11_told_5 : ∀ w ∈ u_ws RX7 TX7 11, w ∈ wsX11_told := by decide +kernel
theorem kX11_told_6 : Cond.fieldLink RX11 112 "StepRewriter$Method" "blocks" "I" ∈ wsX11_told := by decide +kernel
theorem kX11_told_7 : Cond.fieldLink RX11 115 "StepRewriter$Method" "handlers" "I" ∈ wsX11_told := by decide +kernel
theorem kX11_told_8 : Cond.fieldLink RX11 118 "StepRewriter$Method" "longBranches" "I" ∈ wsX11_told := by decide +kernel
theorem kX11_told_9 : Cond.fieldLink RX11 121 "StepRewriter$Method" "longJumps" "I" ∈ wsX11_told := by decide +kernel
theorem kX11_told_10 : Cond.fieldLink RX11 124 "StepRewriter$Method" "deepest" "I" ∈ wsX11_told := by decide +kernel
theorem kX11_told_11 : Cond.fieldLink RX11 24 "StepRewriter" "rewritten" "LStepRewriter$CodeSet;" ∈ wsX11_told := by decide +kernel
def jX11_told_15 (v1 : Int32) (v2 : Int32) (v3 : Int32) (s0 : Nat) (g : hs_S) : Option (Int32 × hs_S) :=
  if hs_kd g s0 = 0 then
  if (hs_I g s0 4) = 0 then (
    some ((-2 : Int32), g)
  ) else (
    hs_bd (fX0_has s0 v1 g) fun r5 g4 =>
    if r5 = 0 then (
      some ((-3 : Int32), g4)
    ) else (
      if hs_kd g4 s0 = 0 then
      hs_bd (fX0_method s0 v1 g4) fun r9 g8 =>
      if v3 = (0 : Int32) then (
        if hs_kd g8 r9 = 6 then
        some ((hs_I g8 r9 3), g8)
        else none
      ) else (
      if v3 = (1 : Int32) then (
        if hs_kd g8 r9 = 6 then
        some ((hs_I g8 r9 7), g8)
        else none
      ) else (
      if v3 = (2 : Int32) then (
        if hs_kd g8 r9 = 6 then
        some ((hs_I g8 r9 6), g8)
        else none
      ) else (
      if v3 = (3 : Int32) then (
        if hs_kd g8 r9 = 6 then
        some ((hs_I g8 r9 8), g8)
        else none
      ) else (
      if v3 = (4 : Int32) then (
        if hs_kd g8 r9 = 6 then
        some ((hs_I g8 r9 9), g8)
        else none
      ) else (
      if v3 = (5 : Int32) then (
        if v2 = 0 then (
          if hs_kd g8 r9 = 6 then
          some ((hs_I g8 r9 10), g8)
          else none
        ) else (
          some ((-1 : Int32), g8)
        )
      ) else (
        some ((-3 : Int32), g8)
      ))))))
      else none
    )
  )
  else none
def fX11_told (v0 : Nat) (v1 : Int32) (v2 : Int32) (v3 : Int32) (g : hs_S) : Option (Int32 × hs_S) :=
  if v2 = 0 then (
    if hs_kd g v0 = 9 then
    if ¬ (hs_R g v0 1) = 0 then
    jX11_told_15 v1 v2 v3 ((hs_R g v0 1) - 1) g
    else none else none
  ) else (
    if hs_kd g v0 = 9 then
    if ¬ (hs_R g v0 3) = 0 then
    jX11_told_15 v1 v2 v3 ((hs_R g v0 3) - 1) g
    else none else none
  )
abbrev rmX11_told : Room := { frames := 1, cells := 0, slots := 0, locals := 21 }
set_option maxHeartbeats 4000000 in
set_option maxRecDepth 100000 in
theorem wX11_told_j15 {p : Program} {l : Launch} {e : Env} {s : State} {m : MethodId} {args : Array Value} {below : List Frame} {meth : Method} {c : Code} {B : Nat} {D : va_G} {E : Nat → ClassId} (hX : hs_cx cX11_told (some .int) 6 RX11 wsX11_told p s m args meth c D E) {o : Int32 × hs_S}  {v1 : Int32} {v2 : Int32} {v3 : Int32} {s0 : Nat}   {g : hs_S} {H : Heap} {locs : List Loc} {ls : Array Slot} (hf : jX11_told_15 v1 v2 v3 s0 g = some o) (hP : hs_P B D E g H) (hS : hs_Sx B s.heap H locs) (hl : lv_has ls 6 [(1, .int v1), (2, .int v2), (3, .int v3)]) : W p l e rmX11_told s m args below meth c H locs 0 0 (MQ below (hs_Qi B D E o) args s 0 0 (hs_F B)) (F0 m 15 ls [.ref (B + s0)]) := by
  obtain ⟨hx, hb, hr, hml, hown, hts, hlocks, hK⟩ := id hX
  unfold jX11_told_15 at hf
  refine lv_astore (lv' := [(4, .ref (B + s0)), (1, .int v1), (2, .int v2), (3, .int v3)]) hx hb dX11_told_15 hl (by decide) rfl (fun ls hl => ?_)
  refine lv_aload hx hb dX11_told_17 (lv_at hl 0 rfl) ?_
  obtain ⟨h3, hf⟩ := hs_ck hf
  refine hs_geti (C := RX0) (T := TX0) (N := 5) hx hb hts kX11_told_3 hown hK.1 hP h3 (by decide) rfl 4 (by decide) (hts _ kX11_told_2) (fun _ h => h) rfl dX11_told_19 ?_
  refine lv_if_ne (tgt := 28) hx hb dX11_told_22 (by decide) (fun hc => ?_) (fun hc => ?_)
  · replace hf := hs_f hf hc
    refine lv_aload hx hb dX11_told_28 (lv_at hl 0 rfl) ?_
    refine lv_iload_n hx hb dX11_told_30 rfl (lv_at hl 1 rfl) ?_
    obtain ⟨r5, g4, h6, hf⟩ := hs_bd_some hf
    refine hs_calli (va_runV (As := [.int v1]) (rest := []) ⟨hx, hb, hml, hown, hts⟩ (ctX0_has l B D E s0 v1 g _ h6) (cwV 1 hts gX11_told_X0_has rfl rfl rfl (by decide +kernel) ⟨Nat.le_of_ble_eq_true rfl, Nat.le_of_ble_eq_true rfl⟩) (hs_preV (r := (RX0, TX0, 5)) hP hK h3 (by decide) rfl) rfl rfl hl.1 rfl (lv_room (Nat.le_of_ble_eq_true rfl)) dX11_told_31 ⟨(Nat.le_of_ble_eq_true rfl), (Nat.le_of_ble_eq_true rfl)⟩) hS (fun H locs hP hS => ?_)
    refine lv_if_ne (tgt := 40) hx hb dX11_told_34 (by decide) (fun hc => ?_) (fun hc => ?_)
    · replace hf := hs_f hf hc
      refine lv_aload hx hb dX11_told_40 (lv_at hl 0 rfl) ?_
      refine lv_iload_n hx hb dX11_told_42 rfl (lv_at hl 1 rfl) ?_
      obtain ⟨h7, hf⟩ := hs_ck hf
      obtain ⟨r9, g8, h10, hf⟩ := hs_bd_some hf
      refine hs_callr (va_runV (As := [.int v1]) (rest := []) ⟨hx, hb, hml, hown, hts⟩ (ctX0_method l B D E s0 v1 g4 _ h10) (cwV 1 hts gX11_told_X0_method rfl rfl rfl (by decide +kernel) ⟨Nat.le_of_ble_eq_true rfl, Nat.le_of_ble_eq_true rfl⟩) (hs_preV (r := (RX0, TX0, 5)) hP hK h7 (by decide) rfl) rfl rfl hl.1 rfl (lv_room (Nat.le_of_ble_eq_true rfl)) dX11_told_43 ⟨(Nat.le_of_ble_eq_true rfl), (Nat.le_of_ble_eq_true rfl)⟩) hS (fun H locs hP hS => ?_)
      refine lv_astore (lv' := [(5, .ref (B + r9)), (4, .ref (B + s0)), (1, .int v1), (2, .int v2), (3, .int v3)]) hx hb dX11_told_46 hl (by decide) rfl (fun ls hl => ?_)
      refine lv_iload_n hx hb dX11_told_48 rfl (lv_at hl 4 rfl) ?_
      by_cases hc : v3 = (0 : Int32)
      · replace hf := hs_t hf hc
        refine lv_tableIn (off := 39) (tgt := 88) hx hb dX11_told_49 (by rw [hc]; decide +kernel) (by rw [hc]; decide +kernel) (by rw [hc]; first | done | decide +kernel) (by decide) ?_
        refine lv_aload hx hb dX11_told_88 (lv_at hl 0 rfl) ?_
        obtain ⟨h11, hf⟩ := hs_ck hf
        refine hs_geti (C := RX7) (T := TX7) (N := 11) hx hb hts kX11_told_5 hown hK.1 hP h11 (by decide) rfl 3 (by decide) (hts _ kX11_told_4) (fun _ h => h) rfl dX11_told_90 ?_
        exact hs_iret hx hb hr hlocks rfl hK hP hS hf dX11_told_93
      have hn0 := hc
      replace hf := hs_f hf hc
      clear hc
      by_cases hc : v3 = (1 : Int32)
      · replace hf := hs_t hf hc
        refine lv_tableIn (off := 45) (tgt := 94) hx hb dX11_told_49 (by rw [hc]; decide +kernel) (by rw [hc]; decide +kernel) (by rw [hc]; first | done | decide +kernel) (by decide) ?_
        refine lv_aload hx hb dX11_told_94 (lv_at hl 0 rfl) ?_
        obtain ⟨h12, hf⟩ := hs_ck hf
        refine hs_geti (C := RX7) (T := TX7) (N := 11) hx hb hts kX11_told_5 hown hK.1 hP h12 (by decide) rfl 7 (by decide) (hts _ kX11_told_6) (fun _ h => h) rfl dX11_told_96 ?_
        exact hs_iret hx hb hr hlocks rfl hK hP hS hf dX11_told_99
      have hn1 := hc
      replace hf := hs_f hf hc
      clear hc
      by_cases hc : v3 = (2 : Int32)
      · replace hf := hs_t hf hc
        refine lv_tableIn (off := 51) (tgt := 100) hx hb dX11_told_49 (by rw [hc]; decide +kernel) (by rw [hc]; decide +kernel) (by rw [hc]; first | done | decide +kernel) (by decide) ?_
        refine lv_aload hx hb dX11_told_100 (lv_at hl 0 rfl) ?_
        obtain ⟨h13, hf⟩ := hs_ck hf
        refine hs_geti (C := RX7) (T := TX7) (N := 11) hx hb hts kX11_told_5 hown hK.1 hP h13 (by decide) rfl 6 (by decide) (hts _ kX11_told_7) (fun _ h => h) rfl dX11_told_102 ?_
        exact hs_iret hx hb hr hlocks rfl hK hP hS hf dX11_told_105
      have hn2 := hc
      replace hf := hs_f hf hc
      clear hc
      by_cases hc : v3 = (3 : Int32)
      · replace hf := hs_t hf hc
        refine lv_tableIn (off := 57) (tgt := 106) hx hb dX11_told_49 (by rw [hc]; decide +kernel) (by rw [hc]; decide +kernel) (by rw [hc]; first | done | decide +kernel) (by decide) ?_
        refine lv_aload hx hb dX11_told_106 (lv_at hl 0 rfl) ?_
        obtain ⟨h14, hf⟩ := hs_ck hf
        refine hs_geti (C := RX7) (T := TX7) (N := 11) hx hb hts kX11_told_5 hown hK.1 hP h14 (by decide) rfl 8 (by decide) (hts _ kX11_told_8) (fun _ h => h) rfl dX11_told_108 ?_
        exact hs_iret hx hb hr hlocks rfl hK hP hS hf dX11_told_111
      have hn3 := hc
      replace hf := hs_f hf hc
      clear hc
      by_cases hc : v3 = (4 : Int32)
      · replace hf := hs_t hf hc
        refine lv_tableIn (off := 63) (tgt := 112) hx hb dX11_told_49 (by rw [hc]; decide +kernel) (by rw [hc]; decide +kernel) (by rw [hc]; first | done | decide +kernel) (by decide) ?_
        refine lv_aload hx hb dX11_told_112 (lv_at hl 0 rfl) ?_
        obtain ⟨h15, hf⟩ := hs_ck hf
        refine hs_geti (C := RX7) (T := TX7) (N := 11) hx hb hts kX11_told_5 hown hK.1 hP h15 (by decide) rfl 9 (by decide) (hts _ kX11_told_9) (fun _ h => h) rfl dX11_told_114 ?_
        exact hs_iret hx hb hr hlocks rfl hK hP hS hf dX11_told_117
      have hn4 := hc
      replace hf := hs_f hf hc
      clear hc
      by_cases hc : v3 = (5 : Int32)
      · replace hf := hs_t hf hc
        refine lv_tableIn (off := 69) (tgt := 118) hx hb dX11_told_49 (by rw [hc]; decide +kernel) (by rw [hc]; decide +kernel) (by rw [hc]; first | done | decide +kernel) (by decide) ?_
        refine lv_iload_n hx hb dX11_told_118 rfl (lv_at hl 3 rfl) ?_
        refine lv_if_eq (tgt := 126) hx hb dX11_told_119 (by decide) (fun hc => ?_) (fun hc => ?_)
        · replace hf := hs_t hf hc
          refine lv_aload hx hb dX11_told_126 (lv_at hl 0 rfl) ?_
          obtain ⟨h16, hf⟩ := hs_ck hf
          refine hs_geti (C := RX7) (T := TX7) (N := 11) hx hb hts kX11_told_5 hown hK.1 hP h16 (by decide) rfl 10 (by decide) (hts _ kX11_told_10) (fun _ h => h) rfl dX11_told_128 ?_
          exact hs_iret hx hb hr hlocks rfl hK hP hS hf dX11_told_131
        · replace hf := hs_f hf hc
          refine lv_iconst (v := -1) hx hb dX11_told_122 (by decide) ?_
          refine lv_goto (tgt := 131) hx hb dX11_told_123 (by decide) ?_
          exact hs_iret hx hb hr hlocks rfl hK hP hS hf dX11_told_131
      have hn5 := hc
      replace hf := hs_f hf hc
      clear hc
      refine lv_tableOut (tgt := 132) hx hb dX11_told_49 (by have := lv_neT (a := 0) hn0 rfl; have := lv_neT (a := 1) hn1 rfl; have := lv_neT (a := 2) hn2 rfl; have := lv_neT (a := 3) hn3 rfl; have := lv_neT (a := 4) hn4 rfl; have := lv_neT (a := 5) hn5 rfl; omega) (by decide) ?_
      refine lv_bipush (v := -3) hx hb dX11_told_132 (by decide) ?_
      exact hs_iret hx hb hr hlocks rfl hK hP hS hf dX11_told_134
    · replace hf := hs_t hf hc
      refine lv_bipush (v := -3) hx hb dX11_told_37 (by decide) ?_
      exact hs_iret hx hb hr hlocks rfl hK hP hS hf dX11_told_39
  · replace hf := hs_t hf hc
    refine lv_bipush (v := -2) hx hb dX11_told_25 (by decide) ?_
    exact hs_iret hx hb hr hlocks rfl hK hP hS hf dX11_told_27

set_option maxHeartbeats 4000000 in
set_option maxRecDepth 100000 in
theorem ctX11_told (l : Launch) (B : Nat) (D : va_G) (E : Nat → ClassId) (v0 : Nat) (v1 : Int32) (v2 : Int32) (v3 : Int32) (g : hs_S) (o : Int32 × hs_S) (hf : fX11_told v0 v1 v2 v3 g = some o) : Met l yX11_told wsX11_told rmX11_told (hs_Pc B D E g [.ref (B + v0), .int v1, .int v2, .int v3]) (hs_Qi B D E o) (0) (0) (hs_F B) := by
  refine Met.ofW (cc := cX11_told) (maxL := 6) (ret := (some .int)) (by decide) rfl ?_
  intro p e s m args below meth c s₁ Bd hml hv
  obtain ⟨rfl, hP, hK⟩ := hv
  have hx := Bd.exec
  have hb := Bd.bytes
  have hr := Bd.returns
  have hts := atoms_spec (ws := wsX11_told) Bd.pre
  have hown : s.vm.findClass RX11 = some m.cls := findClass_of_methodNamed Bd.named
  have hlocks := Bd.notSynchronized
  have hS : hs_Sx B s.heap s.heap [] := va_S.rf
  have hX : hs_cx cX11_told (some .int) 6 RX11 wsX11_told p s m (List.toArray [.ref (B + v0), .int v1, .int v2, .int v3]) meth c D E := ⟨hx, hb, hr, hml, hown, hts, hlocks, hK⟩
  have hl := lv_entry ([.ref (B + v0), .int v1, .int v2, .int v3]) (n := 6) (Nat.le_of_ble_eq_true rfl)
  rw [lg_entry_eq]
  generalize (lg_sl ([.ref (B + v0), .int v1, .int v2, .int v3]) ++ List.replicate (6 - (lg_sl ([.ref (B + v0), .int v1, .int v2, .int v3])).length) Slot.unset).toArray = ls at hl ⊢
  have hl : lv_has ls 6 [(0, .ref (B + v0)), (1, .int v1), (2, .int v2), (3, .int v3)] := hl
  have hP : hs_P B D E g s.heap := hP
  unfold fX11_told at hf
  refine lv_iload_n hx hb dX11_told_0 rfl (lv_at hl 2 rfl) ?_
  refine lv_if_eq (tgt := 11) hx hb dX11_told_1 (by decide) (fun hc => ?_) (fun hc => ?_)
  · replace hf := hs_t hf hc
    refine lv_aload_n hx hb dX11_told_11 rfl (lv_at hl 0 rfl) ?_
    obtain ⟨h1, hf⟩ := hs_ck hf
    obtain ⟨h2, hf⟩ := hs_ck hf
    refine hs_getr (C := RX11) (T := TX11) (N := 8) hx hb hts kX11_told_1 hown hK.1 hP h1 (by decide) rfl 1 (by decide) (hts _ kX11_told_0) (fun _ h => h) rfl h2 dX11_told_12 ?_
    exact wX11_told_j15 hX hf hP hS (lv_sub hl [1, 2, 3] rfl)
  · replace hf := hs_f hf hc
    refine lv_aload_n hx hb dX11_told_4 rfl (lv_at hl 0 rfl) ?_
    obtain ⟨h17, hf⟩ := hs_ck hf
    obtain ⟨h18, hf⟩ := hs_ck hf
    refine hs_getr (C := RX11) (T := TX11) (N := 8) hx hb hts kX11_told_1 hown hK.1 hP h17 (by decide) rfl 3 (by decide) (hts _ kX11_told_11) (fun _ h => h) rfl h18 dX11_told_5 ?_
    refine lv_goto (tgt := 15) hx hb dX11_told_8 (by decide) ?_
    exact wX11_told_j15 hX hf hP hS (lv_sub hl [1, 2, 3] rfl)

set_option maxRecDepth 20000 in
theorem ggX11_byteAt_X0_has : GoodIn wsX11_byteAt wsX0_has := goodIn_r _ [9, 10, 37, 38, 39, 40, 41] (by decide +kernel) (by decide +kernel)
set_option maxRecDepth 20000 in
theorem gX11_byteAt_X0_has : GoodIn wsX11_byteAt (wsV RX11 103 RX0 yX0_has wsX0_has) := goodIn_app (goodIn_of _ (by decide +kernel)) ggX11_byteAt_X0_has
set_option maxRecDepth 20000 in
theorem ggX11_byteAt_X0_method : GoodIn wsX11_byteAt wsX0_method := goodIn_r _ [14, 15, 16, 37, 38, 39, 40, 41] (by decide +kernel) (by decide +kernel)
set_option maxRecDepth 20000 in
theorem gX11_byteAt_X0_method : GoodIn wsX11_byteAt (wsV RX11 87 RX0 yX0_method wsX0_method) := goodIn_app (goodIn_of _ (by decide +kernel)) ggX11_byteAt_X0_method
set_option maxRecDepth 20000 in
theorem ggX11_byteAt_X7_valueAt : GoodIn wsX11_byteAt wsX7_valueAt := goodIn_r _ [21, 22, 23, 24, 25, 26, 20, 27, 28, 42, 43, 44, 45, 46, 47, 48, 49, 50, 51, 52] (by decide +kernel) (by decide +kernel)
set_option maxRecDepth 20000 in
theorem gX11_byteAt_X7_valueAt : GoodIn wsX11_byteAt (wsV RX11 127 RX7 yX7_valueAt wsX7_valueAt) := goodIn_app (goodIn_of _ (by decide +kernel)) ggX11_byteAt_X7_valueAt
theorem dX11_byteAt_0 : decode cX11_byteAt 0 = .ok (.iload_n 2, 1) := by decide +kernel
theorem dX11_byteAt_1 : decode cX11_byteAt 1 = .ok (.ifCond .eq 10, 3) := by decide +kernel
theorem dX11_byteAt_4 : decode cX11_byteAt 4 = .ok (.aload_n 0, 1) := by decide +kernel
theorem dX11_byteAt_5 : decode cX11_byteAt 5 = .ok (.getfield 24, 3) := by decide +kernel
theorem dX11_byteAt_8 : decode cX11_byteAt 8 = .ok (.goto 7, 3) := by decide +kernel
theorem dX11_byteAt_11 : decode cX11_byteAt 11 = .ok (.aload_n 0, 1) := by decide +kernel
theorem dX11_byteAt_12 : decode cX11_byteAt 12 = .ok (.getfield 18, 3) := by decide +kernel
theorem dX11_byteAt_15 : decode cX11_byteAt 15 = .ok (.astore 4, 2) := by decide +kernel
theorem dX11_byteAt_17 : decode cX11_byteAt 17 = .ok (.aload 4, 2) := by decide +kernel
theorem dX11_byteAt_19 : decode cX11_byteAt 19 = .ok (.getfield 71, 3) := by decide +kernel
theorem dX11_byteAt_22 : decode cX11_byteAt 22 = .ok (.ifCond .ne 6, 3) := by decide +kernel
theorem dX11_byteAt_25 : decode cX11_byteAt 25 = .ok (.bipush (-2), 2) := by decide +kernel
theorem dX11_byteAt_27 : decode cX11_byteAt 27 = .ok (.ireturn, 1) := by decide +kernel
theorem dX11_byteAt_28 : decode cX11_byteAt 28 = .ok (.aload 4, 2) := by decide +kernel
theorem dX11_byteAt_30 : decode cX11_byteAt 30 = .ok (.iload_n 1, 1) := by decide +kernel
theorem dX11_byteAt_31 : decode cX11_byteAt 31 = .ok (.invokevirtual 103, 3) := by decide +kernel
theorem dX11_byteAt_34 : decode cX11_byteAt 34 = .ok (.ifCond .eq 20, 3) := by decide +kernel
theorem dX11_byteAt_37 : decode cX11_byteAt 37 = .ok (.iload_n 3, 1) := by decide +kernel
theorem dX11_byteAt_38 : decode cX11_byteAt 38 = .ok (.ifCond .lt 16, 3) := by decide +kernel
theorem dX11_byteAt_41 : decode cX11_byteAt 41 = .ok (.iload_n 3, 1) := by decide +kernel
theorem dX11_byteAt_42 : decode cX11_byteAt 42 = .ok (.aload 4, 2) := by decide +kernel
theorem dX11_byteAt_44 : decode cX11_byteAt 44 = .ok (.iload_n 1, 1) := by decide +kernel
theorem dX11_byteAt_45 : decode cX11_byteAt 45 = .ok (.invokevirtual 87, 3) := by decide +kernel
theorem dX11_byteAt_48 : decode cX11_byteAt 48 = .ok (.getfield 107, 3) := by decide +kernel
theorem dX11_byteAt_51 : decode cX11_byteAt 51 = .ok (.if_icmp .lt 6, 3) := by decide +kernel
theorem dX11_byteAt_54 : decode cX11_byteAt 54 = .ok (.bipush (-3), 2) := by decide +kernel
theorem dX11_byteAt_56 : decode cX11_byteAt 56 = .ok (.ireturn, 1) := by decide +kernel
theorem dX11_byteAt_57 : decode cX11_byteAt 57 = .ok (.aload 4, 2) := by decide +kernel
theorem dX11_byteAt_59 : decode cX11_byteAt 59 = .ok (.iload_n 1, 1) := by decide +kernel
theorem dX11_byteAt_60 : decode cX11_byteAt 60 = .ok (.invokevirtual 87, 3) := by decide +kernel
theorem dX11_byteAt_63 : decode cX11_byteAt 63 = .ok (.iload_n 3, 1) := by decide +kernel
theorem dX11_byteAt_64 : decode cX11_byteAt 64 = .ok (.invokevirtual 127, 3) := by decide +kernel
theorem dX11_byteAt_67 : decode cX11_byteAt 67 = .ok (.ireturn, 1) := by decide +kernel
theorem kX11_byteAt_0 : Cond.fieldLink RX11 18 "StepRewriter" "file" "LStepRewriter$CodeSet;" ∈ wsX11_byteAt := by decide +kernel
theorem kX11_byteAt_1 : ∀ w ∈ u_ws RX11 TX11 8, w ∈ wsX11_byteAt := by decide +kernel
theorem kX11_byteAt_2 : Cond.fieldLink RX11 71 "StepRewriter$CodeSet" "count" "I" ∈ wsX11_byteAt := by decide +kernel
theorem kX11_byteAt_3 : ∀ w ∈ u_ws RX0 TX0 5, w ∈ wsX11_byteAt := by decide +kernel
theorem kX11_byteAt_4 : Cond.fieldLink RX11 107 "StepRewriter$Method" "length" "I" ∈ wsX11_byteAt := by decide +kernel
theorem kX11_byteAt_5 : ∀ w ∈ u_ws RX7 TX7 11, w ∈ wsX11_byteAt := by decide +kernel
theorem kX11_byteAt_6 : Cond.fieldLink RX11 24 "StepRewriter" "rewritten" "LStepRewriter$CodeSet;" ∈ wsX11_byteAt := by decide +kernel
def jX11_byteAt_15 (v1 : Int32) (v3 : Int32) (s0 : Nat) (g : hs_S) : Option (Int32 × hs_S) :=
  if hs_kd g s0 = 0 then
  if (hs_I g s0 4) = 0 then (
    some ((-2 : Int32), g)
  ) else (
    hs_bd (fX0_has s0 v1 g) fun r5 g4 =>
    if r5 = 0 then (
      some ((-3 : Int32), g4)
    ) else (
      if v3 < 0 then (
        some ((-3 : Int32), g4)
      ) else (
        if hs_kd g4 s0 = 0 then
        hs_bd (fX0_method s0 v1 g4) fun r9 g8 =>
        if hs_kd g8 r9 = 6 then
        if v3 < (hs_I g8 r9 3) then (
          if hs_kd g8 s0 = 0 then
          hs_bd (fX0_method s0 v1 g8) fun r14 g13 =>
          if hs_kd g13 r14 = 6 then
          hs_bd ((none : Option (Int32 × hs_S))) fun r18 g17 =>
          none
          else none else none
        ) else (
          some ((-3 : Int32), g8)
        )
        else none else none
      )
    )
  )
  else none
def fX11_byteAt (v0 : Nat) (v1 : Int32) (v2 : Int32) (v3 : Int32) (g : hs_S) : Option (Int32 × hs_S) :=
  if v2 = 0 then (
    if hs_kd g v0 = 9 then
    if ¬ (hs_R g v0 1) = 0 then
    jX11_byteAt_15 v1 v3 ((hs_R g v0 1) - 1) g
    else none else none
  ) else (
    if hs_kd g v0 = 9 then
    if ¬ (hs_R g v0 3) = 0 then
    jX11_byteAt_15 v1 v3 ((hs_R g v0 3) - 1) g
    else none else none
  )
abbrev rmX11_byteAt : Room := { frames := 2, cells := 0, slots := 0, locals := 42 }
set_option maxHeartbeats 4000000 in
set_option maxRecDepth 100000 in
theorem wX11_byteAt_j15 {p : Program} {l : Launch} {e : Env} {s : State} {m : MethodId} {args : Array Value} {below : List Frame} {meth : Method} {c : Code} {B : Nat} {D : va_G} {E : Nat → ClassId} (hX : hs_cx cX11_byteAt (some .int) 5 RX11 wsX11_byteAt p s m args meth c D E) {o : Int32 × hs_S}  {v1 : Int32} {v3 : Int32} {s0 : Nat}   {g : hs_S} {H : Heap} {locs : List Loc} {ls : Array Slot} (hf : jX11_byteAt_15 v1 v3 s0 g = some o) (hP : hs_P B D E g H) (hS : hs_Sx B s.heap H locs) (hl : lv_has ls 5 [(1, .int v1), (3, .int v3)]) : W p l e rmX11_byteAt s m args below meth c H locs 0 0 (MQ below (hs_Qi B D E o) args s 0 0 (hs_F B)) (F0 m 15 ls [.ref (B + s0)]) := by
  obtain ⟨hx, hb, hr, hml, hown, hts, hlocks, hK⟩ := id hX
  unfold jX11_byteAt_15 at hf
  refine lv_astore (lv' := [(4, .ref (B + s0)), (1, .int v1), (3, .int v3)]) hx hb dX11_byteAt_15 hl (by decide) rfl (fun ls hl => ?_)
  refine lv_aload hx hb dX11_byteAt_17 (lv_at hl 0 rfl) ?_
  obtain ⟨h3, hf⟩ := hs_ck hf
  refine hs_geti (C := RX0) (T := TX0) (N := 5) hx hb hts kX11_byteAt_3 hown hK.1 hP h3 (by decide) rfl 4 (by decide) (hts _ kX11_byteAt_2) (fun _ h => h) rfl dX11_byteAt_19 ?_
  refine lv_if_ne (tgt := 28) hx hb dX11_byteAt_22 (by decide) (fun hc => ?_) (fun hc => ?_)
  · replace hf := hs_f hf hc
    refine lv_aload hx hb dX11_byteAt_28 (lv_at hl 0 rfl) ?_
    refine lv_iload_n hx hb dX11_byteAt_30 rfl (lv_at hl 1 rfl) ?_
    obtain ⟨r5, g4, h6, hf⟩ := hs_bd_some hf
    refine hs_calli (va_runV (As := [.int v1]) (rest := []) ⟨hx, hb, hml, hown, hts⟩ (ctX0_has l B D E s0 v1 g _ h6) (cwV 1 hts gX11_byteAt_X0_has rfl rfl rfl (by decide +kernel) ⟨Nat.le_of_ble_eq_true rfl, Nat.le_of_ble_eq_true rfl⟩) (hs_preV (r := (RX0, TX0, 5)) hP hK h3 (by decide) rfl) rfl rfl hl.1 rfl (lv_room (Nat.le_of_ble_eq_true rfl)) dX11_byteAt_31 ⟨(Nat.le_of_ble_eq_true rfl), (Nat.le_of_ble_eq_true rfl)⟩) hS (fun H locs hP hS => ?_)
    refine lv_if_eq (tgt := 54) hx hb dX11_byteAt_34 (by decide) (fun hc => ?_) (fun hc => ?_)
    · replace hf := hs_t hf hc
      refine lv_bipush (v := -3) hx hb dX11_byteAt_54 (by decide) ?_
      exact hs_iret hx hb hr hlocks rfl hK hP hS hf dX11_byteAt_56
    · replace hf := hs_f hf hc
      refine lv_iload_n hx hb dX11_byteAt_37 rfl (lv_at hl 2 rfl) ?_
      refine lv_if_lt (tgt := 54) hx hb dX11_byteAt_38 (by decide) (fun hc => ?_) (fun hc => ?_)
      · replace hf := hs_t hf hc
        refine lv_bipush (v := -3) hx hb dX11_byteAt_54 (by decide) ?_
        exact hs_iret hx hb hr hlocks rfl hK hP hS hf dX11_byteAt_56
      · replace hf := hs_f hf hc
        refine lv_iload_n hx hb dX11_byteAt_41 rfl (lv_at hl 2 rfl) ?_
        refine lv_aload hx hb dX11_byteAt_42 (lv_at hl 0 rfl) ?_
        refine lv_iload_n hx hb dX11_byteAt_44 rfl (lv_at hl 1 rfl) ?_
        obtain ⟨h7, hf⟩ := hs_ck hf
        obtain ⟨r9, g8, h10, hf⟩ := hs_bd_some hf
        refine hs_callr (va_runV (As := [.int v1]) (rest := [.int v3]) ⟨hx, hb, hml, hown, hts⟩ (ctX0_method l B D E s0 v1 g4 _ h10) (cwV 1 hts gX11_byteAt_X0_method rfl rfl rfl (by decide +kernel) ⟨Nat.le_of_ble_eq_true rfl, Nat.le_of_ble_eq_true rfl⟩) (hs_preV (r := (RX0, TX0, 5)) hP hK h7 (by decide) rfl) rfl rfl hl.1 rfl (lv_room (Nat.le_of_ble_eq_true rfl)) dX11_byteAt_45 ⟨(Nat.le_of_ble_eq_true rfl), (Nat.le_of_ble_eq_true rfl)⟩) hS (fun H locs hP hS => ?_)
        obtain ⟨h11, hf⟩ := hs_ck hf
        refine hs_geti (C := RX7) (T := TX7) (N := 11) hx hb hts kX11_byteAt_5 hown hK.1 hP h11 (by decide) rfl 3 (by decide) (hts _ kX11_byteAt_4) (fun _ h => h) rfl dX11_byteAt_48 ?_
        refine lv_icmp_lt (tgt := 57) hx hb dX11_byteAt_51 (by decide) (fun hc => ?_) (fun hc => ?_)
        · replace hf := hs_t hf hc
          refine lv_aload hx hb dX11_byteAt_57 (lv_at hl 0 rfl) ?_
          refine lv_iload_n hx hb dX11_byteAt_59 rfl (lv_at hl 1 rfl) ?_
          obtain ⟨h12, hf⟩ := hs_ck hf
          obtain ⟨r14, g13, h15, hf⟩ := hs_bd_some hf
          refine hs_callr (va_runV (As := [.int v1]) (rest := []) ⟨hx, hb, hml, hown, hts⟩ (ctX0_method l B D E s0 v1 g8 _ h15) (cwV 1 hts gX11_byteAt_X0_method rfl rfl rfl (by decide +kernel) ⟨Nat.le_of_ble_eq_true rfl, Nat.le_of_ble_eq_true rfl⟩) (hs_preV (r := (RX0, TX0, 5)) hP hK h12 (by decide) rfl) rfl rfl hl.1 rfl (lv_room (Nat.le_of_ble_eq_true rfl)) dX11_byteAt_60 ⟨(Nat.le_of_ble_eq_true rfl), (Nat.le_of_ble_eq_true rfl)⟩) hS (fun H locs hP hS => ?_)
          refine lv_iload_n hx hb dX11_byteAt_63 rfl (lv_at hl 2 rfl) ?_
          obtain ⟨h16, hf⟩ := hs_ck hf
          obtain ⟨r18, g17, h19, hf⟩ := hs_bd_some hf
          cases h19
        · replace hf := hs_f hf hc
          refine lv_bipush (v := -3) hx hb dX11_byteAt_54 (by decide) ?_
          exact hs_iret hx hb hr hlocks rfl hK hP hS hf dX11_byteAt_56
  · replace hf := hs_t hf hc
    refine lv_bipush (v := -2) hx hb dX11_byteAt_25 (by decide) ?_
    exact hs_iret hx hb hr hlocks rfl hK hP hS hf dX11_byteAt_27

set_option maxHeartbeats 4000000 in
set_option maxRecDepth 100000 in
theorem ctX11_byteAt (l : Launch) (B : Nat) (D : va_G) (E : Nat → ClassId) (v0 : Nat) (v1 : Int32) (v2 : Int32) (v3 : Int32) (g : hs_S) (o : Int32 × hs_S) (hf : fX11_byteAt v0 v1 v2 v3 g = some o) : Met l yX11_byteAt wsX11_byteAt rmX11_byteAt (hs_Pc B D E g [.ref (B + v0), .int v1, .int v2, .int v3]) (hs_Qi B D E o) (0) (0) (hs_F B) := by
  refine Met.ofW (cc := cX11_byteAt) (maxL := 5) (ret := (some .int)) (by decide) rfl ?_
  intro p e s m args below meth c s₁ Bd hml hv
  obtain ⟨rfl, hP, hK⟩ := hv
  have hx := Bd.exec
  have hb := Bd.bytes
  have hr := Bd.returns
  have hts := atoms_spec (ws := wsX11_byteAt) Bd.pre
  have hown : s.vm.findClass RX11 = some m.cls := findClass_of_methodNamed Bd.named
  have hlocks := Bd.notSynchronized
  have hS : hs_Sx B s.heap s.heap [] := va_S.rf
  have hX : hs_cx cX11_byteAt (some .int) 5 RX11 wsX11_byteAt p s m (List.toArray [.ref (B + v0), .int v1, .int v2, .int v3]) meth c D E := ⟨hx, hb, hr, hml, hown, hts, hlocks, hK⟩
  have hl := lv_entry ([.ref (B + v0), .int v1, .int v2, .int v3]) (n := 5) (Nat.le_of_ble_eq_true rfl)
  rw [lg_entry_eq]
  generalize (lg_sl ([.ref (B + v0), .int v1, .int v2, .int v3]) ++ List.replicate (5 - (lg_sl ([.ref (B + v0), .int v1, .int v2, .int v3])).length) Slot.unset).toArray = ls at hl ⊢
  have hl : lv_has ls 5 [(0, .ref (B + v0)), (1, .int v1), (2, .int v2), (3, .int v3)] := hl
  have hP : hs_P B D E g s.heap := hP
  unfold fX11_byteAt at hf
  refine lv_iload_n hx hb dX11_byteAt_0 rfl (lv_at hl 2 rfl) ?_
  refine lv_if_eq (tgt := 11) hx hb dX11_byteAt_1 (by decide) (fun hc => ?_) (fun hc => ?_)
  · replace hf := hs_t hf hc
    refine lv_aload_n hx hb dX11_byteAt_11 rfl (lv_at hl 0 rfl) ?_
    obtain ⟨h1, hf⟩ := hs_ck hf
    obtain ⟨h2, hf⟩ := hs_ck hf
    refine hs_getr (C := RX11) (T := TX11) (N := 8) hx hb hts kX11_byteAt_1 hown hK.1 hP h1 (by decide) rfl 1 (by decide) (hts _ kX11_byteAt_0) (fun _ h => h) rfl h2 dX11_byteAt_12 ?_
    exact wX11_byteAt_j15 hX hf hP hS (lv_sub hl [1, 3] rfl)
  · replace hf := hs_f hf hc
    refine lv_aload_n hx hb dX11_byteAt_4 rfl (lv_at hl 0 rfl) ?_
    obtain ⟨h20, hf⟩ := hs_ck hf
    obtain ⟨h21, hf⟩ := hs_ck hf
    refine hs_getr (C := RX11) (T := TX11) (N := 8) hx hb hts kX11_byteAt_1 hown hK.1 hP h20 (by decide) rfl 3 (by decide) (hts _ kX11_byteAt_6) (fun _ h => h) rfl h21 dX11_byteAt_5 ?_
    refine lv_goto (tgt := 15) hx hb dX11_byteAt_8 (by decide) ?_
    exact wX11_byteAt_j15 hX hf hP hS (lv_sub hl [1, 3] rfl)

set_option maxRecDepth 20000 in
theorem ggX11_handler_X0_has : GoodIn wsX11_handler wsX0_has := goodIn_r _ [9, 10, 35, 36, 37, 38, 39] (by decide +kernel) (by decide +kernel)
set_option maxRecDepth 20000 in
theorem gX11_handler_X0_has : GoodIn wsX11_handler (wsV RX11 103 RX0 yX0_has wsX0_has) := goodIn_app (goodIn_of _ (by decide +kernel)) ggX11_handler_X0_has
set_option maxRecDepth 20000 in
theorem ggX11_handler_X0_method : GoodIn wsX11_handler wsX0_method := goodIn_r _ [14, 15, 16, 35, 36, 37, 38, 39] (by decide +kernel) (by decide +kernel)
set_option maxRecDepth 20000 in
theorem gX11_handler_X0_method : GoodIn wsX11_handler (wsV RX11 87 RX0 yX0_method wsX0_method) := goodIn_app (goodIn_of _ (by decide +kernel)) ggX11_handler_X0_method
set_option maxRecDepth 20000 in
theorem ggX11_handler_X7_handlerNumber : GoodIn wsX11_handler wsX7_handlerNumber := goodIn_r _ [21, 22, 23, 24, 25, 26, 40, 41, 42, 43, 44, 45, 46, 47, 48, 49, 50] (by decide +kernel) (by decide +kernel)
set_option maxRecDepth 20000 in
theorem gX11_handler_X7_handlerNumber : GoodIn wsX11_handler (wsV RX11 130 RX7 yX7_handlerNumber wsX7_handlerNumber) := goodIn_app (goodIn_of _ (by decide +kernel)) ggX11_handler_X7_handlerNumber
theorem dX11_handler_0 : decode cX11_handler 0 = .ok (.iload_n 2, 1) := by decide +kernel
theorem dX11_handler_1 : decode cX11_handler 1 = .ok (.ifCond .eq 10, 3) := by decide +kernel
theorem dX11_handler_4 : decode cX11_handler 4 = .ok (.aload_n 0, 1) := by decide +kernel
theorem dX11_handler_5 : decode cX11_handler 5 = .ok (.getfield 24, 3) := by decide +kernel
theorem dX11_handler_8 : decode cX11_handler 8 = .ok (.goto 7, 3) := by decide +kernel
theorem dX11_handler_11 : decode cX11_handler 11 = .ok (.aload_n 0, 1) := by decide +kernel
theorem dX11_handler_12 : decode cX11_handler 12 = .ok (.getfield 18, 3) := by decide +kernel
theorem dX11_handler_15 : decode cX11_handler 15 = .ok (.astore 5, 2) := by decide +kernel
theorem dX11_handler_17 : decode cX11_handler 17 = .ok (.aload 5, 2) := by decide +kernel
theorem dX11_handler_19 : decode cX11_handler 19 = .ok (.getfield 71, 3) := by decide +kernel
theorem dX11_handler_22 : decode cX11_handler 22 = .ok (.ifCond .ne 6, 3) := by decide +kernel
theorem dX11_handler_25 : decode cX11_handler 25 = .ok (.bipush (-2), 2) := by decide +kernel
theorem dX11_handler_27 : decode cX11_handler 27 = .ok (.ireturn, 1) := by decide +kernel
theorem dX11_handler_28 : decode cX11_handler 28 = .ok (.aload 5, 2) := by decide +kernel
theorem dX11_handler_30 : decode cX11_handler 30 = .ok (.iload_n 1, 1) := by decide +kernel
theorem dX11_handler_31 : decode cX11_handler 31 = .ok (.invokevirtual 103, 3) := by decide +kernel
theorem dX11_handler_34 : decode cX11_handler 34 = .ok (.ifCond .eq 20, 3) := by decide +kernel
theorem dX11_handler_37 : decode cX11_handler 37 = .ok (.iload_n 3, 1) := by decide +kernel
theorem dX11_handler_38 : decode cX11_handler 38 = .ok (.ifCond .lt 16, 3) := by decide +kernel
theorem dX11_handler_41 : decode cX11_handler 41 = .ok (.iload_n 3, 1) := by decide +kernel
theorem dX11_handler_42 : decode cX11_handler 42 = .ok (.aload 5, 2) := by decide +kernel
theorem dX11_handler_44 : decode cX11_handler 44 = .ok (.iload_n 1, 1) := by decide +kernel
theorem dX11_handler_45 : decode cX11_handler 45 = .ok (.invokevirtual 87, 3) := by decide +kernel
theorem dX11_handler_48 : decode cX11_handler 48 = .ok (.getfield 115, 3) := by decide +kernel
theorem dX11_handler_51 : decode cX11_handler 51 = .ok (.if_icmp .lt 6, 3) := by decide +kernel
theorem dX11_handler_54 : decode cX11_handler 54 = .ok (.bipush (-3), 2) := by decide +kernel
theorem dX11_handler_56 : decode cX11_handler 56 = .ok (.ireturn, 1) := by decide +kernel
theorem dX11_handler_57 : decode cX11_handler 57 = .ok (.iload 4, 2) := by decide +kernel
theorem dX11_handler_59 : decode cX11_handler 59 = .ok (.ifCond .lt 9, 3) := by decide +kernel
theorem dX11_handler_62 : decode cX11_handler 62 = .ok (.iload 4, 2) := by decide +kernel
theorem dX11_handler_64 : decode cX11_handler 64 = .ok (.iconst 4, 1) := by decide +kernel
theorem dX11_handler_65 : decode cX11_handler 65 = .ok (.if_icmp .lt 6, 3) := by decide +kernel
theorem dX11_handler_68 : decode cX11_handler 68 = .ok (.bipush (-3), 2) := by decide +kernel
theorem dX11_handler_70 : decode cX11_handler 70 = .ok (.ireturn, 1) := by decide +kernel
theorem dX11_handler_71 : decode cX11_handler 71 = .ok (.aload 5, 2) := by decide +kernel
theorem dX11_handler_73 : decode cX11_handler 73 = .ok (.iload_n 1, 1) := by decide +kernel
theorem dX11_handler_74 : decode cX11_handler 74 = .ok (.invokevirtual 87, 3) := by decide +kernel
theorem dX11_handler_77 : decode cX11_handler 77 = .ok (.iload_n 3, 1) := by decide +kernel
theorem dX11_handler_78 : decode cX11_handler 78 = .ok (.iload 4, 2) := by decide +kernel
theorem dX11_handler_80 : decode cX11_handler 80 = .ok (.invokevirtual 130, 3) := by decide +kernel
theorem dX11_handler_83 : decode cX11_handler 83 = .ok (.ireturn, 1) := by decide +kernel
theorem kX11_handler_0 : Cond.fieldLink RX11 18 "StepRewriter" "file" "LStepRewriter$CodeSet;" ∈ wsX11_handler := by decide +kernel
theorem kX11_handler_1 : ∀ w ∈ u_ws RX11 TX11 8, w ∈ wsX11_handler := by decide +kernel
theorem kX11_handler_2 : Cond.fieldLink RX11 71 "StepRewriter$CodeSet" "count" "I" ∈ wsX11_handler := by decide +kernel
theorem kX11_handler_3 : ∀ w ∈ u_ws RX0 TX0 5, w ∈ wsX11_handler := by decide +kernel
theorem kX11_handler_4 : Cond.fieldLink RX11 115 "StepRewriter$Method" "handlers" "I" ∈ wsX11_handler := by decide +kernel
theorem kX11_handler_5 : ∀ w ∈ u_ws RX7 TX7 11, w ∈ wsX11_handler := by decide +kernel
theorem kX11_handler_6 : Cond.fieldLink RX11 24 "StepRewriter" "rewritten" "LStepRewriter$CodeSet;" ∈ wsX11_handler := by decide +kernel
def jX11_handler_15 (v1 : Int32) (v3 : Int32) (v4 : Int32) (s0 : Nat) (g : hs_S) : Option (Int32 × hs_S) :=
  if hs_kd g s0 = 0 then
  if (hs_I g s0 4) = 0 then (
    some ((-2 : Int32), g)
  ) else (
    hs_bd (fX0_has s0 v1 g) fun r5 g4 =>
    if r5 = 0 then (
      some ((-3 : Int32), g4)
    ) else (
      if v3 < 0 then (
        some ((-3 : Int32), g4)
      ) else (
        if hs_kd g4 s0 = 0 then
        hs_bd (fX0_method s0 v1 g4) fun r9 g8 =>
        if hs_kd g8 r9 = 6 then
        if v3 < (hs_I g8 r9 6) then (
          if v4 < 0 then (
            some ((-3 : Int32), g8)
          ) else (
            if v4 < (4 : Int32) then (
              if hs_kd g8 s0 = 0 then
              hs_bd (fX0_method s0 v1 g8) fun r14 g13 =>
              if hs_kd g13 r14 = 6 then
              hs_bd ((none : Option (Int32 × hs_S))) fun r18 g17 =>
              none
              else none else none
            ) else (
              some ((-3 : Int32), g8)
            )
          )
        ) else (
          some ((-3 : Int32), g8)
        )
        else none else none
      )
    )
  )
  else none
def fX11_handler (v0 : Nat) (v1 : Int32) (v2 : Int32) (v3 : Int32) (v4 : Int32) (g : hs_S) : Option (Int32 × hs_S) :=
  if v2 = 0 then (
    if hs_kd g v0 = 9 then
    if ¬ (hs_R g v0 1) = 0 then
    jX11_handler_15 v1 v3 v4 ((hs_R g v0 1) - 1) g
    else none else none
  ) else (
    if hs_kd g v0 = 9 then
    if ¬ (hs_R g v0 3) = 0 then
    jX11_handler_15 v1 v3 v4 ((hs_R g v0 3) - 1) g
    else none else none
  )
abbrev rmX11_handler : Room := { frames := 2, cells := 0, slots := 0, locals := 43 }
set_option maxHeartbeats 4000000 in
set_option maxRecDepth 100000 in
theorem wX11_handler_j15 {p : Program} {l : Launch} {e : Env} {s : State} {m : MethodId} {args : Array Value} {below : List Frame} {meth : Method} {c : Code} {B : Nat} {D : va_G} {E : Nat → ClassId} (hX : hs_cx cX11_handler (some .int) 6 RX11 wsX11_handler p s m args meth c D E) {o : Int32 × hs_S}  {v1 : Int32} {v3 : Int32} {v4 : Int32} {s0 : Nat}   {g : hs_S} {H : Heap} {locs : List Loc} {ls : Array Slot} (hf : jX11_handler_15 v1 v3 v4 s0 g = some o) (hP : hs_P B D E g H) (hS : hs_Sx B s.heap H locs) (hl : lv_has ls 6 [(1, .int v1), (3, .int v3), (4, .int v4)]) : W p l e rmX11_handler s m args below meth c H locs 0 0 (MQ below (hs_Qi B D E o) args s 0 0 (hs_F B)) (F0 m 15 ls [.ref (B + s0)]) := by
  obtain ⟨hx, hb, hr, hml, hown, hts, hlocks, hK⟩ := id hX
  unfold jX11_handler_15 at hf
  refine lv_astore (lv' := [(5, .ref (B + s0)), (1, .int v1), (3, .int v3), (4, .int v4)]) hx hb dX11_handler_15 hl (by decide) rfl (fun ls hl => ?_)
  refine lv_aload hx hb dX11_handler_17 (lv_at hl 0 rfl) ?_
  obtain ⟨h3, hf⟩ := hs_ck hf
  refine hs_geti (C := RX0) (T := TX0) (N := 5) hx hb hts kX11_handler_3 hown hK.1 hP h3 (by decide) rfl 4 (by decide) (hts _ kX11_handler_2) (fun _ h => h) rfl dX11_handler_19 ?_
  refine lv_if_ne (tgt := 28) hx hb dX11_handler_22 (by decide) (fun hc => ?_) (fun hc => ?_)
  · replace hf := hs_f hf hc
    refine lv_aload hx hb dX11_handler_28 (lv_at hl 0 rfl) ?_
    refine lv_iload_n hx hb dX11_handler_30 rfl (lv_at hl 1 rfl) ?_
    obtain ⟨r5, g4, h6, hf⟩ := hs_bd_some hf
    refine hs_calli (va_runV (As := [.int v1]) (rest := []) ⟨hx, hb, hml, hown, hts⟩ (ctX0_has l B D E s0 v1 g _ h6) (cwV 1 hts gX11_handler_X0_has rfl rfl rfl (by decide +kernel) ⟨Nat.le_of_ble_eq_true rfl, Nat.le_of_ble_eq_true rfl⟩) (hs_preV (r := (RX0, TX0, 5)) hP hK h3 (by decide) rfl) rfl rfl hl.1 rfl (lv_room (Nat.le_of_ble_eq_true rfl)) dX11_handler_31 ⟨(Nat.le_of_ble_eq_true rfl), (Nat.le_of_ble_eq_true rfl)⟩) hS (fun H locs hP hS => ?_)
    refine lv_if_eq (tgt := 54) hx hb dX11_handler_34 (by decide) (fun hc => ?_) (fun hc => ?_)
    · replace hf := hs_t hf hc
      refine lv_bipush (v := -3) hx hb dX11_handler_54 (by decide) ?_
      exact hs_iret hx hb hr hlocks rfl hK hP hS hf dX11_handler_56
    · replace hf := hs_f hf hc
      refine lv_iload_n hx hb dX11_handler_37 rfl (lv_at hl 2 rfl) ?_
      refine lv_if_lt (tgt := 54) hx hb dX11_handler_38 (by decide) (fun hc => ?_) (fun hc => ?_)
      · replace hf := hs_t hf hc
        refine lv_bipush (v := -3) hx hb dX11_handler_54 (by decide) ?_
        exact hs_iret hx hb hr hlocks rfl hK hP hS hf dX11_handler_56
      · replace hf := hs_f hf hc
        refine lv_iload_n hx hb dX11_handler_41 rfl (lv_at hl 2 rfl) ?_
        refine lv_aload hx hb dX11_handler_42 (lv_at hl 0 rfl) ?_
        refine lv_iload_n hx hb dX11_handler_44 rfl (lv_at hl 1 rfl) ?_
        obtain ⟨h7, hf⟩ := hs_ck hf
        obtain ⟨r9, g8, h10, hf⟩ := hs_bd_some hf
        refine hs_callr (va_runV (As := [.int v1]) (rest := [.int v3]) ⟨hx, hb, hml, hown, hts⟩ (ctX0_method l B D E s0 v1 g4 _ h10) (cwV 1 hts gX11_handler_X0_method rfl rfl rfl (by decide +kernel) ⟨Nat.le_of_ble_eq_true rfl, Nat.le_of_ble_eq_true rfl⟩) (hs_preV (r := (RX0, TX0, 5)) hP hK h7 (by decide) rfl) rfl rfl hl.1 rfl (lv_room (Nat.le_of_ble_eq_true rfl)) dX11_handler_45 ⟨(Nat.le_of_ble_eq_true rfl), (Nat.le_of_ble_eq_true rfl)⟩) hS (fun H locs hP hS => ?_)
        obtain ⟨h11, hf⟩ := hs_ck hf
        refine hs_geti (C := RX7) (T := TX7) (N := 11) hx hb hts kX11_handler_5 hown hK.1 hP h11 (by decide) rfl 6 (by decide) (hts _ kX11_handler_4) (fun _ h => h) rfl dX11_handler_48 ?_
        refine lv_icmp_lt (tgt := 57) hx hb dX11_handler_51 (by decide) (fun hc => ?_) (fun hc => ?_)
        · replace hf := hs_t hf hc
          refine lv_iload hx hb dX11_handler_57 (lv_at hl 3 rfl) ?_
          refine lv_if_lt (tgt := 68) hx hb dX11_handler_59 (by decide) (fun hc => ?_) (fun hc => ?_)
          · replace hf := hs_t hf hc
            refine lv_bipush (v := -3) hx hb dX11_handler_68 (by decide) ?_
            exact hs_iret hx hb hr hlocks rfl hK hP hS hf dX11_handler_70
          · replace hf := hs_f hf hc
            refine lv_iload hx hb dX11_handler_62 (lv_at hl 3 rfl) ?_
            refine lv_iconst (v := 4) hx hb dX11_handler_64 (by decide) ?_
            refine lv_icmp_lt (tgt := 71) hx hb dX11_handler_65 (by decide) (fun hc => ?_) (fun hc => ?_)
            · replace hf := hs_t hf hc
              refine lv_aload hx hb dX11_handler_71 (lv_at hl 0 rfl) ?_
              refine lv_iload_n hx hb dX11_handler_73 rfl (lv_at hl 1 rfl) ?_
              obtain ⟨h12, hf⟩ := hs_ck hf
              obtain ⟨r14, g13, h15, hf⟩ := hs_bd_some hf
              refine hs_callr (va_runV (As := [.int v1]) (rest := []) ⟨hx, hb, hml, hown, hts⟩ (ctX0_method l B D E s0 v1 g8 _ h15) (cwV 1 hts gX11_handler_X0_method rfl rfl rfl (by decide +kernel) ⟨Nat.le_of_ble_eq_true rfl, Nat.le_of_ble_eq_true rfl⟩) (hs_preV (r := (RX0, TX0, 5)) hP hK h12 (by decide) rfl) rfl rfl hl.1 rfl (lv_room (Nat.le_of_ble_eq_true rfl)) dX11_handler_74 ⟨(Nat.le_of_ble_eq_true rfl), (Nat.le_of_ble_eq_true rfl)⟩) hS (fun H locs hP hS => ?_)
              refine lv_iload_n hx hb dX11_handler_77 rfl (lv_at hl 2 rfl) ?_
              refine lv_iload hx hb dX11_handler_78 (lv_at hl 3 rfl) ?_
              obtain ⟨h16, hf⟩ := hs_ck hf
              obtain ⟨r18, g17, h19, hf⟩ := hs_bd_some hf
              cases h19
            · replace hf := hs_f hf hc
              refine lv_bipush (v := -3) hx hb dX11_handler_68 (by decide) ?_
              exact hs_iret hx hb hr hlocks rfl hK hP hS hf dX11_handler_70
        · replace hf := hs_f hf hc
          refine lv_bipush (v := -3) hx hb dX11_handler_54 (by decide) ?_
          exact hs_iret hx hb hr hlocks rfl hK hP hS hf dX11_handler_56
  · replace hf := hs_t hf hc
    refine lv_bipush (v := -2) hx hb dX11_handler_25 (by decide) ?_
    exact hs_iret hx hb hr hlocks rfl hK hP hS hf dX11_handler_27

set_option maxHeartbeats 4000000 in
set_option maxRecDepth 100000 in
theorem ctX11_handler (l : Launch) (B : Nat) (D : va_G) (E : Nat → ClassId) (v0 : Nat) (v1 : Int32) (v2 : Int32) (v3 : Int32) (v4 : Int32) (g : hs_S) (o : Int32 × hs_S) (hf : fX11_handler v0 v1 v2 v3 v4 g = some o) : Met l yX11_handler wsX11_handler rmX11_handler (hs_Pc B D E g [.ref (B + v0), .int v1, .int v2, .int v3, .int v4]) (hs_Qi B D E o) (0) (0) (hs_F B) := by
  refine Met.ofW (cc := cX11_handler) (maxL := 6) (ret := (some .int)) (by decide) rfl ?_
  intro p e s m args below meth c s₁ Bd hml hv
  obtain ⟨rfl, hP, hK⟩ := hv
  have hx := Bd.exec
  have hb := Bd.bytes
  have hr := Bd.returns
  have hts := atoms_spec (ws := wsX11_handler) Bd.pre
  have hown : s.vm.findClass RX11 = some m.cls := findClass_of_methodNamed Bd.named
  have hlocks := Bd.notSynchronized
  have hS : hs_Sx B s.heap s.heap [] := va_S.rf
  have hX : hs_cx cX11_handler (some .int) 6 RX11 wsX11_handler p s m (List.toArray [.ref (B + v0), .int v1, .int v2, .int v3, .int v4]) meth c D E := ⟨hx, hb, hr, hml, hown, hts, hlocks, hK⟩
  have hl := lv_entry ([.ref (B + v0), .int v1, .int v2, .int v3, .int v4]) (n := 6) (Nat.le_of_ble_eq_true rfl)
  rw [lg_entry_eq]
  generalize (lg_sl ([.ref (B + v0), .int v1, .int v2, .int v3, .int v4]) ++ List.replicate (6 - (lg_sl ([.ref (B + v0), .int v1, .int v2, .int v3, .int v4])).length) Slot.unset).toArray = ls at hl ⊢
  have hl : lv_has ls 6 [(0, .ref (B + v0)), (1, .int v1), (2, .int v2), (3, .int v3), (4, .int v4)] := hl
  have hP : hs_P B D E g s.heap := hP
  unfold fX11_handler at hf
  refine lv_iload_n hx hb dX11_handler_0 rfl (lv_at hl 2 rfl) ?_
  refine lv_if_eq (tgt := 11) hx hb dX11_handler_1 (by decide) (fun hc => ?_) (fun hc => ?_)
  · replace hf := hs_t hf hc
    refine lv_aload_n hx hb dX11_handler_11 rfl (lv_at hl 0 rfl) ?_
    obtain ⟨h1, hf⟩ := hs_ck hf
    obtain ⟨h2, hf⟩ := hs_ck hf
    refine hs_getr (C := RX11) (T := TX11) (N := 8) hx hb hts kX11_handler_1 hown hK.1 hP h1 (by decide) rfl 1 (by decide) (hts _ kX11_handler_0) (fun _ h => h) rfl h2 dX11_handler_12 ?_
    exact wX11_handler_j15 hX hf hP hS (lv_sub hl [1, 3, 4] rfl)
  · replace hf := hs_f hf hc
    refine lv_aload_n hx hb dX11_handler_4 rfl (lv_at hl 0 rfl) ?_
    obtain ⟨h20, hf⟩ := hs_ck hf
    obtain ⟨h21, hf⟩ := hs_ck hf
    refine hs_getr (C := RX11) (T := TX11) (N := 8) hx hb hts kX11_handler_1 hown hK.1 hP h20 (by decide) rfl 3 (by decide) (hts _ kX11_handler_6) (fun _ h => h) rfl h21 dX11_handler_5 ?_
    refine lv_goto (tgt := 15) hx hb dX11_handler_8 (by decide) ?_
    exact wX11_handler_j15 hX hf hP hS (lv_sub hl [1, 3, 4] rfl)

set_option maxRecDepth 20000 in
theorem ggX11_block_X0_has : GoodIn wsX11_block wsX0_has := goodIn_r _ [9, 10, 63, 64, 65, 66, 67] (by decide +kernel) (by decide +kernel)
set_option maxRecDepth 20000 in
theorem gX11_block_X0_has : GoodIn wsX11_block (wsV RX11 103 RX0 yX0_has wsX0_has) := goodIn_app (goodIn_of _ (by decide +kernel)) ggX11_block_X0_has
set_option maxRecDepth 20000 in
theorem ggX11_block_X0_method : GoodIn wsX11_block wsX0_method := goodIn_r _ [14, 15, 16, 63, 64, 65, 66, 67] (by decide +kernel) (by decide +kernel)
set_option maxRecDepth 20000 in
theorem gX11_block_X0_method : GoodIn wsX11_block (wsV RX11 87 RX0 yX0_method wsX0_method) := goodIn_app (goodIn_of _ (by decide +kernel)) ggX11_block_X0_method
set_option maxRecDepth 20000 in
theorem ggX11_block_X7_blockBegin : GoodIn wsX11_block wsX7_blockBegin := goodIn_r _ [21, 22, 23, 24, 25, 20, 26, 27, 28, 29, 30, 31, 32, 68, 69, 70, 71, 72, 73, 74, 75, 76, 77, 78] (by decide +kernel) (by decide +kernel)
set_option maxRecDepth 20000 in
theorem gX11_block_X7_blockBegin : GoodIn wsX11_block (wsV RX11 134 RX7 yX7_blockBegin wsX7_blockBegin) := goodIn_app (goodIn_of _ (by decide +kernel)) ggX11_block_X7_blockBegin
set_option maxRecDepth 20000 in
theorem ggX11_block_X7_sumFrom : GoodIn wsX11_block wsX7_sumFrom := goodIn_r _ [36, 22, 23, 24, 25, 20, 26, 27, 28, 29, 30, 31, 32, 37, 38, 39, 40, 41, 42, 43, 44, 45, 46, 47, 48, 49, 50, 51, 52, 53, 54, 68, 69, 70, 71, 72, 73, 74, 75, 76, 77, 78, 79] (by decide +kernel) (by decide +kernel)
set_option maxRecDepth 20000 in
theorem gX11_block_X7_sumFrom : GoodIn wsX11_block (wsV RX11 137 RX7 yX7_sumFrom wsX7_sumFrom) := goodIn_app (goodIn_of _ (by decide +kernel)) ggX11_block_X7_sumFrom
theorem dX11_block_0 : decode cX11_block 0 = .ok (.aload_n 0, 1) := by decide +kernel
theorem dX11_block_1 : decode cX11_block 1 = .ok (.getfield 18, 3) := by decide +kernel
theorem dX11_block_4 : decode cX11_block 4 = .ok (.getfield 71, 3) := by decide +kernel
theorem dX11_block_7 : decode cX11_block 7 = .ok (.ifCond .ne 6, 3) := by decide +kernel
theorem dX11_block_10 : decode cX11_block 10 = .ok (.bipush (-2), 2) := by decide +kernel
theorem dX11_block_12 : decode cX11_block 12 = .ok (.ireturn, 1) := by decide +kernel
theorem dX11_block_13 : decode cX11_block 13 = .ok (.aload_n 0, 1) := by decide +kernel
theorem dX11_block_14 : decode cX11_block 14 = .ok (.getfield 18, 3) := by decide +kernel
theorem dX11_block_17 : decode cX11_block 17 = .ok (.iload_n 1, 1) := by decide +kernel
theorem dX11_block_18 : decode cX11_block 18 = .ok (.invokevirtual 103, 3) := by decide +kernel
theorem dX11_block_21 : decode cX11_block 21 = .ok (.ifCond .eq 31, 3) := by decide +kernel
theorem dX11_block_24 : decode cX11_block 24 = .ok (.iload_n 2, 1) := by decide +kernel
theorem dX11_block_25 : decode cX11_block 25 = .ok (.ifCond .lt 27, 3) := by decide +kernel
theorem dX11_block_28 : decode cX11_block 28 = .ok (.iload_n 2, 1) := by decide +kernel
theorem dX11_block_29 : decode cX11_block 29 = .ok (.aload_n 0, 1) := by decide +kernel
theorem dX11_block_30 : decode cX11_block 30 = .ok (.getfield 18, 3) := by decide +kernel
theorem dX11_block_33 : decode cX11_block 33 = .ok (.iload_n 1, 1) := by decide +kernel
theorem dX11_block_34 : decode cX11_block 34 = .ok (.invokevirtual 87, 3) := by decide +kernel
theorem dX11_block_37 : decode cX11_block 37 = .ok (.getfield 112, 3) := by decide +kernel
theorem dX11_block_40 : decode cX11_block 40 = .ok (.if_icmp .ge 12, 3) := by decide +kernel
theorem dX11_block_43 : decode cX11_block 43 = .ok (.iload_n 3, 1) := by decide +kernel
theorem dX11_block_44 : decode cX11_block 44 = .ok (.ifCond .lt 8, 3) := by decide +kernel
theorem dX11_block_47 : decode cX11_block 47 = .ok (.iload_n 3, 1) := by decide +kernel
theorem dX11_block_48 : decode cX11_block 48 = .ok (.iconst 1, 1) := by decide +kernel
theorem dX11_block_49 : decode cX11_block 49 = .ok (.if_icmp .le 6, 3) := by decide +kernel
theorem dX11_block_52 : decode cX11_block 52 = .ok (.bipush (-3), 2) := by decide +kernel
theorem dX11_block_54 : decode cX11_block 54 = .ok (.ireturn, 1) := by decide +kernel
theorem dX11_block_55 : decode cX11_block 55 = .ok (.aload_n 0, 1) := by decide +kernel
theorem dX11_block_56 : decode cX11_block 56 = .ok (.getfield 18, 3) := by decide +kernel
theorem dX11_block_59 : decode cX11_block 59 = .ok (.iload_n 1, 1) := by decide +kernel
theorem dX11_block_60 : decode cX11_block 60 = .ok (.invokevirtual 87, 3) := by decide +kernel
theorem dX11_block_63 : decode cX11_block 63 = .ok (.iload_n 2, 1) := by decide +kernel
theorem dX11_block_64 : decode cX11_block 64 = .ok (.invokevirtual 134, 3) := by decide +kernel
theorem dX11_block_67 : decode cX11_block 67 = .ok (.istore 4, 2) := by decide +kernel
theorem dX11_block_69 : decode cX11_block 69 = .ok (.iload_n 3, 1) := by decide +kernel
theorem dX11_block_70 : decode cX11_block 70 = .ok (.ifCond .ne 8, 3) := by decide +kernel
theorem dX11_block_73 : decode cX11_block 73 = .ok (.iload 4, 2) := by decide +kernel
theorem dX11_block_75 : decode cX11_block 75 = .ok (.goto 20, 3) := by decide +kernel
theorem dX11_block_78 : decode cX11_block 78 = .ok (.aload_n 0, 1) := by decide +kernel
theorem dX11_block_79 : decode cX11_block 79 = .ok (.getfield 18, 3) := by decide +kernel
theorem dX11_block_82 : decode cX11_block 82 = .ok (.iload_n 1, 1) := by decide +kernel
theorem dX11_block_83 : decode cX11_block 83 = .ok (.invokevirtual 87, 3) := by decide +kernel
theorem dX11_block_86 : decode cX11_block 86 = .ok (.iload 4, 2) := by decide +kernel
theorem dX11_block_88 : decode cX11_block 88 = .ok (.aload_n 0, 1) := by decide +kernel
theorem dX11_block_89 : decode cX11_block 89 = .ok (.getfield 30, 3) := by decide +kernel
theorem dX11_block_92 : decode cX11_block 92 = .ok (.invokevirtual 137, 3) := by decide +kernel
theorem dX11_block_95 : decode cX11_block 95 = .ok (.ireturn, 1) := by decide +kernel
theorem kX11_block_0 : Cond.fieldLink RX11 18 "StepRewriter" "file" "LStepRewriter$CodeSet;" ∈ wsX11_block := by decide +kernel
theorem kX11_block_1 : ∀ w ∈ u_ws RX11 TX11 8, w ∈ wsX11_block := by decide +kernel
theorem kX11_block_2 : Cond.fieldLink RX11 71 "StepRewriter$CodeSet" "count" "I" ∈ wsX11_block := by decide +kernel
theorem kX11_block_3 : ∀ w ∈ u_ws RX0 TX0 5, w ∈ wsX11_block := by decide +kernel
theorem kX11_block_4 : Cond.fieldLink RX11 112 "StepRewriter$Method" "blocks" "I" ∈ wsX11_block := by decide +kernel
theorem kX11_block_5 : ∀ w ∈ u_ws RX7 TX7 11, w ∈ wsX11_block := by decide +kernel
def fX11_block (v0 : Nat) (v1 : Int32) (v2 : Int32) (v3 : Int32) (g : hs_S) : Option (Int32 × hs_S) :=
  if hs_kd g v0 = 9 then
  if ¬ (hs_R g v0 1) = 0 then
  if hs_kd g ((hs_R g v0 1) - 1) = 0 then
  if (hs_I g ((hs_R g v0 1) - 1) 4) = 0 then (
    some ((-2 : Int32), g)
  ) else (
    hs_bd (fX0_has ((hs_R g v0 1) - 1) v1 g) fun r5 g4 =>
    if r5 = 0 then (
      some ((-3 : Int32), g4)
    ) else (
      if v2 < 0 then (
        some ((-3 : Int32), g4)
      ) else (
        if hs_kd g4 v0 = 9 then
        if ¬ (hs_R g4 v0 1) = 0 then
        if hs_kd g4 ((hs_R g4 v0 1) - 1) = 0 then
        hs_bd (fX0_method ((hs_R g4 v0 1) - 1) v1 g4) fun r11 g10 =>
        if hs_kd g10 r11 = 6 then
        if (hs_I g10 r11 7) ≤ v2 then (
          some ((-3 : Int32), g10)
        ) else (
          if v3 < 0 then (
            some ((-3 : Int32), g10)
          ) else (
            if v3 ≤ (1 : Int32) then (
              if hs_kd g10 v0 = 9 then
              if ¬ (hs_R g10 v0 1) = 0 then
              if hs_kd g10 ((hs_R g10 v0 1) - 1) = 0 then
              hs_bd (fX0_method ((hs_R g10 v0 1) - 1) v1 g10) fun r18 g17 =>
              if hs_kd g17 r18 = 6 then
              hs_bd ((none : Option (Int32 × hs_S))) fun r22 g21 =>
              none
              else none else none else none else none
            ) else (
              some ((-3 : Int32), g10)
            )
          )
        )
        else none else none else none else none
      )
    )
  )
  else none else none else none
abbrev rmX11_block : Room := { frames := 3, cells := 0, slots := 0, locals := 66 }
set_option maxHeartbeats 4000000 in
set_option maxRecDepth 100000 in
theorem ctX11_block (l : Launch) (B : Nat) (D : va_G) (E : Nat → ClassId) (v0 : Nat) (v1 : Int32) (v2 : Int32) (v3 : Int32) (g : hs_S) (o : Int32 × hs_S) (hf : fX11_block v0 v1 v2 v3 g = some o) : Met l yX11_block wsX11_block rmX11_block (hs_Pc B D E g [.ref (B + v0), .int v1, .int v2, .int v3]) (hs_Qi B D E o) (0) (0) (hs_F B) := by
  refine Met.ofW (cc := cX11_block) (maxL := 5) (ret := (some .int)) (by decide) rfl ?_
  intro p e s m args below meth c s₁ Bd hml hv
  obtain ⟨rfl, hP, hK⟩ := hv
  have hx := Bd.exec
  have hb := Bd.bytes
  have hr := Bd.returns
  have hts := atoms_spec (ws := wsX11_block) Bd.pre
  have hown : s.vm.findClass RX11 = some m.cls := findClass_of_methodNamed Bd.named
  have hlocks := Bd.notSynchronized
  have hS : hs_Sx B s.heap s.heap [] := va_S.rf
  have hX : hs_cx cX11_block (some .int) 5 RX11 wsX11_block p s m (List.toArray [.ref (B + v0), .int v1, .int v2, .int v3]) meth c D E := ⟨hx, hb, hr, hml, hown, hts, hlocks, hK⟩
  have hl := lv_entry ([.ref (B + v0), .int v1, .int v2, .int v3]) (n := 5) (Nat.le_of_ble_eq_true rfl)
  rw [lg_entry_eq]
  generalize (lg_sl ([.ref (B + v0), .int v1, .int v2, .int v3]) ++ List.replicate (5 - (lg_sl ([.ref (B + v0), .int v1, .int v2, .int v3])).length) Slot.unset).toArray = ls at hl ⊢
  have hl : lv_has ls 5 [(0, .ref (B + v0)), (1, .int v1), (2, .int v2), (3, .int v3)] := hl
  have hP : hs_P B D E g s.heap := hP
  unfold fX11_block at hf
  refine lv_aload_n hx hb dX11_block_0 rfl (lv_at hl 0 rfl) ?_
  obtain ⟨h1, hf⟩ := hs_ck hf
  obtain ⟨h2, hf⟩ := hs_ck hf
  refine hs_getr (C := RX11) (T := TX11) (N := 8) hx hb hts kX11_block_1 hown hK.1 hP h1 (by decide) rfl 1 (by decide) (hts _ kX11_block_0) (fun _ h => h) rfl h2 dX11_block_1 ?_
  obtain ⟨h3, hf⟩ := hs_ck hf
  refine hs_geti (C := RX0) (T := TX0) (N := 5) hx hb hts kX11_block_3 hown hK.1 hP h3 (by decide) rfl 4 (by decide) (hts _ kX11_block_2) (fun _ h => h) rfl dX11_block_4 ?_
  refine lv_if_ne (tgt := 13) hx hb dX11_block_7 (by decide) (fun hc => ?_) (fun hc => ?_)
  · replace hf := hs_f hf hc
    refine lv_aload_n hx hb dX11_block_13 rfl (lv_at hl 0 rfl) ?_
    refine hs_getr (C := RX11) (T := TX11) (N := 8) hx hb hts kX11_block_1 hown hK.1 hP h1 (by decide) rfl 1 (by decide) (hts _ kX11_block_0) (fun _ h => h) rfl h2 dX11_block_14 ?_
    refine lv_iload_n hx hb dX11_block_17 rfl (lv_at hl 1 rfl) ?_
    obtain ⟨r5, g4, h6, hf⟩ := hs_bd_some hf
    refine hs_calli (va_runV (As := [.int v1]) (rest := []) ⟨hx, hb, hml, hown, hts⟩ (ctX0_has l B D E ((hs_R g v0 1) - 1) v1 g _ h6) (cwV 1 hts gX11_block_X0_has rfl rfl rfl (by decide +kernel) ⟨Nat.le_of_ble_eq_true rfl, Nat.le_of_ble_eq_true rfl⟩) (hs_preV (r := (RX0, TX0, 5)) hP hK h3 (by decide) rfl) rfl rfl hl.1 rfl (lv_room (Nat.le_of_ble_eq_true rfl)) dX11_block_18 ⟨(Nat.le_of_ble_eq_true rfl), (Nat.le_of_ble_eq_true rfl)⟩) hS (fun H locs hP hS => ?_)
    refine lv_if_eq (tgt := 52) hx hb dX11_block_21 (by decide) (fun hc => ?_) (fun hc => ?_)
    · replace hf := hs_t hf hc
      refine lv_bipush (v := -3) hx hb dX11_block_52 (by decide) ?_
      exact hs_iret hx hb hr hlocks rfl hK hP hS hf dX11_block_54
    · replace hf := hs_f hf hc
      refine lv_iload_n hx hb dX11_block_24 rfl (lv_at hl 2 rfl) ?_
      refine lv_if_lt (tgt := 52) hx hb dX11_block_25 (by decide) (fun hc => ?_) (fun hc => ?_)
      · replace hf := hs_t hf hc
        refine lv_bipush (v := -3) hx hb dX11_block_52 (by decide) ?_
        exact hs_iret hx hb hr hlocks rfl hK hP hS hf dX11_block_54
      · replace hf := hs_f hf hc
        refine lv_iload_n hx hb dX11_block_28 rfl (lv_at hl 2 rfl) ?_
        refine lv_aload_n hx hb dX11_block_29 rfl (lv_at hl 0 rfl) ?_
        obtain ⟨h7, hf⟩ := hs_ck hf
        obtain ⟨h8, hf⟩ := hs_ck hf
        refine hs_getr (C := RX11) (T := TX11) (N := 8) hx hb hts kX11_block_1 hown hK.1 hP h7 (by decide) rfl 1 (by decide) (hts _ kX11_block_0) (fun _ h => h) rfl h8 dX11_block_30 ?_
        refine lv_iload_n hx hb dX11_block_33 rfl (lv_at hl 1 rfl) ?_
        obtain ⟨h9, hf⟩ := hs_ck hf
        obtain ⟨r11, g10, h12, hf⟩ := hs_bd_some hf
        refine hs_callr (va_runV (As := [.int v1]) (rest := [.int v2]) ⟨hx, hb, hml, hown, hts⟩ (ctX0_method l B D E ((hs_R g4 v0 1) - 1) v1 g4 _ h12) (cwV 1 hts gX11_block_X0_method rfl rfl rfl (by decide +kernel) ⟨Nat.le_of_ble_eq_true rfl, Nat.le_of_ble_eq_true rfl⟩) (hs_preV (r := (RX0, TX0, 5)) hP hK h9 (by decide) rfl) rfl rfl hl.1 rfl (lv_room (Nat.le_of_ble_eq_true rfl)) dX11_block_34 ⟨(Nat.le_of_ble_eq_true rfl), (Nat.le_of_ble_eq_true rfl)⟩) hS (fun H locs hP hS => ?_)
        obtain ⟨h13, hf⟩ := hs_ck hf
        refine hs_geti (C := RX7) (T := TX7) (N := 11) hx hb hts kX11_block_5 hown hK.1 hP h13 (by decide) rfl 7 (by decide) (hts _ kX11_block_4) (fun _ h => h) rfl dX11_block_37 ?_
        refine lv_icmp_ge (tgt := 52) hx hb dX11_block_40 (by decide) (fun hc => ?_) (fun hc => ?_)
        · replace hf := hs_t hf hc
          refine lv_bipush (v := -3) hx hb dX11_block_52 (by decide) ?_
          exact hs_iret hx hb hr hlocks rfl hK hP hS hf dX11_block_54
        · replace hf := hs_f hf hc
          refine lv_iload_n hx hb dX11_block_43 rfl (lv_at hl 3 rfl) ?_
          refine lv_if_lt (tgt := 52) hx hb dX11_block_44 (by decide) (fun hc => ?_) (fun hc => ?_)
          · replace hf := hs_t hf hc
            refine lv_bipush (v := -3) hx hb dX11_block_52 (by decide) ?_
            exact hs_iret hx hb hr hlocks rfl hK hP hS hf dX11_block_54
          · replace hf := hs_f hf hc
            refine lv_iload_n hx hb dX11_block_47 rfl (lv_at hl 3 rfl) ?_
            refine lv_iconst (v := 1) hx hb dX11_block_48 (by decide) ?_
            refine lv_icmp_le (tgt := 55) hx hb dX11_block_49 (by decide) (fun hc => ?_) (fun hc => ?_)
            · replace hf := hs_t hf hc
              refine lv_aload_n hx hb dX11_block_55 rfl (lv_at hl 0 rfl) ?_
              obtain ⟨h14, hf⟩ := hs_ck hf
              obtain ⟨h15, hf⟩ := hs_ck hf
              refine hs_getr (C := RX11) (T := TX11) (N := 8) hx hb hts kX11_block_1 hown hK.1 hP h14 (by decide) rfl 1 (by decide) (hts _ kX11_block_0) (fun _ h => h) rfl h15 dX11_block_56 ?_
              refine lv_iload_n hx hb dX11_block_59 rfl (lv_at hl 1 rfl) ?_
              obtain ⟨h16, hf⟩ := hs_ck hf
              obtain ⟨r18, g17, h19, hf⟩ := hs_bd_some hf
              refine hs_callr (va_runV (As := [.int v1]) (rest := []) ⟨hx, hb, hml, hown, hts⟩ (ctX0_method l B D E ((hs_R g10 v0 1) - 1) v1 g10 _ h19) (cwV 1 hts gX11_block_X0_method rfl rfl rfl (by decide +kernel) ⟨Nat.le_of_ble_eq_true rfl, Nat.le_of_ble_eq_true rfl⟩) (hs_preV (r := (RX0, TX0, 5)) hP hK h16 (by decide) rfl) rfl rfl hl.1 rfl (lv_room (Nat.le_of_ble_eq_true rfl)) dX11_block_60 ⟨(Nat.le_of_ble_eq_true rfl), (Nat.le_of_ble_eq_true rfl)⟩) hS (fun H locs hP hS => ?_)
              refine lv_iload_n hx hb dX11_block_63 rfl (lv_at hl 2 rfl) ?_
              obtain ⟨h20, hf⟩ := hs_ck hf
              obtain ⟨r22, g21, h23, hf⟩ := hs_bd_some hf
              cases h23
            · replace hf := hs_f hf hc
              refine lv_bipush (v := -3) hx hb dX11_block_52 (by decide) ?_
              exact hs_iret hx hb hr hlocks rfl hK hP hS hf dX11_block_54
  · replace hf := hs_t hf hc
    refine lv_bipush (v := -2) hx hb dX11_block_10 (by decide) ?_
    exact hs_iret hx hb hr hlocks rfl hK hP hS hf dX11_block_12

set_option maxRecDepth 20000 in
theorem ggX11_run_X0_has : GoodIn wsX11_run wsX0_has := goodIn_r _ [9, 10, 238, 239, 240, 241, 242] (by decide +kernel) (by decide +kernel)
set_option maxRecDepth 20000 in
theorem gX11_run_X0_has : GoodIn wsX11_run (wsV RX11 103 RX0 yX0_has wsX0_has) := goodIn_app (goodIn_of _ (by decide +kernel)) ggX11_run_X0_has
set_option maxRecDepth 20000 in
theorem ggX11_run_X6_perform : GoodIn wsX11_run wsX6_perform := goodIn_r _ [15, 16, 17, 18, 19, 20, 21, 22, 23, 24, 14, 25, 26, 27, 28, 29, 30, 31, 32, 33, 34, 35, 36, 37, 38, 39, 40, 41, 42, 43, 44, 45, 46, 47, 8, 48, 49, 50, 51, 52, 53, 54, 55, 56, 57, 58, 59, 60, 61, 62, 63, 64, 65, 66, 67, 68, 69, 70, 71, 72, 73, 74, 75, 76, 77, 78, 79, 80, 81, 82, 83, 84, 85, 86, 87, 88, 89, 90, 91, 92, 93, 94, 95, 96, 97, 98, 99, 100, 101, 102, 103, 104, 105, 106, 107, 108, 109, 110, 111, 112, 113, 114, 115, 116, 117, 118, 119, 120, 121, 122, 123, 124, 125, 126, 127, 128, 129, 130, 131, 132, 133, 134, 135, 136, 137, 138, 139, 140, 141, 142, 143, 144, 145, 146, 147, 148, 149, 150, 151, 152, 153, 154, 155, 156, 157, 158, 159, 160, 161, 162, 163, 164, 165, 166, 167, 168, 169, 170, 171, 172, 173, 174, 175, 176, 177, 178, 179, 180, 181, 182, 183, 184, 185, 186, 187, 188, 189, 190, 191, 192, 193, 194, 195, 196, 197, 198, 199, 200, 201, 202, 203, 204, 205, 206, 207, 208, 209, 210, 211, 212, 213, 214, 215, 216, 217, 218, 219, 220, 221, 222, 223, 224, 225, 226, 227, 228, 229, 243, 244, 245, 246, 247, 248, 249, 250, 251, 252, 253, 254, 255, 256, 257, 258, 259, 260, 261, 262, 263, 264, 265, 266, 267, 268, 238, 239, 240, 241, 242] (by decide +kernel) (by decide +kernel)
set_option maxRecDepth 20000 in
theorem gX11_run_X6_perform : GoodIn wsX11_run (wsV RX11 142 RX6 yX6_perform wsX6_perform) := goodIn_app (goodIn_of _ (by decide +kernel)) ggX11_run_X6_perform
theorem dX11_run_0 : decode cX11_run 0 = .ok (.aload_n 0, 1) := by decide +kernel
theorem dX11_run_1 : decode cX11_run 1 = .ok (.getfield 24, 3) := by decide +kernel
theorem dX11_run_4 : decode cX11_run 4 = .ok (.getfield 71, 3) := by decide +kernel
theorem dX11_run_7 : decode cX11_run 7 = .ok (.ifCond .ne 6, 3) := by decide +kernel
theorem dX11_run_10 : decode cX11_run 10 = .ok (.bipush (-2), 2) := by decide +kernel
theorem dX11_run_12 : decode cX11_run 12 = .ok (.ireturn, 1) := by decide +kernel
theorem dX11_run_13 : decode cX11_run 13 = .ok (.aload_n 0, 1) := by decide +kernel
theorem dX11_run_14 : decode cX11_run 14 = .ok (.getfield 24, 3) := by decide +kernel
theorem dX11_run_17 : decode cX11_run 17 = .ok (.iload_n 1, 1) := by decide +kernel
theorem dX11_run_18 : decode cX11_run 18 = .ok (.invokevirtual 103, 3) := by decide +kernel
theorem dX11_run_21 : decode cX11_run 21 = .ok (.ifCond .eq 15, 3) := by decide +kernel
theorem dX11_run_24 : decode cX11_run 24 = .ok (.iload 4, 2) := by decide +kernel
theorem dX11_run_26 : decode cX11_run 26 = .ok (.ifCond .lt 10, 3) := by decide +kernel
theorem dX11_run_29 : decode cX11_run 29 = .ok (.iload 4, 2) := by decide +kernel
theorem dX11_run_31 : decode cX11_run 31 = .ok (.ldc 141, 2) := by decide +kernel
theorem dX11_run_33 : decode cX11_run 33 = .ok (.if_icmp .le 6, 3) := by decide +kernel
theorem dX11_run_36 : decode cX11_run 36 = .ok (.bipush (-3), 2) := by decide +kernel
theorem dX11_run_38 : decode cX11_run 38 = .ok (.ireturn, 1) := by decide +kernel
theorem dX11_run_39 : decode cX11_run 39 = .ok (.aload_n 0, 1) := by decide +kernel
theorem dX11_run_40 : decode cX11_run 40 = .ok (.getfield 53, 3) := by decide +kernel
theorem dX11_run_43 : decode cX11_run 43 = .ok (.iload_n 1, 1) := by decide +kernel
theorem dX11_run_44 : decode cX11_run 44 = .ok (.iload_n 2, 1) := by decide +kernel
theorem dX11_run_45 : decode cX11_run 45 = .ok (.iload_n 3, 1) := by decide +kernel
theorem dX11_run_46 : decode cX11_run 46 = .ok (.iload 4, 2) := by decide +kernel
theorem dX11_run_48 : decode cX11_run 48 = .ok (.invokevirtual 142, 3) := by decide +kernel
theorem dX11_run_51 : decode cX11_run 51 = .ok (.ireturn, 1) := by decide +kernel
theorem kX11_run_0 : Cond.fieldLink RX11 24 "StepRewriter" "rewritten" "LStepRewriter$CodeSet;" ∈ wsX11_run := by decide +kernel
theorem kX11_run_1 : ∀ w ∈ u_ws RX11 TX11 8, w ∈ wsX11_run := by decide +kernel
theorem kX11_run_2 : Cond.fieldLink RX11 71 "StepRewriter$CodeSet" "count" "I" ∈ wsX11_run := by decide +kernel
theorem kX11_run_3 : ∀ w ∈ u_ws RX0 TX0 5, w ∈ wsX11_run := by decide +kernel
theorem kX11_run_4 : Cond.constant RX11 141 (100000) ∈ wsX11_run := by decide +kernel
theorem kX11_run_5 : Cond.fieldLink RX11 53 "StepRewriter" "machine" "LStepRewriter$Machine;" ∈ wsX11_run := by decide +kernel
def fX11_run (v0 : Nat) (v1 : Int32) (v2 : Int32) (v3 : Int32) (v4 : Int32) (g : hs_S) : Option (Int32 × hs_S) :=
  if hs_kd g v0 = 9 then
  if ¬ (hs_R g v0 3) = 0 then
  if hs_kd g ((hs_R g v0 3) - 1) = 0 then
  if (hs_I g ((hs_R g v0 3) - 1) 4) = 0 then (
    some ((-2 : Int32), g)
  ) else (
    hs_bd (fX0_has ((hs_R g v0 3) - 1) v1 g) fun r5 g4 =>
    if r5 = 0 then (
      some ((-3 : Int32), g4)
    ) else (
      if v4 < 0 then (
        some ((-3 : Int32), g4)
      ) else (
        if v4 ≤ (100000 : Int32) then (
          if hs_kd g4 v0 = 9 then
          if ¬ (hs_R g4 v0 7) = 0 then
          if hs_kd g4 ((hs_R g4 v0 7) - 1) = 5 then
          hs_bd ((none : Option (Int32 × hs_S))) fun r11 g10 =>
          none
          else none else none else none
        ) else (
          some ((-3 : Int32), g4)
        )
      )
    )
  )
  else none else none else none
abbrev rmX11_run : Room := { frames := 7, cells := 0, slots := 0, locals := 165 }
set_option maxHeartbeats 4000000 in
set_option maxRecDepth 100000 in
theorem ctX11_run (l : Launch) (B : Nat) (D : va_G) (E : Nat → ClassId) (v0 : Nat) (v1 : Int32) (v2 : Int32) (v3 : Int32) (v4 : Int32) (g : hs_S) (o : Int32 × hs_S) (hf : fX11_run v0 v1 v2 v3 v4 g = some o) : Met l yX11_run wsX11_run rmX11_run (hs_Pc B D E g [.ref (B + v0), .int v1, .int v2, .int v3, .int v4]) (hs_Qi B D E o) (0) (0) (hs_F B) := by
  refine Met.ofW (cc := cX11_run) (maxL := 5) (ret := (some .int)) (by decide) rfl ?_
  intro p e s m args below meth c s₁ Bd hml hv
  obtain ⟨rfl, hP, hK⟩ := hv
  have hx := Bd.exec
  have hb := Bd.bytes
  have hr := Bd.returns
  have hts := atoms_spec (ws := wsX11_run) Bd.pre
  have hown : s.vm.findClass RX11 = some m.cls := findClass_of_methodNamed Bd.named
  have hlocks := Bd.notSynchronized
  have hS : hs_Sx B s.heap s.heap [] := va_S.rf
  have hX : hs_cx cX11_run (some .int) 5 RX11 wsX11_run p s m (List.toArray [.ref (B + v0), .int v1, .int v2, .int v3, .int v4]) meth c D E := ⟨hx, hb, hr, hml, hown, hts, hlocks, hK⟩
  have hl := lv_entry ([.ref (B + v0), .int v1, .int v2, .int v3, .int v4]) (n := 5) (Nat.le_of_ble_eq_true rfl)
  rw [lg_entry_eq]
  generalize (lg_sl ([.ref (B + v0), .int v1, .int v2, .int v3, .int v4]) ++ List.replicate (5 - (lg_sl ([.ref (B + v0), .int v1, .int v2, .int v3, .int v4])).length) Slot.unset).toArray = ls at hl ⊢
  have hl : lv_has ls 5 [(0, .ref (B + v0)), (1, .int v1), (2, .int v2), (3, .int v3), (4, .int v4)] := hl
  have hP : hs_P B D E g s.heap := hP
  unfold fX11_run at hf
  refine lv_aload_n hx hb dX11_run_0 rfl (lv_at hl 0 rfl) ?_
  obtain ⟨h1, hf⟩ := hs_ck hf
  obtain ⟨h2, hf⟩ := hs_ck hf
  refine hs_getr (C := RX11) (T := TX11) (N := 8) hx hb hts kX11_run_1 hown hK.1 hP h1 (by decide) rfl 3 (by decide) (hts _ kX11_run_0) (fun _ h => h) rfl h2 dX11_run_1 ?_
  obtain ⟨h3, hf⟩ := hs_ck hf
  refine hs_geti (C := RX0) (T := TX0) (N := 5) hx hb hts kX11_run_3 hown hK.1 hP h3 (by decide) rfl 4 (by decide) (hts _ kX11_run_2) (fun _ h => h) rfl dX11_run_4 ?_
  refine lv_if_ne (tgt := 13) hx hb dX11_run_7 (by decide) (fun hc => ?_) (fun hc => ?_)
  · replace hf := hs_f hf hc
    refine lv_aload_n hx hb dX11_run_13 rfl (lv_at hl 0 rfl) ?_
    refine hs_getr (C := RX11) (T := TX11) (N := 8) hx hb hts kX11_run_1 hown hK.1 hP h1 (by decide) rfl 3 (by decide) (hts _ kX11_run_0) (fun _ h => h) rfl h2 dX11_run_14 ?_
    refine lv_iload_n hx hb dX11_run_17 rfl (lv_at hl 1 rfl) ?_
    obtain ⟨r5, g4, h6, hf⟩ := hs_bd_some hf
    refine hs_calli (va_runV (As := [.int v1]) (rest := []) ⟨hx, hb, hml, hown, hts⟩ (ctX0_has l B D E ((hs_R g v0 3) - 1) v1 g _ h6) (cwV 1 hts gX11_run_X0_has rfl rfl rfl (by decide +kernel) ⟨Nat.le_of_ble_eq_true rfl, Nat.le_of_ble_eq_true rfl⟩) (hs_preV (r := (RX0, TX0, 5)) hP hK h3 (by decide) rfl) rfl rfl hl.1 rfl (lv_room (Nat.le_of_ble_eq_true rfl)) dX11_run_18 ⟨(Nat.le_of_ble_eq_true rfl), (Nat.le_of_ble_eq_true rfl)⟩) hS (fun H locs hP hS => ?_)
    refine lv_if_eq (tgt := 36) hx hb dX11_run_21 (by decide) (fun hc => ?_) (fun hc => ?_)
    · replace hf := hs_t hf hc
      refine lv_bipush (v := -3) hx hb dX11_run_36 (by decide) ?_
      exact hs_iret hx hb hr hlocks rfl hK hP hS hf dX11_run_38
    · replace hf := hs_f hf hc
      refine lv_iload hx hb dX11_run_24 (lv_at hl 4 rfl) ?_
      refine lv_if_lt (tgt := 36) hx hb dX11_run_26 (by decide) (fun hc => ?_) (fun hc => ?_)
      · replace hf := hs_t hf hc
        refine lv_bipush (v := -3) hx hb dX11_run_36 (by decide) ?_
        exact hs_iret hx hb hr hlocks rfl hK hP hS hf dX11_run_38
      · replace hf := hs_f hf hc
        refine lv_iload hx hb dX11_run_29 (lv_at hl 4 rfl) ?_
        refine lv_ldc (v := 100000) hx hb hown (hts _ kX11_run_4) dX11_run_31 ?_
        refine lv_icmp_le (tgt := 39) hx hb dX11_run_33 (by decide) (fun hc => ?_) (fun hc => ?_)
        · replace hf := hs_t hf hc
          refine lv_aload_n hx hb dX11_run_39 rfl (lv_at hl 0 rfl) ?_
          obtain ⟨h7, hf⟩ := hs_ck hf
          obtain ⟨h8, hf⟩ := hs_ck hf
          refine hs_getr (C := RX11) (T := TX11) (N := 8) hx hb hts kX11_run_1 hown hK.1 hP h7 (by decide) rfl 7 (by decide) (hts _ kX11_run_5) (fun _ h => h) rfl h8 dX11_run_40 ?_
          refine lv_iload_n hx hb dX11_run_43 rfl (lv_at hl 1 rfl) ?_
          refine lv_iload_n hx hb dX11_run_44 rfl (lv_at hl 2 rfl) ?_
          refine lv_iload_n hx hb dX11_run_45 rfl (lv_at hl 3 rfl) ?_
          refine lv_iload hx hb dX11_run_46 (lv_at hl 4 rfl) ?_
          obtain ⟨h9, hf⟩ := hs_ck hf
          obtain ⟨r11, g10, h12, hf⟩ := hs_bd_some hf
          cases h12
        · replace hf := hs_f hf hc
          refine lv_bipush (v := -3) hx hb dX11_run_36 (by decide) ?_
          exact hs_iret hx hb hr hlocks rfl hK hP hS hf dX11_run_38
  · replace hf := hs_t hf hc
    refine lv_bipush (v := -2) hx hb dX11_run_10 (by decide) ?_
    exact hs_iret hx hb hr hlocks rfl hK hP hS hf dX11_run_12

theorem dX11_answer_0 : decode cX11_answer 0 = .ok (.aload_n 0, 1) := by decide +kernel
theorem dX11_answer_1 : decode cX11_answer 1 = .ok (.getfield 53, 3) := by decide +kernel
theorem dX11_answer_4 : decode cX11_answer 4 = .ok (.getfield 146, 3) := by decide +kernel
theorem dX11_answer_7 : decode cX11_answer 7 = .ok (.ireturn, 1) := by decide +kernel
theorem kX11_answer_0 : Cond.fieldLink RX11 53 "StepRewriter" "machine" "LStepRewriter$Machine;" ∈ wsX11_answer := by decide +kernel
theorem kX11_answer_1 : ∀ w ∈ u_ws RX11 TX11 8, w ∈ wsX11_answer := by decide +kernel
theorem kX11_answer_2 : Cond.fieldLink RX11 146 "StepRewriter$Machine" "result" "I" ∈ wsX11_answer := by decide +kernel
theorem kX11_answer_3 : ∀ w ∈ u_ws RX6 TX6 8, w ∈ wsX11_answer := by decide +kernel
def fX11_answer (v0 : Nat) (g : hs_S) : Option (Int32 × hs_S) :=
  if hs_kd g v0 = 9 then
  if ¬ (hs_R g v0 7) = 0 then
  if hs_kd g ((hs_R g v0 7) - 1) = 5 then
  some ((hs_I g ((hs_R g v0 7) - 1) 5), g)
  else none else none else none
abbrev rmX11_answer : Room := { frames := 0, cells := 0, slots := 0, locals := 0 }
set_option maxHeartbeats 4000000 in
set_option maxRecDepth 100000 in
theorem ctX11_answer (l : Launch) (B : Nat) (D : va_G) (E : Nat → ClassId) (v0 : Nat) (g : hs_S) (o : Int32 × hs_S) (hf : fX11_answer v0 g = some o) : Met l yX11_answer wsX11_answer rmX11_answer (hs_Pc B D E g [.ref (B + v0)]) (hs_Qi B D E o) (0) (0) (hs_F B) := by
  refine Met.ofW (cc := cX11_answer) (maxL := 1) (ret := (some .int)) (by decide) rfl ?_
  intro p e s m args below meth c s₁ Bd hml hv
  obtain ⟨rfl, hP, hK⟩ := hv
  have hx := Bd.exec
  have hb := Bd.bytes
  have hr := Bd.returns
  have hts := atoms_spec (ws := wsX11_answer) Bd.pre
  have hown : s.vm.findClass RX11 = some m.cls := findClass_of_methodNamed Bd.named
  have hlocks := Bd.notSynchronized
  have hS : hs_Sx B s.heap s.heap [] := va_S.rf
  have hX : hs_cx cX11_answer (some .int) 1 RX11 wsX11_answer p s m (List.toArray [.ref (B + v0)]) meth c D E := ⟨hx, hb, hr, hml, hown, hts, hlocks, hK⟩
  have hl := lv_entry ([.ref (B + v0)]) (n := 1) (Nat.le_of_ble_eq_true rfl)
  rw [lg_entry_eq]
  generalize (lg_sl ([.ref (B + v0)]) ++ List.replicate (1 - (lg_sl ([.ref (B + v0)])).length) Slot.unset).toArray = ls at hl ⊢
  have hl : lv_has ls 1 [(0, .ref (B + v0))] := hl
  have hP : hs_P B D E g s.heap := hP
  unfold fX11_answer at hf
  refine lv_aload_n hx hb dX11_answer_0 rfl (lv_at hl 0 rfl) ?_
  obtain ⟨h1, hf⟩ := hs_ck hf
  obtain ⟨h2, hf⟩ := hs_ck hf
  refine hs_getr (C := RX11) (T := TX11) (N := 8) hx hb hts kX11_answer_1 hown hK.1 hP h1 (by decide) rfl 7 (by decide) (hts _ kX11_answer_0) (fun _ h => h) rfl h2 dX11_answer_1 ?_
  obtain ⟨h3, hf⟩ := hs_ck hf
  refine hs_geti (C := RX6) (T := TX6) (N := 8) hx hb hts kX11_answer_3 hown hK.1 hP h3 (by decide) rfl 5 (by decide) (hts _ kX11_answer_2) (fun _ h => h) rfl dX11_answer_4 ?_
  exact hs_iret hx hb hr hlocks rfl hK hP hS hf dX11_answer_7

theorem dX11_counted_0 : decode cX11_counted 0 = .ok (.aload_n 0, 1) := by decide +kernel
theorem dX11_counted_1 : decode cX11_counted 1 = .ok (.getfield 53, 3) := by decide +kernel
theorem dX11_counted_4 : decode cX11_counted 4 = .ok (.getfield 149, 3) := by decide +kernel
theorem dX11_counted_7 : decode cX11_counted 7 = .ok (.ireturn, 1) := by decide +kernel
theorem kX11_counted_0 : Cond.fieldLink RX11 53 "StepRewriter" "machine" "LStepRewriter$Machine;" ∈ wsX11_counted := by decide +kernel
theorem kX11_counted_1 : ∀ w ∈ u_ws RX11 TX11 8, w ∈ wsX11_counted := by decide +kernel
theorem kX11_counted_2 : Cond.fieldLink RX11 149 "StepRewriter$Machine" "paid" "I" ∈ wsX11_counted := by decide +kernel
theorem kX11_counted_3 : ∀ w ∈ u_ws RX6 TX6 8, w ∈ wsX11_counted := by decide +kernel
def fX11_counted (v0 : Nat) (g : hs_S) : Option (Int32 × hs_S) :=
  if hs_kd g v0 = 9 then
  if ¬ (hs_R g v0 7) = 0 then
  if hs_kd g ((hs_R g v0 7) - 1) = 5 then
  some ((hs_I g ((hs_R g v0 7) - 1) 6), g)
  else none else none else none
abbrev rmX11_counted : Room := { frames := 0, cells := 0, slots := 0, locals := 0 }
set_option maxHeartbeats 4000000 in
set_option maxRecDepth 100000 in
theorem ctX11_counted (l : Launch) (B : Nat) (D : va_G) (E : Nat → ClassId) (v0 : Nat) (g : hs_S) (o : Int32 × hs_S) (hf : fX11_counted v0 g = some o) : Met l yX11_counted wsX11_counted rmX11_counted (hs_Pc B D E g [.ref (B + v0)]) (hs_Qi B D E o) (0) (0) (hs_F B) := by
  refine Met.ofW (cc := cX11_counted) (maxL := 1) (ret := (some .int)) (by decide) rfl ?_
  intro p e s m args below meth c s₁ Bd hml hv
  obtain ⟨rfl, hP, hK⟩ := hv
  have hx := Bd.exec
  have hb := Bd.bytes
  have hr := Bd.returns
  have hts := atoms_spec (ws := wsX11_counted) Bd.pre
  have hown : s.vm.findClass RX11 = some m.cls := findClass_of_methodNamed Bd.named
  have hlocks := Bd.notSynchronized
  have hS : hs_Sx B s.heap s.heap [] := va_S.rf
  have hX : hs_cx cX11_counted (some .int) 1 RX11 wsX11_counted p s m (List.toArray [.ref (B + v0)]) meth c D E := ⟨hx, hb, hr, hml, hown, hts, hlocks, hK⟩
  have hl := lv_entry ([.ref (B + v0)]) (n := 1) (Nat.le_of_ble_eq_true rfl)
  rw [lg_entry_eq]
  generalize (lg_sl ([.ref (B + v0)]) ++ List.replicate (1 - (lg_sl ([.ref (B + v0)])).length) Slot.unset).toArray = ls at hl ⊢
  have hl : lv_has ls 1 [(0, .ref (B + v0))] := hl
  have hP : hs_P B D E g s.heap := hP
  unfold fX11_counted at hf
  refine lv_aload_n hx hb dX11_counted_0 rfl (lv_at hl 0 rfl) ?_
  obtain ⟨h1, hf⟩ := hs_ck hf
  obtain ⟨h2, hf⟩ := hs_ck hf
  refine hs_getr (C := RX11) (T := TX11) (N := 8) hx hb hts kX11_counted_1 hown hK.1 hP h1 (by decide) rfl 7 (by decide) (hts _ kX11_counted_0) (fun _ h => h) rfl h2 dX11_counted_1 ?_
  obtain ⟨h3, hf⟩ := hs_ck hf
  refine hs_geti (C := RX6) (T := TX6) (N := 8) hx hb hts kX11_counted_3 hown hK.1 hP h3 (by decide) rfl 6 (by decide) (hts _ kX11_counted_2) (fun _ h => h) rfl dX11_counted_4 ?_
  exact hs_iret hx hb hr hlocks rfl hK hP hS hf dX11_counted_7

theorem dX11_steps_0 : decode cX11_steps 0 = .ok (.aload_n 0, 1) := by decide +kernel
theorem dX11_steps_1 : decode cX11_steps 1 = .ok (.getfield 53, 3) := by decide +kernel
theorem dX11_steps_4 : decode cX11_steps 4 = .ok (.getfield 152, 3) := by decide +kernel
theorem dX11_steps_7 : decode cX11_steps 7 = .ok (.ireturn, 1) := by decide +kernel
theorem kX11_steps_0 : Cond.fieldLink RX11 53 "StepRewriter" "machine" "LStepRewriter$Machine;" ∈ wsX11_steps := by decide +kernel
theorem kX11_steps_1 : ∀ w ∈ u_ws RX11 TX11 8, w ∈ wsX11_steps := by decide +kernel
theorem kX11_steps_2 : Cond.fieldLink RX11 152 "StepRewriter$Machine" "done" "I" ∈ wsX11_steps := by decide +kernel
theorem kX11_steps_3 : ∀ w ∈ u_ws RX6 TX6 8, w ∈ wsX11_steps := by decide +kernel
def fX11_steps (v0 : Nat) (g : hs_S) : Option (Int32 × hs_S) :=
  if hs_kd g v0 = 9 then
  if ¬ (hs_R g v0 7) = 0 then
  if hs_kd g ((hs_R g v0 7) - 1) = 5 then
  some ((hs_I g ((hs_R g v0 7) - 1) 7), g)
  else none else none else none
abbrev rmX11_steps : Room := { frames := 0, cells := 0, slots := 0, locals := 0 }
set_option maxHeartbeats 4000000 in
set_option maxRecDepth 100000 in
theorem ctX11_steps (l : Launch) (B : Nat) (D : va_G) (E : Nat → ClassId) (v0 : Nat) (g : hs_S) (o : Int32 × hs_S) (hf : fX11_steps v0 g = some o) : Met l yX11_steps wsX11_steps rmX11_steps (hs_Pc B D E g [.ref (B + v0)]) (hs_Qi B D E o) (0) (0) (hs_F B) := by
  refine Met.ofW (cc := cX11_steps) (maxL := 1) (ret := (some .int)) (by decide) rfl ?_
  intro p e s m args below meth c s₁ Bd hml hv
  obtain ⟨rfl, hP, hK⟩ := hv
  have hx := Bd.exec
  have hb := Bd.bytes
  have hr := Bd.returns
  have hts := atoms_spec (ws := wsX11_steps) Bd.pre
  have hown : s.vm.findClass RX11 = some m.cls := findClass_of_methodNamed Bd.named
  have hlocks := Bd.notSynchronized
  have hS : hs_Sx B s.heap s.heap [] := va_S.rf
  have hX : hs_cx cX11_steps (some .int) 1 RX11 wsX11_steps p s m (List.toArray [.ref (B + v0)]) meth c D E := ⟨hx, hb, hr, hml, hown, hts, hlocks, hK⟩
  have hl := lv_entry ([.ref (B + v0)]) (n := 1) (Nat.le_of_ble_eq_true rfl)
  rw [lg_entry_eq]
  generalize (lg_sl ([.ref (B + v0)]) ++ List.replicate (1 - (lg_sl ([.ref (B + v0)])).length) Slot.unset).toArray = ls at hl ⊢
  have hl : lv_has ls 1 [(0, .ref (B + v0))] := hl
  have hP : hs_P B D E g s.heap := hP
  unfold fX11_steps at hf
  refine lv_aload_n hx hb dX11_steps_0 rfl (lv_at hl 0 rfl) ?_
  obtain ⟨h1, hf⟩ := hs_ck hf
  obtain ⟨h2, hf⟩ := hs_ck hf
  refine hs_getr (C := RX11) (T := TX11) (N := 8) hx hb hts kX11_steps_1 hown hK.1 hP h1 (by decide) rfl 7 (by decide) (hts _ kX11_steps_0) (fun _ h => h) rfl h2 dX11_steps_1 ?_
  obtain ⟨h3, hf⟩ := hs_ck hf
  refine hs_geti (C := RX6) (T := TX6) (N := 8) hx hb hts kX11_steps_3 hown hK.1 hP h3 (by decide) rfl 7 (by decide) (hts _ kX11_steps_2) (fun _ h => h) rfl dX11_steps_4 ?_
  exact hs_iret hx hb hr hlocks rfl hK hP hS hf dX11_steps_7

set_option maxRecDepth 20000 in
theorem ggX11_element_X10_sizeOf : GoodIn wsX11_element wsX10_sizeOf := goodIn_r _ [7, 8, 9, 10, 11, 12, 39, 40] (by decide +kernel) (by decide +kernel)
set_option maxRecDepth 20000 in
theorem gX11_element_X10_sizeOf : GoodIn wsX11_element (wsV RX11 159 RX10 yX10_sizeOf wsX10_sizeOf) := goodIn_app (goodIn_of _ (by decide +kernel)) ggX11_element_X10_sizeOf
set_option maxRecDepth 20000 in
theorem ggX11_element_X10_has : GoodIn wsX11_element wsX10_has := goodIn_r _ [16, 17, 4, 5, 6, 7, 8, 9, 10, 11, 12, 39, 40] (by decide +kernel) (by decide +kernel)
set_option maxRecDepth 20000 in
theorem gX11_element_X10_has : GoodIn wsX11_element (wsV RX11 162 RX10 yX10_has wsX10_has) := goodIn_app (goodIn_of _ (by decide +kernel)) ggX11_element_X10_has
set_option maxRecDepth 20000 in
theorem ggX11_element_X10_get : GoodIn wsX11_element wsX10_get := goodIn_r _ [21, 22, 9, 10, 11, 12, 39, 40] (by decide +kernel) (by decide +kernel)
set_option maxRecDepth 20000 in
theorem gX11_element_X10_get : GoodIn wsX11_element (wsV RX11 165 RX10 yX10_get wsX10_get) := goodIn_app (goodIn_of _ (by decide +kernel)) ggX11_element_X10_get
theorem dX11_element_0 : decode cX11_element 0 = .ok (.iload_n 1, 1) := by decide +kernel
theorem dX11_element_1 : decode cX11_element 1 = .ok (.ifCond .lt 8, 3) := by decide +kernel
theorem dX11_element_4 : decode cX11_element 4 = .ok (.iload_n 1, 1) := by decide +kernel
theorem dX11_element_5 : decode cX11_element 5 = .ok (.iconst 4, 1) := by decide +kernel
theorem dX11_element_6 : decode cX11_element 6 = .ok (.if_icmp .lt 6, 3) := by decide +kernel
theorem dX11_element_9 : decode cX11_element 9 = .ok (.bipush (-3), 2) := by decide +kernel
theorem dX11_element_11 : decode cX11_element 11 = .ok (.ireturn, 1) := by decide +kernel
theorem dX11_element_12 : decode cX11_element 12 = .ok (.iload_n 2, 1) := by decide +kernel
theorem dX11_element_13 : decode cX11_element 13 = .ok (.iconst (-1), 1) := by decide +kernel
theorem dX11_element_14 : decode cX11_element 14 = .ok (.if_icmp .ne 15, 3) := by decide +kernel
theorem dX11_element_17 : decode cX11_element 17 = .ok (.aload_n 0, 1) := by decide +kernel
theorem dX11_element_18 : decode cX11_element 18 = .ok (.getfield 53, 3) := by decide +kernel
theorem dX11_element_21 : decode cX11_element 21 = .ok (.getfield 155, 3) := by decide +kernel
theorem dX11_element_24 : decode cX11_element 24 = .ok (.iload_n 1, 1) := by decide +kernel
theorem dX11_element_25 : decode cX11_element 25 = .ok (.invokevirtual 159, 3) := by decide +kernel
theorem dX11_element_28 : decode cX11_element 28 = .ok (.ireturn, 1) := by decide +kernel
theorem dX11_element_29 : decode cX11_element 29 = .ok (.aload_n 0, 1) := by decide +kernel
theorem dX11_element_30 : decode cX11_element 30 = .ok (.getfield 53, 3) := by decide +kernel
theorem dX11_element_33 : decode cX11_element 33 = .ok (.getfield 155, 3) := by decide +kernel
theorem dX11_element_36 : decode cX11_element 36 = .ok (.iload_n 1, 1) := by decide +kernel
theorem dX11_element_37 : decode cX11_element 37 = .ok (.iload_n 2, 1) := by decide +kernel
theorem dX11_element_38 : decode cX11_element 38 = .ok (.invokevirtual 162, 3) := by decide +kernel
theorem dX11_element_41 : decode cX11_element 41 = .ok (.ifCond .eq 18, 3) := by decide +kernel
theorem dX11_element_44 : decode cX11_element 44 = .ok (.aload_n 0, 1) := by decide +kernel
theorem dX11_element_45 : decode cX11_element 45 = .ok (.getfield 53, 3) := by decide +kernel
theorem dX11_element_48 : decode cX11_element 48 = .ok (.getfield 155, 3) := by decide +kernel
theorem dX11_element_51 : decode cX11_element 51 = .ok (.iload_n 1, 1) := by decide +kernel
theorem dX11_element_52 : decode cX11_element 52 = .ok (.iload_n 2, 1) := by decide +kernel
theorem dX11_element_53 : decode cX11_element 53 = .ok (.invokevirtual 165, 3) := by decide +kernel
theorem dX11_element_56 : decode cX11_element 56 = .ok (.goto 4, 3) := by decide +kernel
theorem dX11_element_59 : decode cX11_element 59 = .ok (.iconst (-1), 1) := by decide +kernel
theorem dX11_element_60 : decode cX11_element 60 = .ok (.ireturn, 1) := by decide +kernel
theorem kX11_element_0 : Cond.fieldLink RX11 53 "StepRewriter" "machine" "LStepRewriter$Machine;" ∈ wsX11_element := by decide +kernel
theorem kX11_element_1 : ∀ w ∈ u_ws RX11 TX11 8, w ∈ wsX11_element := by decide +kernel
theorem kX11_element_2 : Cond.fieldLink RX11 155 "StepRewriter$Machine" "arrays" "LStepRewriter$RunArrays;" ∈ wsX11_element := by decide +kernel
theorem kX11_element_3 : ∀ w ∈ u_ws RX6 TX6 8, w ∈ wsX11_element := by decide +kernel
def fX11_element (v0 : Nat) (v1 : Int32) (v2 : Int32) (g : hs_S) : Option (Int32 × hs_S) :=
  if v1 < 0 then (
    some ((-3 : Int32), g)
  ) else (
    if v1 < (4 : Int32) then (
      if v2 = (-1 : Int32) then (
        if hs_kd g v0 = 9 then
        if ¬ (hs_R g v0 7) = 0 then
        if hs_kd g ((hs_R g v0 7) - 1) = 5 then
        if ¬ (hs_R g ((hs_R g v0 7) - 1) 2) = 0 then
        if hs_kd g ((hs_R g ((hs_R g v0 7) - 1) 2) - 1) = 8 then
        hs_bd (fX10_sizeOf ((hs_R g ((hs_R g v0 7) - 1) 2) - 1) v1 g) fun r23 g22 =>
        some (r23, g22)
        else none else none else none else none else none
      ) else (
        if hs_kd g v0 = 9 then
        if ¬ (hs_R g v0 7) = 0 then
        if hs_kd g ((hs_R g v0 7) - 1) = 5 then
        if ¬ (hs_R g ((hs_R g v0 7) - 1) 2) = 0 then
        if hs_kd g ((hs_R g ((hs_R g v0 7) - 1) 2) - 1) = 8 then
        hs_bd (fX10_has ((hs_R g ((hs_R g v0 7) - 1) 2) - 1) v1 v2 g) fun r7 g6 =>
        if r7 = 0 then (
          some ((-1 : Int32), g6)
        ) else (
          if hs_kd g6 v0 = 9 then
          if ¬ (hs_R g6 v0 7) = 0 then
          if hs_kd g6 ((hs_R g6 v0 7) - 1) = 5 then
          if ¬ (hs_R g6 ((hs_R g6 v0 7) - 1) 2) = 0 then
          if hs_kd g6 ((hs_R g6 ((hs_R g6 v0 7) - 1) 2) - 1) = 8 then
          hs_bd (fX10_get ((hs_R g6 ((hs_R g6 v0 7) - 1) 2) - 1) v1 v2 g6) fun r15 g14 =>
          some (r15, g14)
          else none else none else none else none else none
        )
        else none else none else none else none else none
      )
    ) else (
      some ((-3 : Int32), g)
    )
  )
abbrev rmX11_element : Room := { frames := 3, cells := 0, slots := 0, locals := 64 }
set_option maxHeartbeats 4000000 in
set_option maxRecDepth 100000 in
theorem ctX11_element (l : Launch) (B : Nat) (D : va_G) (E : Nat → ClassId) (v0 : Nat) (v1 : Int32) (v2 : Int32) (g : hs_S) (o : Int32 × hs_S) (hf : fX11_element v0 v1 v2 g = some o) : Met l yX11_element wsX11_element rmX11_element (hs_Pc B D E g [.ref (B + v0), .int v1, .int v2]) (hs_Qi B D E o) (0) (0) (hs_F B) := by
  refine Met.ofW (cc := cX11_element) (maxL := 3) (ret := (some .int)) (by decide) rfl ?_
  intro p e s m args below meth c s₁ Bd hml hv
  obtain ⟨rfl, hP, hK⟩ := hv
  have hx := Bd.exec
  have hb := Bd.bytes
  have hr := Bd.returns
  have hts := atoms_spec (ws := wsX11_element) Bd.pre
  have hown : s.vm.findClass RX11 = some m.cls := findClass_of_methodNamed Bd.named
  have hlocks := Bd.notSynchronized
  have hS : hs_Sx B s.heap s.heap [] := va_S.rf
  have hX : hs_cx cX11_element (some .int) 3 RX11 wsX11_element p s m (List.toArray [.ref (B + v0), .int v1, .int v2]) meth c D E := ⟨hx, hb, hr, hml, hown, hts, hlocks, hK⟩
  have hl := lv_entry ([.ref (B + v0), .int v1, .int v2]) (n := 3) (Nat.le_of_ble_eq_true rfl)
  rw [lg_entry_eq]
  generalize (lg_sl ([.ref (B + v0), .int v1, .int v2]) ++ List.replicate (3 - (lg_sl ([.ref (B + v0), .int v1, .int v2])).length) Slot.unset).toArray = ls at hl ⊢
  have hl : lv_has ls 3 [(0, .ref (B + v0)), (1, .int v1), (2, .int v2)] := hl
  have hP : hs_P B D E g s.heap := hP
  unfold fX11_element at hf
  refine lv_iload_n hx hb dX11_element_0 rfl (lv_at hl 1 rfl) ?_
  refine lv_if_lt (tgt := 9) hx hb dX11_element_1 (by decide) (fun hc => ?_) (fun hc => ?_)
  · replace hf := hs_t hf hc
    refine lv_bipush (v := -3) hx hb dX11_element_9 (by decide) ?_
    exact hs_iret hx hb hr hlocks rfl hK hP hS hf dX11_element_11
  · replace hf := hs_f hf hc
    refine lv_iload_n hx hb dX11_element_4 rfl (lv_at hl 1 rfl) ?_
    refine lv_iconst (v := 4) hx hb dX11_element_5 (by decide) ?_
    refine lv_icmp_lt (tgt := 12) hx hb dX11_element_6 (by decide) (fun hc => ?_) (fun hc => ?_)
    · replace hf := hs_t hf hc
      refine lv_iload_n hx hb dX11_element_12 rfl (lv_at hl 2 rfl) ?_
      refine lv_iconst (v := -1) hx hb dX11_element_13 (by decide) ?_
      refine lv_icmp_ne (tgt := 29) hx hb dX11_element_14 (by decide) (fun hc => ?_) (fun hc => ?_)
      · replace hf := hs_f hf hc
        refine lv_aload_n hx hb dX11_element_29 rfl (lv_at hl 0 rfl) ?_
        obtain ⟨h1, hf⟩ := hs_ck hf
        obtain ⟨h2, hf⟩ := hs_ck hf
        refine hs_getr (C := RX11) (T := TX11) (N := 8) hx hb hts kX11_element_1 hown hK.1 hP h1 (by decide) rfl 7 (by decide) (hts _ kX11_element_0) (fun _ h => h) rfl h2 dX11_element_30 ?_
        obtain ⟨h3, hf⟩ := hs_ck hf
        obtain ⟨h4, hf⟩ := hs_ck hf
        refine hs_getr (C := RX6) (T := TX6) (N := 8) hx hb hts kX11_element_3 hown hK.1 hP h3 (by decide) rfl 2 (by decide) (hts _ kX11_element_2) (fun _ h => h) rfl h4 dX11_element_33 ?_
        refine lv_iload_n hx hb dX11_element_36 rfl (lv_at hl 1 rfl) ?_
        refine lv_iload_n hx hb dX11_element_37 rfl (lv_at hl 2 rfl) ?_
        obtain ⟨h5, hf⟩ := hs_ck hf
        obtain ⟨r7, g6, h8, hf⟩ := hs_bd_some hf
        refine hs_calli (va_runV (As := [.int v1, .int v2]) (rest := []) ⟨hx, hb, hml, hown, hts⟩ (ctX10_has l B D E ((hs_R g ((hs_R g v0 7) - 1) 2) - 1) v1 v2 g _ h8) (cwV 2 hts gX11_element_X10_has rfl rfl rfl (by decide +kernel) ⟨Nat.le_of_ble_eq_true rfl, Nat.le_of_ble_eq_true rfl⟩) (hs_preV (r := (RX10, TX10, 2)) hP hK h5 (by decide) rfl) rfl rfl hl.1 rfl (lv_room (Nat.le_of_ble_eq_true rfl)) dX11_element_38 ⟨(Nat.le_of_ble_eq_true rfl), (Nat.le_of_ble_eq_true rfl)⟩) hS (fun H locs hP hS => ?_)
        refine lv_if_eq (tgt := 59) hx hb dX11_element_41 (by decide) (fun hc => ?_) (fun hc => ?_)
        · replace hf := hs_t hf hc
          refine lv_iconst (v := -1) hx hb dX11_element_59 (by decide) ?_
          exact hs_iret hx hb hr hlocks rfl hK hP hS hf dX11_element_60
        · replace hf := hs_f hf hc
          refine lv_aload_n hx hb dX11_element_44 rfl (lv_at hl 0 rfl) ?_
          obtain ⟨h9, hf⟩ := hs_ck hf
          obtain ⟨h10, hf⟩ := hs_ck hf
          refine hs_getr (C := RX11) (T := TX11) (N := 8) hx hb hts kX11_element_1 hown hK.1 hP h9 (by decide) rfl 7 (by decide) (hts _ kX11_element_0) (fun _ h => h) rfl h10 dX11_element_45 ?_
          obtain ⟨h11, hf⟩ := hs_ck hf
          obtain ⟨h12, hf⟩ := hs_ck hf
          refine hs_getr (C := RX6) (T := TX6) (N := 8) hx hb hts kX11_element_3 hown hK.1 hP h11 (by decide) rfl 2 (by decide) (hts _ kX11_element_2) (fun _ h => h) rfl h12 dX11_element_48 ?_
          refine lv_iload_n hx hb dX11_element_51 rfl (lv_at hl 1 rfl) ?_
          refine lv_iload_n hx hb dX11_element_52 rfl (lv_at hl 2 rfl) ?_
          obtain ⟨h13, hf⟩ := hs_ck hf
          obtain ⟨r15, g14, h16, hf⟩ := hs_bd_some hf
          refine hs_calli (va_runV (As := [.int v1, .int v2]) (rest := []) ⟨hx, hb, hml, hown, hts⟩ (ctX10_get l B D E ((hs_R g6 ((hs_R g6 v0 7) - 1) 2) - 1) v1 v2 g6 _ h16) (cwV 2 hts gX11_element_X10_get rfl rfl rfl (by decide +kernel) ⟨Nat.le_of_ble_eq_true rfl, Nat.le_of_ble_eq_true rfl⟩) (hs_preV (r := (RX10, TX10, 2)) hP hK h13 (by decide) rfl) rfl rfl hl.1 rfl (lv_room (Nat.le_of_ble_eq_true rfl)) dX11_element_53 ⟨(Nat.le_of_ble_eq_true rfl), (Nat.le_of_ble_eq_true rfl)⟩) hS (fun H locs hP hS => ?_)
          refine lv_goto (tgt := 60) hx hb dX11_element_56 (by decide) ?_
          exact hs_iret hx hb hr hlocks rfl hK hP hS hf dX11_element_60
      · replace hf := hs_t hf hc
        refine lv_aload_n hx hb dX11_element_17 rfl (lv_at hl 0 rfl) ?_
        obtain ⟨h17, hf⟩ := hs_ck hf
        obtain ⟨h18, hf⟩ := hs_ck hf
        refine hs_getr (C := RX11) (T := TX11) (N := 8) hx hb hts kX11_element_1 hown hK.1 hP h17 (by decide) rfl 7 (by decide) (hts _ kX11_element_0) (fun _ h => h) rfl h18 dX11_element_18 ?_
        obtain ⟨h19, hf⟩ := hs_ck hf
        obtain ⟨h20, hf⟩ := hs_ck hf
        refine hs_getr (C := RX6) (T := TX6) (N := 8) hx hb hts kX11_element_3 hown hK.1 hP h19 (by decide) rfl 2 (by decide) (hts _ kX11_element_2) (fun _ h => h) rfl h20 dX11_element_21 ?_
        refine lv_iload_n hx hb dX11_element_24 rfl (lv_at hl 1 rfl) ?_
        obtain ⟨h21, hf⟩ := hs_ck hf
        obtain ⟨r23, g22, h24, hf⟩ := hs_bd_some hf
        refine hs_calli (va_runV (As := [.int v1]) (rest := []) ⟨hx, hb, hml, hown, hts⟩ (ctX10_sizeOf l B D E ((hs_R g ((hs_R g v0 7) - 1) 2) - 1) v1 g _ h24) (cwV 1 hts gX11_element_X10_sizeOf rfl rfl rfl (by decide +kernel) ⟨Nat.le_of_ble_eq_true rfl, Nat.le_of_ble_eq_true rfl⟩) (hs_preV (r := (RX10, TX10, 2)) hP hK h21 (by decide) rfl) rfl rfl hl.1 rfl (lv_room (Nat.le_of_ble_eq_true rfl)) dX11_element_25 ⟨(Nat.le_of_ble_eq_true rfl), (Nat.le_of_ble_eq_true rfl)⟩) hS (fun H locs hP hS => ?_)
        exact hs_iret hx hb hr hlocks rfl hK hP hS hf dX11_element_28
    · replace hf := hs_f hf hc
      refine lv_bipush (v := -3) hx hb dX11_element_9 (by decide) ?_
      exact hs_iret hx hb hr hlocks rfl hK hP hS hf dX11_element_11

set_option maxRecDepth 20000 in
theorem ggX11_unwrite_X0_empty : GoodIn wsX11_unwrite wsX0_empty := goodIn_r _ [10, 11, 12, 373, 374, 375, 376, 377] (by decide +kernel) (by decide +kernel)
set_option maxRecDepth 20000 in
theorem gX11_unwrite_X0_empty : GoodIn wsX11_unwrite (wsV RX11 68 RX0 yX0_empty wsX0_empty) := goodIn_app (goodIn_of _ (by decide +kernel)) ggX11_unwrite_X0_empty
set_option maxRecDepth 20000 in
theorem ggX11_unwrite_X0_append : GoodIn wsX11_unwrite wsX0_append := goodIn_r _ [16, 11, 17, 18, 19, 20, 21, 373, 374, 375, 376, 377] (by decide +kernel) (by decide +kernel)
set_option maxRecDepth 20000 in
theorem gX11_unwrite_X0_append : GoodIn wsX11_unwrite (wsV RX11 61 RX0 yX0_append wsX0_append) := goodIn_app (goodIn_of _ (by decide +kernel)) ggX11_unwrite_X0_append
set_option maxRecDepth 20000 in
theorem ggX11_unwrite_X0_method : GoodIn wsX11_unwrite wsX0_method := goodIn_r _ [25, 26, 27, 373, 374, 375, 376, 377] (by decide +kernel) (by decide +kernel)
set_option maxRecDepth 20000 in
theorem gX11_unwrite_X0_method : GoodIn wsX11_unwrite (wsV RX11 87 RX0 yX0_method wsX0_method) := goodIn_app (goodIn_of _ (by decide +kernel)) ggX11_unwrite_X0_method
set_option maxRecDepth 20000 in
theorem ggX11_unwrite_X11_unwriteMethod : GoodIn wsX11_unwrite wsX11_unwriteMethod := goodIn_r _ [32, 33, 34, 3, 35, 36, 37, 38, 39, 40, 41, 42, 43, 44, 45, 46, 47, 48, 49, 50, 51, 52, 53, 54, 55, 56, 57, 58, 59, 60, 61, 62, 63, 64, 65, 66, 67, 68, 69, 70, 71, 72, 73, 74, 75, 76, 77, 78, 79, 80, 81, 82, 83, 84, 85, 86, 87, 20, 88, 89, 19, 21, 90, 91, 92, 93, 94, 95, 96, 97, 98, 99, 100, 101, 102, 103, 104, 105, 106, 107, 108, 109, 110, 111, 112, 113, 114, 115, 116, 117, 118, 119, 120, 121, 122, 123, 124, 125, 126, 127, 128, 129, 130, 131, 132, 133, 134, 135, 136, 137, 138, 139, 140, 141, 142, 143, 144, 145, 146, 147, 148, 149, 150, 151, 152, 13, 14, 15, 9, 16, 11, 17, 18, 153, 154, 155, 156, 157, 158, 159, 160, 161, 162, 163, 164, 165, 166, 167, 168, 169, 170, 171, 172, 173, 174, 175, 176, 177, 178, 179, 180, 181, 182, 183, 184, 185, 186, 187, 188, 189, 190, 191, 192, 193, 194, 195, 196, 197, 198, 199, 200, 201, 202, 203, 204, 205, 206, 207, 208, 209, 210, 211, 212, 213, 214, 365, 366, 367, 368, 369, 370, 371, 372, 378, 379, 380, 381, 382, 383, 384, 385, 386, 387, 388, 389, 390, 391, 392, 393, 394, 373, 374, 375, 376, 377] (by decide +kernel) (by decide +kernel)
set_option maxRecDepth 20000 in
theorem gX11_unwrite_X11_unwriteMethod : GoodIn wsX11_unwrite (wsV RX11 168 RX11 yX11_unwriteMethod wsX11_unwriteMethod) := goodIn_app (goodIn_of _ (by decide +kernel)) ggX11_unwrite_X11_unwriteMethod
set_option maxRecDepth 20000 in
theorem ggX11_unwrite_X2_firstWrong : GoodIn wsX11_unwrite wsX2_firstWrong := goodIn_r _ [219, 220, 221, 222, 223, 224, 225, 9, 226, 11, 17, 227, 87, 20, 88, 228, 23, 24, 25, 26, 27, 229, 230, 231, 218, 232, 233, 168, 169, 58, 170, 61, 66, 171, 172, 173, 174, 175, 176, 177, 234, 235, 236, 237, 238, 239, 240, 241, 242, 243, 244, 245, 246, 247, 248, 249, 250, 251, 252, 253, 254, 255, 256, 257, 258, 259, 260, 261, 262, 263, 264, 265, 194, 195, 196, 76, 77, 78, 79, 60, 62, 63, 64, 65, 197, 122, 116, 123, 124, 125, 126, 118, 119, 120, 127, 128, 129, 266, 267, 268, 269, 270, 271, 272, 273, 274, 12, 275, 276, 277, 278, 279, 280, 281, 282, 283, 284, 73, 74, 75, 285, 210, 211, 212, 207, 213, 19, 21, 286, 287, 288, 289, 290, 141, 142, 143, 72, 144, 115, 117, 291, 150, 151, 152, 292, 293, 294, 295, 296, 297, 298, 299, 300, 204, 205, 206, 208, 301, 56, 57, 59, 302, 303, 304, 305, 306, 307, 308, 309, 310, 311, 312, 313, 314, 315, 316, 317, 318, 319, 320, 52, 53, 54, 321, 322, 323, 324, 325, 326, 327, 328, 329, 330, 331, 332, 333, 334, 335, 336, 337, 338, 339, 340, 341, 342, 343, 344, 345, 346, 347, 348, 349, 350, 351, 352, 353, 354, 355, 356, 357, 358, 373, 374, 375, 376, 377, 395, 378, 379, 380, 381, 382, 383, 384, 385, 386, 387, 388, 396, 397, 398] (by decide +kernel) (by decide +kernel)
set_option maxRecDepth 20000 in
theorem gX11_unwrite_X2_firstWrong : GoodIn wsX11_unwrite (wsV RX11 64 RX2 yX2_firstWrong wsX2_firstWrong) := goodIn_app (goodIn_of _ (by decide +kernel)) ggX11_unwrite_X2_firstWrong
set_option maxRecDepth 20000 in
theorem ggX11_unwrite_X0_codeBytes : GoodIn wsX11_unwrite wsX0_codeBytes := goodIn_r _ [362, 12, 363, 364, 23, 24, 9, 25, 26, 27, 373, 374, 375, 376, 377, 378, 379, 380, 381, 382, 383, 384, 385, 386, 387, 388] (by decide +kernel) (by decide +kernel)
set_option maxRecDepth 20000 in
theorem gX11_unwrite_X0_codeBytes : GoodIn wsX11_unwrite (wsV RX11 99 RX0 yX0_codeBytes wsX0_codeBytes) := goodIn_app (goodIn_of _ (by decide +kernel)) ggX11_unwrite_X0_codeBytes
theorem dX11_unwrite_0 : decode cX11_unwrite 0 = .ok (.aload_n 0, 1) := by decide +kernel
theorem dX11_unwrite_1 : decode cX11_unwrite 1 = .ok (.getfield 24, 3) := by decide +kernel
theorem dX11_unwrite_4 : decode cX11_unwrite 4 = .ok (.getfield 71, 3) := by decide +kernel
theorem dX11_unwrite_7 : decode cX11_unwrite 7 = .ok (.ifCond .ne 6, 3) := by decide +kernel
theorem dX11_unwrite_10 : decode cX11_unwrite 10 = .ok (.bipush (-2), 2) := by decide +kernel
theorem dX11_unwrite_12 : decode cX11_unwrite 12 = .ok (.ireturn, 1) := by decide +kernel
theorem dX11_unwrite_13 : decode cX11_unwrite 13 = .ok (.aload_n 0, 1) := by decide +kernel
theorem dX11_unwrite_14 : decode cX11_unwrite 14 = .ok (.getfield 21, 3) := by decide +kernel
theorem dX11_unwrite_17 : decode cX11_unwrite 17 = .ok (.invokevirtual 68, 3) := by decide +kernel
theorem dX11_unwrite_20 : decode cX11_unwrite 20 = .ok (.aload_n 0, 1) := by decide +kernel
theorem dX11_unwrite_21 : decode cX11_unwrite 21 = .ok (.getfield 21, 3) := by decide +kernel
theorem dX11_unwrite_24 : decode cX11_unwrite 24 = .ok (.aload_n 0, 1) := by decide +kernel
theorem dX11_unwrite_25 : decode cX11_unwrite 25 = .ok (.getfield 18, 3) := by decide +kernel
theorem dX11_unwrite_28 : decode cX11_unwrite 28 = .ok (.getfield 71, 3) := by decide +kernel
theorem dX11_unwrite_31 : decode cX11_unwrite 31 = .ok (.invokevirtual 61, 3) := by decide +kernel
theorem dX11_unwrite_34 : decode cX11_unwrite 34 = .ok (.iconst 0, 1) := by decide +kernel
theorem dX11_unwrite_35 : decode cX11_unwrite 35 = .ok (.istore_n 1, 1) := by decide +kernel
theorem dX11_unwrite_36 : decode cX11_unwrite 36 = .ok (.iload_n 1, 1) := by decide +kernel
theorem dX11_unwrite_37 : decode cX11_unwrite 37 = .ok (.aload_n 0, 1) := by decide +kernel
theorem dX11_unwrite_38 : decode cX11_unwrite 38 = .ok (.getfield 18, 3) := by decide +kernel
theorem dX11_unwrite_41 : decode cX11_unwrite 41 = .ok (.getfield 71, 3) := by decide +kernel
theorem dX11_unwrite_44 : decode cX11_unwrite 44 = .ok (.if_icmp .ge 29, 3) := by decide +kernel
theorem dX11_unwrite_47 : decode cX11_unwrite 47 = .ok (.aload_n 0, 1) := by decide +kernel
theorem dX11_unwrite_48 : decode cX11_unwrite 48 = .ok (.aload_n 0, 1) := by decide +kernel
theorem dX11_unwrite_49 : decode cX11_unwrite 49 = .ok (.getfield 18, 3) := by decide +kernel
theorem dX11_unwrite_52 : decode cX11_unwrite 52 = .ok (.iload_n 1, 1) := by decide +kernel
theorem dX11_unwrite_53 : decode cX11_unwrite 53 = .ok (.invokevirtual 87, 3) := by decide +kernel
theorem dX11_unwrite_56 : decode cX11_unwrite 56 = .ok (.aload_n 0, 1) := by decide +kernel
theorem dX11_unwrite_57 : decode cX11_unwrite 57 = .ok (.getfield 21, 3) := by decide +kernel
theorem dX11_unwrite_60 : decode cX11_unwrite 60 = .ok (.iload_n 1, 1) := by decide +kernel
theorem dX11_unwrite_61 : decode cX11_unwrite 61 = .ok (.invokevirtual 87, 3) := by decide +kernel
theorem dX11_unwrite_64 : decode cX11_unwrite 64 = .ok (.invokevirtual 168, 3) := by decide +kernel
theorem dX11_unwrite_67 : decode cX11_unwrite 67 = .ok (.iinc 1 1, 3) := by decide +kernel
theorem dX11_unwrite_70 : decode cX11_unwrite 70 = .ok (.goto (-34), 3) := by decide +kernel
theorem dX11_unwrite_73 : decode cX11_unwrite 73 = .ok (.aload_n 0, 1) := by decide +kernel
theorem dX11_unwrite_74 : decode cX11_unwrite 74 = .ok (.getfield 37, 3) := by decide +kernel
theorem dX11_unwrite_77 : decode cX11_unwrite 77 = .ok (.aload_n 0, 1) := by decide +kernel
theorem dX11_unwrite_78 : decode cX11_unwrite 78 = .ok (.getfield 21, 3) := by decide +kernel
theorem dX11_unwrite_81 : decode cX11_unwrite 81 = .ok (.invokevirtual 64, 3) := by decide +kernel
theorem dX11_unwrite_84 : decode cX11_unwrite 84 = .ok (.pop, 1) := by decide +kernel
theorem dX11_unwrite_85 : decode cX11_unwrite 85 = .ok (.aload_n 0, 1) := by decide +kernel
theorem dX11_unwrite_86 : decode cX11_unwrite 86 = .ok (.getfield 18, 3) := by decide +kernel
theorem dX11_unwrite_89 : decode cX11_unwrite 89 = .ok (.astore_n 1, 1) := by decide +kernel
theorem dX11_unwrite_90 : decode cX11_unwrite 90 = .ok (.aload_n 0, 1) := by decide +kernel
theorem dX11_unwrite_91 : decode cX11_unwrite 91 = .ok (.aload_n 0, 1) := by decide +kernel
theorem dX11_unwrite_92 : decode cX11_unwrite 92 = .ok (.getfield 21, 3) := by decide +kernel
theorem dX11_unwrite_95 : decode cX11_unwrite 95 = .ok (.putfield 18, 3) := by decide +kernel
theorem dX11_unwrite_98 : decode cX11_unwrite 98 = .ok (.aload_n 0, 1) := by decide +kernel
theorem dX11_unwrite_99 : decode cX11_unwrite 99 = .ok (.aload_n 1, 1) := by decide +kernel
theorem dX11_unwrite_100 : decode cX11_unwrite 100 = .ok (.putfield 21, 3) := by decide +kernel
theorem dX11_unwrite_103 : decode cX11_unwrite 103 = .ok (.aload_n 0, 1) := by decide +kernel
theorem dX11_unwrite_104 : decode cX11_unwrite 104 = .ok (.getfield 18, 3) := by decide +kernel
theorem dX11_unwrite_107 : decode cX11_unwrite 107 = .ok (.invokevirtual 99, 3) := by decide +kernel
theorem dX11_unwrite_110 : decode cX11_unwrite 110 = .ok (.ireturn, 1) := by decide +kernel
theorem kX11_unwrite_0 : Cond.fieldLink RX11 24 "StepRewriter" "rewritten" "LStepRewriter$CodeSet;" ∈ wsX11_unwrite := by decide +kernel
theorem kX11_unwrite_1 : ∀ w ∈ u_ws RX11 TX11 8, w ∈ wsX11_unwrite := by decide +kernel
theorem kX11_unwrite_2 : Cond.fieldLink RX11 71 "StepRewriter$CodeSet" "count" "I" ∈ wsX11_unwrite := by decide +kernel
theorem kX11_unwrite_3 : ∀ w ∈ u_ws RX0 TX0 5, w ∈ wsX11_unwrite := by decide +kernel
theorem kX11_unwrite_4 : Cond.fieldLink RX11 21 "StepRewriter" "spare" "LStepRewriter$CodeSet;" ∈ wsX11_unwrite := by decide +kernel
theorem kX11_unwrite_5 : Cond.fieldLink RX11 18 "StepRewriter" "file" "LStepRewriter$CodeSet;" ∈ wsX11_unwrite := by decide +kernel
theorem kX11_unwrite_6 : Cond.fieldLink RX11 37 "StepRewriter" "check" "LStepRewriter$FormCheck;" ∈ wsX11_unwrite := by decide +kernel
def lX11_unwrite_36 : Nat → Nat → Int32 → hs_S → Option (hs_S)
  | 0, _, _, _ => none
  | n + 1, v0, v1, g =>
    if hs_kd g v0 = 9 then
    if ¬ (hs_R g v0 1) = 0 then
    if hs_kd g ((hs_R g v0 1) - 1) = 0 then
    if (hs_I g ((hs_R g v0 1) - 1) 4) ≤ v1 then (
      some g
    ) else (
      hs_bd (fX0_method ((hs_R g v0 1) - 1) v1 g) fun r21 g20 =>
      if hs_kd g20 v0 = 9 then
      if ¬ (hs_R g20 v0 2) = 0 then
      if hs_kd g20 ((hs_R g20 v0 2) - 1) = 0 then
      hs_bd (fX0_method ((hs_R g20 v0 2) - 1) v1 g20) fun r27 g26 =>
      if hs_kd g26 v0 = 9 then
      hs_bv ((none : Option (hs_S))) fun g30 =>
      none
      else none else none else none else none
    )
    else none else none else none
theorem lX11_unwrite_36_s (n : Nat) (v0 : Nat) (v1 : Int32) (g : hs_S) : lX11_unwrite_36 (n + 1) v0 v1 g =
    if hs_kd g v0 = 9 then
    if ¬ (hs_R g v0 1) = 0 then
    if hs_kd g ((hs_R g v0 1) - 1) = 0 then
    if (hs_I g ((hs_R g v0 1) - 1) 4) ≤ v1 then (
      some g
    ) else (
      hs_bd (fX0_method ((hs_R g v0 1) - 1) v1 g) fun r21 g20 =>
      if hs_kd g20 v0 = 9 then
      if ¬ (hs_R g20 v0 2) = 0 then
      if hs_kd g20 ((hs_R g20 v0 2) - 1) = 0 then
      hs_bd (fX0_method ((hs_R g20 v0 2) - 1) v1 g20) fun r27 g26 =>
      if hs_kd g26 v0 = 9 then
      hs_bv ((none : Option (hs_S))) fun g30 =>
      none
      else none else none else none else none
    )
    else none else none else none := rfl
def fX11_unwrite (v0 : Nat) (g : hs_S) : Option (Int32 × hs_S) :=
  if hs_kd g v0 = 9 then
  if ¬ (hs_R g v0 3) = 0 then
  if hs_kd g ((hs_R g v0 3) - 1) = 0 then
  if (hs_I g ((hs_R g v0 3) - 1) 4) = 0 then (
    some ((-2 : Int32), g)
  ) else (
    if ¬ (hs_R g v0 2) = 0 then
    if hs_kd g ((hs_R g v0 2) - 1) = 0 then
    hs_bv (fX0_empty ((hs_R g v0 2) - 1) g) fun g6 =>
    if hs_kd g6 v0 = 9 then
    if ¬ (hs_R g6 v0 2) = 0 then
    if ¬ (hs_R g6 v0 1) = 0 then
    if hs_kd g6 ((hs_R g6 v0 1) - 1) = 0 then
    if hs_kd g6 ((hs_R g6 v0 2) - 1) = 0 then
    hs_bv (fX0_append ((hs_R g6 v0 2) - 1) (hs_I g6 ((hs_R g6 v0 1) - 1) 4) g6) fun g14 =>
    hs_bv (lX11_unwrite_36 hs_N v0 (0 : Int32) g14) fun g34 =>
    if hs_kd g34 v0 = 9 then
    if ¬ (hs_R g34 v0 5) = 0 then
    if ¬ (hs_R g34 v0 2) = 0 then
    if hs_kd g34 ((hs_R g34 v0 5) - 1) = 2 then
    hs_bd (fX2_firstWrong ((hs_R g34 v0 5) - 1) ((hs_R g34 v0 2) - 1) g34) fun r41 g40 =>
    if hs_kd g40 v0 = 9 then
    if ¬ (hs_R g40 v0 1) = 0 then
    if ¬ (hs_R g40 v0 2) = 0 then
    if ¬ (hs_R (hs_wR (hs_wR g40 v0 1 ((hs_R g40 v0 2) - 1)) v0 2 ((hs_R g40 v0 1) - 1)) v0 1) = 0 then
    if hs_kd (hs_wR (hs_wR g40 v0 1 ((hs_R g40 v0 2) - 1)) v0 2 ((hs_R g40 v0 1) - 1)) ((hs_R (hs_wR (hs_wR g40 v0 1 ((hs_R g40 v0 2) - 1)) v0 2 ((hs_R g40 v0 1) - 1)) v0 1) - 1) = 0 then
    hs_bd ((none : Option (Int32 × hs_S))) fun r49 g48 =>
    none
    else none else none else none else none else none else none else none else none else none else none else none else none else none else none else none else none
  )
  else none else none else none
abbrev rmX11_unwrite : Room := { frames := 7, cells := 0, slots := 0, locals := 167 }
set_option maxHeartbeats 4000000 in
set_option maxRecDepth 100000 in
theorem wX11_unwrite_36 {p : Program} {l : Launch} {e : Env} {s : State} {m : MethodId} {args : Array Value} {below : List Frame} {meth : Method} {c : Code} {B : Nat} {D : va_G} {E : Nat → ClassId} (hX : hs_cx cX11_unwrite (some .int) 2 RX11 wsX11_unwrite p s m args meth c D E) {Q : State → Prop} {o : hs_S} {v0 : Nat} (hex0 : ∀ (H : Heap) (locs : List Loc) (ls : Array Slot), hs_P B D E (o) H → hs_Sx B s.heap H locs → lv_has ls 2 [(0, .ref (B + v0))] → W p l e rmX11_unwrite s m args below meth c H locs 0 0 Q (F0 m 73 ls [])) : ∀ (n : Nat) (v1 : Int32) (g : hs_S), lX11_unwrite_36 n v0 v1 g = some o → ∀ (H : Heap) (locs : List Loc) (ls : Array Slot), hs_P B D E g H → hs_Sx B s.heap H locs → lv_has ls 2 [(0, .ref (B + v0)), (1, .int v1)] → W p l e rmX11_unwrite s m args below meth c H locs 0 0 Q (F0 m 36 ls []) := by
  obtain ⟨hx, hb, hr, hml, hown, hts, hlocks, hK⟩ := id hX
  intro n
  induction n with
  | zero =>
    intro v1 g hf
    cases hf
  | succ n ih =>
    intro v1 g hf H locs ls hP hS hl
    replace hf := (lX11_unwrite_36_s n v0 v1 g).symm.trans hf
    refine lv_iload_n hx hb dX11_unwrite_36 rfl (lv_at hl 1 rfl) ?_
    refine lv_aload_n hx hb dX11_unwrite_37 rfl (lv_at hl 0 rfl) ?_
    obtain ⟨h17, hf⟩ := hs_ck hf
    obtain ⟨h18, hf⟩ := hs_ck hf
    refine hs_getr (C := RX11) (T := TX11) (N := 8) hx hb hts kX11_unwrite_1 hown hK.1 hP h17 (by decide) rfl 1 (by decide) (hts _ kX11_unwrite_5) (fun _ h => h) rfl h18 dX11_unwrite_38 ?_
    obtain ⟨h19, hf⟩ := hs_ck hf
    refine hs_geti (C := RX0) (T := TX0) (N := 5) hx hb hts kX11_unwrite_3 hown hK.1 hP h19 (by decide) rfl 4 (by decide) (hts _ kX11_unwrite_2) (fun _ h => h) rfl dX11_unwrite_41 ?_
    refine lv_icmp_ge (tgt := 73) hx hb dX11_unwrite_44 (by decide) (fun hc => ?_) (fun hc => ?_)
    · replace hf := hs_t hf hc
      obtain rfl := Option.some.inj hf
      exact hex0 _ _ _ hP hS (lv_sub hl [0] rfl)
    · replace hf := hs_f hf hc
      refine lv_aload_n hx hb dX11_unwrite_47 rfl (lv_at hl 0 rfl) ?_
      refine lv_aload_n hx hb dX11_unwrite_48 rfl (lv_at hl 0 rfl) ?_
      refine hs_getr (C := RX11) (T := TX11) (N := 8) hx hb hts kX11_unwrite_1 hown hK.1 hP h17 (by decide) rfl 1 (by decide) (hts _ kX11_unwrite_5) (fun _ h => h) rfl h18 dX11_unwrite_49 ?_
      refine lv_iload_n hx hb dX11_unwrite_52 rfl (lv_at hl 1 rfl) ?_
      obtain ⟨r21, g20, h22, hf⟩ := hs_bd_some hf
      refine hs_callr (va_runV (As := [.int v1]) (rest := [.ref (B + v0)]) ⟨hx, hb, hml, hown, hts⟩ (ctX0_method l B D E ((hs_R g v0 1) - 1) v1 g _ h22) (cwV 1 hts gX11_unwrite_X0_method rfl rfl rfl (by decide +kernel) ⟨Nat.le_of_ble_eq_true rfl, Nat.le_of_ble_eq_true rfl⟩) (hs_preV (r := (RX0, TX0, 5)) hP hK h19 (by decide) rfl) rfl rfl hl.1 rfl (lv_room (Nat.le_of_ble_eq_true rfl)) dX11_unwrite_53 ⟨(Nat.le_of_ble_eq_true rfl), (Nat.le_of_ble_eq_true rfl)⟩) hS (fun H locs hP hS => ?_)
      refine lv_aload_n hx hb dX11_unwrite_56 rfl (lv_at hl 0 rfl) ?_
      obtain ⟨h23, hf⟩ := hs_ck hf
      obtain ⟨h24, hf⟩ := hs_ck hf
      refine hs_getr (C := RX11) (T := TX11) (N := 8) hx hb hts kX11_unwrite_1 hown hK.1 hP h23 (by decide) rfl 2 (by decide) (hts _ kX11_unwrite_4) (fun _ h => h) rfl h24 dX11_unwrite_57 ?_
      refine lv_iload_n hx hb dX11_unwrite_60 rfl (lv_at hl 1 rfl) ?_
      obtain ⟨h25, hf⟩ := hs_ck hf
      obtain ⟨r27, g26, h28, hf⟩ := hs_bd_some hf
      refine hs_callr (va_runV (As := [.int v1]) (rest := [.ref (B + r21), .ref (B + v0)]) ⟨hx, hb, hml, hown, hts⟩ (ctX0_method l B D E ((hs_R g20 v0 2) - 1) v1 g20 _ h28) (cwV 1 hts gX11_unwrite_X0_method rfl rfl rfl (by decide +kernel) ⟨Nat.le_of_ble_eq_true rfl, Nat.le_of_ble_eq_true rfl⟩) (hs_preV (r := (RX0, TX0, 5)) hP hK h25 (by decide) rfl) rfl rfl hl.1 rfl (lv_room (Nat.le_of_ble_eq_true rfl)) dX11_unwrite_61 ⟨(Nat.le_of_ble_eq_true rfl), (Nat.le_of_ble_eq_true rfl)⟩) hS (fun H locs hP hS => ?_)
      obtain ⟨h29, hf⟩ := hs_ck hf
      obtain ⟨g30, h32, hf⟩ := hs_bv_some hf
      cases h32

set_option maxHeartbeats 4000000 in
set_option maxRecDepth 100000 in
theorem ctX11_unwrite (l : Launch) (B : Nat) (D : va_G) (E : Nat → ClassId) (v0 : Nat) (g : hs_S) (o : Int32 × hs_S) (hf : fX11_unwrite v0 g = some o) : Met l yX11_unwrite wsX11_unwrite rmX11_unwrite (hs_Pc B D E g [.ref (B + v0)]) (hs_Qi B D E o) (0) (0) (hs_F B) := by
  refine Met.ofW (cc := cX11_unwrite) (maxL := 2) (ret := (some .int)) (by decide) rfl ?_
  intro p e s m args below meth c s₁ Bd hml hv
  obtain ⟨rfl, hP, hK⟩ := hv
  have hx := Bd.exec
  have hb := Bd.bytes
  have hr := Bd.returns
  have hts := atoms_spec (ws := wsX11_unwrite) Bd.pre
  have hown : s.vm.findClass RX11 = some m.cls := findClass_of_methodNamed Bd.named
  have hlocks := Bd.notSynchronized
  have hS : hs_Sx B s.heap s.heap [] := va_S.rf
  have hX : hs_cx cX11_unwrite (some .int) 2 RX11 wsX11_unwrite p s m (List.toArray [.ref (B + v0)]) meth c D E := ⟨hx, hb, hr, hml, hown, hts, hlocks, hK⟩
  have hl := lv_entry ([.ref (B + v0)]) (n := 2) (Nat.le_of_ble_eq_true rfl)
  rw [lg_entry_eq]
  generalize (lg_sl ([.ref (B + v0)]) ++ List.replicate (2 - (lg_sl ([.ref (B + v0)])).length) Slot.unset).toArray = ls at hl ⊢
  have hl : lv_has ls 2 [(0, .ref (B + v0))] := hl
  have hP : hs_P B D E g s.heap := hP
  unfold fX11_unwrite at hf
  refine lv_aload_n hx hb dX11_unwrite_0 rfl (lv_at hl 0 rfl) ?_
  obtain ⟨h1, hf⟩ := hs_ck hf
  obtain ⟨h2, hf⟩ := hs_ck hf
  refine hs_getr (C := RX11) (T := TX11) (N := 8) hx hb hts kX11_unwrite_1 hown hK.1 hP h1 (by decide) rfl 3 (by decide) (hts _ kX11_unwrite_0) (fun _ h => h) rfl h2 dX11_unwrite_1 ?_
  obtain ⟨h3, hf⟩ := hs_ck hf
  refine hs_geti (C := RX0) (T := TX0) (N := 5) hx hb hts kX11_unwrite_3 hown hK.1 hP h3 (by decide) rfl 4 (by decide) (hts _ kX11_unwrite_2) (fun _ h => h) rfl dX11_unwrite_4 ?_
  refine lv_if_ne (tgt := 13) hx hb dX11_unwrite_7 (by decide) (fun hc => ?_) (fun hc => ?_)
  · replace hf := hs_f hf hc
    refine lv_aload_n hx hb dX11_unwrite_13 rfl (lv_at hl 0 rfl) ?_
    obtain ⟨h4, hf⟩ := hs_ck hf
    refine hs_getr (C := RX11) (T := TX11) (N := 8) hx hb hts kX11_unwrite_1 hown hK.1 hP h1 (by decide) rfl 2 (by decide) (hts _ kX11_unwrite_4) (fun _ h => h) rfl h4 dX11_unwrite_14 ?_
    obtain ⟨h5, hf⟩ := hs_ck hf
    obtain ⟨g6, h8, hf⟩ := hs_bv_some hf
    refine hs_callv (va_runV (As := []) (rest := []) ⟨hx, hb, hml, hown, hts⟩ (ctX0_empty l B D E ((hs_R g v0 2) - 1) g _ h8) (cwV 0 hts gX11_unwrite_X0_empty rfl rfl rfl (by decide +kernel) ⟨Nat.le_of_ble_eq_true rfl, Nat.le_of_ble_eq_true rfl⟩) (hs_preV (r := (RX0, TX0, 5)) hP hK h5 (by decide) rfl) rfl rfl hl.1 rfl (lv_room (Nat.le_of_ble_eq_true rfl)) dX11_unwrite_17 ⟨(Nat.le_of_ble_eq_true rfl), (Nat.le_of_ble_eq_true rfl)⟩) hS (fun H locs hP hS => ?_)
    refine lv_aload_n hx hb dX11_unwrite_20 rfl (lv_at hl 0 rfl) ?_
    obtain ⟨h9, hf⟩ := hs_ck hf
    obtain ⟨h10, hf⟩ := hs_ck hf
    refine hs_getr (C := RX11) (T := TX11) (N := 8) hx hb hts kX11_unwrite_1 hown hK.1 hP h9 (by decide) rfl 2 (by decide) (hts _ kX11_unwrite_4) (fun _ h => h) rfl h10 dX11_unwrite_21 ?_
    refine lv_aload_n hx hb dX11_unwrite_24 rfl (lv_at hl 0 rfl) ?_
    obtain ⟨h11, hf⟩ := hs_ck hf
    refine hs_getr (C := RX11) (T := TX11) (N := 8) hx hb hts kX11_unwrite_1 hown hK.1 hP h9 (by decide) rfl 1 (by decide) (hts _ kX11_unwrite_5) (fun _ h => h) rfl h11 dX11_unwrite_25 ?_
    obtain ⟨h12, hf⟩ := hs_ck hf
    refine hs_geti (C := RX0) (T := TX0) (N := 5) hx hb hts kX11_unwrite_3 hown hK.1 hP h12 (by decide) rfl 4 (by decide) (hts _ kX11_unwrite_2) (fun _ h => h) rfl dX11_unwrite_28 ?_
    obtain ⟨h13, hf⟩ := hs_ck hf
    obtain ⟨g14, h16, hf⟩ := hs_bv_some hf
    refine hs_callv (va_runV (As := [.int (hs_I g6 ((hs_R g6 v0 1) - 1) 4)]) (rest := []) ⟨hx, hb, hml, hown, hts⟩ (ctX0_append l B D E ((hs_R g6 v0 2) - 1) (hs_I g6 ((hs_R g6 v0 1) - 1) 4) g6 _ h16) (cwV 1 hts gX11_unwrite_X0_append rfl rfl rfl (by decide +kernel) ⟨Nat.le_of_ble_eq_true rfl, Nat.le_of_ble_eq_true rfl⟩) (hs_preV (r := (RX0, TX0, 5)) hP hK h13 (by decide) rfl) rfl rfl hl.1 rfl (lv_room (Nat.le_of_ble_eq_true rfl)) dX11_unwrite_31 ⟨(Nat.le_of_ble_eq_true rfl), (Nat.le_of_ble_eq_true rfl)⟩) hS (fun H locs hP hS => ?_)
    refine lv_iconst (v := 0) hx hb dX11_unwrite_34 (by decide) ?_
    refine lv_istore_n (lv' := [(1, .int (0 : Int32)), (0, .ref (B + v0))]) hx hb dX11_unwrite_35 rfl hl (by decide) rfl (fun ls hl => ?_)
    obtain ⟨g34, h35, hf⟩ := hs_bv_some hf
    refine wX11_unwrite_36 hX (fun H locs ls hP hS hl => ?_) hs_N _ _ h35 _ _ _ hP hS (lv_sub hl [1, 0] rfl)
    refine lv_aload_n hx hb dX11_unwrite_73 rfl (lv_at hl 0 rfl) ?_
    obtain ⟨h36, hf⟩ := hs_ck hf
    obtain ⟨h37, hf⟩ := hs_ck hf
    refine hs_getr (C := RX11) (T := TX11) (N := 8) hx hb hts kX11_unwrite_1 hown hK.1 hP h36 (by decide) rfl 5 (by decide) (hts _ kX11_unwrite_6) (fun _ h => h) rfl h37 dX11_unwrite_74 ?_
    refine lv_aload_n hx hb dX11_unwrite_77 rfl (lv_at hl 0 rfl) ?_
    obtain ⟨h38, hf⟩ := hs_ck hf
    refine hs_getr (C := RX11) (T := TX11) (N := 8) hx hb hts kX11_unwrite_1 hown hK.1 hP h36 (by decide) rfl 2 (by decide) (hts _ kX11_unwrite_4) (fun _ h => h) rfl h38 dX11_unwrite_78 ?_
    obtain ⟨h39, hf⟩ := hs_ck hf
    obtain ⟨r41, g40, h42, hf⟩ := hs_bd_some hf
    refine hs_calli (va_runV (As := [.ref (B + ((hs_R g34 v0 2) - 1))]) (rest := []) ⟨hx, hb, hml, hown, hts⟩ (ctX2_firstWrong l B D E ((hs_R g34 v0 5) - 1) ((hs_R g34 v0 2) - 1) g34 _ h42) (cwV 1 hts gX11_unwrite_X2_firstWrong rfl rfl rfl (by decide +kernel) ⟨Nat.le_of_ble_eq_true rfl, Nat.le_of_ble_eq_true rfl⟩) (hs_preV (r := (RX2, TX2, 1)) hP hK h39 (by decide) rfl) rfl rfl hl.1 rfl (lv_room (Nat.le_of_ble_eq_true rfl)) dX11_unwrite_81 ⟨(Nat.le_of_ble_eq_true rfl), (Nat.le_of_ble_eq_true rfl)⟩) hS (fun H locs hP hS => ?_)
    refine lv_pop hx hb dX11_unwrite_84 rfl ?_
    refine lv_aload_n hx hb dX11_unwrite_85 rfl (lv_at hl 0 rfl) ?_
    obtain ⟨h43, hf⟩ := hs_ck hf
    obtain ⟨h44, hf⟩ := hs_ck hf
    refine hs_getr (C := RX11) (T := TX11) (N := 8) hx hb hts kX11_unwrite_1 hown hK.1 hP h43 (by decide) rfl 1 (by decide) (hts _ kX11_unwrite_5) (fun _ h => h) rfl h44 dX11_unwrite_86 ?_
    refine lv_astore_n (lv' := [(1, .ref (B + ((hs_R g40 v0 1) - 1))), (0, .ref (B + v0))]) hx hb dX11_unwrite_89 rfl hl (by decide) rfl (fun ls hl => ?_)
    refine lv_aload_n hx hb dX11_unwrite_90 rfl (lv_at hl 1 rfl) ?_
    refine lv_aload_n hx hb dX11_unwrite_91 rfl (lv_at hl 1 rfl) ?_
    obtain ⟨h45, hf⟩ := hs_ck hf
    refine hs_getr (C := RX11) (T := TX11) (N := 8) hx hb hts kX11_unwrite_1 hown hK.1 hP h43 (by decide) rfl 2 (by decide) (hts _ kX11_unwrite_4) (fun _ h => h) rfl h45 dX11_unwrite_92 ?_
    refine hs_putr (C := RX11) (T := TX11) (N := 8) hx hb hts kX11_unwrite_1 tyX11 tyX11_ok nmX11 hown hK.1 hP hS h43 (by decide) rfl 1 (by decide) (hts _ kX11_unwrite_5) (fun _ h => h) (Or.inl rfl) (fun _ => rfl) (fun _ => rfl) rfl dX11_unwrite_95 (fun H locs hP hS => ?_)
    refine lv_aload_n hx hb dX11_unwrite_98 rfl (lv_at hl 1 rfl) ?_
    refine lv_aload_n hx hb dX11_unwrite_99 rfl (lv_at hl 0 rfl) ?_
    refine hs_putr (C := RX11) (T := TX11) (N := 8) hx hb hts kX11_unwrite_1 tyX11 tyX11_ok nmX11 hown hK.1 hP hS h43 (by decide) rfl 2 (by decide) (hts _ kX11_unwrite_4) (fun _ h => h) (Or.inl rfl) (fun _ => rfl) (fun _ => rfl) rfl dX11_unwrite_100 (fun H locs hP hS => ?_)
    refine lv_aload_n hx hb dX11_unwrite_103 rfl (lv_at hl 1 rfl) ?_
    obtain ⟨h46, hf⟩ := hs_ck hf
    refine hs_getr (C := RX11) (T := TX11) (N := 8) hx hb hts kX11_unwrite_1 hown hK.1 hP h43 (by decide) rfl 1 (by decide) (hts _ kX11_unwrite_5) (fun _ h => h) rfl h46 dX11_unwrite_104 ?_
    obtain ⟨h47, hf⟩ := hs_ck hf
    obtain ⟨r49, g48, h50, hf⟩ := hs_bd_some hf
    cases h50
  · replace hf := hs_t hf hc
    refine lv_bipush (v := -2) hx hb dX11_unwrite_10 (by decide) ?_
    exact hs_iret hx hb hr hlocks rfl hK hP hS hf dX11_unwrite_12

set_option maxRecDepth 20000 in
theorem ggX11_clear_X0_empty : GoodIn wsX11_clear wsX0_empty := goodIn_r _ [10, 11, 12, 52, 53, 54, 55, 56] (by decide +kernel) (by decide +kernel)
set_option maxRecDepth 20000 in
theorem gX11_clear_X0_empty : GoodIn wsX11_clear (wsV RX11 68 RX0 yX0_empty wsX0_empty) := goodIn_app (goodIn_of _ (by decide +kernel)) ggX11_clear_X0_empty
set_option maxRecDepth 20000 in
theorem ggX11_clear_X8_becomeFirst : GoodIn wsX11_clear wsX8_becomeFirst := goodIn_r _ [17, 18, 19, 20, 21, 22, 23, 24, 25, 26, 57] (by decide +kernel) (by decide +kernel)
set_option maxRecDepth 20000 in
theorem gX11_clear_X8_becomeFirst : GoodIn wsX11_clear (wsV RX11 172 RX8 yX8_becomeFirst wsX8_becomeFirst) := goodIn_app (goodIn_of _ (by decide +kernel)) ggX11_clear_X8_becomeFirst
set_option maxRecDepth 20000 in
theorem ggX11_clear_X6_forget : GoodIn wsX11_clear wsX6_forget := goodIn_r _ [31, 32, 33, 34, 35, 36, 37, 38, 39, 40, 41, 42, 43, 20, 21, 22, 58, 59, 60, 61, 62, 63, 64, 65, 66, 67] (by decide +kernel) (by decide +kernel)
set_option maxRecDepth 20000 in
theorem gX11_clear_X6_forget : GoodIn wsX11_clear (wsV RX11 175 RX6 yX6_forget wsX6_forget) := goodIn_app (goodIn_of _ (by decide +kernel)) ggX11_clear_X6_forget
theorem dX11_clear_0 : decode cX11_clear 0 = .ok (.aload_n 0, 1) := by decide +kernel
theorem dX11_clear_1 : decode cX11_clear 1 = .ok (.getfield 14, 3) := by decide +kernel
theorem dX11_clear_4 : decode cX11_clear 4 = .ok (.invokevirtual 68, 3) := by decide +kernel
theorem dX11_clear_7 : decode cX11_clear 7 = .ok (.aload_n 0, 1) := by decide +kernel
theorem dX11_clear_8 : decode cX11_clear 8 = .ok (.getfield 18, 3) := by decide +kernel
theorem dX11_clear_11 : decode cX11_clear 11 = .ok (.invokevirtual 68, 3) := by decide +kernel
theorem dX11_clear_14 : decode cX11_clear 14 = .ok (.aload_n 0, 1) := by decide +kernel
theorem dX11_clear_15 : decode cX11_clear 15 = .ok (.getfield 24, 3) := by decide +kernel
theorem dX11_clear_18 : decode cX11_clear 18 = .ok (.invokevirtual 68, 3) := by decide +kernel
theorem dX11_clear_21 : decode cX11_clear 21 = .ok (.aload_n 0, 1) := by decide +kernel
theorem dX11_clear_22 : decode cX11_clear 22 = .ok (.getfield 30, 3) := by decide +kernel
theorem dX11_clear_25 : decode cX11_clear 25 = .ok (.invokevirtual 172, 3) := by decide +kernel
theorem dX11_clear_28 : decode cX11_clear 28 = .ok (.aload_n 0, 1) := by decide +kernel
theorem dX11_clear_29 : decode cX11_clear 29 = .ok (.getfield 53, 3) := by decide +kernel
theorem dX11_clear_32 : decode cX11_clear 32 = .ok (.invokevirtual 175, 3) := by decide +kernel
theorem dX11_clear_35 : decode cX11_clear 35 = .ok (.return_, 1) := by decide +kernel
theorem kX11_clear_0 : Cond.fieldLink RX11 14 "StepRewriter" "tape" "LStepRewriter$CodeSet;" ∈ wsX11_clear := by decide +kernel
theorem kX11_clear_1 : ∀ w ∈ u_ws RX11 TX11 8, w ∈ wsX11_clear := by decide +kernel
theorem kX11_clear_2 : Cond.fieldLink RX11 18 "StepRewriter" "file" "LStepRewriter$CodeSet;" ∈ wsX11_clear := by decide +kernel
theorem kX11_clear_3 : Cond.fieldLink RX11 24 "StepRewriter" "rewritten" "LStepRewriter$CodeSet;" ∈ wsX11_clear := by decide +kernel
theorem kX11_clear_4 : Cond.fieldLink RX11 30 "StepRewriter" "prices" "LStepRewriter$Prices;" ∈ wsX11_clear := by decide +kernel
theorem kX11_clear_5 : Cond.fieldLink RX11 53 "StepRewriter" "machine" "LStepRewriter$Machine;" ∈ wsX11_clear := by decide +kernel
def fX11_clear (v0 : Nat) (g : hs_S) : Option (hs_S) :=
  if hs_kd g v0 = 9 then
  if ¬ (hs_R g v0 0) = 0 then
  if hs_kd g ((hs_R g v0 0) - 1) = 0 then
  hs_bv (fX0_empty ((hs_R g v0 0) - 1) g) fun g4 =>
  if hs_kd g4 v0 = 9 then
  if ¬ (hs_R g4 v0 1) = 0 then
  if hs_kd g4 ((hs_R g4 v0 1) - 1) = 0 then
  hs_bv (fX0_empty ((hs_R g4 v0 1) - 1) g4) fun g10 =>
  if hs_kd g10 v0 = 9 then
  if ¬ (hs_R g10 v0 3) = 0 then
  if hs_kd g10 ((hs_R g10 v0 3) - 1) = 0 then
  hs_bv (fX0_empty ((hs_R g10 v0 3) - 1) g10) fun g16 =>
  if hs_kd g16 v0 = 9 then
  if ¬ (hs_R g16 v0 4) = 0 then
  if hs_kd g16 ((hs_R g16 v0 4) - 1) = 7 then
  hs_bv (fX8_becomeFirst ((hs_R g16 v0 4) - 1) g16) fun g22 =>
  if hs_kd g22 v0 = 9 then
  if ¬ (hs_R g22 v0 7) = 0 then
  if hs_kd g22 ((hs_R g22 v0 7) - 1) = 5 then
  hs_bv (fX6_forget ((hs_R g22 v0 7) - 1) g22) fun g28 =>
  some g28
  else none else none else none else none else none else none else none else none else none else none else none else none else none else none else none
abbrev rmX11_clear : Room := { frames := 3, cells := 0, slots := 0, locals := 63 }
set_option maxHeartbeats 4000000 in
set_option maxRecDepth 100000 in
theorem ctX11_clear (l : Launch) (B : Nat) (D : va_G) (E : Nat → ClassId) (v0 : Nat) (g : hs_S) (o : hs_S) (hf : fX11_clear v0 g = some o) : Met l yX11_clear wsX11_clear rmX11_clear (hs_Pc B D E g [.ref (B + v0)]) (hs_Qv B D E o) (0) (0) (hs_F B) := by
  refine Met.ofW (cc := cX11_clear) (maxL := 1) (ret := none) (by decide) rfl ?_
  intro p e s m args below meth c s₁ Bd hml hv
  obtain ⟨rfl, hP, hK⟩ := hv
  have hx := Bd.exec
  have hb := Bd.bytes
  have hr := Bd.returns
  have hts := atoms_spec (ws := wsX11_clear) Bd.pre
  have hown : s.vm.findClass RX11 = some m.cls := findClass_of_methodNamed Bd.named
  have hlocks := Bd.notSynchronized
  have hS : hs_Sx B s.heap s.heap [] := va_S.rf
  have hX : hs_cx cX11_clear none 1 RX11 wsX11_clear p s m (List.toArray [.ref (B + v0)]) meth c D E := ⟨hx, hb, hr, hml, hown, hts, hlocks, hK⟩
  have hl := lv_entry ([.ref (B + v0)]) (n := 1) (Nat.le_of_ble_eq_true rfl)
  rw [lg_entry_eq]
  generalize (lg_sl ([.ref (B + v0)]) ++ List.replicate (1 - (lg_sl ([.ref (B + v0)])).length) Slot.unset).toArray = ls at hl ⊢
  have hl : lv_has ls 1 [(0, .ref (B + v0))] := hl
  have hP : hs_P B D E g s.heap := hP
  unfold fX11_clear at hf
  refine lv_aload_n hx hb dX11_clear_0 rfl (lv_at hl 0 rfl) ?_
  obtain ⟨h1, hf⟩ := hs_ck hf
  obtain ⟨h2, hf⟩ := hs_ck hf
  refine hs_getr (C := RX11) (T := TX11) (N := 8) hx hb hts kX11_clear_1 hown hK.1 hP h1 (by decide) rfl 0 (by decide) (hts _ kX11_clear_0) (fun _ h => h) rfl h2 dX11_clear_1 ?_
  obtain ⟨h3, hf⟩ := hs_ck hf
  obtain ⟨g4, h6, hf⟩ := hs_bv_some hf
  refine hs_callv (va_runV (As := []) (rest := []) ⟨hx, hb, hml, hown, hts⟩ (ctX0_empty l B D E ((hs_R g v0 0) - 1) g _ h6) (cwV 0 hts gX11_clear_X0_empty rfl rfl rfl (by decide +kernel) ⟨Nat.le_of_ble_eq_true rfl, Nat.le_of_ble_eq_true rfl⟩) (hs_preV (r := (RX0, TX0, 5)) hP hK h3 (by decide) rfl) rfl rfl hl.1 rfl (lv_room (Nat.le_of_ble_eq_true rfl)) dX11_clear_4 ⟨(Nat.le_of_ble_eq_true rfl), (Nat.le_of_ble_eq_true rfl)⟩) hS (fun H locs hP hS => ?_)
  refine lv_aload_n hx hb dX11_clear_7 rfl (lv_at hl 0 rfl) ?_
  obtain ⟨h7, hf⟩ := hs_ck hf
  obtain ⟨h8, hf⟩ := hs_ck hf
  refine hs_getr (C := RX11) (T := TX11) (N := 8) hx hb hts kX11_clear_1 hown hK.1 hP h7 (by decide) rfl 1 (by decide) (hts _ kX11_clear_2) (fun _ h => h) rfl h8 dX11_clear_8 ?_
  obtain ⟨h9, hf⟩ := hs_ck hf
  obtain ⟨g10, h12, hf⟩ := hs_bv_some hf
  refine hs_callv (va_runV (As := []) (rest := []) ⟨hx, hb, hml, hown, hts⟩ (ctX0_empty l B D E ((hs_R g4 v0 1) - 1) g4 _ h12) (cwV 0 hts gX11_clear_X0_empty rfl rfl rfl (by decide +kernel) ⟨Nat.le_of_ble_eq_true rfl, Nat.le_of_ble_eq_true rfl⟩) (hs_preV (r := (RX0, TX0, 5)) hP hK h9 (by decide) rfl) rfl rfl hl.1 rfl (lv_room (Nat.le_of_ble_eq_true rfl)) dX11_clear_11 ⟨(Nat.le_of_ble_eq_true rfl), (Nat.le_of_ble_eq_true rfl)⟩) hS (fun H locs hP hS => ?_)
  refine lv_aload_n hx hb dX11_clear_14 rfl (lv_at hl 0 rfl) ?_
  obtain ⟨h13, hf⟩ := hs_ck hf
  obtain ⟨h14, hf⟩ := hs_ck hf
  refine hs_getr (C := RX11) (T := TX11) (N := 8) hx hb hts kX11_clear_1 hown hK.1 hP h13 (by decide) rfl 3 (by decide) (hts _ kX11_clear_3) (fun _ h => h) rfl h14 dX11_clear_15 ?_
  obtain ⟨h15, hf⟩ := hs_ck hf
  obtain ⟨g16, h18, hf⟩ := hs_bv_some hf
  refine hs_callv (va_runV (As := []) (rest := []) ⟨hx, hb, hml, hown, hts⟩ (ctX0_empty l B D E ((hs_R g10 v0 3) - 1) g10 _ h18) (cwV 0 hts gX11_clear_X0_empty rfl rfl rfl (by decide +kernel) ⟨Nat.le_of_ble_eq_true rfl, Nat.le_of_ble_eq_true rfl⟩) (hs_preV (r := (RX0, TX0, 5)) hP hK h15 (by decide) rfl) rfl rfl hl.1 rfl (lv_room (Nat.le_of_ble_eq_true rfl)) dX11_clear_18 ⟨(Nat.le_of_ble_eq_true rfl), (Nat.le_of_ble_eq_true rfl)⟩) hS (fun H locs hP hS => ?_)
  refine lv_aload_n hx hb dX11_clear_21 rfl (lv_at hl 0 rfl) ?_
  obtain ⟨h19, hf⟩ := hs_ck hf
  obtain ⟨h20, hf⟩ := hs_ck hf
  refine hs_getr (C := RX11) (T := TX11) (N := 8) hx hb hts kX11_clear_1 hown hK.1 hP h19 (by decide) rfl 4 (by decide) (hts _ kX11_clear_4) (fun _ h => h) rfl h20 dX11_clear_22 ?_
  obtain ⟨h21, hf⟩ := hs_ck hf
  obtain ⟨g22, h24, hf⟩ := hs_bv_some hf
  refine hs_callv (va_runV (As := []) (rest := []) ⟨hx, hb, hml, hown, hts⟩ (ctX8_becomeFirst l B D E ((hs_R g16 v0 4) - 1) g16 _ h24) (cwV 0 hts gX11_clear_X8_becomeFirst rfl rfl rfl (by decide +kernel) ⟨Nat.le_of_ble_eq_true rfl, Nat.le_of_ble_eq_true rfl⟩) (hs_preV (r := (RX8, TX8, 1)) hP hK h21 (by decide) rfl) rfl rfl hl.1 rfl (lv_room (Nat.le_of_ble_eq_true rfl)) dX11_clear_25 ⟨(Nat.le_of_ble_eq_true rfl), (Nat.le_of_ble_eq_true rfl)⟩) hS (fun H locs hP hS => ?_)
  refine lv_aload_n hx hb dX11_clear_28 rfl (lv_at hl 0 rfl) ?_
  obtain ⟨h25, hf⟩ := hs_ck hf
  obtain ⟨h26, hf⟩ := hs_ck hf
  refine hs_getr (C := RX11) (T := TX11) (N := 8) hx hb hts kX11_clear_1 hown hK.1 hP h25 (by decide) rfl 7 (by decide) (hts _ kX11_clear_5) (fun _ h => h) rfl h26 dX11_clear_29 ?_
  obtain ⟨h27, hf⟩ := hs_ck hf
  obtain ⟨g28, h30, hf⟩ := hs_bv_some hf
  refine hs_callv (va_runV (As := []) (rest := []) ⟨hx, hb, hml, hown, hts⟩ (ctX6_forget l B D E ((hs_R g22 v0 7) - 1) g22 _ h30) (cwV 0 hts gX11_clear_X6_forget rfl rfl rfl (by decide +kernel) ⟨Nat.le_of_ble_eq_true rfl, Nat.le_of_ble_eq_true rfl⟩) (hs_preV (r := (RX6, TX6, 8)) hP hK h27 (by decide) rfl) rfl rfl hl.1 rfl (lv_room (Nat.le_of_ble_eq_true rfl)) dX11_clear_32 ⟨(Nat.le_of_ble_eq_true rfl), (Nat.le_of_ble_eq_true rfl)⟩) hS (fun H locs hP hS => ?_)
  exact hs_vret hx hb hr hlocks hK hP hS hf dX11_clear_35
end
