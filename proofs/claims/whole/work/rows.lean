section
-- ===== PART A: goes FIRST, ahead of the names: the tables' words, and 'selects' of the private methods out of them =====
/-- a private method of a class that the tables say can be made, by its rows of tables_1 -/
def lw_okq (q : MethodName × Nat) : Prop := (q.1.cls ≠ "java/lang/invoke/MethodHandle" ∧ q.1.cls ≠ "java/lang/invoke/VarHandle") ∧ Cond.instantiable q.1.cls q.2 ∈ tables_1 ∧ Cond.privateMethod q.1 ∈ tables_1 ∧ Cond.instanceMethod q.1 ∈ tables_1
theorem lw_p0 : lw_okq (⟨"MovedBlocks$Tape", "add", "(I)Z"⟩, 5) := ⟨⟨by decide +kernel, by decide +kernel⟩, List.mem_of_getElem? (i := 84) (by decide +kernel), List.mem_of_getElem? (i := 221) (by decide +kernel), List.mem_of_getElem? (i := 222) (by decide +kernel)⟩
theorem lw_p1 : lw_okq (⟨"MovedBlocks$Tape", "read", "()I"⟩, 5) := ⟨⟨by decide +kernel, by decide +kernel⟩, List.mem_of_getElem? (i := 84) (by decide +kernel), List.mem_of_getElem? (i := 230) (by decide +kernel), List.mem_of_getElem? (i := 231) (by decide +kernel)⟩
theorem lw_p2 : lw_okq (⟨"MovedBlocks$Tape", "canStand", "(IZ)Z"⟩, 5) := ⟨⟨by decide +kernel, by decide +kernel⟩, List.mem_of_getElem? (i := 84) (by decide +kernel), List.mem_of_getElem? (i := 234) (by decide +kernel), List.mem_of_getElem? (i := 235) (by decide +kernel)⟩
theorem lw_p3 : lw_okq (⟨"MovedBlocks$Tape", "tell", "(IZ)V"⟩, 5) := ⟨⟨by decide +kernel, by decide +kernel⟩, List.mem_of_getElem? (i := 84) (by decide +kernel), List.mem_of_getElem? (i := 239) (by decide +kernel), List.mem_of_getElem? (i := 240) (by decide +kernel)⟩
theorem lw_p4 : lw_okq (⟨"MovedBlocks$Picture", "become", "([I)V"⟩, 1) := ⟨⟨by decide +kernel, by decide +kernel⟩, List.mem_of_getElem? (i := 34) (by decide +kernel), List.mem_of_getElem? (i := 243) (by decide +kernel), List.mem_of_getElem? (i := 244) (by decide +kernel)⟩
theorem lw_p5 : lw_okq (⟨"MovedBlocks$Picture", "at", "(II)I"⟩, 1) := ⟨⟨by decide +kernel, by decide +kernel⟩, List.mem_of_getElem? (i := 34) (by decide +kernel), List.mem_of_getElem? (i := 257) (by decide +kernel), List.mem_of_getElem? (i := 258) (by decide +kernel)⟩
theorem lw_p6 : lw_okq (⟨"MovedBlocks", "allCosts", "()I"⟩, 9) := ⟨⟨by decide +kernel, by decide +kernel⟩, List.mem_of_getElem? (i := 14) (by decide +kernel), List.mem_of_getElem? (i := 271) (by decide +kernel), List.mem_of_getElem? (i := 272) (by decide +kernel)⟩
theorem lw_p7 : lw_okq (⟨"MovedBlocks$Search", "best", "(LMovedBlocks$Scene;I)V"⟩, 4) := ⟨⟨by decide +kernel, by decide +kernel⟩, List.mem_of_getElem? (i := 109) (by decide +kernel), List.mem_of_getElem? (i := 275) (by decide +kernel), List.mem_of_getElem? (i := 276) (by decide +kernel)⟩
theorem lw_p8 : lw_okq (⟨"MovedBlocks$Search", "tryMoves", "(LMovedBlocks$Scene;IIIZ)V"⟩, 4) := ⟨⟨by decide +kernel, by decide +kernel⟩, List.mem_of_getElem? (i := 109) (by decide +kernel), List.mem_of_getElem? (i := 279) (by decide +kernel), List.mem_of_getElem? (i := 280) (by decide +kernel)⟩
theorem lw_p9 : lw_okq (⟨"MovedBlocks$Search", "costBelow", "(LMovedBlocks$Scene;III)I"⟩, 4) := ⟨⟨by decide +kernel, by decide +kernel⟩, List.mem_of_getElem? (i := 109) (by decide +kernel), List.mem_of_getElem? (i := 308) (by decide +kernel), List.mem_of_getElem? (i := 309) (by decide +kernel)⟩
theorem lw_p10 : lw_okq (⟨"MovedBlocks$Field", "fill", "(LMovedBlocks$Scene;LMovedBlocks$Search;)V"⟩, 2) := ⟨⟨by decide +kernel, by decide +kernel⟩, List.mem_of_getElem? (i := 148) (by decide +kernel), List.mem_of_getElem? (i := 325) (by decide +kernel), List.mem_of_getElem? (i := 326) (by decide +kernel)⟩
theorem lw_p11 : lw_okq (⟨"MovedBlocks$Field", "length", "()I"⟩, 2) := ⟨⟨by decide +kernel, by decide +kernel⟩, List.mem_of_getElem? (i := 148) (by decide +kernel), List.mem_of_getElem? (i := 330) (by decide +kernel), List.mem_of_getElem? (i := 331) (by decide +kernel)⟩
theorem lw_p12 : lw_okq (⟨"MovedBlocks$Field", "foretold", "(IZ)I"⟩, 2) := ⟨⟨by decide +kernel, by decide +kernel⟩, List.mem_of_getElem? (i := 148) (by decide +kernel), List.mem_of_getElem? (i := 335) (by decide +kernel), List.mem_of_getElem? (i := 336) (by decide +kernel)⟩
theorem lw_p13 : lw_okq (⟨"MovedBlocks$Field", "partOf", "(IZ)I"⟩, 2) := ⟨⟨by decide +kernel, by decide +kernel⟩, List.mem_of_getElem? (i := 148) (by decide +kernel), List.mem_of_getElem? (i := 339) (by decide +kernel), List.mem_of_getElem? (i := 340) (by decide +kernel)⟩
theorem lw_p14 : lw_okq (⟨"MovedBlocks$Field", "middle", "(I)I"⟩, 2) := ⟨⟨by decide +kernel, by decide +kernel⟩, List.mem_of_getElem? (i := 148) (by decide +kernel), List.mem_of_getElem? (i := 344) (by decide +kernel), List.mem_of_getElem? (i := 345) (by decide +kernel)⟩
theorem lw_p15 : lw_okq (⟨"MovedBlocks$Field", "lacks", "(LMovedBlocks$Scene;)I"⟩, 2) := ⟨⟨by decide +kernel, by decide +kernel⟩, List.mem_of_getElem? (i := 148) (by decide +kernel), List.mem_of_getElem? (i := 354) (by decide +kernel), List.mem_of_getElem? (i := 355) (by decide +kernel)⟩
def lw_privs_1 : List (MethodName × Nat) := [(⟨"MovedBlocks$Tape", "add", "(I)Z"⟩, 5), (⟨"MovedBlocks$Tape", "read", "()I"⟩, 5), (⟨"MovedBlocks$Tape", "canStand", "(IZ)Z"⟩, 5), (⟨"MovedBlocks$Tape", "tell", "(IZ)V"⟩, 5), (⟨"MovedBlocks$Picture", "become", "([I)V"⟩, 1), (⟨"MovedBlocks$Picture", "at", "(II)I"⟩, 1), (⟨"MovedBlocks", "allCosts", "()I"⟩, 9), (⟨"MovedBlocks$Search", "best", "(LMovedBlocks$Scene;I)V"⟩, 4), (⟨"MovedBlocks$Search", "tryMoves", "(LMovedBlocks$Scene;IIIZ)V"⟩, 4), (⟨"MovedBlocks$Search", "costBelow", "(LMovedBlocks$Scene;III)I"⟩, 4), (⟨"MovedBlocks$Field", "fill", "(LMovedBlocks$Scene;LMovedBlocks$Search;)V"⟩, 2), (⟨"MovedBlocks$Field", "length", "()I"⟩, 2), (⟨"MovedBlocks$Field", "foretold", "(IZ)I"⟩, 2), (⟨"MovedBlocks$Field", "partOf", "(IZ)I"⟩, 2), (⟨"MovedBlocks$Field", "middle", "(I)I"⟩, 2), (⟨"MovedBlocks$Field", "lacks", "(LMovedBlocks$Scene;)I"⟩, 2)]
theorem lw_r1 : ∀ q ∈ lw_privs_1, lw_okq q := List.forall_mem_cons.mpr ⟨lw_p0, List.forall_mem_cons.mpr ⟨lw_p1, List.forall_mem_cons.mpr ⟨lw_p2, List.forall_mem_cons.mpr ⟨lw_p3, List.forall_mem_cons.mpr ⟨lw_p4, List.forall_mem_cons.mpr ⟨lw_p5, List.forall_mem_cons.mpr ⟨lw_p6, List.forall_mem_cons.mpr ⟨lw_p7, List.forall_mem_cons.mpr ⟨lw_p8, List.forall_mem_cons.mpr ⟨lw_p9, List.forall_mem_cons.mpr ⟨lw_p10, List.forall_mem_cons.mpr ⟨lw_p11, List.forall_mem_cons.mpr ⟨lw_p12, List.forall_mem_cons.mpr ⟨lw_p13, List.forall_mem_cons.mpr ⟨lw_p14, List.forall_mem_cons.mpr ⟨lw_p15, fun _ h => absurd h List.not_mem_nil⟩⟩⟩⟩⟩⟩⟩⟩⟩⟩⟩⟩⟩⟩⟩⟩
theorem lw_p16 : lw_okq (⟨"MovedBlocks$Search", "pan", "(LMovedBlocks$Scene;)V"⟩, 4) := ⟨⟨by decide +kernel, by decide +kernel⟩, List.mem_of_getElem? (i := 109) (by decide +kernel), List.mem_of_getElem? (i := 362) (by decide +kernel), List.mem_of_getElem? (i := 363) (by decide +kernel)⟩
theorem lw_p17 : lw_okq (⟨"MovedBlocks$Search", "wholeCost", "(LMovedBlocks$Scene;II)I"⟩, 4) := ⟨⟨by decide +kernel, by decide +kernel⟩, List.mem_of_getElem? (i := 109) (by decide +kernel), List.mem_of_getElem? (i := 366) (by decide +kernel), List.mem_of_getElem? (i := 367) (by decide +kernel)⟩
theorem lw_p18 : lw_okq (⟨"MovedBlocks", "blocksNotQuick", "()I"⟩, 9) := ⟨⟨by decide +kernel, by decide +kernel⟩, List.mem_of_getElem? (i := 14) (by decide +kernel), List.mem_of_getElem? (i := 370) (by decide +kernel), List.mem_of_getElem? (i := 371) (by decide +kernel)⟩
theorem lw_p19 : lw_okq (⟨"MovedBlocks$Search", "quick", "(LMovedBlocks$Scene;I)V"⟩, 4) := ⟨⟨by decide +kernel, by decide +kernel⟩, List.mem_of_getElem? (i := 109) (by decide +kernel), List.mem_of_getElem? (i := 374) (by decide +kernel), List.mem_of_getElem? (i := 375) (by decide +kernel)⟩
theorem lw_p20 : lw_okq (⟨"MovedBlocks$Picture", "halfAt", "(II)I"⟩, 1) := ⟨⟨by decide +kernel, by decide +kernel⟩, List.mem_of_getElem? (i := 34) (by decide +kernel), List.mem_of_getElem? (i := 384) (by decide +kernel), List.mem_of_getElem? (i := 385) (by decide +kernel)⟩
theorem lw_p21 : lw_okq (⟨"MovedBlocks$Story", "keep", "()V"⟩, 3) := ⟨⟨by decide +kernel, by decide +kernel⟩, List.mem_of_getElem? (i := 22) (by decide +kernel), List.mem_of_getElem? (i := 399) (by decide +kernel), List.mem_of_getElem? (i := 400) (by decide +kernel)⟩
theorem lw_p22 : lw_okq (⟨"MovedBlocks$Story", "loseOldest", "()V"⟩, 3) := ⟨⟨by decide +kernel, by decide +kernel⟩, List.mem_of_getElem? (i := 22) (by decide +kernel), List.mem_of_getElem? (i := 403) (by decide +kernel), List.mem_of_getElem? (i := 404) (by decide +kernel)⟩
theorem lw_p23 : lw_okq (⟨"MovedBlocks$Scene", "become", "(LMovedBlocks$Scene;)V"⟩, 4) := ⟨⟨by decide +kernel, by decide +kernel⟩, List.mem_of_getElem? (i := 28) (by decide +kernel), List.mem_of_getElem? (i := 407) (by decide +kernel), List.mem_of_getElem? (i := 408) (by decide +kernel)⟩
theorem lw_p24 : lw_okq (⟨"MovedBlocks$Picture", "othersThan", "(LMovedBlocks$Picture;)I"⟩, 1) := ⟨⟨by decide +kernel, by decide +kernel⟩, List.mem_of_getElem? (i := 34) (by decide +kernel), List.mem_of_getElem? (i := 416) (by decide +kernel), List.mem_of_getElem? (i := 417) (by decide +kernel)⟩
theorem lw_p25 : lw_okq (⟨"MovedBlocks$Scene", "turn", "()V"⟩, 4) := ⟨⟨by decide +kernel, by decide +kernel⟩, List.mem_of_getElem? (i := 28) (by decide +kernel), List.mem_of_getElem? (i := 432) (by decide +kernel), List.mem_of_getElem? (i := 433) (by decide +kernel)⟩
theorem lw_p26 : lw_okq (⟨"MovedBlocks$Story", "goBack", "()V"⟩, 3) := ⟨⟨by decide +kernel, by decide +kernel⟩, List.mem_of_getElem? (i := 22) (by decide +kernel), List.mem_of_getElem? (i := 444) (by decide +kernel), List.mem_of_getElem? (i := 445) (by decide +kernel)⟩
theorem lw_p27 : lw_okq (⟨"MovedBlocks$Halves", "look", "(LMovedBlocks$Scene;II)V"⟩, 2) := ⟨⟨by decide +kernel, by decide +kernel⟩, List.mem_of_getElem? (i := 133) (by decide +kernel), List.mem_of_getElem? (i := 462) (by decide +kernel), List.mem_of_getElem? (i := 463) (by decide +kernel)⟩
theorem lw_p28 : lw_okq (⟨"MovedBlocks", "searched", "(II)I"⟩, 9) := ⟨⟨by decide +kernel, by decide +kernel⟩, List.mem_of_getElem? (i := 14) (by decide +kernel), List.mem_of_getElem? (i := 479) (by decide +kernel), List.mem_of_getElem? (i := 480) (by decide +kernel)⟩
theorem lw_p29 : lw_okq (⟨"MovedBlocks$Search", "skim", "(LMovedBlocks$Scene;I)V"⟩, 4) := ⟨⟨by decide +kernel, by decide +kernel⟩, List.mem_of_getElem? (i := 109) (by decide +kernel), List.mem_of_getElem? (i := 483) (by decide +kernel), List.mem_of_getElem? (i := 484) (by decide +kernel)⟩
theorem lw_p30 : lw_okq (⟨"MovedBlocks", "oddsAbove", "(II)I"⟩, 9) := ⟨⟨by decide +kernel, by decide +kernel⟩, List.mem_of_getElem? (i := 14) (by decide +kernel), List.mem_of_getElem? (i := 497) (by decide +kernel), List.mem_of_getElem? (i := 498) (by decide +kernel)⟩
theorem lw_p31 : lw_okq (⟨"MovedBlocks$Story", "become", "(LMovedBlocks$Story;)V"⟩, 3) := ⟨⟨by decide +kernel, by decide +kernel⟩, List.mem_of_getElem? (i := 22) (by decide +kernel), List.mem_of_getElem? (i := 512) (by decide +kernel), List.mem_of_getElem? (i := 513) (by decide +kernel)⟩
def lw_privs_2 : List (MethodName × Nat) := [(⟨"MovedBlocks$Search", "pan", "(LMovedBlocks$Scene;)V"⟩, 4), (⟨"MovedBlocks$Search", "wholeCost", "(LMovedBlocks$Scene;II)I"⟩, 4), (⟨"MovedBlocks", "blocksNotQuick", "()I"⟩, 9), (⟨"MovedBlocks$Search", "quick", "(LMovedBlocks$Scene;I)V"⟩, 4), (⟨"MovedBlocks$Picture", "halfAt", "(II)I"⟩, 1), (⟨"MovedBlocks$Story", "keep", "()V"⟩, 3), (⟨"MovedBlocks$Story", "loseOldest", "()V"⟩, 3), (⟨"MovedBlocks$Scene", "become", "(LMovedBlocks$Scene;)V"⟩, 4), (⟨"MovedBlocks$Picture", "othersThan", "(LMovedBlocks$Picture;)I"⟩, 1), (⟨"MovedBlocks$Scene", "turn", "()V"⟩, 4), (⟨"MovedBlocks$Story", "goBack", "()V"⟩, 3), (⟨"MovedBlocks$Halves", "look", "(LMovedBlocks$Scene;II)V"⟩, 2), (⟨"MovedBlocks", "searched", "(II)I"⟩, 9), (⟨"MovedBlocks$Search", "skim", "(LMovedBlocks$Scene;I)V"⟩, 4), (⟨"MovedBlocks", "oddsAbove", "(II)I"⟩, 9), (⟨"MovedBlocks$Story", "become", "(LMovedBlocks$Story;)V"⟩, 3)]
theorem lw_r2 : ∀ q ∈ lw_privs_2, lw_okq q := List.forall_mem_cons.mpr ⟨lw_p16, List.forall_mem_cons.mpr ⟨lw_p17, List.forall_mem_cons.mpr ⟨lw_p18, List.forall_mem_cons.mpr ⟨lw_p19, List.forall_mem_cons.mpr ⟨lw_p20, List.forall_mem_cons.mpr ⟨lw_p21, List.forall_mem_cons.mpr ⟨lw_p22, List.forall_mem_cons.mpr ⟨lw_p23, List.forall_mem_cons.mpr ⟨lw_p24, List.forall_mem_cons.mpr ⟨lw_p25, List.forall_mem_cons.mpr ⟨lw_p26, List.forall_mem_cons.mpr ⟨lw_p27, List.forall_mem_cons.mpr ⟨lw_p28, List.forall_mem_cons.mpr ⟨lw_p29, List.forall_mem_cons.mpr ⟨lw_p30, List.forall_mem_cons.mpr ⟨lw_p31, fun _ h => absurd h List.not_mem_nil⟩⟩⟩⟩⟩⟩⟩⟩⟩⟩⟩⟩⟩⟩⟩⟩
theorem lw_p32 : lw_okq (⟨"MovedBlocks$Sheet", "refusal", "(III)I"⟩, 4) := ⟨⟨by decide +kernel, by decide +kernel⟩, List.mem_of_getElem? (i := 164) (by decide +kernel), List.mem_of_getElem? (i := 530) (by decide +kernel), List.mem_of_getElem? (i := 531) (by decide +kernel)⟩
theorem lw_p33 : lw_okq (⟨"MovedBlocks$Sheet", "spans", "(II)Z"⟩, 4) := ⟨⟨by decide +kernel, by decide +kernel⟩, List.mem_of_getElem? (i := 164) (by decide +kernel), List.mem_of_getElem? (i := 536) (by decide +kernel), List.mem_of_getElem? (i := 537) (by decide +kernel)⟩
theorem lw_p34 : lw_okq (⟨"MovedBlocks", "kindsOf", "(LMovedBlocks$Sheet;II)I"⟩, 9) := ⟨⟨by decide +kernel, by decide +kernel⟩, List.mem_of_getElem? (i := 14) (by decide +kernel), List.mem_of_getElem? (i := 541) (by decide +kernel), List.mem_of_getElem? (i := 542) (by decide +kernel)⟩
theorem lw_p35 : lw_okq (⟨"MovedBlocks$Sheet", "put", "(IJ)V"⟩, 4) := ⟨⟨by decide +kernel, by decide +kernel⟩, List.mem_of_getElem? (i := 164) (by decide +kernel), List.mem_of_getElem? (i := 549) (by decide +kernel), List.mem_of_getElem? (i := 550) (by decide +kernel)⟩
theorem lw_p36 : lw_okq (⟨"MovedBlocks$Sheet", "begin", "(II)V"⟩, 4) := ⟨⟨by decide +kernel, by decide +kernel⟩, List.mem_of_getElem? (i := 164) (by decide +kernel), List.mem_of_getElem? (i := 558) (by decide +kernel), List.mem_of_getElem? (i := 559) (by decide +kernel)⟩
theorem lw_p37 : lw_okq (⟨"MovedBlocksModel", "dotAt", "(III)I"⟩, 19) := ⟨⟨by decide +kernel, by decide +kernel⟩, List.mem_of_getElem? (i := 579) (by decide +kernel), List.mem_of_getElem? (i := 665) (by decide +kernel), List.mem_of_getElem? (i := 666) (by decide +kernel)⟩
theorem lw_p38 : lw_okq (⟨"MovedBlocksModel", "costs", "()I"⟩, 19) := ⟨⟨by decide +kernel, by decide +kernel⟩, List.mem_of_getElem? (i := 579) (by decide +kernel), List.mem_of_getElem? (i := 677) (by decide +kernel), List.mem_of_getElem? (i := 678) (by decide +kernel)⟩
theorem lw_p39 : lw_okq (⟨"MovedBlocksModel", "best", "(I)I"⟩, 19) := ⟨⟨by decide +kernel, by decide +kernel⟩, List.mem_of_getElem? (i := 579) (by decide +kernel), List.mem_of_getElem? (i := 681) (by decide +kernel), List.mem_of_getElem? (i := 682) (by decide +kernel)⟩
theorem lw_p40 : lw_okq (⟨"MovedBlocksModel", "bestBy", "(II)I"⟩, 19) := ⟨⟨by decide +kernel, by decide +kernel⟩, List.mem_of_getElem? (i := 579) (by decide +kernel), List.mem_of_getElem? (i := 685) (by decide +kernel), List.mem_of_getElem? (i := 686) (by decide +kernel)⟩
theorem lw_p41 : lw_okq (⟨"MovedBlocksModel", "costBy", "(III)I"⟩, 19) := ⟨⟨by decide +kernel, by decide +kernel⟩, List.mem_of_getElem? (i := 579) (by decide +kernel), List.mem_of_getElem? (i := 689) (by decide +kernel), List.mem_of_getElem? (i := 690) (by decide +kernel)⟩
theorem lw_p42 : lw_okq (⟨"MovedBlocksModel", "dotCost", "(IIII)I"⟩, 19) := ⟨⟨by decide +kernel, by decide +kernel⟩, List.mem_of_getElem? (i := 579) (by decide +kernel), List.mem_of_getElem? (i := 696) (by decide +kernel), List.mem_of_getElem? (i := 697) (by decide +kernel)⟩
theorem lw_p43 : lw_okq (⟨"MovedBlocksModel", "longField", "()I"⟩, 19) := ⟨⟨by decide +kernel, by decide +kernel⟩, List.mem_of_getElem? (i := 579) (by decide +kernel), List.mem_of_getElem? (i := 700) (by decide +kernel), List.mem_of_getElem? (i := 701) (by decide +kernel)⟩
theorem lw_p44 : lw_okq (⟨"MovedBlocksModel", "lays", "()V"⟩, 19) := ⟨⟨by decide +kernel, by decide +kernel⟩, List.mem_of_getElem? (i := 579) (by decide +kernel), List.mem_of_getElem? (i := 704) (by decide +kernel), List.mem_of_getElem? (i := 705) (by decide +kernel)⟩
theorem lw_p45 : lw_okq (⟨"MovedBlocksModel", "part", "(IZ)I"⟩, 19) := ⟨⟨by decide +kernel, by decide +kernel⟩, List.mem_of_getElem? (i := 579) (by decide +kernel), List.mem_of_getElem? (i := 708) (by decide +kernel), List.mem_of_getElem? (i := 709) (by decide +kernel)⟩
theorem lw_p46 : lw_okq (⟨"MovedBlocksModel", "foretold", "(IZ)I"⟩, 19) := ⟨⟨by decide +kernel, by decide +kernel⟩, List.mem_of_getElem? (i := 579) (by decide +kernel), List.mem_of_getElem? (i := 712) (by decide +kernel), List.mem_of_getElem? (i := 713) (by decide +kernel)⟩
theorem lw_p47 : lw_okq (⟨"MovedBlocksModel", "lacks", "()I"⟩, 19) := ⟨⟨by decide +kernel, by decide +kernel⟩, List.mem_of_getElem? (i := 579) (by decide +kernel), List.mem_of_getElem? (i := 719) (by decide +kernel), List.mem_of_getElem? (i := 720) (by decide +kernel)⟩
def lw_privs_3 : List (MethodName × Nat) := [(⟨"MovedBlocks$Sheet", "refusal", "(III)I"⟩, 4), (⟨"MovedBlocks$Sheet", "spans", "(II)Z"⟩, 4), (⟨"MovedBlocks", "kindsOf", "(LMovedBlocks$Sheet;II)I"⟩, 9), (⟨"MovedBlocks$Sheet", "put", "(IJ)V"⟩, 4), (⟨"MovedBlocks$Sheet", "begin", "(II)V"⟩, 4), (⟨"MovedBlocksModel", "dotAt", "(III)I"⟩, 19), (⟨"MovedBlocksModel", "costs", "()I"⟩, 19), (⟨"MovedBlocksModel", "best", "(I)I"⟩, 19), (⟨"MovedBlocksModel", "bestBy", "(II)I"⟩, 19), (⟨"MovedBlocksModel", "costBy", "(III)I"⟩, 19), (⟨"MovedBlocksModel", "dotCost", "(IIII)I"⟩, 19), (⟨"MovedBlocksModel", "longField", "()I"⟩, 19), (⟨"MovedBlocksModel", "lays", "()V"⟩, 19), (⟨"MovedBlocksModel", "part", "(IZ)I"⟩, 19), (⟨"MovedBlocksModel", "foretold", "(IZ)I"⟩, 19), (⟨"MovedBlocksModel", "lacks", "()I"⟩, 19)]
theorem lw_r3 : ∀ q ∈ lw_privs_3, lw_okq q := List.forall_mem_cons.mpr ⟨lw_p32, List.forall_mem_cons.mpr ⟨lw_p33, List.forall_mem_cons.mpr ⟨lw_p34, List.forall_mem_cons.mpr ⟨lw_p35, List.forall_mem_cons.mpr ⟨lw_p36, List.forall_mem_cons.mpr ⟨lw_p37, List.forall_mem_cons.mpr ⟨lw_p38, List.forall_mem_cons.mpr ⟨lw_p39, List.forall_mem_cons.mpr ⟨lw_p40, List.forall_mem_cons.mpr ⟨lw_p41, List.forall_mem_cons.mpr ⟨lw_p42, List.forall_mem_cons.mpr ⟨lw_p43, List.forall_mem_cons.mpr ⟨lw_p44, List.forall_mem_cons.mpr ⟨lw_p45, List.forall_mem_cons.mpr ⟨lw_p46, List.forall_mem_cons.mpr ⟨lw_p47, fun _ h => absurd h List.not_mem_nil⟩⟩⟩⟩⟩⟩⟩⟩⟩⟩⟩⟩⟩⟩⟩⟩
theorem lw_p48 : lw_okq (⟨"MovedBlocksModel", "rebuiltAt", "(II)I"⟩, 19) := ⟨⟨by decide +kernel, by decide +kernel⟩, List.mem_of_getElem? (i := 579) (by decide +kernel), List.mem_of_getElem? (i := 723) (by decide +kernel), List.mem_of_getElem? (i := 724) (by decide +kernel)⟩
theorem lw_p49 : lw_okq (⟨"MovedBlocksModel", "pan", "(Z)I"⟩, 19) := ⟨⟨by decide +kernel, by decide +kernel⟩, List.mem_of_getElem? (i := 579) (by decide +kernel), List.mem_of_getElem? (i := 727) (by decide +kernel), List.mem_of_getElem? (i := 728) (by decide +kernel)⟩
theorem lw_p50 : lw_okq (⟨"MovedBlocksModel", "wrongs", "()I"⟩, 19) := ⟨⟨by decide +kernel, by decide +kernel⟩, List.mem_of_getElem? (i := 579) (by decide +kernel), List.mem_of_getElem? (i := 733) (by decide +kernel), List.mem_of_getElem? (i := 734) (by decide +kernel)⟩
theorem lw_p51 : lw_okq (⟨"MovedBlocksModel", "quick", "(I)I"⟩, 19) := ⟨⟨by decide +kernel, by decide +kernel⟩, List.mem_of_getElem? (i := 579) (by decide +kernel), List.mem_of_getElem? (i := 737) (by decide +kernel), List.mem_of_getElem? (i := 738) (by decide +kernel)⟩
theorem lw_p52 : lw_okq (⟨"MovedBlocksModel", "halfCost", "(II)I"⟩, 19) := ⟨⟨by decide +kernel, by decide +kernel⟩, List.mem_of_getElem? (i := 579) (by decide +kernel), List.mem_of_getElem? (i := 742) (by decide +kernel), List.mem_of_getElem? (i := 743) (by decide +kernel)⟩
theorem lw_p53 : lw_okq (⟨"MovedBlocksModel", "halfDot", "(III)I"⟩, 19) := ⟨⟨by decide +kernel, by decide +kernel⟩, List.mem_of_getElem? (i := 579) (by decide +kernel), List.mem_of_getElem? (i := 746) (by decide +kernel), List.mem_of_getElem? (i := 747) (by decide +kernel)⟩
theorem lw_p54 : lw_okq (⟨"MovedBlocksModel", "here", "()I"⟩, 19) := ⟨⟨by decide +kernel, by decide +kernel⟩, List.mem_of_getElem? (i := 579) (by decide +kernel), List.mem_of_getElem? (i := 761) (by decide +kernel), List.mem_of_getElem? (i := 762) (by decide +kernel)⟩
theorem lw_p55 : lw_okq (⟨"MovedBlocksModel", "dots", "()I"⟩, 19) := ⟨⟨by decide +kernel, by decide +kernel⟩, List.mem_of_getElem? (i := 579) (by decide +kernel), List.mem_of_getElem? (i := 765) (by decide +kernel), List.mem_of_getElem? (i := 766) (by decide +kernel)⟩
theorem lw_p56 : lw_okq (⟨"MovedBlocksModel", "notes", "()V"⟩, 19) := ⟨⟨by decide +kernel, by decide +kernel⟩, List.mem_of_getElem? (i := 579) (by decide +kernel), List.mem_of_getElem? (i := 778) (by decide +kernel), List.mem_of_getElem? (i := 779) (by decide +kernel)⟩
theorem lw_p57 : lw_okq (⟨"MovedBlocksModel", "tries", "(I)V"⟩, 19) := ⟨⟨by decide +kernel, by decide +kernel⟩, List.mem_of_getElem? (i := 579) (by decide +kernel), List.mem_of_getElem? (i := 829) (by decide +kernel), List.mem_of_getElem? (i := 830) (by decide +kernel)⟩
theorem lw_p58 : lw_okq (⟨"MovedBlocksModel", "sumsOff", "(II)I"⟩, 19) := ⟨⟨by decide +kernel, by decide +kernel⟩, List.mem_of_getElem? (i := 579) (by decide +kernel), List.mem_of_getElem? (i := 833) (by decide +kernel), List.mem_of_getElem? (i := 834) (by decide +kernel)⟩
theorem lw_p59 : lw_okq (⟨"MovedBlocksModel", "half", "(IZ)I"⟩, 19) := ⟨⟨by decide +kernel, by decide +kernel⟩, List.mem_of_getElem? (i := 579) (by decide +kernel), List.mem_of_getElem? (i := 837) (by decide +kernel), List.mem_of_getElem? (i := 838) (by decide +kernel)⟩
theorem lw_p60 : lw_okq (⟨"MovedBlocksModel", "halvedCost", "(IIII)I"⟩, 19) := ⟨⟨by decide +kernel, by decide +kernel⟩, List.mem_of_getElem? (i := 579) (by decide +kernel), List.mem_of_getElem? (i := 841) (by decide +kernel), List.mem_of_getElem? (i := 842) (by decide +kernel)⟩
theorem lw_p61 : lw_okq (⟨"MovedBlocksModel", "halved", "(IIII)I"⟩, 19) := ⟨⟨by decide +kernel, by decide +kernel⟩, List.mem_of_getElem? (i := 579) (by decide +kernel), List.mem_of_getElem? (i := 845) (by decide +kernel), List.mem_of_getElem? (i := 846) (by decide +kernel)⟩
theorem lw_p62 : lw_okq (⟨"MovedBlocksModel", "why", "(IIII)I"⟩, 19) := ⟨⟨by decide +kernel, by decide +kernel⟩, List.mem_of_getElem? (i := 579) (by decide +kernel), List.mem_of_getElem? (i := 883) (by decide +kernel), List.mem_of_getElem? (i := 884) (by decide +kernel)⟩
def lw_privs_4 : List (MethodName × Nat) := [(⟨"MovedBlocksModel", "rebuiltAt", "(II)I"⟩, 19), (⟨"MovedBlocksModel", "pan", "(Z)I"⟩, 19), (⟨"MovedBlocksModel", "wrongs", "()I"⟩, 19), (⟨"MovedBlocksModel", "quick", "(I)I"⟩, 19), (⟨"MovedBlocksModel", "halfCost", "(II)I"⟩, 19), (⟨"MovedBlocksModel", "halfDot", "(III)I"⟩, 19), (⟨"MovedBlocksModel", "here", "()I"⟩, 19), (⟨"MovedBlocksModel", "dots", "()I"⟩, 19), (⟨"MovedBlocksModel", "notes", "()V"⟩, 19), (⟨"MovedBlocksModel", "tries", "(I)V"⟩, 19), (⟨"MovedBlocksModel", "sumsOff", "(II)I"⟩, 19), (⟨"MovedBlocksModel", "half", "(IZ)I"⟩, 19), (⟨"MovedBlocksModel", "halvedCost", "(IIII)I"⟩, 19), (⟨"MovedBlocksModel", "halved", "(IIII)I"⟩, 19), (⟨"MovedBlocksModel", "why", "(IIII)I"⟩, 19)]
theorem lw_r4 : ∀ q ∈ lw_privs_4, lw_okq q := List.forall_mem_cons.mpr ⟨lw_p48, List.forall_mem_cons.mpr ⟨lw_p49, List.forall_mem_cons.mpr ⟨lw_p50, List.forall_mem_cons.mpr ⟨lw_p51, List.forall_mem_cons.mpr ⟨lw_p52, List.forall_mem_cons.mpr ⟨lw_p53, List.forall_mem_cons.mpr ⟨lw_p54, List.forall_mem_cons.mpr ⟨lw_p55, List.forall_mem_cons.mpr ⟨lw_p56, List.forall_mem_cons.mpr ⟨lw_p57, List.forall_mem_cons.mpr ⟨lw_p58, List.forall_mem_cons.mpr ⟨lw_p59, List.forall_mem_cons.mpr ⟨lw_p60, List.forall_mem_cons.mpr ⟨lw_p61, List.forall_mem_cons.mpr ⟨lw_p62, fun _ h => absurd h List.not_mem_nil⟩⟩⟩⟩⟩⟩⟩⟩⟩⟩⟩⟩⟩⟩⟩
def lw_privs : List (MethodName × Nat) := lw_privs_1 ++ (lw_privs_2 ++ (lw_privs_3 ++ (lw_privs_4)))
def lw_tbl : List Cond := k2_sels lw_privs ++ tables_1
theorem lw_privs_ok : ∀ q ∈ lw_privs, lw_okq q := by
  show ∀ q ∈ lw_privs_1 ++ (lw_privs_2 ++ (lw_privs_3 ++ (lw_privs_4))), lw_okq q
  exact List.forall_mem_append.mpr ⟨lw_r1, List.forall_mem_append.mpr ⟨lw_r2, List.forall_mem_append.mpr ⟨lw_r3, lw_r4⟩⟩⟩
-- ===== end of PART A; then your names; then what follows =====
end
section
def RX0 : String := "MovedBlocks$Field"
def TX0 : u_T := fun k => match k with
  | 0 => ("MovedBlocks$Field", "moves", "[I", true)
  | _ => ("MovedBlocks$Field", "near", "[I", true)
def tyX0 : Nat → FieldType := fun k => match k with
  | 0 => .array .int
  | _ => .array .int
abbrev wsX00 : List Cond := u_ws RX0 TX0 2
theorem nmX0 : ∀ a, a < 2 → ∀ b, b < 2 → a ≠ b → (TX0 a).2.1 ≠ (TX0 b).2.1 := by decide +kernel
theorem tyX0_ok : ∀ k, k < 2 → parseFieldDescriptor (TX0 k).2.2.1 = some (tyX0 k) := by decide +kernel
abbrev cX0_init : ByteArray := prog_2_method_1_code
def yX0_init : MethodName := ⟨RX0, "<init>", "()V"⟩
abbrev cX0_fill : ByteArray := prog_2_method_2_code
def yX0_fill : MethodName := ⟨RX0, "fill", "(LMovedBlocks$Scene;LMovedBlocks$Search;)V"⟩
abbrev cX0_lacks : ByteArray := prog_2_method_3_code
def yX0_lacks : MethodName := ⟨RX0, "lacks", "(LMovedBlocks$Scene;)I"⟩
abbrev cX0_length : ByteArray := prog_2_method_4_code
def yX0_length : MethodName := ⟨RX0, "length", "()I"⟩
abbrev cX0_foretold : ByteArray := prog_2_method_5_code
def yX0_foretold : MethodName := ⟨RX0, "foretold", "(IZ)I"⟩
abbrev cX0_partOf : ByteArray := prog_2_method_6_code
def yX0_partOf : MethodName := ⟨RX0, "partOf", "(IZ)I"⟩
abbrev cX0_middle : ByteArray := prog_2_method_7_code
def yX0_middle : MethodName := ⟨RX0, "middle", "(I)I"⟩
abbrev cX0_bitsOf : ByteArray := prog_2_method_8_code
def yX0_bitsOf : MethodName := ⟨RX0, "bitsOf", "(I)I"⟩
def RX1 : String := "MovedBlocks$Halves"
def TX1 : u_T := fun k => match k with
  | 0 => ("MovedBlocks$Halves", "found", "I", false)
  | _ => ("MovedBlocks$Halves", "cost", "I", false)
def tyX1 : Nat → FieldType := fun k => match k with
  | 0 => .int
  | _ => .int
abbrev wsX10 : List Cond := u_ws RX1 TX1 2
theorem nmX1 : ∀ a, a < 2 → ∀ b, b < 2 → a ≠ b → (TX1 a).2.1 ≠ (TX1 b).2.1 := by decide +kernel
theorem tyX1_ok : ∀ k, k < 2 → parseFieldDescriptor (TX1 k).2.2.1 = some (tyX1 k) := by decide +kernel
abbrev cX1_init : ByteArray := prog_3_method_1_code
def yX1_init : MethodName := ⟨RX1, "<init>", "()V"⟩
abbrev cX1_look : ByteArray := prog_3_method_2_code
def yX1_look : MethodName := ⟨RX1, "look", "(LMovedBlocks$Scene;II)V"⟩
abbrev cX1_costBy : ByteArray := prog_3_method_3_code
def yX1_costBy : MethodName := ⟨RX1, "costBy", "(LMovedBlocks$Scene;IIII)I"⟩
abbrev cX1_between : ByteArray := prog_3_method_4_code
def yX1_between : MethodName := ⟨RX1, "between", "(LMovedBlocks$Picture;IIII)I"⟩
def RX2 : String := "MovedBlocks$Picture"
def TX2 : u_T := fun k => match k with
  | _ => ("MovedBlocks$Picture", "dots", "[I", true)
def tyX2 : Nat → FieldType := fun k => match k with
  | _ => .array .int
abbrev wsX20 : List Cond := u_ws RX2 TX2 1
theorem nmX2 : ∀ a, a < 1 → ∀ b, b < 1 → a ≠ b → (TX2 a).2.1 ≠ (TX2 b).2.1 := by decide +kernel
theorem tyX2_ok : ∀ k, k < 1 → parseFieldDescriptor (TX2 k).2.2.1 = some (tyX2 k) := by decide +kernel
abbrev cX2_init : ByteArray := prog_4_method_1_code
def yX2_init : MethodName := ⟨RX2, "<init>", "()V"⟩
abbrev cX2_at : ByteArray := prog_4_method_2_code
def yX2_at : MethodName := ⟨RX2, "at", "(II)I"⟩
abbrev cX2_halfAt : ByteArray := prog_4_method_3_code
def yX2_halfAt : MethodName := ⟨RX2, "halfAt", "(II)I"⟩
abbrev cX2_othersThan : ByteArray := prog_4_method_4_code
def yX2_othersThan : MethodName := ⟨RX2, "othersThan", "(LMovedBlocks$Picture;)I"⟩
abbrev cX2_become : ByteArray := prog_4_method_5_code
def yX2_become : MethodName := ⟨RX2, "become", "([I)V"⟩
def RX3 : String := "MovedBlocks$Scene"
def TX3 : u_T := fun k => match k with
  | 0 => ("MovedBlocks$Scene", "old", "LMovedBlocks$Picture;", true)
  | 1 => ("MovedBlocks$Scene", "now", "LMovedBlocks$Picture;", true)
  | 2 => ("MovedBlocks$Scene", "kind", "I", false)
  | _ => ("MovedBlocks$Scene", "draw", "I", false)
def tyX3 : Nat → FieldType := fun k => match k with
  | 0 => .object "MovedBlocks$Picture"
  | 1 => .object "MovedBlocks$Picture"
  | 2 => .int
  | _ => .int
abbrev wsX30 : List Cond := u_ws RX3 TX3 4
theorem nmX3 : ∀ a, a < 4 → ∀ b, b < 4 → a ≠ b → (TX3 a).2.1 ≠ (TX3 b).2.1 := by decide +kernel
theorem tyX3_ok : ∀ k, k < 4 → parseFieldDescriptor (TX3 k).2.2.1 = some (tyX3 k) := by decide +kernel
abbrev cX3_init : ByteArray := prog_5_method_1_code
def yX3_init : MethodName := ⟨RX3, "<init>", "()V"⟩
abbrev cX3_become : ByteArray := prog_5_method_2_code
def yX3_become : MethodName := ⟨RX3, "become", "(LMovedBlocks$Scene;)V"⟩
abbrev cX3_turn : ByteArray := prog_5_method_3_code
def yX3_turn : MethodName := ⟨RX3, "turn", "()V"⟩
def RX4 : String := "MovedBlocks$Search"
def TX4 : u_T := fun k => match k with
  | 0 => ("MovedBlocks$Search", "move", "I", false)
  | 1 => ("MovedBlocks$Search", "cost", "I", false)
  | 2 => ("MovedBlocks$Search", "looks", "I", false)
  | _ => ("MovedBlocks$Search", "leftOut", "I", false)
def tyX4 : Nat → FieldType := fun k => match k with
  | 0 => .int
  | 1 => .int
  | 2 => .int
  | _ => .int
abbrev wsX40 : List Cond := u_ws RX4 TX4 4
theorem nmX4 : ∀ a, a < 4 → ∀ b, b < 4 → a ≠ b → (TX4 a).2.1 ≠ (TX4 b).2.1 := by decide +kernel
theorem tyX4_ok : ∀ k, k < 4 → parseFieldDescriptor (TX4 k).2.2.1 = some (tyX4 k) := by decide +kernel
abbrev cX4_init : ByteArray := prog_6_method_1_code
def yX4_init : MethodName := ⟨RX4, "<init>", "()V"⟩
abbrev cX4_best : ByteArray := prog_6_method_2_code
def yX4_best : MethodName := ⟨RX4, "best", "(LMovedBlocks$Scene;I)V"⟩
abbrev cX4_skim : ByteArray := prog_6_method_3_code
def yX4_skim : MethodName := ⟨RX4, "skim", "(LMovedBlocks$Scene;I)V"⟩
abbrev cX4_quick : ByteArray := prog_6_method_4_code
def yX4_quick : MethodName := ⟨RX4, "quick", "(LMovedBlocks$Scene;I)V"⟩
abbrev cX4_pan : ByteArray := prog_6_method_5_code
def yX4_pan : MethodName := ⟨RX4, "pan", "(LMovedBlocks$Scene;)V"⟩
abbrev cX4_wholeCost : ByteArray := prog_6_method_6_code
def yX4_wholeCost : MethodName := ⟨RX4, "wholeCost", "(LMovedBlocks$Scene;II)I"⟩
abbrev cX4_tryMoves : ByteArray := prog_6_method_7_code
def yX4_tryMoves : MethodName := ⟨RX4, "tryMoves", "(LMovedBlocks$Scene;IIIZ)V"⟩
abbrev cX4_costBelow : ByteArray := prog_6_method_8_code
def yX4_costBelow : MethodName := ⟨RX4, "costBelow", "(LMovedBlocks$Scene;III)I"⟩
abbrev cX4_dotCost : ByteArray := prog_6_method_9_code
def yX4_dotCost : MethodName := ⟨RX4, "dotCost", "(III)I"⟩
abbrev cX4_isAtEdge : ByteArray := prog_6_method_10_code
def yX4_isAtEdge : MethodName := ⟨RX4, "isAtEdge", "(I)Z"⟩
abbrev cX4_isNear : ByteArray := prog_6_method_11_code
def yX4_isNear : MethodName := ⟨RX4, "isNear", "(III)Z"⟩
abbrev cX4_sumsApart : ByteArray := prog_6_method_12_code
def yX4_sumsApart : MethodName := ⟨RX4, "sumsApart", "(LMovedBlocks$Scene;II)I"⟩
abbrev cX4_smallMove : ByteArray := prog_6_method_13_code
def yX4_smallMove : MethodName := ⟨RX4, "smallMove", "(LMovedBlocks$Scene;I)I"⟩
abbrev cX4_smallCost : ByteArray := prog_6_method_14_code
def yX4_smallCost : MethodName := ⟨RX4, "smallCost", "(LMovedBlocks$Scene;II)I"⟩
def RX5 : String := "MovedBlocks$Sheet"
def TX5 : u_T := fun k => match k with
  | 0 => ("MovedBlocks$Sheet", "items", "[J", true)
  | 1 => ("MovedBlocks$Sheet", "isHeld", "Z", false)
  | 2 => ("MovedBlocks$Sheet", "lane", "I", false)
  | _ => ("MovedBlocks$Sheet", "size", "I", false)
def tyX5 : Nat → FieldType := fun k => match k with
  | 0 => .array .long
  | 1 => .boolean
  | 2 => .int
  | _ => .int
abbrev wsX50 : List Cond := u_ws RX5 TX5 4
theorem nmX5 : ∀ a, a < 4 → ∀ b, b < 4 → a ≠ b → (TX5 a).2.1 ≠ (TX5 b).2.1 := by decide +kernel
theorem tyX5_ok : ∀ k, k < 4 → parseFieldDescriptor (TX5 k).2.2.1 = some (tyX5 k) := by decide +kernel
abbrev cX5_init : ByteArray := prog_7_method_1_code
def yX5_init : MethodName := ⟨RX5, "<init>", "()V"⟩
abbrev cX5_begin : ByteArray := prog_7_method_2_code
def yX5_begin : MethodName := ⟨RX5, "begin", "(II)V"⟩
abbrev cX5_refusal : ByteArray := prog_7_method_3_code
def yX5_refusal : MethodName := ⟨RX5, "refusal", "(III)I"⟩
abbrev cX5_spans : ByteArray := prog_7_method_4_code
def yX5_spans : MethodName := ⟨RX5, "spans", "(II)Z"⟩
abbrev cX5_put : ByteArray := prog_7_method_5_code
def yX5_put : MethodName := ⟨RX5, "put", "(IJ)V"⟩
def RX6 : String := "MovedBlocks$Story"
def TX6 : u_T := fun k => match k with
  | 0 => ("MovedBlocks$Story", "scene", "LMovedBlocks$Scene;", true)
  | 1 => ("MovedBlocks$Story", "past", "[LMovedBlocks$Scene;", true)
  | _ => ("MovedBlocks$Story", "known", "I", false)
def tyX6 : Nat → FieldType := fun k => match k with
  | 0 => .object "MovedBlocks$Scene"
  | 1 => .array (.object "MovedBlocks$Scene")
  | _ => .int
abbrev wsX60 : List Cond := u_ws RX6 TX6 3
theorem nmX6 : ∀ a, a < 3 → ∀ b, b < 3 → a ≠ b → (TX6 a).2.1 ≠ (TX6 b).2.1 := by decide +kernel
theorem tyX6_ok : ∀ k, k < 3 → parseFieldDescriptor (TX6 k).2.2.1 = some (tyX6 k) := by decide +kernel
abbrev cX6_init : ByteArray := prog_8_method_1_code
def yX6_init : MethodName := ⟨RX6, "<init>", "()V"⟩
abbrev cX6_keep : ByteArray := prog_8_method_2_code
def yX6_keep : MethodName := ⟨RX6, "keep", "()V"⟩
abbrev cX6_loseOldest : ByteArray := prog_8_method_3_code
def yX6_loseOldest : MethodName := ⟨RX6, "loseOldest", "()V"⟩
abbrev cX6_goBack : ByteArray := prog_8_method_4_code
def yX6_goBack : MethodName := ⟨RX6, "goBack", "()V"⟩
abbrev cX6_become : ByteArray := prog_8_method_5_code
def yX6_become : MethodName := ⟨RX6, "become", "(LMovedBlocks$Story;)V"⟩
def RX7 : String := "MovedBlocks$Tape"
def TX7 : u_T := fun k => match k with
  | 0 => ("MovedBlocks$Tape", "letters", "[I", true)
  | 1 => ("MovedBlocks$Tape", "size", "I", false)
  | 2 => ("MovedBlocks$Tape", "dots", "[I", true)
  | 3 => ("MovedBlocks$Tape", "told", "I", false)
  | _ => ("MovedBlocks$Tape", "target", "I", false)
def tyX7 : Nat → FieldType := fun k => match k with
  | 0 => .array .int
  | 1 => .int
  | 2 => .array .int
  | 3 => .int
  | _ => .int
abbrev wsX70 : List Cond := u_ws RX7 TX7 5
theorem nmX7 : ∀ a, a < 5 → ∀ b, b < 5 → a ≠ b → (TX7 a).2.1 ≠ (TX7 b).2.1 := by decide +kernel
theorem tyX7_ok : ∀ k, k < 5 → parseFieldDescriptor (TX7 k).2.2.1 = some (tyX7 k) := by decide +kernel
abbrev cX7_init : ByteArray := prog_9_method_1_code
def yX7_init : MethodName := ⟨RX7, "<init>", "()V"⟩
abbrev cX7_add : ByteArray := prog_9_method_2_code
def yX7_add : MethodName := ⟨RX7, "add", "(I)Z"⟩
abbrev cX7_read : ByteArray := prog_9_method_3_code
def yX7_read : MethodName := ⟨RX7, "read", "()I"⟩
abbrev cX7_canStand : ByteArray := prog_9_method_4_code
def yX7_canStand : MethodName := ⟨RX7, "canStand", "(IZ)Z"⟩
abbrev cX7_tell : ByteArray := prog_9_method_5_code
def yX7_tell : MethodName := ⟨RX7, "tell", "(IZ)V"⟩
def RX8 : String := "MovedBlocks"
def TX8 : u_T := fun k => match k with
  | 0 => ("MovedBlocks", "story", "LMovedBlocks$Story;", true)
  | 1 => ("MovedBlocks", "kept", "LMovedBlocks$Story;", true)
  | 2 => ("MovedBlocks", "isKept", "Z", false)
  | 3 => ("MovedBlocks", "tape", "LMovedBlocks$Tape;", true)
  | 4 => ("MovedBlocks", "search", "LMovedBlocks$Search;", true)
  | 5 => ("MovedBlocks", "halves", "LMovedBlocks$Halves;", true)
  | 6 => ("MovedBlocks", "field", "LMovedBlocks$Field;", true)
  | 7 => ("MovedBlocks", "spare", "LMovedBlocks$Scene;", true)
  | _ => ("MovedBlocks", "sheets", "[LMovedBlocks$Sheet;", true)
def tyX8 : Nat → FieldType := fun k => match k with
  | 0 => .object "MovedBlocks$Story"
  | 1 => .object "MovedBlocks$Story"
  | 2 => .boolean
  | 3 => .object "MovedBlocks$Tape"
  | 4 => .object "MovedBlocks$Search"
  | 5 => .object "MovedBlocks$Halves"
  | 6 => .object "MovedBlocks$Field"
  | 7 => .object "MovedBlocks$Scene"
  | _ => .array (.object "MovedBlocks$Sheet")
abbrev wsX80 : List Cond := u_ws RX8 TX8 9
theorem nmX8 : ∀ a, a < 9 → ∀ b, b < 9 → a ≠ b → (TX8 a).2.1 ≠ (TX8 b).2.1 := by decide +kernel
theorem tyX8_ok : ∀ k, k < 9 → parseFieldDescriptor (TX8 k).2.2.1 = some (tyX8 k) := by decide +kernel
abbrev cX8_init : ByteArray := prog_1_method_1_code
def yX8_init : MethodName := ⟨RX8, "<init>", "()V"⟩
abbrev cX8_type : ByteArray := prog_1_method_2_code
def yX8_type : MethodName := ⟨RX8, "type", "(I)I"⟩
abbrev cX8_picture : ByteArray := prog_1_method_3_code
def yX8_picture : MethodName := ⟨RX8, "picture", "()I"⟩
abbrev cX8_dot : ByteArray := prog_1_method_4_code
def yX8_dot : MethodName := ⟨RX8, "dot", "(III)I"⟩
abbrev cX8_count : ByteArray := prog_1_method_5_code
def yX8_count : MethodName := ⟨RX8, "count", "(I)I"⟩
abbrev cX8_paint : ByteArray := prog_1_method_6_code
def yX8_paint : MethodName := ⟨RX8, "paint", "(III)I"⟩
abbrev cX8_shift : ByteArray := prog_1_method_7_code
def yX8_shift : MethodName := ⟨RX8, "shift", "(II)I"⟩
abbrev cX8_take : ByteArray := prog_1_method_8_code
def yX8_take : MethodName := ⟨RX8, "take", "()I"⟩
abbrev cX8_like : ByteArray := prog_1_method_9_code
def yX8_like : MethodName := ⟨RX8, "like", "(I)I"⟩
abbrev cX8_noise : ByteArray := prog_1_method_10_code
def yX8_noise : MethodName := ⟨RX8, "noise", "(I)I"⟩
abbrev cX8_undo : ByteArray := prog_1_method_11_code
def yX8_undo : MethodName := ⟨RX8, "undo", "()I"⟩
abbrev cX8_seed : ByteArray := prog_1_method_12_code
def yX8_seed : MethodName := ⟨RX8, "seed", "(I)I"⟩
abbrev cX8_cost : ByteArray := prog_1_method_13_code
def yX8_cost : MethodName := ⟨RX8, "cost", "(II)I"⟩
abbrev cX8_of : ByteArray := prog_1_method_14_code
def yX8_of : MethodName := ⟨RX8, "of", "(II)I"⟩
abbrev cX8_rebuilt : ByteArray := prog_1_method_15_code
def yX8_rebuilt : MethodName := ⟨RX8, "rebuilt", "(II)I"⟩
abbrev cX8_wrong : ByteArray := prog_1_method_16_code
def yX8_wrong : MethodName := ⟨RX8, "wrong", "(III)I"⟩
abbrev cX8_image : ByteArray := prog_1_method_17_code
def yX8_image : MethodName := ⟨RX8, "image", "()I"⟩
abbrev cX8_restore : ByteArray := prog_1_method_18_code
def yX8_restore : MethodName := ⟨RX8, "restore", "()I"⟩
abbrev cX8_found : ByteArray := prog_1_method_19_code
def yX8_found : MethodName := ⟨RX8, "found", "(IIII)I"⟩
abbrev cX8_film : ByteArray := prog_1_method_20_code
def yX8_film : MethodName := ⟨RX8, "film", "(IIII)I"⟩
abbrev cX8_sheet : ByteArray := prog_1_method_21_code
def yX8_sheet : MethodName := ⟨RX8, "sheet", "(III)I"⟩
abbrev cX8_drop : ByteArray := prog_1_method_22_code
def yX8_drop : MethodName := ⟨RX8, "drop", "(I)I"⟩
abbrev cX8_item : ByteArray := prog_1_method_23_code
def yX8_item : MethodName := ⟨RX8, "item", "(IIIJ)I"⟩
abbrev cX8_copy : ByteArray := prog_1_method_24_code
def yX8_copy : MethodName := ⟨RX8, "copy", "(IIIII)I"⟩
abbrev cX8_allCosts : ByteArray := prog_1_method_25_code
def yX8_allCosts : MethodName := ⟨RX8, "allCosts", "()I"⟩
abbrev cX8_blocksNotQuick : ByteArray := prog_1_method_26_code
def yX8_blocksNotQuick : MethodName := ⟨RX8, "blocksNotQuick", "()I"⟩
abbrev cX8_searched : ByteArray := prog_1_method_27_code
def yX8_searched : MethodName := ⟨RX8, "searched", "(II)I"⟩
abbrev cX8_oddsAbove : ByteArray := prog_1_method_28_code
def yX8_oddsAbove : MethodName := ⟨RX8, "oddsAbove", "(II)I"⟩
abbrev cX8_kindsOf : ByteArray := prog_1_method_29_code
def yX8_kindsOf : MethodName := ⟨RX8, "kindsOf", "(LMovedBlocks$Sheet;II)I"⟩
abbrev cX8_power : ByteArray := prog_1_method_30_code
def yX8_power : MethodName := ⟨RX8, "power", "(II)I"⟩
abbrev cX8_commonDivisor : ByteArray := prog_1_method_31_code
def yX8_commonDivisor : MethodName := ⟨RX8, "commonDivisor", "(II)I"⟩
abbrev cX8_isWithin : ByteArray := prog_1_method_32_code
def yX8_isWithin : MethodName := ⟨RX8, "isWithin", "(III)Z"⟩
abbrev cX8_isInPicture : ByteArray := prog_1_method_33_code
def yX8_isInPicture : MethodName := ⟨RX8, "isInPicture", "(II)Z"⟩
abbrev cX8_isSheet : ByteArray := prog_1_method_34_code
def yX8_isSheet : MethodName := ⟨RX8, "isSheet", "(I)Z"⟩
abbrev cX8_isLane : ByteArray := prog_1_method_35_code
def yX8_isLane : MethodName := ⟨RX8, "isLane", "(I)Z"⟩
abbrev cX8_xOf : ByteArray := prog_1_method_36_code
def yX8_xOf : MethodName := ⟨RX8, "xOf", "(I)I"⟩
abbrev cX8_yOf : ByteArray := prog_1_method_37_code
def yX8_yOf : MethodName := ⟨RX8, "yOf", "(I)I"⟩
abbrev cX8_moveBy : ByteArray := prog_1_method_38_code
def yX8_moveBy : MethodName := ⟨RX8, "moveBy", "(II)I"⟩
abbrev cX8_stepsOf : ByteArray := prog_1_method_39_code
def yX8_stepsOf : MethodName := ⟨RX8, "stepsOf", "(I)I"⟩
abbrev cX8_firstColumn : ByteArray := prog_1_method_40_code
def yX8_firstColumn : MethodName := ⟨RX8, "firstColumn", "(I)I"⟩
abbrev cX8_firstRow : ByteArray := prog_1_method_41_code
def yX8_firstRow : MethodName := ⟨RX8, "firstRow", "(I)I"⟩
abbrev cX8_blockAt : ByteArray := prog_1_method_42_code
def yX8_blockAt : MethodName := ⟨RX8, "blockAt", "(II)I"⟩
def RX9 : String := "MovedBlocksModel"
def TX9 : u_T := fun k => match k with
  | 0 => ("MovedBlocksModel", "now", "[I", true)
  | 1 => ("MovedBlocksModel", "order", "[I", true)
  | 2 => ("MovedBlocksModel", "looks", "I", false)
  | 3 => ("MovedBlocksModel", "out", "I", false)
  | 4 => ("MovedBlocksModel", "skimmed", "I", false)
  | 5 => ("MovedBlocksModel", "field", "[I", true)
  | 6 => ("MovedBlocksModel", "tape", "[I", true)
  | 7 => ("MovedBlocksModel", "taped", "I", false)
  | 8 => ("MovedBlocksModel", "place", "I", false)
  | 9 => ("MovedBlocksModel", "read", "[I", true)
  | 10 => ("MovedBlocksModel", "ahead", "[I", true)
  | 11 => ("MovedBlocksModel", "undos", "I", false)
  | 12 => ("MovedBlocksModel", "kept", "[I", true)
  | 13 => ("MovedBlocksModel", "keptAhead", "[I", true)
  | 14 => ("MovedBlocksModel", "keptUndos", "I", false)
  | 15 => ("MovedBlocksModel", "lanes", "[I", true)
  | 16 => ("MovedBlocksModel", "sizes", "[I", true)
  | 17 => ("MovedBlocksModel", "items", "[J", true)
  | _ => ("MovedBlocksModel", "moved", "[J", true)
def tyX9 : Nat → FieldType := fun k => match k with
  | 0 => .array .int
  | 1 => .array .int
  | 2 => .int
  | 3 => .int
  | 4 => .int
  | 5 => .array .int
  | 6 => .array .int
  | 7 => .int
  | 8 => .int
  | 9 => .array .int
  | 10 => .array .int
  | 11 => .int
  | 12 => .array .int
  | 13 => .array .int
  | 14 => .int
  | 15 => .array .int
  | 16 => .array .int
  | 17 => .array .long
  | _ => .array .long
abbrev wsX90 : List Cond := u_ws RX9 TX9 19
theorem nmX9 : ∀ a, a < 19 → ∀ b, b < 19 → a ≠ b → (TX9 a).2.1 ≠ (TX9 b).2.1 := by decide +kernel
theorem tyX9_ok : ∀ k, k < 19 → parseFieldDescriptor (TX9 k).2.2.1 = some (tyX9 k) := by decide +kernel
abbrev cX9_in : ByteArray := prog_11_method_2_code
def yX9_in : MethodName := ⟨RX9, "in", "(JJJ)Z"⟩
abbrev cX9_init : ByteArray := prog_11_method_3_code
def yX9_init : MethodName := ⟨RX9, "<init>", "()V"⟩
abbrev cX9_sized : ByteArray := prog_11_method_4_code
def yX9_sized : MethodName := ⟨RX9, "sized", "(I)I"⟩
abbrev cX9_xOf : ByteArray := prog_11_method_5_code
def yX9_xOf : MethodName := ⟨RX9, "xOf", "(I)I"⟩
abbrev cX9_yOf : ByteArray := prog_11_method_6_code
def yX9_yOf : MethodName := ⟨RX9, "yOf", "(I)I"⟩
abbrev cX9_farOf : ByteArray := prog_11_method_7_code
def yX9_farOf : MethodName := ⟨RX9, "farOf", "(I)I"⟩
abbrev cX9_within : ByteArray := prog_11_method_8_code
def yX9_within : MethodName := ⟨RX9, "within", "(II)I"⟩
abbrev cX9_dotAt : ByteArray := prog_11_method_9_code
def yX9_dotAt : MethodName := ⟨RX9, "dotAt", "(III)I"⟩
abbrev cX9_isBlock : ByteArray := prog_11_method_10_code
def yX9_isBlock : MethodName := ⟨RX9, "isBlock", "(I)Z"⟩
abbrev cX9_isMove : ByteArray := prog_11_method_11_code
def yX9_isMove : MethodName := ⟨RX9, "isMove", "(J)Z"⟩
abbrev cX9_dotCost : ByteArray := prog_11_method_12_code
def yX9_dotCost : MethodName := ⟨RX9, "dotCost", "(IIII)I"⟩
abbrev cX9_atOnce : ByteArray := prog_11_method_13_code
def yX9_atOnce : MethodName := ⟨RX9, "atOnce", "(II)I"⟩
abbrev cX9_costBy : ByteArray := prog_11_method_14_code
def yX9_costBy : MethodName := ⟨RX9, "costBy", "(III)I"⟩
abbrev cX9_bestBy : ByteArray := prog_11_method_15_code
def yX9_bestBy : MethodName := ⟨RX9, "bestBy", "(II)I"⟩
abbrev cX9_best : ByteArray := prog_11_method_16_code
def yX9_best : MethodName := ⟨RX9, "best", "(I)I"⟩
abbrev cX9_sumsOff : ByteArray := prog_11_method_17_code
def yX9_sumsOff : MethodName := ⟨RX9, "sumsOff", "(II)I"⟩
abbrev cX9_tries : ByteArray := prog_11_method_18_code
def yX9_tries : MethodName := ⟨RX9, "tries", "(I)V"⟩
abbrev cX9_halfDot : ByteArray := prog_11_method_19_code
def yX9_halfDot : MethodName := ⟨RX9, "halfDot", "(III)I"⟩
abbrev cX9_halfCost : ByteArray := prog_11_method_20_code
def yX9_halfCost : MethodName := ⟨RX9, "halfCost", "(II)I"⟩
abbrev cX9_quick : ByteArray := prog_11_method_21_code
def yX9_quick : MethodName := ⟨RX9, "quick", "(I)I"⟩
abbrev cX9_halved : ByteArray := prog_11_method_22_code
def yX9_halved : MethodName := ⟨RX9, "halved", "(IIII)I"⟩
abbrev cX9_halvedCost : ByteArray := prog_11_method_23_code
def yX9_halvedCost : MethodName := ⟨RX9, "halvedCost", "(IIII)I"⟩
abbrev cX9_half : ByteArray := prog_11_method_24_code
def yX9_half : MethodName := ⟨RX9, "half", "(IZ)I"⟩
abbrev cX9_lays : ByteArray := prog_11_method_25_code
def yX9_lays : MethodName := ⟨RX9, "lays", "()V"⟩
abbrev cX9_part : ByteArray := prog_11_method_26_code
def yX9_part : MethodName := ⟨RX9, "part", "(IZ)I"⟩
abbrev cX9_foretold : ByteArray := prog_11_method_27_code
def yX9_foretold : MethodName := ⟨RX9, "foretold", "(IZ)I"⟩
abbrev cX9_bitsOf : ByteArray := prog_11_method_28_code
def yX9_bitsOf : MethodName := ⟨RX9, "bitsOf", "(I)I"⟩
abbrev cX9_longField : ByteArray := prog_11_method_29_code
def yX9_longField : MethodName := ⟨RX9, "longField", "()I"⟩
abbrev cX9_rebuiltAt : ByteArray := prog_11_method_30_code
def yX9_rebuiltAt : MethodName := ⟨RX9, "rebuiltAt", "(II)I"⟩
abbrev cX9_lacks : ByteArray := prog_11_method_31_code
def yX9_lacks : MethodName := ⟨RX9, "lacks", "()I"⟩
abbrev cX9_pan : ByteArray := prog_11_method_32_code
def yX9_pan : MethodName := ⟨RX9, "pan", "(Z)I"⟩
abbrev cX9_dot : ByteArray := prog_11_method_33_code
def yX9_dot : MethodName := ⟨RX9, "dot", "(III)I"⟩
abbrev cX9_costs : ByteArray := prog_11_method_34_code
def yX9_costs : MethodName := ⟨RX9, "costs", "()I"⟩
abbrev cX9_wrongs : ByteArray := prog_11_method_35_code
def yX9_wrongs : MethodName := ⟨RX9, "wrongs", "()I"⟩
abbrev cX9_count : ByteArray := prog_11_method_36_code
def yX9_count : MethodName := ⟨RX9, "count", "(I)I"⟩
abbrev cX9_type : ByteArray := prog_11_method_37_code
def yX9_type : MethodName := ⟨RX9, "type", "(I)I"⟩
abbrev cX9_here : ByteArray := prog_11_method_38_code
def yX9_here : MethodName := ⟨RX9, "here", "()I"⟩
abbrev cX9_dots : ByteArray := prog_11_method_39_code
def yX9_dots : MethodName := ⟨RX9, "dots", "()I"⟩
abbrev cX9_picture : ByteArray := prog_11_method_40_code
def yX9_picture : MethodName := ⟨RX9, "picture", "()I"⟩
abbrev cX9_notes : ByteArray := prog_11_method_41_code
def yX9_notes : MethodName := ⟨RX9, "notes", "()V"⟩
abbrev cX9_paint : ByteArray := prog_11_method_42_code
def yX9_paint : MethodName := ⟨RX9, "paint", "(III)I"⟩
abbrev cX9_shift : ByteArray := prog_11_method_43_code
def yX9_shift : MethodName := ⟨RX9, "shift", "(II)I"⟩
abbrev cX9_take : ByteArray := prog_11_method_44_code
def yX9_take : MethodName := ⟨RX9, "take", "()I"⟩
abbrev cX9_like : ByteArray := prog_11_method_45_code
def yX9_like : MethodName := ⟨RX9, "like", "(I)I"⟩
abbrev cX9_noise : ByteArray := prog_11_method_46_code
def yX9_noise : MethodName := ⟨RX9, "noise", "(I)I"⟩
abbrev cX9_undo : ByteArray := prog_11_method_47_code
def yX9_undo : MethodName := ⟨RX9, "undo", "()I"⟩
abbrev cX9_seed : ByteArray := prog_11_method_48_code
def yX9_seed : MethodName := ⟨RX9, "seed", "(I)I"⟩
abbrev cX9_cost : ByteArray := prog_11_method_49_code
def yX9_cost : MethodName := ⟨RX9, "cost", "(II)I"⟩
abbrev cX9_of : ByteArray := prog_11_method_50_code
def yX9_of : MethodName := ⟨RX9, "of", "(II)I"⟩
abbrev cX9_rebuilt : ByteArray := prog_11_method_51_code
def yX9_rebuilt : MethodName := ⟨RX9, "rebuilt", "(II)I"⟩
abbrev cX9_wrong : ByteArray := prog_11_method_52_code
def yX9_wrong : MethodName := ⟨RX9, "wrong", "(III)I"⟩
abbrev cX9_image : ByteArray := prog_11_method_53_code
def yX9_image : MethodName := ⟨RX9, "image", "()I"⟩
abbrev cX9_restore : ByteArray := prog_11_method_54_code
def yX9_restore : MethodName := ⟨RX9, "restore", "()I"⟩
abbrev cX9_isSheet : ByteArray := prog_11_method_55_code
def yX9_isSheet : MethodName := ⟨RX9, "isSheet", "(I)Z"⟩
abbrev cX9_cut : ByteArray := prog_11_method_56_code
def yX9_cut : MethodName := ⟨RX9, "cut", "(JI)J"⟩
abbrev cX9_sheet : ByteArray := prog_11_method_57_code
def yX9_sheet : MethodName := ⟨RX9, "sheet", "(III)I"⟩
abbrev cX9_drop : ByteArray := prog_11_method_58_code
def yX9_drop : MethodName := ⟨RX9, "drop", "(I)I"⟩
abbrev cX9_why : ByteArray := prog_11_method_59_code
def yX9_why : MethodName := ⟨RX9, "why", "(IIII)I"⟩
abbrev cX9_item : ByteArray := prog_11_method_60_code
def yX9_item : MethodName := ⟨RX9, "item", "(IIIJ)I"⟩
abbrev cX9_copy : ByteArray := prog_11_method_61_code
def yX9_copy : MethodName := ⟨RX9, "copy", "(IIIII)I"⟩
abbrev cX9_found : ByteArray := prog_11_method_62_code
def yX9_found : MethodName := ⟨RX9, "found", "(IIII)I"⟩
abbrev cX9_film : ByteArray := prog_11_method_63_code
def yX9_film : MethodName := ⟨RX9, "film", "(IIII)I"⟩
def RJ9 : String := "java/lang/Math"
def TJ9 : u_T := fun k => match k with
  | _ => ("", "", "", false)
def tyJ9 : Nat → FieldType := fun k => match k with
  | _ => .int
abbrev wsJ90 : List Cond := u_ws RJ9 TJ9 0
theorem nmJ9 : ∀ a, a < 0 → ∀ b, b < 0 → a ≠ b → (TJ9 a).2.1 ≠ (TJ9 b).2.1 := by decide +kernel
theorem tyJ9_ok : ∀ k, k < 0 → parseFieldDescriptor (TJ9 k).2.2.1 = some (tyJ9 k) := by decide +kernel
abbrev cJ9_abs_0f7a4 : ByteArray := prog_12_method_59_code
def yJ9_abs_0f7a4 : MethodName := ⟨RJ9, "abs", "(I)I"⟩
abbrev cJ9_max_7cf53 : ByteArray := prog_12_method_65_code
def yJ9_max_7cf53 : MethodName := ⟨RJ9, "max", "(II)I"⟩
abbrev cJ9_min_7cf53 : ByteArray := prog_12_method_69_code
def yJ9_min_7cf53 : MethodName := ⟨RJ9, "min", "(II)I"⟩
def RJ10 : String := "java/lang/System"
def TJ10 : u_T := fun k => match k with
  | _ => ("", "", "", false)
def tyJ10 : Nat → FieldType := fun k => match k with
  | _ => .int
abbrev wsJ100 : List Cond := u_ws RJ10 TJ10 0
theorem nmJ10 : ∀ a, a < 0 → ∀ b, b < 0 → a ≠ b → (TJ10 a).2.1 ≠ (TJ10 b).2.1 := by decide +kernel
theorem tyJ10_ok : ∀ k, k < 0 → parseFieldDescriptor (TJ10 k).2.2.1 = some (tyJ10 k) := by decide +kernel
def RL : String := "MovedBlocksLaw"
abbrev cL_law : ByteArray := code
def yL_law : MethodName := ⟨RL, "law", "([I)Z"⟩
abbrev vwCl : List vw_C := [(RX0, TX0, 2), (RX1, TX1, 2), (RX2, TX2, 1), (RX3, TX3, 4), (RX4, TX4, 4), (RX5, TX5, 4), (RX6, TX6, 3), (RX7, TX7, 5), (RX8, TX8, 9), (RX9, TX9, 19)]
end
section
theorem dX0_init_0 : decode cX0_init 0 = .ok (.aload_n 0, 1) := by decide +kernel
theorem dX0_init_1 : decode cX0_init 1 = .ok (.invokespecial 3, 3) := by decide +kernel
theorem dX0_init_4 : decode cX0_init 4 = .ok (.aload_n 0, 1) := by decide +kernel
theorem dX0_init_5 : decode cX0_init 5 = .ok (.bipush 6, 2) := by decide +kernel
theorem dX0_init_7 : decode cX0_init 7 = .ok (.newarray .int, 2) := by decide +kernel
theorem dX0_init_9 : decode cX0_init 9 = .ok (.putfield 9, 3) := by decide +kernel
theorem dX0_init_12 : decode cX0_init 12 = .ok (.aload_n 0, 1) := by decide +kernel
theorem dX0_init_13 : decode cX0_init 13 = .ok (.iconst 3, 1) := by decide +kernel
theorem dX0_init_14 : decode cX0_init 14 = .ok (.newarray .int, 2) := by decide +kernel
theorem dX0_init_16 : decode cX0_init 16 = .ok (.putfield 15, 3) := by decide +kernel
theorem dX0_init_19 : decode cX0_init 19 = .ok (.return_, 1) := by decide +kernel
theorem dX0_fill_0 : decode cX0_fill 0 = .ok (.iconst 0, 1) := by decide +kernel
theorem dX0_fill_1 : decode cX0_fill 1 = .ok (.istore_n 3, 1) := by decide +kernel
theorem dX0_fill_2 : decode cX0_fill 2 = .ok (.iload_n 3, 1) := by decide +kernel
theorem dX0_fill_3 : decode cX0_fill 3 = .ok (.bipush 6, 2) := by decide +kernel
theorem dX0_fill_5 : decode cX0_fill 5 = .ok (.if_icmp .ge 25, 3) := by decide +kernel
theorem dX0_fill_8 : decode cX0_fill 8 = .ok (.aload_n 2, 1) := by decide +kernel
theorem dX0_fill_9 : decode cX0_fill 9 = .ok (.aload_n 1, 1) := by decide +kernel
theorem dX0_fill_10 : decode cX0_fill 10 = .ok (.iload_n 3, 1) := by decide +kernel
theorem dX0_fill_11 : decode cX0_fill 11 = .ok (.invokevirtual 18, 3) := by decide +kernel
theorem dX0_fill_14 : decode cX0_fill 14 = .ok (.aload_n 0, 1) := by decide +kernel
theorem dX0_fill_15 : decode cX0_fill 15 = .ok (.getfield 9, 3) := by decide +kernel
theorem dX0_fill_18 : decode cX0_fill 18 = .ok (.iload_n 3, 1) := by decide +kernel
theorem dX0_fill_19 : decode cX0_fill 19 = .ok (.aload_n 2, 1) := by decide +kernel
theorem dX0_fill_20 : decode cX0_fill 20 = .ok (.getfield 24, 3) := by decide +kernel
theorem dX0_fill_23 : decode cX0_fill 23 = .ok (.iastore, 1) := by decide +kernel
theorem dX0_fill_24 : decode cX0_fill 24 = .ok (.iinc 3 1, 3) := by decide +kernel
theorem dX0_fill_27 : decode cX0_fill 27 = .ok (.goto (-25), 3) := by decide +kernel
theorem dX0_fill_30 : decode cX0_fill 30 = .ok (.return_, 1) := by decide +kernel
theorem dX0_lacks_0 : decode cX0_lacks 0 = .ok (.iconst 0, 1) := by decide +kernel
theorem dX0_lacks_1 : decode cX0_lacks 1 = .ok (.istore_n 2, 1) := by decide +kernel
theorem dX0_lacks_2 : decode cX0_lacks 2 = .ok (.iconst 0, 1) := by decide +kernel
theorem dX0_lacks_3 : decode cX0_lacks 3 = .ok (.istore_n 3, 1) := by decide +kernel
theorem dX0_lacks_4 : decode cX0_lacks 4 = .ok (.iload_n 3, 1) := by decide +kernel
theorem dX0_lacks_5 : decode cX0_lacks 5 = .ok (.bipush 96, 2) := by decide +kernel
theorem dX0_lacks_7 : decode cX0_lacks 7 = .ok (.if_icmp .ge 75, 3) := by decide +kernel
theorem dX0_lacks_10 : decode cX0_lacks 10 = .ok (.iload_n 3, 1) := by decide +kernel
theorem dX0_lacks_11 : decode cX0_lacks 11 = .ok (.bipush 12, 2) := by decide +kernel
theorem dX0_lacks_13 : decode cX0_lacks 13 = .ok (.irem, 1) := by decide +kernel
theorem dX0_lacks_14 : decode cX0_lacks 14 = .ok (.istore 4, 2) := by decide +kernel
theorem dX0_lacks_16 : decode cX0_lacks 16 = .ok (.iload_n 3, 1) := by decide +kernel
theorem dX0_lacks_17 : decode cX0_lacks 17 = .ok (.bipush 12, 2) := by decide +kernel
theorem dX0_lacks_19 : decode cX0_lacks 19 = .ok (.idiv, 1) := by decide +kernel
theorem dX0_lacks_20 : decode cX0_lacks 20 = .ok (.istore 5, 2) := by decide +kernel
theorem dX0_lacks_22 : decode cX0_lacks 22 = .ok (.aload_n 0, 1) := by decide +kernel
theorem dX0_lacks_23 : decode cX0_lacks 23 = .ok (.getfield 9, 3) := by decide +kernel
theorem dX0_lacks_26 : decode cX0_lacks 26 = .ok (.iload 4, 2) := by decide +kernel
theorem dX0_lacks_28 : decode cX0_lacks 28 = .ok (.iload 5, 2) := by decide +kernel
theorem dX0_lacks_30 : decode cX0_lacks 30 = .ok (.invokestatic 28, 3) := by decide +kernel
theorem dX0_lacks_33 : decode cX0_lacks 33 = .ok (.iaload, 1) := by decide +kernel
theorem dX0_lacks_34 : decode cX0_lacks 34 = .ok (.istore 6, 2) := by decide +kernel
theorem dX0_lacks_36 : decode cX0_lacks 36 = .ok (.aload_n 1, 1) := by decide +kernel
theorem dX0_lacks_37 : decode cX0_lacks 37 = .ok (.getfield 32, 3) := by decide +kernel
theorem dX0_lacks_40 : decode cX0_lacks 40 = .ok (.iload 4, 2) := by decide +kernel
theorem dX0_lacks_42 : decode cX0_lacks 42 = .ok (.iload 6, 2) := by decide +kernel
theorem dX0_lacks_44 : decode cX0_lacks 44 = .ok (.invokestatic 38, 3) := by decide +kernel
theorem dX0_lacks_47 : decode cX0_lacks 47 = .ok (.iadd, 1) := by decide +kernel
theorem dX0_lacks_48 : decode cX0_lacks 48 = .ok (.iload 5, 2) := by decide +kernel
theorem dX0_lacks_50 : decode cX0_lacks 50 = .ok (.iload 6, 2) := by decide +kernel
theorem dX0_lacks_52 : decode cX0_lacks 52 = .ok (.invokestatic 42, 3) := by decide +kernel
theorem dX0_lacks_55 : decode cX0_lacks 55 = .ok (.iadd, 1) := by decide +kernel
theorem dX0_lacks_56 : decode cX0_lacks 56 = .ok (.invokevirtual 45, 3) := by decide +kernel
theorem dX0_lacks_59 : decode cX0_lacks 59 = .ok (.aload_n 1, 1) := by decide +kernel
theorem dX0_lacks_60 : decode cX0_lacks 60 = .ok (.getfield 50, 3) := by decide +kernel
theorem dX0_lacks_63 : decode cX0_lacks 63 = .ok (.iload 4, 2) := by decide +kernel
theorem dX0_lacks_65 : decode cX0_lacks 65 = .ok (.iload 5, 2) := by decide +kernel
theorem dX0_lacks_67 : decode cX0_lacks 67 = .ok (.invokevirtual 45, 3) := by decide +kernel
theorem dX0_lacks_70 : decode cX0_lacks 70 = .ok (.if_icmp .eq 6, 3) := by decide +kernel
theorem dX0_lacks_73 : decode cX0_lacks 73 = .ok (.iinc 2 1, 3) := by decide +kernel
theorem dX0_lacks_76 : decode cX0_lacks 76 = .ok (.iinc 3 1, 3) := by decide +kernel
theorem dX0_lacks_79 : decode cX0_lacks 79 = .ok (.goto (-75), 3) := by decide +kernel
theorem dX0_lacks_82 : decode cX0_lacks 82 = .ok (.iload_n 2, 1) := by decide +kernel
theorem dX0_lacks_83 : decode cX0_lacks 83 = .ok (.ireturn, 1) := by decide +kernel
theorem dX0_length_0 : decode cX0_length 0 = .ok (.iconst 0, 1) := by decide +kernel
theorem dX0_length_1 : decode cX0_length 1 = .ok (.istore_n 1, 1) := by decide +kernel
theorem dX0_length_2 : decode cX0_length 2 = .ok (.iconst 0, 1) := by decide +kernel
theorem dX0_length_3 : decode cX0_length 3 = .ok (.istore_n 2, 1) := by decide +kernel
theorem dX0_length_4 : decode cX0_length 4 = .ok (.iload_n 2, 1) := by decide +kernel
theorem dX0_length_5 : decode cX0_length 5 = .ok (.bipush 6, 2) := by decide +kernel
theorem dX0_length_7 : decode cX0_length 7 = .ok (.if_icmp .ge 53, 3) := by decide +kernel
theorem dX0_length_10 : decode cX0_length 10 = .ok (.iload_n 1, 1) := by decide +kernel
theorem dX0_length_11 : decode cX0_length 11 = .ok (.aload_n 0, 1) := by decide +kernel
theorem dX0_length_12 : decode cX0_length 12 = .ok (.getfield 9, 3) := by decide +kernel
theorem dX0_length_15 : decode cX0_length 15 = .ok (.iload_n 2, 1) := by decide +kernel
theorem dX0_length_16 : decode cX0_length 16 = .ok (.iaload, 1) := by decide +kernel
theorem dX0_length_17 : decode cX0_length 17 = .ok (.invokestatic 38, 3) := by decide +kernel
theorem dX0_length_20 : decode cX0_length 20 = .ok (.aload_n 0, 1) := by decide +kernel
theorem dX0_length_21 : decode cX0_length 21 = .ok (.iload_n 2, 1) := by decide +kernel
theorem dX0_length_22 : decode cX0_length 22 = .ok (.iconst 1, 1) := by decide +kernel
theorem dX0_length_23 : decode cX0_length 23 = .ok (.invokevirtual 53, 3) := by decide +kernel
theorem dX0_length_26 : decode cX0_length 26 = .ok (.isub, 1) := by decide +kernel
theorem dX0_length_27 : decode cX0_length 27 = .ok (.invokestatic 57, 3) := by decide +kernel
theorem dX0_length_30 : decode cX0_length 30 = .ok (.iadd, 1) := by decide +kernel
theorem dX0_length_31 : decode cX0_length 31 = .ok (.istore_n 1, 1) := by decide +kernel
theorem dX0_length_32 : decode cX0_length 32 = .ok (.iload_n 1, 1) := by decide +kernel
theorem dX0_length_33 : decode cX0_length 33 = .ok (.aload_n 0, 1) := by decide +kernel
theorem dX0_length_34 : decode cX0_length 34 = .ok (.getfield 9, 3) := by decide +kernel
theorem dX0_length_37 : decode cX0_length 37 = .ok (.iload_n 2, 1) := by decide +kernel
theorem dX0_length_38 : decode cX0_length 38 = .ok (.iaload, 1) := by decide +kernel
theorem dX0_length_39 : decode cX0_length 39 = .ok (.invokestatic 42, 3) := by decide +kernel
theorem dX0_length_42 : decode cX0_length 42 = .ok (.aload_n 0, 1) := by decide +kernel
theorem dX0_length_43 : decode cX0_length 43 = .ok (.iload_n 2, 1) := by decide +kernel
theorem dX0_length_44 : decode cX0_length 44 = .ok (.iconst 0, 1) := by decide +kernel
theorem dX0_length_45 : decode cX0_length 45 = .ok (.invokevirtual 53, 3) := by decide +kernel
theorem dX0_length_48 : decode cX0_length 48 = .ok (.isub, 1) := by decide +kernel
theorem dX0_length_49 : decode cX0_length 49 = .ok (.invokestatic 57, 3) := by decide +kernel
theorem dX0_length_52 : decode cX0_length 52 = .ok (.iadd, 1) := by decide +kernel
theorem dX0_length_53 : decode cX0_length 53 = .ok (.istore_n 1, 1) := by decide +kernel
theorem dX0_length_54 : decode cX0_length 54 = .ok (.iinc 2 1, 3) := by decide +kernel
theorem dX0_length_57 : decode cX0_length 57 = .ok (.goto (-53), 3) := by decide +kernel
theorem dX0_length_60 : decode cX0_length 60 = .ok (.iload_n 1, 1) := by decide +kernel
theorem dX0_length_61 : decode cX0_length 61 = .ok (.ireturn, 1) := by decide +kernel
theorem dX0_foretold_0 : decode cX0_foretold 0 = .ok (.iload_n 1, 1) := by decide +kernel
theorem dX0_foretold_1 : decode cX0_foretold 1 = .ok (.iconst 3, 1) := by decide +kernel
theorem dX0_foretold_2 : decode cX0_foretold 2 = .ok (.irem, 1) := by decide +kernel
theorem dX0_foretold_3 : decode cX0_foretold 3 = .ok (.ifCond .le 7, 3) := by decide +kernel
theorem dX0_foretold_6 : decode cX0_foretold 6 = .ok (.iconst 1, 1) := by decide +kernel
theorem dX0_foretold_7 : decode cX0_foretold 7 = .ok (.goto 4, 3) := by decide +kernel
theorem dX0_foretold_10 : decode cX0_foretold 10 = .ok (.iconst 0, 1) := by decide +kernel
theorem dX0_foretold_11 : decode cX0_foretold 11 = .ok (.istore_n 3, 1) := by decide +kernel
theorem dX0_foretold_12 : decode cX0_foretold 12 = .ok (.iload_n 1, 1) := by decide +kernel
theorem dX0_foretold_13 : decode cX0_foretold 13 = .ok (.iconst 3, 1) := by decide +kernel
theorem dX0_foretold_14 : decode cX0_foretold 14 = .ok (.if_icmp .lt 7, 3) := by decide +kernel
theorem dX0_foretold_17 : decode cX0_foretold 17 = .ok (.iconst 1, 1) := by decide +kernel
theorem dX0_foretold_18 : decode cX0_foretold 18 = .ok (.goto 4, 3) := by decide +kernel
theorem dX0_foretold_21 : decode cX0_foretold 21 = .ok (.iconst 0, 1) := by decide +kernel
theorem dX0_foretold_22 : decode cX0_foretold 22 = .ok (.istore 4, 2) := by decide +kernel
theorem dX0_foretold_24 : decode cX0_foretold 24 = .ok (.iload_n 1, 1) := by decide +kernel
theorem dX0_foretold_25 : decode cX0_foretold 25 = .ok (.iconst 3, 1) := by decide +kernel
theorem dX0_foretold_26 : decode cX0_foretold 26 = .ok (.irem, 1) := by decide +kernel
theorem dX0_foretold_27 : decode cX0_foretold 27 = .ok (.iconst 2, 1) := by decide +kernel
theorem dX0_foretold_28 : decode cX0_foretold 28 = .ok (.if_icmp .ge 7, 3) := by decide +kernel
theorem dX0_foretold_31 : decode cX0_foretold 31 = .ok (.iconst 1, 1) := by decide +kernel
theorem dX0_foretold_32 : decode cX0_foretold 32 = .ok (.goto 4, 3) := by decide +kernel
theorem dX0_foretold_35 : decode cX0_foretold 35 = .ok (.iconst 0, 1) := by decide +kernel
theorem dX0_foretold_36 : decode cX0_foretold 36 = .ok (.istore 5, 2) := by decide +kernel
theorem dX0_foretold_38 : decode cX0_foretold 38 = .ok (.iconst 0, 1) := by decide +kernel
theorem dX0_foretold_39 : decode cX0_foretold 39 = .ok (.istore 6, 2) := by decide +kernel
theorem dX0_foretold_41 : decode cX0_foretold 41 = .ok (.iload_n 3, 1) := by decide +kernel
theorem dX0_foretold_42 : decode cX0_foretold 42 = .ok (.ifCond .eq 21, 3) := by decide +kernel
theorem dX0_foretold_45 : decode cX0_foretold 45 = .ok (.aload_n 0, 1) := by decide +kernel
theorem dX0_foretold_46 : decode cX0_foretold 46 = .ok (.getfield 15, 3) := by decide +kernel
theorem dX0_foretold_49 : decode cX0_foretold 49 = .ok (.iload 6, 2) := by decide +kernel
theorem dX0_foretold_51 : decode cX0_foretold 51 = .ok (.aload_n 0, 1) := by decide +kernel
theorem dX0_foretold_52 : decode cX0_foretold 52 = .ok (.iload_n 1, 1) := by decide +kernel
theorem dX0_foretold_53 : decode cX0_foretold 53 = .ok (.iconst 1, 1) := by decide +kernel
theorem dX0_foretold_54 : decode cX0_foretold 54 = .ok (.isub, 1) := by decide +kernel
theorem dX0_foretold_55 : decode cX0_foretold 55 = .ok (.iload_n 2, 1) := by decide +kernel
theorem dX0_foretold_56 : decode cX0_foretold 56 = .ok (.invokevirtual 60, 3) := by decide +kernel
theorem dX0_foretold_59 : decode cX0_foretold 59 = .ok (.iastore, 1) := by decide +kernel
theorem dX0_foretold_60 : decode cX0_foretold 60 = .ok (.iinc 6 1, 3) := by decide +kernel
theorem dX0_foretold_63 : decode cX0_foretold 63 = .ok (.iload 4, 2) := by decide +kernel
theorem dX0_foretold_65 : decode cX0_foretold 65 = .ok (.ifCond .eq 21, 3) := by decide +kernel
theorem dX0_foretold_68 : decode cX0_foretold 68 = .ok (.aload_n 0, 1) := by decide +kernel
theorem dX0_foretold_69 : decode cX0_foretold 69 = .ok (.getfield 15, 3) := by decide +kernel
theorem dX0_foretold_72 : decode cX0_foretold 72 = .ok (.iload 6, 2) := by decide +kernel
theorem dX0_foretold_74 : decode cX0_foretold 74 = .ok (.aload_n 0, 1) := by decide +kernel
theorem dX0_foretold_75 : decode cX0_foretold 75 = .ok (.iload_n 1, 1) := by decide +kernel
theorem dX0_foretold_76 : decode cX0_foretold 76 = .ok (.iconst 3, 1) := by decide +kernel
theorem dX0_foretold_77 : decode cX0_foretold 77 = .ok (.isub, 1) := by decide +kernel
theorem dX0_foretold_78 : decode cX0_foretold 78 = .ok (.iload_n 2, 1) := by decide +kernel
theorem dX0_foretold_79 : decode cX0_foretold 79 = .ok (.invokevirtual 60, 3) := by decide +kernel
theorem dX0_foretold_82 : decode cX0_foretold 82 = .ok (.iastore, 1) := by decide +kernel
theorem dX0_foretold_83 : decode cX0_foretold 83 = .ok (.iinc 6 1, 3) := by decide +kernel
theorem dX0_foretold_86 : decode cX0_foretold 86 = .ok (.iload 4, 2) := by decide +kernel
theorem dX0_foretold_88 : decode cX0_foretold 88 = .ok (.ifCond .eq 28, 3) := by decide +kernel
theorem dX0_foretold_91 : decode cX0_foretold 91 = .ok (.iload 5, 2) := by decide +kernel
theorem dX0_foretold_93 : decode cX0_foretold 93 = .ok (.ifCond .eq 23, 3) := by decide +kernel
theorem dX0_foretold_96 : decode cX0_foretold 96 = .ok (.aload_n 0, 1) := by decide +kernel
theorem dX0_foretold_97 : decode cX0_foretold 97 = .ok (.getfield 15, 3) := by decide +kernel
theorem dX0_foretold_100 : decode cX0_foretold 100 = .ok (.iload 6, 2) := by decide +kernel
theorem dX0_foretold_102 : decode cX0_foretold 102 = .ok (.aload_n 0, 1) := by decide +kernel
theorem dX0_foretold_103 : decode cX0_foretold 103 = .ok (.iload_n 1, 1) := by decide +kernel
theorem dX0_foretold_104 : decode cX0_foretold 104 = .ok (.iconst 3, 1) := by decide +kernel
theorem dX0_foretold_105 : decode cX0_foretold 105 = .ok (.isub, 1) := by decide +kernel
theorem dX0_foretold_106 : decode cX0_foretold 106 = .ok (.iconst 1, 1) := by decide +kernel
theorem dX0_foretold_107 : decode cX0_foretold 107 = .ok (.iadd, 1) := by decide +kernel
theorem dX0_foretold_108 : decode cX0_foretold 108 = .ok (.iload_n 2, 1) := by decide +kernel
theorem dX0_foretold_109 : decode cX0_foretold 109 = .ok (.invokevirtual 60, 3) := by decide +kernel
theorem dX0_foretold_112 : decode cX0_foretold 112 = .ok (.iastore, 1) := by decide +kernel
theorem dX0_foretold_113 : decode cX0_foretold 113 = .ok (.iinc 6 1, 3) := by decide +kernel
theorem dX0_foretold_116 : decode cX0_foretold 116 = .ok (.aload_n 0, 1) := by decide +kernel
theorem dX0_foretold_117 : decode cX0_foretold 117 = .ok (.iload 6, 2) := by decide +kernel
theorem dX0_foretold_119 : decode cX0_foretold 119 = .ok (.invokevirtual 63, 3) := by decide +kernel
theorem dX0_foretold_122 : decode cX0_foretold 122 = .ok (.ireturn, 1) := by decide +kernel
theorem dX0_partOf_0 : decode cX0_partOf 0 = .ok (.iload_n 2, 1) := by decide +kernel
theorem dX0_partOf_1 : decode cX0_partOf 1 = .ok (.ifCond .eq 15, 3) := by decide +kernel
theorem dX0_partOf_4 : decode cX0_partOf 4 = .ok (.aload_n 0, 1) := by decide +kernel
theorem dX0_partOf_5 : decode cX0_partOf 5 = .ok (.getfield 9, 3) := by decide +kernel
theorem dX0_partOf_8 : decode cX0_partOf 8 = .ok (.iload_n 1, 1) := by decide +kernel
theorem dX0_partOf_9 : decode cX0_partOf 9 = .ok (.iaload, 1) := by decide +kernel
theorem dX0_partOf_10 : decode cX0_partOf 10 = .ok (.invokestatic 38, 3) := by decide +kernel
theorem dX0_partOf_13 : decode cX0_partOf 13 = .ok (.goto 12, 3) := by decide +kernel
theorem dX0_partOf_16 : decode cX0_partOf 16 = .ok (.aload_n 0, 1) := by decide +kernel
theorem dX0_partOf_17 : decode cX0_partOf 17 = .ok (.getfield 9, 3) := by decide +kernel
theorem dX0_partOf_20 : decode cX0_partOf 20 = .ok (.iload_n 1, 1) := by decide +kernel
theorem dX0_partOf_21 : decode cX0_partOf 21 = .ok (.iaload, 1) := by decide +kernel
theorem dX0_partOf_22 : decode cX0_partOf 22 = .ok (.invokestatic 42, 3) := by decide +kernel
theorem dX0_partOf_25 : decode cX0_partOf 25 = .ok (.ireturn, 1) := by decide +kernel
theorem dX0_middle_0 : decode cX0_middle 0 = .ok (.iload_n 1, 1) := by decide +kernel
theorem dX0_middle_1 : decode cX0_middle 1 = .ok (.tableswitch 52 0 2 #[27, 29, 36], 27) := by decide +kernel
theorem dX0_middle_28 : decode cX0_middle 28 = .ok (.iconst 0, 1) := by decide +kernel
theorem dX0_middle_29 : decode cX0_middle 29 = .ok (.ireturn, 1) := by decide +kernel
theorem dX0_middle_30 : decode cX0_middle 30 = .ok (.aload_n 0, 1) := by decide +kernel
theorem dX0_middle_31 : decode cX0_middle 31 = .ok (.getfield 15, 3) := by decide +kernel
theorem dX0_middle_34 : decode cX0_middle 34 = .ok (.iconst 0, 1) := by decide +kernel
theorem dX0_middle_35 : decode cX0_middle 35 = .ok (.iaload, 1) := by decide +kernel
theorem dX0_middle_36 : decode cX0_middle 36 = .ok (.ireturn, 1) := by decide +kernel
theorem dX0_middle_37 : decode cX0_middle 37 = .ok (.aload_n 0, 1) := by decide +kernel
theorem dX0_middle_38 : decode cX0_middle 38 = .ok (.getfield 15, 3) := by decide +kernel
theorem dX0_middle_41 : decode cX0_middle 41 = .ok (.iconst 0, 1) := by decide +kernel
theorem dX0_middle_42 : decode cX0_middle 42 = .ok (.iaload, 1) := by decide +kernel
theorem dX0_middle_43 : decode cX0_middle 43 = .ok (.aload_n 0, 1) := by decide +kernel
theorem dX0_middle_44 : decode cX0_middle 44 = .ok (.getfield 15, 3) := by decide +kernel
theorem dX0_middle_47 : decode cX0_middle 47 = .ok (.iconst 1, 1) := by decide +kernel
theorem dX0_middle_48 : decode cX0_middle 48 = .ok (.iaload, 1) := by decide +kernel
theorem dX0_middle_49 : decode cX0_middle 49 = .ok (.invokestatic 66, 3) := by decide +kernel
theorem dX0_middle_52 : decode cX0_middle 52 = .ok (.ireturn, 1) := by decide +kernel
theorem dX0_middle_53 : decode cX0_middle 53 = .ok (.aload_n 0, 1) := by decide +kernel
theorem dX0_middle_54 : decode cX0_middle 54 = .ok (.getfield 15, 3) := by decide +kernel
theorem dX0_middle_57 : decode cX0_middle 57 = .ok (.iconst 0, 1) := by decide +kernel
theorem dX0_middle_58 : decode cX0_middle 58 = .ok (.iaload, 1) := by decide +kernel
theorem dX0_middle_59 : decode cX0_middle 59 = .ok (.aload_n 0, 1) := by decide +kernel
theorem dX0_middle_60 : decode cX0_middle 60 = .ok (.getfield 15, 3) := by decide +kernel
theorem dX0_middle_63 : decode cX0_middle 63 = .ok (.iconst 1, 1) := by decide +kernel
theorem dX0_middle_64 : decode cX0_middle 64 = .ok (.iaload, 1) := by decide +kernel
theorem dX0_middle_65 : decode cX0_middle 65 = .ok (.invokestatic 66, 3) := by decide +kernel
theorem dX0_middle_68 : decode cX0_middle 68 = .ok (.istore_n 2, 1) := by decide +kernel
theorem dX0_middle_69 : decode cX0_middle 69 = .ok (.aload_n 0, 1) := by decide +kernel
theorem dX0_middle_70 : decode cX0_middle 70 = .ok (.getfield 15, 3) := by decide +kernel
theorem dX0_middle_73 : decode cX0_middle 73 = .ok (.iconst 0, 1) := by decide +kernel
theorem dX0_middle_74 : decode cX0_middle 74 = .ok (.iaload, 1) := by decide +kernel
theorem dX0_middle_75 : decode cX0_middle 75 = .ok (.aload_n 0, 1) := by decide +kernel
theorem dX0_middle_76 : decode cX0_middle 76 = .ok (.getfield 15, 3) := by decide +kernel
theorem dX0_middle_79 : decode cX0_middle 79 = .ok (.iconst 1, 1) := by decide +kernel
theorem dX0_middle_80 : decode cX0_middle 80 = .ok (.iaload, 1) := by decide +kernel
theorem dX0_middle_81 : decode cX0_middle 81 = .ok (.invokestatic 71, 3) := by decide +kernel
theorem dX0_middle_84 : decode cX0_middle 84 = .ok (.istore_n 3, 1) := by decide +kernel
theorem dX0_middle_85 : decode cX0_middle 85 = .ok (.iload_n 2, 1) := by decide +kernel
theorem dX0_middle_86 : decode cX0_middle 86 = .ok (.iload_n 3, 1) := by decide +kernel
theorem dX0_middle_87 : decode cX0_middle 87 = .ok (.aload_n 0, 1) := by decide +kernel
theorem dX0_middle_88 : decode cX0_middle 88 = .ok (.getfield 15, 3) := by decide +kernel
theorem dX0_middle_91 : decode cX0_middle 91 = .ok (.iconst 2, 1) := by decide +kernel
theorem dX0_middle_92 : decode cX0_middle 92 = .ok (.iaload, 1) := by decide +kernel
theorem dX0_middle_93 : decode cX0_middle 93 = .ok (.invokestatic 66, 3) := by decide +kernel
theorem dX0_middle_96 : decode cX0_middle 96 = .ok (.invokestatic 71, 3) := by decide +kernel
theorem dX0_middle_99 : decode cX0_middle 99 = .ok (.ireturn, 1) := by decide +kernel
theorem dX0_bitsOf_0 : decode cX0_bitsOf 0 = .ok (.iload_n 0, 1) := by decide +kernel
theorem dX0_bitsOf_1 : decode cX0_bitsOf 1 = .ok (.invokestatic 74, 3) := by decide +kernel
theorem dX0_bitsOf_4 : decode cX0_bitsOf 4 = .ok (.istore_n 1, 1) := by decide +kernel
theorem dX0_bitsOf_5 : decode cX0_bitsOf 5 = .ok (.iconst 1, 1) := by decide +kernel
theorem dX0_bitsOf_6 : decode cX0_bitsOf 6 = .ok (.istore_n 2, 1) := by decide +kernel
theorem dX0_bitsOf_7 : decode cX0_bitsOf 7 = .ok (.iconst 0, 1) := by decide +kernel
theorem dX0_bitsOf_8 : decode cX0_bitsOf 8 = .ok (.istore_n 3, 1) := by decide +kernel
theorem dX0_bitsOf_9 : decode cX0_bitsOf 9 = .ok (.iload_n 3, 1) := by decide +kernel
theorem dX0_bitsOf_10 : decode cX0_bitsOf 10 = .ok (.bipush 31, 2) := by decide +kernel
theorem dX0_bitsOf_12 : decode cX0_bitsOf 12 = .ok (.if_icmp .ge 18, 3) := by decide +kernel
theorem dX0_bitsOf_15 : decode cX0_bitsOf 15 = .ok (.iload_n 1, 1) := by decide +kernel
theorem dX0_bitsOf_16 : decode cX0_bitsOf 16 = .ok (.iload_n 3, 1) := by decide +kernel
theorem dX0_bitsOf_17 : decode cX0_bitsOf 17 = .ok (.ishr, 1) := by decide +kernel
theorem dX0_bitsOf_18 : decode cX0_bitsOf 18 = .ok (.ifCond .le 6, 3) := by decide +kernel
theorem dX0_bitsOf_21 : decode cX0_bitsOf 21 = .ok (.iinc 2 2, 3) := by decide +kernel
theorem dX0_bitsOf_24 : decode cX0_bitsOf 24 = .ok (.iinc 3 1, 3) := by decide +kernel
theorem dX0_bitsOf_27 : decode cX0_bitsOf 27 = .ok (.goto (-18), 3) := by decide +kernel
theorem dX0_bitsOf_30 : decode cX0_bitsOf 30 = .ok (.iload_n 2, 1) := by decide +kernel
theorem dX0_bitsOf_31 : decode cX0_bitsOf 31 = .ok (.ireturn, 1) := by decide +kernel
theorem dX1_init_0 : decode cX1_init 0 = .ok (.aload_n 0, 1) := by decide +kernel
theorem dX1_init_1 : decode cX1_init 1 = .ok (.invokespecial 3, 3) := by decide +kernel
theorem dX1_init_4 : decode cX1_init 4 = .ok (.aload_n 0, 1) := by decide +kernel
theorem dX1_init_5 : decode cX1_init 5 = .ok (.iconst 0, 1) := by decide +kernel
theorem dX1_init_6 : decode cX1_init 6 = .ok (.putfield 9, 3) := by decide +kernel
theorem dX1_init_9 : decode cX1_init 9 = .ok (.aload_n 0, 1) := by decide +kernel
theorem dX1_init_10 : decode cX1_init 10 = .ok (.iconst 0, 1) := by decide +kernel
theorem dX1_init_11 : decode cX1_init 11 = .ok (.putfield 15, 3) := by decide +kernel
theorem dX1_init_14 : decode cX1_init 14 = .ok (.return_, 1) := by decide +kernel
theorem dX1_look_0 : decode cX1_look 0 = .ok (.aload_n 0, 1) := by decide +kernel
theorem dX1_look_1 : decode cX1_look 1 = .ok (.ldc 20, 2) := by decide +kernel
theorem dX1_look_3 : decode cX1_look 3 = .ok (.putfield 15, 3) := by decide +kernel
theorem dX1_look_6 : decode cX1_look 6 = .ok (.iconst 0, 1) := by decide +kernel
theorem dX1_look_7 : decode cX1_look 7 = .ok (.istore 4, 2) := by decide +kernel
theorem dX1_look_9 : decode cX1_look 9 = .ok (.iload 4, 2) := by decide +kernel
theorem dX1_look_11 : decode cX1_look 11 = .ok (.bipush 9, 2) := by decide +kernel
theorem dX1_look_13 : decode cX1_look 13 = .ok (.if_icmp .ge 50, 3) := by decide +kernel
theorem dX1_look_16 : decode cX1_look 16 = .ok (.aload_n 1, 1) := by decide +kernel
theorem dX1_look_17 : decode cX1_look 17 = .ok (.iload_n 2, 1) := by decide +kernel
theorem dX1_look_18 : decode cX1_look 18 = .ok (.iload_n 3, 1) := by decide +kernel
theorem dX1_look_19 : decode cX1_look 19 = .ok (.iload 4, 2) := by decide +kernel
theorem dX1_look_21 : decode cX1_look 21 = .ok (.iconst 3, 1) := by decide +kernel
theorem dX1_look_22 : decode cX1_look 22 = .ok (.irem, 1) := by decide +kernel
theorem dX1_look_23 : decode cX1_look 23 = .ok (.iconst 1, 1) := by decide +kernel
theorem dX1_look_24 : decode cX1_look 24 = .ok (.isub, 1) := by decide +kernel
theorem dX1_look_25 : decode cX1_look 25 = .ok (.iload 4, 2) := by decide +kernel
theorem dX1_look_27 : decode cX1_look 27 = .ok (.iconst 3, 1) := by decide +kernel
theorem dX1_look_28 : decode cX1_look 28 = .ok (.idiv, 1) := by decide +kernel
theorem dX1_look_29 : decode cX1_look 29 = .ok (.iconst 1, 1) := by decide +kernel
theorem dX1_look_30 : decode cX1_look 30 = .ok (.isub, 1) := by decide +kernel
theorem dX1_look_31 : decode cX1_look 31 = .ok (.invokestatic 21, 3) := by decide +kernel
theorem dX1_look_34 : decode cX1_look 34 = .ok (.istore 5, 2) := by decide +kernel
theorem dX1_look_36 : decode cX1_look 36 = .ok (.iload 5, 2) := by decide +kernel
theorem dX1_look_38 : decode cX1_look 38 = .ok (.aload_n 0, 1) := by decide +kernel
theorem dX1_look_39 : decode cX1_look 39 = .ok (.getfield 15, 3) := by decide +kernel
theorem dX1_look_42 : decode cX1_look 42 = .ok (.if_icmp .ge 15, 3) := by decide +kernel
theorem dX1_look_45 : decode cX1_look 45 = .ok (.aload_n 0, 1) := by decide +kernel
theorem dX1_look_46 : decode cX1_look 46 = .ok (.iload 5, 2) := by decide +kernel
theorem dX1_look_48 : decode cX1_look 48 = .ok (.putfield 15, 3) := by decide +kernel
theorem dX1_look_51 : decode cX1_look 51 = .ok (.aload_n 0, 1) := by decide +kernel
theorem dX1_look_52 : decode cX1_look 52 = .ok (.iload 4, 2) := by decide +kernel
theorem dX1_look_54 : decode cX1_look 54 = .ok (.putfield 9, 3) := by decide +kernel
theorem dX1_look_57 : decode cX1_look 57 = .ok (.iinc 4 1, 3) := by decide +kernel
theorem dX1_look_60 : decode cX1_look 60 = .ok (.goto (-51), 3) := by decide +kernel
theorem dX1_look_63 : decode cX1_look 63 = .ok (.return_, 1) := by decide +kernel
theorem dX1_costBy_0 : decode cX1_costBy 0 = .ok (.iconst 0, 1) := by decide +kernel
theorem dX1_costBy_1 : decode cX1_costBy 1 = .ok (.istore 5, 2) := by decide +kernel
theorem dX1_costBy_3 : decode cX1_costBy 3 = .ok (.iconst 0, 1) := by decide +kernel
theorem dX1_costBy_4 : decode cX1_costBy 4 = .ok (.istore 6, 2) := by decide +kernel
theorem dX1_costBy_6 : decode cX1_costBy 6 = .ok (.iload 6, 2) := by decide +kernel
theorem dX1_costBy_8 : decode cX1_costBy 8 = .ok (.bipush 16, 2) := by decide +kernel
theorem dX1_costBy_10 : decode cX1_costBy 10 = .ok (.if_icmp .ge 79, 3) := by decide +kernel
theorem dX1_costBy_13 : decode cX1_costBy 13 = .ok (.iload_n 1, 1) := by decide +kernel
theorem dX1_costBy_14 : decode cX1_costBy 14 = .ok (.invokestatic 25, 3) := by decide +kernel
theorem dX1_costBy_17 : decode cX1_costBy 17 = .ok (.iload 6, 2) := by decide +kernel
theorem dX1_costBy_19 : decode cX1_costBy 19 = .ok (.iconst 4, 1) := by decide +kernel
theorem dX1_costBy_20 : decode cX1_costBy 20 = .ok (.irem, 1) := by decide +kernel
theorem dX1_costBy_21 : decode cX1_costBy 21 = .ok (.iadd, 1) := by decide +kernel
theorem dX1_costBy_22 : decode cX1_costBy 22 = .ok (.istore 7, 2) := by decide +kernel
theorem dX1_costBy_24 : decode cX1_costBy 24 = .ok (.iload_n 1, 1) := by decide +kernel
theorem dX1_costBy_25 : decode cX1_costBy 25 = .ok (.invokestatic 29, 3) := by decide +kernel
theorem dX1_costBy_28 : decode cX1_costBy 28 = .ok (.iload 6, 2) := by decide +kernel
theorem dX1_costBy_30 : decode cX1_costBy 30 = .ok (.iconst 4, 1) := by decide +kernel
theorem dX1_costBy_31 : decode cX1_costBy 31 = .ok (.idiv, 1) := by decide +kernel
theorem dX1_costBy_32 : decode cX1_costBy 32 = .ok (.iadd, 1) := by decide +kernel
theorem dX1_costBy_33 : decode cX1_costBy 33 = .ok (.istore 8, 2) := by decide +kernel
theorem dX1_costBy_35 : decode cX1_costBy 35 = .ok (.aload_n 0, 1) := by decide +kernel
theorem dX1_costBy_36 : decode cX1_costBy 36 = .ok (.getfield 32, 3) := by decide +kernel
theorem dX1_costBy_39 : decode cX1_costBy 39 = .ok (.iload 7, 2) := by decide +kernel
theorem dX1_costBy_41 : decode cX1_costBy 41 = .ok (.iload_n 2, 1) := by decide +kernel
theorem dX1_costBy_42 : decode cX1_costBy 42 = .ok (.invokestatic 38, 3) := by decide +kernel
theorem dX1_costBy_45 : decode cX1_costBy 45 = .ok (.iadd, 1) := by decide +kernel
theorem dX1_costBy_46 : decode cX1_costBy 46 = .ok (.iload 8, 2) := by decide +kernel
theorem dX1_costBy_48 : decode cX1_costBy 48 = .ok (.iload_n 2, 1) := by decide +kernel
theorem dX1_costBy_49 : decode cX1_costBy 49 = .ok (.invokestatic 41, 3) := by decide +kernel
theorem dX1_costBy_52 : decode cX1_costBy 52 = .ok (.iadd, 1) := by decide +kernel
theorem dX1_costBy_53 : decode cX1_costBy 53 = .ok (.iload_n 3, 1) := by decide +kernel
theorem dX1_costBy_54 : decode cX1_costBy 54 = .ok (.iload 4, 2) := by decide +kernel
theorem dX1_costBy_56 : decode cX1_costBy 56 = .ok (.invokestatic 44, 3) := by decide +kernel
theorem dX1_costBy_59 : decode cX1_costBy 59 = .ok (.istore 9, 2) := by decide +kernel
theorem dX1_costBy_61 : decode cX1_costBy 61 = .ok (.iload 5, 2) := by decide +kernel
theorem dX1_costBy_63 : decode cX1_costBy 63 = .ok (.aload_n 0, 1) := by decide +kernel
theorem dX1_costBy_64 : decode cX1_costBy 64 = .ok (.getfield 48, 3) := by decide +kernel
theorem dX1_costBy_67 : decode cX1_costBy 67 = .ok (.iload 7, 2) := by decide +kernel
theorem dX1_costBy_69 : decode cX1_costBy 69 = .ok (.iload 8, 2) := by decide +kernel
theorem dX1_costBy_71 : decode cX1_costBy 71 = .ok (.invokevirtual 51, 3) := by decide +kernel
theorem dX1_costBy_74 : decode cX1_costBy 74 = .ok (.iload 9, 2) := by decide +kernel
theorem dX1_costBy_76 : decode cX1_costBy 76 = .ok (.isub, 1) := by decide +kernel
theorem dX1_costBy_77 : decode cX1_costBy 77 = .ok (.invokestatic 57, 3) := by decide +kernel
theorem dX1_costBy_80 : decode cX1_costBy 80 = .ok (.iadd, 1) := by decide +kernel
theorem dX1_costBy_81 : decode cX1_costBy 81 = .ok (.istore 5, 2) := by decide +kernel
theorem dX1_costBy_83 : decode cX1_costBy 83 = .ok (.iinc 6 1, 3) := by decide +kernel
theorem dX1_costBy_86 : decode cX1_costBy 86 = .ok (.goto (-80), 3) := by decide +kernel
theorem dX1_costBy_89 : decode cX1_costBy 89 = .ok (.iload 5, 2) := by decide +kernel
theorem dX1_costBy_91 : decode cX1_costBy 91 = .ok (.ireturn, 1) := by decide +kernel
theorem dX1_between_0 : decode cX1_between 0 = .ok (.aload_n 0, 1) := by decide +kernel
theorem dX1_between_1 : decode cX1_between 1 = .ok (.iload_n 1, 1) := by decide +kernel
theorem dX1_between_2 : decode cX1_between 2 = .ok (.iload_n 2, 1) := by decide +kernel
theorem dX1_between_3 : decode cX1_between 3 = .ok (.invokevirtual 51, 3) := by decide +kernel
theorem dX1_between_6 : decode cX1_between 6 = .ok (.istore 5, 2) := by decide +kernel
theorem dX1_between_8 : decode cX1_between 8 = .ok (.iload_n 3, 1) := by decide +kernel
theorem dX1_between_9 : decode cX1_between 9 = .ok (.ifCond .ne 11, 3) := by decide +kernel
theorem dX1_between_12 : decode cX1_between 12 = .ok (.iload 4, 2) := by decide +kernel
theorem dX1_between_14 : decode cX1_between 14 = .ok (.ifCond .ne 6, 3) := by decide +kernel
theorem dX1_between_17 : decode cX1_between 17 = .ok (.iload 5, 2) := by decide +kernel
theorem dX1_between_19 : decode cX1_between 19 = .ok (.ireturn, 1) := by decide +kernel
theorem dX1_between_20 : decode cX1_between 20 = .ok (.iload_n 3, 1) := by decide +kernel
theorem dX1_between_21 : decode cX1_between 21 = .ok (.ifCond .eq 8, 3) := by decide +kernel
theorem dX1_between_24 : decode cX1_between 24 = .ok (.iload 4, 2) := by decide +kernel
theorem dX1_between_26 : decode cX1_between 26 = .ok (.ifCond .ne 20, 3) := by decide +kernel
theorem dX1_between_29 : decode cX1_between 29 = .ok (.iload 5, 2) := by decide +kernel
theorem dX1_between_31 : decode cX1_between 31 = .ok (.aload_n 0, 1) := by decide +kernel
theorem dX1_between_32 : decode cX1_between 32 = .ok (.iload_n 1, 1) := by decide +kernel
theorem dX1_between_33 : decode cX1_between 33 = .ok (.iload_n 3, 1) := by decide +kernel
theorem dX1_between_34 : decode cX1_between 34 = .ok (.iadd, 1) := by decide +kernel
theorem dX1_between_35 : decode cX1_between 35 = .ok (.iload_n 2, 1) := by decide +kernel
theorem dX1_between_36 : decode cX1_between 36 = .ok (.iload 4, 2) := by decide +kernel
theorem dX1_between_38 : decode cX1_between 38 = .ok (.iadd, 1) := by decide +kernel
theorem dX1_between_39 : decode cX1_between 39 = .ok (.invokevirtual 51, 3) := by decide +kernel
theorem dX1_between_42 : decode cX1_between 42 = .ok (.iadd, 1) := by decide +kernel
theorem dX1_between_43 : decode cX1_between 43 = .ok (.iconst 2, 1) := by decide +kernel
theorem dX1_between_44 : decode cX1_between 44 = .ok (.idiv, 1) := by decide +kernel
theorem dX1_between_45 : decode cX1_between 45 = .ok (.ireturn, 1) := by decide +kernel
theorem dX1_between_46 : decode cX1_between 46 = .ok (.iload 5, 2) := by decide +kernel
theorem dX1_between_48 : decode cX1_between 48 = .ok (.aload_n 0, 1) := by decide +kernel
theorem dX1_between_49 : decode cX1_between 49 = .ok (.iload_n 1, 1) := by decide +kernel
theorem dX1_between_50 : decode cX1_between 50 = .ok (.iload_n 3, 1) := by decide +kernel
theorem dX1_between_51 : decode cX1_between 51 = .ok (.iadd, 1) := by decide +kernel
theorem dX1_between_52 : decode cX1_between 52 = .ok (.iload_n 2, 1) := by decide +kernel
theorem dX1_between_53 : decode cX1_between 53 = .ok (.invokevirtual 51, 3) := by decide +kernel
theorem dX1_between_56 : decode cX1_between 56 = .ok (.iadd, 1) := by decide +kernel
theorem dX1_between_57 : decode cX1_between 57 = .ok (.aload_n 0, 1) := by decide +kernel
theorem dX1_between_58 : decode cX1_between 58 = .ok (.iload_n 1, 1) := by decide +kernel
theorem dX1_between_59 : decode cX1_between 59 = .ok (.iload_n 2, 1) := by decide +kernel
theorem dX1_between_60 : decode cX1_between 60 = .ok (.iload 4, 2) := by decide +kernel
theorem dX1_between_62 : decode cX1_between 62 = .ok (.iadd, 1) := by decide +kernel
theorem dX1_between_63 : decode cX1_between 63 = .ok (.invokevirtual 51, 3) := by decide +kernel
theorem dX1_between_66 : decode cX1_between 66 = .ok (.iadd, 1) := by decide +kernel
theorem dX1_between_67 : decode cX1_between 67 = .ok (.aload_n 0, 1) := by decide +kernel
theorem dX1_between_68 : decode cX1_between 68 = .ok (.iload_n 1, 1) := by decide +kernel
theorem dX1_between_69 : decode cX1_between 69 = .ok (.iload_n 3, 1) := by decide +kernel
theorem dX1_between_70 : decode cX1_between 70 = .ok (.iadd, 1) := by decide +kernel
theorem dX1_between_71 : decode cX1_between 71 = .ok (.iload_n 2, 1) := by decide +kernel
theorem dX1_between_72 : decode cX1_between 72 = .ok (.iload 4, 2) := by decide +kernel
theorem dX1_between_74 : decode cX1_between 74 = .ok (.iadd, 1) := by decide +kernel
theorem dX1_between_75 : decode cX1_between 75 = .ok (.invokevirtual 51, 3) := by decide +kernel
theorem dX1_between_78 : decode cX1_between 78 = .ok (.iadd, 1) := by decide +kernel
theorem dX1_between_79 : decode cX1_between 79 = .ok (.iconst 4, 1) := by decide +kernel
theorem dX1_between_80 : decode cX1_between 80 = .ok (.idiv, 1) := by decide +kernel
theorem dX1_between_81 : decode cX1_between 81 = .ok (.ireturn, 1) := by decide +kernel
theorem dX2_init_0 : decode cX2_init 0 = .ok (.aload_n 0, 1) := by decide +kernel
theorem dX2_init_1 : decode cX2_init 1 = .ok (.invokespecial 3, 3) := by decide +kernel
theorem dX2_init_4 : decode cX2_init 4 = .ok (.aload_n 0, 1) := by decide +kernel
theorem dX2_init_5 : decode cX2_init 5 = .ok (.bipush 96, 2) := by decide +kernel
theorem dX2_init_7 : decode cX2_init 7 = .ok (.newarray .int, 2) := by decide +kernel
theorem dX2_init_9 : decode cX2_init 9 = .ok (.putfield 9, 3) := by decide +kernel
theorem dX2_init_12 : decode cX2_init 12 = .ok (.return_, 1) := by decide +kernel
theorem dX2_at_0 : decode cX2_at 0 = .ok (.iconst 0, 1) := by decide +kernel
theorem dX2_at_1 : decode cX2_at 1 = .ok (.bipush 11, 2) := by decide +kernel
theorem dX2_at_3 : decode cX2_at 3 = .ok (.iload_n 1, 1) := by decide +kernel
theorem dX2_at_4 : decode cX2_at 4 = .ok (.invokestatic 15, 3) := by decide +kernel
theorem dX2_at_7 : decode cX2_at 7 = .ok (.invokestatic 21, 3) := by decide +kernel
theorem dX2_at_10 : decode cX2_at 10 = .ok (.istore_n 3, 1) := by decide +kernel
theorem dX2_at_11 : decode cX2_at 11 = .ok (.iconst 0, 1) := by decide +kernel
theorem dX2_at_12 : decode cX2_at 12 = .ok (.bipush 7, 2) := by decide +kernel
theorem dX2_at_14 : decode cX2_at 14 = .ok (.iload_n 2, 1) := by decide +kernel
theorem dX2_at_15 : decode cX2_at 15 = .ok (.invokestatic 15, 3) := by decide +kernel
theorem dX2_at_18 : decode cX2_at 18 = .ok (.invokestatic 21, 3) := by decide +kernel
theorem dX2_at_21 : decode cX2_at 21 = .ok (.istore 4, 2) := by decide +kernel
theorem dX2_at_23 : decode cX2_at 23 = .ok (.aload_n 0, 1) := by decide +kernel
theorem dX2_at_24 : decode cX2_at 24 = .ok (.getfield 9, 3) := by decide +kernel
theorem dX2_at_27 : decode cX2_at 27 = .ok (.iload 4, 2) := by decide +kernel
theorem dX2_at_29 : decode cX2_at 29 = .ok (.bipush 12, 2) := by decide +kernel
theorem dX2_at_31 : decode cX2_at 31 = .ok (.imul, 1) := by decide +kernel
theorem dX2_at_32 : decode cX2_at 32 = .ok (.iload_n 3, 1) := by decide +kernel
theorem dX2_at_33 : decode cX2_at 33 = .ok (.iadd, 1) := by decide +kernel
theorem dX2_at_34 : decode cX2_at 34 = .ok (.iaload, 1) := by decide +kernel
theorem dX2_at_35 : decode cX2_at 35 = .ok (.ireturn, 1) := by decide +kernel
theorem dX2_halfAt_0 : decode cX2_halfAt 0 = .ok (.iconst 2, 1) := by decide +kernel
theorem dX2_halfAt_1 : decode cX2_halfAt 1 = .ok (.iconst 0, 1) := by decide +kernel
theorem dX2_halfAt_2 : decode cX2_halfAt 2 = .ok (.iconst 5, 1) := by decide +kernel
theorem dX2_halfAt_3 : decode cX2_halfAt 3 = .ok (.iload_n 1, 1) := by decide +kernel
theorem dX2_halfAt_4 : decode cX2_halfAt 4 = .ok (.invokestatic 15, 3) := by decide +kernel
theorem dX2_halfAt_7 : decode cX2_halfAt 7 = .ok (.invokestatic 21, 3) := by decide +kernel
theorem dX2_halfAt_10 : decode cX2_halfAt 10 = .ok (.imul, 1) := by decide +kernel
theorem dX2_halfAt_11 : decode cX2_halfAt 11 = .ok (.istore_n 3, 1) := by decide +kernel
theorem dX2_halfAt_12 : decode cX2_halfAt 12 = .ok (.iconst 2, 1) := by decide +kernel
theorem dX2_halfAt_13 : decode cX2_halfAt 13 = .ok (.iconst 0, 1) := by decide +kernel
theorem dX2_halfAt_14 : decode cX2_halfAt 14 = .ok (.iconst 3, 1) := by decide +kernel
theorem dX2_halfAt_15 : decode cX2_halfAt 15 = .ok (.iload_n 2, 1) := by decide +kernel
theorem dX2_halfAt_16 : decode cX2_halfAt 16 = .ok (.invokestatic 15, 3) := by decide +kernel
theorem dX2_halfAt_19 : decode cX2_halfAt 19 = .ok (.invokestatic 21, 3) := by decide +kernel
theorem dX2_halfAt_22 : decode cX2_halfAt 22 = .ok (.imul, 1) := by decide +kernel
theorem dX2_halfAt_23 : decode cX2_halfAt 23 = .ok (.istore 4, 2) := by decide +kernel
theorem dX2_halfAt_25 : decode cX2_halfAt 25 = .ok (.iload 4, 2) := by decide +kernel
theorem dX2_halfAt_27 : decode cX2_halfAt 27 = .ok (.bipush 12, 2) := by decide +kernel
theorem dX2_halfAt_29 : decode cX2_halfAt 29 = .ok (.imul, 1) := by decide +kernel
theorem dX2_halfAt_30 : decode cX2_halfAt 30 = .ok (.iload_n 3, 1) := by decide +kernel
theorem dX2_halfAt_31 : decode cX2_halfAt 31 = .ok (.iadd, 1) := by decide +kernel
theorem dX2_halfAt_32 : decode cX2_halfAt 32 = .ok (.istore 5, 2) := by decide +kernel
theorem dX2_halfAt_34 : decode cX2_halfAt 34 = .ok (.aload_n 0, 1) := by decide +kernel
theorem dX2_halfAt_35 : decode cX2_halfAt 35 = .ok (.getfield 9, 3) := by decide +kernel
theorem dX2_halfAt_38 : decode cX2_halfAt 38 = .ok (.iload 5, 2) := by decide +kernel
theorem dX2_halfAt_40 : decode cX2_halfAt 40 = .ok (.iaload, 1) := by decide +kernel
theorem dX2_halfAt_41 : decode cX2_halfAt 41 = .ok (.aload_n 0, 1) := by decide +kernel
theorem dX2_halfAt_42 : decode cX2_halfAt 42 = .ok (.getfield 9, 3) := by decide +kernel
theorem dX2_halfAt_45 : decode cX2_halfAt 45 = .ok (.iload 5, 2) := by decide +kernel
theorem dX2_halfAt_47 : decode cX2_halfAt 47 = .ok (.iconst 1, 1) := by decide +kernel
theorem dX2_halfAt_48 : decode cX2_halfAt 48 = .ok (.iadd, 1) := by decide +kernel
theorem dX2_halfAt_49 : decode cX2_halfAt 49 = .ok (.iaload, 1) := by decide +kernel
theorem dX2_halfAt_50 : decode cX2_halfAt 50 = .ok (.iadd, 1) := by decide +kernel
theorem dX2_halfAt_51 : decode cX2_halfAt 51 = .ok (.aload_n 0, 1) := by decide +kernel
theorem dX2_halfAt_52 : decode cX2_halfAt 52 = .ok (.getfield 9, 3) := by decide +kernel
theorem dX2_halfAt_55 : decode cX2_halfAt 55 = .ok (.iload 5, 2) := by decide +kernel
theorem dX2_halfAt_57 : decode cX2_halfAt 57 = .ok (.bipush 12, 2) := by decide +kernel
theorem dX2_halfAt_59 : decode cX2_halfAt 59 = .ok (.iadd, 1) := by decide +kernel
theorem dX2_halfAt_60 : decode cX2_halfAt 60 = .ok (.iaload, 1) := by decide +kernel
theorem dX2_halfAt_61 : decode cX2_halfAt 61 = .ok (.iadd, 1) := by decide +kernel
theorem dX2_halfAt_62 : decode cX2_halfAt 62 = .ok (.aload_n 0, 1) := by decide +kernel
theorem dX2_halfAt_63 : decode cX2_halfAt 63 = .ok (.getfield 9, 3) := by decide +kernel
theorem dX2_halfAt_66 : decode cX2_halfAt 66 = .ok (.iload 5, 2) := by decide +kernel
theorem dX2_halfAt_68 : decode cX2_halfAt 68 = .ok (.bipush 12, 2) := by decide +kernel
theorem dX2_halfAt_70 : decode cX2_halfAt 70 = .ok (.iadd, 1) := by decide +kernel
theorem dX2_halfAt_71 : decode cX2_halfAt 71 = .ok (.iconst 1, 1) := by decide +kernel
theorem dX2_halfAt_72 : decode cX2_halfAt 72 = .ok (.iadd, 1) := by decide +kernel
theorem dX2_halfAt_73 : decode cX2_halfAt 73 = .ok (.iaload, 1) := by decide +kernel
theorem dX2_halfAt_74 : decode cX2_halfAt 74 = .ok (.iadd, 1) := by decide +kernel
theorem dX2_halfAt_75 : decode cX2_halfAt 75 = .ok (.iconst 4, 1) := by decide +kernel
theorem dX2_halfAt_76 : decode cX2_halfAt 76 = .ok (.idiv, 1) := by decide +kernel
theorem dX2_halfAt_77 : decode cX2_halfAt 77 = .ok (.ireturn, 1) := by decide +kernel
theorem dX2_othersThan_0 : decode cX2_othersThan 0 = .ok (.iconst 0, 1) := by decide +kernel
theorem dX2_othersThan_1 : decode cX2_othersThan 1 = .ok (.istore_n 2, 1) := by decide +kernel
theorem dX2_othersThan_2 : decode cX2_othersThan 2 = .ok (.iconst 0, 1) := by decide +kernel
theorem dX2_othersThan_3 : decode cX2_othersThan 3 = .ok (.istore_n 3, 1) := by decide +kernel
theorem dX2_othersThan_4 : decode cX2_othersThan 4 = .ok (.iload_n 3, 1) := by decide +kernel
theorem dX2_othersThan_5 : decode cX2_othersThan 5 = .ok (.bipush 96, 2) := by decide +kernel
theorem dX2_othersThan_7 : decode cX2_othersThan 7 = .ok (.if_icmp .ge 27, 3) := by decide +kernel
theorem dX2_othersThan_10 : decode cX2_othersThan 10 = .ok (.aload_n 0, 1) := by decide +kernel
theorem dX2_othersThan_11 : decode cX2_othersThan 11 = .ok (.getfield 9, 3) := by decide +kernel
theorem dX2_othersThan_14 : decode cX2_othersThan 14 = .ok (.iload_n 3, 1) := by decide +kernel
theorem dX2_othersThan_15 : decode cX2_othersThan 15 = .ok (.iaload, 1) := by decide +kernel
theorem dX2_othersThan_16 : decode cX2_othersThan 16 = .ok (.aload_n 1, 1) := by decide +kernel
theorem dX2_othersThan_17 : decode cX2_othersThan 17 = .ok (.getfield 9, 3) := by decide +kernel
theorem dX2_othersThan_20 : decode cX2_othersThan 20 = .ok (.iload_n 3, 1) := by decide +kernel
theorem dX2_othersThan_21 : decode cX2_othersThan 21 = .ok (.iaload, 1) := by decide +kernel
theorem dX2_othersThan_22 : decode cX2_othersThan 22 = .ok (.if_icmp .eq 6, 3) := by decide +kernel
theorem dX2_othersThan_25 : decode cX2_othersThan 25 = .ok (.iinc 2 1, 3) := by decide +kernel
theorem dX2_othersThan_28 : decode cX2_othersThan 28 = .ok (.iinc 3 1, 3) := by decide +kernel
theorem dX2_othersThan_31 : decode cX2_othersThan 31 = .ok (.goto (-27), 3) := by decide +kernel
theorem dX2_othersThan_34 : decode cX2_othersThan 34 = .ok (.iload_n 2, 1) := by decide +kernel
theorem dX2_othersThan_35 : decode cX2_othersThan 35 = .ok (.ireturn, 1) := by decide +kernel
theorem dX2_become_0 : decode cX2_become 0 = .ok (.aload_n 1, 1) := by decide +kernel
theorem dX2_become_1 : decode cX2_become 1 = .ok (.iconst 0, 1) := by decide +kernel
theorem dX2_become_2 : decode cX2_become 2 = .ok (.aload_n 0, 1) := by decide +kernel
theorem dX2_become_3 : decode cX2_become 3 = .ok (.getfield 9, 3) := by decide +kernel
theorem dX2_become_6 : decode cX2_become 6 = .ok (.iconst 0, 1) := by decide +kernel
theorem dX2_become_7 : decode cX2_become 7 = .ok (.bipush 96, 2) := by decide +kernel
theorem dX2_become_9 : decode cX2_become 9 = .ok (.invokestatic 24, 3) := by decide +kernel
theorem dX2_become_12 : decode cX2_become 12 = .ok (.return_, 1) := by decide +kernel
theorem dX3_init_0 : decode cX3_init 0 = .ok (.aload_n 0, 1) := by decide +kernel
theorem dX3_init_1 : decode cX3_init 1 = .ok (.invokespecial 3, 3) := by decide +kernel
theorem dX3_init_4 : decode cX3_init 4 = .ok (.aload_n 0, 1) := by decide +kernel
theorem dX3_init_5 : decode cX3_init 5 = .ok (.new 9, 3) := by decide +kernel
theorem dX3_init_8 : decode cX3_init 8 = .ok (.dup, 1) := by decide +kernel
theorem dX3_init_9 : decode cX3_init 9 = .ok (.invokespecial 11, 3) := by decide +kernel
theorem dX3_init_12 : decode cX3_init 12 = .ok (.putfield 12, 3) := by decide +kernel
theorem dX3_init_15 : decode cX3_init 15 = .ok (.aload_n 0, 1) := by decide +kernel
theorem dX3_init_16 : decode cX3_init 16 = .ok (.new 9, 3) := by decide +kernel
theorem dX3_init_19 : decode cX3_init 19 = .ok (.dup, 1) := by decide +kernel
theorem dX3_init_20 : decode cX3_init 20 = .ok (.invokespecial 11, 3) := by decide +kernel
theorem dX3_init_23 : decode cX3_init 23 = .ok (.putfield 18, 3) := by decide +kernel
theorem dX3_init_26 : decode cX3_init 26 = .ok (.aload_n 0, 1) := by decide +kernel
theorem dX3_init_27 : decode cX3_init 27 = .ok (.iconst 0, 1) := by decide +kernel
theorem dX3_init_28 : decode cX3_init 28 = .ok (.putfield 21, 3) := by decide +kernel
theorem dX3_init_31 : decode cX3_init 31 = .ok (.aload_n 0, 1) := by decide +kernel
theorem dX3_init_32 : decode cX3_init 32 = .ok (.iconst 1, 1) := by decide +kernel
theorem dX3_init_33 : decode cX3_init 33 = .ok (.putfield 25, 3) := by decide +kernel
theorem dX3_init_36 : decode cX3_init 36 = .ok (.return_, 1) := by decide +kernel
theorem dX3_become_0 : decode cX3_become 0 = .ok (.aload_n 0, 1) := by decide +kernel
theorem dX3_become_1 : decode cX3_become 1 = .ok (.getfield 12, 3) := by decide +kernel
theorem dX3_become_4 : decode cX3_become 4 = .ok (.aload_n 1, 1) := by decide +kernel
theorem dX3_become_5 : decode cX3_become 5 = .ok (.getfield 12, 3) := by decide +kernel
theorem dX3_become_8 : decode cX3_become 8 = .ok (.getfield 28, 3) := by decide +kernel
theorem dX3_become_11 : decode cX3_become 11 = .ok (.invokevirtual 32, 3) := by decide +kernel
theorem dX3_become_14 : decode cX3_become 14 = .ok (.aload_n 0, 1) := by decide +kernel
theorem dX3_become_15 : decode cX3_become 15 = .ok (.getfield 18, 3) := by decide +kernel
theorem dX3_become_18 : decode cX3_become 18 = .ok (.aload_n 1, 1) := by decide +kernel
theorem dX3_become_19 : decode cX3_become 19 = .ok (.getfield 18, 3) := by decide +kernel
theorem dX3_become_22 : decode cX3_become 22 = .ok (.getfield 28, 3) := by decide +kernel
theorem dX3_become_25 : decode cX3_become 25 = .ok (.invokevirtual 32, 3) := by decide +kernel
theorem dX3_become_28 : decode cX3_become 28 = .ok (.aload_n 0, 1) := by decide +kernel
theorem dX3_become_29 : decode cX3_become 29 = .ok (.aload_n 1, 1) := by decide +kernel
theorem dX3_become_30 : decode cX3_become 30 = .ok (.getfield 21, 3) := by decide +kernel
theorem dX3_become_33 : decode cX3_become 33 = .ok (.putfield 21, 3) := by decide +kernel
theorem dX3_become_36 : decode cX3_become 36 = .ok (.aload_n 0, 1) := by decide +kernel
theorem dX3_become_37 : decode cX3_become 37 = .ok (.aload_n 1, 1) := by decide +kernel
theorem dX3_become_38 : decode cX3_become 38 = .ok (.getfield 25, 3) := by decide +kernel
theorem dX3_become_41 : decode cX3_become 41 = .ok (.putfield 25, 3) := by decide +kernel
theorem dX3_become_44 : decode cX3_become 44 = .ok (.return_, 1) := by decide +kernel
theorem dX3_turn_0 : decode cX3_turn 0 = .ok (.aload_n 0, 1) := by decide +kernel
theorem dX3_turn_1 : decode cX3_turn 1 = .ok (.aload_n 0, 1) := by decide +kernel
theorem dX3_turn_2 : decode cX3_turn 2 = .ok (.getfield 25, 3) := by decide +kernel
theorem dX3_turn_5 : decode cX3_turn 5 = .ok (.ldc 36, 2) := by decide +kernel
theorem dX3_turn_7 : decode cX3_turn 7 = .ok (.imul, 1) := by decide +kernel
theorem dX3_turn_8 : decode cX3_turn 8 = .ok (.sipush 12345, 3) := by decide +kernel
theorem dX3_turn_11 : decode cX3_turn 11 = .ok (.iadd, 1) := by decide +kernel
theorem dX3_turn_12 : decode cX3_turn 12 = .ok (.ldc 39, 2) := by decide +kernel
theorem dX3_turn_14 : decode cX3_turn 14 = .ok (.iand, 1) := by decide +kernel
theorem dX3_turn_15 : decode cX3_turn 15 = .ok (.putfield 25, 3) := by decide +kernel
theorem dX3_turn_18 : decode cX3_turn 18 = .ok (.aload_n 0, 1) := by decide +kernel
theorem dX3_turn_19 : decode cX3_turn 19 = .ok (.getfield 25, 3) := by decide +kernel
theorem dX3_turn_22 : decode cX3_turn 22 = .ok (.ldc 40, 2) := by decide +kernel
theorem dX3_turn_24 : decode cX3_turn 24 = .ok (.idiv, 1) := by decide +kernel
theorem dX3_turn_25 : decode cX3_turn 25 = .ok (.istore_n 1, 1) := by decide +kernel
theorem dX3_turn_26 : decode cX3_turn 26 = .ok (.aload_n 0, 1) := by decide +kernel
theorem dX3_turn_27 : decode cX3_turn 27 = .ok (.getfield 18, 3) := by decide +kernel
theorem dX3_turn_30 : decode cX3_turn 30 = .ok (.getfield 28, 3) := by decide +kernel
theorem dX3_turn_33 : decode cX3_turn 33 = .ok (.iload_n 1, 1) := by decide +kernel
theorem dX3_turn_34 : decode cX3_turn 34 = .ok (.bipush 96, 2) := by decide +kernel
theorem dX3_turn_36 : decode cX3_turn 36 = .ok (.irem, 1) := by decide +kernel
theorem dX3_turn_37 : decode cX3_turn 37 = .ok (.iload_n 1, 1) := by decide +kernel
theorem dX3_turn_38 : decode cX3_turn 38 = .ok (.bipush 96, 2) := by decide +kernel
theorem dX3_turn_40 : decode cX3_turn 40 = .ok (.idiv, 1) := by decide +kernel
theorem dX3_turn_41 : decode cX3_turn 41 = .ok (.bipush 10, 2) := by decide +kernel
theorem dX3_turn_43 : decode cX3_turn 43 = .ok (.irem, 1) := by decide +kernel
theorem dX3_turn_44 : decode cX3_turn 44 = .ok (.iastore, 1) := by decide +kernel
theorem dX3_turn_45 : decode cX3_turn 45 = .ok (.return_, 1) := by decide +kernel
theorem dX4_init_0 : decode cX4_init 0 = .ok (.aload_n 0, 1) := by decide +kernel
theorem dX4_init_1 : decode cX4_init 1 = .ok (.invokespecial 3, 3) := by decide +kernel
theorem dX4_init_4 : decode cX4_init 4 = .ok (.aload_n 0, 1) := by decide +kernel
theorem dX4_init_5 : decode cX4_init 5 = .ok (.bipush 24, 2) := by decide +kernel
theorem dX4_init_7 : decode cX4_init 7 = .ok (.putfield 9, 3) := by decide +kernel
theorem dX4_init_10 : decode cX4_init 10 = .ok (.aload_n 0, 1) := by decide +kernel
theorem dX4_init_11 : decode cX4_init 11 = .ok (.iconst 0, 1) := by decide +kernel
theorem dX4_init_12 : decode cX4_init 12 = .ok (.putfield 15, 3) := by decide +kernel
theorem dX4_init_15 : decode cX4_init 15 = .ok (.aload_n 0, 1) := by decide +kernel
theorem dX4_init_16 : decode cX4_init 16 = .ok (.iconst 0, 1) := by decide +kernel
theorem dX4_init_17 : decode cX4_init 17 = .ok (.putfield 18, 3) := by decide +kernel
theorem dX4_init_20 : decode cX4_init 20 = .ok (.aload_n 0, 1) := by decide +kernel
theorem dX4_init_21 : decode cX4_init 21 = .ok (.iconst 0, 1) := by decide +kernel
theorem dX4_init_22 : decode cX4_init 22 = .ok (.putfield 21, 3) := by decide +kernel
theorem dX4_init_25 : decode cX4_init 25 = .ok (.return_, 1) := by decide +kernel
theorem dX4_best_0 : decode cX4_best 0 = .ok (.aload_n 0, 1) := by decide +kernel
theorem dX4_best_1 : decode cX4_best 1 = .ok (.aload_n 1, 1) := by decide +kernel
theorem dX4_best_2 : decode cX4_best 2 = .ok (.iload_n 2, 1) := by decide +kernel
theorem dX4_best_3 : decode cX4_best 3 = .ok (.bipush 24, 2) := by decide +kernel
theorem dX4_best_5 : decode cX4_best 5 = .ok (.iconst 3, 1) := by decide +kernel
theorem dX4_best_6 : decode cX4_best 6 = .ok (.iconst 0, 1) := by decide +kernel
theorem dX4_best_7 : decode cX4_best 7 = .ok (.invokevirtual 24, 3) := by decide +kernel
theorem dX4_best_10 : decode cX4_best 10 = .ok (.return_, 1) := by decide +kernel
theorem dX4_skim_0 : decode cX4_skim 0 = .ok (.aload_n 0, 1) := by decide +kernel
theorem dX4_skim_1 : decode cX4_skim 1 = .ok (.aload_n 1, 1) := by decide +kernel
theorem dX4_skim_2 : decode cX4_skim 2 = .ok (.iload_n 2, 1) := by decide +kernel
theorem dX4_skim_3 : decode cX4_skim 3 = .ok (.bipush 24, 2) := by decide +kernel
theorem dX4_skim_5 : decode cX4_skim 5 = .ok (.iconst 3, 1) := by decide +kernel
theorem dX4_skim_6 : decode cX4_skim 6 = .ok (.iconst 1, 1) := by decide +kernel
theorem dX4_skim_7 : decode cX4_skim 7 = .ok (.invokevirtual 24, 3) := by decide +kernel
theorem dX4_skim_10 : decode cX4_skim 10 = .ok (.return_, 1) := by decide +kernel
theorem dX4_quick_0 : decode cX4_quick 0 = .ok (.aload_n 1, 1) := by decide +kernel
theorem dX4_quick_1 : decode cX4_quick 1 = .ok (.iload_n 2, 1) := by decide +kernel
theorem dX4_quick_2 : decode cX4_quick 2 = .ok (.invokestatic 28, 3) := by decide +kernel
theorem dX4_quick_5 : decode cX4_quick 5 = .ok (.istore_n 3, 1) := by decide +kernel
theorem dX4_quick_6 : decode cX4_quick 6 = .ok (.aload_n 0, 1) := by decide +kernel
theorem dX4_quick_7 : decode cX4_quick 7 = .ok (.aload_n 1, 1) := by decide +kernel
theorem dX4_quick_8 : decode cX4_quick 8 = .ok (.iload_n 2, 1) := by decide +kernel
theorem dX4_quick_9 : decode cX4_quick 9 = .ok (.iconst 2, 1) := by decide +kernel
theorem dX4_quick_10 : decode cX4_quick 10 = .ok (.iload_n 3, 1) := by decide +kernel
theorem dX4_quick_11 : decode cX4_quick 11 = .ok (.invokestatic 32, 3) := by decide +kernel
theorem dX4_quick_14 : decode cX4_quick 14 = .ok (.imul, 1) := by decide +kernel
theorem dX4_quick_15 : decode cX4_quick 15 = .ok (.iconst 2, 1) := by decide +kernel
theorem dX4_quick_16 : decode cX4_quick 16 = .ok (.iload_n 3, 1) := by decide +kernel
theorem dX4_quick_17 : decode cX4_quick 17 = .ok (.invokestatic 36, 3) := by decide +kernel
theorem dX4_quick_20 : decode cX4_quick 20 = .ok (.imul, 1) := by decide +kernel
theorem dX4_quick_21 : decode cX4_quick 21 = .ok (.invokestatic 39, 3) := by decide +kernel
theorem dX4_quick_24 : decode cX4_quick 24 = .ok (.iconst 1, 1) := by decide +kernel
theorem dX4_quick_25 : decode cX4_quick 25 = .ok (.iconst 0, 1) := by decide +kernel
theorem dX4_quick_26 : decode cX4_quick 26 = .ok (.invokevirtual 24, 3) := by decide +kernel
theorem dX4_quick_29 : decode cX4_quick 29 = .ok (.return_, 1) := by decide +kernel
theorem dX4_pan_0 : decode cX4_pan 0 = .ok (.aload_n 0, 1) := by decide +kernel
theorem dX4_pan_1 : decode cX4_pan 1 = .ok (.ldc 45, 2) := by decide +kernel
theorem dX4_pan_3 : decode cX4_pan 3 = .ok (.putfield 15, 3) := by decide +kernel
theorem dX4_pan_6 : decode cX4_pan 6 = .ok (.iconst 0, 1) := by decide +kernel
theorem dX4_pan_7 : decode cX4_pan 7 = .ok (.istore_n 2, 1) := by decide +kernel
theorem dX4_pan_8 : decode cX4_pan 8 = .ok (.iload_n 2, 1) := by decide +kernel
theorem dX4_pan_9 : decode cX4_pan 9 = .ok (.bipush 49, 2) := by decide +kernel
theorem dX4_pan_11 : decode cX4_pan 11 = .ok (.if_icmp .ge 64, 3) := by decide +kernel
theorem dX4_pan_14 : decode cX4_pan 14 = .ok (.iconst 0, 1) := by decide +kernel
theorem dX4_pan_15 : decode cX4_pan 15 = .ok (.istore_n 3, 1) := by decide +kernel
theorem dX4_pan_16 : decode cX4_pan 16 = .ok (.iconst 0, 1) := by decide +kernel
theorem dX4_pan_17 : decode cX4_pan 17 = .ok (.istore 4, 2) := by decide +kernel
theorem dX4_pan_19 : decode cX4_pan 19 = .ok (.iload 4, 2) := by decide +kernel
theorem dX4_pan_21 : decode cX4_pan 21 = .ok (.bipush 6, 2) := by decide +kernel
theorem dX4_pan_23 : decode cX4_pan 23 = .ok (.if_icmp .ge 24, 3) := by decide +kernel
theorem dX4_pan_26 : decode cX4_pan 26 = .ok (.iload_n 3, 1) := by decide +kernel
theorem dX4_pan_27 : decode cX4_pan 27 = .ok (.aload_n 0, 1) := by decide +kernel
theorem dX4_pan_28 : decode cX4_pan 28 = .ok (.aload_n 1, 1) := by decide +kernel
theorem dX4_pan_29 : decode cX4_pan 29 = .ok (.iload 4, 2) := by decide +kernel
theorem dX4_pan_31 : decode cX4_pan 31 = .ok (.getstatic 46, 3) := by decide +kernel
theorem dX4_pan_34 : decode cX4_pan 34 = .ok (.iload_n 2, 1) := by decide +kernel
theorem dX4_pan_35 : decode cX4_pan 35 = .ok (.iaload, 1) := by decide +kernel
theorem dX4_pan_36 : decode cX4_pan 36 = .ok (.invokevirtual 50, 3) := by decide +kernel
theorem dX4_pan_39 : decode cX4_pan 39 = .ok (.iadd, 1) := by decide +kernel
theorem dX4_pan_40 : decode cX4_pan 40 = .ok (.istore_n 3, 1) := by decide +kernel
theorem dX4_pan_41 : decode cX4_pan 41 = .ok (.iinc 4 1, 3) := by decide +kernel
theorem dX4_pan_44 : decode cX4_pan 44 = .ok (.goto (-25), 3) := by decide +kernel
theorem dX4_pan_47 : decode cX4_pan 47 = .ok (.iload_n 3, 1) := by decide +kernel
theorem dX4_pan_48 : decode cX4_pan 48 = .ok (.aload_n 0, 1) := by decide +kernel
theorem dX4_pan_49 : decode cX4_pan 49 = .ok (.getfield 15, 3) := by decide +kernel
theorem dX4_pan_52 : decode cX4_pan 52 = .ok (.if_icmp .ge 17, 3) := by decide +kernel
theorem dX4_pan_55 : decode cX4_pan 55 = .ok (.aload_n 0, 1) := by decide +kernel
theorem dX4_pan_56 : decode cX4_pan 56 = .ok (.iload_n 3, 1) := by decide +kernel
theorem dX4_pan_57 : decode cX4_pan 57 = .ok (.putfield 15, 3) := by decide +kernel
theorem dX4_pan_60 : decode cX4_pan 60 = .ok (.aload_n 0, 1) := by decide +kernel
theorem dX4_pan_61 : decode cX4_pan 61 = .ok (.getstatic 46, 3) := by decide +kernel
theorem dX4_pan_64 : decode cX4_pan 64 = .ok (.iload_n 2, 1) := by decide +kernel
theorem dX4_pan_65 : decode cX4_pan 65 = .ok (.iaload, 1) := by decide +kernel
theorem dX4_pan_66 : decode cX4_pan 66 = .ok (.putfield 9, 3) := by decide +kernel
theorem dX4_pan_69 : decode cX4_pan 69 = .ok (.iinc 2 1, 3) := by decide +kernel
theorem dX4_pan_72 : decode cX4_pan 72 = .ok (.goto (-64), 3) := by decide +kernel
theorem dX4_pan_75 : decode cX4_pan 75 = .ok (.return_, 1) := by decide +kernel
theorem dX4_wholeCost_0 : decode cX4_wholeCost 0 = .ok (.aload_n 0, 1) := by decide +kernel
theorem dX4_wholeCost_1 : decode cX4_wholeCost 1 = .ok (.aload_n 1, 1) := by decide +kernel
theorem dX4_wholeCost_2 : decode cX4_wholeCost 2 = .ok (.iload_n 2, 1) := by decide +kernel
theorem dX4_wholeCost_3 : decode cX4_wholeCost 3 = .ok (.iload_n 3, 1) := by decide +kernel
theorem dX4_wholeCost_4 : decode cX4_wholeCost 4 = .ok (.ldc 45, 2) := by decide +kernel
theorem dX4_wholeCost_6 : decode cX4_wholeCost 6 = .ok (.invokevirtual 54, 3) := by decide +kernel
theorem dX4_wholeCost_9 : decode cX4_wholeCost 9 = .ok (.ireturn, 1) := by decide +kernel
theorem dX4_tryMoves_0 : decode cX4_tryMoves 0 = .ok (.aload_n 0, 1) := by decide +kernel
theorem dX4_tryMoves_1 : decode cX4_tryMoves 1 = .ok (.iload_n 3, 1) := by decide +kernel
theorem dX4_tryMoves_2 : decode cX4_tryMoves 2 = .ok (.putfield 9, 3) := by decide +kernel
theorem dX4_tryMoves_5 : decode cX4_tryMoves 5 = .ok (.aload_n 0, 1) := by decide +kernel
theorem dX4_tryMoves_6 : decode cX4_tryMoves 6 = .ok (.ldc 45, 2) := by decide +kernel
theorem dX4_tryMoves_8 : decode cX4_tryMoves 8 = .ok (.putfield 15, 3) := by decide +kernel
theorem dX4_tryMoves_11 : decode cX4_tryMoves 11 = .ok (.aload_n 0, 1) := by decide +kernel
theorem dX4_tryMoves_12 : decode cX4_tryMoves 12 = .ok (.iconst 0, 1) := by decide +kernel
theorem dX4_tryMoves_13 : decode cX4_tryMoves 13 = .ok (.putfield 18, 3) := by decide +kernel
theorem dX4_tryMoves_16 : decode cX4_tryMoves 16 = .ok (.aload_n 0, 1) := by decide +kernel
theorem dX4_tryMoves_17 : decode cX4_tryMoves 17 = .ok (.iconst 0, 1) := by decide +kernel
theorem dX4_tryMoves_18 : decode cX4_tryMoves 18 = .ok (.putfield 21, 3) := by decide +kernel
theorem dX4_tryMoves_21 : decode cX4_tryMoves 21 = .ok (.iconst 0, 1) := by decide +kernel
theorem dX4_tryMoves_22 : decode cX4_tryMoves 22 = .ok (.istore 6, 2) := by decide +kernel
theorem dX4_tryMoves_24 : decode cX4_tryMoves 24 = .ok (.iload 6, 2) := by decide +kernel
theorem dX4_tryMoves_26 : decode cX4_tryMoves 26 = .ok (.bipush 49, 2) := by decide +kernel
theorem dX4_tryMoves_28 : decode cX4_tryMoves 28 = .ok (.if_icmp .ge 98, 3) := by decide +kernel
theorem dX4_tryMoves_31 : decode cX4_tryMoves 31 = .ok (.getstatic 46, 3) := by decide +kernel
theorem dX4_tryMoves_34 : decode cX4_tryMoves 34 = .ok (.iload 6, 2) := by decide +kernel
theorem dX4_tryMoves_36 : decode cX4_tryMoves 36 = .ok (.iaload, 1) := by decide +kernel
theorem dX4_tryMoves_37 : decode cX4_tryMoves 37 = .ok (.istore 7, 2) := by decide +kernel
theorem dX4_tryMoves_39 : decode cX4_tryMoves 39 = .ok (.iload 7, 2) := by decide +kernel
theorem dX4_tryMoves_41 : decode cX4_tryMoves 41 = .ok (.iload_n 3, 1) := by decide +kernel
theorem dX4_tryMoves_42 : decode cX4_tryMoves 42 = .ok (.iload 4, 2) := by decide +kernel
theorem dX4_tryMoves_44 : decode cX4_tryMoves 44 = .ok (.invokestatic 58, 3) := by decide +kernel
theorem dX4_tryMoves_47 : decode cX4_tryMoves 47 = .ok (.ifCond .ne 6, 3) := by decide +kernel
theorem dX4_tryMoves_50 : decode cX4_tryMoves 50 = .ok (.goto 70, 3) := by decide +kernel
theorem dX4_tryMoves_53 : decode cX4_tryMoves 53 = .ok (.iload 5, 2) := by decide +kernel
theorem dX4_tryMoves_55 : decode cX4_tryMoves 55 = .ok (.ifCond .eq 30, 3) := by decide +kernel
theorem dX4_tryMoves_58 : decode cX4_tryMoves 58 = .ok (.aload_n 1, 1) := by decide +kernel
theorem dX4_tryMoves_59 : decode cX4_tryMoves 59 = .ok (.iload_n 2, 1) := by decide +kernel
theorem dX4_tryMoves_60 : decode cX4_tryMoves 60 = .ok (.iload 7, 2) := by decide +kernel
theorem dX4_tryMoves_62 : decode cX4_tryMoves 62 = .ok (.invokestatic 62, 3) := by decide +kernel
theorem dX4_tryMoves_65 : decode cX4_tryMoves 65 = .ok (.aload_n 0, 1) := by decide +kernel
theorem dX4_tryMoves_66 : decode cX4_tryMoves 66 = .ok (.getfield 15, 3) := by decide +kernel
theorem dX4_tryMoves_69 : decode cX4_tryMoves 69 = .ok (.if_icmp .lt 16, 3) := by decide +kernel
theorem dX4_tryMoves_72 : decode cX4_tryMoves 72 = .ok (.aload_n 0, 1) := by decide +kernel
theorem dX4_tryMoves_73 : decode cX4_tryMoves 73 = .ok (.dup, 1) := by decide +kernel
theorem dX4_tryMoves_74 : decode cX4_tryMoves 74 = .ok (.getfield 21, 3) := by decide +kernel
theorem dX4_tryMoves_77 : decode cX4_tryMoves 77 = .ok (.iconst 1, 1) := by decide +kernel
theorem dX4_tryMoves_78 : decode cX4_tryMoves 78 = .ok (.iadd, 1) := by decide +kernel
theorem dX4_tryMoves_79 : decode cX4_tryMoves 79 = .ok (.putfield 21, 3) := by decide +kernel
theorem dX4_tryMoves_82 : decode cX4_tryMoves 82 = .ok (.goto 38, 3) := by decide +kernel
theorem dX4_tryMoves_85 : decode cX4_tryMoves 85 = .ok (.aload_n 0, 1) := by decide +kernel
theorem dX4_tryMoves_86 : decode cX4_tryMoves 86 = .ok (.aload_n 1, 1) := by decide +kernel
theorem dX4_tryMoves_87 : decode cX4_tryMoves 87 = .ok (.iload_n 2, 1) := by decide +kernel
theorem dX4_tryMoves_88 : decode cX4_tryMoves 88 = .ok (.iload 7, 2) := by decide +kernel
theorem dX4_tryMoves_90 : decode cX4_tryMoves 90 = .ok (.aload_n 0, 1) := by decide +kernel
theorem dX4_tryMoves_91 : decode cX4_tryMoves 91 = .ok (.getfield 15, 3) := by decide +kernel
theorem dX4_tryMoves_94 : decode cX4_tryMoves 94 = .ok (.invokevirtual 54, 3) := by decide +kernel
theorem dX4_tryMoves_97 : decode cX4_tryMoves 97 = .ok (.istore 8, 2) := by decide +kernel
theorem dX4_tryMoves_99 : decode cX4_tryMoves 99 = .ok (.iload 8, 2) := by decide +kernel
theorem dX4_tryMoves_101 : decode cX4_tryMoves 101 = .ok (.aload_n 0, 1) := by decide +kernel
theorem dX4_tryMoves_102 : decode cX4_tryMoves 102 = .ok (.getfield 15, 3) := by decide +kernel
theorem dX4_tryMoves_105 : decode cX4_tryMoves 105 = .ok (.if_icmp .ge 15, 3) := by decide +kernel
theorem dX4_tryMoves_108 : decode cX4_tryMoves 108 = .ok (.aload_n 0, 1) := by decide +kernel
theorem dX4_tryMoves_109 : decode cX4_tryMoves 109 = .ok (.iload 8, 2) := by decide +kernel
theorem dX4_tryMoves_111 : decode cX4_tryMoves 111 = .ok (.putfield 15, 3) := by decide +kernel
theorem dX4_tryMoves_114 : decode cX4_tryMoves 114 = .ok (.aload_n 0, 1) := by decide +kernel
theorem dX4_tryMoves_115 : decode cX4_tryMoves 115 = .ok (.iload 7, 2) := by decide +kernel
theorem dX4_tryMoves_117 : decode cX4_tryMoves 117 = .ok (.putfield 9, 3) := by decide +kernel
theorem dX4_tryMoves_120 : decode cX4_tryMoves 120 = .ok (.iinc 6 1, 3) := by decide +kernel
theorem dX4_tryMoves_123 : decode cX4_tryMoves 123 = .ok (.goto (-99), 3) := by decide +kernel
theorem dX4_tryMoves_126 : decode cX4_tryMoves 126 = .ok (.return_, 1) := by decide +kernel
theorem dX4_costBelow_0 : decode cX4_costBelow 0 = .ok (.iload_n 3, 1) := by decide +kernel
theorem dX4_costBelow_1 : decode cX4_costBelow 1 = .ok (.invokestatic 32, 3) := by decide +kernel
theorem dX4_costBelow_4 : decode cX4_costBelow 4 = .ok (.istore 5, 2) := by decide +kernel
theorem dX4_costBelow_6 : decode cX4_costBelow 6 = .ok (.iload_n 3, 1) := by decide +kernel
theorem dX4_costBelow_7 : decode cX4_costBelow 7 = .ok (.invokestatic 36, 3) := by decide +kernel
theorem dX4_costBelow_10 : decode cX4_costBelow 10 = .ok (.istore 6, 2) := by decide +kernel
theorem dX4_costBelow_12 : decode cX4_costBelow 12 = .ok (.iload_n 2, 1) := by decide +kernel
theorem dX4_costBelow_13 : decode cX4_costBelow 13 = .ok (.invokestatic 65, 3) := by decide +kernel
theorem dX4_costBelow_16 : decode cX4_costBelow 16 = .ok (.istore 7, 2) := by decide +kernel
theorem dX4_costBelow_18 : decode cX4_costBelow 18 = .ok (.iload_n 2, 1) := by decide +kernel
theorem dX4_costBelow_19 : decode cX4_costBelow 19 = .ok (.invokestatic 68, 3) := by decide +kernel
theorem dX4_costBelow_22 : decode cX4_costBelow 22 = .ok (.istore 8, 2) := by decide +kernel
theorem dX4_costBelow_24 : decode cX4_costBelow 24 = .ok (.aload_n 1, 1) := by decide +kernel
theorem dX4_costBelow_25 : decode cX4_costBelow 25 = .ok (.getfield 71, 3) := by decide +kernel
theorem dX4_costBelow_28 : decode cX4_costBelow 28 = .ok (.iconst 3, 1) := by decide +kernel
theorem dX4_costBelow_29 : decode cX4_costBelow 29 = .ok (.if_icmp .ne 12, 3) := by decide +kernel
theorem dX4_costBelow_32 : decode cX4_costBelow 32 = .ok (.iconst 2, 1) := by decide +kernel
theorem dX4_costBelow_33 : decode cX4_costBelow 33 = .ok (.iload_n 3, 1) := by decide +kernel
theorem dX4_costBelow_34 : decode cX4_costBelow 34 = .ok (.invokestatic 76, 3) := by decide +kernel
theorem dX4_costBelow_37 : decode cX4_costBelow 37 = .ok (.imul, 1) := by decide +kernel
theorem dX4_costBelow_38 : decode cX4_costBelow 38 = .ok (.goto 4, 3) := by decide +kernel
theorem dX4_costBelow_41 : decode cX4_costBelow 41 = .ok (.iconst 0, 1) := by decide +kernel
theorem dX4_costBelow_42 : decode cX4_costBelow 42 = .ok (.istore 9, 2) := by decide +kernel
theorem dX4_costBelow_44 : decode cX4_costBelow 44 = .ok (.iconst 0, 1) := by decide +kernel
theorem dX4_costBelow_45 : decode cX4_costBelow 45 = .ok (.istore 10, 2) := by decide +kernel
theorem dX4_costBelow_47 : decode cX4_costBelow 47 = .ok (.iload 10, 2) := by decide +kernel
theorem dX4_costBelow_49 : decode cX4_costBelow 49 = .ok (.bipush 16, 2) := by decide +kernel
theorem dX4_costBelow_51 : decode cX4_costBelow 51 = .ok (.if_icmp .ge 94, 3) := by decide +kernel
theorem dX4_costBelow_54 : decode cX4_costBelow 54 = .ok (.iload 9, 2) := by decide +kernel
theorem dX4_costBelow_56 : decode cX4_costBelow 56 = .ok (.iload 4, 2) := by decide +kernel
theorem dX4_costBelow_58 : decode cX4_costBelow 58 = .ok (.if_icmp .ge 87, 3) := by decide +kernel
theorem dX4_costBelow_61 : decode cX4_costBelow 61 = .ok (.iload 7, 2) := by decide +kernel
theorem dX4_costBelow_63 : decode cX4_costBelow 63 = .ok (.iload 10, 2) := by decide +kernel
theorem dX4_costBelow_65 : decode cX4_costBelow 65 = .ok (.iconst 4, 1) := by decide +kernel
theorem dX4_costBelow_66 : decode cX4_costBelow 66 = .ok (.irem, 1) := by decide +kernel
theorem dX4_costBelow_67 : decode cX4_costBelow 67 = .ok (.iadd, 1) := by decide +kernel
theorem dX4_costBelow_68 : decode cX4_costBelow 68 = .ok (.istore 11, 2) := by decide +kernel
theorem dX4_costBelow_70 : decode cX4_costBelow 70 = .ok (.iload 8, 2) := by decide +kernel
theorem dX4_costBelow_72 : decode cX4_costBelow 72 = .ok (.iload 10, 2) := by decide +kernel
theorem dX4_costBelow_74 : decode cX4_costBelow 74 = .ok (.iconst 4, 1) := by decide +kernel
theorem dX4_costBelow_75 : decode cX4_costBelow 75 = .ok (.idiv, 1) := by decide +kernel
theorem dX4_costBelow_76 : decode cX4_costBelow 76 = .ok (.iadd, 1) := by decide +kernel
theorem dX4_costBelow_77 : decode cX4_costBelow 77 = .ok (.istore 12, 2) := by decide +kernel
theorem dX4_costBelow_79 : decode cX4_costBelow 79 = .ok (.aload_n 1, 1) := by decide +kernel
theorem dX4_costBelow_80 : decode cX4_costBelow 80 = .ok (.getfield 79, 3) := by decide +kernel
theorem dX4_costBelow_83 : decode cX4_costBelow 83 = .ok (.iload 11, 2) := by decide +kernel
theorem dX4_costBelow_85 : decode cX4_costBelow 85 = .ok (.iload 12, 2) := by decide +kernel
theorem dX4_costBelow_87 : decode cX4_costBelow 87 = .ok (.invokevirtual 83, 3) := by decide +kernel
theorem dX4_costBelow_90 : decode cX4_costBelow 90 = .ok (.aload_n 1, 1) := by decide +kernel
theorem dX4_costBelow_91 : decode cX4_costBelow 91 = .ok (.getfield 88, 3) := by decide +kernel
theorem dX4_costBelow_94 : decode cX4_costBelow 94 = .ok (.iload 11, 2) := by decide +kernel
theorem dX4_costBelow_96 : decode cX4_costBelow 96 = .ok (.iload 5, 2) := by decide +kernel
theorem dX4_costBelow_98 : decode cX4_costBelow 98 = .ok (.iadd, 1) := by decide +kernel
theorem dX4_costBelow_99 : decode cX4_costBelow 99 = .ok (.iload 12, 2) := by decide +kernel
theorem dX4_costBelow_101 : decode cX4_costBelow 101 = .ok (.iload 6, 2) := by decide +kernel
theorem dX4_costBelow_103 : decode cX4_costBelow 103 = .ok (.iadd, 1) := by decide +kernel
theorem dX4_costBelow_104 : decode cX4_costBelow 104 = .ok (.invokevirtual 83, 3) := by decide +kernel
theorem dX4_costBelow_107 : decode cX4_costBelow 107 = .ok (.isub, 1) := by decide +kernel
theorem dX4_costBelow_108 : decode cX4_costBelow 108 = .ok (.invokestatic 91, 3) := by decide +kernel
theorem dX4_costBelow_111 : decode cX4_costBelow 111 = .ok (.istore 13, 2) := by decide +kernel
theorem dX4_costBelow_113 : decode cX4_costBelow 113 = .ok (.iload 9, 2) := by decide +kernel
theorem dX4_costBelow_115 : decode cX4_costBelow 115 = .ok (.aload_n 1, 1) := by decide +kernel
theorem dX4_costBelow_116 : decode cX4_costBelow 116 = .ok (.getfield 71, 3) := by decide +kernel
theorem dX4_costBelow_119 : decode cX4_costBelow 119 = .ok (.iload 13, 2) := by decide +kernel
theorem dX4_costBelow_121 : decode cX4_costBelow 121 = .ok (.iload 10, 2) := by decide +kernel
theorem dX4_costBelow_123 : decode cX4_costBelow 123 = .ok (.invokestatic 96, 3) := by decide +kernel
theorem dX4_costBelow_126 : decode cX4_costBelow 126 = .ok (.iadd, 1) := by decide +kernel
theorem dX4_costBelow_127 : decode cX4_costBelow 127 = .ok (.istore 9, 2) := by decide +kernel
theorem dX4_costBelow_129 : decode cX4_costBelow 129 = .ok (.aload_n 0, 1) := by decide +kernel
theorem dX4_costBelow_130 : decode cX4_costBelow 130 = .ok (.dup, 1) := by decide +kernel
theorem dX4_costBelow_131 : decode cX4_costBelow 131 = .ok (.getfield 18, 3) := by decide +kernel
theorem dX4_costBelow_134 : decode cX4_costBelow 134 = .ok (.iconst 1, 1) := by decide +kernel
theorem dX4_costBelow_135 : decode cX4_costBelow 135 = .ok (.iadd, 1) := by decide +kernel
theorem dX4_costBelow_136 : decode cX4_costBelow 136 = .ok (.putfield 18, 3) := by decide +kernel
theorem dX4_costBelow_139 : decode cX4_costBelow 139 = .ok (.iinc 10 1, 3) := by decide +kernel
theorem dX4_costBelow_142 : decode cX4_costBelow 142 = .ok (.goto (-95), 3) := by decide +kernel
theorem dX4_costBelow_145 : decode cX4_costBelow 145 = .ok (.iload 9, 2) := by decide +kernel
theorem dX4_costBelow_147 : decode cX4_costBelow 147 = .ok (.ireturn, 1) := by decide +kernel
theorem dX4_dotCost_0 : decode cX4_dotCost 0 = .ok (.iload_n 0, 1) := by decide +kernel
theorem dX4_dotCost_1 : decode cX4_dotCost 1 = .ok (.tableswitch 59 1 4 #[31, 35, 59, 50], 31) := by decide +kernel
theorem dX4_dotCost_32 : decode cX4_dotCost 32 = .ok (.iload_n 1, 1) := by decide +kernel
theorem dX4_dotCost_33 : decode cX4_dotCost 33 = .ok (.iload_n 1, 1) := by decide +kernel
theorem dX4_dotCost_34 : decode cX4_dotCost 34 = .ok (.imul, 1) := by decide +kernel
theorem dX4_dotCost_35 : decode cX4_dotCost 35 = .ok (.ireturn, 1) := by decide +kernel
theorem dX4_dotCost_36 : decode cX4_dotCost 36 = .ok (.iload_n 2, 1) := by decide +kernel
theorem dX4_dotCost_37 : decode cX4_dotCost 37 = .ok (.invokestatic 100, 3) := by decide +kernel
theorem dX4_dotCost_40 : decode cX4_dotCost 40 = .ok (.ifCond .eq 9, 3) := by decide +kernel
theorem dX4_dotCost_43 : decode cX4_dotCost 43 = .ok (.iconst 2, 1) := by decide +kernel
theorem dX4_dotCost_44 : decode cX4_dotCost 44 = .ok (.iload_n 1, 1) := by decide +kernel
theorem dX4_dotCost_45 : decode cX4_dotCost 45 = .ok (.imul, 1) := by decide +kernel
theorem dX4_dotCost_46 : decode cX4_dotCost 46 = .ok (.goto 4, 3) := by decide +kernel
theorem dX4_dotCost_49 : decode cX4_dotCost 49 = .ok (.iload_n 1, 1) := by decide +kernel
theorem dX4_dotCost_50 : decode cX4_dotCost 50 = .ok (.ireturn, 1) := by decide +kernel
theorem dX4_dotCost_51 : decode cX4_dotCost 51 = .ok (.bipush 9, 2) := by decide +kernel
theorem dX4_dotCost_53 : decode cX4_dotCost 53 = .ok (.iload_n 1, 1) := by decide +kernel
theorem dX4_dotCost_54 : decode cX4_dotCost 54 = .ok (.iload_n 1, 1) := by decide +kernel
theorem dX4_dotCost_55 : decode cX4_dotCost 55 = .ok (.imul, 1) := by decide +kernel
theorem dX4_dotCost_56 : decode cX4_dotCost 56 = .ok (.invokestatic 104, 3) := by decide +kernel
theorem dX4_dotCost_59 : decode cX4_dotCost 59 = .ok (.ireturn, 1) := by decide +kernel
theorem dX4_dotCost_60 : decode cX4_dotCost 60 = .ok (.iload_n 1, 1) := by decide +kernel
theorem dX4_dotCost_61 : decode cX4_dotCost 61 = .ok (.ireturn, 1) := by decide +kernel
theorem dX4_isAtEdge_0 : decode cX4_isAtEdge 0 = .ok (.iload_n 0, 1) := by decide +kernel
theorem dX4_isAtEdge_1 : decode cX4_isAtEdge 1 = .ok (.iconst 4, 1) := by decide +kernel
theorem dX4_isAtEdge_2 : decode cX4_isAtEdge 2 = .ok (.irem, 1) := by decide +kernel
theorem dX4_isAtEdge_3 : decode cX4_isAtEdge 3 = .ok (.istore_n 1, 1) := by decide +kernel
theorem dX4_isAtEdge_4 : decode cX4_isAtEdge 4 = .ok (.iload_n 0, 1) := by decide +kernel
theorem dX4_isAtEdge_5 : decode cX4_isAtEdge 5 = .ok (.iconst 4, 1) := by decide +kernel
theorem dX4_isAtEdge_6 : decode cX4_isAtEdge 6 = .ok (.idiv, 1) := by decide +kernel
theorem dX4_isAtEdge_7 : decode cX4_isAtEdge 7 = .ok (.istore_n 2, 1) := by decide +kernel
theorem dX4_isAtEdge_8 : decode cX4_isAtEdge 8 = .ok (.iload_n 1, 1) := by decide +kernel
theorem dX4_isAtEdge_9 : decode cX4_isAtEdge 9 = .ok (.ifCond .eq 17, 3) := by decide +kernel
theorem dX4_isAtEdge_12 : decode cX4_isAtEdge 12 = .ok (.iload_n 1, 1) := by decide +kernel
theorem dX4_isAtEdge_13 : decode cX4_isAtEdge 13 = .ok (.iconst 3, 1) := by decide +kernel
theorem dX4_isAtEdge_14 : decode cX4_isAtEdge 14 = .ok (.if_icmp .eq 12, 3) := by decide +kernel
theorem dX4_isAtEdge_17 : decode cX4_isAtEdge 17 = .ok (.iload_n 2, 1) := by decide +kernel
theorem dX4_isAtEdge_18 : decode cX4_isAtEdge 18 = .ok (.ifCond .eq 8, 3) := by decide +kernel
theorem dX4_isAtEdge_21 : decode cX4_isAtEdge 21 = .ok (.iload_n 2, 1) := by decide +kernel
theorem dX4_isAtEdge_22 : decode cX4_isAtEdge 22 = .ok (.iconst 3, 1) := by decide +kernel
theorem dX4_isAtEdge_23 : decode cX4_isAtEdge 23 = .ok (.if_icmp .ne 7, 3) := by decide +kernel
theorem dX4_isAtEdge_26 : decode cX4_isAtEdge 26 = .ok (.iconst 1, 1) := by decide +kernel
theorem dX4_isAtEdge_27 : decode cX4_isAtEdge 27 = .ok (.goto 4, 3) := by decide +kernel
theorem dX4_isAtEdge_30 : decode cX4_isAtEdge 30 = .ok (.iconst 0, 1) := by decide +kernel
theorem dX4_isAtEdge_31 : decode cX4_isAtEdge 31 = .ok (.ireturn, 1) := by decide +kernel
theorem dX4_isNear_0 : decode cX4_isNear 0 = .ok (.iload_n 0, 1) := by decide +kernel
theorem dX4_isNear_1 : decode cX4_isNear 1 = .ok (.invokestatic 32, 3) := by decide +kernel
theorem dX4_isNear_4 : decode cX4_isNear 4 = .ok (.iload_n 1, 1) := by decide +kernel
theorem dX4_isNear_5 : decode cX4_isNear 5 = .ok (.invokestatic 32, 3) := by decide +kernel
theorem dX4_isNear_8 : decode cX4_isNear 8 = .ok (.isub, 1) := by decide +kernel
theorem dX4_isNear_9 : decode cX4_isNear 9 = .ok (.invokestatic 91, 3) := by decide +kernel
theorem dX4_isNear_12 : decode cX4_isNear 12 = .ok (.iload_n 2, 1) := by decide +kernel
theorem dX4_isNear_13 : decode cX4_isNear 13 = .ok (.if_icmp .gt 23, 3) := by decide +kernel
theorem dX4_isNear_16 : decode cX4_isNear 16 = .ok (.iload_n 0, 1) := by decide +kernel
theorem dX4_isNear_17 : decode cX4_isNear 17 = .ok (.invokestatic 36, 3) := by decide +kernel
theorem dX4_isNear_20 : decode cX4_isNear 20 = .ok (.iload_n 1, 1) := by decide +kernel
theorem dX4_isNear_21 : decode cX4_isNear 21 = .ok (.invokestatic 36, 3) := by decide +kernel
theorem dX4_isNear_24 : decode cX4_isNear 24 = .ok (.isub, 1) := by decide +kernel
theorem dX4_isNear_25 : decode cX4_isNear 25 = .ok (.invokestatic 91, 3) := by decide +kernel
theorem dX4_isNear_28 : decode cX4_isNear 28 = .ok (.iload_n 2, 1) := by decide +kernel
theorem dX4_isNear_29 : decode cX4_isNear 29 = .ok (.if_icmp .gt 7, 3) := by decide +kernel
theorem dX4_isNear_32 : decode cX4_isNear 32 = .ok (.iconst 1, 1) := by decide +kernel
theorem dX4_isNear_33 : decode cX4_isNear 33 = .ok (.goto 4, 3) := by decide +kernel
theorem dX4_isNear_36 : decode cX4_isNear 36 = .ok (.iconst 0, 1) := by decide +kernel
theorem dX4_isNear_37 : decode cX4_isNear 37 = .ok (.ireturn, 1) := by decide +kernel
theorem dX4_sumsApart_0 : decode cX4_sumsApart 0 = .ok (.aload_n 0, 1) := by decide +kernel
theorem dX4_sumsApart_1 : decode cX4_sumsApart 1 = .ok (.getfield 71, 3) := by decide +kernel
theorem dX4_sumsApart_4 : decode cX4_sumsApart 4 = .ok (.iconst 1, 1) := by decide +kernel
theorem dX4_sumsApart_5 : decode cX4_sumsApart 5 = .ok (.if_icmp .eq 11, 3) := by decide +kernel
theorem dX4_sumsApart_8 : decode cX4_sumsApart 8 = .ok (.aload_n 0, 1) := by decide +kernel
theorem dX4_sumsApart_9 : decode cX4_sumsApart 9 = .ok (.getfield 71, 3) := by decide +kernel
theorem dX4_sumsApart_12 : decode cX4_sumsApart 12 = .ok (.iconst 4, 1) := by decide +kernel
theorem dX4_sumsApart_13 : decode cX4_sumsApart 13 = .ok (.if_icmp .ne 5, 3) := by decide +kernel
theorem dX4_sumsApart_16 : decode cX4_sumsApart 16 = .ok (.iconst (-1), 1) := by decide +kernel
theorem dX4_sumsApart_17 : decode cX4_sumsApart 17 = .ok (.ireturn, 1) := by decide +kernel
theorem dX4_sumsApart_18 : decode cX4_sumsApart 18 = .ok (.iconst 0, 1) := by decide +kernel
theorem dX4_sumsApart_19 : decode cX4_sumsApart 19 = .ok (.istore_n 3, 1) := by decide +kernel
theorem dX4_sumsApart_20 : decode cX4_sumsApart 20 = .ok (.iconst 0, 1) := by decide +kernel
theorem dX4_sumsApart_21 : decode cX4_sumsApart 21 = .ok (.istore 4, 2) := by decide +kernel
theorem dX4_sumsApart_23 : decode cX4_sumsApart 23 = .ok (.iload 4, 2) := by decide +kernel
theorem dX4_sumsApart_25 : decode cX4_sumsApart 25 = .ok (.bipush 16, 2) := by decide +kernel
theorem dX4_sumsApart_27 : decode cX4_sumsApart 27 = .ok (.if_icmp .ge 67, 3) := by decide +kernel
theorem dX4_sumsApart_30 : decode cX4_sumsApart 30 = .ok (.iload_n 1, 1) := by decide +kernel
theorem dX4_sumsApart_31 : decode cX4_sumsApart 31 = .ok (.invokestatic 65, 3) := by decide +kernel
theorem dX4_sumsApart_34 : decode cX4_sumsApart 34 = .ok (.iload 4, 2) := by decide +kernel
theorem dX4_sumsApart_36 : decode cX4_sumsApart 36 = .ok (.iconst 4, 1) := by decide +kernel
theorem dX4_sumsApart_37 : decode cX4_sumsApart 37 = .ok (.irem, 1) := by decide +kernel
theorem dX4_sumsApart_38 : decode cX4_sumsApart 38 = .ok (.iadd, 1) := by decide +kernel
theorem dX4_sumsApart_39 : decode cX4_sumsApart 39 = .ok (.istore 5, 2) := by decide +kernel
theorem dX4_sumsApart_41 : decode cX4_sumsApart 41 = .ok (.iload_n 1, 1) := by decide +kernel
theorem dX4_sumsApart_42 : decode cX4_sumsApart 42 = .ok (.invokestatic 68, 3) := by decide +kernel
theorem dX4_sumsApart_45 : decode cX4_sumsApart 45 = .ok (.iload 4, 2) := by decide +kernel
theorem dX4_sumsApart_47 : decode cX4_sumsApart 47 = .ok (.iconst 4, 1) := by decide +kernel
theorem dX4_sumsApart_48 : decode cX4_sumsApart 48 = .ok (.idiv, 1) := by decide +kernel
theorem dX4_sumsApart_49 : decode cX4_sumsApart 49 = .ok (.iadd, 1) := by decide +kernel
theorem dX4_sumsApart_50 : decode cX4_sumsApart 50 = .ok (.istore 6, 2) := by decide +kernel
theorem dX4_sumsApart_52 : decode cX4_sumsApart 52 = .ok (.iload_n 3, 1) := by decide +kernel
theorem dX4_sumsApart_53 : decode cX4_sumsApart 53 = .ok (.aload_n 0, 1) := by decide +kernel
theorem dX4_sumsApart_54 : decode cX4_sumsApart 54 = .ok (.getfield 79, 3) := by decide +kernel
theorem dX4_sumsApart_57 : decode cX4_sumsApart 57 = .ok (.iload 5, 2) := by decide +kernel
theorem dX4_sumsApart_59 : decode cX4_sumsApart 59 = .ok (.iload 6, 2) := by decide +kernel
theorem dX4_sumsApart_61 : decode cX4_sumsApart 61 = .ok (.invokevirtual 83, 3) := by decide +kernel
theorem dX4_sumsApart_64 : decode cX4_sumsApart 64 = .ok (.aload_n 0, 1) := by decide +kernel
theorem dX4_sumsApart_65 : decode cX4_sumsApart 65 = .ok (.getfield 88, 3) := by decide +kernel
theorem dX4_sumsApart_68 : decode cX4_sumsApart 68 = .ok (.iload 5, 2) := by decide +kernel
theorem dX4_sumsApart_70 : decode cX4_sumsApart 70 = .ok (.iload_n 2, 1) := by decide +kernel
theorem dX4_sumsApart_71 : decode cX4_sumsApart 71 = .ok (.invokestatic 32, 3) := by decide +kernel
theorem dX4_sumsApart_74 : decode cX4_sumsApart 74 = .ok (.iadd, 1) := by decide +kernel
theorem dX4_sumsApart_75 : decode cX4_sumsApart 75 = .ok (.iload 6, 2) := by decide +kernel
theorem dX4_sumsApart_77 : decode cX4_sumsApart 77 = .ok (.iload_n 2, 1) := by decide +kernel
theorem dX4_sumsApart_78 : decode cX4_sumsApart 78 = .ok (.invokestatic 36, 3) := by decide +kernel
theorem dX4_sumsApart_81 : decode cX4_sumsApart 81 = .ok (.iadd, 1) := by decide +kernel
theorem dX4_sumsApart_82 : decode cX4_sumsApart 82 = .ok (.invokevirtual 83, 3) := by decide +kernel
theorem dX4_sumsApart_85 : decode cX4_sumsApart 85 = .ok (.isub, 1) := by decide +kernel
theorem dX4_sumsApart_86 : decode cX4_sumsApart 86 = .ok (.iadd, 1) := by decide +kernel
theorem dX4_sumsApart_87 : decode cX4_sumsApart 87 = .ok (.istore_n 3, 1) := by decide +kernel
theorem dX4_sumsApart_88 : decode cX4_sumsApart 88 = .ok (.iinc 4 1, 3) := by decide +kernel
theorem dX4_sumsApart_91 : decode cX4_sumsApart 91 = .ok (.goto (-68), 3) := by decide +kernel
theorem dX4_sumsApart_94 : decode cX4_sumsApart 94 = .ok (.iload_n 3, 1) := by decide +kernel
theorem dX4_sumsApart_95 : decode cX4_sumsApart 95 = .ok (.invokestatic 91, 3) := by decide +kernel
theorem dX4_sumsApart_98 : decode cX4_sumsApart 98 = .ok (.ireturn, 1) := by decide +kernel
theorem dX4_smallMove_0 : decode cX4_smallMove 0 = .ok (.ldc 45, 2) := by decide +kernel
theorem dX4_smallMove_2 : decode cX4_smallMove 2 = .ok (.istore_n 2, 1) := by decide +kernel
theorem dX4_smallMove_3 : decode cX4_smallMove 3 = .ok (.bipush 24, 2) := by decide +kernel
theorem dX4_smallMove_5 : decode cX4_smallMove 5 = .ok (.istore_n 3, 1) := by decide +kernel
theorem dX4_smallMove_6 : decode cX4_smallMove 6 = .ok (.iconst 0, 1) := by decide +kernel
theorem dX4_smallMove_7 : decode cX4_smallMove 7 = .ok (.istore 4, 2) := by decide +kernel
theorem dX4_smallMove_9 : decode cX4_smallMove 9 = .ok (.iload 4, 2) := by decide +kernel
theorem dX4_smallMove_11 : decode cX4_smallMove 11 = .ok (.bipush 49, 2) := by decide +kernel
theorem dX4_smallMove_13 : decode cX4_smallMove 13 = .ok (.if_icmp .ge 52, 3) := by decide +kernel
theorem dX4_smallMove_16 : decode cX4_smallMove 16 = .ok (.getstatic 46, 3) := by decide +kernel
theorem dX4_smallMove_19 : decode cX4_smallMove 19 = .ok (.iload 4, 2) := by decide +kernel
theorem dX4_smallMove_21 : decode cX4_smallMove 21 = .ok (.iaload, 1) := by decide +kernel
theorem dX4_smallMove_22 : decode cX4_smallMove 22 = .ok (.istore 5, 2) := by decide +kernel
theorem dX4_smallMove_24 : decode cX4_smallMove 24 = .ok (.iload 5, 2) := by decide +kernel
theorem dX4_smallMove_26 : decode cX4_smallMove 26 = .ok (.bipush 24, 2) := by decide +kernel
theorem dX4_smallMove_28 : decode cX4_smallMove 28 = .ok (.iconst 1, 1) := by decide +kernel
theorem dX4_smallMove_29 : decode cX4_smallMove 29 = .ok (.invokestatic 58, 3) := by decide +kernel
theorem dX4_smallMove_32 : decode cX4_smallMove 32 = .ok (.ifCond .ne 6, 3) := by decide +kernel
theorem dX4_smallMove_35 : decode cX4_smallMove 35 = .ok (.goto 24, 3) := by decide +kernel
theorem dX4_smallMove_38 : decode cX4_smallMove 38 = .ok (.aload_n 0, 1) := by decide +kernel
theorem dX4_smallMove_39 : decode cX4_smallMove 39 = .ok (.iload_n 1, 1) := by decide +kernel
theorem dX4_smallMove_40 : decode cX4_smallMove 40 = .ok (.iload 5, 2) := by decide +kernel
theorem dX4_smallMove_42 : decode cX4_smallMove 42 = .ok (.invokestatic 107, 3) := by decide +kernel
theorem dX4_smallMove_45 : decode cX4_smallMove 45 = .ok (.istore 6, 2) := by decide +kernel
theorem dX4_smallMove_47 : decode cX4_smallMove 47 = .ok (.iload 6, 2) := by decide +kernel
theorem dX4_smallMove_49 : decode cX4_smallMove 49 = .ok (.iload_n 2, 1) := by decide +kernel
theorem dX4_smallMove_50 : decode cX4_smallMove 50 = .ok (.if_icmp .ge 9, 3) := by decide +kernel
theorem dX4_smallMove_53 : decode cX4_smallMove 53 = .ok (.iload 6, 2) := by decide +kernel
theorem dX4_smallMove_55 : decode cX4_smallMove 55 = .ok (.istore_n 2, 1) := by decide +kernel
theorem dX4_smallMove_56 : decode cX4_smallMove 56 = .ok (.iload 5, 2) := by decide +kernel
theorem dX4_smallMove_58 : decode cX4_smallMove 58 = .ok (.istore_n 3, 1) := by decide +kernel
theorem dX4_smallMove_59 : decode cX4_smallMove 59 = .ok (.iinc 4 1, 3) := by decide +kernel
theorem dX4_smallMove_62 : decode cX4_smallMove 62 = .ok (.goto (-53), 3) := by decide +kernel
theorem dX4_smallMove_65 : decode cX4_smallMove 65 = .ok (.iload_n 3, 1) := by decide +kernel
theorem dX4_smallMove_66 : decode cX4_smallMove 66 = .ok (.ireturn, 1) := by decide +kernel
theorem dX4_smallCost_0 : decode cX4_smallCost 0 = .ok (.iconst 0, 1) := by decide +kernel
theorem dX4_smallCost_1 : decode cX4_smallCost 1 = .ok (.istore_n 3, 1) := by decide +kernel
theorem dX4_smallCost_2 : decode cX4_smallCost 2 = .ok (.iconst 0, 1) := by decide +kernel
theorem dX4_smallCost_3 : decode cX4_smallCost 3 = .ok (.istore 4, 2) := by decide +kernel
theorem dX4_smallCost_5 : decode cX4_smallCost 5 = .ok (.iload 4, 2) := by decide +kernel
theorem dX4_smallCost_7 : decode cX4_smallCost 7 = .ok (.iconst 4, 1) := by decide +kernel
theorem dX4_smallCost_8 : decode cX4_smallCost 8 = .ok (.if_icmp .ge 78, 3) := by decide +kernel
theorem dX4_smallCost_11 : decode cX4_smallCost 11 = .ok (.iload_n 1, 1) := by decide +kernel
theorem dX4_smallCost_12 : decode cX4_smallCost 12 = .ok (.invokestatic 65, 3) := by decide +kernel
theorem dX4_smallCost_15 : decode cX4_smallCost 15 = .ok (.iconst 2, 1) := by decide +kernel
theorem dX4_smallCost_16 : decode cX4_smallCost 16 = .ok (.idiv, 1) := by decide +kernel
theorem dX4_smallCost_17 : decode cX4_smallCost 17 = .ok (.iload 4, 2) := by decide +kernel
theorem dX4_smallCost_19 : decode cX4_smallCost 19 = .ok (.iconst 2, 1) := by decide +kernel
theorem dX4_smallCost_20 : decode cX4_smallCost 20 = .ok (.irem, 1) := by decide +kernel
theorem dX4_smallCost_21 : decode cX4_smallCost 21 = .ok (.iadd, 1) := by decide +kernel
theorem dX4_smallCost_22 : decode cX4_smallCost 22 = .ok (.istore 5, 2) := by decide +kernel
theorem dX4_smallCost_24 : decode cX4_smallCost 24 = .ok (.iload_n 1, 1) := by decide +kernel
theorem dX4_smallCost_25 : decode cX4_smallCost 25 = .ok (.invokestatic 68, 3) := by decide +kernel
theorem dX4_smallCost_28 : decode cX4_smallCost 28 = .ok (.iconst 2, 1) := by decide +kernel
theorem dX4_smallCost_29 : decode cX4_smallCost 29 = .ok (.idiv, 1) := by decide +kernel
theorem dX4_smallCost_30 : decode cX4_smallCost 30 = .ok (.iload 4, 2) := by decide +kernel
theorem dX4_smallCost_32 : decode cX4_smallCost 32 = .ok (.iconst 2, 1) := by decide +kernel
theorem dX4_smallCost_33 : decode cX4_smallCost 33 = .ok (.idiv, 1) := by decide +kernel
theorem dX4_smallCost_34 : decode cX4_smallCost 34 = .ok (.iadd, 1) := by decide +kernel
theorem dX4_smallCost_35 : decode cX4_smallCost 35 = .ok (.istore 6, 2) := by decide +kernel
theorem dX4_smallCost_37 : decode cX4_smallCost 37 = .ok (.aload_n 0, 1) := by decide +kernel
theorem dX4_smallCost_38 : decode cX4_smallCost 38 = .ok (.getfield 88, 3) := by decide +kernel
theorem dX4_smallCost_41 : decode cX4_smallCost 41 = .ok (.iload 5, 2) := by decide +kernel
theorem dX4_smallCost_43 : decode cX4_smallCost 43 = .ok (.iload_n 2, 1) := by decide +kernel
theorem dX4_smallCost_44 : decode cX4_smallCost 44 = .ok (.invokestatic 32, 3) := by decide +kernel
theorem dX4_smallCost_47 : decode cX4_smallCost 47 = .ok (.iadd, 1) := by decide +kernel
theorem dX4_smallCost_48 : decode cX4_smallCost 48 = .ok (.iload 6, 2) := by decide +kernel
theorem dX4_smallCost_50 : decode cX4_smallCost 50 = .ok (.iload_n 2, 1) := by decide +kernel
theorem dX4_smallCost_51 : decode cX4_smallCost 51 = .ok (.invokestatic 36, 3) := by decide +kernel
theorem dX4_smallCost_54 : decode cX4_smallCost 54 = .ok (.iadd, 1) := by decide +kernel
theorem dX4_smallCost_55 : decode cX4_smallCost 55 = .ok (.invokevirtual 110, 3) := by decide +kernel
theorem dX4_smallCost_58 : decode cX4_smallCost 58 = .ok (.istore 7, 2) := by decide +kernel
theorem dX4_smallCost_60 : decode cX4_smallCost 60 = .ok (.iload_n 3, 1) := by decide +kernel
theorem dX4_smallCost_61 : decode cX4_smallCost 61 = .ok (.aload_n 0, 1) := by decide +kernel
theorem dX4_smallCost_62 : decode cX4_smallCost 62 = .ok (.getfield 79, 3) := by decide +kernel
theorem dX4_smallCost_65 : decode cX4_smallCost 65 = .ok (.iload 5, 2) := by decide +kernel
theorem dX4_smallCost_67 : decode cX4_smallCost 67 = .ok (.iload 6, 2) := by decide +kernel
theorem dX4_smallCost_69 : decode cX4_smallCost 69 = .ok (.invokevirtual 110, 3) := by decide +kernel
theorem dX4_smallCost_72 : decode cX4_smallCost 72 = .ok (.iload 7, 2) := by decide +kernel
theorem dX4_smallCost_74 : decode cX4_smallCost 74 = .ok (.isub, 1) := by decide +kernel
theorem dX4_smallCost_75 : decode cX4_smallCost 75 = .ok (.invokestatic 91, 3) := by decide +kernel
theorem dX4_smallCost_78 : decode cX4_smallCost 78 = .ok (.iadd, 1) := by decide +kernel
theorem dX4_smallCost_79 : decode cX4_smallCost 79 = .ok (.istore_n 3, 1) := by decide +kernel
theorem dX4_smallCost_80 : decode cX4_smallCost 80 = .ok (.iinc 4 1, 3) := by decide +kernel
theorem dX4_smallCost_83 : decode cX4_smallCost 83 = .ok (.goto (-78), 3) := by decide +kernel
theorem dX4_smallCost_86 : decode cX4_smallCost 86 = .ok (.iload_n 3, 1) := by decide +kernel
theorem dX4_smallCost_87 : decode cX4_smallCost 87 = .ok (.ireturn, 1) := by decide +kernel
theorem dX5_init_0 : decode cX5_init 0 = .ok (.aload_n 0, 1) := by decide +kernel
theorem dX5_init_1 : decode cX5_init 1 = .ok (.invokespecial 3, 3) := by decide +kernel
theorem dX5_init_4 : decode cX5_init 4 = .ok (.aload_n 0, 1) := by decide +kernel
theorem dX5_init_5 : decode cX5_init 5 = .ok (.bipush 24, 2) := by decide +kernel
theorem dX5_init_7 : decode cX5_init 7 = .ok (.newarray .long, 2) := by decide +kernel
theorem dX5_init_9 : decode cX5_init 9 = .ok (.putfield 9, 3) := by decide +kernel
theorem dX5_init_12 : decode cX5_init 12 = .ok (.aload_n 0, 1) := by decide +kernel
theorem dX5_init_13 : decode cX5_init 13 = .ok (.iconst 0, 1) := by decide +kernel
theorem dX5_init_14 : decode cX5_init 14 = .ok (.putfield 15, 3) := by decide +kernel
theorem dX5_init_17 : decode cX5_init 17 = .ok (.aload_n 0, 1) := by decide +kernel
theorem dX5_init_18 : decode cX5_init 18 = .ok (.iconst 0, 1) := by decide +kernel
theorem dX5_init_19 : decode cX5_init 19 = .ok (.putfield 19, 3) := by decide +kernel
theorem dX5_init_22 : decode cX5_init 22 = .ok (.aload_n 0, 1) := by decide +kernel
theorem dX5_init_23 : decode cX5_init 23 = .ok (.iconst 0, 1) := by decide +kernel
theorem dX5_init_24 : decode cX5_init 24 = .ok (.putfield 23, 3) := by decide +kernel
theorem dX5_init_27 : decode cX5_init 27 = .ok (.return_, 1) := by decide +kernel
theorem dX5_begin_0 : decode cX5_begin 0 = .ok (.aload_n 0, 1) := by decide +kernel
theorem dX5_begin_1 : decode cX5_begin 1 = .ok (.iconst 1, 1) := by decide +kernel
theorem dX5_begin_2 : decode cX5_begin 2 = .ok (.putfield 15, 3) := by decide +kernel
theorem dX5_begin_5 : decode cX5_begin 5 = .ok (.aload_n 0, 1) := by decide +kernel
theorem dX5_begin_6 : decode cX5_begin 6 = .ok (.iload_n 1, 1) := by decide +kernel
theorem dX5_begin_7 : decode cX5_begin 7 = .ok (.putfield 19, 3) := by decide +kernel
theorem dX5_begin_10 : decode cX5_begin 10 = .ok (.aload_n 0, 1) := by decide +kernel
theorem dX5_begin_11 : decode cX5_begin 11 = .ok (.iload_n 2, 1) := by decide +kernel
theorem dX5_begin_12 : decode cX5_begin 12 = .ok (.putfield 23, 3) := by decide +kernel
theorem dX5_begin_15 : decode cX5_begin 15 = .ok (.iconst 0, 1) := by decide +kernel
theorem dX5_begin_16 : decode cX5_begin 16 = .ok (.istore_n 3, 1) := by decide +kernel
theorem dX5_begin_17 : decode cX5_begin 17 = .ok (.iload_n 3, 1) := by decide +kernel
theorem dX5_begin_18 : decode cX5_begin 18 = .ok (.bipush 24, 2) := by decide +kernel
theorem dX5_begin_20 : decode cX5_begin 20 = .ok (.if_icmp .ge 16, 3) := by decide +kernel
theorem dX5_begin_23 : decode cX5_begin 23 = .ok (.aload_n 0, 1) := by decide +kernel
theorem dX5_begin_24 : decode cX5_begin 24 = .ok (.getfield 9, 3) := by decide +kernel
theorem dX5_begin_27 : decode cX5_begin 27 = .ok (.iload_n 3, 1) := by decide +kernel
theorem dX5_begin_28 : decode cX5_begin 28 = .ok (.lconst 0, 1) := by decide +kernel
theorem dX5_begin_29 : decode cX5_begin 29 = .ok (.lastore, 1) := by decide +kernel
theorem dX5_begin_30 : decode cX5_begin 30 = .ok (.iinc 3 1, 3) := by decide +kernel
theorem dX5_begin_33 : decode cX5_begin 33 = .ok (.goto (-16), 3) := by decide +kernel
theorem dX5_begin_36 : decode cX5_begin 36 = .ok (.return_, 1) := by decide +kernel
theorem dX5_refusal_0 : decode cX5_refusal 0 = .ok (.aload_n 0, 1) := by decide +kernel
theorem dX5_refusal_1 : decode cX5_refusal 1 = .ok (.getfield 15, 3) := by decide +kernel
theorem dX5_refusal_4 : decode cX5_refusal 4 = .ok (.ifCond .ne 6, 3) := by decide +kernel
theorem dX5_refusal_7 : decode cX5_refusal 7 = .ok (.ldc 26, 2) := by decide +kernel
theorem dX5_refusal_9 : decode cX5_refusal 9 = .ok (.ireturn, 1) := by decide +kernel
theorem dX5_refusal_10 : decode cX5_refusal 10 = .ok (.aload_n 0, 1) := by decide +kernel
theorem dX5_refusal_11 : decode cX5_refusal 11 = .ok (.getfield 19, 3) := by decide +kernel
theorem dX5_refusal_14 : decode cX5_refusal 14 = .ok (.iload_n 1, 1) := by decide +kernel
theorem dX5_refusal_15 : decode cX5_refusal 15 = .ok (.if_icmp .eq 6, 3) := by decide +kernel
theorem dX5_refusal_18 : decode cX5_refusal 18 = .ok (.ldc 27, 2) := by decide +kernel
theorem dX5_refusal_20 : decode cX5_refusal 20 = .ok (.ireturn, 1) := by decide +kernel
theorem dX5_refusal_21 : decode cX5_refusal 21 = .ok (.aload_n 0, 1) := by decide +kernel
theorem dX5_refusal_22 : decode cX5_refusal 22 = .ok (.iload_n 2, 1) := by decide +kernel
theorem dX5_refusal_23 : decode cX5_refusal 23 = .ok (.iload_n 3, 1) := by decide +kernel
theorem dX5_refusal_24 : decode cX5_refusal 24 = .ok (.invokevirtual 28, 3) := by decide +kernel
theorem dX5_refusal_27 : decode cX5_refusal 27 = .ok (.ifCond .eq 7, 3) := by decide +kernel
theorem dX5_refusal_30 : decode cX5_refusal 30 = .ok (.iconst 0, 1) := by decide +kernel
theorem dX5_refusal_31 : decode cX5_refusal 31 = .ok (.goto 5, 3) := by decide +kernel
theorem dX5_refusal_34 : decode cX5_refusal 34 = .ok (.ldc 32, 2) := by decide +kernel
theorem dX5_refusal_36 : decode cX5_refusal 36 = .ok (.ireturn, 1) := by decide +kernel
theorem dX5_spans_0 : decode cX5_spans 0 = .ok (.iload_n 1, 1) := by decide +kernel
theorem dX5_spans_1 : decode cX5_spans 1 = .ok (.ifCond .lt 29, 3) := by decide +kernel
theorem dX5_spans_4 : decode cX5_spans 4 = .ok (.iload_n 2, 1) := by decide +kernel
theorem dX5_spans_5 : decode cX5_spans 5 = .ok (.ifCond .lt 25, 3) := by decide +kernel
theorem dX5_spans_8 : decode cX5_spans 8 = .ok (.iload_n 1, 1) := by decide +kernel
theorem dX5_spans_9 : decode cX5_spans 9 = .ok (.aload_n 0, 1) := by decide +kernel
theorem dX5_spans_10 : decode cX5_spans 10 = .ok (.getfield 23, 3) := by decide +kernel
theorem dX5_spans_13 : decode cX5_spans 13 = .ok (.if_icmp .gt 17, 3) := by decide +kernel
theorem dX5_spans_16 : decode cX5_spans 16 = .ok (.iload_n 2, 1) := by decide +kernel
theorem dX5_spans_17 : decode cX5_spans 17 = .ok (.aload_n 0, 1) := by decide +kernel
theorem dX5_spans_18 : decode cX5_spans 18 = .ok (.getfield 23, 3) := by decide +kernel
theorem dX5_spans_21 : decode cX5_spans 21 = .ok (.iload_n 1, 1) := by decide +kernel
theorem dX5_spans_22 : decode cX5_spans 22 = .ok (.isub, 1) := by decide +kernel
theorem dX5_spans_23 : decode cX5_spans 23 = .ok (.if_icmp .gt 7, 3) := by decide +kernel
theorem dX5_spans_26 : decode cX5_spans 26 = .ok (.iconst 1, 1) := by decide +kernel
theorem dX5_spans_27 : decode cX5_spans 27 = .ok (.goto 4, 3) := by decide +kernel
theorem dX5_spans_30 : decode cX5_spans 30 = .ok (.iconst 0, 1) := by decide +kernel
theorem dX5_spans_31 : decode cX5_spans 31 = .ok (.ireturn, 1) := by decide +kernel
theorem dX5_put_0 : decode cX5_put 0 = .ok (.aload_n 0, 1) := by decide +kernel
theorem dX5_put_1 : decode cX5_put 1 = .ok (.getfield 19, 3) := by decide +kernel
theorem dX5_put_4 : decode cX5_put 4 = .ok (.tableswitch 66 0 2 #[28, 41, 54], 28) := by decide +kernel
theorem dX5_put_32 : decode cX5_put 32 = .ok (.aload_n 0, 1) := by decide +kernel
theorem dX5_put_33 : decode cX5_put 33 = .ok (.getfield 9, 3) := by decide +kernel
theorem dX5_put_36 : decode cX5_put 36 = .ok (.iload_n 1, 1) := by decide +kernel
theorem dX5_put_37 : decode cX5_put 37 = .ok (.lload_n 2, 1) := by decide +kernel
theorem dX5_put_38 : decode cX5_put 38 = .ok (.l2i, 1) := by decide +kernel
theorem dX5_put_39 : decode cX5_put 39 = .ok (.i2b, 1) := by decide +kernel
theorem dX5_put_40 : decode cX5_put 40 = .ok (.i2l, 1) := by decide +kernel
theorem dX5_put_41 : decode cX5_put 41 = .ok (.lastore, 1) := by decide +kernel
theorem dX5_put_42 : decode cX5_put 42 = .ok (.goto 35, 3) := by decide +kernel
theorem dX5_put_45 : decode cX5_put 45 = .ok (.aload_n 0, 1) := by decide +kernel
theorem dX5_put_46 : decode cX5_put 46 = .ok (.getfield 9, 3) := by decide +kernel
theorem dX5_put_49 : decode cX5_put 49 = .ok (.iload_n 1, 1) := by decide +kernel
theorem dX5_put_50 : decode cX5_put 50 = .ok (.lload_n 2, 1) := by decide +kernel
theorem dX5_put_51 : decode cX5_put 51 = .ok (.l2i, 1) := by decide +kernel
theorem dX5_put_52 : decode cX5_put 52 = .ok (.i2s, 1) := by decide +kernel
theorem dX5_put_53 : decode cX5_put 53 = .ok (.i2l, 1) := by decide +kernel
theorem dX5_put_54 : decode cX5_put 54 = .ok (.lastore, 1) := by decide +kernel
theorem dX5_put_55 : decode cX5_put 55 = .ok (.goto 22, 3) := by decide +kernel
theorem dX5_put_58 : decode cX5_put 58 = .ok (.aload_n 0, 1) := by decide +kernel
theorem dX5_put_59 : decode cX5_put 59 = .ok (.getfield 9, 3) := by decide +kernel
theorem dX5_put_62 : decode cX5_put 62 = .ok (.iload_n 1, 1) := by decide +kernel
theorem dX5_put_63 : decode cX5_put 63 = .ok (.lload_n 2, 1) := by decide +kernel
theorem dX5_put_64 : decode cX5_put 64 = .ok (.l2i, 1) := by decide +kernel
theorem dX5_put_65 : decode cX5_put 65 = .ok (.i2l, 1) := by decide +kernel
theorem dX5_put_66 : decode cX5_put 66 = .ok (.lastore, 1) := by decide +kernel
theorem dX5_put_67 : decode cX5_put 67 = .ok (.goto 10, 3) := by decide +kernel
theorem dX5_put_70 : decode cX5_put 70 = .ok (.aload_n 0, 1) := by decide +kernel
theorem dX5_put_71 : decode cX5_put 71 = .ok (.getfield 9, 3) := by decide +kernel
theorem dX5_put_74 : decode cX5_put 74 = .ok (.iload_n 1, 1) := by decide +kernel
theorem dX5_put_75 : decode cX5_put 75 = .ok (.lload_n 2, 1) := by decide +kernel
theorem dX5_put_76 : decode cX5_put 76 = .ok (.lastore, 1) := by decide +kernel
theorem dX5_put_77 : decode cX5_put 77 = .ok (.return_, 1) := by decide +kernel
theorem dX6_init_0 : decode cX6_init 0 = .ok (.aload_n 0, 1) := by decide +kernel
theorem dX6_init_1 : decode cX6_init 1 = .ok (.invokespecial 3, 3) := by decide +kernel
theorem dX6_init_4 : decode cX6_init 4 = .ok (.aload_n 0, 1) := by decide +kernel
theorem dX6_init_5 : decode cX6_init 5 = .ok (.new 9, 3) := by decide +kernel
theorem dX6_init_8 : decode cX6_init 8 = .ok (.dup, 1) := by decide +kernel
theorem dX6_init_9 : decode cX6_init 9 = .ok (.invokespecial 11, 3) := by decide +kernel
theorem dX6_init_12 : decode cX6_init 12 = .ok (.putfield 12, 3) := by decide +kernel
theorem dX6_init_15 : decode cX6_init 15 = .ok (.aload_n 0, 1) := by decide +kernel
theorem dX6_init_16 : decode cX6_init 16 = .ok (.bipush 8, 2) := by decide +kernel
theorem dX6_init_18 : decode cX6_init 18 = .ok (.anewarray 9, 3) := by decide +kernel
theorem dX6_init_21 : decode cX6_init 21 = .ok (.putfield 18, 3) := by decide +kernel
theorem dX6_init_24 : decode cX6_init 24 = .ok (.aload_n 0, 1) := by decide +kernel
theorem dX6_init_25 : decode cX6_init 25 = .ok (.iconst 0, 1) := by decide +kernel
theorem dX6_init_26 : decode cX6_init 26 = .ok (.putfield 22, 3) := by decide +kernel
theorem dX6_init_29 : decode cX6_init 29 = .ok (.iconst 0, 1) := by decide +kernel
theorem dX6_init_30 : decode cX6_init 30 = .ok (.istore_n 1, 1) := by decide +kernel
theorem dX6_init_31 : decode cX6_init 31 = .ok (.iload_n 1, 1) := by decide +kernel
theorem dX6_init_32 : decode cX6_init 32 = .ok (.bipush 8, 2) := by decide +kernel
theorem dX6_init_34 : decode cX6_init 34 = .ok (.if_icmp .ge 22, 3) := by decide +kernel
theorem dX6_init_37 : decode cX6_init 37 = .ok (.aload_n 0, 1) := by decide +kernel
theorem dX6_init_38 : decode cX6_init 38 = .ok (.getfield 18, 3) := by decide +kernel
theorem dX6_init_41 : decode cX6_init 41 = .ok (.iload_n 1, 1) := by decide +kernel
theorem dX6_init_42 : decode cX6_init 42 = .ok (.new 9, 3) := by decide +kernel
theorem dX6_init_45 : decode cX6_init 45 = .ok (.dup, 1) := by decide +kernel
theorem dX6_init_46 : decode cX6_init 46 = .ok (.invokespecial 11, 3) := by decide +kernel
theorem dX6_init_49 : decode cX6_init 49 = .ok (.aastore, 1) := by decide +kernel
theorem dX6_init_50 : decode cX6_init 50 = .ok (.iinc 1 1, 3) := by decide +kernel
theorem dX6_init_53 : decode cX6_init 53 = .ok (.goto (-22), 3) := by decide +kernel
theorem dX6_init_56 : decode cX6_init 56 = .ok (.return_, 1) := by decide +kernel
theorem dX6_keep_0 : decode cX6_keep 0 = .ok (.aload_n 0, 1) := by decide +kernel
theorem dX6_keep_1 : decode cX6_keep 1 = .ok (.getfield 22, 3) := by decide +kernel
theorem dX6_keep_4 : decode cX6_keep 4 = .ok (.bipush 8, 2) := by decide +kernel
theorem dX6_keep_6 : decode cX6_keep 6 = .ok (.if_icmp .ne 7, 3) := by decide +kernel
theorem dX6_keep_9 : decode cX6_keep 9 = .ok (.aload_n 0, 1) := by decide +kernel
theorem dX6_keep_10 : decode cX6_keep 10 = .ok (.invokevirtual 26, 3) := by decide +kernel
theorem dX6_keep_13 : decode cX6_keep 13 = .ok (.aload_n 0, 1) := by decide +kernel
theorem dX6_keep_14 : decode cX6_keep 14 = .ok (.getfield 18, 3) := by decide +kernel
theorem dX6_keep_17 : decode cX6_keep 17 = .ok (.aload_n 0, 1) := by decide +kernel
theorem dX6_keep_18 : decode cX6_keep 18 = .ok (.getfield 22, 3) := by decide +kernel
theorem dX6_keep_21 : decode cX6_keep 21 = .ok (.aaload, 1) := by decide +kernel
theorem dX6_keep_22 : decode cX6_keep 22 = .ok (.aload_n 0, 1) := by decide +kernel
theorem dX6_keep_23 : decode cX6_keep 23 = .ok (.getfield 12, 3) := by decide +kernel
theorem dX6_keep_26 : decode cX6_keep 26 = .ok (.invokevirtual 29, 3) := by decide +kernel
theorem dX6_keep_29 : decode cX6_keep 29 = .ok (.aload_n 0, 1) := by decide +kernel
theorem dX6_keep_30 : decode cX6_keep 30 = .ok (.dup, 1) := by decide +kernel
theorem dX6_keep_31 : decode cX6_keep 31 = .ok (.getfield 22, 3) := by decide +kernel
theorem dX6_keep_34 : decode cX6_keep 34 = .ok (.iconst 1, 1) := by decide +kernel
theorem dX6_keep_35 : decode cX6_keep 35 = .ok (.iadd, 1) := by decide +kernel
theorem dX6_keep_36 : decode cX6_keep 36 = .ok (.putfield 22, 3) := by decide +kernel
theorem dX6_keep_39 : decode cX6_keep 39 = .ok (.return_, 1) := by decide +kernel
theorem dX6_loseOldest_0 : decode cX6_loseOldest 0 = .ok (.aload_n 0, 1) := by decide +kernel
theorem dX6_loseOldest_1 : decode cX6_loseOldest 1 = .ok (.getfield 18, 3) := by decide +kernel
theorem dX6_loseOldest_4 : decode cX6_loseOldest 4 = .ok (.iconst 0, 1) := by decide +kernel
theorem dX6_loseOldest_5 : decode cX6_loseOldest 5 = .ok (.aaload, 1) := by decide +kernel
theorem dX6_loseOldest_6 : decode cX6_loseOldest 6 = .ok (.astore_n 1, 1) := by decide +kernel
theorem dX6_loseOldest_7 : decode cX6_loseOldest 7 = .ok (.iconst 1, 1) := by decide +kernel
theorem dX6_loseOldest_8 : decode cX6_loseOldest 8 = .ok (.istore_n 2, 1) := by decide +kernel
theorem dX6_loseOldest_9 : decode cX6_loseOldest 9 = .ok (.iload_n 2, 1) := by decide +kernel
theorem dX6_loseOldest_10 : decode cX6_loseOldest 10 = .ok (.bipush 8, 2) := by decide +kernel
theorem dX6_loseOldest_12 : decode cX6_loseOldest 12 = .ok (.if_icmp .ge 23, 3) := by decide +kernel
theorem dX6_loseOldest_15 : decode cX6_loseOldest 15 = .ok (.aload_n 0, 1) := by decide +kernel
theorem dX6_loseOldest_16 : decode cX6_loseOldest 16 = .ok (.getfield 18, 3) := by decide +kernel
theorem dX6_loseOldest_19 : decode cX6_loseOldest 19 = .ok (.iload_n 2, 1) := by decide +kernel
theorem dX6_loseOldest_20 : decode cX6_loseOldest 20 = .ok (.iconst 1, 1) := by decide +kernel
theorem dX6_loseOldest_21 : decode cX6_loseOldest 21 = .ok (.isub, 1) := by decide +kernel
theorem dX6_loseOldest_22 : decode cX6_loseOldest 22 = .ok (.aload_n 0, 1) := by decide +kernel
theorem dX6_loseOldest_23 : decode cX6_loseOldest 23 = .ok (.getfield 18, 3) := by decide +kernel
theorem dX6_loseOldest_26 : decode cX6_loseOldest 26 = .ok (.iload_n 2, 1) := by decide +kernel
theorem dX6_loseOldest_27 : decode cX6_loseOldest 27 = .ok (.aaload, 1) := by decide +kernel
theorem dX6_loseOldest_28 : decode cX6_loseOldest 28 = .ok (.aastore, 1) := by decide +kernel
theorem dX6_loseOldest_29 : decode cX6_loseOldest 29 = .ok (.iinc 2 1, 3) := by decide +kernel
theorem dX6_loseOldest_32 : decode cX6_loseOldest 32 = .ok (.goto (-23), 3) := by decide +kernel
theorem dX6_loseOldest_35 : decode cX6_loseOldest 35 = .ok (.aload_n 0, 1) := by decide +kernel
theorem dX6_loseOldest_36 : decode cX6_loseOldest 36 = .ok (.getfield 18, 3) := by decide +kernel
theorem dX6_loseOldest_39 : decode cX6_loseOldest 39 = .ok (.bipush 7, 2) := by decide +kernel
theorem dX6_loseOldest_41 : decode cX6_loseOldest 41 = .ok (.aload_n 1, 1) := by decide +kernel
theorem dX6_loseOldest_42 : decode cX6_loseOldest 42 = .ok (.aastore, 1) := by decide +kernel
theorem dX6_loseOldest_43 : decode cX6_loseOldest 43 = .ok (.aload_n 0, 1) := by decide +kernel
theorem dX6_loseOldest_44 : decode cX6_loseOldest 44 = .ok (.bipush 7, 2) := by decide +kernel
theorem dX6_loseOldest_46 : decode cX6_loseOldest 46 = .ok (.putfield 22, 3) := by decide +kernel
theorem dX6_loseOldest_49 : decode cX6_loseOldest 49 = .ok (.return_, 1) := by decide +kernel
theorem dX6_goBack_0 : decode cX6_goBack 0 = .ok (.aload_n 0, 1) := by decide +kernel
theorem dX6_goBack_1 : decode cX6_goBack 1 = .ok (.getfield 22, 3) := by decide +kernel
theorem dX6_goBack_4 : decode cX6_goBack 4 = .ok (.ifCond .le 29, 3) := by decide +kernel
theorem dX6_goBack_7 : decode cX6_goBack 7 = .ok (.aload_n 0, 1) := by decide +kernel
theorem dX6_goBack_8 : decode cX6_goBack 8 = .ok (.dup, 1) := by decide +kernel
theorem dX6_goBack_9 : decode cX6_goBack 9 = .ok (.getfield 22, 3) := by decide +kernel
theorem dX6_goBack_12 : decode cX6_goBack 12 = .ok (.iconst 1, 1) := by decide +kernel
theorem dX6_goBack_13 : decode cX6_goBack 13 = .ok (.isub, 1) := by decide +kernel
theorem dX6_goBack_14 : decode cX6_goBack 14 = .ok (.putfield 22, 3) := by decide +kernel
theorem dX6_goBack_17 : decode cX6_goBack 17 = .ok (.aload_n 0, 1) := by decide +kernel
theorem dX6_goBack_18 : decode cX6_goBack 18 = .ok (.getfield 12, 3) := by decide +kernel
theorem dX6_goBack_21 : decode cX6_goBack 21 = .ok (.aload_n 0, 1) := by decide +kernel
theorem dX6_goBack_22 : decode cX6_goBack 22 = .ok (.getfield 18, 3) := by decide +kernel
theorem dX6_goBack_25 : decode cX6_goBack 25 = .ok (.aload_n 0, 1) := by decide +kernel
theorem dX6_goBack_26 : decode cX6_goBack 26 = .ok (.getfield 22, 3) := by decide +kernel
theorem dX6_goBack_29 : decode cX6_goBack 29 = .ok (.aaload, 1) := by decide +kernel
theorem dX6_goBack_30 : decode cX6_goBack 30 = .ok (.invokevirtual 29, 3) := by decide +kernel
theorem dX6_goBack_33 : decode cX6_goBack 33 = .ok (.return_, 1) := by decide +kernel
theorem dX6_become_0 : decode cX6_become 0 = .ok (.aload_n 0, 1) := by decide +kernel
theorem dX6_become_1 : decode cX6_become 1 = .ok (.getfield 12, 3) := by decide +kernel
theorem dX6_become_4 : decode cX6_become 4 = .ok (.aload_n 1, 1) := by decide +kernel
theorem dX6_become_5 : decode cX6_become 5 = .ok (.getfield 12, 3) := by decide +kernel
theorem dX6_become_8 : decode cX6_become 8 = .ok (.invokevirtual 29, 3) := by decide +kernel
theorem dX6_become_11 : decode cX6_become 11 = .ok (.aload_n 0, 1) := by decide +kernel
theorem dX6_become_12 : decode cX6_become 12 = .ok (.aload_n 1, 1) := by decide +kernel
theorem dX6_become_13 : decode cX6_become 13 = .ok (.getfield 22, 3) := by decide +kernel
theorem dX6_become_16 : decode cX6_become 16 = .ok (.putfield 22, 3) := by decide +kernel
theorem dX6_become_19 : decode cX6_become 19 = .ok (.iconst 0, 1) := by decide +kernel
theorem dX6_become_20 : decode cX6_become 20 = .ok (.istore_n 2, 1) := by decide +kernel
theorem dX6_become_21 : decode cX6_become 21 = .ok (.iload_n 2, 1) := by decide +kernel
theorem dX6_become_22 : decode cX6_become 22 = .ok (.aload_n 0, 1) := by decide +kernel
theorem dX6_become_23 : decode cX6_become 23 = .ok (.getfield 22, 3) := by decide +kernel
theorem dX6_become_26 : decode cX6_become 26 = .ok (.if_icmp .ge 24, 3) := by decide +kernel
theorem dX6_become_29 : decode cX6_become 29 = .ok (.aload_n 0, 1) := by decide +kernel
theorem dX6_become_30 : decode cX6_become 30 = .ok (.getfield 18, 3) := by decide +kernel
theorem dX6_become_33 : decode cX6_become 33 = .ok (.iload_n 2, 1) := by decide +kernel
theorem dX6_become_34 : decode cX6_become 34 = .ok (.aaload, 1) := by decide +kernel
theorem dX6_become_35 : decode cX6_become 35 = .ok (.aload_n 1, 1) := by decide +kernel
theorem dX6_become_36 : decode cX6_become 36 = .ok (.getfield 18, 3) := by decide +kernel
theorem dX6_become_39 : decode cX6_become 39 = .ok (.iload_n 2, 1) := by decide +kernel
theorem dX6_become_40 : decode cX6_become 40 = .ok (.aaload, 1) := by decide +kernel
theorem dX6_become_41 : decode cX6_become 41 = .ok (.invokevirtual 29, 3) := by decide +kernel
theorem dX6_become_44 : decode cX6_become 44 = .ok (.iinc 2 1, 3) := by decide +kernel
theorem dX6_become_47 : decode cX6_become 47 = .ok (.goto (-26), 3) := by decide +kernel
theorem dX6_become_50 : decode cX6_become 50 = .ok (.return_, 1) := by decide +kernel
theorem dX7_init_0 : decode cX7_init 0 = .ok (.aload_n 0, 1) := by decide +kernel
theorem dX7_init_1 : decode cX7_init 1 = .ok (.invokespecial 3, 3) := by decide +kernel
theorem dX7_init_4 : decode cX7_init 4 = .ok (.aload_n 0, 1) := by decide +kernel
theorem dX7_init_5 : decode cX7_init 5 = .ok (.bipush 120, 2) := by decide +kernel
theorem dX7_init_7 : decode cX7_init 7 = .ok (.newarray .int, 2) := by decide +kernel
theorem dX7_init_9 : decode cX7_init 9 = .ok (.putfield 9, 3) := by decide +kernel
theorem dX7_init_12 : decode cX7_init 12 = .ok (.aload_n 0, 1) := by decide +kernel
theorem dX7_init_13 : decode cX7_init 13 = .ok (.iconst 0, 1) := by decide +kernel
theorem dX7_init_14 : decode cX7_init 14 = .ok (.putfield 15, 3) := by decide +kernel
theorem dX7_init_17 : decode cX7_init 17 = .ok (.aload_n 0, 1) := by decide +kernel
theorem dX7_init_18 : decode cX7_init 18 = .ok (.bipush 96, 2) := by decide +kernel
theorem dX7_init_20 : decode cX7_init 20 = .ok (.newarray .int, 2) := by decide +kernel
theorem dX7_init_22 : decode cX7_init 22 = .ok (.putfield 19, 3) := by decide +kernel
theorem dX7_init_25 : decode cX7_init 25 = .ok (.aload_n 0, 1) := by decide +kernel
theorem dX7_init_26 : decode cX7_init 26 = .ok (.iconst 0, 1) := by decide +kernel
theorem dX7_init_27 : decode cX7_init 27 = .ok (.putfield 22, 3) := by decide +kernel
theorem dX7_init_30 : decode cX7_init 30 = .ok (.aload_n 0, 1) := by decide +kernel
theorem dX7_init_31 : decode cX7_init 31 = .ok (.iconst 0, 1) := by decide +kernel
theorem dX7_init_32 : decode cX7_init 32 = .ok (.putfield 25, 3) := by decide +kernel
theorem dX7_init_35 : decode cX7_init 35 = .ok (.return_, 1) := by decide +kernel
theorem dX7_add_0 : decode cX7_add 0 = .ok (.aload_n 0, 1) := by decide +kernel
theorem dX7_add_1 : decode cX7_add 1 = .ok (.getfield 15, 3) := by decide +kernel
theorem dX7_add_4 : decode cX7_add 4 = .ok (.bipush 120, 2) := by decide +kernel
theorem dX7_add_6 : decode cX7_add 6 = .ok (.if_icmp .lt 5, 3) := by decide +kernel
theorem dX7_add_9 : decode cX7_add 9 = .ok (.iconst 0, 1) := by decide +kernel
theorem dX7_add_10 : decode cX7_add 10 = .ok (.ireturn, 1) := by decide +kernel
theorem dX7_add_11 : decode cX7_add 11 = .ok (.aload_n 0, 1) := by decide +kernel
theorem dX7_add_12 : decode cX7_add 12 = .ok (.getfield 9, 3) := by decide +kernel
theorem dX7_add_15 : decode cX7_add 15 = .ok (.aload_n 0, 1) := by decide +kernel
theorem dX7_add_16 : decode cX7_add 16 = .ok (.getfield 15, 3) := by decide +kernel
theorem dX7_add_19 : decode cX7_add 19 = .ok (.iload_n 1, 1) := by decide +kernel
theorem dX7_add_20 : decode cX7_add 20 = .ok (.iastore, 1) := by decide +kernel
theorem dX7_add_21 : decode cX7_add 21 = .ok (.aload_n 0, 1) := by decide +kernel
theorem dX7_add_22 : decode cX7_add 22 = .ok (.dup, 1) := by decide +kernel
theorem dX7_add_23 : decode cX7_add 23 = .ok (.getfield 15, 3) := by decide +kernel
theorem dX7_add_26 : decode cX7_add 26 = .ok (.iconst 1, 1) := by decide +kernel
theorem dX7_add_27 : decode cX7_add 27 = .ok (.iadd, 1) := by decide +kernel
theorem dX7_add_28 : decode cX7_add 28 = .ok (.putfield 15, 3) := by decide +kernel
theorem dX7_add_31 : decode cX7_add 31 = .ok (.iconst 1, 1) := by decide +kernel
theorem dX7_add_32 : decode cX7_add 32 = .ok (.ireturn, 1) := by decide +kernel
theorem dX7_read_0 : decode cX7_read 0 = .ok (.aload_n 0, 1) := by decide +kernel
theorem dX7_read_1 : decode cX7_read 1 = .ok (.iconst 0, 1) := by decide +kernel
theorem dX7_read_2 : decode cX7_read 2 = .ok (.putfield 25, 3) := by decide +kernel
theorem dX7_read_5 : decode cX7_read 5 = .ok (.aload_n 0, 1) := by decide +kernel
theorem dX7_read_6 : decode cX7_read 6 = .ok (.iconst 0, 1) := by decide +kernel
theorem dX7_read_7 : decode cX7_read 7 = .ok (.putfield 22, 3) := by decide +kernel
theorem dX7_read_10 : decode cX7_read 10 = .ok (.iconst 0, 1) := by decide +kernel
theorem dX7_read_11 : decode cX7_read 11 = .ok (.istore_n 1, 1) := by decide +kernel
theorem dX7_read_12 : decode cX7_read 12 = .ok (.iconst 0, 1) := by decide +kernel
theorem dX7_read_13 : decode cX7_read 13 = .ok (.istore_n 2, 1) := by decide +kernel
theorem dX7_read_14 : decode cX7_read 14 = .ok (.iload_n 2, 1) := by decide +kernel
theorem dX7_read_15 : decode cX7_read 15 = .ok (.aload_n 0, 1) := by decide +kernel
theorem dX7_read_16 : decode cX7_read 16 = .ok (.getfield 15, 3) := by decide +kernel
theorem dX7_read_19 : decode cX7_read 19 = .ok (.if_icmp .ge 76, 3) := by decide +kernel
theorem dX7_read_22 : decode cX7_read 22 = .ok (.aload_n 0, 1) := by decide +kernel
theorem dX7_read_23 : decode cX7_read 23 = .ok (.getfield 9, 3) := by decide +kernel
theorem dX7_read_26 : decode cX7_read 26 = .ok (.iload_n 2, 1) := by decide +kernel
theorem dX7_read_27 : decode cX7_read 27 = .ok (.iaload, 1) := by decide +kernel
theorem dX7_read_28 : decode cX7_read 28 = .ok (.istore_n 3, 1) := by decide +kernel
theorem dX7_read_29 : decode cX7_read 29 = .ok (.iload_n 3, 1) := by decide +kernel
theorem dX7_read_30 : decode cX7_read 30 = .ok (.bipush 32, 2) := by decide +kernel
theorem dX7_read_32 : decode cX7_read 32 = .ok (.if_icmp .ne 6, 3) := by decide +kernel
theorem dX7_read_35 : decode cX7_read 35 = .ok (.goto 54, 3) := by decide +kernel
theorem dX7_read_38 : decode cX7_read 38 = .ok (.aload_n 0, 1) := by decide +kernel
theorem dX7_read_39 : decode cX7_read 39 = .ok (.iload_n 3, 1) := by decide +kernel
theorem dX7_read_40 : decode cX7_read 40 = .ok (.iload_n 1, 1) := by decide +kernel
theorem dX7_read_41 : decode cX7_read 41 = .ok (.invokevirtual 28, 3) := by decide +kernel
theorem dX7_read_44 : decode cX7_read 44 = .ok (.ifCond .ne 8, 3) := by decide +kernel
theorem dX7_read_47 : decode cX7_read 47 = .ok (.ldc 32, 2) := by decide +kernel
theorem dX7_read_49 : decode cX7_read 49 = .ok (.iload_n 2, 1) := by decide +kernel
theorem dX7_read_50 : decode cX7_read 50 = .ok (.isub, 1) := by decide +kernel
theorem dX7_read_51 : decode cX7_read 51 = .ok (.ireturn, 1) := by decide +kernel
theorem dX7_read_52 : decode cX7_read 52 = .ok (.aload_n 0, 1) := by decide +kernel
theorem dX7_read_53 : decode cX7_read 53 = .ok (.getfield 25, 3) := by decide +kernel
theorem dX7_read_56 : decode cX7_read 56 = .ok (.ifCond .ne 11, 3) := by decide +kernel
theorem dX7_read_59 : decode cX7_read 59 = .ok (.aload_n 0, 1) := by decide +kernel
theorem dX7_read_60 : decode cX7_read 60 = .ok (.iload_n 3, 1) := by decide +kernel
theorem dX7_read_61 : decode cX7_read 61 = .ok (.putfield 25, 3) := by decide +kernel
theorem dX7_read_64 : decode cX7_read 64 = .ok (.goto 25, 3) := by decide +kernel
theorem dX7_read_67 : decode cX7_read 67 = .ok (.iload_n 3, 1) := by decide +kernel
theorem dX7_read_68 : decode cX7_read 68 = .ok (.bipush 114, 2) := by decide +kernel
theorem dX7_read_70 : decode cX7_read 70 = .ok (.if_icmp .ne 8, 3) := by decide +kernel
theorem dX7_read_73 : decode cX7_read 73 = .ok (.iconst 1, 1) := by decide +kernel
theorem dX7_read_74 : decode cX7_read 74 = .ok (.istore_n 1, 1) := by decide +kernel
theorem dX7_read_75 : decode cX7_read 75 = .ok (.goto 14, 3) := by decide +kernel
theorem dX7_read_78 : decode cX7_read 78 = .ok (.aload_n 0, 1) := by decide +kernel
theorem dX7_read_79 : decode cX7_read 79 = .ok (.iload_n 3, 1) := by decide +kernel
theorem dX7_read_80 : decode cX7_read 80 = .ok (.bipush 48, 2) := by decide +kernel
theorem dX7_read_82 : decode cX7_read 82 = .ok (.isub, 1) := by decide +kernel
theorem dX7_read_83 : decode cX7_read 83 = .ok (.iload_n 1, 1) := by decide +kernel
theorem dX7_read_84 : decode cX7_read 84 = .ok (.invokevirtual 33, 3) := by decide +kernel
theorem dX7_read_87 : decode cX7_read 87 = .ok (.iconst 0, 1) := by decide +kernel
theorem dX7_read_88 : decode cX7_read 88 = .ok (.istore_n 1, 1) := by decide +kernel
theorem dX7_read_89 : decode cX7_read 89 = .ok (.iinc 2 1, 3) := by decide +kernel
theorem dX7_read_92 : decode cX7_read 92 = .ok (.goto (-78), 3) := by decide +kernel
theorem dX7_read_95 : decode cX7_read 95 = .ok (.aload_n 0, 1) := by decide +kernel
theorem dX7_read_96 : decode cX7_read 96 = .ok (.getfield 25, 3) := by decide +kernel
theorem dX7_read_99 : decode cX7_read 99 = .ok (.ifCond .eq 7, 3) := by decide +kernel
theorem dX7_read_102 : decode cX7_read 102 = .ok (.iload_n 1, 1) := by decide +kernel
theorem dX7_read_103 : decode cX7_read 103 = .ok (.ifCond .eq 11, 3) := by decide +kernel
theorem dX7_read_106 : decode cX7_read 106 = .ok (.ldc 32, 2) := by decide +kernel
theorem dX7_read_108 : decode cX7_read 108 = .ok (.aload_n 0, 1) := by decide +kernel
theorem dX7_read_109 : decode cX7_read 109 = .ok (.getfield 15, 3) := by decide +kernel
theorem dX7_read_112 : decode cX7_read 112 = .ok (.isub, 1) := by decide +kernel
theorem dX7_read_113 : decode cX7_read 113 = .ok (.ireturn, 1) := by decide +kernel
theorem dX7_read_114 : decode cX7_read 114 = .ok (.aload_n 0, 1) := by decide +kernel
theorem dX7_read_115 : decode cX7_read 115 = .ok (.getfield 22, 3) := by decide +kernel
theorem dX7_read_118 : decode cX7_read 118 = .ok (.istore_n 2, 1) := by decide +kernel
theorem dX7_read_119 : decode cX7_read 119 = .ok (.iload_n 2, 1) := by decide +kernel
theorem dX7_read_120 : decode cX7_read 120 = .ok (.bipush 96, 2) := by decide +kernel
theorem dX7_read_122 : decode cX7_read 122 = .ok (.if_icmp .ge 16, 3) := by decide +kernel
theorem dX7_read_125 : decode cX7_read 125 = .ok (.aload_n 0, 1) := by decide +kernel
theorem dX7_read_126 : decode cX7_read 126 = .ok (.getfield 19, 3) := by decide +kernel
theorem dX7_read_129 : decode cX7_read 129 = .ok (.iload_n 2, 1) := by decide +kernel
theorem dX7_read_130 : decode cX7_read 130 = .ok (.iconst 0, 1) := by decide +kernel
theorem dX7_read_131 : decode cX7_read 131 = .ok (.iastore, 1) := by decide +kernel
theorem dX7_read_132 : decode cX7_read 132 = .ok (.iinc 2 1, 3) := by decide +kernel
theorem dX7_read_135 : decode cX7_read 135 = .ok (.goto (-16), 3) := by decide +kernel
theorem dX7_read_138 : decode cX7_read 138 = .ok (.aload_n 0, 1) := by decide +kernel
theorem dX7_read_139 : decode cX7_read 139 = .ok (.getfield 22, 3) := by decide +kernel
theorem dX7_read_142 : decode cX7_read 142 = .ok (.ireturn, 1) := by decide +kernel
theorem dX7_canStand_0 : decode cX7_canStand 0 = .ok (.aload_n 0, 1) := by decide +kernel
theorem dX7_canStand_1 : decode cX7_canStand 1 = .ok (.getfield 25, 3) := by decide +kernel
theorem dX7_canStand_4 : decode cX7_canStand 4 = .ok (.ifCond .ne 27, 3) := by decide +kernel
theorem dX7_canStand_7 : decode cX7_canStand 7 = .ok (.iload_n 1, 1) := by decide +kernel
theorem dX7_canStand_8 : decode cX7_canStand 8 = .ok (.bipush 111, 2) := by decide +kernel
theorem dX7_canStand_10 : decode cX7_canStand 10 = .ok (.if_icmp .eq 15, 3) := by decide +kernel
theorem dX7_canStand_13 : decode cX7_canStand 13 = .ok (.iload_n 1, 1) := by decide +kernel
theorem dX7_canStand_14 : decode cX7_canStand 14 = .ok (.bipush 110, 2) := by decide +kernel
theorem dX7_canStand_16 : decode cX7_canStand 16 = .ok (.if_icmp .eq 9, 3) := by decide +kernel
theorem dX7_canStand_19 : decode cX7_canStand 19 = .ok (.iload_n 1, 1) := by decide +kernel
theorem dX7_canStand_20 : decode cX7_canStand 20 = .ok (.bipush 98, 2) := by decide +kernel
theorem dX7_canStand_22 : decode cX7_canStand 22 = .ok (.if_icmp .ne 7, 3) := by decide +kernel
theorem dX7_canStand_25 : decode cX7_canStand 25 = .ok (.iconst 1, 1) := by decide +kernel
theorem dX7_canStand_26 : decode cX7_canStand 26 = .ok (.goto 4, 3) := by decide +kernel
theorem dX7_canStand_29 : decode cX7_canStand 29 = .ok (.iconst 0, 1) := by decide +kernel
theorem dX7_canStand_30 : decode cX7_canStand 30 = .ok (.ireturn, 1) := by decide +kernel
theorem dX7_canStand_31 : decode cX7_canStand 31 = .ok (.iload_n 1, 1) := by decide +kernel
theorem dX7_canStand_32 : decode cX7_canStand 32 = .ok (.bipush 48, 2) := by decide +kernel
theorem dX7_canStand_34 : decode cX7_canStand 34 = .ok (.if_icmp .lt 13, 3) := by decide +kernel
theorem dX7_canStand_37 : decode cX7_canStand 37 = .ok (.iload_n 1, 1) := by decide +kernel
theorem dX7_canStand_38 : decode cX7_canStand 38 = .ok (.bipush 57, 2) := by decide +kernel
theorem dX7_canStand_40 : decode cX7_canStand 40 = .ok (.if_icmp .gt 7, 3) := by decide +kernel
theorem dX7_canStand_43 : decode cX7_canStand 43 = .ok (.iconst 1, 1) := by decide +kernel
theorem dX7_canStand_44 : decode cX7_canStand 44 = .ok (.goto 4, 3) := by decide +kernel
theorem dX7_canStand_47 : decode cX7_canStand 47 = .ok (.iconst 0, 1) := by decide +kernel
theorem dX7_canStand_48 : decode cX7_canStand 48 = .ok (.istore_n 3, 1) := by decide +kernel
theorem dX7_canStand_49 : decode cX7_canStand 49 = .ok (.aload_n 0, 1) := by decide +kernel
theorem dX7_canStand_50 : decode cX7_canStand 50 = .ok (.getfield 22, 3) := by decide +kernel
theorem dX7_canStand_53 : decode cX7_canStand 53 = .ok (.bipush 96, 2) := by decide +kernel
theorem dX7_canStand_55 : decode cX7_canStand 55 = .ok (.if_icmp .ge 21, 3) := by decide +kernel
theorem dX7_canStand_58 : decode cX7_canStand 58 = .ok (.iload_n 3, 1) := by decide +kernel
theorem dX7_canStand_59 : decode cX7_canStand 59 = .ok (.ifCond .ne 13, 3) := by decide +kernel
theorem dX7_canStand_62 : decode cX7_canStand 62 = .ok (.iload_n 1, 1) := by decide +kernel
theorem dX7_canStand_63 : decode cX7_canStand 63 = .ok (.bipush 114, 2) := by decide +kernel
theorem dX7_canStand_65 : decode cX7_canStand 65 = .ok (.if_icmp .ne 11, 3) := by decide +kernel
theorem dX7_canStand_68 : decode cX7_canStand 68 = .ok (.iload_n 2, 1) := by decide +kernel
theorem dX7_canStand_69 : decode cX7_canStand 69 = .ok (.ifCond .ne 7, 3) := by decide +kernel
theorem dX7_canStand_72 : decode cX7_canStand 72 = .ok (.iconst 1, 1) := by decide +kernel
theorem dX7_canStand_73 : decode cX7_canStand 73 = .ok (.goto 4, 3) := by decide +kernel
theorem dX7_canStand_76 : decode cX7_canStand 76 = .ok (.iconst 0, 1) := by decide +kernel
theorem dX7_canStand_77 : decode cX7_canStand 77 = .ok (.ireturn, 1) := by decide +kernel
theorem dX7_tell_0 : decode cX7_tell 0 = .ok (.iload_n 2, 1) := by decide +kernel
theorem dX7_tell_1 : decode cX7_tell 1 = .ok (.ifCond .eq 18, 3) := by decide +kernel
theorem dX7_tell_4 : decode cX7_tell 4 = .ok (.aload_n 0, 1) := by decide +kernel
theorem dX7_tell_5 : decode cX7_tell 5 = .ok (.getfield 22, 3) := by decide +kernel
theorem dX7_tell_8 : decode cX7_tell 8 = .ok (.bipush 12, 2) := by decide +kernel
theorem dX7_tell_10 : decode cX7_tell 10 = .ok (.idiv, 1) := by decide +kernel
theorem dX7_tell_11 : decode cX7_tell 11 = .ok (.iconst 1, 1) := by decide +kernel
theorem dX7_tell_12 : decode cX7_tell 12 = .ok (.iadd, 1) := by decide +kernel
theorem dX7_tell_13 : decode cX7_tell 13 = .ok (.bipush 12, 2) := by decide +kernel
theorem dX7_tell_15 : decode cX7_tell 15 = .ok (.imul, 1) := by decide +kernel
theorem dX7_tell_16 : decode cX7_tell 16 = .ok (.goto 9, 3) := by decide +kernel
theorem dX7_tell_19 : decode cX7_tell 19 = .ok (.aload_n 0, 1) := by decide +kernel
theorem dX7_tell_20 : decode cX7_tell 20 = .ok (.getfield 22, 3) := by decide +kernel
theorem dX7_tell_23 : decode cX7_tell 23 = .ok (.iconst 1, 1) := by decide +kernel
theorem dX7_tell_24 : decode cX7_tell 24 = .ok (.iadd, 1) := by decide +kernel
theorem dX7_tell_25 : decode cX7_tell 25 = .ok (.istore_n 3, 1) := by decide +kernel
theorem dX7_tell_26 : decode cX7_tell 26 = .ok (.aload_n 0, 1) := by decide +kernel
theorem dX7_tell_27 : decode cX7_tell 27 = .ok (.getfield 22, 3) := by decide +kernel
theorem dX7_tell_30 : decode cX7_tell 30 = .ok (.istore 4, 2) := by decide +kernel
theorem dX7_tell_32 : decode cX7_tell 32 = .ok (.iload 4, 2) := by decide +kernel
theorem dX7_tell_34 : decode cX7_tell 34 = .ok (.iload_n 3, 1) := by decide +kernel
theorem dX7_tell_35 : decode cX7_tell 35 = .ok (.if_icmp .ge 24, 3) := by decide +kernel
theorem dX7_tell_38 : decode cX7_tell 38 = .ok (.iload 4, 2) := by decide +kernel
theorem dX7_tell_40 : decode cX7_tell 40 = .ok (.bipush 96, 2) := by decide +kernel
theorem dX7_tell_42 : decode cX7_tell 42 = .ok (.if_icmp .ge 17, 3) := by decide +kernel
theorem dX7_tell_45 : decode cX7_tell 45 = .ok (.aload_n 0, 1) := by decide +kernel
theorem dX7_tell_46 : decode cX7_tell 46 = .ok (.getfield 19, 3) := by decide +kernel
theorem dX7_tell_49 : decode cX7_tell 49 = .ok (.iload 4, 2) := by decide +kernel
theorem dX7_tell_51 : decode cX7_tell 51 = .ok (.iload_n 1, 1) := by decide +kernel
theorem dX7_tell_52 : decode cX7_tell 52 = .ok (.iastore, 1) := by decide +kernel
theorem dX7_tell_53 : decode cX7_tell 53 = .ok (.iinc 4 1, 3) := by decide +kernel
theorem dX7_tell_56 : decode cX7_tell 56 = .ok (.goto (-24), 3) := by decide +kernel
theorem dX7_tell_59 : decode cX7_tell 59 = .ok (.aload_n 0, 1) := by decide +kernel
theorem dX7_tell_60 : decode cX7_tell 60 = .ok (.iload_n 3, 1) := by decide +kernel
theorem dX7_tell_61 : decode cX7_tell 61 = .ok (.putfield 22, 3) := by decide +kernel
theorem dX7_tell_64 : decode cX7_tell 64 = .ok (.return_, 1) := by decide +kernel
end
section
theorem dX8_init_0 : decode cX8_init 0 = .ok (.aload_n 0, 1) := by decide +kernel
theorem dX8_init_1 : decode cX8_init 1 = .ok (.invokespecial 1, 3) := by decide +kernel
theorem dX8_init_4 : decode cX8_init 4 = .ok (.aload_n 0, 1) := by decide +kernel
theorem dX8_init_5 : decode cX8_init 5 = .ok (.new 7, 3) := by decide +kernel
theorem dX8_init_8 : decode cX8_init 8 = .ok (.dup, 1) := by decide +kernel
theorem dX8_init_9 : decode cX8_init 9 = .ok (.invokespecial 9, 3) := by decide +kernel
theorem dX8_init_12 : decode cX8_init 12 = .ok (.putfield 10, 3) := by decide +kernel
theorem dX8_init_15 : decode cX8_init 15 = .ok (.aload_n 0, 1) := by decide +kernel
theorem dX8_init_16 : decode cX8_init 16 = .ok (.new 7, 3) := by decide +kernel
theorem dX8_init_19 : decode cX8_init 19 = .ok (.dup, 1) := by decide +kernel
theorem dX8_init_20 : decode cX8_init 20 = .ok (.invokespecial 9, 3) := by decide +kernel
theorem dX8_init_23 : decode cX8_init 23 = .ok (.putfield 16, 3) := by decide +kernel
theorem dX8_init_26 : decode cX8_init 26 = .ok (.aload_n 0, 1) := by decide +kernel
theorem dX8_init_27 : decode cX8_init 27 = .ok (.iconst 0, 1) := by decide +kernel
theorem dX8_init_28 : decode cX8_init 28 = .ok (.putfield 19, 3) := by decide +kernel
theorem dX8_init_31 : decode cX8_init 31 = .ok (.aload_n 0, 1) := by decide +kernel
theorem dX8_init_32 : decode cX8_init 32 = .ok (.new 23, 3) := by decide +kernel
theorem dX8_init_35 : decode cX8_init 35 = .ok (.dup, 1) := by decide +kernel
theorem dX8_init_36 : decode cX8_init 36 = .ok (.invokespecial 25, 3) := by decide +kernel
theorem dX8_init_39 : decode cX8_init 39 = .ok (.putfield 26, 3) := by decide +kernel
theorem dX8_init_42 : decode cX8_init 42 = .ok (.aload_n 0, 1) := by decide +kernel
theorem dX8_init_43 : decode cX8_init 43 = .ok (.new 30, 3) := by decide +kernel
theorem dX8_init_46 : decode cX8_init 46 = .ok (.dup, 1) := by decide +kernel
theorem dX8_init_47 : decode cX8_init 47 = .ok (.invokespecial 32, 3) := by decide +kernel
theorem dX8_init_50 : decode cX8_init 50 = .ok (.putfield 33, 3) := by decide +kernel
theorem dX8_init_53 : decode cX8_init 53 = .ok (.aload_n 0, 1) := by decide +kernel
theorem dX8_init_54 : decode cX8_init 54 = .ok (.new 37, 3) := by decide +kernel
theorem dX8_init_57 : decode cX8_init 57 = .ok (.dup, 1) := by decide +kernel
theorem dX8_init_58 : decode cX8_init 58 = .ok (.invokespecial 39, 3) := by decide +kernel
theorem dX8_init_61 : decode cX8_init 61 = .ok (.putfield 40, 3) := by decide +kernel
theorem dX8_init_64 : decode cX8_init 64 = .ok (.aload_n 0, 1) := by decide +kernel
theorem dX8_init_65 : decode cX8_init 65 = .ok (.new 44, 3) := by decide +kernel
theorem dX8_init_68 : decode cX8_init 68 = .ok (.dup, 1) := by decide +kernel
theorem dX8_init_69 : decode cX8_init 69 = .ok (.invokespecial 46, 3) := by decide +kernel
theorem dX8_init_72 : decode cX8_init 72 = .ok (.putfield 47, 3) := by decide +kernel
theorem dX8_init_75 : decode cX8_init 75 = .ok (.aload_n 0, 1) := by decide +kernel
theorem dX8_init_76 : decode cX8_init 76 = .ok (.new 51, 3) := by decide +kernel
theorem dX8_init_79 : decode cX8_init 79 = .ok (.dup, 1) := by decide +kernel
theorem dX8_init_80 : decode cX8_init 80 = .ok (.invokespecial 53, 3) := by decide +kernel
theorem dX8_init_83 : decode cX8_init 83 = .ok (.putfield 54, 3) := by decide +kernel
theorem dX8_init_86 : decode cX8_init 86 = .ok (.aload_n 0, 1) := by decide +kernel
theorem dX8_init_87 : decode cX8_init 87 = .ok (.iconst 4, 1) := by decide +kernel
theorem dX8_init_88 : decode cX8_init 88 = .ok (.anewarray 58, 3) := by decide +kernel
theorem dX8_init_91 : decode cX8_init 91 = .ok (.putfield 60, 3) := by decide +kernel
theorem dX8_init_94 : decode cX8_init 94 = .ok (.iconst 0, 1) := by decide +kernel
theorem dX8_init_95 : decode cX8_init 95 = .ok (.istore_n 1, 1) := by decide +kernel
theorem dX8_init_96 : decode cX8_init 96 = .ok (.iload_n 1, 1) := by decide +kernel
theorem dX8_init_97 : decode cX8_init 97 = .ok (.iconst 4, 1) := by decide +kernel
theorem dX8_init_98 : decode cX8_init 98 = .ok (.if_icmp .ge 22, 3) := by decide +kernel
theorem dX8_init_101 : decode cX8_init 101 = .ok (.aload_n 0, 1) := by decide +kernel
theorem dX8_init_102 : decode cX8_init 102 = .ok (.getfield 60, 3) := by decide +kernel
theorem dX8_init_105 : decode cX8_init 105 = .ok (.iload_n 1, 1) := by decide +kernel
theorem dX8_init_106 : decode cX8_init 106 = .ok (.new 58, 3) := by decide +kernel
theorem dX8_init_109 : decode cX8_init 109 = .ok (.dup, 1) := by decide +kernel
theorem dX8_init_110 : decode cX8_init 110 = .ok (.invokespecial 64, 3) := by decide +kernel
theorem dX8_init_113 : decode cX8_init 113 = .ok (.aastore, 1) := by decide +kernel
theorem dX8_init_114 : decode cX8_init 114 = .ok (.iinc 1 1, 3) := by decide +kernel
theorem dX8_init_117 : decode cX8_init 117 = .ok (.goto (-21), 3) := by decide +kernel
theorem dX8_init_120 : decode cX8_init 120 = .ok (.return_, 1) := by decide +kernel
theorem dX8_type_0 : decode cX8_type 0 = .ok (.iload_n 1, 1) := by decide +kernel
theorem dX8_type_1 : decode cX8_type 1 = .ok (.bipush 32, 2) := by decide +kernel
theorem dX8_type_3 : decode cX8_type 3 = .ok (.if_icmp .lt 9, 3) := by decide +kernel
theorem dX8_type_6 : decode cX8_type 6 = .ok (.iload_n 1, 1) := by decide +kernel
theorem dX8_type_7 : decode cX8_type 7 = .ok (.bipush 126, 2) := by decide +kernel
theorem dX8_type_9 : decode cX8_type 9 = .ok (.if_icmp .le 6, 3) := by decide +kernel
theorem dX8_type_12 : decode cX8_type 12 = .ok (.ldc 65, 2) := by decide +kernel
theorem dX8_type_14 : decode cX8_type 14 = .ok (.ireturn, 1) := by decide +kernel
theorem dX8_type_15 : decode cX8_type 15 = .ok (.aload_n 0, 1) := by decide +kernel
theorem dX8_type_16 : decode cX8_type 16 = .ok (.getfield 26, 3) := by decide +kernel
theorem dX8_type_19 : decode cX8_type 19 = .ok (.iload_n 1, 1) := by decide +kernel
theorem dX8_type_20 : decode cX8_type 20 = .ok (.invokevirtual 66, 3) := by decide +kernel
theorem dX8_type_23 : decode cX8_type 23 = .ok (.ifCond .eq 13, 3) := by decide +kernel
theorem dX8_type_26 : decode cX8_type 26 = .ok (.aload_n 0, 1) := by decide +kernel
theorem dX8_type_27 : decode cX8_type 27 = .ok (.getfield 26, 3) := by decide +kernel
theorem dX8_type_30 : decode cX8_type 30 = .ok (.getfield 70, 3) := by decide +kernel
theorem dX8_type_33 : decode cX8_type 33 = .ok (.goto 5, 3) := by decide +kernel
theorem dX8_type_36 : decode cX8_type 36 = .ok (.ldc 74, 2) := by decide +kernel
theorem dX8_type_38 : decode cX8_type 38 = .ok (.ireturn, 1) := by decide +kernel
theorem dX8_picture_0 : decode cX8_picture 0 = .ok (.aload_n 0, 1) := by decide +kernel
theorem dX8_picture_1 : decode cX8_picture 1 = .ok (.getfield 26, 3) := by decide +kernel
theorem dX8_picture_4 : decode cX8_picture 4 = .ok (.invokevirtual 75, 3) := by decide +kernel
theorem dX8_picture_7 : decode cX8_picture 7 = .ok (.istore_n 1, 1) := by decide +kernel
theorem dX8_picture_8 : decode cX8_picture 8 = .ok (.aload_n 0, 1) := by decide +kernel
theorem dX8_picture_9 : decode cX8_picture 9 = .ok (.getfield 26, 3) := by decide +kernel
theorem dX8_picture_12 : decode cX8_picture 12 = .ok (.iconst 0, 1) := by decide +kernel
theorem dX8_picture_13 : decode cX8_picture 13 = .ok (.putfield 70, 3) := by decide +kernel
theorem dX8_picture_16 : decode cX8_picture 16 = .ok (.iload_n 1, 1) := by decide +kernel
theorem dX8_picture_17 : decode cX8_picture 17 = .ok (.ifCond .ge 5, 3) := by decide +kernel
theorem dX8_picture_20 : decode cX8_picture 20 = .ok (.iload_n 1, 1) := by decide +kernel
theorem dX8_picture_21 : decode cX8_picture 21 = .ok (.ireturn, 1) := by decide +kernel
theorem dX8_picture_22 : decode cX8_picture 22 = .ok (.aload_n 0, 1) := by decide +kernel
theorem dX8_picture_23 : decode cX8_picture 23 = .ok (.getfield 26, 3) := by decide +kernel
theorem dX8_picture_26 : decode cX8_picture 26 = .ok (.getfield 79, 3) := by decide +kernel
theorem dX8_picture_29 : decode cX8_picture 29 = .ok (.bipush 110, 2) := by decide +kernel
theorem dX8_picture_31 : decode cX8_picture 31 = .ok (.if_icmp .eq 23, 3) := by decide +kernel
theorem dX8_picture_34 : decode cX8_picture 34 = .ok (.aload_n 0, 1) := by decide +kernel
theorem dX8_picture_35 : decode cX8_picture 35 = .ok (.getfield 10, 3) := by decide +kernel
theorem dX8_picture_38 : decode cX8_picture 38 = .ok (.getfield 82, 3) := by decide +kernel
theorem dX8_picture_41 : decode cX8_picture 41 = .ok (.getfield 85, 3) := by decide +kernel
theorem dX8_picture_44 : decode cX8_picture 44 = .ok (.aload_n 0, 1) := by decide +kernel
theorem dX8_picture_45 : decode cX8_picture 45 = .ok (.getfield 26, 3) := by decide +kernel
theorem dX8_picture_48 : decode cX8_picture 48 = .ok (.getfield 89, 3) := by decide +kernel
theorem dX8_picture_51 : decode cX8_picture 51 = .ok (.invokevirtual 93, 3) := by decide +kernel
theorem dX8_picture_54 : decode cX8_picture 54 = .ok (.aload_n 0, 1) := by decide +kernel
theorem dX8_picture_55 : decode cX8_picture 55 = .ok (.getfield 26, 3) := by decide +kernel
theorem dX8_picture_58 : decode cX8_picture 58 = .ok (.getfield 79, 3) := by decide +kernel
theorem dX8_picture_61 : decode cX8_picture 61 = .ok (.bipush 111, 2) := by decide +kernel
theorem dX8_picture_63 : decode cX8_picture 63 = .ok (.if_icmp .eq 23, 3) := by decide +kernel
theorem dX8_picture_66 : decode cX8_picture 66 = .ok (.aload_n 0, 1) := by decide +kernel
theorem dX8_picture_67 : decode cX8_picture 67 = .ok (.getfield 10, 3) := by decide +kernel
theorem dX8_picture_70 : decode cX8_picture 70 = .ok (.getfield 82, 3) := by decide +kernel
theorem dX8_picture_73 : decode cX8_picture 73 = .ok (.getfield 99, 3) := by decide +kernel
theorem dX8_picture_76 : decode cX8_picture 76 = .ok (.aload_n 0, 1) := by decide +kernel
theorem dX8_picture_77 : decode cX8_picture 77 = .ok (.getfield 26, 3) := by decide +kernel
theorem dX8_picture_80 : decode cX8_picture 80 = .ok (.getfield 89, 3) := by decide +kernel
theorem dX8_picture_83 : decode cX8_picture 83 = .ok (.invokevirtual 93, 3) := by decide +kernel
theorem dX8_picture_86 : decode cX8_picture 86 = .ok (.aload_n 0, 1) := by decide +kernel
theorem dX8_picture_87 : decode cX8_picture 87 = .ok (.getfield 10, 3) := by decide +kernel
theorem dX8_picture_90 : decode cX8_picture 90 = .ok (.iconst 0, 1) := by decide +kernel
theorem dX8_picture_91 : decode cX8_picture 91 = .ok (.putfield 102, 3) := by decide +kernel
theorem dX8_picture_94 : decode cX8_picture 94 = .ok (.iload_n 1, 1) := by decide +kernel
theorem dX8_picture_95 : decode cX8_picture 95 = .ok (.ireturn, 1) := by decide +kernel
theorem dX8_dot_0 : decode cX8_dot 0 = .ok (.iload_n 1, 1) := by decide +kernel
theorem dX8_dot_1 : decode cX8_dot 1 = .ok (.bipush (-3), 2) := by decide +kernel
theorem dX8_dot_3 : decode cX8_dot 3 = .ok (.bipush 14, 2) := by decide +kernel
theorem dX8_dot_5 : decode cX8_dot 5 = .ok (.invokestatic 105, 3) := by decide +kernel
theorem dX8_dot_8 : decode cX8_dot 8 = .ok (.ifCond .eq 18, 3) := by decide +kernel
theorem dX8_dot_11 : decode cX8_dot 11 = .ok (.iload_n 2, 1) := by decide +kernel
theorem dX8_dot_12 : decode cX8_dot 12 = .ok (.bipush (-3), 2) := by decide +kernel
theorem dX8_dot_14 : decode cX8_dot 14 = .ok (.bipush 10, 2) := by decide +kernel
theorem dX8_dot_16 : decode cX8_dot 16 = .ok (.invokestatic 105, 3) := by decide +kernel
theorem dX8_dot_19 : decode cX8_dot 19 = .ok (.ifCond .eq 7, 3) := by decide +kernel
theorem dX8_dot_22 : decode cX8_dot 22 = .ok (.iconst 1, 1) := by decide +kernel
theorem dX8_dot_23 : decode cX8_dot 23 = .ok (.goto 4, 3) := by decide +kernel
theorem dX8_dot_26 : decode cX8_dot 26 = .ok (.iconst 0, 1) := by decide +kernel
theorem dX8_dot_27 : decode cX8_dot 27 = .ok (.istore 4, 2) := by decide +kernel
theorem dX8_dot_29 : decode cX8_dot 29 = .ok (.iload 4, 2) := by decide +kernel
theorem dX8_dot_31 : decode cX8_dot 31 = .ok (.ifCond .eq 12, 3) := by decide +kernel
theorem dX8_dot_34 : decode cX8_dot 34 = .ok (.iload_n 3, 1) := by decide +kernel
theorem dX8_dot_35 : decode cX8_dot 35 = .ok (.iconst 0, 1) := by decide +kernel
theorem dX8_dot_36 : decode cX8_dot 36 = .ok (.iconst 1, 1) := by decide +kernel
theorem dX8_dot_37 : decode cX8_dot 37 = .ok (.invokestatic 105, 3) := by decide +kernel
theorem dX8_dot_40 : decode cX8_dot 40 = .ok (.ifCond .ne 6, 3) := by decide +kernel
theorem dX8_dot_43 : decode cX8_dot 43 = .ok (.ldc 65, 2) := by decide +kernel
theorem dX8_dot_45 : decode cX8_dot 45 = .ok (.ireturn, 1) := by decide +kernel
theorem dX8_dot_46 : decode cX8_dot 46 = .ok (.iload_n 3, 1) := by decide +kernel
theorem dX8_dot_47 : decode cX8_dot 47 = .ok (.ifCond .ne 16, 3) := by decide +kernel
theorem dX8_dot_50 : decode cX8_dot 50 = .ok (.aload_n 0, 1) := by decide +kernel
theorem dX8_dot_51 : decode cX8_dot 51 = .ok (.getfield 10, 3) := by decide +kernel
theorem dX8_dot_54 : decode cX8_dot 54 = .ok (.getfield 82, 3) := by decide +kernel
theorem dX8_dot_57 : decode cX8_dot 57 = .ok (.getfield 85, 3) := by decide +kernel
theorem dX8_dot_60 : decode cX8_dot 60 = .ok (.goto 13, 3) := by decide +kernel
theorem dX8_dot_63 : decode cX8_dot 63 = .ok (.aload_n 0, 1) := by decide +kernel
theorem dX8_dot_64 : decode cX8_dot 64 = .ok (.getfield 10, 3) := by decide +kernel
theorem dX8_dot_67 : decode cX8_dot 67 = .ok (.getfield 82, 3) := by decide +kernel
theorem dX8_dot_70 : decode cX8_dot 70 = .ok (.getfield 99, 3) := by decide +kernel
theorem dX8_dot_73 : decode cX8_dot 73 = .ok (.astore 5, 2) := by decide +kernel
theorem dX8_dot_75 : decode cX8_dot 75 = .ok (.aload 5, 2) := by decide +kernel
theorem dX8_dot_77 : decode cX8_dot 77 = .ok (.iload_n 1, 1) := by decide +kernel
theorem dX8_dot_78 : decode cX8_dot 78 = .ok (.iload_n 2, 1) := by decide +kernel
theorem dX8_dot_79 : decode cX8_dot 79 = .ok (.invokevirtual 109, 3) := by decide +kernel
theorem dX8_dot_82 : decode cX8_dot 82 = .ok (.ireturn, 1) := by decide +kernel
theorem dX8_count_0 : decode cX8_count 0 = .ok (.iload_n 1, 1) := by decide +kernel
theorem dX8_count_1 : decode cX8_count 1 = .ok (.tableswitch 179 0 7 #[47, 58, 63, 89, 122, 144, 166, 171], 47) := by decide +kernel
theorem dX8_count_48 : decode cX8_count 48 = .ok (.aload_n 0, 1) := by decide +kernel
theorem dX8_count_49 : decode cX8_count 49 = .ok (.getfield 10, 3) := by decide +kernel
theorem dX8_count_52 : decode cX8_count 52 = .ok (.getfield 82, 3) := by decide +kernel
theorem dX8_count_55 : decode cX8_count 55 = .ok (.getfield 113, 3) := by decide +kernel
theorem dX8_count_58 : decode cX8_count 58 = .ok (.ireturn, 1) := by decide +kernel
theorem dX8_count_59 : decode cX8_count 59 = .ok (.aload_n 0, 1) := by decide +kernel
theorem dX8_count_60 : decode cX8_count 60 = .ok (.invokevirtual 116, 3) := by decide +kernel
theorem dX8_count_63 : decode cX8_count 63 = .ok (.ireturn, 1) := by decide +kernel
theorem dX8_count_64 : decode cX8_count 64 = .ok (.aload_n 0, 1) := by decide +kernel
theorem dX8_count_65 : decode cX8_count 65 = .ok (.getfield 47, 3) := by decide +kernel
theorem dX8_count_68 : decode cX8_count 68 = .ok (.aload_n 0, 1) := by decide +kernel
theorem dX8_count_69 : decode cX8_count 69 = .ok (.getfield 10, 3) := by decide +kernel
theorem dX8_count_72 : decode cX8_count 72 = .ok (.getfield 82, 3) := by decide +kernel
theorem dX8_count_75 : decode cX8_count 75 = .ok (.aload_n 0, 1) := by decide +kernel
theorem dX8_count_76 : decode cX8_count 76 = .ok (.getfield 33, 3) := by decide +kernel
theorem dX8_count_79 : decode cX8_count 79 = .ok (.invokevirtual 119, 3) := by decide +kernel
theorem dX8_count_82 : decode cX8_count 82 = .ok (.aload_n 0, 1) := by decide +kernel
theorem dX8_count_83 : decode cX8_count 83 = .ok (.getfield 47, 3) := by decide +kernel
theorem dX8_count_86 : decode cX8_count 86 = .ok (.invokevirtual 123, 3) := by decide +kernel
theorem dX8_count_89 : decode cX8_count 89 = .ok (.ireturn, 1) := by decide +kernel
theorem dX8_count_90 : decode cX8_count 90 = .ok (.aload_n 0, 1) := by decide +kernel
theorem dX8_count_91 : decode cX8_count 91 = .ok (.getfield 47, 3) := by decide +kernel
theorem dX8_count_94 : decode cX8_count 94 = .ok (.aload_n 0, 1) := by decide +kernel
theorem dX8_count_95 : decode cX8_count 95 = .ok (.getfield 10, 3) := by decide +kernel
theorem dX8_count_98 : decode cX8_count 98 = .ok (.getfield 82, 3) := by decide +kernel
theorem dX8_count_101 : decode cX8_count 101 = .ok (.aload_n 0, 1) := by decide +kernel
theorem dX8_count_102 : decode cX8_count 102 = .ok (.getfield 33, 3) := by decide +kernel
theorem dX8_count_105 : decode cX8_count 105 = .ok (.invokevirtual 119, 3) := by decide +kernel
theorem dX8_count_108 : decode cX8_count 108 = .ok (.aload_n 0, 1) := by decide +kernel
theorem dX8_count_109 : decode cX8_count 109 = .ok (.getfield 47, 3) := by decide +kernel
theorem dX8_count_112 : decode cX8_count 112 = .ok (.aload_n 0, 1) := by decide +kernel
theorem dX8_count_113 : decode cX8_count 113 = .ok (.getfield 10, 3) := by decide +kernel
theorem dX8_count_116 : decode cX8_count 116 = .ok (.getfield 82, 3) := by decide +kernel
theorem dX8_count_119 : decode cX8_count 119 = .ok (.invokevirtual 126, 3) := by decide +kernel
theorem dX8_count_122 : decode cX8_count 122 = .ok (.ireturn, 1) := by decide +kernel
theorem dX8_count_123 : decode cX8_count 123 = .ok (.aload_n 0, 1) := by decide +kernel
theorem dX8_count_124 : decode cX8_count 124 = .ok (.getfield 33, 3) := by decide +kernel
theorem dX8_count_127 : decode cX8_count 127 = .ok (.aload_n 0, 1) := by decide +kernel
theorem dX8_count_128 : decode cX8_count 128 = .ok (.getfield 10, 3) := by decide +kernel
theorem dX8_count_131 : decode cX8_count 131 = .ok (.getfield 82, 3) := by decide +kernel
theorem dX8_count_134 : decode cX8_count 134 = .ok (.invokevirtual 130, 3) := by decide +kernel
theorem dX8_count_137 : decode cX8_count 137 = .ok (.aload_n 0, 1) := by decide +kernel
theorem dX8_count_138 : decode cX8_count 138 = .ok (.getfield 33, 3) := by decide +kernel
theorem dX8_count_141 : decode cX8_count 141 = .ok (.getfield 134, 3) := by decide +kernel
theorem dX8_count_144 : decode cX8_count 144 = .ok (.ireturn, 1) := by decide +kernel
theorem dX8_count_145 : decode cX8_count 145 = .ok (.aload_n 0, 1) := by decide +kernel
theorem dX8_count_146 : decode cX8_count 146 = .ok (.getfield 33, 3) := by decide +kernel
theorem dX8_count_149 : decode cX8_count 149 = .ok (.aload_n 0, 1) := by decide +kernel
theorem dX8_count_150 : decode cX8_count 150 = .ok (.getfield 10, 3) := by decide +kernel
theorem dX8_count_153 : decode cX8_count 153 = .ok (.getfield 82, 3) := by decide +kernel
theorem dX8_count_156 : decode cX8_count 156 = .ok (.invokevirtual 130, 3) := by decide +kernel
theorem dX8_count_159 : decode cX8_count 159 = .ok (.aload_n 0, 1) := by decide +kernel
theorem dX8_count_160 : decode cX8_count 160 = .ok (.getfield 33, 3) := by decide +kernel
theorem dX8_count_163 : decode cX8_count 163 = .ok (.getfield 137, 3) := by decide +kernel
theorem dX8_count_166 : decode cX8_count 166 = .ok (.ireturn, 1) := by decide +kernel
theorem dX8_count_167 : decode cX8_count 167 = .ok (.aload_n 0, 1) := by decide +kernel
theorem dX8_count_168 : decode cX8_count 168 = .ok (.invokevirtual 140, 3) := by decide +kernel
theorem dX8_count_171 : decode cX8_count 171 = .ok (.ireturn, 1) := by decide +kernel
theorem dX8_count_172 : decode cX8_count 172 = .ok (.aload_n 0, 1) := by decide +kernel
theorem dX8_count_173 : decode cX8_count 173 = .ok (.getfield 10, 3) := by decide +kernel
theorem dX8_count_176 : decode cX8_count 176 = .ok (.getfield 102, 3) := by decide +kernel
theorem dX8_count_179 : decode cX8_count 179 = .ok (.ireturn, 1) := by decide +kernel
theorem dX8_count_180 : decode cX8_count 180 = .ok (.ldc 65, 2) := by decide +kernel
theorem dX8_count_182 : decode cX8_count 182 = .ok (.ireturn, 1) := by decide +kernel
theorem dX8_paint_0 : decode cX8_paint 0 = .ok (.iload_n 1, 1) := by decide +kernel
theorem dX8_paint_1 : decode cX8_paint 1 = .ok (.iload_n 2, 1) := by decide +kernel
theorem dX8_paint_2 : decode cX8_paint 2 = .ok (.invokestatic 143, 3) := by decide +kernel
theorem dX8_paint_5 : decode cX8_paint 5 = .ok (.ifCond .eq 13, 3) := by decide +kernel
theorem dX8_paint_8 : decode cX8_paint 8 = .ok (.iload_n 3, 1) := by decide +kernel
theorem dX8_paint_9 : decode cX8_paint 9 = .ok (.iconst 0, 1) := by decide +kernel
theorem dX8_paint_10 : decode cX8_paint 10 = .ok (.bipush 9, 2) := by decide +kernel
theorem dX8_paint_12 : decode cX8_paint 12 = .ok (.invokestatic 105, 3) := by decide +kernel
theorem dX8_paint_15 : decode cX8_paint 15 = .ok (.ifCond .ne 6, 3) := by decide +kernel
theorem dX8_paint_18 : decode cX8_paint 18 = .ok (.ldc 65, 2) := by decide +kernel
theorem dX8_paint_20 : decode cX8_paint 20 = .ok (.ireturn, 1) := by decide +kernel
theorem dX8_paint_21 : decode cX8_paint 21 = .ok (.aload_n 0, 1) := by decide +kernel
theorem dX8_paint_22 : decode cX8_paint 22 = .ok (.getfield 10, 3) := by decide +kernel
theorem dX8_paint_25 : decode cX8_paint 25 = .ok (.getfield 82, 3) := by decide +kernel
theorem dX8_paint_28 : decode cX8_paint 28 = .ok (.getfield 99, 3) := by decide +kernel
theorem dX8_paint_31 : decode cX8_paint 31 = .ok (.iload_n 1, 1) := by decide +kernel
theorem dX8_paint_32 : decode cX8_paint 32 = .ok (.iload_n 2, 1) := by decide +kernel
theorem dX8_paint_33 : decode cX8_paint 33 = .ok (.invokevirtual 109, 3) := by decide +kernel
theorem dX8_paint_36 : decode cX8_paint 36 = .ok (.istore 4, 2) := by decide +kernel
theorem dX8_paint_38 : decode cX8_paint 38 = .ok (.iload 4, 2) := by decide +kernel
theorem dX8_paint_40 : decode cX8_paint 40 = .ok (.iload_n 3, 1) := by decide +kernel
theorem dX8_paint_41 : decode cX8_paint 41 = .ok (.if_icmp .ne 6, 3) := by decide +kernel
theorem dX8_paint_44 : decode cX8_paint 44 = .ok (.ldc 147, 2) := by decide +kernel
theorem dX8_paint_46 : decode cX8_paint 46 = .ok (.ireturn, 1) := by decide +kernel
theorem dX8_paint_47 : decode cX8_paint 47 = .ok (.aload_n 0, 1) := by decide +kernel
theorem dX8_paint_48 : decode cX8_paint 48 = .ok (.getfield 10, 3) := by decide +kernel
theorem dX8_paint_51 : decode cX8_paint 51 = .ok (.invokevirtual 148, 3) := by decide +kernel
theorem dX8_paint_54 : decode cX8_paint 54 = .ok (.aload_n 0, 1) := by decide +kernel
theorem dX8_paint_55 : decode cX8_paint 55 = .ok (.getfield 10, 3) := by decide +kernel
theorem dX8_paint_58 : decode cX8_paint 58 = .ok (.getfield 82, 3) := by decide +kernel
theorem dX8_paint_61 : decode cX8_paint 61 = .ok (.getfield 99, 3) := by decide +kernel
theorem dX8_paint_64 : decode cX8_paint 64 = .ok (.getfield 151, 3) := by decide +kernel
theorem dX8_paint_67 : decode cX8_paint 67 = .ok (.iload_n 2, 1) := by decide +kernel
theorem dX8_paint_68 : decode cX8_paint 68 = .ok (.bipush 12, 2) := by decide +kernel
theorem dX8_paint_70 : decode cX8_paint 70 = .ok (.imul, 1) := by decide +kernel
theorem dX8_paint_71 : decode cX8_paint 71 = .ok (.iload_n 1, 1) := by decide +kernel
theorem dX8_paint_72 : decode cX8_paint 72 = .ok (.iadd, 1) := by decide +kernel
theorem dX8_paint_73 : decode cX8_paint 73 = .ok (.iload_n 3, 1) := by decide +kernel
theorem dX8_paint_74 : decode cX8_paint 74 = .ok (.iastore, 1) := by decide +kernel
theorem dX8_paint_75 : decode cX8_paint 75 = .ok (.iload 4, 2) := by decide +kernel
theorem dX8_paint_77 : decode cX8_paint 77 = .ok (.ireturn, 1) := by decide +kernel
theorem dX8_shift_0 : decode cX8_shift 0 = .ok (.iload_n 1, 1) := by decide +kernel
theorem dX8_shift_1 : decode cX8_shift 1 = .ok (.bipush (-3), 2) := by decide +kernel
theorem dX8_shift_3 : decode cX8_shift 3 = .ok (.iconst 3, 1) := by decide +kernel
theorem dX8_shift_4 : decode cX8_shift 4 = .ok (.invokestatic 105, 3) := by decide +kernel
theorem dX8_shift_7 : decode cX8_shift 7 = .ok (.ifCond .eq 13, 3) := by decide +kernel
theorem dX8_shift_10 : decode cX8_shift 10 = .ok (.iload_n 2, 1) := by decide +kernel
theorem dX8_shift_11 : decode cX8_shift 11 = .ok (.bipush (-3), 2) := by decide +kernel
theorem dX8_shift_13 : decode cX8_shift 13 = .ok (.iconst 3, 1) := by decide +kernel
theorem dX8_shift_14 : decode cX8_shift 14 = .ok (.invokestatic 105, 3) := by decide +kernel
theorem dX8_shift_17 : decode cX8_shift 17 = .ok (.ifCond .ne 6, 3) := by decide +kernel
theorem dX8_shift_20 : decode cX8_shift 20 = .ok (.ldc 65, 2) := by decide +kernel
theorem dX8_shift_22 : decode cX8_shift 22 = .ok (.ireturn, 1) := by decide +kernel
theorem dX8_shift_23 : decode cX8_shift 23 = .ok (.aload_n 0, 1) := by decide +kernel
theorem dX8_shift_24 : decode cX8_shift 24 = .ok (.getfield 10, 3) := by decide +kernel
theorem dX8_shift_27 : decode cX8_shift 27 = .ok (.invokevirtual 148, 3) := by decide +kernel
theorem dX8_shift_30 : decode cX8_shift 30 = .ok (.aload_n 0, 1) := by decide +kernel
theorem dX8_shift_31 : decode cX8_shift 31 = .ok (.getfield 10, 3) := by decide +kernel
theorem dX8_shift_34 : decode cX8_shift 34 = .ok (.getfield 82, 3) := by decide +kernel
theorem dX8_shift_37 : decode cX8_shift 37 = .ok (.getfield 99, 3) := by decide +kernel
theorem dX8_shift_40 : decode cX8_shift 40 = .ok (.astore_n 3, 1) := by decide +kernel
theorem dX8_shift_41 : decode cX8_shift 41 = .ok (.aload_n 0, 1) := by decide +kernel
theorem dX8_shift_42 : decode cX8_shift 42 = .ok (.getfield 54, 3) := by decide +kernel
theorem dX8_shift_45 : decode cX8_shift 45 = .ok (.getfield 99, 3) := by decide +kernel
theorem dX8_shift_48 : decode cX8_shift 48 = .ok (.aload_n 3, 1) := by decide +kernel
theorem dX8_shift_49 : decode cX8_shift 49 = .ok (.getfield 151, 3) := by decide +kernel
theorem dX8_shift_52 : decode cX8_shift 52 = .ok (.invokevirtual 93, 3) := by decide +kernel
theorem dX8_shift_55 : decode cX8_shift 55 = .ok (.iconst 0, 1) := by decide +kernel
theorem dX8_shift_56 : decode cX8_shift 56 = .ok (.istore 4, 2) := by decide +kernel
theorem dX8_shift_58 : decode cX8_shift 58 = .ok (.iload 4, 2) := by decide +kernel
theorem dX8_shift_60 : decode cX8_shift 60 = .ok (.bipush 96, 2) := by decide +kernel
theorem dX8_shift_62 : decode cX8_shift 62 = .ok (.if_icmp .ge 40, 3) := by decide +kernel
theorem dX8_shift_65 : decode cX8_shift 65 = .ok (.aload_n 3, 1) := by decide +kernel
theorem dX8_shift_66 : decode cX8_shift 66 = .ok (.getfield 151, 3) := by decide +kernel
theorem dX8_shift_69 : decode cX8_shift 69 = .ok (.iload 4, 2) := by decide +kernel
theorem dX8_shift_71 : decode cX8_shift 71 = .ok (.aload_n 0, 1) := by decide +kernel
theorem dX8_shift_72 : decode cX8_shift 72 = .ok (.getfield 54, 3) := by decide +kernel
theorem dX8_shift_75 : decode cX8_shift 75 = .ok (.getfield 99, 3) := by decide +kernel
theorem dX8_shift_78 : decode cX8_shift 78 = .ok (.iload 4, 2) := by decide +kernel
theorem dX8_shift_80 : decode cX8_shift 80 = .ok (.bipush 12, 2) := by decide +kernel
theorem dX8_shift_82 : decode cX8_shift 82 = .ok (.irem, 1) := by decide +kernel
theorem dX8_shift_83 : decode cX8_shift 83 = .ok (.iload_n 1, 1) := by decide +kernel
theorem dX8_shift_84 : decode cX8_shift 84 = .ok (.iadd, 1) := by decide +kernel
theorem dX8_shift_85 : decode cX8_shift 85 = .ok (.iload 4, 2) := by decide +kernel
theorem dX8_shift_87 : decode cX8_shift 87 = .ok (.bipush 12, 2) := by decide +kernel
theorem dX8_shift_89 : decode cX8_shift 89 = .ok (.idiv, 1) := by decide +kernel
theorem dX8_shift_90 : decode cX8_shift 90 = .ok (.iload_n 2, 1) := by decide +kernel
theorem dX8_shift_91 : decode cX8_shift 91 = .ok (.iadd, 1) := by decide +kernel
theorem dX8_shift_92 : decode cX8_shift 92 = .ok (.invokevirtual 109, 3) := by decide +kernel
theorem dX8_shift_95 : decode cX8_shift 95 = .ok (.iastore, 1) := by decide +kernel
theorem dX8_shift_96 : decode cX8_shift 96 = .ok (.iinc 4 1, 3) := by decide +kernel
theorem dX8_shift_99 : decode cX8_shift 99 = .ok (.goto (-41), 3) := by decide +kernel
theorem dX8_shift_102 : decode cX8_shift 102 = .ok (.aload_n 3, 1) := by decide +kernel
theorem dX8_shift_103 : decode cX8_shift 103 = .ok (.aload_n 0, 1) := by decide +kernel
theorem dX8_shift_104 : decode cX8_shift 104 = .ok (.getfield 54, 3) := by decide +kernel
theorem dX8_shift_107 : decode cX8_shift 107 = .ok (.getfield 99, 3) := by decide +kernel
theorem dX8_shift_110 : decode cX8_shift 110 = .ok (.invokevirtual 152, 3) := by decide +kernel
theorem dX8_shift_113 : decode cX8_shift 113 = .ok (.ireturn, 1) := by decide +kernel
theorem dX8_take_0 : decode cX8_take 0 = .ok (.aload_n 0, 1) := by decide +kernel
theorem dX8_take_1 : decode cX8_take 1 = .ok (.getfield 10, 3) := by decide +kernel
theorem dX8_take_4 : decode cX8_take 4 = .ok (.invokevirtual 148, 3) := by decide +kernel
theorem dX8_take_7 : decode cX8_take 7 = .ok (.aload_n 0, 1) := by decide +kernel
theorem dX8_take_8 : decode cX8_take 8 = .ok (.getfield 10, 3) := by decide +kernel
theorem dX8_take_11 : decode cX8_take 11 = .ok (.getfield 82, 3) := by decide +kernel
theorem dX8_take_14 : decode cX8_take 14 = .ok (.astore_n 1, 1) := by decide +kernel
theorem dX8_take_15 : decode cX8_take 15 = .ok (.aload_n 1, 1) := by decide +kernel
theorem dX8_take_16 : decode cX8_take 16 = .ok (.getfield 85, 3) := by decide +kernel
theorem dX8_take_19 : decode cX8_take 19 = .ok (.aload_n 1, 1) := by decide +kernel
theorem dX8_take_20 : decode cX8_take 20 = .ok (.getfield 99, 3) := by decide +kernel
theorem dX8_take_23 : decode cX8_take 23 = .ok (.invokevirtual 152, 3) := by decide +kernel
theorem dX8_take_26 : decode cX8_take 26 = .ok (.istore_n 2, 1) := by decide +kernel
theorem dX8_take_27 : decode cX8_take 27 = .ok (.aload_n 1, 1) := by decide +kernel
theorem dX8_take_28 : decode cX8_take 28 = .ok (.getfield 85, 3) := by decide +kernel
theorem dX8_take_31 : decode cX8_take 31 = .ok (.aload_n 1, 1) := by decide +kernel
theorem dX8_take_32 : decode cX8_take 32 = .ok (.getfield 99, 3) := by decide +kernel
theorem dX8_take_35 : decode cX8_take 35 = .ok (.getfield 151, 3) := by decide +kernel
theorem dX8_take_38 : decode cX8_take 38 = .ok (.invokevirtual 93, 3) := by decide +kernel
theorem dX8_take_41 : decode cX8_take 41 = .ok (.iload_n 2, 1) := by decide +kernel
theorem dX8_take_42 : decode cX8_take 42 = .ok (.ireturn, 1) := by decide +kernel
theorem dX8_like_0 : decode cX8_like 0 = .ok (.iload_n 1, 1) := by decide +kernel
theorem dX8_like_1 : decode cX8_like 1 = .ok (.iconst 0, 1) := by decide +kernel
theorem dX8_like_2 : decode cX8_like 2 = .ok (.iconst 4, 1) := by decide +kernel
theorem dX8_like_3 : decode cX8_like 3 = .ok (.invokestatic 105, 3) := by decide +kernel
theorem dX8_like_6 : decode cX8_like 6 = .ok (.ifCond .ne 6, 3) := by decide +kernel
theorem dX8_like_9 : decode cX8_like 9 = .ok (.ldc 65, 2) := by decide +kernel
theorem dX8_like_11 : decode cX8_like 11 = .ok (.ireturn, 1) := by decide +kernel
theorem dX8_like_12 : decode cX8_like 12 = .ok (.aload_n 0, 1) := by decide +kernel
theorem dX8_like_13 : decode cX8_like 13 = .ok (.getfield 10, 3) := by decide +kernel
theorem dX8_like_16 : decode cX8_like 16 = .ok (.getfield 82, 3) := by decide +kernel
theorem dX8_like_19 : decode cX8_like 19 = .ok (.getfield 113, 3) := by decide +kernel
theorem dX8_like_22 : decode cX8_like 22 = .ok (.istore_n 2, 1) := by decide +kernel
theorem dX8_like_23 : decode cX8_like 23 = .ok (.iload_n 2, 1) := by decide +kernel
theorem dX8_like_24 : decode cX8_like 24 = .ok (.iload_n 1, 1) := by decide +kernel
theorem dX8_like_25 : decode cX8_like 25 = .ok (.if_icmp .ne 6, 3) := by decide +kernel
theorem dX8_like_28 : decode cX8_like 28 = .ok (.ldc 147, 2) := by decide +kernel
theorem dX8_like_30 : decode cX8_like 30 = .ok (.ireturn, 1) := by decide +kernel
theorem dX8_like_31 : decode cX8_like 31 = .ok (.aload_n 0, 1) := by decide +kernel
theorem dX8_like_32 : decode cX8_like 32 = .ok (.getfield 10, 3) := by decide +kernel
theorem dX8_like_35 : decode cX8_like 35 = .ok (.invokevirtual 148, 3) := by decide +kernel
theorem dX8_like_38 : decode cX8_like 38 = .ok (.aload_n 0, 1) := by decide +kernel
theorem dX8_like_39 : decode cX8_like 39 = .ok (.getfield 10, 3) := by decide +kernel
theorem dX8_like_42 : decode cX8_like 42 = .ok (.getfield 82, 3) := by decide +kernel
theorem dX8_like_45 : decode cX8_like 45 = .ok (.iload_n 1, 1) := by decide +kernel
theorem dX8_like_46 : decode cX8_like 46 = .ok (.putfield 113, 3) := by decide +kernel
theorem dX8_like_49 : decode cX8_like 49 = .ok (.iload_n 2, 1) := by decide +kernel
theorem dX8_like_50 : decode cX8_like 50 = .ok (.ireturn, 1) := by decide +kernel
theorem dX8_noise_0 : decode cX8_noise 0 = .ok (.iload_n 1, 1) := by decide +kernel
theorem dX8_noise_1 : decode cX8_noise 1 = .ok (.iconst 1, 1) := by decide +kernel
theorem dX8_noise_2 : decode cX8_noise 2 = .ok (.bipush 40, 2) := by decide +kernel
theorem dX8_noise_4 : decode cX8_noise 4 = .ok (.invokestatic 105, 3) := by decide +kernel
theorem dX8_noise_7 : decode cX8_noise 7 = .ok (.ifCond .ne 6, 3) := by decide +kernel
theorem dX8_noise_10 : decode cX8_noise 10 = .ok (.ldc 65, 2) := by decide +kernel
theorem dX8_noise_12 : decode cX8_noise 12 = .ok (.ireturn, 1) := by decide +kernel
theorem dX8_noise_13 : decode cX8_noise 13 = .ok (.iconst 0, 1) := by decide +kernel
theorem dX8_noise_14 : decode cX8_noise 14 = .ok (.istore_n 2, 1) := by decide +kernel
theorem dX8_noise_15 : decode cX8_noise 15 = .ok (.iload_n 2, 1) := by decide +kernel
theorem dX8_noise_16 : decode cX8_noise 16 = .ok (.iload_n 1, 1) := by decide +kernel
theorem dX8_noise_17 : decode cX8_noise 17 = .ok (.if_icmp .ge 26, 3) := by decide +kernel
theorem dX8_noise_20 : decode cX8_noise 20 = .ok (.aload_n 0, 1) := by decide +kernel
theorem dX8_noise_21 : decode cX8_noise 21 = .ok (.getfield 10, 3) := by decide +kernel
theorem dX8_noise_24 : decode cX8_noise 24 = .ok (.invokevirtual 148, 3) := by decide +kernel
theorem dX8_noise_27 : decode cX8_noise 27 = .ok (.aload_n 0, 1) := by decide +kernel
theorem dX8_noise_28 : decode cX8_noise 28 = .ok (.getfield 10, 3) := by decide +kernel
theorem dX8_noise_31 : decode cX8_noise 31 = .ok (.getfield 82, 3) := by decide +kernel
theorem dX8_noise_34 : decode cX8_noise 34 = .ok (.invokevirtual 156, 3) := by decide +kernel
theorem dX8_noise_37 : decode cX8_noise 37 = .ok (.iinc 2 1, 3) := by decide +kernel
theorem dX8_noise_40 : decode cX8_noise 40 = .ok (.goto (-25), 3) := by decide +kernel
theorem dX8_noise_43 : decode cX8_noise 43 = .ok (.aload_n 0, 1) := by decide +kernel
theorem dX8_noise_44 : decode cX8_noise 44 = .ok (.getfield 47, 3) := by decide +kernel
theorem dX8_noise_47 : decode cX8_noise 47 = .ok (.aload_n 0, 1) := by decide +kernel
theorem dX8_noise_48 : decode cX8_noise 48 = .ok (.getfield 10, 3) := by decide +kernel
theorem dX8_noise_51 : decode cX8_noise 51 = .ok (.getfield 82, 3) := by decide +kernel
theorem dX8_noise_54 : decode cX8_noise 54 = .ok (.aload_n 0, 1) := by decide +kernel
theorem dX8_noise_55 : decode cX8_noise 55 = .ok (.getfield 33, 3) := by decide +kernel
theorem dX8_noise_58 : decode cX8_noise 58 = .ok (.invokevirtual 119, 3) := by decide +kernel
theorem dX8_noise_61 : decode cX8_noise 61 = .ok (.aload_n 0, 1) := by decide +kernel
theorem dX8_noise_62 : decode cX8_noise 62 = .ok (.getfield 47, 3) := by decide +kernel
theorem dX8_noise_65 : decode cX8_noise 65 = .ok (.aload_n 0, 1) := by decide +kernel
theorem dX8_noise_66 : decode cX8_noise 66 = .ok (.getfield 10, 3) := by decide +kernel
theorem dX8_noise_69 : decode cX8_noise 69 = .ok (.getfield 82, 3) := by decide +kernel
theorem dX8_noise_72 : decode cX8_noise 72 = .ok (.invokevirtual 126, 3) := by decide +kernel
theorem dX8_noise_75 : decode cX8_noise 75 = .ok (.ireturn, 1) := by decide +kernel
theorem dX8_undo_0 : decode cX8_undo 0 = .ok (.aload_n 0, 1) := by decide +kernel
theorem dX8_undo_1 : decode cX8_undo 1 = .ok (.getfield 10, 3) := by decide +kernel
theorem dX8_undo_4 : decode cX8_undo 4 = .ok (.getfield 102, 3) := by decide +kernel
theorem dX8_undo_7 : decode cX8_undo 7 = .ok (.ifCond .ne 6, 3) := by decide +kernel
theorem dX8_undo_10 : decode cX8_undo 10 = .ok (.ldc 159, 2) := by decide +kernel
theorem dX8_undo_12 : decode cX8_undo 12 = .ok (.ireturn, 1) := by decide +kernel
theorem dX8_undo_13 : decode cX8_undo 13 = .ok (.aload_n 0, 1) := by decide +kernel
theorem dX8_undo_14 : decode cX8_undo 14 = .ok (.getfield 10, 3) := by decide +kernel
theorem dX8_undo_17 : decode cX8_undo 17 = .ok (.invokevirtual 160, 3) := by decide +kernel
theorem dX8_undo_20 : decode cX8_undo 20 = .ok (.aload_n 0, 1) := by decide +kernel
theorem dX8_undo_21 : decode cX8_undo 21 = .ok (.getfield 10, 3) := by decide +kernel
theorem dX8_undo_24 : decode cX8_undo 24 = .ok (.getfield 102, 3) := by decide +kernel
theorem dX8_undo_27 : decode cX8_undo 27 = .ok (.ireturn, 1) := by decide +kernel
theorem dX8_seed_0 : decode cX8_seed 0 = .ok (.iload_n 1, 1) := by decide +kernel
theorem dX8_seed_1 : decode cX8_seed 1 = .ok (.ifCond .ge 6, 3) := by decide +kernel
theorem dX8_seed_4 : decode cX8_seed 4 = .ok (.ldc 65, 2) := by decide +kernel
theorem dX8_seed_6 : decode cX8_seed 6 = .ok (.ireturn, 1) := by decide +kernel
theorem dX8_seed_7 : decode cX8_seed 7 = .ok (.aload_n 0, 1) := by decide +kernel
theorem dX8_seed_8 : decode cX8_seed 8 = .ok (.getfield 10, 3) := by decide +kernel
theorem dX8_seed_11 : decode cX8_seed 11 = .ok (.getfield 82, 3) := by decide +kernel
theorem dX8_seed_14 : decode cX8_seed 14 = .ok (.getfield 163, 3) := by decide +kernel
theorem dX8_seed_17 : decode cX8_seed 17 = .ok (.istore_n 2, 1) := by decide +kernel
theorem dX8_seed_18 : decode cX8_seed 18 = .ok (.aload_n 0, 1) := by decide +kernel
theorem dX8_seed_19 : decode cX8_seed 19 = .ok (.getfield 10, 3) := by decide +kernel
theorem dX8_seed_22 : decode cX8_seed 22 = .ok (.getfield 82, 3) := by decide +kernel
theorem dX8_seed_25 : decode cX8_seed 25 = .ok (.iload_n 1, 1) := by decide +kernel
theorem dX8_seed_26 : decode cX8_seed 26 = .ok (.putfield 163, 3) := by decide +kernel
theorem dX8_seed_29 : decode cX8_seed 29 = .ok (.iload_n 2, 1) := by decide +kernel
theorem dX8_seed_30 : decode cX8_seed 30 = .ok (.ireturn, 1) := by decide +kernel
theorem dX8_cost_0 : decode cX8_cost 0 = .ok (.iload_n 1, 1) := by decide +kernel
theorem dX8_cost_1 : decode cX8_cost 1 = .ok (.iconst 0, 1) := by decide +kernel
theorem dX8_cost_2 : decode cX8_cost 2 = .ok (.iconst 5, 1) := by decide +kernel
theorem dX8_cost_3 : decode cX8_cost 3 = .ok (.invokestatic 105, 3) := by decide +kernel
theorem dX8_cost_6 : decode cX8_cost 6 = .ok (.ifCond .eq 13, 3) := by decide +kernel
theorem dX8_cost_9 : decode cX8_cost 9 = .ok (.iload_n 2, 1) := by decide +kernel
theorem dX8_cost_10 : decode cX8_cost 10 = .ok (.iconst 0, 1) := by decide +kernel
theorem dX8_cost_11 : decode cX8_cost 11 = .ok (.bipush 48, 2) := by decide +kernel
theorem dX8_cost_13 : decode cX8_cost 13 = .ok (.invokestatic 105, 3) := by decide +kernel
theorem dX8_cost_16 : decode cX8_cost 16 = .ok (.ifCond .ne 6, 3) := by decide +kernel
theorem dX8_cost_19 : decode cX8_cost 19 = .ok (.ldc 65, 2) := by decide +kernel
theorem dX8_cost_21 : decode cX8_cost 21 = .ok (.ireturn, 1) := by decide +kernel
theorem dX8_cost_22 : decode cX8_cost 22 = .ok (.aload_n 0, 1) := by decide +kernel
theorem dX8_cost_23 : decode cX8_cost 23 = .ok (.getfield 33, 3) := by decide +kernel
theorem dX8_cost_26 : decode cX8_cost 26 = .ok (.aload_n 0, 1) := by decide +kernel
theorem dX8_cost_27 : decode cX8_cost 27 = .ok (.getfield 10, 3) := by decide +kernel
theorem dX8_cost_30 : decode cX8_cost 30 = .ok (.getfield 82, 3) := by decide +kernel
theorem dX8_cost_33 : decode cX8_cost 33 = .ok (.iload_n 1, 1) := by decide +kernel
theorem dX8_cost_34 : decode cX8_cost 34 = .ok (.iload_n 2, 1) := by decide +kernel
theorem dX8_cost_35 : decode cX8_cost 35 = .ok (.invokevirtual 166, 3) := by decide +kernel
theorem dX8_cost_38 : decode cX8_cost 38 = .ok (.ireturn, 1) := by decide +kernel
theorem dX8_of_0 : decode cX8_of 0 = .ok (.iload_n 1, 1) := by decide +kernel
theorem dX8_of_1 : decode cX8_of 1 = .ok (.iconst 0, 1) := by decide +kernel
theorem dX8_of_2 : decode cX8_of 2 = .ok (.iconst 5, 1) := by decide +kernel
theorem dX8_of_3 : decode cX8_of 3 = .ok (.invokestatic 105, 3) := by decide +kernel
theorem dX8_of_6 : decode cX8_of 6 = .ok (.ifCond .eq 13, 3) := by decide +kernel
theorem dX8_of_9 : decode cX8_of 9 = .ok (.iload_n 2, 1) := by decide +kernel
theorem dX8_of_10 : decode cX8_of 10 = .ok (.iconst 0, 1) := by decide +kernel
theorem dX8_of_11 : decode cX8_of 11 = .ok (.bipush 9, 2) := by decide +kernel
theorem dX8_of_13 : decode cX8_of 13 = .ok (.invokestatic 105, 3) := by decide +kernel
theorem dX8_of_16 : decode cX8_of 16 = .ok (.ifCond .ne 6, 3) := by decide +kernel
theorem dX8_of_19 : decode cX8_of 19 = .ok (.ldc 65, 2) := by decide +kernel
theorem dX8_of_21 : decode cX8_of 21 = .ok (.ireturn, 1) := by decide +kernel
theorem dX8_of_22 : decode cX8_of 22 = .ok (.iload_n 2, 1) := by decide +kernel
theorem dX8_of_23 : decode cX8_of 23 = .ok (.bipush 8, 2) := by decide +kernel
theorem dX8_of_25 : decode cX8_of 25 = .ok (.if_icmp .lt 41, 3) := by decide +kernel
theorem dX8_of_28 : decode cX8_of 28 = .ok (.aload_n 0, 1) := by decide +kernel
theorem dX8_of_29 : decode cX8_of 29 = .ok (.getfield 47, 3) := by decide +kernel
theorem dX8_of_32 : decode cX8_of 32 = .ok (.aload_n 0, 1) := by decide +kernel
theorem dX8_of_33 : decode cX8_of 33 = .ok (.getfield 10, 3) := by decide +kernel
theorem dX8_of_36 : decode cX8_of 36 = .ok (.getfield 82, 3) := by decide +kernel
theorem dX8_of_39 : decode cX8_of 39 = .ok (.aload_n 0, 1) := by decide +kernel
theorem dX8_of_40 : decode cX8_of 40 = .ok (.getfield 33, 3) := by decide +kernel
theorem dX8_of_43 : decode cX8_of 43 = .ok (.invokevirtual 119, 3) := by decide +kernel
theorem dX8_of_46 : decode cX8_of 46 = .ok (.aload_n 0, 1) := by decide +kernel
theorem dX8_of_47 : decode cX8_of 47 = .ok (.getfield 47, 3) := by decide +kernel
theorem dX8_of_50 : decode cX8_of 50 = .ok (.iload_n 1, 1) := by decide +kernel
theorem dX8_of_51 : decode cX8_of 51 = .ok (.iload_n 2, 1) := by decide +kernel
theorem dX8_of_52 : decode cX8_of 52 = .ok (.bipush 8, 2) := by decide +kernel
theorem dX8_of_54 : decode cX8_of 54 = .ok (.if_icmp .ne 7, 3) := by decide +kernel
theorem dX8_of_57 : decode cX8_of 57 = .ok (.iconst 1, 1) := by decide +kernel
theorem dX8_of_58 : decode cX8_of 58 = .ok (.goto 4, 3) := by decide +kernel
theorem dX8_of_61 : decode cX8_of 61 = .ok (.iconst 0, 1) := by decide +kernel
theorem dX8_of_62 : decode cX8_of 62 = .ok (.invokevirtual 170, 3) := by decide +kernel
theorem dX8_of_65 : decode cX8_of 65 = .ok (.ireturn, 1) := by decide +kernel
theorem dX8_of_66 : decode cX8_of 66 = .ok (.iload_n 2, 1) := by decide +kernel
theorem dX8_of_67 : decode cX8_of 67 = .ok (.bipush 6, 2) := by decide +kernel
theorem dX8_of_69 : decode cX8_of 69 = .ok (.if_icmp .lt 64, 3) := by decide +kernel
theorem dX8_of_72 : decode cX8_of 72 = .ok (.aload_n 0, 1) := by decide +kernel
theorem dX8_of_73 : decode cX8_of 73 = .ok (.getfield 33, 3) := by decide +kernel
theorem dX8_of_76 : decode cX8_of 76 = .ok (.aload_n 0, 1) := by decide +kernel
theorem dX8_of_77 : decode cX8_of 77 = .ok (.getfield 10, 3) := by decide +kernel
theorem dX8_of_80 : decode cX8_of 80 = .ok (.getfield 82, 3) := by decide +kernel
theorem dX8_of_83 : decode cX8_of 83 = .ok (.iload_n 1, 1) := by decide +kernel
theorem dX8_of_84 : decode cX8_of 84 = .ok (.invokevirtual 174, 3) := by decide +kernel
theorem dX8_of_87 : decode cX8_of 87 = .ok (.aload_n 0, 1) := by decide +kernel
theorem dX8_of_88 : decode cX8_of 88 = .ok (.getfield 40, 3) := by decide +kernel
theorem dX8_of_91 : decode cX8_of 91 = .ok (.aload_n 0, 1) := by decide +kernel
theorem dX8_of_92 : decode cX8_of 92 = .ok (.getfield 10, 3) := by decide +kernel
theorem dX8_of_95 : decode cX8_of 95 = .ok (.getfield 82, 3) := by decide +kernel
theorem dX8_of_98 : decode cX8_of 98 = .ok (.iload_n 1, 1) := by decide +kernel
theorem dX8_of_99 : decode cX8_of 99 = .ok (.aload_n 0, 1) := by decide +kernel
theorem dX8_of_100 : decode cX8_of 100 = .ok (.getfield 33, 3) := by decide +kernel
theorem dX8_of_103 : decode cX8_of 103 = .ok (.getfield 134, 3) := by decide +kernel
theorem dX8_of_106 : decode cX8_of 106 = .ok (.invokevirtual 178, 3) := by decide +kernel
theorem dX8_of_109 : decode cX8_of 109 = .ok (.iload_n 2, 1) := by decide +kernel
theorem dX8_of_110 : decode cX8_of 110 = .ok (.bipush 6, 2) := by decide +kernel
theorem dX8_of_112 : decode cX8_of 112 = .ok (.if_icmp .ne 13, 3) := by decide +kernel
theorem dX8_of_115 : decode cX8_of 115 = .ok (.aload_n 0, 1) := by decide +kernel
theorem dX8_of_116 : decode cX8_of 116 = .ok (.getfield 40, 3) := by decide +kernel
theorem dX8_of_119 : decode cX8_of 119 = .ok (.getfield 182, 3) := by decide +kernel
theorem dX8_of_122 : decode cX8_of 122 = .ok (.goto 10, 3) := by decide +kernel
theorem dX8_of_125 : decode cX8_of 125 = .ok (.aload_n 0, 1) := by decide +kernel
theorem dX8_of_126 : decode cX8_of 126 = .ok (.getfield 40, 3) := by decide +kernel
theorem dX8_of_129 : decode cX8_of 129 = .ok (.getfield 185, 3) := by decide +kernel
theorem dX8_of_132 : decode cX8_of 132 = .ok (.ireturn, 1) := by decide +kernel
theorem dX8_of_133 : decode cX8_of 133 = .ok (.iload_n 2, 1) := by decide +kernel
theorem dX8_of_134 : decode cX8_of 134 = .ok (.iconst 5, 1) := by decide +kernel
theorem dX8_of_135 : decode cX8_of 135 = .ok (.if_icmp .ne 26, 3) := by decide +kernel
theorem dX8_of_138 : decode cX8_of 138 = .ok (.aload_n 0, 1) := by decide +kernel
theorem dX8_of_139 : decode cX8_of 139 = .ok (.getfield 33, 3) := by decide +kernel
theorem dX8_of_142 : decode cX8_of 142 = .ok (.aload_n 0, 1) := by decide +kernel
theorem dX8_of_143 : decode cX8_of 143 = .ok (.getfield 10, 3) := by decide +kernel
theorem dX8_of_146 : decode cX8_of 146 = .ok (.getfield 82, 3) := by decide +kernel
theorem dX8_of_149 : decode cX8_of 149 = .ok (.iload_n 1, 1) := by decide +kernel
theorem dX8_of_150 : decode cX8_of 150 = .ok (.invokevirtual 186, 3) := by decide +kernel
theorem dX8_of_153 : decode cX8_of 153 = .ok (.aload_n 0, 1) := by decide +kernel
theorem dX8_of_154 : decode cX8_of 154 = .ok (.getfield 33, 3) := by decide +kernel
theorem dX8_of_157 : decode cX8_of 157 = .ok (.getfield 134, 3) := by decide +kernel
theorem dX8_of_160 : decode cX8_of 160 = .ok (.ireturn, 1) := by decide +kernel
theorem dX8_of_161 : decode cX8_of 161 = .ok (.aload_n 0, 1) := by decide +kernel
theorem dX8_of_162 : decode cX8_of 162 = .ok (.iload_n 1, 1) := by decide +kernel
theorem dX8_of_163 : decode cX8_of 163 = .ok (.iload_n 2, 1) := by decide +kernel
theorem dX8_of_164 : decode cX8_of 164 = .ok (.invokevirtual 189, 3) := by decide +kernel
theorem dX8_of_167 : decode cX8_of 167 = .ok (.ireturn, 1) := by decide +kernel
theorem dX8_rebuilt_0 : decode cX8_rebuilt 0 = .ok (.iload_n 1, 1) := by decide +kernel
theorem dX8_rebuilt_1 : decode cX8_rebuilt 1 = .ok (.iload_n 2, 1) := by decide +kernel
theorem dX8_rebuilt_2 : decode cX8_rebuilt 2 = .ok (.invokestatic 143, 3) := by decide +kernel
theorem dX8_rebuilt_5 : decode cX8_rebuilt 5 = .ok (.ifCond .ne 6, 3) := by decide +kernel
theorem dX8_rebuilt_8 : decode cX8_rebuilt 8 = .ok (.ldc 65, 2) := by decide +kernel
theorem dX8_rebuilt_10 : decode cX8_rebuilt 10 = .ok (.ireturn, 1) := by decide +kernel
theorem dX8_rebuilt_11 : decode cX8_rebuilt 11 = .ok (.aload_n 0, 1) := by decide +kernel
theorem dX8_rebuilt_12 : decode cX8_rebuilt 12 = .ok (.getfield 33, 3) := by decide +kernel
theorem dX8_rebuilt_15 : decode cX8_rebuilt 15 = .ok (.aload_n 0, 1) := by decide +kernel
theorem dX8_rebuilt_16 : decode cX8_rebuilt 16 = .ok (.getfield 10, 3) := by decide +kernel
theorem dX8_rebuilt_19 : decode cX8_rebuilt 19 = .ok (.getfield 82, 3) := by decide +kernel
theorem dX8_rebuilt_22 : decode cX8_rebuilt 22 = .ok (.iload_n 1, 1) := by decide +kernel
theorem dX8_rebuilt_23 : decode cX8_rebuilt 23 = .ok (.iload_n 2, 1) := by decide +kernel
theorem dX8_rebuilt_24 : decode cX8_rebuilt 24 = .ok (.invokestatic 192, 3) := by decide +kernel
theorem dX8_rebuilt_27 : decode cX8_rebuilt 27 = .ok (.invokevirtual 174, 3) := by decide +kernel
theorem dX8_rebuilt_30 : decode cX8_rebuilt 30 = .ok (.aload_n 0, 1) := by decide +kernel
theorem dX8_rebuilt_31 : decode cX8_rebuilt 31 = .ok (.getfield 10, 3) := by decide +kernel
theorem dX8_rebuilt_34 : decode cX8_rebuilt 34 = .ok (.getfield 82, 3) := by decide +kernel
theorem dX8_rebuilt_37 : decode cX8_rebuilt 37 = .ok (.getfield 85, 3) := by decide +kernel
theorem dX8_rebuilt_40 : decode cX8_rebuilt 40 = .ok (.iload_n 1, 1) := by decide +kernel
theorem dX8_rebuilt_41 : decode cX8_rebuilt 41 = .ok (.aload_n 0, 1) := by decide +kernel
theorem dX8_rebuilt_42 : decode cX8_rebuilt 42 = .ok (.getfield 33, 3) := by decide +kernel
theorem dX8_rebuilt_45 : decode cX8_rebuilt 45 = .ok (.getfield 134, 3) := by decide +kernel
theorem dX8_rebuilt_48 : decode cX8_rebuilt 48 = .ok (.invokestatic 195, 3) := by decide +kernel
theorem dX8_rebuilt_51 : decode cX8_rebuilt 51 = .ok (.iadd, 1) := by decide +kernel
theorem dX8_rebuilt_52 : decode cX8_rebuilt 52 = .ok (.iload_n 2, 1) := by decide +kernel
theorem dX8_rebuilt_53 : decode cX8_rebuilt 53 = .ok (.aload_n 0, 1) := by decide +kernel
theorem dX8_rebuilt_54 : decode cX8_rebuilt 54 = .ok (.getfield 33, 3) := by decide +kernel
theorem dX8_rebuilt_57 : decode cX8_rebuilt 57 = .ok (.getfield 134, 3) := by decide +kernel
theorem dX8_rebuilt_60 : decode cX8_rebuilt 60 = .ok (.invokestatic 199, 3) := by decide +kernel
theorem dX8_rebuilt_63 : decode cX8_rebuilt 63 = .ok (.iadd, 1) := by decide +kernel
theorem dX8_rebuilt_64 : decode cX8_rebuilt 64 = .ok (.invokevirtual 109, 3) := by decide +kernel
theorem dX8_rebuilt_67 : decode cX8_rebuilt 67 = .ok (.ireturn, 1) := by decide +kernel
theorem dX8_wrong_0 : decode cX8_wrong 0 = .ok (.iload_n 1, 1) := by decide +kernel
theorem dX8_wrong_1 : decode cX8_wrong 1 = .ok (.iconst 0, 1) := by decide +kernel
theorem dX8_wrong_2 : decode cX8_wrong 2 = .ok (.bipush 6, 2) := by decide +kernel
theorem dX8_wrong_4 : decode cX8_wrong 4 = .ok (.invokestatic 105, 3) := by decide +kernel
theorem dX8_wrong_7 : decode cX8_wrong 7 = .ok (.ifCond .eq 22, 3) := by decide +kernel
theorem dX8_wrong_10 : decode cX8_wrong 10 = .ok (.iload_n 2, 1) := by decide +kernel
theorem dX8_wrong_11 : decode cX8_wrong 11 = .ok (.iconst 0, 1) := by decide +kernel
theorem dX8_wrong_12 : decode cX8_wrong 12 = .ok (.bipush 10, 2) := by decide +kernel
theorem dX8_wrong_14 : decode cX8_wrong 14 = .ok (.invokestatic 105, 3) := by decide +kernel
theorem dX8_wrong_17 : decode cX8_wrong 17 = .ok (.ifCond .eq 12, 3) := by decide +kernel
theorem dX8_wrong_20 : decode cX8_wrong 20 = .ok (.iload_n 3, 1) := by decide +kernel
theorem dX8_wrong_21 : decode cX8_wrong 21 = .ok (.iconst 0, 1) := by decide +kernel
theorem dX8_wrong_22 : decode cX8_wrong 22 = .ok (.iconst 1, 1) := by decide +kernel
theorem dX8_wrong_23 : decode cX8_wrong 23 = .ok (.invokestatic 105, 3) := by decide +kernel
theorem dX8_wrong_26 : decode cX8_wrong 26 = .ok (.ifCond .ne 6, 3) := by decide +kernel
theorem dX8_wrong_29 : decode cX8_wrong 29 = .ok (.ldc 65, 2) := by decide +kernel
theorem dX8_wrong_31 : decode cX8_wrong 31 = .ok (.ireturn, 1) := by decide +kernel
theorem dX8_wrong_32 : decode cX8_wrong 32 = .ok (.iload_n 1, 1) := by decide +kernel
theorem dX8_wrong_33 : decode cX8_wrong 33 = .ok (.iconst 4, 1) := by decide +kernel
theorem dX8_wrong_34 : decode cX8_wrong 34 = .ok (.invokestatic 202, 3) := by decide +kernel
theorem dX8_wrong_37 : decode cX8_wrong 37 = .ok (.istore 4, 2) := by decide +kernel
theorem dX8_wrong_39 : decode cX8_wrong 39 = .ok (.aload_n 0, 1) := by decide +kernel
theorem dX8_wrong_40 : decode cX8_wrong 40 = .ok (.iload 4, 2) := by decide +kernel
theorem dX8_wrong_42 : decode cX8_wrong 42 = .ok (.iload_n 2, 1) := by decide +kernel
theorem dX8_wrong_43 : decode cX8_wrong 43 = .ok (.invokevirtual 207, 3) := by decide +kernel
theorem dX8_wrong_46 : decode cX8_wrong 46 = .ok (.istore 5, 2) := by decide +kernel
theorem dX8_wrong_48 : decode cX8_wrong 48 = .ok (.bipush 10, 2) := by decide +kernel
theorem dX8_wrong_50 : decode cX8_wrong 50 = .ok (.iload 4, 2) := by decide +kernel
theorem dX8_wrong_52 : decode cX8_wrong 52 = .ok (.invokestatic 210, 3) := by decide +kernel
theorem dX8_wrong_55 : decode cX8_wrong 55 = .ok (.istore 6, 2) := by decide +kernel
theorem dX8_wrong_57 : decode cX8_wrong 57 = .ok (.iload 5, 2) := by decide +kernel
theorem dX8_wrong_59 : decode cX8_wrong 59 = .ok (.iload 6, 2) := by decide +kernel
theorem dX8_wrong_61 : decode cX8_wrong 61 = .ok (.invokestatic 213, 3) := by decide +kernel
theorem dX8_wrong_64 : decode cX8_wrong 64 = .ok (.istore 7, 2) := by decide +kernel
theorem dX8_wrong_66 : decode cX8_wrong 66 = .ok (.iload 7, 2) := by decide +kernel
theorem dX8_wrong_68 : decode cX8_wrong 68 = .ok (.iconst 1, 1) := by decide +kernel
theorem dX8_wrong_69 : decode cX8_wrong 69 = .ok (.if_icmp .ge 6, 3) := by decide +kernel
theorem dX8_wrong_72 : decode cX8_wrong 72 = .ok (.ldc 65, 2) := by decide +kernel
theorem dX8_wrong_74 : decode cX8_wrong 74 = .ok (.ireturn, 1) := by decide +kernel
theorem dX8_wrong_75 : decode cX8_wrong 75 = .ok (.iload_n 3, 1) := by decide +kernel
theorem dX8_wrong_76 : decode cX8_wrong 76 = .ok (.ifCond .ne 8, 3) := by decide +kernel
theorem dX8_wrong_79 : decode cX8_wrong 79 = .ok (.iload 5, 2) := by decide +kernel
theorem dX8_wrong_81 : decode cX8_wrong 81 = .ok (.goto 5, 3) := by decide +kernel
theorem dX8_wrong_84 : decode cX8_wrong 84 = .ok (.iload 6, 2) := by decide +kernel
theorem dX8_wrong_86 : decode cX8_wrong 86 = .ok (.iload 7, 2) := by decide +kernel
theorem dX8_wrong_88 : decode cX8_wrong 88 = .ok (.idiv, 1) := by decide +kernel
theorem dX8_wrong_89 : decode cX8_wrong 89 = .ok (.ireturn, 1) := by decide +kernel
theorem dX8_image_0 : decode cX8_image 0 = .ok (.aload_n 0, 1) := by decide +kernel
theorem dX8_image_1 : decode cX8_image 1 = .ok (.getfield 16, 3) := by decide +kernel
theorem dX8_image_4 : decode cX8_image 4 = .ok (.aload_n 0, 1) := by decide +kernel
theorem dX8_image_5 : decode cX8_image 5 = .ok (.getfield 10, 3) := by decide +kernel
theorem dX8_image_8 : decode cX8_image 8 = .ok (.invokevirtual 216, 3) := by decide +kernel
theorem dX8_image_11 : decode cX8_image 11 = .ok (.aload_n 0, 1) := by decide +kernel
theorem dX8_image_12 : decode cX8_image 12 = .ok (.iconst 1, 1) := by decide +kernel
theorem dX8_image_13 : decode cX8_image 13 = .ok (.putfield 19, 3) := by decide +kernel
theorem dX8_image_16 : decode cX8_image 16 = .ok (.iconst 1, 1) := by decide +kernel
theorem dX8_image_17 : decode cX8_image 17 = .ok (.ireturn, 1) := by decide +kernel
theorem dX8_restore_0 : decode cX8_restore 0 = .ok (.aload_n 0, 1) := by decide +kernel
theorem dX8_restore_1 : decode cX8_restore 1 = .ok (.getfield 19, 3) := by decide +kernel
theorem dX8_restore_4 : decode cX8_restore 4 = .ok (.ifCond .ne 6, 3) := by decide +kernel
theorem dX8_restore_7 : decode cX8_restore 7 = .ok (.ldc 159, 2) := by decide +kernel
theorem dX8_restore_9 : decode cX8_restore 9 = .ok (.ireturn, 1) := by decide +kernel
theorem dX8_restore_10 : decode cX8_restore 10 = .ok (.aload_n 0, 1) := by decide +kernel
theorem dX8_restore_11 : decode cX8_restore 11 = .ok (.getfield 10, 3) := by decide +kernel
theorem dX8_restore_14 : decode cX8_restore 14 = .ok (.aload_n 0, 1) := by decide +kernel
theorem dX8_restore_15 : decode cX8_restore 15 = .ok (.getfield 16, 3) := by decide +kernel
theorem dX8_restore_18 : decode cX8_restore 18 = .ok (.invokevirtual 216, 3) := by decide +kernel
theorem dX8_restore_21 : decode cX8_restore 21 = .ok (.iconst 1, 1) := by decide +kernel
theorem dX8_restore_22 : decode cX8_restore 22 = .ok (.ireturn, 1) := by decide +kernel
theorem dX8_found_0 : decode cX8_found 0 = .ok (.iload_n 1, 1) := by decide +kernel
theorem dX8_found_1 : decode cX8_found 1 = .ok (.invokestatic 219, 3) := by decide +kernel
theorem dX8_found_4 : decode cX8_found 4 = .ok (.ifCond .eq 21, 3) := by decide +kernel
theorem dX8_found_7 : decode cX8_found 7 = .ok (.iload_n 2, 1) := by decide +kernel
theorem dX8_found_8 : decode cX8_found 8 = .ok (.invokestatic 222, 3) := by decide +kernel
theorem dX8_found_11 : decode cX8_found 11 = .ok (.ifCond .eq 14, 3) := by decide +kernel
theorem dX8_found_14 : decode cX8_found 14 = .ok (.iload 4, 2) := by decide +kernel
theorem dX8_found_16 : decode cX8_found 16 = .ok (.iconst 1, 1) := by decide +kernel
theorem dX8_found_17 : decode cX8_found 17 = .ok (.bipush 6, 2) := by decide +kernel
theorem dX8_found_19 : decode cX8_found 19 = .ok (.invokestatic 105, 3) := by decide +kernel
theorem dX8_found_22 : decode cX8_found 22 = .ok (.ifCond .ne 6, 3) := by decide +kernel
theorem dX8_found_25 : decode cX8_found 25 = .ok (.ldc 65, 2) := by decide +kernel
theorem dX8_found_27 : decode cX8_found 27 = .ok (.ireturn, 1) := by decide +kernel
theorem dX8_found_28 : decode cX8_found 28 = .ok (.aload_n 0, 1) := by decide +kernel
theorem dX8_found_29 : decode cX8_found 29 = .ok (.getfield 60, 3) := by decide +kernel
theorem dX8_found_32 : decode cX8_found 32 = .ok (.iload_n 1, 1) := by decide +kernel
theorem dX8_found_33 : decode cX8_found 33 = .ok (.aaload, 1) := by decide +kernel
theorem dX8_found_34 : decode cX8_found 34 = .ok (.iload_n 2, 1) := by decide +kernel
theorem dX8_found_35 : decode cX8_found 35 = .ok (.iload_n 3, 1) := by decide +kernel
theorem dX8_found_36 : decode cX8_found 36 = .ok (.iload 4, 2) := by decide +kernel
theorem dX8_found_38 : decode cX8_found 38 = .ok (.invokevirtual 225, 3) := by decide +kernel
theorem dX8_found_41 : decode cX8_found 41 = .ok (.istore 5, 2) := by decide +kernel
theorem dX8_found_43 : decode cX8_found 43 = .ok (.iload 5, 2) := by decide +kernel
theorem dX8_found_45 : decode cX8_found 45 = .ok (.ifCond .eq 8, 3) := by decide +kernel
theorem dX8_found_48 : decode cX8_found 48 = .ok (.iload 5, 2) := by decide +kernel
theorem dX8_found_50 : decode cX8_found 50 = .ok (.goto 16, 3) := by decide +kernel
theorem dX8_found_53 : decode cX8_found 53 = .ok (.aload_n 0, 1) := by decide +kernel
theorem dX8_found_54 : decode cX8_found 54 = .ok (.aload_n 0, 1) := by decide +kernel
theorem dX8_found_55 : decode cX8_found 55 = .ok (.getfield 60, 3) := by decide +kernel
theorem dX8_found_58 : decode cX8_found 58 = .ok (.iload_n 1, 1) := by decide +kernel
theorem dX8_found_59 : decode cX8_found 59 = .ok (.aaload, 1) := by decide +kernel
theorem dX8_found_60 : decode cX8_found 60 = .ok (.iload_n 3, 1) := by decide +kernel
theorem dX8_found_61 : decode cX8_found 61 = .ok (.iload 4, 2) := by decide +kernel
theorem dX8_found_63 : decode cX8_found 63 = .ok (.invokevirtual 229, 3) := by decide +kernel
theorem dX8_found_66 : decode cX8_found 66 = .ok (.ireturn, 1) := by decide +kernel
theorem dX8_film_0 : decode cX8_film 0 = .ok (.iload_n 1, 1) := by decide +kernel
theorem dX8_film_1 : decode cX8_film 1 = .ok (.iconst 1, 1) := by decide +kernel
theorem dX8_film_2 : decode cX8_film 2 = .ok (.bipush 6, 2) := by decide +kernel
theorem dX8_film_4 : decode cX8_film 4 = .ok (.invokestatic 105, 3) := by decide +kernel
theorem dX8_film_7 : decode cX8_film 7 = .ok (.ifCond .eq 17, 3) := by decide +kernel
theorem dX8_film_10 : decode cX8_film 10 = .ok (.iload_n 2, 1) := by decide +kernel
theorem dX8_film_11 : decode cX8_film 11 = .ok (.invokestatic 219, 3) := by decide +kernel
theorem dX8_film_14 : decode cX8_film 14 = .ok (.ifCond .eq 10, 3) := by decide +kernel
theorem dX8_film_17 : decode cX8_film 17 = .ok (.iload_n 3, 1) := by decide +kernel
theorem dX8_film_18 : decode cX8_film 18 = .ok (.invokestatic 222, 3) := by decide +kernel
theorem dX8_film_21 : decode cX8_film 21 = .ok (.ifCond .ne 6, 3) := by decide +kernel
theorem dX8_film_24 : decode cX8_film 24 = .ok (.ldc 65, 2) := by decide +kernel
theorem dX8_film_26 : decode cX8_film 26 = .ok (.ireturn, 1) := by decide +kernel
theorem dX8_film_27 : decode cX8_film 27 = .ok (.aload_n 0, 1) := by decide +kernel
theorem dX8_film_28 : decode cX8_film 28 = .ok (.getfield 60, 3) := by decide +kernel
theorem dX8_film_31 : decode cX8_film 31 = .ok (.iload_n 2, 1) := by decide +kernel
theorem dX8_film_32 : decode cX8_film 32 = .ok (.aaload, 1) := by decide +kernel
theorem dX8_film_33 : decode cX8_film 33 = .ok (.iload_n 3, 1) := by decide +kernel
theorem dX8_film_34 : decode cX8_film 34 = .ok (.iload 4, 2) := by decide +kernel
theorem dX8_film_36 : decode cX8_film 36 = .ok (.iload_n 1, 1) := by decide +kernel
theorem dX8_film_37 : decode cX8_film 37 = .ok (.invokevirtual 225, 3) := by decide +kernel
theorem dX8_film_40 : decode cX8_film 40 = .ok (.istore 5, 2) := by decide +kernel
theorem dX8_film_42 : decode cX8_film 42 = .ok (.iload 5, 2) := by decide +kernel
theorem dX8_film_44 : decode cX8_film 44 = .ok (.ifCond .eq 6, 3) := by decide +kernel
theorem dX8_film_47 : decode cX8_film 47 = .ok (.iload 5, 2) := by decide +kernel
theorem dX8_film_49 : decode cX8_film 49 = .ok (.ireturn, 1) := by decide +kernel
theorem dX8_film_50 : decode cX8_film 50 = .ok (.iconst 0, 1) := by decide +kernel
theorem dX8_film_51 : decode cX8_film 51 = .ok (.istore 6, 2) := by decide +kernel
theorem dX8_film_53 : decode cX8_film 53 = .ok (.iload 6, 2) := by decide +kernel
theorem dX8_film_55 : decode cX8_film 55 = .ok (.iload_n 1, 1) := by decide +kernel
theorem dX8_film_56 : decode cX8_film 56 = .ok (.if_icmp .ge 47, 3) := by decide +kernel
theorem dX8_film_59 : decode cX8_film 59 = .ok (.aload_n 0, 1) := by decide +kernel
theorem dX8_film_60 : decode cX8_film 60 = .ok (.getfield 33, 3) := by decide +kernel
theorem dX8_film_63 : decode cX8_film 63 = .ok (.aload_n 0, 1) := by decide +kernel
theorem dX8_film_64 : decode cX8_film 64 = .ok (.getfield 10, 3) := by decide +kernel
theorem dX8_film_67 : decode cX8_film 67 = .ok (.getfield 82, 3) := by decide +kernel
theorem dX8_film_70 : decode cX8_film 70 = .ok (.iload 6, 2) := by decide +kernel
theorem dX8_film_72 : decode cX8_film 72 = .ok (.invokevirtual 174, 3) := by decide +kernel
theorem dX8_film_75 : decode cX8_film 75 = .ok (.aload_n 0, 1) := by decide +kernel
theorem dX8_film_76 : decode cX8_film 76 = .ok (.getfield 60, 3) := by decide +kernel
theorem dX8_film_79 : decode cX8_film 79 = .ok (.iload_n 2, 1) := by decide +kernel
theorem dX8_film_80 : decode cX8_film 80 = .ok (.aaload, 1) := by decide +kernel
theorem dX8_film_81 : decode cX8_film 81 = .ok (.iload 4, 2) := by decide +kernel
theorem dX8_film_83 : decode cX8_film 83 = .ok (.iload 6, 2) := by decide +kernel
theorem dX8_film_85 : decode cX8_film 85 = .ok (.iadd, 1) := by decide +kernel
theorem dX8_film_86 : decode cX8_film 86 = .ok (.aload_n 0, 1) := by decide +kernel
theorem dX8_film_87 : decode cX8_film 87 = .ok (.getfield 33, 3) := by decide +kernel
theorem dX8_film_90 : decode cX8_film 90 = .ok (.getfield 134, 3) := by decide +kernel
theorem dX8_film_93 : decode cX8_film 93 = .ok (.i2l, 1) := by decide +kernel
theorem dX8_film_94 : decode cX8_film 94 = .ok (.invokevirtual 233, 3) := by decide +kernel
theorem dX8_film_97 : decode cX8_film 97 = .ok (.iinc 6 1, 3) := by decide +kernel
theorem dX8_film_100 : decode cX8_film 100 = .ok (.goto (-47), 3) := by decide +kernel
theorem dX8_film_103 : decode cX8_film 103 = .ok (.iload_n 1, 1) := by decide +kernel
theorem dX8_film_104 : decode cX8_film 104 = .ok (.ireturn, 1) := by decide +kernel
theorem dX8_sheet_0 : decode cX8_sheet 0 = .ok (.iload_n 1, 1) := by decide +kernel
theorem dX8_sheet_1 : decode cX8_sheet 1 = .ok (.invokestatic 219, 3) := by decide +kernel
theorem dX8_sheet_4 : decode cX8_sheet 4 = .ok (.ifCond .eq 16, 3) := by decide +kernel
theorem dX8_sheet_7 : decode cX8_sheet 7 = .ok (.iload_n 2, 1) := by decide +kernel
theorem dX8_sheet_8 : decode cX8_sheet 8 = .ok (.invokestatic 222, 3) := by decide +kernel
theorem dX8_sheet_11 : decode cX8_sheet 11 = .ok (.ifCond .eq 9, 3) := by decide +kernel
theorem dX8_sheet_14 : decode cX8_sheet 14 = .ok (.iload_n 3, 1) := by decide +kernel
theorem dX8_sheet_15 : decode cX8_sheet 15 = .ok (.bipush 24, 2) := by decide +kernel
theorem dX8_sheet_17 : decode cX8_sheet 17 = .ok (.if_icmp .le 6, 3) := by decide +kernel
theorem dX8_sheet_20 : decode cX8_sheet 20 = .ok (.ldc 65, 2) := by decide +kernel
theorem dX8_sheet_22 : decode cX8_sheet 22 = .ok (.ireturn, 1) := by decide +kernel
theorem dX8_sheet_23 : decode cX8_sheet 23 = .ok (.iload_n 3, 1) := by decide +kernel
theorem dX8_sheet_24 : decode cX8_sheet 24 = .ok (.ifCond .ge 6, 3) := by decide +kernel
theorem dX8_sheet_27 : decode cX8_sheet 27 = .ok (.ldc 237, 2) := by decide +kernel
theorem dX8_sheet_29 : decode cX8_sheet 29 = .ok (.ireturn, 1) := by decide +kernel
theorem dX8_sheet_30 : decode cX8_sheet 30 = .ok (.aload_n 0, 1) := by decide +kernel
theorem dX8_sheet_31 : decode cX8_sheet 31 = .ok (.getfield 60, 3) := by decide +kernel
theorem dX8_sheet_34 : decode cX8_sheet 34 = .ok (.iload_n 1, 1) := by decide +kernel
theorem dX8_sheet_35 : decode cX8_sheet 35 = .ok (.aaload, 1) := by decide +kernel
theorem dX8_sheet_36 : decode cX8_sheet 36 = .ok (.iload_n 2, 1) := by decide +kernel
theorem dX8_sheet_37 : decode cX8_sheet 37 = .ok (.iload_n 3, 1) := by decide +kernel
theorem dX8_sheet_38 : decode cX8_sheet 38 = .ok (.invokevirtual 238, 3) := by decide +kernel
theorem dX8_sheet_41 : decode cX8_sheet 41 = .ok (.iload_n 3, 1) := by decide +kernel
theorem dX8_sheet_42 : decode cX8_sheet 42 = .ok (.ireturn, 1) := by decide +kernel
theorem dX8_drop_0 : decode cX8_drop 0 = .ok (.iload_n 1, 1) := by decide +kernel
theorem dX8_drop_1 : decode cX8_drop 1 = .ok (.invokestatic 219, 3) := by decide +kernel
theorem dX8_drop_4 : decode cX8_drop 4 = .ok (.ifCond .ne 6, 3) := by decide +kernel
theorem dX8_drop_7 : decode cX8_drop 7 = .ok (.ldc 65, 2) := by decide +kernel
theorem dX8_drop_9 : decode cX8_drop 9 = .ok (.ireturn, 1) := by decide +kernel
theorem dX8_drop_10 : decode cX8_drop 10 = .ok (.aload_n 0, 1) := by decide +kernel
theorem dX8_drop_11 : decode cX8_drop 11 = .ok (.getfield 60, 3) := by decide +kernel
theorem dX8_drop_14 : decode cX8_drop 14 = .ok (.iload_n 1, 1) := by decide +kernel
theorem dX8_drop_15 : decode cX8_drop 15 = .ok (.aaload, 1) := by decide +kernel
theorem dX8_drop_16 : decode cX8_drop 16 = .ok (.getfield 242, 3) := by decide +kernel
theorem dX8_drop_19 : decode cX8_drop 19 = .ok (.ifCond .ne 6, 3) := by decide +kernel
theorem dX8_drop_22 : decode cX8_drop 22 = .ok (.ldc 245, 2) := by decide +kernel
theorem dX8_drop_24 : decode cX8_drop 24 = .ok (.ireturn, 1) := by decide +kernel
theorem dX8_drop_25 : decode cX8_drop 25 = .ok (.aload_n 0, 1) := by decide +kernel
theorem dX8_drop_26 : decode cX8_drop 26 = .ok (.getfield 60, 3) := by decide +kernel
theorem dX8_drop_29 : decode cX8_drop 29 = .ok (.iload_n 1, 1) := by decide +kernel
theorem dX8_drop_30 : decode cX8_drop 30 = .ok (.aaload, 1) := by decide +kernel
theorem dX8_drop_31 : decode cX8_drop 31 = .ok (.iconst 0, 1) := by decide +kernel
theorem dX8_drop_32 : decode cX8_drop 32 = .ok (.putfield 242, 3) := by decide +kernel
theorem dX8_drop_35 : decode cX8_drop 35 = .ok (.aload_n 0, 1) := by decide +kernel
theorem dX8_drop_36 : decode cX8_drop 36 = .ok (.getfield 60, 3) := by decide +kernel
theorem dX8_drop_39 : decode cX8_drop 39 = .ok (.iload_n 1, 1) := by decide +kernel
theorem dX8_drop_40 : decode cX8_drop 40 = .ok (.aaload, 1) := by decide +kernel
theorem dX8_drop_41 : decode cX8_drop 41 = .ok (.getfield 246, 3) := by decide +kernel
theorem dX8_drop_44 : decode cX8_drop 44 = .ok (.ireturn, 1) := by decide +kernel
theorem dX8_item_0 : decode cX8_item 0 = .ok (.iload_n 1, 1) := by decide +kernel
theorem dX8_item_1 : decode cX8_item 1 = .ok (.invokestatic 219, 3) := by decide +kernel
theorem dX8_item_4 : decode cX8_item 4 = .ok (.ifCond .eq 10, 3) := by decide +kernel
theorem dX8_item_7 : decode cX8_item 7 = .ok (.iload_n 2, 1) := by decide +kernel
theorem dX8_item_8 : decode cX8_item 8 = .ok (.invokestatic 222, 3) := by decide +kernel
theorem dX8_item_11 : decode cX8_item 11 = .ok (.ifCond .ne 6, 3) := by decide +kernel
theorem dX8_item_14 : decode cX8_item 14 = .ok (.ldc 65, 2) := by decide +kernel
theorem dX8_item_16 : decode cX8_item 16 = .ok (.ireturn, 1) := by decide +kernel
theorem dX8_item_17 : decode cX8_item 17 = .ok (.aload_n 0, 1) := by decide +kernel
theorem dX8_item_18 : decode cX8_item 18 = .ok (.getfield 60, 3) := by decide +kernel
theorem dX8_item_21 : decode cX8_item 21 = .ok (.iload_n 1, 1) := by decide +kernel
theorem dX8_item_22 : decode cX8_item 22 = .ok (.aaload, 1) := by decide +kernel
theorem dX8_item_23 : decode cX8_item 23 = .ok (.iload_n 2, 1) := by decide +kernel
theorem dX8_item_24 : decode cX8_item 24 = .ok (.iload_n 3, 1) := by decide +kernel
theorem dX8_item_25 : decode cX8_item 25 = .ok (.iconst 1, 1) := by decide +kernel
theorem dX8_item_26 : decode cX8_item 26 = .ok (.invokevirtual 225, 3) := by decide +kernel
theorem dX8_item_29 : decode cX8_item 29 = .ok (.istore 6, 2) := by decide +kernel
theorem dX8_item_31 : decode cX8_item 31 = .ok (.iload 6, 2) := by decide +kernel
theorem dX8_item_33 : decode cX8_item 33 = .ok (.ifCond .eq 6, 3) := by decide +kernel
theorem dX8_item_36 : decode cX8_item 36 = .ok (.iload 6, 2) := by decide +kernel
theorem dX8_item_38 : decode cX8_item 38 = .ok (.ireturn, 1) := by decide +kernel
theorem dX8_item_39 : decode cX8_item 39 = .ok (.aload_n 0, 1) := by decide +kernel
theorem dX8_item_40 : decode cX8_item 40 = .ok (.getfield 60, 3) := by decide +kernel
theorem dX8_item_43 : decode cX8_item 43 = .ok (.iload_n 1, 1) := by decide +kernel
theorem dX8_item_44 : decode cX8_item 44 = .ok (.aaload, 1) := by decide +kernel
theorem dX8_item_45 : decode cX8_item 45 = .ok (.iload_n 3, 1) := by decide +kernel
theorem dX8_item_46 : decode cX8_item 46 = .ok (.lload 4, 2) := by decide +kernel
theorem dX8_item_48 : decode cX8_item 48 = .ok (.invokevirtual 233, 3) := by decide +kernel
theorem dX8_item_51 : decode cX8_item 51 = .ok (.iconst 1, 1) := by decide +kernel
theorem dX8_item_52 : decode cX8_item 52 = .ok (.ireturn, 1) := by decide +kernel
theorem dX8_copy_0 : decode cX8_copy 0 = .ok (.iload_n 1, 1) := by decide +kernel
theorem dX8_copy_1 : decode cX8_copy 1 = .ok (.invokestatic 219, 3) := by decide +kernel
theorem dX8_copy_4 : decode cX8_copy 4 = .ok (.ifCond .eq 10, 3) := by decide +kernel
theorem dX8_copy_7 : decode cX8_copy 7 = .ok (.iload_n 3, 1) := by decide +kernel
theorem dX8_copy_8 : decode cX8_copy 8 = .ok (.invokestatic 219, 3) := by decide +kernel
theorem dX8_copy_11 : decode cX8_copy 11 = .ok (.ifCond .ne 6, 3) := by decide +kernel
theorem dX8_copy_14 : decode cX8_copy 14 = .ok (.ldc 65, 2) := by decide +kernel
theorem dX8_copy_16 : decode cX8_copy 16 = .ok (.ireturn, 1) := by decide +kernel
theorem dX8_copy_17 : decode cX8_copy 17 = .ok (.aload_n 0, 1) := by decide +kernel
theorem dX8_copy_18 : decode cX8_copy 18 = .ok (.getfield 60, 3) := by decide +kernel
theorem dX8_copy_21 : decode cX8_copy 21 = .ok (.iload_n 1, 1) := by decide +kernel
theorem dX8_copy_22 : decode cX8_copy 22 = .ok (.aaload, 1) := by decide +kernel
theorem dX8_copy_23 : decode cX8_copy 23 = .ok (.astore 6, 2) := by decide +kernel
theorem dX8_copy_25 : decode cX8_copy 25 = .ok (.aload_n 0, 1) := by decide +kernel
theorem dX8_copy_26 : decode cX8_copy 26 = .ok (.getfield 60, 3) := by decide +kernel
theorem dX8_copy_29 : decode cX8_copy 29 = .ok (.iload_n 3, 1) := by decide +kernel
theorem dX8_copy_30 : decode cX8_copy 30 = .ok (.aaload, 1) := by decide +kernel
theorem dX8_copy_31 : decode cX8_copy 31 = .ok (.astore 7, 2) := by decide +kernel
theorem dX8_copy_33 : decode cX8_copy 33 = .ok (.aload 6, 2) := by decide +kernel
theorem dX8_copy_35 : decode cX8_copy 35 = .ok (.getfield 242, 3) := by decide +kernel
theorem dX8_copy_38 : decode cX8_copy 38 = .ok (.ifCond .eq 11, 3) := by decide +kernel
theorem dX8_copy_41 : decode cX8_copy 41 = .ok (.aload 7, 2) := by decide +kernel
theorem dX8_copy_43 : decode cX8_copy 43 = .ok (.getfield 242, 3) := by decide +kernel
theorem dX8_copy_46 : decode cX8_copy 46 = .ok (.ifCond .ne 6, 3) := by decide +kernel
theorem dX8_copy_49 : decode cX8_copy 49 = .ok (.ldc 245, 2) := by decide +kernel
theorem dX8_copy_51 : decode cX8_copy 51 = .ok (.ireturn, 1) := by decide +kernel
theorem dX8_copy_52 : decode cX8_copy 52 = .ok (.aload 6, 2) := by decide +kernel
theorem dX8_copy_54 : decode cX8_copy 54 = .ok (.getfield 247, 3) := by decide +kernel
theorem dX8_copy_57 : decode cX8_copy 57 = .ok (.aload 7, 2) := by decide +kernel
theorem dX8_copy_59 : decode cX8_copy 59 = .ok (.getfield 247, 3) := by decide +kernel
theorem dX8_copy_62 : decode cX8_copy 62 = .ok (.if_icmp .eq 6, 3) := by decide +kernel
theorem dX8_copy_65 : decode cX8_copy 65 = .ok (.ldc 250, 2) := by decide +kernel
theorem dX8_copy_67 : decode cX8_copy 67 = .ok (.ireturn, 1) := by decide +kernel
theorem dX8_copy_68 : decode cX8_copy 68 = .ok (.aload 6, 2) := by decide +kernel
theorem dX8_copy_70 : decode cX8_copy 70 = .ok (.iload_n 2, 1) := by decide +kernel
theorem dX8_copy_71 : decode cX8_copy 71 = .ok (.iload 5, 2) := by decide +kernel
theorem dX8_copy_73 : decode cX8_copy 73 = .ok (.invokevirtual 251, 3) := by decide +kernel
theorem dX8_copy_76 : decode cX8_copy 76 = .ok (.ifCond .eq 15, 3) := by decide +kernel
theorem dX8_copy_79 : decode cX8_copy 79 = .ok (.aload 7, 2) := by decide +kernel
theorem dX8_copy_81 : decode cX8_copy 81 = .ok (.iload 4, 2) := by decide +kernel
theorem dX8_copy_83 : decode cX8_copy 83 = .ok (.iload 5, 2) := by decide +kernel
theorem dX8_copy_85 : decode cX8_copy 85 = .ok (.invokevirtual 251, 3) := by decide +kernel
theorem dX8_copy_88 : decode cX8_copy 88 = .ok (.ifCond .ne 6, 3) := by decide +kernel
theorem dX8_copy_91 : decode cX8_copy 91 = .ok (.ldc 254, 2) := by decide +kernel
theorem dX8_copy_93 : decode cX8_copy 93 = .ok (.ireturn, 1) := by decide +kernel
theorem dX8_copy_94 : decode cX8_copy 94 = .ok (.aload 6, 2) := by decide +kernel
theorem dX8_copy_96 : decode cX8_copy 96 = .ok (.getfield 255, 3) := by decide +kernel
theorem dX8_copy_99 : decode cX8_copy 99 = .ok (.iload_n 2, 1) := by decide +kernel
theorem dX8_copy_100 : decode cX8_copy 100 = .ok (.aload 7, 2) := by decide +kernel
theorem dX8_copy_102 : decode cX8_copy 102 = .ok (.getfield 255, 3) := by decide +kernel
theorem dX8_copy_105 : decode cX8_copy 105 = .ok (.iload 4, 2) := by decide +kernel
theorem dX8_copy_107 : decode cX8_copy 107 = .ok (.iload 5, 2) := by decide +kernel
theorem dX8_copy_109 : decode cX8_copy 109 = .ok (.invokestatic 259, 3) := by decide +kernel
theorem dX8_copy_112 : decode cX8_copy 112 = .ok (.iload 5, 2) := by decide +kernel
theorem dX8_copy_114 : decode cX8_copy 114 = .ok (.ireturn, 1) := by decide +kernel
theorem dX8_allCosts_0 : decode cX8_allCosts 0 = .ok (.iconst 0, 1) := by decide +kernel
theorem dX8_allCosts_1 : decode cX8_allCosts 1 = .ok (.istore_n 1, 1) := by decide +kernel
theorem dX8_allCosts_2 : decode cX8_allCosts 2 = .ok (.iconst 0, 1) := by decide +kernel
theorem dX8_allCosts_3 : decode cX8_allCosts 3 = .ok (.istore_n 2, 1) := by decide +kernel
theorem dX8_allCosts_4 : decode cX8_allCosts 4 = .ok (.iload_n 2, 1) := by decide +kernel
theorem dX8_allCosts_5 : decode cX8_allCosts 5 = .ok (.bipush 6, 2) := by decide +kernel
theorem dX8_allCosts_7 : decode cX8_allCosts 7 = .ok (.if_icmp .ge 34, 3) := by decide +kernel
theorem dX8_allCosts_10 : decode cX8_allCosts 10 = .ok (.aload_n 0, 1) := by decide +kernel
theorem dX8_allCosts_11 : decode cX8_allCosts 11 = .ok (.getfield 33, 3) := by decide +kernel
theorem dX8_allCosts_14 : decode cX8_allCosts 14 = .ok (.aload_n 0, 1) := by decide +kernel
theorem dX8_allCosts_15 : decode cX8_allCosts 15 = .ok (.getfield 10, 3) := by decide +kernel
theorem dX8_allCosts_18 : decode cX8_allCosts 18 = .ok (.getfield 82, 3) := by decide +kernel
theorem dX8_allCosts_21 : decode cX8_allCosts 21 = .ok (.iload_n 2, 1) := by decide +kernel
theorem dX8_allCosts_22 : decode cX8_allCosts 22 = .ok (.invokevirtual 174, 3) := by decide +kernel
theorem dX8_allCosts_25 : decode cX8_allCosts 25 = .ok (.iload_n 1, 1) := by decide +kernel
theorem dX8_allCosts_26 : decode cX8_allCosts 26 = .ok (.aload_n 0, 1) := by decide +kernel
theorem dX8_allCosts_27 : decode cX8_allCosts 27 = .ok (.getfield 33, 3) := by decide +kernel
theorem dX8_allCosts_30 : decode cX8_allCosts 30 = .ok (.getfield 137, 3) := by decide +kernel
theorem dX8_allCosts_33 : decode cX8_allCosts 33 = .ok (.iadd, 1) := by decide +kernel
theorem dX8_allCosts_34 : decode cX8_allCosts 34 = .ok (.istore_n 1, 1) := by decide +kernel
theorem dX8_allCosts_35 : decode cX8_allCosts 35 = .ok (.iinc 2 1, 3) := by decide +kernel
theorem dX8_allCosts_38 : decode cX8_allCosts 38 = .ok (.goto (-34), 3) := by decide +kernel
theorem dX8_allCosts_41 : decode cX8_allCosts 41 = .ok (.iload_n 1, 1) := by decide +kernel
theorem dX8_allCosts_42 : decode cX8_allCosts 42 = .ok (.ireturn, 1) := by decide +kernel
theorem dX8_blocksNotQuick_0 : decode cX8_blocksNotQuick 0 = .ok (.iconst 0, 1) := by decide +kernel
theorem dX8_blocksNotQuick_1 : decode cX8_blocksNotQuick 1 = .ok (.istore_n 1, 1) := by decide +kernel
theorem dX8_blocksNotQuick_2 : decode cX8_blocksNotQuick 2 = .ok (.iconst 0, 1) := by decide +kernel
theorem dX8_blocksNotQuick_3 : decode cX8_blocksNotQuick 3 = .ok (.istore_n 2, 1) := by decide +kernel
theorem dX8_blocksNotQuick_4 : decode cX8_blocksNotQuick 4 = .ok (.iload_n 2, 1) := by decide +kernel
theorem dX8_blocksNotQuick_5 : decode cX8_blocksNotQuick 5 = .ok (.bipush 6, 2) := by decide +kernel
theorem dX8_blocksNotQuick_7 : decode cX8_blocksNotQuick 7 = .ok (.if_icmp .ge 64, 3) := by decide +kernel
theorem dX8_blocksNotQuick_10 : decode cX8_blocksNotQuick 10 = .ok (.aload_n 0, 1) := by decide +kernel
theorem dX8_blocksNotQuick_11 : decode cX8_blocksNotQuick 11 = .ok (.getfield 33, 3) := by decide +kernel
theorem dX8_blocksNotQuick_14 : decode cX8_blocksNotQuick 14 = .ok (.aload_n 0, 1) := by decide +kernel
theorem dX8_blocksNotQuick_15 : decode cX8_blocksNotQuick 15 = .ok (.getfield 10, 3) := by decide +kernel
theorem dX8_blocksNotQuick_18 : decode cX8_blocksNotQuick 18 = .ok (.getfield 82, 3) := by decide +kernel
theorem dX8_blocksNotQuick_21 : decode cX8_blocksNotQuick 21 = .ok (.iload_n 2, 1) := by decide +kernel
theorem dX8_blocksNotQuick_22 : decode cX8_blocksNotQuick 22 = .ok (.invokevirtual 174, 3) := by decide +kernel
theorem dX8_blocksNotQuick_25 : decode cX8_blocksNotQuick 25 = .ok (.aload_n 0, 1) := by decide +kernel
theorem dX8_blocksNotQuick_26 : decode cX8_blocksNotQuick 26 = .ok (.getfield 33, 3) := by decide +kernel
theorem dX8_blocksNotQuick_29 : decode cX8_blocksNotQuick 29 = .ok (.getfield 134, 3) := by decide +kernel
theorem dX8_blocksNotQuick_32 : decode cX8_blocksNotQuick 32 = .ok (.istore_n 3, 1) := by decide +kernel
theorem dX8_blocksNotQuick_33 : decode cX8_blocksNotQuick 33 = .ok (.aload_n 0, 1) := by decide +kernel
theorem dX8_blocksNotQuick_34 : decode cX8_blocksNotQuick 34 = .ok (.getfield 33, 3) := by decide +kernel
theorem dX8_blocksNotQuick_37 : decode cX8_blocksNotQuick 37 = .ok (.aload_n 0, 1) := by decide +kernel
theorem dX8_blocksNotQuick_38 : decode cX8_blocksNotQuick 38 = .ok (.getfield 10, 3) := by decide +kernel
theorem dX8_blocksNotQuick_41 : decode cX8_blocksNotQuick 41 = .ok (.getfield 82, 3) := by decide +kernel
theorem dX8_blocksNotQuick_44 : decode cX8_blocksNotQuick 44 = .ok (.iload_n 2, 1) := by decide +kernel
theorem dX8_blocksNotQuick_45 : decode cX8_blocksNotQuick 45 = .ok (.invokevirtual 186, 3) := by decide +kernel
theorem dX8_blocksNotQuick_48 : decode cX8_blocksNotQuick 48 = .ok (.aload_n 0, 1) := by decide +kernel
theorem dX8_blocksNotQuick_49 : decode cX8_blocksNotQuick 49 = .ok (.getfield 33, 3) := by decide +kernel
theorem dX8_blocksNotQuick_52 : decode cX8_blocksNotQuick 52 = .ok (.getfield 134, 3) := by decide +kernel
theorem dX8_blocksNotQuick_55 : decode cX8_blocksNotQuick 55 = .ok (.iload_n 3, 1) := by decide +kernel
theorem dX8_blocksNotQuick_56 : decode cX8_blocksNotQuick 56 = .ok (.if_icmp .eq 9, 3) := by decide +kernel
theorem dX8_blocksNotQuick_59 : decode cX8_blocksNotQuick 59 = .ok (.iload_n 1, 1) := by decide +kernel
theorem dX8_blocksNotQuick_60 : decode cX8_blocksNotQuick 60 = .ok (.iconst 1, 1) := by decide +kernel
theorem dX8_blocksNotQuick_61 : decode cX8_blocksNotQuick 61 = .ok (.iload_n 2, 1) := by decide +kernel
theorem dX8_blocksNotQuick_62 : decode cX8_blocksNotQuick 62 = .ok (.ishl, 1) := by decide +kernel
theorem dX8_blocksNotQuick_63 : decode cX8_blocksNotQuick 63 = .ok (.ior, 1) := by decide +kernel
theorem dX8_blocksNotQuick_64 : decode cX8_blocksNotQuick 64 = .ok (.istore_n 1, 1) := by decide +kernel
theorem dX8_blocksNotQuick_65 : decode cX8_blocksNotQuick 65 = .ok (.iinc 2 1, 3) := by decide +kernel
theorem dX8_blocksNotQuick_68 : decode cX8_blocksNotQuick 68 = .ok (.goto (-64), 3) := by decide +kernel
theorem dX8_blocksNotQuick_71 : decode cX8_blocksNotQuick 71 = .ok (.iload_n 1, 1) := by decide +kernel
theorem dX8_blocksNotQuick_72 : decode cX8_blocksNotQuick 72 = .ok (.ireturn, 1) := by decide +kernel
theorem dX8_searched_0 : decode cX8_searched 0 = .ok (.iload_n 2, 1) := by decide +kernel
theorem dX8_searched_1 : decode cX8_searched 1 = .ok (.iconst 3, 1) := by decide +kernel
theorem dX8_searched_2 : decode cX8_searched 2 = .ok (.if_icmp .lt 41, 3) := by decide +kernel
theorem dX8_searched_5 : decode cX8_searched 5 = .ok (.aload_n 0, 1) := by decide +kernel
theorem dX8_searched_6 : decode cX8_searched 6 = .ok (.getfield 33, 3) := by decide +kernel
theorem dX8_searched_9 : decode cX8_searched 9 = .ok (.aload_n 0, 1) := by decide +kernel
theorem dX8_searched_10 : decode cX8_searched 10 = .ok (.getfield 10, 3) := by decide +kernel
theorem dX8_searched_13 : decode cX8_searched 13 = .ok (.getfield 82, 3) := by decide +kernel
theorem dX8_searched_16 : decode cX8_searched 16 = .ok (.iload_n 1, 1) := by decide +kernel
theorem dX8_searched_17 : decode cX8_searched 17 = .ok (.invokevirtual 265, 3) := by decide +kernel
theorem dX8_searched_20 : decode cX8_searched 20 = .ok (.iload_n 2, 1) := by decide +kernel
theorem dX8_searched_21 : decode cX8_searched 21 = .ok (.iconst 3, 1) := by decide +kernel
theorem dX8_searched_22 : decode cX8_searched 22 = .ok (.if_icmp .ne 13, 3) := by decide +kernel
theorem dX8_searched_25 : decode cX8_searched 25 = .ok (.aload_n 0, 1) := by decide +kernel
theorem dX8_searched_26 : decode cX8_searched 26 = .ok (.getfield 33, 3) := by decide +kernel
theorem dX8_searched_29 : decode cX8_searched 29 = .ok (.getfield 268, 3) := by decide +kernel
theorem dX8_searched_32 : decode cX8_searched 32 = .ok (.goto 10, 3) := by decide +kernel
theorem dX8_searched_35 : decode cX8_searched 35 = .ok (.aload_n 0, 1) := by decide +kernel
theorem dX8_searched_36 : decode cX8_searched 36 = .ok (.getfield 33, 3) := by decide +kernel
theorem dX8_searched_39 : decode cX8_searched 39 = .ok (.getfield 271, 3) := by decide +kernel
theorem dX8_searched_42 : decode cX8_searched 42 = .ok (.ireturn, 1) := by decide +kernel
theorem dX8_searched_43 : decode cX8_searched 43 = .ok (.aload_n 0, 1) := by decide +kernel
theorem dX8_searched_44 : decode cX8_searched 44 = .ok (.getfield 33, 3) := by decide +kernel
theorem dX8_searched_47 : decode cX8_searched 47 = .ok (.aload_n 0, 1) := by decide +kernel
theorem dX8_searched_48 : decode cX8_searched 48 = .ok (.getfield 10, 3) := by decide +kernel
theorem dX8_searched_51 : decode cX8_searched 51 = .ok (.getfield 82, 3) := by decide +kernel
theorem dX8_searched_54 : decode cX8_searched 54 = .ok (.iload_n 1, 1) := by decide +kernel
theorem dX8_searched_55 : decode cX8_searched 55 = .ok (.invokevirtual 174, 3) := by decide +kernel
theorem dX8_searched_58 : decode cX8_searched 58 = .ok (.iload_n 2, 1) := by decide +kernel
theorem dX8_searched_59 : decode cX8_searched 59 = .ok (.iconst 2, 1) := by decide +kernel
theorem dX8_searched_60 : decode cX8_searched 60 = .ok (.if_icmp .ne 11, 3) := by decide +kernel
theorem dX8_searched_63 : decode cX8_searched 63 = .ok (.aload_n 0, 1) := by decide +kernel
theorem dX8_searched_64 : decode cX8_searched 64 = .ok (.getfield 33, 3) := by decide +kernel
theorem dX8_searched_67 : decode cX8_searched 67 = .ok (.getfield 271, 3) := by decide +kernel
theorem dX8_searched_70 : decode cX8_searched 70 = .ok (.ireturn, 1) := by decide +kernel
theorem dX8_searched_71 : decode cX8_searched 71 = .ok (.iload_n 2, 1) := by decide +kernel
theorem dX8_searched_72 : decode cX8_searched 72 = .ok (.ifCond .ne 13, 3) := by decide +kernel
theorem dX8_searched_75 : decode cX8_searched 75 = .ok (.aload_n 0, 1) := by decide +kernel
theorem dX8_searched_76 : decode cX8_searched 76 = .ok (.getfield 33, 3) := by decide +kernel
theorem dX8_searched_79 : decode cX8_searched 79 = .ok (.getfield 134, 3) := by decide +kernel
theorem dX8_searched_82 : decode cX8_searched 82 = .ok (.goto 10, 3) := by decide +kernel
theorem dX8_searched_85 : decode cX8_searched 85 = .ok (.aload_n 0, 1) := by decide +kernel
theorem dX8_searched_86 : decode cX8_searched 86 = .ok (.getfield 33, 3) := by decide +kernel
theorem dX8_searched_89 : decode cX8_searched 89 = .ok (.getfield 137, 3) := by decide +kernel
theorem dX8_searched_92 : decode cX8_searched 92 = .ok (.ireturn, 1) := by decide +kernel
theorem dX8_oddsAbove_0 : decode cX8_oddsAbove 0 = .ok (.aload_n 0, 1) := by decide +kernel
theorem dX8_oddsAbove_1 : decode cX8_oddsAbove 1 = .ok (.getfield 33, 3) := by decide +kernel
theorem dX8_oddsAbove_4 : decode cX8_oddsAbove 4 = .ok (.aload_n 0, 1) := by decide +kernel
theorem dX8_oddsAbove_5 : decode cX8_oddsAbove 5 = .ok (.getfield 10, 3) := by decide +kernel
theorem dX8_oddsAbove_8 : decode cX8_oddsAbove 8 = .ok (.getfield 82, 3) := by decide +kernel
theorem dX8_oddsAbove_11 : decode cX8_oddsAbove 11 = .ok (.iconst 0, 1) := by decide +kernel
theorem dX8_oddsAbove_12 : decode cX8_oddsAbove 12 = .ok (.invokevirtual 174, 3) := by decide +kernel
theorem dX8_oddsAbove_15 : decode cX8_oddsAbove 15 = .ok (.aload_n 0, 1) := by decide +kernel
theorem dX8_oddsAbove_16 : decode cX8_oddsAbove 16 = .ok (.getfield 33, 3) := by decide +kernel
theorem dX8_oddsAbove_19 : decode cX8_oddsAbove 19 = .ok (.getfield 134, 3) := by decide +kernel
theorem dX8_oddsAbove_22 : decode cX8_oddsAbove 22 = .ok (.istore_n 3, 1) := by decide +kernel
theorem dX8_oddsAbove_23 : decode cX8_oddsAbove 23 = .ok (.iconst 0, 1) := by decide +kernel
theorem dX8_oddsAbove_24 : decode cX8_oddsAbove 24 = .ok (.istore 4, 2) := by decide +kernel
theorem dX8_oddsAbove_26 : decode cX8_oddsAbove 26 = .ok (.iconst 0, 1) := by decide +kernel
theorem dX8_oddsAbove_27 : decode cX8_oddsAbove 27 = .ok (.istore 5, 2) := by decide +kernel
theorem dX8_oddsAbove_29 : decode cX8_oddsAbove 29 = .ok (.iload 5, 2) := by decide +kernel
theorem dX8_oddsAbove_31 : decode cX8_oddsAbove 31 = .ok (.iconst 1, 1) := by decide +kernel
theorem dX8_oddsAbove_32 : decode cX8_oddsAbove 32 = .ok (.iload_n 1, 1) := by decide +kernel
theorem dX8_oddsAbove_33 : decode cX8_oddsAbove 33 = .ok (.ishl, 1) := by decide +kernel
theorem dX8_oddsAbove_34 : decode cX8_oddsAbove 34 = .ok (.if_icmp .ge 141, 3) := by decide +kernel
theorem dX8_oddsAbove_37 : decode cX8_oddsAbove 37 = .ok (.aload_n 0, 1) := by decide +kernel
theorem dX8_oddsAbove_38 : decode cX8_oddsAbove 38 = .ok (.getfield 54, 3) := by decide +kernel
theorem dX8_oddsAbove_41 : decode cX8_oddsAbove 41 = .ok (.aload_n 0, 1) := by decide +kernel
theorem dX8_oddsAbove_42 : decode cX8_oddsAbove 42 = .ok (.getfield 10, 3) := by decide +kernel
theorem dX8_oddsAbove_45 : decode cX8_oddsAbove 45 = .ok (.getfield 82, 3) := by decide +kernel
theorem dX8_oddsAbove_48 : decode cX8_oddsAbove 48 = .ok (.invokevirtual 274, 3) := by decide +kernel
theorem dX8_oddsAbove_51 : decode cX8_oddsAbove 51 = .ok (.iconst 1, 1) := by decide +kernel
theorem dX8_oddsAbove_52 : decode cX8_oddsAbove 52 = .ok (.istore 6, 2) := by decide +kernel
theorem dX8_oddsAbove_54 : decode cX8_oddsAbove 54 = .ok (.iconst 0, 1) := by decide +kernel
theorem dX8_oddsAbove_55 : decode cX8_oddsAbove 55 = .ok (.istore 7, 2) := by decide +kernel
theorem dX8_oddsAbove_57 : decode cX8_oddsAbove 57 = .ok (.iload 7, 2) := by decide +kernel
theorem dX8_oddsAbove_59 : decode cX8_oddsAbove 59 = .ok (.iload_n 1, 1) := by decide +kernel
theorem dX8_oddsAbove_60 : decode cX8_oddsAbove 60 = .ok (.if_icmp .ge 79, 3) := by decide +kernel
theorem dX8_oddsAbove_63 : decode cX8_oddsAbove 63 = .ok (.iload 5, 2) := by decide +kernel
theorem dX8_oddsAbove_65 : decode cX8_oddsAbove 65 = .ok (.iload 7, 2) := by decide +kernel
theorem dX8_oddsAbove_67 : decode cX8_oddsAbove 67 = .ok (.ishr, 1) := by decide +kernel
theorem dX8_oddsAbove_68 : decode cX8_oddsAbove 68 = .ok (.iconst 1, 1) := by decide +kernel
theorem dX8_oddsAbove_69 : decode cX8_oddsAbove 69 = .ok (.iand, 1) := by decide +kernel
theorem dX8_oddsAbove_70 : decode cX8_oddsAbove 70 = .ok (.iconst 1, 1) := by decide +kernel
theorem dX8_oddsAbove_71 : decode cX8_oddsAbove 71 = .ok (.if_icmp .ne 7, 3) := by decide +kernel
theorem dX8_oddsAbove_74 : decode cX8_oddsAbove 74 = .ok (.iconst 1, 1) := by decide +kernel
theorem dX8_oddsAbove_75 : decode cX8_oddsAbove 75 = .ok (.goto 4, 3) := by decide +kernel
theorem dX8_oddsAbove_78 : decode cX8_oddsAbove 78 = .ok (.iconst 0, 1) := by decide +kernel
theorem dX8_oddsAbove_79 : decode cX8_oddsAbove 79 = .ok (.istore 8, 2) := by decide +kernel
theorem dX8_oddsAbove_81 : decode cX8_oddsAbove 81 = .ok (.iload 6, 2) := by decide +kernel
theorem dX8_oddsAbove_83 : decode cX8_oddsAbove 83 = .ok (.iload 8, 2) := by decide +kernel
theorem dX8_oddsAbove_85 : decode cX8_oddsAbove 85 = .ok (.ifCond .eq 7, 3) := by decide +kernel
theorem dX8_oddsAbove_88 : decode cX8_oddsAbove 88 = .ok (.iload_n 2, 1) := by decide +kernel
theorem dX8_oddsAbove_89 : decode cX8_oddsAbove 89 = .ok (.goto 7, 3) := by decide +kernel
theorem dX8_oddsAbove_92 : decode cX8_oddsAbove 92 = .ok (.bipush 10, 2) := by decide +kernel
theorem dX8_oddsAbove_94 : decode cX8_oddsAbove 94 = .ok (.iload_n 2, 1) := by decide +kernel
theorem dX8_oddsAbove_95 : decode cX8_oddsAbove 95 = .ok (.isub, 1) := by decide +kernel
theorem dX8_oddsAbove_96 : decode cX8_oddsAbove 96 = .ok (.imul, 1) := by decide +kernel
theorem dX8_oddsAbove_97 : decode cX8_oddsAbove 97 = .ok (.istore 6, 2) := by decide +kernel
theorem dX8_oddsAbove_99 : decode cX8_oddsAbove 99 = .ok (.iload 8, 2) := by decide +kernel
theorem dX8_oddsAbove_101 : decode cX8_oddsAbove 101 = .ok (.ifCond .eq 32, 3) := by decide +kernel
theorem dX8_oddsAbove_104 : decode cX8_oddsAbove 104 = .ok (.aload_n 0, 1) := by decide +kernel
theorem dX8_oddsAbove_105 : decode cX8_oddsAbove 105 = .ok (.getfield 54, 3) := by decide +kernel
theorem dX8_oddsAbove_108 : decode cX8_oddsAbove 108 = .ok (.getfield 99, 3) := by decide +kernel
theorem dX8_oddsAbove_111 : decode cX8_oddsAbove 111 = .ok (.getfield 151, 3) := by decide +kernel
theorem dX8_oddsAbove_114 : decode cX8_oddsAbove 114 = .ok (.iload 7, 2) := by decide +kernel
theorem dX8_oddsAbove_116 : decode cX8_oddsAbove 116 = .ok (.bipush 9, 2) := by decide +kernel
theorem dX8_oddsAbove_118 : decode cX8_oddsAbove 118 = .ok (.aload_n 0, 1) := by decide +kernel
theorem dX8_oddsAbove_119 : decode cX8_oddsAbove 119 = .ok (.getfield 54, 3) := by decide +kernel
theorem dX8_oddsAbove_122 : decode cX8_oddsAbove 122 = .ok (.getfield 99, 3) := by decide +kernel
theorem dX8_oddsAbove_125 : decode cX8_oddsAbove 125 = .ok (.getfield 151, 3) := by decide +kernel
theorem dX8_oddsAbove_128 : decode cX8_oddsAbove 128 = .ok (.iload 7, 2) := by decide +kernel
theorem dX8_oddsAbove_130 : decode cX8_oddsAbove 130 = .ok (.iaload, 1) := by decide +kernel
theorem dX8_oddsAbove_131 : decode cX8_oddsAbove 131 = .ok (.isub, 1) := by decide +kernel
theorem dX8_oddsAbove_132 : decode cX8_oddsAbove 132 = .ok (.iastore, 1) := by decide +kernel
theorem dX8_oddsAbove_133 : decode cX8_oddsAbove 133 = .ok (.iinc 7 1, 3) := by decide +kernel
theorem dX8_oddsAbove_136 : decode cX8_oddsAbove 136 = .ok (.goto (-79), 3) := by decide +kernel
theorem dX8_oddsAbove_139 : decode cX8_oddsAbove 139 = .ok (.aload_n 0, 1) := by decide +kernel
theorem dX8_oddsAbove_140 : decode cX8_oddsAbove 140 = .ok (.getfield 33, 3) := by decide +kernel
theorem dX8_oddsAbove_143 : decode cX8_oddsAbove 143 = .ok (.aload_n 0, 1) := by decide +kernel
theorem dX8_oddsAbove_144 : decode cX8_oddsAbove 144 = .ok (.getfield 54, 3) := by decide +kernel
theorem dX8_oddsAbove_147 : decode cX8_oddsAbove 147 = .ok (.iconst 0, 1) := by decide +kernel
theorem dX8_oddsAbove_148 : decode cX8_oddsAbove 148 = .ok (.invokevirtual 174, 3) := by decide +kernel
theorem dX8_oddsAbove_151 : decode cX8_oddsAbove 151 = .ok (.aload_n 0, 1) := by decide +kernel
theorem dX8_oddsAbove_152 : decode cX8_oddsAbove 152 = .ok (.getfield 33, 3) := by decide +kernel
theorem dX8_oddsAbove_155 : decode cX8_oddsAbove 155 = .ok (.getfield 134, 3) := by decide +kernel
theorem dX8_oddsAbove_158 : decode cX8_oddsAbove 158 = .ok (.iload_n 3, 1) := by decide +kernel
theorem dX8_oddsAbove_159 : decode cX8_oddsAbove 159 = .ok (.if_icmp .eq 10, 3) := by decide +kernel
theorem dX8_oddsAbove_162 : decode cX8_oddsAbove 162 = .ok (.iload 4, 2) := by decide +kernel
theorem dX8_oddsAbove_164 : decode cX8_oddsAbove 164 = .ok (.iload 6, 2) := by decide +kernel
theorem dX8_oddsAbove_166 : decode cX8_oddsAbove 166 = .ok (.iadd, 1) := by decide +kernel
theorem dX8_oddsAbove_167 : decode cX8_oddsAbove 167 = .ok (.istore 4, 2) := by decide +kernel
theorem dX8_oddsAbove_169 : decode cX8_oddsAbove 169 = .ok (.iinc 5 1, 3) := by decide +kernel
theorem dX8_oddsAbove_172 : decode cX8_oddsAbove 172 = .ok (.goto (-143), 3) := by decide +kernel
theorem dX8_oddsAbove_175 : decode cX8_oddsAbove 175 = .ok (.iload 4, 2) := by decide +kernel
theorem dX8_oddsAbove_177 : decode cX8_oddsAbove 177 = .ok (.ireturn, 1) := by decide +kernel
theorem dX8_kindsOf_0 : decode cX8_kindsOf 0 = .ok (.iconst 0, 1) := by decide +kernel
theorem dX8_kindsOf_1 : decode cX8_kindsOf 1 = .ok (.istore 4, 2) := by decide +kernel
theorem dX8_kindsOf_3 : decode cX8_kindsOf 3 = .ok (.aload_n 0, 1) := by decide +kernel
theorem dX8_kindsOf_4 : decode cX8_kindsOf 4 = .ok (.getfield 54, 3) := by decide +kernel
theorem dX8_kindsOf_7 : decode cX8_kindsOf 7 = .ok (.aload_n 0, 1) := by decide +kernel
theorem dX8_kindsOf_8 : decode cX8_kindsOf 8 = .ok (.getfield 10, 3) := by decide +kernel
theorem dX8_kindsOf_11 : decode cX8_kindsOf 11 = .ok (.getfield 82, 3) := by decide +kernel
theorem dX8_kindsOf_14 : decode cX8_kindsOf 14 = .ok (.invokevirtual 274, 3) := by decide +kernel
theorem dX8_kindsOf_17 : decode cX8_kindsOf 17 = .ok (.iconst 0, 1) := by decide +kernel
theorem dX8_kindsOf_18 : decode cX8_kindsOf 18 = .ok (.istore 5, 2) := by decide +kernel
theorem dX8_kindsOf_20 : decode cX8_kindsOf 20 = .ok (.iload 5, 2) := by decide +kernel
theorem dX8_kindsOf_22 : decode cX8_kindsOf 22 = .ok (.iconst 5, 1) := by decide +kernel
theorem dX8_kindsOf_23 : decode cX8_kindsOf 23 = .ok (.if_icmp .ge 96, 3) := by decide +kernel
theorem dX8_kindsOf_26 : decode cX8_kindsOf 26 = .ok (.aload_n 0, 1) := by decide +kernel
theorem dX8_kindsOf_27 : decode cX8_kindsOf 27 = .ok (.getfield 54, 3) := by decide +kernel
theorem dX8_kindsOf_30 : decode cX8_kindsOf 30 = .ok (.iload 5, 2) := by decide +kernel
theorem dX8_kindsOf_32 : decode cX8_kindsOf 32 = .ok (.putfield 113, 3) := by decide +kernel
theorem dX8_kindsOf_35 : decode cX8_kindsOf 35 = .ok (.iconst 1, 1) := by decide +kernel
theorem dX8_kindsOf_36 : decode cX8_kindsOf 36 = .ok (.istore 6, 2) := by decide +kernel
theorem dX8_kindsOf_38 : decode cX8_kindsOf 38 = .ok (.iconst 0, 1) := by decide +kernel
theorem dX8_kindsOf_39 : decode cX8_kindsOf 39 = .ok (.istore 7, 2) := by decide +kernel
theorem dX8_kindsOf_41 : decode cX8_kindsOf 41 = .ok (.iload 7, 2) := by decide +kernel
theorem dX8_kindsOf_43 : decode cX8_kindsOf 43 = .ok (.iload_n 3, 1) := by decide +kernel
theorem dX8_kindsOf_44 : decode cX8_kindsOf 44 = .ok (.if_icmp .ge 55, 3) := by decide +kernel
theorem dX8_kindsOf_47 : decode cX8_kindsOf 47 = .ok (.iload 6, 2) := by decide +kernel
theorem dX8_kindsOf_49 : decode cX8_kindsOf 49 = .ok (.ifCond .eq 50, 3) := by decide +kernel
theorem dX8_kindsOf_52 : decode cX8_kindsOf 52 = .ok (.aload_n 0, 1) := by decide +kernel
theorem dX8_kindsOf_53 : decode cX8_kindsOf 53 = .ok (.getfield 33, 3) := by decide +kernel
theorem dX8_kindsOf_56 : decode cX8_kindsOf 56 = .ok (.aload_n 0, 1) := by decide +kernel
theorem dX8_kindsOf_57 : decode cX8_kindsOf 57 = .ok (.getfield 54, 3) := by decide +kernel
theorem dX8_kindsOf_60 : decode cX8_kindsOf 60 = .ok (.iload 7, 2) := by decide +kernel
theorem dX8_kindsOf_62 : decode cX8_kindsOf 62 = .ok (.invokevirtual 174, 3) := by decide +kernel
theorem dX8_kindsOf_65 : decode cX8_kindsOf 65 = .ok (.aload_n 1, 1) := by decide +kernel
theorem dX8_kindsOf_66 : decode cX8_kindsOf 66 = .ok (.getfield 255, 3) := by decide +kernel
theorem dX8_kindsOf_69 : decode cX8_kindsOf 69 = .ok (.iload_n 2, 1) := by decide +kernel
theorem dX8_kindsOf_70 : decode cX8_kindsOf 70 = .ok (.iload 7, 2) := by decide +kernel
theorem dX8_kindsOf_72 : decode cX8_kindsOf 72 = .ok (.iadd, 1) := by decide +kernel
theorem dX8_kindsOf_73 : decode cX8_kindsOf 73 = .ok (.laload, 1) := by decide +kernel
theorem dX8_kindsOf_74 : decode cX8_kindsOf 74 = .ok (.aload_n 0, 1) := by decide +kernel
theorem dX8_kindsOf_75 : decode cX8_kindsOf 75 = .ok (.getfield 33, 3) := by decide +kernel
theorem dX8_kindsOf_78 : decode cX8_kindsOf 78 = .ok (.getfield 134, 3) := by decide +kernel
theorem dX8_kindsOf_81 : decode cX8_kindsOf 81 = .ok (.i2l, 1) := by decide +kernel
theorem dX8_kindsOf_82 : decode cX8_kindsOf 82 = .ok (.lcmp, 1) := by decide +kernel
theorem dX8_kindsOf_83 : decode cX8_kindsOf 83 = .ok (.ifCond .ne 7, 3) := by decide +kernel
theorem dX8_kindsOf_86 : decode cX8_kindsOf 86 = .ok (.iconst 1, 1) := by decide +kernel
theorem dX8_kindsOf_87 : decode cX8_kindsOf 87 = .ok (.goto 4, 3) := by decide +kernel
theorem dX8_kindsOf_90 : decode cX8_kindsOf 90 = .ok (.iconst 0, 1) := by decide +kernel
theorem dX8_kindsOf_91 : decode cX8_kindsOf 91 = .ok (.istore 6, 2) := by decide +kernel
theorem dX8_kindsOf_93 : decode cX8_kindsOf 93 = .ok (.iinc 7 1, 3) := by decide +kernel
theorem dX8_kindsOf_96 : decode cX8_kindsOf 96 = .ok (.goto (-55), 3) := by decide +kernel
theorem dX8_kindsOf_99 : decode cX8_kindsOf 99 = .ok (.iload 6, 2) := by decide +kernel
theorem dX8_kindsOf_101 : decode cX8_kindsOf 101 = .ok (.ifCond .eq 12, 3) := by decide +kernel
theorem dX8_kindsOf_104 : decode cX8_kindsOf 104 = .ok (.iload 4, 2) := by decide +kernel
theorem dX8_kindsOf_106 : decode cX8_kindsOf 106 = .ok (.iconst 1, 1) := by decide +kernel
theorem dX8_kindsOf_107 : decode cX8_kindsOf 107 = .ok (.iload 5, 2) := by decide +kernel
theorem dX8_kindsOf_109 : decode cX8_kindsOf 109 = .ok (.ishl, 1) := by decide +kernel
theorem dX8_kindsOf_110 : decode cX8_kindsOf 110 = .ok (.ior, 1) := by decide +kernel
theorem dX8_kindsOf_111 : decode cX8_kindsOf 111 = .ok (.istore 4, 2) := by decide +kernel
theorem dX8_kindsOf_113 : decode cX8_kindsOf 113 = .ok (.iinc 5 1, 3) := by decide +kernel
theorem dX8_kindsOf_116 : decode cX8_kindsOf 116 = .ok (.goto (-96), 3) := by decide +kernel
theorem dX8_kindsOf_119 : decode cX8_kindsOf 119 = .ok (.iload 4, 2) := by decide +kernel
theorem dX8_kindsOf_121 : decode cX8_kindsOf 121 = .ok (.ireturn, 1) := by decide +kernel
theorem dX8_power_0 : decode cX8_power 0 = .ok (.iconst 1, 1) := by decide +kernel
theorem dX8_power_1 : decode cX8_power 1 = .ok (.istore_n 2, 1) := by decide +kernel
theorem dX8_power_2 : decode cX8_power 2 = .ok (.iconst 0, 1) := by decide +kernel
theorem dX8_power_3 : decode cX8_power 3 = .ok (.istore_n 3, 1) := by decide +kernel
theorem dX8_power_4 : decode cX8_power 4 = .ok (.iload_n 3, 1) := by decide +kernel
theorem dX8_power_5 : decode cX8_power 5 = .ok (.iload_n 1, 1) := by decide +kernel
theorem dX8_power_6 : decode cX8_power 6 = .ok (.if_icmp .ge 13, 3) := by decide +kernel
theorem dX8_power_9 : decode cX8_power 9 = .ok (.iload_n 2, 1) := by decide +kernel
theorem dX8_power_10 : decode cX8_power 10 = .ok (.iload_n 0, 1) := by decide +kernel
theorem dX8_power_11 : decode cX8_power 11 = .ok (.imul, 1) := by decide +kernel
theorem dX8_power_12 : decode cX8_power 12 = .ok (.istore_n 2, 1) := by decide +kernel
theorem dX8_power_13 : decode cX8_power 13 = .ok (.iinc 3 1, 3) := by decide +kernel
theorem dX8_power_16 : decode cX8_power 16 = .ok (.goto (-12), 3) := by decide +kernel
theorem dX8_power_19 : decode cX8_power 19 = .ok (.iload_n 2, 1) := by decide +kernel
theorem dX8_power_20 : decode cX8_power 20 = .ok (.ireturn, 1) := by decide +kernel
theorem dX8_commonDivisor_0 : decode cX8_commonDivisor 0 = .ok (.iconst 0, 1) := by decide +kernel
theorem dX8_commonDivisor_1 : decode cX8_commonDivisor 1 = .ok (.istore_n 2, 1) := by decide +kernel
theorem dX8_commonDivisor_2 : decode cX8_commonDivisor 2 = .ok (.iload_n 2, 1) := by decide +kernel
theorem dX8_commonDivisor_3 : decode cX8_commonDivisor 3 = .ok (.bipush 64, 2) := by decide +kernel
theorem dX8_commonDivisor_5 : decode cX8_commonDivisor 5 = .ok (.if_icmp .ge 21, 3) := by decide +kernel
theorem dX8_commonDivisor_8 : decode cX8_commonDivisor 8 = .ok (.iload_n 1, 1) := by decide +kernel
theorem dX8_commonDivisor_9 : decode cX8_commonDivisor 9 = .ok (.ifCond .eq 17, 3) := by decide +kernel
theorem dX8_commonDivisor_12 : decode cX8_commonDivisor 12 = .ok (.iload_n 0, 1) := by decide +kernel
theorem dX8_commonDivisor_13 : decode cX8_commonDivisor 13 = .ok (.iload_n 1, 1) := by decide +kernel
theorem dX8_commonDivisor_14 : decode cX8_commonDivisor 14 = .ok (.irem, 1) := by decide +kernel
theorem dX8_commonDivisor_15 : decode cX8_commonDivisor 15 = .ok (.istore_n 3, 1) := by decide +kernel
theorem dX8_commonDivisor_16 : decode cX8_commonDivisor 16 = .ok (.iload_n 1, 1) := by decide +kernel
theorem dX8_commonDivisor_17 : decode cX8_commonDivisor 17 = .ok (.istore_n 0, 1) := by decide +kernel
theorem dX8_commonDivisor_18 : decode cX8_commonDivisor 18 = .ok (.iload_n 3, 1) := by decide +kernel
theorem dX8_commonDivisor_19 : decode cX8_commonDivisor 19 = .ok (.istore_n 1, 1) := by decide +kernel
theorem dX8_commonDivisor_20 : decode cX8_commonDivisor 20 = .ok (.iinc 2 1, 3) := by decide +kernel
theorem dX8_commonDivisor_23 : decode cX8_commonDivisor 23 = .ok (.goto (-21), 3) := by decide +kernel
theorem dX8_commonDivisor_26 : decode cX8_commonDivisor 26 = .ok (.iload_n 0, 1) := by decide +kernel
theorem dX8_commonDivisor_27 : decode cX8_commonDivisor 27 = .ok (.ireturn, 1) := by decide +kernel
theorem dX8_isWithin_0 : decode cX8_isWithin 0 = .ok (.iload_n 0, 1) := by decide +kernel
theorem dX8_isWithin_1 : decode cX8_isWithin 1 = .ok (.iload_n 1, 1) := by decide +kernel
theorem dX8_isWithin_2 : decode cX8_isWithin 2 = .ok (.if_icmp .lt 12, 3) := by decide +kernel
theorem dX8_isWithin_5 : decode cX8_isWithin 5 = .ok (.iload_n 0, 1) := by decide +kernel
theorem dX8_isWithin_6 : decode cX8_isWithin 6 = .ok (.iload_n 2, 1) := by decide +kernel
theorem dX8_isWithin_7 : decode cX8_isWithin 7 = .ok (.if_icmp .gt 7, 3) := by decide +kernel
theorem dX8_isWithin_10 : decode cX8_isWithin 10 = .ok (.iconst 1, 1) := by decide +kernel
theorem dX8_isWithin_11 : decode cX8_isWithin 11 = .ok (.goto 4, 3) := by decide +kernel
theorem dX8_isWithin_14 : decode cX8_isWithin 14 = .ok (.iconst 0, 1) := by decide +kernel
theorem dX8_isWithin_15 : decode cX8_isWithin 15 = .ok (.ireturn, 1) := by decide +kernel
theorem dX8_isInPicture_0 : decode cX8_isInPicture 0 = .ok (.iload_n 0, 1) := by decide +kernel
theorem dX8_isInPicture_1 : decode cX8_isInPicture 1 = .ok (.iconst 0, 1) := by decide +kernel
theorem dX8_isInPicture_2 : decode cX8_isInPicture 2 = .ok (.bipush 11, 2) := by decide +kernel
theorem dX8_isInPicture_4 : decode cX8_isInPicture 4 = .ok (.invokestatic 105, 3) := by decide +kernel
theorem dX8_isInPicture_7 : decode cX8_isInPicture 7 = .ok (.ifCond .eq 17, 3) := by decide +kernel
theorem dX8_isInPicture_10 : decode cX8_isInPicture 10 = .ok (.iload_n 1, 1) := by decide +kernel
theorem dX8_isInPicture_11 : decode cX8_isInPicture 11 = .ok (.iconst 0, 1) := by decide +kernel
theorem dX8_isInPicture_12 : decode cX8_isInPicture 12 = .ok (.bipush 7, 2) := by decide +kernel
theorem dX8_isInPicture_14 : decode cX8_isInPicture 14 = .ok (.invokestatic 105, 3) := by decide +kernel
theorem dX8_isInPicture_17 : decode cX8_isInPicture 17 = .ok (.ifCond .eq 7, 3) := by decide +kernel
theorem dX8_isInPicture_20 : decode cX8_isInPicture 20 = .ok (.iconst 1, 1) := by decide +kernel
theorem dX8_isInPicture_21 : decode cX8_isInPicture 21 = .ok (.goto 4, 3) := by decide +kernel
theorem dX8_isInPicture_24 : decode cX8_isInPicture 24 = .ok (.iconst 0, 1) := by decide +kernel
theorem dX8_isInPicture_25 : decode cX8_isInPicture 25 = .ok (.ireturn, 1) := by decide +kernel
theorem dX8_isSheet_0 : decode cX8_isSheet 0 = .ok (.iload_n 0, 1) := by decide +kernel
theorem dX8_isSheet_1 : decode cX8_isSheet 1 = .ok (.iconst 0, 1) := by decide +kernel
theorem dX8_isSheet_2 : decode cX8_isSheet 2 = .ok (.iconst 3, 1) := by decide +kernel
theorem dX8_isSheet_3 : decode cX8_isSheet 3 = .ok (.invokestatic 105, 3) := by decide +kernel
theorem dX8_isSheet_6 : decode cX8_isSheet 6 = .ok (.ireturn, 1) := by decide +kernel
theorem dX8_isLane_0 : decode cX8_isLane 0 = .ok (.iload_n 0, 1) := by decide +kernel
theorem dX8_isLane_1 : decode cX8_isLane 1 = .ok (.iconst 0, 1) := by decide +kernel
theorem dX8_isLane_2 : decode cX8_isLane 2 = .ok (.iconst 3, 1) := by decide +kernel
theorem dX8_isLane_3 : decode cX8_isLane 3 = .ok (.invokestatic 105, 3) := by decide +kernel
theorem dX8_isLane_6 : decode cX8_isLane 6 = .ok (.ireturn, 1) := by decide +kernel
theorem dX8_xOf_0 : decode cX8_xOf 0 = .ok (.iload_n 0, 1) := by decide +kernel
theorem dX8_xOf_1 : decode cX8_xOf 1 = .ok (.bipush 7, 2) := by decide +kernel
theorem dX8_xOf_3 : decode cX8_xOf 3 = .ok (.irem, 1) := by decide +kernel
theorem dX8_xOf_4 : decode cX8_xOf 4 = .ok (.iconst 3, 1) := by decide +kernel
theorem dX8_xOf_5 : decode cX8_xOf 5 = .ok (.isub, 1) := by decide +kernel
theorem dX8_xOf_6 : decode cX8_xOf 6 = .ok (.ireturn, 1) := by decide +kernel
theorem dX8_yOf_0 : decode cX8_yOf 0 = .ok (.iload_n 0, 1) := by decide +kernel
theorem dX8_yOf_1 : decode cX8_yOf 1 = .ok (.bipush 7, 2) := by decide +kernel
theorem dX8_yOf_3 : decode cX8_yOf 3 = .ok (.idiv, 1) := by decide +kernel
theorem dX8_yOf_4 : decode cX8_yOf 4 = .ok (.iconst 3, 1) := by decide +kernel
theorem dX8_yOf_5 : decode cX8_yOf 5 = .ok (.isub, 1) := by decide +kernel
theorem dX8_yOf_6 : decode cX8_yOf 6 = .ok (.ireturn, 1) := by decide +kernel
theorem dX8_moveBy_0 : decode cX8_moveBy 0 = .ok (.bipush 7, 2) := by decide +kernel
theorem dX8_moveBy_2 : decode cX8_moveBy 2 = .ok (.iload_n 1, 1) := by decide +kernel
theorem dX8_moveBy_3 : decode cX8_moveBy 3 = .ok (.iconst 3, 1) := by decide +kernel
theorem dX8_moveBy_4 : decode cX8_moveBy 4 = .ok (.iadd, 1) := by decide +kernel
theorem dX8_moveBy_5 : decode cX8_moveBy 5 = .ok (.imul, 1) := by decide +kernel
theorem dX8_moveBy_6 : decode cX8_moveBy 6 = .ok (.iload_n 0, 1) := by decide +kernel
theorem dX8_moveBy_7 : decode cX8_moveBy 7 = .ok (.iadd, 1) := by decide +kernel
theorem dX8_moveBy_8 : decode cX8_moveBy 8 = .ok (.iconst 3, 1) := by decide +kernel
theorem dX8_moveBy_9 : decode cX8_moveBy 9 = .ok (.iadd, 1) := by decide +kernel
theorem dX8_moveBy_10 : decode cX8_moveBy 10 = .ok (.ireturn, 1) := by decide +kernel
theorem dX8_stepsOf_0 : decode cX8_stepsOf 0 = .ok (.iload_n 0, 1) := by decide +kernel
theorem dX8_stepsOf_1 : decode cX8_stepsOf 1 = .ok (.invokestatic 195, 3) := by decide +kernel
theorem dX8_stepsOf_4 : decode cX8_stepsOf 4 = .ok (.invokestatic 276, 3) := by decide +kernel
theorem dX8_stepsOf_7 : decode cX8_stepsOf 7 = .ok (.iload_n 0, 1) := by decide +kernel
theorem dX8_stepsOf_8 : decode cX8_stepsOf 8 = .ok (.invokestatic 199, 3) := by decide +kernel
theorem dX8_stepsOf_11 : decode cX8_stepsOf 11 = .ok (.invokestatic 276, 3) := by decide +kernel
theorem dX8_stepsOf_14 : decode cX8_stepsOf 14 = .ok (.iadd, 1) := by decide +kernel
theorem dX8_stepsOf_15 : decode cX8_stepsOf 15 = .ok (.ireturn, 1) := by decide +kernel
theorem dX8_firstColumn_0 : decode cX8_firstColumn 0 = .ok (.iload_n 0, 1) := by decide +kernel
theorem dX8_firstColumn_1 : decode cX8_firstColumn 1 = .ok (.iconst 3, 1) := by decide +kernel
theorem dX8_firstColumn_2 : decode cX8_firstColumn 2 = .ok (.irem, 1) := by decide +kernel
theorem dX8_firstColumn_3 : decode cX8_firstColumn 3 = .ok (.iconst 4, 1) := by decide +kernel
theorem dX8_firstColumn_4 : decode cX8_firstColumn 4 = .ok (.imul, 1) := by decide +kernel
theorem dX8_firstColumn_5 : decode cX8_firstColumn 5 = .ok (.ireturn, 1) := by decide +kernel
theorem dX8_firstRow_0 : decode cX8_firstRow 0 = .ok (.iload_n 0, 1) := by decide +kernel
theorem dX8_firstRow_1 : decode cX8_firstRow 1 = .ok (.iconst 3, 1) := by decide +kernel
theorem dX8_firstRow_2 : decode cX8_firstRow 2 = .ok (.idiv, 1) := by decide +kernel
theorem dX8_firstRow_3 : decode cX8_firstRow 3 = .ok (.iconst 4, 1) := by decide +kernel
theorem dX8_firstRow_4 : decode cX8_firstRow 4 = .ok (.imul, 1) := by decide +kernel
theorem dX8_firstRow_5 : decode cX8_firstRow 5 = .ok (.ireturn, 1) := by decide +kernel
theorem dX8_blockAt_0 : decode cX8_blockAt 0 = .ok (.iload_n 1, 1) := by decide +kernel
theorem dX8_blockAt_1 : decode cX8_blockAt 1 = .ok (.iconst 4, 1) := by decide +kernel
theorem dX8_blockAt_2 : decode cX8_blockAt 2 = .ok (.idiv, 1) := by decide +kernel
theorem dX8_blockAt_3 : decode cX8_blockAt 3 = .ok (.iconst 3, 1) := by decide +kernel
theorem dX8_blockAt_4 : decode cX8_blockAt 4 = .ok (.imul, 1) := by decide +kernel
theorem dX8_blockAt_5 : decode cX8_blockAt 5 = .ok (.iload_n 0, 1) := by decide +kernel
theorem dX8_blockAt_6 : decode cX8_blockAt 6 = .ok (.iconst 4, 1) := by decide +kernel
theorem dX8_blockAt_7 : decode cX8_blockAt 7 = .ok (.idiv, 1) := by decide +kernel
theorem dX8_blockAt_8 : decode cX8_blockAt 8 = .ok (.iadd, 1) := by decide +kernel
theorem dX8_blockAt_9 : decode cX8_blockAt 9 = .ok (.ireturn, 1) := by decide +kernel
end
section
theorem dX9_in_0 : decode cX9_in 0 = .ok (.lload_n 0, 1) := by decide +kernel
theorem dX9_in_1 : decode cX9_in 1 = .ok (.lload_n 2, 1) := by decide +kernel
theorem dX9_in_2 : decode cX9_in 2 = .ok (.lcmp, 1) := by decide +kernel
theorem dX9_in_3 : decode cX9_in 3 = .ok (.ifCond .lt 14, 3) := by decide +kernel
theorem dX9_in_6 : decode cX9_in 6 = .ok (.lload_n 0, 1) := by decide +kernel
theorem dX9_in_7 : decode cX9_in 7 = .ok (.lload 4, 2) := by decide +kernel
theorem dX9_in_9 : decode cX9_in 9 = .ok (.lcmp, 1) := by decide +kernel
theorem dX9_in_10 : decode cX9_in 10 = .ok (.ifCond .gt 7, 3) := by decide +kernel
theorem dX9_in_13 : decode cX9_in 13 = .ok (.iconst 1, 1) := by decide +kernel
theorem dX9_in_14 : decode cX9_in 14 = .ok (.goto 4, 3) := by decide +kernel
theorem dX9_in_17 : decode cX9_in 17 = .ok (.iconst 0, 1) := by decide +kernel
theorem dX9_in_18 : decode cX9_in 18 = .ok (.ireturn, 1) := by decide +kernel
theorem dX9_init_0 : decode cX9_init 0 = .ok (.aload_n 0, 1) := by decide +kernel
theorem dX9_init_1 : decode cX9_init 1 = .ok (.invokespecial 1, 3) := by decide +kernel
theorem dX9_init_4 : decode cX9_init 4 = .ok (.aload_n 0, 1) := by decide +kernel
theorem dX9_init_5 : decode cX9_init 5 = .ok (.sipush 194, 3) := by decide +kernel
theorem dX9_init_8 : decode cX9_init 8 = .ok (.newarray .int, 2) := by decide +kernel
theorem dX9_init_10 : decode cX9_init 10 = .ok (.putfield 7, 3) := by decide +kernel
theorem dX9_init_13 : decode cX9_init 13 = .ok (.aload_n 0, 1) := by decide +kernel
theorem dX9_init_14 : decode cX9_init 14 = .ok (.bipush 49, 2) := by decide +kernel
theorem dX9_init_16 : decode cX9_init 16 = .ok (.newarray .int, 2) := by decide +kernel
theorem dX9_init_18 : decode cX9_init 18 = .ok (.putfield 13, 3) := by decide +kernel
theorem dX9_init_21 : decode cX9_init 21 = .ok (.aload_n 0, 1) := by decide +kernel
theorem dX9_init_22 : decode cX9_init 22 = .ok (.bipush 6, 2) := by decide +kernel
theorem dX9_init_24 : decode cX9_init 24 = .ok (.newarray .int, 2) := by decide +kernel
theorem dX9_init_26 : decode cX9_init 26 = .ok (.putfield 16, 3) := by decide +kernel
theorem dX9_init_29 : decode cX9_init 29 = .ok (.aload_n 0, 1) := by decide +kernel
theorem dX9_init_30 : decode cX9_init 30 = .ok (.bipush 120, 2) := by decide +kernel
theorem dX9_init_32 : decode cX9_init 32 = .ok (.newarray .int, 2) := by decide +kernel
theorem dX9_init_34 : decode cX9_init 34 = .ok (.putfield 19, 3) := by decide +kernel
theorem dX9_init_37 : decode cX9_init 37 = .ok (.aload_n 0, 1) := by decide +kernel
theorem dX9_init_38 : decode cX9_init 38 = .ok (.bipush 96, 2) := by decide +kernel
theorem dX9_init_40 : decode cX9_init 40 = .ok (.newarray .int, 2) := by decide +kernel
theorem dX9_init_42 : decode cX9_init 42 = .ok (.putfield 22, 3) := by decide +kernel
theorem dX9_init_45 : decode cX9_init 45 = .ok (.aload_n 0, 1) := by decide +kernel
theorem dX9_init_46 : decode cX9_init 46 = .ok (.sipush 1552, 3) := by decide +kernel
theorem dX9_init_49 : decode cX9_init 49 = .ok (.newarray .int, 2) := by decide +kernel
theorem dX9_init_51 : decode cX9_init 51 = .ok (.putfield 25, 3) := by decide +kernel
theorem dX9_init_54 : decode cX9_init 54 = .ok (.aload_n 0, 1) := by decide +kernel
theorem dX9_init_55 : decode cX9_init 55 = .ok (.sipush 194, 3) := by decide +kernel
theorem dX9_init_58 : decode cX9_init 58 = .ok (.newarray .int, 2) := by decide +kernel
theorem dX9_init_60 : decode cX9_init 60 = .ok (.putfield 28, 3) := by decide +kernel
theorem dX9_init_63 : decode cX9_init 63 = .ok (.aload_n 0, 1) := by decide +kernel
theorem dX9_init_64 : decode cX9_init 64 = .ok (.sipush 1552, 3) := by decide +kernel
theorem dX9_init_67 : decode cX9_init 67 = .ok (.newarray .int, 2) := by decide +kernel
theorem dX9_init_69 : decode cX9_init 69 = .ok (.putfield 31, 3) := by decide +kernel
theorem dX9_init_72 : decode cX9_init 72 = .ok (.aload_n 0, 1) := by decide +kernel
theorem dX9_init_73 : decode cX9_init 73 = .ok (.iconst (-1), 1) := by decide +kernel
theorem dX9_init_74 : decode cX9_init 74 = .ok (.putfield 34, 3) := by decide +kernel
theorem dX9_init_77 : decode cX9_init 77 = .ok (.aload_n 0, 1) := by decide +kernel
theorem dX9_init_78 : decode cX9_init 78 = .ok (.iconst 4, 1) := by decide +kernel
theorem dX9_init_79 : decode cX9_init 79 = .ok (.newarray .int, 2) := by decide +kernel
theorem dX9_init_81 : decode cX9_init 81 = .ok (.putfield 38, 3) := by decide +kernel
theorem dX9_init_84 : decode cX9_init 84 = .ok (.aload_n 0, 1) := by decide +kernel
theorem dX9_init_85 : decode cX9_init 85 = .ok (.iconst 4, 1) := by decide +kernel
theorem dX9_init_86 : decode cX9_init 86 = .ok (.newarray .int, 2) := by decide +kernel
theorem dX9_init_88 : decode cX9_init 88 = .ok (.putfield 41, 3) := by decide +kernel
theorem dX9_init_91 : decode cX9_init 91 = .ok (.aload_n 0, 1) := by decide +kernel
theorem dX9_init_92 : decode cX9_init 92 = .ok (.bipush 96, 2) := by decide +kernel
theorem dX9_init_94 : decode cX9_init 94 = .ok (.newarray .long, 2) := by decide +kernel
theorem dX9_init_96 : decode cX9_init 96 = .ok (.putfield 44, 3) := by decide +kernel
theorem dX9_init_99 : decode cX9_init 99 = .ok (.aload_n 0, 1) := by decide +kernel
theorem dX9_init_100 : decode cX9_init 100 = .ok (.bipush 24, 2) := by decide +kernel
theorem dX9_init_102 : decode cX9_init 102 = .ok (.newarray .long, 2) := by decide +kernel
theorem dX9_init_104 : decode cX9_init 104 = .ok (.putfield 48, 3) := by decide +kernel
theorem dX9_init_107 : decode cX9_init 107 = .ok (.aload_n 0, 1) := by decide +kernel
theorem dX9_init_108 : decode cX9_init 108 = .ok (.getfield 7, 3) := by decide +kernel
theorem dX9_init_111 : decode cX9_init 111 = .ok (.sipush 193, 3) := by decide +kernel
theorem dX9_init_114 : decode cX9_init 114 = .ok (.iconst 1, 1) := by decide +kernel
theorem dX9_init_115 : decode cX9_init 115 = .ok (.iastore, 1) := by decide +kernel
theorem dX9_init_116 : decode cX9_init 116 = .ok (.iconst 0, 1) := by decide +kernel
theorem dX9_init_117 : decode cX9_init 117 = .ok (.istore_n 1, 1) := by decide +kernel
theorem dX9_init_118 : decode cX9_init 118 = .ok (.iconst 0, 1) := by decide +kernel
theorem dX9_init_119 : decode cX9_init 119 = .ok (.istore_n 2, 1) := by decide +kernel
theorem dX9_init_120 : decode cX9_init 120 = .ok (.iload_n 2, 1) := by decide +kernel
theorem dX9_init_121 : decode cX9_init 121 = .ok (.bipush 7, 2) := by decide +kernel
theorem dX9_init_123 : decode cX9_init 123 = .ok (.if_icmp .ge 41, 3) := by decide +kernel
theorem dX9_init_126 : decode cX9_init 126 = .ok (.iconst 0, 1) := by decide +kernel
theorem dX9_init_127 : decode cX9_init 127 = .ok (.istore_n 3, 1) := by decide +kernel
theorem dX9_init_128 : decode cX9_init 128 = .ok (.iload_n 3, 1) := by decide +kernel
theorem dX9_init_129 : decode cX9_init 129 = .ok (.bipush 49, 2) := by decide +kernel
theorem dX9_init_131 : decode cX9_init 131 = .ok (.if_icmp .ge 27, 3) := by decide +kernel
theorem dX9_init_134 : decode cX9_init 134 = .ok (.iload_n 3, 1) := by decide +kernel
theorem dX9_init_135 : decode cX9_init 135 = .ok (.invokestatic 51, 3) := by decide +kernel
theorem dX9_init_138 : decode cX9_init 138 = .ok (.iload_n 2, 1) := by decide +kernel
theorem dX9_init_139 : decode cX9_init 139 = .ok (.if_icmp .ne 13, 3) := by decide +kernel
theorem dX9_init_142 : decode cX9_init 142 = .ok (.aload_n 0, 1) := by decide +kernel
theorem dX9_init_143 : decode cX9_init 143 = .ok (.getfield 13, 3) := by decide +kernel
theorem dX9_init_146 : decode cX9_init 146 = .ok (.iload_n 1, 1) := by decide +kernel
theorem dX9_init_147 : decode cX9_init 147 = .ok (.iload_n 3, 1) := by decide +kernel
theorem dX9_init_148 : decode cX9_init 148 = .ok (.iastore, 1) := by decide +kernel
theorem dX9_init_149 : decode cX9_init 149 = .ok (.iinc 1 1, 3) := by decide +kernel
theorem dX9_init_152 : decode cX9_init 152 = .ok (.iinc 3 1, 3) := by decide +kernel
theorem dX9_init_155 : decode cX9_init 155 = .ok (.goto (-27), 3) := by decide +kernel
theorem dX9_init_158 : decode cX9_init 158 = .ok (.iinc 2 1, 3) := by decide +kernel
theorem dX9_init_161 : decode cX9_init 161 = .ok (.goto (-41), 3) := by decide +kernel
theorem dX9_init_164 : decode cX9_init 164 = .ok (.iconst 0, 1) := by decide +kernel
theorem dX9_init_165 : decode cX9_init 165 = .ok (.istore_n 2, 1) := by decide +kernel
theorem dX9_init_166 : decode cX9_init 166 = .ok (.iload_n 2, 1) := by decide +kernel
theorem dX9_init_167 : decode cX9_init 167 = .ok (.iconst 4, 1) := by decide +kernel
theorem dX9_init_168 : decode cX9_init 168 = .ok (.if_icmp .ge 16, 3) := by decide +kernel
theorem dX9_init_171 : decode cX9_init 171 = .ok (.aload_n 0, 1) := by decide +kernel
theorem dX9_init_172 : decode cX9_init 172 = .ok (.getfield 38, 3) := by decide +kernel
theorem dX9_init_175 : decode cX9_init 175 = .ok (.iload_n 2, 1) := by decide +kernel
theorem dX9_init_176 : decode cX9_init 176 = .ok (.iconst (-1), 1) := by decide +kernel
theorem dX9_init_177 : decode cX9_init 177 = .ok (.iastore, 1) := by decide +kernel
theorem dX9_init_178 : decode cX9_init 178 = .ok (.iinc 2 1, 3) := by decide +kernel
theorem dX9_init_181 : decode cX9_init 181 = .ok (.goto (-15), 3) := by decide +kernel
theorem dX9_init_184 : decode cX9_init 184 = .ok (.return_, 1) := by decide +kernel
theorem dX9_sized_0 : decode cX9_sized 0 = .ok (.iload_n 0, 1) := by decide +kernel
theorem dX9_sized_1 : decode cX9_sized 1 = .ok (.ifCond .ge 8, 3) := by decide +kernel
theorem dX9_sized_4 : decode cX9_sized 4 = .ok (.iload_n 0, 1) := by decide +kernel
theorem dX9_sized_5 : decode cX9_sized 5 = .ok (.ineg, 1) := by decide +kernel
theorem dX9_sized_6 : decode cX9_sized 6 = .ok (.goto 4, 3) := by decide +kernel
theorem dX9_sized_9 : decode cX9_sized 9 = .ok (.iload_n 0, 1) := by decide +kernel
theorem dX9_sized_10 : decode cX9_sized 10 = .ok (.ireturn, 1) := by decide +kernel
theorem dX9_xOf_0 : decode cX9_xOf 0 = .ok (.iload_n 0, 1) := by decide +kernel
theorem dX9_xOf_1 : decode cX9_xOf 1 = .ok (.bipush 7, 2) := by decide +kernel
theorem dX9_xOf_3 : decode cX9_xOf 3 = .ok (.irem, 1) := by decide +kernel
theorem dX9_xOf_4 : decode cX9_xOf 4 = .ok (.iconst 3, 1) := by decide +kernel
theorem dX9_xOf_5 : decode cX9_xOf 5 = .ok (.isub, 1) := by decide +kernel
theorem dX9_xOf_6 : decode cX9_xOf 6 = .ok (.ireturn, 1) := by decide +kernel
theorem dX9_yOf_0 : decode cX9_yOf 0 = .ok (.iload_n 0, 1) := by decide +kernel
theorem dX9_yOf_1 : decode cX9_yOf 1 = .ok (.bipush 7, 2) := by decide +kernel
theorem dX9_yOf_3 : decode cX9_yOf 3 = .ok (.idiv, 1) := by decide +kernel
theorem dX9_yOf_4 : decode cX9_yOf 4 = .ok (.iconst 3, 1) := by decide +kernel
theorem dX9_yOf_5 : decode cX9_yOf 5 = .ok (.isub, 1) := by decide +kernel
theorem dX9_yOf_6 : decode cX9_yOf 6 = .ok (.ireturn, 1) := by decide +kernel
theorem dX9_farOf_0 : decode cX9_farOf 0 = .ok (.iload_n 0, 1) := by decide +kernel
theorem dX9_farOf_1 : decode cX9_farOf 1 = .ok (.invokestatic 55, 3) := by decide +kernel
theorem dX9_farOf_4 : decode cX9_farOf 4 = .ok (.invokestatic 58, 3) := by decide +kernel
theorem dX9_farOf_7 : decode cX9_farOf 7 = .ok (.iload_n 0, 1) := by decide +kernel
theorem dX9_farOf_8 : decode cX9_farOf 8 = .ok (.invokestatic 61, 3) := by decide +kernel
theorem dX9_farOf_11 : decode cX9_farOf 11 = .ok (.invokestatic 58, 3) := by decide +kernel
theorem dX9_farOf_14 : decode cX9_farOf 14 = .ok (.iadd, 1) := by decide +kernel
theorem dX9_farOf_15 : decode cX9_farOf 15 = .ok (.ireturn, 1) := by decide +kernel
theorem dX9_within_0 : decode cX9_within 0 = .ok (.iload_n 0, 1) := by decide +kernel
theorem dX9_within_1 : decode cX9_within 1 = .ok (.ifCond .ge 7, 3) := by decide +kernel
theorem dX9_within_4 : decode cX9_within 4 = .ok (.iconst 0, 1) := by decide +kernel
theorem dX9_within_5 : decode cX9_within 5 = .ok (.goto 13, 3) := by decide +kernel
theorem dX9_within_8 : decode cX9_within 8 = .ok (.iload_n 0, 1) := by decide +kernel
theorem dX9_within_9 : decode cX9_within 9 = .ok (.iload_n 1, 1) := by decide +kernel
theorem dX9_within_10 : decode cX9_within 10 = .ok (.if_icmp .le 7, 3) := by decide +kernel
theorem dX9_within_13 : decode cX9_within 13 = .ok (.iload_n 1, 1) := by decide +kernel
theorem dX9_within_14 : decode cX9_within 14 = .ok (.goto 4, 3) := by decide +kernel
theorem dX9_within_17 : decode cX9_within 17 = .ok (.iload_n 0, 1) := by decide +kernel
theorem dX9_within_18 : decode cX9_within 18 = .ok (.ireturn, 1) := by decide +kernel
theorem dX9_dotAt_0 : decode cX9_dotAt 0 = .ok (.aload_n 0, 1) := by decide +kernel
theorem dX9_dotAt_1 : decode cX9_dotAt 1 = .ok (.getfield 7, 3) := by decide +kernel
theorem dX9_dotAt_4 : decode cX9_dotAt 4 = .ok (.iload_n 1, 1) := by decide +kernel
theorem dX9_dotAt_5 : decode cX9_dotAt 5 = .ok (.bipush 12, 2) := by decide +kernel
theorem dX9_dotAt_7 : decode cX9_dotAt 7 = .ok (.iload_n 3, 1) := by decide +kernel
theorem dX9_dotAt_8 : decode cX9_dotAt 8 = .ok (.bipush 7, 2) := by decide +kernel
theorem dX9_dotAt_10 : decode cX9_dotAt 10 = .ok (.invokestatic 64, 3) := by decide +kernel
theorem dX9_dotAt_13 : decode cX9_dotAt 13 = .ok (.imul, 1) := by decide +kernel
theorem dX9_dotAt_14 : decode cX9_dotAt 14 = .ok (.iadd, 1) := by decide +kernel
theorem dX9_dotAt_15 : decode cX9_dotAt 15 = .ok (.iload_n 2, 1) := by decide +kernel
theorem dX9_dotAt_16 : decode cX9_dotAt 16 = .ok (.bipush 11, 2) := by decide +kernel
theorem dX9_dotAt_18 : decode cX9_dotAt 18 = .ok (.invokestatic 64, 3) := by decide +kernel
theorem dX9_dotAt_21 : decode cX9_dotAt 21 = .ok (.iadd, 1) := by decide +kernel
theorem dX9_dotAt_22 : decode cX9_dotAt 22 = .ok (.iaload, 1) := by decide +kernel
theorem dX9_dotAt_23 : decode cX9_dotAt 23 = .ok (.ireturn, 1) := by decide +kernel
theorem dX9_isBlock_0 : decode cX9_isBlock 0 = .ok (.iload_n 0, 1) := by decide +kernel
theorem dX9_isBlock_1 : decode cX9_isBlock 1 = .ok (.i2l, 1) := by decide +kernel
theorem dX9_isBlock_2 : decode cX9_isBlock 2 = .ok (.lconst 0, 1) := by decide +kernel
theorem dX9_isBlock_3 : decode cX9_isBlock 3 = .ok (.ldc2_w 68, 3) := by decide +kernel
theorem dX9_isBlock_6 : decode cX9_isBlock 6 = .ok (.invokestatic 70, 3) := by decide +kernel
theorem dX9_isBlock_9 : decode cX9_isBlock 9 = .ok (.ireturn, 1) := by decide +kernel
theorem dX9_isMove_0 : decode cX9_isMove 0 = .ok (.lload_n 0, 1) := by decide +kernel
theorem dX9_isMove_1 : decode cX9_isMove 1 = .ok (.lconst 0, 1) := by decide +kernel
theorem dX9_isMove_2 : decode cX9_isMove 2 = .ok (.ldc2_w 74, 3) := by decide +kernel
theorem dX9_isMove_5 : decode cX9_isMove 5 = .ok (.invokestatic 70, 3) := by decide +kernel
theorem dX9_isMove_8 : decode cX9_isMove 8 = .ok (.ireturn, 1) := by decide +kernel
theorem dX9_dotCost_0 : decode cX9_dotCost 0 = .ok (.iconst 4, 1) := by decide +kernel
theorem dX9_dotCost_1 : decode cX9_dotCost 1 = .ok (.iload_n 2, 1) := by decide +kernel
theorem dX9_dotCost_2 : decode cX9_dotCost 2 = .ok (.iconst 3, 1) := by decide +kernel
theorem dX9_dotCost_3 : decode cX9_dotCost 3 = .ok (.irem, 1) := by decide +kernel
theorem dX9_dotCost_4 : decode cX9_dotCost 4 = .ok (.imul, 1) := by decide +kernel
theorem dX9_dotCost_5 : decode cX9_dotCost 5 = .ok (.iload 4, 2) := by decide +kernel
theorem dX9_dotCost_7 : decode cX9_dotCost 7 = .ok (.iconst 4, 1) := by decide +kernel
theorem dX9_dotCost_8 : decode cX9_dotCost 8 = .ok (.irem, 1) := by decide +kernel
theorem dX9_dotCost_9 : decode cX9_dotCost 9 = .ok (.iadd, 1) := by decide +kernel
theorem dX9_dotCost_10 : decode cX9_dotCost 10 = .ok (.istore 5, 2) := by decide +kernel
theorem dX9_dotCost_12 : decode cX9_dotCost 12 = .ok (.iconst 4, 1) := by decide +kernel
theorem dX9_dotCost_13 : decode cX9_dotCost 13 = .ok (.iload_n 2, 1) := by decide +kernel
theorem dX9_dotCost_14 : decode cX9_dotCost 14 = .ok (.iconst 3, 1) := by decide +kernel
theorem dX9_dotCost_15 : decode cX9_dotCost 15 = .ok (.idiv, 1) := by decide +kernel
theorem dX9_dotCost_16 : decode cX9_dotCost 16 = .ok (.imul, 1) := by decide +kernel
theorem dX9_dotCost_17 : decode cX9_dotCost 17 = .ok (.iload 4, 2) := by decide +kernel
theorem dX9_dotCost_19 : decode cX9_dotCost 19 = .ok (.iconst 4, 1) := by decide +kernel
theorem dX9_dotCost_20 : decode cX9_dotCost 20 = .ok (.idiv, 1) := by decide +kernel
theorem dX9_dotCost_21 : decode cX9_dotCost 21 = .ok (.iadd, 1) := by decide +kernel
theorem dX9_dotCost_22 : decode cX9_dotCost 22 = .ok (.istore 6, 2) := by decide +kernel
theorem dX9_dotCost_24 : decode cX9_dotCost 24 = .ok (.aload_n 0, 1) := by decide +kernel
theorem dX9_dotCost_25 : decode cX9_dotCost 25 = .ok (.bipush 96, 2) := by decide +kernel
theorem dX9_dotCost_27 : decode cX9_dotCost 27 = .ok (.iload 5, 2) := by decide +kernel
theorem dX9_dotCost_29 : decode cX9_dotCost 29 = .ok (.iload 6, 2) := by decide +kernel
theorem dX9_dotCost_31 : decode cX9_dotCost 31 = .ok (.invokevirtual 76, 3) := by decide +kernel
theorem dX9_dotCost_34 : decode cX9_dotCost 34 = .ok (.aload_n 0, 1) := by decide +kernel
theorem dX9_dotCost_35 : decode cX9_dotCost 35 = .ok (.iconst 0, 1) := by decide +kernel
theorem dX9_dotCost_36 : decode cX9_dotCost 36 = .ok (.iload 5, 2) := by decide +kernel
theorem dX9_dotCost_38 : decode cX9_dotCost 38 = .ok (.iload_n 3, 1) := by decide +kernel
theorem dX9_dotCost_39 : decode cX9_dotCost 39 = .ok (.invokestatic 55, 3) := by decide +kernel
theorem dX9_dotCost_42 : decode cX9_dotCost 42 = .ok (.iadd, 1) := by decide +kernel
theorem dX9_dotCost_43 : decode cX9_dotCost 43 = .ok (.iload 6, 2) := by decide +kernel
theorem dX9_dotCost_45 : decode cX9_dotCost 45 = .ok (.iload_n 3, 1) := by decide +kernel
theorem dX9_dotCost_46 : decode cX9_dotCost 46 = .ok (.invokestatic 61, 3) := by decide +kernel
theorem dX9_dotCost_49 : decode cX9_dotCost 49 = .ok (.iadd, 1) := by decide +kernel
theorem dX9_dotCost_50 : decode cX9_dotCost 50 = .ok (.invokevirtual 76, 3) := by decide +kernel
theorem dX9_dotCost_53 : decode cX9_dotCost 53 = .ok (.isub, 1) := by decide +kernel
theorem dX9_dotCost_54 : decode cX9_dotCost 54 = .ok (.invokestatic 58, 3) := by decide +kernel
theorem dX9_dotCost_57 : decode cX9_dotCost 57 = .ok (.istore 7, 2) := by decide +kernel
theorem dX9_dotCost_59 : decode cX9_dotCost 59 = .ok (.iload 4, 2) := by decide +kernel
theorem dX9_dotCost_61 : decode cX9_dotCost 61 = .ok (.iconst 4, 1) := by decide +kernel
theorem dX9_dotCost_62 : decode cX9_dotCost 62 = .ok (.if_icmp .lt 25, 3) := by decide +kernel
theorem dX9_dotCost_65 : decode cX9_dotCost 65 = .ok (.iload 4, 2) := by decide +kernel
theorem dX9_dotCost_67 : decode cX9_dotCost 67 = .ok (.bipush 11, 2) := by decide +kernel
theorem dX9_dotCost_69 : decode cX9_dotCost 69 = .ok (.if_icmp .gt 18, 3) := by decide +kernel
theorem dX9_dotCost_72 : decode cX9_dotCost 72 = .ok (.iload 4, 2) := by decide +kernel
theorem dX9_dotCost_74 : decode cX9_dotCost 74 = .ok (.iconst 4, 1) := by decide +kernel
theorem dX9_dotCost_75 : decode cX9_dotCost 75 = .ok (.irem, 1) := by decide +kernel
theorem dX9_dotCost_76 : decode cX9_dotCost 76 = .ok (.ifCond .eq 11, 3) := by decide +kernel
theorem dX9_dotCost_79 : decode cX9_dotCost 79 = .ok (.iload 4, 2) := by decide +kernel
theorem dX9_dotCost_81 : decode cX9_dotCost 81 = .ok (.iconst 4, 1) := by decide +kernel
theorem dX9_dotCost_82 : decode cX9_dotCost 82 = .ok (.irem, 1) := by decide +kernel
theorem dX9_dotCost_83 : decode cX9_dotCost 83 = .ok (.iconst 3, 1) := by decide +kernel
theorem dX9_dotCost_84 : decode cX9_dotCost 84 = .ok (.if_icmp .ne 7, 3) := by decide +kernel
theorem dX9_dotCost_87 : decode cX9_dotCost 87 = .ok (.iconst 1, 1) := by decide +kernel
theorem dX9_dotCost_88 : decode cX9_dotCost 88 = .ok (.goto 4, 3) := by decide +kernel
theorem dX9_dotCost_91 : decode cX9_dotCost 91 = .ok (.iconst 0, 1) := by decide +kernel
theorem dX9_dotCost_92 : decode cX9_dotCost 92 = .ok (.istore 8, 2) := by decide +kernel
theorem dX9_dotCost_94 : decode cX9_dotCost 94 = .ok (.iload_n 1, 1) := by decide +kernel
theorem dX9_dotCost_95 : decode cX9_dotCost 95 = .ok (.tableswitch 67 1 4 #[29, 35, 67, 50], 29) := by decide +kernel
theorem dX9_dotCost_124 : decode cX9_dotCost 124 = .ok (.iload 7, 2) := by decide +kernel
theorem dX9_dotCost_126 : decode cX9_dotCost 126 = .ok (.iload 7, 2) := by decide +kernel
theorem dX9_dotCost_128 : decode cX9_dotCost 128 = .ok (.imul, 1) := by decide +kernel
theorem dX9_dotCost_129 : decode cX9_dotCost 129 = .ok (.ireturn, 1) := by decide +kernel
theorem dX9_dotCost_130 : decode cX9_dotCost 130 = .ok (.iload 8, 2) := by decide +kernel
theorem dX9_dotCost_132 : decode cX9_dotCost 132 = .ok (.ifCond .eq 10, 3) := by decide +kernel
theorem dX9_dotCost_135 : decode cX9_dotCost 135 = .ok (.iconst 2, 1) := by decide +kernel
theorem dX9_dotCost_136 : decode cX9_dotCost 136 = .ok (.iload 7, 2) := by decide +kernel
theorem dX9_dotCost_138 : decode cX9_dotCost 138 = .ok (.imul, 1) := by decide +kernel
theorem dX9_dotCost_139 : decode cX9_dotCost 139 = .ok (.goto 5, 3) := by decide +kernel
theorem dX9_dotCost_142 : decode cX9_dotCost 142 = .ok (.iload 7, 2) := by decide +kernel
theorem dX9_dotCost_144 : decode cX9_dotCost 144 = .ok (.ireturn, 1) := by decide +kernel
theorem dX9_dotCost_145 : decode cX9_dotCost 145 = .ok (.iload 7, 2) := by decide +kernel
theorem dX9_dotCost_147 : decode cX9_dotCost 147 = .ok (.iconst 2, 1) := by decide +kernel
theorem dX9_dotCost_148 : decode cX9_dotCost 148 = .ok (.if_icmp .le 8, 3) := by decide +kernel
theorem dX9_dotCost_151 : decode cX9_dotCost 151 = .ok (.bipush 9, 2) := by decide +kernel
theorem dX9_dotCost_153 : decode cX9_dotCost 153 = .ok (.goto 8, 3) := by decide +kernel
theorem dX9_dotCost_156 : decode cX9_dotCost 156 = .ok (.iload 7, 2) := by decide +kernel
theorem dX9_dotCost_158 : decode cX9_dotCost 158 = .ok (.iload 7, 2) := by decide +kernel
theorem dX9_dotCost_160 : decode cX9_dotCost 160 = .ok (.imul, 1) := by decide +kernel
theorem dX9_dotCost_161 : decode cX9_dotCost 161 = .ok (.ireturn, 1) := by decide +kernel
theorem dX9_dotCost_162 : decode cX9_dotCost 162 = .ok (.iload 7, 2) := by decide +kernel
theorem dX9_dotCost_164 : decode cX9_dotCost 164 = .ok (.ireturn, 1) := by decide +kernel
theorem dX9_atOnce_0 : decode cX9_atOnce 0 = .ok (.iload_n 0, 1) := by decide +kernel
theorem dX9_atOnce_1 : decode cX9_atOnce 1 = .ok (.iconst 3, 1) := by decide +kernel
theorem dX9_atOnce_2 : decode cX9_atOnce 2 = .ok (.if_icmp .ne 12, 3) := by decide +kernel
theorem dX9_atOnce_5 : decode cX9_atOnce 5 = .ok (.iconst 2, 1) := by decide +kernel
theorem dX9_atOnce_6 : decode cX9_atOnce 6 = .ok (.iload_n 1, 1) := by decide +kernel
theorem dX9_atOnce_7 : decode cX9_atOnce 7 = .ok (.invokestatic 51, 3) := by decide +kernel
theorem dX9_atOnce_10 : decode cX9_atOnce 10 = .ok (.imul, 1) := by decide +kernel
theorem dX9_atOnce_11 : decode cX9_atOnce 11 = .ok (.goto 4, 3) := by decide +kernel
theorem dX9_atOnce_14 : decode cX9_atOnce 14 = .ok (.iconst 0, 1) := by decide +kernel
theorem dX9_atOnce_15 : decode cX9_atOnce 15 = .ok (.ireturn, 1) := by decide +kernel
theorem dX9_costBy_0 : decode cX9_costBy 0 = .ok (.iload_n 1, 1) := by decide +kernel
theorem dX9_costBy_1 : decode cX9_costBy 1 = .ok (.iload_n 3, 1) := by decide +kernel
theorem dX9_costBy_2 : decode cX9_costBy 2 = .ok (.invokestatic 80, 3) := by decide +kernel
theorem dX9_costBy_5 : decode cX9_costBy 5 = .ok (.istore 4, 2) := by decide +kernel
theorem dX9_costBy_7 : decode cX9_costBy 7 = .ok (.iconst 0, 1) := by decide +kernel
theorem dX9_costBy_8 : decode cX9_costBy 8 = .ok (.istore 5, 2) := by decide +kernel
theorem dX9_costBy_10 : decode cX9_costBy 10 = .ok (.iload 5, 2) := by decide +kernel
theorem dX9_costBy_12 : decode cX9_costBy 12 = .ok (.bipush 16, 2) := by decide +kernel
theorem dX9_costBy_14 : decode cX9_costBy 14 = .ok (.if_icmp .ge 23, 3) := by decide +kernel
theorem dX9_costBy_17 : decode cX9_costBy 17 = .ok (.iload 4, 2) := by decide +kernel
theorem dX9_costBy_19 : decode cX9_costBy 19 = .ok (.aload_n 0, 1) := by decide +kernel
theorem dX9_costBy_20 : decode cX9_costBy 20 = .ok (.iload_n 1, 1) := by decide +kernel
theorem dX9_costBy_21 : decode cX9_costBy 21 = .ok (.iload_n 2, 1) := by decide +kernel
theorem dX9_costBy_22 : decode cX9_costBy 22 = .ok (.iload_n 3, 1) := by decide +kernel
theorem dX9_costBy_23 : decode cX9_costBy 23 = .ok (.iload 5, 2) := by decide +kernel
theorem dX9_costBy_25 : decode cX9_costBy 25 = .ok (.invokevirtual 83, 3) := by decide +kernel
theorem dX9_costBy_28 : decode cX9_costBy 28 = .ok (.iadd, 1) := by decide +kernel
theorem dX9_costBy_29 : decode cX9_costBy 29 = .ok (.istore 4, 2) := by decide +kernel
theorem dX9_costBy_31 : decode cX9_costBy 31 = .ok (.iinc 5 1, 3) := by decide +kernel
theorem dX9_costBy_34 : decode cX9_costBy 34 = .ok (.goto (-24), 3) := by decide +kernel
theorem dX9_costBy_37 : decode cX9_costBy 37 = .ok (.iload 4, 2) := by decide +kernel
theorem dX9_costBy_39 : decode cX9_costBy 39 = .ok (.ireturn, 1) := by decide +kernel
theorem dX9_bestBy_0 : decode cX9_bestBy 0 = .ok (.aload_n 0, 1) := by decide +kernel
theorem dX9_bestBy_1 : decode cX9_bestBy 1 = .ok (.getfield 13, 3) := by decide +kernel
theorem dX9_bestBy_4 : decode cX9_bestBy 4 = .ok (.iconst 0, 1) := by decide +kernel
theorem dX9_bestBy_5 : decode cX9_bestBy 5 = .ok (.iaload, 1) := by decide +kernel
theorem dX9_bestBy_6 : decode cX9_bestBy 6 = .ok (.istore_n 3, 1) := by decide +kernel
theorem dX9_bestBy_7 : decode cX9_bestBy 7 = .ok (.aload_n 0, 1) := by decide +kernel
theorem dX9_bestBy_8 : decode cX9_bestBy 8 = .ok (.iload_n 1, 1) := by decide +kernel
theorem dX9_bestBy_9 : decode cX9_bestBy 9 = .ok (.iload_n 2, 1) := by decide +kernel
theorem dX9_bestBy_10 : decode cX9_bestBy 10 = .ok (.iload_n 3, 1) := by decide +kernel
theorem dX9_bestBy_11 : decode cX9_bestBy 11 = .ok (.invokevirtual 87, 3) := by decide +kernel
theorem dX9_bestBy_14 : decode cX9_bestBy 14 = .ok (.istore 4, 2) := by decide +kernel
theorem dX9_bestBy_16 : decode cX9_bestBy 16 = .ok (.iconst 1, 1) := by decide +kernel
theorem dX9_bestBy_17 : decode cX9_bestBy 17 = .ok (.istore 5, 2) := by decide +kernel
theorem dX9_bestBy_19 : decode cX9_bestBy 19 = .ok (.iload 5, 2) := by decide +kernel
theorem dX9_bestBy_21 : decode cX9_bestBy 21 = .ok (.bipush 49, 2) := by decide +kernel
theorem dX9_bestBy_23 : decode cX9_bestBy 23 = .ok (.if_icmp .ge 59, 3) := by decide +kernel
theorem dX9_bestBy_26 : decode cX9_bestBy 26 = .ok (.aload_n 0, 1) := by decide +kernel
theorem dX9_bestBy_27 : decode cX9_bestBy 27 = .ok (.iload_n 1, 1) := by decide +kernel
theorem dX9_bestBy_28 : decode cX9_bestBy 28 = .ok (.iload_n 2, 1) := by decide +kernel
theorem dX9_bestBy_29 : decode cX9_bestBy 29 = .ok (.aload_n 0, 1) := by decide +kernel
theorem dX9_bestBy_30 : decode cX9_bestBy 30 = .ok (.getfield 13, 3) := by decide +kernel
theorem dX9_bestBy_33 : decode cX9_bestBy 33 = .ok (.iload 5, 2) := by decide +kernel
theorem dX9_bestBy_35 : decode cX9_bestBy 35 = .ok (.iaload, 1) := by decide +kernel
theorem dX9_bestBy_36 : decode cX9_bestBy 36 = .ok (.invokevirtual 87, 3) := by decide +kernel
theorem dX9_bestBy_39 : decode cX9_bestBy 39 = .ok (.istore 6, 2) := by decide +kernel
theorem dX9_bestBy_41 : decode cX9_bestBy 41 = .ok (.iload 6, 2) := by decide +kernel
theorem dX9_bestBy_43 : decode cX9_bestBy 43 = .ok (.iload 4, 2) := by decide +kernel
theorem dX9_bestBy_45 : decode cX9_bestBy 45 = .ok (.if_icmp .ge 13, 3) := by decide +kernel
theorem dX9_bestBy_48 : decode cX9_bestBy 48 = .ok (.aload_n 0, 1) := by decide +kernel
theorem dX9_bestBy_49 : decode cX9_bestBy 49 = .ok (.getfield 13, 3) := by decide +kernel
theorem dX9_bestBy_52 : decode cX9_bestBy 52 = .ok (.iload 5, 2) := by decide +kernel
theorem dX9_bestBy_54 : decode cX9_bestBy 54 = .ok (.iaload, 1) := by decide +kernel
theorem dX9_bestBy_55 : decode cX9_bestBy 55 = .ok (.goto 4, 3) := by decide +kernel
theorem dX9_bestBy_58 : decode cX9_bestBy 58 = .ok (.iload_n 3, 1) := by decide +kernel
theorem dX9_bestBy_59 : decode cX9_bestBy 59 = .ok (.istore_n 3, 1) := by decide +kernel
theorem dX9_bestBy_60 : decode cX9_bestBy 60 = .ok (.iload 6, 2) := by decide +kernel
theorem dX9_bestBy_62 : decode cX9_bestBy 62 = .ok (.iload 4, 2) := by decide +kernel
theorem dX9_bestBy_64 : decode cX9_bestBy 64 = .ok (.if_icmp .ge 8, 3) := by decide +kernel
theorem dX9_bestBy_67 : decode cX9_bestBy 67 = .ok (.iload 6, 2) := by decide +kernel
theorem dX9_bestBy_69 : decode cX9_bestBy 69 = .ok (.goto 5, 3) := by decide +kernel
theorem dX9_bestBy_72 : decode cX9_bestBy 72 = .ok (.iload 4, 2) := by decide +kernel
theorem dX9_bestBy_74 : decode cX9_bestBy 74 = .ok (.istore 4, 2) := by decide +kernel
theorem dX9_bestBy_76 : decode cX9_bestBy 76 = .ok (.iinc 5 1, 3) := by decide +kernel
theorem dX9_bestBy_79 : decode cX9_bestBy 79 = .ok (.goto (-60), 3) := by decide +kernel
theorem dX9_bestBy_82 : decode cX9_bestBy 82 = .ok (.iload_n 3, 1) := by decide +kernel
theorem dX9_bestBy_83 : decode cX9_bestBy 83 = .ok (.ireturn, 1) := by decide +kernel
theorem dX9_best_0 : decode cX9_best 0 = .ok (.aload_n 0, 1) := by decide +kernel
theorem dX9_best_1 : decode cX9_best 1 = .ok (.aload_n 0, 1) := by decide +kernel
theorem dX9_best_2 : decode cX9_best 2 = .ok (.getfield 7, 3) := by decide +kernel
theorem dX9_best_5 : decode cX9_best 5 = .ok (.sipush 192, 3) := by decide +kernel
theorem dX9_best_8 : decode cX9_best 8 = .ok (.iaload, 1) := by decide +kernel
theorem dX9_best_9 : decode cX9_best 9 = .ok (.iload_n 1, 1) := by decide +kernel
theorem dX9_best_10 : decode cX9_best 10 = .ok (.invokevirtual 90, 3) := by decide +kernel
theorem dX9_best_13 : decode cX9_best 13 = .ok (.ireturn, 1) := by decide +kernel
theorem dX9_sumsOff_0 : decode cX9_sumsOff 0 = .ok (.iconst 0, 1) := by decide +kernel
theorem dX9_sumsOff_1 : decode cX9_sumsOff 1 = .ok (.istore_n 3, 1) := by decide +kernel
theorem dX9_sumsOff_2 : decode cX9_sumsOff 2 = .ok (.iconst 0, 1) := by decide +kernel
theorem dX9_sumsOff_3 : decode cX9_sumsOff 3 = .ok (.istore 4, 2) := by decide +kernel
theorem dX9_sumsOff_5 : decode cX9_sumsOff 5 = .ok (.iload 4, 2) := by decide +kernel
theorem dX9_sumsOff_7 : decode cX9_sumsOff 7 = .ok (.bipush 16, 2) := by decide +kernel
theorem dX9_sumsOff_9 : decode cX9_sumsOff 9 = .ok (.if_icmp .ge 66, 3) := by decide +kernel
theorem dX9_sumsOff_12 : decode cX9_sumsOff 12 = .ok (.iconst 4, 1) := by decide +kernel
theorem dX9_sumsOff_13 : decode cX9_sumsOff 13 = .ok (.iload_n 1, 1) := by decide +kernel
theorem dX9_sumsOff_14 : decode cX9_sumsOff 14 = .ok (.iconst 3, 1) := by decide +kernel
theorem dX9_sumsOff_15 : decode cX9_sumsOff 15 = .ok (.irem, 1) := by decide +kernel
theorem dX9_sumsOff_16 : decode cX9_sumsOff 16 = .ok (.imul, 1) := by decide +kernel
theorem dX9_sumsOff_17 : decode cX9_sumsOff 17 = .ok (.iload 4, 2) := by decide +kernel
theorem dX9_sumsOff_19 : decode cX9_sumsOff 19 = .ok (.iconst 4, 1) := by decide +kernel
theorem dX9_sumsOff_20 : decode cX9_sumsOff 20 = .ok (.irem, 1) := by decide +kernel
theorem dX9_sumsOff_21 : decode cX9_sumsOff 21 = .ok (.iadd, 1) := by decide +kernel
theorem dX9_sumsOff_22 : decode cX9_sumsOff 22 = .ok (.istore 5, 2) := by decide +kernel
theorem dX9_sumsOff_24 : decode cX9_sumsOff 24 = .ok (.iconst 4, 1) := by decide +kernel
theorem dX9_sumsOff_25 : decode cX9_sumsOff 25 = .ok (.iload_n 1, 1) := by decide +kernel
theorem dX9_sumsOff_26 : decode cX9_sumsOff 26 = .ok (.iconst 3, 1) := by decide +kernel
theorem dX9_sumsOff_27 : decode cX9_sumsOff 27 = .ok (.idiv, 1) := by decide +kernel
theorem dX9_sumsOff_28 : decode cX9_sumsOff 28 = .ok (.imul, 1) := by decide +kernel
theorem dX9_sumsOff_29 : decode cX9_sumsOff 29 = .ok (.iload 4, 2) := by decide +kernel
theorem dX9_sumsOff_31 : decode cX9_sumsOff 31 = .ok (.iconst 4, 1) := by decide +kernel
theorem dX9_sumsOff_32 : decode cX9_sumsOff 32 = .ok (.idiv, 1) := by decide +kernel
theorem dX9_sumsOff_33 : decode cX9_sumsOff 33 = .ok (.iadd, 1) := by decide +kernel
theorem dX9_sumsOff_34 : decode cX9_sumsOff 34 = .ok (.istore 6, 2) := by decide +kernel
theorem dX9_sumsOff_36 : decode cX9_sumsOff 36 = .ok (.iload_n 3, 1) := by decide +kernel
theorem dX9_sumsOff_37 : decode cX9_sumsOff 37 = .ok (.aload_n 0, 1) := by decide +kernel
theorem dX9_sumsOff_38 : decode cX9_sumsOff 38 = .ok (.bipush 96, 2) := by decide +kernel
theorem dX9_sumsOff_40 : decode cX9_sumsOff 40 = .ok (.iload 5, 2) := by decide +kernel
theorem dX9_sumsOff_42 : decode cX9_sumsOff 42 = .ok (.iload 6, 2) := by decide +kernel
theorem dX9_sumsOff_44 : decode cX9_sumsOff 44 = .ok (.invokevirtual 76, 3) := by decide +kernel
theorem dX9_sumsOff_47 : decode cX9_sumsOff 47 = .ok (.aload_n 0, 1) := by decide +kernel
theorem dX9_sumsOff_48 : decode cX9_sumsOff 48 = .ok (.iconst 0, 1) := by decide +kernel
theorem dX9_sumsOff_49 : decode cX9_sumsOff 49 = .ok (.iload 5, 2) := by decide +kernel
theorem dX9_sumsOff_51 : decode cX9_sumsOff 51 = .ok (.iload_n 2, 1) := by decide +kernel
theorem dX9_sumsOff_52 : decode cX9_sumsOff 52 = .ok (.invokestatic 55, 3) := by decide +kernel
theorem dX9_sumsOff_55 : decode cX9_sumsOff 55 = .ok (.iadd, 1) := by decide +kernel
theorem dX9_sumsOff_56 : decode cX9_sumsOff 56 = .ok (.iload 6, 2) := by decide +kernel
theorem dX9_sumsOff_58 : decode cX9_sumsOff 58 = .ok (.iload_n 2, 1) := by decide +kernel
theorem dX9_sumsOff_59 : decode cX9_sumsOff 59 = .ok (.invokestatic 61, 3) := by decide +kernel
theorem dX9_sumsOff_62 : decode cX9_sumsOff 62 = .ok (.iadd, 1) := by decide +kernel
theorem dX9_sumsOff_63 : decode cX9_sumsOff 63 = .ok (.invokevirtual 76, 3) := by decide +kernel
theorem dX9_sumsOff_66 : decode cX9_sumsOff 66 = .ok (.isub, 1) := by decide +kernel
theorem dX9_sumsOff_67 : decode cX9_sumsOff 67 = .ok (.iadd, 1) := by decide +kernel
theorem dX9_sumsOff_68 : decode cX9_sumsOff 68 = .ok (.istore_n 3, 1) := by decide +kernel
theorem dX9_sumsOff_69 : decode cX9_sumsOff 69 = .ok (.iinc 4 1, 3) := by decide +kernel
theorem dX9_sumsOff_72 : decode cX9_sumsOff 72 = .ok (.goto (-67), 3) := by decide +kernel
theorem dX9_sumsOff_75 : decode cX9_sumsOff 75 = .ok (.iload_n 3, 1) := by decide +kernel
theorem dX9_sumsOff_76 : decode cX9_sumsOff 76 = .ok (.invokestatic 58, 3) := by decide +kernel
theorem dX9_sumsOff_79 : decode cX9_sumsOff 79 = .ok (.ireturn, 1) := by decide +kernel
theorem dX9_tries_0 : decode cX9_tries 0 = .ok (.aload_n 0, 1) := by decide +kernel
theorem dX9_tries_1 : decode cX9_tries 1 = .ok (.getfield 7, 3) := by decide +kernel
theorem dX9_tries_4 : decode cX9_tries 4 = .ok (.sipush 192, 3) := by decide +kernel
theorem dX9_tries_7 : decode cX9_tries 7 = .ok (.iaload, 1) := by decide +kernel
theorem dX9_tries_8 : decode cX9_tries 8 = .ok (.istore_n 2, 1) := by decide +kernel
theorem dX9_tries_9 : decode cX9_tries 9 = .ok (.iload_n 2, 1) := by decide +kernel
theorem dX9_tries_10 : decode cX9_tries 10 = .ok (.ifCond .eq 13, 3) := by decide +kernel
theorem dX9_tries_13 : decode cX9_tries 13 = .ok (.iload_n 2, 1) := by decide +kernel
theorem dX9_tries_14 : decode cX9_tries 14 = .ok (.iconst 2, 1) := by decide +kernel
theorem dX9_tries_15 : decode cX9_tries 15 = .ok (.if_icmp .eq 8, 3) := by decide +kernel
theorem dX9_tries_18 : decode cX9_tries 18 = .ok (.iload_n 2, 1) := by decide +kernel
theorem dX9_tries_19 : decode cX9_tries 19 = .ok (.iconst 3, 1) := by decide +kernel
theorem dX9_tries_20 : decode cX9_tries 20 = .ok (.if_icmp .ne 7, 3) := by decide +kernel
theorem dX9_tries_23 : decode cX9_tries 23 = .ok (.iconst 1, 1) := by decide +kernel
theorem dX9_tries_24 : decode cX9_tries 24 = .ok (.goto 4, 3) := by decide +kernel
theorem dX9_tries_27 : decode cX9_tries 27 = .ok (.iconst 0, 1) := by decide +kernel
theorem dX9_tries_28 : decode cX9_tries 28 = .ok (.istore_n 3, 1) := by decide +kernel
theorem dX9_tries_29 : decode cX9_tries 29 = .ok (.aload_n 0, 1) := by decide +kernel
theorem dX9_tries_30 : decode cX9_tries 30 = .ok (.iload_n 2, 1) := by decide +kernel
theorem dX9_tries_31 : decode cX9_tries 31 = .ok (.iload_n 1, 1) := by decide +kernel
theorem dX9_tries_32 : decode cX9_tries 32 = .ok (.aload_n 0, 1) := by decide +kernel
theorem dX9_tries_33 : decode cX9_tries 33 = .ok (.getfield 13, 3) := by decide +kernel
theorem dX9_tries_36 : decode cX9_tries 36 = .ok (.iconst 0, 1) := by decide +kernel
theorem dX9_tries_37 : decode cX9_tries 37 = .ok (.iaload, 1) := by decide +kernel
theorem dX9_tries_38 : decode cX9_tries 38 = .ok (.invokevirtual 87, 3) := by decide +kernel
theorem dX9_tries_41 : decode cX9_tries 41 = .ok (.istore 4, 2) := by decide +kernel
theorem dX9_tries_43 : decode cX9_tries 43 = .ok (.aload_n 0, 1) := by decide +kernel
theorem dX9_tries_44 : decode cX9_tries 44 = .ok (.bipush 16, 2) := by decide +kernel
theorem dX9_tries_46 : decode cX9_tries 46 = .ok (.putfield 93, 3) := by decide +kernel
theorem dX9_tries_49 : decode cX9_tries 49 = .ok (.aload_n 0, 1) := by decide +kernel
theorem dX9_tries_50 : decode cX9_tries 50 = .ok (.iconst 0, 1) := by decide +kernel
theorem dX9_tries_51 : decode cX9_tries 51 = .ok (.putfield 96, 3) := by decide +kernel
theorem dX9_tries_54 : decode cX9_tries 54 = .ok (.aload_n 0, 1) := by decide +kernel
theorem dX9_tries_55 : decode cX9_tries 55 = .ok (.bipush 16, 2) := by decide +kernel
theorem dX9_tries_57 : decode cX9_tries 57 = .ok (.putfield 99, 3) := by decide +kernel
theorem dX9_tries_60 : decode cX9_tries 60 = .ok (.iconst 1, 1) := by decide +kernel
theorem dX9_tries_61 : decode cX9_tries 61 = .ok (.istore 5, 2) := by decide +kernel
theorem dX9_tries_63 : decode cX9_tries 63 = .ok (.iload 5, 2) := by decide +kernel
theorem dX9_tries_65 : decode cX9_tries 65 = .ok (.bipush 49, 2) := by decide +kernel
theorem dX9_tries_67 : decode cX9_tries 67 = .ok (.if_icmp .ge 153, 3) := by decide +kernel
theorem dX9_tries_70 : decode cX9_tries 70 = .ok (.aload_n 0, 1) := by decide +kernel
theorem dX9_tries_71 : decode cX9_tries 71 = .ok (.getfield 13, 3) := by decide +kernel
theorem dX9_tries_74 : decode cX9_tries 74 = .ok (.iload 5, 2) := by decide +kernel
theorem dX9_tries_76 : decode cX9_tries 76 = .ok (.iaload, 1) := by decide +kernel
theorem dX9_tries_77 : decode cX9_tries 77 = .ok (.istore 6, 2) := by decide +kernel
theorem dX9_tries_79 : decode cX9_tries 79 = .ok (.iload_n 3, 1) := by decide +kernel
theorem dX9_tries_80 : decode cX9_tries 80 = .ok (.ifCond .eq 19, 3) := by decide +kernel
theorem dX9_tries_83 : decode cX9_tries 83 = .ok (.aload_n 0, 1) := by decide +kernel
theorem dX9_tries_84 : decode cX9_tries 84 = .ok (.iload_n 1, 1) := by decide +kernel
theorem dX9_tries_85 : decode cX9_tries 85 = .ok (.iload 6, 2) := by decide +kernel
theorem dX9_tries_87 : decode cX9_tries 87 = .ok (.invokevirtual 102, 3) := by decide +kernel
theorem dX9_tries_90 : decode cX9_tries 90 = .ok (.iload 4, 2) := by decide +kernel
theorem dX9_tries_92 : decode cX9_tries 92 = .ok (.if_icmp .lt 7, 3) := by decide +kernel
theorem dX9_tries_95 : decode cX9_tries 95 = .ok (.iconst 1, 1) := by decide +kernel
theorem dX9_tries_96 : decode cX9_tries 96 = .ok (.goto 4, 3) := by decide +kernel
theorem dX9_tries_99 : decode cX9_tries 99 = .ok (.iconst 0, 1) := by decide +kernel
theorem dX9_tries_100 : decode cX9_tries 100 = .ok (.istore 7, 2) := by decide +kernel
theorem dX9_tries_102 : decode cX9_tries 102 = .ok (.iload_n 2, 1) := by decide +kernel
theorem dX9_tries_103 : decode cX9_tries 103 = .ok (.iload 6, 2) := by decide +kernel
theorem dX9_tries_105 : decode cX9_tries 105 = .ok (.invokestatic 80, 3) := by decide +kernel
theorem dX9_tries_108 : decode cX9_tries 108 = .ok (.istore 8, 2) := by decide +kernel
theorem dX9_tries_110 : decode cX9_tries 110 = .ok (.iconst 0, 1) := by decide +kernel
theorem dX9_tries_111 : decode cX9_tries 111 = .ok (.istore 9, 2) := by decide +kernel
theorem dX9_tries_113 : decode cX9_tries 113 = .ok (.iload 9, 2) := by decide +kernel
theorem dX9_tries_115 : decode cX9_tries 115 = .ok (.bipush 16, 2) := by decide +kernel
theorem dX9_tries_117 : decode cX9_tries 117 = .ok (.if_icmp .ge 31, 3) := by decide +kernel
theorem dX9_tries_120 : decode cX9_tries 120 = .ok (.iload 8, 2) := by decide +kernel
theorem dX9_tries_122 : decode cX9_tries 122 = .ok (.iload 4, 2) := by decide +kernel
theorem dX9_tries_124 : decode cX9_tries 124 = .ok (.if_icmp .ge 24, 3) := by decide +kernel
theorem dX9_tries_127 : decode cX9_tries 127 = .ok (.iload 8, 2) := by decide +kernel
theorem dX9_tries_129 : decode cX9_tries 129 = .ok (.aload_n 0, 1) := by decide +kernel
theorem dX9_tries_130 : decode cX9_tries 130 = .ok (.iload_n 2, 1) := by decide +kernel
theorem dX9_tries_131 : decode cX9_tries 131 = .ok (.iload_n 1, 1) := by decide +kernel
theorem dX9_tries_132 : decode cX9_tries 132 = .ok (.iload 6, 2) := by decide +kernel
theorem dX9_tries_134 : decode cX9_tries 134 = .ok (.iload 9, 2) := by decide +kernel
theorem dX9_tries_136 : decode cX9_tries 136 = .ok (.invokevirtual 83, 3) := by decide +kernel
theorem dX9_tries_139 : decode cX9_tries 139 = .ok (.iadd, 1) := by decide +kernel
theorem dX9_tries_140 : decode cX9_tries 140 = .ok (.istore 8, 2) := by decide +kernel
theorem dX9_tries_142 : decode cX9_tries 142 = .ok (.iinc 9 1, 3) := by decide +kernel
theorem dX9_tries_145 : decode cX9_tries 145 = .ok (.goto (-32), 3) := by decide +kernel
theorem dX9_tries_148 : decode cX9_tries 148 = .ok (.aload_n 0, 1) := by decide +kernel
theorem dX9_tries_149 : decode cX9_tries 149 = .ok (.dup, 1) := by decide +kernel
theorem dX9_tries_150 : decode cX9_tries 150 = .ok (.getfield 93, 3) := by decide +kernel
theorem dX9_tries_153 : decode cX9_tries 153 = .ok (.iload 9, 2) := by decide +kernel
theorem dX9_tries_155 : decode cX9_tries 155 = .ok (.iadd, 1) := by decide +kernel
theorem dX9_tries_156 : decode cX9_tries 156 = .ok (.putfield 93, 3) := by decide +kernel
theorem dX9_tries_159 : decode cX9_tries 159 = .ok (.aload_n 0, 1) := by decide +kernel
theorem dX9_tries_160 : decode cX9_tries 160 = .ok (.dup, 1) := by decide +kernel
theorem dX9_tries_161 : decode cX9_tries 161 = .ok (.getfield 96, 3) := by decide +kernel
theorem dX9_tries_164 : decode cX9_tries 164 = .ok (.iload 7, 2) := by decide +kernel
theorem dX9_tries_166 : decode cX9_tries 166 = .ok (.ifCond .eq 7, 3) := by decide +kernel
theorem dX9_tries_169 : decode cX9_tries 169 = .ok (.iconst 1, 1) := by decide +kernel
theorem dX9_tries_170 : decode cX9_tries 170 = .ok (.goto 4, 3) := by decide +kernel
theorem dX9_tries_173 : decode cX9_tries 173 = .ok (.iconst 0, 1) := by decide +kernel
theorem dX9_tries_174 : decode cX9_tries 174 = .ok (.iadd, 1) := by decide +kernel
theorem dX9_tries_175 : decode cX9_tries 175 = .ok (.putfield 96, 3) := by decide +kernel
theorem dX9_tries_178 : decode cX9_tries 178 = .ok (.aload_n 0, 1) := by decide +kernel
theorem dX9_tries_179 : decode cX9_tries 179 = .ok (.dup, 1) := by decide +kernel
theorem dX9_tries_180 : decode cX9_tries 180 = .ok (.getfield 99, 3) := by decide +kernel
theorem dX9_tries_183 : decode cX9_tries 183 = .ok (.iload 7, 2) := by decide +kernel
theorem dX9_tries_185 : decode cX9_tries 185 = .ok (.ifCond .eq 7, 3) := by decide +kernel
theorem dX9_tries_188 : decode cX9_tries 188 = .ok (.iconst 0, 1) := by decide +kernel
theorem dX9_tries_189 : decode cX9_tries 189 = .ok (.goto 5, 3) := by decide +kernel
theorem dX9_tries_192 : decode cX9_tries 192 = .ok (.iload 9, 2) := by decide +kernel
theorem dX9_tries_194 : decode cX9_tries 194 = .ok (.iadd, 1) := by decide +kernel
theorem dX9_tries_195 : decode cX9_tries 195 = .ok (.putfield 99, 3) := by decide +kernel
theorem dX9_tries_198 : decode cX9_tries 198 = .ok (.iload 8, 2) := by decide +kernel
theorem dX9_tries_200 : decode cX9_tries 200 = .ok (.iload 4, 2) := by decide +kernel
theorem dX9_tries_202 : decode cX9_tries 202 = .ok (.if_icmp .ge 8, 3) := by decide +kernel
theorem dX9_tries_205 : decode cX9_tries 205 = .ok (.iload 8, 2) := by decide +kernel
theorem dX9_tries_207 : decode cX9_tries 207 = .ok (.goto 5, 3) := by decide +kernel
theorem dX9_tries_210 : decode cX9_tries 210 = .ok (.iload 4, 2) := by decide +kernel
theorem dX9_tries_212 : decode cX9_tries 212 = .ok (.istore 4, 2) := by decide +kernel
theorem dX9_tries_214 : decode cX9_tries 214 = .ok (.iinc 5 1, 3) := by decide +kernel
theorem dX9_tries_217 : decode cX9_tries 217 = .ok (.goto (-154), 3) := by decide +kernel
theorem dX9_tries_220 : decode cX9_tries 220 = .ok (.return_, 1) := by decide +kernel
theorem dX9_halfDot_0 : decode cX9_halfDot 0 = .ok (.iconst 2, 1) := by decide +kernel
theorem dX9_halfDot_1 : decode cX9_halfDot 1 = .ok (.iload_n 2, 1) := by decide +kernel
theorem dX9_halfDot_2 : decode cX9_halfDot 2 = .ok (.iconst 5, 1) := by decide +kernel
theorem dX9_halfDot_3 : decode cX9_halfDot 3 = .ok (.invokestatic 64, 3) := by decide +kernel
theorem dX9_halfDot_6 : decode cX9_halfDot 6 = .ok (.imul, 1) := by decide +kernel
theorem dX9_halfDot_7 : decode cX9_halfDot 7 = .ok (.istore 4, 2) := by decide +kernel
theorem dX9_halfDot_9 : decode cX9_halfDot 9 = .ok (.iconst 2, 1) := by decide +kernel
theorem dX9_halfDot_10 : decode cX9_halfDot 10 = .ok (.iload_n 3, 1) := by decide +kernel
theorem dX9_halfDot_11 : decode cX9_halfDot 11 = .ok (.iconst 3, 1) := by decide +kernel
theorem dX9_halfDot_12 : decode cX9_halfDot 12 = .ok (.invokestatic 64, 3) := by decide +kernel
theorem dX9_halfDot_15 : decode cX9_halfDot 15 = .ok (.imul, 1) := by decide +kernel
theorem dX9_halfDot_16 : decode cX9_halfDot 16 = .ok (.istore 5, 2) := by decide +kernel
theorem dX9_halfDot_18 : decode cX9_halfDot 18 = .ok (.aload_n 0, 1) := by decide +kernel
theorem dX9_halfDot_19 : decode cX9_halfDot 19 = .ok (.iload_n 1, 1) := by decide +kernel
theorem dX9_halfDot_20 : decode cX9_halfDot 20 = .ok (.iload 4, 2) := by decide +kernel
theorem dX9_halfDot_22 : decode cX9_halfDot 22 = .ok (.iload 5, 2) := by decide +kernel
theorem dX9_halfDot_24 : decode cX9_halfDot 24 = .ok (.invokevirtual 76, 3) := by decide +kernel
theorem dX9_halfDot_27 : decode cX9_halfDot 27 = .ok (.aload_n 0, 1) := by decide +kernel
theorem dX9_halfDot_28 : decode cX9_halfDot 28 = .ok (.iload_n 1, 1) := by decide +kernel
theorem dX9_halfDot_29 : decode cX9_halfDot 29 = .ok (.iload 4, 2) := by decide +kernel
theorem dX9_halfDot_31 : decode cX9_halfDot 31 = .ok (.iconst 1, 1) := by decide +kernel
theorem dX9_halfDot_32 : decode cX9_halfDot 32 = .ok (.iadd, 1) := by decide +kernel
theorem dX9_halfDot_33 : decode cX9_halfDot 33 = .ok (.iload 5, 2) := by decide +kernel
theorem dX9_halfDot_35 : decode cX9_halfDot 35 = .ok (.invokevirtual 76, 3) := by decide +kernel
theorem dX9_halfDot_38 : decode cX9_halfDot 38 = .ok (.iadd, 1) := by decide +kernel
theorem dX9_halfDot_39 : decode cX9_halfDot 39 = .ok (.aload_n 0, 1) := by decide +kernel
theorem dX9_halfDot_40 : decode cX9_halfDot 40 = .ok (.iload_n 1, 1) := by decide +kernel
theorem dX9_halfDot_41 : decode cX9_halfDot 41 = .ok (.iload 4, 2) := by decide +kernel
theorem dX9_halfDot_43 : decode cX9_halfDot 43 = .ok (.iload 5, 2) := by decide +kernel
theorem dX9_halfDot_45 : decode cX9_halfDot 45 = .ok (.iconst 1, 1) := by decide +kernel
theorem dX9_halfDot_46 : decode cX9_halfDot 46 = .ok (.iadd, 1) := by decide +kernel
theorem dX9_halfDot_47 : decode cX9_halfDot 47 = .ok (.invokevirtual 76, 3) := by decide +kernel
theorem dX9_halfDot_50 : decode cX9_halfDot 50 = .ok (.iadd, 1) := by decide +kernel
theorem dX9_halfDot_51 : decode cX9_halfDot 51 = .ok (.aload_n 0, 1) := by decide +kernel
theorem dX9_halfDot_52 : decode cX9_halfDot 52 = .ok (.iload_n 1, 1) := by decide +kernel
theorem dX9_halfDot_53 : decode cX9_halfDot 53 = .ok (.iload 4, 2) := by decide +kernel
theorem dX9_halfDot_55 : decode cX9_halfDot 55 = .ok (.iconst 1, 1) := by decide +kernel
theorem dX9_halfDot_56 : decode cX9_halfDot 56 = .ok (.iadd, 1) := by decide +kernel
theorem dX9_halfDot_57 : decode cX9_halfDot 57 = .ok (.iload 5, 2) := by decide +kernel
theorem dX9_halfDot_59 : decode cX9_halfDot 59 = .ok (.iconst 1, 1) := by decide +kernel
theorem dX9_halfDot_60 : decode cX9_halfDot 60 = .ok (.iadd, 1) := by decide +kernel
theorem dX9_halfDot_61 : decode cX9_halfDot 61 = .ok (.invokevirtual 76, 3) := by decide +kernel
theorem dX9_halfDot_64 : decode cX9_halfDot 64 = .ok (.iadd, 1) := by decide +kernel
theorem dX9_halfDot_65 : decode cX9_halfDot 65 = .ok (.iconst 4, 1) := by decide +kernel
theorem dX9_halfDot_66 : decode cX9_halfDot 66 = .ok (.idiv, 1) := by decide +kernel
theorem dX9_halfDot_67 : decode cX9_halfDot 67 = .ok (.ireturn, 1) := by decide +kernel
theorem dX9_halfCost_0 : decode cX9_halfCost 0 = .ok (.iconst 0, 1) := by decide +kernel
theorem dX9_halfCost_1 : decode cX9_halfCost 1 = .ok (.istore_n 3, 1) := by decide +kernel
theorem dX9_halfCost_2 : decode cX9_halfCost 2 = .ok (.iconst 0, 1) := by decide +kernel
theorem dX9_halfCost_3 : decode cX9_halfCost 3 = .ok (.istore 4, 2) := by decide +kernel
theorem dX9_halfCost_5 : decode cX9_halfCost 5 = .ok (.iload 4, 2) := by decide +kernel
theorem dX9_halfCost_7 : decode cX9_halfCost 7 = .ok (.iconst 4, 1) := by decide +kernel
theorem dX9_halfCost_8 : decode cX9_halfCost 8 = .ok (.if_icmp .ge 69, 3) := by decide +kernel
theorem dX9_halfCost_11 : decode cX9_halfCost 11 = .ok (.iconst 2, 1) := by decide +kernel
theorem dX9_halfCost_12 : decode cX9_halfCost 12 = .ok (.iload_n 1, 1) := by decide +kernel
theorem dX9_halfCost_13 : decode cX9_halfCost 13 = .ok (.iconst 3, 1) := by decide +kernel
theorem dX9_halfCost_14 : decode cX9_halfCost 14 = .ok (.irem, 1) := by decide +kernel
theorem dX9_halfCost_15 : decode cX9_halfCost 15 = .ok (.imul, 1) := by decide +kernel
theorem dX9_halfCost_16 : decode cX9_halfCost 16 = .ok (.iload 4, 2) := by decide +kernel
theorem dX9_halfCost_18 : decode cX9_halfCost 18 = .ok (.iconst 2, 1) := by decide +kernel
theorem dX9_halfCost_19 : decode cX9_halfCost 19 = .ok (.irem, 1) := by decide +kernel
theorem dX9_halfCost_20 : decode cX9_halfCost 20 = .ok (.iadd, 1) := by decide +kernel
theorem dX9_halfCost_21 : decode cX9_halfCost 21 = .ok (.istore 5, 2) := by decide +kernel
theorem dX9_halfCost_23 : decode cX9_halfCost 23 = .ok (.iconst 2, 1) := by decide +kernel
theorem dX9_halfCost_24 : decode cX9_halfCost 24 = .ok (.iload_n 1, 1) := by decide +kernel
theorem dX9_halfCost_25 : decode cX9_halfCost 25 = .ok (.iconst 3, 1) := by decide +kernel
theorem dX9_halfCost_26 : decode cX9_halfCost 26 = .ok (.idiv, 1) := by decide +kernel
theorem dX9_halfCost_27 : decode cX9_halfCost 27 = .ok (.imul, 1) := by decide +kernel
theorem dX9_halfCost_28 : decode cX9_halfCost 28 = .ok (.iload 4, 2) := by decide +kernel
theorem dX9_halfCost_30 : decode cX9_halfCost 30 = .ok (.iconst 2, 1) := by decide +kernel
theorem dX9_halfCost_31 : decode cX9_halfCost 31 = .ok (.idiv, 1) := by decide +kernel
theorem dX9_halfCost_32 : decode cX9_halfCost 32 = .ok (.iadd, 1) := by decide +kernel
theorem dX9_halfCost_33 : decode cX9_halfCost 33 = .ok (.istore 6, 2) := by decide +kernel
theorem dX9_halfCost_35 : decode cX9_halfCost 35 = .ok (.iload_n 3, 1) := by decide +kernel
theorem dX9_halfCost_36 : decode cX9_halfCost 36 = .ok (.aload_n 0, 1) := by decide +kernel
theorem dX9_halfCost_37 : decode cX9_halfCost 37 = .ok (.bipush 96, 2) := by decide +kernel
theorem dX9_halfCost_39 : decode cX9_halfCost 39 = .ok (.iload 5, 2) := by decide +kernel
theorem dX9_halfCost_41 : decode cX9_halfCost 41 = .ok (.iload 6, 2) := by decide +kernel
theorem dX9_halfCost_43 : decode cX9_halfCost 43 = .ok (.invokevirtual 105, 3) := by decide +kernel
theorem dX9_halfCost_46 : decode cX9_halfCost 46 = .ok (.aload_n 0, 1) := by decide +kernel
theorem dX9_halfCost_47 : decode cX9_halfCost 47 = .ok (.iconst 0, 1) := by decide +kernel
theorem dX9_halfCost_48 : decode cX9_halfCost 48 = .ok (.iload 5, 2) := by decide +kernel
theorem dX9_halfCost_50 : decode cX9_halfCost 50 = .ok (.iload_n 2, 1) := by decide +kernel
theorem dX9_halfCost_51 : decode cX9_halfCost 51 = .ok (.invokestatic 55, 3) := by decide +kernel
theorem dX9_halfCost_54 : decode cX9_halfCost 54 = .ok (.iadd, 1) := by decide +kernel
theorem dX9_halfCost_55 : decode cX9_halfCost 55 = .ok (.iload 6, 2) := by decide +kernel
theorem dX9_halfCost_57 : decode cX9_halfCost 57 = .ok (.iload_n 2, 1) := by decide +kernel
theorem dX9_halfCost_58 : decode cX9_halfCost 58 = .ok (.invokestatic 61, 3) := by decide +kernel
theorem dX9_halfCost_61 : decode cX9_halfCost 61 = .ok (.iadd, 1) := by decide +kernel
theorem dX9_halfCost_62 : decode cX9_halfCost 62 = .ok (.invokevirtual 105, 3) := by decide +kernel
theorem dX9_halfCost_65 : decode cX9_halfCost 65 = .ok (.isub, 1) := by decide +kernel
theorem dX9_halfCost_66 : decode cX9_halfCost 66 = .ok (.invokestatic 58, 3) := by decide +kernel
theorem dX9_halfCost_69 : decode cX9_halfCost 69 = .ok (.iadd, 1) := by decide +kernel
theorem dX9_halfCost_70 : decode cX9_halfCost 70 = .ok (.istore_n 3, 1) := by decide +kernel
theorem dX9_halfCost_71 : decode cX9_halfCost 71 = .ok (.iinc 4 1, 3) := by decide +kernel
theorem dX9_halfCost_74 : decode cX9_halfCost 74 = .ok (.goto (-69), 3) := by decide +kernel
theorem dX9_halfCost_77 : decode cX9_halfCost 77 = .ok (.iload_n 3, 1) := by decide +kernel
theorem dX9_halfCost_78 : decode cX9_halfCost 78 = .ok (.ireturn, 1) := by decide +kernel
theorem dX9_quick_0 : decode cX9_quick 0 = .ok (.ldc 108, 2) := by decide +kernel
theorem dX9_quick_2 : decode cX9_quick 2 = .ok (.istore_n 2, 1) := by decide +kernel
theorem dX9_quick_3 : decode cX9_quick 3 = .ok (.ldc 109, 2) := by decide +kernel
theorem dX9_quick_5 : decode cX9_quick 5 = .ok (.istore_n 3, 1) := by decide +kernel
theorem dX9_quick_6 : decode cX9_quick 6 = .ok (.iconst 0, 1) := by decide +kernel
theorem dX9_quick_7 : decode cX9_quick 7 = .ok (.istore 4, 2) := by decide +kernel
theorem dX9_quick_9 : decode cX9_quick 9 = .ok (.iload 4, 2) := by decide +kernel
theorem dX9_quick_11 : decode cX9_quick 11 = .ok (.bipush 49, 2) := by decide +kernel
theorem dX9_quick_13 : decode cX9_quick 13 = .ok (.if_icmp .ge 94, 3) := by decide +kernel
theorem dX9_quick_16 : decode cX9_quick 16 = .ok (.aload_n 0, 1) := by decide +kernel
theorem dX9_quick_17 : decode cX9_quick 17 = .ok (.getfield 13, 3) := by decide +kernel
theorem dX9_quick_20 : decode cX9_quick 20 = .ok (.iload 4, 2) := by decide +kernel
theorem dX9_quick_22 : decode cX9_quick 22 = .ok (.iaload, 1) := by decide +kernel
theorem dX9_quick_23 : decode cX9_quick 23 = .ok (.istore 5, 2) := by decide +kernel
theorem dX9_quick_25 : decode cX9_quick 25 = .ok (.iload 5, 2) := by decide +kernel
theorem dX9_quick_27 : decode cX9_quick 27 = .ok (.invokestatic 55, 3) := by decide +kernel
theorem dX9_quick_30 : decode cX9_quick 30 = .ok (.invokestatic 58, 3) := by decide +kernel
theorem dX9_quick_33 : decode cX9_quick 33 = .ok (.iconst 2, 1) := by decide +kernel
theorem dX9_quick_34 : decode cX9_quick 34 = .ok (.if_icmp .ge 19, 3) := by decide +kernel
theorem dX9_quick_37 : decode cX9_quick 37 = .ok (.iload 5, 2) := by decide +kernel
theorem dX9_quick_39 : decode cX9_quick 39 = .ok (.invokestatic 61, 3) := by decide +kernel
theorem dX9_quick_42 : decode cX9_quick 42 = .ok (.invokestatic 58, 3) := by decide +kernel
theorem dX9_quick_45 : decode cX9_quick 45 = .ok (.iconst 2, 1) := by decide +kernel
theorem dX9_quick_46 : decode cX9_quick 46 = .ok (.if_icmp .ge 7, 3) := by decide +kernel
theorem dX9_quick_49 : decode cX9_quick 49 = .ok (.iconst 1, 1) := by decide +kernel
theorem dX9_quick_50 : decode cX9_quick 50 = .ok (.goto 4, 3) := by decide +kernel
theorem dX9_quick_53 : decode cX9_quick 53 = .ok (.iconst 0, 1) := by decide +kernel
theorem dX9_quick_54 : decode cX9_quick 54 = .ok (.istore 6, 2) := by decide +kernel
theorem dX9_quick_56 : decode cX9_quick 56 = .ok (.iload 6, 2) := by decide +kernel
theorem dX9_quick_58 : decode cX9_quick 58 = .ok (.ifCond .eq 13, 3) := by decide +kernel
theorem dX9_quick_61 : decode cX9_quick 61 = .ok (.aload_n 0, 1) := by decide +kernel
theorem dX9_quick_62 : decode cX9_quick 62 = .ok (.iload_n 1, 1) := by decide +kernel
theorem dX9_quick_63 : decode cX9_quick 63 = .ok (.iload 5, 2) := by decide +kernel
theorem dX9_quick_65 : decode cX9_quick 65 = .ok (.invokevirtual 110, 3) := by decide +kernel
theorem dX9_quick_68 : decode cX9_quick 68 = .ok (.goto 5, 3) := by decide +kernel
theorem dX9_quick_71 : decode cX9_quick 71 = .ok (.ldc 109, 2) := by decide +kernel
theorem dX9_quick_73 : decode cX9_quick 73 = .ok (.istore 7, 2) := by decide +kernel
theorem dX9_quick_75 : decode cX9_quick 75 = .ok (.iload 7, 2) := by decide +kernel
theorem dX9_quick_77 : decode cX9_quick 77 = .ok (.iload_n 3, 1) := by decide +kernel
theorem dX9_quick_78 : decode cX9_quick 78 = .ok (.if_icmp .ge 8, 3) := by decide +kernel
theorem dX9_quick_81 : decode cX9_quick 81 = .ok (.iload 5, 2) := by decide +kernel
theorem dX9_quick_83 : decode cX9_quick 83 = .ok (.goto 4, 3) := by decide +kernel
theorem dX9_quick_86 : decode cX9_quick 86 = .ok (.iload_n 2, 1) := by decide +kernel
theorem dX9_quick_87 : decode cX9_quick 87 = .ok (.istore_n 2, 1) := by decide +kernel
theorem dX9_quick_88 : decode cX9_quick 88 = .ok (.iload 7, 2) := by decide +kernel
theorem dX9_quick_90 : decode cX9_quick 90 = .ok (.iload_n 3, 1) := by decide +kernel
theorem dX9_quick_91 : decode cX9_quick 91 = .ok (.if_icmp .ge 8, 3) := by decide +kernel
theorem dX9_quick_94 : decode cX9_quick 94 = .ok (.iload 7, 2) := by decide +kernel
theorem dX9_quick_96 : decode cX9_quick 96 = .ok (.goto 4, 3) := by decide +kernel
theorem dX9_quick_99 : decode cX9_quick 99 = .ok (.iload_n 3, 1) := by decide +kernel
theorem dX9_quick_100 : decode cX9_quick 100 = .ok (.istore_n 3, 1) := by decide +kernel
theorem dX9_quick_101 : decode cX9_quick 101 = .ok (.iinc 4 1, 3) := by decide +kernel
theorem dX9_quick_104 : decode cX9_quick 104 = .ok (.goto (-95), 3) := by decide +kernel
theorem dX9_quick_107 : decode cX9_quick 107 = .ok (.ldc 108, 2) := by decide +kernel
theorem dX9_quick_109 : decode cX9_quick 109 = .ok (.istore 4, 2) := by decide +kernel
theorem dX9_quick_111 : decode cX9_quick 111 = .ok (.ldc 109, 2) := by decide +kernel
theorem dX9_quick_113 : decode cX9_quick 113 = .ok (.istore_n 3, 1) := by decide +kernel
theorem dX9_quick_114 : decode cX9_quick 114 = .ok (.iconst 0, 1) := by decide +kernel
theorem dX9_quick_115 : decode cX9_quick 115 = .ok (.istore 5, 2) := by decide +kernel
theorem dX9_quick_117 : decode cX9_quick 117 = .ok (.iload 5, 2) := by decide +kernel
theorem dX9_quick_119 : decode cX9_quick 119 = .ok (.bipush 49, 2) := by decide +kernel
theorem dX9_quick_121 : decode cX9_quick 121 = .ok (.if_icmp .ge 118, 3) := by decide +kernel
theorem dX9_quick_124 : decode cX9_quick 124 = .ok (.aload_n 0, 1) := by decide +kernel
theorem dX9_quick_125 : decode cX9_quick 125 = .ok (.getfield 13, 3) := by decide +kernel
theorem dX9_quick_128 : decode cX9_quick 128 = .ok (.iload 5, 2) := by decide +kernel
theorem dX9_quick_130 : decode cX9_quick 130 = .ok (.iaload, 1) := by decide +kernel
theorem dX9_quick_131 : decode cX9_quick 131 = .ok (.istore 6, 2) := by decide +kernel
theorem dX9_quick_133 : decode cX9_quick 133 = .ok (.iload 6, 2) := by decide +kernel
theorem dX9_quick_135 : decode cX9_quick 135 = .ok (.invokestatic 55, 3) := by decide +kernel
theorem dX9_quick_138 : decode cX9_quick 138 = .ok (.iconst 2, 1) := by decide +kernel
theorem dX9_quick_139 : decode cX9_quick 139 = .ok (.iload_n 2, 1) := by decide +kernel
theorem dX9_quick_140 : decode cX9_quick 140 = .ok (.invokestatic 55, 3) := by decide +kernel
theorem dX9_quick_143 : decode cX9_quick 143 = .ok (.imul, 1) := by decide +kernel
theorem dX9_quick_144 : decode cX9_quick 144 = .ok (.isub, 1) := by decide +kernel
theorem dX9_quick_145 : decode cX9_quick 145 = .ok (.invokestatic 58, 3) := by decide +kernel
theorem dX9_quick_148 : decode cX9_quick 148 = .ok (.iconst 2, 1) := by decide +kernel
theorem dX9_quick_149 : decode cX9_quick 149 = .ok (.if_icmp .ge 26, 3) := by decide +kernel
theorem dX9_quick_152 : decode cX9_quick 152 = .ok (.iload 6, 2) := by decide +kernel
theorem dX9_quick_154 : decode cX9_quick 154 = .ok (.invokestatic 61, 3) := by decide +kernel
theorem dX9_quick_157 : decode cX9_quick 157 = .ok (.iconst 2, 1) := by decide +kernel
theorem dX9_quick_158 : decode cX9_quick 158 = .ok (.iload_n 2, 1) := by decide +kernel
theorem dX9_quick_159 : decode cX9_quick 159 = .ok (.invokestatic 61, 3) := by decide +kernel
theorem dX9_quick_162 : decode cX9_quick 162 = .ok (.imul, 1) := by decide +kernel
theorem dX9_quick_163 : decode cX9_quick 163 = .ok (.isub, 1) := by decide +kernel
theorem dX9_quick_164 : decode cX9_quick 164 = .ok (.invokestatic 58, 3) := by decide +kernel
theorem dX9_quick_167 : decode cX9_quick 167 = .ok (.iconst 2, 1) := by decide +kernel
theorem dX9_quick_168 : decode cX9_quick 168 = .ok (.if_icmp .ge 7, 3) := by decide +kernel
theorem dX9_quick_171 : decode cX9_quick 171 = .ok (.iconst 1, 1) := by decide +kernel
theorem dX9_quick_172 : decode cX9_quick 172 = .ok (.goto 4, 3) := by decide +kernel
theorem dX9_quick_175 : decode cX9_quick 175 = .ok (.iconst 0, 1) := by decide +kernel
theorem dX9_quick_176 : decode cX9_quick 176 = .ok (.istore 7, 2) := by decide +kernel
theorem dX9_quick_178 : decode cX9_quick 178 = .ok (.iload 7, 2) := by decide +kernel
theorem dX9_quick_180 : decode cX9_quick 180 = .ok (.ifCond .eq 21, 3) := by decide +kernel
theorem dX9_quick_183 : decode cX9_quick 183 = .ok (.aload_n 0, 1) := by decide +kernel
theorem dX9_quick_184 : decode cX9_quick 184 = .ok (.aload_n 0, 1) := by decide +kernel
theorem dX9_quick_185 : decode cX9_quick 185 = .ok (.getfield 7, 3) := by decide +kernel
theorem dX9_quick_188 : decode cX9_quick 188 = .ok (.sipush 192, 3) := by decide +kernel
theorem dX9_quick_191 : decode cX9_quick 191 = .ok (.iaload, 1) := by decide +kernel
theorem dX9_quick_192 : decode cX9_quick 192 = .ok (.iload_n 1, 1) := by decide +kernel
theorem dX9_quick_193 : decode cX9_quick 193 = .ok (.iload 6, 2) := by decide +kernel
theorem dX9_quick_195 : decode cX9_quick 195 = .ok (.invokevirtual 87, 3) := by decide +kernel
theorem dX9_quick_198 : decode cX9_quick 198 = .ok (.goto 5, 3) := by decide +kernel
theorem dX9_quick_201 : decode cX9_quick 201 = .ok (.ldc 109, 2) := by decide +kernel
theorem dX9_quick_203 : decode cX9_quick 203 = .ok (.istore 8, 2) := by decide +kernel
theorem dX9_quick_205 : decode cX9_quick 205 = .ok (.iload 8, 2) := by decide +kernel
theorem dX9_quick_207 : decode cX9_quick 207 = .ok (.iload_n 3, 1) := by decide +kernel
theorem dX9_quick_208 : decode cX9_quick 208 = .ok (.if_icmp .ge 8, 3) := by decide +kernel
theorem dX9_quick_211 : decode cX9_quick 211 = .ok (.iload 6, 2) := by decide +kernel
theorem dX9_quick_213 : decode cX9_quick 213 = .ok (.goto 5, 3) := by decide +kernel
theorem dX9_quick_216 : decode cX9_quick 216 = .ok (.iload 4, 2) := by decide +kernel
theorem dX9_quick_218 : decode cX9_quick 218 = .ok (.istore 4, 2) := by decide +kernel
theorem dX9_quick_220 : decode cX9_quick 220 = .ok (.iload 8, 2) := by decide +kernel
theorem dX9_quick_222 : decode cX9_quick 222 = .ok (.iload_n 3, 1) := by decide +kernel
theorem dX9_quick_223 : decode cX9_quick 223 = .ok (.if_icmp .ge 8, 3) := by decide +kernel
theorem dX9_quick_226 : decode cX9_quick 226 = .ok (.iload 8, 2) := by decide +kernel
theorem dX9_quick_228 : decode cX9_quick 228 = .ok (.goto 4, 3) := by decide +kernel
theorem dX9_quick_231 : decode cX9_quick 231 = .ok (.iload_n 3, 1) := by decide +kernel
theorem dX9_quick_232 : decode cX9_quick 232 = .ok (.istore_n 3, 1) := by decide +kernel
theorem dX9_quick_233 : decode cX9_quick 233 = .ok (.iinc 5 1, 3) := by decide +kernel
theorem dX9_quick_236 : decode cX9_quick 236 = .ok (.goto (-119), 3) := by decide +kernel
theorem dX9_quick_239 : decode cX9_quick 239 = .ok (.iload 4, 2) := by decide +kernel
theorem dX9_quick_241 : decode cX9_quick 241 = .ok (.ireturn, 1) := by decide +kernel
theorem dX9_halved_0 : decode cX9_halved 0 = .ok (.aload_n 0, 1) := by decide +kernel
theorem dX9_halved_1 : decode cX9_halved 1 = .ok (.iconst 0, 1) := by decide +kernel
theorem dX9_halved_2 : decode cX9_halved 2 = .ok (.iload_n 1, 1) := by decide +kernel
theorem dX9_halved_3 : decode cX9_halved 3 = .ok (.iload_n 2, 1) := by decide +kernel
theorem dX9_halved_4 : decode cX9_halved 4 = .ok (.invokevirtual 76, 3) := by decide +kernel
theorem dX9_halved_7 : decode cX9_halved 7 = .ok (.istore 5, 2) := by decide +kernel
theorem dX9_halved_9 : decode cX9_halved 9 = .ok (.iload_n 3, 1) := by decide +kernel
theorem dX9_halved_10 : decode cX9_halved 10 = .ok (.ifCond .ne 11, 3) := by decide +kernel
theorem dX9_halved_13 : decode cX9_halved 13 = .ok (.iload 4, 2) := by decide +kernel
theorem dX9_halved_15 : decode cX9_halved 15 = .ok (.ifCond .ne 6, 3) := by decide +kernel
theorem dX9_halved_18 : decode cX9_halved 18 = .ok (.iload 5, 2) := by decide +kernel
theorem dX9_halved_20 : decode cX9_halved 20 = .ok (.ireturn, 1) := by decide +kernel
theorem dX9_halved_21 : decode cX9_halved 21 = .ok (.iload_n 3, 1) := by decide +kernel
theorem dX9_halved_22 : decode cX9_halved 22 = .ok (.ifCond .eq 47, 3) := by decide +kernel
theorem dX9_halved_25 : decode cX9_halved 25 = .ok (.iload 4, 2) := by decide +kernel
theorem dX9_halved_27 : decode cX9_halved 27 = .ok (.ifCond .eq 42, 3) := by decide +kernel
theorem dX9_halved_30 : decode cX9_halved 30 = .ok (.iload 5, 2) := by decide +kernel
theorem dX9_halved_32 : decode cX9_halved 32 = .ok (.aload_n 0, 1) := by decide +kernel
theorem dX9_halved_33 : decode cX9_halved 33 = .ok (.iconst 0, 1) := by decide +kernel
theorem dX9_halved_34 : decode cX9_halved 34 = .ok (.iload_n 1, 1) := by decide +kernel
theorem dX9_halved_35 : decode cX9_halved 35 = .ok (.iload_n 3, 1) := by decide +kernel
theorem dX9_halved_36 : decode cX9_halved 36 = .ok (.iadd, 1) := by decide +kernel
theorem dX9_halved_37 : decode cX9_halved 37 = .ok (.iload_n 2, 1) := by decide +kernel
theorem dX9_halved_38 : decode cX9_halved 38 = .ok (.invokevirtual 76, 3) := by decide +kernel
theorem dX9_halved_41 : decode cX9_halved 41 = .ok (.iadd, 1) := by decide +kernel
theorem dX9_halved_42 : decode cX9_halved 42 = .ok (.aload_n 0, 1) := by decide +kernel
theorem dX9_halved_43 : decode cX9_halved 43 = .ok (.iconst 0, 1) := by decide +kernel
theorem dX9_halved_44 : decode cX9_halved 44 = .ok (.iload_n 1, 1) := by decide +kernel
theorem dX9_halved_45 : decode cX9_halved 45 = .ok (.iload_n 2, 1) := by decide +kernel
theorem dX9_halved_46 : decode cX9_halved 46 = .ok (.iload 4, 2) := by decide +kernel
theorem dX9_halved_48 : decode cX9_halved 48 = .ok (.iadd, 1) := by decide +kernel
theorem dX9_halved_49 : decode cX9_halved 49 = .ok (.invokevirtual 76, 3) := by decide +kernel
theorem dX9_halved_52 : decode cX9_halved 52 = .ok (.iadd, 1) := by decide +kernel
theorem dX9_halved_53 : decode cX9_halved 53 = .ok (.aload_n 0, 1) := by decide +kernel
theorem dX9_halved_54 : decode cX9_halved 54 = .ok (.iconst 0, 1) := by decide +kernel
theorem dX9_halved_55 : decode cX9_halved 55 = .ok (.iload_n 1, 1) := by decide +kernel
theorem dX9_halved_56 : decode cX9_halved 56 = .ok (.iload_n 3, 1) := by decide +kernel
theorem dX9_halved_57 : decode cX9_halved 57 = .ok (.iadd, 1) := by decide +kernel
theorem dX9_halved_58 : decode cX9_halved 58 = .ok (.iload_n 2, 1) := by decide +kernel
theorem dX9_halved_59 : decode cX9_halved 59 = .ok (.iload 4, 2) := by decide +kernel
theorem dX9_halved_61 : decode cX9_halved 61 = .ok (.iadd, 1) := by decide +kernel
theorem dX9_halved_62 : decode cX9_halved 62 = .ok (.invokevirtual 76, 3) := by decide +kernel
theorem dX9_halved_65 : decode cX9_halved 65 = .ok (.iadd, 1) := by decide +kernel
theorem dX9_halved_66 : decode cX9_halved 66 = .ok (.iconst 4, 1) := by decide +kernel
theorem dX9_halved_67 : decode cX9_halved 67 = .ok (.idiv, 1) := by decide +kernel
theorem dX9_halved_68 : decode cX9_halved 68 = .ok (.ireturn, 1) := by decide +kernel
theorem dX9_halved_69 : decode cX9_halved 69 = .ok (.iload 5, 2) := by decide +kernel
theorem dX9_halved_71 : decode cX9_halved 71 = .ok (.aload_n 0, 1) := by decide +kernel
theorem dX9_halved_72 : decode cX9_halved 72 = .ok (.iconst 0, 1) := by decide +kernel
theorem dX9_halved_73 : decode cX9_halved 73 = .ok (.iload_n 1, 1) := by decide +kernel
theorem dX9_halved_74 : decode cX9_halved 74 = .ok (.iload_n 3, 1) := by decide +kernel
theorem dX9_halved_75 : decode cX9_halved 75 = .ok (.iadd, 1) := by decide +kernel
theorem dX9_halved_76 : decode cX9_halved 76 = .ok (.iload_n 2, 1) := by decide +kernel
theorem dX9_halved_77 : decode cX9_halved 77 = .ok (.iload 4, 2) := by decide +kernel
theorem dX9_halved_79 : decode cX9_halved 79 = .ok (.iadd, 1) := by decide +kernel
theorem dX9_halved_80 : decode cX9_halved 80 = .ok (.invokevirtual 76, 3) := by decide +kernel
theorem dX9_halved_83 : decode cX9_halved 83 = .ok (.iadd, 1) := by decide +kernel
theorem dX9_halved_84 : decode cX9_halved 84 = .ok (.iconst 2, 1) := by decide +kernel
theorem dX9_halved_85 : decode cX9_halved 85 = .ok (.idiv, 1) := by decide +kernel
theorem dX9_halved_86 : decode cX9_halved 86 = .ok (.ireturn, 1) := by decide +kernel
theorem dX9_halvedCost_0 : decode cX9_halvedCost 0 = .ok (.iconst 0, 1) := by decide +kernel
theorem dX9_halvedCost_1 : decode cX9_halvedCost 1 = .ok (.istore 5, 2) := by decide +kernel
theorem dX9_halvedCost_3 : decode cX9_halvedCost 3 = .ok (.iconst 0, 1) := by decide +kernel
theorem dX9_halvedCost_4 : decode cX9_halvedCost 4 = .ok (.istore 6, 2) := by decide +kernel
theorem dX9_halvedCost_6 : decode cX9_halvedCost 6 = .ok (.iload 6, 2) := by decide +kernel
theorem dX9_halvedCost_8 : decode cX9_halvedCost 8 = .ok (.bipush 16, 2) := by decide +kernel
theorem dX9_halvedCost_10 : decode cX9_halvedCost 10 = .ok (.if_icmp .ge 73, 3) := by decide +kernel
theorem dX9_halvedCost_13 : decode cX9_halvedCost 13 = .ok (.iconst 4, 1) := by decide +kernel
theorem dX9_halvedCost_14 : decode cX9_halvedCost 14 = .ok (.iload_n 1, 1) := by decide +kernel
theorem dX9_halvedCost_15 : decode cX9_halvedCost 15 = .ok (.iconst 3, 1) := by decide +kernel
theorem dX9_halvedCost_16 : decode cX9_halvedCost 16 = .ok (.irem, 1) := by decide +kernel
theorem dX9_halvedCost_17 : decode cX9_halvedCost 17 = .ok (.imul, 1) := by decide +kernel
theorem dX9_halvedCost_18 : decode cX9_halvedCost 18 = .ok (.iload 6, 2) := by decide +kernel
theorem dX9_halvedCost_20 : decode cX9_halvedCost 20 = .ok (.iconst 4, 1) := by decide +kernel
theorem dX9_halvedCost_21 : decode cX9_halvedCost 21 = .ok (.irem, 1) := by decide +kernel
theorem dX9_halvedCost_22 : decode cX9_halvedCost 22 = .ok (.iadd, 1) := by decide +kernel
theorem dX9_halvedCost_23 : decode cX9_halvedCost 23 = .ok (.istore 7, 2) := by decide +kernel
theorem dX9_halvedCost_25 : decode cX9_halvedCost 25 = .ok (.iconst 4, 1) := by decide +kernel
theorem dX9_halvedCost_26 : decode cX9_halvedCost 26 = .ok (.iload_n 1, 1) := by decide +kernel
theorem dX9_halvedCost_27 : decode cX9_halvedCost 27 = .ok (.iconst 3, 1) := by decide +kernel
theorem dX9_halvedCost_28 : decode cX9_halvedCost 28 = .ok (.idiv, 1) := by decide +kernel
theorem dX9_halvedCost_29 : decode cX9_halvedCost 29 = .ok (.imul, 1) := by decide +kernel
theorem dX9_halvedCost_30 : decode cX9_halvedCost 30 = .ok (.iload 6, 2) := by decide +kernel
theorem dX9_halvedCost_32 : decode cX9_halvedCost 32 = .ok (.iconst 4, 1) := by decide +kernel
theorem dX9_halvedCost_33 : decode cX9_halvedCost 33 = .ok (.idiv, 1) := by decide +kernel
theorem dX9_halvedCost_34 : decode cX9_halvedCost 34 = .ok (.iadd, 1) := by decide +kernel
theorem dX9_halvedCost_35 : decode cX9_halvedCost 35 = .ok (.istore 8, 2) := by decide +kernel
theorem dX9_halvedCost_37 : decode cX9_halvedCost 37 = .ok (.iload 5, 2) := by decide +kernel
theorem dX9_halvedCost_39 : decode cX9_halvedCost 39 = .ok (.aload_n 0, 1) := by decide +kernel
theorem dX9_halvedCost_40 : decode cX9_halvedCost 40 = .ok (.bipush 96, 2) := by decide +kernel
theorem dX9_halvedCost_42 : decode cX9_halvedCost 42 = .ok (.iload 7, 2) := by decide +kernel
theorem dX9_halvedCost_44 : decode cX9_halvedCost 44 = .ok (.iload 8, 2) := by decide +kernel
theorem dX9_halvedCost_46 : decode cX9_halvedCost 46 = .ok (.invokevirtual 76, 3) := by decide +kernel
theorem dX9_halvedCost_49 : decode cX9_halvedCost 49 = .ok (.aload_n 0, 1) := by decide +kernel
theorem dX9_halvedCost_50 : decode cX9_halvedCost 50 = .ok (.iload 7, 2) := by decide +kernel
theorem dX9_halvedCost_52 : decode cX9_halvedCost 52 = .ok (.iload_n 2, 1) := by decide +kernel
theorem dX9_halvedCost_53 : decode cX9_halvedCost 53 = .ok (.invokestatic 55, 3) := by decide +kernel
theorem dX9_halvedCost_56 : decode cX9_halvedCost 56 = .ok (.iadd, 1) := by decide +kernel
theorem dX9_halvedCost_57 : decode cX9_halvedCost 57 = .ok (.iload 8, 2) := by decide +kernel
theorem dX9_halvedCost_59 : decode cX9_halvedCost 59 = .ok (.iload_n 2, 1) := by decide +kernel
theorem dX9_halvedCost_60 : decode cX9_halvedCost 60 = .ok (.invokestatic 61, 3) := by decide +kernel
theorem dX9_halvedCost_63 : decode cX9_halvedCost 63 = .ok (.iadd, 1) := by decide +kernel
theorem dX9_halvedCost_64 : decode cX9_halvedCost 64 = .ok (.iload_n 3, 1) := by decide +kernel
theorem dX9_halvedCost_65 : decode cX9_halvedCost 65 = .ok (.iload 4, 2) := by decide +kernel
theorem dX9_halvedCost_67 : decode cX9_halvedCost 67 = .ok (.invokevirtual 113, 3) := by decide +kernel
theorem dX9_halvedCost_70 : decode cX9_halvedCost 70 = .ok (.isub, 1) := by decide +kernel
theorem dX9_halvedCost_71 : decode cX9_halvedCost 71 = .ok (.invokestatic 58, 3) := by decide +kernel
theorem dX9_halvedCost_74 : decode cX9_halvedCost 74 = .ok (.iadd, 1) := by decide +kernel
theorem dX9_halvedCost_75 : decode cX9_halvedCost 75 = .ok (.istore 5, 2) := by decide +kernel
theorem dX9_halvedCost_77 : decode cX9_halvedCost 77 = .ok (.iinc 6 1, 3) := by decide +kernel
theorem dX9_halvedCost_80 : decode cX9_halvedCost 80 = .ok (.goto (-74), 3) := by decide +kernel
theorem dX9_halvedCost_83 : decode cX9_halvedCost 83 = .ok (.iload 5, 2) := by decide +kernel
theorem dX9_halvedCost_85 : decode cX9_halvedCost 85 = .ok (.ireturn, 1) := by decide +kernel
theorem dX9_half_0 : decode cX9_half 0 = .ok (.aload_n 0, 1) := by decide +kernel
theorem dX9_half_1 : decode cX9_half 1 = .ok (.iload_n 1, 1) := by decide +kernel
theorem dX9_half_2 : decode cX9_half 2 = .ok (.invokevirtual 116, 3) := by decide +kernel
theorem dX9_half_5 : decode cX9_half 5 = .ok (.istore_n 3, 1) := by decide +kernel
theorem dX9_half_6 : decode cX9_half 6 = .ok (.iconst 0, 1) := by decide +kernel
theorem dX9_half_7 : decode cX9_half 7 = .ok (.istore 4, 2) := by decide +kernel
theorem dX9_half_9 : decode cX9_half 9 = .ok (.ldc 109, 2) := by decide +kernel
theorem dX9_half_11 : decode cX9_half 11 = .ok (.istore 5, 2) := by decide +kernel
theorem dX9_half_13 : decode cX9_half 13 = .ok (.iconst 0, 1) := by decide +kernel
theorem dX9_half_14 : decode cX9_half 14 = .ok (.istore 6, 2) := by decide +kernel
theorem dX9_half_16 : decode cX9_half 16 = .ok (.iload 6, 2) := by decide +kernel
theorem dX9_half_18 : decode cX9_half 18 = .ok (.bipush 9, 2) := by decide +kernel
theorem dX9_half_20 : decode cX9_half 20 = .ok (.if_icmp .ge 61, 3) := by decide +kernel
theorem dX9_half_23 : decode cX9_half 23 = .ok (.aload_n 0, 1) := by decide +kernel
theorem dX9_half_24 : decode cX9_half 24 = .ok (.iload_n 1, 1) := by decide +kernel
theorem dX9_half_25 : decode cX9_half 25 = .ok (.iload_n 3, 1) := by decide +kernel
theorem dX9_half_26 : decode cX9_half 26 = .ok (.iload 6, 2) := by decide +kernel
theorem dX9_half_28 : decode cX9_half 28 = .ok (.iconst 3, 1) := by decide +kernel
theorem dX9_half_29 : decode cX9_half 29 = .ok (.irem, 1) := by decide +kernel
theorem dX9_half_30 : decode cX9_half 30 = .ok (.iconst 1, 1) := by decide +kernel
theorem dX9_half_31 : decode cX9_half 31 = .ok (.isub, 1) := by decide +kernel
theorem dX9_half_32 : decode cX9_half 32 = .ok (.iload 6, 2) := by decide +kernel
theorem dX9_half_34 : decode cX9_half 34 = .ok (.iconst 3, 1) := by decide +kernel
theorem dX9_half_35 : decode cX9_half 35 = .ok (.idiv, 1) := by decide +kernel
theorem dX9_half_36 : decode cX9_half 36 = .ok (.iconst 1, 1) := by decide +kernel
theorem dX9_half_37 : decode cX9_half 37 = .ok (.isub, 1) := by decide +kernel
theorem dX9_half_38 : decode cX9_half 38 = .ok (.invokevirtual 119, 3) := by decide +kernel
theorem dX9_half_41 : decode cX9_half 41 = .ok (.istore 7, 2) := by decide +kernel
theorem dX9_half_43 : decode cX9_half 43 = .ok (.iload 7, 2) := by decide +kernel
theorem dX9_half_45 : decode cX9_half 45 = .ok (.iload 5, 2) := by decide +kernel
theorem dX9_half_47 : decode cX9_half 47 = .ok (.if_icmp .ge 8, 3) := by decide +kernel
theorem dX9_half_50 : decode cX9_half 50 = .ok (.iload 6, 2) := by decide +kernel
theorem dX9_half_52 : decode cX9_half 52 = .ok (.goto 5, 3) := by decide +kernel
theorem dX9_half_55 : decode cX9_half 55 = .ok (.iload 4, 2) := by decide +kernel
theorem dX9_half_57 : decode cX9_half 57 = .ok (.istore 4, 2) := by decide +kernel
theorem dX9_half_59 : decode cX9_half 59 = .ok (.iload 7, 2) := by decide +kernel
theorem dX9_half_61 : decode cX9_half 61 = .ok (.iload 5, 2) := by decide +kernel
theorem dX9_half_63 : decode cX9_half 63 = .ok (.if_icmp .ge 8, 3) := by decide +kernel
theorem dX9_half_66 : decode cX9_half 66 = .ok (.iload 7, 2) := by decide +kernel
theorem dX9_half_68 : decode cX9_half 68 = .ok (.goto 5, 3) := by decide +kernel
theorem dX9_half_71 : decode cX9_half 71 = .ok (.iload 5, 2) := by decide +kernel
theorem dX9_half_73 : decode cX9_half 73 = .ok (.istore 5, 2) := by decide +kernel
theorem dX9_half_75 : decode cX9_half 75 = .ok (.iinc 6 1, 3) := by decide +kernel
theorem dX9_half_78 : decode cX9_half 78 = .ok (.goto (-62), 3) := by decide +kernel
theorem dX9_half_81 : decode cX9_half 81 = .ok (.iload_n 2, 1) := by decide +kernel
theorem dX9_half_82 : decode cX9_half 82 = .ok (.ifCond .eq 8, 3) := by decide +kernel
theorem dX9_half_85 : decode cX9_half 85 = .ok (.iload 4, 2) := by decide +kernel
theorem dX9_half_87 : decode cX9_half 87 = .ok (.goto 5, 3) := by decide +kernel
theorem dX9_half_90 : decode cX9_half 90 = .ok (.iload 5, 2) := by decide +kernel
theorem dX9_half_92 : decode cX9_half 92 = .ok (.ireturn, 1) := by decide +kernel
theorem dX9_lays_0 : decode cX9_lays 0 = .ok (.iconst 0, 1) := by decide +kernel
theorem dX9_lays_1 : decode cX9_lays 1 = .ok (.istore_n 1, 1) := by decide +kernel
theorem dX9_lays_2 : decode cX9_lays 2 = .ok (.iload_n 1, 1) := by decide +kernel
theorem dX9_lays_3 : decode cX9_lays 3 = .ok (.bipush 6, 2) := by decide +kernel
theorem dX9_lays_5 : decode cX9_lays 5 = .ok (.if_icmp .ge 20, 3) := by decide +kernel
theorem dX9_lays_8 : decode cX9_lays 8 = .ok (.aload_n 0, 1) := by decide +kernel
theorem dX9_lays_9 : decode cX9_lays 9 = .ok (.getfield 16, 3) := by decide +kernel
theorem dX9_lays_12 : decode cX9_lays 12 = .ok (.iload_n 1, 1) := by decide +kernel
theorem dX9_lays_13 : decode cX9_lays 13 = .ok (.aload_n 0, 1) := by decide +kernel
theorem dX9_lays_14 : decode cX9_lays 14 = .ok (.iload_n 1, 1) := by decide +kernel
theorem dX9_lays_15 : decode cX9_lays 15 = .ok (.invokevirtual 116, 3) := by decide +kernel
theorem dX9_lays_18 : decode cX9_lays 18 = .ok (.iastore, 1) := by decide +kernel
theorem dX9_lays_19 : decode cX9_lays 19 = .ok (.iinc 1 1, 3) := by decide +kernel
theorem dX9_lays_22 : decode cX9_lays 22 = .ok (.goto (-20), 3) := by decide +kernel
theorem dX9_lays_25 : decode cX9_lays 25 = .ok (.return_, 1) := by decide +kernel
theorem dX9_part_0 : decode cX9_part 0 = .ok (.iload_n 2, 1) := by decide +kernel
theorem dX9_part_1 : decode cX9_part 1 = .ok (.ifCond .eq 15, 3) := by decide +kernel
theorem dX9_part_4 : decode cX9_part 4 = .ok (.aload_n 0, 1) := by decide +kernel
theorem dX9_part_5 : decode cX9_part 5 = .ok (.getfield 16, 3) := by decide +kernel
theorem dX9_part_8 : decode cX9_part 8 = .ok (.iload_n 1, 1) := by decide +kernel
theorem dX9_part_9 : decode cX9_part 9 = .ok (.iaload, 1) := by decide +kernel
theorem dX9_part_10 : decode cX9_part 10 = .ok (.invokestatic 55, 3) := by decide +kernel
theorem dX9_part_13 : decode cX9_part 13 = .ok (.goto 12, 3) := by decide +kernel
theorem dX9_part_16 : decode cX9_part 16 = .ok (.aload_n 0, 1) := by decide +kernel
theorem dX9_part_17 : decode cX9_part 17 = .ok (.getfield 16, 3) := by decide +kernel
theorem dX9_part_20 : decode cX9_part 20 = .ok (.iload_n 1, 1) := by decide +kernel
theorem dX9_part_21 : decode cX9_part 21 = .ok (.iaload, 1) := by decide +kernel
theorem dX9_part_22 : decode cX9_part 22 = .ok (.invokestatic 61, 3) := by decide +kernel
theorem dX9_part_25 : decode cX9_part 25 = .ok (.ireturn, 1) := by decide +kernel
theorem dX9_foretold_0 : decode cX9_foretold 0 = .ok (.iload_n 1, 1) := by decide +kernel
theorem dX9_foretold_1 : decode cX9_foretold 1 = .ok (.iconst 3, 1) := by decide +kernel
theorem dX9_foretold_2 : decode cX9_foretold 2 = .ok (.irem, 1) := by decide +kernel
theorem dX9_foretold_3 : decode cX9_foretold 3 = .ok (.ifCond .le 7, 3) := by decide +kernel
theorem dX9_foretold_6 : decode cX9_foretold 6 = .ok (.iconst 1, 1) := by decide +kernel
theorem dX9_foretold_7 : decode cX9_foretold 7 = .ok (.goto 4, 3) := by decide +kernel
theorem dX9_foretold_10 : decode cX9_foretold 10 = .ok (.iconst 0, 1) := by decide +kernel
theorem dX9_foretold_11 : decode cX9_foretold 11 = .ok (.istore_n 3, 1) := by decide +kernel
theorem dX9_foretold_12 : decode cX9_foretold 12 = .ok (.iload_n 1, 1) := by decide +kernel
theorem dX9_foretold_13 : decode cX9_foretold 13 = .ok (.iconst 2, 1) := by decide +kernel
theorem dX9_foretold_14 : decode cX9_foretold 14 = .ok (.if_icmp .le 7, 3) := by decide +kernel
theorem dX9_foretold_17 : decode cX9_foretold 17 = .ok (.iconst 1, 1) := by decide +kernel
theorem dX9_foretold_18 : decode cX9_foretold 18 = .ok (.goto 4, 3) := by decide +kernel
theorem dX9_foretold_21 : decode cX9_foretold 21 = .ok (.iconst 0, 1) := by decide +kernel
theorem dX9_foretold_22 : decode cX9_foretold 22 = .ok (.istore 4, 2) := by decide +kernel
theorem dX9_foretold_24 : decode cX9_foretold 24 = .ok (.iload 4, 2) := by decide +kernel
theorem dX9_foretold_26 : decode cX9_foretold 26 = .ok (.ifCond .eq 14, 3) := by decide +kernel
theorem dX9_foretold_29 : decode cX9_foretold 29 = .ok (.iload_n 1, 1) := by decide +kernel
theorem dX9_foretold_30 : decode cX9_foretold 30 = .ok (.iconst 3, 1) := by decide +kernel
theorem dX9_foretold_31 : decode cX9_foretold 31 = .ok (.irem, 1) := by decide +kernel
theorem dX9_foretold_32 : decode cX9_foretold 32 = .ok (.iconst 2, 1) := by decide +kernel
theorem dX9_foretold_33 : decode cX9_foretold 33 = .ok (.if_icmp .ge 7, 3) := by decide +kernel
theorem dX9_foretold_36 : decode cX9_foretold 36 = .ok (.iconst 1, 1) := by decide +kernel
theorem dX9_foretold_37 : decode cX9_foretold 37 = .ok (.goto 4, 3) := by decide +kernel
theorem dX9_foretold_40 : decode cX9_foretold 40 = .ok (.iconst 0, 1) := by decide +kernel
theorem dX9_foretold_41 : decode cX9_foretold 41 = .ok (.istore 5, 2) := by decide +kernel
theorem dX9_foretold_43 : decode cX9_foretold 43 = .ok (.iload_n 3, 1) := by decide +kernel
theorem dX9_foretold_44 : decode cX9_foretold 44 = .ok (.ifCond .eq 14, 3) := by decide +kernel
theorem dX9_foretold_47 : decode cX9_foretold 47 = .ok (.aload_n 0, 1) := by decide +kernel
theorem dX9_foretold_48 : decode cX9_foretold 48 = .ok (.iload_n 1, 1) := by decide +kernel
theorem dX9_foretold_49 : decode cX9_foretold 49 = .ok (.iconst 1, 1) := by decide +kernel
theorem dX9_foretold_50 : decode cX9_foretold 50 = .ok (.isub, 1) := by decide +kernel
theorem dX9_foretold_51 : decode cX9_foretold 51 = .ok (.iload_n 2, 1) := by decide +kernel
theorem dX9_foretold_52 : decode cX9_foretold 52 = .ok (.invokevirtual 122, 3) := by decide +kernel
theorem dX9_foretold_55 : decode cX9_foretold 55 = .ok (.goto 5, 3) := by decide +kernel
theorem dX9_foretold_58 : decode cX9_foretold 58 = .ok (.bipush 9, 2) := by decide +kernel
theorem dX9_foretold_60 : decode cX9_foretold 60 = .ok (.istore 6, 2) := by decide +kernel
theorem dX9_foretold_62 : decode cX9_foretold 62 = .ok (.iload 4, 2) := by decide +kernel
theorem dX9_foretold_64 : decode cX9_foretold 64 = .ok (.ifCond .eq 14, 3) := by decide +kernel
theorem dX9_foretold_67 : decode cX9_foretold 67 = .ok (.aload_n 0, 1) := by decide +kernel
theorem dX9_foretold_68 : decode cX9_foretold 68 = .ok (.iload_n 1, 1) := by decide +kernel
theorem dX9_foretold_69 : decode cX9_foretold 69 = .ok (.iconst 3, 1) := by decide +kernel
theorem dX9_foretold_70 : decode cX9_foretold 70 = .ok (.isub, 1) := by decide +kernel
theorem dX9_foretold_71 : decode cX9_foretold 71 = .ok (.iload_n 2, 1) := by decide +kernel
theorem dX9_foretold_72 : decode cX9_foretold 72 = .ok (.invokevirtual 122, 3) := by decide +kernel
theorem dX9_foretold_75 : decode cX9_foretold 75 = .ok (.goto 5, 3) := by decide +kernel
theorem dX9_foretold_78 : decode cX9_foretold 78 = .ok (.bipush 9, 2) := by decide +kernel
theorem dX9_foretold_80 : decode cX9_foretold 80 = .ok (.istore 7, 2) := by decide +kernel
theorem dX9_foretold_82 : decode cX9_foretold 82 = .ok (.iload 5, 2) := by decide +kernel
theorem dX9_foretold_84 : decode cX9_foretold 84 = .ok (.ifCond .eq 14, 3) := by decide +kernel
theorem dX9_foretold_87 : decode cX9_foretold 87 = .ok (.aload_n 0, 1) := by decide +kernel
theorem dX9_foretold_88 : decode cX9_foretold 88 = .ok (.iload_n 1, 1) := by decide +kernel
theorem dX9_foretold_89 : decode cX9_foretold 89 = .ok (.iconst 2, 1) := by decide +kernel
theorem dX9_foretold_90 : decode cX9_foretold 90 = .ok (.isub, 1) := by decide +kernel
theorem dX9_foretold_91 : decode cX9_foretold 91 = .ok (.iload_n 2, 1) := by decide +kernel
theorem dX9_foretold_92 : decode cX9_foretold 92 = .ok (.invokevirtual 122, 3) := by decide +kernel
theorem dX9_foretold_95 : decode cX9_foretold 95 = .ok (.goto 5, 3) := by decide +kernel
theorem dX9_foretold_98 : decode cX9_foretold 98 = .ok (.bipush 9, 2) := by decide +kernel
theorem dX9_foretold_100 : decode cX9_foretold 100 = .ok (.istore 8, 2) := by decide +kernel
theorem dX9_foretold_102 : decode cX9_foretold 102 = .ok (.iload_n 3, 1) := by decide +kernel
theorem dX9_foretold_103 : decode cX9_foretold 103 = .ok (.ifCond .eq 7, 3) := by decide +kernel
theorem dX9_foretold_106 : decode cX9_foretold 106 = .ok (.iconst 1, 1) := by decide +kernel
theorem dX9_foretold_107 : decode cX9_foretold 107 = .ok (.goto 4, 3) := by decide +kernel
theorem dX9_foretold_110 : decode cX9_foretold 110 = .ok (.iconst 0, 1) := by decide +kernel
theorem dX9_foretold_111 : decode cX9_foretold 111 = .ok (.iload 4, 2) := by decide +kernel
theorem dX9_foretold_113 : decode cX9_foretold 113 = .ok (.ifCond .eq 7, 3) := by decide +kernel
theorem dX9_foretold_116 : decode cX9_foretold 116 = .ok (.iconst 1, 1) := by decide +kernel
theorem dX9_foretold_117 : decode cX9_foretold 117 = .ok (.goto 4, 3) := by decide +kernel
theorem dX9_foretold_120 : decode cX9_foretold 120 = .ok (.iconst 0, 1) := by decide +kernel
theorem dX9_foretold_121 : decode cX9_foretold 121 = .ok (.iadd, 1) := by decide +kernel
theorem dX9_foretold_122 : decode cX9_foretold 122 = .ok (.iload 5, 2) := by decide +kernel
theorem dX9_foretold_124 : decode cX9_foretold 124 = .ok (.ifCond .eq 7, 3) := by decide +kernel
theorem dX9_foretold_127 : decode cX9_foretold 127 = .ok (.iconst 1, 1) := by decide +kernel
theorem dX9_foretold_128 : decode cX9_foretold 128 = .ok (.goto 4, 3) := by decide +kernel
theorem dX9_foretold_131 : decode cX9_foretold 131 = .ok (.iconst 0, 1) := by decide +kernel
theorem dX9_foretold_132 : decode cX9_foretold 132 = .ok (.iadd, 1) := by decide +kernel
theorem dX9_foretold_133 : decode cX9_foretold 133 = .ok (.istore 9, 2) := by decide +kernel
theorem dX9_foretold_135 : decode cX9_foretold 135 = .ok (.iload 6, 2) := by decide +kernel
theorem dX9_foretold_137 : decode cX9_foretold 137 = .ok (.iload 7, 2) := by decide +kernel
theorem dX9_foretold_139 : decode cX9_foretold 139 = .ok (.if_icmp .ge 20, 3) := by decide +kernel
theorem dX9_foretold_142 : decode cX9_foretold 142 = .ok (.iload 6, 2) := by decide +kernel
theorem dX9_foretold_144 : decode cX9_foretold 144 = .ok (.iload 8, 2) := by decide +kernel
theorem dX9_foretold_146 : decode cX9_foretold 146 = .ok (.if_icmp .ge 8, 3) := by decide +kernel
theorem dX9_foretold_149 : decode cX9_foretold 149 = .ok (.iload 6, 2) := by decide +kernel
theorem dX9_foretold_151 : decode cX9_foretold 151 = .ok (.goto 22, 3) := by decide +kernel
theorem dX9_foretold_154 : decode cX9_foretold 154 = .ok (.iload 8, 2) := by decide +kernel
theorem dX9_foretold_156 : decode cX9_foretold 156 = .ok (.goto 17, 3) := by decide +kernel
theorem dX9_foretold_159 : decode cX9_foretold 159 = .ok (.iload 7, 2) := by decide +kernel
theorem dX9_foretold_161 : decode cX9_foretold 161 = .ok (.iload 8, 2) := by decide +kernel
theorem dX9_foretold_163 : decode cX9_foretold 163 = .ok (.if_icmp .ge 8, 3) := by decide +kernel
theorem dX9_foretold_166 : decode cX9_foretold 166 = .ok (.iload 7, 2) := by decide +kernel
theorem dX9_foretold_168 : decode cX9_foretold 168 = .ok (.goto 5, 3) := by decide +kernel
theorem dX9_foretold_171 : decode cX9_foretold 171 = .ok (.iload 8, 2) := by decide +kernel
theorem dX9_foretold_173 : decode cX9_foretold 173 = .ok (.istore 10, 2) := by decide +kernel
theorem dX9_foretold_175 : decode cX9_foretold 175 = .ok (.iload 9, 2) := by decide +kernel
theorem dX9_foretold_177 : decode cX9_foretold 177 = .ok (.iconst 3, 1) := by decide +kernel
theorem dX9_foretold_178 : decode cX9_foretold 178 = .ok (.if_icmp .ge 15, 3) := by decide +kernel
theorem dX9_foretold_181 : decode cX9_foretold 181 = .ok (.iload 9, 2) := by decide +kernel
theorem dX9_foretold_183 : decode cX9_foretold 183 = .ok (.ifCond .ne 7, 3) := by decide +kernel
theorem dX9_foretold_186 : decode cX9_foretold 186 = .ok (.iconst 0, 1) := by decide +kernel
theorem dX9_foretold_187 : decode cX9_foretold 187 = .ok (.goto 5, 3) := by decide +kernel
theorem dX9_foretold_190 : decode cX9_foretold 190 = .ok (.iload 10, 2) := by decide +kernel
theorem dX9_foretold_192 : decode cX9_foretold 192 = .ok (.ireturn, 1) := by decide +kernel
theorem dX9_foretold_193 : decode cX9_foretold 193 = .ok (.iload 6, 2) := by decide +kernel
theorem dX9_foretold_195 : decode cX9_foretold 195 = .ok (.iload 7, 2) := by decide +kernel
theorem dX9_foretold_197 : decode cX9_foretold 197 = .ok (.if_icmp .le 20, 3) := by decide +kernel
theorem dX9_foretold_200 : decode cX9_foretold 200 = .ok (.iload 6, 2) := by decide +kernel
theorem dX9_foretold_202 : decode cX9_foretold 202 = .ok (.iload 8, 2) := by decide +kernel
theorem dX9_foretold_204 : decode cX9_foretold 204 = .ok (.if_icmp .le 8, 3) := by decide +kernel
theorem dX9_foretold_207 : decode cX9_foretold 207 = .ok (.iload 6, 2) := by decide +kernel
theorem dX9_foretold_209 : decode cX9_foretold 209 = .ok (.goto 22, 3) := by decide +kernel
theorem dX9_foretold_212 : decode cX9_foretold 212 = .ok (.iload 8, 2) := by decide +kernel
theorem dX9_foretold_214 : decode cX9_foretold 214 = .ok (.goto 17, 3) := by decide +kernel
theorem dX9_foretold_217 : decode cX9_foretold 217 = .ok (.iload 7, 2) := by decide +kernel
theorem dX9_foretold_219 : decode cX9_foretold 219 = .ok (.iload 8, 2) := by decide +kernel
theorem dX9_foretold_221 : decode cX9_foretold 221 = .ok (.if_icmp .le 8, 3) := by decide +kernel
theorem dX9_foretold_224 : decode cX9_foretold 224 = .ok (.iload 7, 2) := by decide +kernel
theorem dX9_foretold_226 : decode cX9_foretold 226 = .ok (.goto 5, 3) := by decide +kernel
theorem dX9_foretold_229 : decode cX9_foretold 229 = .ok (.iload 8, 2) := by decide +kernel
theorem dX9_foretold_231 : decode cX9_foretold 231 = .ok (.istore 11, 2) := by decide +kernel
theorem dX9_foretold_233 : decode cX9_foretold 233 = .ok (.iload 6, 2) := by decide +kernel
theorem dX9_foretold_235 : decode cX9_foretold 235 = .ok (.iload 7, 2) := by decide +kernel
theorem dX9_foretold_237 : decode cX9_foretold 237 = .ok (.iadd, 1) := by decide +kernel
theorem dX9_foretold_238 : decode cX9_foretold 238 = .ok (.iload 8, 2) := by decide +kernel
theorem dX9_foretold_240 : decode cX9_foretold 240 = .ok (.iadd, 1) := by decide +kernel
theorem dX9_foretold_241 : decode cX9_foretold 241 = .ok (.iload 10, 2) := by decide +kernel
theorem dX9_foretold_243 : decode cX9_foretold 243 = .ok (.isub, 1) := by decide +kernel
theorem dX9_foretold_244 : decode cX9_foretold 244 = .ok (.iload 11, 2) := by decide +kernel
theorem dX9_foretold_246 : decode cX9_foretold 246 = .ok (.isub, 1) := by decide +kernel
theorem dX9_foretold_247 : decode cX9_foretold 247 = .ok (.ireturn, 1) := by decide +kernel
theorem dX9_bitsOf_0 : decode cX9_bitsOf 0 = .ok (.iconst 1, 1) := by decide +kernel
theorem dX9_bitsOf_1 : decode cX9_bitsOf 1 = .ok (.istore_n 1, 1) := by decide +kernel
theorem dX9_bitsOf_2 : decode cX9_bitsOf 2 = .ok (.iload_n 0, 1) := by decide +kernel
theorem dX9_bitsOf_3 : decode cX9_bitsOf 3 = .ok (.invokestatic 58, 3) := by decide +kernel
theorem dX9_bitsOf_6 : decode cX9_bitsOf 6 = .ok (.istore_n 2, 1) := by decide +kernel
theorem dX9_bitsOf_7 : decode cX9_bitsOf 7 = .ok (.iload_n 2, 1) := by decide +kernel
theorem dX9_bitsOf_8 : decode cX9_bitsOf 8 = .ok (.ifCond .le 13, 3) := by decide +kernel
theorem dX9_bitsOf_11 : decode cX9_bitsOf 11 = .ok (.iinc 1 2, 3) := by decide +kernel
theorem dX9_bitsOf_14 : decode cX9_bitsOf 14 = .ok (.iload_n 2, 1) := by decide +kernel
theorem dX9_bitsOf_15 : decode cX9_bitsOf 15 = .ok (.iconst 2, 1) := by decide +kernel
theorem dX9_bitsOf_16 : decode cX9_bitsOf 16 = .ok (.idiv, 1) := by decide +kernel
theorem dX9_bitsOf_17 : decode cX9_bitsOf 17 = .ok (.istore_n 2, 1) := by decide +kernel
theorem dX9_bitsOf_18 : decode cX9_bitsOf 18 = .ok (.goto (-11), 3) := by decide +kernel
theorem dX9_bitsOf_21 : decode cX9_bitsOf 21 = .ok (.iload_n 1, 1) := by decide +kernel
theorem dX9_bitsOf_22 : decode cX9_bitsOf 22 = .ok (.ireturn, 1) := by decide +kernel
theorem dX9_longField_0 : decode cX9_longField 0 = .ok (.aload_n 0, 1) := by decide +kernel
theorem dX9_longField_1 : decode cX9_longField 1 = .ok (.invokevirtual 126, 3) := by decide +kernel
theorem dX9_longField_4 : decode cX9_longField 4 = .ok (.iconst 0, 1) := by decide +kernel
theorem dX9_longField_5 : decode cX9_longField 5 = .ok (.istore_n 1, 1) := by decide +kernel
theorem dX9_longField_6 : decode cX9_longField 6 = .ok (.iconst 0, 1) := by decide +kernel
theorem dX9_longField_7 : decode cX9_longField 7 = .ok (.istore_n 2, 1) := by decide +kernel
theorem dX9_longField_8 : decode cX9_longField 8 = .ok (.iload_n 2, 1) := by decide +kernel
theorem dX9_longField_9 : decode cX9_longField 9 = .ok (.bipush 6, 2) := by decide +kernel
theorem dX9_longField_11 : decode cX9_longField 11 = .ok (.if_icmp .ge 45, 3) := by decide +kernel
theorem dX9_longField_14 : decode cX9_longField 14 = .ok (.iload_n 1, 1) := by decide +kernel
theorem dX9_longField_15 : decode cX9_longField 15 = .ok (.aload_n 0, 1) := by decide +kernel
theorem dX9_longField_16 : decode cX9_longField 16 = .ok (.iload_n 2, 1) := by decide +kernel
theorem dX9_longField_17 : decode cX9_longField 17 = .ok (.iconst 1, 1) := by decide +kernel
theorem dX9_longField_18 : decode cX9_longField 18 = .ok (.invokevirtual 122, 3) := by decide +kernel
theorem dX9_longField_21 : decode cX9_longField 21 = .ok (.aload_n 0, 1) := by decide +kernel
theorem dX9_longField_22 : decode cX9_longField 22 = .ok (.iload_n 2, 1) := by decide +kernel
theorem dX9_longField_23 : decode cX9_longField 23 = .ok (.iconst 1, 1) := by decide +kernel
theorem dX9_longField_24 : decode cX9_longField 24 = .ok (.invokevirtual 129, 3) := by decide +kernel
theorem dX9_longField_27 : decode cX9_longField 27 = .ok (.isub, 1) := by decide +kernel
theorem dX9_longField_28 : decode cX9_longField 28 = .ok (.invokestatic 132, 3) := by decide +kernel
theorem dX9_longField_31 : decode cX9_longField 31 = .ok (.aload_n 0, 1) := by decide +kernel
theorem dX9_longField_32 : decode cX9_longField 32 = .ok (.iload_n 2, 1) := by decide +kernel
theorem dX9_longField_33 : decode cX9_longField 33 = .ok (.iconst 0, 1) := by decide +kernel
theorem dX9_longField_34 : decode cX9_longField 34 = .ok (.invokevirtual 122, 3) := by decide +kernel
theorem dX9_longField_37 : decode cX9_longField 37 = .ok (.aload_n 0, 1) := by decide +kernel
theorem dX9_longField_38 : decode cX9_longField 38 = .ok (.iload_n 2, 1) := by decide +kernel
theorem dX9_longField_39 : decode cX9_longField 39 = .ok (.iconst 0, 1) := by decide +kernel
theorem dX9_longField_40 : decode cX9_longField 40 = .ok (.invokevirtual 129, 3) := by decide +kernel
theorem dX9_longField_43 : decode cX9_longField 43 = .ok (.isub, 1) := by decide +kernel
theorem dX9_longField_44 : decode cX9_longField 44 = .ok (.invokestatic 132, 3) := by decide +kernel
theorem dX9_longField_47 : decode cX9_longField 47 = .ok (.iadd, 1) := by decide +kernel
theorem dX9_longField_48 : decode cX9_longField 48 = .ok (.iadd, 1) := by decide +kernel
theorem dX9_longField_49 : decode cX9_longField 49 = .ok (.istore_n 1, 1) := by decide +kernel
theorem dX9_longField_50 : decode cX9_longField 50 = .ok (.iinc 2 1, 3) := by decide +kernel
theorem dX9_longField_53 : decode cX9_longField 53 = .ok (.goto (-45), 3) := by decide +kernel
theorem dX9_longField_56 : decode cX9_longField 56 = .ok (.iload_n 1, 1) := by decide +kernel
theorem dX9_longField_57 : decode cX9_longField 57 = .ok (.ireturn, 1) := by decide +kernel
theorem dX9_rebuiltAt_0 : decode cX9_rebuiltAt 0 = .ok (.aload_n 0, 1) := by decide +kernel
theorem dX9_rebuiltAt_1 : decode cX9_rebuiltAt 1 = .ok (.getfield 16, 3) := by decide +kernel
theorem dX9_rebuiltAt_4 : decode cX9_rebuiltAt 4 = .ok (.iload_n 1, 1) := by decide +kernel
theorem dX9_rebuiltAt_5 : decode cX9_rebuiltAt 5 = .ok (.iconst 4, 1) := by decide +kernel
theorem dX9_rebuiltAt_6 : decode cX9_rebuiltAt 6 = .ok (.idiv, 1) := by decide +kernel
theorem dX9_rebuiltAt_7 : decode cX9_rebuiltAt 7 = .ok (.iconst 3, 1) := by decide +kernel
theorem dX9_rebuiltAt_8 : decode cX9_rebuiltAt 8 = .ok (.iload_n 2, 1) := by decide +kernel
theorem dX9_rebuiltAt_9 : decode cX9_rebuiltAt 9 = .ok (.iconst 4, 1) := by decide +kernel
theorem dX9_rebuiltAt_10 : decode cX9_rebuiltAt 10 = .ok (.idiv, 1) := by decide +kernel
theorem dX9_rebuiltAt_11 : decode cX9_rebuiltAt 11 = .ok (.imul, 1) := by decide +kernel
theorem dX9_rebuiltAt_12 : decode cX9_rebuiltAt 12 = .ok (.iadd, 1) := by decide +kernel
theorem dX9_rebuiltAt_13 : decode cX9_rebuiltAt 13 = .ok (.iaload, 1) := by decide +kernel
theorem dX9_rebuiltAt_14 : decode cX9_rebuiltAt 14 = .ok (.istore_n 3, 1) := by decide +kernel
theorem dX9_rebuiltAt_15 : decode cX9_rebuiltAt 15 = .ok (.aload_n 0, 1) := by decide +kernel
theorem dX9_rebuiltAt_16 : decode cX9_rebuiltAt 16 = .ok (.iconst 0, 1) := by decide +kernel
theorem dX9_rebuiltAt_17 : decode cX9_rebuiltAt 17 = .ok (.iload_n 1, 1) := by decide +kernel
theorem dX9_rebuiltAt_18 : decode cX9_rebuiltAt 18 = .ok (.iload_n 3, 1) := by decide +kernel
theorem dX9_rebuiltAt_19 : decode cX9_rebuiltAt 19 = .ok (.invokestatic 55, 3) := by decide +kernel
theorem dX9_rebuiltAt_22 : decode cX9_rebuiltAt 22 = .ok (.iadd, 1) := by decide +kernel
theorem dX9_rebuiltAt_23 : decode cX9_rebuiltAt 23 = .ok (.iload_n 2, 1) := by decide +kernel
theorem dX9_rebuiltAt_24 : decode cX9_rebuiltAt 24 = .ok (.iload_n 3, 1) := by decide +kernel
theorem dX9_rebuiltAt_25 : decode cX9_rebuiltAt 25 = .ok (.invokestatic 61, 3) := by decide +kernel
theorem dX9_rebuiltAt_28 : decode cX9_rebuiltAt 28 = .ok (.iadd, 1) := by decide +kernel
theorem dX9_rebuiltAt_29 : decode cX9_rebuiltAt 29 = .ok (.invokevirtual 76, 3) := by decide +kernel
theorem dX9_rebuiltAt_32 : decode cX9_rebuiltAt 32 = .ok (.ireturn, 1) := by decide +kernel
theorem dX9_lacks_0 : decode cX9_lacks 0 = .ok (.aload_n 0, 1) := by decide +kernel
theorem dX9_lacks_1 : decode cX9_lacks 1 = .ok (.invokevirtual 126, 3) := by decide +kernel
theorem dX9_lacks_4 : decode cX9_lacks 4 = .ok (.iconst 0, 1) := by decide +kernel
theorem dX9_lacks_5 : decode cX9_lacks 5 = .ok (.istore_n 1, 1) := by decide +kernel
theorem dX9_lacks_6 : decode cX9_lacks 6 = .ok (.iconst 0, 1) := by decide +kernel
theorem dX9_lacks_7 : decode cX9_lacks 7 = .ok (.istore_n 2, 1) := by decide +kernel
theorem dX9_lacks_8 : decode cX9_lacks 8 = .ok (.iload_n 2, 1) := by decide +kernel
theorem dX9_lacks_9 : decode cX9_lacks 9 = .ok (.bipush 96, 2) := by decide +kernel
theorem dX9_lacks_11 : decode cX9_lacks 11 = .ok (.if_icmp .ge 41, 3) := by decide +kernel
theorem dX9_lacks_14 : decode cX9_lacks 14 = .ok (.iload_n 1, 1) := by decide +kernel
theorem dX9_lacks_15 : decode cX9_lacks 15 = .ok (.aload_n 0, 1) := by decide +kernel
theorem dX9_lacks_16 : decode cX9_lacks 16 = .ok (.iload_n 2, 1) := by decide +kernel
theorem dX9_lacks_17 : decode cX9_lacks 17 = .ok (.bipush 12, 2) := by decide +kernel
theorem dX9_lacks_19 : decode cX9_lacks 19 = .ok (.irem, 1) := by decide +kernel
theorem dX9_lacks_20 : decode cX9_lacks 20 = .ok (.iload_n 2, 1) := by decide +kernel
theorem dX9_lacks_21 : decode cX9_lacks 21 = .ok (.bipush 12, 2) := by decide +kernel
theorem dX9_lacks_23 : decode cX9_lacks 23 = .ok (.idiv, 1) := by decide +kernel
theorem dX9_lacks_24 : decode cX9_lacks 24 = .ok (.invokevirtual 135, 3) := by decide +kernel
theorem dX9_lacks_27 : decode cX9_lacks 27 = .ok (.aload_n 0, 1) := by decide +kernel
theorem dX9_lacks_28 : decode cX9_lacks 28 = .ok (.getfield 7, 3) := by decide +kernel
theorem dX9_lacks_31 : decode cX9_lacks 31 = .ok (.bipush 96, 2) := by decide +kernel
theorem dX9_lacks_33 : decode cX9_lacks 33 = .ok (.iload_n 2, 1) := by decide +kernel
theorem dX9_lacks_34 : decode cX9_lacks 34 = .ok (.iadd, 1) := by decide +kernel
theorem dX9_lacks_35 : decode cX9_lacks 35 = .ok (.iaload, 1) := by decide +kernel
theorem dX9_lacks_36 : decode cX9_lacks 36 = .ok (.if_icmp .ne 7, 3) := by decide +kernel
theorem dX9_lacks_39 : decode cX9_lacks 39 = .ok (.iconst 0, 1) := by decide +kernel
theorem dX9_lacks_40 : decode cX9_lacks 40 = .ok (.goto 4, 3) := by decide +kernel
theorem dX9_lacks_43 : decode cX9_lacks 43 = .ok (.iconst 1, 1) := by decide +kernel
theorem dX9_lacks_44 : decode cX9_lacks 44 = .ok (.iadd, 1) := by decide +kernel
theorem dX9_lacks_45 : decode cX9_lacks 45 = .ok (.istore_n 1, 1) := by decide +kernel
theorem dX9_lacks_46 : decode cX9_lacks 46 = .ok (.iinc 2 1, 3) := by decide +kernel
theorem dX9_lacks_49 : decode cX9_lacks 49 = .ok (.goto (-41), 3) := by decide +kernel
theorem dX9_lacks_52 : decode cX9_lacks 52 = .ok (.iload_n 1, 1) := by decide +kernel
theorem dX9_lacks_53 : decode cX9_lacks 53 = .ok (.ireturn, 1) := by decide +kernel
theorem dX9_pan_0 : decode cX9_pan 0 = .ok (.ldc 108, 2) := by decide +kernel
theorem dX9_pan_2 : decode cX9_pan 2 = .ok (.istore_n 2, 1) := by decide +kernel
theorem dX9_pan_3 : decode cX9_pan 3 = .ok (.ldc 138, 2) := by decide +kernel
theorem dX9_pan_5 : decode cX9_pan 5 = .ok (.istore_n 3, 1) := by decide +kernel
theorem dX9_pan_6 : decode cX9_pan 6 = .ok (.iconst 0, 1) := by decide +kernel
theorem dX9_pan_7 : decode cX9_pan 7 = .ok (.istore 4, 2) := by decide +kernel
theorem dX9_pan_9 : decode cX9_pan 9 = .ok (.iload 4, 2) := by decide +kernel
theorem dX9_pan_11 : decode cX9_pan 11 = .ok (.bipush 49, 2) := by decide +kernel
theorem dX9_pan_13 : decode cX9_pan 13 = .ok (.if_icmp .ge 85, 3) := by decide +kernel
theorem dX9_pan_16 : decode cX9_pan 16 = .ok (.iconst 0, 1) := by decide +kernel
theorem dX9_pan_17 : decode cX9_pan 17 = .ok (.istore 5, 2) := by decide +kernel
theorem dX9_pan_19 : decode cX9_pan 19 = .ok (.iconst 0, 1) := by decide +kernel
theorem dX9_pan_20 : decode cX9_pan 20 = .ok (.istore 6, 2) := by decide +kernel
theorem dX9_pan_22 : decode cX9_pan 22 = .ok (.iload 6, 2) := by decide +kernel
theorem dX9_pan_24 : decode cX9_pan 24 = .ok (.bipush 6, 2) := by decide +kernel
theorem dX9_pan_26 : decode cX9_pan 26 = .ok (.if_icmp .ge 35, 3) := by decide +kernel
theorem dX9_pan_29 : decode cX9_pan 29 = .ok (.iload 5, 2) := by decide +kernel
theorem dX9_pan_31 : decode cX9_pan 31 = .ok (.aload_n 0, 1) := by decide +kernel
theorem dX9_pan_32 : decode cX9_pan 32 = .ok (.aload_n 0, 1) := by decide +kernel
theorem dX9_pan_33 : decode cX9_pan 33 = .ok (.getfield 7, 3) := by decide +kernel
theorem dX9_pan_36 : decode cX9_pan 36 = .ok (.sipush 192, 3) := by decide +kernel
theorem dX9_pan_39 : decode cX9_pan 39 = .ok (.iaload, 1) := by decide +kernel
theorem dX9_pan_40 : decode cX9_pan 40 = .ok (.iload 6, 2) := by decide +kernel
theorem dX9_pan_42 : decode cX9_pan 42 = .ok (.aload_n 0, 1) := by decide +kernel
theorem dX9_pan_43 : decode cX9_pan 43 = .ok (.getfield 13, 3) := by decide +kernel
theorem dX9_pan_46 : decode cX9_pan 46 = .ok (.iload 4, 2) := by decide +kernel
theorem dX9_pan_48 : decode cX9_pan 48 = .ok (.iaload, 1) := by decide +kernel
theorem dX9_pan_49 : decode cX9_pan 49 = .ok (.invokevirtual 87, 3) := by decide +kernel
theorem dX9_pan_52 : decode cX9_pan 52 = .ok (.iadd, 1) := by decide +kernel
theorem dX9_pan_53 : decode cX9_pan 53 = .ok (.istore 5, 2) := by decide +kernel
theorem dX9_pan_55 : decode cX9_pan 55 = .ok (.iinc 6 1, 3) := by decide +kernel
theorem dX9_pan_58 : decode cX9_pan 58 = .ok (.goto (-36), 3) := by decide +kernel
theorem dX9_pan_61 : decode cX9_pan 61 = .ok (.iload 5, 2) := by decide +kernel
theorem dX9_pan_63 : decode cX9_pan 63 = .ok (.iload_n 3, 1) := by decide +kernel
theorem dX9_pan_64 : decode cX9_pan 64 = .ok (.if_icmp .ge 13, 3) := by decide +kernel
theorem dX9_pan_67 : decode cX9_pan 67 = .ok (.aload_n 0, 1) := by decide +kernel
theorem dX9_pan_68 : decode cX9_pan 68 = .ok (.getfield 13, 3) := by decide +kernel
theorem dX9_pan_71 : decode cX9_pan 71 = .ok (.iload 4, 2) := by decide +kernel
theorem dX9_pan_73 : decode cX9_pan 73 = .ok (.iaload, 1) := by decide +kernel
theorem dX9_pan_74 : decode cX9_pan 74 = .ok (.goto 4, 3) := by decide +kernel
theorem dX9_pan_77 : decode cX9_pan 77 = .ok (.iload_n 2, 1) := by decide +kernel
theorem dX9_pan_78 : decode cX9_pan 78 = .ok (.istore_n 2, 1) := by decide +kernel
theorem dX9_pan_79 : decode cX9_pan 79 = .ok (.iload 5, 2) := by decide +kernel
theorem dX9_pan_81 : decode cX9_pan 81 = .ok (.iload_n 3, 1) := by decide +kernel
theorem dX9_pan_82 : decode cX9_pan 82 = .ok (.if_icmp .ge 8, 3) := by decide +kernel
theorem dX9_pan_85 : decode cX9_pan 85 = .ok (.iload 5, 2) := by decide +kernel
theorem dX9_pan_87 : decode cX9_pan 87 = .ok (.goto 4, 3) := by decide +kernel
theorem dX9_pan_90 : decode cX9_pan 90 = .ok (.iload_n 3, 1) := by decide +kernel
theorem dX9_pan_91 : decode cX9_pan 91 = .ok (.istore_n 3, 1) := by decide +kernel
theorem dX9_pan_92 : decode cX9_pan 92 = .ok (.iinc 4 1, 3) := by decide +kernel
theorem dX9_pan_95 : decode cX9_pan 95 = .ok (.goto (-86), 3) := by decide +kernel
theorem dX9_pan_98 : decode cX9_pan 98 = .ok (.iload_n 1, 1) := by decide +kernel
theorem dX9_pan_99 : decode cX9_pan 99 = .ok (.ifCond .eq 7, 3) := by decide +kernel
theorem dX9_pan_102 : decode cX9_pan 102 = .ok (.iload_n 2, 1) := by decide +kernel
theorem dX9_pan_103 : decode cX9_pan 103 = .ok (.goto 4, 3) := by decide +kernel
theorem dX9_pan_106 : decode cX9_pan 106 = .ok (.iload_n 3, 1) := by decide +kernel
theorem dX9_pan_107 : decode cX9_pan 107 = .ok (.ireturn, 1) := by decide +kernel
theorem dX9_dot_0 : decode cX9_dot 0 = .ok (.iload_n 1, 1) := by decide +kernel
theorem dX9_dot_1 : decode cX9_dot 1 = .ok (.i2l, 1) := by decide +kernel
theorem dX9_dot_2 : decode cX9_dot 2 = .ok (.ldc2_w 139, 3) := by decide +kernel
theorem dX9_dot_5 : decode cX9_dot 5 = .ok (.ldc2_w 141, 3) := by decide +kernel
theorem dX9_dot_8 : decode cX9_dot 8 = .ok (.invokestatic 70, 3) := by decide +kernel
theorem dX9_dot_11 : decode cX9_dot 11 = .ok (.ifCond .eq 46, 3) := by decide +kernel
theorem dX9_dot_14 : decode cX9_dot 14 = .ok (.iload_n 2, 1) := by decide +kernel
theorem dX9_dot_15 : decode cX9_dot 15 = .ok (.i2l, 1) := by decide +kernel
theorem dX9_dot_16 : decode cX9_dot 16 = .ok (.ldc2_w 139, 3) := by decide +kernel
theorem dX9_dot_19 : decode cX9_dot 19 = .ok (.ldc2_w 143, 3) := by decide +kernel
theorem dX9_dot_22 : decode cX9_dot 22 = .ok (.invokestatic 70, 3) := by decide +kernel
theorem dX9_dot_25 : decode cX9_dot 25 = .ok (.ifCond .eq 32, 3) := by decide +kernel
theorem dX9_dot_28 : decode cX9_dot 28 = .ok (.iload_n 3, 1) := by decide +kernel
theorem dX9_dot_29 : decode cX9_dot 29 = .ok (.i2l, 1) := by decide +kernel
theorem dX9_dot_30 : decode cX9_dot 30 = .ok (.lconst 0, 1) := by decide +kernel
theorem dX9_dot_31 : decode cX9_dot 31 = .ok (.lconst 1, 1) := by decide +kernel
theorem dX9_dot_32 : decode cX9_dot 32 = .ok (.invokestatic 70, 3) := by decide +kernel
theorem dX9_dot_35 : decode cX9_dot 35 = .ok (.ifCond .eq 22, 3) := by decide +kernel
theorem dX9_dot_38 : decode cX9_dot 38 = .ok (.aload_n 0, 1) := by decide +kernel
theorem dX9_dot_39 : decode cX9_dot 39 = .ok (.iload_n 3, 1) := by decide +kernel
theorem dX9_dot_40 : decode cX9_dot 40 = .ok (.ifCond .ne 7, 3) := by decide +kernel
theorem dX9_dot_43 : decode cX9_dot 43 = .ok (.iconst 0, 1) := by decide +kernel
theorem dX9_dot_44 : decode cX9_dot 44 = .ok (.goto 5, 3) := by decide +kernel
theorem dX9_dot_47 : decode cX9_dot 47 = .ok (.bipush 96, 2) := by decide +kernel
theorem dX9_dot_49 : decode cX9_dot 49 = .ok (.iload_n 1, 1) := by decide +kernel
theorem dX9_dot_50 : decode cX9_dot 50 = .ok (.iload_n 2, 1) := by decide +kernel
theorem dX9_dot_51 : decode cX9_dot 51 = .ok (.invokevirtual 76, 3) := by decide +kernel
theorem dX9_dot_54 : decode cX9_dot 54 = .ok (.goto 5, 3) := by decide +kernel
theorem dX9_dot_57 : decode cX9_dot 57 = .ok (.ldc 145, 2) := by decide +kernel
theorem dX9_dot_59 : decode cX9_dot 59 = .ok (.ireturn, 1) := by decide +kernel
theorem dX9_costs_0 : decode cX9_costs 0 = .ok (.iconst 0, 1) := by decide +kernel
theorem dX9_costs_1 : decode cX9_costs 1 = .ok (.istore_n 1, 1) := by decide +kernel
theorem dX9_costs_2 : decode cX9_costs 2 = .ok (.iconst 0, 1) := by decide +kernel
theorem dX9_costs_3 : decode cX9_costs 3 = .ok (.istore_n 2, 1) := by decide +kernel
theorem dX9_costs_4 : decode cX9_costs 4 = .ok (.iload_n 2, 1) := by decide +kernel
theorem dX9_costs_5 : decode cX9_costs 5 = .ok (.bipush 6, 2) := by decide +kernel
theorem dX9_costs_7 : decode cX9_costs 7 = .ok (.if_icmp .ge 30, 3) := by decide +kernel
theorem dX9_costs_10 : decode cX9_costs 10 = .ok (.iload_n 1, 1) := by decide +kernel
theorem dX9_costs_11 : decode cX9_costs 11 = .ok (.aload_n 0, 1) := by decide +kernel
theorem dX9_costs_12 : decode cX9_costs 12 = .ok (.aload_n 0, 1) := by decide +kernel
theorem dX9_costs_13 : decode cX9_costs 13 = .ok (.getfield 7, 3) := by decide +kernel
theorem dX9_costs_16 : decode cX9_costs 16 = .ok (.sipush 192, 3) := by decide +kernel
theorem dX9_costs_19 : decode cX9_costs 19 = .ok (.iaload, 1) := by decide +kernel
theorem dX9_costs_20 : decode cX9_costs 20 = .ok (.iload_n 2, 1) := by decide +kernel
theorem dX9_costs_21 : decode cX9_costs 21 = .ok (.aload_n 0, 1) := by decide +kernel
theorem dX9_costs_22 : decode cX9_costs 22 = .ok (.iload_n 2, 1) := by decide +kernel
theorem dX9_costs_23 : decode cX9_costs 23 = .ok (.invokevirtual 116, 3) := by decide +kernel
theorem dX9_costs_26 : decode cX9_costs 26 = .ok (.invokevirtual 87, 3) := by decide +kernel
theorem dX9_costs_29 : decode cX9_costs 29 = .ok (.iadd, 1) := by decide +kernel
theorem dX9_costs_30 : decode cX9_costs 30 = .ok (.istore_n 1, 1) := by decide +kernel
theorem dX9_costs_31 : decode cX9_costs 31 = .ok (.iinc 2 1, 3) := by decide +kernel
theorem dX9_costs_34 : decode cX9_costs 34 = .ok (.goto (-30), 3) := by decide +kernel
theorem dX9_costs_37 : decode cX9_costs 37 = .ok (.iload_n 1, 1) := by decide +kernel
theorem dX9_costs_38 : decode cX9_costs 38 = .ok (.ireturn, 1) := by decide +kernel
theorem dX9_wrongs_0 : decode cX9_wrongs 0 = .ok (.iconst 0, 1) := by decide +kernel
theorem dX9_wrongs_1 : decode cX9_wrongs 1 = .ok (.istore_n 1, 1) := by decide +kernel
theorem dX9_wrongs_2 : decode cX9_wrongs 2 = .ok (.iconst 0, 1) := by decide +kernel
theorem dX9_wrongs_3 : decode cX9_wrongs 3 = .ok (.istore_n 2, 1) := by decide +kernel
theorem dX9_wrongs_4 : decode cX9_wrongs 4 = .ok (.iload_n 2, 1) := by decide +kernel
theorem dX9_wrongs_5 : decode cX9_wrongs 5 = .ok (.bipush 6, 2) := by decide +kernel
theorem dX9_wrongs_7 : decode cX9_wrongs 7 = .ok (.if_icmp .ge 32, 3) := by decide +kernel
theorem dX9_wrongs_10 : decode cX9_wrongs 10 = .ok (.iload_n 1, 1) := by decide +kernel
theorem dX9_wrongs_11 : decode cX9_wrongs 11 = .ok (.aload_n 0, 1) := by decide +kernel
theorem dX9_wrongs_12 : decode cX9_wrongs 12 = .ok (.iload_n 2, 1) := by decide +kernel
theorem dX9_wrongs_13 : decode cX9_wrongs 13 = .ok (.invokevirtual 146, 3) := by decide +kernel
theorem dX9_wrongs_16 : decode cX9_wrongs 16 = .ok (.aload_n 0, 1) := by decide +kernel
theorem dX9_wrongs_17 : decode cX9_wrongs 17 = .ok (.iload_n 2, 1) := by decide +kernel
theorem dX9_wrongs_18 : decode cX9_wrongs 18 = .ok (.invokevirtual 116, 3) := by decide +kernel
theorem dX9_wrongs_21 : decode cX9_wrongs 21 = .ok (.if_icmp .ne 7, 3) := by decide +kernel
theorem dX9_wrongs_24 : decode cX9_wrongs 24 = .ok (.iconst 0, 1) := by decide +kernel
theorem dX9_wrongs_25 : decode cX9_wrongs 25 = .ok (.goto 6, 3) := by decide +kernel
theorem dX9_wrongs_28 : decode cX9_wrongs 28 = .ok (.iconst 1, 1) := by decide +kernel
theorem dX9_wrongs_29 : decode cX9_wrongs 29 = .ok (.iload_n 2, 1) := by decide +kernel
theorem dX9_wrongs_30 : decode cX9_wrongs 30 = .ok (.ishl, 1) := by decide +kernel
theorem dX9_wrongs_31 : decode cX9_wrongs 31 = .ok (.ior, 1) := by decide +kernel
theorem dX9_wrongs_32 : decode cX9_wrongs 32 = .ok (.istore_n 1, 1) := by decide +kernel
theorem dX9_wrongs_33 : decode cX9_wrongs 33 = .ok (.iinc 2 1, 3) := by decide +kernel
theorem dX9_wrongs_36 : decode cX9_wrongs 36 = .ok (.goto (-32), 3) := by decide +kernel
theorem dX9_wrongs_39 : decode cX9_wrongs 39 = .ok (.iload_n 1, 1) := by decide +kernel
theorem dX9_wrongs_40 : decode cX9_wrongs 40 = .ok (.ireturn, 1) := by decide +kernel
theorem dX9_count_0 : decode cX9_count 0 = .ok (.iload_n 1, 1) := by decide +kernel
theorem dX9_count_1 : decode cX9_count 1 = .ok (.tableswitch 96 0 7 #[47, 56, 61, 66, 71, 71, 86, 91], 47) := by decide +kernel
theorem dX9_count_48 : decode cX9_count 48 = .ok (.aload_n 0, 1) := by decide +kernel
theorem dX9_count_49 : decode cX9_count 49 = .ok (.getfield 7, 3) := by decide +kernel
theorem dX9_count_52 : decode cX9_count 52 = .ok (.sipush 192, 3) := by decide +kernel
theorem dX9_count_55 : decode cX9_count 55 = .ok (.iaload, 1) := by decide +kernel
theorem dX9_count_56 : decode cX9_count 56 = .ok (.ireturn, 1) := by decide +kernel
theorem dX9_count_57 : decode cX9_count 57 = .ok (.aload_n 0, 1) := by decide +kernel
theorem dX9_count_58 : decode cX9_count 58 = .ok (.invokevirtual 149, 3) := by decide +kernel
theorem dX9_count_61 : decode cX9_count 61 = .ok (.ireturn, 1) := by decide +kernel
theorem dX9_count_62 : decode cX9_count 62 = .ok (.aload_n 0, 1) := by decide +kernel
theorem dX9_count_63 : decode cX9_count 63 = .ok (.invokevirtual 153, 3) := by decide +kernel
theorem dX9_count_66 : decode cX9_count 66 = .ok (.ireturn, 1) := by decide +kernel
theorem dX9_count_67 : decode cX9_count 67 = .ok (.aload_n 0, 1) := by decide +kernel
theorem dX9_count_68 : decode cX9_count 68 = .ok (.invokevirtual 156, 3) := by decide +kernel
theorem dX9_count_71 : decode cX9_count 71 = .ok (.ireturn, 1) := by decide +kernel
theorem dX9_count_72 : decode cX9_count 72 = .ok (.aload_n 0, 1) := by decide +kernel
theorem dX9_count_73 : decode cX9_count 73 = .ok (.iload_n 1, 1) := by decide +kernel
theorem dX9_count_74 : decode cX9_count 74 = .ok (.iconst 4, 1) := by decide +kernel
theorem dX9_count_75 : decode cX9_count 75 = .ok (.if_icmp .ne 7, 3) := by decide +kernel
theorem dX9_count_78 : decode cX9_count 78 = .ok (.iconst 1, 1) := by decide +kernel
theorem dX9_count_79 : decode cX9_count 79 = .ok (.goto 4, 3) := by decide +kernel
theorem dX9_count_82 : decode cX9_count 82 = .ok (.iconst 0, 1) := by decide +kernel
theorem dX9_count_83 : decode cX9_count 83 = .ok (.invokevirtual 159, 3) := by decide +kernel
theorem dX9_count_86 : decode cX9_count 86 = .ok (.ireturn, 1) := by decide +kernel
theorem dX9_count_87 : decode cX9_count 87 = .ok (.aload_n 0, 1) := by decide +kernel
theorem dX9_count_88 : decode cX9_count 88 = .ok (.invokevirtual 163, 3) := by decide +kernel
theorem dX9_count_91 : decode cX9_count 91 = .ok (.ireturn, 1) := by decide +kernel
theorem dX9_count_92 : decode cX9_count 92 = .ok (.aload_n 0, 1) := by decide +kernel
theorem dX9_count_93 : decode cX9_count 93 = .ok (.getfield 166, 3) := by decide +kernel
theorem dX9_count_96 : decode cX9_count 96 = .ok (.ireturn, 1) := by decide +kernel
theorem dX9_count_97 : decode cX9_count 97 = .ok (.ldc 145, 2) := by decide +kernel
theorem dX9_count_99 : decode cX9_count 99 = .ok (.ireturn, 1) := by decide +kernel
theorem dX9_type_0 : decode cX9_type 0 = .ok (.iload_n 1, 1) := by decide +kernel
theorem dX9_type_1 : decode cX9_type 1 = .ok (.i2l, 1) := by decide +kernel
theorem dX9_type_2 : decode cX9_type 2 = .ok (.ldc2_w 169, 3) := by decide +kernel
theorem dX9_type_5 : decode cX9_type 5 = .ok (.ldc2_w 171, 3) := by decide +kernel
theorem dX9_type_8 : decode cX9_type 8 = .ok (.invokestatic 70, 3) := by decide +kernel
theorem dX9_type_11 : decode cX9_type 11 = .ok (.ifCond .ne 6, 3) := by decide +kernel
theorem dX9_type_14 : decode cX9_type 14 = .ok (.ldc 145, 2) := by decide +kernel
theorem dX9_type_16 : decode cX9_type 16 = .ok (.ireturn, 1) := by decide +kernel
theorem dX9_type_17 : decode cX9_type 17 = .ok (.aload_n 0, 1) := by decide +kernel
theorem dX9_type_18 : decode cX9_type 18 = .ok (.getfield 173, 3) := by decide +kernel
theorem dX9_type_21 : decode cX9_type 21 = .ok (.bipush 120, 2) := by decide +kernel
theorem dX9_type_23 : decode cX9_type 23 = .ok (.if_icmp .ne 6, 3) := by decide +kernel
theorem dX9_type_26 : decode cX9_type 26 = .ok (.ldc 176, 2) := by decide +kernel
theorem dX9_type_28 : decode cX9_type 28 = .ok (.ireturn, 1) := by decide +kernel
theorem dX9_type_29 : decode cX9_type 29 = .ok (.aload_n 0, 1) := by decide +kernel
theorem dX9_type_30 : decode cX9_type 30 = .ok (.getfield 19, 3) := by decide +kernel
theorem dX9_type_33 : decode cX9_type 33 = .ok (.aload_n 0, 1) := by decide +kernel
theorem dX9_type_34 : decode cX9_type 34 = .ok (.getfield 173, 3) := by decide +kernel
theorem dX9_type_37 : decode cX9_type 37 = .ok (.iload_n 1, 1) := by decide +kernel
theorem dX9_type_38 : decode cX9_type 38 = .ok (.iastore, 1) := by decide +kernel
theorem dX9_type_39 : decode cX9_type 39 = .ok (.aload_n 0, 1) := by decide +kernel
theorem dX9_type_40 : decode cX9_type 40 = .ok (.dup, 1) := by decide +kernel
theorem dX9_type_41 : decode cX9_type 41 = .ok (.getfield 173, 3) := by decide +kernel
theorem dX9_type_44 : decode cX9_type 44 = .ok (.iconst 1, 1) := by decide +kernel
theorem dX9_type_45 : decode cX9_type 45 = .ok (.iadd, 1) := by decide +kernel
theorem dX9_type_46 : decode cX9_type 46 = .ok (.putfield 173, 3) := by decide +kernel
theorem dX9_type_49 : decode cX9_type 49 = .ok (.aload_n 0, 1) := by decide +kernel
theorem dX9_type_50 : decode cX9_type 50 = .ok (.getfield 173, 3) := by decide +kernel
theorem dX9_type_53 : decode cX9_type 53 = .ok (.ireturn, 1) := by decide +kernel
theorem dX9_here_0 : decode cX9_here 0 = .ok (.aload_n 0, 1) := by decide +kernel
theorem dX9_here_1 : decode cX9_here 1 = .ok (.getfield 177, 3) := by decide +kernel
theorem dX9_here_4 : decode cX9_here 4 = .ok (.aload_n 0, 1) := by decide +kernel
theorem dX9_here_5 : decode cX9_here 5 = .ok (.getfield 173, 3) := by decide +kernel
theorem dX9_here_8 : decode cX9_here 8 = .ok (.if_icmp .ge 30, 3) := by decide +kernel
theorem dX9_here_11 : decode cX9_here 11 = .ok (.aload_n 0, 1) := by decide +kernel
theorem dX9_here_12 : decode cX9_here 12 = .ok (.getfield 19, 3) := by decide +kernel
theorem dX9_here_15 : decode cX9_here 15 = .ok (.aload_n 0, 1) := by decide +kernel
theorem dX9_here_16 : decode cX9_here 16 = .ok (.getfield 177, 3) := by decide +kernel
theorem dX9_here_19 : decode cX9_here 19 = .ok (.iaload, 1) := by decide +kernel
theorem dX9_here_20 : decode cX9_here 20 = .ok (.bipush 32, 2) := by decide +kernel
theorem dX9_here_22 : decode cX9_here 22 = .ok (.if_icmp .ne 16, 3) := by decide +kernel
theorem dX9_here_25 : decode cX9_here 25 = .ok (.aload_n 0, 1) := by decide +kernel
theorem dX9_here_26 : decode cX9_here 26 = .ok (.dup, 1) := by decide +kernel
theorem dX9_here_27 : decode cX9_here 27 = .ok (.getfield 177, 3) := by decide +kernel
theorem dX9_here_30 : decode cX9_here 30 = .ok (.iconst 1, 1) := by decide +kernel
theorem dX9_here_31 : decode cX9_here 31 = .ok (.iadd, 1) := by decide +kernel
theorem dX9_here_32 : decode cX9_here 32 = .ok (.putfield 177, 3) := by decide +kernel
theorem dX9_here_35 : decode cX9_here 35 = .ok (.goto (-35), 3) := by decide +kernel
theorem dX9_here_38 : decode cX9_here 38 = .ok (.aload_n 0, 1) := by decide +kernel
theorem dX9_here_39 : decode cX9_here 39 = .ok (.getfield 177, 3) := by decide +kernel
theorem dX9_here_42 : decode cX9_here 42 = .ok (.aload_n 0, 1) := by decide +kernel
theorem dX9_here_43 : decode cX9_here 43 = .ok (.getfield 173, 3) := by decide +kernel
theorem dX9_here_46 : decode cX9_here 46 = .ok (.if_icmp .ge 15, 3) := by decide +kernel
theorem dX9_here_49 : decode cX9_here 49 = .ok (.aload_n 0, 1) := by decide +kernel
theorem dX9_here_50 : decode cX9_here 50 = .ok (.getfield 19, 3) := by decide +kernel
theorem dX9_here_53 : decode cX9_here 53 = .ok (.aload_n 0, 1) := by decide +kernel
theorem dX9_here_54 : decode cX9_here 54 = .ok (.getfield 177, 3) := by decide +kernel
theorem dX9_here_57 : decode cX9_here 57 = .ok (.iaload, 1) := by decide +kernel
theorem dX9_here_58 : decode cX9_here 58 = .ok (.goto 4, 3) := by decide +kernel
theorem dX9_here_61 : decode cX9_here 61 = .ok (.iconst 0, 1) := by decide +kernel
theorem dX9_here_62 : decode cX9_here 62 = .ok (.ireturn, 1) := by decide +kernel
theorem dX9_dots_0 : decode cX9_dots 0 = .ok (.iconst 0, 1) := by decide +kernel
theorem dX9_dots_1 : decode cX9_dots 1 = .ok (.istore_n 1, 1) := by decide +kernel
theorem dX9_dots_2 : decode cX9_dots 2 = .ok (.iload_n 1, 1) := by decide +kernel
theorem dX9_dots_3 : decode cX9_dots 3 = .ok (.bipush 96, 2) := by decide +kernel
theorem dX9_dots_5 : decode cX9_dots 5 = .ok (.if_icmp .ge 113, 3) := by decide +kernel
theorem dX9_dots_8 : decode cX9_dots 8 = .ok (.aload_n 0, 1) := by decide +kernel
theorem dX9_dots_9 : decode cX9_dots 9 = .ok (.invokevirtual 180, 3) := by decide +kernel
theorem dX9_dots_12 : decode cX9_dots 12 = .ok (.ifCond .eq 106, 3) := by decide +kernel
theorem dX9_dots_15 : decode cX9_dots 15 = .ok (.aload_n 0, 1) := by decide +kernel
theorem dX9_dots_16 : decode cX9_dots 16 = .ok (.invokevirtual 180, 3) := by decide +kernel
theorem dX9_dots_19 : decode cX9_dots 19 = .ok (.bipush 114, 2) := by decide +kernel
theorem dX9_dots_21 : decode cX9_dots 21 = .ok (.if_icmp .ne 7, 3) := by decide +kernel
theorem dX9_dots_24 : decode cX9_dots 24 = .ok (.iconst 1, 1) := by decide +kernel
theorem dX9_dots_25 : decode cX9_dots 25 = .ok (.goto 4, 3) := by decide +kernel
theorem dX9_dots_28 : decode cX9_dots 28 = .ok (.iconst 0, 1) := by decide +kernel
theorem dX9_dots_29 : decode cX9_dots 29 = .ok (.istore_n 2, 1) := by decide +kernel
theorem dX9_dots_30 : decode cX9_dots 30 = .ok (.aload_n 0, 1) := by decide +kernel
theorem dX9_dots_31 : decode cX9_dots 31 = .ok (.dup, 1) := by decide +kernel
theorem dX9_dots_32 : decode cX9_dots 32 = .ok (.getfield 177, 3) := by decide +kernel
theorem dX9_dots_35 : decode cX9_dots 35 = .ok (.iload_n 2, 1) := by decide +kernel
theorem dX9_dots_36 : decode cX9_dots 36 = .ok (.ifCond .eq 7, 3) := by decide +kernel
theorem dX9_dots_39 : decode cX9_dots 39 = .ok (.iconst 1, 1) := by decide +kernel
theorem dX9_dots_40 : decode cX9_dots 40 = .ok (.goto 4, 3) := by decide +kernel
theorem dX9_dots_43 : decode cX9_dots 43 = .ok (.iconst 0, 1) := by decide +kernel
theorem dX9_dots_44 : decode cX9_dots 44 = .ok (.iadd, 1) := by decide +kernel
theorem dX9_dots_45 : decode cX9_dots 45 = .ok (.putfield 177, 3) := by decide +kernel
theorem dX9_dots_48 : decode cX9_dots 48 = .ok (.aload_n 0, 1) := by decide +kernel
theorem dX9_dots_49 : decode cX9_dots 49 = .ok (.invokevirtual 180, 3) := by decide +kernel
theorem dX9_dots_52 : decode cX9_dots 52 = .ok (.bipush 48, 2) := by decide +kernel
theorem dX9_dots_54 : decode cX9_dots 54 = .ok (.isub, 1) := by decide +kernel
theorem dX9_dots_55 : decode cX9_dots 55 = .ok (.istore_n 3, 1) := by decide +kernel
theorem dX9_dots_56 : decode cX9_dots 56 = .ok (.iload_n 3, 1) := by decide +kernel
theorem dX9_dots_57 : decode cX9_dots 57 = .ok (.i2l, 1) := by decide +kernel
theorem dX9_dots_58 : decode cX9_dots 58 = .ok (.lconst 0, 1) := by decide +kernel
theorem dX9_dots_59 : decode cX9_dots 59 = .ok (.ldc2_w 183, 3) := by decide +kernel
theorem dX9_dots_62 : decode cX9_dots 62 = .ok (.invokestatic 70, 3) := by decide +kernel
theorem dX9_dots_65 : decode cX9_dots 65 = .ok (.ifCond .ne 6, 3) := by decide +kernel
theorem dX9_dots_68 : decode cX9_dots 68 = .ok (.ldc 108, 2) := by decide +kernel
theorem dX9_dots_70 : decode cX9_dots 70 = .ok (.ireturn, 1) := by decide +kernel
theorem dX9_dots_71 : decode cX9_dots 71 = .ok (.aload_n 0, 1) := by decide +kernel
theorem dX9_dots_72 : decode cX9_dots 72 = .ok (.dup, 1) := by decide +kernel
theorem dX9_dots_73 : decode cX9_dots 73 = .ok (.getfield 177, 3) := by decide +kernel
theorem dX9_dots_76 : decode cX9_dots 76 = .ok (.iconst 1, 1) := by decide +kernel
theorem dX9_dots_77 : decode cX9_dots 77 = .ok (.iadd, 1) := by decide +kernel
theorem dX9_dots_78 : decode cX9_dots 78 = .ok (.putfield 177, 3) := by decide +kernel
theorem dX9_dots_81 : decode cX9_dots 81 = .ok (.aload_n 0, 1) := by decide +kernel
theorem dX9_dots_82 : decode cX9_dots 82 = .ok (.getfield 22, 3) := by decide +kernel
theorem dX9_dots_85 : decode cX9_dots 85 = .ok (.iload_n 1, 1) := by decide +kernel
theorem dX9_dots_86 : decode cX9_dots 86 = .ok (.iload_n 3, 1) := by decide +kernel
theorem dX9_dots_87 : decode cX9_dots 87 = .ok (.iastore, 1) := by decide +kernel
theorem dX9_dots_88 : decode cX9_dots 88 = .ok (.iinc 1 1, 3) := by decide +kernel
theorem dX9_dots_91 : decode cX9_dots 91 = .ok (.iload_n 2, 1) := by decide +kernel
theorem dX9_dots_92 : decode cX9_dots 92 = .ok (.ifCond .eq 23, 3) := by decide +kernel
theorem dX9_dots_95 : decode cX9_dots 95 = .ok (.iload_n 1, 1) := by decide +kernel
theorem dX9_dots_96 : decode cX9_dots 96 = .ok (.bipush 12, 2) := by decide +kernel
theorem dX9_dots_98 : decode cX9_dots 98 = .ok (.irem, 1) := by decide +kernel
theorem dX9_dots_99 : decode cX9_dots 99 = .ok (.ifCond .eq 16, 3) := by decide +kernel
theorem dX9_dots_102 : decode cX9_dots 102 = .ok (.aload_n 0, 1) := by decide +kernel
theorem dX9_dots_103 : decode cX9_dots 103 = .ok (.getfield 22, 3) := by decide +kernel
theorem dX9_dots_106 : decode cX9_dots 106 = .ok (.iload_n 1, 1) := by decide +kernel
theorem dX9_dots_107 : decode cX9_dots 107 = .ok (.iload_n 3, 1) := by decide +kernel
theorem dX9_dots_108 : decode cX9_dots 108 = .ok (.iastore, 1) := by decide +kernel
theorem dX9_dots_109 : decode cX9_dots 109 = .ok (.iinc 1 1, 3) := by decide +kernel
theorem dX9_dots_112 : decode cX9_dots 112 = .ok (.goto (-21), 3) := by decide +kernel
theorem dX9_dots_115 : decode cX9_dots 115 = .ok (.goto (-113), 3) := by decide +kernel
theorem dX9_dots_118 : decode cX9_dots 118 = .ok (.aload_n 0, 1) := by decide +kernel
theorem dX9_dots_119 : decode cX9_dots 119 = .ok (.invokevirtual 180, 3) := by decide +kernel
theorem dX9_dots_122 : decode cX9_dots 122 = .ok (.ifCond .ne 7, 3) := by decide +kernel
theorem dX9_dots_125 : decode cX9_dots 125 = .ok (.iload_n 1, 1) := by decide +kernel
theorem dX9_dots_126 : decode cX9_dots 126 = .ok (.goto 5, 3) := by decide +kernel
theorem dX9_dots_129 : decode cX9_dots 129 = .ok (.ldc 108, 2) := by decide +kernel
theorem dX9_dots_131 : decode cX9_dots 131 = .ok (.ireturn, 1) := by decide +kernel
theorem dX9_picture_0 : decode cX9_picture 0 = .ok (.aload_n 0, 1) := by decide +kernel
theorem dX9_picture_1 : decode cX9_picture 1 = .ok (.iconst 0, 1) := by decide +kernel
theorem dX9_picture_2 : decode cX9_picture 2 = .ok (.putfield 177, 3) := by decide +kernel
theorem dX9_picture_5 : decode cX9_picture 5 = .ok (.aload_n 0, 1) := by decide +kernel
theorem dX9_picture_6 : decode cX9_picture 6 = .ok (.invokevirtual 180, 3) := by decide +kernel
theorem dX9_picture_9 : decode cX9_picture 9 = .ok (.istore_n 1, 1) := by decide +kernel
theorem dX9_picture_10 : decode cX9_picture 10 = .ok (.iload_n 1, 1) := by decide +kernel
theorem dX9_picture_11 : decode cX9_picture 11 = .ok (.bipush 111, 2) := by decide +kernel
theorem dX9_picture_13 : decode cX9_picture 13 = .ok (.if_icmp .eq 15, 3) := by decide +kernel
theorem dX9_picture_16 : decode cX9_picture 16 = .ok (.iload_n 1, 1) := by decide +kernel
theorem dX9_picture_17 : decode cX9_picture 17 = .ok (.bipush 110, 2) := by decide +kernel
theorem dX9_picture_19 : decode cX9_picture 19 = .ok (.if_icmp .eq 9, 3) := by decide +kernel
theorem dX9_picture_22 : decode cX9_picture 22 = .ok (.iload_n 1, 1) := by decide +kernel
theorem dX9_picture_23 : decode cX9_picture 23 = .ok (.bipush 98, 2) := by decide +kernel
theorem dX9_picture_25 : decode cX9_picture 25 = .ok (.if_icmp .ne 7, 3) := by decide +kernel
theorem dX9_picture_28 : decode cX9_picture 28 = .ok (.iconst 1, 1) := by decide +kernel
theorem dX9_picture_29 : decode cX9_picture 29 = .ok (.goto 4, 3) := by decide +kernel
theorem dX9_picture_32 : decode cX9_picture 32 = .ok (.iconst 0, 1) := by decide +kernel
theorem dX9_picture_33 : decode cX9_picture 33 = .ok (.istore_n 2, 1) := by decide +kernel
theorem dX9_picture_34 : decode cX9_picture 34 = .ok (.aload_n 0, 1) := by decide +kernel
theorem dX9_picture_35 : decode cX9_picture 35 = .ok (.dup, 1) := by decide +kernel
theorem dX9_picture_36 : decode cX9_picture 36 = .ok (.getfield 177, 3) := by decide +kernel
theorem dX9_picture_39 : decode cX9_picture 39 = .ok (.iload_n 2, 1) := by decide +kernel
theorem dX9_picture_40 : decode cX9_picture 40 = .ok (.ifCond .eq 7, 3) := by decide +kernel
theorem dX9_picture_43 : decode cX9_picture 43 = .ok (.iconst 1, 1) := by decide +kernel
theorem dX9_picture_44 : decode cX9_picture 44 = .ok (.goto 4, 3) := by decide +kernel
theorem dX9_picture_47 : decode cX9_picture 47 = .ok (.iconst 0, 1) := by decide +kernel
theorem dX9_picture_48 : decode cX9_picture 48 = .ok (.iadd, 1) := by decide +kernel
theorem dX9_picture_49 : decode cX9_picture 49 = .ok (.putfield 177, 3) := by decide +kernel
theorem dX9_picture_52 : decode cX9_picture 52 = .ok (.iload_n 2, 1) := by decide +kernel
theorem dX9_picture_53 : decode cX9_picture 53 = .ok (.ifCond .eq 10, 3) := by decide +kernel
theorem dX9_picture_56 : decode cX9_picture 56 = .ok (.aload_n 0, 1) := by decide +kernel
theorem dX9_picture_57 : decode cX9_picture 57 = .ok (.invokevirtual 185, 3) := by decide +kernel
theorem dX9_picture_60 : decode cX9_picture 60 = .ok (.goto 5, 3) := by decide +kernel
theorem dX9_picture_63 : decode cX9_picture 63 = .ok (.ldc 108, 2) := by decide +kernel
theorem dX9_picture_65 : decode cX9_picture 65 = .ok (.istore_n 3, 1) := by decide +kernel
theorem dX9_picture_66 : decode cX9_picture 66 = .ok (.iload_n 3, 1) := by decide +kernel
theorem dX9_picture_67 : decode cX9_picture 67 = .ok (.ldc 108, 2) := by decide +kernel
theorem dX9_picture_69 : decode cX9_picture 69 = .ok (.if_icmp .ne 46, 3) := by decide +kernel
theorem dX9_picture_72 : decode cX9_picture 72 = .ok (.aload_n 0, 1) := by decide +kernel
theorem dX9_picture_73 : decode cX9_picture 73 = .ok (.invokevirtual 180, 3) := by decide +kernel
theorem dX9_picture_76 : decode cX9_picture 76 = .ok (.ifCond .ne 7, 3) := by decide +kernel
theorem dX9_picture_79 : decode cX9_picture 79 = .ok (.iconst 1, 1) := by decide +kernel
theorem dX9_picture_80 : decode cX9_picture 80 = .ok (.goto 4, 3) := by decide +kernel
theorem dX9_picture_83 : decode cX9_picture 83 = .ok (.iconst 0, 1) := by decide +kernel
theorem dX9_picture_84 : decode cX9_picture 84 = .ok (.istore 4, 2) := by decide +kernel
theorem dX9_picture_86 : decode cX9_picture 86 = .ok (.ldc 188, 2) := by decide +kernel
theorem dX9_picture_88 : decode cX9_picture 88 = .ok (.iload 4, 2) := by decide +kernel
theorem dX9_picture_90 : decode cX9_picture 90 = .ok (.ifCond .eq 10, 3) := by decide +kernel
theorem dX9_picture_93 : decode cX9_picture 93 = .ok (.aload_n 0, 1) := by decide +kernel
theorem dX9_picture_94 : decode cX9_picture 94 = .ok (.getfield 173, 3) := by decide +kernel
theorem dX9_picture_97 : decode cX9_picture 97 = .ok (.goto 7, 3) := by decide +kernel
theorem dX9_picture_100 : decode cX9_picture 100 = .ok (.aload_n 0, 1) := by decide +kernel
theorem dX9_picture_101 : decode cX9_picture 101 = .ok (.getfield 177, 3) := by decide +kernel
theorem dX9_picture_104 : decode cX9_picture 104 = .ok (.isub, 1) := by decide +kernel
theorem dX9_picture_105 : decode cX9_picture 105 = .ok (.istore 5, 2) := by decide +kernel
theorem dX9_picture_107 : decode cX9_picture 107 = .ok (.aload_n 0, 1) := by decide +kernel
theorem dX9_picture_108 : decode cX9_picture 108 = .ok (.iconst 0, 1) := by decide +kernel
theorem dX9_picture_109 : decode cX9_picture 109 = .ok (.putfield 173, 3) := by decide +kernel
theorem dX9_picture_112 : decode cX9_picture 112 = .ok (.iload 5, 2) := by decide +kernel
theorem dX9_picture_114 : decode cX9_picture 114 = .ok (.ireturn, 1) := by decide +kernel
theorem dX9_picture_115 : decode cX9_picture 115 = .ok (.iconst 0, 1) := by decide +kernel
theorem dX9_picture_116 : decode cX9_picture 116 = .ok (.istore 4, 2) := by decide +kernel
theorem dX9_picture_118 : decode cX9_picture 118 = .ok (.iload 4, 2) := by decide +kernel
theorem dX9_picture_120 : decode cX9_picture 120 = .ok (.bipush 96, 2) := by decide +kernel
theorem dX9_picture_122 : decode cX9_picture 122 = .ok (.if_icmp .ge 88, 3) := by decide +kernel
theorem dX9_picture_125 : decode cX9_picture 125 = .ok (.iload 4, 2) := by decide +kernel
theorem dX9_picture_127 : decode cX9_picture 127 = .ok (.iload_n 3, 1) := by decide +kernel
theorem dX9_picture_128 : decode cX9_picture 128 = .ok (.if_icmp .ge 13, 3) := by decide +kernel
theorem dX9_picture_131 : decode cX9_picture 131 = .ok (.aload_n 0, 1) := by decide +kernel
theorem dX9_picture_132 : decode cX9_picture 132 = .ok (.getfield 22, 3) := by decide +kernel
theorem dX9_picture_135 : decode cX9_picture 135 = .ok (.iload 4, 2) := by decide +kernel
theorem dX9_picture_137 : decode cX9_picture 137 = .ok (.iaload, 1) := by decide +kernel
theorem dX9_picture_138 : decode cX9_picture 138 = .ok (.goto 4, 3) := by decide +kernel
theorem dX9_picture_141 : decode cX9_picture 141 = .ok (.iconst 0, 1) := by decide +kernel
theorem dX9_picture_142 : decode cX9_picture 142 = .ok (.istore 5, 2) := by decide +kernel
theorem dX9_picture_144 : decode cX9_picture 144 = .ok (.aload_n 0, 1) := by decide +kernel
theorem dX9_picture_145 : decode cX9_picture 145 = .ok (.getfield 7, 3) := by decide +kernel
theorem dX9_picture_148 : decode cX9_picture 148 = .ok (.iconst 0, 1) := by decide +kernel
theorem dX9_picture_149 : decode cX9_picture 149 = .ok (.iload 4, 2) := by decide +kernel
theorem dX9_picture_151 : decode cX9_picture 151 = .ok (.iadd, 1) := by decide +kernel
theorem dX9_picture_152 : decode cX9_picture 152 = .ok (.iload_n 1, 1) := by decide +kernel
theorem dX9_picture_153 : decode cX9_picture 153 = .ok (.bipush 110, 2) := by decide +kernel
theorem dX9_picture_155 : decode cX9_picture 155 = .ok (.if_icmp .ne 15, 3) := by decide +kernel
theorem dX9_picture_158 : decode cX9_picture 158 = .ok (.aload_n 0, 1) := by decide +kernel
theorem dX9_picture_159 : decode cX9_picture 159 = .ok (.getfield 7, 3) := by decide +kernel
theorem dX9_picture_162 : decode cX9_picture 162 = .ok (.iconst 0, 1) := by decide +kernel
theorem dX9_picture_163 : decode cX9_picture 163 = .ok (.iload 4, 2) := by decide +kernel
theorem dX9_picture_165 : decode cX9_picture 165 = .ok (.iadd, 1) := by decide +kernel
theorem dX9_picture_166 : decode cX9_picture 166 = .ok (.iaload, 1) := by decide +kernel
theorem dX9_picture_167 : decode cX9_picture 167 = .ok (.goto 5, 3) := by decide +kernel
theorem dX9_picture_170 : decode cX9_picture 170 = .ok (.iload 5, 2) := by decide +kernel
theorem dX9_picture_172 : decode cX9_picture 172 = .ok (.iastore, 1) := by decide +kernel
theorem dX9_picture_173 : decode cX9_picture 173 = .ok (.aload_n 0, 1) := by decide +kernel
theorem dX9_picture_174 : decode cX9_picture 174 = .ok (.getfield 7, 3) := by decide +kernel
theorem dX9_picture_177 : decode cX9_picture 177 = .ok (.bipush 96, 2) := by decide +kernel
theorem dX9_picture_179 : decode cX9_picture 179 = .ok (.iload 4, 2) := by decide +kernel
theorem dX9_picture_181 : decode cX9_picture 181 = .ok (.iadd, 1) := by decide +kernel
theorem dX9_picture_182 : decode cX9_picture 182 = .ok (.iload_n 1, 1) := by decide +kernel
theorem dX9_picture_183 : decode cX9_picture 183 = .ok (.bipush 111, 2) := by decide +kernel
theorem dX9_picture_185 : decode cX9_picture 185 = .ok (.if_icmp .ne 16, 3) := by decide +kernel
theorem dX9_picture_188 : decode cX9_picture 188 = .ok (.aload_n 0, 1) := by decide +kernel
theorem dX9_picture_189 : decode cX9_picture 189 = .ok (.getfield 7, 3) := by decide +kernel
theorem dX9_picture_192 : decode cX9_picture 192 = .ok (.bipush 96, 2) := by decide +kernel
theorem dX9_picture_194 : decode cX9_picture 194 = .ok (.iload 4, 2) := by decide +kernel
theorem dX9_picture_196 : decode cX9_picture 196 = .ok (.iadd, 1) := by decide +kernel
theorem dX9_picture_197 : decode cX9_picture 197 = .ok (.iaload, 1) := by decide +kernel
theorem dX9_picture_198 : decode cX9_picture 198 = .ok (.goto 5, 3) := by decide +kernel
theorem dX9_picture_201 : decode cX9_picture 201 = .ok (.iload 5, 2) := by decide +kernel
theorem dX9_picture_203 : decode cX9_picture 203 = .ok (.iastore, 1) := by decide +kernel
theorem dX9_picture_204 : decode cX9_picture 204 = .ok (.iinc 4 1, 3) := by decide +kernel
theorem dX9_picture_207 : decode cX9_picture 207 = .ok (.goto (-89), 3) := by decide +kernel
theorem dX9_picture_210 : decode cX9_picture 210 = .ok (.aload_n 0, 1) := by decide +kernel
theorem dX9_picture_211 : decode cX9_picture 211 = .ok (.iconst 0, 1) := by decide +kernel
theorem dX9_picture_212 : decode cX9_picture 212 = .ok (.putfield 166, 3) := by decide +kernel
theorem dX9_picture_215 : decode cX9_picture 215 = .ok (.aload_n 0, 1) := by decide +kernel
theorem dX9_picture_216 : decode cX9_picture 216 = .ok (.iconst 0, 1) := by decide +kernel
theorem dX9_picture_217 : decode cX9_picture 217 = .ok (.putfield 173, 3) := by decide +kernel
theorem dX9_picture_220 : decode cX9_picture 220 = .ok (.iload_n 3, 1) := by decide +kernel
theorem dX9_picture_221 : decode cX9_picture 221 = .ok (.ireturn, 1) := by decide +kernel
theorem dX9_notes_0 : decode cX9_notes 0 = .ok (.aload_n 0, 1) := by decide +kernel
theorem dX9_notes_1 : decode cX9_notes 1 = .ok (.getfield 166, 3) := by decide +kernel
theorem dX9_notes_4 : decode cX9_notes 4 = .ok (.bipush 8, 2) := by decide +kernel
theorem dX9_notes_6 : decode cX9_notes 6 = .ok (.if_icmp .ne 42, 3) := by decide +kernel
theorem dX9_notes_9 : decode cX9_notes 9 = .ok (.sipush 194, 3) := by decide +kernel
theorem dX9_notes_12 : decode cX9_notes 12 = .ok (.istore_n 1, 1) := by decide +kernel
theorem dX9_notes_13 : decode cX9_notes 13 = .ok (.iload_n 1, 1) := by decide +kernel
theorem dX9_notes_14 : decode cX9_notes 14 = .ok (.sipush 1552, 3) := by decide +kernel
theorem dX9_notes_17 : decode cX9_notes 17 = .ok (.if_icmp .ge 25, 3) := by decide +kernel
theorem dX9_notes_20 : decode cX9_notes 20 = .ok (.aload_n 0, 1) := by decide +kernel
theorem dX9_notes_21 : decode cX9_notes 21 = .ok (.getfield 25, 3) := by decide +kernel
theorem dX9_notes_24 : decode cX9_notes 24 = .ok (.iload_n 1, 1) := by decide +kernel
theorem dX9_notes_25 : decode cX9_notes 25 = .ok (.sipush 194, 3) := by decide +kernel
theorem dX9_notes_28 : decode cX9_notes 28 = .ok (.isub, 1) := by decide +kernel
theorem dX9_notes_29 : decode cX9_notes 29 = .ok (.aload_n 0, 1) := by decide +kernel
theorem dX9_notes_30 : decode cX9_notes 30 = .ok (.getfield 25, 3) := by decide +kernel
theorem dX9_notes_33 : decode cX9_notes 33 = .ok (.iload_n 1, 1) := by decide +kernel
theorem dX9_notes_34 : decode cX9_notes 34 = .ok (.iaload, 1) := by decide +kernel
theorem dX9_notes_35 : decode cX9_notes 35 = .ok (.iastore, 1) := by decide +kernel
theorem dX9_notes_36 : decode cX9_notes 36 = .ok (.iinc 1 1, 3) := by decide +kernel
theorem dX9_notes_39 : decode cX9_notes 39 = .ok (.goto (-26), 3) := by decide +kernel
theorem dX9_notes_42 : decode cX9_notes 42 = .ok (.aload_n 0, 1) := by decide +kernel
theorem dX9_notes_43 : decode cX9_notes 43 = .ok (.bipush 7, 2) := by decide +kernel
theorem dX9_notes_45 : decode cX9_notes 45 = .ok (.putfield 166, 3) := by decide +kernel
theorem dX9_notes_48 : decode cX9_notes 48 = .ok (.iconst 0, 1) := by decide +kernel
theorem dX9_notes_49 : decode cX9_notes 49 = .ok (.istore_n 1, 1) := by decide +kernel
theorem dX9_notes_50 : decode cX9_notes 50 = .ok (.iload_n 1, 1) := by decide +kernel
theorem dX9_notes_51 : decode cX9_notes 51 = .ok (.sipush 194, 3) := by decide +kernel
theorem dX9_notes_54 : decode cX9_notes 54 = .ok (.if_icmp .ge 30, 3) := by decide +kernel
theorem dX9_notes_57 : decode cX9_notes 57 = .ok (.aload_n 0, 1) := by decide +kernel
theorem dX9_notes_58 : decode cX9_notes 58 = .ok (.getfield 25, 3) := by decide +kernel
theorem dX9_notes_61 : decode cX9_notes 61 = .ok (.sipush 194, 3) := by decide +kernel
theorem dX9_notes_64 : decode cX9_notes 64 = .ok (.aload_n 0, 1) := by decide +kernel
theorem dX9_notes_65 : decode cX9_notes 65 = .ok (.getfield 166, 3) := by decide +kernel
theorem dX9_notes_68 : decode cX9_notes 68 = .ok (.imul, 1) := by decide +kernel
theorem dX9_notes_69 : decode cX9_notes 69 = .ok (.iload_n 1, 1) := by decide +kernel
theorem dX9_notes_70 : decode cX9_notes 70 = .ok (.iadd, 1) := by decide +kernel
theorem dX9_notes_71 : decode cX9_notes 71 = .ok (.aload_n 0, 1) := by decide +kernel
theorem dX9_notes_72 : decode cX9_notes 72 = .ok (.getfield 7, 3) := by decide +kernel
theorem dX9_notes_75 : decode cX9_notes 75 = .ok (.iload_n 1, 1) := by decide +kernel
theorem dX9_notes_76 : decode cX9_notes 76 = .ok (.iaload, 1) := by decide +kernel
theorem dX9_notes_77 : decode cX9_notes 77 = .ok (.iastore, 1) := by decide +kernel
theorem dX9_notes_78 : decode cX9_notes 78 = .ok (.iinc 1 1, 3) := by decide +kernel
theorem dX9_notes_81 : decode cX9_notes 81 = .ok (.goto (-31), 3) := by decide +kernel
theorem dX9_notes_84 : decode cX9_notes 84 = .ok (.aload_n 0, 1) := by decide +kernel
theorem dX9_notes_85 : decode cX9_notes 85 = .ok (.dup, 1) := by decide +kernel
theorem dX9_notes_86 : decode cX9_notes 86 = .ok (.getfield 166, 3) := by decide +kernel
theorem dX9_notes_89 : decode cX9_notes 89 = .ok (.iconst 1, 1) := by decide +kernel
theorem dX9_notes_90 : decode cX9_notes 90 = .ok (.iadd, 1) := by decide +kernel
theorem dX9_notes_91 : decode cX9_notes 91 = .ok (.putfield 166, 3) := by decide +kernel
theorem dX9_notes_94 : decode cX9_notes 94 = .ok (.return_, 1) := by decide +kernel
theorem dX9_paint_0 : decode cX9_paint 0 = .ok (.iload_n 1, 1) := by decide +kernel
theorem dX9_paint_1 : decode cX9_paint 1 = .ok (.i2l, 1) := by decide +kernel
theorem dX9_paint_2 : decode cX9_paint 2 = .ok (.lconst 0, 1) := by decide +kernel
theorem dX9_paint_3 : decode cX9_paint 3 = .ok (.ldc2_w 189, 3) := by decide +kernel
theorem dX9_paint_6 : decode cX9_paint 6 = .ok (.invokestatic 70, 3) := by decide +kernel
theorem dX9_paint_9 : decode cX9_paint 9 = .ok (.ifCond .eq 27, 3) := by decide +kernel
theorem dX9_paint_12 : decode cX9_paint 12 = .ok (.iload_n 2, 1) := by decide +kernel
theorem dX9_paint_13 : decode cX9_paint 13 = .ok (.i2l, 1) := by decide +kernel
theorem dX9_paint_14 : decode cX9_paint 14 = .ok (.lconst 0, 1) := by decide +kernel
theorem dX9_paint_15 : decode cX9_paint 15 = .ok (.ldc2_w 191, 3) := by decide +kernel
theorem dX9_paint_18 : decode cX9_paint 18 = .ok (.invokestatic 70, 3) := by decide +kernel
theorem dX9_paint_21 : decode cX9_paint 21 = .ok (.ifCond .eq 15, 3) := by decide +kernel
theorem dX9_paint_24 : decode cX9_paint 24 = .ok (.iload_n 3, 1) := by decide +kernel
theorem dX9_paint_25 : decode cX9_paint 25 = .ok (.i2l, 1) := by decide +kernel
theorem dX9_paint_26 : decode cX9_paint 26 = .ok (.lconst 0, 1) := by decide +kernel
theorem dX9_paint_27 : decode cX9_paint 27 = .ok (.ldc2_w 183, 3) := by decide +kernel
theorem dX9_paint_30 : decode cX9_paint 30 = .ok (.invokestatic 70, 3) := by decide +kernel
theorem dX9_paint_33 : decode cX9_paint 33 = .ok (.ifCond .ne 6, 3) := by decide +kernel
theorem dX9_paint_36 : decode cX9_paint 36 = .ok (.ldc 145, 2) := by decide +kernel
theorem dX9_paint_38 : decode cX9_paint 38 = .ok (.ireturn, 1) := by decide +kernel
theorem dX9_paint_39 : decode cX9_paint 39 = .ok (.bipush 96, 2) := by decide +kernel
theorem dX9_paint_41 : decode cX9_paint 41 = .ok (.bipush 12, 2) := by decide +kernel
theorem dX9_paint_43 : decode cX9_paint 43 = .ok (.iload_n 2, 1) := by decide +kernel
theorem dX9_paint_44 : decode cX9_paint 44 = .ok (.imul, 1) := by decide +kernel
theorem dX9_paint_45 : decode cX9_paint 45 = .ok (.iadd, 1) := by decide +kernel
theorem dX9_paint_46 : decode cX9_paint 46 = .ok (.iload_n 1, 1) := by decide +kernel
theorem dX9_paint_47 : decode cX9_paint 47 = .ok (.iadd, 1) := by decide +kernel
theorem dX9_paint_48 : decode cX9_paint 48 = .ok (.istore 4, 2) := by decide +kernel
theorem dX9_paint_50 : decode cX9_paint 50 = .ok (.aload_n 0, 1) := by decide +kernel
theorem dX9_paint_51 : decode cX9_paint 51 = .ok (.getfield 7, 3) := by decide +kernel
theorem dX9_paint_54 : decode cX9_paint 54 = .ok (.iload 4, 2) := by decide +kernel
theorem dX9_paint_56 : decode cX9_paint 56 = .ok (.iaload, 1) := by decide +kernel
theorem dX9_paint_57 : decode cX9_paint 57 = .ok (.istore 5, 2) := by decide +kernel
theorem dX9_paint_59 : decode cX9_paint 59 = .ok (.iload 5, 2) := by decide +kernel
theorem dX9_paint_61 : decode cX9_paint 61 = .ok (.iload_n 3, 1) := by decide +kernel
theorem dX9_paint_62 : decode cX9_paint 62 = .ok (.if_icmp .ne 6, 3) := by decide +kernel
theorem dX9_paint_65 : decode cX9_paint 65 = .ok (.ldc 193, 2) := by decide +kernel
theorem dX9_paint_67 : decode cX9_paint 67 = .ok (.ireturn, 1) := by decide +kernel
theorem dX9_paint_68 : decode cX9_paint 68 = .ok (.aload_n 0, 1) := by decide +kernel
theorem dX9_paint_69 : decode cX9_paint 69 = .ok (.invokevirtual 194, 3) := by decide +kernel
theorem dX9_paint_72 : decode cX9_paint 72 = .ok (.aload_n 0, 1) := by decide +kernel
theorem dX9_paint_73 : decode cX9_paint 73 = .ok (.getfield 7, 3) := by decide +kernel
theorem dX9_paint_76 : decode cX9_paint 76 = .ok (.iload 4, 2) := by decide +kernel
theorem dX9_paint_78 : decode cX9_paint 78 = .ok (.iload_n 3, 1) := by decide +kernel
theorem dX9_paint_79 : decode cX9_paint 79 = .ok (.iastore, 1) := by decide +kernel
theorem dX9_paint_80 : decode cX9_paint 80 = .ok (.iload 5, 2) := by decide +kernel
theorem dX9_paint_82 : decode cX9_paint 82 = .ok (.ireturn, 1) := by decide +kernel
theorem dX9_shift_0 : decode cX9_shift 0 = .ok (.iload_n 1, 1) := by decide +kernel
theorem dX9_shift_1 : decode cX9_shift 1 = .ok (.i2l, 1) := by decide +kernel
theorem dX9_shift_2 : decode cX9_shift 2 = .ok (.ldc2_w 139, 3) := by decide +kernel
theorem dX9_shift_5 : decode cX9_shift 5 = .ok (.ldc2_w 197, 3) := by decide +kernel
theorem dX9_shift_8 : decode cX9_shift 8 = .ok (.invokestatic 70, 3) := by decide +kernel
theorem dX9_shift_11 : decode cX9_shift 11 = .ok (.ifCond .eq 17, 3) := by decide +kernel
theorem dX9_shift_14 : decode cX9_shift 14 = .ok (.iload_n 2, 1) := by decide +kernel
theorem dX9_shift_15 : decode cX9_shift 15 = .ok (.i2l, 1) := by decide +kernel
theorem dX9_shift_16 : decode cX9_shift 16 = .ok (.ldc2_w 139, 3) := by decide +kernel
theorem dX9_shift_19 : decode cX9_shift 19 = .ok (.ldc2_w 197, 3) := by decide +kernel
theorem dX9_shift_22 : decode cX9_shift 22 = .ok (.invokestatic 70, 3) := by decide +kernel
theorem dX9_shift_25 : decode cX9_shift 25 = .ok (.ifCond .ne 6, 3) := by decide +kernel
theorem dX9_shift_28 : decode cX9_shift 28 = .ok (.ldc 145, 2) := by decide +kernel
theorem dX9_shift_30 : decode cX9_shift 30 = .ok (.ireturn, 1) := by decide +kernel
theorem dX9_shift_31 : decode cX9_shift 31 = .ok (.aload_n 0, 1) := by decide +kernel
theorem dX9_shift_32 : decode cX9_shift 32 = .ok (.invokevirtual 194, 3) := by decide +kernel
theorem dX9_shift_35 : decode cX9_shift 35 = .ok (.iconst 0, 1) := by decide +kernel
theorem dX9_shift_36 : decode cX9_shift 36 = .ok (.istore_n 3, 1) := by decide +kernel
theorem dX9_shift_37 : decode cX9_shift 37 = .ok (.iload_n 3, 1) := by decide +kernel
theorem dX9_shift_38 : decode cX9_shift 38 = .ok (.bipush 96, 2) := by decide +kernel
theorem dX9_shift_40 : decode cX9_shift 40 = .ok (.if_icmp .ge 33, 3) := by decide +kernel
theorem dX9_shift_43 : decode cX9_shift 43 = .ok (.aload_n 0, 1) := by decide +kernel
theorem dX9_shift_44 : decode cX9_shift 44 = .ok (.getfield 22, 3) := by decide +kernel
theorem dX9_shift_47 : decode cX9_shift 47 = .ok (.iload_n 3, 1) := by decide +kernel
theorem dX9_shift_48 : decode cX9_shift 48 = .ok (.aload_n 0, 1) := by decide +kernel
theorem dX9_shift_49 : decode cX9_shift 49 = .ok (.bipush 96, 2) := by decide +kernel
theorem dX9_shift_51 : decode cX9_shift 51 = .ok (.iload_n 3, 1) := by decide +kernel
theorem dX9_shift_52 : decode cX9_shift 52 = .ok (.bipush 12, 2) := by decide +kernel
theorem dX9_shift_54 : decode cX9_shift 54 = .ok (.irem, 1) := by decide +kernel
theorem dX9_shift_55 : decode cX9_shift 55 = .ok (.iload_n 1, 1) := by decide +kernel
theorem dX9_shift_56 : decode cX9_shift 56 = .ok (.iadd, 1) := by decide +kernel
theorem dX9_shift_57 : decode cX9_shift 57 = .ok (.iload_n 3, 1) := by decide +kernel
theorem dX9_shift_58 : decode cX9_shift 58 = .ok (.bipush 12, 2) := by decide +kernel
theorem dX9_shift_60 : decode cX9_shift 60 = .ok (.idiv, 1) := by decide +kernel
theorem dX9_shift_61 : decode cX9_shift 61 = .ok (.iload_n 2, 1) := by decide +kernel
theorem dX9_shift_62 : decode cX9_shift 62 = .ok (.iadd, 1) := by decide +kernel
theorem dX9_shift_63 : decode cX9_shift 63 = .ok (.invokevirtual 76, 3) := by decide +kernel
theorem dX9_shift_66 : decode cX9_shift 66 = .ok (.iastore, 1) := by decide +kernel
theorem dX9_shift_67 : decode cX9_shift 67 = .ok (.iinc 3 1, 3) := by decide +kernel
theorem dX9_shift_70 : decode cX9_shift 70 = .ok (.goto (-33), 3) := by decide +kernel
theorem dX9_shift_73 : decode cX9_shift 73 = .ok (.iconst 0, 1) := by decide +kernel
theorem dX9_shift_74 : decode cX9_shift 74 = .ok (.istore_n 3, 1) := by decide +kernel
theorem dX9_shift_75 : decode cX9_shift 75 = .ok (.iconst 0, 1) := by decide +kernel
theorem dX9_shift_76 : decode cX9_shift 76 = .ok (.istore 4, 2) := by decide +kernel
theorem dX9_shift_78 : decode cX9_shift 78 = .ok (.iload 4, 2) := by decide +kernel
theorem dX9_shift_80 : decode cX9_shift 80 = .ok (.bipush 96, 2) := by decide +kernel
theorem dX9_shift_82 : decode cX9_shift 82 = .ok (.if_icmp .ge 54, 3) := by decide +kernel
theorem dX9_shift_85 : decode cX9_shift 85 = .ok (.iload_n 3, 1) := by decide +kernel
theorem dX9_shift_86 : decode cX9_shift 86 = .ok (.aload_n 0, 1) := by decide +kernel
theorem dX9_shift_87 : decode cX9_shift 87 = .ok (.getfield 7, 3) := by decide +kernel
theorem dX9_shift_90 : decode cX9_shift 90 = .ok (.bipush 96, 2) := by decide +kernel
theorem dX9_shift_92 : decode cX9_shift 92 = .ok (.iload 4, 2) := by decide +kernel
theorem dX9_shift_94 : decode cX9_shift 94 = .ok (.iadd, 1) := by decide +kernel
theorem dX9_shift_95 : decode cX9_shift 95 = .ok (.iaload, 1) := by decide +kernel
theorem dX9_shift_96 : decode cX9_shift 96 = .ok (.aload_n 0, 1) := by decide +kernel
theorem dX9_shift_97 : decode cX9_shift 97 = .ok (.getfield 22, 3) := by decide +kernel
theorem dX9_shift_100 : decode cX9_shift 100 = .ok (.iload 4, 2) := by decide +kernel
theorem dX9_shift_102 : decode cX9_shift 102 = .ok (.iaload, 1) := by decide +kernel
theorem dX9_shift_103 : decode cX9_shift 103 = .ok (.if_icmp .ne 7, 3) := by decide +kernel
theorem dX9_shift_106 : decode cX9_shift 106 = .ok (.iconst 0, 1) := by decide +kernel
theorem dX9_shift_107 : decode cX9_shift 107 = .ok (.goto 4, 3) := by decide +kernel
theorem dX9_shift_110 : decode cX9_shift 110 = .ok (.iconst 1, 1) := by decide +kernel
theorem dX9_shift_111 : decode cX9_shift 111 = .ok (.iadd, 1) := by decide +kernel
theorem dX9_shift_112 : decode cX9_shift 112 = .ok (.istore_n 3, 1) := by decide +kernel
theorem dX9_shift_113 : decode cX9_shift 113 = .ok (.aload_n 0, 1) := by decide +kernel
theorem dX9_shift_114 : decode cX9_shift 114 = .ok (.getfield 7, 3) := by decide +kernel
theorem dX9_shift_117 : decode cX9_shift 117 = .ok (.bipush 96, 2) := by decide +kernel
theorem dX9_shift_119 : decode cX9_shift 119 = .ok (.iload 4, 2) := by decide +kernel
theorem dX9_shift_121 : decode cX9_shift 121 = .ok (.iadd, 1) := by decide +kernel
theorem dX9_shift_122 : decode cX9_shift 122 = .ok (.aload_n 0, 1) := by decide +kernel
theorem dX9_shift_123 : decode cX9_shift 123 = .ok (.getfield 22, 3) := by decide +kernel
theorem dX9_shift_126 : decode cX9_shift 126 = .ok (.iload 4, 2) := by decide +kernel
theorem dX9_shift_128 : decode cX9_shift 128 = .ok (.iaload, 1) := by decide +kernel
theorem dX9_shift_129 : decode cX9_shift 129 = .ok (.iastore, 1) := by decide +kernel
theorem dX9_shift_130 : decode cX9_shift 130 = .ok (.iinc 4 1, 3) := by decide +kernel
theorem dX9_shift_133 : decode cX9_shift 133 = .ok (.goto (-55), 3) := by decide +kernel
theorem dX9_shift_136 : decode cX9_shift 136 = .ok (.iload_n 3, 1) := by decide +kernel
theorem dX9_shift_137 : decode cX9_shift 137 = .ok (.ireturn, 1) := by decide +kernel
theorem dX9_take_0 : decode cX9_take 0 = .ok (.aload_n 0, 1) := by decide +kernel
theorem dX9_take_1 : decode cX9_take 1 = .ok (.invokevirtual 194, 3) := by decide +kernel
theorem dX9_take_4 : decode cX9_take 4 = .ok (.iconst 0, 1) := by decide +kernel
theorem dX9_take_5 : decode cX9_take 5 = .ok (.istore_n 1, 1) := by decide +kernel
theorem dX9_take_6 : decode cX9_take 6 = .ok (.iconst 0, 1) := by decide +kernel
theorem dX9_take_7 : decode cX9_take 7 = .ok (.istore_n 2, 1) := by decide +kernel
theorem dX9_take_8 : decode cX9_take 8 = .ok (.iload_n 2, 1) := by decide +kernel
theorem dX9_take_9 : decode cX9_take 9 = .ok (.bipush 96, 2) := by decide +kernel
theorem dX9_take_11 : decode cX9_take 11 = .ok (.if_icmp .ge 54, 3) := by decide +kernel
theorem dX9_take_14 : decode cX9_take 14 = .ok (.iload_n 1, 1) := by decide +kernel
theorem dX9_take_15 : decode cX9_take 15 = .ok (.aload_n 0, 1) := by decide +kernel
theorem dX9_take_16 : decode cX9_take 16 = .ok (.getfield 7, 3) := by decide +kernel
theorem dX9_take_19 : decode cX9_take 19 = .ok (.iconst 0, 1) := by decide +kernel
theorem dX9_take_20 : decode cX9_take 20 = .ok (.iload_n 2, 1) := by decide +kernel
theorem dX9_take_21 : decode cX9_take 21 = .ok (.iadd, 1) := by decide +kernel
theorem dX9_take_22 : decode cX9_take 22 = .ok (.iaload, 1) := by decide +kernel
theorem dX9_take_23 : decode cX9_take 23 = .ok (.aload_n 0, 1) := by decide +kernel
theorem dX9_take_24 : decode cX9_take 24 = .ok (.getfield 7, 3) := by decide +kernel
theorem dX9_take_27 : decode cX9_take 27 = .ok (.bipush 96, 2) := by decide +kernel
theorem dX9_take_29 : decode cX9_take 29 = .ok (.iload_n 2, 1) := by decide +kernel
theorem dX9_take_30 : decode cX9_take 30 = .ok (.iadd, 1) := by decide +kernel
theorem dX9_take_31 : decode cX9_take 31 = .ok (.iaload, 1) := by decide +kernel
theorem dX9_take_32 : decode cX9_take 32 = .ok (.if_icmp .ne 7, 3) := by decide +kernel
theorem dX9_take_35 : decode cX9_take 35 = .ok (.iconst 0, 1) := by decide +kernel
theorem dX9_take_36 : decode cX9_take 36 = .ok (.goto 4, 3) := by decide +kernel
theorem dX9_take_39 : decode cX9_take 39 = .ok (.iconst 1, 1) := by decide +kernel
theorem dX9_take_40 : decode cX9_take 40 = .ok (.iadd, 1) := by decide +kernel
theorem dX9_take_41 : decode cX9_take 41 = .ok (.istore_n 1, 1) := by decide +kernel
theorem dX9_take_42 : decode cX9_take 42 = .ok (.aload_n 0, 1) := by decide +kernel
theorem dX9_take_43 : decode cX9_take 43 = .ok (.getfield 7, 3) := by decide +kernel
theorem dX9_take_46 : decode cX9_take 46 = .ok (.iconst 0, 1) := by decide +kernel
theorem dX9_take_47 : decode cX9_take 47 = .ok (.iload_n 2, 1) := by decide +kernel
theorem dX9_take_48 : decode cX9_take 48 = .ok (.iadd, 1) := by decide +kernel
theorem dX9_take_49 : decode cX9_take 49 = .ok (.aload_n 0, 1) := by decide +kernel
theorem dX9_take_50 : decode cX9_take 50 = .ok (.getfield 7, 3) := by decide +kernel
theorem dX9_take_53 : decode cX9_take 53 = .ok (.bipush 96, 2) := by decide +kernel
theorem dX9_take_55 : decode cX9_take 55 = .ok (.iload_n 2, 1) := by decide +kernel
theorem dX9_take_56 : decode cX9_take 56 = .ok (.iadd, 1) := by decide +kernel
theorem dX9_take_57 : decode cX9_take 57 = .ok (.iaload, 1) := by decide +kernel
theorem dX9_take_58 : decode cX9_take 58 = .ok (.iastore, 1) := by decide +kernel
theorem dX9_take_59 : decode cX9_take 59 = .ok (.iinc 2 1, 3) := by decide +kernel
theorem dX9_take_62 : decode cX9_take 62 = .ok (.goto (-54), 3) := by decide +kernel
theorem dX9_take_65 : decode cX9_take 65 = .ok (.iload_n 1, 1) := by decide +kernel
theorem dX9_take_66 : decode cX9_take 66 = .ok (.ireturn, 1) := by decide +kernel
theorem dX9_like_0 : decode cX9_like 0 = .ok (.iload_n 1, 1) := by decide +kernel
theorem dX9_like_1 : decode cX9_like 1 = .ok (.i2l, 1) := by decide +kernel
theorem dX9_like_2 : decode cX9_like 2 = .ok (.lconst 0, 1) := by decide +kernel
theorem dX9_like_3 : decode cX9_like 3 = .ok (.ldc2_w 199, 3) := by decide +kernel
theorem dX9_like_6 : decode cX9_like 6 = .ok (.invokestatic 70, 3) := by decide +kernel
theorem dX9_like_9 : decode cX9_like 9 = .ok (.ifCond .ne 6, 3) := by decide +kernel
theorem dX9_like_12 : decode cX9_like 12 = .ok (.ldc 145, 2) := by decide +kernel
theorem dX9_like_14 : decode cX9_like 14 = .ok (.ireturn, 1) := by decide +kernel
theorem dX9_like_15 : decode cX9_like 15 = .ok (.aload_n 0, 1) := by decide +kernel
theorem dX9_like_16 : decode cX9_like 16 = .ok (.getfield 7, 3) := by decide +kernel
theorem dX9_like_19 : decode cX9_like 19 = .ok (.sipush 192, 3) := by decide +kernel
theorem dX9_like_22 : decode cX9_like 22 = .ok (.iaload, 1) := by decide +kernel
theorem dX9_like_23 : decode cX9_like 23 = .ok (.istore_n 2, 1) := by decide +kernel
theorem dX9_like_24 : decode cX9_like 24 = .ok (.iload_n 2, 1) := by decide +kernel
theorem dX9_like_25 : decode cX9_like 25 = .ok (.iload_n 1, 1) := by decide +kernel
theorem dX9_like_26 : decode cX9_like 26 = .ok (.if_icmp .ne 6, 3) := by decide +kernel
theorem dX9_like_29 : decode cX9_like 29 = .ok (.ldc 193, 2) := by decide +kernel
theorem dX9_like_31 : decode cX9_like 31 = .ok (.ireturn, 1) := by decide +kernel
theorem dX9_like_32 : decode cX9_like 32 = .ok (.aload_n 0, 1) := by decide +kernel
theorem dX9_like_33 : decode cX9_like 33 = .ok (.invokevirtual 194, 3) := by decide +kernel
theorem dX9_like_36 : decode cX9_like 36 = .ok (.aload_n 0, 1) := by decide +kernel
theorem dX9_like_37 : decode cX9_like 37 = .ok (.getfield 7, 3) := by decide +kernel
theorem dX9_like_40 : decode cX9_like 40 = .ok (.sipush 192, 3) := by decide +kernel
theorem dX9_like_43 : decode cX9_like 43 = .ok (.iload_n 1, 1) := by decide +kernel
theorem dX9_like_44 : decode cX9_like 44 = .ok (.iastore, 1) := by decide +kernel
theorem dX9_like_45 : decode cX9_like 45 = .ok (.iload_n 2, 1) := by decide +kernel
theorem dX9_like_46 : decode cX9_like 46 = .ok (.ireturn, 1) := by decide +kernel
theorem dX9_noise_0 : decode cX9_noise 0 = .ok (.iload_n 1, 1) := by decide +kernel
theorem dX9_noise_1 : decode cX9_noise 1 = .ok (.i2l, 1) := by decide +kernel
theorem dX9_noise_2 : decode cX9_noise 2 = .ok (.lconst 1, 1) := by decide +kernel
theorem dX9_noise_3 : decode cX9_noise 3 = .ok (.ldc2_w 201, 3) := by decide +kernel
theorem dX9_noise_6 : decode cX9_noise 6 = .ok (.invokestatic 70, 3) := by decide +kernel
theorem dX9_noise_9 : decode cX9_noise 9 = .ok (.ifCond .ne 6, 3) := by decide +kernel
theorem dX9_noise_12 : decode cX9_noise 12 = .ok (.ldc 145, 2) := by decide +kernel
theorem dX9_noise_14 : decode cX9_noise 14 = .ok (.ireturn, 1) := by decide +kernel
theorem dX9_noise_15 : decode cX9_noise 15 = .ok (.iconst 0, 1) := by decide +kernel
theorem dX9_noise_16 : decode cX9_noise 16 = .ok (.istore_n 2, 1) := by decide +kernel
theorem dX9_noise_17 : decode cX9_noise 17 = .ok (.iload_n 2, 1) := by decide +kernel
theorem dX9_noise_18 : decode cX9_noise 18 = .ok (.iload_n 1, 1) := by decide +kernel
theorem dX9_noise_19 : decode cX9_noise 19 = .ok (.if_icmp .ge 79, 3) := by decide +kernel
theorem dX9_noise_22 : decode cX9_noise 22 = .ok (.aload_n 0, 1) := by decide +kernel
theorem dX9_noise_23 : decode cX9_noise 23 = .ok (.invokevirtual 194, 3) := by decide +kernel
theorem dX9_noise_26 : decode cX9_noise 26 = .ok (.aload_n 0, 1) := by decide +kernel
theorem dX9_noise_27 : decode cX9_noise 27 = .ok (.getfield 7, 3) := by decide +kernel
theorem dX9_noise_30 : decode cX9_noise 30 = .ok (.sipush 193, 3) := by decide +kernel
theorem dX9_noise_33 : decode cX9_noise 33 = .ok (.iaload, 1) := by decide +kernel
theorem dX9_noise_34 : decode cX9_noise 34 = .ok (.i2l, 1) := by decide +kernel
theorem dX9_noise_35 : decode cX9_noise 35 = .ok (.ldc2_w 203, 3) := by decide +kernel
theorem dX9_noise_38 : decode cX9_noise 38 = .ok (.lmul, 1) := by decide +kernel
theorem dX9_noise_39 : decode cX9_noise 39 = .ok (.ldc2_w 205, 3) := by decide +kernel
theorem dX9_noise_42 : decode cX9_noise 42 = .ok (.ladd, 1) := by decide +kernel
theorem dX9_noise_43 : decode cX9_noise 43 = .ok (.ldc2_w 207, 3) := by decide +kernel
theorem dX9_noise_46 : decode cX9_noise 46 = .ok (.lrem, 1) := by decide +kernel
theorem dX9_noise_47 : decode cX9_noise 47 = .ok (.lstore_n 3, 1) := by decide +kernel
theorem dX9_noise_48 : decode cX9_noise 48 = .ok (.aload_n 0, 1) := by decide +kernel
theorem dX9_noise_49 : decode cX9_noise 49 = .ok (.getfield 7, 3) := by decide +kernel
theorem dX9_noise_52 : decode cX9_noise 52 = .ok (.sipush 193, 3) := by decide +kernel
theorem dX9_noise_55 : decode cX9_noise 55 = .ok (.lload_n 3, 1) := by decide +kernel
theorem dX9_noise_56 : decode cX9_noise 56 = .ok (.l2i, 1) := by decide +kernel
theorem dX9_noise_57 : decode cX9_noise 57 = .ok (.iastore, 1) := by decide +kernel
theorem dX9_noise_58 : decode cX9_noise 58 = .ok (.aload_n 0, 1) := by decide +kernel
theorem dX9_noise_59 : decode cX9_noise 59 = .ok (.getfield 7, 3) := by decide +kernel
theorem dX9_noise_62 : decode cX9_noise 62 = .ok (.sipush 193, 3) := by decide +kernel
theorem dX9_noise_65 : decode cX9_noise 65 = .ok (.iaload, 1) := by decide +kernel
theorem dX9_noise_66 : decode cX9_noise 66 = .ok (.ldc 209, 2) := by decide +kernel
theorem dX9_noise_68 : decode cX9_noise 68 = .ok (.idiv, 1) := by decide +kernel
theorem dX9_noise_69 : decode cX9_noise 69 = .ok (.istore 5, 2) := by decide +kernel
theorem dX9_noise_71 : decode cX9_noise 71 = .ok (.aload_n 0, 1) := by decide +kernel
theorem dX9_noise_72 : decode cX9_noise 72 = .ok (.getfield 7, 3) := by decide +kernel
theorem dX9_noise_75 : decode cX9_noise 75 = .ok (.bipush 96, 2) := by decide +kernel
theorem dX9_noise_77 : decode cX9_noise 77 = .ok (.iload 5, 2) := by decide +kernel
theorem dX9_noise_79 : decode cX9_noise 79 = .ok (.bipush 96, 2) := by decide +kernel
theorem dX9_noise_81 : decode cX9_noise 81 = .ok (.irem, 1) := by decide +kernel
theorem dX9_noise_82 : decode cX9_noise 82 = .ok (.iadd, 1) := by decide +kernel
theorem dX9_noise_83 : decode cX9_noise 83 = .ok (.iload 5, 2) := by decide +kernel
theorem dX9_noise_85 : decode cX9_noise 85 = .ok (.bipush 96, 2) := by decide +kernel
theorem dX9_noise_87 : decode cX9_noise 87 = .ok (.idiv, 1) := by decide +kernel
theorem dX9_noise_88 : decode cX9_noise 88 = .ok (.bipush 10, 2) := by decide +kernel
theorem dX9_noise_90 : decode cX9_noise 90 = .ok (.irem, 1) := by decide +kernel
theorem dX9_noise_91 : decode cX9_noise 91 = .ok (.iastore, 1) := by decide +kernel
theorem dX9_noise_92 : decode cX9_noise 92 = .ok (.iinc 2 1, 3) := by decide +kernel
theorem dX9_noise_95 : decode cX9_noise 95 = .ok (.goto (-78), 3) := by decide +kernel
theorem dX9_noise_98 : decode cX9_noise 98 = .ok (.aload_n 0, 1) := by decide +kernel
theorem dX9_noise_99 : decode cX9_noise 99 = .ok (.invokevirtual 156, 3) := by decide +kernel
theorem dX9_noise_102 : decode cX9_noise 102 = .ok (.ireturn, 1) := by decide +kernel
theorem dX9_undo_0 : decode cX9_undo 0 = .ok (.aload_n 0, 1) := by decide +kernel
theorem dX9_undo_1 : decode cX9_undo 1 = .ok (.getfield 166, 3) := by decide +kernel
theorem dX9_undo_4 : decode cX9_undo 4 = .ok (.ifCond .ne 6, 3) := by decide +kernel
theorem dX9_undo_7 : decode cX9_undo 7 = .ok (.ldc 108, 2) := by decide +kernel
theorem dX9_undo_9 : decode cX9_undo 9 = .ok (.ireturn, 1) := by decide +kernel
theorem dX9_undo_10 : decode cX9_undo 10 = .ok (.aload_n 0, 1) := by decide +kernel
theorem dX9_undo_11 : decode cX9_undo 11 = .ok (.dup, 1) := by decide +kernel
theorem dX9_undo_12 : decode cX9_undo 12 = .ok (.getfield 166, 3) := by decide +kernel
theorem dX9_undo_15 : decode cX9_undo 15 = .ok (.iconst 1, 1) := by decide +kernel
theorem dX9_undo_16 : decode cX9_undo 16 = .ok (.isub, 1) := by decide +kernel
theorem dX9_undo_17 : decode cX9_undo 17 = .ok (.putfield 166, 3) := by decide +kernel
theorem dX9_undo_20 : decode cX9_undo 20 = .ok (.iconst 0, 1) := by decide +kernel
theorem dX9_undo_21 : decode cX9_undo 21 = .ok (.istore_n 1, 1) := by decide +kernel
theorem dX9_undo_22 : decode cX9_undo 22 = .ok (.iload_n 1, 1) := by decide +kernel
theorem dX9_undo_23 : decode cX9_undo 23 = .ok (.sipush 194, 3) := by decide +kernel
theorem dX9_undo_26 : decode cX9_undo 26 = .ok (.if_icmp .ge 30, 3) := by decide +kernel
theorem dX9_undo_29 : decode cX9_undo 29 = .ok (.aload_n 0, 1) := by decide +kernel
theorem dX9_undo_30 : decode cX9_undo 30 = .ok (.getfield 7, 3) := by decide +kernel
theorem dX9_undo_33 : decode cX9_undo 33 = .ok (.iload_n 1, 1) := by decide +kernel
theorem dX9_undo_34 : decode cX9_undo 34 = .ok (.aload_n 0, 1) := by decide +kernel
theorem dX9_undo_35 : decode cX9_undo 35 = .ok (.getfield 25, 3) := by decide +kernel
theorem dX9_undo_38 : decode cX9_undo 38 = .ok (.sipush 194, 3) := by decide +kernel
theorem dX9_undo_41 : decode cX9_undo 41 = .ok (.aload_n 0, 1) := by decide +kernel
theorem dX9_undo_42 : decode cX9_undo 42 = .ok (.getfield 166, 3) := by decide +kernel
theorem dX9_undo_45 : decode cX9_undo 45 = .ok (.imul, 1) := by decide +kernel
theorem dX9_undo_46 : decode cX9_undo 46 = .ok (.iload_n 1, 1) := by decide +kernel
theorem dX9_undo_47 : decode cX9_undo 47 = .ok (.iadd, 1) := by decide +kernel
theorem dX9_undo_48 : decode cX9_undo 48 = .ok (.iaload, 1) := by decide +kernel
theorem dX9_undo_49 : decode cX9_undo 49 = .ok (.iastore, 1) := by decide +kernel
theorem dX9_undo_50 : decode cX9_undo 50 = .ok (.iinc 1 1, 3) := by decide +kernel
theorem dX9_undo_53 : decode cX9_undo 53 = .ok (.goto (-31), 3) := by decide +kernel
theorem dX9_undo_56 : decode cX9_undo 56 = .ok (.aload_n 0, 1) := by decide +kernel
theorem dX9_undo_57 : decode cX9_undo 57 = .ok (.getfield 166, 3) := by decide +kernel
theorem dX9_undo_60 : decode cX9_undo 60 = .ok (.ireturn, 1) := by decide +kernel
theorem dX9_seed_0 : decode cX9_seed 0 = .ok (.iload_n 1, 1) := by decide +kernel
theorem dX9_seed_1 : decode cX9_seed 1 = .ok (.ifCond .ge 6, 3) := by decide +kernel
theorem dX9_seed_4 : decode cX9_seed 4 = .ok (.ldc 145, 2) := by decide +kernel
theorem dX9_seed_6 : decode cX9_seed 6 = .ok (.ireturn, 1) := by decide +kernel
theorem dX9_seed_7 : decode cX9_seed 7 = .ok (.aload_n 0, 1) := by decide +kernel
theorem dX9_seed_8 : decode cX9_seed 8 = .ok (.getfield 7, 3) := by decide +kernel
theorem dX9_seed_11 : decode cX9_seed 11 = .ok (.sipush 193, 3) := by decide +kernel
theorem dX9_seed_14 : decode cX9_seed 14 = .ok (.iaload, 1) := by decide +kernel
theorem dX9_seed_15 : decode cX9_seed 15 = .ok (.istore_n 2, 1) := by decide +kernel
theorem dX9_seed_16 : decode cX9_seed 16 = .ok (.aload_n 0, 1) := by decide +kernel
theorem dX9_seed_17 : decode cX9_seed 17 = .ok (.getfield 7, 3) := by decide +kernel
theorem dX9_seed_20 : decode cX9_seed 20 = .ok (.sipush 193, 3) := by decide +kernel
theorem dX9_seed_23 : decode cX9_seed 23 = .ok (.iload_n 1, 1) := by decide +kernel
theorem dX9_seed_24 : decode cX9_seed 24 = .ok (.iastore, 1) := by decide +kernel
theorem dX9_seed_25 : decode cX9_seed 25 = .ok (.iload_n 2, 1) := by decide +kernel
theorem dX9_seed_26 : decode cX9_seed 26 = .ok (.ireturn, 1) := by decide +kernel
theorem dX9_cost_0 : decode cX9_cost 0 = .ok (.iload_n 1, 1) := by decide +kernel
theorem dX9_cost_1 : decode cX9_cost 1 = .ok (.invokestatic 210, 3) := by decide +kernel
theorem dX9_cost_4 : decode cX9_cost 4 = .ok (.ifCond .eq 28, 3) := by decide +kernel
theorem dX9_cost_7 : decode cX9_cost 7 = .ok (.iload_n 2, 1) := by decide +kernel
theorem dX9_cost_8 : decode cX9_cost 8 = .ok (.i2l, 1) := by decide +kernel
theorem dX9_cost_9 : decode cX9_cost 9 = .ok (.invokestatic 214, 3) := by decide +kernel
theorem dX9_cost_12 : decode cX9_cost 12 = .ok (.ifCond .eq 20, 3) := by decide +kernel
theorem dX9_cost_15 : decode cX9_cost 15 = .ok (.aload_n 0, 1) := by decide +kernel
theorem dX9_cost_16 : decode cX9_cost 16 = .ok (.aload_n 0, 1) := by decide +kernel
theorem dX9_cost_17 : decode cX9_cost 17 = .ok (.getfield 7, 3) := by decide +kernel
theorem dX9_cost_20 : decode cX9_cost 20 = .ok (.sipush 192, 3) := by decide +kernel
theorem dX9_cost_23 : decode cX9_cost 23 = .ok (.iaload, 1) := by decide +kernel
theorem dX9_cost_24 : decode cX9_cost 24 = .ok (.iload_n 1, 1) := by decide +kernel
theorem dX9_cost_25 : decode cX9_cost 25 = .ok (.iload_n 2, 1) := by decide +kernel
theorem dX9_cost_26 : decode cX9_cost 26 = .ok (.invokevirtual 87, 3) := by decide +kernel
theorem dX9_cost_29 : decode cX9_cost 29 = .ok (.goto 5, 3) := by decide +kernel
theorem dX9_cost_32 : decode cX9_cost 32 = .ok (.ldc 145, 2) := by decide +kernel
theorem dX9_cost_34 : decode cX9_cost 34 = .ok (.ireturn, 1) := by decide +kernel
theorem dX9_of_0 : decode cX9_of 0 = .ok (.iload_n 1, 1) := by decide +kernel
theorem dX9_of_1 : decode cX9_of 1 = .ok (.invokestatic 210, 3) := by decide +kernel
theorem dX9_of_4 : decode cX9_of 4 = .ok (.ifCond .ne 6, 3) := by decide +kernel
theorem dX9_of_7 : decode cX9_of 7 = .ok (.ldc 145, 2) := by decide +kernel
theorem dX9_of_9 : decode cX9_of 9 = .ok (.ireturn, 1) := by decide +kernel
theorem dX9_of_10 : decode cX9_of 10 = .ok (.iload_n 2, 1) := by decide +kernel
theorem dX9_of_11 : decode cX9_of 11 = .ok (.tableswitch 152 0 9 #[53, 59, 78, 88, 98, 108, 114, 114, 131, 131], 53) := by decide +kernel
theorem dX9_of_64 : decode cX9_of 64 = .ok (.aload_n 0, 1) := by decide +kernel
theorem dX9_of_65 : decode cX9_of 65 = .ok (.iload_n 1, 1) := by decide +kernel
theorem dX9_of_66 : decode cX9_of 66 = .ok (.invokevirtual 116, 3) := by decide +kernel
theorem dX9_of_69 : decode cX9_of 69 = .ok (.ireturn, 1) := by decide +kernel
theorem dX9_of_70 : decode cX9_of 70 = .ok (.aload_n 0, 1) := by decide +kernel
theorem dX9_of_71 : decode cX9_of 71 = .ok (.aload_n 0, 1) := by decide +kernel
theorem dX9_of_72 : decode cX9_of 72 = .ok (.getfield 7, 3) := by decide +kernel
theorem dX9_of_75 : decode cX9_of 75 = .ok (.sipush 192, 3) := by decide +kernel
theorem dX9_of_78 : decode cX9_of 78 = .ok (.iaload, 1) := by decide +kernel
theorem dX9_of_79 : decode cX9_of 79 = .ok (.iload_n 1, 1) := by decide +kernel
theorem dX9_of_80 : decode cX9_of 80 = .ok (.aload_n 0, 1) := by decide +kernel
theorem dX9_of_81 : decode cX9_of 81 = .ok (.iload_n 1, 1) := by decide +kernel
theorem dX9_of_82 : decode cX9_of 82 = .ok (.invokevirtual 116, 3) := by decide +kernel
theorem dX9_of_85 : decode cX9_of 85 = .ok (.invokevirtual 87, 3) := by decide +kernel
theorem dX9_of_88 : decode cX9_of 88 = .ok (.ireturn, 1) := by decide +kernel
theorem dX9_of_89 : decode cX9_of 89 = .ok (.aload_n 0, 1) := by decide +kernel
theorem dX9_of_90 : decode cX9_of 90 = .ok (.iload_n 1, 1) := by decide +kernel
theorem dX9_of_91 : decode cX9_of 91 = .ok (.invokevirtual 218, 3) := by decide +kernel
theorem dX9_of_94 : decode cX9_of 94 = .ok (.aload_n 0, 1) := by decide +kernel
theorem dX9_of_95 : decode cX9_of 95 = .ok (.getfield 93, 3) := by decide +kernel
theorem dX9_of_98 : decode cX9_of 98 = .ok (.ireturn, 1) := by decide +kernel
theorem dX9_of_99 : decode cX9_of 99 = .ok (.aload_n 0, 1) := by decide +kernel
theorem dX9_of_100 : decode cX9_of 100 = .ok (.iload_n 1, 1) := by decide +kernel
theorem dX9_of_101 : decode cX9_of 101 = .ok (.invokevirtual 218, 3) := by decide +kernel
theorem dX9_of_104 : decode cX9_of 104 = .ok (.aload_n 0, 1) := by decide +kernel
theorem dX9_of_105 : decode cX9_of 105 = .ok (.getfield 96, 3) := by decide +kernel
theorem dX9_of_108 : decode cX9_of 108 = .ok (.ireturn, 1) := by decide +kernel
theorem dX9_of_109 : decode cX9_of 109 = .ok (.aload_n 0, 1) := by decide +kernel
theorem dX9_of_110 : decode cX9_of 110 = .ok (.iload_n 1, 1) := by decide +kernel
theorem dX9_of_111 : decode cX9_of 111 = .ok (.invokevirtual 218, 3) := by decide +kernel
theorem dX9_of_114 : decode cX9_of 114 = .ok (.aload_n 0, 1) := by decide +kernel
theorem dX9_of_115 : decode cX9_of 115 = .ok (.getfield 99, 3) := by decide +kernel
theorem dX9_of_118 : decode cX9_of 118 = .ok (.ireturn, 1) := by decide +kernel
theorem dX9_of_119 : decode cX9_of 119 = .ok (.aload_n 0, 1) := by decide +kernel
theorem dX9_of_120 : decode cX9_of 120 = .ok (.iload_n 1, 1) := by decide +kernel
theorem dX9_of_121 : decode cX9_of 121 = .ok (.invokevirtual 146, 3) := by decide +kernel
theorem dX9_of_124 : decode cX9_of 124 = .ok (.ireturn, 1) := by decide +kernel
theorem dX9_of_125 : decode cX9_of 125 = .ok (.aload_n 0, 1) := by decide +kernel
theorem dX9_of_126 : decode cX9_of 126 = .ok (.iload_n 1, 1) := by decide +kernel
theorem dX9_of_127 : decode cX9_of 127 = .ok (.iload_n 2, 1) := by decide +kernel
theorem dX9_of_128 : decode cX9_of 128 = .ok (.bipush 6, 2) := by decide +kernel
theorem dX9_of_130 : decode cX9_of 130 = .ok (.if_icmp .ne 7, 3) := by decide +kernel
theorem dX9_of_133 : decode cX9_of 133 = .ok (.iconst 1, 1) := by decide +kernel
theorem dX9_of_134 : decode cX9_of 134 = .ok (.goto 4, 3) := by decide +kernel
theorem dX9_of_137 : decode cX9_of 137 = .ok (.iconst 0, 1) := by decide +kernel
theorem dX9_of_138 : decode cX9_of 138 = .ok (.invokevirtual 222, 3) := by decide +kernel
theorem dX9_of_141 : decode cX9_of 141 = .ok (.ireturn, 1) := by decide +kernel
theorem dX9_of_142 : decode cX9_of 142 = .ok (.aload_n 0, 1) := by decide +kernel
theorem dX9_of_143 : decode cX9_of 143 = .ok (.invokevirtual 126, 3) := by decide +kernel
theorem dX9_of_146 : decode cX9_of 146 = .ok (.aload_n 0, 1) := by decide +kernel
theorem dX9_of_147 : decode cX9_of 147 = .ok (.iload_n 1, 1) := by decide +kernel
theorem dX9_of_148 : decode cX9_of 148 = .ok (.iload_n 2, 1) := by decide +kernel
theorem dX9_of_149 : decode cX9_of 149 = .ok (.bipush 8, 2) := by decide +kernel
theorem dX9_of_151 : decode cX9_of 151 = .ok (.if_icmp .ne 7, 3) := by decide +kernel
theorem dX9_of_154 : decode cX9_of 154 = .ok (.iconst 1, 1) := by decide +kernel
theorem dX9_of_155 : decode cX9_of 155 = .ok (.goto 4, 3) := by decide +kernel
theorem dX9_of_158 : decode cX9_of 158 = .ok (.iconst 0, 1) := by decide +kernel
theorem dX9_of_159 : decode cX9_of 159 = .ok (.invokevirtual 129, 3) := by decide +kernel
theorem dX9_of_162 : decode cX9_of 162 = .ok (.ireturn, 1) := by decide +kernel
theorem dX9_of_163 : decode cX9_of 163 = .ok (.ldc 145, 2) := by decide +kernel
theorem dX9_of_165 : decode cX9_of 165 = .ok (.ireturn, 1) := by decide +kernel
theorem dX9_rebuilt_0 : decode cX9_rebuilt 0 = .ok (.iload_n 1, 1) := by decide +kernel
theorem dX9_rebuilt_1 : decode cX9_rebuilt 1 = .ok (.i2l, 1) := by decide +kernel
theorem dX9_rebuilt_2 : decode cX9_rebuilt 2 = .ok (.lconst 0, 1) := by decide +kernel
theorem dX9_rebuilt_3 : decode cX9_rebuilt 3 = .ok (.ldc2_w 189, 3) := by decide +kernel
theorem dX9_rebuilt_6 : decode cX9_rebuilt 6 = .ok (.invokestatic 70, 3) := by decide +kernel
theorem dX9_rebuilt_9 : decode cX9_rebuilt 9 = .ok (.ifCond .eq 15, 3) := by decide +kernel
theorem dX9_rebuilt_12 : decode cX9_rebuilt 12 = .ok (.iload_n 2, 1) := by decide +kernel
theorem dX9_rebuilt_13 : decode cX9_rebuilt 13 = .ok (.i2l, 1) := by decide +kernel
theorem dX9_rebuilt_14 : decode cX9_rebuilt 14 = .ok (.lconst 0, 1) := by decide +kernel
theorem dX9_rebuilt_15 : decode cX9_rebuilt 15 = .ok (.ldc2_w 191, 3) := by decide +kernel
theorem dX9_rebuilt_18 : decode cX9_rebuilt 18 = .ok (.invokestatic 70, 3) := by decide +kernel
theorem dX9_rebuilt_21 : decode cX9_rebuilt 21 = .ok (.ifCond .ne 6, 3) := by decide +kernel
theorem dX9_rebuilt_24 : decode cX9_rebuilt 24 = .ok (.ldc 145, 2) := by decide +kernel
theorem dX9_rebuilt_26 : decode cX9_rebuilt 26 = .ok (.ireturn, 1) := by decide +kernel
theorem dX9_rebuilt_27 : decode cX9_rebuilt 27 = .ok (.aload_n 0, 1) := by decide +kernel
theorem dX9_rebuilt_28 : decode cX9_rebuilt 28 = .ok (.invokevirtual 126, 3) := by decide +kernel
theorem dX9_rebuilt_31 : decode cX9_rebuilt 31 = .ok (.aload_n 0, 1) := by decide +kernel
theorem dX9_rebuilt_32 : decode cX9_rebuilt 32 = .ok (.iload_n 1, 1) := by decide +kernel
theorem dX9_rebuilt_33 : decode cX9_rebuilt 33 = .ok (.iload_n 2, 1) := by decide +kernel
theorem dX9_rebuilt_34 : decode cX9_rebuilt 34 = .ok (.invokevirtual 135, 3) := by decide +kernel
theorem dX9_rebuilt_37 : decode cX9_rebuilt 37 = .ok (.ireturn, 1) := by decide +kernel
theorem dX9_wrong_0 : decode cX9_wrong 0 = .ok (.iload_n 1, 1) := by decide +kernel
theorem dX9_wrong_1 : decode cX9_wrong 1 = .ok (.i2l, 1) := by decide +kernel
theorem dX9_wrong_2 : decode cX9_wrong 2 = .ok (.lconst 0, 1) := by decide +kernel
theorem dX9_wrong_3 : decode cX9_wrong 3 = .ok (.ldc2_w 225, 3) := by decide +kernel
theorem dX9_wrong_6 : decode cX9_wrong 6 = .ok (.invokestatic 70, 3) := by decide +kernel
theorem dX9_wrong_9 : decode cX9_wrong 9 = .ok (.ifCond .eq 25, 3) := by decide +kernel
theorem dX9_wrong_12 : decode cX9_wrong 12 = .ok (.iload_n 2, 1) := by decide +kernel
theorem dX9_wrong_13 : decode cX9_wrong 13 = .ok (.i2l, 1) := by decide +kernel
theorem dX9_wrong_14 : decode cX9_wrong 14 = .ok (.lconst 0, 1) := by decide +kernel
theorem dX9_wrong_15 : decode cX9_wrong 15 = .ok (.ldc2_w 143, 3) := by decide +kernel
theorem dX9_wrong_18 : decode cX9_wrong 18 = .ok (.invokestatic 70, 3) := by decide +kernel
theorem dX9_wrong_21 : decode cX9_wrong 21 = .ok (.ifCond .eq 13, 3) := by decide +kernel
theorem dX9_wrong_24 : decode cX9_wrong 24 = .ok (.iload_n 3, 1) := by decide +kernel
theorem dX9_wrong_25 : decode cX9_wrong 25 = .ok (.i2l, 1) := by decide +kernel
theorem dX9_wrong_26 : decode cX9_wrong 26 = .ok (.lconst 0, 1) := by decide +kernel
theorem dX9_wrong_27 : decode cX9_wrong 27 = .ok (.lconst 1, 1) := by decide +kernel
theorem dX9_wrong_28 : decode cX9_wrong 28 = .ok (.invokestatic 70, 3) := by decide +kernel
theorem dX9_wrong_31 : decode cX9_wrong 31 = .ok (.ifCond .ne 6, 3) := by decide +kernel
theorem dX9_wrong_34 : decode cX9_wrong 34 = .ok (.ldc 145, 2) := by decide +kernel
theorem dX9_wrong_36 : decode cX9_wrong 36 = .ok (.ireturn, 1) := by decide +kernel
theorem dX9_wrong_37 : decode cX9_wrong 37 = .ok (.iconst 0, 1) := by decide +kernel
theorem dX9_wrong_38 : decode cX9_wrong 38 = .ok (.istore 4, 2) := by decide +kernel
theorem dX9_wrong_40 : decode cX9_wrong 40 = .ok (.iload 4, 2) := by decide +kernel
theorem dX9_wrong_42 : decode cX9_wrong 42 = .ok (.iload_n 1, 1) := by decide +kernel
theorem dX9_wrong_43 : decode cX9_wrong 43 = .ok (.if_icmp .ge 26, 3) := by decide +kernel
theorem dX9_wrong_46 : decode cX9_wrong 46 = .ok (.aload_n 0, 1) := by decide +kernel
theorem dX9_wrong_47 : decode cX9_wrong 47 = .ok (.getfield 22, 3) := by decide +kernel
theorem dX9_wrong_50 : decode cX9_wrong 50 = .ok (.iload 4, 2) := by decide +kernel
theorem dX9_wrong_52 : decode cX9_wrong 52 = .ok (.aload_n 0, 1) := by decide +kernel
theorem dX9_wrong_53 : decode cX9_wrong 53 = .ok (.getfield 7, 3) := by decide +kernel
theorem dX9_wrong_56 : decode cX9_wrong 56 = .ok (.bipush 96, 2) := by decide +kernel
theorem dX9_wrong_58 : decode cX9_wrong 58 = .ok (.iload 4, 2) := by decide +kernel
theorem dX9_wrong_60 : decode cX9_wrong 60 = .ok (.iadd, 1) := by decide +kernel
theorem dX9_wrong_61 : decode cX9_wrong 61 = .ok (.iaload, 1) := by decide +kernel
theorem dX9_wrong_62 : decode cX9_wrong 62 = .ok (.iastore, 1) := by decide +kernel
theorem dX9_wrong_63 : decode cX9_wrong 63 = .ok (.iinc 4 1, 3) := by decide +kernel
theorem dX9_wrong_66 : decode cX9_wrong 66 = .ok (.goto (-26), 3) := by decide +kernel
theorem dX9_wrong_69 : decode cX9_wrong 69 = .ok (.aload_n 0, 1) := by decide +kernel
theorem dX9_wrong_70 : decode cX9_wrong 70 = .ok (.iconst 0, 1) := by decide +kernel
theorem dX9_wrong_71 : decode cX9_wrong 71 = .ok (.invokevirtual 116, 3) := by decide +kernel
theorem dX9_wrong_74 : decode cX9_wrong 74 = .ok (.istore 4, 2) := by decide +kernel
theorem dX9_wrong_76 : decode cX9_wrong 76 = .ok (.iconst 0, 1) := by decide +kernel
theorem dX9_wrong_77 : decode cX9_wrong 77 = .ok (.istore 5, 2) := by decide +kernel
theorem dX9_wrong_79 : decode cX9_wrong 79 = .ok (.iconst 0, 1) := by decide +kernel
theorem dX9_wrong_80 : decode cX9_wrong 80 = .ok (.istore 6, 2) := by decide +kernel
theorem dX9_wrong_82 : decode cX9_wrong 82 = .ok (.iconst 0, 1) := by decide +kernel
theorem dX9_wrong_83 : decode cX9_wrong 83 = .ok (.istore 7, 2) := by decide +kernel
theorem dX9_wrong_85 : decode cX9_wrong 85 = .ok (.iload 7, 2) := by decide +kernel
theorem dX9_wrong_87 : decode cX9_wrong 87 = .ok (.iconst 1, 1) := by decide +kernel
theorem dX9_wrong_88 : decode cX9_wrong 88 = .ok (.iload_n 1, 1) := by decide +kernel
theorem dX9_wrong_89 : decode cX9_wrong 89 = .ok (.ishl, 1) := by decide +kernel
theorem dX9_wrong_90 : decode cX9_wrong 90 = .ok (.if_icmp .ge 131, 3) := by decide +kernel
theorem dX9_wrong_93 : decode cX9_wrong 93 = .ok (.iconst 1, 1) := by decide +kernel
theorem dX9_wrong_94 : decode cX9_wrong 94 = .ok (.istore 8, 2) := by decide +kernel
theorem dX9_wrong_96 : decode cX9_wrong 96 = .ok (.iconst 0, 1) := by decide +kernel
theorem dX9_wrong_97 : decode cX9_wrong 97 = .ok (.istore 9, 2) := by decide +kernel
theorem dX9_wrong_99 : decode cX9_wrong 99 = .ok (.iload 9, 2) := by decide +kernel
theorem dX9_wrong_101 : decode cX9_wrong 101 = .ok (.iload_n 1, 1) := by decide +kernel
theorem dX9_wrong_102 : decode cX9_wrong 102 = .ok (.if_icmp .ge 80, 3) := by decide +kernel
theorem dX9_wrong_105 : decode cX9_wrong 105 = .ok (.iload 7, 2) := by decide +kernel
theorem dX9_wrong_107 : decode cX9_wrong 107 = .ok (.iload 9, 2) := by decide +kernel
theorem dX9_wrong_109 : decode cX9_wrong 109 = .ok (.ishr, 1) := by decide +kernel
theorem dX9_wrong_110 : decode cX9_wrong 110 = .ok (.iconst 1, 1) := by decide +kernel
theorem dX9_wrong_111 : decode cX9_wrong 111 = .ok (.iand, 1) := by decide +kernel
theorem dX9_wrong_112 : decode cX9_wrong 112 = .ok (.iconst 1, 1) := by decide +kernel
theorem dX9_wrong_113 : decode cX9_wrong 113 = .ok (.if_icmp .ne 7, 3) := by decide +kernel
theorem dX9_wrong_116 : decode cX9_wrong 116 = .ok (.iconst 1, 1) := by decide +kernel
theorem dX9_wrong_117 : decode cX9_wrong 117 = .ok (.goto 4, 3) := by decide +kernel
theorem dX9_wrong_120 : decode cX9_wrong 120 = .ok (.iconst 0, 1) := by decide +kernel
theorem dX9_wrong_121 : decode cX9_wrong 121 = .ok (.istore 10, 2) := by decide +kernel
theorem dX9_wrong_123 : decode cX9_wrong 123 = .ok (.iload 8, 2) := by decide +kernel
theorem dX9_wrong_125 : decode cX9_wrong 125 = .ok (.iload 10, 2) := by decide +kernel
theorem dX9_wrong_127 : decode cX9_wrong 127 = .ok (.ifCond .eq 7, 3) := by decide +kernel
theorem dX9_wrong_130 : decode cX9_wrong 130 = .ok (.iload_n 2, 1) := by decide +kernel
theorem dX9_wrong_131 : decode cX9_wrong 131 = .ok (.goto 7, 3) := by decide +kernel
theorem dX9_wrong_134 : decode cX9_wrong 134 = .ok (.bipush 10, 2) := by decide +kernel
theorem dX9_wrong_136 : decode cX9_wrong 136 = .ok (.iload_n 2, 1) := by decide +kernel
theorem dX9_wrong_137 : decode cX9_wrong 137 = .ok (.isub, 1) := by decide +kernel
theorem dX9_wrong_138 : decode cX9_wrong 138 = .ok (.imul, 1) := by decide +kernel
theorem dX9_wrong_139 : decode cX9_wrong 139 = .ok (.istore 8, 2) := by decide +kernel
theorem dX9_wrong_141 : decode cX9_wrong 141 = .ok (.aload_n 0, 1) := by decide +kernel
theorem dX9_wrong_142 : decode cX9_wrong 142 = .ok (.getfield 7, 3) := by decide +kernel
theorem dX9_wrong_145 : decode cX9_wrong 145 = .ok (.bipush 96, 2) := by decide +kernel
theorem dX9_wrong_147 : decode cX9_wrong 147 = .ok (.iload 9, 2) := by decide +kernel
theorem dX9_wrong_149 : decode cX9_wrong 149 = .ok (.iadd, 1) := by decide +kernel
theorem dX9_wrong_150 : decode cX9_wrong 150 = .ok (.iload 10, 2) := by decide +kernel
theorem dX9_wrong_152 : decode cX9_wrong 152 = .ok (.ifCond .eq 16, 3) := by decide +kernel
theorem dX9_wrong_155 : decode cX9_wrong 155 = .ok (.bipush 9, 2) := by decide +kernel
theorem dX9_wrong_157 : decode cX9_wrong 157 = .ok (.aload_n 0, 1) := by decide +kernel
theorem dX9_wrong_158 : decode cX9_wrong 158 = .ok (.getfield 22, 3) := by decide +kernel
theorem dX9_wrong_161 : decode cX9_wrong 161 = .ok (.iload 9, 2) := by decide +kernel
theorem dX9_wrong_163 : decode cX9_wrong 163 = .ok (.iaload, 1) := by decide +kernel
theorem dX9_wrong_164 : decode cX9_wrong 164 = .ok (.isub, 1) := by decide +kernel
theorem dX9_wrong_165 : decode cX9_wrong 165 = .ok (.goto 10, 3) := by decide +kernel
theorem dX9_wrong_168 : decode cX9_wrong 168 = .ok (.aload_n 0, 1) := by decide +kernel
theorem dX9_wrong_169 : decode cX9_wrong 169 = .ok (.getfield 22, 3) := by decide +kernel
theorem dX9_wrong_172 : decode cX9_wrong 172 = .ok (.iload 9, 2) := by decide +kernel
theorem dX9_wrong_174 : decode cX9_wrong 174 = .ok (.iaload, 1) := by decide +kernel
theorem dX9_wrong_175 : decode cX9_wrong 175 = .ok (.iastore, 1) := by decide +kernel
theorem dX9_wrong_176 : decode cX9_wrong 176 = .ok (.iinc 9 1, 3) := by decide +kernel
theorem dX9_wrong_179 : decode cX9_wrong 179 = .ok (.goto (-80), 3) := by decide +kernel
theorem dX9_wrong_182 : decode cX9_wrong 182 = .ok (.iload 6, 2) := by decide +kernel
theorem dX9_wrong_184 : decode cX9_wrong 184 = .ok (.iload 8, 2) := by decide +kernel
theorem dX9_wrong_186 : decode cX9_wrong 186 = .ok (.iadd, 1) := by decide +kernel
theorem dX9_wrong_187 : decode cX9_wrong 187 = .ok (.istore 6, 2) := by decide +kernel
theorem dX9_wrong_189 : decode cX9_wrong 189 = .ok (.iload 5, 2) := by decide +kernel
theorem dX9_wrong_191 : decode cX9_wrong 191 = .ok (.iload 8, 2) := by decide +kernel
theorem dX9_wrong_193 : decode cX9_wrong 193 = .ok (.ifCond .le 18, 3) := by decide +kernel
theorem dX9_wrong_196 : decode cX9_wrong 196 = .ok (.aload_n 0, 1) := by decide +kernel
theorem dX9_wrong_197 : decode cX9_wrong 197 = .ok (.iconst 0, 1) := by decide +kernel
theorem dX9_wrong_198 : decode cX9_wrong 198 = .ok (.invokevirtual 116, 3) := by decide +kernel
theorem dX9_wrong_201 : decode cX9_wrong 201 = .ok (.iload 4, 2) := by decide +kernel
theorem dX9_wrong_203 : decode cX9_wrong 203 = .ok (.if_icmp .eq 8, 3) := by decide +kernel
theorem dX9_wrong_206 : decode cX9_wrong 206 = .ok (.iload 8, 2) := by decide +kernel
theorem dX9_wrong_208 : decode cX9_wrong 208 = .ok (.goto 4, 3) := by decide +kernel
theorem dX9_wrong_211 : decode cX9_wrong 211 = .ok (.iconst 0, 1) := by decide +kernel
theorem dX9_wrong_212 : decode cX9_wrong 212 = .ok (.iadd, 1) := by decide +kernel
theorem dX9_wrong_213 : decode cX9_wrong 213 = .ok (.istore 5, 2) := by decide +kernel
theorem dX9_wrong_215 : decode cX9_wrong 215 = .ok (.iinc 7 1, 3) := by decide +kernel
theorem dX9_wrong_218 : decode cX9_wrong 218 = .ok (.goto (-133), 3) := by decide +kernel
theorem dX9_wrong_221 : decode cX9_wrong 221 = .ok (.iconst 0, 1) := by decide +kernel
theorem dX9_wrong_222 : decode cX9_wrong 222 = .ok (.istore 7, 2) := by decide +kernel
theorem dX9_wrong_224 : decode cX9_wrong 224 = .ok (.iload 7, 2) := by decide +kernel
theorem dX9_wrong_226 : decode cX9_wrong 226 = .ok (.iload_n 1, 1) := by decide +kernel
theorem dX9_wrong_227 : decode cX9_wrong 227 = .ok (.if_icmp .ge 26, 3) := by decide +kernel
theorem dX9_wrong_230 : decode cX9_wrong 230 = .ok (.aload_n 0, 1) := by decide +kernel
theorem dX9_wrong_231 : decode cX9_wrong 231 = .ok (.getfield 7, 3) := by decide +kernel
theorem dX9_wrong_234 : decode cX9_wrong 234 = .ok (.bipush 96, 2) := by decide +kernel
theorem dX9_wrong_236 : decode cX9_wrong 236 = .ok (.iload 7, 2) := by decide +kernel
theorem dX9_wrong_238 : decode cX9_wrong 238 = .ok (.iadd, 1) := by decide +kernel
theorem dX9_wrong_239 : decode cX9_wrong 239 = .ok (.aload_n 0, 1) := by decide +kernel
theorem dX9_wrong_240 : decode cX9_wrong 240 = .ok (.getfield 22, 3) := by decide +kernel
theorem dX9_wrong_243 : decode cX9_wrong 243 = .ok (.iload 7, 2) := by decide +kernel
theorem dX9_wrong_245 : decode cX9_wrong 245 = .ok (.iaload, 1) := by decide +kernel
theorem dX9_wrong_246 : decode cX9_wrong 246 = .ok (.iastore, 1) := by decide +kernel
theorem dX9_wrong_247 : decode cX9_wrong 247 = .ok (.iinc 7 1, 3) := by decide +kernel
theorem dX9_wrong_250 : decode cX9_wrong 250 = .ok (.goto (-26), 3) := by decide +kernel
theorem dX9_wrong_253 : decode cX9_wrong 253 = .ok (.iload 5, 2) := by decide +kernel
theorem dX9_wrong_255 : decode cX9_wrong 255 = .ok (.istore 7, 2) := by decide +kernel
theorem dX9_wrong_257 : decode cX9_wrong 257 = .ok (.iload 6, 2) := by decide +kernel
theorem dX9_wrong_259 : decode cX9_wrong 259 = .ok (.istore 8, 2) := by decide +kernel
theorem dX9_wrong_261 : decode cX9_wrong 261 = .ok (.iload 8, 2) := by decide +kernel
theorem dX9_wrong_263 : decode cX9_wrong 263 = .ok (.ifCond .eq 21, 3) := by decide +kernel
theorem dX9_wrong_266 : decode cX9_wrong 266 = .ok (.iload 7, 2) := by decide +kernel
theorem dX9_wrong_268 : decode cX9_wrong 268 = .ok (.iload 8, 2) := by decide +kernel
theorem dX9_wrong_270 : decode cX9_wrong 270 = .ok (.irem, 1) := by decide +kernel
theorem dX9_wrong_271 : decode cX9_wrong 271 = .ok (.istore 9, 2) := by decide +kernel
theorem dX9_wrong_273 : decode cX9_wrong 273 = .ok (.iload 8, 2) := by decide +kernel
theorem dX9_wrong_275 : decode cX9_wrong 275 = .ok (.istore 7, 2) := by decide +kernel
theorem dX9_wrong_277 : decode cX9_wrong 277 = .ok (.iload 9, 2) := by decide +kernel
theorem dX9_wrong_279 : decode cX9_wrong 279 = .ok (.istore 8, 2) := by decide +kernel
theorem dX9_wrong_281 : decode cX9_wrong 281 = .ok (.goto (-20), 3) := by decide +kernel
theorem dX9_wrong_284 : decode cX9_wrong 284 = .ok (.iload_n 3, 1) := by decide +kernel
theorem dX9_wrong_285 : decode cX9_wrong 285 = .ok (.ifCond .ne 8, 3) := by decide +kernel
theorem dX9_wrong_288 : decode cX9_wrong 288 = .ok (.iload 5, 2) := by decide +kernel
theorem dX9_wrong_290 : decode cX9_wrong 290 = .ok (.goto 5, 3) := by decide +kernel
theorem dX9_wrong_293 : decode cX9_wrong 293 = .ok (.iload 6, 2) := by decide +kernel
theorem dX9_wrong_295 : decode cX9_wrong 295 = .ok (.iload 7, 2) := by decide +kernel
theorem dX9_wrong_297 : decode cX9_wrong 297 = .ok (.idiv, 1) := by decide +kernel
theorem dX9_wrong_298 : decode cX9_wrong 298 = .ok (.ireturn, 1) := by decide +kernel
theorem dX9_image_0 : decode cX9_image 0 = .ok (.iconst 0, 1) := by decide +kernel
theorem dX9_image_1 : decode cX9_image 1 = .ok (.istore_n 1, 1) := by decide +kernel
theorem dX9_image_2 : decode cX9_image 2 = .ok (.iload_n 1, 1) := by decide +kernel
theorem dX9_image_3 : decode cX9_image 3 = .ok (.sipush 194, 3) := by decide +kernel
theorem dX9_image_6 : decode cX9_image 6 = .ok (.if_icmp .ge 21, 3) := by decide +kernel
theorem dX9_image_9 : decode cX9_image 9 = .ok (.aload_n 0, 1) := by decide +kernel
theorem dX9_image_10 : decode cX9_image 10 = .ok (.getfield 28, 3) := by decide +kernel
theorem dX9_image_13 : decode cX9_image 13 = .ok (.iload_n 1, 1) := by decide +kernel
theorem dX9_image_14 : decode cX9_image 14 = .ok (.aload_n 0, 1) := by decide +kernel
theorem dX9_image_15 : decode cX9_image 15 = .ok (.getfield 7, 3) := by decide +kernel
theorem dX9_image_18 : decode cX9_image 18 = .ok (.iload_n 1, 1) := by decide +kernel
theorem dX9_image_19 : decode cX9_image 19 = .ok (.iaload, 1) := by decide +kernel
theorem dX9_image_20 : decode cX9_image 20 = .ok (.iastore, 1) := by decide +kernel
theorem dX9_image_21 : decode cX9_image 21 = .ok (.iinc 1 1, 3) := by decide +kernel
theorem dX9_image_24 : decode cX9_image 24 = .ok (.goto (-22), 3) := by decide +kernel
theorem dX9_image_27 : decode cX9_image 27 = .ok (.iconst 0, 1) := by decide +kernel
theorem dX9_image_28 : decode cX9_image 28 = .ok (.istore_n 1, 1) := by decide +kernel
theorem dX9_image_29 : decode cX9_image 29 = .ok (.iload_n 1, 1) := by decide +kernel
theorem dX9_image_30 : decode cX9_image 30 = .ok (.sipush 1552, 3) := by decide +kernel
theorem dX9_image_33 : decode cX9_image 33 = .ok (.if_icmp .ge 21, 3) := by decide +kernel
theorem dX9_image_36 : decode cX9_image 36 = .ok (.aload_n 0, 1) := by decide +kernel
theorem dX9_image_37 : decode cX9_image 37 = .ok (.getfield 31, 3) := by decide +kernel
theorem dX9_image_40 : decode cX9_image 40 = .ok (.iload_n 1, 1) := by decide +kernel
theorem dX9_image_41 : decode cX9_image 41 = .ok (.aload_n 0, 1) := by decide +kernel
theorem dX9_image_42 : decode cX9_image 42 = .ok (.getfield 25, 3) := by decide +kernel
theorem dX9_image_45 : decode cX9_image 45 = .ok (.iload_n 1, 1) := by decide +kernel
theorem dX9_image_46 : decode cX9_image 46 = .ok (.iaload, 1) := by decide +kernel
theorem dX9_image_47 : decode cX9_image 47 = .ok (.iastore, 1) := by decide +kernel
theorem dX9_image_48 : decode cX9_image 48 = .ok (.iinc 1 1, 3) := by decide +kernel
theorem dX9_image_51 : decode cX9_image 51 = .ok (.goto (-22), 3) := by decide +kernel
theorem dX9_image_54 : decode cX9_image 54 = .ok (.aload_n 0, 1) := by decide +kernel
theorem dX9_image_55 : decode cX9_image 55 = .ok (.aload_n 0, 1) := by decide +kernel
theorem dX9_image_56 : decode cX9_image 56 = .ok (.getfield 166, 3) := by decide +kernel
theorem dX9_image_59 : decode cX9_image 59 = .ok (.putfield 34, 3) := by decide +kernel
theorem dX9_image_62 : decode cX9_image 62 = .ok (.iconst 1, 1) := by decide +kernel
theorem dX9_image_63 : decode cX9_image 63 = .ok (.ireturn, 1) := by decide +kernel
theorem dX9_restore_0 : decode cX9_restore 0 = .ok (.aload_n 0, 1) := by decide +kernel
theorem dX9_restore_1 : decode cX9_restore 1 = .ok (.getfield 34, 3) := by decide +kernel
theorem dX9_restore_4 : decode cX9_restore 4 = .ok (.ifCond .ge 6, 3) := by decide +kernel
theorem dX9_restore_7 : decode cX9_restore 7 = .ok (.ldc 108, 2) := by decide +kernel
theorem dX9_restore_9 : decode cX9_restore 9 = .ok (.ireturn, 1) := by decide +kernel
theorem dX9_restore_10 : decode cX9_restore 10 = .ok (.iconst 0, 1) := by decide +kernel
theorem dX9_restore_11 : decode cX9_restore 11 = .ok (.istore_n 1, 1) := by decide +kernel
theorem dX9_restore_12 : decode cX9_restore 12 = .ok (.iload_n 1, 1) := by decide +kernel
theorem dX9_restore_13 : decode cX9_restore 13 = .ok (.sipush 194, 3) := by decide +kernel
theorem dX9_restore_16 : decode cX9_restore 16 = .ok (.if_icmp .ge 21, 3) := by decide +kernel
theorem dX9_restore_19 : decode cX9_restore 19 = .ok (.aload_n 0, 1) := by decide +kernel
theorem dX9_restore_20 : decode cX9_restore 20 = .ok (.getfield 7, 3) := by decide +kernel
theorem dX9_restore_23 : decode cX9_restore 23 = .ok (.iload_n 1, 1) := by decide +kernel
theorem dX9_restore_24 : decode cX9_restore 24 = .ok (.aload_n 0, 1) := by decide +kernel
theorem dX9_restore_25 : decode cX9_restore 25 = .ok (.getfield 28, 3) := by decide +kernel
theorem dX9_restore_28 : decode cX9_restore 28 = .ok (.iload_n 1, 1) := by decide +kernel
theorem dX9_restore_29 : decode cX9_restore 29 = .ok (.iaload, 1) := by decide +kernel
theorem dX9_restore_30 : decode cX9_restore 30 = .ok (.iastore, 1) := by decide +kernel
theorem dX9_restore_31 : decode cX9_restore 31 = .ok (.iinc 1 1, 3) := by decide +kernel
theorem dX9_restore_34 : decode cX9_restore 34 = .ok (.goto (-22), 3) := by decide +kernel
theorem dX9_restore_37 : decode cX9_restore 37 = .ok (.iconst 0, 1) := by decide +kernel
theorem dX9_restore_38 : decode cX9_restore 38 = .ok (.istore_n 1, 1) := by decide +kernel
theorem dX9_restore_39 : decode cX9_restore 39 = .ok (.iload_n 1, 1) := by decide +kernel
theorem dX9_restore_40 : decode cX9_restore 40 = .ok (.sipush 1552, 3) := by decide +kernel
theorem dX9_restore_43 : decode cX9_restore 43 = .ok (.if_icmp .ge 21, 3) := by decide +kernel
theorem dX9_restore_46 : decode cX9_restore 46 = .ok (.aload_n 0, 1) := by decide +kernel
theorem dX9_restore_47 : decode cX9_restore 47 = .ok (.getfield 25, 3) := by decide +kernel
theorem dX9_restore_50 : decode cX9_restore 50 = .ok (.iload_n 1, 1) := by decide +kernel
theorem dX9_restore_51 : decode cX9_restore 51 = .ok (.aload_n 0, 1) := by decide +kernel
theorem dX9_restore_52 : decode cX9_restore 52 = .ok (.getfield 31, 3) := by decide +kernel
theorem dX9_restore_55 : decode cX9_restore 55 = .ok (.iload_n 1, 1) := by decide +kernel
theorem dX9_restore_56 : decode cX9_restore 56 = .ok (.iaload, 1) := by decide +kernel
theorem dX9_restore_57 : decode cX9_restore 57 = .ok (.iastore, 1) := by decide +kernel
theorem dX9_restore_58 : decode cX9_restore 58 = .ok (.iinc 1 1, 3) := by decide +kernel
theorem dX9_restore_61 : decode cX9_restore 61 = .ok (.goto (-22), 3) := by decide +kernel
theorem dX9_restore_64 : decode cX9_restore 64 = .ok (.aload_n 0, 1) := by decide +kernel
theorem dX9_restore_65 : decode cX9_restore 65 = .ok (.aload_n 0, 1) := by decide +kernel
theorem dX9_restore_66 : decode cX9_restore 66 = .ok (.getfield 34, 3) := by decide +kernel
theorem dX9_restore_69 : decode cX9_restore 69 = .ok (.putfield 166, 3) := by decide +kernel
theorem dX9_restore_72 : decode cX9_restore 72 = .ok (.iconst 1, 1) := by decide +kernel
theorem dX9_restore_73 : decode cX9_restore 73 = .ok (.ireturn, 1) := by decide +kernel
theorem dX9_isSheet_0 : decode cX9_isSheet 0 = .ok (.iload_n 0, 1) := by decide +kernel
theorem dX9_isSheet_1 : decode cX9_isSheet 1 = .ok (.i2l, 1) := by decide +kernel
theorem dX9_isSheet_2 : decode cX9_isSheet 2 = .ok (.lconst 0, 1) := by decide +kernel
theorem dX9_isSheet_3 : decode cX9_isSheet 3 = .ok (.ldc2_w 197, 3) := by decide +kernel
theorem dX9_isSheet_6 : decode cX9_isSheet 6 = .ok (.invokestatic 70, 3) := by decide +kernel
theorem dX9_isSheet_9 : decode cX9_isSheet 9 = .ok (.ireturn, 1) := by decide +kernel
theorem dX9_cut_0 : decode cX9_cut 0 = .ok (.iload_n 2, 1) := by decide +kernel
theorem dX9_cut_1 : decode cX9_cut 1 = .ok (.ifCond .ne 10, 3) := by decide +kernel
theorem dX9_cut_4 : decode cX9_cut 4 = .ok (.lload_n 0, 1) := by decide +kernel
theorem dX9_cut_5 : decode cX9_cut 5 = .ok (.l2i, 1) := by decide +kernel
theorem dX9_cut_6 : decode cX9_cut 6 = .ok (.i2b, 1) := by decide +kernel
theorem dX9_cut_7 : decode cX9_cut 7 = .ok (.i2l, 1) := by decide +kernel
theorem dX9_cut_8 : decode cX9_cut 8 = .ok (.goto 27, 3) := by decide +kernel
theorem dX9_cut_11 : decode cX9_cut 11 = .ok (.iload_n 2, 1) := by decide +kernel
theorem dX9_cut_12 : decode cX9_cut 12 = .ok (.iconst 1, 1) := by decide +kernel
theorem dX9_cut_13 : decode cX9_cut 13 = .ok (.if_icmp .ne 10, 3) := by decide +kernel
theorem dX9_cut_16 : decode cX9_cut 16 = .ok (.lload_n 0, 1) := by decide +kernel
theorem dX9_cut_17 : decode cX9_cut 17 = .ok (.l2i, 1) := by decide +kernel
theorem dX9_cut_18 : decode cX9_cut 18 = .ok (.i2s, 1) := by decide +kernel
theorem dX9_cut_19 : decode cX9_cut 19 = .ok (.i2l, 1) := by decide +kernel
theorem dX9_cut_20 : decode cX9_cut 20 = .ok (.goto 15, 3) := by decide +kernel
theorem dX9_cut_23 : decode cX9_cut 23 = .ok (.iload_n 2, 1) := by decide +kernel
theorem dX9_cut_24 : decode cX9_cut 24 = .ok (.iconst 2, 1) := by decide +kernel
theorem dX9_cut_25 : decode cX9_cut 25 = .ok (.if_icmp .ne 9, 3) := by decide +kernel
theorem dX9_cut_28 : decode cX9_cut 28 = .ok (.lload_n 0, 1) := by decide +kernel
theorem dX9_cut_29 : decode cX9_cut 29 = .ok (.l2i, 1) := by decide +kernel
theorem dX9_cut_30 : decode cX9_cut 30 = .ok (.i2l, 1) := by decide +kernel
theorem dX9_cut_31 : decode cX9_cut 31 = .ok (.goto 4, 3) := by decide +kernel
theorem dX9_cut_34 : decode cX9_cut 34 = .ok (.lload_n 0, 1) := by decide +kernel
theorem dX9_cut_35 : decode cX9_cut 35 = .ok (.lreturn, 1) := by decide +kernel
theorem dX9_sheet_0 : decode cX9_sheet 0 = .ok (.iload_n 1, 1) := by decide +kernel
theorem dX9_sheet_1 : decode cX9_sheet 1 = .ok (.invokestatic 227, 3) := by decide +kernel
theorem dX9_sheet_4 : decode cX9_sheet 4 = .ok (.ifCond .eq 21, 3) := by decide +kernel
theorem dX9_sheet_7 : decode cX9_sheet 7 = .ok (.iload_n 2, 1) := by decide +kernel
theorem dX9_sheet_8 : decode cX9_sheet 8 = .ok (.i2l, 1) := by decide +kernel
theorem dX9_sheet_9 : decode cX9_sheet 9 = .ok (.lconst 0, 1) := by decide +kernel
theorem dX9_sheet_10 : decode cX9_sheet 10 = .ok (.ldc2_w 197, 3) := by decide +kernel
theorem dX9_sheet_13 : decode cX9_sheet 13 = .ok (.invokestatic 70, 3) := by decide +kernel
theorem dX9_sheet_16 : decode cX9_sheet 16 = .ok (.ifCond .eq 9, 3) := by decide +kernel
theorem dX9_sheet_19 : decode cX9_sheet 19 = .ok (.iload_n 3, 1) := by decide +kernel
theorem dX9_sheet_20 : decode cX9_sheet 20 = .ok (.bipush 24, 2) := by decide +kernel
theorem dX9_sheet_22 : decode cX9_sheet 22 = .ok (.if_icmp .le 6, 3) := by decide +kernel
theorem dX9_sheet_25 : decode cX9_sheet 25 = .ok (.ldc 145, 2) := by decide +kernel
theorem dX9_sheet_27 : decode cX9_sheet 27 = .ok (.ireturn, 1) := by decide +kernel
theorem dX9_sheet_28 : decode cX9_sheet 28 = .ok (.iload_n 3, 1) := by decide +kernel
theorem dX9_sheet_29 : decode cX9_sheet 29 = .ok (.ifCond .ge 6, 3) := by decide +kernel
theorem dX9_sheet_32 : decode cX9_sheet 32 = .ok (.ldc 230, 2) := by decide +kernel
theorem dX9_sheet_34 : decode cX9_sheet 34 = .ok (.ireturn, 1) := by decide +kernel
theorem dX9_sheet_35 : decode cX9_sheet 35 = .ok (.aload_n 0, 1) := by decide +kernel
theorem dX9_sheet_36 : decode cX9_sheet 36 = .ok (.getfield 38, 3) := by decide +kernel
theorem dX9_sheet_39 : decode cX9_sheet 39 = .ok (.iload_n 1, 1) := by decide +kernel
theorem dX9_sheet_40 : decode cX9_sheet 40 = .ok (.iload_n 2, 1) := by decide +kernel
theorem dX9_sheet_41 : decode cX9_sheet 41 = .ok (.iastore, 1) := by decide +kernel
theorem dX9_sheet_42 : decode cX9_sheet 42 = .ok (.aload_n 0, 1) := by decide +kernel
theorem dX9_sheet_43 : decode cX9_sheet 43 = .ok (.getfield 41, 3) := by decide +kernel
theorem dX9_sheet_46 : decode cX9_sheet 46 = .ok (.iload_n 1, 1) := by decide +kernel
theorem dX9_sheet_47 : decode cX9_sheet 47 = .ok (.iload_n 3, 1) := by decide +kernel
theorem dX9_sheet_48 : decode cX9_sheet 48 = .ok (.iastore, 1) := by decide +kernel
theorem dX9_sheet_49 : decode cX9_sheet 49 = .ok (.iconst 0, 1) := by decide +kernel
theorem dX9_sheet_50 : decode cX9_sheet 50 = .ok (.istore 4, 2) := by decide +kernel
theorem dX9_sheet_52 : decode cX9_sheet 52 = .ok (.iload 4, 2) := by decide +kernel
theorem dX9_sheet_54 : decode cX9_sheet 54 = .ok (.bipush 24, 2) := by decide +kernel
theorem dX9_sheet_56 : decode cX9_sheet 56 = .ok (.if_icmp .ge 22, 3) := by decide +kernel
theorem dX9_sheet_59 : decode cX9_sheet 59 = .ok (.aload_n 0, 1) := by decide +kernel
theorem dX9_sheet_60 : decode cX9_sheet 60 = .ok (.getfield 44, 3) := by decide +kernel
theorem dX9_sheet_63 : decode cX9_sheet 63 = .ok (.bipush 24, 2) := by decide +kernel
theorem dX9_sheet_65 : decode cX9_sheet 65 = .ok (.iload_n 1, 1) := by decide +kernel
theorem dX9_sheet_66 : decode cX9_sheet 66 = .ok (.imul, 1) := by decide +kernel
theorem dX9_sheet_67 : decode cX9_sheet 67 = .ok (.iload 4, 2) := by decide +kernel
theorem dX9_sheet_69 : decode cX9_sheet 69 = .ok (.iadd, 1) := by decide +kernel
theorem dX9_sheet_70 : decode cX9_sheet 70 = .ok (.lconst 0, 1) := by decide +kernel
theorem dX9_sheet_71 : decode cX9_sheet 71 = .ok (.lastore, 1) := by decide +kernel
theorem dX9_sheet_72 : decode cX9_sheet 72 = .ok (.iinc 4 1, 3) := by decide +kernel
theorem dX9_sheet_75 : decode cX9_sheet 75 = .ok (.goto (-23), 3) := by decide +kernel
theorem dX9_sheet_78 : decode cX9_sheet 78 = .ok (.iload_n 3, 1) := by decide +kernel
theorem dX9_sheet_79 : decode cX9_sheet 79 = .ok (.ireturn, 1) := by decide +kernel
theorem dX9_drop_0 : decode cX9_drop 0 = .ok (.iload_n 1, 1) := by decide +kernel
theorem dX9_drop_1 : decode cX9_drop 1 = .ok (.invokestatic 227, 3) := by decide +kernel
theorem dX9_drop_4 : decode cX9_drop 4 = .ok (.ifCond .ne 6, 3) := by decide +kernel
theorem dX9_drop_7 : decode cX9_drop 7 = .ok (.ldc 145, 2) := by decide +kernel
theorem dX9_drop_9 : decode cX9_drop 9 = .ok (.ireturn, 1) := by decide +kernel
theorem dX9_drop_10 : decode cX9_drop 10 = .ok (.aload_n 0, 1) := by decide +kernel
theorem dX9_drop_11 : decode cX9_drop 11 = .ok (.getfield 38, 3) := by decide +kernel
theorem dX9_drop_14 : decode cX9_drop 14 = .ok (.iload_n 1, 1) := by decide +kernel
theorem dX9_drop_15 : decode cX9_drop 15 = .ok (.iaload, 1) := by decide +kernel
theorem dX9_drop_16 : decode cX9_drop 16 = .ok (.ifCond .ge 6, 3) := by decide +kernel
theorem dX9_drop_19 : decode cX9_drop 19 = .ok (.ldc 231, 2) := by decide +kernel
theorem dX9_drop_21 : decode cX9_drop 21 = .ok (.ireturn, 1) := by decide +kernel
theorem dX9_drop_22 : decode cX9_drop 22 = .ok (.aload_n 0, 1) := by decide +kernel
theorem dX9_drop_23 : decode cX9_drop 23 = .ok (.getfield 38, 3) := by decide +kernel
theorem dX9_drop_26 : decode cX9_drop 26 = .ok (.iload_n 1, 1) := by decide +kernel
theorem dX9_drop_27 : decode cX9_drop 27 = .ok (.iconst (-1), 1) := by decide +kernel
theorem dX9_drop_28 : decode cX9_drop 28 = .ok (.iastore, 1) := by decide +kernel
theorem dX9_drop_29 : decode cX9_drop 29 = .ok (.aload_n 0, 1) := by decide +kernel
theorem dX9_drop_30 : decode cX9_drop 30 = .ok (.getfield 41, 3) := by decide +kernel
theorem dX9_drop_33 : decode cX9_drop 33 = .ok (.iload_n 1, 1) := by decide +kernel
theorem dX9_drop_34 : decode cX9_drop 34 = .ok (.iaload, 1) := by decide +kernel
theorem dX9_drop_35 : decode cX9_drop 35 = .ok (.ireturn, 1) := by decide +kernel
theorem dX9_why_0 : decode cX9_why 0 = .ok (.aload_n 0, 1) := by decide +kernel
theorem dX9_why_1 : decode cX9_why 1 = .ok (.getfield 38, 3) := by decide +kernel
theorem dX9_why_4 : decode cX9_why 4 = .ok (.iload_n 1, 1) := by decide +kernel
theorem dX9_why_5 : decode cX9_why 5 = .ok (.iaload, 1) := by decide +kernel
theorem dX9_why_6 : decode cX9_why 6 = .ok (.ifCond .ge 6, 3) := by decide +kernel
theorem dX9_why_9 : decode cX9_why 9 = .ok (.ldc 231, 2) := by decide +kernel
theorem dX9_why_11 : decode cX9_why 11 = .ok (.ireturn, 1) := by decide +kernel
theorem dX9_why_12 : decode cX9_why 12 = .ok (.aload_n 0, 1) := by decide +kernel
theorem dX9_why_13 : decode cX9_why 13 = .ok (.getfield 38, 3) := by decide +kernel
theorem dX9_why_16 : decode cX9_why 16 = .ok (.iload_n 1, 1) := by decide +kernel
theorem dX9_why_17 : decode cX9_why 17 = .ok (.iaload, 1) := by decide +kernel
theorem dX9_why_18 : decode cX9_why 18 = .ok (.iload_n 2, 1) := by decide +kernel
theorem dX9_why_19 : decode cX9_why 19 = .ok (.if_icmp .eq 6, 3) := by decide +kernel
theorem dX9_why_22 : decode cX9_why 22 = .ok (.ldc 232, 2) := by decide +kernel
theorem dX9_why_24 : decode cX9_why 24 = .ok (.ireturn, 1) := by decide +kernel
theorem dX9_why_25 : decode cX9_why 25 = .ok (.iload_n 3, 1) := by decide +kernel
theorem dX9_why_26 : decode cX9_why 26 = .ok (.ifCond .lt 16, 3) := by decide +kernel
theorem dX9_why_29 : decode cX9_why 29 = .ok (.iload 4, 2) := by decide +kernel
theorem dX9_why_31 : decode cX9_why 31 = .ok (.aload_n 0, 1) := by decide +kernel
theorem dX9_why_32 : decode cX9_why 32 = .ok (.getfield 41, 3) := by decide +kernel
theorem dX9_why_35 : decode cX9_why 35 = .ok (.iload_n 1, 1) := by decide +kernel
theorem dX9_why_36 : decode cX9_why 36 = .ok (.iaload, 1) := by decide +kernel
theorem dX9_why_37 : decode cX9_why 37 = .ok (.iload_n 3, 1) := by decide +kernel
theorem dX9_why_38 : decode cX9_why 38 = .ok (.isub, 1) := by decide +kernel
theorem dX9_why_39 : decode cX9_why 39 = .ok (.if_icmp .le 8, 3) := by decide +kernel
theorem dX9_why_42 : decode cX9_why 42 = .ok (.ldc 233, 2) := by decide +kernel
theorem dX9_why_44 : decode cX9_why 44 = .ok (.goto 4, 3) := by decide +kernel
theorem dX9_why_47 : decode cX9_why 47 = .ok (.iconst 0, 1) := by decide +kernel
theorem dX9_why_48 : decode cX9_why 48 = .ok (.ireturn, 1) := by decide +kernel
theorem dX9_item_0 : decode cX9_item 0 = .ok (.iload_n 1, 1) := by decide +kernel
theorem dX9_item_1 : decode cX9_item 1 = .ok (.invokestatic 227, 3) := by decide +kernel
theorem dX9_item_4 : decode cX9_item 4 = .ok (.ifCond .eq 15, 3) := by decide +kernel
theorem dX9_item_7 : decode cX9_item 7 = .ok (.iload_n 2, 1) := by decide +kernel
theorem dX9_item_8 : decode cX9_item 8 = .ok (.i2l, 1) := by decide +kernel
theorem dX9_item_9 : decode cX9_item 9 = .ok (.lconst 0, 1) := by decide +kernel
theorem dX9_item_10 : decode cX9_item 10 = .ok (.ldc2_w 197, 3) := by decide +kernel
theorem dX9_item_13 : decode cX9_item 13 = .ok (.invokestatic 70, 3) := by decide +kernel
theorem dX9_item_16 : decode cX9_item 16 = .ok (.ifCond .ne 6, 3) := by decide +kernel
theorem dX9_item_19 : decode cX9_item 19 = .ok (.ldc 145, 2) := by decide +kernel
theorem dX9_item_21 : decode cX9_item 21 = .ok (.ireturn, 1) := by decide +kernel
theorem dX9_item_22 : decode cX9_item 22 = .ok (.aload_n 0, 1) := by decide +kernel
theorem dX9_item_23 : decode cX9_item 23 = .ok (.iload_n 1, 1) := by decide +kernel
theorem dX9_item_24 : decode cX9_item 24 = .ok (.iload_n 2, 1) := by decide +kernel
theorem dX9_item_25 : decode cX9_item 25 = .ok (.iload_n 3, 1) := by decide +kernel
theorem dX9_item_26 : decode cX9_item 26 = .ok (.iconst 1, 1) := by decide +kernel
theorem dX9_item_27 : decode cX9_item 27 = .ok (.invokevirtual 234, 3) := by decide +kernel
theorem dX9_item_30 : decode cX9_item 30 = .ok (.istore 6, 2) := by decide +kernel
theorem dX9_item_32 : decode cX9_item 32 = .ok (.iload 6, 2) := by decide +kernel
theorem dX9_item_34 : decode cX9_item 34 = .ok (.ifCond .ge 6, 3) := by decide +kernel
theorem dX9_item_37 : decode cX9_item 37 = .ok (.iload 6, 2) := by decide +kernel
theorem dX9_item_39 : decode cX9_item 39 = .ok (.ireturn, 1) := by decide +kernel
theorem dX9_item_40 : decode cX9_item 40 = .ok (.aload_n 0, 1) := by decide +kernel
theorem dX9_item_41 : decode cX9_item 41 = .ok (.getfield 44, 3) := by decide +kernel
theorem dX9_item_44 : decode cX9_item 44 = .ok (.bipush 24, 2) := by decide +kernel
theorem dX9_item_46 : decode cX9_item 46 = .ok (.iload_n 1, 1) := by decide +kernel
theorem dX9_item_47 : decode cX9_item 47 = .ok (.imul, 1) := by decide +kernel
theorem dX9_item_48 : decode cX9_item 48 = .ok (.iload_n 3, 1) := by decide +kernel
theorem dX9_item_49 : decode cX9_item 49 = .ok (.iadd, 1) := by decide +kernel
theorem dX9_item_50 : decode cX9_item 50 = .ok (.lload 4, 2) := by decide +kernel
theorem dX9_item_52 : decode cX9_item 52 = .ok (.iload_n 2, 1) := by decide +kernel
theorem dX9_item_53 : decode cX9_item 53 = .ok (.invokestatic 237, 3) := by decide +kernel
theorem dX9_item_56 : decode cX9_item 56 = .ok (.lastore, 1) := by decide +kernel
theorem dX9_item_57 : decode cX9_item 57 = .ok (.iconst 1, 1) := by decide +kernel
theorem dX9_item_58 : decode cX9_item 58 = .ok (.ireturn, 1) := by decide +kernel
theorem dX9_copy_0 : decode cX9_copy 0 = .ok (.iload_n 1, 1) := by decide +kernel
theorem dX9_copy_1 : decode cX9_copy 1 = .ok (.invokestatic 227, 3) := by decide +kernel
theorem dX9_copy_4 : decode cX9_copy 4 = .ok (.ifCond .eq 10, 3) := by decide +kernel
theorem dX9_copy_7 : decode cX9_copy 7 = .ok (.iload_n 3, 1) := by decide +kernel
theorem dX9_copy_8 : decode cX9_copy 8 = .ok (.invokestatic 227, 3) := by decide +kernel
theorem dX9_copy_11 : decode cX9_copy 11 = .ok (.ifCond .ne 6, 3) := by decide +kernel
theorem dX9_copy_14 : decode cX9_copy 14 = .ok (.ldc 145, 2) := by decide +kernel
theorem dX9_copy_16 : decode cX9_copy 16 = .ok (.ireturn, 1) := by decide +kernel
theorem dX9_copy_17 : decode cX9_copy 17 = .ok (.aload_n 0, 1) := by decide +kernel
theorem dX9_copy_18 : decode cX9_copy 18 = .ok (.getfield 38, 3) := by decide +kernel
theorem dX9_copy_21 : decode cX9_copy 21 = .ok (.iload_n 1, 1) := by decide +kernel
theorem dX9_copy_22 : decode cX9_copy 22 = .ok (.iaload, 1) := by decide +kernel
theorem dX9_copy_23 : decode cX9_copy 23 = .ok (.ifCond .lt 12, 3) := by decide +kernel
theorem dX9_copy_26 : decode cX9_copy 26 = .ok (.aload_n 0, 1) := by decide +kernel
theorem dX9_copy_27 : decode cX9_copy 27 = .ok (.getfield 38, 3) := by decide +kernel
theorem dX9_copy_30 : decode cX9_copy 30 = .ok (.iload_n 3, 1) := by decide +kernel
theorem dX9_copy_31 : decode cX9_copy 31 = .ok (.iaload, 1) := by decide +kernel
theorem dX9_copy_32 : decode cX9_copy 32 = .ok (.ifCond .ge 6, 3) := by decide +kernel
theorem dX9_copy_35 : decode cX9_copy 35 = .ok (.ldc 231, 2) := by decide +kernel
theorem dX9_copy_37 : decode cX9_copy 37 = .ok (.ireturn, 1) := by decide +kernel
theorem dX9_copy_38 : decode cX9_copy 38 = .ok (.aload_n 0, 1) := by decide +kernel
theorem dX9_copy_39 : decode cX9_copy 39 = .ok (.getfield 38, 3) := by decide +kernel
theorem dX9_copy_42 : decode cX9_copy 42 = .ok (.iload_n 1, 1) := by decide +kernel
theorem dX9_copy_43 : decode cX9_copy 43 = .ok (.iaload, 1) := by decide +kernel
theorem dX9_copy_44 : decode cX9_copy 44 = .ok (.aload_n 0, 1) := by decide +kernel
theorem dX9_copy_45 : decode cX9_copy 45 = .ok (.getfield 38, 3) := by decide +kernel
theorem dX9_copy_48 : decode cX9_copy 48 = .ok (.iload_n 3, 1) := by decide +kernel
theorem dX9_copy_49 : decode cX9_copy 49 = .ok (.iaload, 1) := by decide +kernel
theorem dX9_copy_50 : decode cX9_copy 50 = .ok (.if_icmp .eq 6, 3) := by decide +kernel
theorem dX9_copy_53 : decode cX9_copy 53 = .ok (.ldc 232, 2) := by decide +kernel
theorem dX9_copy_55 : decode cX9_copy 55 = .ok (.ireturn, 1) := by decide +kernel
theorem dX9_copy_56 : decode cX9_copy 56 = .ok (.iload 5, 2) := by decide +kernel
theorem dX9_copy_58 : decode cX9_copy 58 = .ok (.ifCond .lt 47, 3) := by decide +kernel
theorem dX9_copy_61 : decode cX9_copy 61 = .ok (.iload_n 2, 1) := by decide +kernel
theorem dX9_copy_62 : decode cX9_copy 62 = .ok (.ifCond .lt 43, 3) := by decide +kernel
theorem dX9_copy_65 : decode cX9_copy 65 = .ok (.iload 4, 2) := by decide +kernel
theorem dX9_copy_67 : decode cX9_copy 67 = .ok (.ifCond .lt 38, 3) := by decide +kernel
theorem dX9_copy_70 : decode cX9_copy 70 = .ok (.iload_n 2, 1) := by decide +kernel
theorem dX9_copy_71 : decode cX9_copy 71 = .ok (.i2l, 1) := by decide +kernel
theorem dX9_copy_72 : decode cX9_copy 72 = .ok (.iload 5, 2) := by decide +kernel
theorem dX9_copy_74 : decode cX9_copy 74 = .ok (.i2l, 1) := by decide +kernel
theorem dX9_copy_75 : decode cX9_copy 75 = .ok (.ladd, 1) := by decide +kernel
theorem dX9_copy_76 : decode cX9_copy 76 = .ok (.aload_n 0, 1) := by decide +kernel
theorem dX9_copy_77 : decode cX9_copy 77 = .ok (.getfield 41, 3) := by decide +kernel
theorem dX9_copy_80 : decode cX9_copy 80 = .ok (.iload_n 1, 1) := by decide +kernel
theorem dX9_copy_81 : decode cX9_copy 81 = .ok (.iaload, 1) := by decide +kernel
theorem dX9_copy_82 : decode cX9_copy 82 = .ok (.i2l, 1) := by decide +kernel
theorem dX9_copy_83 : decode cX9_copy 83 = .ok (.lcmp, 1) := by decide +kernel
theorem dX9_copy_84 : decode cX9_copy 84 = .ok (.ifCond .gt 21, 3) := by decide +kernel
theorem dX9_copy_87 : decode cX9_copy 87 = .ok (.iload 4, 2) := by decide +kernel
theorem dX9_copy_89 : decode cX9_copy 89 = .ok (.i2l, 1) := by decide +kernel
theorem dX9_copy_90 : decode cX9_copy 90 = .ok (.iload 5, 2) := by decide +kernel
theorem dX9_copy_92 : decode cX9_copy 92 = .ok (.i2l, 1) := by decide +kernel
theorem dX9_copy_93 : decode cX9_copy 93 = .ok (.ladd, 1) := by decide +kernel
theorem dX9_copy_94 : decode cX9_copy 94 = .ok (.aload_n 0, 1) := by decide +kernel
theorem dX9_copy_95 : decode cX9_copy 95 = .ok (.getfield 41, 3) := by decide +kernel
theorem dX9_copy_98 : decode cX9_copy 98 = .ok (.iload_n 3, 1) := by decide +kernel
theorem dX9_copy_99 : decode cX9_copy 99 = .ok (.iaload, 1) := by decide +kernel
theorem dX9_copy_100 : decode cX9_copy 100 = .ok (.i2l, 1) := by decide +kernel
theorem dX9_copy_101 : decode cX9_copy 101 = .ok (.lcmp, 1) := by decide +kernel
theorem dX9_copy_102 : decode cX9_copy 102 = .ok (.ifCond .le 6, 3) := by decide +kernel
theorem dX9_copy_105 : decode cX9_copy 105 = .ok (.ldc 233, 2) := by decide +kernel
theorem dX9_copy_107 : decode cX9_copy 107 = .ok (.ireturn, 1) := by decide +kernel
theorem dX9_copy_108 : decode cX9_copy 108 = .ok (.iconst 0, 1) := by decide +kernel
theorem dX9_copy_109 : decode cX9_copy 109 = .ok (.istore 6, 2) := by decide +kernel
theorem dX9_copy_111 : decode cX9_copy 111 = .ok (.iload 6, 2) := by decide +kernel
theorem dX9_copy_113 : decode cX9_copy 113 = .ok (.iload 5, 2) := by decide +kernel
theorem dX9_copy_115 : decode cX9_copy 115 = .ok (.if_icmp .ge 30, 3) := by decide +kernel
theorem dX9_copy_118 : decode cX9_copy 118 = .ok (.aload_n 0, 1) := by decide +kernel
theorem dX9_copy_119 : decode cX9_copy 119 = .ok (.getfield 48, 3) := by decide +kernel
theorem dX9_copy_122 : decode cX9_copy 122 = .ok (.iload 6, 2) := by decide +kernel
theorem dX9_copy_124 : decode cX9_copy 124 = .ok (.aload_n 0, 1) := by decide +kernel
theorem dX9_copy_125 : decode cX9_copy 125 = .ok (.getfield 44, 3) := by decide +kernel
theorem dX9_copy_128 : decode cX9_copy 128 = .ok (.bipush 24, 2) := by decide +kernel
theorem dX9_copy_130 : decode cX9_copy 130 = .ok (.iload_n 1, 1) := by decide +kernel
theorem dX9_copy_131 : decode cX9_copy 131 = .ok (.imul, 1) := by decide +kernel
theorem dX9_copy_132 : decode cX9_copy 132 = .ok (.iload_n 2, 1) := by decide +kernel
theorem dX9_copy_133 : decode cX9_copy 133 = .ok (.iadd, 1) := by decide +kernel
theorem dX9_copy_134 : decode cX9_copy 134 = .ok (.iload 6, 2) := by decide +kernel
theorem dX9_copy_136 : decode cX9_copy 136 = .ok (.iadd, 1) := by decide +kernel
theorem dX9_copy_137 : decode cX9_copy 137 = .ok (.laload, 1) := by decide +kernel
theorem dX9_copy_138 : decode cX9_copy 138 = .ok (.lastore, 1) := by decide +kernel
theorem dX9_copy_139 : decode cX9_copy 139 = .ok (.iinc 6 1, 3) := by decide +kernel
theorem dX9_copy_142 : decode cX9_copy 142 = .ok (.goto (-31), 3) := by decide +kernel
theorem dX9_copy_145 : decode cX9_copy 145 = .ok (.iconst 0, 1) := by decide +kernel
theorem dX9_copy_146 : decode cX9_copy 146 = .ok (.istore 6, 2) := by decide +kernel
theorem dX9_copy_148 : decode cX9_copy 148 = .ok (.iload 6, 2) := by decide +kernel
theorem dX9_copy_150 : decode cX9_copy 150 = .ok (.iload 5, 2) := by decide +kernel
theorem dX9_copy_152 : decode cX9_copy 152 = .ok (.if_icmp .ge 31, 3) := by decide +kernel
theorem dX9_copy_155 : decode cX9_copy 155 = .ok (.aload_n 0, 1) := by decide +kernel
theorem dX9_copy_156 : decode cX9_copy 156 = .ok (.getfield 44, 3) := by decide +kernel
theorem dX9_copy_159 : decode cX9_copy 159 = .ok (.bipush 24, 2) := by decide +kernel
theorem dX9_copy_161 : decode cX9_copy 161 = .ok (.iload_n 3, 1) := by decide +kernel
theorem dX9_copy_162 : decode cX9_copy 162 = .ok (.imul, 1) := by decide +kernel
theorem dX9_copy_163 : decode cX9_copy 163 = .ok (.iload 4, 2) := by decide +kernel
theorem dX9_copy_165 : decode cX9_copy 165 = .ok (.iadd, 1) := by decide +kernel
theorem dX9_copy_166 : decode cX9_copy 166 = .ok (.iload 6, 2) := by decide +kernel
theorem dX9_copy_168 : decode cX9_copy 168 = .ok (.iadd, 1) := by decide +kernel
theorem dX9_copy_169 : decode cX9_copy 169 = .ok (.aload_n 0, 1) := by decide +kernel
theorem dX9_copy_170 : decode cX9_copy 170 = .ok (.getfield 48, 3) := by decide +kernel
theorem dX9_copy_173 : decode cX9_copy 173 = .ok (.iload 6, 2) := by decide +kernel
theorem dX9_copy_175 : decode cX9_copy 175 = .ok (.laload, 1) := by decide +kernel
theorem dX9_copy_176 : decode cX9_copy 176 = .ok (.lastore, 1) := by decide +kernel
theorem dX9_copy_177 : decode cX9_copy 177 = .ok (.iinc 6 1, 3) := by decide +kernel
theorem dX9_copy_180 : decode cX9_copy 180 = .ok (.goto (-32), 3) := by decide +kernel
theorem dX9_copy_183 : decode cX9_copy 183 = .ok (.iload 5, 2) := by decide +kernel
theorem dX9_copy_185 : decode cX9_copy 185 = .ok (.ireturn, 1) := by decide +kernel
theorem dX9_found_0 : decode cX9_found 0 = .ok (.iload_n 1, 1) := by decide +kernel
theorem dX9_found_1 : decode cX9_found 1 = .ok (.invokestatic 227, 3) := by decide +kernel
theorem dX9_found_4 : decode cX9_found 4 = .ok (.ifCond .eq 28, 3) := by decide +kernel
theorem dX9_found_7 : decode cX9_found 7 = .ok (.iload_n 2, 1) := by decide +kernel
theorem dX9_found_8 : decode cX9_found 8 = .ok (.i2l, 1) := by decide +kernel
theorem dX9_found_9 : decode cX9_found 9 = .ok (.lconst 0, 1) := by decide +kernel
theorem dX9_found_10 : decode cX9_found 10 = .ok (.ldc2_w 197, 3) := by decide +kernel
theorem dX9_found_13 : decode cX9_found 13 = .ok (.invokestatic 70, 3) := by decide +kernel
theorem dX9_found_16 : decode cX9_found 16 = .ok (.ifCond .eq 16, 3) := by decide +kernel
theorem dX9_found_19 : decode cX9_found 19 = .ok (.iload 4, 2) := by decide +kernel
theorem dX9_found_21 : decode cX9_found 21 = .ok (.i2l, 1) := by decide +kernel
theorem dX9_found_22 : decode cX9_found 22 = .ok (.lconst 1, 1) := by decide +kernel
theorem dX9_found_23 : decode cX9_found 23 = .ok (.ldc2_w 225, 3) := by decide +kernel
theorem dX9_found_26 : decode cX9_found 26 = .ok (.invokestatic 70, 3) := by decide +kernel
theorem dX9_found_29 : decode cX9_found 29 = .ok (.ifCond .ne 6, 3) := by decide +kernel
theorem dX9_found_32 : decode cX9_found 32 = .ok (.ldc 145, 2) := by decide +kernel
theorem dX9_found_34 : decode cX9_found 34 = .ok (.ireturn, 1) := by decide +kernel
theorem dX9_found_35 : decode cX9_found 35 = .ok (.aload_n 0, 1) := by decide +kernel
theorem dX9_found_36 : decode cX9_found 36 = .ok (.iload_n 1, 1) := by decide +kernel
theorem dX9_found_37 : decode cX9_found 37 = .ok (.iload_n 2, 1) := by decide +kernel
theorem dX9_found_38 : decode cX9_found 38 = .ok (.iload_n 3, 1) := by decide +kernel
theorem dX9_found_39 : decode cX9_found 39 = .ok (.iload 4, 2) := by decide +kernel
theorem dX9_found_41 : decode cX9_found 41 = .ok (.invokevirtual 234, 3) := by decide +kernel
theorem dX9_found_44 : decode cX9_found 44 = .ok (.istore 5, 2) := by decide +kernel
theorem dX9_found_46 : decode cX9_found 46 = .ok (.iload 5, 2) := by decide +kernel
theorem dX9_found_48 : decode cX9_found 48 = .ok (.ifCond .ge 6, 3) := by decide +kernel
theorem dX9_found_51 : decode cX9_found 51 = .ok (.iload 5, 2) := by decide +kernel
theorem dX9_found_53 : decode cX9_found 53 = .ok (.ireturn, 1) := by decide +kernel
theorem dX9_found_54 : decode cX9_found 54 = .ok (.iconst 0, 1) := by decide +kernel
theorem dX9_found_55 : decode cX9_found 55 = .ok (.istore 6, 2) := by decide +kernel
theorem dX9_found_57 : decode cX9_found 57 = .ok (.iconst 0, 1) := by decide +kernel
theorem dX9_found_58 : decode cX9_found 58 = .ok (.istore 7, 2) := by decide +kernel
theorem dX9_found_60 : decode cX9_found 60 = .ok (.iload 7, 2) := by decide +kernel
theorem dX9_found_62 : decode cX9_found 62 = .ok (.iconst 5, 1) := by decide +kernel
theorem dX9_found_63 : decode cX9_found 63 = .ok (.if_icmp .ge 85, 3) := by decide +kernel
theorem dX9_found_66 : decode cX9_found 66 = .ok (.iconst 1, 1) := by decide +kernel
theorem dX9_found_67 : decode cX9_found 67 = .ok (.istore 8, 2) := by decide +kernel
theorem dX9_found_69 : decode cX9_found 69 = .ok (.iconst 0, 1) := by decide +kernel
theorem dX9_found_70 : decode cX9_found 70 = .ok (.istore 9, 2) := by decide +kernel
theorem dX9_found_72 : decode cX9_found 72 = .ok (.iload 9, 2) := by decide +kernel
theorem dX9_found_74 : decode cX9_found 74 = .ok (.iload 4, 2) := by decide +kernel
theorem dX9_found_76 : decode cX9_found 76 = .ok (.if_icmp .ge 48, 3) := by decide +kernel
theorem dX9_found_79 : decode cX9_found 79 = .ok (.iload 8, 2) := by decide +kernel
theorem dX9_found_81 : decode cX9_found 81 = .ok (.ifCond .eq 43, 3) := by decide +kernel
theorem dX9_found_84 : decode cX9_found 84 = .ok (.aload_n 0, 1) := by decide +kernel
theorem dX9_found_85 : decode cX9_found 85 = .ok (.iload 7, 2) := by decide +kernel
theorem dX9_found_87 : decode cX9_found 87 = .ok (.iload 9, 2) := by decide +kernel
theorem dX9_found_89 : decode cX9_found 89 = .ok (.invokevirtual 90, 3) := by decide +kernel
theorem dX9_found_92 : decode cX9_found 92 = .ok (.i2l, 1) := by decide +kernel
theorem dX9_found_93 : decode cX9_found 93 = .ok (.aload_n 0, 1) := by decide +kernel
theorem dX9_found_94 : decode cX9_found 94 = .ok (.getfield 44, 3) := by decide +kernel
theorem dX9_found_97 : decode cX9_found 97 = .ok (.bipush 24, 2) := by decide +kernel
theorem dX9_found_99 : decode cX9_found 99 = .ok (.iload_n 1, 1) := by decide +kernel
theorem dX9_found_100 : decode cX9_found 100 = .ok (.imul, 1) := by decide +kernel
theorem dX9_found_101 : decode cX9_found 101 = .ok (.iload_n 3, 1) := by decide +kernel
theorem dX9_found_102 : decode cX9_found 102 = .ok (.iadd, 1) := by decide +kernel
theorem dX9_found_103 : decode cX9_found 103 = .ok (.iload 9, 2) := by decide +kernel
theorem dX9_found_105 : decode cX9_found 105 = .ok (.iadd, 1) := by decide +kernel
theorem dX9_found_106 : decode cX9_found 106 = .ok (.laload, 1) := by decide +kernel
theorem dX9_found_107 : decode cX9_found 107 = .ok (.lcmp, 1) := by decide +kernel
theorem dX9_found_108 : decode cX9_found 108 = .ok (.ifCond .ne 7, 3) := by decide +kernel
theorem dX9_found_111 : decode cX9_found 111 = .ok (.iconst 1, 1) := by decide +kernel
theorem dX9_found_112 : decode cX9_found 112 = .ok (.goto 4, 3) := by decide +kernel
theorem dX9_found_115 : decode cX9_found 115 = .ok (.iconst 0, 1) := by decide +kernel
theorem dX9_found_116 : decode cX9_found 116 = .ok (.istore 8, 2) := by decide +kernel
theorem dX9_found_118 : decode cX9_found 118 = .ok (.iinc 9 1, 3) := by decide +kernel
theorem dX9_found_121 : decode cX9_found 121 = .ok (.goto (-49), 3) := by decide +kernel
theorem dX9_found_124 : decode cX9_found 124 = .ok (.iload 6, 2) := by decide +kernel
theorem dX9_found_126 : decode cX9_found 126 = .ok (.iload 8, 2) := by decide +kernel
theorem dX9_found_128 : decode cX9_found 128 = .ok (.ifCond .eq 10, 3) := by decide +kernel
theorem dX9_found_131 : decode cX9_found 131 = .ok (.iconst 1, 1) := by decide +kernel
theorem dX9_found_132 : decode cX9_found 132 = .ok (.iload 7, 2) := by decide +kernel
theorem dX9_found_134 : decode cX9_found 134 = .ok (.ishl, 1) := by decide +kernel
theorem dX9_found_135 : decode cX9_found 135 = .ok (.goto 4, 3) := by decide +kernel
theorem dX9_found_138 : decode cX9_found 138 = .ok (.iconst 0, 1) := by decide +kernel
theorem dX9_found_139 : decode cX9_found 139 = .ok (.ior, 1) := by decide +kernel
theorem dX9_found_140 : decode cX9_found 140 = .ok (.istore 6, 2) := by decide +kernel
theorem dX9_found_142 : decode cX9_found 142 = .ok (.iinc 7 1, 3) := by decide +kernel
theorem dX9_found_145 : decode cX9_found 145 = .ok (.goto (-85), 3) := by decide +kernel
theorem dX9_found_148 : decode cX9_found 148 = .ok (.iload 6, 2) := by decide +kernel
theorem dX9_found_150 : decode cX9_found 150 = .ok (.ireturn, 1) := by decide +kernel
theorem dX9_film_0 : decode cX9_film 0 = .ok (.iload_n 1, 1) := by decide +kernel
theorem dX9_film_1 : decode cX9_film 1 = .ok (.i2l, 1) := by decide +kernel
theorem dX9_film_2 : decode cX9_film 2 = .ok (.lconst 1, 1) := by decide +kernel
theorem dX9_film_3 : decode cX9_film 3 = .ok (.ldc2_w 225, 3) := by decide +kernel
theorem dX9_film_6 : decode cX9_film 6 = .ok (.invokestatic 70, 3) := by decide +kernel
theorem dX9_film_9 : decode cX9_film 9 = .ok (.ifCond .eq 22, 3) := by decide +kernel
theorem dX9_film_12 : decode cX9_film 12 = .ok (.iload_n 2, 1) := by decide +kernel
theorem dX9_film_13 : decode cX9_film 13 = .ok (.invokestatic 227, 3) := by decide +kernel
theorem dX9_film_16 : decode cX9_film 16 = .ok (.ifCond .eq 15, 3) := by decide +kernel
theorem dX9_film_19 : decode cX9_film 19 = .ok (.iload_n 3, 1) := by decide +kernel
theorem dX9_film_20 : decode cX9_film 20 = .ok (.i2l, 1) := by decide +kernel
theorem dX9_film_21 : decode cX9_film 21 = .ok (.lconst 0, 1) := by decide +kernel
theorem dX9_film_22 : decode cX9_film 22 = .ok (.ldc2_w 197, 3) := by decide +kernel
theorem dX9_film_25 : decode cX9_film 25 = .ok (.invokestatic 70, 3) := by decide +kernel
theorem dX9_film_28 : decode cX9_film 28 = .ok (.ifCond .ne 6, 3) := by decide +kernel
theorem dX9_film_31 : decode cX9_film 31 = .ok (.ldc 145, 2) := by decide +kernel
theorem dX9_film_33 : decode cX9_film 33 = .ok (.ireturn, 1) := by decide +kernel
theorem dX9_film_34 : decode cX9_film 34 = .ok (.aload_n 0, 1) := by decide +kernel
theorem dX9_film_35 : decode cX9_film 35 = .ok (.iload_n 2, 1) := by decide +kernel
theorem dX9_film_36 : decode cX9_film 36 = .ok (.iload_n 3, 1) := by decide +kernel
theorem dX9_film_37 : decode cX9_film 37 = .ok (.iload 4, 2) := by decide +kernel
theorem dX9_film_39 : decode cX9_film 39 = .ok (.iload_n 1, 1) := by decide +kernel
theorem dX9_film_40 : decode cX9_film 40 = .ok (.invokevirtual 234, 3) := by decide +kernel
theorem dX9_film_43 : decode cX9_film 43 = .ok (.istore 5, 2) := by decide +kernel
theorem dX9_film_45 : decode cX9_film 45 = .ok (.iload 5, 2) := by decide +kernel
theorem dX9_film_47 : decode cX9_film 47 = .ok (.ifCond .ge 6, 3) := by decide +kernel
theorem dX9_film_50 : decode cX9_film 50 = .ok (.iload 5, 2) := by decide +kernel
theorem dX9_film_52 : decode cX9_film 52 = .ok (.ireturn, 1) := by decide +kernel
theorem dX9_film_53 : decode cX9_film 53 = .ok (.iconst 0, 1) := by decide +kernel
theorem dX9_film_54 : decode cX9_film 54 = .ok (.istore 6, 2) := by decide +kernel
theorem dX9_film_56 : decode cX9_film 56 = .ok (.iload 6, 2) := by decide +kernel
theorem dX9_film_58 : decode cX9_film 58 = .ok (.iload_n 1, 1) := by decide +kernel
theorem dX9_film_59 : decode cX9_film 59 = .ok (.if_icmp .ge 31, 3) := by decide +kernel
theorem dX9_film_62 : decode cX9_film 62 = .ok (.aload_n 0, 1) := by decide +kernel
theorem dX9_film_63 : decode cX9_film 63 = .ok (.getfield 44, 3) := by decide +kernel
theorem dX9_film_66 : decode cX9_film 66 = .ok (.bipush 24, 2) := by decide +kernel
theorem dX9_film_68 : decode cX9_film 68 = .ok (.iload_n 2, 1) := by decide +kernel
theorem dX9_film_69 : decode cX9_film 69 = .ok (.imul, 1) := by decide +kernel
theorem dX9_film_70 : decode cX9_film 70 = .ok (.iload 4, 2) := by decide +kernel
theorem dX9_film_72 : decode cX9_film 72 = .ok (.iadd, 1) := by decide +kernel
theorem dX9_film_73 : decode cX9_film 73 = .ok (.iload 6, 2) := by decide +kernel
theorem dX9_film_75 : decode cX9_film 75 = .ok (.iadd, 1) := by decide +kernel
theorem dX9_film_76 : decode cX9_film 76 = .ok (.aload_n 0, 1) := by decide +kernel
theorem dX9_film_77 : decode cX9_film 77 = .ok (.iload 6, 2) := by decide +kernel
theorem dX9_film_79 : decode cX9_film 79 = .ok (.invokevirtual 116, 3) := by decide +kernel
theorem dX9_film_82 : decode cX9_film 82 = .ok (.i2l, 1) := by decide +kernel
theorem dX9_film_83 : decode cX9_film 83 = .ok (.lastore, 1) := by decide +kernel
theorem dX9_film_84 : decode cX9_film 84 = .ok (.iinc 6 1, 3) := by decide +kernel
theorem dX9_film_87 : decode cX9_film 87 = .ok (.goto (-31), 3) := by decide +kernel
theorem dX9_film_90 : decode cX9_film 90 = .ok (.iload_n 1, 1) := by decide +kernel
theorem dX9_film_91 : decode cX9_film 91 = .ok (.ireturn, 1) := by decide +kernel
end
section
theorem dL_law_0 : decode cL_law 0 = .ok (.new 7, 3) := by decide +kernel
theorem dL_law_3 : decode cL_law 3 = .ok (.dup, 1) := by decide +kernel
theorem dL_law_4 : decode cL_law 4 = .ok (.invokespecial 9, 3) := by decide +kernel
theorem dL_law_7 : decode cL_law 7 = .ok (.astore_n 1, 1) := by decide +kernel
theorem dL_law_8 : decode cL_law 8 = .ok (.new 10, 3) := by decide +kernel
theorem dL_law_11 : decode cL_law 11 = .ok (.dup, 1) := by decide +kernel
theorem dL_law_12 : decode cL_law 12 = .ok (.invokespecial 12, 3) := by decide +kernel
theorem dL_law_15 : decode cL_law 15 = .ok (.astore_n 2, 1) := by decide +kernel
theorem dL_law_16 : decode cL_law 16 = .ok (.iconst 0, 1) := by decide +kernel
theorem dL_law_17 : decode cL_law 17 = .ok (.istore_n 3, 1) := by decide +kernel
theorem dL_law_18 : decode cL_law 18 = .ok (.iload_n 3, 1) := by decide +kernel
theorem dL_law_19 : decode cL_law 19 = .ok (.aload_n 0, 1) := by decide +kernel
theorem dL_law_20 : decode cL_law 20 = .ok (.arraylength, 1) := by decide +kernel
theorem dL_law_21 : decode cL_law 21 = .ok (.bipush 6, 2) := by decide +kernel
theorem dL_law_23 : decode cL_law 23 = .ok (.isub, 1) := by decide +kernel
theorem dL_law_24 : decode cL_law 24 = .ok (.if_icmp .gt 881, 3) := by decide +kernel
theorem dL_law_27 : decode cL_law 27 = .ok (.aload_n 0, 1) := by decide +kernel
theorem dL_law_28 : decode cL_law 28 = .ok (.iload_n 3, 1) := by decide +kernel
theorem dL_law_29 : decode cL_law 29 = .ok (.iaload, 1) := by decide +kernel
theorem dL_law_30 : decode cL_law 30 = .ok (.bipush 31, 2) := by decide +kernel
theorem dL_law_32 : decode cL_law 32 = .ok (.iand, 1) := by decide +kernel
theorem dL_law_33 : decode cL_law 33 = .ok (.tableswitch 866 0 22 #[107, 130, 143, 186, 209, 252, 285, 298, 321, 344, 357, 380, 413, 446, 479, 522, 535, 548, 601, 654, 697, 720, 803], 107) := by decide +kernel
theorem dL_law_140 : decode cL_law 140 = .ok (.aload_n 1, 1) := by decide +kernel
theorem dL_law_141 : decode cL_law 141 = .ok (.aload_n 0, 1) := by decide +kernel
theorem dL_law_142 : decode cL_law 142 = .ok (.iload_n 3, 1) := by decide +kernel
theorem dL_law_143 : decode cL_law 143 = .ok (.iconst 1, 1) := by decide +kernel
theorem dL_law_144 : decode cL_law 144 = .ok (.iadd, 1) := by decide +kernel
theorem dL_law_145 : decode cL_law 145 = .ok (.iaload, 1) := by decide +kernel
theorem dL_law_146 : decode cL_law 146 = .ok (.invokevirtual 13, 3) := by decide +kernel
theorem dL_law_149 : decode cL_law 149 = .ok (.aload_n 2, 1) := by decide +kernel
theorem dL_law_150 : decode cL_law 150 = .ok (.aload_n 0, 1) := by decide +kernel
theorem dL_law_151 : decode cL_law 151 = .ok (.iload_n 3, 1) := by decide +kernel
theorem dL_law_152 : decode cL_law 152 = .ok (.iconst 1, 1) := by decide +kernel
theorem dL_law_153 : decode cL_law 153 = .ok (.iadd, 1) := by decide +kernel
theorem dL_law_154 : decode cL_law 154 = .ok (.iaload, 1) := by decide +kernel
theorem dL_law_155 : decode cL_law 155 = .ok (.invokevirtual 17, 3) := by decide +kernel
theorem dL_law_158 : decode cL_law 158 = .ok (.if_icmp .eq 741, 3) := by decide +kernel
theorem dL_law_161 : decode cL_law 161 = .ok (.iconst 0, 1) := by decide +kernel
theorem dL_law_162 : decode cL_law 162 = .ok (.ireturn, 1) := by decide +kernel
theorem dL_law_163 : decode cL_law 163 = .ok (.aload_n 1, 1) := by decide +kernel
theorem dL_law_164 : decode cL_law 164 = .ok (.invokevirtual 18, 3) := by decide +kernel
theorem dL_law_167 : decode cL_law 167 = .ok (.aload_n 2, 1) := by decide +kernel
theorem dL_law_168 : decode cL_law 168 = .ok (.invokevirtual 22, 3) := by decide +kernel
theorem dL_law_171 : decode cL_law 171 = .ok (.if_icmp .eq 728, 3) := by decide +kernel
theorem dL_law_174 : decode cL_law 174 = .ok (.iconst 0, 1) := by decide +kernel
theorem dL_law_175 : decode cL_law 175 = .ok (.ireturn, 1) := by decide +kernel
theorem dL_law_176 : decode cL_law 176 = .ok (.aload_n 1, 1) := by decide +kernel
theorem dL_law_177 : decode cL_law 177 = .ok (.aload_n 0, 1) := by decide +kernel
theorem dL_law_178 : decode cL_law 178 = .ok (.iload_n 3, 1) := by decide +kernel
theorem dL_law_179 : decode cL_law 179 = .ok (.iconst 1, 1) := by decide +kernel
theorem dL_law_180 : decode cL_law 180 = .ok (.iadd, 1) := by decide +kernel
theorem dL_law_181 : decode cL_law 181 = .ok (.iaload, 1) := by decide +kernel
theorem dL_law_182 : decode cL_law 182 = .ok (.aload_n 0, 1) := by decide +kernel
theorem dL_law_183 : decode cL_law 183 = .ok (.iload_n 3, 1) := by decide +kernel
theorem dL_law_184 : decode cL_law 184 = .ok (.iconst 2, 1) := by decide +kernel
theorem dL_law_185 : decode cL_law 185 = .ok (.iadd, 1) := by decide +kernel
theorem dL_law_186 : decode cL_law 186 = .ok (.iaload, 1) := by decide +kernel
theorem dL_law_187 : decode cL_law 187 = .ok (.aload_n 0, 1) := by decide +kernel
theorem dL_law_188 : decode cL_law 188 = .ok (.iload_n 3, 1) := by decide +kernel
theorem dL_law_189 : decode cL_law 189 = .ok (.iconst 3, 1) := by decide +kernel
theorem dL_law_190 : decode cL_law 190 = .ok (.iadd, 1) := by decide +kernel
theorem dL_law_191 : decode cL_law 191 = .ok (.iaload, 1) := by decide +kernel
theorem dL_law_192 : decode cL_law 192 = .ok (.invokevirtual 23, 3) := by decide +kernel
theorem dL_law_195 : decode cL_law 195 = .ok (.aload_n 2, 1) := by decide +kernel
theorem dL_law_196 : decode cL_law 196 = .ok (.aload_n 0, 1) := by decide +kernel
theorem dL_law_197 : decode cL_law 197 = .ok (.iload_n 3, 1) := by decide +kernel
theorem dL_law_198 : decode cL_law 198 = .ok (.iconst 1, 1) := by decide +kernel
theorem dL_law_199 : decode cL_law 199 = .ok (.iadd, 1) := by decide +kernel
theorem dL_law_200 : decode cL_law 200 = .ok (.iaload, 1) := by decide +kernel
theorem dL_law_201 : decode cL_law 201 = .ok (.aload_n 0, 1) := by decide +kernel
theorem dL_law_202 : decode cL_law 202 = .ok (.iload_n 3, 1) := by decide +kernel
theorem dL_law_203 : decode cL_law 203 = .ok (.iconst 2, 1) := by decide +kernel
theorem dL_law_204 : decode cL_law 204 = .ok (.iadd, 1) := by decide +kernel
theorem dL_law_205 : decode cL_law 205 = .ok (.iaload, 1) := by decide +kernel
theorem dL_law_206 : decode cL_law 206 = .ok (.aload_n 0, 1) := by decide +kernel
theorem dL_law_207 : decode cL_law 207 = .ok (.iload_n 3, 1) := by decide +kernel
theorem dL_law_208 : decode cL_law 208 = .ok (.iconst 3, 1) := by decide +kernel
theorem dL_law_209 : decode cL_law 209 = .ok (.iadd, 1) := by decide +kernel
theorem dL_law_210 : decode cL_law 210 = .ok (.iaload, 1) := by decide +kernel
theorem dL_law_211 : decode cL_law 211 = .ok (.invokevirtual 27, 3) := by decide +kernel
theorem dL_law_214 : decode cL_law 214 = .ok (.if_icmp .eq 685, 3) := by decide +kernel
theorem dL_law_217 : decode cL_law 217 = .ok (.iconst 0, 1) := by decide +kernel
theorem dL_law_218 : decode cL_law 218 = .ok (.ireturn, 1) := by decide +kernel
theorem dL_law_219 : decode cL_law 219 = .ok (.aload_n 1, 1) := by decide +kernel
theorem dL_law_220 : decode cL_law 220 = .ok (.aload_n 0, 1) := by decide +kernel
theorem dL_law_221 : decode cL_law 221 = .ok (.iload_n 3, 1) := by decide +kernel
theorem dL_law_222 : decode cL_law 222 = .ok (.iconst 1, 1) := by decide +kernel
theorem dL_law_223 : decode cL_law 223 = .ok (.iadd, 1) := by decide +kernel
theorem dL_law_224 : decode cL_law 224 = .ok (.iaload, 1) := by decide +kernel
theorem dL_law_225 : decode cL_law 225 = .ok (.invokevirtual 28, 3) := by decide +kernel
theorem dL_law_228 : decode cL_law 228 = .ok (.aload_n 2, 1) := by decide +kernel
theorem dL_law_229 : decode cL_law 229 = .ok (.aload_n 0, 1) := by decide +kernel
theorem dL_law_230 : decode cL_law 230 = .ok (.iload_n 3, 1) := by decide +kernel
theorem dL_law_231 : decode cL_law 231 = .ok (.iconst 1, 1) := by decide +kernel
theorem dL_law_232 : decode cL_law 232 = .ok (.iadd, 1) := by decide +kernel
theorem dL_law_233 : decode cL_law 233 = .ok (.iaload, 1) := by decide +kernel
theorem dL_law_234 : decode cL_law 234 = .ok (.invokevirtual 31, 3) := by decide +kernel
theorem dL_law_237 : decode cL_law 237 = .ok (.if_icmp .eq 662, 3) := by decide +kernel
theorem dL_law_240 : decode cL_law 240 = .ok (.iconst 0, 1) := by decide +kernel
theorem dL_law_241 : decode cL_law 241 = .ok (.ireturn, 1) := by decide +kernel
theorem dL_law_242 : decode cL_law 242 = .ok (.aload_n 1, 1) := by decide +kernel
theorem dL_law_243 : decode cL_law 243 = .ok (.aload_n 0, 1) := by decide +kernel
theorem dL_law_244 : decode cL_law 244 = .ok (.iload_n 3, 1) := by decide +kernel
theorem dL_law_245 : decode cL_law 245 = .ok (.iconst 1, 1) := by decide +kernel
theorem dL_law_246 : decode cL_law 246 = .ok (.iadd, 1) := by decide +kernel
theorem dL_law_247 : decode cL_law 247 = .ok (.iaload, 1) := by decide +kernel
theorem dL_law_248 : decode cL_law 248 = .ok (.aload_n 0, 1) := by decide +kernel
theorem dL_law_249 : decode cL_law 249 = .ok (.iload_n 3, 1) := by decide +kernel
theorem dL_law_250 : decode cL_law 250 = .ok (.iconst 2, 1) := by decide +kernel
theorem dL_law_251 : decode cL_law 251 = .ok (.iadd, 1) := by decide +kernel
theorem dL_law_252 : decode cL_law 252 = .ok (.iaload, 1) := by decide +kernel
theorem dL_law_253 : decode cL_law 253 = .ok (.aload_n 0, 1) := by decide +kernel
theorem dL_law_254 : decode cL_law 254 = .ok (.iload_n 3, 1) := by decide +kernel
theorem dL_law_255 : decode cL_law 255 = .ok (.iconst 3, 1) := by decide +kernel
theorem dL_law_256 : decode cL_law 256 = .ok (.iadd, 1) := by decide +kernel
theorem dL_law_257 : decode cL_law 257 = .ok (.iaload, 1) := by decide +kernel
theorem dL_law_258 : decode cL_law 258 = .ok (.invokevirtual 32, 3) := by decide +kernel
theorem dL_law_261 : decode cL_law 261 = .ok (.aload_n 2, 1) := by decide +kernel
theorem dL_law_262 : decode cL_law 262 = .ok (.aload_n 0, 1) := by decide +kernel
theorem dL_law_263 : decode cL_law 263 = .ok (.iload_n 3, 1) := by decide +kernel
theorem dL_law_264 : decode cL_law 264 = .ok (.iconst 1, 1) := by decide +kernel
theorem dL_law_265 : decode cL_law 265 = .ok (.iadd, 1) := by decide +kernel
theorem dL_law_266 : decode cL_law 266 = .ok (.iaload, 1) := by decide +kernel
theorem dL_law_267 : decode cL_law 267 = .ok (.aload_n 0, 1) := by decide +kernel
theorem dL_law_268 : decode cL_law 268 = .ok (.iload_n 3, 1) := by decide +kernel
theorem dL_law_269 : decode cL_law 269 = .ok (.iconst 2, 1) := by decide +kernel
theorem dL_law_270 : decode cL_law 270 = .ok (.iadd, 1) := by decide +kernel
theorem dL_law_271 : decode cL_law 271 = .ok (.iaload, 1) := by decide +kernel
theorem dL_law_272 : decode cL_law 272 = .ok (.aload_n 0, 1) := by decide +kernel
theorem dL_law_273 : decode cL_law 273 = .ok (.iload_n 3, 1) := by decide +kernel
theorem dL_law_274 : decode cL_law 274 = .ok (.iconst 3, 1) := by decide +kernel
theorem dL_law_275 : decode cL_law 275 = .ok (.iadd, 1) := by decide +kernel
theorem dL_law_276 : decode cL_law 276 = .ok (.iaload, 1) := by decide +kernel
theorem dL_law_277 : decode cL_law 277 = .ok (.invokevirtual 35, 3) := by decide +kernel
theorem dL_law_280 : decode cL_law 280 = .ok (.if_icmp .eq 619, 3) := by decide +kernel
theorem dL_law_283 : decode cL_law 283 = .ok (.iconst 0, 1) := by decide +kernel
theorem dL_law_284 : decode cL_law 284 = .ok (.ireturn, 1) := by decide +kernel
theorem dL_law_285 : decode cL_law 285 = .ok (.aload_n 1, 1) := by decide +kernel
theorem dL_law_286 : decode cL_law 286 = .ok (.aload_n 0, 1) := by decide +kernel
theorem dL_law_287 : decode cL_law 287 = .ok (.iload_n 3, 1) := by decide +kernel
theorem dL_law_288 : decode cL_law 288 = .ok (.iconst 1, 1) := by decide +kernel
theorem dL_law_289 : decode cL_law 289 = .ok (.iadd, 1) := by decide +kernel
theorem dL_law_290 : decode cL_law 290 = .ok (.iaload, 1) := by decide +kernel
theorem dL_law_291 : decode cL_law 291 = .ok (.aload_n 0, 1) := by decide +kernel
theorem dL_law_292 : decode cL_law 292 = .ok (.iload_n 3, 1) := by decide +kernel
theorem dL_law_293 : decode cL_law 293 = .ok (.iconst 2, 1) := by decide +kernel
theorem dL_law_294 : decode cL_law 294 = .ok (.iadd, 1) := by decide +kernel
theorem dL_law_295 : decode cL_law 295 = .ok (.iaload, 1) := by decide +kernel
theorem dL_law_296 : decode cL_law 296 = .ok (.invokevirtual 36, 3) := by decide +kernel
theorem dL_law_299 : decode cL_law 299 = .ok (.aload_n 2, 1) := by decide +kernel
theorem dL_law_300 : decode cL_law 300 = .ok (.aload_n 0, 1) := by decide +kernel
theorem dL_law_301 : decode cL_law 301 = .ok (.iload_n 3, 1) := by decide +kernel
theorem dL_law_302 : decode cL_law 302 = .ok (.iconst 1, 1) := by decide +kernel
theorem dL_law_303 : decode cL_law 303 = .ok (.iadd, 1) := by decide +kernel
theorem dL_law_304 : decode cL_law 304 = .ok (.iaload, 1) := by decide +kernel
theorem dL_law_305 : decode cL_law 305 = .ok (.aload_n 0, 1) := by decide +kernel
theorem dL_law_306 : decode cL_law 306 = .ok (.iload_n 3, 1) := by decide +kernel
theorem dL_law_307 : decode cL_law 307 = .ok (.iconst 2, 1) := by decide +kernel
theorem dL_law_308 : decode cL_law 308 = .ok (.iadd, 1) := by decide +kernel
theorem dL_law_309 : decode cL_law 309 = .ok (.iaload, 1) := by decide +kernel
theorem dL_law_310 : decode cL_law 310 = .ok (.invokevirtual 40, 3) := by decide +kernel
theorem dL_law_313 : decode cL_law 313 = .ok (.if_icmp .eq 586, 3) := by decide +kernel
theorem dL_law_316 : decode cL_law 316 = .ok (.iconst 0, 1) := by decide +kernel
theorem dL_law_317 : decode cL_law 317 = .ok (.ireturn, 1) := by decide +kernel
theorem dL_law_318 : decode cL_law 318 = .ok (.aload_n 1, 1) := by decide +kernel
theorem dL_law_319 : decode cL_law 319 = .ok (.invokevirtual 41, 3) := by decide +kernel
theorem dL_law_322 : decode cL_law 322 = .ok (.aload_n 2, 1) := by decide +kernel
theorem dL_law_323 : decode cL_law 323 = .ok (.invokevirtual 44, 3) := by decide +kernel
theorem dL_law_326 : decode cL_law 326 = .ok (.if_icmp .eq 573, 3) := by decide +kernel
theorem dL_law_329 : decode cL_law 329 = .ok (.iconst 0, 1) := by decide +kernel
theorem dL_law_330 : decode cL_law 330 = .ok (.ireturn, 1) := by decide +kernel
theorem dL_law_331 : decode cL_law 331 = .ok (.aload_n 1, 1) := by decide +kernel
theorem dL_law_332 : decode cL_law 332 = .ok (.aload_n 0, 1) := by decide +kernel
theorem dL_law_333 : decode cL_law 333 = .ok (.iload_n 3, 1) := by decide +kernel
theorem dL_law_334 : decode cL_law 334 = .ok (.iconst 1, 1) := by decide +kernel
theorem dL_law_335 : decode cL_law 335 = .ok (.iadd, 1) := by decide +kernel
theorem dL_law_336 : decode cL_law 336 = .ok (.iaload, 1) := by decide +kernel
theorem dL_law_337 : decode cL_law 337 = .ok (.invokevirtual 45, 3) := by decide +kernel
theorem dL_law_340 : decode cL_law 340 = .ok (.aload_n 2, 1) := by decide +kernel
theorem dL_law_341 : decode cL_law 341 = .ok (.aload_n 0, 1) := by decide +kernel
theorem dL_law_342 : decode cL_law 342 = .ok (.iload_n 3, 1) := by decide +kernel
theorem dL_law_343 : decode cL_law 343 = .ok (.iconst 1, 1) := by decide +kernel
theorem dL_law_344 : decode cL_law 344 = .ok (.iadd, 1) := by decide +kernel
theorem dL_law_345 : decode cL_law 345 = .ok (.iaload, 1) := by decide +kernel
theorem dL_law_346 : decode cL_law 346 = .ok (.invokevirtual 48, 3) := by decide +kernel
theorem dL_law_349 : decode cL_law 349 = .ok (.if_icmp .eq 550, 3) := by decide +kernel
theorem dL_law_352 : decode cL_law 352 = .ok (.iconst 0, 1) := by decide +kernel
theorem dL_law_353 : decode cL_law 353 = .ok (.ireturn, 1) := by decide +kernel
theorem dL_law_354 : decode cL_law 354 = .ok (.aload_n 1, 1) := by decide +kernel
theorem dL_law_355 : decode cL_law 355 = .ok (.aload_n 0, 1) := by decide +kernel
theorem dL_law_356 : decode cL_law 356 = .ok (.iload_n 3, 1) := by decide +kernel
theorem dL_law_357 : decode cL_law 357 = .ok (.iconst 1, 1) := by decide +kernel
theorem dL_law_358 : decode cL_law 358 = .ok (.iadd, 1) := by decide +kernel
theorem dL_law_359 : decode cL_law 359 = .ok (.iaload, 1) := by decide +kernel
theorem dL_law_360 : decode cL_law 360 = .ok (.invokevirtual 49, 3) := by decide +kernel
theorem dL_law_363 : decode cL_law 363 = .ok (.aload_n 2, 1) := by decide +kernel
theorem dL_law_364 : decode cL_law 364 = .ok (.aload_n 0, 1) := by decide +kernel
theorem dL_law_365 : decode cL_law 365 = .ok (.iload_n 3, 1) := by decide +kernel
theorem dL_law_366 : decode cL_law 366 = .ok (.iconst 1, 1) := by decide +kernel
theorem dL_law_367 : decode cL_law 367 = .ok (.iadd, 1) := by decide +kernel
theorem dL_law_368 : decode cL_law 368 = .ok (.iaload, 1) := by decide +kernel
theorem dL_law_369 : decode cL_law 369 = .ok (.invokevirtual 52, 3) := by decide +kernel
theorem dL_law_372 : decode cL_law 372 = .ok (.if_icmp .eq 527, 3) := by decide +kernel
theorem dL_law_375 : decode cL_law 375 = .ok (.iconst 0, 1) := by decide +kernel
theorem dL_law_376 : decode cL_law 376 = .ok (.ireturn, 1) := by decide +kernel
theorem dL_law_377 : decode cL_law 377 = .ok (.aload_n 1, 1) := by decide +kernel
theorem dL_law_378 : decode cL_law 378 = .ok (.invokevirtual 53, 3) := by decide +kernel
theorem dL_law_381 : decode cL_law 381 = .ok (.aload_n 2, 1) := by decide +kernel
theorem dL_law_382 : decode cL_law 382 = .ok (.invokevirtual 56, 3) := by decide +kernel
theorem dL_law_385 : decode cL_law 385 = .ok (.if_icmp .eq 514, 3) := by decide +kernel
theorem dL_law_388 : decode cL_law 388 = .ok (.iconst 0, 1) := by decide +kernel
theorem dL_law_389 : decode cL_law 389 = .ok (.ireturn, 1) := by decide +kernel
theorem dL_law_390 : decode cL_law 390 = .ok (.aload_n 1, 1) := by decide +kernel
theorem dL_law_391 : decode cL_law 391 = .ok (.aload_n 0, 1) := by decide +kernel
theorem dL_law_392 : decode cL_law 392 = .ok (.iload_n 3, 1) := by decide +kernel
theorem dL_law_393 : decode cL_law 393 = .ok (.iconst 1, 1) := by decide +kernel
theorem dL_law_394 : decode cL_law 394 = .ok (.iadd, 1) := by decide +kernel
theorem dL_law_395 : decode cL_law 395 = .ok (.iaload, 1) := by decide +kernel
theorem dL_law_396 : decode cL_law 396 = .ok (.invokevirtual 57, 3) := by decide +kernel
theorem dL_law_399 : decode cL_law 399 = .ok (.aload_n 2, 1) := by decide +kernel
theorem dL_law_400 : decode cL_law 400 = .ok (.aload_n 0, 1) := by decide +kernel
theorem dL_law_401 : decode cL_law 401 = .ok (.iload_n 3, 1) := by decide +kernel
theorem dL_law_402 : decode cL_law 402 = .ok (.iconst 1, 1) := by decide +kernel
theorem dL_law_403 : decode cL_law 403 = .ok (.iadd, 1) := by decide +kernel
theorem dL_law_404 : decode cL_law 404 = .ok (.iaload, 1) := by decide +kernel
theorem dL_law_405 : decode cL_law 405 = .ok (.invokevirtual 60, 3) := by decide +kernel
theorem dL_law_408 : decode cL_law 408 = .ok (.if_icmp .eq 491, 3) := by decide +kernel
theorem dL_law_411 : decode cL_law 411 = .ok (.iconst 0, 1) := by decide +kernel
theorem dL_law_412 : decode cL_law 412 = .ok (.ireturn, 1) := by decide +kernel
theorem dL_law_413 : decode cL_law 413 = .ok (.aload_n 1, 1) := by decide +kernel
theorem dL_law_414 : decode cL_law 414 = .ok (.aload_n 0, 1) := by decide +kernel
theorem dL_law_415 : decode cL_law 415 = .ok (.iload_n 3, 1) := by decide +kernel
theorem dL_law_416 : decode cL_law 416 = .ok (.iconst 1, 1) := by decide +kernel
theorem dL_law_417 : decode cL_law 417 = .ok (.iadd, 1) := by decide +kernel
theorem dL_law_418 : decode cL_law 418 = .ok (.iaload, 1) := by decide +kernel
theorem dL_law_419 : decode cL_law 419 = .ok (.aload_n 0, 1) := by decide +kernel
theorem dL_law_420 : decode cL_law 420 = .ok (.iload_n 3, 1) := by decide +kernel
theorem dL_law_421 : decode cL_law 421 = .ok (.iconst 2, 1) := by decide +kernel
theorem dL_law_422 : decode cL_law 422 = .ok (.iadd, 1) := by decide +kernel
theorem dL_law_423 : decode cL_law 423 = .ok (.iaload, 1) := by decide +kernel
theorem dL_law_424 : decode cL_law 424 = .ok (.invokevirtual 61, 3) := by decide +kernel
theorem dL_law_427 : decode cL_law 427 = .ok (.aload_n 2, 1) := by decide +kernel
theorem dL_law_428 : decode cL_law 428 = .ok (.aload_n 0, 1) := by decide +kernel
theorem dL_law_429 : decode cL_law 429 = .ok (.iload_n 3, 1) := by decide +kernel
theorem dL_law_430 : decode cL_law 430 = .ok (.iconst 1, 1) := by decide +kernel
theorem dL_law_431 : decode cL_law 431 = .ok (.iadd, 1) := by decide +kernel
theorem dL_law_432 : decode cL_law 432 = .ok (.iaload, 1) := by decide +kernel
theorem dL_law_433 : decode cL_law 433 = .ok (.aload_n 0, 1) := by decide +kernel
theorem dL_law_434 : decode cL_law 434 = .ok (.iload_n 3, 1) := by decide +kernel
theorem dL_law_435 : decode cL_law 435 = .ok (.iconst 2, 1) := by decide +kernel
theorem dL_law_436 : decode cL_law 436 = .ok (.iadd, 1) := by decide +kernel
theorem dL_law_437 : decode cL_law 437 = .ok (.iaload, 1) := by decide +kernel
theorem dL_law_438 : decode cL_law 438 = .ok (.invokevirtual 64, 3) := by decide +kernel
theorem dL_law_441 : decode cL_law 441 = .ok (.if_icmp .eq 458, 3) := by decide +kernel
theorem dL_law_444 : decode cL_law 444 = .ok (.iconst 0, 1) := by decide +kernel
theorem dL_law_445 : decode cL_law 445 = .ok (.ireturn, 1) := by decide +kernel
theorem dL_law_446 : decode cL_law 446 = .ok (.aload_n 1, 1) := by decide +kernel
theorem dL_law_447 : decode cL_law 447 = .ok (.aload_n 0, 1) := by decide +kernel
theorem dL_law_448 : decode cL_law 448 = .ok (.iload_n 3, 1) := by decide +kernel
theorem dL_law_449 : decode cL_law 449 = .ok (.iconst 1, 1) := by decide +kernel
theorem dL_law_450 : decode cL_law 450 = .ok (.iadd, 1) := by decide +kernel
theorem dL_law_451 : decode cL_law 451 = .ok (.iaload, 1) := by decide +kernel
theorem dL_law_452 : decode cL_law 452 = .ok (.aload_n 0, 1) := by decide +kernel
theorem dL_law_453 : decode cL_law 453 = .ok (.iload_n 3, 1) := by decide +kernel
theorem dL_law_454 : decode cL_law 454 = .ok (.iconst 2, 1) := by decide +kernel
theorem dL_law_455 : decode cL_law 455 = .ok (.iadd, 1) := by decide +kernel
theorem dL_law_456 : decode cL_law 456 = .ok (.iaload, 1) := by decide +kernel
theorem dL_law_457 : decode cL_law 457 = .ok (.invokevirtual 65, 3) := by decide +kernel
theorem dL_law_460 : decode cL_law 460 = .ok (.aload_n 2, 1) := by decide +kernel
theorem dL_law_461 : decode cL_law 461 = .ok (.aload_n 0, 1) := by decide +kernel
theorem dL_law_462 : decode cL_law 462 = .ok (.iload_n 3, 1) := by decide +kernel
theorem dL_law_463 : decode cL_law 463 = .ok (.iconst 1, 1) := by decide +kernel
theorem dL_law_464 : decode cL_law 464 = .ok (.iadd, 1) := by decide +kernel
theorem dL_law_465 : decode cL_law 465 = .ok (.iaload, 1) := by decide +kernel
theorem dL_law_466 : decode cL_law 466 = .ok (.aload_n 0, 1) := by decide +kernel
theorem dL_law_467 : decode cL_law 467 = .ok (.iload_n 3, 1) := by decide +kernel
theorem dL_law_468 : decode cL_law 468 = .ok (.iconst 2, 1) := by decide +kernel
theorem dL_law_469 : decode cL_law 469 = .ok (.iadd, 1) := by decide +kernel
theorem dL_law_470 : decode cL_law 470 = .ok (.iaload, 1) := by decide +kernel
theorem dL_law_471 : decode cL_law 471 = .ok (.invokevirtual 68, 3) := by decide +kernel
theorem dL_law_474 : decode cL_law 474 = .ok (.if_icmp .eq 425, 3) := by decide +kernel
theorem dL_law_477 : decode cL_law 477 = .ok (.iconst 0, 1) := by decide +kernel
theorem dL_law_478 : decode cL_law 478 = .ok (.ireturn, 1) := by decide +kernel
theorem dL_law_479 : decode cL_law 479 = .ok (.aload_n 1, 1) := by decide +kernel
theorem dL_law_480 : decode cL_law 480 = .ok (.aload_n 0, 1) := by decide +kernel
theorem dL_law_481 : decode cL_law 481 = .ok (.iload_n 3, 1) := by decide +kernel
theorem dL_law_482 : decode cL_law 482 = .ok (.iconst 1, 1) := by decide +kernel
theorem dL_law_483 : decode cL_law 483 = .ok (.iadd, 1) := by decide +kernel
theorem dL_law_484 : decode cL_law 484 = .ok (.iaload, 1) := by decide +kernel
theorem dL_law_485 : decode cL_law 485 = .ok (.aload_n 0, 1) := by decide +kernel
theorem dL_law_486 : decode cL_law 486 = .ok (.iload_n 3, 1) := by decide +kernel
theorem dL_law_487 : decode cL_law 487 = .ok (.iconst 2, 1) := by decide +kernel
theorem dL_law_488 : decode cL_law 488 = .ok (.iadd, 1) := by decide +kernel
theorem dL_law_489 : decode cL_law 489 = .ok (.iaload, 1) := by decide +kernel
theorem dL_law_490 : decode cL_law 490 = .ok (.invokevirtual 69, 3) := by decide +kernel
theorem dL_law_493 : decode cL_law 493 = .ok (.aload_n 2, 1) := by decide +kernel
theorem dL_law_494 : decode cL_law 494 = .ok (.aload_n 0, 1) := by decide +kernel
theorem dL_law_495 : decode cL_law 495 = .ok (.iload_n 3, 1) := by decide +kernel
theorem dL_law_496 : decode cL_law 496 = .ok (.iconst 1, 1) := by decide +kernel
theorem dL_law_497 : decode cL_law 497 = .ok (.iadd, 1) := by decide +kernel
theorem dL_law_498 : decode cL_law 498 = .ok (.iaload, 1) := by decide +kernel
theorem dL_law_499 : decode cL_law 499 = .ok (.aload_n 0, 1) := by decide +kernel
theorem dL_law_500 : decode cL_law 500 = .ok (.iload_n 3, 1) := by decide +kernel
theorem dL_law_501 : decode cL_law 501 = .ok (.iconst 2, 1) := by decide +kernel
theorem dL_law_502 : decode cL_law 502 = .ok (.iadd, 1) := by decide +kernel
theorem dL_law_503 : decode cL_law 503 = .ok (.iaload, 1) := by decide +kernel
theorem dL_law_504 : decode cL_law 504 = .ok (.invokevirtual 72, 3) := by decide +kernel
theorem dL_law_507 : decode cL_law 507 = .ok (.if_icmp .eq 392, 3) := by decide +kernel
theorem dL_law_510 : decode cL_law 510 = .ok (.iconst 0, 1) := by decide +kernel
theorem dL_law_511 : decode cL_law 511 = .ok (.ireturn, 1) := by decide +kernel
theorem dL_law_512 : decode cL_law 512 = .ok (.aload_n 1, 1) := by decide +kernel
theorem dL_law_513 : decode cL_law 513 = .ok (.aload_n 0, 1) := by decide +kernel
theorem dL_law_514 : decode cL_law 514 = .ok (.iload_n 3, 1) := by decide +kernel
theorem dL_law_515 : decode cL_law 515 = .ok (.iconst 1, 1) := by decide +kernel
theorem dL_law_516 : decode cL_law 516 = .ok (.iadd, 1) := by decide +kernel
theorem dL_law_517 : decode cL_law 517 = .ok (.iaload, 1) := by decide +kernel
theorem dL_law_518 : decode cL_law 518 = .ok (.aload_n 0, 1) := by decide +kernel
theorem dL_law_519 : decode cL_law 519 = .ok (.iload_n 3, 1) := by decide +kernel
theorem dL_law_520 : decode cL_law 520 = .ok (.iconst 2, 1) := by decide +kernel
theorem dL_law_521 : decode cL_law 521 = .ok (.iadd, 1) := by decide +kernel
theorem dL_law_522 : decode cL_law 522 = .ok (.iaload, 1) := by decide +kernel
theorem dL_law_523 : decode cL_law 523 = .ok (.aload_n 0, 1) := by decide +kernel
theorem dL_law_524 : decode cL_law 524 = .ok (.iload_n 3, 1) := by decide +kernel
theorem dL_law_525 : decode cL_law 525 = .ok (.iconst 3, 1) := by decide +kernel
theorem dL_law_526 : decode cL_law 526 = .ok (.iadd, 1) := by decide +kernel
theorem dL_law_527 : decode cL_law 527 = .ok (.iaload, 1) := by decide +kernel
theorem dL_law_528 : decode cL_law 528 = .ok (.invokevirtual 73, 3) := by decide +kernel
theorem dL_law_531 : decode cL_law 531 = .ok (.aload_n 2, 1) := by decide +kernel
theorem dL_law_532 : decode cL_law 532 = .ok (.aload_n 0, 1) := by decide +kernel
theorem dL_law_533 : decode cL_law 533 = .ok (.iload_n 3, 1) := by decide +kernel
theorem dL_law_534 : decode cL_law 534 = .ok (.iconst 1, 1) := by decide +kernel
theorem dL_law_535 : decode cL_law 535 = .ok (.iadd, 1) := by decide +kernel
theorem dL_law_536 : decode cL_law 536 = .ok (.iaload, 1) := by decide +kernel
theorem dL_law_537 : decode cL_law 537 = .ok (.aload_n 0, 1) := by decide +kernel
theorem dL_law_538 : decode cL_law 538 = .ok (.iload_n 3, 1) := by decide +kernel
theorem dL_law_539 : decode cL_law 539 = .ok (.iconst 2, 1) := by decide +kernel
theorem dL_law_540 : decode cL_law 540 = .ok (.iadd, 1) := by decide +kernel
theorem dL_law_541 : decode cL_law 541 = .ok (.iaload, 1) := by decide +kernel
theorem dL_law_542 : decode cL_law 542 = .ok (.aload_n 0, 1) := by decide +kernel
theorem dL_law_543 : decode cL_law 543 = .ok (.iload_n 3, 1) := by decide +kernel
theorem dL_law_544 : decode cL_law 544 = .ok (.iconst 3, 1) := by decide +kernel
theorem dL_law_545 : decode cL_law 545 = .ok (.iadd, 1) := by decide +kernel
theorem dL_law_546 : decode cL_law 546 = .ok (.iaload, 1) := by decide +kernel
theorem dL_law_547 : decode cL_law 547 = .ok (.invokevirtual 76, 3) := by decide +kernel
theorem dL_law_550 : decode cL_law 550 = .ok (.if_icmp .eq 349, 3) := by decide +kernel
theorem dL_law_553 : decode cL_law 553 = .ok (.iconst 0, 1) := by decide +kernel
theorem dL_law_554 : decode cL_law 554 = .ok (.ireturn, 1) := by decide +kernel
theorem dL_law_555 : decode cL_law 555 = .ok (.aload_n 1, 1) := by decide +kernel
theorem dL_law_556 : decode cL_law 556 = .ok (.invokevirtual 77, 3) := by decide +kernel
theorem dL_law_559 : decode cL_law 559 = .ok (.aload_n 2, 1) := by decide +kernel
theorem dL_law_560 : decode cL_law 560 = .ok (.invokevirtual 80, 3) := by decide +kernel
theorem dL_law_563 : decode cL_law 563 = .ok (.if_icmp .eq 336, 3) := by decide +kernel
theorem dL_law_566 : decode cL_law 566 = .ok (.iconst 0, 1) := by decide +kernel
theorem dL_law_567 : decode cL_law 567 = .ok (.ireturn, 1) := by decide +kernel
theorem dL_law_568 : decode cL_law 568 = .ok (.aload_n 1, 1) := by decide +kernel
theorem dL_law_569 : decode cL_law 569 = .ok (.invokevirtual 81, 3) := by decide +kernel
theorem dL_law_572 : decode cL_law 572 = .ok (.aload_n 2, 1) := by decide +kernel
theorem dL_law_573 : decode cL_law 573 = .ok (.invokevirtual 84, 3) := by decide +kernel
theorem dL_law_576 : decode cL_law 576 = .ok (.if_icmp .eq 323, 3) := by decide +kernel
theorem dL_law_579 : decode cL_law 579 = .ok (.iconst 0, 1) := by decide +kernel
theorem dL_law_580 : decode cL_law 580 = .ok (.ireturn, 1) := by decide +kernel
theorem dL_law_581 : decode cL_law 581 = .ok (.aload_n 1, 1) := by decide +kernel
theorem dL_law_582 : decode cL_law 582 = .ok (.aload_n 0, 1) := by decide +kernel
theorem dL_law_583 : decode cL_law 583 = .ok (.iload_n 3, 1) := by decide +kernel
theorem dL_law_584 : decode cL_law 584 = .ok (.iconst 1, 1) := by decide +kernel
theorem dL_law_585 : decode cL_law 585 = .ok (.iadd, 1) := by decide +kernel
theorem dL_law_586 : decode cL_law 586 = .ok (.iaload, 1) := by decide +kernel
theorem dL_law_587 : decode cL_law 587 = .ok (.aload_n 0, 1) := by decide +kernel
theorem dL_law_588 : decode cL_law 588 = .ok (.iload_n 3, 1) := by decide +kernel
theorem dL_law_589 : decode cL_law 589 = .ok (.iconst 2, 1) := by decide +kernel
theorem dL_law_590 : decode cL_law 590 = .ok (.iadd, 1) := by decide +kernel
theorem dL_law_591 : decode cL_law 591 = .ok (.iaload, 1) := by decide +kernel
theorem dL_law_592 : decode cL_law 592 = .ok (.aload_n 0, 1) := by decide +kernel
theorem dL_law_593 : decode cL_law 593 = .ok (.iload_n 3, 1) := by decide +kernel
theorem dL_law_594 : decode cL_law 594 = .ok (.iconst 3, 1) := by decide +kernel
theorem dL_law_595 : decode cL_law 595 = .ok (.iadd, 1) := by decide +kernel
theorem dL_law_596 : decode cL_law 596 = .ok (.iaload, 1) := by decide +kernel
theorem dL_law_597 : decode cL_law 597 = .ok (.aload_n 0, 1) := by decide +kernel
theorem dL_law_598 : decode cL_law 598 = .ok (.iload_n 3, 1) := by decide +kernel
theorem dL_law_599 : decode cL_law 599 = .ok (.iconst 4, 1) := by decide +kernel
theorem dL_law_600 : decode cL_law 600 = .ok (.iadd, 1) := by decide +kernel
theorem dL_law_601 : decode cL_law 601 = .ok (.iaload, 1) := by decide +kernel
theorem dL_law_602 : decode cL_law 602 = .ok (.invokevirtual 85, 3) := by decide +kernel
theorem dL_law_605 : decode cL_law 605 = .ok (.aload_n 2, 1) := by decide +kernel
theorem dL_law_606 : decode cL_law 606 = .ok (.aload_n 0, 1) := by decide +kernel
theorem dL_law_607 : decode cL_law 607 = .ok (.iload_n 3, 1) := by decide +kernel
theorem dL_law_608 : decode cL_law 608 = .ok (.iconst 1, 1) := by decide +kernel
theorem dL_law_609 : decode cL_law 609 = .ok (.iadd, 1) := by decide +kernel
theorem dL_law_610 : decode cL_law 610 = .ok (.iaload, 1) := by decide +kernel
theorem dL_law_611 : decode cL_law 611 = .ok (.aload_n 0, 1) := by decide +kernel
theorem dL_law_612 : decode cL_law 612 = .ok (.iload_n 3, 1) := by decide +kernel
theorem dL_law_613 : decode cL_law 613 = .ok (.iconst 2, 1) := by decide +kernel
theorem dL_law_614 : decode cL_law 614 = .ok (.iadd, 1) := by decide +kernel
theorem dL_law_615 : decode cL_law 615 = .ok (.iaload, 1) := by decide +kernel
theorem dL_law_616 : decode cL_law 616 = .ok (.aload_n 0, 1) := by decide +kernel
theorem dL_law_617 : decode cL_law 617 = .ok (.iload_n 3, 1) := by decide +kernel
theorem dL_law_618 : decode cL_law 618 = .ok (.iconst 3, 1) := by decide +kernel
theorem dL_law_619 : decode cL_law 619 = .ok (.iadd, 1) := by decide +kernel
theorem dL_law_620 : decode cL_law 620 = .ok (.iaload, 1) := by decide +kernel
theorem dL_law_621 : decode cL_law 621 = .ok (.aload_n 0, 1) := by decide +kernel
theorem dL_law_622 : decode cL_law 622 = .ok (.iload_n 3, 1) := by decide +kernel
theorem dL_law_623 : decode cL_law 623 = .ok (.iconst 4, 1) := by decide +kernel
theorem dL_law_624 : decode cL_law 624 = .ok (.iadd, 1) := by decide +kernel
theorem dL_law_625 : decode cL_law 625 = .ok (.iaload, 1) := by decide +kernel
theorem dL_law_626 : decode cL_law 626 = .ok (.invokevirtual 89, 3) := by decide +kernel
theorem dL_law_629 : decode cL_law 629 = .ok (.if_icmp .eq 270, 3) := by decide +kernel
theorem dL_law_632 : decode cL_law 632 = .ok (.iconst 0, 1) := by decide +kernel
theorem dL_law_633 : decode cL_law 633 = .ok (.ireturn, 1) := by decide +kernel
theorem dL_law_634 : decode cL_law 634 = .ok (.aload_n 1, 1) := by decide +kernel
theorem dL_law_635 : decode cL_law 635 = .ok (.aload_n 0, 1) := by decide +kernel
theorem dL_law_636 : decode cL_law 636 = .ok (.iload_n 3, 1) := by decide +kernel
theorem dL_law_637 : decode cL_law 637 = .ok (.iconst 1, 1) := by decide +kernel
theorem dL_law_638 : decode cL_law 638 = .ok (.iadd, 1) := by decide +kernel
theorem dL_law_639 : decode cL_law 639 = .ok (.iaload, 1) := by decide +kernel
theorem dL_law_640 : decode cL_law 640 = .ok (.aload_n 0, 1) := by decide +kernel
theorem dL_law_641 : decode cL_law 641 = .ok (.iload_n 3, 1) := by decide +kernel
theorem dL_law_642 : decode cL_law 642 = .ok (.iconst 2, 1) := by decide +kernel
theorem dL_law_643 : decode cL_law 643 = .ok (.iadd, 1) := by decide +kernel
theorem dL_law_644 : decode cL_law 644 = .ok (.iaload, 1) := by decide +kernel
theorem dL_law_645 : decode cL_law 645 = .ok (.aload_n 0, 1) := by decide +kernel
theorem dL_law_646 : decode cL_law 646 = .ok (.iload_n 3, 1) := by decide +kernel
theorem dL_law_647 : decode cL_law 647 = .ok (.iconst 3, 1) := by decide +kernel
theorem dL_law_648 : decode cL_law 648 = .ok (.iadd, 1) := by decide +kernel
theorem dL_law_649 : decode cL_law 649 = .ok (.iaload, 1) := by decide +kernel
theorem dL_law_650 : decode cL_law 650 = .ok (.aload_n 0, 1) := by decide +kernel
theorem dL_law_651 : decode cL_law 651 = .ok (.iload_n 3, 1) := by decide +kernel
theorem dL_law_652 : decode cL_law 652 = .ok (.iconst 4, 1) := by decide +kernel
theorem dL_law_653 : decode cL_law 653 = .ok (.iadd, 1) := by decide +kernel
theorem dL_law_654 : decode cL_law 654 = .ok (.iaload, 1) := by decide +kernel
theorem dL_law_655 : decode cL_law 655 = .ok (.invokevirtual 90, 3) := by decide +kernel
theorem dL_law_658 : decode cL_law 658 = .ok (.aload_n 2, 1) := by decide +kernel
theorem dL_law_659 : decode cL_law 659 = .ok (.aload_n 0, 1) := by decide +kernel
theorem dL_law_660 : decode cL_law 660 = .ok (.iload_n 3, 1) := by decide +kernel
theorem dL_law_661 : decode cL_law 661 = .ok (.iconst 1, 1) := by decide +kernel
theorem dL_law_662 : decode cL_law 662 = .ok (.iadd, 1) := by decide +kernel
theorem dL_law_663 : decode cL_law 663 = .ok (.iaload, 1) := by decide +kernel
theorem dL_law_664 : decode cL_law 664 = .ok (.aload_n 0, 1) := by decide +kernel
theorem dL_law_665 : decode cL_law 665 = .ok (.iload_n 3, 1) := by decide +kernel
theorem dL_law_666 : decode cL_law 666 = .ok (.iconst 2, 1) := by decide +kernel
theorem dL_law_667 : decode cL_law 667 = .ok (.iadd, 1) := by decide +kernel
theorem dL_law_668 : decode cL_law 668 = .ok (.iaload, 1) := by decide +kernel
theorem dL_law_669 : decode cL_law 669 = .ok (.aload_n 0, 1) := by decide +kernel
theorem dL_law_670 : decode cL_law 670 = .ok (.iload_n 3, 1) := by decide +kernel
theorem dL_law_671 : decode cL_law 671 = .ok (.iconst 3, 1) := by decide +kernel
theorem dL_law_672 : decode cL_law 672 = .ok (.iadd, 1) := by decide +kernel
theorem dL_law_673 : decode cL_law 673 = .ok (.iaload, 1) := by decide +kernel
theorem dL_law_674 : decode cL_law 674 = .ok (.aload_n 0, 1) := by decide +kernel
theorem dL_law_675 : decode cL_law 675 = .ok (.iload_n 3, 1) := by decide +kernel
theorem dL_law_676 : decode cL_law 676 = .ok (.iconst 4, 1) := by decide +kernel
theorem dL_law_677 : decode cL_law 677 = .ok (.iadd, 1) := by decide +kernel
theorem dL_law_678 : decode cL_law 678 = .ok (.iaload, 1) := by decide +kernel
theorem dL_law_679 : decode cL_law 679 = .ok (.invokevirtual 93, 3) := by decide +kernel
theorem dL_law_682 : decode cL_law 682 = .ok (.if_icmp .eq 217, 3) := by decide +kernel
theorem dL_law_685 : decode cL_law 685 = .ok (.iconst 0, 1) := by decide +kernel
theorem dL_law_686 : decode cL_law 686 = .ok (.ireturn, 1) := by decide +kernel
theorem dL_law_687 : decode cL_law 687 = .ok (.aload_n 1, 1) := by decide +kernel
theorem dL_law_688 : decode cL_law 688 = .ok (.aload_n 0, 1) := by decide +kernel
theorem dL_law_689 : decode cL_law 689 = .ok (.iload_n 3, 1) := by decide +kernel
theorem dL_law_690 : decode cL_law 690 = .ok (.iconst 1, 1) := by decide +kernel
theorem dL_law_691 : decode cL_law 691 = .ok (.iadd, 1) := by decide +kernel
theorem dL_law_692 : decode cL_law 692 = .ok (.iaload, 1) := by decide +kernel
theorem dL_law_693 : decode cL_law 693 = .ok (.aload_n 0, 1) := by decide +kernel
theorem dL_law_694 : decode cL_law 694 = .ok (.iload_n 3, 1) := by decide +kernel
theorem dL_law_695 : decode cL_law 695 = .ok (.iconst 2, 1) := by decide +kernel
theorem dL_law_696 : decode cL_law 696 = .ok (.iadd, 1) := by decide +kernel
theorem dL_law_697 : decode cL_law 697 = .ok (.iaload, 1) := by decide +kernel
theorem dL_law_698 : decode cL_law 698 = .ok (.aload_n 0, 1) := by decide +kernel
theorem dL_law_699 : decode cL_law 699 = .ok (.iload_n 3, 1) := by decide +kernel
theorem dL_law_700 : decode cL_law 700 = .ok (.iconst 3, 1) := by decide +kernel
theorem dL_law_701 : decode cL_law 701 = .ok (.iadd, 1) := by decide +kernel
theorem dL_law_702 : decode cL_law 702 = .ok (.iaload, 1) := by decide +kernel
theorem dL_law_703 : decode cL_law 703 = .ok (.invokevirtual 94, 3) := by decide +kernel
theorem dL_law_706 : decode cL_law 706 = .ok (.aload_n 2, 1) := by decide +kernel
theorem dL_law_707 : decode cL_law 707 = .ok (.aload_n 0, 1) := by decide +kernel
theorem dL_law_708 : decode cL_law 708 = .ok (.iload_n 3, 1) := by decide +kernel
theorem dL_law_709 : decode cL_law 709 = .ok (.iconst 1, 1) := by decide +kernel
theorem dL_law_710 : decode cL_law 710 = .ok (.iadd, 1) := by decide +kernel
theorem dL_law_711 : decode cL_law 711 = .ok (.iaload, 1) := by decide +kernel
theorem dL_law_712 : decode cL_law 712 = .ok (.aload_n 0, 1) := by decide +kernel
theorem dL_law_713 : decode cL_law 713 = .ok (.iload_n 3, 1) := by decide +kernel
theorem dL_law_714 : decode cL_law 714 = .ok (.iconst 2, 1) := by decide +kernel
theorem dL_law_715 : decode cL_law 715 = .ok (.iadd, 1) := by decide +kernel
theorem dL_law_716 : decode cL_law 716 = .ok (.iaload, 1) := by decide +kernel
theorem dL_law_717 : decode cL_law 717 = .ok (.aload_n 0, 1) := by decide +kernel
theorem dL_law_718 : decode cL_law 718 = .ok (.iload_n 3, 1) := by decide +kernel
theorem dL_law_719 : decode cL_law 719 = .ok (.iconst 3, 1) := by decide +kernel
theorem dL_law_720 : decode cL_law 720 = .ok (.iadd, 1) := by decide +kernel
theorem dL_law_721 : decode cL_law 721 = .ok (.iaload, 1) := by decide +kernel
theorem dL_law_722 : decode cL_law 722 = .ok (.invokevirtual 97, 3) := by decide +kernel
theorem dL_law_725 : decode cL_law 725 = .ok (.if_icmp .eq 174, 3) := by decide +kernel
theorem dL_law_728 : decode cL_law 728 = .ok (.iconst 0, 1) := by decide +kernel
theorem dL_law_729 : decode cL_law 729 = .ok (.ireturn, 1) := by decide +kernel
theorem dL_law_730 : decode cL_law 730 = .ok (.aload_n 1, 1) := by decide +kernel
theorem dL_law_731 : decode cL_law 731 = .ok (.aload_n 0, 1) := by decide +kernel
theorem dL_law_732 : decode cL_law 732 = .ok (.iload_n 3, 1) := by decide +kernel
theorem dL_law_733 : decode cL_law 733 = .ok (.iconst 1, 1) := by decide +kernel
theorem dL_law_734 : decode cL_law 734 = .ok (.iadd, 1) := by decide +kernel
theorem dL_law_735 : decode cL_law 735 = .ok (.iaload, 1) := by decide +kernel
theorem dL_law_736 : decode cL_law 736 = .ok (.invokevirtual 98, 3) := by decide +kernel
theorem dL_law_739 : decode cL_law 739 = .ok (.aload_n 2, 1) := by decide +kernel
theorem dL_law_740 : decode cL_law 740 = .ok (.aload_n 0, 1) := by decide +kernel
theorem dL_law_741 : decode cL_law 741 = .ok (.iload_n 3, 1) := by decide +kernel
theorem dL_law_742 : decode cL_law 742 = .ok (.iconst 1, 1) := by decide +kernel
theorem dL_law_743 : decode cL_law 743 = .ok (.iadd, 1) := by decide +kernel
theorem dL_law_744 : decode cL_law 744 = .ok (.iaload, 1) := by decide +kernel
theorem dL_law_745 : decode cL_law 745 = .ok (.invokevirtual 101, 3) := by decide +kernel
theorem dL_law_748 : decode cL_law 748 = .ok (.if_icmp .eq 151, 3) := by decide +kernel
theorem dL_law_751 : decode cL_law 751 = .ok (.iconst 0, 1) := by decide +kernel
theorem dL_law_752 : decode cL_law 752 = .ok (.ireturn, 1) := by decide +kernel
theorem dL_law_753 : decode cL_law 753 = .ok (.aload_n 1, 1) := by decide +kernel
theorem dL_law_754 : decode cL_law 754 = .ok (.aload_n 0, 1) := by decide +kernel
theorem dL_law_755 : decode cL_law 755 = .ok (.iload_n 3, 1) := by decide +kernel
theorem dL_law_756 : decode cL_law 756 = .ok (.iconst 1, 1) := by decide +kernel
theorem dL_law_757 : decode cL_law 757 = .ok (.iadd, 1) := by decide +kernel
theorem dL_law_758 : decode cL_law 758 = .ok (.iaload, 1) := by decide +kernel
theorem dL_law_759 : decode cL_law 759 = .ok (.aload_n 0, 1) := by decide +kernel
theorem dL_law_760 : decode cL_law 760 = .ok (.iload_n 3, 1) := by decide +kernel
theorem dL_law_761 : decode cL_law 761 = .ok (.iconst 2, 1) := by decide +kernel
theorem dL_law_762 : decode cL_law 762 = .ok (.iadd, 1) := by decide +kernel
theorem dL_law_763 : decode cL_law 763 = .ok (.iaload, 1) := by decide +kernel
theorem dL_law_764 : decode cL_law 764 = .ok (.aload_n 0, 1) := by decide +kernel
theorem dL_law_765 : decode cL_law 765 = .ok (.iload_n 3, 1) := by decide +kernel
theorem dL_law_766 : decode cL_law 766 = .ok (.iconst 3, 1) := by decide +kernel
theorem dL_law_767 : decode cL_law 767 = .ok (.iadd, 1) := by decide +kernel
theorem dL_law_768 : decode cL_law 768 = .ok (.iaload, 1) := by decide +kernel
theorem dL_law_769 : decode cL_law 769 = .ok (.aload_n 0, 1) := by decide +kernel
theorem dL_law_770 : decode cL_law 770 = .ok (.iload_n 3, 1) := by decide +kernel
theorem dL_law_771 : decode cL_law 771 = .ok (.iconst 4, 1) := by decide +kernel
theorem dL_law_772 : decode cL_law 772 = .ok (.iadd, 1) := by decide +kernel
theorem dL_law_773 : decode cL_law 773 = .ok (.iaload, 1) := by decide +kernel
theorem dL_law_774 : decode cL_law 774 = .ok (.i2l, 1) := by decide +kernel
theorem dL_law_775 : decode cL_law 775 = .ok (.bipush 32, 2) := by decide +kernel
theorem dL_law_777 : decode cL_law 777 = .ok (.lshl, 1) := by decide +kernel
theorem dL_law_778 : decode cL_law 778 = .ok (.aload_n 0, 1) := by decide +kernel
theorem dL_law_779 : decode cL_law 779 = .ok (.iload_n 3, 1) := by decide +kernel
theorem dL_law_780 : decode cL_law 780 = .ok (.iconst 5, 1) := by decide +kernel
theorem dL_law_781 : decode cL_law 781 = .ok (.iadd, 1) := by decide +kernel
theorem dL_law_782 : decode cL_law 782 = .ok (.iaload, 1) := by decide +kernel
theorem dL_law_783 : decode cL_law 783 = .ok (.i2l, 1) := by decide +kernel
theorem dL_law_784 : decode cL_law 784 = .ok (.ldc2_w 102, 3) := by decide +kernel
theorem dL_law_787 : decode cL_law 787 = .ok (.land, 1) := by decide +kernel
theorem dL_law_788 : decode cL_law 788 = .ok (.lor, 1) := by decide +kernel
theorem dL_law_789 : decode cL_law 789 = .ok (.invokevirtual 104, 3) := by decide +kernel
theorem dL_law_792 : decode cL_law 792 = .ok (.aload_n 2, 1) := by decide +kernel
theorem dL_law_793 : decode cL_law 793 = .ok (.aload_n 0, 1) := by decide +kernel
theorem dL_law_794 : decode cL_law 794 = .ok (.iload_n 3, 1) := by decide +kernel
theorem dL_law_795 : decode cL_law 795 = .ok (.iconst 1, 1) := by decide +kernel
theorem dL_law_796 : decode cL_law 796 = .ok (.iadd, 1) := by decide +kernel
theorem dL_law_797 : decode cL_law 797 = .ok (.iaload, 1) := by decide +kernel
theorem dL_law_798 : decode cL_law 798 = .ok (.aload_n 0, 1) := by decide +kernel
theorem dL_law_799 : decode cL_law 799 = .ok (.iload_n 3, 1) := by decide +kernel
theorem dL_law_800 : decode cL_law 800 = .ok (.iconst 2, 1) := by decide +kernel
theorem dL_law_801 : decode cL_law 801 = .ok (.iadd, 1) := by decide +kernel
theorem dL_law_802 : decode cL_law 802 = .ok (.iaload, 1) := by decide +kernel
theorem dL_law_803 : decode cL_law 803 = .ok (.aload_n 0, 1) := by decide +kernel
theorem dL_law_804 : decode cL_law 804 = .ok (.iload_n 3, 1) := by decide +kernel
theorem dL_law_805 : decode cL_law 805 = .ok (.iconst 3, 1) := by decide +kernel
theorem dL_law_806 : decode cL_law 806 = .ok (.iadd, 1) := by decide +kernel
theorem dL_law_807 : decode cL_law 807 = .ok (.iaload, 1) := by decide +kernel
theorem dL_law_808 : decode cL_law 808 = .ok (.aload_n 0, 1) := by decide +kernel
theorem dL_law_809 : decode cL_law 809 = .ok (.iload_n 3, 1) := by decide +kernel
theorem dL_law_810 : decode cL_law 810 = .ok (.iconst 4, 1) := by decide +kernel
theorem dL_law_811 : decode cL_law 811 = .ok (.iadd, 1) := by decide +kernel
theorem dL_law_812 : decode cL_law 812 = .ok (.iaload, 1) := by decide +kernel
theorem dL_law_813 : decode cL_law 813 = .ok (.i2l, 1) := by decide +kernel
theorem dL_law_814 : decode cL_law 814 = .ok (.bipush 32, 2) := by decide +kernel
theorem dL_law_816 : decode cL_law 816 = .ok (.lshl, 1) := by decide +kernel
theorem dL_law_817 : decode cL_law 817 = .ok (.aload_n 0, 1) := by decide +kernel
theorem dL_law_818 : decode cL_law 818 = .ok (.iload_n 3, 1) := by decide +kernel
theorem dL_law_819 : decode cL_law 819 = .ok (.iconst 5, 1) := by decide +kernel
theorem dL_law_820 : decode cL_law 820 = .ok (.iadd, 1) := by decide +kernel
theorem dL_law_821 : decode cL_law 821 = .ok (.iaload, 1) := by decide +kernel
theorem dL_law_822 : decode cL_law 822 = .ok (.i2l, 1) := by decide +kernel
theorem dL_law_823 : decode cL_law 823 = .ok (.ldc2_w 102, 3) := by decide +kernel
theorem dL_law_826 : decode cL_law 826 = .ok (.land, 1) := by decide +kernel
theorem dL_law_827 : decode cL_law 827 = .ok (.lor, 1) := by decide +kernel
theorem dL_law_828 : decode cL_law 828 = .ok (.invokevirtual 108, 3) := by decide +kernel
theorem dL_law_831 : decode cL_law 831 = .ok (.if_icmp .eq 68, 3) := by decide +kernel
theorem dL_law_834 : decode cL_law 834 = .ok (.iconst 0, 1) := by decide +kernel
theorem dL_law_835 : decode cL_law 835 = .ok (.ireturn, 1) := by decide +kernel
theorem dL_law_836 : decode cL_law 836 = .ok (.aload_n 1, 1) := by decide +kernel
theorem dL_law_837 : decode cL_law 837 = .ok (.aload_n 0, 1) := by decide +kernel
theorem dL_law_838 : decode cL_law 838 = .ok (.iload_n 3, 1) := by decide +kernel
theorem dL_law_839 : decode cL_law 839 = .ok (.iconst 1, 1) := by decide +kernel
theorem dL_law_840 : decode cL_law 840 = .ok (.iadd, 1) := by decide +kernel
theorem dL_law_841 : decode cL_law 841 = .ok (.iaload, 1) := by decide +kernel
theorem dL_law_842 : decode cL_law 842 = .ok (.aload_n 0, 1) := by decide +kernel
theorem dL_law_843 : decode cL_law 843 = .ok (.iload_n 3, 1) := by decide +kernel
theorem dL_law_844 : decode cL_law 844 = .ok (.iconst 2, 1) := by decide +kernel
theorem dL_law_845 : decode cL_law 845 = .ok (.iadd, 1) := by decide +kernel
theorem dL_law_846 : decode cL_law 846 = .ok (.iaload, 1) := by decide +kernel
theorem dL_law_847 : decode cL_law 847 = .ok (.aload_n 0, 1) := by decide +kernel
theorem dL_law_848 : decode cL_law 848 = .ok (.iload_n 3, 1) := by decide +kernel
theorem dL_law_849 : decode cL_law 849 = .ok (.iconst 3, 1) := by decide +kernel
theorem dL_law_850 : decode cL_law 850 = .ok (.iadd, 1) := by decide +kernel
theorem dL_law_851 : decode cL_law 851 = .ok (.iaload, 1) := by decide +kernel
theorem dL_law_852 : decode cL_law 852 = .ok (.aload_n 0, 1) := by decide +kernel
theorem dL_law_853 : decode cL_law 853 = .ok (.iload_n 3, 1) := by decide +kernel
theorem dL_law_854 : decode cL_law 854 = .ok (.iconst 4, 1) := by decide +kernel
theorem dL_law_855 : decode cL_law 855 = .ok (.iadd, 1) := by decide +kernel
theorem dL_law_856 : decode cL_law 856 = .ok (.iaload, 1) := by decide +kernel
theorem dL_law_857 : decode cL_law 857 = .ok (.aload_n 0, 1) := by decide +kernel
theorem dL_law_858 : decode cL_law 858 = .ok (.iload_n 3, 1) := by decide +kernel
theorem dL_law_859 : decode cL_law 859 = .ok (.iconst 5, 1) := by decide +kernel
theorem dL_law_860 : decode cL_law 860 = .ok (.iadd, 1) := by decide +kernel
theorem dL_law_861 : decode cL_law 861 = .ok (.iaload, 1) := by decide +kernel
theorem dL_law_862 : decode cL_law 862 = .ok (.invokevirtual 109, 3) := by decide +kernel
theorem dL_law_865 : decode cL_law 865 = .ok (.aload_n 2, 1) := by decide +kernel
theorem dL_law_866 : decode cL_law 866 = .ok (.aload_n 0, 1) := by decide +kernel
theorem dL_law_867 : decode cL_law 867 = .ok (.iload_n 3, 1) := by decide +kernel
theorem dL_law_868 : decode cL_law 868 = .ok (.iconst 1, 1) := by decide +kernel
theorem dL_law_869 : decode cL_law 869 = .ok (.iadd, 1) := by decide +kernel
theorem dL_law_870 : decode cL_law 870 = .ok (.iaload, 1) := by decide +kernel
theorem dL_law_871 : decode cL_law 871 = .ok (.aload_n 0, 1) := by decide +kernel
theorem dL_law_872 : decode cL_law 872 = .ok (.iload_n 3, 1) := by decide +kernel
theorem dL_law_873 : decode cL_law 873 = .ok (.iconst 2, 1) := by decide +kernel
theorem dL_law_874 : decode cL_law 874 = .ok (.iadd, 1) := by decide +kernel
theorem dL_law_875 : decode cL_law 875 = .ok (.iaload, 1) := by decide +kernel
theorem dL_law_876 : decode cL_law 876 = .ok (.aload_n 0, 1) := by decide +kernel
theorem dL_law_877 : decode cL_law 877 = .ok (.iload_n 3, 1) := by decide +kernel
theorem dL_law_878 : decode cL_law 878 = .ok (.iconst 3, 1) := by decide +kernel
theorem dL_law_879 : decode cL_law 879 = .ok (.iadd, 1) := by decide +kernel
theorem dL_law_880 : decode cL_law 880 = .ok (.iaload, 1) := by decide +kernel
theorem dL_law_881 : decode cL_law 881 = .ok (.aload_n 0, 1) := by decide +kernel
theorem dL_law_882 : decode cL_law 882 = .ok (.iload_n 3, 1) := by decide +kernel
theorem dL_law_883 : decode cL_law 883 = .ok (.iconst 4, 1) := by decide +kernel
theorem dL_law_884 : decode cL_law 884 = .ok (.iadd, 1) := by decide +kernel
theorem dL_law_885 : decode cL_law 885 = .ok (.iaload, 1) := by decide +kernel
theorem dL_law_886 : decode cL_law 886 = .ok (.aload_n 0, 1) := by decide +kernel
theorem dL_law_887 : decode cL_law 887 = .ok (.iload_n 3, 1) := by decide +kernel
theorem dL_law_888 : decode cL_law 888 = .ok (.iconst 5, 1) := by decide +kernel
theorem dL_law_889 : decode cL_law 889 = .ok (.iadd, 1) := by decide +kernel
theorem dL_law_890 : decode cL_law 890 = .ok (.iaload, 1) := by decide +kernel
theorem dL_law_891 : decode cL_law 891 = .ok (.invokevirtual 113, 3) := by decide +kernel
theorem dL_law_894 : decode cL_law 894 = .ok (.if_icmp .eq 5, 3) := by decide +kernel
theorem dL_law_897 : decode cL_law 897 = .ok (.iconst 0, 1) := by decide +kernel
theorem dL_law_898 : decode cL_law 898 = .ok (.ireturn, 1) := by decide +kernel
theorem dL_law_899 : decode cL_law 899 = .ok (.iinc 3 6, 3) := by decide +kernel
theorem dL_law_902 : decode cL_law 902 = .ok (.goto (-884), 3) := by decide +kernel
theorem dL_law_905 : decode cL_law 905 = .ok (.iconst 1, 1) := by decide +kernel
theorem dL_law_906 : decode cL_law 906 = .ok (.ireturn, 1) := by decide +kernel
end
section
/-! ===== the words that every method of the system may use ===== -/
def AW : List Cond := lw_tbl.filter goodWord
theorem AW_good : ∀ w ∈ AW, (w.onTables && w.keeps) = true ∨ ∃ ty, w = .arrayClass ty := fun _ h => good_of_word (List.mem_filter.mp h).2
theorem AW_in {w : Cond} (i : Nat) (h : lw_tbl[i]? = some w) (hg : goodWord w = true) : w ∈ AW := List.mem_filter.mpr ⟨List.mem_of_getElem? h, hg⟩
def mIsN : Cond → Bool
  | .fieldLinkNest .. => true
  | .methodLinkNest .. => true
  | .arrayOver (.object _) => true
  | _ => false
def NW : List Cond := lw_tbl.filter mIsN
theorem NW_in {w : Cond} (i : Nat) (h : lw_tbl[i]? = some w) (hg : mIsN w = true) : w ∈ NW := List.mem_filter.mpr ⟨List.mem_of_getElem? h, hg⟩
def mNs (U : State) : Prop := ∀ w ∈ NW, va_Nw w U
theorem mNs.warm {s U : State} (hW : s.WarmedH U.vm) (h : mNs s) : mNs U := by
  intro w hw
  have h1 := h w hw
  have h2 := (List.mem_filter.mp hw).2
  match w, h1, h2 with
  | .fieldLinkNest a i b n d h, h1, _ => exact va_Nw.warmF hW h1
  | .methodLinkNest a i x h, h1, _ => exact va_Nw.warmM hW h1
  | .arrayOver (.object C), h1, _ => exact va_AO.moved hW.alike h1
/-! ===== the pool: shape and data ===== -/
abbrev mZ : Type := List Nat × (Nat → Nat) × (Nat → Nat → Option Nat) × (Nat → Nat)
abbrev mD : Type := (Nat → Nat → Int32) × (Nat → Nat → Int32) × (Nat → Nat → Int64) × (Nat → Nat → Option Nat)
abbrev mG : Type := va_G × ClassId × ClassId × ClassId × ClassId × Nat
def gI (d : mD) (f a : Nat) : Int32 := d.1 f a
def gA (d : mD) (a : Nat) : Nat → Int32 := d.2.1 a
def gJ (d : mD) (a : Nat) : Nat → Int64 := d.2.2.1 a
def gO (d : mD) (a : Nat) : Nat → Option Nat := d.2.2.2 a
def sI (d : mD) (f a : Nat) (v : Int32) : mD := (fun g b => if g = f ∧ b = a then v else d.1 g b, d.2)
def tA (d : mD) (a : Nat) (f : Nat → Int32) : mD := (d.1, fun b => if b = a then f else d.2.1 b, d.2.2)
def tJ (d : mD) (a : Nat) (f : Nat → Int64) : mD := (d.1, d.2.1, fun b => if b = a then f else d.2.2.1 b, d.2.2.2)
def tO (d : mD) (a : Nat) (f : Nat → Option Nat) : mD := (d.1, d.2.1, d.2.2.1, fun b => if b = a then f else d.2.2.2 b)
def mK (Z : mZ) (a : Nat) : Nat := Z.2.1 a
def rf (Z : mZ) (f a : Nat) : Option Nat := Z.2.2.1 f a
def mN (Z : mZ) (a : Nat) : Nat := Z.2.2.2 a
def ob (Z : mZ) (ci a : Nat) : Prop := a ∈ Z.1 ∧ mK Z a = ci
def ar (Z : mZ) (kd a n : Nat) : Prop := a ∈ Z.1 ∧ mK Z a = kd ∧ mN Z a = n
def wE (G : mG) (Z : mZ) (d : mD) : Nat → va_E := fun a =>
  if mK Z a = 0 then .inr (0, [va_rf (rf Z 0 a), va_rf (rf Z 1 a)])
  else if mK Z a = 1 then .inr (1, [.int (gI d 32 a), .int (gI d 33 a)])
  else if mK Z a = 2 then .inr (2, [va_rf (rf Z 64 a)])
  else if mK Z a = 3 then .inr (3, [va_rf (rf Z 96 a), va_rf (rf Z 97 a), .int (gI d 98 a), .int (gI d 99 a)])
  else if mK Z a = 4 then .inr (4, [.int (gI d 128 a), .int (gI d 129 a), .int (gI d 130 a), .int (gI d 131 a)])
  else if mK Z a = 5 then .inr (5, [va_rf (rf Z 160 a), .int (gI d 161 a), .int (gI d 162 a), .int (gI d 163 a)])
  else if mK Z a = 6 then .inr (6, [va_rf (rf Z 192 a), va_rf (rf Z 193 a), .int (gI d 194 a)])
  else if mK Z a = 7 then .inr (7, [va_rf (rf Z 224 a), .int (gI d 225 a), va_rf (rf Z 226 a), .int (gI d 227 a), .int (gI d 228 a)])
  else if mK Z a = 8 then .inr (8, [va_rf (rf Z 256 a), va_rf (rf Z 257 a), .int (gI d 258 a), va_rf (rf Z 259 a), va_rf (rf Z 260 a), va_rf (rf Z 261 a), va_rf (rf Z 262 a), va_rf (rf Z 263 a), va_rf (rf Z 264 a)])
  else if mK Z a = 9 then .inr (9, [va_rf (rf Z 288 a), va_rf (rf Z 289 a), .int (gI d 290 a), .int (gI d 291 a), .int (gI d 292 a), va_rf (rf Z 293 a), va_rf (rf Z 294 a), .int (gI d 295 a), .int (gI d 296 a), va_rf (rf Z 297 a), va_rf (rf Z 298 a), .int (gI d 299 a), va_rf (rf Z 300 a), va_rf (rf Z 301 a), .int (gI d 302 a), va_rf (rf Z 303 a), va_rf (rf Z 304 a), va_rf (rf Z 305 a), va_rf (rf Z 306 a)])
  else if mK Z a = 10 then .inl (G.2.1, mN Z a, .inl (gA d a))
  else if mK Z a = 11 then .inl (G.2.2.1, mN Z a, .inr (.inl (gJ d a)))
  else if mK Z a = 12 then .inl (G.2.2.2.1, mN Z a, .inr (.inr (.inr (.inr (gO d a)))))
  else .inl (G.2.2.2.2.1, mN Z a, .inr (.inr (.inr (.inr (gO d a)))))
abbrev mP (G : mG) (Z : mZ) (d : mD) : va_W := va_pl Z.1 (wE G Z d)
abbrev mT (G : mG) : List (ClassId × FieldType) := [(G.2.1, .int), (G.2.2.1, .long), (G.2.2.2.1, .object "MovedBlocks$Scene"), (G.2.2.2.2.1, .object "MovedBlocks$Sheet")]
/-- the order of moves, as the class's own static holds it -/
def ordL : List Int32 := [24, 17, 23, 25, 31, 10, 16, 18, 22, 26, 30, 32, 38, 3, 9, 11, 15, 19, 21, 27, 29, 33, 37, 39, 45, 2, 4, 8, 12, 14, 20, 28, 34, 36, 40, 44, 46, 1, 5, 7, 13, 35, 41, 43, 47, 0, 6, 42, 48]
def ordF (j : Nat) : Int32 := ordL.getD j 0
def mOT (t : Nat) (A : Nat → Prop) (U : State) (H : Heap) : Prop := va_Z "MovedBlocks" "ORDER" "[I" (.ref t) A U H ∧ va_T .int t 49 (fun j => .int (ordF j)) A U H
abbrev mF : Type := Program × Env × State × MethodId × Array Value × List Frame × Method × Code × (Nat → Prop) × (State → Prop)
def mCx (G : mG) (X : mF) (own : String) (cc : ByteArray) (nL : Nat) : Prop :=
  X.1.tables.exec = Jvm.exec ∧ X.2.2.2.2.2.2.2.1.code = cc ∧ X.2.2.2.2.2.2.2.1.maxLocals = nL ∧ X.2.2.1.vm.findClass own = some X.2.2.2.1.cls ∧ (∀ w ∈ AW, w.before X.2.2.2.2.1 X.2.2.1 = true) ∧ mNs X.2.2.1 ∧ va_K G.1 vwCl (mT G) X.2.2.1 ∧ mOT G.2.2.2.2.2 X.2.2.2.2.2.2.2.2.1 X.2.2.1 X.2.2.1.heap ∧ (∀ q, X.2.2.1.heap.size ≤ q → X.2.2.2.2.2.2.2.2.1 q)
def mWd (G : mG) (X : mF) (Z : mZ) (d : mD) (H : Heap) (locs : List Loc) : Prop := va_P G.1 vwCl (mP G Z d) H ∧ va_D X.2.2.2.2.2.2.2.2.1 (mP G Z d) ∧ va_S X.2.2.2.2.2.2.2.2.1 X.2.2.1.heap H locs
def mLv (ls : Array Slot) (nL : Nat) (lv : List (Option Value)) : Prop := ls.size = nL ∧ lv_wf ls ∧ lv.length ≤ nL ∧ ∀ (k : Nat) (v : Value), lv[k]? = some (some v) → ls[k]? = some (.val v)
def mGo (l : Launch) (G : mG) (R : Room) (X : mF) (own : String) (cc : ByteArray) (nL k n : Nat) (Z : mZ) (pc : Nat) (lv : List (Option Value)) (st : List Value) (d : mD) : Prop :=
  mCx G X own cc nL → ∀ (H : Heap) (locs : List Loc) (ls : Array Slot), mWd G X Z d H locs → mLv ls nL lv → W X.1 l X.2.1 R X.2.2.1 X.2.2.2.1 X.2.2.2.2.1 X.2.2.2.2.2.1 X.2.2.2.2.2.2.1 X.2.2.2.2.2.2.2.1 H locs k n X.2.2.2.2.2.2.2.2.2 (F0 X.2.2.2.1 pc ls st)
/-! ===== locals ===== -/
def mPr : Nat → List (Option Value) → List (Nat × Value)
  | _, [] => []
  | i, none :: r => mPr (i + 1) r
  | i, some v :: r => (i, v) :: mPr (i + 1) r
theorem mPr_mem : ∀ (lv : List (Option Value)) (i j : Nat) (v : Value), (j, v) ∈ mPr i lv ↔ ∃ k, j = i + k ∧ lv[k]? = some (some v)
  | [], i, j, v => by simp [mPr]
  | none :: r, i, j, v => by
    rw [mPr, mPr_mem r (i + 1) j v]
    constructor
    · rintro ⟨k, h1, h2⟩; exact ⟨k + 1, by omega, by simpa using h2⟩
    · rintro ⟨k, h1, h2⟩
      cases k with
      | zero => simp at h2
      | succ k => exact ⟨k, by omega, by simpa using h2⟩
  | some w :: r, i, j, v => by
    rw [mPr, List.mem_cons, mPr_mem r (i + 1) j v]
    constructor
    · rintro (h | ⟨k, h1, h2⟩)
      · cases h; exact ⟨0, rfl, rfl⟩
      · exact ⟨k + 1, by omega, by simpa using h2⟩
    · rintro ⟨k, h1, h2⟩
      cases k with
      | zero => left; simp at h2; subst h2; simp [h1]
      | succ k => right; exact ⟨k, by omega, by simpa using h2⟩
theorem mLv.has {ls : Array Slot} {nL : Nat} {lv : List (Option Value)} (h : mLv ls nL lv) : lv_has ls nL (mPr 0 lv) := ⟨h.1, h.2.1, fun q hq => by
  obtain ⟨j, v⟩ := q
  obtain ⟨k, h1, h2⟩ := (mPr_mem lv 0 j v).mp hq
  have := h.2.2.2 k v h2
  simp only [Nat.zero_add] at h1
  subst h1
  exact this⟩
/-- the local ahead of place i is no long, no double -/
def mC1 (o : Option Value) : Bool := match o with
  | some (.long _) => false
  | some (.double _) => false
  | _ => true
def mPrev (lv : List (Option Value)) (i : Nat) : Bool := match i with
  | 0 => true
  | j + 1 => mC1 (lv.getD j none)
theorem mPrev_cat {lv : List (Option Value)} {i : Nat} (h : mPrev lv i = true) {j : Nat} {v : Value} (hj : j + 1 = i) (hv : lv[j]? = some (some v)) : ¬ v.category = 2 := by
  subst hj
  simp only [mPrev, List.getD_eq_getElem?_getD, hv, Option.getD_some] at h
  cases v <;> simp_all [mC1, Value.category]
theorem mLv.of {ls : Array Slot} {nL : Nat} {lv : List (Option Value)} {i : Nat} {v : Value} (hl : lv.length ≤ nL) (hp : mPrev lv i = true) (hc : v.category = 1) (h : lv_has ls nL ((i, v) :: (mPr 0 lv).filter (fun q => !(q.1 == i) && !(q.1 + 1 == i && q.2.category == 2)))) : mLv ls nL (lv.set i (some v)) := by
  refine ⟨h.1, h.2.1, by simpa using hl, fun k w hk => ?_⟩
  by_cases hki : k = i
  · subst hki
    by_cases hlt : k < lv.length
    · rw [List.getElem?_set_self hlt] at hk
      have e : v = w := Option.some.inj (Option.some.inj hk)
      exact h.2.2 (k, w) (by rw [e]; exact List.mem_cons_self)
    · rw [List.getElem?_eq_none (by simpa using Nat.not_lt.mp hlt)] at hk
      cases hk
  · rw [List.getElem?_set_ne (Ne.symm hki)] at hk
    refine h.2.2 (k, w) (List.mem_cons_of_mem _ (List.mem_filter.mpr ⟨(mPr_mem lv 0 k w).mpr ⟨k, by omega, hk⟩, ?_⟩))
    simp only [Bool.and_eq_true, Bool.not_eq_true', beq_eq_false_iff_ne, ne_eq, Bool.and_eq_false_iff]
    refine ⟨hki, ?_⟩
    by_cases hk1 : k + 1 = i
    · exact Or.inr (mPrev_cat hp hk1 hk)
    · exact Or.inl hk1
end
section
def mRem (x y : Int32) : Int32 := x - x / y * y
def mRemL (x y : Int64) : Int64 := x - x / y * y
def mAbs (x : Int32) : Int32 := if 0 ≤ x then x else 0 - x
def mMax (x y : Int32) : Int32 := if x < y then y else x
def mMin (x y : Int32) : Int32 := if y < x then y else x

section
variable {l : Launch} {G : mG} {R : Room} {X : mF} {own : String} {cc : ByteArray} {nL kc ns : Nat} {Z : mZ} {pc : Nat} {lv : List (Option Value)} {rest : List Value} {d : mD}

theorem g_iadd {x y : Int32} (hd : decode cc pc = .ok (.iadd, 1)) (kk : mGo l G R X own cc nL kc ns Z (pc + 1) lv (.int (x + y) :: rest) d) : mGo l G R X own cc nL kc ns Z pc lv (.int y :: .int x :: rest) d := fun C H locs ls hW hL => lv_iadd C.1 C.2.1 hd (kk C H locs ls hW hL)
theorem g_isub {x y : Int32} (hd : decode cc pc = .ok (.isub, 1)) (kk : mGo l G R X own cc nL kc ns Z (pc + 1) lv (.int (x - y) :: rest) d) : mGo l G R X own cc nL kc ns Z pc lv (.int y :: .int x :: rest) d := fun C H locs ls hW hL => lv_isub C.1 C.2.1 hd (kk C H locs ls hW hL)
theorem g_imul {x y : Int32} (hd : decode cc pc = .ok (.imul, 1)) (kk : mGo l G R X own cc nL kc ns Z (pc + 1) lv (.int (x * y) :: rest) d) : mGo l G R X own cc nL kc ns Z pc lv (.int y :: .int x :: rest) d := fun C H locs ls hW hL => lv_imul C.1 C.2.1 hd (kk C H locs ls hW hL)
theorem g_iand {x y : Int32} (hd : decode cc pc = .ok (.iand, 1)) (kk : mGo l G R X own cc nL kc ns Z (pc + 1) lv (.int (x &&& y) :: rest) d) : mGo l G R X own cc nL kc ns Z pc lv (.int y :: .int x :: rest) d := fun C H locs ls hW hL => lv_iand C.1 C.2.1 hd (kk C H locs ls hW hL)
theorem g_ior {x y : Int32} (hd : decode cc pc = .ok (.ior, 1)) (kk : mGo l G R X own cc nL kc ns Z (pc + 1) lv (.int (x ||| y) :: rest) d) : mGo l G R X own cc nL kc ns Z pc lv (.int y :: .int x :: rest) d := fun C H locs ls hW hL => lv_ior C.1 C.2.1 hd (kk C H locs ls hW hL)
theorem g_ixor {x y : Int32} (hd : decode cc pc = .ok (.ixor, 1)) (kk : mGo l G R X own cc nL kc ns Z (pc + 1) lv (.int (x ^^^ y) :: rest) d) : mGo l G R X own cc nL kc ns Z pc lv (.int y :: .int x :: rest) d := fun C H locs ls hW hL => lv_ixor C.1 C.2.1 hd (kk C H locs ls hW hL)
theorem g_ishl {x y : Int32} (hd : decode cc pc = .ok (.ishl, 1)) (kk : mGo l G R X own cc nL kc ns Z (pc + 1) lv (.int (x <<< (y &&& 31)) :: rest) d) : mGo l G R X own cc nL kc ns Z pc lv (.int y :: .int x :: rest) d := fun C H locs ls hW hL => lv_ishl C.1 C.2.1 hd (kk C H locs ls hW hL)
theorem g_ishr {x y : Int32} (hd : decode cc pc = .ok (.ishr, 1)) (kk : mGo l G R X own cc nL kc ns Z (pc + 1) lv (.int (x >>> (y &&& 31)) :: rest) d) : mGo l G R X own cc nL kc ns Z pc lv (.int y :: .int x :: rest) d := fun C H locs ls hW hL => lv_ishr C.1 C.2.1 hd (kk C H locs ls hW hL)
theorem g_idiv {x y : Int32} (hd : decode cc pc = .ok (.idiv, 1)) (hne : ¬ y = 0) (kk : mGo l G R X own cc nL kc ns Z (pc + 1) lv (.int (x / y) :: rest) d) : mGo l G R X own cc nL kc ns Z pc lv (.int y :: .int x :: rest) d := fun C H locs ls hW hL => lv_idiv C.1 C.2.1 hd hne (kk C H locs ls hW hL)
theorem g_irem {x y : Int32} (hd : decode cc pc = .ok (.irem, 1)) (hne : ¬ y = 0) (kk : mGo l G R X own cc nL kc ns Z (pc + 1) lv (.int (mRem x y) :: rest) d) : mGo l G R X own cc nL kc ns Z pc lv (.int y :: .int x :: rest) d := fun C H locs ls hW hL => lv_irem C.1 C.2.1 hd hne (kk C H locs ls hW hL)
theorem g_ineg {x : Int32} (hd : decode cc pc = .ok (.ineg, 1)) (kk : mGo l G R X own cc nL kc ns Z (pc + 1) lv (.int (-x) :: rest) d) : mGo l G R X own cc nL kc ns Z pc lv (.int x :: rest) d := fun C H locs ls hW hL => lv_ineg C.1 C.2.1 hd (kk C H locs ls hW hL)
theorem g_ladd {x y : Int64} (hd : decode cc pc = .ok (.ladd, 1)) (kk : mGo l G R X own cc nL kc ns Z (pc + 1) lv (.long (x + y) :: rest) d) : mGo l G R X own cc nL kc ns Z pc lv (.long y :: .long x :: rest) d := fun C H locs ls hW hL => lv_ladd C.1 C.2.1 hd (kk C H locs ls hW hL)
theorem g_lsub {x y : Int64} (hd : decode cc pc = .ok (.lsub, 1)) (kk : mGo l G R X own cc nL kc ns Z (pc + 1) lv (.long (x - y) :: rest) d) : mGo l G R X own cc nL kc ns Z pc lv (.long y :: .long x :: rest) d := fun C H locs ls hW hL => lv_lsub C.1 C.2.1 hd (kk C H locs ls hW hL)
theorem g_lmul {x y : Int64} (hd : decode cc pc = .ok (.lmul, 1)) (kk : mGo l G R X own cc nL kc ns Z (pc + 1) lv (.long (x * y) :: rest) d) : mGo l G R X own cc nL kc ns Z pc lv (.long y :: .long x :: rest) d := fun C H locs ls hW hL => lv_lmul C.1 C.2.1 hd (kk C H locs ls hW hL)
theorem g_land {x y : Int64} (hd : decode cc pc = .ok (.land, 1)) (kk : mGo l G R X own cc nL kc ns Z (pc + 1) lv (.long (x &&& y) :: rest) d) : mGo l G R X own cc nL kc ns Z pc lv (.long y :: .long x :: rest) d := fun C H locs ls hW hL => lv_land C.1 C.2.1 hd (kk C H locs ls hW hL)
theorem g_lor {x y : Int64} (hd : decode cc pc = .ok (.lor, 1)) (kk : mGo l G R X own cc nL kc ns Z (pc + 1) lv (.long (x ||| y) :: rest) d) : mGo l G R X own cc nL kc ns Z pc lv (.long y :: .long x :: rest) d := fun C H locs ls hW hL => lv_lor C.1 C.2.1 hd (kk C H locs ls hW hL)
theorem g_lrem {x y : Int64} (hd : decode cc pc = .ok (.lrem, 1)) (hne : ¬ y = 0) (kk : mGo l G R X own cc nL kc ns Z (pc + 1) lv (.long (mRemL x y) :: rest) d) : mGo l G R X own cc nL kc ns Z pc lv (.long y :: .long x :: rest) d := fun C H locs ls hW hL => lv_lrem C.1 C.2.1 hd hne (kk C H locs ls hW hL)
theorem g_lshl {x : Int64} {y : Int32} (hd : decode cc pc = .ok (.lshl, 1)) (kk : mGo l G R X own cc nL kc ns Z (pc + 1) lv (.long (x <<< (y.toInt64 &&& 63)) :: rest) d) : mGo l G R X own cc nL kc ns Z pc lv (.int y :: .long x :: rest) d := fun C H locs ls hW hL => lv_lshl C.1 C.2.1 hd rfl (kk C H locs ls hW hL)
theorem g_lcmp {x y : Int64} (hd : decode cc pc = .ok (.lcmp, 1)) (kk : mGo l G R X own cc nL kc ns Z (pc + 1) lv (.int (lg_cmp x y) :: rest) d) : mGo l G R X own cc nL kc ns Z pc lv (.long y :: .long x :: rest) d := fun C H locs ls hW hL => W.lcmp C.1 C.2.1 hd (kk C H locs ls hW hL)
theorem g_i2l {x : Int32} (hd : decode cc pc = .ok (.i2l, 1)) (kk : mGo l G R X own cc nL kc ns Z (pc + 1) lv (.long x.toInt64 :: rest) d) : mGo l G R X own cc nL kc ns Z pc lv (.int x :: rest) d := fun C H locs ls hW hL => lv_i2l C.1 C.2.1 hd rfl (kk C H locs ls hW hL)
theorem g_l2i {x : Int64} (hd : decode cc pc = .ok (.l2i, 1)) (kk : mGo l G R X own cc nL kc ns Z (pc + 1) lv (.int x.toInt32 :: rest) d) : mGo l G R X own cc nL kc ns Z pc lv (.long x :: rest) d := fun C H locs ls hW hL => lv_l2i C.1 C.2.1 hd rfl (kk C H locs ls hW hL)
theorem g_i2b {x : Int32} (hd : decode cc pc = .ok (.i2b, 1)) (kk : mGo l G R X own cc nL kc ns Z (pc + 1) lv (.int x.toInt8.toInt32 :: rest) d) : mGo l G R X own cc nL kc ns Z pc lv (.int x :: rest) d := fun C H locs ls hW hL => lv_i2b C.1 C.2.1 hd rfl (kk C H locs ls hW hL)
theorem g_i2s {x : Int32} (hd : decode cc pc = .ok (.i2s, 1)) (kk : mGo l G R X own cc nL kc ns Z (pc + 1) lv (.int x.toInt16.toInt32 :: rest) d) : mGo l G R X own cc nL kc ns Z pc lv (.int x :: rest) d := fun C H locs ls hW hL => lv_i2s C.1 C.2.1 hd rfl (kk C H locs ls hW hL)
theorem g_iconst {n : Int} {v : Int32} (hd : decode cc pc = .ok (.iconst n, 1)) (hv : Int32.ofInt n = v) (kk : mGo l G R X own cc nL kc ns Z (pc + 1) lv (.int v :: rest) d) : mGo l G R X own cc nL kc ns Z pc lv (rest) d := fun C H locs ls hW hL => lv_iconst C.1 C.2.1 hd hv (kk C H locs ls hW hL)
theorem g_bipush {n : Int} {v : Int32} (hd : decode cc pc = .ok (.bipush n, 2)) (hv : (Int8.ofInt n).toInt32 = v) (kk : mGo l G R X own cc nL kc ns Z (pc + 2) lv (.int v :: rest) d) : mGo l G R X own cc nL kc ns Z pc lv (rest) d := fun C H locs ls hW hL => lv_bipush C.1 C.2.1 hd hv (kk C H locs ls hW hL)
theorem g_sipush {n : Int} {v : Int32} (hd : decode cc pc = .ok (.sipush n, 3)) (hv : (Int16.ofInt n).toInt32 = v) (kk : mGo l G R X own cc nL kc ns Z (pc + 3) lv (.int v :: rest) d) : mGo l G R X own cc nL kc ns Z pc lv (rest) d := fun C H locs ls hW hL => lv_sipush C.1 C.2.1 hd hv (kk C H locs ls hW hL)
theorem g_lconst {n : Fin 2} {v : Int64} (hd : decode cc pc = .ok (.lconst n, 1)) (hv : Int64.ofNat (n : Nat) = v) (kk : mGo l G R X own cc nL kc ns Z (pc + 1) lv (.long v :: rest) d) : mGo l G R X own cc nL kc ns Z pc lv (rest) d := fun C H locs ls hW hL => lv_lconst C.1 C.2.1 hd hv (kk C H locs ls hW hL)
theorem g_ldc {ix : Nat} {v : Int32} (hd : decode cc pc = .ok (.ldc ix, 2)) (hv : Cond.constant own ix v ∈ AW) (kk : mGo l G R X own cc nL kc ns Z (pc + 2) lv (.int v :: rest) d) : mGo l G R X own cc nL kc ns Z pc lv (rest) d := fun C H locs ls hW hL => lv_ldc C.1 C.2.1 C.2.2.2.1 (C.2.2.2.2.1 _ hv) hd (kk C H locs ls hW hL)
theorem g_ldcw {ix : Nat} {v : Int32} (hd : decode cc pc = .ok (.ldc_w ix, 3)) (hv : Cond.constant own ix v ∈ AW) (kk : mGo l G R X own cc nL kc ns Z (pc + 3) lv (.int v :: rest) d) : mGo l G R X own cc nL kc ns Z pc lv (rest) d := fun C H locs ls hW hL => lv_ldcw C.1 C.2.1 C.2.2.2.1 (C.2.2.2.2.1 _ hv) hd (kk C H locs ls hW hL)
theorem g_ldc2 {ix : Nat} {v : Int64} (hd : decode cc pc = .ok (.ldc2_w ix, 3)) (hv : Cond.constantLong own ix v ∈ AW) (kk : mGo l G R X own cc nL kc ns Z (pc + 3) lv (.long v :: rest) d) : mGo l G R X own cc nL kc ns Z pc lv (rest) d := fun C H locs ls hW hL => lv_ldc2 C.1 C.2.1 C.2.2.2.1 (C.2.2.2.2.1 _ hv) hd (kk C H locs ls hW hL)
theorem g_dupI {x : Int32} (hd : decode cc pc = .ok (.dup, 1)) (kk : mGo l G R X own cc nL kc ns Z (pc + 1) lv (.int x :: .int x :: rest) d) : mGo l G R X own cc nL kc ns Z pc lv (.int x :: rest) d := fun C H locs ls hW hL => lv_dup C.1 C.2.1 hd rfl (kk C H locs ls hW hL)
theorem g_dupR {x : Nat} (hd : decode cc pc = .ok (.dup, 1)) (kk : mGo l G R X own cc nL kc ns Z (pc + 1) lv (.ref x :: .ref x :: rest) d) : mGo l G R X own cc nL kc ns Z pc lv (.ref x :: rest) d := fun C H locs ls hW hL => lv_dup C.1 C.2.1 hd rfl (kk C H locs ls hW hL)
theorem g_pop {va : Value} (hd : decode cc pc = .ok (.pop, 1)) (hc : va.category = 1) (kk : mGo l G R X own cc nL kc ns Z (pc + 1) lv rest d) : mGo l G R X own cc nL kc ns Z pc lv (va :: rest) d := fun C H locs ls hW hL => lv_pop C.1 C.2.1 hd hc (kk C H locs ls hW hL)
theorem g_dup2 {x : Int32} {y : Nat} (hd : decode cc pc = .ok (.dup2, 1)) (kk : mGo l G R X own cc nL kc ns Z (pc + 1) lv (.int x :: .ref y :: .int x :: .ref y :: rest) d) : mGo l G R X own cc nL kc ns Z pc lv (.int x :: .ref y :: rest) d := fun C H locs ls hW hL => lv_dup2_11 C.1 C.2.1 hd rfl rfl (kk C H locs ls hW hL)
theorem g_ifeq {x : Int32} {off : Int} (tgt : Nat) (hd : decode cc pc = .ok (.ifCond .eq off, 3)) (ht : (pc : Int) + off = (tgt : Int)) (kt : x = 0 → mGo l G R X own cc nL kc ns Z tgt lv rest d) (kf : ¬ (x = 0) → mGo l G R X own cc nL kc ns Z (pc + 3) lv rest d) : mGo l G R X own cc nL kc ns Z pc lv (.int x :: rest) d := fun C H locs ls hW hL => lv_if_eq C.1 C.2.1 hd ht (fun hh => kt hh C H locs ls hW hL) (fun hh => kf hh C H locs ls hW hL)
theorem g_ifne {x : Int32} {off : Int} (tgt : Nat) (hd : decode cc pc = .ok (.ifCond .ne off, 3)) (ht : (pc : Int) + off = (tgt : Int)) (kt : ¬ x = 0 → mGo l G R X own cc nL kc ns Z tgt lv rest d) (kf : x = 0 → mGo l G R X own cc nL kc ns Z (pc + 3) lv rest d) : mGo l G R X own cc nL kc ns Z pc lv (.int x :: rest) d := fun C H locs ls hW hL => lv_if_ne C.1 C.2.1 hd ht (fun hh => kt hh C H locs ls hW hL) (fun hh => kf hh C H locs ls hW hL)
theorem g_iflt {x : Int32} {off : Int} (tgt : Nat) (hd : decode cc pc = .ok (.ifCond .lt off, 3)) (ht : (pc : Int) + off = (tgt : Int)) (kt : x < 0 → mGo l G R X own cc nL kc ns Z tgt lv rest d) (kf : ¬ (x < 0) → mGo l G R X own cc nL kc ns Z (pc + 3) lv rest d) : mGo l G R X own cc nL kc ns Z pc lv (.int x :: rest) d := fun C H locs ls hW hL => lv_if_lt C.1 C.2.1 hd ht (fun hh => kt hh C H locs ls hW hL) (fun hh => kf hh C H locs ls hW hL)
theorem g_ifge {x : Int32} {off : Int} (tgt : Nat) (hd : decode cc pc = .ok (.ifCond .ge off, 3)) (ht : (pc : Int) + off = (tgt : Int)) (kt : 0 ≤ x → mGo l G R X own cc nL kc ns Z tgt lv rest d) (kf : ¬ (0 ≤ x) → mGo l G R X own cc nL kc ns Z (pc + 3) lv rest d) : mGo l G R X own cc nL kc ns Z pc lv (.int x :: rest) d := fun C H locs ls hW hL => lv_if_ge C.1 C.2.1 hd ht (fun hh => kt hh C H locs ls hW hL) (fun hh => kf hh C H locs ls hW hL)
theorem g_ifgt {x : Int32} {off : Int} (tgt : Nat) (hd : decode cc pc = .ok (.ifCond .gt off, 3)) (ht : (pc : Int) + off = (tgt : Int)) (kt : 0 < x → mGo l G R X own cc nL kc ns Z tgt lv rest d) (kf : ¬ (0 < x) → mGo l G R X own cc nL kc ns Z (pc + 3) lv rest d) : mGo l G R X own cc nL kc ns Z pc lv (.int x :: rest) d := fun C H locs ls hW hL => lv_if_gt C.1 C.2.1 hd ht (fun hh => kt hh C H locs ls hW hL) (fun hh => kf hh C H locs ls hW hL)
theorem g_ifle {x : Int32} {off : Int} (tgt : Nat) (hd : decode cc pc = .ok (.ifCond .le off, 3)) (ht : (pc : Int) + off = (tgt : Int)) (kt : x ≤ 0 → mGo l G R X own cc nL kc ns Z tgt lv rest d) (kf : ¬ (x ≤ 0) → mGo l G R X own cc nL kc ns Z (pc + 3) lv rest d) : mGo l G R X own cc nL kc ns Z pc lv (.int x :: rest) d := fun C H locs ls hW hL => lv_if_le C.1 C.2.1 hd ht (fun hh => kt hh C H locs ls hW hL) (fun hh => kf hh C H locs ls hW hL)
theorem g_icmpeq {x y : Int32} {off : Int} (tgt : Nat) (hd : decode cc pc = .ok (.if_icmp .eq off, 3)) (ht : (pc : Int) + off = (tgt : Int)) (kt : x = y → mGo l G R X own cc nL kc ns Z tgt lv rest d) (kf : ¬ (x = y) → mGo l G R X own cc nL kc ns Z (pc + 3) lv rest d) : mGo l G R X own cc nL kc ns Z pc lv (.int y :: .int x :: rest) d := fun C H locs ls hW hL => lv_icmp_eq C.1 C.2.1 hd ht (fun hh => kt hh C H locs ls hW hL) (fun hh => kf hh C H locs ls hW hL)
theorem g_icmpne {x y : Int32} {off : Int} (tgt : Nat) (hd : decode cc pc = .ok (.if_icmp .ne off, 3)) (ht : (pc : Int) + off = (tgt : Int)) (kt : ¬ x = y → mGo l G R X own cc nL kc ns Z tgt lv rest d) (kf : x = y → mGo l G R X own cc nL kc ns Z (pc + 3) lv rest d) : mGo l G R X own cc nL kc ns Z pc lv (.int y :: .int x :: rest) d := fun C H locs ls hW hL => lv_icmp_ne C.1 C.2.1 hd ht (fun hh => kt hh C H locs ls hW hL) (fun hh => kf hh C H locs ls hW hL)
theorem g_icmplt {x y : Int32} {off : Int} (tgt : Nat) (hd : decode cc pc = .ok (.if_icmp .lt off, 3)) (ht : (pc : Int) + off = (tgt : Int)) (kt : x < y → mGo l G R X own cc nL kc ns Z tgt lv rest d) (kf : ¬ (x < y) → mGo l G R X own cc nL kc ns Z (pc + 3) lv rest d) : mGo l G R X own cc nL kc ns Z pc lv (.int y :: .int x :: rest) d := fun C H locs ls hW hL => lv_icmp_lt C.1 C.2.1 hd ht (fun hh => kt hh C H locs ls hW hL) (fun hh => kf hh C H locs ls hW hL)
theorem g_icmpge {x y : Int32} {off : Int} (tgt : Nat) (hd : decode cc pc = .ok (.if_icmp .ge off, 3)) (ht : (pc : Int) + off = (tgt : Int)) (kt : y ≤ x → mGo l G R X own cc nL kc ns Z tgt lv rest d) (kf : ¬ (y ≤ x) → mGo l G R X own cc nL kc ns Z (pc + 3) lv rest d) : mGo l G R X own cc nL kc ns Z pc lv (.int y :: .int x :: rest) d := fun C H locs ls hW hL => lv_icmp_ge C.1 C.2.1 hd ht (fun hh => kt hh C H locs ls hW hL) (fun hh => kf hh C H locs ls hW hL)
theorem g_icmpgt {x y : Int32} {off : Int} (tgt : Nat) (hd : decode cc pc = .ok (.if_icmp .gt off, 3)) (ht : (pc : Int) + off = (tgt : Int)) (kt : y < x → mGo l G R X own cc nL kc ns Z tgt lv rest d) (kf : ¬ (y < x) → mGo l G R X own cc nL kc ns Z (pc + 3) lv rest d) : mGo l G R X own cc nL kc ns Z pc lv (.int y :: .int x :: rest) d := fun C H locs ls hW hL => lv_icmp_gt C.1 C.2.1 hd ht (fun hh => kt hh C H locs ls hW hL) (fun hh => kf hh C H locs ls hW hL)
theorem g_icmple {x y : Int32} {off : Int} (tgt : Nat) (hd : decode cc pc = .ok (.if_icmp .le off, 3)) (ht : (pc : Int) + off = (tgt : Int)) (kt : x ≤ y → mGo l G R X own cc nL kc ns Z tgt lv rest d) (kf : ¬ (x ≤ y) → mGo l G R X own cc nL kc ns Z (pc + 3) lv rest d) : mGo l G R X own cc nL kc ns Z pc lv (.int y :: .int x :: rest) d := fun C H locs ls hW hL => lv_icmp_le C.1 C.2.1 hd ht (fun hh => kt hh C H locs ls hW hL) (fun hh => kf hh C H locs ls hW hL)
theorem g_goto {off : Int} (tgt : Nat) (hd : decode cc pc = .ok (.goto off, 3)) (ht : (pc : Int) + off = (tgt : Int)) (kk : mGo l G R X own cc nL kc ns Z tgt lv rest d) : mGo l G R X own cc nL kc ns Z pc lv rest d := fun C H locs ls hW hL => lv_goto C.1 C.2.1 hd ht (kk C H locs ls hW hL)
theorem g_tblIn {dflt lo hi : Int} {offs : Array Int} {len : Nat} {x : Int32} {off : Int} (tgt : Nat) (hd : decode cc pc = .ok (.tableswitch dflt lo hi offs, len)) (h1 : ¬ x.toInt < lo) (h2 : ¬ hi < x.toInt) (ho : offs[(x.toInt - lo).toNat]? = some off) (ht : (pc : Int) + off = (tgt : Int)) (kk : mGo l G R X own cc nL kc ns Z tgt lv rest d) : mGo l G R X own cc nL kc ns Z pc lv (.int x :: rest) d := fun C H locs ls hW hL => lv_tableIn C.1 C.2.1 hd h1 h2 ho ht (kk C H locs ls hW hL)
theorem g_tblOut {dflt lo hi : Int} {offs : Array Int} {len : Nat} {x : Int32} (tgt : Nat) (hd : decode cc pc = .ok (.tableswitch dflt lo hi offs, len)) (hh : x.toInt < lo ∨ hi < x.toInt) (ht : (pc : Int) + dflt = (tgt : Int)) (kk : mGo l G R X own cc nL kc ns Z tgt lv rest d) : mGo l G R X own cc nL kc ns Z pc lv (.int x :: rest) d := fun C H locs ls hW hL => lv_tableOut C.1 C.2.1 hd hh ht (kk C H locs ls hW hL)
theorem g_lksw {dflt : Int} {ps : Array (Int × Int)} {len : Nat} {x : Int32} {off : Int} (tgt : Nat) (hd : decode cc pc = .ok (.lookupswitch dflt ps, len)) (hp : (ps.toList.zip (ps.toList.drop 1)).all (fun (a, next) => a.1 < next.1) = true) (ho : Op.lookupswitch.offset ps.toList dflt x.toInt = off) (ht : (pc : Int) + off = (tgt : Int)) (kk : mGo l G R X own cc nL kc ns Z tgt lv rest d) : mGo l G R X own cc nL kc ns Z pc lv (.int x :: rest) d := fun C H locs ls hW hL => lv_lookup C.1 C.2.1 hd hp ho ht (kk C H locs ls hW hL)
theorem g_ildn {kq : Fin 4} {i : Nat} {x : Int32} (hd : decode cc pc = .ok (.iload_n kq, 1)) (hi : (kq : Nat) = i) (hv : lv[i]? = some (some (.int x))) (kk : mGo l G R X own cc nL kc ns Z (pc + 1) lv (.int x :: rest) d) : mGo l G R X own cc nL kc ns Z pc lv rest d := fun C H locs ls hW hL => lv_iload_n C.1 C.2.1 hd hi (hL.2.2.2 i _ hv) (kk C H locs ls hW hL)
theorem g_ild {i : Nat} {x : Int32} (hd : decode cc pc = .ok (.iload i, 2)) (hv : lv[i]? = some (some (.int x))) (kk : mGo l G R X own cc nL kc ns Z (pc + 2) lv (.int x :: rest) d) : mGo l G R X own cc nL kc ns Z pc lv rest d := fun C H locs ls hW hL => lv_iload C.1 C.2.1 hd (hL.2.2.2 i _ hv) (kk C H locs ls hW hL)
theorem g_aldn {kq : Fin 4} {i : Nat} {x : Nat} (hd : decode cc pc = .ok (.aload_n kq, 1)) (hi : (kq : Nat) = i) (hv : lv[i]? = some (some (.ref x))) (kk : mGo l G R X own cc nL kc ns Z (pc + 1) lv (.ref x :: rest) d) : mGo l G R X own cc nL kc ns Z pc lv rest d := fun C H locs ls hW hL => lv_aload_n C.1 C.2.1 hd hi (hL.2.2.2 i _ hv) (kk C H locs ls hW hL)
theorem g_ald {i : Nat} {x : Nat} (hd : decode cc pc = .ok (.aload i, 2)) (hv : lv[i]? = some (some (.ref x))) (kk : mGo l G R X own cc nL kc ns Z (pc + 2) lv (.ref x :: rest) d) : mGo l G R X own cc nL kc ns Z pc lv rest d := fun C H locs ls hW hL => lv_aload C.1 C.2.1 hd (hL.2.2.2 i _ hv) (kk C H locs ls hW hL)
theorem g_lldn {kq : Fin 4} {i : Nat} {x : Int64} (hd : decode cc pc = .ok (.lload_n kq, 1)) (hi : (kq : Nat) = i) (hv : lv[i]? = some (some (.long x))) (kk : mGo l G R X own cc nL kc ns Z (pc + 1) lv (.long x :: rest) d) : mGo l G R X own cc nL kc ns Z pc lv rest d := fun C H locs ls hW hL => lv_lload_n C.1 C.2.1 hd hi (hL.2.2.2 i _ hv) (kk C H locs ls hW hL)
theorem g_lld {i : Nat} {x : Int64} (hd : decode cc pc = .ok (.lload i, 2)) (hv : lv[i]? = some (some (.long x))) (kk : mGo l G R X own cc nL kc ns Z (pc + 2) lv (.long x :: rest) d) : mGo l G R X own cc nL kc ns Z pc lv rest d := fun C H locs ls hW hL => lv_lload C.1 C.2.1 hd (hL.2.2.2 i _ hv) (kk C H locs ls hW hL)
theorem g_istn {kq : Fin 4} {i : Nat} {x : Int32} (hd : decode cc pc = .ok (.istore_n kq, 1)) (hi : (kq : Nat) = i) (hn : i < lv.length) (hp : mPrev lv i = true) (kk : mGo l G R X own cc nL kc ns Z (pc + 1) (lv.set i (some (.int x))) rest d) : mGo l G R X own cc nL kc ns Z pc lv (.int x :: rest) d := fun C H locs ls hW hL => lv_istore_n C.1 C.2.1 hd hi hL.has (Nat.lt_of_lt_of_le hn hL.2.2.1) rfl (fun ls' h' => kk C H locs ls' hW (mLv.of hL.2.2.1 hp rfl h'))
theorem g_ist {i : Nat} {x : Int32} (hd : decode cc pc = .ok (.istore i, 2)) (hn : i < lv.length) (hp : mPrev lv i = true) (kk : mGo l G R X own cc nL kc ns Z (pc + 2) (lv.set i (some (.int x))) rest d) : mGo l G R X own cc nL kc ns Z pc lv (.int x :: rest) d := fun C H locs ls hW hL => lv_istore C.1 C.2.1 hd hL.has (Nat.lt_of_lt_of_le hn hL.2.2.1) rfl (fun ls' h' => kk C H locs ls' hW (mLv.of hL.2.2.1 hp rfl h'))
theorem g_astn {kq : Fin 4} {i : Nat} {x : Nat} (hd : decode cc pc = .ok (.astore_n kq, 1)) (hi : (kq : Nat) = i) (hn : i < lv.length) (hp : mPrev lv i = true) (kk : mGo l G R X own cc nL kc ns Z (pc + 1) (lv.set i (some (.ref x))) rest d) : mGo l G R X own cc nL kc ns Z pc lv (.ref x :: rest) d := fun C H locs ls hW hL => lv_astore_n C.1 C.2.1 hd hi hL.has (Nat.lt_of_lt_of_le hn hL.2.2.1) rfl (fun ls' h' => kk C H locs ls' hW (mLv.of hL.2.2.1 hp rfl h'))
theorem g_ast {i : Nat} {x : Nat} (hd : decode cc pc = .ok (.astore i, 2)) (hn : i < lv.length) (hp : mPrev lv i = true) (kk : mGo l G R X own cc nL kc ns Z (pc + 2) (lv.set i (some (.ref x))) rest d) : mGo l G R X own cc nL kc ns Z pc lv (.ref x :: rest) d := fun C H locs ls hW hL => lv_astore C.1 C.2.1 hd hL.has (Nat.lt_of_lt_of_le hn hL.2.2.1) rfl (fun ls' h' => kk C H locs ls' hW (mLv.of hL.2.2.1 hp rfl h'))
theorem mPr_get : ∀ (lv : List (Option Value)) (i j : Nat) (v : Value), lv[j]? = some (some v) → ∃ k : Nat, (mPr i lv)[k]? = some (i + j, v) := by
  intro lv i j v h
  have : (i + j, v) ∈ mPr i lv := (mPr_mem lv i (i + j) v).mpr ⟨j, rfl, h⟩
  exact List.getElem?_of_mem this
theorem g_iinc {i : Nat} {nq : Int} {x cq : Int32} (hd : decode cc pc = .ok (.iinc i nq, 3)) (hv : lv[i]? = some (some (.int x))) (hc : Int32.ofInt nq = cq) (hp : mPrev lv i = true) (kk : mGo l G R X own cc nL kc ns Z (pc + 3) (lv.set i (some (.int (x + cq)))) rest d) : mGo l G R X own cc nL kc ns Z pc lv rest d := fun C H locs ls hW hL => by
  obtain ⟨k9, hk9⟩ := mPr_get lv 0 i _ hv
  rw [Nat.zero_add] at hk9
  have hn : i < lv.length := (List.getElem?_eq_some_iff.mp hv).1
  exact lv_iinc C.1 C.2.1 hd hL.has hk9 (by rw [hc]) (Nat.lt_of_lt_of_le hn hL.2.2.1) rfl (fun ls' h' => kk C H locs ls' hW (mLv.of hL.2.2.1 hp rfl h'))
theorem il0  {rq : List (Option Value)} {x : Int32} (hd : decode cc pc = .ok (.iload_n 0, 1)) (kk : mGo l G R X own cc nL kc ns Z (pc + 1) (some (.int x) :: rq) (.int x :: rest) d) : mGo l G R X own cc nL kc ns Z pc (some (.int x) :: rq) rest d := g_ildn hd rfl rfl kk
theorem al0  {rq : List (Option Value)} {x : Nat} (hd : decode cc pc = .ok (.aload_n 0, 1)) (kk : mGo l G R X own cc nL kc ns Z (pc + 1) (some (.ref x) :: rq) (.ref x :: rest) d) : mGo l G R X own cc nL kc ns Z pc (some (.ref x) :: rq) rest d := g_aldn hd rfl rfl kk
theorem ll0  {rq : List (Option Value)} {x : Int64} (hd : decode cc pc = .ok (.lload_n 0, 1)) (kk : mGo l G R X own cc nL kc ns Z (pc + 1) (some (.long x) :: rq) (.long x :: rest) d) : mGo l G R X own cc nL kc ns Z pc (some (.long x) :: rq) rest d := g_lldn hd rfl rfl kk
theorem is0  {oo : Option Value} {rq : List (Option Value)} {x : Int32} (hd : decode cc pc = .ok (.istore_n 0, 1)) (kk : mGo l G R X own cc nL kc ns Z (pc + 1) (some (.int x) :: rq) rest d) : mGo l G R X own cc nL kc ns Z pc (oo :: rq) (.int x :: rest) d := g_istn hd rfl (by simp only [List.length_cons]; omega) rfl kk
theorem as0  {oo : Option Value} {rq : List (Option Value)} {x : Nat} (hd : decode cc pc = .ok (.astore_n 0, 1)) (kk : mGo l G R X own cc nL kc ns Z (pc + 1) (some (.ref x) :: rq) rest d) : mGo l G R X own cc nL kc ns Z pc (oo :: rq) (.ref x :: rest) d := g_astn hd rfl (by simp only [List.length_cons]; omega) rfl kk
theorem ic0  {rq : List (Option Value)} {nq : Int} {x cq : Int32} (hd : decode cc pc = .ok (.iinc 0 nq, 3)) (hc : Int32.ofInt nq = cq) (kk : mGo l G R X own cc nL kc ns Z (pc + 3) (some (.int (x + cq)) :: rq) rest d) : mGo l G R X own cc nL kc ns Z pc (some (.int x) :: rq) rest d := g_iinc hd rfl hc rfl kk
theorem il1 {o0 : Option Value} {rq : List (Option Value)} {x : Int32} (hd : decode cc pc = .ok (.iload_n 1, 1)) (kk : mGo l G R X own cc nL kc ns Z (pc + 1) (o0 :: some (.int x) :: rq) (.int x :: rest) d) : mGo l G R X own cc nL kc ns Z pc (o0 :: some (.int x) :: rq) rest d := g_ildn hd rfl rfl kk
theorem al1 {o0 : Option Value} {rq : List (Option Value)} {x : Nat} (hd : decode cc pc = .ok (.aload_n 1, 1)) (kk : mGo l G R X own cc nL kc ns Z (pc + 1) (o0 :: some (.ref x) :: rq) (.ref x :: rest) d) : mGo l G R X own cc nL kc ns Z pc (o0 :: some (.ref x) :: rq) rest d := g_aldn hd rfl rfl kk
theorem ll1 {o0 : Option Value} {rq : List (Option Value)} {x : Int64} (hd : decode cc pc = .ok (.lload_n 1, 1)) (kk : mGo l G R X own cc nL kc ns Z (pc + 1) (o0 :: some (.long x) :: rq) (.long x :: rest) d) : mGo l G R X own cc nL kc ns Z pc (o0 :: some (.long x) :: rq) rest d := g_lldn hd rfl rfl kk
theorem is1 {o0 : Option Value} {oo : Option Value} {rq : List (Option Value)} {x : Int32} (hd : decode cc pc = .ok (.istore_n 1, 1)) (hp : mC1 o0 = true) (kk : mGo l G R X own cc nL kc ns Z (pc + 1) (o0 :: some (.int x) :: rq) rest d) : mGo l G R X own cc nL kc ns Z pc (o0 :: oo :: rq) (.int x :: rest) d := g_istn hd rfl (by simp only [List.length_cons]; omega) hp kk
theorem as1 {o0 : Option Value} {oo : Option Value} {rq : List (Option Value)} {x : Nat} (hd : decode cc pc = .ok (.astore_n 1, 1)) (hp : mC1 o0 = true) (kk : mGo l G R X own cc nL kc ns Z (pc + 1) (o0 :: some (.ref x) :: rq) rest d) : mGo l G R X own cc nL kc ns Z pc (o0 :: oo :: rq) (.ref x :: rest) d := g_astn hd rfl (by simp only [List.length_cons]; omega) hp kk
theorem ic1 {o0 : Option Value} {rq : List (Option Value)} {nq : Int} {x cq : Int32} (hd : decode cc pc = .ok (.iinc 1 nq, 3)) (hc : Int32.ofInt nq = cq) (hp : mC1 o0 = true) (kk : mGo l G R X own cc nL kc ns Z (pc + 3) (o0 :: some (.int (x + cq)) :: rq) rest d) : mGo l G R X own cc nL kc ns Z pc (o0 :: some (.int x) :: rq) rest d := g_iinc hd rfl hc hp kk
theorem il2 {o0 o1 : Option Value} {rq : List (Option Value)} {x : Int32} (hd : decode cc pc = .ok (.iload_n 2, 1)) (kk : mGo l G R X own cc nL kc ns Z (pc + 1) (o0 :: o1 :: some (.int x) :: rq) (.int x :: rest) d) : mGo l G R X own cc nL kc ns Z pc (o0 :: o1 :: some (.int x) :: rq) rest d := g_ildn hd rfl rfl kk
theorem al2 {o0 o1 : Option Value} {rq : List (Option Value)} {x : Nat} (hd : decode cc pc = .ok (.aload_n 2, 1)) (kk : mGo l G R X own cc nL kc ns Z (pc + 1) (o0 :: o1 :: some (.ref x) :: rq) (.ref x :: rest) d) : mGo l G R X own cc nL kc ns Z pc (o0 :: o1 :: some (.ref x) :: rq) rest d := g_aldn hd rfl rfl kk
theorem ll2 {o0 o1 : Option Value} {rq : List (Option Value)} {x : Int64} (hd : decode cc pc = .ok (.lload_n 2, 1)) (kk : mGo l G R X own cc nL kc ns Z (pc + 1) (o0 :: o1 :: some (.long x) :: rq) (.long x :: rest) d) : mGo l G R X own cc nL kc ns Z pc (o0 :: o1 :: some (.long x) :: rq) rest d := g_lldn hd rfl rfl kk
theorem is2 {o0 o1 : Option Value} {oo : Option Value} {rq : List (Option Value)} {x : Int32} (hd : decode cc pc = .ok (.istore_n 2, 1)) (hp : mC1 o1 = true) (kk : mGo l G R X own cc nL kc ns Z (pc + 1) (o0 :: o1 :: some (.int x) :: rq) rest d) : mGo l G R X own cc nL kc ns Z pc (o0 :: o1 :: oo :: rq) (.int x :: rest) d := g_istn hd rfl (by simp only [List.length_cons]; omega) hp kk
theorem as2 {o0 o1 : Option Value} {oo : Option Value} {rq : List (Option Value)} {x : Nat} (hd : decode cc pc = .ok (.astore_n 2, 1)) (hp : mC1 o1 = true) (kk : mGo l G R X own cc nL kc ns Z (pc + 1) (o0 :: o1 :: some (.ref x) :: rq) rest d) : mGo l G R X own cc nL kc ns Z pc (o0 :: o1 :: oo :: rq) (.ref x :: rest) d := g_astn hd rfl (by simp only [List.length_cons]; omega) hp kk
theorem ic2 {o0 o1 : Option Value} {rq : List (Option Value)} {nq : Int} {x cq : Int32} (hd : decode cc pc = .ok (.iinc 2 nq, 3)) (hc : Int32.ofInt nq = cq) (hp : mC1 o1 = true) (kk : mGo l G R X own cc nL kc ns Z (pc + 3) (o0 :: o1 :: some (.int (x + cq)) :: rq) rest d) : mGo l G R X own cc nL kc ns Z pc (o0 :: o1 :: some (.int x) :: rq) rest d := g_iinc hd rfl hc hp kk
theorem il3 {o0 o1 o2 : Option Value} {rq : List (Option Value)} {x : Int32} (hd : decode cc pc = .ok (.iload_n 3, 1)) (kk : mGo l G R X own cc nL kc ns Z (pc + 1) (o0 :: o1 :: o2 :: some (.int x) :: rq) (.int x :: rest) d) : mGo l G R X own cc nL kc ns Z pc (o0 :: o1 :: o2 :: some (.int x) :: rq) rest d := g_ildn hd rfl rfl kk
theorem al3 {o0 o1 o2 : Option Value} {rq : List (Option Value)} {x : Nat} (hd : decode cc pc = .ok (.aload_n 3, 1)) (kk : mGo l G R X own cc nL kc ns Z (pc + 1) (o0 :: o1 :: o2 :: some (.ref x) :: rq) (.ref x :: rest) d) : mGo l G R X own cc nL kc ns Z pc (o0 :: o1 :: o2 :: some (.ref x) :: rq) rest d := g_aldn hd rfl rfl kk
theorem ll3 {o0 o1 o2 : Option Value} {rq : List (Option Value)} {x : Int64} (hd : decode cc pc = .ok (.lload_n 3, 1)) (kk : mGo l G R X own cc nL kc ns Z (pc + 1) (o0 :: o1 :: o2 :: some (.long x) :: rq) (.long x :: rest) d) : mGo l G R X own cc nL kc ns Z pc (o0 :: o1 :: o2 :: some (.long x) :: rq) rest d := g_lldn hd rfl rfl kk
theorem is3 {o0 o1 o2 : Option Value} {oo : Option Value} {rq : List (Option Value)} {x : Int32} (hd : decode cc pc = .ok (.istore_n 3, 1)) (hp : mC1 o2 = true) (kk : mGo l G R X own cc nL kc ns Z (pc + 1) (o0 :: o1 :: o2 :: some (.int x) :: rq) rest d) : mGo l G R X own cc nL kc ns Z pc (o0 :: o1 :: o2 :: oo :: rq) (.int x :: rest) d := g_istn hd rfl (by simp only [List.length_cons]; omega) hp kk
theorem as3 {o0 o1 o2 : Option Value} {oo : Option Value} {rq : List (Option Value)} {x : Nat} (hd : decode cc pc = .ok (.astore_n 3, 1)) (hp : mC1 o2 = true) (kk : mGo l G R X own cc nL kc ns Z (pc + 1) (o0 :: o1 :: o2 :: some (.ref x) :: rq) rest d) : mGo l G R X own cc nL kc ns Z pc (o0 :: o1 :: o2 :: oo :: rq) (.ref x :: rest) d := g_astn hd rfl (by simp only [List.length_cons]; omega) hp kk
theorem ic3 {o0 o1 o2 : Option Value} {rq : List (Option Value)} {nq : Int} {x cq : Int32} (hd : decode cc pc = .ok (.iinc 3 nq, 3)) (hc : Int32.ofInt nq = cq) (hp : mC1 o2 = true) (kk : mGo l G R X own cc nL kc ns Z (pc + 3) (o0 :: o1 :: o2 :: some (.int (x + cq)) :: rq) rest d) : mGo l G R X own cc nL kc ns Z pc (o0 :: o1 :: o2 :: some (.int x) :: rq) rest d := g_iinc hd rfl hc hp kk
theorem il4 {o0 o1 o2 o3 : Option Value} {rq : List (Option Value)} {x : Int32} (hd : decode cc pc = .ok (.iload 4, 2)) (kk : mGo l G R X own cc nL kc ns Z (pc + 2) (o0 :: o1 :: o2 :: o3 :: some (.int x) :: rq) (.int x :: rest) d) : mGo l G R X own cc nL kc ns Z pc (o0 :: o1 :: o2 :: o3 :: some (.int x) :: rq) rest d := g_ild hd rfl kk
theorem al4 {o0 o1 o2 o3 : Option Value} {rq : List (Option Value)} {x : Nat} (hd : decode cc pc = .ok (.aload 4, 2)) (kk : mGo l G R X own cc nL kc ns Z (pc + 2) (o0 :: o1 :: o2 :: o3 :: some (.ref x) :: rq) (.ref x :: rest) d) : mGo l G R X own cc nL kc ns Z pc (o0 :: o1 :: o2 :: o3 :: some (.ref x) :: rq) rest d := g_ald hd rfl kk
theorem ll4 {o0 o1 o2 o3 : Option Value} {rq : List (Option Value)} {x : Int64} (hd : decode cc pc = .ok (.lload 4, 2)) (kk : mGo l G R X own cc nL kc ns Z (pc + 2) (o0 :: o1 :: o2 :: o3 :: some (.long x) :: rq) (.long x :: rest) d) : mGo l G R X own cc nL kc ns Z pc (o0 :: o1 :: o2 :: o3 :: some (.long x) :: rq) rest d := g_lld hd rfl kk
theorem is4 {o0 o1 o2 o3 : Option Value} {oo : Option Value} {rq : List (Option Value)} {x : Int32} (hd : decode cc pc = .ok (.istore 4, 2)) (hp : mC1 o3 = true) (kk : mGo l G R X own cc nL kc ns Z (pc + 2) (o0 :: o1 :: o2 :: o3 :: some (.int x) :: rq) rest d) : mGo l G R X own cc nL kc ns Z pc (o0 :: o1 :: o2 :: o3 :: oo :: rq) (.int x :: rest) d := g_ist hd (by simp only [List.length_cons]; omega) hp kk
theorem as4 {o0 o1 o2 o3 : Option Value} {oo : Option Value} {rq : List (Option Value)} {x : Nat} (hd : decode cc pc = .ok (.astore 4, 2)) (hp : mC1 o3 = true) (kk : mGo l G R X own cc nL kc ns Z (pc + 2) (o0 :: o1 :: o2 :: o3 :: some (.ref x) :: rq) rest d) : mGo l G R X own cc nL kc ns Z pc (o0 :: o1 :: o2 :: o3 :: oo :: rq) (.ref x :: rest) d := g_ast hd (by simp only [List.length_cons]; omega) hp kk
theorem ic4 {o0 o1 o2 o3 : Option Value} {rq : List (Option Value)} {nq : Int} {x cq : Int32} (hd : decode cc pc = .ok (.iinc 4 nq, 3)) (hc : Int32.ofInt nq = cq) (hp : mC1 o3 = true) (kk : mGo l G R X own cc nL kc ns Z (pc + 3) (o0 :: o1 :: o2 :: o3 :: some (.int (x + cq)) :: rq) rest d) : mGo l G R X own cc nL kc ns Z pc (o0 :: o1 :: o2 :: o3 :: some (.int x) :: rq) rest d := g_iinc hd rfl hc hp kk
theorem il5 {o0 o1 o2 o3 o4 : Option Value} {rq : List (Option Value)} {x : Int32} (hd : decode cc pc = .ok (.iload 5, 2)) (kk : mGo l G R X own cc nL kc ns Z (pc + 2) (o0 :: o1 :: o2 :: o3 :: o4 :: some (.int x) :: rq) (.int x :: rest) d) : mGo l G R X own cc nL kc ns Z pc (o0 :: o1 :: o2 :: o3 :: o4 :: some (.int x) :: rq) rest d := g_ild hd rfl kk
theorem al5 {o0 o1 o2 o3 o4 : Option Value} {rq : List (Option Value)} {x : Nat} (hd : decode cc pc = .ok (.aload 5, 2)) (kk : mGo l G R X own cc nL kc ns Z (pc + 2) (o0 :: o1 :: o2 :: o3 :: o4 :: some (.ref x) :: rq) (.ref x :: rest) d) : mGo l G R X own cc nL kc ns Z pc (o0 :: o1 :: o2 :: o3 :: o4 :: some (.ref x) :: rq) rest d := g_ald hd rfl kk
theorem ll5 {o0 o1 o2 o3 o4 : Option Value} {rq : List (Option Value)} {x : Int64} (hd : decode cc pc = .ok (.lload 5, 2)) (kk : mGo l G R X own cc nL kc ns Z (pc + 2) (o0 :: o1 :: o2 :: o3 :: o4 :: some (.long x) :: rq) (.long x :: rest) d) : mGo l G R X own cc nL kc ns Z pc (o0 :: o1 :: o2 :: o3 :: o4 :: some (.long x) :: rq) rest d := g_lld hd rfl kk
theorem is5 {o0 o1 o2 o3 o4 : Option Value} {oo : Option Value} {rq : List (Option Value)} {x : Int32} (hd : decode cc pc = .ok (.istore 5, 2)) (hp : mC1 o4 = true) (kk : mGo l G R X own cc nL kc ns Z (pc + 2) (o0 :: o1 :: o2 :: o3 :: o4 :: some (.int x) :: rq) rest d) : mGo l G R X own cc nL kc ns Z pc (o0 :: o1 :: o2 :: o3 :: o4 :: oo :: rq) (.int x :: rest) d := g_ist hd (by simp only [List.length_cons]; omega) hp kk
theorem as5 {o0 o1 o2 o3 o4 : Option Value} {oo : Option Value} {rq : List (Option Value)} {x : Nat} (hd : decode cc pc = .ok (.astore 5, 2)) (hp : mC1 o4 = true) (kk : mGo l G R X own cc nL kc ns Z (pc + 2) (o0 :: o1 :: o2 :: o3 :: o4 :: some (.ref x) :: rq) rest d) : mGo l G R X own cc nL kc ns Z pc (o0 :: o1 :: o2 :: o3 :: o4 :: oo :: rq) (.ref x :: rest) d := g_ast hd (by simp only [List.length_cons]; omega) hp kk
theorem ic5 {o0 o1 o2 o3 o4 : Option Value} {rq : List (Option Value)} {nq : Int} {x cq : Int32} (hd : decode cc pc = .ok (.iinc 5 nq, 3)) (hc : Int32.ofInt nq = cq) (hp : mC1 o4 = true) (kk : mGo l G R X own cc nL kc ns Z (pc + 3) (o0 :: o1 :: o2 :: o3 :: o4 :: some (.int (x + cq)) :: rq) rest d) : mGo l G R X own cc nL kc ns Z pc (o0 :: o1 :: o2 :: o3 :: o4 :: some (.int x) :: rq) rest d := g_iinc hd rfl hc hp kk
theorem il6 {o0 o1 o2 o3 o4 o5 : Option Value} {rq : List (Option Value)} {x : Int32} (hd : decode cc pc = .ok (.iload 6, 2)) (kk : mGo l G R X own cc nL kc ns Z (pc + 2) (o0 :: o1 :: o2 :: o3 :: o4 :: o5 :: some (.int x) :: rq) (.int x :: rest) d) : mGo l G R X own cc nL kc ns Z pc (o0 :: o1 :: o2 :: o3 :: o4 :: o5 :: some (.int x) :: rq) rest d := g_ild hd rfl kk
theorem al6 {o0 o1 o2 o3 o4 o5 : Option Value} {rq : List (Option Value)} {x : Nat} (hd : decode cc pc = .ok (.aload 6, 2)) (kk : mGo l G R X own cc nL kc ns Z (pc + 2) (o0 :: o1 :: o2 :: o3 :: o4 :: o5 :: some (.ref x) :: rq) (.ref x :: rest) d) : mGo l G R X own cc nL kc ns Z pc (o0 :: o1 :: o2 :: o3 :: o4 :: o5 :: some (.ref x) :: rq) rest d := g_ald hd rfl kk
theorem ll6 {o0 o1 o2 o3 o4 o5 : Option Value} {rq : List (Option Value)} {x : Int64} (hd : decode cc pc = .ok (.lload 6, 2)) (kk : mGo l G R X own cc nL kc ns Z (pc + 2) (o0 :: o1 :: o2 :: o3 :: o4 :: o5 :: some (.long x) :: rq) (.long x :: rest) d) : mGo l G R X own cc nL kc ns Z pc (o0 :: o1 :: o2 :: o3 :: o4 :: o5 :: some (.long x) :: rq) rest d := g_lld hd rfl kk
theorem is6 {o0 o1 o2 o3 o4 o5 : Option Value} {oo : Option Value} {rq : List (Option Value)} {x : Int32} (hd : decode cc pc = .ok (.istore 6, 2)) (hp : mC1 o5 = true) (kk : mGo l G R X own cc nL kc ns Z (pc + 2) (o0 :: o1 :: o2 :: o3 :: o4 :: o5 :: some (.int x) :: rq) rest d) : mGo l G R X own cc nL kc ns Z pc (o0 :: o1 :: o2 :: o3 :: o4 :: o5 :: oo :: rq) (.int x :: rest) d := g_ist hd (by simp only [List.length_cons]; omega) hp kk
theorem as6 {o0 o1 o2 o3 o4 o5 : Option Value} {oo : Option Value} {rq : List (Option Value)} {x : Nat} (hd : decode cc pc = .ok (.astore 6, 2)) (hp : mC1 o5 = true) (kk : mGo l G R X own cc nL kc ns Z (pc + 2) (o0 :: o1 :: o2 :: o3 :: o4 :: o5 :: some (.ref x) :: rq) rest d) : mGo l G R X own cc nL kc ns Z pc (o0 :: o1 :: o2 :: o3 :: o4 :: o5 :: oo :: rq) (.ref x :: rest) d := g_ast hd (by simp only [List.length_cons]; omega) hp kk
theorem ic6 {o0 o1 o2 o3 o4 o5 : Option Value} {rq : List (Option Value)} {nq : Int} {x cq : Int32} (hd : decode cc pc = .ok (.iinc 6 nq, 3)) (hc : Int32.ofInt nq = cq) (hp : mC1 o5 = true) (kk : mGo l G R X own cc nL kc ns Z (pc + 3) (o0 :: o1 :: o2 :: o3 :: o4 :: o5 :: some (.int (x + cq)) :: rq) rest d) : mGo l G R X own cc nL kc ns Z pc (o0 :: o1 :: o2 :: o3 :: o4 :: o5 :: some (.int x) :: rq) rest d := g_iinc hd rfl hc hp kk
theorem il7 {o0 o1 o2 o3 o4 o5 o6 : Option Value} {rq : List (Option Value)} {x : Int32} (hd : decode cc pc = .ok (.iload 7, 2)) (kk : mGo l G R X own cc nL kc ns Z (pc + 2) (o0 :: o1 :: o2 :: o3 :: o4 :: o5 :: o6 :: some (.int x) :: rq) (.int x :: rest) d) : mGo l G R X own cc nL kc ns Z pc (o0 :: o1 :: o2 :: o3 :: o4 :: o5 :: o6 :: some (.int x) :: rq) rest d := g_ild hd rfl kk
theorem al7 {o0 o1 o2 o3 o4 o5 o6 : Option Value} {rq : List (Option Value)} {x : Nat} (hd : decode cc pc = .ok (.aload 7, 2)) (kk : mGo l G R X own cc nL kc ns Z (pc + 2) (o0 :: o1 :: o2 :: o3 :: o4 :: o5 :: o6 :: some (.ref x) :: rq) (.ref x :: rest) d) : mGo l G R X own cc nL kc ns Z pc (o0 :: o1 :: o2 :: o3 :: o4 :: o5 :: o6 :: some (.ref x) :: rq) rest d := g_ald hd rfl kk
theorem ll7 {o0 o1 o2 o3 o4 o5 o6 : Option Value} {rq : List (Option Value)} {x : Int64} (hd : decode cc pc = .ok (.lload 7, 2)) (kk : mGo l G R X own cc nL kc ns Z (pc + 2) (o0 :: o1 :: o2 :: o3 :: o4 :: o5 :: o6 :: some (.long x) :: rq) (.long x :: rest) d) : mGo l G R X own cc nL kc ns Z pc (o0 :: o1 :: o2 :: o3 :: o4 :: o5 :: o6 :: some (.long x) :: rq) rest d := g_lld hd rfl kk
theorem is7 {o0 o1 o2 o3 o4 o5 o6 : Option Value} {oo : Option Value} {rq : List (Option Value)} {x : Int32} (hd : decode cc pc = .ok (.istore 7, 2)) (hp : mC1 o6 = true) (kk : mGo l G R X own cc nL kc ns Z (pc + 2) (o0 :: o1 :: o2 :: o3 :: o4 :: o5 :: o6 :: some (.int x) :: rq) rest d) : mGo l G R X own cc nL kc ns Z pc (o0 :: o1 :: o2 :: o3 :: o4 :: o5 :: o6 :: oo :: rq) (.int x :: rest) d := g_ist hd (by simp only [List.length_cons]; omega) hp kk
theorem as7 {o0 o1 o2 o3 o4 o5 o6 : Option Value} {oo : Option Value} {rq : List (Option Value)} {x : Nat} (hd : decode cc pc = .ok (.astore 7, 2)) (hp : mC1 o6 = true) (kk : mGo l G R X own cc nL kc ns Z (pc + 2) (o0 :: o1 :: o2 :: o3 :: o4 :: o5 :: o6 :: some (.ref x) :: rq) rest d) : mGo l G R X own cc nL kc ns Z pc (o0 :: o1 :: o2 :: o3 :: o4 :: o5 :: o6 :: oo :: rq) (.ref x :: rest) d := g_ast hd (by simp only [List.length_cons]; omega) hp kk
theorem ic7 {o0 o1 o2 o3 o4 o5 o6 : Option Value} {rq : List (Option Value)} {nq : Int} {x cq : Int32} (hd : decode cc pc = .ok (.iinc 7 nq, 3)) (hc : Int32.ofInt nq = cq) (hp : mC1 o6 = true) (kk : mGo l G R X own cc nL kc ns Z (pc + 3) (o0 :: o1 :: o2 :: o3 :: o4 :: o5 :: o6 :: some (.int (x + cq)) :: rq) rest d) : mGo l G R X own cc nL kc ns Z pc (o0 :: o1 :: o2 :: o3 :: o4 :: o5 :: o6 :: some (.int x) :: rq) rest d := g_iinc hd rfl hc hp kk
theorem il8 {o0 o1 o2 o3 o4 o5 o6 o7 : Option Value} {rq : List (Option Value)} {x : Int32} (hd : decode cc pc = .ok (.iload 8, 2)) (kk : mGo l G R X own cc nL kc ns Z (pc + 2) (o0 :: o1 :: o2 :: o3 :: o4 :: o5 :: o6 :: o7 :: some (.int x) :: rq) (.int x :: rest) d) : mGo l G R X own cc nL kc ns Z pc (o0 :: o1 :: o2 :: o3 :: o4 :: o5 :: o6 :: o7 :: some (.int x) :: rq) rest d := g_ild hd rfl kk
theorem al8 {o0 o1 o2 o3 o4 o5 o6 o7 : Option Value} {rq : List (Option Value)} {x : Nat} (hd : decode cc pc = .ok (.aload 8, 2)) (kk : mGo l G R X own cc nL kc ns Z (pc + 2) (o0 :: o1 :: o2 :: o3 :: o4 :: o5 :: o6 :: o7 :: some (.ref x) :: rq) (.ref x :: rest) d) : mGo l G R X own cc nL kc ns Z pc (o0 :: o1 :: o2 :: o3 :: o4 :: o5 :: o6 :: o7 :: some (.ref x) :: rq) rest d := g_ald hd rfl kk
theorem ll8 {o0 o1 o2 o3 o4 o5 o6 o7 : Option Value} {rq : List (Option Value)} {x : Int64} (hd : decode cc pc = .ok (.lload 8, 2)) (kk : mGo l G R X own cc nL kc ns Z (pc + 2) (o0 :: o1 :: o2 :: o3 :: o4 :: o5 :: o6 :: o7 :: some (.long x) :: rq) (.long x :: rest) d) : mGo l G R X own cc nL kc ns Z pc (o0 :: o1 :: o2 :: o3 :: o4 :: o5 :: o6 :: o7 :: some (.long x) :: rq) rest d := g_lld hd rfl kk
theorem is8 {o0 o1 o2 o3 o4 o5 o6 o7 : Option Value} {oo : Option Value} {rq : List (Option Value)} {x : Int32} (hd : decode cc pc = .ok (.istore 8, 2)) (hp : mC1 o7 = true) (kk : mGo l G R X own cc nL kc ns Z (pc + 2) (o0 :: o1 :: o2 :: o3 :: o4 :: o5 :: o6 :: o7 :: some (.int x) :: rq) rest d) : mGo l G R X own cc nL kc ns Z pc (o0 :: o1 :: o2 :: o3 :: o4 :: o5 :: o6 :: o7 :: oo :: rq) (.int x :: rest) d := g_ist hd (by simp only [List.length_cons]; omega) hp kk
theorem as8 {o0 o1 o2 o3 o4 o5 o6 o7 : Option Value} {oo : Option Value} {rq : List (Option Value)} {x : Nat} (hd : decode cc pc = .ok (.astore 8, 2)) (hp : mC1 o7 = true) (kk : mGo l G R X own cc nL kc ns Z (pc + 2) (o0 :: o1 :: o2 :: o3 :: o4 :: o5 :: o6 :: o7 :: some (.ref x) :: rq) rest d) : mGo l G R X own cc nL kc ns Z pc (o0 :: o1 :: o2 :: o3 :: o4 :: o5 :: o6 :: o7 :: oo :: rq) (.ref x :: rest) d := g_ast hd (by simp only [List.length_cons]; omega) hp kk
theorem ic8 {o0 o1 o2 o3 o4 o5 o6 o7 : Option Value} {rq : List (Option Value)} {nq : Int} {x cq : Int32} (hd : decode cc pc = .ok (.iinc 8 nq, 3)) (hc : Int32.ofInt nq = cq) (hp : mC1 o7 = true) (kk : mGo l G R X own cc nL kc ns Z (pc + 3) (o0 :: o1 :: o2 :: o3 :: o4 :: o5 :: o6 :: o7 :: some (.int (x + cq)) :: rq) rest d) : mGo l G R X own cc nL kc ns Z pc (o0 :: o1 :: o2 :: o3 :: o4 :: o5 :: o6 :: o7 :: some (.int x) :: rq) rest d := g_iinc hd rfl hc hp kk
theorem il9 {o0 o1 o2 o3 o4 o5 o6 o7 o8 : Option Value} {rq : List (Option Value)} {x : Int32} (hd : decode cc pc = .ok (.iload 9, 2)) (kk : mGo l G R X own cc nL kc ns Z (pc + 2) (o0 :: o1 :: o2 :: o3 :: o4 :: o5 :: o6 :: o7 :: o8 :: some (.int x) :: rq) (.int x :: rest) d) : mGo l G R X own cc nL kc ns Z pc (o0 :: o1 :: o2 :: o3 :: o4 :: o5 :: o6 :: o7 :: o8 :: some (.int x) :: rq) rest d := g_ild hd rfl kk
theorem al9 {o0 o1 o2 o3 o4 o5 o6 o7 o8 : Option Value} {rq : List (Option Value)} {x : Nat} (hd : decode cc pc = .ok (.aload 9, 2)) (kk : mGo l G R X own cc nL kc ns Z (pc + 2) (o0 :: o1 :: o2 :: o3 :: o4 :: o5 :: o6 :: o7 :: o8 :: some (.ref x) :: rq) (.ref x :: rest) d) : mGo l G R X own cc nL kc ns Z pc (o0 :: o1 :: o2 :: o3 :: o4 :: o5 :: o6 :: o7 :: o8 :: some (.ref x) :: rq) rest d := g_ald hd rfl kk
theorem ll9 {o0 o1 o2 o3 o4 o5 o6 o7 o8 : Option Value} {rq : List (Option Value)} {x : Int64} (hd : decode cc pc = .ok (.lload 9, 2)) (kk : mGo l G R X own cc nL kc ns Z (pc + 2) (o0 :: o1 :: o2 :: o3 :: o4 :: o5 :: o6 :: o7 :: o8 :: some (.long x) :: rq) (.long x :: rest) d) : mGo l G R X own cc nL kc ns Z pc (o0 :: o1 :: o2 :: o3 :: o4 :: o5 :: o6 :: o7 :: o8 :: some (.long x) :: rq) rest d := g_lld hd rfl kk
theorem is9 {o0 o1 o2 o3 o4 o5 o6 o7 o8 : Option Value} {oo : Option Value} {rq : List (Option Value)} {x : Int32} (hd : decode cc pc = .ok (.istore 9, 2)) (hp : mC1 o8 = true) (kk : mGo l G R X own cc nL kc ns Z (pc + 2) (o0 :: o1 :: o2 :: o3 :: o4 :: o5 :: o6 :: o7 :: o8 :: some (.int x) :: rq) rest d) : mGo l G R X own cc nL kc ns Z pc (o0 :: o1 :: o2 :: o3 :: o4 :: o5 :: o6 :: o7 :: o8 :: oo :: rq) (.int x :: rest) d := g_ist hd (by simp only [List.length_cons]; omega) hp kk
theorem as9 {o0 o1 o2 o3 o4 o5 o6 o7 o8 : Option Value} {oo : Option Value} {rq : List (Option Value)} {x : Nat} (hd : decode cc pc = .ok (.astore 9, 2)) (hp : mC1 o8 = true) (kk : mGo l G R X own cc nL kc ns Z (pc + 2) (o0 :: o1 :: o2 :: o3 :: o4 :: o5 :: o6 :: o7 :: o8 :: some (.ref x) :: rq) rest d) : mGo l G R X own cc nL kc ns Z pc (o0 :: o1 :: o2 :: o3 :: o4 :: o5 :: o6 :: o7 :: o8 :: oo :: rq) (.ref x :: rest) d := g_ast hd (by simp only [List.length_cons]; omega) hp kk
theorem ic9 {o0 o1 o2 o3 o4 o5 o6 o7 o8 : Option Value} {rq : List (Option Value)} {nq : Int} {x cq : Int32} (hd : decode cc pc = .ok (.iinc 9 nq, 3)) (hc : Int32.ofInt nq = cq) (hp : mC1 o8 = true) (kk : mGo l G R X own cc nL kc ns Z (pc + 3) (o0 :: o1 :: o2 :: o3 :: o4 :: o5 :: o6 :: o7 :: o8 :: some (.int (x + cq)) :: rq) rest d) : mGo l G R X own cc nL kc ns Z pc (o0 :: o1 :: o2 :: o3 :: o4 :: o5 :: o6 :: o7 :: o8 :: some (.int x) :: rq) rest d := g_iinc hd rfl hc hp kk
theorem il10 {o0 o1 o2 o3 o4 o5 o6 o7 o8 o9 : Option Value} {rq : List (Option Value)} {x : Int32} (hd : decode cc pc = .ok (.iload 10, 2)) (kk : mGo l G R X own cc nL kc ns Z (pc + 2) (o0 :: o1 :: o2 :: o3 :: o4 :: o5 :: o6 :: o7 :: o8 :: o9 :: some (.int x) :: rq) (.int x :: rest) d) : mGo l G R X own cc nL kc ns Z pc (o0 :: o1 :: o2 :: o3 :: o4 :: o5 :: o6 :: o7 :: o8 :: o9 :: some (.int x) :: rq) rest d := g_ild hd rfl kk
theorem al10 {o0 o1 o2 o3 o4 o5 o6 o7 o8 o9 : Option Value} {rq : List (Option Value)} {x : Nat} (hd : decode cc pc = .ok (.aload 10, 2)) (kk : mGo l G R X own cc nL kc ns Z (pc + 2) (o0 :: o1 :: o2 :: o3 :: o4 :: o5 :: o6 :: o7 :: o8 :: o9 :: some (.ref x) :: rq) (.ref x :: rest) d) : mGo l G R X own cc nL kc ns Z pc (o0 :: o1 :: o2 :: o3 :: o4 :: o5 :: o6 :: o7 :: o8 :: o9 :: some (.ref x) :: rq) rest d := g_ald hd rfl kk
theorem ll10 {o0 o1 o2 o3 o4 o5 o6 o7 o8 o9 : Option Value} {rq : List (Option Value)} {x : Int64} (hd : decode cc pc = .ok (.lload 10, 2)) (kk : mGo l G R X own cc nL kc ns Z (pc + 2) (o0 :: o1 :: o2 :: o3 :: o4 :: o5 :: o6 :: o7 :: o8 :: o9 :: some (.long x) :: rq) (.long x :: rest) d) : mGo l G R X own cc nL kc ns Z pc (o0 :: o1 :: o2 :: o3 :: o4 :: o5 :: o6 :: o7 :: o8 :: o9 :: some (.long x) :: rq) rest d := g_lld hd rfl kk
theorem is10 {o0 o1 o2 o3 o4 o5 o6 o7 o8 o9 : Option Value} {oo : Option Value} {rq : List (Option Value)} {x : Int32} (hd : decode cc pc = .ok (.istore 10, 2)) (hp : mC1 o9 = true) (kk : mGo l G R X own cc nL kc ns Z (pc + 2) (o0 :: o1 :: o2 :: o3 :: o4 :: o5 :: o6 :: o7 :: o8 :: o9 :: some (.int x) :: rq) rest d) : mGo l G R X own cc nL kc ns Z pc (o0 :: o1 :: o2 :: o3 :: o4 :: o5 :: o6 :: o7 :: o8 :: o9 :: oo :: rq) (.int x :: rest) d := g_ist hd (by simp only [List.length_cons]; omega) hp kk
theorem as10 {o0 o1 o2 o3 o4 o5 o6 o7 o8 o9 : Option Value} {oo : Option Value} {rq : List (Option Value)} {x : Nat} (hd : decode cc pc = .ok (.astore 10, 2)) (hp : mC1 o9 = true) (kk : mGo l G R X own cc nL kc ns Z (pc + 2) (o0 :: o1 :: o2 :: o3 :: o4 :: o5 :: o6 :: o7 :: o8 :: o9 :: some (.ref x) :: rq) rest d) : mGo l G R X own cc nL kc ns Z pc (o0 :: o1 :: o2 :: o3 :: o4 :: o5 :: o6 :: o7 :: o8 :: o9 :: oo :: rq) (.ref x :: rest) d := g_ast hd (by simp only [List.length_cons]; omega) hp kk
theorem ic10 {o0 o1 o2 o3 o4 o5 o6 o7 o8 o9 : Option Value} {rq : List (Option Value)} {nq : Int} {x cq : Int32} (hd : decode cc pc = .ok (.iinc 10 nq, 3)) (hc : Int32.ofInt nq = cq) (hp : mC1 o9 = true) (kk : mGo l G R X own cc nL kc ns Z (pc + 3) (o0 :: o1 :: o2 :: o3 :: o4 :: o5 :: o6 :: o7 :: o8 :: o9 :: some (.int (x + cq)) :: rq) rest d) : mGo l G R X own cc nL kc ns Z pc (o0 :: o1 :: o2 :: o3 :: o4 :: o5 :: o6 :: o7 :: o8 :: o9 :: some (.int x) :: rq) rest d := g_iinc hd rfl hc hp kk
theorem il11 {o0 o1 o2 o3 o4 o5 o6 o7 o8 o9 o10 : Option Value} {rq : List (Option Value)} {x : Int32} (hd : decode cc pc = .ok (.iload 11, 2)) (kk : mGo l G R X own cc nL kc ns Z (pc + 2) (o0 :: o1 :: o2 :: o3 :: o4 :: o5 :: o6 :: o7 :: o8 :: o9 :: o10 :: some (.int x) :: rq) (.int x :: rest) d) : mGo l G R X own cc nL kc ns Z pc (o0 :: o1 :: o2 :: o3 :: o4 :: o5 :: o6 :: o7 :: o8 :: o9 :: o10 :: some (.int x) :: rq) rest d := g_ild hd rfl kk
theorem al11 {o0 o1 o2 o3 o4 o5 o6 o7 o8 o9 o10 : Option Value} {rq : List (Option Value)} {x : Nat} (hd : decode cc pc = .ok (.aload 11, 2)) (kk : mGo l G R X own cc nL kc ns Z (pc + 2) (o0 :: o1 :: o2 :: o3 :: o4 :: o5 :: o6 :: o7 :: o8 :: o9 :: o10 :: some (.ref x) :: rq) (.ref x :: rest) d) : mGo l G R X own cc nL kc ns Z pc (o0 :: o1 :: o2 :: o3 :: o4 :: o5 :: o6 :: o7 :: o8 :: o9 :: o10 :: some (.ref x) :: rq) rest d := g_ald hd rfl kk
theorem ll11 {o0 o1 o2 o3 o4 o5 o6 o7 o8 o9 o10 : Option Value} {rq : List (Option Value)} {x : Int64} (hd : decode cc pc = .ok (.lload 11, 2)) (kk : mGo l G R X own cc nL kc ns Z (pc + 2) (o0 :: o1 :: o2 :: o3 :: o4 :: o5 :: o6 :: o7 :: o8 :: o9 :: o10 :: some (.long x) :: rq) (.long x :: rest) d) : mGo l G R X own cc nL kc ns Z pc (o0 :: o1 :: o2 :: o3 :: o4 :: o5 :: o6 :: o7 :: o8 :: o9 :: o10 :: some (.long x) :: rq) rest d := g_lld hd rfl kk
theorem is11 {o0 o1 o2 o3 o4 o5 o6 o7 o8 o9 o10 : Option Value} {oo : Option Value} {rq : List (Option Value)} {x : Int32} (hd : decode cc pc = .ok (.istore 11, 2)) (hp : mC1 o10 = true) (kk : mGo l G R X own cc nL kc ns Z (pc + 2) (o0 :: o1 :: o2 :: o3 :: o4 :: o5 :: o6 :: o7 :: o8 :: o9 :: o10 :: some (.int x) :: rq) rest d) : mGo l G R X own cc nL kc ns Z pc (o0 :: o1 :: o2 :: o3 :: o4 :: o5 :: o6 :: o7 :: o8 :: o9 :: o10 :: oo :: rq) (.int x :: rest) d := g_ist hd (by simp only [List.length_cons]; omega) hp kk
theorem as11 {o0 o1 o2 o3 o4 o5 o6 o7 o8 o9 o10 : Option Value} {oo : Option Value} {rq : List (Option Value)} {x : Nat} (hd : decode cc pc = .ok (.astore 11, 2)) (hp : mC1 o10 = true) (kk : mGo l G R X own cc nL kc ns Z (pc + 2) (o0 :: o1 :: o2 :: o3 :: o4 :: o5 :: o6 :: o7 :: o8 :: o9 :: o10 :: some (.ref x) :: rq) rest d) : mGo l G R X own cc nL kc ns Z pc (o0 :: o1 :: o2 :: o3 :: o4 :: o5 :: o6 :: o7 :: o8 :: o9 :: o10 :: oo :: rq) (.ref x :: rest) d := g_ast hd (by simp only [List.length_cons]; omega) hp kk
theorem ic11 {o0 o1 o2 o3 o4 o5 o6 o7 o8 o9 o10 : Option Value} {rq : List (Option Value)} {nq : Int} {x cq : Int32} (hd : decode cc pc = .ok (.iinc 11 nq, 3)) (hc : Int32.ofInt nq = cq) (hp : mC1 o10 = true) (kk : mGo l G R X own cc nL kc ns Z (pc + 3) (o0 :: o1 :: o2 :: o3 :: o4 :: o5 :: o6 :: o7 :: o8 :: o9 :: o10 :: some (.int (x + cq)) :: rq) rest d) : mGo l G R X own cc nL kc ns Z pc (o0 :: o1 :: o2 :: o3 :: o4 :: o5 :: o6 :: o7 :: o8 :: o9 :: o10 :: some (.int x) :: rq) rest d := g_iinc hd rfl hc hp kk
theorem il12 {o0 o1 o2 o3 o4 o5 o6 o7 o8 o9 o10 o11 : Option Value} {rq : List (Option Value)} {x : Int32} (hd : decode cc pc = .ok (.iload 12, 2)) (kk : mGo l G R X own cc nL kc ns Z (pc + 2) (o0 :: o1 :: o2 :: o3 :: o4 :: o5 :: o6 :: o7 :: o8 :: o9 :: o10 :: o11 :: some (.int x) :: rq) (.int x :: rest) d) : mGo l G R X own cc nL kc ns Z pc (o0 :: o1 :: o2 :: o3 :: o4 :: o5 :: o6 :: o7 :: o8 :: o9 :: o10 :: o11 :: some (.int x) :: rq) rest d := g_ild hd rfl kk
theorem al12 {o0 o1 o2 o3 o4 o5 o6 o7 o8 o9 o10 o11 : Option Value} {rq : List (Option Value)} {x : Nat} (hd : decode cc pc = .ok (.aload 12, 2)) (kk : mGo l G R X own cc nL kc ns Z (pc + 2) (o0 :: o1 :: o2 :: o3 :: o4 :: o5 :: o6 :: o7 :: o8 :: o9 :: o10 :: o11 :: some (.ref x) :: rq) (.ref x :: rest) d) : mGo l G R X own cc nL kc ns Z pc (o0 :: o1 :: o2 :: o3 :: o4 :: o5 :: o6 :: o7 :: o8 :: o9 :: o10 :: o11 :: some (.ref x) :: rq) rest d := g_ald hd rfl kk
theorem ll12 {o0 o1 o2 o3 o4 o5 o6 o7 o8 o9 o10 o11 : Option Value} {rq : List (Option Value)} {x : Int64} (hd : decode cc pc = .ok (.lload 12, 2)) (kk : mGo l G R X own cc nL kc ns Z (pc + 2) (o0 :: o1 :: o2 :: o3 :: o4 :: o5 :: o6 :: o7 :: o8 :: o9 :: o10 :: o11 :: some (.long x) :: rq) (.long x :: rest) d) : mGo l G R X own cc nL kc ns Z pc (o0 :: o1 :: o2 :: o3 :: o4 :: o5 :: o6 :: o7 :: o8 :: o9 :: o10 :: o11 :: some (.long x) :: rq) rest d := g_lld hd rfl kk
theorem is12 {o0 o1 o2 o3 o4 o5 o6 o7 o8 o9 o10 o11 : Option Value} {oo : Option Value} {rq : List (Option Value)} {x : Int32} (hd : decode cc pc = .ok (.istore 12, 2)) (hp : mC1 o11 = true) (kk : mGo l G R X own cc nL kc ns Z (pc + 2) (o0 :: o1 :: o2 :: o3 :: o4 :: o5 :: o6 :: o7 :: o8 :: o9 :: o10 :: o11 :: some (.int x) :: rq) rest d) : mGo l G R X own cc nL kc ns Z pc (o0 :: o1 :: o2 :: o3 :: o4 :: o5 :: o6 :: o7 :: o8 :: o9 :: o10 :: o11 :: oo :: rq) (.int x :: rest) d := g_ist hd (by simp only [List.length_cons]; omega) hp kk
theorem as12 {o0 o1 o2 o3 o4 o5 o6 o7 o8 o9 o10 o11 : Option Value} {oo : Option Value} {rq : List (Option Value)} {x : Nat} (hd : decode cc pc = .ok (.astore 12, 2)) (hp : mC1 o11 = true) (kk : mGo l G R X own cc nL kc ns Z (pc + 2) (o0 :: o1 :: o2 :: o3 :: o4 :: o5 :: o6 :: o7 :: o8 :: o9 :: o10 :: o11 :: some (.ref x) :: rq) rest d) : mGo l G R X own cc nL kc ns Z pc (o0 :: o1 :: o2 :: o3 :: o4 :: o5 :: o6 :: o7 :: o8 :: o9 :: o10 :: o11 :: oo :: rq) (.ref x :: rest) d := g_ast hd (by simp only [List.length_cons]; omega) hp kk
theorem ic12 {o0 o1 o2 o3 o4 o5 o6 o7 o8 o9 o10 o11 : Option Value} {rq : List (Option Value)} {nq : Int} {x cq : Int32} (hd : decode cc pc = .ok (.iinc 12 nq, 3)) (hc : Int32.ofInt nq = cq) (hp : mC1 o11 = true) (kk : mGo l G R X own cc nL kc ns Z (pc + 3) (o0 :: o1 :: o2 :: o3 :: o4 :: o5 :: o6 :: o7 :: o8 :: o9 :: o10 :: o11 :: some (.int (x + cq)) :: rq) rest d) : mGo l G R X own cc nL kc ns Z pc (o0 :: o1 :: o2 :: o3 :: o4 :: o5 :: o6 :: o7 :: o8 :: o9 :: o10 :: o11 :: some (.int x) :: rq) rest d := g_iinc hd rfl hc hp kk
theorem il13 {o0 o1 o2 o3 o4 o5 o6 o7 o8 o9 o10 o11 o12 : Option Value} {rq : List (Option Value)} {x : Int32} (hd : decode cc pc = .ok (.iload 13, 2)) (kk : mGo l G R X own cc nL kc ns Z (pc + 2) (o0 :: o1 :: o2 :: o3 :: o4 :: o5 :: o6 :: o7 :: o8 :: o9 :: o10 :: o11 :: o12 :: some (.int x) :: rq) (.int x :: rest) d) : mGo l G R X own cc nL kc ns Z pc (o0 :: o1 :: o2 :: o3 :: o4 :: o5 :: o6 :: o7 :: o8 :: o9 :: o10 :: o11 :: o12 :: some (.int x) :: rq) rest d := g_ild hd rfl kk
theorem al13 {o0 o1 o2 o3 o4 o5 o6 o7 o8 o9 o10 o11 o12 : Option Value} {rq : List (Option Value)} {x : Nat} (hd : decode cc pc = .ok (.aload 13, 2)) (kk : mGo l G R X own cc nL kc ns Z (pc + 2) (o0 :: o1 :: o2 :: o3 :: o4 :: o5 :: o6 :: o7 :: o8 :: o9 :: o10 :: o11 :: o12 :: some (.ref x) :: rq) (.ref x :: rest) d) : mGo l G R X own cc nL kc ns Z pc (o0 :: o1 :: o2 :: o3 :: o4 :: o5 :: o6 :: o7 :: o8 :: o9 :: o10 :: o11 :: o12 :: some (.ref x) :: rq) rest d := g_ald hd rfl kk
theorem ll13 {o0 o1 o2 o3 o4 o5 o6 o7 o8 o9 o10 o11 o12 : Option Value} {rq : List (Option Value)} {x : Int64} (hd : decode cc pc = .ok (.lload 13, 2)) (kk : mGo l G R X own cc nL kc ns Z (pc + 2) (o0 :: o1 :: o2 :: o3 :: o4 :: o5 :: o6 :: o7 :: o8 :: o9 :: o10 :: o11 :: o12 :: some (.long x) :: rq) (.long x :: rest) d) : mGo l G R X own cc nL kc ns Z pc (o0 :: o1 :: o2 :: o3 :: o4 :: o5 :: o6 :: o7 :: o8 :: o9 :: o10 :: o11 :: o12 :: some (.long x) :: rq) rest d := g_lld hd rfl kk
theorem is13 {o0 o1 o2 o3 o4 o5 o6 o7 o8 o9 o10 o11 o12 : Option Value} {oo : Option Value} {rq : List (Option Value)} {x : Int32} (hd : decode cc pc = .ok (.istore 13, 2)) (hp : mC1 o12 = true) (kk : mGo l G R X own cc nL kc ns Z (pc + 2) (o0 :: o1 :: o2 :: o3 :: o4 :: o5 :: o6 :: o7 :: o8 :: o9 :: o10 :: o11 :: o12 :: some (.int x) :: rq) rest d) : mGo l G R X own cc nL kc ns Z pc (o0 :: o1 :: o2 :: o3 :: o4 :: o5 :: o6 :: o7 :: o8 :: o9 :: o10 :: o11 :: o12 :: oo :: rq) (.int x :: rest) d := g_ist hd (by simp only [List.length_cons]; omega) hp kk
theorem as13 {o0 o1 o2 o3 o4 o5 o6 o7 o8 o9 o10 o11 o12 : Option Value} {oo : Option Value} {rq : List (Option Value)} {x : Nat} (hd : decode cc pc = .ok (.astore 13, 2)) (hp : mC1 o12 = true) (kk : mGo l G R X own cc nL kc ns Z (pc + 2) (o0 :: o1 :: o2 :: o3 :: o4 :: o5 :: o6 :: o7 :: o8 :: o9 :: o10 :: o11 :: o12 :: some (.ref x) :: rq) rest d) : mGo l G R X own cc nL kc ns Z pc (o0 :: o1 :: o2 :: o3 :: o4 :: o5 :: o6 :: o7 :: o8 :: o9 :: o10 :: o11 :: o12 :: oo :: rq) (.ref x :: rest) d := g_ast hd (by simp only [List.length_cons]; omega) hp kk
theorem ic13 {o0 o1 o2 o3 o4 o5 o6 o7 o8 o9 o10 o11 o12 : Option Value} {rq : List (Option Value)} {nq : Int} {x cq : Int32} (hd : decode cc pc = .ok (.iinc 13 nq, 3)) (hc : Int32.ofInt nq = cq) (hp : mC1 o12 = true) (kk : mGo l G R X own cc nL kc ns Z (pc + 3) (o0 :: o1 :: o2 :: o3 :: o4 :: o5 :: o6 :: o7 :: o8 :: o9 :: o10 :: o11 :: o12 :: some (.int (x + cq)) :: rq) rest d) : mGo l G R X own cc nL kc ns Z pc (o0 :: o1 :: o2 :: o3 :: o4 :: o5 :: o6 :: o7 :: o8 :: o9 :: o10 :: o11 :: o12 :: some (.int x) :: rq) rest d := g_iinc hd rfl hc hp kk
end
theorem kcm1 : Int32.ofInt (-1) = (-1) := by decide +kernel
theorem kc0 : Int32.ofInt (0) = 0 := by decide +kernel
theorem kc1 : Int32.ofInt (1) = 1 := by decide +kernel
theorem kc2 : Int32.ofInt (2) = 2 := by decide +kernel
theorem kc3 : Int32.ofInt (3) = 3 := by decide +kernel
theorem kc4 : Int32.ofInt (4) = 4 := by decide +kernel
theorem kc5 : Int32.ofInt (5) = 5 := by decide +kernel
theorem kb6 : (Int8.ofInt (6)).toInt32 = 6 := by decide +kernel
theorem kc6 : Int32.ofInt (6) = 6 := by decide +kernel
theorem kb7 : (Int8.ofInt (7)).toInt32 = 7 := by decide +kernel
theorem kc7 : Int32.ofInt (7) = 7 := by decide +kernel
theorem kb8 : (Int8.ofInt (8)).toInt32 = 8 := by decide +kernel
theorem kc8 : Int32.ofInt (8) = 8 := by decide +kernel
theorem kb9 : (Int8.ofInt (9)).toInt32 = 9 := by decide +kernel
theorem kc9 : Int32.ofInt (9) = 9 := by decide +kernel
theorem kb10 : (Int8.ofInt (10)).toInt32 = 10 := by decide +kernel
theorem kc10 : Int32.ofInt (10) = 10 := by decide +kernel
theorem kb11 : (Int8.ofInt (11)).toInt32 = 11 := by decide +kernel
theorem kc11 : Int32.ofInt (11) = 11 := by decide +kernel
theorem kb12 : (Int8.ofInt (12)).toInt32 = 12 := by decide +kernel
theorem kc12 : Int32.ofInt (12) = 12 := by decide +kernel
theorem kb14 : (Int8.ofInt (14)).toInt32 = 14 := by decide +kernel
theorem kc14 : Int32.ofInt (14) = 14 := by decide +kernel
theorem kb15 : (Int8.ofInt (15)).toInt32 = 15 := by decide +kernel
theorem kc15 : Int32.ofInt (15) = 15 := by decide +kernel
theorem kb16 : (Int8.ofInt (16)).toInt32 = 16 := by decide +kernel
theorem kc16 : Int32.ofInt (16) = 16 := by decide +kernel
theorem kb24 : (Int8.ofInt (24)).toInt32 = 24 := by decide +kernel
theorem kc24 : Int32.ofInt (24) = 24 := by decide +kernel
theorem kb31 : (Int8.ofInt (31)).toInt32 = 31 := by decide +kernel
theorem kc31 : Int32.ofInt (31) = 31 := by decide +kernel
theorem kb32 : (Int8.ofInt (32)).toInt32 = 32 := by decide +kernel
theorem kc32 : Int32.ofInt (32) = 32 := by decide +kernel
theorem kb39 : (Int8.ofInt (39)).toInt32 = 39 := by decide +kernel
theorem kc39 : Int32.ofInt (39) = 39 := by decide +kernel
theorem kb40 : (Int8.ofInt (40)).toInt32 = 40 := by decide +kernel
theorem kc40 : Int32.ofInt (40) = 40 := by decide +kernel
theorem kb46 : (Int8.ofInt (46)).toInt32 = 46 := by decide +kernel
theorem kc46 : Int32.ofInt (46) = 46 := by decide +kernel
theorem kb48 : (Int8.ofInt (48)).toInt32 = 48 := by decide +kernel
theorem kc48 : Int32.ofInt (48) = 48 := by decide +kernel
theorem kb49 : (Int8.ofInt (49)).toInt32 = 49 := by decide +kernel
theorem kc49 : Int32.ofInt (49) = 49 := by decide +kernel
theorem kb57 : (Int8.ofInt (57)).toInt32 = 57 := by decide +kernel
theorem kc57 : Int32.ofInt (57) = 57 := by decide +kernel
theorem kb64 : (Int8.ofInt (64)).toInt32 = 64 := by decide +kernel
theorem kc64 : Int32.ofInt (64) = 64 := by decide +kernel
theorem kb66 : (Int8.ofInt (66)).toInt32 = 66 := by decide +kernel
theorem kc66 : Int32.ofInt (66) = 66 := by decide +kernel
theorem kb69 : (Int8.ofInt (69)).toInt32 = 69 := by decide +kernel
theorem kc69 : Int32.ofInt (69) = 69 := by decide +kernel
theorem kb79 : (Int8.ofInt (79)).toInt32 = 79 := by decide +kernel
theorem kc79 : Int32.ofInt (79) = 79 := by decide +kernel
theorem kb93 : (Int8.ofInt (93)).toInt32 = 93 := by decide +kernel
theorem kc93 : Int32.ofInt (93) = 93 := by decide +kernel
theorem kb95 : (Int8.ofInt (95)).toInt32 = 95 := by decide +kernel
theorem kc95 : Int32.ofInt (95) = 95 := by decide +kernel
theorem kb96 : (Int8.ofInt (96)).toInt32 = 96 := by decide +kernel
theorem kc96 : Int32.ofInt (96) = 96 := by decide +kernel
theorem kb98 : (Int8.ofInt (98)).toInt32 = 98 := by decide +kernel
theorem kc98 : Int32.ofInt (98) = 98 := by decide +kernel
theorem kb110 : (Int8.ofInt (110)).toInt32 = 110 := by decide +kernel
theorem kc110 : Int32.ofInt (110) = 110 := by decide +kernel
theorem kb111 : (Int8.ofInt (111)).toInt32 = 111 := by decide +kernel
theorem kc111 : Int32.ofInt (111) = 111 := by decide +kernel
theorem kb114 : (Int8.ofInt (114)).toInt32 = 114 := by decide +kernel
theorem kc114 : Int32.ofInt (114) = 114 := by decide +kernel
theorem kb120 : (Int8.ofInt (120)).toInt32 = 120 := by decide +kernel
theorem kc120 : Int32.ofInt (120) = 120 := by decide +kernel
theorem kb126 : (Int8.ofInt (126)).toInt32 = 126 := by decide +kernel
theorem kc126 : Int32.ofInt (126) = 126 := by decide +kernel
theorem kbm3 : (Int8.ofInt (-3)).toInt32 = (-3) := by decide +kernel
theorem kcm3 : Int32.ofInt (-3) = (-3) := by decide +kernel
theorem kbm48 : (Int8.ofInt (-48)).toInt32 = (-48) := by decide +kernel
theorem kcm48 : Int32.ofInt (-48) = (-48) := by decide +kernel
theorem kbm20 : (Int8.ofInt (-20)).toInt32 = (-20) := by decide +kernel
theorem kcm20 : Int32.ofInt (-20) = (-20) := by decide +kernel
theorem kbm2 : (Int8.ofInt (-2)).toInt32 = (-2) := by decide +kernel
theorem kcm2 : Int32.ofInt (-2) = (-2) := by decide +kernel
theorem kbm4 : (Int8.ofInt (-4)).toInt32 = (-4) := by decide +kernel
theorem kcm4 : Int32.ofInt (-4) = (-4) := by decide +kernel
end
section
theorem mP_at {G : mG} {Z : mZ} {d : mD} {a : Nat} {e : va_E} (h : a ∈ Z.1) (he : wE G Z d a = e) : ∃ k : Nat, (mP G Z d)[k]? = some (a, e) := by
  obtain ⟨k, hk⟩ := va_pl_get (X := []) (f := wE G Z d) h
  exact ⟨k, by rw [← he]; exact hk⟩
theorem mP_set {A : Nat → Prop} {G : mG} {Z Z' : mZ} {d d' : mD} {a k : Nat} {e e0 : va_E} (hD : va_D A (mP G Z d)) (h : a ∈ Z.1) (hk : (mP G Z d)[k]? = some (a, e0)) (he0 : wE G Z d a = e0) (hZ : Z'.1 = Z.1) (ha : wE G Z' d' a = e) (hb : ∀ b, b ≠ a → wE G Z' d' b = wE G Z d b) : (mP G Z d).set k (a, e) = mP G Z' d' := by
  subst he0
  have h1 := va_pl_set (X := []) (e := e) hD h hk
  have h2 : (mP G Z d).set k (a, e) = va_pl Z.1 (va_up (wE G Z d) a e) := h1
  rw [h2]
  show _ = va_pl Z'.1 (wE G Z' d')
  rw [hZ]
  refine va_pl_congr fun b => ?_
  by_cases hba : b = a
  · subst hba
    rw [ha]
    simp [va_up]
  · rw [hb b hba]
    simp [va_up, hba]
section
variable {l : Launch} {G : mG} {R : Room} {X : mF} {own : String} {cc : ByteArray} {nL kc ns : Nat} {Z : mZ} {pc : Nat} {lv : List (Option Value)} {rest : List Value} {d : mD}
theorem g_get {ref C : String} {T : u_T} {N ci ix fk a : Nat} {fs : List Value} {v : Value} (hin : ∀ w ∈ u_ws C T N, w ∈ AW) (hc : vwCl[ci]? = some (C, T, N)) (hk : fk < N) (hlink : Cond.fieldLink own ix ref (T fk).2.1 (T fk).2.2.1 ∈ AW) (href : (T fk).1 = ref) (hm : a ∈ Z.1) (he : wE G Z d a = .inr (ci, fs)) (hv : fs[fk]? = some v) (hd : decode cc pc = .ok (.getfield ix, 3))
    (kk : mGo l G R X own cc nL kc ns Z (pc + 3) lv (v :: rest) d) : mGo l G R X own cc nL kc ns Z pc lv (.ref a :: rest) d := by
  intro C9 H locs ls hW hL
  obtain ⟨k9, hk9⟩ := mP_at hm he
  obtain ⟨hx, hb, hml, hown, hA, hN, hK, hO, hq⟩ := id C9
  exact va_get hx hb hA hin hown hK hW.1 k9 hk9 hc fk hk (hA _ hlink) (by rw [href]; exact fun _ h => h) hv hd (kk C9 H locs ls hW hL)
theorem g_getN {ref C : String} {T : u_T} {N ci ix fk a : Nat} {fs : List Value} {v : Value} (hin : ∀ w ∈ u_ws C T N, w ∈ AW) (hc : vwCl[ci]? = some (C, T, N)) (hk : fk < N) (hlink : Cond.fieldLinkNest own ix ref (T fk).2.1 (T fk).2.2.1 "MovedBlocks" ∈ NW) (href : (T fk).1 = ref) (hm : a ∈ Z.1) (he : wE G Z d a = .inr (ci, fs)) (hv : fs[fk]? = some v) (hd : decode cc pc = .ok (.getfield ix, 3))
    (kk : mGo l G R X own cc nL kc ns Z (pc + 3) lv (v :: rest) d) : mGo l G R X own cc nL kc ns Z pc lv (.ref a :: rest) d := by
  intro C9 H locs ls hW hL
  obtain ⟨k9, hk9⟩ := mP_at hm he
  obtain ⟨hx, hb, hml, hown, hA, hN, hK, hO, hq⟩ := id C9
  exact va_getN hx hb hA hin hown hK hW.1 k9 hk9 hc fk hk (va_Nw.use rfl (hN _ hlink)) (by rw [href]; exact fun _ h => h) hv hd (kk C9 H locs ls hW hL)
theorem g_put {ref C : String} {T : u_T} {tyq : Nat → FieldType} {N ci ix fk a : Nat} {fs : List Value} {v : Value} {ty : FieldType} {Z' : mZ} {d' : mD} (hin : ∀ w ∈ u_ws C T N, w ∈ AW) (hty : ∀ k, k < N → parseFieldDescriptor (T k).2.2.1 = some (tyq k)) (hnm : ∀ a, a < N → ∀ b, b < N → a ≠ b → (T a).2.1 ≠ (T b).2.1) (hc : vwCl[ci]? = some (C, T, N)) (hk : fk < N) (hlink : Cond.fieldLink own ix ref (T fk).2.1 (T fk).2.2.1 ∈ AW) (href : (T fk).1 = ref) (hfin : (T fk).2.2.2 = false) (hpd : parseFieldDescriptor (T fk).2.2.1 = some ty) (hn : narrow ty v = v) (hfit : fits ty v = true) (hl : fk < fs.length)
    (hm : a ∈ Z.1) (he : wE G Z d a = .inr (ci, fs)) (hZ : Z'.1 = Z.1) (ha : wE G Z' d' a = .inr (ci, fs.set fk v)) (hb' : ∀ b, b ≠ a → wE G Z' d' b = wE G Z d b) (hd : decode cc pc = .ok (.putfield ix, 3))
    (kk : mGo l G R X own cc nL kc ns Z' (pc + 3) lv rest d') : mGo l G R X own cc nL kc ns Z pc lv (v :: .ref a :: rest) d := by
  intro C9 H locs ls hW hL
  obtain ⟨k9, hk9⟩ := mP_at hm he
  obtain ⟨hx, hb, hml, hown, hA, hN, hK, hO, hq⟩ := id C9
  refine va_put hx hb hA hin tyq hty hnm hown hK hW.1 hW.2.1 hW.2.2 k9 hk9 hc fk hk (hA _ hlink) (by rw [href]; exact fun _ h => h) hfin hpd hn hfit hl hd (fun H1 locs1 hP1 hD1 hS1 => ?_)
  have e9 := mP_set (Z' := Z') (d' := d') hW.2.1 hm hk9 he hZ ha hb'
  rw [e9] at hP1 hD1
  exact kk C9 H1 locs1 ls ⟨hP1, hD1, hS1⟩ hL
theorem g_putN {ref C : String} {T : u_T} {tyq : Nat → FieldType} {N ci ix fk a : Nat} {fs : List Value} {v : Value} {ty : FieldType} {Z' : mZ} {d' : mD} (hin : ∀ w ∈ u_ws C T N, w ∈ AW) (hty : ∀ k, k < N → parseFieldDescriptor (T k).2.2.1 = some (tyq k)) (hnm : ∀ a, a < N → ∀ b, b < N → a ≠ b → (T a).2.1 ≠ (T b).2.1) (hc : vwCl[ci]? = some (C, T, N)) (hk : fk < N) (hlink : Cond.fieldLinkNest own ix ref (T fk).2.1 (T fk).2.2.1 "MovedBlocks" ∈ NW) (href : (T fk).1 = ref) (hfin : (T fk).2.2.2 = false) (hpd : parseFieldDescriptor (T fk).2.2.1 = some ty) (hn : narrow ty v = v) (hfit : fits ty v = true) (hl : fk < fs.length)
    (hm : a ∈ Z.1) (he : wE G Z d a = .inr (ci, fs)) (hZ : Z'.1 = Z.1) (ha : wE G Z' d' a = .inr (ci, fs.set fk v)) (hb' : ∀ b, b ≠ a → wE G Z' d' b = wE G Z d b) (hd : decode cc pc = .ok (.putfield ix, 3))
    (kk : mGo l G R X own cc nL kc ns Z' (pc + 3) lv rest d') : mGo l G R X own cc nL kc ns Z pc lv (v :: .ref a :: rest) d := by
  intro C9 H locs ls hW hL
  obtain ⟨k9, hk9⟩ := mP_at hm he
  obtain ⟨hx, hb, hml, hown, hA, hN, hK, hO, hq⟩ := id C9
  refine va_putN hx hb hA hin tyq hty hnm hown hK hW.1 hW.2.1 hW.2.2 k9 hk9 hc fk hk (va_Nw.use rfl (hN _ hlink)) (by rw [href]; exact fun _ h => h) hfin hpd hn hfit hl hd (fun H1 locs1 hP1 hD1 hS1 => ?_)
  have e9 := mP_set (Z' := Z') (d' := d') hW.2.1 hm hk9 he hZ ha hb'
  rw [e9] at hP1 hD1
  exact kk C9 H1 locs1 ls ⟨hP1, hD1, hS1⟩ hL
theorem wE_ar {a n : Nat} (h : ar Z 10 a n) : wE G Z d a = .inl (G.2.1, n, .inl (gA d a)) := by simp [wE, h.2.1, h.2.2]
theorem wE_arJ {a n : Nat} (h : ar Z 11 a n) : wE G Z d a = .inl (G.2.2.1, n, .inr (.inl (gJ d a))) := by simp [wE, h.2.1, h.2.2]
theorem wE_arS {a n : Nat} (h : ar Z 12 a n) : wE G Z d a = .inl (G.2.2.2.1, n, .inr (.inr (.inr (.inr (gO d a))))) := by simp [wE, h.2.1, h.2.2]
theorem wE_arT {a n : Nat} (h : ar Z 13 a n) : wE G Z d a = .inl (G.2.2.2.2.1, n, .inr (.inr (.inr (.inr (gO d a))))) := by simp [wE, h.2.1, h.2.2]
theorem wE_tA {a b : Nat} {f : Nat → Int32} (hb : b ≠ a) : wE G Z (tA d a f) b = wE G Z d b := by
  have h1 : gA (tA d a f) b = gA d b := by simp [gA, tA, hb]
  have h2 : ∀ g, gI (tA d a f) g b = gI d g b := fun g => rfl
  have h3 : gJ (tA d a f) b = gJ d b := rfl
  have h4 : gO (tA d a f) b = gO d b := rfl
  simp only [wE, h1, h2, h3, h4]
theorem wE_tJ {a b : Nat} {f : Nat → Int64} (hb : b ≠ a) : wE G Z (tJ d a f) b = wE G Z d b := by
  have h1 : gJ (tJ d a f) b = gJ d b := by simp [gJ, tJ, hb]
  have h2 : ∀ g, gI (tJ d a f) g b = gI d g b := fun g => rfl
  have h3 : gA (tJ d a f) b = gA d b := rfl
  have h4 : gO (tJ d a f) b = gO d b := rfl
  simp only [wE, h1, h2, h3, h4]
theorem wE_tO {a b : Nat} {f : Nat → Option Nat} (hb : b ≠ a) : wE G Z (tO d a f) b = wE G Z d b := by
  have h1 : gO (tO d a f) b = gO d b := by simp [gO, tO, hb]
  have h2 : ∀ g, gI (tO d a f) g b = gI d g b := fun g => rfl
  have h3 : gJ (tO d a f) b = gJ d b := rfl
  have h4 : gA (tO d a f) b = gA d b := rfl
  simp only [wE, h1, h2, h3, h4]
theorem wE_sI {a b fn : Nat} {v : Int32} (hb : b ≠ a) : wE G Z (sI d fn a v) b = wE G Z d b := by
  have h2 : ∀ g, gI (sI d fn a v) g b = gI d g b := fun g => by simp [gI, sI, hb]
  have h3 : gJ (sI d fn a v) b = gJ d b := rfl
  have h4 : gA (sI d fn a v) b = gA d b := rfl
  have h5 : gO (sI d fn a v) b = gO d b := rfl
  simp only [wE, h2, h3, h4, h5]
theorem gA_tA (d : mD) (a b : Nat) (f : Nat → Int32) : gA (tA d a f) b = if b = a then f else gA d b := rfl
theorem gJ_tJ (d : mD) (a b : Nat) (f : Nat → Int64) : gJ (tJ d a f) b = if b = a then f else gJ d b := rfl
theorem gO_tO (d : mD) (a b : Nat) (f : Nat → Option Nat) : gO (tO d a f) b = if b = a then f else gO d b := rfl
theorem gI_sI (d : mD) (f g a b : Nat) (v : Int32) : gI (sI d f a v) g b = if g = f ∧ b = a then v else gI d g b := rfl
theorem gI_tA (d : mD) (a : Nat) (f : Nat → Int32) (g b : Nat) : gI (tA d a f) g b = gI d g b := rfl
theorem gI_tJ (d : mD) (a : Nat) (f : Nat → Int64) (g b : Nat) : gI (tJ d a f) g b = gI d g b := rfl
theorem gI_tO (d : mD) (a : Nat) (f : Nat → Option Nat) (g b : Nat) : gI (tO d a f) g b = gI d g b := rfl
theorem gA_sI (d : mD) (f a b : Nat) (v : Int32) : gA (sI d f a v) b = gA d b := rfl
theorem gJ_sI (d : mD) (f a b : Nat) (v : Int32) : gJ (sI d f a v) b = gJ d b := rfl
theorem gO_sI (d : mD) (f a b : Nat) (v : Int32) : gO (sI d f a v) b = gO d b := rfl
theorem gJ_tA (d : mD) (a b : Nat) (f : Nat → Int32) : gJ (tA d a f) b = gJ d b := rfl
theorem gO_tA (d : mD) (a b : Nat) (f : Nat → Int32) : gO (tA d a f) b = gO d b := rfl
theorem gA_tJ (d : mD) (a b : Nat) (f : Nat → Int64) : gA (tJ d a f) b = gA d b := rfl
theorem gO_tJ (d : mD) (a b : Nat) (f : Nat → Int64) : gO (tJ d a f) b = gO d b := rfl
theorem gA_tO (d : mD) (a b : Nat) (f : Nat → Option Nat) : gA (tO d a f) b = gA d b := rfl
theorem gJ_tO (d : mD) (a b : Nat) (f : Nat → Option Nat) : gJ (tO d a f) b = gJ d b := rfl
/-- a place of an int array, by its number -/
theorem g_iald {a n : Nat} {i : Int32} (j : Nat) (h : ar Z 10 a n) (hj : j < n) (hi : i = nI j) (hn : n < 2 ^ 31) (hd : decode cc pc = .ok (.iaload, 1))
    (kk : mGo l G R X own cc nL kc ns Z (pc + 1) lv (.int (gA d a j) :: rest) d) : mGo l G R X own cc nL kc ns Z pc lv (.int i :: .ref a :: rest) d := by
  intro C9 H locs ls hW hL
  obtain ⟨k9, hk9⟩ := mP_at (d := d) h.1 (wE_ar (G := G) h)
  obtain ⟨hx, hb, hml, hown, hA, hN, hK, hO, hq⟩ := id C9
  subst hi
  refine va_iald hx hb hK hW.1 k9 0 hk9 rfl (vp_in_nI hj hn) hd ?_
  rw [nI_clamp (Nat.lt_trans hj hn)]
  exact kk C9 H locs ls hW hL
theorem g_lald {a n : Nat} {i : Int32} (j : Nat) (h : ar Z 11 a n) (hj : j < n) (hi : i = nI j) (hn : n < 2 ^ 31) (hd : decode cc pc = .ok (.laload, 1))
    (kk : mGo l G R X own cc nL kc ns Z (pc + 1) lv (.long (gJ d a j) :: rest) d) : mGo l G R X own cc nL kc ns Z pc lv (.int i :: .ref a :: rest) d := by
  intro C9 H locs ls hW hL
  obtain ⟨k9, hk9⟩ := mP_at (d := d) h.1 (wE_arJ (G := G) h)
  obtain ⟨hx, hb, hml, hown, hA, hN, hK, hO, hq⟩ := id C9
  subst hi
  refine va_lald hx hb hK hW.1 k9 1 hk9 rfl (vp_in_nI hj hn) hd ?_
  rw [nI_clamp (Nat.lt_trans hj hn)]
  exact kk C9 H locs ls hW hL
theorem g_iast {a n : Nat} {i x : Int32} (j : Nat) (h : ar Z 10 a n) (hj : j < n) (hi : i = nI j) (hn : n < 2 ^ 31) (hd : decode cc pc = .ok (.iastore, 1))
    (kk : mGo l G R X own cc nL kc ns Z (pc + 1) lv rest (tA d a (upd (gA d a) j x))) : mGo l G R X own cc nL kc ns Z pc lv (.int x :: .int i :: .ref a :: rest) d := by
  intro C9 H locs ls hW hL
  obtain ⟨k9, hk9⟩ := mP_at (d := d) h.1 (wE_ar (G := G) h)
  obtain ⟨hx, hb, hml, hown, hA, hN, hK, hO, hq⟩ := id C9
  subst hi
  refine va_iast hx hb hK hW.1 hW.2.1 hW.2.2 k9 0 hk9 rfl (vp_in_nI hj hn) hd (fun H1 locs1 hP1 hD1 hS1 => ?_)
  rw [nI_clamp (Nat.lt_trans hj hn)] at hP1 hD1
  have e9 := mP_set (Z' := Z) (d' := tA d a (upd (gA d a) j x)) hW.2.1 h.1 hk9 (wE_ar h) rfl (wE_ar h) (fun b hb => wE_tA hb)
  rw [gA_tA, if_pos rfl] at e9
  rw [e9] at hP1 hD1
  exact kk C9 H1 locs1 ls ⟨hP1, hD1, hS1⟩ hL
theorem g_last {a n : Nat} {i : Int32} {x : Int64} (j : Nat) (h : ar Z 11 a n) (hj : j < n) (hi : i = nI j) (hn : n < 2 ^ 31) (hd : decode cc pc = .ok (.lastore, 1))
    (kk : mGo l G R X own cc nL kc ns Z (pc + 1) lv rest (tJ d a (vp_updL (gJ d a) j x))) : mGo l G R X own cc nL kc ns Z pc lv (.long x :: .int i :: .ref a :: rest) d := by
  intro C9 H locs ls hW hL
  obtain ⟨k9, hk9⟩ := mP_at (d := d) h.1 (wE_arJ (G := G) h)
  obtain ⟨hx, hb, hml, hown, hA, hN, hK, hO, hq⟩ := id C9
  subst hi
  refine va_last hx hb hK hW.1 hW.2.1 hW.2.2 k9 1 hk9 rfl (vp_in_nI hj hn) hd (fun H1 locs1 hP1 hD1 hS1 => ?_)
  rw [nI_clamp (Nat.lt_trans hj hn)] at hP1 hD1
  have e9 := mP_set (Z' := Z) (d' := tJ d a (vp_updL (gJ d a) j x)) hW.2.1 h.1 hk9 (wE_arJ h) rfl (wE_arJ h) (fun b hb => wE_tJ hb)
  rw [gJ_tJ, if_pos rfl] at e9
  rw [e9] at hP1 hD1
  exact kk C9 H1 locs1 ls ⟨hP1, hD1, hS1⟩ hL
theorem g_aldS {a n b : Nat} {i : Int32} (j : Nat) (h : ar Z 12 a n) (hj : j < n) (hi : i = nI j) (hn : n < 2 ^ 31) (hv : gO d a j = some b) (hd : decode cc pc = .ok (.aaload, 1))
    (kk : mGo l G R X own cc nL kc ns Z (pc + 1) lv (.ref b :: rest) d) : mGo l G R X own cc nL kc ns Z pc lv (.int i :: .ref a :: rest) d := by
  intro C9 H locs ls hW hL
  obtain ⟨k9, hk9⟩ := mP_at (d := d) h.1 (wE_arS (G := G) h)
  obtain ⟨hx, hb, hml, hown, hA, hN, hK, hO, hq⟩ := id C9
  subst hi
  refine va_aldq hx hb hK hW.1 k9 2 hk9 rfl (vp_in_nI hj hn) hd ?_
  rw [nI_clamp (Nat.lt_trans hj hn), hv]
  exact kk C9 H locs ls hW hL
theorem g_aldT {a n b : Nat} {i : Int32} (j : Nat) (h : ar Z 13 a n) (hj : j < n) (hi : i = nI j) (hn : n < 2 ^ 31) (hv : gO d a j = some b) (hd : decode cc pc = .ok (.aaload, 1))
    (kk : mGo l G R X own cc nL kc ns Z (pc + 1) lv (.ref b :: rest) d) : mGo l G R X own cc nL kc ns Z pc lv (.int i :: .ref a :: rest) d := by
  intro C9 H locs ls hW hL
  obtain ⟨k9, hk9⟩ := mP_at (d := d) h.1 (wE_arT (G := G) h)
  obtain ⟨hx, hb, hml, hown, hA, hN, hK, hO, hq⟩ := id C9
  subst hi
  refine va_aldq hx hb hK hW.1 k9 3 hk9 rfl (vp_in_nI hj hn) hd ?_
  rw [nI_clamp (Nat.lt_trans hj hn), hv]
  exact kk C9 H locs ls hW hL
theorem wE_ob3 {a : Nat} (h : ob Z 3 a) : wE G Z d a = .inr (3, [va_rf (rf Z 96 a), va_rf (rf Z 97 a), .int (gI d 98 a), .int (gI d 99 a)]) := by simp [wE, h.2]
theorem wE_ob5 {a : Nat} (h : ob Z 5 a) : wE G Z d a = .inr (5, [va_rf (rf Z 160 a), .int (gI d 161 a), .int (gI d 162 a), .int (gI d 163 a)]) := by simp [wE, h.2]
theorem g_astS {a n b : Nat} {i : Int32} (j : Nat) (h : ar Z 12 a n) (hj : j < n) (hi : i = nI j) (hn : n < 2 ^ 31) (hv : ob Z 3 b) (hd : decode cc pc = .ok (.aastore, 1))
    (kk : mGo l G R X own cc nL kc ns Z (pc + 1) lv rest (tO d a (va_up (gO d a) j (some b)))) : mGo l G R X own cc nL kc ns Z pc lv (.ref b :: .int i :: .ref a :: rest) d := by
  intro C9 H locs ls hW hL
  obtain ⟨k9, hk9⟩ := mP_at (d := d) h.1 (wE_arS (G := G) h)
  obtain ⟨k8, hk8⟩ := mP_at (d := d) hv.1 (wE_ob3 (G := G) hv)
  obtain ⟨hx, hb, hml, hown, hA, hN, hK, hO, hq⟩ := id C9
  subst hi
  refine va_astq hx hb hK hW.1 hW.2.1 hW.2.2 k9 2 k8 3 hk9 (r := (RX3, TX3, 4)) rfl hk8 rfl (vp_in_nI hj hn) hd (fun H1 locs1 hP1 hD1 hS1 => ?_)
  rw [nI_clamp (Nat.lt_trans hj hn)] at hP1 hD1
  have e9 := mP_set (Z' := Z) (d' := tO d a (va_up (gO d a) j (some b))) hW.2.1 h.1 hk9 (wE_arS h) rfl (wE_arS h) (fun b hb => wE_tO hb)
  rw [gO_tO, if_pos rfl] at e9
  rw [e9] at hP1 hD1
  exact kk C9 H1 locs1 ls ⟨hP1, hD1, hS1⟩ hL
theorem g_astT {a n b : Nat} {i : Int32} (j : Nat) (h : ar Z 13 a n) (hj : j < n) (hi : i = nI j) (hn : n < 2 ^ 31) (hv : ob Z 5 b) (hd : decode cc pc = .ok (.aastore, 1))
    (kk : mGo l G R X own cc nL kc ns Z (pc + 1) lv rest (tO d a (va_up (gO d a) j (some b)))) : mGo l G R X own cc nL kc ns Z pc lv (.ref b :: .int i :: .ref a :: rest) d := by
  intro C9 H locs ls hW hL
  obtain ⟨k9, hk9⟩ := mP_at (d := d) h.1 (wE_arT (G := G) h)
  obtain ⟨k8, hk8⟩ := mP_at (d := d) hv.1 (wE_ob5 (G := G) hv)
  obtain ⟨hx, hb, hml, hown, hA, hN, hK, hO, hq⟩ := id C9
  subst hi
  refine va_astq hx hb hK hW.1 hW.2.1 hW.2.2 k9 3 k8 5 hk9 (r := (RX5, TX5, 4)) rfl hk8 rfl (vp_in_nI hj hn) hd (fun H1 locs1 hP1 hD1 hS1 => ?_)
  rw [nI_clamp (Nat.lt_trans hj hn)] at hP1 hD1
  have e9 := mP_set (Z' := Z) (d' := tO d a (va_up (gO d a) j (some b))) hW.2.1 h.1 hk9 (wE_arT h) rfl (wE_arT h) (fun b hb => wE_tO hb)
  rw [gO_tO, if_pos rfl] at e9
  rw [e9] at hP1 hD1
  exact kk C9 H1 locs1 ls ⟨hP1, hD1, hS1⟩ hL
/-- the class's own order of moves -/
theorem g_ordS {ix : Nat} (hlink : Cond.fieldLink own ix "MovedBlocks" "ORDER" "[I" ∈ AW) (hd : decode cc pc = .ok (.getstatic ix, 3))
    (kk : mGo l G R X own cc nL kc ns Z (pc + 3) lv (.ref G.2.2.2.2.2 :: rest) d) : mGo l G R X own cc nL kc ns Z pc lv rest d := by
  intro C9 H locs ls hW hL
  obtain ⟨hx, hb, hml, hown, hA, hN, hK, hO, hq⟩ := id C9
  exact va_gets hx hb hO.1 hW.2.2 hown (hA _ hlink) (fun _ h => h) hd (kk C9 H locs ls hW hL)
theorem g_ordN {ix : Nat} (hlink : Cond.fieldLinkNest own ix "MovedBlocks" "ORDER" "[I" "MovedBlocks" ∈ NW) (hd : decode cc pc = .ok (.getstatic ix, 3))
    (kk : mGo l G R X own cc nL kc ns Z (pc + 3) lv (.ref G.2.2.2.2.2 :: rest) d) : mGo l G R X own cc nL kc ns Z pc lv rest d := by
  intro C9 H locs ls hW hL
  obtain ⟨hx, hb, hml, hown, hA, hN, hK, hO, hq⟩ := id C9
  exact va_getsN hx hb hO.1 hW.2.2 hown (va_Nw.use rfl (hN _ hlink)) (fun _ h => h) hd (kk C9 H locs ls hW hL)
theorem g_ordL {i : Int32} (j : Nat) (hj : j < 49) (hi : i = nI j) (hd : decode cc pc = .ok (.iaload, 1))
    (kk : mGo l G R X own cc nL kc ns Z (pc + 1) lv (.int (ordF j) :: rest) d) : mGo l G R X own cc nL kc ns Z pc lv (.int i :: .ref G.2.2.2.2.2 :: rest) d := by
  intro C9 H locs ls hW hL
  obtain ⟨hx, hb, hml, hown, hA, hN, hK, hO, hq⟩ := id C9
  obtain ⟨cell, h1, h2, h3, h4, h5, h6, h7⟩ := hO.2
  subst hi
  have hcl : (nI j).toNatClampNeg = j := nI_clamp (by omega)
  refine W.iald (v := .int (ordF j)) hx hb (cell := cell) ?_ h2 h3 ?_ ?_ rfl rfl hd (kk C9 H locs ls hW hL)
  · rw [hW.2.2.2.1 _ (Array.getElem?_eq_some_iff.mp h1).1 h7]; exact h1
  · rw [hcl]; rintro (z | z)
    · exact nI_pos (n := j) (by omega) z
    · omega
  · rw [hcl]; exact h6 j hj
end
end
section
def mAS (Z : mZ) (sz : Nat) : Nat → Prop := fun q => q ∈ Z.1 ∨ sz ≤ q
def mPre (G : mG) (Z : mZ) (d : mD) (sz : Nat) (U : State) : Prop := U.heap.size = sz ∧ va_P G.1 vwCl (mP G Z d) U.heap ∧ va_K G.1 vwCl (mT G) U ∧ va_D (fun _ => True) (mP G Z d) ∧ mNs U ∧ mOT G.2.2.2.2.2 (mAS Z sz) U U.heap
def mPost (G : mG) (Z : mZ) (sz : Nat) (u : mD) (t : State) : Prop := va_P G.1 vwCl (mP G Z u) t.heap ∧ va_D (mAS Z sz) (mP G Z u)
theorem mFB {av : List Value} {G : mG} {Z : mZ} {d : mD} {sz : Nat} : FrameBlind (va_Pc av (mPre G Z d sz)) := fun a U g mk q => by
  obtain ⟨q0, q1, qP, qK, qD, qN, qO⟩ := q
  exact ⟨q0, q1, qP, va_K.moved (u := U) (U := U.calling g mk a) (Vm.Alike.refl U.vm) qK, qD, mNs.warm (s := U) (U := U.calling g mk a) (State.WarmedH.refl U) qN, va_Z.moved (u := U) (U := U.calling g mk a) (Vm.Alike.refl U.vm) qO.1, va_T.moved (u := U) (U := U.calling g mk a) (Vm.Alike.refl U.vm) qO.2⟩
theorem mP_mem {G : mG} {Z : mZ} {d : mD} {k : Nat} {q : Nat × va_E} (h : (mP G Z d)[k]? = some q) : q.1 ∈ Z.1 := by
  have h1 := List.mem_of_getElem? h
  obtain ⟨a, ha, rfl⟩ := List.mem_map.mp h1
  exact ha
theorem mA_of {G : mG} {X : mF} {own : String} {cc : ByteArray} {nL : Nat} {Z : mZ} {d : mD} {H : Heap} {locs : List Loc} (C9 : mCx G X own cc nL) (hW : mWd G X Z d H locs) : ∀ q, mAS Z H.size q → X.2.2.2.2.2.2.2.2.1 q := by
  intro q hq
  rcases hq with hq | hq
  · obtain ⟨k, hk⟩ := mP_at (G := G) (d := d) hq rfl
    exact hW.2.1.2 k _ hk
  · exact C9.2.2.2.2.2.2.2.2 q (Nat.le_trans hW.2.2.1 hq)
theorem mPre_of {G : mG} {X : mF} {own : String} {cc : ByteArray} {nL : Nat} {Z : mZ} {d : mD} {H : Heap} {locs : List Loc} (C9 : mCx G X own cc nL) (hW : mWd G X Z d H locs) (U : State) (hU : U.heap = H) (hw : X.2.2.1.WarmedH U.vm) : mPre G Z d H.size U := by
  obtain ⟨hx, hb, hml, hown, hA, hN, hK, hO, hq⟩ := id C9
  have hAB := mA_of C9 hW
  refine ⟨by rw [hU], by rw [hU]; exact hW.1, va_K.moved hw.alike hK, hW.2.1.weaken (fun _ _ _ _ => trivial), mNs.warm hw hN, ?_, ?_⟩
  · rw [hU]
    exact (va_Z.moved hw.alike (va_Z.kept hO.1 (fun a h1 h2 => hW.2.2.2.1 a h1 h2))).narrow hAB
  · rw [hU]
    exact (va_T.moved hw.alike (va_T.kept hO.2 (fun a h1 h2 => hW.2.2.2.1 a h1 h2))).narrow hAB
/-! ===== contracts: a method that makes nothing answers just this, and leaves just these data ===== -/
abbrev mRm (fr lo : Nat) : Room := { frames := fr, cells := 0, slots := 0, locals := lo }
def CtI (l : Launch) (G : mG) (y : MethodName) (cc : ByteArray) (nL : Nat) (ty : FieldType) (fr lo : Nat) (av : List Value) (Z : mZ) (d : mD) (r0 : Int32) (d0 : mD) : Prop :=
  ∀ sz, Met l y (.code y cc nL (some ty) :: AW) (mRm fr lo) (va_Pc av (mPre G Z d sz)) (va_Qi (fun r (u : mD) => r = r0 ∧ u = d0) (mPost G Z sz) (mAS Z sz)) 0 0 (mAS Z sz)
def CtL (l : Launch) (G : mG) (y : MethodName) (cc : ByteArray) (nL : Nat) (fr lo : Nat) (av : List Value) (Z : mZ) (d : mD) (r0 : Int64) (d0 : mD) : Prop :=
  ∀ sz, Met l y (.code y cc nL (some .long) :: AW) (mRm fr lo) (va_Pc av (mPre G Z d sz)) (va_Ql (fun r (u : mD) => r = r0 ∧ u = d0) (mPost G Z sz) (mAS Z sz)) 0 0 (mAS Z sz)
def CtV (l : Launch) (G : mG) (y : MethodName) (cc : ByteArray) (nL : Nat) (fr lo : Nat) (av : List Value) (Z : mZ) (d : mD) (d0 : mD) : Prop :=
  ∀ sz, Met l y (.code y cc nL none :: AW) (mRm fr lo) (va_Pc av (mPre G Z d sz)) (va_Qv (fun (u : mD) => u = d0) (mPost G Z sz) (mAS Z sz)) 0 0 (mAS Z sz)
def mIni : List Value → List (Option Value)
  | [] => []
  | v :: vs => some v :: (if v.category = 2 then none :: mIni vs else mIni vs)
theorem mIni_mem : ∀ (av : List Value) (i k : Nat) (v : Value), (mIni av)[k]? = some (some v) → (i + k, v) ∈ lv_args i av
  | [], i, k, v, h => by simp [mIni] at h
  | w :: vs, i, k, v, h => by
    rw [mIni] at h
    rw [lv_args]
    cases k with
    | zero =>
      simp only [List.getElem?_cons_zero, Option.some.injEq] at h
      subst h
      exact List.mem_cons_self
    | succ k =>
      rw [List.getElem?_cons_succ] at h
      refine List.mem_cons_of_mem _ ?_
      by_cases hc : w.category = 2
      · rw [if_pos hc] at h ⊢
        cases k with
        | zero => simp at h
        | succ k =>
          rw [List.getElem?_cons_succ] at h
          have := mIni_mem vs (i + 2) k v h
          rwa [show i + 2 + k = i + (k + 1 + 1) by omega] at this
      · rw [if_neg hc] at h ⊢
        have := mIni_mem vs (i + 1) k v h
        rwa [show i + 1 + k = i + (k + 1) by omega] at this
theorem mIni_len : ∀ (av : List Value), (mIni av).length = (lg_sl av).length
  | [] => rfl
  | v :: vs => by
    have ih := mIni_len vs
    by_cases hc : v.category = 2
    · simp [mIni, lg_sl, hc] at ih ⊢; omega
    · simp [mIni, lg_sl, hc] at ih ⊢; omega
theorem mLv_ini {av : List Value} {nL nr : Nat} {lv : List (Option Value)} (h : mIni av ++ List.replicate nr none = lv) (hl : lv.length = nL) {ls : Array Slot} (hh : lv_has ls nL (lv_args 0 av)) : mLv ls nL lv := by
  refine ⟨hh.1, hh.2.1, Nat.le_of_eq hl, fun k v hk => ?_⟩
  rw [← h] at hk
  have h2 : (mIni av)[k]? = some (some v) := by
    by_cases hlt : k < (mIni av).length
    · rwa [List.getElem?_append_left hlt] at hk
    · rw [List.getElem?_append_right (Nat.not_lt.mp hlt), List.getElem?_replicate] at hk
      split at hk <;> simp at hk
  have := hh.2.2 _ (mIni_mem av 0 k v h2)
  simpa using this
def mRetI (l : Launch) (G : mG) (R : Room) (X : mF) (own : String) (cc : ByteArray) (nL : Nat) (Z : mZ) (r0 : Int32) (d0 : mD) : Prop := ∀ (pc : Nat) (lv : List (Option Value)), decode cc pc = .ok (.ireturn, 1) → mGo l G R X own cc nL 0 0 Z pc lv [.int r0] d0
def mRetL (l : Launch) (G : mG) (R : Room) (X : mF) (own : String) (cc : ByteArray) (nL : Nat) (Z : mZ) (r0 : Int64) (d0 : mD) : Prop := ∀ (pc : Nat) (lv : List (Option Value)), decode cc pc = .ok (.lreturn, 1) → mGo l G R X own cc nL 0 0 Z pc lv [.long r0] d0
def mRetV (l : Launch) (G : mG) (R : Room) (X : mF) (own : String) (cc : ByteArray) (nL : Nat) (Z : mZ) (d0 : mD) : Prop := ∀ (pc : Nat) (lv : List (Option Value)), decode cc pc = .ok (.return_, 1) → mGo l G R X own cc nL 0 0 Z pc lv [] d0
theorem retI {l : Launch} {G : mG} {R : Room} {X : mF} {own : String} {cc : ByteArray} {nL : Nat} {Z : mZ} {r0 r1 : Int32} {d0 d1 : mD} {pc : Nat} {lv : List (Option Value)} (hR : mRetI l G R X own cc nL Z r0 d0) (hd : decode cc pc = .ok (.ireturn, 1)) (h1 : r1 = r0) (h2 : d1 = d0) : mGo l G R X own cc nL 0 0 Z pc lv [.int r1] d1 := by
  subst h1; subst h2; exact hR pc lv hd
theorem retL {l : Launch} {G : mG} {R : Room} {X : mF} {own : String} {cc : ByteArray} {nL : Nat} {Z : mZ} {r0 r1 : Int64} {d0 d1 : mD} {pc : Nat} {lv : List (Option Value)} (hR : mRetL l G R X own cc nL Z r0 d0) (hd : decode cc pc = .ok (.lreturn, 1)) (h1 : r1 = r0) (h2 : d1 = d0) : mGo l G R X own cc nL 0 0 Z pc lv [.long r1] d1 := by
  subst h1; subst h2; exact hR pc lv hd
theorem retV {l : Launch} {G : mG} {R : Room} {X : mF} {own : String} {cc : ByteArray} {nL : Nat} {Z : mZ} {d0 d1 : mD} {pc : Nat} {lv : List (Option Value)} (hR : mRetV l G R X own cc nL Z d0) (hd : decode cc pc = .ok (.return_, 1)) (h2 : d1 = d0) : mGo l G R X own cc nL 0 0 Z pc lv [] d1 := by
  subst h2; exact hR pc lv hd
/-- a method's start, when it answers an int -/
theorem enterI {l : Launch} {G : mG} {y : MethodName} {cc : ByteArray} {nL : Nat} {ty : FieldType} {fr lo : Nat} {av : List Value} {Z : mZ} {d : mD} {r0 : Int32} {d0 : mD} (own : String) (nr : Nat) (lv : List (Option Value)) (hy : plainName y.cls = true) (ho : y.cls = own) (hnr : narrow ty (.int r0) = .int r0) (hlv : mIni av ++ List.replicate nr none = lv) (hll : lv.length = nL)
    (body : ∀ X : mF, mRetI l G (mRm fr lo) X own cc nL Z r0 d0 → mGo l G (mRm fr lo) X own cc nL 0 0 Z 0 lv [] d) : CtI l G y cc nL ty fr lo av Z d r0 d0 := by
  intro sz
  refine Met.ofW (cc := cc) (maxL := nL) (ret := some ty) hy rfl ?_
  intro p e s m args below meth c s₁ B hml hv
  obtain ⟨rfl, hsz, hP, hK, hD, hN, hO⟩ := hv
  have hts := atoms_spec (ws := .code y cc nL (some ty) :: AW) B.pre
  have hown : s.vm.findClass own = some m.cls := by rw [← ho]; exact findClass_of_methodNamed B.named
  have hlocks := B.notSynchronized
  have hr := B.returns
  subst hsz
  have hlen : (lg_sl av).length ≤ nL := by rw [← mIni_len, ← hll, ← hlv, List.length_append]; omega
  have hl := lv_entry av (n := nL) hlen
  rw [lg_entry_eq]
  have C9 : mCx G (p, e, s, m, av.toArray, below, meth, c, mAS Z s.heap.size, MQ below (va_Qi (fun r (u : mD) => r = r0 ∧ u = d0) (mPost G Z s.heap.size) (mAS Z s.heap.size)) av.toArray s 0 0 (mAS Z s.heap.size)) own cc nL := ⟨B.exec, B.bytes, hml, hown, fun w hw => hts w (List.mem_cons_of_mem _ hw), hN, hK, hO, fun q hq => Or.inr hq⟩
  refine body (p, e, s, m, av.toArray, below, meth, c, mAS Z s.heap.size, MQ below (va_Qi (fun r (u : mD) => r = r0 ∧ u = d0) (mPost G Z s.heap.size) (mAS Z s.heap.size)) av.toArray s 0 0 (mAS Z s.heap.size)) ?_ C9 s.heap [] _ ⟨hP, ⟨hD.1, fun k q hk => Or.inl (mP_mem hk)⟩, va_S.rf⟩ (mLv_ini hlv hll hl)
  intro pc lv2 hd C H locs ls hW hL
  exact W.zret C.1 C.2.1 hr hnr (fun t ht _ => ⟨⟨r0, d0, rfl, ⟨rfl, rfl⟩, by rw [ht]; exact hW.1, hW.2.1⟩, hW.2.2.F ht⟩) hW.2.2.2.2 hd hlocks
theorem enterL {l : Launch} {G : mG} {y : MethodName} {cc : ByteArray} {nL : Nat} {fr lo : Nat} {av : List Value} {Z : mZ} {d : mD} {r0 : Int64} {d0 : mD} (own : String) (nr : Nat) (lv : List (Option Value)) (hy : plainName y.cls = true) (ho : y.cls = own) (hlv : mIni av ++ List.replicate nr none = lv) (hll : lv.length = nL)
    (body : ∀ X : mF, mRetL l G (mRm fr lo) X own cc nL Z r0 d0 → mGo l G (mRm fr lo) X own cc nL 0 0 Z 0 lv [] d) : CtL l G y cc nL fr lo av Z d r0 d0 := by
  intro sz
  refine Met.ofW (cc := cc) (maxL := nL) (ret := some .long) hy rfl ?_
  intro p e s m args below meth c s₁ B hml hv
  obtain ⟨rfl, hsz, hP, hK, hD, hN, hO⟩ := hv
  have hts := atoms_spec (ws := .code y cc nL (some .long) :: AW) B.pre
  have hown : s.vm.findClass own = some m.cls := by rw [← ho]; exact findClass_of_methodNamed B.named
  have hlocks := B.notSynchronized
  have hr := B.returns
  subst hsz
  have hlen : (lg_sl av).length ≤ nL := by rw [← mIni_len, ← hll, ← hlv, List.length_append]; omega
  have hl := lv_entry av (n := nL) hlen
  rw [lg_entry_eq]
  have C9 : mCx G (p, e, s, m, av.toArray, below, meth, c, mAS Z s.heap.size, MQ below (va_Ql (fun r (u : mD) => r = r0 ∧ u = d0) (mPost G Z s.heap.size) (mAS Z s.heap.size)) av.toArray s 0 0 (mAS Z s.heap.size)) own cc nL := ⟨B.exec, B.bytes, hml, hown, fun w hw => hts w (List.mem_cons_of_mem _ hw), hN, hK, hO, fun q hq => Or.inr hq⟩
  refine body (p, e, s, m, av.toArray, below, meth, c, mAS Z s.heap.size, MQ below (va_Ql (fun r (u : mD) => r = r0 ∧ u = d0) (mPost G Z s.heap.size) (mAS Z s.heap.size)) av.toArray s 0 0 (mAS Z s.heap.size)) ?_ C9 s.heap [] _ ⟨hP, ⟨hD.1, fun k q hk => Or.inl (mP_mem hk)⟩, va_S.rf⟩ (mLv_ini hlv hll hl)
  intro pc lv2 hd C H locs ls hW hL
  exact W.lret C.1 C.2.1 hr (fun t ht _ => ⟨⟨r0, d0, rfl, ⟨rfl, rfl⟩, by rw [ht]; exact hW.1, hW.2.1⟩, hW.2.2.F ht⟩) hW.2.2.2.2 hd hlocks
theorem enterV {l : Launch} {G : mG} {y : MethodName} {cc : ByteArray} {nL : Nat} {fr lo : Nat} {av : List Value} {Z : mZ} {d : mD} {d0 : mD} (own : String) (nr : Nat) (lv : List (Option Value)) (hy : plainName y.cls = true) (ho : y.cls = own) (hlv : mIni av ++ List.replicate nr none = lv) (hll : lv.length = nL)
    (body : ∀ X : mF, mRetV l G (mRm fr lo) X own cc nL Z d0 → mGo l G (mRm fr lo) X own cc nL 0 0 Z 0 lv [] d) : CtV l G y cc nL fr lo av Z d d0 := by
  intro sz
  refine Met.ofW (cc := cc) (maxL := nL) (ret := none) hy rfl ?_
  intro p e s m args below meth c s₁ B hml hv
  obtain ⟨rfl, hsz, hP, hK, hD, hN, hO⟩ := hv
  have hts := atoms_spec (ws := .code y cc nL none :: AW) B.pre
  have hown : s.vm.findClass own = some m.cls := by rw [← ho]; exact findClass_of_methodNamed B.named
  have hlocks := B.notSynchronized
  have hr := B.returns
  subst hsz
  have hlen : (lg_sl av).length ≤ nL := by rw [← mIni_len, ← hll, ← hlv, List.length_append]; omega
  have hl := lv_entry av (n := nL) hlen
  rw [lg_entry_eq]
  have C9 : mCx G (p, e, s, m, av.toArray, below, meth, c, mAS Z s.heap.size, MQ below (va_Qv (fun (u : mD) => u = d0) (mPost G Z s.heap.size) (mAS Z s.heap.size)) av.toArray s 0 0 (mAS Z s.heap.size)) own cc nL := ⟨B.exec, B.bytes, hml, hown, fun w hw => hts w (List.mem_cons_of_mem _ hw), hN, hK, hO, fun q hq => Or.inr hq⟩
  refine body (p, e, s, m, av.toArray, below, meth, c, mAS Z s.heap.size, MQ below (va_Qv (fun (u : mD) => u = d0) (mPost G Z s.heap.size) (mAS Z s.heap.size)) av.toArray s 0 0 (mAS Z s.heap.size)) ?_ C9 s.heap [] _ ⟨hP, ⟨hD.1, fun k q hk => Or.inl (mP_mem hk)⟩, va_S.rf⟩ (mLv_ini hlv hll hl)
  intro pc lv2 hd C H locs ls hW hL
  exact W.vret C.1 C.2.1 hr (fun t ht _ => ⟨⟨d0, rfl, rfl, by rw [ht]; exact hW.1, hW.2.1⟩, hW.2.2.F ht⟩) hW.2.2.2.2 hd hlocks
/-! ===== calls ===== -/
/-- what the tables say of a method of an object (of a static one) -/
def mYv (y : MethodName) (cc : ByteArray) (nL : Nat) (ret : Option FieldType) (n : Nat) : Prop := Cond.instanceMethod y ∈ AW ∧ Cond.selects y.cls y y ∈ AW ∧ Cond.initialized y.cls ∈ AW ∧ Cond.code y cc nL ret ∈ AW ∧ (y.cls ≠ "java/lang/invoke/MethodHandle" ∧ y.cls ≠ "java/lang/invoke/VarHandle" ∧ (parseMethodDescriptor y.desc).map (fun d => d.parameters.length) = some n)
def mYs (y : MethodName) (cc : ByteArray) (nL : Nat) (ret : Option FieldType) (n : Nat) : Prop := Cond.static y ∈ AW ∧ Cond.initialized y.cls ∈ AW ∧ Cond.code y cc nL ret ∈ AW ∧ (y.cls ≠ "java/lang/invoke/MethodHandle" ∧ y.cls ≠ "java/lang/invoke/VarHandle" ∧ (parseMethodDescriptor y.desc).map (fun d => d.parameters.length) = some n)
theorem mGood {y : MethodName} {cc : ByteArray} {nL : Nat} {ret : Option FieldType} (h : Cond.code y cc nL ret ∈ AW) : GoodIn AW (.code y cc nL ret :: AW) := fun w hw => by
  rcases List.mem_cons.mp hw with rfl | hw
  · exact ⟨h, AW_good _ h⟩
  · exact ⟨hw, AW_good _ hw⟩
/-- an object of the pool is an object of its class -/
theorem mRecv {G : mG} {X : mF} {own : String} {cc : ByteArray} {nL : Nat} {Z : mZ} {d : mD} {H : Heap} {locs : List Loc} (C9 : mCx G X own cc nL) (hW : mWd G X Z d H locs) {b ci : Nat} {q : vw_C} (h : ob Z ci b) (hc : vwCl[ci]? = some q) : ∃ cell : Cell, H[b]? = some cell ∧ cell.vm.isStatics = false ∧ X.2.2.1.vm.findClass q.1 = some cell.cls := by
  have hlt : ci < 10 := (List.getElem?_eq_some_iff.mp hc).1
  have he : ∃ fs, wE G Z d b = .inr (ci, fs) := by
    have h2 := h.2
    match ci, hlt, h2 with
    | 0, _, h2 | 1, _, h2 | 2, _, h2 | 3, _, h2 | 4, _, h2 | 5, _, h2 | 6, _, h2 | 7, _, h2 | 8, _, h2 | 9, _, h2 => exact ⟨_, by simp only [wE, h2]; rfl⟩
  obtain ⟨fs, he⟩ := he
  obtain ⟨k, hk⟩ := mP_at h.1 he
  exact va_recv C9.2.2.2.2.2.2.1 hW.1 hc hk
section
variable {l : Launch} {G : mG} {R : Room} {X : mF} {own : String} {cc : ByteArray} {nL kc ns : Nat} {Z : mZ} {pc : Nat} {lv : List (Option Value)} {rest : List Value} {d : mD} {y : MethodName} {cY : ByteArray} {nY : Nat} {ty : FieldType} {fr lo : Nat} {r0 : Int32} {rL : Int64} {d0 : mD} {ix n b ci : Nat} {As : List Value} {q : vw_C}
/-- what stays to be done behind a call -/
theorem mAfter {H1 : Heap} {locs1 : List Loc} {H : Heap} {locs : List Loc} {u : mD} (C9 : mCx G X own cc nL) (hW : mWd G X Z d H locs) {t : State} (ht : t.heap = H1) (hB : mPost G Z H.size u t) (hS : va_S X.2.2.2.2.2.2.2.2.1 X.2.2.1.heap H1 locs1) : mWd G X Z u H1 locs1 := by
  refine ⟨by rw [← ht]; exact hB.1, hB.2.weaken (fun k x _ hx => mA_of C9 hW x.1 hx), hS⟩
theorem cwM (C9 : mCx G X own cc nL) {ret : Option FieldType} (hlk : Cond.methodLink own ix y ∈ AW) (hY : mYv y cY nY ret n) (hro : fr + 1 ≤ R.frames ∧ 8 + (nY + 11) + lo ≤ R.locals) : CallW R X.2.2.1 X.2.2.2.2.1 own y.cls ix y cY nY ret (.code y cY nY ret :: AW) (mRm fr lo) 0 0 n :=
  ⟨callB_of n C9.2.2.2.2.1 (mGood hY.2.2.2.1) rfl rfl rfl (C9.2.2.2.2.1 _ hY.2.2.1) (C9.2.2.2.2.1 _ hlk) hY.2.2.2.2 hro, C9.2.2.2.2.1 _ hY.1, C9.2.2.2.2.1 _ hY.2.1⟩
theorem cwMs (C9 : mCx G X own cc nL) {ret : Option FieldType} (hlk : Cond.methodLink own ix y ∈ AW) (hY : mYs y cY nY ret n) (hro : fr + 1 ≤ R.frames ∧ 8 + (nY + 11) + lo ≤ R.locals) : CallB R X.2.2.1 X.2.2.2.2.1 own ix y cY nY ret (.code y cY nY ret :: AW) (mRm fr lo) 0 0 n ∧ (Cond.static y).before X.2.2.2.2.1 X.2.2.1 = true :=
  ⟨callB_of n C9.2.2.2.2.1 (mGood hY.2.2.1) rfl rfl rfl (C9.2.2.2.2.1 _ hY.2.1) (C9.2.2.2.2.1 _ hlk) hY.2.2.2 hro, C9.2.2.2.2.1 _ hY.1⟩
theorem cwN (C9 : mCx G X own cc nL) {ret : Option FieldType} (hlk : Cond.methodLinkNest own ix y "MovedBlocks" ∈ NW) (hY : mYv y cY nY ret n) (hro : fr + 1 ≤ R.frames ∧ 8 + (nY + 11) + lo ≤ R.locals) : va_CN R X.2.2.1 X.2.2.2.2.1 own ix y "MovedBlocks" cY nY ret (.code y cY nY ret :: AW) (mRm fr lo) 0 0 n ∧ (Cond.instanceMethod y).before X.2.2.2.2.1 X.2.2.1 = true ∧ (Cond.selects y.cls y y).before X.2.2.2.2.1 X.2.2.1 = true :=
  ⟨va_cnB n C9.2.2.2.2.1 (mGood hY.2.2.2.1) rfl rfl rfl (C9.2.2.2.2.2.1 _ hlk) (C9.2.2.2.2.1 _ hY.2.2.1) hY.2.2.2.2 hro, C9.2.2.2.2.1 _ hY.1, C9.2.2.2.2.1 _ hY.2.1⟩
theorem cwNs (C9 : mCx G X own cc nL) {ret : Option FieldType} (hlk : Cond.methodLinkNest own ix y "MovedBlocks" ∈ NW) (hY : mYs y cY nY ret n) (hro : fr + 1 ≤ R.frames ∧ 8 + (nY + 11) + lo ≤ R.locals) : va_CN R X.2.2.1 X.2.2.2.2.1 own ix y "MovedBlocks" cY nY ret (.code y cY nY ret :: AW) (mRm fr lo) 0 0 n ∧ (Cond.static y).before X.2.2.2.2.1 X.2.2.1 = true ∧ True :=
  ⟨va_cnB n C9.2.2.2.2.1 (mGood hY.2.2.1) rfl rfl rfl (C9.2.2.2.2.2.1 _ hlk) (C9.2.2.2.2.1 _ hY.2.1) hY.2.2.2 hro, C9.2.2.2.2.1 _ hY.1, trivial⟩
theorem callVI (hc : CtI l G y cY nY ty fr lo (.ref b :: As) Z d r0 d0) (hlk : Cond.methodLink own ix y ∈ AW) (hY : mYv y cY nY (some ty) n) (hob : ob Z ci b) (hci : vwCl[ci]? = some q) (hqn : q.1 = y.cls) (hn : As.length = n) (hro : fr + 1 ≤ R.frames ∧ 8 + (nY + 11) + lo ≤ R.locals) (hce : kc + 0 ≤ R.cells ∧ ns + 0 ≤ R.slots) (hst : (rest.map fun v => v.category).sum ≤ 8) (hd : decode cc pc = .ok (.invokevirtual ix, 3)) (kk : mGo l G R X own cc nL kc ns Z (pc + 3) lv (.int r0 :: rest) d0) : mGo l G R X own cc nL kc ns Z pc lv (As.reverse ++ .ref b :: rest) d := by
  intro C9 H locs ls hW hL
  refine va_calli (va_runV (As := As) (rest := rest) ⟨C9.1, C9.2.1, C9.2.2.1, C9.2.2.2.1, C9.2.2.2.2.1⟩ (hc H.size) (cwM C9 hlk hY hro) ⟨mFB, by rw [← hqn]; exact mRecv C9 hW hob hci, fun U hU hw => ⟨rfl, mPre_of C9 hW U hU hw⟩⟩ rfl hn hL.1 rfl (lv_room hst) hd hce) hW.2.2 (fun q _ h => mA_of C9 hW q h) (mA_of C9 hW) (fun r9 u9 t9 H1 locs1 ht9 hv9 hp9 hB9 hz9 hk9 hS9 => ?_)
  obtain ⟨rfl, rfl⟩ := hp9
  exact kk C9 H1 locs1 ls (mAfter C9 hW ht9 hB9 hS9) hL
theorem callVL (hc : CtL l G y cY nY fr lo (.ref b :: As) Z d rL d0) (hlk : Cond.methodLink own ix y ∈ AW) (hY : mYv y cY nY (some .long) n) (hob : ob Z ci b) (hci : vwCl[ci]? = some q) (hqn : q.1 = y.cls) (hn : As.length = n) (hro : fr + 1 ≤ R.frames ∧ 8 + (nY + 11) + lo ≤ R.locals) (hce : kc + 0 ≤ R.cells ∧ ns + 0 ≤ R.slots) (hst : (rest.map fun v => v.category).sum ≤ 8) (hd : decode cc pc = .ok (.invokevirtual ix, 3)) (kk : mGo l G R X own cc nL kc ns Z (pc + 3) lv (.long rL :: rest) d0) : mGo l G R X own cc nL kc ns Z pc lv (As.reverse ++ .ref b :: rest) d := by
  intro C9 H locs ls hW hL
  refine va_calll (va_runV (As := As) (rest := rest) ⟨C9.1, C9.2.1, C9.2.2.1, C9.2.2.2.1, C9.2.2.2.2.1⟩ (hc H.size) (cwM C9 hlk hY hro) ⟨mFB, by rw [← hqn]; exact mRecv C9 hW hob hci, fun U hU hw => ⟨rfl, mPre_of C9 hW U hU hw⟩⟩ rfl hn hL.1 rfl (lv_room hst) hd hce) hW.2.2 (fun q _ h => mA_of C9 hW q h) (mA_of C9 hW) (fun r9 u9 t9 H1 locs1 ht9 hv9 hp9 hB9 hz9 hk9 hS9 => ?_)
  obtain ⟨rfl, rfl⟩ := hp9
  exact kk C9 H1 locs1 ls (mAfter C9 hW ht9 hB9 hS9) hL
theorem callVV (hc : CtV l G y cY nY fr lo (.ref b :: As) Z d d0) (hlk : Cond.methodLink own ix y ∈ AW) (hY : mYv y cY nY none n) (hob : ob Z ci b) (hci : vwCl[ci]? = some q) (hqn : q.1 = y.cls) (hn : As.length = n) (hro : fr + 1 ≤ R.frames ∧ 8 + (nY + 11) + lo ≤ R.locals) (hce : kc + 0 ≤ R.cells ∧ ns + 0 ≤ R.slots) (hst : (rest.map fun v => v.category).sum ≤ 8) (hd : decode cc pc = .ok (.invokevirtual ix, 3)) (kk : mGo l G R X own cc nL kc ns Z (pc + 3) lv rest d0) : mGo l G R X own cc nL kc ns Z pc lv (As.reverse ++ .ref b :: rest) d := by
  intro C9 H locs ls hW hL
  refine va_callv (va_runV (As := As) (rest := rest) ⟨C9.1, C9.2.1, C9.2.2.1, C9.2.2.2.1, C9.2.2.2.2.1⟩ (hc H.size) (cwM C9 hlk hY hro) ⟨mFB, by rw [← hqn]; exact mRecv C9 hW hob hci, fun U hU hw => ⟨rfl, mPre_of C9 hW U hU hw⟩⟩ rfl hn hL.1 rfl (lv_room hst) hd hce) hW.2.2 (fun q _ h => mA_of C9 hW q h) (mA_of C9 hW) (fun u9 t9 H1 locs1 ht9 hv9 hp9 hB9 hz9 hk9 hS9 => ?_)
  subst hp9
  exact kk C9 H1 locs1 ls (mAfter C9 hW ht9 hB9 hS9) hL
theorem callSI (hc : CtI l G y cY nY ty fr lo As Z d r0 d0) (hlk : Cond.methodLink own ix y ∈ AW) (hY : mYs y cY nY (some ty) n) (hn : As.length = n) (hro : fr + 1 ≤ R.frames ∧ 8 + (nY + 11) + lo ≤ R.locals) (hce : kc + 0 ≤ R.cells ∧ ns + 0 ≤ R.slots) (hst : (rest.map fun v => v.category).sum ≤ 8) (hd : decode cc pc = .ok (.invokestatic ix, 3)) (kk : mGo l G R X own cc nL kc ns Z (pc + 3) lv (.int r0 :: rest) d0) : mGo l G R X own cc nL kc ns Z pc lv (As.reverse ++ rest) d := by
  intro C9 H locs ls hW hL
  refine va_calli (va_runS (As := As) (rest := rest) ⟨C9.1, C9.2.1, C9.2.2.1, C9.2.2.2.1, C9.2.2.2.2.1⟩ (hc H.size) (cwMs C9 hlk hY hro) ⟨mFB, fun U hU hw => ⟨rfl, mPre_of C9 hW U hU hw⟩⟩ rfl hn hL.1 rfl (lv_room hst) hd hce) hW.2.2 (fun q _ h => mA_of C9 hW q h) (mA_of C9 hW) (fun r9 u9 t9 H1 locs1 ht9 hv9 hp9 hB9 hz9 hk9 hS9 => ?_)
  obtain ⟨rfl, rfl⟩ := hp9
  exact kk C9 H1 locs1 ls (mAfter C9 hW ht9 hB9 hS9) hL
theorem callSL (hc : CtL l G y cY nY fr lo As Z d rL d0) (hlk : Cond.methodLink own ix y ∈ AW) (hY : mYs y cY nY (some .long) n) (hn : As.length = n) (hro : fr + 1 ≤ R.frames ∧ 8 + (nY + 11) + lo ≤ R.locals) (hce : kc + 0 ≤ R.cells ∧ ns + 0 ≤ R.slots) (hst : (rest.map fun v => v.category).sum ≤ 8) (hd : decode cc pc = .ok (.invokestatic ix, 3)) (kk : mGo l G R X own cc nL kc ns Z (pc + 3) lv (.long rL :: rest) d0) : mGo l G R X own cc nL kc ns Z pc lv (As.reverse ++ rest) d := by
  intro C9 H locs ls hW hL
  refine va_calll (va_runS (As := As) (rest := rest) ⟨C9.1, C9.2.1, C9.2.2.1, C9.2.2.2.1, C9.2.2.2.2.1⟩ (hc H.size) (cwMs C9 hlk hY hro) ⟨mFB, fun U hU hw => ⟨rfl, mPre_of C9 hW U hU hw⟩⟩ rfl hn hL.1 rfl (lv_room hst) hd hce) hW.2.2 (fun q _ h => mA_of C9 hW q h) (mA_of C9 hW) (fun r9 u9 t9 H1 locs1 ht9 hv9 hp9 hB9 hz9 hk9 hS9 => ?_)
  obtain ⟨rfl, rfl⟩ := hp9
  exact kk C9 H1 locs1 ls (mAfter C9 hW ht9 hB9 hS9) hL
theorem callSV (hc : CtV l G y cY nY fr lo As Z d d0) (hlk : Cond.methodLink own ix y ∈ AW) (hY : mYs y cY nY none n) (hn : As.length = n) (hro : fr + 1 ≤ R.frames ∧ 8 + (nY + 11) + lo ≤ R.locals) (hce : kc + 0 ≤ R.cells ∧ ns + 0 ≤ R.slots) (hst : (rest.map fun v => v.category).sum ≤ 8) (hd : decode cc pc = .ok (.invokestatic ix, 3)) (kk : mGo l G R X own cc nL kc ns Z (pc + 3) lv rest d0) : mGo l G R X own cc nL kc ns Z pc lv (As.reverse ++ rest) d := by
  intro C9 H locs ls hW hL
  refine va_callv (va_runS (As := As) (rest := rest) ⟨C9.1, C9.2.1, C9.2.2.1, C9.2.2.2.1, C9.2.2.2.2.1⟩ (hc H.size) (cwMs C9 hlk hY hro) ⟨mFB, fun U hU hw => ⟨rfl, mPre_of C9 hW U hU hw⟩⟩ rfl hn hL.1 rfl (lv_room hst) hd hce) hW.2.2 (fun q _ h => mA_of C9 hW q h) (mA_of C9 hW) (fun u9 t9 H1 locs1 ht9 hv9 hp9 hB9 hz9 hk9 hS9 => ?_)
  subst hp9
  exact kk C9 H1 locs1 ls (mAfter C9 hW ht9 hB9 hS9) hL
theorem callVNI (hc : CtI l G y cY nY ty fr lo (.ref b :: As) Z d r0 d0) (hlk : Cond.methodLinkNest own ix y "MovedBlocks" ∈ NW) (hY : mYv y cY nY (some ty) n) (hob : ob Z ci b) (hci : vwCl[ci]? = some q) (hqn : q.1 = y.cls) (hn : As.length = n) (hro : fr + 1 ≤ R.frames ∧ 8 + (nY + 11) + lo ≤ R.locals) (hce : kc + 0 ≤ R.cells ∧ ns + 0 ≤ R.slots) (hst : (rest.map fun v => v.category).sum ≤ 8) (hd : decode cc pc = .ok (.invokevirtual ix, 3)) (kk : mGo l G R X own cc nL kc ns Z (pc + 3) lv (.int r0 :: rest) d0) : mGo l G R X own cc nL kc ns Z pc lv (As.reverse ++ .ref b :: rest) d := by
  intro C9 H locs ls hW hL
  refine va_calli (va_runVN (As := As) (rest := rest) ⟨C9.1, C9.2.1, C9.2.2.1, C9.2.2.2.1, C9.2.2.2.2.1⟩ (hc H.size) (cwN C9 hlk hY hro) ⟨mFB, by rw [← hqn]; exact mRecv C9 hW hob hci, fun U hU hw => ⟨rfl, mPre_of C9 hW U hU hw⟩⟩ rfl hn hL.1 rfl (lv_room hst) hd hce) hW.2.2 (fun q _ h => mA_of C9 hW q h) (mA_of C9 hW) (fun r9 u9 t9 H1 locs1 ht9 hv9 hp9 hB9 hz9 hk9 hS9 => ?_)
  obtain ⟨rfl, rfl⟩ := hp9
  exact kk C9 H1 locs1 ls (mAfter C9 hW ht9 hB9 hS9) hL
theorem callVNL (hc : CtL l G y cY nY fr lo (.ref b :: As) Z d rL d0) (hlk : Cond.methodLinkNest own ix y "MovedBlocks" ∈ NW) (hY : mYv y cY nY (some .long) n) (hob : ob Z ci b) (hci : vwCl[ci]? = some q) (hqn : q.1 = y.cls) (hn : As.length = n) (hro : fr + 1 ≤ R.frames ∧ 8 + (nY + 11) + lo ≤ R.locals) (hce : kc + 0 ≤ R.cells ∧ ns + 0 ≤ R.slots) (hst : (rest.map fun v => v.category).sum ≤ 8) (hd : decode cc pc = .ok (.invokevirtual ix, 3)) (kk : mGo l G R X own cc nL kc ns Z (pc + 3) lv (.long rL :: rest) d0) : mGo l G R X own cc nL kc ns Z pc lv (As.reverse ++ .ref b :: rest) d := by
  intro C9 H locs ls hW hL
  refine va_calll (va_runVN (As := As) (rest := rest) ⟨C9.1, C9.2.1, C9.2.2.1, C9.2.2.2.1, C9.2.2.2.2.1⟩ (hc H.size) (cwN C9 hlk hY hro) ⟨mFB, by rw [← hqn]; exact mRecv C9 hW hob hci, fun U hU hw => ⟨rfl, mPre_of C9 hW U hU hw⟩⟩ rfl hn hL.1 rfl (lv_room hst) hd hce) hW.2.2 (fun q _ h => mA_of C9 hW q h) (mA_of C9 hW) (fun r9 u9 t9 H1 locs1 ht9 hv9 hp9 hB9 hz9 hk9 hS9 => ?_)
  obtain ⟨rfl, rfl⟩ := hp9
  exact kk C9 H1 locs1 ls (mAfter C9 hW ht9 hB9 hS9) hL
theorem callVNV (hc : CtV l G y cY nY fr lo (.ref b :: As) Z d d0) (hlk : Cond.methodLinkNest own ix y "MovedBlocks" ∈ NW) (hY : mYv y cY nY none n) (hob : ob Z ci b) (hci : vwCl[ci]? = some q) (hqn : q.1 = y.cls) (hn : As.length = n) (hro : fr + 1 ≤ R.frames ∧ 8 + (nY + 11) + lo ≤ R.locals) (hce : kc + 0 ≤ R.cells ∧ ns + 0 ≤ R.slots) (hst : (rest.map fun v => v.category).sum ≤ 8) (hd : decode cc pc = .ok (.invokevirtual ix, 3)) (kk : mGo l G R X own cc nL kc ns Z (pc + 3) lv rest d0) : mGo l G R X own cc nL kc ns Z pc lv (As.reverse ++ .ref b :: rest) d := by
  intro C9 H locs ls hW hL
  refine va_callv (va_runVN (As := As) (rest := rest) ⟨C9.1, C9.2.1, C9.2.2.1, C9.2.2.2.1, C9.2.2.2.2.1⟩ (hc H.size) (cwN C9 hlk hY hro) ⟨mFB, by rw [← hqn]; exact mRecv C9 hW hob hci, fun U hU hw => ⟨rfl, mPre_of C9 hW U hU hw⟩⟩ rfl hn hL.1 rfl (lv_room hst) hd hce) hW.2.2 (fun q _ h => mA_of C9 hW q h) (mA_of C9 hW) (fun u9 t9 H1 locs1 ht9 hv9 hp9 hB9 hz9 hk9 hS9 => ?_)
  subst hp9
  exact kk C9 H1 locs1 ls (mAfter C9 hW ht9 hB9 hS9) hL
theorem callSNI (hc : CtI l G y cY nY ty fr lo As Z d r0 d0) (hlk : Cond.methodLinkNest own ix y "MovedBlocks" ∈ NW) (hY : mYs y cY nY (some ty) n) (hn : As.length = n) (hro : fr + 1 ≤ R.frames ∧ 8 + (nY + 11) + lo ≤ R.locals) (hce : kc + 0 ≤ R.cells ∧ ns + 0 ≤ R.slots) (hst : (rest.map fun v => v.category).sum ≤ 8) (hd : decode cc pc = .ok (.invokestatic ix, 3)) (kk : mGo l G R X own cc nL kc ns Z (pc + 3) lv (.int r0 :: rest) d0) : mGo l G R X own cc nL kc ns Z pc lv (As.reverse ++ rest) d := by
  intro C9 H locs ls hW hL
  refine va_calli (va_runSN (As := As) (rest := rest) ⟨C9.1, C9.2.1, C9.2.2.1, C9.2.2.2.1, C9.2.2.2.2.1⟩ (hc H.size) (cwNs C9 hlk hY hro) ⟨mFB, fun U hU hw => ⟨rfl, mPre_of C9 hW U hU hw⟩⟩ rfl hn hL.1 rfl (lv_room hst) hd hce) hW.2.2 (fun q _ h => mA_of C9 hW q h) (mA_of C9 hW) (fun r9 u9 t9 H1 locs1 ht9 hv9 hp9 hB9 hz9 hk9 hS9 => ?_)
  obtain ⟨rfl, rfl⟩ := hp9
  exact kk C9 H1 locs1 ls (mAfter C9 hW ht9 hB9 hS9) hL
theorem callSNL (hc : CtL l G y cY nY fr lo As Z d rL d0) (hlk : Cond.methodLinkNest own ix y "MovedBlocks" ∈ NW) (hY : mYs y cY nY (some .long) n) (hn : As.length = n) (hro : fr + 1 ≤ R.frames ∧ 8 + (nY + 11) + lo ≤ R.locals) (hce : kc + 0 ≤ R.cells ∧ ns + 0 ≤ R.slots) (hst : (rest.map fun v => v.category).sum ≤ 8) (hd : decode cc pc = .ok (.invokestatic ix, 3)) (kk : mGo l G R X own cc nL kc ns Z (pc + 3) lv (.long rL :: rest) d0) : mGo l G R X own cc nL kc ns Z pc lv (As.reverse ++ rest) d := by
  intro C9 H locs ls hW hL
  refine va_calll (va_runSN (As := As) (rest := rest) ⟨C9.1, C9.2.1, C9.2.2.1, C9.2.2.2.1, C9.2.2.2.2.1⟩ (hc H.size) (cwNs C9 hlk hY hro) ⟨mFB, fun U hU hw => ⟨rfl, mPre_of C9 hW U hU hw⟩⟩ rfl hn hL.1 rfl (lv_room hst) hd hce) hW.2.2 (fun q _ h => mA_of C9 hW q h) (mA_of C9 hW) (fun r9 u9 t9 H1 locs1 ht9 hv9 hp9 hB9 hz9 hk9 hS9 => ?_)
  obtain ⟨rfl, rfl⟩ := hp9
  exact kk C9 H1 locs1 ls (mAfter C9 hW ht9 hB9 hS9) hL
theorem callSNV (hc : CtV l G y cY nY fr lo As Z d d0) (hlk : Cond.methodLinkNest own ix y "MovedBlocks" ∈ NW) (hY : mYs y cY nY none n) (hn : As.length = n) (hro : fr + 1 ≤ R.frames ∧ 8 + (nY + 11) + lo ≤ R.locals) (hce : kc + 0 ≤ R.cells ∧ ns + 0 ≤ R.slots) (hst : (rest.map fun v => v.category).sum ≤ 8) (hd : decode cc pc = .ok (.invokestatic ix, 3)) (kk : mGo l G R X own cc nL kc ns Z (pc + 3) lv rest d0) : mGo l G R X own cc nL kc ns Z pc lv (As.reverse ++ rest) d := by
  intro C9 H locs ls hW hL
  refine va_callv (va_runSN (As := As) (rest := rest) ⟨C9.1, C9.2.1, C9.2.2.1, C9.2.2.2.1, C9.2.2.2.2.1⟩ (hc H.size) (cwNs C9 hlk hY hro) ⟨mFB, fun U hU hw => ⟨rfl, mPre_of C9 hW U hU hw⟩⟩ rfl hn hL.1 rfl (lv_room hst) hd hce) hW.2.2 (fun q _ h => mA_of C9 hW q h) (mA_of C9 hW) (fun u9 t9 H1 locs1 ht9 hv9 hp9 hB9 hz9 hk9 hS9 => ?_)
  subst hp9
  exact kk C9 H1 locs1 ls (mAfter C9 hW ht9 hB9 hS9) hL
end
end
section
theorem wi_L : Cond.initialized RL ∈ AW := AW_in 63 (by decide +kernel) rfl
theorem wi_X8 : Cond.initialized RX8 ∈ AW := AW_in 64 (by decide +kernel) rfl
theorem wi_X6 : Cond.initialized RX6 ∈ AW := AW_in 65 (by decide +kernel) rfl
theorem wi_X3 : Cond.initialized RX3 ∈ AW := AW_in 66 (by decide +kernel) rfl
theorem wi_X2 : Cond.initialized RX2 ∈ AW := AW_in 67 (by decide +kernel) rfl
theorem wi_X7 : Cond.initialized RX7 ∈ AW := AW_in 68 (by decide +kernel) rfl
theorem wi_X4 : Cond.initialized RX4 ∈ AW := AW_in 69 (by decide +kernel) rfl
theorem wi_X1 : Cond.initialized RX1 ∈ AW := AW_in 70 (by decide +kernel) rfl
theorem wi_X0 : Cond.initialized RX0 ∈ AW := AW_in 71 (by decide +kernel) rfl
theorem wi_X5 : Cond.initialized RX5 ∈ AW := AW_in 72 (by decide +kernel) rfl
theorem wi_X9 : Cond.initialized RX9 ∈ AW := AW_in 73 (by decide +kernel) rfl
theorem wi_J10 : Cond.initialized RJ10 ∈ AW := AW_in 74 (by decide +kernel) rfl
theorem wi_J9 : Cond.initialized RJ9 ∈ AW := AW_in 75 (by decide +kernel) rfl
theorem wc_L_7 : Cond.classLink RL 7 RX8 ∈ AW := AW_in 76 (by decide +kernel) rfl
theorem wn_X8 : Cond.instantiable RX8 9 ∈ AW := AW_in 77 (by decide +kernel) rfl
theorem wm_L_9 : Cond.methodLink RL 9 yX8_init ∈ AW := AW_in 78 (by decide +kernel) rfl
theorem wm_X8_1 : Cond.methodLink RX8 1 objectInit ∈ AW := AW_in 81 (by decide +kernel) rfl
theorem wc_X8_7 : Cond.classLink RX8 7 RX6 ∈ AW := AW_in 84 (by decide +kernel) rfl
theorem wn_X6 : Cond.instantiable RX6 3 ∈ AW := AW_in 85 (by decide +kernel) rfl
theorem wm_X8_9 : Cond.methodLinkNest RX8 9 yX6_init "MovedBlocks" ∈ NW := NW_in 86 (by decide +kernel) rfl
theorem wm_X6_3 : Cond.methodLink RX6 3 objectInit ∈ AW := AW_in 89 (by decide +kernel) rfl
theorem wc_X6_9 : Cond.classLink RX6 9 RX3 ∈ AW := AW_in 90 (by decide +kernel) rfl
theorem wn_X3 : Cond.instantiable RX3 4 ∈ AW := AW_in 91 (by decide +kernel) rfl
theorem wm_X6_11 : Cond.methodLinkNest RX6 11 yX3_init "MovedBlocks" ∈ NW := NW_in 92 (by decide +kernel) rfl
theorem wm_X3_3 : Cond.methodLink RX3 3 objectInit ∈ AW := AW_in 95 (by decide +kernel) rfl
theorem wc_X3_9 : Cond.classLink RX3 9 RX2 ∈ AW := AW_in 96 (by decide +kernel) rfl
theorem wn_X2 : Cond.instantiable RX2 1 ∈ AW := AW_in 97 (by decide +kernel) rfl
theorem wm_X3_11 : Cond.methodLinkNest RX3 11 yX2_init "MovedBlocks" ∈ NW := NW_in 98 (by decide +kernel) rfl
theorem wm_X2_3 : Cond.methodLink RX2 3 objectInit ∈ AW := AW_in 101 (by decide +kernel) rfl
theorem wf_X2_9 : Cond.fieldLink RX2 9 "MovedBlocks$Picture" "dots" "[I" ∈ AW := AW_in 102 (by decide +kernel) rfl
theorem wf_X3_28 : Cond.fieldLinkNest RX3 28 "MovedBlocks$Picture" "dots" "[I" "MovedBlocks" ∈ NW := NW_in 103 (by decide +kernel) rfl
theorem wf_X8_151 : Cond.fieldLinkNest RX8 151 "MovedBlocks$Picture" "dots" "[I" "MovedBlocks" ∈ NW := NW_in 104 (by decide +kernel) rfl
theorem ly_2_0 : u_lay RX2 TX2 0 ∈ AW := AW_in 105 (by decide +kernel) rfl
theorem wa_int : Cond.arrayClass .int ∈ AW := AW_in 108 (by decide +kernel) rfl
theorem wf_X3_12 : Cond.fieldLink RX3 12 "MovedBlocks$Scene" "old" "LMovedBlocks$Picture;" ∈ AW := AW_in 109 (by decide +kernel) rfl
theorem wf_X1_32 : Cond.fieldLinkNest RX1 32 "MovedBlocks$Scene" "old" "LMovedBlocks$Picture;" "MovedBlocks" ∈ NW := NW_in 110 (by decide +kernel) rfl
theorem wf_X0_32 : Cond.fieldLinkNest RX0 32 "MovedBlocks$Scene" "old" "LMovedBlocks$Picture;" "MovedBlocks" ∈ NW := NW_in 111 (by decide +kernel) rfl
theorem wf_X8_85 : Cond.fieldLinkNest RX8 85 "MovedBlocks$Scene" "old" "LMovedBlocks$Picture;" "MovedBlocks" ∈ NW := NW_in 112 (by decide +kernel) rfl
theorem wf_X4_88 : Cond.fieldLinkNest RX4 88 "MovedBlocks$Scene" "old" "LMovedBlocks$Picture;" "MovedBlocks" ∈ NW := NW_in 113 (by decide +kernel) rfl
theorem wf_X3_18 : Cond.fieldLink RX3 18 "MovedBlocks$Scene" "now" "LMovedBlocks$Picture;" ∈ AW := AW_in 114 (by decide +kernel) rfl
theorem wf_X0_50 : Cond.fieldLinkNest RX0 50 "MovedBlocks$Scene" "now" "LMovedBlocks$Picture;" "MovedBlocks" ∈ NW := NW_in 115 (by decide +kernel) rfl
theorem wf_X1_48 : Cond.fieldLinkNest RX1 48 "MovedBlocks$Scene" "now" "LMovedBlocks$Picture;" "MovedBlocks" ∈ NW := NW_in 116 (by decide +kernel) rfl
theorem wf_X8_99 : Cond.fieldLinkNest RX8 99 "MovedBlocks$Scene" "now" "LMovedBlocks$Picture;" "MovedBlocks" ∈ NW := NW_in 117 (by decide +kernel) rfl
theorem wf_X4_79 : Cond.fieldLinkNest RX4 79 "MovedBlocks$Scene" "now" "LMovedBlocks$Picture;" "MovedBlocks" ∈ NW := NW_in 118 (by decide +kernel) rfl
theorem wf_X3_21 : Cond.fieldLink RX3 21 "MovedBlocks$Scene" "kind" "I" ∈ AW := AW_in 119 (by decide +kernel) rfl
theorem wf_X8_113 : Cond.fieldLinkNest RX8 113 "MovedBlocks$Scene" "kind" "I" "MovedBlocks" ∈ NW := NW_in 120 (by decide +kernel) rfl
theorem wf_X4_71 : Cond.fieldLinkNest RX4 71 "MovedBlocks$Scene" "kind" "I" "MovedBlocks" ∈ NW := NW_in 121 (by decide +kernel) rfl
theorem wf_X3_25 : Cond.fieldLink RX3 25 "MovedBlocks$Scene" "draw" "I" ∈ AW := AW_in 122 (by decide +kernel) rfl
theorem wf_X8_163 : Cond.fieldLinkNest RX8 163 "MovedBlocks$Scene" "draw" "I" "MovedBlocks" ∈ NW := NW_in 123 (by decide +kernel) rfl
theorem ly_3_0 : u_lay RX3 TX3 0 ∈ AW := AW_in 124 (by decide +kernel) rfl
theorem ly_3_1 : u_lay RX3 TX3 1 ∈ AW := AW_in 126 (by decide +kernel) rfl
theorem ly_3_2 : u_lay RX3 TX3 2 ∈ AW := AW_in 128 (by decide +kernel) rfl
theorem ly_3_3 : u_lay RX3 TX3 3 ∈ AW := AW_in 130 (by decide +kernel) rfl
theorem wo_X3 : Cond.arrayOver (.object "MovedBlocks$Scene") ∈ NW := NW_in 133 (by decide +kernel) rfl
theorem wf_X6_12 : Cond.fieldLink RX6 12 "MovedBlocks$Story" "scene" "LMovedBlocks$Scene;" ∈ AW := AW_in 134 (by decide +kernel) rfl
theorem wf_X8_82 : Cond.fieldLinkNest RX8 82 "MovedBlocks$Story" "scene" "LMovedBlocks$Scene;" "MovedBlocks" ∈ NW := NW_in 135 (by decide +kernel) rfl
theorem wf_X6_18 : Cond.fieldLink RX6 18 "MovedBlocks$Story" "past" "[LMovedBlocks$Scene;" ∈ AW := AW_in 136 (by decide +kernel) rfl
theorem wf_X6_22 : Cond.fieldLink RX6 22 "MovedBlocks$Story" "known" "I" ∈ AW := AW_in 137 (by decide +kernel) rfl
theorem wf_X8_102 : Cond.fieldLinkNest RX8 102 "MovedBlocks$Story" "known" "I" "MovedBlocks" ∈ NW := NW_in 138 (by decide +kernel) rfl
theorem ly_6_0 : u_lay RX6 TX6 0 ∈ AW := AW_in 139 (by decide +kernel) rfl
theorem ly_6_1 : u_lay RX6 TX6 1 ∈ AW := AW_in 141 (by decide +kernel) rfl
theorem ly_6_2 : u_lay RX6 TX6 2 ∈ AW := AW_in 143 (by decide +kernel) rfl
theorem wc_X8_23 : Cond.classLink RX8 23 RX7 ∈ AW := AW_in 146 (by decide +kernel) rfl
theorem wn_X7 : Cond.instantiable RX7 5 ∈ AW := AW_in 147 (by decide +kernel) rfl
theorem wm_X8_25 : Cond.methodLinkNest RX8 25 yX7_init "MovedBlocks" ∈ NW := NW_in 148 (by decide +kernel) rfl
theorem wm_X7_3 : Cond.methodLink RX7 3 objectInit ∈ AW := AW_in 151 (by decide +kernel) rfl
theorem wf_X7_9 : Cond.fieldLink RX7 9 "MovedBlocks$Tape" "letters" "[I" ∈ AW := AW_in 152 (by decide +kernel) rfl
theorem wf_X7_15 : Cond.fieldLink RX7 15 "MovedBlocks$Tape" "size" "I" ∈ AW := AW_in 153 (by decide +kernel) rfl
theorem wf_X8_70 : Cond.fieldLinkNest RX8 70 "MovedBlocks$Tape" "size" "I" "MovedBlocks" ∈ NW := NW_in 154 (by decide +kernel) rfl
theorem wf_X7_19 : Cond.fieldLink RX7 19 "MovedBlocks$Tape" "dots" "[I" ∈ AW := AW_in 155 (by decide +kernel) rfl
theorem wf_X8_89 : Cond.fieldLinkNest RX8 89 "MovedBlocks$Tape" "dots" "[I" "MovedBlocks" ∈ NW := NW_in 156 (by decide +kernel) rfl
theorem wf_X7_22 : Cond.fieldLink RX7 22 "MovedBlocks$Tape" "told" "I" ∈ AW := AW_in 157 (by decide +kernel) rfl
theorem wf_X7_25 : Cond.fieldLink RX7 25 "MovedBlocks$Tape" "target" "I" ∈ AW := AW_in 158 (by decide +kernel) rfl
theorem wf_X8_79 : Cond.fieldLinkNest RX8 79 "MovedBlocks$Tape" "target" "I" "MovedBlocks" ∈ NW := NW_in 159 (by decide +kernel) rfl
theorem ly_7_0 : u_lay RX7 TX7 0 ∈ AW := AW_in 160 (by decide +kernel) rfl
theorem ly_7_1 : u_lay RX7 TX7 1 ∈ AW := AW_in 162 (by decide +kernel) rfl
theorem ly_7_2 : u_lay RX7 TX7 2 ∈ AW := AW_in 164 (by decide +kernel) rfl
theorem ly_7_3 : u_lay RX7 TX7 3 ∈ AW := AW_in 166 (by decide +kernel) rfl
theorem ly_7_4 : u_lay RX7 TX7 4 ∈ AW := AW_in 168 (by decide +kernel) rfl
theorem wc_X8_30 : Cond.classLink RX8 30 RX4 ∈ AW := AW_in 171 (by decide +kernel) rfl
theorem wn_X4 : Cond.instantiable RX4 4 ∈ AW := AW_in 172 (by decide +kernel) rfl
theorem wm_X8_32 : Cond.methodLinkNest RX8 32 yX4_init "MovedBlocks" ∈ NW := NW_in 173 (by decide +kernel) rfl
theorem wm_X4_3 : Cond.methodLink RX4 3 objectInit ∈ AW := AW_in 176 (by decide +kernel) rfl
theorem wf_X4_9 : Cond.fieldLink RX4 9 "MovedBlocks$Search" "move" "I" ∈ AW := AW_in 177 (by decide +kernel) rfl
theorem wf_X0_24 : Cond.fieldLinkNest RX0 24 "MovedBlocks$Search" "move" "I" "MovedBlocks" ∈ NW := NW_in 178 (by decide +kernel) rfl
theorem wf_X8_134 : Cond.fieldLinkNest RX8 134 "MovedBlocks$Search" "move" "I" "MovedBlocks" ∈ NW := NW_in 179 (by decide +kernel) rfl
theorem wf_X4_15 : Cond.fieldLink RX4 15 "MovedBlocks$Search" "cost" "I" ∈ AW := AW_in 180 (by decide +kernel) rfl
theorem wf_X8_137 : Cond.fieldLinkNest RX8 137 "MovedBlocks$Search" "cost" "I" "MovedBlocks" ∈ NW := NW_in 181 (by decide +kernel) rfl
theorem wf_X4_18 : Cond.fieldLink RX4 18 "MovedBlocks$Search" "looks" "I" ∈ AW := AW_in 182 (by decide +kernel) rfl
theorem wf_X8_271 : Cond.fieldLinkNest RX8 271 "MovedBlocks$Search" "looks" "I" "MovedBlocks" ∈ NW := NW_in 183 (by decide +kernel) rfl
theorem wf_X4_21 : Cond.fieldLink RX4 21 "MovedBlocks$Search" "leftOut" "I" ∈ AW := AW_in 184 (by decide +kernel) rfl
theorem wf_X8_268 : Cond.fieldLinkNest RX8 268 "MovedBlocks$Search" "leftOut" "I" "MovedBlocks" ∈ NW := NW_in 185 (by decide +kernel) rfl
theorem ly_4_0 : u_lay RX4 TX4 0 ∈ AW := AW_in 186 (by decide +kernel) rfl
theorem ly_4_1 : u_lay RX4 TX4 1 ∈ AW := AW_in 188 (by decide +kernel) rfl
theorem ly_4_2 : u_lay RX4 TX4 2 ∈ AW := AW_in 190 (by decide +kernel) rfl
theorem ly_4_3 : u_lay RX4 TX4 3 ∈ AW := AW_in 192 (by decide +kernel) rfl
theorem wc_X8_37 : Cond.classLink RX8 37 RX1 ∈ AW := AW_in 195 (by decide +kernel) rfl
theorem wn_X1 : Cond.instantiable RX1 2 ∈ AW := AW_in 196 (by decide +kernel) rfl
theorem wm_X8_39 : Cond.methodLinkNest RX8 39 yX1_init "MovedBlocks" ∈ NW := NW_in 197 (by decide +kernel) rfl
theorem wm_X1_3 : Cond.methodLink RX1 3 objectInit ∈ AW := AW_in 200 (by decide +kernel) rfl
theorem wf_X1_9 : Cond.fieldLink RX1 9 "MovedBlocks$Halves" "found" "I" ∈ AW := AW_in 201 (by decide +kernel) rfl
theorem wf_X8_182 : Cond.fieldLinkNest RX8 182 "MovedBlocks$Halves" "found" "I" "MovedBlocks" ∈ NW := NW_in 202 (by decide +kernel) rfl
theorem wf_X1_15 : Cond.fieldLink RX1 15 "MovedBlocks$Halves" "cost" "I" ∈ AW := AW_in 203 (by decide +kernel) rfl
theorem wf_X8_185 : Cond.fieldLinkNest RX8 185 "MovedBlocks$Halves" "cost" "I" "MovedBlocks" ∈ NW := NW_in 204 (by decide +kernel) rfl
theorem ly_1_0 : u_lay RX1 TX1 0 ∈ AW := AW_in 205 (by decide +kernel) rfl
theorem ly_1_1 : u_lay RX1 TX1 1 ∈ AW := AW_in 207 (by decide +kernel) rfl
theorem wc_X8_44 : Cond.classLink RX8 44 RX0 ∈ AW := AW_in 210 (by decide +kernel) rfl
theorem wn_X0 : Cond.instantiable RX0 2 ∈ AW := AW_in 211 (by decide +kernel) rfl
theorem wm_X8_46 : Cond.methodLinkNest RX8 46 yX0_init "MovedBlocks" ∈ NW := NW_in 212 (by decide +kernel) rfl
theorem wm_X0_3 : Cond.methodLink RX0 3 objectInit ∈ AW := AW_in 215 (by decide +kernel) rfl
theorem wf_X0_9 : Cond.fieldLink RX0 9 "MovedBlocks$Field" "moves" "[I" ∈ AW := AW_in 216 (by decide +kernel) rfl
theorem wf_X0_15 : Cond.fieldLink RX0 15 "MovedBlocks$Field" "near" "[I" ∈ AW := AW_in 217 (by decide +kernel) rfl
theorem ly_0_0 : u_lay RX0 TX0 0 ∈ AW := AW_in 218 (by decide +kernel) rfl
theorem ly_0_1 : u_lay RX0 TX0 1 ∈ AW := AW_in 220 (by decide +kernel) rfl
theorem wc_X8_51 : Cond.classLink RX8 51 RX3 ∈ AW := AW_in 223 (by decide +kernel) rfl
theorem wm_X8_53 : Cond.methodLinkNest RX8 53 yX3_init "MovedBlocks" ∈ NW := NW_in 224 (by decide +kernel) rfl
theorem wc_X8_58 : Cond.classLink RX8 58 RX5 ∈ AW := AW_in 225 (by decide +kernel) rfl
theorem wo_X5 : Cond.arrayOver (.object "MovedBlocks$Sheet") ∈ NW := NW_in 226 (by decide +kernel) rfl
theorem wn_X5 : Cond.instantiable RX5 4 ∈ AW := AW_in 227 (by decide +kernel) rfl
theorem wm_X8_64 : Cond.methodLinkNest RX8 64 yX5_init "MovedBlocks" ∈ NW := NW_in 228 (by decide +kernel) rfl
theorem wm_X5_3 : Cond.methodLink RX5 3 objectInit ∈ AW := AW_in 231 (by decide +kernel) rfl
theorem wf_X5_9 : Cond.fieldLink RX5 9 "MovedBlocks$Sheet" "items" "[J" ∈ AW := AW_in 232 (by decide +kernel) rfl
theorem wf_X8_255 : Cond.fieldLinkNest RX8 255 "MovedBlocks$Sheet" "items" "[J" "MovedBlocks" ∈ NW := NW_in 233 (by decide +kernel) rfl
theorem wf_X5_15 : Cond.fieldLink RX5 15 "MovedBlocks$Sheet" "isHeld" "Z" ∈ AW := AW_in 234 (by decide +kernel) rfl
theorem wf_X8_242 : Cond.fieldLinkNest RX8 242 "MovedBlocks$Sheet" "isHeld" "Z" "MovedBlocks" ∈ NW := NW_in 235 (by decide +kernel) rfl
theorem wf_X5_19 : Cond.fieldLink RX5 19 "MovedBlocks$Sheet" "lane" "I" ∈ AW := AW_in 236 (by decide +kernel) rfl
theorem wf_X8_247 : Cond.fieldLinkNest RX8 247 "MovedBlocks$Sheet" "lane" "I" "MovedBlocks" ∈ NW := NW_in 237 (by decide +kernel) rfl
theorem wf_X5_23 : Cond.fieldLink RX5 23 "MovedBlocks$Sheet" "size" "I" ∈ AW := AW_in 238 (by decide +kernel) rfl
theorem wf_X8_246 : Cond.fieldLinkNest RX8 246 "MovedBlocks$Sheet" "size" "I" "MovedBlocks" ∈ NW := NW_in 239 (by decide +kernel) rfl
theorem ly_5_0 : u_lay RX5 TX5 0 ∈ AW := AW_in 240 (by decide +kernel) rfl
theorem ly_5_1 : u_lay RX5 TX5 1 ∈ AW := AW_in 242 (by decide +kernel) rfl
theorem ly_5_2 : u_lay RX5 TX5 2 ∈ AW := AW_in 244 (by decide +kernel) rfl
theorem ly_5_3 : u_lay RX5 TX5 3 ∈ AW := AW_in 246 (by decide +kernel) rfl
theorem wa_long : Cond.arrayClass .long ∈ AW := AW_in 249 (by decide +kernel) rfl
theorem wf_X8_10 : Cond.fieldLink RX8 10 "MovedBlocks" "story" "LMovedBlocks$Story;" ∈ AW := AW_in 250 (by decide +kernel) rfl
theorem wf_X8_16 : Cond.fieldLink RX8 16 "MovedBlocks" "kept" "LMovedBlocks$Story;" ∈ AW := AW_in 251 (by decide +kernel) rfl
theorem wf_X8_19 : Cond.fieldLink RX8 19 "MovedBlocks" "isKept" "Z" ∈ AW := AW_in 252 (by decide +kernel) rfl
theorem wf_X8_26 : Cond.fieldLink RX8 26 "MovedBlocks" "tape" "LMovedBlocks$Tape;" ∈ AW := AW_in 253 (by decide +kernel) rfl
theorem wf_X8_33 : Cond.fieldLink RX8 33 "MovedBlocks" "search" "LMovedBlocks$Search;" ∈ AW := AW_in 254 (by decide +kernel) rfl
theorem wf_X8_40 : Cond.fieldLink RX8 40 "MovedBlocks" "halves" "LMovedBlocks$Halves;" ∈ AW := AW_in 255 (by decide +kernel) rfl
theorem wf_X8_47 : Cond.fieldLink RX8 47 "MovedBlocks" "field" "LMovedBlocks$Field;" ∈ AW := AW_in 256 (by decide +kernel) rfl
theorem wf_X8_54 : Cond.fieldLink RX8 54 "MovedBlocks" "spare" "LMovedBlocks$Scene;" ∈ AW := AW_in 257 (by decide +kernel) rfl
theorem wf_X8_60 : Cond.fieldLink RX8 60 "MovedBlocks" "sheets" "[LMovedBlocks$Sheet;" ∈ AW := AW_in 258 (by decide +kernel) rfl
theorem ly_8_0 : u_lay RX8 TX8 0 ∈ AW := AW_in 259 (by decide +kernel) rfl
theorem ly_8_1 : u_lay RX8 TX8 1 ∈ AW := AW_in 261 (by decide +kernel) rfl
theorem ly_8_2 : u_lay RX8 TX8 2 ∈ AW := AW_in 263 (by decide +kernel) rfl
theorem ly_8_3 : u_lay RX8 TX8 3 ∈ AW := AW_in 265 (by decide +kernel) rfl
theorem ly_8_4 : u_lay RX8 TX8 4 ∈ AW := AW_in 267 (by decide +kernel) rfl
theorem ly_8_5 : u_lay RX8 TX8 5 ∈ AW := AW_in 269 (by decide +kernel) rfl
theorem ly_8_6 : u_lay RX8 TX8 6 ∈ AW := AW_in 271 (by decide +kernel) rfl
theorem ly_8_7 : u_lay RX8 TX8 7 ∈ AW := AW_in 273 (by decide +kernel) rfl
theorem ly_8_8 : u_lay RX8 TX8 8 ∈ AW := AW_in 275 (by decide +kernel) rfl
theorem wm_L_13 : Cond.methodLink RL 13 yX8_type ∈ AW := AW_in 278 (by decide +kernel) rfl
theorem wk_X8_65 : Cond.constant RX8 65 (-1000001) ∈ AW := AW_in 282 (by decide +kernel) rfl
theorem wm_X8_66 : Cond.methodLinkNest RX8 66 yX7_add "MovedBlocks" ∈ NW := NW_in 283 (by decide +kernel) rfl
theorem wk_X8_74 : Cond.constant RX8 74 (-1000003) ∈ AW := AW_in 287 (by decide +kernel) rfl
theorem wm_L_18 : Cond.methodLink RL 18 yX8_picture ∈ AW := AW_in 288 (by decide +kernel) rfl
theorem wm_X8_75 : Cond.methodLinkNest RX8 75 yX7_read "MovedBlocks" ∈ NW := NW_in 292 (by decide +kernel) rfl
theorem wm_X7_28 : Cond.methodLink RX7 28 yX7_canStand ∈ AW := AW_in 296 (by decide +kernel) rfl
theorem wk_X7_32 : Cond.constant RX7 32 (-1000020) ∈ AW := AW_in 300 (by decide +kernel) rfl
theorem wm_X7_33 : Cond.methodLink RX7 33 yX7_tell ∈ AW := AW_in 301 (by decide +kernel) rfl
theorem wm_X8_93 : Cond.methodLinkNest RX8 93 yX2_become "MovedBlocks" ∈ NW := NW_in 305 (by decide +kernel) rfl
theorem wm_X2_24 : Cond.methodLink RX2 24 arraycopyName ∈ AW := AW_in 309 (by decide +kernel) rfl
theorem w_ncp : Cond.native arraycopyName ∈ AW := AW_in 311 (by decide +kernel) rfl
theorem wm_L_23 : Cond.methodLink RL 23 yX8_dot ∈ AW := AW_in 312 (by decide +kernel) rfl
theorem wm_X8_105 : Cond.methodLink RX8 105 yX8_isWithin ∈ AW := AW_in 316 (by decide +kernel) rfl
theorem wm_X8_109 : Cond.methodLinkNest RX8 109 yX2_at "MovedBlocks" ∈ NW := NW_in 319 (by decide +kernel) rfl
theorem wm_X2_15 : Cond.methodLink RX2 15 Lib.Math.min.name ∈ AW := AW_in 323 (by decide +kernel) rfl
theorem wm_X2_21 : Cond.methodLink RX2 21 Lib.Math.max.name ∈ AW := AW_in 326 (by decide +kernel) rfl
theorem wm_L_28 : Cond.methodLink RL 28 yX8_count ∈ AW := AW_in 329 (by decide +kernel) rfl
theorem wm_X8_116 : Cond.methodLink RX8 116 yX8_allCosts ∈ AW := AW_in 333 (by decide +kernel) rfl
theorem wm_X8_174 : Cond.methodLinkNest RX8 174 yX4_best "MovedBlocks" ∈ NW := NW_in 337 (by decide +kernel) rfl
theorem wm_X4_24 : Cond.methodLink RX4 24 yX4_tryMoves ∈ AW := AW_in 341 (by decide +kernel) rfl
theorem wk_X4_45 : Cond.constant RX4 45 (2147483647) ∈ AW := AW_in 345 (by decide +kernel) rfl
theorem wf_X4_46 : Cond.fieldLinkNest RX4 46 "MovedBlocks" "ORDER" "[I" "MovedBlocks" ∈ NW := NW_in 346 (by decide +kernel) rfl
theorem wm_X4_58 : Cond.methodLink RX4 58 yX4_isNear ∈ AW := AW_in 348 (by decide +kernel) rfl
theorem wm_X4_32 : Cond.methodLinkNest RX4 32 yX8_xOf "MovedBlocks" ∈ NW := NW_in 351 (by decide +kernel) rfl
theorem wm_X4_91 : Cond.methodLink RX4 91 Lib.Math.abs.name ∈ AW := AW_in 354 (by decide +kernel) rfl
theorem wm_X4_36 : Cond.methodLinkNest RX4 36 yX8_yOf "MovedBlocks" ∈ NW := NW_in 357 (by decide +kernel) rfl
theorem wm_X4_62 : Cond.methodLink RX4 62 yX4_sumsApart ∈ AW := AW_in 360 (by decide +kernel) rfl
theorem wm_X4_65 : Cond.methodLinkNest RX4 65 yX8_firstColumn "MovedBlocks" ∈ NW := NW_in 363 (by decide +kernel) rfl
theorem wm_X4_68 : Cond.methodLinkNest RX4 68 yX8_firstRow "MovedBlocks" ∈ NW := NW_in 366 (by decide +kernel) rfl
theorem wm_X4_83 : Cond.methodLinkNest RX4 83 yX2_at "MovedBlocks" ∈ NW := NW_in 369 (by decide +kernel) rfl
theorem wm_X4_54 : Cond.methodLink RX4 54 yX4_costBelow ∈ AW := AW_in 370 (by decide +kernel) rfl
theorem wm_X4_76 : Cond.methodLinkNest RX4 76 yX8_stepsOf "MovedBlocks" ∈ NW := NW_in 374 (by decide +kernel) rfl
theorem wm_X8_195 : Cond.methodLink RX8 195 yX8_xOf ∈ AW := AW_in 377 (by decide +kernel) rfl
theorem wm_X8_276 : Cond.methodLink RX8 276 Lib.Math.abs.name ∈ AW := AW_in 378 (by decide +kernel) rfl
theorem wm_X8_199 : Cond.methodLink RX8 199 yX8_yOf ∈ AW := AW_in 379 (by decide +kernel) rfl
theorem wm_X4_96 : Cond.methodLink RX4 96 yX4_dotCost ∈ AW := AW_in 380 (by decide +kernel) rfl
theorem wm_X4_100 : Cond.methodLink RX4 100 yX4_isAtEdge ∈ AW := AW_in 383 (by decide +kernel) rfl
theorem wm_X4_104 : Cond.methodLink RX4 104 Lib.Math.min.name ∈ AW := AW_in 386 (by decide +kernel) rfl
theorem wm_X8_119 : Cond.methodLinkNest RX8 119 yX0_fill "MovedBlocks" ∈ NW := NW_in 387 (by decide +kernel) rfl
theorem wm_X0_18 : Cond.methodLinkNest RX0 18 yX4_best "MovedBlocks" ∈ NW := NW_in 391 (by decide +kernel) rfl
theorem wm_X8_123 : Cond.methodLinkNest RX8 123 yX0_length "MovedBlocks" ∈ NW := NW_in 392 (by decide +kernel) rfl
theorem wm_X0_38 : Cond.methodLinkNest RX0 38 yX8_xOf "MovedBlocks" ∈ NW := NW_in 396 (by decide +kernel) rfl
theorem wm_X0_53 : Cond.methodLink RX0 53 yX0_foretold ∈ AW := AW_in 397 (by decide +kernel) rfl
theorem wm_X0_60 : Cond.methodLink RX0 60 yX0_partOf ∈ AW := AW_in 401 (by decide +kernel) rfl
theorem wm_X0_42 : Cond.methodLinkNest RX0 42 yX8_yOf "MovedBlocks" ∈ NW := NW_in 405 (by decide +kernel) rfl
theorem wm_X0_63 : Cond.methodLink RX0 63 yX0_middle ∈ AW := AW_in 406 (by decide +kernel) rfl
theorem wm_X0_66 : Cond.methodLink RX0 66 Lib.Math.min.name ∈ AW := AW_in 410 (by decide +kernel) rfl
theorem wm_X0_71 : Cond.methodLink RX0 71 Lib.Math.max.name ∈ AW := AW_in 411 (by decide +kernel) rfl
theorem wm_X0_57 : Cond.methodLink RX0 57 yX0_bitsOf ∈ AW := AW_in 412 (by decide +kernel) rfl
theorem wm_X0_74 : Cond.methodLink RX0 74 Lib.Math.abs.name ∈ AW := AW_in 415 (by decide +kernel) rfl
theorem wm_X8_126 : Cond.methodLinkNest RX8 126 yX0_lacks "MovedBlocks" ∈ NW := NW_in 416 (by decide +kernel) rfl
theorem wm_X0_28 : Cond.methodLinkNest RX0 28 yX8_blockAt "MovedBlocks" ∈ NW := NW_in 420 (by decide +kernel) rfl
theorem wm_X0_45 : Cond.methodLinkNest RX0 45 yX2_at "MovedBlocks" ∈ NW := NW_in 423 (by decide +kernel) rfl
theorem wm_X8_130 : Cond.methodLinkNest RX8 130 yX4_pan "MovedBlocks" ∈ NW := NW_in 424 (by decide +kernel) rfl
theorem wm_X4_50 : Cond.methodLink RX4 50 yX4_wholeCost ∈ AW := AW_in 428 (by decide +kernel) rfl
theorem wm_X8_140 : Cond.methodLink RX8 140 yX8_blocksNotQuick ∈ AW := AW_in 432 (by decide +kernel) rfl
theorem wm_X8_186 : Cond.methodLinkNest RX8 186 yX4_quick "MovedBlocks" ∈ NW := NW_in 436 (by decide +kernel) rfl
theorem wm_X4_28 : Cond.methodLink RX4 28 yX4_smallMove ∈ AW := AW_in 440 (by decide +kernel) rfl
theorem wm_X4_107 : Cond.methodLink RX4 107 yX4_smallCost ∈ AW := AW_in 443 (by decide +kernel) rfl
theorem wm_X4_110 : Cond.methodLinkNest RX4 110 yX2_halfAt "MovedBlocks" ∈ NW := NW_in 446 (by decide +kernel) rfl
theorem wm_X4_39 : Cond.methodLinkNest RX4 39 yX8_moveBy "MovedBlocks" ∈ NW := NW_in 450 (by decide +kernel) rfl
theorem wm_L_32 : Cond.methodLink RL 32 yX8_paint ∈ AW := AW_in 453 (by decide +kernel) rfl
theorem wm_X8_143 : Cond.methodLink RX8 143 yX8_isInPicture ∈ AW := AW_in 457 (by decide +kernel) rfl
theorem wk_X8_147 : Cond.constant RX8 147 (-1000002) ∈ AW := AW_in 460 (by decide +kernel) rfl
theorem wm_X8_148 : Cond.methodLinkNest RX8 148 yX6_keep "MovedBlocks" ∈ NW := NW_in 461 (by decide +kernel) rfl
theorem wm_X6_26 : Cond.methodLink RX6 26 yX6_loseOldest ∈ AW := AW_in 465 (by decide +kernel) rfl
theorem wm_X6_29 : Cond.methodLinkNest RX6 29 yX3_become "MovedBlocks" ∈ NW := NW_in 469 (by decide +kernel) rfl
theorem wm_X3_32 : Cond.methodLinkNest RX3 32 yX2_become "MovedBlocks" ∈ NW := NW_in 473 (by decide +kernel) rfl
theorem wm_L_36 : Cond.methodLink RL 36 yX8_shift ∈ AW := AW_in 474 (by decide +kernel) rfl
theorem wm_X8_152 : Cond.methodLinkNest RX8 152 yX2_othersThan "MovedBlocks" ∈ NW := NW_in 478 (by decide +kernel) rfl
theorem wm_L_41 : Cond.methodLink RL 41 yX8_take ∈ AW := AW_in 482 (by decide +kernel) rfl
theorem wm_L_45 : Cond.methodLink RL 45 yX8_like ∈ AW := AW_in 486 (by decide +kernel) rfl
theorem wm_L_49 : Cond.methodLink RL 49 yX8_noise ∈ AW := AW_in 490 (by decide +kernel) rfl
theorem wm_X8_156 : Cond.methodLinkNest RX8 156 yX3_turn "MovedBlocks" ∈ NW := NW_in 494 (by decide +kernel) rfl
theorem wk_X3_36 : Cond.constant RX3 36 (1103515245) ∈ AW := AW_in 498 (by decide +kernel) rfl
theorem wk_X3_39 : Cond.constant RX3 39 (2147483647) ∈ AW := AW_in 499 (by decide +kernel) rfl
theorem wk_X3_40 : Cond.constant RX3 40 (65536) ∈ AW := AW_in 500 (by decide +kernel) rfl
theorem wm_L_53 : Cond.methodLink RL 53 yX8_undo ∈ AW := AW_in 501 (by decide +kernel) rfl
theorem wk_X8_159 : Cond.constant RX8 159 (-1000004) ∈ AW := AW_in 505 (by decide +kernel) rfl
theorem wm_X8_160 : Cond.methodLinkNest RX8 160 yX6_goBack "MovedBlocks" ∈ NW := NW_in 506 (by decide +kernel) rfl
theorem wm_L_57 : Cond.methodLink RL 57 yX8_seed ∈ AW := AW_in 510 (by decide +kernel) rfl
theorem wm_L_61 : Cond.methodLink RL 61 yX8_cost ∈ AW := AW_in 514 (by decide +kernel) rfl
theorem wm_X8_166 : Cond.methodLinkNest RX8 166 yX4_wholeCost "MovedBlocks" ∈ NW := NW_in 518 (by decide +kernel) rfl
theorem wm_L_65 : Cond.methodLink RL 65 yX8_of ∈ AW := AW_in 519 (by decide +kernel) rfl
theorem wm_X8_170 : Cond.methodLinkNest RX8 170 yX0_foretold "MovedBlocks" ∈ NW := NW_in 523 (by decide +kernel) rfl
theorem wm_X8_178 : Cond.methodLinkNest RX8 178 yX1_look "MovedBlocks" ∈ NW := NW_in 524 (by decide +kernel) rfl
theorem wk_X1_20 : Cond.constant RX1 20 (2147483647) ∈ AW := AW_in 528 (by decide +kernel) rfl
theorem wm_X1_21 : Cond.methodLink RX1 21 yX1_costBy ∈ AW := AW_in 529 (by decide +kernel) rfl
theorem wm_X1_25 : Cond.methodLinkNest RX1 25 yX8_firstColumn "MovedBlocks" ∈ NW := NW_in 532 (by decide +kernel) rfl
theorem wm_X1_29 : Cond.methodLinkNest RX1 29 yX8_firstRow "MovedBlocks" ∈ NW := NW_in 533 (by decide +kernel) rfl
theorem wm_X1_38 : Cond.methodLinkNest RX1 38 yX8_xOf "MovedBlocks" ∈ NW := NW_in 534 (by decide +kernel) rfl
theorem wm_X1_41 : Cond.methodLinkNest RX1 41 yX8_yOf "MovedBlocks" ∈ NW := NW_in 535 (by decide +kernel) rfl
theorem wm_X1_44 : Cond.methodLink RX1 44 yX1_between ∈ AW := AW_in 536 (by decide +kernel) rfl
theorem wm_X1_51 : Cond.methodLinkNest RX1 51 yX2_at "MovedBlocks" ∈ NW := NW_in 539 (by decide +kernel) rfl
theorem wm_X1_57 : Cond.methodLink RX1 57 Lib.Math.abs.name ∈ AW := AW_in 540 (by decide +kernel) rfl
theorem wm_X8_189 : Cond.methodLink RX8 189 yX8_searched ∈ AW := AW_in 541 (by decide +kernel) rfl
theorem wm_X8_265 : Cond.methodLinkNest RX8 265 yX4_skim "MovedBlocks" ∈ NW := NW_in 545 (by decide +kernel) rfl
theorem wm_L_69 : Cond.methodLink RL 69 yX8_rebuilt ∈ AW := AW_in 549 (by decide +kernel) rfl
theorem wm_X8_192 : Cond.methodLink RX8 192 yX8_blockAt ∈ AW := AW_in 553 (by decide +kernel) rfl
theorem wm_L_73 : Cond.methodLink RL 73 yX8_wrong ∈ AW := AW_in 554 (by decide +kernel) rfl
theorem wm_X8_202 : Cond.methodLink RX8 202 Lib.Math.min.name ∈ AW := AW_in 558 (by decide +kernel) rfl
theorem wm_X8_207 : Cond.methodLink RX8 207 yX8_oddsAbove ∈ AW := AW_in 559 (by decide +kernel) rfl
theorem wm_X8_274 : Cond.methodLinkNest RX8 274 yX3_become "MovedBlocks" ∈ NW := NW_in 563 (by decide +kernel) rfl
theorem wm_X8_210 : Cond.methodLink RX8 210 yX8_power ∈ AW := AW_in 564 (by decide +kernel) rfl
theorem wm_X8_213 : Cond.methodLink RX8 213 yX8_commonDivisor ∈ AW := AW_in 567 (by decide +kernel) rfl
theorem wm_L_77 : Cond.methodLink RL 77 yX8_image ∈ AW := AW_in 570 (by decide +kernel) rfl
theorem wm_X8_216 : Cond.methodLinkNest RX8 216 yX6_become "MovedBlocks" ∈ NW := NW_in 574 (by decide +kernel) rfl
theorem wm_L_81 : Cond.methodLink RL 81 yX8_restore ∈ AW := AW_in 578 (by decide +kernel) rfl
theorem wm_L_85 : Cond.methodLink RL 85 yX8_found ∈ AW := AW_in 582 (by decide +kernel) rfl
theorem wm_X8_219 : Cond.methodLink RX8 219 yX8_isSheet ∈ AW := AW_in 586 (by decide +kernel) rfl
theorem wm_X8_222 : Cond.methodLink RX8 222 yX8_isLane ∈ AW := AW_in 589 (by decide +kernel) rfl
theorem wm_X8_225 : Cond.methodLinkNest RX8 225 yX5_refusal "MovedBlocks" ∈ NW := NW_in 592 (by decide +kernel) rfl
theorem wk_X5_26 : Cond.constant RX5 26 (-1000011) ∈ AW := AW_in 596 (by decide +kernel) rfl
theorem wk_X5_27 : Cond.constant RX5 27 (-1000012) ∈ AW := AW_in 597 (by decide +kernel) rfl
theorem wm_X5_28 : Cond.methodLink RX5 28 yX5_spans ∈ AW := AW_in 598 (by decide +kernel) rfl
theorem wk_X5_32 : Cond.constant RX5 32 (-1000013) ∈ AW := AW_in 602 (by decide +kernel) rfl
theorem wm_X8_229 : Cond.methodLink RX8 229 yX8_kindsOf ∈ AW := AW_in 603 (by decide +kernel) rfl
theorem wm_L_90 : Cond.methodLink RL 90 yX8_film ∈ AW := AW_in 607 (by decide +kernel) rfl
theorem wm_X8_233 : Cond.methodLinkNest RX8 233 yX5_put "MovedBlocks" ∈ NW := NW_in 611 (by decide +kernel) rfl
theorem wm_L_94 : Cond.methodLink RL 94 yX8_sheet ∈ AW := AW_in 615 (by decide +kernel) rfl
theorem wk_X8_237 : Cond.constant RX8 237 (-1000014) ∈ AW := AW_in 619 (by decide +kernel) rfl
theorem wm_X8_238 : Cond.methodLinkNest RX8 238 yX5_begin "MovedBlocks" ∈ NW := NW_in 620 (by decide +kernel) rfl
theorem wm_L_98 : Cond.methodLink RL 98 yX8_drop ∈ AW := AW_in 624 (by decide +kernel) rfl
theorem wk_X8_245 : Cond.constant RX8 245 (-1000011) ∈ AW := AW_in 628 (by decide +kernel) rfl
theorem wm_L_104 : Cond.methodLink RL 104 yX8_item ∈ AW := AW_in 629 (by decide +kernel) rfl
theorem wm_L_109 : Cond.methodLink RL 109 yX8_copy ∈ AW := AW_in 633 (by decide +kernel) rfl
theorem wk_X8_250 : Cond.constant RX8 250 (-1000012) ∈ AW := AW_in 637 (by decide +kernel) rfl
theorem wm_X8_251 : Cond.methodLinkNest RX8 251 yX5_spans "MovedBlocks" ∈ NW := NW_in 638 (by decide +kernel) rfl
theorem wk_X8_254 : Cond.constant RX8 254 (-1000013) ∈ AW := AW_in 639 (by decide +kernel) rfl
theorem wm_X8_259 : Cond.methodLink RX8 259 arraycopyName ∈ AW := AW_in 640 (by decide +kernel) rfl
theorem wc_L_10 : Cond.classLink RL 10 RX9 ∈ AW := AW_in 641 (by decide +kernel) rfl
theorem wn_X9 : Cond.instantiable RX9 19 ∈ AW := AW_in 642 (by decide +kernel) rfl
theorem wm_L_12 : Cond.methodLink RL 12 yX9_init ∈ AW := AW_in 643 (by decide +kernel) rfl
theorem wm_X9_1 : Cond.methodLink RX9 1 objectInit ∈ AW := AW_in 646 (by decide +kernel) rfl
theorem wm_X9_51 : Cond.methodLink RX9 51 yX9_farOf ∈ AW := AW_in 647 (by decide +kernel) rfl
theorem wm_X9_55 : Cond.methodLink RX9 55 yX9_xOf ∈ AW := AW_in 650 (by decide +kernel) rfl
theorem wm_X9_58 : Cond.methodLink RX9 58 yX9_sized ∈ AW := AW_in 653 (by decide +kernel) rfl
theorem wm_X9_61 : Cond.methodLink RX9 61 yX9_yOf ∈ AW := AW_in 656 (by decide +kernel) rfl
theorem wf_X9_7 : Cond.fieldLink RX9 7 "MovedBlocksModel" "now" "[I" ∈ AW := AW_in 659 (by decide +kernel) rfl
theorem wf_X9_13 : Cond.fieldLink RX9 13 "MovedBlocksModel" "order" "[I" ∈ AW := AW_in 660 (by decide +kernel) rfl
theorem wf_X9_93 : Cond.fieldLink RX9 93 "MovedBlocksModel" "looks" "I" ∈ AW := AW_in 661 (by decide +kernel) rfl
theorem wf_X9_96 : Cond.fieldLink RX9 96 "MovedBlocksModel" "out" "I" ∈ AW := AW_in 662 (by decide +kernel) rfl
theorem wf_X9_99 : Cond.fieldLink RX9 99 "MovedBlocksModel" "skimmed" "I" ∈ AW := AW_in 663 (by decide +kernel) rfl
theorem wf_X9_16 : Cond.fieldLink RX9 16 "MovedBlocksModel" "field" "[I" ∈ AW := AW_in 664 (by decide +kernel) rfl
theorem wf_X9_19 : Cond.fieldLink RX9 19 "MovedBlocksModel" "tape" "[I" ∈ AW := AW_in 665 (by decide +kernel) rfl
theorem wf_X9_173 : Cond.fieldLink RX9 173 "MovedBlocksModel" "taped" "I" ∈ AW := AW_in 666 (by decide +kernel) rfl
theorem wf_X9_177 : Cond.fieldLink RX9 177 "MovedBlocksModel" "place" "I" ∈ AW := AW_in 667 (by decide +kernel) rfl
theorem wf_X9_22 : Cond.fieldLink RX9 22 "MovedBlocksModel" "read" "[I" ∈ AW := AW_in 668 (by decide +kernel) rfl
theorem wf_X9_25 : Cond.fieldLink RX9 25 "MovedBlocksModel" "ahead" "[I" ∈ AW := AW_in 669 (by decide +kernel) rfl
theorem wf_X9_166 : Cond.fieldLink RX9 166 "MovedBlocksModel" "undos" "I" ∈ AW := AW_in 670 (by decide +kernel) rfl
theorem wf_X9_28 : Cond.fieldLink RX9 28 "MovedBlocksModel" "kept" "[I" ∈ AW := AW_in 671 (by decide +kernel) rfl
theorem wf_X9_31 : Cond.fieldLink RX9 31 "MovedBlocksModel" "keptAhead" "[I" ∈ AW := AW_in 672 (by decide +kernel) rfl
theorem wf_X9_34 : Cond.fieldLink RX9 34 "MovedBlocksModel" "keptUndos" "I" ∈ AW := AW_in 673 (by decide +kernel) rfl
theorem wf_X9_38 : Cond.fieldLink RX9 38 "MovedBlocksModel" "lanes" "[I" ∈ AW := AW_in 674 (by decide +kernel) rfl
theorem wf_X9_41 : Cond.fieldLink RX9 41 "MovedBlocksModel" "sizes" "[I" ∈ AW := AW_in 675 (by decide +kernel) rfl
theorem wf_X9_44 : Cond.fieldLink RX9 44 "MovedBlocksModel" "items" "[J" ∈ AW := AW_in 676 (by decide +kernel) rfl
theorem wf_X9_48 : Cond.fieldLink RX9 48 "MovedBlocksModel" "moved" "[J" ∈ AW := AW_in 677 (by decide +kernel) rfl
theorem ly_9_0 : u_lay RX9 TX9 0 ∈ AW := AW_in 678 (by decide +kernel) rfl
theorem ly_9_1 : u_lay RX9 TX9 1 ∈ AW := AW_in 680 (by decide +kernel) rfl
theorem ly_9_2 : u_lay RX9 TX9 2 ∈ AW := AW_in 682 (by decide +kernel) rfl
theorem ly_9_3 : u_lay RX9 TX9 3 ∈ AW := AW_in 684 (by decide +kernel) rfl
theorem ly_9_4 : u_lay RX9 TX9 4 ∈ AW := AW_in 686 (by decide +kernel) rfl
theorem ly_9_5 : u_lay RX9 TX9 5 ∈ AW := AW_in 688 (by decide +kernel) rfl
theorem ly_9_6 : u_lay RX9 TX9 6 ∈ AW := AW_in 690 (by decide +kernel) rfl
theorem ly_9_7 : u_lay RX9 TX9 7 ∈ AW := AW_in 692 (by decide +kernel) rfl
theorem ly_9_8 : u_lay RX9 TX9 8 ∈ AW := AW_in 694 (by decide +kernel) rfl
theorem ly_9_9 : u_lay RX9 TX9 9 ∈ AW := AW_in 696 (by decide +kernel) rfl
theorem ly_9_10 : u_lay RX9 TX9 10 ∈ AW := AW_in 698 (by decide +kernel) rfl
theorem ly_9_11 : u_lay RX9 TX9 11 ∈ AW := AW_in 700 (by decide +kernel) rfl
theorem ly_9_12 : u_lay RX9 TX9 12 ∈ AW := AW_in 702 (by decide +kernel) rfl
theorem ly_9_13 : u_lay RX9 TX9 13 ∈ AW := AW_in 704 (by decide +kernel) rfl
theorem ly_9_14 : u_lay RX9 TX9 14 ∈ AW := AW_in 706 (by decide +kernel) rfl
theorem ly_9_15 : u_lay RX9 TX9 15 ∈ AW := AW_in 708 (by decide +kernel) rfl
theorem ly_9_16 : u_lay RX9 TX9 16 ∈ AW := AW_in 710 (by decide +kernel) rfl
theorem ly_9_17 : u_lay RX9 TX9 17 ∈ AW := AW_in 712 (by decide +kernel) rfl
theorem ly_9_18 : u_lay RX9 TX9 18 ∈ AW := AW_in 714 (by decide +kernel) rfl
theorem wm_L_27 : Cond.methodLink RL 27 yX9_dot ∈ AW := AW_in 717 (by decide +kernel) rfl
theorem wk_X9_139 : Cond.constantLong RX9 139 (-3) ∈ AW := AW_in 721 (by decide +kernel) rfl
theorem wk_X9_141 : Cond.constantLong RX9 141 (14) ∈ AW := AW_in 722 (by decide +kernel) rfl
theorem wm_X9_70 : Cond.methodLink RX9 70 yX9_in ∈ AW := AW_in 723 (by decide +kernel) rfl
theorem wk_X9_143 : Cond.constantLong RX9 143 (10) ∈ AW := AW_in 726 (by decide +kernel) rfl
theorem wm_X9_76 : Cond.methodLink RX9 76 yX9_dotAt ∈ AW := AW_in 727 (by decide +kernel) rfl
theorem wm_X9_64 : Cond.methodLink RX9 64 yX9_within ∈ AW := AW_in 731 (by decide +kernel) rfl
theorem wk_X9_145 : Cond.constant RX9 145 (-1000001) ∈ AW := AW_in 734 (by decide +kernel) rfl
theorem wm_L_31 : Cond.methodLink RL 31 yX9_count ∈ AW := AW_in 735 (by decide +kernel) rfl
theorem wm_X9_149 : Cond.methodLink RX9 149 yX9_costs ∈ AW := AW_in 739 (by decide +kernel) rfl
theorem wm_X9_116 : Cond.methodLink RX9 116 yX9_best ∈ AW := AW_in 743 (by decide +kernel) rfl
theorem wm_X9_90 : Cond.methodLink RX9 90 yX9_bestBy ∈ AW := AW_in 747 (by decide +kernel) rfl
theorem wm_X9_87 : Cond.methodLink RX9 87 yX9_costBy ∈ AW := AW_in 751 (by decide +kernel) rfl
theorem wm_X9_80 : Cond.methodLink RX9 80 yX9_atOnce ∈ AW := AW_in 755 (by decide +kernel) rfl
theorem wm_X9_83 : Cond.methodLink RX9 83 yX9_dotCost ∈ AW := AW_in 758 (by decide +kernel) rfl
theorem wm_X9_153 : Cond.methodLink RX9 153 yX9_longField ∈ AW := AW_in 762 (by decide +kernel) rfl
theorem wm_X9_126 : Cond.methodLink RX9 126 yX9_lays ∈ AW := AW_in 766 (by decide +kernel) rfl
theorem wm_X9_122 : Cond.methodLink RX9 122 yX9_part ∈ AW := AW_in 770 (by decide +kernel) rfl
theorem wm_X9_129 : Cond.methodLink RX9 129 yX9_foretold ∈ AW := AW_in 774 (by decide +kernel) rfl
theorem wm_X9_132 : Cond.methodLink RX9 132 yX9_bitsOf ∈ AW := AW_in 778 (by decide +kernel) rfl
theorem wm_X9_156 : Cond.methodLink RX9 156 yX9_lacks ∈ AW := AW_in 781 (by decide +kernel) rfl
theorem wm_X9_135 : Cond.methodLink RX9 135 yX9_rebuiltAt ∈ AW := AW_in 785 (by decide +kernel) rfl
theorem wm_X9_159 : Cond.methodLink RX9 159 yX9_pan ∈ AW := AW_in 789 (by decide +kernel) rfl
theorem wk_X9_108 : Cond.constant RX9 108 (-1000004) ∈ AW := AW_in 793 (by decide +kernel) rfl
theorem wk_X9_138 : Cond.constant RX9 138 (999999) ∈ AW := AW_in 794 (by decide +kernel) rfl
theorem wm_X9_163 : Cond.methodLink RX9 163 yX9_wrongs ∈ AW := AW_in 795 (by decide +kernel) rfl
theorem wm_X9_146 : Cond.methodLink RX9 146 yX9_quick ∈ AW := AW_in 799 (by decide +kernel) rfl
theorem wk_X9_109 : Cond.constant RX9 109 (99999) ∈ AW := AW_in 803 (by decide +kernel) rfl
theorem wm_X9_110 : Cond.methodLink RX9 110 yX9_halfCost ∈ AW := AW_in 804 (by decide +kernel) rfl
theorem wm_X9_105 : Cond.methodLink RX9 105 yX9_halfDot ∈ AW := AW_in 808 (by decide +kernel) rfl
theorem wm_L_17 : Cond.methodLink RL 17 yX9_type ∈ AW := AW_in 812 (by decide +kernel) rfl
theorem wk_X9_169 : Cond.constantLong RX9 169 (32) ∈ AW := AW_in 816 (by decide +kernel) rfl
theorem wk_X9_171 : Cond.constantLong RX9 171 (126) ∈ AW := AW_in 817 (by decide +kernel) rfl
theorem wk_X9_176 : Cond.constant RX9 176 (-1000003) ∈ AW := AW_in 818 (by decide +kernel) rfl
theorem wm_L_22 : Cond.methodLink RL 22 yX9_picture ∈ AW := AW_in 819 (by decide +kernel) rfl
theorem wm_X9_180 : Cond.methodLink RX9 180 yX9_here ∈ AW := AW_in 823 (by decide +kernel) rfl
theorem wm_X9_185 : Cond.methodLink RX9 185 yX9_dots ∈ AW := AW_in 827 (by decide +kernel) rfl
theorem wk_X9_183 : Cond.constantLong RX9 183 (9) ∈ AW := AW_in 831 (by decide +kernel) rfl
theorem wk_X9_188 : Cond.constant RX9 188 (-1000020) ∈ AW := AW_in 832 (by decide +kernel) rfl
theorem wm_L_35 : Cond.methodLink RL 35 yX9_paint ∈ AW := AW_in 833 (by decide +kernel) rfl
theorem wk_X9_189 : Cond.constantLong RX9 189 (11) ∈ AW := AW_in 837 (by decide +kernel) rfl
theorem wk_X9_191 : Cond.constantLong RX9 191 (7) ∈ AW := AW_in 838 (by decide +kernel) rfl
theorem wk_X9_193 : Cond.constant RX9 193 (-1000002) ∈ AW := AW_in 839 (by decide +kernel) rfl
theorem wm_X9_194 : Cond.methodLink RX9 194 yX9_notes ∈ AW := AW_in 840 (by decide +kernel) rfl
theorem wm_L_40 : Cond.methodLink RL 40 yX9_shift ∈ AW := AW_in 844 (by decide +kernel) rfl
theorem wk_X9_197 : Cond.constantLong RX9 197 (3) ∈ AW := AW_in 848 (by decide +kernel) rfl
theorem wm_L_44 : Cond.methodLink RL 44 yX9_take ∈ AW := AW_in 849 (by decide +kernel) rfl
theorem wm_L_48 : Cond.methodLink RL 48 yX9_like ∈ AW := AW_in 853 (by decide +kernel) rfl
theorem wk_X9_199 : Cond.constantLong RX9 199 (4) ∈ AW := AW_in 857 (by decide +kernel) rfl
theorem wm_L_52 : Cond.methodLink RL 52 yX9_noise ∈ AW := AW_in 858 (by decide +kernel) rfl
theorem wk_X9_201 : Cond.constantLong RX9 201 (40) ∈ AW := AW_in 862 (by decide +kernel) rfl
theorem wk_X9_203 : Cond.constantLong RX9 203 (1103515245) ∈ AW := AW_in 863 (by decide +kernel) rfl
theorem wk_X9_205 : Cond.constantLong RX9 205 (12345) ∈ AW := AW_in 864 (by decide +kernel) rfl
theorem wk_X9_207 : Cond.constantLong RX9 207 (2147483648) ∈ AW := AW_in 865 (by decide +kernel) rfl
theorem wk_X9_209 : Cond.constant RX9 209 (65536) ∈ AW := AW_in 866 (by decide +kernel) rfl
theorem wm_L_56 : Cond.methodLink RL 56 yX9_undo ∈ AW := AW_in 867 (by decide +kernel) rfl
theorem wm_L_60 : Cond.methodLink RL 60 yX9_seed ∈ AW := AW_in 871 (by decide +kernel) rfl
theorem wm_L_64 : Cond.methodLink RL 64 yX9_cost ∈ AW := AW_in 875 (by decide +kernel) rfl
theorem wm_X9_210 : Cond.methodLink RX9 210 yX9_isBlock ∈ AW := AW_in 879 (by decide +kernel) rfl
theorem wk_X9_68 : Cond.constantLong RX9 68 (5) ∈ AW := AW_in 882 (by decide +kernel) rfl
theorem wm_X9_214 : Cond.methodLink RX9 214 yX9_isMove ∈ AW := AW_in 883 (by decide +kernel) rfl
theorem wk_X9_74 : Cond.constantLong RX9 74 (48) ∈ AW := AW_in 886 (by decide +kernel) rfl
theorem wm_L_68 : Cond.methodLink RL 68 yX9_of ∈ AW := AW_in 887 (by decide +kernel) rfl
theorem wm_X9_218 : Cond.methodLink RX9 218 yX9_tries ∈ AW := AW_in 891 (by decide +kernel) rfl
theorem wm_X9_102 : Cond.methodLink RX9 102 yX9_sumsOff ∈ AW := AW_in 895 (by decide +kernel) rfl
theorem wm_X9_222 : Cond.methodLink RX9 222 yX9_half ∈ AW := AW_in 899 (by decide +kernel) rfl
theorem wm_X9_119 : Cond.methodLink RX9 119 yX9_halvedCost ∈ AW := AW_in 903 (by decide +kernel) rfl
theorem wm_X9_113 : Cond.methodLink RX9 113 yX9_halved ∈ AW := AW_in 907 (by decide +kernel) rfl
theorem wm_L_72 : Cond.methodLink RL 72 yX9_rebuilt ∈ AW := AW_in 911 (by decide +kernel) rfl
theorem wm_L_76 : Cond.methodLink RL 76 yX9_wrong ∈ AW := AW_in 915 (by decide +kernel) rfl
theorem wk_X9_225 : Cond.constantLong RX9 225 (6) ∈ AW := AW_in 919 (by decide +kernel) rfl
theorem wm_L_80 : Cond.methodLink RL 80 yX9_image ∈ AW := AW_in 920 (by decide +kernel) rfl
theorem wm_L_84 : Cond.methodLink RL 84 yX9_restore ∈ AW := AW_in 924 (by decide +kernel) rfl
theorem wm_L_97 : Cond.methodLink RL 97 yX9_sheet ∈ AW := AW_in 928 (by decide +kernel) rfl
theorem wm_X9_227 : Cond.methodLink RX9 227 yX9_isSheet ∈ AW := AW_in 932 (by decide +kernel) rfl
theorem wk_X9_230 : Cond.constant RX9 230 (-1000014) ∈ AW := AW_in 935 (by decide +kernel) rfl
theorem wm_L_101 : Cond.methodLink RL 101 yX9_drop ∈ AW := AW_in 936 (by decide +kernel) rfl
theorem wk_X9_231 : Cond.constant RX9 231 (-1000011) ∈ AW := AW_in 940 (by decide +kernel) rfl
theorem wm_L_108 : Cond.methodLink RL 108 yX9_item ∈ AW := AW_in 941 (by decide +kernel) rfl
theorem wm_X9_234 : Cond.methodLink RX9 234 yX9_why ∈ AW := AW_in 945 (by decide +kernel) rfl
theorem wk_X9_232 : Cond.constant RX9 232 (-1000012) ∈ AW := AW_in 949 (by decide +kernel) rfl
theorem wk_X9_233 : Cond.constant RX9 233 (-1000013) ∈ AW := AW_in 950 (by decide +kernel) rfl
theorem wm_X9_237 : Cond.methodLink RX9 237 yX9_cut ∈ AW := AW_in 951 (by decide +kernel) rfl
theorem wm_L_113 : Cond.methodLink RL 113 yX9_copy ∈ AW := AW_in 954 (by decide +kernel) rfl
theorem wm_L_89 : Cond.methodLink RL 89 yX9_found ∈ AW := AW_in 958 (by decide +kernel) rfl
theorem wm_L_93 : Cond.methodLink RL 93 yX9_film ∈ AW := AW_in 962 (by decide +kernel) rfl
theorem wk_L_102 : Cond.constantLong RL 102 (4294967295) ∈ AW := AW_in 966 (by decide +kernel) rfl
theorem w_iMath : Cond.initialized "java/lang/Math" ∈ AW := AW_in 75 (by decide +kernel) rfl
theorem w_iSys : Cond.initialized "java/lang/System" ∈ AW := AW_in 74 (by decide +kernel) rfl
theorem w_smin : Cond.static Lib.Math.min.name ∈ AW := AW_in 324 (by decide +kernel) rfl
theorem w_cmin : Cond.code Lib.Math.min.name Lib.Math.min.code 2 (some .int) ∈ AW := AW_in 325 (by decide +kernel) rfl
theorem w_smax : Cond.static Lib.Math.max.name ∈ AW := AW_in 327 (by decide +kernel) rfl
theorem w_cmax : Cond.code Lib.Math.max.name Lib.Math.max.code 2 (some .int) ∈ AW := AW_in 328 (by decide +kernel) rfl
theorem w_sabs : Cond.static Lib.Math.abs.name ∈ AW := AW_in 355 (by decide +kernel) rfl
theorem w_cabs : Cond.code Lib.Math.abs.name Lib.Math.abs.code 1 (some .int) ∈ AW := AW_in 356 (by decide +kernel) rfl
theorem w_scp : Cond.static arraycopyName ∈ AW := AW_in 310 (by decide +kernel) rfl
theorem w_oi : Cond.instanceMethod objectInit ∈ AW := AW_in 82 (by decide +kernel) rfl
theorem w_oc : Cond.code objectInit ⟨#[0xb1]⟩ 1 none ∈ AW := AW_in 83 (by decide +kernel) rfl
theorem inW0 : ∀ w ∈ u_ws RX0 TX0 2, w ∈ AW := by
  intro w hw
  obtain ⟨k9, hk9, rfl⟩ := List.mem_map.mp hw
  have h9 := List.mem_range.mp hk9
  match k9, h9 with
  | 0, _ => exact ly_0_0
  | 1, _ => exact ly_0_1
theorem inW1 : ∀ w ∈ u_ws RX1 TX1 2, w ∈ AW := by
  intro w hw
  obtain ⟨k9, hk9, rfl⟩ := List.mem_map.mp hw
  have h9 := List.mem_range.mp hk9
  match k9, h9 with
  | 0, _ => exact ly_1_0
  | 1, _ => exact ly_1_1
theorem inW2 : ∀ w ∈ u_ws RX2 TX2 1, w ∈ AW := by
  intro w hw
  obtain ⟨k9, hk9, rfl⟩ := List.mem_map.mp hw
  have h9 := List.mem_range.mp hk9
  match k9, h9 with
  | 0, _ => exact ly_2_0
theorem inW3 : ∀ w ∈ u_ws RX3 TX3 4, w ∈ AW := by
  intro w hw
  obtain ⟨k9, hk9, rfl⟩ := List.mem_map.mp hw
  have h9 := List.mem_range.mp hk9
  match k9, h9 with
  | 0, _ => exact ly_3_0
  | 1, _ => exact ly_3_1
  | 2, _ => exact ly_3_2
  | 3, _ => exact ly_3_3
theorem inW4 : ∀ w ∈ u_ws RX4 TX4 4, w ∈ AW := by
  intro w hw
  obtain ⟨k9, hk9, rfl⟩ := List.mem_map.mp hw
  have h9 := List.mem_range.mp hk9
  match k9, h9 with
  | 0, _ => exact ly_4_0
  | 1, _ => exact ly_4_1
  | 2, _ => exact ly_4_2
  | 3, _ => exact ly_4_3
theorem inW5 : ∀ w ∈ u_ws RX5 TX5 4, w ∈ AW := by
  intro w hw
  obtain ⟨k9, hk9, rfl⟩ := List.mem_map.mp hw
  have h9 := List.mem_range.mp hk9
  match k9, h9 with
  | 0, _ => exact ly_5_0
  | 1, _ => exact ly_5_1
  | 2, _ => exact ly_5_2
  | 3, _ => exact ly_5_3
theorem inW6 : ∀ w ∈ u_ws RX6 TX6 3, w ∈ AW := by
  intro w hw
  obtain ⟨k9, hk9, rfl⟩ := List.mem_map.mp hw
  have h9 := List.mem_range.mp hk9
  match k9, h9 with
  | 0, _ => exact ly_6_0
  | 1, _ => exact ly_6_1
  | 2, _ => exact ly_6_2
theorem inW7 : ∀ w ∈ u_ws RX7 TX7 5, w ∈ AW := by
  intro w hw
  obtain ⟨k9, hk9, rfl⟩ := List.mem_map.mp hw
  have h9 := List.mem_range.mp hk9
  match k9, h9 with
  | 0, _ => exact ly_7_0
  | 1, _ => exact ly_7_1
  | 2, _ => exact ly_7_2
  | 3, _ => exact ly_7_3
  | 4, _ => exact ly_7_4
theorem inW8 : ∀ w ∈ u_ws RX8 TX8 9, w ∈ AW := by
  intro w hw
  obtain ⟨k9, hk9, rfl⟩ := List.mem_map.mp hw
  have h9 := List.mem_range.mp hk9
  match k9, h9 with
  | 0, _ => exact ly_8_0
  | 1, _ => exact ly_8_1
  | 2, _ => exact ly_8_2
  | 3, _ => exact ly_8_3
  | 4, _ => exact ly_8_4
  | 5, _ => exact ly_8_5
  | 6, _ => exact ly_8_6
  | 7, _ => exact ly_8_7
  | 8, _ => exact ly_8_8
theorem inW9 : ∀ w ∈ u_ws RX9 TX9 19, w ∈ AW := by
  intro w hw
  obtain ⟨k9, hk9, rfl⟩ := List.mem_map.mp hw
  have h9 := List.mem_range.mp hk9
  match k9, h9 with
  | 0, _ => exact ly_9_0
  | 1, _ => exact ly_9_1
  | 2, _ => exact ly_9_2
  | 3, _ => exact ly_9_3
  | 4, _ => exact ly_9_4
  | 5, _ => exact ly_9_5
  | 6, _ => exact ly_9_6
  | 7, _ => exact ly_9_7
  | 8, _ => exact ly_9_8
  | 9, _ => exact ly_9_9
  | 10, _ => exact ly_9_10
  | 11, _ => exact ly_9_11
  | 12, _ => exact ly_9_12
  | 13, _ => exact ly_9_13
  | 14, _ => exact ly_9_14
  | 15, _ => exact ly_9_15
  | 16, _ => exact ly_9_16
  | 17, _ => exact ly_9_17
  | 18, _ => exact ly_9_18
  | j9 + 19, h9 => exact absurd h9 (by omega)
theorem yvX8_type : mYv yX8_type cX8_type 2 (some .int) 1 := ⟨AW_in 279 (by decide +kernel) rfl, AW_in 280 (by decide +kernel) rfl, wi_X8, AW_in 281 (by decide +kernel) rfl, by decide, by decide, by decide +kernel⟩
theorem yvX7_add : mYv yX7_add cX7_add 2 (some .boolean) 1 := ⟨AW_in 285 (by decide +kernel) rfl, AW_in 0 (by decide +kernel) rfl, wi_X7, AW_in 286 (by decide +kernel) rfl, by decide, by decide, by decide +kernel⟩
theorem yvX8_picture : mYv yX8_picture cX8_picture 2 (some .int) 0 := ⟨AW_in 289 (by decide +kernel) rfl, AW_in 290 (by decide +kernel) rfl, wi_X8, AW_in 291 (by decide +kernel) rfl, by decide, by decide, by decide +kernel⟩
theorem yvX7_read : mYv yX7_read cX7_read 4 (some .int) 0 := ⟨AW_in 294 (by decide +kernel) rfl, AW_in 1 (by decide +kernel) rfl, wi_X7, AW_in 295 (by decide +kernel) rfl, by decide, by decide, by decide +kernel⟩
theorem yvX7_canStand : mYv yX7_canStand cX7_canStand 4 (some .boolean) 2 := ⟨AW_in 298 (by decide +kernel) rfl, AW_in 2 (by decide +kernel) rfl, wi_X7, AW_in 299 (by decide +kernel) rfl, by decide, by decide, by decide +kernel⟩
theorem yvX7_tell : mYv yX7_tell cX7_tell 5 none 2 := ⟨AW_in 303 (by decide +kernel) rfl, AW_in 3 (by decide +kernel) rfl, wi_X7, AW_in 304 (by decide +kernel) rfl, by decide, by decide, by decide +kernel⟩
theorem yvX2_become : mYv yX2_become cX2_become 2 none 1 := ⟨AW_in 307 (by decide +kernel) rfl, AW_in 4 (by decide +kernel) rfl, wi_X2, AW_in 308 (by decide +kernel) rfl, by decide, by decide, by decide +kernel⟩
theorem yvX8_dot : mYv yX8_dot cX8_dot 6 (some .int) 3 := ⟨AW_in 313 (by decide +kernel) rfl, AW_in 314 (by decide +kernel) rfl, wi_X8, AW_in 315 (by decide +kernel) rfl, by decide, by decide, by decide +kernel⟩
theorem ysX8_isWithin : mYs yX8_isWithin cX8_isWithin 3 (some .boolean) 3 := ⟨AW_in 317 (by decide +kernel) rfl, wi_X8, AW_in 318 (by decide +kernel) rfl, by decide, by decide, by decide +kernel⟩
theorem yvX2_at : mYv yX2_at cX2_at 5 (some .int) 2 := ⟨AW_in 321 (by decide +kernel) rfl, AW_in 5 (by decide +kernel) rfl, wi_X2, AW_in 322 (by decide +kernel) rfl, by decide, by decide, by decide +kernel⟩
theorem yvX8_count : mYv yX8_count cX8_count 2 (some .int) 1 := ⟨AW_in 330 (by decide +kernel) rfl, AW_in 331 (by decide +kernel) rfl, wi_X8, AW_in 332 (by decide +kernel) rfl, by decide, by decide, by decide +kernel⟩
theorem yvX8_allCosts : mYv yX8_allCosts cX8_allCosts 3 (some .int) 0 := ⟨AW_in 335 (by decide +kernel) rfl, AW_in 6 (by decide +kernel) rfl, wi_X8, AW_in 336 (by decide +kernel) rfl, by decide, by decide, by decide +kernel⟩
theorem yvX4_best : mYv yX4_best cX4_best 3 none 2 := ⟨AW_in 339 (by decide +kernel) rfl, AW_in 7 (by decide +kernel) rfl, wi_X4, AW_in 340 (by decide +kernel) rfl, by decide, by decide, by decide +kernel⟩
theorem yvX4_tryMoves : mYv yX4_tryMoves cX4_tryMoves 9 none 5 := ⟨AW_in 343 (by decide +kernel) rfl, AW_in 8 (by decide +kernel) rfl, wi_X4, AW_in 344 (by decide +kernel) rfl, by decide, by decide, by decide +kernel⟩
theorem ysX4_isNear : mYs yX4_isNear cX4_isNear 3 (some .boolean) 3 := ⟨AW_in 349 (by decide +kernel) rfl, wi_X4, AW_in 350 (by decide +kernel) rfl, by decide, by decide, by decide +kernel⟩
theorem ysX8_xOf : mYs yX8_xOf cX8_xOf 1 (some .int) 1 := ⟨AW_in 352 (by decide +kernel) rfl, wi_X8, AW_in 353 (by decide +kernel) rfl, by decide, by decide, by decide +kernel⟩
theorem ysX8_yOf : mYs yX8_yOf cX8_yOf 1 (some .int) 1 := ⟨AW_in 358 (by decide +kernel) rfl, wi_X8, AW_in 359 (by decide +kernel) rfl, by decide, by decide, by decide +kernel⟩
theorem ysX4_sumsApart : mYs yX4_sumsApart cX4_sumsApart 7 (some .int) 3 := ⟨AW_in 361 (by decide +kernel) rfl, wi_X4, AW_in 362 (by decide +kernel) rfl, by decide, by decide, by decide +kernel⟩
theorem ysX8_firstColumn : mYs yX8_firstColumn cX8_firstColumn 1 (some .int) 1 := ⟨AW_in 364 (by decide +kernel) rfl, wi_X8, AW_in 365 (by decide +kernel) rfl, by decide, by decide, by decide +kernel⟩
theorem ysX8_firstRow : mYs yX8_firstRow cX8_firstRow 1 (some .int) 1 := ⟨AW_in 367 (by decide +kernel) rfl, wi_X8, AW_in 368 (by decide +kernel) rfl, by decide, by decide, by decide +kernel⟩
theorem yvX4_costBelow : mYv yX4_costBelow cX4_costBelow 14 (some .int) 4 := ⟨AW_in 372 (by decide +kernel) rfl, AW_in 9 (by decide +kernel) rfl, wi_X4, AW_in 373 (by decide +kernel) rfl, by decide, by decide, by decide +kernel⟩
theorem ysX8_stepsOf : mYs yX8_stepsOf cX8_stepsOf 1 (some .int) 1 := ⟨AW_in 375 (by decide +kernel) rfl, wi_X8, AW_in 376 (by decide +kernel) rfl, by decide, by decide, by decide +kernel⟩
theorem ysX4_dotCost : mYs yX4_dotCost cX4_dotCost 3 (some .int) 3 := ⟨AW_in 381 (by decide +kernel) rfl, wi_X4, AW_in 382 (by decide +kernel) rfl, by decide, by decide, by decide +kernel⟩
theorem ysX4_isAtEdge : mYs yX4_isAtEdge cX4_isAtEdge 3 (some .boolean) 1 := ⟨AW_in 384 (by decide +kernel) rfl, wi_X4, AW_in 385 (by decide +kernel) rfl, by decide, by decide, by decide +kernel⟩
theorem yvX0_fill : mYv yX0_fill cX0_fill 4 none 2 := ⟨AW_in 389 (by decide +kernel) rfl, AW_in 10 (by decide +kernel) rfl, wi_X0, AW_in 390 (by decide +kernel) rfl, by decide, by decide, by decide +kernel⟩
theorem yvX0_length : mYv yX0_length cX0_length 3 (some .int) 0 := ⟨AW_in 394 (by decide +kernel) rfl, AW_in 11 (by decide +kernel) rfl, wi_X0, AW_in 395 (by decide +kernel) rfl, by decide, by decide, by decide +kernel⟩
theorem yvX0_foretold : mYv yX0_foretold cX0_foretold 7 (some .int) 2 := ⟨AW_in 399 (by decide +kernel) rfl, AW_in 12 (by decide +kernel) rfl, wi_X0, AW_in 400 (by decide +kernel) rfl, by decide, by decide, by decide +kernel⟩
theorem yvX0_partOf : mYv yX0_partOf cX0_partOf 3 (some .int) 2 := ⟨AW_in 403 (by decide +kernel) rfl, AW_in 13 (by decide +kernel) rfl, wi_X0, AW_in 404 (by decide +kernel) rfl, by decide, by decide, by decide +kernel⟩
theorem yvX0_middle : mYv yX0_middle cX0_middle 4 (some .int) 1 := ⟨AW_in 408 (by decide +kernel) rfl, AW_in 14 (by decide +kernel) rfl, wi_X0, AW_in 409 (by decide +kernel) rfl, by decide, by decide, by decide +kernel⟩
theorem ysX0_bitsOf : mYs yX0_bitsOf cX0_bitsOf 4 (some .int) 1 := ⟨AW_in 413 (by decide +kernel) rfl, wi_X0, AW_in 414 (by decide +kernel) rfl, by decide, by decide, by decide +kernel⟩
theorem yvX0_lacks : mYv yX0_lacks cX0_lacks 7 (some .int) 1 := ⟨AW_in 418 (by decide +kernel) rfl, AW_in 15 (by decide +kernel) rfl, wi_X0, AW_in 419 (by decide +kernel) rfl, by decide, by decide, by decide +kernel⟩
theorem ysX8_blockAt : mYs yX8_blockAt cX8_blockAt 2 (some .int) 2 := ⟨AW_in 421 (by decide +kernel) rfl, wi_X8, AW_in 422 (by decide +kernel) rfl, by decide, by decide, by decide +kernel⟩
theorem yvX4_pan : mYv yX4_pan cX4_pan 5 none 1 := ⟨AW_in 426 (by decide +kernel) rfl, AW_in 16 (by decide +kernel) rfl, wi_X4, AW_in 427 (by decide +kernel) rfl, by decide, by decide, by decide +kernel⟩
theorem yvX4_wholeCost : mYv yX4_wholeCost cX4_wholeCost 4 (some .int) 3 := ⟨AW_in 430 (by decide +kernel) rfl, AW_in 17 (by decide +kernel) rfl, wi_X4, AW_in 431 (by decide +kernel) rfl, by decide, by decide, by decide +kernel⟩
theorem yvX8_blocksNotQuick : mYv yX8_blocksNotQuick cX8_blocksNotQuick 4 (some .int) 0 := ⟨AW_in 434 (by decide +kernel) rfl, AW_in 18 (by decide +kernel) rfl, wi_X8, AW_in 435 (by decide +kernel) rfl, by decide, by decide, by decide +kernel⟩
theorem yvX4_quick : mYv yX4_quick cX4_quick 4 none 2 := ⟨AW_in 438 (by decide +kernel) rfl, AW_in 19 (by decide +kernel) rfl, wi_X4, AW_in 439 (by decide +kernel) rfl, by decide, by decide, by decide +kernel⟩
theorem ysX4_smallMove : mYs yX4_smallMove cX4_smallMove 7 (some .int) 2 := ⟨AW_in 441 (by decide +kernel) rfl, wi_X4, AW_in 442 (by decide +kernel) rfl, by decide, by decide, by decide +kernel⟩
theorem ysX4_smallCost : mYs yX4_smallCost cX4_smallCost 8 (some .int) 3 := ⟨AW_in 444 (by decide +kernel) rfl, wi_X4, AW_in 445 (by decide +kernel) rfl, by decide, by decide, by decide +kernel⟩
theorem yvX2_halfAt : mYv yX2_halfAt cX2_halfAt 6 (some .int) 2 := ⟨AW_in 448 (by decide +kernel) rfl, AW_in 20 (by decide +kernel) rfl, wi_X2, AW_in 449 (by decide +kernel) rfl, by decide, by decide, by decide +kernel⟩
theorem ysX8_moveBy : mYs yX8_moveBy cX8_moveBy 2 (some .int) 2 := ⟨AW_in 451 (by decide +kernel) rfl, wi_X8, AW_in 452 (by decide +kernel) rfl, by decide, by decide, by decide +kernel⟩
theorem yvX8_paint : mYv yX8_paint cX8_paint 5 (some .int) 3 := ⟨AW_in 454 (by decide +kernel) rfl, AW_in 455 (by decide +kernel) rfl, wi_X8, AW_in 456 (by decide +kernel) rfl, by decide, by decide, by decide +kernel⟩
theorem ysX8_isInPicture : mYs yX8_isInPicture cX8_isInPicture 2 (some .boolean) 2 := ⟨AW_in 458 (by decide +kernel) rfl, wi_X8, AW_in 459 (by decide +kernel) rfl, by decide, by decide, by decide +kernel⟩
theorem yvX6_keep : mYv yX6_keep cX6_keep 1 none 0 := ⟨AW_in 463 (by decide +kernel) rfl, AW_in 21 (by decide +kernel) rfl, wi_X6, AW_in 464 (by decide +kernel) rfl, by decide, by decide, by decide +kernel⟩
theorem yvX6_loseOldest : mYv yX6_loseOldest cX6_loseOldest 3 none 0 := ⟨AW_in 467 (by decide +kernel) rfl, AW_in 22 (by decide +kernel) rfl, wi_X6, AW_in 468 (by decide +kernel) rfl, by decide, by decide, by decide +kernel⟩
theorem yvX3_become : mYv yX3_become cX3_become 2 none 1 := ⟨AW_in 471 (by decide +kernel) rfl, AW_in 23 (by decide +kernel) rfl, wi_X3, AW_in 472 (by decide +kernel) rfl, by decide, by decide, by decide +kernel⟩
theorem yvX8_shift : mYv yX8_shift cX8_shift 5 (some .int) 2 := ⟨AW_in 475 (by decide +kernel) rfl, AW_in 476 (by decide +kernel) rfl, wi_X8, AW_in 477 (by decide +kernel) rfl, by decide, by decide, by decide +kernel⟩
theorem yvX2_othersThan : mYv yX2_othersThan cX2_othersThan 4 (some .int) 1 := ⟨AW_in 480 (by decide +kernel) rfl, AW_in 24 (by decide +kernel) rfl, wi_X2, AW_in 481 (by decide +kernel) rfl, by decide, by decide, by decide +kernel⟩
theorem yvX8_take : mYv yX8_take cX8_take 3 (some .int) 0 := ⟨AW_in 483 (by decide +kernel) rfl, AW_in 484 (by decide +kernel) rfl, wi_X8, AW_in 485 (by decide +kernel) rfl, by decide, by decide, by decide +kernel⟩
theorem yvX8_like : mYv yX8_like cX8_like 3 (some .int) 1 := ⟨AW_in 487 (by decide +kernel) rfl, AW_in 488 (by decide +kernel) rfl, wi_X8, AW_in 489 (by decide +kernel) rfl, by decide, by decide, by decide +kernel⟩
theorem yvX8_noise : mYv yX8_noise cX8_noise 3 (some .int) 1 := ⟨AW_in 491 (by decide +kernel) rfl, AW_in 492 (by decide +kernel) rfl, wi_X8, AW_in 493 (by decide +kernel) rfl, by decide, by decide, by decide +kernel⟩
theorem yvX3_turn : mYv yX3_turn cX3_turn 2 none 0 := ⟨AW_in 496 (by decide +kernel) rfl, AW_in 25 (by decide +kernel) rfl, wi_X3, AW_in 497 (by decide +kernel) rfl, by decide, by decide, by decide +kernel⟩
theorem yvX8_undo : mYv yX8_undo cX8_undo 1 (some .int) 0 := ⟨AW_in 502 (by decide +kernel) rfl, AW_in 503 (by decide +kernel) rfl, wi_X8, AW_in 504 (by decide +kernel) rfl, by decide, by decide, by decide +kernel⟩
theorem yvX6_goBack : mYv yX6_goBack cX6_goBack 1 none 0 := ⟨AW_in 508 (by decide +kernel) rfl, AW_in 26 (by decide +kernel) rfl, wi_X6, AW_in 509 (by decide +kernel) rfl, by decide, by decide, by decide +kernel⟩
theorem yvX8_seed : mYv yX8_seed cX8_seed 3 (some .int) 1 := ⟨AW_in 511 (by decide +kernel) rfl, AW_in 512 (by decide +kernel) rfl, wi_X8, AW_in 513 (by decide +kernel) rfl, by decide, by decide, by decide +kernel⟩
theorem yvX8_cost : mYv yX8_cost cX8_cost 3 (some .int) 2 := ⟨AW_in 515 (by decide +kernel) rfl, AW_in 516 (by decide +kernel) rfl, wi_X8, AW_in 517 (by decide +kernel) rfl, by decide, by decide, by decide +kernel⟩
theorem yvX8_of : mYv yX8_of cX8_of 3 (some .int) 2 := ⟨AW_in 520 (by decide +kernel) rfl, AW_in 521 (by decide +kernel) rfl, wi_X8, AW_in 522 (by decide +kernel) rfl, by decide, by decide, by decide +kernel⟩
theorem yvX1_look : mYv yX1_look cX1_look 6 none 3 := ⟨AW_in 526 (by decide +kernel) rfl, AW_in 27 (by decide +kernel) rfl, wi_X1, AW_in 527 (by decide +kernel) rfl, by decide, by decide, by decide +kernel⟩
theorem ysX1_costBy : mYs yX1_costBy cX1_costBy 10 (some .int) 5 := ⟨AW_in 530 (by decide +kernel) rfl, wi_X1, AW_in 531 (by decide +kernel) rfl, by decide, by decide, by decide +kernel⟩
theorem ysX1_between : mYs yX1_between cX1_between 6 (some .int) 5 := ⟨AW_in 537 (by decide +kernel) rfl, wi_X1, AW_in 538 (by decide +kernel) rfl, by decide, by decide, by decide +kernel⟩
theorem yvX8_searched : mYv yX8_searched cX8_searched 3 (some .int) 2 := ⟨AW_in 543 (by decide +kernel) rfl, AW_in 28 (by decide +kernel) rfl, wi_X8, AW_in 544 (by decide +kernel) rfl, by decide, by decide, by decide +kernel⟩
theorem yvX4_skim : mYv yX4_skim cX4_skim 3 none 2 := ⟨AW_in 547 (by decide +kernel) rfl, AW_in 29 (by decide +kernel) rfl, wi_X4, AW_in 548 (by decide +kernel) rfl, by decide, by decide, by decide +kernel⟩
theorem yvX8_rebuilt : mYv yX8_rebuilt cX8_rebuilt 3 (some .int) 2 := ⟨AW_in 550 (by decide +kernel) rfl, AW_in 551 (by decide +kernel) rfl, wi_X8, AW_in 552 (by decide +kernel) rfl, by decide, by decide, by decide +kernel⟩
theorem yvX8_wrong : mYv yX8_wrong cX8_wrong 8 (some .int) 3 := ⟨AW_in 555 (by decide +kernel) rfl, AW_in 556 (by decide +kernel) rfl, wi_X8, AW_in 557 (by decide +kernel) rfl, by decide, by decide, by decide +kernel⟩
theorem yvX8_oddsAbove : mYv yX8_oddsAbove cX8_oddsAbove 9 (some .int) 2 := ⟨AW_in 561 (by decide +kernel) rfl, AW_in 30 (by decide +kernel) rfl, wi_X8, AW_in 562 (by decide +kernel) rfl, by decide, by decide, by decide +kernel⟩
theorem ysX8_power : mYs yX8_power cX8_power 4 (some .int) 2 := ⟨AW_in 565 (by decide +kernel) rfl, wi_X8, AW_in 566 (by decide +kernel) rfl, by decide, by decide, by decide +kernel⟩
theorem ysX8_commonDivisor : mYs yX8_commonDivisor cX8_commonDivisor 4 (some .int) 2 := ⟨AW_in 568 (by decide +kernel) rfl, wi_X8, AW_in 569 (by decide +kernel) rfl, by decide, by decide, by decide +kernel⟩
theorem yvX8_image : mYv yX8_image cX8_image 1 (some .int) 0 := ⟨AW_in 571 (by decide +kernel) rfl, AW_in 572 (by decide +kernel) rfl, wi_X8, AW_in 573 (by decide +kernel) rfl, by decide, by decide, by decide +kernel⟩
theorem yvX6_become : mYv yX6_become cX6_become 3 none 1 := ⟨AW_in 576 (by decide +kernel) rfl, AW_in 31 (by decide +kernel) rfl, wi_X6, AW_in 577 (by decide +kernel) rfl, by decide, by decide, by decide +kernel⟩
theorem yvX8_restore : mYv yX8_restore cX8_restore 1 (some .int) 0 := ⟨AW_in 579 (by decide +kernel) rfl, AW_in 580 (by decide +kernel) rfl, wi_X8, AW_in 581 (by decide +kernel) rfl, by decide, by decide, by decide +kernel⟩
theorem yvX8_found : mYv yX8_found cX8_found 6 (some .int) 4 := ⟨AW_in 583 (by decide +kernel) rfl, AW_in 584 (by decide +kernel) rfl, wi_X8, AW_in 585 (by decide +kernel) rfl, by decide, by decide, by decide +kernel⟩
theorem ysX8_isSheet : mYs yX8_isSheet cX8_isSheet 1 (some .boolean) 1 := ⟨AW_in 587 (by decide +kernel) rfl, wi_X8, AW_in 588 (by decide +kernel) rfl, by decide, by decide, by decide +kernel⟩
theorem ysX8_isLane : mYs yX8_isLane cX8_isLane 1 (some .boolean) 1 := ⟨AW_in 590 (by decide +kernel) rfl, wi_X8, AW_in 591 (by decide +kernel) rfl, by decide, by decide, by decide +kernel⟩
theorem yvX5_refusal : mYv yX5_refusal cX5_refusal 4 (some .int) 3 := ⟨AW_in 594 (by decide +kernel) rfl, AW_in 32 (by decide +kernel) rfl, wi_X5, AW_in 595 (by decide +kernel) rfl, by decide, by decide, by decide +kernel⟩
theorem yvX5_spans : mYv yX5_spans cX5_spans 3 (some .boolean) 2 := ⟨AW_in 600 (by decide +kernel) rfl, AW_in 33 (by decide +kernel) rfl, wi_X5, AW_in 601 (by decide +kernel) rfl, by decide, by decide, by decide +kernel⟩
theorem yvX8_kindsOf : mYv yX8_kindsOf cX8_kindsOf 8 (some .int) 3 := ⟨AW_in 605 (by decide +kernel) rfl, AW_in 34 (by decide +kernel) rfl, wi_X8, AW_in 606 (by decide +kernel) rfl, by decide, by decide, by decide +kernel⟩
theorem yvX8_film : mYv yX8_film cX8_film 7 (some .int) 4 := ⟨AW_in 608 (by decide +kernel) rfl, AW_in 609 (by decide +kernel) rfl, wi_X8, AW_in 610 (by decide +kernel) rfl, by decide, by decide, by decide +kernel⟩
theorem yvX5_put : mYv yX5_put cX5_put 4 none 2 := ⟨AW_in 613 (by decide +kernel) rfl, AW_in 35 (by decide +kernel) rfl, wi_X5, AW_in 614 (by decide +kernel) rfl, by decide, by decide, by decide +kernel⟩
theorem yvX8_sheet : mYv yX8_sheet cX8_sheet 4 (some .int) 3 := ⟨AW_in 616 (by decide +kernel) rfl, AW_in 617 (by decide +kernel) rfl, wi_X8, AW_in 618 (by decide +kernel) rfl, by decide, by decide, by decide +kernel⟩
theorem yvX5_begin : mYv yX5_begin cX5_begin 4 none 2 := ⟨AW_in 622 (by decide +kernel) rfl, AW_in 36 (by decide +kernel) rfl, wi_X5, AW_in 623 (by decide +kernel) rfl, by decide, by decide, by decide +kernel⟩
theorem yvX8_drop : mYv yX8_drop cX8_drop 2 (some .int) 1 := ⟨AW_in 625 (by decide +kernel) rfl, AW_in 626 (by decide +kernel) rfl, wi_X8, AW_in 627 (by decide +kernel) rfl, by decide, by decide, by decide +kernel⟩
theorem yvX8_item : mYv yX8_item cX8_item 7 (some .int) 4 := ⟨AW_in 630 (by decide +kernel) rfl, AW_in 631 (by decide +kernel) rfl, wi_X8, AW_in 632 (by decide +kernel) rfl, by decide, by decide, by decide +kernel⟩
theorem yvX8_copy : mYv yX8_copy cX8_copy 8 (some .int) 5 := ⟨AW_in 634 (by decide +kernel) rfl, AW_in 635 (by decide +kernel) rfl, wi_X8, AW_in 636 (by decide +kernel) rfl, by decide, by decide, by decide +kernel⟩
theorem ysX9_farOf : mYs yX9_farOf cX9_farOf 1 (some .int) 1 := ⟨AW_in 648 (by decide +kernel) rfl, wi_X9, AW_in 649 (by decide +kernel) rfl, by decide, by decide, by decide +kernel⟩
theorem ysX9_xOf : mYs yX9_xOf cX9_xOf 1 (some .int) 1 := ⟨AW_in 651 (by decide +kernel) rfl, wi_X9, AW_in 652 (by decide +kernel) rfl, by decide, by decide, by decide +kernel⟩
theorem ysX9_sized : mYs yX9_sized cX9_sized 1 (some .int) 1 := ⟨AW_in 654 (by decide +kernel) rfl, wi_X9, AW_in 655 (by decide +kernel) rfl, by decide, by decide, by decide +kernel⟩
theorem ysX9_yOf : mYs yX9_yOf cX9_yOf 1 (some .int) 1 := ⟨AW_in 657 (by decide +kernel) rfl, wi_X9, AW_in 658 (by decide +kernel) rfl, by decide, by decide, by decide +kernel⟩
theorem yvX9_dot : mYv yX9_dot cX9_dot 4 (some .int) 3 := ⟨AW_in 718 (by decide +kernel) rfl, AW_in 719 (by decide +kernel) rfl, wi_X9, AW_in 720 (by decide +kernel) rfl, by decide, by decide, by decide +kernel⟩
theorem ysX9_in : mYs yX9_in cX9_in 6 (some .boolean) 3 := ⟨AW_in 724 (by decide +kernel) rfl, wi_X9, AW_in 725 (by decide +kernel) rfl, by decide, by decide, by decide +kernel⟩
theorem yvX9_dotAt : mYv yX9_dotAt cX9_dotAt 4 (some .int) 3 := ⟨AW_in 729 (by decide +kernel) rfl, AW_in 37 (by decide +kernel) rfl, wi_X9, AW_in 730 (by decide +kernel) rfl, by decide, by decide, by decide +kernel⟩
theorem ysX9_within : mYs yX9_within cX9_within 2 (some .int) 2 := ⟨AW_in 732 (by decide +kernel) rfl, wi_X9, AW_in 733 (by decide +kernel) rfl, by decide, by decide, by decide +kernel⟩
theorem yvX9_count : mYv yX9_count cX9_count 2 (some .int) 1 := ⟨AW_in 736 (by decide +kernel) rfl, AW_in 737 (by decide +kernel) rfl, wi_X9, AW_in 738 (by decide +kernel) rfl, by decide, by decide, by decide +kernel⟩
theorem yvX9_costs : mYv yX9_costs cX9_costs 3 (some .int) 0 := ⟨AW_in 741 (by decide +kernel) rfl, AW_in 38 (by decide +kernel) rfl, wi_X9, AW_in 742 (by decide +kernel) rfl, by decide, by decide, by decide +kernel⟩
theorem yvX9_best : mYv yX9_best cX9_best 2 (some .int) 1 := ⟨AW_in 745 (by decide +kernel) rfl, AW_in 39 (by decide +kernel) rfl, wi_X9, AW_in 746 (by decide +kernel) rfl, by decide, by decide, by decide +kernel⟩
theorem yvX9_bestBy : mYv yX9_bestBy cX9_bestBy 7 (some .int) 2 := ⟨AW_in 749 (by decide +kernel) rfl, AW_in 40 (by decide +kernel) rfl, wi_X9, AW_in 750 (by decide +kernel) rfl, by decide, by decide, by decide +kernel⟩
theorem yvX9_costBy : mYv yX9_costBy cX9_costBy 6 (some .int) 3 := ⟨AW_in 753 (by decide +kernel) rfl, AW_in 41 (by decide +kernel) rfl, wi_X9, AW_in 754 (by decide +kernel) rfl, by decide, by decide, by decide +kernel⟩
theorem ysX9_atOnce : mYs yX9_atOnce cX9_atOnce 2 (some .int) 2 := ⟨AW_in 756 (by decide +kernel) rfl, wi_X9, AW_in 757 (by decide +kernel) rfl, by decide, by decide, by decide +kernel⟩
theorem yvX9_dotCost : mYv yX9_dotCost cX9_dotCost 9 (some .int) 4 := ⟨AW_in 760 (by decide +kernel) rfl, AW_in 42 (by decide +kernel) rfl, wi_X9, AW_in 761 (by decide +kernel) rfl, by decide, by decide, by decide +kernel⟩
theorem yvX9_longField : mYv yX9_longField cX9_longField 3 (some .int) 0 := ⟨AW_in 764 (by decide +kernel) rfl, AW_in 43 (by decide +kernel) rfl, wi_X9, AW_in 765 (by decide +kernel) rfl, by decide, by decide, by decide +kernel⟩
theorem yvX9_lays : mYv yX9_lays cX9_lays 2 none 0 := ⟨AW_in 768 (by decide +kernel) rfl, AW_in 44 (by decide +kernel) rfl, wi_X9, AW_in 769 (by decide +kernel) rfl, by decide, by decide, by decide +kernel⟩
theorem yvX9_part : mYv yX9_part cX9_part 3 (some .int) 2 := ⟨AW_in 772 (by decide +kernel) rfl, AW_in 45 (by decide +kernel) rfl, wi_X9, AW_in 773 (by decide +kernel) rfl, by decide, by decide, by decide +kernel⟩
theorem yvX9_foretold : mYv yX9_foretold cX9_foretold 12 (some .int) 2 := ⟨AW_in 776 (by decide +kernel) rfl, AW_in 46 (by decide +kernel) rfl, wi_X9, AW_in 777 (by decide +kernel) rfl, by decide, by decide, by decide +kernel⟩
theorem ysX9_bitsOf : mYs yX9_bitsOf cX9_bitsOf 3 (some .int) 1 := ⟨AW_in 779 (by decide +kernel) rfl, wi_X9, AW_in 780 (by decide +kernel) rfl, by decide, by decide, by decide +kernel⟩
theorem yvX9_lacks : mYv yX9_lacks cX9_lacks 3 (some .int) 0 := ⟨AW_in 783 (by decide +kernel) rfl, AW_in 47 (by decide +kernel) rfl, wi_X9, AW_in 784 (by decide +kernel) rfl, by decide, by decide, by decide +kernel⟩
theorem yvX9_rebuiltAt : mYv yX9_rebuiltAt cX9_rebuiltAt 4 (some .int) 2 := ⟨AW_in 787 (by decide +kernel) rfl, AW_in 48 (by decide +kernel) rfl, wi_X9, AW_in 788 (by decide +kernel) rfl, by decide, by decide, by decide +kernel⟩
theorem yvX9_pan : mYv yX9_pan cX9_pan 7 (some .int) 1 := ⟨AW_in 791 (by decide +kernel) rfl, AW_in 49 (by decide +kernel) rfl, wi_X9, AW_in 792 (by decide +kernel) rfl, by decide, by decide, by decide +kernel⟩
theorem yvX9_wrongs : mYv yX9_wrongs cX9_wrongs 3 (some .int) 0 := ⟨AW_in 797 (by decide +kernel) rfl, AW_in 50 (by decide +kernel) rfl, wi_X9, AW_in 798 (by decide +kernel) rfl, by decide, by decide, by decide +kernel⟩
theorem yvX9_quick : mYv yX9_quick cX9_quick 9 (some .int) 1 := ⟨AW_in 801 (by decide +kernel) rfl, AW_in 51 (by decide +kernel) rfl, wi_X9, AW_in 802 (by decide +kernel) rfl, by decide, by decide, by decide +kernel⟩
theorem yvX9_halfCost : mYv yX9_halfCost cX9_halfCost 7 (some .int) 2 := ⟨AW_in 806 (by decide +kernel) rfl, AW_in 52 (by decide +kernel) rfl, wi_X9, AW_in 807 (by decide +kernel) rfl, by decide, by decide, by decide +kernel⟩
theorem yvX9_halfDot : mYv yX9_halfDot cX9_halfDot 6 (some .int) 3 := ⟨AW_in 810 (by decide +kernel) rfl, AW_in 53 (by decide +kernel) rfl, wi_X9, AW_in 811 (by decide +kernel) rfl, by decide, by decide, by decide +kernel⟩
theorem yvX9_type : mYv yX9_type cX9_type 2 (some .int) 1 := ⟨AW_in 813 (by decide +kernel) rfl, AW_in 814 (by decide +kernel) rfl, wi_X9, AW_in 815 (by decide +kernel) rfl, by decide, by decide, by decide +kernel⟩
theorem yvX9_picture : mYv yX9_picture cX9_picture 6 (some .int) 0 := ⟨AW_in 820 (by decide +kernel) rfl, AW_in 821 (by decide +kernel) rfl, wi_X9, AW_in 822 (by decide +kernel) rfl, by decide, by decide, by decide +kernel⟩
theorem yvX9_here : mYv yX9_here cX9_here 1 (some .int) 0 := ⟨AW_in 825 (by decide +kernel) rfl, AW_in 54 (by decide +kernel) rfl, wi_X9, AW_in 826 (by decide +kernel) rfl, by decide, by decide, by decide +kernel⟩
theorem yvX9_dots : mYv yX9_dots cX9_dots 4 (some .int) 0 := ⟨AW_in 829 (by decide +kernel) rfl, AW_in 55 (by decide +kernel) rfl, wi_X9, AW_in 830 (by decide +kernel) rfl, by decide, by decide, by decide +kernel⟩
theorem yvX9_paint : mYv yX9_paint cX9_paint 6 (some .int) 3 := ⟨AW_in 834 (by decide +kernel) rfl, AW_in 835 (by decide +kernel) rfl, wi_X9, AW_in 836 (by decide +kernel) rfl, by decide, by decide, by decide +kernel⟩
theorem yvX9_notes : mYv yX9_notes cX9_notes 2 none 0 := ⟨AW_in 842 (by decide +kernel) rfl, AW_in 56 (by decide +kernel) rfl, wi_X9, AW_in 843 (by decide +kernel) rfl, by decide, by decide, by decide +kernel⟩
theorem yvX9_shift : mYv yX9_shift cX9_shift 5 (some .int) 2 := ⟨AW_in 845 (by decide +kernel) rfl, AW_in 846 (by decide +kernel) rfl, wi_X9, AW_in 847 (by decide +kernel) rfl, by decide, by decide, by decide +kernel⟩
theorem yvX9_take : mYv yX9_take cX9_take 3 (some .int) 0 := ⟨AW_in 850 (by decide +kernel) rfl, AW_in 851 (by decide +kernel) rfl, wi_X9, AW_in 852 (by decide +kernel) rfl, by decide, by decide, by decide +kernel⟩
theorem yvX9_like : mYv yX9_like cX9_like 3 (some .int) 1 := ⟨AW_in 854 (by decide +kernel) rfl, AW_in 855 (by decide +kernel) rfl, wi_X9, AW_in 856 (by decide +kernel) rfl, by decide, by decide, by decide +kernel⟩
theorem yvX9_noise : mYv yX9_noise cX9_noise 6 (some .int) 1 := ⟨AW_in 859 (by decide +kernel) rfl, AW_in 860 (by decide +kernel) rfl, wi_X9, AW_in 861 (by decide +kernel) rfl, by decide, by decide, by decide +kernel⟩
theorem yvX9_undo : mYv yX9_undo cX9_undo 2 (some .int) 0 := ⟨AW_in 868 (by decide +kernel) rfl, AW_in 869 (by decide +kernel) rfl, wi_X9, AW_in 870 (by decide +kernel) rfl, by decide, by decide, by decide +kernel⟩
theorem yvX9_seed : mYv yX9_seed cX9_seed 3 (some .int) 1 := ⟨AW_in 872 (by decide +kernel) rfl, AW_in 873 (by decide +kernel) rfl, wi_X9, AW_in 874 (by decide +kernel) rfl, by decide, by decide, by decide +kernel⟩
theorem yvX9_cost : mYv yX9_cost cX9_cost 3 (some .int) 2 := ⟨AW_in 876 (by decide +kernel) rfl, AW_in 877 (by decide +kernel) rfl, wi_X9, AW_in 878 (by decide +kernel) rfl, by decide, by decide, by decide +kernel⟩
theorem ysX9_isBlock : mYs yX9_isBlock cX9_isBlock 1 (some .boolean) 1 := ⟨AW_in 880 (by decide +kernel) rfl, wi_X9, AW_in 881 (by decide +kernel) rfl, by decide, by decide, by decide +kernel⟩
theorem ysX9_isMove : mYs yX9_isMove cX9_isMove 2 (some .boolean) 1 := ⟨AW_in 884 (by decide +kernel) rfl, wi_X9, AW_in 885 (by decide +kernel) rfl, by decide, by decide, by decide +kernel⟩
theorem yvX9_of : mYv yX9_of cX9_of 3 (some .int) 2 := ⟨AW_in 888 (by decide +kernel) rfl, AW_in 889 (by decide +kernel) rfl, wi_X9, AW_in 890 (by decide +kernel) rfl, by decide, by decide, by decide +kernel⟩
theorem yvX9_tries : mYv yX9_tries cX9_tries 10 none 1 := ⟨AW_in 893 (by decide +kernel) rfl, AW_in 57 (by decide +kernel) rfl, wi_X9, AW_in 894 (by decide +kernel) rfl, by decide, by decide, by decide +kernel⟩
theorem yvX9_sumsOff : mYv yX9_sumsOff cX9_sumsOff 7 (some .int) 2 := ⟨AW_in 897 (by decide +kernel) rfl, AW_in 58 (by decide +kernel) rfl, wi_X9, AW_in 898 (by decide +kernel) rfl, by decide, by decide, by decide +kernel⟩
theorem yvX9_half : mYv yX9_half cX9_half 8 (some .int) 2 := ⟨AW_in 901 (by decide +kernel) rfl, AW_in 59 (by decide +kernel) rfl, wi_X9, AW_in 902 (by decide +kernel) rfl, by decide, by decide, by decide +kernel⟩
theorem yvX9_halvedCost : mYv yX9_halvedCost cX9_halvedCost 9 (some .int) 4 := ⟨AW_in 905 (by decide +kernel) rfl, AW_in 60 (by decide +kernel) rfl, wi_X9, AW_in 906 (by decide +kernel) rfl, by decide, by decide, by decide +kernel⟩
theorem yvX9_halved : mYv yX9_halved cX9_halved 6 (some .int) 4 := ⟨AW_in 909 (by decide +kernel) rfl, AW_in 61 (by decide +kernel) rfl, wi_X9, AW_in 910 (by decide +kernel) rfl, by decide, by decide, by decide +kernel⟩
theorem yvX9_rebuilt : mYv yX9_rebuilt cX9_rebuilt 3 (some .int) 2 := ⟨AW_in 912 (by decide +kernel) rfl, AW_in 913 (by decide +kernel) rfl, wi_X9, AW_in 914 (by decide +kernel) rfl, by decide, by decide, by decide +kernel⟩
theorem yvX9_wrong : mYv yX9_wrong cX9_wrong 11 (some .int) 3 := ⟨AW_in 916 (by decide +kernel) rfl, AW_in 917 (by decide +kernel) rfl, wi_X9, AW_in 918 (by decide +kernel) rfl, by decide, by decide, by decide +kernel⟩
theorem yvX9_image : mYv yX9_image cX9_image 2 (some .int) 0 := ⟨AW_in 921 (by decide +kernel) rfl, AW_in 922 (by decide +kernel) rfl, wi_X9, AW_in 923 (by decide +kernel) rfl, by decide, by decide, by decide +kernel⟩
theorem yvX9_restore : mYv yX9_restore cX9_restore 2 (some .int) 0 := ⟨AW_in 925 (by decide +kernel) rfl, AW_in 926 (by decide +kernel) rfl, wi_X9, AW_in 927 (by decide +kernel) rfl, by decide, by decide, by decide +kernel⟩
theorem yvX9_sheet : mYv yX9_sheet cX9_sheet 5 (some .int) 3 := ⟨AW_in 929 (by decide +kernel) rfl, AW_in 930 (by decide +kernel) rfl, wi_X9, AW_in 931 (by decide +kernel) rfl, by decide, by decide, by decide +kernel⟩
theorem ysX9_isSheet : mYs yX9_isSheet cX9_isSheet 1 (some .boolean) 1 := ⟨AW_in 933 (by decide +kernel) rfl, wi_X9, AW_in 934 (by decide +kernel) rfl, by decide, by decide, by decide +kernel⟩
theorem yvX9_drop : mYv yX9_drop cX9_drop 2 (some .int) 1 := ⟨AW_in 937 (by decide +kernel) rfl, AW_in 938 (by decide +kernel) rfl, wi_X9, AW_in 939 (by decide +kernel) rfl, by decide, by decide, by decide +kernel⟩
theorem yvX9_item : mYv yX9_item cX9_item 7 (some .int) 4 := ⟨AW_in 942 (by decide +kernel) rfl, AW_in 943 (by decide +kernel) rfl, wi_X9, AW_in 944 (by decide +kernel) rfl, by decide, by decide, by decide +kernel⟩
theorem yvX9_why : mYv yX9_why cX9_why 5 (some .int) 4 := ⟨AW_in 947 (by decide +kernel) rfl, AW_in 62 (by decide +kernel) rfl, wi_X9, AW_in 948 (by decide +kernel) rfl, by decide, by decide, by decide +kernel⟩
theorem ysX9_cut : mYs yX9_cut cX9_cut 3 (some .long) 2 := ⟨AW_in 952 (by decide +kernel) rfl, wi_X9, AW_in 953 (by decide +kernel) rfl, by decide, by decide, by decide +kernel⟩
theorem yvX9_copy : mYv yX9_copy cX9_copy 7 (some .int) 5 := ⟨AW_in 955 (by decide +kernel) rfl, AW_in 956 (by decide +kernel) rfl, wi_X9, AW_in 957 (by decide +kernel) rfl, by decide, by decide, by decide +kernel⟩
theorem yvX9_found : mYv yX9_found cX9_found 10 (some .int) 4 := ⟨AW_in 959 (by decide +kernel) rfl, AW_in 960 (by decide +kernel) rfl, wi_X9, AW_in 961 (by decide +kernel) rfl, by decide, by decide, by decide +kernel⟩
theorem yvX9_film : mYv yX9_film cX9_film 7 (some .int) 4 := ⟨AW_in 963 (by decide +kernel) rfl, AW_in 964 (by decide +kernel) rfl, wi_X9, AW_in 965 (by decide +kernel) rfl, by decide, by decide, by decide +kernel⟩
end
section
section
variable {l : Launch} {G : mG} {R : Room} {X : mF} {own : String} {cc : ByteArray} {nL kc ns : Nat} {Z : mZ} {pc : Nat} {lv : List (Option Value)} {rest : List Value} {d : mD} {ao bo : Nat}
theorem wE_o0 (h : ob Z 0 ao) : wE G Z d ao = .inr (0, [va_rf (rf Z 0 ao), va_rf (rf Z 1 ao)]) := by simp [wE, h.2]
theorem wE_o1 (h : ob Z 1 ao) : wE G Z d ao = .inr (1, [.int (gI d 32 ao), .int (gI d 33 ao)]) := by simp [wE, h.2]
theorem wE_o2 (h : ob Z 2 ao) : wE G Z d ao = .inr (2, [va_rf (rf Z 64 ao)]) := by simp [wE, h.2]
theorem wE_o3 (h : ob Z 3 ao) : wE G Z d ao = .inr (3, [va_rf (rf Z 96 ao), va_rf (rf Z 97 ao), .int (gI d 98 ao), .int (gI d 99 ao)]) := by simp [wE, h.2]
theorem wE_o4 (h : ob Z 4 ao) : wE G Z d ao = .inr (4, [.int (gI d 128 ao), .int (gI d 129 ao), .int (gI d 130 ao), .int (gI d 131 ao)]) := by simp [wE, h.2]
theorem wE_o5 (h : ob Z 5 ao) : wE G Z d ao = .inr (5, [va_rf (rf Z 160 ao), .int (gI d 161 ao), .int (gI d 162 ao), .int (gI d 163 ao)]) := by simp [wE, h.2]
theorem wE_o6 (h : ob Z 6 ao) : wE G Z d ao = .inr (6, [va_rf (rf Z 192 ao), va_rf (rf Z 193 ao), .int (gI d 194 ao)]) := by simp [wE, h.2]
theorem wE_o7 (h : ob Z 7 ao) : wE G Z d ao = .inr (7, [va_rf (rf Z 224 ao), .int (gI d 225 ao), va_rf (rf Z 226 ao), .int (gI d 227 ao), .int (gI d 228 ao)]) := by simp [wE, h.2]
theorem wE_o8 (h : ob Z 8 ao) : wE G Z d ao = .inr (8, [va_rf (rf Z 256 ao), va_rf (rf Z 257 ao), .int (gI d 258 ao), va_rf (rf Z 259 ao), va_rf (rf Z 260 ao), va_rf (rf Z 261 ao), va_rf (rf Z 262 ao), va_rf (rf Z 263 ao), va_rf (rf Z 264 ao)]) := by simp [wE, h.2]
theorem wE_o9 (h : ob Z 9 ao) : wE G Z d ao = .inr (9, [va_rf (rf Z 288 ao), va_rf (rf Z 289 ao), .int (gI d 290 ao), .int (gI d 291 ao), .int (gI d 292 ao), va_rf (rf Z 293 ao), va_rf (rf Z 294 ao), .int (gI d 295 ao), .int (gI d 296 ao), va_rf (rf Z 297 ao), va_rf (rf Z 298 ao), .int (gI d 299 ao), va_rf (rf Z 300 ao), va_rf (rf Z 301 ao), .int (gI d 302 ao), va_rf (rf Z 303 ao), va_rf (rf Z 304 ao), va_rf (rf Z 305 ao), va_rf (rf Z 306 ao)]) := by simp [wE, h.2]
theorem gf_X2_9 (hob : ob Z 2 ao) (hr : rf Z 64 ao = some bo) (hd : decode cc pc = .ok (.getfield 9, 3)) (kk : mGo l G R X RX2 cc nL kc ns Z (pc + 3) lv (.ref bo :: rest) d) : mGo l G R X RX2 cc nL kc ns Z pc lv (.ref ao :: rest) d := g_get (fk := 0) inW2 rfl (by decide) wf_X2_9 rfl hob.1 (wE_o2 hob) (v := .ref bo) (by show some (va_rf (rf Z 64 ao)) = _; rw [hr]; rfl) hd kk
theorem gf_X3_28 (hob : ob Z 2 ao) (hr : rf Z 64 ao = some bo) (hd : decode cc pc = .ok (.getfield 28, 3)) (kk : mGo l G R X RX3 cc nL kc ns Z (pc + 3) lv (.ref bo :: rest) d) : mGo l G R X RX3 cc nL kc ns Z pc lv (.ref ao :: rest) d := g_getN (fk := 0) inW2 rfl (by decide) wf_X3_28 rfl hob.1 (wE_o2 hob) (v := .ref bo) (by show some (va_rf (rf Z 64 ao)) = _; rw [hr]; rfl) hd kk
theorem gf_X8_151 (hob : ob Z 2 ao) (hr : rf Z 64 ao = some bo) (hd : decode cc pc = .ok (.getfield 151, 3)) (kk : mGo l G R X RX8 cc nL kc ns Z (pc + 3) lv (.ref bo :: rest) d) : mGo l G R X RX8 cc nL kc ns Z pc lv (.ref ao :: rest) d := g_getN (fk := 0) inW2 rfl (by decide) wf_X8_151 rfl hob.1 (wE_o2 hob) (v := .ref bo) (by show some (va_rf (rf Z 64 ao)) = _; rw [hr]; rfl) hd kk
theorem gf_X3_12 (hob : ob Z 3 ao) (hr : rf Z 96 ao = some bo) (hd : decode cc pc = .ok (.getfield 12, 3)) (kk : mGo l G R X RX3 cc nL kc ns Z (pc + 3) lv (.ref bo :: rest) d) : mGo l G R X RX3 cc nL kc ns Z pc lv (.ref ao :: rest) d := g_get (fk := 0) inW3 rfl (by decide) wf_X3_12 rfl hob.1 (wE_o3 hob) (v := .ref bo) (by show some (va_rf (rf Z 96 ao)) = _; rw [hr]; rfl) hd kk
theorem gf_X1_32 (hob : ob Z 3 ao) (hr : rf Z 96 ao = some bo) (hd : decode cc pc = .ok (.getfield 32, 3)) (kk : mGo l G R X RX1 cc nL kc ns Z (pc + 3) lv (.ref bo :: rest) d) : mGo l G R X RX1 cc nL kc ns Z pc lv (.ref ao :: rest) d := g_getN (fk := 0) inW3 rfl (by decide) wf_X1_32 rfl hob.1 (wE_o3 hob) (v := .ref bo) (by show some (va_rf (rf Z 96 ao)) = _; rw [hr]; rfl) hd kk
theorem gf_X0_32 (hob : ob Z 3 ao) (hr : rf Z 96 ao = some bo) (hd : decode cc pc = .ok (.getfield 32, 3)) (kk : mGo l G R X RX0 cc nL kc ns Z (pc + 3) lv (.ref bo :: rest) d) : mGo l G R X RX0 cc nL kc ns Z pc lv (.ref ao :: rest) d := g_getN (fk := 0) inW3 rfl (by decide) wf_X0_32 rfl hob.1 (wE_o3 hob) (v := .ref bo) (by show some (va_rf (rf Z 96 ao)) = _; rw [hr]; rfl) hd kk
theorem gf_X8_85 (hob : ob Z 3 ao) (hr : rf Z 96 ao = some bo) (hd : decode cc pc = .ok (.getfield 85, 3)) (kk : mGo l G R X RX8 cc nL kc ns Z (pc + 3) lv (.ref bo :: rest) d) : mGo l G R X RX8 cc nL kc ns Z pc lv (.ref ao :: rest) d := g_getN (fk := 0) inW3 rfl (by decide) wf_X8_85 rfl hob.1 (wE_o3 hob) (v := .ref bo) (by show some (va_rf (rf Z 96 ao)) = _; rw [hr]; rfl) hd kk
theorem gf_X4_88 (hob : ob Z 3 ao) (hr : rf Z 96 ao = some bo) (hd : decode cc pc = .ok (.getfield 88, 3)) (kk : mGo l G R X RX4 cc nL kc ns Z (pc + 3) lv (.ref bo :: rest) d) : mGo l G R X RX4 cc nL kc ns Z pc lv (.ref ao :: rest) d := g_getN (fk := 0) inW3 rfl (by decide) wf_X4_88 rfl hob.1 (wE_o3 hob) (v := .ref bo) (by show some (va_rf (rf Z 96 ao)) = _; rw [hr]; rfl) hd kk
theorem gf_X3_18 (hob : ob Z 3 ao) (hr : rf Z 97 ao = some bo) (hd : decode cc pc = .ok (.getfield 18, 3)) (kk : mGo l G R X RX3 cc nL kc ns Z (pc + 3) lv (.ref bo :: rest) d) : mGo l G R X RX3 cc nL kc ns Z pc lv (.ref ao :: rest) d := g_get (fk := 1) inW3 rfl (by decide) wf_X3_18 rfl hob.1 (wE_o3 hob) (v := .ref bo) (by show some (va_rf (rf Z 97 ao)) = _; rw [hr]; rfl) hd kk
theorem gf_X0_50 (hob : ob Z 3 ao) (hr : rf Z 97 ao = some bo) (hd : decode cc pc = .ok (.getfield 50, 3)) (kk : mGo l G R X RX0 cc nL kc ns Z (pc + 3) lv (.ref bo :: rest) d) : mGo l G R X RX0 cc nL kc ns Z pc lv (.ref ao :: rest) d := g_getN (fk := 1) inW3 rfl (by decide) wf_X0_50 rfl hob.1 (wE_o3 hob) (v := .ref bo) (by show some (va_rf (rf Z 97 ao)) = _; rw [hr]; rfl) hd kk
theorem gf_X1_48 (hob : ob Z 3 ao) (hr : rf Z 97 ao = some bo) (hd : decode cc pc = .ok (.getfield 48, 3)) (kk : mGo l G R X RX1 cc nL kc ns Z (pc + 3) lv (.ref bo :: rest) d) : mGo l G R X RX1 cc nL kc ns Z pc lv (.ref ao :: rest) d := g_getN (fk := 1) inW3 rfl (by decide) wf_X1_48 rfl hob.1 (wE_o3 hob) (v := .ref bo) (by show some (va_rf (rf Z 97 ao)) = _; rw [hr]; rfl) hd kk
theorem gf_X8_99 (hob : ob Z 3 ao) (hr : rf Z 97 ao = some bo) (hd : decode cc pc = .ok (.getfield 99, 3)) (kk : mGo l G R X RX8 cc nL kc ns Z (pc + 3) lv (.ref bo :: rest) d) : mGo l G R X RX8 cc nL kc ns Z pc lv (.ref ao :: rest) d := g_getN (fk := 1) inW3 rfl (by decide) wf_X8_99 rfl hob.1 (wE_o3 hob) (v := .ref bo) (by show some (va_rf (rf Z 97 ao)) = _; rw [hr]; rfl) hd kk
theorem gf_X4_79 (hob : ob Z 3 ao) (hr : rf Z 97 ao = some bo) (hd : decode cc pc = .ok (.getfield 79, 3)) (kk : mGo l G R X RX4 cc nL kc ns Z (pc + 3) lv (.ref bo :: rest) d) : mGo l G R X RX4 cc nL kc ns Z pc lv (.ref ao :: rest) d := g_getN (fk := 1) inW3 rfl (by decide) wf_X4_79 rfl hob.1 (wE_o3 hob) (v := .ref bo) (by show some (va_rf (rf Z 97 ao)) = _; rw [hr]; rfl) hd kk
theorem gf_X3_21 (hob : ob Z 3 ao) (hd : decode cc pc = .ok (.getfield 21, 3)) (kk : mGo l G R X RX3 cc nL kc ns Z (pc + 3) lv (.int (gI d 98 ao) :: rest) d) : mGo l G R X RX3 cc nL kc ns Z pc lv (.ref ao :: rest) d := g_get (fk := 2) inW3 rfl (by decide) wf_X3_21 rfl hob.1 (wE_o3 hob) rfl hd kk
theorem pf_X3_21 {v : Int32} (hob : ob Z 3 ao) (hd : decode cc pc = .ok (.putfield 21, 3)) (kk : mGo l G R X RX3 cc nL kc ns Z (pc + 3) lv rest (sI d 98 ao v)) : mGo l G R X RX3 cc nL kc ns Z pc lv (.int v :: .ref ao :: rest) d := g_put (fk := 2) (ty := .int) inW3 tyX3_ok nmX3 rfl (by decide) wf_X3_21 rfl rfl (by decide +kernel) rfl rfl (Nat.le_of_ble_eq_true rfl) hob.1 (wE_o3 hob) rfl (by rw [wE_o3 hob]; simp [gI_sI]) (fun b hb => wE_sI hb) hd kk
theorem gf_X8_113 (hob : ob Z 3 ao) (hd : decode cc pc = .ok (.getfield 113, 3)) (kk : mGo l G R X RX8 cc nL kc ns Z (pc + 3) lv (.int (gI d 98 ao) :: rest) d) : mGo l G R X RX8 cc nL kc ns Z pc lv (.ref ao :: rest) d := g_getN (fk := 2) inW3 rfl (by decide) wf_X8_113 rfl hob.1 (wE_o3 hob) rfl hd kk
theorem pf_X8_113 {v : Int32} (hob : ob Z 3 ao) (hd : decode cc pc = .ok (.putfield 113, 3)) (kk : mGo l G R X RX8 cc nL kc ns Z (pc + 3) lv rest (sI d 98 ao v)) : mGo l G R X RX8 cc nL kc ns Z pc lv (.int v :: .ref ao :: rest) d := g_putN (fk := 2) (ty := .int) inW3 tyX3_ok nmX3 rfl (by decide) wf_X8_113 rfl rfl (by decide +kernel) rfl rfl (Nat.le_of_ble_eq_true rfl) hob.1 (wE_o3 hob) rfl (by rw [wE_o3 hob]; simp [gI_sI]) (fun b hb => wE_sI hb) hd kk
theorem gf_X4_71 (hob : ob Z 3 ao) (hd : decode cc pc = .ok (.getfield 71, 3)) (kk : mGo l G R X RX4 cc nL kc ns Z (pc + 3) lv (.int (gI d 98 ao) :: rest) d) : mGo l G R X RX4 cc nL kc ns Z pc lv (.ref ao :: rest) d := g_getN (fk := 2) inW3 rfl (by decide) wf_X4_71 rfl hob.1 (wE_o3 hob) rfl hd kk
theorem pf_X4_71 {v : Int32} (hob : ob Z 3 ao) (hd : decode cc pc = .ok (.putfield 71, 3)) (kk : mGo l G R X RX4 cc nL kc ns Z (pc + 3) lv rest (sI d 98 ao v)) : mGo l G R X RX4 cc nL kc ns Z pc lv (.int v :: .ref ao :: rest) d := g_putN (fk := 2) (ty := .int) inW3 tyX3_ok nmX3 rfl (by decide) wf_X4_71 rfl rfl (by decide +kernel) rfl rfl (Nat.le_of_ble_eq_true rfl) hob.1 (wE_o3 hob) rfl (by rw [wE_o3 hob]; simp [gI_sI]) (fun b hb => wE_sI hb) hd kk
theorem gf_X3_25 (hob : ob Z 3 ao) (hd : decode cc pc = .ok (.getfield 25, 3)) (kk : mGo l G R X RX3 cc nL kc ns Z (pc + 3) lv (.int (gI d 99 ao) :: rest) d) : mGo l G R X RX3 cc nL kc ns Z pc lv (.ref ao :: rest) d := g_get (fk := 3) inW3 rfl (by decide) wf_X3_25 rfl hob.1 (wE_o3 hob) rfl hd kk
theorem pf_X3_25 {v : Int32} (hob : ob Z 3 ao) (hd : decode cc pc = .ok (.putfield 25, 3)) (kk : mGo l G R X RX3 cc nL kc ns Z (pc + 3) lv rest (sI d 99 ao v)) : mGo l G R X RX3 cc nL kc ns Z pc lv (.int v :: .ref ao :: rest) d := g_put (fk := 3) (ty := .int) inW3 tyX3_ok nmX3 rfl (by decide) wf_X3_25 rfl rfl (by decide +kernel) rfl rfl (Nat.le_of_ble_eq_true rfl) hob.1 (wE_o3 hob) rfl (by rw [wE_o3 hob]; simp [gI_sI]) (fun b hb => wE_sI hb) hd kk
theorem gf_X8_163 (hob : ob Z 3 ao) (hd : decode cc pc = .ok (.getfield 163, 3)) (kk : mGo l G R X RX8 cc nL kc ns Z (pc + 3) lv (.int (gI d 99 ao) :: rest) d) : mGo l G R X RX8 cc nL kc ns Z pc lv (.ref ao :: rest) d := g_getN (fk := 3) inW3 rfl (by decide) wf_X8_163 rfl hob.1 (wE_o3 hob) rfl hd kk
theorem pf_X8_163 {v : Int32} (hob : ob Z 3 ao) (hd : decode cc pc = .ok (.putfield 163, 3)) (kk : mGo l G R X RX8 cc nL kc ns Z (pc + 3) lv rest (sI d 99 ao v)) : mGo l G R X RX8 cc nL kc ns Z pc lv (.int v :: .ref ao :: rest) d := g_putN (fk := 3) (ty := .int) inW3 tyX3_ok nmX3 rfl (by decide) wf_X8_163 rfl rfl (by decide +kernel) rfl rfl (Nat.le_of_ble_eq_true rfl) hob.1 (wE_o3 hob) rfl (by rw [wE_o3 hob]; simp [gI_sI]) (fun b hb => wE_sI hb) hd kk
theorem gf_X6_12 (hob : ob Z 6 ao) (hr : rf Z 192 ao = some bo) (hd : decode cc pc = .ok (.getfield 12, 3)) (kk : mGo l G R X RX6 cc nL kc ns Z (pc + 3) lv (.ref bo :: rest) d) : mGo l G R X RX6 cc nL kc ns Z pc lv (.ref ao :: rest) d := g_get (fk := 0) inW6 rfl (by decide) wf_X6_12 rfl hob.1 (wE_o6 hob) (v := .ref bo) (by show some (va_rf (rf Z 192 ao)) = _; rw [hr]; rfl) hd kk
theorem gf_X8_82 (hob : ob Z 6 ao) (hr : rf Z 192 ao = some bo) (hd : decode cc pc = .ok (.getfield 82, 3)) (kk : mGo l G R X RX8 cc nL kc ns Z (pc + 3) lv (.ref bo :: rest) d) : mGo l G R X RX8 cc nL kc ns Z pc lv (.ref ao :: rest) d := g_getN (fk := 0) inW6 rfl (by decide) wf_X8_82 rfl hob.1 (wE_o6 hob) (v := .ref bo) (by show some (va_rf (rf Z 192 ao)) = _; rw [hr]; rfl) hd kk
theorem gf_X6_18 (hob : ob Z 6 ao) (hr : rf Z 193 ao = some bo) (hd : decode cc pc = .ok (.getfield 18, 3)) (kk : mGo l G R X RX6 cc nL kc ns Z (pc + 3) lv (.ref bo :: rest) d) : mGo l G R X RX6 cc nL kc ns Z pc lv (.ref ao :: rest) d := g_get (fk := 1) inW6 rfl (by decide) wf_X6_18 rfl hob.1 (wE_o6 hob) (v := .ref bo) (by show some (va_rf (rf Z 193 ao)) = _; rw [hr]; rfl) hd kk
theorem gf_X6_22 (hob : ob Z 6 ao) (hd : decode cc pc = .ok (.getfield 22, 3)) (kk : mGo l G R X RX6 cc nL kc ns Z (pc + 3) lv (.int (gI d 194 ao) :: rest) d) : mGo l G R X RX6 cc nL kc ns Z pc lv (.ref ao :: rest) d := g_get (fk := 2) inW6 rfl (by decide) wf_X6_22 rfl hob.1 (wE_o6 hob) rfl hd kk
theorem pf_X6_22 {v : Int32} (hob : ob Z 6 ao) (hd : decode cc pc = .ok (.putfield 22, 3)) (kk : mGo l G R X RX6 cc nL kc ns Z (pc + 3) lv rest (sI d 194 ao v)) : mGo l G R X RX6 cc nL kc ns Z pc lv (.int v :: .ref ao :: rest) d := g_put (fk := 2) (ty := .int) inW6 tyX6_ok nmX6 rfl (by decide) wf_X6_22 rfl rfl (by decide +kernel) rfl rfl (Nat.le_of_ble_eq_true rfl) hob.1 (wE_o6 hob) rfl (by rw [wE_o6 hob]; simp [gI_sI]) (fun b hb => wE_sI hb) hd kk
theorem gf_X8_102 (hob : ob Z 6 ao) (hd : decode cc pc = .ok (.getfield 102, 3)) (kk : mGo l G R X RX8 cc nL kc ns Z (pc + 3) lv (.int (gI d 194 ao) :: rest) d) : mGo l G R X RX8 cc nL kc ns Z pc lv (.ref ao :: rest) d := g_getN (fk := 2) inW6 rfl (by decide) wf_X8_102 rfl hob.1 (wE_o6 hob) rfl hd kk
theorem pf_X8_102 {v : Int32} (hob : ob Z 6 ao) (hd : decode cc pc = .ok (.putfield 102, 3)) (kk : mGo l G R X RX8 cc nL kc ns Z (pc + 3) lv rest (sI d 194 ao v)) : mGo l G R X RX8 cc nL kc ns Z pc lv (.int v :: .ref ao :: rest) d := g_putN (fk := 2) (ty := .int) inW6 tyX6_ok nmX6 rfl (by decide) wf_X8_102 rfl rfl (by decide +kernel) rfl rfl (Nat.le_of_ble_eq_true rfl) hob.1 (wE_o6 hob) rfl (by rw [wE_o6 hob]; simp [gI_sI]) (fun b hb => wE_sI hb) hd kk
theorem gf_X7_9 (hob : ob Z 7 ao) (hr : rf Z 224 ao = some bo) (hd : decode cc pc = .ok (.getfield 9, 3)) (kk : mGo l G R X RX7 cc nL kc ns Z (pc + 3) lv (.ref bo :: rest) d) : mGo l G R X RX7 cc nL kc ns Z pc lv (.ref ao :: rest) d := g_get (fk := 0) inW7 rfl (by decide) wf_X7_9 rfl hob.1 (wE_o7 hob) (v := .ref bo) (by show some (va_rf (rf Z 224 ao)) = _; rw [hr]; rfl) hd kk
theorem gf_X7_15 (hob : ob Z 7 ao) (hd : decode cc pc = .ok (.getfield 15, 3)) (kk : mGo l G R X RX7 cc nL kc ns Z (pc + 3) lv (.int (gI d 225 ao) :: rest) d) : mGo l G R X RX7 cc nL kc ns Z pc lv (.ref ao :: rest) d := g_get (fk := 1) inW7 rfl (by decide) wf_X7_15 rfl hob.1 (wE_o7 hob) rfl hd kk
theorem pf_X7_15 {v : Int32} (hob : ob Z 7 ao) (hd : decode cc pc = .ok (.putfield 15, 3)) (kk : mGo l G R X RX7 cc nL kc ns Z (pc + 3) lv rest (sI d 225 ao v)) : mGo l G R X RX7 cc nL kc ns Z pc lv (.int v :: .ref ao :: rest) d := g_put (fk := 1) (ty := .int) inW7 tyX7_ok nmX7 rfl (by decide) wf_X7_15 rfl rfl (by decide +kernel) rfl rfl (Nat.le_of_ble_eq_true rfl) hob.1 (wE_o7 hob) rfl (by rw [wE_o7 hob]; simp [gI_sI]) (fun b hb => wE_sI hb) hd kk
theorem gf_X8_70 (hob : ob Z 7 ao) (hd : decode cc pc = .ok (.getfield 70, 3)) (kk : mGo l G R X RX8 cc nL kc ns Z (pc + 3) lv (.int (gI d 225 ao) :: rest) d) : mGo l G R X RX8 cc nL kc ns Z pc lv (.ref ao :: rest) d := g_getN (fk := 1) inW7 rfl (by decide) wf_X8_70 rfl hob.1 (wE_o7 hob) rfl hd kk
theorem pf_X8_70 {v : Int32} (hob : ob Z 7 ao) (hd : decode cc pc = .ok (.putfield 70, 3)) (kk : mGo l G R X RX8 cc nL kc ns Z (pc + 3) lv rest (sI d 225 ao v)) : mGo l G R X RX8 cc nL kc ns Z pc lv (.int v :: .ref ao :: rest) d := g_putN (fk := 1) (ty := .int) inW7 tyX7_ok nmX7 rfl (by decide) wf_X8_70 rfl rfl (by decide +kernel) rfl rfl (Nat.le_of_ble_eq_true rfl) hob.1 (wE_o7 hob) rfl (by rw [wE_o7 hob]; simp [gI_sI]) (fun b hb => wE_sI hb) hd kk
theorem gf_X7_19 (hob : ob Z 7 ao) (hr : rf Z 226 ao = some bo) (hd : decode cc pc = .ok (.getfield 19, 3)) (kk : mGo l G R X RX7 cc nL kc ns Z (pc + 3) lv (.ref bo :: rest) d) : mGo l G R X RX7 cc nL kc ns Z pc lv (.ref ao :: rest) d := g_get (fk := 2) inW7 rfl (by decide) wf_X7_19 rfl hob.1 (wE_o7 hob) (v := .ref bo) (by show some (va_rf (rf Z 226 ao)) = _; rw [hr]; rfl) hd kk
theorem gf_X8_89 (hob : ob Z 7 ao) (hr : rf Z 226 ao = some bo) (hd : decode cc pc = .ok (.getfield 89, 3)) (kk : mGo l G R X RX8 cc nL kc ns Z (pc + 3) lv (.ref bo :: rest) d) : mGo l G R X RX8 cc nL kc ns Z pc lv (.ref ao :: rest) d := g_getN (fk := 2) inW7 rfl (by decide) wf_X8_89 rfl hob.1 (wE_o7 hob) (v := .ref bo) (by show some (va_rf (rf Z 226 ao)) = _; rw [hr]; rfl) hd kk
theorem gf_X7_22 (hob : ob Z 7 ao) (hd : decode cc pc = .ok (.getfield 22, 3)) (kk : mGo l G R X RX7 cc nL kc ns Z (pc + 3) lv (.int (gI d 227 ao) :: rest) d) : mGo l G R X RX7 cc nL kc ns Z pc lv (.ref ao :: rest) d := g_get (fk := 3) inW7 rfl (by decide) wf_X7_22 rfl hob.1 (wE_o7 hob) rfl hd kk
theorem pf_X7_22 {v : Int32} (hob : ob Z 7 ao) (hd : decode cc pc = .ok (.putfield 22, 3)) (kk : mGo l G R X RX7 cc nL kc ns Z (pc + 3) lv rest (sI d 227 ao v)) : mGo l G R X RX7 cc nL kc ns Z pc lv (.int v :: .ref ao :: rest) d := g_put (fk := 3) (ty := .int) inW7 tyX7_ok nmX7 rfl (by decide) wf_X7_22 rfl rfl (by decide +kernel) rfl rfl (Nat.le_of_ble_eq_true rfl) hob.1 (wE_o7 hob) rfl (by rw [wE_o7 hob]; simp [gI_sI]) (fun b hb => wE_sI hb) hd kk
theorem gf_X7_25 (hob : ob Z 7 ao) (hd : decode cc pc = .ok (.getfield 25, 3)) (kk : mGo l G R X RX7 cc nL kc ns Z (pc + 3) lv (.int (gI d 228 ao) :: rest) d) : mGo l G R X RX7 cc nL kc ns Z pc lv (.ref ao :: rest) d := g_get (fk := 4) inW7 rfl (by decide) wf_X7_25 rfl hob.1 (wE_o7 hob) rfl hd kk
theorem pf_X7_25 {v : Int32} (hob : ob Z 7 ao) (hd : decode cc pc = .ok (.putfield 25, 3)) (kk : mGo l G R X RX7 cc nL kc ns Z (pc + 3) lv rest (sI d 228 ao v)) : mGo l G R X RX7 cc nL kc ns Z pc lv (.int v :: .ref ao :: rest) d := g_put (fk := 4) (ty := .int) inW7 tyX7_ok nmX7 rfl (by decide) wf_X7_25 rfl rfl (by decide +kernel) rfl rfl (Nat.le_of_ble_eq_true rfl) hob.1 (wE_o7 hob) rfl (by rw [wE_o7 hob]; simp [gI_sI]) (fun b hb => wE_sI hb) hd kk
theorem gf_X8_79 (hob : ob Z 7 ao) (hd : decode cc pc = .ok (.getfield 79, 3)) (kk : mGo l G R X RX8 cc nL kc ns Z (pc + 3) lv (.int (gI d 228 ao) :: rest) d) : mGo l G R X RX8 cc nL kc ns Z pc lv (.ref ao :: rest) d := g_getN (fk := 4) inW7 rfl (by decide) wf_X8_79 rfl hob.1 (wE_o7 hob) rfl hd kk
theorem pf_X8_79 {v : Int32} (hob : ob Z 7 ao) (hd : decode cc pc = .ok (.putfield 79, 3)) (kk : mGo l G R X RX8 cc nL kc ns Z (pc + 3) lv rest (sI d 228 ao v)) : mGo l G R X RX8 cc nL kc ns Z pc lv (.int v :: .ref ao :: rest) d := g_putN (fk := 4) (ty := .int) inW7 tyX7_ok nmX7 rfl (by decide) wf_X8_79 rfl rfl (by decide +kernel) rfl rfl (Nat.le_of_ble_eq_true rfl) hob.1 (wE_o7 hob) rfl (by rw [wE_o7 hob]; simp [gI_sI]) (fun b hb => wE_sI hb) hd kk
theorem gf_X4_9 (hob : ob Z 4 ao) (hd : decode cc pc = .ok (.getfield 9, 3)) (kk : mGo l G R X RX4 cc nL kc ns Z (pc + 3) lv (.int (gI d 128 ao) :: rest) d) : mGo l G R X RX4 cc nL kc ns Z pc lv (.ref ao :: rest) d := g_get (fk := 0) inW4 rfl (by decide) wf_X4_9 rfl hob.1 (wE_o4 hob) rfl hd kk
theorem pf_X4_9 {v : Int32} (hob : ob Z 4 ao) (hd : decode cc pc = .ok (.putfield 9, 3)) (kk : mGo l G R X RX4 cc nL kc ns Z (pc + 3) lv rest (sI d 128 ao v)) : mGo l G R X RX4 cc nL kc ns Z pc lv (.int v :: .ref ao :: rest) d := g_put (fk := 0) (ty := .int) inW4 tyX4_ok nmX4 rfl (by decide) wf_X4_9 rfl rfl (by decide +kernel) rfl rfl (Nat.le_of_ble_eq_true rfl) hob.1 (wE_o4 hob) rfl (by rw [wE_o4 hob]; simp [gI_sI]) (fun b hb => wE_sI hb) hd kk
theorem gf_X0_24 (hob : ob Z 4 ao) (hd : decode cc pc = .ok (.getfield 24, 3)) (kk : mGo l G R X RX0 cc nL kc ns Z (pc + 3) lv (.int (gI d 128 ao) :: rest) d) : mGo l G R X RX0 cc nL kc ns Z pc lv (.ref ao :: rest) d := g_getN (fk := 0) inW4 rfl (by decide) wf_X0_24 rfl hob.1 (wE_o4 hob) rfl hd kk
theorem pf_X0_24 {v : Int32} (hob : ob Z 4 ao) (hd : decode cc pc = .ok (.putfield 24, 3)) (kk : mGo l G R X RX0 cc nL kc ns Z (pc + 3) lv rest (sI d 128 ao v)) : mGo l G R X RX0 cc nL kc ns Z pc lv (.int v :: .ref ao :: rest) d := g_putN (fk := 0) (ty := .int) inW4 tyX4_ok nmX4 rfl (by decide) wf_X0_24 rfl rfl (by decide +kernel) rfl rfl (Nat.le_of_ble_eq_true rfl) hob.1 (wE_o4 hob) rfl (by rw [wE_o4 hob]; simp [gI_sI]) (fun b hb => wE_sI hb) hd kk
theorem gf_X8_134 (hob : ob Z 4 ao) (hd : decode cc pc = .ok (.getfield 134, 3)) (kk : mGo l G R X RX8 cc nL kc ns Z (pc + 3) lv (.int (gI d 128 ao) :: rest) d) : mGo l G R X RX8 cc nL kc ns Z pc lv (.ref ao :: rest) d := g_getN (fk := 0) inW4 rfl (by decide) wf_X8_134 rfl hob.1 (wE_o4 hob) rfl hd kk
theorem pf_X8_134 {v : Int32} (hob : ob Z 4 ao) (hd : decode cc pc = .ok (.putfield 134, 3)) (kk : mGo l G R X RX8 cc nL kc ns Z (pc + 3) lv rest (sI d 128 ao v)) : mGo l G R X RX8 cc nL kc ns Z pc lv (.int v :: .ref ao :: rest) d := g_putN (fk := 0) (ty := .int) inW4 tyX4_ok nmX4 rfl (by decide) wf_X8_134 rfl rfl (by decide +kernel) rfl rfl (Nat.le_of_ble_eq_true rfl) hob.1 (wE_o4 hob) rfl (by rw [wE_o4 hob]; simp [gI_sI]) (fun b hb => wE_sI hb) hd kk
theorem gf_X4_15 (hob : ob Z 4 ao) (hd : decode cc pc = .ok (.getfield 15, 3)) (kk : mGo l G R X RX4 cc nL kc ns Z (pc + 3) lv (.int (gI d 129 ao) :: rest) d) : mGo l G R X RX4 cc nL kc ns Z pc lv (.ref ao :: rest) d := g_get (fk := 1) inW4 rfl (by decide) wf_X4_15 rfl hob.1 (wE_o4 hob) rfl hd kk
theorem pf_X4_15 {v : Int32} (hob : ob Z 4 ao) (hd : decode cc pc = .ok (.putfield 15, 3)) (kk : mGo l G R X RX4 cc nL kc ns Z (pc + 3) lv rest (sI d 129 ao v)) : mGo l G R X RX4 cc nL kc ns Z pc lv (.int v :: .ref ao :: rest) d := g_put (fk := 1) (ty := .int) inW4 tyX4_ok nmX4 rfl (by decide) wf_X4_15 rfl rfl (by decide +kernel) rfl rfl (Nat.le_of_ble_eq_true rfl) hob.1 (wE_o4 hob) rfl (by rw [wE_o4 hob]; simp [gI_sI]) (fun b hb => wE_sI hb) hd kk
theorem gf_X8_137 (hob : ob Z 4 ao) (hd : decode cc pc = .ok (.getfield 137, 3)) (kk : mGo l G R X RX8 cc nL kc ns Z (pc + 3) lv (.int (gI d 129 ao) :: rest) d) : mGo l G R X RX8 cc nL kc ns Z pc lv (.ref ao :: rest) d := g_getN (fk := 1) inW4 rfl (by decide) wf_X8_137 rfl hob.1 (wE_o4 hob) rfl hd kk
theorem pf_X8_137 {v : Int32} (hob : ob Z 4 ao) (hd : decode cc pc = .ok (.putfield 137, 3)) (kk : mGo l G R X RX8 cc nL kc ns Z (pc + 3) lv rest (sI d 129 ao v)) : mGo l G R X RX8 cc nL kc ns Z pc lv (.int v :: .ref ao :: rest) d := g_putN (fk := 1) (ty := .int) inW4 tyX4_ok nmX4 rfl (by decide) wf_X8_137 rfl rfl (by decide +kernel) rfl rfl (Nat.le_of_ble_eq_true rfl) hob.1 (wE_o4 hob) rfl (by rw [wE_o4 hob]; simp [gI_sI]) (fun b hb => wE_sI hb) hd kk
theorem gf_X4_18 (hob : ob Z 4 ao) (hd : decode cc pc = .ok (.getfield 18, 3)) (kk : mGo l G R X RX4 cc nL kc ns Z (pc + 3) lv (.int (gI d 130 ao) :: rest) d) : mGo l G R X RX4 cc nL kc ns Z pc lv (.ref ao :: rest) d := g_get (fk := 2) inW4 rfl (by decide) wf_X4_18 rfl hob.1 (wE_o4 hob) rfl hd kk
theorem pf_X4_18 {v : Int32} (hob : ob Z 4 ao) (hd : decode cc pc = .ok (.putfield 18, 3)) (kk : mGo l G R X RX4 cc nL kc ns Z (pc + 3) lv rest (sI d 130 ao v)) : mGo l G R X RX4 cc nL kc ns Z pc lv (.int v :: .ref ao :: rest) d := g_put (fk := 2) (ty := .int) inW4 tyX4_ok nmX4 rfl (by decide) wf_X4_18 rfl rfl (by decide +kernel) rfl rfl (Nat.le_of_ble_eq_true rfl) hob.1 (wE_o4 hob) rfl (by rw [wE_o4 hob]; simp [gI_sI]) (fun b hb => wE_sI hb) hd kk
theorem gf_X8_271 (hob : ob Z 4 ao) (hd : decode cc pc = .ok (.getfield 271, 3)) (kk : mGo l G R X RX8 cc nL kc ns Z (pc + 3) lv (.int (gI d 130 ao) :: rest) d) : mGo l G R X RX8 cc nL kc ns Z pc lv (.ref ao :: rest) d := g_getN (fk := 2) inW4 rfl (by decide) wf_X8_271 rfl hob.1 (wE_o4 hob) rfl hd kk
theorem pf_X8_271 {v : Int32} (hob : ob Z 4 ao) (hd : decode cc pc = .ok (.putfield 271, 3)) (kk : mGo l G R X RX8 cc nL kc ns Z (pc + 3) lv rest (sI d 130 ao v)) : mGo l G R X RX8 cc nL kc ns Z pc lv (.int v :: .ref ao :: rest) d := g_putN (fk := 2) (ty := .int) inW4 tyX4_ok nmX4 rfl (by decide) wf_X8_271 rfl rfl (by decide +kernel) rfl rfl (Nat.le_of_ble_eq_true rfl) hob.1 (wE_o4 hob) rfl (by rw [wE_o4 hob]; simp [gI_sI]) (fun b hb => wE_sI hb) hd kk
theorem gf_X4_21 (hob : ob Z 4 ao) (hd : decode cc pc = .ok (.getfield 21, 3)) (kk : mGo l G R X RX4 cc nL kc ns Z (pc + 3) lv (.int (gI d 131 ao) :: rest) d) : mGo l G R X RX4 cc nL kc ns Z pc lv (.ref ao :: rest) d := g_get (fk := 3) inW4 rfl (by decide) wf_X4_21 rfl hob.1 (wE_o4 hob) rfl hd kk
theorem pf_X4_21 {v : Int32} (hob : ob Z 4 ao) (hd : decode cc pc = .ok (.putfield 21, 3)) (kk : mGo l G R X RX4 cc nL kc ns Z (pc + 3) lv rest (sI d 131 ao v)) : mGo l G R X RX4 cc nL kc ns Z pc lv (.int v :: .ref ao :: rest) d := g_put (fk := 3) (ty := .int) inW4 tyX4_ok nmX4 rfl (by decide) wf_X4_21 rfl rfl (by decide +kernel) rfl rfl (Nat.le_of_ble_eq_true rfl) hob.1 (wE_o4 hob) rfl (by rw [wE_o4 hob]; simp [gI_sI]) (fun b hb => wE_sI hb) hd kk
theorem gf_X8_268 (hob : ob Z 4 ao) (hd : decode cc pc = .ok (.getfield 268, 3)) (kk : mGo l G R X RX8 cc nL kc ns Z (pc + 3) lv (.int (gI d 131 ao) :: rest) d) : mGo l G R X RX8 cc nL kc ns Z pc lv (.ref ao :: rest) d := g_getN (fk := 3) inW4 rfl (by decide) wf_X8_268 rfl hob.1 (wE_o4 hob) rfl hd kk
theorem pf_X8_268 {v : Int32} (hob : ob Z 4 ao) (hd : decode cc pc = .ok (.putfield 268, 3)) (kk : mGo l G R X RX8 cc nL kc ns Z (pc + 3) lv rest (sI d 131 ao v)) : mGo l G R X RX8 cc nL kc ns Z pc lv (.int v :: .ref ao :: rest) d := g_putN (fk := 3) (ty := .int) inW4 tyX4_ok nmX4 rfl (by decide) wf_X8_268 rfl rfl (by decide +kernel) rfl rfl (Nat.le_of_ble_eq_true rfl) hob.1 (wE_o4 hob) rfl (by rw [wE_o4 hob]; simp [gI_sI]) (fun b hb => wE_sI hb) hd kk
theorem gf_X1_9 (hob : ob Z 1 ao) (hd : decode cc pc = .ok (.getfield 9, 3)) (kk : mGo l G R X RX1 cc nL kc ns Z (pc + 3) lv (.int (gI d 32 ao) :: rest) d) : mGo l G R X RX1 cc nL kc ns Z pc lv (.ref ao :: rest) d := g_get (fk := 0) inW1 rfl (by decide) wf_X1_9 rfl hob.1 (wE_o1 hob) rfl hd kk
theorem pf_X1_9 {v : Int32} (hob : ob Z 1 ao) (hd : decode cc pc = .ok (.putfield 9, 3)) (kk : mGo l G R X RX1 cc nL kc ns Z (pc + 3) lv rest (sI d 32 ao v)) : mGo l G R X RX1 cc nL kc ns Z pc lv (.int v :: .ref ao :: rest) d := g_put (fk := 0) (ty := .int) inW1 tyX1_ok nmX1 rfl (by decide) wf_X1_9 rfl rfl (by decide +kernel) rfl rfl (Nat.le_of_ble_eq_true rfl) hob.1 (wE_o1 hob) rfl (by rw [wE_o1 hob]; simp [gI_sI]) (fun b hb => wE_sI hb) hd kk
theorem gf_X8_182 (hob : ob Z 1 ao) (hd : decode cc pc = .ok (.getfield 182, 3)) (kk : mGo l G R X RX8 cc nL kc ns Z (pc + 3) lv (.int (gI d 32 ao) :: rest) d) : mGo l G R X RX8 cc nL kc ns Z pc lv (.ref ao :: rest) d := g_getN (fk := 0) inW1 rfl (by decide) wf_X8_182 rfl hob.1 (wE_o1 hob) rfl hd kk
theorem pf_X8_182 {v : Int32} (hob : ob Z 1 ao) (hd : decode cc pc = .ok (.putfield 182, 3)) (kk : mGo l G R X RX8 cc nL kc ns Z (pc + 3) lv rest (sI d 32 ao v)) : mGo l G R X RX8 cc nL kc ns Z pc lv (.int v :: .ref ao :: rest) d := g_putN (fk := 0) (ty := .int) inW1 tyX1_ok nmX1 rfl (by decide) wf_X8_182 rfl rfl (by decide +kernel) rfl rfl (Nat.le_of_ble_eq_true rfl) hob.1 (wE_o1 hob) rfl (by rw [wE_o1 hob]; simp [gI_sI]) (fun b hb => wE_sI hb) hd kk
theorem gf_X1_15 (hob : ob Z 1 ao) (hd : decode cc pc = .ok (.getfield 15, 3)) (kk : mGo l G R X RX1 cc nL kc ns Z (pc + 3) lv (.int (gI d 33 ao) :: rest) d) : mGo l G R X RX1 cc nL kc ns Z pc lv (.ref ao :: rest) d := g_get (fk := 1) inW1 rfl (by decide) wf_X1_15 rfl hob.1 (wE_o1 hob) rfl hd kk
theorem pf_X1_15 {v : Int32} (hob : ob Z 1 ao) (hd : decode cc pc = .ok (.putfield 15, 3)) (kk : mGo l G R X RX1 cc nL kc ns Z (pc + 3) lv rest (sI d 33 ao v)) : mGo l G R X RX1 cc nL kc ns Z pc lv (.int v :: .ref ao :: rest) d := g_put (fk := 1) (ty := .int) inW1 tyX1_ok nmX1 rfl (by decide) wf_X1_15 rfl rfl (by decide +kernel) rfl rfl (Nat.le_of_ble_eq_true rfl) hob.1 (wE_o1 hob) rfl (by rw [wE_o1 hob]; simp [gI_sI]) (fun b hb => wE_sI hb) hd kk
theorem gf_X8_185 (hob : ob Z 1 ao) (hd : decode cc pc = .ok (.getfield 185, 3)) (kk : mGo l G R X RX8 cc nL kc ns Z (pc + 3) lv (.int (gI d 33 ao) :: rest) d) : mGo l G R X RX8 cc nL kc ns Z pc lv (.ref ao :: rest) d := g_getN (fk := 1) inW1 rfl (by decide) wf_X8_185 rfl hob.1 (wE_o1 hob) rfl hd kk
theorem pf_X8_185 {v : Int32} (hob : ob Z 1 ao) (hd : decode cc pc = .ok (.putfield 185, 3)) (kk : mGo l G R X RX8 cc nL kc ns Z (pc + 3) lv rest (sI d 33 ao v)) : mGo l G R X RX8 cc nL kc ns Z pc lv (.int v :: .ref ao :: rest) d := g_putN (fk := 1) (ty := .int) inW1 tyX1_ok nmX1 rfl (by decide) wf_X8_185 rfl rfl (by decide +kernel) rfl rfl (Nat.le_of_ble_eq_true rfl) hob.1 (wE_o1 hob) rfl (by rw [wE_o1 hob]; simp [gI_sI]) (fun b hb => wE_sI hb) hd kk
theorem gf_X0_9 (hob : ob Z 0 ao) (hr : rf Z 0 ao = some bo) (hd : decode cc pc = .ok (.getfield 9, 3)) (kk : mGo l G R X RX0 cc nL kc ns Z (pc + 3) lv (.ref bo :: rest) d) : mGo l G R X RX0 cc nL kc ns Z pc lv (.ref ao :: rest) d := g_get (fk := 0) inW0 rfl (by decide) wf_X0_9 rfl hob.1 (wE_o0 hob) (v := .ref bo) (by show some (va_rf (rf Z 0 ao)) = _; rw [hr]; rfl) hd kk
theorem gf_X0_15 (hob : ob Z 0 ao) (hr : rf Z 1 ao = some bo) (hd : decode cc pc = .ok (.getfield 15, 3)) (kk : mGo l G R X RX0 cc nL kc ns Z (pc + 3) lv (.ref bo :: rest) d) : mGo l G R X RX0 cc nL kc ns Z pc lv (.ref ao :: rest) d := g_get (fk := 1) inW0 rfl (by decide) wf_X0_15 rfl hob.1 (wE_o0 hob) (v := .ref bo) (by show some (va_rf (rf Z 1 ao)) = _; rw [hr]; rfl) hd kk
theorem gf_X5_9 (hob : ob Z 5 ao) (hr : rf Z 160 ao = some bo) (hd : decode cc pc = .ok (.getfield 9, 3)) (kk : mGo l G R X RX5 cc nL kc ns Z (pc + 3) lv (.ref bo :: rest) d) : mGo l G R X RX5 cc nL kc ns Z pc lv (.ref ao :: rest) d := g_get (fk := 0) inW5 rfl (by decide) wf_X5_9 rfl hob.1 (wE_o5 hob) (v := .ref bo) (by show some (va_rf (rf Z 160 ao)) = _; rw [hr]; rfl) hd kk
theorem gf_X8_255 (hob : ob Z 5 ao) (hr : rf Z 160 ao = some bo) (hd : decode cc pc = .ok (.getfield 255, 3)) (kk : mGo l G R X RX8 cc nL kc ns Z (pc + 3) lv (.ref bo :: rest) d) : mGo l G R X RX8 cc nL kc ns Z pc lv (.ref ao :: rest) d := g_getN (fk := 0) inW5 rfl (by decide) wf_X8_255 rfl hob.1 (wE_o5 hob) (v := .ref bo) (by show some (va_rf (rf Z 160 ao)) = _; rw [hr]; rfl) hd kk
theorem gf_X5_15 (hob : ob Z 5 ao) (hd : decode cc pc = .ok (.getfield 15, 3)) (kk : mGo l G R X RX5 cc nL kc ns Z (pc + 3) lv (.int (gI d 161 ao) :: rest) d) : mGo l G R X RX5 cc nL kc ns Z pc lv (.ref ao :: rest) d := g_get (fk := 1) inW5 rfl (by decide) wf_X5_15 rfl hob.1 (wE_o5 hob) rfl hd kk
theorem pf_X5_15 {v : Int32} (hob : ob Z 5 ao) (hz : narrow .boolean (.int v) = .int v) (hf : fits .boolean (.int v) = true) (hd : decode cc pc = .ok (.putfield 15, 3)) (kk : mGo l G R X RX5 cc nL kc ns Z (pc + 3) lv rest (sI d 161 ao v)) : mGo l G R X RX5 cc nL kc ns Z pc lv (.int v :: .ref ao :: rest) d := g_put (fk := 1) (ty := .boolean) inW5 tyX5_ok nmX5 rfl (by decide) wf_X5_15 rfl rfl (by decide +kernel) hz hf (Nat.le_of_ble_eq_true rfl) hob.1 (wE_o5 hob) rfl (by rw [wE_o5 hob]; simp [gI_sI]) (fun b hb => wE_sI hb) hd kk
theorem gf_X8_242 (hob : ob Z 5 ao) (hd : decode cc pc = .ok (.getfield 242, 3)) (kk : mGo l G R X RX8 cc nL kc ns Z (pc + 3) lv (.int (gI d 161 ao) :: rest) d) : mGo l G R X RX8 cc nL kc ns Z pc lv (.ref ao :: rest) d := g_getN (fk := 1) inW5 rfl (by decide) wf_X8_242 rfl hob.1 (wE_o5 hob) rfl hd kk
theorem pf_X8_242 {v : Int32} (hob : ob Z 5 ao) (hz : narrow .boolean (.int v) = .int v) (hf : fits .boolean (.int v) = true) (hd : decode cc pc = .ok (.putfield 242, 3)) (kk : mGo l G R X RX8 cc nL kc ns Z (pc + 3) lv rest (sI d 161 ao v)) : mGo l G R X RX8 cc nL kc ns Z pc lv (.int v :: .ref ao :: rest) d := g_putN (fk := 1) (ty := .boolean) inW5 tyX5_ok nmX5 rfl (by decide) wf_X8_242 rfl rfl (by decide +kernel) hz hf (Nat.le_of_ble_eq_true rfl) hob.1 (wE_o5 hob) rfl (by rw [wE_o5 hob]; simp [gI_sI]) (fun b hb => wE_sI hb) hd kk
theorem gf_X5_19 (hob : ob Z 5 ao) (hd : decode cc pc = .ok (.getfield 19, 3)) (kk : mGo l G R X RX5 cc nL kc ns Z (pc + 3) lv (.int (gI d 162 ao) :: rest) d) : mGo l G R X RX5 cc nL kc ns Z pc lv (.ref ao :: rest) d := g_get (fk := 2) inW5 rfl (by decide) wf_X5_19 rfl hob.1 (wE_o5 hob) rfl hd kk
theorem pf_X5_19 {v : Int32} (hob : ob Z 5 ao) (hd : decode cc pc = .ok (.putfield 19, 3)) (kk : mGo l G R X RX5 cc nL kc ns Z (pc + 3) lv rest (sI d 162 ao v)) : mGo l G R X RX5 cc nL kc ns Z pc lv (.int v :: .ref ao :: rest) d := g_put (fk := 2) (ty := .int) inW5 tyX5_ok nmX5 rfl (by decide) wf_X5_19 rfl rfl (by decide +kernel) rfl rfl (Nat.le_of_ble_eq_true rfl) hob.1 (wE_o5 hob) rfl (by rw [wE_o5 hob]; simp [gI_sI]) (fun b hb => wE_sI hb) hd kk
theorem gf_X8_247 (hob : ob Z 5 ao) (hd : decode cc pc = .ok (.getfield 247, 3)) (kk : mGo l G R X RX8 cc nL kc ns Z (pc + 3) lv (.int (gI d 162 ao) :: rest) d) : mGo l G R X RX8 cc nL kc ns Z pc lv (.ref ao :: rest) d := g_getN (fk := 2) inW5 rfl (by decide) wf_X8_247 rfl hob.1 (wE_o5 hob) rfl hd kk
theorem pf_X8_247 {v : Int32} (hob : ob Z 5 ao) (hd : decode cc pc = .ok (.putfield 247, 3)) (kk : mGo l G R X RX8 cc nL kc ns Z (pc + 3) lv rest (sI d 162 ao v)) : mGo l G R X RX8 cc nL kc ns Z pc lv (.int v :: .ref ao :: rest) d := g_putN (fk := 2) (ty := .int) inW5 tyX5_ok nmX5 rfl (by decide) wf_X8_247 rfl rfl (by decide +kernel) rfl rfl (Nat.le_of_ble_eq_true rfl) hob.1 (wE_o5 hob) rfl (by rw [wE_o5 hob]; simp [gI_sI]) (fun b hb => wE_sI hb) hd kk
theorem gf_X5_23 (hob : ob Z 5 ao) (hd : decode cc pc = .ok (.getfield 23, 3)) (kk : mGo l G R X RX5 cc nL kc ns Z (pc + 3) lv (.int (gI d 163 ao) :: rest) d) : mGo l G R X RX5 cc nL kc ns Z pc lv (.ref ao :: rest) d := g_get (fk := 3) inW5 rfl (by decide) wf_X5_23 rfl hob.1 (wE_o5 hob) rfl hd kk
theorem pf_X5_23 {v : Int32} (hob : ob Z 5 ao) (hd : decode cc pc = .ok (.putfield 23, 3)) (kk : mGo l G R X RX5 cc nL kc ns Z (pc + 3) lv rest (sI d 163 ao v)) : mGo l G R X RX5 cc nL kc ns Z pc lv (.int v :: .ref ao :: rest) d := g_put (fk := 3) (ty := .int) inW5 tyX5_ok nmX5 rfl (by decide) wf_X5_23 rfl rfl (by decide +kernel) rfl rfl (Nat.le_of_ble_eq_true rfl) hob.1 (wE_o5 hob) rfl (by rw [wE_o5 hob]; simp [gI_sI]) (fun b hb => wE_sI hb) hd kk
theorem gf_X8_246 (hob : ob Z 5 ao) (hd : decode cc pc = .ok (.getfield 246, 3)) (kk : mGo l G R X RX8 cc nL kc ns Z (pc + 3) lv (.int (gI d 163 ao) :: rest) d) : mGo l G R X RX8 cc nL kc ns Z pc lv (.ref ao :: rest) d := g_getN (fk := 3) inW5 rfl (by decide) wf_X8_246 rfl hob.1 (wE_o5 hob) rfl hd kk
theorem pf_X8_246 {v : Int32} (hob : ob Z 5 ao) (hd : decode cc pc = .ok (.putfield 246, 3)) (kk : mGo l G R X RX8 cc nL kc ns Z (pc + 3) lv rest (sI d 163 ao v)) : mGo l G R X RX8 cc nL kc ns Z pc lv (.int v :: .ref ao :: rest) d := g_putN (fk := 3) (ty := .int) inW5 tyX5_ok nmX5 rfl (by decide) wf_X8_246 rfl rfl (by decide +kernel) rfl rfl (Nat.le_of_ble_eq_true rfl) hob.1 (wE_o5 hob) rfl (by rw [wE_o5 hob]; simp [gI_sI]) (fun b hb => wE_sI hb) hd kk
theorem gf_X8_10 (hob : ob Z 8 ao) (hr : rf Z 256 ao = some bo) (hd : decode cc pc = .ok (.getfield 10, 3)) (kk : mGo l G R X RX8 cc nL kc ns Z (pc + 3) lv (.ref bo :: rest) d) : mGo l G R X RX8 cc nL kc ns Z pc lv (.ref ao :: rest) d := g_get (fk := 0) inW8 rfl (by decide) wf_X8_10 rfl hob.1 (wE_o8 hob) (v := .ref bo) (by show some (va_rf (rf Z 256 ao)) = _; rw [hr]; rfl) hd kk
theorem gf_X8_16 (hob : ob Z 8 ao) (hr : rf Z 257 ao = some bo) (hd : decode cc pc = .ok (.getfield 16, 3)) (kk : mGo l G R X RX8 cc nL kc ns Z (pc + 3) lv (.ref bo :: rest) d) : mGo l G R X RX8 cc nL kc ns Z pc lv (.ref ao :: rest) d := g_get (fk := 1) inW8 rfl (by decide) wf_X8_16 rfl hob.1 (wE_o8 hob) (v := .ref bo) (by show some (va_rf (rf Z 257 ao)) = _; rw [hr]; rfl) hd kk
theorem gf_X8_19 (hob : ob Z 8 ao) (hd : decode cc pc = .ok (.getfield 19, 3)) (kk : mGo l G R X RX8 cc nL kc ns Z (pc + 3) lv (.int (gI d 258 ao) :: rest) d) : mGo l G R X RX8 cc nL kc ns Z pc lv (.ref ao :: rest) d := g_get (fk := 2) inW8 rfl (by decide) wf_X8_19 rfl hob.1 (wE_o8 hob) rfl hd kk
theorem pf_X8_19 {v : Int32} (hob : ob Z 8 ao) (hz : narrow .boolean (.int v) = .int v) (hf : fits .boolean (.int v) = true) (hd : decode cc pc = .ok (.putfield 19, 3)) (kk : mGo l G R X RX8 cc nL kc ns Z (pc + 3) lv rest (sI d 258 ao v)) : mGo l G R X RX8 cc nL kc ns Z pc lv (.int v :: .ref ao :: rest) d := g_put (fk := 2) (ty := .boolean) inW8 tyX8_ok nmX8 rfl (by decide) wf_X8_19 rfl rfl (by decide +kernel) hz hf (Nat.le_of_ble_eq_true rfl) hob.1 (wE_o8 hob) rfl (by rw [wE_o8 hob]; simp [gI_sI]) (fun b hb => wE_sI hb) hd kk
theorem gf_X8_26 (hob : ob Z 8 ao) (hr : rf Z 259 ao = some bo) (hd : decode cc pc = .ok (.getfield 26, 3)) (kk : mGo l G R X RX8 cc nL kc ns Z (pc + 3) lv (.ref bo :: rest) d) : mGo l G R X RX8 cc nL kc ns Z pc lv (.ref ao :: rest) d := g_get (fk := 3) inW8 rfl (by decide) wf_X8_26 rfl hob.1 (wE_o8 hob) (v := .ref bo) (by show some (va_rf (rf Z 259 ao)) = _; rw [hr]; rfl) hd kk
theorem gf_X8_33 (hob : ob Z 8 ao) (hr : rf Z 260 ao = some bo) (hd : decode cc pc = .ok (.getfield 33, 3)) (kk : mGo l G R X RX8 cc nL kc ns Z (pc + 3) lv (.ref bo :: rest) d) : mGo l G R X RX8 cc nL kc ns Z pc lv (.ref ao :: rest) d := g_get (fk := 4) inW8 rfl (by decide) wf_X8_33 rfl hob.1 (wE_o8 hob) (v := .ref bo) (by show some (va_rf (rf Z 260 ao)) = _; rw [hr]; rfl) hd kk
theorem gf_X8_40 (hob : ob Z 8 ao) (hr : rf Z 261 ao = some bo) (hd : decode cc pc = .ok (.getfield 40, 3)) (kk : mGo l G R X RX8 cc nL kc ns Z (pc + 3) lv (.ref bo :: rest) d) : mGo l G R X RX8 cc nL kc ns Z pc lv (.ref ao :: rest) d := g_get (fk := 5) inW8 rfl (by decide) wf_X8_40 rfl hob.1 (wE_o8 hob) (v := .ref bo) (by show some (va_rf (rf Z 261 ao)) = _; rw [hr]; rfl) hd kk
theorem gf_X8_47 (hob : ob Z 8 ao) (hr : rf Z 262 ao = some bo) (hd : decode cc pc = .ok (.getfield 47, 3)) (kk : mGo l G R X RX8 cc nL kc ns Z (pc + 3) lv (.ref bo :: rest) d) : mGo l G R X RX8 cc nL kc ns Z pc lv (.ref ao :: rest) d := g_get (fk := 6) inW8 rfl (by decide) wf_X8_47 rfl hob.1 (wE_o8 hob) (v := .ref bo) (by show some (va_rf (rf Z 262 ao)) = _; rw [hr]; rfl) hd kk
theorem gf_X8_54 (hob : ob Z 8 ao) (hr : rf Z 263 ao = some bo) (hd : decode cc pc = .ok (.getfield 54, 3)) (kk : mGo l G R X RX8 cc nL kc ns Z (pc + 3) lv (.ref bo :: rest) d) : mGo l G R X RX8 cc nL kc ns Z pc lv (.ref ao :: rest) d := g_get (fk := 7) inW8 rfl (by decide) wf_X8_54 rfl hob.1 (wE_o8 hob) (v := .ref bo) (by show some (va_rf (rf Z 263 ao)) = _; rw [hr]; rfl) hd kk
theorem gf_X8_60 (hob : ob Z 8 ao) (hr : rf Z 264 ao = some bo) (hd : decode cc pc = .ok (.getfield 60, 3)) (kk : mGo l G R X RX8 cc nL kc ns Z (pc + 3) lv (.ref bo :: rest) d) : mGo l G R X RX8 cc nL kc ns Z pc lv (.ref ao :: rest) d := g_get (fk := 8) inW8 rfl (by decide) wf_X8_60 rfl hob.1 (wE_o8 hob) (v := .ref bo) (by show some (va_rf (rf Z 264 ao)) = _; rw [hr]; rfl) hd kk
theorem gs_X4_46 (hd : decode cc pc = .ok (.getstatic 46, 3)) (kk : mGo l G R X RX4 cc nL kc ns Z (pc + 3) lv (.ref G.2.2.2.2.2 :: rest) d) : mGo l G R X RX4 cc nL kc ns Z pc lv rest d := g_ordN wf_X4_46 hd kk
theorem gf_X9_7 (hob : ob Z 9 ao) (hr : rf Z 288 ao = some bo) (hd : decode cc pc = .ok (.getfield 7, 3)) (kk : mGo l G R X RX9 cc nL kc ns Z (pc + 3) lv (.ref bo :: rest) d) : mGo l G R X RX9 cc nL kc ns Z pc lv (.ref ao :: rest) d := g_get (fk := 0) inW9 rfl (by decide) wf_X9_7 rfl hob.1 (wE_o9 hob) (v := .ref bo) (by show some (va_rf (rf Z 288 ao)) = _; rw [hr]; rfl) hd kk
theorem gf_X9_13 (hob : ob Z 9 ao) (hr : rf Z 289 ao = some bo) (hd : decode cc pc = .ok (.getfield 13, 3)) (kk : mGo l G R X RX9 cc nL kc ns Z (pc + 3) lv (.ref bo :: rest) d) : mGo l G R X RX9 cc nL kc ns Z pc lv (.ref ao :: rest) d := g_get (fk := 1) inW9 rfl (by decide) wf_X9_13 rfl hob.1 (wE_o9 hob) (v := .ref bo) (by show some (va_rf (rf Z 289 ao)) = _; rw [hr]; rfl) hd kk
theorem gf_X9_93 (hob : ob Z 9 ao) (hd : decode cc pc = .ok (.getfield 93, 3)) (kk : mGo l G R X RX9 cc nL kc ns Z (pc + 3) lv (.int (gI d 290 ao) :: rest) d) : mGo l G R X RX9 cc nL kc ns Z pc lv (.ref ao :: rest) d := g_get (fk := 2) inW9 rfl (by decide) wf_X9_93 rfl hob.1 (wE_o9 hob) rfl hd kk
theorem pf_X9_93 {v : Int32} (hob : ob Z 9 ao) (hd : decode cc pc = .ok (.putfield 93, 3)) (kk : mGo l G R X RX9 cc nL kc ns Z (pc + 3) lv rest (sI d 290 ao v)) : mGo l G R X RX9 cc nL kc ns Z pc lv (.int v :: .ref ao :: rest) d := g_put (fk := 2) (ty := .int) inW9 tyX9_ok nmX9 rfl (by decide) wf_X9_93 rfl rfl (by decide +kernel) rfl rfl (Nat.le_of_ble_eq_true rfl) hob.1 (wE_o9 hob) rfl (by rw [wE_o9 hob]; simp [gI_sI]) (fun b hb => wE_sI hb) hd kk
theorem gf_X9_96 (hob : ob Z 9 ao) (hd : decode cc pc = .ok (.getfield 96, 3)) (kk : mGo l G R X RX9 cc nL kc ns Z (pc + 3) lv (.int (gI d 291 ao) :: rest) d) : mGo l G R X RX9 cc nL kc ns Z pc lv (.ref ao :: rest) d := g_get (fk := 3) inW9 rfl (by decide) wf_X9_96 rfl hob.1 (wE_o9 hob) rfl hd kk
theorem pf_X9_96 {v : Int32} (hob : ob Z 9 ao) (hd : decode cc pc = .ok (.putfield 96, 3)) (kk : mGo l G R X RX9 cc nL kc ns Z (pc + 3) lv rest (sI d 291 ao v)) : mGo l G R X RX9 cc nL kc ns Z pc lv (.int v :: .ref ao :: rest) d := g_put (fk := 3) (ty := .int) inW9 tyX9_ok nmX9 rfl (by decide) wf_X9_96 rfl rfl (by decide +kernel) rfl rfl (Nat.le_of_ble_eq_true rfl) hob.1 (wE_o9 hob) rfl (by rw [wE_o9 hob]; simp [gI_sI]) (fun b hb => wE_sI hb) hd kk
theorem gf_X9_99 (hob : ob Z 9 ao) (hd : decode cc pc = .ok (.getfield 99, 3)) (kk : mGo l G R X RX9 cc nL kc ns Z (pc + 3) lv (.int (gI d 292 ao) :: rest) d) : mGo l G R X RX9 cc nL kc ns Z pc lv (.ref ao :: rest) d := g_get (fk := 4) inW9 rfl (by decide) wf_X9_99 rfl hob.1 (wE_o9 hob) rfl hd kk
theorem pf_X9_99 {v : Int32} (hob : ob Z 9 ao) (hd : decode cc pc = .ok (.putfield 99, 3)) (kk : mGo l G R X RX9 cc nL kc ns Z (pc + 3) lv rest (sI d 292 ao v)) : mGo l G R X RX9 cc nL kc ns Z pc lv (.int v :: .ref ao :: rest) d := g_put (fk := 4) (ty := .int) inW9 tyX9_ok nmX9 rfl (by decide) wf_X9_99 rfl rfl (by decide +kernel) rfl rfl (Nat.le_of_ble_eq_true rfl) hob.1 (wE_o9 hob) rfl (by rw [wE_o9 hob]; simp [gI_sI]) (fun b hb => wE_sI hb) hd kk
theorem gf_X9_16 (hob : ob Z 9 ao) (hr : rf Z 293 ao = some bo) (hd : decode cc pc = .ok (.getfield 16, 3)) (kk : mGo l G R X RX9 cc nL kc ns Z (pc + 3) lv (.ref bo :: rest) d) : mGo l G R X RX9 cc nL kc ns Z pc lv (.ref ao :: rest) d := g_get (fk := 5) inW9 rfl (by decide) wf_X9_16 rfl hob.1 (wE_o9 hob) (v := .ref bo) (by show some (va_rf (rf Z 293 ao)) = _; rw [hr]; rfl) hd kk
theorem gf_X9_19 (hob : ob Z 9 ao) (hr : rf Z 294 ao = some bo) (hd : decode cc pc = .ok (.getfield 19, 3)) (kk : mGo l G R X RX9 cc nL kc ns Z (pc + 3) lv (.ref bo :: rest) d) : mGo l G R X RX9 cc nL kc ns Z pc lv (.ref ao :: rest) d := g_get (fk := 6) inW9 rfl (by decide) wf_X9_19 rfl hob.1 (wE_o9 hob) (v := .ref bo) (by show some (va_rf (rf Z 294 ao)) = _; rw [hr]; rfl) hd kk
theorem gf_X9_173 (hob : ob Z 9 ao) (hd : decode cc pc = .ok (.getfield 173, 3)) (kk : mGo l G R X RX9 cc nL kc ns Z (pc + 3) lv (.int (gI d 295 ao) :: rest) d) : mGo l G R X RX9 cc nL kc ns Z pc lv (.ref ao :: rest) d := g_get (fk := 7) inW9 rfl (by decide) wf_X9_173 rfl hob.1 (wE_o9 hob) rfl hd kk
theorem pf_X9_173 {v : Int32} (hob : ob Z 9 ao) (hd : decode cc pc = .ok (.putfield 173, 3)) (kk : mGo l G R X RX9 cc nL kc ns Z (pc + 3) lv rest (sI d 295 ao v)) : mGo l G R X RX9 cc nL kc ns Z pc lv (.int v :: .ref ao :: rest) d := g_put (fk := 7) (ty := .int) inW9 tyX9_ok nmX9 rfl (by decide) wf_X9_173 rfl rfl (by decide +kernel) rfl rfl (Nat.le_of_ble_eq_true rfl) hob.1 (wE_o9 hob) rfl (by rw [wE_o9 hob]; simp [gI_sI]) (fun b hb => wE_sI hb) hd kk
theorem gf_X9_177 (hob : ob Z 9 ao) (hd : decode cc pc = .ok (.getfield 177, 3)) (kk : mGo l G R X RX9 cc nL kc ns Z (pc + 3) lv (.int (gI d 296 ao) :: rest) d) : mGo l G R X RX9 cc nL kc ns Z pc lv (.ref ao :: rest) d := g_get (fk := 8) inW9 rfl (by decide) wf_X9_177 rfl hob.1 (wE_o9 hob) rfl hd kk
theorem pf_X9_177 {v : Int32} (hob : ob Z 9 ao) (hd : decode cc pc = .ok (.putfield 177, 3)) (kk : mGo l G R X RX9 cc nL kc ns Z (pc + 3) lv rest (sI d 296 ao v)) : mGo l G R X RX9 cc nL kc ns Z pc lv (.int v :: .ref ao :: rest) d := g_put (fk := 8) (ty := .int) inW9 tyX9_ok nmX9 rfl (by decide) wf_X9_177 rfl rfl (by decide +kernel) rfl rfl (Nat.le_of_ble_eq_true rfl) hob.1 (wE_o9 hob) rfl (by rw [wE_o9 hob]; simp [gI_sI]) (fun b hb => wE_sI hb) hd kk
theorem gf_X9_22 (hob : ob Z 9 ao) (hr : rf Z 297 ao = some bo) (hd : decode cc pc = .ok (.getfield 22, 3)) (kk : mGo l G R X RX9 cc nL kc ns Z (pc + 3) lv (.ref bo :: rest) d) : mGo l G R X RX9 cc nL kc ns Z pc lv (.ref ao :: rest) d := g_get (fk := 9) inW9 rfl (by decide) wf_X9_22 rfl hob.1 (wE_o9 hob) (v := .ref bo) (by show some (va_rf (rf Z 297 ao)) = _; rw [hr]; rfl) hd kk
theorem gf_X9_25 (hob : ob Z 9 ao) (hr : rf Z 298 ao = some bo) (hd : decode cc pc = .ok (.getfield 25, 3)) (kk : mGo l G R X RX9 cc nL kc ns Z (pc + 3) lv (.ref bo :: rest) d) : mGo l G R X RX9 cc nL kc ns Z pc lv (.ref ao :: rest) d := g_get (fk := 10) inW9 rfl (by decide) wf_X9_25 rfl hob.1 (wE_o9 hob) (v := .ref bo) (by show some (va_rf (rf Z 298 ao)) = _; rw [hr]; rfl) hd kk
theorem gf_X9_166 (hob : ob Z 9 ao) (hd : decode cc pc = .ok (.getfield 166, 3)) (kk : mGo l G R X RX9 cc nL kc ns Z (pc + 3) lv (.int (gI d 299 ao) :: rest) d) : mGo l G R X RX9 cc nL kc ns Z pc lv (.ref ao :: rest) d := g_get (fk := 11) inW9 rfl (by decide) wf_X9_166 rfl hob.1 (wE_o9 hob) rfl hd kk
theorem pf_X9_166 {v : Int32} (hob : ob Z 9 ao) (hd : decode cc pc = .ok (.putfield 166, 3)) (kk : mGo l G R X RX9 cc nL kc ns Z (pc + 3) lv rest (sI d 299 ao v)) : mGo l G R X RX9 cc nL kc ns Z pc lv (.int v :: .ref ao :: rest) d := g_put (fk := 11) (ty := .int) inW9 tyX9_ok nmX9 rfl (by decide) wf_X9_166 rfl rfl (by decide +kernel) rfl rfl (Nat.le_of_ble_eq_true rfl) hob.1 (wE_o9 hob) rfl (by rw [wE_o9 hob]; simp [gI_sI]) (fun b hb => wE_sI hb) hd kk
theorem gf_X9_28 (hob : ob Z 9 ao) (hr : rf Z 300 ao = some bo) (hd : decode cc pc = .ok (.getfield 28, 3)) (kk : mGo l G R X RX9 cc nL kc ns Z (pc + 3) lv (.ref bo :: rest) d) : mGo l G R X RX9 cc nL kc ns Z pc lv (.ref ao :: rest) d := g_get (fk := 12) inW9 rfl (by decide) wf_X9_28 rfl hob.1 (wE_o9 hob) (v := .ref bo) (by show some (va_rf (rf Z 300 ao)) = _; rw [hr]; rfl) hd kk
theorem gf_X9_31 (hob : ob Z 9 ao) (hr : rf Z 301 ao = some bo) (hd : decode cc pc = .ok (.getfield 31, 3)) (kk : mGo l G R X RX9 cc nL kc ns Z (pc + 3) lv (.ref bo :: rest) d) : mGo l G R X RX9 cc nL kc ns Z pc lv (.ref ao :: rest) d := g_get (fk := 13) inW9 rfl (by decide) wf_X9_31 rfl hob.1 (wE_o9 hob) (v := .ref bo) (by show some (va_rf (rf Z 301 ao)) = _; rw [hr]; rfl) hd kk
theorem gf_X9_34 (hob : ob Z 9 ao) (hd : decode cc pc = .ok (.getfield 34, 3)) (kk : mGo l G R X RX9 cc nL kc ns Z (pc + 3) lv (.int (gI d 302 ao) :: rest) d) : mGo l G R X RX9 cc nL kc ns Z pc lv (.ref ao :: rest) d := g_get (fk := 14) inW9 rfl (by decide) wf_X9_34 rfl hob.1 (wE_o9 hob) rfl hd kk
theorem pf_X9_34 {v : Int32} (hob : ob Z 9 ao) (hd : decode cc pc = .ok (.putfield 34, 3)) (kk : mGo l G R X RX9 cc nL kc ns Z (pc + 3) lv rest (sI d 302 ao v)) : mGo l G R X RX9 cc nL kc ns Z pc lv (.int v :: .ref ao :: rest) d := g_put (fk := 14) (ty := .int) inW9 tyX9_ok nmX9 rfl (by decide) wf_X9_34 rfl rfl (by decide +kernel) rfl rfl (Nat.le_of_ble_eq_true rfl) hob.1 (wE_o9 hob) rfl (by rw [wE_o9 hob]; simp [gI_sI]) (fun b hb => wE_sI hb) hd kk
theorem gf_X9_38 (hob : ob Z 9 ao) (hr : rf Z 303 ao = some bo) (hd : decode cc pc = .ok (.getfield 38, 3)) (kk : mGo l G R X RX9 cc nL kc ns Z (pc + 3) lv (.ref bo :: rest) d) : mGo l G R X RX9 cc nL kc ns Z pc lv (.ref ao :: rest) d := g_get (fk := 15) inW9 rfl (by decide) wf_X9_38 rfl hob.1 (wE_o9 hob) (v := .ref bo) (by show some (va_rf (rf Z 303 ao)) = _; rw [hr]; rfl) hd kk
theorem gf_X9_41 (hob : ob Z 9 ao) (hr : rf Z 304 ao = some bo) (hd : decode cc pc = .ok (.getfield 41, 3)) (kk : mGo l G R X RX9 cc nL kc ns Z (pc + 3) lv (.ref bo :: rest) d) : mGo l G R X RX9 cc nL kc ns Z pc lv (.ref ao :: rest) d := g_get (fk := 16) inW9 rfl (by decide) wf_X9_41 rfl hob.1 (wE_o9 hob) (v := .ref bo) (by show some (va_rf (rf Z 304 ao)) = _; rw [hr]; rfl) hd kk
theorem gf_X9_44 (hob : ob Z 9 ao) (hr : rf Z 305 ao = some bo) (hd : decode cc pc = .ok (.getfield 44, 3)) (kk : mGo l G R X RX9 cc nL kc ns Z (pc + 3) lv (.ref bo :: rest) d) : mGo l G R X RX9 cc nL kc ns Z pc lv (.ref ao :: rest) d := g_get (fk := 17) inW9 rfl (by decide) wf_X9_44 rfl hob.1 (wE_o9 hob) (v := .ref bo) (by show some (va_rf (rf Z 305 ao)) = _; rw [hr]; rfl) hd kk
theorem gf_X9_48 (hob : ob Z 9 ao) (hr : rf Z 306 ao = some bo) (hd : decode cc pc = .ok (.getfield 48, 3)) (kk : mGo l G R X RX9 cc nL kc ns Z (pc + 3) lv (.ref bo :: rest) d) : mGo l G R X RX9 cc nL kc ns Z pc lv (.ref ao :: rest) d := g_get (fk := 18) inW9 rfl (by decide) wf_X9_48 rfl hob.1 (wE_o9 hob) (v := .ref bo) (by show some (va_rf (rf Z 306 ao)) = _; rw [hr]; rfl) hd kk
end
section
variable {l : Launch} {G : mG} {R : Room} {X : mF} {own : String} {cc : ByteArray} {nL kc ns : Nat} {Z : mZ} {pc : Nat} {lv : List (Option Value)} {rest : List Value} {d : mD} {fr lo b : Nat} {r0 : Int32} {rL : Int64} {d0 : mD} {a1 a2 a3 a4 a5 a6 : Value} {xq yq : Int32}
theorem cl_X8_66 (hc : CtI l G yX7_add cX7_add 2 .boolean fr lo [Value.ref b, a1] Z d r0 d0) (hob : ob Z 7 b) (hro : fr + 1 ≤ R.frames ∧ 8 + (2 + 11) + lo ≤ R.locals) (hce : kc + 0 ≤ R.cells ∧ ns + 0 ≤ R.slots) (hst : (rest.map fun v => v.category).sum ≤ 8) (hd : decode cc pc = .ok (.invokevirtual 66, 3)) (kk : mGo l G R X RX8 cc nL kc ns Z (pc + 3) lv (.int r0 :: rest) d0) : mGo l G R X RX8 cc nL kc ns Z pc lv (a1 :: Value.ref b :: rest) d := callVNI (As := [a1]) hc wm_X8_66 yvX7_add hob rfl rfl rfl hro hce hst hd kk
theorem cl_X8_75 (hc : CtI l G yX7_read cX7_read 4 .int fr lo [Value.ref b] Z d r0 d0) (hob : ob Z 7 b) (hro : fr + 1 ≤ R.frames ∧ 8 + (4 + 11) + lo ≤ R.locals) (hce : kc + 0 ≤ R.cells ∧ ns + 0 ≤ R.slots) (hst : (rest.map fun v => v.category).sum ≤ 8) (hd : decode cc pc = .ok (.invokevirtual 75, 3)) (kk : mGo l G R X RX8 cc nL kc ns Z (pc + 3) lv (.int r0 :: rest) d0) : mGo l G R X RX8 cc nL kc ns Z pc lv (Value.ref b :: rest) d := callVNI (As := []) hc wm_X8_75 yvX7_read hob rfl rfl rfl hro hce hst hd kk
theorem cl_X7_28 (hc : CtI l G yX7_canStand cX7_canStand 4 .boolean fr lo [Value.ref b, a1, a2] Z d r0 d0) (hob : ob Z 7 b) (hro : fr + 1 ≤ R.frames ∧ 8 + (4 + 11) + lo ≤ R.locals) (hce : kc + 0 ≤ R.cells ∧ ns + 0 ≤ R.slots) (hst : (rest.map fun v => v.category).sum ≤ 8) (hd : decode cc pc = .ok (.invokevirtual 28, 3)) (kk : mGo l G R X RX7 cc nL kc ns Z (pc + 3) lv (.int r0 :: rest) d0) : mGo l G R X RX7 cc nL kc ns Z pc lv (a2 :: a1 :: Value.ref b :: rest) d := callVI (As := [a1, a2]) hc wm_X7_28 yvX7_canStand hob rfl rfl rfl hro hce hst hd kk
theorem cl_X7_33 (hc : CtV l G yX7_tell cX7_tell 5 fr lo [Value.ref b, a1, a2] Z d d0) (hob : ob Z 7 b) (hro : fr + 1 ≤ R.frames ∧ 8 + (5 + 11) + lo ≤ R.locals) (hce : kc + 0 ≤ R.cells ∧ ns + 0 ≤ R.slots) (hst : (rest.map fun v => v.category).sum ≤ 8) (hd : decode cc pc = .ok (.invokevirtual 33, 3)) (kk : mGo l G R X RX7 cc nL kc ns Z (pc + 3) lv (rest) d0) : mGo l G R X RX7 cc nL kc ns Z pc lv (a2 :: a1 :: Value.ref b :: rest) d := callVV (As := [a1, a2]) hc wm_X7_33 yvX7_tell hob rfl rfl rfl hro hce hst hd kk
theorem cl_X8_93 (hc : CtV l G yX2_become cX2_become 2 fr lo [Value.ref b, a1] Z d d0) (hob : ob Z 2 b) (hro : fr + 1 ≤ R.frames ∧ 8 + (2 + 11) + lo ≤ R.locals) (hce : kc + 0 ≤ R.cells ∧ ns + 0 ≤ R.slots) (hst : (rest.map fun v => v.category).sum ≤ 8) (hd : decode cc pc = .ok (.invokevirtual 93, 3)) (kk : mGo l G R X RX8 cc nL kc ns Z (pc + 3) lv (rest) d0) : mGo l G R X RX8 cc nL kc ns Z pc lv (a1 :: Value.ref b :: rest) d := callVNV (As := [a1]) hc wm_X8_93 yvX2_become hob rfl rfl rfl hro hce hst hd kk
theorem cl_X8_105 (hc : CtI l G yX8_isWithin cX8_isWithin 3 .boolean fr lo [a1, a2, a3] Z d r0 d0) (hro : fr + 1 ≤ R.frames ∧ 8 + (3 + 11) + lo ≤ R.locals) (hce : kc + 0 ≤ R.cells ∧ ns + 0 ≤ R.slots) (hst : (rest.map fun v => v.category).sum ≤ 8) (hd : decode cc pc = .ok (.invokestatic 105, 3)) (kk : mGo l G R X RX8 cc nL kc ns Z (pc + 3) lv (.int r0 :: rest) d0) : mGo l G R X RX8 cc nL kc ns Z pc lv (a3 :: a2 :: a1 :: rest) d := callSI (As := [a1, a2, a3]) hc wm_X8_105 ysX8_isWithin rfl hro hce hst hd kk
theorem cl_X8_109 (hc : CtI l G yX2_at cX2_at 5 .int fr lo [Value.ref b, a1, a2] Z d r0 d0) (hob : ob Z 2 b) (hro : fr + 1 ≤ R.frames ∧ 8 + (5 + 11) + lo ≤ R.locals) (hce : kc + 0 ≤ R.cells ∧ ns + 0 ≤ R.slots) (hst : (rest.map fun v => v.category).sum ≤ 8) (hd : decode cc pc = .ok (.invokevirtual 109, 3)) (kk : mGo l G R X RX8 cc nL kc ns Z (pc + 3) lv (.int r0 :: rest) d0) : mGo l G R X RX8 cc nL kc ns Z pc lv (a2 :: a1 :: Value.ref b :: rest) d := callVNI (As := [a1, a2]) hc wm_X8_109 yvX2_at hob rfl rfl rfl hro hce hst hd kk
theorem cl_X2_15 (hfr : 1 ≤ R.frames) (hlo : (rest.map fun v => v.category).sum + 13 ≤ R.locals) (hce : kc ≤ R.cells ∧ ns ≤ R.slots) (hd : decode cc pc = .ok (.invokestatic 15, 3)) (kk : mGo l G R X RX2 cc nL kc ns Z (pc + 3) lv (.int (mMin xq yq) :: rest) d) : mGo l G R X RX2 cc nL kc ns Z pc lv (.int yq :: .int xq :: rest) d := fun C H locs ls hW hL => va_mmin C.1 C.2.1 (C.2.2.1.trans hL.1.symm) C.2.2.2.1 (C.2.2.2.2.1 _ wm_X2_15) (C.2.2.2.2.1 _ w_smin) (C.2.2.2.2.1 _ w_iMath) (C.2.2.2.2.1 _ w_cmin) hfr hlo hce.1 hce.2 hd (kk C H locs ls hW hL)
theorem cl_X2_21 (hfr : 1 ≤ R.frames) (hlo : (rest.map fun v => v.category).sum + 13 ≤ R.locals) (hce : kc ≤ R.cells ∧ ns ≤ R.slots) (hd : decode cc pc = .ok (.invokestatic 21, 3)) (kk : mGo l G R X RX2 cc nL kc ns Z (pc + 3) lv (.int (mMax xq yq) :: rest) d) : mGo l G R X RX2 cc nL kc ns Z pc lv (.int yq :: .int xq :: rest) d := fun C H locs ls hW hL => va_mmax C.1 C.2.1 (C.2.2.1.trans hL.1.symm) C.2.2.2.1 (C.2.2.2.2.1 _ wm_X2_21) (C.2.2.2.2.1 _ w_smax) (C.2.2.2.2.1 _ w_iMath) (C.2.2.2.2.1 _ w_cmax) hfr hlo hce.1 hce.2 hd (kk C H locs ls hW hL)
theorem cl_X8_116 (hc : CtI l G yX8_allCosts cX8_allCosts 3 .int fr lo [Value.ref b] Z d r0 d0) (hob : ob Z 8 b) (hro : fr + 1 ≤ R.frames ∧ 8 + (3 + 11) + lo ≤ R.locals) (hce : kc + 0 ≤ R.cells ∧ ns + 0 ≤ R.slots) (hst : (rest.map fun v => v.category).sum ≤ 8) (hd : decode cc pc = .ok (.invokevirtual 116, 3)) (kk : mGo l G R X RX8 cc nL kc ns Z (pc + 3) lv (.int r0 :: rest) d0) : mGo l G R X RX8 cc nL kc ns Z pc lv (Value.ref b :: rest) d := callVI (As := []) hc wm_X8_116 yvX8_allCosts hob rfl rfl rfl hro hce hst hd kk
theorem cl_X8_174 (hc : CtV l G yX4_best cX4_best 3 fr lo [Value.ref b, a1, a2] Z d d0) (hob : ob Z 4 b) (hro : fr + 1 ≤ R.frames ∧ 8 + (3 + 11) + lo ≤ R.locals) (hce : kc + 0 ≤ R.cells ∧ ns + 0 ≤ R.slots) (hst : (rest.map fun v => v.category).sum ≤ 8) (hd : decode cc pc = .ok (.invokevirtual 174, 3)) (kk : mGo l G R X RX8 cc nL kc ns Z (pc + 3) lv (rest) d0) : mGo l G R X RX8 cc nL kc ns Z pc lv (a2 :: a1 :: Value.ref b :: rest) d := callVNV (As := [a1, a2]) hc wm_X8_174 yvX4_best hob rfl rfl rfl hro hce hst hd kk
theorem cl_X4_24 (hc : CtV l G yX4_tryMoves cX4_tryMoves 9 fr lo [Value.ref b, a1, a2, a3, a4, a5] Z d d0) (hob : ob Z 4 b) (hro : fr + 1 ≤ R.frames ∧ 8 + (9 + 11) + lo ≤ R.locals) (hce : kc + 0 ≤ R.cells ∧ ns + 0 ≤ R.slots) (hst : (rest.map fun v => v.category).sum ≤ 8) (hd : decode cc pc = .ok (.invokevirtual 24, 3)) (kk : mGo l G R X RX4 cc nL kc ns Z (pc + 3) lv (rest) d0) : mGo l G R X RX4 cc nL kc ns Z pc lv (a5 :: a4 :: a3 :: a2 :: a1 :: Value.ref b :: rest) d := callVV (As := [a1, a2, a3, a4, a5]) hc wm_X4_24 yvX4_tryMoves hob rfl rfl rfl hro hce hst hd kk
theorem cl_X4_58 (hc : CtI l G yX4_isNear cX4_isNear 3 .boolean fr lo [a1, a2, a3] Z d r0 d0) (hro : fr + 1 ≤ R.frames ∧ 8 + (3 + 11) + lo ≤ R.locals) (hce : kc + 0 ≤ R.cells ∧ ns + 0 ≤ R.slots) (hst : (rest.map fun v => v.category).sum ≤ 8) (hd : decode cc pc = .ok (.invokestatic 58, 3)) (kk : mGo l G R X RX4 cc nL kc ns Z (pc + 3) lv (.int r0 :: rest) d0) : mGo l G R X RX4 cc nL kc ns Z pc lv (a3 :: a2 :: a1 :: rest) d := callSI (As := [a1, a2, a3]) hc wm_X4_58 ysX4_isNear rfl hro hce hst hd kk
theorem cl_X4_32 (hc : CtI l G yX8_xOf cX8_xOf 1 .int fr lo [a1] Z d r0 d0) (hro : fr + 1 ≤ R.frames ∧ 8 + (1 + 11) + lo ≤ R.locals) (hce : kc + 0 ≤ R.cells ∧ ns + 0 ≤ R.slots) (hst : (rest.map fun v => v.category).sum ≤ 8) (hd : decode cc pc = .ok (.invokestatic 32, 3)) (kk : mGo l G R X RX4 cc nL kc ns Z (pc + 3) lv (.int r0 :: rest) d0) : mGo l G R X RX4 cc nL kc ns Z pc lv (a1 :: rest) d := callSNI (As := [a1]) hc wm_X4_32 ysX8_xOf rfl hro hce hst hd kk
theorem cl_X4_91 (hfr : 1 ≤ R.frames) (hlo : (rest.map fun v => v.category).sum + 13 ≤ R.locals) (hce : kc ≤ R.cells ∧ ns ≤ R.slots) (hd : decode cc pc = .ok (.invokestatic 91, 3)) (kk : mGo l G R X RX4 cc nL kc ns Z (pc + 3) lv (.int (mAbs xq) :: rest) d) : mGo l G R X RX4 cc nL kc ns Z pc lv (.int xq :: rest) d := fun C H locs ls hW hL => va_mabs C.1 C.2.1 (C.2.2.1.trans hL.1.symm) C.2.2.2.1 (C.2.2.2.2.1 _ wm_X4_91) (C.2.2.2.2.1 _ w_sabs) (C.2.2.2.2.1 _ w_iMath) (C.2.2.2.2.1 _ w_cabs) hfr hlo hce.1 hce.2 hd (kk C H locs ls hW hL)
theorem cl_X4_36 (hc : CtI l G yX8_yOf cX8_yOf 1 .int fr lo [a1] Z d r0 d0) (hro : fr + 1 ≤ R.frames ∧ 8 + (1 + 11) + lo ≤ R.locals) (hce : kc + 0 ≤ R.cells ∧ ns + 0 ≤ R.slots) (hst : (rest.map fun v => v.category).sum ≤ 8) (hd : decode cc pc = .ok (.invokestatic 36, 3)) (kk : mGo l G R X RX4 cc nL kc ns Z (pc + 3) lv (.int r0 :: rest) d0) : mGo l G R X RX4 cc nL kc ns Z pc lv (a1 :: rest) d := callSNI (As := [a1]) hc wm_X4_36 ysX8_yOf rfl hro hce hst hd kk
theorem cl_X4_62 (hc : CtI l G yX4_sumsApart cX4_sumsApart 7 .int fr lo [a1, a2, a3] Z d r0 d0) (hro : fr + 1 ≤ R.frames ∧ 8 + (7 + 11) + lo ≤ R.locals) (hce : kc + 0 ≤ R.cells ∧ ns + 0 ≤ R.slots) (hst : (rest.map fun v => v.category).sum ≤ 8) (hd : decode cc pc = .ok (.invokestatic 62, 3)) (kk : mGo l G R X RX4 cc nL kc ns Z (pc + 3) lv (.int r0 :: rest) d0) : mGo l G R X RX4 cc nL kc ns Z pc lv (a3 :: a2 :: a1 :: rest) d := callSI (As := [a1, a2, a3]) hc wm_X4_62 ysX4_sumsApart rfl hro hce hst hd kk
theorem cl_X4_65 (hc : CtI l G yX8_firstColumn cX8_firstColumn 1 .int fr lo [a1] Z d r0 d0) (hro : fr + 1 ≤ R.frames ∧ 8 + (1 + 11) + lo ≤ R.locals) (hce : kc + 0 ≤ R.cells ∧ ns + 0 ≤ R.slots) (hst : (rest.map fun v => v.category).sum ≤ 8) (hd : decode cc pc = .ok (.invokestatic 65, 3)) (kk : mGo l G R X RX4 cc nL kc ns Z (pc + 3) lv (.int r0 :: rest) d0) : mGo l G R X RX4 cc nL kc ns Z pc lv (a1 :: rest) d := callSNI (As := [a1]) hc wm_X4_65 ysX8_firstColumn rfl hro hce hst hd kk
theorem cl_X4_68 (hc : CtI l G yX8_firstRow cX8_firstRow 1 .int fr lo [a1] Z d r0 d0) (hro : fr + 1 ≤ R.frames ∧ 8 + (1 + 11) + lo ≤ R.locals) (hce : kc + 0 ≤ R.cells ∧ ns + 0 ≤ R.slots) (hst : (rest.map fun v => v.category).sum ≤ 8) (hd : decode cc pc = .ok (.invokestatic 68, 3)) (kk : mGo l G R X RX4 cc nL kc ns Z (pc + 3) lv (.int r0 :: rest) d0) : mGo l G R X RX4 cc nL kc ns Z pc lv (a1 :: rest) d := callSNI (As := [a1]) hc wm_X4_68 ysX8_firstRow rfl hro hce hst hd kk
theorem cl_X4_83 (hc : CtI l G yX2_at cX2_at 5 .int fr lo [Value.ref b, a1, a2] Z d r0 d0) (hob : ob Z 2 b) (hro : fr + 1 ≤ R.frames ∧ 8 + (5 + 11) + lo ≤ R.locals) (hce : kc + 0 ≤ R.cells ∧ ns + 0 ≤ R.slots) (hst : (rest.map fun v => v.category).sum ≤ 8) (hd : decode cc pc = .ok (.invokevirtual 83, 3)) (kk : mGo l G R X RX4 cc nL kc ns Z (pc + 3) lv (.int r0 :: rest) d0) : mGo l G R X RX4 cc nL kc ns Z pc lv (a2 :: a1 :: Value.ref b :: rest) d := callVNI (As := [a1, a2]) hc wm_X4_83 yvX2_at hob rfl rfl rfl hro hce hst hd kk
theorem cl_X4_54 (hc : CtI l G yX4_costBelow cX4_costBelow 14 .int fr lo [Value.ref b, a1, a2, a3, a4] Z d r0 d0) (hob : ob Z 4 b) (hro : fr + 1 ≤ R.frames ∧ 8 + (14 + 11) + lo ≤ R.locals) (hce : kc + 0 ≤ R.cells ∧ ns + 0 ≤ R.slots) (hst : (rest.map fun v => v.category).sum ≤ 8) (hd : decode cc pc = .ok (.invokevirtual 54, 3)) (kk : mGo l G R X RX4 cc nL kc ns Z (pc + 3) lv (.int r0 :: rest) d0) : mGo l G R X RX4 cc nL kc ns Z pc lv (a4 :: a3 :: a2 :: a1 :: Value.ref b :: rest) d := callVI (As := [a1, a2, a3, a4]) hc wm_X4_54 yvX4_costBelow hob rfl rfl rfl hro hce hst hd kk
theorem cl_X4_76 (hc : CtI l G yX8_stepsOf cX8_stepsOf 1 .int fr lo [a1] Z d r0 d0) (hro : fr + 1 ≤ R.frames ∧ 8 + (1 + 11) + lo ≤ R.locals) (hce : kc + 0 ≤ R.cells ∧ ns + 0 ≤ R.slots) (hst : (rest.map fun v => v.category).sum ≤ 8) (hd : decode cc pc = .ok (.invokestatic 76, 3)) (kk : mGo l G R X RX4 cc nL kc ns Z (pc + 3) lv (.int r0 :: rest) d0) : mGo l G R X RX4 cc nL kc ns Z pc lv (a1 :: rest) d := callSNI (As := [a1]) hc wm_X4_76 ysX8_stepsOf rfl hro hce hst hd kk
theorem cl_X8_195 (hc : CtI l G yX8_xOf cX8_xOf 1 .int fr lo [a1] Z d r0 d0) (hro : fr + 1 ≤ R.frames ∧ 8 + (1 + 11) + lo ≤ R.locals) (hce : kc + 0 ≤ R.cells ∧ ns + 0 ≤ R.slots) (hst : (rest.map fun v => v.category).sum ≤ 8) (hd : decode cc pc = .ok (.invokestatic 195, 3)) (kk : mGo l G R X RX8 cc nL kc ns Z (pc + 3) lv (.int r0 :: rest) d0) : mGo l G R X RX8 cc nL kc ns Z pc lv (a1 :: rest) d := callSI (As := [a1]) hc wm_X8_195 ysX8_xOf rfl hro hce hst hd kk
theorem cl_X8_276 (hfr : 1 ≤ R.frames) (hlo : (rest.map fun v => v.category).sum + 13 ≤ R.locals) (hce : kc ≤ R.cells ∧ ns ≤ R.slots) (hd : decode cc pc = .ok (.invokestatic 276, 3)) (kk : mGo l G R X RX8 cc nL kc ns Z (pc + 3) lv (.int (mAbs xq) :: rest) d) : mGo l G R X RX8 cc nL kc ns Z pc lv (.int xq :: rest) d := fun C H locs ls hW hL => va_mabs C.1 C.2.1 (C.2.2.1.trans hL.1.symm) C.2.2.2.1 (C.2.2.2.2.1 _ wm_X8_276) (C.2.2.2.2.1 _ w_sabs) (C.2.2.2.2.1 _ w_iMath) (C.2.2.2.2.1 _ w_cabs) hfr hlo hce.1 hce.2 hd (kk C H locs ls hW hL)
theorem cl_X8_199 (hc : CtI l G yX8_yOf cX8_yOf 1 .int fr lo [a1] Z d r0 d0) (hro : fr + 1 ≤ R.frames ∧ 8 + (1 + 11) + lo ≤ R.locals) (hce : kc + 0 ≤ R.cells ∧ ns + 0 ≤ R.slots) (hst : (rest.map fun v => v.category).sum ≤ 8) (hd : decode cc pc = .ok (.invokestatic 199, 3)) (kk : mGo l G R X RX8 cc nL kc ns Z (pc + 3) lv (.int r0 :: rest) d0) : mGo l G R X RX8 cc nL kc ns Z pc lv (a1 :: rest) d := callSI (As := [a1]) hc wm_X8_199 ysX8_yOf rfl hro hce hst hd kk
theorem cl_X4_96 (hc : CtI l G yX4_dotCost cX4_dotCost 3 .int fr lo [a1, a2, a3] Z d r0 d0) (hro : fr + 1 ≤ R.frames ∧ 8 + (3 + 11) + lo ≤ R.locals) (hce : kc + 0 ≤ R.cells ∧ ns + 0 ≤ R.slots) (hst : (rest.map fun v => v.category).sum ≤ 8) (hd : decode cc pc = .ok (.invokestatic 96, 3)) (kk : mGo l G R X RX4 cc nL kc ns Z (pc + 3) lv (.int r0 :: rest) d0) : mGo l G R X RX4 cc nL kc ns Z pc lv (a3 :: a2 :: a1 :: rest) d := callSI (As := [a1, a2, a3]) hc wm_X4_96 ysX4_dotCost rfl hro hce hst hd kk
theorem cl_X4_100 (hc : CtI l G yX4_isAtEdge cX4_isAtEdge 3 .boolean fr lo [a1] Z d r0 d0) (hro : fr + 1 ≤ R.frames ∧ 8 + (3 + 11) + lo ≤ R.locals) (hce : kc + 0 ≤ R.cells ∧ ns + 0 ≤ R.slots) (hst : (rest.map fun v => v.category).sum ≤ 8) (hd : decode cc pc = .ok (.invokestatic 100, 3)) (kk : mGo l G R X RX4 cc nL kc ns Z (pc + 3) lv (.int r0 :: rest) d0) : mGo l G R X RX4 cc nL kc ns Z pc lv (a1 :: rest) d := callSI (As := [a1]) hc wm_X4_100 ysX4_isAtEdge rfl hro hce hst hd kk
theorem cl_X4_104 (hfr : 1 ≤ R.frames) (hlo : (rest.map fun v => v.category).sum + 13 ≤ R.locals) (hce : kc ≤ R.cells ∧ ns ≤ R.slots) (hd : decode cc pc = .ok (.invokestatic 104, 3)) (kk : mGo l G R X RX4 cc nL kc ns Z (pc + 3) lv (.int (mMin xq yq) :: rest) d) : mGo l G R X RX4 cc nL kc ns Z pc lv (.int yq :: .int xq :: rest) d := fun C H locs ls hW hL => va_mmin C.1 C.2.1 (C.2.2.1.trans hL.1.symm) C.2.2.2.1 (C.2.2.2.2.1 _ wm_X4_104) (C.2.2.2.2.1 _ w_smin) (C.2.2.2.2.1 _ w_iMath) (C.2.2.2.2.1 _ w_cmin) hfr hlo hce.1 hce.2 hd (kk C H locs ls hW hL)
theorem cl_X8_119 (hc : CtV l G yX0_fill cX0_fill 4 fr lo [Value.ref b, a1, a2] Z d d0) (hob : ob Z 0 b) (hro : fr + 1 ≤ R.frames ∧ 8 + (4 + 11) + lo ≤ R.locals) (hce : kc + 0 ≤ R.cells ∧ ns + 0 ≤ R.slots) (hst : (rest.map fun v => v.category).sum ≤ 8) (hd : decode cc pc = .ok (.invokevirtual 119, 3)) (kk : mGo l G R X RX8 cc nL kc ns Z (pc + 3) lv (rest) d0) : mGo l G R X RX8 cc nL kc ns Z pc lv (a2 :: a1 :: Value.ref b :: rest) d := callVNV (As := [a1, a2]) hc wm_X8_119 yvX0_fill hob rfl rfl rfl hro hce hst hd kk
theorem cl_X0_18 (hc : CtV l G yX4_best cX4_best 3 fr lo [Value.ref b, a1, a2] Z d d0) (hob : ob Z 4 b) (hro : fr + 1 ≤ R.frames ∧ 8 + (3 + 11) + lo ≤ R.locals) (hce : kc + 0 ≤ R.cells ∧ ns + 0 ≤ R.slots) (hst : (rest.map fun v => v.category).sum ≤ 8) (hd : decode cc pc = .ok (.invokevirtual 18, 3)) (kk : mGo l G R X RX0 cc nL kc ns Z (pc + 3) lv (rest) d0) : mGo l G R X RX0 cc nL kc ns Z pc lv (a2 :: a1 :: Value.ref b :: rest) d := callVNV (As := [a1, a2]) hc wm_X0_18 yvX4_best hob rfl rfl rfl hro hce hst hd kk
theorem cl_X8_123 (hc : CtI l G yX0_length cX0_length 3 .int fr lo [Value.ref b] Z d r0 d0) (hob : ob Z 0 b) (hro : fr + 1 ≤ R.frames ∧ 8 + (3 + 11) + lo ≤ R.locals) (hce : kc + 0 ≤ R.cells ∧ ns + 0 ≤ R.slots) (hst : (rest.map fun v => v.category).sum ≤ 8) (hd : decode cc pc = .ok (.invokevirtual 123, 3)) (kk : mGo l G R X RX8 cc nL kc ns Z (pc + 3) lv (.int r0 :: rest) d0) : mGo l G R X RX8 cc nL kc ns Z pc lv (Value.ref b :: rest) d := callVNI (As := []) hc wm_X8_123 yvX0_length hob rfl rfl rfl hro hce hst hd kk
theorem cl_X0_38 (hc : CtI l G yX8_xOf cX8_xOf 1 .int fr lo [a1] Z d r0 d0) (hro : fr + 1 ≤ R.frames ∧ 8 + (1 + 11) + lo ≤ R.locals) (hce : kc + 0 ≤ R.cells ∧ ns + 0 ≤ R.slots) (hst : (rest.map fun v => v.category).sum ≤ 8) (hd : decode cc pc = .ok (.invokestatic 38, 3)) (kk : mGo l G R X RX0 cc nL kc ns Z (pc + 3) lv (.int r0 :: rest) d0) : mGo l G R X RX0 cc nL kc ns Z pc lv (a1 :: rest) d := callSNI (As := [a1]) hc wm_X0_38 ysX8_xOf rfl hro hce hst hd kk
theorem cl_X0_53 (hc : CtI l G yX0_foretold cX0_foretold 7 .int fr lo [Value.ref b, a1, a2] Z d r0 d0) (hob : ob Z 0 b) (hro : fr + 1 ≤ R.frames ∧ 8 + (7 + 11) + lo ≤ R.locals) (hce : kc + 0 ≤ R.cells ∧ ns + 0 ≤ R.slots) (hst : (rest.map fun v => v.category).sum ≤ 8) (hd : decode cc pc = .ok (.invokevirtual 53, 3)) (kk : mGo l G R X RX0 cc nL kc ns Z (pc + 3) lv (.int r0 :: rest) d0) : mGo l G R X RX0 cc nL kc ns Z pc lv (a2 :: a1 :: Value.ref b :: rest) d := callVI (As := [a1, a2]) hc wm_X0_53 yvX0_foretold hob rfl rfl rfl hro hce hst hd kk
theorem cl_X0_60 (hc : CtI l G yX0_partOf cX0_partOf 3 .int fr lo [Value.ref b, a1, a2] Z d r0 d0) (hob : ob Z 0 b) (hro : fr + 1 ≤ R.frames ∧ 8 + (3 + 11) + lo ≤ R.locals) (hce : kc + 0 ≤ R.cells ∧ ns + 0 ≤ R.slots) (hst : (rest.map fun v => v.category).sum ≤ 8) (hd : decode cc pc = .ok (.invokevirtual 60, 3)) (kk : mGo l G R X RX0 cc nL kc ns Z (pc + 3) lv (.int r0 :: rest) d0) : mGo l G R X RX0 cc nL kc ns Z pc lv (a2 :: a1 :: Value.ref b :: rest) d := callVI (As := [a1, a2]) hc wm_X0_60 yvX0_partOf hob rfl rfl rfl hro hce hst hd kk
theorem cl_X0_42 (hc : CtI l G yX8_yOf cX8_yOf 1 .int fr lo [a1] Z d r0 d0) (hro : fr + 1 ≤ R.frames ∧ 8 + (1 + 11) + lo ≤ R.locals) (hce : kc + 0 ≤ R.cells ∧ ns + 0 ≤ R.slots) (hst : (rest.map fun v => v.category).sum ≤ 8) (hd : decode cc pc = .ok (.invokestatic 42, 3)) (kk : mGo l G R X RX0 cc nL kc ns Z (pc + 3) lv (.int r0 :: rest) d0) : mGo l G R X RX0 cc nL kc ns Z pc lv (a1 :: rest) d := callSNI (As := [a1]) hc wm_X0_42 ysX8_yOf rfl hro hce hst hd kk
theorem cl_X0_63 (hc : CtI l G yX0_middle cX0_middle 4 .int fr lo [Value.ref b, a1] Z d r0 d0) (hob : ob Z 0 b) (hro : fr + 1 ≤ R.frames ∧ 8 + (4 + 11) + lo ≤ R.locals) (hce : kc + 0 ≤ R.cells ∧ ns + 0 ≤ R.slots) (hst : (rest.map fun v => v.category).sum ≤ 8) (hd : decode cc pc = .ok (.invokevirtual 63, 3)) (kk : mGo l G R X RX0 cc nL kc ns Z (pc + 3) lv (.int r0 :: rest) d0) : mGo l G R X RX0 cc nL kc ns Z pc lv (a1 :: Value.ref b :: rest) d := callVI (As := [a1]) hc wm_X0_63 yvX0_middle hob rfl rfl rfl hro hce hst hd kk
theorem cl_X0_66 (hfr : 1 ≤ R.frames) (hlo : (rest.map fun v => v.category).sum + 13 ≤ R.locals) (hce : kc ≤ R.cells ∧ ns ≤ R.slots) (hd : decode cc pc = .ok (.invokestatic 66, 3)) (kk : mGo l G R X RX0 cc nL kc ns Z (pc + 3) lv (.int (mMin xq yq) :: rest) d) : mGo l G R X RX0 cc nL kc ns Z pc lv (.int yq :: .int xq :: rest) d := fun C H locs ls hW hL => va_mmin C.1 C.2.1 (C.2.2.1.trans hL.1.symm) C.2.2.2.1 (C.2.2.2.2.1 _ wm_X0_66) (C.2.2.2.2.1 _ w_smin) (C.2.2.2.2.1 _ w_iMath) (C.2.2.2.2.1 _ w_cmin) hfr hlo hce.1 hce.2 hd (kk C H locs ls hW hL)
theorem cl_X0_71 (hfr : 1 ≤ R.frames) (hlo : (rest.map fun v => v.category).sum + 13 ≤ R.locals) (hce : kc ≤ R.cells ∧ ns ≤ R.slots) (hd : decode cc pc = .ok (.invokestatic 71, 3)) (kk : mGo l G R X RX0 cc nL kc ns Z (pc + 3) lv (.int (mMax xq yq) :: rest) d) : mGo l G R X RX0 cc nL kc ns Z pc lv (.int yq :: .int xq :: rest) d := fun C H locs ls hW hL => va_mmax C.1 C.2.1 (C.2.2.1.trans hL.1.symm) C.2.2.2.1 (C.2.2.2.2.1 _ wm_X0_71) (C.2.2.2.2.1 _ w_smax) (C.2.2.2.2.1 _ w_iMath) (C.2.2.2.2.1 _ w_cmax) hfr hlo hce.1 hce.2 hd (kk C H locs ls hW hL)
theorem cl_X0_57 (hc : CtI l G yX0_bitsOf cX0_bitsOf 4 .int fr lo [a1] Z d r0 d0) (hro : fr + 1 ≤ R.frames ∧ 8 + (4 + 11) + lo ≤ R.locals) (hce : kc + 0 ≤ R.cells ∧ ns + 0 ≤ R.slots) (hst : (rest.map fun v => v.category).sum ≤ 8) (hd : decode cc pc = .ok (.invokestatic 57, 3)) (kk : mGo l G R X RX0 cc nL kc ns Z (pc + 3) lv (.int r0 :: rest) d0) : mGo l G R X RX0 cc nL kc ns Z pc lv (a1 :: rest) d := callSI (As := [a1]) hc wm_X0_57 ysX0_bitsOf rfl hro hce hst hd kk
theorem cl_X0_74 (hfr : 1 ≤ R.frames) (hlo : (rest.map fun v => v.category).sum + 13 ≤ R.locals) (hce : kc ≤ R.cells ∧ ns ≤ R.slots) (hd : decode cc pc = .ok (.invokestatic 74, 3)) (kk : mGo l G R X RX0 cc nL kc ns Z (pc + 3) lv (.int (mAbs xq) :: rest) d) : mGo l G R X RX0 cc nL kc ns Z pc lv (.int xq :: rest) d := fun C H locs ls hW hL => va_mabs C.1 C.2.1 (C.2.2.1.trans hL.1.symm) C.2.2.2.1 (C.2.2.2.2.1 _ wm_X0_74) (C.2.2.2.2.1 _ w_sabs) (C.2.2.2.2.1 _ w_iMath) (C.2.2.2.2.1 _ w_cabs) hfr hlo hce.1 hce.2 hd (kk C H locs ls hW hL)
theorem cl_X8_126 (hc : CtI l G yX0_lacks cX0_lacks 7 .int fr lo [Value.ref b, a1] Z d r0 d0) (hob : ob Z 0 b) (hro : fr + 1 ≤ R.frames ∧ 8 + (7 + 11) + lo ≤ R.locals) (hce : kc + 0 ≤ R.cells ∧ ns + 0 ≤ R.slots) (hst : (rest.map fun v => v.category).sum ≤ 8) (hd : decode cc pc = .ok (.invokevirtual 126, 3)) (kk : mGo l G R X RX8 cc nL kc ns Z (pc + 3) lv (.int r0 :: rest) d0) : mGo l G R X RX8 cc nL kc ns Z pc lv (a1 :: Value.ref b :: rest) d := callVNI (As := [a1]) hc wm_X8_126 yvX0_lacks hob rfl rfl rfl hro hce hst hd kk
theorem cl_X0_28 (hc : CtI l G yX8_blockAt cX8_blockAt 2 .int fr lo [a1, a2] Z d r0 d0) (hro : fr + 1 ≤ R.frames ∧ 8 + (2 + 11) + lo ≤ R.locals) (hce : kc + 0 ≤ R.cells ∧ ns + 0 ≤ R.slots) (hst : (rest.map fun v => v.category).sum ≤ 8) (hd : decode cc pc = .ok (.invokestatic 28, 3)) (kk : mGo l G R X RX0 cc nL kc ns Z (pc + 3) lv (.int r0 :: rest) d0) : mGo l G R X RX0 cc nL kc ns Z pc lv (a2 :: a1 :: rest) d := callSNI (As := [a1, a2]) hc wm_X0_28 ysX8_blockAt rfl hro hce hst hd kk
theorem cl_X0_45 (hc : CtI l G yX2_at cX2_at 5 .int fr lo [Value.ref b, a1, a2] Z d r0 d0) (hob : ob Z 2 b) (hro : fr + 1 ≤ R.frames ∧ 8 + (5 + 11) + lo ≤ R.locals) (hce : kc + 0 ≤ R.cells ∧ ns + 0 ≤ R.slots) (hst : (rest.map fun v => v.category).sum ≤ 8) (hd : decode cc pc = .ok (.invokevirtual 45, 3)) (kk : mGo l G R X RX0 cc nL kc ns Z (pc + 3) lv (.int r0 :: rest) d0) : mGo l G R X RX0 cc nL kc ns Z pc lv (a2 :: a1 :: Value.ref b :: rest) d := callVNI (As := [a1, a2]) hc wm_X0_45 yvX2_at hob rfl rfl rfl hro hce hst hd kk
theorem cl_X8_130 (hc : CtV l G yX4_pan cX4_pan 5 fr lo [Value.ref b, a1] Z d d0) (hob : ob Z 4 b) (hro : fr + 1 ≤ R.frames ∧ 8 + (5 + 11) + lo ≤ R.locals) (hce : kc + 0 ≤ R.cells ∧ ns + 0 ≤ R.slots) (hst : (rest.map fun v => v.category).sum ≤ 8) (hd : decode cc pc = .ok (.invokevirtual 130, 3)) (kk : mGo l G R X RX8 cc nL kc ns Z (pc + 3) lv (rest) d0) : mGo l G R X RX8 cc nL kc ns Z pc lv (a1 :: Value.ref b :: rest) d := callVNV (As := [a1]) hc wm_X8_130 yvX4_pan hob rfl rfl rfl hro hce hst hd kk
theorem cl_X4_50 (hc : CtI l G yX4_wholeCost cX4_wholeCost 4 .int fr lo [Value.ref b, a1, a2, a3] Z d r0 d0) (hob : ob Z 4 b) (hro : fr + 1 ≤ R.frames ∧ 8 + (4 + 11) + lo ≤ R.locals) (hce : kc + 0 ≤ R.cells ∧ ns + 0 ≤ R.slots) (hst : (rest.map fun v => v.category).sum ≤ 8) (hd : decode cc pc = .ok (.invokevirtual 50, 3)) (kk : mGo l G R X RX4 cc nL kc ns Z (pc + 3) lv (.int r0 :: rest) d0) : mGo l G R X RX4 cc nL kc ns Z pc lv (a3 :: a2 :: a1 :: Value.ref b :: rest) d := callVI (As := [a1, a2, a3]) hc wm_X4_50 yvX4_wholeCost hob rfl rfl rfl hro hce hst hd kk
theorem cl_X8_140 (hc : CtI l G yX8_blocksNotQuick cX8_blocksNotQuick 4 .int fr lo [Value.ref b] Z d r0 d0) (hob : ob Z 8 b) (hro : fr + 1 ≤ R.frames ∧ 8 + (4 + 11) + lo ≤ R.locals) (hce : kc + 0 ≤ R.cells ∧ ns + 0 ≤ R.slots) (hst : (rest.map fun v => v.category).sum ≤ 8) (hd : decode cc pc = .ok (.invokevirtual 140, 3)) (kk : mGo l G R X RX8 cc nL kc ns Z (pc + 3) lv (.int r0 :: rest) d0) : mGo l G R X RX8 cc nL kc ns Z pc lv (Value.ref b :: rest) d := callVI (As := []) hc wm_X8_140 yvX8_blocksNotQuick hob rfl rfl rfl hro hce hst hd kk
theorem cl_X8_186 (hc : CtV l G yX4_quick cX4_quick 4 fr lo [Value.ref b, a1, a2] Z d d0) (hob : ob Z 4 b) (hro : fr + 1 ≤ R.frames ∧ 8 + (4 + 11) + lo ≤ R.locals) (hce : kc + 0 ≤ R.cells ∧ ns + 0 ≤ R.slots) (hst : (rest.map fun v => v.category).sum ≤ 8) (hd : decode cc pc = .ok (.invokevirtual 186, 3)) (kk : mGo l G R X RX8 cc nL kc ns Z (pc + 3) lv (rest) d0) : mGo l G R X RX8 cc nL kc ns Z pc lv (a2 :: a1 :: Value.ref b :: rest) d := callVNV (As := [a1, a2]) hc wm_X8_186 yvX4_quick hob rfl rfl rfl hro hce hst hd kk
theorem cl_X4_28 (hc : CtI l G yX4_smallMove cX4_smallMove 7 .int fr lo [a1, a2] Z d r0 d0) (hro : fr + 1 ≤ R.frames ∧ 8 + (7 + 11) + lo ≤ R.locals) (hce : kc + 0 ≤ R.cells ∧ ns + 0 ≤ R.slots) (hst : (rest.map fun v => v.category).sum ≤ 8) (hd : decode cc pc = .ok (.invokestatic 28, 3)) (kk : mGo l G R X RX4 cc nL kc ns Z (pc + 3) lv (.int r0 :: rest) d0) : mGo l G R X RX4 cc nL kc ns Z pc lv (a2 :: a1 :: rest) d := callSI (As := [a1, a2]) hc wm_X4_28 ysX4_smallMove rfl hro hce hst hd kk
theorem cl_X4_107 (hc : CtI l G yX4_smallCost cX4_smallCost 8 .int fr lo [a1, a2, a3] Z d r0 d0) (hro : fr + 1 ≤ R.frames ∧ 8 + (8 + 11) + lo ≤ R.locals) (hce : kc + 0 ≤ R.cells ∧ ns + 0 ≤ R.slots) (hst : (rest.map fun v => v.category).sum ≤ 8) (hd : decode cc pc = .ok (.invokestatic 107, 3)) (kk : mGo l G R X RX4 cc nL kc ns Z (pc + 3) lv (.int r0 :: rest) d0) : mGo l G R X RX4 cc nL kc ns Z pc lv (a3 :: a2 :: a1 :: rest) d := callSI (As := [a1, a2, a3]) hc wm_X4_107 ysX4_smallCost rfl hro hce hst hd kk
theorem cl_X4_110 (hc : CtI l G yX2_halfAt cX2_halfAt 6 .int fr lo [Value.ref b, a1, a2] Z d r0 d0) (hob : ob Z 2 b) (hro : fr + 1 ≤ R.frames ∧ 8 + (6 + 11) + lo ≤ R.locals) (hce : kc + 0 ≤ R.cells ∧ ns + 0 ≤ R.slots) (hst : (rest.map fun v => v.category).sum ≤ 8) (hd : decode cc pc = .ok (.invokevirtual 110, 3)) (kk : mGo l G R X RX4 cc nL kc ns Z (pc + 3) lv (.int r0 :: rest) d0) : mGo l G R X RX4 cc nL kc ns Z pc lv (a2 :: a1 :: Value.ref b :: rest) d := callVNI (As := [a1, a2]) hc wm_X4_110 yvX2_halfAt hob rfl rfl rfl hro hce hst hd kk
theorem cl_X4_39 (hc : CtI l G yX8_moveBy cX8_moveBy 2 .int fr lo [a1, a2] Z d r0 d0) (hro : fr + 1 ≤ R.frames ∧ 8 + (2 + 11) + lo ≤ R.locals) (hce : kc + 0 ≤ R.cells ∧ ns + 0 ≤ R.slots) (hst : (rest.map fun v => v.category).sum ≤ 8) (hd : decode cc pc = .ok (.invokestatic 39, 3)) (kk : mGo l G R X RX4 cc nL kc ns Z (pc + 3) lv (.int r0 :: rest) d0) : mGo l G R X RX4 cc nL kc ns Z pc lv (a2 :: a1 :: rest) d := callSNI (As := [a1, a2]) hc wm_X4_39 ysX8_moveBy rfl hro hce hst hd kk
theorem cl_X8_143 (hc : CtI l G yX8_isInPicture cX8_isInPicture 2 .boolean fr lo [a1, a2] Z d r0 d0) (hro : fr + 1 ≤ R.frames ∧ 8 + (2 + 11) + lo ≤ R.locals) (hce : kc + 0 ≤ R.cells ∧ ns + 0 ≤ R.slots) (hst : (rest.map fun v => v.category).sum ≤ 8) (hd : decode cc pc = .ok (.invokestatic 143, 3)) (kk : mGo l G R X RX8 cc nL kc ns Z (pc + 3) lv (.int r0 :: rest) d0) : mGo l G R X RX8 cc nL kc ns Z pc lv (a2 :: a1 :: rest) d := callSI (As := [a1, a2]) hc wm_X8_143 ysX8_isInPicture rfl hro hce hst hd kk
theorem cl_X8_148 (hc : CtV l G yX6_keep cX6_keep 1 fr lo [Value.ref b] Z d d0) (hob : ob Z 6 b) (hro : fr + 1 ≤ R.frames ∧ 8 + (1 + 11) + lo ≤ R.locals) (hce : kc + 0 ≤ R.cells ∧ ns + 0 ≤ R.slots) (hst : (rest.map fun v => v.category).sum ≤ 8) (hd : decode cc pc = .ok (.invokevirtual 148, 3)) (kk : mGo l G R X RX8 cc nL kc ns Z (pc + 3) lv (rest) d0) : mGo l G R X RX8 cc nL kc ns Z pc lv (Value.ref b :: rest) d := callVNV (As := []) hc wm_X8_148 yvX6_keep hob rfl rfl rfl hro hce hst hd kk
theorem cl_X6_26 (hc : CtV l G yX6_loseOldest cX6_loseOldest 3 fr lo [Value.ref b] Z d d0) (hob : ob Z 6 b) (hro : fr + 1 ≤ R.frames ∧ 8 + (3 + 11) + lo ≤ R.locals) (hce : kc + 0 ≤ R.cells ∧ ns + 0 ≤ R.slots) (hst : (rest.map fun v => v.category).sum ≤ 8) (hd : decode cc pc = .ok (.invokevirtual 26, 3)) (kk : mGo l G R X RX6 cc nL kc ns Z (pc + 3) lv (rest) d0) : mGo l G R X RX6 cc nL kc ns Z pc lv (Value.ref b :: rest) d := callVV (As := []) hc wm_X6_26 yvX6_loseOldest hob rfl rfl rfl hro hce hst hd kk
theorem cl_X6_29 (hc : CtV l G yX3_become cX3_become 2 fr lo [Value.ref b, a1] Z d d0) (hob : ob Z 3 b) (hro : fr + 1 ≤ R.frames ∧ 8 + (2 + 11) + lo ≤ R.locals) (hce : kc + 0 ≤ R.cells ∧ ns + 0 ≤ R.slots) (hst : (rest.map fun v => v.category).sum ≤ 8) (hd : decode cc pc = .ok (.invokevirtual 29, 3)) (kk : mGo l G R X RX6 cc nL kc ns Z (pc + 3) lv (rest) d0) : mGo l G R X RX6 cc nL kc ns Z pc lv (a1 :: Value.ref b :: rest) d := callVNV (As := [a1]) hc wm_X6_29 yvX3_become hob rfl rfl rfl hro hce hst hd kk
theorem cl_X3_32 (hc : CtV l G yX2_become cX2_become 2 fr lo [Value.ref b, a1] Z d d0) (hob : ob Z 2 b) (hro : fr + 1 ≤ R.frames ∧ 8 + (2 + 11) + lo ≤ R.locals) (hce : kc + 0 ≤ R.cells ∧ ns + 0 ≤ R.slots) (hst : (rest.map fun v => v.category).sum ≤ 8) (hd : decode cc pc = .ok (.invokevirtual 32, 3)) (kk : mGo l G R X RX3 cc nL kc ns Z (pc + 3) lv (rest) d0) : mGo l G R X RX3 cc nL kc ns Z pc lv (a1 :: Value.ref b :: rest) d := callVNV (As := [a1]) hc wm_X3_32 yvX2_become hob rfl rfl rfl hro hce hst hd kk
theorem cl_X8_152 (hc : CtI l G yX2_othersThan cX2_othersThan 4 .int fr lo [Value.ref b, a1] Z d r0 d0) (hob : ob Z 2 b) (hro : fr + 1 ≤ R.frames ∧ 8 + (4 + 11) + lo ≤ R.locals) (hce : kc + 0 ≤ R.cells ∧ ns + 0 ≤ R.slots) (hst : (rest.map fun v => v.category).sum ≤ 8) (hd : decode cc pc = .ok (.invokevirtual 152, 3)) (kk : mGo l G R X RX8 cc nL kc ns Z (pc + 3) lv (.int r0 :: rest) d0) : mGo l G R X RX8 cc nL kc ns Z pc lv (a1 :: Value.ref b :: rest) d := callVNI (As := [a1]) hc wm_X8_152 yvX2_othersThan hob rfl rfl rfl hro hce hst hd kk
theorem cl_X8_156 (hc : CtV l G yX3_turn cX3_turn 2 fr lo [Value.ref b] Z d d0) (hob : ob Z 3 b) (hro : fr + 1 ≤ R.frames ∧ 8 + (2 + 11) + lo ≤ R.locals) (hce : kc + 0 ≤ R.cells ∧ ns + 0 ≤ R.slots) (hst : (rest.map fun v => v.category).sum ≤ 8) (hd : decode cc pc = .ok (.invokevirtual 156, 3)) (kk : mGo l G R X RX8 cc nL kc ns Z (pc + 3) lv (rest) d0) : mGo l G R X RX8 cc nL kc ns Z pc lv (Value.ref b :: rest) d := callVNV (As := []) hc wm_X8_156 yvX3_turn hob rfl rfl rfl hro hce hst hd kk
theorem cl_X8_160 (hc : CtV l G yX6_goBack cX6_goBack 1 fr lo [Value.ref b] Z d d0) (hob : ob Z 6 b) (hro : fr + 1 ≤ R.frames ∧ 8 + (1 + 11) + lo ≤ R.locals) (hce : kc + 0 ≤ R.cells ∧ ns + 0 ≤ R.slots) (hst : (rest.map fun v => v.category).sum ≤ 8) (hd : decode cc pc = .ok (.invokevirtual 160, 3)) (kk : mGo l G R X RX8 cc nL kc ns Z (pc + 3) lv (rest) d0) : mGo l G R X RX8 cc nL kc ns Z pc lv (Value.ref b :: rest) d := callVNV (As := []) hc wm_X8_160 yvX6_goBack hob rfl rfl rfl hro hce hst hd kk
theorem cl_X8_166 (hc : CtI l G yX4_wholeCost cX4_wholeCost 4 .int fr lo [Value.ref b, a1, a2, a3] Z d r0 d0) (hob : ob Z 4 b) (hro : fr + 1 ≤ R.frames ∧ 8 + (4 + 11) + lo ≤ R.locals) (hce : kc + 0 ≤ R.cells ∧ ns + 0 ≤ R.slots) (hst : (rest.map fun v => v.category).sum ≤ 8) (hd : decode cc pc = .ok (.invokevirtual 166, 3)) (kk : mGo l G R X RX8 cc nL kc ns Z (pc + 3) lv (.int r0 :: rest) d0) : mGo l G R X RX8 cc nL kc ns Z pc lv (a3 :: a2 :: a1 :: Value.ref b :: rest) d := callVNI (As := [a1, a2, a3]) hc wm_X8_166 yvX4_wholeCost hob rfl rfl rfl hro hce hst hd kk
theorem cl_X8_170 (hc : CtI l G yX0_foretold cX0_foretold 7 .int fr lo [Value.ref b, a1, a2] Z d r0 d0) (hob : ob Z 0 b) (hro : fr + 1 ≤ R.frames ∧ 8 + (7 + 11) + lo ≤ R.locals) (hce : kc + 0 ≤ R.cells ∧ ns + 0 ≤ R.slots) (hst : (rest.map fun v => v.category).sum ≤ 8) (hd : decode cc pc = .ok (.invokevirtual 170, 3)) (kk : mGo l G R X RX8 cc nL kc ns Z (pc + 3) lv (.int r0 :: rest) d0) : mGo l G R X RX8 cc nL kc ns Z pc lv (a2 :: a1 :: Value.ref b :: rest) d := callVNI (As := [a1, a2]) hc wm_X8_170 yvX0_foretold hob rfl rfl rfl hro hce hst hd kk
theorem cl_X8_178 (hc : CtV l G yX1_look cX1_look 6 fr lo [Value.ref b, a1, a2, a3] Z d d0) (hob : ob Z 1 b) (hro : fr + 1 ≤ R.frames ∧ 8 + (6 + 11) + lo ≤ R.locals) (hce : kc + 0 ≤ R.cells ∧ ns + 0 ≤ R.slots) (hst : (rest.map fun v => v.category).sum ≤ 8) (hd : decode cc pc = .ok (.invokevirtual 178, 3)) (kk : mGo l G R X RX8 cc nL kc ns Z (pc + 3) lv (rest) d0) : mGo l G R X RX8 cc nL kc ns Z pc lv (a3 :: a2 :: a1 :: Value.ref b :: rest) d := callVNV (As := [a1, a2, a3]) hc wm_X8_178 yvX1_look hob rfl rfl rfl hro hce hst hd kk
theorem cl_X1_21 (hc : CtI l G yX1_costBy cX1_costBy 10 .int fr lo [a1, a2, a3, a4, a5] Z d r0 d0) (hro : fr + 1 ≤ R.frames ∧ 8 + (10 + 11) + lo ≤ R.locals) (hce : kc + 0 ≤ R.cells ∧ ns + 0 ≤ R.slots) (hst : (rest.map fun v => v.category).sum ≤ 8) (hd : decode cc pc = .ok (.invokestatic 21, 3)) (kk : mGo l G R X RX1 cc nL kc ns Z (pc + 3) lv (.int r0 :: rest) d0) : mGo l G R X RX1 cc nL kc ns Z pc lv (a5 :: a4 :: a3 :: a2 :: a1 :: rest) d := callSI (As := [a1, a2, a3, a4, a5]) hc wm_X1_21 ysX1_costBy rfl hro hce hst hd kk
theorem cl_X1_25 (hc : CtI l G yX8_firstColumn cX8_firstColumn 1 .int fr lo [a1] Z d r0 d0) (hro : fr + 1 ≤ R.frames ∧ 8 + (1 + 11) + lo ≤ R.locals) (hce : kc + 0 ≤ R.cells ∧ ns + 0 ≤ R.slots) (hst : (rest.map fun v => v.category).sum ≤ 8) (hd : decode cc pc = .ok (.invokestatic 25, 3)) (kk : mGo l G R X RX1 cc nL kc ns Z (pc + 3) lv (.int r0 :: rest) d0) : mGo l G R X RX1 cc nL kc ns Z pc lv (a1 :: rest) d := callSNI (As := [a1]) hc wm_X1_25 ysX8_firstColumn rfl hro hce hst hd kk
theorem cl_X1_29 (hc : CtI l G yX8_firstRow cX8_firstRow 1 .int fr lo [a1] Z d r0 d0) (hro : fr + 1 ≤ R.frames ∧ 8 + (1 + 11) + lo ≤ R.locals) (hce : kc + 0 ≤ R.cells ∧ ns + 0 ≤ R.slots) (hst : (rest.map fun v => v.category).sum ≤ 8) (hd : decode cc pc = .ok (.invokestatic 29, 3)) (kk : mGo l G R X RX1 cc nL kc ns Z (pc + 3) lv (.int r0 :: rest) d0) : mGo l G R X RX1 cc nL kc ns Z pc lv (a1 :: rest) d := callSNI (As := [a1]) hc wm_X1_29 ysX8_firstRow rfl hro hce hst hd kk
theorem cl_X1_38 (hc : CtI l G yX8_xOf cX8_xOf 1 .int fr lo [a1] Z d r0 d0) (hro : fr + 1 ≤ R.frames ∧ 8 + (1 + 11) + lo ≤ R.locals) (hce : kc + 0 ≤ R.cells ∧ ns + 0 ≤ R.slots) (hst : (rest.map fun v => v.category).sum ≤ 8) (hd : decode cc pc = .ok (.invokestatic 38, 3)) (kk : mGo l G R X RX1 cc nL kc ns Z (pc + 3) lv (.int r0 :: rest) d0) : mGo l G R X RX1 cc nL kc ns Z pc lv (a1 :: rest) d := callSNI (As := [a1]) hc wm_X1_38 ysX8_xOf rfl hro hce hst hd kk
theorem cl_X1_41 (hc : CtI l G yX8_yOf cX8_yOf 1 .int fr lo [a1] Z d r0 d0) (hro : fr + 1 ≤ R.frames ∧ 8 + (1 + 11) + lo ≤ R.locals) (hce : kc + 0 ≤ R.cells ∧ ns + 0 ≤ R.slots) (hst : (rest.map fun v => v.category).sum ≤ 8) (hd : decode cc pc = .ok (.invokestatic 41, 3)) (kk : mGo l G R X RX1 cc nL kc ns Z (pc + 3) lv (.int r0 :: rest) d0) : mGo l G R X RX1 cc nL kc ns Z pc lv (a1 :: rest) d := callSNI (As := [a1]) hc wm_X1_41 ysX8_yOf rfl hro hce hst hd kk
theorem cl_X1_44 (hc : CtI l G yX1_between cX1_between 6 .int fr lo [a1, a2, a3, a4, a5] Z d r0 d0) (hro : fr + 1 ≤ R.frames ∧ 8 + (6 + 11) + lo ≤ R.locals) (hce : kc + 0 ≤ R.cells ∧ ns + 0 ≤ R.slots) (hst : (rest.map fun v => v.category).sum ≤ 8) (hd : decode cc pc = .ok (.invokestatic 44, 3)) (kk : mGo l G R X RX1 cc nL kc ns Z (pc + 3) lv (.int r0 :: rest) d0) : mGo l G R X RX1 cc nL kc ns Z pc lv (a5 :: a4 :: a3 :: a2 :: a1 :: rest) d := callSI (As := [a1, a2, a3, a4, a5]) hc wm_X1_44 ysX1_between rfl hro hce hst hd kk
theorem cl_X1_51 (hc : CtI l G yX2_at cX2_at 5 .int fr lo [Value.ref b, a1, a2] Z d r0 d0) (hob : ob Z 2 b) (hro : fr + 1 ≤ R.frames ∧ 8 + (5 + 11) + lo ≤ R.locals) (hce : kc + 0 ≤ R.cells ∧ ns + 0 ≤ R.slots) (hst : (rest.map fun v => v.category).sum ≤ 8) (hd : decode cc pc = .ok (.invokevirtual 51, 3)) (kk : mGo l G R X RX1 cc nL kc ns Z (pc + 3) lv (.int r0 :: rest) d0) : mGo l G R X RX1 cc nL kc ns Z pc lv (a2 :: a1 :: Value.ref b :: rest) d := callVNI (As := [a1, a2]) hc wm_X1_51 yvX2_at hob rfl rfl rfl hro hce hst hd kk
theorem cl_X1_57 (hfr : 1 ≤ R.frames) (hlo : (rest.map fun v => v.category).sum + 13 ≤ R.locals) (hce : kc ≤ R.cells ∧ ns ≤ R.slots) (hd : decode cc pc = .ok (.invokestatic 57, 3)) (kk : mGo l G R X RX1 cc nL kc ns Z (pc + 3) lv (.int (mAbs xq) :: rest) d) : mGo l G R X RX1 cc nL kc ns Z pc lv (.int xq :: rest) d := fun C H locs ls hW hL => va_mabs C.1 C.2.1 (C.2.2.1.trans hL.1.symm) C.2.2.2.1 (C.2.2.2.2.1 _ wm_X1_57) (C.2.2.2.2.1 _ w_sabs) (C.2.2.2.2.1 _ w_iMath) (C.2.2.2.2.1 _ w_cabs) hfr hlo hce.1 hce.2 hd (kk C H locs ls hW hL)
theorem cl_X8_189 (hc : CtI l G yX8_searched cX8_searched 3 .int fr lo [Value.ref b, a1, a2] Z d r0 d0) (hob : ob Z 8 b) (hro : fr + 1 ≤ R.frames ∧ 8 + (3 + 11) + lo ≤ R.locals) (hce : kc + 0 ≤ R.cells ∧ ns + 0 ≤ R.slots) (hst : (rest.map fun v => v.category).sum ≤ 8) (hd : decode cc pc = .ok (.invokevirtual 189, 3)) (kk : mGo l G R X RX8 cc nL kc ns Z (pc + 3) lv (.int r0 :: rest) d0) : mGo l G R X RX8 cc nL kc ns Z pc lv (a2 :: a1 :: Value.ref b :: rest) d := callVI (As := [a1, a2]) hc wm_X8_189 yvX8_searched hob rfl rfl rfl hro hce hst hd kk
theorem cl_X8_265 (hc : CtV l G yX4_skim cX4_skim 3 fr lo [Value.ref b, a1, a2] Z d d0) (hob : ob Z 4 b) (hro : fr + 1 ≤ R.frames ∧ 8 + (3 + 11) + lo ≤ R.locals) (hce : kc + 0 ≤ R.cells ∧ ns + 0 ≤ R.slots) (hst : (rest.map fun v => v.category).sum ≤ 8) (hd : decode cc pc = .ok (.invokevirtual 265, 3)) (kk : mGo l G R X RX8 cc nL kc ns Z (pc + 3) lv (rest) d0) : mGo l G R X RX8 cc nL kc ns Z pc lv (a2 :: a1 :: Value.ref b :: rest) d := callVNV (As := [a1, a2]) hc wm_X8_265 yvX4_skim hob rfl rfl rfl hro hce hst hd kk
theorem cl_X8_192 (hc : CtI l G yX8_blockAt cX8_blockAt 2 .int fr lo [a1, a2] Z d r0 d0) (hro : fr + 1 ≤ R.frames ∧ 8 + (2 + 11) + lo ≤ R.locals) (hce : kc + 0 ≤ R.cells ∧ ns + 0 ≤ R.slots) (hst : (rest.map fun v => v.category).sum ≤ 8) (hd : decode cc pc = .ok (.invokestatic 192, 3)) (kk : mGo l G R X RX8 cc nL kc ns Z (pc + 3) lv (.int r0 :: rest) d0) : mGo l G R X RX8 cc nL kc ns Z pc lv (a2 :: a1 :: rest) d := callSI (As := [a1, a2]) hc wm_X8_192 ysX8_blockAt rfl hro hce hst hd kk
theorem cl_X8_202 (hfr : 1 ≤ R.frames) (hlo : (rest.map fun v => v.category).sum + 13 ≤ R.locals) (hce : kc ≤ R.cells ∧ ns ≤ R.slots) (hd : decode cc pc = .ok (.invokestatic 202, 3)) (kk : mGo l G R X RX8 cc nL kc ns Z (pc + 3) lv (.int (mMin xq yq) :: rest) d) : mGo l G R X RX8 cc nL kc ns Z pc lv (.int yq :: .int xq :: rest) d := fun C H locs ls hW hL => va_mmin C.1 C.2.1 (C.2.2.1.trans hL.1.symm) C.2.2.2.1 (C.2.2.2.2.1 _ wm_X8_202) (C.2.2.2.2.1 _ w_smin) (C.2.2.2.2.1 _ w_iMath) (C.2.2.2.2.1 _ w_cmin) hfr hlo hce.1 hce.2 hd (kk C H locs ls hW hL)
theorem cl_X8_207 (hc : CtI l G yX8_oddsAbove cX8_oddsAbove 9 .int fr lo [Value.ref b, a1, a2] Z d r0 d0) (hob : ob Z 8 b) (hro : fr + 1 ≤ R.frames ∧ 8 + (9 + 11) + lo ≤ R.locals) (hce : kc + 0 ≤ R.cells ∧ ns + 0 ≤ R.slots) (hst : (rest.map fun v => v.category).sum ≤ 8) (hd : decode cc pc = .ok (.invokevirtual 207, 3)) (kk : mGo l G R X RX8 cc nL kc ns Z (pc + 3) lv (.int r0 :: rest) d0) : mGo l G R X RX8 cc nL kc ns Z pc lv (a2 :: a1 :: Value.ref b :: rest) d := callVI (As := [a1, a2]) hc wm_X8_207 yvX8_oddsAbove hob rfl rfl rfl hro hce hst hd kk
theorem cl_X8_274 (hc : CtV l G yX3_become cX3_become 2 fr lo [Value.ref b, a1] Z d d0) (hob : ob Z 3 b) (hro : fr + 1 ≤ R.frames ∧ 8 + (2 + 11) + lo ≤ R.locals) (hce : kc + 0 ≤ R.cells ∧ ns + 0 ≤ R.slots) (hst : (rest.map fun v => v.category).sum ≤ 8) (hd : decode cc pc = .ok (.invokevirtual 274, 3)) (kk : mGo l G R X RX8 cc nL kc ns Z (pc + 3) lv (rest) d0) : mGo l G R X RX8 cc nL kc ns Z pc lv (a1 :: Value.ref b :: rest) d := callVNV (As := [a1]) hc wm_X8_274 yvX3_become hob rfl rfl rfl hro hce hst hd kk
theorem cl_X8_210 (hc : CtI l G yX8_power cX8_power 4 .int fr lo [a1, a2] Z d r0 d0) (hro : fr + 1 ≤ R.frames ∧ 8 + (4 + 11) + lo ≤ R.locals) (hce : kc + 0 ≤ R.cells ∧ ns + 0 ≤ R.slots) (hst : (rest.map fun v => v.category).sum ≤ 8) (hd : decode cc pc = .ok (.invokestatic 210, 3)) (kk : mGo l G R X RX8 cc nL kc ns Z (pc + 3) lv (.int r0 :: rest) d0) : mGo l G R X RX8 cc nL kc ns Z pc lv (a2 :: a1 :: rest) d := callSI (As := [a1, a2]) hc wm_X8_210 ysX8_power rfl hro hce hst hd kk
theorem cl_X8_213 (hc : CtI l G yX8_commonDivisor cX8_commonDivisor 4 .int fr lo [a1, a2] Z d r0 d0) (hro : fr + 1 ≤ R.frames ∧ 8 + (4 + 11) + lo ≤ R.locals) (hce : kc + 0 ≤ R.cells ∧ ns + 0 ≤ R.slots) (hst : (rest.map fun v => v.category).sum ≤ 8) (hd : decode cc pc = .ok (.invokestatic 213, 3)) (kk : mGo l G R X RX8 cc nL kc ns Z (pc + 3) lv (.int r0 :: rest) d0) : mGo l G R X RX8 cc nL kc ns Z pc lv (a2 :: a1 :: rest) d := callSI (As := [a1, a2]) hc wm_X8_213 ysX8_commonDivisor rfl hro hce hst hd kk
theorem cl_X8_216 (hc : CtV l G yX6_become cX6_become 3 fr lo [Value.ref b, a1] Z d d0) (hob : ob Z 6 b) (hro : fr + 1 ≤ R.frames ∧ 8 + (3 + 11) + lo ≤ R.locals) (hce : kc + 0 ≤ R.cells ∧ ns + 0 ≤ R.slots) (hst : (rest.map fun v => v.category).sum ≤ 8) (hd : decode cc pc = .ok (.invokevirtual 216, 3)) (kk : mGo l G R X RX8 cc nL kc ns Z (pc + 3) lv (rest) d0) : mGo l G R X RX8 cc nL kc ns Z pc lv (a1 :: Value.ref b :: rest) d := callVNV (As := [a1]) hc wm_X8_216 yvX6_become hob rfl rfl rfl hro hce hst hd kk
theorem cl_X8_219 (hc : CtI l G yX8_isSheet cX8_isSheet 1 .boolean fr lo [a1] Z d r0 d0) (hro : fr + 1 ≤ R.frames ∧ 8 + (1 + 11) + lo ≤ R.locals) (hce : kc + 0 ≤ R.cells ∧ ns + 0 ≤ R.slots) (hst : (rest.map fun v => v.category).sum ≤ 8) (hd : decode cc pc = .ok (.invokestatic 219, 3)) (kk : mGo l G R X RX8 cc nL kc ns Z (pc + 3) lv (.int r0 :: rest) d0) : mGo l G R X RX8 cc nL kc ns Z pc lv (a1 :: rest) d := callSI (As := [a1]) hc wm_X8_219 ysX8_isSheet rfl hro hce hst hd kk
theorem cl_X8_222 (hc : CtI l G yX8_isLane cX8_isLane 1 .boolean fr lo [a1] Z d r0 d0) (hro : fr + 1 ≤ R.frames ∧ 8 + (1 + 11) + lo ≤ R.locals) (hce : kc + 0 ≤ R.cells ∧ ns + 0 ≤ R.slots) (hst : (rest.map fun v => v.category).sum ≤ 8) (hd : decode cc pc = .ok (.invokestatic 222, 3)) (kk : mGo l G R X RX8 cc nL kc ns Z (pc + 3) lv (.int r0 :: rest) d0) : mGo l G R X RX8 cc nL kc ns Z pc lv (a1 :: rest) d := callSI (As := [a1]) hc wm_X8_222 ysX8_isLane rfl hro hce hst hd kk
theorem cl_X8_225 (hc : CtI l G yX5_refusal cX5_refusal 4 .int fr lo [Value.ref b, a1, a2, a3] Z d r0 d0) (hob : ob Z 5 b) (hro : fr + 1 ≤ R.frames ∧ 8 + (4 + 11) + lo ≤ R.locals) (hce : kc + 0 ≤ R.cells ∧ ns + 0 ≤ R.slots) (hst : (rest.map fun v => v.category).sum ≤ 8) (hd : decode cc pc = .ok (.invokevirtual 225, 3)) (kk : mGo l G R X RX8 cc nL kc ns Z (pc + 3) lv (.int r0 :: rest) d0) : mGo l G R X RX8 cc nL kc ns Z pc lv (a3 :: a2 :: a1 :: Value.ref b :: rest) d := callVNI (As := [a1, a2, a3]) hc wm_X8_225 yvX5_refusal hob rfl rfl rfl hro hce hst hd kk
theorem cl_X5_28 (hc : CtI l G yX5_spans cX5_spans 3 .boolean fr lo [Value.ref b, a1, a2] Z d r0 d0) (hob : ob Z 5 b) (hro : fr + 1 ≤ R.frames ∧ 8 + (3 + 11) + lo ≤ R.locals) (hce : kc + 0 ≤ R.cells ∧ ns + 0 ≤ R.slots) (hst : (rest.map fun v => v.category).sum ≤ 8) (hd : decode cc pc = .ok (.invokevirtual 28, 3)) (kk : mGo l G R X RX5 cc nL kc ns Z (pc + 3) lv (.int r0 :: rest) d0) : mGo l G R X RX5 cc nL kc ns Z pc lv (a2 :: a1 :: Value.ref b :: rest) d := callVI (As := [a1, a2]) hc wm_X5_28 yvX5_spans hob rfl rfl rfl hro hce hst hd kk
theorem cl_X8_229 (hc : CtI l G yX8_kindsOf cX8_kindsOf 8 .int fr lo [Value.ref b, a1, a2, a3] Z d r0 d0) (hob : ob Z 8 b) (hro : fr + 1 ≤ R.frames ∧ 8 + (8 + 11) + lo ≤ R.locals) (hce : kc + 0 ≤ R.cells ∧ ns + 0 ≤ R.slots) (hst : (rest.map fun v => v.category).sum ≤ 8) (hd : decode cc pc = .ok (.invokevirtual 229, 3)) (kk : mGo l G R X RX8 cc nL kc ns Z (pc + 3) lv (.int r0 :: rest) d0) : mGo l G R X RX8 cc nL kc ns Z pc lv (a3 :: a2 :: a1 :: Value.ref b :: rest) d := callVI (As := [a1, a2, a3]) hc wm_X8_229 yvX8_kindsOf hob rfl rfl rfl hro hce hst hd kk
theorem cl_X8_233 (hc : CtV l G yX5_put cX5_put 4 fr lo [Value.ref b, a1, a2] Z d d0) (hob : ob Z 5 b) (hro : fr + 1 ≤ R.frames ∧ 8 + (4 + 11) + lo ≤ R.locals) (hce : kc + 0 ≤ R.cells ∧ ns + 0 ≤ R.slots) (hst : (rest.map fun v => v.category).sum ≤ 8) (hd : decode cc pc = .ok (.invokevirtual 233, 3)) (kk : mGo l G R X RX8 cc nL kc ns Z (pc + 3) lv (rest) d0) : mGo l G R X RX8 cc nL kc ns Z pc lv (a2 :: a1 :: Value.ref b :: rest) d := callVNV (As := [a1, a2]) hc wm_X8_233 yvX5_put hob rfl rfl rfl hro hce hst hd kk
theorem cl_X8_238 (hc : CtV l G yX5_begin cX5_begin 4 fr lo [Value.ref b, a1, a2] Z d d0) (hob : ob Z 5 b) (hro : fr + 1 ≤ R.frames ∧ 8 + (4 + 11) + lo ≤ R.locals) (hce : kc + 0 ≤ R.cells ∧ ns + 0 ≤ R.slots) (hst : (rest.map fun v => v.category).sum ≤ 8) (hd : decode cc pc = .ok (.invokevirtual 238, 3)) (kk : mGo l G R X RX8 cc nL kc ns Z (pc + 3) lv (rest) d0) : mGo l G R X RX8 cc nL kc ns Z pc lv (a2 :: a1 :: Value.ref b :: rest) d := callVNV (As := [a1, a2]) hc wm_X8_238 yvX5_begin hob rfl rfl rfl hro hce hst hd kk
theorem cl_X8_251 (hc : CtI l G yX5_spans cX5_spans 3 .boolean fr lo [Value.ref b, a1, a2] Z d r0 d0) (hob : ob Z 5 b) (hro : fr + 1 ≤ R.frames ∧ 8 + (3 + 11) + lo ≤ R.locals) (hce : kc + 0 ≤ R.cells ∧ ns + 0 ≤ R.slots) (hst : (rest.map fun v => v.category).sum ≤ 8) (hd : decode cc pc = .ok (.invokevirtual 251, 3)) (kk : mGo l G R X RX8 cc nL kc ns Z (pc + 3) lv (.int r0 :: rest) d0) : mGo l G R X RX8 cc nL kc ns Z pc lv (a2 :: a1 :: Value.ref b :: rest) d := callVNI (As := [a1, a2]) hc wm_X8_251 yvX5_spans hob rfl rfl rfl hro hce hst hd kk
theorem cl_X9_51 (hc : CtI l G yX9_farOf cX9_farOf 1 .int fr lo [a1] Z d r0 d0) (hro : fr + 1 ≤ R.frames ∧ 8 + (1 + 11) + lo ≤ R.locals) (hce : kc + 0 ≤ R.cells ∧ ns + 0 ≤ R.slots) (hst : (rest.map fun v => v.category).sum ≤ 8) (hd : decode cc pc = .ok (.invokestatic 51, 3)) (kk : mGo l G R X RX9 cc nL kc ns Z (pc + 3) lv (.int r0 :: rest) d0) : mGo l G R X RX9 cc nL kc ns Z pc lv (a1 :: rest) d := callSI (As := [a1]) hc wm_X9_51 ysX9_farOf rfl hro hce hst hd kk
theorem cl_X9_55 (hc : CtI l G yX9_xOf cX9_xOf 1 .int fr lo [a1] Z d r0 d0) (hro : fr + 1 ≤ R.frames ∧ 8 + (1 + 11) + lo ≤ R.locals) (hce : kc + 0 ≤ R.cells ∧ ns + 0 ≤ R.slots) (hst : (rest.map fun v => v.category).sum ≤ 8) (hd : decode cc pc = .ok (.invokestatic 55, 3)) (kk : mGo l G R X RX9 cc nL kc ns Z (pc + 3) lv (.int r0 :: rest) d0) : mGo l G R X RX9 cc nL kc ns Z pc lv (a1 :: rest) d := callSI (As := [a1]) hc wm_X9_55 ysX9_xOf rfl hro hce hst hd kk
theorem cl_X9_58 (hc : CtI l G yX9_sized cX9_sized 1 .int fr lo [a1] Z d r0 d0) (hro : fr + 1 ≤ R.frames ∧ 8 + (1 + 11) + lo ≤ R.locals) (hce : kc + 0 ≤ R.cells ∧ ns + 0 ≤ R.slots) (hst : (rest.map fun v => v.category).sum ≤ 8) (hd : decode cc pc = .ok (.invokestatic 58, 3)) (kk : mGo l G R X RX9 cc nL kc ns Z (pc + 3) lv (.int r0 :: rest) d0) : mGo l G R X RX9 cc nL kc ns Z pc lv (a1 :: rest) d := callSI (As := [a1]) hc wm_X9_58 ysX9_sized rfl hro hce hst hd kk
theorem cl_X9_61 (hc : CtI l G yX9_yOf cX9_yOf 1 .int fr lo [a1] Z d r0 d0) (hro : fr + 1 ≤ R.frames ∧ 8 + (1 + 11) + lo ≤ R.locals) (hce : kc + 0 ≤ R.cells ∧ ns + 0 ≤ R.slots) (hst : (rest.map fun v => v.category).sum ≤ 8) (hd : decode cc pc = .ok (.invokestatic 61, 3)) (kk : mGo l G R X RX9 cc nL kc ns Z (pc + 3) lv (.int r0 :: rest) d0) : mGo l G R X RX9 cc nL kc ns Z pc lv (a1 :: rest) d := callSI (As := [a1]) hc wm_X9_61 ysX9_yOf rfl hro hce hst hd kk
theorem cl_X9_70 (hc : CtI l G yX9_in cX9_in 6 .boolean fr lo [a1, a2, a3] Z d r0 d0) (hro : fr + 1 ≤ R.frames ∧ 8 + (6 + 11) + lo ≤ R.locals) (hce : kc + 0 ≤ R.cells ∧ ns + 0 ≤ R.slots) (hst : (rest.map fun v => v.category).sum ≤ 8) (hd : decode cc pc = .ok (.invokestatic 70, 3)) (kk : mGo l G R X RX9 cc nL kc ns Z (pc + 3) lv (.int r0 :: rest) d0) : mGo l G R X RX9 cc nL kc ns Z pc lv (a3 :: a2 :: a1 :: rest) d := callSI (As := [a1, a2, a3]) hc wm_X9_70 ysX9_in rfl hro hce hst hd kk
theorem cl_X9_76 (hc : CtI l G yX9_dotAt cX9_dotAt 4 .int fr lo [Value.ref b, a1, a2, a3] Z d r0 d0) (hob : ob Z 9 b) (hro : fr + 1 ≤ R.frames ∧ 8 + (4 + 11) + lo ≤ R.locals) (hce : kc + 0 ≤ R.cells ∧ ns + 0 ≤ R.slots) (hst : (rest.map fun v => v.category).sum ≤ 8) (hd : decode cc pc = .ok (.invokevirtual 76, 3)) (kk : mGo l G R X RX9 cc nL kc ns Z (pc + 3) lv (.int r0 :: rest) d0) : mGo l G R X RX9 cc nL kc ns Z pc lv (a3 :: a2 :: a1 :: Value.ref b :: rest) d := callVI (As := [a1, a2, a3]) hc wm_X9_76 yvX9_dotAt hob rfl rfl rfl hro hce hst hd kk
theorem cl_X9_64 (hc : CtI l G yX9_within cX9_within 2 .int fr lo [a1, a2] Z d r0 d0) (hro : fr + 1 ≤ R.frames ∧ 8 + (2 + 11) + lo ≤ R.locals) (hce : kc + 0 ≤ R.cells ∧ ns + 0 ≤ R.slots) (hst : (rest.map fun v => v.category).sum ≤ 8) (hd : decode cc pc = .ok (.invokestatic 64, 3)) (kk : mGo l G R X RX9 cc nL kc ns Z (pc + 3) lv (.int r0 :: rest) d0) : mGo l G R X RX9 cc nL kc ns Z pc lv (a2 :: a1 :: rest) d := callSI (As := [a1, a2]) hc wm_X9_64 ysX9_within rfl hro hce hst hd kk
theorem cl_X9_149 (hc : CtI l G yX9_costs cX9_costs 3 .int fr lo [Value.ref b] Z d r0 d0) (hob : ob Z 9 b) (hro : fr + 1 ≤ R.frames ∧ 8 + (3 + 11) + lo ≤ R.locals) (hce : kc + 0 ≤ R.cells ∧ ns + 0 ≤ R.slots) (hst : (rest.map fun v => v.category).sum ≤ 8) (hd : decode cc pc = .ok (.invokevirtual 149, 3)) (kk : mGo l G R X RX9 cc nL kc ns Z (pc + 3) lv (.int r0 :: rest) d0) : mGo l G R X RX9 cc nL kc ns Z pc lv (Value.ref b :: rest) d := callVI (As := []) hc wm_X9_149 yvX9_costs hob rfl rfl rfl hro hce hst hd kk
theorem cl_X9_116 (hc : CtI l G yX9_best cX9_best 2 .int fr lo [Value.ref b, a1] Z d r0 d0) (hob : ob Z 9 b) (hro : fr + 1 ≤ R.frames ∧ 8 + (2 + 11) + lo ≤ R.locals) (hce : kc + 0 ≤ R.cells ∧ ns + 0 ≤ R.slots) (hst : (rest.map fun v => v.category).sum ≤ 8) (hd : decode cc pc = .ok (.invokevirtual 116, 3)) (kk : mGo l G R X RX9 cc nL kc ns Z (pc + 3) lv (.int r0 :: rest) d0) : mGo l G R X RX9 cc nL kc ns Z pc lv (a1 :: Value.ref b :: rest) d := callVI (As := [a1]) hc wm_X9_116 yvX9_best hob rfl rfl rfl hro hce hst hd kk
theorem cl_X9_90 (hc : CtI l G yX9_bestBy cX9_bestBy 7 .int fr lo [Value.ref b, a1, a2] Z d r0 d0) (hob : ob Z 9 b) (hro : fr + 1 ≤ R.frames ∧ 8 + (7 + 11) + lo ≤ R.locals) (hce : kc + 0 ≤ R.cells ∧ ns + 0 ≤ R.slots) (hst : (rest.map fun v => v.category).sum ≤ 8) (hd : decode cc pc = .ok (.invokevirtual 90, 3)) (kk : mGo l G R X RX9 cc nL kc ns Z (pc + 3) lv (.int r0 :: rest) d0) : mGo l G R X RX9 cc nL kc ns Z pc lv (a2 :: a1 :: Value.ref b :: rest) d := callVI (As := [a1, a2]) hc wm_X9_90 yvX9_bestBy hob rfl rfl rfl hro hce hst hd kk
theorem cl_X9_87 (hc : CtI l G yX9_costBy cX9_costBy 6 .int fr lo [Value.ref b, a1, a2, a3] Z d r0 d0) (hob : ob Z 9 b) (hro : fr + 1 ≤ R.frames ∧ 8 + (6 + 11) + lo ≤ R.locals) (hce : kc + 0 ≤ R.cells ∧ ns + 0 ≤ R.slots) (hst : (rest.map fun v => v.category).sum ≤ 8) (hd : decode cc pc = .ok (.invokevirtual 87, 3)) (kk : mGo l G R X RX9 cc nL kc ns Z (pc + 3) lv (.int r0 :: rest) d0) : mGo l G R X RX9 cc nL kc ns Z pc lv (a3 :: a2 :: a1 :: Value.ref b :: rest) d := callVI (As := [a1, a2, a3]) hc wm_X9_87 yvX9_costBy hob rfl rfl rfl hro hce hst hd kk
theorem cl_X9_80 (hc : CtI l G yX9_atOnce cX9_atOnce 2 .int fr lo [a1, a2] Z d r0 d0) (hro : fr + 1 ≤ R.frames ∧ 8 + (2 + 11) + lo ≤ R.locals) (hce : kc + 0 ≤ R.cells ∧ ns + 0 ≤ R.slots) (hst : (rest.map fun v => v.category).sum ≤ 8) (hd : decode cc pc = .ok (.invokestatic 80, 3)) (kk : mGo l G R X RX9 cc nL kc ns Z (pc + 3) lv (.int r0 :: rest) d0) : mGo l G R X RX9 cc nL kc ns Z pc lv (a2 :: a1 :: rest) d := callSI (As := [a1, a2]) hc wm_X9_80 ysX9_atOnce rfl hro hce hst hd kk
theorem cl_X9_83 (hc : CtI l G yX9_dotCost cX9_dotCost 9 .int fr lo [Value.ref b, a1, a2, a3, a4] Z d r0 d0) (hob : ob Z 9 b) (hro : fr + 1 ≤ R.frames ∧ 8 + (9 + 11) + lo ≤ R.locals) (hce : kc + 0 ≤ R.cells ∧ ns + 0 ≤ R.slots) (hst : (rest.map fun v => v.category).sum ≤ 8) (hd : decode cc pc = .ok (.invokevirtual 83, 3)) (kk : mGo l G R X RX9 cc nL kc ns Z (pc + 3) lv (.int r0 :: rest) d0) : mGo l G R X RX9 cc nL kc ns Z pc lv (a4 :: a3 :: a2 :: a1 :: Value.ref b :: rest) d := callVI (As := [a1, a2, a3, a4]) hc wm_X9_83 yvX9_dotCost hob rfl rfl rfl hro hce hst hd kk
theorem cl_X9_153 (hc : CtI l G yX9_longField cX9_longField 3 .int fr lo [Value.ref b] Z d r0 d0) (hob : ob Z 9 b) (hro : fr + 1 ≤ R.frames ∧ 8 + (3 + 11) + lo ≤ R.locals) (hce : kc + 0 ≤ R.cells ∧ ns + 0 ≤ R.slots) (hst : (rest.map fun v => v.category).sum ≤ 8) (hd : decode cc pc = .ok (.invokevirtual 153, 3)) (kk : mGo l G R X RX9 cc nL kc ns Z (pc + 3) lv (.int r0 :: rest) d0) : mGo l G R X RX9 cc nL kc ns Z pc lv (Value.ref b :: rest) d := callVI (As := []) hc wm_X9_153 yvX9_longField hob rfl rfl rfl hro hce hst hd kk
theorem cl_X9_126 (hc : CtV l G yX9_lays cX9_lays 2 fr lo [Value.ref b] Z d d0) (hob : ob Z 9 b) (hro : fr + 1 ≤ R.frames ∧ 8 + (2 + 11) + lo ≤ R.locals) (hce : kc + 0 ≤ R.cells ∧ ns + 0 ≤ R.slots) (hst : (rest.map fun v => v.category).sum ≤ 8) (hd : decode cc pc = .ok (.invokevirtual 126, 3)) (kk : mGo l G R X RX9 cc nL kc ns Z (pc + 3) lv (rest) d0) : mGo l G R X RX9 cc nL kc ns Z pc lv (Value.ref b :: rest) d := callVV (As := []) hc wm_X9_126 yvX9_lays hob rfl rfl rfl hro hce hst hd kk
theorem cl_X9_122 (hc : CtI l G yX9_part cX9_part 3 .int fr lo [Value.ref b, a1, a2] Z d r0 d0) (hob : ob Z 9 b) (hro : fr + 1 ≤ R.frames ∧ 8 + (3 + 11) + lo ≤ R.locals) (hce : kc + 0 ≤ R.cells ∧ ns + 0 ≤ R.slots) (hst : (rest.map fun v => v.category).sum ≤ 8) (hd : decode cc pc = .ok (.invokevirtual 122, 3)) (kk : mGo l G R X RX9 cc nL kc ns Z (pc + 3) lv (.int r0 :: rest) d0) : mGo l G R X RX9 cc nL kc ns Z pc lv (a2 :: a1 :: Value.ref b :: rest) d := callVI (As := [a1, a2]) hc wm_X9_122 yvX9_part hob rfl rfl rfl hro hce hst hd kk
theorem cl_X9_129 (hc : CtI l G yX9_foretold cX9_foretold 12 .int fr lo [Value.ref b, a1, a2] Z d r0 d0) (hob : ob Z 9 b) (hro : fr + 1 ≤ R.frames ∧ 8 + (12 + 11) + lo ≤ R.locals) (hce : kc + 0 ≤ R.cells ∧ ns + 0 ≤ R.slots) (hst : (rest.map fun v => v.category).sum ≤ 8) (hd : decode cc pc = .ok (.invokevirtual 129, 3)) (kk : mGo l G R X RX9 cc nL kc ns Z (pc + 3) lv (.int r0 :: rest) d0) : mGo l G R X RX9 cc nL kc ns Z pc lv (a2 :: a1 :: Value.ref b :: rest) d := callVI (As := [a1, a2]) hc wm_X9_129 yvX9_foretold hob rfl rfl rfl hro hce hst hd kk
theorem cl_X9_132 (hc : CtI l G yX9_bitsOf cX9_bitsOf 3 .int fr lo [a1] Z d r0 d0) (hro : fr + 1 ≤ R.frames ∧ 8 + (3 + 11) + lo ≤ R.locals) (hce : kc + 0 ≤ R.cells ∧ ns + 0 ≤ R.slots) (hst : (rest.map fun v => v.category).sum ≤ 8) (hd : decode cc pc = .ok (.invokestatic 132, 3)) (kk : mGo l G R X RX9 cc nL kc ns Z (pc + 3) lv (.int r0 :: rest) d0) : mGo l G R X RX9 cc nL kc ns Z pc lv (a1 :: rest) d := callSI (As := [a1]) hc wm_X9_132 ysX9_bitsOf rfl hro hce hst hd kk
theorem cl_X9_156 (hc : CtI l G yX9_lacks cX9_lacks 3 .int fr lo [Value.ref b] Z d r0 d0) (hob : ob Z 9 b) (hro : fr + 1 ≤ R.frames ∧ 8 + (3 + 11) + lo ≤ R.locals) (hce : kc + 0 ≤ R.cells ∧ ns + 0 ≤ R.slots) (hst : (rest.map fun v => v.category).sum ≤ 8) (hd : decode cc pc = .ok (.invokevirtual 156, 3)) (kk : mGo l G R X RX9 cc nL kc ns Z (pc + 3) lv (.int r0 :: rest) d0) : mGo l G R X RX9 cc nL kc ns Z pc lv (Value.ref b :: rest) d := callVI (As := []) hc wm_X9_156 yvX9_lacks hob rfl rfl rfl hro hce hst hd kk
theorem cl_X9_135 (hc : CtI l G yX9_rebuiltAt cX9_rebuiltAt 4 .int fr lo [Value.ref b, a1, a2] Z d r0 d0) (hob : ob Z 9 b) (hro : fr + 1 ≤ R.frames ∧ 8 + (4 + 11) + lo ≤ R.locals) (hce : kc + 0 ≤ R.cells ∧ ns + 0 ≤ R.slots) (hst : (rest.map fun v => v.category).sum ≤ 8) (hd : decode cc pc = .ok (.invokevirtual 135, 3)) (kk : mGo l G R X RX9 cc nL kc ns Z (pc + 3) lv (.int r0 :: rest) d0) : mGo l G R X RX9 cc nL kc ns Z pc lv (a2 :: a1 :: Value.ref b :: rest) d := callVI (As := [a1, a2]) hc wm_X9_135 yvX9_rebuiltAt hob rfl rfl rfl hro hce hst hd kk
theorem cl_X9_159 (hc : CtI l G yX9_pan cX9_pan 7 .int fr lo [Value.ref b, a1] Z d r0 d0) (hob : ob Z 9 b) (hro : fr + 1 ≤ R.frames ∧ 8 + (7 + 11) + lo ≤ R.locals) (hce : kc + 0 ≤ R.cells ∧ ns + 0 ≤ R.slots) (hst : (rest.map fun v => v.category).sum ≤ 8) (hd : decode cc pc = .ok (.invokevirtual 159, 3)) (kk : mGo l G R X RX9 cc nL kc ns Z (pc + 3) lv (.int r0 :: rest) d0) : mGo l G R X RX9 cc nL kc ns Z pc lv (a1 :: Value.ref b :: rest) d := callVI (As := [a1]) hc wm_X9_159 yvX9_pan hob rfl rfl rfl hro hce hst hd kk
theorem cl_X9_163 (hc : CtI l G yX9_wrongs cX9_wrongs 3 .int fr lo [Value.ref b] Z d r0 d0) (hob : ob Z 9 b) (hro : fr + 1 ≤ R.frames ∧ 8 + (3 + 11) + lo ≤ R.locals) (hce : kc + 0 ≤ R.cells ∧ ns + 0 ≤ R.slots) (hst : (rest.map fun v => v.category).sum ≤ 8) (hd : decode cc pc = .ok (.invokevirtual 163, 3)) (kk : mGo l G R X RX9 cc nL kc ns Z (pc + 3) lv (.int r0 :: rest) d0) : mGo l G R X RX9 cc nL kc ns Z pc lv (Value.ref b :: rest) d := callVI (As := []) hc wm_X9_163 yvX9_wrongs hob rfl rfl rfl hro hce hst hd kk
theorem cl_X9_146 (hc : CtI l G yX9_quick cX9_quick 9 .int fr lo [Value.ref b, a1] Z d r0 d0) (hob : ob Z 9 b) (hro : fr + 1 ≤ R.frames ∧ 8 + (9 + 11) + lo ≤ R.locals) (hce : kc + 0 ≤ R.cells ∧ ns + 0 ≤ R.slots) (hst : (rest.map fun v => v.category).sum ≤ 8) (hd : decode cc pc = .ok (.invokevirtual 146, 3)) (kk : mGo l G R X RX9 cc nL kc ns Z (pc + 3) lv (.int r0 :: rest) d0) : mGo l G R X RX9 cc nL kc ns Z pc lv (a1 :: Value.ref b :: rest) d := callVI (As := [a1]) hc wm_X9_146 yvX9_quick hob rfl rfl rfl hro hce hst hd kk
theorem cl_X9_110 (hc : CtI l G yX9_halfCost cX9_halfCost 7 .int fr lo [Value.ref b, a1, a2] Z d r0 d0) (hob : ob Z 9 b) (hro : fr + 1 ≤ R.frames ∧ 8 + (7 + 11) + lo ≤ R.locals) (hce : kc + 0 ≤ R.cells ∧ ns + 0 ≤ R.slots) (hst : (rest.map fun v => v.category).sum ≤ 8) (hd : decode cc pc = .ok (.invokevirtual 110, 3)) (kk : mGo l G R X RX9 cc nL kc ns Z (pc + 3) lv (.int r0 :: rest) d0) : mGo l G R X RX9 cc nL kc ns Z pc lv (a2 :: a1 :: Value.ref b :: rest) d := callVI (As := [a1, a2]) hc wm_X9_110 yvX9_halfCost hob rfl rfl rfl hro hce hst hd kk
theorem cl_X9_105 (hc : CtI l G yX9_halfDot cX9_halfDot 6 .int fr lo [Value.ref b, a1, a2, a3] Z d r0 d0) (hob : ob Z 9 b) (hro : fr + 1 ≤ R.frames ∧ 8 + (6 + 11) + lo ≤ R.locals) (hce : kc + 0 ≤ R.cells ∧ ns + 0 ≤ R.slots) (hst : (rest.map fun v => v.category).sum ≤ 8) (hd : decode cc pc = .ok (.invokevirtual 105, 3)) (kk : mGo l G R X RX9 cc nL kc ns Z (pc + 3) lv (.int r0 :: rest) d0) : mGo l G R X RX9 cc nL kc ns Z pc lv (a3 :: a2 :: a1 :: Value.ref b :: rest) d := callVI (As := [a1, a2, a3]) hc wm_X9_105 yvX9_halfDot hob rfl rfl rfl hro hce hst hd kk
theorem cl_X9_180 (hc : CtI l G yX9_here cX9_here 1 .int fr lo [Value.ref b] Z d r0 d0) (hob : ob Z 9 b) (hro : fr + 1 ≤ R.frames ∧ 8 + (1 + 11) + lo ≤ R.locals) (hce : kc + 0 ≤ R.cells ∧ ns + 0 ≤ R.slots) (hst : (rest.map fun v => v.category).sum ≤ 8) (hd : decode cc pc = .ok (.invokevirtual 180, 3)) (kk : mGo l G R X RX9 cc nL kc ns Z (pc + 3) lv (.int r0 :: rest) d0) : mGo l G R X RX9 cc nL kc ns Z pc lv (Value.ref b :: rest) d := callVI (As := []) hc wm_X9_180 yvX9_here hob rfl rfl rfl hro hce hst hd kk
theorem cl_X9_185 (hc : CtI l G yX9_dots cX9_dots 4 .int fr lo [Value.ref b] Z d r0 d0) (hob : ob Z 9 b) (hro : fr + 1 ≤ R.frames ∧ 8 + (4 + 11) + lo ≤ R.locals) (hce : kc + 0 ≤ R.cells ∧ ns + 0 ≤ R.slots) (hst : (rest.map fun v => v.category).sum ≤ 8) (hd : decode cc pc = .ok (.invokevirtual 185, 3)) (kk : mGo l G R X RX9 cc nL kc ns Z (pc + 3) lv (.int r0 :: rest) d0) : mGo l G R X RX9 cc nL kc ns Z pc lv (Value.ref b :: rest) d := callVI (As := []) hc wm_X9_185 yvX9_dots hob rfl rfl rfl hro hce hst hd kk
theorem cl_X9_194 (hc : CtV l G yX9_notes cX9_notes 2 fr lo [Value.ref b] Z d d0) (hob : ob Z 9 b) (hro : fr + 1 ≤ R.frames ∧ 8 + (2 + 11) + lo ≤ R.locals) (hce : kc + 0 ≤ R.cells ∧ ns + 0 ≤ R.slots) (hst : (rest.map fun v => v.category).sum ≤ 8) (hd : decode cc pc = .ok (.invokevirtual 194, 3)) (kk : mGo l G R X RX9 cc nL kc ns Z (pc + 3) lv (rest) d0) : mGo l G R X RX9 cc nL kc ns Z pc lv (Value.ref b :: rest) d := callVV (As := []) hc wm_X9_194 yvX9_notes hob rfl rfl rfl hro hce hst hd kk
theorem cl_X9_210 (hc : CtI l G yX9_isBlock cX9_isBlock 1 .boolean fr lo [a1] Z d r0 d0) (hro : fr + 1 ≤ R.frames ∧ 8 + (1 + 11) + lo ≤ R.locals) (hce : kc + 0 ≤ R.cells ∧ ns + 0 ≤ R.slots) (hst : (rest.map fun v => v.category).sum ≤ 8) (hd : decode cc pc = .ok (.invokestatic 210, 3)) (kk : mGo l G R X RX9 cc nL kc ns Z (pc + 3) lv (.int r0 :: rest) d0) : mGo l G R X RX9 cc nL kc ns Z pc lv (a1 :: rest) d := callSI (As := [a1]) hc wm_X9_210 ysX9_isBlock rfl hro hce hst hd kk
theorem cl_X9_214 (hc : CtI l G yX9_isMove cX9_isMove 2 .boolean fr lo [a1] Z d r0 d0) (hro : fr + 1 ≤ R.frames ∧ 8 + (2 + 11) + lo ≤ R.locals) (hce : kc + 0 ≤ R.cells ∧ ns + 0 ≤ R.slots) (hst : (rest.map fun v => v.category).sum ≤ 8) (hd : decode cc pc = .ok (.invokestatic 214, 3)) (kk : mGo l G R X RX9 cc nL kc ns Z (pc + 3) lv (.int r0 :: rest) d0) : mGo l G R X RX9 cc nL kc ns Z pc lv (a1 :: rest) d := callSI (As := [a1]) hc wm_X9_214 ysX9_isMove rfl hro hce hst hd kk
theorem cl_X9_218 (hc : CtV l G yX9_tries cX9_tries 10 fr lo [Value.ref b, a1] Z d d0) (hob : ob Z 9 b) (hro : fr + 1 ≤ R.frames ∧ 8 + (10 + 11) + lo ≤ R.locals) (hce : kc + 0 ≤ R.cells ∧ ns + 0 ≤ R.slots) (hst : (rest.map fun v => v.category).sum ≤ 8) (hd : decode cc pc = .ok (.invokevirtual 218, 3)) (kk : mGo l G R X RX9 cc nL kc ns Z (pc + 3) lv (rest) d0) : mGo l G R X RX9 cc nL kc ns Z pc lv (a1 :: Value.ref b :: rest) d := callVV (As := [a1]) hc wm_X9_218 yvX9_tries hob rfl rfl rfl hro hce hst hd kk
theorem cl_X9_102 (hc : CtI l G yX9_sumsOff cX9_sumsOff 7 .int fr lo [Value.ref b, a1, a2] Z d r0 d0) (hob : ob Z 9 b) (hro : fr + 1 ≤ R.frames ∧ 8 + (7 + 11) + lo ≤ R.locals) (hce : kc + 0 ≤ R.cells ∧ ns + 0 ≤ R.slots) (hst : (rest.map fun v => v.category).sum ≤ 8) (hd : decode cc pc = .ok (.invokevirtual 102, 3)) (kk : mGo l G R X RX9 cc nL kc ns Z (pc + 3) lv (.int r0 :: rest) d0) : mGo l G R X RX9 cc nL kc ns Z pc lv (a2 :: a1 :: Value.ref b :: rest) d := callVI (As := [a1, a2]) hc wm_X9_102 yvX9_sumsOff hob rfl rfl rfl hro hce hst hd kk
theorem cl_X9_222 (hc : CtI l G yX9_half cX9_half 8 .int fr lo [Value.ref b, a1, a2] Z d r0 d0) (hob : ob Z 9 b) (hro : fr + 1 ≤ R.frames ∧ 8 + (8 + 11) + lo ≤ R.locals) (hce : kc + 0 ≤ R.cells ∧ ns + 0 ≤ R.slots) (hst : (rest.map fun v => v.category).sum ≤ 8) (hd : decode cc pc = .ok (.invokevirtual 222, 3)) (kk : mGo l G R X RX9 cc nL kc ns Z (pc + 3) lv (.int r0 :: rest) d0) : mGo l G R X RX9 cc nL kc ns Z pc lv (a2 :: a1 :: Value.ref b :: rest) d := callVI (As := [a1, a2]) hc wm_X9_222 yvX9_half hob rfl rfl rfl hro hce hst hd kk
theorem cl_X9_119 (hc : CtI l G yX9_halvedCost cX9_halvedCost 9 .int fr lo [Value.ref b, a1, a2, a3, a4] Z d r0 d0) (hob : ob Z 9 b) (hro : fr + 1 ≤ R.frames ∧ 8 + (9 + 11) + lo ≤ R.locals) (hce : kc + 0 ≤ R.cells ∧ ns + 0 ≤ R.slots) (hst : (rest.map fun v => v.category).sum ≤ 8) (hd : decode cc pc = .ok (.invokevirtual 119, 3)) (kk : mGo l G R X RX9 cc nL kc ns Z (pc + 3) lv (.int r0 :: rest) d0) : mGo l G R X RX9 cc nL kc ns Z pc lv (a4 :: a3 :: a2 :: a1 :: Value.ref b :: rest) d := callVI (As := [a1, a2, a3, a4]) hc wm_X9_119 yvX9_halvedCost hob rfl rfl rfl hro hce hst hd kk
theorem cl_X9_113 (hc : CtI l G yX9_halved cX9_halved 6 .int fr lo [Value.ref b, a1, a2, a3, a4] Z d r0 d0) (hob : ob Z 9 b) (hro : fr + 1 ≤ R.frames ∧ 8 + (6 + 11) + lo ≤ R.locals) (hce : kc + 0 ≤ R.cells ∧ ns + 0 ≤ R.slots) (hst : (rest.map fun v => v.category).sum ≤ 8) (hd : decode cc pc = .ok (.invokevirtual 113, 3)) (kk : mGo l G R X RX9 cc nL kc ns Z (pc + 3) lv (.int r0 :: rest) d0) : mGo l G R X RX9 cc nL kc ns Z pc lv (a4 :: a3 :: a2 :: a1 :: Value.ref b :: rest) d := callVI (As := [a1, a2, a3, a4]) hc wm_X9_113 yvX9_halved hob rfl rfl rfl hro hce hst hd kk
theorem cl_X9_227 (hc : CtI l G yX9_isSheet cX9_isSheet 1 .boolean fr lo [a1] Z d r0 d0) (hro : fr + 1 ≤ R.frames ∧ 8 + (1 + 11) + lo ≤ R.locals) (hce : kc + 0 ≤ R.cells ∧ ns + 0 ≤ R.slots) (hst : (rest.map fun v => v.category).sum ≤ 8) (hd : decode cc pc = .ok (.invokestatic 227, 3)) (kk : mGo l G R X RX9 cc nL kc ns Z (pc + 3) lv (.int r0 :: rest) d0) : mGo l G R X RX9 cc nL kc ns Z pc lv (a1 :: rest) d := callSI (As := [a1]) hc wm_X9_227 ysX9_isSheet rfl hro hce hst hd kk
theorem cl_X9_234 (hc : CtI l G yX9_why cX9_why 5 .int fr lo [Value.ref b, a1, a2, a3, a4] Z d r0 d0) (hob : ob Z 9 b) (hro : fr + 1 ≤ R.frames ∧ 8 + (5 + 11) + lo ≤ R.locals) (hce : kc + 0 ≤ R.cells ∧ ns + 0 ≤ R.slots) (hst : (rest.map fun v => v.category).sum ≤ 8) (hd : decode cc pc = .ok (.invokevirtual 234, 3)) (kk : mGo l G R X RX9 cc nL kc ns Z (pc + 3) lv (.int r0 :: rest) d0) : mGo l G R X RX9 cc nL kc ns Z pc lv (a4 :: a3 :: a2 :: a1 :: Value.ref b :: rest) d := callVI (As := [a1, a2, a3, a4]) hc wm_X9_234 yvX9_why hob rfl rfl rfl hro hce hst hd kk
theorem cl_X9_237 (hc : CtL l G yX9_cut cX9_cut 3 fr lo [a1, a2] Z d rL d0) (hro : fr + 1 ≤ R.frames ∧ 8 + (3 + 11) + lo ≤ R.locals) (hce : kc + 0 ≤ R.cells ∧ ns + 0 ≤ R.slots) (hst : (rest.map fun v => v.category).sum ≤ 8) (hd : decode cc pc = .ok (.invokestatic 237, 3)) (kk : mGo l G R X RX9 cc nL kc ns Z (pc + 3) lv (.long rL :: rest) d0) : mGo l G R X RX9 cc nL kc ns Z pc lv (a2 :: a1 :: rest) d := callSL (As := [a1, a2]) hc wm_X9_237 ysX9_cut rfl hro hce hst hd kk
end
end
section
def mB (p : Prop) [Decidable p] : Int32 := if p then 1 else 0
theorem narB (p : Prop) [Decidable p] : narrow .boolean (.int (mB p)) = .int (mB p) := by unfold mB; split <;> decide
theorem mB_1 {p : Prop} [Decidable p] (h : p) : mB p = 1 := if_pos h
theorem mB_0 {p : Prop} [Decidable p] (h : ¬ p) : mB p = 0 := if_neg h
theorem mB_eq0 {p : Prop} [Decidable p] : mB p = 0 ↔ ¬ p := by unfold mB; split <;> simp_all
theorem mB_ne0 {p : Prop} [Decidable p] : ¬ mB p = 0 ↔ p := by unfold mB; split <;> simp_all
/-- fewer known locals -/
def mLe : List (Option Value) → List (Option Value) → Prop
  | [], [] => True
  | none :: a, _ :: b => mLe a b
  | some v :: a, o :: b => o = some v ∧ mLe a b
  | _, _ => False
theorem mLe_get : ∀ (a b : List (Option Value)), mLe a b → a.length = b.length ∧ ∀ (k : Nat) (v : Value), a[k]? = some (some v) → b[k]? = some (some v)
  | [], [], _ => ⟨rfl, fun k v h => by simp at h⟩
  | [], _ :: _, h => by simp [mLe] at h
  | none :: a, o :: b, h => by
    have ih := mLe_get a b h
    refine ⟨by simp [ih.1], fun k v hk => ?_⟩
    cases k with
    | zero => simp at hk
    | succ k => simpa using ih.2 k v (by simpa using hk)
  | some w :: a, o :: b, h => by
    have ih := mLe_get a b h.2
    refine ⟨by simp [ih.1], fun k v hk => ?_⟩
    cases k with
    | zero => rw [h.1]; simpa using hk
    | succ k => simpa using ih.2 k v (by simpa using hk)
  | none :: _, [], h => by simp [mLe] at h
  | some _ :: _, [], h => by simp [mLe] at h
theorem mWk {l : Launch} {G : mG} {R : Room} {X : mF} {own : String} {cc : ByteArray} {nL kc ns : Nat} {Z : mZ} {pc : Nat} {lv lv' : List (Option Value)} {st : List Value} {d : mD} (h : mLe lv' lv) (kk : mGo l G R X own cc nL kc ns Z pc lv' st d) : mGo l G R X own cc nL kc ns Z pc lv st d := fun C H locs ls hW hL => by
  obtain ⟨h1, h2⟩ := mLe_get lv' lv h
  exact kk C H locs ls hW ⟨hL.1, hL.2.1, by rw [h1]; exact hL.2.2.1, fun k v hk => hL.2.2.2 k v (h2 k v hk)⟩
theorem mLe_rf : ∀ (a : List (Option Value)), mLe a a
  | [] => trivial
  | none :: a => mLe_rf a
  | some v :: a => ⟨rfl, mLe_rf a⟩
theorem mLe_set : ∀ (i : Nat) (a : List (Option Value)), mLe (a.set i none) a
  | _, [] => trivial
  | 0, o :: a => mLe_rf a
  | i + 1, none :: a => mLe_set i a
  | i + 1, some v :: a => ⟨rfl, mLe_set i a⟩
section
variable {l : Launch} {G : mG} {R : Room} {X : mF} {own : String} {cc : ByteArray} {nL kc ns : Nat} {Z : mZ} {pc : Nat} {rest : List Value} {d : mD}
theorem dr0 {o0 : Option Value} {rq : List (Option Value)} (kk : mGo l G R X own cc nL kc ns Z pc (none :: rq) rest d) : mGo l G R X own cc nL kc ns Z pc (o0 :: rq) rest d := mWk (mLe_set 0 (o0 :: rq)) kk
theorem dr1 {o0 o1 : Option Value} {rq : List (Option Value)} (kk : mGo l G R X own cc nL kc ns Z pc (o0 :: none :: rq) rest d) : mGo l G R X own cc nL kc ns Z pc (o0 :: o1 :: rq) rest d := mWk (mLe_set 1 (o0 :: o1 :: rq)) kk
theorem dr2 {o0 o1 o2 : Option Value} {rq : List (Option Value)} (kk : mGo l G R X own cc nL kc ns Z pc (o0 :: o1 :: none :: rq) rest d) : mGo l G R X own cc nL kc ns Z pc (o0 :: o1 :: o2 :: rq) rest d := mWk (mLe_set 2 (o0 :: o1 :: o2 :: rq)) kk
theorem dr3 {o0 o1 o2 o3 : Option Value} {rq : List (Option Value)} (kk : mGo l G R X own cc nL kc ns Z pc (o0 :: o1 :: o2 :: none :: rq) rest d) : mGo l G R X own cc nL kc ns Z pc (o0 :: o1 :: o2 :: o3 :: rq) rest d := mWk (mLe_set 3 (o0 :: o1 :: o2 :: o3 :: rq)) kk
theorem dr4 {o0 o1 o2 o3 o4 : Option Value} {rq : List (Option Value)} (kk : mGo l G R X own cc nL kc ns Z pc (o0 :: o1 :: o2 :: o3 :: none :: rq) rest d) : mGo l G R X own cc nL kc ns Z pc (o0 :: o1 :: o2 :: o3 :: o4 :: rq) rest d := mWk (mLe_set 4 (o0 :: o1 :: o2 :: o3 :: o4 :: rq)) kk
theorem dr5 {o0 o1 o2 o3 o4 o5 : Option Value} {rq : List (Option Value)} (kk : mGo l G R X own cc nL kc ns Z pc (o0 :: o1 :: o2 :: o3 :: o4 :: none :: rq) rest d) : mGo l G R X own cc nL kc ns Z pc (o0 :: o1 :: o2 :: o3 :: o4 :: o5 :: rq) rest d := mWk (mLe_set 5 (o0 :: o1 :: o2 :: o3 :: o4 :: o5 :: rq)) kk
theorem dr6 {o0 o1 o2 o3 o4 o5 o6 : Option Value} {rq : List (Option Value)} (kk : mGo l G R X own cc nL kc ns Z pc (o0 :: o1 :: o2 :: o3 :: o4 :: o5 :: none :: rq) rest d) : mGo l G R X own cc nL kc ns Z pc (o0 :: o1 :: o2 :: o3 :: o4 :: o5 :: o6 :: rq) rest d := mWk (mLe_set 6 (o0 :: o1 :: o2 :: o3 :: o4 :: o5 :: o6 :: rq)) kk
theorem dr7 {o0 o1 o2 o3 o4 o5 o6 o7 : Option Value} {rq : List (Option Value)} (kk : mGo l G R X own cc nL kc ns Z pc (o0 :: o1 :: o2 :: o3 :: o4 :: o5 :: o6 :: none :: rq) rest d) : mGo l G R X own cc nL kc ns Z pc (o0 :: o1 :: o2 :: o3 :: o4 :: o5 :: o6 :: o7 :: rq) rest d := mWk (mLe_set 7 (o0 :: o1 :: o2 :: o3 :: o4 :: o5 :: o6 :: o7 :: rq)) kk
theorem dr8 {o0 o1 o2 o3 o4 o5 o6 o7 o8 : Option Value} {rq : List (Option Value)} (kk : mGo l G R X own cc nL kc ns Z pc (o0 :: o1 :: o2 :: o3 :: o4 :: o5 :: o6 :: o7 :: none :: rq) rest d) : mGo l G R X own cc nL kc ns Z pc (o0 :: o1 :: o2 :: o3 :: o4 :: o5 :: o6 :: o7 :: o8 :: rq) rest d := mWk (mLe_set 8 (o0 :: o1 :: o2 :: o3 :: o4 :: o5 :: o6 :: o7 :: o8 :: rq)) kk
theorem dr9 {o0 o1 o2 o3 o4 o5 o6 o7 o8 o9 : Option Value} {rq : List (Option Value)} (kk : mGo l G R X own cc nL kc ns Z pc (o0 :: o1 :: o2 :: o3 :: o4 :: o5 :: o6 :: o7 :: o8 :: none :: rq) rest d) : mGo l G R X own cc nL kc ns Z pc (o0 :: o1 :: o2 :: o3 :: o4 :: o5 :: o6 :: o7 :: o8 :: o9 :: rq) rest d := mWk (mLe_set 9 (o0 :: o1 :: o2 :: o3 :: o4 :: o5 :: o6 :: o7 :: o8 :: o9 :: rq)) kk
theorem dr10 {o0 o1 o2 o3 o4 o5 o6 o7 o8 o9 o10 : Option Value} {rq : List (Option Value)} (kk : mGo l G R X own cc nL kc ns Z pc (o0 :: o1 :: o2 :: o3 :: o4 :: o5 :: o6 :: o7 :: o8 :: o9 :: none :: rq) rest d) : mGo l G R X own cc nL kc ns Z pc (o0 :: o1 :: o2 :: o3 :: o4 :: o5 :: o6 :: o7 :: o8 :: o9 :: o10 :: rq) rest d := mWk (mLe_set 10 (o0 :: o1 :: o2 :: o3 :: o4 :: o5 :: o6 :: o7 :: o8 :: o9 :: o10 :: rq)) kk
theorem dr11 {o0 o1 o2 o3 o4 o5 o6 o7 o8 o9 o10 o11 : Option Value} {rq : List (Option Value)} (kk : mGo l G R X own cc nL kc ns Z pc (o0 :: o1 :: o2 :: o3 :: o4 :: o5 :: o6 :: o7 :: o8 :: o9 :: o10 :: none :: rq) rest d) : mGo l G R X own cc nL kc ns Z pc (o0 :: o1 :: o2 :: o3 :: o4 :: o5 :: o6 :: o7 :: o8 :: o9 :: o10 :: o11 :: rq) rest d := mWk (mLe_set 11 (o0 :: o1 :: o2 :: o3 :: o4 :: o5 :: o6 :: o7 :: o8 :: o9 :: o10 :: o11 :: rq)) kk
theorem dr12 {o0 o1 o2 o3 o4 o5 o6 o7 o8 o9 o10 o11 o12 : Option Value} {rq : List (Option Value)} (kk : mGo l G R X own cc nL kc ns Z pc (o0 :: o1 :: o2 :: o3 :: o4 :: o5 :: o6 :: o7 :: o8 :: o9 :: o10 :: o11 :: none :: rq) rest d) : mGo l G R X own cc nL kc ns Z pc (o0 :: o1 :: o2 :: o3 :: o4 :: o5 :: o6 :: o7 :: o8 :: o9 :: o10 :: o11 :: o12 :: rq) rest d := mWk (mLe_set 12 (o0 :: o1 :: o2 :: o3 :: o4 :: o5 :: o6 :: o7 :: o8 :: o9 :: o10 :: o11 :: o12 :: rq)) kk
theorem dr13 {o0 o1 o2 o3 o4 o5 o6 o7 o8 o9 o10 o11 o12 o13 : Option Value} {rq : List (Option Value)} (kk : mGo l G R X own cc nL kc ns Z pc (o0 :: o1 :: o2 :: o3 :: o4 :: o5 :: o6 :: o7 :: o8 :: o9 :: o10 :: o11 :: o12 :: none :: rq) rest d) : mGo l G R X own cc nL kc ns Z pc (o0 :: o1 :: o2 :: o3 :: o4 :: o5 :: o6 :: o7 :: o8 :: o9 :: o10 :: o11 :: o12 :: o13 :: rq) rest d := mWk (mLe_set 13 (o0 :: o1 :: o2 :: o3 :: o4 :: o5 :: o6 :: o7 :: o8 :: o9 :: o10 :: o11 :: o12 :: o13 :: rq)) kk
end
theorem kl0 : Int64.ofNat ((0 : Fin 2) : Nat) = 0 := by decide
theorem kl1 : Int64.ofNat ((1 : Fin 2) : Nat) = 1 := by decide
theorem ks192 : (Int16.ofInt 192).toInt32 = 192 := by decide +kernel
theorem ks193 : (Int16.ofInt 193).toInt32 = 193 := by decide +kernel
theorem ks194 : (Int16.ofInt 194).toInt32 = 194 := by decide +kernel
theorem ks1552 : (Int16.ofInt 1552).toInt32 = 1552 := by decide +kernel
/-! ===== numbers ===== -/
theorem ma_lt (a b : Int32) : a < b ↔ a.toInt < b.toInt := Int32.lt_iff_toInt_lt
theorem ma_le (a b : Int32) : a ≤ b ↔ a.toInt ≤ b.toInt := Int32.le_iff_toInt_le
theorem ma_eq (a b : Int32) : a = b ↔ a.toInt = b.toInt := ⟨fun h => by rw [h], fun h => Int32.toInt_inj.mp h⟩
theorem ma_rng (x : Int32) : -2147483648 ≤ x.toInt ∧ x.toInt < 2147483648 := ⟨by simpa using Int32.le_toInt x, by simpa using Int32.toInt_lt x⟩
theorem nI_lit (n : Nat) : (OfNat.ofNat n : Int32) = nI n := rfl
/-- a number held between 0 and m -/
def clN (v : Int32) (m : Nat) : Nat := if v < 0 then 0 else if nI m < v then m else v.toNatClampNeg
theorem clN_le (v : Int32) {m : Nat} (hm : m < 2 ^ 31) : clN v m ≤ m := by
  unfold clN
  split
  · omega
  · split
    · omega
    · next h1 h2 =>
      rw [ma_lt, nI_toInt hm] at h2
      unfold Int32.toNatClampNeg
      omega
theorem nI_clN (v : Int32) {m : Nat} (hm : m < 2 ^ 31) : nI (clN v m) = if v < 0 then 0 else if nI m < v then nI m else v := by
  unfold clN
  split
  · rfl
  · split
    · rfl
    · next h1 h2 =>
      obtain ⟨j, hj, rfl⟩ := nI_of h1
      rw [nI_clamp hj]
theorem clN_mm (v : Int32) {m : Nat} (hm : m < 2 ^ 31) : mMax 0 (mMin (nI m) v) = nI (clN v m) := by
  rw [nI_clN v hm]
  have h0 : (0 : Int32).toInt = 0 := by decide
  unfold mMax mMin
  by_cases h1 : v < 0
  · rw [if_pos h1]
    have h2 : v < nI m := by rw [ma_lt, nI_toInt hm]; rw [ma_lt, h0] at h1; omega
    rw [if_pos h2, if_neg]
    rw [ma_lt, h0]; rw [ma_lt, h0] at h1; omega
  · rw [if_neg h1]
    by_cases h2 : nI m < v
    · have h9 : ¬ v < nI m := by rw [ma_lt]; rw [ma_lt] at h2; omega
      rw [if_pos h2]
      simp only [if_neg h9]
      split
      · rfl
      · next h3 => rw [ma_eq, h0, nI_toInt hm]; rw [ma_lt, h0, nI_toInt hm] at h3; omega
    · rw [if_neg h2]
      have key : ∀ w : Int32, ¬ w < 0 → (if 0 < w then w else 0) = w := fun w hw => by
        split
        · rfl
        · next h3 => rw [ma_eq, h0]; rw [ma_lt, h0] at h3 hw; omega
      by_cases h4 : v < nI m
      · rw [if_pos h4]; exact key v h1
      · rw [if_neg h4]
        have h5 : nI m = v := by rw [ma_eq]; rw [ma_lt] at h2 h4; omega
        rw [h5]; exact key v h1
/-- a dot of a picture, beyond the edge the nearest one -/
def pix (f : Nat → Int32) (c r : Int32) : Int32 := f (12 * clN r 7 + clN c 11)
/-! ===== words of the system ===== -/
def xOfI (m : Int32) : Int32 := mRem m 7 - 3
def yOfI (m : Int32) : Int32 := m / 7 - 3
def farI (m : Int32) : Int32 := mAbs (xOfI m) + mAbs (yOfI m)
def colI (b : Int32) : Int32 := mRem b 3 * 4
def rowI (b : Int32) : Int32 := b / 3 * 4
def blkI (c r : Int32) : Int32 := r / 4 * 3 + c / 4
def movI (x y : Int32) : Int32 := 7 * (y + 3) + x + 3
def powI (b : Int32) : Nat → Int32 → Int32
  | 0, p => p
  | n + 1, p => powI b n (p * b)
def gcdI : Nat → Int32 → Int32 → Int32
  | 0, a, _ => a
  | n + 1, a, b => if b = 0 then a else gcdI n b (mRem a b)
abbrev wthn (v lo hi : Int32) : Prop := lo ≤ v ∧ v ≤ hi
theorem ks12345 : (Int16.ofInt 12345).toInt32 = 12345 := by decide +kernel
section
variable {l : Launch} {G : mG} {R : Room} {X : mF} {own : String} {cc : ByteArray} {nL kc ns : Nat} {Z : mZ} {pc : Nat} {lv : List (Option Value)} {rest : List Value} {d : mD}
theorem g_cpI {ix sa da n0 n1 : Nat} {sp dp nn : Int32} (jp jd jn : Nat) (hlk : Cond.methodLink own ix arraycopyName ∈ AW) (h0 : ar Z 10 sa n0) (h1 : ar Z 10 da n1) (e1 : sp = nI jp) (e2 : dp = nI jd) (e3 : nn = nI jn) (b0 : n0 < 2 ^ 31) (b1 : n1 < 2 ^ 31) (l0 : jp + jn ≤ n0) (l1 : jd + jn ≤ n1) (hfr : 1 ≤ R.frames) (hlo : (rest.map fun v => v.category).sum + (nativeFrameWords "java/lang/System" "arraycopy" 5 + 11) ≤ R.locals) (hd : decode cc pc = .ok (.invokestatic ix, 3))
    (kk : mGo l G R X own cc nL kc ns Z (pc + 3) lv rest (tA d da (va_cpy (gA d sa) (gA d da) jp jd jn))) : mGo l G R X own cc nL kc ns Z pc lv (.int nn :: .int dp :: .ref da :: .int sp :: .ref sa :: rest) d := by
  intro C9 H locs ls hW hL
  obtain ⟨k8, hk8⟩ := mP_at (d := d) h0.1 (wE_ar (G := G) h0)
  obtain ⟨k9, hk9⟩ := mP_at (d := d) h1.1 (wE_ar (G := G) h1)
  obtain ⟨hx, hb, hml, hown, hA, hN, hK, hO, hq⟩ := id C9
  subst e1; subst e2; subst e3
  have z1 : (nI jp).toNatClampNeg = jp := nI_clamp (by omega)
  have z2 : (nI jd).toNatClampNeg = jd := nI_clamp (by omega)
  have z3 : (nI jn).toNatClampNeg = jn := nI_clamp (by omega)
  refine va_copyi hx hb (hml.trans hL.1.symm) hown (hA _ hlk) (hA _ w_ncp) (hA _ w_scp) (hA _ w_iSys) hK hW.1 hW.2.1 hW.2.2 k8 k9 0 0 hk8 hk9 rfl rfl rfl (nI_pos (by omega)) (nI_pos (by omega)) (nI_pos (by omega)) (by rw [z1, z3]; exact l0) (by rw [z2, z3]; exact l1) (fun _ _ => rfl) hfr hlo hd (fun H1 locs1 hP1 hD1 hS1 => ?_)
  rw [z1, z2, z3] at hP1 hD1
  have e9 := mP_set (Z' := Z) (d' := tA d da (va_cpy (gA d sa) (gA d da) jp jd jn)) hW.2.1 h1.1 hk9 (wE_ar h1) rfl (wE_ar h1) (fun b hb => wE_tA hb)
  rw [gA_tA, if_pos rfl] at e9
  rw [e9] at hP1 hD1
  exact kk C9 H1 locs1 ls ⟨hP1, hD1, hS1⟩ hL
theorem g_cpJ {ix sa da n0 n1 : Nat} {sp dp nn : Int32} (jp jd jn : Nat) (hlk : Cond.methodLink own ix arraycopyName ∈ AW) (h0 : ar Z 11 sa n0) (h1 : ar Z 11 da n1) (e1 : sp = nI jp) (e2 : dp = nI jd) (e3 : nn = nI jn) (b0 : n0 < 2 ^ 31) (b1 : n1 < 2 ^ 31) (l0 : jp + jn ≤ n0) (l1 : jd + jn ≤ n1) (hfr : 1 ≤ R.frames) (hlo : (rest.map fun v => v.category).sum + (nativeFrameWords "java/lang/System" "arraycopy" 5 + 11) ≤ R.locals) (hd : decode cc pc = .ok (.invokestatic ix, 3))
    (kk : mGo l G R X own cc nL kc ns Z (pc + 3) lv rest (tJ d da (va_cpy (gJ d sa) (gJ d da) jp jd jn))) : mGo l G R X own cc nL kc ns Z pc lv (.int nn :: .int dp :: .ref da :: .int sp :: .ref sa :: rest) d := by
  intro C9 H locs ls hW hL
  obtain ⟨k8, hk8⟩ := mP_at (d := d) h0.1 (wE_arJ (G := G) h0)
  obtain ⟨k9, hk9⟩ := mP_at (d := d) h1.1 (wE_arJ (G := G) h1)
  obtain ⟨hx, hb, hml, hown, hA, hN, hK, hO, hq⟩ := id C9
  subst e1; subst e2; subst e3
  have z1 : (nI jp).toNatClampNeg = jp := nI_clamp (by omega)
  have z2 : (nI jd).toNatClampNeg = jd := nI_clamp (by omega)
  have z3 : (nI jn).toNatClampNeg = jn := nI_clamp (by omega)
  refine va_copyl hx hb (hml.trans hL.1.symm) hown (hA _ hlk) (hA _ w_ncp) (hA _ w_scp) (hA _ w_iSys) hK hW.1 hW.2.1 hW.2.2 k8 k9 1 1 hk8 hk9 rfl rfl rfl (nI_pos (by omega)) (nI_pos (by omega)) (nI_pos (by omega)) (by rw [z1, z3]; exact l0) (by rw [z2, z3]; exact l1) (fun _ _ => rfl) hfr hlo hd (fun H1 locs1 hP1 hD1 hS1 => ?_)
  rw [z1, z2, z3] at hP1 hD1
  have e9 := mP_set (Z' := Z) (d' := tJ d da (va_cpy (gJ d sa) (gJ d da) jp jd jn)) hW.2.1 h1.1 hk9 (wE_arJ h1) rfl (wE_arJ h1) (fun b hb => wE_tJ hb)
  rw [gJ_tJ, if_pos rfl] at e9
  rw [e9] at hP1 hD1
  exact kk C9 H1 locs1 ls ⟨hP1, hD1, hS1⟩ hL
end
def pic (Z : mZ) (p a : Nat) : Prop := ob Z 2 p ∧ rf Z 64 p = some a ∧ ar Z 10 a 96
/-- a scene: its pictures and their rows -/
def scn (Z : mZ) (s p q a b : Nat) : Prop := ob Z 3 s ∧ rf Z 96 s = some p ∧ rf Z 97 s = some q ∧ pic Z p a ∧ pic Z q b
def sht (Z : mZ) (h a : Nat) : Prop := ob Z 5 h ∧ rf Z 160 h = some a ∧ ar Z 11 a 24
theorem pix_ix (c r : Int32) : nI (clN r 7) * 12 + nI (clN c 11) = nI (12 * clN r 7 + clN c 11) := by
  rw [show (12 : Int32) = nI 12 from rfl, pk_mul, nI_add, Nat.mul_comm]
theorem pix_lt (c r : Int32) : 12 * clN r 7 + clN c 11 < 96 := by
  have h1 := clN_le r (m := 7) (by omega)
  have h2 := clN_le c (m := 11) (by omega)
  omega
/-- how many of n places from i on are so -/
def cntL (p : Nat → Bool) : Nat → Nat → Int32 → Int32
  | 0, _, acc => acc
  | n + 1, i, acc => cntL p n (i + 1) (if p i then acc + 1 else acc)
/-- a dot of the picture of half the size -/
def hpix (f : Nat → Int32) (c r : Int32) : Int32 :=
  (f (24 * clN r 3 + 2 * clN c 5) + f (24 * clN r 3 + 2 * clN c 5 + 1) + f (24 * clN r 3 + 2 * clN c 5 + 12) + f (24 * clN r 3 + 2 * clN c 5 + 12 + 1)) / 4
theorem hpix_lt (c r : Int32) : 24 * clN r 3 + 2 * clN c 5 + 13 < 96 := by
  have h1 := clN_le r (m := 3) (by omega)
  have h2 := clN_le c (m := 5) (by omega)
  omega
theorem hpix_ix (c r : Int32) : 2 * nI (clN r 3) * 12 + 2 * nI (clN c 5) = nI (24 * clN r 3 + 2 * clN c 5) := by
  rw [show (12 : Int32) = nI 12 from rfl, show (2 : Int32) = nI 2 from rfl, pk_mul, pk_mul, pk_mul, nI_add]
  congr 1
  omega
/-- the draw, one turn on -/
def drwI (v : Int32) : Int32 := v * 1103515245 + 12345 &&& 2147483647
def drwN (v : Int32) : Nat := (drwI v).toNatClampNeg
theorem drw_nI (v : Int32) : drwI v = nI (drwN v) ∧ drwN v < 2 ^ 31 := by
  obtain ⟨j, hj, e⟩ := pk_andE (v * 1103515245 + 12345) (m := 2147483647) 31 (by decide +kernel)
  have e2 : drwN v = j := by
    show (drwI v).toNatClampNeg = j
    rw [show drwI v = nI j from e, nI_clamp hj]
  exact ⟨by rw [e2]; exact e, by rw [e2]; exact hj⟩
def turF (f : Nat → Int32) (v : Int32) : Nat → Int32 := upd f (drwN v / 65536 % 96) (nI (drwN v / 65536 / 96 % 10))
abbrev spn (sz i n : Int32) : Prop := 0 ≤ i ∧ 0 ≤ n ∧ i ≤ sz ∧ n ≤ sz - i
def refI (held lane size asl i n : Int32) : Int32 := if held = 0 then -1000011 else if lane = asl then (if spn size i n then 0 else -1000013) else -1000012
def cutL (lane : Int32) (v : Int64) : Int64 := if lane = 0 then v.toInt32.toInt8.toInt32.toInt64 else if lane = 1 then v.toInt32.toInt16.toInt32.toInt64 else if lane = 2 then v.toInt32.toInt64 else v
/-- n places from i on become v -/
def filJ (v : Int64) (f : Nat → Int64) : Nat → Nat → Nat → Int64
  | 0, _ => f
  | n + 1, i => filJ v (vp_updL f i v) n (i + 1)
end
section
theorem c_X8_isWithin {l : Launch} {G : mG} {Z : mZ} {d : mD} {v lo hi : Int32} : CtI l G yX8_isWithin cX8_isWithin 3 .boolean 0 0 [.int v, .int lo, .int hi] Z d (mB (wthn v lo hi)) d := by
  refine enterI RX8 0 [some (.int v), some (.int lo), some (.int hi)] (by decide) rfl (narB _) rfl rfl (fun X hR => ?_)
  refine il0 (pc := 0) dX8_isWithin_0 ?_
  refine il1 (pc := 1) dX8_isWithin_1 ?_
  refine g_icmplt 14 (pc := 2) dX8_isWithin_2 (by decide) (fun c2 => ?_) (fun c2 => ?_)
  · skip
    refine g_iconst (pc := 14) dX8_isWithin_14 kc0 ?_
    exact retI (pc := 15) hR dX8_isWithin_15 (by simp [mB, wthn, ← Int32.not_lt, c2]) (rfl)
  · skip
    refine il0 (pc := 5) dX8_isWithin_5 ?_
    refine il2 (pc := 6) dX8_isWithin_6 ?_
    refine g_icmpgt 14 (pc := 7) dX8_isWithin_7 (by decide) (fun c7 => ?_) (fun c7 => ?_)
    · skip
      refine g_iconst (pc := 14) dX8_isWithin_14 kc0 ?_
      exact retI (pc := 15) hR dX8_isWithin_15 (by simp [mB, wthn, ← Int32.not_lt, c2, c7]) (rfl)
    · skip
      refine g_iconst (pc := 10) dX8_isWithin_10 kc1 ?_
      refine g_goto 15 (pc := 11) dX8_isWithin_11 (by decide) ?_
      exact retI (pc := 15) hR dX8_isWithin_15 (by simp [mB, wthn, ← Int32.not_lt, c2, c7]) (rfl)
theorem c_X8_isInPicture {l : Launch} {G : mG} {Z : mZ} {d : mD} {c r : Int32} : CtI l G yX8_isInPicture cX8_isInPicture 2 .boolean 1 22 [.int c, .int r] Z d (mB (wthn c 0 11 ∧ wthn r 0 7)) d := by
  refine enterI RX8 0 [some (.int c), some (.int r)] (by decide) rfl (narB _) rfl rfl (fun X hR => ?_)
  refine il0 (pc := 0) dX8_isInPicture_0 ?_
  refine g_iconst (pc := 1) dX8_isInPicture_1 kc0 ?_
  refine g_bipush (pc := 2) dX8_isInPicture_2 kb11 ?_
  refine cl_X8_105 (pc := 4) (c_X8_isWithin) (by decide) ⟨Nat.zero_le _, Nat.zero_le _⟩ (Nat.le_of_ble_eq_true rfl) dX8_isInPicture_4 ?_
  refine g_ifeq 24 (pc := 7) dX8_isInPicture_7 (by decide) (fun c7 => ?_) (fun c7 => ?_)
  · skip
    refine g_iconst (pc := 24) dX8_isInPicture_24 kc0 ?_
    exact retI (pc := 25) hR dX8_isInPicture_25 (by simp only [mB_eq0, mB_ne0] at c7; simp [mB, c7]) (rfl)
  · skip
    refine il1 (pc := 10) dX8_isInPicture_10 ?_
    refine g_iconst (pc := 11) dX8_isInPicture_11 kc0 ?_
    refine g_bipush (pc := 12) dX8_isInPicture_12 kb7 ?_
    refine cl_X8_105 (pc := 14) (c_X8_isWithin) (by decide) ⟨Nat.zero_le _, Nat.zero_le _⟩ (Nat.le_of_ble_eq_true rfl) dX8_isInPicture_14 ?_
    refine g_ifeq 24 (pc := 17) dX8_isInPicture_17 (by decide) (fun c17 => ?_) (fun c17 => ?_)
    · skip
      refine g_iconst (pc := 24) dX8_isInPicture_24 kc0 ?_
      exact retI (pc := 25) hR dX8_isInPicture_25 (by simp only [mB_eq0, mB_ne0] at c7 c17; simp [mB, c7, c17]) (rfl)
    · skip
      refine g_iconst (pc := 20) dX8_isInPicture_20 kc1 ?_
      refine g_goto 25 (pc := 21) dX8_isInPicture_21 (by decide) ?_
      exact retI (pc := 25) hR dX8_isInPicture_25 (by simp only [mB_eq0, mB_ne0] at c7 c17; simp [mB, c7, c17]) (rfl)
theorem c_X8_isSheet {l : Launch} {G : mG} {Z : mZ} {d : mD} {v : Int32} : CtI l G yX8_isSheet cX8_isSheet 1 .boolean 1 22 [.int v] Z d (mB (wthn v 0 3)) d := by
  refine enterI RX8 0 [some (.int v)] (by decide) rfl (narB _) rfl rfl (fun X hR => ?_)
  refine il0 (pc := 0) dX8_isSheet_0 ?_
  refine g_iconst (pc := 1) dX8_isSheet_1 kc0 ?_
  refine g_iconst (pc := 2) dX8_isSheet_2 kc3 ?_
  refine cl_X8_105 (pc := 3) (c_X8_isWithin) (by decide) ⟨Nat.zero_le _, Nat.zero_le _⟩ (Nat.le_of_ble_eq_true rfl) dX8_isSheet_3 ?_
  exact retI (pc := 6) hR dX8_isSheet_6 (rfl) (rfl)
theorem c_X8_isLane {l : Launch} {G : mG} {Z : mZ} {d : mD} {v : Int32} : CtI l G yX8_isLane cX8_isLane 1 .boolean 1 22 [.int v] Z d (mB (wthn v 0 3)) d := by
  refine enterI RX8 0 [some (.int v)] (by decide) rfl (narB _) rfl rfl (fun X hR => ?_)
  refine il0 (pc := 0) dX8_isLane_0 ?_
  refine g_iconst (pc := 1) dX8_isLane_1 kc0 ?_
  refine g_iconst (pc := 2) dX8_isLane_2 kc3 ?_
  refine cl_X8_105 (pc := 3) (c_X8_isWithin) (by decide) ⟨Nat.zero_le _, Nat.zero_le _⟩ (Nat.le_of_ble_eq_true rfl) dX8_isLane_3 ?_
  exact retI (pc := 6) hR dX8_isLane_6 (rfl) (rfl)
theorem c_X8_xOf {l : Launch} {G : mG} {Z : mZ} {d : mD} {v : Int32} : CtI l G yX8_xOf cX8_xOf 1 .int 0 0 [.int v] Z d (xOfI v) d := by
  refine enterI RX8 0 [some (.int v)] (by decide) rfl (rfl) rfl rfl (fun X hR => ?_)
  refine il0 (pc := 0) dX8_xOf_0 ?_
  refine g_bipush (pc := 1) dX8_xOf_1 kb7 ?_
  refine g_irem (pc := 3) dX8_xOf_3 (by decide) ?_
  refine g_iconst (pc := 4) dX8_xOf_4 kc3 ?_
  refine g_isub (pc := 5) dX8_xOf_5 ?_
  exact retI (pc := 6) hR dX8_xOf_6 (rfl) (rfl)
theorem c_X8_yOf {l : Launch} {G : mG} {Z : mZ} {d : mD} {v : Int32} : CtI l G yX8_yOf cX8_yOf 1 .int 0 0 [.int v] Z d (yOfI v) d := by
  refine enterI RX8 0 [some (.int v)] (by decide) rfl (rfl) rfl rfl (fun X hR => ?_)
  refine il0 (pc := 0) dX8_yOf_0 ?_
  refine g_bipush (pc := 1) dX8_yOf_1 kb7 ?_
  refine g_idiv (pc := 3) dX8_yOf_3 (by decide) ?_
  refine g_iconst (pc := 4) dX8_yOf_4 kc3 ?_
  refine g_isub (pc := 5) dX8_yOf_5 ?_
  exact retI (pc := 6) hR dX8_yOf_6 (rfl) (rfl)
theorem c_X8_moveBy {l : Launch} {G : mG} {Z : mZ} {d : mD} {x y : Int32} : CtI l G yX8_moveBy cX8_moveBy 2 .int 0 0 [.int x, .int y] Z d (movI x y) d := by
  refine enterI RX8 0 [some (.int x), some (.int y)] (by decide) rfl (rfl) rfl rfl (fun X hR => ?_)
  refine g_bipush (pc := 0) dX8_moveBy_0 kb7 ?_
  refine il1 (pc := 2) dX8_moveBy_2 ?_
  refine g_iconst (pc := 3) dX8_moveBy_3 kc3 ?_
  refine g_iadd (pc := 4) dX8_moveBy_4 ?_
  refine g_imul (pc := 5) dX8_moveBy_5 ?_
  refine il0 (pc := 6) dX8_moveBy_6 ?_
  refine g_iadd (pc := 7) dX8_moveBy_7 ?_
  refine g_iconst (pc := 8) dX8_moveBy_8 kc3 ?_
  refine g_iadd (pc := 9) dX8_moveBy_9 ?_
  exact retI (pc := 10) hR dX8_moveBy_10 (rfl) (rfl)
theorem c_X8_stepsOf {l : Launch} {G : mG} {Z : mZ} {d : mD} {v : Int32} : CtI l G yX8_stepsOf cX8_stepsOf 1 .int 1 21 [.int v] Z d (farI v) d := by
  refine enterI RX8 0 [some (.int v)] (by decide) rfl (rfl) rfl rfl (fun X hR => ?_)
  refine il0 (pc := 0) dX8_stepsOf_0 ?_
  refine cl_X8_195 (pc := 1) (c_X8_xOf) (by decide) ⟨Nat.zero_le _, Nat.zero_le _⟩ (Nat.le_of_ble_eq_true rfl) dX8_stepsOf_1 ?_
  refine cl_X8_276 (pc := 4) (by decide) (Nat.le_of_ble_eq_true rfl) ⟨Nat.zero_le _, Nat.zero_le _⟩ dX8_stepsOf_4 ?_
  refine il0 (pc := 7) dX8_stepsOf_7 ?_
  refine cl_X8_199 (pc := 8) (c_X8_yOf) (by decide) ⟨Nat.zero_le _, Nat.zero_le _⟩ (Nat.le_of_ble_eq_true rfl) dX8_stepsOf_8 ?_
  refine cl_X8_276 (pc := 11) (by decide) (Nat.le_of_ble_eq_true rfl) ⟨Nat.zero_le _, Nat.zero_le _⟩ dX8_stepsOf_11 ?_
  refine g_iadd (pc := 14) dX8_stepsOf_14 ?_
  exact retI (pc := 15) hR dX8_stepsOf_15 (rfl) (rfl)
theorem c_X8_firstColumn {l : Launch} {G : mG} {Z : mZ} {d : mD} {v : Int32} : CtI l G yX8_firstColumn cX8_firstColumn 1 .int 0 0 [.int v] Z d (colI v) d := by
  refine enterI RX8 0 [some (.int v)] (by decide) rfl (rfl) rfl rfl (fun X hR => ?_)
  refine il0 (pc := 0) dX8_firstColumn_0 ?_
  refine g_iconst (pc := 1) dX8_firstColumn_1 kc3 ?_
  refine g_irem (pc := 2) dX8_firstColumn_2 (by decide) ?_
  refine g_iconst (pc := 3) dX8_firstColumn_3 kc4 ?_
  refine g_imul (pc := 4) dX8_firstColumn_4 ?_
  exact retI (pc := 5) hR dX8_firstColumn_5 (rfl) (rfl)
theorem c_X8_firstRow {l : Launch} {G : mG} {Z : mZ} {d : mD} {v : Int32} : CtI l G yX8_firstRow cX8_firstRow 1 .int 0 0 [.int v] Z d (rowI v) d := by
  refine enterI RX8 0 [some (.int v)] (by decide) rfl (rfl) rfl rfl (fun X hR => ?_)
  refine il0 (pc := 0) dX8_firstRow_0 ?_
  refine g_iconst (pc := 1) dX8_firstRow_1 kc3 ?_
  refine g_idiv (pc := 2) dX8_firstRow_2 (by decide) ?_
  refine g_iconst (pc := 3) dX8_firstRow_3 kc4 ?_
  refine g_imul (pc := 4) dX8_firstRow_4 ?_
  exact retI (pc := 5) hR dX8_firstRow_5 (rfl) (rfl)
theorem c_X8_blockAt {l : Launch} {G : mG} {Z : mZ} {d : mD} {c r : Int32} : CtI l G yX8_blockAt cX8_blockAt 2 .int 0 0 [.int c, .int r] Z d (blkI c r) d := by
  refine enterI RX8 0 [some (.int c), some (.int r)] (by decide) rfl (rfl) rfl rfl (fun X hR => ?_)
  refine il1 (pc := 0) dX8_blockAt_0 ?_
  refine g_iconst (pc := 1) dX8_blockAt_1 kc4 ?_
  refine g_idiv (pc := 2) dX8_blockAt_2 (by decide) ?_
  refine g_iconst (pc := 3) dX8_blockAt_3 kc3 ?_
  refine g_imul (pc := 4) dX8_blockAt_4 ?_
  refine il0 (pc := 5) dX8_blockAt_5 ?_
  refine g_iconst (pc := 6) dX8_blockAt_6 kc4 ?_
  refine g_idiv (pc := 7) dX8_blockAt_7 (by decide) ?_
  refine g_iadd (pc := 8) dX8_blockAt_8 ?_
  exact retI (pc := 9) hR dX8_blockAt_9 (rfl) (rfl)
theorem c_X8_power {l : Launch} {G : mG} {Z : mZ} {d : mD} {b : Int32} {t : Nat} (ht : t < 2 ^ 31) : CtI l G yX8_power cX8_power 4 .int 0 0 [.int b, .int (nI t)] Z d (powI b t 1) d := by
  refine enterI RX8 2 [some (.int b), some (.int (nI t)), none, none] (by decide) rfl (rfl) rfl rfl (fun X hR => ?_)
  refine g_iconst (pc := 0) dX8_power_0 kc1 ?_
  refine is2 (pc := 1) dX8_power_1 rfl ?_
  refine g_iconst (pc := 2) dX8_power_2 kc0 ?_
  refine is3 (pc := 3) dX8_power_3 rfl ?_
  have L4 : ∀ (n i : Nat) (p : Int32), i + n = t → (powI b n p = powI b t 1) → mGo l G (mRm 0 0) X RX8 cX8_power 4 0 0 Z 4 [some (.int b), some (.int (nI t)), some (.int p), some (.int (nI i))] [] d := by
    intro n; induction n with
    | zero =>
      intro i p hin4 hF
      refine il3 (pc := 4) dX8_power_4 ?_
      refine il1 (pc := 5) dX8_power_5 ?_
      refine g_icmpge 19 (pc := 6) dX8_power_6 (by decide) (fun c6 => ?_) (fun c6 => absurd (nI_le (by omega) (by omega)) c6)
      refine il2 (pc := 19) dX8_power_19 ?_
      exact retI (pc := 20) hR dX8_power_20 (hF) (rfl)
    | succ n ih4 =>
      intro i p hin4 hF
      refine il3 (pc := 4) dX8_power_4 ?_
      refine il1 (pc := 5) dX8_power_5 ?_
      refine g_icmpge 19 (pc := 6) dX8_power_6 (by decide) (fun c6 => absurd c6 (nI_ge (by omega) (by omega))) (fun c6 => ?_)
      refine il2 (pc := 9) dX8_power_9 ?_
      refine il0 (pc := 10) dX8_power_10 ?_
      refine g_imul (pc := 11) dX8_power_11 ?_
      refine is2 (pc := 12) dX8_power_12 rfl ?_
      refine ic3 (pc := 13) dX8_power_13 kc1 rfl ?_
      refine g_goto 4 (pc := 16) dX8_power_16 (by decide) ?_
      rw [nI_1]
      exact ih4 (i + 1) _ (by omega) hF
  exact L4 t 0 1 (by omega) rfl
theorem c_X8_commonDivisor {l : Launch} {G : mG} {Z : mZ} {d : mD} {a b : Int32} : CtI l G yX8_commonDivisor cX8_commonDivisor 4 .int 0 0 [.int a, .int b] Z d (gcdI 64 a b) d := by
  refine enterI RX8 2 [some (.int a), some (.int b), none, none] (by decide) rfl (rfl) rfl rfl (fun X hR => ?_)
  refine g_iconst (pc := 0) dX8_commonDivisor_0 kc0 ?_
  refine is2 (pc := 1) dX8_commonDivisor_1 rfl ?_
  have L2 : ∀ (n i : Nat) (a2 : Int32) (b2 : Int32), i + n = 64 → (gcdI n a2 b2 = gcdI 64 a b) → mGo l G (mRm 0 0) X RX8 cX8_commonDivisor 4 0 0 Z 2 [some (.int a2), some (.int b2), some (.int (nI i)), none] [] d := by
    intro n; induction n with
    | zero =>
      intro i a2 b2 hin2 hF
      refine il2 (pc := 2) dX8_commonDivisor_2 ?_
      refine g_bipush (pc := 3) dX8_commonDivisor_3 kb64 ?_
      refine g_icmpge 26 (pc := 5) dX8_commonDivisor_5 (by decide) (fun c5 => ?_) (fun c5 => absurd (nI_le (a := 64) (by omega) (by omega)) c5)
      refine il0 (pc := 26) dX8_commonDivisor_26 ?_
      exact retI (pc := 27) hR dX8_commonDivisor_27 (hF) (rfl)
    | succ n ih2 =>
      intro i a2 b2 hin2 hF
      refine il2 (pc := 2) dX8_commonDivisor_2 ?_
      refine g_bipush (pc := 3) dX8_commonDivisor_3 kb64 ?_
      refine g_icmpge 26 (pc := 5) dX8_commonDivisor_5 (by decide) (fun c5 => absurd c5 (nI_ge (b := 64) (by omega) (by omega))) (fun c5 => ?_)
      refine il1 (pc := 8) dX8_commonDivisor_8 ?_
      refine g_ifeq 26 (pc := 9) dX8_commonDivisor_9 (by decide) (fun c9 => ?_) (fun c9 => ?_)
      · skip
        refine il0 (pc := 26) dX8_commonDivisor_26 ?_
        exact retI (pc := 27) hR dX8_commonDivisor_27 (by rw [← hF, gcdI, if_pos c9]) (rfl)
      · skip
        refine il0 (pc := 12) dX8_commonDivisor_12 ?_
        refine il1 (pc := 13) dX8_commonDivisor_13 ?_
        refine g_irem (pc := 14) dX8_commonDivisor_14 (c9) ?_
        refine is3 (pc := 15) dX8_commonDivisor_15 rfl ?_
        refine il1 (pc := 16) dX8_commonDivisor_16 ?_
        refine is0 (pc := 17) dX8_commonDivisor_17 ?_
        refine il3 (pc := 18) dX8_commonDivisor_18 ?_
        refine is1 (pc := 19) dX8_commonDivisor_19 rfl ?_
        refine ic2 (pc := 20) dX8_commonDivisor_20 kc1 rfl ?_
        refine g_goto 2 (pc := 23) dX8_commonDivisor_23 (by decide) ?_
        rw [nI_1]
        refine dr3 ?_
        exact ih2 (i + 1) _ _ (by omega) (by rw [← hF, gcdI, if_neg c9])
  exact L2 64 0 a b (by omega) rfl
end
section
def scB (d : mD) (s s2 a b a2 b2 : Nat) : mD :=
  let d1 := tA d a (va_cpy (gA d a2) (gA d a) 0 0 96)
  let d2 := tA d1 b (va_cpy (gA d1 b2) (gA d1 b) 0 0 96)
  let d3 := sI d2 98 s (gI d2 98 s2)
  sI d3 99 s (gI d3 99 s2)
def scT (d : mD) (s b : Nat) : mD := tA (sI d 99 s (drwI (gI d 99 s))) b (turF (gA d b) (gI d 99 s))
theorem tJ_tJ (d : mD) (a : Nat) (f g : Nat → Int64) : tJ (tJ d a f) a g = tJ d a g := by
  simp only [tJ]; congr 3; funext b; split <;> rfl
theorem tA_tA (d : mD) (a : Nat) (f g : Nat → Int32) : tA (tA d a f) a g = tA d a g := by
  simp only [tA]; congr 2; funext b; split <;> rfl
theorem tO_tO (d : mD) (a : Nat) (f g : Nat → Option Nat) : tO (tO d a f) a g = tO d a g := by
  simp only [tO]; congr 3; funext b; split <;> rfl
theorem tJ_self (d : mD) (a : Nat) : tJ d a (gJ d a) = d := by
  obtain ⟨x, y, z, w⟩ := d; simp only [tJ, gJ]; congr 3; funext b; split
  · next h => rw [h]
  · rfl
theorem tA_self (d : mD) (a : Nat) : tA d a (gA d a) = d := by
  obtain ⟨x, y, z, w⟩ := d; simp only [tA, gA]; congr 2; funext b; split
  · next h => rw [h]
  · rfl
theorem tO_self (d : mD) (a : Nat) : tO d a (gO d a) = d := by
  obtain ⟨x, y, z, w⟩ := d; simp only [tO, gO]; congr 3; funext b; split
  · next h => rw [h]
  · rfl
theorem sI_sI (d : mD) (f a : Nat) (v w : Int32) : sI (sI d f a v) f a w = sI d f a w := by
  simp only [sI]; congr 1; funext g b; split <;> rfl
theorem sI_self (d : mD) (f a : Nat) : sI d f a (gI d f a) = d := by
  obtain ⟨x, y⟩ := d; simp only [sI, gI]; congr 1; funext g b; split
  · next h => rw [h.1, h.2]
  · rfl
def shB (d : mD) (h a : Nat) (ln n9 : Int32) : mD := tJ (sI (sI (sI d 161 h 1) 162 h ln) 163 h n9) a (filJ 0 (gJ d a) 24 0)
theorem c_X2_at {l : Launch} {G : mG} {Z : mZ} {d : mD} {p a : Nat} {c r : Int32} (hp : pic Z p a) : CtI l G yX2_at cX2_at 5 .int 1 21 [.ref p, .int c, .int r] Z d (pix (gA d a) c r) d := by
  refine enterI RX2 2 [some (.ref p), some (.int c), some (.int r), none, none] (by decide) rfl (rfl) rfl rfl (fun X hR => ?_)
  refine g_iconst (pc := 0) dX2_at_0 kc0 ?_
  refine g_bipush (pc := 1) dX2_at_1 kb11 ?_
  refine il1 (pc := 3) dX2_at_3 ?_
  refine cl_X2_15 (pc := 4) (by decide) (Nat.le_of_ble_eq_true rfl) ⟨Nat.zero_le _, Nat.zero_le _⟩ dX2_at_4 ?_
  refine cl_X2_21 (pc := 7) (by decide) (Nat.le_of_ble_eq_true rfl) ⟨Nat.zero_le _, Nat.zero_le _⟩ dX2_at_7 ?_
  refine is3 (pc := 10) dX2_at_10 rfl ?_
  refine g_iconst (pc := 11) dX2_at_11 kc0 ?_
  refine g_bipush (pc := 12) dX2_at_12 kb7 ?_
  refine il2 (pc := 14) dX2_at_14 ?_
  refine cl_X2_15 (pc := 15) (by decide) (Nat.le_of_ble_eq_true rfl) ⟨Nat.zero_le _, Nat.zero_le _⟩ dX2_at_15 ?_
  refine cl_X2_21 (pc := 18) (by decide) (Nat.le_of_ble_eq_true rfl) ⟨Nat.zero_le _, Nat.zero_le _⟩ dX2_at_18 ?_
  refine is4 (pc := 21) dX2_at_21 rfl ?_
  refine al0 (pc := 23) dX2_at_23 ?_
  refine gf_X2_9 (pc := 24) hp.1 hp.2.1 dX2_at_24 ?_
  refine il4 (pc := 27) dX2_at_27 ?_
  refine g_bipush (pc := 29) dX2_at_29 kb12 ?_
  refine g_imul (pc := 31) dX2_at_31 ?_
  refine il3 (pc := 32) dX2_at_32 ?_
  refine g_iadd (pc := 33) dX2_at_33 ?_
  refine g_iald (pc := 34) (12 * clN r 7 + clN c 11) hp.2.2 (pix_lt c r) (by rw [← pix_ix, ← clN_mm r (m := 7) (by omega), ← clN_mm c (m := 11) (by omega)]; rfl) (by decide) dX2_at_34 ?_
  exact retI (pc := 35) hR dX2_at_35 (rfl) (rfl)
theorem c_X2_halfAt {l : Launch} {G : mG} {Z : mZ} {d : mD} {p a : Nat} {c r : Int32} (hp : pic Z p a) : CtI l G yX2_halfAt cX2_halfAt 6 .int 1 21 [.ref p, .int c, .int r] Z d (hpix (gA d a) c r) d := by
  have hlt := hpix_lt c r
  have hix : 2 * mMax 0 (mMin 3 r) * 12 + 2 * mMax 0 (mMin 5 c) = nI (24 * clN r 3 + 2 * clN c 5) := by
    have h1 := clN_mm r (m := 3) (by omega)
    have h2 := clN_mm c (m := 5) (by omega)
    rw [show (nI 3) = 3 from rfl] at h1
    rw [show (nI 5) = 5 from rfl] at h2
    rw [h1, h2]; exact hpix_ix c r
  refine enterI RX2 3 [some (.ref p), some (.int c), some (.int r), none, none, none] (by decide) rfl (rfl) rfl rfl (fun X hR => ?_)
  refine g_iconst (pc := 0) dX2_halfAt_0 kc2 ?_
  refine g_iconst (pc := 1) dX2_halfAt_1 kc0 ?_
  refine g_iconst (pc := 2) dX2_halfAt_2 kc5 ?_
  refine il1 (pc := 3) dX2_halfAt_3 ?_
  refine cl_X2_15 (pc := 4) (by decide) (Nat.le_of_ble_eq_true rfl) ⟨Nat.zero_le _, Nat.zero_le _⟩ dX2_halfAt_4 ?_
  refine cl_X2_21 (pc := 7) (by decide) (Nat.le_of_ble_eq_true rfl) ⟨Nat.zero_le _, Nat.zero_le _⟩ dX2_halfAt_7 ?_
  refine g_imul (pc := 10) dX2_halfAt_10 ?_
  refine is3 (pc := 11) dX2_halfAt_11 rfl ?_
  refine g_iconst (pc := 12) dX2_halfAt_12 kc2 ?_
  refine g_iconst (pc := 13) dX2_halfAt_13 kc0 ?_
  refine g_iconst (pc := 14) dX2_halfAt_14 kc3 ?_
  refine il2 (pc := 15) dX2_halfAt_15 ?_
  refine cl_X2_15 (pc := 16) (by decide) (Nat.le_of_ble_eq_true rfl) ⟨Nat.zero_le _, Nat.zero_le _⟩ dX2_halfAt_16 ?_
  refine cl_X2_21 (pc := 19) (by decide) (Nat.le_of_ble_eq_true rfl) ⟨Nat.zero_le _, Nat.zero_le _⟩ dX2_halfAt_19 ?_
  refine g_imul (pc := 22) dX2_halfAt_22 ?_
  refine is4 (pc := 23) dX2_halfAt_23 rfl ?_
  refine il4 (pc := 25) dX2_halfAt_25 ?_
  refine g_bipush (pc := 27) dX2_halfAt_27 kb12 ?_
  refine g_imul (pc := 29) dX2_halfAt_29 ?_
  refine il3 (pc := 30) dX2_halfAt_30 ?_
  refine g_iadd (pc := 31) dX2_halfAt_31 ?_
  refine is5 (pc := 32) dX2_halfAt_32 rfl ?_
  refine al0 (pc := 34) dX2_halfAt_34 ?_
  refine gf_X2_9 (pc := 35) hp.1 hp.2.1 dX2_halfAt_35 ?_
  refine il5 (pc := 38) dX2_halfAt_38 ?_
  refine g_iald (pc := 40) (24 * clN r 3 + 2 * clN c 5) hp.2.2 (by omega) (hix) (by decide) dX2_halfAt_40 ?_
  refine al0 (pc := 41) dX2_halfAt_41 ?_
  refine gf_X2_9 (pc := 42) hp.1 hp.2.1 dX2_halfAt_42 ?_
  refine il5 (pc := 45) dX2_halfAt_45 ?_
  refine g_iconst (pc := 47) dX2_halfAt_47 kc1 ?_
  refine g_iadd (pc := 48) dX2_halfAt_48 ?_
  refine g_iald (pc := 49) (24 * clN r 3 + 2 * clN c 5 + 1) hp.2.2 (by omega) (by rw [hix]; exact nI_1 _) (by decide) dX2_halfAt_49 ?_
  refine g_iadd (pc := 50) dX2_halfAt_50 ?_
  refine al0 (pc := 51) dX2_halfAt_51 ?_
  refine gf_X2_9 (pc := 52) hp.1 hp.2.1 dX2_halfAt_52 ?_
  refine il5 (pc := 55) dX2_halfAt_55 ?_
  refine g_bipush (pc := 57) dX2_halfAt_57 kb12 ?_
  refine g_iadd (pc := 59) dX2_halfAt_59 ?_
  refine g_iald (pc := 60) (24 * clN r 3 + 2 * clN c 5 + 12) hp.2.2 (by omega) (by rw [hix]; exact nI_add _ 12) (by decide) dX2_halfAt_60 ?_
  refine g_iadd (pc := 61) dX2_halfAt_61 ?_
  refine al0 (pc := 62) dX2_halfAt_62 ?_
  refine gf_X2_9 (pc := 63) hp.1 hp.2.1 dX2_halfAt_63 ?_
  refine il5 (pc := 66) dX2_halfAt_66 ?_
  refine g_bipush (pc := 68) dX2_halfAt_68 kb12 ?_
  refine g_iadd (pc := 70) dX2_halfAt_70 ?_
  refine g_iconst (pc := 71) dX2_halfAt_71 kc1 ?_
  refine g_iadd (pc := 72) dX2_halfAt_72 ?_
  refine g_iald (pc := 73) (24 * clN r 3 + 2 * clN c 5 + 12 + 1) hp.2.2 (by omega) (by rw [hix, show (12 : Int32) = nI 12 from rfl, nI_add]; exact nI_1 _) (by decide) dX2_halfAt_73 ?_
  refine g_iadd (pc := 74) dX2_halfAt_74 ?_
  refine g_iconst (pc := 75) dX2_halfAt_75 kc4 ?_
  refine g_idiv (pc := 76) dX2_halfAt_76 (by decide) ?_
  exact retI (pc := 77) hR dX2_halfAt_77 (rfl) (rfl)
theorem c_X2_othersThan {l : Launch} {G : mG} {Z : mZ} {d : mD} {p a q b : Nat} (hp : pic Z p a) (hq : pic Z q b) : CtI l G yX2_othersThan cX2_othersThan 4 .int 0 0 [.ref p, .ref q] Z d (cntL (fun i => decide (¬ gA d a i = gA d b i)) 96 0 0) d := by
  refine enterI RX2 2 [some (.ref p), some (.ref q), none, none] (by decide) rfl (rfl) rfl rfl (fun X hR => ?_)
  refine g_iconst (pc := 0) dX2_othersThan_0 kc0 ?_
  refine is2 (pc := 1) dX2_othersThan_1 rfl ?_
  refine g_iconst (pc := 2) dX2_othersThan_2 kc0 ?_
  refine is3 (pc := 3) dX2_othersThan_3 rfl ?_
  have L4 : ∀ (n i : Nat) (acc : Int32), i + n = 96 → (cntL (fun i => decide (¬ gA d a i = gA d b i)) n i acc = cntL (fun i => decide (¬ gA d a i = gA d b i)) 96 0 0) → mGo l G (mRm 0 0) X RX2 cX2_othersThan 4 0 0 Z 4 [some (.ref p), some (.ref q), some (.int acc), some (.int (nI i))] [] d := by
    intro n; induction n with
    | zero =>
      intro i acc hin4 hF
      refine il3 (pc := 4) dX2_othersThan_4 ?_
      refine g_bipush (pc := 5) dX2_othersThan_5 kb96 ?_
      refine g_icmpge 34 (pc := 7) dX2_othersThan_7 (by decide) (fun c7 => ?_) (fun c7 => absurd (nI_le (a := 96) (by omega) (by omega)) c7)
      refine il2 (pc := 34) dX2_othersThan_34 ?_
      exact retI (pc := 35) hR dX2_othersThan_35 (hF) (rfl)
    | succ n ih4 =>
      intro i acc hin4 hF
      refine il3 (pc := 4) dX2_othersThan_4 ?_
      refine g_bipush (pc := 5) dX2_othersThan_5 kb96 ?_
      refine g_icmpge 34 (pc := 7) dX2_othersThan_7 (by decide) (fun c7 => absurd c7 (nI_ge (b := 96) (by omega) (by omega))) (fun c7 => ?_)
      refine al0 (pc := 10) dX2_othersThan_10 ?_
      refine gf_X2_9 (pc := 11) hp.1 hp.2.1 dX2_othersThan_11 ?_
      refine il3 (pc := 14) dX2_othersThan_14 ?_
      refine g_iald (pc := 15) i hp.2.2 (by omega) (rfl) (by decide) dX2_othersThan_15 ?_
      refine al1 (pc := 16) dX2_othersThan_16 ?_
      refine gf_X2_9 (pc := 17) hq.1 hq.2.1 dX2_othersThan_17 ?_
      refine il3 (pc := 20) dX2_othersThan_20 ?_
      refine g_iald (pc := 21) i hq.2.2 (by omega) (rfl) (by decide) dX2_othersThan_21 ?_
      refine g_icmpeq 28 (pc := 22) dX2_othersThan_22 (by decide) (fun c22 => ?_) (fun c22 => ?_)
      · skip
        refine ic3 (pc := 28) dX2_othersThan_28 kc1 rfl ?_
        refine g_goto 4 (pc := 31) dX2_othersThan_31 (by decide) ?_
        rw [nI_1]
        exact ih4 (i + 1) _ (by omega) (by rw [← hF, cntL]; simp [c22])
      · skip
        refine ic2 (pc := 25) dX2_othersThan_25 kc1 rfl ?_
        refine ic3 (pc := 28) dX2_othersThan_28 kc1 rfl ?_
        refine g_goto 4 (pc := 31) dX2_othersThan_31 (by decide) ?_
        rw [nI_1]
        exact ih4 (i + 1) _ (by omega) (by rw [← hF, cntL]; simp [c22])
  exact L4 96 0 0 (by omega) rfl
theorem c_X2_become {l : Launch} {G : mG} {Z : mZ} {d : mD} {p a b : Nat} (hp : pic Z p a) (hb : ar Z 10 b 96) : CtV l G yX2_become cX2_become 2 1 60 [.ref p, .ref b] Z d (tA d a (va_cpy (gA d b) (gA d a) 0 0 96)) := by
  refine enterV RX2 0 [some (.ref p), some (.ref b)] (by decide) rfl rfl rfl (fun X hR => ?_)
  refine al1 (pc := 0) dX2_become_0 ?_
  refine g_iconst (pc := 1) dX2_become_1 kc0 ?_
  refine al0 (pc := 2) dX2_become_2 ?_
  refine gf_X2_9 (pc := 3) hp.1 hp.2.1 dX2_become_3 ?_
  refine g_iconst (pc := 6) dX2_become_6 kc0 ?_
  refine g_bipush (pc := 7) dX2_become_7 kb96 ?_
  refine g_cpI (pc := 9) 0 0 96 wm_X2_24 hb hp.2.2 rfl rfl rfl (by decide) (by decide) (by decide) (by decide) (by decide) (by decide) dX2_become_9 ?_
  exact retV (pc := 12) hR dX2_become_12 (rfl)
theorem c_X3_become {l : Launch} {G : mG} {Z : mZ} {d : mD} {s p q a b s2 p2 q2 a2 b2 : Nat} (hs : scn Z s p q a b) (ht : scn Z s2 p2 q2 a2 b2) : CtV l G yX3_become cX3_become 2 2 81 [.ref s, .ref s2] Z d (scB d s s2 a b a2 b2) := by
  refine enterV RX3 0 [some (.ref s), some (.ref s2)] (by decide) rfl rfl rfl (fun X hR => ?_)
  refine al0 (pc := 0) dX3_become_0 ?_
  refine gf_X3_12 (pc := 1) hs.1 hs.2.1 dX3_become_1 ?_
  refine al1 (pc := 4) dX3_become_4 ?_
  refine gf_X3_12 (pc := 5) ht.1 ht.2.1 dX3_become_5 ?_
  refine gf_X3_28 (pc := 8) ht.2.2.2.1.1 ht.2.2.2.1.2.1 dX3_become_8 ?_
  refine cl_X3_32 (pc := 11) (c_X2_become hs.2.2.2.1 ht.2.2.2.1.2.2) hs.2.2.2.1.1 (by decide) ⟨Nat.zero_le _, Nat.zero_le _⟩ (Nat.le_of_ble_eq_true rfl) dX3_become_11 ?_
  refine al0 (pc := 14) dX3_become_14 ?_
  refine gf_X3_18 (pc := 15) hs.1 hs.2.2.1 dX3_become_15 ?_
  refine al1 (pc := 18) dX3_become_18 ?_
  refine gf_X3_18 (pc := 19) ht.1 ht.2.2.1 dX3_become_19 ?_
  refine gf_X3_28 (pc := 22) ht.2.2.2.2.1 ht.2.2.2.2.2.1 dX3_become_22 ?_
  refine cl_X3_32 (pc := 25) (c_X2_become hs.2.2.2.2 ht.2.2.2.2.2.2) hs.2.2.2.2.1 (by decide) ⟨Nat.zero_le _, Nat.zero_le _⟩ (Nat.le_of_ble_eq_true rfl) dX3_become_25 ?_
  refine al0 (pc := 28) dX3_become_28 ?_
  refine al1 (pc := 29) dX3_become_29 ?_
  refine gf_X3_21 (pc := 30) ht.1 dX3_become_30 ?_
  refine pf_X3_21 (pc := 33) hs.1 dX3_become_33 ?_
  refine al0 (pc := 36) dX3_become_36 ?_
  refine al1 (pc := 37) dX3_become_37 ?_
  refine gf_X3_25 (pc := 38) ht.1 dX3_become_38 ?_
  refine pf_X3_25 (pc := 41) hs.1 dX3_become_41 ?_
  exact retV (pc := 44) hR dX3_become_44 (rfl)
theorem c_X3_turn {l : Launch} {G : mG} {Z : mZ} {d : mD} {s p q a b : Nat} (hs : scn Z s p q a b) : CtV l G yX3_turn cX3_turn 2 0 0 [.ref s] Z d (scT d s b) := by
  obtain ⟨he, hlt⟩ := drw_nI (gI d 99 s)
  have hx9 : drwI (gI d 99 s) / 65536 = nI (drwN (gI d 99 s) / 65536) := by rw [he]; exact pk_div hlt (by decide) (by decide)
  refine enterV RX3 1 [some (.ref s), none] (by decide) rfl rfl rfl (fun X hR => ?_)
  refine al0 (pc := 0) dX3_turn_0 ?_
  refine al0 (pc := 1) dX3_turn_1 ?_
  refine gf_X3_25 (pc := 2) hs.1 dX3_turn_2 ?_
  refine g_ldc (pc := 5) dX3_turn_5 wk_X3_36 ?_
  refine g_imul (pc := 7) dX3_turn_7 ?_
  refine g_sipush (pc := 8) dX3_turn_8 ks12345 ?_
  refine g_iadd (pc := 11) dX3_turn_11 ?_
  refine g_ldc (pc := 12) dX3_turn_12 wk_X3_39 ?_
  refine g_iand (pc := 14) dX3_turn_14 ?_
  refine pf_X3_25 (pc := 15) hs.1 dX3_turn_15 ?_
  refine al0 (pc := 18) dX3_turn_18 ?_
  refine gf_X3_25 (pc := 19) hs.1 dX3_turn_19 ?_
  refine g_ldc (pc := 22) dX3_turn_22 wk_X3_40 ?_
  refine g_idiv (pc := 24) dX3_turn_24 (by decide) ?_
  refine is1 (pc := 25) dX3_turn_25 rfl ?_
  refine al0 (pc := 26) dX3_turn_26 ?_
  refine gf_X3_18 (pc := 27) hs.1 hs.2.2.1 dX3_turn_27 ?_
  refine gf_X3_28 (pc := 30) hs.2.2.2.2.1 hs.2.2.2.2.2.1 dX3_turn_30 ?_
  refine il1 (pc := 33) dX3_turn_33 ?_
  refine g_bipush (pc := 34) dX3_turn_34 kb96 ?_
  refine g_irem (pc := 36) dX3_turn_36 (by decide) ?_
  refine il1 (pc := 37) dX3_turn_37 ?_
  refine g_bipush (pc := 38) dX3_turn_38 kb96 ?_
  refine g_idiv (pc := 40) dX3_turn_40 (by decide) ?_
  refine g_bipush (pc := 41) dX3_turn_41 kb10 ?_
  refine g_irem (pc := 43) dX3_turn_43 (by decide) ?_
  refine g_iast (pc := 44) (drwN (gI d 99 s) / 65536 % 96) hs.2.2.2.2.2.2 (Nat.mod_lt _ (by decide)) ((by show mRem (gI (sI d 99 s (drwI (gI d 99 s))) 99 s / 65536) 96 = _; rw [gI_sI, if_pos ⟨rfl, rfl⟩, hx9]; exact pk_rem (by omega) (by decide) (by decide))) (by decide) dX3_turn_44 ?_
  exact retV (pc := 45) hR dX3_turn_45 (by show tA (sI d 99 s (drwI (gI d 99 s))) b (upd _ _ (mRem ((gI (sI d 99 s (drwI (gI d 99 s))) 99 s / 65536) / 96) 10)) = _; rw [gI_sI, if_pos ⟨rfl, rfl⟩, hx9]; rw [show nI (drwN (gI d 99 s) / 65536) / 96 = nI (drwN (gI d 99 s) / 65536 / 96) from pk_div (by omega) (by decide) (by decide), show mRem (nI (drwN (gI d 99 s) / 65536 / 96)) 10 = nI (drwN (gI d 99 s) / 65536 / 96 % 10) from pk_rem (by omega) (by decide) (by decide)]; rfl)
theorem c_X5_spans {l : Launch} {G : mG} {Z : mZ} {d : mD} {h a : Nat} {i n : Int32} (hh : sht Z h a) : CtI l G yX5_spans cX5_spans 3 .boolean 0 0 [.ref h, .int i, .int n] Z d (mB (spn (gI d 163 h) i n)) d := by
  refine enterI RX5 0 [some (.ref h), some (.int i), some (.int n)] (by decide) rfl (narB _) rfl rfl (fun X hR => ?_)
  refine il1 (pc := 0) dX5_spans_0 ?_
  refine g_iflt 30 (pc := 1) dX5_spans_1 (by decide) (fun c1 => ?_) (fun c1 => ?_)
  · skip
    refine g_iconst (pc := 30) dX5_spans_30 kc0 ?_
    exact retI (pc := 31) hR dX5_spans_31 (by simp [mB, spn, ← Int32.not_lt, c1]) (rfl)
  · skip
    refine il2 (pc := 4) dX5_spans_4 ?_
    refine g_iflt 30 (pc := 5) dX5_spans_5 (by decide) (fun c5 => ?_) (fun c5 => ?_)
    · skip
      refine g_iconst (pc := 30) dX5_spans_30 kc0 ?_
      exact retI (pc := 31) hR dX5_spans_31 (by simp [mB, spn, ← Int32.not_lt, c1, c5]) (rfl)
    · skip
      refine il1 (pc := 8) dX5_spans_8 ?_
      refine al0 (pc := 9) dX5_spans_9 ?_
      refine gf_X5_23 (pc := 10) hh.1 dX5_spans_10 ?_
      refine g_icmpgt 30 (pc := 13) dX5_spans_13 (by decide) (fun c13 => ?_) (fun c13 => ?_)
      · skip
        refine g_iconst (pc := 30) dX5_spans_30 kc0 ?_
        exact retI (pc := 31) hR dX5_spans_31 (by simp [mB, spn, ← Int32.not_lt, c1, c5, c13]) (rfl)
      · skip
        refine il2 (pc := 16) dX5_spans_16 ?_
        refine al0 (pc := 17) dX5_spans_17 ?_
        refine gf_X5_23 (pc := 18) hh.1 dX5_spans_18 ?_
        refine il1 (pc := 21) dX5_spans_21 ?_
        refine g_isub (pc := 22) dX5_spans_22 ?_
        refine g_icmpgt 30 (pc := 23) dX5_spans_23 (by decide) (fun c23 => ?_) (fun c23 => ?_)
        · skip
          refine g_iconst (pc := 30) dX5_spans_30 kc0 ?_
          exact retI (pc := 31) hR dX5_spans_31 (by simp [mB, spn, ← Int32.not_lt, c1, c5, c13, c23]) (rfl)
        · skip
          refine g_iconst (pc := 26) dX5_spans_26 kc1 ?_
          refine g_goto 31 (pc := 27) dX5_spans_27 (by decide) ?_
          exact retI (pc := 31) hR dX5_spans_31 (by simp [mB, spn, ← Int32.not_lt, c1, c5, c13, c23]) (rfl)
theorem c_X5_refusal {l : Launch} {G : mG} {Z : mZ} {d : mD} {h a : Nat} {ln i n : Int32} (hh : sht Z h a) : CtI l G yX5_refusal cX5_refusal 4 .int 1 22 [.ref h, .int ln, .int i, .int n] Z d (refI (gI d 161 h) (gI d 162 h) (gI d 163 h) ln i n) d := by
  refine enterI RX5 0 [some (.ref h), some (.int ln), some (.int i), some (.int n)] (by decide) rfl (rfl) rfl rfl (fun X hR => ?_)
  refine al0 (pc := 0) dX5_refusal_0 ?_
  refine gf_X5_15 (pc := 1) hh.1 dX5_refusal_1 ?_
  refine g_ifne 10 (pc := 4) dX5_refusal_4 (by decide) (fun c4 => ?_) (fun c4 => ?_)
  · skip
    refine al0 (pc := 10) dX5_refusal_10 ?_
    refine gf_X5_19 (pc := 11) hh.1 dX5_refusal_11 ?_
    refine il1 (pc := 14) dX5_refusal_14 ?_
    refine g_icmpeq 21 (pc := 15) dX5_refusal_15 (by decide) (fun c15 => ?_) (fun c15 => ?_)
    · skip
      refine al0 (pc := 21) dX5_refusal_21 ?_
      refine il2 (pc := 22) dX5_refusal_22 ?_
      refine il3 (pc := 23) dX5_refusal_23 ?_
      refine cl_X5_28 (pc := 24) (c_X5_spans hh) hh.1 (by decide) ⟨Nat.zero_le _, Nat.zero_le _⟩ (Nat.le_of_ble_eq_true rfl) dX5_refusal_24 ?_
      refine g_ifeq 34 (pc := 27) dX5_refusal_27 (by decide) (fun c27 => ?_) (fun c27 => ?_)
      · skip
        refine g_ldc (pc := 34) dX5_refusal_34 wk_X5_32 ?_
        exact retI (pc := 36) hR dX5_refusal_36 (by (try simp only [mB_eq0, mB_ne0] at c4 c15 c27); simp [refI, c4, c15, c27]) (rfl)
      · skip
        refine g_iconst (pc := 30) dX5_refusal_30 kc0 ?_
        refine g_goto 36 (pc := 31) dX5_refusal_31 (by decide) ?_
        exact retI (pc := 36) hR dX5_refusal_36 (by (try simp only [mB_eq0, mB_ne0] at c4 c15 c27); simp [refI, c4, c15, c27]) (rfl)
    · skip
      refine g_ldc (pc := 18) dX5_refusal_18 wk_X5_27 ?_
      exact retI (pc := 20) hR dX5_refusal_20 (by (try simp only [mB_eq0, mB_ne0] at c4 c15); simp [refI, c4, c15]) (rfl)
  · skip
    refine g_ldc (pc := 7) dX5_refusal_7 wk_X5_26 ?_
    exact retI (pc := 9) hR dX5_refusal_9 (by (try simp only [mB_eq0, mB_ne0] at c4); simp [refI, c4]) (rfl)
theorem c_X5_begin {l : Launch} {G : mG} {Z : mZ} {d : mD} {h a : Nat} {ln n9 : Int32} (hh : sht Z h a) : CtV l G yX5_begin cX5_begin 4 0 0 [.ref h, .int ln, .int n9] Z d (shB d h a ln n9) := by
  refine enterV RX5 1 [some (.ref h), some (.int ln), some (.int n9), none] (by decide) rfl rfl rfl (fun X hR => ?_)
  refine al0 (pc := 0) dX5_begin_0 ?_
  refine g_iconst (pc := 1) dX5_begin_1 kc1 ?_
  refine pf_X5_15 (pc := 2) hh.1 (by decide) (by decide) dX5_begin_2 ?_
  refine al0 (pc := 5) dX5_begin_5 ?_
  refine il1 (pc := 6) dX5_begin_6 ?_
  refine pf_X5_19 (pc := 7) hh.1 dX5_begin_7 ?_
  refine al0 (pc := 10) dX5_begin_10 ?_
  refine il2 (pc := 11) dX5_begin_11 ?_
  refine pf_X5_23 (pc := 12) hh.1 dX5_begin_12 ?_
  refine g_iconst (pc := 15) dX5_begin_15 kc0 ?_
  refine is3 (pc := 16) dX5_begin_16 rfl ?_
  have L17 : ∀ (n i : Nat) (f : Nat → Int64), i + n = 24 → (filJ 0 f n i = filJ 0 (gJ d a) 24 0) → mGo l G (mRm 0 0) X RX5 cX5_begin 4 0 0 Z 17 [some (.ref h), some (.int ln), some (.int n9), some (.int (nI i))] [] (tJ (sI (sI (sI d 161 h 1) 162 h ln) 163 h n9) a f) := by
    intro n; induction n with
    | zero =>
      intro i f hin17 hF
      refine il3 (pc := 17) dX5_begin_17 ?_
      refine g_bipush (pc := 18) dX5_begin_18 kb24 ?_
      refine g_icmpge 36 (pc := 20) dX5_begin_20 (by decide) (fun c20 => ?_) (fun c20 => absurd (nI_le (a := 24) (by omega) (by omega)) c20)
      exact retV (pc := 36) hR dX5_begin_36 (by rw [shB, ← hF]; rfl)
    | succ n ih17 =>
      intro i f hin17 hF
      refine il3 (pc := 17) dX5_begin_17 ?_
      refine g_bipush (pc := 18) dX5_begin_18 kb24 ?_
      refine g_icmpge 36 (pc := 20) dX5_begin_20 (by decide) (fun c20 => absurd c20 (nI_ge (b := 24) (by omega) (by omega))) (fun c20 => ?_)
      refine al0 (pc := 23) dX5_begin_23 ?_
      refine gf_X5_9 (pc := 24) hh.1 hh.2.1 dX5_begin_24 ?_
      refine il3 (pc := 27) dX5_begin_27 ?_
      refine g_lconst (pc := 28) dX5_begin_28 kl0 ?_
      refine g_last (pc := 29) i hh.2.2 (by omega) (rfl) (by decide) dX5_begin_29 ?_
      refine ic3 (pc := 30) dX5_begin_30 kc1 rfl ?_
      refine g_goto 17 (pc := 33) dX5_begin_33 (by decide) ?_
      rw [nI_1, gJ_tJ, if_pos rfl, tJ_tJ]
      exact ih17 (i + 1) _ (by omega) hF
  rw [← tJ_self (sI (sI (sI d 161 h 1) 162 h ln) 163 h n9) a]
  exact L17 24 0 _ (by omega) rfl
theorem c_X5_put {l : Launch} {G : mG} {Z : mZ} {d : mD} {h a : Nat} {j : Nat} {v : Int64} (hh : sht Z h a) (hj : j < 24) : CtV l G yX5_put cX5_put 4 0 0 [.ref h, .int (nI j), .long v] Z d (tJ d a (vp_updL (gJ d a) j (cutL (gI d 162 h) v))) := by
  refine enterV RX5 0 [some (.ref h), some (.int (nI j)), some (.long v), none] (by decide) rfl rfl rfl (fun X hR => ?_)
  refine al0 (pc := 0) dX5_put_0 ?_
  refine gf_X5_19 (pc := 1) hh.1 dX5_put_1 ?_
  by_cases c4_0 : gI d 162 h = 0
  · skip
    refine g_tblIn (pc := 4) 32 dX5_put_4 (by rw [c4_0]; decide) (by rw [c4_0]; decide) (by rw [c4_0]; rfl) (by decide) ?_
    refine al0 (pc := 32) dX5_put_32 ?_
    refine gf_X5_9 (pc := 33) hh.1 hh.2.1 dX5_put_33 ?_
    refine il1 (pc := 36) dX5_put_36 ?_
    refine ll2 (pc := 37) dX5_put_37 ?_
    refine g_l2i (pc := 38) dX5_put_38 ?_
    refine g_i2b (pc := 39) dX5_put_39 ?_
    refine g_i2l (pc := 40) dX5_put_40 ?_
    refine g_last (pc := 41) j hh.2.2 (hj) (rfl) (by decide) dX5_put_41 ?_
    refine g_goto 77 (pc := 42) dX5_put_42 (by decide) ?_
    exact retV (pc := 77) hR dX5_put_77 (by simp [cutL, c4_0])
  by_cases c4_1 : gI d 162 h = 1
  · skip
    refine g_tblIn (pc := 4) 45 dX5_put_4 (by rw [c4_1]; decide) (by rw [c4_1]; decide) (by rw [c4_1]; rfl) (by decide) ?_
    refine al0 (pc := 45) dX5_put_45 ?_
    refine gf_X5_9 (pc := 46) hh.1 hh.2.1 dX5_put_46 ?_
    refine il1 (pc := 49) dX5_put_49 ?_
    refine ll2 (pc := 50) dX5_put_50 ?_
    refine g_l2i (pc := 51) dX5_put_51 ?_
    refine g_i2s (pc := 52) dX5_put_52 ?_
    refine g_i2l (pc := 53) dX5_put_53 ?_
    refine g_last (pc := 54) j hh.2.2 (hj) (rfl) (by decide) dX5_put_54 ?_
    refine g_goto 77 (pc := 55) dX5_put_55 (by decide) ?_
    exact retV (pc := 77) hR dX5_put_77 (by simp [cutL, c4_1])
  by_cases c4_2 : gI d 162 h = 2
  · skip
    refine g_tblIn (pc := 4) 58 dX5_put_4 (by rw [c4_2]; decide) (by rw [c4_2]; decide) (by rw [c4_2]; rfl) (by decide) ?_
    refine al0 (pc := 58) dX5_put_58 ?_
    refine gf_X5_9 (pc := 59) hh.1 hh.2.1 dX5_put_59 ?_
    refine il1 (pc := 62) dX5_put_62 ?_
    refine ll2 (pc := 63) dX5_put_63 ?_
    refine g_l2i (pc := 64) dX5_put_64 ?_
    refine g_i2l (pc := 65) dX5_put_65 ?_
    refine g_last (pc := 66) j hh.2.2 (hj) (rfl) (by decide) dX5_put_66 ?_
    refine g_goto 77 (pc := 67) dX5_put_67 (by decide) ?_
    exact retV (pc := 77) hR dX5_put_77 (by simp [cutL, c4_2])
  refine g_tblOut (pc := 4) 70 dX5_put_4 (by have q0 := lv_neT c4_0 (k := 0) (a := 0) (by decide); have q1 := lv_neT c4_1 (k := 1) (a := 1) (by decide); have q2 := lv_neT c4_2 (k := 2) (a := 2) (by decide); omega) (by decide) ?_
  refine al0 (pc := 70) dX5_put_70 ?_
  refine gf_X5_9 (pc := 71) hh.1 hh.2.1 dX5_put_71 ?_
  refine il1 (pc := 74) dX5_put_74 ?_
  refine ll2 (pc := 75) dX5_put_75 ?_
  refine g_last (pc := 76) j hh.2.2 (hj) (rfl) (by decide) dX5_put_76 ?_
  exact retV (pc := 77) hR dX5_put_77 (by simp [cutL, c4_0, c4_1, c4_2])
end
section
/-- the rows of a scene's pictures, by the shape alone -/
def oA (Z : mZ) (s : Nat) : Nat := ((rf Z 96 s).bind (rf Z 64)).getD 0
def nA (Z : mZ) (s : Nat) : Nat := ((rf Z 97 s).bind (rf Z 64)).getD 0
def scv (Z : mZ) (s : Nat) : Prop := ∃ p q, scn Z s p q (oA Z s) (nA Z s)
def scBz (Z : mZ) (d : mD) (s s2 : Nat) : mD := scB d s s2 (oA Z s) (nA Z s) (oA Z s2) (nA Z s2)
theorem cz_X3_become {l : Launch} {G : mG} {Z : mZ} {d : mD} {s s2 : Nat} (hs : scv Z s) (ht : scv Z s2) : CtV l G yX3_become cX3_become 2 2 81 [.ref s, .ref s2] Z d (scBz Z d s s2) := by
  obtain ⟨p, q, hs⟩ := hs
  obtain ⟨p2, q2, ht⟩ := ht
  exact c_X3_become hs ht
theorem scv.ob {Z : mZ} {s : Nat} (h : scv Z s) : ob Z 3 s := by obtain ⟨p, q, h⟩ := h; exact h.1
def psO (d : mD) (pa i : Nat) : Nat := (gO d pa i).getD 0
def pst (Z : mZ) (d : mD) (pa : Nat) : Prop := ∀ i, i < 8 → gO d pa i = some (psO d pa i) ∧ scv Z (psO d pa i)
def sty (Z : mZ) (t sc pa : Nat) : Prop := ob Z 6 t ∧ rf Z 192 t = some sc ∧ rf Z 193 t = some pa ∧ scv Z sc ∧ ar Z 12 pa 8
def rotG : Nat → Nat → (Nat → Option Nat) → (Nat → Option Nat)
  | 0, _, g => g
  | n + 1, j, g => rotG n (j + 1) (va_up g j (g (j + 1)))
theorem mGup {Z : mZ} {g : Nat → Option Nat} {i x : Nat} (hg : ∀ j, j < 8 → ∃ y, g j = some y ∧ ob Z 3 y) (ho : ob Z 3 x) : ∀ j, j < 8 → ∃ y, va_up g i (some x) j = some y ∧ ob Z 3 y := fun j hj => by
  by_cases hji : j = i
  · subst hji; exact ⟨x, by simp [va_up], ho⟩
  · obtain ⟨y9, hy9, ho9⟩ := hg j hj; exact ⟨y9, by simp [va_up, hji, hy9], ho9⟩
def rotO (f : Nat → Option Nat) : Nat → Option Nat := fun i => if i < 7 then f (i + 1) else if i = 7 then f 0 else f i
theorem rotO_eq (f : Nat → Option Nat) : va_up (rotG 7 0 f) 7 (f 0) = rotO f := by
  funext i
  match i with
  | 0 | 1 | 2 | 3 | 4 | 5 | 6 | 7 => rfl
  | j + 8 => simp [va_up, rotG, rotO]; intro h; omega
def loD (d : mD) (t pa : Nat) : mD := sI (tO d pa (rotO (gO d pa))) 194 t 7
def keD (Z : mZ) (d : mD) (t sc pa k : Nat) : mD := if k = 8 then sI (scBz Z (loD d t pa) (psO (loD d t pa) pa 7) sc) 194 t 8 else sI (scBz Z d (psO d pa k) sc) 194 t (nI (k + 1))
def gbD (Z : mZ) (d : mD) (t sc pa k : Nat) : mD := scBz Z (sI d 194 t (nI (k - 1))) sc (psO d pa (k - 1))
def stB (Z : mZ) (pa pb : Nat) : Nat → Nat → mD → mD
  | 0, _, d => d
  | n + 1, i, d => stB Z pa pb n (i + 1) (scBz Z d (psO d pa i) (psO d pb i))
theorem gO_scBz (Z : mZ) (d : mD) (s s2 b : Nat) : gO (scBz Z d s s2) b = gO d b := rfl
theorem psO_scBz (Z : mZ) (d : mD) (s s2 b i : Nat) : psO (scBz Z d s s2) b i = psO d b i := rfl
theorem gI_scBz (Z : mZ) (d : mD) (s s2 f b : Nat) (h1 : f ≠ 98) (h2 : f ≠ 99) : gI (scBz Z d s s2) f b = gI d f b := by
  simp [scBz, scB, gI_sI, gI_tA, h1, h2]
theorem pst.scBz {Z : mZ} {d : mD} {pa : Nat} (h : pst Z d pa) (s s2 : Nat) : pst Z (scBz Z d s s2) pa := h
theorem pst.sI {Z : mZ} {d : mD} {pa : Nat} (h : pst Z d pa) (f a : Nat) (v : Int32) : pst Z (sI d f a v) pa := h
/-! the tape -/
def tap (Z : mZ) (t le dt : Nat) : Prop := ob Z 7 t ∧ rf Z 224 t = some le ∧ rf Z 226 t = some dt ∧ ar Z 10 le 120 ∧ ar Z 10 dt 96
def adD (d : mD) (t le n : Nat) (c : Int32) : mD := if n < 120 then sI (tA d le (upd (gA d le) n c)) 225 t (nI (n + 1)) else d
abbrev canP (tg td lt rn : Int32) : Prop := (tg = 0 ∧ (lt = 111 ∨ lt = 110 ∨ lt = 98)) ∨ (¬ tg = 0 ∧ td < 96 ∧ ((48 ≤ lt ∧ lt ≤ 57) ∨ (lt = 114 ∧ rn = 0)))
def filI (v : Int32) : Nat → Nat → (Nat → Int32) → (Nat → Int32)
  | 0, _, f => f
  | n + 1, i, f => filI v n (i + 1) (upd f i v)
def endN (td : Nat) (rn : Int32) : Nat := if rn = 0 then td + 1 else (td / 12 + 1) * 12
theorem endN_gt (td : Nat) (rn : Int32) : td < endN td rn := by unfold endN; split <;> omega
theorem endN_le {td : Nat} (rn : Int32) (h : td < 96) : endN td rn ≤ 96 := by unfold endN; split <;> omega
def teD (d : mD) (t dt td : Nat) (fg rn : Int32) : mD := sI (tA d dt (filI fg (endN td rn - td) td (gA d dt))) 227 t (nI (endN td rn))
def tpD (d : mD) (t dt : Nat) (f : Nat → Int32) (tg td : Int32) : mD := tA (sI (sI d 228 t tg) 227 t td) dt f
theorem tp_228 (d : mD) (t dt : Nat) (f : Nat → Int32) (tg td v : Int32) : sI (tpD d t dt f tg td) 228 t v = tpD d t dt f v td := by
  simp only [tpD, sI, tA]; congr 1; funext g b
  by_cases h1 : g = 228 ∧ b = t
  · obtain ⟨rfl, rfl⟩ := h1; simp
  · rw [if_neg h1, if_neg h1, if_neg h1]
theorem tp_tell (d : mD) (t dt : Nat) (f : Nat → Int32) (tg : Int32) (td : Nat) (fg rn : Int32) : teD (tpD d t dt f tg (nI td)) t dt td fg rn = tpD d t dt (filI fg (endN td rn - td) td f) tg (nI (endN td rn)) := by
  simp only [teD, tpD, sI, tA, gA, if_pos]; congr 1
  · funext g b
    by_cases h1 : g = 227 ∧ b = t
    · rw [if_pos h1, if_pos h1]
    · rw [if_neg h1, if_neg h1, if_neg h1]
  · congr 1; funext b; split <;> rfl
theorem tp_fill (d : mD) (t dt : Nat) (f g : Nat → Int32) (tg td : Int32) : tA (tpD d t dt f tg td) dt g = tpD d t dt g tg td := tA_tA _ _ _ _
theorem gI_tp228 (d : mD) (t dt : Nat) (f : Nat → Int32) (tg td : Int32) : gI (tpD d t dt f tg td) 228 t = tg := by simp [tpD, gI_tA, gI_sI]
theorem gI_tp227 (d : mD) (t dt : Nat) (f : Nat → Int32) (tg td : Int32) : gI (tpD d t dt f tg td) 227 t = td := by simp [tpD, gI_tA, gI_sI]
theorem gI_tp225 (d : mD) (t dt : Nat) (f : Nat → Int32) (tg td : Int32) : gI (tpD d t dt f tg td) 225 t = gI d 225 t := by simp [tpD, gI_tA, gI_sI]
theorem gA_tp (d : mD) (t dt : Nat) (f : Nat → Int32) (tg td : Int32) : gA (tpD d t dt f tg td) dt = f := by simp [tpD, gA_tA]
theorem gA_tpo (d : mD) (t dt le : Nat) (f : Nat → Int32) (tg td : Int32) (h : le ≠ dt) : gA (tpD d t dt f tg td) le = gA d le := by simp [tpD, gA_tA, gA_sI, h]
/-- the tape read on: the answer, the dots, whom it tells, how many dots are told -/
def rdL (le : Nat → Int32) (sz : Nat) : Nat → Nat → (Nat → Int32) → Int32 → Nat → Int32 → Int32 × (Nat → Int32) × Int32 × Nat
  | 0, _, f, tg, td, rn => if tg = 0 ∨ ¬ rn = 0 then (-1000020 - nI sz, f, tg, td) else (nI td, filI 0 (96 - td) td f, tg, td)
  | n + 1, i, f, tg, td, rn =>
    if le i = 32 then rdL le sz n (i + 1) f tg td rn
    else if ¬ canP tg (nI td) (le i) rn then (-1000020 - nI i, f, tg, td)
    else if tg = 0 then rdL le sz n (i + 1) f (le i) td rn
    else if le i = 114 then rdL le sz n (i + 1) f tg td 1
    else rdL le sz n (i + 1) (filI (le i - 48) (endN td rn - td) td f) tg (endN td rn) 0
theorem endN_nI {td : Nat} (rn : Int32) (h : td < 96) : (if rn = 0 then nI td + 1 else (nI td / 12 + 1) * 12) = nI (endN td rn) := by
  unfold endN
  split
  · exact nI_1 td
  · rw [show (12 : Int32) = nI 12 from rfl, pk_div (by omega) (by decide) (by decide), nI_1, pk_mul]
theorem c_X6_loseOldest {l : Launch} {G : mG} {Z : mZ} {d : mD} {t sc pa : Nat} (ht : sty Z t sc pa) (hp : pst Z d pa) : CtV l G yX6_loseOldest cX6_loseOldest 3 0 0 [.ref t] Z d (loD d t pa) := by
  refine enterV RX6 2 [some (.ref t), none, none] (by decide) rfl rfl rfl (fun X hR => ?_)
  refine al0 (pc := 0) dX6_loseOldest_0 ?_
  refine gf_X6_18 (pc := 1) ht.1 ht.2.2.1 dX6_loseOldest_1 ?_
  refine g_iconst (pc := 4) dX6_loseOldest_4 kc0 ?_
  refine g_aldS (pc := 5) 0 ht.2.2.2.2 (by decide) (rfl) (by decide) ((hp 0 (by decide)).1) dX6_loseOldest_5 ?_
  refine as1 (pc := 6) dX6_loseOldest_6 rfl ?_
  refine g_iconst (pc := 7) dX6_loseOldest_7 kc1 ?_
  refine is2 (pc := 8) dX6_loseOldest_8 rfl ?_
  have L9 : ∀ (n i : Nat) (g : Nat → Option Nat), i + n = 7 → (∀ j, j < 8 → ∃ x, g j = some x ∧ ob Z 3 x) → (rotG n i g = rotG 7 0 (gO d pa)) → mGo l G (mRm 0 0) X RX6 cX6_loseOldest 3 0 0 Z 9 [some (.ref t), some (.ref (psO d pa 0)), some (.int (nI (i + 1)))] [] (tO d pa g) := by
    intro n; induction n with
    | zero =>
      intro i g hin9 hg hF
      refine il2 (pc := 9) dX6_loseOldest_9 ?_
      refine g_bipush (pc := 10) dX6_loseOldest_10 kb8 ?_
      refine g_icmpge 35 (pc := 12) dX6_loseOldest_12 (by decide) (fun c12 => ?_) (fun c12 => absurd (nI_le (a := 8) (by omega) (by omega)) c12)
      refine al0 (pc := 35) dX6_loseOldest_35 ?_
      refine gf_X6_18 (pc := 36) ht.1 ht.2.2.1 dX6_loseOldest_36 ?_
      refine g_bipush (pc := 39) dX6_loseOldest_39 kb7 ?_
      refine al1 (pc := 41) dX6_loseOldest_41 ?_
      refine g_astS (pc := 42) 7 ht.2.2.2.2 (by decide) (rfl) (by decide) ((hp 0 (by decide)).2.ob) dX6_loseOldest_42 ?_
      refine al0 (pc := 43) dX6_loseOldest_43 ?_
      refine g_bipush (pc := 44) dX6_loseOldest_44 kb7 ?_
      refine pf_X6_22 (pc := 46) ht.1 dX6_loseOldest_46 ?_
      exact retV (pc := 49) hR dX6_loseOldest_49 (by show sI (tO (tO d pa g) pa (va_up (gO (tO d pa g) pa) 7 (some (psO d pa 0)))) 194 t 7 = loD d t pa; rw [gO_tO, if_pos rfl, tO_tO, show g = rotG 7 0 (gO d pa) from hF, ← (hp 0 (by decide)).1, rotO_eq]; rfl)
    | succ n ih9 =>
      intro i g hin9 hg hF
      refine il2 (pc := 9) dX6_loseOldest_9 ?_
      refine g_bipush (pc := 10) dX6_loseOldest_10 kb8 ?_
      refine g_icmpge 35 (pc := 12) dX6_loseOldest_12 (by decide) (fun c12 => absurd c12 (nI_ge (b := 8) (by omega) (by omega))) (fun c12 => ?_)
      refine al0 (pc := 15) dX6_loseOldest_15 ?_
      refine gf_X6_18 (pc := 16) ht.1 ht.2.2.1 dX6_loseOldest_16 ?_
      refine il2 (pc := 19) dX6_loseOldest_19 ?_
      refine g_iconst (pc := 20) dX6_loseOldest_20 kc1 ?_
      refine g_isub (pc := 21) dX6_loseOldest_21 ?_
      refine al0 (pc := 22) dX6_loseOldest_22 ?_
      refine gf_X6_18 (pc := 23) ht.1 ht.2.2.1 dX6_loseOldest_23 ?_
      refine il2 (pc := 26) dX6_loseOldest_26 ?_
      obtain ⟨x9, hx9, hox9⟩ := hg (i + 1) (by omega)
      refine g_aldS (pc := 27) (i + 1) ht.2.2.2.2 (by omega) (rfl) (by decide) (by rw [gO_tO, if_pos rfl]; exact hx9) dX6_loseOldest_27 ?_
      refine g_astS (pc := 28) i ht.2.2.2.2 (by omega) (nI_pred i) (by decide) (hox9) dX6_loseOldest_28 ?_
      refine ic2 (pc := 29) dX6_loseOldest_29 kc1 rfl ?_
      refine g_goto 9 (pc := 32) dX6_loseOldest_32 (by decide) ?_
      rw [nI_1, gO_tO, if_pos rfl, tO_tO]
      exact ih9 (i + 1) _ (by omega) (mGup hg hox9) (by rw [← hF, rotG, hx9])
  have q9 := L9 7 0 (gO d pa) (by omega) (fun j hj => ⟨_, (hp j hj).1, (hp j hj).2.ob⟩) rfl
  rw [tO_self] at q9
  exact q9
theorem c_X6_keep {l : Launch} {G : mG} {Z : mZ} {d : mD} {t sc pa k : Nat} (ht : sty Z t sc pa) (hp : pst Z d pa) (hk : gI d 194 t = nI k) (hk8 : k ≤ 8) : CtV l G yX6_keep cX6_keep 1 3 102 [.ref t] Z d (keD Z d t sc pa k) := by
  have hp2 : pst Z (loD d t pa) pa := by
    intro i hi
    have e9 : gO (loD d t pa) pa i = rotO (gO d pa) i := by show gO (tO d pa _) pa i = _; rw [gO_tO, if_pos rfl]
    have h8 := hp (if i < 7 then i + 1 else 0) (by split <;> omega)
    have e8 : rotO (gO d pa) i = gO d pa (if i < 7 then i + 1 else 0) := by
      unfold rotO
      by_cases h7 : i < 7
      · rw [if_pos h7, if_pos h7]
      · rw [if_neg h7, if_neg h7, if_pos (by omega)]
    have e7 : psO (loD d t pa) pa i = psO d pa (if i < 7 then i + 1 else 0) := by unfold psO; rw [e9, e8]
    rw [e9, e8, e7]; exact h8
  refine enterV RX6 0 [some (.ref t)] (by decide) rfl rfl rfl (fun X hR => ?_)
  refine al0 (pc := 0) dX6_keep_0 ?_
  refine gf_X6_22 (pc := 1) ht.1 dX6_keep_1 ?_
  refine g_bipush (pc := 4) dX6_keep_4 kb8 ?_
  refine g_icmpne 13 (pc := 6) dX6_keep_6 (by decide) (fun c6 => ?_) (fun c6 => ?_)
  · skip
    have hk9 : ¬ k = 8 := fun h => c6 (by rw [hk, h]; rfl)
    refine al0 (pc := 13) dX6_keep_13 ?_
    refine gf_X6_18 (pc := 14) ht.1 ht.2.2.1 dX6_keep_14 ?_
    refine al0 (pc := 17) dX6_keep_17 ?_
    refine gf_X6_22 (pc := 18) ht.1 dX6_keep_18 ?_
    refine g_aldS (pc := 21) k ht.2.2.2.2 (by omega) (hk) (by decide) ((hp k (by omega)).1) dX6_keep_21 ?_
    refine al0 (pc := 22) dX6_keep_22 ?_
    refine gf_X6_12 (pc := 23) ht.1 ht.2.1 dX6_keep_23 ?_
    refine cl_X6_29 (pc := 26) (cz_X3_become (hp k (by omega)).2 ht.2.2.2.1) (hp k (by omega)).2.ob (by decide) ⟨Nat.zero_le _, Nat.zero_le _⟩ (Nat.le_of_ble_eq_true rfl) dX6_keep_26 ?_
    refine al0 (pc := 29) dX6_keep_29 ?_
    refine g_dupR (pc := 30) dX6_keep_30 ?_
    refine gf_X6_22 (pc := 31) ht.1 dX6_keep_31 ?_
    refine g_iconst (pc := 34) dX6_keep_34 kc1 ?_
    refine g_iadd (pc := 35) dX6_keep_35 ?_
    refine pf_X6_22 (pc := 36) ht.1 dX6_keep_36 ?_
    exact retV (pc := 39) hR dX6_keep_39 (by rw [gI_scBz _ _ _ _ _ _ (by decide) (by decide), hk, nI_1, keD, if_neg hk9])
  · skip
    have hk9 : k = 8 := by
      have h9 : nI k = nI 8 := by rw [← hk]; exact c6
      exact (nI_eq (by omega) (by decide)).mp h9
    refine al0 (pc := 9) dX6_keep_9 ?_
    refine cl_X6_26 (pc := 10) (c_X6_loseOldest ht hp) ht.1 (by decide) ⟨Nat.zero_le _, Nat.zero_le _⟩ (Nat.le_of_ble_eq_true rfl) dX6_keep_10 ?_
    refine al0 (pc := 13) dX6_keep_13 ?_
    refine gf_X6_18 (pc := 14) ht.1 ht.2.2.1 dX6_keep_14 ?_
    refine al0 (pc := 17) dX6_keep_17 ?_
    refine gf_X6_22 (pc := 18) ht.1 dX6_keep_18 ?_
    refine g_aldS (pc := 21) 7 ht.2.2.2.2 (by decide) (by show gI (sI _ 194 t 7) 194 t = _; rw [gI_sI, if_pos ⟨rfl, rfl⟩]; rfl) (by decide) ((hp2 7 (by decide)).1) dX6_keep_21 ?_
    refine al0 (pc := 22) dX6_keep_22 ?_
    refine gf_X6_12 (pc := 23) ht.1 ht.2.1 dX6_keep_23 ?_
    refine cl_X6_29 (pc := 26) (cz_X3_become (hp2 7 (by decide)).2 ht.2.2.2.1) (hp2 7 (by decide)).2.ob (by decide) ⟨Nat.zero_le _, Nat.zero_le _⟩ (Nat.le_of_ble_eq_true rfl) dX6_keep_26 ?_
    refine al0 (pc := 29) dX6_keep_29 ?_
    refine g_dupR (pc := 30) dX6_keep_30 ?_
    refine gf_X6_22 (pc := 31) ht.1 dX6_keep_31 ?_
    refine g_iconst (pc := 34) dX6_keep_34 kc1 ?_
    refine g_iadd (pc := 35) dX6_keep_35 ?_
    refine pf_X6_22 (pc := 36) ht.1 dX6_keep_36 ?_
    exact retV (pc := 39) hR dX6_keep_39 (by rw [gI_scBz _ _ _ _ _ _ (by decide) (by decide)]; show sI _ 194 t (gI (sI _ 194 t 7) 194 t + 1) = _; rw [gI_sI, if_pos ⟨rfl, rfl⟩, keD, if_pos hk9]; rfl)
theorem c_X6_goBack {l : Launch} {G : mG} {Z : mZ} {d : mD} {t sc pa k : Nat} (ht : sty Z t sc pa) (hp : pst Z d pa) (hk : gI d 194 t = nI k) (hk8 : k ≤ 8) (hk0 : 0 < k) : CtV l G yX6_goBack cX6_goBack 1 3 102 [.ref t] Z d (gbD Z d t sc pa k) := by
  have e1 : gI d 194 t - 1 = nI (k - 1) := by rw [hk]; obtain ⟨j, rfl⟩ : ∃ j, k = j + 1 := ⟨k - 1, by omega⟩; exact nI_pred j
  refine enterV RX6 0 [some (.ref t)] (by decide) rfl rfl rfl (fun X hR => ?_)
  refine al0 (pc := 0) dX6_goBack_0 ?_
  refine gf_X6_22 (pc := 1) ht.1 dX6_goBack_1 ?_
  refine g_ifle 33 (pc := 4) dX6_goBack_4 (by decide) (fun c4 => absurd c4 (by rw [hk]; exact nI_nle hk0 (by omega))) (fun c4 => ?_)
  refine al0 (pc := 7) dX6_goBack_7 ?_
  refine g_dupR (pc := 8) dX6_goBack_8 ?_
  refine gf_X6_22 (pc := 9) ht.1 dX6_goBack_9 ?_
  refine g_iconst (pc := 12) dX6_goBack_12 kc1 ?_
  refine g_isub (pc := 13) dX6_goBack_13 ?_
  refine pf_X6_22 (pc := 14) ht.1 dX6_goBack_14 ?_
  rw [e1]
  refine al0 (pc := 17) dX6_goBack_17 ?_
  refine gf_X6_12 (pc := 18) ht.1 ht.2.1 dX6_goBack_18 ?_
  refine al0 (pc := 21) dX6_goBack_21 ?_
  refine gf_X6_18 (pc := 22) ht.1 ht.2.2.1 dX6_goBack_22 ?_
  refine al0 (pc := 25) dX6_goBack_25 ?_
  refine gf_X6_22 (pc := 26) ht.1 dX6_goBack_26 ?_
  refine g_aldS (pc := 29) (k - 1) ht.2.2.2.2 (by omega) (by rw [gI_sI, if_pos ⟨rfl, rfl⟩]) (by decide) ((hp (k - 1) (by omega)).1) dX6_goBack_29 ?_
  refine cl_X6_29 (pc := 30) (cz_X3_become ht.2.2.2.1 (hp (k - 1) (by omega)).2) ht.2.2.2.1.ob (by decide) ⟨Nat.zero_le _, Nat.zero_le _⟩ (Nat.le_of_ble_eq_true rfl) dX6_goBack_30 ?_
  exact retV (pc := 33) hR dX6_goBack_33 (rfl)
theorem c_X6_become {l : Launch} {G : mG} {Z : mZ} {d : mD} {t sc pa t2 sc2 pb k : Nat} (ht : sty Z t sc pa) (hu : sty Z t2 sc2 pb) (hp : pst Z d pa) (hq : pst Z d pb) (hk : gI d 194 t2 = nI k) (hk8 : k ≤ 8) : CtV l G yX6_become cX6_become 3 3 102 [.ref t, .ref t2] Z d (stB Z pa pb k 0 (sI (scBz Z d sc sc2) 194 t (nI k))) := by
  refine enterV RX6 1 [some (.ref t), some (.ref t2), none] (by decide) rfl rfl rfl (fun X hR => ?_)
  refine al0 (pc := 0) dX6_become_0 ?_
  refine gf_X6_12 (pc := 1) ht.1 ht.2.1 dX6_become_1 ?_
  refine al1 (pc := 4) dX6_become_4 ?_
  refine gf_X6_12 (pc := 5) hu.1 hu.2.1 dX6_become_5 ?_
  refine cl_X6_29 (pc := 8) (cz_X3_become ht.2.2.2.1 hu.2.2.2.1) ht.2.2.2.1.ob (by decide) ⟨Nat.zero_le _, Nat.zero_le _⟩ (Nat.le_of_ble_eq_true rfl) dX6_become_8 ?_
  refine al0 (pc := 11) dX6_become_11 ?_
  refine al1 (pc := 12) dX6_become_12 ?_
  refine gf_X6_22 (pc := 13) hu.1 dX6_become_13 ?_
  refine pf_X6_22 (pc := 16) ht.1 dX6_become_16 ?_
  rw [gI_scBz _ _ _ _ _ _ (by decide) (by decide), hk]
  refine g_iconst (pc := 19) dX6_become_19 kc0 ?_
  refine is2 (pc := 20) dX6_become_20 rfl ?_
  have L21 : ∀ (n i : Nat) (e : mD), i + n = k → (pst Z e pa) → (pst Z e pb) → (gI e 194 t = nI k) → (stB Z pa pb n i e = stB Z pa pb k 0 (sI (scBz Z d sc sc2) 194 t (nI k))) → mGo l G (mRm 3 102) X RX6 cX6_become 3 0 0 Z 21 [some (.ref t), some (.ref t2), some (.int (nI i))] [] e := by
    intro n; induction n with
    | zero =>
      intro i e hin21 hp2 hq2 hek hF
      refine il2 (pc := 21) dX6_become_21 ?_
      refine al0 (pc := 22) dX6_become_22 ?_
      refine gf_X6_22 (pc := 23) ht.1 dX6_become_23 ?_
      refine g_icmpge 50 (pc := 26) dX6_become_26 (by decide) (fun c26 => ?_) (fun c26 => absurd (by rw [hek]; exact nI_le (by omega) (by omega)) c26)
      exact retV (pc := 50) hR dX6_become_50 (hF)
    | succ n ih21 =>
      intro i e hin21 hp2 hq2 hek hF
      refine il2 (pc := 21) dX6_become_21 ?_
      refine al0 (pc := 22) dX6_become_22 ?_
      refine gf_X6_22 (pc := 23) ht.1 dX6_become_23 ?_
      refine g_icmpge 50 (pc := 26) dX6_become_26 (by decide) (fun c26 => absurd c26 (by rw [hek]; exact nI_ge (by omega) (by omega))) (fun c26 => ?_)
      refine al0 (pc := 29) dX6_become_29 ?_
      refine gf_X6_18 (pc := 30) ht.1 ht.2.2.1 dX6_become_30 ?_
      refine il2 (pc := 33) dX6_become_33 ?_
      refine g_aldS (pc := 34) i ht.2.2.2.2 (by omega) (rfl) (by decide) ((hp2 i (by omega)).1) dX6_become_34 ?_
      refine al1 (pc := 35) dX6_become_35 ?_
      refine gf_X6_18 (pc := 36) hu.1 hu.2.2.1 dX6_become_36 ?_
      refine il2 (pc := 39) dX6_become_39 ?_
      refine g_aldS (pc := 40) i hu.2.2.2.2 (by omega) (rfl) (by decide) ((hq2 i (by omega)).1) dX6_become_40 ?_
      refine cl_X6_29 (pc := 41) (cz_X3_become (hp2 i (by omega)).2 (hq2 i (by omega)).2) (hp2 i (by omega)).2.ob (by decide) ⟨Nat.zero_le _, Nat.zero_le _⟩ (Nat.le_of_ble_eq_true rfl) dX6_become_41 ?_
      refine ic2 (pc := 44) dX6_become_44 kc1 rfl ?_
      refine g_goto 21 (pc := 47) dX6_become_47 (by decide) ?_
      rw [nI_1]
      exact ih21 (i + 1) _ (by omega) (hp2.scBz _ _) (hq2.scBz _ _) (by rw [gI_scBz _ _ _ _ _ _ (by decide) (by decide)]; exact hek) hF
  exact L21 k 0 _ (by omega) ((hp.scBz _ _).sI _ _ _) ((hq.scBz _ _).sI _ _ _) (by rw [gI_sI, if_pos ⟨rfl, rfl⟩]) rfl
theorem c_X7_add {l : Launch} {G : mG} {Z : mZ} {d : mD} {t le dt n : Nat} {c : Int32} (ht : tap Z t le dt) (hn : gI d 225 t = nI n) (hn2 : n ≤ 120) : CtI l G yX7_add cX7_add 2 .boolean 0 0 [.ref t, .int c] Z d (mB (n < 120)) (adD d t le n c) := by
  refine enterI RX7 0 [some (.ref t), some (.int c)] (by decide) rfl (narB _) rfl rfl (fun X hR => ?_)
  refine al0 (pc := 0) dX7_add_0 ?_
  refine gf_X7_15 (pc := 1) ht.1 dX7_add_1 ?_
  refine g_bipush (pc := 4) dX7_add_4 kb120 ?_
  refine g_icmplt 11 (pc := 6) dX7_add_6 (by decide) (fun c6 => ?_) (fun c6 => ?_)
  · skip
    have hlt : n < 120 := by
      rw [hn] at c6; exact (nI_ltI (b := 120) (by omega) (by decide)).mp c6
    refine al0 (pc := 11) dX7_add_11 ?_
    refine gf_X7_9 (pc := 12) ht.1 ht.2.1 dX7_add_12 ?_
    refine al0 (pc := 15) dX7_add_15 ?_
    refine gf_X7_15 (pc := 16) ht.1 dX7_add_16 ?_
    refine il1 (pc := 19) dX7_add_19 ?_
    refine g_iast (pc := 20) n ht.2.2.2.1 (hlt) (hn) (by decide) dX7_add_20 ?_
    refine al0 (pc := 21) dX7_add_21 ?_
    refine g_dupR (pc := 22) dX7_add_22 ?_
    refine gf_X7_15 (pc := 23) ht.1 dX7_add_23 ?_
    refine g_iconst (pc := 26) dX7_add_26 kc1 ?_
    refine g_iadd (pc := 27) dX7_add_27 ?_
    refine pf_X7_15 (pc := 28) ht.1 dX7_add_28 ?_
    refine g_iconst (pc := 31) dX7_add_31 kc1 ?_
    exact retI (pc := 32) hR dX7_add_32 ((mB_1 hlt).symm) (by rw [gI_tA, hn, nI_1, adD, if_pos hlt])
  · skip
    have hlt : ¬ n < 120 := fun h => c6 (by rw [hn]; exact nI_lt (b := 120) h (by decide))
    refine g_iconst (pc := 9) dX7_add_9 kc0 ?_
    exact retI (pc := 10) hR dX7_add_10 ((mB_0 hlt).symm) (by rw [adD, if_neg hlt])
set_option maxHeartbeats 1000000 in
theorem c_X7_canStand {l : Launch} {G : mG} {Z : mZ} {d : mD} {t le dt : Nat} {c rn : Int32} (ht : tap Z t le dt) : CtI l G yX7_canStand cX7_canStand 4 .boolean 0 0 [.ref t, .int c, .int rn] Z d (mB (canP (gI d 228 t) (gI d 227 t) c rn)) d := by
  refine enterI RX7 1 [some (.ref t), some (.int c), some (.int rn), none] (by decide) rfl (narB _) rfl rfl (fun X hR => ?_)
  refine al0 (pc := 0) dX7_canStand_0 ?_
  refine gf_X7_25 (pc := 1) ht.1 dX7_canStand_1 ?_
  refine g_ifne 31 (pc := 4) dX7_canStand_4 (by decide) (fun c4 => ?_) (fun c4 => ?_)
  · skip
    refine il1 (pc := 31) dX7_canStand_31 ?_
    refine g_bipush (pc := 32) dX7_canStand_32 kb48 ?_
    refine g_icmplt 47 (pc := 34) dX7_canStand_34 (by decide) (fun c34 => ?_) (fun c34 => ?_)
    · skip
      refine g_iconst (pc := 47) dX7_canStand_47 kc0 ?_
      refine is3 (pc := 48) dX7_canStand_48 rfl ?_
      refine al0 (pc := 49) dX7_canStand_49 ?_
      refine gf_X7_22 (pc := 50) ht.1 dX7_canStand_50 ?_
      refine g_bipush (pc := 53) dX7_canStand_53 kb96 ?_
      refine g_icmpge 76 (pc := 55) dX7_canStand_55 (by decide) (fun c55 => ?_) (fun c55 => ?_)
      · skip
        refine g_iconst (pc := 76) dX7_canStand_76 kc0 ?_
        exact retI (pc := 77) hR dX7_canStand_77 (by (try simp only [← Int32.not_lt, Decidable.not_not] at c4 c34 c55); simp [mB, canP, ← Int32.not_lt, c4, c34, c55]) (rfl)
      · skip
        refine il3 (pc := 58) dX7_canStand_58 ?_
        refine g_ifne 72 (pc := 59) dX7_canStand_59 (by decide) (fun c59 => absurd (by decide) c59) (fun c59 => ?_)
        refine il1 (pc := 62) dX7_canStand_62 ?_
        refine g_bipush (pc := 63) dX7_canStand_63 kb114 ?_
        refine g_icmpne 76 (pc := 65) dX7_canStand_65 (by decide) (fun c65 => ?_) (fun c65 => ?_)
        · skip
          refine g_iconst (pc := 76) dX7_canStand_76 kc0 ?_
          exact retI (pc := 77) hR dX7_canStand_77 (by (try simp only [← Int32.not_lt, Decidable.not_not] at c4 c34 c55 c59 c65); simp [mB, canP, ← Int32.not_lt, c4, c34, c55, c59, c65]) (rfl)
        · skip
          refine il2 (pc := 68) dX7_canStand_68 ?_
          refine g_ifne 76 (pc := 69) dX7_canStand_69 (by decide) (fun c69 => ?_) (fun c69 => ?_)
          · skip
            refine g_iconst (pc := 76) dX7_canStand_76 kc0 ?_
            exact retI (pc := 77) hR dX7_canStand_77 (by (try simp only [← Int32.not_lt, Decidable.not_not] at c4 c34 c55 c59 c65 c69); simp [mB, canP, ← Int32.not_lt, c4, c34, c55, c59, c65, c69]) (rfl)
          · skip
            refine g_iconst (pc := 72) dX7_canStand_72 kc1 ?_
            refine g_goto 77 (pc := 73) dX7_canStand_73 (by decide) ?_
            exact retI (pc := 77) hR dX7_canStand_77 (by (try simp only [← Int32.not_lt, Decidable.not_not] at c4 c34 c55 c59 c65 c69); simp [mB, canP, ← Int32.not_lt, c4, c34, c55, c59, c65, c69]) (rfl)
    · skip
      refine il1 (pc := 37) dX7_canStand_37 ?_
      refine g_bipush (pc := 38) dX7_canStand_38 kb57 ?_
      refine g_icmpgt 47 (pc := 40) dX7_canStand_40 (by decide) (fun c40 => ?_) (fun c40 => ?_)
      · skip
        refine g_iconst (pc := 47) dX7_canStand_47 kc0 ?_
        refine is3 (pc := 48) dX7_canStand_48 rfl ?_
        refine al0 (pc := 49) dX7_canStand_49 ?_
        refine gf_X7_22 (pc := 50) ht.1 dX7_canStand_50 ?_
        refine g_bipush (pc := 53) dX7_canStand_53 kb96 ?_
        refine g_icmpge 76 (pc := 55) dX7_canStand_55 (by decide) (fun c55 => ?_) (fun c55 => ?_)
        · skip
          refine g_iconst (pc := 76) dX7_canStand_76 kc0 ?_
          exact retI (pc := 77) hR dX7_canStand_77 (by (try simp only [← Int32.not_lt, Decidable.not_not] at c4 c34 c40 c55); simp [mB, canP, ← Int32.not_lt, c4, c34, c40, c55]) (rfl)
        · skip
          refine il3 (pc := 58) dX7_canStand_58 ?_
          refine g_ifne 72 (pc := 59) dX7_canStand_59 (by decide) (fun c59 => absurd (by decide) c59) (fun c59 => ?_)
          refine il1 (pc := 62) dX7_canStand_62 ?_
          refine g_bipush (pc := 63) dX7_canStand_63 kb114 ?_
          refine g_icmpne 76 (pc := 65) dX7_canStand_65 (by decide) (fun c65 => ?_) (fun c65 => ?_)
          · skip
            refine g_iconst (pc := 76) dX7_canStand_76 kc0 ?_
            exact retI (pc := 77) hR dX7_canStand_77 (by (try simp only [← Int32.not_lt, Decidable.not_not] at c4 c34 c40 c55 c59 c65); simp [mB, canP, ← Int32.not_lt, c4, c34, c40, c55, c59, c65]) (rfl)
          · skip
            refine il2 (pc := 68) dX7_canStand_68 ?_
            refine g_ifne 76 (pc := 69) dX7_canStand_69 (by decide) (fun c69 => ?_) (fun c69 => ?_)
            · skip
              refine g_iconst (pc := 76) dX7_canStand_76 kc0 ?_
              exact retI (pc := 77) hR dX7_canStand_77 (by (try simp only [← Int32.not_lt, Decidable.not_not] at c4 c34 c40 c55 c59 c65 c69); simp [mB, canP, ← Int32.not_lt, c4, c34, c40, c55, c59, c65, c69]) (rfl)
            · skip
              refine g_iconst (pc := 72) dX7_canStand_72 kc1 ?_
              refine g_goto 77 (pc := 73) dX7_canStand_73 (by decide) ?_
              exact retI (pc := 77) hR dX7_canStand_77 (by (try simp only [← Int32.not_lt, Decidable.not_not] at c4 c34 c40 c55 c59 c65 c69); simp [mB, canP, ← Int32.not_lt, c4, c34, c40, c55, c59, c65, c69]) (rfl)
      · skip
        refine g_iconst (pc := 43) dX7_canStand_43 kc1 ?_
        refine g_goto 48 (pc := 44) dX7_canStand_44 (by decide) ?_
        refine is3 (pc := 48) dX7_canStand_48 rfl ?_
        refine al0 (pc := 49) dX7_canStand_49 ?_
        refine gf_X7_22 (pc := 50) ht.1 dX7_canStand_50 ?_
        refine g_bipush (pc := 53) dX7_canStand_53 kb96 ?_
        refine g_icmpge 76 (pc := 55) dX7_canStand_55 (by decide) (fun c55 => ?_) (fun c55 => ?_)
        · skip
          refine g_iconst (pc := 76) dX7_canStand_76 kc0 ?_
          exact retI (pc := 77) hR dX7_canStand_77 (by (try simp only [← Int32.not_lt, Decidable.not_not] at c4 c34 c40 c55); simp [mB, canP, ← Int32.not_lt, c4, c34, c40, c55]) (rfl)
        · skip
          refine il3 (pc := 58) dX7_canStand_58 ?_
          refine g_ifne 72 (pc := 59) dX7_canStand_59 (by decide) (fun c59 => ?_) (fun c59 => absurd c59 (by decide))
          refine g_iconst (pc := 72) dX7_canStand_72 kc1 ?_
          refine g_goto 77 (pc := 73) dX7_canStand_73 (by decide) ?_
          exact retI (pc := 77) hR dX7_canStand_77 (by (try simp only [← Int32.not_lt, Decidable.not_not] at c4 c34 c40 c55 c59); simp [mB, canP, ← Int32.not_lt, c4, c34, c40, c55, c59]) (rfl)
  · skip
    refine il1 (pc := 7) dX7_canStand_7 ?_
    refine g_bipush (pc := 8) dX7_canStand_8 kb111 ?_
    refine g_icmpeq 25 (pc := 10) dX7_canStand_10 (by decide) (fun c10 => ?_) (fun c10 => ?_)
    · skip
      refine g_iconst (pc := 25) dX7_canStand_25 kc1 ?_
      refine g_goto 30 (pc := 26) dX7_canStand_26 (by decide) ?_
      exact retI (pc := 30) hR dX7_canStand_30 (by (try simp only [← Int32.not_lt, Decidable.not_not] at c4 c10); simp [mB, canP, ← Int32.not_lt, c4, c10]) (rfl)
    · skip
      refine il1 (pc := 13) dX7_canStand_13 ?_
      refine g_bipush (pc := 14) dX7_canStand_14 kb110 ?_
      refine g_icmpeq 25 (pc := 16) dX7_canStand_16 (by decide) (fun c16 => ?_) (fun c16 => ?_)
      · skip
        refine g_iconst (pc := 25) dX7_canStand_25 kc1 ?_
        refine g_goto 30 (pc := 26) dX7_canStand_26 (by decide) ?_
        exact retI (pc := 30) hR dX7_canStand_30 (by (try simp only [← Int32.not_lt, Decidable.not_not] at c4 c10 c16); simp [mB, canP, ← Int32.not_lt, c4, c10, c16]) (rfl)
      · skip
        refine il1 (pc := 19) dX7_canStand_19 ?_
        refine g_bipush (pc := 20) dX7_canStand_20 kb98 ?_
        refine g_icmpne 29 (pc := 22) dX7_canStand_22 (by decide) (fun c22 => ?_) (fun c22 => ?_)
        · skip
          refine g_iconst (pc := 29) dX7_canStand_29 kc0 ?_
          exact retI (pc := 30) hR dX7_canStand_30 (by (try simp only [← Int32.not_lt, Decidable.not_not] at c4 c10 c16 c22); simp [mB, canP, ← Int32.not_lt, c4, c10, c16, c22]) (rfl)
        · skip
          refine g_iconst (pc := 25) dX7_canStand_25 kc1 ?_
          refine g_goto 30 (pc := 26) dX7_canStand_26 (by decide) ?_
          exact retI (pc := 30) hR dX7_canStand_30 (by (try simp only [← Int32.not_lt, Decidable.not_not] at c4 c10 c16 c22); simp [mB, canP, ← Int32.not_lt, c4, c10, c16, c22]) (rfl)
theorem c_X7_tell {l : Launch} {G : mG} {Z : mZ} {d : mD} {t le dt td : Nat} {fg rn : Int32} (ht : tap Z t le dt) (htd : gI d 227 t = nI td) (hlt : td < 96) : CtV l G yX7_tell cX7_tell 5 0 0 [.ref t, .int fg, .int rn] Z d (teD d t dt td fg rn) := by
  have hgt := endN_gt td rn
  have hle := endN_le rn hlt
  have hend := endN_nI rn hlt
  rw [← htd] at hend
  refine enterV RX7 2 [some (.ref t), some (.int fg), some (.int rn), none, none] (by decide) rfl rfl rfl (fun X hR => ?_)
  refine il2 (pc := 0) dX7_tell_0 ?_
  refine g_ifeq 19 (pc := 1) dX7_tell_1 (by decide) (fun c1 => ?_) (fun c1 => ?_)
  · skip
    rw [if_pos c1] at hend
    refine al0 (pc := 19) dX7_tell_19 ?_
    refine gf_X7_22 (pc := 20) ht.1 dX7_tell_20 ?_
    refine g_iconst (pc := 23) dX7_tell_23 kc1 ?_
    refine g_iadd (pc := 24) dX7_tell_24 ?_
    rw [hend]
    refine is3 (pc := 25) dX7_tell_25 rfl ?_
    refine al0 (pc := 26) dX7_tell_26 ?_
    refine gf_X7_22 (pc := 27) ht.1 dX7_tell_27 ?_
    rw [htd]
    refine is4 (pc := 30) dX7_tell_30 rfl ?_
    have L32 : ∀ (n i : Nat) (f : Nat → Int32), i + n = (endN td rn - td) → (filI fg n (td + i) f = filI fg (endN td rn - td) td (gA d dt)) → mGo l G (mRm 0 0) X RX7 cX7_tell 5 0 0 Z 32 [some (.ref t), some (.int fg), some (.int rn), some (.int (nI (endN td rn))), some (.int (nI (td + i)))] [] (tA d dt f) := by
      intro n; induction n with
      | zero =>
        intro i f hin32 hF
        refine il4 (pc := 32) dX7_tell_32 ?_
        refine il3 (pc := 34) dX7_tell_34 ?_
        refine g_icmpge 59 (pc := 35) dX7_tell_35 (by decide) (fun c35 => ?_) (fun c35 => absurd (nI_le (by omega) (by omega)) c35)
        refine al0 (pc := 59) dX7_tell_59 ?_
        refine il3 (pc := 60) dX7_tell_60 ?_
        refine pf_X7_22 (pc := 61) ht.1 dX7_tell_61 ?_
        exact retV (pc := 64) hR dX7_tell_64 (by rw [teD, ← hF]; rfl)
      | succ n ih32 =>
        intro i f hin32 hF
        refine il4 (pc := 32) dX7_tell_32 ?_
        refine il3 (pc := 34) dX7_tell_34 ?_
        refine g_icmpge 59 (pc := 35) dX7_tell_35 (by decide) (fun c35 => absurd c35 (nI_ge (by omega) (by omega))) (fun c35 => ?_)
        refine il4 (pc := 38) dX7_tell_38 ?_
        refine g_bipush (pc := 40) dX7_tell_40 kb96 ?_
        refine g_icmpge 59 (pc := 42) dX7_tell_42 (by decide) (fun c42 => absurd c42 (nI_ge (b := 96) (by omega) (by omega))) (fun c42 => ?_)
        refine al0 (pc := 45) dX7_tell_45 ?_
        refine gf_X7_19 (pc := 46) ht.1 ht.2.2.1 dX7_tell_46 ?_
        refine il4 (pc := 49) dX7_tell_49 ?_
        refine il1 (pc := 51) dX7_tell_51 ?_
        refine g_iast (pc := 52) (td + i) ht.2.2.2.2 (by omega) (rfl) (by decide) dX7_tell_52 ?_
        refine ic4 (pc := 53) dX7_tell_53 kc1 rfl ?_
        refine g_goto 32 (pc := 56) dX7_tell_56 (by decide) ?_
        rw [nI_1, gA_tA, if_pos rfl, tA_tA]
        exact ih32 (i + 1) _ (by omega) hF
    rw [← tA_self d dt]
    exact L32 (endN td rn - td) 0 _ (by omega) rfl
  · skip
    rw [if_neg c1] at hend
    refine al0 (pc := 4) dX7_tell_4 ?_
    refine gf_X7_22 (pc := 5) ht.1 dX7_tell_5 ?_
    refine g_bipush (pc := 8) dX7_tell_8 kb12 ?_
    refine g_idiv (pc := 10) dX7_tell_10 (by decide) ?_
    refine g_iconst (pc := 11) dX7_tell_11 kc1 ?_
    refine g_iadd (pc := 12) dX7_tell_12 ?_
    refine g_bipush (pc := 13) dX7_tell_13 kb12 ?_
    refine g_imul (pc := 15) dX7_tell_15 ?_
    refine g_goto 25 (pc := 16) dX7_tell_16 (by decide) ?_
    rw [hend]
    refine is3 (pc := 25) dX7_tell_25 rfl ?_
    refine al0 (pc := 26) dX7_tell_26 ?_
    refine gf_X7_22 (pc := 27) ht.1 dX7_tell_27 ?_
    rw [htd]
    refine is4 (pc := 30) dX7_tell_30 rfl ?_
    have L32 : ∀ (n i : Nat) (f : Nat → Int32), i + n = (endN td rn - td) → (filI fg n (td + i) f = filI fg (endN td rn - td) td (gA d dt)) → mGo l G (mRm 0 0) X RX7 cX7_tell 5 0 0 Z 32 [some (.ref t), some (.int fg), some (.int rn), some (.int (nI (endN td rn))), some (.int (nI (td + i)))] [] (tA d dt f) := by
      intro n; induction n with
      | zero =>
        intro i f hin32 hF
        refine il4 (pc := 32) dX7_tell_32 ?_
        refine il3 (pc := 34) dX7_tell_34 ?_
        refine g_icmpge 59 (pc := 35) dX7_tell_35 (by decide) (fun c35 => ?_) (fun c35 => absurd (nI_le (by omega) (by omega)) c35)
        refine al0 (pc := 59) dX7_tell_59 ?_
        refine il3 (pc := 60) dX7_tell_60 ?_
        refine pf_X7_22 (pc := 61) ht.1 dX7_tell_61 ?_
        exact retV (pc := 64) hR dX7_tell_64 (by rw [teD, ← hF]; rfl)
      | succ n ih32 =>
        intro i f hin32 hF
        refine il4 (pc := 32) dX7_tell_32 ?_
        refine il3 (pc := 34) dX7_tell_34 ?_
        refine g_icmpge 59 (pc := 35) dX7_tell_35 (by decide) (fun c35 => absurd c35 (nI_ge (by omega) (by omega))) (fun c35 => ?_)
        refine il4 (pc := 38) dX7_tell_38 ?_
        refine g_bipush (pc := 40) dX7_tell_40 kb96 ?_
        refine g_icmpge 59 (pc := 42) dX7_tell_42 (by decide) (fun c42 => absurd c42 (nI_ge (b := 96) (by omega) (by omega))) (fun c42 => ?_)
        refine al0 (pc := 45) dX7_tell_45 ?_
        refine gf_X7_19 (pc := 46) ht.1 ht.2.2.1 dX7_tell_46 ?_
        refine il4 (pc := 49) dX7_tell_49 ?_
        refine il1 (pc := 51) dX7_tell_51 ?_
        refine g_iast (pc := 52) (td + i) ht.2.2.2.2 (by omega) (rfl) (by decide) dX7_tell_52 ?_
        refine ic4 (pc := 53) dX7_tell_53 kc1 rfl ?_
        refine g_goto 32 (pc := 56) dX7_tell_56 (by decide) ?_
        rw [nI_1, gA_tA, if_pos rfl, tA_tA]
        exact ih32 (i + 1) _ (by omega) hF
    rw [← tA_self d dt]
    exact L32 (endN td rn - td) 0 _ (by omega) rfl
theorem c_X7_read {l : Launch} {G : mG} {Z : mZ} {d : mD} {t le dt n9 : Nat} (ht : tap Z t le dt) (hsz : gI d 225 t = nI n9) (hn2 : n9 ≤ 120) (hne : le ≠ dt) : CtI l G yX7_read cX7_read 4 .int 1 24 [.ref t] Z d (rdL (gA d le) n9 n9 0 (gA d dt) 0 0 0).1 (tpD d t dt (rdL (gA d le) n9 n9 0 (gA d dt) 0 0 0).2.1 (rdL (gA d le) n9 n9 0 (gA d dt) 0 0 0).2.2.1 (nI (rdL (gA d le) n9 n9 0 (gA d dt) 0 0 0).2.2.2)) := by
  refine enterI RX7 3 [some (.ref t), none, none, none] (by decide) rfl (rfl) rfl rfl (fun X hR => ?_)
  refine al0 (pc := 0) dX7_read_0 ?_
  refine g_iconst (pc := 1) dX7_read_1 kc0 ?_
  refine pf_X7_25 (pc := 2) ht.1 dX7_read_2 ?_
  refine al0 (pc := 5) dX7_read_5 ?_
  refine g_iconst (pc := 6) dX7_read_6 kc0 ?_
  refine pf_X7_22 (pc := 7) ht.1 dX7_read_7 ?_
  refine g_iconst (pc := 10) dX7_read_10 kc0 ?_
  refine is1 (pc := 11) dX7_read_11 rfl ?_
  refine g_iconst (pc := 12) dX7_read_12 kc0 ?_
  refine is2 (pc := 13) dX7_read_13 rfl ?_
  have L14 : ∀ (n i : Nat) (f : Nat → Int32) (tg : Int32) (td : Nat) (rn : Int32), i + n = n9 → (td ≤ 96) → (rdL (gA d le) n9 n i f tg td rn = rdL (gA d le) n9 n9 0 (gA d dt) 0 0 0) → mGo l G (mRm 1 24) X RX7 cX7_read 4 0 0 Z 14 [some (.ref t), some (.int rn), some (.int (nI i)), none] [] (tpD d t dt f tg (nI td)) := by
    intro n; induction n with
    | zero =>
      intro i f tg td rn hin14 htd hF
      refine il2 (pc := 14) dX7_read_14 ?_
      refine al0 (pc := 15) dX7_read_15 ?_
      refine gf_X7_15 (pc := 16) ht.1 dX7_read_16 ?_
      refine g_icmpge 95 (pc := 19) dX7_read_19 (by decide) (fun c19 => ?_) (fun c19 => absurd (by rw [gI_tp225, hsz]; exact nI_le (by omega) (by omega)) c19)
      refine al0 (pc := 95) dX7_read_95 ?_
      refine gf_X7_25 (pc := 96) ht.1 dX7_read_96 ?_
      rw [gI_tp228]
      refine g_ifeq 106 (pc := 99) dX7_read_99 (by decide) (fun c99 => ?_) (fun c99 => ?_)
      · skip
        refine g_ldc (pc := 106) dX7_read_106 wk_X7_32 ?_
        refine al0 (pc := 108) dX7_read_108 ?_
        refine gf_X7_15 (pc := 109) ht.1 dX7_read_109 ?_
        refine g_isub (pc := 112) dX7_read_112 ?_
        exact retI (pc := 113) hR dX7_read_113 (by rw [gI_tp225, hsz, ← hF, rdL, if_pos (Or.inl c99)]) (by rw [← hF, rdL, if_pos (Or.inl c99)])
      · skip
        refine il1 (pc := 102) dX7_read_102 ?_
        refine g_ifeq 114 (pc := 103) dX7_read_103 (by decide) (fun c103 => ?_) (fun c103 => ?_)
        · skip
          refine al0 (pc := 114) dX7_read_114 ?_
          refine gf_X7_22 (pc := 115) ht.1 dX7_read_115 ?_
          rw [gI_tp227]
          refine is2 (pc := 118) dX7_read_118 rfl ?_
          have L119 : ∀ (n2 i2 : Nat) (g : Nat → Int32), i2 + n2 = (96 - td) → (filI 0 n2 (td + i2) g = filI 0 (96 - td) td f) → mGo l G (mRm 1 24) X RX7 cX7_read 4 0 0 Z 119 [some (.ref t), some (.int rn), some (.int (nI (td + i2))), none] [] (tpD d t dt g tg (nI td)) := by
            intro n2; induction n2 with
            | zero =>
              intro i2 g hin119 hG
              refine il2 (pc := 119) dX7_read_119 ?_
              refine g_bipush (pc := 120) dX7_read_120 kb96 ?_
              refine g_icmpge 138 (pc := 122) dX7_read_122 (by decide) (fun c122 => ?_) (fun c122 => absurd (nI_le (a := 96) (by omega) (by omega)) c122)
              refine al0 (pc := 138) dX7_read_138 ?_
              refine gf_X7_22 (pc := 139) ht.1 dX7_read_139 ?_
              exact retI (pc := 142) hR dX7_read_142 (by rw [gI_tp227, ← hF, rdL, if_neg (fun h => h.elim c99 (fun h2 => h2 c103))]) (by rw [← hF, rdL, if_neg (fun h => h.elim c99 (fun h2 => h2 c103)), show g = _ from hG])
            | succ n2 ih119 =>
              intro i2 g hin119 hG
              refine il2 (pc := 119) dX7_read_119 ?_
              refine g_bipush (pc := 120) dX7_read_120 kb96 ?_
              refine g_icmpge 138 (pc := 122) dX7_read_122 (by decide) (fun c122 => absurd c122 (nI_ge (b := 96) (by omega) (by omega))) (fun c122 => ?_)
              refine al0 (pc := 125) dX7_read_125 ?_
              refine gf_X7_19 (pc := 126) ht.1 ht.2.2.1 dX7_read_126 ?_
              refine il2 (pc := 129) dX7_read_129 ?_
              refine g_iconst (pc := 130) dX7_read_130 kc0 ?_
              refine g_iast (pc := 131) (td + i2) ht.2.2.2.2 (by omega) (rfl) (by decide) dX7_read_131 ?_
              refine ic2 (pc := 132) dX7_read_132 kc1 rfl ?_
              refine g_goto 119 (pc := 135) dX7_read_135 (by decide) ?_
              rw [nI_1, gA_tp, tp_fill]
              exact ih119 (i2 + 1) _ (by omega) hG
          exact L119 (96 - td) 0 f (by omega) rfl
        · skip
          refine g_ldc (pc := 106) dX7_read_106 wk_X7_32 ?_
          refine al0 (pc := 108) dX7_read_108 ?_
          refine gf_X7_15 (pc := 109) ht.1 dX7_read_109 ?_
          refine g_isub (pc := 112) dX7_read_112 ?_
          exact retI (pc := 113) hR dX7_read_113 (by rw [gI_tp225, hsz, ← hF, rdL, if_pos (Or.inr c103)]) (by rw [← hF, rdL, if_pos (Or.inr c103)])
    | succ n ih14 =>
      intro i f tg td rn hin14 htd hF
      refine il2 (pc := 14) dX7_read_14 ?_
      refine al0 (pc := 15) dX7_read_15 ?_
      refine gf_X7_15 (pc := 16) ht.1 dX7_read_16 ?_
      refine g_icmpge 95 (pc := 19) dX7_read_19 (by decide) (fun c19 => absurd c19 (by rw [gI_tp225, hsz]; exact nI_ge (by omega) (by omega))) (fun c19 => ?_)
      refine al0 (pc := 22) dX7_read_22 ?_
      refine gf_X7_9 (pc := 23) ht.1 ht.2.1 dX7_read_23 ?_
      refine il2 (pc := 26) dX7_read_26 ?_
      refine g_iald (pc := 27) i ht.2.2.2.1 (by omega) (rfl) (by decide) dX7_read_27 ?_
      rw [gA_tpo _ _ _ _ _ _ _ hne]
      refine is3 (pc := 28) dX7_read_28 rfl ?_
      refine il3 (pc := 29) dX7_read_29 ?_
      refine g_bipush (pc := 30) dX7_read_30 kb32 ?_
      refine g_icmpne 38 (pc := 32) dX7_read_32 (by decide) (fun c32 => ?_) (fun c32 => ?_)
      · skip
        refine al0 (pc := 38) dX7_read_38 ?_
        refine il3 (pc := 39) dX7_read_39 ?_
        refine il1 (pc := 40) dX7_read_40 ?_
        refine cl_X7_28 (pc := 41) (c_X7_canStand ht) ht.1 (by decide) ⟨Nat.zero_le _, Nat.zero_le _⟩ (Nat.le_of_ble_eq_true rfl) dX7_read_41 ?_
        rw [gI_tp228, gI_tp227]
        refine g_ifne 52 (pc := 44) dX7_read_44 (by decide) (fun c44 => ?_) (fun c44 => ?_)
        · skip
          rw [mB_ne0] at c44
          refine al0 (pc := 52) dX7_read_52 ?_
          refine gf_X7_25 (pc := 53) ht.1 dX7_read_53 ?_
          rw [gI_tp228]
          refine g_ifne 67 (pc := 56) dX7_read_56 (by decide) (fun c56 => ?_) (fun c56 => ?_)
          · skip
            refine il3 (pc := 67) dX7_read_67 ?_
            refine g_bipush (pc := 68) dX7_read_68 kb114 ?_
            refine g_icmpne 78 (pc := 70) dX7_read_70 (by decide) (fun c70 => ?_) (fun c70 => ?_)
            · skip
              refine al0 (pc := 78) dX7_read_78 ?_
              refine il3 (pc := 79) dX7_read_79 ?_
              refine g_bipush (pc := 80) dX7_read_80 kb48 ?_
              refine g_isub (pc := 82) dX7_read_82 ?_
              refine il1 (pc := 83) dX7_read_83 ?_
              have hlt : td < 96 := by
                rcases c44 with ⟨h, _⟩ | ⟨_, h, _⟩
                · exact absurd h c56
                · exact (nI_ltI (b := 96) (by omega) (by decide)).mp h
              refine cl_X7_33 (pc := 84) (c_X7_tell ht (gI_tp227 _ _ _ _ _ _) hlt) ht.1 (by decide) ⟨Nat.zero_le _, Nat.zero_le _⟩ (Nat.le_of_ble_eq_true rfl) dX7_read_84 ?_
              rw [tp_tell]
              refine g_iconst (pc := 87) dX7_read_87 kc0 ?_
              refine is1 (pc := 88) dX7_read_88 rfl ?_
              refine ic2 (pc := 89) dX7_read_89 kc1 rfl ?_
              refine g_goto 14 (pc := 92) dX7_read_92 (by decide) ?_
              rw [nI_1]
              refine dr3 ?_
              exact ih14 (i + 1) _ _ _ _ (by omega) (endN_le rn hlt) (by rw [← hF, rdL, if_neg c32, if_neg (fun h => h c44), if_neg c56, if_neg c70])
            · skip
              refine g_iconst (pc := 73) dX7_read_73 kc1 ?_
              refine is1 (pc := 74) dX7_read_74 rfl ?_
              refine g_goto 89 (pc := 75) dX7_read_75 (by decide) ?_
              refine ic2 (pc := 89) dX7_read_89 kc1 rfl ?_
              refine g_goto 14 (pc := 92) dX7_read_92 (by decide) ?_
              rw [nI_1]
              refine dr3 ?_
              exact ih14 (i + 1) _ _ _ _ (by omega) htd (by rw [← hF, rdL, if_neg c32, if_neg (fun h => h c44), if_neg c56, if_pos c70])
          · skip
            refine al0 (pc := 59) dX7_read_59 ?_
            refine il3 (pc := 60) dX7_read_60 ?_
            refine pf_X7_25 (pc := 61) ht.1 dX7_read_61 ?_
            rw [tp_228]
            refine g_goto 89 (pc := 64) dX7_read_64 (by decide) ?_
            refine ic2 (pc := 89) dX7_read_89 kc1 rfl ?_
            refine g_goto 14 (pc := 92) dX7_read_92 (by decide) ?_
            rw [nI_1]
            refine dr3 ?_
            exact ih14 (i + 1) _ _ _ _ (by omega) htd (by rw [← hF, rdL, if_neg c32, if_neg (fun h => h c44), if_pos c56])
        · skip
          rw [mB_eq0] at c44
          refine g_ldc (pc := 47) dX7_read_47 wk_X7_32 ?_
          refine il2 (pc := 49) dX7_read_49 ?_
          refine g_isub (pc := 50) dX7_read_50 ?_
          exact retI (pc := 51) hR dX7_read_51 (by rw [← hF, rdL, if_neg c32, if_pos c44]) (by rw [← hF, rdL, if_neg c32, if_pos c44])
      · skip
        refine g_goto 89 (pc := 35) dX7_read_35 (by decide) ?_
        refine ic2 (pc := 89) dX7_read_89 kc1 rfl ?_
        refine g_goto 14 (pc := 92) dX7_read_92 (by decide) ?_
        rw [nI_1]
        refine dr3 ?_
        exact ih14 (i + 1) _ _ _ _ (by omega) htd (by rw [← hF, rdL, if_pos c32])
  have q9 := L14 n9 0 (gA d dt) 0 0 0 (by omega) (by omega) rfl
  rw [show tpD d t dt (gA d dt) 0 (nI 0) = sI (sI d 228 t 0) 227 t 0 from tA_self (sI (sI d 228 t 0) 227 t 0) dt] at q9
  refine dr3 ?_
  exact q9
end
