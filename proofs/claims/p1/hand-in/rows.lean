section
-- ===== PART A: goes FIRST, ahead of the names: the tables' words, and 'selects' of the private methods out of them =====
/-- a private method of a class that the tables say can be made, by its rows of tables_1 -/
def lw_okq (q : MethodName × Nat) : Prop := (q.1.cls ≠ "java/lang/invoke/MethodHandle" ∧ q.1.cls ≠ "java/lang/invoke/VarHandle") ∧ Cond.instantiable q.1.cls q.2 ∈ tables_1 ∧ Cond.privateMethod q.1 ∈ tables_1 ∧ Cond.instanceMethod q.1 ∈ tables_1
theorem lw_p0 : lw_okq (⟨"ExactLoom$Block", "entryEnd", "(I)I"⟩, 3) := ⟨⟨by decide +kernel, by decide +kernel⟩, List.mem_of_getElem? (i := 178) (by decide +kernel), List.mem_of_getElem? (i := 228) (by decide +kernel), List.mem_of_getElem? (i := 229) (by decide +kernel)⟩
theorem lw_p1 : lw_okq (⟨"ExactLoom$Scribe", "word", "(Ljava/lang/String;)V"⟩, 3) := ⟨⟨by decide +kernel, by decide +kernel⟩, List.mem_of_getElem? (i := 146) (by decide +kernel), List.mem_of_getElem? (i := 238) (by decide +kernel), List.mem_of_getElem? (i := 239) (by decide +kernel)⟩
theorem lw_p2 : lw_okq (⟨"ExactLoom$Scribe", "number", "(IJ)V"⟩, 3) := ⟨⟨by decide +kernel, by decide +kernel⟩, List.mem_of_getElem? (i := 146) (by decide +kernel), List.mem_of_getElem? (i := 292) (by decide +kernel), List.mem_of_getElem? (i := 293) (by decide +kernel)⟩
theorem lw_p3 : lw_okq (⟨"ExactLoom$Scribe", "endLine", "()V"⟩, 3) := ⟨⟨by decide +kernel, by decide +kernel⟩, List.mem_of_getElem? (i := 146) (by decide +kernel), List.mem_of_getElem? (i := 297) (by decide +kernel), List.mem_of_getElem? (i := 298) (by decide +kernel)⟩
theorem lw_p4 : lw_okq (⟨"ExactLoom$Scribe", "writeEntry", "(LExactLoom$Row;I)V"⟩, 3) := ⟨⟨by decide +kernel, by decide +kernel⟩, List.mem_of_getElem? (i := 146) (by decide +kernel), List.mem_of_getElem? (i := 313) (by decide +kernel), List.mem_of_getElem? (i := 314) (by decide +kernel)⟩
theorem lw_p5 : lw_okq (⟨"ExactLoom$Scribe", "name", "(LExactLoom$Row;II)V"⟩, 3) := ⟨⟨by decide +kernel, by decide +kernel⟩, List.mem_of_getElem? (i := 146) (by decide +kernel), List.mem_of_getElem? (i := 324) (by decide +kernel), List.mem_of_getElem? (i := 325) (by decide +kernel)⟩
theorem lw_p6 : lw_okq (⟨"ExactLoom$Scribe", "bareBytes", "(LExactLoom$Row;II)V"⟩, 3) := ⟨⟨by decide +kernel, by decide +kernel⟩, List.mem_of_getElem? (i := 146) (by decide +kernel), List.mem_of_getElem? (i := 331) (by decide +kernel), List.mem_of_getElem? (i := 332) (by decide +kernel)⟩
theorem lw_p7 : lw_okq (⟨"ExactLoom$Scribe", "writeField", "(LExactLoom$Row;I)V"⟩, 3) := ⟨⟨by decide +kernel, by decide +kernel⟩, List.mem_of_getElem? (i := 146) (by decide +kernel), List.mem_of_getElem? (i := 340) (by decide +kernel), List.mem_of_getElem? (i := 341) (by decide +kernel)⟩
theorem lw_p8 : lw_okq (⟨"ExactLoom$Scribe", "writeCode", "(LExactLoom$Block;I)V"⟩, 3) := ⟨⟨by decide +kernel, by decide +kernel⟩, List.mem_of_getElem? (i := 146) (by decide +kernel), List.mem_of_getElem? (i := 345) (by decide +kernel), List.mem_of_getElem? (i := 346) (by decide +kernel)⟩
theorem lw_p9 : lw_okq (⟨"ExactLoom$Marks", "findTargetsOf", "(LExactLoom$Row;II)V"⟩, 2) := ⟨⟨by decide +kernel, by decide +kernel⟩, List.mem_of_getElem? (i := 154) (by decide +kernel), List.mem_of_getElem? (i := 379) (by decide +kernel), List.mem_of_getElem? (i := 380) (by decide +kernel)⟩
theorem lw_p10 : lw_okq (⟨"ExactLoom$Scribe", "writePlace", "(LExactLoom$Row;II)V"⟩, 3) := ⟨⟨by decide +kernel, by decide +kernel⟩, List.mem_of_getElem? (i := 146) (by decide +kernel), List.mem_of_getElem? (i := 391) (by decide +kernel), List.mem_of_getElem? (i := 392) (by decide +kernel)⟩
theorem lw_p11 : lw_okq (⟨"ExactLoom$Scribe", "writeInstruction", "(LExactLoom$Row;II)V"⟩, 3) := ⟨⟨by decide +kernel, by decide +kernel⟩, List.mem_of_getElem? (i := 146) (by decide +kernel), List.mem_of_getElem? (i := 403) (by decide +kernel), List.mem_of_getElem? (i := 404) (by decide +kernel)⟩
theorem lw_p12 : lw_okq (⟨"ExactLoom$Scribe", "writeAttachment", "(LExactLoom$Row;I)V"⟩, 3) := ⟨⟨by decide +kernel, by decide +kernel⟩, List.mem_of_getElem? (i := 146) (by decide +kernel), List.mem_of_getElem? (i := 426) (by decide +kernel), List.mem_of_getElem? (i := 427) (by decide +kernel)⟩
theorem lw_p13 : lw_okq (⟨"ExactLoom", "adopt", "(LExactLoom$Row;)I"⟩, 6) := ⟨⟨by decide +kernel, by decide +kernel⟩, List.mem_of_getElem? (i := 17) (by decide +kernel), List.mem_of_getElem? (i := 464) (by decide +kernel), List.mem_of_getElem? (i := 465) (by decide +kernel)⟩
theorem lw_p14 : lw_okq (⟨"ExactLoom$Words", "readNumeral", "()V"⟩, 9) := ⟨⟨by decide +kernel, by decide +kernel⟩, List.mem_of_getElem? (i := 53) (by decide +kernel), List.mem_of_getElem? (i := 501) (by decide +kernel), List.mem_of_getElem? (i := 502) (by decide +kernel)⟩
theorem lw_p15 : lw_okq (⟨"ExactLoom$Maker", "readFirstLine", "()Z"⟩, 10) := ⟨⟨by decide +kernel, by decide +kernel⟩, List.mem_of_getElem? (i := 45) (by decide +kernel), List.mem_of_getElem? (i := 507) (by decide +kernel), List.mem_of_getElem? (i := 508) (by decide +kernel)⟩
def lw_privs_1 : List (MethodName × Nat) := [(⟨"ExactLoom$Block", "entryEnd", "(I)I"⟩, 3), (⟨"ExactLoom$Scribe", "word", "(Ljava/lang/String;)V"⟩, 3), (⟨"ExactLoom$Scribe", "number", "(IJ)V"⟩, 3), (⟨"ExactLoom$Scribe", "endLine", "()V"⟩, 3), (⟨"ExactLoom$Scribe", "writeEntry", "(LExactLoom$Row;I)V"⟩, 3), (⟨"ExactLoom$Scribe", "name", "(LExactLoom$Row;II)V"⟩, 3), (⟨"ExactLoom$Scribe", "bareBytes", "(LExactLoom$Row;II)V"⟩, 3), (⟨"ExactLoom$Scribe", "writeField", "(LExactLoom$Row;I)V"⟩, 3), (⟨"ExactLoom$Scribe", "writeCode", "(LExactLoom$Block;I)V"⟩, 3), (⟨"ExactLoom$Marks", "findTargetsOf", "(LExactLoom$Row;II)V"⟩, 2), (⟨"ExactLoom$Scribe", "writePlace", "(LExactLoom$Row;II)V"⟩, 3), (⟨"ExactLoom$Scribe", "writeInstruction", "(LExactLoom$Row;II)V"⟩, 3), (⟨"ExactLoom$Scribe", "writeAttachment", "(LExactLoom$Row;I)V"⟩, 3), (⟨"ExactLoom", "adopt", "(LExactLoom$Row;)I"⟩, 6), (⟨"ExactLoom$Words", "readNumeral", "()V"⟩, 9), (⟨"ExactLoom$Maker", "readFirstLine", "()Z"⟩, 10)]
theorem lw_r1 : ∀ q ∈ lw_privs_1, lw_okq q := List.forall_mem_cons.mpr ⟨lw_p0, List.forall_mem_cons.mpr ⟨lw_p1, List.forall_mem_cons.mpr ⟨lw_p2, List.forall_mem_cons.mpr ⟨lw_p3, List.forall_mem_cons.mpr ⟨lw_p4, List.forall_mem_cons.mpr ⟨lw_p5, List.forall_mem_cons.mpr ⟨lw_p6, List.forall_mem_cons.mpr ⟨lw_p7, List.forall_mem_cons.mpr ⟨lw_p8, List.forall_mem_cons.mpr ⟨lw_p9, List.forall_mem_cons.mpr ⟨lw_p10, List.forall_mem_cons.mpr ⟨lw_p11, List.forall_mem_cons.mpr ⟨lw_p12, List.forall_mem_cons.mpr ⟨lw_p13, List.forall_mem_cons.mpr ⟨lw_p14, List.forall_mem_cons.mpr ⟨lw_p15, fun _ h => absurd h List.not_mem_nil⟩⟩⟩⟩⟩⟩⟩⟩⟩⟩⟩⟩⟩⟩⟩⟩
theorem lw_p16 : lw_okq (⟨"ExactLoom$Maker", "goToPart", "(I)V"⟩, 10) := ⟨⟨by decide +kernel, by decide +kernel⟩, List.mem_of_getElem? (i := 45) (by decide +kernel), List.mem_of_getElem? (i := 530) (by decide +kernel), List.mem_of_getElem? (i := 531) (by decide +kernel)⟩
theorem lw_p17 : lw_okq (⟨"ExactLoom$Maker", "readCodeLine", "()Z"⟩, 10) := ⟨⟨by decide +kernel, by decide +kernel⟩, List.mem_of_getElem? (i := 45) (by decide +kernel), List.mem_of_getElem? (i := 538) (by decide +kernel), List.mem_of_getElem? (i := 539) (by decide +kernel)⟩
theorem lw_p18 : lw_okq (⟨"ExactLoom$Maker", "closeCode", "()Z"⟩, 10) := ⟨⟨by decide +kernel, by decide +kernel⟩, List.mem_of_getElem? (i := 45) (by decide +kernel), List.mem_of_getElem? (i := 543) (by decide +kernel), List.mem_of_getElem? (i := 544) (by decide +kernel)⟩
theorem lw_p19 : lw_okq (⟨"ExactLoom$Maker", "placeInCode", "()I"⟩, 10) := ⟨⟨by decide +kernel, by decide +kernel⟩, List.mem_of_getElem? (i := 45) (by decide +kernel), List.mem_of_getElem? (i := 552) (by decide +kernel), List.mem_of_getElem? (i := 553) (by decide +kernel)⟩
theorem lw_p20 : lw_okq (⟨"ExactLoom$Maker", "readRaw", "()Z"⟩, 10) := ⟨⟨by decide +kernel, by decide +kernel⟩, List.mem_of_getElem? (i := 45) (by decide +kernel), List.mem_of_getElem? (i := 558) (by decide +kernel), List.mem_of_getElem? (i := 559) (by decide +kernel)⟩
theorem lw_p21 : lw_okq (⟨"ExactLoom$Maker", "readBytes", "(Z)Z"⟩, 10) := ⟨⟨by decide +kernel, by decide +kernel⟩, List.mem_of_getElem? (i := 45) (by decide +kernel), List.mem_of_getElem? (i := 562) (by decide +kernel), List.mem_of_getElem? (i := 563) (by decide +kernel)⟩
theorem lw_p22 : lw_okq (⟨"ExactLoom$Maker", "hasRoom", "(I)Z"⟩, 10) := ⟨⟨by decide +kernel, by decide +kernel⟩, List.mem_of_getElem? (i := 45) (by decide +kernel), List.mem_of_getElem? (i := 578) (by decide +kernel), List.mem_of_getElem? (i := 579) (by decide +kernel)⟩
theorem lw_p23 : lw_okq (⟨"ExactLoom$Maker", "bring", "(JI)Z"⟩, 10) := ⟨⟨by decide +kernel, by decide +kernel⟩, List.mem_of_getElem? (i := 45) (by decide +kernel), List.mem_of_getElem? (i := 582) (by decide +kernel), List.mem_of_getElem? (i := 583) (by decide +kernel)⟩
theorem lw_p24 : lw_okq (⟨"ExactLoom$Maker", "readLabelLine", "()Z"⟩, 10) := ⟨⟨by decide +kernel, by decide +kernel⟩, List.mem_of_getElem? (i := 45) (by decide +kernel), List.mem_of_getElem? (i := 596) (by decide +kernel), List.mem_of_getElem? (i := 597) (by decide +kernel)⟩
theorem lw_p25 : lw_okq (⟨"ExactLoom$Maker", "readInstruction", "()Z"⟩, 10) := ⟨⟨by decide +kernel, by decide +kernel⟩, List.mem_of_getElem? (i := 45) (by decide +kernel), List.mem_of_getElem? (i := 604) (by decide +kernel), List.mem_of_getElem? (i := 605) (by decide +kernel)⟩
theorem lw_p26 : lw_okq (⟨"ExactLoom$Maker", "readNumber", "(JJI)Z"⟩, 10) := ⟨⟨by decide +kernel, by decide +kernel⟩, List.mem_of_getElem? (i := 45) (by decide +kernel), List.mem_of_getElem? (i := 615) (by decide +kernel), List.mem_of_getElem? (i := 616) (by decide +kernel)⟩
theorem lw_p27 : lw_okq (⟨"ExactLoom$Maker", "readDistance", "(I)Z"⟩, 10) := ⟨⟨by decide +kernel, by decide +kernel⟩, List.mem_of_getElem? (i := 45) (by decide +kernel), List.mem_of_getElem? (i := 621) (by decide +kernel), List.mem_of_getElem? (i := 622) (by decide +kernel)⟩
theorem lw_p28 : lw_okq (⟨"ExactLoom$Maker", "readItem", "()Z"⟩, 10) := ⟨⟨by decide +kernel, by decide +kernel⟩, List.mem_of_getElem? (i := 45) (by decide +kernel), List.mem_of_getElem? (i := 636) (by decide +kernel), List.mem_of_getElem? (i := 637) (by decide +kernel)⟩
theorem lw_p29 : lw_okq (⟨"ExactLoom$Maker", "kindOfWord", "()I"⟩, 10) := ⟨⟨by decide +kernel, by decide +kernel⟩, List.mem_of_getElem? (i := 45) (by decide +kernel), List.mem_of_getElem? (i := 640) (by decide +kernel), List.mem_of_getElem? (i := 641) (by decide +kernel)⟩
theorem lw_p30 : lw_okq (⟨"ExactLoom$Maker", "partOfWord", "()I"⟩, 10) := ⟨⟨by decide +kernel, by decide +kernel⟩, List.mem_of_getElem? (i := 45) (by decide +kernel), List.mem_of_getElem? (i := 648) (by decide +kernel), List.mem_of_getElem? (i := 649) (by decide +kernel)⟩
theorem lw_p31 : lw_okq (⟨"ExactLoom$Maker", "readEntry", "(I)Z"⟩, 10) := ⟨⟨by decide +kernel, by decide +kernel⟩, List.mem_of_getElem? (i := 45) (by decide +kernel), List.mem_of_getElem? (i := 656) (by decide +kernel), List.mem_of_getElem? (i := 657) (by decide +kernel)⟩
def lw_privs_2 : List (MethodName × Nat) := [(⟨"ExactLoom$Maker", "goToPart", "(I)V"⟩, 10), (⟨"ExactLoom$Maker", "readCodeLine", "()Z"⟩, 10), (⟨"ExactLoom$Maker", "closeCode", "()Z"⟩, 10), (⟨"ExactLoom$Maker", "placeInCode", "()I"⟩, 10), (⟨"ExactLoom$Maker", "readRaw", "()Z"⟩, 10), (⟨"ExactLoom$Maker", "readBytes", "(Z)Z"⟩, 10), (⟨"ExactLoom$Maker", "hasRoom", "(I)Z"⟩, 10), (⟨"ExactLoom$Maker", "bring", "(JI)Z"⟩, 10), (⟨"ExactLoom$Maker", "readLabelLine", "()Z"⟩, 10), (⟨"ExactLoom$Maker", "readInstruction", "()Z"⟩, 10), (⟨"ExactLoom$Maker", "readNumber", "(JJI)Z"⟩, 10), (⟨"ExactLoom$Maker", "readDistance", "(I)Z"⟩, 10), (⟨"ExactLoom$Maker", "readItem", "()Z"⟩, 10), (⟨"ExactLoom$Maker", "kindOfWord", "()I"⟩, 10), (⟨"ExactLoom$Maker", "partOfWord", "()I"⟩, 10), (⟨"ExactLoom$Maker", "readEntry", "(I)Z"⟩, 10)]
theorem lw_r2 : ∀ q ∈ lw_privs_2, lw_okq q := List.forall_mem_cons.mpr ⟨lw_p16, List.forall_mem_cons.mpr ⟨lw_p17, List.forall_mem_cons.mpr ⟨lw_p18, List.forall_mem_cons.mpr ⟨lw_p19, List.forall_mem_cons.mpr ⟨lw_p20, List.forall_mem_cons.mpr ⟨lw_p21, List.forall_mem_cons.mpr ⟨lw_p22, List.forall_mem_cons.mpr ⟨lw_p23, List.forall_mem_cons.mpr ⟨lw_p24, List.forall_mem_cons.mpr ⟨lw_p25, List.forall_mem_cons.mpr ⟨lw_p26, List.forall_mem_cons.mpr ⟨lw_p27, List.forall_mem_cons.mpr ⟨lw_p28, List.forall_mem_cons.mpr ⟨lw_p29, List.forall_mem_cons.mpr ⟨lw_p30, List.forall_mem_cons.mpr ⟨lw_p31, fun _ h => absurd h List.not_mem_nil⟩⟩⟩⟩⟩⟩⟩⟩⟩⟩⟩⟩⟩⟩⟩⟩
theorem lw_p32 : lw_okq (⟨"ExactLoom$Maker", "readQuoted", "()Z"⟩, 10) := ⟨⟨by decide +kernel, by decide +kernel⟩, List.mem_of_getElem? (i := 45) (by decide +kernel), List.mem_of_getElem? (i := 662) (by decide +kernel), List.mem_of_getElem? (i := 663) (by decide +kernel)⟩
theorem lw_p33 : lw_okq (⟨"ExactLoom$Maker", "readByte", "()Z"⟩, 10) := ⟨⟨by decide +kernel, by decide +kernel⟩, List.mem_of_getElem? (i := 45) (by decide +kernel), List.mem_of_getElem? (i := 673) (by decide +kernel), List.mem_of_getElem? (i := 674) (by decide +kernel)⟩
theorem lw_p34 : lw_okq (⟨"ExactLoom$Maker", "openCode", "()Z"⟩, 10) := ⟨⟨by decide +kernel, by decide +kernel⟩, List.mem_of_getElem? (i := 45) (by decide +kernel), List.mem_of_getElem? (i := 677) (by decide +kernel), List.mem_of_getElem? (i := 678) (by decide +kernel)⟩
theorem lw_p35 : lw_okq (⟨"ExactLoomModel", "tell", "()V"⟩, 29) := ⟨⟨by decide +kernel, by decide +kernel⟩, List.mem_of_getElem? (i := 728) (by decide +kernel), List.mem_of_getElem? (i := 734) (by decide +kernel), List.mem_of_getElem? (i := 735) (by decide +kernel)⟩
theorem lw_p36 : lw_okq (⟨"ExactLoomModel", "five", "(IIIII)V"⟩, 29) := ⟨⟨by decide +kernel, by decide +kernel⟩, List.mem_of_getElem? (i := 728) (by decide +kernel), List.mem_of_getElem? (i := 738) (by decide +kernel), List.mem_of_getElem? (i := 739) (by decide +kernel)⟩
theorem lw_p37 : lw_okq (⟨"ExactLoomModel", "say", "(I)V"⟩, 29) := ⟨⟨by decide +kernel, by decide +kernel⟩, List.mem_of_getElem? (i := 728) (by decide +kernel), List.mem_of_getElem? (i := 742) (by decide +kernel), List.mem_of_getElem? (i := 743) (by decide +kernel)⟩
theorem lw_p38 : lw_okq (⟨"ExactLoomModel", "sayNumber", "(J)V"⟩, 29) := ⟨⟨by decide +kernel, by decide +kernel⟩, List.mem_of_getElem? (i := 728) (by decide +kernel), List.mem_of_getElem? (i := 746) (by decide +kernel), List.mem_of_getElem? (i := 747) (by decide +kernel)⟩
theorem lw_p39 : lw_okq (⟨"ExactLoomModel", "tellOne", "(II)I"⟩, 29) := ⟨⟨by decide +kernel, by decide +kernel⟩, List.mem_of_getElem? (i := 728) (by decide +kernel), List.mem_of_getElem? (i := 751) (by decide +kernel), List.mem_of_getElem? (i := 752) (by decide +kernel)⟩
theorem lw_p40 : lw_okq (⟨"ExactLoomModel", "tellEntry", "(I)I"⟩, 29) := ⟨⟨by decide +kernel, by decide +kernel⟩, List.mem_of_getElem? (i := 728) (by decide +kernel), List.mem_of_getElem? (i := 755) (by decide +kernel), List.mem_of_getElem? (i := 756) (by decide +kernel)⟩
theorem lw_p41 : lw_okq (⟨"ExactLoomModel", "wide", "(II)J"⟩, 29) := ⟨⟨by decide +kernel, by decide +kernel⟩, List.mem_of_getElem? (i := 728) (by decide +kernel), List.mem_of_getElem? (i := 759) (by decide +kernel), List.mem_of_getElem? (i := 760) (by decide +kernel)⟩
theorem lw_p42 : lw_okq (⟨"ExactLoomModel", "sayName", "(II)V"⟩, 29) := ⟨⟨by decide +kernel, by decide +kernel⟩, List.mem_of_getElem? (i := 728) (by decide +kernel), List.mem_of_getElem? (i := 765) (by decide +kernel), List.mem_of_getElem? (i := 766) (by decide +kernel)⟩
theorem lw_p43 : lw_okq (⟨"ExactLoomModel", "sayBytes", "(II)V"⟩, 29) := ⟨⟨by decide +kernel, by decide +kernel⟩, List.mem_of_getElem? (i := 728) (by decide +kernel), List.mem_of_getElem? (i := 769) (by decide +kernel), List.mem_of_getElem? (i := 770) (by decide +kernel)⟩
theorem lw_p44 : lw_okq (⟨"ExactLoomModel", "sayPair", "(II)V"⟩, 29) := ⟨⟨by decide +kernel, by decide +kernel⟩, List.mem_of_getElem? (i := 728) (by decide +kernel), List.mem_of_getElem? (i := 773) (by decide +kernel), List.mem_of_getElem? (i := 774) (by decide +kernel)⟩
theorem lw_p45 : lw_okq (⟨"ExactLoomModel", "tellCode", "(I)I"⟩, 29) := ⟨⟨by decide +kernel, by decide +kernel⟩, List.mem_of_getElem? (i := 728) (by decide +kernel), List.mem_of_getElem? (i := 777) (by decide +kernel), List.mem_of_getElem? (i := 778) (by decide +kernel)⟩
theorem lw_p46 : lw_okq (⟨"ExactLoomModel", "isClear", "(II)Z"⟩, 29) := ⟨⟨by decide +kernel, by decide +kernel⟩, List.mem_of_getElem? (i := 728) (by decide +kernel), List.mem_of_getElem? (i := 781) (by decide +kernel), List.mem_of_getElem? (i := 782) (by decide +kernel)⟩
theorem lw_p47 : lw_okq (⟨"ExactLoomModel", "sizeOf", "(II)I"⟩, 29) := ⟨⟨by decide +kernel, by decide +kernel⟩, List.mem_of_getElem? (i := 728) (by decide +kernel), List.mem_of_getElem? (i := 785) (by decide +kernel), List.mem_of_getElem? (i := 786) (by decide +kernel)⟩
def lw_privs_3 : List (MethodName × Nat) := [(⟨"ExactLoom$Maker", "readQuoted", "()Z"⟩, 10), (⟨"ExactLoom$Maker", "readByte", "()Z"⟩, 10), (⟨"ExactLoom$Maker", "openCode", "()Z"⟩, 10), (⟨"ExactLoomModel", "tell", "()V"⟩, 29), (⟨"ExactLoomModel", "five", "(IIIII)V"⟩, 29), (⟨"ExactLoomModel", "say", "(I)V"⟩, 29), (⟨"ExactLoomModel", "sayNumber", "(J)V"⟩, 29), (⟨"ExactLoomModel", "tellOne", "(II)I"⟩, 29), (⟨"ExactLoomModel", "tellEntry", "(I)I"⟩, 29), (⟨"ExactLoomModel", "wide", "(II)J"⟩, 29), (⟨"ExactLoomModel", "sayName", "(II)V"⟩, 29), (⟨"ExactLoomModel", "sayBytes", "(II)V"⟩, 29), (⟨"ExactLoomModel", "sayPair", "(II)V"⟩, 29), (⟨"ExactLoomModel", "tellCode", "(I)I"⟩, 29), (⟨"ExactLoomModel", "isClear", "(II)Z"⟩, 29), (⟨"ExactLoomModel", "sizeOf", "(II)I"⟩, 29)]
theorem lw_r3 : ∀ q ∈ lw_privs_3, lw_okq q := List.forall_mem_cons.mpr ⟨lw_p32, List.forall_mem_cons.mpr ⟨lw_p33, List.forall_mem_cons.mpr ⟨lw_p34, List.forall_mem_cons.mpr ⟨lw_p35, List.forall_mem_cons.mpr ⟨lw_p36, List.forall_mem_cons.mpr ⟨lw_p37, List.forall_mem_cons.mpr ⟨lw_p38, List.forall_mem_cons.mpr ⟨lw_p39, List.forall_mem_cons.mpr ⟨lw_p40, List.forall_mem_cons.mpr ⟨lw_p41, List.forall_mem_cons.mpr ⟨lw_p42, List.forall_mem_cons.mpr ⟨lw_p43, List.forall_mem_cons.mpr ⟨lw_p44, List.forall_mem_cons.mpr ⟨lw_p45, List.forall_mem_cons.mpr ⟨lw_p46, List.forall_mem_cons.mpr ⟨lw_p47, fun _ h => absurd h List.not_mem_nil⟩⟩⟩⟩⟩⟩⟩⟩⟩⟩⟩⟩⟩⟩⟩⟩
theorem lw_p48 : lw_okq (⟨"ExactLoomModel", "findLines", "(II)V"⟩, 29) := ⟨⟨by decide +kernel, by decide +kernel⟩, List.mem_of_getElem? (i := 728) (by decide +kernel), List.mem_of_getElem? (i := 789) (by decide +kernel), List.mem_of_getElem? (i := 790) (by decide +kernel)⟩
theorem lw_p49 : lw_okq (⟨"ExactLoomModel", "distances", "(I)I"⟩, 29) := ⟨⟨by decide +kernel, by decide +kernel⟩, List.mem_of_getElem? (i := 728) (by decide +kernel), List.mem_of_getElem? (i := 793) (by decide +kernel), List.mem_of_getElem? (i := 794) (by decide +kernel)⟩
theorem lw_p50 : lw_okq (⟨"ExactLoomModel", "target", "(IIII)I"⟩, 29) := ⟨⟨by decide +kernel, by decide +kernel⟩, List.mem_of_getElem? (i := 728) (by decide +kernel), List.mem_of_getElem? (i := 800) (by decide +kernel), List.mem_of_getElem? (i := 801) (by decide +kernel)⟩
theorem lw_p51 : lw_okq (⟨"ExactLoomModel", "distance", "(I)I"⟩, 29) := ⟨⟨by decide +kernel, by decide +kernel⟩, List.mem_of_getElem? (i := 728) (by decide +kernel), List.mem_of_getElem? (i := 804) (by decide +kernel), List.mem_of_getElem? (i := 805) (by decide +kernel)⟩
theorem lw_p52 : lw_okq (⟨"ExactLoomModel", "tellInstruction", "(III)V"⟩, 29) := ⟨⟨by decide +kernel, by decide +kernel⟩, List.mem_of_getElem? (i := 728) (by decide +kernel), List.mem_of_getElem? (i := 809) (by decide +kernel), List.mem_of_getElem? (i := 810) (by decide +kernel)⟩
theorem lw_p53 : lw_okq (⟨"ExactLoomModel", "sayWord", "(I)V"⟩, 29) := ⟨⟨by decide +kernel, by decide +kernel⟩, List.mem_of_getElem? (i := 728) (by decide +kernel), List.mem_of_getElem? (i := 813) (by decide +kernel), List.mem_of_getElem? (i := 814) (by decide +kernel)⟩
theorem lw_p54 : lw_okq (⟨"ExactLoomModel", "tellDistance", "(IIII)V"⟩, 29) := ⟨⟨by decide +kernel, by decide +kernel⟩, List.mem_of_getElem? (i := 728) (by decide +kernel), List.mem_of_getElem? (i := 817) (by decide +kernel), List.mem_of_getElem? (i := 818) (by decide +kernel)⟩
theorem lw_p55 : lw_okq (⟨"ExactLoomModel", "behind", "(II)I"⟩, 29) := ⟨⟨by decide +kernel, by decide +kernel⟩, List.mem_of_getElem? (i := 728) (by decide +kernel), List.mem_of_getElem? (i := 918) (by decide +kernel), List.mem_of_getElem? (i := 919) (by decide +kernel)⟩
theorem lw_p56 : lw_okq (⟨"ExactLoomModel", "over", "(II)I"⟩, 29) := ⟨⟨by decide +kernel, by decide +kernel⟩, List.mem_of_getElem? (i := 728) (by decide +kernel), List.mem_of_getElem? (i := 922) (by decide +kernel), List.mem_of_getElem? (i := 923) (by decide +kernel)⟩
theorem lw_p57 : lw_okq (⟨"ExactLoomModel", "entry", "(I)I"⟩, 29) := ⟨⟨by decide +kernel, by decide +kernel⟩, List.mem_of_getElem? (i := 728) (by decide +kernel), List.mem_of_getElem? (i := 926) (by decide +kernel), List.mem_of_getElem? (i := 927) (by decide +kernel)⟩
theorem lw_p58 : lw_okq (⟨"ExactLoomModel", "bytes", "(II)I"⟩, 29) := ⟨⟨by decide +kernel, by decide +kernel⟩, List.mem_of_getElem? (i := 728) (by decide +kernel), List.mem_of_getElem? (i := 930) (by decide +kernel), List.mem_of_getElem? (i := 931) (by decide +kernel)⟩
theorem lw_p59 : lw_okq (⟨"ExactLoomModel", "read", "()Z"⟩, 29) := ⟨⟨by decide +kernel, by decide +kernel⟩, List.mem_of_getElem? (i := 728) (by decide +kernel), List.mem_of_getElem? (i := 942) (by decide +kernel), List.mem_of_getElem? (i := 943) (by decide +kernel)⟩
theorem lw_p60 : lw_okq (⟨"ExactLoomModel", "add", "(I)V"⟩, 29) := ⟨⟨by decide +kernel, by decide +kernel⟩, List.mem_of_getElem? (i := 728) (by decide +kernel), List.mem_of_getElem? (i := 946) (by decide +kernel), List.mem_of_getElem? (i := 947) (by decide +kernel)⟩
theorem lw_p61 : lw_okq (⟨"ExactLoomModel", "must", "()Z"⟩, 29) := ⟨⟨by decide +kernel, by decide +kernel⟩, List.mem_of_getElem? (i := 728) (by decide +kernel), List.mem_of_getElem? (i := 950) (by decide +kernel), List.mem_of_getElem? (i := 951) (by decide +kernel)⟩
theorem lw_p62 : lw_okq (⟨"ExactLoomModel", "next", "()Z"⟩, 29) := ⟨⟨by decide +kernel, by decide +kernel⟩, List.mem_of_getElem? (i := 728) (by decide +kernel), List.mem_of_getElem? (i := 954) (by decide +kernel), List.mem_of_getElem? (i := 955) (by decide +kernel)⟩
theorem lw_p63 : lw_okq (⟨"ExactLoomModel", "isGap", "(I)Z"⟩, 29) := ⟨⟨by decide +kernel, by decide +kernel⟩, List.mem_of_getElem? (i := 728) (by decide +kernel), List.mem_of_getElem? (i := 958) (by decide +kernel), List.mem_of_getElem? (i := 959) (by decide +kernel)⟩
def lw_privs_4 : List (MethodName × Nat) := [(⟨"ExactLoomModel", "findLines", "(II)V"⟩, 29), (⟨"ExactLoomModel", "distances", "(I)I"⟩, 29), (⟨"ExactLoomModel", "target", "(IIII)I"⟩, 29), (⟨"ExactLoomModel", "distance", "(I)I"⟩, 29), (⟨"ExactLoomModel", "tellInstruction", "(III)V"⟩, 29), (⟨"ExactLoomModel", "sayWord", "(I)V"⟩, 29), (⟨"ExactLoomModel", "tellDistance", "(IIII)V"⟩, 29), (⟨"ExactLoomModel", "behind", "(II)I"⟩, 29), (⟨"ExactLoomModel", "over", "(II)I"⟩, 29), (⟨"ExactLoomModel", "entry", "(I)I"⟩, 29), (⟨"ExactLoomModel", "bytes", "(II)I"⟩, 29), (⟨"ExactLoomModel", "read", "()Z"⟩, 29), (⟨"ExactLoomModel", "add", "(I)V"⟩, 29), (⟨"ExactLoomModel", "must", "()Z"⟩, 29), (⟨"ExactLoomModel", "next", "()Z"⟩, 29), (⟨"ExactLoomModel", "isGap", "(I)Z"⟩, 29)]
theorem lw_r4 : ∀ q ∈ lw_privs_4, lw_okq q := List.forall_mem_cons.mpr ⟨lw_p48, List.forall_mem_cons.mpr ⟨lw_p49, List.forall_mem_cons.mpr ⟨lw_p50, List.forall_mem_cons.mpr ⟨lw_p51, List.forall_mem_cons.mpr ⟨lw_p52, List.forall_mem_cons.mpr ⟨lw_p53, List.forall_mem_cons.mpr ⟨lw_p54, List.forall_mem_cons.mpr ⟨lw_p55, List.forall_mem_cons.mpr ⟨lw_p56, List.forall_mem_cons.mpr ⟨lw_p57, List.forall_mem_cons.mpr ⟨lw_p58, List.forall_mem_cons.mpr ⟨lw_p59, List.forall_mem_cons.mpr ⟨lw_p60, List.forall_mem_cons.mpr ⟨lw_p61, List.forall_mem_cons.mpr ⟨lw_p62, List.forall_mem_cons.mpr ⟨lw_p63, fun _ h => absurd h List.not_mem_nil⟩⟩⟩⟩⟩⟩⟩⟩⟩⟩⟩⟩⟩⟩⟩⟩
theorem lw_p64 : lw_okq (⟨"ExactLoomModel", "is", "(IIIIII)Z"⟩, 29) := ⟨⟨by decide +kernel, by decide +kernel⟩, List.mem_of_getElem? (i := 728) (by decide +kernel), List.mem_of_getElem? (i := 962) (by decide +kernel), List.mem_of_getElem? (i := 963) (by decide +kernel)⟩
theorem lw_p65 : lw_okq (⟨"ExactLoomModel", "wrong", "()Z"⟩, 29) := ⟨⟨by decide +kernel, by decide +kernel⟩, List.mem_of_getElem? (i := 728) (by decide +kernel), List.mem_of_getElem? (i := 966) (by decide +kernel), List.mem_of_getElem? (i := 967) (by decide +kernel)⟩
theorem lw_p66 : lw_okq (⟨"ExactLoomModel", "readByte", "(II)Z"⟩, 29) := ⟨⟨by decide +kernel, by decide +kernel⟩, List.mem_of_getElem? (i := 728) (by decide +kernel), List.mem_of_getElem? (i := 970) (by decide +kernel), List.mem_of_getElem? (i := 971) (by decide +kernel)⟩
theorem lw_p67 : lw_okq (⟨"ExactLoomModel", "readNumber", "(JJ)Z"⟩, 29) := ⟨⟨by decide +kernel, by decide +kernel⟩, List.mem_of_getElem? (i := 728) (by decide +kernel), List.mem_of_getElem? (i := 974) (by decide +kernel), List.mem_of_getElem? (i := 975) (by decide +kernel)⟩
theorem lw_p68 : lw_okq (⟨"ExactLoomModel", "digits", "(I)Z"⟩, 29) := ⟨⟨by decide +kernel, by decide +kernel⟩, List.mem_of_getElem? (i := 728) (by decide +kernel), List.mem_of_getElem? (i := 978) (by decide +kernel), List.mem_of_getElem? (i := 979) (by decide +kernel)⟩
theorem lw_p69 : lw_okq (⟨"ExactLoomModel", "room", "(I)Z"⟩, 29) := ⟨⟨by decide +kernel, by decide +kernel⟩, List.mem_of_getElem? (i := 728) (by decide +kernel), List.mem_of_getElem? (i := 984) (by decide +kernel), List.mem_of_getElem? (i := 985) (by decide +kernel)⟩
theorem lw_p70 : lw_okq (⟨"ExactLoomModel", "readOne", "()Z"⟩, 29) := ⟨⟨by decide +kernel, by decide +kernel⟩, List.mem_of_getElem? (i := 728) (by decide +kernel), List.mem_of_getElem? (i := 988) (by decide +kernel), List.mem_of_getElem? (i := 989) (by decide +kernel)⟩
theorem lw_p71 : lw_okq (⟨"ExactLoomModel", "readEntry", "(I)Z"⟩, 29) := ⟨⟨by decide +kernel, by decide +kernel⟩, List.mem_of_getElem? (i := 728) (by decide +kernel), List.mem_of_getElem? (i := 992) (by decide +kernel), List.mem_of_getElem? (i := 993) (by decide +kernel)⟩
theorem lw_p72 : lw_okq (⟨"ExactLoomModel", "enter", "(I)Z"⟩, 29) := ⟨⟨by decide +kernel, by decide +kernel⟩, List.mem_of_getElem? (i := 728) (by decide +kernel), List.mem_of_getElem? (i := 996) (by decide +kernel), List.mem_of_getElem? (i := 997) (by decide +kernel)⟩
theorem lw_p73 : lw_okq (⟨"ExactLoomModel", "readWide", "(IJJ)Z"⟩, 29) := ⟨⟨by decide +kernel, by decide +kernel⟩, List.mem_of_getElem? (i := 728) (by decide +kernel), List.mem_of_getElem? (i := 1002) (by decide +kernel), List.mem_of_getElem? (i := 1003) (by decide +kernel)⟩
theorem lw_p74 : lw_okq (⟨"ExactLoomModel", "readBytes", "(ZZ)Z"⟩, 29) := ⟨⟨by decide +kernel, by decide +kernel⟩, List.mem_of_getElem? (i := 728) (by decide +kernel), List.mem_of_getElem? (i := 1006) (by decide +kernel), List.mem_of_getElem? (i := 1007) (by decide +kernel)⟩
theorem lw_p75 : lw_okq (⟨"ExactLoomModel", "readCode", "()Z"⟩, 29) := ⟨⟨by decide +kernel, by decide +kernel⟩, List.mem_of_getElem? (i := 728) (by decide +kernel), List.mem_of_getElem? (i := 1015) (by decide +kernel), List.mem_of_getElem? (i := 1016) (by decide +kernel)⟩
theorem lw_p76 : lw_okq (⟨"ExactLoomModel", "finish", "(I)Z"⟩, 29) := ⟨⟨by decide +kernel, by decide +kernel⟩, List.mem_of_getElem? (i := 728) (by decide +kernel), List.mem_of_getElem? (i := 1019) (by decide +kernel), List.mem_of_getElem? (i := 1020) (by decide +kernel)⟩
theorem lw_p77 : lw_okq (⟨"ExactLoomModel", "readLine", "(I)Z"⟩, 29) := ⟨⟨by decide +kernel, by decide +kernel⟩, List.mem_of_getElem? (i := 728) (by decide +kernel), List.mem_of_getElem? (i := 1023) (by decide +kernel), List.mem_of_getElem? (i := 1024) (by decide +kernel)⟩
theorem lw_p78 : lw_okq (⟨"ExactLoomModel", "operation", "()I"⟩, 29) := ⟨⟨by decide +kernel, by decide +kernel⟩, List.mem_of_getElem? (i := 728) (by decide +kernel), List.mem_of_getElem? (i := 1027) (by decide +kernel), List.mem_of_getElem? (i := 1028) (by decide +kernel)⟩
theorem lw_p79 : lw_okq (⟨"ExactLoomModel", "readInstruction", "(II)Z"⟩, 29) := ⟨⟨by decide +kernel, by decide +kernel⟩, List.mem_of_getElem? (i := 728) (by decide +kernel), List.mem_of_getElem? (i := 1031) (by decide +kernel), List.mem_of_getElem? (i := 1032) (by decide +kernel)⟩
def lw_privs_5 : List (MethodName × Nat) := [(⟨"ExactLoomModel", "is", "(IIIIII)Z"⟩, 29), (⟨"ExactLoomModel", "wrong", "()Z"⟩, 29), (⟨"ExactLoomModel", "readByte", "(II)Z"⟩, 29), (⟨"ExactLoomModel", "readNumber", "(JJ)Z"⟩, 29), (⟨"ExactLoomModel", "digits", "(I)Z"⟩, 29), (⟨"ExactLoomModel", "room", "(I)Z"⟩, 29), (⟨"ExactLoomModel", "readOne", "()Z"⟩, 29), (⟨"ExactLoomModel", "readEntry", "(I)Z"⟩, 29), (⟨"ExactLoomModel", "enter", "(I)Z"⟩, 29), (⟨"ExactLoomModel", "readWide", "(IJJ)Z"⟩, 29), (⟨"ExactLoomModel", "readBytes", "(ZZ)Z"⟩, 29), (⟨"ExactLoomModel", "readCode", "()Z"⟩, 29), (⟨"ExactLoomModel", "finish", "(I)Z"⟩, 29), (⟨"ExactLoomModel", "readLine", "(I)Z"⟩, 29), (⟨"ExactLoomModel", "operation", "()I"⟩, 29), (⟨"ExactLoomModel", "readInstruction", "(II)Z"⟩, 29)]
theorem lw_r5 : ∀ q ∈ lw_privs_5, lw_okq q := List.forall_mem_cons.mpr ⟨lw_p64, List.forall_mem_cons.mpr ⟨lw_p65, List.forall_mem_cons.mpr ⟨lw_p66, List.forall_mem_cons.mpr ⟨lw_p67, List.forall_mem_cons.mpr ⟨lw_p68, List.forall_mem_cons.mpr ⟨lw_p69, List.forall_mem_cons.mpr ⟨lw_p70, List.forall_mem_cons.mpr ⟨lw_p71, List.forall_mem_cons.mpr ⟨lw_p72, List.forall_mem_cons.mpr ⟨lw_p73, List.forall_mem_cons.mpr ⟨lw_p74, List.forall_mem_cons.mpr ⟨lw_p75, List.forall_mem_cons.mpr ⟨lw_p76, List.forall_mem_cons.mpr ⟨lw_p77, List.forall_mem_cons.mpr ⟨lw_p78, List.forall_mem_cons.mpr ⟨lw_p79, fun _ h => absurd h List.not_mem_nil⟩⟩⟩⟩⟩⟩⟩⟩⟩⟩⟩⟩⟩⟩⟩⟩
theorem lw_p80 : lw_okq (⟨"ExactLoomModel", "readDistance", "(I)Z"⟩, 29) := ⟨⟨by decide +kernel, by decide +kernel⟩, List.mem_of_getElem? (i := 728) (by decide +kernel), List.mem_of_getElem? (i := 1035) (by decide +kernel), List.mem_of_getElem? (i := 1036) (by decide +kernel)⟩
theorem lw_p81 : lw_okq (⟨"ExactLoomModel", "isRow", "()Z"⟩, 29) := ⟨⟨by decide +kernel, by decide +kernel⟩, List.mem_of_getElem? (i := 728) (by decide +kernel), List.mem_of_getElem? (i := 1039) (by decide +kernel), List.mem_of_getElem? (i := 1040) (by decide +kernel)⟩
theorem lw_p82 : lw_okq (⟨"ExactLoomModel", "partAt", "(I)I"⟩, 29) := ⟨⟨by decide +kernel, by decide +kernel⟩, List.mem_of_getElem? (i := 728) (by decide +kernel), List.mem_of_getElem? (i := 1066) (by decide +kernel), List.mem_of_getElem? (i := 1067) (by decide +kernel)⟩
theorem lw_p83 : lw_okq (⟨"ExactLoomModel", "skip", "(II)I"⟩, 29) := ⟨⟨by decide +kernel, by decide +kernel⟩, List.mem_of_getElem? (i := 728) (by decide +kernel), List.mem_of_getElem? (i := 1070) (by decide +kernel), List.mem_of_getElem? (i := 1071) (by decide +kernel)⟩
def lw_privs_6 : List (MethodName × Nat) := [(⟨"ExactLoomModel", "readDistance", "(I)Z"⟩, 29), (⟨"ExactLoomModel", "isRow", "()Z"⟩, 29), (⟨"ExactLoomModel", "partAt", "(I)I"⟩, 29), (⟨"ExactLoomModel", "skip", "(II)I"⟩, 29)]
theorem lw_r6 : ∀ q ∈ lw_privs_6, lw_okq q := List.forall_mem_cons.mpr ⟨lw_p80, List.forall_mem_cons.mpr ⟨lw_p81, List.forall_mem_cons.mpr ⟨lw_p82, List.forall_mem_cons.mpr ⟨lw_p83, fun _ h => absurd h List.not_mem_nil⟩⟩⟩⟩
def lw_privs : List (MethodName × Nat) := lw_privs_1 ++ (lw_privs_2 ++ (lw_privs_3 ++ (lw_privs_4 ++ (lw_privs_5 ++ (lw_privs_6)))))
def lw_tbl : List Cond := k2_sels lw_privs ++ tables_1
theorem lw_privs_ok : ∀ q ∈ lw_privs, lw_okq q := by
  show ∀ q ∈ lw_privs_1 ++ (lw_privs_2 ++ (lw_privs_3 ++ (lw_privs_4 ++ (lw_privs_5 ++ (lw_privs_6))))), lw_okq q
  exact List.forall_mem_append.mpr ⟨lw_r1, List.forall_mem_append.mpr ⟨lw_r2, List.forall_mem_append.mpr ⟨lw_r3, List.forall_mem_append.mpr ⟨lw_r4, List.forall_mem_append.mpr ⟨lw_r5, lw_r6⟩⟩⟩⟩⟩
end
section
/-! the machine's tables: written by program out of the words of the Statement -/
def ex_lk {α : Type} : List (Nat × α) → Nat → Option α
  | [], _ => none
  | q :: t, i => if q.1 = i then some q.2 else ex_lk t i
def kOl : List String := ["ExactLoomLaw", "ExactLoom", "ExactLoom$Row", "ExactLoom$Block", "ExactLoom$Labels", "ExactLoom$Maker", "ExactLoom$Marks", "ExactLoom$Scribe", "ExactLoom$Words", "ExactLoom$Instructions", "ExactLoomModel", "java/lang/String", "java/lang/StringLatin1", "jdk/internal/util/Preconditions", "java/lang/Math", "java/lang/Object"]
def kOn (o : Nat) : String := kOl.getD o ""
def kT0 : u_T := fun k => match k with
  | 0 => ("ExactLoom", "waiting", "LExactLoom$Row;", true)
  | 1 => ("ExactLoom", "typed", "LExactLoom$Row;", true)
  | 2 => ("ExactLoom", "maker", "LExactLoom$Maker;", true)
  | 3 => ("ExactLoom", "scribe", "LExactLoom$Scribe;", true)
  | 4 => ("ExactLoom", "block", "LExactLoom$Block;", false)
  | _ => ("ExactLoom", "spare", "LExactLoom$Block;", false)
def kT1 : u_T := fun k => match k with
  | 0 => ("ExactLoom$Row", "cells", "[I", true)
  | _ => ("ExactLoom$Row", "used", "I", false)
def kT2 : u_T := fun k => match k with
  | 0 => ("ExactLoom$Block", "bytes", "LExactLoom$Row;", true)
  | 1 => ("ExactLoom$Block", "countCells", "[I", true)
  | _ => ("ExactLoom$Block", "codePlaces", "[I", true)
def kT3 : u_T := fun k => match k with
  | 0 => ("ExactLoom$Labels", "places", "[I", true)
  | 1 => ("ExactLoom$Labels", "lines", "I", false)
  | 2 => ("ExactLoom$Labels", "namedLines", "[I", true)
  | 3 => ("ExactLoom$Labels", "origins", "[I", true)
  | 4 => ("ExactLoom$Labels", "cells", "[I", true)
  | _ => ("ExactLoom$Labels", "names", "I", false)
def kT4 : u_T := fun k => match k with
  | 0 => ("ExactLoom$Maker", "made", "LExactLoom$Row;", true)
  | 1 => ("ExactLoom$Maker", "words", "LExactLoom$Words;", true)
  | 2 => ("ExactLoom$Maker", "labels", "LExactLoom$Labels;", true)
  | 3 => ("ExactLoom$Maker", "part", "I", false)
  | 4 => ("ExactLoom$Maker", "countCell", "I", false)
  | 5 => ("ExactLoom$Maker", "brought", "I", false)
  | 6 => ("ExactLoom$Maker", "inCode", "Z", false)
  | 7 => ("ExactLoom$Maker", "codeHasLines", "Z", false)
  | 8 => ("ExactLoom$Maker", "codeHasRaw", "Z", false)
  | _ => ("ExactLoom$Maker", "codeSizeCell", "I", false)
def kT5 : u_T := fun k => match k with
  | 0 => ("ExactLoom$Marks", "marks", "[I", true)
  | _ => ("ExactLoom$Marks", "places", "I", false)
def kT6 : u_T := fun k => match k with
  | 0 => ("ExactLoom$Scribe", "text", "LExactLoom$Row;", true)
  | 1 => ("ExactLoom$Scribe", "digits", "LExactLoom$Row;", true)
  | _ => ("ExactLoom$Scribe", "marks", "LExactLoom$Marks;", true)
def kT7 : u_T := fun k => match k with
  | 0 => ("ExactLoom$Words", "letters", "[I", false)
  | 1 => ("ExactLoom$Words", "used", "I", false)
  | 2 => ("ExactLoom$Words", "start", "I", false)
  | 3 => ("ExactLoom$Words", "end", "I", false)
  | 4 => ("ExactLoom$Words", "sign", "I", false)
  | 5 => ("ExactLoom$Words", "hasNumber", "Z", false)
  | 6 => ("ExactLoom$Words", "beyondLong", "Z", false)
  | 7 => ("ExactLoom$Words", "less", "J", false)
  | _ => ("ExactLoom$Words", "value", "J", false)
def kT8 : u_T := fun k => match k with
  | 0 => ("ExactLoomModel", "block", "[I", true)
  | 1 => ("ExactLoomModel", "size", "I", false)
  | 2 => ("ExactLoomModel", "made", "[I", true)
  | 3 => ("ExactLoomModel", "many", "I", false)
  | 4 => ("ExactLoomModel", "waits", "[I", true)
  | 5 => ("ExactLoomModel", "waiting", "I", false)
  | 6 => ("ExactLoomModel", "typed", "[I", true)
  | 7 => ("ExactLoomModel", "length", "I", false)
  | 8 => ("ExactLoomModel", "text", "[I", true)
  | 9 => ("ExactLoomModel", "written", "I", false)
  | 10 => ("ExactLoomModel", "number", "[I", true)
  | 11 => ("ExactLoomModel", "begins", "[Z", true)
  | 12 => ("ExactLoomModel", "line", "[I", true)
  | 13 => ("ExactLoomModel", "source", "[I", true)
  | 14 => ("ExactLoomModel", "end", "I", false)
  | 15 => ("ExactLoomModel", "place", "I", false)
  | 16 => ("ExactLoomModel", "from", "I", false)
  | 17 => ("ExactLoomModel", "to", "I", false)
  | 18 => ("ExactLoomModel", "fault", "I", false)
  | 19 => ("ExactLoomModel", "value", "J", false)
  | 20 => ("ExactLoomModel", "total", "I", false)
  | 21 => ("ExactLoomModel", "part", "I", false)
  | 22 => ("ExactLoomModel", "countAt", "I", false)
  | 23 => ("ExactLoomModel", "lineAt", "[I", true)
  | 24 => ("ExactLoomModel", "lines", "I", false)
  | 25 => ("ExactLoomModel", "nameAt", "[I", true)
  | 26 => ("ExactLoomModel", "nameOf", "[I", true)
  | 27 => ("ExactLoomModel", "nameLine", "[I", true)
  | _ => ("ExactLoomModel", "names", "I", false)
def kCl : List vw_C := [("ExactLoom", kT0, 6), ("ExactLoom$Row", kT1, 2), ("ExactLoom$Block", kT2, 3), ("ExactLoom$Labels", kT3, 6), ("ExactLoom$Maker", kT4, 10), ("ExactLoom$Marks", kT5, 2), ("ExactLoom$Scribe", kT6, 3), ("ExactLoom$Words", kT7, 9), ("ExactLoomModel", kT8, 29)]
def kTl : List (List FieldType) := [[.object "ExactLoom$Row", .object "ExactLoom$Row", .object "ExactLoom$Maker", .object "ExactLoom$Scribe", .object "ExactLoom$Block", .object "ExactLoom$Block"], [.array .int, .int], [.object "ExactLoom$Row", .array .int, .array .int], [.array .int, .int, .array .int, .array .int, .array .int, .int], [.object "ExactLoom$Row", .object "ExactLoom$Words", .object "ExactLoom$Labels", .int, .int, .int, .boolean, .boolean, .boolean, .int], [.array .int, .int], [.object "ExactLoom$Row", .object "ExactLoom$Row", .object "ExactLoom$Marks"], [.array .int, .int, .int, .int, .int, .boolean, .boolean, .long, .long], [.array .int, .int, .array .int, .int, .array .int, .int, .array .int, .int, .array .int, .int, .array .int, .array .boolean, .array .int, .array .int, .int, .int, .int, .int, .int, .long, .int, .int, .int, .array .int, .int, .array .int, .array .int, .array .int, .int]]
def kT (ci k : Nat) : FieldType := (kTl.getD ci []).getD k .int
def kQl : List (List Bool) := [[true, true, true, true, false, false], [true, false], [true, true, true], [true, false, true, true, true, false], [true, true, true, false, false, false, false, false, false, false], [true, false], [true, true, true], [false, false, false, false, false, false, false, false, false], [true, false, true, false, true, false, true, false, true, false, true, true, true, true, false, false, false, false, false, false, false, false, false, true, false, true, true, true, false]]
def kQ (ci k : Nat) : Bool := (kQl.getD ci []).getD k false
def kDl : List Nat := [1, 2, 3, 4, 5, 6, 7, 8, 10]
def kD (ci : Nat) : Nat := kDl.getD ci 0
def kBl : List (List Value) := [[.null, .null, .null, .null, .null, .null], [.null, .int 0], [.null, .null, .null], [.null, .int 0, .null, .null, .null, .int 0], [.null, .null, .null, .int 0, .int 0, .int 0, .int 0, .int 0, .int 0, .int 0], [.null, .int 0], [.null, .null, .null], [.null, .int 0, .int 0, .int 0, .int 0, .int 0, .int 0, .long 0, .long 0], [.null, .int 0, .null, .int 0, .null, .int 0, .null, .int 0, .null, .int 0, .null, .null, .null, .null, .int 0, .int 0, .int 0, .int 0, .int 0, .long 0, .int 0, .int 0, .int 0, .null, .int 0, .null, .null, .null, .int 0]]
def kB (ci : Nat) : List Value := kBl.getD ci []
def kM0 : List (MethodName × ByteArray × Nat × Option FieldType × Nat × Nat × Bool × Nat × Nat × Nat) := [
  (⟨"ExactLoomLaw", "law", "([I)Z"⟩, code, 4, some (FieldType.boolean), 0, 1, false, 998, 10, 233),
  (⟨"ExactLoom", "<init>", "()V"⟩, prog_1_method_1_code, 1, none, 1, 1, true, 0, 9, 212),
  (⟨"ExactLoom", "put", "(II)Z"⟩, prog_1_method_2_code, 3, some (FieldType.boolean), 1, 3, false, 0, 2, 44),
  (⟨"ExactLoom", "take", "()I"⟩, prog_1_method_3_code, 2, some (FieldType.int), 1, 1, false, 0, 9, 212),
  (⟨"ExactLoom", "adopt", "(LExactLoom$Row;)I"⟩, prog_1_method_14_code, 4, some (FieldType.int), 1, 2, false, 0, 4, 89),
  (⟨"ExactLoom", "type", "(II)Z"⟩, prog_1_method_4_code, 3, some (FieldType.boolean), 1, 3, false, 0, 2, 44),
  (⟨"ExactLoom", "areCharacters", "(II)Z"⟩, prog_1_method_13_code, 4, some (FieldType.boolean), 1, 2, false, 0, 0, 0),
  (⟨"ExactLoom", "make", "()I"⟩, prog_1_method_5_code, 2, some (FieldType.int), 1, 1, false, 0, 9, 212),
  (⟨"ExactLoom", "size", "()I"⟩, prog_1_method_6_code, 1, some (FieldType.int), 1, 1, false, 0, 0, 0),
  (⟨"ExactLoom", "byteAt", "(I)I"⟩, prog_1_method_7_code, 2, some (FieldType.int), 1, 2, false, 0, 1, 21),
  (⟨"ExactLoom", "length", "()I"⟩, prog_1_method_8_code, 1, some (FieldType.int), 1, 1, false, 0, 0, 0),
  (⟨"ExactLoom", "at", "(I)I"⟩, prog_1_method_9_code, 2, some (FieldType.int), 1, 2, false, 0, 1, 21),
  (⟨"ExactLoom", "count", "(I)I"⟩, prog_1_method_10_code, 2, some (FieldType.int), 1, 2, false, 0, 2, 42),
  (⟨"ExactLoom", "clear", "(I)I"⟩, prog_1_method_11_code, 2, some (FieldType.int), 1, 2, false, 0, 4, 91),
  (⟨"ExactLoom", "exact", "()Z"⟩, prog_1_method_12_code, 1, some (FieldType.boolean), 1, 1, false, 0, 9, 197),
  (⟨"ExactLoom$Row", "<init>", "(I)V"⟩, prog_7_method_1_code, 2, none, 2, 2, true, 1, 1, 20),
  (⟨"ExactLoom$Row", "empty", "()V"⟩, prog_7_method_2_code, 1, none, 2, 1, false, 1, 0, 0),
  (⟨"ExactLoom$Row", "append", "(I)V"⟩, prog_7_method_3_code, 2, none, 2, 2, false, 1, 0, 0),
  (⟨"ExactLoom$Row", "cell", "(I)I"⟩, prog_7_method_5_code, 2, some (FieldType.int), 2, 2, false, 1, 0, 0),
  (⟨"ExactLoom$Row", "change", "(II)V"⟩, prog_7_method_7_code, 3, none, 2, 3, false, 1, 0, 0),
  (⟨"ExactLoom$Row", "signedAt", "(II)J"⟩, prog_7_method_8_code, 6, some (FieldType.long), 2, 3, false, 1, 1, 21),
  (⟨"ExactLoom$Row", "appendLowest", "(II)V"⟩, prog_7_method_4_code, 4, none, 2, 3, false, 1, 1, 21),
  (⟨"ExactLoom$Row", "copyFrom", "(LExactLoom$Row;)V"⟩, prog_7_method_9_code, 3, none, 2, 2, false, 1, 1, 21),
  (⟨"ExactLoom$Row", "cellOrNone", "(I)I"⟩, prog_7_method_6_code, 2, some (FieldType.int), 2, 2, false, 1, 0, 0),
  (⟨"ExactLoom$Row", "isLike", "(LExactLoom$Row;)Z"⟩, prog_7_method_10_code, 3, some (FieldType.boolean), 2, 2, false, 1, 1, 21),
  (⟨"ExactLoom$Block", "<init>", "()V"⟩, prog_2_method_1_code, 1, none, 3, 1, true, 2, 2, 41),
  (⟨"ExactLoom$Block", "becomeBare", "()V"⟩, prog_2_method_2_code, 2, none, 3, 1, false, 2, 4, 89),
  (⟨"ExactLoom$Block", "scan", "()I"⟩, prog_2_method_3_code, 6, some (FieldType.int), 3, 1, false, 2, 3, 64),
  (⟨"ExactLoom$Block", "isKind", "(I)Z"⟩, prog_2_method_4_code, 1, some (FieldType.boolean), 3, 1, false, 2, 0, 0),
  (⟨"ExactLoom$Block", "itemEnd", "(II)I"⟩, prog_2_method_5_code, 3, some (FieldType.int), 3, 3, false, 2, 2, 42),
  (⟨"ExactLoom$Block", "entryEnd", "(I)I"⟩, prog_2_method_6_code, 2, some (FieldType.int), 3, 2, false, 2, 1, 21),
  (⟨"ExactLoom$Block", "howMany", "(I)I"⟩, prog_2_method_7_code, 2, some (FieldType.int), 3, 2, false, 2, 1, 21),
  (⟨"ExactLoom$Block", "firstItem", "(I)I"⟩, prog_2_method_8_code, 2, some (FieldType.int), 3, 2, false, 2, 0, 0),
  (⟨"ExactLoom$Block", "isClearCode", "(I)Z"⟩, prog_2_method_10_code, 6, some (FieldType.boolean), 3, 2, false, 2, 3, 66),
  (⟨"ExactLoom$Block", "codePlace", "(I)I"⟩, prog_2_method_9_code, 2, some (FieldType.int), 3, 2, false, 2, 0, 0),
  (⟨"ExactLoom$Labels", "<init>", "()V"⟩, prog_4_method_1_code, 1, none, 4, 1, true, 3, 1, 20),
  (⟨"ExactLoom$Labels", "settle", "(LExactLoom$Row;)Z"⟩, prog_4_method_5_code, 5, some (FieldType.boolean), 4, 2, false, 3, 1, 22),
  (⟨"ExactLoom$Labels", "addLine", "(JI)Z"⟩, prog_4_method_3_code, 4, some (FieldType.boolean), 4, 3, false, 3, 0, 0),
  (⟨"ExactLoom$Labels", "addName", "(JII)Z"⟩, prog_4_method_4_code, 5, some (FieldType.boolean), 4, 4, false, 3, 0, 0),
  (⟨"ExactLoom$Labels", "forget", "()V"⟩, prog_4_method_2_code, 1, none, 4, 1, false, 3, 0, 0),
  (⟨"ExactLoom$Maker", "<init>", "()V"⟩, prog_5_method_1_code, 1, none, 5, 1, true, 4, 2, 41),
  (⟨"ExactLoom$Maker", "makeFrom", "(LExactLoom$Row;)I"⟩, prog_5_method_2_code, 4, some (FieldType.int), 5, 2, false, 4, 8, 174),
  (⟨"ExactLoom$Maker", "readFirstLine", "()Z"⟩, prog_5_method_3_code, 1, some (FieldType.boolean), 5, 1, false, 4, 5, 107),
  (⟨"ExactLoom$Maker", "goToPart", "(I)V"⟩, prog_5_method_4_code, 3, none, 5, 2, false, 4, 1, 21),
  (⟨"ExactLoom$Maker", "readCodeLine", "()Z"⟩, prog_5_method_9_code, 1, some (FieldType.boolean), 5, 1, false, 4, 7, 154),
  (⟨"ExactLoom$Maker", "closeCode", "()Z"⟩, prog_5_method_11_code, 1, some (FieldType.boolean), 5, 1, false, 4, 2, 46),
  (⟨"ExactLoom$Maker", "placeInCode", "()I"⟩, prog_5_method_12_code, 1, some (FieldType.int), 5, 1, false, 4, 0, 0),
  (⟨"ExactLoom$Maker", "readRaw", "()Z"⟩, prog_5_method_13_code, 1, some (FieldType.boolean), 5, 1, false, 4, 3, 68),
  (⟨"ExactLoom$Maker", "readBytes", "(Z)Z"⟩, prog_5_method_20_code, 4, some (FieldType.boolean), 5, 2, false, 4, 2, 45),
  (⟨"ExactLoom$Maker", "hasRoom", "(I)Z"⟩, prog_5_method_21_code, 2, some (FieldType.boolean), 5, 2, false, 4, 0, 0),
  (⟨"ExactLoom$Maker", "bring", "(JI)Z"⟩, prog_5_method_22_code, 5, some (FieldType.boolean), 5, 3, false, 4, 1, 21),
  (⟨"ExactLoom$Maker", "readLabelLine", "()Z"⟩, prog_5_method_14_code, 1, some (FieldType.boolean), 5, 1, false, 4, 2, 45),
  (⟨"ExactLoom$Maker", "readInstruction", "()Z"⟩, prog_5_method_15_code, 7, some (FieldType.boolean), 5, 1, false, 4, 6, 128),
  (⟨"ExactLoom$Maker", "readNumber", "(JJI)Z"⟩, prog_5_method_18_code, 6, some (FieldType.boolean), 5, 4, false, 4, 2, 45),
  (⟨"ExactLoom$Maker", "readDistance", "(I)Z"⟩, prog_5_method_16_code, 2, some (FieldType.boolean), 5, 2, false, 4, 2, 45),
  (⟨"ExactLoom$Maker", "readItem", "()Z"⟩, prog_5_method_5_code, 3, some (FieldType.boolean), 5, 1, false, 4, 6, 127),
  (⟨"ExactLoom$Maker", "kindOfWord", "()I"⟩, prog_5_method_6_code, 1, some (FieldType.int), 5, 1, false, 4, 5, 107),
  (⟨"ExactLoom$Maker", "partOfWord", "()I"⟩, prog_5_method_7_code, 1, some (FieldType.int), 5, 1, false, 4, 5, 107),
  (⟨"ExactLoom$Maker", "readEntry", "(I)Z"⟩, prog_5_method_8_code, 2, some (FieldType.boolean), 5, 2, false, 4, 3, 70),
  (⟨"ExactLoom$Maker", "readQuoted", "()Z"⟩, prog_5_method_19_code, 3, some (FieldType.boolean), 5, 1, false, 4, 2, 45),
  (⟨"ExactLoom$Maker", "readByte", "()Z"⟩, prog_5_method_17_code, 1, some (FieldType.boolean), 5, 1, false, 4, 3, 70),
  (⟨"ExactLoom$Maker", "openCode", "()Z"⟩, prog_5_method_10_code, 1, some (FieldType.boolean), 5, 1, false, 4, 5, 107),
  (⟨"ExactLoom$Marks", "<init>", "()V"⟩, prog_6_method_1_code, 1, none, 6, 1, true, 5, 1, 20),
  (⟨"ExactLoom$Marks", "findStarts", "(LExactLoom$Row;II)V"⟩, prog_6_method_2_code, 6, none, 6, 4, false, 5, 3, 66),
  (⟨"ExactLoom$Marks", "findTargets", "(LExactLoom$Row;I)V"⟩, prog_6_method_3_code, 4, none, 6, 3, false, 5, 3, 74),
  (⟨"ExactLoom$Marks", "findTargetsOf", "(LExactLoom$Row;II)V"⟩, prog_6_method_4_code, 9, none, 6, 4, false, 5, 2, 46),
  (⟨"ExactLoom$Marks", "numberTargets", "()V"⟩, prog_6_method_5_code, 3, none, 6, 1, false, 5, 0, 0),
  (⟨"ExactLoom$Marks", "lineAt", "(I)I"⟩, prog_6_method_7_code, 2, some (FieldType.int), 6, 2, false, 5, 0, 0),
  (⟨"ExactLoom$Marks", "isStart", "(I)Z"⟩, prog_6_method_6_code, 2, some (FieldType.boolean), 6, 2, false, 5, 0, 0),
  (⟨"ExactLoom$Scribe", "<init>", "()V"⟩, prog_8_method_1_code, 1, none, 7, 1, true, 6, 2, 41),
  (⟨"ExactLoom$Scribe", "write", "(LExactLoom$Block;)V"⟩, prog_8_method_2_code, 6, none, 7, 2, false, 6, 8, 187),
  (⟨"ExactLoom$Scribe", "word", "(Ljava/lang/String;)V"⟩, prog_8_method_10_code, 3, none, 7, 2, false, 6, 4, 85),
  (⟨"ExactLoom$Scribe", "number", "(IJ)V"⟩, prog_8_method_11_code, 7, none, 7, 3, false, 6, 1, 21),
  (⟨"ExactLoom$Scribe", "endLine", "()V"⟩, prog_8_method_9_code, 1, none, 7, 1, false, 6, 1, 22),
  (⟨"ExactLoom$Scribe", "writeEntry", "(LExactLoom$Row;I)V"⟩, prog_8_method_3_code, 3, none, 7, 3, false, 6, 5, 107),
  (⟨"ExactLoom$Scribe", "name", "(LExactLoom$Row;II)V"⟩, prog_8_method_12_code, 5, none, 7, 4, false, 6, 2, 46),
  (⟨"ExactLoom$Scribe", "isPlainName", "(LExactLoom$Row;II)Z"⟩, prog_8_method_13_code, 5, some (FieldType.boolean), 7, 3, false, 6, 1, 21),
  (⟨"ExactLoom$Scribe", "bareBytes", "(LExactLoom$Row;II)V"⟩, prog_8_method_14_code, 6, none, 7, 4, false, 6, 1, 21),
  (⟨"ExactLoom$Scribe", "hexDigit", "(I)I"⟩, prog_8_method_15_code, 1, some (FieldType.int), 7, 1, false, 6, 0, 0),
  (⟨"ExactLoom$Scribe", "writeField", "(LExactLoom$Row;I)V"⟩, prog_8_method_4_code, 3, none, 7, 3, false, 6, 5, 107),
  (⟨"ExactLoom$Scribe", "writeCode", "(LExactLoom$Block;I)V"⟩, prog_8_method_6_code, 7, none, 7, 3, false, 6, 7, 161),
  (⟨"ExactLoom$Scribe", "writePlace", "(LExactLoom$Row;II)V"⟩, prog_8_method_7_code, 5, none, 7, 4, false, 6, 6, 137),
  (⟨"ExactLoom$Scribe", "writeInstruction", "(LExactLoom$Row;II)V"⟩, prog_8_method_8_code, 11, none, 7, 4, false, 6, 5, 107),
  (⟨"ExactLoom$Scribe", "writeAttachment", "(LExactLoom$Row;I)V"⟩, prog_8_method_5_code, 3, none, 7, 3, false, 6, 5, 107),
  (⟨"ExactLoom$Words", "<init>", "()V"⟩, prog_9_method_1_code, 1, none, 8, 1, true, 7, 1, 20),
  (⟨"ExactLoom$Words", "open", "(LExactLoom$Row;)V"⟩, prog_9_method_2_code, 2, none, 8, 2, false, 7, 2, 45),
  (⟨"ExactLoom$Words", "step", "()V"⟩, prog_9_method_3_code, 2, none, 8, 1, false, 7, 1, 24),
  (⟨"ExactLoom$Words", "isGap", "(I)Z"⟩, prog_9_method_4_code, 1, some (FieldType.boolean), 8, 1, false, 7, 0, 0),
  (⟨"ExactLoom$Words", "readNumeral", "()V"⟩, prog_9_method_5_code, 5, none, 8, 1, false, 7, 0, 0),
  (⟨"ExactLoom$Words", "is", "(Ljava/lang/String;)Z"⟩, prog_9_method_9_code, 3, some (FieldType.boolean), 8, 2, false, 7, 4, 85),
  (⟨"ExactLoom$Words", "letter", "(I)I"⟩, prog_9_method_8_code, 2, some (FieldType.int), 8, 2, false, 7, 0, 0),
  (⟨"ExactLoom$Words", "isNumber", "(JJ)Z"⟩, prog_9_method_10_code, 5, some (FieldType.boolean), 8, 3, false, 7, 0, 0),
  (⟨"ExactLoom$Words", "isThere", "()Z"⟩, prog_9_method_6_code, 1, some (FieldType.boolean), 8, 1, false, 7, 0, 0),
  (⟨"ExactLoom$Words", "width", "()I"⟩, prog_9_method_7_code, 1, some (FieldType.int), 8, 1, false, 7, 0, 0),
  (⟨"ExactLoom$Words", "areBytes", "()Z"⟩, prog_9_method_13_code, 2, some (FieldType.boolean), 8, 1, false, 7, 1, 21),
  (⟨"ExactLoom$Words", "hexValue", "(I)I"⟩, prog_9_method_15_code, 1, some (FieldType.int), 8, 1, false, 7, 0, 0),
  (⟨"ExactLoom$Words", "byteOf", "(I)I"⟩, prog_9_method_14_code, 2, some (FieldType.int), 8, 2, false, 7, 1, 21),
  (⟨"ExactLoom$Words", "isLabel", "()Z"⟩, prog_9_method_12_code, 1, some (FieldType.boolean), 8, 1, false, 7, 0, 0),
  (⟨"ExactLoom$Words", "isDistance", "()Z"⟩, prog_9_method_11_code, 1, some (FieldType.boolean), 8, 1, false, 7, 1, 24),
  (⟨"ExactLoom$Words", "isQuoted", "()Z"⟩, prog_9_method_16_code, 3, some (FieldType.boolean), 8, 1, false, 7, 1, 21),
  (⟨"ExactLoom$Instructions", "widthAt", "(LExactLoom$Row;II)I"⟩, prog_3_method_4_code, 5, some (FieldType.int), 9, 3, false, 998, 2, 42),
  (⟨"ExactLoom$Instructions", "headOf", "(I)I"⟩, prog_3_method_5_code, 1, some (FieldType.int), 9, 1, false, 998, 1, 20),
  (⟨"ExactLoom$Instructions", "hasByte", "(I)Z"⟩, prog_3_method_6_code, 1, some (FieldType.boolean), 9, 1, false, 998, 0, 0),
  (⟨"ExactLoom$Instructions", "distancesAt", "(LExactLoom$Row;I)I"⟩, prog_3_method_7_code, 2, some (FieldType.int), 9, 2, false, 998, 1, 21),
  (⟨"ExactLoom$Instructions", "wordOf", "(I)Ljava/lang/String;"⟩, prog_3_method_2_code, 1, some ((FieldType.object "java/lang/String")), 9, 1, false, 998, 0, 0),
  (⟨"ExactLoom$Instructions", "instructionOf", "(LExactLoom$Words;)I"⟩, prog_3_method_3_code, 2, some (FieldType.int), 9, 1, false, 998, 5, 107),
  (⟨"ExactLoomModel", "<init>", "()V"⟩, prog_11_method_1_code, 1, none, 10, 1, true, 8, 7, 168),
  (⟨"ExactLoomModel", "tell", "()V"⟩, prog_11_method_28_code, 5, none, 10, 1, false, 8, 6, 144),
  (⟨"ExactLoomModel", "five", "(IIIII)V"⟩, prog_11_method_9_code, 6, none, 10, 6, false, 8, 1, 21),
  (⟨"ExactLoomModel", "say", "(I)V"⟩, prog_11_method_8_code, 2, none, 10, 2, false, 8, 0, 0),
  (⟨"ExactLoomModel", "sayNumber", "(J)V"⟩, prog_11_method_10_code, 7, none, 10, 2, false, 8, 1, 21),
  (⟨"ExactLoomModel", "tellOne", "(II)I"⟩, prog_11_method_27_code, 3, some (FieldType.int), 10, 3, false, 8, 5, 122),
  (⟨"ExactLoomModel", "tellEntry", "(I)I"⟩, prog_11_method_15_code, 4, some (FieldType.int), 10, 2, false, 8, 3, 70),
  (⟨"ExactLoomModel", "wide", "(II)J"⟩, prog_11_method_14_code, 6, some (FieldType.long), 10, 3, false, 8, 0, 0),
  (⟨"ExactLoomModel", "sayName", "(II)V"⟩, prog_11_method_12_code, 5, none, 10, 3, false, 8, 2, 46),
  (⟨"ExactLoomModel", "sayBytes", "(II)V"⟩, prog_11_method_11_code, 6, none, 10, 3, false, 8, 1, 21),
  (⟨"ExactLoomModel", "sayPair", "(II)V"⟩, prog_11_method_13_code, 3, none, 10, 3, false, 8, 2, 47),
  (⟨"ExactLoomModel", "tellCode", "(I)I"⟩, prog_11_method_26_code, 4, some (FieldType.int), 10, 2, false, 8, 4, 99),
  (⟨"ExactLoomModel", "isClear", "(II)Z"⟩, prog_11_method_17_code, 6, some (FieldType.boolean), 10, 3, false, 8, 1, 23),
  (⟨"ExactLoomModel", "sizeOf", "(II)I"⟩, prog_11_method_16_code, 4, some (FieldType.int), 10, 3, false, 8, 0, 0),
  (⟨"ExactLoomModel", "findLines", "(II)V"⟩, prog_11_method_22_code, 7, none, 10, 3, false, 8, 2, 47),
  (⟨"ExactLoomModel", "distances", "(I)I"⟩, prog_11_method_19_code, 2, some (FieldType.int), 10, 2, false, 8, 0, 0),
  (⟨"ExactLoomModel", "firstOf", "(II)I"⟩, prog_11_method_20_code, 2, some (FieldType.int), 10, 2, false, 8, 0, 0),
  (⟨"ExactLoomModel", "target", "(IIII)I"⟩, prog_11_method_21_code, 6, some (FieldType.int), 10, 5, false, 8, 1, 22),
  (⟨"ExactLoomModel", "distance", "(I)I"⟩, prog_11_method_18_code, 3, some (FieldType.int), 10, 2, false, 8, 0, 0),
  (⟨"ExactLoomModel", "tellInstruction", "(III)V"⟩, prog_11_method_25_code, 7, none, 10, 4, false, 8, 3, 73),
  (⟨"ExactLoomModel", "sayWord", "(I)V"⟩, prog_11_method_24_code, 2, none, 10, 2, false, 8, 2, 46),
  (⟨"ExactLoomModel", "tellDistance", "(IIII)V"⟩, prog_11_method_23_code, 7, none, 10, 5, false, 8, 2, 47),
  (⟨"ExactLoomModel", "put", "(II)Z"⟩, prog_11_method_2_code, 4, some (FieldType.boolean), 10, 3, false, 8, 0, 0),
  (⟨"ExactLoomModel", "take", "()I"⟩, prog_11_method_7_code, 4, some (FieldType.int), 10, 1, false, 8, 7, 168),
  (⟨"ExactLoomModel", "behind", "(II)I"⟩, prog_11_method_3_code, 3, some (FieldType.int), 10, 3, false, 8, 0, 0),
  (⟨"ExactLoomModel", "over", "(II)I"⟩, prog_11_method_4_code, 6, some (FieldType.int), 10, 3, false, 8, 3, 68),
  (⟨"ExactLoomModel", "entry", "(I)I"⟩, prog_11_method_5_code, 4, some (FieldType.int), 10, 2, false, 8, 2, 45),
  (⟨"ExactLoomModel", "bytes", "(II)I"⟩, prog_11_method_6_code, 4, some (FieldType.int), 10, 3, false, 8, 1, 22),
  (⟨"ExactLoomModel", "type", "(II)Z"⟩, prog_11_method_29_code, 5, some (FieldType.boolean), 10, 3, false, 8, 0, 0),
  (⟨"ExactLoomModel", "make", "()I"⟩, prog_11_method_54_code, 2, some (FieldType.int), 10, 1, false, 8, 9, 195),
  (⟨"ExactLoomModel", "read", "()Z"⟩, prog_11_method_53_code, 1, some (FieldType.boolean), 10, 1, false, 8, 8, 175),
  (⟨"ExactLoomModel", "add", "(I)V"⟩, prog_11_method_35_code, 2, none, 10, 2, false, 8, 0, 0),
  (⟨"ExactLoomModel", "must", "()Z"⟩, prog_11_method_32_code, 1, some (FieldType.boolean), 10, 1, false, 8, 2, 41),
  (⟨"ExactLoomModel", "next", "()Z"⟩, prog_11_method_31_code, 1, some (FieldType.boolean), 10, 1, false, 8, 1, 21),
  (⟨"ExactLoomModel", "isGap", "(I)Z"⟩, prog_11_method_30_code, 2, some (FieldType.boolean), 10, 2, false, 8, 0, 0),
  (⟨"ExactLoomModel", "is", "(IIIIII)Z"⟩, prog_11_method_36_code, 9, some (FieldType.boolean), 10, 7, false, 8, 0, 0),
  (⟨"ExactLoomModel", "wrong", "()Z"⟩, prog_11_method_33_code, 1, some (FieldType.boolean), 10, 1, false, 8, 0, 0),
  (⟨"ExactLoomModel", "readByte", "(II)Z"⟩, prog_11_method_41_code, 3, some (FieldType.boolean), 10, 3, false, 8, 4, 86),
  (⟨"ExactLoomModel", "readNumber", "(JJ)Z"⟩, prog_11_method_38_code, 6, some (FieldType.boolean), 10, 3, false, 8, 3, 61),
  (⟨"ExactLoomModel", "digits", "(I)Z"⟩, prog_11_method_37_code, 4, some (FieldType.boolean), 10, 2, false, 8, 0, 0),
  (⟨"ExactLoomModel", "room", "(I)Z"⟩, prog_11_method_34_code, 2, some (FieldType.boolean), 10, 2, false, 8, 1, 20),
  (⟨"ExactLoomModel", "readOne", "()Z"⟩, prog_11_method_52_code, 1, some (FieldType.boolean), 10, 1, false, 8, 7, 155),
  (⟨"ExactLoomModel", "readEntry", "(I)Z"⟩, prog_11_method_44_code, 2, some (FieldType.boolean), 10, 2, false, 8, 5, 112),
  (⟨"ExactLoomModel", "enter", "(I)Z"⟩, prog_11_method_43_code, 2, some (FieldType.boolean), 10, 2, false, 8, 1, 21),
  (⟨"ExactLoomModel", "readWide", "(IJJ)Z"⟩, prog_11_method_42_code, 7, some (FieldType.boolean), 10, 4, false, 8, 4, 86),
  (⟨"ExactLoomModel", "readBytes", "(ZZ)Z"⟩, prog_11_method_40_code, 7, some (FieldType.boolean), 10, 3, false, 8, 3, 61),
  (⟨"ExactLoomModel", "hex", "(I)I"⟩, prog_11_method_39_code, 1, some (FieldType.int), 10, 1, false, 8, 0, 0),
  (⟨"ExactLoomModel", "readCode", "()Z"⟩, prog_11_method_51_code, 3, some (FieldType.boolean), 10, 1, false, 8, 6, 133),
  (⟨"ExactLoomModel", "finish", "(I)Z"⟩, prog_11_method_50_code, 4, some (FieldType.boolean), 10, 2, false, 8, 1, 20),
  (⟨"ExactLoomModel", "readLine", "(I)Z"⟩, prog_11_method_49_code, 2, some (FieldType.boolean), 10, 2, false, 8, 1, 23),
  (⟨"ExactLoomModel", "operation", "()I"⟩, prog_11_method_45_code, 1, some (FieldType.int), 10, 1, false, 8, 1, 28),
  (⟨"ExactLoomModel", "readInstruction", "(II)Z"⟩, prog_11_method_48_code, 6, some (FieldType.boolean), 10, 3, false, 8, 5, 108),
  (⟨"ExactLoomModel", "readDistance", "(I)Z"⟩, prog_11_method_46_code, 5, some (FieldType.boolean), 10, 2, false, 8, 3, 61),
  (⟨"ExactLoomModel", "isRow", "()Z"⟩, prog_11_method_47_code, 3, some (FieldType.boolean), 10, 1, false, 8, 0, 0),
  (⟨"ExactLoomModel", "size", "()I"⟩, prog_11_method_55_code, 1, some (FieldType.int), 10, 1, false, 8, 0, 0),
  (⟨"ExactLoomModel", "byteAt", "(I)I"⟩, prog_11_method_56_code, 2, some (FieldType.int), 10, 2, false, 8, 0, 0),
  (⟨"ExactLoomModel", "length", "()I"⟩, prog_11_method_57_code, 1, some (FieldType.int), 10, 1, false, 8, 0, 0),
  (⟨"ExactLoomModel", "at", "(I)I"⟩, prog_11_method_58_code, 2, some (FieldType.int), 10, 2, false, 8, 0, 0),
  (⟨"ExactLoomModel", "count", "(I)I"⟩, prog_11_method_61_code, 2, some (FieldType.int), 10, 2, false, 8, 2, 47),
  (⟨"ExactLoomModel", "partAt", "(I)I"⟩, prog_11_method_59_code, 6, some (FieldType.int), 10, 2, false, 8, 1, 22),
  (⟨"ExactLoomModel", "skip", "(II)I"⟩, prog_11_method_60_code, 3, some (FieldType.int), 10, 3, false, 8, 0, 0),
  (⟨"ExactLoomModel", "clear", "(I)I"⟩, prog_11_method_62_code, 4, some (FieldType.int), 10, 2, false, 8, 3, 68),
  (⟨"ExactLoomModel", "exact", "()Z"⟩, prog_11_method_63_code, 3, some (FieldType.boolean), 10, 1, false, 8, 9, 195),
  (⟨"java/lang/String", "length", "()I"⟩, prog_13_method_54_code, 1, some (FieldType.int), 11, 1, false, 999, 1, 20),
  (⟨"java/lang/String", "coder", "()B"⟩, prog_13_method_152_code, 1, some (FieldType.byte), 11, 1, false, 999, 0, 0),
  (⟨"java/lang/String", "charAt", "(I)C"⟩, prog_13_method_56_code, 2, some (FieldType.char), 11, 2, false, 999, 3, 64),
  (⟨"java/lang/String", "isLatin1", "()Z"⟩, prog_13_method_154_code, 1, some (FieldType.boolean), 11, 1, false, 999, 0, 0),
  (⟨"java/lang/String", "checkIndex", "(II)V"⟩, prog_13_method_155_code, 2, none, 11, 2, false, 999, 1, 22),
  (⟨"java/lang/StringLatin1", "charAt", "([BI)C"⟩, prog_14_method_2_code, 2, some (FieldType.char), 12, 2, false, 998, 2, 43),
  (⟨"jdk/internal/util/Preconditions", "checkIndex", "(IILjava/util/function/BiFunction;)I"⟩, prog_16_method_11_code, 3, some (FieldType.int), 13, 3, false, 998, 0, 0)]
def kMd : MethodName × ByteArray × Nat × Option FieldType × Nat × Nat × Bool × Nat × Nat × Nat := (⟨"", "", ""⟩, .mk #[], 0, none, 0, 0, false, 998, 0, 0)
def kG0 (mi : Nat) : MethodName × ByteArray × Nat × Option FieldType × Nat × Nat × Bool × Nat × Nat × Nat := kM0.getD mi kMd
def kY (mi : Nat) : MethodName := (kG0 mi).1
def kC (mi : Nat) : ByteArray := (kG0 mi).2.1
def kL (mi : Nat) : Nat := (kG0 mi).2.2.1
def kR (mi : Nat) : Option FieldType := (kG0 mi).2.2.2.1
def kO (mi : Nat) : Nat := (kG0 mi).2.2.2.2.1
def kA (mi : Nat) : Nat := (kG0 mi).2.2.2.2.2.1
def kN0 (mi : Nat) : Bool := (kG0 mi).2.2.2.2.2.2.1
def kH (mi : Nat) : Nat := (kG0 mi).2.2.2.2.2.2.2.1
def kV (mi : Nat) : Nat := (kG0 mi).2.2.2.2.2.2.2.2.1
def kW (mi : Nat) : Nat := (kG0 mi).2.2.2.2.2.2.2.2.2
def kNM : Nat := 176
def kKl : List (List (Nat × List Nat)) := [
  [(18, [0, 1, 2, 3]), (92, [0, 1, 2, 3]), (125, [0, 1, 2, 3]), (138, [0, 1, 2, 3]), (171, [0, 1, 2, 3]), (184, [0, 1, 2, 3]), (197, [0, 1, 2, 3]), (220, [0, 1, 2, 3]), (233, [0, 1, 2, 3]), (256, [0, 1, 2, 3]), (279, [0, 1, 2, 3]), (302, [0, 1, 2, 3]), (315, [0, 1, 2, 3]), (321, [])],
  [],
  [(24, []), (26, [0, 1, 2])],
  [(25, [0])],
  [(42, [2])],
  [(33, []), (35, [0, 1, 2])],
  [(2, [0, 1, 2]), (36, []), (38, [0, 1, 2]), (44, [])],
  [(36, [0, 1]), (45, [0])],
  [],
  [],
  [],
  [],
  [(9, []), (13, [0, 1]), (21, [])],
  [(16, []), (18, [0, 1]), (40, []), (41, [])],
  [(42, []), (43, [])],
  [],
  [],
  [(32, [])],
  [(12, []), (16, [0, 1]), (22, [])],
  [(19, [])],
  [(11, [0, 1, 2, 3, 5]), (38, [3])],
  [(4, [0, 1, 3]), (28, [])],
  [(7, [0, 1, 2]), (30, [])],
  [(12, []), (16, [0, 1]), (22, [])],
  [(13, [0, 1]), (15, [0, 1, 2]), (38, [0, 1, 2]), (44, [])],
  [],
  [(18, [0, 1]), (38, [0])],
  [(32, [0, 1]), (36, [0, 1, 2, 3]), (48, [0, 1, 2, 3]), (71, [0, 1, 2, 3, 4, 5]), (103, [0, 1, 2, 3, 4, 5]), (126, [0, 1, 2, 3, 4, 5]), (140, [0, 1, 2, 3, 4, 5]), (146, [0, 1, 2, 3]), (152, [0, 2]), (167, []), (168, [])],
  [(14, []), (15, [])],
  [(28, [0, 2]), (34, [2]), (38, [0, 2]), (53, [0, 2])],
  [(36, [1]), (40, [0, 1]), (55, [1]), (59, [1])],
  [(9, []), (13, [0, 1]), (26, [])],
  [(9, []), (13, [0, 1]), (21, [])],
  [(14, [0, 2, 3, 4]), (44, [0, 2, 3, 4, 5]), (55, [2, 3]), (64, []), (65, [])],
  [(13, []), (17, [0, 1]), (23, [])],
  [],
  [(2, [0, 1, 2]), (41, []), (43, [0, 1, 2, 3]), (101, [])],
  [(19, []), (21, [0, 3])],
  [(11, [0, 1, 3, 4])],
  [],
  [],
  [(20, [0, 1, 2, 3]), (56, [0, 1, 3]), (60, [0, 1, 3]), (67, [0, 2]), (78, [0]), (86, [0])],
  [(14, [0]), (37, [0])],
  [(7, [0, 1, 2]), (42, [])],
  [(17, [0]), (26, [0]), (43, [0]), (65, [0]), (69, [])],
  [(16, [0])],
  [],
  [(9, [0])],
  [(31, [0, 1, 2]), (32, [0, 1, 2]), (38, []), (40, [0, 1, 2]), (52, [0, 2]), (54, [0, 2, 3]), (80, [0])],
  [(15, []), (16, [])],
  [(10, [0, 1, 3]), (25, [0, 1, 4]), (55, [])],
  [(23, [0])],
  [(36, []), (38, [0, 1, 2, 3]), (69, [0, 1, 2, 3, 4]), (87, [0, 1, 2, 4]), (100, [0, 2, 4, 5, 6]), (125, [4])],
  [(28, []), (30, [0])],
  [(46, []), (48, [0]), (73, []), (75, [0])],
  [(14, [0, 1]), (18, [0, 1]), (29, [0, 1, 2]), (68, [0, 2]), (84, [0, 2]), (112, [0]), (117, [0]), (135, []), (136, []), (137, [0])],
  [(14, [0]), (28, [0]), (42, [0]), (58, []), (59, [])],
  [(14, [0]), (28, [0]), (44, []), (45, [])],
  [(12, [0, 1]), (48, [0]), (60, [0]), (78, [0]), (82, []), (83, [0]), (111, []), (112, []), (113, [0])],
  [(30, []), (32, [0, 1]), (42, [0, 1, 2]), (68, [0])],
  [],
  [(21, []), (23, [0])],
  [],
  [(21, [0, 1, 2, 3, 4, 5]), (48, [0, 1, 2, 3, 4, 5]), (50, [0, 1, 2, 3, 4, 5]), (72, [0, 1, 2, 3, 4, 5]), (78, [])],
  [(2, [0, 1, 2, 3]), (28, [0, 1, 2, 3]), (34, [])],
  [(30, [0, 1, 3, 5, 6, 7]), (88, [0, 1, 3, 5, 6, 7]), (94, [])],
  [(4, [0, 1, 2]), (32, [0, 1, 2]), (38, [])],
  [(30, []), (31, [])],
  [(27, []), (28, [])],
  [],
  [(33, [0, 1, 2]), (54, [0, 1, 2, 3, 4, 5]), (88, [0, 1, 2, 3, 4, 5]), (101, [0, 1, 2, 3, 4, 5]), (114, [0, 1, 2, 3, 4, 5]), (124, [0, 1, 2, 3, 4, 5]), (134, [0, 1, 2, 3, 4, 5]), (153, [0, 1, 2]), (159, [])],
  [(2, [0, 1, 2]), (28, [0])],
  [(12, [0, 2]), (27, [0, 2]), (37, [0, 2]), (39, [0]), (51, [0, 4, 6]), (70, [0, 4, 6]), (101, [0]), (112, [0, 6]), (139, [0])],
  [],
  [(32, [0, 1, 2]), (54, [0, 1, 2]), (78, [0, 1, 2]), (113, [0, 1, 2]), (133, [])],
  [(17, [0, 1, 2, 3]), (29, [0, 1, 2, 3, 4]), (56, [0])],
  [(2, [0, 1, 2, 3]), (37, []), (39, [0, 1, 2, 3]), (45, [2]), (53, []), (54, [])],
  [(12, [0, 1, 2, 3, 4]), (63, [0])],
  [(13, [0]), (20, [])],
  [],
  [(98, [0, 3, 4, 5, 6]), (123, [0]), (126, [0, 3, 4, 5]), (148, [0])],
  [(29, [0, 1, 2, 3]), (51, [])],
  [(45, [0, 1, 3, 4, 5]), (67, [0, 1, 3, 4, 5]), (88, [0, 1, 3, 6, 7, 8]), (141, [0, 1, 3, 6, 7, 8, 9]), (151, [0, 1, 3, 6, 7, 8, 9]), (153, [0, 1, 3, 6, 7, 8, 9]), (159, [0, 1, 3, 6, 7, 8]), (165, [])],
  [],
  [],
  [],
  [(5, [0, 1]), (31, [0, 1]), (36, [0, 1]), (62, [0, 1])],
  [(12, []), (16, []), (17, [])],
  [(23, [0]), (24, [0]), (44, [0, 1]), (48, [0]), (49, [0]), (66, [0]), (72, [0]), (103, [0, 2]), (107, [0, 2]), (108, [0, 2]), (123, [0, 3]), (166, [0, 3, 4]), (167, [0, 3, 4]), (197, [0, 3, 4]), (201, [0, 3, 4]), (202, [0, 3, 4]), (227, [])],
  [(18, [0, 1]), (20, [0, 1, 2]), (43, [0, 1, 2]), (49, [])],
  [(17, []), (21, [0, 1]), (32, [])],
  [(14, []), (16, [0, 1, 3]), (55, []), (56, []), (57, [0, 3]), (87, []), (88, [])],
  [(15, []), (16, [])],
  [],
  [(19, []), (21, [0]), (23, [0, 1]), (45, [0, 1]), (51, [])],
  [(17, [0]), (39, []), (40, [])],
  [],
  [(19, [0]), (25, [0]), (30, [0]), (53, []), (54, [])],
  [(18, [0]), (65, []), (66, [])],
  [(32, []), (34, [0, 1]), (36, [0, 1, 2]), (53, [0, 1, 2]), (59, [])],
  [(14, [0, 1, 2, 3]), (40, [4]), (42, [])],
  [(11, []), (12, [])],
  [(22, []), (26, []), (27, [])],
  [(40, []), (42, [0, 1]), (50, [])],
  [(56, []), (59, []), (62, []), (65, []), (68, []), (71, []), (74, []), (77, []), (80, []), (83, []), (86, [])],
  [(2, [0, 1]), (21, [0, 1]), (27, [])],
  [],
  [(46, [0, 1, 2]), (64, [0, 1, 2, 3, 4]), (83, [0, 1, 2]), (89, [])],
  [(9, [0, 2, 3, 4, 5]), (18, [0, 3, 4, 5]), (27, [0, 4, 5]), (38, [0, 5]), (49, [])],
  [],
  [(17, [0, 3, 4]), (28, [0, 3, 4]), (53, [0, 3, 4, 6]), (55, [0, 3, 4]), (70, [0, 3]), (75, [0, 6]), (100, [])],
  [(10, [0, 1, 2]), (21, [0, 1, 2]), (68, [0, 2])],
  [(44, [0, 1, 2]), (92, [0, 1, 2]), (135, [0, 1]), (165, [0, 1, 3])],
  [(17, [0, 1, 2]), (18, [0, 1, 2]), (22, [0, 1, 2, 3, 5]), (51, [3])],
  [(8, [0, 1, 2]), (9, [0, 1, 2]), (13, [0, 1, 2, 3, 4]), (65, [0, 1, 2, 4]), (66, [0, 1, 2, 4]), (73, [0, 1, 2, 3]), (84, [0, 1, 2]), (93, [0, 1, 2, 4]), (118, [0])],
  [(8, [0, 1, 2, 3]), (53, [0, 1, 2, 3, 4, 5]), (61, [0, 1, 2, 3, 5]), (80, [0, 1, 2, 3, 5]), (88, [0, 1, 2, 3]), (97, [])],
  [],
  [(73, [0, 1, 2, 3]), (100, [0, 1, 2, 3]), (106, [0, 1, 2]), (109, [0, 1, 2]), (136, [0, 1, 2])],
  [(8, [0, 1, 2, 3, 4, 5]), (28, [0, 1, 2, 3, 4]), (69, [0, 1, 2, 3, 5]), (70, [0, 1, 2, 3, 5]), (89, [4])],
  [(32, []), (34, [0, 1, 2, 3]), (50, []), (52, [0, 1, 2, 3]), (64, []), (66, [0, 1, 2, 3]), (94, []), (95, [])],
  [(2, [0, 1, 2, 3]), (20, [0, 1, 2]), (22, [0, 1, 2, 3]), (48, [0, 1, 2, 3]), (49, [0, 1, 2, 3]), (54, [0, 1, 2, 3, 4, 5]), (98, [0, 1, 2, 3, 4, 5]), (104, [0, 1, 2, 3]), (110, [0, 2]), (115, [0, 2, 3, 4]), (153, [])],
  [(22, []), (26, [0, 1]), (48, []), (49, [])],
  [(12, [1]), (15, [])],
  [(38, []), (39, [])],
  [(34, [2]), (35, [])],
  [(46, [0, 1, 2, 3, 4]), (78, [0, 1, 2, 3, 4]), (120, [0, 1, 2, 3, 4]), (129, [0, 1, 2, 3, 4]), (132, [0, 1, 2, 3, 4]), (142, [0, 1, 2, 3, 4, 5, 6]), (173, [0])],
  [(16, [0, 1]), (34, [0, 1]), (52, [0, 1]), (69, [0, 1]), (86, [0, 1]), (103, [0, 1]), (122, [0, 1]), (141, [0, 1]), (160, [0, 1]), (178, [0, 1]), (197, [])],
  [(53, [0, 6]), (64, [0, 6]), (71, [])],
  [(21, []), (23, [0, 1, 2]), (27, [0, 1, 3]), (66, [])],
  [(35, [0, 1]), (44, [0, 1, 2]), (62, [0, 1]), (82, [0]), (106, [0, 2]), (113, [0, 2, 3]), (136, [0])],
  [(9, [0, 1, 2]), (31, [0, 1]), (48, [1]), (50, [1])],
  [(23, [0, 1, 3]), (24, [0, 1, 3]), (29, [0, 1, 3, 4, 5]), (55, [0, 1, 3, 4, 5]), (69, [0, 1, 3, 4, 5]), (80, [0, 1, 4, 5]), (81, [0, 1, 4, 5]), (84, [0, 1, 4, 5]), (91, [3])],
  [(16, [0, 1, 2]), (33, [0, 1, 2]), (40, [0, 2, 3]), (52, [0, 2, 3]), (63, [3]), (72, []), (74, [])],
  [(30, [3]), (31, [])],
  [(22, []), (24, [0, 1, 2]), (26, [0, 1, 2, 3]), (64, []), (66, [0, 1, 2, 3]), (72, [0, 1, 2]), (76, [0, 1, 3]), (115, [])],
  [(2, [0, 1]), (28, [0]), (55, [0]), (65, [0, 1]), (91, [0])],
  [(40, [0]), (63, [0]), (76, [0]), (89, [0]), (105, [0]), (131, [])],
  [],
  [(9, [0]), (24, [0]), (35, []), (36, [])],
  [(0, [0]), (35, [0]), (43, [0]), (78, [0]), (101, []), (102, [])],
  [(22, []), (26, []), (27, [])],
  [(19, [0, 1, 2, 3, 4, 5, 6, 7]), (27, [0, 1, 2, 3, 4, 5, 6, 7]), (36, [0, 1, 2, 3, 4, 5, 6, 7]), (45, [0, 1, 2, 3, 4, 5, 6, 7]), (54, [0, 1, 2, 3, 4, 5, 6, 7]), (56, [0, 1, 2, 3, 4, 5, 6, 7]), (99, [0, 3, 4, 5, 6, 7]), (120, []), (122, [0, 4, 5, 6, 7]), (144, [0, 5, 6, 7]), (166, [0, 6, 7]), (188, []), (192, []), (193, [])],
  [(15, [])],
  [(19, []), (21, [0])],
  [(9, [0, 1, 3]), (27, [0, 1, 3]), (28, [0, 1, 3]), (45, [0, 1, 3, 5]), (49, [0, 1, 3, 5]), (69, [0, 1, 3, 5]), (85, [0]), (90, [0, 1, 3, 5]), (103, [0, 1, 3]), (108, [0, 1, 3]), (129, [0]), (136, []), (140, []), (141, [])],
  [(34, []), (36, [0, 1]), (38, [0, 2]), (94, []), (96, [0, 2, 3]), (117, [])],
  [(16, [0, 1])],
  [(22, [0]), (45, [0]), (68, [0]), (91, [0]), (143, []), (144, []), (145, [0]), (167, [0]), (218, []), (219, []), (220, [0])],
  [(16, []), (18, [0, 1]), (40, [0, 1]), (52, [0, 1]), (83, []), (84, []), (85, [0])],
  [(13, [0, 1]), (47, [0])],
  [(18, []), (20, [0, 1]), (25, [0, 6]), (51, [])],
  [(9, [0, 1, 2]), (31, [0, 1]), (32, [0, 1]), (51, [0, 1, 3]), (64, [0, 1, 3]), (95, [0, 1, 3, 4]), (99, [0, 1, 3, 4]), (132, [0, 1, 3, 4]), (133, [0, 1, 3, 4]), (143, [0, 1, 3, 4, 5, 6]), (158, [0, 1, 3, 4, 5, 6]), (162, [0, 1, 3, 4, 5, 6]), (202, [0, 1, 3, 4, 6]), (206, [0, 1, 3, 4, 6]), (223, [0, 1, 3, 4, 6]), (224, [0, 1, 3, 4, 6]), (232, [0, 1, 3, 4, 5]), (242, [0, 1, 3, 4]), (254, [0, 1, 3, 4]), (256, [0, 1, 3, 4]), (264, [0, 1, 3, 4]), (274, [0, 3, 4]), (277, [0, 3, 4, 6]), (306, [0, 3, 4, 6]), (348, [0, 3, 4, 6]), (357, [])],
  [(19, [0]), (41, []), (42, [])],
  [(37, []), (39, [0]), (58, [0]), (68, [0]), (97, [0, 1]), (129, []), (131, [0, 1]), (153, [0]), (157, []), (158, [0, 1]), (194, [0, 1]), (203, [0, 1]), (215, []), (217, [0, 1]), (220, [0, 1])],
  [(2, [0, 1, 2]), (28, [0, 1, 2]), (90, [0, 1])],
  [(27, [0]), (32, [0, 1])],
  [(18, [0]), (37, [0]), (56, [0]), (74, [0]), (92, [0]), (110, [0]), (130, [0]), (150, [0]), (170, [0]), (189, [0]), (211, []), (212, [])],
  [(16, [0, 1, 3]), (26, [0, 1, 3]), (47, [0, 1, 3]), (64, [0, 1, 3]), (75, []), (77, [0, 1, 3]), (97, [0, 1, 3]), (109, [0, 3]), (113, [0, 3]), (114, [0, 3]), (119, [0, 3, 4, 5]), (136, [0, 3, 4, 5]), (142, [])],
  [(9, [0, 1]), (42, [0, 1, 2]), (74, [0, 1, 3]), (75, [0, 1, 3]), (86, [0, 1, 4]), (94, [0]), (108, []), (109, []), (110, [0, 1, 4]), (157, [0]), (163, [0]), (169, [0]), (188, [0, 2, 3]), (207, [0, 2]), (223, [0, 2]), (226, [0, 2]), (230, [0]), (235, [0, 2]), (249, [0]), (254, [0]), (267, [0])],
  [(33, [0]), (34, [0]), (42, [0, 1, 2]), (80, [0, 2]), (81, [0, 2]), (88, [1])],
  [],
  [(21, []), (22, [])],
  [],
  [(21, []), (22, [])],
  [(9, []), (13, [0, 1]), (23, [])],
  [(4, [0, 1, 2, 3]), (23, [0, 1, 2, 3, 4, 5]), (43, [0, 1, 2, 3]), (49, [2])],
  [(9, [0, 1, 2]), (27, [0, 1, 2]), (42, [0, 2]), (55, [0, 2]), (70, [0, 2]), (84, []), (86, [])],
  [(13, []), (15, [0, 1]), (25, [0, 1, 2, 3]), (43, [0, 2]), (65, []), (66, [])],
  [(2, [0, 1]), (28, [0]), (58, [0]), (59, [0]), (62, [0, 1, 2]), (93, [0, 2]), (94, [0, 2]), (101, [1])],
  [],
  [(13, []), (14, [])],
  [(16, [0, 1])],
  [(17, []), (18, [])],
  [],
  [],
  [(9, [0, 1, 2]), (16, [0])]]
def kK (mi pc : Nat) : Option (List Nat) := ex_lk (kKl.getD mi []) pc
def kFl : List (List (Nat × Nat × Nat × Bool × Nat)) := [[], [(14, 0, 0, false, 514), (18, 0, 1, false, 515), (24, 0, 2, false, 516), (31, 0, 3, false, 517), (38, 0, 4, false, 518), (42, 0, 5, false, 519), (52, 1, 1, true, 118), (67, 6, 0, true, 251), (77, 4, 0, true, 198), (80, 2, 0, true, 271)], [(9, 1, 0, false, 114), (15, 1, 1, false, 116)], [(14, 2, 0, false, 269), (20, 2, 1, false, 272), (24, 2, 2, false, 273), (37, 1, 1, true, 120)], [(9, 3, 0, false, 178), (13, 3, 2, false, 180), (16, 3, 3, false, 181), (19, 3, 4, false, 182), (22, 3, 1, false, 179), (26, 3, 5, false, 183)], [(14, 4, 0, false, 197), (23, 4, 1, false, 199), (30, 4, 2, false, 200), (38, 4, 6, false, 204), (90, 4, 5, false, 203), (93, 4, 3, false, 201), (96, 4, 4, false, 202), (173, 4, 8, false, 206), (181, 4, 7, false, 205), (195, 4, 9, false, 207), (46, 1, 1, true, 119), (59, 7, 2, true, 144), (86, 7, 8, true, 151)], [(9, 5, 0, false, 243), (21, 5, 1, false, 244)], [(14, 6, 0, false, 250), (20, 6, 1, false, 252), (26, 6, 2, false, 253), (39, 2, 0, true, 270), (150, 1, 1, true, 121)], [(9, 7, 0, false, 142), (30, 7, 1, false, 143), (31, 7, 3, false, 146), (41, 7, 2, false, 145), (47, 7, 4, false, 147), (50, 7, 5, false, 148), (54, 7, 6, false, 149), (57, 7, 7, false, 150), (81, 7, 8, false, 152), (15, 1, 0, true, 115), (20, 1, 1, true, 117)], [], [(7, 8, 0, false, 904), (13, 8, 1, false, 905), (17, 8, 2, false, 906), (20, 8, 4, false, 908), (23, 8, 6, false, 910), (26, 8, 8, false, 912), (29, 8, 10, false, 914), (32, 8, 11, false, 915), (36, 8, 12, false, 916), (39, 8, 13, false, 917), (42, 8, 23, false, 927), (45, 8, 25, false, 929), (48, 8, 26, false, 930), (51, 8, 27, false, 931), (57, 8, 5, false, 909), (60, 8, 18, false, 922), (77, 8, 9, false, 913), (156, 8, 7, false, 911), (159, 8, 15, false, 919), (162, 8, 14, false, 918), (169, 8, 16, false, 920), (172, 8, 17, false, 921), (179, 8, 20, false, 924), (185, 8, 3, false, 907), (188, 8, 19, false, 923), (215, 8, 21, false, 925), (218, 8, 22, false, 926), (250, 8, 28, false, 932), (262, 8, 24, false, 928)], [], [], [], [], []]
def kF (o idx : Nat) : Option (Nat × Nat × Bool) := (ex_lk (kFl.getD o []) idx).map (fun q => (q.1, q.2.1, q.2.2.1))
def kIl : List (List (Nat × Int32 × Nat)) := [[], [], [], [], [], [], [], [], [], [], [(115, 65536, 891)], [], [], [], [], []]
def kI (o idx : Nat) : Option Int32 := (ex_lk (kIl.getD o []) idx).map (fun q => q.1)
def kJl : List (List (Nat × Int64 × Nat)) := [[], [], [], [], [], [(74, 255, 606), (148, -2147483648, 743), (150, 2147483647, 744), (164, -9223372036854775808, 754), (166, 9223372036854775807, 755), (217, -128, 696), (219, 127, 697)], [], [(171, 10, 379)], [(63, -9223372036854775808, 588), (65, 10, 589), (84, -32768, 716), (90, -32767, 718), (94, -2147483647, 677), (96, 2147483647, 678)], [], [(84, 10, 833), (94, -1, 846), (96, 256, 847), (192, -922337203685477580, 1065), (200, -9223372036854775807, 1066), (224, -2147483648, 1083), (226, 2147483647, 1084), (239, -9223372036854775808, 1096), (241, 9223372036854775807, 1097), (253, -1000, 1126), (255, -32768, 1127), (257, -32767, 1128)], [], [], [], [], []]
def kJ (o idx : Nat) : Option Int64 := (ex_lk (kJl.getD o []) idx).map (fun q => q.1)
def kSl : List (List (Nat × Nat × Nat)) := [[], [], [], [], [], [(65, 0, 594), (128, 1, 727), (130, 2, 728), (132, 3, 729), (134, 4, 730), (136, 5, 735), (138, 6, 736), (140, 7, 737), (168, 8, 625), (176, 9, 640), (193, 10, 764)], [], [(33, 11, 320), (79, 12, 400), (85, 13, 406), (90, 14, 421), (92, 15, 422), (94, 16, 427), (96, 17, 513), (101, 18, 432), (103, 19, 433), (121, 20, 507), (123, 21, 508)], [], [(9, 22, 493), (11, 23, 494), (13, 24, 495), (15, 25, 496), (17, 26, 497), (19, 27, 498), (21, 28, 499), (23, 29, 500), (25, 30, 501), (27, 31, 502), (29, 32, 503)], [], [], [], [], [], []]
def kS (o idx : Nat) : Option Nat := (ex_lk (kSl.getD o []) idx).map (fun q => q.1)
def kZl : List (List (Nat × Nat × Nat)) := [[], [], [], [], [], [], [], [], [], [], [], [(38, 0, 333), (1053, 1, 349)], [], [], [], []]
def kZ (o idx : Nat) : Option Nat := (ex_lk (kZl.getD o []) idx).map (fun q => q.1)
def kGl : List (List (Nat × Bool × Nat)) := [[], [], [], [], [], [], [], [], [], [], [], [(9, true, 1166), (15, false, 1167)], [], [], [], []]
def kG (o idx : Nat) : Option Bool := (ex_lk (kGl.getD o []) idx).map (fun q => q.1)
def kNl : List (List (Nat × Nat × Nat)) := [[(7, 0, 100), (10, 8, 811)], [(7, 1, 108), (21, 4, 128), (28, 6, 229), (35, 2, 261)], [], [(9, 1, 267)], [], [(9, 1, 134), (20, 7, 136), (27, 3, 172)], [], [(9, 1, 235), (23, 5, 237)], [], [], [], [], [], [], [], []]
def kN (o idx : Nat) : Option Nat := (ex_lk (kNl.getD o []) idx).map (fun q => q.1)
def kMl : List (List (Nat × Nat × Nat × Nat)) := [[(9, 1, 2, 102), (12, 106, 2, 813), (13, 2, 0, 534), (17, 128, 0, 993), (18, 3, 0, 543), (22, 129, 0, 997), (23, 5, 0, 557), (26, 134, 0, 1017), (27, 7, 0, 564), (30, 135, 0, 1021), (31, 8, 0, 769), (34, 160, 0, 1129), (35, 9, 0, 773), (39, 161, 0, 1133), (40, 10, 0, 781), (43, 162, 0, 1137), (44, 11, 0, 785), (47, 163, 0, 1141), (48, 12, 0, 789), (51, 164, 0, 1145), (52, 13, 0, 794), (55, 167, 0, 1157), (56, 14, 0, 803), (60, 168, 0, 1162)], [(1, 0, 6, 105), (11, 15, 2, 110), (23, 40, 2, 130), (30, 69, 2, 231), (37, 25, 2, 263), (45, 26, 0, 281), (48, 70, 0, 315), (56, 21, 0, 538), (60, 4, 0, 547), (64, 16, 0, 556), (70, 6, 1, 561), (74, 41, 0, 568), (83, 23, 0, 777), (87, 31, 0, 793), (90, 34, 0, 798), (93, 33, 0, 802), (97, 24, 0, 807), (101, 22, 0, 551), (105, 27, 0, 555)], [(3, 0, 6, 113), (19, 17, 0, 542), (23, 18, 0, 405)], [(3, 0, 6, 266), (11, 15, 2, 268), (27, 16, 0, 285), (30, 17, 0, 289), (33, 27, 0, 293), (41, 0, 5, 297), (47, 18, 0, 300), (51, 28, 1, 304), (55, 29, 0, 307), (58, 30, 0, 311), (61, 100, 1, 439)], [(1, 0, 6, 177), (29, 19, 0, 634)], [(3, 0, 6, 133), (11, 15, 2, 135), (22, 84, 2, 138), (29, 35, 2, 174), (34, 85, 0, 572), (42, 42, 0, 590), (50, 92, 0, 617), (53, 44, 0, 621), (56, 55, 0, 719), (62, 43, 0, 613), (67, 89, 0, 595), (71, 86, 0, 605), (76, 91, 0, 607), (80, 16, 0, 611), (83, 17, 0, 612), (99, 56, 0, 723), (103, 57, 0, 731), (106, 18, 0, 738), (110, 19, 0, 639), (114, 58, 0, 739), (118, 60, 0, 756), (121, 61, 0, 760), (124, 48, 0, 645), (142, 50, 0, 665), (152, 53, 0, 698), (156, 94, 0, 653), (159, 59, 0, 745), (170, 45, 0, 626), (178, 47, 0, 641), (184, 97, 0, 673), (187, 51, 0, 679), (190, 52, 0, 687), (198, 39, 0, 765), (201, 36, 0, 630), (205, 46, 0, 635), (208, 37, 0, 683), (211, 105, 1, 691), (221, 102, 1, 702), (224, 103, 1, 703), (228, 54, 0, 704), (231, 38, 0, 708), (235, 98, 0, 712), (238, 93, 0, 649), (241, 99, 0, 749), (244, 49, 0, 661), (247, 90, 0, 753), (250, 96, 0, 669)], [(3, 0, 6, 242), (15, 0, 5, 456), (25, 100, 1, 457), (31, 65, 0, 462), (35, 103, 1, 466), (39, 18, 0, 467), (45, 101, 1, 468), (48, 20, 0, 469)], [(3, 0, 6, 234), (11, 15, 2, 236), (25, 62, 2, 239), (30, 16, 0, 319), (35, 71, 0, 321), (44, 18, 0, 374), (48, 72, 0, 375), (52, 73, 0, 380), (55, 31, 0, 388), (58, 32, 0, 392), (61, 74, 0, 396), (65, 79, 0, 423), (68, 80, 0, 428), (72, 83, 0, 509), (75, 29, 0, 434), (81, 20, 0, 401), (87, 75, 0, 407), (98, 77, 0, 414), (105, 33, 0, 435), (109, 63, 0, 452), (112, 64, 0, 458), (115, 66, 0, 470), (118, 81, 0, 474), (125, 67, 0, 478), (128, 68, 0, 482), (131, 82, 0, 486), (134, 104, 1, 490), (140, 102, 1, 504), (143, 103, 1, 505), (147, 101, 1, 506), (154, 19, 0, 384), (158, 169, 0, 325), (164, 171, 0, 335), (168, 17, 0, 373), (173, 76, 1, 411), (177, 78, 1, 418)], [(3, 0, 6, 141), (24, 0, 5, 576), (34, 86, 0, 577), (37, 87, 1, 581), (44, 88, 0, 584), (67, 169, 0, 599), (73, 90, 0, 600), (77, 171, 0, 604), (86, 91, 0, 717), (98, 93, 0, 657), (101, 95, 1, 658)], [(33, 104, 1, 694), (37, 89, 0, 695), (43, 18, 0, 442), (49, 101, 1, 443), (52, 103, 1, 449), (56, 102, 1, 446)], [(1, 0, 6, 816), (54, 107, 0, 817), (63, 130, 0, 1001), (67, 132, 0, 1009), (71, 133, 0, 1013), (74, 131, 0, 1005), (80, 109, 0, 825), (86, 115, 0, 852), (90, 110, 0, 829), (98, 108, 0, 821), (102, 113, 0, 842), (106, 114, 0, 848), (109, 116, 0, 856), (112, 119, 0, 868), (116, 124, 0, 887), (119, 121, 0, 876), (122, 122, 1, 880), (125, 123, 0, 883), (129, 126, 0, 896), (132, 127, 0, 900), (136, 118, 0, 864), (140, 120, 0, 872), (143, 125, 0, 892), (147, 112, 0, 838), (150, 117, 0, 860), (153, 111, 0, 834), (165, 140, 0, 1041), (175, 139, 0, 1037), (182, 142, 0, 1049), (194, 138, 0, 1033), (197, 145, 0, 1061), (202, 152, 1, 1093), (205, 146, 0, 1067), (208, 137, 0, 1029), (211, 144, 0, 1057), (221, 149, 0, 1079), (228, 150, 0, 1085), (232, 151, 0, 1089), (236, 143, 0, 1053), (243, 141, 0, 1045), (247, 159, 0, 1122), (259, 158, 0, 1118), (265, 154, 0, 1102), (268, 155, 0, 1106), (271, 156, 0, 1110), (275, 157, 0, 1114), (278, 148, 0, 1075), (281, 153, 0, 1098), (284, 147, 0, 1071), (287, 136, 0, 1025), (290, 166, 0, 1153), (293, 165, 0, 1149), (296, 164, 0, 1161)], [(335, 170, 0, 329), (492, 172, 0, 339), (495, 174, 1, 343), (1059, 175, 1, 351)], [(9, 173, 1, 346)], [], [], []]
def kM (o idx : Nat) : Option (Nat × Nat) := (ex_lk (kMl.getD o []) idx).map (fun q => (q.1, q.2.1))
def nS : Nat := 33
def kSB : List (List Int32) := [[98, 108, 111, 99, 107], [105, 110, 116], [110, 97, 109, 101], [112, 97, 105, 114], [108, 111, 110, 103], [102, 105, 101, 108, 100], [99, 111, 100, 101], [97, 116, 116, 97, 99, 104], [125], [114, 97, 119], [123], [98, 108, 111, 99, 107], [105, 110, 116], [110, 97, 109, 101], [112, 97, 105, 114], [108, 111, 110, 103], [102, 105, 101, 108, 100], [97, 116, 116, 97, 99, 104], [99, 111, 100, 101], [123], [114, 97, 119], [125], [110, 111, 112], [112, 117, 115, 104], [108, 111, 97, 100], [97, 100, 100], [115, 117, 98], [100, 117, 112], [106, 117, 109, 112], [122, 101, 114, 111], [99, 97, 108, 108], [114, 101, 116], [112, 105, 99, 107]]
def kX (j : Nat) : List Int32 := kSB.getD j []
def kSR : List (String × Nat × String × Nat) := [("ExactLoom$Maker", 65, "block", 0), ("ExactLoom$Maker", 128, "int", 1), ("ExactLoom$Maker", 130, "name", 2), ("ExactLoom$Maker", 132, "pair", 3), ("ExactLoom$Maker", 134, "long", 4), ("ExactLoom$Maker", 136, "field", 5), ("ExactLoom$Maker", 138, "code", 6), ("ExactLoom$Maker", 140, "attach", 7), ("ExactLoom$Maker", 168, "}", 8), ("ExactLoom$Maker", 176, "raw", 9), ("ExactLoom$Maker", 193, "{", 10), ("ExactLoom$Scribe", 33, "block", 11), ("ExactLoom$Scribe", 79, "int", 12), ("ExactLoom$Scribe", 85, "name", 13), ("ExactLoom$Scribe", 90, "pair", 14), ("ExactLoom$Scribe", 92, "long", 15), ("ExactLoom$Scribe", 94, "field", 16), ("ExactLoom$Scribe", 96, "attach", 17), ("ExactLoom$Scribe", 101, "code", 18), ("ExactLoom$Scribe", 103, "{", 19), ("ExactLoom$Scribe", 121, "raw", 20), ("ExactLoom$Scribe", 123, "}", 21), ("ExactLoom$Instructions", 9, "nop", 22), ("ExactLoom$Instructions", 11, "push", 23), ("ExactLoom$Instructions", 13, "load", 24), ("ExactLoom$Instructions", 15, "add", 25), ("ExactLoom$Instructions", 17, "sub", 26), ("ExactLoom$Instructions", 19, "dup", 27), ("ExactLoom$Instructions", 21, "jump", 28), ("ExactLoom$Instructions", 23, "zero", 29), ("ExactLoom$Instructions", 25, "call", 30), ("ExactLoom$Instructions", 27, "ret", 31), ("ExactLoom$Instructions", 29, "pick", 32)]
end
section
/-! the pure machine: a world of numbered cells, frames as lists, steps by the decoded instruction -/
abbrev ex_C : Type := (Nat × List Value) ⊕ (Nat × List Int32)
abbrev ex_W : Type := List ex_C
abbrev ex_L : Type := List (Nat × Value)
abbrev ex_A : Type := (Nat × ex_L × List Value × ex_W) ⊕ (Option Value ⊕ (Nat × List Value × List Value))
abbrev ex_O : Type := Option (Option Value × ex_W)
def ex_get : ex_L → Nat → Option Value
  | [], _ => none
  | q :: t, i => if q.1 = i then some q.2 else ex_get t i
def ex_hit (i : Nat) (v : Value) (q : Nat × Value) : Bool := q.1 == i || (q.1 + 1 == i && q.2.category == 2) || (v.category == 2 && q.1 == i + 1)
def ex_ins : ex_L → Nat → Value → ex_L
  | [], i, v => [(i, v)]
  | q :: t, i, v => if i < q.1 then (i, v) :: q :: t else q :: ex_ins t i v
def ex_set (L : ex_L) (i : Nat) (v : Value) : ex_L := ex_ins (L.filter (fun q => !ex_hit i v q)) i v
def ex_keep (ks : List Nat) (L : ex_L) : ex_L := L.filter (fun q => ks.contains q.1)
/-- which of a frame's variables go on at a place where roads meet -/
def ex_tr (mi pc : Nat) (L : ex_L) : ex_L := match kK mi pc with
  | none => L
  | some ks => ex_keep ks L
def ex_gf (w : ex_W) (h ci k : Nat) : Option Value := match w[h]? with
  | some (.inl (cj, fs)) => if cj = ci then fs[k]? else none
  | _ => none
def ex_pf (w : ex_W) (h ci k : Nat) (v : Value) : Option ex_W := match w[h]? with
  | some (.inl (cj, fs)) => if cj = ci ∧ k < fs.length then some (w.set h (.inl (cj, fs.set k v))) else none
  | _ => none
def ex_al (w : ex_W) (a kd : Nat) (i : Int32) : Option Int32 := match w[a]? with
  | some (.inr (kj, xs)) => if kj = kd ∧ ¬ i < 0 then xs[i.toNatClampNeg]? else none
  | _ => none
def ex_as (w : ex_W) (a kd : Nat) (i x : Int32) : Option ex_W := match w[a]? with
  | some (.inr (kj, xs)) => if kj = kd ∧ ¬ i < 0 ∧ i.toNatClampNeg < xs.length then some (w.set a (.inr (kj, xs.set i.toNatClampNeg x))) else none
  | _ => none
def ex_an (w : ex_W) (a : Nat) : Option Int32 := match w[a]? with
  | some (.inr (_, xs)) => some (Int32.ofNat xs.length)
  | _ => none
def ex_pop (n : Nat) (st : List Value) : Option (List Value × List Value) := if n ≤ st.length then some ((st.take n).reverse, st.drop n) else none
def ex_len : Jvm.ClassFile.Instr → Nat
  | .aload _ => 2
  | .iload _ => 2
  | .lload _ => 2
  | .astore _ => 2
  | .istore _ => 2
  | .lstore _ => 2
  | .bipush _ => 2
  | .sipush _ => 3
  | .ldc _ => 2
  | .ldc2_w _ => 3
  | .iinc _ _ => 3
  | .getfield _ => 3
  | .putfield _ => 3
  | .getstatic _ => 3
  | .new _ => 3
  | .newarray _ => 2
  | .ifCond _ _ => 3
  | .if_icmp _ _ => 3
  | .goto _ => 3
  | .invokevirtual _ => 3
  | .invokestatic _ => 3
  | .invokespecial _ => 3
  | _ => 1
def ex_lok (i : Jvm.ClassFile.Instr) (len : Nat) : Bool := match i with
  | .tableswitch _ _ _ _ => true
  | .lookupswitch _ _ => true
  | _ => len == ex_len i
def ex_cb (c : Jvm.ClassFile.Cond) (x y : Int32) : Bool := match c with
  | .eq => decide (x = y)
  | .ne => decide (¬ x = y)
  | .lt => decide (x < y)
  | .ge => decide (y ≤ x)
  | .gt => decide (y < x)
  | .le => decide (x ≤ y)
def ex_j (pc : Nat) (off : Int) (L : ex_L) (st : List Value) (w : ex_W) : Option ex_A := if 0 ≤ (pc : Int) + off then some (.inl (((pc : Int) + off).toNat, L, st, w)) else none
def ex_br (pc : Nat) (off : Int) (cb : Bool) (L : ex_L) (st : List Value) (w : ex_W) : Option ex_A := if 0 ≤ (pc : Int) + off then some (.inl (if cb = true then ((pc : Int) + off).toNat else pc + 3, L, st, w)) else none
def ex_ldA (pc : Nat) (L : ex_L) (st : List Value) (w : ex_W) (i : Nat) : Option ex_A := match ex_get L i with
  | some (.ref x) => some (.inl (pc, L, .ref x :: st, w))
  | _ => none
def ex_ldI (pc : Nat) (L : ex_L) (st : List Value) (w : ex_W) (i : Nat) : Option ex_A := match ex_get L i with
  | some (.int x) => some (.inl (pc, L, .int x :: st, w))
  | _ => none
def ex_ldJ (pc : Nat) (L : ex_L) (st : List Value) (w : ex_W) (i : Nat) : Option ex_A := match ex_get L i with
  | some (.long x) => some (.inl (pc, L, .long x :: st, w))
  | _ => none
def ex_stA (mi pc : Nat) (L : ex_L) (st : List Value) (w : ex_W) (i : Nat) : Option ex_A := match st with
  | .ref x :: r => if i < kL mi then some (.inl (pc, ex_set L i (.ref x), r, w)) else none
  | _ => none
def ex_stI (mi pc : Nat) (L : ex_L) (st : List Value) (w : ex_W) (i : Nat) : Option ex_A := match st with
  | .int x :: r => if i < kL mi then some (.inl (pc, ex_set L i (.int x), r, w)) else none
  | _ => none
def ex_stJ (mi pc : Nat) (L : ex_L) (st : List Value) (w : ex_W) (i : Nat) : Option ex_A := match st with
  | .long x :: r => if i + 1 < kL mi then some (.inl (pc, ex_set L i (.long x), r, w)) else none
  | _ => none
def ex_ii (pc : Nat) (L : ex_L) (st : List Value) (w : ex_W) (f : Int32 → Int32 → Int32) : Option ex_A := match st with
  | .int y :: .int x :: r => some (.inl (pc, L, .int (f x y) :: r, w))
  | _ => none
def ex_jj (pc : Nat) (L : ex_L) (st : List Value) (w : ex_W) (f : Int64 → Int64 → Int64) : Option ex_A := match st with
  | .long y :: .long x :: r => some (.inl (pc, L, .long (f x y) :: r, w))
  | _ => none
def ex_ji (pc : Nat) (L : ex_L) (st : List Value) (w : ex_W) (f : Int64 → Int32 → Int64) : Option ex_A := match st with
  | .int y :: .long x :: r => some (.inl (pc, L, .long (f x y) :: r, w))
  | _ => none
/-- a switch by its table: the offset -/
def ex_sw (x : Int32) : List Int → Int → Int → Int
  | [], _, d => d
  | o :: t, lo, d => if x = Int32.ofInt lo then o else ex_sw x t (lo + 1) d
def ex_ls (x : Int32) : List (Int × Int) → Int → Int
  | [], d => d
  | q :: t, d => if x = Int32.ofInt q.1 then q.2 else ex_ls x t d
def ex_rc (w : ex_W) (h ci : Nat) : Bool := if ci = 999 then decide (1001 ≤ h ∧ h < 1001 + nS) else match w[h]? with
  | some (.inl (cj, _)) => decide (h < 1000) && cj == ci
  | _ => false
/-- the callee's room fits in the caller's -/
def ex_lv (mi mj : Nat) (av r : List Value) : Bool := decide (0 < mj ∧ mj < kNM ∧ kV mj + 1 ≤ kV mi ∧ kL mj + 19 + kW mj ≤ kW mi ∧ (lg_sl av).length ≤ kL mj ∧ (r.map Value.category).sum ≤ 8)
def ex_do (X : Option (List Int32)) (mi pc : Nat) (i : Jvm.ClassFile.Instr) (L : ex_L) (st : List Value) (w : ex_W) : Option ex_A :=
  match i with
  | .aload_n k => ex_ldA (pc + 1) L st w k
  | .aload k => ex_ldA (pc + 2) L st w k
  | .iload_n k => ex_ldI (pc + 1) L st w k
  | .iload k => ex_ldI (pc + 2) L st w k
  | .lload_n k => ex_ldJ (pc + 1) L st w k
  | .lload k => ex_ldJ (pc + 2) L st w k
  | .astore_n k => ex_stA mi (pc + 1) L st w k
  | .astore k => ex_stA mi (pc + 2) L st w k
  | .istore_n k => ex_stI mi (pc + 1) L st w k
  | .istore k => ex_stI mi (pc + 2) L st w k
  | .lstore_n k => ex_stJ mi (pc + 1) L st w k
  | .lstore k => ex_stJ mi (pc + 2) L st w k
  | .iconst n => some (.inl (pc + 1, L, .int (Int32.ofInt n) :: st, w))
  | .bipush n => some (.inl (pc + 2, L, .int (Int8.ofInt n).toInt32 :: st, w))
  | .sipush n => some (.inl (pc + 3, L, .int (Int16.ofInt n).toInt32 :: st, w))
  | .lconst n => some (.inl (pc + 1, L, .long (Int64.ofNat n) :: st, w))
  | .ldc idx => match kI (kO mi) idx with
    | some v => some (.inl (pc + 2, L, .int v :: st, w))
    | none => match kS (kO mi) idx with
      | some j => some (.inl (pc + 2, L, .ref (1001 + j) :: st, w))
      | none => none
  | .ldc2_w idx => match kJ (kO mi) idx with
    | some v => some (.inl (pc + 3, L, .long v :: st, w))
    | none => none
  | .iinc i n => match ex_get L i with
    | some (.int x) => if i < kL mi then some (.inl (pc + 3, ex_set L i (.int (x + Int32.ofInt n)), st, w)) else none
    | _ => none
  | .iadd => ex_ii (pc + 1) L st w (fun x y => x + y)
  | .isub => ex_ii (pc + 1) L st w (fun x y => x - y)
  | .imul => ex_ii (pc + 1) L st w (fun x y => x * y)
  | .iand => ex_ii (pc + 1) L st w (fun x y => x &&& y)
  | .ishl => ex_ii (pc + 1) L st w (fun x y => x <<< (y &&& 31))
  | .ishr => ex_ii (pc + 1) L st w (fun x y => x >>> (y &&& 31))
  | .idiv => match st with
    | .int y :: .int x :: r => if y = 0 then none else some (.inl (pc + 1, L, .int (x / y) :: r, w))
    | _ => none
  | .irem => match st with
    | .int y :: .int x :: r => if y = 0 then none else some (.inl (pc + 1, L, .int (x - x / y * y) :: r, w))
    | _ => none
  | .ineg => match st with
    | .int x :: r => some (.inl (pc + 1, L, .int (-x) :: r, w))
    | _ => none
  | .ladd => ex_jj (pc + 1) L st w (fun x y => x + y)
  | .lsub => ex_jj (pc + 1) L st w (fun x y => x - y)
  | .lmul => ex_jj (pc + 1) L st w (fun x y => x * y)
  | .lor => ex_jj (pc + 1) L st w (fun x y => x ||| y)
  | .lshl => ex_ji (pc + 1) L st w (fun x y => x <<< (y.toInt64 &&& 63))
  | .lshr => ex_ji (pc + 1) L st w (fun x y => x >>> (y.toInt64 &&& 63))
  | .ldiv => match st with
    | .long y :: .long x :: r => if y = 0 then none else some (.inl (pc + 1, L, .long (x / y) :: r, w))
    | _ => none
  | .lrem => match st with
    | .long y :: .long x :: r => if y = 0 then none else some (.inl (pc + 1, L, .long (x - x / y * y) :: r, w))
    | _ => none
  | .lneg => match st with
    | .long x :: r => some (.inl (pc + 1, L, .long (-x) :: r, w))
    | _ => none
  | .lcmp => match st with
    | .long y :: .long x :: r => some (.inl (pc + 1, L, .int (lg_cmp x y) :: r, w))
    | _ => none
  | .i2l => match st with
    | .int x :: r => some (.inl (pc + 1, L, .long x.toInt64 :: r, w))
    | _ => none
  | .l2i => match st with
    | .long x :: r => some (.inl (pc + 1, L, .int x.toInt32 :: r, w))
    | _ => none
  | .i2b => match st with
    | .int x :: r => some (.inl (pc + 1, L, .int x.toInt8.toInt32 :: r, w))
    | _ => none
  | .i2c => match st with
    | .int x :: r => some (.inl (pc + 1, L, .int (x.toUInt32 % 65536).toInt32 :: r, w))
    | _ => none
  | .dup => match st with
    | v :: r => if v.category = 1 then some (.inl (pc + 1, L, v :: v :: r, w)) else none
    | _ => none
  | .dup_x1 => match st with
    | v :: u :: r => if v.category = 1 ∧ u.category = 1 then some (.inl (pc + 1, L, v :: u :: v :: r, w)) else none
    | _ => none
  | .dup_x2 => match st with
    | v :: u :: t :: r => if v.category = 1 ∧ u.category = 1 ∧ t.category = 1 then some (.inl (pc + 1, L, v :: u :: t :: v :: r, w)) else none
    | _ => none
  | .dup2 => match st with
    | v :: u :: r => if v.category = 1 ∧ u.category = 1 then some (.inl (pc + 1, L, v :: u :: v :: u :: r, w)) else none
    | _ => none
  | .pop => match st with
    | v :: r => if v.category = 1 then some (.inl (pc + 1, L, r, w)) else none
    | _ => none
  | .ifCond c off => match st with
    | .int x :: r => ex_br pc off (ex_cb c x 0) L r w
    | _ => none
  | .if_icmp c off => match st with
    | .int y :: .int x :: r => ex_br pc off (ex_cb c x y) L r w
    | _ => none
  | .goto off => ex_j pc off L st w
  | .tableswitch d lo hi offs => match st with
    | .int x :: r => if lo < -2147483648 ∨ hi ≥ 2147483648 ∨ lo + offs.toList.length ≠ hi + 1 then none else ex_j pc (ex_sw x offs.toList lo d) L r w
    | _ => none
  | .lookupswitch d ps => match st with
    | .int x :: r => if ((ps.toList.zip (ps.toList.drop 1)).all (fun (a, nx) => a.1 < nx.1) && ps.toList.all (fun q => decide (-2147483648 ≤ q.1 ∧ q.1 < 2147483648))) = true then ex_j pc (ex_ls x ps.toList d) L r w else none
    | _ => none
  | .getstatic idx => match kZ (kO mi) idx with
    | some 0 => some (.inl (pc + 3, L, .int 1 :: st, w))
    | some _ => some (.inl (pc + 3, L, .retAddr 0 :: st, w))
    | none => none
  | .getfield idx => match st with
    | .ref h :: r => if h < 1000 then match kF (kO mi) idx with
        | some (ci, k, _) => match ex_gf w h ci k with
          | some v => some (.inl (pc + 3, L, v :: r, w))
          | none => none
        | none => none
      else if 1001 ≤ h ∧ h < 1001 + nS then match kG (kO mi) idx with
        | some true => some (.inl (pc + 3, L, .ref (h + 1000) :: r, w))
        | some false => some (.inl (pc + 3, L, .int 0 :: r, w))
        | none => none
      else none
    | _ => none
  | .putfield idx => match st with
    | v :: .ref h :: r => if h < 1000 then match kF (kO mi) idx with
        | some (ci, k, nest) => if narrow (kT ci k) v = v ∧ fits (kT ci k) v = true ∧ (kQ ci k = true → kN0 mi = true ∧ nest = false ∧ kD ci = kO mi) then match ex_pf w h ci k v with
            | some w1 => some (.inl (pc + 3, L, r, w1))
            | none => none
          else none
        | none => none
      else none
    | _ => none
  | .new idx => match kN (kO mi) idx with
    | some ci => if w.length < 1000 then some (.inl (pc + 3, L, .ref w.length :: st, w ++ [.inl (ci, kB ci)])) else none
    | none => none
  | .newarray .int => match st with
    | .int n :: r => if ¬ n < 0 ∧ n.toNatClampNeg ≤ 100000 ∧ w.length < 1000 then some (.inl (pc + 2, L, .ref w.length :: r, w ++ [.inr (0, List.replicate n.toNatClampNeg 0)])) else none
    | _ => none
  | .newarray .boolean => match st with
    | .int n :: r => if ¬ n < 0 ∧ n.toNatClampNeg ≤ 100000 ∧ w.length < 1000 then some (.inl (pc + 2, L, .ref w.length :: r, w ++ [.inr (1, List.replicate n.toNatClampNeg 0)])) else none
    | _ => none
  | .arraylength => match st with
    | .ref a :: r => if a < 1000 then match ex_an w a with
        | some v => some (.inl (pc + 1, L, .int v :: r, w))
        | none => none
      else if a = 1000 then match X with
        | some xs => some (.inl (pc + 1, L, .int (Int32.ofNat xs.length) :: r, w))
        | none => none
      else if 2001 ≤ a ∧ a < 2001 + nS then some (.inl (pc + 1, L, .int (Int32.ofNat (kX (a - 2001)).length) :: r, w))
      else none
    | _ => none
  | .iaload => match st with
    | .int i :: .ref a :: r => if a < 1000 then match ex_al w a 0 i with
        | some v => some (.inl (pc + 1, L, .int v :: r, w))
        | none => none
      else if a = 1000 ∧ ¬ i < 0 then match X with
        | some xs => match xs[i.toNatClampNeg]? with
          | some v => some (.inl (pc + 1, L, .int v :: r, w))
          | none => none
        | none => none
      else none
    | _ => none
  | .baload => match st with
    | .int i :: .ref a :: r => if a < 1000 then match ex_al w a 1 i with
        | some v => some (.inl (pc + 1, L, .int v :: r, w))
        | none => none
      else if 2001 ≤ a ∧ a < 2001 + nS ∧ ¬ i < 0 then match (kX (a - 2001))[i.toNatClampNeg]? with
        | some v => some (.inl (pc + 1, L, .int v :: r, w))
        | none => none
      else none
    | _ => none
  | .iastore => match st with
    | .int x :: .int i :: .ref a :: r => if a < 1000 then match ex_as w a 0 i x with
        | some w1 => some (.inl (pc + 1, L, r, w1))
        | none => none
      else none
    | _ => none
  | .bastore => match st with
    | .int x :: .int i :: .ref a :: r => if a < 1000 ∧ vp_nar .boolean x = x then match ex_as w a 1 i x with
        | some w1 => some (.inl (pc + 1, L, r, w1))
        | none => none
      else none
    | _ => none
  | .invokestatic idx => match kM (kO mi) idx with
    | some (mj, 1) => match ex_pop (kA mj) st with
      | some (av, r) => if ex_lv mi mj av r = true then some (.inr (.inr (mj, av, r))) else none
      | none => none
    | some (_, 5) => match st with
      | .int y :: .int x :: r => if (r.map Value.category).sum ≤ 8 ∧ 1 ≤ kV mi ∧ 21 ≤ kW mi then some (.inl (pc + 3, L, .int (if y < x then y else x) :: r, w)) else none
      | _ => none
    | _ => none
  | .invokevirtual idx => match kM (kO mi) idx with
    | some (mj, 0) => match ex_pop (kA mj) st with
      | some (.ref h :: av, r) => if ex_lv mi mj (.ref h :: av) r = true ∧ ex_rc w h (kH mj) = true then some (.inr (.inr (mj, .ref h :: av, r))) else none
      | _ => none
    | _ => none
  | .invokespecial idx => match kM (kO mi) idx with
    | some (mj, 2) => match ex_pop (kA mj) st with
      | some (.ref h :: av, r) => if ex_lv mi mj (.ref h :: av) r = true then some (.inr (.inr (mj, .ref h :: av, r))) else none
      | _ => none
    | some (_, 6) => match st with
      | .ref _ :: r => if (r.map Value.category).sum ≤ 8 ∧ 1 ≤ kV mi ∧ 20 ≤ kW mi then some (.inl (pc + 3, L, r, w)) else none
      | _ => none
    | _ => none
  | .ireturn => match st, kR mi with
    | [.int v], some ty => if narrow ty (.int v) = .int v then some (.inr (.inl (some (.int v)))) else none
    | _, _ => none
  | .lreturn => match st, kR mi with
    | [.long v], some .long => some (.inr (.inl (some (.long v))))
    | _, _ => none
  | .areturn => match st, kR mi with
    | [.ref v], some (.object _) => some (.inr (.inl (some (.ref v))))
    | _, _ => none
  | .return_ => match st, kR mi with
    | [], none => some (.inr (.inl none))
    | _, _ => none
  | _ => none
def ex_act (X : Option (List Int32)) (mi pc : Nat) (L : ex_L) (st : List Value) (w : ex_W) : Option ex_A := match decode (kC mi) pc with
  | .ok (i, len) => if ex_lok i len = true then ex_do X mi pc i L st w else none
  | .error _ => none
def ex_run (X : Option (List Int32)) : Nat → Nat → Nat → ex_L → List Value → ex_W → ex_O
  | 0, _, _, _, _, _ => none
  | n + 1, mi, pc, L, st, w => match ex_act X mi pc L st w with
    | none => none
    | some (.inl (pc1, L1, st1, w1)) => ex_run X n mi pc1 (ex_tr mi pc1 L1) st1 w1
    | some (.inr (.inl r)) => some (r, w)
    | some (.inr (.inr (mj, av, r))) => match ex_run X n mj 0 (lv_args 0 av) [] w with
      | none => none
      | some (rv, w1) => ex_run X n mi (pc + 3) (ex_tr mi (pc + 3) L) (rv.toList ++ r) w1
theorem ex_run_s (X : Option (List Int32)) (n mi pc : Nat) (L : ex_L) (st : List Value) (w : ex_W) : ex_run X (n + 1) mi pc L st w = match ex_act X mi pc L st w with
    | none => none
    | some (.inl (pc1, L1, st1, w1)) => ex_run X n mi pc1 (ex_tr mi pc1 L1) st1 w1
    | some (.inr (.inl r)) => some (r, w)
    | some (.inr (.inr (mj, av, r))) => match ex_run X n mj 0 (lv_args 0 av) [] w with
      | none => none
      | some (rv, w1) => ex_run X n mi (pc + 3) (ex_tr mi (pc + 3) L) (rv.toList ++ r) w1 := rfl
theorem ex_mono1 (X : Option (List Int32)) : ∀ (n mi pc : Nat) (L : ex_L) (st : List Value) (w : ex_W) (q : Option Value × ex_W), ex_run X n mi pc L st w = some q → ex_run X (n + 1) mi pc L st w = some q := by
  intro n
  induction n with
  | zero => intro mi pc L st w q h; cases h
  | succ n ih =>
    intro mi pc L st w q h
    rw [ex_run_s] at h ⊢
    cases ha : ex_act X mi pc L st w with
    | none => rw [ha] at h; cases h
    | some a =>
      rw [ha] at h
      rcases a with ⟨pc1, L1, st1, w1⟩ | r | ⟨mj, av, r⟩
      · exact ih _ _ _ _ _ _ h
      · exact h
      · dsimp only at h ⊢
        cases hc : ex_run X n mj 0 (lv_args 0 av) [] w with
        | none => rw [hc] at h; cases h
        | some x =>
          obtain ⟨rv, w1⟩ := x
          rw [hc] at h
          rw [ih _ _ _ _ _ _ hc]
          exact ih _ _ _ _ _ _ h
theorem ex_mono (X : Option (List Int32)) {n k mi pc : Nat} {L : ex_L} {st : List Value} {w : ex_W} {q : Option Value × ex_W} (hk : n ≤ k) (h : ex_run X n mi pc L st w = some q) : ex_run X k mi pc L st w = some q := by
  induction hk with
  | refl => exact h
  | step _ ih => exact ex_mono1 X _ _ _ _ _ _ _ ih
/-- the answer of a run to its end, if it has one -/
noncomputable def ex_go (X : Option (List Int32)) (mi pc : Nat) (L : ex_L) (st : List Value) (w : ex_W) : ex_O := @dite ex_O (∃ q, ∃ n, ex_run X n mi pc L st w = some q) (Classical.propDecidable _) (fun h => some h.choose) (fun _ => none)
theorem ex_go_iff (X : Option (List Int32)) (mi pc : Nat) (L : ex_L) (st : List Value) (w : ex_W) (q : Option Value × ex_W) : ex_go X mi pc L st w = some q ↔ ∃ n, ex_run X n mi pc L st w = some q := by
  unfold ex_go
  constructor
  · intro h
    split at h
    next hex =>
      cases h
      exact hex.choose_spec
    next => cases h
  · rintro ⟨n, hn⟩
    have hex : ∃ q, ∃ n, ex_run X n mi pc L st w = some q := ⟨q, n, hn⟩
    rw [dif_pos hex]
    obtain ⟨k, hk⟩ := hex.choose_spec
    have h1 := ex_mono X (Nat.le_max_left n k) hn
    have h2 := ex_mono X (Nat.le_max_right n k) hk
    rw [h1] at h2
    exact congrArg some (Option.some.inj h2).symm
theorem ex_go_eq (X : Option (List Int32)) (mi pc : Nat) (L : ex_L) (st : List Value) (w : ex_W) : ex_go X mi pc L st w = match ex_act X mi pc L st w with
    | none => none
    | some (.inl (pc1, L1, st1, w1)) => ex_go X mi pc1 (ex_tr mi pc1 L1) st1 w1
    | some (.inr (.inl r)) => some (r, w)
    | some (.inr (.inr (mj, av, r))) => (ex_go X mj 0 (lv_args 0 av) [] w).bind (fun q => ex_go X mi (pc + 3) (ex_tr mi (pc + 3) L) (q.1.toList ++ r) q.2) := by
  apply Option.ext
  intro q
  rw [ex_go_iff]
  cases ha : ex_act X mi pc L st w with
  | none =>
    constructor
    · rintro ⟨n, h⟩
      cases n with
      | zero => cases h
      | succ n => rw [ex_run_s, ha] at h; cases h
    · intro h; cases h
  | some a =>
    rcases a with ⟨pc1, L1, st1, w1⟩ | r | ⟨mj, av, r⟩
    · dsimp only
      rw [ex_go_iff]
      constructor
      · rintro ⟨n, h⟩
        cases n with
        | zero => cases h
        | succ n => rw [ex_run_s, ha] at h; exact ⟨n, h⟩
      · rintro ⟨n, h⟩
        refine ⟨n + 1, ?_⟩
        rw [ex_run_s, ha]
        exact h
    · dsimp only
      constructor
      · rintro ⟨n, h⟩
        cases n with
        | zero => cases h
        | succ n => rw [ex_run_s, ha] at h; exact h
      · intro h
        refine ⟨1, ?_⟩
        rw [ex_run_s, ha]
        exact h
    · dsimp only
      constructor
      · rintro ⟨n, h⟩
        cases n with
        | zero => cases h
        | succ n =>
          rw [ex_run_s, ha] at h
          dsimp only at h
          cases hc : ex_run X n mj 0 (lv_args 0 av) [] w with
          | none => rw [hc] at h; cases h
          | some x =>
            obtain ⟨rv, w1⟩ := x
            rw [hc] at h
            rw [(ex_go_iff X mj 0 (lv_args 0 av) [] w (rv, w1)).mpr ⟨n, hc⟩]
            show ex_go X mi (pc + 3) (ex_tr mi (pc + 3) L) (rv.toList ++ r) w1 = some q
            exact (ex_go_iff _ _ _ _ _ _ _).mpr ⟨n, h⟩
      · intro h
        cases hc : ex_go X mj 0 (lv_args 0 av) [] w with
        | none => rw [hc] at h; cases h
        | some x =>
          obtain ⟨rv, w1⟩ := x
          rw [hc] at h
          obtain ⟨n1, h1⟩ := (ex_go_iff _ _ _ _ _ _ _).mp hc
          obtain ⟨n2, h2⟩ := (ex_go_iff X mi (pc + 3) (ex_tr mi (pc + 3) L) (rv.toList ++ r) w1 q).mp h
          refine ⟨max n1 n2 + 1, ?_⟩
          rw [ex_run_s, ha]
          dsimp only
          rw [ex_mono X (Nat.le_max_left n1 n2) h1]
          exact ex_mono X (Nat.le_max_right n1 n2) h2
/-- how many fields and elements a world has -/
def ex_sz : ex_C → Nat
  | .inl o => o.2.length
  | .inr a => a.2.length
def ex_sl (w : ex_W) : Nat := (w.map ex_sz).sum
end
section
/-! the pure machine's worlds and frames beside the real ones -/
/-- null or a reference, by a number -/
def ex_fm : Nat → Value
  | 0 => .null
  | t + 1 => .ref t
def ex_v (ad : Nat → Nat) : Value → Value
  | .ref k => .ref (ad k)
  | .int x => .int x
  | .long x => .long x
  | .float x => .float x
  | .double x => .double x
  | .null => .null
  | .retAddr _ => ex_fm (ad 3000)
theorem ex_fm_cat (n : Nat) : (ex_fm n).category = 1 := by cases n <;> rfl
theorem ex_v_cat (ad : Nat → Nat) (v : Value) : (ex_v ad v).category = v.category := by
  cases v with
  | retAddr x => exact ex_fm_cat _
  | _ => rfl
def ex_q (ad : Nat → Nat) (q : Nat × Value) : Nat × Value := (q.1, ex_v ad q.2)
/-- a reference goes to a cell below n, or to one of those that stand outside -/
def ex_ok (n : Nat) : Value → Prop
  | .ref k => k < n ∨ 1000 ≤ k
  | _ => True
def ex_okc (n : Nat) : ex_C → Prop
  | .inl o => ∀ v ∈ o.2, ex_ok n v
  | .inr _ => True
def ex_okw (w : ex_W) : Prop := ∀ c ∈ w, ex_okc w.length c
theorem ex_ok_mono {n k : Nat} (h : n ≤ k) {v : Value} (hv : ex_ok n v) : ex_ok k v := by
  cases v with
  | ref a => rcases hv with h1 | h1
             · exact Or.inl (Nat.lt_of_lt_of_le h1 h)
             · exact Or.inr h1
  | _ => trivial
theorem ex_okc_mono {n k : Nat} (h : n ≤ k) {c : ex_C} (hv : ex_okc n c) : ex_okc k c := by
  cases c with
  | inl o => exact fun v hm => ex_ok_mono h (hv v hm)
  | inr _ => trivial
/-- two numberings that agree below n and outside -/
def ex_ext (n : Nat) (ad ad1 : Nat → Nat) : Prop := ∀ k, k < n ∨ 1000 ≤ k → ad1 k = ad k
theorem ex_v_ext {n : Nat} {ad ad1 : Nat → Nat} (h : ex_ext n ad ad1) {v : Value} (hv : ex_ok n v) : ex_v ad1 v = ex_v ad v := by
  cases v with
  | ref a => exact congrArg Value.ref (h a hv)
  | retAddr x => exact congrArg ex_fm (h 3000 (Or.inr (by decide)))
  | _ => rfl
theorem ex_ext.rf {n : Nat} {ad : Nat → Nat} : ex_ext n ad ad := fun _ _ => rfl
theorem ex_ext.tr {n k : Nat} {a b c : Nat → Nat} (hk : n ≤ k) (h1 : ex_ext n a b) (h2 : ex_ext k b c) : ex_ext n a c := fun q hq => by
  rw [h2 q (by rcases hq with h | h
               · exact Or.inl (Nat.lt_of_lt_of_le h hk)
               · exact Or.inr h), h1 q hq]
theorem ex_map_ext {n : Nat} {ad ad1 : Nat → Nat} (h : ex_ext n ad ad1) : ∀ {st : List Value}, (∀ v ∈ st, ex_ok n v) → st.map (ex_v ad1) = st.map (ex_v ad) := by
  intro st hs
  exact List.map_congr_left fun v hv => ex_v_ext h (hs v hv)
theorem ex_mapq_ext {n : Nat} {ad ad1 : Nat → Nat} (h : ex_ext n ad ad1) {L : ex_L} (hs : ∀ q ∈ L, ex_ok n q.2) : L.map (ex_q ad1) = L.map (ex_q ad) :=
  List.map_congr_left fun q hq => by unfold ex_q; rw [ex_v_ext h (hs q hq)]
def ex_c (cI cZ : ClassId) (ad : Nat → Nat) : ex_C → va_E
  | .inl o => .inr (o.1, o.2.map (ex_v ad))
  | .inr a => .inl (if a.1 = 0 then cI else cZ, a.2.length, .inl (fun j => a.2.getD j 0))
def ex_m (cI cZ : ClassId) (ad : Nat → Nat) (w : ex_W) : va_W := w.mapIdx (fun i c => (ad i, ex_c cI cZ ad c))
theorem ex_m_get {cI cZ : ClassId} {ad : Nat → Nat} {w : ex_W} {h : Nat} {c : ex_C} (hc : w[h]? = some c) : (ex_m cI cZ ad w)[h]? = some (ad h, ex_c cI cZ ad c) := by
  unfold ex_m
  rw [List.getElem?_mapIdx, hc]
  rfl
theorem ex_m_set {cI cZ : ClassId} {ad : Nat → Nat} {w : ex_W} {h : Nat} (c : ex_C) : (ex_m cI cZ ad w).set h (ad h, ex_c cI cZ ad c) = ex_m cI cZ ad (w.set h c) := by
  apply List.ext_getElem?
  intro i
  unfold ex_m
  rw [List.getElem?_mapIdx, List.getElem?_set, List.getElem?_set, List.getElem?_mapIdx, List.length_mapIdx]
  by_cases hi : h = i
  · subst hi
    rw [if_pos rfl, if_pos rfl]
    split <;> rfl
  · rw [if_neg hi, if_neg hi]
theorem ex_c_ext {cI cZ : ClassId} {n : Nat} {ad ad1 : Nat → Nat} (h : ex_ext n ad ad1) {c : ex_C} (hc : ex_okc n c) : ex_c cI cZ ad1 c = ex_c cI cZ ad c := by
  cases c with
  | inl o =>
    obtain ⟨ci, fs⟩ := o
    show Sum.inr (ci, fs.map (ex_v ad1)) = Sum.inr (ci, fs.map (ex_v ad))
    rw [ex_map_ext h hc]
  | inr a => rfl
theorem ex_m_ext {cI cZ : ClassId} {ad ad1 : Nat → Nat} {w : ex_W} (h : ex_ext w.length ad ad1) (hw : ex_okw w) : ex_m cI cZ ad1 w = ex_m cI cZ ad w := by
  apply List.ext_getElem?
  intro i
  unfold ex_m
  rw [List.getElem?_mapIdx, List.getElem?_mapIdx]
  cases hc : w[i]? with
  | none => rfl
  | some c =>
    have hi := (List.getElem?_eq_some_iff.mp hc).1
    show some (ad1 i, ex_c cI cZ ad1 c) = some (ad i, ex_c cI cZ ad c)
    rw [h i (Or.inl hi), ex_c_ext h (hw c (List.mem_of_getElem? hc))]
theorem ex_m_push {cI cZ : ClassId} {ad ad1 : Nat → Nat} {w : ex_W} {c : ex_C} (h : ex_ext w.length ad ad1) (hw : ex_okw w) (hc : ex_c cI cZ ad c = ex_c cI cZ ad1 c) : ex_m cI cZ ad w ++ [(ad1 w.length, ex_c cI cZ ad c)] = ex_m cI cZ ad1 (w ++ [c]) := by
  rw [hc, ← ex_m_ext h hw]
  unfold ex_m
  rw [List.mapIdx_append]
  simp
theorem ex_m_len {cI cZ : ClassId} {ad : Nat → Nat} {w : ex_W} : (ex_m cI cZ ad w).length = w.length := by
  unfold ex_m
  exact List.length_mapIdx
theorem ex_okw_set {w : ex_W} {h : Nat} {c : ex_C} (hw : ex_okw w) (hc : ex_okc w.length c) : ex_okw (w.set h c) := by
  intro x hx
  rw [List.length_set]
  rcases List.mem_or_eq_of_mem_set hx with h1 | h1
  · exact hw x h1
  · rw [h1]; exact hc
theorem ex_okw_push {w : ex_W} {c : ex_C} (hw : ex_okw w) (hc : ex_okc (w.length + 1) c) : ex_okw (w ++ [c]) := by
  intro x hx
  rw [List.length_append]
  rcases List.mem_append.mp hx with h1 | h1
  · exact ex_okc_mono (by simp) (hw x h1)
  · rw [List.mem_singleton.mp h1]
    exact hc
theorem ex_sl_set {w : ex_W} {h : Nat} {c d : ex_C} (hc : w[h]? = some c) (hd : ex_sz d = ex_sz c) : ex_sl (w.set h d) = ex_sl w := by
  unfold ex_sl
  rw [List.map_set, hd]
  have hm : (w.map ex_sz)[h]? = some (ex_sz c) := by rw [List.getElem?_map, hc]; rfl
  have : (w.map ex_sz).set h (ex_sz c) = w.map ex_sz := by
    apply List.ext_getElem?
    intro i
    rw [List.getElem?_set]
    by_cases hi : h = i
    · subst hi
      rw [if_pos rfl, hm, if_pos (List.getElem?_eq_some_iff.mp hm).1]
    · rw [if_neg hi]
  rw [this]
theorem ex_sl_push {w : ex_W} {c : ex_C} : ex_sl (w ++ [c]) = ex_sl w + ex_sz c := by
  unfold ex_sl
  simp
theorem ex_get_mem : ∀ {L : ex_L} {i : Nat} {v : Value}, ex_get L i = some v → (i, v) ∈ L := by
  intro L
  induction L with
  | nil => intro i v h; cases h
  | cons q t ih =>
    intro i v h
    rw [ex_get] at h
    split at h
    next hq =>
      cases h
      subst hq
      exact List.mem_cons_self
    next => exact List.mem_cons_of_mem _ (ih h)
theorem ex_ins_mem : ∀ {L : ex_L} {i : Nat} {v : Value} {q : Nat × Value}, q ∈ ex_ins L i v → q = (i, v) ∨ q ∈ L := by
  intro L
  induction L with
  | nil =>
    intro i v q h
    exact Or.inl (List.mem_singleton.mp h)
  | cons x t ih =>
    intro i v q h
    rw [ex_ins] at h
    split at h
    · rcases List.mem_cons.mp h with h1 | h1
      · exact Or.inl h1
      · exact Or.inr h1
    · rcases List.mem_cons.mp h with h1 | h1
      · exact Or.inr (by rw [h1]; exact List.mem_cons_self)
      · rcases ih h1 with h2 | h2
        · exact Or.inl h2
        · exact Or.inr (List.mem_cons_of_mem _ h2)
theorem ex_set_mem {L : ex_L} {i : Nat} {v : Value} {q : Nat × Value} (h : q ∈ ex_set L i v) : q = (i, v) ∨ (q ∈ L ∧ ex_hit i v q = false) := by
  rcases ex_ins_mem h with h1 | h1
  · exact Or.inl h1
  · have h2 := List.mem_filter.mp h1
    exact Or.inr ⟨h2.1, by simpa using h2.2⟩
theorem lv_less {ls : Array Slot} {nL : Nat} {l l' : List (Nat × Value)} (h : lv_has ls nL l) (hl : ∀ q ∈ l', q ∈ l) : lv_has ls nL l' := ⟨h.1, h.2.1, fun q hq => h.2.2 q (hl q hq)⟩
/-- the variables behind a store of one word -/
theorem ex_st1 {ls : Array Slot} {nL : Nat} {ad : Nat → Nat} {L : ex_L} {i : Nat} {v : Value} (hc : v.category = 1) (h : lv_has ls nL ((i, ex_v ad v) :: (L.map (ex_q ad)).filter (fun q => !(q.1 == i) && !(q.1 + 1 == i && q.2.category == 2)))) : lv_has ls nL ((ex_set L i v).map (ex_q ad)) := by
  refine lv_less h fun q hq => ?_
  obtain ⟨x, hx, rfl⟩ := List.mem_map.mp hq
  rcases ex_set_mem hx with rfl | ⟨h1, h2⟩
  · exact List.mem_cons_self
  · refine List.mem_cons_of_mem _ (List.mem_filter.mpr ⟨List.mem_map.mpr ⟨x, h1, rfl⟩, ?_⟩)
    simp only [ex_hit, hc, Bool.or_eq_false_iff] at h2
    simp only [ex_q, ex_v_cat]
    rw [h2.1.1, h2.1.2]
    rfl
theorem ex_st2 {ls : Array Slot} {nL : Nat} {ad : Nat → Nat} {L : ex_L} {i : Nat} {v : Value} (hc : v.category = 2) (h : lv_has ls nL ((i, ex_v ad v) :: (L.map (ex_q ad)).filter (fun q => !(q.1 == i) && (!(q.1 == i + 1) && !(q.1 + 1 == i && q.2.category == 2))))) : lv_has ls nL ((ex_set L i v).map (ex_q ad)) := by
  refine lv_less h fun q hq => ?_
  obtain ⟨x, hx, rfl⟩ := List.mem_map.mp hq
  rcases ex_set_mem hx with rfl | ⟨h1, h2⟩
  · exact List.mem_cons_self
  · refine List.mem_cons_of_mem _ (List.mem_filter.mpr ⟨List.mem_map.mpr ⟨x, h1, rfl⟩, ?_⟩)
    simp only [ex_hit, hc, Bool.or_eq_false_iff] at h2
    simp only [ex_q, ex_v_cat]
    have h3 : (x.1 == i + 1) = false := by simpa using h2.2
    rw [h2.1.1, h2.1.2, h3]
    rfl
theorem ex_set_ok {n : Nat} {L : ex_L} {i : Nat} {v : Value} (hL : ∀ q ∈ L, ex_ok n q.2) (hv : ex_ok n v) : ∀ q ∈ ex_set L i v, ex_ok n q.2 := by
  intro q hq
  rcases ex_set_mem hq with rfl | ⟨h1, -⟩
  · exact hv
  · exact hL q h1
theorem ex_tr_mem {mi pc : Nat} {L : ex_L} {q : Nat × Value} (h : q ∈ ex_tr mi pc L) : q ∈ L := by
  unfold ex_tr at h
  split at h
  · exact h
  · exact (List.mem_filter.mp h).1
/-- the variables with which a frame begins -/
theorem ex_args_map (ad : Nat → Nat) : ∀ (vs : List Value) (i : Nat), lv_args i (vs.map (ex_v ad)) = (lv_args i vs).map (ex_q ad)
  | [], _ => rfl
  | v :: vs, i => by
    show (i, ex_v ad v) :: lv_args (if (ex_v ad v).category = 2 then i + 2 else i + 1) (vs.map (ex_v ad)) = (i, ex_v ad v) :: (lv_args (if v.category = 2 then i + 2 else i + 1) vs).map (ex_q ad)
    rw [ex_v_cat, ex_args_map ad vs]
theorem ex_args_ok {n : Nat} : ∀ (vs : List Value) (i : Nat), (∀ v ∈ vs, ex_ok n v) → ∀ q ∈ lv_args i vs, ex_ok n q.2
  | [], _, _, q, hq => by cases hq
  | v :: vs, i, h, q, hq => by
    rcases List.mem_cons.mp hq with rfl | h1
    · exact h v List.mem_cons_self
    · exact ex_args_ok vs _ (fun u hu => h u (List.mem_cons_of_mem _ hu)) q h1
end
section
/-! what the tables rest on: each entry by its place among the words -/
def kWS : List Cond := lw_tbl.filter goodWord
def kNW : List Cond := lw_tbl.filter (fun w => match w with | .fieldLinkNest _ _ _ _ _ _ => true | _ => false)
/-- the word stands at this place, and is one that stays -/
def kAt (i : Nat) (w : Cond) : Bool := decide (lw_tbl[i]? = some w) && goodWord w
theorem kAt_s {i : Nat} {w : Cond} (h : kAt i w = true) : w ∈ kWS := by
  obtain ⟨h1, h2⟩ := (Bool.and_eq_true _ _).mp h
  exact List.mem_filter.mpr ⟨List.mem_of_getElem? (of_decide_eq_true h1), h2⟩
theorem kWS_good : GoodIn kWS kWS := fun w hw => ⟨hw, good_of_word (List.mem_filter.mp hw).2⟩
theorem ex_lk_mem {α : Type} : ∀ {l : List (Nat × α)} {i : Nat} {v : α}, ex_lk l i = some v → (i, v) ∈ l := by
  intro l
  induction l with
  | nil => intro i v h; cases h
  | cons q t ih =>
    intro i v h
    rw [ex_lk] at h
    split at h
    next hq =>
      cases h
      subst hq
      exact List.mem_cons_self
    next => exact List.mem_cons_of_mem _ (ih h)
theorem k_all {α : Type} {l : List (List α)} {f : Nat → α → Bool} (h : ((List.range 16).all (fun o => (l.getD o []).all (f o))) = true) (h16 : l.length = 16) {o : Nat} {q : α} (hq : q ∈ l.getD o []) : f o q = true := by
  have ho : o < 16 := by
    rcases Nat.lt_or_ge o 16 with z | z
    · exact z
    · rw [List.getD_eq_getElem?_getD, List.getElem?_eq_none (by omega)] at hq
      cases hq
  exact List.all_eq_true.mp (List.all_eq_true.mp h o (List.mem_range.mpr ho)) q hq
def kFok (o : Nat) (q : Nat × Nat × Nat × Bool × Nat) : Bool := match kCl[q.2.1]? with
  | some r => decide (q.2.2.1 < r.2.2) && (match q.2.2.2.1 with
    | false => kAt q.2.2.2.2 (.fieldLink (kOn o) q.1 (r.2.1 q.2.2.1).1 (r.2.1 q.2.2.1).2.1 (r.2.1 q.2.2.1).2.2.1)
    | true => decide (lw_tbl[q.2.2.2.2]? = some (.fieldLinkNest (kOn o) q.1 (r.2.1 q.2.2.1).1 (r.2.1 q.2.2.1).2.1 (r.2.1 q.2.2.1).2.2.1 "ExactLoom")))
  | none => false
set_option maxRecDepth 100000 in
theorem kFall : ((List.range 16).all (fun o => (kFl.getD o []).all (kFok o))) = true := by decide +kernel
theorem kt_F {o idx ci k : Nat} {nest : Bool} (h : kF o idx = some (ci, k, nest)) : ∃ C T N, kCl[ci]? = some (C, T, N) ∧ k < N ∧ (nest = false → Cond.fieldLink (kOn o) idx (T k).1 (T k).2.1 (T k).2.2.1 ∈ kWS) ∧ (nest = true → ∃ host, Cond.fieldLinkNest (kOn o) idx (T k).1 (T k).2.1 (T k).2.2.1 host ∈ kNW) := by
  unfold kF at h
  cases hq : ex_lk (kFl.getD o []) idx with
  | none => rw [hq] at h; cases h
  | some q =>
    rw [hq] at h
    obtain ⟨c2, k2, n2, p2⟩ := q
    cases h
    have h1 := k_all kFall rfl (ex_lk_mem hq)
    unfold kFok at h1
    dsimp only at h1
    split at h1
    next r hr =>
      obtain ⟨C, T, N⟩ := r
      obtain ⟨h2, h3⟩ := (Bool.and_eq_true _ _).mp h1
      refine ⟨C, T, N, hr, of_decide_eq_true h2, ?_, ?_⟩
      · intro hn
        subst hn
        exact kAt_s h3
      · intro hn
        subst hn
        exact ⟨"ExactLoom", List.mem_filter.mpr ⟨List.mem_of_getElem? (of_decide_eq_true h3), rfl⟩⟩
    next => cases h1
def kIlok (o : Nat) (q : Nat × Int32 × Nat) : Bool := kAt q.2.2 (Cond.constant (kOn o) q.1 q.2.1)
set_option maxRecDepth 100000 in
theorem kIl_all : ((List.range 16).all (fun o => (kIl.getD o []).all (kIlok o))) = true := by decide +kernel
theorem kt_I {o idx : Nat} {v : Int32} (h : kI o idx = some v) : Cond.constant (kOn o) idx v ∈ kWS := by
  unfold kI at h
  cases hq : ex_lk (kIl.getD o []) idx with
  | none => rw [hq] at h; cases h
  | some q =>
    rw [hq] at h
    obtain ⟨v2, p2⟩ := q
    cases h
    exact kAt_s (k_all (f := kIlok) kIl_all rfl (ex_lk_mem hq))
def kJlok (o : Nat) (q : Nat × Int64 × Nat) : Bool := kAt q.2.2 (Cond.constantLong (kOn o) q.1 q.2.1)
set_option maxRecDepth 100000 in
theorem kJl_all : ((List.range 16).all (fun o => (kJl.getD o []).all (kJlok o))) = true := by decide +kernel
theorem kt_J {o idx : Nat} {v : Int64} (h : kJ o idx = some v) : Cond.constantLong (kOn o) idx v ∈ kWS := by
  unfold kJ at h
  cases hq : ex_lk (kJl.getD o []) idx with
  | none => rw [hq] at h; cases h
  | some q =>
    rw [hq] at h
    obtain ⟨v2, p2⟩ := q
    cases h
    exact kAt_s (k_all (f := kJlok) kJl_all rfl (ex_lk_mem hq))
def kSlok (o : Nat) (q : Nat × Nat × Nat) : Bool := decide (q.2.1 < nS) && (match kSR[q.2.1]? with | some r => decide (r.1 = kOn o ∧ r.2.1 = q.1 ∧ r.2.2.2 = q.2.1) | none => false)
set_option maxRecDepth 100000 in
theorem kSl_all : ((List.range 16).all (fun o => (kSl.getD o []).all (kSlok o))) = true := by decide +kernel
theorem kt_S {o idx j : Nat} (h : kS o idx = some j) : j < nS ∧ ∃ tx, (kOn o, idx, tx, j) ∈ kSR := by
  unfold kS at h
  cases hq : ex_lk (kSl.getD o []) idx with
  | none => rw [hq] at h; cases h
  | some q =>
    rw [hq] at h
    obtain ⟨v2, p2⟩ := q
    cases h
    have h1 := k_all (f := kSlok) kSl_all rfl (ex_lk_mem hq)
    unfold kSlok at h1
    obtain ⟨h2, h3⟩ := (Bool.and_eq_true _ _).mp h1
    refine ⟨of_decide_eq_true h2, ?_⟩
    dsimp only at h3
    split at h3
    next r hr =>
      obtain ⟨a1, a2, a3, a4⟩ := r
      obtain ⟨e1, e2, e3⟩ := of_decide_eq_true h3
      dsimp only at e1 e2 e3
      subst e1; subst e2; subst e3
      exact ⟨a3, List.mem_of_getElem? hr⟩
    next => cases h3
def kZlok (o : Nat) (q : Nat × Nat × Nat) : Bool := if q.2.1 = 0 then kAt q.2.2 (.fieldLink (kOn o) q.1 "java/lang/String" "COMPACT_STRINGS" "Z") else kAt q.2.2 (.fieldLink (kOn o) q.1 "jdk/internal/util/Preconditions" "SIOOBE_FORMATTER" "Ljava/util/function/BiFunction;")
set_option maxRecDepth 100000 in
theorem kZl_all : ((List.range 16).all (fun o => (kZl.getD o []).all (kZlok o))) = true := by decide +kernel
theorem kt_Z {o idx z : Nat} (h : kZ o idx = some z) : (z = 0 → Cond.fieldLink (kOn o) idx "java/lang/String" "COMPACT_STRINGS" "Z" ∈ kWS) ∧ (¬ z = 0 → Cond.fieldLink (kOn o) idx "jdk/internal/util/Preconditions" "SIOOBE_FORMATTER" "Ljava/util/function/BiFunction;" ∈ kWS) := by
  unfold kZ at h
  cases hq : ex_lk (kZl.getD o []) idx with
  | none => rw [hq] at h; cases h
  | some q =>
    rw [hq] at h
    obtain ⟨v2, p2⟩ := q
    cases h
    have h1 := k_all (f := kZlok) kZl_all rfl (ex_lk_mem hq)
    unfold kZlok at h1
    dsimp only at h1
    refine ⟨fun hz => ?_, fun hz => ?_⟩
    · rw [if_pos hz] at h1
      exact kAt_s h1
    · rw [if_neg hz] at h1
      exact kAt_s h1
def kGlok (o : Nat) (q : Nat × Bool × Nat) : Bool := match q.2.1 with | true => kAt q.2.2 (.fieldLink (kOn o) q.1 "java/lang/String" "value" "[B") | false => kAt q.2.2 (.fieldLink (kOn o) q.1 "java/lang/String" "coder" "B")
set_option maxRecDepth 100000 in
theorem kGl_all : ((List.range 16).all (fun o => (kGl.getD o []).all (kGlok o))) = true := by decide +kernel
theorem kt_G {o idx : Nat} {z : Bool} (h : kG o idx = some z) : (z = true → Cond.fieldLink (kOn o) idx "java/lang/String" "value" "[B" ∈ kWS) ∧ (z = false → Cond.fieldLink (kOn o) idx "java/lang/String" "coder" "B" ∈ kWS) := by
  unfold kG at h
  cases hq : ex_lk (kGl.getD o []) idx with
  | none => rw [hq] at h; cases h
  | some q =>
    rw [hq] at h
    obtain ⟨v2, p2⟩ := q
    cases h
    have h1 := k_all (f := kGlok) kGl_all rfl (ex_lk_mem hq)
    unfold kGlok at h1
    refine ⟨fun hz => ?_, fun hz => ?_⟩
    · subst hz; exact kAt_s h1
    · subst hz; exact kAt_s h1
def kIni : List Nat := [85, 86, 92, 89, 87, 91, 90, 88, 99]
def kIns : List Nat := [101, 109, 262, 173, 129, 238, 230, 137, 812]
def kNlok (o : Nat) (q : Nat × Nat × Nat) : Bool := match kCl[q.2.1]? with | some r => kAt q.2.2 (.classLink (kOn o) q.1 r.1) && (kAt (kIns.getD q.2.1 0) (.instantiable r.1 r.2.2) && kAt (kIni.getD q.2.1 0) (.initialized r.1)) | none => false
set_option maxRecDepth 100000 in
theorem kNl_all : ((List.range 16).all (fun o => (kNl.getD o []).all (kNlok o))) = true := by decide +kernel
theorem kt_N {o idx ci : Nat} (h : kN o idx = some ci) : ∃ C T N, kCl[ci]? = some (C, T, N) ∧ Cond.classLink (kOn o) idx C ∈ kWS ∧ Cond.instantiable C N ∈ kWS ∧ Cond.initialized C ∈ kWS := by
  unfold kN at h
  cases hq : ex_lk (kNl.getD o []) idx with
  | none => rw [hq] at h; cases h
  | some q =>
    rw [hq] at h
    obtain ⟨v2, p2⟩ := q
    cases h
    have h1 := k_all (f := kNlok) kNl_all rfl (ex_lk_mem hq)
    unfold kNlok at h1
    dsimp only at h1
    split at h1
    next r hr =>
      obtain ⟨C, T, N⟩ := r
      obtain ⟨h2, h3⟩ := (Bool.and_eq_true _ _).mp h1
      obtain ⟨h4, h5⟩ := (Bool.and_eq_true _ _).mp h3
      exact ⟨C, T, N, hr, kAt_s h2, kAt_s h4, kAt_s h5⟩
    next => cases h1
def kLay : List (List Nat) := [[520, 522, 524, 526, 528, 530], [122, 124], [274, 276, 278], [184, 186, 188, 190, 192, 194], [208, 210, 212, 214, 216, 218, 220, 222, 224, 226], [245, 247], [254, 256, 258], [153, 155, 157, 159, 161, 163, 165, 167, 169], [933, 935, 937, 939, 941, 943, 945, 947, 949, 951, 953, 955, 957, 959, 961, 963, 965, 967, 969, 971, 973, 975, 977, 979, 981, 983, 985, 987, 989]]
def kCok (ci : Nat) (r : vw_C) : Bool := (List.range r.2.2).all (fun k => kAt ((kLay.getD ci []).getD k 0) (u_lay r.1 r.2.1 k) && (decide (parseFieldDescriptor (r.2.1 k).2.2.1 = some (kT ci k)) && (decide ((r.2.1 k).2.2.2 = kQ ci k ∧ (r.2.1 k).1 = kOn (kD ci)) && (decide (defaultValue (kT ci k) = vp_V (kB ci) k) && (List.range r.2.2).all (fun j => decide (k = j ∨ (r.2.1 k).2.1 ≠ (r.2.1 j).2.1)))))) && (decide ((kB ci).length = r.2.2) && (kB ci).all (fun v => match v with | .ref _ => false | .retAddr _ => false | _ => true))
set_option maxRecDepth 100000 in
theorem kCl_all : (List.range 9).all (fun ci => match kCl[ci]? with | some r => kCok ci r | none => false) = true := by decide +kernel
theorem kt_C {ci : Nat} {C : String} {T : u_T} {N : Nat} (h : kCl[ci]? = some (C, T, N)) : (∀ w ∈ u_ws C T N, w ∈ kWS) ∧ (∀ k, k < N → parseFieldDescriptor (T k).2.2.1 = some (kT ci k)) ∧ (∀ a, a < N → ∀ b, b < N → a ≠ b → (T a).2.1 ≠ (T b).2.1) ∧ (∀ k, k < N → (T k).2.2.2 = kQ ci k ∧ (T k).1 = kOn (kD ci)) ∧ (kB ci).length = N ∧ (∀ j, j < N → defaultValue (kT ci j) = vp_V (kB ci) j) ∧ (∀ v ∈ kB ci, ex_ok 0 v ∧ ∀ ad, ex_v ad v = v) := by
  have hci : ci < 9 := (List.getElem?_eq_some_iff.mp h).1
  have h1 := List.all_eq_true.mp kCl_all ci (List.mem_range.mpr hci)
  rw [h] at h1
  unfold kCok at h1
  dsimp only at h1
  obtain ⟨h2, h3⟩ := (Bool.and_eq_true _ _).mp h1
  obtain ⟨h4, h5⟩ := (Bool.and_eq_true _ _).mp h3
  have key : ∀ k, k < N → kAt ((kLay.getD ci []).getD k 0) (u_lay C T k) = true ∧ parseFieldDescriptor (T k).2.2.1 = some (kT ci k) ∧ ((T k).2.2.2 = kQ ci k ∧ (T k).1 = kOn (kD ci)) ∧ defaultValue (kT ci k) = vp_V (kB ci) k ∧ ∀ j, j < N → (k = j ∨ (T k).2.1 ≠ (T j).2.1) := by
    intro k hk
    have a1 := List.all_eq_true.mp h2 k (List.mem_range.mpr hk)
    obtain ⟨b1, a2⟩ := (Bool.and_eq_true _ _).mp a1
    obtain ⟨b2, a3⟩ := (Bool.and_eq_true _ _).mp a2
    obtain ⟨b3, a4⟩ := (Bool.and_eq_true _ _).mp a3
    obtain ⟨b4, a5⟩ := (Bool.and_eq_true _ _).mp a4
    exact ⟨b1, of_decide_eq_true b2, of_decide_eq_true b3, of_decide_eq_true b4, fun j hj => of_decide_eq_true (List.all_eq_true.mp a5 j (List.mem_range.mpr hj))⟩
  refine ⟨fun w hw => ?_, fun k hk => (key k hk).2.1, fun a ha b hb hne => ((key a ha).2.2.2.2 b hb).resolve_left hne, fun k hk => (key k hk).2.2.1, of_decide_eq_true h4, fun j hj => (key j hj).2.2.2.1, fun v hv => ?_⟩
  · obtain ⟨k, hk, rfl⟩ := List.mem_map.mp hw
    exact kAt_s (key k (List.mem_range.mp hk)).1
  · have a1 := List.all_eq_true.mp h5 v hv
    cases v with
    | ref k => cases a1
    | retAddr k => cases a1
    | _ => exact ⟨trivial, fun _ => rfl⟩
theorem kt_A0 : Cond.arrayClass (newarray.typeOf .int) ∈ kWS := kAt_s (i := 127) (by decide +kernel)
theorem kt_A1 : Cond.arrayClass (newarray.typeOf .boolean) ∈ kWS := kAt_s (i := 992) (by decide +kernel)
end
section
/-! one step of the pure machine is one step of the real one -/
def ex_sp (n0 : Nat) (sa ad : Nat → Nat) : Prop := ∀ k, k < n0 ∨ 1000 ≤ k → ad k = sa k
/-- what stands outside the world: the tables' words, the texts, two statics, the script -/
def ex_K (D : va_G) (cI cZ : ClassId) (sa : Nat → Nat) (X : Option (List Int32)) (A : Nat → Prop) (U : State) : Prop :=
  va_K D kCl [(cI, .int), (cZ, .boolean)] U ∧ (∀ w ∈ kNW, va_Nw w U) ∧
  (∀ j, j < nS → va_O "java/lang/String" (sa (1001 + j)) A U U.heap ∧ va_OF "java/lang/String" "coder" "B" (.int 0) (sa (1001 + j)) A U U.heap ∧ va_OF "java/lang/String" "value" "[B" (.ref (sa (2001 + j))) (sa (1001 + j)) A U U.heap ∧ va_T .byte (sa (2001 + j)) (kX j).length (fun i => .int ((kX j).getD i 0)) A U U.heap) ∧
  (∀ q ∈ kSR, vk_R q.1 q.2.1 q.2.2.1 (sa (1001 + q.2.2.2)) U) ∧
  va_Z "java/lang/String" "COMPACT_STRINGS" "Z" (.int 1) A U U.heap ∧ va_Z "jdk/internal/util/Preconditions" "SIOOBE_FORMATTER" "Ljava/util/function/BiFunction;" (ex_fm (sa 3000)) A U U.heap ∧
  ∀ xs, X = some xs → va_X (sa 1000) xs.length (fun j => xs.getD j 0) U U.heap ∧ sa 1000 < U.heap.size ∧ ¬ A (sa 1000)
def ex_F (mi : Nat) (p : Program) (s : State) (m : MethodId) (meth : Method) (c : Code) (args : Array Value) : Prop :=
  p.tables.exec = Jvm.exec ∧ c.code = kC mi ∧ c.maxLocals = kL mi ∧ meth.sig.returnType = kR mi ∧ meth.locks = false ∧ s.vm.findClass (kOn (kO mi)) = some m.cls ∧ (∀ w ∈ kWS, w.before args s = true) ∧ (kN0 mi = true → meth.name = "<init>")
def ex_M (D : va_G) (cI cZ : ClassId) (sa : Nat → Nat) (A : Nat → Prop) (mi mc ms n0 : Nat) (w9 : ex_W) (H0 : Heap) (ad : Nat → Nat) (H : Heap) (locs : List Loc) (cells slots : Nat) (ls : Array Slot) (L : ex_L) (st : List Value) (w : ex_W) : Prop :=
  lv_has ls (kL mi) (L.map (ex_q ad)) ∧ (∀ q ∈ L, ex_ok w.length q.2) ∧ (∀ v ∈ st, ex_ok w.length v) ∧ ex_okw w ∧ va_P D kCl (ex_m cI cZ ad w) H ∧ va_D A (ex_m cI cZ ad w) ∧ va_S A H0 H locs ∧ cells + w9.length ≤ mc + w.length ∧ slots + ex_sl w9 ≤ ms + ex_sl w ∧ ex_sp n0 sa ad ∧ n0 ≤ w.length
def ex_G (p : Program) (l : Launch) (e : Env) (R : Room) (s : State) (m : MethodId) (args : Array Value) (below : List Frame) (meth : Method) (c : Code) (Q : State → Prop) (D : va_G) (cI cZ : ClassId) (sa : Nat → Nat) (A : Nat → Prop) (mi mc ms n0 : Nat) (w9 : ex_W) (pc : Nat) (L : ex_L) (st : List Value) (w : ex_W) : Prop :=
  ∀ (ad : Nat → Nat) (H : Heap) (locs : List Loc) (cells slots : Nat) (ls : Array Slot), ex_M D cI cZ sa A mi mc ms n0 w9 s.heap ad H locs cells slots ls L st w → W p l e R s m args below meth c H locs cells slots Q (F0 m pc ls (st.map (ex_v ad)))
section EXS
variable {p : Program} {l : Launch} {e : Env} {R : Room} {s : State} {m : MethodId} {args : Array Value} {below : List Frame} {meth : Method} {c : Code} {Q : State → Prop} {D : va_G} {cI cZ : ClassId} {sa : Nat → Nat} {A : Nat → Prop} {mi mc ms n0 : Nat} {w9 : ex_W} {pc : Nat} {L : ex_L} {st : List Value} {w : ex_W}
theorem ex_ldA_s {pc1 : Nat} {L1 : ex_L} {st1 : List Value} {w1 : ex_W} {pcn i : Nat} (ha : ex_ldA pcn L st w i = some (.inl (pc1, L1, st1, w1))) (G1 : ex_G p l e R s m args below meth c Q D cI cZ sa A mi mc ms n0 w9 pc1 L1 st1 w1)
    (row : ∀ (x : Nat) (H : Heap) (locs : List Loc) (cells slots : Nat) (ls : Array Slot) (rest : List Value), ls[i]? = some (.val (.ref x)) → W p l e R s m args below meth c H locs cells slots Q (F0 m pcn ls (.ref x :: rest)) → W p l e R s m args below meth c H locs cells slots Q (F0 m pc ls rest)) : ex_G p l e R s m args below meth c Q D cI cZ sa A mi mc ms n0 w9 pc L st w := by
  intro ad H locs cells slots ls M
  unfold ex_ldA at ha
  split at ha
  next x hx =>
    cases ha
    obtain ⟨hl, k1, k2, kw, hP, hD, hS, c1, c2, sp, hn0⟩ := M
    have hm := ex_get_mem hx
    refine row (ad x) H locs cells slots ls _ (hl.2.2 (i, .ref (ad x)) (List.mem_map.mpr ⟨_, hm, rfl⟩)) ?_
    exact G1 ad H locs cells slots ls ⟨hl, k1, List.forall_mem_cons.mpr ⟨k1 _ hm, k2⟩, kw, hP, hD, hS, c1, c2, sp, hn0⟩
  next => cases ha
theorem ex_ldI_s {pc1 : Nat} {L1 : ex_L} {st1 : List Value} {w1 : ex_W} {pcn i : Nat} (ha : ex_ldI pcn L st w i = some (.inl (pc1, L1, st1, w1))) (G1 : ex_G p l e R s m args below meth c Q D cI cZ sa A mi mc ms n0 w9 pc1 L1 st1 w1)
    (row : ∀ (x : Int32) (H : Heap) (locs : List Loc) (cells slots : Nat) (ls : Array Slot) (rest : List Value), ls[i]? = some (.val (.int x)) → W p l e R s m args below meth c H locs cells slots Q (F0 m pcn ls (.int x :: rest)) → W p l e R s m args below meth c H locs cells slots Q (F0 m pc ls rest)) : ex_G p l e R s m args below meth c Q D cI cZ sa A mi mc ms n0 w9 pc L st w := by
  intro ad H locs cells slots ls M
  unfold ex_ldI at ha
  split at ha
  next x hx =>
    cases ha
    obtain ⟨hl, k1, k2, kw, hP, hD, hS, c1, c2, sp, hn0⟩ := M
    have hm := ex_get_mem hx
    refine row x H locs cells slots ls _ (hl.2.2 (i, .int x) (List.mem_map.mpr ⟨_, hm, rfl⟩)) ?_
    exact G1 ad H locs cells slots ls ⟨hl, k1, List.forall_mem_cons.mpr ⟨k1 _ hm, k2⟩, kw, hP, hD, hS, c1, c2, sp, hn0⟩
  next => cases ha
theorem ex_ldJ_s {pc1 : Nat} {L1 : ex_L} {st1 : List Value} {w1 : ex_W} {pcn i : Nat} (ha : ex_ldJ pcn L st w i = some (.inl (pc1, L1, st1, w1))) (G1 : ex_G p l e R s m args below meth c Q D cI cZ sa A mi mc ms n0 w9 pc1 L1 st1 w1)
    (row : ∀ (x : Int64) (H : Heap) (locs : List Loc) (cells slots : Nat) (ls : Array Slot) (rest : List Value), ls[i]? = some (.val (.long x)) → W p l e R s m args below meth c H locs cells slots Q (F0 m pcn ls (.long x :: rest)) → W p l e R s m args below meth c H locs cells slots Q (F0 m pc ls rest)) : ex_G p l e R s m args below meth c Q D cI cZ sa A mi mc ms n0 w9 pc L st w := by
  intro ad H locs cells slots ls M
  unfold ex_ldJ at ha
  split at ha
  next x hx =>
    cases ha
    obtain ⟨hl, k1, k2, kw, hP, hD, hS, c1, c2, sp, hn0⟩ := M
    have hm := ex_get_mem hx
    refine row x H locs cells slots ls _ (hl.2.2 (i, .long x) (List.mem_map.mpr ⟨_, hm, rfl⟩)) ?_
    exact G1 ad H locs cells slots ls ⟨hl, k1, List.forall_mem_cons.mpr ⟨k1 _ hm, k2⟩, kw, hP, hD, hS, c1, c2, sp, hn0⟩
  next => cases ha
theorem ex_stA_s {pc1 : Nat} {L1 : ex_L} {st1 : List Value} {w1 : ex_W} {pcn i : Nat} (ha : ex_stA mi pcn L st w i = some (.inl (pc1, L1, st1, w1))) (G1 : ex_G p l e R s m args below meth c Q D cI cZ sa A mi mc ms n0 w9 pc1 L1 st1 w1)
    (row : ∀ (x : Nat) (lv : List (Nat × Value)) (H : Heap) (locs : List Loc) (cells slots : Nat) (ls : Array Slot) (rest : List Value), lv_has ls (kL mi) lv → i < kL mi → (∀ ls1 : Array Slot, lv_has ls1 (kL mi) ((i, Value.ref x) :: lv.filter (fun q => !(q.1 == i) && !(q.1 + 1 == i && q.2.category == 2))) → W p l e R s m args below meth c H locs cells slots Q (F0 m pcn ls1 rest)) → W p l e R s m args below meth c H locs cells slots Q (F0 m pc ls (.ref x :: rest))) : ex_G p l e R s m args below meth c Q D cI cZ sa A mi mc ms n0 w9 pc L st w := by
  intro ad H locs cells slots ls M
  unfold ex_stA at ha
  split at ha
  next x r =>
    split at ha
    next hi =>
      cases ha
      obtain ⟨hl, k1, k2, kw, hP, hD, hS, c1, c2, sp, hn0⟩ := M
      have k3 := List.forall_mem_cons.mp k2
      refine row (ad x) _ H locs cells slots ls _ hl hi fun ls1 h1 => ?_
      exact G1 ad H locs cells slots ls1 ⟨ex_st1 (v := .ref x) rfl h1, ex_set_ok k1 k3.1, k3.2, kw, hP, hD, hS, c1, c2, sp, hn0⟩
    next => cases ha
  next => cases ha
theorem ex_stI_s {pc1 : Nat} {L1 : ex_L} {st1 : List Value} {w1 : ex_W} {pcn i : Nat} (ha : ex_stI mi pcn L st w i = some (.inl (pc1, L1, st1, w1))) (G1 : ex_G p l e R s m args below meth c Q D cI cZ sa A mi mc ms n0 w9 pc1 L1 st1 w1)
    (row : ∀ (x : Int32) (lv : List (Nat × Value)) (H : Heap) (locs : List Loc) (cells slots : Nat) (ls : Array Slot) (rest : List Value), lv_has ls (kL mi) lv → i < kL mi → (∀ ls1 : Array Slot, lv_has ls1 (kL mi) ((i, Value.int x) :: lv.filter (fun q => !(q.1 == i) && !(q.1 + 1 == i && q.2.category == 2))) → W p l e R s m args below meth c H locs cells slots Q (F0 m pcn ls1 rest)) → W p l e R s m args below meth c H locs cells slots Q (F0 m pc ls (.int x :: rest))) : ex_G p l e R s m args below meth c Q D cI cZ sa A mi mc ms n0 w9 pc L st w := by
  intro ad H locs cells slots ls M
  unfold ex_stI at ha
  split at ha
  next x r =>
    split at ha
    next hi =>
      cases ha
      obtain ⟨hl, k1, k2, kw, hP, hD, hS, c1, c2, sp, hn0⟩ := M
      have k3 := List.forall_mem_cons.mp k2
      refine row x _ H locs cells slots ls _ hl hi fun ls1 h1 => ?_
      exact G1 ad H locs cells slots ls1 ⟨ex_st1 (v := .int x) rfl h1, ex_set_ok k1 k3.1, k3.2, kw, hP, hD, hS, c1, c2, sp, hn0⟩
    next => cases ha
  next => cases ha
theorem ex_stJ_s {pc1 : Nat} {L1 : ex_L} {st1 : List Value} {w1 : ex_W} {pcn i : Nat} (ha : ex_stJ mi pcn L st w i = some (.inl (pc1, L1, st1, w1))) (G1 : ex_G p l e R s m args below meth c Q D cI cZ sa A mi mc ms n0 w9 pc1 L1 st1 w1)
    (row : ∀ (x : Int64) (lv : List (Nat × Value)) (H : Heap) (locs : List Loc) (cells slots : Nat) (ls : Array Slot) (rest : List Value), lv_has ls (kL mi) lv → i + 1 < kL mi → (∀ ls1 : Array Slot, lv_has ls1 (kL mi) ((i, Value.long x) :: lv.filter (fun q => !(q.1 == i) && (!(q.1 == i + 1) && !(q.1 + 1 == i && q.2.category == 2)))) → W p l e R s m args below meth c H locs cells slots Q (F0 m pcn ls1 rest)) → W p l e R s m args below meth c H locs cells slots Q (F0 m pc ls (.long x :: rest))) : ex_G p l e R s m args below meth c Q D cI cZ sa A mi mc ms n0 w9 pc L st w := by
  intro ad H locs cells slots ls M
  unfold ex_stJ at ha
  split at ha
  next x r =>
    split at ha
    next hi =>
      cases ha
      obtain ⟨hl, k1, k2, kw, hP, hD, hS, c1, c2, sp, hn0⟩ := M
      have k3 := List.forall_mem_cons.mp k2
      refine row x _ H locs cells slots ls _ hl hi fun ls1 h1 => ?_
      exact G1 ad H locs cells slots ls1 ⟨ex_st2 (v := .long x) rfl h1, ex_set_ok k1 k3.1, k3.2, kw, hP, hD, hS, c1, c2, sp, hn0⟩
    next => cases ha
  next => cases ha
/-- steps that change the stack alone -/
theorem ex_top_s {st1 : List Value} {pcn : Nat} (G1 : ex_G p l e R s m args below meth c Q D cI cZ sa A mi mc ms n0 w9 pcn L st1 w) (hok : ∀ n, (∀ v ∈ st, ex_ok n v) → ∀ v ∈ st1, ex_ok n v)
    (row : ∀ (ad : Nat → Nat) (H : Heap) (locs : List Loc) (cells slots : Nat) (ls : Array Slot), W p l e R s m args below meth c H locs cells slots Q (F0 m pcn ls (st1.map (ex_v ad))) → W p l e R s m args below meth c H locs cells slots Q (F0 m pc ls (st.map (ex_v ad)))) : ex_G p l e R s m args below meth c Q D cI cZ sa A mi mc ms n0 w9 pc L st w := by
  intro ad H locs cells slots ls M
  obtain ⟨hl, k1, k2, kw, hP, hD, hS, c1, c2, sp, hn0⟩ := M
  exact row ad H locs cells slots ls (G1 ad H locs cells slots ls ⟨hl, k1, hok _ k2, kw, hP, hD, hS, c1, c2, sp, hn0⟩)
end EXS
end
section
/-! each instruction: the pure machine's step is the real machine's -/
section EXT
variable {p : Program} {l : Launch} {e : Env} {R : Room} {s : State} {m : MethodId} {args : Array Value} {below : List Frame} {meth : Method} {c : Code} {Q : State → Prop} {D : va_G} {cI cZ : ClassId} {sa : Nat → Nat} {A : Nat → Prop} {mi mc ms n0 : Nat} {w9 : ex_W} {pc : Nat} {L : ex_L} {st : List Value} {w : ex_W} {X : Option (List Int32)} {pc1 : Nat} {L1 : ex_L} {st1 : List Value} {w1 : ex_W}
theorem ex_i_aload_n {k : Fin 4} (F : ex_F mi p s m meth c args) (hd : decode (kC mi) pc = .ok (.aload_n k, 1)) (ha : ex_do X mi pc (.aload_n k) L st w = some (.inl (pc1, L1, st1, w1))) (G1 : ex_G p l e R s m args below meth c Q D cI cZ sa A mi mc ms n0 w9 pc1 L1 st1 w1) : ex_G p l e R s m args below meth c Q D cI cZ sa A mi mc ms n0 w9 pc L st w := by
  obtain ⟨hx, hb, hml, hr, hlk, hown, hts, hin⟩ := F
  exact ex_ldA_s ha G1 fun x H locs cells slots ls rest h1 h2 => lv_aload_n hx hb hd rfl h1 h2
theorem ex_i_aload {k : Nat} (F : ex_F mi p s m meth c args) (hd : decode (kC mi) pc = .ok (.aload k, 2)) (ha : ex_do X mi pc (.aload k) L st w = some (.inl (pc1, L1, st1, w1))) (G1 : ex_G p l e R s m args below meth c Q D cI cZ sa A mi mc ms n0 w9 pc1 L1 st1 w1) : ex_G p l e R s m args below meth c Q D cI cZ sa A mi mc ms n0 w9 pc L st w := by
  obtain ⟨hx, hb, hml, hr, hlk, hown, hts, hin⟩ := F
  exact ex_ldA_s ha G1 fun x H locs cells slots ls rest h1 h2 => lv_aload hx hb hd h1 h2
theorem ex_i_iload_n {k : Fin 4} (F : ex_F mi p s m meth c args) (hd : decode (kC mi) pc = .ok (.iload_n k, 1)) (ha : ex_do X mi pc (.iload_n k) L st w = some (.inl (pc1, L1, st1, w1))) (G1 : ex_G p l e R s m args below meth c Q D cI cZ sa A mi mc ms n0 w9 pc1 L1 st1 w1) : ex_G p l e R s m args below meth c Q D cI cZ sa A mi mc ms n0 w9 pc L st w := by
  obtain ⟨hx, hb, hml, hr, hlk, hown, hts, hin⟩ := F
  exact ex_ldI_s ha G1 fun x H locs cells slots ls rest h1 h2 => lv_iload_n hx hb hd rfl h1 h2
theorem ex_i_iload {k : Nat} (F : ex_F mi p s m meth c args) (hd : decode (kC mi) pc = .ok (.iload k, 2)) (ha : ex_do X mi pc (.iload k) L st w = some (.inl (pc1, L1, st1, w1))) (G1 : ex_G p l e R s m args below meth c Q D cI cZ sa A mi mc ms n0 w9 pc1 L1 st1 w1) : ex_G p l e R s m args below meth c Q D cI cZ sa A mi mc ms n0 w9 pc L st w := by
  obtain ⟨hx, hb, hml, hr, hlk, hown, hts, hin⟩ := F
  exact ex_ldI_s ha G1 fun x H locs cells slots ls rest h1 h2 => lv_iload hx hb hd h1 h2
theorem ex_i_lload_n {k : Fin 4} (F : ex_F mi p s m meth c args) (hd : decode (kC mi) pc = .ok (.lload_n k, 1)) (ha : ex_do X mi pc (.lload_n k) L st w = some (.inl (pc1, L1, st1, w1))) (G1 : ex_G p l e R s m args below meth c Q D cI cZ sa A mi mc ms n0 w9 pc1 L1 st1 w1) : ex_G p l e R s m args below meth c Q D cI cZ sa A mi mc ms n0 w9 pc L st w := by
  obtain ⟨hx, hb, hml, hr, hlk, hown, hts, hin⟩ := F
  exact ex_ldJ_s ha G1 fun x H locs cells slots ls rest h1 h2 => lv_lload_n hx hb hd rfl h1 h2
theorem ex_i_lload {k : Nat} (F : ex_F mi p s m meth c args) (hd : decode (kC mi) pc = .ok (.lload k, 2)) (ha : ex_do X mi pc (.lload k) L st w = some (.inl (pc1, L1, st1, w1))) (G1 : ex_G p l e R s m args below meth c Q D cI cZ sa A mi mc ms n0 w9 pc1 L1 st1 w1) : ex_G p l e R s m args below meth c Q D cI cZ sa A mi mc ms n0 w9 pc L st w := by
  obtain ⟨hx, hb, hml, hr, hlk, hown, hts, hin⟩ := F
  exact ex_ldJ_s ha G1 fun x H locs cells slots ls rest h1 h2 => lv_lload hx hb hd h1 h2
theorem ex_i_astore_n {k : Fin 4} (F : ex_F mi p s m meth c args) (hd : decode (kC mi) pc = .ok (.astore_n k, 1)) (ha : ex_do X mi pc (.astore_n k) L st w = some (.inl (pc1, L1, st1, w1))) (G1 : ex_G p l e R s m args below meth c Q D cI cZ sa A mi mc ms n0 w9 pc1 L1 st1 w1) : ex_G p l e R s m args below meth c Q D cI cZ sa A mi mc ms n0 w9 pc L st w := by
  obtain ⟨hx, hb, hml, hr, hlk, hown, hts, hin⟩ := F
  exact ex_stA_s ha G1 fun x lv H locs cells slots ls rest h1 h2 h3 => lv_astore_n hx hb hd rfl h1 h2 rfl h3
theorem ex_i_astore {k : Nat} (F : ex_F mi p s m meth c args) (hd : decode (kC mi) pc = .ok (.astore k, 2)) (ha : ex_do X mi pc (.astore k) L st w = some (.inl (pc1, L1, st1, w1))) (G1 : ex_G p l e R s m args below meth c Q D cI cZ sa A mi mc ms n0 w9 pc1 L1 st1 w1) : ex_G p l e R s m args below meth c Q D cI cZ sa A mi mc ms n0 w9 pc L st w := by
  obtain ⟨hx, hb, hml, hr, hlk, hown, hts, hin⟩ := F
  exact ex_stA_s ha G1 fun x lv H locs cells slots ls rest h1 h2 h3 => lv_astore hx hb hd h1 h2 rfl h3
theorem ex_i_istore_n {k : Fin 4} (F : ex_F mi p s m meth c args) (hd : decode (kC mi) pc = .ok (.istore_n k, 1)) (ha : ex_do X mi pc (.istore_n k) L st w = some (.inl (pc1, L1, st1, w1))) (G1 : ex_G p l e R s m args below meth c Q D cI cZ sa A mi mc ms n0 w9 pc1 L1 st1 w1) : ex_G p l e R s m args below meth c Q D cI cZ sa A mi mc ms n0 w9 pc L st w := by
  obtain ⟨hx, hb, hml, hr, hlk, hown, hts, hin⟩ := F
  exact ex_stI_s ha G1 fun x lv H locs cells slots ls rest h1 h2 h3 => lv_istore_n hx hb hd rfl h1 h2 rfl h3
theorem ex_i_istore {k : Nat} (F : ex_F mi p s m meth c args) (hd : decode (kC mi) pc = .ok (.istore k, 2)) (ha : ex_do X mi pc (.istore k) L st w = some (.inl (pc1, L1, st1, w1))) (G1 : ex_G p l e R s m args below meth c Q D cI cZ sa A mi mc ms n0 w9 pc1 L1 st1 w1) : ex_G p l e R s m args below meth c Q D cI cZ sa A mi mc ms n0 w9 pc L st w := by
  obtain ⟨hx, hb, hml, hr, hlk, hown, hts, hin⟩ := F
  exact ex_stI_s ha G1 fun x lv H locs cells slots ls rest h1 h2 h3 => lv_istore hx hb hd h1 h2 rfl h3
theorem ex_i_lstore_n {k : Fin 4} (F : ex_F mi p s m meth c args) (hd : decode (kC mi) pc = .ok (.lstore_n k, 1)) (ha : ex_do X mi pc (.lstore_n k) L st w = some (.inl (pc1, L1, st1, w1))) (G1 : ex_G p l e R s m args below meth c Q D cI cZ sa A mi mc ms n0 w9 pc1 L1 st1 w1) : ex_G p l e R s m args below meth c Q D cI cZ sa A mi mc ms n0 w9 pc L st w := by
  obtain ⟨hx, hb, hml, hr, hlk, hown, hts, hin⟩ := F
  exact ex_stJ_s ha G1 fun x lv H locs cells slots ls rest h1 h2 h3 => lv_lstore_n hx hb hd rfl h1 h2 rfl h3
theorem ex_i_lstore {k : Nat} (F : ex_F mi p s m meth c args) (hd : decode (kC mi) pc = .ok (.lstore k, 2)) (ha : ex_do X mi pc (.lstore k) L st w = some (.inl (pc1, L1, st1, w1))) (G1 : ex_G p l e R s m args below meth c Q D cI cZ sa A mi mc ms n0 w9 pc1 L1 st1 w1) : ex_G p l e R s m args below meth c Q D cI cZ sa A mi mc ms n0 w9 pc L st w := by
  obtain ⟨hx, hb, hml, hr, hlk, hown, hts, hin⟩ := F
  exact ex_stJ_s ha G1 fun x lv H locs cells slots ls rest h1 h2 h3 => lv_lstore hx hb hd h1 h2 rfl h3
theorem ex_i_iconst {n : Int} (F : ex_F mi p s m meth c args) (hd : decode (kC mi) pc = .ok (.iconst n, 1)) (ha : ex_do X mi pc (.iconst n) L st w = some (.inl (pc1, L1, st1, w1))) (G1 : ex_G p l e R s m args below meth c Q D cI cZ sa A mi mc ms n0 w9 pc1 L1 st1 w1) : ex_G p l e R s m args below meth c Q D cI cZ sa A mi mc ms n0 w9 pc L st w := by
  obtain ⟨hx, hb, hml, hr, hlk, hown, hts, hin⟩ := F
  cases ha
  exact ex_top_s G1 (fun n h => List.forall_mem_cons.mpr ⟨trivial, h⟩) fun ad H locs cells slots ls h => lv_iconst hx hb hd rfl h
theorem ex_i_bipush {n : Int} (F : ex_F mi p s m meth c args) (hd : decode (kC mi) pc = .ok (.bipush n, 2)) (ha : ex_do X mi pc (.bipush n) L st w = some (.inl (pc1, L1, st1, w1))) (G1 : ex_G p l e R s m args below meth c Q D cI cZ sa A mi mc ms n0 w9 pc1 L1 st1 w1) : ex_G p l e R s m args below meth c Q D cI cZ sa A mi mc ms n0 w9 pc L st w := by
  obtain ⟨hx, hb, hml, hr, hlk, hown, hts, hin⟩ := F
  cases ha
  exact ex_top_s G1 (fun n h => List.forall_mem_cons.mpr ⟨trivial, h⟩) fun ad H locs cells slots ls h => lv_bipush hx hb hd rfl h
theorem ex_i_sipush {n : Int} (F : ex_F mi p s m meth c args) (hd : decode (kC mi) pc = .ok (.sipush n, 3)) (ha : ex_do X mi pc (.sipush n) L st w = some (.inl (pc1, L1, st1, w1))) (G1 : ex_G p l e R s m args below meth c Q D cI cZ sa A mi mc ms n0 w9 pc1 L1 st1 w1) : ex_G p l e R s m args below meth c Q D cI cZ sa A mi mc ms n0 w9 pc L st w := by
  obtain ⟨hx, hb, hml, hr, hlk, hown, hts, hin⟩ := F
  cases ha
  exact ex_top_s G1 (fun n h => List.forall_mem_cons.mpr ⟨trivial, h⟩) fun ad H locs cells slots ls h => lv_sipush hx hb hd rfl h
theorem ex_i_lconst {n : Fin 2} (F : ex_F mi p s m meth c args) (hd : decode (kC mi) pc = .ok (.lconst n, 1)) (ha : ex_do X mi pc (.lconst n) L st w = some (.inl (pc1, L1, st1, w1))) (G1 : ex_G p l e R s m args below meth c Q D cI cZ sa A mi mc ms n0 w9 pc1 L1 st1 w1) : ex_G p l e R s m args below meth c Q D cI cZ sa A mi mc ms n0 w9 pc L st w := by
  obtain ⟨hx, hb, hml, hr, hlk, hown, hts, hin⟩ := F
  cases ha
  exact ex_top_s G1 (fun n h => List.forall_mem_cons.mpr ⟨trivial, h⟩) fun ad H locs cells slots ls h => lv_lconst hx hb hd rfl h
theorem ex_i_iadd (F : ex_F mi p s m meth c args) (hd : decode (kC mi) pc = .ok (.iadd, 1)) (ha : ex_do X mi pc (.iadd) L st w = some (.inl (pc1, L1, st1, w1))) (G1 : ex_G p l e R s m args below meth c Q D cI cZ sa A mi mc ms n0 w9 pc1 L1 st1 w1) : ex_G p l e R s m args below meth c Q D cI cZ sa A mi mc ms n0 w9 pc L st w := by
  obtain ⟨hx, hb, hml, hr, hlk, hown, hts, hin⟩ := F
  simp only [ex_do, ex_ii] at ha
  split at ha
  next x y r =>
    cases ha
    exact ex_top_s G1 (fun n h => List.forall_mem_cons.mpr ⟨trivial, (List.forall_mem_cons.mp (List.forall_mem_cons.mp h).2).2⟩) fun ad H locs cells slots ls h => lv_iadd hx hb hd h
  next => cases ha
theorem ex_i_isub (F : ex_F mi p s m meth c args) (hd : decode (kC mi) pc = .ok (.isub, 1)) (ha : ex_do X mi pc (.isub) L st w = some (.inl (pc1, L1, st1, w1))) (G1 : ex_G p l e R s m args below meth c Q D cI cZ sa A mi mc ms n0 w9 pc1 L1 st1 w1) : ex_G p l e R s m args below meth c Q D cI cZ sa A mi mc ms n0 w9 pc L st w := by
  obtain ⟨hx, hb, hml, hr, hlk, hown, hts, hin⟩ := F
  simp only [ex_do, ex_ii] at ha
  split at ha
  next x y r =>
    cases ha
    exact ex_top_s G1 (fun n h => List.forall_mem_cons.mpr ⟨trivial, (List.forall_mem_cons.mp (List.forall_mem_cons.mp h).2).2⟩) fun ad H locs cells slots ls h => lv_isub hx hb hd h
  next => cases ha
theorem ex_i_imul (F : ex_F mi p s m meth c args) (hd : decode (kC mi) pc = .ok (.imul, 1)) (ha : ex_do X mi pc (.imul) L st w = some (.inl (pc1, L1, st1, w1))) (G1 : ex_G p l e R s m args below meth c Q D cI cZ sa A mi mc ms n0 w9 pc1 L1 st1 w1) : ex_G p l e R s m args below meth c Q D cI cZ sa A mi mc ms n0 w9 pc L st w := by
  obtain ⟨hx, hb, hml, hr, hlk, hown, hts, hin⟩ := F
  simp only [ex_do, ex_ii] at ha
  split at ha
  next x y r =>
    cases ha
    exact ex_top_s G1 (fun n h => List.forall_mem_cons.mpr ⟨trivial, (List.forall_mem_cons.mp (List.forall_mem_cons.mp h).2).2⟩) fun ad H locs cells slots ls h => lv_imul hx hb hd h
  next => cases ha
theorem ex_i_iand (F : ex_F mi p s m meth c args) (hd : decode (kC mi) pc = .ok (.iand, 1)) (ha : ex_do X mi pc (.iand) L st w = some (.inl (pc1, L1, st1, w1))) (G1 : ex_G p l e R s m args below meth c Q D cI cZ sa A mi mc ms n0 w9 pc1 L1 st1 w1) : ex_G p l e R s m args below meth c Q D cI cZ sa A mi mc ms n0 w9 pc L st w := by
  obtain ⟨hx, hb, hml, hr, hlk, hown, hts, hin⟩ := F
  simp only [ex_do, ex_ii] at ha
  split at ha
  next x y r =>
    cases ha
    exact ex_top_s G1 (fun n h => List.forall_mem_cons.mpr ⟨trivial, (List.forall_mem_cons.mp (List.forall_mem_cons.mp h).2).2⟩) fun ad H locs cells slots ls h => lv_iand hx hb hd h
  next => cases ha
theorem ex_i_ishl (F : ex_F mi p s m meth c args) (hd : decode (kC mi) pc = .ok (.ishl, 1)) (ha : ex_do X mi pc (.ishl) L st w = some (.inl (pc1, L1, st1, w1))) (G1 : ex_G p l e R s m args below meth c Q D cI cZ sa A mi mc ms n0 w9 pc1 L1 st1 w1) : ex_G p l e R s m args below meth c Q D cI cZ sa A mi mc ms n0 w9 pc L st w := by
  obtain ⟨hx, hb, hml, hr, hlk, hown, hts, hin⟩ := F
  simp only [ex_do, ex_ii] at ha
  split at ha
  next x y r =>
    cases ha
    exact ex_top_s G1 (fun n h => List.forall_mem_cons.mpr ⟨trivial, (List.forall_mem_cons.mp (List.forall_mem_cons.mp h).2).2⟩) fun ad H locs cells slots ls h => lv_ishl hx hb hd h
  next => cases ha
theorem ex_i_ishr (F : ex_F mi p s m meth c args) (hd : decode (kC mi) pc = .ok (.ishr, 1)) (ha : ex_do X mi pc (.ishr) L st w = some (.inl (pc1, L1, st1, w1))) (G1 : ex_G p l e R s m args below meth c Q D cI cZ sa A mi mc ms n0 w9 pc1 L1 st1 w1) : ex_G p l e R s m args below meth c Q D cI cZ sa A mi mc ms n0 w9 pc L st w := by
  obtain ⟨hx, hb, hml, hr, hlk, hown, hts, hin⟩ := F
  simp only [ex_do, ex_ii] at ha
  split at ha
  next x y r =>
    cases ha
    exact ex_top_s G1 (fun n h => List.forall_mem_cons.mpr ⟨trivial, (List.forall_mem_cons.mp (List.forall_mem_cons.mp h).2).2⟩) fun ad H locs cells slots ls h => lv_ishr hx hb hd h
  next => cases ha
theorem ex_i_ladd (F : ex_F mi p s m meth c args) (hd : decode (kC mi) pc = .ok (.ladd, 1)) (ha : ex_do X mi pc (.ladd) L st w = some (.inl (pc1, L1, st1, w1))) (G1 : ex_G p l e R s m args below meth c Q D cI cZ sa A mi mc ms n0 w9 pc1 L1 st1 w1) : ex_G p l e R s m args below meth c Q D cI cZ sa A mi mc ms n0 w9 pc L st w := by
  obtain ⟨hx, hb, hml, hr, hlk, hown, hts, hin⟩ := F
  simp only [ex_do, ex_jj] at ha
  split at ha
  next x y r =>
    cases ha
    exact ex_top_s G1 (fun n h => List.forall_mem_cons.mpr ⟨trivial, (List.forall_mem_cons.mp (List.forall_mem_cons.mp h).2).2⟩) fun ad H locs cells slots ls h => lv_ladd hx hb hd h
  next => cases ha
theorem ex_i_lsub (F : ex_F mi p s m meth c args) (hd : decode (kC mi) pc = .ok (.lsub, 1)) (ha : ex_do X mi pc (.lsub) L st w = some (.inl (pc1, L1, st1, w1))) (G1 : ex_G p l e R s m args below meth c Q D cI cZ sa A mi mc ms n0 w9 pc1 L1 st1 w1) : ex_G p l e R s m args below meth c Q D cI cZ sa A mi mc ms n0 w9 pc L st w := by
  obtain ⟨hx, hb, hml, hr, hlk, hown, hts, hin⟩ := F
  simp only [ex_do, ex_jj] at ha
  split at ha
  next x y r =>
    cases ha
    exact ex_top_s G1 (fun n h => List.forall_mem_cons.mpr ⟨trivial, (List.forall_mem_cons.mp (List.forall_mem_cons.mp h).2).2⟩) fun ad H locs cells slots ls h => lv_lsub hx hb hd h
  next => cases ha
theorem ex_i_lmul (F : ex_F mi p s m meth c args) (hd : decode (kC mi) pc = .ok (.lmul, 1)) (ha : ex_do X mi pc (.lmul) L st w = some (.inl (pc1, L1, st1, w1))) (G1 : ex_G p l e R s m args below meth c Q D cI cZ sa A mi mc ms n0 w9 pc1 L1 st1 w1) : ex_G p l e R s m args below meth c Q D cI cZ sa A mi mc ms n0 w9 pc L st w := by
  obtain ⟨hx, hb, hml, hr, hlk, hown, hts, hin⟩ := F
  simp only [ex_do, ex_jj] at ha
  split at ha
  next x y r =>
    cases ha
    exact ex_top_s G1 (fun n h => List.forall_mem_cons.mpr ⟨trivial, (List.forall_mem_cons.mp (List.forall_mem_cons.mp h).2).2⟩) fun ad H locs cells slots ls h => lv_lmul hx hb hd h
  next => cases ha
theorem ex_i_lor (F : ex_F mi p s m meth c args) (hd : decode (kC mi) pc = .ok (.lor, 1)) (ha : ex_do X mi pc (.lor) L st w = some (.inl (pc1, L1, st1, w1))) (G1 : ex_G p l e R s m args below meth c Q D cI cZ sa A mi mc ms n0 w9 pc1 L1 st1 w1) : ex_G p l e R s m args below meth c Q D cI cZ sa A mi mc ms n0 w9 pc L st w := by
  obtain ⟨hx, hb, hml, hr, hlk, hown, hts, hin⟩ := F
  simp only [ex_do, ex_jj] at ha
  split at ha
  next x y r =>
    cases ha
    exact ex_top_s G1 (fun n h => List.forall_mem_cons.mpr ⟨trivial, (List.forall_mem_cons.mp (List.forall_mem_cons.mp h).2).2⟩) fun ad H locs cells slots ls h => lv_lor hx hb hd h
  next => cases ha
theorem ex_i_lshl (F : ex_F mi p s m meth c args) (hd : decode (kC mi) pc = .ok (.lshl, 1)) (ha : ex_do X mi pc (.lshl) L st w = some (.inl (pc1, L1, st1, w1))) (G1 : ex_G p l e R s m args below meth c Q D cI cZ sa A mi mc ms n0 w9 pc1 L1 st1 w1) : ex_G p l e R s m args below meth c Q D cI cZ sa A mi mc ms n0 w9 pc L st w := by
  obtain ⟨hx, hb, hml, hr, hlk, hown, hts, hin⟩ := F
  simp only [ex_do, ex_ji] at ha
  split at ha
  next x y r =>
    cases ha
    exact ex_top_s G1 (fun n h => List.forall_mem_cons.mpr ⟨trivial, (List.forall_mem_cons.mp (List.forall_mem_cons.mp h).2).2⟩) fun ad H locs cells slots ls h => lv_lshl hx hb hd rfl h
  next => cases ha
theorem ex_i_lshr (F : ex_F mi p s m meth c args) (hd : decode (kC mi) pc = .ok (.lshr, 1)) (ha : ex_do X mi pc (.lshr) L st w = some (.inl (pc1, L1, st1, w1))) (G1 : ex_G p l e R s m args below meth c Q D cI cZ sa A mi mc ms n0 w9 pc1 L1 st1 w1) : ex_G p l e R s m args below meth c Q D cI cZ sa A mi mc ms n0 w9 pc L st w := by
  obtain ⟨hx, hb, hml, hr, hlk, hown, hts, hin⟩ := F
  simp only [ex_do, ex_ji] at ha
  split at ha
  next x y r =>
    cases ha
    exact ex_top_s G1 (fun n h => List.forall_mem_cons.mpr ⟨trivial, (List.forall_mem_cons.mp (List.forall_mem_cons.mp h).2).2⟩) fun ad H locs cells slots ls h => lv_lshr hx hb hd rfl h
  next => cases ha
theorem ex_i_idiv (F : ex_F mi p s m meth c args) (hd : decode (kC mi) pc = .ok (.idiv, 1)) (ha : ex_do X mi pc (.idiv) L st w = some (.inl (pc1, L1, st1, w1))) (G1 : ex_G p l e R s m args below meth c Q D cI cZ sa A mi mc ms n0 w9 pc1 L1 st1 w1) : ex_G p l e R s m args below meth c Q D cI cZ sa A mi mc ms n0 w9 pc L st w := by
  obtain ⟨hx, hb, hml, hr, hlk, hown, hts, hin⟩ := F
  simp only [ex_do] at ha
  split at ha
  next x y r =>
    split at ha
    next => cases ha
    next hne =>
      cases ha
      exact ex_top_s G1 (fun n h => List.forall_mem_cons.mpr ⟨trivial, (List.forall_mem_cons.mp (List.forall_mem_cons.mp h).2).2⟩) fun ad H locs cells slots ls h => lv_idiv hx hb hd hne h
  next => cases ha
theorem ex_i_irem (F : ex_F mi p s m meth c args) (hd : decode (kC mi) pc = .ok (.irem, 1)) (ha : ex_do X mi pc (.irem) L st w = some (.inl (pc1, L1, st1, w1))) (G1 : ex_G p l e R s m args below meth c Q D cI cZ sa A mi mc ms n0 w9 pc1 L1 st1 w1) : ex_G p l e R s m args below meth c Q D cI cZ sa A mi mc ms n0 w9 pc L st w := by
  obtain ⟨hx, hb, hml, hr, hlk, hown, hts, hin⟩ := F
  simp only [ex_do] at ha
  split at ha
  next x y r =>
    split at ha
    next => cases ha
    next hne =>
      cases ha
      exact ex_top_s G1 (fun n h => List.forall_mem_cons.mpr ⟨trivial, (List.forall_mem_cons.mp (List.forall_mem_cons.mp h).2).2⟩) fun ad H locs cells slots ls h => lv_irem hx hb hd hne h
  next => cases ha
theorem ex_i_ldiv (F : ex_F mi p s m meth c args) (hd : decode (kC mi) pc = .ok (.ldiv, 1)) (ha : ex_do X mi pc (.ldiv) L st w = some (.inl (pc1, L1, st1, w1))) (G1 : ex_G p l e R s m args below meth c Q D cI cZ sa A mi mc ms n0 w9 pc1 L1 st1 w1) : ex_G p l e R s m args below meth c Q D cI cZ sa A mi mc ms n0 w9 pc L st w := by
  obtain ⟨hx, hb, hml, hr, hlk, hown, hts, hin⟩ := F
  simp only [ex_do] at ha
  split at ha
  next x y r =>
    split at ha
    next => cases ha
    next hne =>
      cases ha
      exact ex_top_s G1 (fun n h => List.forall_mem_cons.mpr ⟨trivial, (List.forall_mem_cons.mp (List.forall_mem_cons.mp h).2).2⟩) fun ad H locs cells slots ls h => lv_ldiv hx hb hd hne h
  next => cases ha
theorem ex_i_lrem (F : ex_F mi p s m meth c args) (hd : decode (kC mi) pc = .ok (.lrem, 1)) (ha : ex_do X mi pc (.lrem) L st w = some (.inl (pc1, L1, st1, w1))) (G1 : ex_G p l e R s m args below meth c Q D cI cZ sa A mi mc ms n0 w9 pc1 L1 st1 w1) : ex_G p l e R s m args below meth c Q D cI cZ sa A mi mc ms n0 w9 pc L st w := by
  obtain ⟨hx, hb, hml, hr, hlk, hown, hts, hin⟩ := F
  simp only [ex_do] at ha
  split at ha
  next x y r =>
    split at ha
    next => cases ha
    next hne =>
      cases ha
      exact ex_top_s G1 (fun n h => List.forall_mem_cons.mpr ⟨trivial, (List.forall_mem_cons.mp (List.forall_mem_cons.mp h).2).2⟩) fun ad H locs cells slots ls h => lv_lrem hx hb hd hne h
  next => cases ha
theorem ex_i_ineg (F : ex_F mi p s m meth c args) (hd : decode (kC mi) pc = .ok (.ineg, 1)) (ha : ex_do X mi pc (.ineg) L st w = some (.inl (pc1, L1, st1, w1))) (G1 : ex_G p l e R s m args below meth c Q D cI cZ sa A mi mc ms n0 w9 pc1 L1 st1 w1) : ex_G p l e R s m args below meth c Q D cI cZ sa A mi mc ms n0 w9 pc L st w := by
  obtain ⟨hx, hb, hml, hr, hlk, hown, hts, hin⟩ := F
  simp only [ex_do] at ha
  split at ha
  next x r =>
    cases ha
    exact ex_top_s G1 (fun n h => List.forall_mem_cons.mpr ⟨trivial, (List.forall_mem_cons.mp h).2⟩) fun ad H locs cells slots ls h => lv_ineg hx hb hd h
  next => cases ha
theorem ex_i_lneg (F : ex_F mi p s m meth c args) (hd : decode (kC mi) pc = .ok (.lneg, 1)) (ha : ex_do X mi pc (.lneg) L st w = some (.inl (pc1, L1, st1, w1))) (G1 : ex_G p l e R s m args below meth c Q D cI cZ sa A mi mc ms n0 w9 pc1 L1 st1 w1) : ex_G p l e R s m args below meth c Q D cI cZ sa A mi mc ms n0 w9 pc L st w := by
  obtain ⟨hx, hb, hml, hr, hlk, hown, hts, hin⟩ := F
  simp only [ex_do] at ha
  split at ha
  next x r =>
    cases ha
    exact ex_top_s G1 (fun n h => List.forall_mem_cons.mpr ⟨trivial, (List.forall_mem_cons.mp h).2⟩) fun ad H locs cells slots ls h => lv_lneg hx hb hd h
  next => cases ha
theorem ex_i_i2l (F : ex_F mi p s m meth c args) (hd : decode (kC mi) pc = .ok (.i2l, 1)) (ha : ex_do X mi pc (.i2l) L st w = some (.inl (pc1, L1, st1, w1))) (G1 : ex_G p l e R s m args below meth c Q D cI cZ sa A mi mc ms n0 w9 pc1 L1 st1 w1) : ex_G p l e R s m args below meth c Q D cI cZ sa A mi mc ms n0 w9 pc L st w := by
  obtain ⟨hx, hb, hml, hr, hlk, hown, hts, hin⟩ := F
  simp only [ex_do] at ha
  split at ha
  next x r =>
    cases ha
    exact ex_top_s G1 (fun n h => List.forall_mem_cons.mpr ⟨trivial, (List.forall_mem_cons.mp h).2⟩) fun ad H locs cells slots ls h => lv_i2l hx hb hd rfl h
  next => cases ha
theorem ex_i_l2i (F : ex_F mi p s m meth c args) (hd : decode (kC mi) pc = .ok (.l2i, 1)) (ha : ex_do X mi pc (.l2i) L st w = some (.inl (pc1, L1, st1, w1))) (G1 : ex_G p l e R s m args below meth c Q D cI cZ sa A mi mc ms n0 w9 pc1 L1 st1 w1) : ex_G p l e R s m args below meth c Q D cI cZ sa A mi mc ms n0 w9 pc L st w := by
  obtain ⟨hx, hb, hml, hr, hlk, hown, hts, hin⟩ := F
  simp only [ex_do] at ha
  split at ha
  next x r =>
    cases ha
    exact ex_top_s G1 (fun n h => List.forall_mem_cons.mpr ⟨trivial, (List.forall_mem_cons.mp h).2⟩) fun ad H locs cells slots ls h => lv_l2i hx hb hd rfl h
  next => cases ha
theorem ex_i_i2b (F : ex_F mi p s m meth c args) (hd : decode (kC mi) pc = .ok (.i2b, 1)) (ha : ex_do X mi pc (.i2b) L st w = some (.inl (pc1, L1, st1, w1))) (G1 : ex_G p l e R s m args below meth c Q D cI cZ sa A mi mc ms n0 w9 pc1 L1 st1 w1) : ex_G p l e R s m args below meth c Q D cI cZ sa A mi mc ms n0 w9 pc L st w := by
  obtain ⟨hx, hb, hml, hr, hlk, hown, hts, hin⟩ := F
  simp only [ex_do] at ha
  split at ha
  next x r =>
    cases ha
    exact ex_top_s G1 (fun n h => List.forall_mem_cons.mpr ⟨trivial, (List.forall_mem_cons.mp h).2⟩) fun ad H locs cells slots ls h => lv_i2b hx hb hd rfl h
  next => cases ha
theorem ex_i_i2c (F : ex_F mi p s m meth c args) (hd : decode (kC mi) pc = .ok (.i2c, 1)) (ha : ex_do X mi pc (.i2c) L st w = some (.inl (pc1, L1, st1, w1))) (G1 : ex_G p l e R s m args below meth c Q D cI cZ sa A mi mc ms n0 w9 pc1 L1 st1 w1) : ex_G p l e R s m args below meth c Q D cI cZ sa A mi mc ms n0 w9 pc L st w := by
  obtain ⟨hx, hb, hml, hr, hlk, hown, hts, hin⟩ := F
  simp only [ex_do] at ha
  split at ha
  next x r =>
    cases ha
    exact ex_top_s G1 (fun n h => List.forall_mem_cons.mpr ⟨trivial, (List.forall_mem_cons.mp h).2⟩) fun ad H locs cells slots ls h => lv_i2c hx hb hd rfl h
  next => cases ha
theorem ex_i_lcmp (F : ex_F mi p s m meth c args) (hd : decode (kC mi) pc = .ok (.lcmp, 1)) (ha : ex_do X mi pc (.lcmp) L st w = some (.inl (pc1, L1, st1, w1))) (G1 : ex_G p l e R s m args below meth c Q D cI cZ sa A mi mc ms n0 w9 pc1 L1 st1 w1) : ex_G p l e R s m args below meth c Q D cI cZ sa A mi mc ms n0 w9 pc L st w := by
  obtain ⟨hx, hb, hml, hr, hlk, hown, hts, hin⟩ := F
  simp only [ex_do] at ha
  split at ha
  next x y r =>
    cases ha
    exact ex_top_s G1 (fun n h => List.forall_mem_cons.mpr ⟨trivial, (List.forall_mem_cons.mp (List.forall_mem_cons.mp h).2).2⟩) fun ad H locs cells slots ls h => W.lcmp hx hb hd h
  next => cases ha
theorem ex_i_dup (F : ex_F mi p s m meth c args) (hd : decode (kC mi) pc = .ok (.dup, 1)) (ha : ex_do X mi pc (.dup) L st w = some (.inl (pc1, L1, st1, w1))) (G1 : ex_G p l e R s m args below meth c Q D cI cZ sa A mi mc ms n0 w9 pc1 L1 st1 w1) : ex_G p l e R s m args below meth c Q D cI cZ sa A mi mc ms n0 w9 pc L st w := by
  obtain ⟨hx, hb, hml, hr, hlk, hown, hts, hin⟩ := F
  simp only [ex_do] at ha
  split at ha
  next v r =>
    split at ha
    next hv =>
      cases ha
      exact ex_top_s G1 (fun n h => List.forall_mem_cons.mpr ⟨(List.forall_mem_cons.mp h).1, h⟩) fun ad H locs cells slots ls h => lv_dup hx hb hd ((ex_v_cat ad v).trans hv) h
    next => cases ha
  next => cases ha
theorem ex_i_pop (F : ex_F mi p s m meth c args) (hd : decode (kC mi) pc = .ok (.pop, 1)) (ha : ex_do X mi pc (.pop) L st w = some (.inl (pc1, L1, st1, w1))) (G1 : ex_G p l e R s m args below meth c Q D cI cZ sa A mi mc ms n0 w9 pc1 L1 st1 w1) : ex_G p l e R s m args below meth c Q D cI cZ sa A mi mc ms n0 w9 pc L st w := by
  obtain ⟨hx, hb, hml, hr, hlk, hown, hts, hin⟩ := F
  simp only [ex_do] at ha
  split at ha
  next v r =>
    split at ha
    next hv =>
      cases ha
      exact ex_top_s G1 (fun n h => (List.forall_mem_cons.mp h).2) fun ad H locs cells slots ls h => lv_pop hx hb hd ((ex_v_cat ad v).trans hv) h
    next => cases ha
  next => cases ha
theorem ex_i_dup_x1 (F : ex_F mi p s m meth c args) (hd : decode (kC mi) pc = .ok (.dup_x1, 1)) (ha : ex_do X mi pc (.dup_x1) L st w = some (.inl (pc1, L1, st1, w1))) (G1 : ex_G p l e R s m args below meth c Q D cI cZ sa A mi mc ms n0 w9 pc1 L1 st1 w1) : ex_G p l e R s m args below meth c Q D cI cZ sa A mi mc ms n0 w9 pc L st w := by
  obtain ⟨hx, hb, hml, hr, hlk, hown, hts, hin⟩ := F
  simp only [ex_do] at ha
  split at ha
  next v u r =>
    split at ha
    next hv =>
      cases ha
      refine ex_top_s G1 (fun n h => ?_) fun ad H locs cells slots ls h => lv_dup_x1 hx hb hd ((ex_v_cat ad v).trans hv.1) ((ex_v_cat ad u).trans hv.2) h
      obtain ⟨a1, a2⟩ := List.forall_mem_cons.mp h
      obtain ⟨a3, a4⟩ := List.forall_mem_cons.mp a2
      exact List.forall_mem_cons.mpr ⟨a1, List.forall_mem_cons.mpr ⟨a3, List.forall_mem_cons.mpr ⟨a1, a4⟩⟩⟩
    next => cases ha
  next => cases ha
theorem ex_i_dup_x2 (F : ex_F mi p s m meth c args) (hd : decode (kC mi) pc = .ok (.dup_x2, 1)) (ha : ex_do X mi pc (.dup_x2) L st w = some (.inl (pc1, L1, st1, w1))) (G1 : ex_G p l e R s m args below meth c Q D cI cZ sa A mi mc ms n0 w9 pc1 L1 st1 w1) : ex_G p l e R s m args below meth c Q D cI cZ sa A mi mc ms n0 w9 pc L st w := by
  obtain ⟨hx, hb, hml, hr, hlk, hown, hts, hin⟩ := F
  simp only [ex_do] at ha
  split at ha
  next v u t r =>
    split at ha
    next hv =>
      cases ha
      refine ex_top_s G1 (fun n h => ?_) fun ad H locs cells slots ls h => lv_dup_x2 hx hb hd ((ex_v_cat ad v).trans hv.1) ((ex_v_cat ad u).trans hv.2.1) ((ex_v_cat ad t).trans hv.2.2) h
      obtain ⟨a1, a2⟩ := List.forall_mem_cons.mp h
      obtain ⟨a3, a4⟩ := List.forall_mem_cons.mp a2
      obtain ⟨a5, a6⟩ := List.forall_mem_cons.mp a4
      exact List.forall_mem_cons.mpr ⟨a1, List.forall_mem_cons.mpr ⟨a3, List.forall_mem_cons.mpr ⟨a5, List.forall_mem_cons.mpr ⟨a1, a6⟩⟩⟩⟩
    next => cases ha
  next => cases ha
theorem ex_i_dup2 (F : ex_F mi p s m meth c args) (hd : decode (kC mi) pc = .ok (.dup2, 1)) (ha : ex_do X mi pc (.dup2) L st w = some (.inl (pc1, L1, st1, w1))) (G1 : ex_G p l e R s m args below meth c Q D cI cZ sa A mi mc ms n0 w9 pc1 L1 st1 w1) : ex_G p l e R s m args below meth c Q D cI cZ sa A mi mc ms n0 w9 pc L st w := by
  obtain ⟨hx, hb, hml, hr, hlk, hown, hts, hin⟩ := F
  simp only [ex_do] at ha
  split at ha
  next v u r =>
    split at ha
    next hv =>
      cases ha
      refine ex_top_s G1 (fun n h => ?_) fun ad H locs cells slots ls h => lv_dup2_11 hx hb hd ((ex_v_cat ad v).trans hv.1) ((ex_v_cat ad u).trans hv.2) h
      obtain ⟨a1, a2⟩ := List.forall_mem_cons.mp h
      obtain ⟨a3, a4⟩ := List.forall_mem_cons.mp a2
      exact List.forall_mem_cons.mpr ⟨a1, List.forall_mem_cons.mpr ⟨a3, List.forall_mem_cons.mpr ⟨a1, List.forall_mem_cons.mpr ⟨a3, a4⟩⟩⟩⟩
    next => cases ha
  next => cases ha
theorem ex_i_iinc {i : Nat} {n : Int} (F : ex_F mi p s m meth c args) (hd : decode (kC mi) pc = .ok (.iinc i n, 3)) (ha : ex_do X mi pc (.iinc i n) L st w = some (.inl (pc1, L1, st1, w1))) (G1 : ex_G p l e R s m args below meth c Q D cI cZ sa A mi mc ms n0 w9 pc1 L1 st1 w1) : ex_G p l e R s m args below meth c Q D cI cZ sa A mi mc ms n0 w9 pc L st w := by
  obtain ⟨hx, hb, hml, hr, hlk, hown, hts, hin⟩ := F
  simp only [ex_do] at ha
  split at ha
  next x hg =>
    split at ha
    next hi =>
      cases ha
      intro ad H locs cells slots ls M
      obtain ⟨hl, k1, k2, kw, hP, hD, hS, c1, c2, sp, hn0⟩ := M
      have hm := ex_get_mem hg
      obtain ⟨k, hk⟩ := List.getElem?_of_mem (List.mem_map.mpr ⟨_, hm, rfl⟩ : ex_q ad (i, .int x) ∈ L.map (ex_q ad))
      refine lv_iinc hx hb hd hl hk rfl hi rfl fun ls1 h1 => ?_
      exact G1 ad H locs cells slots ls1 ⟨ex_st1 (v := .int _) rfl h1, ex_set_ok k1 trivial, k2, kw, hP, hD, hS, c1, c2, sp, hn0⟩
    next => cases ha
  next => cases ha
theorem ex_j_s {off : Int} {r : List Value} (ha : ex_j pc off L r w = some (.inl (pc1, L1, st1, w1))) : ∃ tgt : Nat, (pc : Int) + off = (tgt : Int) ∧ pc1 = tgt ∧ L1 = L ∧ st1 = r ∧ w1 = w := by
  unfold ex_j at ha
  split at ha
  next h =>
    cases ha
    exact ⟨_, (Int.toNat_of_nonneg h).symm, rfl, rfl, rfl, rfl⟩
  next => cases ha
theorem ex_i_goto {off : Int} (F : ex_F mi p s m meth c args) (hd : decode (kC mi) pc = .ok (.goto off, 3)) (ha : ex_do X mi pc (.goto off) L st w = some (.inl (pc1, L1, st1, w1))) (G1 : ex_G p l e R s m args below meth c Q D cI cZ sa A mi mc ms n0 w9 pc1 L1 st1 w1) : ex_G p l e R s m args below meth c Q D cI cZ sa A mi mc ms n0 w9 pc L st w := by
  obtain ⟨hx, hb, hml, hr, hlk, hown, hts, hin⟩ := F
  obtain ⟨tgt, ht, rfl, rfl, rfl, rfl⟩ := ex_j_s (show ex_j pc off L st w = _ from ha)
  exact ex_top_s G1 (fun n h => h) fun ad H locs cells slots ls h => lv_goto hx hb hd ht h
theorem ex_br_s {off : Int} {cb : Bool} {r : List Value} (ha : ex_br pc off cb L r w = some (.inl (pc1, L1, st1, w1))) : ∃ tgt : Nat, (pc : Int) + off = (tgt : Int) ∧ pc1 = (if cb = true then tgt else pc + 3) ∧ L1 = L ∧ st1 = r ∧ w1 = w := by
  unfold ex_br at ha
  split at ha
  next h =>
    cases ha
    exact ⟨_, (Int.toNat_of_nonneg h).symm, rfl, rfl, rfl, rfl⟩
  next => cases ha
theorem ex_i_if_eq {off : Int} (F : ex_F mi p s m meth c args) (hd : decode (kC mi) pc = .ok (.ifCond .eq off, 3)) (ha : ex_do X mi pc (.ifCond .eq off) L st w = some (.inl (pc1, L1, st1, w1))) (G1 : ex_G p l e R s m args below meth c Q D cI cZ sa A mi mc ms n0 w9 pc1 L1 st1 w1) : ex_G p l e R s m args below meth c Q D cI cZ sa A mi mc ms n0 w9 pc L st w := by
  obtain ⟨hx, hb, hml, hr, hlk, hown, hts, hin⟩ := F
  simp only [ex_do, ex_cb] at ha
  split at ha
  next x r =>
    obtain ⟨tgt, ht, hp, rfl, rfl, rfl⟩ := ex_br_s ha
    intro ad H locs cells slots ls M
    obtain ⟨hl, k1, k2, kw, hP, hD, hS, c1, c2, sp, hn0⟩ := M
    have k3 := (List.forall_mem_cons.mp k2).2
    refine lv_if_eq hx hb hd ht (fun h => ?_) (fun h => ?_)
    · rw [if_pos (decide_eq_true h)] at hp
      subst hp
      exact G1 ad H locs cells slots ls ⟨hl, k1, k3, kw, hP, hD, hS, c1, c2, sp, hn0⟩
    · rw [if_neg (fun z => h (of_decide_eq_true z))] at hp
      subst hp
      exact G1 ad H locs cells slots ls ⟨hl, k1, k3, kw, hP, hD, hS, c1, c2, sp, hn0⟩
  next => cases ha
theorem ex_i_if_ne {off : Int} (F : ex_F mi p s m meth c args) (hd : decode (kC mi) pc = .ok (.ifCond .ne off, 3)) (ha : ex_do X mi pc (.ifCond .ne off) L st w = some (.inl (pc1, L1, st1, w1))) (G1 : ex_G p l e R s m args below meth c Q D cI cZ sa A mi mc ms n0 w9 pc1 L1 st1 w1) : ex_G p l e R s m args below meth c Q D cI cZ sa A mi mc ms n0 w9 pc L st w := by
  obtain ⟨hx, hb, hml, hr, hlk, hown, hts, hin⟩ := F
  simp only [ex_do, ex_cb] at ha
  split at ha
  next x r =>
    obtain ⟨tgt, ht, hp, rfl, rfl, rfl⟩ := ex_br_s ha
    intro ad H locs cells slots ls M
    obtain ⟨hl, k1, k2, kw, hP, hD, hS, c1, c2, sp, hn0⟩ := M
    have k3 := (List.forall_mem_cons.mp k2).2
    refine lv_if_ne hx hb hd ht (fun h => ?_) (fun h => ?_)
    · rw [if_pos (decide_eq_true h)] at hp
      subst hp
      exact G1 ad H locs cells slots ls ⟨hl, k1, k3, kw, hP, hD, hS, c1, c2, sp, hn0⟩
    · rw [if_neg (fun z => (of_decide_eq_true z) h)] at hp
      subst hp
      exact G1 ad H locs cells slots ls ⟨hl, k1, k3, kw, hP, hD, hS, c1, c2, sp, hn0⟩
  next => cases ha
theorem ex_i_if_lt {off : Int} (F : ex_F mi p s m meth c args) (hd : decode (kC mi) pc = .ok (.ifCond .lt off, 3)) (ha : ex_do X mi pc (.ifCond .lt off) L st w = some (.inl (pc1, L1, st1, w1))) (G1 : ex_G p l e R s m args below meth c Q D cI cZ sa A mi mc ms n0 w9 pc1 L1 st1 w1) : ex_G p l e R s m args below meth c Q D cI cZ sa A mi mc ms n0 w9 pc L st w := by
  obtain ⟨hx, hb, hml, hr, hlk, hown, hts, hin⟩ := F
  simp only [ex_do, ex_cb] at ha
  split at ha
  next x r =>
    obtain ⟨tgt, ht, hp, rfl, rfl, rfl⟩ := ex_br_s ha
    intro ad H locs cells slots ls M
    obtain ⟨hl, k1, k2, kw, hP, hD, hS, c1, c2, sp, hn0⟩ := M
    have k3 := (List.forall_mem_cons.mp k2).2
    refine lv_if_lt hx hb hd ht (fun h => ?_) (fun h => ?_)
    · rw [if_pos (decide_eq_true h)] at hp
      subst hp
      exact G1 ad H locs cells slots ls ⟨hl, k1, k3, kw, hP, hD, hS, c1, c2, sp, hn0⟩
    · rw [if_neg (fun z => h (of_decide_eq_true z))] at hp
      subst hp
      exact G1 ad H locs cells slots ls ⟨hl, k1, k3, kw, hP, hD, hS, c1, c2, sp, hn0⟩
  next => cases ha
theorem ex_i_if_ge {off : Int} (F : ex_F mi p s m meth c args) (hd : decode (kC mi) pc = .ok (.ifCond .ge off, 3)) (ha : ex_do X mi pc (.ifCond .ge off) L st w = some (.inl (pc1, L1, st1, w1))) (G1 : ex_G p l e R s m args below meth c Q D cI cZ sa A mi mc ms n0 w9 pc1 L1 st1 w1) : ex_G p l e R s m args below meth c Q D cI cZ sa A mi mc ms n0 w9 pc L st w := by
  obtain ⟨hx, hb, hml, hr, hlk, hown, hts, hin⟩ := F
  simp only [ex_do, ex_cb] at ha
  split at ha
  next x r =>
    obtain ⟨tgt, ht, hp, rfl, rfl, rfl⟩ := ex_br_s ha
    intro ad H locs cells slots ls M
    obtain ⟨hl, k1, k2, kw, hP, hD, hS, c1, c2, sp, hn0⟩ := M
    have k3 := (List.forall_mem_cons.mp k2).2
    refine lv_if_ge hx hb hd ht (fun h => ?_) (fun h => ?_)
    · rw [if_pos (decide_eq_true h)] at hp
      subst hp
      exact G1 ad H locs cells slots ls ⟨hl, k1, k3, kw, hP, hD, hS, c1, c2, sp, hn0⟩
    · rw [if_neg (fun z => h (of_decide_eq_true z))] at hp
      subst hp
      exact G1 ad H locs cells slots ls ⟨hl, k1, k3, kw, hP, hD, hS, c1, c2, sp, hn0⟩
  next => cases ha
theorem ex_i_if_gt {off : Int} (F : ex_F mi p s m meth c args) (hd : decode (kC mi) pc = .ok (.ifCond .gt off, 3)) (ha : ex_do X mi pc (.ifCond .gt off) L st w = some (.inl (pc1, L1, st1, w1))) (G1 : ex_G p l e R s m args below meth c Q D cI cZ sa A mi mc ms n0 w9 pc1 L1 st1 w1) : ex_G p l e R s m args below meth c Q D cI cZ sa A mi mc ms n0 w9 pc L st w := by
  obtain ⟨hx, hb, hml, hr, hlk, hown, hts, hin⟩ := F
  simp only [ex_do, ex_cb] at ha
  split at ha
  next x r =>
    obtain ⟨tgt, ht, hp, rfl, rfl, rfl⟩ := ex_br_s ha
    intro ad H locs cells slots ls M
    obtain ⟨hl, k1, k2, kw, hP, hD, hS, c1, c2, sp, hn0⟩ := M
    have k3 := (List.forall_mem_cons.mp k2).2
    refine lv_if_gt hx hb hd ht (fun h => ?_) (fun h => ?_)
    · rw [if_pos (decide_eq_true h)] at hp
      subst hp
      exact G1 ad H locs cells slots ls ⟨hl, k1, k3, kw, hP, hD, hS, c1, c2, sp, hn0⟩
    · rw [if_neg (fun z => h (of_decide_eq_true z))] at hp
      subst hp
      exact G1 ad H locs cells slots ls ⟨hl, k1, k3, kw, hP, hD, hS, c1, c2, sp, hn0⟩
  next => cases ha
theorem ex_i_if_le {off : Int} (F : ex_F mi p s m meth c args) (hd : decode (kC mi) pc = .ok (.ifCond .le off, 3)) (ha : ex_do X mi pc (.ifCond .le off) L st w = some (.inl (pc1, L1, st1, w1))) (G1 : ex_G p l e R s m args below meth c Q D cI cZ sa A mi mc ms n0 w9 pc1 L1 st1 w1) : ex_G p l e R s m args below meth c Q D cI cZ sa A mi mc ms n0 w9 pc L st w := by
  obtain ⟨hx, hb, hml, hr, hlk, hown, hts, hin⟩ := F
  simp only [ex_do, ex_cb] at ha
  split at ha
  next x r =>
    obtain ⟨tgt, ht, hp, rfl, rfl, rfl⟩ := ex_br_s ha
    intro ad H locs cells slots ls M
    obtain ⟨hl, k1, k2, kw, hP, hD, hS, c1, c2, sp, hn0⟩ := M
    have k3 := (List.forall_mem_cons.mp k2).2
    refine lv_if_le hx hb hd ht (fun h => ?_) (fun h => ?_)
    · rw [if_pos (decide_eq_true h)] at hp
      subst hp
      exact G1 ad H locs cells slots ls ⟨hl, k1, k3, kw, hP, hD, hS, c1, c2, sp, hn0⟩
    · rw [if_neg (fun z => h (of_decide_eq_true z))] at hp
      subst hp
      exact G1 ad H locs cells slots ls ⟨hl, k1, k3, kw, hP, hD, hS, c1, c2, sp, hn0⟩
  next => cases ha
theorem ex_i_icmp_eq {off : Int} (F : ex_F mi p s m meth c args) (hd : decode (kC mi) pc = .ok (.if_icmp .eq off, 3)) (ha : ex_do X mi pc (.if_icmp .eq off) L st w = some (.inl (pc1, L1, st1, w1))) (G1 : ex_G p l e R s m args below meth c Q D cI cZ sa A mi mc ms n0 w9 pc1 L1 st1 w1) : ex_G p l e R s m args below meth c Q D cI cZ sa A mi mc ms n0 w9 pc L st w := by
  obtain ⟨hx, hb, hml, hr, hlk, hown, hts, hin⟩ := F
  simp only [ex_do, ex_cb] at ha
  split at ha
  next x y r =>
    obtain ⟨tgt, ht, hp, rfl, rfl, rfl⟩ := ex_br_s ha
    intro ad H locs cells slots ls M
    obtain ⟨hl, k1, k2, kw, hP, hD, hS, c1, c2, sp, hn0⟩ := M
    have k3 := (List.forall_mem_cons.mp (List.forall_mem_cons.mp k2).2).2
    refine lv_icmp_eq hx hb hd ht (fun h => ?_) (fun h => ?_)
    · rw [if_pos (decide_eq_true h)] at hp
      subst hp
      exact G1 ad H locs cells slots ls ⟨hl, k1, k3, kw, hP, hD, hS, c1, c2, sp, hn0⟩
    · rw [if_neg (fun z => h (of_decide_eq_true z))] at hp
      subst hp
      exact G1 ad H locs cells slots ls ⟨hl, k1, k3, kw, hP, hD, hS, c1, c2, sp, hn0⟩
  next => cases ha
theorem ex_i_icmp_ne {off : Int} (F : ex_F mi p s m meth c args) (hd : decode (kC mi) pc = .ok (.if_icmp .ne off, 3)) (ha : ex_do X mi pc (.if_icmp .ne off) L st w = some (.inl (pc1, L1, st1, w1))) (G1 : ex_G p l e R s m args below meth c Q D cI cZ sa A mi mc ms n0 w9 pc1 L1 st1 w1) : ex_G p l e R s m args below meth c Q D cI cZ sa A mi mc ms n0 w9 pc L st w := by
  obtain ⟨hx, hb, hml, hr, hlk, hown, hts, hin⟩ := F
  simp only [ex_do, ex_cb] at ha
  split at ha
  next x y r =>
    obtain ⟨tgt, ht, hp, rfl, rfl, rfl⟩ := ex_br_s ha
    intro ad H locs cells slots ls M
    obtain ⟨hl, k1, k2, kw, hP, hD, hS, c1, c2, sp, hn0⟩ := M
    have k3 := (List.forall_mem_cons.mp (List.forall_mem_cons.mp k2).2).2
    refine lv_icmp_ne hx hb hd ht (fun h => ?_) (fun h => ?_)
    · rw [if_pos (decide_eq_true h)] at hp
      subst hp
      exact G1 ad H locs cells slots ls ⟨hl, k1, k3, kw, hP, hD, hS, c1, c2, sp, hn0⟩
    · rw [if_neg (fun z => (of_decide_eq_true z) h)] at hp
      subst hp
      exact G1 ad H locs cells slots ls ⟨hl, k1, k3, kw, hP, hD, hS, c1, c2, sp, hn0⟩
  next => cases ha
theorem ex_i_icmp_lt {off : Int} (F : ex_F mi p s m meth c args) (hd : decode (kC mi) pc = .ok (.if_icmp .lt off, 3)) (ha : ex_do X mi pc (.if_icmp .lt off) L st w = some (.inl (pc1, L1, st1, w1))) (G1 : ex_G p l e R s m args below meth c Q D cI cZ sa A mi mc ms n0 w9 pc1 L1 st1 w1) : ex_G p l e R s m args below meth c Q D cI cZ sa A mi mc ms n0 w9 pc L st w := by
  obtain ⟨hx, hb, hml, hr, hlk, hown, hts, hin⟩ := F
  simp only [ex_do, ex_cb] at ha
  split at ha
  next x y r =>
    obtain ⟨tgt, ht, hp, rfl, rfl, rfl⟩ := ex_br_s ha
    intro ad H locs cells slots ls M
    obtain ⟨hl, k1, k2, kw, hP, hD, hS, c1, c2, sp, hn0⟩ := M
    have k3 := (List.forall_mem_cons.mp (List.forall_mem_cons.mp k2).2).2
    refine lv_icmp_lt hx hb hd ht (fun h => ?_) (fun h => ?_)
    · rw [if_pos (decide_eq_true h)] at hp
      subst hp
      exact G1 ad H locs cells slots ls ⟨hl, k1, k3, kw, hP, hD, hS, c1, c2, sp, hn0⟩
    · rw [if_neg (fun z => h (of_decide_eq_true z))] at hp
      subst hp
      exact G1 ad H locs cells slots ls ⟨hl, k1, k3, kw, hP, hD, hS, c1, c2, sp, hn0⟩
  next => cases ha
theorem ex_i_icmp_ge {off : Int} (F : ex_F mi p s m meth c args) (hd : decode (kC mi) pc = .ok (.if_icmp .ge off, 3)) (ha : ex_do X mi pc (.if_icmp .ge off) L st w = some (.inl (pc1, L1, st1, w1))) (G1 : ex_G p l e R s m args below meth c Q D cI cZ sa A mi mc ms n0 w9 pc1 L1 st1 w1) : ex_G p l e R s m args below meth c Q D cI cZ sa A mi mc ms n0 w9 pc L st w := by
  obtain ⟨hx, hb, hml, hr, hlk, hown, hts, hin⟩ := F
  simp only [ex_do, ex_cb] at ha
  split at ha
  next x y r =>
    obtain ⟨tgt, ht, hp, rfl, rfl, rfl⟩ := ex_br_s ha
    intro ad H locs cells slots ls M
    obtain ⟨hl, k1, k2, kw, hP, hD, hS, c1, c2, sp, hn0⟩ := M
    have k3 := (List.forall_mem_cons.mp (List.forall_mem_cons.mp k2).2).2
    refine lv_icmp_ge hx hb hd ht (fun h => ?_) (fun h => ?_)
    · rw [if_pos (decide_eq_true h)] at hp
      subst hp
      exact G1 ad H locs cells slots ls ⟨hl, k1, k3, kw, hP, hD, hS, c1, c2, sp, hn0⟩
    · rw [if_neg (fun z => h (of_decide_eq_true z))] at hp
      subst hp
      exact G1 ad H locs cells slots ls ⟨hl, k1, k3, kw, hP, hD, hS, c1, c2, sp, hn0⟩
  next => cases ha
theorem ex_i_icmp_gt {off : Int} (F : ex_F mi p s m meth c args) (hd : decode (kC mi) pc = .ok (.if_icmp .gt off, 3)) (ha : ex_do X mi pc (.if_icmp .gt off) L st w = some (.inl (pc1, L1, st1, w1))) (G1 : ex_G p l e R s m args below meth c Q D cI cZ sa A mi mc ms n0 w9 pc1 L1 st1 w1) : ex_G p l e R s m args below meth c Q D cI cZ sa A mi mc ms n0 w9 pc L st w := by
  obtain ⟨hx, hb, hml, hr, hlk, hown, hts, hin⟩ := F
  simp only [ex_do, ex_cb] at ha
  split at ha
  next x y r =>
    obtain ⟨tgt, ht, hp, rfl, rfl, rfl⟩ := ex_br_s ha
    intro ad H locs cells slots ls M
    obtain ⟨hl, k1, k2, kw, hP, hD, hS, c1, c2, sp, hn0⟩ := M
    have k3 := (List.forall_mem_cons.mp (List.forall_mem_cons.mp k2).2).2
    refine lv_icmp_gt hx hb hd ht (fun h => ?_) (fun h => ?_)
    · rw [if_pos (decide_eq_true h)] at hp
      subst hp
      exact G1 ad H locs cells slots ls ⟨hl, k1, k3, kw, hP, hD, hS, c1, c2, sp, hn0⟩
    · rw [if_neg (fun z => h (of_decide_eq_true z))] at hp
      subst hp
      exact G1 ad H locs cells slots ls ⟨hl, k1, k3, kw, hP, hD, hS, c1, c2, sp, hn0⟩
  next => cases ha
theorem ex_i_icmp_le {off : Int} (F : ex_F mi p s m meth c args) (hd : decode (kC mi) pc = .ok (.if_icmp .le off, 3)) (ha : ex_do X mi pc (.if_icmp .le off) L st w = some (.inl (pc1, L1, st1, w1))) (G1 : ex_G p l e R s m args below meth c Q D cI cZ sa A mi mc ms n0 w9 pc1 L1 st1 w1) : ex_G p l e R s m args below meth c Q D cI cZ sa A mi mc ms n0 w9 pc L st w := by
  obtain ⟨hx, hb, hml, hr, hlk, hown, hts, hin⟩ := F
  simp only [ex_do, ex_cb] at ha
  split at ha
  next x y r =>
    obtain ⟨tgt, ht, hp, rfl, rfl, rfl⟩ := ex_br_s ha
    intro ad H locs cells slots ls M
    obtain ⟨hl, k1, k2, kw, hP, hD, hS, c1, c2, sp, hn0⟩ := M
    have k3 := (List.forall_mem_cons.mp (List.forall_mem_cons.mp k2).2).2
    refine lv_icmp_le hx hb hd ht (fun h => ?_) (fun h => ?_)
    · rw [if_pos (decide_eq_true h)] at hp
      subst hp
      exact G1 ad H locs cells slots ls ⟨hl, k1, k3, kw, hP, hD, hS, c1, c2, sp, hn0⟩
    · rw [if_neg (fun z => h (of_decide_eq_true z))] at hp
      subst hp
      exact G1 ad H locs cells slots ls ⟨hl, k1, k3, kw, hP, hD, hS, c1, c2, sp, hn0⟩
  next => cases ha
theorem ex_sw_s (x : Int32) : ∀ (offs : List Int) (lo d : Int), -2147483648 ≤ lo → lo + offs.length ≤ 2147483648 → ex_sw x offs lo d = if x.toInt < lo ∨ lo + offs.length ≤ x.toInt then d else offs.getD (x.toInt - lo).toNat d
  | [], lo, d, h1, h2 => by
    rw [ex_sw, if_pos]
    simp only [List.length_nil]
    omega
  | o :: t, lo, d, h1, h2 => by
    rw [ex_sw, ex_sw_s x t (lo + 1) d (by omega) (by simp only [List.length_cons] at h2; omega)]
    simp only [List.length_cons] at h2
    have ht : (Int32.ofInt lo).toInt = lo := by
      rw [Int32.toInt_ofInt, show Int32.size = 4294967296 from rfl]
      rw [Int.bmod_eq_of_le] <;> omega
    by_cases hx : x = Int32.ofInt lo
    · rw [if_pos hx]
      have hxt : x.toInt = lo := by rw [hx, ht]
      rw [if_neg (by simp only [List.length_cons]; omega), hxt]
      simp
    · rw [if_neg hx]
      have hne : x.toInt ≠ lo := fun z => hx (Int32.toInt_inj.mp (by rw [z, ht]))
      simp only [List.length_cons]
      by_cases hb : x.toInt < lo ∨ lo + (t.length + 1 : Nat) ≤ x.toInt
      · rw [if_pos hb, if_pos (by omega)]
      · rw [if_neg hb, if_neg (by omega)]
        have e : (x.toInt - lo).toNat = (x.toInt - (lo + 1)).toNat + 1 := by omega
        rw [e]
        rfl
theorem ex_i_tableswitch {d lo hi : Int} {offs : Array Int} {len : Nat} (F : ex_F mi p s m meth c args) (hd : decode (kC mi) pc = .ok (.tableswitch d lo hi offs, len)) (ha : ex_do X mi pc (.tableswitch d lo hi offs) L st w = some (.inl (pc1, L1, st1, w1))) (G1 : ex_G p l e R s m args below meth c Q D cI cZ sa A mi mc ms n0 w9 pc1 L1 st1 w1) : ex_G p l e R s m args below meth c Q D cI cZ sa A mi mc ms n0 w9 pc L st w := by
  obtain ⟨hx, hb, hml, hr, hlk, hown, hts, hin⟩ := F
  simp only [ex_do] at ha
  split at ha
  next x r =>
    split at ha
    next => cases ha
    next hk =>
      have h1 : -2147483648 ≤ lo := by omega
      have h2 : lo + offs.toList.length = hi + 1 := by omega
      have h3 : hi < 2147483648 := by omega
      obtain ⟨tgt, ht, rfl, rfl, rfl, rfl⟩ := ex_j_s ha
      rw [ex_sw_s x offs.toList lo d h1 (by omega)] at ht
      intro ad H locs cells slots ls M
      obtain ⟨hl, k1, k2, kw, hP, hD, hS, c1, c2, sp, hn0⟩ := M
      have k3 := (List.forall_mem_cons.mp k2).2
      have GG := G1 ad H locs cells slots ls ⟨hl, k1, k3, kw, hP, hD, hS, c1, c2, sp, hn0⟩
      by_cases hb2 : x.toInt < lo ∨ lo + offs.toList.length ≤ x.toInt
      · rw [if_pos hb2] at ht
        exact lv_tableOut hx hb hd (by omega) ht GG
      · rw [if_neg hb2] at ht
        have hlt : (x.toInt - lo).toNat < offs.toList.length := by omega
        refine lv_tableIn hx hb hd (by omega) (by omega) (off := offs.toList.getD (x.toInt - lo).toNat d) ?_ ht GG
        rw [List.getD_eq_getElem?_getD, ← Array.getElem?_toList, List.getElem?_eq_getElem hlt]
        rfl
  next => cases ha
theorem ex_ls_s (x : Int32) : ∀ (ps : List (Int × Int)) (d : Int), (∀ q ∈ ps, -2147483648 ≤ q.1 ∧ q.1 < 2147483648) → Op.lookupswitch.offset ps d x.toInt = ex_ls x ps d
  | [], d, _ => rfl
  | q :: t, d, h => by
    have hq := h q List.mem_cons_self
    have ht : (Int32.ofInt q.1).toInt = q.1 := by
      rw [Int32.toInt_ofInt, show Int32.size = 4294967296 from rfl]
      rw [Int.bmod_eq_of_le] <;> omega
    rw [ex_ls]
    by_cases hx : x = Int32.ofInt q.1
    · rw [if_pos hx, hx, ht]
      obtain ⟨a, o⟩ := q
      simp [Op.lookupswitch.offset]
    · rw [if_neg hx, ← ex_ls_s x t d (fun z hz => h z (List.mem_cons_of_mem _ hz))]
      obtain ⟨a, o⟩ := q
      exact lv_osw hx ht
theorem ex_i_lookupswitch {d : Int} {ps : Array (Int × Int)} {len : Nat} (F : ex_F mi p s m meth c args) (hd : decode (kC mi) pc = .ok (.lookupswitch d ps, len)) (ha : ex_do X mi pc (.lookupswitch d ps) L st w = some (.inl (pc1, L1, st1, w1))) (G1 : ex_G p l e R s m args below meth c Q D cI cZ sa A mi mc ms n0 w9 pc1 L1 st1 w1) : ex_G p l e R s m args below meth c Q D cI cZ sa A mi mc ms n0 w9 pc L st w := by
  obtain ⟨hx, hb, hml, hr, hlk, hown, hts, hin⟩ := F
  simp only [ex_do] at ha
  split at ha
  next x r =>
    split at ha
    next hk =>
      obtain ⟨hk1, hk2⟩ := (Bool.and_eq_true _ _).mp hk
      obtain ⟨tgt, ht, rfl, rfl, rfl, rfl⟩ := ex_j_s ha
      exact ex_top_s G1 (fun n h => (List.forall_mem_cons.mp h).2) fun ad H locs cells slots ls h => lv_lookup hx hb hd hk1 (ex_ls_s x ps.toList d (fun q hq => of_decide_eq_true (List.all_eq_true.mp hk2 q hq))) ht h
    next => cases ha
  next => cases ha
end EXT
end
section
theorem ex_o0 (j : Nat) : 1000 ≤ 1001 + j := by omega
theorem ex_o1 {h : Nat} (hs : 1001 ≤ h ∧ h < 1001 + nS) : h - 1001 < nS ∧ 1001 + (h - 1001) = h ∧ 2001 + (h - 1001) = h + 1000 ∧ 1000 ≤ h ∧ 1000 ≤ h + 1000 := by omega
theorem ex_o2 {a : Nat} (hs : 2001 ≤ a ∧ a < 2001 + nS) : a - 2001 < nS ∧ 2001 + (a - 2001) = a ∧ 1000 ≤ a := by omega
/-! fields, arrays, new cells, the pool's numbers and texts -/
section EXH
variable {p : Program} {l : Launch} {e : Env} {R : Room} {s : State} {m : MethodId} {args : Array Value} {below : List Frame} {meth : Method} {c : Code} {Q : State → Prop} {D : va_G} {cI cZ : ClassId} {sa : Nat → Nat} {A : Nat → Prop} {mi mc ms n0 : Nat} {w9 : ex_W} {pc : Nat} {L : ex_L} {st : List Value} {w : ex_W} {X : Option (List Int32)} {pc1 : Nat} {L1 : ex_L} {st1 : List Value} {w1 : ex_W}
theorem ex_i_ldc {idx : Nat} (F : ex_F mi p s m meth c args) (K : ex_K D cI cZ sa X A s) (hd : decode (kC mi) pc = .ok (.ldc idx, 2)) (ha : ex_do X mi pc (.ldc idx) L st w = some (.inl (pc1, L1, st1, w1))) (G1 : ex_G p l e R s m args below meth c Q D cI cZ sa A mi mc ms n0 w9 pc1 L1 st1 w1) : ex_G p l e R s m args below meth c Q D cI cZ sa A mi mc ms n0 w9 pc L st w := by
  obtain ⟨hx, hb, hml, hr, hlk, hown, hts, hin⟩ := F
  obtain ⟨hK, hNW, hSt, hSR, hZ, hZ2, hXs⟩ := K
  simp only [ex_do] at ha
  split at ha
  next v hv =>
    cases ha
    exact ex_top_s G1 (fun n h => List.forall_mem_cons.mpr ⟨trivial, h⟩) fun ad H locs cells slots ls h => lv_ldc hx hb hown (hts _ (kt_I hv)) hd h
  next =>
    split at ha
    next j hj =>
      cases ha
      obtain ⟨hjn, tx, hq⟩ := kt_S hj
      intro ad H locs cells slots ls M
      obtain ⟨hl, k1, k2, kw, hP, hD, hS, c1, c2, sp, hn0⟩ := M
      refine va_ldcS (tx := tx) hx hb hown (q := ad (1001 + j)) ?_ hd (G1 ad H locs cells slots ls ⟨hl, k1, List.forall_mem_cons.mpr ⟨Or.inr (ex_o0 j), k2⟩, kw, hP, hD, hS, c1, c2, sp, hn0⟩)
      rw [sp (1001 + j) (Or.inr (ex_o0 j))]
      have hh : vk_R (kOn (kO mi)) idx tx (sa (1001 + j)) s := hSR (kOn (kO mi), idx, tx, j) hq
      exact hh
    next => cases ha
theorem ex_i_ldc2 {idx : Nat} (F : ex_F mi p s m meth c args) (K : ex_K D cI cZ sa X A s) (hd : decode (kC mi) pc = .ok (.ldc2_w idx, 3)) (ha : ex_do X mi pc (.ldc2_w idx) L st w = some (.inl (pc1, L1, st1, w1))) (G1 : ex_G p l e R s m args below meth c Q D cI cZ sa A mi mc ms n0 w9 pc1 L1 st1 w1) : ex_G p l e R s m args below meth c Q D cI cZ sa A mi mc ms n0 w9 pc L st w := by
  obtain ⟨hx, hb, hml, hr, hlk, hown, hts, hin⟩ := F
  obtain ⟨hK, hNW, hSt, hSR, hZ, hZ2, hXs⟩ := K
  simp only [ex_do] at ha
  split at ha
  next v hv =>
    cases ha
    exact ex_top_s G1 (fun n h => List.forall_mem_cons.mpr ⟨trivial, h⟩) fun ad H locs cells slots ls h => lv_ldc2 hx hb hown (hts _ (kt_J hv)) hd h
  next => cases ha
theorem ex_i_getstatic {idx : Nat} (F : ex_F mi p s m meth c args) (K : ex_K D cI cZ sa X A s) (hd : decode (kC mi) pc = .ok (.getstatic idx, 3)) (ha : ex_do X mi pc (.getstatic idx) L st w = some (.inl (pc1, L1, st1, w1))) (G1 : ex_G p l e R s m args below meth c Q D cI cZ sa A mi mc ms n0 w9 pc1 L1 st1 w1) : ex_G p l e R s m args below meth c Q D cI cZ sa A mi mc ms n0 w9 pc L st w := by
  obtain ⟨hx, hb, hml, hr, hlk, hown, hts, hin⟩ := F
  obtain ⟨hK, hNW, hSt, hSR, hZ, hZ2, hXs⟩ := K
  simp only [ex_do] at ha
  split at ha
  next hz =>
    cases ha
    intro ad H locs cells slots ls M
    obtain ⟨hl, k1, k2, kw, hP, hD, hS, c1, c2, sp, hn0⟩ := M
    exact va_gets hx hb hZ hS hown (hts _ ((kt_Z hz).1 rfl)) (fun _ z => z) hd (G1 ad H locs cells slots ls ⟨hl, k1, List.forall_mem_cons.mpr ⟨trivial, k2⟩, kw, hP, hD, hS, c1, c2, sp, hn0⟩)
  next z hn hz =>
    cases ha
    intro ad H locs cells slots ls M
    obtain ⟨hl, k1, k2, kw, hP, hD, hS, c1, c2, sp, hn0⟩ := M
    have hz0 : ¬ z = 0 := fun q => hn (q ▸ rfl)
    refine va_gets hx hb hZ2 hS hown (hts _ ((kt_Z hz).2 hz0)) (fun _ z => z) hd ?_
    rw [← sp 3000 (Or.inr (by decide))]
    exact G1 ad H locs cells slots ls ⟨hl, k1, List.forall_mem_cons.mpr ⟨trivial, k2⟩, kw, hP, hD, hS, c1, c2, sp, hn0⟩
  next => cases ha
theorem ex_gf_s {h ci k : Nat} {v : Value} (hg : ex_gf w h ci k = some v) : ∃ fs, w[h]? = some (.inl (ci, fs)) ∧ fs[k]? = some v := by
  unfold ex_gf at hg
  split at hg
  next cj fs hw =>
    split at hg
    next hc =>
      subst hc
      exact ⟨fs, hw, hg⟩
    next => cases hg
  next => cases hg
theorem ex_pf_s {h ci k : Nat} {v : Value} {w2 : ex_W} (hg : ex_pf w h ci k v = some w2) : ∃ fs, w[h]? = some (.inl (ci, fs)) ∧ k < fs.length ∧ w2 = w.set h (.inl (ci, fs.set k v)) := by
  unfold ex_pf at hg
  split at hg
  next cj fs hw =>
    split at hg
    next hc =>
      obtain ⟨hc, hk⟩ := hc
      subst hc
      cases hg
      exact ⟨fs, hw, hk, rfl⟩
    next => cases hg
  next => cases hg
theorem ex_okf {h ci k : Nat} {v : Value} {fs : List Value} (kw : ex_okw w) (hw : w[h]? = some (.inl (ci, fs))) (hv : fs[k]? = some v) : ex_ok w.length v := kw _ (List.mem_of_getElem? hw) v (List.mem_of_getElem? hv)
theorem ex_i_getfield {idx : Nat} (F : ex_F mi p s m meth c args) (K : ex_K D cI cZ sa X A s) (hd : decode (kC mi) pc = .ok (.getfield idx, 3)) (ha : ex_do X mi pc (.getfield idx) L st w = some (.inl (pc1, L1, st1, w1))) (G1 : ex_G p l e R s m args below meth c Q D cI cZ sa A mi mc ms n0 w9 pc1 L1 st1 w1) : ex_G p l e R s m args below meth c Q D cI cZ sa A mi mc ms n0 w9 pc L st w := by
  obtain ⟨hx, hb, hml, hr, hlk, hown, hts, hin⟩ := F
  obtain ⟨hK, hNW, hSt, hSR, hZ, hZ2, hXs⟩ := K
  simp only [ex_do] at ha
  split at ha
  next h r =>
    split at ha
    next hlt =>
      split at ha
      next ci k nest hF =>
        split at ha
        next v hg =>
          cases ha
          obtain ⟨fs, hw, hv⟩ := ex_gf_s hg
          obtain ⟨C, T, N, hc, hk, h1, h2⟩ := kt_F hF
          have hC := kt_C hc
          intro ad H locs cells slots ls M
          obtain ⟨hl, k1, k2, kw, hP, hD, hS, c1, c2, sp, hn0⟩ := M
          have GG := G1 ad H locs cells slots ls ⟨hl, k1, List.forall_mem_cons.mpr ⟨ex_okf kw hw hv, (List.forall_mem_cons.mp k2).2⟩, kw, hP, hD, hS, c1, c2, sp, hn0⟩
          have he := ex_m_get (cI := cI) (cZ := cZ) (ad := ad) hw
          have hv1 : (fs.map (ex_v ad))[k]? = some (ex_v ad v) := by rw [List.getElem?_map, hv]; rfl
          cases nest with
          | false => exact va_get hx hb hts hC.1 hown hK hP h he hc k hk (hts _ (h1 rfl)) (fun _ z => z) hv1 hd GG
          | true =>
            obtain ⟨host, hh⟩ := h2 rfl
            exact va_getN hx hb hts hC.1 hown hK hP h he hc k hk (va_Nw.use rfl (hNW _ hh)) (fun _ z => z) hv1 hd GG
        next => cases ha
      next => cases ha
    next hlt =>
      split at ha
      next hs =>
        split at ha
        next hG =>
          cases ha
          intro ad H locs cells slots ls M
          obtain ⟨hl, k1, k2, kw, hP, hD, hS, c1, c2, sp, hn0⟩ := M
          obtain ⟨hj, e1, e2, o1, o2⟩ := ex_o1 hs
          have q1 : ad h = sa (1001 + (h - 1001)) := by rw [e1]; exact sp h (Or.inr o1)
          have q2 : ad (h + 1000) = sa (2001 + (h - 1001)) := by rw [e2]; exact sp (h + 1000) (Or.inr o2)
          have GG := G1 ad H locs cells slots ls ⟨hl, k1, List.forall_mem_cons.mpr ⟨Or.inr o2, (List.forall_mem_cons.mp k2).2⟩, kw, hP, hD, hS, c1, c2, sp, hn0⟩
          have hE := (hSt (h - 1001) hj).2.2.1
          rw [← q1, ← q2] at hE
          exact vk_getf hx hb hE hS hown (hts _ ((kt_G hG).1 rfl)) (fun _ z => z) hd GG
        next hG =>
          cases ha
          intro ad H locs cells slots ls M
          obtain ⟨hl, k1, k2, kw, hP, hD, hS, c1, c2, sp, hn0⟩ := M
          obtain ⟨hj, e1, e2, o1, o2⟩ := ex_o1 hs
          have q1 : ad h = sa (1001 + (h - 1001)) := by rw [e1]; exact sp h (Or.inr o1)
          have GG := G1 ad H locs cells slots ls ⟨hl, k1, List.forall_mem_cons.mpr ⟨trivial, (List.forall_mem_cons.mp k2).2⟩, kw, hP, hD, hS, c1, c2, sp, hn0⟩
          have hE := (hSt (h - 1001) hj).2.1
          rw [← q1] at hE
          exact vk_getf hx hb hE hS hown (hts _ ((kt_G hG).2 rfl)) (fun _ z => z) hd GG
        next => cases ha
      next => cases ha
  next => cases ha
theorem ex_nar {ad : Nat → Nat} {ty : FieldType} {v : Value} (h : narrow ty v = v) : narrow ty (ex_v ad v) = ex_v ad v := by
  cases v with
  | ref a => cases ty <;> rfl
  | retAddr a =>
    show narrow ty (ex_fm (ad 3000)) = ex_fm (ad 3000)
    cases (ad 3000) <;> cases ty <;> rfl
  | _ => exact h
theorem ex_fit {ad : Nat → Nat} {ty : FieldType} {v : Value} (h : fits ty v = true) : fits ty (ex_v ad v) = true := by
  cases v with
  | ref a => cases ty <;> first | exact h | rfl
  | retAddr a => cases ty <;> cases h
  | _ => exact h
theorem ex_i_putfield {idx : Nat} (F : ex_F mi p s m meth c args) (K : ex_K D cI cZ sa X A s) (hd : decode (kC mi) pc = .ok (.putfield idx, 3)) (ha : ex_do X mi pc (.putfield idx) L st w = some (.inl (pc1, L1, st1, w1))) (G1 : ex_G p l e R s m args below meth c Q D cI cZ sa A mi mc ms n0 w9 pc1 L1 st1 w1) : ex_G p l e R s m args below meth c Q D cI cZ sa A mi mc ms n0 w9 pc L st w := by
  obtain ⟨hx, hb, hml, hr, hlk, hown, hts, hin⟩ := F
  obtain ⟨hK, hNW, hSt, hSR, hZ, hZ2, hXs⟩ := K
  simp only [ex_do] at ha
  split at ha
  next v h r =>
    split at ha
    next hlt =>
      split at ha
      next ci k nest hF =>
        split at ha
        next hcond =>
          obtain ⟨hna, hfi, hfin⟩ := hcond
          split at ha
          next w2 hg =>
            cases ha
            obtain ⟨fs, hw, hkl, rfl⟩ := ex_pf_s hg
            obtain ⟨C, T, N, hc, hk, h1, h2⟩ := kt_F hF
            obtain ⟨hws, hty, hnm, hq, -⟩ := kt_C hc
            intro ad H locs cells slots ls M
            obtain ⟨hl, k1, k2, kw, hP, hD, hS, c1, c2, sp, hn0⟩ := M
            obtain ⟨kv, k3⟩ := List.forall_mem_cons.mp k2
            have k4 := (List.forall_mem_cons.mp k3).2
            have he := ex_m_get (cI := cI) (cZ := cZ) (ad := ad) hw
            have hkl1 : k < (fs.map (ex_v ad)).length := by rw [List.length_map]; exact hkl
            have es : (ex_m cI cZ ad w).set h (ad h, Sum.inr (ci, (fs.map (ex_v ad)).set k (ex_v ad v))) = ex_m cI cZ ad (w.set h (.inl (ci, fs.set k v))) := by
              rw [← ex_m_set]
              show _ = (ex_m cI cZ ad w).set h (ad h, Sum.inr (ci, (fs.set k v).map (ex_v ad)))
              rw [List.map_set]
            have ho : ex_okw (w.set h (.inl (ci, fs.set k v))) := ex_okw_set kw (fun u hu => by
              rcases List.mem_or_eq_of_mem_set hu with z | z
              · exact kw _ (List.mem_of_getElem? hw) u z
              · rw [z]; exact kv)
            have hz : ex_sl (w.set h (.inl (ci, fs.set k v))) = ex_sl w := ex_sl_set hw (by simp [ex_sz])
            have GG : ∀ (H1 : Heap) (locs1 : List Loc), va_P D kCl ((ex_m cI cZ ad w).set h (ad h, Sum.inr (ci, (fs.map (ex_v ad)).set k (ex_v ad v)))) H1 → va_D A ((ex_m cI cZ ad w).set h (ad h, Sum.inr (ci, (fs.map (ex_v ad)).set k (ex_v ad v)))) → va_S A s.heap H1 locs1 → W p l e R s m args below meth c H1 locs1 cells slots Q (F0 m (pc + 3) ls (st1.map (ex_v ad))) := by
              intro H1 locs1 hP1 hD1 hS1
              rw [es] at hP1 hD1
              refine G1 ad H1 locs1 cells slots ls ⟨hl, ?_, ?_, ho, hP1, hD1, hS1, ?_, ?_, sp, by rw [List.length_set]; exact hn0⟩
              · rw [List.length_set]; exact k1
              · rw [List.length_set]; exact k4
              · rw [List.length_set]; exact c1
              · rw [hz]; exact c2
            cases hqf : kQ ci k with
            | false =>
              have hT : (T k).2.2.2 = false := (hq k hk).1.trans hqf
              cases nest with
              | false => exact va_put hx hb hts hws (kT ci) hty hnm hown hK hP hD hS h he hc k hk (hts _ (h1 rfl)) (fun _ z => z) hT (hty k hk) (ex_nar hna) (ex_fit hfi) hkl1 hd GG
              | true =>
                obtain ⟨host, hh⟩ := h2 rfl
                exact va_putN hx hb hts hws (kT ci) hty hnm hown hK hP hD hS h he hc k hk (va_Nw.use rfl (hNW _ hh)) (fun _ z => z) hT (hty k hk) (ex_nar hna) (ex_fit hfi) hkl1 hd GG
            | true =>
              obtain ⟨f1, f2, f3⟩ := hfin hqf
              have hT : (T k).2.2.2 = true := (hq k hk).1.trans hqf
              have hdecl : (T k).1 = kOn (kO mi) := by rw [(hq k hk).2, f3]
              exact va_putF hx hb hts hws (kT ci) hty hnm hown hK hP hD hS h he hc k hk (hts _ (h1 f2)) (fun _ z => z) hT (hin f1) hdecl (hty k hk) (ex_nar hna) (ex_fit hfi) hkl1 hd GG
          next => cases ha
        next => cases ha
      next => cases ha
    next => cases ha
  next => cases ha
theorem ex_up_ext {q : Nat} {ad : Nat → Nat} (hlt : w.length < 1000) : ex_ext w.length ad (va_up ad w.length q) := by
  intro k hk
  unfold va_up
  rw [if_neg (by omega)]
theorem ex_sp_up {q n : Nat} {ad : Nat → Nat} (hlt : n < 1000) (hn : n0 ≤ n) (sp : ex_sp n0 sa ad) : ex_sp n0 sa (va_up ad n q) := by
  intro k hk
  unfold va_up
  rw [if_neg (by omega)]
  exact sp k hk
theorem ex_i_new {idx : Nat} (F : ex_F mi p s m meth c args) (K : ex_K D cI cZ sa X A s) (hA : ∀ q, s.heap.size ≤ q → A q) (hmc : mc ≤ R.cells) (hms : ms ≤ R.slots) (hle : w1.length ≤ w9.length ∧ ex_sl w1 ≤ ex_sl w9) (hd : decode (kC mi) pc = .ok (.new idx, 3)) (ha : ex_do X mi pc (.new idx) L st w = some (.inl (pc1, L1, st1, w1))) (G1 : ex_G p l e R s m args below meth c Q D cI cZ sa A mi mc ms n0 w9 pc1 L1 st1 w1) : ex_G p l e R s m args below meth c Q D cI cZ sa A mi mc ms n0 w9 pc L st w := by
  obtain ⟨hx, hb, hml, hr, hlk, hown, hts, hin⟩ := F
  obtain ⟨hK, hNW, hSt, hSR, hZ, hZ2, hXs⟩ := K
  simp only [ex_do] at ha
  split at ha
  next ci hN =>
    split at ha
    next hlt =>
      cases ha
      obtain ⟨C, T, N, hc, h1, h2, h3⟩ := kt_N hN
      obtain ⟨hws, hty, hnm, hq, hB, hdv, hBo⟩ := kt_C hc
      intro ad H locs cells slots ls M
      obtain ⟨hl, k1, k2, kw, hP, hD, hS, c1, c2, sp, hn0⟩ := M
      have hs1 : ex_sl (w ++ [Sum.inl (ci, kB ci)]) = ex_sl w + N := by rw [ex_sl_push]; show _ + (kB ci).length = _; rw [hB]
      rw [hs1, List.length_append] at hle
      simp only [List.length_singleton] at hle
      refine va_new (fs := kB ci) hx hb hts hws (kT ci) hty hown (hts _ h1) (hts _ h2) (hts _ h3) hK hP hD hS hA hc hdv (by omega) (by omega) hd fun q H1 hP1 hD1 hS1 => ?_
      have hext : ex_ext w.length ad (va_up ad w.length q) := ex_up_ext hlt
      have e0 : va_up ad w.length q w.length = q := by unfold va_up; rw [if_pos rfl]
      have ec : ∀ a2 : Nat → Nat, ex_c cI cZ a2 (.inl (ci, kB ci)) = Sum.inr (ci, kB ci) := by
        intro a2
        show Sum.inr (ci, (kB ci).map (ex_v a2)) = _
        rw [List.map_congr_left (fun v hv => (hBo v hv).2 a2), List.map_id']
      have em := ex_m_push (cI := cI) (cZ := cZ) (c := .inl (ci, kB ci)) hext kw ((ec _).trans (ec _).symm)
      rw [e0, ec] at em
      rw [em] at hP1 hD1
      have GG := G1 (va_up ad w.length q) H1 locs (cells + 1) (slots + N) ls ⟨by rw [ex_mapq_ext hext k1]; exact hl, ?_, ?_, ex_okw_push kw (fun v hv => ex_ok_mono (Nat.zero_le _) (hBo v hv).1), hP1, hD1, hS1, ?_, ?_, ex_sp_up hlt hn0 sp, by rw [List.length_append]; omega⟩
      · have eg : (Value.ref w.length :: st).map (ex_v (va_up ad w.length q)) = .ref q :: st.map (ex_v ad) := by
          rw [List.map_cons, ex_map_ext hext k2]
          show Value.ref (va_up ad w.length q w.length) :: _ = _
          rw [e0]
        rw [eg] at GG
        exact GG
      · intro x hx2
        rw [List.length_append]
        exact ex_ok_mono (by omega) (k1 x hx2)
      · intro v hv
        rw [List.length_append]
        rcases List.mem_cons.mp hv with rfl | z
        · exact Or.inl (by simp)
        · exact ex_ok_mono (by omega) (k2 v z)
      · rw [List.length_append]; simp only [List.length_singleton]; omega
      · rw [hs1]; omega
    next => cases ha
  next => cases ha
theorem ex_i_newarrI (F : ex_F mi p s m meth c args) (K : ex_K D cI cZ sa X A s) (hA : ∀ q, s.heap.size ≤ q → A q) (hmc : mc ≤ R.cells) (hms : ms ≤ R.slots) (hle : w1.length ≤ w9.length ∧ ex_sl w1 ≤ ex_sl w9) (hd : decode (kC mi) pc = .ok (.newarray .int, 2)) (ha : ex_do X mi pc (.newarray .int) L st w = some (.inl (pc1, L1, st1, w1))) (G1 : ex_G p l e R s m args below meth c Q D cI cZ sa A mi mc ms n0 w9 pc1 L1 st1 w1) : ex_G p l e R s m args below meth c Q D cI cZ sa A mi mc ms n0 w9 pc L st w := by
  obtain ⟨hx, hb, hml, hr, hlk, hown, hts, hin⟩ := F
  obtain ⟨hK, hNW, hSt, hSR, hZ, hZ2, hXs⟩ := K
  simp only [ex_do] at ha
  split at ha
  next n r =>
    split at ha
    next hcond =>
      obtain ⟨hn, hbig, hlt⟩ := hcond
      cases ha
      intro ad H locs cells slots ls M
      obtain ⟨hl, k1, k2, kw, hP, hD, hS, c1, c2, sp, hn0⟩ := M
      have hs1 : ex_sl (w ++ [Sum.inr (0, List.replicate n.toNatClampNeg (0 : Int32))]) = ex_sl w + n.toNatClampNeg := by rw [ex_sl_push]; show _ + (List.replicate n.toNatClampNeg (0 : Int32)).length = _; rw [List.length_replicate]
      rw [hs1, List.length_append] at hle
      simp only [List.length_singleton] at hle
      have k4 := (List.forall_mem_cons.mp k2).2
      have hc8 : componentBytes .int ≤ 8 := by decide
      have hcb : n.toNatClampNeg * componentBytes .int ≤ 536870912 := Nat.le_trans (Nat.mul_le_mul hbig hc8) (by decide)
      refine va_newa (a0 := (n.toNatClampNeg, .inl (fun j => (List.replicate n.toNatClampNeg (0 : Int32)).getD j 0))) hx hb (hts _ kt_A0) rfl hK hP hD hS hA ?_ hn rfl hcb (by omega) (by omega) hd fun q cA H1 hK1 hP1 hD1 hS1 => ?_
      · intro cA
        unfold vp_cell
        refine congrArg (fun f => arrV cA n.toNatClampNeg f) (funext fun j => ?_)
        have : (List.replicate n.toNatClampNeg (0 : Int32)).getD j 0 = 0 := by
          rw [List.getD_eq_getElem?_getD, List.getElem?_replicate]
          split <;> rfl
        exact (congrArg Value.int this).trans rfl
      have hcA : cA = cI := by
        have z1 := (hK1.2 2 (cA, .int) rfl).2
        have z2 := (hK.2 0 (cI, .int) rfl).2
        exact Option.some.inj (z1.symm.trans z2)
      subst hcA
      have hext : ex_ext w.length ad (va_up ad w.length q) := ex_up_ext hlt
      have e0 : va_up ad w.length q w.length = q := by unfold va_up; rw [if_pos rfl]
      have em := ex_m_push (cI := cA) (cZ := cZ) (ad := ad) (c := .inr (0, List.replicate n.toNatClampNeg (0 : Int32))) hext kw rfl
      rw [e0] at em
      have ec : ex_c cA cZ ad (.inr (0, List.replicate n.toNatClampNeg (0 : Int32))) = Sum.inl (cA, n.toNatClampNeg, .inl (fun j => (List.replicate n.toNatClampNeg (0 : Int32)).getD j 0)) := by
        unfold ex_c
        simp
      rw [ec] at em
      rw [em] at hP1 hD1
      have GG := G1 (va_up ad w.length q) H1 locs (cells + 1) (slots + n.toNatClampNeg) ls ⟨by rw [ex_mapq_ext hext k1]; exact hl, ?_, ?_, ex_okw_push kw trivial, hP1, hD1, hS1, ?_, ?_, ex_sp_up hlt hn0 sp, by rw [List.length_append]; omega⟩
      · have eg : (Value.ref w.length :: r).map (ex_v (va_up ad w.length q)) = .ref q :: r.map (ex_v ad) := by
          rw [List.map_cons, ex_map_ext hext k4]
          show Value.ref (va_up ad w.length q w.length) :: _ = _
          rw [e0]
        rw [eg] at GG
        exact GG
      · intro x hx2
        rw [List.length_append]
        exact ex_ok_mono (by omega) (k1 x hx2)
      · intro v hv
        rw [List.length_append]
        rcases List.mem_cons.mp hv with rfl | z
        · exact Or.inl (by simp)
        · exact ex_ok_mono (by omega) (k4 v z)
      · rw [List.length_append]; simp only [List.length_singleton]; omega
      · rw [hs1]; omega
    next => cases ha
  next => cases ha
theorem ex_i_newarrZ (F : ex_F mi p s m meth c args) (K : ex_K D cI cZ sa X A s) (hA : ∀ q, s.heap.size ≤ q → A q) (hmc : mc ≤ R.cells) (hms : ms ≤ R.slots) (hle : w1.length ≤ w9.length ∧ ex_sl w1 ≤ ex_sl w9) (hd : decode (kC mi) pc = .ok (.newarray .boolean, 2)) (ha : ex_do X mi pc (.newarray .boolean) L st w = some (.inl (pc1, L1, st1, w1))) (G1 : ex_G p l e R s m args below meth c Q D cI cZ sa A mi mc ms n0 w9 pc1 L1 st1 w1) : ex_G p l e R s m args below meth c Q D cI cZ sa A mi mc ms n0 w9 pc L st w := by
  obtain ⟨hx, hb, hml, hr, hlk, hown, hts, hin⟩ := F
  obtain ⟨hK, hNW, hSt, hSR, hZ, hZ2, hXs⟩ := K
  simp only [ex_do] at ha
  split at ha
  next n r =>
    split at ha
    next hcond =>
      obtain ⟨hn, hbig, hlt⟩ := hcond
      cases ha
      intro ad H locs cells slots ls M
      obtain ⟨hl, k1, k2, kw, hP, hD, hS, c1, c2, sp, hn0⟩ := M
      have hs1 : ex_sl (w ++ [Sum.inr (1, List.replicate n.toNatClampNeg (0 : Int32))]) = ex_sl w + n.toNatClampNeg := by rw [ex_sl_push]; show _ + (List.replicate n.toNatClampNeg (0 : Int32)).length = _; rw [List.length_replicate]
      rw [hs1, List.length_append] at hle
      simp only [List.length_singleton] at hle
      have k4 := (List.forall_mem_cons.mp k2).2
      have hc8 : componentBytes .boolean ≤ 8 := by decide
      have hcb : n.toNatClampNeg * componentBytes .boolean ≤ 536870912 := Nat.le_trans (Nat.mul_le_mul hbig hc8) (by decide)
      refine va_newa (a0 := (n.toNatClampNeg, .inl (fun j => (List.replicate n.toNatClampNeg (0 : Int32)).getD j 0))) hx hb (hts _ kt_A1) rfl hK hP hD hS hA ?_ hn rfl hcb (by omega) (by omega) hd fun q cA H1 hK1 hP1 hD1 hS1 => ?_
      · intro cA
        unfold vp_cell
        refine congrArg (fun f => arrV cA n.toNatClampNeg f) (funext fun j => ?_)
        have : (List.replicate n.toNatClampNeg (0 : Int32)).getD j 0 = 0 := by
          rw [List.getD_eq_getElem?_getD, List.getElem?_replicate]
          split <;> rfl
        exact (congrArg Value.int this).trans rfl
      have hcA : cA = cZ := by
        have z1 := (hK1.2 2 (cA, .boolean) rfl).2
        have z2 := (hK.2 1 (cZ, .boolean) rfl).2
        exact Option.some.inj (z1.symm.trans z2)
      subst hcA
      have hext : ex_ext w.length ad (va_up ad w.length q) := ex_up_ext hlt
      have e0 : va_up ad w.length q w.length = q := by unfold va_up; rw [if_pos rfl]
      have em := ex_m_push (cI := cI) (cZ := cA) (ad := ad) (c := .inr (1, List.replicate n.toNatClampNeg (0 : Int32))) hext kw rfl
      rw [e0] at em
      have ec : ex_c cI cA ad (.inr (1, List.replicate n.toNatClampNeg (0 : Int32))) = Sum.inl (cA, n.toNatClampNeg, .inl (fun j => (List.replicate n.toNatClampNeg (0 : Int32)).getD j 0)) := by
        unfold ex_c
        simp
      rw [ec] at em
      rw [em] at hP1 hD1
      have GG := G1 (va_up ad w.length q) H1 locs (cells + 1) (slots + n.toNatClampNeg) ls ⟨by rw [ex_mapq_ext hext k1]; exact hl, ?_, ?_, ex_okw_push kw trivial, hP1, hD1, hS1, ?_, ?_, ex_sp_up hlt hn0 sp, by rw [List.length_append]; omega⟩
      · have eg : (Value.ref w.length :: r).map (ex_v (va_up ad w.length q)) = .ref q :: r.map (ex_v ad) := by
          rw [List.map_cons, ex_map_ext hext k4]
          show Value.ref (va_up ad w.length q w.length) :: _ = _
          rw [e0]
        rw [eg] at GG
        exact GG
      · intro x hx2
        rw [List.length_append]
        exact ex_ok_mono (by omega) (k1 x hx2)
      · intro v hv
        rw [List.length_append]
        rcases List.mem_cons.mp hv with rfl | z
        · exact Or.inl (by simp)
        · exact ex_ok_mono (by omega) (k4 v z)
      · rw [List.length_append]; simp only [List.length_singleton]; omega
      · rw [hs1]; omega
    next => cases ha
  next => cases ha
theorem ex_al_s {a kd : Nat} {i v : Int32} (hg : ex_al w a kd i = some v) : ∃ xs, w[a]? = some (.inr (kd, xs)) ∧ ¬ i < 0 ∧ xs[i.toNatClampNeg]? = some v := by
  unfold ex_al at hg
  split at hg
  next kj xs hw =>
    split at hg
    next hc =>
      obtain ⟨hc, hi⟩ := hc
      subst hc
      exact ⟨xs, hw, hi, hg⟩
    next => cases hg
  next => cases hg
theorem ex_as_s {a kd : Nat} {i x : Int32} {w2 : ex_W} (hg : ex_as w a kd i x = some w2) : ∃ xs, w[a]? = some (.inr (kd, xs)) ∧ ¬ i < 0 ∧ i.toNatClampNeg < xs.length ∧ w2 = w.set a (.inr (kd, xs.set i.toNatClampNeg x)) := by
  unfold ex_as at hg
  split at hg
  next kj xs hw =>
    split at hg
    next hc =>
      obtain ⟨hc, hi, hl⟩ := hc
      subst hc
      cases hg
      exact ⟨xs, hw, hi, hl, rfl⟩
    next => cases hg
  next => cases hg
theorem ex_an_s {a : Nat} {v : Int32} (hg : ex_an w a = some v) : ∃ kd xs, w[a]? = some (.inr (kd, xs)) ∧ v = Int32.ofNat xs.length := by
  unfold ex_an at hg
  split at hg
  next kj xs hw =>
    cases hg
    exact ⟨kj, xs, hw, rfl⟩
  next => cases hg
theorem ex_in {i : Int32} {n : Nat} (h1 : ¬ i < 0) (h2 : i.toNatClampNeg < n) : vp_in i n := fun z => by
  rcases z with z | z
  · exact h1 z
  · omega
theorem ex_getD {xs : List Int32} {k : Nat} {v : Int32} (h : xs[k]? = some v) : xs.getD k 0 = v ∧ k < xs.length := ⟨by rw [List.getD_eq_getElem?_getD, h]; rfl, (List.getElem?_eq_some_iff.mp h).1⟩
theorem ex_i_arraylength (F : ex_F mi p s m meth c args) (K : ex_K D cI cZ sa X A s) (hd : decode (kC mi) pc = .ok (.arraylength, 1)) (ha : ex_do X mi pc (.arraylength) L st w = some (.inl (pc1, L1, st1, w1))) (G1 : ex_G p l e R s m args below meth c Q D cI cZ sa A mi mc ms n0 w9 pc1 L1 st1 w1) : ex_G p l e R s m args below meth c Q D cI cZ sa A mi mc ms n0 w9 pc L st w := by
  obtain ⟨hx, hb, hml, hr, hlk, hown, hts, hin⟩ := F
  obtain ⟨hK, hNW, hSt, hSR, hZ, hZ2, hXs⟩ := K
  simp only [ex_do] at ha
  split at ha
  next a r =>
    split at ha
    next hlt =>
      split at ha
      next v hg =>
        cases ha
        obtain ⟨kd, xs, hw, rfl⟩ := ex_an_s hg
        intro ad H locs cells slots ls M
        obtain ⟨hl, k1, k2, kw, hP, hD, hS, c1, c2, sp, hn0⟩ := M
        have GG := G1 ad H locs cells slots ls ⟨hl, k1, List.forall_mem_cons.mpr ⟨trivial, (List.forall_mem_cons.mp k2).2⟩, kw, hP, hD, hS, c1, c2, sp, hn0⟩
        have he := ex_m_get (cI := cI) (cZ := cZ) (ad := ad) hw
        unfold ex_c at he
        by_cases hk : kd = 0
        · simp only [hk, if_true] at he
          exact va_alen hx hb hK hP a 0 he (ty := .int) rfl rfl hd GG
        · simp only [hk, if_false] at he
          exact va_alen hx hb hK hP a 1 he (ty := .boolean) rfl rfl hd GG
      next => cases ha
    next hlt =>
      split at ha
      next ha2 =>
        split at ha
        next xs =>
          cases ha
          subst ha2
          intro ad H locs cells slots ls M
          obtain ⟨hl, k1, k2, kw, hP, hD, hS, c1, c2, sp, hn0⟩ := M
          have GG := G1 ad H locs cells slots ls ⟨hl, k1, List.forall_mem_cons.mpr ⟨trivial, (List.forall_mem_cons.mp k2).2⟩, kw, hP, hD, hS, c1, c2, sp, hn0⟩
          obtain ⟨hX, hbl, hbA⟩ := hXs xs rfl
          show W p l e R s m args below meth c H locs cells slots Q (F0 m pc ls (.ref (ad 1000) :: r.map (ex_v ad)))
          rw [sp 1000 (Or.inr (by decide))]
          exact va_slen hx hb hX hbl hbA hS hd GG
        next => cases ha
      next =>
        split at ha
        next hs =>
          cases ha
          intro ad H locs cells slots ls M
          obtain ⟨hl, k1, k2, kw, hP, hD, hS, c1, c2, sp, hn0⟩ := M
          have GG := G1 ad H locs cells slots ls ⟨hl, k1, List.forall_mem_cons.mpr ⟨trivial, (List.forall_mem_cons.mp k2).2⟩, kw, hP, hD, hS, c1, c2, sp, hn0⟩
          obtain ⟨hj, e2, o1⟩ := ex_o2 hs
          have q1 : ad a = sa (2001 + (a - 2001)) := by rw [e2]; exact sp a (Or.inr o1)
          have hT := (hSt (a - 2001) hj).2.2.2
          rw [← q1] at hT
          exact va_tlen hx hb hT hS rfl hd GG
        next => cases ha
  next => cases ha
theorem ex_i_iaload (F : ex_F mi p s m meth c args) (K : ex_K D cI cZ sa X A s) (hd : decode (kC mi) pc = .ok (.iaload, 1)) (ha : ex_do X mi pc (.iaload) L st w = some (.inl (pc1, L1, st1, w1))) (G1 : ex_G p l e R s m args below meth c Q D cI cZ sa A mi mc ms n0 w9 pc1 L1 st1 w1) : ex_G p l e R s m args below meth c Q D cI cZ sa A mi mc ms n0 w9 pc L st w := by
  obtain ⟨hx, hb, hml, hr, hlk, hown, hts, hin⟩ := F
  obtain ⟨hK, hNW, hSt, hSR, hZ, hZ2, hXs⟩ := K
  simp only [ex_do] at ha
  split at ha
  next i a r =>
    split at ha
    next hlt =>
      split at ha
      next v hg =>
        cases ha
        obtain ⟨xs, hw, hi, hv⟩ := ex_al_s hg
        intro ad H locs cells slots ls M
        obtain ⟨hl, k1, k2, kw, hP, hD, hS, c1, c2, sp, hn0⟩ := M
        have GG := G1 ad H locs cells slots ls ⟨hl, k1, List.forall_mem_cons.mpr ⟨trivial, (List.forall_mem_cons.mp (List.forall_mem_cons.mp k2).2).2⟩, kw, hP, hD, hS, c1, c2, sp, hn0⟩
        have he := ex_m_get (cI := cI) (cZ := cZ) (ad := ad) hw
        have e1 := ex_getD hv
        refine va_iald (f := fun j => xs.getD j 0) hx hb hK hP a 0 he rfl (ex_in hi e1.2) hd ?_
        show W p l e R s m args below meth c H locs cells slots Q (F0 m (pc + 1) ls (.int (xs.getD i.toNatClampNeg 0) :: r.map (ex_v ad)))
        rw [e1.1]
        exact GG
      next => cases ha
    next hlt =>
      split at ha
      next ha2 =>
        obtain ⟨ha2, hi⟩ := ha2
        split at ha
        next xs =>
          split at ha
          next v hv =>
            cases ha
            subst ha2
            intro ad H locs cells slots ls M
            obtain ⟨hl, k1, k2, kw, hP, hD, hS, c1, c2, sp, hn0⟩ := M
            have GG := G1 ad H locs cells slots ls ⟨hl, k1, List.forall_mem_cons.mpr ⟨trivial, (List.forall_mem_cons.mp (List.forall_mem_cons.mp k2).2).2⟩, kw, hP, hD, hS, c1, c2, sp, hn0⟩
            obtain ⟨hX, hbl, hbA⟩ := hXs xs rfl
            have e1 := ex_getD hv
            show W p l e R s m args below meth c H locs cells slots Q (F0 m pc ls (.int i :: .ref (ad 1000) :: r.map (ex_v ad)))
            rw [sp 1000 (Or.inr (by decide))]
            refine va_sld hx hb hX hbl hbA hS (ex_in hi e1.2) hd ?_
            rw [e1.1]
            exact GG
          next => cases ha
        next => cases ha
      next => cases ha
  next => cases ha
theorem ex_i_baload (F : ex_F mi p s m meth c args) (K : ex_K D cI cZ sa X A s) (hd : decode (kC mi) pc = .ok (.baload, 1)) (ha : ex_do X mi pc (.baload) L st w = some (.inl (pc1, L1, st1, w1))) (G1 : ex_G p l e R s m args below meth c Q D cI cZ sa A mi mc ms n0 w9 pc1 L1 st1 w1) : ex_G p l e R s m args below meth c Q D cI cZ sa A mi mc ms n0 w9 pc L st w := by
  obtain ⟨hx, hb, hml, hr, hlk, hown, hts, hin⟩ := F
  obtain ⟨hK, hNW, hSt, hSR, hZ, hZ2, hXs⟩ := K
  simp only [ex_do] at ha
  split at ha
  next i a r =>
    split at ha
    next hlt =>
      split at ha
      next v hg =>
        cases ha
        obtain ⟨xs, hw, hi, hv⟩ := ex_al_s hg
        intro ad H locs cells slots ls M
        obtain ⟨hl, k1, k2, kw, hP, hD, hS, c1, c2, sp, hn0⟩ := M
        have GG := G1 ad H locs cells slots ls ⟨hl, k1, List.forall_mem_cons.mpr ⟨trivial, (List.forall_mem_cons.mp (List.forall_mem_cons.mp k2).2).2⟩, kw, hP, hD, hS, c1, c2, sp, hn0⟩
        have he := ex_m_get (cI := cI) (cZ := cZ) (ad := ad) hw
        have e1 := ex_getD hv
        refine va_zald (f := fun j => xs.getD j 0) hx hb hK hP a 1 he rfl (ex_in hi e1.2) hd ?_
        show W p l e R s m args below meth c H locs cells slots Q (F0 m (pc + 1) ls (.int (xs.getD i.toNatClampNeg 0) :: r.map (ex_v ad)))
        rw [e1.1]
        exact GG
      next => cases ha
    next hlt =>
      split at ha
      next hs =>
        obtain ⟨hs1, hs2, hi⟩ := hs
        split at ha
        next v hv =>
          cases ha
          intro ad H locs cells slots ls M
          obtain ⟨hl, k1, k2, kw, hP, hD, hS, c1, c2, sp, hn0⟩ := M
          have GG := G1 ad H locs cells slots ls ⟨hl, k1, List.forall_mem_cons.mpr ⟨trivial, (List.forall_mem_cons.mp (List.forall_mem_cons.mp k2).2).2⟩, kw, hP, hD, hS, c1, c2, sp, hn0⟩
          obtain ⟨hj, e2, o1⟩ := ex_o2 ⟨hs1, hs2⟩
          have q1 : ad a = sa (2001 + (a - 2001)) := by rw [e2]; exact sp a (Or.inr o1)
          have hT := (hSt (a - 2001) hj).2.2.2
          rw [← q1] at hT
          have e1 := ex_getD hv
          exact va_tb hx hb hT hS (ex_in hi e1.2) (v := .int v) (congrArg Value.int e1.1) hd GG
        next => cases ha
      next => cases ha
  next => cases ha
theorem ex_upd {xs : List Int32} {k : Nat} {x : Int32} (hk : k < xs.length) : (fun j => (xs.set k x).getD j 0) = upd (fun j => xs.getD j 0) k x := by
  funext j
  unfold upd
  simp only [List.getD_eq_getElem?_getD, List.getElem?_set]
  by_cases hj : j = k
  · subst hj
    rw [if_pos rfl, if_pos hk, if_pos rfl]
    rfl
  · rw [if_neg (fun z => hj z.symm), if_neg hj]
theorem ex_as_w {a kd : Nat} {xs : List Int32} {k : Nat} {x : Int32} {ad : Nat → Nat} (hk : k < xs.length) : (ex_m cI cZ ad w).set a (ad a, Sum.inl (if kd = 0 then cI else cZ, xs.length, .inl (upd (fun j => xs.getD j 0) k x))) = ex_m cI cZ ad (w.set a (.inr (kd, xs.set k x))) := by
  rw [← ex_m_set]
  show _ = (ex_m cI cZ ad w).set a (ad a, Sum.inl (if kd = 0 then cI else cZ, (xs.set k x).length, .inl (fun j => (xs.set k x).getD j 0)))
  rw [List.length_set, ex_upd hk]
theorem ex_i_iastore (F : ex_F mi p s m meth c args) (K : ex_K D cI cZ sa X A s) (hd : decode (kC mi) pc = .ok (.iastore, 1)) (ha : ex_do X mi pc (.iastore) L st w = some (.inl (pc1, L1, st1, w1))) (G1 : ex_G p l e R s m args below meth c Q D cI cZ sa A mi mc ms n0 w9 pc1 L1 st1 w1) : ex_G p l e R s m args below meth c Q D cI cZ sa A mi mc ms n0 w9 pc L st w := by
  obtain ⟨hx, hb, hml, hr, hlk, hown, hts, hin⟩ := F
  obtain ⟨hK, hNW, hSt, hSR, hZ, hZ2, hXs⟩ := K
  simp only [ex_do] at ha
  split at ha
  next x i a r =>
    split at ha
    next hlt =>
      split at ha
      next w2 hg =>
        cases ha
        obtain ⟨xs, hw, hi, hk, rfl⟩ := ex_as_s hg
        intro ad H locs cells slots ls M
        obtain ⟨hl, k1, k2, kw, hP, hD, hS, c1, c2, sp, hn0⟩ := M
        have k4 := (List.forall_mem_cons.mp (List.forall_mem_cons.mp (List.forall_mem_cons.mp k2).2).2).2
        have he := ex_m_get (cI := cI) (cZ := cZ) (ad := ad) hw
        have ho : ex_okw (w.set a (.inr (0, xs.set i.toNatClampNeg x))) := ex_okw_set kw trivial
        have hz : ex_sl (w.set a (.inr (0, xs.set i.toNatClampNeg x))) = ex_sl w := ex_sl_set hw (by simp [ex_sz])
        have es := ex_as_w (cI := cI) (cZ := cZ) (w := w) (a := a) (kd := 0) (x := x) (ad := ad) hk
        refine va_iast (f := fun j => xs.getD j 0) (n := xs.length) hx hb hK hP hD hS a 0 he rfl (ex_in hi hk) hd fun H1 locs1 hP1 hD1 hS1 => ?_
        skip
        have hP1 := es ▸ hP1
        have hD1 := es ▸ hD1
        refine G1 ad H1 locs1 cells slots ls ⟨hl, ?_, ?_, ho, hP1, hD1, hS1, ?_, ?_, sp, by rw [List.length_set]; exact hn0⟩
        · rw [List.length_set]; exact k1
        · rw [List.length_set]; exact k4
        · rw [List.length_set]; exact c1
        · rw [hz]; exact c2
      next => cases ha
    next => cases ha
  next => cases ha
theorem ex_i_bastore (F : ex_F mi p s m meth c args) (K : ex_K D cI cZ sa X A s) (hd : decode (kC mi) pc = .ok (.bastore, 1)) (ha : ex_do X mi pc (.bastore) L st w = some (.inl (pc1, L1, st1, w1))) (G1 : ex_G p l e R s m args below meth c Q D cI cZ sa A mi mc ms n0 w9 pc1 L1 st1 w1) : ex_G p l e R s m args below meth c Q D cI cZ sa A mi mc ms n0 w9 pc L st w := by
  obtain ⟨hx, hb, hml, hr, hlk, hown, hts, hin⟩ := F
  obtain ⟨hK, hNW, hSt, hSR, hZ, hZ2, hXs⟩ := K
  simp only [ex_do] at ha
  split at ha
  next x i a r =>
    split at ha
    next hlt =>
      split at ha
      next w2 hg =>
        cases ha
        obtain ⟨xs, hw, hi, hk, rfl⟩ := ex_as_s hg
        intro ad H locs cells slots ls M
        obtain ⟨hl, k1, k2, kw, hP, hD, hS, c1, c2, sp, hn0⟩ := M
        have k4 := (List.forall_mem_cons.mp (List.forall_mem_cons.mp (List.forall_mem_cons.mp k2).2).2).2
        have he := ex_m_get (cI := cI) (cZ := cZ) (ad := ad) hw
        have ho : ex_okw (w.set a (.inr (1, xs.set i.toNatClampNeg x))) := ex_okw_set kw trivial
        have hz : ex_sl (w.set a (.inr (1, xs.set i.toNatClampNeg x))) = ex_sl w := ex_sl_set hw (by simp [ex_sz])
        have es := ex_as_w (cI := cI) (cZ := cZ) (w := w) (a := a) (kd := 1) (x := x) (ad := ad) hk
        refine va_zast (f := fun j => xs.getD j 0) (n := xs.length) hx hb hK hP hD hS a 1 he rfl (ex_in hi hk) hd fun H1 locs1 hP1 hD1 hS1 => ?_
        rw [hlt.2] at hP1 hD1
        have hP1 := es ▸ hP1
        have hD1 := es ▸ hD1
        refine G1 ad H1 locs1 cells slots ls ⟨hl, ?_, ?_, ho, hP1, hD1, hS1, ?_, ?_, sp, by rw [List.length_set]; exact hn0⟩
        · rw [List.length_set]; exact k1
        · rw [List.length_set]; exact k4
        · rw [List.length_set]; exact c1
        · rw [hz]; exact c2
      next => cases ha
    next => cases ha
  next => cases ha
end EXH
end
section
/-! the methods' own words, by their places -/
def kPl : List (Nat × Nat × Nat × Nat × Nat) := [(0, 0, 0, 0, 0), (104, 85, 0, 103, 0), (537, 85, 0, 535, 536), (546, 85, 0, 544, 545), (550, 85, 0, 549, 13), (560, 85, 0, 558, 559), (563, 85, 562, 0, 0), (567, 85, 0, 565, 566), (772, 85, 0, 770, 771), (776, 85, 0, 774, 775), (784, 85, 0, 782, 783), (788, 85, 0, 786, 787), (792, 85, 0, 790, 791), (797, 85, 0, 795, 796), (806, 85, 0, 804, 805), (112, 86, 0, 111, 0), (288, 86, 0, 286, 287), (292, 86, 0, 290, 291), (303, 86, 0, 301, 302), (387, 86, 0, 385, 386), (404, 86, 0, 402, 403), (541, 86, 0, 539, 540), (554, 86, 0, 552, 553), (780, 86, 0, 778, 779), (810, 86, 0, 808, 809), (265, 92, 0, 264, 0), (284, 92, 0, 282, 283), (296, 92, 0, 294, 295), (306, 92, 305, 0, 0), (310, 92, 0, 308, 309), (314, 92, 0, 313, 0), (391, 92, 0, 389, 390), (395, 92, 0, 393, 394), (438, 92, 0, 436, 437), (801, 92, 0, 799, 800), (176, 89, 0, 175, 0), (633, 89, 0, 631, 632), (686, 89, 0, 684, 685), (711, 89, 0, 709, 710), (768, 89, 0, 766, 767), (132, 87, 0, 131, 0), (571, 87, 0, 569, 570), (593, 87, 0, 592, 15), (616, 87, 0, 615, 16), (624, 87, 0, 623, 17), (629, 87, 0, 628, 18), (638, 87, 0, 637, 19), (644, 87, 0, 643, 20), (648, 87, 0, 647, 21), (664, 87, 0, 663, 22), (668, 87, 0, 667, 23), (682, 87, 0, 681, 24), (690, 87, 0, 689, 25), (701, 87, 0, 700, 26), (707, 87, 0, 706, 27), (722, 87, 0, 721, 28), (726, 87, 0, 725, 29), (734, 87, 0, 733, 30), (742, 87, 0, 741, 31), (748, 87, 0, 747, 32), (759, 87, 0, 758, 33), (763, 87, 0, 762, 34), (241, 91, 0, 240, 0), (455, 91, 0, 453, 454), (461, 91, 0, 459, 460), (465, 91, 0, 464, 9), (473, 91, 0, 471, 472), (481, 91, 0, 479, 480), (485, 91, 0, 483, 484), (233, 90, 0, 232, 0), (318, 90, 0, 316, 317), (324, 90, 0, 323, 1), (378, 90, 0, 377, 2), (383, 90, 0, 382, 3), (399, 90, 0, 398, 4), (410, 90, 0, 409, 5), (413, 90, 412, 0, 0), (417, 90, 0, 416, 6), (420, 90, 419, 0, 0), (426, 90, 0, 425, 7), (431, 90, 0, 430, 8), (477, 90, 0, 476, 10), (489, 90, 0, 488, 11), (512, 90, 0, 511, 12), (140, 88, 0, 139, 0), (575, 88, 0, 573, 574), (580, 88, 0, 578, 579), (583, 88, 582, 0, 0), (587, 88, 0, 586, 14), (598, 88, 0, 596, 597), (603, 88, 0, 601, 602), (610, 88, 0, 608, 609), (620, 88, 0, 618, 619), (652, 88, 0, 650, 651), (656, 88, 0, 654, 655), (660, 88, 659, 0, 0), (672, 88, 0, 670, 671), (676, 88, 0, 674, 675), (715, 88, 0, 713, 714), (752, 88, 0, 750, 751), (441, 98, 440, 0, 0), (445, 98, 444, 0, 0), (448, 98, 447, 0, 0), (451, 98, 450, 0, 0), (492, 98, 491, 0, 0), (693, 98, 692, 0, 0), (815, 99, 0, 814, 0), (820, 99, 0, 819, 35), (824, 99, 0, 823, 36), (828, 99, 0, 827, 37), (832, 99, 0, 831, 38), (837, 99, 0, 836, 39), (841, 99, 0, 840, 40), (845, 99, 0, 844, 41), (851, 99, 0, 850, 42), (855, 99, 0, 854, 43), (859, 99, 0, 858, 44), (863, 99, 0, 862, 45), (867, 99, 0, 866, 46), (871, 99, 0, 870, 47), (875, 99, 0, 874, 48), (879, 99, 0, 878, 49), (882, 99, 881, 0, 0), (886, 99, 0, 885, 50), (890, 99, 0, 889, 51), (895, 99, 0, 894, 52), (899, 99, 0, 898, 53), (903, 99, 0, 902, 54), (996, 99, 0, 994, 995), (1000, 99, 0, 998, 999), (1004, 99, 0, 1003, 55), (1008, 99, 0, 1007, 56), (1012, 99, 0, 1011, 57), (1016, 99, 0, 1015, 58), (1020, 99, 0, 1018, 1019), (1024, 99, 0, 1022, 1023), (1028, 99, 0, 1027, 59), (1032, 99, 0, 1031, 60), (1036, 99, 0, 1035, 61), (1040, 99, 0, 1039, 62), (1044, 99, 0, 1043, 63), (1048, 99, 0, 1047, 64), (1052, 99, 0, 1051, 65), (1056, 99, 0, 1055, 66), (1060, 99, 0, 1059, 67), (1064, 99, 0, 1063, 68), (1070, 99, 0, 1069, 69), (1074, 99, 0, 1073, 70), (1078, 99, 0, 1077, 71), (1082, 99, 0, 1081, 72), (1088, 99, 0, 1087, 73), (1092, 99, 0, 1091, 74), (1095, 99, 1094, 0, 0), (1101, 99, 0, 1100, 75), (1105, 99, 0, 1104, 76), (1109, 99, 0, 1108, 77), (1113, 99, 0, 1112, 78), (1117, 99, 0, 1116, 79), (1121, 99, 0, 1120, 80), (1125, 99, 0, 1124, 81), (1132, 99, 0, 1130, 1131), (1136, 99, 0, 1134, 1135), (1140, 99, 0, 1138, 1139), (1144, 99, 0, 1142, 1143), (1148, 99, 0, 1146, 1147), (1152, 99, 0, 1151, 82), (1156, 99, 0, 1155, 83), (1160, 99, 0, 1158, 1159), (1165, 99, 0, 1163, 1164), (328, 94, 0, 326, 327), (332, 94, 0, 330, 331), (338, 94, 0, 336, 337), (342, 94, 0, 340, 341), (348, 94, 347, 0, 0), (345, 95, 344, 0, 0), (353, 96, 352, 0, 0)]
def kP (mj : Nat) : Nat × Nat × Nat × Nat × Nat := kPl.getD mj (0, 0, 0, 0, 0)
def kEqB (a b : ByteArray) : Bool := decide (a.data.toList = b.data.toList)
theorem kEqB_s {a b : ByteArray} (h : kEqB a b = true) : a = b := by
  cases a; cases b
  exact congrArg ByteArray.mk (Array.toList_inj.mp (of_decide_eq_true h))
def kAtC (i : Nat) (y : MethodName) (b : ByteArray) (n : Nat) (r : Option FieldType) : Bool := match lw_tbl[i]? with
  | some (.code y1 b1 n1 r1) => decide (y = y1 ∧ n = n1 ∧ r = r1) && kEqB b b1
  | _ => false
theorem kAtC_s {i : Nat} {y : MethodName} {b : ByteArray} {n : Nat} {r : Option FieldType} (h : kAtC i y b n r = true) : Cond.code y b n r ∈ kWS := by
  unfold kAtC at h
  split at h
  next y1 b1 n1 r1 hq =>
    obtain ⟨h1, h2⟩ := (Bool.and_eq_true _ _).mp h
    obtain ⟨rfl, rfl, rfl⟩ := of_decide_eq_true h1
    have e := kEqB_s h2
    subst e
    exact List.mem_filter.mpr ⟨List.mem_of_getElem? hq, rfl⟩
  next => cases h
def kMok (mj : Nat) : Bool := kAtC (kP mj).1 (kY mj) (kC mj) (kL mj) (kR mj) && (kAt (kP mj).2.1 (.initialized (kY mj).cls) && (decide ((kY mj).cls = kOn (kO mj) ∧ (kY mj).cls ≠ "java/lang/invoke/MethodHandle" ∧ (kY mj).cls ≠ "java/lang/invoke/VarHandle") && (plainName (kY mj).cls && decide (kN0 mj = true → (kY mj).name = "<init>"))))
set_option maxRecDepth 100000 in
theorem kMok_1 : ((List.range 22).all (fun k => kMok (1 + k))) = true := by decide +kernel
set_option maxRecDepth 100000 in
theorem kMok_23 : ((List.range 22).all (fun k => kMok (23 + k))) = true := by decide +kernel
set_option maxRecDepth 100000 in
theorem kMok_45 : ((List.range 22).all (fun k => kMok (45 + k))) = true := by decide +kernel
set_option maxRecDepth 100000 in
theorem kMok_67 : ((List.range 22).all (fun k => kMok (67 + k))) = true := by decide +kernel
set_option maxRecDepth 100000 in
theorem kMok_89 : ((List.range 22).all (fun k => kMok (89 + k))) = true := by decide +kernel
set_option maxRecDepth 100000 in
theorem kMok_111 : ((List.range 22).all (fun k => kMok (111 + k))) = true := by decide +kernel
set_option maxRecDepth 100000 in
theorem kMok_133 : ((List.range 22).all (fun k => kMok (133 + k))) = true := by decide +kernel
set_option maxRecDepth 100000 in
theorem kMok_155 : ((List.range 21).all (fun k => kMok (155 + k))) = true := by decide +kernel
theorem kMall {mj : Nat} (h0 : 0 < mj) (h : mj < kNM) : kMok mj = true := by
  have h : mj < 176 := h
  rcases Nat.lt_or_ge mj 23 with z | z
  · have e := List.all_eq_true.mp kMok_1 (mj - 1) (List.mem_range.mpr (by omega))
    rwa [show 1 + (mj - 1) = mj by omega] at e
  rcases Nat.lt_or_ge mj 45 with z | z
  · have e := List.all_eq_true.mp kMok_23 (mj - 23) (List.mem_range.mpr (by omega))
    rwa [show 23 + (mj - 23) = mj by omega] at e
  rcases Nat.lt_or_ge mj 67 with z | z
  · have e := List.all_eq_true.mp kMok_45 (mj - 45) (List.mem_range.mpr (by omega))
    rwa [show 45 + (mj - 45) = mj by omega] at e
  rcases Nat.lt_or_ge mj 89 with z | z
  · have e := List.all_eq_true.mp kMok_67 (mj - 67) (List.mem_range.mpr (by omega))
    rwa [show 67 + (mj - 67) = mj by omega] at e
  rcases Nat.lt_or_ge mj 111 with z | z
  · have e := List.all_eq_true.mp kMok_89 (mj - 89) (List.mem_range.mpr (by omega))
    rwa [show 89 + (mj - 89) = mj by omega] at e
  rcases Nat.lt_or_ge mj 133 with z | z
  · have e := List.all_eq_true.mp kMok_111 (mj - 111) (List.mem_range.mpr (by omega))
    rwa [show 111 + (mj - 111) = mj by omega] at e
  rcases Nat.lt_or_ge mj 155 with z | z
  · have e := List.all_eq_true.mp kMok_133 (mj - 133) (List.mem_range.mpr (by omega))
    rwa [show 133 + (mj - 133) = mj by omega] at e
  rcases Nat.lt_or_ge mj 176 with z | z
  · have e := List.all_eq_true.mp kMok_155 (mj - 155) (List.mem_range.mpr (by omega))
    rwa [show 155 + (mj - 155) = mj by omega] at e
  omega
theorem kt_Y {mj : Nat} (h0 : 0 < mj) (h : mj < kNM) : Cond.code (kY mj) (kC mj) (kL mj) (kR mj) ∈ kWS ∧ Cond.initialized (kY mj).cls ∈ kWS ∧ ((kY mj).cls = kOn (kO mj) ∧ (kY mj).cls ≠ "java/lang/invoke/MethodHandle" ∧ (kY mj).cls ≠ "java/lang/invoke/VarHandle") ∧ plainName (kY mj).cls = true ∧ (kN0 mj = true → (kY mj).name = "<init>") := by
  have h1 := kMall h0 h
  unfold kMok at h1
  obtain ⟨a1, h2⟩ := (Bool.and_eq_true _ _).mp h1
  obtain ⟨a2, h3⟩ := (Bool.and_eq_true _ _).mp h2
  obtain ⟨a3, h4⟩ := (Bool.and_eq_true _ _).mp h3
  obtain ⟨a4, a5⟩ := (Bool.and_eq_true _ _).mp h4
  exact ⟨kAtC_s a1, kAt_s a2, of_decide_eq_true a3, a4, of_decide_eq_true a5⟩
/-- a call's link: 0 virtual, 1 static, 2 a maker; 5 and 6 the JDK's two -/
def kMlok (o : Nat) (q : Nat × Nat × Nat × Nat) : Bool := match q.2.2.1 with
  | 0 => kAt q.2.2.2 (.methodLink (kOn o) q.1 (kY q.2.1)) && (kAt (kP q.2.1).2.2.2.1 (.instanceMethod (kY q.2.1)) && (kAt (kP q.2.1).2.2.2.2 (.selects (kY q.2.1).cls (kY q.2.1) (kY q.2.1)) && (decide ((parseMethodDescriptor (kY q.2.1).desc).map (fun d => d.parameters.length + 1) = some (kA q.2.1)) && (if kH q.2.1 = 999 then decide ((kY q.2.1).cls = "java/lang/String") else match kCl[kH q.2.1]? with | some r => decide (r.1 = (kY q.2.1).cls) | none => false))))
  | 1 => kAt q.2.2.2 (.methodLink (kOn o) q.1 (kY q.2.1)) && (kAt (kP q.2.1).2.2.1 (.static (kY q.2.1)) && decide ((parseMethodDescriptor (kY q.2.1).desc).map (fun d => d.parameters.length) = some (kA q.2.1)))
  | 2 => kAt q.2.2.2 (.methodLink (kOn o) q.1 (kY q.2.1)) && (kAt (kP q.2.1).2.2.2.1 (.instanceMethod (kY q.2.1)) && (decide ((parseMethodDescriptor (kY q.2.1).desc).map (fun d => d.parameters.length + 1) = some (kA q.2.1)) && decide (kN0 q.2.1 = true ∧ kR q.2.1 = none)))
  | 5 => kAt q.2.2.2 (.methodLink (kOn o) q.1 Lib.Math.min.name)
  | 6 => kAt q.2.2.2 (.methodLink (kOn o) q.1 objectInit)
  | _ => false
set_option maxRecDepth 100000 in
theorem kMl_0 : (kMl.getD 0 []).all (kMlok 0) = true := by decide +kernel
set_option maxRecDepth 100000 in
theorem kMl_1 : (kMl.getD 1 []).all (kMlok 1) = true := by decide +kernel
set_option maxRecDepth 100000 in
theorem kMl_2 : (kMl.getD 2 []).all (kMlok 2) = true := by decide +kernel
set_option maxRecDepth 100000 in
theorem kMl_3 : (kMl.getD 3 []).all (kMlok 3) = true := by decide +kernel
set_option maxRecDepth 100000 in
theorem kMl_4 : (kMl.getD 4 []).all (kMlok 4) = true := by decide +kernel
set_option maxRecDepth 100000 in
theorem kMl_5 : (kMl.getD 5 []).all (kMlok 5) = true := by decide +kernel
set_option maxRecDepth 100000 in
theorem kMl_6 : (kMl.getD 6 []).all (kMlok 6) = true := by decide +kernel
set_option maxRecDepth 100000 in
theorem kMl_7 : (kMl.getD 7 []).all (kMlok 7) = true := by decide +kernel
set_option maxRecDepth 100000 in
theorem kMl_8 : (kMl.getD 8 []).all (kMlok 8) = true := by decide +kernel
set_option maxRecDepth 100000 in
theorem kMl_9 : (kMl.getD 9 []).all (kMlok 9) = true := by decide +kernel
set_option maxRecDepth 100000 in
theorem kMl_10 : (kMl.getD 10 []).all (kMlok 10) = true := by decide +kernel
set_option maxRecDepth 100000 in
theorem kMl_11 : (kMl.getD 11 []).all (kMlok 11) = true := by decide +kernel
set_option maxRecDepth 100000 in
theorem kMl_12 : (kMl.getD 12 []).all (kMlok 12) = true := by decide +kernel
set_option maxRecDepth 100000 in
theorem kMl_13 : (kMl.getD 13 []).all (kMlok 13) = true := by decide +kernel
set_option maxRecDepth 100000 in
theorem kMl_14 : (kMl.getD 14 []).all (kMlok 14) = true := by decide +kernel
set_option maxRecDepth 100000 in
theorem kMl_15 : (kMl.getD 15 []).all (kMlok 15) = true := by decide +kernel
theorem kMl_all : ((List.range 16).all (fun o => (kMl.getD o []).all (kMlok o))) = true := by
  simp only [List.all_eq_true]
  intro o ho
  have ho := List.mem_range.mp ho
  rcases Nat.lt_or_ge o 1 with z | z
  · rw [show o = 0 by omega]
    exact List.all_eq_true.mp kMl_0
  rcases Nat.lt_or_ge o 2 with z | z
  · rw [show o = 1 by omega]
    exact List.all_eq_true.mp kMl_1
  rcases Nat.lt_or_ge o 3 with z | z
  · rw [show o = 2 by omega]
    exact List.all_eq_true.mp kMl_2
  rcases Nat.lt_or_ge o 4 with z | z
  · rw [show o = 3 by omega]
    exact List.all_eq_true.mp kMl_3
  rcases Nat.lt_or_ge o 5 with z | z
  · rw [show o = 4 by omega]
    exact List.all_eq_true.mp kMl_4
  rcases Nat.lt_or_ge o 6 with z | z
  · rw [show o = 5 by omega]
    exact List.all_eq_true.mp kMl_5
  rcases Nat.lt_or_ge o 7 with z | z
  · rw [show o = 6 by omega]
    exact List.all_eq_true.mp kMl_6
  rcases Nat.lt_or_ge o 8 with z | z
  · rw [show o = 7 by omega]
    exact List.all_eq_true.mp kMl_7
  rcases Nat.lt_or_ge o 9 with z | z
  · rw [show o = 8 by omega]
    exact List.all_eq_true.mp kMl_8
  rcases Nat.lt_or_ge o 10 with z | z
  · rw [show o = 9 by omega]
    exact List.all_eq_true.mp kMl_9
  rcases Nat.lt_or_ge o 11 with z | z
  · rw [show o = 10 by omega]
    exact List.all_eq_true.mp kMl_10
  rcases Nat.lt_or_ge o 12 with z | z
  · rw [show o = 11 by omega]
    exact List.all_eq_true.mp kMl_11
  rcases Nat.lt_or_ge o 13 with z | z
  · rw [show o = 12 by omega]
    exact List.all_eq_true.mp kMl_12
  rcases Nat.lt_or_ge o 14 with z | z
  · rw [show o = 13 by omega]
    exact List.all_eq_true.mp kMl_13
  rcases Nat.lt_or_ge o 15 with z | z
  · rw [show o = 14 by omega]
    exact List.all_eq_true.mp kMl_14
  rcases Nat.lt_or_ge o 16 with z | z
  · rw [show o = 15 by omega]
    exact List.all_eq_true.mp kMl_15
  omega
theorem kt_M {o idx mj kd : Nat} (h : kM o idx = some (mj, kd)) : ∃ p, kMlok o (idx, mj, kd, p) = true := by
  unfold kM at h
  cases hq : ex_lk (kMl.getD o []) idx with
  | none => rw [hq] at h; cases h
  | some q =>
    rw [hq] at h
    obtain ⟨v2, k2, p2⟩ := q
    cases h
    exact ⟨p2, k_all kMl_all rfl (ex_lk_mem hq)⟩
theorem kt_M0 {o idx mj : Nat} (h : kM o idx = some (mj, 0)) : Cond.methodLink (kOn o) idx (kY mj) ∈ kWS ∧ Cond.instanceMethod (kY mj) ∈ kWS ∧ Cond.selects (kY mj).cls (kY mj) (kY mj) ∈ kWS ∧ (parseMethodDescriptor (kY mj).desc).map (fun d => d.parameters.length + 1) = some (kA mj) ∧ (kH mj = 999 → (kY mj).cls = "java/lang/String") ∧ (¬ kH mj = 999 → ∃ T N, kCl[kH mj]? = some ((kY mj).cls, T, N)) := by
  obtain ⟨p, h1⟩ := kt_M h
  unfold kMlok at h1
  dsimp only at h1
  obtain ⟨a1, h2⟩ := (Bool.and_eq_true _ _).mp h1
  obtain ⟨a2, h3⟩ := (Bool.and_eq_true _ _).mp h2
  obtain ⟨a3, h4⟩ := (Bool.and_eq_true _ _).mp h3
  obtain ⟨a4, a5⟩ := (Bool.and_eq_true _ _).mp h4
  refine ⟨kAt_s a1, kAt_s a2, kAt_s a3, of_decide_eq_true a4, fun hz => ?_, fun hz => ?_⟩
  · rw [if_pos hz] at a5
    exact of_decide_eq_true a5
  · rw [if_neg hz] at a5
    split at a5
    next r hr =>
      obtain ⟨C, T, N⟩ := r
      have e : C = (kY mj).cls := of_decide_eq_true a5
      subst e
      exact ⟨T, N, hr⟩
    next => cases a5
theorem kt_M1 {o idx mj : Nat} (h : kM o idx = some (mj, 1)) : Cond.methodLink (kOn o) idx (kY mj) ∈ kWS ∧ Cond.static (kY mj) ∈ kWS ∧ (parseMethodDescriptor (kY mj).desc).map (fun d => d.parameters.length) = some (kA mj) := by
  obtain ⟨p, h1⟩ := kt_M h
  unfold kMlok at h1
  dsimp only at h1
  obtain ⟨a1, h2⟩ := (Bool.and_eq_true _ _).mp h1
  obtain ⟨a2, a3⟩ := (Bool.and_eq_true _ _).mp h2
  exact ⟨kAt_s a1, kAt_s a2, of_decide_eq_true a3⟩
theorem kt_M2 {o idx mj : Nat} (h : kM o idx = some (mj, 2)) : Cond.methodLink (kOn o) idx (kY mj) ∈ kWS ∧ Cond.instanceMethod (kY mj) ∈ kWS ∧ (parseMethodDescriptor (kY mj).desc).map (fun d => d.parameters.length + 1) = some (kA mj) ∧ kN0 mj = true ∧ kR mj = none := by
  obtain ⟨p, h1⟩ := kt_M h
  unfold kMlok at h1
  dsimp only at h1
  obtain ⟨a1, h2⟩ := (Bool.and_eq_true _ _).mp h1
  obtain ⟨a2, h3⟩ := (Bool.and_eq_true _ _).mp h2
  obtain ⟨a3, a4⟩ := (Bool.and_eq_true _ _).mp h3
  exact ⟨kAt_s a1, kAt_s a2, of_decide_eq_true a3, of_decide_eq_true a4⟩
theorem kt_M5 {o idx mj : Nat} (h : kM o idx = some (mj, 5)) : Cond.methodLink (kOn o) idx Lib.Math.min.name ∈ kWS := by
  obtain ⟨p, h1⟩ := kt_M h
  exact kAt_s h1
theorem kt_M6 {o idx mj : Nat} (h : kM o idx = some (mj, 6)) : Cond.methodLink (kOn o) idx objectInit ∈ kWS := by
  obtain ⟨p, h1⟩ := kt_M h
  exact kAt_s h1
theorem kt_min : Cond.static Lib.Math.min.name ∈ kWS ∧ Cond.initialized "java/lang/Math" ∈ kWS ∧ Cond.code Lib.Math.min.name Lib.Math.min.code 2 (some .int) ∈ kWS := ⟨kAt_s (i := 298) (by decide +kernel), kAt_s (i := 93) (by decide +kernel), kAtC_s (i := 299) (by decide +kernel)⟩
theorem kt_obj : Cond.instanceMethod objectInit ∈ kWS ∧ Cond.code objectInit ⟨#[0xb1]⟩ 1 none ∈ kWS := ⟨kAt_s (i := 106) (by decide +kernel), kAtC_s (i := 107) (by decide +kernel)⟩
end
section
/-! calls: a callee's contract out of its run, and the whole run -/
theorem ex_sl_map (ad : Nat → Nat) (vs : List Value) : (lg_sl (vs.map (ex_v ad))).length = (lg_sl vs).length := by
  unfold lg_sl
  induction vs with
  | nil => rfl
  | cons v vs ih =>
    simp only [List.map_cons, List.flatMap_cons, List.length_append, ih, ex_v_cat]
    split <;> rfl
def ex_rm (mi mc ms : Nat) : Room := { frames := kV mi, cells := mc, slots := ms, locals := kW mi }
def ex_ws (mi : Nat) : List Cond := Cond.code (kY mi) (kC mi) (kL mi) (kR mi) :: kWS
theorem ex_ws_good {mj : Nat} (h0 : 0 < mj) (h : mj < kNM) : GoodIn kWS (ex_ws mj) := fun w hw => (List.mem_cons.mp hw).elim (fun e => by rw [e]; exact kWS_good _ (kt_Y h0 h).1) (kWS_good w)
def ex_Pre (D : va_G) (cI cZ : ClassId) (X : Option (List Int32)) (ad : Nat → Nat) (w : ex_W) (av : List Value) (sz : Nat) : Array Value → State → Prop := va_Pc (av.map (ex_v ad)) (fun U => U.heap.size = sz ∧ va_P D kCl (ex_m cI cZ ad w) U.heap ∧ va_D (fun _ => True) (ex_m cI cZ ad w) ∧ ex_K D cI cZ ad X (va_A (ex_m cI cZ ad w) sz) U)
def ex_Post (D : va_G) (cI cZ : ClassId) (ad : Nat → Nat) (w : ex_W) (r : Option Value) (w1 : ex_W) (sz : Nat) : Array Value → State → Outcome → State → Prop := fun _ st oc t => (∃ ad1, ex_sp w.length ad ad1 ∧ oc = .returned (r.map (ex_v ad1)) ∧ (∀ v ∈ r.toList, ex_ok w1.length v) ∧ ex_okw w1 ∧ va_P D kCl (ex_m cI cZ ad1 w1) t.heap ∧ va_D (va_A (ex_m cI cZ ad w) sz) (ex_m cI cZ ad1 w1)) ∧ va_F (va_A (ex_m cI cZ ad w) sz) st t
theorem ex_NW_s {w : Cond} (h : w ∈ kNW) : ∃ a i b n d hh, w = .fieldLinkNest a i b n d hh := by
  have h2 := (List.mem_filter.mp h).2
  cases w <;> first | exact ⟨_, _, _, _, _, _, rfl⟩ | cases h2
/-- what stands outside, seen from a callee -/
theorem ex_K_call {D : va_G} {cI cZ : ClassId} {sa sb : Nat → Nat} {X : Option (List Int32)} {A A1 : Nat → Prop} {s U : State} {H : Heap} {locs : List Loc} (K : ex_K D cI cZ sa X A s) (hW : s.WarmedH U.vm) (hU : U.heap = H) (hS : va_S A s.heap H locs) (hA : ∀ q, A1 q → A q) (hs : ∀ k, 1000 ≤ k → sb k = sa k) : ex_K D cI cZ sb X A1 U := by
  obtain ⟨hK, hNW, hSt, hSR, hZ, hZ2, hXs⟩ := K
  subst hU
  have hk := hS.2.1
  refine ⟨va_K.moved hW.alike hK, fun w hw => ?_, fun j hj => ?_, fun q hq => ?_, ?_, ?_, fun xs hx => ?_⟩
  · obtain ⟨a, i, b, n, d, hh, rfl⟩ := ex_NW_s hw
    exact va_Nw.warmF hW (hNW _ hw)
  · rw [hs (1001 + j) (by omega), hs (2001 + j) (by omega)]
    obtain ⟨a1, a2, a3, a4⟩ := hSt j hj
    exact ⟨((a1.moved hW.alike).kept hk).narrow hA, ((a2.moved hW.alike).kept hk).narrow hA, ((a3.moved hW.alike).kept hk).narrow hA, ((a4.moved hW.alike).kept hk).narrow hA⟩
  · rw [hs _ (by omega)]
    exact vk_R.warm hW (hSR q hq)
  · exact ((hZ.moved hW.alike).kept hk).narrow hA
  · rw [hs 3000 (by decide)]
    exact ((hZ2.moved hW.alike).kept hk).narrow hA
  · rw [hs 1000 (by decide)]
    obtain ⟨b1, b2, b3⟩ := hXs xs hx
    exact ⟨(b1.moved hW.alike).kept (hk _ b2 b3), Nat.lt_of_lt_of_le b2 hS.1, fun z => b3 (hA _ z)⟩
theorem ex_K_blind {D : va_G} {cI cZ : ClassId} {sa : Nat → Nat} {X : Option (List Int32)} {A : Nat → Prop} {U : State} (g : JFrame) (mk : MethodId) (a : Array Value) (K : ex_K D cI cZ sa X A U) : ex_K D cI cZ sa X A (U.calling g mk a) := by
  obtain ⟨hK, hNW, hSt, hSR, hZ, hZ2, hXs⟩ := K
  have hv : U.vm.Alike (U.calling g mk a).vm := Vm.Alike.refl U.vm
  have he : (U.calling g mk a).heap = U.heap := rfl
  refine ⟨va_K.moved hv hK, fun w hw => ?_, fun j hj => ?_, fun q hq => ?_, ?_, ?_, fun xs hx => ?_⟩
  · obtain ⟨a, i, b, n, d, hh, rfl⟩ := ex_NW_s hw
    exact va_Nw.same rfl (rfl : U.vm = (U.calling g mk _).vm) (hNW _ hw)
  · obtain ⟨a1, a2, a3, a4⟩ := hSt j hj
    exact ⟨a1.moved hv, a2.moved hv, a3.moved hv, a4.moved hv⟩
  · exact vk_R.same (rfl : (U.calling g mk a).vm = U.vm) (hSR q hq)
  · exact hZ.moved hv
  · exact hZ2.moved hv
  · obtain ⟨b1, b2, b3⟩ := hXs xs hx
    exact ⟨b1.moved hv, b2, b3⟩
theorem ex_Pre_blind {D : va_G} {cI cZ : ClassId} {X : Option (List Int32)} {ad : Nat → Nat} {w : ex_W} {av : List Value} {sz : Nat} : FrameBlind (ex_Pre D cI cZ X ad w av sz) := by
  intro a U g mk h
  obtain ⟨h0, h1, h2, h3, h4⟩ := h
  exact ⟨h0, h1, h2, h3, ex_K_blind g mk a h4⟩
/-- an end of a method that fits its answer -/
def ex_ri (ret : Option FieldType) (i : Jvm.ClassFile.Instr) (r : Option Value) : Prop := match i, r with
  | .ireturn, some (.int v) => ∃ ty, ret = some ty ∧ narrow ty (.int v) = .int v
  | .lreturn, some (.long _) => ret = some .long
  | .areturn, some (.ref _) => ∃ n, ret = some (.object n)
  | .return_, none => ret = none
  | _, _ => False
def ex_Snd (l : Launch) (X : Option (List Int32)) (n : Nat) : Prop := ∀ (mi pc : Nat) (L : ex_L) (st : List Value) (w : ex_W) (r : Option Value) (w9 : ex_W), mi < kNM → ex_run X n mi pc L st w = some (r, w9) →
  ∀ (p : Program) (e : Env) (R : Room) (s : State) (m : MethodId) (args : Array Value) (below : List Frame) (meth : Method) (c : Code) (Q : State → Prop) (D : va_G) (cI cZ : ClassId) (sa : Nat → Nat) (A : Nat → Prop) (mc ms n0 : Nat),
  ex_F mi p s m meth c args → ex_K D cI cZ sa X A s → (∀ q, s.heap.size ≤ q → A q) → (kV mi ≤ R.frames ∧ kW mi ≤ R.locals) → mc ≤ R.cells → ms ≤ R.slots →
  (∀ (pc1 : Nat) (i : Jvm.ClassFile.Instr), decode (kC mi) pc1 = .ok (i, 1) → ex_ri (kR mi) i r → ex_G p l e R s m args below meth c Q D cI cZ sa A mi mc ms n0 w9 pc1 [] r.toList w9) →
  ex_G p l e R s m args below meth c Q D cI cZ sa A mi mc ms n0 w9 pc L st w
theorem ex_met {l : Launch} {X : Option (List Int32)} {n : Nat} (ih : ex_Snd l X n) {mj : Nat} {av : List Value} {w w1 : ex_W} {rv : Option Value} (h0 : 0 < mj) (h1 : mj < kNM) (hrun : ex_run X n mj 0 (lv_args 0 av) [] w = some (rv, w1)) (hav : ∀ v ∈ av, ex_ok w.length v) (hlen : (lg_sl av).length ≤ kL mj) (hw : ex_okw w) (hle : w.length ≤ w1.length ∧ ex_sl w ≤ ex_sl w1) (D : va_G) (cI cZ : ClassId) (ad : Nat → Nat) (sz : Nat) :
    Met l (kY mj) (ex_ws mj) (ex_rm mj (w1.length - w.length) (ex_sl w1 - ex_sl w)) (ex_Pre D cI cZ X ad w av sz) (ex_Post D cI cZ ad w rv w1 sz) (w1.length - w.length) (ex_sl w1 - ex_sl w) (va_A (ex_m cI cZ ad w) sz) := by
  obtain ⟨y1, y2, y3, y4, y5⟩ := kt_Y h0 h1
  refine Met.ofW (cc := kC mj) (maxL := kL mj) (ret := kR mj) y4 rfl ?_
  intro p e s m args below meth c s₁ B hml hv
  obtain ⟨rfl, hsz, hP, hD0, hK⟩ := hv
  have hts := atoms_spec (ws := ex_ws mj) B.pre
  have hown : s.vm.findClass (kY mj).cls = some m.cls := findClass_of_methodNamed B.named
  rw [y3.1] at hown
  have F : ex_F mj p s m meth c (av.map (ex_v ad)).toArray := ⟨B.exec, B.bytes, hml, B.returns, B.notSynchronized, hown, fun q hq => hts q (List.mem_cons_of_mem _ hq), fun hi => (name_of_methodNamed B.named B.method).1.trans (y5 hi)⟩
  subst hsz
  have hl := lv_entry (av.map (ex_v ad)) (n := kL mj) (by rw [ex_sl_map]; exact hlen)
  rw [lg_entry_eq]
  generalize (lg_sl (av.map (ex_v ad)) ++ List.replicate (kL mj - (lg_sl (av.map (ex_v ad))).length) Slot.unset).toArray = ls at hl ⊢
  rw [ex_args_map] at hl
  have hx := F.1
  have hb := F.2.1
  have hr := F.2.2.2.1
  have hlocks := F.2.2.2.2.1
  refine ih mj 0 (lv_args 0 av) [] w rv w1 h1 hrun p e (headSpec (ex_ws mj) (ex_rm mj (w1.length - w.length) (ex_sl w1 - ex_sl w))).room s m _ below meth c _ D cI cZ ad (va_A (ex_m cI cZ ad w) s.heap.size) (w1.length - w.length) (ex_sl w1 - ex_sl w) w.length F hK (fun q hq => Or.inr hq) ⟨Nat.le_refl _, Nat.le_refl _⟩ (Nat.le_refl _) (Nat.le_refl _) ?_ ad s.heap [] 0 0 ls ⟨hl, ex_args_ok av 0 hav, fun v hv => (by cases hv), hw, hP, hD0.self, va_S.rf, by omega, by omega, fun _ _ => rfl, Nat.le_refl _⟩
  intro pc1 i hd hri ad1 H locs cells slots ls1 M
  obtain ⟨hl1, k1, k2, kw, hP1, hD1, hS1, c1, c2, sp, hn0⟩ := M
  refine W.widen (k := w1.length - w.length) (n := ex_sl w1 - ex_sl w) (by omega) (by omega) ?_
  have fin : ∀ t : State, t.heap = H → s.WarmedH t.vm → ex_Post D cI cZ ad w rv w1 s.heap.size (av.map (ex_v ad)).toArray s (.returned (rv.map (ex_v ad1))) t := fun t ht _ => ⟨⟨ad1, sp, rfl, k2, kw, by rw [ht]; exact hP1, hD1⟩, hS1.F ht⟩
  unfold ex_ri at hri
  split at hri
  next v =>
    obtain ⟨ty, e1, e2⟩ := hri
    exact W.zret (ty := ty) hx hb (hr.trans e1) e2 fin hS1.2.2 hd
  next v =>
    exact W.lret hx hb (hr.trans hri) fin hS1.2.2 hd
  next v =>
    obtain ⟨nm, e1⟩ := hri
    exact W.aret (v := .ref (ad1 v)) hx hb (hr.trans e1) (Or.inl ⟨_, rfl⟩) (Or.inr ⟨_, rfl⟩) fin hS1.2.2 hd
  next =>
    exact W.vret hx hb (hr.trans hri) fin hS1.2.2 hd
  next => cases hri
end
section
/-! the whole run: every run of the pure machine is one of the real machine -/
theorem ex_gr_pf {w w2 : ex_W} {h ci k : Nat} {v : Value} (hg : ex_pf w h ci k v = some w2) : w.length ≤ w2.length ∧ ex_sl w ≤ ex_sl w2 := by
  obtain ⟨fs, hw, hk, rfl⟩ := ex_pf_s hg
  refine ⟨by rw [List.length_set]; exact Nat.le_refl _, ?_⟩
  rw [ex_sl_set hw (by simp [ex_sz])]
  exact Nat.le_refl _
theorem ex_gr_as {w w2 : ex_W} {a kd : Nat} {i x : Int32} (hg : ex_as w a kd i x = some w2) : w.length ≤ w2.length ∧ ex_sl w ≤ ex_sl w2 := by
  obtain ⟨xs, hw, hi, hk, rfl⟩ := ex_as_s hg
  refine ⟨by rw [List.length_set]; exact Nat.le_refl _, ?_⟩
  rw [ex_sl_set hw (by simp [ex_sz])]
  exact Nat.le_refl _
theorem ex_gr_push {w : ex_W} {c : ex_C} : w.length ≤ (w ++ [c]).length ∧ ex_sl w ≤ ex_sl (w ++ [c]) := by
  refine ⟨by rw [List.length_append]; omega, ?_⟩
  rw [ex_sl_push]
  omega
set_option maxHeartbeats 4000000 in
theorem ex_do_gr {X : Option (List Int32)} {mi pc : Nat} {i : Jvm.ClassFile.Instr} {L : ex_L} {st : List Value} {w : ex_W} {pc1 : Nat} {L1 : ex_L} {st1 : List Value} {w1 : ex_W} (ha : ex_do X mi pc i L st w = some (.inl (pc1, L1, st1, w1))) : w.length ≤ w1.length ∧ ex_sl w ≤ ex_sl w1 := by
  unfold ex_do at ha
  split at ha <;> (try simp only [ex_ldA, ex_ldI, ex_ldJ, ex_stA, ex_stI, ex_stJ, ex_ii, ex_jj, ex_ji, ex_j, ex_br] at ha) <;> (repeat' split at ha) <;> first
    | (exfalso; cases ha; done)
    | (cases ha; exact ⟨Nat.le_refl _, Nat.le_refl _⟩)
    | (cases ha; exact ex_gr_pf (by assumption))
    | (cases ha; exact ex_gr_as (by assumption))
    | (cases ha; exact ex_gr_push)
theorem ex_act_gr {X : Option (List Int32)} {mi pc : Nat} {L : ex_L} {st : List Value} {w : ex_W} {pc1 : Nat} {L1 : ex_L} {st1 : List Value} {w1 : ex_W} (ha : ex_act X mi pc L st w = some (.inl (pc1, L1, st1, w1))) : w.length ≤ w1.length ∧ ex_sl w ≤ ex_sl w1 := by
  unfold ex_act at ha
  split at ha
  next i len hd =>
    split at ha
    next => exact ex_do_gr ha
    next => cases ha
  next => cases ha
theorem ex_gr {X : Option (List Int32)} : ∀ (n mi pc : Nat) (L : ex_L) (st : List Value) (w : ex_W) (r : Option Value) (w9 : ex_W), ex_run X n mi pc L st w = some (r, w9) → w.length ≤ w9.length ∧ ex_sl w ≤ ex_sl w9 := by
  intro n
  induction n with
  | zero => intro mi pc L st w r w9 h; cases h
  | succ n ih =>
    intro mi pc L st w r w9 h
    rw [ex_run_s] at h
    cases ha : ex_act X mi pc L st w with
    | none => rw [ha] at h; cases h
    | some a =>
      rw [ha] at h
      rcases a with ⟨pc1, L1, st1, w1⟩ | r1 | ⟨mj, av, r1⟩
      · have h1 := ex_act_gr ha
        have h2 := ih _ _ _ _ _ _ _ h
        omega
      · cases h
        exact ⟨Nat.le_refl _, Nat.le_refl _⟩
      · dsimp only at h
        cases hc : ex_run X n mj 0 (lv_args 0 av) [] w with
        | none => rw [hc] at h; cases h
        | some x =>
          obtain ⟨rv, w1⟩ := x
          rw [hc] at h
          have h1 := ih _ _ _ _ _ _ _ hc
          have h2 := ih _ _ _ _ _ _ _ h
          omega
theorem ex_ret_s {X : Option (List Int32)} {mi pc : Nat} {L : ex_L} {st : List Value} {w : ex_W} {r : Option Value} (ha : ex_act X mi pc L st w = some (.inr (.inl r))) : ∃ i, decode (kC mi) pc = .ok (i, 1) ∧ ex_ri (kR mi) i r ∧ st = r.toList := by
  unfold ex_act at ha
  split at ha
  next i len hd =>
    split at ha
    next hk =>
      unfold ex_do at ha
      split at ha <;> (try simp only [ex_ldA, ex_ldI, ex_ldJ, ex_stA, ex_stI, ex_stJ, ex_ii, ex_jj, ex_ji, ex_j, ex_br] at ha) <;> (repeat' split at ha) <;> first
        | (exfalso; cases ha; done)
        | (cases ha
           have hl : len = 1 := eq_of_beq hk
           subst hl
           refine ⟨_, hd, ?_, rfl⟩
           first
             | exact ⟨_, by assumption, by assumption⟩
             | exact ⟨_, by assumption⟩
             | assumption)
    next => cases ha
  next => cases ha
section EXC
variable {p : Program} {l : Launch} {e : Env} {R : Room} {s : State} {m : MethodId} {args : Array Value} {below : List Frame} {meth : Method} {c : Code} {Q : State → Prop} {D : va_G} {cI cZ : ClassId} {sa : Nat → Nat} {A : Nat → Prop} {mi mc ms n0 : Nat} {w9 : ex_W} {pc : Nat} {L : ex_L} {st : List Value} {w : ex_W} {X : Option (List Int32)} {pc1 : Nat} {L1 : ex_L} {st1 : List Value} {w1 : ex_W}
theorem ex_catm (ad : Nat → Nat) (r : List Value) : ((r.map (ex_v ad)).map fun v => v.category).sum = (r.map Value.category).sum := by
  rw [List.map_map]
  exact congrArg List.sum (List.map_congr_left fun v _ => ex_v_cat ad v)
theorem ex_i_min {idx : Nat} (F : ex_F mi p s m meth c args) (hR : kV mi ≤ R.frames ∧ kW mi ≤ R.locals) (hmc : mc ≤ R.cells) (hms : ms ≤ R.slots) (hle : w1.length ≤ w9.length ∧ ex_sl w1 ≤ ex_sl w9) (hd : decode (kC mi) pc = .ok (.invokestatic idx, 3)) (ha : ex_do X mi pc (.invokestatic idx) L st w = some (.inl (pc1, L1, st1, w1))) (G1 : ex_G p l e R s m args below meth c Q D cI cZ sa A mi mc ms n0 w9 pc1 L1 st1 w1) : ex_G p l e R s m args below meth c Q D cI cZ sa A mi mc ms n0 w9 pc L st w := by
  obtain ⟨hx, hb, hml, hr, hlk, hown, hts, hin⟩ := F
  simp only [ex_do] at ha
  split at ha
  next mj hM =>
    split at ha
    · split at ha <;> cases ha
    · cases ha
  next mj hM =>
    split at ha
    next y x r =>
      split at ha
      next hk =>
        obtain ⟨hk1, hk2, hk3⟩ := hk
        cases ha
        intro ad H locs cells slots ls M
        obtain ⟨hl, k1, k2, kw, hP, hD, hS, c1, c2, sp, hn0⟩ := M
        have GG := G1 ad H locs cells slots ls ⟨hl, k1, List.forall_mem_cons.mpr ⟨trivial, (List.forall_mem_cons.mp (List.forall_mem_cons.mp k2).2).2⟩, kw, hP, hD, hS, c1, c2, sp, hn0⟩
        obtain ⟨a1, a2, a3⟩ := kt_min
        have hcat := ex_catm ad r
        exact va_mmin hx hb (hml.trans hl.1.symm) hown (hts _ (kt_M5 hM)) (hts _ a1) (hts _ a2) (hts _ a3) (by omega) (by omega) (by omega) (by omega) hd GG
      next => cases ha
    next => cases ha
  next => cases ha
theorem ex_i_obj {idx : Nat} (F : ex_F mi p s m meth c args) (hR : kV mi ≤ R.frames ∧ kW mi ≤ R.locals) (hmc : mc ≤ R.cells) (hms : ms ≤ R.slots) (hle : w1.length ≤ w9.length ∧ ex_sl w1 ≤ ex_sl w9) (hd : decode (kC mi) pc = .ok (.invokespecial idx, 3)) (ha : ex_do X mi pc (.invokespecial idx) L st w = some (.inl (pc1, L1, st1, w1))) (G1 : ex_G p l e R s m args below meth c Q D cI cZ sa A mi mc ms n0 w9 pc1 L1 st1 w1) : ex_G p l e R s m args below meth c Q D cI cZ sa A mi mc ms n0 w9 pc L st w := by
  obtain ⟨hx, hb, hml, hr, hlk, hown, hts, hin⟩ := F
  simp only [ex_do] at ha
  split at ha
  next mj hM =>
    split at ha
    · split at ha <;> cases ha
    · cases ha
  next mj hM =>
    split at ha
    next a r =>
      split at ha
      next hk =>
        obtain ⟨hk1, hk2, hk3⟩ := hk
        cases ha
        intro ad H locs cells slots ls M
        obtain ⟨hl, k1, k2, kw, hP, hD, hS, c1, c2, sp, hn0⟩ := M
        have GG := G1 ad H locs cells slots ls ⟨hl, k1, (List.forall_mem_cons.mp k2).2, kw, hP, hD, hS, c1, c2, sp, hn0⟩
        obtain ⟨a1, a2⟩ := kt_obj
        have hcat := ex_catm ad st1
        exact W.objInit (g := F0 m pc ls ((Value.ref a :: st1).map (ex_v ad))) (a := ad a) (rest := st1.map (ex_v ad)) hx hb hown (hts _ (kt_M6 hM)) (hts _ a1) (hts _ a2) rfl (hl.1.trans hml.symm) rfl hd (by omega) (by rw [hcat]; show 2 * 0 + _ + 12 ≤ _; omega) GG
      next => cases ha
    next => cases ha
  next => cases ha
theorem ex_step_all (F : ex_F mi p s m meth c args) (K : ex_K D cI cZ sa X A s) (hA : ∀ q, s.heap.size ≤ q → A q) (hR : kV mi ≤ R.frames ∧ kW mi ≤ R.locals) (hmc : mc ≤ R.cells) (hms : ms ≤ R.slots) (hle : w1.length ≤ w9.length ∧ ex_sl w1 ≤ ex_sl w9) (ha : ex_act X mi pc L st w = some (.inl (pc1, L1, st1, w1))) (G1 : ex_G p l e R s m args below meth c Q D cI cZ sa A mi mc ms n0 w9 pc1 L1 st1 w1) : ex_G p l e R s m args below meth c Q D cI cZ sa A mi mc ms n0 w9 pc L st w := by
  unfold ex_act at ha
  split at ha
  next i len hd =>
    split at ha
    next hk =>
      cases i with
      | aload_n => cases (eq_of_beq hk : len = _); exact ex_i_aload_n F hd ha G1
      | aload => cases (eq_of_beq hk : len = _); exact ex_i_aload F hd ha G1
      | iload_n => cases (eq_of_beq hk : len = _); exact ex_i_iload_n F hd ha G1
      | iload => cases (eq_of_beq hk : len = _); exact ex_i_iload F hd ha G1
      | lload_n => cases (eq_of_beq hk : len = _); exact ex_i_lload_n F hd ha G1
      | lload => cases (eq_of_beq hk : len = _); exact ex_i_lload F hd ha G1
      | astore_n => cases (eq_of_beq hk : len = _); exact ex_i_astore_n F hd ha G1
      | astore => cases (eq_of_beq hk : len = _); exact ex_i_astore F hd ha G1
      | istore_n => cases (eq_of_beq hk : len = _); exact ex_i_istore_n F hd ha G1
      | istore => cases (eq_of_beq hk : len = _); exact ex_i_istore F hd ha G1
      | lstore_n => cases (eq_of_beq hk : len = _); exact ex_i_lstore_n F hd ha G1
      | lstore => cases (eq_of_beq hk : len = _); exact ex_i_lstore F hd ha G1
      | iconst => cases (eq_of_beq hk : len = _); exact ex_i_iconst F hd ha G1
      | bipush => cases (eq_of_beq hk : len = _); exact ex_i_bipush F hd ha G1
      | sipush => cases (eq_of_beq hk : len = _); exact ex_i_sipush F hd ha G1
      | lconst => cases (eq_of_beq hk : len = _); exact ex_i_lconst F hd ha G1
      | iinc => cases (eq_of_beq hk : len = _); exact ex_i_iinc F hd ha G1
      | iadd => cases (eq_of_beq hk : len = _); exact ex_i_iadd F hd ha G1
      | isub => cases (eq_of_beq hk : len = _); exact ex_i_isub F hd ha G1
      | imul => cases (eq_of_beq hk : len = _); exact ex_i_imul F hd ha G1
      | iand => cases (eq_of_beq hk : len = _); exact ex_i_iand F hd ha G1
      | ishl => cases (eq_of_beq hk : len = _); exact ex_i_ishl F hd ha G1
      | ishr => cases (eq_of_beq hk : len = _); exact ex_i_ishr F hd ha G1
      | ladd => cases (eq_of_beq hk : len = _); exact ex_i_ladd F hd ha G1
      | lsub => cases (eq_of_beq hk : len = _); exact ex_i_lsub F hd ha G1
      | lmul => cases (eq_of_beq hk : len = _); exact ex_i_lmul F hd ha G1
      | lor => cases (eq_of_beq hk : len = _); exact ex_i_lor F hd ha G1
      | lshl => cases (eq_of_beq hk : len = _); exact ex_i_lshl F hd ha G1
      | lshr => cases (eq_of_beq hk : len = _); exact ex_i_lshr F hd ha G1
      | idiv => cases (eq_of_beq hk : len = _); exact ex_i_idiv F hd ha G1
      | irem => cases (eq_of_beq hk : len = _); exact ex_i_irem F hd ha G1
      | ldiv => cases (eq_of_beq hk : len = _); exact ex_i_ldiv F hd ha G1
      | lrem => cases (eq_of_beq hk : len = _); exact ex_i_lrem F hd ha G1
      | ineg => cases (eq_of_beq hk : len = _); exact ex_i_ineg F hd ha G1
      | lneg => cases (eq_of_beq hk : len = _); exact ex_i_lneg F hd ha G1
      | i2l => cases (eq_of_beq hk : len = _); exact ex_i_i2l F hd ha G1
      | l2i => cases (eq_of_beq hk : len = _); exact ex_i_l2i F hd ha G1
      | i2b => cases (eq_of_beq hk : len = _); exact ex_i_i2b F hd ha G1
      | i2c => cases (eq_of_beq hk : len = _); exact ex_i_i2c F hd ha G1
      | lcmp => cases (eq_of_beq hk : len = _); exact ex_i_lcmp F hd ha G1
      | dup => cases (eq_of_beq hk : len = _); exact ex_i_dup F hd ha G1
      | dup_x1 => cases (eq_of_beq hk : len = _); exact ex_i_dup_x1 F hd ha G1
      | dup_x2 => cases (eq_of_beq hk : len = _); exact ex_i_dup_x2 F hd ha G1
      | dup2 => cases (eq_of_beq hk : len = _); exact ex_i_dup2 F hd ha G1
      | pop => cases (eq_of_beq hk : len = _); exact ex_i_pop F hd ha G1
      | goto => cases (eq_of_beq hk : len = _); exact ex_i_goto F hd ha G1
      | tableswitch => exact ex_i_tableswitch F hd ha G1
      | lookupswitch => exact ex_i_lookupswitch F hd ha G1
      | ldc => cases (eq_of_beq hk : len = _); exact ex_i_ldc F K hd ha G1
      | ldc2_w => cases (eq_of_beq hk : len = _); exact ex_i_ldc2 F K hd ha G1
      | getstatic => cases (eq_of_beq hk : len = _); exact ex_i_getstatic F K hd ha G1
      | getfield => cases (eq_of_beq hk : len = _); exact ex_i_getfield F K hd ha G1
      | putfield => cases (eq_of_beq hk : len = _); exact ex_i_putfield F K hd ha G1
      | arraylength => cases (eq_of_beq hk : len = _); exact ex_i_arraylength F K hd ha G1
      | iaload => cases (eq_of_beq hk : len = _); exact ex_i_iaload F K hd ha G1
      | baload => cases (eq_of_beq hk : len = _); exact ex_i_baload F K hd ha G1
      | iastore => cases (eq_of_beq hk : len = _); exact ex_i_iastore F K hd ha G1
      | bastore => cases (eq_of_beq hk : len = _); exact ex_i_bastore F K hd ha G1
      | new => cases (eq_of_beq hk : len = _); exact ex_i_new F K hA hmc hms hle hd ha G1
      | newarray a =>
        cases (eq_of_beq hk : len = _)
        cases a with
        | int => exact ex_i_newarrI F K hA hmc hms hle hd ha G1
        | boolean => exact ex_i_newarrZ F K hA hmc hms hle hd ha G1
        | _ => exfalso; cases ha
      | ifCond c off =>
        cases (eq_of_beq hk : len = _)
        cases c with
        | eq => exact ex_i_if_eq F hd ha G1
        | ne => exact ex_i_if_ne F hd ha G1
        | lt => exact ex_i_if_lt F hd ha G1
        | ge => exact ex_i_if_ge F hd ha G1
        | gt => exact ex_i_if_gt F hd ha G1
        | le => exact ex_i_if_le F hd ha G1
      | if_icmp c off =>
        cases (eq_of_beq hk : len = _)
        cases c with
        | eq => exact ex_i_icmp_eq F hd ha G1
        | ne => exact ex_i_icmp_ne F hd ha G1
        | lt => exact ex_i_icmp_lt F hd ha G1
        | ge => exact ex_i_icmp_ge F hd ha G1
        | gt => exact ex_i_icmp_gt F hd ha G1
        | le => exact ex_i_icmp_le F hd ha G1
      | invokestatic => cases (eq_of_beq hk : len = _); exact ex_i_min F hR hmc hms hle hd ha G1
      | invokespecial => cases (eq_of_beq hk : len = _); exact ex_i_obj F hR hmc hms hle hd ha G1
      | _ => exfalso; simp only [ex_do] at ha; (repeat' split at ha) <;> cases ha
    next => cases ha
  next => cases ha
end EXC
end
section
/-! calls, and the whole -/
section EXD
variable {p : Program} {l : Launch} {e : Env} {R : Room} {s : State} {m : MethodId} {args : Array Value} {below : List Frame} {meth : Method} {c : Code} {Q : State → Prop} {D : va_G} {cI cZ : ClassId} {sa : Nat → Nat} {A : Nat → Prop} {mi mc ms n0 : Nat} {w9 : ex_W} {pc : Nat} {L : ex_L} {st : List Value} {w : ex_W} {X : Option (List Int32)} {pc1 : Nat} {L1 : ex_L} {st1 : List Value} {w1 : ex_W}
theorem ex_pop_s {n : Nat} {st av r : List Value} (h : ex_pop n st = some (av, r)) : st = av.reverse ++ r ∧ av.length = n := by
  unfold ex_pop at h
  split at h
  next hn =>
    cases h
    refine ⟨by rw [List.reverse_reverse, List.take_append_drop], ?_⟩
    rw [List.length_reverse, List.length_take]
    omega
  next => cases h
theorem ex_lv_s {mj : Nat} {av r : List Value} (h : ex_lv mi mj av r = true) : 0 < mj ∧ mj < kNM ∧ kV mj + 1 ≤ kV mi ∧ kL mj + 19 + kW mj ≤ kW mi ∧ (lg_sl av).length ≤ kL mj ∧ (r.map Value.category).sum ≤ 8 := of_decide_eq_true h
theorem ex_call_s {mj : Nat} {av r : List Value} (ha : ex_act X mi pc L st w = some (.inr (.inr (mj, av, r)))) : ex_pop (kA mj) st = some (av, r) ∧ ex_lv mi mj av r = true ∧ ∃ idx,
    (decode (kC mi) pc = .ok (.invokestatic idx, 3) ∧ kM (kO mi) idx = some (mj, 1)) ∨
    (decode (kC mi) pc = .ok (.invokevirtual idx, 3) ∧ kM (kO mi) idx = some (mj, 0) ∧ ∃ h a2, av = .ref h :: a2 ∧ ex_rc w h (kH mj) = true) ∨
    (decode (kC mi) pc = .ok (.invokespecial idx, 3) ∧ kM (kO mi) idx = some (mj, 2) ∧ ∃ h a2, av = .ref h :: a2) := by
  unfold ex_act at ha
  split at ha
  next i len hd =>
    split at ha
    next hk =>
      cases i with
      | invokestatic idx =>
        cases (eq_of_beq hk : len = _)
        simp only [ex_do] at ha
        split at ha
        next m2 hM =>
          split at ha
          next a2 r2 hp =>
            split at ha
            next hl =>
              cases ha
              exact ⟨hp, hl, idx, Or.inl ⟨hd, hM⟩⟩
            next => cases ha
          next => cases ha
        next => exfalso; (repeat' split at ha) <;> cases ha
        next => cases ha
      | invokevirtual idx =>
        cases (eq_of_beq hk : len = _)
        simp only [ex_do] at ha
        split at ha
        next m2 hM =>
          split at ha
          next h2 a2 r2 hp =>
            split at ha
            next hl =>
              cases ha
              exact ⟨hp, hl.1, idx, Or.inr (Or.inl ⟨hd, hM, _, _, rfl, hl.2⟩)⟩
            next => cases ha
          next => cases ha
        next => cases ha
      | invokespecial idx =>
        cases (eq_of_beq hk : len = _)
        simp only [ex_do] at ha
        split at ha
        next m2 hM =>
          split at ha
          next h2 a2 r2 hp =>
            split at ha
            next hl =>
              cases ha
              exact ⟨hp, hl, idx, Or.inr (Or.inr ⟨hd, hM, _, _, rfl⟩)⟩
            next => cases ha
          next => cases ha
        next => exfalso; (repeat' split at ha) <;> cases ha
        next => cases ha
      | newarray a => exfalso; cases a <;> simp only [ex_do] at ha <;> (repeat' split at ha) <;> cases ha
      | _ => exfalso; simp only [ex_do, ex_ldA, ex_ldI, ex_ldJ, ex_stA, ex_stI, ex_stJ, ex_ii, ex_jj, ex_ji, ex_j, ex_br] at ha; (repeat' split at ha) <;> cases ha
    next => cases ha
  next => cases ha
/-- behind a call -/
theorem ex_callW {H : Heap} {locs : List Loc} {cells slots kc ks : Nat} {ls : Array Slot} {st0 rest : List Value} {Qa : State → Outcome → State → Prop} {free : Addr → Prop} (hr : va_Run p l e R s m args below meth c H locs cells slots kc ks (F0 m pc ls st0) rest Qa free)
    (kk : ∀ (v : Option Value) (s0 t : State) (H1 : Heap) (L2 : List Loc), s0.heap = H → Qa s0 (.returned v) t → t.heap = H1 → (∀ q ∈ L2, free q.base) → W p l e R s m args below meth c H1 (locs ++ L2) (cells + kc) (slots + ks) Q (F0 m (pc + 3) ls (v.toList ++ rest))) : W p l e R s m args below meth c H locs cells slots Q (F0 m pc ls st0) := by
  intro T hT X
  obtain ⟨v, s0, t, T1, L2, h0, X1, hL, e1, e2, hq, st⟩ := hr T hT X
  obtain ⟨t2, a1, b1⟩ := kk v s0 t T1.heap L2 h0 hq e1.symm hL T1 rfl X1
  exact ⟨t2, st t2 a1, b1⟩
theorem ex_G_less {L2 : ex_L} (hL : ∀ q ∈ L2, q ∈ L) (G1 : ex_G p l e R s m args below meth c Q D cI cZ sa A mi mc ms n0 w9 pc L2 st w) : ex_G p l e R s m args below meth c Q D cI cZ sa A mi mc ms n0 w9 pc L st w := by
  intro ad H locs cells slots ls M
  obtain ⟨hl, k1, k2, kw, hP, hD, hS, c1, c2, sp, hn0⟩ := M
  refine G1 ad H locs cells slots ls ⟨lv_less hl fun q hq => ?_, fun q hq => k1 q (hL q hq), k2, kw, hP, hD, hS, c1, c2, sp, hn0⟩
  obtain ⟨x, hx, rfl⟩ := List.mem_map.mp hq
  exact List.mem_map.mpr ⟨x, hL x hx, rfl⟩
set_option maxHeartbeats 4000000 in
theorem ex_call_G {n mj : Nat} {av r : List Value} {rv : Option Value} (ih : ex_Snd l X n) (F : ex_F mi p s m meth c args) (K : ex_K D cI cZ sa X A s) (hA : ∀ q, s.heap.size ≤ q → A q) (hR : kV mi ≤ R.frames ∧ kW mi ≤ R.locals) (hmc : mc ≤ R.cells) (hms : ms ≤ R.slots) (ha : ex_act X mi pc L st w = some (.inr (.inr (mj, av, r)))) (hrun : ex_run X n mj 0 (lv_args 0 av) [] w = some (rv, w1)) (hle : w1.length ≤ w9.length ∧ ex_sl w1 ≤ ex_sl w9) (G1 : ex_G p l e R s m args below meth c Q D cI cZ sa A mi mc ms n0 w9 (pc + 3) L (rv.toList ++ r) w1) : ex_G p l e R s m args below meth c Q D cI cZ sa A mi mc ms n0 w9 pc L st w := by
  obtain ⟨hpop, hlv, idx, hcase⟩ := ex_call_s ha
  obtain ⟨rfl, hpn⟩ := ex_pop_s hpop
  obtain ⟨q0, q1, qV, qW, qL, qC⟩ := ex_lv_s hlv
  have hg := ex_gr _ _ _ _ _ _ _ _ hrun
  obtain ⟨y1, y2, y3, y4, y5⟩ := kt_Y q0 q1
  obtain ⟨hx, hb, hml, hr, hlk, hown, hts, hin⟩ := F
  intro ad H locs cells slots ls M
  obtain ⟨hl, k1, k2, kw, hP, hD, hS, c1, c2, sp, hn0⟩ := M
  have kav : ∀ v ∈ av, ex_ok w.length v := fun v hv => k2 v (List.mem_append_left _ (List.mem_reverse.mpr hv))
  have krs : ∀ v ∈ r, ex_ok w.length v := fun v hv => k2 v (List.mem_append_right _ hv)
  have hM := ex_met ih q0 q1 hrun kav qL kw hg D cI cZ ad H.size
  have hAA : ∀ q, va_A (ex_m cI cZ ad w) H.size q → A q := by
    intro q hq
    rcases hq with ⟨k, z, hk⟩ | hq
    · exact hD.2 k (q, z) hk
    · exact hA q (Nat.le_trans hS.1 hq)
  have hpre : ∀ U : State, U.heap = H → s.WarmedH U.vm → ex_Pre D cI cZ X ad w av H.size (av.map (ex_v ad)).toArray U := fun U hU hW => ⟨rfl, by rw [hU], by rw [hU]; exact hP, hD.weaken (fun _ _ _ _ => trivial), ex_K_call K hW hU hS hAA (fun k hk => sp k (Or.inr hk))⟩
  have hcat := ex_catm ad r
  have hroom : 2 * (F0 m pc ls ((av.reverse ++ r).map (ex_v ad))).monitorRoom + ((r.map (ex_v ad)).map fun v => v.category).sum ≤ 8 := by
    rw [hcat]
    show 2 * 0 + _ ≤ 8
    omega
  have hf : cells + (w1.length - w.length) ≤ R.cells ∧ slots + (ex_sl w1 - ex_sl w) ≤ R.slots := by omega
  have hgood := ex_ws_good q0 q1
  have hstk : (av.reverse ++ r).map (ex_v ad) = (av.map (ex_v ad)).reverse ++ r.map (ex_v ad) := by rw [List.map_append, List.map_reverse]
  have hrooms : (ex_rm mj (w1.length - w.length) (ex_sl w1 - ex_sl w)).frames + 1 ≤ R.frames ∧ 8 + (kL mj + 11) + (ex_rm mj (w1.length - w.length) (ex_sl w1 - ex_sl w)).locals ≤ R.locals := by
    show kV mj + 1 ≤ R.frames ∧ 8 + (kL mj + 11) + kW mj ≤ R.locals
    omega
  have kk : ∀ (v : Option Value) (s0 t : State) (H1 : Heap) (L2 : List Loc), s0.heap = H → ex_Post D cI cZ ad w rv w1 H.size (av.map (ex_v ad)).toArray s0 (.returned v) t → t.heap = H1 → (∀ q ∈ L2, va_A (ex_m cI cZ ad w) H.size q.base) → W p l e R s m args below meth c H1 (locs ++ L2) (cells + (w1.length - w.length)) (slots + (ex_sl w1 - ex_sl w)) Q (F0 m (pc + 3) ls (v.toList ++ r.map (ex_v ad))) := by
    intro v s0 t H1 L2 h0 hq ht hL2
    obtain ⟨⟨ad1, e1, e2, e3, e4, e5, e6⟩, hz, hk⟩ := hq
    cases e2
    subst ht
    rw [h0] at hz hk
    have hext : ex_ext w.length ad ad1 := e1
    have GG := G1 ad1 t.heap (locs ++ L2) (cells + (w1.length - w.length)) (slots + (ex_sl w1 - ex_sl w)) ls ⟨by rw [ex_mapq_ext hext k1]; exact hl, fun q hq => ex_ok_mono hg.1 (k1 q hq), fun v hv => ?_, e4, e5, e6.weaken (fun _ q _ h => hAA q.1 h), ?_, by omega, by omega, fun k hk => ?_, by omega⟩
    · have es : (rv.toList ++ r).map (ex_v ad1) = (rv.map (ex_v ad1)).toList ++ r.map (ex_v ad) := by
        rw [List.map_append, ex_map_ext hext krs]
        cases rv <;> rfl
      rw [es] at GG
      exact GG
    · rcases List.mem_append.mp hv with h | h
      · exact e3 v h
      · exact ex_ok_mono hg.1 (krs v h)
    · refine ⟨Nat.le_trans hS.1 hz, fun q h1 h2 => ?_, fun q hq => ?_⟩
      · rw [hk q (Nat.lt_of_lt_of_le h1 hS.1) (fun z => h2 (hAA q z))]
        exact hS.2.1 q h1 h2
      · rcases List.mem_append.mp hq with h | h
        · exact hS.2.2 q h
        · exact hAA _ (hL2 q h)
    · rw [e1 k (by omega)]
      exact sp k hk
  rcases hcase with ⟨hd, hMk⟩ | ⟨hd, hMk, h, a2, rfl, hrc⟩ | ⟨hd, hMk, h, a2, rfl⟩
  · obtain ⟨b1, b2, b3⟩ := kt_M1 hMk
    have hT : GoodIn kWS (va_wsS (kOn (kO mi)) idx (kY mj) (ex_ws mj)) := by
      intro q hq
      rcases List.mem_append.mp hq with z | z
      · rcases List.mem_cons.mp z with rfl | z
        · exact kWS_good _ b1
        · rcases List.mem_cons.mp z with rfl | z
          · exact kWS_good _ b2
          · rw [List.mem_singleton.mp z]
            exact kWS_good _ y2
      · exact hgood q z
    refine ex_callW (va_runS (g := F0 m pc ls ((av.reverse ++ r).map (ex_v ad))) (As := av.map (ex_v ad)) (rest := r.map (ex_v ad)) ⟨hx, hb, hml, hown, hts⟩ hM (va_cwS (kA mj) hts hT rfl rfl rfl ⟨y3.2.1, y3.2.2, b3⟩ hrooms) ⟨ex_Pre_blind, hpre⟩ rfl (by rw [List.length_map, hpn]) hl.1 hstk hroom hd hf) kk
  · obtain ⟨b1, b2, b3, b4, b5, b6⟩ := kt_M0 hMk
    have hT : GoodIn kWS (wsV (kOn (kO mi)) idx (kY mj).cls (kY mj) (ex_ws mj)) := by
      intro q hq
      rcases List.mem_append.mp hq with z | z
      · rcases List.mem_cons.mp z with rfl | z
        · exact kWS_good _ b1
        · rcases List.mem_cons.mp z with rfl | z
          · exact kWS_good _ b2
          · rcases List.mem_cons.mp z with rfl | z
            · exact kWS_good _ b3
            · rw [List.mem_singleton.mp z]
              exact kWS_good _ y2
      · exact hgood q z
    have hrecv : ∃ cellB : Cell, H[ad h]? = some cellB ∧ cellB.vm.isStatics = false ∧ s.vm.findClass (kY mj).cls = some cellB.cls := by
      unfold ex_rc at hrc
      split at hrc
      next h9 =>
        have hs := of_decide_eq_true hrc
        obtain ⟨hj, e1, e2, o1, o2⟩ := ex_o1 hs
        obtain ⟨cell, g1, g2, g3, g4⟩ := (K.2.2.1 (h - 1001) hj).1
        rw [e1, ← sp h (Or.inr o1)] at g1 g4
        exact ⟨cell, (hS.2.1 _ (Array.getElem?_eq_some_iff.mp g1).1 g4).trans g1, g2, by rw [b5 h9]; exact g3⟩
      next h9 =>
        split at hrc
        next cj fs hw =>
          obtain ⟨z1, z2⟩ := (Bool.and_eq_true _ _).mp hrc
          have hc := eq_of_beq z2
          subst hc
          obtain ⟨T, N, hT2⟩ := b6 h9
          exact va_recv K.1 hP hT2 (ex_m_get hw)
        next => cases hrc
    have hn2 : (parseMethodDescriptor (kY mj).desc).map (fun d => d.parameters.length) = some a2.length := by
      cases hpd : parseMethodDescriptor (kY mj).desc with
      | none => rw [hpd] at b4; cases b4
      | some d =>
        rw [hpd] at b4
        have e : d.parameters.length + 1 = kA mj := Option.some.inj b4
        simp only [List.length_cons] at hpn
        show some d.parameters.length = some a2.length
        rw [show d.parameters.length = a2.length by omega]
    have hst2 : ((Value.ref h :: a2).reverse ++ r).map (ex_v ad) = (a2.map (ex_v ad)).reverse ++ .ref (ad h) :: r.map (ex_v ad) := by
      rw [hstk]
      simp [ex_v]
    exact ex_callW (va_runV (g := F0 m pc ls (((Value.ref h :: a2).reverse ++ r).map (ex_v ad))) (C := (kY mj).cls) (b := ad h) (As := a2.map (ex_v ad)) (rest := r.map (ex_v ad)) ⟨hx, hb, hml, hown, hts⟩ hM (cwV a2.length hts hT rfl rfl rfl ⟨rfl, y3.2.1, y3.2.2, hn2⟩ hrooms) ⟨ex_Pre_blind, hrecv, hpre⟩ rfl (by rw [List.length_map]) hl.1 hst2 hroom hd hf) kk
  · obtain ⟨b1, b2, b3, b4, b5⟩ := kt_M2 hMk
    have hn2 : (parseMethodDescriptor (kY mj).desc).map (fun d => d.parameters.length) = some a2.length := by
      cases hpd : parseMethodDescriptor (kY mj).desc with
      | none => rw [hpd] at b3; cases b3
      | some d =>
        rw [hpd] at b3
        have e : d.parameters.length + 1 = kA mj := Option.some.inj b3
        simp only [List.length_cons] at hpn
        show some d.parameters.length = some a2.length
        rw [show d.parameters.length = a2.length by omega]
    have hst2 : ((Value.ref h :: a2).reverse ++ r).map (ex_v ad) = (a2.map (ex_v ad)).reverse ++ .ref (ad h) :: r.map (ex_v ad) := by
      rw [hstk]
      simp [ex_v]
    have hws : ex_ws mj = Cond.code (kY mj) (kC mj) (kL mj) none :: kWS := by unfold ex_ws; rw [b5]
    exact ex_callW (va_runI (g := F0 m pc ls (((Value.ref h :: a2).reverse ++ r).map (ex_v ad))) (b := ad h) (As := a2.map (ex_v ad)) (rest := r.map (ex_v ad)) ⟨hx, hb, hml, hown, hts⟩ hM (cwI a2.length hts hgood hws rfl rfl (hts _ y2) (hts _ b1) (hts _ b2) (y5 b4) ⟨y3.2.1, y3.2.2, hn2⟩ hrooms) ⟨ex_Pre_blind, hpre⟩ rfl (by rw [List.length_map]) hl.1 hst2 hroom hd hf) kk
end EXD
/-- THE TIE: what the pure machine answers, the real one answers -/
theorem ex_snd (l : Launch) (X : Option (List Int32)) : ∀ n, ex_Snd l X n := by
  intro n
  induction n with
  | zero => intro mi pc L st w r w9 hmi h; cases h
  | succ n ih =>
    intro mi pc L st w r w9 hmi h p e R s m args below meth c Q D cI cZ sa A mc ms n0 F K hA hR hmc hms hret
    rw [ex_run_s] at h
    cases ha : ex_act X mi pc L st w with
    | none => rw [ha] at h; cases h
    | some a =>
      rw [ha] at h
      rcases a with ⟨pc1, L1, st1, w1⟩ | r1 | ⟨mj, av, r1⟩
      · dsimp only at h
        have G1 := ih mi pc1 (ex_tr mi pc1 L1) st1 w1 r w9 hmi h p e R s m args below meth c Q D cI cZ sa A mc ms n0 F K hA hR hmc hms hret
        exact ex_step_all F K hA hR hmc hms (ex_gr _ _ _ _ _ _ _ _ h) ha (ex_G_less (fun q hq => ex_tr_mem hq) G1)
      · cases h
        obtain ⟨i, hd, hri, rfl⟩ := ex_ret_s ha
        exact ex_G_less (fun q hq => by cases hq) (hret pc i hd hri)
      · dsimp only at h
        cases hc : ex_run X n mj 0 (lv_args 0 av) [] w with
        | none => rw [hc] at h; cases h
        | some x =>
          obtain ⟨rv, w1⟩ := x
          rw [hc] at h
          dsimp only at h
          have G1 := ih mi (pc + 3) (ex_tr mi (pc + 3) L) (rv.toList ++ r1) w1 r w9 hmi h p e R s m args below meth c Q D cI cZ sa A mc ms n0 F K hA hR hmc hms hret
          exact ex_call_G ih F K hA hR hmc hms ha hc (ex_gr _ _ _ _ _ _ _ _ h) (ex_G_less (fun q hq => ex_tr_mem hq) G1)
end
section
/-! THE CLAIM OUT OF ONE WALK OF THE LAW'S BODY. Your part is whole_start (and what it stands on); all else here is the same for every law, but numbers. -/
def R_law : String := "ExactLoomLaw"
def lw_P (b : Addr) (xs : List Int32) (args : Array Value) (s : State) : Prop := args = #[.ref b] ∧ s.IntsAt b xs ∧ xs.length ≤ 3 ∧ (Jvm.Cond.and given_1 narrow_1).before args s = true
def lw_Q (_ : Array Value) (s : State) (o : Outcome) (t : State) : Prop := o = .returned (some (.int 1)) ∧ Framed s o t [] 600000 7302250
def lw_Z (below : List Frame) (a : Array Value) (s : State) : State → Prop := fun t => ∃ o, t.status = .running ∧ Ended t below o ∧ lw_Q a s o t
/-- the law's own end, with 1 on the stack, nothing written that was there before, its room as the claim has it -/
theorem lw_ret {p : Program} {l : Launch} {e : Env} {s : State} {m : MethodId} {below : List Frame} {meth : Method} {c : Code} {b : Nat} (hx : p.tables.exec = Jvm.exec) (hb : c.code = code) (hr : meth.sig.returnType = ret) (hlocks : meth.locks = false) {pc : Nat} {H : Heap} {ls : Array Slot} (hdg : decode code pc = .ok (.ireturn, 1)) : W p l e room_1 s m #[Value.ref b] below meth c H [] 600000 7302250 (lw_Z below #[Value.ref b] s) (F0 m pc ls [.int 1]) := by
  intro T hT X
  obtain ⟨fs, hret, hrun, hended, hW, hframe⟩ := X.leave (v := some (.int 1)) (hlocks := hlocks) (fun h => by rw [hr] at h; cases h)
  have hmeth' : T.vm.method? m = some meth := X.method'
  refine ⟨T.setFrames fs, ?_, .returned (some (.int 1)), hrun, hended, rfl, ⟨_, rfl⟩, hW, hframe⟩
  jvm_step X.here [X.here.top, hx, hb, hdg, hmeth', hr, ret, narrow_b1]
  (try refine ⟨rfl, ?_⟩); (try refine ⟨rfl, ?_⟩)
  first | (intro acts; rw [hret _ acts rfl rfl rfl]) | rw [hret _ _ rfl rfl rfl]
  exact Steps.refl _
/-- what holds at the law's entry: the machine, the code, the tables' words (any of lw_tbl by 'hts w (by decide +kernel)'), the script of L ints xs at the cell b, what the Statement gives of the start (any of its parts by flat_of_before) -/
def lw_At (p : Program) (s : State) (m : MethodId) (meth : Method) (c : Code) (b L : Nat) (xs : Nat → Int32) : Prop :=
  p.tables.exec = Jvm.exec ∧ c.code = code ∧ meth.sig.returnType = ret ∧ c.maxLocals = 4 ∧ s.vm.findClass R_law = some m.cls ∧ (∀ w ∈ lw_tbl, w.before #[Value.ref b] s = true) ∧ va_X b L xs s s.heap ∧ b < s.heap.size ∧ meth.locks = false ∧ (Jvm.Cond.and given_1 narrow_1).before #[Value.ref b] s = true
def kNar : List Cond := flatC (Jvm.Cond.and given_1 narrow_1)
def kSp : List Nat := [176, 200, 208, 217, 226, 235, 245, 254, 186, 192, 265, 9, 18, 25, 33, 41, 49, 166, 58, 66, 154, 161, 71, 78, 86, 94, 101, 108, 115, 123, 131, 139, 146]
def kTm (j : Nat) : Term := match kSR[j]? with
  | some q => .string q.1 q.2.1
  | none => .int 0
def kNok (j : Nat) : Bool := decide (kNar[kSp.getD j 0]? = some (.exactly (kTm j) "java/lang/String")) && (decide (kNar[kSp.getD j 0 + 1]? = some (.eq (.field (kTm j) "java/lang/String" "coder" "B") (.int 0))) && (decide (kNar[kSp.getD j 0 + 2]? = some (.arrayOf (.field (kTm j) "java/lang/String" "value" "[B") .byte)) && (decide (kNar[kSp.getD j 0 + 3]? = some (.eq (.length (.field (kTm j) "java/lang/String" "value" "[B")) (.int (Int32.ofNat (kX j).length)))) && (decide ((kX j).length < 100) && (List.range (kX j).length).all (fun i => decide (kNar[kSp.getD j 0 + 4 + i]? = some (.eq (.elem (.field (kTm j) "java/lang/String" "value" "[B") (.int (Int32.ofNat i))) (.int ((kX j).getD i 0)))))))))
set_option maxRecDepth 100000 in
theorem kNok_all : (List.range nS).all kNok = true := by decide +kernel
def kRp : List Nat := [594, 727, 728, 729, 730, 735, 736, 737, 625, 640, 764, 320, 400, 406, 421, 422, 427, 513, 432, 433, 507, 508, 493, 494, 495, 496, 497, 498, 499, 500, 501, 502, 503]
def kRok (j : Nat) : Bool := match kSR[j]? with
  | some q => decide (lw_tbl[kRp.getD j 0]? = some (.stringRef q.1 q.2.1 q.2.2.1)) && decide (q.2.2.2 = j)
  | none => false
set_option maxRecDepth 100000 in
theorem kRok_all : (List.range nS).all kRok = true := by decide +kernel
theorem kSR_len : kSR.length = nS := by decide +kernel
def kIok (ci : Nat) : Bool := match kCl[ci]? with
  | some r => kAt (kIns.getD ci 0) (.instantiable r.1 r.2.2)
  | none => false
set_option maxRecDepth 100000 in
theorem kIok_all : (List.range 9).all kIok = true := by decide +kernel
theorem kCl_len : kCl.length = 9 := rfl
theorem ex_arr {args : Array Value} {s : State} {ty : FieldType} (h : (Cond.arrayClass ty).before args s = true) : ∃ cA : ClassId, s.vm.findClass ("[" ++ ty.toString) = some cA ∧ ArrOfT s cA ty := by
  obtain ⟨cA, kA, comp, h1, h2, h3⟩ := Cond.arrayClass_spec h
  exact ⟨cA, h1, fun n z => ⟨fun k h => (by cases h), kA, h2, comp, h3⟩⟩
set_option maxHeartbeats 4000000 in
/-- the start: what stands outside, out of what the Statement gives -/
theorem ex_K0 {s : State} {b : Nat} {X : List Int32} (hts : ∀ w ∈ lw_tbl, w.before #[Value.ref b] s = true) (hX : va_X b X.length (fun j => X.getD j 0) s s.heap) (hbl : b < s.heap.size) (hgv : (Jvm.Cond.and given_1 narrow_1).before #[Value.ref b] s = true) : ∃ (D : va_G) (cI cZ : ClassId) (sa : Nat → Nat), sa 1000 = b ∧ ex_K D cI cZ sa (some X) (fun q => s.heap.size ≤ q) s := by
  have hn : ∀ w ∈ kNar, w.before #[Value.ref b] s = true := flat_of_before _ hgv
  have hw : ∀ w ∈ kWS, w.before #[Value.ref b] s = true := fun w h => hts w (List.mem_filter.mp h).1
  have hA : ∀ a : Nat, a < s.heap.size → ¬ (s.heap.size ≤ a) := fun a h z => by omega
  have hk : ∀ ci : Nat, ∃ q : ClassId × (Nat → Nat), ∀ r : vw_C, kCl[ci]? = some r → u_Kn s r.1 r.2.1 r.2.2 q.1 q.2 := by
    intro ci
    cases hc : kCl[ci]? with
    | none => exact ⟨(0, fun _ => 0), fun r h => by cases h⟩
    | some r =>
      obtain ⟨C, T, N⟩ := r
      have hl : ci < 9 := (List.getElem?_eq_some_iff.mp hc).1
      have h1 := List.all_eq_true.mp kIok_all ci (List.mem_range.mpr hl)
      unfold kIok at h1
      rw [hc] at h1
      obtain ⟨cC, iS, h2⟩ := u_known (args := #[Value.ref b]) (s := s) hw (kt_C hc).1 (hw _ (kAt_s h1))
      exact ⟨(cC, iS), fun r h => by cases h; exact h2⟩
  obtain ⟨dq, hdq⟩ := Classical.axiomOfChoice hk
  obtain ⟨cI, hI1, hI2⟩ := ex_arr (hw _ kt_A0)
  obtain ⟨cZ, hZ1, hZ2⟩ := ex_arr (hw _ kt_A1)
  have h0 : ∀ j : Nat, ∃ q : Nat × Nat, j < nS → (kTm j).eval #[Value.ref b] s none [] s = some (.ref q.1) ∧ va_O "java/lang/String" q.1 (fun q => s.heap.size ≤ q) s s.heap ∧ va_OF "java/lang/String" "coder" "B" (.int 0) q.1 (fun q => s.heap.size ≤ q) s s.heap ∧ va_OF "java/lang/String" "value" "[B" (.ref q.2) q.1 (fun q => s.heap.size ≤ q) s s.heap ∧ va_T .byte q.2 (kX j).length (fun i => .int ((kX j).getD i 0)) (fun q => s.heap.size ≤ q) s s.heap := by
    intro j
    by_cases hj : j < nS
    · have h1 := List.all_eq_true.mp kNok_all j (List.mem_range.mpr hj)
      unfold kNok at h1
      obtain ⟨a1, h2⟩ := (Bool.and_eq_true _ _).mp h1
      obtain ⟨a2, h3⟩ := (Bool.and_eq_true _ _).mp h2
      obtain ⟨a3, h4⟩ := (Bool.and_eq_true _ _).mp h3
      obtain ⟨a4, h5⟩ := (Bool.and_eq_true _ _).mp h4
      obtain ⟨a5, a6⟩ := (Bool.and_eq_true _ _).mp h5
      have b1 := hn _ (List.mem_of_getElem? (of_decide_eq_true a1))
      have b2 := hn _ (List.mem_of_getElem? (of_decide_eq_true a2))
      have b3 := hn _ (List.mem_of_getElem? (of_decide_eq_true a3))
      have b4 := hn _ (List.mem_of_getElem? (of_decide_eq_true a4))
      have b5 := of_decide_eq_true a5
      obtain ⟨a, c, cA, kA, q1, q2, q3, q4, q5, q6, -⟩ := Cond.exactly_spec (args := #[Value.ref b]) (first := s) (o := none) (s := s) (idx := []) (t := kTm j) (cls := "java/lang/String") b1
      obtain ⟨t, ht, hT⟩ := va_Tof (f := fun i => .int ((kX j).getD i 0)) (A := fun q => s.heap.size ≤ q) (by omega) b3 (va_eqt b4) (fun i hi => va_eqt (hn _ (List.mem_of_getElem? (of_decide_eq_true (List.all_eq_true.mp a6 i (List.mem_range.mpr hi)))))) hA
      exact ⟨(a, t), fun _ => ⟨q1, ⟨cA, q3, q5, by rw [q6]; exact q2, hA a (Array.getElem?_eq_some_iff.mp q3).1⟩, vk_OFof q1 (va_eqt b2) hA, vk_OFof q1 ht hA, hT⟩⟩
    · exact ⟨(0, 0), fun h => absurd h hj⟩
  obtain ⟨da, hda⟩ := Classical.axiomOfChoice h0
  have hfm : ∃ f : Nat, va_Z "jdk/internal/util/Preconditions" "SIOOBE_FORMATTER" "Ljava/util/function/BiFunction;" (ex_fm f) (fun q => s.heap.size ≤ q) s s.heap := by
    rcases va_Zqof (args := #[Value.ref b]) (s := s) (C := "jdk/internal/util/Preconditions") (n := "SIOOBE_FORMATTER") (d := "Ljava/util/function/BiFunction;") (A := fun q => s.heap.size ≤ q) (hts _ (List.mem_of_getElem? (i := 350) (by decide +kernel))) (hts _ (List.mem_of_getElem? (i := 96) (by decide +kernel))) (hn _ (List.mem_of_getElem? (i := 5) (by decide +kernel))) hA with h | ⟨t, h⟩
    · exact ⟨0, h⟩
    · exact ⟨t + 1, h⟩
  obtain ⟨fm, hfm⟩ := hfm
  have hcs : va_Z "java/lang/String" "COMPACT_STRINGS" "Z" (.int 1) (fun q => s.heap.size ≤ q) s s.heap := va_Zof (args := #[Value.ref b]) (hts _ (List.mem_of_getElem? (i := 334) (by decide +kernel))) (hts _ (List.mem_of_getElem? (i := 94) (by decide +kernel))) (va_eqt (hn _ (List.mem_of_getElem? (i := 4) (by decide +kernel)))) hA
  refine ⟨(fun c => (dq c).1, fun c => (dq c).2), cI, cZ, fun k => if k = 1000 then b else if k = 3000 then fm else if k < 2001 then (da (k - 1001)).1 else (da (k - 2001)).2, rfl, ⟨fun c q hq => hdq c q hq, fun k q hq => ?_⟩, fun w hwn => ?_, fun j hj => ?_, fun q hq => ?_, hcs, ?_, fun xs hx => ?_⟩
  · cases k with
    | zero => cases hq; exact ⟨hI2, hI1⟩
    | succ k => cases k with
      | zero => cases hq; exact ⟨hZ2, hZ1⟩
      | succ k => cases hq
  · obtain ⟨a, i, bb, n, d, hh, rfl⟩ := ex_NW_s hwn
    exact va_Nw.of rfl (hts _ (List.mem_filter.mp hwn).1)
  · have hj2 : j < 33 := hj
    have e1 : (if 1001 + j = 1000 then b else if 1001 + j = 3000 then fm else if 1001 + j < 2001 then (da (1001 + j - 1001)).1 else (da (1001 + j - 2001)).2) = (da j).1 := by
      rw [if_neg (by omega), if_neg (by omega), if_pos (by omega), show 1001 + j - 1001 = j by omega]
    have e2 : (if 2001 + j = 1000 then b else if 2001 + j = 3000 then fm else if 2001 + j < 2001 then (da (2001 + j - 1001)).1 else (da (2001 + j - 2001)).2) = (da j).2 := by
      rw [if_neg (by omega), if_neg (by omega), if_neg (by omega), show 2001 + j - 2001 = j by omega]
    dsimp only
    rw [e1, e2]
    exact (hda j hj).2
  · obtain ⟨j, hq⟩ := List.getElem?_of_mem hq
    have hj : j < nS := by rw [← kSR_len]; exact (List.getElem?_eq_some_iff.mp hq).1
    have hj2 : j < 33 := hj
    have h1 := List.all_eq_true.mp kRok_all j (List.mem_range.mpr hj)
    unfold kRok at h1
    rw [hq] at h1
    obtain ⟨a1, a2⟩ := (Bool.and_eq_true _ _).mp h1
    have a2 := of_decide_eq_true a2
    have h2 := (hda j hj).1
    unfold kTm at h2
    rw [hq] at h2
    have e1 : (if 1001 + j = 1000 then b else if 1001 + j = 3000 then fm else if 1001 + j < 2001 then (da (1001 + j - 1001)).1 else (da (1001 + j - 2001)).2) = (da j).1 := by
      rw [if_neg (by omega), if_neg (by omega), if_pos (by omega), show 1001 + j - 1001 = j by omega]
    dsimp only
    rw [a2, e1]
    exact vk_R.of (hts _ (List.mem_of_getElem? (of_decide_eq_true a1))) h2
  · exact hfm
  · cases hx
    exact ⟨hX, hbl, fun z => by have z : s.heap.size ≤ b := z; omega⟩
theorem ex_lawF : kC 0 = code ∧ kL 0 = 4 ∧ kR 0 = ret ∧ kOn (kO 0) = R_law ∧ kN0 0 = false := ⟨rfl, rfl, rfl, rfl, rfl⟩
theorem ex_lawR : kV 0 ≤ room_1.frames ∧ kW 0 ≤ room_1.locals ∧ 0 < kNM := by decide
/-- THE START: a run of the pure machine that answers 1 is all that is wanting -/
theorem ex_start {p : Program} {e : Env} {s : State} {m : MethodId} {below : List Frame} {meth : Method} {c : Code} (l : Launch) {b L : Nat} {xs : Nat → Int32} (C0 : lw_At p s m meth c b L xs) (hp : ∃ n w9, ex_run (some ((List.range L).map xs)) n 0 0 [(0, .ref 1000)] [] [] = some (some (.int 1), w9) ∧ w9.length ≤ 600000 ∧ ex_sl w9 ≤ 7302250) : W p l e room_1 s m #[Value.ref b] below meth c s.heap [] 0 0 (lw_Z below #[Value.ref b] s) (entryFrame m ([Value.ref b] : List Value).toArray 4) := by
  obtain ⟨hx, hb, hr, hml, hown, hts, hX, hbl, hlk, hgv⟩ := C0
  obtain ⟨n, w9, hrun, hc9, hs9⟩ := hp
  have hXl : ((List.range L).map xs).length = L := by rw [List.length_map, List.length_range]
  have hX2 : va_X b ((List.range L).map xs).length (fun j => ((List.range L).map xs).getD j 0) s s.heap := by
    rw [hXl]
    obtain ⟨scr, g1, g2, g3, g4, g5⟩ := hX
    refine ⟨scr, g1, g2, g3, g4, fun j hj => ?_⟩
    have e1 : ((List.range L).map xs).getD j 0 = xs j := by
      rw [List.getD_eq_getElem?_getD, List.getElem?_map, List.getElem?_range hj]
      rfl
    exact (g5 j hj).trans (congrArg (fun z => some (Value.int z)) e1.symm)
  obtain ⟨D, cI, cZ, sa, hsa, K⟩ := ex_K0 hts hX2 hbl hgv
  obtain ⟨f1, f2, f3, f4, f5⟩ := ex_lawF
  obtain ⟨r1, r2, r3⟩ := ex_lawR
  have F : ex_F 0 p s m meth c #[Value.ref b] := ⟨hx, hb.trans f1.symm, hml.trans f2.symm, hr.trans f3.symm, hlk, by rw [f4]; exact hown, fun w hw => hts w (List.mem_filter.mp hw).1, fun z => by rw [f5] at z; cases z⟩
  have hl := lv_entry ([Value.ref b] : List Value) (n := 4) (Nat.le_of_ble_eq_true rfl)
  rw [lg_entry_eq]
  generalize (lg_sl ([Value.ref b] : List Value) ++ List.replicate (4 - (lg_sl ([Value.ref b] : List Value)).length) Slot.unset).toArray = ls at hl ⊢
  have hl : lv_has ls (kL 0) ([(0, Value.ref 1000)].map (ex_q sa)) := by
    rw [f2]
    show lv_has ls 4 [(0, Value.ref (sa 1000))]
    rw [hsa]
    exact hl
  refine ex_snd l (some ((List.range L).map xs)) n 0 0 [(0, .ref 1000)] [] [] (some (.int 1)) w9 r3 hrun p e room_1 s m #[Value.ref b] below meth c (lw_Z below #[Value.ref b] s) D cI cZ sa (fun q => s.heap.size ≤ q) 600000 7302250 0 F K (fun q h => h) ⟨r1, r2⟩ (Nat.le_refl _) (Nat.le_refl _) ?_ sa s.heap [] 0 0 ls ⟨hl, ?_, fun v hv => (by cases hv), fun v hv => (by cases hv), ?_, ?_, va_S.rf, ?_, ?_, fun _ _ => rfl, Nat.le_refl _⟩
  · intro pc1 i hd hri ad H locs cells slots ls1 M
    obtain ⟨hl1, k1, k2, kw, hP1, hD1, hS1, c1, c2, sp, hn0⟩ := M
    unfold ex_ri at hri
    split at hri
    next v heq =>
      cases heq
      refine va_forget (fun q hq => hS1.2.2 q hq) ?_
      refine W.widen (k := 600000) (n := 7302250) (by omega) (by omega) ?_
      exact lw_ret hx hb hr hlk (by rw [← f1]; exact hd)
    next heq => cases heq
    next heq => cases heq
    next heq => cases heq
    next => cases hri
  · intro q hq
    rw [List.mem_singleton.mp hq]
    exact Or.inr (by decide)
  · intro k q hq
    cases hq
  · exact ⟨fun i j x y hi => (by cases hi), fun k q hq => (by cases hq)⟩
  · show 0 + w9.length ≤ 600000 + 0
    omega
  · show 0 + ex_sl w9 ≤ 7302250 + 0
    omega
end
section
/-! equations of the pure machine, an instruction each -/
section EXR
variable {X : Option (List Int32)} {mi pc : Nat} {L L1 : ex_L} {r : List Value} {w : ex_W}
theorem ex_tr_n (h : kK mi pc = none) : ex_tr mi pc L = L := by unfold ex_tr; rw [h]
theorem ex_tr_k {ks : List Nat} (h : kK mi pc = some ks) (h1 : ex_keep ks L = L1) : ex_tr mi pc L = L1 := by unfold ex_tr; rw [h]; exact h1
/-- one step -/
theorem ex_go_i {st st1 : List Value} {w1 : ex_W} {pc1 : Nat} {L2 : ex_L} (h : ex_act X mi pc L st w = some (.inl (pc1, L1, st1, w1))) (ht : ex_tr mi pc1 L1 = L2) : ex_go X mi pc L st w = ex_go X mi pc1 L2 st1 w1 := by
  rw [ex_go_eq, h, ← ht]
theorem ex_act_i {i : Jvm.ClassFile.Instr} {n : Nat} {st : List Value} (d : decode (kC mi) pc = .ok (i, n)) (hn : ex_lok i n = true) : ex_act X mi pc L st w = ex_do X mi pc i L st w := by
  unfold ex_act
  rw [d]
  show (if ex_lok i n = true then _ else _) = _
  rw [if_pos hn]
/-- a step that the instruction alone decides -/
theorem ex_go_d {i : Jvm.ClassFile.Instr} {n : Nat} {st st1 : List Value} {w1 : ex_W} {pc1 : Nat} {L2 : ex_L} (d : decode (kC mi) pc = .ok (i, n)) (hn : ex_lok i n = true) (h : ex_do X mi pc i L st w = some (.inl (pc1, L1, st1, w1))) (ht : ex_tr mi pc1 L1 = L2) : ex_go X mi pc L st w = ex_go X mi pc1 L2 st1 w1 :=
  ex_go_i ((ex_act_i d hn).trans h) ht
theorem ex_go_ret {i : Jvm.ClassFile.Instr} {n : Nat} {st : List Value} {v : Option Value} (d : decode (kC mi) pc = .ok (i, n)) (hn : ex_lok i n = true) (h : ex_do X mi pc i L st w = some (.inr (.inl v))) : ex_go X mi pc L st w = some (v, w) := by
  rw [ex_go_eq, ex_act_i d hn, h]
noncomputable def ex_call (X : Option (List Int32)) (mj : Nat) (av : List Value) (w : ex_W) : ex_O := ex_go X mj 0 (lv_args 0 av) [] w
theorem ex_go_call {i : Jvm.ClassFile.Instr} {n mj : Nat} {st av : List Value} {L2 : ex_L} (d : decode (kC mi) pc = .ok (i, n)) (hn : ex_lok i n = true) (h : ex_do X mi pc i L st w = some (.inr (.inr (mj, av, r)))) (ht : ex_tr mi (pc + 3) L = L2) : ex_go X mi pc L st w = (ex_call X mj av w).bind (fun q => ex_go X mi (pc + 3) L2 (q.1.toList ++ r) q.2) := by
  rw [ex_go_eq, ex_act_i d hn, h, ← ht]
  rfl
theorem ex_go_none {i : Jvm.ClassFile.Instr} {n : Nat} {st : List Value} (d : decode (kC mi) pc = .ok (i, n)) (hn : ex_lok i n = true) (h : ex_do X mi pc i L st w = none) : ex_go X mi pc L st w = none := by
  rw [ex_go_eq, ex_act_i d hn, h]
theorem go_br {c : Jvm.ClassFile.Cond} {off : Int} {x : Int32} {t : Nat} {L2 L3 : ex_L} (d : decode (kC mi) pc = .ok (.ifCond c off, 3)) (hj : (pc : Int) + off = (t : Int)) (h1 : ex_tr mi t L = L2) (h2 : ex_tr mi (pc + 3) L = L3) : ex_go X mi pc L (.int x :: r) w = if ex_cb c x 0 = true then ex_go X mi t L2 r w else ex_go X mi (pc + 3) L3 r w := by
  rw [ex_go_eq, ex_act_i d rfl]
  have e : ex_do X mi pc (.ifCond c off) L (.int x :: r) w = some (.inl (if ex_cb c x 0 = true then t else pc + 3, L, r, w)) := by
    show ex_br pc off (ex_cb c x 0) L r w = _
    unfold ex_br
    rw [hj, if_pos (Int.natCast_nonneg t), Int.toNat_natCast]
  rw [e]
  dsimp only
  by_cases hc : ex_cb c x 0 = true
  · rw [if_pos hc, if_pos hc, h1]
  · rw [if_neg hc, if_neg hc, h2]
theorem go_br2 {c : Jvm.ClassFile.Cond} {off : Int} {x y : Int32} {t : Nat} {L2 L3 : ex_L} (d : decode (kC mi) pc = .ok (.if_icmp c off, 3)) (hj : (pc : Int) + off = (t : Int)) (h1 : ex_tr mi t L = L2) (h2 : ex_tr mi (pc + 3) L = L3) : ex_go X mi pc L (.int y :: .int x :: r) w = if ex_cb c x y = true then ex_go X mi t L2 r w else ex_go X mi (pc + 3) L3 r w := by
  rw [ex_go_eq, ex_act_i d rfl]
  have e : ex_do X mi pc (.if_icmp c off) L (.int y :: .int x :: r) w = some (.inl (if ex_cb c x y = true then t else pc + 3, L, r, w)) := by
    show ex_br pc off (ex_cb c x y) L r w = _
    unfold ex_br
    rw [hj, if_pos (Int.natCast_nonneg t), Int.toNat_natCast]
  rw [e]
  dsimp only
  by_cases hc : ex_cb c x y = true
  · rw [if_pos hc, if_pos hc, h1]
  · rw [if_neg hc, if_neg hc, h2]
theorem go_goto {off : Int} {t : Nat} {st : List Value} {L2 : ex_L} (d : decode (kC mi) pc = .ok (.goto off, 3)) (hj : (pc : Int) + off = (t : Int)) (h1 : ex_tr mi t L = L2) : ex_go X mi pc L st w = ex_go X mi t L2 st w := by
  refine ex_go_d d rfl ?_ h1
  show ex_j pc off L st w = _
  unfold ex_j
  rw [hj, if_pos (Int.natCast_nonneg t), Int.toNat_natCast]
theorem go_getf {idx ci k : Nat} {ne : Bool} {h : Nat} {L2 : ex_L} (d : decode (kC mi) pc = .ok (.getfield idx, 3)) (hF : kF (kO mi) idx = some (ci, k, ne)) (ht : ex_tr mi (pc + 3) L = L2) (hh : h < 1000) : ex_go X mi pc L (.ref h :: r) w = (ex_gf w h ci k).bind (fun v => ex_go X mi (pc + 3) L2 (v :: r) w) := by
  cases hg : ex_gf w h ci k with
  | none =>
    refine ex_go_none d rfl ?_
    simp only [ex_do]
    rw [if_pos hh, hF]
    simp only [hg]
  | some v =>
    refine ex_go_d d rfl ?_ ht
    simp only [ex_do]
    rw [if_pos hh, hF]
    simp only [hg]
theorem go_putf {idx ci k : Nat} {ne : Bool} {h : Nat} {v : Value} {L2 : ex_L} (d : decode (kC mi) pc = .ok (.putfield idx, 3)) (hF : kF (kO mi) idx = some (ci, k, ne)) (hv : narrow (kT ci k) v = v ∧ fits (kT ci k) v = true ∧ (kQ ci k = true → kN0 mi = true ∧ ne = false ∧ kD ci = kO mi)) (ht : ex_tr mi (pc + 3) L = L2) (hh : h < 1000) : ex_go X mi pc L (v :: .ref h :: r) w = (ex_pf w h ci k v).bind (fun w1 => ex_go X mi (pc + 3) L2 r w1) := by
  cases hg : ex_pf w h ci k v with
  | none =>
    refine ex_go_none d rfl ?_
    simp only [ex_do]
    rw [if_pos hh, hF]
    simp only [hg]
    rw [if_pos hv]
  | some w1 =>
    refine ex_go_d d rfl ?_ ht
    simp only [ex_do]
    rw [if_pos hh, hF]
    simp only [hg]
    rw [if_pos hv]
theorem go_alen {a : Nat} {L2 : ex_L} (d : decode (kC mi) pc = .ok (.arraylength, 1)) (ht : ex_tr mi (pc + 1) L = L2) (hh : a < 1000) : ex_go X mi pc L (.ref a :: r) w = (ex_an w a).bind (fun v => ex_go X mi (pc + 1) L2 (.int v :: r) w) := by
  cases hg : ex_an w a with
  | none =>
    refine ex_go_none d rfl ?_
    simp only [ex_do, if_pos hh, hg]
  | some v =>
    refine ex_go_d d rfl ?_ ht
    simp only [ex_do, if_pos hh, hg]
theorem go_iald {a : Nat} {i : Int32} {L2 : ex_L} (d : decode (kC mi) pc = .ok (.iaload, 1)) (ht : ex_tr mi (pc + 1) L = L2) (hh : a < 1000) : ex_go X mi pc L (.int i :: .ref a :: r) w = (ex_al w a 0 i).bind (fun v => ex_go X mi (pc + 1) L2 (.int v :: r) w) := by
  cases hg : ex_al w a 0 i with
  | none =>
    refine ex_go_none d rfl ?_
    simp only [ex_do, if_pos hh, hg]
  | some v =>
    refine ex_go_d d rfl ?_ ht
    simp only [ex_do, if_pos hh, hg]
theorem go_bald {a : Nat} {i : Int32} {L2 : ex_L} (d : decode (kC mi) pc = .ok (.baload, 1)) (ht : ex_tr mi (pc + 1) L = L2) (hh : a < 1000) : ex_go X mi pc L (.int i :: .ref a :: r) w = (ex_al w a 1 i).bind (fun v => ex_go X mi (pc + 1) L2 (.int v :: r) w) := by
  cases hg : ex_al w a 1 i with
  | none =>
    refine ex_go_none d rfl ?_
    simp only [ex_do, if_pos hh, hg]
  | some v =>
    refine ex_go_d d rfl ?_ ht
    simp only [ex_do, if_pos hh, hg]
theorem go_iast {a : Nat} {i x : Int32} {L2 : ex_L} (d : decode (kC mi) pc = .ok (.iastore, 1)) (ht : ex_tr mi (pc + 1) L = L2) (hh : a < 1000) : ex_go X mi pc L (.int x :: .int i :: .ref a :: r) w = (ex_as w a 0 i x).bind (fun w1 => ex_go X mi (pc + 1) L2 r w1) := by
  cases hg : ex_as w a 0 i x with
  | none =>
    refine ex_go_none d rfl ?_
    simp only [ex_do, if_pos hh, hg]
  | some v =>
    refine ex_go_d d rfl ?_ ht
    simp only [ex_do, if_pos hh, hg]
theorem go_bast {a : Nat} {i x : Int32} {L2 : ex_L} (d : decode (kC mi) pc = .ok (.bastore, 1)) (ht : ex_tr mi (pc + 1) L = L2) (hh : a < 1000) (hx : vp_nar .boolean x = x) : ex_go X mi pc L (.int x :: .int i :: .ref a :: r) w = (ex_as w a 1 i x).bind (fun w1 => ex_go X mi (pc + 1) L2 r w1) := by
  cases hg : ex_as w a 1 i x with
  | none =>
    refine ex_go_none d rfl ?_
    simp only [ex_do, if_pos (And.intro hh hx), hg]
  | some v =>
    refine ex_go_d d rfl ?_ ht
    simp only [ex_do, if_pos (And.intro hh hx), hg]
/-- the script itself -/
theorem go_slen {xs : List Int32} {L2 : ex_L} (d : decode (kC mi) pc = .ok (.arraylength, 1)) (ht : ex_tr mi (pc + 1) L = L2) : ex_go (some xs) mi pc L (.ref 1000 :: r) w = ex_go (some xs) mi (pc + 1) L2 (.int (Int32.ofNat xs.length) :: r) w := ex_go_d d rfl rfl ht
theorem go_sld {xs : List Int32} {i : Int32} {L2 : ex_L} (d : decode (kC mi) pc = .ok (.iaload, 1)) (ht : ex_tr mi (pc + 1) L = L2) (hi : ¬ i < 0) : ex_go (some xs) mi pc L (.int i :: .ref 1000 :: r) w = (xs[i.toNatClampNeg]?).bind (fun v => ex_go (some xs) mi (pc + 1) L2 (.int v :: r) w) := by
  cases hg : xs[i.toNatClampNeg]? with
  | none =>
    refine ex_go_none d rfl ?_
    simp only [ex_do]
    rw [if_neg (by decide), if_pos (And.intro trivial hi)]
    simp only [hg]
  | some v =>
    refine ex_go_d d rfl ?_ ht
    simp only [ex_do]
    rw [if_neg (by decide), if_pos (And.intro trivial hi)]
    simp only [hg]
theorem go_virt {idx mj h : Nat} {st av rs : List Value} {L2 : ex_L} (d : decode (kC mi) pc = .ok (.invokevirtual idx, 3)) (hM : kM (kO mi) idx = some (mj, 0)) (hp : ex_pop (kA mj) st = some (.ref h :: av, rs)) (hl : ex_lv mi mj (.ref h :: av) rs = true) (ht : ex_tr mi (pc + 3) L = L2) (hr : ex_rc w h (kH mj) = true) : ex_go X mi pc L st w = (ex_call X mj (.ref h :: av) w).bind (fun q => ex_go X mi (pc + 3) L2 (q.1.toList ++ rs) q.2) := by
  refine ex_go_call d rfl ?_ ht
  simp only [ex_do, hM, hp]
  rw [if_pos (And.intro hl hr)]
theorem go_spec {idx mj h : Nat} {st av rs : List Value} {L2 : ex_L} (d : decode (kC mi) pc = .ok (.invokespecial idx, 3)) (hM : kM (kO mi) idx = some (mj, 2)) (hp : ex_pop (kA mj) st = some (.ref h :: av, rs)) (hl : ex_lv mi mj (.ref h :: av) rs = true) (ht : ex_tr mi (pc + 3) L = L2) : ex_go X mi pc L st w = (ex_call X mj (.ref h :: av) w).bind (fun q => ex_go X mi (pc + 3) L2 (q.1.toList ++ rs) q.2) := by
  refine ex_go_call d rfl ?_ ht
  simp only [ex_do, hM, hp]
  rw [if_pos hl]
theorem go_stat {idx mj : Nat} {st av rs : List Value} {L2 : ex_L} (d : decode (kC mi) pc = .ok (.invokestatic idx, 3)) (hM : kM (kO mi) idx = some (mj, 1)) (hp : ex_pop (kA mj) st = some (av, rs)) (hl : ex_lv mi mj av rs = true) (ht : ex_tr mi (pc + 3) L = L2) : ex_go X mi pc L st w = (ex_call X mj av w).bind (fun q => ex_go X mi (pc + 3) L2 (q.1.toList ++ rs) q.2) := by
  refine ex_go_call d rfl ?_ ht
  simp only [ex_do, hM, hp]
  rw [if_pos hl]
theorem go_min {idx mj : Nat} {x y : Int32} {L2 : ex_L} (d : decode (kC mi) pc = .ok (.invokestatic idx, 3)) (hM : kM (kO mi) idx = some (mj, 5)) (hl : (r.map Value.category).sum ≤ 8 ∧ 1 ≤ kV mi ∧ 21 ≤ kW mi) (ht : ex_tr mi (pc + 3) L = L2) : ex_go X mi pc L (.int y :: .int x :: r) w = ex_go X mi (pc + 3) L2 (.int (if y < x then y else x) :: r) w := by
  refine ex_go_d d rfl ?_ ht
  simp only [ex_do, hM]
  rw [if_pos hl]
theorem go_obj {idx mj a : Nat} {L2 : ex_L} (d : decode (kC mi) pc = .ok (.invokespecial idx, 3)) (hM : kM (kO mi) idx = some (mj, 6)) (hl : (r.map Value.category).sum ≤ 8 ∧ 1 ≤ kV mi ∧ 20 ≤ kW mi) (ht : ex_tr mi (pc + 3) L = L2) : ex_go X mi pc L (.ref a :: r) w = ex_go X mi (pc + 3) L2 r w := by
  refine ex_go_d d rfl ?_ ht
  simp only [ex_do, hM]
  rw [if_pos hl]
theorem go_tsw {d0 lo hi : Int} {offs : Array Int} {n : Nat} {x : Int32} {t : Nat} {L2 : ex_L} (d : decode (kC mi) pc = .ok (.tableswitch d0 lo hi offs, n)) (hk : ¬ (lo < -2147483648 ∨ hi ≥ 2147483648 ∨ lo + offs.toList.length ≠ hi + 1)) (hj : (pc : Int) + ex_sw x offs.toList lo d0 = (t : Int)) (ht : ex_tr mi t L = L2) : ex_go X mi pc L (.int x :: r) w = ex_go X mi t L2 r w := by
  refine ex_go_d d rfl ?_ ht
  simp only [ex_do]
  rw [if_neg hk]
  unfold ex_j
  rw [hj, if_pos (Int.natCast_nonneg t), Int.toNat_natCast]
theorem go_lsw {d0 : Int} {ps : Array (Int × Int)} {n : Nat} {x : Int32} {t : Nat} {L2 : ex_L} (d : decode (kC mi) pc = .ok (.lookupswitch d0 ps, n)) (hk : ((ps.toList.zip (ps.toList.drop 1)).all (fun (a, nx) => a.1 < nx.1) && ps.toList.all (fun q => decide (-2147483648 ≤ q.1 ∧ q.1 < 2147483648))) = true) (hj : (pc : Int) + ex_ls x ps.toList d0 = (t : Int)) (ht : ex_tr mi t L = L2) : ex_go X mi pc L (.int x :: r) w = ex_go X mi t L2 r w := by
  refine ex_go_d d rfl ?_ ht
  simp only [ex_do]
  rw [if_pos hk]
  unfold ex_j
  rw [hj, if_pos (Int.natCast_nonneg t), Int.toNat_natCast]
end EXR
/-- without the script: what is said without it holds with any -/
theorem ex_act_up {xs : List Int32} {mi pc : Nat} {L : ex_L} {st : List Value} {w : ex_W} {a : ex_A} (h : ex_act none mi pc L st w = some a) : ex_act (some xs) mi pc L st w = some a := by
  unfold ex_act at h ⊢
  split at h
  next i len hd =>
    split at h
    next hk =>
      rw [if_pos hk]
      cases i with
      | arraylength =>
        simp only [ex_do] at h ⊢
        split at h
        next a2 r =>
          split at h
          next z =>
            rw [if_pos z]
            exact h
          next z =>
            rw [if_neg z]
            split at h
            next => cases h
            next z2 =>
              rw [if_neg z2]
              exact h
        next => cases h
      | iaload =>
        simp only [ex_do] at h ⊢
        split at h
        next i2 a2 r =>
          split at h
          next z =>
            rw [if_pos z]
            exact h
          next z =>
            rw [if_neg z]
            split at h <;> cases h
        next => cases h
      | newarray a => cases a <;> exact h
      | _ => exact h
    next => cases h
  next => cases h
theorem ex_run_up {xs : List Int32} : ∀ (n mi pc : Nat) (L : ex_L) (st : List Value) (w : ex_W) (q : Option Value × ex_W), ex_run none n mi pc L st w = some q → ex_run (some xs) n mi pc L st w = some q := by
  intro n
  induction n with
  | zero => intro mi pc L st w q h; cases h
  | succ n ih =>
    intro mi pc L st w q h
    rw [ex_run_s] at h ⊢
    cases ha : ex_act none mi pc L st w with
    | none => rw [ha] at h; cases h
    | some a =>
      rw [ha] at h
      rw [ex_act_up ha]
      rcases a with ⟨pc1, L1, st1, w1⟩ | r | ⟨mj, av, r⟩
      · exact ih _ _ _ _ _ _ h
      · exact h
      · dsimp only at h ⊢
        cases hc : ex_run none n mj 0 (lv_args 0 av) [] w with
        | none => rw [hc] at h; cases h
        | some x =>
          obtain ⟨rv, w1⟩ := x
          rw [hc] at h
          rw [ih _ _ _ _ _ _ hc]
          exact ih _ _ _ _ _ _ h
theorem ex_call_up {xs : List Int32} {mj : Nat} {av : List Value} {w : ex_W} {q : Option Value × ex_W} (h : ex_call none mj av w = some q) : ex_call (some xs) mj av w = some q := by
  obtain ⟨n, hn⟩ := (ex_go_iff _ _ _ _ _ _ _).mp h
  exact (ex_go_iff _ _ _ _ _ _ _).mpr ⟨n, ex_run_up _ _ _ _ _ _ _ hn⟩
theorem ex_call_run {mj : Nat} {av : List Value} {w : ex_W} {q : Option Value × ex_W} (n : Nat) (h : ex_run none n mj 0 (lv_args 0 av) [] w = some q) : ex_call none mj av w = some q := (ex_go_iff _ _ _ _ _ _ _).mpr ⟨n, h⟩
end
section
/-! more equations, and small helps for the rules by address -/
section EXQ
variable {X : Option (List Int32)} {mi pc : Nat} {L L1 L2 : ex_L} {r : List Value} {w : ex_W}
theorem go_stI {ins : Jvm.ClassFile.Instr} {i pc1 n : Nat} {x : Int32} (d : decode (kC mi) pc = .ok (ins, n)) (hi : ex_do X mi pc ins L (.int x :: r) w = ex_stI mi pc1 L (.int x :: r) w i) (hl : i < kL mi) (hs : ex_set L i (.int x) = L1) (ht : ex_tr mi pc1 L1 = L2) (hn : ex_lok ins n = true := by rfl) : ex_go X mi pc L (.int x :: r) w = ex_go X mi pc1 L2 r w := by
  refine ex_go_d d hn ?_ ht
  rw [hi]
  unfold ex_stI
  dsimp only
  rw [if_pos hl, hs]
theorem go_stJ {ins : Jvm.ClassFile.Instr} {i pc1 n : Nat} {x : Int64} (d : decode (kC mi) pc = .ok (ins, n)) (hi : ex_do X mi pc ins L (.long x :: r) w = ex_stJ mi pc1 L (.long x :: r) w i) (hl : i + 1 < kL mi) (hs : ex_set L i (.long x) = L1) (ht : ex_tr mi pc1 L1 = L2) (hn : ex_lok ins n = true := by rfl) : ex_go X mi pc L (.long x :: r) w = ex_go X mi pc1 L2 r w := by
  refine ex_go_d d hn ?_ ht
  rw [hi]
  unfold ex_stJ
  dsimp only
  rw [if_pos hl, hs]
theorem go_stA {ins : Jvm.ClassFile.Instr} {i pc1 n : Nat} {x : Nat} (d : decode (kC mi) pc = .ok (ins, n)) (hi : ex_do X mi pc ins L (.ref x :: r) w = ex_stA mi pc1 L (.ref x :: r) w i) (hl : i < kL mi) (hs : ex_set L i (.ref x) = L1) (ht : ex_tr mi pc1 L1 = L2) (hn : ex_lok ins n = true := by rfl) : ex_go X mi pc L (.ref x :: r) w = ex_go X mi pc1 L2 r w := by
  refine ex_go_d d hn ?_ ht
  rw [hi]
  unfold ex_stA
  dsimp only
  rw [if_pos hl, hs]
theorem go_iconst {n : Int} {v : Int32} (d : decode (kC mi) pc = .ok (.iconst n, 1)) (hv : Int32.ofInt n = v) (ht : ex_tr mi (pc + 1) L = L2) : ex_go X mi pc L r w = ex_go X mi (pc + 1) L2 (.int v :: r) w := by
  subst hv
  exact ex_go_d d rfl rfl ht
theorem go_bipush {n : Int} {v : Int32} (d : decode (kC mi) pc = .ok (.bipush n, 2)) (hv : (Int8.ofInt n).toInt32 = v) (ht : ex_tr mi (pc + 2) L = L2) : ex_go X mi pc L r w = ex_go X mi (pc + 2) L2 (.int v :: r) w := by
  subst hv
  exact ex_go_d d rfl rfl ht
theorem go_sipush {n : Int} {v : Int32} (d : decode (kC mi) pc = .ok (.sipush n, 3)) (hv : (Int16.ofInt n).toInt32 = v) (ht : ex_tr mi (pc + 3) L = L2) : ex_go X mi pc L r w = ex_go X mi (pc + 3) L2 (.int v :: r) w := by
  subst hv
  exact ex_go_d d rfl rfl ht
theorem go_lconst {n : Fin 2} {v : Int64} (d : decode (kC mi) pc = .ok (.lconst n, 1)) (hv : Int64.ofNat n = v) (ht : ex_tr mi (pc + 1) L = L2) : ex_go X mi pc L r w = ex_go X mi (pc + 1) L2 (.long v :: r) w := by
  subst hv
  exact ex_go_d d rfl rfl ht
theorem go_ldc2 {idx : Nat} {v : Int64} (d : decode (kC mi) pc = .ok (.ldc2_w idx, 3)) (hv : kJ (kO mi) idx = some v) (ht : ex_tr mi (pc + 3) L = L2) : ex_go X mi pc L r w = ex_go X mi (pc + 3) L2 (.long v :: r) w := by
  refine ex_go_d d rfl ?_ ht
  simp only [ex_do, hv]
theorem go_ldcI {idx : Nat} {v : Int32} (d : decode (kC mi) pc = .ok (.ldc idx, 2)) (hv : kI (kO mi) idx = some v) (ht : ex_tr mi (pc + 2) L = L2) : ex_go X mi pc L r w = ex_go X mi (pc + 2) L2 (.int v :: r) w := by
  refine ex_go_d d rfl ?_ ht
  simp only [ex_do, hv]
theorem go_ldcS {idx j : Nat} (d : decode (kC mi) pc = .ok (.ldc idx, 2)) (hv : kI (kO mi) idx = none) (hs : kS (kO mi) idx = some j) (ht : ex_tr mi (pc + 2) L = L2) : ex_go X mi pc L r w = ex_go X mi (pc + 2) L2 (.ref (1001 + j) :: r) w := by
  refine ex_go_d d rfl ?_ ht
  simp only [ex_do, hv, hs]
theorem go_iinc {i : Nat} {n : Int} {x v : Int32} (d : decode (kC mi) pc = .ok (.iinc i n, 3)) (hg : ex_get L i = some (.int x)) (hv : x + Int32.ofInt n = x + v) (hc : Int32.ofInt n = v) (hl : i < kL mi) (hs : ex_set L i (.int (x + v)) = L1) (ht : ex_tr mi (pc + 3) L1 = L2) : ex_go X mi pc L r w = ex_go X mi (pc + 3) L2 r w := by
  refine ex_go_d d rfl ?_ ht
  simp only [ex_do, hg, hc]
  rw [if_pos hl, hs]
theorem go_idiv {x y : Int32} (d : decode (kC mi) pc = .ok (.idiv, 1)) (ht : ex_tr mi (pc + 1) L = L2) (hz : ¬ y = 0) : ex_go X mi pc L (.int y :: .int x :: r) w = ex_go X mi (pc + 1) L2 (.int (x / y) :: r) w := by
  refine ex_go_d d rfl ?_ ht
  simp only [ex_do]
  rw [if_neg hz]
theorem go_irem {x y : Int32} (d : decode (kC mi) pc = .ok (.irem, 1)) (ht : ex_tr mi (pc + 1) L = L2) (hz : ¬ y = 0) : ex_go X mi pc L (.int y :: .int x :: r) w = ex_go X mi (pc + 1) L2 (.int (x - x / y * y) :: r) w := by
  refine ex_go_d d rfl ?_ ht
  simp only [ex_do]
  rw [if_neg hz]
theorem go_ldiv {x y : Int64} (d : decode (kC mi) pc = .ok (.ldiv, 1)) (ht : ex_tr mi (pc + 1) L = L2) (hz : ¬ y = 0) : ex_go X mi pc L (.long y :: .long x :: r) w = ex_go X mi (pc + 1) L2 (.long (x / y) :: r) w := by
  refine ex_go_d d rfl ?_ ht
  simp only [ex_do]
  rw [if_neg hz]
theorem go_lrem {x y : Int64} (d : decode (kC mi) pc = .ok (.lrem, 1)) (ht : ex_tr mi (pc + 1) L = L2) (hz : ¬ y = 0) : ex_go X mi pc L (.long y :: .long x :: r) w = ex_go X mi (pc + 1) L2 (.long (x - x / y * y) :: r) w := by
  refine ex_go_d d rfl ?_ ht
  simp only [ex_do]
  rw [if_neg hz]
theorem go_if_eq {off : Int} {x : Int32} {t : Nat} {L3 : ex_L} (d : decode (kC mi) pc = .ok (.ifCond .eq off, 3)) (hj : (pc : Int) + off = (t : Int)) (h1 : ex_tr mi t L = L2) (h2 : ex_tr mi (pc + 3) L = L3) : ex_go X mi pc L (.int x :: r) w = if x = 0 then ex_go X mi t L2 r w else ex_go X mi (pc + 3) L3 r w := by
  rw [go_br d hj h1 h2]
  simp only [ex_cb, decide_eq_true_eq]
theorem go_icmp_eq {off : Int} {x y : Int32} {t : Nat} {L3 : ex_L} (d : decode (kC mi) pc = .ok (.if_icmp .eq off, 3)) (hj : (pc : Int) + off = (t : Int)) (h1 : ex_tr mi t L = L2) (h2 : ex_tr mi (pc + 3) L = L3) : ex_go X mi pc L (.int y :: .int x :: r) w = if x = y then ex_go X mi t L2 r w else ex_go X mi (pc + 3) L3 r w := by
  rw [go_br2 d hj h1 h2]
  simp only [ex_cb, decide_eq_true_eq]
theorem go_if_ne {off : Int} {x : Int32} {t : Nat} {L3 : ex_L} (d : decode (kC mi) pc = .ok (.ifCond .ne off, 3)) (hj : (pc : Int) + off = (t : Int)) (h1 : ex_tr mi t L = L2) (h2 : ex_tr mi (pc + 3) L = L3) : ex_go X mi pc L (.int x :: r) w = if ¬ x = 0 then ex_go X mi t L2 r w else ex_go X mi (pc + 3) L3 r w := by
  rw [go_br d hj h1 h2]
  simp only [ex_cb, decide_eq_true_eq]
theorem go_icmp_ne {off : Int} {x y : Int32} {t : Nat} {L3 : ex_L} (d : decode (kC mi) pc = .ok (.if_icmp .ne off, 3)) (hj : (pc : Int) + off = (t : Int)) (h1 : ex_tr mi t L = L2) (h2 : ex_tr mi (pc + 3) L = L3) : ex_go X mi pc L (.int y :: .int x :: r) w = if ¬ x = y then ex_go X mi t L2 r w else ex_go X mi (pc + 3) L3 r w := by
  rw [go_br2 d hj h1 h2]
  simp only [ex_cb, decide_eq_true_eq]
theorem go_if_lt {off : Int} {x : Int32} {t : Nat} {L3 : ex_L} (d : decode (kC mi) pc = .ok (.ifCond .lt off, 3)) (hj : (pc : Int) + off = (t : Int)) (h1 : ex_tr mi t L = L2) (h2 : ex_tr mi (pc + 3) L = L3) : ex_go X mi pc L (.int x :: r) w = if x < 0 then ex_go X mi t L2 r w else ex_go X mi (pc + 3) L3 r w := by
  rw [go_br d hj h1 h2]
  simp only [ex_cb, decide_eq_true_eq]
theorem go_icmp_lt {off : Int} {x y : Int32} {t : Nat} {L3 : ex_L} (d : decode (kC mi) pc = .ok (.if_icmp .lt off, 3)) (hj : (pc : Int) + off = (t : Int)) (h1 : ex_tr mi t L = L2) (h2 : ex_tr mi (pc + 3) L = L3) : ex_go X mi pc L (.int y :: .int x :: r) w = if x < y then ex_go X mi t L2 r w else ex_go X mi (pc + 3) L3 r w := by
  rw [go_br2 d hj h1 h2]
  simp only [ex_cb, decide_eq_true_eq]
theorem go_if_ge {off : Int} {x : Int32} {t : Nat} {L3 : ex_L} (d : decode (kC mi) pc = .ok (.ifCond .ge off, 3)) (hj : (pc : Int) + off = (t : Int)) (h1 : ex_tr mi t L = L2) (h2 : ex_tr mi (pc + 3) L = L3) : ex_go X mi pc L (.int x :: r) w = if 0 ≤ x then ex_go X mi t L2 r w else ex_go X mi (pc + 3) L3 r w := by
  rw [go_br d hj h1 h2]
  simp only [ex_cb, decide_eq_true_eq]
theorem go_icmp_ge {off : Int} {x y : Int32} {t : Nat} {L3 : ex_L} (d : decode (kC mi) pc = .ok (.if_icmp .ge off, 3)) (hj : (pc : Int) + off = (t : Int)) (h1 : ex_tr mi t L = L2) (h2 : ex_tr mi (pc + 3) L = L3) : ex_go X mi pc L (.int y :: .int x :: r) w = if y ≤ x then ex_go X mi t L2 r w else ex_go X mi (pc + 3) L3 r w := by
  rw [go_br2 d hj h1 h2]
  simp only [ex_cb, decide_eq_true_eq]
theorem go_if_gt {off : Int} {x : Int32} {t : Nat} {L3 : ex_L} (d : decode (kC mi) pc = .ok (.ifCond .gt off, 3)) (hj : (pc : Int) + off = (t : Int)) (h1 : ex_tr mi t L = L2) (h2 : ex_tr mi (pc + 3) L = L3) : ex_go X mi pc L (.int x :: r) w = if 0 < x then ex_go X mi t L2 r w else ex_go X mi (pc + 3) L3 r w := by
  rw [go_br d hj h1 h2]
  simp only [ex_cb, decide_eq_true_eq]
theorem go_icmp_gt {off : Int} {x y : Int32} {t : Nat} {L3 : ex_L} (d : decode (kC mi) pc = .ok (.if_icmp .gt off, 3)) (hj : (pc : Int) + off = (t : Int)) (h1 : ex_tr mi t L = L2) (h2 : ex_tr mi (pc + 3) L = L3) : ex_go X mi pc L (.int y :: .int x :: r) w = if y < x then ex_go X mi t L2 r w else ex_go X mi (pc + 3) L3 r w := by
  rw [go_br2 d hj h1 h2]
  simp only [ex_cb, decide_eq_true_eq]
theorem go_if_le {off : Int} {x : Int32} {t : Nat} {L3 : ex_L} (d : decode (kC mi) pc = .ok (.ifCond .le off, 3)) (hj : (pc : Int) + off = (t : Int)) (h1 : ex_tr mi t L = L2) (h2 : ex_tr mi (pc + 3) L = L3) : ex_go X mi pc L (.int x :: r) w = if x ≤ 0 then ex_go X mi t L2 r w else ex_go X mi (pc + 3) L3 r w := by
  rw [go_br d hj h1 h2]
  simp only [ex_cb, decide_eq_true_eq]
theorem go_icmp_le {off : Int} {x y : Int32} {t : Nat} {L3 : ex_L} (d : decode (kC mi) pc = .ok (.if_icmp .le off, 3)) (hj : (pc : Int) + off = (t : Int)) (h1 : ex_tr mi t L = L2) (h2 : ex_tr mi (pc + 3) L = L3) : ex_go X mi pc L (.int y :: .int x :: r) w = if x ≤ y then ex_go X mi t L2 r w else ex_go X mi (pc + 3) L3 r w := by
  rw [go_br2 d hj h1 h2]
  simp only [ex_cb, decide_eq_true_eq]
theorem go_return (d : decode (kC mi) pc = .ok (.return_, 1)) (hR : kR mi = none) : ex_go X mi pc L [] w = some (none, w) := by
  refine ex_go_ret d rfl ?_
  simp only [ex_do, hR]
theorem go_lreturn {x : Int64} (d : decode (kC mi) pc = .ok (.lreturn, 1)) (hR : kR mi = some .long) : ex_go X mi pc L [.long x] w = some (some (.long x), w) := by
  refine ex_go_ret d rfl ?_
  simp only [ex_do, hR]
theorem go_areturn {x : Nat} {nm : String} (d : decode (kC mi) pc = .ok (.areturn, 1)) (hR : kR mi = some (.object nm)) : ex_go X mi pc L [.ref x] w = some (some (.ref x), w) := by
  refine ex_go_ret d rfl ?_
  simp only [ex_do, hR]
theorem go_ireturn {x : Int32} {ty : FieldType} (d : decode (kC mi) pc = .ok (.ireturn, 1)) (hR : kR mi = some ty) (hn : narrow ty (.int x) = .int x) : ex_go X mi pc L [.int x] w = some (some (.int x), w) := by
  refine ex_go_ret d rfl ?_
  simp only [ex_do, hR]
  rw [if_pos hn]
theorem ex_nz {x : Int32} (h : x = 0 ∨ x = 1) : narrow .boolean (.int x) = .int x := by rcases h with rfl | rfl <;> rfl
theorem ex_nb {x : Int32} (h : x = 0 ∨ x = 1) : vp_nar .boolean x = x := by rcases h with rfl | rfl <;> rfl
theorem ex_bool {ty : FieldType} {x : Int32} {P : Prop} (ht : ty = .boolean) (h : x = 0 ∨ x = 1) (hp : P) : narrow ty (.int x) = .int x ∧ fits ty (.int x) = true ∧ P := by
  subst ht
  exact ⟨ex_nz h, by rcases h with rfl | rfl <;> rfl, hp⟩
theorem ex_plainI {ty : FieldType} {x : Int32} {P : Prop} (ht : ty = .int) (hp : P) : narrow ty (.int x) = .int x ∧ fits ty (.int x) = true ∧ P := by
  subst ht
  exact ⟨rfl, rfl, hp⟩
theorem ex_plainJ {ty : FieldType} {x : Int64} {P : Prop} (ht : ty = .long) (hp : P) : narrow ty (.long x) = .long x ∧ fits ty (.long x) = true ∧ P := by
  subst ht
  exact ⟨rfl, rfl, hp⟩
theorem ex_plainA {ty : FieldType} {t : FieldType} {x : Nat} {P : Prop} (ht : ty = t) (hp : P) (hk : fits t (.ref x) = true := by rfl) : narrow ty (.ref x) = .ref x ∧ fits ty (.ref x) = true ∧ P := by
  subst ht
  exact ⟨by cases ty <;> rfl, hk, hp⟩
theorem ex_lv_i {mj n1 n2 : Nat} {av rs : List Value} (h : 0 < mj ∧ mj < kNM ∧ kV mj + 1 ≤ kV mi ∧ kL mj + 19 + kW mj ≤ kW mi ∧ n1 ≤ kL mj ∧ n2 ≤ 8) (h1 : (lg_sl av).length = n1) (h2 : (rs.map Value.category).sum = n2) : ex_lv mi mj av rs = true := by
  subst h1; subst h2
  exact decide_eq_true h
theorem ex_pop_i {mj n : Nat} {st av rs : List Value} (h : kA mj = n) (hp : ex_pop n st = some (av, rs)) : ex_pop (kA mj) st = some (av, rs) := by rw [h]; exact hp
theorem ex_rc_i {mj n h : Nat} (hk : kH mj = n) (hr : ex_rc w h n = true) : ex_rc w h (kH mj) = true := by rw [hk]; exact hr
end EXQ
end
section
/-! rules by address, written by program -/
-- ExactLoomLaw.law([I)Z
theorem s0_3 {X : Option (List Int32)} {l0 : Nat} {r : List Value} {t0 : Nat} {w : ex_W} : ex_go X 0 3 [(0, .ref l0)] (.ref t0 :: r) w = ex_go X 0 4 [(0, .ref l0)] (.ref t0 :: .ref t0 :: r) w := ex_go_d (by decide +kernel : decode (kC 0) 3 = .ok (.dup, 1)) rfl rfl (ex_tr_n (by decide +kernel))
theorem s0_4 {X : Option (List Int32)} {l0 : Nat} {t0 : Nat} {t1 : Nat} {w : ex_W} : ex_go X 0 4 [(0, .ref l0)] [.ref t0, .ref t1] w = (ex_call X 1 [.ref t0] w).bind (fun q => ex_go X 0 7 [(0, .ref l0)] (q.1.toList ++ [.ref t1]) q.2) := go_spec (by decide +kernel : decode (kC 0) 4 = .ok (.invokespecial 9, 3)) (by decide +kernel : kM (kO 0) 9 = some (1, 2)) (ex_pop_i (n := 1) (by decide +kernel) rfl) (ex_lv_i (n1 := 1) (n2 := 1) (by decide +kernel) rfl rfl) (ex_tr_n (by decide +kernel))
theorem s0_7 {X : Option (List Int32)} {l0 : Nat} {r : List Value} {t : Nat} {w : ex_W} : ex_go X 0 7 [(0, .ref l0)] (.ref t :: r) w = ex_go X 0 8 [(0, .ref l0), (1, .ref t)] r w := go_stA (i := 1) (pc1 := 8) (L1 := [(0, .ref l0), (1, .ref t)]) (by decide +kernel : decode (kC 0) 7 = .ok (.astore_n 1, 1)) rfl (by decide +kernel) rfl (ex_tr_n (by decide +kernel))
theorem s0_11 {X : Option (List Int32)} {l0 : Nat} {l1 : Nat} {r : List Value} {t0 : Nat} {w : ex_W} : ex_go X 0 11 [(0, .ref l0), (1, .ref l1)] (.ref t0 :: r) w = ex_go X 0 12 [(0, .ref l0), (1, .ref l1)] (.ref t0 :: .ref t0 :: r) w := ex_go_d (by decide +kernel : decode (kC 0) 11 = .ok (.dup, 1)) rfl rfl (ex_tr_n (by decide +kernel))
theorem s0_12 {X : Option (List Int32)} {l0 : Nat} {l1 : Nat} {t0 : Nat} {t1 : Nat} {w : ex_W} : ex_go X 0 12 [(0, .ref l0), (1, .ref l1)] [.ref t0, .ref t1] w = (ex_call X 106 [.ref t0] w).bind (fun q => ex_go X 0 15 [(0, .ref l0), (1, .ref l1)] (q.1.toList ++ [.ref t1]) q.2) := go_spec (by decide +kernel : decode (kC 0) 12 = .ok (.invokespecial 12, 3)) (by decide +kernel : kM (kO 0) 12 = some (106, 2)) (ex_pop_i (n := 1) (by decide +kernel) rfl) (ex_lv_i (n1 := 1) (n2 := 1) (by decide +kernel) rfl rfl) (ex_tr_n (by decide +kernel))
theorem s0_15 {X : Option (List Int32)} {l0 : Nat} {l1 : Nat} {r : List Value} {t : Nat} {w : ex_W} : ex_go X 0 15 [(0, .ref l0), (1, .ref l1)] (.ref t :: r) w = ex_go X 0 16 [(0, .ref l0), (1, .ref l1), (2, .ref t)] r w := go_stA (i := 2) (pc1 := 16) (L1 := [(0, .ref l0), (1, .ref l1), (2, .ref t)]) (by decide +kernel : decode (kC 0) 15 = .ok (.astore_n 2, 1)) rfl (by decide +kernel) rfl (ex_tr_n (by decide +kernel))
theorem s0_16 {X : Option (List Int32)} {l0 : Nat} {l1 : Nat} {l2 : Nat} {r : List Value} {w : ex_W} : ex_go X 0 16 [(0, .ref l0), (1, .ref l1), (2, .ref l2)] r w = ex_go X 0 17 [(0, .ref l0), (1, .ref l1), (2, .ref l2)] (.int 0 :: r) w := go_iconst (by decide +kernel : decode (kC 0) 16 = .ok (.iconst 0, 1)) (by decide +kernel) (ex_tr_n (by decide +kernel))
theorem s0_17 {X : Option (List Int32)} {l0 : Nat} {l1 : Nat} {l2 : Nat} {r : List Value} {t : Int32} {w : ex_W} : ex_go X 0 17 [(0, .ref l0), (1, .ref l1), (2, .ref l2)] (.int t :: r) w = ex_go X 0 18 [(0, .ref l0), (1, .ref l1), (2, .ref l2), (3, .int t)] r w := go_stI (i := 3) (pc1 := 18) (L1 := [(0, .ref l0), (1, .ref l1), (2, .ref l2), (3, .int t)]) (by decide +kernel : decode (kC 0) 17 = .ok (.istore_n 3, 1)) rfl (by decide +kernel) rfl (ex_tr_k (ks := [0, 1, 2, 3]) (by decide +kernel) rfl)
theorem s0_18 {X : Option (List Int32)} {l0 : Nat} {l1 : Nat} {l2 : Nat} {l3 : Int32} {r : List Value} {w : ex_W} : ex_go X 0 18 [(0, .ref l0), (1, .ref l1), (2, .ref l2), (3, .int l3)] r w = ex_go X 0 19 [(0, .ref l0), (1, .ref l1), (2, .ref l2), (3, .int l3)] (.int l3 :: r) w := ex_go_d (by decide +kernel : decode (kC 0) 18 = .ok (.iload_n 3, 1)) rfl rfl (ex_tr_n (by decide +kernel))
theorem s0_19 {X : Option (List Int32)} {l0 : Nat} {l1 : Nat} {l2 : Nat} {l3 : Int32} {r : List Value} {w : ex_W} : ex_go X 0 19 [(0, .ref l0), (1, .ref l1), (2, .ref l2), (3, .int l3)] r w = ex_go X 0 20 [(0, .ref l0), (1, .ref l1), (2, .ref l2), (3, .int l3)] (.ref l0 :: r) w := ex_go_d (by decide +kernel : decode (kC 0) 19 = .ok (.aload_n 0, 1)) rfl rfl (ex_tr_n (by decide +kernel))
theorem s0_20 {xs : List Int32} {l0 : Nat} {l1 : Nat} {l2 : Nat} {l3 : Int32} {r : List Value} {w : ex_W} : ex_go (some xs) 0 20 [(0, .ref l0), (1, .ref l1), (2, .ref l2), (3, .int l3)] (.ref 1000 :: r) w = ex_go (some xs) 0 21 [(0, .ref l0), (1, .ref l1), (2, .ref l2), (3, .int l3)] (.int (Int32.ofNat xs.length) :: r) w := go_slen (by decide +kernel : decode (kC 0) 20 = .ok (.arraylength, 1)) (ex_tr_n (by decide +kernel))
theorem s0_21 {X : Option (List Int32)} {l0 : Nat} {l1 : Nat} {l2 : Nat} {l3 : Int32} {r : List Value} {w : ex_W} : ex_go X 0 21 [(0, .ref l0), (1, .ref l1), (2, .ref l2), (3, .int l3)] r w = ex_go X 0 22 [(0, .ref l0), (1, .ref l1), (2, .ref l2), (3, .int l3)] (.int 3 :: r) w := go_iconst (by decide +kernel : decode (kC 0) 21 = .ok (.iconst 3, 1)) (by decide +kernel) (ex_tr_n (by decide +kernel))
theorem s0_22 {X : Option (List Int32)} {l0 : Nat} {l1 : Nat} {l2 : Nat} {l3 : Int32} {r : List Value} {t0 t1 : Int32} {w : ex_W} : ex_go X 0 22 [(0, .ref l0), (1, .ref l1), (2, .ref l2), (3, .int l3)] (.int t0 :: .int t1 :: r) w = ex_go X 0 23 [(0, .ref l0), (1, .ref l1), (2, .ref l2), (3, .int l3)] (.int (t1 - t0) :: r) w := ex_go_d (by decide +kernel : decode (kC 0) 22 = .ok (.isub, 1)) rfl rfl (ex_tr_n (by decide +kernel))
theorem s0_23 {X : Option (List Int32)} {l0 : Nat} {l1 : Nat} {l2 : Nat} {l3 : Int32} {r : List Value} {t0 t1 : Int32} {w : ex_W} : ex_go X 0 23 [(0, .ref l0), (1, .ref l1), (2, .ref l2), (3, .int l3)] (.int t0 :: .int t1 :: r) w = if t0 < t1 then ex_go X 0 321 [] r w else ex_go X 0 26 [(0, .ref l0), (1, .ref l1), (2, .ref l2), (3, .int l3)] r w := go_icmp_gt (t := 321) (by decide +kernel : decode (kC 0) 23 = .ok (.if_icmp .gt 298, 3)) (by decide) (ex_tr_k (ks := []) (by decide +kernel) rfl) (ex_tr_n (by decide +kernel))
theorem s0_26 {X : Option (List Int32)} {l0 : Nat} {l1 : Nat} {l2 : Nat} {l3 : Int32} {r : List Value} {w : ex_W} : ex_go X 0 26 [(0, .ref l0), (1, .ref l1), (2, .ref l2), (3, .int l3)] r w = ex_go X 0 27 [(0, .ref l0), (1, .ref l1), (2, .ref l2), (3, .int l3)] (.ref l0 :: r) w := ex_go_d (by decide +kernel : decode (kC 0) 26 = .ok (.aload_n 0, 1)) rfl rfl (ex_tr_n (by decide +kernel))
theorem s0_27 {X : Option (List Int32)} {l0 : Nat} {l1 : Nat} {l2 : Nat} {l3 : Int32} {r : List Value} {w : ex_W} : ex_go X 0 27 [(0, .ref l0), (1, .ref l1), (2, .ref l2), (3, .int l3)] r w = ex_go X 0 28 [(0, .ref l0), (1, .ref l1), (2, .ref l2), (3, .int l3)] (.int l3 :: r) w := ex_go_d (by decide +kernel : decode (kC 0) 27 = .ok (.iload_n 3, 1)) rfl rfl (ex_tr_n (by decide +kernel))
theorem s0_28 {xs : List Int32} {l0 : Nat} {l1 : Nat} {l2 : Nat} {l3 : Int32} {r : List Value} {w : ex_W} {t0 : Int32} (hi : ¬ t0 < 0) : ex_go (some xs) 0 28 [(0, .ref l0), (1, .ref l1), (2, .ref l2), (3, .int l3)] (.int t0 :: .ref 1000 :: r) w = (xs[t0.toNatClampNeg]?).bind (fun v => ex_go (some xs) 0 29 [(0, .ref l0), (1, .ref l1), (2, .ref l2), (3, .int l3)] (.int v :: r) w) := go_sld (by decide +kernel : decode (kC 0) 28 = .ok (.iaload, 1)) (ex_tr_n (by decide +kernel)) hi
theorem s0_29 {X : Option (List Int32)} {l0 : Nat} {l1 : Nat} {l2 : Nat} {l3 : Int32} {r : List Value} {w : ex_W} : ex_go X 0 29 [(0, .ref l0), (1, .ref l1), (2, .ref l2), (3, .int l3)] r w = ex_go X 0 31 [(0, .ref l0), (1, .ref l1), (2, .ref l2), (3, .int l3)] (.int 15 :: r) w := go_bipush (by decide +kernel : decode (kC 0) 29 = .ok (.bipush 15, 2)) (by decide +kernel) (ex_tr_n (by decide +kernel))
theorem s0_31 {X : Option (List Int32)} {l0 : Nat} {l1 : Nat} {l2 : Nat} {l3 : Int32} {r : List Value} {t0 t1 : Int32} {w : ex_W} : ex_go X 0 31 [(0, .ref l0), (1, .ref l1), (2, .ref l2), (3, .int l3)] (.int t0 :: .int t1 :: r) w = ex_go X 0 32 [(0, .ref l0), (1, .ref l1), (2, .ref l2), (3, .int l3)] (.int (t1 &&& t0) :: r) w := ex_go_d (by decide +kernel : decode (kC 0) 31 = .ok (.iand, 1)) rfl rfl (ex_tr_n (by decide +kernel))
theorem s0_32 {X : Option (List Int32)} {l0 : Nat} {l1 : Nat} {l2 : Nat} {l3 : Int32} {r : List Value} {t0 : Int32} {w : ex_W} : ex_go X 0 32 [(0, .ref l0), (1, .ref l1), (2, .ref l2), (3, .int l3)] (.int t0 :: r) w = if t0 = 0 then ex_go X 0 92 [(0, .ref l0), (1, .ref l1), (2, .ref l2), (3, .int l3)] r w else if t0 = 1 then ex_go X 0 125 [(0, .ref l0), (1, .ref l1), (2, .ref l2), (3, .int l3)] r w else if t0 = 2 then ex_go X 0 138 [(0, .ref l0), (1, .ref l1), (2, .ref l2), (3, .int l3)] r w else if t0 = 3 then ex_go X 0 171 [(0, .ref l0), (1, .ref l1), (2, .ref l2), (3, .int l3)] r w else if t0 = 4 then ex_go X 0 184 [(0, .ref l0), (1, .ref l1), (2, .ref l2), (3, .int l3)] r w else if t0 = 5 then ex_go X 0 197 [(0, .ref l0), (1, .ref l1), (2, .ref l2), (3, .int l3)] r w else if t0 = 6 then ex_go X 0 220 [(0, .ref l0), (1, .ref l1), (2, .ref l2), (3, .int l3)] r w else if t0 = 7 then ex_go X 0 233 [(0, .ref l0), (1, .ref l1), (2, .ref l2), (3, .int l3)] r w else if t0 = 8 then ex_go X 0 256 [(0, .ref l0), (1, .ref l1), (2, .ref l2), (3, .int l3)] r w else if t0 = 9 then ex_go X 0 279 [(0, .ref l0), (1, .ref l1), (2, .ref l2), (3, .int l3)] r w else if t0 = 10 then ex_go X 0 302 [(0, .ref l0), (1, .ref l1), (2, .ref l2), (3, .int l3)] r w else ex_go X 0 315 [(0, .ref l0), (1, .ref l1), (2, .ref l2), (3, .int l3)] r w := by
  by_cases h0 : t0 = 0
  · rw [if_pos h0, h0]
    exact go_tsw (t := 92) (by decide +kernel : decode (kC 0) 32 = .ok (.tableswitch 283 0 10 #[60, 93, 106, 139, 152, 165, 188, 201, 224, 247, 270], 60)) (by decide) (by decide +kernel) (ex_tr_k (ks := [0, 1, 2, 3]) (by decide +kernel) rfl)
  rw [if_neg h0]
  by_cases h1 : t0 = 1
  · rw [if_pos h1, h1]
    exact go_tsw (t := 125) (by decide +kernel : decode (kC 0) 32 = .ok (.tableswitch 283 0 10 #[60, 93, 106, 139, 152, 165, 188, 201, 224, 247, 270], 60)) (by decide) (by decide +kernel) (ex_tr_k (ks := [0, 1, 2, 3]) (by decide +kernel) rfl)
  rw [if_neg h1]
  by_cases h2 : t0 = 2
  · rw [if_pos h2, h2]
    exact go_tsw (t := 138) (by decide +kernel : decode (kC 0) 32 = .ok (.tableswitch 283 0 10 #[60, 93, 106, 139, 152, 165, 188, 201, 224, 247, 270], 60)) (by decide) (by decide +kernel) (ex_tr_k (ks := [0, 1, 2, 3]) (by decide +kernel) rfl)
  rw [if_neg h2]
  by_cases h3 : t0 = 3
  · rw [if_pos h3, h3]
    exact go_tsw (t := 171) (by decide +kernel : decode (kC 0) 32 = .ok (.tableswitch 283 0 10 #[60, 93, 106, 139, 152, 165, 188, 201, 224, 247, 270], 60)) (by decide) (by decide +kernel) (ex_tr_k (ks := [0, 1, 2, 3]) (by decide +kernel) rfl)
  rw [if_neg h3]
  by_cases h4 : t0 = 4
  · rw [if_pos h4, h4]
    exact go_tsw (t := 184) (by decide +kernel : decode (kC 0) 32 = .ok (.tableswitch 283 0 10 #[60, 93, 106, 139, 152, 165, 188, 201, 224, 247, 270], 60)) (by decide) (by decide +kernel) (ex_tr_k (ks := [0, 1, 2, 3]) (by decide +kernel) rfl)
  rw [if_neg h4]
  by_cases h5 : t0 = 5
  · rw [if_pos h5, h5]
    exact go_tsw (t := 197) (by decide +kernel : decode (kC 0) 32 = .ok (.tableswitch 283 0 10 #[60, 93, 106, 139, 152, 165, 188, 201, 224, 247, 270], 60)) (by decide) (by decide +kernel) (ex_tr_k (ks := [0, 1, 2, 3]) (by decide +kernel) rfl)
  rw [if_neg h5]
  by_cases h6 : t0 = 6
  · rw [if_pos h6, h6]
    exact go_tsw (t := 220) (by decide +kernel : decode (kC 0) 32 = .ok (.tableswitch 283 0 10 #[60, 93, 106, 139, 152, 165, 188, 201, 224, 247, 270], 60)) (by decide) (by decide +kernel) (ex_tr_k (ks := [0, 1, 2, 3]) (by decide +kernel) rfl)
  rw [if_neg h6]
  by_cases h7 : t0 = 7
  · rw [if_pos h7, h7]
    exact go_tsw (t := 233) (by decide +kernel : decode (kC 0) 32 = .ok (.tableswitch 283 0 10 #[60, 93, 106, 139, 152, 165, 188, 201, 224, 247, 270], 60)) (by decide) (by decide +kernel) (ex_tr_k (ks := [0, 1, 2, 3]) (by decide +kernel) rfl)
  rw [if_neg h7]
  by_cases h8 : t0 = 8
  · rw [if_pos h8, h8]
    exact go_tsw (t := 256) (by decide +kernel : decode (kC 0) 32 = .ok (.tableswitch 283 0 10 #[60, 93, 106, 139, 152, 165, 188, 201, 224, 247, 270], 60)) (by decide) (by decide +kernel) (ex_tr_k (ks := [0, 1, 2, 3]) (by decide +kernel) rfl)
  rw [if_neg h8]
  by_cases h9 : t0 = 9
  · rw [if_pos h9, h9]
    exact go_tsw (t := 279) (by decide +kernel : decode (kC 0) 32 = .ok (.tableswitch 283 0 10 #[60, 93, 106, 139, 152, 165, 188, 201, 224, 247, 270], 60)) (by decide) (by decide +kernel) (ex_tr_k (ks := [0, 1, 2, 3]) (by decide +kernel) rfl)
  rw [if_neg h9]
  by_cases h10 : t0 = 10
  · rw [if_pos h10, h10]
    exact go_tsw (t := 302) (by decide +kernel : decode (kC 0) 32 = .ok (.tableswitch 283 0 10 #[60, 93, 106, 139, 152, 165, 188, 201, 224, 247, 270], 60)) (by decide) (by decide +kernel) (ex_tr_k (ks := [0, 1, 2, 3]) (by decide +kernel) rfl)
  rw [if_neg h10]
  exact go_tsw (t := 315) (by decide +kernel : decode (kC 0) 32 = .ok (.tableswitch 283 0 10 #[60, 93, 106, 139, 152, 165, 188, 201, 224, 247, 270], 60)) (by decide) (by show (32 : Int) + ex_sw t0 [60, 93, 106, 139, 152, 165, 188, 201, 224, 247, 270] 0 283 = (315 : Nat); simp only [ex_sw]; rw [if_neg (show ¬ t0 = Int32.ofInt (0) from fun z => h0 (z.trans (by decide +kernel))), if_neg (show ¬ t0 = Int32.ofInt (0 + 1) from fun z => h1 (z.trans (by decide +kernel))), if_neg (show ¬ t0 = Int32.ofInt (0 + 1 + 1) from fun z => h2 (z.trans (by decide +kernel))), if_neg (show ¬ t0 = Int32.ofInt (0 + 1 + 1 + 1) from fun z => h3 (z.trans (by decide +kernel))), if_neg (show ¬ t0 = Int32.ofInt (0 + 1 + 1 + 1 + 1) from fun z => h4 (z.trans (by decide +kernel))), if_neg (show ¬ t0 = Int32.ofInt (0 + 1 + 1 + 1 + 1 + 1) from fun z => h5 (z.trans (by decide +kernel))), if_neg (show ¬ t0 = Int32.ofInt (0 + 1 + 1 + 1 + 1 + 1 + 1) from fun z => h6 (z.trans (by decide +kernel))), if_neg (show ¬ t0 = Int32.ofInt (0 + 1 + 1 + 1 + 1 + 1 + 1 + 1) from fun z => h7 (z.trans (by decide +kernel))), if_neg (show ¬ t0 = Int32.ofInt (0 + 1 + 1 + 1 + 1 + 1 + 1 + 1 + 1) from fun z => h8 (z.trans (by decide +kernel))), if_neg (show ¬ t0 = Int32.ofInt (0 + 1 + 1 + 1 + 1 + 1 + 1 + 1 + 1 + 1) from fun z => h9 (z.trans (by decide +kernel))), if_neg (show ¬ t0 = Int32.ofInt (0 + 1 + 1 + 1 + 1 + 1 + 1 + 1 + 1 + 1 + 1) from fun z => h10 (z.trans (by decide +kernel)))]; rfl) (ex_tr_k (ks := [0, 1, 2, 3]) (by decide +kernel) rfl)
theorem s0_92 {X : Option (List Int32)} {l0 : Nat} {l1 : Nat} {l2 : Nat} {l3 : Int32} {r : List Value} {w : ex_W} : ex_go X 0 92 [(0, .ref l0), (1, .ref l1), (2, .ref l2), (3, .int l3)] r w = ex_go X 0 93 [(0, .ref l0), (1, .ref l1), (2, .ref l2), (3, .int l3)] (.ref l1 :: r) w := ex_go_d (by decide +kernel : decode (kC 0) 92 = .ok (.aload_n 1, 1)) rfl rfl (ex_tr_n (by decide +kernel))
theorem s0_93 {X : Option (List Int32)} {l0 : Nat} {l1 : Nat} {l2 : Nat} {l3 : Int32} {r : List Value} {w : ex_W} : ex_go X 0 93 [(0, .ref l0), (1, .ref l1), (2, .ref l2), (3, .int l3)] r w = ex_go X 0 94 [(0, .ref l0), (1, .ref l1), (2, .ref l2), (3, .int l3)] (.ref l0 :: r) w := ex_go_d (by decide +kernel : decode (kC 0) 93 = .ok (.aload_n 0, 1)) rfl rfl (ex_tr_n (by decide +kernel))
theorem s0_94 {X : Option (List Int32)} {l0 : Nat} {l1 : Nat} {l2 : Nat} {l3 : Int32} {r : List Value} {w : ex_W} : ex_go X 0 94 [(0, .ref l0), (1, .ref l1), (2, .ref l2), (3, .int l3)] r w = ex_go X 0 95 [(0, .ref l0), (1, .ref l1), (2, .ref l2), (3, .int l3)] (.int l3 :: r) w := ex_go_d (by decide +kernel : decode (kC 0) 94 = .ok (.iload_n 3, 1)) rfl rfl (ex_tr_n (by decide +kernel))
theorem s0_95 {X : Option (List Int32)} {l0 : Nat} {l1 : Nat} {l2 : Nat} {l3 : Int32} {r : List Value} {w : ex_W} : ex_go X 0 95 [(0, .ref l0), (1, .ref l1), (2, .ref l2), (3, .int l3)] r w = ex_go X 0 96 [(0, .ref l0), (1, .ref l1), (2, .ref l2), (3, .int l3)] (.int 1 :: r) w := go_iconst (by decide +kernel : decode (kC 0) 95 = .ok (.iconst 1, 1)) (by decide +kernel) (ex_tr_n (by decide +kernel))
theorem s0_96 {X : Option (List Int32)} {l0 : Nat} {l1 : Nat} {l2 : Nat} {l3 : Int32} {r : List Value} {t0 t1 : Int32} {w : ex_W} : ex_go X 0 96 [(0, .ref l0), (1, .ref l1), (2, .ref l2), (3, .int l3)] (.int t0 :: .int t1 :: r) w = ex_go X 0 97 [(0, .ref l0), (1, .ref l1), (2, .ref l2), (3, .int l3)] (.int (t1 + t0) :: r) w := ex_go_d (by decide +kernel : decode (kC 0) 96 = .ok (.iadd, 1)) rfl rfl (ex_tr_n (by decide +kernel))
theorem s0_97 {xs : List Int32} {l0 : Nat} {l1 : Nat} {l2 : Nat} {l3 : Int32} {r : List Value} {w : ex_W} {t0 : Int32} (hi : ¬ t0 < 0) : ex_go (some xs) 0 97 [(0, .ref l0), (1, .ref l1), (2, .ref l2), (3, .int l3)] (.int t0 :: .ref 1000 :: r) w = (xs[t0.toNatClampNeg]?).bind (fun v => ex_go (some xs) 0 98 [(0, .ref l0), (1, .ref l1), (2, .ref l2), (3, .int l3)] (.int v :: r) w) := go_sld (by decide +kernel : decode (kC 0) 97 = .ok (.iaload, 1)) (ex_tr_n (by decide +kernel)) hi
theorem s0_98 {X : Option (List Int32)} {l0 : Nat} {l1 : Nat} {l2 : Nat} {l3 : Int32} {r : List Value} {w : ex_W} : ex_go X 0 98 [(0, .ref l0), (1, .ref l1), (2, .ref l2), (3, .int l3)] r w = ex_go X 0 99 [(0, .ref l0), (1, .ref l1), (2, .ref l2), (3, .int l3)] (.ref l0 :: r) w := ex_go_d (by decide +kernel : decode (kC 0) 98 = .ok (.aload_n 0, 1)) rfl rfl (ex_tr_n (by decide +kernel))
theorem s0_99 {X : Option (List Int32)} {l0 : Nat} {l1 : Nat} {l2 : Nat} {l3 : Int32} {r : List Value} {w : ex_W} : ex_go X 0 99 [(0, .ref l0), (1, .ref l1), (2, .ref l2), (3, .int l3)] r w = ex_go X 0 100 [(0, .ref l0), (1, .ref l1), (2, .ref l2), (3, .int l3)] (.int l3 :: r) w := ex_go_d (by decide +kernel : decode (kC 0) 99 = .ok (.iload_n 3, 1)) rfl rfl (ex_tr_n (by decide +kernel))
theorem s0_100 {X : Option (List Int32)} {l0 : Nat} {l1 : Nat} {l2 : Nat} {l3 : Int32} {r : List Value} {w : ex_W} : ex_go X 0 100 [(0, .ref l0), (1, .ref l1), (2, .ref l2), (3, .int l3)] r w = ex_go X 0 101 [(0, .ref l0), (1, .ref l1), (2, .ref l2), (3, .int l3)] (.int 2 :: r) w := go_iconst (by decide +kernel : decode (kC 0) 100 = .ok (.iconst 2, 1)) (by decide +kernel) (ex_tr_n (by decide +kernel))
theorem s0_101 {X : Option (List Int32)} {l0 : Nat} {l1 : Nat} {l2 : Nat} {l3 : Int32} {r : List Value} {t0 t1 : Int32} {w : ex_W} : ex_go X 0 101 [(0, .ref l0), (1, .ref l1), (2, .ref l2), (3, .int l3)] (.int t0 :: .int t1 :: r) w = ex_go X 0 102 [(0, .ref l0), (1, .ref l1), (2, .ref l2), (3, .int l3)] (.int (t1 + t0) :: r) w := ex_go_d (by decide +kernel : decode (kC 0) 101 = .ok (.iadd, 1)) rfl rfl (ex_tr_n (by decide +kernel))
theorem s0_102 {xs : List Int32} {l0 : Nat} {l1 : Nat} {l2 : Nat} {l3 : Int32} {r : List Value} {w : ex_W} {t0 : Int32} (hi : ¬ t0 < 0) : ex_go (some xs) 0 102 [(0, .ref l0), (1, .ref l1), (2, .ref l2), (3, .int l3)] (.int t0 :: .ref 1000 :: r) w = (xs[t0.toNatClampNeg]?).bind (fun v => ex_go (some xs) 0 103 [(0, .ref l0), (1, .ref l1), (2, .ref l2), (3, .int l3)] (.int v :: r) w) := go_sld (by decide +kernel : decode (kC 0) 102 = .ok (.iaload, 1)) (ex_tr_n (by decide +kernel)) hi
theorem s0_103 {X : Option (List Int32)} {l0 : Nat} {l1 : Nat} {l2 : Nat} {l3 : Int32} {t0 : Int32} {t1 : Int32} {t2 : Nat} {w : ex_W} (hr : ex_rc w t2 0 = true) : ex_go X 0 103 [(0, .ref l0), (1, .ref l1), (2, .ref l2), (3, .int l3)] [.int t0, .int t1, .ref t2] w = (ex_call X 2 [.ref t2, .int t1, .int t0] w).bind (fun q => ex_go X 0 106 [(0, .ref l0), (1, .ref l1), (2, .ref l2), (3, .int l3)] (q.1.toList ++ []) q.2) := go_virt (by decide +kernel : decode (kC 0) 103 = .ok (.invokevirtual 13, 3)) (by decide +kernel : kM (kO 0) 13 = some (2, 0)) (ex_pop_i (n := 3) (by decide +kernel) rfl) (ex_lv_i (n1 := 3) (n2 := 0) (by decide +kernel) rfl rfl) (ex_tr_n (by decide +kernel)) (ex_rc_i (by decide +kernel) hr)
theorem s0_106 {X : Option (List Int32)} {l0 : Nat} {l1 : Nat} {l2 : Nat} {l3 : Int32} {r : List Value} {w : ex_W} : ex_go X 0 106 [(0, .ref l0), (1, .ref l1), (2, .ref l2), (3, .int l3)] r w = ex_go X 0 107 [(0, .ref l0), (1, .ref l1), (2, .ref l2), (3, .int l3)] (.ref l2 :: r) w := ex_go_d (by decide +kernel : decode (kC 0) 106 = .ok (.aload_n 2, 1)) rfl rfl (ex_tr_n (by decide +kernel))
theorem s0_107 {X : Option (List Int32)} {l0 : Nat} {l1 : Nat} {l2 : Nat} {l3 : Int32} {r : List Value} {w : ex_W} : ex_go X 0 107 [(0, .ref l0), (1, .ref l1), (2, .ref l2), (3, .int l3)] r w = ex_go X 0 108 [(0, .ref l0), (1, .ref l1), (2, .ref l2), (3, .int l3)] (.ref l0 :: r) w := ex_go_d (by decide +kernel : decode (kC 0) 107 = .ok (.aload_n 0, 1)) rfl rfl (ex_tr_n (by decide +kernel))
theorem s0_108 {X : Option (List Int32)} {l0 : Nat} {l1 : Nat} {l2 : Nat} {l3 : Int32} {r : List Value} {w : ex_W} : ex_go X 0 108 [(0, .ref l0), (1, .ref l1), (2, .ref l2), (3, .int l3)] r w = ex_go X 0 109 [(0, .ref l0), (1, .ref l1), (2, .ref l2), (3, .int l3)] (.int l3 :: r) w := ex_go_d (by decide +kernel : decode (kC 0) 108 = .ok (.iload_n 3, 1)) rfl rfl (ex_tr_n (by decide +kernel))
theorem s0_109 {X : Option (List Int32)} {l0 : Nat} {l1 : Nat} {l2 : Nat} {l3 : Int32} {r : List Value} {w : ex_W} : ex_go X 0 109 [(0, .ref l0), (1, .ref l1), (2, .ref l2), (3, .int l3)] r w = ex_go X 0 110 [(0, .ref l0), (1, .ref l1), (2, .ref l2), (3, .int l3)] (.int 1 :: r) w := go_iconst (by decide +kernel : decode (kC 0) 109 = .ok (.iconst 1, 1)) (by decide +kernel) (ex_tr_n (by decide +kernel))
theorem s0_110 {X : Option (List Int32)} {l0 : Nat} {l1 : Nat} {l2 : Nat} {l3 : Int32} {r : List Value} {t0 t1 : Int32} {w : ex_W} : ex_go X 0 110 [(0, .ref l0), (1, .ref l1), (2, .ref l2), (3, .int l3)] (.int t0 :: .int t1 :: r) w = ex_go X 0 111 [(0, .ref l0), (1, .ref l1), (2, .ref l2), (3, .int l3)] (.int (t1 + t0) :: r) w := ex_go_d (by decide +kernel : decode (kC 0) 110 = .ok (.iadd, 1)) rfl rfl (ex_tr_n (by decide +kernel))
theorem s0_111 {xs : List Int32} {l0 : Nat} {l1 : Nat} {l2 : Nat} {l3 : Int32} {r : List Value} {w : ex_W} {t0 : Int32} (hi : ¬ t0 < 0) : ex_go (some xs) 0 111 [(0, .ref l0), (1, .ref l1), (2, .ref l2), (3, .int l3)] (.int t0 :: .ref 1000 :: r) w = (xs[t0.toNatClampNeg]?).bind (fun v => ex_go (some xs) 0 112 [(0, .ref l0), (1, .ref l1), (2, .ref l2), (3, .int l3)] (.int v :: r) w) := go_sld (by decide +kernel : decode (kC 0) 111 = .ok (.iaload, 1)) (ex_tr_n (by decide +kernel)) hi
theorem s0_112 {X : Option (List Int32)} {l0 : Nat} {l1 : Nat} {l2 : Nat} {l3 : Int32} {r : List Value} {w : ex_W} : ex_go X 0 112 [(0, .ref l0), (1, .ref l1), (2, .ref l2), (3, .int l3)] r w = ex_go X 0 113 [(0, .ref l0), (1, .ref l1), (2, .ref l2), (3, .int l3)] (.ref l0 :: r) w := ex_go_d (by decide +kernel : decode (kC 0) 112 = .ok (.aload_n 0, 1)) rfl rfl (ex_tr_n (by decide +kernel))
theorem s0_113 {X : Option (List Int32)} {l0 : Nat} {l1 : Nat} {l2 : Nat} {l3 : Int32} {r : List Value} {w : ex_W} : ex_go X 0 113 [(0, .ref l0), (1, .ref l1), (2, .ref l2), (3, .int l3)] r w = ex_go X 0 114 [(0, .ref l0), (1, .ref l1), (2, .ref l2), (3, .int l3)] (.int l3 :: r) w := ex_go_d (by decide +kernel : decode (kC 0) 113 = .ok (.iload_n 3, 1)) rfl rfl (ex_tr_n (by decide +kernel))
theorem s0_114 {X : Option (List Int32)} {l0 : Nat} {l1 : Nat} {l2 : Nat} {l3 : Int32} {r : List Value} {w : ex_W} : ex_go X 0 114 [(0, .ref l0), (1, .ref l1), (2, .ref l2), (3, .int l3)] r w = ex_go X 0 115 [(0, .ref l0), (1, .ref l1), (2, .ref l2), (3, .int l3)] (.int 2 :: r) w := go_iconst (by decide +kernel : decode (kC 0) 114 = .ok (.iconst 2, 1)) (by decide +kernel) (ex_tr_n (by decide +kernel))
theorem s0_115 {X : Option (List Int32)} {l0 : Nat} {l1 : Nat} {l2 : Nat} {l3 : Int32} {r : List Value} {t0 t1 : Int32} {w : ex_W} : ex_go X 0 115 [(0, .ref l0), (1, .ref l1), (2, .ref l2), (3, .int l3)] (.int t0 :: .int t1 :: r) w = ex_go X 0 116 [(0, .ref l0), (1, .ref l1), (2, .ref l2), (3, .int l3)] (.int (t1 + t0) :: r) w := ex_go_d (by decide +kernel : decode (kC 0) 115 = .ok (.iadd, 1)) rfl rfl (ex_tr_n (by decide +kernel))
theorem s0_116 {xs : List Int32} {l0 : Nat} {l1 : Nat} {l2 : Nat} {l3 : Int32} {r : List Value} {w : ex_W} {t0 : Int32} (hi : ¬ t0 < 0) : ex_go (some xs) 0 116 [(0, .ref l0), (1, .ref l1), (2, .ref l2), (3, .int l3)] (.int t0 :: .ref 1000 :: r) w = (xs[t0.toNatClampNeg]?).bind (fun v => ex_go (some xs) 0 117 [(0, .ref l0), (1, .ref l1), (2, .ref l2), (3, .int l3)] (.int v :: r) w) := go_sld (by decide +kernel : decode (kC 0) 116 = .ok (.iaload, 1)) (ex_tr_n (by decide +kernel)) hi
theorem s0_117 {X : Option (List Int32)} {l0 : Nat} {l1 : Nat} {l2 : Nat} {l3 : Int32} {t0 : Int32} {t1 : Int32} {t2 : Nat} {t3 : Int32} {w : ex_W} (hr : ex_rc w t2 8 = true) : ex_go X 0 117 [(0, .ref l0), (1, .ref l1), (2, .ref l2), (3, .int l3)] [.int t0, .int t1, .ref t2, .int t3] w = (ex_call X 128 [.ref t2, .int t1, .int t0] w).bind (fun q => ex_go X 0 120 [(0, .ref l0), (1, .ref l1), (2, .ref l2), (3, .int l3)] (q.1.toList ++ [.int t3]) q.2) := go_virt (by decide +kernel : decode (kC 0) 117 = .ok (.invokevirtual 17, 3)) (by decide +kernel : kM (kO 0) 17 = some (128, 0)) (ex_pop_i (n := 3) (by decide +kernel) rfl) (ex_lv_i (n1 := 3) (n2 := 1) (by decide +kernel) rfl rfl) (ex_tr_n (by decide +kernel)) (ex_rc_i (by decide +kernel) hr)
theorem s0_120 {X : Option (List Int32)} {l0 : Nat} {l1 : Nat} {l2 : Nat} {l3 : Int32} {r : List Value} {t0 t1 : Int32} {w : ex_W} : ex_go X 0 120 [(0, .ref l0), (1, .ref l1), (2, .ref l2), (3, .int l3)] (.int t0 :: .int t1 :: r) w = if t1 = t0 then ex_go X 0 315 [(0, .ref l0), (1, .ref l1), (2, .ref l2), (3, .int l3)] r w else ex_go X 0 123 [(0, .ref l0), (1, .ref l1), (2, .ref l2), (3, .int l3)] r w := go_icmp_eq (t := 315) (by decide +kernel : decode (kC 0) 120 = .ok (.if_icmp .eq 195, 3)) (by decide) (ex_tr_k (ks := [0, 1, 2, 3]) (by decide +kernel) rfl) (ex_tr_n (by decide +kernel))
theorem s0_123 {X : Option (List Int32)} {l0 : Nat} {l1 : Nat} {l2 : Nat} {l3 : Int32} {r : List Value} {w : ex_W} : ex_go X 0 123 [(0, .ref l0), (1, .ref l1), (2, .ref l2), (3, .int l3)] r w = ex_go X 0 124 [(0, .ref l0), (1, .ref l1), (2, .ref l2), (3, .int l3)] (.int 0 :: r) w := go_iconst (by decide +kernel : decode (kC 0) 123 = .ok (.iconst 0, 1)) (by decide +kernel) (ex_tr_n (by decide +kernel))
theorem s0_124 {X : Option (List Int32)} {l0 : Nat} {l1 : Nat} {l2 : Nat} {l3 : Int32} {t0 : Int32} {w : ex_W} (hb : t0 = 0 ∨ t0 = 1) : ex_go X 0 124 [(0, .ref l0), (1, .ref l1), (2, .ref l2), (3, .int l3)] [.int t0] w = some (some (.int t0), w) := go_ireturn (by decide +kernel : decode (kC 0) 124 = .ok (.ireturn, 1)) (by decide +kernel : kR 0 = some .boolean) (ex_nz hb)
theorem s0_125 {X : Option (List Int32)} {l0 : Nat} {l1 : Nat} {l2 : Nat} {l3 : Int32} {r : List Value} {w : ex_W} : ex_go X 0 125 [(0, .ref l0), (1, .ref l1), (2, .ref l2), (3, .int l3)] r w = ex_go X 0 126 [(0, .ref l0), (1, .ref l1), (2, .ref l2), (3, .int l3)] (.ref l1 :: r) w := ex_go_d (by decide +kernel : decode (kC 0) 125 = .ok (.aload_n 1, 1)) rfl rfl (ex_tr_n (by decide +kernel))
theorem s0_126 {X : Option (List Int32)} {l0 : Nat} {l1 : Nat} {l2 : Nat} {l3 : Int32} {t0 : Nat} {w : ex_W} (hr : ex_rc w t0 0 = true) : ex_go X 0 126 [(0, .ref l0), (1, .ref l1), (2, .ref l2), (3, .int l3)] [.ref t0] w = (ex_call X 3 [.ref t0] w).bind (fun q => ex_go X 0 129 [(0, .ref l0), (1, .ref l1), (2, .ref l2), (3, .int l3)] (q.1.toList ++ []) q.2) := go_virt (by decide +kernel : decode (kC 0) 126 = .ok (.invokevirtual 18, 3)) (by decide +kernel : kM (kO 0) 18 = some (3, 0)) (ex_pop_i (n := 1) (by decide +kernel) rfl) (ex_lv_i (n1 := 1) (n2 := 0) (by decide +kernel) rfl rfl) (ex_tr_n (by decide +kernel)) (ex_rc_i (by decide +kernel) hr)
theorem s0_129 {X : Option (List Int32)} {l0 : Nat} {l1 : Nat} {l2 : Nat} {l3 : Int32} {r : List Value} {w : ex_W} : ex_go X 0 129 [(0, .ref l0), (1, .ref l1), (2, .ref l2), (3, .int l3)] r w = ex_go X 0 130 [(0, .ref l0), (1, .ref l1), (2, .ref l2), (3, .int l3)] (.ref l2 :: r) w := ex_go_d (by decide +kernel : decode (kC 0) 129 = .ok (.aload_n 2, 1)) rfl rfl (ex_tr_n (by decide +kernel))
theorem s0_130 {X : Option (List Int32)} {l0 : Nat} {l1 : Nat} {l2 : Nat} {l3 : Int32} {t0 : Nat} {t1 : Int32} {w : ex_W} (hr : ex_rc w t0 8 = true) : ex_go X 0 130 [(0, .ref l0), (1, .ref l1), (2, .ref l2), (3, .int l3)] [.ref t0, .int t1] w = (ex_call X 129 [.ref t0] w).bind (fun q => ex_go X 0 133 [(0, .ref l0), (1, .ref l1), (2, .ref l2), (3, .int l3)] (q.1.toList ++ [.int t1]) q.2) := go_virt (by decide +kernel : decode (kC 0) 130 = .ok (.invokevirtual 22, 3)) (by decide +kernel : kM (kO 0) 22 = some (129, 0)) (ex_pop_i (n := 1) (by decide +kernel) rfl) (ex_lv_i (n1 := 1) (n2 := 1) (by decide +kernel) rfl rfl) (ex_tr_n (by decide +kernel)) (ex_rc_i (by decide +kernel) hr)
theorem s0_133 {X : Option (List Int32)} {l0 : Nat} {l1 : Nat} {l2 : Nat} {l3 : Int32} {r : List Value} {t0 t1 : Int32} {w : ex_W} : ex_go X 0 133 [(0, .ref l0), (1, .ref l1), (2, .ref l2), (3, .int l3)] (.int t0 :: .int t1 :: r) w = if t1 = t0 then ex_go X 0 315 [(0, .ref l0), (1, .ref l1), (2, .ref l2), (3, .int l3)] r w else ex_go X 0 136 [(0, .ref l0), (1, .ref l1), (2, .ref l2), (3, .int l3)] r w := go_icmp_eq (t := 315) (by decide +kernel : decode (kC 0) 133 = .ok (.if_icmp .eq 182, 3)) (by decide) (ex_tr_k (ks := [0, 1, 2, 3]) (by decide +kernel) rfl) (ex_tr_n (by decide +kernel))
theorem s0_136 {X : Option (List Int32)} {l0 : Nat} {l1 : Nat} {l2 : Nat} {l3 : Int32} {r : List Value} {w : ex_W} : ex_go X 0 136 [(0, .ref l0), (1, .ref l1), (2, .ref l2), (3, .int l3)] r w = ex_go X 0 137 [(0, .ref l0), (1, .ref l1), (2, .ref l2), (3, .int l3)] (.int 0 :: r) w := go_iconst (by decide +kernel : decode (kC 0) 136 = .ok (.iconst 0, 1)) (by decide +kernel) (ex_tr_n (by decide +kernel))
theorem s0_137 {X : Option (List Int32)} {l0 : Nat} {l1 : Nat} {l2 : Nat} {l3 : Int32} {t0 : Int32} {w : ex_W} (hb : t0 = 0 ∨ t0 = 1) : ex_go X 0 137 [(0, .ref l0), (1, .ref l1), (2, .ref l2), (3, .int l3)] [.int t0] w = some (some (.int t0), w) := go_ireturn (by decide +kernel : decode (kC 0) 137 = .ok (.ireturn, 1)) (by decide +kernel : kR 0 = some .boolean) (ex_nz hb)
theorem s0_138 {X : Option (List Int32)} {l0 : Nat} {l1 : Nat} {l2 : Nat} {l3 : Int32} {r : List Value} {w : ex_W} : ex_go X 0 138 [(0, .ref l0), (1, .ref l1), (2, .ref l2), (3, .int l3)] r w = ex_go X 0 139 [(0, .ref l0), (1, .ref l1), (2, .ref l2), (3, .int l3)] (.ref l1 :: r) w := ex_go_d (by decide +kernel : decode (kC 0) 138 = .ok (.aload_n 1, 1)) rfl rfl (ex_tr_n (by decide +kernel))
theorem s0_139 {X : Option (List Int32)} {l0 : Nat} {l1 : Nat} {l2 : Nat} {l3 : Int32} {r : List Value} {w : ex_W} : ex_go X 0 139 [(0, .ref l0), (1, .ref l1), (2, .ref l2), (3, .int l3)] r w = ex_go X 0 140 [(0, .ref l0), (1, .ref l1), (2, .ref l2), (3, .int l3)] (.ref l0 :: r) w := ex_go_d (by decide +kernel : decode (kC 0) 139 = .ok (.aload_n 0, 1)) rfl rfl (ex_tr_n (by decide +kernel))
theorem s0_140 {X : Option (List Int32)} {l0 : Nat} {l1 : Nat} {l2 : Nat} {l3 : Int32} {r : List Value} {w : ex_W} : ex_go X 0 140 [(0, .ref l0), (1, .ref l1), (2, .ref l2), (3, .int l3)] r w = ex_go X 0 141 [(0, .ref l0), (1, .ref l1), (2, .ref l2), (3, .int l3)] (.int l3 :: r) w := ex_go_d (by decide +kernel : decode (kC 0) 140 = .ok (.iload_n 3, 1)) rfl rfl (ex_tr_n (by decide +kernel))
theorem s0_141 {X : Option (List Int32)} {l0 : Nat} {l1 : Nat} {l2 : Nat} {l3 : Int32} {r : List Value} {w : ex_W} : ex_go X 0 141 [(0, .ref l0), (1, .ref l1), (2, .ref l2), (3, .int l3)] r w = ex_go X 0 142 [(0, .ref l0), (1, .ref l1), (2, .ref l2), (3, .int l3)] (.int 1 :: r) w := go_iconst (by decide +kernel : decode (kC 0) 141 = .ok (.iconst 1, 1)) (by decide +kernel) (ex_tr_n (by decide +kernel))
theorem s0_142 {X : Option (List Int32)} {l0 : Nat} {l1 : Nat} {l2 : Nat} {l3 : Int32} {r : List Value} {t0 t1 : Int32} {w : ex_W} : ex_go X 0 142 [(0, .ref l0), (1, .ref l1), (2, .ref l2), (3, .int l3)] (.int t0 :: .int t1 :: r) w = ex_go X 0 143 [(0, .ref l0), (1, .ref l1), (2, .ref l2), (3, .int l3)] (.int (t1 + t0) :: r) w := ex_go_d (by decide +kernel : decode (kC 0) 142 = .ok (.iadd, 1)) rfl rfl (ex_tr_n (by decide +kernel))
theorem s0_143 {xs : List Int32} {l0 : Nat} {l1 : Nat} {l2 : Nat} {l3 : Int32} {r : List Value} {w : ex_W} {t0 : Int32} (hi : ¬ t0 < 0) : ex_go (some xs) 0 143 [(0, .ref l0), (1, .ref l1), (2, .ref l2), (3, .int l3)] (.int t0 :: .ref 1000 :: r) w = (xs[t0.toNatClampNeg]?).bind (fun v => ex_go (some xs) 0 144 [(0, .ref l0), (1, .ref l1), (2, .ref l2), (3, .int l3)] (.int v :: r) w) := go_sld (by decide +kernel : decode (kC 0) 143 = .ok (.iaload, 1)) (ex_tr_n (by decide +kernel)) hi
theorem s0_144 {X : Option (List Int32)} {l0 : Nat} {l1 : Nat} {l2 : Nat} {l3 : Int32} {r : List Value} {w : ex_W} : ex_go X 0 144 [(0, .ref l0), (1, .ref l1), (2, .ref l2), (3, .int l3)] r w = ex_go X 0 145 [(0, .ref l0), (1, .ref l1), (2, .ref l2), (3, .int l3)] (.ref l0 :: r) w := ex_go_d (by decide +kernel : decode (kC 0) 144 = .ok (.aload_n 0, 1)) rfl rfl (ex_tr_n (by decide +kernel))
theorem s0_145 {X : Option (List Int32)} {l0 : Nat} {l1 : Nat} {l2 : Nat} {l3 : Int32} {r : List Value} {w : ex_W} : ex_go X 0 145 [(0, .ref l0), (1, .ref l1), (2, .ref l2), (3, .int l3)] r w = ex_go X 0 146 [(0, .ref l0), (1, .ref l1), (2, .ref l2), (3, .int l3)] (.int l3 :: r) w := ex_go_d (by decide +kernel : decode (kC 0) 145 = .ok (.iload_n 3, 1)) rfl rfl (ex_tr_n (by decide +kernel))
theorem s0_146 {X : Option (List Int32)} {l0 : Nat} {l1 : Nat} {l2 : Nat} {l3 : Int32} {r : List Value} {w : ex_W} : ex_go X 0 146 [(0, .ref l0), (1, .ref l1), (2, .ref l2), (3, .int l3)] r w = ex_go X 0 147 [(0, .ref l0), (1, .ref l1), (2, .ref l2), (3, .int l3)] (.int 2 :: r) w := go_iconst (by decide +kernel : decode (kC 0) 146 = .ok (.iconst 2, 1)) (by decide +kernel) (ex_tr_n (by decide +kernel))
theorem s0_147 {X : Option (List Int32)} {l0 : Nat} {l1 : Nat} {l2 : Nat} {l3 : Int32} {r : List Value} {t0 t1 : Int32} {w : ex_W} : ex_go X 0 147 [(0, .ref l0), (1, .ref l1), (2, .ref l2), (3, .int l3)] (.int t0 :: .int t1 :: r) w = ex_go X 0 148 [(0, .ref l0), (1, .ref l1), (2, .ref l2), (3, .int l3)] (.int (t1 + t0) :: r) w := ex_go_d (by decide +kernel : decode (kC 0) 147 = .ok (.iadd, 1)) rfl rfl (ex_tr_n (by decide +kernel))
theorem s0_148 {xs : List Int32} {l0 : Nat} {l1 : Nat} {l2 : Nat} {l3 : Int32} {r : List Value} {w : ex_W} {t0 : Int32} (hi : ¬ t0 < 0) : ex_go (some xs) 0 148 [(0, .ref l0), (1, .ref l1), (2, .ref l2), (3, .int l3)] (.int t0 :: .ref 1000 :: r) w = (xs[t0.toNatClampNeg]?).bind (fun v => ex_go (some xs) 0 149 [(0, .ref l0), (1, .ref l1), (2, .ref l2), (3, .int l3)] (.int v :: r) w) := go_sld (by decide +kernel : decode (kC 0) 148 = .ok (.iaload, 1)) (ex_tr_n (by decide +kernel)) hi
theorem s0_149 {X : Option (List Int32)} {l0 : Nat} {l1 : Nat} {l2 : Nat} {l3 : Int32} {t0 : Int32} {t1 : Int32} {t2 : Nat} {w : ex_W} (hr : ex_rc w t2 0 = true) : ex_go X 0 149 [(0, .ref l0), (1, .ref l1), (2, .ref l2), (3, .int l3)] [.int t0, .int t1, .ref t2] w = (ex_call X 5 [.ref t2, .int t1, .int t0] w).bind (fun q => ex_go X 0 152 [(0, .ref l0), (1, .ref l1), (2, .ref l2), (3, .int l3)] (q.1.toList ++ []) q.2) := go_virt (by decide +kernel : decode (kC 0) 149 = .ok (.invokevirtual 23, 3)) (by decide +kernel : kM (kO 0) 23 = some (5, 0)) (ex_pop_i (n := 3) (by decide +kernel) rfl) (ex_lv_i (n1 := 3) (n2 := 0) (by decide +kernel) rfl rfl) (ex_tr_n (by decide +kernel)) (ex_rc_i (by decide +kernel) hr)
theorem s0_152 {X : Option (List Int32)} {l0 : Nat} {l1 : Nat} {l2 : Nat} {l3 : Int32} {r : List Value} {w : ex_W} : ex_go X 0 152 [(0, .ref l0), (1, .ref l1), (2, .ref l2), (3, .int l3)] r w = ex_go X 0 153 [(0, .ref l0), (1, .ref l1), (2, .ref l2), (3, .int l3)] (.ref l2 :: r) w := ex_go_d (by decide +kernel : decode (kC 0) 152 = .ok (.aload_n 2, 1)) rfl rfl (ex_tr_n (by decide +kernel))
theorem s0_153 {X : Option (List Int32)} {l0 : Nat} {l1 : Nat} {l2 : Nat} {l3 : Int32} {r : List Value} {w : ex_W} : ex_go X 0 153 [(0, .ref l0), (1, .ref l1), (2, .ref l2), (3, .int l3)] r w = ex_go X 0 154 [(0, .ref l0), (1, .ref l1), (2, .ref l2), (3, .int l3)] (.ref l0 :: r) w := ex_go_d (by decide +kernel : decode (kC 0) 153 = .ok (.aload_n 0, 1)) rfl rfl (ex_tr_n (by decide +kernel))
theorem s0_154 {X : Option (List Int32)} {l0 : Nat} {l1 : Nat} {l2 : Nat} {l3 : Int32} {r : List Value} {w : ex_W} : ex_go X 0 154 [(0, .ref l0), (1, .ref l1), (2, .ref l2), (3, .int l3)] r w = ex_go X 0 155 [(0, .ref l0), (1, .ref l1), (2, .ref l2), (3, .int l3)] (.int l3 :: r) w := ex_go_d (by decide +kernel : decode (kC 0) 154 = .ok (.iload_n 3, 1)) rfl rfl (ex_tr_n (by decide +kernel))
theorem s0_155 {X : Option (List Int32)} {l0 : Nat} {l1 : Nat} {l2 : Nat} {l3 : Int32} {r : List Value} {w : ex_W} : ex_go X 0 155 [(0, .ref l0), (1, .ref l1), (2, .ref l2), (3, .int l3)] r w = ex_go X 0 156 [(0, .ref l0), (1, .ref l1), (2, .ref l2), (3, .int l3)] (.int 1 :: r) w := go_iconst (by decide +kernel : decode (kC 0) 155 = .ok (.iconst 1, 1)) (by decide +kernel) (ex_tr_n (by decide +kernel))
theorem s0_156 {X : Option (List Int32)} {l0 : Nat} {l1 : Nat} {l2 : Nat} {l3 : Int32} {r : List Value} {t0 t1 : Int32} {w : ex_W} : ex_go X 0 156 [(0, .ref l0), (1, .ref l1), (2, .ref l2), (3, .int l3)] (.int t0 :: .int t1 :: r) w = ex_go X 0 157 [(0, .ref l0), (1, .ref l1), (2, .ref l2), (3, .int l3)] (.int (t1 + t0) :: r) w := ex_go_d (by decide +kernel : decode (kC 0) 156 = .ok (.iadd, 1)) rfl rfl (ex_tr_n (by decide +kernel))
theorem s0_157 {xs : List Int32} {l0 : Nat} {l1 : Nat} {l2 : Nat} {l3 : Int32} {r : List Value} {w : ex_W} {t0 : Int32} (hi : ¬ t0 < 0) : ex_go (some xs) 0 157 [(0, .ref l0), (1, .ref l1), (2, .ref l2), (3, .int l3)] (.int t0 :: .ref 1000 :: r) w = (xs[t0.toNatClampNeg]?).bind (fun v => ex_go (some xs) 0 158 [(0, .ref l0), (1, .ref l1), (2, .ref l2), (3, .int l3)] (.int v :: r) w) := go_sld (by decide +kernel : decode (kC 0) 157 = .ok (.iaload, 1)) (ex_tr_n (by decide +kernel)) hi
theorem s0_158 {X : Option (List Int32)} {l0 : Nat} {l1 : Nat} {l2 : Nat} {l3 : Int32} {r : List Value} {w : ex_W} : ex_go X 0 158 [(0, .ref l0), (1, .ref l1), (2, .ref l2), (3, .int l3)] r w = ex_go X 0 159 [(0, .ref l0), (1, .ref l1), (2, .ref l2), (3, .int l3)] (.ref l0 :: r) w := ex_go_d (by decide +kernel : decode (kC 0) 158 = .ok (.aload_n 0, 1)) rfl rfl (ex_tr_n (by decide +kernel))
theorem s0_159 {X : Option (List Int32)} {l0 : Nat} {l1 : Nat} {l2 : Nat} {l3 : Int32} {r : List Value} {w : ex_W} : ex_go X 0 159 [(0, .ref l0), (1, .ref l1), (2, .ref l2), (3, .int l3)] r w = ex_go X 0 160 [(0, .ref l0), (1, .ref l1), (2, .ref l2), (3, .int l3)] (.int l3 :: r) w := ex_go_d (by decide +kernel : decode (kC 0) 159 = .ok (.iload_n 3, 1)) rfl rfl (ex_tr_n (by decide +kernel))
theorem s0_160 {X : Option (List Int32)} {l0 : Nat} {l1 : Nat} {l2 : Nat} {l3 : Int32} {r : List Value} {w : ex_W} : ex_go X 0 160 [(0, .ref l0), (1, .ref l1), (2, .ref l2), (3, .int l3)] r w = ex_go X 0 161 [(0, .ref l0), (1, .ref l1), (2, .ref l2), (3, .int l3)] (.int 2 :: r) w := go_iconst (by decide +kernel : decode (kC 0) 160 = .ok (.iconst 2, 1)) (by decide +kernel) (ex_tr_n (by decide +kernel))
theorem s0_161 {X : Option (List Int32)} {l0 : Nat} {l1 : Nat} {l2 : Nat} {l3 : Int32} {r : List Value} {t0 t1 : Int32} {w : ex_W} : ex_go X 0 161 [(0, .ref l0), (1, .ref l1), (2, .ref l2), (3, .int l3)] (.int t0 :: .int t1 :: r) w = ex_go X 0 162 [(0, .ref l0), (1, .ref l1), (2, .ref l2), (3, .int l3)] (.int (t1 + t0) :: r) w := ex_go_d (by decide +kernel : decode (kC 0) 161 = .ok (.iadd, 1)) rfl rfl (ex_tr_n (by decide +kernel))
theorem s0_162 {xs : List Int32} {l0 : Nat} {l1 : Nat} {l2 : Nat} {l3 : Int32} {r : List Value} {w : ex_W} {t0 : Int32} (hi : ¬ t0 < 0) : ex_go (some xs) 0 162 [(0, .ref l0), (1, .ref l1), (2, .ref l2), (3, .int l3)] (.int t0 :: .ref 1000 :: r) w = (xs[t0.toNatClampNeg]?).bind (fun v => ex_go (some xs) 0 163 [(0, .ref l0), (1, .ref l1), (2, .ref l2), (3, .int l3)] (.int v :: r) w) := go_sld (by decide +kernel : decode (kC 0) 162 = .ok (.iaload, 1)) (ex_tr_n (by decide +kernel)) hi
theorem s0_163 {X : Option (List Int32)} {l0 : Nat} {l1 : Nat} {l2 : Nat} {l3 : Int32} {t0 : Int32} {t1 : Int32} {t2 : Nat} {t3 : Int32} {w : ex_W} (hr : ex_rc w t2 8 = true) : ex_go X 0 163 [(0, .ref l0), (1, .ref l1), (2, .ref l2), (3, .int l3)] [.int t0, .int t1, .ref t2, .int t3] w = (ex_call X 134 [.ref t2, .int t1, .int t0] w).bind (fun q => ex_go X 0 166 [(0, .ref l0), (1, .ref l1), (2, .ref l2), (3, .int l3)] (q.1.toList ++ [.int t3]) q.2) := go_virt (by decide +kernel : decode (kC 0) 163 = .ok (.invokevirtual 26, 3)) (by decide +kernel : kM (kO 0) 26 = some (134, 0)) (ex_pop_i (n := 3) (by decide +kernel) rfl) (ex_lv_i (n1 := 3) (n2 := 1) (by decide +kernel) rfl rfl) (ex_tr_n (by decide +kernel)) (ex_rc_i (by decide +kernel) hr)
theorem s0_166 {X : Option (List Int32)} {l0 : Nat} {l1 : Nat} {l2 : Nat} {l3 : Int32} {r : List Value} {t0 t1 : Int32} {w : ex_W} : ex_go X 0 166 [(0, .ref l0), (1, .ref l1), (2, .ref l2), (3, .int l3)] (.int t0 :: .int t1 :: r) w = if t1 = t0 then ex_go X 0 315 [(0, .ref l0), (1, .ref l1), (2, .ref l2), (3, .int l3)] r w else ex_go X 0 169 [(0, .ref l0), (1, .ref l1), (2, .ref l2), (3, .int l3)] r w := go_icmp_eq (t := 315) (by decide +kernel : decode (kC 0) 166 = .ok (.if_icmp .eq 149, 3)) (by decide) (ex_tr_k (ks := [0, 1, 2, 3]) (by decide +kernel) rfl) (ex_tr_n (by decide +kernel))
theorem s0_169 {X : Option (List Int32)} {l0 : Nat} {l1 : Nat} {l2 : Nat} {l3 : Int32} {r : List Value} {w : ex_W} : ex_go X 0 169 [(0, .ref l0), (1, .ref l1), (2, .ref l2), (3, .int l3)] r w = ex_go X 0 170 [(0, .ref l0), (1, .ref l1), (2, .ref l2), (3, .int l3)] (.int 0 :: r) w := go_iconst (by decide +kernel : decode (kC 0) 169 = .ok (.iconst 0, 1)) (by decide +kernel) (ex_tr_n (by decide +kernel))
theorem s0_170 {X : Option (List Int32)} {l0 : Nat} {l1 : Nat} {l2 : Nat} {l3 : Int32} {t0 : Int32} {w : ex_W} (hb : t0 = 0 ∨ t0 = 1) : ex_go X 0 170 [(0, .ref l0), (1, .ref l1), (2, .ref l2), (3, .int l3)] [.int t0] w = some (some (.int t0), w) := go_ireturn (by decide +kernel : decode (kC 0) 170 = .ok (.ireturn, 1)) (by decide +kernel : kR 0 = some .boolean) (ex_nz hb)
theorem s0_171 {X : Option (List Int32)} {l0 : Nat} {l1 : Nat} {l2 : Nat} {l3 : Int32} {r : List Value} {w : ex_W} : ex_go X 0 171 [(0, .ref l0), (1, .ref l1), (2, .ref l2), (3, .int l3)] r w = ex_go X 0 172 [(0, .ref l0), (1, .ref l1), (2, .ref l2), (3, .int l3)] (.ref l1 :: r) w := ex_go_d (by decide +kernel : decode (kC 0) 171 = .ok (.aload_n 1, 1)) rfl rfl (ex_tr_n (by decide +kernel))
theorem s0_172 {X : Option (List Int32)} {l0 : Nat} {l1 : Nat} {l2 : Nat} {l3 : Int32} {t0 : Nat} {w : ex_W} (hr : ex_rc w t0 0 = true) : ex_go X 0 172 [(0, .ref l0), (1, .ref l1), (2, .ref l2), (3, .int l3)] [.ref t0] w = (ex_call X 7 [.ref t0] w).bind (fun q => ex_go X 0 175 [(0, .ref l0), (1, .ref l1), (2, .ref l2), (3, .int l3)] (q.1.toList ++ []) q.2) := go_virt (by decide +kernel : decode (kC 0) 172 = .ok (.invokevirtual 27, 3)) (by decide +kernel : kM (kO 0) 27 = some (7, 0)) (ex_pop_i (n := 1) (by decide +kernel) rfl) (ex_lv_i (n1 := 1) (n2 := 0) (by decide +kernel) rfl rfl) (ex_tr_n (by decide +kernel)) (ex_rc_i (by decide +kernel) hr)
theorem s0_175 {X : Option (List Int32)} {l0 : Nat} {l1 : Nat} {l2 : Nat} {l3 : Int32} {r : List Value} {w : ex_W} : ex_go X 0 175 [(0, .ref l0), (1, .ref l1), (2, .ref l2), (3, .int l3)] r w = ex_go X 0 176 [(0, .ref l0), (1, .ref l1), (2, .ref l2), (3, .int l3)] (.ref l2 :: r) w := ex_go_d (by decide +kernel : decode (kC 0) 175 = .ok (.aload_n 2, 1)) rfl rfl (ex_tr_n (by decide +kernel))
theorem s0_176 {X : Option (List Int32)} {l0 : Nat} {l1 : Nat} {l2 : Nat} {l3 : Int32} {t0 : Nat} {t1 : Int32} {w : ex_W} (hr : ex_rc w t0 8 = true) : ex_go X 0 176 [(0, .ref l0), (1, .ref l1), (2, .ref l2), (3, .int l3)] [.ref t0, .int t1] w = (ex_call X 135 [.ref t0] w).bind (fun q => ex_go X 0 179 [(0, .ref l0), (1, .ref l1), (2, .ref l2), (3, .int l3)] (q.1.toList ++ [.int t1]) q.2) := go_virt (by decide +kernel : decode (kC 0) 176 = .ok (.invokevirtual 30, 3)) (by decide +kernel : kM (kO 0) 30 = some (135, 0)) (ex_pop_i (n := 1) (by decide +kernel) rfl) (ex_lv_i (n1 := 1) (n2 := 1) (by decide +kernel) rfl rfl) (ex_tr_n (by decide +kernel)) (ex_rc_i (by decide +kernel) hr)
theorem s0_179 {X : Option (List Int32)} {l0 : Nat} {l1 : Nat} {l2 : Nat} {l3 : Int32} {r : List Value} {t0 t1 : Int32} {w : ex_W} : ex_go X 0 179 [(0, .ref l0), (1, .ref l1), (2, .ref l2), (3, .int l3)] (.int t0 :: .int t1 :: r) w = if t1 = t0 then ex_go X 0 315 [(0, .ref l0), (1, .ref l1), (2, .ref l2), (3, .int l3)] r w else ex_go X 0 182 [(0, .ref l0), (1, .ref l1), (2, .ref l2), (3, .int l3)] r w := go_icmp_eq (t := 315) (by decide +kernel : decode (kC 0) 179 = .ok (.if_icmp .eq 136, 3)) (by decide) (ex_tr_k (ks := [0, 1, 2, 3]) (by decide +kernel) rfl) (ex_tr_n (by decide +kernel))
theorem s0_182 {X : Option (List Int32)} {l0 : Nat} {l1 : Nat} {l2 : Nat} {l3 : Int32} {r : List Value} {w : ex_W} : ex_go X 0 182 [(0, .ref l0), (1, .ref l1), (2, .ref l2), (3, .int l3)] r w = ex_go X 0 183 [(0, .ref l0), (1, .ref l1), (2, .ref l2), (3, .int l3)] (.int 0 :: r) w := go_iconst (by decide +kernel : decode (kC 0) 182 = .ok (.iconst 0, 1)) (by decide +kernel) (ex_tr_n (by decide +kernel))
theorem s0_183 {X : Option (List Int32)} {l0 : Nat} {l1 : Nat} {l2 : Nat} {l3 : Int32} {t0 : Int32} {w : ex_W} (hb : t0 = 0 ∨ t0 = 1) : ex_go X 0 183 [(0, .ref l0), (1, .ref l1), (2, .ref l2), (3, .int l3)] [.int t0] w = some (some (.int t0), w) := go_ireturn (by decide +kernel : decode (kC 0) 183 = .ok (.ireturn, 1)) (by decide +kernel : kR 0 = some .boolean) (ex_nz hb)
theorem s0_184 {X : Option (List Int32)} {l0 : Nat} {l1 : Nat} {l2 : Nat} {l3 : Int32} {r : List Value} {w : ex_W} : ex_go X 0 184 [(0, .ref l0), (1, .ref l1), (2, .ref l2), (3, .int l3)] r w = ex_go X 0 185 [(0, .ref l0), (1, .ref l1), (2, .ref l2), (3, .int l3)] (.ref l1 :: r) w := ex_go_d (by decide +kernel : decode (kC 0) 184 = .ok (.aload_n 1, 1)) rfl rfl (ex_tr_n (by decide +kernel))
theorem s0_185 {X : Option (List Int32)} {l0 : Nat} {l1 : Nat} {l2 : Nat} {l3 : Int32} {t0 : Nat} {w : ex_W} (hr : ex_rc w t0 0 = true) : ex_go X 0 185 [(0, .ref l0), (1, .ref l1), (2, .ref l2), (3, .int l3)] [.ref t0] w = (ex_call X 8 [.ref t0] w).bind (fun q => ex_go X 0 188 [(0, .ref l0), (1, .ref l1), (2, .ref l2), (3, .int l3)] (q.1.toList ++ []) q.2) := go_virt (by decide +kernel : decode (kC 0) 185 = .ok (.invokevirtual 31, 3)) (by decide +kernel : kM (kO 0) 31 = some (8, 0)) (ex_pop_i (n := 1) (by decide +kernel) rfl) (ex_lv_i (n1 := 1) (n2 := 0) (by decide +kernel) rfl rfl) (ex_tr_n (by decide +kernel)) (ex_rc_i (by decide +kernel) hr)
theorem s0_188 {X : Option (List Int32)} {l0 : Nat} {l1 : Nat} {l2 : Nat} {l3 : Int32} {r : List Value} {w : ex_W} : ex_go X 0 188 [(0, .ref l0), (1, .ref l1), (2, .ref l2), (3, .int l3)] r w = ex_go X 0 189 [(0, .ref l0), (1, .ref l1), (2, .ref l2), (3, .int l3)] (.ref l2 :: r) w := ex_go_d (by decide +kernel : decode (kC 0) 188 = .ok (.aload_n 2, 1)) rfl rfl (ex_tr_n (by decide +kernel))
theorem s0_189 {X : Option (List Int32)} {l0 : Nat} {l1 : Nat} {l2 : Nat} {l3 : Int32} {t0 : Nat} {t1 : Int32} {w : ex_W} (hr : ex_rc w t0 8 = true) : ex_go X 0 189 [(0, .ref l0), (1, .ref l1), (2, .ref l2), (3, .int l3)] [.ref t0, .int t1] w = (ex_call X 160 [.ref t0] w).bind (fun q => ex_go X 0 192 [(0, .ref l0), (1, .ref l1), (2, .ref l2), (3, .int l3)] (q.1.toList ++ [.int t1]) q.2) := go_virt (by decide +kernel : decode (kC 0) 189 = .ok (.invokevirtual 34, 3)) (by decide +kernel : kM (kO 0) 34 = some (160, 0)) (ex_pop_i (n := 1) (by decide +kernel) rfl) (ex_lv_i (n1 := 1) (n2 := 1) (by decide +kernel) rfl rfl) (ex_tr_n (by decide +kernel)) (ex_rc_i (by decide +kernel) hr)
theorem s0_192 {X : Option (List Int32)} {l0 : Nat} {l1 : Nat} {l2 : Nat} {l3 : Int32} {r : List Value} {t0 t1 : Int32} {w : ex_W} : ex_go X 0 192 [(0, .ref l0), (1, .ref l1), (2, .ref l2), (3, .int l3)] (.int t0 :: .int t1 :: r) w = if t1 = t0 then ex_go X 0 315 [(0, .ref l0), (1, .ref l1), (2, .ref l2), (3, .int l3)] r w else ex_go X 0 195 [(0, .ref l0), (1, .ref l1), (2, .ref l2), (3, .int l3)] r w := go_icmp_eq (t := 315) (by decide +kernel : decode (kC 0) 192 = .ok (.if_icmp .eq 123, 3)) (by decide) (ex_tr_k (ks := [0, 1, 2, 3]) (by decide +kernel) rfl) (ex_tr_n (by decide +kernel))
theorem s0_195 {X : Option (List Int32)} {l0 : Nat} {l1 : Nat} {l2 : Nat} {l3 : Int32} {r : List Value} {w : ex_W} : ex_go X 0 195 [(0, .ref l0), (1, .ref l1), (2, .ref l2), (3, .int l3)] r w = ex_go X 0 196 [(0, .ref l0), (1, .ref l1), (2, .ref l2), (3, .int l3)] (.int 0 :: r) w := go_iconst (by decide +kernel : decode (kC 0) 195 = .ok (.iconst 0, 1)) (by decide +kernel) (ex_tr_n (by decide +kernel))
theorem s0_196 {X : Option (List Int32)} {l0 : Nat} {l1 : Nat} {l2 : Nat} {l3 : Int32} {t0 : Int32} {w : ex_W} (hb : t0 = 0 ∨ t0 = 1) : ex_go X 0 196 [(0, .ref l0), (1, .ref l1), (2, .ref l2), (3, .int l3)] [.int t0] w = some (some (.int t0), w) := go_ireturn (by decide +kernel : decode (kC 0) 196 = .ok (.ireturn, 1)) (by decide +kernel : kR 0 = some .boolean) (ex_nz hb)
theorem s0_197 {X : Option (List Int32)} {l0 : Nat} {l1 : Nat} {l2 : Nat} {l3 : Int32} {r : List Value} {w : ex_W} : ex_go X 0 197 [(0, .ref l0), (1, .ref l1), (2, .ref l2), (3, .int l3)] r w = ex_go X 0 198 [(0, .ref l0), (1, .ref l1), (2, .ref l2), (3, .int l3)] (.ref l1 :: r) w := ex_go_d (by decide +kernel : decode (kC 0) 197 = .ok (.aload_n 1, 1)) rfl rfl (ex_tr_n (by decide +kernel))
theorem s0_198 {X : Option (List Int32)} {l0 : Nat} {l1 : Nat} {l2 : Nat} {l3 : Int32} {r : List Value} {w : ex_W} : ex_go X 0 198 [(0, .ref l0), (1, .ref l1), (2, .ref l2), (3, .int l3)] r w = ex_go X 0 199 [(0, .ref l0), (1, .ref l1), (2, .ref l2), (3, .int l3)] (.ref l0 :: r) w := ex_go_d (by decide +kernel : decode (kC 0) 198 = .ok (.aload_n 0, 1)) rfl rfl (ex_tr_n (by decide +kernel))
theorem s0_199 {X : Option (List Int32)} {l0 : Nat} {l1 : Nat} {l2 : Nat} {l3 : Int32} {r : List Value} {w : ex_W} : ex_go X 0 199 [(0, .ref l0), (1, .ref l1), (2, .ref l2), (3, .int l3)] r w = ex_go X 0 200 [(0, .ref l0), (1, .ref l1), (2, .ref l2), (3, .int l3)] (.int l3 :: r) w := ex_go_d (by decide +kernel : decode (kC 0) 199 = .ok (.iload_n 3, 1)) rfl rfl (ex_tr_n (by decide +kernel))
theorem s0_200 {X : Option (List Int32)} {l0 : Nat} {l1 : Nat} {l2 : Nat} {l3 : Int32} {r : List Value} {w : ex_W} : ex_go X 0 200 [(0, .ref l0), (1, .ref l1), (2, .ref l2), (3, .int l3)] r w = ex_go X 0 201 [(0, .ref l0), (1, .ref l1), (2, .ref l2), (3, .int l3)] (.int 1 :: r) w := go_iconst (by decide +kernel : decode (kC 0) 200 = .ok (.iconst 1, 1)) (by decide +kernel) (ex_tr_n (by decide +kernel))
theorem s0_201 {X : Option (List Int32)} {l0 : Nat} {l1 : Nat} {l2 : Nat} {l3 : Int32} {r : List Value} {t0 t1 : Int32} {w : ex_W} : ex_go X 0 201 [(0, .ref l0), (1, .ref l1), (2, .ref l2), (3, .int l3)] (.int t0 :: .int t1 :: r) w = ex_go X 0 202 [(0, .ref l0), (1, .ref l1), (2, .ref l2), (3, .int l3)] (.int (t1 + t0) :: r) w := ex_go_d (by decide +kernel : decode (kC 0) 201 = .ok (.iadd, 1)) rfl rfl (ex_tr_n (by decide +kernel))
theorem s0_202 {xs : List Int32} {l0 : Nat} {l1 : Nat} {l2 : Nat} {l3 : Int32} {r : List Value} {w : ex_W} {t0 : Int32} (hi : ¬ t0 < 0) : ex_go (some xs) 0 202 [(0, .ref l0), (1, .ref l1), (2, .ref l2), (3, .int l3)] (.int t0 :: .ref 1000 :: r) w = (xs[t0.toNatClampNeg]?).bind (fun v => ex_go (some xs) 0 203 [(0, .ref l0), (1, .ref l1), (2, .ref l2), (3, .int l3)] (.int v :: r) w) := go_sld (by decide +kernel : decode (kC 0) 202 = .ok (.iaload, 1)) (ex_tr_n (by decide +kernel)) hi
theorem s0_203 {X : Option (List Int32)} {l0 : Nat} {l1 : Nat} {l2 : Nat} {l3 : Int32} {t0 : Int32} {t1 : Nat} {w : ex_W} (hr : ex_rc w t1 0 = true) : ex_go X 0 203 [(0, .ref l0), (1, .ref l1), (2, .ref l2), (3, .int l3)] [.int t0, .ref t1] w = (ex_call X 9 [.ref t1, .int t0] w).bind (fun q => ex_go X 0 206 [(0, .ref l0), (1, .ref l1), (2, .ref l2), (3, .int l3)] (q.1.toList ++ []) q.2) := go_virt (by decide +kernel : decode (kC 0) 203 = .ok (.invokevirtual 35, 3)) (by decide +kernel : kM (kO 0) 35 = some (9, 0)) (ex_pop_i (n := 2) (by decide +kernel) rfl) (ex_lv_i (n1 := 2) (n2 := 0) (by decide +kernel) rfl rfl) (ex_tr_n (by decide +kernel)) (ex_rc_i (by decide +kernel) hr)
theorem s0_206 {X : Option (List Int32)} {l0 : Nat} {l1 : Nat} {l2 : Nat} {l3 : Int32} {r : List Value} {w : ex_W} : ex_go X 0 206 [(0, .ref l0), (1, .ref l1), (2, .ref l2), (3, .int l3)] r w = ex_go X 0 207 [(0, .ref l0), (1, .ref l1), (2, .ref l2), (3, .int l3)] (.ref l2 :: r) w := ex_go_d (by decide +kernel : decode (kC 0) 206 = .ok (.aload_n 2, 1)) rfl rfl (ex_tr_n (by decide +kernel))
theorem s0_207 {X : Option (List Int32)} {l0 : Nat} {l1 : Nat} {l2 : Nat} {l3 : Int32} {r : List Value} {w : ex_W} : ex_go X 0 207 [(0, .ref l0), (1, .ref l1), (2, .ref l2), (3, .int l3)] r w = ex_go X 0 208 [(0, .ref l0), (1, .ref l1), (2, .ref l2), (3, .int l3)] (.ref l0 :: r) w := ex_go_d (by decide +kernel : decode (kC 0) 207 = .ok (.aload_n 0, 1)) rfl rfl (ex_tr_n (by decide +kernel))
theorem s0_208 {X : Option (List Int32)} {l0 : Nat} {l1 : Nat} {l2 : Nat} {l3 : Int32} {r : List Value} {w : ex_W} : ex_go X 0 208 [(0, .ref l0), (1, .ref l1), (2, .ref l2), (3, .int l3)] r w = ex_go X 0 209 [(0, .ref l0), (1, .ref l1), (2, .ref l2), (3, .int l3)] (.int l3 :: r) w := ex_go_d (by decide +kernel : decode (kC 0) 208 = .ok (.iload_n 3, 1)) rfl rfl (ex_tr_n (by decide +kernel))
theorem s0_209 {X : Option (List Int32)} {l0 : Nat} {l1 : Nat} {l2 : Nat} {l3 : Int32} {r : List Value} {w : ex_W} : ex_go X 0 209 [(0, .ref l0), (1, .ref l1), (2, .ref l2), (3, .int l3)] r w = ex_go X 0 210 [(0, .ref l0), (1, .ref l1), (2, .ref l2), (3, .int l3)] (.int 1 :: r) w := go_iconst (by decide +kernel : decode (kC 0) 209 = .ok (.iconst 1, 1)) (by decide +kernel) (ex_tr_n (by decide +kernel))
theorem s0_210 {X : Option (List Int32)} {l0 : Nat} {l1 : Nat} {l2 : Nat} {l3 : Int32} {r : List Value} {t0 t1 : Int32} {w : ex_W} : ex_go X 0 210 [(0, .ref l0), (1, .ref l1), (2, .ref l2), (3, .int l3)] (.int t0 :: .int t1 :: r) w = ex_go X 0 211 [(0, .ref l0), (1, .ref l1), (2, .ref l2), (3, .int l3)] (.int (t1 + t0) :: r) w := ex_go_d (by decide +kernel : decode (kC 0) 210 = .ok (.iadd, 1)) rfl rfl (ex_tr_n (by decide +kernel))
theorem s0_211 {xs : List Int32} {l0 : Nat} {l1 : Nat} {l2 : Nat} {l3 : Int32} {r : List Value} {w : ex_W} {t0 : Int32} (hi : ¬ t0 < 0) : ex_go (some xs) 0 211 [(0, .ref l0), (1, .ref l1), (2, .ref l2), (3, .int l3)] (.int t0 :: .ref 1000 :: r) w = (xs[t0.toNatClampNeg]?).bind (fun v => ex_go (some xs) 0 212 [(0, .ref l0), (1, .ref l1), (2, .ref l2), (3, .int l3)] (.int v :: r) w) := go_sld (by decide +kernel : decode (kC 0) 211 = .ok (.iaload, 1)) (ex_tr_n (by decide +kernel)) hi
theorem s0_212 {X : Option (List Int32)} {l0 : Nat} {l1 : Nat} {l2 : Nat} {l3 : Int32} {t0 : Int32} {t1 : Nat} {t2 : Int32} {w : ex_W} (hr : ex_rc w t1 8 = true) : ex_go X 0 212 [(0, .ref l0), (1, .ref l1), (2, .ref l2), (3, .int l3)] [.int t0, .ref t1, .int t2] w = (ex_call X 161 [.ref t1, .int t0] w).bind (fun q => ex_go X 0 215 [(0, .ref l0), (1, .ref l1), (2, .ref l2), (3, .int l3)] (q.1.toList ++ [.int t2]) q.2) := go_virt (by decide +kernel : decode (kC 0) 212 = .ok (.invokevirtual 39, 3)) (by decide +kernel : kM (kO 0) 39 = some (161, 0)) (ex_pop_i (n := 2) (by decide +kernel) rfl) (ex_lv_i (n1 := 2) (n2 := 1) (by decide +kernel) rfl rfl) (ex_tr_n (by decide +kernel)) (ex_rc_i (by decide +kernel) hr)
theorem s0_215 {X : Option (List Int32)} {l0 : Nat} {l1 : Nat} {l2 : Nat} {l3 : Int32} {r : List Value} {t0 t1 : Int32} {w : ex_W} : ex_go X 0 215 [(0, .ref l0), (1, .ref l1), (2, .ref l2), (3, .int l3)] (.int t0 :: .int t1 :: r) w = if t1 = t0 then ex_go X 0 315 [(0, .ref l0), (1, .ref l1), (2, .ref l2), (3, .int l3)] r w else ex_go X 0 218 [(0, .ref l0), (1, .ref l1), (2, .ref l2), (3, .int l3)] r w := go_icmp_eq (t := 315) (by decide +kernel : decode (kC 0) 215 = .ok (.if_icmp .eq 100, 3)) (by decide) (ex_tr_k (ks := [0, 1, 2, 3]) (by decide +kernel) rfl) (ex_tr_n (by decide +kernel))
theorem s0_218 {X : Option (List Int32)} {l0 : Nat} {l1 : Nat} {l2 : Nat} {l3 : Int32} {r : List Value} {w : ex_W} : ex_go X 0 218 [(0, .ref l0), (1, .ref l1), (2, .ref l2), (3, .int l3)] r w = ex_go X 0 219 [(0, .ref l0), (1, .ref l1), (2, .ref l2), (3, .int l3)] (.int 0 :: r) w := go_iconst (by decide +kernel : decode (kC 0) 218 = .ok (.iconst 0, 1)) (by decide +kernel) (ex_tr_n (by decide +kernel))
theorem s0_219 {X : Option (List Int32)} {l0 : Nat} {l1 : Nat} {l2 : Nat} {l3 : Int32} {t0 : Int32} {w : ex_W} (hb : t0 = 0 ∨ t0 = 1) : ex_go X 0 219 [(0, .ref l0), (1, .ref l1), (2, .ref l2), (3, .int l3)] [.int t0] w = some (some (.int t0), w) := go_ireturn (by decide +kernel : decode (kC 0) 219 = .ok (.ireturn, 1)) (by decide +kernel : kR 0 = some .boolean) (ex_nz hb)
theorem s0_220 {X : Option (List Int32)} {l0 : Nat} {l1 : Nat} {l2 : Nat} {l3 : Int32} {r : List Value} {w : ex_W} : ex_go X 0 220 [(0, .ref l0), (1, .ref l1), (2, .ref l2), (3, .int l3)] r w = ex_go X 0 221 [(0, .ref l0), (1, .ref l1), (2, .ref l2), (3, .int l3)] (.ref l1 :: r) w := ex_go_d (by decide +kernel : decode (kC 0) 220 = .ok (.aload_n 1, 1)) rfl rfl (ex_tr_n (by decide +kernel))
theorem s0_221 {X : Option (List Int32)} {l0 : Nat} {l1 : Nat} {l2 : Nat} {l3 : Int32} {t0 : Nat} {w : ex_W} (hr : ex_rc w t0 0 = true) : ex_go X 0 221 [(0, .ref l0), (1, .ref l1), (2, .ref l2), (3, .int l3)] [.ref t0] w = (ex_call X 10 [.ref t0] w).bind (fun q => ex_go X 0 224 [(0, .ref l0), (1, .ref l1), (2, .ref l2), (3, .int l3)] (q.1.toList ++ []) q.2) := go_virt (by decide +kernel : decode (kC 0) 221 = .ok (.invokevirtual 40, 3)) (by decide +kernel : kM (kO 0) 40 = some (10, 0)) (ex_pop_i (n := 1) (by decide +kernel) rfl) (ex_lv_i (n1 := 1) (n2 := 0) (by decide +kernel) rfl rfl) (ex_tr_n (by decide +kernel)) (ex_rc_i (by decide +kernel) hr)
theorem s0_224 {X : Option (List Int32)} {l0 : Nat} {l1 : Nat} {l2 : Nat} {l3 : Int32} {r : List Value} {w : ex_W} : ex_go X 0 224 [(0, .ref l0), (1, .ref l1), (2, .ref l2), (3, .int l3)] r w = ex_go X 0 225 [(0, .ref l0), (1, .ref l1), (2, .ref l2), (3, .int l3)] (.ref l2 :: r) w := ex_go_d (by decide +kernel : decode (kC 0) 224 = .ok (.aload_n 2, 1)) rfl rfl (ex_tr_n (by decide +kernel))
theorem s0_225 {X : Option (List Int32)} {l0 : Nat} {l1 : Nat} {l2 : Nat} {l3 : Int32} {t0 : Nat} {t1 : Int32} {w : ex_W} (hr : ex_rc w t0 8 = true) : ex_go X 0 225 [(0, .ref l0), (1, .ref l1), (2, .ref l2), (3, .int l3)] [.ref t0, .int t1] w = (ex_call X 162 [.ref t0] w).bind (fun q => ex_go X 0 228 [(0, .ref l0), (1, .ref l1), (2, .ref l2), (3, .int l3)] (q.1.toList ++ [.int t1]) q.2) := go_virt (by decide +kernel : decode (kC 0) 225 = .ok (.invokevirtual 43, 3)) (by decide +kernel : kM (kO 0) 43 = some (162, 0)) (ex_pop_i (n := 1) (by decide +kernel) rfl) (ex_lv_i (n1 := 1) (n2 := 1) (by decide +kernel) rfl rfl) (ex_tr_n (by decide +kernel)) (ex_rc_i (by decide +kernel) hr)
theorem s0_228 {X : Option (List Int32)} {l0 : Nat} {l1 : Nat} {l2 : Nat} {l3 : Int32} {r : List Value} {t0 t1 : Int32} {w : ex_W} : ex_go X 0 228 [(0, .ref l0), (1, .ref l1), (2, .ref l2), (3, .int l3)] (.int t0 :: .int t1 :: r) w = if t1 = t0 then ex_go X 0 315 [(0, .ref l0), (1, .ref l1), (2, .ref l2), (3, .int l3)] r w else ex_go X 0 231 [(0, .ref l0), (1, .ref l1), (2, .ref l2), (3, .int l3)] r w := go_icmp_eq (t := 315) (by decide +kernel : decode (kC 0) 228 = .ok (.if_icmp .eq 87, 3)) (by decide) (ex_tr_k (ks := [0, 1, 2, 3]) (by decide +kernel) rfl) (ex_tr_n (by decide +kernel))
theorem s0_231 {X : Option (List Int32)} {l0 : Nat} {l1 : Nat} {l2 : Nat} {l3 : Int32} {r : List Value} {w : ex_W} : ex_go X 0 231 [(0, .ref l0), (1, .ref l1), (2, .ref l2), (3, .int l3)] r w = ex_go X 0 232 [(0, .ref l0), (1, .ref l1), (2, .ref l2), (3, .int l3)] (.int 0 :: r) w := go_iconst (by decide +kernel : decode (kC 0) 231 = .ok (.iconst 0, 1)) (by decide +kernel) (ex_tr_n (by decide +kernel))
theorem s0_232 {X : Option (List Int32)} {l0 : Nat} {l1 : Nat} {l2 : Nat} {l3 : Int32} {t0 : Int32} {w : ex_W} (hb : t0 = 0 ∨ t0 = 1) : ex_go X 0 232 [(0, .ref l0), (1, .ref l1), (2, .ref l2), (3, .int l3)] [.int t0] w = some (some (.int t0), w) := go_ireturn (by decide +kernel : decode (kC 0) 232 = .ok (.ireturn, 1)) (by decide +kernel : kR 0 = some .boolean) (ex_nz hb)
theorem s0_233 {X : Option (List Int32)} {l0 : Nat} {l1 : Nat} {l2 : Nat} {l3 : Int32} {r : List Value} {w : ex_W} : ex_go X 0 233 [(0, .ref l0), (1, .ref l1), (2, .ref l2), (3, .int l3)] r w = ex_go X 0 234 [(0, .ref l0), (1, .ref l1), (2, .ref l2), (3, .int l3)] (.ref l1 :: r) w := ex_go_d (by decide +kernel : decode (kC 0) 233 = .ok (.aload_n 1, 1)) rfl rfl (ex_tr_n (by decide +kernel))
theorem s0_234 {X : Option (List Int32)} {l0 : Nat} {l1 : Nat} {l2 : Nat} {l3 : Int32} {r : List Value} {w : ex_W} : ex_go X 0 234 [(0, .ref l0), (1, .ref l1), (2, .ref l2), (3, .int l3)] r w = ex_go X 0 235 [(0, .ref l0), (1, .ref l1), (2, .ref l2), (3, .int l3)] (.ref l0 :: r) w := ex_go_d (by decide +kernel : decode (kC 0) 234 = .ok (.aload_n 0, 1)) rfl rfl (ex_tr_n (by decide +kernel))
theorem s0_235 {X : Option (List Int32)} {l0 : Nat} {l1 : Nat} {l2 : Nat} {l3 : Int32} {r : List Value} {w : ex_W} : ex_go X 0 235 [(0, .ref l0), (1, .ref l1), (2, .ref l2), (3, .int l3)] r w = ex_go X 0 236 [(0, .ref l0), (1, .ref l1), (2, .ref l2), (3, .int l3)] (.int l3 :: r) w := ex_go_d (by decide +kernel : decode (kC 0) 235 = .ok (.iload_n 3, 1)) rfl rfl (ex_tr_n (by decide +kernel))
theorem s0_236 {X : Option (List Int32)} {l0 : Nat} {l1 : Nat} {l2 : Nat} {l3 : Int32} {r : List Value} {w : ex_W} : ex_go X 0 236 [(0, .ref l0), (1, .ref l1), (2, .ref l2), (3, .int l3)] r w = ex_go X 0 237 [(0, .ref l0), (1, .ref l1), (2, .ref l2), (3, .int l3)] (.int 1 :: r) w := go_iconst (by decide +kernel : decode (kC 0) 236 = .ok (.iconst 1, 1)) (by decide +kernel) (ex_tr_n (by decide +kernel))
theorem s0_237 {X : Option (List Int32)} {l0 : Nat} {l1 : Nat} {l2 : Nat} {l3 : Int32} {r : List Value} {t0 t1 : Int32} {w : ex_W} : ex_go X 0 237 [(0, .ref l0), (1, .ref l1), (2, .ref l2), (3, .int l3)] (.int t0 :: .int t1 :: r) w = ex_go X 0 238 [(0, .ref l0), (1, .ref l1), (2, .ref l2), (3, .int l3)] (.int (t1 + t0) :: r) w := ex_go_d (by decide +kernel : decode (kC 0) 237 = .ok (.iadd, 1)) rfl rfl (ex_tr_n (by decide +kernel))
theorem s0_238 {xs : List Int32} {l0 : Nat} {l1 : Nat} {l2 : Nat} {l3 : Int32} {r : List Value} {w : ex_W} {t0 : Int32} (hi : ¬ t0 < 0) : ex_go (some xs) 0 238 [(0, .ref l0), (1, .ref l1), (2, .ref l2), (3, .int l3)] (.int t0 :: .ref 1000 :: r) w = (xs[t0.toNatClampNeg]?).bind (fun v => ex_go (some xs) 0 239 [(0, .ref l0), (1, .ref l1), (2, .ref l2), (3, .int l3)] (.int v :: r) w) := go_sld (by decide +kernel : decode (kC 0) 238 = .ok (.iaload, 1)) (ex_tr_n (by decide +kernel)) hi
theorem s0_239 {X : Option (List Int32)} {l0 : Nat} {l1 : Nat} {l2 : Nat} {l3 : Int32} {t0 : Int32} {t1 : Nat} {w : ex_W} (hr : ex_rc w t1 0 = true) : ex_go X 0 239 [(0, .ref l0), (1, .ref l1), (2, .ref l2), (3, .int l3)] [.int t0, .ref t1] w = (ex_call X 11 [.ref t1, .int t0] w).bind (fun q => ex_go X 0 242 [(0, .ref l0), (1, .ref l1), (2, .ref l2), (3, .int l3)] (q.1.toList ++ []) q.2) := go_virt (by decide +kernel : decode (kC 0) 239 = .ok (.invokevirtual 44, 3)) (by decide +kernel : kM (kO 0) 44 = some (11, 0)) (ex_pop_i (n := 2) (by decide +kernel) rfl) (ex_lv_i (n1 := 2) (n2 := 0) (by decide +kernel) rfl rfl) (ex_tr_n (by decide +kernel)) (ex_rc_i (by decide +kernel) hr)
theorem s0_242 {X : Option (List Int32)} {l0 : Nat} {l1 : Nat} {l2 : Nat} {l3 : Int32} {r : List Value} {w : ex_W} : ex_go X 0 242 [(0, .ref l0), (1, .ref l1), (2, .ref l2), (3, .int l3)] r w = ex_go X 0 243 [(0, .ref l0), (1, .ref l1), (2, .ref l2), (3, .int l3)] (.ref l2 :: r) w := ex_go_d (by decide +kernel : decode (kC 0) 242 = .ok (.aload_n 2, 1)) rfl rfl (ex_tr_n (by decide +kernel))
theorem s0_243 {X : Option (List Int32)} {l0 : Nat} {l1 : Nat} {l2 : Nat} {l3 : Int32} {r : List Value} {w : ex_W} : ex_go X 0 243 [(0, .ref l0), (1, .ref l1), (2, .ref l2), (3, .int l3)] r w = ex_go X 0 244 [(0, .ref l0), (1, .ref l1), (2, .ref l2), (3, .int l3)] (.ref l0 :: r) w := ex_go_d (by decide +kernel : decode (kC 0) 243 = .ok (.aload_n 0, 1)) rfl rfl (ex_tr_n (by decide +kernel))
theorem s0_244 {X : Option (List Int32)} {l0 : Nat} {l1 : Nat} {l2 : Nat} {l3 : Int32} {r : List Value} {w : ex_W} : ex_go X 0 244 [(0, .ref l0), (1, .ref l1), (2, .ref l2), (3, .int l3)] r w = ex_go X 0 245 [(0, .ref l0), (1, .ref l1), (2, .ref l2), (3, .int l3)] (.int l3 :: r) w := ex_go_d (by decide +kernel : decode (kC 0) 244 = .ok (.iload_n 3, 1)) rfl rfl (ex_tr_n (by decide +kernel))
theorem s0_245 {X : Option (List Int32)} {l0 : Nat} {l1 : Nat} {l2 : Nat} {l3 : Int32} {r : List Value} {w : ex_W} : ex_go X 0 245 [(0, .ref l0), (1, .ref l1), (2, .ref l2), (3, .int l3)] r w = ex_go X 0 246 [(0, .ref l0), (1, .ref l1), (2, .ref l2), (3, .int l3)] (.int 1 :: r) w := go_iconst (by decide +kernel : decode (kC 0) 245 = .ok (.iconst 1, 1)) (by decide +kernel) (ex_tr_n (by decide +kernel))
theorem s0_246 {X : Option (List Int32)} {l0 : Nat} {l1 : Nat} {l2 : Nat} {l3 : Int32} {r : List Value} {t0 t1 : Int32} {w : ex_W} : ex_go X 0 246 [(0, .ref l0), (1, .ref l1), (2, .ref l2), (3, .int l3)] (.int t0 :: .int t1 :: r) w = ex_go X 0 247 [(0, .ref l0), (1, .ref l1), (2, .ref l2), (3, .int l3)] (.int (t1 + t0) :: r) w := ex_go_d (by decide +kernel : decode (kC 0) 246 = .ok (.iadd, 1)) rfl rfl (ex_tr_n (by decide +kernel))
theorem s0_247 {xs : List Int32} {l0 : Nat} {l1 : Nat} {l2 : Nat} {l3 : Int32} {r : List Value} {w : ex_W} {t0 : Int32} (hi : ¬ t0 < 0) : ex_go (some xs) 0 247 [(0, .ref l0), (1, .ref l1), (2, .ref l2), (3, .int l3)] (.int t0 :: .ref 1000 :: r) w = (xs[t0.toNatClampNeg]?).bind (fun v => ex_go (some xs) 0 248 [(0, .ref l0), (1, .ref l1), (2, .ref l2), (3, .int l3)] (.int v :: r) w) := go_sld (by decide +kernel : decode (kC 0) 247 = .ok (.iaload, 1)) (ex_tr_n (by decide +kernel)) hi
theorem s0_248 {X : Option (List Int32)} {l0 : Nat} {l1 : Nat} {l2 : Nat} {l3 : Int32} {t0 : Int32} {t1 : Nat} {t2 : Int32} {w : ex_W} (hr : ex_rc w t1 8 = true) : ex_go X 0 248 [(0, .ref l0), (1, .ref l1), (2, .ref l2), (3, .int l3)] [.int t0, .ref t1, .int t2] w = (ex_call X 163 [.ref t1, .int t0] w).bind (fun q => ex_go X 0 251 [(0, .ref l0), (1, .ref l1), (2, .ref l2), (3, .int l3)] (q.1.toList ++ [.int t2]) q.2) := go_virt (by decide +kernel : decode (kC 0) 248 = .ok (.invokevirtual 47, 3)) (by decide +kernel : kM (kO 0) 47 = some (163, 0)) (ex_pop_i (n := 2) (by decide +kernel) rfl) (ex_lv_i (n1 := 2) (n2 := 1) (by decide +kernel) rfl rfl) (ex_tr_n (by decide +kernel)) (ex_rc_i (by decide +kernel) hr)
theorem s0_251 {X : Option (List Int32)} {l0 : Nat} {l1 : Nat} {l2 : Nat} {l3 : Int32} {r : List Value} {t0 t1 : Int32} {w : ex_W} : ex_go X 0 251 [(0, .ref l0), (1, .ref l1), (2, .ref l2), (3, .int l3)] (.int t0 :: .int t1 :: r) w = if t1 = t0 then ex_go X 0 315 [(0, .ref l0), (1, .ref l1), (2, .ref l2), (3, .int l3)] r w else ex_go X 0 254 [(0, .ref l0), (1, .ref l1), (2, .ref l2), (3, .int l3)] r w := go_icmp_eq (t := 315) (by decide +kernel : decode (kC 0) 251 = .ok (.if_icmp .eq 64, 3)) (by decide) (ex_tr_k (ks := [0, 1, 2, 3]) (by decide +kernel) rfl) (ex_tr_n (by decide +kernel))
theorem s0_254 {X : Option (List Int32)} {l0 : Nat} {l1 : Nat} {l2 : Nat} {l3 : Int32} {r : List Value} {w : ex_W} : ex_go X 0 254 [(0, .ref l0), (1, .ref l1), (2, .ref l2), (3, .int l3)] r w = ex_go X 0 255 [(0, .ref l0), (1, .ref l1), (2, .ref l2), (3, .int l3)] (.int 0 :: r) w := go_iconst (by decide +kernel : decode (kC 0) 254 = .ok (.iconst 0, 1)) (by decide +kernel) (ex_tr_n (by decide +kernel))
theorem s0_255 {X : Option (List Int32)} {l0 : Nat} {l1 : Nat} {l2 : Nat} {l3 : Int32} {t0 : Int32} {w : ex_W} (hb : t0 = 0 ∨ t0 = 1) : ex_go X 0 255 [(0, .ref l0), (1, .ref l1), (2, .ref l2), (3, .int l3)] [.int t0] w = some (some (.int t0), w) := go_ireturn (by decide +kernel : decode (kC 0) 255 = .ok (.ireturn, 1)) (by decide +kernel : kR 0 = some .boolean) (ex_nz hb)
theorem s0_256 {X : Option (List Int32)} {l0 : Nat} {l1 : Nat} {l2 : Nat} {l3 : Int32} {r : List Value} {w : ex_W} : ex_go X 0 256 [(0, .ref l0), (1, .ref l1), (2, .ref l2), (3, .int l3)] r w = ex_go X 0 257 [(0, .ref l0), (1, .ref l1), (2, .ref l2), (3, .int l3)] (.ref l1 :: r) w := ex_go_d (by decide +kernel : decode (kC 0) 256 = .ok (.aload_n 1, 1)) rfl rfl (ex_tr_n (by decide +kernel))
theorem s0_257 {X : Option (List Int32)} {l0 : Nat} {l1 : Nat} {l2 : Nat} {l3 : Int32} {r : List Value} {w : ex_W} : ex_go X 0 257 [(0, .ref l0), (1, .ref l1), (2, .ref l2), (3, .int l3)] r w = ex_go X 0 258 [(0, .ref l0), (1, .ref l1), (2, .ref l2), (3, .int l3)] (.ref l0 :: r) w := ex_go_d (by decide +kernel : decode (kC 0) 257 = .ok (.aload_n 0, 1)) rfl rfl (ex_tr_n (by decide +kernel))
theorem s0_258 {X : Option (List Int32)} {l0 : Nat} {l1 : Nat} {l2 : Nat} {l3 : Int32} {r : List Value} {w : ex_W} : ex_go X 0 258 [(0, .ref l0), (1, .ref l1), (2, .ref l2), (3, .int l3)] r w = ex_go X 0 259 [(0, .ref l0), (1, .ref l1), (2, .ref l2), (3, .int l3)] (.int l3 :: r) w := ex_go_d (by decide +kernel : decode (kC 0) 258 = .ok (.iload_n 3, 1)) rfl rfl (ex_tr_n (by decide +kernel))
theorem s0_259 {X : Option (List Int32)} {l0 : Nat} {l1 : Nat} {l2 : Nat} {l3 : Int32} {r : List Value} {w : ex_W} : ex_go X 0 259 [(0, .ref l0), (1, .ref l1), (2, .ref l2), (3, .int l3)] r w = ex_go X 0 260 [(0, .ref l0), (1, .ref l1), (2, .ref l2), (3, .int l3)] (.int 1 :: r) w := go_iconst (by decide +kernel : decode (kC 0) 259 = .ok (.iconst 1, 1)) (by decide +kernel) (ex_tr_n (by decide +kernel))
theorem s0_260 {X : Option (List Int32)} {l0 : Nat} {l1 : Nat} {l2 : Nat} {l3 : Int32} {r : List Value} {t0 t1 : Int32} {w : ex_W} : ex_go X 0 260 [(0, .ref l0), (1, .ref l1), (2, .ref l2), (3, .int l3)] (.int t0 :: .int t1 :: r) w = ex_go X 0 261 [(0, .ref l0), (1, .ref l1), (2, .ref l2), (3, .int l3)] (.int (t1 + t0) :: r) w := ex_go_d (by decide +kernel : decode (kC 0) 260 = .ok (.iadd, 1)) rfl rfl (ex_tr_n (by decide +kernel))
theorem s0_261 {xs : List Int32} {l0 : Nat} {l1 : Nat} {l2 : Nat} {l3 : Int32} {r : List Value} {w : ex_W} {t0 : Int32} (hi : ¬ t0 < 0) : ex_go (some xs) 0 261 [(0, .ref l0), (1, .ref l1), (2, .ref l2), (3, .int l3)] (.int t0 :: .ref 1000 :: r) w = (xs[t0.toNatClampNeg]?).bind (fun v => ex_go (some xs) 0 262 [(0, .ref l0), (1, .ref l1), (2, .ref l2), (3, .int l3)] (.int v :: r) w) := go_sld (by decide +kernel : decode (kC 0) 261 = .ok (.iaload, 1)) (ex_tr_n (by decide +kernel)) hi
theorem s0_262 {X : Option (List Int32)} {l0 : Nat} {l1 : Nat} {l2 : Nat} {l3 : Int32} {t0 : Int32} {t1 : Nat} {w : ex_W} (hr : ex_rc w t1 0 = true) : ex_go X 0 262 [(0, .ref l0), (1, .ref l1), (2, .ref l2), (3, .int l3)] [.int t0, .ref t1] w = (ex_call X 12 [.ref t1, .int t0] w).bind (fun q => ex_go X 0 265 [(0, .ref l0), (1, .ref l1), (2, .ref l2), (3, .int l3)] (q.1.toList ++ []) q.2) := go_virt (by decide +kernel : decode (kC 0) 262 = .ok (.invokevirtual 48, 3)) (by decide +kernel : kM (kO 0) 48 = some (12, 0)) (ex_pop_i (n := 2) (by decide +kernel) rfl) (ex_lv_i (n1 := 2) (n2 := 0) (by decide +kernel) rfl rfl) (ex_tr_n (by decide +kernel)) (ex_rc_i (by decide +kernel) hr)
theorem s0_265 {X : Option (List Int32)} {l0 : Nat} {l1 : Nat} {l2 : Nat} {l3 : Int32} {r : List Value} {w : ex_W} : ex_go X 0 265 [(0, .ref l0), (1, .ref l1), (2, .ref l2), (3, .int l3)] r w = ex_go X 0 266 [(0, .ref l0), (1, .ref l1), (2, .ref l2), (3, .int l3)] (.ref l2 :: r) w := ex_go_d (by decide +kernel : decode (kC 0) 265 = .ok (.aload_n 2, 1)) rfl rfl (ex_tr_n (by decide +kernel))
theorem s0_266 {X : Option (List Int32)} {l0 : Nat} {l1 : Nat} {l2 : Nat} {l3 : Int32} {r : List Value} {w : ex_W} : ex_go X 0 266 [(0, .ref l0), (1, .ref l1), (2, .ref l2), (3, .int l3)] r w = ex_go X 0 267 [(0, .ref l0), (1, .ref l1), (2, .ref l2), (3, .int l3)] (.ref l0 :: r) w := ex_go_d (by decide +kernel : decode (kC 0) 266 = .ok (.aload_n 0, 1)) rfl rfl (ex_tr_n (by decide +kernel))
theorem s0_267 {X : Option (List Int32)} {l0 : Nat} {l1 : Nat} {l2 : Nat} {l3 : Int32} {r : List Value} {w : ex_W} : ex_go X 0 267 [(0, .ref l0), (1, .ref l1), (2, .ref l2), (3, .int l3)] r w = ex_go X 0 268 [(0, .ref l0), (1, .ref l1), (2, .ref l2), (3, .int l3)] (.int l3 :: r) w := ex_go_d (by decide +kernel : decode (kC 0) 267 = .ok (.iload_n 3, 1)) rfl rfl (ex_tr_n (by decide +kernel))
theorem s0_268 {X : Option (List Int32)} {l0 : Nat} {l1 : Nat} {l2 : Nat} {l3 : Int32} {r : List Value} {w : ex_W} : ex_go X 0 268 [(0, .ref l0), (1, .ref l1), (2, .ref l2), (3, .int l3)] r w = ex_go X 0 269 [(0, .ref l0), (1, .ref l1), (2, .ref l2), (3, .int l3)] (.int 1 :: r) w := go_iconst (by decide +kernel : decode (kC 0) 268 = .ok (.iconst 1, 1)) (by decide +kernel) (ex_tr_n (by decide +kernel))
theorem s0_269 {X : Option (List Int32)} {l0 : Nat} {l1 : Nat} {l2 : Nat} {l3 : Int32} {r : List Value} {t0 t1 : Int32} {w : ex_W} : ex_go X 0 269 [(0, .ref l0), (1, .ref l1), (2, .ref l2), (3, .int l3)] (.int t0 :: .int t1 :: r) w = ex_go X 0 270 [(0, .ref l0), (1, .ref l1), (2, .ref l2), (3, .int l3)] (.int (t1 + t0) :: r) w := ex_go_d (by decide +kernel : decode (kC 0) 269 = .ok (.iadd, 1)) rfl rfl (ex_tr_n (by decide +kernel))
theorem s0_270 {xs : List Int32} {l0 : Nat} {l1 : Nat} {l2 : Nat} {l3 : Int32} {r : List Value} {w : ex_W} {t0 : Int32} (hi : ¬ t0 < 0) : ex_go (some xs) 0 270 [(0, .ref l0), (1, .ref l1), (2, .ref l2), (3, .int l3)] (.int t0 :: .ref 1000 :: r) w = (xs[t0.toNatClampNeg]?).bind (fun v => ex_go (some xs) 0 271 [(0, .ref l0), (1, .ref l1), (2, .ref l2), (3, .int l3)] (.int v :: r) w) := go_sld (by decide +kernel : decode (kC 0) 270 = .ok (.iaload, 1)) (ex_tr_n (by decide +kernel)) hi
theorem s0_271 {X : Option (List Int32)} {l0 : Nat} {l1 : Nat} {l2 : Nat} {l3 : Int32} {t0 : Int32} {t1 : Nat} {t2 : Int32} {w : ex_W} (hr : ex_rc w t1 8 = true) : ex_go X 0 271 [(0, .ref l0), (1, .ref l1), (2, .ref l2), (3, .int l3)] [.int t0, .ref t1, .int t2] w = (ex_call X 164 [.ref t1, .int t0] w).bind (fun q => ex_go X 0 274 [(0, .ref l0), (1, .ref l1), (2, .ref l2), (3, .int l3)] (q.1.toList ++ [.int t2]) q.2) := go_virt (by decide +kernel : decode (kC 0) 271 = .ok (.invokevirtual 51, 3)) (by decide +kernel : kM (kO 0) 51 = some (164, 0)) (ex_pop_i (n := 2) (by decide +kernel) rfl) (ex_lv_i (n1 := 2) (n2 := 1) (by decide +kernel) rfl rfl) (ex_tr_n (by decide +kernel)) (ex_rc_i (by decide +kernel) hr)
theorem s0_274 {X : Option (List Int32)} {l0 : Nat} {l1 : Nat} {l2 : Nat} {l3 : Int32} {r : List Value} {t0 t1 : Int32} {w : ex_W} : ex_go X 0 274 [(0, .ref l0), (1, .ref l1), (2, .ref l2), (3, .int l3)] (.int t0 :: .int t1 :: r) w = if t1 = t0 then ex_go X 0 315 [(0, .ref l0), (1, .ref l1), (2, .ref l2), (3, .int l3)] r w else ex_go X 0 277 [(0, .ref l0), (1, .ref l1), (2, .ref l2), (3, .int l3)] r w := go_icmp_eq (t := 315) (by decide +kernel : decode (kC 0) 274 = .ok (.if_icmp .eq 41, 3)) (by decide) (ex_tr_k (ks := [0, 1, 2, 3]) (by decide +kernel) rfl) (ex_tr_n (by decide +kernel))
theorem s0_277 {X : Option (List Int32)} {l0 : Nat} {l1 : Nat} {l2 : Nat} {l3 : Int32} {r : List Value} {w : ex_W} : ex_go X 0 277 [(0, .ref l0), (1, .ref l1), (2, .ref l2), (3, .int l3)] r w = ex_go X 0 278 [(0, .ref l0), (1, .ref l1), (2, .ref l2), (3, .int l3)] (.int 0 :: r) w := go_iconst (by decide +kernel : decode (kC 0) 277 = .ok (.iconst 0, 1)) (by decide +kernel) (ex_tr_n (by decide +kernel))
theorem s0_278 {X : Option (List Int32)} {l0 : Nat} {l1 : Nat} {l2 : Nat} {l3 : Int32} {t0 : Int32} {w : ex_W} (hb : t0 = 0 ∨ t0 = 1) : ex_go X 0 278 [(0, .ref l0), (1, .ref l1), (2, .ref l2), (3, .int l3)] [.int t0] w = some (some (.int t0), w) := go_ireturn (by decide +kernel : decode (kC 0) 278 = .ok (.ireturn, 1)) (by decide +kernel : kR 0 = some .boolean) (ex_nz hb)
theorem s0_279 {X : Option (List Int32)} {l0 : Nat} {l1 : Nat} {l2 : Nat} {l3 : Int32} {r : List Value} {w : ex_W} : ex_go X 0 279 [(0, .ref l0), (1, .ref l1), (2, .ref l2), (3, .int l3)] r w = ex_go X 0 280 [(0, .ref l0), (1, .ref l1), (2, .ref l2), (3, .int l3)] (.ref l1 :: r) w := ex_go_d (by decide +kernel : decode (kC 0) 279 = .ok (.aload_n 1, 1)) rfl rfl (ex_tr_n (by decide +kernel))
theorem s0_280 {X : Option (List Int32)} {l0 : Nat} {l1 : Nat} {l2 : Nat} {l3 : Int32} {r : List Value} {w : ex_W} : ex_go X 0 280 [(0, .ref l0), (1, .ref l1), (2, .ref l2), (3, .int l3)] r w = ex_go X 0 281 [(0, .ref l0), (1, .ref l1), (2, .ref l2), (3, .int l3)] (.ref l0 :: r) w := ex_go_d (by decide +kernel : decode (kC 0) 280 = .ok (.aload_n 0, 1)) rfl rfl (ex_tr_n (by decide +kernel))
theorem s0_281 {X : Option (List Int32)} {l0 : Nat} {l1 : Nat} {l2 : Nat} {l3 : Int32} {r : List Value} {w : ex_W} : ex_go X 0 281 [(0, .ref l0), (1, .ref l1), (2, .ref l2), (3, .int l3)] r w = ex_go X 0 282 [(0, .ref l0), (1, .ref l1), (2, .ref l2), (3, .int l3)] (.int l3 :: r) w := ex_go_d (by decide +kernel : decode (kC 0) 281 = .ok (.iload_n 3, 1)) rfl rfl (ex_tr_n (by decide +kernel))
theorem s0_282 {X : Option (List Int32)} {l0 : Nat} {l1 : Nat} {l2 : Nat} {l3 : Int32} {r : List Value} {w : ex_W} : ex_go X 0 282 [(0, .ref l0), (1, .ref l1), (2, .ref l2), (3, .int l3)] r w = ex_go X 0 283 [(0, .ref l0), (1, .ref l1), (2, .ref l2), (3, .int l3)] (.int 1 :: r) w := go_iconst (by decide +kernel : decode (kC 0) 282 = .ok (.iconst 1, 1)) (by decide +kernel) (ex_tr_n (by decide +kernel))
theorem s0_283 {X : Option (List Int32)} {l0 : Nat} {l1 : Nat} {l2 : Nat} {l3 : Int32} {r : List Value} {t0 t1 : Int32} {w : ex_W} : ex_go X 0 283 [(0, .ref l0), (1, .ref l1), (2, .ref l2), (3, .int l3)] (.int t0 :: .int t1 :: r) w = ex_go X 0 284 [(0, .ref l0), (1, .ref l1), (2, .ref l2), (3, .int l3)] (.int (t1 + t0) :: r) w := ex_go_d (by decide +kernel : decode (kC 0) 283 = .ok (.iadd, 1)) rfl rfl (ex_tr_n (by decide +kernel))
theorem s0_284 {xs : List Int32} {l0 : Nat} {l1 : Nat} {l2 : Nat} {l3 : Int32} {r : List Value} {w : ex_W} {t0 : Int32} (hi : ¬ t0 < 0) : ex_go (some xs) 0 284 [(0, .ref l0), (1, .ref l1), (2, .ref l2), (3, .int l3)] (.int t0 :: .ref 1000 :: r) w = (xs[t0.toNatClampNeg]?).bind (fun v => ex_go (some xs) 0 285 [(0, .ref l0), (1, .ref l1), (2, .ref l2), (3, .int l3)] (.int v :: r) w) := go_sld (by decide +kernel : decode (kC 0) 284 = .ok (.iaload, 1)) (ex_tr_n (by decide +kernel)) hi
theorem s0_285 {X : Option (List Int32)} {l0 : Nat} {l1 : Nat} {l2 : Nat} {l3 : Int32} {t0 : Int32} {t1 : Nat} {w : ex_W} (hr : ex_rc w t1 0 = true) : ex_go X 0 285 [(0, .ref l0), (1, .ref l1), (2, .ref l2), (3, .int l3)] [.int t0, .ref t1] w = (ex_call X 13 [.ref t1, .int t0] w).bind (fun q => ex_go X 0 288 [(0, .ref l0), (1, .ref l1), (2, .ref l2), (3, .int l3)] (q.1.toList ++ []) q.2) := go_virt (by decide +kernel : decode (kC 0) 285 = .ok (.invokevirtual 52, 3)) (by decide +kernel : kM (kO 0) 52 = some (13, 0)) (ex_pop_i (n := 2) (by decide +kernel) rfl) (ex_lv_i (n1 := 2) (n2 := 0) (by decide +kernel) rfl rfl) (ex_tr_n (by decide +kernel)) (ex_rc_i (by decide +kernel) hr)
theorem s0_288 {X : Option (List Int32)} {l0 : Nat} {l1 : Nat} {l2 : Nat} {l3 : Int32} {r : List Value} {w : ex_W} : ex_go X 0 288 [(0, .ref l0), (1, .ref l1), (2, .ref l2), (3, .int l3)] r w = ex_go X 0 289 [(0, .ref l0), (1, .ref l1), (2, .ref l2), (3, .int l3)] (.ref l2 :: r) w := ex_go_d (by decide +kernel : decode (kC 0) 288 = .ok (.aload_n 2, 1)) rfl rfl (ex_tr_n (by decide +kernel))
theorem s0_289 {X : Option (List Int32)} {l0 : Nat} {l1 : Nat} {l2 : Nat} {l3 : Int32} {r : List Value} {w : ex_W} : ex_go X 0 289 [(0, .ref l0), (1, .ref l1), (2, .ref l2), (3, .int l3)] r w = ex_go X 0 290 [(0, .ref l0), (1, .ref l1), (2, .ref l2), (3, .int l3)] (.ref l0 :: r) w := ex_go_d (by decide +kernel : decode (kC 0) 289 = .ok (.aload_n 0, 1)) rfl rfl (ex_tr_n (by decide +kernel))
theorem s0_290 {X : Option (List Int32)} {l0 : Nat} {l1 : Nat} {l2 : Nat} {l3 : Int32} {r : List Value} {w : ex_W} : ex_go X 0 290 [(0, .ref l0), (1, .ref l1), (2, .ref l2), (3, .int l3)] r w = ex_go X 0 291 [(0, .ref l0), (1, .ref l1), (2, .ref l2), (3, .int l3)] (.int l3 :: r) w := ex_go_d (by decide +kernel : decode (kC 0) 290 = .ok (.iload_n 3, 1)) rfl rfl (ex_tr_n (by decide +kernel))
theorem s0_291 {X : Option (List Int32)} {l0 : Nat} {l1 : Nat} {l2 : Nat} {l3 : Int32} {r : List Value} {w : ex_W} : ex_go X 0 291 [(0, .ref l0), (1, .ref l1), (2, .ref l2), (3, .int l3)] r w = ex_go X 0 292 [(0, .ref l0), (1, .ref l1), (2, .ref l2), (3, .int l3)] (.int 1 :: r) w := go_iconst (by decide +kernel : decode (kC 0) 291 = .ok (.iconst 1, 1)) (by decide +kernel) (ex_tr_n (by decide +kernel))
theorem s0_292 {X : Option (List Int32)} {l0 : Nat} {l1 : Nat} {l2 : Nat} {l3 : Int32} {r : List Value} {t0 t1 : Int32} {w : ex_W} : ex_go X 0 292 [(0, .ref l0), (1, .ref l1), (2, .ref l2), (3, .int l3)] (.int t0 :: .int t1 :: r) w = ex_go X 0 293 [(0, .ref l0), (1, .ref l1), (2, .ref l2), (3, .int l3)] (.int (t1 + t0) :: r) w := ex_go_d (by decide +kernel : decode (kC 0) 292 = .ok (.iadd, 1)) rfl rfl (ex_tr_n (by decide +kernel))
theorem s0_293 {xs : List Int32} {l0 : Nat} {l1 : Nat} {l2 : Nat} {l3 : Int32} {r : List Value} {w : ex_W} {t0 : Int32} (hi : ¬ t0 < 0) : ex_go (some xs) 0 293 [(0, .ref l0), (1, .ref l1), (2, .ref l2), (3, .int l3)] (.int t0 :: .ref 1000 :: r) w = (xs[t0.toNatClampNeg]?).bind (fun v => ex_go (some xs) 0 294 [(0, .ref l0), (1, .ref l1), (2, .ref l2), (3, .int l3)] (.int v :: r) w) := go_sld (by decide +kernel : decode (kC 0) 293 = .ok (.iaload, 1)) (ex_tr_n (by decide +kernel)) hi
theorem s0_294 {X : Option (List Int32)} {l0 : Nat} {l1 : Nat} {l2 : Nat} {l3 : Int32} {t0 : Int32} {t1 : Nat} {t2 : Int32} {w : ex_W} (hr : ex_rc w t1 8 = true) : ex_go X 0 294 [(0, .ref l0), (1, .ref l1), (2, .ref l2), (3, .int l3)] [.int t0, .ref t1, .int t2] w = (ex_call X 167 [.ref t1, .int t0] w).bind (fun q => ex_go X 0 297 [(0, .ref l0), (1, .ref l1), (2, .ref l2), (3, .int l3)] (q.1.toList ++ [.int t2]) q.2) := go_virt (by decide +kernel : decode (kC 0) 294 = .ok (.invokevirtual 55, 3)) (by decide +kernel : kM (kO 0) 55 = some (167, 0)) (ex_pop_i (n := 2) (by decide +kernel) rfl) (ex_lv_i (n1 := 2) (n2 := 1) (by decide +kernel) rfl rfl) (ex_tr_n (by decide +kernel)) (ex_rc_i (by decide +kernel) hr)
theorem s0_297 {X : Option (List Int32)} {l0 : Nat} {l1 : Nat} {l2 : Nat} {l3 : Int32} {r : List Value} {t0 t1 : Int32} {w : ex_W} : ex_go X 0 297 [(0, .ref l0), (1, .ref l1), (2, .ref l2), (3, .int l3)] (.int t0 :: .int t1 :: r) w = if t1 = t0 then ex_go X 0 315 [(0, .ref l0), (1, .ref l1), (2, .ref l2), (3, .int l3)] r w else ex_go X 0 300 [(0, .ref l0), (1, .ref l1), (2, .ref l2), (3, .int l3)] r w := go_icmp_eq (t := 315) (by decide +kernel : decode (kC 0) 297 = .ok (.if_icmp .eq 18, 3)) (by decide) (ex_tr_k (ks := [0, 1, 2, 3]) (by decide +kernel) rfl) (ex_tr_n (by decide +kernel))
theorem s0_300 {X : Option (List Int32)} {l0 : Nat} {l1 : Nat} {l2 : Nat} {l3 : Int32} {r : List Value} {w : ex_W} : ex_go X 0 300 [(0, .ref l0), (1, .ref l1), (2, .ref l2), (3, .int l3)] r w = ex_go X 0 301 [(0, .ref l0), (1, .ref l1), (2, .ref l2), (3, .int l3)] (.int 0 :: r) w := go_iconst (by decide +kernel : decode (kC 0) 300 = .ok (.iconst 0, 1)) (by decide +kernel) (ex_tr_n (by decide +kernel))
theorem s0_301 {X : Option (List Int32)} {l0 : Nat} {l1 : Nat} {l2 : Nat} {l3 : Int32} {t0 : Int32} {w : ex_W} (hb : t0 = 0 ∨ t0 = 1) : ex_go X 0 301 [(0, .ref l0), (1, .ref l1), (2, .ref l2), (3, .int l3)] [.int t0] w = some (some (.int t0), w) := go_ireturn (by decide +kernel : decode (kC 0) 301 = .ok (.ireturn, 1)) (by decide +kernel : kR 0 = some .boolean) (ex_nz hb)
theorem s0_302 {X : Option (List Int32)} {l0 : Nat} {l1 : Nat} {l2 : Nat} {l3 : Int32} {r : List Value} {w : ex_W} : ex_go X 0 302 [(0, .ref l0), (1, .ref l1), (2, .ref l2), (3, .int l3)] r w = ex_go X 0 303 [(0, .ref l0), (1, .ref l1), (2, .ref l2), (3, .int l3)] (.ref l1 :: r) w := ex_go_d (by decide +kernel : decode (kC 0) 302 = .ok (.aload_n 1, 1)) rfl rfl (ex_tr_n (by decide +kernel))
theorem s0_303 {X : Option (List Int32)} {l0 : Nat} {l1 : Nat} {l2 : Nat} {l3 : Int32} {t0 : Nat} {w : ex_W} (hr : ex_rc w t0 0 = true) : ex_go X 0 303 [(0, .ref l0), (1, .ref l1), (2, .ref l2), (3, .int l3)] [.ref t0] w = (ex_call X 14 [.ref t0] w).bind (fun q => ex_go X 0 306 [(0, .ref l0), (1, .ref l1), (2, .ref l2), (3, .int l3)] (q.1.toList ++ []) q.2) := go_virt (by decide +kernel : decode (kC 0) 303 = .ok (.invokevirtual 56, 3)) (by decide +kernel : kM (kO 0) 56 = some (14, 0)) (ex_pop_i (n := 1) (by decide +kernel) rfl) (ex_lv_i (n1 := 1) (n2 := 0) (by decide +kernel) rfl rfl) (ex_tr_n (by decide +kernel)) (ex_rc_i (by decide +kernel) hr)
theorem s0_306 {X : Option (List Int32)} {l0 : Nat} {l1 : Nat} {l2 : Nat} {l3 : Int32} {r : List Value} {w : ex_W} : ex_go X 0 306 [(0, .ref l0), (1, .ref l1), (2, .ref l2), (3, .int l3)] r w = ex_go X 0 307 [(0, .ref l0), (1, .ref l1), (2, .ref l2), (3, .int l3)] (.ref l2 :: r) w := ex_go_d (by decide +kernel : decode (kC 0) 306 = .ok (.aload_n 2, 1)) rfl rfl (ex_tr_n (by decide +kernel))
theorem s0_307 {X : Option (List Int32)} {l0 : Nat} {l1 : Nat} {l2 : Nat} {l3 : Int32} {t0 : Nat} {t1 : Int32} {w : ex_W} (hr : ex_rc w t0 8 = true) : ex_go X 0 307 [(0, .ref l0), (1, .ref l1), (2, .ref l2), (3, .int l3)] [.ref t0, .int t1] w = (ex_call X 168 [.ref t0] w).bind (fun q => ex_go X 0 310 [(0, .ref l0), (1, .ref l1), (2, .ref l2), (3, .int l3)] (q.1.toList ++ [.int t1]) q.2) := go_virt (by decide +kernel : decode (kC 0) 307 = .ok (.invokevirtual 60, 3)) (by decide +kernel : kM (kO 0) 60 = some (168, 0)) (ex_pop_i (n := 1) (by decide +kernel) rfl) (ex_lv_i (n1 := 1) (n2 := 1) (by decide +kernel) rfl rfl) (ex_tr_n (by decide +kernel)) (ex_rc_i (by decide +kernel) hr)
theorem s0_310 {X : Option (List Int32)} {l0 : Nat} {l1 : Nat} {l2 : Nat} {l3 : Int32} {r : List Value} {t0 t1 : Int32} {w : ex_W} : ex_go X 0 310 [(0, .ref l0), (1, .ref l1), (2, .ref l2), (3, .int l3)] (.int t0 :: .int t1 :: r) w = if t1 = t0 then ex_go X 0 315 [(0, .ref l0), (1, .ref l1), (2, .ref l2), (3, .int l3)] r w else ex_go X 0 313 [(0, .ref l0), (1, .ref l1), (2, .ref l2), (3, .int l3)] r w := go_icmp_eq (t := 315) (by decide +kernel : decode (kC 0) 310 = .ok (.if_icmp .eq 5, 3)) (by decide) (ex_tr_k (ks := [0, 1, 2, 3]) (by decide +kernel) rfl) (ex_tr_n (by decide +kernel))
theorem s0_313 {X : Option (List Int32)} {l0 : Nat} {l1 : Nat} {l2 : Nat} {l3 : Int32} {r : List Value} {w : ex_W} : ex_go X 0 313 [(0, .ref l0), (1, .ref l1), (2, .ref l2), (3, .int l3)] r w = ex_go X 0 314 [(0, .ref l0), (1, .ref l1), (2, .ref l2), (3, .int l3)] (.int 0 :: r) w := go_iconst (by decide +kernel : decode (kC 0) 313 = .ok (.iconst 0, 1)) (by decide +kernel) (ex_tr_n (by decide +kernel))
theorem s0_314 {X : Option (List Int32)} {l0 : Nat} {l1 : Nat} {l2 : Nat} {l3 : Int32} {t0 : Int32} {w : ex_W} (hb : t0 = 0 ∨ t0 = 1) : ex_go X 0 314 [(0, .ref l0), (1, .ref l1), (2, .ref l2), (3, .int l3)] [.int t0] w = some (some (.int t0), w) := go_ireturn (by decide +kernel : decode (kC 0) 314 = .ok (.ireturn, 1)) (by decide +kernel : kR 0 = some .boolean) (ex_nz hb)
theorem s0_315 {X : Option (List Int32)} {l0 : Nat} {l1 : Nat} {l2 : Nat} {l3 : Int32} {r : List Value} {w : ex_W} : ex_go X 0 315 [(0, .ref l0), (1, .ref l1), (2, .ref l2), (3, .int l3)] r w = ex_go X 0 318 [(0, .ref l0), (1, .ref l1), (2, .ref l2), (3, .int (l3 + 3))] r w := go_iinc (i := 3) (x := l3) (v := 3) (by decide +kernel : decode (kC 0) 315 = .ok (.iinc 3 3, 3)) rfl rfl (by decide +kernel) (by decide +kernel) rfl (ex_tr_n (by decide +kernel))
theorem s0_318 {X : Option (List Int32)} {l0 : Nat} {l1 : Nat} {l2 : Nat} {l3 : Int32} {r : List Value} {w : ex_W} : ex_go X 0 318 [(0, .ref l0), (1, .ref l1), (2, .ref l2), (3, .int l3)] r w = ex_go X 0 18 [(0, .ref l0), (1, .ref l1), (2, .ref l2), (3, .int l3)] r w := go_goto (t := 18) (by decide +kernel : decode (kC 0) 318 = .ok (.goto (-300), 3)) (by decide) (ex_tr_k (ks := [0, 1, 2, 3]) (by decide +kernel) rfl)
theorem s0_321 {X : Option (List Int32)} {r : List Value} {w : ex_W} : ex_go X 0 321 [] r w = ex_go X 0 322 [] (.int 1 :: r) w := go_iconst (by decide +kernel : decode (kC 0) 321 = .ok (.iconst 1, 1)) (by decide +kernel) (ex_tr_n (by decide +kernel))
theorem s0_322 {X : Option (List Int32)} {t0 : Int32} {w : ex_W} (hb : t0 = 0 ∨ t0 = 1) : ex_go X 0 322 [] [.int t0] w = some (some (.int t0), w) := go_ireturn (by decide +kernel : decode (kC 0) 322 = .ok (.ireturn, 1)) (by decide +kernel : kR 0 = some .boolean) (ex_nz hb)
-- ExactLoom.put(II)Z
theorem s2_0 {X : Option (List Int32)} {l0 : Nat} {l1 : Int32} {l2 : Int32} {r : List Value} {w : ex_W} : ex_go X 2 0 [(0, .ref l0), (1, .int l1), (2, .int l2)] r w = ex_go X 2 1 [(0, .ref l0), (1, .int l1), (2, .int l2)] (.int l2 :: r) w := ex_go_d (by decide +kernel : decode (kC 2) 0 = .ok (.iload_n 2, 1)) rfl rfl (ex_tr_n (by decide +kernel))
theorem s2_1 {X : Option (List Int32)} {l0 : Nat} {l1 : Int32} {l2 : Int32} {r : List Value} {w : ex_W} : ex_go X 2 1 [(0, .ref l0), (1, .int l1), (2, .int l2)] r w = ex_go X 2 2 [(0, .ref l0), (1, .int l1), (2, .int l2)] (.int 1 :: r) w := go_iconst (by decide +kernel : decode (kC 2) 1 = .ok (.iconst 1, 1)) (by decide +kernel) (ex_tr_n (by decide +kernel))
theorem s2_2 {X : Option (List Int32)} {l0 : Nat} {l1 : Int32} {l2 : Int32} {r : List Value} {t0 t1 : Int32} {w : ex_W} : ex_go X 2 2 [(0, .ref l0), (1, .int l1), (2, .int l2)] (.int t0 :: .int t1 :: r) w = if t1 < t0 then ex_go X 2 24 [] r w else ex_go X 2 5 [(0, .ref l0), (1, .int l1), (2, .int l2)] r w := go_icmp_lt (t := 24) (by decide +kernel : decode (kC 2) 2 = .ok (.if_icmp .lt 22, 3)) (by decide) (ex_tr_k (ks := []) (by decide +kernel) rfl) (ex_tr_n (by decide +kernel))
theorem s2_5 {X : Option (List Int32)} {l0 : Nat} {l1 : Int32} {l2 : Int32} {r : List Value} {w : ex_W} : ex_go X 2 5 [(0, .ref l0), (1, .int l1), (2, .int l2)] r w = ex_go X 2 6 [(0, .ref l0), (1, .int l1), (2, .int l2)] (.int l2 :: r) w := ex_go_d (by decide +kernel : decode (kC 2) 5 = .ok (.iload_n 2, 1)) rfl rfl (ex_tr_n (by decide +kernel))
theorem s2_6 {X : Option (List Int32)} {l0 : Nat} {l1 : Int32} {l2 : Int32} {r : List Value} {w : ex_W} : ex_go X 2 6 [(0, .ref l0), (1, .int l1), (2, .int l2)] r w = ex_go X 2 7 [(0, .ref l0), (1, .int l1), (2, .int l2)] (.int 4 :: r) w := go_iconst (by decide +kernel : decode (kC 2) 6 = .ok (.iconst 4, 1)) (by decide +kernel) (ex_tr_n (by decide +kernel))
theorem s2_7 {X : Option (List Int32)} {l0 : Nat} {l1 : Int32} {l2 : Int32} {r : List Value} {t0 t1 : Int32} {w : ex_W} : ex_go X 2 7 [(0, .ref l0), (1, .int l1), (2, .int l2)] (.int t0 :: .int t1 :: r) w = if t0 < t1 then ex_go X 2 24 [] r w else ex_go X 2 10 [(0, .ref l0), (1, .int l1), (2, .int l2)] r w := go_icmp_gt (t := 24) (by decide +kernel : decode (kC 2) 7 = .ok (.if_icmp .gt 17, 3)) (by decide) (ex_tr_k (ks := []) (by decide +kernel) rfl) (ex_tr_n (by decide +kernel))
theorem s2_10 {X : Option (List Int32)} {l0 : Nat} {l1 : Int32} {l2 : Int32} {r : List Value} {w : ex_W} : ex_go X 2 10 [(0, .ref l0), (1, .int l1), (2, .int l2)] r w = ex_go X 2 11 [(0, .ref l0), (1, .int l1), (2, .int l2)] (.ref l0 :: r) w := ex_go_d (by decide +kernel : decode (kC 2) 10 = .ok (.aload_n 0, 1)) rfl rfl (ex_tr_n (by decide +kernel))
theorem s2_11 {X : Option (List Int32)} {l0 : Nat} {l1 : Int32} {l2 : Int32} {r : List Value} {t0 : Nat} {w : ex_W} (hh : t0 < 1000) : ex_go X 2 11 [(0, .ref l0), (1, .int l1), (2, .int l2)] (.ref t0 :: r) w = (ex_gf w t0 0 0).bind (fun v => ex_go X 2 14 [(0, .ref l0), (1, .int l1), (2, .int l2)] (v :: r) w) := go_getf (by decide +kernel : decode (kC 2) 11 = .ok (.getfield 14, 3)) (by decide +kernel : kF (kO 2) 14 = some (0, 0, false)) (ex_tr_n (by decide +kernel)) hh
theorem s2_14 {X : Option (List Int32)} {l0 : Nat} {l1 : Int32} {l2 : Int32} {r : List Value} {t0 : Nat} {w : ex_W} (hh : t0 < 1000) : ex_go X 2 14 [(0, .ref l0), (1, .int l1), (2, .int l2)] (.ref t0 :: r) w = (ex_gf w t0 1 1).bind (fun v => ex_go X 2 17 [(0, .ref l0), (1, .int l1), (2, .int l2)] (v :: r) w) := go_getf (by decide +kernel : decode (kC 2) 14 = .ok (.getfield 52, 3)) (by decide +kernel : kF (kO 2) 52 = some (1, 1, true)) (ex_tr_n (by decide +kernel)) hh
theorem s2_17 {X : Option (List Int32)} {l0 : Nat} {l1 : Int32} {l2 : Int32} {r : List Value} {w : ex_W} : ex_go X 2 17 [(0, .ref l0), (1, .int l1), (2, .int l2)] r w = ex_go X 2 18 [(0, .ref l0), (1, .int l1), (2, .int l2)] (.int l2 :: r) w := ex_go_d (by decide +kernel : decode (kC 2) 17 = .ok (.iload_n 2, 1)) rfl rfl (ex_tr_n (by decide +kernel))
theorem s2_18 {X : Option (List Int32)} {l0 : Nat} {l1 : Int32} {l2 : Int32} {r : List Value} {t0 t1 : Int32} {w : ex_W} : ex_go X 2 18 [(0, .ref l0), (1, .int l1), (2, .int l2)] (.int t0 :: .int t1 :: r) w = ex_go X 2 19 [(0, .ref l0), (1, .int l1), (2, .int l2)] (.int (t1 + t0) :: r) w := ex_go_d (by decide +kernel : decode (kC 2) 18 = .ok (.iadd, 1)) rfl rfl (ex_tr_n (by decide +kernel))
theorem s2_19 {X : Option (List Int32)} {l0 : Nat} {l1 : Int32} {l2 : Int32} {r : List Value} {w : ex_W} : ex_go X 2 19 [(0, .ref l0), (1, .int l1), (2, .int l2)] r w = ex_go X 2 21 [(0, .ref l0), (1, .int l1), (2, .int l2)] (.int 124 :: r) w := go_bipush (by decide +kernel : decode (kC 2) 19 = .ok (.bipush 124, 2)) (by decide +kernel) (ex_tr_n (by decide +kernel))
theorem s2_21 {X : Option (List Int32)} {l0 : Nat} {l1 : Int32} {l2 : Int32} {r : List Value} {t0 t1 : Int32} {w : ex_W} : ex_go X 2 21 [(0, .ref l0), (1, .int l1), (2, .int l2)] (.int t0 :: .int t1 :: r) w = if t1 ≤ t0 then ex_go X 2 26 [(0, .ref l0), (1, .int l1), (2, .int l2)] r w else ex_go X 2 24 [] r w := go_icmp_le (t := 26) (by decide +kernel : decode (kC 2) 21 = .ok (.if_icmp .le 5, 3)) (by decide) (ex_tr_k (ks := [0, 1, 2]) (by decide +kernel) rfl) (ex_tr_k (ks := []) (by decide +kernel) rfl)
theorem s2_24 {X : Option (List Int32)} {r : List Value} {w : ex_W} : ex_go X 2 24 [] r w = ex_go X 2 25 [] (.int 0 :: r) w := go_iconst (by decide +kernel : decode (kC 2) 24 = .ok (.iconst 0, 1)) (by decide +kernel) (ex_tr_n (by decide +kernel))
theorem s2_25 {X : Option (List Int32)} {t0 : Int32} {w : ex_W} (hb : t0 = 0 ∨ t0 = 1) : ex_go X 2 25 [] [.int t0] w = some (some (.int t0), w) := go_ireturn (by decide +kernel : decode (kC 2) 25 = .ok (.ireturn, 1)) (by decide +kernel : kR 2 = some .boolean) (ex_nz hb)
theorem s2_26 {X : Option (List Int32)} {l0 : Nat} {l1 : Int32} {l2 : Int32} {r : List Value} {w : ex_W} : ex_go X 2 26 [(0, .ref l0), (1, .int l1), (2, .int l2)] r w = ex_go X 2 27 [(0, .ref l0), (1, .int l1), (2, .int l2)] (.ref l0 :: r) w := ex_go_d (by decide +kernel : decode (kC 2) 26 = .ok (.aload_n 0, 1)) rfl rfl (ex_tr_n (by decide +kernel))
theorem s2_27 {X : Option (List Int32)} {l0 : Nat} {l1 : Int32} {l2 : Int32} {r : List Value} {t0 : Nat} {w : ex_W} (hh : t0 < 1000) : ex_go X 2 27 [(0, .ref l0), (1, .int l1), (2, .int l2)] (.ref t0 :: r) w = (ex_gf w t0 0 0).bind (fun v => ex_go X 2 30 [(0, .ref l0), (1, .int l1), (2, .int l2)] (v :: r) w) := go_getf (by decide +kernel : decode (kC 2) 27 = .ok (.getfield 14, 3)) (by decide +kernel : kF (kO 2) 14 = some (0, 0, false)) (ex_tr_n (by decide +kernel)) hh
theorem s2_30 {X : Option (List Int32)} {l0 : Nat} {l1 : Int32} {l2 : Int32} {r : List Value} {w : ex_W} : ex_go X 2 30 [(0, .ref l0), (1, .int l1), (2, .int l2)] r w = ex_go X 2 31 [(0, .ref l0), (1, .int l1), (2, .int l2)] (.int l1 :: r) w := ex_go_d (by decide +kernel : decode (kC 2) 30 = .ok (.iload_n 1, 1)) rfl rfl (ex_tr_n (by decide +kernel))
theorem s2_31 {X : Option (List Int32)} {l0 : Nat} {l1 : Int32} {l2 : Int32} {r : List Value} {w : ex_W} : ex_go X 2 31 [(0, .ref l0), (1, .int l1), (2, .int l2)] r w = ex_go X 2 32 [(0, .ref l0), (1, .int l1), (2, .int l2)] (.int l2 :: r) w := ex_go_d (by decide +kernel : decode (kC 2) 31 = .ok (.iload_n 2, 1)) rfl rfl (ex_tr_n (by decide +kernel))
theorem s2_32 {X : Option (List Int32)} {l0 : Nat} {l1 : Int32} {l2 : Int32} {t0 : Int32} {t1 : Int32} {t2 : Nat} {w : ex_W} (hr : ex_rc w t2 1 = true) : ex_go X 2 32 [(0, .ref l0), (1, .int l1), (2, .int l2)] [.int t0, .int t1, .ref t2] w = (ex_call X 21 [.ref t2, .int t1, .int t0] w).bind (fun q => ex_go X 2 35 [(0, .ref l0), (1, .int l1), (2, .int l2)] (q.1.toList ++ []) q.2) := go_virt (by decide +kernel : decode (kC 2) 32 = .ok (.invokevirtual 56, 3)) (by decide +kernel : kM (kO 2) 56 = some (21, 0)) (ex_pop_i (n := 3) (by decide +kernel) rfl) (ex_lv_i (n1 := 3) (n2 := 0) (by decide +kernel) rfl rfl) (ex_tr_n (by decide +kernel)) (ex_rc_i (by decide +kernel) hr)
theorem s2_35 {X : Option (List Int32)} {l0 : Nat} {l1 : Int32} {l2 : Int32} {r : List Value} {w : ex_W} : ex_go X 2 35 [(0, .ref l0), (1, .int l1), (2, .int l2)] r w = ex_go X 2 36 [(0, .ref l0), (1, .int l1), (2, .int l2)] (.int 1 :: r) w := go_iconst (by decide +kernel : decode (kC 2) 35 = .ok (.iconst 1, 1)) (by decide +kernel) (ex_tr_n (by decide +kernel))
theorem s2_36 {X : Option (List Int32)} {l0 : Nat} {l1 : Int32} {l2 : Int32} {t0 : Int32} {w : ex_W} (hb : t0 = 0 ∨ t0 = 1) : ex_go X 2 36 [(0, .ref l0), (1, .int l1), (2, .int l2)] [.int t0] w = some (some (.int t0), w) := go_ireturn (by decide +kernel : decode (kC 2) 36 = .ok (.ireturn, 1)) (by decide +kernel : kR 2 = some .boolean) (ex_nz hb)
-- ExactLoom.type(II)Z
theorem s5_0 {X : Option (List Int32)} {l0 : Nat} {l1 : Int32} {l2 : Int32} {r : List Value} {w : ex_W} : ex_go X 5 0 [(0, .ref l0), (1, .int l1), (2, .int l2)] r w = ex_go X 5 1 [(0, .ref l0), (1, .int l1), (2, .int l2)] (.int l2 :: r) w := ex_go_d (by decide +kernel : decode (kC 5) 0 = .ok (.iload_n 2, 1)) rfl rfl (ex_tr_n (by decide +kernel))
theorem s5_1 {X : Option (List Int32)} {l0 : Nat} {l1 : Int32} {l2 : Int32} {r : List Value} {w : ex_W} : ex_go X 5 1 [(0, .ref l0), (1, .int l1), (2, .int l2)] r w = ex_go X 5 2 [(0, .ref l0), (1, .int l1), (2, .int l2)] (.int 1 :: r) w := go_iconst (by decide +kernel : decode (kC 5) 1 = .ok (.iconst 1, 1)) (by decide +kernel) (ex_tr_n (by decide +kernel))
theorem s5_2 {X : Option (List Int32)} {l0 : Nat} {l1 : Int32} {l2 : Int32} {r : List Value} {t0 t1 : Int32} {w : ex_W} : ex_go X 5 2 [(0, .ref l0), (1, .int l1), (2, .int l2)] (.int t0 :: .int t1 :: r) w = if t1 < t0 then ex_go X 5 33 [] r w else ex_go X 5 5 [(0, .ref l0), (1, .int l1), (2, .int l2)] r w := go_icmp_lt (t := 33) (by decide +kernel : decode (kC 5) 2 = .ok (.if_icmp .lt 31, 3)) (by decide) (ex_tr_k (ks := []) (by decide +kernel) rfl) (ex_tr_n (by decide +kernel))
theorem s5_5 {X : Option (List Int32)} {l0 : Nat} {l1 : Int32} {l2 : Int32} {r : List Value} {w : ex_W} : ex_go X 5 5 [(0, .ref l0), (1, .int l1), (2, .int l2)] r w = ex_go X 5 6 [(0, .ref l0), (1, .int l1), (2, .int l2)] (.int l2 :: r) w := ex_go_d (by decide +kernel : decode (kC 5) 5 = .ok (.iload_n 2, 1)) rfl rfl (ex_tr_n (by decide +kernel))
theorem s5_6 {X : Option (List Int32)} {l0 : Nat} {l1 : Int32} {l2 : Int32} {r : List Value} {w : ex_W} : ex_go X 5 6 [(0, .ref l0), (1, .int l1), (2, .int l2)] r w = ex_go X 5 7 [(0, .ref l0), (1, .int l1), (2, .int l2)] (.int 4 :: r) w := go_iconst (by decide +kernel : decode (kC 5) 6 = .ok (.iconst 4, 1)) (by decide +kernel) (ex_tr_n (by decide +kernel))
theorem s5_7 {X : Option (List Int32)} {l0 : Nat} {l1 : Int32} {l2 : Int32} {r : List Value} {t0 t1 : Int32} {w : ex_W} : ex_go X 5 7 [(0, .ref l0), (1, .int l1), (2, .int l2)] (.int t0 :: .int t1 :: r) w = if t0 < t1 then ex_go X 5 33 [] r w else ex_go X 5 10 [(0, .ref l0), (1, .int l1), (2, .int l2)] r w := go_icmp_gt (t := 33) (by decide +kernel : decode (kC 5) 7 = .ok (.if_icmp .gt 26, 3)) (by decide) (ex_tr_k (ks := []) (by decide +kernel) rfl) (ex_tr_n (by decide +kernel))
theorem s5_10 {X : Option (List Int32)} {l0 : Nat} {l1 : Int32} {l2 : Int32} {r : List Value} {w : ex_W} : ex_go X 5 10 [(0, .ref l0), (1, .int l1), (2, .int l2)] r w = ex_go X 5 11 [(0, .ref l0), (1, .int l1), (2, .int l2)] (.ref l0 :: r) w := ex_go_d (by decide +kernel : decode (kC 5) 10 = .ok (.aload_n 0, 1)) rfl rfl (ex_tr_n (by decide +kernel))
theorem s5_11 {X : Option (List Int32)} {l0 : Nat} {l1 : Int32} {l2 : Int32} {r : List Value} {t0 : Nat} {w : ex_W} (hh : t0 < 1000) : ex_go X 5 11 [(0, .ref l0), (1, .int l1), (2, .int l2)] (.ref t0 :: r) w = (ex_gf w t0 0 1).bind (fun v => ex_go X 5 14 [(0, .ref l0), (1, .int l1), (2, .int l2)] (v :: r) w) := go_getf (by decide +kernel : decode (kC 5) 11 = .ok (.getfield 18, 3)) (by decide +kernel : kF (kO 5) 18 = some (0, 1, false)) (ex_tr_n (by decide +kernel)) hh
theorem s5_14 {X : Option (List Int32)} {l0 : Nat} {l1 : Int32} {l2 : Int32} {r : List Value} {t0 : Nat} {w : ex_W} (hh : t0 < 1000) : ex_go X 5 14 [(0, .ref l0), (1, .int l1), (2, .int l2)] (.ref t0 :: r) w = (ex_gf w t0 1 1).bind (fun v => ex_go X 5 17 [(0, .ref l0), (1, .int l1), (2, .int l2)] (v :: r) w) := go_getf (by decide +kernel : decode (kC 5) 14 = .ok (.getfield 52, 3)) (by decide +kernel : kF (kO 5) 52 = some (1, 1, true)) (ex_tr_n (by decide +kernel)) hh
theorem s5_17 {X : Option (List Int32)} {l0 : Nat} {l1 : Int32} {l2 : Int32} {r : List Value} {w : ex_W} : ex_go X 5 17 [(0, .ref l0), (1, .int l1), (2, .int l2)] r w = ex_go X 5 18 [(0, .ref l0), (1, .int l1), (2, .int l2)] (.int l2 :: r) w := ex_go_d (by decide +kernel : decode (kC 5) 17 = .ok (.iload_n 2, 1)) rfl rfl (ex_tr_n (by decide +kernel))
theorem s5_18 {X : Option (List Int32)} {l0 : Nat} {l1 : Int32} {l2 : Int32} {r : List Value} {t0 t1 : Int32} {w : ex_W} : ex_go X 5 18 [(0, .ref l0), (1, .int l1), (2, .int l2)] (.int t0 :: .int t1 :: r) w = ex_go X 5 19 [(0, .ref l0), (1, .int l1), (2, .int l2)] (.int (t1 + t0) :: r) w := ex_go_d (by decide +kernel : decode (kC 5) 18 = .ok (.iadd, 1)) rfl rfl (ex_tr_n (by decide +kernel))
theorem s5_19 {X : Option (List Int32)} {l0 : Nat} {l1 : Int32} {l2 : Int32} {r : List Value} {w : ex_W} : ex_go X 5 19 [(0, .ref l0), (1, .int l1), (2, .int l2)] r w = ex_go X 5 22 [(0, .ref l0), (1, .int l1), (2, .int l2)] (.int 200 :: r) w := go_sipush (by decide +kernel : decode (kC 5) 19 = .ok (.sipush 200, 3)) (by decide +kernel) (ex_tr_n (by decide +kernel))
theorem s5_22 {X : Option (List Int32)} {l0 : Nat} {l1 : Int32} {l2 : Int32} {r : List Value} {t0 t1 : Int32} {w : ex_W} : ex_go X 5 22 [(0, .ref l0), (1, .int l1), (2, .int l2)] (.int t0 :: .int t1 :: r) w = if t0 < t1 then ex_go X 5 33 [] r w else ex_go X 5 25 [(0, .ref l0), (1, .int l1), (2, .int l2)] r w := go_icmp_gt (t := 33) (by decide +kernel : decode (kC 5) 22 = .ok (.if_icmp .gt 11, 3)) (by decide) (ex_tr_k (ks := []) (by decide +kernel) rfl) (ex_tr_n (by decide +kernel))
theorem s5_25 {X : Option (List Int32)} {l0 : Nat} {l1 : Int32} {l2 : Int32} {r : List Value} {w : ex_W} : ex_go X 5 25 [(0, .ref l0), (1, .int l1), (2, .int l2)] r w = ex_go X 5 26 [(0, .ref l0), (1, .int l1), (2, .int l2)] (.int l1 :: r) w := ex_go_d (by decide +kernel : decode (kC 5) 25 = .ok (.iload_n 1, 1)) rfl rfl (ex_tr_n (by decide +kernel))
theorem s5_26 {X : Option (List Int32)} {l0 : Nat} {l1 : Int32} {l2 : Int32} {r : List Value} {w : ex_W} : ex_go X 5 26 [(0, .ref l0), (1, .int l1), (2, .int l2)] r w = ex_go X 5 27 [(0, .ref l0), (1, .int l1), (2, .int l2)] (.int l2 :: r) w := ex_go_d (by decide +kernel : decode (kC 5) 26 = .ok (.iload_n 2, 1)) rfl rfl (ex_tr_n (by decide +kernel))
theorem s5_27 {X : Option (List Int32)} {l0 : Nat} {l1 : Int32} {l2 : Int32} {t0 : Int32} {t1 : Int32} {w : ex_W} : ex_go X 5 27 [(0, .ref l0), (1, .int l1), (2, .int l2)] [.int t0, .int t1] w = (ex_call X 6 [.int t1, .int t0] w).bind (fun q => ex_go X 5 30 [(0, .ref l0), (1, .int l1), (2, .int l2)] (q.1.toList ++ []) q.2) := go_stat (by decide +kernel : decode (kC 5) 27 = .ok (.invokestatic 70, 3)) (by decide +kernel : kM (kO 5) 70 = some (6, 1)) (ex_pop_i (n := 2) (by decide +kernel) rfl) (ex_lv_i (n1 := 2) (n2 := 0) (by decide +kernel) rfl rfl) (ex_tr_n (by decide +kernel))
theorem s5_30 {X : Option (List Int32)} {l0 : Nat} {l1 : Int32} {l2 : Int32} {r : List Value} {t0 : Int32} {w : ex_W} : ex_go X 5 30 [(0, .ref l0), (1, .int l1), (2, .int l2)] (.int t0 :: r) w = if ¬ t0 = 0 then ex_go X 5 35 [(0, .ref l0), (1, .int l1), (2, .int l2)] r w else ex_go X 5 33 [] r w := go_if_ne (t := 35) (by decide +kernel : decode (kC 5) 30 = .ok (.ifCond .ne 5, 3)) (by decide) (ex_tr_k (ks := [0, 1, 2]) (by decide +kernel) rfl) (ex_tr_k (ks := []) (by decide +kernel) rfl)
theorem s5_33 {X : Option (List Int32)} {r : List Value} {w : ex_W} : ex_go X 5 33 [] r w = ex_go X 5 34 [] (.int 0 :: r) w := go_iconst (by decide +kernel : decode (kC 5) 33 = .ok (.iconst 0, 1)) (by decide +kernel) (ex_tr_n (by decide +kernel))
theorem s5_34 {X : Option (List Int32)} {t0 : Int32} {w : ex_W} (hb : t0 = 0 ∨ t0 = 1) : ex_go X 5 34 [] [.int t0] w = some (some (.int t0), w) := go_ireturn (by decide +kernel : decode (kC 5) 34 = .ok (.ireturn, 1)) (by decide +kernel : kR 5 = some .boolean) (ex_nz hb)
theorem s5_35 {X : Option (List Int32)} {l0 : Nat} {l1 : Int32} {l2 : Int32} {r : List Value} {w : ex_W} : ex_go X 5 35 [(0, .ref l0), (1, .int l1), (2, .int l2)] r w = ex_go X 5 36 [(0, .ref l0), (1, .int l1), (2, .int l2)] (.ref l0 :: r) w := ex_go_d (by decide +kernel : decode (kC 5) 35 = .ok (.aload_n 0, 1)) rfl rfl (ex_tr_n (by decide +kernel))
theorem s5_36 {X : Option (List Int32)} {l0 : Nat} {l1 : Int32} {l2 : Int32} {r : List Value} {t0 : Nat} {w : ex_W} (hh : t0 < 1000) : ex_go X 5 36 [(0, .ref l0), (1, .int l1), (2, .int l2)] (.ref t0 :: r) w = (ex_gf w t0 0 1).bind (fun v => ex_go X 5 39 [(0, .ref l0), (1, .int l1), (2, .int l2)] (v :: r) w) := go_getf (by decide +kernel : decode (kC 5) 36 = .ok (.getfield 18, 3)) (by decide +kernel : kF (kO 5) 18 = some (0, 1, false)) (ex_tr_n (by decide +kernel)) hh
theorem s5_39 {X : Option (List Int32)} {l0 : Nat} {l1 : Int32} {l2 : Int32} {r : List Value} {w : ex_W} : ex_go X 5 39 [(0, .ref l0), (1, .int l1), (2, .int l2)] r w = ex_go X 5 40 [(0, .ref l0), (1, .int l1), (2, .int l2)] (.int l1 :: r) w := ex_go_d (by decide +kernel : decode (kC 5) 39 = .ok (.iload_n 1, 1)) rfl rfl (ex_tr_n (by decide +kernel))
theorem s5_40 {X : Option (List Int32)} {l0 : Nat} {l1 : Int32} {l2 : Int32} {r : List Value} {w : ex_W} : ex_go X 5 40 [(0, .ref l0), (1, .int l1), (2, .int l2)] r w = ex_go X 5 41 [(0, .ref l0), (1, .int l1), (2, .int l2)] (.int l2 :: r) w := ex_go_d (by decide +kernel : decode (kC 5) 40 = .ok (.iload_n 2, 1)) rfl rfl (ex_tr_n (by decide +kernel))
theorem s5_41 {X : Option (List Int32)} {l0 : Nat} {l1 : Int32} {l2 : Int32} {t0 : Int32} {t1 : Int32} {t2 : Nat} {w : ex_W} (hr : ex_rc w t2 1 = true) : ex_go X 5 41 [(0, .ref l0), (1, .int l1), (2, .int l2)] [.int t0, .int t1, .ref t2] w = (ex_call X 21 [.ref t2, .int t1, .int t0] w).bind (fun q => ex_go X 5 44 [(0, .ref l0), (1, .int l1), (2, .int l2)] (q.1.toList ++ []) q.2) := go_virt (by decide +kernel : decode (kC 5) 41 = .ok (.invokevirtual 56, 3)) (by decide +kernel : kM (kO 5) 56 = some (21, 0)) (ex_pop_i (n := 3) (by decide +kernel) rfl) (ex_lv_i (n1 := 3) (n2 := 0) (by decide +kernel) rfl rfl) (ex_tr_n (by decide +kernel)) (ex_rc_i (by decide +kernel) hr)
theorem s5_44 {X : Option (List Int32)} {l0 : Nat} {l1 : Int32} {l2 : Int32} {r : List Value} {w : ex_W} : ex_go X 5 44 [(0, .ref l0), (1, .int l1), (2, .int l2)] r w = ex_go X 5 45 [(0, .ref l0), (1, .int l1), (2, .int l2)] (.int 1 :: r) w := go_iconst (by decide +kernel : decode (kC 5) 44 = .ok (.iconst 1, 1)) (by decide +kernel) (ex_tr_n (by decide +kernel))
theorem s5_45 {X : Option (List Int32)} {l0 : Nat} {l1 : Int32} {l2 : Int32} {t0 : Int32} {w : ex_W} (hb : t0 = 0 ∨ t0 = 1) : ex_go X 5 45 [(0, .ref l0), (1, .int l1), (2, .int l2)] [.int t0] w = some (some (.int t0), w) := go_ireturn (by decide +kernel : decode (kC 5) 45 = .ok (.ireturn, 1)) (by decide +kernel : kR 5 = some .boolean) (ex_nz hb)
-- ExactLoom.areCharacters(II)Z
theorem s6_0 {X : Option (List Int32)} {l0 : Int32} {l1 : Int32} {r : List Value} {w : ex_W} : ex_go X 6 0 [(0, .int l0), (1, .int l1)] r w = ex_go X 6 1 [(0, .int l0), (1, .int l1)] (.int 0 :: r) w := go_iconst (by decide +kernel : decode (kC 6) 0 = .ok (.iconst 0, 1)) (by decide +kernel) (ex_tr_n (by decide +kernel))
theorem s6_1 {X : Option (List Int32)} {l0 : Int32} {l1 : Int32} {r : List Value} {t : Int32} {w : ex_W} : ex_go X 6 1 [(0, .int l0), (1, .int l1)] (.int t :: r) w = ex_go X 6 2 [(0, .int l0), (1, .int l1), (2, .int t)] r w := go_stI (i := 2) (pc1 := 2) (L1 := [(0, .int l0), (1, .int l1), (2, .int t)]) (by decide +kernel : decode (kC 6) 1 = .ok (.istore_n 2, 1)) rfl (by decide +kernel) rfl (ex_tr_k (ks := [0, 1, 2]) (by decide +kernel) rfl)
theorem s6_2 {X : Option (List Int32)} {l0 : Int32} {l1 : Int32} {l2 : Int32} {r : List Value} {w : ex_W} : ex_go X 6 2 [(0, .int l0), (1, .int l1), (2, .int l2)] r w = ex_go X 6 3 [(0, .int l0), (1, .int l1), (2, .int l2)] (.int l2 :: r) w := ex_go_d (by decide +kernel : decode (kC 6) 2 = .ok (.iload_n 2, 1)) rfl rfl (ex_tr_n (by decide +kernel))
theorem s6_3 {X : Option (List Int32)} {l0 : Int32} {l1 : Int32} {l2 : Int32} {r : List Value} {w : ex_W} : ex_go X 6 3 [(0, .int l0), (1, .int l1), (2, .int l2)] r w = ex_go X 6 4 [(0, .int l0), (1, .int l1), (2, .int l2)] (.int l1 :: r) w := ex_go_d (by decide +kernel : decode (kC 6) 3 = .ok (.iload_n 1, 1)) rfl rfl (ex_tr_n (by decide +kernel))
theorem s6_4 {X : Option (List Int32)} {l0 : Int32} {l1 : Int32} {l2 : Int32} {r : List Value} {t0 t1 : Int32} {w : ex_W} : ex_go X 6 4 [(0, .int l0), (1, .int l1), (2, .int l2)] (.int t0 :: .int t1 :: r) w = if t0 ≤ t1 then ex_go X 6 44 [] r w else ex_go X 6 7 [(0, .int l0), (1, .int l1), (2, .int l2)] r w := go_icmp_ge (t := 44) (by decide +kernel : decode (kC 6) 4 = .ok (.if_icmp .ge 40, 3)) (by decide) (ex_tr_k (ks := []) (by decide +kernel) rfl) (ex_tr_n (by decide +kernel))
theorem s6_7 {X : Option (List Int32)} {l0 : Int32} {l1 : Int32} {l2 : Int32} {r : List Value} {w : ex_W} : ex_go X 6 7 [(0, .int l0), (1, .int l1), (2, .int l2)] r w = ex_go X 6 8 [(0, .int l0), (1, .int l1), (2, .int l2)] (.int l0 :: r) w := ex_go_d (by decide +kernel : decode (kC 6) 7 = .ok (.iload_n 0, 1)) rfl rfl (ex_tr_n (by decide +kernel))
theorem s6_8 {X : Option (List Int32)} {l0 : Int32} {l1 : Int32} {l2 : Int32} {r : List Value} {w : ex_W} : ex_go X 6 8 [(0, .int l0), (1, .int l1), (2, .int l2)] r w = ex_go X 6 10 [(0, .int l0), (1, .int l1), (2, .int l2)] (.int 8 :: r) w := go_bipush (by decide +kernel : decode (kC 6) 8 = .ok (.bipush 8, 2)) (by decide +kernel) (ex_tr_n (by decide +kernel))
theorem s6_10 {X : Option (List Int32)} {l0 : Int32} {l1 : Int32} {l2 : Int32} {r : List Value} {w : ex_W} : ex_go X 6 10 [(0, .int l0), (1, .int l1), (2, .int l2)] r w = ex_go X 6 11 [(0, .int l0), (1, .int l1), (2, .int l2)] (.int l2 :: r) w := ex_go_d (by decide +kernel : decode (kC 6) 10 = .ok (.iload_n 2, 1)) rfl rfl (ex_tr_n (by decide +kernel))
theorem s6_11 {X : Option (List Int32)} {l0 : Int32} {l1 : Int32} {l2 : Int32} {r : List Value} {t0 t1 : Int32} {w : ex_W} : ex_go X 6 11 [(0, .int l0), (1, .int l1), (2, .int l2)] (.int t0 :: .int t1 :: r) w = ex_go X 6 12 [(0, .int l0), (1, .int l1), (2, .int l2)] (.int (t1 * t0) :: r) w := ex_go_d (by decide +kernel : decode (kC 6) 11 = .ok (.imul, 1)) rfl rfl (ex_tr_n (by decide +kernel))
theorem s6_12 {X : Option (List Int32)} {l0 : Int32} {l1 : Int32} {l2 : Int32} {r : List Value} {t0 t1 : Int32} {w : ex_W} : ex_go X 6 12 [(0, .int l0), (1, .int l1), (2, .int l2)] (.int t0 :: .int t1 :: r) w = ex_go X 6 13 [(0, .int l0), (1, .int l1), (2, .int l2)] (.int (t1 >>> (t0 &&& 31)) :: r) w := ex_go_d (by decide +kernel : decode (kC 6) 12 = .ok (.ishr, 1)) rfl rfl (ex_tr_n (by decide +kernel))
theorem s6_13 {X : Option (List Int32)} {l0 : Int32} {l1 : Int32} {l2 : Int32} {r : List Value} {w : ex_W} : ex_go X 6 13 [(0, .int l0), (1, .int l1), (2, .int l2)] r w = ex_go X 6 16 [(0, .int l0), (1, .int l1), (2, .int l2)] (.int 255 :: r) w := go_sipush (by decide +kernel : decode (kC 6) 13 = .ok (.sipush 255, 3)) (by decide +kernel) (ex_tr_n (by decide +kernel))
theorem s6_16 {X : Option (List Int32)} {l0 : Int32} {l1 : Int32} {l2 : Int32} {r : List Value} {t0 t1 : Int32} {w : ex_W} : ex_go X 6 16 [(0, .int l0), (1, .int l1), (2, .int l2)] (.int t0 :: .int t1 :: r) w = ex_go X 6 17 [(0, .int l0), (1, .int l1), (2, .int l2)] (.int (t1 &&& t0) :: r) w := ex_go_d (by decide +kernel : decode (kC 6) 16 = .ok (.iand, 1)) rfl rfl (ex_tr_n (by decide +kernel))
theorem s6_17 {X : Option (List Int32)} {l0 : Int32} {l1 : Int32} {l2 : Int32} {r : List Value} {t : Int32} {w : ex_W} : ex_go X 6 17 [(0, .int l0), (1, .int l1), (2, .int l2)] (.int t :: r) w = ex_go X 6 18 [(0, .int l0), (1, .int l1), (2, .int l2), (3, .int t)] r w := go_stI (i := 3) (pc1 := 18) (L1 := [(0, .int l0), (1, .int l1), (2, .int l2), (3, .int t)]) (by decide +kernel : decode (kC 6) 17 = .ok (.istore_n 3, 1)) rfl (by decide +kernel) rfl (ex_tr_n (by decide +kernel))
theorem s6_18 {X : Option (List Int32)} {l0 : Int32} {l1 : Int32} {l2 : Int32} {l3 : Int32} {r : List Value} {w : ex_W} : ex_go X 6 18 [(0, .int l0), (1, .int l1), (2, .int l2), (3, .int l3)] r w = ex_go X 6 19 [(0, .int l0), (1, .int l1), (2, .int l2), (3, .int l3)] (.int l3 :: r) w := ex_go_d (by decide +kernel : decode (kC 6) 18 = .ok (.iload_n 3, 1)) rfl rfl (ex_tr_n (by decide +kernel))
theorem s6_19 {X : Option (List Int32)} {l0 : Int32} {l1 : Int32} {l2 : Int32} {l3 : Int32} {r : List Value} {w : ex_W} : ex_go X 6 19 [(0, .int l0), (1, .int l1), (2, .int l2), (3, .int l3)] r w = ex_go X 6 21 [(0, .int l0), (1, .int l1), (2, .int l2), (3, .int l3)] (.int 10 :: r) w := go_bipush (by decide +kernel : decode (kC 6) 19 = .ok (.bipush 10, 2)) (by decide +kernel) (ex_tr_n (by decide +kernel))
theorem s6_21 {X : Option (List Int32)} {l0 : Int32} {l1 : Int32} {l2 : Int32} {l3 : Int32} {r : List Value} {t0 t1 : Int32} {w : ex_W} : ex_go X 6 21 [(0, .int l0), (1, .int l1), (2, .int l2), (3, .int l3)] (.int t0 :: .int t1 :: r) w = if t1 = t0 then ex_go X 6 38 [(0, .int l0), (1, .int l1), (2, .int l2)] r w else ex_go X 6 24 [(0, .int l0), (1, .int l1), (2, .int l2), (3, .int l3)] r w := go_icmp_eq (t := 38) (by decide +kernel : decode (kC 6) 21 = .ok (.if_icmp .eq 17, 3)) (by decide) (ex_tr_k (ks := [0, 1, 2]) (by decide +kernel) rfl) (ex_tr_n (by decide +kernel))
theorem s6_24 {X : Option (List Int32)} {l0 : Int32} {l1 : Int32} {l2 : Int32} {l3 : Int32} {r : List Value} {w : ex_W} : ex_go X 6 24 [(0, .int l0), (1, .int l1), (2, .int l2), (3, .int l3)] r w = ex_go X 6 25 [(0, .int l0), (1, .int l1), (2, .int l2), (3, .int l3)] (.int l3 :: r) w := ex_go_d (by decide +kernel : decode (kC 6) 24 = .ok (.iload_n 3, 1)) rfl rfl (ex_tr_n (by decide +kernel))
theorem s6_25 {X : Option (List Int32)} {l0 : Int32} {l1 : Int32} {l2 : Int32} {l3 : Int32} {r : List Value} {w : ex_W} : ex_go X 6 25 [(0, .int l0), (1, .int l1), (2, .int l2), (3, .int l3)] r w = ex_go X 6 27 [(0, .int l0), (1, .int l1), (2, .int l2), (3, .int l3)] (.int 32 :: r) w := go_bipush (by decide +kernel : decode (kC 6) 25 = .ok (.bipush 32, 2)) (by decide +kernel) (ex_tr_n (by decide +kernel))
theorem s6_27 {X : Option (List Int32)} {l0 : Int32} {l1 : Int32} {l2 : Int32} {l3 : Int32} {r : List Value} {t0 t1 : Int32} {w : ex_W} : ex_go X 6 27 [(0, .int l0), (1, .int l1), (2, .int l2), (3, .int l3)] (.int t0 :: .int t1 :: r) w = if t1 < t0 then ex_go X 6 36 [] r w else ex_go X 6 30 [(0, .int l0), (1, .int l1), (2, .int l2), (3, .int l3)] r w := go_icmp_lt (t := 36) (by decide +kernel : decode (kC 6) 27 = .ok (.if_icmp .lt 9, 3)) (by decide) (ex_tr_k (ks := []) (by decide +kernel) rfl) (ex_tr_n (by decide +kernel))
theorem s6_30 {X : Option (List Int32)} {l0 : Int32} {l1 : Int32} {l2 : Int32} {l3 : Int32} {r : List Value} {w : ex_W} : ex_go X 6 30 [(0, .int l0), (1, .int l1), (2, .int l2), (3, .int l3)] r w = ex_go X 6 31 [(0, .int l0), (1, .int l1), (2, .int l2), (3, .int l3)] (.int l3 :: r) w := ex_go_d (by decide +kernel : decode (kC 6) 30 = .ok (.iload_n 3, 1)) rfl rfl (ex_tr_n (by decide +kernel))
theorem s6_31 {X : Option (List Int32)} {l0 : Int32} {l1 : Int32} {l2 : Int32} {l3 : Int32} {r : List Value} {w : ex_W} : ex_go X 6 31 [(0, .int l0), (1, .int l1), (2, .int l2), (3, .int l3)] r w = ex_go X 6 33 [(0, .int l0), (1, .int l1), (2, .int l2), (3, .int l3)] (.int 126 :: r) w := go_bipush (by decide +kernel : decode (kC 6) 31 = .ok (.bipush 126, 2)) (by decide +kernel) (ex_tr_n (by decide +kernel))
theorem s6_33 {X : Option (List Int32)} {l0 : Int32} {l1 : Int32} {l2 : Int32} {l3 : Int32} {r : List Value} {t0 t1 : Int32} {w : ex_W} : ex_go X 6 33 [(0, .int l0), (1, .int l1), (2, .int l2), (3, .int l3)] (.int t0 :: .int t1 :: r) w = if t1 ≤ t0 then ex_go X 6 38 [(0, .int l0), (1, .int l1), (2, .int l2)] r w else ex_go X 6 36 [] r w := go_icmp_le (t := 38) (by decide +kernel : decode (kC 6) 33 = .ok (.if_icmp .le 5, 3)) (by decide) (ex_tr_k (ks := [0, 1, 2]) (by decide +kernel) rfl) (ex_tr_k (ks := []) (by decide +kernel) rfl)
theorem s6_36 {X : Option (List Int32)} {r : List Value} {w : ex_W} : ex_go X 6 36 [] r w = ex_go X 6 37 [] (.int 0 :: r) w := go_iconst (by decide +kernel : decode (kC 6) 36 = .ok (.iconst 0, 1)) (by decide +kernel) (ex_tr_n (by decide +kernel))
theorem s6_37 {X : Option (List Int32)} {t0 : Int32} {w : ex_W} (hb : t0 = 0 ∨ t0 = 1) : ex_go X 6 37 [] [.int t0] w = some (some (.int t0), w) := go_ireturn (by decide +kernel : decode (kC 6) 37 = .ok (.ireturn, 1)) (by decide +kernel : kR 6 = some .boolean) (ex_nz hb)
theorem s6_38 {X : Option (List Int32)} {l0 : Int32} {l1 : Int32} {l2 : Int32} {r : List Value} {w : ex_W} : ex_go X 6 38 [(0, .int l0), (1, .int l1), (2, .int l2)] r w = ex_go X 6 41 [(0, .int l0), (1, .int l1), (2, .int (l2 + 1))] r w := go_iinc (i := 2) (x := l2) (v := 1) (by decide +kernel : decode (kC 6) 38 = .ok (.iinc 2 1, 3)) rfl rfl (by decide +kernel) (by decide +kernel) rfl (ex_tr_n (by decide +kernel))
theorem s6_41 {X : Option (List Int32)} {l0 : Int32} {l1 : Int32} {l2 : Int32} {r : List Value} {w : ex_W} : ex_go X 6 41 [(0, .int l0), (1, .int l1), (2, .int l2)] r w = ex_go X 6 2 [(0, .int l0), (1, .int l1), (2, .int l2)] r w := go_goto (t := 2) (by decide +kernel : decode (kC 6) 41 = .ok (.goto (-39), 3)) (by decide) (ex_tr_k (ks := [0, 1, 2]) (by decide +kernel) rfl)
theorem s6_44 {X : Option (List Int32)} {r : List Value} {w : ex_W} : ex_go X 6 44 [] r w = ex_go X 6 45 [] (.int 1 :: r) w := go_iconst (by decide +kernel : decode (kC 6) 44 = .ok (.iconst 1, 1)) (by decide +kernel) (ex_tr_n (by decide +kernel))
theorem s6_45 {X : Option (List Int32)} {t0 : Int32} {w : ex_W} (hb : t0 = 0 ∨ t0 = 1) : ex_go X 6 45 [] [.int t0] w = some (some (.int t0), w) := go_ireturn (by decide +kernel : decode (kC 6) 45 = .ok (.ireturn, 1)) (by decide +kernel : kR 6 = some .boolean) (ex_nz hb)
-- ExactLoom.size()I
theorem s8_0 {X : Option (List Int32)} {l0 : Nat} {r : List Value} {w : ex_W} : ex_go X 8 0 [(0, .ref l0)] r w = ex_go X 8 1 [(0, .ref l0)] (.ref l0 :: r) w := ex_go_d (by decide +kernel : decode (kC 8) 0 = .ok (.aload_n 0, 1)) rfl rfl (ex_tr_n (by decide +kernel))
theorem s8_1 {X : Option (List Int32)} {l0 : Nat} {r : List Value} {t0 : Nat} {w : ex_W} (hh : t0 < 1000) : ex_go X 8 1 [(0, .ref l0)] (.ref t0 :: r) w = (ex_gf w t0 0 4).bind (fun v => ex_go X 8 4 [(0, .ref l0)] (v :: r) w) := go_getf (by decide +kernel : decode (kC 8) 1 = .ok (.getfield 38, 3)) (by decide +kernel : kF (kO 8) 38 = some (0, 4, false)) (ex_tr_n (by decide +kernel)) hh
theorem s8_4 {X : Option (List Int32)} {l0 : Nat} {r : List Value} {t0 : Nat} {w : ex_W} (hh : t0 < 1000) : ex_go X 8 4 [(0, .ref l0)] (.ref t0 :: r) w = (ex_gf w t0 2 0).bind (fun v => ex_go X 8 7 [(0, .ref l0)] (v :: r) w) := go_getf (by decide +kernel : decode (kC 8) 4 = .ok (.getfield 80, 3)) (by decide +kernel : kF (kO 8) 80 = some (2, 0, true)) (ex_tr_n (by decide +kernel)) hh
theorem s8_7 {X : Option (List Int32)} {l0 : Nat} {r : List Value} {t0 : Nat} {w : ex_W} (hh : t0 < 1000) : ex_go X 8 7 [(0, .ref l0)] (.ref t0 :: r) w = (ex_gf w t0 1 1).bind (fun v => ex_go X 8 10 [(0, .ref l0)] (v :: r) w) := go_getf (by decide +kernel : decode (kC 8) 7 = .ok (.getfield 52, 3)) (by decide +kernel : kF (kO 8) 52 = some (1, 1, true)) (ex_tr_n (by decide +kernel)) hh
theorem s8_10 {X : Option (List Int32)} {l0 : Nat} {t0 : Int32} {w : ex_W} : ex_go X 8 10 [(0, .ref l0)] [.int t0] w = some (some (.int t0), w) := go_ireturn (by decide +kernel : decode (kC 8) 10 = .ok (.ireturn, 1)) (by decide +kernel : kR 8 = some .int) rfl
-- ExactLoom.byteAt(I)I
theorem s9_0 {X : Option (List Int32)} {l0 : Nat} {l1 : Int32} {r : List Value} {w : ex_W} : ex_go X 9 0 [(0, .ref l0), (1, .int l1)] r w = ex_go X 9 1 [(0, .ref l0), (1, .int l1)] (.ref l0 :: r) w := ex_go_d (by decide +kernel : decode (kC 9) 0 = .ok (.aload_n 0, 1)) rfl rfl (ex_tr_n (by decide +kernel))
theorem s9_1 {X : Option (List Int32)} {l0 : Nat} {l1 : Int32} {r : List Value} {t0 : Nat} {w : ex_W} (hh : t0 < 1000) : ex_go X 9 1 [(0, .ref l0), (1, .int l1)] (.ref t0 :: r) w = (ex_gf w t0 0 4).bind (fun v => ex_go X 9 4 [(0, .ref l0), (1, .int l1)] (v :: r) w) := go_getf (by decide +kernel : decode (kC 9) 1 = .ok (.getfield 38, 3)) (by decide +kernel : kF (kO 9) 38 = some (0, 4, false)) (ex_tr_n (by decide +kernel)) hh
theorem s9_4 {X : Option (List Int32)} {l0 : Nat} {l1 : Int32} {r : List Value} {t0 : Nat} {w : ex_W} (hh : t0 < 1000) : ex_go X 9 4 [(0, .ref l0), (1, .int l1)] (.ref t0 :: r) w = (ex_gf w t0 2 0).bind (fun v => ex_go X 9 7 [(0, .ref l0), (1, .int l1)] (v :: r) w) := go_getf (by decide +kernel : decode (kC 9) 4 = .ok (.getfield 80, 3)) (by decide +kernel : kF (kO 9) 80 = some (2, 0, true)) (ex_tr_n (by decide +kernel)) hh
theorem s9_7 {X : Option (List Int32)} {l0 : Nat} {l1 : Int32} {r : List Value} {w : ex_W} : ex_go X 9 7 [(0, .ref l0), (1, .int l1)] r w = ex_go X 9 8 [(0, .ref l0), (1, .int l1)] (.int l1 :: r) w := ex_go_d (by decide +kernel : decode (kC 9) 7 = .ok (.iload_n 1, 1)) rfl rfl (ex_tr_n (by decide +kernel))
theorem s9_8 {X : Option (List Int32)} {l0 : Nat} {l1 : Int32} {t0 : Int32} {t1 : Nat} {w : ex_W} (hr : ex_rc w t1 1 = true) : ex_go X 9 8 [(0, .ref l0), (1, .int l1)] [.int t0, .ref t1] w = (ex_call X 23 [.ref t1, .int t0] w).bind (fun q => ex_go X 9 11 [(0, .ref l0), (1, .int l1)] (q.1.toList ++ []) q.2) := go_virt (by decide +kernel : decode (kC 9) 8 = .ok (.invokevirtual 83, 3)) (by decide +kernel : kM (kO 9) 83 = some (23, 0)) (ex_pop_i (n := 2) (by decide +kernel) rfl) (ex_lv_i (n1 := 2) (n2 := 0) (by decide +kernel) rfl rfl) (ex_tr_n (by decide +kernel)) (ex_rc_i (by decide +kernel) hr)
theorem s9_11 {X : Option (List Int32)} {l0 : Nat} {l1 : Int32} {t0 : Int32} {w : ex_W} : ex_go X 9 11 [(0, .ref l0), (1, .int l1)] [.int t0] w = some (some (.int t0), w) := go_ireturn (by decide +kernel : decode (kC 9) 11 = .ok (.ireturn, 1)) (by decide +kernel : kR 9 = some .int) rfl
-- ExactLoom.length()I
theorem s10_0 {X : Option (List Int32)} {l0 : Nat} {r : List Value} {w : ex_W} : ex_go X 10 0 [(0, .ref l0)] r w = ex_go X 10 1 [(0, .ref l0)] (.ref l0 :: r) w := ex_go_d (by decide +kernel : decode (kC 10) 0 = .ok (.aload_n 0, 1)) rfl rfl (ex_tr_n (by decide +kernel))
theorem s10_1 {X : Option (List Int32)} {l0 : Nat} {r : List Value} {t0 : Nat} {w : ex_W} (hh : t0 < 1000) : ex_go X 10 1 [(0, .ref l0)] (.ref t0 :: r) w = (ex_gf w t0 0 3).bind (fun v => ex_go X 10 4 [(0, .ref l0)] (v :: r) w) := go_getf (by decide +kernel : decode (kC 10) 1 = .ok (.getfield 31, 3)) (by decide +kernel : kF (kO 10) 31 = some (0, 3, false)) (ex_tr_n (by decide +kernel)) hh
theorem s10_4 {X : Option (List Int32)} {l0 : Nat} {r : List Value} {t0 : Nat} {w : ex_W} (hh : t0 < 1000) : ex_go X 10 4 [(0, .ref l0)] (.ref t0 :: r) w = (ex_gf w t0 6 0).bind (fun v => ex_go X 10 7 [(0, .ref l0)] (v :: r) w) := go_getf (by decide +kernel : decode (kC 10) 4 = .ok (.getfield 67, 3)) (by decide +kernel : kF (kO 10) 67 = some (6, 0, true)) (ex_tr_n (by decide +kernel)) hh
theorem s10_7 {X : Option (List Int32)} {l0 : Nat} {r : List Value} {t0 : Nat} {w : ex_W} (hh : t0 < 1000) : ex_go X 10 7 [(0, .ref l0)] (.ref t0 :: r) w = (ex_gf w t0 1 1).bind (fun v => ex_go X 10 10 [(0, .ref l0)] (v :: r) w) := go_getf (by decide +kernel : decode (kC 10) 7 = .ok (.getfield 52, 3)) (by decide +kernel : kF (kO 10) 52 = some (1, 1, true)) (ex_tr_n (by decide +kernel)) hh
theorem s10_10 {X : Option (List Int32)} {l0 : Nat} {t0 : Int32} {w : ex_W} : ex_go X 10 10 [(0, .ref l0)] [.int t0] w = some (some (.int t0), w) := go_ireturn (by decide +kernel : decode (kC 10) 10 = .ok (.ireturn, 1)) (by decide +kernel : kR 10 = some .int) rfl
-- ExactLoom.at(I)I
theorem s11_0 {X : Option (List Int32)} {l0 : Nat} {l1 : Int32} {r : List Value} {w : ex_W} : ex_go X 11 0 [(0, .ref l0), (1, .int l1)] r w = ex_go X 11 1 [(0, .ref l0), (1, .int l1)] (.ref l0 :: r) w := ex_go_d (by decide +kernel : decode (kC 11) 0 = .ok (.aload_n 0, 1)) rfl rfl (ex_tr_n (by decide +kernel))
theorem s11_1 {X : Option (List Int32)} {l0 : Nat} {l1 : Int32} {r : List Value} {t0 : Nat} {w : ex_W} (hh : t0 < 1000) : ex_go X 11 1 [(0, .ref l0), (1, .int l1)] (.ref t0 :: r) w = (ex_gf w t0 0 3).bind (fun v => ex_go X 11 4 [(0, .ref l0), (1, .int l1)] (v :: r) w) := go_getf (by decide +kernel : decode (kC 11) 1 = .ok (.getfield 31, 3)) (by decide +kernel : kF (kO 11) 31 = some (0, 3, false)) (ex_tr_n (by decide +kernel)) hh
theorem s11_4 {X : Option (List Int32)} {l0 : Nat} {l1 : Int32} {r : List Value} {t0 : Nat} {w : ex_W} (hh : t0 < 1000) : ex_go X 11 4 [(0, .ref l0), (1, .int l1)] (.ref t0 :: r) w = (ex_gf w t0 6 0).bind (fun v => ex_go X 11 7 [(0, .ref l0), (1, .int l1)] (v :: r) w) := go_getf (by decide +kernel : decode (kC 11) 4 = .ok (.getfield 67, 3)) (by decide +kernel : kF (kO 11) 67 = some (6, 0, true)) (ex_tr_n (by decide +kernel)) hh
theorem s11_7 {X : Option (List Int32)} {l0 : Nat} {l1 : Int32} {r : List Value} {w : ex_W} : ex_go X 11 7 [(0, .ref l0), (1, .int l1)] r w = ex_go X 11 8 [(0, .ref l0), (1, .int l1)] (.int l1 :: r) w := ex_go_d (by decide +kernel : decode (kC 11) 7 = .ok (.iload_n 1, 1)) rfl rfl (ex_tr_n (by decide +kernel))
theorem s11_8 {X : Option (List Int32)} {l0 : Nat} {l1 : Int32} {t0 : Int32} {t1 : Nat} {w : ex_W} (hr : ex_rc w t1 1 = true) : ex_go X 11 8 [(0, .ref l0), (1, .int l1)] [.int t0, .ref t1] w = (ex_call X 23 [.ref t1, .int t0] w).bind (fun q => ex_go X 11 11 [(0, .ref l0), (1, .int l1)] (q.1.toList ++ []) q.2) := go_virt (by decide +kernel : decode (kC 11) 8 = .ok (.invokevirtual 83, 3)) (by decide +kernel : kM (kO 11) 83 = some (23, 0)) (ex_pop_i (n := 2) (by decide +kernel) rfl) (ex_lv_i (n1 := 2) (n2 := 0) (by decide +kernel) rfl rfl) (ex_tr_n (by decide +kernel)) (ex_rc_i (by decide +kernel) hr)
theorem s11_11 {X : Option (List Int32)} {l0 : Nat} {l1 : Int32} {t0 : Int32} {w : ex_W} : ex_go X 11 11 [(0, .ref l0), (1, .int l1)] [.int t0] w = some (some (.int t0), w) := go_ireturn (by decide +kernel : decode (kC 11) 11 = .ok (.ireturn, 1)) (by decide +kernel : kR 11 = some .int) rfl
-- ExactLoom.count(I)I
theorem s12_0 {X : Option (List Int32)} {l0 : Nat} {l1 : Int32} {r : List Value} {w : ex_W} : ex_go X 12 0 [(0, .ref l0), (1, .int l1)] r w = ex_go X 12 1 [(0, .ref l0), (1, .int l1)] (.int l1 :: r) w := ex_go_d (by decide +kernel : decode (kC 12) 0 = .ok (.iload_n 1, 1)) rfl rfl (ex_tr_n (by decide +kernel))
theorem s12_1 {X : Option (List Int32)} {l0 : Nat} {l1 : Int32} {r : List Value} {t0 : Int32} {w : ex_W} : ex_go X 12 1 [(0, .ref l0), (1, .int l1)] (.int t0 :: r) w = if t0 < 0 then ex_go X 12 9 [] r w else ex_go X 12 4 [(0, .ref l0), (1, .int l1)] r w := go_if_lt (t := 9) (by decide +kernel : decode (kC 12) 1 = .ok (.ifCond .lt 8, 3)) (by decide) (ex_tr_k (ks := []) (by decide +kernel) rfl) (ex_tr_n (by decide +kernel))
theorem s12_4 {X : Option (List Int32)} {l0 : Nat} {l1 : Int32} {r : List Value} {w : ex_W} : ex_go X 12 4 [(0, .ref l0), (1, .int l1)] r w = ex_go X 12 5 [(0, .ref l0), (1, .int l1)] (.int l1 :: r) w := ex_go_d (by decide +kernel : decode (kC 12) 4 = .ok (.iload_n 1, 1)) rfl rfl (ex_tr_n (by decide +kernel))
theorem s12_5 {X : Option (List Int32)} {l0 : Nat} {l1 : Int32} {r : List Value} {w : ex_W} : ex_go X 12 5 [(0, .ref l0), (1, .int l1)] r w = ex_go X 12 6 [(0, .ref l0), (1, .int l1)] (.int 4 :: r) w := go_iconst (by decide +kernel : decode (kC 12) 5 = .ok (.iconst 4, 1)) (by decide +kernel) (ex_tr_n (by decide +kernel))
theorem s12_6 {X : Option (List Int32)} {l0 : Nat} {l1 : Int32} {r : List Value} {t0 t1 : Int32} {w : ex_W} : ex_go X 12 6 [(0, .ref l0), (1, .int l1)] (.int t0 :: .int t1 :: r) w = if t1 < t0 then ex_go X 12 13 [(0, .ref l0), (1, .int l1)] r w else ex_go X 12 9 [] r w := go_icmp_lt (t := 13) (by decide +kernel : decode (kC 12) 6 = .ok (.if_icmp .lt 7, 3)) (by decide) (ex_tr_k (ks := [0, 1]) (by decide +kernel) rfl) (ex_tr_k (ks := []) (by decide +kernel) rfl)
theorem s12_9 {X : Option (List Int32)} {r : List Value} {w : ex_W} : ex_go X 12 9 [] r w = ex_go X 12 10 [] (.int (-1) :: r) w := go_iconst (by decide +kernel : decode (kC 12) 9 = .ok (.iconst (-1), 1)) (by decide +kernel) (ex_tr_n (by decide +kernel))
theorem s12_10 {X : Option (List Int32)} {r : List Value} {w : ex_W} : ex_go X 12 10 [] r w = ex_go X 12 21 [] r w := go_goto (t := 21) (by decide +kernel : decode (kC 12) 10 = .ok (.goto 11, 3)) (by decide) (ex_tr_k (ks := []) (by decide +kernel) rfl)
theorem s12_13 {X : Option (List Int32)} {l0 : Nat} {l1 : Int32} {r : List Value} {w : ex_W} : ex_go X 12 13 [(0, .ref l0), (1, .int l1)] r w = ex_go X 12 14 [(0, .ref l0), (1, .int l1)] (.ref l0 :: r) w := ex_go_d (by decide +kernel : decode (kC 12) 13 = .ok (.aload_n 0, 1)) rfl rfl (ex_tr_n (by decide +kernel))
theorem s12_14 {X : Option (List Int32)} {l0 : Nat} {l1 : Int32} {r : List Value} {t0 : Nat} {w : ex_W} (hh : t0 < 1000) : ex_go X 12 14 [(0, .ref l0), (1, .int l1)] (.ref t0 :: r) w = (ex_gf w t0 0 4).bind (fun v => ex_go X 12 17 [(0, .ref l0), (1, .int l1)] (v :: r) w) := go_getf (by decide +kernel : decode (kC 12) 14 = .ok (.getfield 38, 3)) (by decide +kernel : kF (kO 12) 38 = some (0, 4, false)) (ex_tr_n (by decide +kernel)) hh
theorem s12_17 {X : Option (List Int32)} {l0 : Nat} {l1 : Int32} {r : List Value} {w : ex_W} : ex_go X 12 17 [(0, .ref l0), (1, .int l1)] r w = ex_go X 12 18 [(0, .ref l0), (1, .int l1)] (.int l1 :: r) w := ex_go_d (by decide +kernel : decode (kC 12) 17 = .ok (.iload_n 1, 1)) rfl rfl (ex_tr_n (by decide +kernel))
theorem s12_18 {X : Option (List Int32)} {l0 : Nat} {l1 : Int32} {t0 : Int32} {t1 : Nat} {w : ex_W} (hr : ex_rc w t1 2 = true) : ex_go X 12 18 [(0, .ref l0), (1, .int l1)] [.int t0, .ref t1] w = (ex_call X 31 [.ref t1, .int t0] w).bind (fun q => ex_go X 12 21 [] (q.1.toList ++ []) q.2) := go_virt (by decide +kernel : decode (kC 12) 18 = .ok (.invokevirtual 87, 3)) (by decide +kernel : kM (kO 12) 87 = some (31, 0)) (ex_pop_i (n := 2) (by decide +kernel) rfl) (ex_lv_i (n1 := 2) (n2 := 0) (by decide +kernel) rfl rfl) (ex_tr_k (ks := []) (by decide +kernel) rfl) (ex_rc_i (by decide +kernel) hr)
theorem s12_21 {X : Option (List Int32)} {t0 : Int32} {w : ex_W} : ex_go X 12 21 [] [.int t0] w = some (some (.int t0), w) := go_ireturn (by decide +kernel : decode (kC 12) 21 = .ok (.ireturn, 1)) (by decide +kernel : kR 12 = some .int) rfl
-- ExactLoom.clear(I)I
theorem s13_0 {X : Option (List Int32)} {l0 : Nat} {l1 : Int32} {r : List Value} {w : ex_W} : ex_go X 13 0 [(0, .ref l0), (1, .int l1)] r w = ex_go X 13 1 [(0, .ref l0), (1, .int l1)] (.int l1 :: r) w := ex_go_d (by decide +kernel : decode (kC 13) 0 = .ok (.iload_n 1, 1)) rfl rfl (ex_tr_n (by decide +kernel))
theorem s13_1 {X : Option (List Int32)} {l0 : Nat} {l1 : Int32} {r : List Value} {t0 : Int32} {w : ex_W} : ex_go X 13 1 [(0, .ref l0), (1, .int l1)] (.int t0 :: r) w = if t0 < 0 then ex_go X 13 16 [] r w else ex_go X 13 4 [(0, .ref l0), (1, .int l1)] r w := go_if_lt (t := 16) (by decide +kernel : decode (kC 13) 1 = .ok (.ifCond .lt 15, 3)) (by decide) (ex_tr_k (ks := []) (by decide +kernel) rfl) (ex_tr_n (by decide +kernel))
theorem s13_4 {X : Option (List Int32)} {l0 : Nat} {l1 : Int32} {r : List Value} {w : ex_W} : ex_go X 13 4 [(0, .ref l0), (1, .int l1)] r w = ex_go X 13 5 [(0, .ref l0), (1, .int l1)] (.int l1 :: r) w := ex_go_d (by decide +kernel : decode (kC 13) 4 = .ok (.iload_n 1, 1)) rfl rfl (ex_tr_n (by decide +kernel))
theorem s13_5 {X : Option (List Int32)} {l0 : Nat} {l1 : Int32} {r : List Value} {w : ex_W} : ex_go X 13 5 [(0, .ref l0), (1, .int l1)] r w = ex_go X 13 6 [(0, .ref l0), (1, .int l1)] (.ref l0 :: r) w := ex_go_d (by decide +kernel : decode (kC 13) 5 = .ok (.aload_n 0, 1)) rfl rfl (ex_tr_n (by decide +kernel))
theorem s13_6 {X : Option (List Int32)} {l0 : Nat} {l1 : Int32} {r : List Value} {t0 : Nat} {w : ex_W} (hh : t0 < 1000) : ex_go X 13 6 [(0, .ref l0), (1, .int l1)] (.ref t0 :: r) w = (ex_gf w t0 0 4).bind (fun v => ex_go X 13 9 [(0, .ref l0), (1, .int l1)] (v :: r) w) := go_getf (by decide +kernel : decode (kC 13) 6 = .ok (.getfield 38, 3)) (by decide +kernel : kF (kO 13) 38 = some (0, 4, false)) (ex_tr_n (by decide +kernel)) hh
theorem s13_9 {X : Option (List Int32)} {l0 : Nat} {l1 : Int32} {r : List Value} {w : ex_W} : ex_go X 13 9 [(0, .ref l0), (1, .int l1)] r w = ex_go X 13 10 [(0, .ref l0), (1, .int l1)] (.int 2 :: r) w := go_iconst (by decide +kernel : decode (kC 13) 9 = .ok (.iconst 2, 1)) (by decide +kernel) (ex_tr_n (by decide +kernel))
theorem s13_10 {X : Option (List Int32)} {l0 : Nat} {l1 : Int32} {t0 : Int32} {t1 : Nat} {t2 : Int32} {w : ex_W} (hr : ex_rc w t1 2 = true) : ex_go X 13 10 [(0, .ref l0), (1, .int l1)] [.int t0, .ref t1, .int t2] w = (ex_call X 31 [.ref t1, .int t0] w).bind (fun q => ex_go X 13 13 [(0, .ref l0), (1, .int l1)] (q.1.toList ++ [.int t2]) q.2) := go_virt (by decide +kernel : decode (kC 13) 10 = .ok (.invokevirtual 87, 3)) (by decide +kernel : kM (kO 13) 87 = some (31, 0)) (ex_pop_i (n := 2) (by decide +kernel) rfl) (ex_lv_i (n1 := 2) (n2 := 1) (by decide +kernel) rfl rfl) (ex_tr_n (by decide +kernel)) (ex_rc_i (by decide +kernel) hr)
theorem s13_13 {X : Option (List Int32)} {l0 : Nat} {l1 : Int32} {r : List Value} {t0 t1 : Int32} {w : ex_W} : ex_go X 13 13 [(0, .ref l0), (1, .int l1)] (.int t0 :: .int t1 :: r) w = if t1 < t0 then ex_go X 13 18 [(0, .ref l0), (1, .int l1)] r w else ex_go X 13 16 [] r w := go_icmp_lt (t := 18) (by decide +kernel : decode (kC 13) 13 = .ok (.if_icmp .lt 5, 3)) (by decide) (ex_tr_k (ks := [0, 1]) (by decide +kernel) rfl) (ex_tr_k (ks := []) (by decide +kernel) rfl)
theorem s13_16 {X : Option (List Int32)} {r : List Value} {w : ex_W} : ex_go X 13 16 [] r w = ex_go X 13 17 [] (.int (-1) :: r) w := go_iconst (by decide +kernel : decode (kC 13) 16 = .ok (.iconst (-1), 1)) (by decide +kernel) (ex_tr_n (by decide +kernel))
theorem s13_17 {X : Option (List Int32)} {t0 : Int32} {w : ex_W} : ex_go X 13 17 [] [.int t0] w = some (some (.int t0), w) := go_ireturn (by decide +kernel : decode (kC 13) 17 = .ok (.ireturn, 1)) (by decide +kernel : kR 13 = some .int) rfl
theorem s13_18 {X : Option (List Int32)} {l0 : Nat} {l1 : Int32} {r : List Value} {w : ex_W} : ex_go X 13 18 [(0, .ref l0), (1, .int l1)] r w = ex_go X 13 19 [(0, .ref l0), (1, .int l1)] (.ref l0 :: r) w := ex_go_d (by decide +kernel : decode (kC 13) 18 = .ok (.aload_n 0, 1)) rfl rfl (ex_tr_n (by decide +kernel))
theorem s13_19 {X : Option (List Int32)} {l0 : Nat} {l1 : Int32} {r : List Value} {t0 : Nat} {w : ex_W} (hh : t0 < 1000) : ex_go X 13 19 [(0, .ref l0), (1, .int l1)] (.ref t0 :: r) w = (ex_gf w t0 0 4).bind (fun v => ex_go X 13 22 [(0, .ref l0), (1, .int l1)] (v :: r) w) := go_getf (by decide +kernel : decode (kC 13) 19 = .ok (.getfield 38, 3)) (by decide +kernel : kF (kO 13) 38 = some (0, 4, false)) (ex_tr_n (by decide +kernel)) hh
theorem s13_22 {X : Option (List Int32)} {l0 : Nat} {l1 : Int32} {r : List Value} {w : ex_W} : ex_go X 13 22 [(0, .ref l0), (1, .int l1)] r w = ex_go X 13 23 [(0, .ref l0), (1, .int l1)] (.ref l0 :: r) w := ex_go_d (by decide +kernel : decode (kC 13) 22 = .ok (.aload_n 0, 1)) rfl rfl (ex_tr_n (by decide +kernel))
theorem s13_23 {X : Option (List Int32)} {l0 : Nat} {l1 : Int32} {r : List Value} {t0 : Nat} {w : ex_W} (hh : t0 < 1000) : ex_go X 13 23 [(0, .ref l0), (1, .int l1)] (.ref t0 :: r) w = (ex_gf w t0 0 4).bind (fun v => ex_go X 13 26 [(0, .ref l0), (1, .int l1)] (v :: r) w) := go_getf (by decide +kernel : decode (kC 13) 23 = .ok (.getfield 38, 3)) (by decide +kernel : kF (kO 13) 38 = some (0, 4, false)) (ex_tr_n (by decide +kernel)) hh
theorem s13_26 {X : Option (List Int32)} {l0 : Nat} {l1 : Int32} {r : List Value} {w : ex_W} : ex_go X 13 26 [(0, .ref l0), (1, .int l1)] r w = ex_go X 13 27 [(0, .ref l0), (1, .int l1)] (.int l1 :: r) w := ex_go_d (by decide +kernel : decode (kC 13) 26 = .ok (.iload_n 1, 1)) rfl rfl (ex_tr_n (by decide +kernel))
theorem s13_27 {X : Option (List Int32)} {l0 : Nat} {l1 : Int32} {t0 : Int32} {t1 : Nat} {t2 : Nat} {w : ex_W} (hr : ex_rc w t1 2 = true) : ex_go X 13 27 [(0, .ref l0), (1, .int l1)] [.int t0, .ref t1, .ref t2] w = (ex_call X 34 [.ref t1, .int t0] w).bind (fun q => ex_go X 13 30 [(0, .ref l0), (1, .int l1)] (q.1.toList ++ [.ref t2]) q.2) := go_virt (by decide +kernel : decode (kC 13) 27 = .ok (.invokevirtual 90, 3)) (by decide +kernel : kM (kO 13) 90 = some (34, 0)) (ex_pop_i (n := 2) (by decide +kernel) rfl) (ex_lv_i (n1 := 2) (n2 := 1) (by decide +kernel) rfl rfl) (ex_tr_n (by decide +kernel)) (ex_rc_i (by decide +kernel) hr)
theorem s13_30 {X : Option (List Int32)} {l0 : Nat} {l1 : Int32} {t0 : Int32} {t1 : Nat} {w : ex_W} (hr : ex_rc w t1 2 = true) : ex_go X 13 30 [(0, .ref l0), (1, .int l1)] [.int t0, .ref t1] w = (ex_call X 33 [.ref t1, .int t0] w).bind (fun q => ex_go X 13 33 [(0, .ref l0), (1, .int l1)] (q.1.toList ++ []) q.2) := go_virt (by decide +kernel : decode (kC 13) 30 = .ok (.invokevirtual 93, 3)) (by decide +kernel : kM (kO 13) 93 = some (33, 0)) (ex_pop_i (n := 2) (by decide +kernel) rfl) (ex_lv_i (n1 := 2) (n2 := 0) (by decide +kernel) rfl rfl) (ex_tr_n (by decide +kernel)) (ex_rc_i (by decide +kernel) hr)
theorem s13_33 {X : Option (List Int32)} {l0 : Nat} {l1 : Int32} {r : List Value} {t0 : Int32} {w : ex_W} : ex_go X 13 33 [(0, .ref l0), (1, .int l1)] (.int t0 :: r) w = if t0 = 0 then ex_go X 13 40 [] r w else ex_go X 13 36 [(0, .ref l0), (1, .int l1)] r w := go_if_eq (t := 40) (by decide +kernel : decode (kC 13) 33 = .ok (.ifCond .eq 7, 3)) (by decide) (ex_tr_k (ks := []) (by decide +kernel) rfl) (ex_tr_n (by decide +kernel))
theorem s13_36 {X : Option (List Int32)} {l0 : Nat} {l1 : Int32} {r : List Value} {w : ex_W} : ex_go X 13 36 [(0, .ref l0), (1, .int l1)] r w = ex_go X 13 37 [(0, .ref l0), (1, .int l1)] (.int 1 :: r) w := go_iconst (by decide +kernel : decode (kC 13) 36 = .ok (.iconst 1, 1)) (by decide +kernel) (ex_tr_n (by decide +kernel))
theorem s13_37 {X : Option (List Int32)} {l0 : Nat} {l1 : Int32} {r : List Value} {w : ex_W} : ex_go X 13 37 [(0, .ref l0), (1, .int l1)] r w = ex_go X 13 41 [] r w := go_goto (t := 41) (by decide +kernel : decode (kC 13) 37 = .ok (.goto 4, 3)) (by decide) (ex_tr_k (ks := []) (by decide +kernel) rfl)
theorem s13_40 {X : Option (List Int32)} {r : List Value} {w : ex_W} : ex_go X 13 40 [] r w = ex_go X 13 41 [] (.int 0 :: r) w := go_iconst (by decide +kernel : decode (kC 13) 40 = .ok (.iconst 0, 1)) (by decide +kernel) (ex_tr_k (ks := []) (by decide +kernel) rfl)
theorem s13_41 {X : Option (List Int32)} {t0 : Int32} {w : ex_W} : ex_go X 13 41 [] [.int t0] w = some (some (.int t0), w) := go_ireturn (by decide +kernel : decode (kC 13) 41 = .ok (.ireturn, 1)) (by decide +kernel : kR 13 = some .int) rfl
-- ExactLoom_Row.empty()V
theorem s16_0 {X : Option (List Int32)} {l0 : Nat} {r : List Value} {w : ex_W} : ex_go X 16 0 [(0, .ref l0)] r w = ex_go X 16 1 [(0, .ref l0)] (.ref l0 :: r) w := ex_go_d (by decide +kernel : decode (kC 16) 0 = .ok (.aload_n 0, 1)) rfl rfl (ex_tr_n (by decide +kernel))
theorem s16_1 {X : Option (List Int32)} {l0 : Nat} {r : List Value} {w : ex_W} : ex_go X 16 1 [(0, .ref l0)] r w = ex_go X 16 2 [(0, .ref l0)] (.int 0 :: r) w := go_iconst (by decide +kernel : decode (kC 16) 1 = .ok (.iconst 0, 1)) (by decide +kernel) (ex_tr_n (by decide +kernel))
theorem s16_2 {X : Option (List Int32)} {l0 : Nat} {r : List Value} {t0 : Int32} {t1 : Nat} {w : ex_W} (hh : t1 < 1000) : ex_go X 16 2 [(0, .ref l0)] (.int t0 :: .ref t1 :: r) w = (ex_pf w t1 1 1 (.int t0)).bind (fun w1 => ex_go X 16 5 [(0, .ref l0)] r w1) := go_putf (by decide +kernel : decode (kC 16) 2 = .ok (.putfield 15, 3)) (by decide +kernel : kF (kO 16) 15 = some (1, 1, false)) (ex_plainI (by decide +kernel : kT 1 1 = .int) (by decide +kernel)) (ex_tr_n (by decide +kernel)) hh
theorem s16_5 {X : Option (List Int32)} {l0 : Nat} {w : ex_W} : ex_go X 16 5 [(0, .ref l0)] [] w = some (none, w) := go_return (by decide +kernel : decode (kC 16) 5 = .ok (.return_, 1)) (by decide +kernel)
-- ExactLoom_Row.append(I)V
theorem s17_0 {X : Option (List Int32)} {l0 : Nat} {l1 : Int32} {r : List Value} {w : ex_W} : ex_go X 17 0 [(0, .ref l0), (1, .int l1)] r w = ex_go X 17 1 [(0, .ref l0), (1, .int l1)] (.ref l0 :: r) w := ex_go_d (by decide +kernel : decode (kC 17) 0 = .ok (.aload_n 0, 1)) rfl rfl (ex_tr_n (by decide +kernel))
theorem s17_1 {X : Option (List Int32)} {l0 : Nat} {l1 : Int32} {r : List Value} {t0 : Nat} {w : ex_W} (hh : t0 < 1000) : ex_go X 17 1 [(0, .ref l0), (1, .int l1)] (.ref t0 :: r) w = (ex_gf w t0 1 1).bind (fun v => ex_go X 17 4 [(0, .ref l0), (1, .int l1)] (v :: r) w) := go_getf (by decide +kernel : decode (kC 17) 1 = .ok (.getfield 15, 3)) (by decide +kernel : kF (kO 17) 15 = some (1, 1, false)) (ex_tr_n (by decide +kernel)) hh
theorem s17_4 {X : Option (List Int32)} {l0 : Nat} {l1 : Int32} {r : List Value} {w : ex_W} : ex_go X 17 4 [(0, .ref l0), (1, .int l1)] r w = ex_go X 17 5 [(0, .ref l0), (1, .int l1)] (.ref l0 :: r) w := ex_go_d (by decide +kernel : decode (kC 17) 4 = .ok (.aload_n 0, 1)) rfl rfl (ex_tr_n (by decide +kernel))
theorem s17_5 {X : Option (List Int32)} {l0 : Nat} {l1 : Int32} {r : List Value} {t0 : Nat} {w : ex_W} (hh : t0 < 1000) : ex_go X 17 5 [(0, .ref l0), (1, .int l1)] (.ref t0 :: r) w = (ex_gf w t0 1 0).bind (fun v => ex_go X 17 8 [(0, .ref l0), (1, .int l1)] (v :: r) w) := go_getf (by decide +kernel : decode (kC 17) 5 = .ok (.getfield 9, 3)) (by decide +kernel : kF (kO 17) 9 = some (1, 0, false)) (ex_tr_n (by decide +kernel)) hh
theorem s17_8 {X : Option (List Int32)} {l0 : Nat} {l1 : Int32} {r : List Value} {t0 : Nat} {w : ex_W} (hh : t0 < 1000) : ex_go X 17 8 [(0, .ref l0), (1, .int l1)] (.ref t0 :: r) w = (ex_an w t0).bind (fun v => ex_go X 17 9 [(0, .ref l0), (1, .int l1)] (.int v :: r) w) := go_alen (by decide +kernel : decode (kC 17) 8 = .ok (.arraylength, 1)) (ex_tr_n (by decide +kernel)) hh
theorem s17_9 {X : Option (List Int32)} {l0 : Nat} {l1 : Int32} {r : List Value} {t0 t1 : Int32} {w : ex_W} : ex_go X 17 9 [(0, .ref l0), (1, .int l1)] (.int t0 :: .int t1 :: r) w = if t0 ≤ t1 then ex_go X 17 32 [] r w else ex_go X 17 12 [(0, .ref l0), (1, .int l1)] r w := go_icmp_ge (t := 32) (by decide +kernel : decode (kC 17) 9 = .ok (.if_icmp .ge 23, 3)) (by decide) (ex_tr_k (ks := []) (by decide +kernel) rfl) (ex_tr_n (by decide +kernel))
theorem s17_12 {X : Option (List Int32)} {l0 : Nat} {l1 : Int32} {r : List Value} {w : ex_W} : ex_go X 17 12 [(0, .ref l0), (1, .int l1)] r w = ex_go X 17 13 [(0, .ref l0), (1, .int l1)] (.ref l0 :: r) w := ex_go_d (by decide +kernel : decode (kC 17) 12 = .ok (.aload_n 0, 1)) rfl rfl (ex_tr_n (by decide +kernel))
theorem s17_13 {X : Option (List Int32)} {l0 : Nat} {l1 : Int32} {r : List Value} {t0 : Nat} {w : ex_W} (hh : t0 < 1000) : ex_go X 17 13 [(0, .ref l0), (1, .int l1)] (.ref t0 :: r) w = (ex_gf w t0 1 0).bind (fun v => ex_go X 17 16 [(0, .ref l0), (1, .int l1)] (v :: r) w) := go_getf (by decide +kernel : decode (kC 17) 13 = .ok (.getfield 9, 3)) (by decide +kernel : kF (kO 17) 9 = some (1, 0, false)) (ex_tr_n (by decide +kernel)) hh
theorem s17_16 {X : Option (List Int32)} {l0 : Nat} {l1 : Int32} {r : List Value} {w : ex_W} : ex_go X 17 16 [(0, .ref l0), (1, .int l1)] r w = ex_go X 17 17 [(0, .ref l0), (1, .int l1)] (.ref l0 :: r) w := ex_go_d (by decide +kernel : decode (kC 17) 16 = .ok (.aload_n 0, 1)) rfl rfl (ex_tr_n (by decide +kernel))
theorem s17_17 {X : Option (List Int32)} {l0 : Nat} {l1 : Int32} {r : List Value} {t0 : Nat} {w : ex_W} (hh : t0 < 1000) : ex_go X 17 17 [(0, .ref l0), (1, .int l1)] (.ref t0 :: r) w = (ex_gf w t0 1 1).bind (fun v => ex_go X 17 20 [(0, .ref l0), (1, .int l1)] (v :: r) w) := go_getf (by decide +kernel : decode (kC 17) 17 = .ok (.getfield 15, 3)) (by decide +kernel : kF (kO 17) 15 = some (1, 1, false)) (ex_tr_n (by decide +kernel)) hh
theorem s17_20 {X : Option (List Int32)} {l0 : Nat} {l1 : Int32} {r : List Value} {w : ex_W} : ex_go X 17 20 [(0, .ref l0), (1, .int l1)] r w = ex_go X 17 21 [(0, .ref l0), (1, .int l1)] (.int l1 :: r) w := ex_go_d (by decide +kernel : decode (kC 17) 20 = .ok (.iload_n 1, 1)) rfl rfl (ex_tr_n (by decide +kernel))
theorem s17_21 {X : Option (List Int32)} {l0 : Nat} {l1 : Int32} {r : List Value} {t0 t1 : Int32} {t2 : Nat} {w : ex_W} (hh : t2 < 1000) : ex_go X 17 21 [(0, .ref l0), (1, .int l1)] (.int t0 :: .int t1 :: .ref t2 :: r) w = (ex_as w t2 0 t1 t0).bind (fun w1 => ex_go X 17 22 [(0, .ref l0), (1, .int l1)] r w1) := go_iast (by decide +kernel : decode (kC 17) 21 = .ok (.iastore, 1)) (ex_tr_n (by decide +kernel)) hh
theorem s17_22 {X : Option (List Int32)} {l0 : Nat} {l1 : Int32} {r : List Value} {w : ex_W} : ex_go X 17 22 [(0, .ref l0), (1, .int l1)] r w = ex_go X 17 23 [(0, .ref l0), (1, .int l1)] (.ref l0 :: r) w := ex_go_d (by decide +kernel : decode (kC 17) 22 = .ok (.aload_n 0, 1)) rfl rfl (ex_tr_n (by decide +kernel))
theorem s17_23 {X : Option (List Int32)} {l0 : Nat} {l1 : Int32} {r : List Value} {t0 : Nat} {w : ex_W} : ex_go X 17 23 [(0, .ref l0), (1, .int l1)] (.ref t0 :: r) w = ex_go X 17 24 [(0, .ref l0), (1, .int l1)] (.ref t0 :: .ref t0 :: r) w := ex_go_d (by decide +kernel : decode (kC 17) 23 = .ok (.dup, 1)) rfl rfl (ex_tr_n (by decide +kernel))
theorem s17_24 {X : Option (List Int32)} {l0 : Nat} {l1 : Int32} {r : List Value} {t0 : Nat} {w : ex_W} (hh : t0 < 1000) : ex_go X 17 24 [(0, .ref l0), (1, .int l1)] (.ref t0 :: r) w = (ex_gf w t0 1 1).bind (fun v => ex_go X 17 27 [(0, .ref l0), (1, .int l1)] (v :: r) w) := go_getf (by decide +kernel : decode (kC 17) 24 = .ok (.getfield 15, 3)) (by decide +kernel : kF (kO 17) 15 = some (1, 1, false)) (ex_tr_n (by decide +kernel)) hh
theorem s17_27 {X : Option (List Int32)} {l0 : Nat} {l1 : Int32} {r : List Value} {w : ex_W} : ex_go X 17 27 [(0, .ref l0), (1, .int l1)] r w = ex_go X 17 28 [(0, .ref l0), (1, .int l1)] (.int 1 :: r) w := go_iconst (by decide +kernel : decode (kC 17) 27 = .ok (.iconst 1, 1)) (by decide +kernel) (ex_tr_n (by decide +kernel))
theorem s17_28 {X : Option (List Int32)} {l0 : Nat} {l1 : Int32} {r : List Value} {t0 t1 : Int32} {w : ex_W} : ex_go X 17 28 [(0, .ref l0), (1, .int l1)] (.int t0 :: .int t1 :: r) w = ex_go X 17 29 [(0, .ref l0), (1, .int l1)] (.int (t1 + t0) :: r) w := ex_go_d (by decide +kernel : decode (kC 17) 28 = .ok (.iadd, 1)) rfl rfl (ex_tr_n (by decide +kernel))
theorem s17_29 {X : Option (List Int32)} {l0 : Nat} {l1 : Int32} {r : List Value} {t0 : Int32} {t1 : Nat} {w : ex_W} (hh : t1 < 1000) : ex_go X 17 29 [(0, .ref l0), (1, .int l1)] (.int t0 :: .ref t1 :: r) w = (ex_pf w t1 1 1 (.int t0)).bind (fun w1 => ex_go X 17 32 [] r w1) := go_putf (by decide +kernel : decode (kC 17) 29 = .ok (.putfield 15, 3)) (by decide +kernel : kF (kO 17) 15 = some (1, 1, false)) (ex_plainI (by decide +kernel : kT 1 1 = .int) (by decide +kernel)) (ex_tr_k (ks := []) (by decide +kernel) rfl) hh
theorem s17_32 {X : Option (List Int32)}  {w : ex_W} : ex_go X 17 32 [] [] w = some (none, w) := go_return (by decide +kernel : decode (kC 17) 32 = .ok (.return_, 1)) (by decide +kernel)
-- ExactLoom_Row.cell(I)I
theorem s18_0 {X : Option (List Int32)} {l0 : Nat} {l1 : Int32} {r : List Value} {w : ex_W} : ex_go X 18 0 [(0, .ref l0), (1, .int l1)] r w = ex_go X 18 1 [(0, .ref l0), (1, .int l1)] (.int l1 :: r) w := ex_go_d (by decide +kernel : decode (kC 18) 0 = .ok (.iload_n 1, 1)) rfl rfl (ex_tr_n (by decide +kernel))
theorem s18_1 {X : Option (List Int32)} {l0 : Nat} {l1 : Int32} {r : List Value} {t0 : Int32} {w : ex_W} : ex_go X 18 1 [(0, .ref l0), (1, .int l1)] (.int t0 :: r) w = if t0 < 0 then ex_go X 18 12 [] r w else ex_go X 18 4 [(0, .ref l0), (1, .int l1)] r w := go_if_lt (t := 12) (by decide +kernel : decode (kC 18) 1 = .ok (.ifCond .lt 11, 3)) (by decide) (ex_tr_k (ks := []) (by decide +kernel) rfl) (ex_tr_n (by decide +kernel))
theorem s18_4 {X : Option (List Int32)} {l0 : Nat} {l1 : Int32} {r : List Value} {w : ex_W} : ex_go X 18 4 [(0, .ref l0), (1, .int l1)] r w = ex_go X 18 5 [(0, .ref l0), (1, .int l1)] (.int l1 :: r) w := ex_go_d (by decide +kernel : decode (kC 18) 4 = .ok (.iload_n 1, 1)) rfl rfl (ex_tr_n (by decide +kernel))
theorem s18_5 {X : Option (List Int32)} {l0 : Nat} {l1 : Int32} {r : List Value} {w : ex_W} : ex_go X 18 5 [(0, .ref l0), (1, .int l1)] r w = ex_go X 18 6 [(0, .ref l0), (1, .int l1)] (.ref l0 :: r) w := ex_go_d (by decide +kernel : decode (kC 18) 5 = .ok (.aload_n 0, 1)) rfl rfl (ex_tr_n (by decide +kernel))
theorem s18_6 {X : Option (List Int32)} {l0 : Nat} {l1 : Int32} {r : List Value} {t0 : Nat} {w : ex_W} (hh : t0 < 1000) : ex_go X 18 6 [(0, .ref l0), (1, .int l1)] (.ref t0 :: r) w = (ex_gf w t0 1 1).bind (fun v => ex_go X 18 9 [(0, .ref l0), (1, .int l1)] (v :: r) w) := go_getf (by decide +kernel : decode (kC 18) 6 = .ok (.getfield 15, 3)) (by decide +kernel : kF (kO 18) 15 = some (1, 1, false)) (ex_tr_n (by decide +kernel)) hh
theorem s18_9 {X : Option (List Int32)} {l0 : Nat} {l1 : Int32} {r : List Value} {t0 t1 : Int32} {w : ex_W} : ex_go X 18 9 [(0, .ref l0), (1, .int l1)] (.int t0 :: .int t1 :: r) w = if t1 < t0 then ex_go X 18 16 [(0, .ref l0), (1, .int l1)] r w else ex_go X 18 12 [] r w := go_icmp_lt (t := 16) (by decide +kernel : decode (kC 18) 9 = .ok (.if_icmp .lt 7, 3)) (by decide) (ex_tr_k (ks := [0, 1]) (by decide +kernel) rfl) (ex_tr_k (ks := []) (by decide +kernel) rfl)
theorem s18_12 {X : Option (List Int32)} {r : List Value} {w : ex_W} : ex_go X 18 12 [] r w = ex_go X 18 13 [] (.int 0 :: r) w := go_iconst (by decide +kernel : decode (kC 18) 12 = .ok (.iconst 0, 1)) (by decide +kernel) (ex_tr_n (by decide +kernel))
theorem s18_13 {X : Option (List Int32)} {r : List Value} {w : ex_W} : ex_go X 18 13 [] r w = ex_go X 18 22 [] r w := go_goto (t := 22) (by decide +kernel : decode (kC 18) 13 = .ok (.goto 9, 3)) (by decide) (ex_tr_k (ks := []) (by decide +kernel) rfl)
theorem s18_16 {X : Option (List Int32)} {l0 : Nat} {l1 : Int32} {r : List Value} {w : ex_W} : ex_go X 18 16 [(0, .ref l0), (1, .int l1)] r w = ex_go X 18 17 [(0, .ref l0), (1, .int l1)] (.ref l0 :: r) w := ex_go_d (by decide +kernel : decode (kC 18) 16 = .ok (.aload_n 0, 1)) rfl rfl (ex_tr_n (by decide +kernel))
theorem s18_17 {X : Option (List Int32)} {l0 : Nat} {l1 : Int32} {r : List Value} {t0 : Nat} {w : ex_W} (hh : t0 < 1000) : ex_go X 18 17 [(0, .ref l0), (1, .int l1)] (.ref t0 :: r) w = (ex_gf w t0 1 0).bind (fun v => ex_go X 18 20 [(0, .ref l0), (1, .int l1)] (v :: r) w) := go_getf (by decide +kernel : decode (kC 18) 17 = .ok (.getfield 9, 3)) (by decide +kernel : kF (kO 18) 9 = some (1, 0, false)) (ex_tr_n (by decide +kernel)) hh
theorem s18_20 {X : Option (List Int32)} {l0 : Nat} {l1 : Int32} {r : List Value} {w : ex_W} : ex_go X 18 20 [(0, .ref l0), (1, .int l1)] r w = ex_go X 18 21 [(0, .ref l0), (1, .int l1)] (.int l1 :: r) w := ex_go_d (by decide +kernel : decode (kC 18) 20 = .ok (.iload_n 1, 1)) rfl rfl (ex_tr_n (by decide +kernel))
theorem s18_21 {X : Option (List Int32)} {l0 : Nat} {l1 : Int32} {r : List Value} {t0 : Int32} {t1 : Nat} {w : ex_W} (hh : t1 < 1000) : ex_go X 18 21 [(0, .ref l0), (1, .int l1)] (.int t0 :: .ref t1 :: r) w = (ex_al w t1 0 t0).bind (fun v => ex_go X 18 22 [] (.int v :: r) w) := go_iald (by decide +kernel : decode (kC 18) 21 = .ok (.iaload, 1)) (ex_tr_k (ks := []) (by decide +kernel) rfl) hh
theorem s18_22 {X : Option (List Int32)} {t0 : Int32} {w : ex_W} : ex_go X 18 22 [] [.int t0] w = some (some (.int t0), w) := go_ireturn (by decide +kernel : decode (kC 18) 22 = .ok (.ireturn, 1)) (by decide +kernel : kR 18 = some .int) rfl
-- ExactLoom_Row.appendLowest(II)V
theorem s21_0 {X : Option (List Int32)} {l0 : Nat} {l1 : Int32} {l2 : Int32} {r : List Value} {w : ex_W} : ex_go X 21 0 [(0, .ref l0), (1, .int l1), (2, .int l2)] r w = ex_go X 21 1 [(0, .ref l0), (1, .int l1), (2, .int l2)] (.int l2 :: r) w := ex_go_d (by decide +kernel : decode (kC 21) 0 = .ok (.iload_n 2, 1)) rfl rfl (ex_tr_n (by decide +kernel))
theorem s21_1 {X : Option (List Int32)} {l0 : Nat} {l1 : Int32} {l2 : Int32} {r : List Value} {w : ex_W} : ex_go X 21 1 [(0, .ref l0), (1, .int l1), (2, .int l2)] r w = ex_go X 21 2 [(0, .ref l0), (1, .int l1), (2, .int l2)] (.int 1 :: r) w := go_iconst (by decide +kernel : decode (kC 21) 1 = .ok (.iconst 1, 1)) (by decide +kernel) (ex_tr_n (by decide +kernel))
theorem s21_2 {X : Option (List Int32)} {l0 : Nat} {l1 : Int32} {l2 : Int32} {r : List Value} {t0 t1 : Int32} {w : ex_W} : ex_go X 21 2 [(0, .ref l0), (1, .int l1), (2, .int l2)] (.int t0 :: .int t1 :: r) w = ex_go X 21 3 [(0, .ref l0), (1, .int l1), (2, .int l2)] (.int (t1 - t0) :: r) w := ex_go_d (by decide +kernel : decode (kC 21) 2 = .ok (.isub, 1)) rfl rfl (ex_tr_n (by decide +kernel))
theorem s21_3 {X : Option (List Int32)} {l0 : Nat} {l1 : Int32} {l2 : Int32} {r : List Value} {t : Int32} {w : ex_W} : ex_go X 21 3 [(0, .ref l0), (1, .int l1), (2, .int l2)] (.int t :: r) w = ex_go X 21 4 [(0, .ref l0), (1, .int l1), (3, .int t)] r w := go_stI (i := 3) (pc1 := 4) (L1 := [(0, .ref l0), (1, .int l1), (2, .int l2), (3, .int t)]) (by decide +kernel : decode (kC 21) 3 = .ok (.istore_n 3, 1)) rfl (by decide +kernel) rfl (ex_tr_k (ks := [0, 1, 3]) (by decide +kernel) rfl)
theorem s21_4 {X : Option (List Int32)} {l0 : Nat} {l1 : Int32} {l3 : Int32} {r : List Value} {w : ex_W} : ex_go X 21 4 [(0, .ref l0), (1, .int l1), (3, .int l3)] r w = ex_go X 21 5 [(0, .ref l0), (1, .int l1), (3, .int l3)] (.int l3 :: r) w := ex_go_d (by decide +kernel : decode (kC 21) 4 = .ok (.iload_n 3, 1)) rfl rfl (ex_tr_n (by decide +kernel))
theorem s21_5 {X : Option (List Int32)} {l0 : Nat} {l1 : Int32} {l3 : Int32} {r : List Value} {t0 : Int32} {w : ex_W} : ex_go X 21 5 [(0, .ref l0), (1, .int l1), (3, .int l3)] (.int t0 :: r) w = if t0 < 0 then ex_go X 21 28 [] r w else ex_go X 21 8 [(0, .ref l0), (1, .int l1), (3, .int l3)] r w := go_if_lt (t := 28) (by decide +kernel : decode (kC 21) 5 = .ok (.ifCond .lt 23, 3)) (by decide) (ex_tr_k (ks := []) (by decide +kernel) rfl) (ex_tr_n (by decide +kernel))
theorem s21_8 {X : Option (List Int32)} {l0 : Nat} {l1 : Int32} {l3 : Int32} {r : List Value} {w : ex_W} : ex_go X 21 8 [(0, .ref l0), (1, .int l1), (3, .int l3)] r w = ex_go X 21 9 [(0, .ref l0), (1, .int l1), (3, .int l3)] (.ref l0 :: r) w := ex_go_d (by decide +kernel : decode (kC 21) 8 = .ok (.aload_n 0, 1)) rfl rfl (ex_tr_n (by decide +kernel))
theorem s21_9 {X : Option (List Int32)} {l0 : Nat} {l1 : Int32} {l3 : Int32} {r : List Value} {w : ex_W} : ex_go X 21 9 [(0, .ref l0), (1, .int l1), (3, .int l3)] r w = ex_go X 21 10 [(0, .ref l0), (1, .int l1), (3, .int l3)] (.int l1 :: r) w := ex_go_d (by decide +kernel : decode (kC 21) 9 = .ok (.iload_n 1, 1)) rfl rfl (ex_tr_n (by decide +kernel))
theorem s21_10 {X : Option (List Int32)} {l0 : Nat} {l1 : Int32} {l3 : Int32} {r : List Value} {w : ex_W} : ex_go X 21 10 [(0, .ref l0), (1, .int l1), (3, .int l3)] r w = ex_go X 21 12 [(0, .ref l0), (1, .int l1), (3, .int l3)] (.int 8 :: r) w := go_bipush (by decide +kernel : decode (kC 21) 10 = .ok (.bipush 8, 2)) (by decide +kernel) (ex_tr_n (by decide +kernel))
theorem s21_12 {X : Option (List Int32)} {l0 : Nat} {l1 : Int32} {l3 : Int32} {r : List Value} {w : ex_W} : ex_go X 21 12 [(0, .ref l0), (1, .int l1), (3, .int l3)] r w = ex_go X 21 13 [(0, .ref l0), (1, .int l1), (3, .int l3)] (.int l3 :: r) w := ex_go_d (by decide +kernel : decode (kC 21) 12 = .ok (.iload_n 3, 1)) rfl rfl (ex_tr_n (by decide +kernel))
theorem s21_13 {X : Option (List Int32)} {l0 : Nat} {l1 : Int32} {l3 : Int32} {r : List Value} {t0 t1 : Int32} {w : ex_W} : ex_go X 21 13 [(0, .ref l0), (1, .int l1), (3, .int l3)] (.int t0 :: .int t1 :: r) w = ex_go X 21 14 [(0, .ref l0), (1, .int l1), (3, .int l3)] (.int (t1 * t0) :: r) w := ex_go_d (by decide +kernel : decode (kC 21) 13 = .ok (.imul, 1)) rfl rfl (ex_tr_n (by decide +kernel))
theorem s21_14 {X : Option (List Int32)} {l0 : Nat} {l1 : Int32} {l3 : Int32} {r : List Value} {t0 t1 : Int32} {w : ex_W} : ex_go X 21 14 [(0, .ref l0), (1, .int l1), (3, .int l3)] (.int t0 :: .int t1 :: r) w = ex_go X 21 15 [(0, .ref l0), (1, .int l1), (3, .int l3)] (.int (t1 >>> (t0 &&& 31)) :: r) w := ex_go_d (by decide +kernel : decode (kC 21) 14 = .ok (.ishr, 1)) rfl rfl (ex_tr_n (by decide +kernel))
theorem s21_15 {X : Option (List Int32)} {l0 : Nat} {l1 : Int32} {l3 : Int32} {r : List Value} {w : ex_W} : ex_go X 21 15 [(0, .ref l0), (1, .int l1), (3, .int l3)] r w = ex_go X 21 18 [(0, .ref l0), (1, .int l1), (3, .int l3)] (.int 255 :: r) w := go_sipush (by decide +kernel : decode (kC 21) 15 = .ok (.sipush 255, 3)) (by decide +kernel) (ex_tr_n (by decide +kernel))
theorem s21_18 {X : Option (List Int32)} {l0 : Nat} {l1 : Int32} {l3 : Int32} {r : List Value} {t0 t1 : Int32} {w : ex_W} : ex_go X 21 18 [(0, .ref l0), (1, .int l1), (3, .int l3)] (.int t0 :: .int t1 :: r) w = ex_go X 21 19 [(0, .ref l0), (1, .int l1), (3, .int l3)] (.int (t1 &&& t0) :: r) w := ex_go_d (by decide +kernel : decode (kC 21) 18 = .ok (.iand, 1)) rfl rfl (ex_tr_n (by decide +kernel))
theorem s21_19 {X : Option (List Int32)} {l0 : Nat} {l1 : Int32} {l3 : Int32} {t0 : Int32} {t1 : Nat} {w : ex_W} (hr : ex_rc w t1 1 = true) : ex_go X 21 19 [(0, .ref l0), (1, .int l1), (3, .int l3)] [.int t0, .ref t1] w = (ex_call X 17 [.ref t1, .int t0] w).bind (fun q => ex_go X 21 22 [(0, .ref l0), (1, .int l1), (3, .int l3)] (q.1.toList ++ []) q.2) := go_virt (by decide +kernel : decode (kC 21) 19 = .ok (.invokevirtual 19, 3)) (by decide +kernel : kM (kO 21) 19 = some (17, 0)) (ex_pop_i (n := 2) (by decide +kernel) rfl) (ex_lv_i (n1 := 2) (n2 := 0) (by decide +kernel) rfl rfl) (ex_tr_n (by decide +kernel)) (ex_rc_i (by decide +kernel) hr)
theorem s21_22 {X : Option (List Int32)} {l0 : Nat} {l1 : Int32} {l3 : Int32} {r : List Value} {w : ex_W} : ex_go X 21 22 [(0, .ref l0), (1, .int l1), (3, .int l3)] r w = ex_go X 21 25 [(0, .ref l0), (1, .int l1), (3, .int (l3 + (-1)))] r w := go_iinc (i := 3) (x := l3) (v := (-1)) (by decide +kernel : decode (kC 21) 22 = .ok (.iinc 3 (-1), 3)) rfl rfl (by decide +kernel) (by decide +kernel) rfl (ex_tr_n (by decide +kernel))
theorem s21_25 {X : Option (List Int32)} {l0 : Nat} {l1 : Int32} {l3 : Int32} {r : List Value} {w : ex_W} : ex_go X 21 25 [(0, .ref l0), (1, .int l1), (3, .int l3)] r w = ex_go X 21 4 [(0, .ref l0), (1, .int l1), (3, .int l3)] r w := go_goto (t := 4) (by decide +kernel : decode (kC 21) 25 = .ok (.goto (-21), 3)) (by decide) (ex_tr_k (ks := [0, 1, 3]) (by decide +kernel) rfl)
theorem s21_28 {X : Option (List Int32)}  {w : ex_W} : ex_go X 21 28 [] [] w = some (none, w) := go_return (by decide +kernel : decode (kC 21) 28 = .ok (.return_, 1)) (by decide +kernel)
-- ExactLoom_Row.cellOrNone(I)I
theorem s23_0 {X : Option (List Int32)} {l0 : Nat} {l1 : Int32} {r : List Value} {w : ex_W} : ex_go X 23 0 [(0, .ref l0), (1, .int l1)] r w = ex_go X 23 1 [(0, .ref l0), (1, .int l1)] (.int l1 :: r) w := ex_go_d (by decide +kernel : decode (kC 23) 0 = .ok (.iload_n 1, 1)) rfl rfl (ex_tr_n (by decide +kernel))
theorem s23_1 {X : Option (List Int32)} {l0 : Nat} {l1 : Int32} {r : List Value} {t0 : Int32} {w : ex_W} : ex_go X 23 1 [(0, .ref l0), (1, .int l1)] (.int t0 :: r) w = if t0 < 0 then ex_go X 23 12 [] r w else ex_go X 23 4 [(0, .ref l0), (1, .int l1)] r w := go_if_lt (t := 12) (by decide +kernel : decode (kC 23) 1 = .ok (.ifCond .lt 11, 3)) (by decide) (ex_tr_k (ks := []) (by decide +kernel) rfl) (ex_tr_n (by decide +kernel))
theorem s23_4 {X : Option (List Int32)} {l0 : Nat} {l1 : Int32} {r : List Value} {w : ex_W} : ex_go X 23 4 [(0, .ref l0), (1, .int l1)] r w = ex_go X 23 5 [(0, .ref l0), (1, .int l1)] (.int l1 :: r) w := ex_go_d (by decide +kernel : decode (kC 23) 4 = .ok (.iload_n 1, 1)) rfl rfl (ex_tr_n (by decide +kernel))
theorem s23_5 {X : Option (List Int32)} {l0 : Nat} {l1 : Int32} {r : List Value} {w : ex_W} : ex_go X 23 5 [(0, .ref l0), (1, .int l1)] r w = ex_go X 23 6 [(0, .ref l0), (1, .int l1)] (.ref l0 :: r) w := ex_go_d (by decide +kernel : decode (kC 23) 5 = .ok (.aload_n 0, 1)) rfl rfl (ex_tr_n (by decide +kernel))
theorem s23_6 {X : Option (List Int32)} {l0 : Nat} {l1 : Int32} {r : List Value} {t0 : Nat} {w : ex_W} (hh : t0 < 1000) : ex_go X 23 6 [(0, .ref l0), (1, .int l1)] (.ref t0 :: r) w = (ex_gf w t0 1 1).bind (fun v => ex_go X 23 9 [(0, .ref l0), (1, .int l1)] (v :: r) w) := go_getf (by decide +kernel : decode (kC 23) 6 = .ok (.getfield 15, 3)) (by decide +kernel : kF (kO 23) 15 = some (1, 1, false)) (ex_tr_n (by decide +kernel)) hh
theorem s23_9 {X : Option (List Int32)} {l0 : Nat} {l1 : Int32} {r : List Value} {t0 t1 : Int32} {w : ex_W} : ex_go X 23 9 [(0, .ref l0), (1, .int l1)] (.int t0 :: .int t1 :: r) w = if t1 < t0 then ex_go X 23 16 [(0, .ref l0), (1, .int l1)] r w else ex_go X 23 12 [] r w := go_icmp_lt (t := 16) (by decide +kernel : decode (kC 23) 9 = .ok (.if_icmp .lt 7, 3)) (by decide) (ex_tr_k (ks := [0, 1]) (by decide +kernel) rfl) (ex_tr_k (ks := []) (by decide +kernel) rfl)
theorem s23_12 {X : Option (List Int32)} {r : List Value} {w : ex_W} : ex_go X 23 12 [] r w = ex_go X 23 13 [] (.int (-1) :: r) w := go_iconst (by decide +kernel : decode (kC 23) 12 = .ok (.iconst (-1), 1)) (by decide +kernel) (ex_tr_n (by decide +kernel))
theorem s23_13 {X : Option (List Int32)} {r : List Value} {w : ex_W} : ex_go X 23 13 [] r w = ex_go X 23 22 [] r w := go_goto (t := 22) (by decide +kernel : decode (kC 23) 13 = .ok (.goto 9, 3)) (by decide) (ex_tr_k (ks := []) (by decide +kernel) rfl)
theorem s23_16 {X : Option (List Int32)} {l0 : Nat} {l1 : Int32} {r : List Value} {w : ex_W} : ex_go X 23 16 [(0, .ref l0), (1, .int l1)] r w = ex_go X 23 17 [(0, .ref l0), (1, .int l1)] (.ref l0 :: r) w := ex_go_d (by decide +kernel : decode (kC 23) 16 = .ok (.aload_n 0, 1)) rfl rfl (ex_tr_n (by decide +kernel))
theorem s23_17 {X : Option (List Int32)} {l0 : Nat} {l1 : Int32} {r : List Value} {t0 : Nat} {w : ex_W} (hh : t0 < 1000) : ex_go X 23 17 [(0, .ref l0), (1, .int l1)] (.ref t0 :: r) w = (ex_gf w t0 1 0).bind (fun v => ex_go X 23 20 [(0, .ref l0), (1, .int l1)] (v :: r) w) := go_getf (by decide +kernel : decode (kC 23) 17 = .ok (.getfield 9, 3)) (by decide +kernel : kF (kO 23) 9 = some (1, 0, false)) (ex_tr_n (by decide +kernel)) hh
theorem s23_20 {X : Option (List Int32)} {l0 : Nat} {l1 : Int32} {r : List Value} {w : ex_W} : ex_go X 23 20 [(0, .ref l0), (1, .int l1)] r w = ex_go X 23 21 [(0, .ref l0), (1, .int l1)] (.int l1 :: r) w := ex_go_d (by decide +kernel : decode (kC 23) 20 = .ok (.iload_n 1, 1)) rfl rfl (ex_tr_n (by decide +kernel))
theorem s23_21 {X : Option (List Int32)} {l0 : Nat} {l1 : Int32} {r : List Value} {t0 : Int32} {t1 : Nat} {w : ex_W} (hh : t1 < 1000) : ex_go X 23 21 [(0, .ref l0), (1, .int l1)] (.int t0 :: .ref t1 :: r) w = (ex_al w t1 0 t0).bind (fun v => ex_go X 23 22 [] (.int v :: r) w) := go_iald (by decide +kernel : decode (kC 23) 21 = .ok (.iaload, 1)) (ex_tr_k (ks := []) (by decide +kernel) rfl) hh
theorem s23_22 {X : Option (List Int32)} {t0 : Int32} {w : ex_W} : ex_go X 23 22 [] [.int t0] w = some (some (.int t0), w) := go_ireturn (by decide +kernel : decode (kC 23) 22 = .ok (.ireturn, 1)) (by decide +kernel : kR 23 = some .int) rfl
-- ExactLoomModel.put(II)Z
theorem s128_0 {X : Option (List Int32)} {l0 : Nat} {l1 : Int32} {l2 : Int32} {r : List Value} {w : ex_W} : ex_go X 128 0 [(0, .ref l0), (1, .int l1), (2, .int l2)] r w = ex_go X 128 1 [(0, .ref l0), (1, .int l1), (2, .int l2)] (.int l2 :: r) w := ex_go_d (by decide +kernel : decode (kC 128) 0 = .ok (.iload_n 2, 1)) rfl rfl (ex_tr_n (by decide +kernel))
theorem s128_1 {X : Option (List Int32)} {l0 : Nat} {l1 : Int32} {l2 : Int32} {r : List Value} {w : ex_W} : ex_go X 128 1 [(0, .ref l0), (1, .int l1), (2, .int l2)] r w = ex_go X 128 2 [(0, .ref l0), (1, .int l1), (2, .int l2)] (.int 1 :: r) w := go_iconst (by decide +kernel : decode (kC 128) 1 = .ok (.iconst 1, 1)) (by decide +kernel) (ex_tr_n (by decide +kernel))
theorem s128_2 {X : Option (List Int32)} {l0 : Nat} {l1 : Int32} {l2 : Int32} {r : List Value} {t0 t1 : Int32} {w : ex_W} : ex_go X 128 2 [(0, .ref l0), (1, .int l1), (2, .int l2)] (.int t0 :: .int t1 :: r) w = if t1 < t0 then ex_go X 128 21 [] r w else ex_go X 128 5 [(0, .ref l0), (1, .int l1), (2, .int l2)] r w := go_icmp_lt (t := 21) (by decide +kernel : decode (kC 128) 2 = .ok (.if_icmp .lt 19, 3)) (by decide) (ex_tr_k (ks := []) (by decide +kernel) rfl) (ex_tr_n (by decide +kernel))
theorem s128_5 {X : Option (List Int32)} {l0 : Nat} {l1 : Int32} {l2 : Int32} {r : List Value} {w : ex_W} : ex_go X 128 5 [(0, .ref l0), (1, .int l1), (2, .int l2)] r w = ex_go X 128 6 [(0, .ref l0), (1, .int l1), (2, .int l2)] (.int l2 :: r) w := ex_go_d (by decide +kernel : decode (kC 128) 5 = .ok (.iload_n 2, 1)) rfl rfl (ex_tr_n (by decide +kernel))
theorem s128_6 {X : Option (List Int32)} {l0 : Nat} {l1 : Int32} {l2 : Int32} {r : List Value} {w : ex_W} : ex_go X 128 6 [(0, .ref l0), (1, .int l1), (2, .int l2)] r w = ex_go X 128 7 [(0, .ref l0), (1, .int l1), (2, .int l2)] (.int 4 :: r) w := go_iconst (by decide +kernel : decode (kC 128) 6 = .ok (.iconst 4, 1)) (by decide +kernel) (ex_tr_n (by decide +kernel))
theorem s128_7 {X : Option (List Int32)} {l0 : Nat} {l1 : Int32} {l2 : Int32} {r : List Value} {t0 t1 : Int32} {w : ex_W} : ex_go X 128 7 [(0, .ref l0), (1, .int l1), (2, .int l2)] (.int t0 :: .int t1 :: r) w = if t0 < t1 then ex_go X 128 21 [] r w else ex_go X 128 10 [(0, .ref l0), (1, .int l1), (2, .int l2)] r w := go_icmp_gt (t := 21) (by decide +kernel : decode (kC 128) 7 = .ok (.if_icmp .gt 14, 3)) (by decide) (ex_tr_k (ks := []) (by decide +kernel) rfl) (ex_tr_n (by decide +kernel))
theorem s128_10 {X : Option (List Int32)} {l0 : Nat} {l1 : Int32} {l2 : Int32} {r : List Value} {w : ex_W} : ex_go X 128 10 [(0, .ref l0), (1, .int l1), (2, .int l2)] r w = ex_go X 128 11 [(0, .ref l0), (1, .int l1), (2, .int l2)] (.ref l0 :: r) w := ex_go_d (by decide +kernel : decode (kC 128) 10 = .ok (.aload_n 0, 1)) rfl rfl (ex_tr_n (by decide +kernel))
theorem s128_11 {X : Option (List Int32)} {l0 : Nat} {l1 : Int32} {l2 : Int32} {r : List Value} {t0 : Nat} {w : ex_W} (hh : t0 < 1000) : ex_go X 128 11 [(0, .ref l0), (1, .int l1), (2, .int l2)] (.ref t0 :: r) w = (ex_gf w t0 8 5).bind (fun v => ex_go X 128 14 [(0, .ref l0), (1, .int l1), (2, .int l2)] (v :: r) w) := go_getf (by decide +kernel : decode (kC 128) 11 = .ok (.getfield 57, 3)) (by decide +kernel : kF (kO 128) 57 = some (8, 5, false)) (ex_tr_n (by decide +kernel)) hh
theorem s128_14 {X : Option (List Int32)} {l0 : Nat} {l1 : Int32} {l2 : Int32} {r : List Value} {w : ex_W} : ex_go X 128 14 [(0, .ref l0), (1, .int l1), (2, .int l2)] r w = ex_go X 128 15 [(0, .ref l0), (1, .int l1), (2, .int l2)] (.int l2 :: r) w := ex_go_d (by decide +kernel : decode (kC 128) 14 = .ok (.iload_n 2, 1)) rfl rfl (ex_tr_n (by decide +kernel))
theorem s128_15 {X : Option (List Int32)} {l0 : Nat} {l1 : Int32} {l2 : Int32} {r : List Value} {t0 t1 : Int32} {w : ex_W} : ex_go X 128 15 [(0, .ref l0), (1, .int l1), (2, .int l2)] (.int t0 :: .int t1 :: r) w = ex_go X 128 16 [(0, .ref l0), (1, .int l1), (2, .int l2)] (.int (t1 + t0) :: r) w := ex_go_d (by decide +kernel : decode (kC 128) 15 = .ok (.iadd, 1)) rfl rfl (ex_tr_n (by decide +kernel))
theorem s128_16 {X : Option (List Int32)} {l0 : Nat} {l1 : Int32} {l2 : Int32} {r : List Value} {w : ex_W} : ex_go X 128 16 [(0, .ref l0), (1, .int l1), (2, .int l2)] r w = ex_go X 128 18 [(0, .ref l0), (1, .int l1), (2, .int l2)] (.int 124 :: r) w := go_bipush (by decide +kernel : decode (kC 128) 16 = .ok (.bipush 124, 2)) (by decide +kernel) (ex_tr_n (by decide +kernel))
theorem s128_18 {X : Option (List Int32)} {l0 : Nat} {l1 : Int32} {l2 : Int32} {r : List Value} {t0 t1 : Int32} {w : ex_W} : ex_go X 128 18 [(0, .ref l0), (1, .int l1), (2, .int l2)] (.int t0 :: .int t1 :: r) w = if t1 ≤ t0 then ex_go X 128 23 [(0, .ref l0), (1, .int l1), (2, .int l2)] r w else ex_go X 128 21 [] r w := go_icmp_le (t := 23) (by decide +kernel : decode (kC 128) 18 = .ok (.if_icmp .le 5, 3)) (by decide) (ex_tr_k (ks := [0, 1, 2]) (by decide +kernel) rfl) (ex_tr_k (ks := []) (by decide +kernel) rfl)
theorem s128_21 {X : Option (List Int32)} {r : List Value} {w : ex_W} : ex_go X 128 21 [] r w = ex_go X 128 22 [] (.int 0 :: r) w := go_iconst (by decide +kernel : decode (kC 128) 21 = .ok (.iconst 0, 1)) (by decide +kernel) (ex_tr_n (by decide +kernel))
theorem s128_22 {X : Option (List Int32)} {t0 : Int32} {w : ex_W} (hb : t0 = 0 ∨ t0 = 1) : ex_go X 128 22 [] [.int t0] w = some (some (.int t0), w) := go_ireturn (by decide +kernel : decode (kC 128) 22 = .ok (.ireturn, 1)) (by decide +kernel : kR 128 = some .boolean) (ex_nz hb)
theorem s128_23 {X : Option (List Int32)} {l0 : Nat} {l1 : Int32} {l2 : Int32} {r : List Value} {w : ex_W} : ex_go X 128 23 [(0, .ref l0), (1, .int l1), (2, .int l2)] r w = ex_go X 128 24 [(0, .ref l0), (1, .int l1), (2, .int l2)] (.int l2 :: r) w := ex_go_d (by decide +kernel : decode (kC 128) 23 = .ok (.iload_n 2, 1)) rfl rfl (ex_tr_n (by decide +kernel))
theorem s128_24 {X : Option (List Int32)} {l0 : Nat} {l1 : Int32} {l2 : Int32} {r : List Value} {w : ex_W} : ex_go X 128 24 [(0, .ref l0), (1, .int l1), (2, .int l2)] r w = ex_go X 128 25 [(0, .ref l0), (1, .int l1), (2, .int l2)] (.int 1 :: r) w := go_iconst (by decide +kernel : decode (kC 128) 24 = .ok (.iconst 1, 1)) (by decide +kernel) (ex_tr_n (by decide +kernel))
theorem s128_25 {X : Option (List Int32)} {l0 : Nat} {l1 : Int32} {l2 : Int32} {r : List Value} {t0 t1 : Int32} {w : ex_W} : ex_go X 128 25 [(0, .ref l0), (1, .int l1), (2, .int l2)] (.int t0 :: .int t1 :: r) w = ex_go X 128 26 [(0, .ref l0), (1, .int l1), (2, .int l2)] (.int (t1 - t0) :: r) w := ex_go_d (by decide +kernel : decode (kC 128) 25 = .ok (.isub, 1)) rfl rfl (ex_tr_n (by decide +kernel))
theorem s128_26 {X : Option (List Int32)} {l0 : Nat} {l1 : Int32} {l2 : Int32} {r : List Value} {t : Int32} {w : ex_W} : ex_go X 128 26 [(0, .ref l0), (1, .int l1), (2, .int l2)] (.int t :: r) w = ex_go X 128 27 [(0, .ref l0), (1, .int l1), (3, .int t)] r w := go_stI (i := 3) (pc1 := 27) (L1 := [(0, .ref l0), (1, .int l1), (2, .int l2), (3, .int t)]) (by decide +kernel : decode (kC 128) 26 = .ok (.istore_n 3, 1)) rfl (by decide +kernel) rfl (ex_tr_k (ks := [0, 1, 3]) (by decide +kernel) rfl)
theorem s128_27 {X : Option (List Int32)} {l0 : Nat} {l1 : Int32} {l3 : Int32} {r : List Value} {w : ex_W} : ex_go X 128 27 [(0, .ref l0), (1, .int l1), (3, .int l3)] r w = ex_go X 128 28 [(0, .ref l0), (1, .int l1), (3, .int l3)] (.int l3 :: r) w := ex_go_d (by decide +kernel : decode (kC 128) 27 = .ok (.iload_n 3, 1)) rfl rfl (ex_tr_n (by decide +kernel))
theorem s128_28 {X : Option (List Int32)} {l0 : Nat} {l1 : Int32} {l3 : Int32} {r : List Value} {t0 : Int32} {w : ex_W} : ex_go X 128 28 [(0, .ref l0), (1, .int l1), (3, .int l3)] (.int t0 :: r) w = if t0 < 0 then ex_go X 128 66 [] r w else ex_go X 128 31 [(0, .ref l0), (1, .int l1), (3, .int l3)] r w := go_if_lt (t := 66) (by decide +kernel : decode (kC 128) 28 = .ok (.ifCond .lt 38, 3)) (by decide) (ex_tr_k (ks := []) (by decide +kernel) rfl) (ex_tr_n (by decide +kernel))
theorem s128_31 {X : Option (List Int32)} {l0 : Nat} {l1 : Int32} {l3 : Int32} {r : List Value} {w : ex_W} : ex_go X 128 31 [(0, .ref l0), (1, .int l1), (3, .int l3)] r w = ex_go X 128 32 [(0, .ref l0), (1, .int l1), (3, .int l3)] (.ref l0 :: r) w := ex_go_d (by decide +kernel : decode (kC 128) 31 = .ok (.aload_n 0, 1)) rfl rfl (ex_tr_n (by decide +kernel))
theorem s128_32 {X : Option (List Int32)} {l0 : Nat} {l1 : Int32} {l3 : Int32} {r : List Value} {t0 : Nat} {w : ex_W} (hh : t0 < 1000) : ex_go X 128 32 [(0, .ref l0), (1, .int l1), (3, .int l3)] (.ref t0 :: r) w = (ex_gf w t0 8 4).bind (fun v => ex_go X 128 35 [(0, .ref l0), (1, .int l1), (3, .int l3)] (v :: r) w) := go_getf (by decide +kernel : decode (kC 128) 32 = .ok (.getfield 20, 3)) (by decide +kernel : kF (kO 128) 20 = some (8, 4, false)) (ex_tr_n (by decide +kernel)) hh
theorem s128_35 {X : Option (List Int32)} {l0 : Nat} {l1 : Int32} {l3 : Int32} {r : List Value} {w : ex_W} : ex_go X 128 35 [(0, .ref l0), (1, .int l1), (3, .int l3)] r w = ex_go X 128 36 [(0, .ref l0), (1, .int l1), (3, .int l3)] (.ref l0 :: r) w := ex_go_d (by decide +kernel : decode (kC 128) 35 = .ok (.aload_n 0, 1)) rfl rfl (ex_tr_n (by decide +kernel))
theorem s128_36 {X : Option (List Int32)} {l0 : Nat} {l1 : Int32} {l3 : Int32} {r : List Value} {t0 : Nat} {w : ex_W} (hh : t0 < 1000) : ex_go X 128 36 [(0, .ref l0), (1, .int l1), (3, .int l3)] (.ref t0 :: r) w = (ex_gf w t0 8 5).bind (fun v => ex_go X 128 39 [(0, .ref l0), (1, .int l1), (3, .int l3)] (v :: r) w) := go_getf (by decide +kernel : decode (kC 128) 36 = .ok (.getfield 57, 3)) (by decide +kernel : kF (kO 128) 57 = some (8, 5, false)) (ex_tr_n (by decide +kernel)) hh
theorem s128_39 {X : Option (List Int32)} {l0 : Nat} {l1 : Int32} {l3 : Int32} {r : List Value} {w : ex_W} : ex_go X 128 39 [(0, .ref l0), (1, .int l1), (3, .int l3)] r w = ex_go X 128 40 [(0, .ref l0), (1, .int l1), (3, .int l3)] (.int l1 :: r) w := ex_go_d (by decide +kernel : decode (kC 128) 39 = .ok (.iload_n 1, 1)) rfl rfl (ex_tr_n (by decide +kernel))
theorem s128_40 {X : Option (List Int32)} {l0 : Nat} {l1 : Int32} {l3 : Int32} {r : List Value} {w : ex_W} : ex_go X 128 40 [(0, .ref l0), (1, .int l1), (3, .int l3)] r w = ex_go X 128 42 [(0, .ref l0), (1, .int l1), (3, .int l3)] (.int 8 :: r) w := go_bipush (by decide +kernel : decode (kC 128) 40 = .ok (.bipush 8, 2)) (by decide +kernel) (ex_tr_n (by decide +kernel))
theorem s128_42 {X : Option (List Int32)} {l0 : Nat} {l1 : Int32} {l3 : Int32} {r : List Value} {w : ex_W} : ex_go X 128 42 [(0, .ref l0), (1, .int l1), (3, .int l3)] r w = ex_go X 128 43 [(0, .ref l0), (1, .int l1), (3, .int l3)] (.int l3 :: r) w := ex_go_d (by decide +kernel : decode (kC 128) 42 = .ok (.iload_n 3, 1)) rfl rfl (ex_tr_n (by decide +kernel))
theorem s128_43 {X : Option (List Int32)} {l0 : Nat} {l1 : Int32} {l3 : Int32} {r : List Value} {t0 t1 : Int32} {w : ex_W} : ex_go X 128 43 [(0, .ref l0), (1, .int l1), (3, .int l3)] (.int t0 :: .int t1 :: r) w = ex_go X 128 44 [(0, .ref l0), (1, .int l1), (3, .int l3)] (.int (t1 * t0) :: r) w := ex_go_d (by decide +kernel : decode (kC 128) 43 = .ok (.imul, 1)) rfl rfl (ex_tr_n (by decide +kernel))
theorem s128_44 {X : Option (List Int32)} {l0 : Nat} {l1 : Int32} {l3 : Int32} {r : List Value} {t0 t1 : Int32} {w : ex_W} : ex_go X 128 44 [(0, .ref l0), (1, .int l1), (3, .int l3)] (.int t0 :: .int t1 :: r) w = ex_go X 128 45 [(0, .ref l0), (1, .int l1), (3, .int l3)] (.int (t1 >>> (t0 &&& 31)) :: r) w := ex_go_d (by decide +kernel : decode (kC 128) 44 = .ok (.ishr, 1)) rfl rfl (ex_tr_n (by decide +kernel))
theorem s128_45 {X : Option (List Int32)} {l0 : Nat} {l1 : Int32} {l3 : Int32} {r : List Value} {w : ex_W} : ex_go X 128 45 [(0, .ref l0), (1, .int l1), (3, .int l3)] r w = ex_go X 128 48 [(0, .ref l0), (1, .int l1), (3, .int l3)] (.int 255 :: r) w := go_sipush (by decide +kernel : decode (kC 128) 45 = .ok (.sipush 255, 3)) (by decide +kernel) (ex_tr_n (by decide +kernel))
theorem s128_48 {X : Option (List Int32)} {l0 : Nat} {l1 : Int32} {l3 : Int32} {r : List Value} {t0 t1 : Int32} {w : ex_W} : ex_go X 128 48 [(0, .ref l0), (1, .int l1), (3, .int l3)] (.int t0 :: .int t1 :: r) w = ex_go X 128 49 [(0, .ref l0), (1, .int l1), (3, .int l3)] (.int (t1 &&& t0) :: r) w := ex_go_d (by decide +kernel : decode (kC 128) 48 = .ok (.iand, 1)) rfl rfl (ex_tr_n (by decide +kernel))
theorem s128_49 {X : Option (List Int32)} {l0 : Nat} {l1 : Int32} {l3 : Int32} {r : List Value} {t0 t1 : Int32} {t2 : Nat} {w : ex_W} (hh : t2 < 1000) : ex_go X 128 49 [(0, .ref l0), (1, .int l1), (3, .int l3)] (.int t0 :: .int t1 :: .ref t2 :: r) w = (ex_as w t2 0 t1 t0).bind (fun w1 => ex_go X 128 50 [(0, .ref l0), (1, .int l1), (3, .int l3)] r w1) := go_iast (by decide +kernel : decode (kC 128) 49 = .ok (.iastore, 1)) (ex_tr_n (by decide +kernel)) hh
theorem s128_50 {X : Option (List Int32)} {l0 : Nat} {l1 : Int32} {l3 : Int32} {r : List Value} {w : ex_W} : ex_go X 128 50 [(0, .ref l0), (1, .int l1), (3, .int l3)] r w = ex_go X 128 51 [(0, .ref l0), (1, .int l1), (3, .int l3)] (.ref l0 :: r) w := ex_go_d (by decide +kernel : decode (kC 128) 50 = .ok (.aload_n 0, 1)) rfl rfl (ex_tr_n (by decide +kernel))
theorem s128_51 {X : Option (List Int32)} {l0 : Nat} {l1 : Int32} {l3 : Int32} {r : List Value} {t0 : Nat} {w : ex_W} : ex_go X 128 51 [(0, .ref l0), (1, .int l1), (3, .int l3)] (.ref t0 :: r) w = ex_go X 128 52 [(0, .ref l0), (1, .int l1), (3, .int l3)] (.ref t0 :: .ref t0 :: r) w := ex_go_d (by decide +kernel : decode (kC 128) 51 = .ok (.dup, 1)) rfl rfl (ex_tr_n (by decide +kernel))
theorem s128_52 {X : Option (List Int32)} {l0 : Nat} {l1 : Int32} {l3 : Int32} {r : List Value} {t0 : Nat} {w : ex_W} (hh : t0 < 1000) : ex_go X 128 52 [(0, .ref l0), (1, .int l1), (3, .int l3)] (.ref t0 :: r) w = (ex_gf w t0 8 5).bind (fun v => ex_go X 128 55 [(0, .ref l0), (1, .int l1), (3, .int l3)] (v :: r) w) := go_getf (by decide +kernel : decode (kC 128) 52 = .ok (.getfield 57, 3)) (by decide +kernel : kF (kO 128) 57 = some (8, 5, false)) (ex_tr_n (by decide +kernel)) hh
theorem s128_55 {X : Option (List Int32)} {l0 : Nat} {l1 : Int32} {l3 : Int32} {r : List Value} {w : ex_W} : ex_go X 128 55 [(0, .ref l0), (1, .int l1), (3, .int l3)] r w = ex_go X 128 56 [(0, .ref l0), (1, .int l1), (3, .int l3)] (.int 1 :: r) w := go_iconst (by decide +kernel : decode (kC 128) 55 = .ok (.iconst 1, 1)) (by decide +kernel) (ex_tr_n (by decide +kernel))
theorem s128_56 {X : Option (List Int32)} {l0 : Nat} {l1 : Int32} {l3 : Int32} {r : List Value} {t0 t1 : Int32} {w : ex_W} : ex_go X 128 56 [(0, .ref l0), (1, .int l1), (3, .int l3)] (.int t0 :: .int t1 :: r) w = ex_go X 128 57 [(0, .ref l0), (1, .int l1), (3, .int l3)] (.int (t1 + t0) :: r) w := ex_go_d (by decide +kernel : decode (kC 128) 56 = .ok (.iadd, 1)) rfl rfl (ex_tr_n (by decide +kernel))
theorem s128_57 {X : Option (List Int32)} {l0 : Nat} {l1 : Int32} {l3 : Int32} {r : List Value} {t0 : Int32} {t1 : Nat} {w : ex_W} (hh : t1 < 1000) : ex_go X 128 57 [(0, .ref l0), (1, .int l1), (3, .int l3)] (.int t0 :: .ref t1 :: r) w = (ex_pf w t1 8 5 (.int t0)).bind (fun w1 => ex_go X 128 60 [(0, .ref l0), (1, .int l1), (3, .int l3)] r w1) := go_putf (by decide +kernel : decode (kC 128) 57 = .ok (.putfield 57, 3)) (by decide +kernel : kF (kO 128) 57 = some (8, 5, false)) (ex_plainI (by decide +kernel : kT 8 5 = .int) (by decide +kernel)) (ex_tr_n (by decide +kernel)) hh
theorem s128_60 {X : Option (List Int32)} {l0 : Nat} {l1 : Int32} {l3 : Int32} {r : List Value} {w : ex_W} : ex_go X 128 60 [(0, .ref l0), (1, .int l1), (3, .int l3)] r w = ex_go X 128 63 [(0, .ref l0), (1, .int l1), (3, .int (l3 + (-1)))] r w := go_iinc (i := 3) (x := l3) (v := (-1)) (by decide +kernel : decode (kC 128) 60 = .ok (.iinc 3 (-1), 3)) rfl rfl (by decide +kernel) (by decide +kernel) rfl (ex_tr_n (by decide +kernel))
theorem s128_63 {X : Option (List Int32)} {l0 : Nat} {l1 : Int32} {l3 : Int32} {r : List Value} {w : ex_W} : ex_go X 128 63 [(0, .ref l0), (1, .int l1), (3, .int l3)] r w = ex_go X 128 27 [(0, .ref l0), (1, .int l1), (3, .int l3)] r w := go_goto (t := 27) (by decide +kernel : decode (kC 128) 63 = .ok (.goto (-36), 3)) (by decide) (ex_tr_k (ks := [0, 1, 3]) (by decide +kernel) rfl)
theorem s128_66 {X : Option (List Int32)} {r : List Value} {w : ex_W} : ex_go X 128 66 [] r w = ex_go X 128 67 [] (.int 1 :: r) w := go_iconst (by decide +kernel : decode (kC 128) 66 = .ok (.iconst 1, 1)) (by decide +kernel) (ex_tr_n (by decide +kernel))
theorem s128_67 {X : Option (List Int32)} {t0 : Int32} {w : ex_W} (hb : t0 = 0 ∨ t0 = 1) : ex_go X 128 67 [] [.int t0] w = some (some (.int t0), w) := go_ireturn (by decide +kernel : decode (kC 128) 67 = .ok (.ireturn, 1)) (by decide +kernel : kR 128 = some .boolean) (ex_nz hb)
-- ExactLoomModel.type(II)Z
theorem s134_0 {X : Option (List Int32)} {l0 : Nat} {l1 : Int32} {l2 : Int32} {r : List Value} {w : ex_W} : ex_go X 134 0 [(0, .ref l0), (1, .int l1), (2, .int l2)] r w = ex_go X 134 1 [(0, .ref l0), (1, .int l1), (2, .int l2)] (.int l2 :: r) w := ex_go_d (by decide +kernel : decode (kC 134) 0 = .ok (.iload_n 2, 1)) rfl rfl (ex_tr_n (by decide +kernel))
theorem s134_1 {X : Option (List Int32)} {l0 : Nat} {l1 : Int32} {l2 : Int32} {r : List Value} {w : ex_W} : ex_go X 134 1 [(0, .ref l0), (1, .int l1), (2, .int l2)] r w = ex_go X 134 2 [(0, .ref l0), (1, .int l1), (2, .int l2)] (.int 1 :: r) w := go_iconst (by decide +kernel : decode (kC 134) 1 = .ok (.iconst 1, 1)) (by decide +kernel) (ex_tr_n (by decide +kernel))
theorem s134_2 {X : Option (List Int32)} {l0 : Nat} {l1 : Int32} {l2 : Int32} {r : List Value} {t0 t1 : Int32} {w : ex_W} : ex_go X 134 2 [(0, .ref l0), (1, .int l1), (2, .int l2)] (.int t0 :: .int t1 :: r) w = if t1 < t0 then ex_go X 134 22 [] r w else ex_go X 134 5 [(0, .ref l0), (1, .int l1), (2, .int l2)] r w := go_icmp_lt (t := 22) (by decide +kernel : decode (kC 134) 2 = .ok (.if_icmp .lt 20, 3)) (by decide) (ex_tr_k (ks := []) (by decide +kernel) rfl) (ex_tr_n (by decide +kernel))
theorem s134_5 {X : Option (List Int32)} {l0 : Nat} {l1 : Int32} {l2 : Int32} {r : List Value} {w : ex_W} : ex_go X 134 5 [(0, .ref l0), (1, .int l1), (2, .int l2)] r w = ex_go X 134 6 [(0, .ref l0), (1, .int l1), (2, .int l2)] (.int l2 :: r) w := ex_go_d (by decide +kernel : decode (kC 134) 5 = .ok (.iload_n 2, 1)) rfl rfl (ex_tr_n (by decide +kernel))
theorem s134_6 {X : Option (List Int32)} {l0 : Nat} {l1 : Int32} {l2 : Int32} {r : List Value} {w : ex_W} : ex_go X 134 6 [(0, .ref l0), (1, .int l1), (2, .int l2)] r w = ex_go X 134 7 [(0, .ref l0), (1, .int l1), (2, .int l2)] (.int 4 :: r) w := go_iconst (by decide +kernel : decode (kC 134) 6 = .ok (.iconst 4, 1)) (by decide +kernel) (ex_tr_n (by decide +kernel))
theorem s134_7 {X : Option (List Int32)} {l0 : Nat} {l1 : Int32} {l2 : Int32} {r : List Value} {t0 t1 : Int32} {w : ex_W} : ex_go X 134 7 [(0, .ref l0), (1, .int l1), (2, .int l2)] (.int t0 :: .int t1 :: r) w = if t0 < t1 then ex_go X 134 22 [] r w else ex_go X 134 10 [(0, .ref l0), (1, .int l1), (2, .int l2)] r w := go_icmp_gt (t := 22) (by decide +kernel : decode (kC 134) 7 = .ok (.if_icmp .gt 15, 3)) (by decide) (ex_tr_k (ks := []) (by decide +kernel) rfl) (ex_tr_n (by decide +kernel))
theorem s134_10 {X : Option (List Int32)} {l0 : Nat} {l1 : Int32} {l2 : Int32} {r : List Value} {w : ex_W} : ex_go X 134 10 [(0, .ref l0), (1, .int l1), (2, .int l2)] r w = ex_go X 134 11 [(0, .ref l0), (1, .int l1), (2, .int l2)] (.ref l0 :: r) w := ex_go_d (by decide +kernel : decode (kC 134) 10 = .ok (.aload_n 0, 1)) rfl rfl (ex_tr_n (by decide +kernel))
theorem s134_11 {X : Option (List Int32)} {l0 : Nat} {l1 : Int32} {l2 : Int32} {r : List Value} {t0 : Nat} {w : ex_W} (hh : t0 < 1000) : ex_go X 134 11 [(0, .ref l0), (1, .int l1), (2, .int l2)] (.ref t0 :: r) w = (ex_gf w t0 8 7).bind (fun v => ex_go X 134 14 [(0, .ref l0), (1, .int l1), (2, .int l2)] (v :: r) w) := go_getf (by decide +kernel : decode (kC 134) 11 = .ok (.getfield 156, 3)) (by decide +kernel : kF (kO 134) 156 = some (8, 7, false)) (ex_tr_n (by decide +kernel)) hh
theorem s134_14 {X : Option (List Int32)} {l0 : Nat} {l1 : Int32} {l2 : Int32} {r : List Value} {w : ex_W} : ex_go X 134 14 [(0, .ref l0), (1, .int l1), (2, .int l2)] r w = ex_go X 134 15 [(0, .ref l0), (1, .int l1), (2, .int l2)] (.int l2 :: r) w := ex_go_d (by decide +kernel : decode (kC 134) 14 = .ok (.iload_n 2, 1)) rfl rfl (ex_tr_n (by decide +kernel))
theorem s134_15 {X : Option (List Int32)} {l0 : Nat} {l1 : Int32} {l2 : Int32} {r : List Value} {t0 t1 : Int32} {w : ex_W} : ex_go X 134 15 [(0, .ref l0), (1, .int l1), (2, .int l2)] (.int t0 :: .int t1 :: r) w = ex_go X 134 16 [(0, .ref l0), (1, .int l1), (2, .int l2)] (.int (t1 + t0) :: r) w := ex_go_d (by decide +kernel : decode (kC 134) 15 = .ok (.iadd, 1)) rfl rfl (ex_tr_n (by decide +kernel))
theorem s134_16 {X : Option (List Int32)} {l0 : Nat} {l1 : Int32} {l2 : Int32} {r : List Value} {w : ex_W} : ex_go X 134 16 [(0, .ref l0), (1, .int l1), (2, .int l2)] r w = ex_go X 134 19 [(0, .ref l0), (1, .int l1), (2, .int l2)] (.int 200 :: r) w := go_sipush (by decide +kernel : decode (kC 134) 16 = .ok (.sipush 200, 3)) (by decide +kernel) (ex_tr_n (by decide +kernel))
theorem s134_19 {X : Option (List Int32)} {l0 : Nat} {l1 : Int32} {l2 : Int32} {r : List Value} {t0 t1 : Int32} {w : ex_W} : ex_go X 134 19 [(0, .ref l0), (1, .int l1), (2, .int l2)] (.int t0 :: .int t1 :: r) w = if t1 ≤ t0 then ex_go X 134 24 [(0, .ref l0), (1, .int l1), (2, .int l2)] r w else ex_go X 134 22 [] r w := go_icmp_le (t := 24) (by decide +kernel : decode (kC 134) 19 = .ok (.if_icmp .le 5, 3)) (by decide) (ex_tr_k (ks := [0, 1, 2]) (by decide +kernel) rfl) (ex_tr_k (ks := []) (by decide +kernel) rfl)
theorem s134_22 {X : Option (List Int32)} {r : List Value} {w : ex_W} : ex_go X 134 22 [] r w = ex_go X 134 23 [] (.int 0 :: r) w := go_iconst (by decide +kernel : decode (kC 134) 22 = .ok (.iconst 0, 1)) (by decide +kernel) (ex_tr_n (by decide +kernel))
theorem s134_23 {X : Option (List Int32)} {t0 : Int32} {w : ex_W} (hb : t0 = 0 ∨ t0 = 1) : ex_go X 134 23 [] [.int t0] w = some (some (.int t0), w) := go_ireturn (by decide +kernel : decode (kC 134) 23 = .ok (.ireturn, 1)) (by decide +kernel : kR 134 = some .boolean) (ex_nz hb)
theorem s134_24 {X : Option (List Int32)} {l0 : Nat} {l1 : Int32} {l2 : Int32} {r : List Value} {w : ex_W} : ex_go X 134 24 [(0, .ref l0), (1, .int l1), (2, .int l2)] r w = ex_go X 134 25 [(0, .ref l0), (1, .int l1), (2, .int l2)] (.int 0 :: r) w := go_iconst (by decide +kernel : decode (kC 134) 24 = .ok (.iconst 0, 1)) (by decide +kernel) (ex_tr_n (by decide +kernel))
theorem s134_25 {X : Option (List Int32)} {l0 : Nat} {l1 : Int32} {l2 : Int32} {r : List Value} {t : Int32} {w : ex_W} : ex_go X 134 25 [(0, .ref l0), (1, .int l1), (2, .int l2)] (.int t :: r) w = ex_go X 134 26 [(0, .ref l0), (1, .int l1), (2, .int l2), (3, .int t)] r w := go_stI (i := 3) (pc1 := 26) (L1 := [(0, .ref l0), (1, .int l1), (2, .int l2), (3, .int t)]) (by decide +kernel : decode (kC 134) 25 = .ok (.istore_n 3, 1)) rfl (by decide +kernel) rfl (ex_tr_k (ks := [0, 1, 2, 3]) (by decide +kernel) rfl)
theorem s134_26 {X : Option (List Int32)} {l0 : Nat} {l1 : Int32} {l2 : Int32} {l3 : Int32} {r : List Value} {w : ex_W} : ex_go X 134 26 [(0, .ref l0), (1, .int l1), (2, .int l2), (3, .int l3)] r w = ex_go X 134 27 [(0, .ref l0), (1, .int l1), (2, .int l2), (3, .int l3)] (.int l3 :: r) w := ex_go_d (by decide +kernel : decode (kC 134) 26 = .ok (.iload_n 3, 1)) rfl rfl (ex_tr_n (by decide +kernel))
theorem s134_27 {X : Option (List Int32)} {l0 : Nat} {l1 : Int32} {l2 : Int32} {l3 : Int32} {r : List Value} {w : ex_W} : ex_go X 134 27 [(0, .ref l0), (1, .int l1), (2, .int l2), (3, .int l3)] r w = ex_go X 134 28 [(0, .ref l0), (1, .int l1), (2, .int l2), (3, .int l3)] (.int l2 :: r) w := ex_go_d (by decide +kernel : decode (kC 134) 27 = .ok (.iload_n 2, 1)) rfl rfl (ex_tr_n (by decide +kernel))
theorem s134_28 {X : Option (List Int32)} {l0 : Nat} {l1 : Int32} {l2 : Int32} {l3 : Int32} {r : List Value} {t0 t1 : Int32} {w : ex_W} : ex_go X 134 28 [(0, .ref l0), (1, .int l1), (2, .int l2), (3, .int l3)] (.int t0 :: .int t1 :: r) w = if t0 ≤ t1 then ex_go X 134 72 [(0, .ref l0), (1, .int l1), (2, .int l2)] r w else ex_go X 134 31 [(0, .ref l0), (1, .int l1), (2, .int l2), (3, .int l3)] r w := go_icmp_ge (t := 72) (by decide +kernel : decode (kC 134) 28 = .ok (.if_icmp .ge 44, 3)) (by decide) (ex_tr_k (ks := [0, 1, 2]) (by decide +kernel) rfl) (ex_tr_n (by decide +kernel))
theorem s134_31 {X : Option (List Int32)} {l0 : Nat} {l1 : Int32} {l2 : Int32} {l3 : Int32} {r : List Value} {w : ex_W} : ex_go X 134 31 [(0, .ref l0), (1, .int l1), (2, .int l2), (3, .int l3)] r w = ex_go X 134 32 [(0, .ref l0), (1, .int l1), (2, .int l2), (3, .int l3)] (.int l1 :: r) w := ex_go_d (by decide +kernel : decode (kC 134) 31 = .ok (.iload_n 1, 1)) rfl rfl (ex_tr_n (by decide +kernel))
theorem s134_32 {X : Option (List Int32)} {l0 : Nat} {l1 : Int32} {l2 : Int32} {l3 : Int32} {r : List Value} {w : ex_W} : ex_go X 134 32 [(0, .ref l0), (1, .int l1), (2, .int l2), (3, .int l3)] r w = ex_go X 134 34 [(0, .ref l0), (1, .int l1), (2, .int l2), (3, .int l3)] (.int 8 :: r) w := go_bipush (by decide +kernel : decode (kC 134) 32 = .ok (.bipush 8, 2)) (by decide +kernel) (ex_tr_n (by decide +kernel))
theorem s134_34 {X : Option (List Int32)} {l0 : Nat} {l1 : Int32} {l2 : Int32} {l3 : Int32} {r : List Value} {w : ex_W} : ex_go X 134 34 [(0, .ref l0), (1, .int l1), (2, .int l2), (3, .int l3)] r w = ex_go X 134 35 [(0, .ref l0), (1, .int l1), (2, .int l2), (3, .int l3)] (.int l3 :: r) w := ex_go_d (by decide +kernel : decode (kC 134) 34 = .ok (.iload_n 3, 1)) rfl rfl (ex_tr_n (by decide +kernel))
theorem s134_35 {X : Option (List Int32)} {l0 : Nat} {l1 : Int32} {l2 : Int32} {l3 : Int32} {r : List Value} {t0 t1 : Int32} {w : ex_W} : ex_go X 134 35 [(0, .ref l0), (1, .int l1), (2, .int l2), (3, .int l3)] (.int t0 :: .int t1 :: r) w = ex_go X 134 36 [(0, .ref l0), (1, .int l1), (2, .int l2), (3, .int l3)] (.int (t1 * t0) :: r) w := ex_go_d (by decide +kernel : decode (kC 134) 35 = .ok (.imul, 1)) rfl rfl (ex_tr_n (by decide +kernel))
theorem s134_36 {X : Option (List Int32)} {l0 : Nat} {l1 : Int32} {l2 : Int32} {l3 : Int32} {r : List Value} {t0 t1 : Int32} {w : ex_W} : ex_go X 134 36 [(0, .ref l0), (1, .int l1), (2, .int l2), (3, .int l3)] (.int t0 :: .int t1 :: r) w = ex_go X 134 37 [(0, .ref l0), (1, .int l1), (2, .int l2), (3, .int l3)] (.int (t1 >>> (t0 &&& 31)) :: r) w := ex_go_d (by decide +kernel : decode (kC 134) 36 = .ok (.ishr, 1)) rfl rfl (ex_tr_n (by decide +kernel))
theorem s134_37 {X : Option (List Int32)} {l0 : Nat} {l1 : Int32} {l2 : Int32} {l3 : Int32} {r : List Value} {w : ex_W} : ex_go X 134 37 [(0, .ref l0), (1, .int l1), (2, .int l2), (3, .int l3)] r w = ex_go X 134 40 [(0, .ref l0), (1, .int l1), (2, .int l2), (3, .int l3)] (.int 255 :: r) w := go_sipush (by decide +kernel : decode (kC 134) 37 = .ok (.sipush 255, 3)) (by decide +kernel) (ex_tr_n (by decide +kernel))
theorem s134_40 {X : Option (List Int32)} {l0 : Nat} {l1 : Int32} {l2 : Int32} {l3 : Int32} {r : List Value} {t0 t1 : Int32} {w : ex_W} : ex_go X 134 40 [(0, .ref l0), (1, .int l1), (2, .int l2), (3, .int l3)] (.int t0 :: .int t1 :: r) w = ex_go X 134 41 [(0, .ref l0), (1, .int l1), (2, .int l2), (3, .int l3)] (.int (t1 &&& t0) :: r) w := ex_go_d (by decide +kernel : decode (kC 134) 40 = .ok (.iand, 1)) rfl rfl (ex_tr_n (by decide +kernel))
theorem s134_41 {X : Option (List Int32)} {l0 : Nat} {l1 : Int32} {l2 : Int32} {l3 : Int32} {r : List Value} {t : Int32} {w : ex_W} : ex_go X 134 41 [(0, .ref l0), (1, .int l1), (2, .int l2), (3, .int l3)] (.int t :: r) w = ex_go X 134 43 [(0, .ref l0), (1, .int l1), (2, .int l2), (3, .int l3), (4, .int t)] r w := go_stI (i := 4) (pc1 := 43) (L1 := [(0, .ref l0), (1, .int l1), (2, .int l2), (3, .int l3), (4, .int t)]) (by decide +kernel : decode (kC 134) 41 = .ok (.istore 4, 2)) rfl (by decide +kernel) rfl (ex_tr_n (by decide +kernel))
theorem s134_43 {X : Option (List Int32)} {l0 : Nat} {l1 : Int32} {l2 : Int32} {l3 : Int32} {l4 : Int32} {r : List Value} {w : ex_W} : ex_go X 134 43 [(0, .ref l0), (1, .int l1), (2, .int l2), (3, .int l3), (4, .int l4)] r w = ex_go X 134 45 [(0, .ref l0), (1, .int l1), (2, .int l2), (3, .int l3), (4, .int l4)] (.int l4 :: r) w := ex_go_d (by decide +kernel : decode (kC 134) 43 = .ok (.iload 4, 2)) rfl rfl (ex_tr_n (by decide +kernel))
theorem s134_45 {X : Option (List Int32)} {l0 : Nat} {l1 : Int32} {l2 : Int32} {l3 : Int32} {l4 : Int32} {r : List Value} {w : ex_W} : ex_go X 134 45 [(0, .ref l0), (1, .int l1), (2, .int l2), (3, .int l3), (4, .int l4)] r w = ex_go X 134 47 [(0, .ref l0), (1, .int l1), (2, .int l2), (3, .int l3), (4, .int l4)] (.int 10 :: r) w := go_bipush (by decide +kernel : decode (kC 134) 45 = .ok (.bipush 10, 2)) (by decide +kernel) (ex_tr_n (by decide +kernel))
theorem s134_47 {X : Option (List Int32)} {l0 : Nat} {l1 : Int32} {l2 : Int32} {l3 : Int32} {l4 : Int32} {r : List Value} {t0 t1 : Int32} {w : ex_W} : ex_go X 134 47 [(0, .ref l0), (1, .int l1), (2, .int l2), (3, .int l3), (4, .int l4)] (.int t0 :: .int t1 :: r) w = if t1 = t0 then ex_go X 134 66 [(0, .ref l0), (1, .int l1), (2, .int l2), (3, .int l3)] r w else ex_go X 134 50 [(0, .ref l0), (1, .int l1), (2, .int l2), (3, .int l3), (4, .int l4)] r w := go_icmp_eq (t := 66) (by decide +kernel : decode (kC 134) 47 = .ok (.if_icmp .eq 19, 3)) (by decide) (ex_tr_k (ks := [0, 1, 2, 3]) (by decide +kernel) rfl) (ex_tr_n (by decide +kernel))
theorem s134_50 {X : Option (List Int32)} {l0 : Nat} {l1 : Int32} {l2 : Int32} {l3 : Int32} {l4 : Int32} {r : List Value} {w : ex_W} : ex_go X 134 50 [(0, .ref l0), (1, .int l1), (2, .int l2), (3, .int l3), (4, .int l4)] r w = ex_go X 134 52 [(0, .ref l0), (1, .int l1), (2, .int l2), (3, .int l3), (4, .int l4)] (.int l4 :: r) w := ex_go_d (by decide +kernel : decode (kC 134) 50 = .ok (.iload 4, 2)) rfl rfl (ex_tr_n (by decide +kernel))
theorem s134_52 {X : Option (List Int32)} {l0 : Nat} {l1 : Int32} {l2 : Int32} {l3 : Int32} {l4 : Int32} {r : List Value} {w : ex_W} : ex_go X 134 52 [(0, .ref l0), (1, .int l1), (2, .int l2), (3, .int l3), (4, .int l4)] r w = ex_go X 134 54 [(0, .ref l0), (1, .int l1), (2, .int l2), (3, .int l3), (4, .int l4)] (.int 32 :: r) w := go_bipush (by decide +kernel : decode (kC 134) 52 = .ok (.bipush 32, 2)) (by decide +kernel) (ex_tr_n (by decide +kernel))
theorem s134_54 {X : Option (List Int32)} {l0 : Nat} {l1 : Int32} {l2 : Int32} {l3 : Int32} {l4 : Int32} {r : List Value} {t0 t1 : Int32} {w : ex_W} : ex_go X 134 54 [(0, .ref l0), (1, .int l1), (2, .int l2), (3, .int l3), (4, .int l4)] (.int t0 :: .int t1 :: r) w = if t1 < t0 then ex_go X 134 64 [] r w else ex_go X 134 57 [(0, .ref l0), (1, .int l1), (2, .int l2), (3, .int l3), (4, .int l4)] r w := go_icmp_lt (t := 64) (by decide +kernel : decode (kC 134) 54 = .ok (.if_icmp .lt 10, 3)) (by decide) (ex_tr_k (ks := []) (by decide +kernel) rfl) (ex_tr_n (by decide +kernel))
theorem s134_57 {X : Option (List Int32)} {l0 : Nat} {l1 : Int32} {l2 : Int32} {l3 : Int32} {l4 : Int32} {r : List Value} {w : ex_W} : ex_go X 134 57 [(0, .ref l0), (1, .int l1), (2, .int l2), (3, .int l3), (4, .int l4)] r w = ex_go X 134 59 [(0, .ref l0), (1, .int l1), (2, .int l2), (3, .int l3), (4, .int l4)] (.int l4 :: r) w := ex_go_d (by decide +kernel : decode (kC 134) 57 = .ok (.iload 4, 2)) rfl rfl (ex_tr_n (by decide +kernel))
theorem s134_59 {X : Option (List Int32)} {l0 : Nat} {l1 : Int32} {l2 : Int32} {l3 : Int32} {l4 : Int32} {r : List Value} {w : ex_W} : ex_go X 134 59 [(0, .ref l0), (1, .int l1), (2, .int l2), (3, .int l3), (4, .int l4)] r w = ex_go X 134 61 [(0, .ref l0), (1, .int l1), (2, .int l2), (3, .int l3), (4, .int l4)] (.int 126 :: r) w := go_bipush (by decide +kernel : decode (kC 134) 59 = .ok (.bipush 126, 2)) (by decide +kernel) (ex_tr_n (by decide +kernel))
theorem s134_61 {X : Option (List Int32)} {l0 : Nat} {l1 : Int32} {l2 : Int32} {l3 : Int32} {l4 : Int32} {r : List Value} {t0 t1 : Int32} {w : ex_W} : ex_go X 134 61 [(0, .ref l0), (1, .int l1), (2, .int l2), (3, .int l3), (4, .int l4)] (.int t0 :: .int t1 :: r) w = if t1 ≤ t0 then ex_go X 134 66 [(0, .ref l0), (1, .int l1), (2, .int l2), (3, .int l3)] r w else ex_go X 134 64 [] r w := go_icmp_le (t := 66) (by decide +kernel : decode (kC 134) 61 = .ok (.if_icmp .le 5, 3)) (by decide) (ex_tr_k (ks := [0, 1, 2, 3]) (by decide +kernel) rfl) (ex_tr_k (ks := []) (by decide +kernel) rfl)
theorem s134_64 {X : Option (List Int32)} {r : List Value} {w : ex_W} : ex_go X 134 64 [] r w = ex_go X 134 65 [] (.int 0 :: r) w := go_iconst (by decide +kernel : decode (kC 134) 64 = .ok (.iconst 0, 1)) (by decide +kernel) (ex_tr_n (by decide +kernel))
theorem s134_65 {X : Option (List Int32)} {t0 : Int32} {w : ex_W} (hb : t0 = 0 ∨ t0 = 1) : ex_go X 134 65 [] [.int t0] w = some (some (.int t0), w) := go_ireturn (by decide +kernel : decode (kC 134) 65 = .ok (.ireturn, 1)) (by decide +kernel : kR 134 = some .boolean) (ex_nz hb)
theorem s134_66 {X : Option (List Int32)} {l0 : Nat} {l1 : Int32} {l2 : Int32} {l3 : Int32} {r : List Value} {w : ex_W} : ex_go X 134 66 [(0, .ref l0), (1, .int l1), (2, .int l2), (3, .int l3)] r w = ex_go X 134 69 [(0, .ref l0), (1, .int l1), (2, .int l2), (3, .int (l3 + 1))] r w := go_iinc (i := 3) (x := l3) (v := 1) (by decide +kernel : decode (kC 134) 66 = .ok (.iinc 3 1, 3)) rfl rfl (by decide +kernel) (by decide +kernel) rfl (ex_tr_n (by decide +kernel))
theorem s134_69 {X : Option (List Int32)} {l0 : Nat} {l1 : Int32} {l2 : Int32} {l3 : Int32} {r : List Value} {w : ex_W} : ex_go X 134 69 [(0, .ref l0), (1, .int l1), (2, .int l2), (3, .int l3)] r w = ex_go X 134 26 [(0, .ref l0), (1, .int l1), (2, .int l2), (3, .int l3)] r w := go_goto (t := 26) (by decide +kernel : decode (kC 134) 69 = .ok (.goto (-43), 3)) (by decide) (ex_tr_k (ks := [0, 1, 2, 3]) (by decide +kernel) rfl)
theorem s134_72 {X : Option (List Int32)} {l0 : Nat} {l1 : Int32} {l2 : Int32} {r : List Value} {w : ex_W} : ex_go X 134 72 [(0, .ref l0), (1, .int l1), (2, .int l2)] r w = ex_go X 134 73 [(0, .ref l0), (1, .int l1), (2, .int l2)] (.int l2 :: r) w := ex_go_d (by decide +kernel : decode (kC 134) 72 = .ok (.iload_n 2, 1)) rfl rfl (ex_tr_n (by decide +kernel))
theorem s134_73 {X : Option (List Int32)} {l0 : Nat} {l1 : Int32} {l2 : Int32} {r : List Value} {w : ex_W} : ex_go X 134 73 [(0, .ref l0), (1, .int l1), (2, .int l2)] r w = ex_go X 134 74 [(0, .ref l0), (1, .int l1), (2, .int l2)] (.int 1 :: r) w := go_iconst (by decide +kernel : decode (kC 134) 73 = .ok (.iconst 1, 1)) (by decide +kernel) (ex_tr_n (by decide +kernel))
theorem s134_74 {X : Option (List Int32)} {l0 : Nat} {l1 : Int32} {l2 : Int32} {r : List Value} {t0 t1 : Int32} {w : ex_W} : ex_go X 134 74 [(0, .ref l0), (1, .int l1), (2, .int l2)] (.int t0 :: .int t1 :: r) w = ex_go X 134 75 [(0, .ref l0), (1, .int l1), (2, .int l2)] (.int (t1 - t0) :: r) w := ex_go_d (by decide +kernel : decode (kC 134) 74 = .ok (.isub, 1)) rfl rfl (ex_tr_n (by decide +kernel))
theorem s134_75 {X : Option (List Int32)} {l0 : Nat} {l1 : Int32} {l2 : Int32} {r : List Value} {t : Int32} {w : ex_W} : ex_go X 134 75 [(0, .ref l0), (1, .int l1), (2, .int l2)] (.int t :: r) w = ex_go X 134 76 [(0, .ref l0), (1, .int l1), (3, .int t)] r w := go_stI (i := 3) (pc1 := 76) (L1 := [(0, .ref l0), (1, .int l1), (2, .int l2), (3, .int t)]) (by decide +kernel : decode (kC 134) 75 = .ok (.istore_n 3, 1)) rfl (by decide +kernel) rfl (ex_tr_k (ks := [0, 1, 3]) (by decide +kernel) rfl)
theorem s134_76 {X : Option (List Int32)} {l0 : Nat} {l1 : Int32} {l3 : Int32} {r : List Value} {w : ex_W} : ex_go X 134 76 [(0, .ref l0), (1, .int l1), (3, .int l3)] r w = ex_go X 134 77 [(0, .ref l0), (1, .int l1), (3, .int l3)] (.int l3 :: r) w := ex_go_d (by decide +kernel : decode (kC 134) 76 = .ok (.iload_n 3, 1)) rfl rfl (ex_tr_n (by decide +kernel))
theorem s134_77 {X : Option (List Int32)} {l0 : Nat} {l1 : Int32} {l3 : Int32} {r : List Value} {t0 : Int32} {w : ex_W} : ex_go X 134 77 [(0, .ref l0), (1, .int l1), (3, .int l3)] (.int t0 :: r) w = if t0 < 0 then ex_go X 134 115 [] r w else ex_go X 134 80 [(0, .ref l0), (1, .int l1), (3, .int l3)] r w := go_if_lt (t := 115) (by decide +kernel : decode (kC 134) 77 = .ok (.ifCond .lt 38, 3)) (by decide) (ex_tr_k (ks := []) (by decide +kernel) rfl) (ex_tr_n (by decide +kernel))
theorem s134_80 {X : Option (List Int32)} {l0 : Nat} {l1 : Int32} {l3 : Int32} {r : List Value} {w : ex_W} : ex_go X 134 80 [(0, .ref l0), (1, .int l1), (3, .int l3)] r w = ex_go X 134 81 [(0, .ref l0), (1, .int l1), (3, .int l3)] (.ref l0 :: r) w := ex_go_d (by decide +kernel : decode (kC 134) 80 = .ok (.aload_n 0, 1)) rfl rfl (ex_tr_n (by decide +kernel))
theorem s134_81 {X : Option (List Int32)} {l0 : Nat} {l1 : Int32} {l3 : Int32} {r : List Value} {t0 : Nat} {w : ex_W} (hh : t0 < 1000) : ex_go X 134 81 [(0, .ref l0), (1, .int l1), (3, .int l3)] (.ref t0 :: r) w = (ex_gf w t0 8 6).bind (fun v => ex_go X 134 84 [(0, .ref l0), (1, .int l1), (3, .int l3)] (v :: r) w) := go_getf (by decide +kernel : decode (kC 134) 81 = .ok (.getfield 23, 3)) (by decide +kernel : kF (kO 134) 23 = some (8, 6, false)) (ex_tr_n (by decide +kernel)) hh
theorem s134_84 {X : Option (List Int32)} {l0 : Nat} {l1 : Int32} {l3 : Int32} {r : List Value} {w : ex_W} : ex_go X 134 84 [(0, .ref l0), (1, .int l1), (3, .int l3)] r w = ex_go X 134 85 [(0, .ref l0), (1, .int l1), (3, .int l3)] (.ref l0 :: r) w := ex_go_d (by decide +kernel : decode (kC 134) 84 = .ok (.aload_n 0, 1)) rfl rfl (ex_tr_n (by decide +kernel))
theorem s134_85 {X : Option (List Int32)} {l0 : Nat} {l1 : Int32} {l3 : Int32} {r : List Value} {t0 : Nat} {w : ex_W} (hh : t0 < 1000) : ex_go X 134 85 [(0, .ref l0), (1, .int l1), (3, .int l3)] (.ref t0 :: r) w = (ex_gf w t0 8 7).bind (fun v => ex_go X 134 88 [(0, .ref l0), (1, .int l1), (3, .int l3)] (v :: r) w) := go_getf (by decide +kernel : decode (kC 134) 85 = .ok (.getfield 156, 3)) (by decide +kernel : kF (kO 134) 156 = some (8, 7, false)) (ex_tr_n (by decide +kernel)) hh
theorem s134_88 {X : Option (List Int32)} {l0 : Nat} {l1 : Int32} {l3 : Int32} {r : List Value} {w : ex_W} : ex_go X 134 88 [(0, .ref l0), (1, .int l1), (3, .int l3)] r w = ex_go X 134 89 [(0, .ref l0), (1, .int l1), (3, .int l3)] (.int l1 :: r) w := ex_go_d (by decide +kernel : decode (kC 134) 88 = .ok (.iload_n 1, 1)) rfl rfl (ex_tr_n (by decide +kernel))
theorem s134_89 {X : Option (List Int32)} {l0 : Nat} {l1 : Int32} {l3 : Int32} {r : List Value} {w : ex_W} : ex_go X 134 89 [(0, .ref l0), (1, .int l1), (3, .int l3)] r w = ex_go X 134 91 [(0, .ref l0), (1, .int l1), (3, .int l3)] (.int 8 :: r) w := go_bipush (by decide +kernel : decode (kC 134) 89 = .ok (.bipush 8, 2)) (by decide +kernel) (ex_tr_n (by decide +kernel))
theorem s134_91 {X : Option (List Int32)} {l0 : Nat} {l1 : Int32} {l3 : Int32} {r : List Value} {w : ex_W} : ex_go X 134 91 [(0, .ref l0), (1, .int l1), (3, .int l3)] r w = ex_go X 134 92 [(0, .ref l0), (1, .int l1), (3, .int l3)] (.int l3 :: r) w := ex_go_d (by decide +kernel : decode (kC 134) 91 = .ok (.iload_n 3, 1)) rfl rfl (ex_tr_n (by decide +kernel))
theorem s134_92 {X : Option (List Int32)} {l0 : Nat} {l1 : Int32} {l3 : Int32} {r : List Value} {t0 t1 : Int32} {w : ex_W} : ex_go X 134 92 [(0, .ref l0), (1, .int l1), (3, .int l3)] (.int t0 :: .int t1 :: r) w = ex_go X 134 93 [(0, .ref l0), (1, .int l1), (3, .int l3)] (.int (t1 * t0) :: r) w := ex_go_d (by decide +kernel : decode (kC 134) 92 = .ok (.imul, 1)) rfl rfl (ex_tr_n (by decide +kernel))
theorem s134_93 {X : Option (List Int32)} {l0 : Nat} {l1 : Int32} {l3 : Int32} {r : List Value} {t0 t1 : Int32} {w : ex_W} : ex_go X 134 93 [(0, .ref l0), (1, .int l1), (3, .int l3)] (.int t0 :: .int t1 :: r) w = ex_go X 134 94 [(0, .ref l0), (1, .int l1), (3, .int l3)] (.int (t1 >>> (t0 &&& 31)) :: r) w := ex_go_d (by decide +kernel : decode (kC 134) 93 = .ok (.ishr, 1)) rfl rfl (ex_tr_n (by decide +kernel))
theorem s134_94 {X : Option (List Int32)} {l0 : Nat} {l1 : Int32} {l3 : Int32} {r : List Value} {w : ex_W} : ex_go X 134 94 [(0, .ref l0), (1, .int l1), (3, .int l3)] r w = ex_go X 134 97 [(0, .ref l0), (1, .int l1), (3, .int l3)] (.int 255 :: r) w := go_sipush (by decide +kernel : decode (kC 134) 94 = .ok (.sipush 255, 3)) (by decide +kernel) (ex_tr_n (by decide +kernel))
theorem s134_97 {X : Option (List Int32)} {l0 : Nat} {l1 : Int32} {l3 : Int32} {r : List Value} {t0 t1 : Int32} {w : ex_W} : ex_go X 134 97 [(0, .ref l0), (1, .int l1), (3, .int l3)] (.int t0 :: .int t1 :: r) w = ex_go X 134 98 [(0, .ref l0), (1, .int l1), (3, .int l3)] (.int (t1 &&& t0) :: r) w := ex_go_d (by decide +kernel : decode (kC 134) 97 = .ok (.iand, 1)) rfl rfl (ex_tr_n (by decide +kernel))
theorem s134_98 {X : Option (List Int32)} {l0 : Nat} {l1 : Int32} {l3 : Int32} {r : List Value} {t0 t1 : Int32} {t2 : Nat} {w : ex_W} (hh : t2 < 1000) : ex_go X 134 98 [(0, .ref l0), (1, .int l1), (3, .int l3)] (.int t0 :: .int t1 :: .ref t2 :: r) w = (ex_as w t2 0 t1 t0).bind (fun w1 => ex_go X 134 99 [(0, .ref l0), (1, .int l1), (3, .int l3)] r w1) := go_iast (by decide +kernel : decode (kC 134) 98 = .ok (.iastore, 1)) (ex_tr_n (by decide +kernel)) hh
theorem s134_99 {X : Option (List Int32)} {l0 : Nat} {l1 : Int32} {l3 : Int32} {r : List Value} {w : ex_W} : ex_go X 134 99 [(0, .ref l0), (1, .int l1), (3, .int l3)] r w = ex_go X 134 100 [(0, .ref l0), (1, .int l1), (3, .int l3)] (.ref l0 :: r) w := ex_go_d (by decide +kernel : decode (kC 134) 99 = .ok (.aload_n 0, 1)) rfl rfl (ex_tr_n (by decide +kernel))
theorem s134_100 {X : Option (List Int32)} {l0 : Nat} {l1 : Int32} {l3 : Int32} {r : List Value} {t0 : Nat} {w : ex_W} : ex_go X 134 100 [(0, .ref l0), (1, .int l1), (3, .int l3)] (.ref t0 :: r) w = ex_go X 134 101 [(0, .ref l0), (1, .int l1), (3, .int l3)] (.ref t0 :: .ref t0 :: r) w := ex_go_d (by decide +kernel : decode (kC 134) 100 = .ok (.dup, 1)) rfl rfl (ex_tr_n (by decide +kernel))
theorem s134_101 {X : Option (List Int32)} {l0 : Nat} {l1 : Int32} {l3 : Int32} {r : List Value} {t0 : Nat} {w : ex_W} (hh : t0 < 1000) : ex_go X 134 101 [(0, .ref l0), (1, .int l1), (3, .int l3)] (.ref t0 :: r) w = (ex_gf w t0 8 7).bind (fun v => ex_go X 134 104 [(0, .ref l0), (1, .int l1), (3, .int l3)] (v :: r) w) := go_getf (by decide +kernel : decode (kC 134) 101 = .ok (.getfield 156, 3)) (by decide +kernel : kF (kO 134) 156 = some (8, 7, false)) (ex_tr_n (by decide +kernel)) hh
theorem s134_104 {X : Option (List Int32)} {l0 : Nat} {l1 : Int32} {l3 : Int32} {r : List Value} {w : ex_W} : ex_go X 134 104 [(0, .ref l0), (1, .int l1), (3, .int l3)] r w = ex_go X 134 105 [(0, .ref l0), (1, .int l1), (3, .int l3)] (.int 1 :: r) w := go_iconst (by decide +kernel : decode (kC 134) 104 = .ok (.iconst 1, 1)) (by decide +kernel) (ex_tr_n (by decide +kernel))
theorem s134_105 {X : Option (List Int32)} {l0 : Nat} {l1 : Int32} {l3 : Int32} {r : List Value} {t0 t1 : Int32} {w : ex_W} : ex_go X 134 105 [(0, .ref l0), (1, .int l1), (3, .int l3)] (.int t0 :: .int t1 :: r) w = ex_go X 134 106 [(0, .ref l0), (1, .int l1), (3, .int l3)] (.int (t1 + t0) :: r) w := ex_go_d (by decide +kernel : decode (kC 134) 105 = .ok (.iadd, 1)) rfl rfl (ex_tr_n (by decide +kernel))
theorem s134_106 {X : Option (List Int32)} {l0 : Nat} {l1 : Int32} {l3 : Int32} {r : List Value} {t0 : Int32} {t1 : Nat} {w : ex_W} (hh : t1 < 1000) : ex_go X 134 106 [(0, .ref l0), (1, .int l1), (3, .int l3)] (.int t0 :: .ref t1 :: r) w = (ex_pf w t1 8 7 (.int t0)).bind (fun w1 => ex_go X 134 109 [(0, .ref l0), (1, .int l1), (3, .int l3)] r w1) := go_putf (by decide +kernel : decode (kC 134) 106 = .ok (.putfield 156, 3)) (by decide +kernel : kF (kO 134) 156 = some (8, 7, false)) (ex_plainI (by decide +kernel : kT 8 7 = .int) (by decide +kernel)) (ex_tr_n (by decide +kernel)) hh
theorem s134_109 {X : Option (List Int32)} {l0 : Nat} {l1 : Int32} {l3 : Int32} {r : List Value} {w : ex_W} : ex_go X 134 109 [(0, .ref l0), (1, .int l1), (3, .int l3)] r w = ex_go X 134 112 [(0, .ref l0), (1, .int l1), (3, .int (l3 + (-1)))] r w := go_iinc (i := 3) (x := l3) (v := (-1)) (by decide +kernel : decode (kC 134) 109 = .ok (.iinc 3 (-1), 3)) rfl rfl (by decide +kernel) (by decide +kernel) rfl (ex_tr_n (by decide +kernel))
theorem s134_112 {X : Option (List Int32)} {l0 : Nat} {l1 : Int32} {l3 : Int32} {r : List Value} {w : ex_W} : ex_go X 134 112 [(0, .ref l0), (1, .int l1), (3, .int l3)] r w = ex_go X 134 76 [(0, .ref l0), (1, .int l1), (3, .int l3)] r w := go_goto (t := 76) (by decide +kernel : decode (kC 134) 112 = .ok (.goto (-36), 3)) (by decide) (ex_tr_k (ks := [0, 1, 3]) (by decide +kernel) rfl)
theorem s134_115 {X : Option (List Int32)} {r : List Value} {w : ex_W} : ex_go X 134 115 [] r w = ex_go X 134 116 [] (.int 1 :: r) w := go_iconst (by decide +kernel : decode (kC 134) 115 = .ok (.iconst 1, 1)) (by decide +kernel) (ex_tr_n (by decide +kernel))
theorem s134_116 {X : Option (List Int32)} {t0 : Int32} {w : ex_W} (hb : t0 = 0 ∨ t0 = 1) : ex_go X 134 116 [] [.int t0] w = some (some (.int t0), w) := go_ireturn (by decide +kernel : decode (kC 134) 116 = .ok (.ireturn, 1)) (by decide +kernel : kR 134 = some .boolean) (ex_nz hb)
-- ExactLoomModel.size()I
theorem s160_0 {X : Option (List Int32)} {l0 : Nat} {r : List Value} {w : ex_W} : ex_go X 160 0 [(0, .ref l0)] r w = ex_go X 160 1 [(0, .ref l0)] (.ref l0 :: r) w := ex_go_d (by decide +kernel : decode (kC 160) 0 = .ok (.aload_n 0, 1)) rfl rfl (ex_tr_n (by decide +kernel))
theorem s160_1 {X : Option (List Int32)} {l0 : Nat} {r : List Value} {t0 : Nat} {w : ex_W} (hh : t0 < 1000) : ex_go X 160 1 [(0, .ref l0)] (.ref t0 :: r) w = (ex_gf w t0 8 1).bind (fun v => ex_go X 160 4 [(0, .ref l0)] (v :: r) w) := go_getf (by decide +kernel : decode (kC 160) 1 = .ok (.getfield 13, 3)) (by decide +kernel : kF (kO 160) 13 = some (8, 1, false)) (ex_tr_n (by decide +kernel)) hh
theorem s160_4 {X : Option (List Int32)} {l0 : Nat} {t0 : Int32} {w : ex_W} : ex_go X 160 4 [(0, .ref l0)] [.int t0] w = some (some (.int t0), w) := go_ireturn (by decide +kernel : decode (kC 160) 4 = .ok (.ireturn, 1)) (by decide +kernel : kR 160 = some .int) rfl
-- ExactLoomModel.byteAt(I)I
theorem s161_0 {X : Option (List Int32)} {l0 : Nat} {l1 : Int32} {r : List Value} {w : ex_W} : ex_go X 161 0 [(0, .ref l0), (1, .int l1)] r w = ex_go X 161 1 [(0, .ref l0), (1, .int l1)] (.int l1 :: r) w := ex_go_d (by decide +kernel : decode (kC 161) 0 = .ok (.iload_n 1, 1)) rfl rfl (ex_tr_n (by decide +kernel))
theorem s161_1 {X : Option (List Int32)} {l0 : Nat} {l1 : Int32} {r : List Value} {t0 : Int32} {w : ex_W} : ex_go X 161 1 [(0, .ref l0), (1, .int l1)] (.int t0 :: r) w = if t0 < 0 then ex_go X 161 21 [] r w else ex_go X 161 4 [(0, .ref l0), (1, .int l1)] r w := go_if_lt (t := 21) (by decide +kernel : decode (kC 161) 1 = .ok (.ifCond .lt 20, 3)) (by decide) (ex_tr_k (ks := []) (by decide +kernel) rfl) (ex_tr_n (by decide +kernel))
theorem s161_4 {X : Option (List Int32)} {l0 : Nat} {l1 : Int32} {r : List Value} {w : ex_W} : ex_go X 161 4 [(0, .ref l0), (1, .int l1)] r w = ex_go X 161 5 [(0, .ref l0), (1, .int l1)] (.int l1 :: r) w := ex_go_d (by decide +kernel : decode (kC 161) 4 = .ok (.iload_n 1, 1)) rfl rfl (ex_tr_n (by decide +kernel))
theorem s161_5 {X : Option (List Int32)} {l0 : Nat} {l1 : Int32} {r : List Value} {w : ex_W} : ex_go X 161 5 [(0, .ref l0), (1, .int l1)] r w = ex_go X 161 6 [(0, .ref l0), (1, .int l1)] (.ref l0 :: r) w := ex_go_d (by decide +kernel : decode (kC 161) 5 = .ok (.aload_n 0, 1)) rfl rfl (ex_tr_n (by decide +kernel))
theorem s161_6 {X : Option (List Int32)} {l0 : Nat} {l1 : Int32} {r : List Value} {t0 : Nat} {w : ex_W} (hh : t0 < 1000) : ex_go X 161 6 [(0, .ref l0), (1, .int l1)] (.ref t0 :: r) w = (ex_gf w t0 8 1).bind (fun v => ex_go X 161 9 [(0, .ref l0), (1, .int l1)] (v :: r) w) := go_getf (by decide +kernel : decode (kC 161) 6 = .ok (.getfield 13, 3)) (by decide +kernel : kF (kO 161) 13 = some (8, 1, false)) (ex_tr_n (by decide +kernel)) hh
theorem s161_9 {X : Option (List Int32)} {l0 : Nat} {l1 : Int32} {r : List Value} {t0 t1 : Int32} {w : ex_W} : ex_go X 161 9 [(0, .ref l0), (1, .int l1)] (.int t0 :: .int t1 :: r) w = if t0 ≤ t1 then ex_go X 161 21 [] r w else ex_go X 161 12 [(0, .ref l0), (1, .int l1)] r w := go_icmp_ge (t := 21) (by decide +kernel : decode (kC 161) 9 = .ok (.if_icmp .ge 12, 3)) (by decide) (ex_tr_k (ks := []) (by decide +kernel) rfl) (ex_tr_n (by decide +kernel))
theorem s161_12 {X : Option (List Int32)} {l0 : Nat} {l1 : Int32} {r : List Value} {w : ex_W} : ex_go X 161 12 [(0, .ref l0), (1, .int l1)] r w = ex_go X 161 13 [(0, .ref l0), (1, .int l1)] (.ref l0 :: r) w := ex_go_d (by decide +kernel : decode (kC 161) 12 = .ok (.aload_n 0, 1)) rfl rfl (ex_tr_n (by decide +kernel))
theorem s161_13 {X : Option (List Int32)} {l0 : Nat} {l1 : Int32} {r : List Value} {t0 : Nat} {w : ex_W} (hh : t0 < 1000) : ex_go X 161 13 [(0, .ref l0), (1, .int l1)] (.ref t0 :: r) w = (ex_gf w t0 8 0).bind (fun v => ex_go X 161 16 [(0, .ref l0), (1, .int l1)] (v :: r) w) := go_getf (by decide +kernel : decode (kC 161) 13 = .ok (.getfield 7, 3)) (by decide +kernel : kF (kO 161) 7 = some (8, 0, false)) (ex_tr_n (by decide +kernel)) hh
theorem s161_16 {X : Option (List Int32)} {l0 : Nat} {l1 : Int32} {r : List Value} {w : ex_W} : ex_go X 161 16 [(0, .ref l0), (1, .int l1)] r w = ex_go X 161 17 [(0, .ref l0), (1, .int l1)] (.int l1 :: r) w := ex_go_d (by decide +kernel : decode (kC 161) 16 = .ok (.iload_n 1, 1)) rfl rfl (ex_tr_n (by decide +kernel))
theorem s161_17 {X : Option (List Int32)} {l0 : Nat} {l1 : Int32} {r : List Value} {t0 : Int32} {t1 : Nat} {w : ex_W} (hh : t1 < 1000) : ex_go X 161 17 [(0, .ref l0), (1, .int l1)] (.int t0 :: .ref t1 :: r) w = (ex_al w t1 0 t0).bind (fun v => ex_go X 161 18 [(0, .ref l0), (1, .int l1)] (.int v :: r) w) := go_iald (by decide +kernel : decode (kC 161) 17 = .ok (.iaload, 1)) (ex_tr_n (by decide +kernel)) hh
theorem s161_18 {X : Option (List Int32)} {l0 : Nat} {l1 : Int32} {r : List Value} {w : ex_W} : ex_go X 161 18 [(0, .ref l0), (1, .int l1)] r w = ex_go X 161 22 [] r w := go_goto (t := 22) (by decide +kernel : decode (kC 161) 18 = .ok (.goto 4, 3)) (by decide) (ex_tr_k (ks := []) (by decide +kernel) rfl)
theorem s161_21 {X : Option (List Int32)} {r : List Value} {w : ex_W} : ex_go X 161 21 [] r w = ex_go X 161 22 [] (.int (-1) :: r) w := go_iconst (by decide +kernel : decode (kC 161) 21 = .ok (.iconst (-1), 1)) (by decide +kernel) (ex_tr_k (ks := []) (by decide +kernel) rfl)
theorem s161_22 {X : Option (List Int32)} {t0 : Int32} {w : ex_W} : ex_go X 161 22 [] [.int t0] w = some (some (.int t0), w) := go_ireturn (by decide +kernel : decode (kC 161) 22 = .ok (.ireturn, 1)) (by decide +kernel : kR 161 = some .int) rfl
-- ExactLoomModel.length()I
theorem s162_0 {X : Option (List Int32)} {l0 : Nat} {r : List Value} {w : ex_W} : ex_go X 162 0 [(0, .ref l0)] r w = ex_go X 162 1 [(0, .ref l0)] (.ref l0 :: r) w := ex_go_d (by decide +kernel : decode (kC 162) 0 = .ok (.aload_n 0, 1)) rfl rfl (ex_tr_n (by decide +kernel))
theorem s162_1 {X : Option (List Int32)} {l0 : Nat} {r : List Value} {t0 : Nat} {w : ex_W} (hh : t0 < 1000) : ex_go X 162 1 [(0, .ref l0)] (.ref t0 :: r) w = (ex_gf w t0 8 9).bind (fun v => ex_go X 162 4 [(0, .ref l0)] (v :: r) w) := go_getf (by decide +kernel : decode (kC 162) 1 = .ok (.getfield 77, 3)) (by decide +kernel : kF (kO 162) 77 = some (8, 9, false)) (ex_tr_n (by decide +kernel)) hh
theorem s162_4 {X : Option (List Int32)} {l0 : Nat} {t0 : Int32} {w : ex_W} : ex_go X 162 4 [(0, .ref l0)] [.int t0] w = some (some (.int t0), w) := go_ireturn (by decide +kernel : decode (kC 162) 4 = .ok (.ireturn, 1)) (by decide +kernel : kR 162 = some .int) rfl
-- ExactLoomModel.at(I)I
theorem s163_0 {X : Option (List Int32)} {l0 : Nat} {l1 : Int32} {r : List Value} {w : ex_W} : ex_go X 163 0 [(0, .ref l0), (1, .int l1)] r w = ex_go X 163 1 [(0, .ref l0), (1, .int l1)] (.int l1 :: r) w := ex_go_d (by decide +kernel : decode (kC 163) 0 = .ok (.iload_n 1, 1)) rfl rfl (ex_tr_n (by decide +kernel))
theorem s163_1 {X : Option (List Int32)} {l0 : Nat} {l1 : Int32} {r : List Value} {t0 : Int32} {w : ex_W} : ex_go X 163 1 [(0, .ref l0), (1, .int l1)] (.int t0 :: r) w = if t0 < 0 then ex_go X 163 21 [] r w else ex_go X 163 4 [(0, .ref l0), (1, .int l1)] r w := go_if_lt (t := 21) (by decide +kernel : decode (kC 163) 1 = .ok (.ifCond .lt 20, 3)) (by decide) (ex_tr_k (ks := []) (by decide +kernel) rfl) (ex_tr_n (by decide +kernel))
theorem s163_4 {X : Option (List Int32)} {l0 : Nat} {l1 : Int32} {r : List Value} {w : ex_W} : ex_go X 163 4 [(0, .ref l0), (1, .int l1)] r w = ex_go X 163 5 [(0, .ref l0), (1, .int l1)] (.int l1 :: r) w := ex_go_d (by decide +kernel : decode (kC 163) 4 = .ok (.iload_n 1, 1)) rfl rfl (ex_tr_n (by decide +kernel))
theorem s163_5 {X : Option (List Int32)} {l0 : Nat} {l1 : Int32} {r : List Value} {w : ex_W} : ex_go X 163 5 [(0, .ref l0), (1, .int l1)] r w = ex_go X 163 6 [(0, .ref l0), (1, .int l1)] (.ref l0 :: r) w := ex_go_d (by decide +kernel : decode (kC 163) 5 = .ok (.aload_n 0, 1)) rfl rfl (ex_tr_n (by decide +kernel))
theorem s163_6 {X : Option (List Int32)} {l0 : Nat} {l1 : Int32} {r : List Value} {t0 : Nat} {w : ex_W} (hh : t0 < 1000) : ex_go X 163 6 [(0, .ref l0), (1, .int l1)] (.ref t0 :: r) w = (ex_gf w t0 8 9).bind (fun v => ex_go X 163 9 [(0, .ref l0), (1, .int l1)] (v :: r) w) := go_getf (by decide +kernel : decode (kC 163) 6 = .ok (.getfield 77, 3)) (by decide +kernel : kF (kO 163) 77 = some (8, 9, false)) (ex_tr_n (by decide +kernel)) hh
theorem s163_9 {X : Option (List Int32)} {l0 : Nat} {l1 : Int32} {r : List Value} {t0 t1 : Int32} {w : ex_W} : ex_go X 163 9 [(0, .ref l0), (1, .int l1)] (.int t0 :: .int t1 :: r) w = if t0 ≤ t1 then ex_go X 163 21 [] r w else ex_go X 163 12 [(0, .ref l0), (1, .int l1)] r w := go_icmp_ge (t := 21) (by decide +kernel : decode (kC 163) 9 = .ok (.if_icmp .ge 12, 3)) (by decide) (ex_tr_k (ks := []) (by decide +kernel) rfl) (ex_tr_n (by decide +kernel))
theorem s163_12 {X : Option (List Int32)} {l0 : Nat} {l1 : Int32} {r : List Value} {w : ex_W} : ex_go X 163 12 [(0, .ref l0), (1, .int l1)] r w = ex_go X 163 13 [(0, .ref l0), (1, .int l1)] (.ref l0 :: r) w := ex_go_d (by decide +kernel : decode (kC 163) 12 = .ok (.aload_n 0, 1)) rfl rfl (ex_tr_n (by decide +kernel))
theorem s163_13 {X : Option (List Int32)} {l0 : Nat} {l1 : Int32} {r : List Value} {t0 : Nat} {w : ex_W} (hh : t0 < 1000) : ex_go X 163 13 [(0, .ref l0), (1, .int l1)] (.ref t0 :: r) w = (ex_gf w t0 8 8).bind (fun v => ex_go X 163 16 [(0, .ref l0), (1, .int l1)] (v :: r) w) := go_getf (by decide +kernel : decode (kC 163) 13 = .ok (.getfield 26, 3)) (by decide +kernel : kF (kO 163) 26 = some (8, 8, false)) (ex_tr_n (by decide +kernel)) hh
theorem s163_16 {X : Option (List Int32)} {l0 : Nat} {l1 : Int32} {r : List Value} {w : ex_W} : ex_go X 163 16 [(0, .ref l0), (1, .int l1)] r w = ex_go X 163 17 [(0, .ref l0), (1, .int l1)] (.int l1 :: r) w := ex_go_d (by decide +kernel : decode (kC 163) 16 = .ok (.iload_n 1, 1)) rfl rfl (ex_tr_n (by decide +kernel))
theorem s163_17 {X : Option (List Int32)} {l0 : Nat} {l1 : Int32} {r : List Value} {t0 : Int32} {t1 : Nat} {w : ex_W} (hh : t1 < 1000) : ex_go X 163 17 [(0, .ref l0), (1, .int l1)] (.int t0 :: .ref t1 :: r) w = (ex_al w t1 0 t0).bind (fun v => ex_go X 163 18 [(0, .ref l0), (1, .int l1)] (.int v :: r) w) := go_iald (by decide +kernel : decode (kC 163) 17 = .ok (.iaload, 1)) (ex_tr_n (by decide +kernel)) hh
theorem s163_18 {X : Option (List Int32)} {l0 : Nat} {l1 : Int32} {r : List Value} {w : ex_W} : ex_go X 163 18 [(0, .ref l0), (1, .int l1)] r w = ex_go X 163 22 [] r w := go_goto (t := 22) (by decide +kernel : decode (kC 163) 18 = .ok (.goto 4, 3)) (by decide) (ex_tr_k (ks := []) (by decide +kernel) rfl)
theorem s163_21 {X : Option (List Int32)} {r : List Value} {w : ex_W} : ex_go X 163 21 [] r w = ex_go X 163 22 [] (.int (-1) :: r) w := go_iconst (by decide +kernel : decode (kC 163) 21 = .ok (.iconst (-1), 1)) (by decide +kernel) (ex_tr_k (ks := []) (by decide +kernel) rfl)
theorem s163_22 {X : Option (List Int32)} {t0 : Int32} {w : ex_W} : ex_go X 163 22 [] [.int t0] w = some (some (.int t0), w) := go_ireturn (by decide +kernel : decode (kC 163) 22 = .ok (.ireturn, 1)) (by decide +kernel : kR 163 = some .int) rfl
-- ExactLoomModel.count(I)I
theorem s164_0 {X : Option (List Int32)} {l0 : Nat} {l1 : Int32} {r : List Value} {w : ex_W} : ex_go X 164 0 [(0, .ref l0), (1, .int l1)] r w = ex_go X 164 1 [(0, .ref l0), (1, .int l1)] (.int l1 :: r) w := ex_go_d (by decide +kernel : decode (kC 164) 0 = .ok (.iload_n 1, 1)) rfl rfl (ex_tr_n (by decide +kernel))
theorem s164_1 {X : Option (List Int32)} {l0 : Nat} {l1 : Int32} {r : List Value} {t0 : Int32} {w : ex_W} : ex_go X 164 1 [(0, .ref l0), (1, .int l1)] (.int t0 :: r) w = if t0 < 0 then ex_go X 164 9 [] r w else ex_go X 164 4 [(0, .ref l0), (1, .int l1)] r w := go_if_lt (t := 9) (by decide +kernel : decode (kC 164) 1 = .ok (.ifCond .lt 8, 3)) (by decide) (ex_tr_k (ks := []) (by decide +kernel) rfl) (ex_tr_n (by decide +kernel))
theorem s164_4 {X : Option (List Int32)} {l0 : Nat} {l1 : Int32} {r : List Value} {w : ex_W} : ex_go X 164 4 [(0, .ref l0), (1, .int l1)] r w = ex_go X 164 5 [(0, .ref l0), (1, .int l1)] (.int l1 :: r) w := ex_go_d (by decide +kernel : decode (kC 164) 4 = .ok (.iload_n 1, 1)) rfl rfl (ex_tr_n (by decide +kernel))
theorem s164_5 {X : Option (List Int32)} {l0 : Nat} {l1 : Int32} {r : List Value} {w : ex_W} : ex_go X 164 5 [(0, .ref l0), (1, .int l1)] r w = ex_go X 164 6 [(0, .ref l0), (1, .int l1)] (.int 3 :: r) w := go_iconst (by decide +kernel : decode (kC 164) 5 = .ok (.iconst 3, 1)) (by decide +kernel) (ex_tr_n (by decide +kernel))
theorem s164_6 {X : Option (List Int32)} {l0 : Nat} {l1 : Int32} {r : List Value} {t0 t1 : Int32} {w : ex_W} : ex_go X 164 6 [(0, .ref l0), (1, .int l1)] (.int t0 :: .int t1 :: r) w = if t1 ≤ t0 then ex_go X 164 13 [(0, .ref l0), (1, .int l1)] r w else ex_go X 164 9 [] r w := go_icmp_le (t := 13) (by decide +kernel : decode (kC 164) 6 = .ok (.if_icmp .le 7, 3)) (by decide) (ex_tr_k (ks := [0, 1]) (by decide +kernel) rfl) (ex_tr_k (ks := []) (by decide +kernel) rfl)
theorem s164_9 {X : Option (List Int32)} {r : List Value} {w : ex_W} : ex_go X 164 9 [] r w = ex_go X 164 10 [] (.int (-1) :: r) w := go_iconst (by decide +kernel : decode (kC 164) 9 = .ok (.iconst (-1), 1)) (by decide +kernel) (ex_tr_n (by decide +kernel))
theorem s164_10 {X : Option (List Int32)} {r : List Value} {w : ex_W} : ex_go X 164 10 [] r w = ex_go X 164 23 [] r w := go_goto (t := 23) (by decide +kernel : decode (kC 164) 10 = .ok (.goto 13, 3)) (by decide) (ex_tr_k (ks := []) (by decide +kernel) rfl)
theorem s164_13 {X : Option (List Int32)} {l0 : Nat} {l1 : Int32} {r : List Value} {w : ex_W} : ex_go X 164 13 [(0, .ref l0), (1, .int l1)] r w = ex_go X 164 14 [(0, .ref l0), (1, .int l1)] (.ref l0 :: r) w := ex_go_d (by decide +kernel : decode (kC 164) 13 = .ok (.aload_n 0, 1)) rfl rfl (ex_tr_n (by decide +kernel))
theorem s164_14 {X : Option (List Int32)} {l0 : Nat} {l1 : Int32} {r : List Value} {t0 : Nat} {w : ex_W} (hh : t0 < 1000) : ex_go X 164 14 [(0, .ref l0), (1, .int l1)] (.ref t0 :: r) w = (ex_gf w t0 8 0).bind (fun v => ex_go X 164 17 [(0, .ref l0), (1, .int l1)] (v :: r) w) := go_getf (by decide +kernel : decode (kC 164) 14 = .ok (.getfield 7, 3)) (by decide +kernel : kF (kO 164) 7 = some (8, 0, false)) (ex_tr_n (by decide +kernel)) hh
theorem s164_17 {X : Option (List Int32)} {l0 : Nat} {l1 : Int32} {r : List Value} {w : ex_W} : ex_go X 164 17 [(0, .ref l0), (1, .int l1)] r w = ex_go X 164 18 [(0, .ref l0), (1, .int l1)] (.ref l0 :: r) w := ex_go_d (by decide +kernel : decode (kC 164) 17 = .ok (.aload_n 0, 1)) rfl rfl (ex_tr_n (by decide +kernel))
theorem s164_18 {X : Option (List Int32)} {l0 : Nat} {l1 : Int32} {r : List Value} {w : ex_W} : ex_go X 164 18 [(0, .ref l0), (1, .int l1)] r w = ex_go X 164 19 [(0, .ref l0), (1, .int l1)] (.int l1 :: r) w := ex_go_d (by decide +kernel : decode (kC 164) 18 = .ok (.iload_n 1, 1)) rfl rfl (ex_tr_n (by decide +kernel))
theorem s164_19 {X : Option (List Int32)} {l0 : Nat} {l1 : Int32} {t0 : Int32} {t1 : Nat} {t2 : Nat} {w : ex_W} (hr : ex_rc w t1 8 = true) : ex_go X 164 19 [(0, .ref l0), (1, .int l1)] [.int t0, .ref t1, .ref t2] w = (ex_call X 165 [.ref t1, .int t0] w).bind (fun q => ex_go X 164 22 [(0, .ref l0), (1, .int l1)] (q.1.toList ++ [.ref t2]) q.2) := go_virt (by decide +kernel : decode (kC 164) 19 = .ok (.invokevirtual 293, 3)) (by decide +kernel : kM (kO 164) 293 = some (165, 0)) (ex_pop_i (n := 2) (by decide +kernel) rfl) (ex_lv_i (n1 := 2) (n2 := 1) (by decide +kernel) rfl rfl) (ex_tr_n (by decide +kernel)) (ex_rc_i (by decide +kernel) hr)
theorem s164_22 {X : Option (List Int32)} {l0 : Nat} {l1 : Int32} {r : List Value} {t0 : Int32} {t1 : Nat} {w : ex_W} (hh : t1 < 1000) : ex_go X 164 22 [(0, .ref l0), (1, .int l1)] (.int t0 :: .ref t1 :: r) w = (ex_al w t1 0 t0).bind (fun v => ex_go X 164 23 [] (.int v :: r) w) := go_iald (by decide +kernel : decode (kC 164) 22 = .ok (.iaload, 1)) (ex_tr_k (ks := []) (by decide +kernel) rfl) hh
theorem s164_23 {X : Option (List Int32)} {t0 : Int32} {w : ex_W} : ex_go X 164 23 [] [.int t0] w = some (some (.int t0), w) := go_ireturn (by decide +kernel : decode (kC 164) 23 = .ok (.ireturn, 1)) (by decide +kernel : kR 164 = some .int) rfl
-- ExactLoomModel.clear(I)I
theorem s167_0 {X : Option (List Int32)} {l0 : Nat} {l1 : Int32} {r : List Value} {w : ex_W} : ex_go X 167 0 [(0, .ref l0), (1, .int l1)] r w = ex_go X 167 1 [(0, .ref l0), (1, .int l1)] (.int l1 :: r) w := ex_go_d (by decide +kernel : decode (kC 167) 0 = .ok (.iload_n 1, 1)) rfl rfl (ex_tr_n (by decide +kernel))
theorem s167_1 {X : Option (List Int32)} {l0 : Nat} {l1 : Int32} {r : List Value} {t0 : Int32} {w : ex_W} : ex_go X 167 1 [(0, .ref l0), (1, .int l1)] (.int t0 :: r) w = if t0 < 0 then ex_go X 167 13 [] r w else ex_go X 167 4 [(0, .ref l0), (1, .int l1)] r w := go_if_lt (t := 13) (by decide +kernel : decode (kC 167) 1 = .ok (.ifCond .lt 12, 3)) (by decide) (ex_tr_k (ks := []) (by decide +kernel) rfl) (ex_tr_n (by decide +kernel))
theorem s167_4 {X : Option (List Int32)} {l0 : Nat} {l1 : Int32} {r : List Value} {w : ex_W} : ex_go X 167 4 [(0, .ref l0), (1, .int l1)] r w = ex_go X 167 5 [(0, .ref l0), (1, .int l1)] (.int l1 :: r) w := ex_go_d (by decide +kernel : decode (kC 167) 4 = .ok (.iload_n 1, 1)) rfl rfl (ex_tr_n (by decide +kernel))
theorem s167_5 {X : Option (List Int32)} {l0 : Nat} {l1 : Int32} {r : List Value} {w : ex_W} : ex_go X 167 5 [(0, .ref l0), (1, .int l1)] r w = ex_go X 167 6 [(0, .ref l0), (1, .int l1)] (.ref l0 :: r) w := ex_go_d (by decide +kernel : decode (kC 167) 5 = .ok (.aload_n 0, 1)) rfl rfl (ex_tr_n (by decide +kernel))
theorem s167_6 {X : Option (List Int32)} {l0 : Nat} {l1 : Int32} {r : List Value} {w : ex_W} : ex_go X 167 6 [(0, .ref l0), (1, .int l1)] r w = ex_go X 167 7 [(0, .ref l0), (1, .int l1)] (.int 2 :: r) w := go_iconst (by decide +kernel : decode (kC 167) 6 = .ok (.iconst 2, 1)) (by decide +kernel) (ex_tr_n (by decide +kernel))
theorem s167_7 {X : Option (List Int32)} {l0 : Nat} {l1 : Int32} {t0 : Int32} {t1 : Nat} {t2 : Int32} {w : ex_W} (hr : ex_rc w t1 8 = true) : ex_go X 167 7 [(0, .ref l0), (1, .int l1)] [.int t0, .ref t1, .int t2] w = (ex_call X 164 [.ref t1, .int t0] w).bind (fun q => ex_go X 167 10 [(0, .ref l0), (1, .int l1)] (q.1.toList ++ [.int t2]) q.2) := go_virt (by decide +kernel : decode (kC 167) 7 = .ok (.invokevirtual 296, 3)) (by decide +kernel : kM (kO 167) 296 = some (164, 0)) (ex_pop_i (n := 2) (by decide +kernel) rfl) (ex_lv_i (n1 := 2) (n2 := 1) (by decide +kernel) rfl rfl) (ex_tr_n (by decide +kernel)) (ex_rc_i (by decide +kernel) hr)
theorem s167_10 {X : Option (List Int32)} {l0 : Nat} {l1 : Int32} {r : List Value} {t0 t1 : Int32} {w : ex_W} : ex_go X 167 10 [(0, .ref l0), (1, .int l1)] (.int t0 :: .int t1 :: r) w = if t1 < t0 then ex_go X 167 15 [(0, .ref l0), (1, .int l1)] r w else ex_go X 167 13 [] r w := go_icmp_lt (t := 15) (by decide +kernel : decode (kC 167) 10 = .ok (.if_icmp .lt 5, 3)) (by decide) (ex_tr_k (ks := [0, 1]) (by decide +kernel) rfl) (ex_tr_k (ks := []) (by decide +kernel) rfl)
theorem s167_13 {X : Option (List Int32)} {r : List Value} {w : ex_W} : ex_go X 167 13 [] r w = ex_go X 167 14 [] (.int (-1) :: r) w := go_iconst (by decide +kernel : decode (kC 167) 13 = .ok (.iconst (-1), 1)) (by decide +kernel) (ex_tr_n (by decide +kernel))
theorem s167_14 {X : Option (List Int32)} {t0 : Int32} {w : ex_W} : ex_go X 167 14 [] [.int t0] w = some (some (.int t0), w) := go_ireturn (by decide +kernel : decode (kC 167) 14 = .ok (.ireturn, 1)) (by decide +kernel : kR 167 = some .int) rfl
theorem s167_15 {X : Option (List Int32)} {l0 : Nat} {l1 : Int32} {r : List Value} {w : ex_W} : ex_go X 167 15 [(0, .ref l0), (1, .int l1)] r w = ex_go X 167 16 [(0, .ref l0), (1, .int l1)] (.ref l0 :: r) w := ex_go_d (by decide +kernel : decode (kC 167) 15 = .ok (.aload_n 0, 1)) rfl rfl (ex_tr_n (by decide +kernel))
theorem s167_16 {X : Option (List Int32)} {l0 : Nat} {l1 : Int32} {r : List Value} {w : ex_W} : ex_go X 167 16 [(0, .ref l0), (1, .int l1)] r w = ex_go X 167 17 [(0, .ref l0), (1, .int l1)] (.int 2 :: r) w := go_iconst (by decide +kernel : decode (kC 167) 16 = .ok (.iconst 2, 1)) (by decide +kernel) (ex_tr_n (by decide +kernel))
theorem s167_17 {X : Option (List Int32)} {l0 : Nat} {l1 : Int32} {t0 : Int32} {t1 : Nat} {w : ex_W} (hr : ex_rc w t1 8 = true) : ex_go X 167 17 [(0, .ref l0), (1, .int l1)] [.int t0, .ref t1] w = (ex_call X 165 [.ref t1, .int t0] w).bind (fun q => ex_go X 167 20 [(0, .ref l0), (1, .int l1)] (q.1.toList ++ []) q.2) := go_virt (by decide +kernel : decode (kC 167) 17 = .ok (.invokevirtual 293, 3)) (by decide +kernel : kM (kO 167) 293 = some (165, 0)) (ex_pop_i (n := 2) (by decide +kernel) rfl) (ex_lv_i (n1 := 2) (n2 := 0) (by decide +kernel) rfl rfl) (ex_tr_n (by decide +kernel)) (ex_rc_i (by decide +kernel) hr)
theorem s167_20 {X : Option (List Int32)} {l0 : Nat} {l1 : Int32} {r : List Value} {w : ex_W} : ex_go X 167 20 [(0, .ref l0), (1, .int l1)] r w = ex_go X 167 21 [(0, .ref l0), (1, .int l1)] (.int 1 :: r) w := go_iconst (by decide +kernel : decode (kC 167) 20 = .ok (.iconst 1, 1)) (by decide +kernel) (ex_tr_n (by decide +kernel))
theorem s167_21 {X : Option (List Int32)} {l0 : Nat} {l1 : Int32} {r : List Value} {t0 t1 : Int32} {w : ex_W} : ex_go X 167 21 [(0, .ref l0), (1, .int l1)] (.int t0 :: .int t1 :: r) w = ex_go X 167 22 [(0, .ref l0), (1, .int l1)] (.int (t1 + t0) :: r) w := ex_go_d (by decide +kernel : decode (kC 167) 21 = .ok (.iadd, 1)) rfl rfl (ex_tr_n (by decide +kernel))
theorem s167_22 {X : Option (List Int32)} {l0 : Nat} {l1 : Int32} {r : List Value} {t : Int32} {w : ex_W} : ex_go X 167 22 [(0, .ref l0), (1, .int l1)] (.int t :: r) w = ex_go X 167 23 [(0, .ref l0), (1, .int l1), (2, .int t)] r w := go_stI (i := 2) (pc1 := 23) (L1 := [(0, .ref l0), (1, .int l1), (2, .int t)]) (by decide +kernel : decode (kC 167) 22 = .ok (.istore_n 2, 1)) rfl (by decide +kernel) rfl (ex_tr_n (by decide +kernel))
theorem s167_23 {X : Option (List Int32)} {l0 : Nat} {l1 : Int32} {l2 : Int32} {r : List Value} {w : ex_W} : ex_go X 167 23 [(0, .ref l0), (1, .int l1), (2, .int l2)] r w = ex_go X 167 24 [(0, .ref l0), (1, .int l1), (2, .int l2)] (.int 0 :: r) w := go_iconst (by decide +kernel : decode (kC 167) 23 = .ok (.iconst 0, 1)) (by decide +kernel) (ex_tr_n (by decide +kernel))
theorem s167_24 {X : Option (List Int32)} {l0 : Nat} {l1 : Int32} {l2 : Int32} {r : List Value} {t : Int32} {w : ex_W} : ex_go X 167 24 [(0, .ref l0), (1, .int l1), (2, .int l2)] (.int t :: r) w = ex_go X 167 25 [(0, .ref l0), (1, .int l1), (2, .int l2), (3, .int t)] r w := go_stI (i := 3) (pc1 := 25) (L1 := [(0, .ref l0), (1, .int l1), (2, .int l2), (3, .int t)]) (by decide +kernel : decode (kC 167) 24 = .ok (.istore_n 3, 1)) rfl (by decide +kernel) rfl (ex_tr_k (ks := [0, 1, 2, 3]) (by decide +kernel) rfl)
theorem s167_25 {X : Option (List Int32)} {l0 : Nat} {l1 : Int32} {l2 : Int32} {l3 : Int32} {r : List Value} {w : ex_W} : ex_go X 167 25 [(0, .ref l0), (1, .int l1), (2, .int l2), (3, .int l3)] r w = ex_go X 167 26 [(0, .ref l0), (1, .int l1), (2, .int l2), (3, .int l3)] (.int l3 :: r) w := ex_go_d (by decide +kernel : decode (kC 167) 25 = .ok (.iload_n 3, 1)) rfl rfl (ex_tr_n (by decide +kernel))
theorem s167_26 {X : Option (List Int32)} {l0 : Nat} {l1 : Int32} {l2 : Int32} {l3 : Int32} {r : List Value} {w : ex_W} : ex_go X 167 26 [(0, .ref l0), (1, .int l1), (2, .int l2), (3, .int l3)] r w = ex_go X 167 27 [(0, .ref l0), (1, .int l1), (2, .int l2), (3, .int l3)] (.int l1 :: r) w := ex_go_d (by decide +kernel : decode (kC 167) 26 = .ok (.iload_n 1, 1)) rfl rfl (ex_tr_n (by decide +kernel))
theorem s167_27 {X : Option (List Int32)} {l0 : Nat} {l1 : Int32} {l2 : Int32} {l3 : Int32} {r : List Value} {t0 t1 : Int32} {w : ex_W} : ex_go X 167 27 [(0, .ref l0), (1, .int l1), (2, .int l2), (3, .int l3)] (.int t0 :: .int t1 :: r) w = if t0 ≤ t1 then ex_go X 167 43 [(0, .ref l0), (2, .int l2)] r w else ex_go X 167 30 [(0, .ref l0), (1, .int l1), (2, .int l2), (3, .int l3)] r w := go_icmp_ge (t := 43) (by decide +kernel : decode (kC 167) 27 = .ok (.if_icmp .ge 16, 3)) (by decide) (ex_tr_k (ks := [0, 2]) (by decide +kernel) rfl) (ex_tr_n (by decide +kernel))
theorem s167_30 {X : Option (List Int32)} {l0 : Nat} {l1 : Int32} {l2 : Int32} {l3 : Int32} {r : List Value} {w : ex_W} : ex_go X 167 30 [(0, .ref l0), (1, .int l1), (2, .int l2), (3, .int l3)] r w = ex_go X 167 31 [(0, .ref l0), (1, .int l1), (2, .int l2), (3, .int l3)] (.ref l0 :: r) w := ex_go_d (by decide +kernel : decode (kC 167) 30 = .ok (.aload_n 0, 1)) rfl rfl (ex_tr_n (by decide +kernel))
theorem s167_31 {X : Option (List Int32)} {l0 : Nat} {l1 : Int32} {l2 : Int32} {l3 : Int32} {r : List Value} {w : ex_W} : ex_go X 167 31 [(0, .ref l0), (1, .int l1), (2, .int l2), (3, .int l3)] r w = ex_go X 167 32 [(0, .ref l0), (1, .int l1), (2, .int l2), (3, .int l3)] (.int 2 :: r) w := go_iconst (by decide +kernel : decode (kC 167) 31 = .ok (.iconst 2, 1)) (by decide +kernel) (ex_tr_n (by decide +kernel))
theorem s167_32 {X : Option (List Int32)} {l0 : Nat} {l1 : Int32} {l2 : Int32} {l3 : Int32} {r : List Value} {w : ex_W} : ex_go X 167 32 [(0, .ref l0), (1, .int l1), (2, .int l2), (3, .int l3)] r w = ex_go X 167 33 [(0, .ref l0), (1, .int l1), (2, .int l2), (3, .int l3)] (.int l2 :: r) w := ex_go_d (by decide +kernel : decode (kC 167) 32 = .ok (.iload_n 2, 1)) rfl rfl (ex_tr_n (by decide +kernel))
theorem s167_33 {X : Option (List Int32)} {l0 : Nat} {l1 : Int32} {l2 : Int32} {l3 : Int32} {t0 : Int32} {t1 : Int32} {t2 : Nat} {w : ex_W} (hr : ex_rc w t2 8 = true) : ex_go X 167 33 [(0, .ref l0), (1, .int l1), (2, .int l2), (3, .int l3)] [.int t0, .int t1, .ref t2] w = (ex_call X 166 [.ref t2, .int t1, .int t0] w).bind (fun q => ex_go X 167 36 [(0, .ref l0), (1, .int l1), (2, .int l2), (3, .int l3)] (q.1.toList ++ []) q.2) := go_virt (by decide +kernel : decode (kC 167) 33 = .ok (.invokevirtual 290, 3)) (by decide +kernel : kM (kO 167) 290 = some (166, 0)) (ex_pop_i (n := 3) (by decide +kernel) rfl) (ex_lv_i (n1 := 3) (n2 := 0) (by decide +kernel) rfl rfl) (ex_tr_n (by decide +kernel)) (ex_rc_i (by decide +kernel) hr)
theorem s167_36 {X : Option (List Int32)} {l0 : Nat} {l1 : Int32} {l2 : Int32} {l3 : Int32} {r : List Value} {t : Int32} {w : ex_W} : ex_go X 167 36 [(0, .ref l0), (1, .int l1), (2, .int l2), (3, .int l3)] (.int t :: r) w = ex_go X 167 37 [(0, .ref l0), (1, .int l1), (2, .int t), (3, .int l3)] r w := go_stI (i := 2) (pc1 := 37) (L1 := [(0, .ref l0), (1, .int l1), (2, .int t), (3, .int l3)]) (by decide +kernel : decode (kC 167) 36 = .ok (.istore_n 2, 1)) rfl (by decide +kernel) rfl (ex_tr_n (by decide +kernel))
theorem s167_37 {X : Option (List Int32)} {l0 : Nat} {l1 : Int32} {l2 : Int32} {l3 : Int32} {r : List Value} {w : ex_W} : ex_go X 167 37 [(0, .ref l0), (1, .int l1), (2, .int l2), (3, .int l3)] r w = ex_go X 167 40 [(0, .ref l0), (1, .int l1), (2, .int l2), (3, .int (l3 + 1))] r w := go_iinc (i := 3) (x := l3) (v := 1) (by decide +kernel : decode (kC 167) 37 = .ok (.iinc 3 1, 3)) rfl rfl (by decide +kernel) (by decide +kernel) rfl (ex_tr_n (by decide +kernel))
theorem s167_40 {X : Option (List Int32)} {l0 : Nat} {l1 : Int32} {l2 : Int32} {l3 : Int32} {r : List Value} {w : ex_W} : ex_go X 167 40 [(0, .ref l0), (1, .int l1), (2, .int l2), (3, .int l3)] r w = ex_go X 167 25 [(0, .ref l0), (1, .int l1), (2, .int l2), (3, .int l3)] r w := go_goto (t := 25) (by decide +kernel : decode (kC 167) 40 = .ok (.goto (-15), 3)) (by decide) (ex_tr_k (ks := [0, 1, 2, 3]) (by decide +kernel) rfl)
theorem s167_43 {X : Option (List Int32)} {l0 : Nat} {l2 : Int32} {r : List Value} {w : ex_W} : ex_go X 167 43 [(0, .ref l0), (2, .int l2)] r w = ex_go X 167 44 [(0, .ref l0), (2, .int l2)] (.ref l0 :: r) w := ex_go_d (by decide +kernel : decode (kC 167) 43 = .ok (.aload_n 0, 1)) rfl rfl (ex_tr_n (by decide +kernel))
theorem s167_44 {X : Option (List Int32)} {l0 : Nat} {l2 : Int32} {r : List Value} {w : ex_W} : ex_go X 167 44 [(0, .ref l0), (2, .int l2)] r w = ex_go X 167 45 [(0, .ref l0), (2, .int l2)] (.int l2 :: r) w := ex_go_d (by decide +kernel : decode (kC 167) 44 = .ok (.iload_n 2, 1)) rfl rfl (ex_tr_n (by decide +kernel))
theorem s167_45 {X : Option (List Int32)} {l0 : Nat} {l2 : Int32} {r : List Value} {w : ex_W} : ex_go X 167 45 [(0, .ref l0), (2, .int l2)] r w = ex_go X 167 46 [(0, .ref l0), (2, .int l2)] (.int 3 :: r) w := go_iconst (by decide +kernel : decode (kC 167) 45 = .ok (.iconst 3, 1)) (by decide +kernel) (ex_tr_n (by decide +kernel))
theorem s167_46 {X : Option (List Int32)} {l0 : Nat} {l2 : Int32} {r : List Value} {t0 t1 : Int32} {w : ex_W} : ex_go X 167 46 [(0, .ref l0), (2, .int l2)] (.int t0 :: .int t1 :: r) w = ex_go X 167 47 [(0, .ref l0), (2, .int l2)] (.int (t1 + t0) :: r) w := ex_go_d (by decide +kernel : decode (kC 167) 46 = .ok (.iadd, 1)) rfl rfl (ex_tr_n (by decide +kernel))
theorem s167_47 {X : Option (List Int32)} {l0 : Nat} {l2 : Int32} {r : List Value} {w : ex_W} : ex_go X 167 47 [(0, .ref l0), (2, .int l2)] r w = ex_go X 167 48 [(0, .ref l0), (2, .int l2)] (.ref l0 :: r) w := ex_go_d (by decide +kernel : decode (kC 167) 47 = .ok (.aload_n 0, 1)) rfl rfl (ex_tr_n (by decide +kernel))
theorem s167_48 {X : Option (List Int32)} {l0 : Nat} {l2 : Int32} {r : List Value} {t0 : Nat} {w : ex_W} (hh : t0 < 1000) : ex_go X 167 48 [(0, .ref l0), (2, .int l2)] (.ref t0 :: r) w = (ex_gf w t0 8 0).bind (fun v => ex_go X 167 51 [(0, .ref l0), (2, .int l2)] (v :: r) w) := go_getf (by decide +kernel : decode (kC 167) 48 = .ok (.getfield 7, 3)) (by decide +kernel : kF (kO 167) 7 = some (8, 0, false)) (ex_tr_n (by decide +kernel)) hh
theorem s167_51 {X : Option (List Int32)} {l0 : Nat} {l2 : Int32} {r : List Value} {w : ex_W} : ex_go X 167 51 [(0, .ref l0), (2, .int l2)] r w = ex_go X 167 52 [(0, .ref l0), (2, .int l2)] (.int l2 :: r) w := ex_go_d (by decide +kernel : decode (kC 167) 51 = .ok (.iload_n 2, 1)) rfl rfl (ex_tr_n (by decide +kernel))
theorem s167_52 {X : Option (List Int32)} {l0 : Nat} {l2 : Int32} {r : List Value} {w : ex_W} : ex_go X 167 52 [(0, .ref l0), (2, .int l2)] r w = ex_go X 167 53 [(0, .ref l0), (2, .int l2)] (.int 2 :: r) w := go_iconst (by decide +kernel : decode (kC 167) 52 = .ok (.iconst 2, 1)) (by decide +kernel) (ex_tr_n (by decide +kernel))
theorem s167_53 {X : Option (List Int32)} {l0 : Nat} {l2 : Int32} {r : List Value} {t0 t1 : Int32} {w : ex_W} : ex_go X 167 53 [(0, .ref l0), (2, .int l2)] (.int t0 :: .int t1 :: r) w = ex_go X 167 54 [(0, .ref l0), (2, .int l2)] (.int (t1 + t0) :: r) w := ex_go_d (by decide +kernel : decode (kC 167) 53 = .ok (.iadd, 1)) rfl rfl (ex_tr_n (by decide +kernel))
theorem s167_54 {X : Option (List Int32)} {l0 : Nat} {l2 : Int32} {r : List Value} {t0 : Int32} {t1 : Nat} {w : ex_W} (hh : t1 < 1000) : ex_go X 167 54 [(0, .ref l0), (2, .int l2)] (.int t0 :: .ref t1 :: r) w = (ex_al w t1 0 t0).bind (fun v => ex_go X 167 55 [(0, .ref l0), (2, .int l2)] (.int v :: r) w) := go_iald (by decide +kernel : decode (kC 167) 54 = .ok (.iaload, 1)) (ex_tr_n (by decide +kernel)) hh
theorem s167_55 {X : Option (List Int32)} {l0 : Nat} {l2 : Int32} {t0 : Int32} {t1 : Int32} {t2 : Nat} {w : ex_W} (hr : ex_rc w t2 8 = true) : ex_go X 167 55 [(0, .ref l0), (2, .int l2)] [.int t0, .int t1, .ref t2] w = (ex_call X 118 [.ref t2, .int t1, .int t0] w).bind (fun q => ex_go X 167 58 [(0, .ref l0), (2, .int l2)] (q.1.toList ++ []) q.2) := go_virt (by decide +kernel : decode (kC 167) 55 = .ok (.invokevirtual 136, 3)) (by decide +kernel : kM (kO 167) 136 = some (118, 0)) (ex_pop_i (n := 3) (by decide +kernel) rfl) (ex_lv_i (n1 := 3) (n2 := 0) (by decide +kernel) rfl rfl) (ex_tr_n (by decide +kernel)) (ex_rc_i (by decide +kernel) hr)
theorem s167_58 {X : Option (List Int32)} {l0 : Nat} {l2 : Int32} {r : List Value} {t0 : Int32} {w : ex_W} : ex_go X 167 58 [(0, .ref l0), (2, .int l2)] (.int t0 :: r) w = if t0 = 0 then ex_go X 167 65 [] r w else ex_go X 167 61 [(0, .ref l0), (2, .int l2)] r w := go_if_eq (t := 65) (by decide +kernel : decode (kC 167) 58 = .ok (.ifCond .eq 7, 3)) (by decide) (ex_tr_k (ks := []) (by decide +kernel) rfl) (ex_tr_n (by decide +kernel))
theorem s167_61 {X : Option (List Int32)} {l0 : Nat} {l2 : Int32} {r : List Value} {w : ex_W} : ex_go X 167 61 [(0, .ref l0), (2, .int l2)] r w = ex_go X 167 62 [(0, .ref l0), (2, .int l2)] (.int 1 :: r) w := go_iconst (by decide +kernel : decode (kC 167) 61 = .ok (.iconst 1, 1)) (by decide +kernel) (ex_tr_n (by decide +kernel))
theorem s167_62 {X : Option (List Int32)} {l0 : Nat} {l2 : Int32} {r : List Value} {w : ex_W} : ex_go X 167 62 [(0, .ref l0), (2, .int l2)] r w = ex_go X 167 66 [] r w := go_goto (t := 66) (by decide +kernel : decode (kC 167) 62 = .ok (.goto 4, 3)) (by decide) (ex_tr_k (ks := []) (by decide +kernel) rfl)
theorem s167_65 {X : Option (List Int32)} {r : List Value} {w : ex_W} : ex_go X 167 65 [] r w = ex_go X 167 66 [] (.int 0 :: r) w := go_iconst (by decide +kernel : decode (kC 167) 65 = .ok (.iconst 0, 1)) (by decide +kernel) (ex_tr_k (ks := []) (by decide +kernel) rfl)
theorem s167_66 {X : Option (List Int32)} {t0 : Int32} {w : ex_W} : ex_go X 167 66 [] [.int t0] w = some (some (.int t0), w) := go_ireturn (by decide +kernel : decode (kC 167) 66 = .ok (.ireturn, 1)) (by decide +kernel : kR 167 = some .int) rfl
end
section
/-! the world's cells, read and written; the methods of a row -/
section EXW
variable {w : ex_W} {h a ci k n kd : Nat} {fs : List Value} {xs : List Int32} {v : Value} {x : Int32}
theorem ex_gf_i (hw : w[h]? = some (.inl (ci, fs))) : ex_gf w h ci k = fs[k]? := by unfold ex_gf; rw [hw]; exact if_pos rfl
theorem ex_pf_i (hw : w[h]? = some (.inl (ci, fs))) (hk : k < fs.length) : ex_pf w h ci k v = some (w.set h (.inl (ci, fs.set k v))) := by unfold ex_pf; rw [hw]; exact if_pos ⟨rfl, hk⟩
theorem ex_an_i (hw : w[a]? = some (.inr (kd, xs))) : ex_an w a = some (nI xs.length) := by unfold ex_an; rw [hw]; rfl
theorem ex_al_i (hw : w[a]? = some (.inr (kd, xs))) (hn : n < xs.length) (hx : xs.length < 2 ^ 31) : ex_al w a kd (nI n) = some (xs.getD n 0) := by
  unfold ex_al
  rw [hw]
  dsimp only
  rw [if_pos ⟨rfl, nI_pos (by omega)⟩, nI_clamp (by omega), List.getD_eq_getElem?_getD, List.getElem?_eq_getElem hn]
  rfl
theorem ex_as_i (hw : w[a]? = some (.inr (kd, xs))) (hn : n < xs.length) (hx : xs.length < 2 ^ 31) : ex_as w a kd (nI n) x = some (w.set a (.inr (kd, xs.set n x))) := by
  unfold ex_as
  rw [hw]
  dsimp only
  rw [nI_clamp (by omega), if_pos ⟨rfl, nI_pos (by omega), hn⟩]
theorem ex_rc_o (hw : w[h]? = some (.inl (ci, fs))) (hh : h < 1000) (hc : ci < 999) : ex_rc w h ci = true := by
  unfold ex_rc
  rw [if_neg (by omega), hw]
  dsimp only
  rw [decide_eq_true hh]
  simp
theorem ex_ne (hw : w[h]? = some (.inl (ci, fs))) (ha : w[a]? = some (.inr (kd, xs))) : a ≠ h := by
  intro e
  subst e
  rw [hw] at ha
  cases ha
theorem ex_set_o {i j : Nat} {c : ex_C} {d : ex_C} (h1 : i ≠ j) (h2 : w[j]? = some d) : (w.set i c)[j]? = some d := by rw [List.getElem?_set_ne h1]; exact h2
theorem ex_set_s {i : Nat} {c d : ex_C} (h2 : w[i]? = some d) : (w.set i c)[i]? = some c := by
  rw [List.getElem?_set_self (List.getElem?_eq_some_iff.mp h2).1]
end EXW
/-- a row at h: its cells xs stand at a, n of them are used -/
def isRow (w : ex_W) (h a : Nat) (xs : List Int32) (n : Nat) : Prop := w[h]? = some (.inl (1, [.ref a, .int (nI n)])) ∧ w[a]? = some (.inr (0, xs)) ∧ n ≤ xs.length ∧ xs.length < 2 ^ 20 ∧ h < 1000 ∧ a < 1000
def rowW (w : ex_W) (h a : Nat) (xs : List Int32) (n : Nat) : ex_W := (w.set a (.inr (0, xs))).set h (.inl (1, [.ref a, .int (nI n)]))
section ROWB
variable {w : ex_W} {h a n n2 : Nat} {xs ys : List Int32}
theorem isRow.ne (R : isRow w h a xs n) : a ≠ h := ex_ne R.1 R.2.1
theorem rowW_is (R : isRow w h a xs n) (hl : ys.length = xs.length) (hn : n2 ≤ ys.length) : isRow (rowW w h a ys n2) h a ys n2 := by
  have hne := R.ne
  refine ⟨?_, ?_, hn, by rw [hl]; exact R.2.2.2.1, R.2.2.2.2⟩
  · unfold rowW
    exact ex_set_s (ex_set_o hne R.1)
  · unfold rowW
    exact ex_set_o (Ne.symm hne) (ex_set_s R.2.1)
theorem rowW_o {j : Nat} (h1 : j ≠ h) (h2 : j ≠ a) : (rowW w h a xs n)[j]? = w[j]? := by
  unfold rowW
  rw [List.getElem?_set_ne (Ne.symm h1), List.getElem?_set_ne (Ne.symm h2)]
theorem rowW_len : (rowW w h a xs n).length = w.length := by unfold rowW; rw [List.length_set, List.length_set]
theorem rowW_w (hne : a ≠ h) : rowW (rowW w h a xs n) h a ys n2 = rowW w h a ys n2 := by
  unfold rowW
  rw [List.set_comm _ _ (Ne.symm hne), List.set_set, List.set_set]
theorem rowW_self (R : isRow w h a xs n) : rowW w h a xs n = w := by
  obtain ⟨h1, h2, -⟩ := R
  unfold rowW
  apply List.ext_getElem?
  intro i
  rw [List.getElem?_set]
  by_cases e : h = i
  · subst e
    rw [if_pos rfl, List.length_set, if_pos (List.getElem?_eq_some_iff.mp h1).1, h1]
  · rw [if_neg e, List.getElem?_set]
    by_cases e2 : a = i
    · subst e2
      rw [if_pos rfl, if_pos (List.getElem?_eq_some_iff.mp h2).1, h2]
    · rw [if_neg e2]
end ROWB
/-- a list laid into another from a place on -/
def putL (xs : List Int32) (n : Nat) : List Int32 → List Int32
  | [] => xs
  | v :: t => putL (xs.set n v) (n + 1) t
theorem putL_len : ∀ (l xs : List Int32) (n : Nat), (putL xs n l).length = xs.length
  | [], _, _ => rfl
  | v :: t, xs, n => by rw [putL, putL_len t]; exact List.length_set
theorem putL_app : ∀ (l m xs : List Int32) (n : Nat), putL xs n (l ++ m) = putL (putL xs n l) (n + l.length) m
  | [], m, xs, n => rfl
  | v :: t, m, xs, n => by
    show putL (xs.set n v) (n + 1) (t ++ m) = putL (putL (xs.set n v) (n + 1) t) (n + (t.length + 1)) m
    rw [putL_app t m, show n + 1 + t.length = n + (t.length + 1) by omega]
/-- a cell of a row's used part -/
def rowAt (xs : List Int32) (n : Nat) (d i : Int32) : Int32 := if i < 0 then d else if i < nI n then xs.getD i.toNatClampNeg 0 else d
/-- the lowest bytes of a word, the highest of them first -/
def lowB (word : Int32) : Nat → List Int32
  | 0 => []
  | k + 1 => ((word >>> (((8 : Int32) * nI k) &&& 31)) &&& 255) :: lowB word k
section ROW
variable {X : Option (List Int32)} {w : ex_W} {h a n : Nat} {xs : List Int32} {v i : Int32}
theorem r_append (R : isRow w h a xs n) (hn : n < xs.length) : ex_call X 17 [.ref h, .int v] w = some (none, rowW w h a (xs.set n v) (n + 1)) := by
  obtain ⟨hw, ha, hle, hx, h1, h2⟩ := R
  have hne := ex_ne hw ha
  have hw1 := ex_set_o (c := .inr (0, xs.set n v)) hne hw
  show ex_go X 17 0 [(0, .ref h), (1, .int v)] [] w = _
  simp only [s17_0, s17_1 h1, s17_4, s17_5 h1, s17_8 h2, s17_9, s17_12, s17_13 h1, s17_16, s17_17 h1, s17_20, s17_21 h2, s17_22, s17_23, s17_24 h1, s17_27, s17_28, s17_29 h1, s17_32, ex_gf_i hw, ex_gf_i hw1, ex_an_i ha, ex_as_i ha hn (by omega), ex_pf_i hw1 (k := 1) (by simp), List.getElem?_cons_zero, List.getElem?_cons_succ, Option.bind_some]
  rw [if_neg (nI_ge hn (by omega)), nI_1]
  rfl
theorem r_appendFull (R : isRow w h a xs n) (hn : n = xs.length) : ex_call X 17 [.ref h, .int v] w = some (none, w) := by
  obtain ⟨hw, ha, hle, hx, h1, h2⟩ := R
  show ex_go X 17 0 [(0, .ref h), (1, .int v)] [] w = _
  simp only [s17_0, s17_1 h1, s17_4, s17_5 h1, s17_8 h2, s17_9, s17_32, ex_gf_i hw, ex_an_i ha, List.getElem?_cons_zero, List.getElem?_cons_succ, Option.bind_some]
  rw [if_pos (nI_le (by omega) (by omega))]
theorem r_cell (R : isRow w h a xs n) : ex_call X 18 [.ref h, .int i] w = some (some (.int (rowAt xs n 0 i)), w) := by
  obtain ⟨hw, ha, hle, hx, h1, h2⟩ := R
  show ex_go X 18 0 [(0, .ref h), (1, .int i)] [] w = _
  simp only [s18_0, s18_1, s18_4, s18_5, s18_6 h1, s18_9, s18_12, s18_13, s18_16, s18_17 h1, s18_20, s18_21 h2, s18_22, ex_gf_i hw, List.getElem?_cons_zero, List.getElem?_cons_succ, Option.bind_some]
  unfold rowAt
  by_cases c1 : i < 0
  · rw [if_pos c1, if_pos c1]
  · rw [if_neg c1, if_neg c1]
    by_cases c2 : i < nI n
    · rw [if_pos c2, if_pos c2]
      obtain ⟨j, hj, rfl⟩ := nI_of c1
      have hj2 : j < n := by
        rcases Nat.lt_or_ge j n with z | z
        · exact z
        · exact absurd c2 (nI_nlt z hj)
      rw [ex_al_i ha (by omega) (by omega), nI_clamp hj]
      rfl
    · rw [if_neg c2, if_neg c2]
theorem r_cellOrNone (R : isRow w h a xs n) : ex_call X 23 [.ref h, .int i] w = some (some (.int (rowAt xs n (-1) i)), w) := by
  obtain ⟨hw, ha, hle, hx, h1, h2⟩ := R
  show ex_go X 23 0 [(0, .ref h), (1, .int i)] [] w = _
  simp only [s23_0, s23_1, s23_4, s23_5, s23_6 h1, s23_9, s23_12, s23_13, s23_16, s23_17 h1, s23_20, s23_21 h2, s23_22, ex_gf_i hw, List.getElem?_cons_zero, List.getElem?_cons_succ, Option.bind_some]
  unfold rowAt
  by_cases c1 : i < 0
  · rw [if_pos c1, if_pos c1]
  · rw [if_neg c1, if_neg c1]
    by_cases c2 : i < nI n
    · rw [if_pos c2, if_pos c2]
      obtain ⟨j, hj, rfl⟩ := nI_of c1
      have hj2 : j < n := by
        rcases Nat.lt_or_ge j n with z | z
        · exact z
        · exact absurd c2 (nI_nlt z hj)
      rw [ex_al_i ha (by omega) (by omega), nI_clamp hj]
      rfl
    · rw [if_neg c2, if_neg c2]
theorem r_empty (R : isRow w h a xs n) : ex_call X 16 [.ref h] w = some (none, rowW w h a xs 0) := by
  have R0 := R
  obtain ⟨hw, ha, hle, hx, h1, h2⟩ := R
  show ex_go X 16 0 [(0, .ref h)] [] w = _
  simp only [s16_0, s16_1, s16_2 h1, s16_5, ex_pf_i hw (k := 1) (by simp), Option.bind_some]
  have e : rowW w h a xs 0 = rowW (rowW w h a xs n) h a xs 0 := (rowW_w R0.ne).symm
  rw [e, rowW_self R0]
  unfold rowW
  have e2 : w.set a (.inr (0, xs)) = w := by
    apply List.ext_getElem?
    intro i
    rw [List.getElem?_set]
    by_cases e2 : a = i
    · subst e2
      rw [if_pos rfl, if_pos (List.getElem?_eq_some_iff.mp ha).1, ha]
    · rw [if_neg e2]
  rw [e2]
  rfl
theorem r_lowLoop {word : Int32} : ∀ (k n : Nat) (xs : List Int32) (w : ex_W), isRow w h a xs n → n + k ≤ xs.length → k < 1000 → ex_go X 21 4 [(0, .ref h), (1, .int word), (3, .int (nI k - 1))] [] w = some (none, rowW w h a (putL xs n (lowB word k)) (n + k)) := by
  intro k
  induction k with
  | zero =>
    intro n xs w R hk _
    have e : nI 0 - 1 < 0 := by decide
    simp only [s21_4, s21_5, if_pos e, s21_28]
    show some (none, w) = some (none, rowW w h a xs n)
    rw [rowW_self R]
  | succ k ih =>
    intro n xs w R hk hb
    rw [nI_pred]
    have e : ¬ nI k < 0 := nI_pos (by omega)
    have R1 := rowW_is (ys := xs.set n ((word >>> (((8 : Int32) * nI k) &&& 31)) &&& 255)) (n2 := n + 1) R List.length_set (by rw [List.length_set]; omega)
    rw [s21_4]
    simp only [s21_5, if_neg e, s21_8, s21_9, s21_10, s21_12, s21_13, s21_14, s21_15, s21_18, s21_19 (ex_rc_o R.1 R.2.2.2.2.1 (by decide)), r_append R (by omega), Option.bind_some, Option.toList_none, List.nil_append, s21_22, s21_25]
    have e2 : nI k + -1 = nI k - 1 := by rw [Int32.sub_eq_add_neg]
    rw [e2, ih (n + 1) _ _ R1 (by rw [List.length_set]; omega) (by omega), rowW_w R.ne, show n + 1 + k = n + (k + 1) by omega]
    rfl
theorem r_low {word : Int32} {k : Nat} (R : isRow w h a xs n) (hk : n + k ≤ xs.length) (hb : k < 1000) : ex_call X 21 [.ref h, .int word, .int (nI k)] w = some (none, rowW w h a (putL xs n (lowB word k)) (n + k)) := by
  show ex_go X 21 0 [(0, .ref h), (1, .int word), (2, .int (nI k))] [] w = _
  simp only [s21_0, s21_1, s21_2, s21_3]
  exact r_lowLoop k n xs w R hk hb
end ROW
end
section
/-! the law's loop, over any relation between the two objects that each call keeps -/
/-- a call on both: the same answer, and the world behind both -/
def pr (mc mm : Nat) (av : List Value) (w : ex_W) (Q : ex_W → Prop) : Prop := ∃ r w1 w2, ex_rc w 0 0 = true ∧ ex_call none mc (.ref 0 :: av) w = some (some (.int r), w1) ∧ ex_rc w1 32 8 = true ∧ ex_call none mm (.ref 32 :: av) w1 = some (some (.int r), w2) ∧ Q w2
theorem nI_2 (a : Nat) : nI a + 2 = nI (a + 2) := nI_add a 2
theorem nI_3 (a : Nat) : nI a + 3 = nI (a + 3) := nI_add a 3
theorem lw_get {xs : List Int32} {k : Nat} (hk : k < xs.length) (hx : xs.length < 2 ^ 20) : xs[(nI k).toNatClampNeg]? = some (xs.getD k 0) := by
  rw [nI_clamp (by omega), List.getD_eq_getElem?_getD, List.getElem?_eq_getElem hk]
  rfl
theorem lw_c0 {xs : List Int32} {i : Nat} {w : ex_W} {Q : ex_W → Prop} (hi : i + 2 < xs.length) (hx : xs.length < 2 ^ 20) (h : pr 2 128 [.int (xs.getD (i + 1) 0), .int (xs.getD (i + 2) 0)] w Q) : ∃ w2, Q w2 ∧ ex_go (some xs) 0 92 [(0, .ref 1000), (1, .ref 0), (2, .ref 32), (3, .int (nI i))] [] w = ex_go (some xs) 0 315 [(0, .ref 1000), (1, .ref 0), (2, .ref 32), (3, .int (nI i))] [] w2 := by
  obtain ⟨r, w1, w2, hr1, c1, hr2, c2, hq⟩ := h
  have c1 := ex_call_up (xs := xs) c1
  have c2 := ex_call_up (xs := xs) c2
  have n1 : ¬ nI (i + 1) < 0 := nI_pos (by omega)
  have n2 : ¬ nI (i + 2) < 0 := nI_pos (by omega)
  have g1 := lw_get (k := i + 1) (show i + 1 < xs.length by omega) hx
  have g2 := lw_get (k := i + 2) hi hx
  refine ⟨w2, hq, ?_⟩
  simp only [s0_92, s0_93, s0_94, s0_95, s0_96, s0_97 n1, s0_98, s0_99, s0_100, s0_101, s0_102 n2, s0_103 hr1, s0_106, s0_107, s0_108, s0_109, s0_110, s0_111 n1, s0_112, s0_113, s0_114, s0_115, s0_116 n2, s0_117 hr2, s0_120, nI_1, nI_2, g1, g2, Option.bind_some, c1, c2, Option.toList_some, List.cons_append, List.nil_append, if_true]
theorem lw_c1 {xs : List Int32} {i : Nat} {w : ex_W} {Q : ex_W → Prop} (hi : i + 2 < xs.length) (hx : xs.length < 2 ^ 20) (h : pr 3 129 [] w Q) : ∃ w2, Q w2 ∧ ex_go (some xs) 0 125 [(0, .ref 1000), (1, .ref 0), (2, .ref 32), (3, .int (nI i))] [] w = ex_go (some xs) 0 315 [(0, .ref 1000), (1, .ref 0), (2, .ref 32), (3, .int (nI i))] [] w2 := by
  obtain ⟨r, w1, w2, hr1, c1, hr2, c2, hq⟩ := h
  have c1 := ex_call_up (xs := xs) c1
  have c2 := ex_call_up (xs := xs) c2
  have n1 : ¬ nI (i + 1) < 0 := nI_pos (by omega)
  have n2 : ¬ nI (i + 2) < 0 := nI_pos (by omega)
  have g1 := lw_get (k := i + 1) (show i + 1 < xs.length by omega) hx
  have g2 := lw_get (k := i + 2) hi hx
  refine ⟨w2, hq, ?_⟩
  simp only [s0_125, s0_126 hr1, s0_129, s0_130 hr2, s0_133, nI_1, nI_2, g1, g2, Option.bind_some, c1, c2, Option.toList_some, List.cons_append, List.nil_append, if_true]
theorem lw_c2 {xs : List Int32} {i : Nat} {w : ex_W} {Q : ex_W → Prop} (hi : i + 2 < xs.length) (hx : xs.length < 2 ^ 20) (h : pr 5 134 [.int (xs.getD (i + 1) 0), .int (xs.getD (i + 2) 0)] w Q) : ∃ w2, Q w2 ∧ ex_go (some xs) 0 138 [(0, .ref 1000), (1, .ref 0), (2, .ref 32), (3, .int (nI i))] [] w = ex_go (some xs) 0 315 [(0, .ref 1000), (1, .ref 0), (2, .ref 32), (3, .int (nI i))] [] w2 := by
  obtain ⟨r, w1, w2, hr1, c1, hr2, c2, hq⟩ := h
  have c1 := ex_call_up (xs := xs) c1
  have c2 := ex_call_up (xs := xs) c2
  have n1 : ¬ nI (i + 1) < 0 := nI_pos (by omega)
  have n2 : ¬ nI (i + 2) < 0 := nI_pos (by omega)
  have g1 := lw_get (k := i + 1) (show i + 1 < xs.length by omega) hx
  have g2 := lw_get (k := i + 2) hi hx
  refine ⟨w2, hq, ?_⟩
  simp only [s0_138, s0_139, s0_140, s0_141, s0_142, s0_143 n1, s0_144, s0_145, s0_146, s0_147, s0_148 n2, s0_149 hr1, s0_152, s0_153, s0_154, s0_155, s0_156, s0_157 n1, s0_158, s0_159, s0_160, s0_161, s0_162 n2, s0_163 hr2, s0_166, nI_1, nI_2, g1, g2, Option.bind_some, c1, c2, Option.toList_some, List.cons_append, List.nil_append, if_true]
theorem lw_c3 {xs : List Int32} {i : Nat} {w : ex_W} {Q : ex_W → Prop} (hi : i + 2 < xs.length) (hx : xs.length < 2 ^ 20) (h : pr 7 135 [] w Q) : ∃ w2, Q w2 ∧ ex_go (some xs) 0 171 [(0, .ref 1000), (1, .ref 0), (2, .ref 32), (3, .int (nI i))] [] w = ex_go (some xs) 0 315 [(0, .ref 1000), (1, .ref 0), (2, .ref 32), (3, .int (nI i))] [] w2 := by
  obtain ⟨r, w1, w2, hr1, c1, hr2, c2, hq⟩ := h
  have c1 := ex_call_up (xs := xs) c1
  have c2 := ex_call_up (xs := xs) c2
  have n1 : ¬ nI (i + 1) < 0 := nI_pos (by omega)
  have n2 : ¬ nI (i + 2) < 0 := nI_pos (by omega)
  have g1 := lw_get (k := i + 1) (show i + 1 < xs.length by omega) hx
  have g2 := lw_get (k := i + 2) hi hx
  refine ⟨w2, hq, ?_⟩
  simp only [s0_171, s0_172 hr1, s0_175, s0_176 hr2, s0_179, nI_1, nI_2, g1, g2, Option.bind_some, c1, c2, Option.toList_some, List.cons_append, List.nil_append, if_true]
theorem lw_c4 {xs : List Int32} {i : Nat} {w : ex_W} {Q : ex_W → Prop} (hi : i + 2 < xs.length) (hx : xs.length < 2 ^ 20) (h : pr 8 160 [] w Q) : ∃ w2, Q w2 ∧ ex_go (some xs) 0 184 [(0, .ref 1000), (1, .ref 0), (2, .ref 32), (3, .int (nI i))] [] w = ex_go (some xs) 0 315 [(0, .ref 1000), (1, .ref 0), (2, .ref 32), (3, .int (nI i))] [] w2 := by
  obtain ⟨r, w1, w2, hr1, c1, hr2, c2, hq⟩ := h
  have c1 := ex_call_up (xs := xs) c1
  have c2 := ex_call_up (xs := xs) c2
  have n1 : ¬ nI (i + 1) < 0 := nI_pos (by omega)
  have n2 : ¬ nI (i + 2) < 0 := nI_pos (by omega)
  have g1 := lw_get (k := i + 1) (show i + 1 < xs.length by omega) hx
  have g2 := lw_get (k := i + 2) hi hx
  refine ⟨w2, hq, ?_⟩
  simp only [s0_184, s0_185 hr1, s0_188, s0_189 hr2, s0_192, nI_1, nI_2, g1, g2, Option.bind_some, c1, c2, Option.toList_some, List.cons_append, List.nil_append, if_true]
theorem lw_c5 {xs : List Int32} {i : Nat} {w : ex_W} {Q : ex_W → Prop} (hi : i + 2 < xs.length) (hx : xs.length < 2 ^ 20) (h : pr 9 161 [.int (xs.getD (i + 1) 0)] w Q) : ∃ w2, Q w2 ∧ ex_go (some xs) 0 197 [(0, .ref 1000), (1, .ref 0), (2, .ref 32), (3, .int (nI i))] [] w = ex_go (some xs) 0 315 [(0, .ref 1000), (1, .ref 0), (2, .ref 32), (3, .int (nI i))] [] w2 := by
  obtain ⟨r, w1, w2, hr1, c1, hr2, c2, hq⟩ := h
  have c1 := ex_call_up (xs := xs) c1
  have c2 := ex_call_up (xs := xs) c2
  have n1 : ¬ nI (i + 1) < 0 := nI_pos (by omega)
  have n2 : ¬ nI (i + 2) < 0 := nI_pos (by omega)
  have g1 := lw_get (k := i + 1) (show i + 1 < xs.length by omega) hx
  have g2 := lw_get (k := i + 2) hi hx
  refine ⟨w2, hq, ?_⟩
  simp only [s0_197, s0_198, s0_199, s0_200, s0_201, s0_202 n1, s0_203 hr1, s0_206, s0_207, s0_208, s0_209, s0_210, s0_211 n1, s0_212 hr2, s0_215, nI_1, nI_2, g1, g2, Option.bind_some, c1, c2, Option.toList_some, List.cons_append, List.nil_append, if_true]
theorem lw_c6 {xs : List Int32} {i : Nat} {w : ex_W} {Q : ex_W → Prop} (hi : i + 2 < xs.length) (hx : xs.length < 2 ^ 20) (h : pr 10 162 [] w Q) : ∃ w2, Q w2 ∧ ex_go (some xs) 0 220 [(0, .ref 1000), (1, .ref 0), (2, .ref 32), (3, .int (nI i))] [] w = ex_go (some xs) 0 315 [(0, .ref 1000), (1, .ref 0), (2, .ref 32), (3, .int (nI i))] [] w2 := by
  obtain ⟨r, w1, w2, hr1, c1, hr2, c2, hq⟩ := h
  have c1 := ex_call_up (xs := xs) c1
  have c2 := ex_call_up (xs := xs) c2
  have n1 : ¬ nI (i + 1) < 0 := nI_pos (by omega)
  have n2 : ¬ nI (i + 2) < 0 := nI_pos (by omega)
  have g1 := lw_get (k := i + 1) (show i + 1 < xs.length by omega) hx
  have g2 := lw_get (k := i + 2) hi hx
  refine ⟨w2, hq, ?_⟩
  simp only [s0_220, s0_221 hr1, s0_224, s0_225 hr2, s0_228, nI_1, nI_2, g1, g2, Option.bind_some, c1, c2, Option.toList_some, List.cons_append, List.nil_append, if_true]
theorem lw_c7 {xs : List Int32} {i : Nat} {w : ex_W} {Q : ex_W → Prop} (hi : i + 2 < xs.length) (hx : xs.length < 2 ^ 20) (h : pr 11 163 [.int (xs.getD (i + 1) 0)] w Q) : ∃ w2, Q w2 ∧ ex_go (some xs) 0 233 [(0, .ref 1000), (1, .ref 0), (2, .ref 32), (3, .int (nI i))] [] w = ex_go (some xs) 0 315 [(0, .ref 1000), (1, .ref 0), (2, .ref 32), (3, .int (nI i))] [] w2 := by
  obtain ⟨r, w1, w2, hr1, c1, hr2, c2, hq⟩ := h
  have c1 := ex_call_up (xs := xs) c1
  have c2 := ex_call_up (xs := xs) c2
  have n1 : ¬ nI (i + 1) < 0 := nI_pos (by omega)
  have n2 : ¬ nI (i + 2) < 0 := nI_pos (by omega)
  have g1 := lw_get (k := i + 1) (show i + 1 < xs.length by omega) hx
  have g2 := lw_get (k := i + 2) hi hx
  refine ⟨w2, hq, ?_⟩
  simp only [s0_233, s0_234, s0_235, s0_236, s0_237, s0_238 n1, s0_239 hr1, s0_242, s0_243, s0_244, s0_245, s0_246, s0_247 n1, s0_248 hr2, s0_251, nI_1, nI_2, g1, g2, Option.bind_some, c1, c2, Option.toList_some, List.cons_append, List.nil_append, if_true]
theorem lw_c8 {xs : List Int32} {i : Nat} {w : ex_W} {Q : ex_W → Prop} (hi : i + 2 < xs.length) (hx : xs.length < 2 ^ 20) (h : pr 12 164 [.int (xs.getD (i + 1) 0)] w Q) : ∃ w2, Q w2 ∧ ex_go (some xs) 0 256 [(0, .ref 1000), (1, .ref 0), (2, .ref 32), (3, .int (nI i))] [] w = ex_go (some xs) 0 315 [(0, .ref 1000), (1, .ref 0), (2, .ref 32), (3, .int (nI i))] [] w2 := by
  obtain ⟨r, w1, w2, hr1, c1, hr2, c2, hq⟩ := h
  have c1 := ex_call_up (xs := xs) c1
  have c2 := ex_call_up (xs := xs) c2
  have n1 : ¬ nI (i + 1) < 0 := nI_pos (by omega)
  have n2 : ¬ nI (i + 2) < 0 := nI_pos (by omega)
  have g1 := lw_get (k := i + 1) (show i + 1 < xs.length by omega) hx
  have g2 := lw_get (k := i + 2) hi hx
  refine ⟨w2, hq, ?_⟩
  simp only [s0_256, s0_257, s0_258, s0_259, s0_260, s0_261 n1, s0_262 hr1, s0_265, s0_266, s0_267, s0_268, s0_269, s0_270 n1, s0_271 hr2, s0_274, nI_1, nI_2, g1, g2, Option.bind_some, c1, c2, Option.toList_some, List.cons_append, List.nil_append, if_true]
theorem lw_c9 {xs : List Int32} {i : Nat} {w : ex_W} {Q : ex_W → Prop} (hi : i + 2 < xs.length) (hx : xs.length < 2 ^ 20) (h : pr 13 167 [.int (xs.getD (i + 1) 0)] w Q) : ∃ w2, Q w2 ∧ ex_go (some xs) 0 279 [(0, .ref 1000), (1, .ref 0), (2, .ref 32), (3, .int (nI i))] [] w = ex_go (some xs) 0 315 [(0, .ref 1000), (1, .ref 0), (2, .ref 32), (3, .int (nI i))] [] w2 := by
  obtain ⟨r, w1, w2, hr1, c1, hr2, c2, hq⟩ := h
  have c1 := ex_call_up (xs := xs) c1
  have c2 := ex_call_up (xs := xs) c2
  have n1 : ¬ nI (i + 1) < 0 := nI_pos (by omega)
  have n2 : ¬ nI (i + 2) < 0 := nI_pos (by omega)
  have g1 := lw_get (k := i + 1) (show i + 1 < xs.length by omega) hx
  have g2 := lw_get (k := i + 2) hi hx
  refine ⟨w2, hq, ?_⟩
  simp only [s0_279, s0_280, s0_281, s0_282, s0_283, s0_284 n1, s0_285 hr1, s0_288, s0_289, s0_290, s0_291, s0_292, s0_293 n1, s0_294 hr2, s0_297, nI_1, nI_2, g1, g2, Option.bind_some, c1, c2, Option.toList_some, List.cons_append, List.nil_append, if_true]
theorem lw_c10 {xs : List Int32} {i : Nat} {w : ex_W} {Q : ex_W → Prop} (hi : i + 2 < xs.length) (hx : xs.length < 2 ^ 20) (h : pr 14 168 [] w Q) : ∃ w2, Q w2 ∧ ex_go (some xs) 0 302 [(0, .ref 1000), (1, .ref 0), (2, .ref 32), (3, .int (nI i))] [] w = ex_go (some xs) 0 315 [(0, .ref 1000), (1, .ref 0), (2, .ref 32), (3, .int (nI i))] [] w2 := by
  obtain ⟨r, w1, w2, hr1, c1, hr2, c2, hq⟩ := h
  have c1 := ex_call_up (xs := xs) c1
  have c2 := ex_call_up (xs := xs) c2
  have n1 : ¬ nI (i + 1) < 0 := nI_pos (by omega)
  have n2 : ¬ nI (i + 2) < 0 := nI_pos (by omega)
  have g1 := lw_get (k := i + 1) (show i + 1 < xs.length by omega) hx
  have g2 := lw_get (k := i + 2) hi hx
  refine ⟨w2, hq, ?_⟩
  simp only [s0_302, s0_303 hr1, s0_306, s0_307 hr2, s0_310, nI_1, nI_2, g1, g2, Option.bind_some, c1, c2, Option.toList_some, List.cons_append, List.nil_append, if_true]
/-- every call of the law keeps the relation -/
def StepOK (P Q : ex_W → Prop) : Prop := ∀ w, P w → (∀ a b : Int32, pr 2 128 [.int a, .int b] w Q) ∧ pr 3 129 [] w Q ∧ (∀ a b : Int32, pr 5 134 [.int a, .int b] w Q) ∧ pr 7 135 [] w Q ∧ pr 8 160 [] w Q ∧ (∀ a : Int32, pr 9 161 [.int a] w Q) ∧ pr 10 162 [] w Q ∧ (∀ a : Int32, pr 11 163 [.int a] w Q) ∧ (∀ a : Int32, pr 12 164 [.int a] w Q) ∧ (∀ a : Int32, pr 13 167 [.int a] w Q) ∧ pr 14 168 [] w Q ∧ Q w
theorem lw_end {xs : List Int32} {i : Nat} {w : ex_W} (hi : xs.length < i + 3) (hx : xs.length < 2 ^ 20) (hi2 : i ≤ xs.length) : ex_go (some xs) 0 18 [(0, .ref 1000), (1, .ref 0), (2, .ref 32), (3, .int (nI i))] [] w = some (some (.int 1), w) := by
  have e : Int32.ofNat xs.length - 3 < nI i := by
    rw [Int32.lt_iff_toInt_lt, nI_toInt (by omega), show Int32.ofNat xs.length - 3 = nI xs.length - nI 3 from rfl, pk_sub_toInt (by omega) (by decide)]
    omega
  simp only [s0_18, s0_19, s0_20, s0_21, s0_22, s0_23, if_pos e, s0_321]
  exact s0_322 (Or.inr rfl)
theorem lw_iter {xs : List Int32} {i : Nat} {w : ex_W} {P Q : ex_W → Prop} (hS : StepOK P Q) (hP : P w) (hi : i + 2 < xs.length) (hx : xs.length < 2 ^ 20) : ∃ w2, Q w2 ∧ ex_go (some xs) 0 18 [(0, .ref 1000), (1, .ref 0), (2, .ref 32), (3, .int (nI i))] [] w = ex_go (some xs) 0 18 [(0, .ref 1000), (1, .ref 0), (2, .ref 32), (3, .int (nI (i + 3)))] [] w2 := by
  have e : ¬ Int32.ofNat xs.length - 3 < nI i := by
    rw [Int32.lt_iff_toInt_lt, nI_toInt (by omega), show Int32.ofNat xs.length - 3 = nI xs.length - nI 3 from rfl, pk_sub_toInt (by omega) (by decide)]
    omega
  have n0 : ¬ nI i < 0 := nI_pos (by omega)
  have g0 := lw_get (k := i) (show i < xs.length by omega) hx
  obtain ⟨k0, k1, k2, k3, k4, k5, k6, k7, k8, k9, k10, kq⟩ := hS w hP
  rw [s0_18]
  simp only [s0_19, s0_20, s0_21, s0_22, s0_23, if_neg e, s0_26, s0_27, s0_28 n0, g0, Option.bind_some, s0_29, s0_31, s0_32]
  have fin : ∀ w2, ex_go (some xs) 0 315 [(0, .ref 1000), (1, .ref 0), (2, .ref 32), (3, .int (nI i))] [] w2 = ex_go (some xs) 0 18 [(0, .ref 1000), (1, .ref 0), (2, .ref 32), (3, .int (nI (i + 3)))] [] w2 := by
    intro w2
    simp only [s0_315, s0_318, nI_3]
  by_cases h0 : xs.getD i 0 &&& 15 = 0
  · rw [if_pos h0]
    obtain ⟨w2, hq, e2⟩ := lw_c0 hi hx (k0 (xs.getD (i + 1) 0) (xs.getD (i + 2) 0))
    exact ⟨w2, hq, by rw [e2, fin]⟩
  rw [if_neg h0]
  by_cases h1 : xs.getD i 0 &&& 15 = 1
  · rw [if_pos h1]
    obtain ⟨w2, hq, e2⟩ := lw_c1 hi hx (k1)
    exact ⟨w2, hq, by rw [e2, fin]⟩
  rw [if_neg h1]
  by_cases h2 : xs.getD i 0 &&& 15 = 2
  · rw [if_pos h2]
    obtain ⟨w2, hq, e2⟩ := lw_c2 hi hx (k2 (xs.getD (i + 1) 0) (xs.getD (i + 2) 0))
    exact ⟨w2, hq, by rw [e2, fin]⟩
  rw [if_neg h2]
  by_cases h3 : xs.getD i 0 &&& 15 = 3
  · rw [if_pos h3]
    obtain ⟨w2, hq, e2⟩ := lw_c3 hi hx (k3)
    exact ⟨w2, hq, by rw [e2, fin]⟩
  rw [if_neg h3]
  by_cases h4 : xs.getD i 0 &&& 15 = 4
  · rw [if_pos h4]
    obtain ⟨w2, hq, e2⟩ := lw_c4 hi hx (k4)
    exact ⟨w2, hq, by rw [e2, fin]⟩
  rw [if_neg h4]
  by_cases h5 : xs.getD i 0 &&& 15 = 5
  · rw [if_pos h5]
    obtain ⟨w2, hq, e2⟩ := lw_c5 hi hx (k5 (xs.getD (i + 1) 0))
    exact ⟨w2, hq, by rw [e2, fin]⟩
  rw [if_neg h5]
  by_cases h6 : xs.getD i 0 &&& 15 = 6
  · rw [if_pos h6]
    obtain ⟨w2, hq, e2⟩ := lw_c6 hi hx (k6)
    exact ⟨w2, hq, by rw [e2, fin]⟩
  rw [if_neg h6]
  by_cases h7 : xs.getD i 0 &&& 15 = 7
  · rw [if_pos h7]
    obtain ⟨w2, hq, e2⟩ := lw_c7 hi hx (k7 (xs.getD (i + 1) 0))
    exact ⟨w2, hq, by rw [e2, fin]⟩
  rw [if_neg h7]
  by_cases h8 : xs.getD i 0 &&& 15 = 8
  · rw [if_pos h8]
    obtain ⟨w2, hq, e2⟩ := lw_c8 hi hx (k8 (xs.getD (i + 1) 0))
    exact ⟨w2, hq, by rw [e2, fin]⟩
  rw [if_neg h8]
  by_cases h9 : xs.getD i 0 &&& 15 = 9
  · rw [if_pos h9]
    obtain ⟨w2, hq, e2⟩ := lw_c9 hi hx (k9 (xs.getD (i + 1) 0))
    exact ⟨w2, hq, by rw [e2, fin]⟩
  rw [if_neg h9]
  by_cases h10 : xs.getD i 0 &&& 15 = 10
  · rw [if_pos h10]
    obtain ⟨w2, hq, e2⟩ := lw_c10 hi hx (k10)
    exact ⟨w2, hq, by rw [e2, fin]⟩
  rw [if_neg h10]
  exact ⟨w, kq, fin w⟩
theorem lw_loop {xs : List Int32} {I : Nat → ex_W → Prop} (hS : ∀ k, StepOK (I (k + 1)) (I k)) (hx : xs.length < 2 ^ 20) : ∀ (k i : Nat) (w : ex_W), I k w → i ≤ xs.length → xs.length < i + 3 * k + 3 → ∃ w9 j, I j w9 ∧ ex_go (some xs) 0 18 [(0, .ref 1000), (1, .ref 0), (2, .ref 32), (3, .int (nI i))] [] w = some (some (.int 1), w9) := by
  intro k
  induction k with
  | zero =>
    intro i w hI hi hk
    exact ⟨w, 0, hI, lw_end (by omega) hx hi⟩
  | succ k ih =>
    intro i w hI hi hk
    by_cases hz : i + 2 < xs.length
    · obtain ⟨w2, h2, e2⟩ := lw_iter (hS k) hI hz hx
      obtain ⟨w9, j, h9, e9⟩ := ih (i + 3) w2 h2 (by omega) (by omega)
      exact ⟨w9, j, h9, by rw [e2, e9]⟩
    · exact ⟨w, k + 1, hI, lw_end (by omega) hx hi⟩
end
section
/-! the start: both objects as their makers leave them; no call makes a cell -/
def ex_w1 : ex_W := [
  .inl (0, [.ref 1, .ref 3, .ref 5, .ref 15, .ref 22, .ref 27]),
  .inl (1, [.ref 2, .int 0]),
  .inr (0, List.replicate 124 0),
  .inl (1, [.ref 4, .int 0]),
  .inr (0, List.replicate 200 0),
  .inl (4, [.ref 6, .ref 8, .ref 10, .int 0, .int 0, .int 0, .int 0, .int 0, .int 0, .int 0]),
  .inl (1, [.ref 7, .int 0]),
  .inr (0, List.replicate 120 0),
  .inl (7, [.ref 9, .int 0, .int 0, .int 0, .int 0, .int 0, .int 0, .long 0, .long 0]),
  .inr (0, []),
  .inl (3, [.ref 11, .int 0, .ref 12, .ref 13, .ref 14, .int 0]),
  .inr (0, List.replicate 64 0),
  .inr (0, List.replicate 64 0),
  .inr (0, List.replicate 64 0),
  .inr (0, List.replicate 64 0),
  .inl (6, [.ref 16, .ref 18, .ref 20]),
  .inl (1, [.ref 17, .int 8]),
  .inr (0, [98, 108, 111, 99, 107, 32, 48, 10] ++ List.replicate 800 0),
  .inl (1, [.ref 19, .int 1]),
  .inr (0, 48 :: List.replicate 18 0),
  .inl (5, [.ref 21, .int 0]),
  .inr (0, List.replicate 120 0),
  .inl (2, [.ref 23, .ref 25, .ref 26]),
  .inl (1, [.ref 24, .int 6]),
  .inr (0, 77 :: List.replicate 123 0),
  .inr (0, [2, 3, 4, 5]),
  .inr (0, List.replicate 40 0),
  .inl (2, [.ref 28, .ref 30, .ref 31]),
  .inl (1, [.ref 29, .int 0]),
  .inr (0, List.replicate 124 0),
  .inr (0, [0, 0, 0, 0]),
  .inr (0, List.replicate 40 0)]
def ex_w2 : ex_W := [
  .inl (8, [.ref 33, .int 6, .ref 34, .int 0, .ref 35, .int 0, .ref 36, .int 0, .ref 37, .int 8, .ref 38, .ref 39, .ref 40, .ref 41, .int 0, .int 0, .int 0, .int 0, .int 0, .long 0, .int 0, .int 0, .int 0, .ref 42, .int 0, .ref 43, .ref 44, .ref 45, .int 0]),
  .inr (0, 77 :: List.replicate 129 0),
  .inr (0, List.replicate 140 0),
  .inr (0, List.replicate 124 0),
  .inr (0, List.replicate 200 0),
  .inr (0, [98, 108, 111, 99, 107, 32, 48, 10] ++ List.replicate 992 0),
  .inr (0, List.replicate 20 0),
  .inr (1, List.replicate 121 0),
  .inr (0, List.replicate 121 0),
  .inr (0, List.replicate 1000 0),
  .inr (0, List.replicate 100 0),
  .inr (0, List.replicate 60 0),
  .inr (0, List.replicate 60 0),
  .inr (0, List.replicate 60 0)]
def ex_w0 : ex_W := ex_w1 ++ ex_w2
def ex_eqC : ex_C → ex_C → Bool
  | .inl a, .inl b => decide (a = b)
  | .inr a, .inr b => decide (a = b)
  | _, _ => false
theorem ex_eqC_s {a b : ex_C} (h : ex_eqC a b = true) : a = b := by
  cases a <;> cases b
  · exact congrArg Sum.inl (of_decide_eq_true h)
  · cases h
  · cases h
  · exact congrArg Sum.inr (of_decide_eq_true h)
def ex_eqW : ex_W → ex_W → Bool
  | [], [] => true
  | a :: s, b :: t => ex_eqC a b && ex_eqW s t
  | _, _ => false
theorem ex_eqW_s : ∀ {a b : ex_W}, ex_eqW a b = true → a = b
  | [], [], _ => rfl
  | a :: s, b :: t, h => by
    obtain ⟨h1, h2⟩ := (Bool.and_eq_true _ _).mp h
    rw [ex_eqC_s h1, ex_eqW_s h2]
  | [], _ :: _, h => by cases h
  | _ :: _, [], h => by cases h
/-- a run's end, compared -/
def ex_chk (o : ex_O) (r : Option Value) (w : ex_W) : Bool := match o with
  | some q => decide (q.1 = r) && ex_eqW q.2 w
  | none => false
theorem ex_chk_s {o : ex_O} {r : Option Value} {w : ex_W} (h : ex_chk o r w = true) : o = some (r, w) := by
  unfold ex_chk at h
  split at h
  next q =>
    obtain ⟨h1, h2⟩ := (Bool.and_eq_true _ _).mp h
    obtain ⟨a, b⟩ := q
    rw [show a = r from of_decide_eq_true h1, show b = w from ex_eqW_s h2]
  next => cases h
set_option maxRecDepth 100000 in
theorem ex_ctor1 : ex_run none 5000 1 0 (lv_args 0 [.ref 0]) [] [.inl (0, kB 0)] = some (none, ex_w1) := ex_chk_s (by decide +kernel)
set_option maxRecDepth 100000 in
theorem ex_ctor2 : ex_run none 5000 106 0 (lv_args 0 [.ref 32]) [] (ex_w1 ++ [.inl (8, kB 8)]) = some (none, ex_w0) := ex_chk_s (by decide +kernel)
theorem go_new {X : Option (List Int32)} {mi pc : Nat} {L L2 : ex_L} {r : List Value} {w : ex_W} {idx ci : Nat} (d : decode (kC mi) pc = .ok (.new idx, 3)) (hN : kN (kO mi) idx = some ci) (ht : ex_tr mi (pc + 3) L = L2) (hw : w.length < 1000) : ex_go X mi pc L r w = ex_go X mi (pc + 3) L2 (.ref w.length :: r) (w ++ [.inl (ci, kB ci)]) := by
  refine ex_go_d d rfl ?_ ht
  simp only [ex_do, hN]
  rw [if_pos hw]
theorem ex_begin (xs : List Int32) : ex_go (some xs) 0 0 [(0, .ref 1000)] [] [] = ex_go (some xs) 0 18 [(0, .ref 1000), (1, .ref 0), (2, .ref 32), (3, .int (nI 0))] [] ex_w0 := by
  have c1 := ex_call_up (xs := xs) (ex_call_run 5000 ex_ctor1)
  have c2 := ex_call_up (xs := xs) (ex_call_run 5000 ex_ctor2)
  rw [go_new (idx := 7) (ci := 0) (L2 := [(0, .ref 1000)]) (by decide +kernel : decode (kC 0) 0 = .ok (.new 7, 3)) (by decide +kernel) (ex_tr_n (by decide +kernel)) (by decide)]
  show ex_go (some xs) 0 3 [(0, .ref 1000)] [.ref 0] [.inl (0, kB 0)] = _
  simp only [s0_3, s0_4, c1, Option.bind_some, Option.toList_none, List.nil_append, s0_7]
  rw [go_new (idx := 10) (ci := 8) (L2 := [(0, .ref 1000), (1, .ref 0)]) (by decide +kernel : decode (kC 0) 8 = .ok (.new 10, 3)) (by decide +kernel) (ex_tr_n (by decide +kernel)) (by decide)]
  show ex_go (some xs) 0 11 [(0, .ref 1000), (1, .ref 0)] [.ref 32] (ex_w1 ++ [.inl (8, kB 8)]) = _
  simp only [s0_11, s0_12, c2, Option.bind_some, Option.toList_none, List.nil_append, s0_15, s0_16, s0_17]
  rfl
/-! a run that makes no cell keeps every cell's size -/
theorem ex_sz_pf {w w2 : ex_W} {h ci k : Nat} {v : Value} (hg : ex_pf w h ci k v = some w2) : w2.map ex_sz = w.map ex_sz ∨ w.length < w2.length := by
  obtain ⟨fs, hw, hk, rfl⟩ := ex_pf_s hg
  refine Or.inl ?_
  apply List.ext_getElem?
  intro i
  rw [List.getElem?_map, List.getElem?_map, List.getElem?_set]
  by_cases e : h = i
  · subst e
    rw [if_pos rfl, if_pos (List.getElem?_eq_some_iff.mp hw).1, hw]
    simp [ex_sz]
  · rw [if_neg e]
theorem ex_sz_as {w w2 : ex_W} {a kd : Nat} {i x : Int32} (hg : ex_as w a kd i x = some w2) : w2.map ex_sz = w.map ex_sz ∨ w.length < w2.length := by
  obtain ⟨xs, hw, hi, hk, rfl⟩ := ex_as_s hg
  refine Or.inl ?_
  apply List.ext_getElem?
  intro j
  rw [List.getElem?_map, List.getElem?_map, List.getElem?_set]
  by_cases e : a = j
  · subst e
    rw [if_pos rfl, if_pos (List.getElem?_eq_some_iff.mp hw).1, hw]
    simp [ex_sz]
  · rw [if_neg e]
set_option maxHeartbeats 4000000 in
theorem ex_do_sz {X : Option (List Int32)} {mi pc : Nat} {i : Jvm.ClassFile.Instr} {L : ex_L} {st : List Value} {w : ex_W} {pc1 : Nat} {L1 : ex_L} {st1 : List Value} {w1 : ex_W} (ha : ex_do X mi pc i L st w = some (.inl (pc1, L1, st1, w1))) : w1.map ex_sz = w.map ex_sz ∨ w.length < w1.length := by
  unfold ex_do at ha
  split at ha <;> (try simp only [ex_ldA, ex_ldI, ex_ldJ, ex_stA, ex_stI, ex_stJ, ex_ii, ex_jj, ex_ji, ex_j, ex_br] at ha) <;> (repeat' split at ha) <;> first
    | (exfalso; cases ha; done)
    | (cases ha; exact Or.inl rfl)
    | (cases ha; exact ex_sz_pf (by assumption))
    | (cases ha; exact ex_sz_as (by assumption))
    | (cases ha; exact Or.inr (by rw [List.length_append]; exact Nat.lt_succ_self _))
theorem ex_run_sz {X : Option (List Int32)} : ∀ (n mi pc : Nat) (L : ex_L) (st : List Value) (w : ex_W) (r : Option Value) (w9 : ex_W), ex_run X n mi pc L st w = some (r, w9) → w9.length = w.length → w9.map ex_sz = w.map ex_sz := by
  intro n
  induction n with
  | zero => intro mi pc L st w r w9 h; cases h
  | succ n ih =>
    intro mi pc L st w r w9 h hl
    rw [ex_run_s] at h
    cases ha : ex_act X mi pc L st w with
    | none => rw [ha] at h; cases h
    | some a =>
      rw [ha] at h
      rcases a with ⟨pc1, L1, st1, w1⟩ | r1 | ⟨mj, av, r1⟩
      · dsimp only at h
        have h1 := (ex_gr _ _ _ _ _ _ _ _ h).1
        have h2 : w1.map ex_sz = w.map ex_sz ∨ w.length < w1.length := by
          unfold ex_act at ha
          split at ha
          next i len hd =>
            split at ha
            next => exact ex_do_sz ha
            next => cases ha
          next => cases ha
        rcases h2 with h2 | h2
        · have e : w1.length = w.length := by
            have := congrArg List.length h2
            simpa using this
          rw [ih _ _ _ _ _ _ _ h (by omega), h2]
        · omega
      · cases h
        rfl
      · dsimp only at h
        cases hc : ex_run X n mj 0 (lv_args 0 av) [] w with
        | none => rw [hc] at h; cases h
        | some x =>
          obtain ⟨rv, w1⟩ := x
          rw [hc] at h
          dsimp only at h
          have h1 := (ex_gr _ _ _ _ _ _ _ _ hc).1
          have h2 := (ex_gr _ _ _ _ _ _ _ _ h).1
          rw [ih _ _ _ _ _ _ _ h (by omega), ih _ _ _ _ _ _ _ hc (by omega)]
theorem ex_sl0 : ex_sl ex_w0 ≤ 100000 ∧ ex_w0.length = 46 := by decide +kernel
/-- WHAT IS LEFT: a relation that holds at the start and that every call keeps -/
theorem ex_whole {I : Nat → ex_W → Prop} (hS : ∀ k, StepOK (I (k + 1)) (I k)) (hl : ∀ k w, I k w → w.length = 46) (K : Nat) (h0 : I K ex_w0) (xs : List Int32) (hx : xs.length < 3 * K + 3) (hb : xs.length < 2 ^ 20) : ∃ n w9, ex_run (some xs) n 0 0 [(0, .ref 1000)] [] [] = some (some (.int 1), w9) ∧ w9.length = 46 ∧ ex_sl w9 ≤ 100000 := by
  obtain ⟨w9, j, h9, e9⟩ := lw_loop hS hb K 0 ex_w0 h0 (Nat.zero_le _) (by omega)
  have h1 := (ex_go_iff _ _ _ _ _ _ _).mp e9
  rw [← ex_begin] at e9
  obtain ⟨n, hn⟩ := (ex_go_iff _ _ _ _ _ _ _).mp e9
  obtain ⟨n1, hn1⟩ := h1
  refine ⟨n, w9, hn, hl j w9 h9, ?_⟩
  have e := ex_run_sz _ _ _ _ _ _ _ _ hn1 ((hl j w9 h9).trans ex_sl0.2.symm)
  unfold ex_sl
  rw [e]
  exact ex_sl0.1
end
section
/-! the other object: its fields, by their numbers -/
-- 0 block, 1 size, 2 made, 3 many, 4 waits, 5 waiting, 6 typed, 7 length, 8 text, 9 written, 10 number, 11 begins, 12 line, 13 source, 14 end, 15 place, 16 from, 17 to, 18 fault, 19 value, 20 total, 21 part, 22 countAt, 23 lineAt, 24 lines, 25 nameAt, 26 nameOf, 27 nameLine, 28 names
def mo (m : Nat → Int32) (v : Int64) : List Value := [.ref 33, .int (m 1), .ref 34, .int (m 3), .ref 35, .int (m 5), .ref 36, .int (m 7), .ref 37, .int (m 9), .ref 38, .ref 39, .ref 40, .ref 41, .int (m 14), .int (m 15), .int (m 16), .int (m 17), .int (m 18), .long v, .int (m 20), .int (m 21), .int (m 22), .ref 42, .int (m 24), .ref 43, .ref 44, .ref 45, .int (m 28)]
section MO
variable {m : Nat → Int32} {v : Int64} {y : Int32} {z : Int64}
theorem mo_0 : (mo m v)[0]? = some (.ref 33) := rfl
theorem mo_1 : (mo m v)[1]? = some (.int (m 1)) := rfl
theorem mo_2 : (mo m v)[2]? = some (.ref 34) := rfl
theorem mo_3 : (mo m v)[3]? = some (.int (m 3)) := rfl
theorem mo_4 : (mo m v)[4]? = some (.ref 35) := rfl
theorem mo_5 : (mo m v)[5]? = some (.int (m 5)) := rfl
theorem mo_6 : (mo m v)[6]? = some (.ref 36) := rfl
theorem mo_7 : (mo m v)[7]? = some (.int (m 7)) := rfl
theorem mo_8 : (mo m v)[8]? = some (.ref 37) := rfl
theorem mo_9 : (mo m v)[9]? = some (.int (m 9)) := rfl
theorem mo_10 : (mo m v)[10]? = some (.ref 38) := rfl
theorem mo_11 : (mo m v)[11]? = some (.ref 39) := rfl
theorem mo_12 : (mo m v)[12]? = some (.ref 40) := rfl
theorem mo_13 : (mo m v)[13]? = some (.ref 41) := rfl
theorem mo_14 : (mo m v)[14]? = some (.int (m 14)) := rfl
theorem mo_15 : (mo m v)[15]? = some (.int (m 15)) := rfl
theorem mo_16 : (mo m v)[16]? = some (.int (m 16)) := rfl
theorem mo_17 : (mo m v)[17]? = some (.int (m 17)) := rfl
theorem mo_18 : (mo m v)[18]? = some (.int (m 18)) := rfl
theorem mo_19 : (mo m v)[19]? = some (.long v) := rfl
theorem mo_20 : (mo m v)[20]? = some (.int (m 20)) := rfl
theorem mo_21 : (mo m v)[21]? = some (.int (m 21)) := rfl
theorem mo_22 : (mo m v)[22]? = some (.int (m 22)) := rfl
theorem mo_23 : (mo m v)[23]? = some (.ref 42) := rfl
theorem mo_24 : (mo m v)[24]? = some (.int (m 24)) := rfl
theorem mo_25 : (mo m v)[25]? = some (.ref 43) := rfl
theorem mo_26 : (mo m v)[26]? = some (.ref 44) := rfl
theorem mo_27 : (mo m v)[27]? = some (.ref 45) := rfl
theorem mo_28 : (mo m v)[28]? = some (.int (m 28)) := rfl
theorem mo_s1 : (mo m v).set 1 (.int y) = mo (upd m 1 y) v := rfl
theorem mo_s3 : (mo m v).set 3 (.int y) = mo (upd m 3 y) v := rfl
theorem mo_s5 : (mo m v).set 5 (.int y) = mo (upd m 5 y) v := rfl
theorem mo_s7 : (mo m v).set 7 (.int y) = mo (upd m 7 y) v := rfl
theorem mo_s9 : (mo m v).set 9 (.int y) = mo (upd m 9 y) v := rfl
theorem mo_s14 : (mo m v).set 14 (.int y) = mo (upd m 14 y) v := rfl
theorem mo_s15 : (mo m v).set 15 (.int y) = mo (upd m 15 y) v := rfl
theorem mo_s16 : (mo m v).set 16 (.int y) = mo (upd m 16 y) v := rfl
theorem mo_s17 : (mo m v).set 17 (.int y) = mo (upd m 17 y) v := rfl
theorem mo_s18 : (mo m v).set 18 (.int y) = mo (upd m 18 y) v := rfl
theorem mo_s20 : (mo m v).set 20 (.int y) = mo (upd m 20 y) v := rfl
theorem mo_s21 : (mo m v).set 21 (.int y) = mo (upd m 21 y) v := rfl
theorem mo_s22 : (mo m v).set 22 (.int y) = mo (upd m 22 y) v := rfl
theorem mo_s24 : (mo m v).set 24 (.int y) = mo (upd m 24 y) v := rfl
theorem mo_s28 : (mo m v).set 28 (.int y) = mo (upd m 28 y) v := rfl
theorem mo_s19 : (mo m v).set 19 (.long z) = mo m z := rfl
theorem mo_len : (mo m v).length = 29 := rfl
end MO
/-- an array of the other object -/
def isA (w : ex_W) (a : Nat) (xs : List Int32) (c : Nat) : Prop := w[a]? = some (.inr (0, xs)) ∧ xs.length = c
/-- the world with one array and the object's fields written anew -/
def mW (w : ex_W) (a : Nat) (xs : List Int32) (m : Nat → Int32) (v : Int64) : ex_W := (w.set a (.inr (0, xs))).set 32 (.inl (8, mo m v))
theorem set_id {w : ex_W} {i : Nat} {c : ex_C} (h : w[i]? = some c) : w.set i c = w := by
  apply List.ext_getElem?
  intro j
  rw [List.getElem?_set]
  by_cases e : i = j
  · subst e
    rw [if_pos rfl, if_pos (List.getElem?_eq_some_iff.mp h).1, h]
  · rw [if_neg e]
theorem mW_self {w : ex_W} {a : Nat} {xs : List Int32} {m : Nat → Int32} {v : Int64} (h1 : w[a]? = some (.inr (0, xs))) (h2 : w[32]? = some (.inl (8, mo m v))) : mW w a xs m v = w := by
  unfold mW
  rw [set_id h1, set_id h2]
theorem mW_w {w : ex_W} {a : Nat} {xs ys : List Int32} {m m2 : Nat → Int32} {v v2 : Int64} (hne : a ≠ 32) : mW (mW w a xs m v) a ys m2 v2 = mW w a ys m2 v2 := by
  unfold mW
  rw [List.set_comm _ _ (Ne.symm hne), List.set_set, List.set_set]
theorem mW_a {w : ex_W} {a : Nat} {xs ys : List Int32} {m : Nat → Int32} {v : Int64} (hne : a ≠ 32) (h : w[a]? = some (.inr (0, ys))) : (mW w a xs m v)[a]? = some (.inr (0, xs)) := ex_set_o (Ne.symm hne) (ex_set_s h)
theorem mW_m {w : ex_W} {a : Nat} {xs : List Int32} {m : Nat → Int32} {v : Int64} {c : ex_C} (hne : a ≠ 32) (h : w[32]? = some c) : (mW w a xs m v)[32]? = some (.inl (8, mo m v)) := ex_set_s (ex_set_o hne h)
theorem mW_o {w : ex_W} {a j : Nat} {xs : List Int32} {m : Nat → Int32} {v : Int64} (h1 : j ≠ a) (h2 : j ≠ 32) : (mW w a xs m v)[j]? = w[j]? := by
  unfold mW
  rw [List.getElem?_set_ne (Ne.symm h2), List.getElem?_set_ne (Ne.symm h1)]
theorem mW_len {w : ex_W} {a : Nat} {xs : List Int32} {m : Nat → Int32} {v : Int64} : (mW w a xs m v).length = w.length := by unfold mW; rw [List.length_set, List.length_set]
/-! put and type of both: the same words -/
/-- a number from 1 to 4 -/
theorem four {b : Int32} (h1 : ¬ b < 1) (h4 : ¬ 4 < b) : ∃ k : Nat, 1 ≤ k ∧ k ≤ 4 ∧ b = nI k := by
  have h0 : ¬ b < 0 := by
    rw [Int32.lt_iff_toInt_lt] at h1 ⊢
    simp at h1 ⊢
    omega
  obtain ⟨k, hk, rfl⟩ := nI_of h0
  refine ⟨k, ?_, ?_, rfl⟩
  · rcases Nat.lt_or_ge k 1 with z | z
    · exact absurd (nI_lt (b := 1) z (by decide)) h1
    · exact z
  · rcases Nat.lt_or_ge 4 k with z | z
    · exact absurd (nI_lt (a := 4) z hk) h4
    · exact z
section PUT
variable {X : Option (List Int32)} {w : ex_W} {n : Nat} {xs : List Int32} {a b : Int32}
/-- may n more be put beside u of c -/
def fitsIn (u c : Nat) (b : Int32) : Prop := ¬ b < 1 ∧ ¬ 4 < b ∧ ¬ nI c < nI u + b
theorem x_putYes {k : Nat} {fs : List Value} (h0 : w[0]? = some (.inl (0, .ref 1 :: fs))) (R : isRow w 1 2 xs n) (h1 : 1 ≤ k) (h4 : k ≤ 4) (hc : n + k ≤ 124) (hx : xs.length = 124) : ex_call X 2 [.ref 0, .int a, .int (nI k)] w = some (some (.int 1), rowW w 1 2 (putL xs n (lowB a k)) (n + k)) := by
  have z1 : (0 : Nat) < 1000 := by decide
  have z2 : (1 : Nat) < 1000 := by decide
  have e1 : ¬ nI k < 1 := nI_nlt (b := 1) h1 (by omega)
  have e2 : ¬ (4 : Int32) < nI k := nI_nlt (a := 4) h4 (by decide)
  have e3 : nI (n + k) ≤ 124 := nI_le (b := 124) hc (by decide)
  have hL := r_low (X := X) (word := a) (k := k) R (by omega) (by omega)
  show ex_go X 2 0 [(0, .ref 0), (1, .int a), (2, .int (nI k))] [] w = _
  simp only [s2_0, s2_1, s2_2, if_neg e1, s2_5, s2_6, s2_7, if_neg e2, s2_10, s2_11 z1, s2_14 z2, s2_17, s2_18, s2_19, s2_21, nI_add, if_pos e3, s2_26, s2_27 z1, s2_30, s2_31, s2_32 (ex_rc_o R.1 z2 (by decide)), ex_gf_i h0, ex_gf_i R.1, List.getElem?_cons_zero, List.getElem?_cons_succ, Option.bind_some, hL, Option.toList_none, List.nil_append, s2_35, s2_36 (Or.inr rfl)]
theorem x_putNo {fs : List Value} (h0 : w[0]? = some (.inl (0, .ref 1 :: fs))) (R : isRow w 1 2 xs n) (hb : ¬ fitsIn n 124 b) : ex_call X 2 [.ref 0, .int a, .int b] w = some (some (.int 0), w) := by
  have z1 : (0 : Nat) < 1000 := by decide
  have z2 : (1 : Nat) < 1000 := by decide
  show ex_go X 2 0 [(0, .ref 0), (1, .int a), (2, .int b)] [] w = _
  simp only [s2_0, s2_1, s2_2]
  by_cases c1 : b < 1
  · simp only [if_pos c1, s2_24, s2_25 (Or.inl rfl)]
  · simp only [if_neg c1, s2_5, s2_6, s2_7]
    by_cases c2 : (4 : Int32) < b
    · simp only [if_pos c2, s2_24, s2_25 (Or.inl rfl)]
    · have c3 : ¬ nI n + b ≤ 124 := by
        intro z
        refine hb ⟨c1, c2, fun q => ?_⟩
        rw [Int32.le_iff_toInt_le] at z
        rw [Int32.lt_iff_toInt_lt] at q
        have : (nI 124).toInt = (124 : Int32).toInt := rfl
        omega
      simp only [if_neg c2, s2_10, s2_11 z1, s2_14 z2, s2_17, s2_18, s2_19, s2_21, ex_gf_i h0, ex_gf_i R.1, List.getElem?_cons_zero, List.getElem?_cons_succ, Option.bind_some, if_neg c3, s2_24, s2_25 (Or.inl rfl)]
theorem y_putLoop {v : Int64} : ∀ (k n : Nat) (xs : List Int32) (m : Nat → Int32) (w : ex_W), w[32]? = some (.inl (8, mo m v)) → w[35]? = some (.inr (0, xs)) → xs.length = 124 → m 5 = nI n → n + k ≤ 124 → ex_go X 128 27 [(0, .ref 32), (1, .int a), (3, .int (nI k - 1))] [] w = some (some (.int 1), mW w 35 (putL xs n (lowB a k)) (upd m 5 (nI (n + k))) v) := by
  intro k
  induction k with
  | zero =>
    intro n xs m w hM hA hx hm hk
    have e : nI 0 - 1 < 0 := by decide
    rw [s128_27]
    simp only [s128_28, if_pos e, s128_66, s128_67 (Or.inr rfl)]
    have eu : upd m 5 (nI (n + 0)) = m := by
      funext j
      unfold upd
      split
      next hj => rw [hj, hm]; rfl
      next => rfl
    rw [eu, show putL xs n (lowB a 0) = xs from rfl, mW_self hA hM]
  | succ k ih =>
    intro n xs m w hM hA hx hm hk
    have z1 : (32 : Nat) < 1000 := by decide
    have z2 : (35 : Nat) < 1000 := by decide
    rw [nI_pred, s128_27]
    have e : ¬ nI k < 0 := nI_pos (by omega)
    have hM1 : (w.set 35 (.inr (0, xs.set n ((a >>> (((8 : Int32) * nI k) &&& 31)) &&& 255))))[32]? = some (.inl (8, mo m v)) := ex_set_o (by decide) hM
    have e2 : nI k + -1 = nI k - 1 := by rw [Int32.sub_eq_add_neg]
    simp only [s128_28, if_neg e, s128_31, s128_32 z1, s128_35, s128_36 z1, s128_39, s128_40, s128_42, s128_43, s128_44, s128_45, s128_48, s128_49 z2, ex_gf_i hM, mo_4, mo_5, Option.bind_some, hm, ex_as_i hA (show n < xs.length by omega) (by omega), s128_50, s128_51, s128_52 z1, ex_gf_i hM1, s128_55, s128_56, s128_57 z1, ex_pf_i hM1 (k := 5) (by rw [mo_len]; decide), mo_s5, nI_1, s128_60, s128_63, e2]
    have hW : (w.set 35 (Sum.inr (0, xs.set n ((a >>> (((8 : Int32) * nI k) &&& 31)) &&& 255)))).set 32 (Sum.inl (8, mo (upd m 5 (nI (n + 1))) v)) = mW w 35 (xs.set n ((a >>> (((8 : Int32) * nI k) &&& 31)) &&& 255)) (upd m 5 (nI (n + 1))) v := rfl
    rw [hW, ih (n + 1) _ (upd m 5 (nI (n + 1))) _ (mW_m (by decide) hM) (mW_a (by decide) hA) (by rw [List.length_set]; exact hx) pk_us (by omega), mW_w (by decide)]
    have eu : upd (upd m 5 (nI (n + 1))) 5 (nI (n + 1 + k)) = upd m 5 (nI (n + (k + 1))) := by
      funext j
      unfold upd
      rw [show n + 1 + k = n + (k + 1) by omega]
      split <;> rfl
    rw [eu]
    rfl
theorem y_putYes {v : Int64} {m : Nat → Int32} {k : Nat} (hM : w[32]? = some (.inl (8, mo m v))) (hA : w[35]? = some (.inr (0, xs))) (hx : xs.length = 124) (hm : m 5 = nI n) (h1 : 1 ≤ k) (h4 : k ≤ 4) (hc : n + k ≤ 124) : ex_call X 128 [.ref 32, .int a, .int (nI k)] w = some (some (.int 1), mW w 35 (putL xs n (lowB a k)) (upd m 5 (nI (n + k))) v) := by
  have z1 : (32 : Nat) < 1000 := by decide
  have e1 : ¬ nI k < 1 := nI_nlt (b := 1) h1 (by omega)
  have e2 : ¬ (4 : Int32) < nI k := nI_nlt (a := 4) h4 (by decide)
  have e3 : nI (n + k) ≤ 124 := nI_le (b := 124) hc (by decide)
  show ex_go X 128 0 [(0, .ref 32), (1, .int a), (2, .int (nI k))] [] w = _
  simp only [s128_0, s128_1, s128_2, if_neg e1, s128_5, s128_6, s128_7, if_neg e2, s128_10, s128_11 z1, s128_14, s128_15, s128_16, s128_18, ex_gf_i hM, mo_5, Option.bind_some, hm, nI_add, if_pos e3, s128_23, s128_24, s128_25, s128_26]
  exact y_putLoop k n xs m w hM hA hx hm hc
theorem y_putNo {v : Int64} {m : Nat → Int32} (hM : w[32]? = some (.inl (8, mo m v))) (hm : m 5 = nI n) (hb : ¬ fitsIn n 124 b) : ex_call X 128 [.ref 32, .int a, .int b] w = some (some (.int 0), w) := by
  have z1 : (32 : Nat) < 1000 := by decide
  show ex_go X 128 0 [(0, .ref 32), (1, .int a), (2, .int b)] [] w = _
  simp only [s128_0, s128_1, s128_2]
  by_cases c1 : b < 1
  · simp only [if_pos c1, s128_21, s128_22 (Or.inl rfl)]
  · simp only [if_neg c1, s128_5, s128_6, s128_7]
    by_cases c2 : (4 : Int32) < b
    · simp only [if_pos c2, s128_21, s128_22 (Or.inl rfl)]
    · have c3 : ¬ nI n + b ≤ 124 := by
        intro z
        refine hb ⟨c1, c2, fun q => ?_⟩
        rw [Int32.le_iff_toInt_le] at z
        rw [Int32.lt_iff_toInt_lt] at q
        have : (nI 124).toInt = (124 : Int32).toInt := rfl
        omega
      simp only [if_neg c2, s128_10, s128_11 z1, s128_14, s128_15, s128_16, s128_18, ex_gf_i hM, mo_5, Option.bind_some, hm, if_neg c3, s128_21, s128_22 (Or.inl rfl)]
end PUT
end
section
/-! type of both; what both tell of a byte, a character, the sizes -/
/-- byte i of a word -/
def chB (a : Int32) (i : Nat) : Int32 := (a >>> (((8 : Int32) * nI i) &&& 31)) &&& 255
def okCh (c : Int32) : Prop := c = 10 ∨ (¬ c < 32 ∧ c ≤ 126)
def allCh (a : Int32) : Nat → Nat → Prop
  | _, 0 => True
  | i, m + 1 => okCh (chB a i) ∧ allCh a (i + 1) m
section TYPE
variable {X : Option (List Int32)} {w : ex_W} {n : Nat} {xs : List Int32} {a b : Int32}
theorem x_chars : ∀ (m i : Nat), i + m < 1000 → (allCh a i m → ex_go X 6 2 [(0, .int a), (1, .int (nI (i + m))), (2, .int (nI i))] [] w = some (some (.int 1), w)) ∧ (¬ allCh a i m → ex_go X 6 2 [(0, .int a), (1, .int (nI (i + m))), (2, .int (nI i))] [] w = some (some (.int 0), w)) := by
  intro m
  induction m with
  | zero =>
    intro i hi
    have e : nI (i + 0) ≤ nI i := nI_le (Nat.le_refl _) (by omega)
    refine ⟨fun _ => ?_, fun h => absurd trivial h⟩
    simp only [s6_2, s6_3, s6_4, if_pos e, s6_44]
    exact s6_45 (Or.inr rfl)
  | succ m ih =>
    intro i hi
    have e : ¬ nI (i + (m + 1)) ≤ nI i := nI_ge (by omega) (by omega)
    have step : okCh (chB a i) → ex_go X 6 2 [(0, .int a), (1, .int (nI (i + (m + 1)))), (2, .int (nI i))] [] w = ex_go X 6 2 [(0, .int a), (1, .int (nI (i + 1 + m))), (2, .int (nI (i + 1)))] [] w := by
      intro h
      rw [s6_2]
      simp only [s6_3, s6_4, if_neg e, s6_7, s6_8, s6_10, s6_11, s6_12, s6_13, s6_16, s6_17, s6_18, s6_19, s6_21]
      rw [show i + (m + 1) = i + 1 + m by omega]
      have h : okCh ((a >>> (((8 : Int32) * nI i) &&& 31)) &&& 255) := h
      rcases h with h | ⟨h1, h2⟩
      · simp only [if_pos h, s6_38, s6_41, nI_1]
      · by_cases c : ((a >>> (((8 : Int32) * nI i) &&& 31)) &&& 255) = 10
        · simp only [if_pos c, s6_38, s6_41, nI_1]
        · simp only [if_neg c, s6_24, s6_25, s6_27, if_neg h1, s6_30, s6_31, s6_33, if_pos h2, s6_38, s6_41, nI_1]
    refine ⟨fun h => ?_, fun h => ?_⟩
    · rw [step h.1]
      exact (ih (i + 1) (by omega)).1 h.2
    · by_cases c : okCh (chB a i)
      · rw [step c]
        exact (ih (i + 1) (by omega)).2 (fun z => h ⟨c, z⟩)
      · have c : ¬ okCh ((a >>> (((8 : Int32) * nI i) &&& 31)) &&& 255) := c
        have c1 : ¬ ((a >>> (((8 : Int32) * nI i) &&& 31)) &&& 255) = 10 := fun z => c (Or.inl z)
        rw [s6_2]
        simp only [s6_3, s6_4, if_neg e, s6_7, s6_8, s6_10, s6_11, s6_12, s6_13, s6_16, s6_17, s6_18, s6_19, s6_21, if_neg c1, s6_24, s6_25, s6_27]
        by_cases c2 : ((a >>> (((8 : Int32) * nI i) &&& 31)) &&& 255) < 32
        · simp only [if_pos c2, s6_36]
          exact s6_37 (Or.inl rfl)
        · have c3 : ¬ ((a >>> (((8 : Int32) * nI i) &&& 31)) &&& 255) ≤ 126 := fun z => c (Or.inr ⟨c2, z⟩)
          simp only [if_neg c2, s6_30, s6_31, s6_33, if_neg c3, s6_36]
          exact s6_37 (Or.inl rfl)
theorem x_charsC {k : Nat} (hk : k < 1000) : (allCh a 0 k → ex_call X 6 [.int a, .int (nI k)] w = some (some (.int 1), w)) ∧ (¬ allCh a 0 k → ex_call X 6 [.int a, .int (nI k)] w = some (some (.int 0), w)) := by
  have e : ex_call X 6 [.int a, .int (nI k)] w = ex_go X 6 2 [(0, .int a), (1, .int (nI (0 + k))), (2, .int (nI 0))] [] w := by
    show ex_go X 6 0 [(0, .int a), (1, .int (nI k))] [] w = _
    simp only [s6_0, s6_1, Nat.zero_add, nI_0]
  rw [e]
  exact x_chars k 0 (by omega)
theorem x_typeYes {k : Nat} {v0 : Value} {fs : List Value} (h0 : w[0]? = some (.inl (0, v0 :: .ref 3 :: fs))) (R : isRow w 3 4 xs n) (h1 : 1 ≤ k) (h4 : k ≤ 4) (hc : n + k ≤ 200) (hx : xs.length = 200) (ha : allCh a 0 k) : ex_call X 5 [.ref 0, .int a, .int (nI k)] w = some (some (.int 1), rowW w 3 4 (putL xs n (lowB a k)) (n + k)) := by
  have z1 : (0 : Nat) < 1000 := by decide
  have z2 : (3 : Nat) < 1000 := by decide
  have e1 : ¬ nI k < 1 := nI_nlt (b := 1) h1 (by omega)
  have e2 : ¬ (4 : Int32) < nI k := nI_nlt (a := 4) h4 (by decide)
  have e3 : ¬ (200 : Int32) < nI (n + k) := nI_nlt (a := 200) hc (by decide)
  have e4 : ¬ (1 : Int32) = 0 := by decide
  have hL := r_low (X := X) (word := a) (k := k) R (by omega) (by omega)
  have hC := (x_charsC (X := X) (w := w) (a := a) (k := k) (by omega)).1 ha
  show ex_go X 5 0 [(0, .ref 0), (1, .int a), (2, .int (nI k))] [] w = _
  simp only [s5_0, s5_1, s5_2, if_neg e1, s5_5, s5_6, s5_7, if_neg e2, s5_10, s5_11 z1, s5_14 z2, s5_17, s5_18, s5_19, s5_22, nI_add, if_neg e3, s5_25, s5_26, s5_27, hC, Option.toList_some, List.cons_append, List.nil_append, s5_30, if_pos e4, s5_35, s5_36 z1, s5_39, s5_40, s5_41 (ex_rc_o R.1 z2 (by decide)), ex_gf_i h0, ex_gf_i R.1, List.getElem?_cons_zero, List.getElem?_cons_succ, Option.bind_some, hL, Option.toList_none, s5_44, s5_45 (Or.inr rfl)]
theorem x_typeNo {v0 : Value} {fs : List Value} (h0 : w[0]? = some (.inl (0, v0 :: .ref 3 :: fs))) (R : isRow w 3 4 xs n) (hb : ¬ (fitsIn n 200 b ∧ ∀ k : Nat, b = nI k → k ≤ 4 → allCh a 0 k)) : ex_call X 5 [.ref 0, .int a, .int b] w = some (some (.int 0), w) := by
  have z1 : (0 : Nat) < 1000 := by decide
  have z2 : (3 : Nat) < 1000 := by decide
  have e4 : ¬ ¬ (0 : Int32) = 0 := by decide
  show ex_go X 5 0 [(0, .ref 0), (1, .int a), (2, .int b)] [] w = _
  simp only [s5_0, s5_1, s5_2]
  by_cases c1 : b < 1
  · simp only [if_pos c1, s5_33, s5_34 (Or.inl rfl)]
  · simp only [if_neg c1, s5_5, s5_6, s5_7]
    by_cases c2 : (4 : Int32) < b
    · simp only [if_pos c2, s5_33, s5_34 (Or.inl rfl)]
    · simp only [if_neg c2, s5_10, s5_11 z1, s5_14 z2, s5_17, s5_18, s5_19, s5_22, ex_gf_i h0, ex_gf_i R.1, List.getElem?_cons_zero, List.getElem?_cons_succ, Option.bind_some]
      by_cases c3 : (200 : Int32) < nI n + b
      · simp only [if_pos c3, s5_33, s5_34 (Or.inl rfl)]
      · obtain ⟨k, k1, k4, rfl⟩ := four c1 c2
        have c4 : ¬ allCh a 0 k := fun z => hb ⟨⟨c1, c2, c3⟩, fun j hj hj4 => by
          rw [nI_eq (by omega) (by omega)] at hj
          subst hj
          exact z⟩
        have hC := (x_charsC (X := X) (w := w) (a := a) (k := k) (by omega)).2 c4
        simp only [if_neg c3, s5_25, s5_26, s5_27, hC, Option.bind_some, Option.toList_some, List.cons_append, List.nil_append, s5_30, not_true_eq_false, if_false, s5_33, s5_34 (Or.inl rfl)]
theorem y_chars {k : Nat} (hk : k < 1000) : ∀ (m i : Nat), i + m = k → (allCh a i m → ex_go X 134 26 [(0, .ref 32), (1, .int a), (2, .int (nI k)), (3, .int (nI i))] [] w = ex_go X 134 72 [(0, .ref 32), (1, .int a), (2, .int (nI k))] [] w) ∧ (¬ allCh a i m → ex_go X 134 26 [(0, .ref 32), (1, .int a), (2, .int (nI k)), (3, .int (nI i))] [] w = some (some (.int 0), w)) := by
  intro m
  induction m with
  | zero =>
    intro i hi
    have e : nI k ≤ nI i := nI_le (by omega) (by omega)
    refine ⟨fun _ => ?_, fun h => absurd trivial h⟩
    simp only [s134_26, s134_27, s134_28, if_pos e]
  | succ m ih =>
    intro i hi
    have e : ¬ nI k ≤ nI i := nI_ge (by omega) (by omega)
    have step : okCh (chB a i) → ex_go X 134 26 [(0, .ref 32), (1, .int a), (2, .int (nI k)), (3, .int (nI i))] [] w = ex_go X 134 26 [(0, .ref 32), (1, .int a), (2, .int (nI k)), (3, .int (nI (i + 1)))] [] w := by
      intro h
      rw [s134_26]
      simp only [s134_27, s134_28, if_neg e, s134_31, s134_32, s134_34, s134_35, s134_36, s134_37, s134_40, s134_41, s134_43, s134_45, s134_47]
      have h : okCh ((a >>> (((8 : Int32) * nI i) &&& 31)) &&& 255) := h
      rcases h with h | ⟨h1, h2⟩
      · simp only [if_pos h, s134_66, s134_69, nI_1]
      · by_cases c : ((a >>> (((8 : Int32) * nI i) &&& 31)) &&& 255) = 10
        · simp only [if_pos c, s134_66, s134_69, nI_1]
        · simp only [if_neg c, s134_50, s134_52, s134_54, if_neg h1, s134_57, s134_59, s134_61, if_pos h2, s134_66, s134_69, nI_1]
    refine ⟨fun h => ?_, fun h => ?_⟩
    · rw [step h.1]
      exact (ih (i + 1) (by omega)).1 h.2
    · by_cases c : okCh (chB a i)
      · rw [step c]
        exact (ih (i + 1) (by omega)).2 (fun z => h ⟨c, z⟩)
      · have c : ¬ okCh ((a >>> (((8 : Int32) * nI i) &&& 31)) &&& 255) := c
        have c1 : ¬ ((a >>> (((8 : Int32) * nI i) &&& 31)) &&& 255) = 10 := fun z => c (Or.inl z)
        rw [s134_26]
        simp only [s134_27, s134_28, if_neg e, s134_31, s134_32, s134_34, s134_35, s134_36, s134_37, s134_40, s134_41, s134_43, s134_45, s134_47, if_neg c1, s134_50, s134_52, s134_54]
        by_cases c2 : ((a >>> (((8 : Int32) * nI i) &&& 31)) &&& 255) < 32
        · simp only [if_pos c2, s134_64]
          exact s134_65 (Or.inl rfl)
        · have c3 : ¬ ((a >>> (((8 : Int32) * nI i) &&& 31)) &&& 255) ≤ 126 := fun z => c (Or.inr ⟨c2, z⟩)
          simp only [if_neg c2, s134_57, s134_59, s134_61, if_neg c3, s134_64]
          exact s134_65 (Or.inl rfl)
theorem y_typeLoop {v : Int64} : ∀ (k n : Nat) (xs : List Int32) (m : Nat → Int32) (w : ex_W), w[32]? = some (.inl (8, mo m v)) → w[36]? = some (.inr (0, xs)) → xs.length = 200 → m 7 = nI n → n + k ≤ 200 → ex_go X 134 76 [(0, .ref 32), (1, .int a), (3, .int (nI k - 1))] [] w = some (some (.int 1), mW w 36 (putL xs n (lowB a k)) (upd m 7 (nI (n + k))) v) := by
  intro k
  induction k with
  | zero =>
    intro n xs m w hM hA hx hm hk
    have e : nI 0 - 1 < 0 := by decide
    rw [s134_76]
    simp only [s134_77, if_pos e, s134_115, s134_116 (Or.inr rfl)]
    have eu : upd m 7 (nI (n + 0)) = m := by
      funext j
      unfold upd
      split
      next hj => rw [hj, hm]; rfl
      next => rfl
    rw [eu, show putL xs n (lowB a 0) = xs from rfl, mW_self hA hM]
  | succ k ih =>
    intro n xs m w hM hA hx hm hk
    have z1 : (32 : Nat) < 1000 := by decide
    have z2 : (36 : Nat) < 1000 := by decide
    rw [nI_pred, s134_76]
    have e : ¬ nI k < 0 := nI_pos (by omega)
    have hM1 : (w.set 36 (.inr (0, xs.set n ((a >>> (((8 : Int32) * nI k) &&& 31)) &&& 255))))[32]? = some (.inl (8, mo m v)) := ex_set_o (by decide) hM
    have e2 : nI k + -1 = nI k - 1 := by rw [Int32.sub_eq_add_neg]
    simp only [s134_77, if_neg e, s134_80, s134_81 z1, s134_84, s134_85 z1, s134_88, s134_89, s134_91, s134_92, s134_93, s134_94, s134_97, s134_98 z2, ex_gf_i hM, mo_6, mo_7, Option.bind_some, hm, ex_as_i hA (show n < xs.length by omega) (by omega), s134_99, s134_100, s134_101 z1, ex_gf_i hM1, s134_104, s134_105, s134_106 z1, ex_pf_i hM1 (k := 7) (by rw [mo_len]; decide), mo_s7, nI_1, s134_109, s134_112, e2]
    have hW : (w.set 36 (Sum.inr (0, xs.set n ((a >>> (((8 : Int32) * nI k) &&& 31)) &&& 255)))).set 32 (Sum.inl (8, mo (upd m 7 (nI (n + 1))) v)) = mW w 36 (xs.set n ((a >>> (((8 : Int32) * nI k) &&& 31)) &&& 255)) (upd m 7 (nI (n + 1))) v := rfl
    rw [hW, ih (n + 1) _ (upd m 7 (nI (n + 1))) _ (mW_m (by decide) hM) (mW_a (by decide) hA) (by rw [List.length_set]; exact hx) pk_us (by omega), mW_w (by decide)]
    have eu : upd (upd m 7 (nI (n + 1))) 7 (nI (n + 1 + k)) = upd m 7 (nI (n + (k + 1))) := by
      funext j
      unfold upd
      rw [show n + 1 + k = n + (k + 1) by omega]
      split <;> rfl
    rw [eu]
    rfl
theorem y_typeYes {v : Int64} {m : Nat → Int32} {k : Nat} (hM : w[32]? = some (.inl (8, mo m v))) (hA : w[36]? = some (.inr (0, xs))) (hx : xs.length = 200) (hm : m 7 = nI n) (h1 : 1 ≤ k) (h4 : k ≤ 4) (hc : n + k ≤ 200) (ha : allCh a 0 k) : ex_call X 134 [.ref 32, .int a, .int (nI k)] w = some (some (.int 1), mW w 36 (putL xs n (lowB a k)) (upd m 7 (nI (n + k))) v) := by
  have z1 : (32 : Nat) < 1000 := by decide
  have e1 : ¬ nI k < 1 := nI_nlt (b := 1) h1 (by omega)
  have e2 : ¬ (4 : Int32) < nI k := nI_nlt (a := 4) h4 (by decide)
  have e3 : nI (n + k) ≤ 200 := nI_le (b := 200) hc (by decide)
  have hy := (y_chars (X := X) (w := w) (a := a) (k := k) (by omega) k 0 (by omega)).1 ha
  rw [nI_0] at hy
  show ex_go X 134 0 [(0, .ref 32), (1, .int a), (2, .int (nI k))] [] w = _
  simp only [s134_0, s134_1, s134_2, if_neg e1, s134_5, s134_6, s134_7, if_neg e2, s134_10, s134_11 z1, s134_14, s134_15, s134_16, s134_19, ex_gf_i hM, mo_7, Option.bind_some, hm, nI_add, if_pos e3, s134_24, s134_25, hy, s134_72, s134_73, s134_74, s134_75]
  exact y_typeLoop k n xs m w hM hA hx hm hc
theorem y_typeNo {v : Int64} {m : Nat → Int32} (hM : w[32]? = some (.inl (8, mo m v))) (hm : m 7 = nI n) (hb : ¬ (fitsIn n 200 b ∧ ∀ k : Nat, b = nI k → k ≤ 4 → allCh a 0 k)) : ex_call X 134 [.ref 32, .int a, .int b] w = some (some (.int 0), w) := by
  have z1 : (32 : Nat) < 1000 := by decide
  show ex_go X 134 0 [(0, .ref 32), (1, .int a), (2, .int b)] [] w = _
  simp only [s134_0, s134_1, s134_2]
  by_cases c1 : b < 1
  · simp only [if_pos c1, s134_22, s134_23 (Or.inl rfl)]
  · simp only [if_neg c1, s134_5, s134_6, s134_7]
    by_cases c2 : (4 : Int32) < b
    · simp only [if_pos c2, s134_22, s134_23 (Or.inl rfl)]
    · simp only [if_neg c2, s134_10, s134_11 z1, s134_14, s134_15, s134_16, s134_19, ex_gf_i hM, mo_7, Option.bind_some, hm]
      by_cases c3 : (200 : Int32) < nI n + b
      · have c3' : ¬ nI n + b ≤ 200 := by
          rw [Int32.le_iff_toInt_le]
          rw [Int32.lt_iff_toInt_lt] at c3
          omega
        simp only [if_neg c3', s134_22, s134_23 (Or.inl rfl)]
      · have c3' : nI n + b ≤ 200 := by
          rw [Int32.le_iff_toInt_le]
          rw [Int32.lt_iff_toInt_lt] at c3
          omega
        obtain ⟨k, k1, k4, rfl⟩ := four c1 c2
        have c4 : ¬ allCh a 0 k := fun z => hb ⟨⟨c1, c2, c3⟩, fun j hj hj4 => by
          rw [nI_eq (by omega) (by omega)] at hj
          subst hj
          exact z⟩
        have hy := (y_chars (X := X) (w := w) (a := a) (k := k) (by omega) k 0 (by omega)).2 c4
        rw [nI_0] at hy
        simp only [if_pos c3', s134_24, s134_25, hy]
end TYPE
theorem rowAt_congr {xs ys : List Int32} {n : Nat} {d i : Int32} (h : ∀ j, j < n → xs.getD j 0 = ys.getD j 0) (hn : n < 2 ^ 31) : rowAt xs n d i = rowAt ys n d i := by
  unfold rowAt
  by_cases c1 : i < 0
  · rw [if_pos c1, if_pos c1]
  · rw [if_neg c1, if_neg c1]
    by_cases c2 : i < nI n
    · rw [if_pos c2, if_pos c2]
      obtain ⟨j, hj, rfl⟩ := nI_of c1
      have hj2 : j < n := by
        rcases Nat.lt_or_ge j n with z | z
        · exact z
        · exact absurd c2 (nI_nlt z hj)
      rw [nI_clamp hj]
      exact h j hj2
    · rw [if_neg c2, if_neg c2]
section TELL
variable {X : Option (List Int32)} {w : ex_W} {n : Nat} {xs : List Int32} {i : Int32}
theorem x_byteAt {B q a : Nat} {v0 v1 v2 v3 v5 : Value} {c1 c2 : Value} (h0 : w[0]? = some (.inl (0, [v0, v1, v2, v3, .ref B, v5]))) (hB : w[B]? = some (.inl (2, [.ref q, c1, c2]))) (hb : B < 1000) (R : isRow w q a xs n) : ex_call X 9 [.ref 0, .int i] w = some (some (.int (rowAt xs n (-1) i)), w) := by
  have z1 : (0 : Nat) < 1000 := by decide
  show ex_go X 9 0 [(0, .ref 0), (1, .int i)] [] w = _
  simp only [s9_0, s9_1 z1, s9_4 hb, s9_7, s9_8 (ex_rc_o R.1 R.2.2.2.2.1 (by decide)), ex_gf_i h0, ex_gf_i hB, List.getElem?_cons_zero, List.getElem?_cons_succ, Option.bind_some, r_cellOrNone R, Option.toList_some, List.cons_append, List.nil_append, s9_11]
theorem x_size {B q a : Nat} {v0 v1 v2 v3 v5 : Value} {c1 c2 : Value} (h0 : w[0]? = some (.inl (0, [v0, v1, v2, v3, .ref B, v5]))) (hB : w[B]? = some (.inl (2, [.ref q, c1, c2]))) (hb : B < 1000) (R : isRow w q a xs n) : ex_call X 8 [.ref 0] w = some (some (.int (nI n)), w) := by
  have z1 : (0 : Nat) < 1000 := by decide
  show ex_go X 8 0 [(0, .ref 0)] [] w = _
  simp only [s8_0, s8_1 z1, s8_4 hb, s8_7 R.2.2.2.2.1, ex_gf_i h0, ex_gf_i hB, ex_gf_i R.1, List.getElem?_cons_zero, List.getElem?_cons_succ, Option.bind_some, s8_10]
theorem x_at {v0 v1 v2 v4 v5 : Value} {c1 c2 : Value} (h0 : w[0]? = some (.inl (0, [v0, v1, v2, .ref 15, v4, v5]))) (hB : w[15]? = some (.inl (6, [.ref 16, c1, c2]))) (R : isRow w 16 17 xs n) : ex_call X 11 [.ref 0, .int i] w = some (some (.int (rowAt xs n (-1) i)), w) := by
  have z1 : (0 : Nat) < 1000 := by decide
  have z2 : (15 : Nat) < 1000 := by decide
  show ex_go X 11 0 [(0, .ref 0), (1, .int i)] [] w = _
  simp only [s11_0, s11_1 z1, s11_4 z2, s11_7, s11_8 (ex_rc_o R.1 R.2.2.2.2.1 (by decide)), ex_gf_i h0, ex_gf_i hB, List.getElem?_cons_zero, List.getElem?_cons_succ, Option.bind_some, r_cellOrNone R, Option.toList_some, List.cons_append, List.nil_append, s11_11]
theorem x_length {v0 v1 v2 v4 v5 : Value} {c1 c2 : Value} (h0 : w[0]? = some (.inl (0, [v0, v1, v2, .ref 15, v4, v5]))) (hB : w[15]? = some (.inl (6, [.ref 16, c1, c2]))) (R : isRow w 16 17 xs n) : ex_call X 10 [.ref 0] w = some (some (.int (nI n)), w) := by
  have z1 : (0 : Nat) < 1000 := by decide
  have z2 : (15 : Nat) < 1000 := by decide
  show ex_go X 10 0 [(0, .ref 0)] [] w = _
  simp only [s10_0, s10_1 z1, s10_4 z2, s10_7 R.2.2.2.2.1, ex_gf_i h0, ex_gf_i hB, ex_gf_i R.1, List.getElem?_cons_zero, List.getElem?_cons_succ, Option.bind_some, s10_10]
theorem y_byteAt {v : Int64} {m : Nat → Int32} (hM : w[32]? = some (.inl (8, mo m v))) (hA : w[33]? = some (.inr (0, xs))) (hm : m 1 = nI n) (hn : n ≤ xs.length) (hx : xs.length < 2 ^ 20) : ex_call X 161 [.ref 32, .int i] w = some (some (.int (rowAt xs n (-1) i)), w) := by
  have z1 : (32 : Nat) < 1000 := by decide
  have z2 : (33 : Nat) < 1000 := by decide
  show ex_go X 161 0 [(0, .ref 32), (1, .int i)] [] w = _
  unfold rowAt
  simp only [s161_0, s161_1, s161_4, s161_5, s161_6 z1, ex_gf_i hM, mo_1, Option.bind_some, hm, s161_9, s161_12, s161_13 z1, mo_0, s161_16, s161_17 z2, s161_18, s161_21, s161_22]
  by_cases c1 : i < 0
  · rw [if_pos c1, if_pos c1]
  · rw [if_neg c1, if_neg c1]
    obtain ⟨j, hj, rfl⟩ := nI_of c1
    by_cases c2 : nI j < nI n
    · rw [if_pos c2, if_neg (fun z => by
        rw [nI_leI (by omega) hj] at z
        rw [nI_ltI hj (by omega)] at c2
        omega)]
      rw [nI_ltI hj (by omega)] at c2
      rw [ex_al_i hA (by omega) (by omega), nI_clamp hj]
      rfl
    · rw [if_neg c2, if_pos (by
        rw [nI_ltI hj (by omega)] at c2
        rw [nI_leI (by omega) hj]
        omega)]
theorem y_at {v : Int64} {m : Nat → Int32} (hM : w[32]? = some (.inl (8, mo m v))) (hA : w[37]? = some (.inr (0, xs))) (hm : m 9 = nI n) (hn : n ≤ xs.length) (hx : xs.length < 2 ^ 20) : ex_call X 163 [.ref 32, .int i] w = some (some (.int (rowAt xs n (-1) i)), w) := by
  have z1 : (32 : Nat) < 1000 := by decide
  have z2 : (37 : Nat) < 1000 := by decide
  show ex_go X 163 0 [(0, .ref 32), (1, .int i)] [] w = _
  unfold rowAt
  simp only [s163_0, s163_1, s163_4, s163_5, s163_6 z1, ex_gf_i hM, mo_9, Option.bind_some, hm, s163_9, s163_12, s163_13 z1, mo_8, s163_16, s163_17 z2, s163_18, s163_21, s163_22]
  by_cases c1 : i < 0
  · rw [if_pos c1, if_pos c1]
  · rw [if_neg c1, if_neg c1]
    obtain ⟨j, hj, rfl⟩ := nI_of c1
    by_cases c2 : nI j < nI n
    · rw [if_pos c2, if_neg (fun z => by
        rw [nI_leI (by omega) hj] at z
        rw [nI_ltI hj (by omega)] at c2
        omega)]
      rw [nI_ltI hj (by omega)] at c2
      rw [ex_al_i hA (by omega) (by omega), nI_clamp hj]
      rfl
    · rw [if_neg c2, if_pos (by
        rw [nI_ltI hj (by omega)] at c2
        rw [nI_leI (by omega) hj]
        omega)]
theorem y_size {v : Int64} {m : Nat → Int32} (hM : w[32]? = some (.inl (8, mo m v))) : ex_call X 160 [.ref 32] w = some (some (.int (m 1)), w) := by
  have z1 : (32 : Nat) < 1000 := by decide
  show ex_go X 160 0 [(0, .ref 32)] [] w = _
  simp only [s160_0, s160_1 z1, ex_gf_i hM, mo_1, Option.bind_some, s160_4]
theorem y_length {v : Int64} {m : Nat → Int32} (hM : w[32]? = some (.inl (8, mo m v))) : ex_call X 162 [.ref 32] w = some (some (.int (m 9)), w) := by
  have z1 : (32 : Nat) < 1000 := by decide
  show ex_go X 162 0 [(0, .ref 32)] [] w = _
  simp only [s162_0, s162_1 z1, ex_gf_i hM, mo_9, Option.bind_some, s162_4]
end TELL
end
section
/-! one call on fresh objects -/
def ex_is (w : ex_W) (i : Nat) (c : ex_C) : Bool := match w[i]? with
  | some d => ex_eqC d c
  | none => false
theorem ex_is_s {w : ex_W} {i : Nat} {c : ex_C} (h : ex_is w i c = true) : w[i]? = some c := by
  unfold ex_is at h
  split at h
  next d hd => rw [hd, ex_eqC_s h]
  next => cases h
/-- a call on both whose arguments are numbers that are known: run it -/
def prB (mc mm : Nat) (av : List Value) (w : ex_W) : Bool := ex_rc w 0 0 && match ex_run none 20000 mc 0 (lv_args 0 (.ref 0 :: av)) [] w with
  | some (some (.int r), w1) => ex_rc w1 32 8 && match ex_run none 20000 mm 0 (lv_args 0 (.ref 32 :: av)) [] w1 with
    | some (some (.int r2), w2) => decide (r = r2) && decide (w2.length = 46)
    | _ => false
  | _ => false
theorem prB_s {mc mm : Nat} {av : List Value} {w : ex_W} (h : prB mc mm av w = true) : pr mc mm av w (fun w => w.length = 46) := by
  unfold prB at h
  obtain ⟨h1, h2⟩ := (Bool.and_eq_true _ _).mp h
  split at h2
  next r w1 e1 =>
    obtain ⟨h3, h4⟩ := (Bool.and_eq_true _ _).mp h2
    split at h4
    next r2 w2 e2 =>
      obtain ⟨h5, h6⟩ := (Bool.and_eq_true _ _).mp h4
      have e : r = r2 := of_decide_eq_true h5
      subst e
      exact ⟨r, w1, w2, h1, ex_call_run 20000 e1, h3, ex_call_run 20000 e2, of_decide_eq_true h6⟩
    next => cases h4
  next => cases h2
def m0 : Nat → Int32 := fun k => if k = 1 then 6 else if k = 9 then 8 else 0
theorem w0_0 : ex_w0[0]? = some (.inl (0, [.ref 1, .ref 3, .ref 5, .ref 15, .ref 22, .ref 27])) := ex_is_s (by decide +kernel)
theorem w0_32 : ex_w0[32]? = some (.inl (8, mo m0 0)) := ex_is_s (by decide +kernel)
theorem w0_wait : isRow ex_w0 1 2 (List.replicate 124 0) 0 := ⟨ex_is_s (by decide +kernel), ex_is_s (by decide +kernel), by decide +kernel, by decide +kernel, by decide, by decide⟩
theorem w0_typed : isRow ex_w0 3 4 (List.replicate 200 0) 0 := ⟨ex_is_s (by decide +kernel), ex_is_s (by decide +kernel), by decide +kernel, by decide +kernel, by decide, by decide⟩
theorem w0_35 : ex_w0[35]? = some (.inr (0, List.replicate 124 0)) := ex_is_s (by decide +kernel)
theorem w0_36 : ex_w0[36]? = some (.inr (0, List.replicate 200 0)) := ex_is_s (by decide +kernel)
theorem w0_r0 : ex_rc ex_w0 0 0 = true := by decide +kernel
theorem w0_r32 : ex_rc ex_w0 32 8 = true := by decide +kernel
theorem one_put (a b : Int32) : pr 2 128 [.int a, .int b] ex_w0 (fun w => w.length = 46) := by
  by_cases hf : fitsIn 0 124 b
  · obtain ⟨k, k1, k4, rfl⟩ := four hf.1 hf.2.1
    refine ⟨1, _, _, w0_r0, x_putYes w0_0 w0_wait k1 k4 (by omega) rfl, ?_, y_putYes (n := 0) (m := m0) (v := 0) ((rowW_o (by decide) (by decide)).trans w0_32) ((rowW_o (by decide) (by decide)).trans w0_35) rfl rfl k1 k4 (by omega), ?_⟩
    · exact ex_rc_o ((rowW_o (by decide) (by decide)).trans w0_32) (by decide) (by decide)
    · show (mW _ _ _ _ _).length = 46
      rw [mW_len, rowW_len]
      exact ex_sl0.2
  · exact ⟨0, _, _, w0_r0, x_putNo w0_0 w0_wait hf, w0_r32, y_putNo (n := 0) w0_32 rfl hf, ex_sl0.2⟩
theorem one_type (a b : Int32) : pr 5 134 [.int a, .int b] ex_w0 (fun w => w.length = 46) := by
  by_cases hf : fitsIn 0 200 b ∧ ∀ k : Nat, b = nI k → k ≤ 4 → allCh a 0 k
  · obtain ⟨k, k1, k4, rfl⟩ := four hf.1.1 hf.1.2.1
    have ha := hf.2 k rfl k4
    refine ⟨1, _, _, w0_r0, x_typeYes w0_0 w0_typed k1 k4 (by omega) rfl ha, ?_, y_typeYes (n := 0) (m := m0) (v := 0) ((rowW_o (by decide) (by decide)).trans w0_32) ((rowW_o (by decide) (by decide)).trans w0_36) rfl rfl k1 k4 (by omega) ha, ?_⟩
    · exact ex_rc_o ((rowW_o (by decide) (by decide)).trans w0_32) (by decide) (by decide)
    · show (mW _ _ _ _ _).length = 46
      rw [mW_len, rowW_len]
      exact ex_sl0.2
  · exact ⟨0, _, _, w0_r0, x_typeNo w0_0 w0_typed hf, w0_r32, y_typeNo (n := 0) w0_32 rfl hf, ex_sl0.2⟩
theorem w0_22 : ex_w0[22]? = some (.inl (2, [.ref 23, .ref 25, .ref 26])) := ex_is_s (by decide +kernel)
theorem w0_15 : ex_w0[15]? = some (.inl (6, [.ref 16, .ref 18, .ref 20])) := ex_is_s (by decide +kernel)
theorem w0_bytes : isRow ex_w0 23 24 (77 :: List.replicate 123 0) 6 := ⟨ex_is_s (by decide +kernel), ex_is_s (by decide +kernel), by decide +kernel, by decide +kernel, by decide, by decide⟩
theorem w0_text : isRow ex_w0 16 17 ([98, 108, 111, 99, 107, 32, 48, 10] ++ List.replicate 800 0) 8 := ⟨ex_is_s (by decide +kernel), ex_is_s (by decide +kernel), by decide +kernel, by decide +kernel, by decide, by decide⟩
theorem w0_33 : ex_w0[33]? = some (.inr (0, 77 :: List.replicate 129 0)) := ex_is_s (by decide +kernel)
theorem w0_37 : ex_w0[37]? = some (.inr (0, [98, 108, 111, 99, 107, 32, 48, 10] ++ List.replicate 992 0)) := ex_is_s (by decide +kernel)
theorem one_byteAt (i : Int32) : pr 9 161 [.int i] ex_w0 (fun w => w.length = 46) := by
  refine ⟨_, _, _, w0_r0, x_byteAt w0_0 w0_22 (by decide) w0_bytes, w0_r32, ?_, ex_sl0.2⟩
  rw [y_byteAt (n := 6) w0_32 w0_33 rfl (by decide +kernel) (by decide +kernel)]
  rw [rowAt_congr (xs := 77 :: List.replicate 129 0) (ys := 77 :: List.replicate 123 0) (by decide +kernel) (by decide)]
theorem one_at (i : Int32) : pr 11 163 [.int i] ex_w0 (fun w => w.length = 46) := by
  refine ⟨_, _, _, w0_r0, x_at w0_0 w0_15 w0_text, w0_r32, ?_, ex_sl0.2⟩
  rw [y_at (n := 8) w0_32 w0_37 rfl (by decide +kernel) (by decide +kernel)]
  rw [rowAt_congr (xs := [98, 108, 111, 99, 107, 32, 48, 10] ++ List.replicate 992 0) (ys := [98, 108, 111, 99, 107, 32, 48, 10] ++ List.replicate 800 0) (by decide +kernel) (by decide)]
theorem one_count (i : Int32) : pr 12 164 [.int i] ex_w0 (fun w => w.length = 46) := by
  by_cases c1 : i < 0
  · refine ⟨-1, ex_w0, ex_w0, w0_r0, ?_, w0_r32, ?_, ex_sl0.2⟩
    · show ex_go none 12 0 [(0, .ref 0), (1, .int i)] [] ex_w0 = _
      simp only [s12_0, s12_1, if_pos c1, s12_9, s12_10, s12_21]
    · show ex_go none 164 0 [(0, .ref 32), (1, .int i)] [] ex_w0 = _
      simp only [s164_0, s164_1, if_pos c1, s164_9, s164_10, s164_23]
  · by_cases c2 : i < 4
    · obtain ⟨j, hj, rfl⟩ := nI_of c1
      have hj4 : j < 4 := by
        rcases Nat.lt_or_ge j 4 with z | z
        · exact z
        · exact absurd c2 (nI_nlt (b := 4) z hj)
      have all : ∀ j, j < 4 → prB 12 164 [.int (nI j)] ex_w0 = true := by decide +kernel
      exact prB_s (all j hj4)
    · refine ⟨-1, ex_w0, ex_w0, w0_r0, ?_, w0_r32, ?_, ex_sl0.2⟩
      · show ex_go none 12 0 [(0, .ref 0), (1, .int i)] [] ex_w0 = _
        simp only [s12_0, s12_1, if_neg c1, s12_4, s12_5, s12_6, if_neg c2, s12_9, s12_10, s12_21]
      · have c3 : ¬ i ≤ 3 := by
          rw [Int32.le_iff_toInt_le]
          rw [Int32.lt_iff_toInt_lt] at c2
          have e3 : (3 : Int32).toInt = 3 := by decide
          have e4 : (4 : Int32).toInt = 4 := by decide
          omega
        show ex_go none 164 0 [(0, .ref 32), (1, .int i)] [] ex_w0 = _
        simp only [s164_0, s164_1, if_neg c1, s164_4, s164_5, s164_6, if_neg c3, s164_9, s164_10, s164_23]
theorem w0_howMany : ex_call none 31 [.ref 22, .int 2] ex_w0 = some (some (.int 0), ex_w0) := ex_call_run 2000 (ex_chk_s (by decide +kernel))
theorem w0_count2 : ex_call none 164 [.ref 32, .int 2] ex_w0 = some (some (.int 0), ex_w0) := ex_call_run 2000 (ex_chk_s (by decide +kernel))
theorem one_clear (i : Int32) : pr 13 167 [.int i] ex_w0 (fun w => w.length = 46) := by
  have z1 : (0 : Nat) < 1000 := by decide
  have z2 : (32 : Nat) < 1000 := by decide
  by_cases c1 : i < 0
  · refine ⟨-1, ex_w0, ex_w0, w0_r0, ?_, w0_r32, ?_, ex_sl0.2⟩
    · show ex_go none 13 0 [(0, .ref 0), (1, .int i)] [] ex_w0 = _
      simp only [s13_0, s13_1, if_pos c1, s13_16, s13_17]
    · show ex_go none 167 0 [(0, .ref 32), (1, .int i)] [] ex_w0 = _
      simp only [s167_0, s167_1, if_pos c1, s167_13, s167_14]
  · refine ⟨-1, ex_w0, ex_w0, w0_r0, ?_, w0_r32, ?_, ex_sl0.2⟩
    · show ex_go none 13 0 [(0, .ref 0), (1, .int i)] [] ex_w0 = _
      simp only [s13_0, s13_1, if_neg c1, s13_4, s13_5, s13_6 z1, ex_gf_i w0_0, List.getElem?_cons_zero, List.getElem?_cons_succ, Option.bind_some, s13_9, s13_10 (ex_rc_o w0_22 (by decide) (by decide)), w0_howMany, Option.toList_some, List.cons_append, List.nil_append, s13_13, s13_16, s13_17]
    · show ex_go none 167 0 [(0, .ref 32), (1, .int i)] [] ex_w0 = _
      simp only [s167_0, s167_1, if_neg c1, s167_4, s167_5, s167_6, s167_7 w0_r32, w0_count2, Option.bind_some, Option.toList_some, List.cons_append, List.nil_append, s167_10, s167_13, s167_14]
set_option maxRecDepth 100000 in
theorem one_take : pr 3 129 [] ex_w0 (fun w => w.length = 46) := prB_s (by decide +kernel)
set_option maxRecDepth 100000 in
theorem one_make : pr 7 135 [] ex_w0 (fun w => w.length = 46) := prB_s (by decide +kernel)
def ex_wE : ex_W := (((ex_w0.set 5 (.inl (4, [.ref 6, .ref 8, .ref 10, .int 3, .int 5, .int 6, .int 0, .int 0, .int 0, .int 0]))).set 6 (.inl (1, [.ref 7, .int 6]))).set 7 (.inr (0, 77 :: List.replicate 119 0))).set 8 (.inl (7, [.ref 17, .int 8, .int 8, .int 8, .int 0, .int 0, .int 0, .long 0, .long 0]))
set_option maxRecDepth 100000 in
theorem one_exactC : ex_run none 20000 14 0 (lv_args 0 [.ref 0]) [] ex_w0 = some (some (.int 1), ex_wE) := ex_chk_s (by decide +kernel)
def ex_one (o : ex_O) : Bool := match o with
  | some (some (.int r), w2) => decide (r = 1) && decide (w2.length = 46)
  | _ => false
set_option maxRecDepth 100000 in
theorem one_exactM : ex_one (ex_run none 20000 168 0 (lv_args 0 [.ref 32]) [] ex_wE) = true := by decide +kernel
theorem one_exact : pr 14 168 [] ex_w0 (fun w => w.length = 46) := by
  have h := one_exactM
  unfold ex_one at h
  split at h
  next r w2 e2 =>
    obtain ⟨h5, h6⟩ := (Bool.and_eq_true _ _).mp h
    have e : r = 1 := of_decide_eq_true h5
    subst e
    exact ⟨1, ex_wE, w2, w0_r0, ex_call_run 20000 one_exactC, by decide +kernel, ex_call_run 20000 e2, of_decide_eq_true h6⟩
  next => cases h
theorem one_size : pr 8 160 [] ex_w0 (fun w => w.length = 46) := prB_s (by decide +kernel)
theorem one_length : pr 10 162 [] ex_w0 (fun w => w.length = 46) := prB_s (by decide +kernel)
def I1 : Nat → ex_W → Prop
  | 0, w => w.length = 46
  | 1, w => w = ex_w0
  | _, _ => False
theorem I1_step : ∀ k, StepOK (I1 (k + 1)) (I1 k) := by
  intro k w hw
  cases k with
  | zero =>
    have e : w = ex_w0 := hw
    subst e
    exact ⟨one_put, one_take, one_type, one_make, one_size, one_byteAt, one_length, one_at, one_count, one_clear, one_exact, ex_sl0.2⟩
  | succ k => exact absurd hw id
theorem I1_len : ∀ k w, I1 k w → w.length = 46 := by
  intro k w h
  match k, h with
  | 0, h => exact h
  | 1, h => rw [show w = ex_w0 from h]; exact ex_sl0.2
  | k + 2, h => exact absurd h id
end
section
/-- YOUR PART: from the entry, for every script of at most 3 ints, the law comes to its end with true -/
theorem whole_start {p : Program} {e : Env} {s : State} {m : MethodId} {below : List Frame} {meth : Method} {c : Code} (l : Launch) {b L : Nat} {xs : Nat → Int32} (hL : L ≤ 3) (C0 : lw_At p s m meth c b L xs) : W p l e room_1 s m #[Value.ref b] below meth c s.heap [] 0 0 (lw_Z below #[Value.ref b] s) (entryFrame m ([Value.ref b] : List Value).toArray 4) := by
  refine ex_start l C0 ?_
  have hl : ((List.range L).map xs).length = L := by rw [List.length_map, List.length_range]
  obtain ⟨n, w9, h1, h2, h3⟩ := ex_whole I1_step I1_len 1 rfl ((List.range L).map xs) (by omega) (by omega)
  exact ⟨n, w9, h1, by omega, by omega⟩
-- ===== YOUR PART ENDS =====
set_option maxHeartbeats 4000000 in
theorem lw_walk (l : Launch) (b : Addr) (xs : List Int32) : MetFree l x (headSpec (Jvm.Cond.code x code maxLocals ret :: tables_1) room_1) (lw_P b xs) (fun _ _ _ _ _ => True) lw_Q := by
  refine MetFree.of_bodyS (code := code) (maxLocals := maxLocals) (ret := ret) (by decide) ?_ ?_
  · intro args s m h hn
    obtain ⟨meth, c, h1, h2, h3, h4, h5, h6, -, -⟩ := Cond.code_spec hn (atoms_spec (ws := Jvm.Cond.code x code maxLocals ret :: tables_1) h _ List.mem_cons_self)
    exact ⟨meth, c, h1, h2, h3, h4, h5, h6⟩
  · intro p e s m args below meth c s₁ B hml0 hP _
    obtain ⟨rfl, hx, hbd, hgv⟩ := hP
    obtain ⟨scr, harrAt, hlist, hof, hsmall⟩ := hx
    obtain ⟨hcb, hkn, -, -⟩ := State.arrayAt?_spec harrAt
    have hown : s.vm.findClass R_law = some m.cls := findClass_of_methodNamed B.named
    have hts0 : ∀ c ∈ (Jvm.Cond.code x code maxLocals ret :: tables_1), c.before #[Value.ref b] s = true := atoms_spec (ws := Jvm.Cond.code x code maxLocals ret :: tables_1) B.pre
    have hts : ∀ w ∈ lw_tbl, w.before #[Value.ref b] s = true := k2_hts_sels lw_privs (fun w hw => hts0 w (List.mem_cons_of_mem _ hw)) lw_privs_ok
    have hml : c.maxLocals = 4 := B.maxLocals_eq (hts0 _ List.mem_cons_self)
    have X₀ : Stand p l e room_1 s m #[Value.ref b] below meth c s₁ [] 0 0 := Stand.of_body B
    have hh0 : s₁.heap = s.heap := by rw [B.state]; rfl
    have hsz : scr.slots.size = xs.length := by rw [← Array.length_toList, hlist, List.length_map]
    have hval : ∀ j : Nat, j < xs.length → scr.slots[j]? = some (.int (xs.getD j 0)) := fun j hj => by
      rw [← Array.getElem?_toList, hlist]
      simp [hj]
    have hbl : b < s.heap.size := (Array.getElem?_eq_some_iff.mp hcb).1
    have hX : va_X b xs.length (fun j => xs.getD j 0) s s.heap := ⟨scr, hcb, hof, hkn, hsz, hval⟩
    have K : W p l e room_1 s m #[Value.ref b] below meth c s₁.heap [] 0 0 (lw_Z below #[Value.ref b] s) (entryFrame m ([Value.ref b] : List Value).toArray 4) := by
      rw [hh0]
      exact whole_start l hbd ⟨B.exec, B.bytes, B.returns, hml, hown, hts, hX, hbl, B.notSynchronized, hgv⟩
    obtain ⟨t, a1, o, b1, b2, b3⟩ := K s₁ rfl X₀
    exact ⟨t, o, a1, b1, b2, b3⟩
theorem lw_pre_spec {args : Array Value} {s : State} (h : (Jvm.Cond.and given_1 narrow_1).before args s = true) (hr : rest_1_c.before args s = true) : ∃ (b : Addr) (xs : List Int32), lw_P b xs args s := by
  have hs := flat_of_before _ h
  have hq := flat_of_before _ hr
  have hc : (Cond.count 1).before args s = true := hs _ (by decide +kernel)
  have harr : (Cond.arrayOf (.arg 0) .int).before args s = true := hs _ (by decide +kernel)
  have hle : (Cond.le (.length (.arg 0)) (.int 3)).before args s = true := hs _ (by decide +kernel)
  have hlen : (Cond.isInt (.length (.arg 0))).before args s = true := hq _ (by decide +kernel)
  have hall : (Cond.all (.arg 0) (.isInt (.elem (.arg 0) (.index 0)))).before args s = true := hq _ (by decide +kernel)
  obtain ⟨b, xs, hb, hx⟩ := State.ints_of_pre rfl harr hlen hall
  have hsm : xs.length < 2 ^ 31 := hx.choose_spec.2.2.2
  have hev : (Term.length (.arg 0)).eval args s none [] s = some (.int xs.length.toInt32) := hx.length_eval hb
  have hv := Cond.le_ints hev (show (Term.int 3).eval args s none [] s = some (.int 3) from rfl)
  have hd : xs.length.toInt32 ≤ 3 := by
    simpa [Cond.before, Cond.holds, hv] using hle
  have hN : xs.length ≤ 3 := (Int32.ofNat_le_ofNat hsm (by decide)).mp (show Int32.ofNat xs.length ≤ Int32.ofNat 3 from hd)
  exact ⟨b, xs, Cond.one_arg hc (show args[0]? = some (.ref b) from hb), hx, hN, h⟩
theorem lw_comes (l : Launch) : Comes l x (Jvm.Cond.code x code maxLocals ret :: tables_1) room_1 (fun tb e args s => Calls_1 tb e args s ∧ rest_1 tb e args s ∧ Pre_1 tb e args s)
    (fun _ _ args s o t => lw_Q args s o t) := by
  intro p e ha hc hk s m args below hf hfit hheap happ hpre
  obtain ⟨b, xs, hP⟩ := lw_pre_spec hpre.2.2 hpre.2.1
  obtain ⟨k, o, h1, h2, h3, hQ⟩ := lw_walk l b xs p e ha hc hk s m args below hf ((Spec.applies_iff_loose hf).mp happ).1 hP trivial
  exact ⟨k, o, h1, h2, h3, hQ⟩
theorem lw_frame {s t : State} {o : Outcome} {args : Array Value} (h : Framed s o t [] 600000 7302250) :
    Framed s o t (fieldLocs frame_1_writes args s ++ arrayLocs frame_1_arrays args s ++ staticLocs frame_1_statics s) 600000 7302250 := h
theorem lw_limb (L : Cond) (hL : ∀ (args : Array Value) (s t : State), L.after args s (.returned (some (.int 1))) t = true) :
    ArmFor flags0 classFile x code maxLocals ret World_1 tables_1 room_1 Calls_1 rest_1 Pre_1
      (fun tb e a s o t => postC L tb e a s o t ∧ Framed s o t (fieldLocs frame_1_writes a s ++ arrayLocs frame_1_arrays a s ++ staticLocs frame_1_statics s) 600000 7302250) := by
  intro l _ _ _ p e ha hc hk s m args below hf hfit hheap happ hpre
  obtain ⟨k, o, h1, h2, h3, rfl, hF⟩ := lw_comes l p e ha hc hk s m args below hf hfit hheap happ hpre
  exact ⟨k, _, h1, h2, h3, hL args s _, lw_frame hF⟩
theorem i_vc : Claimed_1_1 ∧ Claimed_1_2 := ⟨lw_limb limb_1_1 (fun args s t => by simp [limb_1_1, Cond.after, Cond.holds, Cond.value]), lw_limb limb_1_2 (fun args s t => Cond.after_iff.mpr (by
  first | (rw [show limb_1_2 = Cond.eq .result (.int 1) from rfl, Cond.eq_ints (x := 1) (y := 1) rfl rfl]; simp; done) | (simp [limb_1_2, Cond.value, Term.eval]; done)))⟩
end
