section
-- ===== PART A: goes FIRST, ahead of the names: the tables' words, and 'selects' of the private methods out of them =====
/-- a private method of a class that the tables say can be made, by its rows of tables_1 -/
def lw_okq (q : MethodName × Nat) : Prop := (q.1.cls ≠ "java/lang/invoke/MethodHandle" ∧ q.1.cls ≠ "java/lang/invoke/VarHandle") ∧ Cond.instantiable q.1.cls q.2 ∈ tables_1 ∧ Cond.privateMethod q.1 ∈ tables_1 ∧ Cond.instanceMethod q.1 ∈ tables_1
theorem lw_p0 : lw_okq (⟨"PageFormatter$Command", "readNumber", "(LPageFormatter$Text;)V"⟩, 5) := ⟨⟨by decide +kernel, by decide +kernel⟩, List.mem_of_getElem? (i := 39) (by decide +kernel), List.mem_of_getElem? (i := 285) (by decide +kernel), List.mem_of_getElem? (i := 286) (by decide +kernel)⟩
theorem lw_p1 : lw_okq (⟨"PageFormatter", "breaksFirst", "()Z"⟩, 8) := ⟨⟨by decide +kernel, by decide +kernel⟩, List.mem_of_getElem? (i := 12) (by decide +kernel), List.mem_of_getElem? (i := 292) (by decide +kernel), List.mem_of_getElem? (i := 293) (by decide +kernel)⟩
theorem lw_p2 : lw_okq (⟨"PageFormatter", "breakParagraph", "()V"⟩, 8) := ⟨⟨by decide +kernel, by decide +kernel⟩, List.mem_of_getElem? (i := 12) (by decide +kernel), List.mem_of_getElem? (i := 300) (by decide +kernel), List.mem_of_getElem? (i := 301) (by decide +kernel)⟩
theorem lw_p3 : lw_okq (⟨"PageFormatter$Parting", "weighLinesFrom", "(LPageFormatter$Paragraph;II)V"⟩, 8) := ⟨⟨by decide +kernel, by decide +kernel⟩, List.mem_of_getElem? (i := 199) (by decide +kernel), List.mem_of_getElem? (i := 311) (by decide +kernel), List.mem_of_getElem? (i := 312) (by decide +kernel)⟩
theorem lw_p4 : lw_okq (⟨"PageFormatter$Parting", "roomFrom", "(I)I"⟩, 8) := ⟨⟨by decide +kernel, by decide +kernel⟩, List.mem_of_getElem? (i := 199) (by decide +kernel), List.mem_of_getElem? (i := 315) (by decide +kernel), List.mem_of_getElem? (i := 316) (by decide +kernel)⟩
theorem lw_p5 : lw_okq (⟨"PageFormatter$Parting", "keepIfLess", "(IIJ)V"⟩, 8) := ⟨⟨by decide +kernel, by decide +kernel⟩, List.mem_of_getElem? (i := 199) (by decide +kernel), List.mem_of_getElem? (i := 353) (by decide +kernel), List.mem_of_getElem? (i := 354) (by decide +kernel)⟩
theorem lw_p6 : lw_okq (⟨"PageFormatter$Parting", "recordLine", "(LPageFormatter$Paragraph;IIZ)V"⟩, 8) := ⟨⟨by decide +kernel, by decide +kernel⟩, List.mem_of_getElem? (i := 199) (by decide +kernel), List.mem_of_getElem? (i := 361) (by decide +kernel), List.mem_of_getElem? (i := 362) (by decide +kernel)⟩
theorem lw_p7 : lw_okq (⟨"PageFormatter$Pages", "bottom", "()I"⟩, 8) := ⟨⟨by decide +kernel, by decide +kernel⟩, List.mem_of_getElem? (i := 128) (by decide +kernel), List.mem_of_getElem? (i := 377) (by decide +kernel), List.mem_of_getElem? (i := 378) (by decide +kernel)⟩
theorem lw_p8 : lw_okq (⟨"PageFormatter$Pages", "begin", "()V"⟩, 8) := ⟨⟨by decide +kernel, by decide +kernel⟩, List.mem_of_getElem? (i := 128) (by decide +kernel), List.mem_of_getElem? (i := 381) (by decide +kernel), List.mem_of_getElem? (i := 382) (by decide +kernel)⟩
theorem lw_p9 : lw_okq (⟨"PageFormatter$Paragraph", "writePiece", "(LPageFormatter$Output;I)V"⟩, 7) := ⟨⟨by decide +kernel, by decide +kernel⟩, List.mem_of_getElem? (i := 167) (by decide +kernel), List.mem_of_getElem? (i := 408) (by decide +kernel), List.mem_of_getElem? (i := 409) (by decide +kernel)⟩
theorem lw_p10 : lw_okq (⟨"PageFormatter$Pages", "goDown", "(I)V"⟩, 8) := ⟨⟨by decide +kernel, by decide +kernel⟩, List.mem_of_getElem? (i := 128) (by decide +kernel), List.mem_of_getElem? (i := 425) (by decide +kernel), List.mem_of_getElem? (i := 426) (by decide +kernel)⟩
theorem lw_p11 : lw_okq (⟨"PageFormatter", "obey", "()V"⟩, 8) := ⟨⟨by decide +kernel, by decide +kernel⟩, List.mem_of_getElem? (i := 12) (by decide +kernel), List.mem_of_getElem? (i := 433) (by decide +kernel), List.mem_of_getElem? (i := 434) (by decide +kernel)⟩
theorem lw_p12 : lw_okq (⟨"PageFormatter", "setIndent", "()V"⟩, 8) := ⟨⟨by decide +kernel, by decide +kernel⟩, List.mem_of_getElem? (i := 12) (by decide +kernel), List.mem_of_getElem? (i := 443) (by decide +kernel), List.mem_of_getElem? (i := 444) (by decide +kernel)⟩
theorem lw_p13 : lw_okq (⟨"PageFormatter", "beginPage", "()V"⟩, 8) := ⟨⟨by decide +kernel, by decide +kernel⟩, List.mem_of_getElem? (i := 12) (by decide +kernel), List.mem_of_getElem? (i := 456) (by decide +kernel), List.mem_of_getElem? (i := 457) (by decide +kernel)⟩
theorem lw_p14 : lw_okq (⟨"PageFormatter", "takeText", "()V"⟩, 8) := ⟨⟨by decide +kernel, by decide +kernel⟩, List.mem_of_getElem? (i := 12) (by decide +kernel), List.mem_of_getElem? (i := 465) (by decide +kernel), List.mem_of_getElem? (i := 466) (by decide +kernel)⟩
theorem lw_p15 : lw_okq (⟨"PageFormatter", "putEmptyLine", "()V"⟩, 8) := ⟨⟨by decide +kernel, by decide +kernel⟩, List.mem_of_getElem? (i := 12) (by decide +kernel), List.mem_of_getElem? (i := 474) (by decide +kernel), List.mem_of_getElem? (i := 475) (by decide +kernel)⟩
def lw_privs_1 : List (MethodName × Nat) := [(⟨"PageFormatter$Command", "readNumber", "(LPageFormatter$Text;)V"⟩, 5), (⟨"PageFormatter", "breaksFirst", "()Z"⟩, 8), (⟨"PageFormatter", "breakParagraph", "()V"⟩, 8), (⟨"PageFormatter$Parting", "weighLinesFrom", "(LPageFormatter$Paragraph;II)V"⟩, 8), (⟨"PageFormatter$Parting", "roomFrom", "(I)I"⟩, 8), (⟨"PageFormatter$Parting", "keepIfLess", "(IIJ)V"⟩, 8), (⟨"PageFormatter$Parting", "recordLine", "(LPageFormatter$Paragraph;IIZ)V"⟩, 8), (⟨"PageFormatter$Pages", "bottom", "()I"⟩, 8), (⟨"PageFormatter$Pages", "begin", "()V"⟩, 8), (⟨"PageFormatter$Paragraph", "writePiece", "(LPageFormatter$Output;I)V"⟩, 7), (⟨"PageFormatter$Pages", "goDown", "(I)V"⟩, 8), (⟨"PageFormatter", "obey", "()V"⟩, 8), (⟨"PageFormatter", "setIndent", "()V"⟩, 8), (⟨"PageFormatter", "beginPage", "()V"⟩, 8), (⟨"PageFormatter", "takeText", "()V"⟩, 8), (⟨"PageFormatter", "putEmptyLine", "()V"⟩, 8)]
theorem lw_r1 : ∀ q ∈ lw_privs_1, lw_okq q := List.forall_mem_cons.mpr ⟨lw_p0, List.forall_mem_cons.mpr ⟨lw_p1, List.forall_mem_cons.mpr ⟨lw_p2, List.forall_mem_cons.mpr ⟨lw_p3, List.forall_mem_cons.mpr ⟨lw_p4, List.forall_mem_cons.mpr ⟨lw_p5, List.forall_mem_cons.mpr ⟨lw_p6, List.forall_mem_cons.mpr ⟨lw_p7, List.forall_mem_cons.mpr ⟨lw_p8, List.forall_mem_cons.mpr ⟨lw_p9, List.forall_mem_cons.mpr ⟨lw_p10, List.forall_mem_cons.mpr ⟨lw_p11, List.forall_mem_cons.mpr ⟨lw_p12, List.forall_mem_cons.mpr ⟨lw_p13, List.forall_mem_cons.mpr ⟨lw_p14, List.forall_mem_cons.mpr ⟨lw_p15, fun _ h => absurd h List.not_mem_nil⟩⟩⟩⟩⟩⟩⟩⟩⟩⟩⟩⟩⟩⟩⟩⟩
theorem lw_p16 : lw_okq (⟨"PageFormatter", "putCentred", "(Z)V"⟩, 8) := ⟨⟨by decide +kernel, by decide +kernel⟩, List.mem_of_getElem? (i := 12) (by decide +kernel), List.mem_of_getElem? (i := 491) (by decide +kernel), List.mem_of_getElem? (i := 492) (by decide +kernel)⟩
theorem lw_p17 : lw_okq (⟨"PageFormatter", "putEntered", "(Z)V"⟩, 8) := ⟨⟨by decide +kernel, by decide +kernel⟩, List.mem_of_getElem? (i := 12) (by decide +kernel), List.mem_of_getElem? (i := 504) (by decide +kernel), List.mem_of_getElem? (i := 505) (by decide +kernel)⟩
theorem lw_p18 : lw_okq (⟨"PageFormatter", "gatherWords", "(Z)V"⟩, 8) := ⟨⟨by decide +kernel, by decide +kernel⟩, List.mem_of_getElem? (i := 12) (by decide +kernel), List.mem_of_getElem? (i := 509) (by decide +kernel), List.mem_of_getElem? (i := 510) (by decide +kernel)⟩
theorem lw_p19 : lw_okq (⟨"PageFormatter$Paragraph", "addPlace", "()V"⟩, 7) := ⟨⟨by decide +kernel, by decide +kernel⟩, List.mem_of_getElem? (i := 167) (by decide +kernel), List.mem_of_getElem? (i := 522) (by decide +kernel), List.mem_of_getElem? (i := 523) (by decide +kernel)⟩
theorem lw_p20 : lw_okq (⟨"PageFormatter$Paragraph", "addLetter", "(I)V"⟩, 7) := ⟨⟨by decide +kernel, by decide +kernel⟩, List.mem_of_getElem? (i := 167) (by decide +kernel), List.mem_of_getElem? (i := 526) (by decide +kernel), List.mem_of_getElem? (i := 527) (by decide +kernel)⟩
theorem lw_p21 : lw_okq (⟨"PageFormatterModel", "begin", "()V"⟩, 48) := ⟨⟨by decide +kernel, by decide +kernel⟩, List.mem_of_getElem? (i := 567) (by decide +kernel), List.mem_of_getElem? (i := 574) (by decide +kernel), List.mem_of_getElem? (i := 575) (by decide +kernel)⟩
theorem lw_p22 : lw_okq (⟨"PageFormatterModel", "command", "()V"⟩, 48) := ⟨⟨by decide +kernel, by decide +kernel⟩, List.mem_of_getElem? (i := 567) (by decide +kernel), List.mem_of_getElem? (i := 735) (by decide +kernel), List.mem_of_getElem? (i := 736) (by decide +kernel)⟩
theorem lw_p23 : lw_okq (⟨"PageFormatterModel", "readNumber", "()V"⟩, 48) := ⟨⟨by decide +kernel, by decide +kernel⟩, List.mem_of_getElem? (i := 567) (by decide +kernel), List.mem_of_getElem? (i := 739) (by decide +kernel), List.mem_of_getElem? (i := 740) (by decide +kernel)⟩
theorem lw_p24 : lw_okq (⟨"PageFormatterModel", "breakNow", "()V"⟩, 48) := ⟨⟨by decide +kernel, by decide +kernel⟩, List.mem_of_getElem? (i := 567) (by decide +kernel), List.mem_of_getElem? (i := 743) (by decide +kernel), List.mem_of_getElem? (i := 744) (by decide +kernel)⟩
theorem lw_p25 : lw_okq (⟨"PageFormatterModel", "layPlaces", "()V"⟩, 48) := ⟨⟨by decide +kernel, by decide +kernel⟩, List.mem_of_getElem? (i := 567) (by decide +kernel), List.mem_of_getElem? (i := 747) (by decide +kernel), List.mem_of_getElem? (i := 748) (by decide +kernel)⟩
theorem lw_p26 : lw_okq (⟨"PageFormatterModel", "bytesIn", "(II)I"⟩, 48) := ⟨⟨by decide +kernel, by decide +kernel⟩, List.mem_of_getElem? (i := 567) (by decide +kernel), List.mem_of_getElem? (i := 751) (by decide +kernel), List.mem_of_getElem? (i := 752) (by decide +kernel)⟩
theorem lw_p27 : lw_okq (⟨"PageFormatterModel", "findBest", "(II)V"⟩, 48) := ⟨⟨by decide +kernel, by decide +kernel⟩, List.mem_of_getElem? (i := 567) (by decide +kernel), List.mem_of_getElem? (i := 755) (by decide +kernel), List.mem_of_getElem? (i := 756) (by decide +kernel)⟩
theorem lw_p28 : lw_okq (⟨"PageFormatterModel", "lengthOf", "(II)I"⟩, 48) := ⟨⟨by decide +kernel, by decide +kernel⟩, List.mem_of_getElem? (i := 567) (by decide +kernel), List.mem_of_getElem? (i := 760) (by decide +kernel), List.mem_of_getElem? (i := 761) (by decide +kernel)⟩
theorem lw_p29 : lw_okq (⟨"PageFormatterModel", "blanksOf", "(II)I"⟩, 48) := ⟨⟨by decide +kernel, by decide +kernel⟩, List.mem_of_getElem? (i := 567) (by decide +kernel), List.mem_of_getElem? (i := 764) (by decide +kernel), List.mem_of_getElem? (i := 765) (by decide +kernel)⟩
theorem lw_p30 : lw_okq (⟨"PageFormatterModel", "roomOf", "(I)I"⟩, 48) := ⟨⟨by decide +kernel, by decide +kernel⟩, List.mem_of_getElem? (i := 567) (by decide +kernel), List.mem_of_getElem? (i := 768) (by decide +kernel), List.mem_of_getElem? (i := 769) (by decide +kernel)⟩
theorem lw_p31 : lw_okq (⟨"PageFormatterModel", "badnessOf", "(II)I"⟩, 48) := ⟨⟨by decide +kernel, by decide +kernel⟩, List.mem_of_getElem? (i := 567) (by decide +kernel), List.mem_of_getElem? (i := 772) (by decide +kernel), List.mem_of_getElem? (i := 773) (by decide +kernel)⟩
def lw_privs_2 : List (MethodName × Nat) := [(⟨"PageFormatter", "putCentred", "(Z)V"⟩, 8), (⟨"PageFormatter", "putEntered", "(Z)V"⟩, 8), (⟨"PageFormatter", "gatherWords", "(Z)V"⟩, 8), (⟨"PageFormatter$Paragraph", "addPlace", "()V"⟩, 7), (⟨"PageFormatter$Paragraph", "addLetter", "(I)V"⟩, 7), (⟨"PageFormatterModel", "begin", "()V"⟩, 48), (⟨"PageFormatterModel", "command", "()V"⟩, 48), (⟨"PageFormatterModel", "readNumber", "()V"⟩, 48), (⟨"PageFormatterModel", "breakNow", "()V"⟩, 48), (⟨"PageFormatterModel", "layPlaces", "()V"⟩, 48), (⟨"PageFormatterModel", "bytesIn", "(II)I"⟩, 48), (⟨"PageFormatterModel", "findBest", "(II)V"⟩, 48), (⟨"PageFormatterModel", "lengthOf", "(II)I"⟩, 48), (⟨"PageFormatterModel", "blanksOf", "(II)I"⟩, 48), (⟨"PageFormatterModel", "roomOf", "(I)I"⟩, 48), (⟨"PageFormatterModel", "badnessOf", "(II)I"⟩, 48)]
theorem lw_r2 : ∀ q ∈ lw_privs_2, lw_okq q := List.forall_mem_cons.mpr ⟨lw_p16, List.forall_mem_cons.mpr ⟨lw_p17, List.forall_mem_cons.mpr ⟨lw_p18, List.forall_mem_cons.mpr ⟨lw_p19, List.forall_mem_cons.mpr ⟨lw_p20, List.forall_mem_cons.mpr ⟨lw_p21, List.forall_mem_cons.mpr ⟨lw_p22, List.forall_mem_cons.mpr ⟨lw_p23, List.forall_mem_cons.mpr ⟨lw_p24, List.forall_mem_cons.mpr ⟨lw_p25, List.forall_mem_cons.mpr ⟨lw_p26, List.forall_mem_cons.mpr ⟨lw_p27, List.forall_mem_cons.mpr ⟨lw_p28, List.forall_mem_cons.mpr ⟨lw_p29, List.forall_mem_cons.mpr ⟨lw_p30, List.forall_mem_cons.mpr ⟨lw_p31, fun _ h => absurd h List.not_mem_nil⟩⟩⟩⟩⟩⟩⟩⟩⟩⟩⟩⟩⟩⟩⟩⟩
theorem lw_p32 : lw_okq (⟨"PageFormatterModel", "slackOf", "(II)I"⟩, 48) := ⟨⟨by decide +kernel, by decide +kernel⟩, List.mem_of_getElem? (i := 567) (by decide +kernel), List.mem_of_getElem? (i := 776) (by decide +kernel), List.mem_of_getElem? (i := 777) (by decide +kernel)⟩
theorem lw_p33 : lw_okq (⟨"PageFormatterModel", "demeritsOf", "(III)J"⟩, 48) := ⟨⟨by decide +kernel, by decide +kernel⟩, List.mem_of_getElem? (i := 567) (by decide +kernel), List.mem_of_getElem? (i := 786) (by decide +kernel), List.mem_of_getElem? (i := 787) (by decide +kernel)⟩
theorem lw_p34 : lw_okq (⟨"PageFormatterModel", "note", "(II)V"⟩, 48) := ⟨⟨by decide +kernel, by decide +kernel⟩, List.mem_of_getElem? (i := 567) (by decide +kernel), List.mem_of_getElem? (i := 792) (by decide +kernel), List.mem_of_getElem? (i := 793) (by decide +kernel)⟩
theorem lw_p35 : lw_okq (⟨"PageFormatterModel", "layLine", "(II)V"⟩, 48) := ⟨⟨by decide +kernel, by decide +kernel⟩, List.mem_of_getElem? (i := 567) (by decide +kernel), List.mem_of_getElem? (i := 796) (by decide +kernel), List.mem_of_getElem? (i := 797) (by decide +kernel)⟩
theorem lw_p36 : lw_okq (⟨"PageFormatterModel", "addBlanks", "(I)V"⟩, 48) := ⟨⟨by decide +kernel, by decide +kernel⟩, List.mem_of_getElem? (i := 567) (by decide +kernel), List.mem_of_getElem? (i := 800) (by decide +kernel), List.mem_of_getElem? (i := 801) (by decide +kernel)⟩
theorem lw_p37 : lw_okq (⟨"PageFormatterModel", "put", "()V"⟩, 48) := ⟨⟨by decide +kernel, by decide +kernel⟩, List.mem_of_getElem? (i := 567) (by decide +kernel), List.mem_of_getElem? (i := 804) (by decide +kernel), List.mem_of_getElem? (i := 805) (by decide +kernel)⟩
theorem lw_p38 : lw_okq (⟨"PageFormatterModel", "bottom", "()I"⟩, 48) := ⟨⟨by decide +kernel, by decide +kernel⟩, List.mem_of_getElem? (i := 567) (by decide +kernel), List.mem_of_getElem? (i := 808) (by decide +kernel), List.mem_of_getElem? (i := 809) (by decide +kernel)⟩
theorem lw_p39 : lw_okq (⟨"PageFormatterModel", "giveHead", "()V"⟩, 48) := ⟨⟨by decide +kernel, by decide +kernel⟩, List.mem_of_getElem? (i := 567) (by decide +kernel), List.mem_of_getElem? (i := 812) (by decide +kernel), List.mem_of_getElem? (i := 813) (by decide +kernel)⟩
theorem lw_p40 : lw_okq (⟨"PageFormatterModel", "giveTitle", "([II)V"⟩, 48) := ⟨⟨by decide +kernel, by decide +kernel⟩, List.mem_of_getElem? (i := 567) (by decide +kernel), List.mem_of_getElem? (i := 816) (by decide +kernel), List.mem_of_getElem? (i := 817) (by decide +kernel)⟩
theorem lw_p41 : lw_okq (⟨"PageFormatterModel", "give", "(I)V"⟩, 48) := ⟨⟨by decide +kernel, by decide +kernel⟩, List.mem_of_getElem? (i := 567) (by decide +kernel), List.mem_of_getElem? (i := 820) (by decide +kernel), List.mem_of_getElem? (i := 821) (by decide +kernel)⟩
theorem lw_p42 : lw_okq (⟨"PageFormatterModel", "giveNumber", "(I)V"⟩, 48) := ⟨⟨by decide +kernel, by decide +kernel⟩, List.mem_of_getElem? (i := 567) (by decide +kernel), List.mem_of_getElem? (i := 824) (by decide +kernel), List.mem_of_getElem? (i := 825) (by decide +kernel)⟩
theorem lw_p43 : lw_okq (⟨"PageFormatterModel", "giveMany", "(II)V"⟩, 48) := ⟨⟨by decide +kernel, by decide +kernel⟩, List.mem_of_getElem? (i := 567) (by decide +kernel), List.mem_of_getElem? (i := 828) (by decide +kernel), List.mem_of_getElem? (i := 829) (by decide +kernel)⟩
theorem lw_p44 : lw_okq (⟨"PageFormatterModel", "giveFoot", "()V"⟩, 48) := ⟨⟨by decide +kernel, by decide +kernel⟩, List.mem_of_getElem? (i := 567) (by decide +kernel), List.mem_of_getElem? (i := 832) (by decide +kernel), List.mem_of_getElem? (i := 833) (by decide +kernel)⟩
theorem lw_p45 : lw_okq (⟨"PageFormatterModel", "set", "(IIII)I"⟩, 48) := ⟨⟨by decide +kernel, by decide +kernel⟩, List.mem_of_getElem? (i := 567) (by decide +kernel), List.mem_of_getElem? (i := 836) (by decide +kernel), List.mem_of_getElem? (i := 837) (by decide +kernel)⟩
theorem lw_p46 : lw_okq (⟨"PageFormatterModel", "command", "(I)V"⟩, 48) := ⟨⟨by decide +kernel, by decide +kernel⟩, List.mem_of_getElem? (i := 567) (by decide +kernel), List.mem_of_getElem? (i := 840) (by decide +kernel), List.mem_of_getElem? (i := 841) (by decide +kernel)⟩
theorem lw_p47 : lw_okq (⟨"PageFormatterModel", "space", "(I)V"⟩, 48) := ⟨⟨by decide +kernel, by decide +kernel⟩, List.mem_of_getElem? (i := 567) (by decide +kernel), List.mem_of_getElem? (i := 844) (by decide +kernel), List.mem_of_getElem? (i := 845) (by decide +kernel)⟩
def lw_privs_3 : List (MethodName × Nat) := [(⟨"PageFormatterModel", "slackOf", "(II)I"⟩, 48), (⟨"PageFormatterModel", "demeritsOf", "(III)J"⟩, 48), (⟨"PageFormatterModel", "note", "(II)V"⟩, 48), (⟨"PageFormatterModel", "layLine", "(II)V"⟩, 48), (⟨"PageFormatterModel", "addBlanks", "(I)V"⟩, 48), (⟨"PageFormatterModel", "put", "()V"⟩, 48), (⟨"PageFormatterModel", "bottom", "()I"⟩, 48), (⟨"PageFormatterModel", "giveHead", "()V"⟩, 48), (⟨"PageFormatterModel", "giveTitle", "([II)V"⟩, 48), (⟨"PageFormatterModel", "give", "(I)V"⟩, 48), (⟨"PageFormatterModel", "giveNumber", "(I)V"⟩, 48), (⟨"PageFormatterModel", "giveMany", "(II)V"⟩, 48), (⟨"PageFormatterModel", "giveFoot", "()V"⟩, 48), (⟨"PageFormatterModel", "set", "(IIII)I"⟩, 48), (⟨"PageFormatterModel", "command", "(I)V"⟩, 48), (⟨"PageFormatterModel", "space", "(I)V"⟩, 48)]
theorem lw_r3 : ∀ q ∈ lw_privs_3, lw_okq q := List.forall_mem_cons.mpr ⟨lw_p32, List.forall_mem_cons.mpr ⟨lw_p33, List.forall_mem_cons.mpr ⟨lw_p34, List.forall_mem_cons.mpr ⟨lw_p35, List.forall_mem_cons.mpr ⟨lw_p36, List.forall_mem_cons.mpr ⟨lw_p37, List.forall_mem_cons.mpr ⟨lw_p38, List.forall_mem_cons.mpr ⟨lw_p39, List.forall_mem_cons.mpr ⟨lw_p40, List.forall_mem_cons.mpr ⟨lw_p41, List.forall_mem_cons.mpr ⟨lw_p42, List.forall_mem_cons.mpr ⟨lw_p43, List.forall_mem_cons.mpr ⟨lw_p44, List.forall_mem_cons.mpr ⟨lw_p45, List.forall_mem_cons.mpr ⟨lw_p46, List.forall_mem_cons.mpr ⟨lw_p47, fun _ h => absurd h List.not_mem_nil⟩⟩⟩⟩⟩⟩⟩⟩⟩⟩⟩⟩⟩⟩⟩⟩
theorem lw_p48 : lw_okq (⟨"PageFormatterModel", "copyRest", "([I)I"⟩, 48) := ⟨⟨by decide +kernel, by decide +kernel⟩, List.mem_of_getElem? (i := 567) (by decide +kernel), List.mem_of_getElem? (i := 848) (by decide +kernel), List.mem_of_getElem? (i := 849) (by decide +kernel)⟩
theorem lw_p49 : lw_okq (⟨"PageFormatterModel", "text", "()V"⟩, 48) := ⟨⟨by decide +kernel, by decide +kernel⟩, List.mem_of_getElem? (i := 567) (by decide +kernel), List.mem_of_getElem? (i := 852) (by decide +kernel), List.mem_of_getElem? (i := 853) (by decide +kernel)⟩
theorem lw_p50 : lw_okq (⟨"PageFormatterModel", "centre", "()V"⟩, 48) := ⟨⟨by decide +kernel, by decide +kernel⟩, List.mem_of_getElem? (i := 567) (by decide +kernel), List.mem_of_getElem? (i := 856) (by decide +kernel), List.mem_of_getElem? (i := 857) (by decide +kernel)⟩
theorem lw_p51 : lw_okq (⟨"PageFormatterModel", "readWords", "(II)V"⟩, 48) := ⟨⟨by decide +kernel, by decide +kernel⟩, List.mem_of_getElem? (i := 567) (by decide +kernel), List.mem_of_getElem? (i := 860) (by decide +kernel), List.mem_of_getElem? (i := 861) (by decide +kernel)⟩
theorem lw_p52 : lw_okq (⟨"PageFormatterModel", "isBare", "(I)Z"⟩, 48) := ⟨⟨by decide +kernel, by decide +kernel⟩, List.mem_of_getElem? (i := 567) (by decide +kernel), List.mem_of_getElem? (i := 864) (by decide +kernel), List.mem_of_getElem? (i := 865) (by decide +kernel)⟩
theorem lw_p53 : lw_okq (⟨"PageFormatterModel", "count2", "(I)I"⟩, 48) := ⟨⟨by decide +kernel, by decide +kernel⟩, List.mem_of_getElem? (i := 567) (by decide +kernel), List.mem_of_getElem? (i := 896) (by decide +kernel), List.mem_of_getElem? (i := 897) (by decide +kernel)⟩
def lw_privs_4 : List (MethodName × Nat) := [(⟨"PageFormatterModel", "copyRest", "([I)I"⟩, 48), (⟨"PageFormatterModel", "text", "()V"⟩, 48), (⟨"PageFormatterModel", "centre", "()V"⟩, 48), (⟨"PageFormatterModel", "readWords", "(II)V"⟩, 48), (⟨"PageFormatterModel", "isBare", "(I)Z"⟩, 48), (⟨"PageFormatterModel", "count2", "(I)I"⟩, 48)]
theorem lw_r4 : ∀ q ∈ lw_privs_4, lw_okq q := List.forall_mem_cons.mpr ⟨lw_p48, List.forall_mem_cons.mpr ⟨lw_p49, List.forall_mem_cons.mpr ⟨lw_p50, List.forall_mem_cons.mpr ⟨lw_p51, List.forall_mem_cons.mpr ⟨lw_p52, List.forall_mem_cons.mpr ⟨lw_p53, fun _ h => absurd h List.not_mem_nil⟩⟩⟩⟩⟩⟩
def lw_privs : List (MethodName × Nat) := lw_privs_1 ++ (lw_privs_2 ++ (lw_privs_3 ++ (lw_privs_4)))
def lw_tbl : List Cond := k2_sels lw_privs ++ tables_1
theorem lw_privs_ok : ∀ q ∈ lw_privs, lw_okq q := by
  show ∀ q ∈ lw_privs_1 ++ (lw_privs_2 ++ (lw_privs_3 ++ (lw_privs_4))), lw_okq q
  exact List.forall_mem_append.mpr ⟨lw_r1, List.forall_mem_append.mpr ⟨lw_r2, List.forall_mem_append.mpr ⟨lw_r3, lw_r4⟩⟩⟩
end
section
/-- the tables' words that a callee's state keeps -/
def GT : List Cond := lw_tbl.filter goodWord
theorem GT_at {i : Nat} {w : Cond} (h : lw_tbl[i]? = some w) (hg : goodWord w = true) : w ∈ GT := List.mem_filter.mpr ⟨List.mem_of_getElem? h, hg⟩
theorem GT_good {w : Cond} (h : w ∈ GT) : (w.onTables && w.keeps) = true ∨ ∃ ty, w = .arrayClass ty := good_of_word (List.mem_filter.mp h).2
theorem mem_pos (ws : List Cond) (ps : List Nat) (hp : ws.map some = ps.map (fun i => lw_tbl[i]?)) (hg : ws.all goodWord = true) : ∀ w ∈ ws, w ∈ GT := by
  intro w hw
  have h : some w ∈ ps.map (fun i => lw_tbl[i]?) := by rw [← hp]; exact List.mem_map.mpr ⟨w, hw, rfl⟩
  obtain ⟨i, -, hi⟩ := List.mem_map.mp h
  exact GT_at hi (List.all_eq_true.mp hg w hw)
def RX0 : String := "PageFormatter$Command"
def TX0 : u_T := fun k => match k with
  | 0 => ("PageFormatter$Command", "name", "I", false)
  | 1 => ("PageFormatter$Command", "rest", "I", false)
  | 2 => ("PageFormatter$Command", "sign", "I", false)
  | 3 => ("PageFormatter$Command", "amount", "I", false)
  | _ => ("PageFormatter$Command", "numbered", "Z", false)
def tyX0 : Nat → FieldType := fun k => match k with
  | 0 => .int
  | 1 => .int
  | 2 => .int
  | 3 => .int
  | _ => .boolean
theorem nmX0 : ∀ a, a < 5 → ∀ b, b < 5 → a ≠ b → (TX0 a).2.1 ≠ (TX0 b).2.1 := by decide +kernel
theorem tyX0_ok : ∀ k, k < 5 → parseFieldDescriptor (TX0 k).2.2.1 = some (tyX0 k) := by decide +kernel
def RX1 : String := "PageFormatter$Layout"
def TX1 : u_T := fun k => match k with
  | 0 => ("PageFormatter$Layout", "right", "I", false)
  | 1 => ("PageFormatter$Layout", "indent", "I", false)
  | 2 => ("PageFormatter$Layout", "thisIndent", "I", false)
  | 3 => ("PageFormatter$Layout", "spacing", "I", false)
  | 4 => ("PageFormatter$Layout", "centred", "I", false)
  | 5 => ("PageFormatter$Layout", "underlined", "I", false)
  | 6 => ("PageFormatter$Layout", "pageLength", "I", false)
  | 7 => ("PageFormatter$Layout", "fill", "Z", false)
  | _ => ("PageFormatter$Layout", "justify", "Z", false)
def tyX1 : Nat → FieldType := fun k => match k with
  | 0 => .int
  | 1 => .int
  | 2 => .int
  | 3 => .int
  | 4 => .int
  | 5 => .int
  | 6 => .int
  | 7 => .boolean
  | _ => .boolean
theorem nmX1 : ∀ a, a < 9 → ∀ b, b < 9 → a ≠ b → (TX1 a).2.1 ≠ (TX1 b).2.1 := by decide +kernel
theorem tyX1_ok : ∀ k, k < 9 → parseFieldDescriptor (TX1 k).2.2.1 = some (tyX1 k) := by decide +kernel
def RX2 : String := "PageFormatter$Output"
def TX2 : u_T := fun k => match k with
  | 0 => ("PageFormatter$Output", "bytes", "[B", true)
  | _ => ("PageFormatter$Output", "size", "I", false)
def tyX2 : Nat → FieldType := fun k => match k with
  | 0 => .array .byte
  | _ => .int
theorem nmX2 : ∀ a, a < 2 → ∀ b, b < 2 → a ≠ b → (TX2 a).2.1 ≠ (TX2 b).2.1 := by decide +kernel
theorem tyX2_ok : ∀ k, k < 2 → parseFieldDescriptor (TX2 k).2.2.1 = some (tyX2 k) := by decide +kernel
def RX3 : String := "PageFormatter$Pages"
def TX3 : u_T := fun k => match k with
  | 0 => ("PageFormatter$Pages", "layout", "LPageFormatter$Layout;", true)
  | 1 => ("PageFormatter$Pages", "output", "LPageFormatter$Output;", true)
  | 2 => ("PageFormatter$Pages", "head", "LPageFormatter$Text;", true)
  | 3 => ("PageFormatter$Pages", "foot", "LPageFormatter$Text;", true)
  | 4 => ("PageFormatter$Pages", "lineNumber", "I", false)
  | 5 => ("PageFormatter$Pages", "page", "I", false)
  | 6 => ("PageFormatter$Pages", "nextPage", "I", false)
  | _ => ("PageFormatter$Pages", "linesPut", "I", false)
def tyX3 : Nat → FieldType := fun k => match k with
  | 0 => .object "PageFormatter$Layout"
  | 1 => .object "PageFormatter$Output"
  | 2 => .object "PageFormatter$Text"
  | 3 => .object "PageFormatter$Text"
  | 4 => .int
  | 5 => .int
  | 6 => .int
  | _ => .int
theorem nmX3 : ∀ a, a < 8 → ∀ b, b < 8 → a ≠ b → (TX3 a).2.1 ≠ (TX3 b).2.1 := by decide +kernel
theorem tyX3_ok : ∀ k, k < 8 → parseFieldDescriptor (TX3 k).2.2.1 = some (tyX3 k) := by decide +kernel
def RX4 : String := "PageFormatter$Paragraph"
def TX4 : u_T := fun k => match k with
  | 0 => ("PageFormatter$Paragraph", "letters", "[B", true)
  | 1 => ("PageFormatter$Paragraph", "lettersBefore", "[I", true)
  | 2 => ("PageFormatter$Paragraph", "wordsBefore", "[I", true)
  | 3 => ("PageFormatter$Paragraph", "underlinedWords", "[Z", true)
  | 4 => ("PageFormatter$Paragraph", "letterCount", "I", false)
  | 5 => ("PageFormatter$Paragraph", "lastPlace", "I", false)
  | _ => ("PageFormatter$Paragraph", "wordCount", "I", false)
def tyX4 : Nat → FieldType := fun k => match k with
  | 0 => .array .byte
  | 1 => .array .int
  | 2 => .array .int
  | 3 => .array .boolean
  | 4 => .int
  | 5 => .int
  | _ => .int
theorem nmX4 : ∀ a, a < 7 → ∀ b, b < 7 → a ≠ b → (TX4 a).2.1 ≠ (TX4 b).2.1 := by decide +kernel
theorem tyX4_ok : ∀ k, k < 7 → parseFieldDescriptor (TX4 k).2.2.1 = some (tyX4 k) := by decide +kernel
def RX5 : String := "PageFormatter$Parting"
def TX5 : u_T := fun k => match k with
  | 0 => ("PageFormatter$Parting", "leastCost", "[J", true)
  | 1 => ("PageFormatter$Parting", "bestEnd", "[I", true)
  | 2 => ("PageFormatter$Parting", "ends", "[I", true)
  | 3 => ("PageFormatter$Parting", "facts", "[I", true)
  | 4 => ("PageFormatter$Parting", "firstRoom", "I", false)
  | 5 => ("PageFormatter$Parting", "otherRoom", "I", false)
  | 6 => ("PageFormatter$Parting", "lineCount", "I", false)
  | _ => ("PageFormatter$Parting", "sum", "J", false)
def tyX5 : Nat → FieldType := fun k => match k with
  | 0 => .array .long
  | 1 => .array .int
  | 2 => .array .int
  | 3 => .array .int
  | 4 => .int
  | 5 => .int
  | 6 => .int
  | _ => .long
theorem nmX5 : ∀ a, a < 8 → ∀ b, b < 8 → a ≠ b → (TX5 a).2.1 ≠ (TX5 b).2.1 := by decide +kernel
theorem tyX5_ok : ∀ k, k < 8 → parseFieldDescriptor (TX5 k).2.2.1 = some (tyX5 k) := by decide +kernel
def RX6 : String := "PageFormatter$Text"
def TX6 : u_T := fun k => match k with
  | 0 => ("PageFormatter$Text", "bytes", "[B", true)
  | _ => ("PageFormatter$Text", "size", "I", false)
def tyX6 : Nat → FieldType := fun k => match k with
  | 0 => .array .byte
  | _ => .int
theorem nmX6 : ∀ a, a < 2 → ∀ b, b < 2 → a ≠ b → (TX6 a).2.1 ≠ (TX6 b).2.1 := by decide +kernel
theorem tyX6_ok : ∀ k, k < 2 → parseFieldDescriptor (TX6 k).2.2.1 = some (tyX6 k) := by decide +kernel
def RX7 : String := "PageFormatter"
def TX7 : u_T := fun k => match k with
  | 0 => ("PageFormatter", "entered", "LPageFormatter$Text;", true)
  | 1 => ("PageFormatter", "command", "LPageFormatter$Command;", true)
  | 2 => ("PageFormatter", "layout", "LPageFormatter$Layout;", true)
  | 3 => ("PageFormatter", "output", "LPageFormatter$Output;", true)
  | 4 => ("PageFormatter", "pages", "LPageFormatter$Pages;", true)
  | 5 => ("PageFormatter", "paragraph", "LPageFormatter$Paragraph;", true)
  | 6 => ("PageFormatter", "parting", "LPageFormatter$Parting;", true)
  | _ => ("PageFormatter", "passedOver", "I", false)
def tyX7 : Nat → FieldType := fun k => match k with
  | 0 => .object "PageFormatter$Text"
  | 1 => .object "PageFormatter$Command"
  | 2 => .object "PageFormatter$Layout"
  | 3 => .object "PageFormatter$Output"
  | 4 => .object "PageFormatter$Pages"
  | 5 => .object "PageFormatter$Paragraph"
  | 6 => .object "PageFormatter$Parting"
  | _ => .int
theorem nmX7 : ∀ a, a < 8 → ∀ b, b < 8 → a ≠ b → (TX7 a).2.1 ≠ (TX7 b).2.1 := by decide +kernel
theorem tyX7_ok : ∀ k, k < 8 → parseFieldDescriptor (TX7 k).2.2.1 = some (tyX7 k) := by decide +kernel
def RX8 : String := "PageFormatterModel"
def TX8 : u_T := fun k => match k with
  | 0 => ("PageFormatterModel", "line", "[I", true)
  | 1 => ("PageFormatterModel", "lineSize", "I", false)
  | 2 => ("PageFormatterModel", "sheet", "[I", true)
  | 3 => ("PageFormatterModel", "sheetSize", "I", false)
  | 4 => ("PageFormatterModel", "letters", "[I", true)
  | 5 => ("PageFormatterModel", "wordEnds", "[I", true)
  | 6 => ("PageFormatterModel", "words", "I", false)
  | 7 => ("PageFormatterModel", "placeBytes", "[I", true)
  | 8 => ("PageFormatterModel", "placeWords", "[I", true)
  | 9 => ("PageFormatterModel", "isPoint", "[Z", true)
  | 10 => ("PageFormatterModel", "placeAt", "[I", true)
  | 11 => ("PageFormatterModel", "places", "I", false)
  | 12 => ("PageFormatterModel", "sums", "[J", true)
  | 13 => ("PageFormatterModel", "lines", "[I", true)
  | 14 => ("PageFormatterModel", "nexts", "[I", true)
  | 15 => ("PageFormatterModel", "demerits", "J", false)
  | 16 => ("PageFormatterModel", "parted", "I", false)
  | 17 => ("PageFormatterModel", "lineLength", "[I", true)
  | 18 => ("PageFormatterModel", "lineSlack", "[I", true)
  | 19 => ("PageFormatterModel", "lineBad", "[I", true)
  | 20 => ("PageFormatterModel", "lineBlanks", "[I", true)
  | 21 => ("PageFormatterModel", "lineHyphen", "[Z", true)
  | 22 => ("PageFormatterModel", "lineRoom", "[I", true)
  | 23 => ("PageFormatterModel", "output", "[I", true)
  | 24 => ("PageFormatterModel", "length", "I", false)
  | 25 => ("PageFormatterModel", "fill", "Z", false)
  | 26 => ("PageFormatterModel", "justify", "Z", false)
  | 27 => ("PageFormatterModel", "spacing", "I", false)
  | 28 => ("PageFormatterModel", "indent", "I", false)
  | 29 => ("PageFormatterModel", "here", "I", false)
  | 30 => ("PageFormatterModel", "right", "I", false)
  | 31 => ("PageFormatterModel", "centred", "I", false)
  | 32 => ("PageFormatterModel", "underlined", "I", false)
  | 33 => ("PageFormatterModel", "pageLength", "I", false)
  | 34 => ("PageFormatterModel", "number", "I", false)
  | 35 => ("PageFormatterModel", "page", "I", false)
  | 36 => ("PageFormatterModel", "nextPage", "I", false)
  | 37 => ("PageFormatterModel", "head", "[I", true)
  | 38 => ("PageFormatterModel", "headSize", "I", false)
  | 39 => ("PageFormatterModel", "foot", "[I", true)
  | 40 => ("PageFormatterModel", "footSize", "I", false)
  | 41 => ("PageFormatterModel", "passed", "I", false)
  | 42 => ("PageFormatterModel", "puts", "I", false)
  | 43 => ("PageFormatterModel", "firstIndent", "I", false)
  | 44 => ("PageFormatterModel", "restAt", "I", false)
  | 45 => ("PageFormatterModel", "hasNumber", "Z", false)
  | 46 => ("PageFormatterModel", "sign", "I", false)
  | _ => ("PageFormatterModel", "amount", "I", false)
def tyX8 : Nat → FieldType := fun k => match k with
  | 0 => .array .int
  | 1 => .int
  | 2 => .array .int
  | 3 => .int
  | 4 => .array .int
  | 5 => .array .int
  | 6 => .int
  | 7 => .array .int
  | 8 => .array .int
  | 9 => .array .boolean
  | 10 => .array .int
  | 11 => .int
  | 12 => .array .long
  | 13 => .array .int
  | 14 => .array .int
  | 15 => .long
  | 16 => .int
  | 17 => .array .int
  | 18 => .array .int
  | 19 => .array .int
  | 20 => .array .int
  | 21 => .array .boolean
  | 22 => .array .int
  | 23 => .array .int
  | 24 => .int
  | 25 => .boolean
  | 26 => .boolean
  | 27 => .int
  | 28 => .int
  | 29 => .int
  | 30 => .int
  | 31 => .int
  | 32 => .int
  | 33 => .int
  | 34 => .int
  | 35 => .int
  | 36 => .int
  | 37 => .array .int
  | 38 => .int
  | 39 => .array .int
  | 40 => .int
  | 41 => .int
  | 42 => .int
  | 43 => .int
  | 44 => .int
  | 45 => .boolean
  | 46 => .int
  | _ => .int
theorem nmX8 : ∀ a, a < 48 → ∀ b, b < 48 → a ≠ b → (TX8 a).2.1 ≠ (TX8 b).2.1 := by decide +kernel
theorem tyX8_ok : ∀ k, k < 48 → parseFieldDescriptor (TX8 k).2.2.1 = some (tyX8 k) := by decide +kernel
abbrev CLS : List vw_C := [(RX0, TX0, 5), (RX1, TX1, 9), (RX2, TX2, 2), (RX3, TX3, 8), (RX4, TX4, 7), (RX5, TX5, 8), (RX6, TX6, 2), (RX7, TX7, 8), (RX8, TX8, 48)]
/-- the cells: an object (class, its fields: 0 an int, 1 a long, 2 a boolean, n + 3 the cell n) or an array (type, length, 1 for longs) -/
def lay : List ((Nat × List Nat) ⊕ (Nat × Nat × Nat)) := [.inl (7, [4, 6, 7, 8, 10, 15, 20, 0]),
  .inl (6, [5, 0]),
  .inr (0, 100, 0),
  .inl (0, [0, 0, 0, 0, 2]),
  .inl (1, [0, 0, 0, 0, 0, 0, 0, 2, 2]),
  .inl (2, [9, 0]),
  .inr (0, 20000, 0),
  .inl (3, [7, 8, 11, 13, 0, 0, 0, 0]),
  .inl (6, [12, 0]),
  .inr (0, 100, 0),
  .inl (6, [14, 0]),
  .inr (0, 100, 0),
  .inl (4, [16, 17, 18, 19, 0, 0, 0]),
  .inr (0, 8000, 0),
  .inr (1, 4001, 0),
  .inr (1, 4001, 0),
  .inr (2, 80, 0),
  .inl (5, [21, 22, 23, 24, 0, 0, 0, 1]),
  .inr (3, 12003, 1),
  .inr (1, 12003, 0),
  .inr (1, 4000, 0),
  .inr (1, 24000, 0),
  .inl (8, [26, 0, 27, 0, 28, 29, 0, 30, 31, 32, 33, 0, 34, 35, 36, 1, 0, 37, 38, 39, 40, 41, 42, 43, 0, 2, 2, 0, 0, 0, 0, 0, 0, 0, 0, 0, 0, 44, 0, 45, 0, 0, 0, 0, 0, 2, 0, 0]),
  .inr (1, 100, 0),
  .inr (1, 300, 0),
  .inr (1, 8100, 0),
  .inr (1, 80, 0),
  .inr (1, 8101, 0),
  .inr (1, 8101, 0),
  .inr (2, 8101, 0),
  .inr (1, 8101, 0),
  .inr (3, 32404, 1),
  .inr (1, 32404, 0),
  .inr (1, 32404, 0),
  .inr (1, 8100, 0),
  .inr (1, 8100, 0),
  .inr (1, 8100, 0),
  .inr (1, 8100, 0),
  .inr (2, 8100, 0),
  .inr (1, 8100, 0),
  .inr (1, 20000, 0),
  .inr (1, 100, 0),
  .inr (1, 100, 0)]
theorem uX0 : ∀ w ∈ u_ws RX0 TX0 5, w ∈ GT := mem_pos _ [105, 107, 109, 111, 113] (by decide +kernel) (by decide +kernel)
theorem uX1 : ∀ w ∈ u_ws RX1 TX1 9, w ∈ GT := mem_pos _ [148, 150, 152, 154, 156, 158, 160, 162, 164] (by decide +kernel) (by decide +kernel)
theorem uX2 : ∀ w ∈ u_ws RX2 TX2 2, w ∈ GT := mem_pos _ [176, 178] (by decide +kernel) (by decide +kernel)
theorem uX3 : ∀ w ∈ u_ws RX3 TX3 8, w ∈ GT := mem_pos _ [203, 205, 207, 209, 211, 213, 215, 217] (by decide +kernel) (by decide +kernel)
theorem uX4 : ∀ w ∈ u_ws RX4 TX4 7, w ∈ GT := mem_pos _ [235, 237, 239, 241, 243, 245, 247] (by decide +kernel) (by decide +kernel)
theorem uX5 : ∀ w ∈ u_ws RX5 TX5 8, w ∈ GT := mem_pos _ [269, 271, 273, 275, 277, 279, 281, 283] (by decide +kernel) (by decide +kernel)
theorem uX6 : ∀ w ∈ u_ws RX6 TX6 2, w ∈ GT := mem_pos _ [86, 88] (by decide +kernel) (by decide +kernel)
theorem uX7 : ∀ w ∈ u_ws RX7 TX7 8, w ∈ GT := mem_pos _ [295, 297, 299, 301, 303, 305, 307, 309] (by decide +kernel) (by decide +kernel)
theorem uX8 : ∀ w ∈ u_ws RX8 TX8 48, w ∈ GT := mem_pos _ [679, 681, 683, 685, 687, 689, 691, 693, 695, 697, 699, 701, 703, 705, 707, 709, 711, 713, 715, 717, 719, 721, 723, 725, 727, 729, 731, 733, 735, 737, 739, 741, 743, 745, 747, 749, 751, 753, 755, 757, 759, 761, 763, 765, 767, 769, 771, 773] (by decide +kernel) (by decide +kernel)
end
section
/-! ===== the machine over a store: one world of cells for both sides ===== -/
abbrev RI : Type := Nat × Instr × Nat × Nat × Nat
abbrev LV : Type := List (Option Value)
abbrev St2 : Type := (Nat → Nat → Int32) × (Nat → Nat → Int64)
/-- start, straight instructions, the last one (nop: it falls through) -/
abbrev BLK : Type := Nat × List RI × RI
/-- name, code, locals, answer, frames, words of locals, blocks; where its words stand: code, instance or static, selects, initialized; its parameters -/
abbrev MR : Type := MethodName × ByteArray × Nat × Option FieldType × Nat × Nat × List BLK × Nat × Nat × Nat × Nat × Nat
/-- classes and slots, array classes, addresses -/
abbrev GG : Type := va_G × (Nat → ClassId) × (Nat → Nat)
def up2 {α : Type} (I : Nat → Nat → α) (a b : Nat) (x : α) : Nat → Nat → α := fun p => if p = a then (fun q => if q = b then x else I p q) else I p
def nth : LV → Nat → Option Value
  | [], _ => none
  | a :: _, 0 => a
  | _ :: l, n + 1 => nth l n
def lnth {α : Type} : List α → Nat → Option α
  | [], _ => none
  | a :: _, 0 => some a
  | _ :: l, n + 1 => lnth l n
theorem lnth_eq {α : Type} (l : List α) (n : Nat) : lnth l n = l[n]? := by
  induction l generalizing n with
  | nil => rfl
  | cons a l ih => cases n with
    | zero => rfl
    | succ n => exact ih n
/-- an Int32 below 0: minus (k + 1) -/
def mI (k : Nat) : Int32 := Int32.ofInt (Int.negSucc k)
theorem cI_nat (k : Nat) : Int32.ofInt (Int.ofNat k) = nI k := rfl
def cv (G : GG) : Value → Value
  | .ref n => .ref (G.2.2 n)
  | v => v
def fval (G : GG) (σ : St2) (id k : Nat) : Nat → Value
  | 0 => .int (σ.1 id k)
  | 1 => .long (σ.2 id k)
  | 2 => .int (σ.1 id k)
  | n + 3 => .ref (G.2.2 n)
def fvs (G : GG) (σ : St2) (id : Nat) : Nat → List Nat → List Value
  | _, [] => []
  | k, f :: fs => fval G σ id k f :: fvs G σ id (k + 1) fs
def cellL (G : GG) (σ : St2) (id : Nat) : Option ((Nat × List Nat) ⊕ (Nat × Nat × Nat)) → va_E
  | some (.inl (ci, fks)) => .inr (ci, fvs G σ id 0 fks)
  | some (.inr (t, n, 0)) => .inl (G.2.1 t, n, .inl (σ.1 id))
  | some (.inr (t, n, _ + 1)) => .inl (G.2.1 t, n, .inr (.inl (σ.2 id)))
  | none => .inr (0, [])
def cellE (G : GG) (σ : St2) (id : Nat) : va_E := cellL G σ id lay[id]?
def World (G : GG) (σ : St2) : va_W := (List.range lay.length).map (fun id => (G.2.2 id, cellE G σ id))
def tysG (G : GG) : List (ClassId × FieldType) := [(G.2.1 0, .byte), (G.2.1 1, .int), (G.2.1 2, .boolean), (G.2.1 3, .long)]
theorem World_at (G : GG) (σ : St2) {id : Nat} (h : id < lay.length) : (World G σ)[id]? = some (G.2.2 id, cellE G σ id) := by
  simp [World, h]
theorem World_len (G : GG) (σ : St2) : (World G σ).length = lay.length := by simp [World]
theorem World_set (G : GG) (σ σ' : St2) {id : Nat} (h : ∀ j, j ≠ id → cellE G σ' j = cellE G σ j) : World G σ' = (World G σ).set id (G.2.2 id, cellE G σ' id) := by
  apply List.ext_getElem?
  intro j
  by_cases hj : j < lay.length
  · rw [World_at G σ' hj]
    by_cases e : j = id
    · subst e
      rw [List.getElem?_set_self (by rw [World_len]; exact hj)]
    · rw [List.getElem?_set_ne (fun q => e q.symm), World_at G σ hj, h j e]
  · rw [List.getElem?_eq_none (by rw [World_len]; omega), List.getElem?_eq_none (by rw [List.length_set, World_len]; omega)]
theorem fvs_at (G : GG) (σ : St2) (id : Nat) (fks : List Nat) (k0 k : Nat) : (fvs G σ id k0 fks)[k]? = (fks[k]?).map (fval G σ id (k0 + k)) := by
  induction fks generalizing k0 k with
  | nil => simp [fvs]
  | cons f fs ih =>
    cases k with
    | zero => simp [fvs]
    | succ k =>
      rw [fvs, List.getElem?_cons_succ, ih, List.getElem?_cons_succ]
      congr 2
      omega
theorem fvs_len (G : GG) (σ : St2) (id : Nat) (fks : List Nat) (k0 : Nat) : (fvs G σ id k0 fks).length = fks.length := by
  induction fks generalizing k0 with
  | nil => rfl
  | cons f fs ih => simp [fvs, ih]
theorem up2_row {α : Type} (I : Nat → Nat → α) (a b : Nat) (x : α) : up2 I a b x a = fun q => if q = b then x else I a q := by
  simp [up2]
theorem up2_ne {α : Type} (I : Nat → Nat → α) {a p : Nat} (b : Nat) (x : α) (h : p ≠ a) : up2 I a b x p = I p := by
  simp [up2, h]
theorem up2_same {α : Type} (I : Nat → Nat → α) (a b : Nat) (x : α) : up2 I a b x a b = x := by simp [up2]
theorem up2_col {α : Type} (I : Nat → Nat → α) (a : Nat) {b q : Nat} (x : α) (h : q ≠ b) : up2 I a b x a q = I a q := by simp [up2, h]
theorem cellE_ne1 (G : GG) (σ : St2) {id j : Nat} (k : Nat) (x : Int32) (h : j ≠ id) : cellE G (up2 σ.1 id k x, σ.2) j = cellE G σ j := by
  have e : ∀ (fks : List Nat) (k0 : Nat), fvs G (up2 σ.1 id k x, σ.2) j k0 fks = fvs G σ j k0 fks := by
    intro fks
    induction fks with
    | nil => intro k0; rfl
    | cons f fs ih =>
      intro k0
      rw [fvs, fvs, ih]
      congr 1
      rcases f with _ | _ | _ | f <;> simp [fval, up2_ne _ _ _ h]
  unfold cellE
  rcases lay[j]? with _ | ⟨ci, fks⟩ | ⟨t, n, _ | q⟩ <;> simp [cellL, e, up2_ne _ _ _ h]
theorem cellE_ne2 (G : GG) (σ : St2) {id j : Nat} (k : Nat) (x : Int64) (h : j ≠ id) : cellE G (σ.1, up2 σ.2 id k x) j = cellE G σ j := by
  have e : ∀ (fks : List Nat) (k0 : Nat), fvs G (σ.1, up2 σ.2 id k x) j k0 fks = fvs G σ j k0 fks := by
    intro fks
    induction fks with
    | nil => intro k0; rfl
    | cons f fs ih =>
      intro k0
      rw [fvs, fvs, ih]
      congr 1
      rcases f with _ | _ | _ | f <;> simp [fval, up2_ne _ _ _ h]
  unfold cellE
  rcases lay[j]? with _ | ⟨ci, fks⟩ | ⟨t, n, _ | q⟩ <;> simp [cellL, e, up2_ne _ _ _ h]
theorem fvs_set1 (G : GG) (σ : St2) (id : Nat) (fks : List Nat) {k : Nat} (x : Int32) (hk : fks[k]? = some 0 ∨ fks[k]? = some 2) : fvs G (up2 σ.1 id k x, σ.2) id 0 fks = (fvs G σ id 0 fks).set k (.int x) := by
  apply List.ext_getElem?
  intro j
  have hl : k < fks.length := by
    rcases hk with h | h <;> exact (List.getElem?_eq_some_iff.mp h).1
  rw [fvs_at]
  by_cases e : j = k
  · subst e
    rw [List.getElem?_set_self (by rw [fvs_len]; exact hl)]
    rcases hk with h | h <;> rw [h] <;> simp [fval, up2_same]
  · rw [List.getElem?_set_ne (fun q => e q.symm), fvs_at]
    cases fks[j]? with
    | none => rfl
    | some f => rcases f with _ | _ | _ | f <;> simp [fval, up2_col _ _ _ e]
theorem fvs_set2 (G : GG) (σ : St2) (id : Nat) (fks : List Nat) {k : Nat} (x : Int64) (hk : fks[k]? = some 1) : fvs G (σ.1, up2 σ.2 id k x) id 0 fks = (fvs G σ id 0 fks).set k (.long x) := by
  apply List.ext_getElem?
  intro j
  have hl : k < fks.length := (List.getElem?_eq_some_iff.mp hk).1
  rw [fvs_at]
  by_cases e : j = k
  · subst e
    rw [List.getElem?_set_self (by rw [fvs_len]; exact hl), hk]
    simp [fval, up2_same]
  · rw [List.getElem?_set_ne (fun q => e q.symm), fvs_at]
    cases fks[j]? with
    | none => rfl
    | some f => rcases f with _ | _ | _ | f <;> simp [fval, up2_col _ _ _ e]
/-! the locals -/
def lvl (G : GG) (l : LV) : List (Nat × Value) := (List.range l.length).filterMap (fun j => (nth l j).map (fun v => (j, cv G v)))
theorem nth_lt {l : LV} {j : Nat} {v : Value} (h : nth l j = some v) : j < l.length := by
  induction l generalizing j with
  | nil => cases h
  | cons a l ih => cases j with
    | zero => simp
    | succ j => simp; exact ih h
theorem lvl_mem {G : GG} {l : LV} {q : Nat × Value} : q ∈ lvl G l ↔ ∃ v, nth l q.1 = some v ∧ q.2 = cv G v := by
  unfold lvl
  rw [List.mem_filterMap]
  constructor
  · rintro ⟨j, -, h⟩
    cases hn : nth l j with
    | none => rw [hn] at h; cases h
    | some v => rw [hn] at h; cases h; exact ⟨v, hn, rfl⟩
  · rintro ⟨v, h1, h2⟩
    exact ⟨q.1, List.mem_range.mpr (nth_lt h1), by rw [h1]; simp [← h2]⟩
theorem lv_mono {ls : Array Slot} {nL : Nat} {L L' : List (Nat × Value)} (h : lv_has ls nL L) (hs : ∀ q ∈ L', q ∈ L) : lv_has ls nL L' := ⟨h.1, h.2.1, fun q hq => h.2.2 q (hs q hq)⟩
theorem lvl_get {G : GG} {ls : Array Slot} {nL : Nat} {l : LV} {j : Nat} {v : Value} (h : lv_has ls nL (lvl G l)) (hn : nth l j = some v) : ls[j]? = some (.val (cv G v)) := h.2.2 (j, cv G v) (lvl_mem.mpr ⟨v, hn, rfl⟩)
def setK {α : Type} : LV → Nat → Option Value → (LV → Option α) → Option α
  | [], _, _, _ => none
  | _ :: l, 0, v, k => k (v :: l)
  | a :: l, n + 1, v, k => setK l n v (fun l' => k (a :: l'))
theorem setK_ok {α : Type} {l : LV} {i : Nat} {v : Option Value} {k : LV → Option α} {r : α} (h : setK l i v k = some r) : i < l.length ∧ k (l.set i v) = some r := by
  induction l generalizing i k with
  | nil => cases h
  | cons a l ih => cases i with
    | zero => exact ⟨by simp, h⟩
    | succ i =>
      obtain ⟨h1, h2⟩ := ih h
      exact ⟨by simp; exact h1, h2⟩
theorem nth_set {l : LV} {i : Nat} {v : Option Value} (h : i < l.length) (j : Nat) : nth (l.set i v) j = if j = i then v else nth l j := by
  induction l generalizing i j with
  | nil => cases h
  | cons a l ih => cases i with
    | zero => cases j with
      | zero => rfl
      | succ j => simp [nth]
    | succ i => cases j with
      | zero => simp [nth]
      | succ j =>
        have h' : i < l.length := by simpa using h
        have := ih h' j
        simp only [List.set_cons_succ, nth, this]
        by_cases e : j = i
        · simp [e]
        · simp [e]
def st1 {α : Type} (l : LV) (i : Nat) (v : Value) (k : LV → Option α) : Option α :=
  match i with
  | 0 => setK l 0 (some v) k
  | j + 1 => match nth l j with
    | some (.long _) => setK l j none (fun l => setK l (j + 1) (some v) k)
    | some (.double _) => none
    | _ => setK l (j + 1) (some v) k
def st2 {α : Type} (l : LV) (i : Nat) (v : Value) (k : LV → Option α) : Option α := st1 l i v (fun l => setK l (i + 1) none k)
theorem cv_cat (G : GG) (v : Value) : (cv G v).category = v.category := by cases v <;> rfl
/-- what a store of one slot leaves -/
theorem st1_ok {α : Type} {l : LV} {i : Nat} {v : Value} {k : LV → Option α} {r : α} (h : st1 l i v k = some r) : ∃ l', k l' = some r ∧ l'.length = l.length ∧ i < l.length ∧ ∀ j w, nth l' j = some w → (j = i ∧ w = v) ∨ (j ≠ i ∧ nth l j = some w ∧ ¬ (j + 1 = i ∧ w.category = 2)) := by
  unfold st1 at h
  split at h
  · obtain ⟨h1, h2⟩ := setK_ok h
    refine ⟨_, h2, by simp, h1, fun j w hw => ?_⟩
    rw [nth_set h1] at hw
    by_cases e : j = 0
    · rw [if_pos e] at hw
      cases hw
      exact Or.inl ⟨e, rfl⟩
    · rw [if_neg e] at hw
      exact Or.inr ⟨e, hw, by omega⟩
  · rename_i j0
    split at h
    · rename_i x hx
      obtain ⟨h1, h2⟩ := setK_ok h
      obtain ⟨h3, h4⟩ := setK_ok h2
      have h3' : j0 + 1 < l.length := by simpa using h3
      refine ⟨_, h4, by simp, h3', fun j w hw => ?_⟩
      rw [nth_set h3] at hw
      by_cases e : j = j0 + 1
      · rw [if_pos e] at hw
        cases hw
        exact Or.inl ⟨e, rfl⟩
      · rw [if_neg e, nth_set h1] at hw
        by_cases e2 : j = j0
        · rw [if_pos e2] at hw
          cases hw
        · rw [if_neg e2] at hw
          exact Or.inr ⟨e, hw, by omega⟩
    · cases h
    · rename_i hn1 hn2
      obtain ⟨h1, h2⟩ := setK_ok h
      refine ⟨_, h2, by simp, h1, fun j w hw => ?_⟩
      rw [nth_set h1] at hw
      by_cases e : j = j0 + 1
      · rw [if_pos e] at hw
        cases hw
        exact Or.inl ⟨e, rfl⟩
      · rw [if_neg e] at hw
        refine Or.inr ⟨e, hw, fun q => ?_⟩
        have e2 : j = j0 := by omega
        subst e2
        cases w <;> simp [Value.category] at q
        · exact hn1 _ hw
        · exact hn2 _ hw
theorem st1_lv {α : Type} {G : GG} {ls' : Array Slot} {nL : Nat} {l l' : LV} {i : Nat} {v : Value} (hm : ∀ j w, nth l' j = some w → (j = i ∧ w = v) ∨ (j ≠ i ∧ nth l j = some w ∧ ¬ (j + 1 = i ∧ w.category = 2)))
    (h : lv_has ls' nL ((i, cv G v) :: (lvl G l).filter (fun q => !(q.1 == i) && !(q.1 + 1 == i && q.2.category == 2)))) : lv_has ls' nL (lvl G l') := by
  refine lv_mono h fun q hq => ?_
  obtain ⟨w, h1, h2⟩ := lvl_mem.mp hq
  obtain ⟨j, u⟩ := q
  simp only at h1 h2
  subst h2
  rcases hm j w h1 with ⟨rfl, rfl⟩ | ⟨n1, n2, n3⟩
  · exact List.mem_cons_self
  · refine List.mem_cons_of_mem _ (List.mem_filter.mpr ⟨lvl_mem.mpr ⟨w, n2, rfl⟩, ?_⟩)
    simp only [Bool.and_eq_true, Bool.not_eq_true', beq_eq_false_iff_ne, ne_eq, Bool.and_eq_false_iff, cv_cat]
    refine ⟨n1, ?_⟩
    by_cases e : j + 1 = i
    · exact Or.inr (fun q => n3 ⟨e, q⟩)
    · exact Or.inl e
theorem st2_ok {α : Type} {l : LV} {i : Nat} {v : Value} {k : LV → Option α} {r : α} (h : st2 l i v k = some r) : ∃ l', k l' = some r ∧ l'.length = l.length ∧ i + 1 < l.length ∧ ∀ j w, nth l' j = some w → (j = i ∧ w = v) ∨ (j ≠ i ∧ j ≠ i + 1 ∧ nth l j = some w ∧ ¬ (j + 1 = i ∧ w.category = 2)) := by
  obtain ⟨l1, h1, h2, h3, h4⟩ := st1_ok h
  obtain ⟨h5, h6⟩ := setK_ok h1
  refine ⟨_, h6, by simp [h2], by omega, fun j w hw => ?_⟩
  rw [nth_set h5] at hw
  by_cases e : j = i + 1
  · rw [if_pos e] at hw
    cases hw
  · rw [if_neg e] at hw
    rcases h4 j w hw with q | ⟨q1, q2, q3⟩
    · exact Or.inl q
    · exact Or.inr ⟨q1, e, q2, q3⟩
theorem st2_lv {G : GG} {ls' : Array Slot} {nL : Nat} {l l' : LV} {i : Nat} {v : Value} (hm : ∀ j w, nth l' j = some w → (j = i ∧ w = v) ∨ (j ≠ i ∧ j ≠ i + 1 ∧ nth l j = some w ∧ ¬ (j + 1 = i ∧ w.category = 2)))
    (h : lv_has ls' nL ((i, cv G v) :: (lvl G l).filter (fun q => !(q.1 == i) && (!(q.1 == i + 1) && !(q.1 + 1 == i && q.2.category == 2))))) : lv_has ls' nL (lvl G l') := by
  refine lv_mono h fun q hq => ?_
  obtain ⟨w, h1, h2⟩ := lvl_mem.mp hq
  obtain ⟨j, u⟩ := q
  simp only at h1 h2
  subst h2
  rcases hm j w h1 with ⟨rfl, rfl⟩ | ⟨n1, n0, n2, n3⟩
  · exact List.mem_cons_self
  · refine List.mem_cons_of_mem _ (List.mem_filter.mpr ⟨lvl_mem.mpr ⟨w, n2, rfl⟩, ?_⟩)
    simp only [Bool.and_eq_true, Bool.not_eq_true', beq_eq_false_iff_ne, ne_eq, Bool.and_eq_false_iff, cv_cat]
    refine ⟨n1, n0, ?_⟩
    by_cases e : j + 1 = i
    · exact Or.inr (fun q => n3 ⟨e, q⟩)
    · exact Or.inl e
end
section
/-! ===== one straight instruction, and its soundness ===== -/
def lnI : Instr → Nat
  | .iconst _ | .lconst _ | .iload_n _ | .lload_n _ | .aload_n _ | .istore_n _ | .lstore_n _ => 1
  | .bipush _ | .ldc _ | .iload _ | .lload _ | .aload _ | .istore _ | .lstore _ => 2
  | .sipush _ | .ldc2_w _ | .iinc _ _ | .getfield _ | .putfield _ => 3
  | _ => 1
/-- an instruction: its place, itself, three numbers (class and field, or a constant; the place of its word) -/
def lnk (M : MR) (ri : RI) : Bool :=
  match ri.2.1 with
  | .getfield idx => match CLS[ri.2.2.1]? with
    | some (C, T, N) => decide (lw_tbl[ri.2.2.2.2]? = some (Cond.fieldLink M.1.cls idx C (T ri.2.2.2.1).2.1 (T ri.2.2.2.1).2.2.1)) && (decide (ri.2.2.2.1 < N) && decide ((T ri.2.2.2.1).1 = C))
    | none => false
  | .putfield idx => match CLS[ri.2.2.1]? with
    | some (C, T, N) => decide (lw_tbl[ri.2.2.2.2]? = some (Cond.fieldLink M.1.cls idx C (T ri.2.2.2.1).2.1 (T ri.2.2.2.1).2.2.1)) && (decide (ri.2.2.2.1 < N) && decide ((T ri.2.2.2.1).1 = C)) && decide ((T ri.2.2.2.1).2.2.2 = false)
    | none => false
  | .bipush n => decide ((Int8.ofInt n).toInt32 = Int32.ofInt n)
  | .sipush n => decide ((Int16.ofInt n).toInt32 = Int32.ofInt n)
  | .ldc idx => decide (lw_tbl[ri.2.2.2.2]? = some (Cond.constant M.1.cls idx (nI ri.2.2.1)))
  | .ldc2_w idx => decide (lw_tbl[ri.2.2.2.2]? = some (Cond.constantLong M.1.cls idx (lN ri.2.2.1)))
  | _ => true
def chk1 (M : MR) (ri : RI) : Bool := decide (decode M.2.1 ri.1 = .ok (ri.2.1, lnI ri.2.1)) && lnk M ri
def ldI {α : Type} (l : LV) (i : Nat) (k : Int32 → Option α) : Option α := match nth l i with
  | some (.int x) => k x
  | _ => none
def ldL {α : Type} (l : LV) (i : Nat) (k : Int64 → Option α) : Option α := match nth l i with
  | some (.long x) => k x
  | _ => none
def ldA {α : Type} (l : LV) (i : Nat) (k : Nat → Option α) : Option α := match nth l i with
  | some (.ref x) => k x
  | _ => none
def cst {α : Type} (n : Int) (k : Int32 → Option α) : Option α := match n with
  | .ofNat j => k (nI j)
  | .negSucc j => k (mI j)
/-- the fields of the object in a cell, if it is of that class -/
def objK {α : Type} (id ci k : Nat) (kk : Nat → Option α) : Option α := match lnth lay id with
  | some (.inl (c, fks)) => match Nat.beq c ci with
    | true => match lnth fks k with
      | some f => kk f
      | none => none
    | false => none
  | _ => none
/-- the array in a cell: its type, length -/
def arrK {α : Type} (id : Nat) (kk : Nat → Nat → Option α) : Option α := match lnth lay id with
  | some (.inr (t, n, _)) => kk t n
  | _ => none
def ex1 {α : Type} (ri : RI) (l : LV) (st : List Value) (σ : St2) (k0 : LV → List Value → St2 → Option α) (k1 : Prop → LV → List Value → St2 → Option α) : Option α :=
  match ri.2.1 with
  | .iconst n => cst n fun x => k0 l (.int x :: st) σ
  | .bipush n => cst n fun x => k0 l (.int x :: st) σ
  | .sipush n => cst n fun x => k0 l (.int x :: st) σ
  | .lconst n => k0 l (.long (lN n.val) :: st) σ
  | .ldc _ => k0 l (.int (nI ri.2.2.1) :: st) σ
  | .ldc2_w _ => k0 l (.long (lN ri.2.2.1) :: st) σ
  | .iload_n i => ldI l i.val fun x => k0 l (.int x :: st) σ
  | .iload i => ldI l i fun x => k0 l (.int x :: st) σ
  | .lload_n i => ldL l i.val fun x => k0 l (.long x :: st) σ
  | .lload i => ldL l i fun x => k0 l (.long x :: st) σ
  | .aload_n i => ldA l i.val fun x => k0 l (.ref x :: st) σ
  | .aload i => ldA l i fun x => k0 l (.ref x :: st) σ
  | .istore_n i => match st with
    | .int x :: r => st1 l i.val (.int x) fun l => k0 l r σ
    | _ => none
  | .istore i => match st with
    | .int x :: r => st1 l i (.int x) fun l => k0 l r σ
    | _ => none
  | .lstore_n i => match st with
    | .long x :: r => st2 l i.val (.long x) fun l => k0 l r σ
    | _ => none
  | .lstore i => match st with
    | .long x :: r => st2 l i (.long x) fun l => k0 l r σ
    | _ => none
  | .iinc i n => ldI l i fun x => cst n fun y => st1 l i (.int (x + y)) fun l => k0 l st σ
  | .iadd => match st with
    | .int y :: .int x :: r => k0 l (.int (x + y) :: r) σ
    | _ => none
  | .isub => match st with
    | .int y :: .int x :: r => k0 l (.int (x - y) :: r) σ
    | _ => none
  | .imul => match st with
    | .int y :: .int x :: r => k0 l (.int (x * y) :: r) σ
    | _ => none
  | .iand => match st with
    | .int y :: .int x :: r => k0 l (.int (x &&& y) :: r) σ
    | _ => none
  | .ior => match st with
    | .int y :: .int x :: r => k0 l (.int (x ||| y) :: r) σ
    | _ => none
  | .ishl => match st with
    | .int y :: .int x :: r => k0 l (.int (x <<< (y &&& 31)) :: r) σ
    | _ => none
  | .idiv => match st with
    | .int y :: .int x :: r => k1 (¬ y = 0) l (.int (x / y) :: r) σ
    | _ => none
  | .irem => match st with
    | .int y :: .int x :: r => k1 (¬ y = 0) l (.int (x - x / y * y) :: r) σ
    | _ => none
  | .ladd => match st with
    | .long y :: .long x :: r => k0 l (.long (x + y) :: r) σ
    | _ => none
  | .lsub => match st with
    | .long y :: .long x :: r => k0 l (.long (x - y) :: r) σ
    | _ => none
  | .lmul => match st with
    | .long y :: .long x :: r => k0 l (.long (x * y) :: r) σ
    | _ => none
  | .land => match st with
    | .long y :: .long x :: r => k0 l (.long (x &&& y) :: r) σ
    | _ => none
  | .ldiv => match st with
    | .long y :: .long x :: r => k1 (¬ y = 0) l (.long (x / y) :: r) σ
    | _ => none
  | .lushr => match st with
    | .int y :: .long x :: r => k0 l (.long (x.toUInt64 >>> (y.toInt64.toUInt64 &&& Int64.toUInt64 63)).toInt64 :: r) σ
    | _ => none
  | .lshr => match st with
    | .int y :: .long x :: r => k0 l (.long (x >>> (y.toInt64 &&& 63)) :: r) σ
    | _ => none
  | .lcmp => match st with
    | .long y :: .long x :: r => k0 l (.int (lg_cmp x y) :: r) σ
    | _ => none
  | .i2l => match st with
    | .int x :: r => k0 l (.long x.toInt64 :: r) σ
    | _ => none
  | .l2i => match st with
    | .long x :: r => k0 l (.int x.toInt32 :: r) σ
    | _ => none
  | .i2b => match st with
    | .int x :: r => k0 l (.int x.toInt8.toInt32 :: r) σ
    | _ => none
  | .dup => match st with
    | .int x :: r => k0 l (.int x :: .int x :: r) σ
    | .ref x :: r => k0 l (.ref x :: .ref x :: r) σ
    | _ => none
  | .getfield _ => match st with
    | .ref id :: r => objK id ri.2.2.1 ri.2.2.2.1 fun f => match f with
      | 0 => k0 l (.int (σ.1 id ri.2.2.2.1) :: r) σ
      | 1 => k0 l (.long (σ.2 id ri.2.2.2.1) :: r) σ
      | 2 => k0 l (.int (σ.1 id ri.2.2.2.1) :: r) σ
      | n + 3 => k0 l (.ref n :: r) σ
    | _ => none
  | .putfield _ => match st with
    | .int x :: .ref id :: r => objK id ri.2.2.1 ri.2.2.2.1 fun f => match f with
      | 0 => k0 l r (up2 σ.1 id ri.2.2.2.1 x, σ.2)
      | 2 => k1 (x = 0 ∨ x = 1) l r (up2 σ.1 id ri.2.2.2.1 x, σ.2)
      | _ => none
    | .long x :: .ref id :: r => objK id ri.2.2.1 ri.2.2.2.1 fun f => match f with
      | 1 => k0 l r (σ.1, up2 σ.2 id ri.2.2.2.1 x)
      | _ => none
    | _ => none
  | .iaload => match st with
    | .int i :: .ref id :: r => arrK id fun t n => match t with
      | 1 => k1 (vp_in i n) l (.int (σ.1 id i.toNatClampNeg) :: r) σ
      | _ => none
    | _ => none
  | .baload => match st with
    | .int i :: .ref id :: r => arrK id fun t n => match t with
      | 0 => k1 (vp_in i n) l (.int (σ.1 id i.toNatClampNeg) :: r) σ
      | 2 => k1 (vp_in i n) l (.int (σ.1 id i.toNatClampNeg) :: r) σ
      | _ => none
    | _ => none
  | .laload => match st with
    | .int i :: .ref id :: r => arrK id fun t n => match t with
      | 3 => k1 (vp_in i n) l (.long (σ.2 id i.toNatClampNeg) :: r) σ
      | _ => none
    | _ => none
  | .iastore => match st with
    | .int x :: .int i :: .ref id :: r => arrK id fun t n => match t with
      | 1 => k1 (vp_in i n) l r (up2 σ.1 id i.toNatClampNeg x, σ.2)
      | _ => none
    | _ => none
  | .bastore => match st with
    | .int x :: .int i :: .ref id :: r => arrK id fun t n => match t with
      | 0 => k1 (vp_in i n) l r (up2 σ.1 id i.toNatClampNeg x.toInt8.toInt32, σ.2)
      | 2 => k1 (vp_in i n) l r (up2 σ.1 id i.toNatClampNeg (x &&& 1), σ.2)
      | _ => none
    | _ => none
  | .lastore => match st with
    | .long x :: .int i :: .ref id :: r => arrK id fun t n => match t with
      | 3 => k1 (vp_in i n) l r (σ.1, up2 σ.2 id i.toNatClampNeg x)
      | _ => none
    | _ => none
  | .arraylength => match st with
    | .ref id :: r => arrK id fun _ n => k0 l (.int (nI n) :: r) σ
    | _ => none
  | _ => none
/-- what stays the same through a method's run -/
def Cx (G : GG) (M : MR) (p : Program) (s : State) (m : MethodId) (args : Array Value) (meth : Method) (c : Code) : Prop :=
  p.tables.exec = Jvm.exec ∧ c.code = M.2.1 ∧ meth.sig.returnType = M.2.2.2.1 ∧ c.maxLocals = M.2.2.1 ∧ s.vm.findClass M.1.cls = some m.cls ∧ (∀ w ∈ GT, w.before args s = true) ∧ meth.locks = false ∧ va_K G.1 CLS (tysG G) s ∧ ∀ i j, i < lay.length → j < lay.length → G.2.2 i = G.2.2 j → i = j
def Aad (G : GG) : Nat → Prop := fun q => ∃ id, id < lay.length ∧ q = G.2.2 id
abbrev rmM (M : MR) : Room := { frames := M.2.2.2.2.1, cells := 0, slots := 0, locals := M.2.2.2.2.2.1 }
def QQ (G : GG) (Q : Option Value → St2 → Prop) : Array Value → State → Outcome → State → Prop := fun _ st oc t => (∃ (v : Option Value) (σ' : St2), oc = .returned (v.map (cv G)) ∧ Q v σ' ∧ va_P G.1 CLS (World G σ') t.heap) ∧ va_F (Aad G) st t
/-- the method M, standing at pc with these locals, stack and store, returns, and Q answer store -/
def Ev (lc : Launch) (G : GG) (M : MR) (pc : Nat) (l : LV) (st : List Value) (σ : St2) (Q : Option Value → St2 → Prop) : Prop :=
  ∀ (p : Program) (e : Env) (s : State) (m : MethodId) (args : Array Value) (below : List Frame) (meth : Method) (c : Code), Cx G M p s m args meth c → ∀ (H : Heap) (locs : List Loc) (ls : Array Slot),
    va_P G.1 CLS (World G σ) H → va_S (Aad G) s.heap H locs → lv_has ls M.2.2.1 (lvl G l) ∧ l.length = M.2.2.1 → W p lc e (rmM M) s m args below meth c H locs 0 0 (MQ below (QQ G Q) args s 0 0 (Aad G)) (F0 m pc ls (st.map (cv G)))
theorem World_D {G : GG} (hA : ∀ i j, i < lay.length → j < lay.length → G.2.2 i = G.2.2 j → i = j) (σ : St2) : va_D (Aad G) (World G σ) := by
  have key : ∀ (k : Nat) (q : Nat × va_E), (World G σ)[k]? = some q → k < lay.length ∧ q = (G.2.2 k, cellE G σ k) := by
    intro k q h
    have hk : k < lay.length := by
      have := (List.getElem?_eq_some_iff.mp h).1
      rwa [World_len] at this
    rw [World_at G σ hk] at h
    exact ⟨hk, (Option.some.inj h).symm⟩
  refine ⟨fun i j x y hi hj hxy => ?_, fun k q hk => ?_⟩
  · obtain ⟨a1, rfl⟩ := key i x hi
    obtain ⟨a2, rfl⟩ := key j y hj
    exact hA i j a1 a2 hxy
  · obtain ⟨a1, rfl⟩ := key k q hk
    exact ⟨k, a1, rfl⟩
theorem objK_ok {α : Type} {id ci k : Nat} {kk : Nat → Option α} {r : α} (h : objK id ci k kk = some r) : ∃ fks f, lay[id]? = some (.inl (ci, fks)) ∧ fks[k]? = some f ∧ kk f = some r := by
  unfold objK at h
  rw [lnth_eq] at h
  split at h
  · rename_i c fks hl
    split at h
    · rename_i hb
      have e : c = ci := Nat.eq_of_beq_eq_true hb
      subst e
      rw [lnth_eq] at h
      split at h
      · rename_i f hf
        exact ⟨fks, f, hl, hf, h⟩
      · cases h
    · cases h
  · cases h
theorem arrK_ok {α : Type} {id : Nat} {kk : Nat → Nat → Option α} {r : α} (h : arrK id kk = some r) : ∃ t n q, lay[id]? = some (.inr (t, n, q)) ∧ kk t n = some r := by
  unfold arrK at h
  rw [lnth_eq] at h
  split at h
  · rename_i t n q hl
    exact ⟨t, n, q, hl, h⟩
  · cases h
theorem ldI_ok {α : Type} {l : LV} {i : Nat} {k : Int32 → Option α} {r : α} (h : ldI l i k = some r) : ∃ x, nth l i = some (.int x) ∧ k x = some r := by
  unfold ldI at h
  split at h
  · rename_i x hx; exact ⟨x, hx, h⟩
  · cases h
theorem ldL_ok {α : Type} {l : LV} {i : Nat} {k : Int64 → Option α} {r : α} (h : ldL l i k = some r) : ∃ x, nth l i = some (.long x) ∧ k x = some r := by
  unfold ldL at h
  split at h
  · rename_i x hx; exact ⟨x, hx, h⟩
  · cases h
theorem ldA_ok {α : Type} {l : LV} {i : Nat} {k : Nat → Option α} {r : α} (h : ldA l i k = some r) : ∃ x, nth l i = some (.ref x) ∧ k x = some r := by
  unfold ldA at h
  split at h
  · rename_i x hx; exact ⟨x, hx, h⟩
  · cases h
theorem cst_ok {α : Type} {n : Int} {k : Int32 → Option α} {r : α} (h : cst n k = some r) : k (Int32.ofInt n) = some r := by
  cases n with
  | ofNat j => exact h
  | negSucc j => exact h
end
section
/-! ===== soundness of one straight instruction ===== -/
def okL : (Nat × List Nat) ⊕ (Nat × Nat × Nat) → Bool
  | .inr (t, _, q) => (decide (t < 4)) && (decide (q = if t = 3 then 1 else 0))
  | .inl (ci, fks) => match CLS[ci]? with
    | none => false
    | some (_, T, N) => decide (fks.length = N) && (List.range N).all (fun k => match fks[k]? with
      | some 0 => decide (parseFieldDescriptor (T k).2.2.1 = some .int)
      | some 1 => decide (parseFieldDescriptor (T k).2.2.1 = some .long)
      | some 2 => decide (parseFieldDescriptor (T k).2.2.1 = some .boolean)
      | _ => true)
set_option maxRecDepth 100000 in
theorem lay_ok : lay.all okL = true := by decide +kernel
theorem lay_at {id : Nat} {x : (Nat × List Nat) ⊕ (Nat × Nat × Nat)} (h : lay[id]? = some x) : okL x = true := List.all_eq_true.mp lay_ok x (List.mem_of_getElem? h)
theorem lay_lt {id : Nat} {x : (Nat × List Nat) ⊕ (Nat × Nat × Nat)} (h : lay[id]? = some x) : id < lay.length := (List.getElem?_eq_some_iff.mp h).1
theorem lay_arr {id t n q : Nat} (h : lay[id]? = some (.inr (t, n, q))) : t < 4 ∧ q = if t = 3 then 1 else 0 := by
  have := lay_at h
  simpa [okL] using this
theorem lay_obj {id ci : Nat} {fks : List Nat} (h : lay[id]? = some (.inl (ci, fks))) : ∃ C T N, CLS[ci]? = some (C, T, N) ∧ fks.length = N ∧ ∀ k, k < N → (fks[k]? = some 0 → parseFieldDescriptor (T k).2.2.1 = some .int) ∧ (fks[k]? = some 1 → parseFieldDescriptor (T k).2.2.1 = some .long) ∧ (fks[k]? = some 2 → parseFieldDescriptor (T k).2.2.1 = some .boolean) := by
  have h0 := lay_at h
  unfold okL at h0
  simp only at h0
  split at h0
  · cases h0
  · rename_i C T N hc
    simp only [Bool.and_eq_true, decide_eq_true_eq] at h0
    refine ⟨C, T, N, hc, h0.1, fun k hk => ?_⟩
    have h1 := List.all_eq_true.mp h0.2 k (List.mem_range.mpr hk)
    refine ⟨fun e => ?_, fun e => ?_, fun e => ?_⟩ <;> rw [e] at h1 <;> simpa using h1
theorem cls_u {ci : Nat} {C : String} {T : u_T} {N : Nat} (h : CLS[ci]? = some (C, T, N)) : (∀ w ∈ u_ws C T N, w ∈ GT) ∧ ∃ ty : Nat → FieldType, (∀ k, k < N → parseFieldDescriptor (T k).2.2.1 = some (ty k)) ∧ ∀ a, a < N → ∀ b, b < N → a ≠ b → (T a).2.1 ≠ (T b).2.1 := by
  match ci, h with
  | 0, h => cases h; exact ⟨uX0, tyX0, tyX0_ok, nmX0⟩
  | 1, h => cases h; exact ⟨uX1, tyX1, tyX1_ok, nmX1⟩
  | 2, h => cases h; exact ⟨uX2, tyX2, tyX2_ok, nmX2⟩
  | 3, h => cases h; exact ⟨uX3, tyX3, tyX3_ok, nmX3⟩
  | 4, h => cases h; exact ⟨uX4, tyX4, tyX4_ok, nmX4⟩
  | 5, h => cases h; exact ⟨uX5, tyX5, tyX5_ok, nmX5⟩
  | 6, h => cases h; exact ⟨uX6, tyX6, tyX6_ok, nmX6⟩
  | 7, h => cases h; exact ⟨uX7, tyX7, tyX7_ok, nmX7⟩
  | 8, h => cases h; exact ⟨uX8, tyX8, tyX8_ok, nmX8⟩
  | n + 9, h => simp [CLS] at h
theorem tys_at (G : GG) : (tysG G)[0]? = some (G.2.1 0, .byte) ∧ (tysG G)[1]? = some (G.2.1 1, .int) ∧ (tysG G)[2]? = some (G.2.1 2, .boolean) ∧ (tysG G)[3]? = some (G.2.1 3, .long) := ⟨rfl, rfl, rfl, rfl⟩
theorem cell_arr {G : GG} {σ : St2} {id t n q : Nat} (h : lay[id]? = some (.inr (t, n, q))) (ht : t ≠ 3) : (World G σ)[id]? = some (G.2.2 id, .inl (G.2.1 t, n, .inl (σ.1 id))) := by
  obtain ⟨-, h2⟩ := lay_arr h
  rw [if_neg ht] at h2
  subst h2
  rw [World_at G σ (lay_lt h)]
  simp [cellE, h, cellL]
theorem cell_arrL {G : GG} {σ : St2} {id n q : Nat} (h : lay[id]? = some (.inr (3, n, q))) : (World G σ)[id]? = some (G.2.2 id, .inl (G.2.1 3, n, .inr (.inl (σ.2 id)))) := by
  obtain ⟨-, h2⟩ := lay_arr h
  rw [if_pos rfl] at h2
  subst h2
  rw [World_at G σ (lay_lt h)]
  simp [cellE, h, cellL]
theorem cell_obj {G : GG} {σ : St2} {id ci : Nat} {fks : List Nat} (h : lay[id]? = some (.inl (ci, fks))) : (World G σ)[id]? = some (G.2.2 id, .inr (ci, fvs G σ id 0 fks)) := by
  rw [World_at G σ (lay_lt h)]
  simp [cellE, h, cellL]
theorem upd_row (I : Nat → Nat → Int32) (a b : Nat) (x : Int32) : up2 I a b x a = upd (I a) b x := by
  funext q; simp [up2, upd]
theorem updL_row (I : Nat → Nat → Int64) (a b : Nat) (x : Int64) : up2 I a b x a = vp_updL (I a) b x := by
  funext q; simp [up2, vp_updL]
theorem World_arr {G : GG} {σ : St2} {id t n q : Nat} (h : lay[id]? = some (.inr (t, n, q))) (ht : t ≠ 3) (i : Nat) (x : Int32) : (World G σ).set id (G.2.2 id, .inl (G.2.1 t, n, .inl (upd (σ.1 id) i x))) = World G (up2 σ.1 id i x, σ.2) := by
  rw [World_set G σ (up2 σ.1 id i x, σ.2) (id := id) (fun j hj => cellE_ne1 G σ i x hj)]
  obtain ⟨-, h2⟩ := lay_arr h
  rw [if_neg ht] at h2
  subst h2
  simp [cellE, h, cellL, upd_row]
theorem World_arrL {G : GG} {σ : St2} {id n q : Nat} (h : lay[id]? = some (.inr (3, n, q))) (i : Nat) (x : Int64) : (World G σ).set id (G.2.2 id, .inl (G.2.1 3, n, .inr (.inl (vp_updL (σ.2 id) i x)))) = World G (σ.1, up2 σ.2 id i x) := by
  rw [World_set G σ (σ.1, up2 σ.2 id i x) (id := id) (fun j hj => cellE_ne2 G σ i x hj)]
  obtain ⟨-, h2⟩ := lay_arr h
  rw [if_pos rfl] at h2
  subst h2
  simp [cellE, h, cellL, updL_row]
theorem World_fld {G : GG} {σ : St2} {id ci k : Nat} {fks : List Nat} (h : lay[id]? = some (.inl (ci, fks))) (hk : fks[k]? = some 0 ∨ fks[k]? = some 2) (x : Int32) : (World G σ).set id (G.2.2 id, .inr (ci, (fvs G σ id 0 fks).set k (.int x))) = World G (up2 σ.1 id k x, σ.2) := by
  rw [World_set G σ (up2 σ.1 id k x, σ.2) (id := id) (fun j hj => cellE_ne1 G σ k x hj)]
  simp [cellE, h, cellL, fvs_set1 G σ id fks x hk]
theorem World_fldL {G : GG} {σ : St2} {id ci k : Nat} {fks : List Nat} (h : lay[id]? = some (.inl (ci, fks))) (hk : fks[k]? = some 1) (x : Int64) : (World G σ).set id (G.2.2 id, .inr (ci, (fvs G σ id 0 fks).set k (.long x))) = World G (σ.1, up2 σ.2 id k x) := by
  rw [World_set G σ (σ.1, up2 σ.2 id k x) (id := id) (fun j hj => cellE_ne2 G σ k x hj)]
  simp [cellE, h, cellL, fvs_set2 G σ id fks x hk]
/-- from one state to the next, under P -/
def Nx (M : MR) (pc : Nat) (l : LV) (st : List Value) (σ : St2) (P : Prop) (pc' : Nat) (l' : LV) (st' : List Value) (σ' : St2) : Prop := ∀ (lc : Launch) (G : GG) (Q : Option Value → St2 → Prop), P → Ev lc G M pc' l' st' σ' Q → Ev lc G M pc l st σ Q
def Res {α : Type} (M : MR) (ri : RI) (l : LV) (st : List Value) (σ : St2) (k0 : LV → List Value → St2 → Option α) (k1 : Prop → LV → List Value → St2 → Option α) (r : α) : Prop :=
  (∃ l' st' σ', k0 l' st' σ' = some r ∧ Nx M ri.1 l st σ True (ri.1 + lnI ri.2.1) l' st' σ') ∨ (∃ P l' st' σ', k1 P l' st' σ' = some r ∧ Nx M ri.1 l st σ P (ri.1 + lnI ri.2.1) l' st' σ')

theorem sx_iconst {α : Type} {M : MR} {pc a1 a2 a3 : Nat} {l : LV} {st : List Value} {σ : St2} {k0 : LV → List Value → St2 → Option α} {k1 : Prop → LV → List Value → St2 → Option α} {r : α} {n : Int} (hd : decode M.2.1 pc = .ok (.iconst n, 1)) (h : ex1 (pc, .iconst n, a1, a2, a3) l st σ k0 k1 = some r) : Res M (pc, .iconst n, a1, a2, a3) l st σ k0 k1 r := by
  have h2 : k0 l (.int (Int32.ofInt n) :: st) σ = some r := cst_ok (k := fun x => k0 l (.int x :: st) σ) h
  exact Or.inl ⟨_, _, _, h2, fun lc G Q hp hE p e s m args below meth c C H locs ls hP hS hl => lv_iconst C.1 C.2.1 hd rfl (hE p e s m args below meth c C H locs ls hP hS hl)⟩
theorem sx_bipush {α : Type} {M : MR} {pc a1 a2 a3 : Nat} {l : LV} {st : List Value} {σ : St2} {k0 : LV → List Value → St2 → Option α} {k1 : Prop → LV → List Value → St2 → Option α} {r : α} {n : Int} (hd : decode M.2.1 pc = .ok (.bipush n, 2)) (hk : lnk M (pc, .bipush n, a1, a2, a3) = true) (h : ex1 (pc, .bipush n, a1, a2, a3) l st σ k0 k1 = some r) : Res M (pc, .bipush n, a1, a2, a3) l st σ k0 k1 r := by
  have h2 : k0 l (.int (Int32.ofInt n) :: st) σ = some r := cst_ok (k := fun x => k0 l (.int x :: st) σ) h
  exact Or.inl ⟨_, _, _, h2, fun lc G Q hp hE p e s m args below meth c C H locs ls hP hS hl => lv_bipush C.1 C.2.1 hd (by simpa [lnk] using hk) (hE p e s m args below meth c C H locs ls hP hS hl)⟩
theorem sx_sipush {α : Type} {M : MR} {pc a1 a2 a3 : Nat} {l : LV} {st : List Value} {σ : St2} {k0 : LV → List Value → St2 → Option α} {k1 : Prop → LV → List Value → St2 → Option α} {r : α} {n : Int} (hd : decode M.2.1 pc = .ok (.sipush n, 3)) (hk : lnk M (pc, .sipush n, a1, a2, a3) = true) (h : ex1 (pc, .sipush n, a1, a2, a3) l st σ k0 k1 = some r) : Res M (pc, .sipush n, a1, a2, a3) l st σ k0 k1 r := by
  have h2 : k0 l (.int (Int32.ofInt n) :: st) σ = some r := cst_ok (k := fun x => k0 l (.int x :: st) σ) h
  exact Or.inl ⟨_, _, _, h2, fun lc G Q hp hE p e s m args below meth c C H locs ls hP hS hl => lv_sipush C.1 C.2.1 hd (by simpa [lnk] using hk) (hE p e s m args below meth c C H locs ls hP hS hl)⟩
theorem sx_lconst {α : Type} {M : MR} {pc a1 a2 a3 : Nat} {l : LV} {st : List Value} {σ : St2} {k0 : LV → List Value → St2 → Option α} {k1 : Prop → LV → List Value → St2 → Option α} {r : α} {n : Fin 2} (hd : decode M.2.1 pc = .ok (.lconst n, 1)) (h : ex1 (pc, .lconst n, a1, a2, a3) l st σ k0 k1 = some r) : Res M (pc, .lconst n, a1, a2, a3) l st σ k0 k1 r := by
  exact Or.inl ⟨_, _, _, h, fun lc G Q hp hE p e s m args below meth c C H locs ls hP hS hl => lv_lconst C.1 C.2.1 hd rfl (hE p e s m args below meth c C H locs ls hP hS hl)⟩
theorem sx_ldc {α : Type} {M : MR} {pc a1 a2 a3 : Nat} {l : LV} {st : List Value} {σ : St2} {k0 : LV → List Value → St2 → Option α} {k1 : Prop → LV → List Value → St2 → Option α} {r : α} {n : Nat} (hd : decode M.2.1 pc = .ok (.ldc n, 2)) (hk : lnk M (pc, .ldc n, a1, a2, a3) = true) (h : ex1 (pc, .ldc n, a1, a2, a3) l st σ k0 k1 = some r) : Res M (pc, .ldc n, a1, a2, a3) l st σ k0 k1 r := by
  have hk' : lw_tbl[a3]? = some (Cond.constant M.1.cls n (nI a1)) := by simpa [lnk] using hk
  exact Or.inl ⟨_, _, _, h, fun lc G Q hp hE p e s m args below meth c C H locs ls hP hS hl => lv_ldc C.1 C.2.1 C.2.2.2.2.1 (C.2.2.2.2.2.1 _ (GT_at hk' rfl)) hd (hE p e s m args below meth c C H locs ls hP hS hl)⟩
theorem sx_ldc2_w {α : Type} {M : MR} {pc a1 a2 a3 : Nat} {l : LV} {st : List Value} {σ : St2} {k0 : LV → List Value → St2 → Option α} {k1 : Prop → LV → List Value → St2 → Option α} {r : α} {n : Nat} (hd : decode M.2.1 pc = .ok (.ldc2_w n, 3)) (hk : lnk M (pc, .ldc2_w n, a1, a2, a3) = true) (h : ex1 (pc, .ldc2_w n, a1, a2, a3) l st σ k0 k1 = some r) : Res M (pc, .ldc2_w n, a1, a2, a3) l st σ k0 k1 r := by
  have hk' : lw_tbl[a3]? = some (Cond.constantLong M.1.cls n (lN a1)) := by simpa [lnk] using hk
  exact Or.inl ⟨_, _, _, h, fun lc G Q hp hE p e s m args below meth c C H locs ls hP hS hl => lv_ldc2 C.1 C.2.1 C.2.2.2.2.1 (C.2.2.2.2.2.1 _ (GT_at hk' rfl)) hd (hE p e s m args below meth c C H locs ls hP hS hl)⟩
theorem sx_iload_n {α : Type} {M : MR} {pc a1 a2 a3 : Nat} {l : LV} {st : List Value} {σ : St2} {k0 : LV → List Value → St2 → Option α} {k1 : Prop → LV → List Value → St2 → Option α} {r : α} {n : Fin 4} (hd : decode M.2.1 pc = .ok (.iload_n n, 1)) (h : ex1 (pc, .iload_n n, a1, a2, a3) l st σ k0 k1 = some r) : Res M (pc, .iload_n n, a1, a2, a3) l st σ k0 k1 r := by
  obtain ⟨x, h1, h2⟩ := ldI_ok h
  exact Or.inl ⟨_, _, _, h2, fun lc G Q hp hE p e s m args below meth c C H locs ls hP hS hl => lv_iload_n C.1 C.2.1 hd rfl (lvl_get hl.1 h1) (hE p e s m args below meth c C H locs ls hP hS hl)⟩
theorem sx_iload {α : Type} {M : MR} {pc a1 a2 a3 : Nat} {l : LV} {st : List Value} {σ : St2} {k0 : LV → List Value → St2 → Option α} {k1 : Prop → LV → List Value → St2 → Option α} {r : α} {n : Nat} (hd : decode M.2.1 pc = .ok (.iload n, 2)) (h : ex1 (pc, .iload n, a1, a2, a3) l st σ k0 k1 = some r) : Res M (pc, .iload n, a1, a2, a3) l st σ k0 k1 r := by
  obtain ⟨x, h1, h2⟩ := ldI_ok h
  exact Or.inl ⟨_, _, _, h2, fun lc G Q hp hE p e s m args below meth c C H locs ls hP hS hl => lv_iload C.1 C.2.1 hd (lvl_get hl.1 h1) (hE p e s m args below meth c C H locs ls hP hS hl)⟩
theorem sx_lload_n {α : Type} {M : MR} {pc a1 a2 a3 : Nat} {l : LV} {st : List Value} {σ : St2} {k0 : LV → List Value → St2 → Option α} {k1 : Prop → LV → List Value → St2 → Option α} {r : α} {n : Fin 4} (hd : decode M.2.1 pc = .ok (.lload_n n, 1)) (h : ex1 (pc, .lload_n n, a1, a2, a3) l st σ k0 k1 = some r) : Res M (pc, .lload_n n, a1, a2, a3) l st σ k0 k1 r := by
  obtain ⟨x, h1, h2⟩ := ldL_ok h
  exact Or.inl ⟨_, _, _, h2, fun lc G Q hp hE p e s m args below meth c C H locs ls hP hS hl => lv_lload_n C.1 C.2.1 hd rfl (lvl_get hl.1 h1) (hE p e s m args below meth c C H locs ls hP hS hl)⟩
theorem sx_lload {α : Type} {M : MR} {pc a1 a2 a3 : Nat} {l : LV} {st : List Value} {σ : St2} {k0 : LV → List Value → St2 → Option α} {k1 : Prop → LV → List Value → St2 → Option α} {r : α} {n : Nat} (hd : decode M.2.1 pc = .ok (.lload n, 2)) (h : ex1 (pc, .lload n, a1, a2, a3) l st σ k0 k1 = some r) : Res M (pc, .lload n, a1, a2, a3) l st σ k0 k1 r := by
  obtain ⟨x, h1, h2⟩ := ldL_ok h
  exact Or.inl ⟨_, _, _, h2, fun lc G Q hp hE p e s m args below meth c C H locs ls hP hS hl => lv_lload C.1 C.2.1 hd (lvl_get hl.1 h1) (hE p e s m args below meth c C H locs ls hP hS hl)⟩
theorem sx_aload_n {α : Type} {M : MR} {pc a1 a2 a3 : Nat} {l : LV} {st : List Value} {σ : St2} {k0 : LV → List Value → St2 → Option α} {k1 : Prop → LV → List Value → St2 → Option α} {r : α} {n : Fin 4} (hd : decode M.2.1 pc = .ok (.aload_n n, 1)) (h : ex1 (pc, .aload_n n, a1, a2, a3) l st σ k0 k1 = some r) : Res M (pc, .aload_n n, a1, a2, a3) l st σ k0 k1 r := by
  obtain ⟨x, h1, h2⟩ := ldA_ok h
  exact Or.inl ⟨_, _, _, h2, fun lc G Q hp hE p e s m args below meth c C H locs ls hP hS hl => lv_aload_n C.1 C.2.1 hd rfl (lvl_get hl.1 h1) (hE p e s m args below meth c C H locs ls hP hS hl)⟩
theorem sx_aload {α : Type} {M : MR} {pc a1 a2 a3 : Nat} {l : LV} {st : List Value} {σ : St2} {k0 : LV → List Value → St2 → Option α} {k1 : Prop → LV → List Value → St2 → Option α} {r : α} {n : Nat} (hd : decode M.2.1 pc = .ok (.aload n, 2)) (h : ex1 (pc, .aload n, a1, a2, a3) l st σ k0 k1 = some r) : Res M (pc, .aload n, a1, a2, a3) l st σ k0 k1 r := by
  obtain ⟨x, h1, h2⟩ := ldA_ok h
  exact Or.inl ⟨_, _, _, h2, fun lc G Q hp hE p e s m args below meth c C H locs ls hP hS hl => lv_aload C.1 C.2.1 hd (lvl_get hl.1 h1) (hE p e s m args below meth c C H locs ls hP hS hl)⟩
theorem sx_istore_n {α : Type} {M : MR} {pc a1 a2 a3 : Nat} {l : LV} {st : List Value} {σ : St2} {k0 : LV → List Value → St2 → Option α} {k1 : Prop → LV → List Value → St2 → Option α} {r : α} {n : Fin 4} (hd : decode M.2.1 pc = .ok (.istore_n n, 1)) (h : ex1 (pc, .istore_n n, a1, a2, a3) l st σ k0 k1 = some r) : Res M (pc, .istore_n n, a1, a2, a3) l st σ k0 k1 r := by
  dsimp only [ex1] at h
  split at h
  · rename_i x rr
    obtain ⟨l', h2, h3, h4, h5⟩ := st1_ok h
    exact Or.inl ⟨_, _, _, h2, fun lc G Q hp hE p e s m args below meth c C H locs ls hP hS hl => lv_istore_n C.1 C.2.1 hd rfl hl.1 (by omega) rfl (fun ls' hl' => hE p e s m args below meth c C H locs ls' hP hS ⟨st1_lv (α := α) h5 hl', by omega⟩)⟩
  · cases h
theorem sx_istore {α : Type} {M : MR} {pc a1 a2 a3 : Nat} {l : LV} {st : List Value} {σ : St2} {k0 : LV → List Value → St2 → Option α} {k1 : Prop → LV → List Value → St2 → Option α} {r : α} {n : Nat} (hd : decode M.2.1 pc = .ok (.istore n, 2)) (h : ex1 (pc, .istore n, a1, a2, a3) l st σ k0 k1 = some r) : Res M (pc, .istore n, a1, a2, a3) l st σ k0 k1 r := by
  dsimp only [ex1] at h
  split at h
  · rename_i x rr
    obtain ⟨l', h2, h3, h4, h5⟩ := st1_ok h
    exact Or.inl ⟨_, _, _, h2, fun lc G Q hp hE p e s m args below meth c C H locs ls hP hS hl => lv_istore C.1 C.2.1 hd hl.1 (by omega) rfl (fun ls' hl' => hE p e s m args below meth c C H locs ls' hP hS ⟨st1_lv (α := α) h5 hl', by omega⟩)⟩
  · cases h
theorem sx_lstore_n {α : Type} {M : MR} {pc a1 a2 a3 : Nat} {l : LV} {st : List Value} {σ : St2} {k0 : LV → List Value → St2 → Option α} {k1 : Prop → LV → List Value → St2 → Option α} {r : α} {n : Fin 4} (hd : decode M.2.1 pc = .ok (.lstore_n n, 1)) (h : ex1 (pc, .lstore_n n, a1, a2, a3) l st σ k0 k1 = some r) : Res M (pc, .lstore_n n, a1, a2, a3) l st σ k0 k1 r := by
  dsimp only [ex1] at h
  split at h
  · rename_i x rr
    obtain ⟨l', h2, h3, h4, h5⟩ := st2_ok h
    exact Or.inl ⟨_, _, _, h2, fun lc G Q hp hE p e s m args below meth c C H locs ls hP hS hl => lv_lstore_n C.1 C.2.1 hd rfl hl.1 (by omega) rfl (fun ls' hl' => hE p e s m args below meth c C H locs ls' hP hS ⟨st2_lv h5 hl', by omega⟩)⟩
  · cases h
theorem sx_lstore {α : Type} {M : MR} {pc a1 a2 a3 : Nat} {l : LV} {st : List Value} {σ : St2} {k0 : LV → List Value → St2 → Option α} {k1 : Prop → LV → List Value → St2 → Option α} {r : α} {n : Nat} (hd : decode M.2.1 pc = .ok (.lstore n, 2)) (h : ex1 (pc, .lstore n, a1, a2, a3) l st σ k0 k1 = some r) : Res M (pc, .lstore n, a1, a2, a3) l st σ k0 k1 r := by
  dsimp only [ex1] at h
  split at h
  · rename_i x rr
    obtain ⟨l', h2, h3, h4, h5⟩ := st2_ok h
    exact Or.inl ⟨_, _, _, h2, fun lc G Q hp hE p e s m args below meth c C H locs ls hP hS hl => lv_lstore C.1 C.2.1 hd hl.1 (by omega) rfl (fun ls' hl' => hE p e s m args below meth c C H locs ls' hP hS ⟨st2_lv h5 hl', by omega⟩)⟩
  · cases h
theorem sx_iinc {α : Type} {M : MR} {pc a1 a2 a3 : Nat} {l : LV} {st : List Value} {σ : St2} {k0 : LV → List Value → St2 → Option α} {k1 : Prop → LV → List Value → St2 → Option α} {r : α} {i : Nat} {n : Int} (hd : decode M.2.1 pc = .ok (.iinc i n, 3)) (h : ex1 (pc, .iinc i n, a1, a2, a3) l st σ k0 k1 = some r) : Res M (pc, .iinc i n, a1, a2, a3) l st σ k0 k1 r := by
  obtain ⟨x, h1, h2⟩ := ldI_ok h
  have h2 := cst_ok h2
  obtain ⟨l', h6, h3, h4, h5⟩ := st1_ok h2
  refine Or.inl ⟨_, _, _, h6, fun lc G Q hp hE p e s m args below meth c C H locs ls hP hS hl => ?_⟩
  obtain ⟨kx, hkx⟩ := List.getElem?_of_mem ((lvl_mem (G := G) (l := l) (q := (i, .int x))).mpr ⟨.int x, h1, rfl⟩)
  exact lv_iinc C.1 C.2.1 hd hl.1 hkx rfl (by omega) rfl (fun ls' hl' => hE p e s m args below meth c C H locs ls' hP hS ⟨st1_lv (α := α) h5 hl', by omega⟩)
theorem sx_iadd {α : Type} {M : MR} {pc a1 a2 a3 : Nat} {l : LV} {st : List Value} {σ : St2} {k0 : LV → List Value → St2 → Option α} {k1 : Prop → LV → List Value → St2 → Option α} {r : α} (hd : decode M.2.1 pc = .ok (.iadd, 1)) (h : ex1 (pc, .iadd, a1, a2, a3) l st σ k0 k1 = some r) : Res M (pc, .iadd, a1, a2, a3) l st σ k0 k1 r := by
  dsimp only [ex1] at h
  split at h
  · exact Or.inl ⟨_, _, _, h, fun lc G Q hp hE p e s m args below meth c C H locs ls hP hS hl => lv_iadd C.1 C.2.1 hd (hE p e s m args below meth c C H locs ls hP hS hl)⟩
  · cases h
theorem sx_isub {α : Type} {M : MR} {pc a1 a2 a3 : Nat} {l : LV} {st : List Value} {σ : St2} {k0 : LV → List Value → St2 → Option α} {k1 : Prop → LV → List Value → St2 → Option α} {r : α} (hd : decode M.2.1 pc = .ok (.isub, 1)) (h : ex1 (pc, .isub, a1, a2, a3) l st σ k0 k1 = some r) : Res M (pc, .isub, a1, a2, a3) l st σ k0 k1 r := by
  dsimp only [ex1] at h
  split at h
  · exact Or.inl ⟨_, _, _, h, fun lc G Q hp hE p e s m args below meth c C H locs ls hP hS hl => lv_isub C.1 C.2.1 hd (hE p e s m args below meth c C H locs ls hP hS hl)⟩
  · cases h
theorem sx_imul {α : Type} {M : MR} {pc a1 a2 a3 : Nat} {l : LV} {st : List Value} {σ : St2} {k0 : LV → List Value → St2 → Option α} {k1 : Prop → LV → List Value → St2 → Option α} {r : α} (hd : decode M.2.1 pc = .ok (.imul, 1)) (h : ex1 (pc, .imul, a1, a2, a3) l st σ k0 k1 = some r) : Res M (pc, .imul, a1, a2, a3) l st σ k0 k1 r := by
  dsimp only [ex1] at h
  split at h
  · exact Or.inl ⟨_, _, _, h, fun lc G Q hp hE p e s m args below meth c C H locs ls hP hS hl => lv_imul C.1 C.2.1 hd (hE p e s m args below meth c C H locs ls hP hS hl)⟩
  · cases h
theorem sx_iand {α : Type} {M : MR} {pc a1 a2 a3 : Nat} {l : LV} {st : List Value} {σ : St2} {k0 : LV → List Value → St2 → Option α} {k1 : Prop → LV → List Value → St2 → Option α} {r : α} (hd : decode M.2.1 pc = .ok (.iand, 1)) (h : ex1 (pc, .iand, a1, a2, a3) l st σ k0 k1 = some r) : Res M (pc, .iand, a1, a2, a3) l st σ k0 k1 r := by
  dsimp only [ex1] at h
  split at h
  · exact Or.inl ⟨_, _, _, h, fun lc G Q hp hE p e s m args below meth c C H locs ls hP hS hl => lv_iand C.1 C.2.1 hd (hE p e s m args below meth c C H locs ls hP hS hl)⟩
  · cases h
theorem sx_ior {α : Type} {M : MR} {pc a1 a2 a3 : Nat} {l : LV} {st : List Value} {σ : St2} {k0 : LV → List Value → St2 → Option α} {k1 : Prop → LV → List Value → St2 → Option α} {r : α} (hd : decode M.2.1 pc = .ok (.ior, 1)) (h : ex1 (pc, .ior, a1, a2, a3) l st σ k0 k1 = some r) : Res M (pc, .ior, a1, a2, a3) l st σ k0 k1 r := by
  dsimp only [ex1] at h
  split at h
  · exact Or.inl ⟨_, _, _, h, fun lc G Q hp hE p e s m args below meth c C H locs ls hP hS hl => lv_ior C.1 C.2.1 hd (hE p e s m args below meth c C H locs ls hP hS hl)⟩
  · cases h
theorem sx_ishl {α : Type} {M : MR} {pc a1 a2 a3 : Nat} {l : LV} {st : List Value} {σ : St2} {k0 : LV → List Value → St2 → Option α} {k1 : Prop → LV → List Value → St2 → Option α} {r : α} (hd : decode M.2.1 pc = .ok (.ishl, 1)) (h : ex1 (pc, .ishl, a1, a2, a3) l st σ k0 k1 = some r) : Res M (pc, .ishl, a1, a2, a3) l st σ k0 k1 r := by
  dsimp only [ex1] at h
  split at h
  · exact Or.inl ⟨_, _, _, h, fun lc G Q hp hE p e s m args below meth c C H locs ls hP hS hl => lv_ishl C.1 C.2.1 hd (hE p e s m args below meth c C H locs ls hP hS hl)⟩
  · cases h
theorem sx_ladd {α : Type} {M : MR} {pc a1 a2 a3 : Nat} {l : LV} {st : List Value} {σ : St2} {k0 : LV → List Value → St2 → Option α} {k1 : Prop → LV → List Value → St2 → Option α} {r : α} (hd : decode M.2.1 pc = .ok (.ladd, 1)) (h : ex1 (pc, .ladd, a1, a2, a3) l st σ k0 k1 = some r) : Res M (pc, .ladd, a1, a2, a3) l st σ k0 k1 r := by
  dsimp only [ex1] at h
  split at h
  · exact Or.inl ⟨_, _, _, h, fun lc G Q hp hE p e s m args below meth c C H locs ls hP hS hl => lv_ladd C.1 C.2.1 hd (hE p e s m args below meth c C H locs ls hP hS hl)⟩
  · cases h
theorem sx_lsub {α : Type} {M : MR} {pc a1 a2 a3 : Nat} {l : LV} {st : List Value} {σ : St2} {k0 : LV → List Value → St2 → Option α} {k1 : Prop → LV → List Value → St2 → Option α} {r : α} (hd : decode M.2.1 pc = .ok (.lsub, 1)) (h : ex1 (pc, .lsub, a1, a2, a3) l st σ k0 k1 = some r) : Res M (pc, .lsub, a1, a2, a3) l st σ k0 k1 r := by
  dsimp only [ex1] at h
  split at h
  · exact Or.inl ⟨_, _, _, h, fun lc G Q hp hE p e s m args below meth c C H locs ls hP hS hl => lv_lsub C.1 C.2.1 hd (hE p e s m args below meth c C H locs ls hP hS hl)⟩
  · cases h
theorem sx_lmul {α : Type} {M : MR} {pc a1 a2 a3 : Nat} {l : LV} {st : List Value} {σ : St2} {k0 : LV → List Value → St2 → Option α} {k1 : Prop → LV → List Value → St2 → Option α} {r : α} (hd : decode M.2.1 pc = .ok (.lmul, 1)) (h : ex1 (pc, .lmul, a1, a2, a3) l st σ k0 k1 = some r) : Res M (pc, .lmul, a1, a2, a3) l st σ k0 k1 r := by
  dsimp only [ex1] at h
  split at h
  · exact Or.inl ⟨_, _, _, h, fun lc G Q hp hE p e s m args below meth c C H locs ls hP hS hl => lv_lmul C.1 C.2.1 hd (hE p e s m args below meth c C H locs ls hP hS hl)⟩
  · cases h
theorem sx_land {α : Type} {M : MR} {pc a1 a2 a3 : Nat} {l : LV} {st : List Value} {σ : St2} {k0 : LV → List Value → St2 → Option α} {k1 : Prop → LV → List Value → St2 → Option α} {r : α} (hd : decode M.2.1 pc = .ok (.land, 1)) (h : ex1 (pc, .land, a1, a2, a3) l st σ k0 k1 = some r) : Res M (pc, .land, a1, a2, a3) l st σ k0 k1 r := by
  dsimp only [ex1] at h
  split at h
  · exact Or.inl ⟨_, _, _, h, fun lc G Q hp hE p e s m args below meth c C H locs ls hP hS hl => lv_land C.1 C.2.1 hd (hE p e s m args below meth c C H locs ls hP hS hl)⟩
  · cases h
theorem sx_idiv {α : Type} {M : MR} {pc a1 a2 a3 : Nat} {l : LV} {st : List Value} {σ : St2} {k0 : LV → List Value → St2 → Option α} {k1 : Prop → LV → List Value → St2 → Option α} {r : α} (hd : decode M.2.1 pc = .ok (.idiv, 1)) (h : ex1 (pc, .idiv, a1, a2, a3) l st σ k0 k1 = some r) : Res M (pc, .idiv, a1, a2, a3) l st σ k0 k1 r := by
  dsimp only [ex1] at h
  split at h
  · exact Or.inr ⟨_, _, _, _, h, fun lc G Q hp hE p e s m args below meth c C H locs ls hP hS hl => lv_idiv C.1 C.2.1 hd hp (hE p e s m args below meth c C H locs ls hP hS hl)⟩
  · cases h
theorem sx_irem {α : Type} {M : MR} {pc a1 a2 a3 : Nat} {l : LV} {st : List Value} {σ : St2} {k0 : LV → List Value → St2 → Option α} {k1 : Prop → LV → List Value → St2 → Option α} {r : α} (hd : decode M.2.1 pc = .ok (.irem, 1)) (h : ex1 (pc, .irem, a1, a2, a3) l st σ k0 k1 = some r) : Res M (pc, .irem, a1, a2, a3) l st σ k0 k1 r := by
  dsimp only [ex1] at h
  split at h
  · exact Or.inr ⟨_, _, _, _, h, fun lc G Q hp hE p e s m args below meth c C H locs ls hP hS hl => lv_irem C.1 C.2.1 hd hp (hE p e s m args below meth c C H locs ls hP hS hl)⟩
  · cases h
theorem sx_ldiv {α : Type} {M : MR} {pc a1 a2 a3 : Nat} {l : LV} {st : List Value} {σ : St2} {k0 : LV → List Value → St2 → Option α} {k1 : Prop → LV → List Value → St2 → Option α} {r : α} (hd : decode M.2.1 pc = .ok (.ldiv, 1)) (h : ex1 (pc, .ldiv, a1, a2, a3) l st σ k0 k1 = some r) : Res M (pc, .ldiv, a1, a2, a3) l st σ k0 k1 r := by
  dsimp only [ex1] at h
  split at h
  · exact Or.inr ⟨_, _, _, _, h, fun lc G Q hp hE p e s m args below meth c C H locs ls hP hS hl => lv_ldiv C.1 C.2.1 hd hp (hE p e s m args below meth c C H locs ls hP hS hl)⟩
  · cases h
theorem sx_lushr {α : Type} {M : MR} {pc a1 a2 a3 : Nat} {l : LV} {st : List Value} {σ : St2} {k0 : LV → List Value → St2 → Option α} {k1 : Prop → LV → List Value → St2 → Option α} {r : α} (hd : decode M.2.1 pc = .ok (.lushr, 1)) (h : ex1 (pc, .lushr, a1, a2, a3) l st σ k0 k1 = some r) : Res M (pc, .lushr, a1, a2, a3) l st σ k0 k1 r := by
  dsimp only [ex1] at h
  split at h
  · exact Or.inl ⟨_, _, _, h, fun lc G Q hp hE p e s m args below meth c C H locs ls hP hS hl => lv_lushr C.1 C.2.1 hd rfl (hE p e s m args below meth c C H locs ls hP hS hl)⟩
  · cases h
theorem sx_lshr {α : Type} {M : MR} {pc a1 a2 a3 : Nat} {l : LV} {st : List Value} {σ : St2} {k0 : LV → List Value → St2 → Option α} {k1 : Prop → LV → List Value → St2 → Option α} {r : α} (hd : decode M.2.1 pc = .ok (.lshr, 1)) (h : ex1 (pc, .lshr, a1, a2, a3) l st σ k0 k1 = some r) : Res M (pc, .lshr, a1, a2, a3) l st σ k0 k1 r := by
  dsimp only [ex1] at h
  split at h
  · exact Or.inl ⟨_, _, _, h, fun lc G Q hp hE p e s m args below meth c C H locs ls hP hS hl => lv_lshr C.1 C.2.1 hd rfl (hE p e s m args below meth c C H locs ls hP hS hl)⟩
  · cases h
theorem sx_i2l {α : Type} {M : MR} {pc a1 a2 a3 : Nat} {l : LV} {st : List Value} {σ : St2} {k0 : LV → List Value → St2 → Option α} {k1 : Prop → LV → List Value → St2 → Option α} {r : α} (hd : decode M.2.1 pc = .ok (.i2l, 1)) (h : ex1 (pc, .i2l, a1, a2, a3) l st σ k0 k1 = some r) : Res M (pc, .i2l, a1, a2, a3) l st σ k0 k1 r := by
  dsimp only [ex1] at h
  split at h
  · exact Or.inl ⟨_, _, _, h, fun lc G Q hp hE p e s m args below meth c C H locs ls hP hS hl => lv_i2l C.1 C.2.1 hd rfl (hE p e s m args below meth c C H locs ls hP hS hl)⟩
  · cases h
theorem sx_l2i {α : Type} {M : MR} {pc a1 a2 a3 : Nat} {l : LV} {st : List Value} {σ : St2} {k0 : LV → List Value → St2 → Option α} {k1 : Prop → LV → List Value → St2 → Option α} {r : α} (hd : decode M.2.1 pc = .ok (.l2i, 1)) (h : ex1 (pc, .l2i, a1, a2, a3) l st σ k0 k1 = some r) : Res M (pc, .l2i, a1, a2, a3) l st σ k0 k1 r := by
  dsimp only [ex1] at h
  split at h
  · exact Or.inl ⟨_, _, _, h, fun lc G Q hp hE p e s m args below meth c C H locs ls hP hS hl => lv_l2i C.1 C.2.1 hd rfl (hE p e s m args below meth c C H locs ls hP hS hl)⟩
  · cases h
theorem sx_i2b {α : Type} {M : MR} {pc a1 a2 a3 : Nat} {l : LV} {st : List Value} {σ : St2} {k0 : LV → List Value → St2 → Option α} {k1 : Prop → LV → List Value → St2 → Option α} {r : α} (hd : decode M.2.1 pc = .ok (.i2b, 1)) (h : ex1 (pc, .i2b, a1, a2, a3) l st σ k0 k1 = some r) : Res M (pc, .i2b, a1, a2, a3) l st σ k0 k1 r := by
  dsimp only [ex1] at h
  split at h
  · exact Or.inl ⟨_, _, _, h, fun lc G Q hp hE p e s m args below meth c C H locs ls hP hS hl => lv_i2b C.1 C.2.1 hd rfl (hE p e s m args below meth c C H locs ls hP hS hl)⟩
  · cases h
theorem sx_lcmp {α : Type} {M : MR} {pc a1 a2 a3 : Nat} {l : LV} {st : List Value} {σ : St2} {k0 : LV → List Value → St2 → Option α} {k1 : Prop → LV → List Value → St2 → Option α} {r : α} (hd : decode M.2.1 pc = .ok (.lcmp, 1)) (h : ex1 (pc, .lcmp, a1, a2, a3) l st σ k0 k1 = some r) : Res M (pc, .lcmp, a1, a2, a3) l st σ k0 k1 r := by
  dsimp only [ex1] at h
  split at h
  · exact Or.inl ⟨_, _, _, h, fun lc G Q hp hE p e s m args below meth c C H locs ls hP hS hl => W.lcmp C.1 C.2.1 hd (hE p e s m args below meth c C H locs ls hP hS hl)⟩
  · cases h
theorem sx_dup {α : Type} {M : MR} {pc a1 a2 a3 : Nat} {l : LV} {st : List Value} {σ : St2} {k0 : LV → List Value → St2 → Option α} {k1 : Prop → LV → List Value → St2 → Option α} {r : α} (hd : decode M.2.1 pc = .ok (.dup, 1)) (h : ex1 (pc, .dup, a1, a2, a3) l st σ k0 k1 = some r) : Res M (pc, .dup, a1, a2, a3) l st σ k0 k1 r := by
  dsimp only [ex1] at h
  split at h
  · exact Or.inl ⟨_, _, _, h, fun lc G Q hp hE p e s m args below meth c C H locs ls hP hS hl => lv_dup C.1 C.2.1 hd rfl (hE p e s m args below meth c C H locs ls hP hS hl)⟩
  · exact Or.inl ⟨_, _, _, h, fun lc G Q hp hE p e s m args below meth c C H locs ls hP hS hl => lv_dup C.1 C.2.1 hd rfl (hE p e s m args below meth c C H locs ls hP hS hl)⟩
  · cases h
theorem sx_getfield {α : Type} {M : MR} {pc a1 a2 a3 : Nat} {l : LV} {st : List Value} {σ : St2} {k0 : LV → List Value → St2 → Option α} {k1 : Prop → LV → List Value → St2 → Option α} {r : α} {n : Nat} (hd : decode M.2.1 pc = .ok (.getfield n, 3)) (hk : lnk M (pc, .getfield n, a1, a2, a3) = true) (h : ex1 (pc, .getfield n, a1, a2, a3) l st σ k0 k1 = some r) : Res M (pc, .getfield n, a1, a2, a3) l st σ k0 k1 r := by
  dsimp only [ex1] at h
  split at h
  · rename_i id rr
    obtain ⟨fks, f, h1, h2, h3⟩ := objK_ok h
    obtain ⟨C0, T, N, hc, hlen, -⟩ := lay_obj h1
    have hk2 : lw_tbl[a3]? = some (Cond.fieldLink M.1.cls n C0 (T a2).2.1 (T a2).2.2.1) ∧ a2 < N ∧ (T a2).1 = C0 := by
      unfold lnk at hk
      simp only [hc, Bool.and_eq_true, decide_eq_true_eq] at hk
      exact hk
    have key : ∀ v : Value, (∀ G, (fvs G σ id 0 fks)[a2]? = some (cv G v)) → Nx M pc l (.ref id :: rr) σ True (pc + 3) l (v :: rr) σ := by
      intro v hv lc G Q hp hE p e s m args below meth c C H locs ls hP hS hl
      exact va_get C.1 C.2.1 C.2.2.2.2.2.1 (cls_u hc).1 C.2.2.2.2.1 C.2.2.2.2.2.2.2.1 hP id (cell_obj h1) hc a2 hk2.2.1 (C.2.2.2.2.2.1 _ (GT_at hk2.1 rfl)) (fun _ h9 => by rw [hk2.2.2] at h9; exact h9) (hv G) hd (hE p e s m args below meth c C H locs ls hP hS hl)
    split at h3
    · exact Or.inl ⟨_, _, _, h3, key _ (fun G => by rw [fvs_at, h2]; simp [fval, cv])⟩
    · exact Or.inl ⟨_, _, _, h3, key _ (fun G => by rw [fvs_at, h2]; simp [fval, cv])⟩
    · exact Or.inl ⟨_, _, _, h3, key _ (fun G => by rw [fvs_at, h2]; simp [fval, cv])⟩
    · exact Or.inl ⟨_, _, _, h3, key _ (fun G => by rw [fvs_at, h2]; simp [fval, cv])⟩
  · cases h
theorem sx_putfield {α : Type} {M : MR} {pc a1 a2 a3 : Nat} {l : LV} {st : List Value} {σ : St2} {k0 : LV → List Value → St2 → Option α} {k1 : Prop → LV → List Value → St2 → Option α} {r : α} {n : Nat} (hd : decode M.2.1 pc = .ok (.putfield n, 3)) (hk : lnk M (pc, .putfield n, a1, a2, a3) = true) (h : ex1 (pc, .putfield n, a1, a2, a3) l st σ k0 k1 = some r) : Res M (pc, .putfield n, a1, a2, a3) l st σ k0 k1 r := by
  have key : ∀ (id : Nat) (rr : List Value) (v : Value) (fks : List Nat) (P : Prop) (σ' : St2), lay[id]? = some (.inl (a1, fks)) → (∀ (C : String) (T : u_T) (N : Nat), CLS[a1]? = some (C, T, N) → a2 < N → P → ∃ ty, parseFieldDescriptor (T a2).2.2.1 = some ty ∧ narrow ty v = v ∧ fits ty v = true) → (∀ G, (World G σ).set id (G.2.2 id, .inr (a1, (fvs G σ id 0 fks).set a2 v)) = World G σ') → (∀ G, cv G v = v) → Nx M pc l (v :: .ref id :: rr) σ P (pc + 3) l rr σ' := by
    intro id rr v fks P σ' h1 hty hw hcv lc G Q hp hE p e s m args below meth c C H locs ls hP hS hl
    obtain ⟨C0, T, N, hc, hlen, -⟩ := lay_obj h1
    have hk2 : (lw_tbl[a3]? = some (Cond.fieldLink M.1.cls n C0 (T a2).2.1 (T a2).2.2.1) ∧ a2 < N ∧ (T a2).1 = C0) ∧ (T a2).2.2.2 = false := by
      unfold lnk at hk
      simp only [hc, Bool.and_eq_true, decide_eq_true_eq] at hk
      exact hk
    obtain ⟨ty, t1, t2, t3⟩ := hty C0 T N hc hk2.1.2.1 hp
    obtain ⟨hu, ty0, u1, u2⟩ := cls_u hc
    have hD := World_D C.2.2.2.2.2.2.2.2 σ
    show W _ _ _ _ _ _ _ _ _ _ _ _ _ _ _ (F0 m pc ls (cv G v :: .ref (G.2.2 id) :: rr.map (cv G)))
    rw [hcv]
    refine va_put C.1 C.2.1 C.2.2.2.2.2.1 hu ty0 u1 u2 C.2.2.2.2.1 C.2.2.2.2.2.2.2.1 hP hD hS id (cell_obj h1) hc a2 hk2.1.2.1 (C.2.2.2.2.2.1 _ (GT_at hk2.1.1 rfl)) (fun _ h9 => by rw [hk2.1.2.2] at h9; exact h9) hk2.2 t1 t2 t3 (by rw [fvs_len, hlen]; exact hk2.1.2.1) hd (fun H1 locs1 hP1 _ hS1 => ?_)
    rw [hw G] at hP1
    exact hE p e s m args below meth c C H1 locs1 ls hP1 hS1 hl
  dsimp only [ex1] at h
  split at h
  · rename_i x id rr
    obtain ⟨fks, f, h1, h2, h3⟩ := objK_ok h
    obtain ⟨C0, T0, N0, hc0, hlen, ht0⟩ := lay_obj h1
    split at h3
    · refine Or.inl ⟨_, _, _, h3, key id rr (.int x) fks True _ h1 (fun C T N hc hN _ => ?_) (fun G => World_fld h1 (Or.inl h2) x) (fun G => rfl)⟩
      cases hc0.symm.trans hc
      exact ⟨.int, (ht0 a2 hN).1 h2, rfl, rfl⟩
    · refine Or.inr ⟨_, _, _, _, h3, key id rr (.int x) fks _ _ h1 (fun C T N hc hN hx => ?_) (fun G => World_fld h1 (Or.inr h2) x) (fun G => rfl)⟩
      cases hc0.symm.trans hc
      exact ⟨.boolean, (ht0 a2 hN).2.2 h2, by rcases hx with rfl | rfl <;> rfl, by rcases hx with rfl | rfl <;> rfl⟩
    · cases h3
  · rename_i x id rr
    obtain ⟨fks, f, h1, h2, h3⟩ := objK_ok h
    obtain ⟨C0, T0, N0, hc0, hlen, ht0⟩ := lay_obj h1
    split at h3
    · refine Or.inl ⟨_, _, _, h3, key id rr (.long x) fks True _ h1 (fun C T N hc hN _ => ?_) (fun G => World_fldL h1 h2 x) (fun G => rfl)⟩
      cases hc0.symm.trans hc
      exact ⟨.long, (ht0 a2 hN).2.1 h2, rfl, rfl⟩
    · cases h3
  · cases h
theorem sx_iaload {α : Type} {M : MR} {pc a1 a2 a3 : Nat} {l : LV} {st : List Value} {σ : St2} {k0 : LV → List Value → St2 → Option α} {k1 : Prop → LV → List Value → St2 → Option α} {r : α} (hd : decode M.2.1 pc = .ok (.iaload, 1)) (h : ex1 (pc, .iaload, a1, a2, a3) l st σ k0 k1 = some r) : Res M (pc, .iaload, a1, a2, a3) l st σ k0 k1 r := by
  dsimp only [ex1] at h
  split at h
  · rename_i i id rr
    obtain ⟨t, n, q, h1, h2⟩ := arrK_ok h
    split at h2
    · exact Or.inr ⟨_, _, _, _, h2, fun lc G Q hp hE p e s m args below meth c C H locs ls hP hS hl => va_iald C.1 C.2.1 C.2.2.2.2.2.2.2.1 hP id 1 (cell_arr h1 (by decide)) (tys_at G).2.1 hp hd (hE p e s m args below meth c C H locs ls hP hS hl)⟩
    · cases h2
  · cases h
theorem sx_baload {α : Type} {M : MR} {pc a1 a2 a3 : Nat} {l : LV} {st : List Value} {σ : St2} {k0 : LV → List Value → St2 → Option α} {k1 : Prop → LV → List Value → St2 → Option α} {r : α} (hd : decode M.2.1 pc = .ok (.baload, 1)) (h : ex1 (pc, .baload, a1, a2, a3) l st σ k0 k1 = some r) : Res M (pc, .baload, a1, a2, a3) l st σ k0 k1 r := by
  dsimp only [ex1] at h
  split at h
  · rename_i i id rr
    obtain ⟨t, n, q, h1, h2⟩ := arrK_ok h
    split at h2
    · exact Or.inr ⟨_, _, _, _, h2, fun lc G Q hp hE p e s m args below meth c C H locs ls hP hS hl => va_bald C.1 C.2.1 C.2.2.2.2.2.2.2.1 hP id 0 (cell_arr h1 (by decide)) (tys_at G).1 hp hd (hE p e s m args below meth c C H locs ls hP hS hl)⟩
    · exact Or.inr ⟨_, _, _, _, h2, fun lc G Q hp hE p e s m args below meth c C H locs ls hP hS hl => va_zald C.1 C.2.1 C.2.2.2.2.2.2.2.1 hP id 2 (cell_arr h1 (by decide)) (tys_at G).2.2.1 hp hd (hE p e s m args below meth c C H locs ls hP hS hl)⟩
    · cases h2
  · cases h
theorem sx_laload {α : Type} {M : MR} {pc a1 a2 a3 : Nat} {l : LV} {st : List Value} {σ : St2} {k0 : LV → List Value → St2 → Option α} {k1 : Prop → LV → List Value → St2 → Option α} {r : α} (hd : decode M.2.1 pc = .ok (.laload, 1)) (h : ex1 (pc, .laload, a1, a2, a3) l st σ k0 k1 = some r) : Res M (pc, .laload, a1, a2, a3) l st σ k0 k1 r := by
  dsimp only [ex1] at h
  split at h
  · rename_i i id rr
    obtain ⟨t, n, q, h1, h2⟩ := arrK_ok h
    split at h2
    · exact Or.inr ⟨_, _, _, _, h2, fun lc G Q hp hE p e s m args below meth c C H locs ls hP hS hl => va_lald C.1 C.2.1 C.2.2.2.2.2.2.2.1 hP id 3 (cell_arrL h1) (tys_at G).2.2.2 hp hd (hE p e s m args below meth c C H locs ls hP hS hl)⟩
    · cases h2
  · cases h
theorem sx_iastore {α : Type} {M : MR} {pc a1 a2 a3 : Nat} {l : LV} {st : List Value} {σ : St2} {k0 : LV → List Value → St2 → Option α} {k1 : Prop → LV → List Value → St2 → Option α} {r : α} (hd : decode M.2.1 pc = .ok (.iastore, 1)) (h : ex1 (pc, .iastore, a1, a2, a3) l st σ k0 k1 = some r) : Res M (pc, .iastore, a1, a2, a3) l st σ k0 k1 r := by
  dsimp only [ex1] at h
  split at h
  · rename_i x i id rr
    obtain ⟨t, n, q, h1, h2⟩ := arrK_ok h
    split at h2
    · exact Or.inr ⟨_, _, _, _, h2, fun lc G Q hp hE p e s m args below meth c C H locs ls hP hS hl => va_iast C.1 C.2.1 C.2.2.2.2.2.2.2.1 hP (World_D C.2.2.2.2.2.2.2.2 σ) hS id 1 (cell_arr h1 (by decide)) (tys_at G).2.1 hp hd (fun H1 locs1 hP1 _ hS1 => hE p e s m args below meth c C H1 locs1 ls (by rw [World_arr h1 (by decide)] at hP1; exact hP1) hS1 hl)⟩
    · cases h2
  · cases h
theorem sx_bastore {α : Type} {M : MR} {pc a1 a2 a3 : Nat} {l : LV} {st : List Value} {σ : St2} {k0 : LV → List Value → St2 → Option α} {k1 : Prop → LV → List Value → St2 → Option α} {r : α} (hd : decode M.2.1 pc = .ok (.bastore, 1)) (h : ex1 (pc, .bastore, a1, a2, a3) l st σ k0 k1 = some r) : Res M (pc, .bastore, a1, a2, a3) l st σ k0 k1 r := by
  dsimp only [ex1] at h
  split at h
  · rename_i x i id rr
    obtain ⟨t, n, q, h1, h2⟩ := arrK_ok h
    split at h2
    · exact Or.inr ⟨_, _, _, _, h2, fun lc G Q hp hE p e s m args below meth c C H locs ls hP hS hl => va_bast C.1 C.2.1 C.2.2.2.2.2.2.2.1 hP (World_D C.2.2.2.2.2.2.2.2 σ) hS id 0 (cell_arr h1 (by decide)) (tys_at G).1 hp hd (fun H1 locs1 hP1 _ hS1 => hE p e s m args below meth c C H1 locs1 ls (by rw [World_arr h1 (by decide), vp_nar_byte] at hP1; exact hP1) hS1 hl)⟩
    · exact Or.inr ⟨_, _, _, _, h2, fun lc G Q hp hE p e s m args below meth c C H locs ls hP hS hl => va_zast C.1 C.2.1 C.2.2.2.2.2.2.2.1 hP (World_D C.2.2.2.2.2.2.2.2 σ) hS id 2 (cell_arr h1 (by decide)) (tys_at G).2.2.1 hp hd (fun H1 locs1 hP1 _ hS1 => hE p e s m args below meth c C H1 locs1 ls (by rw [World_arr h1 (by decide)] at hP1; exact hP1) hS1 hl)⟩
    · cases h2
  · cases h
theorem sx_lastore {α : Type} {M : MR} {pc a1 a2 a3 : Nat} {l : LV} {st : List Value} {σ : St2} {k0 : LV → List Value → St2 → Option α} {k1 : Prop → LV → List Value → St2 → Option α} {r : α} (hd : decode M.2.1 pc = .ok (.lastore, 1)) (h : ex1 (pc, .lastore, a1, a2, a3) l st σ k0 k1 = some r) : Res M (pc, .lastore, a1, a2, a3) l st σ k0 k1 r := by
  dsimp only [ex1] at h
  split at h
  · rename_i x i id rr
    obtain ⟨t, n, q, h1, h2⟩ := arrK_ok h
    split at h2
    · exact Or.inr ⟨_, _, _, _, h2, fun lc G Q hp hE p e s m args below meth c C H locs ls hP hS hl => va_last C.1 C.2.1 C.2.2.2.2.2.2.2.1 hP (World_D C.2.2.2.2.2.2.2.2 σ) hS id 3 (cell_arrL h1) (tys_at G).2.2.2 hp hd (fun H1 locs1 hP1 _ hS1 => hE p e s m args below meth c C H1 locs1 ls (by rw [World_arrL h1] at hP1; exact hP1) hS1 hl)⟩
    · cases h2
  · cases h
theorem sx_arraylength {α : Type} {M : MR} {pc a1 a2 a3 : Nat} {l : LV} {st : List Value} {σ : St2} {k0 : LV → List Value → St2 → Option α} {k1 : Prop → LV → List Value → St2 → Option α} {r : α} (hd : decode M.2.1 pc = .ok (.arraylength, 1)) (h : ex1 (pc, .arraylength, a1, a2, a3) l st σ k0 k1 = some r) : Res M (pc, .arraylength, a1, a2, a3) l st σ k0 k1 r := by
  dsimp only [ex1] at h
  split at h
  · rename_i id rr
    obtain ⟨t, n, q, h1, h2⟩ := arrK_ok h
    obtain ⟨ht, -⟩ := lay_arr h1
    refine Or.inl ⟨_, _, _, h2, fun lc G Q hp hE p e s m args below meth c C H locs ls hP hS hl => ?_⟩
    have h9 := hE p e s m args below meth c C H locs ls hP hS hl
    rcases (show t = 0 ∨ t = 1 ∨ t = 2 ∨ t = 3 by omega) with rfl | rfl | rfl | rfl
    · exact va_alen C.1 C.2.1 C.2.2.2.2.2.2.2.1 hP id 0 (cell_arr h1 (by decide)) (tys_at G).1 rfl hd h9
    · exact va_alen C.1 C.2.1 C.2.2.2.2.2.2.2.1 hP id 1 (cell_arr h1 (by decide)) (tys_at G).2.1 rfl hd h9
    · exact va_alen C.1 C.2.1 C.2.2.2.2.2.2.2.1 hP id 2 (cell_arr h1 (by decide)) (tys_at G).2.2.1 rfl hd h9
    · exact va_alen C.1 C.2.1 C.2.2.2.2.2.2.2.1 hP id 3 (cell_arrL h1) (tys_at G).2.2.2 rfl hd h9
  · cases h
end
section
/-! ===== blocks, branches, calls, returns ===== -/
theorem ex1_ok {α : Type} {M : MR} {ri : RI} {l : LV} {st : List Value} {σ : St2} {k0 : LV → List Value → St2 → Option α} {k1 : Prop → LV → List Value → St2 → Option α} {r : α} (hc : chk1 M ri = true) (h : ex1 ri l st σ k0 k1 = some r) : Res M ri l st σ k0 k1 r := by
  obtain ⟨pc, ins, a1, a2, a3⟩ := ri
  unfold chk1 at hc
  simp only [Bool.and_eq_true, decide_eq_true_eq] at hc
  obtain ⟨hd, hk⟩ := hc
  cases ins
  case iconst => exact sx_iconst hd h
  case bipush => exact sx_bipush hd hk h
  case sipush => exact sx_sipush hd hk h
  case lconst => exact sx_lconst hd h
  case ldc => exact sx_ldc hd hk h
  case ldc2_w => exact sx_ldc2_w hd hk h
  case iload_n => exact sx_iload_n hd h
  case iload => exact sx_iload hd h
  case lload_n => exact sx_lload_n hd h
  case lload => exact sx_lload hd h
  case aload_n => exact sx_aload_n hd h
  case aload => exact sx_aload hd h
  case istore_n => exact sx_istore_n hd h
  case istore => exact sx_istore hd h
  case lstore_n => exact sx_lstore_n hd h
  case lstore => exact sx_lstore hd h
  case iinc => exact sx_iinc hd h
  case iadd => exact sx_iadd hd h
  case isub => exact sx_isub hd h
  case imul => exact sx_imul hd h
  case iand => exact sx_iand hd h
  case ior => exact sx_ior hd h
  case ishl => exact sx_ishl hd h
  case idiv => exact sx_idiv hd h
  case irem => exact sx_irem hd h
  case ladd => exact sx_ladd hd h
  case lsub => exact sx_lsub hd h
  case lmul => exact sx_lmul hd h
  case land => exact sx_land hd h
  case ldiv => exact sx_ldiv hd h
  case lushr => exact sx_lushr hd h
  case lshr => exact sx_lshr hd h
  case lcmp => exact sx_lcmp hd h
  case i2l => exact sx_i2l hd h
  case l2i => exact sx_l2i hd h
  case i2b => exact sx_i2b hd h
  case dup => exact sx_dup hd h
  case getfield => exact sx_getfield hd hk h
  case putfield => exact sx_putfield hd hk h
  case iaload => exact sx_iaload hd h
  case baload => exact sx_baload hd h
  case laload => exact sx_laload hd h
  case iastore => exact sx_iastore hd h
  case bastore => exact sx_bastore hd h
  case lastore => exact sx_lastore hd h
  case arraylength => exact sx_arraylength hd h
  all_goals exact absurd (show (none : Option α) = some r from h) (fun q => by cases q)
def exs : List RI → LV → List Value → St2 → Option (Prop × LV × List Value × St2)
  | [], l, st, σ => some (True, l, st, σ)
  | ri :: is, l, st, σ => ex1 ri l st σ (fun l st σ => exs is l st σ) (fun P l st σ => match exs is l st σ with
    | some (P', r) => some (P ∧ P', r)
    | none => none)
def seqOK (M : MR) : Nat → List RI → Nat → Bool
  | pc, [], e => Nat.beq pc e
  | pc, ri :: is, e => (Nat.beq ri.1 pc && chk1 M ri) && seqOK M (pc + lnI ri.2.1) is e
theorem exs_ok {M : MR} {is : List RI} {e pc : Nat} {l : LV} {st : List Value} {σ : St2} {P : Prop} {l' : LV} {st' : List Value} {σ' : St2} (hs : seqOK M pc is e = true) (h : exs is l st σ = some (P, l', st', σ')) : Nx M pc l st σ P e l' st' σ' := by
  induction is generalizing pc l st σ P with
  | nil =>
    have e1 : pc = e := Nat.eq_of_beq_eq_true hs
    subst e1
    cases h
    exact fun _ _ _ _ k => k
  | cons ri is ih =>
    simp only [seqOK, Bool.and_eq_true] at hs
    obtain ⟨⟨h1, h2⟩, h3⟩ := hs
    have e1 : ri.1 = pc := Nat.eq_of_beq_eq_true h1
    subst e1
    rcases ex1_ok h2 h with ⟨l1, s1, σ1, a, b⟩ | ⟨P1, l1, s1, σ1, a, b⟩
    · exact fun lc G Q hp k => b lc G Q trivial (ih h3 a lc G Q hp k)
    · dsimp only at a
      split at a
      · rename_i P' r hr
        cases a
        exact fun lc G Q hp k => b lc G Q hp.1 (ih h3 hr lc G Q hp.2 k)
      · cases a
/-- the last instruction of a block: decoded, with its ways -/
def tOK (M : MR) (t : RI) : Bool :=
  match t.2.1 with
  | .nop => true
  | .goto off => decide (decode M.2.1 t.1 = .ok (.goto off, 3)) && decide ((t.1 : Int) + off = (t.2.2.1 : Int))
  | .if_icmp c off => decide (decode M.2.1 t.1 = .ok (.if_icmp c off, 3)) && (decide ((t.1 : Int) + off = (t.2.2.1 : Int)) && Nat.beq t.2.2.2.1 (t.1 + 3))
  | .ifCond c off => decide (decode M.2.1 t.1 = .ok (.ifCond c off, 3)) && (decide ((t.1 : Int) + off = (t.2.2.1 : Int)) && Nat.beq t.2.2.2.1 (t.1 + 3))
  | .tableswitch d lo hi offs => decide (decode M.2.1 t.1 = .ok (.tableswitch d lo hi offs, t.2.2.1))
  | .lookupswitch d ps => decide (decode M.2.1 t.1 = .ok (.lookupswitch d ps, t.2.2.1)) && (ps.toList.zip (ps.toList.drop 1)).all (fun (a, next) => a.1 < next.1)
  | .invokevirtual i => decide (decode M.2.1 t.1 = .ok (.invokevirtual i, 3)) && Nat.beq t.2.2.2.1 (t.1 + 3)
  | .invokestatic i => decide (decode M.2.1 t.1 = .ok (.invokestatic i, 3)) && Nat.beq t.2.2.2.1 (t.1 + 3)
  | .ireturn => decide (decode M.2.1 t.1 = .ok (.ireturn, 1))
  | .lreturn => decide (decode M.2.1 t.1 = .ok (.lreturn, 1))
  | .return_ => decide (decode M.2.1 t.1 = .ok (.return_, 1))
  | _ => false
def bOK (M : MR) (b : BLK) : Bool := seqOK M b.1 b.2.1 b.2.2.1 && tOK M b.2.2
def blks (M : MR) : List BLK := M.2.2.2.2.2.2.1
def kOK (M : MR) : Bool := plainName M.1.cls && (decide (M.1.cls ≠ "java/lang/invoke/MethodHandle") && decide (M.1.cls ≠ "java/lang/invoke/VarHandle")) && decide ((parseMethodDescriptor M.1.desc).map (fun d => d.parameters.length) = some M.2.2.2.2.2.2.2.2.2.2.2) && decide (lw_tbl[M.2.2.2.2.2.2.2.1]? = some (Cond.code M.1 M.2.1 M.2.2.1 M.2.2.2.1)) && decide (lw_tbl[M.2.2.2.2.2.2.2.2.2.2.1]? = some (Cond.initialized M.1.cls))
def fnd : List BLK → Nat → Option (List RI × RI)
  | [], _ => none
  | (p, is, t) :: bs, pc => match Nat.beq p pc with
    | true => some (is, t)
    | false => fnd bs pc
/-- every block of M is what M's code says; M's own words stand in the tables -/
def MOK (M : MR) : Prop := (∀ b ∈ blks M, bOK M b = true) ∧ kOK M = true
theorem fnd_ok {M : MR} {pc : Nat} {is : List RI} {t : RI} (ok : MOK M) (h : fnd (blks M) pc = some (is, t)) : seqOK M pc is t.1 = true ∧ tOK M t = true := by
  have key : ∀ bs : List BLK, fnd bs pc = some (is, t) → (pc, is, t) ∈ bs := by
    intro bs
    induction bs with
    | nil => intro hq; cases hq
    | cons b bs ih =>
      obtain ⟨p, is', t'⟩ := b
      intro hq
      unfold fnd at hq
      split at hq
      · rename_i hb
        have e : p = pc := Nat.eq_of_beq_eq_true hb
        cases hq
        rw [e]
        exact List.mem_cons_self
      · exact List.mem_cons_of_mem _ (ih hq)
  have h1 := ok.1 _ (key _ h)
  simp only [bOK, Bool.and_eq_true] at h1
  exact h1
section EV
variable {lc : Launch} {G : GG} {M : MR} {pc : Nat} {l l' : LV} {st st' : List Value} {σ σ' : St2} {Q : Option Value → St2 → Prop} {is : List RI} {tp tgt nx a3 : Nat} {off : Int} {P : Prop}
theorem ev_pre {t : RI} (ok : MOK M) (hf : fnd (blks M) pc = some (is, t)) (hr : exs is l st σ = some (P, l', st', σ')) (hP : P) (k : Ev lc G M t.1 l' st' σ' Q) : Ev lc G M pc l st σ Q := exs_ok (fnd_ok ok hf).1 hr lc G Q hP k
theorem ev_nop {a1 a2 : Nat} (ok : MOK M) (hf : fnd (blks M) pc = some (is, (tp, .nop, a1, a2, a3))) (hr : exs is l st σ = some (P, l', st', σ')) (hP : P) (k : Ev lc G M tp l' st' σ' Q) : Ev lc G M pc l st σ Q := ev_pre ok hf hr hP k
theorem ev_goto (ok : MOK M) (hf : fnd (blks M) pc = some (is, (tp, .goto off, tgt, nx, a3))) (hr : exs is l st σ = some (P, l', st', σ')) (hP : P) (k : Ev lc G M tgt l' st' σ' Q) : Ev lc G M pc l st σ Q := by
  refine ev_pre ok hf hr hP fun p e s m args below meth c C H locs ls hP hS hl => ?_
  have h2 := (fnd_ok ok hf).2
  simp only [tOK, Bool.and_eq_true, decide_eq_true_eq] at h2
  exact lv_goto C.1 C.2.1 h2.1 h2.2 (k p e s m args below meth c C H locs ls hP hS hl)
theorem ev_if_eq {x : Int32} (ok : MOK M) (hf : fnd (blks M) pc = some (is, (tp, .ifCond .eq off, tgt, nx, a3))) (hr : exs is l st σ = some (P, l', .int x :: st', σ')) (hP : P) (kt : x = 0 → Ev lc G M tgt l' st' σ' Q) (kf : ¬ x = 0 → Ev lc G M nx l' st' σ' Q) : Ev lc G M pc l st σ Q := by
  refine ev_pre ok hf hr hP fun p e s m args below meth c C H locs ls hP hS hl => ?_
  have h2 := (fnd_ok ok hf).2
  simp only [tOK, Bool.and_eq_true, decide_eq_true_eq] at h2
  have e := Nat.eq_of_beq_eq_true h2.2.2
  subst e
  exact lv_if_eq C.1 C.2.1 h2.1 h2.2.1 (fun q => kt q p e s m args below meth c C H locs ls hP hS hl) (fun q => kf q p e s m args below meth c C H locs ls hP hS hl)
theorem ev_ic_eq {x y : Int32} (ok : MOK M) (hf : fnd (blks M) pc = some (is, (tp, .if_icmp .eq off, tgt, nx, a3))) (hr : exs is l st σ = some (P, l', .int y :: .int x :: st', σ')) (hP : P) (kt : x = y → Ev lc G M tgt l' st' σ' Q) (kf : ¬ x = y → Ev lc G M nx l' st' σ' Q) : Ev lc G M pc l st σ Q := by
  refine ev_pre ok hf hr hP fun p e s m args below meth c C H locs ls hP hS hl => ?_
  have h2 := (fnd_ok ok hf).2
  simp only [tOK, Bool.and_eq_true, decide_eq_true_eq] at h2
  have e := Nat.eq_of_beq_eq_true h2.2.2
  subst e
  exact lv_icmp_eq C.1 C.2.1 h2.1 h2.2.1 (fun q => kt q p e s m args below meth c C H locs ls hP hS hl) (fun q => kf q p e s m args below meth c C H locs ls hP hS hl)
theorem ev_if_ne {x : Int32} (ok : MOK M) (hf : fnd (blks M) pc = some (is, (tp, .ifCond .ne off, tgt, nx, a3))) (hr : exs is l st σ = some (P, l', .int x :: st', σ')) (hP : P) (kt : ¬ x = 0 → Ev lc G M tgt l' st' σ' Q) (kf : x = 0 → Ev lc G M nx l' st' σ' Q) : Ev lc G M pc l st σ Q := by
  refine ev_pre ok hf hr hP fun p e s m args below meth c C H locs ls hP hS hl => ?_
  have h2 := (fnd_ok ok hf).2
  simp only [tOK, Bool.and_eq_true, decide_eq_true_eq] at h2
  have e := Nat.eq_of_beq_eq_true h2.2.2
  subst e
  exact lv_if_ne C.1 C.2.1 h2.1 h2.2.1 (fun q => kt q p e s m args below meth c C H locs ls hP hS hl) (fun q => kf q p e s m args below meth c C H locs ls hP hS hl)
theorem ev_ic_ne {x y : Int32} (ok : MOK M) (hf : fnd (blks M) pc = some (is, (tp, .if_icmp .ne off, tgt, nx, a3))) (hr : exs is l st σ = some (P, l', .int y :: .int x :: st', σ')) (hP : P) (kt : ¬ x = y → Ev lc G M tgt l' st' σ' Q) (kf : x = y → Ev lc G M nx l' st' σ' Q) : Ev lc G M pc l st σ Q := by
  refine ev_pre ok hf hr hP fun p e s m args below meth c C H locs ls hP hS hl => ?_
  have h2 := (fnd_ok ok hf).2
  simp only [tOK, Bool.and_eq_true, decide_eq_true_eq] at h2
  have e := Nat.eq_of_beq_eq_true h2.2.2
  subst e
  exact lv_icmp_ne C.1 C.2.1 h2.1 h2.2.1 (fun q => kt q p e s m args below meth c C H locs ls hP hS hl) (fun q => kf q p e s m args below meth c C H locs ls hP hS hl)
theorem ev_if_lt {x : Int32} (ok : MOK M) (hf : fnd (blks M) pc = some (is, (tp, .ifCond .lt off, tgt, nx, a3))) (hr : exs is l st σ = some (P, l', .int x :: st', σ')) (hP : P) (kt : x < 0 → Ev lc G M tgt l' st' σ' Q) (kf : ¬ x < 0 → Ev lc G M nx l' st' σ' Q) : Ev lc G M pc l st σ Q := by
  refine ev_pre ok hf hr hP fun p e s m args below meth c C H locs ls hP hS hl => ?_
  have h2 := (fnd_ok ok hf).2
  simp only [tOK, Bool.and_eq_true, decide_eq_true_eq] at h2
  have e := Nat.eq_of_beq_eq_true h2.2.2
  subst e
  exact lv_if_lt C.1 C.2.1 h2.1 h2.2.1 (fun q => kt q p e s m args below meth c C H locs ls hP hS hl) (fun q => kf q p e s m args below meth c C H locs ls hP hS hl)
theorem ev_ic_lt {x y : Int32} (ok : MOK M) (hf : fnd (blks M) pc = some (is, (tp, .if_icmp .lt off, tgt, nx, a3))) (hr : exs is l st σ = some (P, l', .int y :: .int x :: st', σ')) (hP : P) (kt : x < y → Ev lc G M tgt l' st' σ' Q) (kf : ¬ x < y → Ev lc G M nx l' st' σ' Q) : Ev lc G M pc l st σ Q := by
  refine ev_pre ok hf hr hP fun p e s m args below meth c C H locs ls hP hS hl => ?_
  have h2 := (fnd_ok ok hf).2
  simp only [tOK, Bool.and_eq_true, decide_eq_true_eq] at h2
  have e := Nat.eq_of_beq_eq_true h2.2.2
  subst e
  exact lv_icmp_lt C.1 C.2.1 h2.1 h2.2.1 (fun q => kt q p e s m args below meth c C H locs ls hP hS hl) (fun q => kf q p e s m args below meth c C H locs ls hP hS hl)
theorem ev_if_ge {x : Int32} (ok : MOK M) (hf : fnd (blks M) pc = some (is, (tp, .ifCond .ge off, tgt, nx, a3))) (hr : exs is l st σ = some (P, l', .int x :: st', σ')) (hP : P) (kt : 0 ≤ x → Ev lc G M tgt l' st' σ' Q) (kf : ¬ 0 ≤ x → Ev lc G M nx l' st' σ' Q) : Ev lc G M pc l st σ Q := by
  refine ev_pre ok hf hr hP fun p e s m args below meth c C H locs ls hP hS hl => ?_
  have h2 := (fnd_ok ok hf).2
  simp only [tOK, Bool.and_eq_true, decide_eq_true_eq] at h2
  have e := Nat.eq_of_beq_eq_true h2.2.2
  subst e
  exact lv_if_ge C.1 C.2.1 h2.1 h2.2.1 (fun q => kt q p e s m args below meth c C H locs ls hP hS hl) (fun q => kf q p e s m args below meth c C H locs ls hP hS hl)
theorem ev_ic_ge {x y : Int32} (ok : MOK M) (hf : fnd (blks M) pc = some (is, (tp, .if_icmp .ge off, tgt, nx, a3))) (hr : exs is l st σ = some (P, l', .int y :: .int x :: st', σ')) (hP : P) (kt : y ≤ x → Ev lc G M tgt l' st' σ' Q) (kf : ¬ y ≤ x → Ev lc G M nx l' st' σ' Q) : Ev lc G M pc l st σ Q := by
  refine ev_pre ok hf hr hP fun p e s m args below meth c C H locs ls hP hS hl => ?_
  have h2 := (fnd_ok ok hf).2
  simp only [tOK, Bool.and_eq_true, decide_eq_true_eq] at h2
  have e := Nat.eq_of_beq_eq_true h2.2.2
  subst e
  exact lv_icmp_ge C.1 C.2.1 h2.1 h2.2.1 (fun q => kt q p e s m args below meth c C H locs ls hP hS hl) (fun q => kf q p e s m args below meth c C H locs ls hP hS hl)
theorem ev_if_gt {x : Int32} (ok : MOK M) (hf : fnd (blks M) pc = some (is, (tp, .ifCond .gt off, tgt, nx, a3))) (hr : exs is l st σ = some (P, l', .int x :: st', σ')) (hP : P) (kt : 0 < x → Ev lc G M tgt l' st' σ' Q) (kf : ¬ 0 < x → Ev lc G M nx l' st' σ' Q) : Ev lc G M pc l st σ Q := by
  refine ev_pre ok hf hr hP fun p e s m args below meth c C H locs ls hP hS hl => ?_
  have h2 := (fnd_ok ok hf).2
  simp only [tOK, Bool.and_eq_true, decide_eq_true_eq] at h2
  have e := Nat.eq_of_beq_eq_true h2.2.2
  subst e
  exact lv_if_gt C.1 C.2.1 h2.1 h2.2.1 (fun q => kt q p e s m args below meth c C H locs ls hP hS hl) (fun q => kf q p e s m args below meth c C H locs ls hP hS hl)
theorem ev_ic_gt {x y : Int32} (ok : MOK M) (hf : fnd (blks M) pc = some (is, (tp, .if_icmp .gt off, tgt, nx, a3))) (hr : exs is l st σ = some (P, l', .int y :: .int x :: st', σ')) (hP : P) (kt : y < x → Ev lc G M tgt l' st' σ' Q) (kf : ¬ y < x → Ev lc G M nx l' st' σ' Q) : Ev lc G M pc l st σ Q := by
  refine ev_pre ok hf hr hP fun p e s m args below meth c C H locs ls hP hS hl => ?_
  have h2 := (fnd_ok ok hf).2
  simp only [tOK, Bool.and_eq_true, decide_eq_true_eq] at h2
  have e := Nat.eq_of_beq_eq_true h2.2.2
  subst e
  exact lv_icmp_gt C.1 C.2.1 h2.1 h2.2.1 (fun q => kt q p e s m args below meth c C H locs ls hP hS hl) (fun q => kf q p e s m args below meth c C H locs ls hP hS hl)
theorem ev_if_le {x : Int32} (ok : MOK M) (hf : fnd (blks M) pc = some (is, (tp, .ifCond .le off, tgt, nx, a3))) (hr : exs is l st σ = some (P, l', .int x :: st', σ')) (hP : P) (kt : x ≤ 0 → Ev lc G M tgt l' st' σ' Q) (kf : ¬ x ≤ 0 → Ev lc G M nx l' st' σ' Q) : Ev lc G M pc l st σ Q := by
  refine ev_pre ok hf hr hP fun p e s m args below meth c C H locs ls hP hS hl => ?_
  have h2 := (fnd_ok ok hf).2
  simp only [tOK, Bool.and_eq_true, decide_eq_true_eq] at h2
  have e := Nat.eq_of_beq_eq_true h2.2.2
  subst e
  exact lv_if_le C.1 C.2.1 h2.1 h2.2.1 (fun q => kt q p e s m args below meth c C H locs ls hP hS hl) (fun q => kf q p e s m args below meth c C H locs ls hP hS hl)
theorem ev_ic_le {x y : Int32} (ok : MOK M) (hf : fnd (blks M) pc = some (is, (tp, .if_icmp .le off, tgt, nx, a3))) (hr : exs is l st σ = some (P, l', .int y :: .int x :: st', σ')) (hP : P) (kt : x ≤ y → Ev lc G M tgt l' st' σ' Q) (kf : ¬ x ≤ y → Ev lc G M nx l' st' σ' Q) : Ev lc G M pc l st σ Q := by
  refine ev_pre ok hf hr hP fun p e s m args below meth c C H locs ls hP hS hl => ?_
  have h2 := (fnd_ok ok hf).2
  simp only [tOK, Bool.and_eq_true, decide_eq_true_eq] at h2
  have e := Nat.eq_of_beq_eq_true h2.2.2
  subst e
  exact lv_icmp_le C.1 C.2.1 h2.1 h2.2.1 (fun q => kt q p e s m args below meth c C H locs ls hP hS hl) (fun q => kf q p e s m args below meth c C H locs ls hP hS hl)
theorem ev_tin {x : Int32} {d lo hi off : Int} {offs : Array Int} (tgt : Nat) (ok : MOK M) (hf : fnd (blks M) pc = some (is, (tp, .tableswitch d lo hi offs, nx, nx, a3))) (hr : exs is l st σ = some (P, l', .int x :: st', σ')) (hP : P) (h1 : ¬ x.toInt < lo) (h2 : ¬ hi < x.toInt) (ho : offs[(x.toInt - lo).toNat]? = some off) (ht : (tp : Int) + off = (tgt : Int)) (k : Ev lc G M tgt l' st' σ' Q) : Ev lc G M pc l st σ Q := by
  refine ev_pre ok hf hr hP fun p e s m args below meth c C H locs ls hP hS hl => ?_
  have h5 := (fnd_ok ok hf).2
  simp only [tOK, decide_eq_true_eq] at h5
  exact lv_tableIn C.1 C.2.1 h5 h1 h2 ho ht (k p e s m args below meth c C H locs ls hP hS hl)
theorem ev_tout {x : Int32} {d lo hi : Int} {offs : Array Int} (tgt : Nat) (ok : MOK M) (hf : fnd (blks M) pc = some (is, (tp, .tableswitch d lo hi offs, nx, nx, a3))) (hr : exs is l st σ = some (P, l', .int x :: st', σ')) (hP : P) (h1 : x.toInt < lo ∨ hi < x.toInt) (ht : (tp : Int) + d = (tgt : Int)) (k : Ev lc G M tgt l' st' σ' Q) : Ev lc G M pc l st σ Q := by
  refine ev_pre ok hf hr hP fun p e s m args below meth c C H locs ls hP hS hl => ?_
  have h5 := (fnd_ok ok hf).2
  simp only [tOK, decide_eq_true_eq] at h5
  exact lv_tableOut C.1 C.2.1 h5 h1 ht (k p e s m args below meth c C H locs ls hP hS hl)
theorem ev_look {x : Int32} {d off : Int} {ps : Array (Int × Int)} (tgt : Nat) (ok : MOK M) (hf : fnd (blks M) pc = some (is, (tp, .lookupswitch d ps, nx, nx, a3))) (hr : exs is l st σ = some (P, l', .int x :: st', σ')) (hP : P) (ho : Op.lookupswitch.offset ps.toList d x.toInt = off) (ht : (tp : Int) + off = (tgt : Int)) (k : Ev lc G M tgt l' st' σ' Q) : Ev lc G M pc l st σ Q := by
  refine ev_pre ok hf hr hP fun p e s m args below meth c C H locs ls hP hS hl => ?_
  have h5 := (fnd_ok ok hf).2
  simp only [tOK, Bool.and_eq_true, decide_eq_true_eq] at h5
  exact lv_lookup C.1 C.2.1 h5.1 h5.2 ho ht (k p e s m args below meth c C H locs ls hP hS hl)
theorem ev_ri {x : Int32} {a1 a2 : Nat} (ok : MOK M) (hf : fnd (blks M) pc = some (is, (tp, .ireturn, a1, a2, a3))) (hr : exs is l st σ = some (P, l', [.int x], σ')) (hP : P) (hret : M.2.2.2.1 = some .int) (k : Q (some (.int x)) σ') : Ev lc G M pc l st σ Q := by
  refine ev_pre ok hf hr hP fun p e s m args below meth c C H locs ls hP hS hl => ?_
  have h2 := (fnd_ok ok hf).2
  simp only [tOK, decide_eq_true_eq] at h2
  exact W.iret (v := x) C.1 C.2.1 (C.2.2.1.trans hret) (fun t ht _ => ⟨⟨some (.int x), σ', rfl, k, by rw [ht]; exact hP⟩, hS.F ht⟩) hS.2.2 h2 C.2.2.2.2.2.2.1
theorem ev_rz {x : Int32} {a1 a2 : Nat} (ok : MOK M) (hf : fnd (blks M) pc = some (is, (tp, .ireturn, a1, a2, a3))) (hr : exs is l st σ = some (P, l', [.int x], σ')) (hP : P) (hret : M.2.2.2.1 = some .boolean) (hx : x = 0 ∨ x = 1) (k : Q (some (.int x)) σ') : Ev lc G M pc l st σ Q := by
  refine ev_pre ok hf hr hP fun p e s m args below meth c C H locs ls hP hS hl => ?_
  have h2 := (fnd_ok ok hf).2
  simp only [tOK, decide_eq_true_eq] at h2
  exact W.zret (v := x) C.1 C.2.1 (C.2.2.1.trans hret) (by rcases hx with rfl | rfl <;> rfl) (fun t ht _ => ⟨⟨some (.int x), σ', rfl, k, by rw [ht]; exact hP⟩, hS.F ht⟩) hS.2.2 h2 C.2.2.2.2.2.2.1
theorem ev_rl {x : Int64} {a1 a2 : Nat} (ok : MOK M) (hf : fnd (blks M) pc = some (is, (tp, .lreturn, a1, a2, a3))) (hr : exs is l st σ = some (P, l', [.long x], σ')) (hP : P) (hret : M.2.2.2.1 = some .long) (k : Q (some (.long x)) σ') : Ev lc G M pc l st σ Q := by
  refine ev_pre ok hf hr hP fun p e s m args below meth c C H locs ls hP hS hl => ?_
  have h2 := (fnd_ok ok hf).2
  simp only [tOK, decide_eq_true_eq] at h2
  exact W.lret (v := x) C.1 C.2.1 (C.2.2.1.trans hret) (fun t ht _ => ⟨⟨some (.long x), σ', rfl, k, by rw [ht]; exact hP⟩, hS.F ht⟩) hS.2.2 h2 C.2.2.2.2.2.2.1
theorem ev_rv {a1 a2 : Nat} (ok : MOK M) (hf : fnd (blks M) pc = some (is, (tp, .return_, a1, a2, a3))) (hr : exs is l st σ = some (P, l', [], σ')) (hP : P) (hret : M.2.2.2.1 = none) (k : Q none σ') : Ev lc G M pc l st σ Q := by
  refine ev_pre ok hf hr hP fun p e s m args below meth c C H locs ls hP hS hl => ?_
  have h2 := (fnd_ok ok hf).2
  simp only [tOK, decide_eq_true_eq] at h2
  exact W.vret C.1 C.2.1 (C.2.2.1.trans hret) (fun t ht _ => ⟨⟨none, σ', rfl, k, by rw [ht]; exact hP⟩, hS.F ht⟩) hS.2.2 h2 C.2.2.2.2.2.2.1
theorem ev_mono {Q' : Option Value → St2 → Prop} (h : Ev lc G M pc l st σ Q) (hq : ∀ v σ, Q v σ → Q' v σ) : Ev lc G M pc l st σ Q' := by
  intro p e s m args below meth c C H locs ls hP hS hl T hT X
  obtain ⟨t, h1, o, h2, h3, ⟨⟨v, σ1, a, b, d⟩, h5⟩, h6⟩ := h p e s m args below meth c C H locs ls hP hS hl T hT X
  exact ⟨t, h1, o, h2, h3, ⟨⟨v, σ1, a, hq v σ1 b, d⟩, h5⟩, h6⟩
def lvLe : LV → LV → Prop
  | [], [] => True
  | _ :: l, none :: l' => lvLe l l'
  | a :: l, some v :: l' => a = some v ∧ lvLe l l'
  | _, _ => False
theorem lvLe_nth : ∀ {l l' : LV}, lvLe l l' → l.length = l'.length ∧ ∀ j v, nth l' j = some v → nth l j = some v
  | [], [], _ => ⟨rfl, fun _ _ h => h⟩
  | [], _ :: _, h => h.elim
  | _ :: _, [], h => h.elim
  | a :: l, none :: l', h => by
    obtain ⟨h1, h2⟩ := lvLe_nth (l := l) (l' := l') h
    refine ⟨by simp [h1], fun j v hj => ?_⟩
    cases j with
    | zero => cases hj
    | succ j => exact h2 j v hj
  | a :: l, some w :: l', h => by
    obtain ⟨h1, h2⟩ := lvLe_nth (l := l) (l' := l') h.2
    refine ⟨by simp [h1], fun j v hj => ?_⟩
    cases j with
    | zero => exact h.1.trans hj
    | succ j => exact h2 j v hj
/-- fewer locals are known -/
theorem ev_lv (l' : LV) (hl : lvLe l l') (h : Ev lc G M pc l' st σ Q) : Ev lc G M pc l st σ Q := by
  obtain ⟨h1, h2⟩ := lvLe_nth hl
  intro p e s m args below meth c C H locs ls hP hS hv
  refine h p e s m args below meth c C H locs ls hP hS ⟨lv_mono hv.1 fun q hq => ?_, by omega⟩
  obtain ⟨v, q1, q2⟩ := lvl_mem.mp hq
  exact lvl_mem.mpr ⟨v, h2 _ _ q1, q2⟩
/-- the locals with which a method begins -/
def ent : Nat → List Value → LV
  | n, [] => List.replicate n none
  | 0, _ :: _ => []
  | n + 1, v :: vs => match v.category with
    | 2 => match n with
      | 0 => []
      | n + 1 => some v :: none :: ent n vs
    | _ => some v :: ent n vs
def psh : Option Value → List Value → List Value
  | none, r => r
  | some v, r => v :: r
def cats : List Value → Nat
  | [] => 0
  | v :: r => v.category + cats r
/-- the arguments of a call, off the stack -/
def spl : Nat → List Value → List Value → Option (List Value × List Value)
  | 0, st, acc => some (acc, st)
  | _ + 1, [], _ => none
  | n + 1, v :: st, acc => spl n st (v :: acc)
end EV
end
section
/-! ===== calls ===== -/
def slw : List Value → Nat
  | [] => 0
  | v :: vs => v.category + slw vs
theorem slw_eq (G : GG) (vs : List Value) : (lg_sl (vs.map (cv G))).length = slw vs := by
  induction vs with
  | nil => rfl
  | cons v vs ih =>
    have e : lg_sl ((v :: vs).map (cv G)) = (if (cv G v).category = 2 then [.val (cv G v), .second] else [.val (cv G v)]) ++ lg_sl (vs.map (cv G)) := by simp [lg_sl]
    rw [e, List.length_append, ih, cv_cat, slw]
    rcases lv_cat v with h | h <;> simp [h]
theorem cats_eq (G : GG) (vs : List Value) : ((vs.map (cv G)).map fun v => v.category).sum = cats vs := by
  induction vs with
  | nil => rfl
  | cons v vs ih =>
    simp only [List.map_cons, List.sum_cons, cats, cv_cat]
    rw [ih]
theorem ent_1 {n : Nat} {v : Value} {vs : List Value} (h : v.category = 1) : ent (n + 1) (v :: vs) = some v :: ent n vs := by
  cases v <;> first | rfl | (simp [Value.category] at h)
theorem ent_2 {n : Nat} {v : Value} {vs : List Value} (h : v.category = 2) : ent (n + 2) (v :: vs) = some v :: none :: ent n vs := by
  cases v <;> first | rfl | (simp [Value.category] at h)
theorem ent_len {vs : List Value} {n : Nat} (h : slw vs ≤ n) : (ent n vs).length = n := by
  induction vs generalizing n with
  | nil => simp [ent]
  | cons v vs ih =>
    rw [slw] at h
    cases n with
    | zero => rcases lv_cat v with q | q <;> omega
    | succ n =>
      rcases lv_cat v with q | q
      · rw [ent_1 q, List.length_cons, ih (by omega)]
      · cases n with
        | zero => omega
        | succ n =>
          rw [ent_2 q, List.length_cons, List.length_cons, ih (by omega)]
theorem nth_rep (n j : Nat) : nth (List.replicate n none) j = none := by
  induction n generalizing j with
  | zero => rfl
  | succ n ih => cases j with
    | zero => rfl
    | succ j => exact ih j
theorem ent_args (G : GG) {vs : List Value} {n j k : Nat} {v : Value} (h : slw vs ≤ n) (hn : nth (ent n vs) j = some v) : (k + j, cv G v) ∈ lv_args k (vs.map (cv G)) := by
  induction vs generalizing n j k with
  | nil => rw [ent, nth_rep] at hn; cases hn
  | cons w vs ih =>
    rw [slw] at h
    rw [List.map_cons, lv_args, cv_cat]
    cases n with
    | zero => rcases lv_cat w with q | q <;> omega
    | succ n =>
      rcases lv_cat w with q | q
      · rw [ent_1 q] at hn
        cases j with
        | zero => cases hn; exact List.mem_cons_self
        | succ j =>
          refine List.mem_cons_of_mem _ ?_
          rw [if_neg (by omega)]
          have := ih (k := k + 1) (by omega : slw vs ≤ n) hn
          rwa [show k + 1 + j = k + (j + 1) by omega] at this
      · cases n with
        | zero => omega
        | succ n =>
          rw [ent_2 q] at hn
          match j, hn with
          | 0, hn => cases hn; exact List.mem_cons_self
          | 1, hn => cases hn
          | j + 2, hn =>
            refine List.mem_cons_of_mem _ ?_
            rw [if_pos q]
            have := ih (k := k + 2) (by omega : slw vs ≤ n) hn
            rwa [show k + 2 + j = k + (j + 2) by omega] at this
theorem spl_ok {n : Nat} {st acc A rest : List Value} (h : spl n st acc = some (A, rest)) : ∃ B : List Value, A = B.reverse ++ acc ∧ st = B ++ rest ∧ B.length = n := by
  induction n generalizing st acc with
  | zero => cases h; exact ⟨[], rfl, rfl, rfl⟩
  | succ n ih =>
    cases st with
    | nil => cases h
    | cons v st =>
      obtain ⟨B, h1, h2, h3⟩ := ih h
      exact ⟨v :: B, by simp [h1], by simp [h2], by simp [h3]⟩
/-- what holds of the world when a method of the system is called -/
def Wd (G : GG) (σ : St2) (U : State) : Prop := va_P G.1 CLS (World G σ) U.heap ∧ va_K G.1 CLS (tysG G) U ∧ ∀ i j, i < lay.length → j < lay.length → G.2.2 i = G.2.2 j → i = j
abbrev wsM (M : MR) : List Cond := Cond.code M.1 M.2.1 M.2.2.1 M.2.2.2.1 :: GT
theorem kOK_all {M : MR} (ok : MOK M) : plainName M.1.cls = true ∧ (M.1.cls ≠ "java/lang/invoke/MethodHandle" ∧ M.1.cls ≠ "java/lang/invoke/VarHandle") ∧ (parseMethodDescriptor M.1.desc).map (fun d => d.parameters.length) = some M.2.2.2.2.2.2.2.2.2.2.2 ∧ Cond.code M.1 M.2.1 M.2.2.1 M.2.2.2.1 ∈ GT ∧ Cond.initialized M.1.cls ∈ GT := by
  have h := ok.2
  simp only [kOK, Bool.and_eq_true, decide_eq_true_eq] at h
  obtain ⟨⟨⟨⟨h1, h2⟩, h3⟩, h4⟩, h5⟩ := h
  exact ⟨h1, h2, h3, GT_at h4 rfl, GT_at h5 rfl⟩
theorem met_of_ev {lc : Launch} {G : GG} {M : MR} {As : List Value} {σ : St2} {Q : Option Value → St2 → Prop} (ok : MOK M) (he : slw As ≤ M.2.2.1) (h : Ev lc G M 0 (ent M.2.2.1 As) [] σ Q) : Met lc M.1 (wsM M) (rmM M) (va_Pc (As.map (cv G)) (Wd G σ)) (QQ G Q) 0 0 (Aad G) := by
  refine Met.ofW (cc := M.2.1) (maxL := M.2.2.1) (ret := M.2.2.2.1) (kOK_all ok).1 rfl ?_
  intro p e s m args below meth c s₁ B hml hv
  obtain ⟨rfl, hP, hK, hA⟩ := hv
  have hts := atoms_spec (ws := wsM M) B.pre
  have C : Cx G M p s m (As.map (cv G)).toArray meth c := ⟨B.exec, B.bytes, B.returns, hml, findClass_of_methodNamed B.named, fun w hw => hts w (List.mem_cons_of_mem _ hw), B.notSynchronized, hK, hA⟩
  have hl := lv_entry (As.map (cv G)) (n := M.2.2.1) (by rw [slw_eq]; exact he)
  rw [lg_entry_eq]
  refine h p e s m _ below meth c C s.heap [] _ hP va_S.rf ⟨lv_mono hl fun q hq => ?_, ent_len he⟩
  obtain ⟨v, q1, q2⟩ := lvl_mem.mp hq
  have := ent_args G (k := 0) he q1
  rw [Nat.zero_add, ← q2] at this
  exact this
theorem goodM {M : MR} (ok : MOK M) : GoodIn GT (wsM M) := by
  intro w hw
  rcases List.mem_cons.mp hw with rfl | h
  · exact ⟨(kOK_all ok).2.2.2.1, GT_good (kOK_all ok).2.2.2.1⟩
  · exact ⟨h, GT_good h⟩
theorem Wd_blind (G : GG) (σ : St2) (av : List Value) : FrameBlind (va_Pc av (Wd G σ)) := fun a U g mk q => by
  obtain ⟨q0, q1, q2, q3⟩ := q
  exact ⟨q0, q1, va_K.moved (u := U) (U := U.calling g mk a) (Vm.Alike.refl U.vm) q2, q3⟩
def npar (M : MR) : Nat := M.2.2.2.2.2.2.2.2.2.2.2
/-- the room and the link of a call -/
def rmOK (M M' : MR) (idx a3 : Nat) : Bool := decide (lw_tbl[a3]? = some (Cond.methodLink M.1.cls idx M'.1)) && (Nat.ble (M'.2.2.2.2.1 + 1) M.2.2.2.2.1 && Nat.ble (8 + (M'.2.2.1 + 11) + M'.2.2.2.2.2.1) M.2.2.2.2.2.1)
def lkV (M M' : MR) (idx a3 id : Nat) : Bool := rmOK M M' idx a3 && (decide (lw_tbl[M'.2.2.2.2.2.2.2.2.1]? = some (Cond.instanceMethod M'.1)) && (decide (lw_tbl[M'.2.2.2.2.2.2.2.2.2.1]? = some (Cond.selects M'.1.cls M'.1 M'.1)) && (match lay[id]? with
  | some (.inl (ci, _)) => match CLS[ci]? with
    | some (C, _, _) => decide (C = M'.1.cls)
    | none => false
  | _ => false)))
def lkS (M M' : MR) (idx a3 : Nat) : Bool := rmOK M M' idx a3 && decide (lw_tbl[M'.2.2.2.2.2.2.2.2.1]? = some (Cond.static M'.1))
theorem rmOK_ok {M M' : MR} {idx a3 : Nat} (h : rmOK M M' idx a3 = true) : Cond.methodLink M.1.cls idx M'.1 ∈ GT ∧ (rmM M').frames + 1 ≤ (rmM M).frames ∧ 8 + (M'.2.2.1 + 11) + (rmM M').locals ≤ (rmM M).locals := by
  simp only [rmOK, Bool.and_eq_true, decide_eq_true_eq] at h
  exact ⟨GT_at h.1 rfl, Nat.le_of_ble_eq_true h.2.1, Nat.le_of_ble_eq_true h.2.2⟩
section EVC
variable {lc : Launch} {G : GG} {M M' : MR} {pc : Nat} {l l' : LV} {st st' : List Value} {σ σ' : St2} {Q : Option Value → St2 → Prop} {is : List RI} {tp tgt nx a1 a3 idx : Nat} {P : Prop} {As rest : List Value}
theorem ev_back {p : Program} {e : Env} {s : State} {m : MethodId} {args : Array Value} {below : List Frame} {meth : Method} {c : Code} {H : Heap} {locs : List Loc} {ls : Array Slot} {st0 : List Value} {a : Array Value} {l : LV}
    (C : Cx G M p s m args meth c) (hS : va_S (Aad G) s.heap H locs) (hl : lv_has ls M.2.2.1 (lvl G l) ∧ l.length = M.2.2.1) (hn : nx = pc + 3)
    (hr : va_Run p lc e (rmM M) s m args below meth c H locs 0 0 0 0 (F0 m pc ls st0) (rest.map (cv G)) (QQ G (fun v τ => Ev lc G M nx l (psh v rest) τ Q) a) (Aad G)) :
    W p lc e (rmM M) s m args below meth c H locs 0 0 (MQ below (QQ G Q) args s 0 0 (Aad G)) (F0 m pc ls st0) := by
  intro T hT X
  obtain ⟨v, st₀, t, T', L, h0, X', hL, e1, e2, ⟨⟨v', τ, hv, hk, hPt⟩, hz, hkk⟩, hst⟩ := hr T hT X
  cases hv
  rw [h0] at hz hkk
  subst hn
  have hS' : va_S (Aad G) s.heap T'.heap (locs ++ L) := ⟨Nat.le_trans hS.1 (by rw [e1]; exact hz), fun q h1 h2 => by rw [e1, hkk q (Nat.lt_of_lt_of_le h1 hS.1) h2]; exact hS.2.1 q h1 h2, fun q hq => by
    rcases List.mem_append.mp hq with h | h
    · exact hS.2.2 q h
    · exact hL q h⟩
  obtain ⟨t2, a1, b1⟩ := hk p e s m args below meth c C T'.heap (locs ++ L) ls (by rw [e1]; exact hPt) hS' hl T' rfl X'
  refine ⟨t2, hst t2 ?_, b1⟩
  have e3 : (psh v' rest).map (cv G) = (v'.map (cv G)).toList ++ rest.map (cv G) := by cases v' <;> rfl
  rw [e3] at a1
  exact a1
theorem ev_cv {id : Nat} (ok : MOK M) (ok' : MOK M') (hf : fnd (blks M) pc = some (is, (tp, .invokevirtual idx, a1, nx, a3))) (hr : exs is l st σ = some (P, l', st', σ')) (hP : P) (hs : spl (npar M' + 1) st' [] = some (.ref id :: As, rest)) (hlk : lkV M M' idx a3 id = true) (hw : Nat.ble (cats rest) 8 = true) (he : Nat.ble (slw (.ref id :: As)) M'.2.2.1 = true)
    (k : Ev lc G M' 0 (ent M'.2.2.1 (.ref id :: As)) [] σ' (fun v τ => Ev lc G M nx l' (psh v rest) τ Q)) : Ev lc G M pc l st σ Q := by
  refine ev_pre ok hf hr hP fun p e s m args below meth c C H locs ls hP hS hl => ?_
  have h2 := (fnd_ok ok hf).2
  simp only [tOK, Bool.and_eq_true, decide_eq_true_eq] at h2
  have hn := Nat.eq_of_beq_eq_true h2.2
  simp only [lkV, Bool.and_eq_true, decide_eq_true_eq] at hlk
  obtain ⟨hroom, hinst, hsel, hrec⟩ := hlk
  obtain ⟨hlink, hfr, hlo⟩ := rmOK_ok hroom
  obtain ⟨hpl, hmh, hdesc, hcode, hini⟩ := kOK_all ok'
  obtain ⟨B, b1, b2, b3⟩ := spl_ok hs
  have hB : B = As.reverse ++ [.ref id] := by
    have := congrArg List.reverse b1
    simpa using this.symm
  have hlen : As.length = npar M' := by
    have := congrArg List.length hB
    simp at this
    omega
  have hts := C.2.2.2.2.2.1
  have hK := C.2.2.2.2.2.2.2.1
  have hrv : ∃ ci fks T N, lay[id]? = some (.inl (ci, fks)) ∧ CLS[ci]? = some (M'.1.cls, T, N) := by
    split at hrec
    · rename_i ci fks h1
      split at hrec
      · rename_i C0 T N h3
        simp only [decide_eq_true_eq] at hrec
        exact ⟨ci, fks, T, N, h1, by rw [h3, hrec]⟩
      · cases hrec
    · cases hrec
  obtain ⟨ci, fks, T, N, hl1, hc1⟩ := hrv
  refine ev_back C hS hl hn (va_runV (Ts := GT) (own := M.1.cls) (C := M'.1.cls) (As := As.map (cv G)) (n := npar M') (b := G.2.2 id) ⟨C.1, C.2.1, C.2.2.2.1, C.2.2.2.2.1, hts⟩ (met_of_ev ok' (Nat.le_of_ble_eq_true he) k) ⟨callB_of (npar M') hts (goodM ok') rfl rfl rfl (hts _ hini) (hts _ hlink) ⟨hmh.1, hmh.2, hdesc⟩ ⟨hfr, hlo⟩, hts _ (GT_at hinst rfl), hts _ (GT_at hsel rfl)⟩
    ⟨Wd_blind G σ' _, va_recv hK hP hc1 (cell_obj hl1), fun U hU hW => ⟨rfl, by rw [hU]; exact hP, va_K.moved hW.alike hK, C.2.2.2.2.2.2.2.2⟩⟩ rfl (by simp [hlen]) hl.1.1 ?_ (lv_room (by rw [cats_eq]; exact Nat.le_of_ble_eq_true hw)) h2.1 ⟨Nat.le_refl _, Nat.le_refl _⟩)
  rw [b2, hB]
  simp [cv]
theorem ev_cs (ok : MOK M) (ok' : MOK M') (hf : fnd (blks M) pc = some (is, (tp, .invokestatic idx, a1, nx, a3))) (hr : exs is l st σ = some (P, l', st', σ')) (hP : P) (hs : spl (npar M') st' [] = some (As, rest)) (hlk : lkS M M' idx a3 = true) (hw : Nat.ble (cats rest) 8 = true) (he : Nat.ble (slw As) M'.2.2.1 = true)
    (k : Ev lc G M' 0 (ent M'.2.2.1 As) [] σ' (fun v τ => Ev lc G M nx l' (psh v rest) τ Q)) : Ev lc G M pc l st σ Q := by
  refine ev_pre ok hf hr hP fun p e s m args below meth c C H locs ls hP hS hl => ?_
  have h2 := (fnd_ok ok hf).2
  simp only [tOK, Bool.and_eq_true, decide_eq_true_eq] at h2
  have hn := Nat.eq_of_beq_eq_true h2.2
  simp only [lkS, Bool.and_eq_true, decide_eq_true_eq] at hlk
  obtain ⟨hroom, hstat⟩ := hlk
  obtain ⟨hlink, hfr, hlo⟩ := rmOK_ok hroom
  obtain ⟨hpl, hmh, hdesc, hcode, hini⟩ := kOK_all ok'
  obtain ⟨B, b1, b2, b3⟩ := spl_ok hs
  have hB : B = As.reverse := by
    have := congrArg List.reverse b1
    simpa using this.symm
  have hlen : As.length = npar M' := by
    have := congrArg List.length hB
    simp at this
    omega
  have hts := C.2.2.2.2.2.1
  have hK := C.2.2.2.2.2.2.2.1
  refine ev_back C hS hl hn (va_runS (Ts := GT) (own := M.1.cls) (As := As.map (cv G)) (n := npar M') ⟨C.1, C.2.1, C.2.2.2.1, C.2.2.2.2.1, hts⟩ (met_of_ev ok' (Nat.le_of_ble_eq_true he) k) ⟨callB_of (npar M') hts (goodM ok') rfl rfl rfl (hts _ hini) (hts _ hlink) ⟨hmh.1, hmh.2, hdesc⟩ ⟨hfr, hlo⟩, hts _ (GT_at hstat rfl)⟩
    ⟨Wd_blind G σ' _, fun U hU hW => ⟨rfl, by rw [hU]; exact hP, va_K.moved hW.alike hK, C.2.2.2.2.2.2.2.2⟩⟩ rfl (by simp [hlen]) hl.1.1 ?_ (lv_room (by rw [cats_eq]; exact Nat.le_of_ble_eq_true hw)) h2.1 ⟨Nat.le_refl _, Nat.le_refl _⟩)
  rw [b2, hB]
  simp
end EVC
end
