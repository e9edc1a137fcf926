section
-- ===== PART A: goes FIRST, ahead of the names: the tables' words, and 'selects' of the private methods out of them =====
/-- a private method of a class that the tables say can be made, by its rows of tables_1 -/
def lw_okq (q : MethodName × Nat) : Prop := (q.1.cls ≠ "java/lang/invoke/MethodHandle" ∧ q.1.cls ≠ "java/lang/invoke/VarHandle") ∧ Cond.instantiable q.1.cls q.2 ∈ tables_1 ∧ Cond.privateMethod q.1 ∈ tables_1 ∧ Cond.instanceMethod q.1 ∈ tables_1
theorem lw_p0 : lw_okq (⟨"PageFormatter$Command", "readNumber", "(LPageFormatter$Text;)V"⟩, 5) := ⟨⟨by decide +kernel, by decide +kernel⟩, List.mem_of_getElem? (i := 39) (by decide +kernel), List.mem_of_getElem? (i := 285) (by decide +kernel), List.mem_of_getElem? (i := 286) (by decide +kernel)⟩
theorem lw_p1 : lw_okq (⟨"PageFormatter", "breaksFirst", "()Z"⟩, 8) := ⟨⟨by decide +kernel, by decide +kernel⟩, List.mem_of_getElem? (i := 12) (by decide +kernel), List.mem_of_getElem? (i := 292) (by decide +kernel), List.mem_of_getElem? (i := 293) (by decide +kernel)⟩
theorem lw_p2 : lw_okq (⟨"PageFormatter", "breakParagraph", "()V"⟩, 8) := ⟨⟨by decide +kernel, by decide +kernel⟩, List.mem_of_getElem? (i := 12) (by decide +kernel), List.mem_of_getElem? (i := 300) (by decide +kernel), List.mem_of_getElem? (i := 301) (by decide +kernel)⟩
theorem lw_p3 : lw_okq (⟨"PageFormatter$Parting", "weighLinesFrom", "(LPageFormatter$Paragraph;II)V"⟩, 8) := ⟨⟨by decide +kernel, by decide +kernel⟩, List.mem_of_getElem? (i := 199) (by decide +kernel), List.mem_of_getElem? (i := 311) (by decide +kernel), List.mem_of_getElem? (i := 312) (by decide +kernel)⟩
theorem lw_p4 : lw_okq (⟨"PageFormatter$Parting", "roomFrom", "(I)I"⟩, 8) := ⟨⟨by decide +kernel, by decide +kernel⟩, List.mem_of_getElem? (i := 199) (by decide +kernel), List.mem_of_getElem? (i := 315) (by decide +kernel), List.mem_of_getElem? (i := 316) (by decide +kernel)⟩
theorem lw_p5 : lw_okq (⟨"PageFormatter$Parting", "keepIfLess", "(IIJ)V"⟩, 8) := ⟨⟨by decide +kernel, by decide +kernel⟩, List.mem_of_getElem? (i := 199) (by decide +kernel), List.mem_of_getElem? (i := 353) (by decide +kernel), List.mem_of_getElem? (i := 354) (by decide +kernel)⟩
theorem lw_p6 : lw_okq (⟨"PageFormatter$Parting", "recordLine", "(LPageFormatter$Paragraph;IIZ)V"⟩, 8) := ⟨⟨by decide +kernel, by decide +kernel⟩, List.mem_of_getElem? (i := 199) (by decide +kernel), List.mem_of_getElem? (i := 361) (by decide +kernel), List.mem_of_getElem? (i := 362) (by decide +kernel)⟩
theorem lw_p7 : lw_okq (⟨"PageFormatter$Pages", "bottom", "()I"⟩, 8) := ⟨⟨by decide +kernel, by decide +kernel⟩, List.mem_of_getElem? (i := 128) (by decide +kernel), List.mem_of_getElem? (i := 377) (by decide +kernel), List.mem_of_getElem? (i := 378) (by decide +kernel)⟩
theorem lw_p8 : lw_okq (⟨"PageFormatter$Pages", "begin", "()V"⟩, 8) := ⟨⟨by decide +kernel, by decide +kernel⟩, List.mem_of_getElem? (i := 128) (by decide +kernel), List.mem_of_getElem? (i := 381) (by decide +kernel), List.mem_of_getElem? (i := 382) (by decide +kernel)⟩
theorem lw_p9 : lw_okq (⟨"PageFormatter$Paragraph", "writePiece", "(LPageFormatter$Output;I)V"⟩, 7) := ⟨⟨by decide +kernel, by decide +kernel⟩, List.mem_of_getElem? (i := 167) (by decide +kernel), List.mem_of_getElem? (i := 408) (by decide +kernel), List.mem_of_getElem? (i := 409) (by decide +kernel)⟩
theorem lw_p10 : lw_okq (⟨"PageFormatter$Pages", "goDown", "(I)V"⟩, 8) := ⟨⟨by decide +kernel, by decide +kernel⟩, List.mem_of_getElem? (i := 128) (by decide +kernel), List.mem_of_getElem? (i := 425) (by decide +kernel), List.mem_of_getElem? (i := 426) (by decide +kernel)⟩
theorem lw_p11 : lw_okq (⟨"PageFormatter", "obey", "()V"⟩, 8) := ⟨⟨by decide +kernel, by decide +kernel⟩, List.mem_of_getElem? (i := 12) (by decide +kernel), List.mem_of_getElem? (i := 433) (by decide +kernel), List.mem_of_getElem? (i := 434) (by decide +kernel)⟩
theorem lw_p12 : lw_okq (⟨"PageFormatter", "setIndent", "()V"⟩, 8) := ⟨⟨by decide +kernel, by decide +kernel⟩, List.mem_of_getElem? (i := 12) (by decide +kernel), List.mem_of_getElem? (i := 443) (by decide +kernel), List.mem_of_getElem? (i := 444) (by decide +kernel)⟩
theorem lw_p13 : lw_okq (⟨"PageFormatter", "beginPage", "()V"⟩, 8) := ⟨⟨by decide +kernel, by decide +kernel⟩, List.mem_of_getElem? (i := 12) (by decide +kernel), List.mem_of_getElem? (i := 456) (by decide +kernel), List.mem_of_getElem? (i := 457) (by decide +kernel)⟩
theorem lw_p14 : lw_okq (⟨"PageFormatter", "takeText", "()V"⟩, 8) := ⟨⟨by decide +kernel, by decide +kernel⟩, List.mem_of_getElem? (i := 12) (by decide +kernel), List.mem_of_getElem? (i := 465) (by decide +kernel), List.mem_of_getElem? (i := 466) (by decide +kernel)⟩
theorem lw_p15 : lw_okq (⟨"PageFormatter", "putEmptyLine", "()V"⟩, 8) := ⟨⟨by decide +kernel, by decide +kernel⟩, List.mem_of_getElem? (i := 12) (by decide +kernel), List.mem_of_getElem? (i := 474) (by decide +kernel), List.mem_of_getElem? (i := 475) (by decide +kernel)⟩
def lw_privs_1 : List (MethodName × Nat) := [(⟨"PageFormatter$Command", "readNumber", "(LPageFormatter$Text;)V"⟩, 5), (⟨"PageFormatter", "breaksFirst", "()Z"⟩, 8), (⟨"PageFormatter", "breakParagraph", "()V"⟩, 8), (⟨"PageFormatter$Parting", "weighLinesFrom", "(LPageFormatter$Paragraph;II)V"⟩, 8), (⟨"PageFormatter$Parting", "roomFrom", "(I)I"⟩, 8), (⟨"PageFormatter$Parting", "keepIfLess", "(IIJ)V"⟩, 8), (⟨"PageFormatter$Parting", "recordLine", "(LPageFormatter$Paragraph;IIZ)V"⟩, 8), (⟨"PageFormatter$Pages", "bottom", "()I"⟩, 8), (⟨"PageFormatter$Pages", "begin", "()V"⟩, 8), (⟨"PageFormatter$Paragraph", "writePiece", "(LPageFormatter$Output;I)V"⟩, 7), (⟨"PageFormatter$Pages", "goDown", "(I)V"⟩, 8), (⟨"PageFormatter", "obey", "()V"⟩, 8), (⟨"PageFormatter", "setIndent", "()V"⟩, 8), (⟨"PageFormatter", "beginPage", "()V"⟩, 8), (⟨"PageFormatter", "takeText", "()V"⟩, 8), (⟨"PageFormatter", "putEmptyLine", "()V"⟩, 8)]
theorem lw_r1 : ∀ q ∈ lw_privs_1, lw_okq q := List.forall_mem_cons.mpr ⟨lw_p0, List.forall_mem_cons.mpr ⟨lw_p1, List.forall_mem_cons.mpr ⟨lw_p2, List.forall_mem_cons.mpr ⟨lw_p3, List.forall_mem_cons.mpr ⟨lw_p4, List.forall_mem_cons.mpr ⟨lw_p5, List.forall_mem_cons.mpr ⟨lw_p6, List.forall_mem_cons.mpr ⟨lw_p7, List.forall_mem_cons.mpr ⟨lw_p8, List.forall_mem_cons.mpr ⟨lw_p9, List.forall_mem_cons.mpr ⟨lw_p10, List.forall_mem_cons.mpr ⟨lw_p11, List.forall_mem_cons.mpr ⟨lw_p12, List.forall_mem_cons.mpr ⟨lw_p13, List.forall_mem_cons.mpr ⟨lw_p14, List.forall_mem_cons.mpr ⟨lw_p15, fun _ h => absurd h List.not_mem_nil⟩⟩⟩⟩⟩⟩⟩⟩⟩⟩⟩⟩⟩⟩⟩⟩
theorem lw_p16 : lw_okq (⟨"PageFormatter", "putCentred", "(Z)V"⟩, 8) := ⟨⟨by decide +kernel, by decide +kernel⟩, List.mem_of_getElem? (i := 12) (by decide +kernel), List.mem_of_getElem? (i := 491) (by decide +kernel), List.mem_of_getElem? (i := 492) (by decide +kernel)⟩
theorem lw_p17 : lw_okq (⟨"PageFormatter", "putEntered", "(Z)V"⟩, 8) := ⟨⟨by decide +kernel, by decide +kernel⟩, List.mem_of_getElem? (i := 12) (by decide +kernel), List.mem_of_getElem? (i := 504) (by decide +kernel), List.mem_of_getElem? (i := 505) (by decide +kernel)⟩
theorem lw_p18 : lw_okq (⟨"PageFormatter", "gatherWords", "(Z)V"⟩, 8) := ⟨⟨by decide +kernel, by decide +kernel⟩, List.mem_of_getElem? (i := 12) (by decide +kernel), List.mem_of_getElem? (i := 509) (by decide +kernel), List.mem_of_getElem? (i := 510) (by decide +kernel)⟩
theorem lw_p19 : lw_okq (⟨"PageFormatter$Paragraph", "addPlace", "()V"⟩, 7) := ⟨⟨by decide +kernel, by decide +kernel⟩, List.mem_of_getElem? (i := 167) (by decide +kernel), List.mem_of_getElem? (i := 522) (by decide +kernel), List.mem_of_getElem? (i := 523) (by decide +kernel)⟩
theorem lw_p20 : lw_okq (⟨"PageFormatter$Paragraph", "addLetter", "(I)V"⟩, 7) := ⟨⟨by decide +kernel, by decide +kernel⟩, List.mem_of_getElem? (i := 167) (by decide +kernel), List.mem_of_getElem? (i := 526) (by decide +kernel), List.mem_of_getElem? (i := 527) (by decide +kernel)⟩
theorem lw_p21 : lw_okq (⟨"PageFormatterModel", "begin", "()V"⟩, 48) := ⟨⟨by decide +kernel, by decide +kernel⟩, List.mem_of_getElem? (i := 567) (by decide +kernel), List.mem_of_getElem? (i := 574) (by decide +kernel), List.mem_of_getElem? (i := 575) (by decide +kernel)⟩
theorem lw_p22 : lw_okq (⟨"PageFormatterModel", "command", "()V"⟩, 48) := ⟨⟨by decide +kernel, by decide +kernel⟩, List.mem_of_getElem? (i := 567) (by decide +kernel), List.mem_of_getElem? (i := 735) (by decide +kernel), List.mem_of_getElem? (i := 736) (by decide +kernel)⟩
theorem lw_p23 : lw_okq (⟨"PageFormatterModel", "readNumber", "()V"⟩, 48) := ⟨⟨by decide +kernel, by decide +kernel⟩, List.mem_of_getElem? (i := 567) (by decide +kernel), List.mem_of_getElem? (i := 739) (by decide +kernel), List.mem_of_getElem? (i := 740) (by decide +kernel)⟩
theorem lw_p24 : lw_okq (⟨"PageFormatterModel", "breakNow", "()V"⟩, 48) := ⟨⟨by decide +kernel, by decide +kernel⟩, List.mem_of_getElem? (i := 567) (by decide +kernel), List.mem_of_getElem? (i := 743) (by decide +kernel), List.mem_of_getElem? (i := 744) (by decide +kernel)⟩
theorem lw_p25 : lw_okq (⟨"PageFormatterModel", "layPlaces", "()V"⟩, 48) := ⟨⟨by decide +kernel, by decide +kernel⟩, List.mem_of_getElem? (i := 567) (by decide +kernel), List.mem_of_getElem? (i := 747) (by decide +kernel), List.mem_of_getElem? (i := 748) (by decide +kernel)⟩
theorem lw_p26 : lw_okq (⟨"PageFormatterModel", "bytesIn", "(II)I"⟩, 48) := ⟨⟨by decide +kernel, by decide +kernel⟩, List.mem_of_getElem? (i := 567) (by decide +kernel), List.mem_of_getElem? (i := 751) (by decide +kernel), List.mem_of_getElem? (i := 752) (by decide +kernel)⟩
theorem lw_p27 : lw_okq (⟨"PageFormatterModel", "findBest", "(II)V"⟩, 48) := ⟨⟨by decide +kernel, by decide +kernel⟩, List.mem_of_getElem? (i := 567) (by decide +kernel), List.mem_of_getElem? (i := 755) (by decide +kernel), List.mem_of_getElem? (i := 756) (by decide +kernel)⟩
theorem lw_p28 : lw_okq (⟨"PageFormatterModel", "lengthOf", "(II)I"⟩, 48) := ⟨⟨by decide +kernel, by decide +kernel⟩, List.mem_of_getElem? (i := 567) (by decide +kernel), List.mem_of_getElem? (i := 760) (by decide +kernel), List.mem_of_getElem? (i := 761) (by decide +kernel)⟩
theorem lw_p29 : lw_okq (⟨"PageFormatterModel", "blanksOf", "(II)I"⟩, 48) := ⟨⟨by decide +kernel, by decide +kernel⟩, List.mem_of_getElem? (i := 567) (by decide +kernel), List.mem_of_getElem? (i := 764) (by decide +kernel), List.mem_of_getElem? (i := 765) (by decide +kernel)⟩
theorem lw_p30 : lw_okq (⟨"PageFormatterModel", "roomOf", "(I)I"⟩, 48) := ⟨⟨by decide +kernel, by decide +kernel⟩, List.mem_of_getElem? (i := 567) (by decide +kernel), List.mem_of_getElem? (i := 768) (by decide +kernel), List.mem_of_getElem? (i := 769) (by decide +kernel)⟩
theorem lw_p31 : lw_okq (⟨"PageFormatterModel", "badnessOf", "(II)I"⟩, 48) := ⟨⟨by decide +kernel, by decide +kernel⟩, List.mem_of_getElem? (i := 567) (by decide +kernel), List.mem_of_getElem? (i := 772) (by decide +kernel), List.mem_of_getElem? (i := 773) (by decide +kernel)⟩
def lw_privs_2 : List (MethodName × Nat) := [(⟨"PageFormatter", "putCentred", "(Z)V"⟩, 8), (⟨"PageFormatter", "putEntered", "(Z)V"⟩, 8), (⟨"PageFormatter", "gatherWords", "(Z)V"⟩, 8), (⟨"PageFormatter$Paragraph", "addPlace", "()V"⟩, 7), (⟨"PageFormatter$Paragraph", "addLetter", "(I)V"⟩, 7), (⟨"PageFormatterModel", "begin", "()V"⟩, 48), (⟨"PageFormatterModel", "command", "()V"⟩, 48), (⟨"PageFormatterModel", "readNumber", "()V"⟩, 48), (⟨"PageFormatterModel", "breakNow", "()V"⟩, 48), (⟨"PageFormatterModel", "layPlaces", "()V"⟩, 48), (⟨"PageFormatterModel", "bytesIn", "(II)I"⟩, 48), (⟨"PageFormatterModel", "findBest", "(II)V"⟩, 48), (⟨"PageFormatterModel", "lengthOf", "(II)I"⟩, 48), (⟨"PageFormatterModel", "blanksOf", "(II)I"⟩, 48), (⟨"PageFormatterModel", "roomOf", "(I)I"⟩, 48), (⟨"PageFormatterModel", "badnessOf", "(II)I"⟩, 48)]
theorem lw_r2 : ∀ q ∈ lw_privs_2, lw_okq q := List.forall_mem_cons.mpr ⟨lw_p16, List.forall_mem_cons.mpr ⟨lw_p17, List.forall_mem_cons.mpr ⟨lw_p18, List.forall_mem_cons.mpr ⟨lw_p19, List.forall_mem_cons.mpr ⟨lw_p20, List.forall_mem_cons.mpr ⟨lw_p21, List.forall_mem_cons.mpr ⟨lw_p22, List.forall_mem_cons.mpr ⟨lw_p23, List.forall_mem_cons.mpr ⟨lw_p24, List.forall_mem_cons.mpr ⟨lw_p25, List.forall_mem_cons.mpr ⟨lw_p26, List.forall_mem_cons.mpr ⟨lw_p27, List.forall_mem_cons.mpr ⟨lw_p28, List.forall_mem_cons.mpr ⟨lw_p29, List.forall_mem_cons.mpr ⟨lw_p30, List.forall_mem_cons.mpr ⟨lw_p31, fun _ h => absurd h List.not_mem_nil⟩⟩⟩⟩⟩⟩⟩⟩⟩⟩⟩⟩⟩⟩⟩⟩
theorem lw_p32 : lw_okq (⟨"PageFormatterModel", "slackOf", "(II)I"⟩, 48) := ⟨⟨by decide +kernel, by decide +kernel⟩, List.mem_of_getElem? (i := 567) (by decide +kernel), List.mem_of_getElem? (i := 776) (by decide +kernel), List.mem_of_getElem? (i := 777) (by decide +kernel)⟩
theorem lw_p33 : lw_okq (⟨"PageFormatterModel", "demeritsOf", "(III)J"⟩, 48) := ⟨⟨by decide +kernel, by decide +kernel⟩, List.mem_of_getElem? (i := 567) (by decide +kernel), List.mem_of_getElem? (i := 786) (by decide +kernel), List.mem_of_getElem? (i := 787) (by decide +kernel)⟩
theorem lw_p34 : lw_okq (⟨"PageFormatterModel", "note", "(II)V"⟩, 48) := ⟨⟨by decide +kernel, by decide +kernel⟩, List.mem_of_getElem? (i := 567) (by decide +kernel), List.mem_of_getElem? (i := 792) (by decide +kernel), List.mem_of_getElem? (i := 793) (by decide +kernel)⟩
theorem lw_p35 : lw_okq (⟨"PageFormatterModel", "layLine", "(II)V"⟩, 48) := ⟨⟨by decide +kernel, by decide +kernel⟩, List.mem_of_getElem? (i := 567) (by decide +kernel), List.mem_of_getElem? (i := 796) (by decide +kernel), List.mem_of_getElem? (i := 797) (by decide +kernel)⟩
theorem lw_p36 : lw_okq (⟨"PageFormatterModel", "addBlanks", "(I)V"⟩, 48) := ⟨⟨by decide +kernel, by decide +kernel⟩, List.mem_of_getElem? (i := 567) (by decide +kernel), List.mem_of_getElem? (i := 800) (by decide +kernel), List.mem_of_getElem? (i := 801) (by decide +kernel)⟩
theorem lw_p37 : lw_okq (⟨"PageFormatterModel", "put", "()V"⟩, 48) := ⟨⟨by decide +kernel, by decide +kernel⟩, List.mem_of_getElem? (i := 567) (by decide +kernel), List.mem_of_getElem? (i := 804) (by decide +kernel), List.mem_of_getElem? (i := 805) (by decide +kernel)⟩
theorem lw_p38 : lw_okq (⟨"PageFormatterModel", "bottom", "()I"⟩, 48) := ⟨⟨by decide +kernel, by decide +kernel⟩, List.mem_of_getElem? (i := 567) (by decide +kernel), List.mem_of_getElem? (i := 808) (by decide +kernel), List.mem_of_getElem? (i := 809) (by decide +kernel)⟩
theorem lw_p39 : lw_okq (⟨"PageFormatterModel", "giveHead", "()V"⟩, 48) := ⟨⟨by decide +kernel, by decide +kernel⟩, List.mem_of_getElem? (i := 567) (by decide +kernel), List.mem_of_getElem? (i := 812) (by decide +kernel), List.mem_of_getElem? (i := 813) (by decide +kernel)⟩
theorem lw_p40 : lw_okq (⟨"PageFormatterModel", "giveTitle", "([II)V"⟩, 48) := ⟨⟨by decide +kernel, by decide +kernel⟩, List.mem_of_getElem? (i := 567) (by decide +kernel), List.mem_of_getElem? (i := 816) (by decide +kernel), List.mem_of_getElem? (i := 817) (by decide +kernel)⟩
theorem lw_p41 : lw_okq (⟨"PageFormatterModel", "give", "(I)V"⟩, 48) := ⟨⟨by decide +kernel, by decide +kernel⟩, List.mem_of_getElem? (i := 567) (by decide +kernel), List.mem_of_getElem? (i := 820) (by decide +kernel), List.mem_of_getElem? (i := 821) (by decide +kernel)⟩
theorem lw_p42 : lw_okq (⟨"PageFormatterModel", "giveNumber", "(I)V"⟩, 48) := ⟨⟨by decide +kernel, by decide +kernel⟩, List.mem_of_getElem? (i := 567) (by decide +kernel), List.mem_of_getElem? (i := 824) (by decide +kernel), List.mem_of_getElem? (i := 825) (by decide +kernel)⟩
theorem lw_p43 : lw_okq (⟨"PageFormatterModel", "giveMany", "(II)V"⟩, 48) := ⟨⟨by decide +kernel, by decide +kernel⟩, List.mem_of_getElem? (i := 567) (by decide +kernel), List.mem_of_getElem? (i := 828) (by decide +kernel), List.mem_of_getElem? (i := 829) (by decide +kernel)⟩
theorem lw_p44 : lw_okq (⟨"PageFormatterModel", "giveFoot", "()V"⟩, 48) := ⟨⟨by decide +kernel, by decide +kernel⟩, List.mem_of_getElem? (i := 567) (by decide +kernel), List.mem_of_getElem? (i := 832) (by decide +kernel), List.mem_of_getElem? (i := 833) (by decide +kernel)⟩
theorem lw_p45 : lw_okq (⟨"PageFormatterModel", "set", "(IIII)I"⟩, 48) := ⟨⟨by decide +kernel, by decide +kernel⟩, List.mem_of_getElem? (i := 567) (by decide +kernel), List.mem_of_getElem? (i := 836) (by decide +kernel), List.mem_of_getElem? (i := 837) (by decide +kernel)⟩
theorem lw_p46 : lw_okq (⟨"PageFormatterModel", "command", "(I)V"⟩, 48) := ⟨⟨by decide +kernel, by decide +kernel⟩, List.mem_of_getElem? (i := 567) (by decide +kernel), List.mem_of_getElem? (i := 840) (by decide +kernel), List.mem_of_getElem? (i := 841) (by decide +kernel)⟩
theorem lw_p47 : lw_okq (⟨"PageFormatterModel", "space", "(I)V"⟩, 48) := ⟨⟨by decide +kernel, by decide +kernel⟩, List.mem_of_getElem? (i := 567) (by decide +kernel), List.mem_of_getElem? (i := 844) (by decide +kernel), List.mem_of_getElem? (i := 845) (by decide +kernel)⟩
def lw_privs_3 : List (MethodName × Nat) := [(⟨"PageFormatterModel", "slackOf", "(II)I"⟩, 48), (⟨"PageFormatterModel", "demeritsOf", "(III)J"⟩, 48), (⟨"PageFormatterModel", "note", "(II)V"⟩, 48), (⟨"PageFormatterModel", "layLine", "(II)V"⟩, 48), (⟨"PageFormatterModel", "addBlanks", "(I)V"⟩, 48), (⟨"PageFormatterModel", "put", "()V"⟩, 48), (⟨"PageFormatterModel", "bottom", "()I"⟩, 48), (⟨"PageFormatterModel", "giveHead", "()V"⟩, 48), (⟨"PageFormatterModel", "giveTitle", "([II)V"⟩, 48), (⟨"PageFormatterModel", "give", "(I)V"⟩, 48), (⟨"PageFormatterModel", "giveNumber", "(I)V"⟩, 48), (⟨"PageFormatterModel", "giveMany", "(II)V"⟩, 48), (⟨"PageFormatterModel", "giveFoot", "()V"⟩, 48), (⟨"PageFormatterModel", "set", "(IIII)I"⟩, 48), (⟨"PageFormatterModel", "command", "(I)V"⟩, 48), (⟨"PageFormatterModel", "space", "(I)V"⟩, 48)]
theorem lw_r3 : ∀ q ∈ lw_privs_3, lw_okq q := List.forall_mem_cons.mpr ⟨lw_p32, List.forall_mem_cons.mpr ⟨lw_p33, List.forall_mem_cons.mpr ⟨lw_p34, List.forall_mem_cons.mpr ⟨lw_p35, List.forall_mem_cons.mpr ⟨lw_p36, List.forall_mem_cons.mpr ⟨lw_p37, List.forall_mem_cons.mpr ⟨lw_p38, List.forall_mem_cons.mpr ⟨lw_p39, List.forall_mem_cons.mpr ⟨lw_p40, List.forall_mem_cons.mpr ⟨lw_p41, List.forall_mem_cons.mpr ⟨lw_p42, List.forall_mem_cons.mpr ⟨lw_p43, List.forall_mem_cons.mpr ⟨lw_p44, List.forall_mem_cons.mpr ⟨lw_p45, List.forall_mem_cons.mpr ⟨lw_p46, List.forall_mem_cons.mpr ⟨lw_p47, fun _ h => absurd h List.not_mem_nil⟩⟩⟩⟩⟩⟩⟩⟩⟩⟩⟩⟩⟩⟩⟩⟩
theorem lw_p48 : lw_okq (⟨"PageFormatterModel", "copyRest", "([I)I"⟩, 48) := ⟨⟨by decide +kernel, by decide +kernel⟩, List.mem_of_getElem? (i := 567) (by decide +kernel), List.mem_of_getElem? (i := 848) (by decide +kernel), List.mem_of_getElem? (i := 849) (by decide +kernel)⟩
theorem lw_p49 : lw_okq (⟨"PageFormatterModel", "text", "()V"⟩, 48) := ⟨⟨by decide +kernel, by decide +kernel⟩, List.mem_of_getElem? (i := 567) (by decide +kernel), List.mem_of_getElem? (i := 852) (by decide +kernel), List.mem_of_getElem? (i := 853) (by decide +kernel)⟩
theorem lw_p50 : lw_okq (⟨"PageFormatterModel", "centre", "()V"⟩, 48) := ⟨⟨by decide +kernel, by decide +kernel⟩, List.mem_of_getElem? (i := 567) (by decide +kernel), List.mem_of_getElem? (i := 856) (by decide +kernel), List.mem_of_getElem? (i := 857) (by decide +kernel)⟩
theorem lw_p51 : lw_okq (⟨"PageFormatterModel", "readWords", "(II)V"⟩, 48) := ⟨⟨by decide +kernel, by decide +kernel⟩, List.mem_of_getElem? (i := 567) (by decide +kernel), List.mem_of_getElem? (i := 860) (by decide +kernel), List.mem_of_getElem? (i := 861) (by decide +kernel)⟩
theorem lw_p52 : lw_okq (⟨"PageFormatterModel", "isBare", "(I)Z"⟩, 48) := ⟨⟨by decide +kernel, by decide +kernel⟩, List.mem_of_getElem? (i := 567) (by decide +kernel), List.mem_of_getElem? (i := 864) (by decide +kernel), List.mem_of_getElem? (i := 865) (by decide +kernel)⟩
theorem lw_p53 : lw_okq (⟨"PageFormatterModel", "count2", "(I)I"⟩, 48) := ⟨⟨by decide +kernel, by decide +kernel⟩, List.mem_of_getElem? (i := 567) (by decide +kernel), List.mem_of_getElem? (i := 896) (by decide +kernel), List.mem_of_getElem? (i := 897) (by decide +kernel)⟩
def lw_privs_4 : List (MethodName × Nat) := [(⟨"PageFormatterModel", "copyRest", "([I)I"⟩, 48), (⟨"PageFormatterModel", "text", "()V"⟩, 48), (⟨"PageFormatterModel", "centre", "()V"⟩, 48), (⟨"PageFormatterModel", "readWords", "(II)V"⟩, 48), (⟨"PageFormatterModel", "isBare", "(I)Z"⟩, 48), (⟨"PageFormatterModel", "count2", "(I)I"⟩, 48)]
theorem lw_r4 : ∀ q ∈ lw_privs_4, lw_okq q := List.forall_mem_cons.mpr ⟨lw_p48, List.forall_mem_cons.mpr ⟨lw_p49, List.forall_mem_cons.mpr ⟨lw_p50, List.forall_mem_cons.mpr ⟨lw_p51, List.forall_mem_cons.mpr ⟨lw_p52, List.forall_mem_cons.mpr ⟨lw_p53, fun _ h => absurd h List.not_mem_nil⟩⟩⟩⟩⟩⟩
def lw_privs : List (MethodName × Nat) := lw_privs_1 ++ (lw_privs_2 ++ (lw_privs_3 ++ (lw_privs_4)))
def lw_tbl : List Cond := k2_sels lw_privs ++ tables_1
theorem lw_privs_ok : ∀ q ∈ lw_privs, lw_okq q := by
  show ∀ q ∈ lw_privs_1 ++ (lw_privs_2 ++ (lw_privs_3 ++ (lw_privs_4))), lw_okq q
  exact List.forall_mem_append.mpr ⟨lw_r1, List.forall_mem_append.mpr ⟨lw_r2, List.forall_mem_append.mpr ⟨lw_r3, lw_r4⟩⟩⟩
end
section
/-- the tables' words that a callee's state keeps -/
def GT : List Cond := lw_tbl.filter goodWord
theorem GT_at {i : Nat} {w : Cond} (h : lw_tbl[i]? = some w) (hg : goodWord w = true) : w ∈ GT := List.mem_filter.mpr ⟨List.mem_of_getElem? h, hg⟩
theorem GT_good {w : Cond} (h : w ∈ GT) : (w.onTables && w.keeps) = true ∨ ∃ ty, w = .arrayClass ty := good_of_word (List.mem_filter.mp h).2
theorem mem_pos (ws : List Cond) (ps : List Nat) (hp : ws.map some = ps.map (fun i => lw_tbl[i]?)) (hg : ws.all goodWord = true) : ∀ w ∈ ws, w ∈ GT := by
  intro w hw
  have h : some w ∈ ps.map (fun i => lw_tbl[i]?) := by rw [← hp]; exact List.mem_map.mpr ⟨w, hw, rfl⟩
  obtain ⟨i, -, hi⟩ := List.mem_map.mp h
  exact GT_at hi (List.all_eq_true.mp hg w hw)
def RX0 : String := "PageFormatter$Command"
def TX0 : u_T := fun k => match k with
  | 0 => ("PageFormatter$Command", "name", "I", false)
  | 1 => ("PageFormatter$Command", "rest", "I", false)
  | 2 => ("PageFormatter$Command", "sign", "I", false)
  | 3 => ("PageFormatter$Command", "amount", "I", false)
  | _ => ("PageFormatter$Command", "numbered", "Z", false)
def tyX0 : Nat → FieldType := fun k => match k with
  | 0 => .int
  | 1 => .int
  | 2 => .int
  | 3 => .int
  | _ => .boolean
theorem nmX0 : ∀ a, a < 5 → ∀ b, b < 5 → a ≠ b → (TX0 a).2.1 ≠ (TX0 b).2.1 := by decide +kernel
theorem tyX0_ok : ∀ k, k < 5 → parseFieldDescriptor (TX0 k).2.2.1 = some (tyX0 k) := by decide +kernel
def RX1 : String := "PageFormatter$Layout"
def TX1 : u_T := fun k => match k with
  | 0 => ("PageFormatter$Layout", "right", "I", false)
  | 1 => ("PageFormatter$Layout", "indent", "I", false)
  | 2 => ("PageFormatter$Layout", "thisIndent", "I", false)
  | 3 => ("PageFormatter$Layout", "spacing", "I", false)
  | 4 => ("PageFormatter$Layout", "centred", "I", false)
  | 5 => ("PageFormatter$Layout", "underlined", "I", false)
  | 6 => ("PageFormatter$Layout", "pageLength", "I", false)
  | 7 => ("PageFormatter$Layout", "fill", "Z", false)
  | _ => ("PageFormatter$Layout", "justify", "Z", false)
def tyX1 : Nat → FieldType := fun k => match k with
  | 0 => .int
  | 1 => .int
  | 2 => .int
  | 3 => .int
  | 4 => .int
  | 5 => .int
  | 6 => .int
  | 7 => .boolean
  | _ => .boolean
theorem nmX1 : ∀ a, a < 9 → ∀ b, b < 9 → a ≠ b → (TX1 a).2.1 ≠ (TX1 b).2.1 := by decide +kernel
theorem tyX1_ok : ∀ k, k < 9 → parseFieldDescriptor (TX1 k).2.2.1 = some (tyX1 k) := by decide +kernel
def RX2 : String := "PageFormatter$Output"
def TX2 : u_T := fun k => match k with
  | 0 => ("PageFormatter$Output", "bytes", "[B", true)
  | _ => ("PageFormatter$Output", "size", "I", false)
def tyX2 : Nat → FieldType := fun k => match k with
  | 0 => .array .byte
  | _ => .int
theorem nmX2 : ∀ a, a < 2 → ∀ b, b < 2 → a ≠ b → (TX2 a).2.1 ≠ (TX2 b).2.1 := by decide +kernel
theorem tyX2_ok : ∀ k, k < 2 → parseFieldDescriptor (TX2 k).2.2.1 = some (tyX2 k) := by decide +kernel
def RX3 : String := "PageFormatter$Pages"
def TX3 : u_T := fun k => match k with
  | 0 => ("PageFormatter$Pages", "layout", "LPageFormatter$Layout;", true)
  | 1 => ("PageFormatter$Pages", "output", "LPageFormatter$Output;", true)
  | 2 => ("PageFormatter$Pages", "head", "LPageFormatter$Text;", true)
  | 3 => ("PageFormatter$Pages", "foot", "LPageFormatter$Text;", true)
  | 4 => ("PageFormatter$Pages", "lineNumber", "I", false)
  | 5 => ("PageFormatter$Pages", "page", "I", false)
  | 6 => ("PageFormatter$Pages", "nextPage", "I", false)
  | _ => ("PageFormatter$Pages", "linesPut", "I", false)
def tyX3 : Nat → FieldType := fun k => match k with
  | 0 => .object "PageFormatter$Layout"
  | 1 => .object "PageFormatter$Output"
  | 2 => .object "PageFormatter$Text"
  | 3 => .object "PageFormatter$Text"
  | 4 => .int
  | 5 => .int
  | 6 => .int
  | _ => .int
theorem nmX3 : ∀ a, a < 8 → ∀ b, b < 8 → a ≠ b → (TX3 a).2.1 ≠ (TX3 b).2.1 := by decide +kernel
theorem tyX3_ok : ∀ k, k < 8 → parseFieldDescriptor (TX3 k).2.2.1 = some (tyX3 k) := by decide +kernel
def RX4 : String := "PageFormatter$Paragraph"
def TX4 : u_T := fun k => match k with
  | 0 => ("PageFormatter$Paragraph", "letters", "[B", true)
  | 1 => ("PageFormatter$Paragraph", "lettersBefore", "[I", true)
  | 2 => ("PageFormatter$Paragraph", "wordsBefore", "[I", true)
  | 3 => ("PageFormatter$Paragraph", "underlinedWords", "[Z", true)
  | 4 => ("PageFormatter$Paragraph", "letterCount", "I", false)
  | 5 => ("PageFormatter$Paragraph", "lastPlace", "I", false)
  | _ => ("PageFormatter$Paragraph", "wordCount", "I", false)
def tyX4 : Nat → FieldType := fun k => match k with
  | 0 => .array .byte
  | 1 => .array .int
  | 2 => .array .int
  | 3 => .array .boolean
  | 4 => .int
  | 5 => .int
  | _ => .int
theorem nmX4 : ∀ a, a < 7 → ∀ b, b < 7 → a ≠ b → (TX4 a).2.1 ≠ (TX4 b).2.1 := by decide +kernel
theorem tyX4_ok : ∀ k, k < 7 → parseFieldDescriptor (TX4 k).2.2.1 = some (tyX4 k) := by decide +kernel
def RX5 : String := "PageFormatter$Parting"
def TX5 : u_T := fun k => match k with
  | 0 => ("PageFormatter$Parting", "leastCost", "[J", true)
  | 1 => ("PageFormatter$Parting", "bestEnd", "[I", true)
  | 2 => ("PageFormatter$Parting", "ends", "[I", true)
  | 3 => ("PageFormatter$Parting", "facts", "[I", true)
  | 4 => ("PageFormatter$Parting", "firstRoom", "I", false)
  | 5 => ("PageFormatter$Parting", "otherRoom", "I", false)
  | 6 => ("PageFormatter$Parting", "lineCount", "I", false)
  | _ => ("PageFormatter$Parting", "sum", "J", false)
def tyX5 : Nat → FieldType := fun k => match k with
  | 0 => .array .long
  | 1 => .array .int
  | 2 => .array .int
  | 3 => .array .int
  | 4 => .int
  | 5 => .int
  | 6 => .int
  | _ => .long
theorem nmX5 : ∀ a, a < 8 → ∀ b, b < 8 → a ≠ b → (TX5 a).2.1 ≠ (TX5 b).2.1 := by decide +kernel
theorem tyX5_ok : ∀ k, k < 8 → parseFieldDescriptor (TX5 k).2.2.1 = some (tyX5 k) := by decide +kernel
def RX6 : String := "PageFormatter$Text"
def TX6 : u_T := fun k => match k with
  | 0 => ("PageFormatter$Text", "bytes", "[B", true)
  | _ => ("PageFormatter$Text", "size", "I", false)
def tyX6 : Nat → FieldType := fun k => match k with
  | 0 => .array .byte
  | _ => .int
theorem nmX6 : ∀ a, a < 2 → ∀ b, b < 2 → a ≠ b → (TX6 a).2.1 ≠ (TX6 b).2.1 := by decide +kernel
theorem tyX6_ok : ∀ k, k < 2 → parseFieldDescriptor (TX6 k).2.2.1 = some (tyX6 k) := by decide +kernel
def RX7 : String := "PageFormatter"
def TX7 : u_T := fun k => match k with
  | 0 => ("PageFormatter", "entered", "LPageFormatter$Text;", true)
  | 1 => ("PageFormatter", "command", "LPageFormatter$Command;", true)
  | 2 => ("PageFormatter", "layout", "LPageFormatter$Layout;", true)
  | 3 => ("PageFormatter", "output", "LPageFormatter$Output;", true)
  | 4 => ("PageFormatter", "pages", "LPageFormatter$Pages;", true)
  | 5 => ("PageFormatter", "paragraph", "LPageFormatter$Paragraph;", true)
  | 6 => ("PageFormatter", "parting", "LPageFormatter$Parting;", true)
  | _ => ("PageFormatter", "passedOver", "I", false)
def tyX7 : Nat → FieldType := fun k => match k with
  | 0 => .object "PageFormatter$Text"
  | 1 => .object "PageFormatter$Command"
  | 2 => .object "PageFormatter$Layout"
  | 3 => .object "PageFormatter$Output"
  | 4 => .object "PageFormatter$Pages"
  | 5 => .object "PageFormatter$Paragraph"
  | 6 => .object "PageFormatter$Parting"
  | _ => .int
theorem nmX7 : ∀ a, a < 8 → ∀ b, b < 8 → a ≠ b → (TX7 a).2.1 ≠ (TX7 b).2.1 := by decide +kernel
theorem tyX7_ok : ∀ k, k < 8 → parseFieldDescriptor (TX7 k).2.2.1 = some (tyX7 k) := by decide +kernel
def RX8 : String := "PageFormatterModel"
def TX8 : u_T := fun k => match k with
  | 0 => ("PageFormatterModel", "line", "[I", true)
  | 1 => ("PageFormatterModel", "lineSize", "I", false)
  | 2 => ("PageFormatterModel", "sheet", "[I", true)
  | 3 => ("PageFormatterModel", "sheetSize", "I", false)
  | 4 => ("PageFormatterModel", "letters", "[I", true)
  | 5 => ("PageFormatterModel", "wordEnds", "[I", true)
  | 6 => ("PageFormatterModel", "words", "I", false)
  | 7 => ("PageFormatterModel", "placeBytes", "[I", true)
  | 8 => ("PageFormatterModel", "placeWords", "[I", true)
  | 9 => ("PageFormatterModel", "isPoint", "[Z", true)
  | 10 => ("PageFormatterModel", "placeAt", "[I", true)
  | 11 => ("PageFormatterModel", "places", "I", false)
  | 12 => ("PageFormatterModel", "sums", "[J", true)
  | 13 => ("PageFormatterModel", "lines", "[I", true)
  | 14 => ("PageFormatterModel", "nexts", "[I", true)
  | 15 => ("PageFormatterModel", "demerits", "J", false)
  | 16 => ("PageFormatterModel", "parted", "I", false)
  | 17 => ("PageFormatterModel", "lineLength", "[I", true)
  | 18 => ("PageFormatterModel", "lineSlack", "[I", true)
  | 19 => ("PageFormatterModel", "lineBad", "[I", true)
  | 20 => ("PageFormatterModel", "lineBlanks", "[I", true)
  | 21 => ("PageFormatterModel", "lineHyphen", "[Z", true)
  | 22 => ("PageFormatterModel", "lineRoom", "[I", true)
  | 23 => ("PageFormatterModel", "output", "[I", true)
  | 24 => ("PageFormatterModel", "length", "I", false)
  | 25 => ("PageFormatterModel", "fill", "Z", false)
  | 26 => ("PageFormatterModel", "justify", "Z", false)
  | 27 => ("PageFormatterModel", "spacing", "I", false)
  | 28 => ("PageFormatterModel", "indent", "I", false)
  | 29 => ("PageFormatterModel", "here", "I", false)
  | 30 => ("PageFormatterModel", "right", "I", false)
  | 31 => ("PageFormatterModel", "centred", "I", false)
  | 32 => ("PageFormatterModel", "underlined", "I", false)
  | 33 => ("PageFormatterModel", "pageLength", "I", false)
  | 34 => ("PageFormatterModel", "number", "I", false)
  | 35 => ("PageFormatterModel", "page", "I", false)
  | 36 => ("PageFormatterModel", "nextPage", "I", false)
  | 37 => ("PageFormatterModel", "head", "[I", true)
  | 38 => ("PageFormatterModel", "headSize", "I", false)
  | 39 => ("PageFormatterModel", "foot", "[I", true)
  | 40 => ("PageFormatterModel", "footSize", "I", false)
  | 41 => ("PageFormatterModel", "passed", "I", false)
  | 42 => ("PageFormatterModel", "puts", "I", false)
  | 43 => ("PageFormatterModel", "firstIndent", "I", false)
  | 44 => ("PageFormatterModel", "restAt", "I", false)
  | 45 => ("PageFormatterModel", "hasNumber", "Z", false)
  | 46 => ("PageFormatterModel", "sign", "I", false)
  | _ => ("PageFormatterModel", "amount", "I", false)
def tyX8 : Nat → FieldType := fun k => match k with
  | 0 => .array .int
  | 1 => .int
  | 2 => .array .int
  | 3 => .int
  | 4 => .array .int
  | 5 => .array .int
  | 6 => .int
  | 7 => .array .int
  | 8 => .array .int
  | 9 => .array .boolean
  | 10 => .array .int
  | 11 => .int
  | 12 => .array .long
  | 13 => .array .int
  | 14 => .array .int
  | 15 => .long
  | 16 => .int
  | 17 => .array .int
  | 18 => .array .int
  | 19 => .array .int
  | 20 => .array .int
  | 21 => .array .boolean
  | 22 => .array .int
  | 23 => .array .int
  | 24 => .int
  | 25 => .boolean
  | 26 => .boolean
  | 27 => .int
  | 28 => .int
  | 29 => .int
  | 30 => .int
  | 31 => .int
  | 32 => .int
  | 33 => .int
  | 34 => .int
  | 35 => .int
  | 36 => .int
  | 37 => .array .int
  | 38 => .int
  | 39 => .array .int
  | 40 => .int
  | 41 => .int
  | 42 => .int
  | 43 => .int
  | 44 => .int
  | 45 => .boolean
  | 46 => .int
  | _ => .int
theorem nmX8 : ∀ a, a < 48 → ∀ b, b < 48 → a ≠ b → (TX8 a).2.1 ≠ (TX8 b).2.1 := by decide +kernel
theorem tyX8_ok : ∀ k, k < 48 → parseFieldDescriptor (TX8 k).2.2.1 = some (tyX8 k) := by decide +kernel
abbrev CLS : List vw_C := [(RX0, TX0, 5), (RX1, TX1, 9), (RX2, TX2, 2), (RX3, TX3, 8), (RX4, TX4, 7), (RX5, TX5, 8), (RX6, TX6, 2), (RX7, TX7, 8), (RX8, TX8, 48)]
/-- the cells: an object (class, its fields: 0 an int, 1 a long, 2 a boolean, n + 3 the cell n) or an array (type, length, 1 for longs) -/
def lay : List ((Nat × List Nat) ⊕ (Nat × Nat × Nat)) := [.inl (7, [4, 6, 7, 8, 10, 15, 20, 0]),
  .inl (6, [5, 0]),
  .inr (0, 100, 0),
  .inl (0, [0, 0, 0, 0, 2]),
  .inl (1, [0, 0, 0, 0, 0, 0, 0, 2, 2]),
  .inl (2, [9, 0]),
  .inr (0, 20000, 0),
  .inl (3, [7, 8, 11, 13, 0, 0, 0, 0]),
  .inl (6, [12, 0]),
  .inr (0, 100, 0),
  .inl (6, [14, 0]),
  .inr (0, 100, 0),
  .inl (4, [16, 17, 18, 19, 0, 0, 0]),
  .inr (0, 8000, 0),
  .inr (1, 4001, 0),
  .inr (1, 4001, 0),
  .inr (2, 80, 0),
  .inl (5, [21, 22, 23, 24, 0, 0, 0, 1]),
  .inr (3, 12003, 1),
  .inr (1, 12003, 0),
  .inr (1, 4000, 0),
  .inr (1, 24000, 0),
  .inl (8, [26, 0, 27, 0, 28, 29, 0, 30, 31, 32, 33, 0, 34, 35, 36, 1, 0, 37, 38, 39, 40, 41, 42, 43, 0, 2, 2, 0, 0, 0, 0, 0, 0, 0, 0, 0, 0, 44, 0, 45, 0, 0, 0, 0, 0, 2, 0, 0]),
  .inr (1, 100, 0),
  .inr (1, 300, 0),
  .inr (1, 8100, 0),
  .inr (1, 80, 0),
  .inr (1, 8101, 0),
  .inr (1, 8101, 0),
  .inr (2, 8101, 0),
  .inr (1, 8101, 0),
  .inr (3, 32404, 1),
  .inr (1, 32404, 0),
  .inr (1, 32404, 0),
  .inr (1, 8100, 0),
  .inr (1, 8100, 0),
  .inr (1, 8100, 0),
  .inr (1, 8100, 0),
  .inr (2, 8100, 0),
  .inr (1, 8100, 0),
  .inr (1, 20000, 0),
  .inr (1, 100, 0),
  .inr (1, 100, 0)]
theorem uX0 : ∀ w ∈ u_ws RX0 TX0 5, w ∈ GT := mem_pos _ [105, 107, 109, 111, 113] (by decide +kernel) (by decide +kernel)
theorem uX1 : ∀ w ∈ u_ws RX1 TX1 9, w ∈ GT := mem_pos _ [148, 150, 152, 154, 156, 158, 160, 162, 164] (by decide +kernel) (by decide +kernel)
theorem uX2 : ∀ w ∈ u_ws RX2 TX2 2, w ∈ GT := mem_pos _ [176, 178] (by decide +kernel) (by decide +kernel)
theorem uX3 : ∀ w ∈ u_ws RX3 TX3 8, w ∈ GT := mem_pos _ [203, 205, 207, 209, 211, 213, 215, 217] (by decide +kernel) (by decide +kernel)
theorem uX4 : ∀ w ∈ u_ws RX4 TX4 7, w ∈ GT := mem_pos _ [235, 237, 239, 241, 243, 245, 247] (by decide +kernel) (by decide +kernel)
theorem uX5 : ∀ w ∈ u_ws RX5 TX5 8, w ∈ GT := mem_pos _ [269, 271, 273, 275, 277, 279, 281, 283] (by decide +kernel) (by decide +kernel)
theorem uX6 : ∀ w ∈ u_ws RX6 TX6 2, w ∈ GT := mem_pos _ [86, 88] (by decide +kernel) (by decide +kernel)
theorem uX7 : ∀ w ∈ u_ws RX7 TX7 8, w ∈ GT := mem_pos _ [295, 297, 299, 301, 303, 305, 307, 309] (by decide +kernel) (by decide +kernel)
theorem uX8 : ∀ w ∈ u_ws RX8 TX8 48, w ∈ GT := mem_pos _ [679, 681, 683, 685, 687, 689, 691, 693, 695, 697, 699, 701, 703, 705, 707, 709, 711, 713, 715, 717, 719, 721, 723, 725, 727, 729, 731, 733, 735, 737, 739, 741, 743, 745, 747, 749, 751, 753, 755, 757, 759, 761, 763, 765, 767, 769, 771, 773] (by decide +kernel) (by decide +kernel)
end
section
/-! ===== the machine over a store: one world of cells for both sides ===== -/
abbrev RI : Type := Nat × Instr × Nat × Nat × Nat
abbrev LV : Type := List (Option Value)
abbrev St2 : Type := (Nat → Nat → Int32) × (Nat → Nat → Int64)
/-- start, straight instructions, the last one (nop: it falls through) -/
abbrev BLK : Type := Nat × List RI × RI
/-- name, code, locals, answer, frames, words of locals, blocks; where its words stand: code, instance or static, selects, initialized; its parameters -/
abbrev MR : Type := MethodName × ByteArray × Nat × Option FieldType × Nat × Nat × List BLK × Nat × Nat × Nat × Nat × Nat
/-- classes and slots, array classes, addresses -/
abbrev GG : Type := va_G × (Nat → ClassId) × (Nat → Nat)
def up2 {α : Type} (I : Nat → Nat → α) (a b : Nat) (x : α) : Nat → Nat → α := fun p => if p = a then (fun q => if q = b then x else I p q) else I p
def nth : LV → Nat → Option Value
  | [], _ => none
  | a :: _, 0 => a
  | _ :: l, n + 1 => nth l n
def lnth {α : Type} : List α → Nat → Option α
  | [], _ => none
  | a :: _, 0 => some a
  | _ :: l, n + 1 => lnth l n
theorem lnth_eq {α : Type} (l : List α) (n : Nat) : lnth l n = l[n]? := by
  induction l generalizing n with
  | nil => rfl
  | cons a l ih => cases n with
    | zero => rfl
    | succ n => exact ih n
/-- an Int32 below 0: minus (k + 1) -/
def mI (k : Nat) : Int32 := Int32.ofInt (Int.negSucc k)
theorem cI_nat (k : Nat) : Int32.ofInt (Int.ofNat k) = nI k := rfl
def cv (G : GG) : Value → Value
  | .ref n => .ref (G.2.2 n)
  | v => v
def fval (G : GG) (σ : St2) (id k : Nat) : Nat → Value
  | 0 => .int (σ.1 id k)
  | 1 => .long (σ.2 id k)
  | 2 => .int (σ.1 id k)
  | n + 3 => .ref (G.2.2 n)
def fvs (G : GG) (σ : St2) (id : Nat) : Nat → List Nat → List Value
  | _, [] => []
  | k, f :: fs => fval G σ id k f :: fvs G σ id (k + 1) fs
def cellL (G : GG) (σ : St2) (id : Nat) : Option ((Nat × List Nat) ⊕ (Nat × Nat × Nat)) → va_E
  | some (.inl (ci, fks)) => .inr (ci, fvs G σ id 0 fks)
  | some (.inr (t, n, 0)) => .inl (G.2.1 t, n, .inl (σ.1 id))
  | some (.inr (t, n, _ + 1)) => .inl (G.2.1 t, n, .inr (.inl (σ.2 id)))
  | none => .inr (0, [])
def cellE (G : GG) (σ : St2) (id : Nat) : va_E := cellL G σ id lay[id]?
def World (G : GG) (σ : St2) : va_W := (List.range lay.length).map (fun id => (G.2.2 id, cellE G σ id))
def tysG (G : GG) : List (ClassId × FieldType) := [(G.2.1 0, .byte), (G.2.1 1, .int), (G.2.1 2, .boolean), (G.2.1 3, .long)]
theorem World_at (G : GG) (σ : St2) {id : Nat} (h : id < lay.length) : (World G σ)[id]? = some (G.2.2 id, cellE G σ id) := by
  simp [World, h]
theorem World_len (G : GG) (σ : St2) : (World G σ).length = lay.length := by simp [World]
theorem World_set (G : GG) (σ σ' : St2) {id : Nat} (h : ∀ j, j ≠ id → cellE G σ' j = cellE G σ j) : World G σ' = (World G σ).set id (G.2.2 id, cellE G σ' id) := by
  apply List.ext_getElem?
  intro j
  by_cases hj : j < lay.length
  · rw [World_at G σ' hj]
    by_cases e : j = id
    · subst e
      rw [List.getElem?_set_self (by rw [World_len]; exact hj)]
    · rw [List.getElem?_set_ne (fun q => e q.symm), World_at G σ hj, h j e]
  · rw [List.getElem?_eq_none (by rw [World_len]; omega), List.getElem?_eq_none (by rw [List.length_set, World_len]; omega)]
theorem fvs_at (G : GG) (σ : St2) (id : Nat) (fks : List Nat) (k0 k : Nat) : (fvs G σ id k0 fks)[k]? = (fks[k]?).map (fval G σ id (k0 + k)) := by
  induction fks generalizing k0 k with
  | nil => simp [fvs]
  | cons f fs ih =>
    cases k with
    | zero => simp [fvs]
    | succ k =>
      rw [fvs, List.getElem?_cons_succ, ih, List.getElem?_cons_succ]
      congr 2
      omega
theorem fvs_len (G : GG) (σ : St2) (id : Nat) (fks : List Nat) (k0 : Nat) : (fvs G σ id k0 fks).length = fks.length := by
  induction fks generalizing k0 with
  | nil => rfl
  | cons f fs ih => simp [fvs, ih]
theorem up2_row {α : Type} (I : Nat → Nat → α) (a b : Nat) (x : α) : up2 I a b x a = fun q => if q = b then x else I a q := by
  simp [up2]
theorem up2_ne {α : Type} (I : Nat → Nat → α) {a p : Nat} (b : Nat) (x : α) (h : p ≠ a) : up2 I a b x p = I p := by
  simp [up2, h]
theorem up2_same {α : Type} (I : Nat → Nat → α) (a b : Nat) (x : α) : up2 I a b x a b = x := by simp [up2]
theorem up2_col {α : Type} (I : Nat → Nat → α) (a : Nat) {b q : Nat} (x : α) (h : q ≠ b) : up2 I a b x a q = I a q := by simp [up2, h]
theorem cellE_ne1 (G : GG) (σ : St2) {id j : Nat} (k : Nat) (x : Int32) (h : j ≠ id) : cellE G (up2 σ.1 id k x, σ.2) j = cellE G σ j := by
  have e : ∀ (fks : List Nat) (k0 : Nat), fvs G (up2 σ.1 id k x, σ.2) j k0 fks = fvs G σ j k0 fks := by
    intro fks
    induction fks with
    | nil => intro k0; rfl
    | cons f fs ih =>
      intro k0
      rw [fvs, fvs, ih]
      congr 1
      rcases f with _ | _ | _ | f <;> simp [fval, up2_ne _ _ _ h]
  unfold cellE
  rcases lay[j]? with _ | ⟨ci, fks⟩ | ⟨t, n, _ | q⟩ <;> simp [cellL, e, up2_ne _ _ _ h]
theorem cellE_ne2 (G : GG) (σ : St2) {id j : Nat} (k : Nat) (x : Int64) (h : j ≠ id) : cellE G (σ.1, up2 σ.2 id k x) j = cellE G σ j := by
  have e : ∀ (fks : List Nat) (k0 : Nat), fvs G (σ.1, up2 σ.2 id k x) j k0 fks = fvs G σ j k0 fks := by
    intro fks
    induction fks with
    | nil => intro k0; rfl
    | cons f fs ih =>
      intro k0
      rw [fvs, fvs, ih]
      congr 1
      rcases f with _ | _ | _ | f <;> simp [fval, up2_ne _ _ _ h]
  unfold cellE
  rcases lay[j]? with _ | ⟨ci, fks⟩ | ⟨t, n, _ | q⟩ <;> simp [cellL, e, up2_ne _ _ _ h]
theorem fvs_set1 (G : GG) (σ : St2) (id : Nat) (fks : List Nat) {k : Nat} (x : Int32) (hk : fks[k]? = some 0 ∨ fks[k]? = some 2) : fvs G (up2 σ.1 id k x, σ.2) id 0 fks = (fvs G σ id 0 fks).set k (.int x) := by
  apply List.ext_getElem?
  intro j
  have hl : k < fks.length := by
    rcases hk with h | h <;> exact (List.getElem?_eq_some_iff.mp h).1
  rw [fvs_at]
  by_cases e : j = k
  · subst e
    rw [List.getElem?_set_self (by rw [fvs_len]; exact hl)]
    rcases hk with h | h <;> rw [h] <;> simp [fval, up2_same]
  · rw [List.getElem?_set_ne (fun q => e q.symm), fvs_at]
    cases fks[j]? with
    | none => rfl
    | some f => rcases f with _ | _ | _ | f <;> simp [fval, up2_col _ _ _ e]
theorem fvs_set2 (G : GG) (σ : St2) (id : Nat) (fks : List Nat) {k : Nat} (x : Int64) (hk : fks[k]? = some 1) : fvs G (σ.1, up2 σ.2 id k x) id 0 fks = (fvs G σ id 0 fks).set k (.long x) := by
  apply List.ext_getElem?
  intro j
  have hl : k < fks.length := (List.getElem?_eq_some_iff.mp hk).1
  rw [fvs_at]
  by_cases e : j = k
  · subst e
    rw [List.getElem?_set_self (by rw [fvs_len]; exact hl), hk]
    simp [fval, up2_same]
  · rw [List.getElem?_set_ne (fun q => e q.symm), fvs_at]
    cases fks[j]? with
    | none => rfl
    | some f => rcases f with _ | _ | _ | f <;> simp [fval, up2_col _ _ _ e]
/-! the locals -/
def lvl (G : GG) (l : LV) : List (Nat × Value) := (List.range l.length).filterMap (fun j => (nth l j).map (fun v => (j, cv G v)))
theorem nth_lt {l : LV} {j : Nat} {v : Value} (h : nth l j = some v) : j < l.length := by
  induction l generalizing j with
  | nil => cases h
  | cons a l ih => cases j with
    | zero => simp
    | succ j => simp; exact ih h
theorem lvl_mem {G : GG} {l : LV} {q : Nat × Value} : q ∈ lvl G l ↔ ∃ v, nth l q.1 = some v ∧ q.2 = cv G v := by
  unfold lvl
  rw [List.mem_filterMap]
  constructor
  · rintro ⟨j, -, h⟩
    cases hn : nth l j with
    | none => rw [hn] at h; cases h
    | some v => rw [hn] at h; cases h; exact ⟨v, hn, rfl⟩
  · rintro ⟨v, h1, h2⟩
    exact ⟨q.1, List.mem_range.mpr (nth_lt h1), by rw [h1]; simp [← h2]⟩
theorem lv_mono {ls : Array Slot} {nL : Nat} {L L' : List (Nat × Value)} (h : lv_has ls nL L) (hs : ∀ q ∈ L', q ∈ L) : lv_has ls nL L' := ⟨h.1, h.2.1, fun q hq => h.2.2 q (hs q hq)⟩
theorem lvl_get {G : GG} {ls : Array Slot} {nL : Nat} {l : LV} {j : Nat} {v : Value} (h : lv_has ls nL (lvl G l)) (hn : nth l j = some v) : ls[j]? = some (.val (cv G v)) := h.2.2 (j, cv G v) (lvl_mem.mpr ⟨v, hn, rfl⟩)
def setK {α : Type} : LV → Nat → Option Value → (LV → Option α) → Option α
  | [], _, _, _ => none
  | _ :: l, 0, v, k => k (v :: l)
  | a :: l, n + 1, v, k => setK l n v (fun l' => k (a :: l'))
theorem setK_ok {α : Type} {l : LV} {i : Nat} {v : Option Value} {k : LV → Option α} {r : α} (h : setK l i v k = some r) : i < l.length ∧ k (l.set i v) = some r := by
  induction l generalizing i k with
  | nil => cases h
  | cons a l ih => cases i with
    | zero => exact ⟨by simp, h⟩
    | succ i =>
      obtain ⟨h1, h2⟩ := ih h
      exact ⟨by simp; exact h1, h2⟩
theorem nth_set {l : LV} {i : Nat} {v : Option Value} (h : i < l.length) (j : Nat) : nth (l.set i v) j = if j = i then v else nth l j := by
  induction l generalizing i j with
  | nil => cases h
  | cons a l ih => cases i with
    | zero => cases j with
      | zero => rfl
      | succ j => simp [nth]
    | succ i => cases j with
      | zero => simp [nth]
      | succ j =>
        have h' : i < l.length := by simpa using h
        have := ih h' j
        simp only [List.set_cons_succ, nth, this]
        by_cases e : j = i
        · simp [e]
        · simp [e]
def st1 {α : Type} (l : LV) (i : Nat) (v : Value) (k : LV → Option α) : Option α :=
  match i with
  | 0 => setK l 0 (some v) k
  | j + 1 => match nth l j with
    | some (.long _) => setK l j none (fun l => setK l (j + 1) (some v) k)
    | some (.double _) => none
    | _ => setK l (j + 1) (some v) k
def st2 {α : Type} (l : LV) (i : Nat) (v : Value) (k : LV → Option α) : Option α := st1 l i v (fun l => setK l (i + 1) none k)
theorem cv_cat (G : GG) (v : Value) : (cv G v).category = v.category := by cases v <;> rfl
/-- what a store of one slot leaves -/
theorem st1_ok {α : Type} {l : LV} {i : Nat} {v : Value} {k : LV → Option α} {r : α} (h : st1 l i v k = some r) : ∃ l', k l' = some r ∧ l'.length = l.length ∧ i < l.length ∧ ∀ j w, nth l' j = some w → (j = i ∧ w = v) ∨ (j ≠ i ∧ nth l j = some w ∧ ¬ (j + 1 = i ∧ w.category = 2)) := by
  unfold st1 at h
  split at h
  · obtain ⟨h1, h2⟩ := setK_ok h
    refine ⟨_, h2, by simp, h1, fun j w hw => ?_⟩
    rw [nth_set h1] at hw
    by_cases e : j = 0
    · rw [if_pos e] at hw
      cases hw
      exact Or.inl ⟨e, rfl⟩
    · rw [if_neg e] at hw
      exact Or.inr ⟨e, hw, by omega⟩
  · rename_i j0
    split at h
    · rename_i x hx
      obtain ⟨h1, h2⟩ := setK_ok h
      obtain ⟨h3, h4⟩ := setK_ok h2
      have h3' : j0 + 1 < l.length := by simpa using h3
      refine ⟨_, h4, by simp, h3', fun j w hw => ?_⟩
      rw [nth_set h3] at hw
      by_cases e : j = j0 + 1
      · rw [if_pos e] at hw
        cases hw
        exact Or.inl ⟨e, rfl⟩
      · rw [if_neg e, nth_set h1] at hw
        by_cases e2 : j = j0
        · rw [if_pos e2] at hw
          cases hw
        · rw [if_neg e2] at hw
          exact Or.inr ⟨e, hw, by omega⟩
    · cases h
    · rename_i hn1 hn2
      obtain ⟨h1, h2⟩ := setK_ok h
      refine ⟨_, h2, by simp, h1, fun j w hw => ?_⟩
      rw [nth_set h1] at hw
      by_cases e : j = j0 + 1
      · rw [if_pos e] at hw
        cases hw
        exact Or.inl ⟨e, rfl⟩
      · rw [if_neg e] at hw
        refine Or.inr ⟨e, hw, fun q => ?_⟩
        have e2 : j = j0 := by omega
        subst e2
        cases w <;> simp [Value.category] at q
        · exact hn1 _ hw
        · exact hn2 _ hw
theorem st1_lv {α : Type} {G : GG} {ls' : Array Slot} {nL : Nat} {l l' : LV} {i : Nat} {v : Value} (hm : ∀ j w, nth l' j = some w → (j = i ∧ w = v) ∨ (j ≠ i ∧ nth l j = some w ∧ ¬ (j + 1 = i ∧ w.category = 2)))
    (h : lv_has ls' nL ((i, cv G v) :: (lvl G l).filter (fun q => !(q.1 == i) && !(q.1 + 1 == i && q.2.category == 2)))) : lv_has ls' nL (lvl G l') := by
  refine lv_mono h fun q hq => ?_
  obtain ⟨w, h1, h2⟩ := lvl_mem.mp hq
  obtain ⟨j, u⟩ := q
  simp only at h1 h2
  subst h2
  rcases hm j w h1 with ⟨rfl, rfl⟩ | ⟨n1, n2, n3⟩
  · exact List.mem_cons_self
  · refine List.mem_cons_of_mem _ (List.mem_filter.mpr ⟨lvl_mem.mpr ⟨w, n2, rfl⟩, ?_⟩)
    simp only [Bool.and_eq_true, Bool.not_eq_true', beq_eq_false_iff_ne, ne_eq, Bool.and_eq_false_iff, cv_cat]
    refine ⟨n1, ?_⟩
    by_cases e : j + 1 = i
    · exact Or.inr (fun q => n3 ⟨e, q⟩)
    · exact Or.inl e
theorem st2_ok {α : Type} {l : LV} {i : Nat} {v : Value} {k : LV → Option α} {r : α} (h : st2 l i v k = some r) : ∃ l', k l' = some r ∧ l'.length = l.length ∧ i + 1 < l.length ∧ ∀ j w, nth l' j = some w → (j = i ∧ w = v) ∨ (j ≠ i ∧ j ≠ i + 1 ∧ nth l j = some w ∧ ¬ (j + 1 = i ∧ w.category = 2)) := by
  obtain ⟨l1, h1, h2, h3, h4⟩ := st1_ok h
  obtain ⟨h5, h6⟩ := setK_ok h1
  refine ⟨_, h6, by simp [h2], by omega, fun j w hw => ?_⟩
  rw [nth_set h5] at hw
  by_cases e : j = i + 1
  · rw [if_pos e] at hw
    cases hw
  · rw [if_neg e] at hw
    rcases h4 j w hw with q | ⟨q1, q2, q3⟩
    · exact Or.inl q
    · exact Or.inr ⟨q1, e, q2, q3⟩
theorem st2_lv {G : GG} {ls' : Array Slot} {nL : Nat} {l l' : LV} {i : Nat} {v : Value} (hm : ∀ j w, nth l' j = some w → (j = i ∧ w = v) ∨ (j ≠ i ∧ j ≠ i + 1 ∧ nth l j = some w ∧ ¬ (j + 1 = i ∧ w.category = 2)))
    (h : lv_has ls' nL ((i, cv G v) :: (lvl G l).filter (fun q => !(q.1 == i) && (!(q.1 == i + 1) && !(q.1 + 1 == i && q.2.category == 2))))) : lv_has ls' nL (lvl G l') := by
  refine lv_mono h fun q hq => ?_
  obtain ⟨w, h1, h2⟩ := lvl_mem.mp hq
  obtain ⟨j, u⟩ := q
  simp only at h1 h2
  subst h2
  rcases hm j w h1 with ⟨rfl, rfl⟩ | ⟨n1, n0, n2, n3⟩
  · exact List.mem_cons_self
  · refine List.mem_cons_of_mem _ (List.mem_filter.mpr ⟨lvl_mem.mpr ⟨w, n2, rfl⟩, ?_⟩)
    simp only [Bool.and_eq_true, Bool.not_eq_true', beq_eq_false_iff_ne, ne_eq, Bool.and_eq_false_iff, cv_cat]
    refine ⟨n1, n0, ?_⟩
    by_cases e : j + 1 = i
    · exact Or.inr (fun q => n3 ⟨e, q⟩)
    · exact Or.inl e
end
section
/-! ===== one straight instruction, and its soundness ===== -/
def lnI : Instr → Nat
  | .iconst _ | .lconst _ | .iload_n _ | .lload_n _ | .aload_n _ | .istore_n _ | .lstore_n _ => 1
  | .bipush _ | .ldc _ | .iload _ | .lload _ | .aload _ | .istore _ | .lstore _ => 2
  | .sipush _ | .ldc2_w _ | .iinc _ _ | .getfield _ | .putfield _ => 3
  | _ => 1
/-- an instruction: its place, itself, three numbers (class and field, or a constant; the place of its word) -/
def cstV (c1 c2 : Nat) : Int32 := match c2 with
  | 0 => nI c1
  | _ => mI c1
def lnk (M : MR) (ri : RI) : Bool :=
  match ri.2.1 with
  | .iconst n => decide (Int32.ofInt n = cstV ri.2.2.1 ri.2.2.2.1)
  | .iinc _ n => decide (Int32.ofInt n = cstV ri.2.2.1 ri.2.2.2.1)
  | .getfield idx => match CLS[ri.2.2.1]? with
    | some (C, T, N) => decide (lw_tbl[ri.2.2.2.2]? = some (Cond.fieldLink M.1.cls idx C (T ri.2.2.2.1).2.1 (T ri.2.2.2.1).2.2.1)) && (decide (ri.2.2.2.1 < N) && decide ((T ri.2.2.2.1).1 = C))
    | none => false
  | .putfield idx => match CLS[ri.2.2.1]? with
    | some (C, T, N) => decide (lw_tbl[ri.2.2.2.2]? = some (Cond.fieldLink M.1.cls idx C (T ri.2.2.2.1).2.1 (T ri.2.2.2.1).2.2.1)) && (decide (ri.2.2.2.1 < N) && decide ((T ri.2.2.2.1).1 = C)) && decide ((T ri.2.2.2.1).2.2.2 = false)
    | none => false
  | .bipush n => decide ((Int8.ofInt n).toInt32 = cstV ri.2.2.1 ri.2.2.2.1)
  | .sipush n => decide ((Int16.ofInt n).toInt32 = cstV ri.2.2.1 ri.2.2.2.1)
  | .ldc idx => decide (lw_tbl[ri.2.2.2.2]? = some (Cond.constant M.1.cls idx (nI ri.2.2.1)))
  | .ldc2_w idx => decide (lw_tbl[ri.2.2.2.2]? = some (Cond.constantLong M.1.cls idx (lN ri.2.2.1)))
  | _ => true
def chk1 (M : MR) (ri : RI) : Bool := decide (decode M.2.1 ri.1 = .ok (ri.2.1, lnI ri.2.1)) && lnk M ri
def ldI {α : Type} (l : LV) (i : Nat) (k : Int32 → Option α) : Option α := match nth l i with
  | some (.int x) => k x
  | _ => none
def ldL {α : Type} (l : LV) (i : Nat) (k : Int64 → Option α) : Option α := match nth l i with
  | some (.long x) => k x
  | _ => none
def ldA {α : Type} (l : LV) (i : Nat) (k : Nat → Option α) : Option α := match nth l i with
  | some (.ref x) => k x
  | _ => none
def cst {α : Type} (c1 c2 : Nat) (k : Int32 → Option α) : Option α := match c2 with
  | 0 => k (nI c1)
  | _ => k (mI c1)
/-- the fields of the object in a cell, if it is of that class -/
def objK {α : Type} (id ci k : Nat) (kk : Nat → Option α) : Option α := match lnth lay id with
  | some (.inl (c, fks)) => match Nat.beq c ci with
    | true => match lnth fks k with
      | some f => kk f
      | none => none
    | false => none
  | _ => none
/-- the array in a cell: its type, length -/
def arrK {α : Type} (id : Nat) (kk : Nat → Nat → Option α) : Option α := match lnth lay id with
  | some (.inr (t, n, _)) => kk t n
  | _ => none
def ex1 {α : Type} (ri : RI) (l : LV) (st : List Value) (σ : St2) (k0 : LV → List Value → St2 → Option α) (k1 : Prop → LV → List Value → St2 → Option α) : Option α :=
  match ri with
  | (_, ins, c1, c2, _) => match ins with
  | .iconst _ => cst c1 c2 fun x => k0 l (.int x :: st) σ
  | .bipush _ => cst c1 c2 fun x => k0 l (.int x :: st) σ
  | .sipush _ => cst c1 c2 fun x => k0 l (.int x :: st) σ
  | .lconst n => k0 l (.long (lN n.val) :: st) σ
  | .ldc _ => k0 l (.int (nI c1) :: st) σ
  | .ldc2_w _ => k0 l (.long (lN c1) :: st) σ
  | .iload_n i => ldI l i.val fun x => k0 l (.int x :: st) σ
  | .iload i => ldI l i fun x => k0 l (.int x :: st) σ
  | .lload_n i => ldL l i.val fun x => k0 l (.long x :: st) σ
  | .lload i => ldL l i fun x => k0 l (.long x :: st) σ
  | .aload_n i => ldA l i.val fun x => k0 l (.ref x :: st) σ
  | .aload i => ldA l i fun x => k0 l (.ref x :: st) σ
  | .istore_n i => match st with
    | .int x :: r => st1 l i.val (.int x) fun l => k0 l r σ
    | _ => none
  | .istore i => match st with
    | .int x :: r => st1 l i (.int x) fun l => k0 l r σ
    | _ => none
  | .lstore_n i => match st with
    | .long x :: r => st2 l i.val (.long x) fun l => k0 l r σ
    | _ => none
  | .lstore i => match st with
    | .long x :: r => st2 l i (.long x) fun l => k0 l r σ
    | _ => none
  | .iinc i _ => ldI l i fun x => cst c1 c2 fun y => st1 l i (.int (x + y)) fun l => k0 l st σ
  | .iadd => match st with
    | .int y :: .int x :: r => k0 l (.int (x + y) :: r) σ
    | _ => none
  | .isub => match st with
    | .int y :: .int x :: r => k0 l (.int (x - y) :: r) σ
    | _ => none
  | .imul => match st with
    | .int y :: .int x :: r => k0 l (.int (x * y) :: r) σ
    | _ => none
  | .iand => match st with
    | .int y :: .int x :: r => k0 l (.int (x &&& y) :: r) σ
    | _ => none
  | .ior => match st with
    | .int y :: .int x :: r => k0 l (.int (x ||| y) :: r) σ
    | _ => none
  | .ishl => match st with
    | .int y :: .int x :: r => k0 l (.int (x <<< (y &&& 31)) :: r) σ
    | _ => none
  | .idiv => match st with
    | .int y :: .int x :: r => k1 (¬ y = 0) l (.int (x / y) :: r) σ
    | _ => none
  | .irem => match st with
    | .int y :: .int x :: r => k1 (¬ y = 0) l (.int (x - x / y * y) :: r) σ
    | _ => none
  | .ladd => match st with
    | .long y :: .long x :: r => k0 l (.long (x + y) :: r) σ
    | _ => none
  | .lsub => match st with
    | .long y :: .long x :: r => k0 l (.long (x - y) :: r) σ
    | _ => none
  | .lmul => match st with
    | .long y :: .long x :: r => k0 l (.long (x * y) :: r) σ
    | _ => none
  | .land => match st with
    | .long y :: .long x :: r => k0 l (.long (x &&& y) :: r) σ
    | _ => none
  | .ldiv => match st with
    | .long y :: .long x :: r => k1 (¬ y = 0) l (.long (x / y) :: r) σ
    | _ => none
  | .lushr => match st with
    | .int y :: .long x :: r => k0 l (.long (x.toUInt64 >>> (y.toInt64.toUInt64 &&& Int64.toUInt64 63)).toInt64 :: r) σ
    | _ => none
  | .lshr => match st with
    | .int y :: .long x :: r => k0 l (.long (x >>> (y.toInt64 &&& 63)) :: r) σ
    | _ => none
  | .lcmp => match st with
    | .long y :: .long x :: r => k0 l (.int (lg_cmp x y) :: r) σ
    | _ => none
  | .i2l => match st with
    | .int x :: r => k0 l (.long x.toInt64 :: r) σ
    | _ => none
  | .l2i => match st with
    | .long x :: r => k0 l (.int x.toInt32 :: r) σ
    | _ => none
  | .i2b => match st with
    | .int x :: r => k0 l (.int x.toInt8.toInt32 :: r) σ
    | _ => none
  | .dup => match st with
    | .int x :: r => k0 l (.int x :: .int x :: r) σ
    | .ref x :: r => k0 l (.ref x :: .ref x :: r) σ
    | _ => none
  | .getfield _ => match st with
    | .ref id :: r => objK id c1 c2 fun f => match f with
      | 0 => k0 l (.int (σ.1 id c2) :: r) σ
      | 1 => k0 l (.long (σ.2 id c2) :: r) σ
      | 2 => k0 l (.int (σ.1 id c2) :: r) σ
      | n + 3 => k0 l (.ref n :: r) σ
    | _ => none
  | .putfield _ => match st with
    | .int x :: .ref id :: r => objK id c1 c2 fun f => match f with
      | 0 => k0 l r (up2 σ.1 id c2 x, σ.2)
      | 2 => k1 (x = 0 ∨ x = 1) l r (up2 σ.1 id c2 x, σ.2)
      | _ => none
    | .long x :: .ref id :: r => objK id c1 c2 fun f => match f with
      | 1 => k0 l r (σ.1, up2 σ.2 id c2 x)
      | _ => none
    | _ => none
  | .iaload => match st with
    | .int i :: .ref id :: r => arrK id fun t n => match t with
      | 1 => k1 (vp_in i n) l (.int (σ.1 id i.toNatClampNeg) :: r) σ
      | _ => none
    | _ => none
  | .baload => match st with
    | .int i :: .ref id :: r => arrK id fun t n => match t with
      | 0 => k1 (vp_in i n) l (.int (σ.1 id i.toNatClampNeg) :: r) σ
      | 2 => k1 (vp_in i n) l (.int (σ.1 id i.toNatClampNeg) :: r) σ
      | _ => none
    | _ => none
  | .laload => match st with
    | .int i :: .ref id :: r => arrK id fun t n => match t with
      | 3 => k1 (vp_in i n) l (.long (σ.2 id i.toNatClampNeg) :: r) σ
      | _ => none
    | _ => none
  | .iastore => match st with
    | .int x :: .int i :: .ref id :: r => arrK id fun t n => match t with
      | 1 => k1 (vp_in i n) l r (up2 σ.1 id i.toNatClampNeg x, σ.2)
      | _ => none
    | _ => none
  | .bastore => match st with
    | .int x :: .int i :: .ref id :: r => arrK id fun t n => match t with
      | 0 => k1 (vp_in i n) l r (up2 σ.1 id i.toNatClampNeg x.toInt8.toInt32, σ.2)
      | 2 => k1 (vp_in i n) l r (up2 σ.1 id i.toNatClampNeg (x &&& 1), σ.2)
      | _ => none
    | _ => none
  | .lastore => match st with
    | .long x :: .int i :: .ref id :: r => arrK id fun t n => match t with
      | 3 => k1 (vp_in i n) l r (σ.1, up2 σ.2 id i.toNatClampNeg x)
      | _ => none
    | _ => none
  | .arraylength => match st with
    | .ref id :: r => arrK id fun _ n => k0 l (.int (nI n) :: r) σ
    | _ => none
  | _ => none
/-- what stays the same through a method's run -/
def Cx (G : GG) (M : MR) (p : Program) (s : State) (m : MethodId) (args : Array Value) (meth : Method) (c : Code) : Prop :=
  p.tables.exec = Jvm.exec ∧ c.code = M.2.1 ∧ meth.sig.returnType = M.2.2.2.1 ∧ c.maxLocals = M.2.2.1 ∧ s.vm.findClass M.1.cls = some m.cls ∧ (∀ w ∈ GT, w.before args s = true) ∧ meth.locks = false ∧ va_K G.1 CLS (tysG G) s ∧ ∀ i j, i < lay.length → j < lay.length → G.2.2 i = G.2.2 j → i = j
def Aad (G : GG) : Nat → Prop := fun q => ∃ id, id < lay.length ∧ q = G.2.2 id
abbrev rmM (M : MR) : Room := { frames := M.2.2.2.2.1, cells := 0, slots := 0, locals := M.2.2.2.2.2.1 }
def QQ (G : GG) (Q : Option Value → St2 → Prop) : Array Value → State → Outcome → State → Prop := fun _ st oc t => (∃ (v : Option Value) (σ' : St2), oc = .returned (v.map (cv G)) ∧ Q v σ' ∧ va_P G.1 CLS (World G σ') t.heap) ∧ va_F (Aad G) st t
/-- the method M, standing at pc with these locals, stack and store, returns, and Q answer store -/
def Ev (lc : Launch) (G : GG) (M : MR) (pc : Nat) (l : LV) (st : List Value) (σ : St2) (Q : Option Value → St2 → Prop) : Prop :=
  ∀ (p : Program) (e : Env) (s : State) (m : MethodId) (args : Array Value) (below : List Frame) (meth : Method) (c : Code), Cx G M p s m args meth c → ∀ (H : Heap) (locs : List Loc) (ls : Array Slot),
    va_P G.1 CLS (World G σ) H → va_S (Aad G) s.heap H locs → lv_has ls M.2.2.1 (lvl G l) ∧ l.length = M.2.2.1 → W p lc e (rmM M) s m args below meth c H locs 0 0 (MQ below (QQ G Q) args s 0 0 (Aad G)) (F0 m pc ls (st.map (cv G)))
theorem World_D {G : GG} (hA : ∀ i j, i < lay.length → j < lay.length → G.2.2 i = G.2.2 j → i = j) (σ : St2) : va_D (Aad G) (World G σ) := by
  have key : ∀ (k : Nat) (q : Nat × va_E), (World G σ)[k]? = some q → k < lay.length ∧ q = (G.2.2 k, cellE G σ k) := by
    intro k q h
    have hk : k < lay.length := by
      have := (List.getElem?_eq_some_iff.mp h).1
      rwa [World_len] at this
    rw [World_at G σ hk] at h
    exact ⟨hk, (Option.some.inj h).symm⟩
  refine ⟨fun i j x y hi hj hxy => ?_, fun k q hk => ?_⟩
  · obtain ⟨a1, rfl⟩ := key i x hi
    obtain ⟨a2, rfl⟩ := key j y hj
    exact hA i j a1 a2 hxy
  · obtain ⟨a1, rfl⟩ := key k q hk
    exact ⟨k, a1, rfl⟩
theorem objK_ok {α : Type} {id ci k : Nat} {kk : Nat → Option α} {r : α} (h : objK id ci k kk = some r) : ∃ fks f, lay[id]? = some (.inl (ci, fks)) ∧ fks[k]? = some f ∧ kk f = some r := by
  unfold objK at h
  rw [lnth_eq] at h
  split at h
  · rename_i c fks hl
    split at h
    · rename_i hb
      have e : c = ci := Nat.eq_of_beq_eq_true hb
      subst e
      rw [lnth_eq] at h
      split at h
      · rename_i f hf
        exact ⟨fks, f, hl, hf, h⟩
      · cases h
    · cases h
  · cases h
theorem arrK_ok {α : Type} {id : Nat} {kk : Nat → Nat → Option α} {r : α} (h : arrK id kk = some r) : ∃ t n q, lay[id]? = some (.inr (t, n, q)) ∧ kk t n = some r := by
  unfold arrK at h
  rw [lnth_eq] at h
  split at h
  · rename_i t n q hl
    exact ⟨t, n, q, hl, h⟩
  · cases h
theorem ldI_ok {α : Type} {l : LV} {i : Nat} {k : Int32 → Option α} {r : α} (h : ldI l i k = some r) : ∃ x, nth l i = some (.int x) ∧ k x = some r := by
  unfold ldI at h
  split at h
  · rename_i x hx; exact ⟨x, hx, h⟩
  · cases h
theorem ldL_ok {α : Type} {l : LV} {i : Nat} {k : Int64 → Option α} {r : α} (h : ldL l i k = some r) : ∃ x, nth l i = some (.long x) ∧ k x = some r := by
  unfold ldL at h
  split at h
  · rename_i x hx; exact ⟨x, hx, h⟩
  · cases h
theorem ldA_ok {α : Type} {l : LV} {i : Nat} {k : Nat → Option α} {r : α} (h : ldA l i k = some r) : ∃ x, nth l i = some (.ref x) ∧ k x = some r := by
  unfold ldA at h
  split at h
  · rename_i x hx; exact ⟨x, hx, h⟩
  · cases h
theorem cst_ok {α : Type} {c1 c2 : Nat} {k : Int32 → Option α} {r : α} (h : cst c1 c2 k = some r) : k (cstV c1 c2) = some r := by
  unfold cst at h
  unfold cstV
  split at h <;> exact h
end
section
/-! ===== soundness of one straight instruction ===== -/
def okL : (Nat × List Nat) ⊕ (Nat × Nat × Nat) → Bool
  | .inr (t, _, q) => (decide (t < 4)) && (decide (q = if t = 3 then 1 else 0))
  | .inl (ci, fks) => match CLS[ci]? with
    | none => false
    | some (_, T, N) => decide (fks.length = N) && (List.range N).all (fun k => match fks[k]? with
      | some 0 => decide (parseFieldDescriptor (T k).2.2.1 = some .int)
      | some 1 => decide (parseFieldDescriptor (T k).2.2.1 = some .long)
      | some 2 => decide (parseFieldDescriptor (T k).2.2.1 = some .boolean)
      | _ => true)
set_option maxRecDepth 100000 in
theorem lay_ok : lay.all okL = true := by decide +kernel
theorem lay_at {id : Nat} {x : (Nat × List Nat) ⊕ (Nat × Nat × Nat)} (h : lay[id]? = some x) : okL x = true := List.all_eq_true.mp lay_ok x (List.mem_of_getElem? h)
theorem lay_lt {id : Nat} {x : (Nat × List Nat) ⊕ (Nat × Nat × Nat)} (h : lay[id]? = some x) : id < lay.length := (List.getElem?_eq_some_iff.mp h).1
theorem lay_arr {id t n q : Nat} (h : lay[id]? = some (.inr (t, n, q))) : t < 4 ∧ q = if t = 3 then 1 else 0 := by
  have := lay_at h
  simpa [okL] using this
theorem lay_obj {id ci : Nat} {fks : List Nat} (h : lay[id]? = some (.inl (ci, fks))) : ∃ C T N, CLS[ci]? = some (C, T, N) ∧ fks.length = N ∧ ∀ k, k < N → (fks[k]? = some 0 → parseFieldDescriptor (T k).2.2.1 = some .int) ∧ (fks[k]? = some 1 → parseFieldDescriptor (T k).2.2.1 = some .long) ∧ (fks[k]? = some 2 → parseFieldDescriptor (T k).2.2.1 = some .boolean) := by
  have h0 := lay_at h
  unfold okL at h0
  simp only at h0
  split at h0
  · cases h0
  · rename_i C T N hc
    simp only [Bool.and_eq_true, decide_eq_true_eq] at h0
    refine ⟨C, T, N, hc, h0.1, fun k hk => ?_⟩
    have h1 := List.all_eq_true.mp h0.2 k (List.mem_range.mpr hk)
    refine ⟨fun e => ?_, fun e => ?_, fun e => ?_⟩ <;> rw [e] at h1 <;> simpa using h1
theorem cls_u {ci : Nat} {C : String} {T : u_T} {N : Nat} (h : CLS[ci]? = some (C, T, N)) : (∀ w ∈ u_ws C T N, w ∈ GT) ∧ ∃ ty : Nat → FieldType, (∀ k, k < N → parseFieldDescriptor (T k).2.2.1 = some (ty k)) ∧ ∀ a, a < N → ∀ b, b < N → a ≠ b → (T a).2.1 ≠ (T b).2.1 := by
  match ci, h with
  | 0, h => cases h; exact ⟨uX0, tyX0, tyX0_ok, nmX0⟩
  | 1, h => cases h; exact ⟨uX1, tyX1, tyX1_ok, nmX1⟩
  | 2, h => cases h; exact ⟨uX2, tyX2, tyX2_ok, nmX2⟩
  | 3, h => cases h; exact ⟨uX3, tyX3, tyX3_ok, nmX3⟩
  | 4, h => cases h; exact ⟨uX4, tyX4, tyX4_ok, nmX4⟩
  | 5, h => cases h; exact ⟨uX5, tyX5, tyX5_ok, nmX5⟩
  | 6, h => cases h; exact ⟨uX6, tyX6, tyX6_ok, nmX6⟩
  | 7, h => cases h; exact ⟨uX7, tyX7, tyX7_ok, nmX7⟩
  | 8, h => cases h; exact ⟨uX8, tyX8, tyX8_ok, nmX8⟩
  | n + 9, h => simp [CLS] at h
theorem tys_at (G : GG) : (tysG G)[0]? = some (G.2.1 0, .byte) ∧ (tysG G)[1]? = some (G.2.1 1, .int) ∧ (tysG G)[2]? = some (G.2.1 2, .boolean) ∧ (tysG G)[3]? = some (G.2.1 3, .long) := ⟨rfl, rfl, rfl, rfl⟩
theorem cell_arr {G : GG} {σ : St2} {id t n q : Nat} (h : lay[id]? = some (.inr (t, n, q))) (ht : t ≠ 3) : (World G σ)[id]? = some (G.2.2 id, .inl (G.2.1 t, n, .inl (σ.1 id))) := by
  obtain ⟨-, h2⟩ := lay_arr h
  rw [if_neg ht] at h2
  subst h2
  rw [World_at G σ (lay_lt h)]
  simp [cellE, h, cellL]
theorem cell_arrL {G : GG} {σ : St2} {id n q : Nat} (h : lay[id]? = some (.inr (3, n, q))) : (World G σ)[id]? = some (G.2.2 id, .inl (G.2.1 3, n, .inr (.inl (σ.2 id)))) := by
  obtain ⟨-, h2⟩ := lay_arr h
  rw [if_pos rfl] at h2
  subst h2
  rw [World_at G σ (lay_lt h)]
  simp [cellE, h, cellL]
theorem cell_obj {G : GG} {σ : St2} {id ci : Nat} {fks : List Nat} (h : lay[id]? = some (.inl (ci, fks))) : (World G σ)[id]? = some (G.2.2 id, .inr (ci, fvs G σ id 0 fks)) := by
  rw [World_at G σ (lay_lt h)]
  simp [cellE, h, cellL]
theorem upd_row (I : Nat → Nat → Int32) (a b : Nat) (x : Int32) : up2 I a b x a = upd (I a) b x := by
  funext q; simp [up2, upd]
theorem updL_row (I : Nat → Nat → Int64) (a b : Nat) (x : Int64) : up2 I a b x a = vp_updL (I a) b x := by
  funext q; simp [up2, vp_updL]
theorem World_arr {G : GG} {σ : St2} {id t n q : Nat} (h : lay[id]? = some (.inr (t, n, q))) (ht : t ≠ 3) (i : Nat) (x : Int32) : (World G σ).set id (G.2.2 id, .inl (G.2.1 t, n, .inl (upd (σ.1 id) i x))) = World G (up2 σ.1 id i x, σ.2) := by
  rw [World_set G σ (up2 σ.1 id i x, σ.2) (id := id) (fun j hj => cellE_ne1 G σ i x hj)]
  obtain ⟨-, h2⟩ := lay_arr h
  rw [if_neg ht] at h2
  subst h2
  simp [cellE, h, cellL, upd_row]
theorem World_arrL {G : GG} {σ : St2} {id n q : Nat} (h : lay[id]? = some (.inr (3, n, q))) (i : Nat) (x : Int64) : (World G σ).set id (G.2.2 id, .inl (G.2.1 3, n, .inr (.inl (vp_updL (σ.2 id) i x)))) = World G (σ.1, up2 σ.2 id i x) := by
  rw [World_set G σ (σ.1, up2 σ.2 id i x) (id := id) (fun j hj => cellE_ne2 G σ i x hj)]
  obtain ⟨-, h2⟩ := lay_arr h
  rw [if_pos rfl] at h2
  subst h2
  simp [cellE, h, cellL, updL_row]
theorem World_fld {G : GG} {σ : St2} {id ci k : Nat} {fks : List Nat} (h : lay[id]? = some (.inl (ci, fks))) (hk : fks[k]? = some 0 ∨ fks[k]? = some 2) (x : Int32) : (World G σ).set id (G.2.2 id, .inr (ci, (fvs G σ id 0 fks).set k (.int x))) = World G (up2 σ.1 id k x, σ.2) := by
  rw [World_set G σ (up2 σ.1 id k x, σ.2) (id := id) (fun j hj => cellE_ne1 G σ k x hj)]
  simp [cellE, h, cellL, fvs_set1 G σ id fks x hk]
theorem World_fldL {G : GG} {σ : St2} {id ci k : Nat} {fks : List Nat} (h : lay[id]? = some (.inl (ci, fks))) (hk : fks[k]? = some 1) (x : Int64) : (World G σ).set id (G.2.2 id, .inr (ci, (fvs G σ id 0 fks).set k (.long x))) = World G (σ.1, up2 σ.2 id k x) := by
  rw [World_set G σ (σ.1, up2 σ.2 id k x) (id := id) (fun j hj => cellE_ne2 G σ k x hj)]
  simp [cellE, h, cellL, fvs_set2 G σ id fks x hk]
/-- from one state to the next, under P -/
def Nx (M : MR) (pc : Nat) (l : LV) (st : List Value) (σ : St2) (P : Prop) (pc' : Nat) (l' : LV) (st' : List Value) (σ' : St2) : Prop := ∀ (lc : Launch) (G : GG) (Q : Option Value → St2 → Prop), P → Ev lc G M pc' l' st' σ' Q → Ev lc G M pc l st σ Q
def Res {α : Type} (M : MR) (ri : RI) (l : LV) (st : List Value) (σ : St2) (k0 : LV → List Value → St2 → Option α) (k1 : Prop → LV → List Value → St2 → Option α) (r : α) : Prop :=
  (∃ l' st' σ', k0 l' st' σ' = some r ∧ Nx M ri.1 l st σ True (ri.1 + lnI ri.2.1) l' st' σ') ∨ (∃ P l' st' σ', k1 P l' st' σ' = some r ∧ Nx M ri.1 l st σ P (ri.1 + lnI ri.2.1) l' st' σ')

theorem sx_iconst {α : Type} {M : MR} {pc a1 a2 a3 : Nat} {l : LV} {st : List Value} {σ : St2} {k0 : LV → List Value → St2 → Option α} {k1 : Prop → LV → List Value → St2 → Option α} {r : α} {n : Int} (hd : decode M.2.1 pc = .ok (.iconst n, 1)) (hk : lnk M (pc, .iconst n, a1, a2, a3) = true) (h : ex1 (pc, .iconst n, a1, a2, a3) l st σ k0 k1 = some r) : Res M (pc, .iconst n, a1, a2, a3) l st σ k0 k1 r := by
  have h2 : k0 l (.int (cstV a1 a2) :: st) σ = some r := cst_ok (k := fun x => k0 l (.int x :: st) σ) h
  exact Or.inl ⟨_, _, _, h2, fun lc G Q hp hE p e s m args below meth c C H locs ls hP hS hl => lv_iconst C.1 C.2.1 hd (by simpa [lnk] using hk) (hE p e s m args below meth c C H locs ls hP hS hl)⟩
theorem sx_bipush {α : Type} {M : MR} {pc a1 a2 a3 : Nat} {l : LV} {st : List Value} {σ : St2} {k0 : LV → List Value → St2 → Option α} {k1 : Prop → LV → List Value → St2 → Option α} {r : α} {n : Int} (hd : decode M.2.1 pc = .ok (.bipush n, 2)) (hk : lnk M (pc, .bipush n, a1, a2, a3) = true) (h : ex1 (pc, .bipush n, a1, a2, a3) l st σ k0 k1 = some r) : Res M (pc, .bipush n, a1, a2, a3) l st σ k0 k1 r := by
  have h2 : k0 l (.int (cstV a1 a2) :: st) σ = some r := cst_ok (k := fun x => k0 l (.int x :: st) σ) h
  exact Or.inl ⟨_, _, _, h2, fun lc G Q hp hE p e s m args below meth c C H locs ls hP hS hl => lv_bipush C.1 C.2.1 hd (by simpa [lnk] using hk) (hE p e s m args below meth c C H locs ls hP hS hl)⟩
theorem sx_sipush {α : Type} {M : MR} {pc a1 a2 a3 : Nat} {l : LV} {st : List Value} {σ : St2} {k0 : LV → List Value → St2 → Option α} {k1 : Prop → LV → List Value → St2 → Option α} {r : α} {n : Int} (hd : decode M.2.1 pc = .ok (.sipush n, 3)) (hk : lnk M (pc, .sipush n, a1, a2, a3) = true) (h : ex1 (pc, .sipush n, a1, a2, a3) l st σ k0 k1 = some r) : Res M (pc, .sipush n, a1, a2, a3) l st σ k0 k1 r := by
  have h2 : k0 l (.int (cstV a1 a2) :: st) σ = some r := cst_ok (k := fun x => k0 l (.int x :: st) σ) h
  exact Or.inl ⟨_, _, _, h2, fun lc G Q hp hE p e s m args below meth c C H locs ls hP hS hl => lv_sipush C.1 C.2.1 hd (by simpa [lnk] using hk) (hE p e s m args below meth c C H locs ls hP hS hl)⟩
theorem sx_lconst {α : Type} {M : MR} {pc a1 a2 a3 : Nat} {l : LV} {st : List Value} {σ : St2} {k0 : LV → List Value → St2 → Option α} {k1 : Prop → LV → List Value → St2 → Option α} {r : α} {n : Fin 2} (hd : decode M.2.1 pc = .ok (.lconst n, 1)) (h : ex1 (pc, .lconst n, a1, a2, a3) l st σ k0 k1 = some r) : Res M (pc, .lconst n, a1, a2, a3) l st σ k0 k1 r := by
  exact Or.inl ⟨_, _, _, h, fun lc G Q hp hE p e s m args below meth c C H locs ls hP hS hl => lv_lconst C.1 C.2.1 hd rfl (hE p e s m args below meth c C H locs ls hP hS hl)⟩
theorem sx_ldc {α : Type} {M : MR} {pc a1 a2 a3 : Nat} {l : LV} {st : List Value} {σ : St2} {k0 : LV → List Value → St2 → Option α} {k1 : Prop → LV → List Value → St2 → Option α} {r : α} {n : Nat} (hd : decode M.2.1 pc = .ok (.ldc n, 2)) (hk : lnk M (pc, .ldc n, a1, a2, a3) = true) (h : ex1 (pc, .ldc n, a1, a2, a3) l st σ k0 k1 = some r) : Res M (pc, .ldc n, a1, a2, a3) l st σ k0 k1 r := by
  have hk' : lw_tbl[a3]? = some (Cond.constant M.1.cls n (nI a1)) := by simpa [lnk] using hk
  exact Or.inl ⟨_, _, _, h, fun lc G Q hp hE p e s m args below meth c C H locs ls hP hS hl => lv_ldc C.1 C.2.1 C.2.2.2.2.1 (C.2.2.2.2.2.1 _ (GT_at hk' rfl)) hd (hE p e s m args below meth c C H locs ls hP hS hl)⟩
theorem sx_ldc2_w {α : Type} {M : MR} {pc a1 a2 a3 : Nat} {l : LV} {st : List Value} {σ : St2} {k0 : LV → List Value → St2 → Option α} {k1 : Prop → LV → List Value → St2 → Option α} {r : α} {n : Nat} (hd : decode M.2.1 pc = .ok (.ldc2_w n, 3)) (hk : lnk M (pc, .ldc2_w n, a1, a2, a3) = true) (h : ex1 (pc, .ldc2_w n, a1, a2, a3) l st σ k0 k1 = some r) : Res M (pc, .ldc2_w n, a1, a2, a3) l st σ k0 k1 r := by
  have hk' : lw_tbl[a3]? = some (Cond.constantLong M.1.cls n (lN a1)) := by simpa [lnk] using hk
  exact Or.inl ⟨_, _, _, h, fun lc G Q hp hE p e s m args below meth c C H locs ls hP hS hl => lv_ldc2 C.1 C.2.1 C.2.2.2.2.1 (C.2.2.2.2.2.1 _ (GT_at hk' rfl)) hd (hE p e s m args below meth c C H locs ls hP hS hl)⟩
theorem sx_iload_n {α : Type} {M : MR} {pc a1 a2 a3 : Nat} {l : LV} {st : List Value} {σ : St2} {k0 : LV → List Value → St2 → Option α} {k1 : Prop → LV → List Value → St2 → Option α} {r : α} {n : Fin 4} (hd : decode M.2.1 pc = .ok (.iload_n n, 1)) (h : ex1 (pc, .iload_n n, a1, a2, a3) l st σ k0 k1 = some r) : Res M (pc, .iload_n n, a1, a2, a3) l st σ k0 k1 r := by
  obtain ⟨x, h1, h2⟩ := ldI_ok h
  exact Or.inl ⟨_, _, _, h2, fun lc G Q hp hE p e s m args below meth c C H locs ls hP hS hl => lv_iload_n C.1 C.2.1 hd rfl (lvl_get hl.1 h1) (hE p e s m args below meth c C H locs ls hP hS hl)⟩
theorem sx_iload {α : Type} {M : MR} {pc a1 a2 a3 : Nat} {l : LV} {st : List Value} {σ : St2} {k0 : LV → List Value → St2 → Option α} {k1 : Prop → LV → List Value → St2 → Option α} {r : α} {n : Nat} (hd : decode M.2.1 pc = .ok (.iload n, 2)) (h : ex1 (pc, .iload n, a1, a2, a3) l st σ k0 k1 = some r) : Res M (pc, .iload n, a1, a2, a3) l st σ k0 k1 r := by
  obtain ⟨x, h1, h2⟩ := ldI_ok h
  exact Or.inl ⟨_, _, _, h2, fun lc G Q hp hE p e s m args below meth c C H locs ls hP hS hl => lv_iload C.1 C.2.1 hd (lvl_get hl.1 h1) (hE p e s m args below meth c C H locs ls hP hS hl)⟩
theorem sx_lload_n {α : Type} {M : MR} {pc a1 a2 a3 : Nat} {l : LV} {st : List Value} {σ : St2} {k0 : LV → List Value → St2 → Option α} {k1 : Prop → LV → List Value → St2 → Option α} {r : α} {n : Fin 4} (hd : decode M.2.1 pc = .ok (.lload_n n, 1)) (h : ex1 (pc, .lload_n n, a1, a2, a3) l st σ k0 k1 = some r) : Res M (pc, .lload_n n, a1, a2, a3) l st σ k0 k1 r := by
  obtain ⟨x, h1, h2⟩ := ldL_ok h
  exact Or.inl ⟨_, _, _, h2, fun lc G Q hp hE p e s m args below meth c C H locs ls hP hS hl => lv_lload_n C.1 C.2.1 hd rfl (lvl_get hl.1 h1) (hE p e s m args below meth c C H locs ls hP hS hl)⟩
theorem sx_lload {α : Type} {M : MR} {pc a1 a2 a3 : Nat} {l : LV} {st : List Value} {σ : St2} {k0 : LV → List Value → St2 → Option α} {k1 : Prop → LV → List Value → St2 → Option α} {r : α} {n : Nat} (hd : decode M.2.1 pc = .ok (.lload n, 2)) (h : ex1 (pc, .lload n, a1, a2, a3) l st σ k0 k1 = some r) : Res M (pc, .lload n, a1, a2, a3) l st σ k0 k1 r := by
  obtain ⟨x, h1, h2⟩ := ldL_ok h
  exact Or.inl ⟨_, _, _, h2, fun lc G Q hp hE p e s m args below meth c C H locs ls hP hS hl => lv_lload C.1 C.2.1 hd (lvl_get hl.1 h1) (hE p e s m args below meth c C H locs ls hP hS hl)⟩
theorem sx_aload_n {α : Type} {M : MR} {pc a1 a2 a3 : Nat} {l : LV} {st : List Value} {σ : St2} {k0 : LV → List Value → St2 → Option α} {k1 : Prop → LV → List Value → St2 → Option α} {r : α} {n : Fin 4} (hd : decode M.2.1 pc = .ok (.aload_n n, 1)) (h : ex1 (pc, .aload_n n, a1, a2, a3) l st σ k0 k1 = some r) : Res M (pc, .aload_n n, a1, a2, a3) l st σ k0 k1 r := by
  obtain ⟨x, h1, h2⟩ := ldA_ok h
  exact Or.inl ⟨_, _, _, h2, fun lc G Q hp hE p e s m args below meth c C H locs ls hP hS hl => lv_aload_n C.1 C.2.1 hd rfl (lvl_get hl.1 h1) (hE p e s m args below meth c C H locs ls hP hS hl)⟩
theorem sx_aload {α : Type} {M : MR} {pc a1 a2 a3 : Nat} {l : LV} {st : List Value} {σ : St2} {k0 : LV → List Value → St2 → Option α} {k1 : Prop → LV → List Value → St2 → Option α} {r : α} {n : Nat} (hd : decode M.2.1 pc = .ok (.aload n, 2)) (h : ex1 (pc, .aload n, a1, a2, a3) l st σ k0 k1 = some r) : Res M (pc, .aload n, a1, a2, a3) l st σ k0 k1 r := by
  obtain ⟨x, h1, h2⟩ := ldA_ok h
  exact Or.inl ⟨_, _, _, h2, fun lc G Q hp hE p e s m args below meth c C H locs ls hP hS hl => lv_aload C.1 C.2.1 hd (lvl_get hl.1 h1) (hE p e s m args below meth c C H locs ls hP hS hl)⟩
theorem sx_istore_n {α : Type} {M : MR} {pc a1 a2 a3 : Nat} {l : LV} {st : List Value} {σ : St2} {k0 : LV → List Value → St2 → Option α} {k1 : Prop → LV → List Value → St2 → Option α} {r : α} {n : Fin 4} (hd : decode M.2.1 pc = .ok (.istore_n n, 1)) (h : ex1 (pc, .istore_n n, a1, a2, a3) l st σ k0 k1 = some r) : Res M (pc, .istore_n n, a1, a2, a3) l st σ k0 k1 r := by
  dsimp only [ex1] at h
  split at h
  · rename_i x rr
    obtain ⟨l', h2, h3, h4, h5⟩ := st1_ok h
    exact Or.inl ⟨_, _, _, h2, fun lc G Q hp hE p e s m args below meth c C H locs ls hP hS hl => lv_istore_n C.1 C.2.1 hd rfl hl.1 (by omega) rfl (fun ls' hl' => hE p e s m args below meth c C H locs ls' hP hS ⟨st1_lv (α := α) h5 hl', by omega⟩)⟩
  · cases h
theorem sx_istore {α : Type} {M : MR} {pc a1 a2 a3 : Nat} {l : LV} {st : List Value} {σ : St2} {k0 : LV → List Value → St2 → Option α} {k1 : Prop → LV → List Value → St2 → Option α} {r : α} {n : Nat} (hd : decode M.2.1 pc = .ok (.istore n, 2)) (h : ex1 (pc, .istore n, a1, a2, a3) l st σ k0 k1 = some r) : Res M (pc, .istore n, a1, a2, a3) l st σ k0 k1 r := by
  dsimp only [ex1] at h
  split at h
  · rename_i x rr
    obtain ⟨l', h2, h3, h4, h5⟩ := st1_ok h
    exact Or.inl ⟨_, _, _, h2, fun lc G Q hp hE p e s m args below meth c C H locs ls hP hS hl => lv_istore C.1 C.2.1 hd hl.1 (by omega) rfl (fun ls' hl' => hE p e s m args below meth c C H locs ls' hP hS ⟨st1_lv (α := α) h5 hl', by omega⟩)⟩
  · cases h
theorem sx_lstore_n {α : Type} {M : MR} {pc a1 a2 a3 : Nat} {l : LV} {st : List Value} {σ : St2} {k0 : LV → List Value → St2 → Option α} {k1 : Prop → LV → List Value → St2 → Option α} {r : α} {n : Fin 4} (hd : decode M.2.1 pc = .ok (.lstore_n n, 1)) (h : ex1 (pc, .lstore_n n, a1, a2, a3) l st σ k0 k1 = some r) : Res M (pc, .lstore_n n, a1, a2, a3) l st σ k0 k1 r := by
  dsimp only [ex1] at h
  split at h
  · rename_i x rr
    obtain ⟨l', h2, h3, h4, h5⟩ := st2_ok h
    exact Or.inl ⟨_, _, _, h2, fun lc G Q hp hE p e s m args below meth c C H locs ls hP hS hl => lv_lstore_n C.1 C.2.1 hd rfl hl.1 (by omega) rfl (fun ls' hl' => hE p e s m args below meth c C H locs ls' hP hS ⟨st2_lv h5 hl', by omega⟩)⟩
  · cases h
theorem sx_lstore {α : Type} {M : MR} {pc a1 a2 a3 : Nat} {l : LV} {st : List Value} {σ : St2} {k0 : LV → List Value → St2 → Option α} {k1 : Prop → LV → List Value → St2 → Option α} {r : α} {n : Nat} (hd : decode M.2.1 pc = .ok (.lstore n, 2)) (h : ex1 (pc, .lstore n, a1, a2, a3) l st σ k0 k1 = some r) : Res M (pc, .lstore n, a1, a2, a3) l st σ k0 k1 r := by
  dsimp only [ex1] at h
  split at h
  · rename_i x rr
    obtain ⟨l', h2, h3, h4, h5⟩ := st2_ok h
    exact Or.inl ⟨_, _, _, h2, fun lc G Q hp hE p e s m args below meth c C H locs ls hP hS hl => lv_lstore C.1 C.2.1 hd hl.1 (by omega) rfl (fun ls' hl' => hE p e s m args below meth c C H locs ls' hP hS ⟨st2_lv h5 hl', by omega⟩)⟩
  · cases h
theorem sx_iinc {α : Type} {M : MR} {pc a1 a2 a3 : Nat} {l : LV} {st : List Value} {σ : St2} {k0 : LV → List Value → St2 → Option α} {k1 : Prop → LV → List Value → St2 → Option α} {r : α} {i : Nat} {n : Int} (hd : decode M.2.1 pc = .ok (.iinc i n, 3)) (hk : lnk M (pc, .iinc i n, a1, a2, a3) = true) (h : ex1 (pc, .iinc i n, a1, a2, a3) l st σ k0 k1 = some r) : Res M (pc, .iinc i n, a1, a2, a3) l st σ k0 k1 r := by
  obtain ⟨x, h1, h2⟩ := ldI_ok h
  have h2 := cst_ok h2
  obtain ⟨l', h6, h3, h4, h5⟩ := st1_ok h2
  refine Or.inl ⟨_, _, _, h6, fun lc G Q hp hE p e s m args below meth c C H locs ls hP hS hl => ?_⟩
  obtain ⟨kx, hkx⟩ := List.getElem?_of_mem ((lvl_mem (G := G) (l := l) (q := (i, .int x))).mpr ⟨.int x, h1, rfl⟩)
  exact lv_iinc C.1 C.2.1 hd hl.1 hkx (by rw [show Int32.ofInt n = cstV a1 a2 by simpa [lnk] using hk]) (by omega) rfl (fun ls' hl' => hE p e s m args below meth c C H locs ls' hP hS ⟨st1_lv (α := α) h5 hl', by omega⟩)
theorem sx_iadd {α : Type} {M : MR} {pc a1 a2 a3 : Nat} {l : LV} {st : List Value} {σ : St2} {k0 : LV → List Value → St2 → Option α} {k1 : Prop → LV → List Value → St2 → Option α} {r : α} (hd : decode M.2.1 pc = .ok (.iadd, 1)) (h : ex1 (pc, .iadd, a1, a2, a3) l st σ k0 k1 = some r) : Res M (pc, .iadd, a1, a2, a3) l st σ k0 k1 r := by
  dsimp only [ex1] at h
  split at h
  · exact Or.inl ⟨_, _, _, h, fun lc G Q hp hE p e s m args below meth c C H locs ls hP hS hl => lv_iadd C.1 C.2.1 hd (hE p e s m args below meth c C H locs ls hP hS hl)⟩
  · cases h
theorem sx_isub {α : Type} {M : MR} {pc a1 a2 a3 : Nat} {l : LV} {st : List Value} {σ : St2} {k0 : LV → List Value → St2 → Option α} {k1 : Prop → LV → List Value → St2 → Option α} {r : α} (hd : decode M.2.1 pc = .ok (.isub, 1)) (h : ex1 (pc, .isub, a1, a2, a3) l st σ k0 k1 = some r) : Res M (pc, .isub, a1, a2, a3) l st σ k0 k1 r := by
  dsimp only [ex1] at h
  split at h
  · exact Or.inl ⟨_, _, _, h, fun lc G Q hp hE p e s m args below meth c C H locs ls hP hS hl => lv_isub C.1 C.2.1 hd (hE p e s m args below meth c C H locs ls hP hS hl)⟩
  · cases h
theorem sx_imul {α : Type} {M : MR} {pc a1 a2 a3 : Nat} {l : LV} {st : List Value} {σ : St2} {k0 : LV → List Value → St2 → Option α} {k1 : Prop → LV → List Value → St2 → Option α} {r : α} (hd : decode M.2.1 pc = .ok (.imul, 1)) (h : ex1 (pc, .imul, a1, a2, a3) l st σ k0 k1 = some r) : Res M (pc, .imul, a1, a2, a3) l st σ k0 k1 r := by
  dsimp only [ex1] at h
  split at h
  · exact Or.inl ⟨_, _, _, h, fun lc G Q hp hE p e s m args below meth c C H locs ls hP hS hl => lv_imul C.1 C.2.1 hd (hE p e s m args below meth c C H locs ls hP hS hl)⟩
  · cases h
theorem sx_iand {α : Type} {M : MR} {pc a1 a2 a3 : Nat} {l : LV} {st : List Value} {σ : St2} {k0 : LV → List Value → St2 → Option α} {k1 : Prop → LV → List Value → St2 → Option α} {r : α} (hd : decode M.2.1 pc = .ok (.iand, 1)) (h : ex1 (pc, .iand, a1, a2, a3) l st σ k0 k1 = some r) : Res M (pc, .iand, a1, a2, a3) l st σ k0 k1 r := by
  dsimp only [ex1] at h
  split at h
  · exact Or.inl ⟨_, _, _, h, fun lc G Q hp hE p e s m args below meth c C H locs ls hP hS hl => lv_iand C.1 C.2.1 hd (hE p e s m args below meth c C H locs ls hP hS hl)⟩
  · cases h
theorem sx_ior {α : Type} {M : MR} {pc a1 a2 a3 : Nat} {l : LV} {st : List Value} {σ : St2} {k0 : LV → List Value → St2 → Option α} {k1 : Prop → LV → List Value → St2 → Option α} {r : α} (hd : decode M.2.1 pc = .ok (.ior, 1)) (h : ex1 (pc, .ior, a1, a2, a3) l st σ k0 k1 = some r) : Res M (pc, .ior, a1, a2, a3) l st σ k0 k1 r := by
  dsimp only [ex1] at h
  split at h
  · exact Or.inl ⟨_, _, _, h, fun lc G Q hp hE p e s m args below meth c C H locs ls hP hS hl => lv_ior C.1 C.2.1 hd (hE p e s m args below meth c C H locs ls hP hS hl)⟩
  · cases h
theorem sx_ishl {α : Type} {M : MR} {pc a1 a2 a3 : Nat} {l : LV} {st : List Value} {σ : St2} {k0 : LV → List Value → St2 → Option α} {k1 : Prop → LV → List Value → St2 → Option α} {r : α} (hd : decode M.2.1 pc = .ok (.ishl, 1)) (h : ex1 (pc, .ishl, a1, a2, a3) l st σ k0 k1 = some r) : Res M (pc, .ishl, a1, a2, a3) l st σ k0 k1 r := by
  dsimp only [ex1] at h
  split at h
  · exact Or.inl ⟨_, _, _, h, fun lc G Q hp hE p e s m args below meth c C H locs ls hP hS hl => lv_ishl C.1 C.2.1 hd (hE p e s m args below meth c C H locs ls hP hS hl)⟩
  · cases h
theorem sx_ladd {α : Type} {M : MR} {pc a1 a2 a3 : Nat} {l : LV} {st : List Value} {σ : St2} {k0 : LV → List Value → St2 → Option α} {k1 : Prop → LV → List Value → St2 → Option α} {r : α} (hd : decode M.2.1 pc = .ok (.ladd, 1)) (h : ex1 (pc, .ladd, a1, a2, a3) l st σ k0 k1 = some r) : Res M (pc, .ladd, a1, a2, a3) l st σ k0 k1 r := by
  dsimp only [ex1] at h
  split at h
  · exact Or.inl ⟨_, _, _, h, fun lc G Q hp hE p e s m args below meth c C H locs ls hP hS hl => lv_ladd C.1 C.2.1 hd (hE p e s m args below meth c C H locs ls hP hS hl)⟩
  · cases h
theorem sx_lsub {α : Type} {M : MR} {pc a1 a2 a3 : Nat} {l : LV} {st : List Value} {σ : St2} {k0 : LV → List Value → St2 → Option α} {k1 : Prop → LV → List Value → St2 → Option α} {r : α} (hd : decode M.2.1 pc = .ok (.lsub, 1)) (h : ex1 (pc, .lsub, a1, a2, a3) l st σ k0 k1 = some r) : Res M (pc, .lsub, a1, a2, a3) l st σ k0 k1 r := by
  dsimp only [ex1] at h
  split at h
  · exact Or.inl ⟨_, _, _, h, fun lc G Q hp hE p e s m args below meth c C H locs ls hP hS hl => lv_lsub C.1 C.2.1 hd (hE p e s m args below meth c C H locs ls hP hS hl)⟩
  · cases h
theorem sx_lmul {α : Type} {M : MR} {pc a1 a2 a3 : Nat} {l : LV} {st : List Value} {σ : St2} {k0 : LV → List Value → St2 → Option α} {k1 : Prop → LV → List Value → St2 → Option α} {r : α} (hd : decode M.2.1 pc = .ok (.lmul, 1)) (h : ex1 (pc, .lmul, a1, a2, a3) l st σ k0 k1 = some r) : Res M (pc, .lmul, a1, a2, a3) l st σ k0 k1 r := by
  dsimp only [ex1] at h
  split at h
  · exact Or.inl ⟨_, _, _, h, fun lc G Q hp hE p e s m args below meth c C H locs ls hP hS hl => lv_lmul C.1 C.2.1 hd (hE p e s m args below meth c C H locs ls hP hS hl)⟩
  · cases h
theorem sx_land {α : Type} {M : MR} {pc a1 a2 a3 : Nat} {l : LV} {st : List Value} {σ : St2} {k0 : LV → List Value → St2 → Option α} {k1 : Prop → LV → List Value → St2 → Option α} {r : α} (hd : decode M.2.1 pc = .ok (.land, 1)) (h : ex1 (pc, .land, a1, a2, a3) l st σ k0 k1 = some r) : Res M (pc, .land, a1, a2, a3) l st σ k0 k1 r := by
  dsimp only [ex1] at h
  split at h
  · exact Or.inl ⟨_, _, _, h, fun lc G Q hp hE p e s m args below meth c C H locs ls hP hS hl => lv_land C.1 C.2.1 hd (hE p e s m args below meth c C H locs ls hP hS hl)⟩
  · cases h
theorem sx_idiv {α : Type} {M : MR} {pc a1 a2 a3 : Nat} {l : LV} {st : List Value} {σ : St2} {k0 : LV → List Value → St2 → Option α} {k1 : Prop → LV → List Value → St2 → Option α} {r : α} (hd : decode M.2.1 pc = .ok (.idiv, 1)) (h : ex1 (pc, .idiv, a1, a2, a3) l st σ k0 k1 = some r) : Res M (pc, .idiv, a1, a2, a3) l st σ k0 k1 r := by
  dsimp only [ex1] at h
  split at h
  · exact Or.inr ⟨_, _, _, _, h, fun lc G Q hp hE p e s m args below meth c C H locs ls hP hS hl => lv_idiv C.1 C.2.1 hd hp (hE p e s m args below meth c C H locs ls hP hS hl)⟩
  · cases h
theorem sx_irem {α : Type} {M : MR} {pc a1 a2 a3 : Nat} {l : LV} {st : List Value} {σ : St2} {k0 : LV → List Value → St2 → Option α} {k1 : Prop → LV → List Value → St2 → Option α} {r : α} (hd : decode M.2.1 pc = .ok (.irem, 1)) (h : ex1 (pc, .irem, a1, a2, a3) l st σ k0 k1 = some r) : Res M (pc, .irem, a1, a2, a3) l st σ k0 k1 r := by
  dsimp only [ex1] at h
  split at h
  · exact Or.inr ⟨_, _, _, _, h, fun lc G Q hp hE p e s m args below meth c C H locs ls hP hS hl => lv_irem C.1 C.2.1 hd hp (hE p e s m args below meth c C H locs ls hP hS hl)⟩
  · cases h
theorem sx_ldiv {α : Type} {M : MR} {pc a1 a2 a3 : Nat} {l : LV} {st : List Value} {σ : St2} {k0 : LV → List Value → St2 → Option α} {k1 : Prop → LV → List Value → St2 → Option α} {r : α} (hd : decode M.2.1 pc = .ok (.ldiv, 1)) (h : ex1 (pc, .ldiv, a1, a2, a3) l st σ k0 k1 = some r) : Res M (pc, .ldiv, a1, a2, a3) l st σ k0 k1 r := by
  dsimp only [ex1] at h
  split at h
  · exact Or.inr ⟨_, _, _, _, h, fun lc G Q hp hE p e s m args below meth c C H locs ls hP hS hl => lv_ldiv C.1 C.2.1 hd hp (hE p e s m args below meth c C H locs ls hP hS hl)⟩
  · cases h
theorem sx_lushr {α : Type} {M : MR} {pc a1 a2 a3 : Nat} {l : LV} {st : List Value} {σ : St2} {k0 : LV → List Value → St2 → Option α} {k1 : Prop → LV → List Value → St2 → Option α} {r : α} (hd : decode M.2.1 pc = .ok (.lushr, 1)) (h : ex1 (pc, .lushr, a1, a2, a3) l st σ k0 k1 = some r) : Res M (pc, .lushr, a1, a2, a3) l st σ k0 k1 r := by
  dsimp only [ex1] at h
  split at h
  · exact Or.inl ⟨_, _, _, h, fun lc G Q hp hE p e s m args below meth c C H locs ls hP hS hl => lv_lushr C.1 C.2.1 hd rfl (hE p e s m args below meth c C H locs ls hP hS hl)⟩
  · cases h
theorem sx_lshr {α : Type} {M : MR} {pc a1 a2 a3 : Nat} {l : LV} {st : List Value} {σ : St2} {k0 : LV → List Value → St2 → Option α} {k1 : Prop → LV → List Value → St2 → Option α} {r : α} (hd : decode M.2.1 pc = .ok (.lshr, 1)) (h : ex1 (pc, .lshr, a1, a2, a3) l st σ k0 k1 = some r) : Res M (pc, .lshr, a1, a2, a3) l st σ k0 k1 r := by
  dsimp only [ex1] at h
  split at h
  · exact Or.inl ⟨_, _, _, h, fun lc G Q hp hE p e s m args below meth c C H locs ls hP hS hl => lv_lshr C.1 C.2.1 hd rfl (hE p e s m args below meth c C H locs ls hP hS hl)⟩
  · cases h
theorem sx_i2l {α : Type} {M : MR} {pc a1 a2 a3 : Nat} {l : LV} {st : List Value} {σ : St2} {k0 : LV → List Value → St2 → Option α} {k1 : Prop → LV → List Value → St2 → Option α} {r : α} (hd : decode M.2.1 pc = .ok (.i2l, 1)) (h : ex1 (pc, .i2l, a1, a2, a3) l st σ k0 k1 = some r) : Res M (pc, .i2l, a1, a2, a3) l st σ k0 k1 r := by
  dsimp only [ex1] at h
  split at h
  · exact Or.inl ⟨_, _, _, h, fun lc G Q hp hE p e s m args below meth c C H locs ls hP hS hl => lv_i2l C.1 C.2.1 hd rfl (hE p e s m args below meth c C H locs ls hP hS hl)⟩
  · cases h
theorem sx_l2i {α : Type} {M : MR} {pc a1 a2 a3 : Nat} {l : LV} {st : List Value} {σ : St2} {k0 : LV → List Value → St2 → Option α} {k1 : Prop → LV → List Value → St2 → Option α} {r : α} (hd : decode M.2.1 pc = .ok (.l2i, 1)) (h : ex1 (pc, .l2i, a1, a2, a3) l st σ k0 k1 = some r) : Res M (pc, .l2i, a1, a2, a3) l st σ k0 k1 r := by
  dsimp only [ex1] at h
  split at h
  · exact Or.inl ⟨_, _, _, h, fun lc G Q hp hE p e s m args below meth c C H locs ls hP hS hl => lv_l2i C.1 C.2.1 hd rfl (hE p e s m args below meth c C H locs ls hP hS hl)⟩
  · cases h
theorem sx_i2b {α : Type} {M : MR} {pc a1 a2 a3 : Nat} {l : LV} {st : List Value} {σ : St2} {k0 : LV → List Value → St2 → Option α} {k1 : Prop → LV → List Value → St2 → Option α} {r : α} (hd : decode M.2.1 pc = .ok (.i2b, 1)) (h : ex1 (pc, .i2b, a1, a2, a3) l st σ k0 k1 = some r) : Res M (pc, .i2b, a1, a2, a3) l st σ k0 k1 r := by
  dsimp only [ex1] at h
  split at h
  · exact Or.inl ⟨_, _, _, h, fun lc G Q hp hE p e s m args below meth c C H locs ls hP hS hl => lv_i2b C.1 C.2.1 hd rfl (hE p e s m args below meth c C H locs ls hP hS hl)⟩
  · cases h
theorem sx_lcmp {α : Type} {M : MR} {pc a1 a2 a3 : Nat} {l : LV} {st : List Value} {σ : St2} {k0 : LV → List Value → St2 → Option α} {k1 : Prop → LV → List Value → St2 → Option α} {r : α} (hd : decode M.2.1 pc = .ok (.lcmp, 1)) (h : ex1 (pc, .lcmp, a1, a2, a3) l st σ k0 k1 = some r) : Res M (pc, .lcmp, a1, a2, a3) l st σ k0 k1 r := by
  dsimp only [ex1] at h
  split at h
  · exact Or.inl ⟨_, _, _, h, fun lc G Q hp hE p e s m args below meth c C H locs ls hP hS hl => W.lcmp C.1 C.2.1 hd (hE p e s m args below meth c C H locs ls hP hS hl)⟩
  · cases h
theorem sx_dup {α : Type} {M : MR} {pc a1 a2 a3 : Nat} {l : LV} {st : List Value} {σ : St2} {k0 : LV → List Value → St2 → Option α} {k1 : Prop → LV → List Value → St2 → Option α} {r : α} (hd : decode M.2.1 pc = .ok (.dup, 1)) (h : ex1 (pc, .dup, a1, a2, a3) l st σ k0 k1 = some r) : Res M (pc, .dup, a1, a2, a3) l st σ k0 k1 r := by
  dsimp only [ex1] at h
  split at h
  · exact Or.inl ⟨_, _, _, h, fun lc G Q hp hE p e s m args below meth c C H locs ls hP hS hl => lv_dup C.1 C.2.1 hd rfl (hE p e s m args below meth c C H locs ls hP hS hl)⟩
  · exact Or.inl ⟨_, _, _, h, fun lc G Q hp hE p e s m args below meth c C H locs ls hP hS hl => lv_dup C.1 C.2.1 hd rfl (hE p e s m args below meth c C H locs ls hP hS hl)⟩
  · cases h
theorem sx_getfield {α : Type} {M : MR} {pc a1 a2 a3 : Nat} {l : LV} {st : List Value} {σ : St2} {k0 : LV → List Value → St2 → Option α} {k1 : Prop → LV → List Value → St2 → Option α} {r : α} {n : Nat} (hd : decode M.2.1 pc = .ok (.getfield n, 3)) (hk : lnk M (pc, .getfield n, a1, a2, a3) = true) (h : ex1 (pc, .getfield n, a1, a2, a3) l st σ k0 k1 = some r) : Res M (pc, .getfield n, a1, a2, a3) l st σ k0 k1 r := by
  dsimp only [ex1] at h
  split at h
  · rename_i id rr
    obtain ⟨fks, f, h1, h2, h3⟩ := objK_ok h
    obtain ⟨C0, T, N, hc, hlen, -⟩ := lay_obj h1
    have hk2 : lw_tbl[a3]? = some (Cond.fieldLink M.1.cls n C0 (T a2).2.1 (T a2).2.2.1) ∧ a2 < N ∧ (T a2).1 = C0 := by
      unfold lnk at hk
      simp only [hc, Bool.and_eq_true, decide_eq_true_eq] at hk
      exact hk
    have key : ∀ v : Value, (∀ G, (fvs G σ id 0 fks)[a2]? = some (cv G v)) → Nx M pc l (.ref id :: rr) σ True (pc + 3) l (v :: rr) σ := by
      intro v hv lc G Q hp hE p e s m args below meth c C H locs ls hP hS hl
      exact va_get C.1 C.2.1 C.2.2.2.2.2.1 (cls_u hc).1 C.2.2.2.2.1 C.2.2.2.2.2.2.2.1 hP id (cell_obj h1) hc a2 hk2.2.1 (C.2.2.2.2.2.1 _ (GT_at hk2.1 rfl)) (fun _ h9 => by rw [hk2.2.2] at h9; exact h9) (hv G) hd (hE p e s m args below meth c C H locs ls hP hS hl)
    split at h3
    · exact Or.inl ⟨_, _, _, h3, key _ (fun G => by rw [fvs_at, h2]; simp [fval, cv])⟩
    · exact Or.inl ⟨_, _, _, h3, key _ (fun G => by rw [fvs_at, h2]; simp [fval, cv])⟩
    · exact Or.inl ⟨_, _, _, h3, key _ (fun G => by rw [fvs_at, h2]; simp [fval, cv])⟩
    · exact Or.inl ⟨_, _, _, h3, key _ (fun G => by rw [fvs_at, h2]; simp [fval, cv])⟩
  · cases h
theorem sx_putfield {α : Type} {M : MR} {pc a1 a2 a3 : Nat} {l : LV} {st : List Value} {σ : St2} {k0 : LV → List Value → St2 → Option α} {k1 : Prop → LV → List Value → St2 → Option α} {r : α} {n : Nat} (hd : decode M.2.1 pc = .ok (.putfield n, 3)) (hk : lnk M (pc, .putfield n, a1, a2, a3) = true) (h : ex1 (pc, .putfield n, a1, a2, a3) l st σ k0 k1 = some r) : Res M (pc, .putfield n, a1, a2, a3) l st σ k0 k1 r := by
  have key : ∀ (id : Nat) (rr : List Value) (v : Value) (fks : List Nat) (P : Prop) (σ' : St2), lay[id]? = some (.inl (a1, fks)) → (∀ (C : String) (T : u_T) (N : Nat), CLS[a1]? = some (C, T, N) → a2 < N → P → ∃ ty, parseFieldDescriptor (T a2).2.2.1 = some ty ∧ narrow ty v = v ∧ fits ty v = true) → (∀ G, (World G σ).set id (G.2.2 id, .inr (a1, (fvs G σ id 0 fks).set a2 v)) = World G σ') → (∀ G, cv G v = v) → Nx M pc l (v :: .ref id :: rr) σ P (pc + 3) l rr σ' := by
    intro id rr v fks P σ' h1 hty hw hcv lc G Q hp hE p e s m args below meth c C H locs ls hP hS hl
    obtain ⟨C0, T, N, hc, hlen, -⟩ := lay_obj h1
    have hk2 : (lw_tbl[a3]? = some (Cond.fieldLink M.1.cls n C0 (T a2).2.1 (T a2).2.2.1) ∧ a2 < N ∧ (T a2).1 = C0) ∧ (T a2).2.2.2 = false := by
      unfold lnk at hk
      simp only [hc, Bool.and_eq_true, decide_eq_true_eq] at hk
      exact hk
    obtain ⟨ty, t1, t2, t3⟩ := hty C0 T N hc hk2.1.2.1 hp
    obtain ⟨hu, ty0, u1, u2⟩ := cls_u hc
    have hD := World_D C.2.2.2.2.2.2.2.2 σ
    show W _ _ _ _ _ _ _ _ _ _ _ _ _ _ _ (F0 m pc ls (cv G v :: .ref (G.2.2 id) :: rr.map (cv G)))
    rw [hcv]
    refine va_put C.1 C.2.1 C.2.2.2.2.2.1 hu ty0 u1 u2 C.2.2.2.2.1 C.2.2.2.2.2.2.2.1 hP hD hS id (cell_obj h1) hc a2 hk2.1.2.1 (C.2.2.2.2.2.1 _ (GT_at hk2.1.1 rfl)) (fun _ h9 => by rw [hk2.1.2.2] at h9; exact h9) hk2.2 t1 t2 t3 (by rw [fvs_len, hlen]; exact hk2.1.2.1) hd (fun H1 locs1 hP1 _ hS1 => ?_)
    rw [hw G] at hP1
    exact hE p e s m args below meth c C H1 locs1 ls hP1 hS1 hl
  dsimp only [ex1] at h
  split at h
  · rename_i x id rr
    obtain ⟨fks, f, h1, h2, h3⟩ := objK_ok h
    obtain ⟨C0, T0, N0, hc0, hlen, ht0⟩ := lay_obj h1
    split at h3
    · refine Or.inl ⟨_, _, _, h3, key id rr (.int x) fks True _ h1 (fun C T N hc hN _ => ?_) (fun G => World_fld h1 (Or.inl h2) x) (fun G => rfl)⟩
      cases hc0.symm.trans hc
      exact ⟨.int, (ht0 a2 hN).1 h2, rfl, rfl⟩
    · refine Or.inr ⟨_, _, _, _, h3, key id rr (.int x) fks _ _ h1 (fun C T N hc hN hx => ?_) (fun G => World_fld h1 (Or.inr h2) x) (fun G => rfl)⟩
      cases hc0.symm.trans hc
      exact ⟨.boolean, (ht0 a2 hN).2.2 h2, by rcases hx with rfl | rfl <;> rfl, by rcases hx with rfl | rfl <;> rfl⟩
    · cases h3
  · rename_i x id rr
    obtain ⟨fks, f, h1, h2, h3⟩ := objK_ok h
    obtain ⟨C0, T0, N0, hc0, hlen, ht0⟩ := lay_obj h1
    split at h3
    · refine Or.inl ⟨_, _, _, h3, key id rr (.long x) fks True _ h1 (fun C T N hc hN _ => ?_) (fun G => World_fldL h1 h2 x) (fun G => rfl)⟩
      cases hc0.symm.trans hc
      exact ⟨.long, (ht0 a2 hN).2.1 h2, rfl, rfl⟩
    · cases h3
  · cases h
theorem sx_iaload {α : Type} {M : MR} {pc a1 a2 a3 : Nat} {l : LV} {st : List Value} {σ : St2} {k0 : LV → List Value → St2 → Option α} {k1 : Prop → LV → List Value → St2 → Option α} {r : α} (hd : decode M.2.1 pc = .ok (.iaload, 1)) (h : ex1 (pc, .iaload, a1, a2, a3) l st σ k0 k1 = some r) : Res M (pc, .iaload, a1, a2, a3) l st σ k0 k1 r := by
  dsimp only [ex1] at h
  split at h
  · rename_i i id rr
    obtain ⟨t, n, q, h1, h2⟩ := arrK_ok h
    split at h2
    · exact Or.inr ⟨_, _, _, _, h2, fun lc G Q hp hE p e s m args below meth c C H locs ls hP hS hl => va_iald C.1 C.2.1 C.2.2.2.2.2.2.2.1 hP id 1 (cell_arr h1 (by decide)) (tys_at G).2.1 hp hd (hE p e s m args below meth c C H locs ls hP hS hl)⟩
    · cases h2
  · cases h
theorem sx_baload {α : Type} {M : MR} {pc a1 a2 a3 : Nat} {l : LV} {st : List Value} {σ : St2} {k0 : LV → List Value → St2 → Option α} {k1 : Prop → LV → List Value → St2 → Option α} {r : α} (hd : decode M.2.1 pc = .ok (.baload, 1)) (h : ex1 (pc, .baload, a1, a2, a3) l st σ k0 k1 = some r) : Res M (pc, .baload, a1, a2, a3) l st σ k0 k1 r := by
  dsimp only [ex1] at h
  split at h
  · rename_i i id rr
    obtain ⟨t, n, q, h1, h2⟩ := arrK_ok h
    split at h2
    · exact Or.inr ⟨_, _, _, _, h2, fun lc G Q hp hE p e s m args below meth c C H locs ls hP hS hl => va_bald C.1 C.2.1 C.2.2.2.2.2.2.2.1 hP id 0 (cell_arr h1 (by decide)) (tys_at G).1 hp hd (hE p e s m args below meth c C H locs ls hP hS hl)⟩
    · exact Or.inr ⟨_, _, _, _, h2, fun lc G Q hp hE p e s m args below meth c C H locs ls hP hS hl => va_zald C.1 C.2.1 C.2.2.2.2.2.2.2.1 hP id 2 (cell_arr h1 (by decide)) (tys_at G).2.2.1 hp hd (hE p e s m args below meth c C H locs ls hP hS hl)⟩
    · cases h2
  · cases h
theorem sx_laload {α : Type} {M : MR} {pc a1 a2 a3 : Nat} {l : LV} {st : List Value} {σ : St2} {k0 : LV → List Value → St2 → Option α} {k1 : Prop → LV → List Value → St2 → Option α} {r : α} (hd : decode M.2.1 pc = .ok (.laload, 1)) (h : ex1 (pc, .laload, a1, a2, a3) l st σ k0 k1 = some r) : Res M (pc, .laload, a1, a2, a3) l st σ k0 k1 r := by
  dsimp only [ex1] at h
  split at h
  · rename_i i id rr
    obtain ⟨t, n, q, h1, h2⟩ := arrK_ok h
    split at h2
    · exact Or.inr ⟨_, _, _, _, h2, fun lc G Q hp hE p e s m args below meth c C H locs ls hP hS hl => va_lald C.1 C.2.1 C.2.2.2.2.2.2.2.1 hP id 3 (cell_arrL h1) (tys_at G).2.2.2 hp hd (hE p e s m args below meth c C H locs ls hP hS hl)⟩
    · cases h2
  · cases h
theorem sx_iastore {α : Type} {M : MR} {pc a1 a2 a3 : Nat} {l : LV} {st : List Value} {σ : St2} {k0 : LV → List Value → St2 → Option α} {k1 : Prop → LV → List Value → St2 → Option α} {r : α} (hd : decode M.2.1 pc = .ok (.iastore, 1)) (h : ex1 (pc, .iastore, a1, a2, a3) l st σ k0 k1 = some r) : Res M (pc, .iastore, a1, a2, a3) l st σ k0 k1 r := by
  dsimp only [ex1] at h
  split at h
  · rename_i x i id rr
    obtain ⟨t, n, q, h1, h2⟩ := arrK_ok h
    split at h2
    · exact Or.inr ⟨_, _, _, _, h2, fun lc G Q hp hE p e s m args below meth c C H locs ls hP hS hl => va_iast C.1 C.2.1 C.2.2.2.2.2.2.2.1 hP (World_D C.2.2.2.2.2.2.2.2 σ) hS id 1 (cell_arr h1 (by decide)) (tys_at G).2.1 hp hd (fun H1 locs1 hP1 _ hS1 => hE p e s m args below meth c C H1 locs1 ls (by rw [World_arr h1 (by decide)] at hP1; exact hP1) hS1 hl)⟩
    · cases h2
  · cases h
theorem sx_bastore {α : Type} {M : MR} {pc a1 a2 a3 : Nat} {l : LV} {st : List Value} {σ : St2} {k0 : LV → List Value → St2 → Option α} {k1 : Prop → LV → List Value → St2 → Option α} {r : α} (hd : decode M.2.1 pc = .ok (.bastore, 1)) (h : ex1 (pc, .bastore, a1, a2, a3) l st σ k0 k1 = some r) : Res M (pc, .bastore, a1, a2, a3) l st σ k0 k1 r := by
  dsimp only [ex1] at h
  split at h
  · rename_i x i id rr
    obtain ⟨t, n, q, h1, h2⟩ := arrK_ok h
    split at h2
    · exact Or.inr ⟨_, _, _, _, h2, fun lc G Q hp hE p e s m args below meth c C H locs ls hP hS hl => va_bast C.1 C.2.1 C.2.2.2.2.2.2.2.1 hP (World_D C.2.2.2.2.2.2.2.2 σ) hS id 0 (cell_arr h1 (by decide)) (tys_at G).1 hp hd (fun H1 locs1 hP1 _ hS1 => hE p e s m args below meth c C H1 locs1 ls (by rw [World_arr h1 (by decide), vp_nar_byte] at hP1; exact hP1) hS1 hl)⟩
    · exact Or.inr ⟨_, _, _, _, h2, fun lc G Q hp hE p e s m args below meth c C H locs ls hP hS hl => va_zast C.1 C.2.1 C.2.2.2.2.2.2.2.1 hP (World_D C.2.2.2.2.2.2.2.2 σ) hS id 2 (cell_arr h1 (by decide)) (tys_at G).2.2.1 hp hd (fun H1 locs1 hP1 _ hS1 => hE p e s m args below meth c C H1 locs1 ls (by rw [World_arr h1 (by decide)] at hP1; exact hP1) hS1 hl)⟩
    · cases h2
  · cases h
theorem sx_lastore {α : Type} {M : MR} {pc a1 a2 a3 : Nat} {l : LV} {st : List Value} {σ : St2} {k0 : LV → List Value → St2 → Option α} {k1 : Prop → LV → List Value → St2 → Option α} {r : α} (hd : decode M.2.1 pc = .ok (.lastore, 1)) (h : ex1 (pc, .lastore, a1, a2, a3) l st σ k0 k1 = some r) : Res M (pc, .lastore, a1, a2, a3) l st σ k0 k1 r := by
  dsimp only [ex1] at h
  split at h
  · rename_i x i id rr
    obtain ⟨t, n, q, h1, h2⟩ := arrK_ok h
    split at h2
    · exact Or.inr ⟨_, _, _, _, h2, fun lc G Q hp hE p e s m args below meth c C H locs ls hP hS hl => va_last C.1 C.2.1 C.2.2.2.2.2.2.2.1 hP (World_D C.2.2.2.2.2.2.2.2 σ) hS id 3 (cell_arrL h1) (tys_at G).2.2.2 hp hd (fun H1 locs1 hP1 _ hS1 => hE p e s m args below meth c C H1 locs1 ls (by rw [World_arrL h1] at hP1; exact hP1) hS1 hl)⟩
    · cases h2
  · cases h
theorem sx_arraylength {α : Type} {M : MR} {pc a1 a2 a3 : Nat} {l : LV} {st : List Value} {σ : St2} {k0 : LV → List Value → St2 → Option α} {k1 : Prop → LV → List Value → St2 → Option α} {r : α} (hd : decode M.2.1 pc = .ok (.arraylength, 1)) (h : ex1 (pc, .arraylength, a1, a2, a3) l st σ k0 k1 = some r) : Res M (pc, .arraylength, a1, a2, a3) l st σ k0 k1 r := by
  dsimp only [ex1] at h
  split at h
  · rename_i id rr
    obtain ⟨t, n, q, h1, h2⟩ := arrK_ok h
    obtain ⟨ht, -⟩ := lay_arr h1
    refine Or.inl ⟨_, _, _, h2, fun lc G Q hp hE p e s m args below meth c C H locs ls hP hS hl => ?_⟩
    have h9 := hE p e s m args below meth c C H locs ls hP hS hl
    rcases (show t = 0 ∨ t = 1 ∨ t = 2 ∨ t = 3 by omega) with rfl | rfl | rfl | rfl
    · exact va_alen C.1 C.2.1 C.2.2.2.2.2.2.2.1 hP id 0 (cell_arr h1 (by decide)) (tys_at G).1 rfl hd h9
    · exact va_alen C.1 C.2.1 C.2.2.2.2.2.2.2.1 hP id 1 (cell_arr h1 (by decide)) (tys_at G).2.1 rfl hd h9
    · exact va_alen C.1 C.2.1 C.2.2.2.2.2.2.2.1 hP id 2 (cell_arr h1 (by decide)) (tys_at G).2.2.1 rfl hd h9
    · exact va_alen C.1 C.2.1 C.2.2.2.2.2.2.2.1 hP id 3 (cell_arrL h1) (tys_at G).2.2.2 rfl hd h9
  · cases h
end
section
/-! ===== blocks, branches, calls, returns ===== -/
theorem ex1_ok {α : Type} {M : MR} {ri : RI} {l : LV} {st : List Value} {σ : St2} {k0 : LV → List Value → St2 → Option α} {k1 : Prop → LV → List Value → St2 → Option α} {r : α} (hc : chk1 M ri = true) (h : ex1 ri l st σ k0 k1 = some r) : Res M ri l st σ k0 k1 r := by
  obtain ⟨pc, ins, a1, a2, a3⟩ := ri
  unfold chk1 at hc
  simp only [Bool.and_eq_true, decide_eq_true_eq] at hc
  obtain ⟨hd, hk⟩ := hc
  cases ins
  case iconst => exact sx_iconst hd hk h
  case bipush => exact sx_bipush hd hk h
  case sipush => exact sx_sipush hd hk h
  case lconst => exact sx_lconst hd h
  case ldc => exact sx_ldc hd hk h
  case ldc2_w => exact sx_ldc2_w hd hk h
  case iload_n => exact sx_iload_n hd h
  case iload => exact sx_iload hd h
  case lload_n => exact sx_lload_n hd h
  case lload => exact sx_lload hd h
  case aload_n => exact sx_aload_n hd h
  case aload => exact sx_aload hd h
  case istore_n => exact sx_istore_n hd h
  case istore => exact sx_istore hd h
  case lstore_n => exact sx_lstore_n hd h
  case lstore => exact sx_lstore hd h
  case iinc => exact sx_iinc hd hk h
  case iadd => exact sx_iadd hd h
  case isub => exact sx_isub hd h
  case imul => exact sx_imul hd h
  case iand => exact sx_iand hd h
  case ior => exact sx_ior hd h
  case ishl => exact sx_ishl hd h
  case idiv => exact sx_idiv hd h
  case irem => exact sx_irem hd h
  case ladd => exact sx_ladd hd h
  case lsub => exact sx_lsub hd h
  case lmul => exact sx_lmul hd h
  case land => exact sx_land hd h
  case ldiv => exact sx_ldiv hd h
  case lushr => exact sx_lushr hd h
  case lshr => exact sx_lshr hd h
  case lcmp => exact sx_lcmp hd h
  case i2l => exact sx_i2l hd h
  case l2i => exact sx_l2i hd h
  case i2b => exact sx_i2b hd h
  case dup => exact sx_dup hd h
  case getfield => exact sx_getfield hd hk h
  case putfield => exact sx_putfield hd hk h
  case iaload => exact sx_iaload hd h
  case baload => exact sx_baload hd h
  case laload => exact sx_laload hd h
  case iastore => exact sx_iastore hd h
  case bastore => exact sx_bastore hd h
  case lastore => exact sx_lastore hd h
  case arraylength => exact sx_arraylength hd h
  all_goals exact absurd (show (none : Option α) = some r from h) (fun q => by cases q)
def exs : List RI → LV → List Value → St2 → Option (Prop × LV × List Value × St2)
  | [], l, st, σ => some (True, l, st, σ)
  | ri :: is, l, st, σ => ex1 ri l st σ (fun l st σ => exs is l st σ) (fun P l st σ => match exs is l st σ with
    | some (P', r) => some (P ∧ P', r)
    | none => none)
def seqOK (M : MR) : Nat → List RI → Nat → Bool
  | pc, [], e => Nat.beq pc e
  | pc, ri :: is, e => (Nat.beq ri.1 pc && chk1 M ri) && seqOK M (pc + lnI ri.2.1) is e
theorem exs_ok {M : MR} {is : List RI} {e pc : Nat} {l : LV} {st : List Value} {σ : St2} {P : Prop} {l' : LV} {st' : List Value} {σ' : St2} (hs : seqOK M pc is e = true) (h : exs is l st σ = some (P, l', st', σ')) : Nx M pc l st σ P e l' st' σ' := by
  induction is generalizing pc l st σ P with
  | nil =>
    have e1 : pc = e := Nat.eq_of_beq_eq_true hs
    subst e1
    cases h
    exact fun _ _ _ _ k => k
  | cons ri is ih =>
    simp only [seqOK, Bool.and_eq_true] at hs
    obtain ⟨⟨h1, h2⟩, h3⟩ := hs
    have e1 : ri.1 = pc := Nat.eq_of_beq_eq_true h1
    subst e1
    rcases ex1_ok h2 h with ⟨l1, s1, σ1, a, b⟩ | ⟨P1, l1, s1, σ1, a, b⟩
    · exact fun lc G Q hp k => b lc G Q trivial (ih h3 a lc G Q hp k)
    · dsimp only at a
      split at a
      · rename_i P' r hr
        cases a
        exact fun lc G Q hp k => b lc G Q hp.1 (ih h3 hr lc G Q hp.2 k)
      · cases a
/-- the last instruction of a block: decoded, with its ways -/
def tOK (M : MR) (t : RI) : Bool :=
  match t.2.1 with
  | .nop => true
  | .goto off => decide (decode M.2.1 t.1 = .ok (.goto off, 3)) && decide ((t.1 : Int) + off = (t.2.2.1 : Int))
  | .if_icmp c off => decide (decode M.2.1 t.1 = .ok (.if_icmp c off, 3)) && (decide ((t.1 : Int) + off = (t.2.2.1 : Int)) && Nat.beq t.2.2.2.1 (t.1 + 3))
  | .ifCond c off => decide (decode M.2.1 t.1 = .ok (.ifCond c off, 3)) && (decide ((t.1 : Int) + off = (t.2.2.1 : Int)) && Nat.beq t.2.2.2.1 (t.1 + 3))
  | .tableswitch d lo hi offs => decide (decode M.2.1 t.1 = .ok (.tableswitch d lo hi offs, t.2.2.1))
  | .lookupswitch d ps => decide (decode M.2.1 t.1 = .ok (.lookupswitch d ps, t.2.2.1)) && (ps.toList.zip (ps.toList.drop 1)).all (fun (a, next) => a.1 < next.1)
  | .invokevirtual i => decide (decode M.2.1 t.1 = .ok (.invokevirtual i, 3)) && Nat.beq t.2.2.2.1 (t.1 + 3)
  | .invokestatic i => decide (decode M.2.1 t.1 = .ok (.invokestatic i, 3)) && Nat.beq t.2.2.2.1 (t.1 + 3)
  | .ireturn => decide (decode M.2.1 t.1 = .ok (.ireturn, 1))
  | .lreturn => decide (decode M.2.1 t.1 = .ok (.lreturn, 1))
  | .return_ => decide (decode M.2.1 t.1 = .ok (.return_, 1))
  | _ => false
def bOK (M : MR) (b : BLK) : Bool := seqOK M b.1 b.2.1 b.2.2.1 && tOK M b.2.2
def blks (M : MR) : List BLK := M.2.2.2.2.2.2.1
def kOK (M : MR) : Bool := plainName M.1.cls && (decide (M.1.cls ≠ "java/lang/invoke/MethodHandle") && decide (M.1.cls ≠ "java/lang/invoke/VarHandle")) && decide ((parseMethodDescriptor M.1.desc).map (fun d => d.parameters.length) = some M.2.2.2.2.2.2.2.2.2.2.2) && decide (lw_tbl[M.2.2.2.2.2.2.2.1]? = some (Cond.code M.1 M.2.1 M.2.2.1 M.2.2.2.1)) && decide (lw_tbl[M.2.2.2.2.2.2.2.2.2.2.1]? = some (Cond.initialized M.1.cls))
def fnd : List BLK → Nat → Option (List RI × RI)
  | [], _ => none
  | (p, is, t) :: bs, pc => match Nat.beq p pc with
    | true => some (is, t)
    | false => fnd bs pc
/-- every block of M is what M's code says; M's own words stand in the tables -/
def MOK (M : MR) : Prop := (∀ b ∈ blks M, bOK M b = true) ∧ kOK M = true
theorem fnd_ok {M : MR} {pc : Nat} {is : List RI} {t : RI} (ok : MOK M) (h : fnd (blks M) pc = some (is, t)) : seqOK M pc is t.1 = true ∧ tOK M t = true := by
  have key : ∀ bs : List BLK, fnd bs pc = some (is, t) → (pc, is, t) ∈ bs := by
    intro bs
    induction bs with
    | nil => intro hq; cases hq
    | cons b bs ih =>
      obtain ⟨p, is', t'⟩ := b
      intro hq
      unfold fnd at hq
      split at hq
      · rename_i hb
        have e : p = pc := Nat.eq_of_beq_eq_true hb
        cases hq
        rw [e]
        exact List.mem_cons_self
      · exact List.mem_cons_of_mem _ (ih hq)
  have h1 := ok.1 _ (key _ h)
  simp only [bOK, Bool.and_eq_true] at h1
  exact h1
section EV
variable {lc : Launch} {G : GG} {M : MR} {pc : Nat} {l l' : LV} {st st' : List Value} {σ σ' : St2} {Q : Option Value → St2 → Prop} {is : List RI} {tp tgt nx a3 : Nat} {off : Int} {P : Prop}
theorem ev_pre {t : RI} (ok : MOK M) (hf : fnd (blks M) pc = some (is, t)) (hr : exs is l st σ = some (P, l', st', σ')) (hP : P) (k : Ev lc G M t.1 l' st' σ' Q) : Ev lc G M pc l st σ Q := exs_ok (fnd_ok ok hf).1 hr lc G Q hP k
theorem ev_nop {a1 a2 : Nat} (ok : MOK M) (hf : fnd (blks M) pc = some (is, (tp, .nop, a1, a2, a3))) (hr : exs is l st σ = some (P, l', st', σ')) (hP : P) (k : Ev lc G M tp l' st' σ' Q) : Ev lc G M pc l st σ Q := ev_pre ok hf hr hP k
theorem ev_goto (ok : MOK M) (hf : fnd (blks M) pc = some (is, (tp, .goto off, tgt, nx, a3))) (hr : exs is l st σ = some (P, l', st', σ')) (hP : P) (k : Ev lc G M tgt l' st' σ' Q) : Ev lc G M pc l st σ Q := by
  refine ev_pre ok hf hr hP fun p e s m args below meth c C H locs ls hP hS hl => ?_
  have h2 := (fnd_ok ok hf).2
  simp only [tOK, Bool.and_eq_true, decide_eq_true_eq] at h2
  exact lv_goto C.1 C.2.1 h2.1 h2.2 (k p e s m args below meth c C H locs ls hP hS hl)
theorem ev_if_eq {x : Int32} (ok : MOK M) (hf : fnd (blks M) pc = some (is, (tp, .ifCond .eq off, tgt, nx, a3))) (hr : exs is l st σ = some (P, l', .int x :: st', σ')) (hP : P) (kt : x = 0 → Ev lc G M tgt l' st' σ' Q) (kf : ¬ x = 0 → Ev lc G M nx l' st' σ' Q) : Ev lc G M pc l st σ Q := by
  refine ev_pre ok hf hr hP fun p e s m args below meth c C H locs ls hP hS hl => ?_
  have h2 := (fnd_ok ok hf).2
  simp only [tOK, Bool.and_eq_true, decide_eq_true_eq] at h2
  have e := Nat.eq_of_beq_eq_true h2.2.2
  subst e
  exact lv_if_eq C.1 C.2.1 h2.1 h2.2.1 (fun q => kt q p e s m args below meth c C H locs ls hP hS hl) (fun q => kf q p e s m args below meth c C H locs ls hP hS hl)
theorem ev_ic_eq {x y : Int32} (ok : MOK M) (hf : fnd (blks M) pc = some (is, (tp, .if_icmp .eq off, tgt, nx, a3))) (hr : exs is l st σ = some (P, l', .int y :: .int x :: st', σ')) (hP : P) (kt : x = y → Ev lc G M tgt l' st' σ' Q) (kf : ¬ x = y → Ev lc G M nx l' st' σ' Q) : Ev lc G M pc l st σ Q := by
  refine ev_pre ok hf hr hP fun p e s m args below meth c C H locs ls hP hS hl => ?_
  have h2 := (fnd_ok ok hf).2
  simp only [tOK, Bool.and_eq_true, decide_eq_true_eq] at h2
  have e := Nat.eq_of_beq_eq_true h2.2.2
  subst e
  exact lv_icmp_eq C.1 C.2.1 h2.1 h2.2.1 (fun q => kt q p e s m args below meth c C H locs ls hP hS hl) (fun q => kf q p e s m args below meth c C H locs ls hP hS hl)
theorem ev_if_ne {x : Int32} (ok : MOK M) (hf : fnd (blks M) pc = some (is, (tp, .ifCond .ne off, tgt, nx, a3))) (hr : exs is l st σ = some (P, l', .int x :: st', σ')) (hP : P) (kt : ¬ x = 0 → Ev lc G M tgt l' st' σ' Q) (kf : x = 0 → Ev lc G M nx l' st' σ' Q) : Ev lc G M pc l st σ Q := by
  refine ev_pre ok hf hr hP fun p e s m args below meth c C H locs ls hP hS hl => ?_
  have h2 := (fnd_ok ok hf).2
  simp only [tOK, Bool.and_eq_true, decide_eq_true_eq] at h2
  have e := Nat.eq_of_beq_eq_true h2.2.2
  subst e
  exact lv_if_ne C.1 C.2.1 h2.1 h2.2.1 (fun q => kt q p e s m args below meth c C H locs ls hP hS hl) (fun q => kf q p e s m args below meth c C H locs ls hP hS hl)
theorem ev_ic_ne {x y : Int32} (ok : MOK M) (hf : fnd (blks M) pc = some (is, (tp, .if_icmp .ne off, tgt, nx, a3))) (hr : exs is l st σ = some (P, l', .int y :: .int x :: st', σ')) (hP : P) (kt : ¬ x = y → Ev lc G M tgt l' st' σ' Q) (kf : x = y → Ev lc G M nx l' st' σ' Q) : Ev lc G M pc l st σ Q := by
  refine ev_pre ok hf hr hP fun p e s m args below meth c C H locs ls hP hS hl => ?_
  have h2 := (fnd_ok ok hf).2
  simp only [tOK, Bool.and_eq_true, decide_eq_true_eq] at h2
  have e := Nat.eq_of_beq_eq_true h2.2.2
  subst e
  exact lv_icmp_ne C.1 C.2.1 h2.1 h2.2.1 (fun q => kt q p e s m args below meth c C H locs ls hP hS hl) (fun q => kf q p e s m args below meth c C H locs ls hP hS hl)
theorem ev_if_lt {x : Int32} (ok : MOK M) (hf : fnd (blks M) pc = some (is, (tp, .ifCond .lt off, tgt, nx, a3))) (hr : exs is l st σ = some (P, l', .int x :: st', σ')) (hP : P) (kt : x < 0 → Ev lc G M tgt l' st' σ' Q) (kf : ¬ x < 0 → Ev lc G M nx l' st' σ' Q) : Ev lc G M pc l st σ Q := by
  refine ev_pre ok hf hr hP fun p e s m args below meth c C H locs ls hP hS hl => ?_
  have h2 := (fnd_ok ok hf).2
  simp only [tOK, Bool.and_eq_true, decide_eq_true_eq] at h2
  have e := Nat.eq_of_beq_eq_true h2.2.2
  subst e
  exact lv_if_lt C.1 C.2.1 h2.1 h2.2.1 (fun q => kt q p e s m args below meth c C H locs ls hP hS hl) (fun q => kf q p e s m args below meth c C H locs ls hP hS hl)
theorem ev_ic_lt {x y : Int32} (ok : MOK M) (hf : fnd (blks M) pc = some (is, (tp, .if_icmp .lt off, tgt, nx, a3))) (hr : exs is l st σ = some (P, l', .int y :: .int x :: st', σ')) (hP : P) (kt : x < y → Ev lc G M tgt l' st' σ' Q) (kf : ¬ x < y → Ev lc G M nx l' st' σ' Q) : Ev lc G M pc l st σ Q := by
  refine ev_pre ok hf hr hP fun p e s m args below meth c C H locs ls hP hS hl => ?_
  have h2 := (fnd_ok ok hf).2
  simp only [tOK, Bool.and_eq_true, decide_eq_true_eq] at h2
  have e := Nat.eq_of_beq_eq_true h2.2.2
  subst e
  exact lv_icmp_lt C.1 C.2.1 h2.1 h2.2.1 (fun q => kt q p e s m args below meth c C H locs ls hP hS hl) (fun q => kf q p e s m args below meth c C H locs ls hP hS hl)
theorem ev_if_ge {x : Int32} (ok : MOK M) (hf : fnd (blks M) pc = some (is, (tp, .ifCond .ge off, tgt, nx, a3))) (hr : exs is l st σ = some (P, l', .int x :: st', σ')) (hP : P) (kt : 0 ≤ x → Ev lc G M tgt l' st' σ' Q) (kf : ¬ 0 ≤ x → Ev lc G M nx l' st' σ' Q) : Ev lc G M pc l st σ Q := by
  refine ev_pre ok hf hr hP fun p e s m args below meth c C H locs ls hP hS hl => ?_
  have h2 := (fnd_ok ok hf).2
  simp only [tOK, Bool.and_eq_true, decide_eq_true_eq] at h2
  have e := Nat.eq_of_beq_eq_true h2.2.2
  subst e
  exact lv_if_ge C.1 C.2.1 h2.1 h2.2.1 (fun q => kt q p e s m args below meth c C H locs ls hP hS hl) (fun q => kf q p e s m args below meth c C H locs ls hP hS hl)
theorem ev_ic_ge {x y : Int32} (ok : MOK M) (hf : fnd (blks M) pc = some (is, (tp, .if_icmp .ge off, tgt, nx, a3))) (hr : exs is l st σ = some (P, l', .int y :: .int x :: st', σ')) (hP : P) (kt : y ≤ x → Ev lc G M tgt l' st' σ' Q) (kf : ¬ y ≤ x → Ev lc G M nx l' st' σ' Q) : Ev lc G M pc l st σ Q := by
  refine ev_pre ok hf hr hP fun p e s m args below meth c C H locs ls hP hS hl => ?_
  have h2 := (fnd_ok ok hf).2
  simp only [tOK, Bool.and_eq_true, decide_eq_true_eq] at h2
  have e := Nat.eq_of_beq_eq_true h2.2.2
  subst e
  exact lv_icmp_ge C.1 C.2.1 h2.1 h2.2.1 (fun q => kt q p e s m args below meth c C H locs ls hP hS hl) (fun q => kf q p e s m args below meth c C H locs ls hP hS hl)
theorem ev_if_gt {x : Int32} (ok : MOK M) (hf : fnd (blks M) pc = some (is, (tp, .ifCond .gt off, tgt, nx, a3))) (hr : exs is l st σ = some (P, l', .int x :: st', σ')) (hP : P) (kt : 0 < x → Ev lc G M tgt l' st' σ' Q) (kf : ¬ 0 < x → Ev lc G M nx l' st' σ' Q) : Ev lc G M pc l st σ Q := by
  refine ev_pre ok hf hr hP fun p e s m args below meth c C H locs ls hP hS hl => ?_
  have h2 := (fnd_ok ok hf).2
  simp only [tOK, Bool.and_eq_true, decide_eq_true_eq] at h2
  have e := Nat.eq_of_beq_eq_true h2.2.2
  subst e
  exact lv_if_gt C.1 C.2.1 h2.1 h2.2.1 (fun q => kt q p e s m args below meth c C H locs ls hP hS hl) (fun q => kf q p e s m args below meth c C H locs ls hP hS hl)
theorem ev_ic_gt {x y : Int32} (ok : MOK M) (hf : fnd (blks M) pc = some (is, (tp, .if_icmp .gt off, tgt, nx, a3))) (hr : exs is l st σ = some (P, l', .int y :: .int x :: st', σ')) (hP : P) (kt : y < x → Ev lc G M tgt l' st' σ' Q) (kf : ¬ y < x → Ev lc G M nx l' st' σ' Q) : Ev lc G M pc l st σ Q := by
  refine ev_pre ok hf hr hP fun p e s m args below meth c C H locs ls hP hS hl => ?_
  have h2 := (fnd_ok ok hf).2
  simp only [tOK, Bool.and_eq_true, decide_eq_true_eq] at h2
  have e := Nat.eq_of_beq_eq_true h2.2.2
  subst e
  exact lv_icmp_gt C.1 C.2.1 h2.1 h2.2.1 (fun q => kt q p e s m args below meth c C H locs ls hP hS hl) (fun q => kf q p e s m args below meth c C H locs ls hP hS hl)
theorem ev_if_le {x : Int32} (ok : MOK M) (hf : fnd (blks M) pc = some (is, (tp, .ifCond .le off, tgt, nx, a3))) (hr : exs is l st σ = some (P, l', .int x :: st', σ')) (hP : P) (kt : x ≤ 0 → Ev lc G M tgt l' st' σ' Q) (kf : ¬ x ≤ 0 → Ev lc G M nx l' st' σ' Q) : Ev lc G M pc l st σ Q := by
  refine ev_pre ok hf hr hP fun p e s m args below meth c C H locs ls hP hS hl => ?_
  have h2 := (fnd_ok ok hf).2
  simp only [tOK, Bool.and_eq_true, decide_eq_true_eq] at h2
  have e := Nat.eq_of_beq_eq_true h2.2.2
  subst e
  exact lv_if_le C.1 C.2.1 h2.1 h2.2.1 (fun q => kt q p e s m args below meth c C H locs ls hP hS hl) (fun q => kf q p e s m args below meth c C H locs ls hP hS hl)
theorem ev_ic_le {x y : Int32} (ok : MOK M) (hf : fnd (blks M) pc = some (is, (tp, .if_icmp .le off, tgt, nx, a3))) (hr : exs is l st σ = some (P, l', .int y :: .int x :: st', σ')) (hP : P) (kt : x ≤ y → Ev lc G M tgt l' st' σ' Q) (kf : ¬ x ≤ y → Ev lc G M nx l' st' σ' Q) : Ev lc G M pc l st σ Q := by
  refine ev_pre ok hf hr hP fun p e s m args below meth c C H locs ls hP hS hl => ?_
  have h2 := (fnd_ok ok hf).2
  simp only [tOK, Bool.and_eq_true, decide_eq_true_eq] at h2
  have e := Nat.eq_of_beq_eq_true h2.2.2
  subst e
  exact lv_icmp_le C.1 C.2.1 h2.1 h2.2.1 (fun q => kt q p e s m args below meth c C H locs ls hP hS hl) (fun q => kf q p e s m args below meth c C H locs ls hP hS hl)
theorem ev_tin {x : Int32} {d lo hi off : Int} {offs : Array Int} (tgt : Nat) (ok : MOK M) (hf : fnd (blks M) pc = some (is, (tp, .tableswitch d lo hi offs, nx, nx, a3))) (hr : exs is l st σ = some (P, l', .int x :: st', σ')) (hP : P) (h1 : ¬ x.toInt < lo) (h2 : ¬ hi < x.toInt) (ho : offs[(x.toInt - lo).toNat]? = some off) (ht : (tp : Int) + off = (tgt : Int)) (k : Ev lc G M tgt l' st' σ' Q) : Ev lc G M pc l st σ Q := by
  refine ev_pre ok hf hr hP fun p e s m args below meth c C H locs ls hP hS hl => ?_
  have h5 := (fnd_ok ok hf).2
  simp only [tOK, decide_eq_true_eq] at h5
  exact lv_tableIn C.1 C.2.1 h5 h1 h2 ho ht (k p e s m args below meth c C H locs ls hP hS hl)
theorem ev_tout {x : Int32} {d lo hi : Int} {offs : Array Int} (tgt : Nat) (ok : MOK M) (hf : fnd (blks M) pc = some (is, (tp, .tableswitch d lo hi offs, nx, nx, a3))) (hr : exs is l st σ = some (P, l', .int x :: st', σ')) (hP : P) (h1 : x.toInt < lo ∨ hi < x.toInt) (ht : (tp : Int) + d = (tgt : Int)) (k : Ev lc G M tgt l' st' σ' Q) : Ev lc G M pc l st σ Q := by
  refine ev_pre ok hf hr hP fun p e s m args below meth c C H locs ls hP hS hl => ?_
  have h5 := (fnd_ok ok hf).2
  simp only [tOK, decide_eq_true_eq] at h5
  exact lv_tableOut C.1 C.2.1 h5 h1 ht (k p e s m args below meth c C H locs ls hP hS hl)
theorem ev_look {x : Int32} {d off : Int} {ps : Array (Int × Int)} (tgt : Nat) (ok : MOK M) (hf : fnd (blks M) pc = some (is, (tp, .lookupswitch d ps, nx, nx, a3))) (hr : exs is l st σ = some (P, l', .int x :: st', σ')) (hP : P) (ho : Op.lookupswitch.offset ps.toList d x.toInt = off) (ht : (tp : Int) + off = (tgt : Int)) (k : Ev lc G M tgt l' st' σ' Q) : Ev lc G M pc l st σ Q := by
  refine ev_pre ok hf hr hP fun p e s m args below meth c C H locs ls hP hS hl => ?_
  have h5 := (fnd_ok ok hf).2
  simp only [tOK, Bool.and_eq_true, decide_eq_true_eq] at h5
  exact lv_lookup C.1 C.2.1 h5.1 h5.2 ho ht (k p e s m args below meth c C H locs ls hP hS hl)
theorem ev_ri {x : Int32} {a1 a2 : Nat} (ok : MOK M) (hf : fnd (blks M) pc = some (is, (tp, .ireturn, a1, a2, a3))) (hr : exs is l st σ = some (P, l', [.int x], σ')) (hP : P) (hret : M.2.2.2.1 = some .int) (k : Q (some (.int x)) σ') : Ev lc G M pc l st σ Q := by
  refine ev_pre ok hf hr hP fun p e s m args below meth c C H locs ls hP hS hl => ?_
  have h2 := (fnd_ok ok hf).2
  simp only [tOK, decide_eq_true_eq] at h2
  exact W.iret (v := x) C.1 C.2.1 (C.2.2.1.trans hret) (fun t ht _ => ⟨⟨some (.int x), σ', rfl, k, by rw [ht]; exact hP⟩, hS.F ht⟩) hS.2.2 h2 C.2.2.2.2.2.2.1
theorem ev_rz {x : Int32} {a1 a2 : Nat} (ok : MOK M) (hf : fnd (blks M) pc = some (is, (tp, .ireturn, a1, a2, a3))) (hr : exs is l st σ = some (P, l', [.int x], σ')) (hP : P) (hret : M.2.2.2.1 = some .boolean) (hx : x = 0 ∨ x = 1) (k : Q (some (.int x)) σ') : Ev lc G M pc l st σ Q := by
  refine ev_pre ok hf hr hP fun p e s m args below meth c C H locs ls hP hS hl => ?_
  have h2 := (fnd_ok ok hf).2
  simp only [tOK, decide_eq_true_eq] at h2
  exact W.zret (v := x) C.1 C.2.1 (C.2.2.1.trans hret) (by rcases hx with rfl | rfl <;> rfl) (fun t ht _ => ⟨⟨some (.int x), σ', rfl, k, by rw [ht]; exact hP⟩, hS.F ht⟩) hS.2.2 h2 C.2.2.2.2.2.2.1
theorem ev_rl {x : Int64} {a1 a2 : Nat} (ok : MOK M) (hf : fnd (blks M) pc = some (is, (tp, .lreturn, a1, a2, a3))) (hr : exs is l st σ = some (P, l', [.long x], σ')) (hP : P) (hret : M.2.2.2.1 = some .long) (k : Q (some (.long x)) σ') : Ev lc G M pc l st σ Q := by
  refine ev_pre ok hf hr hP fun p e s m args below meth c C H locs ls hP hS hl => ?_
  have h2 := (fnd_ok ok hf).2
  simp only [tOK, decide_eq_true_eq] at h2
  exact W.lret (v := x) C.1 C.2.1 (C.2.2.1.trans hret) (fun t ht _ => ⟨⟨some (.long x), σ', rfl, k, by rw [ht]; exact hP⟩, hS.F ht⟩) hS.2.2 h2 C.2.2.2.2.2.2.1
theorem ev_rv {a1 a2 : Nat} (ok : MOK M) (hf : fnd (blks M) pc = some (is, (tp, .return_, a1, a2, a3))) (hr : exs is l st σ = some (P, l', [], σ')) (hP : P) (hret : M.2.2.2.1 = none) (k : Q none σ') : Ev lc G M pc l st σ Q := by
  refine ev_pre ok hf hr hP fun p e s m args below meth c C H locs ls hP hS hl => ?_
  have h2 := (fnd_ok ok hf).2
  simp only [tOK, decide_eq_true_eq] at h2
  exact W.vret C.1 C.2.1 (C.2.2.1.trans hret) (fun t ht _ => ⟨⟨none, σ', rfl, k, by rw [ht]; exact hP⟩, hS.F ht⟩) hS.2.2 h2 C.2.2.2.2.2.2.1
theorem ev_mono {Q' : Option Value → St2 → Prop} (h : Ev lc G M pc l st σ Q) (hq : ∀ v σ, Q v σ → Q' v σ) : Ev lc G M pc l st σ Q' := by
  intro p e s m args below meth c C H locs ls hP hS hl T hT X
  obtain ⟨t, h1, o, h2, h3, ⟨⟨v, σ1, a, b, d⟩, h5⟩, h6⟩ := h p e s m args below meth c C H locs ls hP hS hl T hT X
  exact ⟨t, h1, o, h2, h3, ⟨⟨v, σ1, a, hq v σ1 b, d⟩, h5⟩, h6⟩
def lvLe : LV → LV → Prop
  | [], [] => True
  | _ :: l, none :: l' => lvLe l l'
  | a :: l, some v :: l' => a = some v ∧ lvLe l l'
  | _, _ => False
theorem lvLe_nth : ∀ {l l' : LV}, lvLe l l' → l.length = l'.length ∧ ∀ j v, nth l' j = some v → nth l j = some v
  | [], [], _ => ⟨rfl, fun _ _ h => h⟩
  | [], _ :: _, h => h.elim
  | _ :: _, [], h => h.elim
  | a :: l, none :: l', h => by
    obtain ⟨h1, h2⟩ := lvLe_nth (l := l) (l' := l') h
    refine ⟨by simp [h1], fun j v hj => ?_⟩
    cases j with
    | zero => cases hj
    | succ j => exact h2 j v hj
  | a :: l, some w :: l', h => by
    obtain ⟨h1, h2⟩ := lvLe_nth (l := l) (l' := l') h.2
    refine ⟨by simp [h1], fun j v hj => ?_⟩
    cases j with
    | zero => exact h.1.trans hj
    | succ j => exact h2 j v hj
/-- fewer locals are known -/
theorem ev_lv (l' : LV) (hl : lvLe l l') (h : Ev lc G M pc l' st σ Q) : Ev lc G M pc l st σ Q := by
  obtain ⟨h1, h2⟩ := lvLe_nth hl
  intro p e s m args below meth c C H locs ls hP hS hv
  refine h p e s m args below meth c C H locs ls hP hS ⟨lv_mono hv.1 fun q hq => ?_, by omega⟩
  obtain ⟨v, q1, q2⟩ := lvl_mem.mp hq
  exact lvl_mem.mpr ⟨v, h2 _ _ q1, q2⟩
/-- the locals with which a method begins -/
def ent : Nat → List Value → LV
  | n, [] => List.replicate n none
  | 0, _ :: _ => []
  | n + 1, v :: vs => match v.category with
    | 2 => match n with
      | 0 => []
      | n + 1 => some v :: none :: ent n vs
    | _ => some v :: ent n vs
def psh : Option Value → List Value → List Value
  | none, r => r
  | some v, r => v :: r
def cats : List Value → Nat
  | [] => 0
  | v :: r => v.category + cats r
/-- the arguments of a call, off the stack -/
def spl : Nat → List Value → List Value → Option (List Value × List Value)
  | 0, st, acc => some (acc, st)
  | _ + 1, [], _ => none
  | n + 1, v :: st, acc => spl n st (v :: acc)
end EV
end
section
/-! ===== calls ===== -/
def slw : List Value → Nat
  | [] => 0
  | v :: vs => v.category + slw vs
theorem slw_eq (G : GG) (vs : List Value) : (lg_sl (vs.map (cv G))).length = slw vs := by
  induction vs with
  | nil => rfl
  | cons v vs ih =>
    have e : lg_sl ((v :: vs).map (cv G)) = (if (cv G v).category = 2 then [.val (cv G v), .second] else [.val (cv G v)]) ++ lg_sl (vs.map (cv G)) := by simp [lg_sl]
    rw [e, List.length_append, ih, cv_cat, slw]
    rcases lv_cat v with h | h <;> simp [h]
theorem cats_eq (G : GG) (vs : List Value) : ((vs.map (cv G)).map fun v => v.category).sum = cats vs := by
  induction vs with
  | nil => rfl
  | cons v vs ih =>
    simp only [List.map_cons, List.sum_cons, cats, cv_cat]
    rw [ih]
theorem ent_1 {n : Nat} {v : Value} {vs : List Value} (h : v.category = 1) : ent (n + 1) (v :: vs) = some v :: ent n vs := by
  cases v <;> first | rfl | (simp [Value.category] at h)
theorem ent_2 {n : Nat} {v : Value} {vs : List Value} (h : v.category = 2) : ent (n + 2) (v :: vs) = some v :: none :: ent n vs := by
  cases v <;> first | rfl | (simp [Value.category] at h)
theorem ent_len {vs : List Value} {n : Nat} (h : slw vs ≤ n) : (ent n vs).length = n := by
  induction vs generalizing n with
  | nil => simp [ent]
  | cons v vs ih =>
    rw [slw] at h
    cases n with
    | zero => rcases lv_cat v with q | q <;> omega
    | succ n =>
      rcases lv_cat v with q | q
      · rw [ent_1 q, List.length_cons, ih (by omega)]
      · cases n with
        | zero => omega
        | succ n =>
          rw [ent_2 q, List.length_cons, List.length_cons, ih (by omega)]
theorem nth_rep (n j : Nat) : nth (List.replicate n none) j = none := by
  induction n generalizing j with
  | zero => rfl
  | succ n ih => cases j with
    | zero => rfl
    | succ j => exact ih j
theorem ent_args (G : GG) {vs : List Value} {n j k : Nat} {v : Value} (h : slw vs ≤ n) (hn : nth (ent n vs) j = some v) : (k + j, cv G v) ∈ lv_args k (vs.map (cv G)) := by
  induction vs generalizing n j k with
  | nil => rw [ent, nth_rep] at hn; cases hn
  | cons w vs ih =>
    rw [slw] at h
    rw [List.map_cons, lv_args, cv_cat]
    cases n with
    | zero => rcases lv_cat w with q | q <;> omega
    | succ n =>
      rcases lv_cat w with q | q
      · rw [ent_1 q] at hn
        cases j with
        | zero => cases hn; exact List.mem_cons_self
        | succ j =>
          refine List.mem_cons_of_mem _ ?_
          rw [if_neg (by omega)]
          have := ih (k := k + 1) (by omega : slw vs ≤ n) hn
          rwa [show k + 1 + j = k + (j + 1) by omega] at this
      · cases n with
        | zero => omega
        | succ n =>
          rw [ent_2 q] at hn
          match j, hn with
          | 0, hn => cases hn; exact List.mem_cons_self
          | 1, hn => cases hn
          | j + 2, hn =>
            refine List.mem_cons_of_mem _ ?_
            rw [if_pos q]
            have := ih (k := k + 2) (by omega : slw vs ≤ n) hn
            rwa [show k + 2 + j = k + (j + 2) by omega] at this
theorem spl_ok {n : Nat} {st acc A rest : List Value} (h : spl n st acc = some (A, rest)) : ∃ B : List Value, A = B.reverse ++ acc ∧ st = B ++ rest ∧ B.length = n := by
  induction n generalizing st acc with
  | zero => cases h; exact ⟨[], rfl, rfl, rfl⟩
  | succ n ih =>
    cases st with
    | nil => cases h
    | cons v st =>
      obtain ⟨B, h1, h2, h3⟩ := ih h
      exact ⟨v :: B, by simp [h1], by simp [h2], by simp [h3]⟩
/-- what holds of the world when a method of the system is called -/
def Wd (G : GG) (σ : St2) (U : State) : Prop := va_P G.1 CLS (World G σ) U.heap ∧ va_K G.1 CLS (tysG G) U ∧ ∀ i j, i < lay.length → j < lay.length → G.2.2 i = G.2.2 j → i = j
abbrev wsM (M : MR) : List Cond := Cond.code M.1 M.2.1 M.2.2.1 M.2.2.2.1 :: GT
theorem kOK_all {M : MR} (ok : MOK M) : plainName M.1.cls = true ∧ (M.1.cls ≠ "java/lang/invoke/MethodHandle" ∧ M.1.cls ≠ "java/lang/invoke/VarHandle") ∧ (parseMethodDescriptor M.1.desc).map (fun d => d.parameters.length) = some M.2.2.2.2.2.2.2.2.2.2.2 ∧ Cond.code M.1 M.2.1 M.2.2.1 M.2.2.2.1 ∈ GT ∧ Cond.initialized M.1.cls ∈ GT := by
  have h := ok.2
  simp only [kOK, Bool.and_eq_true, decide_eq_true_eq] at h
  obtain ⟨⟨⟨⟨h1, h2⟩, h3⟩, h4⟩, h5⟩ := h
  exact ⟨h1, h2, h3, GT_at h4 rfl, GT_at h5 rfl⟩
theorem met_of_ev {lc : Launch} {G : GG} {M : MR} {As : List Value} {σ : St2} {Q : Option Value → St2 → Prop} (ok : MOK M) (he : slw As ≤ M.2.2.1) (h : Ev lc G M 0 (ent M.2.2.1 As) [] σ Q) : Met lc M.1 (wsM M) (rmM M) (va_Pc (As.map (cv G)) (Wd G σ)) (QQ G Q) 0 0 (Aad G) := by
  refine Met.ofW (cc := M.2.1) (maxL := M.2.2.1) (ret := M.2.2.2.1) (kOK_all ok).1 rfl ?_
  intro p e s m args below meth c s₁ B hml hv
  obtain ⟨rfl, hP, hK, hA⟩ := hv
  have hts := atoms_spec (ws := wsM M) B.pre
  have C : Cx G M p s m (As.map (cv G)).toArray meth c := ⟨B.exec, B.bytes, B.returns, hml, findClass_of_methodNamed B.named, fun w hw => hts w (List.mem_cons_of_mem _ hw), B.notSynchronized, hK, hA⟩
  have hl := lv_entry (As.map (cv G)) (n := M.2.2.1) (by rw [slw_eq]; exact he)
  rw [lg_entry_eq]
  refine h p e s m _ below meth c C s.heap [] _ hP va_S.rf ⟨lv_mono hl fun q hq => ?_, ent_len he⟩
  obtain ⟨v, q1, q2⟩ := lvl_mem.mp hq
  have := ent_args G (k := 0) he q1
  rw [Nat.zero_add, ← q2] at this
  exact this
theorem goodM {M : MR} (ok : MOK M) : GoodIn GT (wsM M) := by
  intro w hw
  rcases List.mem_cons.mp hw with rfl | h
  · exact ⟨(kOK_all ok).2.2.2.1, GT_good (kOK_all ok).2.2.2.1⟩
  · exact ⟨h, GT_good h⟩
theorem Wd_blind (G : GG) (σ : St2) (av : List Value) : FrameBlind (va_Pc av (Wd G σ)) := fun a U g mk q => by
  obtain ⟨q0, q1, q2, q3⟩ := q
  exact ⟨q0, q1, va_K.moved (u := U) (U := U.calling g mk a) (Vm.Alike.refl U.vm) q2, q3⟩
def npar (M : MR) : Nat := M.2.2.2.2.2.2.2.2.2.2.2
/-- the room and the link of a call -/
def rmOK (M M' : MR) (idx a3 : Nat) : Bool := decide (lw_tbl[a3]? = some (Cond.methodLink M.1.cls idx M'.1)) && (Nat.ble (M'.2.2.2.2.1 + 1) M.2.2.2.2.1 && Nat.ble (8 + (M'.2.2.1 + 11) + M'.2.2.2.2.2.1) M.2.2.2.2.2.1)
def lkV (M M' : MR) (idx a3 id : Nat) : Bool := rmOK M M' idx a3 && (decide (lw_tbl[M'.2.2.2.2.2.2.2.2.1]? = some (Cond.instanceMethod M'.1)) && (decide (lw_tbl[M'.2.2.2.2.2.2.2.2.2.1]? = some (Cond.selects M'.1.cls M'.1 M'.1)) && (match lay[id]? with
  | some (.inl (ci, _)) => match CLS[ci]? with
    | some (C, _, _) => decide (C = M'.1.cls)
    | none => false
  | _ => false)))
def lkS (M M' : MR) (idx a3 : Nat) : Bool := rmOK M M' idx a3 && decide (lw_tbl[M'.2.2.2.2.2.2.2.2.1]? = some (Cond.static M'.1))
theorem rmOK_ok {M M' : MR} {idx a3 : Nat} (h : rmOK M M' idx a3 = true) : Cond.methodLink M.1.cls idx M'.1 ∈ GT ∧ (rmM M').frames + 1 ≤ (rmM M).frames ∧ 8 + (M'.2.2.1 + 11) + (rmM M').locals ≤ (rmM M).locals := by
  simp only [rmOK, Bool.and_eq_true, decide_eq_true_eq] at h
  exact ⟨GT_at h.1 rfl, Nat.le_of_ble_eq_true h.2.1, Nat.le_of_ble_eq_true h.2.2⟩
section EVC
variable {lc : Launch} {G : GG} {M M' : MR} {pc : Nat} {l l' : LV} {st st' : List Value} {σ σ' : St2} {Q : Option Value → St2 → Prop} {is : List RI} {tp tgt nx a1 a3 idx : Nat} {P : Prop} {As rest : List Value}
theorem ev_back {p : Program} {e : Env} {s : State} {m : MethodId} {args : Array Value} {below : List Frame} {meth : Method} {c : Code} {H : Heap} {locs : List Loc} {ls : Array Slot} {st0 : List Value} {a : Array Value} {l : LV}
    (C : Cx G M p s m args meth c) (hS : va_S (Aad G) s.heap H locs) (hl : lv_has ls M.2.2.1 (lvl G l) ∧ l.length = M.2.2.1) (hn : nx = pc + 3)
    (hr : va_Run p lc e (rmM M) s m args below meth c H locs 0 0 0 0 (F0 m pc ls st0) (rest.map (cv G)) (QQ G (fun v τ => Ev lc G M nx l (psh v rest) τ Q) a) (Aad G)) :
    W p lc e (rmM M) s m args below meth c H locs 0 0 (MQ below (QQ G Q) args s 0 0 (Aad G)) (F0 m pc ls st0) := by
  intro T hT X
  obtain ⟨v, st₀, t, T', L, h0, X', hL, e1, e2, ⟨⟨v', τ, hv, hk, hPt⟩, hz, hkk⟩, hst⟩ := hr T hT X
  cases hv
  rw [h0] at hz hkk
  subst hn
  have hS' : va_S (Aad G) s.heap T'.heap (locs ++ L) := ⟨Nat.le_trans hS.1 (by rw [e1]; exact hz), fun q h1 h2 => by rw [e1, hkk q (Nat.lt_of_lt_of_le h1 hS.1) h2]; exact hS.2.1 q h1 h2, fun q hq => by
    rcases List.mem_append.mp hq with h | h
    · exact hS.2.2 q h
    · exact hL q h⟩
  obtain ⟨t2, a1, b1⟩ := hk p e s m args below meth c C T'.heap (locs ++ L) ls (by rw [e1]; exact hPt) hS' hl T' rfl X'
  refine ⟨t2, hst t2 ?_, b1⟩
  have e3 : (psh v' rest).map (cv G) = (v'.map (cv G)).toList ++ rest.map (cv G) := by cases v' <;> rfl
  rw [e3] at a1
  exact a1
theorem ev_cv {id : Nat} (ok : MOK M) (ok' : MOK M') (hf : fnd (blks M) pc = some (is, (tp, .invokevirtual idx, a1, nx, a3))) (hr : exs is l st σ = some (P, l', st', σ')) (hP : P) (hs : spl (npar M' + 1) st' [] = some (.ref id :: As, rest)) (hlk : lkV M M' idx a3 id = true) (hw : Nat.ble (cats rest) 8 = true) (he : Nat.ble (slw (.ref id :: As)) M'.2.2.1 = true)
    (k : Ev lc G M' 0 (ent M'.2.2.1 (.ref id :: As)) [] σ' (fun v τ => Ev lc G M nx l' (psh v rest) τ Q)) : Ev lc G M pc l st σ Q := by
  refine ev_pre ok hf hr hP fun p e s m args below meth c C H locs ls hP hS hl => ?_
  have h2 := (fnd_ok ok hf).2
  simp only [tOK, Bool.and_eq_true, decide_eq_true_eq] at h2
  have hn := Nat.eq_of_beq_eq_true h2.2
  simp only [lkV, Bool.and_eq_true, decide_eq_true_eq] at hlk
  obtain ⟨hroom, hinst, hsel, hrec⟩ := hlk
  obtain ⟨hlink, hfr, hlo⟩ := rmOK_ok hroom
  obtain ⟨hpl, hmh, hdesc, hcode, hini⟩ := kOK_all ok'
  obtain ⟨B, b1, b2, b3⟩ := spl_ok hs
  have hB : B = As.reverse ++ [.ref id] := by
    have := congrArg List.reverse b1
    simpa using this.symm
  have hlen : As.length = npar M' := by
    have := congrArg List.length hB
    simp at this
    omega
  have hts := C.2.2.2.2.2.1
  have hK := C.2.2.2.2.2.2.2.1
  have hrv : ∃ ci fks T N, lay[id]? = some (.inl (ci, fks)) ∧ CLS[ci]? = some (M'.1.cls, T, N) := by
    split at hrec
    · rename_i ci fks h1
      split at hrec
      · rename_i C0 T N h3
        simp only [decide_eq_true_eq] at hrec
        exact ⟨ci, fks, T, N, h1, by rw [h3, hrec]⟩
      · cases hrec
    · cases hrec
  obtain ⟨ci, fks, T, N, hl1, hc1⟩ := hrv
  refine ev_back C hS hl hn (va_runV (Ts := GT) (own := M.1.cls) (C := M'.1.cls) (As := As.map (cv G)) (n := npar M') (b := G.2.2 id) ⟨C.1, C.2.1, C.2.2.2.1, C.2.2.2.2.1, hts⟩ (met_of_ev ok' (Nat.le_of_ble_eq_true he) k) ⟨callB_of (npar M') hts (goodM ok') rfl rfl rfl (hts _ hini) (hts _ hlink) ⟨hmh.1, hmh.2, hdesc⟩ ⟨hfr, hlo⟩, hts _ (GT_at hinst rfl), hts _ (GT_at hsel rfl)⟩
    ⟨Wd_blind G σ' _, va_recv hK hP hc1 (cell_obj hl1), fun U hU hW => ⟨rfl, by rw [hU]; exact hP, va_K.moved hW.alike hK, C.2.2.2.2.2.2.2.2⟩⟩ rfl (by simp [hlen]) hl.1.1 ?_ (lv_room (by rw [cats_eq]; exact Nat.le_of_ble_eq_true hw)) h2.1 ⟨Nat.le_refl _, Nat.le_refl _⟩)
  rw [b2, hB]
  simp [cv]
theorem ev_cs (ok : MOK M) (ok' : MOK M') (hf : fnd (blks M) pc = some (is, (tp, .invokestatic idx, a1, nx, a3))) (hr : exs is l st σ = some (P, l', st', σ')) (hP : P) (hs : spl (npar M') st' [] = some (As, rest)) (hlk : lkS M M' idx a3 = true) (hw : Nat.ble (cats rest) 8 = true) (he : Nat.ble (slw As) M'.2.2.1 = true)
    (k : Ev lc G M' 0 (ent M'.2.2.1 As) [] σ' (fun v τ => Ev lc G M nx l' (psh v rest) τ Q)) : Ev lc G M pc l st σ Q := by
  refine ev_pre ok hf hr hP fun p e s m args below meth c C H locs ls hP hS hl => ?_
  have h2 := (fnd_ok ok hf).2
  simp only [tOK, Bool.and_eq_true, decide_eq_true_eq] at h2
  have hn := Nat.eq_of_beq_eq_true h2.2
  simp only [lkS, Bool.and_eq_true, decide_eq_true_eq] at hlk
  obtain ⟨hroom, hstat⟩ := hlk
  obtain ⟨hlink, hfr, hlo⟩ := rmOK_ok hroom
  obtain ⟨hpl, hmh, hdesc, hcode, hini⟩ := kOK_all ok'
  obtain ⟨B, b1, b2, b3⟩ := spl_ok hs
  have hB : B = As.reverse := by
    have := congrArg List.reverse b1
    simpa using this.symm
  have hlen : As.length = npar M' := by
    have := congrArg List.length hB
    simp at this
    omega
  have hts := C.2.2.2.2.2.1
  have hK := C.2.2.2.2.2.2.2.1
  refine ev_back C hS hl hn (va_runS (Ts := GT) (own := M.1.cls) (As := As.map (cv G)) (n := npar M') ⟨C.1, C.2.1, C.2.2.2.1, C.2.2.2.2.1, hts⟩ (met_of_ev ok' (Nat.le_of_ble_eq_true he) k) ⟨callB_of (npar M') hts (goodM ok') rfl rfl rfl (hts _ hini) (hts _ hlink) ⟨hmh.1, hmh.2, hdesc⟩ ⟨hfr, hlo⟩, hts _ (GT_at hstat rfl)⟩
    ⟨Wd_blind G σ' _, fun U hU hW => ⟨rfl, by rw [hU]; exact hP, va_K.moved hW.alike hK, C.2.2.2.2.2.2.2.2⟩⟩ rfl (by simp [hlen]) hl.1.1 ?_ (lv_room (by rw [cats_eq]; exact Nat.le_of_ble_eq_true hw)) h2.1 ⟨Nat.le_refl _, Nat.le_refl _⟩)
  rw [b2, hB]
  simp
end EVC
end
section
theorem wd_max : Cond.static Lib.Math.max.name ∈ GT ∧ Cond.code Lib.Math.max.name Lib.Math.max.code 2 (some .int) ∈ GT ∧ Cond.initialized "java/lang/Math" ∈ GT := ⟨GT_at (i := 419) (by decide +kernel) rfl, GT_at (i := 420) (by decide +kernel) rfl, GT_at (i := 64) (by decide +kernel) rfl⟩
theorem ev_max {lc : Launch} {G : GG} {M : MR} {pc : Nat} {l l' : LV} {st rest : List Value} {σ σ' : St2} {Q : Option Value → St2 → Prop} {is : List RI} {tp nx a1 a3 idx : Nat} {P : Prop} {x y : Int32} (ok : MOK M) (hf : fnd (blks M) pc = some (is, (tp, .invokestatic idx, a1, nx, a3))) (hr : exs is l st σ = some (P, l', .int y :: .int x :: rest, σ')) (hP : P) (hlk : (decide (lw_tbl[a3]? = some (Cond.methodLink M.1.cls idx Lib.Math.max.name)) && Nat.ble 1 M.2.2.2.2.1) = true) (hw : Nat.ble (cats rest + 13) M.2.2.2.2.2.1 = true) (k : Ev lc G M nx l' (.int (if x < y then y else x) :: rest) σ' Q) : Ev lc G M pc l st σ Q := by
  refine ev_pre ok hf hr hP fun p e s m args below meth c C H locs ls hP hS hl => ?_
  have h2 := (fnd_ok ok hf).2
  simp only [tOK, Bool.and_eq_true, decide_eq_true_eq] at h2
  have hn := Nat.eq_of_beq_eq_true h2.2
  simp only [Bool.and_eq_true, decide_eq_true_eq] at hlk
  have hts := C.2.2.2.2.2.1
  subst hn
  exact va_mmax C.1 C.2.1 (C.2.2.2.1.trans hl.1.1.symm) C.2.2.2.2.1 (hts _ (GT_at hlk.1 rfl)) (hts _ wd_max.1) (hts _ wd_max.2.2) (hts _ wd_max.2.1) (Nat.le_of_ble_eq_true hlk.2) (by rw [cats_eq]; exact Nat.le_of_ble_eq_true hw) (Nat.le_refl _) (Nat.le_refl _) h2.1 (k p e s m args below meth c C H locs ls hP hS hl)
theorem wd_min : Cond.static Lib.Math.min.name ∈ GT ∧ Cond.code Lib.Math.min.name Lib.Math.min.code 2 (some .int) ∈ GT ∧ Cond.initialized "java/lang/Math" ∈ GT := ⟨GT_at (i := 362) (by decide +kernel) rfl, GT_at (i := 363) (by decide +kernel) rfl, GT_at (i := 64) (by decide +kernel) rfl⟩
theorem ev_min {lc : Launch} {G : GG} {M : MR} {pc : Nat} {l l' : LV} {st rest : List Value} {σ σ' : St2} {Q : Option Value → St2 → Prop} {is : List RI} {tp nx a1 a3 idx : Nat} {P : Prop} {x y : Int32} (ok : MOK M) (hf : fnd (blks M) pc = some (is, (tp, .invokestatic idx, a1, nx, a3))) (hr : exs is l st σ = some (P, l', .int y :: .int x :: rest, σ')) (hP : P) (hlk : (decide (lw_tbl[a3]? = some (Cond.methodLink M.1.cls idx Lib.Math.min.name)) && Nat.ble 1 M.2.2.2.2.1) = true) (hw : Nat.ble (cats rest + 13) M.2.2.2.2.2.1 = true) (k : Ev lc G M nx l' (.int (if y < x then y else x) :: rest) σ' Q) : Ev lc G M pc l st σ Q := by
  refine ev_pre ok hf hr hP fun p e s m args below meth c C H locs ls hP hS hl => ?_
  have h2 := (fnd_ok ok hf).2
  simp only [tOK, Bool.and_eq_true, decide_eq_true_eq] at h2
  have hn := Nat.eq_of_beq_eq_true h2.2
  simp only [Bool.and_eq_true, decide_eq_true_eq] at hlk
  have hts := C.2.2.2.2.2.1
  subst hn
  exact va_mmin C.1 C.2.1 (C.2.2.2.1.trans hl.1.1.symm) C.2.2.2.2.1 (hts _ (GT_at hlk.1 rfl)) (hts _ wd_min.1) (hts _ wd_min.2.2) (hts _ wd_min.2.1) (Nat.le_of_ble_eq_true hlk.2) (by rw [cats_eq]; exact Nat.le_of_ble_eq_true hw) (Nat.le_refl _) (Nat.le_refl _) h2.1 (k p e s m args below meth c C H locs ls hP hS hl)
end
section
def bTx_add : List BLK := [
  (0, [(0, .aload_n 0, 0, 0, 0), (1, .getfield 15, 6, 1, 81), (4, .aload_n 0, 0, 0, 0), (5, .getfield 9, 6, 0, 79), (8, .arraylength, 0, 0, 0)], (9, .if_icmp .ge 24, 33, 12, 0)),
  (12, [(12, .aload_n 0, 0, 0, 0), (13, .getfield 9, 6, 0, 79), (16, .aload_n 0, 0, 0, 0), (17, .getfield 15, 6, 1, 81), (20, .iload_n 1, 0, 0, 0), (21, .i2b, 0, 0, 0), (22, .bastore, 0, 0, 0), (23, .aload_n 0, 0, 0, 0), (24, .dup, 0, 0, 0), (25, .getfield 15, 6, 1, 81), (28, .iconst 1, 1, 0, 0), (29, .iadd, 0, 0, 0), (30, .putfield 15, 6, 1, 81)], (33, .nop, 0, 0, 0)),
  (33, [], (33, .return_, 0, 0, 0))]
def mTx_add : MR := (⟨"PageFormatter$Text", "add", "(I)V"⟩, prog_8_method_2_code, 2, (Option.none : Option Jvm.ClassFile.FieldType), 0, 0, bTx_add, 319, 317, 318, 56, 1)
set_option maxRecDepth 100000 in
theorem okTx_add : MOK mTx_add := ⟨by decide +kernel, by decide +kernel⟩
def bTx_byteAt : List BLK := [
  (0, [(0, .iload_n 1, 0, 0, 0)], (1, .ifCond .lt 20, 21, 4, 0)),
  (4, [(4, .iload_n 1, 0, 0, 0), (5, .aload_n 0, 0, 0, 0), (6, .getfield 15, 6, 1, 81)], (9, .if_icmp .ge 12, 21, 12, 0)),
  (12, [(12, .aload_n 0, 0, 0, 0), (13, .getfield 9, 6, 0, 79), (16, .iload_n 1, 0, 0, 0), (17, .baload, 0, 0, 0)], (18, .goto 4, 22, 21, 0)),
  (21, [(21, .iconst (-1), 0, 1, 0)], (22, .nop, 0, 0, 0)),
  (22, [], (22, .ireturn, 0, 0, 0))]
def mTx_byteAt : MR := (⟨"PageFormatter$Text", "byteAt", "(I)I"⟩, prog_8_method_3_code, 2, (Option.some Jvm.ClassFile.FieldType.int), 0, 0, bTx_byteAt, 327, 325, 326, 56, 1)
set_option maxRecDepth 100000 in
theorem okTx_byteAt : MOK mTx_byteAt := ⟨by decide +kernel, by decide +kernel⟩
def bTx_leadingBlanks : List BLK := [
  (0, [(0, .aload_n 0, 0, 0, 0), (1, .iconst 0, 0, 0, 0)], (2, .invokevirtual 19, 0, 5, 526)),
  (5, [], (5, .ireturn, 0, 0, 0))]
def mTx_leadingBlanks : MR := (⟨"PageFormatter$Text", "leadingBlanks", "()I"⟩, prog_8_method_4_code, 1, (Option.some Jvm.ClassFile.FieldType.int), 2, 43, bTx_leadingBlanks, 525, 523, 524, 56, 0)
set_option maxRecDepth 100000 in
theorem okTx_leadingBlanks : MOK mTx_leadingBlanks := ⟨by decide +kernel, by decide +kernel⟩
def bTx_passBlanks : List BLK := [
  (0, [(0, .iload_n 1, 0, 0, 0), (1, .istore_n 2, 0, 0, 0)], (2, .nop, 0, 0, 0)),
  (2, [(2, .iload_n 2, 0, 0, 0), (3, .aload_n 0, 0, 0, 0), (4, .getfield 15, 6, 1, 81)], (7, .if_icmp .ge 19, 26, 10, 0)),
  (10, [(10, .aload_n 0, 0, 0, 0), (11, .iload_n 2, 0, 0, 0)], (12, .invokevirtual 23, 0, 15, 337)),
  (15, [(15, .bipush 32, 32, 0, 0)], (17, .if_icmp .ne 9, 26, 20, 0)),
  (20, [(20, .iinc 2 1, 1, 0, 0)], (23, .goto (-21), 2, 26, 0)),
  (26, [(26, .iload_n 2, 0, 0, 0)], (27, .ireturn, 0, 0, 0))]
def mTx_passBlanks : MR := (⟨"PageFormatter$Text", "passBlanks", "(I)I"⟩, prog_8_method_5_code, 3, (Option.some Jvm.ClassFile.FieldType.int), 1, 21, bTx_passBlanks, 336, 334, 335, 56, 1)
set_option maxRecDepth 100000 in
theorem okTx_passBlanks : MOK mTx_passBlanks := ⟨by decide +kernel, by decide +kernel⟩
def bTx_hasLetters : List BLK := [
  (0, [(0, .iload_n 1, 0, 0, 0), (1, .istore_n 3, 0, 0, 0)], (2, .nop, 0, 0, 0)),
  (2, [(2, .iload_n 3, 0, 0, 0), (3, .iload_n 2, 0, 0, 0)], (4, .if_icmp .ge 21, 25, 7, 0)),
  (7, [(7, .aload_n 0, 0, 0, 0), (8, .iload_n 3, 0, 0, 0)], (9, .invokevirtual 23, 0, 12, 337)),
  (12, [(12, .bipush 94, 94, 0, 0)], (14, .if_icmp .eq 5, 19, 17, 0)),
  (17, [(17, .iconst 1, 1, 0, 0)], (18, .ireturn, 0, 0, 0)),
  (19, [(19, .iinc 3 1, 1, 0, 0)], (22, .goto (-20), 2, 25, 0)),
  (25, [(25, .iconst 0, 0, 0, 0)], (26, .ireturn, 0, 0, 0))]
def mTx_hasLetters : MR := (⟨"PageFormatter$Text", "hasLetters", "(II)Z"⟩, prog_8_method_6_code, 4, (Option.some Jvm.ClassFile.FieldType.boolean), 1, 21, bTx_hasLetters, 569, 567, 568, 56, 2)
set_option maxRecDepth 100000 in
theorem okTx_hasLetters : MOK mTx_hasLetters := ⟨by decide +kernel, by decide +kernel⟩
def bTx_copyFrom : List BLK := [
  (0, [(0, .aload_n 0, 0, 0, 0), (1, .iconst 0, 0, 0, 0), (2, .putfield 15, 6, 1, 81), (5, .iload_n 2, 0, 0, 0), (6, .istore_n 3, 0, 0, 0)], (7, .nop, 0, 0, 0)),
  (7, [(7, .iload_n 3, 0, 0, 0), (8, .aload_n 1, 0, 0, 0), (9, .getfield 15, 6, 1, 81)], (12, .if_icmp .ge 18, 30, 15, 0)),
  (15, [(15, .aload_n 0, 0, 0, 0), (16, .aload_n 1, 0, 0, 0), (17, .iload_n 3, 0, 0, 0)], (18, .invokevirtual 23, 0, 21, 337)),
  (21, [], (21, .invokevirtual 26, 0, 24, 517)),
  (24, [(24, .iinc 3 1, 1, 0, 0)], (27, .goto (-20), 7, 30, 0)),
  (30, [], (30, .return_, 0, 0, 0))]
def mTx_copyFrom : MR := (⟨"PageFormatter$Text", "copyFrom", "(LPageFormatter$Text;I)V"⟩, prog_8_method_7_code, 4, (Option.none : Option Jvm.ClassFile.FieldType), 1, 21, bTx_copyFrom, 516, 514, 515, 56, 2)
set_option maxRecDepth 100000 in
theorem okTx_copyFrom : MOK mTx_copyFrom := ⟨by decide +kernel, by decide +kernel⟩
def bTx_dropFirst : List BLK := [
  (0, [(0, .aload_n 0, 0, 0, 0), (1, .getfield 15, 6, 1, 81), (4, .istore_n 2, 0, 0, 0), (5, .aload_n 0, 0, 0, 0), (6, .iconst 0, 0, 0, 0), (7, .putfield 15, 6, 1, 81), (10, .iload_n 1, 0, 0, 0), (11, .istore_n 3, 0, 0, 0)], (12, .nop, 0, 0, 0)),
  (12, [(12, .iload_n 3, 0, 0, 0), (13, .iload_n 2, 0, 0, 0)], (14, .if_icmp .ge 28, 42, 17, 0)),
  (17, [(17, .iload_n 3, 0, 0, 0), (18, .aload_n 0, 0, 0, 0), (19, .getfield 9, 6, 0, 79), (22, .arraylength, 0, 0, 0)], (23, .if_icmp .ge 19, 42, 26, 0)),
  (26, [(26, .aload_n 0, 0, 0, 0), (27, .aload_n 0, 0, 0, 0), (28, .getfield 9, 6, 0, 79), (31, .iload_n 3, 0, 0, 0), (32, .baload, 0, 0, 0)], (33, .invokevirtual 26, 0, 36, 517)),
  (36, [(36, .iinc 3 1, 1, 0, 0)], (39, .goto (-27), 12, 42, 0)),
  (42, [], (42, .return_, 0, 0, 0))]
def mTx_dropFirst : MR := (⟨"PageFormatter$Text", "dropFirst", "(I)V"⟩, prog_8_method_8_code, 4, (Option.none : Option Jvm.ClassFile.FieldType), 1, 21, bTx_dropFirst, 539, 537, 538, 56, 1)
set_option maxRecDepth 100000 in
theorem okTx_dropFirst : MOK mTx_dropFirst := ⟨by decide +kernel, by decide +kernel⟩
def bTx_dropCarets : List BLK := [
  (0, [(0, .aload_n 0, 0, 0, 0), (1, .getfield 15, 6, 1, 81), (4, .istore_n 1, 0, 0, 0), (5, .aload_n 0, 0, 0, 0), (6, .iconst 0, 0, 0, 0), (7, .putfield 15, 6, 1, 81), (10, .iconst 0, 0, 0, 0), (11, .istore_n 2, 0, 0, 0)], (12, .nop, 0, 0, 0)),
  (12, [(12, .iload_n 2, 0, 0, 0), (13, .iload_n 1, 0, 0, 0)], (14, .if_icmp .ge 39, 53, 17, 0)),
  (17, [(17, .iload_n 2, 0, 0, 0), (18, .aload_n 0, 0, 0, 0), (19, .getfield 9, 6, 0, 79), (22, .arraylength, 0, 0, 0)], (23, .if_icmp .ge 30, 53, 26, 0)),
  (26, [(26, .aload_n 0, 0, 0, 0), (27, .getfield 9, 6, 0, 79), (30, .iload_n 2, 0, 0, 0), (31, .baload, 0, 0, 0), (32, .bipush 94, 94, 0, 0)], (34, .if_icmp .eq 13, 47, 37, 0)),
  (37, [(37, .aload_n 0, 0, 0, 0), (38, .aload_n 0, 0, 0, 0), (39, .getfield 9, 6, 0, 79), (42, .iload_n 2, 0, 0, 0), (43, .baload, 0, 0, 0)], (44, .invokevirtual 26, 0, 47, 517)),
  (47, [(47, .iinc 2 1, 1, 0, 0)], (50, .goto (-38), 12, 53, 0)),
  (53, [], (53, .return_, 0, 0, 0))]
def mTx_dropCarets : MR := (⟨"PageFormatter$Text", "dropCarets", "()V"⟩, prog_8_method_9_code, 3, (Option.none : Option Jvm.ClassFile.FieldType), 1, 21, bTx_dropCarets, 551, 549, 550, 56, 0)
set_option maxRecDepth 100000 in
theorem okTx_dropCarets : MOK mTx_dropCarets := ⟨by decide +kernel, by decide +kernel⟩
def bTx_dropEndBlanks : List BLK := [
  (0, [(0, .aload_n 0, 0, 0, 0), (1, .getfield 15, 6, 1, 81)], (4, .ifCond .le 31, 35, 7, 0)),
  (7, [(7, .aload_n 0, 0, 0, 0), (8, .aload_n 0, 0, 0, 0), (9, .getfield 15, 6, 1, 81), (12, .iconst 1, 1, 0, 0), (13, .isub, 0, 0, 0)], (14, .invokevirtual 23, 0, 17, 337)),
  (17, [(17, .bipush 32, 32, 0, 0)], (19, .if_icmp .ne 16, 35, 22, 0)),
  (22, [(22, .aload_n 0, 0, 0, 0), (23, .dup, 0, 0, 0), (24, .getfield 15, 6, 1, 81), (27, .iconst 1, 1, 0, 0), (28, .isub, 0, 0, 0), (29, .putfield 15, 6, 1, 81)], (32, .goto (-32), 0, 35, 0)),
  (35, [], (35, .return_, 0, 0, 0))]
def mTx_dropEndBlanks : MR := (⟨"PageFormatter$Text", "dropEndBlanks", "()V"⟩, prog_8_method_10_code, 1, (Option.none : Option Jvm.ClassFile.FieldType), 1, 21, bTx_dropEndBlanks, 555, 553, 554, 56, 0)
set_option maxRecDepth 100000 in
theorem okTx_dropEndBlanks : MOK mTx_dropEndBlanks := ⟨by decide +kernel, by decide +kernel⟩
end
section
def bCm_read : List BLK := [
  (0, [(0, .aload_n 0, 0, 0, 0), (1, .aload_n 1, 0, 0, 0), (2, .getfield 26, 6, 1, 82), (5, .iconst 3, 3, 0, 0)], (6, .if_icmp .ge 7, 13, 9, 0)),
  (9, [(9, .iconst 0, 0, 0, 0)], (10, .goto 17, 27, 13, 0)),
  (13, [(13, .aload_n 1, 0, 0, 0), (14, .iconst 1, 1, 0, 0)], (15, .invokevirtual 31, 0, 18, 332)),
  (18, [(18, .bipush 8, 8, 0, 0), (20, .ishl, 0, 0, 0), (21, .aload_n 1, 0, 0, 0), (22, .iconst 2, 2, 0, 0)], (23, .invokevirtual 31, 0, 26, 332)),
  (26, [(26, .ior, 0, 0, 0)], (27, .nop, 0, 0, 0)),
  (27, [(27, .putfield 9, 0, 0, 98), (30, .aload_n 0, 0, 0, 0), (31, .aload_n 1, 0, 0, 0), (32, .iconst 3, 3, 0, 0)], (33, .invokevirtual 35, 0, 36, 333)),
  (36, [(36, .putfield 13, 0, 1, 100), (39, .aload_n 0, 0, 0, 0), (40, .aload_n 1, 0, 0, 0)], (41, .invokevirtual 38, 0, 44, 338)),
  (44, [], (44, .return_, 0, 0, 0))]
def mCm_read : MR := (⟨"PageFormatter$Command", "read", "(LPageFormatter$Text;)V"⟩, prog_2_method_2_code, 2, (Option.none : Option Jvm.ClassFile.FieldType), 2, 45, bCm_read, 331, 329, 330, 57, 1)
set_option maxRecDepth 100000 in
theorem okCm_read : MOK mCm_read := ⟨by decide +kernel, by decide +kernel⟩
def bCm_readNumber : List BLK := [
  (0, [(0, .aload_n 0, 0, 0, 0), (1, .aload_n 1, 0, 0, 0), (2, .aload_n 0, 0, 0, 0), (3, .getfield 13, 0, 1, 100)], (6, .invokevirtual 31, 0, 9, 332)),
  (9, [(9, .putfield 16, 0, 2, 102), (12, .aload_n 0, 0, 0, 0), (13, .getfield 16, 0, 2, 102), (16, .bipush 43, 43, 0, 0)], (18, .if_icmp .eq 12, 30, 21, 0)),
  (21, [(21, .aload_n 0, 0, 0, 0), (22, .getfield 16, 0, 2, 102), (25, .bipush 45, 45, 0, 0)], (27, .if_icmp .ne 7, 34, 30, 0)),
  (30, [(30, .iconst 1, 1, 0, 0)], (31, .goto 4, 35, 34, 0)),
  (34, [(34, .iconst 0, 0, 0, 0)], (35, .nop, 0, 0, 0)),
  (35, [(35, .istore_n 2, 0, 0, 0), (36, .iload_n 2, 0, 0, 0)], (37, .ifCond .eq 12, 49, 40, 0)),
  (40, [(40, .aload_n 0, 0, 0, 0), (41, .getfield 13, 0, 1, 100), (44, .iconst 1, 1, 0, 0), (45, .iadd, 0, 0, 0)], (46, .goto 7, 53, 49, 0)),
  (49, [(49, .aload_n 0, 0, 0, 0), (50, .getfield 13, 0, 1, 100)], (53, .nop, 0, 0, 0)),
  (53, [(53, .istore_n 3, 0, 0, 0), (54, .iconst 0, 0, 0, 0), (55, .istore 4, 0, 0, 0), (57, .aload_n 0, 0, 0, 0), (58, .iconst 0, 0, 0, 0), (59, .putfield 19, 0, 3, 103)], (62, .nop, 0, 0, 0)),
  (62, [(62, .iload 4, 0, 0, 0), (64, .iconst 4, 4, 0, 0)], (65, .if_icmp .ge 46, 111, 68, 0)),
  (68, [(68, .aload_n 1, 0, 0, 0), (69, .iload_n 3, 0, 0, 0), (70, .iload 4, 0, 0, 0), (72, .iadd, 0, 0, 0)], (73, .invokevirtual 31, 0, 76, 332)),
  (76, [], (76, .invokestatic 42, 0, 79, 342)),
  (79, [], (79, .ifCond .eq 32, 111, 82, 0)),
  (82, [(82, .aload_n 0, 0, 0, 0), (83, .aload_n 0, 0, 0, 0), (84, .getfield 19, 0, 3, 103), (87, .bipush 10, 10, 0, 0), (89, .imul, 0, 0, 0), (90, .aload_n 1, 0, 0, 0), (91, .iload_n 3, 0, 0, 0), (92, .iload 4, 0, 0, 0), (94, .iadd, 0, 0, 0)], (95, .invokevirtual 31, 0, 98, 332)),
  (98, [(98, .iadd, 0, 0, 0), (99, .bipush 48, 48, 0, 0), (101, .isub, 0, 0, 0), (102, .putfield 19, 0, 3, 103), (105, .iinc 4 1, 1, 0, 0)], (108, .goto (-46), 62, 111, 0)),
  (111, [(111, .aload_n 0, 0, 0, 0), (112, .iload 4, 0, 0, 0)], (114, .ifCond .le 7, 121, 117, 0)),
  (117, [(117, .iconst 1, 1, 0, 0)], (118, .goto 4, 122, 121, 0)),
  (121, [(121, .iconst 0, 0, 0, 0)], (122, .nop, 0, 0, 0)),
  (122, [(122, .putfield 22, 0, 4, 104)], (125, .return_, 0, 0, 0))]
def mCm_readNumber : MR := (⟨"PageFormatter$Command", "readNumber", "(LPageFormatter$Text;)V"⟩, prog_2_method_3_code, 5, (Option.none : Option Jvm.ClassFile.FieldType), 1, 21, bCm_readNumber, 341, 340, 0, 57, 1)
set_option maxRecDepth 100000 in
theorem okCm_readNumber : MOK mCm_readNumber := ⟨by decide +kernel, by decide +kernel⟩
def bCm_isDigit : List BLK := [
  (0, [(0, .iload_n 0, 0, 0, 0), (1, .bipush 48, 48, 0, 0)], (3, .if_icmp .lt 13, 16, 6, 0)),
  (6, [(6, .iload_n 0, 0, 0, 0), (7, .bipush 57, 57, 0, 0)], (9, .if_icmp .gt 7, 16, 12, 0)),
  (12, [(12, .iconst 1, 1, 0, 0)], (13, .goto 4, 17, 16, 0)),
  (16, [(16, .iconst 0, 0, 0, 0)], (17, .nop, 0, 0, 0)),
  (17, [], (17, .ireturn, 0, 0, 0))]
def mCm_isDigit : MR := (⟨"PageFormatter$Command", "isDigit", "(I)Z"⟩, prog_2_method_4_code, 1, (Option.some Jvm.ClassFile.FieldType.boolean), 0, 0, bCm_isDigit, 344, 343, 0, 57, 1)
set_option maxRecDepth 100000 in
theorem okCm_isDigit : MOK mCm_isDigit := ⟨by decide +kernel, by decide +kernel⟩
def bCm_set : List BLK := [
  (0, [(0, .aload_n 0, 0, 0, 0), (1, .getfield 19, 0, 3, 103), (4, .istore 5, 0, 0, 0), (6, .aload_n 0, 0, 0, 0), (7, .getfield 22, 0, 4, 104)], (10, .ifCond .ne 9, 19, 13, 0)),
  (13, [(13, .iload_n 2, 0, 0, 0), (14, .istore 5, 0, 0, 0)], (16, .goto 40, 56, 19, 0)),
  (19, [(19, .aload_n 0, 0, 0, 0), (20, .getfield 16, 0, 2, 102), (23, .bipush 43, 43, 0, 0)], (25, .if_icmp .ne 14, 39, 28, 0)),
  (28, [(28, .iload_n 1, 0, 0, 0), (29, .aload_n 0, 0, 0, 0), (30, .getfield 19, 0, 3, 103), (33, .iadd, 0, 0, 0), (34, .istore 5, 0, 0, 0)], (36, .goto 20, 56, 39, 0)),
  (39, [(39, .aload_n 0, 0, 0, 0), (40, .getfield 16, 0, 2, 102), (43, .bipush 45, 45, 0, 0)], (45, .if_icmp .ne 11, 56, 48, 0)),
  (48, [(48, .iload_n 1, 0, 0, 0), (49, .aload_n 0, 0, 0, 0), (50, .getfield 19, 0, 3, 103), (53, .isub, 0, 0, 0), (54, .istore 5, 0, 0, 0)], (56, .nop, 0, 0, 0)),
  (56, [(56, .iload_n 3, 0, 0, 0), (57, .iload 4, 0, 0, 0), (59, .iload 5, 0, 0, 0)], (61, .invokestatic 46, 0, 64, 494)),
  (64, [], (64, .invokestatic 52, 0, 67, 495)),
  (67, [], (67, .ireturn, 0, 0, 0))]
def mCm_set : MR := (⟨"PageFormatter$Command", "set", "(IIII)I"⟩, prog_2_method_5_code, 6, (Option.some Jvm.ClassFile.FieldType.int), 1, 21, bCm_set, 493, 491, 492, 57, 4)
set_option maxRecDepth 100000 in
theorem okCm_set : MOK mCm_set := ⟨by decide +kernel, by decide +kernel⟩
end
section
def bLa_reset : List BLK := [
  (0, [(0, .aload_n 0, 0, 0, 0), (1, .bipush 40, 40, 0, 0), (3, .putfield 12, 1, 0, 126), (6, .aload_n 0, 0, 0, 0), (7, .iconst 0, 0, 0, 0), (8, .putfield 16, 1, 1, 128), (11, .aload_n 0, 0, 0, 0), (12, .iconst 0, 0, 0, 0), (13, .putfield 19, 1, 2, 131), (16, .aload_n 0, 0, 0, 0), (17, .iconst 1, 1, 0, 0), (18, .putfield 22, 1, 3, 134), (21, .aload_n 0, 0, 0, 0), (22, .iconst 0, 0, 0, 0), (23, .putfield 25, 1, 4, 137), (26, .aload_n 0, 0, 0, 0), (27, .iconst 0, 0, 0, 0), (28, .putfield 28, 1, 5, 139), (31, .aload_n 0, 0, 0, 0), (32, .bipush 24, 24, 0, 0), (34, .putfield 31, 1, 6, 141), (37, .aload_n 0, 0, 0, 0), (38, .iconst 1, 1, 0, 0), (39, .putfield 34, 1, 7, 144), (42, .aload_n 0, 0, 0, 0), (43, .iconst 1, 1, 0, 0), (44, .putfield 38, 1, 8, 146)], (47, .return_, 0, 0, 0))]
def mLa_reset : MR := (⟨"PageFormatter$Layout", "reset", "()V"⟩, prog_3_method_2_code, 1, (Option.none : Option Jvm.ClassFile.FieldType), 0, 0, bLa_reset, 125, 123, 124, 58, 0)
set_option maxRecDepth 100000 in
theorem okLa_reset : MOK mLa_reset := ⟨by decide +kernel, by decide +kernel⟩
def bLa_leastRight : List BLK := [
  (0, [(0, .aload_n 0, 0, 0, 0), (1, .getfield 19, 1, 2, 131), (4, .aload_n 0, 0, 0, 0), (5, .getfield 16, 1, 1, 128)], (8, .invokestatic 41, 0, 11, 504)),
  (11, [(11, .iconst 1, 1, 0, 0), (12, .iadd, 0, 0, 0)], (13, .ireturn, 0, 0, 0))]
def mLa_leastRight : MR := (⟨"PageFormatter$Layout", "leastRight", "()I"⟩, prog_3_method_3_code, 1, (Option.some Jvm.ClassFile.FieldType.int), 1, 21, bLa_leastRight, 503, 501, 502, 58, 0)
set_option maxRecDepth 100000 in
theorem okLa_leastRight : MOK mLa_leastRight := ⟨by decide +kernel, by decide +kernel⟩
def bLa_growThisIndent : List BLK := [
  (0, [(0, .aload_n 0, 0, 0, 0), (1, .aload_n 0, 0, 0, 0), (2, .getfield 12, 1, 0, 126), (5, .iconst 1, 1, 0, 0), (6, .isub, 0, 0, 0), (7, .aload_n 0, 0, 0, 0), (8, .getfield 19, 1, 2, 131), (11, .iload_n 1, 0, 0, 0), (12, .iadd, 0, 0, 0)], (13, .invokestatic 47, 0, 16, 535)),
  (16, [(16, .putfield 19, 1, 2, 131)], (19, .return_, 0, 0, 0))]
def mLa_growThisIndent : MR := (⟨"PageFormatter$Layout", "growThisIndent", "(I)V"⟩, prog_3_method_4_code, 2, (Option.none : Option Jvm.ClassFile.FieldType), 1, 21, bLa_growThisIndent, 534, 532, 533, 58, 1)
set_option maxRecDepth 100000 in
theorem okLa_growThisIndent : MOK mLa_growThisIndent := ⟨by decide +kernel, by decide +kernel⟩
def bLa_takeUnderlined : List BLK := [
  (0, [(0, .aload_n 0, 0, 0, 0), (1, .getfield 28, 1, 5, 139)], (4, .ifCond .ne 5, 9, 7, 0)),
  (7, [(7, .iconst 0, 0, 0, 0)], (8, .ireturn, 0, 0, 0)),
  (9, [(9, .aload_n 0, 0, 0, 0), (10, .dup, 0, 0, 0), (11, .getfield 28, 1, 5, 139), (14, .iconst 1, 1, 0, 0), (15, .isub, 0, 0, 0), (16, .putfield 28, 1, 5, 139), (19, .iconst 1, 1, 0, 0)], (20, .ireturn, 0, 0, 0))]
def mLa_takeUnderlined : MR := (⟨"PageFormatter$Layout", "takeUnderlined", "()Z"⟩, prog_3_method_5_code, 1, (Option.some Jvm.ClassFile.FieldType.boolean), 0, 0, bLa_takeUnderlined, 543, 541, 542, 58, 0)
set_option maxRecDepth 100000 in
theorem okLa_takeUnderlined : MOK mLa_takeUnderlined := ⟨by decide +kernel, by decide +kernel⟩
end
section
def bOu_byteAt : List BLK := [
  (0, [(0, .iload_n 1, 0, 0, 0)], (1, .ifCond .lt 20, 21, 4, 0)),
  (4, [(4, .iload_n 1, 0, 0, 0), (5, .aload_n 0, 0, 0, 0), (6, .getfield 15, 2, 1, 174)], (9, .if_icmp .ge 12, 21, 12, 0)),
  (12, [(12, .aload_n 0, 0, 0, 0), (13, .getfield 9, 2, 0, 173), (16, .iload_n 1, 0, 0, 0), (17, .baload, 0, 0, 0)], (18, .goto 4, 22, 21, 0)),
  (21, [(21, .iconst (-1), 0, 1, 0)], (22, .nop, 0, 0, 0)),
  (22, [], (22, .ireturn, 0, 0, 0))]
def mOu_byteAt : MR := (⟨"PageFormatter$Output", "byteAt", "(I)I"⟩, prog_4_method_2_code, 2, (Option.some Jvm.ClassFile.FieldType.int), 0, 0, bOu_byteAt, 607, 605, 606, 59, 1)
set_option maxRecDepth 100000 in
theorem okOu_byteAt : MOK mOu_byteAt := ⟨by decide +kernel, by decide +kernel⟩
def bOu_put : List BLK := [
  (0, [(0, .aload_n 0, 0, 0, 0), (1, .getfield 15, 2, 1, 174), (4, .aload_n 0, 0, 0, 0), (5, .getfield 9, 2, 0, 173), (8, .arraylength, 0, 0, 0)], (9, .if_icmp .ge 24, 33, 12, 0)),
  (12, [(12, .aload_n 0, 0, 0, 0), (13, .getfield 9, 2, 0, 173), (16, .aload_n 0, 0, 0, 0), (17, .getfield 15, 2, 1, 174), (20, .iload_n 1, 0, 0, 0), (21, .i2b, 0, 0, 0), (22, .bastore, 0, 0, 0), (23, .aload_n 0, 0, 0, 0), (24, .dup, 0, 0, 0), (25, .getfield 15, 2, 1, 174), (28, .iconst 1, 1, 0, 0), (29, .iadd, 0, 0, 0), (30, .putfield 15, 2, 1, 174)], (33, .nop, 0, 0, 0)),
  (33, [], (33, .return_, 0, 0, 0))]
def mOu_put : MR := (⟨"PageFormatter$Output", "put", "(I)V"⟩, prog_4_method_3_code, 2, (Option.none : Option Jvm.ClassFile.FieldType), 0, 0, bOu_put, 445, 443, 444, 59, 1)
set_option maxRecDepth 100000 in
theorem okOu_put : MOK mOu_put := ⟨by decide +kernel, by decide +kernel⟩
def bOu_repeat : List BLK := [
  (0, [(0, .iconst 0, 0, 0, 0), (1, .istore_n 3, 0, 0, 0)], (2, .nop, 0, 0, 0)),
  (2, [(2, .iload_n 3, 0, 0, 0), (3, .iload_n 2, 0, 0, 0)], (4, .if_icmp .ge 14, 18, 7, 0)),
  (7, [(7, .aload_n 0, 0, 0, 0), (8, .iload_n 1, 0, 0, 0)], (9, .invokevirtual 19, 0, 12, 442)),
  (12, [(12, .iinc 3 1, 1, 0, 0)], (15, .goto (-13), 2, 18, 0)),
  (18, [], (18, .return_, 0, 0, 0))]
def mOu_repeat : MR := (⟨"PageFormatter$Output", "repeat", "(II)V"⟩, prog_4_method_4_code, 4, (Option.none : Option Jvm.ClassFile.FieldType), 1, 21, bOu_repeat, 451, 449, 450, 59, 2)
set_option maxRecDepth 100000 in
theorem okOu_repeat : MOK mOu_repeat := ⟨by decide +kernel, by decide +kernel⟩
def bOu_putBytes : List BLK := [
  (0, [(0, .iconst 0, 0, 0, 0), (1, .iload_n 2, 0, 0, 0)], (2, .invokestatic 23, 0, 5, 469)),
  (5, [(5, .istore 5, 0, 0, 0)], (7, .nop, 0, 0, 0)),
  (7, [(7, .iload 5, 0, 0, 0), (9, .iload_n 3, 0, 0, 0)], (10, .if_icmp .ge 50, 60, 13, 0)),
  (13, [(13, .iload 5, 0, 0, 0), (15, .aload_n 1, 0, 0, 0), (16, .arraylength, 0, 0, 0)], (17, .if_icmp .ge 43, 60, 20, 0)),
  (20, [(20, .iload 4, 0, 0, 0)], (22, .ifCond .eq 24, 46, 25, 0)),
  (25, [(25, .aload_n 1, 0, 0, 0), (26, .iload 5, 0, 0, 0), (28, .baload, 0, 0, 0), (29, .bipush 32, 32, 0, 0)], (31, .if_icmp .eq 15, 46, 34, 0)),
  (34, [(34, .aload_n 0, 0, 0, 0), (35, .bipush 95, 95, 0, 0)], (37, .invokevirtual 19, 0, 40, 442)),
  (40, [(40, .aload_n 0, 0, 0, 0), (41, .bipush 8, 8, 0, 0)], (43, .invokevirtual 19, 0, 46, 442)),
  (46, [(46, .aload_n 0, 0, 0, 0), (47, .aload_n 1, 0, 0, 0), (48, .iload 5, 0, 0, 0), (50, .baload, 0, 0, 0)], (51, .invokevirtual 19, 0, 54, 442)),
  (54, [(54, .iinc 5 1, 1, 0, 0)], (57, .goto (-50), 7, 60, 0)),
  (60, [], (60, .return_, 0, 0, 0))]
def mOu_putBytes : MR := (⟨"PageFormatter$Output", "putBytes", "([BIIZ)V"⟩, prog_4_method_5_code, 6, (Option.none : Option Jvm.ClassFile.FieldType), 1, 21, bOu_putBytes, 468, 466, 467, 59, 4)
set_option maxRecDepth 100000 in
theorem okOu_putBytes : MOK mOu_putBytes := ⟨by decide +kernel, by decide +kernel⟩
def bOu_putMargin : List BLK := [
  (0, [(0, .aload_n 0, 0, 0, 0), (1, .bipush 10, 10, 0, 0)], (3, .invokevirtual 19, 0, 6, 442)),
  (6, [(6, .iconst 0, 0, 0, 0), (7, .istore_n 3, 0, 0, 0)], (8, .nop, 0, 0, 0)),
  (8, [(8, .iload_n 3, 0, 0, 0), (9, .aload_n 1, 0, 0, 0), (10, .getfield 29, 6, 1, 85)], (13, .if_icmp .ge 76, 89, 16, 0)),
  (16, [(16, .aload_n 1, 0, 0, 0), (17, .iload_n 3, 0, 0, 0)], (18, .invokevirtual 32, 0, 21, 446)),
  (21, [(21, .bipush 35, 35, 0, 0)], (23, .if_icmp .eq 15, 38, 26, 0)),
  (26, [(26, .aload_n 0, 0, 0, 0), (27, .aload_n 1, 0, 0, 0), (28, .iload_n 3, 0, 0, 0)], (29, .invokevirtual 32, 0, 32, 446)),
  (32, [], (32, .invokevirtual 19, 0, 35, 442)),
  (35, [], (35, .goto 48, 83, 38, 0)),
  (38, [(38, .ldc 36, 1000000000, 0, 447), (40, .istore 4, 0, 0, 0)], (42, .nop, 0, 0, 0)),
  (42, [(42, .iload 4, 0, 0, 0)], (44, .ifCond .le 39, 83, 47, 0)),
  (47, [(47, .iload_n 2, 0, 0, 0), (48, .iload 4, 0, 0, 0)], (50, .if_icmp .ge 9, 59, 53, 0)),
  (53, [(53, .iload 4, 0, 0, 0), (55, .iconst 1, 1, 0, 0)], (56, .if_icmp .ne 17, 73, 59, 0)),
  (59, [(59, .aload_n 0, 0, 0, 0), (60, .bipush 48, 48, 0, 0), (62, .iload_n 2, 0, 0, 0), (63, .iload 4, 0, 0, 0), (65, .idiv, 0, 0, 0), (66, .bipush 10, 10, 0, 0), (68, .irem, 0, 0, 0), (69, .iadd, 0, 0, 0)], (70, .invokevirtual 19, 0, 73, 442)),
  (73, [(73, .iload 4, 0, 0, 0), (75, .bipush 10, 10, 0, 0), (77, .idiv, 0, 0, 0), (78, .istore 4, 0, 0, 0)], (80, .goto (-38), 42, 83, 0)),
  (83, [(83, .iinc 3 1, 1, 0, 0)], (86, .goto (-78), 8, 89, 0)),
  (89, [(89, .aload_n 0, 0, 0, 0), (90, .bipush 10, 10, 0, 0)], (92, .invokevirtual 19, 0, 95, 442)),
  (95, [(95, .aload_n 0, 0, 0, 0), (96, .bipush 10, 10, 0, 0)], (98, .invokevirtual 19, 0, 101, 442)),
  (101, [], (101, .return_, 0, 0, 0))]
def mOu_putMargin : MR := (⟨"PageFormatter$Output", "putMargin", "(LPageFormatter$Text;I)V"⟩, prog_4_method_6_code, 5, (Option.none : Option Jvm.ClassFile.FieldType), 1, 21, bOu_putMargin, 441, 439, 440, 59, 2)
set_option maxRecDepth 100000 in
theorem okOu_putMargin : MOK mOu_putMargin := ⟨by decide +kernel, by decide +kernel⟩
end
section
def bPg_reset : List BLK := [
  (0, [(0, .aload_n 0, 0, 0, 0), (1, .getfield 12, 3, 2, 191), (4, .iconst 0, 0, 0, 0), (5, .putfield 42, 6, 1, 83), (8, .aload_n 0, 0, 0, 0), (9, .getfield 18, 3, 3, 193), (12, .iconst 0, 0, 0, 0), (13, .putfield 42, 6, 1, 83), (16, .aload_n 0, 0, 0, 0), (17, .iconst 0, 0, 0, 0), (18, .putfield 21, 3, 4, 195), (21, .aload_n 0, 0, 0, 0), (22, .iconst 0, 0, 0, 0), (23, .putfield 25, 3, 5, 197), (26, .aload_n 0, 0, 0, 0), (27, .iconst 1, 1, 0, 0), (28, .putfield 28, 3, 6, 199)], (31, .return_, 0, 0, 0))]
def mPg_reset : MR := (⟨"PageFormatter$Pages", "reset", "()V"⟩, prog_5_method_2_code, 1, (Option.none : Option Jvm.ClassFile.FieldType), 0, 0, bPg_reset, 591, 589, 590, 60, 0)
set_option maxRecDepth 100000 in
theorem okPg_reset : MOK mPg_reset := ⟨by decide +kernel, by decide +kernel⟩
def bPg_isBegun : List BLK := [
  (0, [(0, .aload_n 0, 0, 0, 0), (1, .getfield 21, 3, 4, 195)], (4, .ifCond .eq 7, 11, 7, 0)),
  (7, [(7, .iconst 1, 1, 0, 0)], (8, .goto 4, 12, 11, 0)),
  (11, [(11, .iconst 0, 0, 0, 0)], (12, .nop, 0, 0, 0)),
  (12, [], (12, .ireturn, 0, 0, 0))]
def mPg_isBegun : MR := (⟨"PageFormatter$Pages", "isBegun", "()Z"⟩, prog_5_method_3_code, 1, (Option.some Jvm.ClassFile.FieldType.boolean), 0, 0, bPg_isBegun, 352, 350, 351, 60, 0)
set_option maxRecDepth 100000 in
theorem okPg_isBegun : MOK mPg_isBegun := ⟨by decide +kernel, by decide +kernel⟩
def bPg_bottom : List BLK := [
  (0, [(0, .aload_n 0, 0, 0, 0), (1, .getfield 34, 3, 0, 189), (4, .getfield 45, 1, 6, 142), (7, .iconst 3, 3, 0, 0), (8, .isub, 0, 0, 0)], (9, .ireturn, 0, 0, 0))]
def mPg_bottom : MR := (⟨"PageFormatter$Pages", "bottom", "()I"⟩, prog_5_method_4_code, 1, (Option.some Jvm.ClassFile.FieldType.int), 0, 0, bPg_bottom, 433, 432, 7, 60, 0)
set_option maxRecDepth 100000 in
theorem okPg_bottom : MOK mPg_bottom := ⟨by decide +kernel, by decide +kernel⟩
def bPg_openLine : List BLK := [
  (0, [(0, .aload_n 0, 0, 0, 0)], (1, .invokevirtual 50, 0, 4, 429)),
  (4, [], (4, .ifCond .eq 14, 18, 7, 0)),
  (7, [(7, .aload_n 0, 0, 0, 0), (8, .getfield 21, 3, 4, 195), (11, .aload_n 0, 0, 0, 0)], (12, .invokevirtual 54, 0, 15, 430)),
  (15, [], (15, .if_icmp .le 7, 22, 18, 0)),
  (18, [(18, .aload_n 0, 0, 0, 0)], (19, .invokevirtual 58, 0, 22, 434)),
  (22, [(22, .iload_n 1, 0, 0, 0)], (23, .ifCond .ne 19, 42, 26, 0)),
  (26, [(26, .aload_n 0, 0, 0, 0), (27, .getfield 38, 3, 1, 190), (30, .bipush 32, 32, 0, 0), (32, .aload_n 0, 0, 0, 0), (33, .getfield 34, 3, 0, 189), (36, .getfield 61, 1, 2, 132)], (39, .invokevirtual 64, 0, 42, 448)),
  (42, [], (42, .return_, 0, 0, 0))]
def mPg_openLine : MR := (⟨"PageFormatter$Pages", "openLine", "(Z)V"⟩, prog_5_method_5_code, 2, (Option.none : Option Jvm.ClassFile.FieldType), 3, 65, bPg_openLine, 428, 426, 427, 60, 1)
set_option maxRecDepth 100000 in
theorem okPg_openLine : MOK mPg_openLine := ⟨by decide +kernel, by decide +kernel⟩
def bPg_closeLine : List BLK := [
  (0, [(0, .aload_n 0, 0, 0, 0), (1, .getfield 38, 3, 1, 190), (4, .bipush 10, 10, 0, 0)], (6, .invokevirtual 70, 0, 9, 475)),
  (9, [(9, .aload_n 0, 0, 0, 0), (10, .getfield 34, 3, 0, 189), (13, .aload_n 0, 0, 0, 0), (14, .getfield 34, 3, 0, 189), (17, .getfield 74, 1, 1, 129), (20, .putfield 61, 1, 2, 132), (23, .iconst 0, 0, 0, 0), (24, .aload_n 0, 0, 0, 0)], (25, .invokevirtual 54, 0, 28, 430)),
  (28, [(28, .aload_n 0, 0, 0, 0), (29, .getfield 21, 3, 4, 195), (32, .isub, 0, 0, 0)], (33, .invokestatic 77, 0, 36, 476)),
  (36, [(36, .istore_n 1, 0, 0, 0), (37, .aload_n 0, 0, 0, 0), (38, .getfield 38, 3, 1, 190), (41, .bipush 10, 10, 0, 0), (43, .aload_n 0, 0, 0, 0), (44, .getfield 34, 3, 0, 189), (47, .getfield 83, 1, 3, 135), (50, .iconst 1, 1, 0, 0), (51, .isub, 0, 0, 0), (52, .iload_n 1, 0, 0, 0)], (53, .invokestatic 86, 0, 56, 477)),
  (56, [], (56, .invokevirtual 64, 0, 59, 448)),
  (59, [(59, .aload_n 0, 0, 0, 0), (60, .dup, 0, 0, 0), (61, .getfield 31, 3, 7, 201), (64, .iconst 1, 1, 0, 0), (65, .iadd, 0, 0, 0), (66, .putfield 31, 3, 7, 201), (69, .aload_n 0, 0, 0, 0), (70, .aload_n 0, 0, 0, 0), (71, .getfield 34, 3, 0, 189), (74, .getfield 83, 1, 3, 135)], (77, .invokevirtual 89, 0, 80, 478)),
  (80, [], (80, .return_, 0, 0, 0))]
def mPg_closeLine : MR := (⟨"PageFormatter$Pages", "closeLine", "()V"⟩, prog_5_method_6_code, 2, (Option.none : Option Jvm.ClassFile.FieldType), 3, 66, bPg_closeLine, 474, 472, 473, 60, 0)
set_option maxRecDepth 100000 in
theorem okPg_closeLine : MOK mPg_closeLine := ⟨by decide +kernel, by decide +kernel⟩
def bPg_skip : List BLK := [
  (0, [(0, .aload_n 0, 0, 0, 0), (1, .getfield 21, 3, 4, 195), (4, .aload_n 0, 0, 0, 0)], (5, .invokevirtual 54, 0, 8, 430)),
  (8, [], (8, .if_icmp .le 4, 12, 11, 0)),
  (11, [], (11, .return_, 0, 0, 0)),
  (12, [(12, .aload_n 0, 0, 0, 0)], (13, .invokevirtual 50, 0, 16, 429)),
  (16, [], (16, .ifCond .ne 7, 23, 19, 0)),
  (19, [(19, .aload_n 0, 0, 0, 0)], (20, .invokevirtual 58, 0, 23, 434)),
  (23, [(23, .aload_n 0, 0, 0, 0), (24, .getfield 38, 3, 1, 190), (27, .bipush 10, 10, 0, 0), (29, .iload_n 1, 0, 0, 0), (30, .aload_n 0, 0, 0, 0)], (31, .invokevirtual 54, 0, 34, 430)),
  (34, [(34, .iconst 1, 1, 0, 0), (35, .iadd, 0, 0, 0), (36, .aload_n 0, 0, 0, 0), (37, .getfield 21, 3, 4, 195), (40, .isub, 0, 0, 0)], (41, .invokestatic 86, 0, 44, 477)),
  (44, [], (44, .invokevirtual 64, 0, 47, 448)),
  (47, [(47, .aload_n 0, 0, 0, 0), (48, .iload_n 1, 0, 0, 0)], (49, .invokevirtual 89, 0, 52, 478)),
  (52, [], (52, .return_, 0, 0, 0))]
def mPg_skip : MR := (⟨"PageFormatter$Pages", "skip", "(I)V"⟩, prog_5_method_7_code, 2, (Option.none : Option Jvm.ClassFile.FieldType), 3, 66, bPg_skip, 508, 506, 507, 60, 1)
set_option maxRecDepth 100000 in
theorem okPg_skip : MOK mPg_skip := ⟨by decide +kernel, by decide +kernel⟩
def bPg_begin : List BLK := [
  (0, [(0, .aload_n 0, 0, 0, 0), (1, .aload_n 0, 0, 0, 0), (2, .getfield 28, 3, 6, 199), (5, .putfield 25, 3, 5, 197), (8, .aload_n 0, 0, 0, 0), (9, .dup, 0, 0, 0), (10, .getfield 28, 3, 6, 199), (13, .iconst 1, 1, 0, 0), (14, .iadd, 0, 0, 0), (15, .putfield 28, 3, 6, 199), (18, .aload_n 0, 0, 0, 0), (19, .getfield 38, 3, 1, 190), (22, .aload_n 0, 0, 0, 0), (23, .getfield 12, 3, 2, 191), (26, .aload_n 0, 0, 0, 0), (27, .getfield 25, 3, 5, 197)], (30, .invokevirtual 92, 0, 33, 438)),
  (33, [(33, .aload_n 0, 0, 0, 0), (34, .iconst 4, 4, 0, 0), (35, .putfield 21, 3, 4, 195)], (38, .return_, 0, 0, 0))]
def mPg_begin : MR := (⟨"PageFormatter$Pages", "begin", "()V"⟩, prog_5_method_8_code, 1, (Option.none : Option Jvm.ClassFile.FieldType), 2, 45, bPg_begin, 437, 436, 8, 60, 0)
set_option maxRecDepth 100000 in
theorem okPg_begin : MOK mPg_begin := ⟨by decide +kernel, by decide +kernel⟩
def bPg_goDown : List BLK := [
  (0, [(0, .aload_n 0, 0, 0, 0), (1, .dup, 0, 0, 0), (2, .getfield 21, 3, 4, 195), (5, .iload_n 1, 0, 0, 0), (6, .iadd, 0, 0, 0), (7, .putfield 21, 3, 4, 195), (10, .aload_n 0, 0, 0, 0), (11, .getfield 21, 3, 4, 195), (14, .aload_n 0, 0, 0, 0)], (15, .invokevirtual 54, 0, 18, 430)),
  (18, [], (18, .if_icmp .le 18, 36, 21, 0)),
  (21, [(21, .aload_n 0, 0, 0, 0), (22, .getfield 38, 3, 1, 190), (25, .aload_n 0, 0, 0, 0), (26, .getfield 18, 3, 3, 193), (29, .aload_n 0, 0, 0, 0), (30, .getfield 25, 3, 5, 197)], (33, .invokevirtual 92, 0, 36, 438)),
  (36, [], (36, .return_, 0, 0, 0))]
def mPg_goDown : MR := (⟨"PageFormatter$Pages", "goDown", "(I)V"⟩, prog_5_method_9_code, 2, (Option.none : Option Jvm.ClassFile.FieldType), 2, 45, bPg_goDown, 481, 480, 10, 60, 1)
set_option maxRecDepth 100000 in
theorem okPg_goDown : MOK mPg_goDown := ⟨by decide +kernel, by decide +kernel⟩
end
section
def bPa_clear : List BLK := [
  (0, [(0, .aload_n 0, 0, 0, 0), (1, .iconst 0, 0, 0, 0), (2, .putfield 26, 4, 4, 230), (5, .aload_n 0, 0, 0, 0), (6, .iconst 0, 0, 0, 0), (7, .putfield 30, 4, 5, 231), (10, .aload_n 0, 0, 0, 0), (11, .iconst 0, 0, 0, 0), (12, .putfield 33, 4, 6, 233)], (15, .return_, 0, 0, 0))]
def mPa_clear : MR := (⟨"PageFormatter$Paragraph", "clear", "()V"⟩, prog_6_method_2_code, 1, (Option.none : Option Jvm.ClassFile.FieldType), 0, 0, bPa_clear, 485, 483, 484, 61, 0)
set_option maxRecDepth 100000 in
theorem okPa_clear : MOK mPa_clear := ⟨by decide +kernel, by decide +kernel⟩
def bPa_addWord : List BLK := [
  (0, [(0, .aload_n 0, 0, 0, 0), (1, .getfield 33, 4, 6, 233), (4, .bipush 80, 80, 0, 0)], (6, .if_icmp .lt 4, 10, 9, 0)),
  (9, [], (9, .return_, 0, 0, 0)),
  (10, [(10, .aload_n 0, 0, 0, 0), (11, .getfield 26, 4, 4, 230), (14, .istore 5, 0, 0, 0), (16, .iload_n 2, 0, 0, 0), (17, .istore 6, 0, 0, 0)], (19, .nop, 0, 0, 0)),
  (19, [(19, .iload 6, 0, 0, 0), (21, .iload_n 3, 0, 0, 0)], (22, .if_icmp .ge 59, 81, 25, 0)),
  (25, [(25, .aload_n 1, 0, 0, 0), (26, .iload 6, 0, 0, 0)], (28, .invokevirtual 36, 0, 31, 574)),
  (31, [(31, .bipush 94, 94, 0, 0)], (33, .if_icmp .ne 6, 39, 36, 0)),
  (36, [], (36, .goto 39, 75, 39, 0)),
  (39, [(39, .aload_n 0, 0, 0, 0), (40, .getfield 26, 4, 4, 230), (43, .iload 5, 0, 0, 0)], (45, .if_icmp .le 20, 65, 48, 0)),
  (48, [(48, .aload_n 1, 0, 0, 0), (49, .iload 6, 0, 0, 0), (51, .iconst 1, 1, 0, 0), (52, .isub, 0, 0, 0)], (53, .invokevirtual 36, 0, 56, 574)),
  (56, [(56, .bipush 94, 94, 0, 0)], (58, .if_icmp .ne 7, 65, 61, 0)),
  (61, [(61, .aload_n 0, 0, 0, 0)], (62, .invokevirtual 42, 0, 65, 575)),
  (65, [(65, .aload_n 0, 0, 0, 0), (66, .aload_n 1, 0, 0, 0), (67, .iload 6, 0, 0, 0)], (69, .invokevirtual 36, 0, 72, 574)),
  (72, [], (72, .invokevirtual 45, 0, 75, 579)),
  (75, [(75, .iinc 6 1, 1, 0, 0)], (78, .goto (-59), 19, 81, 0)),
  (81, [(81, .aload_n 0, 0, 0, 0), (82, .getfield 22, 4, 3, 229), (85, .aload_n 0, 0, 0, 0), (86, .getfield 33, 4, 6, 233), (89, .iload 4, 0, 0, 0), (91, .bastore, 0, 0, 0), (92, .aload_n 0, 0, 0, 0), (93, .dup, 0, 0, 0), (94, .getfield 33, 4, 6, 233), (97, .iconst 1, 1, 0, 0), (98, .iadd, 0, 0, 0), (99, .putfield 33, 4, 6, 233), (102, .aload_n 0, 0, 0, 0)], (103, .invokevirtual 42, 0, 106, 575)),
  (106, [], (106, .return_, 0, 0, 0))]
def mPa_addWord : MR := (⟨"PageFormatter$Paragraph", "addWord", "(LPageFormatter$Text;IIZ)V"⟩, prog_6_method_3_code, 7, (Option.none : Option Jvm.ClassFile.FieldType), 1, 21, bPa_addWord, 573, 571, 572, 61, 4)
set_option maxRecDepth 100000 in
theorem okPa_addWord : MOK mPa_addWord := ⟨by decide +kernel, by decide +kernel⟩
def bPa_addLetter : List BLK := [
  (0, [(0, .aload_n 0, 0, 0, 0), (1, .getfield 26, 4, 4, 230), (4, .aload_n 0, 0, 0, 0), (5, .getfield 9, 4, 0, 226), (8, .arraylength, 0, 0, 0)], (9, .if_icmp .ge 24, 33, 12, 0)),
  (12, [(12, .aload_n 0, 0, 0, 0), (13, .getfield 9, 4, 0, 226), (16, .aload_n 0, 0, 0, 0), (17, .getfield 26, 4, 4, 230), (20, .iload_n 1, 0, 0, 0), (21, .i2b, 0, 0, 0), (22, .bastore, 0, 0, 0), (23, .aload_n 0, 0, 0, 0), (24, .dup, 0, 0, 0), (25, .getfield 26, 4, 4, 230), (28, .iconst 1, 1, 0, 0), (29, .iadd, 0, 0, 0), (30, .putfield 26, 4, 4, 230)], (33, .nop, 0, 0, 0)),
  (33, [], (33, .return_, 0, 0, 0))]
def mPa_addLetter : MR := (⟨"PageFormatter$Paragraph", "addLetter", "(I)V"⟩, prog_6_method_4_code, 2, (Option.none : Option Jvm.ClassFile.FieldType), 0, 0, bPa_addLetter, 582, 581, 20, 61, 1)
set_option maxRecDepth 100000 in
theorem okPa_addLetter : MOK mPa_addLetter := ⟨by decide +kernel, by decide +kernel⟩
def bPa_addPlace : List BLK := [
  (0, [(0, .aload_n 0, 0, 0, 0), (1, .getfield 30, 4, 5, 231), (4, .sipush 4000, 4000, 0, 0)], (7, .if_icmp .ge 39, 46, 10, 0)),
  (10, [(10, .aload_n 0, 0, 0, 0), (11, .dup, 0, 0, 0), (12, .getfield 30, 4, 5, 231), (15, .iconst 1, 1, 0, 0), (16, .iadd, 0, 0, 0), (17, .putfield 30, 4, 5, 231), (20, .aload_n 0, 0, 0, 0), (21, .getfield 15, 4, 1, 227), (24, .aload_n 0, 0, 0, 0), (25, .getfield 30, 4, 5, 231), (28, .aload_n 0, 0, 0, 0), (29, .getfield 26, 4, 4, 230), (32, .iastore, 0, 0, 0), (33, .aload_n 0, 0, 0, 0), (34, .getfield 19, 4, 2, 228), (37, .aload_n 0, 0, 0, 0), (38, .getfield 30, 4, 5, 231), (41, .aload_n 0, 0, 0, 0), (42, .getfield 33, 4, 6, 233), (45, .iastore, 0, 0, 0)], (46, .nop, 0, 0, 0)),
  (46, [], (46, .return_, 0, 0, 0))]
def mPa_addPlace : MR := (⟨"PageFormatter$Paragraph", "addPlace", "()V"⟩, prog_6_method_5_code, 1, (Option.none : Option Jvm.ClassFile.FieldType), 0, 0, bPa_addPlace, 578, 577, 19, 61, 0)
set_option maxRecDepth 100000 in
theorem okPa_addPlace : MOK mPa_addPlace := ⟨by decide +kernel, by decide +kernel⟩
def bPa_isHyphen : List BLK := [
  (0, [(0, .iload_n 1, 0, 0, 0)], (1, .ifCond .le 32, 33, 4, 0)),
  (4, [(4, .iload_n 1, 0, 0, 0), (5, .aload_n 0, 0, 0, 0), (6, .getfield 30, 4, 5, 231)], (9, .if_icmp .gt 24, 33, 12, 0)),
  (12, [(12, .aload_n 0, 0, 0, 0), (13, .getfield 19, 4, 2, 228), (16, .iload_n 1, 0, 0, 0), (17, .iaload, 0, 0, 0), (18, .aload_n 0, 0, 0, 0), (19, .getfield 19, 4, 2, 228), (22, .iload_n 1, 0, 0, 0), (23, .iconst 1, 1, 0, 0), (24, .isub, 0, 0, 0), (25, .iaload, 0, 0, 0)], (26, .if_icmp .ne 7, 33, 29, 0)),
  (29, [(29, .iconst 1, 1, 0, 0)], (30, .goto 4, 34, 33, 0)),
  (33, [(33, .iconst 0, 0, 0, 0)], (34, .nop, 0, 0, 0)),
  (34, [], (34, .ireturn, 0, 0, 0))]
def mPa_isHyphen : MR := (⟨"PageFormatter$Paragraph", "isHyphen", "(I)Z"⟩, prog_6_method_6_code, 2, (Option.some Jvm.ClassFile.FieldType.boolean), 0, 0, bPa_isHyphen, 388, 386, 387, 61, 1)
set_option maxRecDepth 100000 in
theorem okPa_isHyphen : MOK mPa_isHyphen := ⟨by decide +kernel, by decide +kernel⟩
def bPa_blanksIn : List BLK := [
  (0, [(0, .iload_n 1, 0, 0, 0)], (1, .ifCond .lt 16, 17, 4, 0)),
  (4, [(4, .iload_n 1, 0, 0, 0), (5, .iload_n 2, 0, 0, 0)], (6, .if_icmp .ge 11, 17, 9, 0)),
  (9, [(9, .iload_n 2, 0, 0, 0), (10, .aload_n 0, 0, 0, 0), (11, .getfield 30, 4, 5, 231)], (14, .if_icmp .le 5, 19, 17, 0)),
  (17, [(17, .iconst 0, 0, 0, 0)], (18, .ireturn, 0, 0, 0)),
  (19, [(19, .aload_n 0, 0, 0, 0), (20, .getfield 19, 4, 2, 228), (23, .iload_n 2, 0, 0, 0), (24, .iconst 1, 1, 0, 0), (25, .isub, 0, 0, 0), (26, .iaload, 0, 0, 0), (27, .aload_n 0, 0, 0, 0), (28, .getfield 19, 4, 2, 228), (31, .iload_n 1, 0, 0, 0), (32, .iaload, 0, 0, 0), (33, .isub, 0, 0, 0)], (34, .ireturn, 0, 0, 0))]
def mPa_blanksIn : MR := (⟨"PageFormatter$Paragraph", "blanksIn", "(II)I"⟩, prog_6_method_7_code, 3, (Option.some Jvm.ClassFile.FieldType.int), 0, 0, bPa_blanksIn, 384, 382, 383, 61, 2)
set_option maxRecDepth 100000 in
theorem okPa_blanksIn : MOK mPa_blanksIn := ⟨by decide +kernel, by decide +kernel⟩
def bPa_lettersIn : List BLK := [
  (0, [(0, .iload_n 1, 0, 0, 0)], (1, .ifCond .lt 16, 17, 4, 0)),
  (4, [(4, .iload_n 1, 0, 0, 0), (5, .iload_n 2, 0, 0, 0)], (6, .if_icmp .ge 11, 17, 9, 0)),
  (9, [(9, .iload_n 2, 0, 0, 0), (10, .aload_n 0, 0, 0, 0), (11, .getfield 30, 4, 5, 231)], (14, .if_icmp .le 5, 19, 17, 0)),
  (17, [(17, .iconst 0, 0, 0, 0)], (18, .ireturn, 0, 0, 0)),
  (19, [(19, .aload_n 0, 0, 0, 0), (20, .getfield 15, 4, 1, 227), (23, .iload_n 2, 0, 0, 0), (24, .iaload, 0, 0, 0), (25, .aload_n 0, 0, 0, 0), (26, .getfield 15, 4, 1, 227), (29, .iload_n 1, 0, 0, 0), (30, .iaload, 0, 0, 0), (31, .isub, 0, 0, 0)], (32, .ireturn, 0, 0, 0))]
def mPa_lettersIn : MR := (⟨"PageFormatter$Paragraph", "lettersIn", "(II)I"⟩, prog_6_method_8_code, 3, (Option.some Jvm.ClassFile.FieldType.int), 0, 0, bPa_lettersIn, 380, 378, 379, 61, 2)
set_option maxRecDepth 100000 in
theorem okPa_lettersIn : MOK mPa_lettersIn := ⟨by decide +kernel, by decide +kernel⟩
def bPa_lengthOf : List BLK := [
  (0, [(0, .aload_n 0, 0, 0, 0), (1, .iload_n 1, 0, 0, 0), (2, .iload_n 2, 0, 0, 0)], (3, .invokevirtual 49, 0, 6, 377)),
  (6, [(6, .aload_n 0, 0, 0, 0), (7, .iload_n 1, 0, 0, 0), (8, .iload_n 2, 0, 0, 0)], (9, .invokevirtual 53, 0, 12, 381)),
  (12, [(12, .iadd, 0, 0, 0), (13, .aload_n 0, 0, 0, 0), (14, .iload_n 2, 0, 0, 0)], (15, .invokevirtual 56, 0, 18, 385)),
  (18, [], (18, .ifCond .eq 7, 25, 21, 0)),
  (21, [(21, .iconst 1, 1, 0, 0)], (22, .goto 4, 26, 25, 0)),
  (25, [(25, .iconst 0, 0, 0, 0)], (26, .nop, 0, 0, 0)),
  (26, [(26, .iadd, 0, 0, 0)], (27, .ireturn, 0, 0, 0))]
def mPa_lengthOf : MR := (⟨"PageFormatter$Paragraph", "lengthOf", "(II)I"⟩, prog_6_method_9_code, 3, (Option.some Jvm.ClassFile.FieldType.int), 1, 22, bPa_lengthOf, 376, 374, 375, 61, 2)
set_option maxRecDepth 100000 in
theorem okPa_lengthOf : MOK mPa_lengthOf := ⟨by decide +kernel, by decide +kernel⟩
def bPa_write : List BLK := [
  (0, [(0, .aload_n 0, 0, 0, 0), (1, .iload_n 2, 0, 0, 0), (2, .iload_n 3, 0, 0, 0)], (3, .invokevirtual 53, 0, 6, 381)),
  (6, [(6, .istore 5, 0, 0, 0), (8, .iconst 0, 0, 0, 0), (9, .istore 6, 0, 0, 0), (11, .iload_n 2, 0, 0, 0), (12, .istore 7, 0, 0, 0)], (14, .nop, 0, 0, 0)),
  (14, [(14, .iload 7, 0, 0, 0), (16, .iload_n 3, 0, 0, 0)], (17, .if_icmp .ge 66, 83, 20, 0)),
  (20, [(20, .iload 7, 0, 0, 0), (22, .iload_n 2, 0, 0, 0)], (23, .if_icmp .le 47, 70, 26, 0)),
  (26, [(26, .iload 5, 0, 0, 0)], (28, .ifCond .le 42, 70, 31, 0)),
  (31, [(31, .aload_n 0, 0, 0, 0), (32, .iload 7, 0, 0, 0)], (34, .invokevirtual 56, 0, 37, 385)),
  (37, [], (37, .ifCond .ne 33, 70, 40, 0)),
  (40, [(40, .iinc 6 1, 1, 0, 0), (43, .aload_n 1, 0, 0, 0), (44, .bipush 32, 32, 0, 0), (46, .iconst 1, 1, 0, 0), (47, .iload 4, 0, 0, 0), (49, .iload 6, 0, 0, 0), (51, .imul, 0, 0, 0), (52, .iload 5, 0, 0, 0), (54, .idiv, 0, 0, 0), (55, .iadd, 0, 0, 0), (56, .iload 4, 0, 0, 0), (58, .iload 6, 0, 0, 0), (60, .iconst 1, 1, 0, 0), (61, .isub, 0, 0, 0), (62, .imul, 0, 0, 0), (63, .iload 5, 0, 0, 0), (65, .idiv, 0, 0, 0), (66, .isub, 0, 0, 0)], (67, .invokevirtual 60, 0, 70, 460)),
  (70, [(70, .aload_n 0, 0, 0, 0), (71, .aload_n 1, 0, 0, 0), (72, .iload 7, 0, 0, 0)], (74, .invokevirtual 66, 0, 77, 461)),
  (77, [(77, .iinc 7 1, 1, 0, 0)], (80, .goto (-66), 14, 83, 0)),
  (83, [(83, .aload_n 0, 0, 0, 0), (84, .iload_n 3, 0, 0, 0)], (85, .invokevirtual 56, 0, 88, 385)),
  (88, [], (88, .ifCond .eq 9, 97, 91, 0)),
  (91, [(91, .aload_n 1, 0, 0, 0), (92, .bipush 45, 45, 0, 0)], (94, .invokevirtual 70, 0, 97, 470)),
  (97, [], (97, .return_, 0, 0, 0))]
def mPa_write : MR := (⟨"PageFormatter$Paragraph", "write", "(LPageFormatter$Output;III)V"⟩, prog_6_method_10_code, 8, (Option.none : Option Jvm.ClassFile.FieldType), 3, 70, bPa_write, 459, 457, 458, 61, 4)
set_option maxRecDepth 100000 in
theorem okPa_write : MOK mPa_write := ⟨by decide +kernel, by decide +kernel⟩
def bPa_writePiece : List BLK := [
  (0, [(0, .iload_n 2, 0, 0, 0)], (1, .ifCond .lt 11, 12, 4, 0)),
  (4, [(4, .iload_n 2, 0, 0, 0), (5, .aload_n 0, 0, 0, 0), (6, .getfield 30, 4, 5, 231)], (9, .if_icmp .lt 4, 13, 12, 0)),
  (12, [], (12, .return_, 0, 0, 0)),
  (13, [(13, .aload_n 0, 0, 0, 0), (14, .getfield 19, 4, 2, 228), (17, .iload_n 2, 0, 0, 0), (18, .iaload, 0, 0, 0), (19, .istore_n 3, 0, 0, 0), (20, .iload_n 3, 0, 0, 0)], (21, .ifCond .lt 22, 43, 24, 0)),
  (24, [(24, .iload_n 3, 0, 0, 0), (25, .bipush 80, 80, 0, 0)], (27, .if_icmp .ge 16, 43, 30, 0)),
  (30, [(30, .aload_n 0, 0, 0, 0), (31, .getfield 22, 4, 3, 229), (34, .iload_n 3, 0, 0, 0), (35, .baload, 0, 0, 0)], (36, .ifCond .eq 7, 43, 39, 0)),
  (39, [(39, .iconst 1, 1, 0, 0)], (40, .goto 4, 44, 43, 0)),
  (43, [(43, .iconst 0, 0, 0, 0)], (44, .nop, 0, 0, 0)),
  (44, [(44, .istore 4, 0, 0, 0), (46, .aload_n 1, 0, 0, 0), (47, .aload_n 0, 0, 0, 0), (48, .getfield 9, 4, 0, 226), (51, .aload_n 0, 0, 0, 0), (52, .getfield 15, 4, 1, 227), (55, .iload_n 2, 0, 0, 0), (56, .iaload, 0, 0, 0), (57, .aload_n 0, 0, 0, 0), (58, .getfield 15, 4, 1, 227), (61, .iload_n 2, 0, 0, 0), (62, .iconst 1, 1, 0, 0), (63, .iadd, 0, 0, 0), (64, .iaload, 0, 0, 0), (65, .iload 4, 0, 0, 0)], (67, .invokevirtual 73, 0, 70, 465)),
  (70, [], (70, .return_, 0, 0, 0))]
def mPa_writePiece : MR := (⟨"PageFormatter$Paragraph", "writePiece", "(LPageFormatter$Output;I)V"⟩, prog_6_method_11_code, 5, (Option.none : Option Jvm.ClassFile.FieldType), 2, 46, bPa_writePiece, 464, 463, 9, 61, 2)
set_option maxRecDepth 100000 in
theorem okPa_writePiece : MOK mPa_writePiece := ⟨by decide +kernel, by decide +kernel⟩
end
section
def bPt_endOf : List BLK := [
  (0, [(0, .iload_n 1, 0, 0, 0)], (1, .ifCond .lt 20, 21, 4, 0)),
  (4, [(4, .iload_n 1, 0, 0, 0), (5, .aload_n 0, 0, 0, 0), (6, .getfield 32, 5, 6, 265)], (9, .if_icmp .ge 12, 21, 12, 0)),
  (12, [(12, .aload_n 0, 0, 0, 0), (13, .getfield 19, 5, 2, 261), (16, .iload_n 1, 0, 0, 0), (17, .iaload, 0, 0, 0)], (18, .goto 4, 22, 21, 0)),
  (21, [(21, .iconst (-1), 0, 1, 0)], (22, .nop, 0, 0, 0)),
  (22, [], (22, .ireturn, 0, 0, 0))]
def mPt_endOf : MR := (⟨"PageFormatter$Parting", "endOf", "(I)I"⟩, prog_7_method_2_code, 2, (Option.some Jvm.ClassFile.FieldType.int), 0, 0, bPt_endOf, 424, 422, 423, 62, 1)
set_option maxRecDepth 100000 in
theorem okPt_endOf : MOK mPt_endOf := ⟨by decide +kernel, by decide +kernel⟩
def bPt_fact : List BLK := [
  (0, [(0, .iload_n 1, 0, 0, 0)], (1, .ifCond .lt 11, 12, 4, 0)),
  (4, [(4, .iload_n 1, 0, 0, 0), (5, .aload_n 0, 0, 0, 0), (6, .getfield 32, 5, 6, 265)], (9, .if_icmp .lt 5, 14, 12, 0)),
  (12, [(12, .iconst (-1), 0, 1, 0)], (13, .ireturn, 0, 0, 0)),
  (14, [(14, .iload_n 2, 0, 0, 0)], (15, .ifCond .lt 23, 38, 18, 0)),
  (18, [(18, .iload_n 2, 0, 0, 0), (19, .bipush 6, 6, 0, 0)], (21, .if_icmp .ge 17, 38, 24, 0)),
  (24, [(24, .aload_n 0, 0, 0, 0), (25, .getfield 22, 5, 3, 262), (28, .bipush 6, 6, 0, 0), (30, .iload_n 1, 0, 0, 0), (31, .imul, 0, 0, 0), (32, .iload_n 2, 0, 0, 0), (33, .iadd, 0, 0, 0), (34, .iaload, 0, 0, 0)], (35, .goto 5, 40, 38, 0)),
  (38, [(38, .bipush (-2), 1, 1, 0)], (40, .nop, 0, 0, 0)),
  (40, [], (40, .ireturn, 0, 0, 0))]
def mPt_fact : MR := (⟨"PageFormatter$Parting", "fact", "(II)I"⟩, prog_7_method_3_code, 3, (Option.some Jvm.ClassFile.FieldType.int), 0, 0, bPt_fact, 455, 453, 454, 62, 2)
set_option maxRecDepth 100000 in
theorem okPt_fact : MOK mPt_fact := ⟨by decide +kernel, by decide +kernel⟩
def bPt_weighWays : List BLK := [
  (0, [(0, .aload_n 0, 0, 0, 0), (1, .iload_n 2, 0, 0, 0), (2, .putfield 25, 5, 4, 263), (5, .aload_n 0, 0, 0, 0), (6, .iload_n 3, 0, 0, 0), (7, .putfield 29, 5, 5, 264), (10, .aload_n 1, 0, 0, 0), (11, .getfield 41, 4, 5, 232), (14, .sipush 4000, 4000, 0, 0)], (17, .invokestatic 46, 0, 20, 361)),
  (20, [(20, .istore 4, 0, 0, 0), (22, .iconst 0, 0, 0, 0), (23, .istore 5, 0, 0, 0)], (25, .nop, 0, 0, 0)),
  (25, [(25, .iload 5, 0, 0, 0), (27, .iconst 3, 3, 0, 0)], (28, .if_icmp .ge 22, 50, 31, 0)),
  (31, [(31, .aload_n 0, 0, 0, 0), (32, .getfield 11, 5, 0, 259), (35, .iconst 3, 3, 0, 0), (36, .iload 4, 0, 0, 0), (38, .imul, 0, 0, 0), (39, .iload 5, 0, 0, 0), (41, .iadd, 0, 0, 0), (42, .lconst 0, 0, 0, 0), (43, .lastore, 0, 0, 0), (44, .iinc 5 1, 1, 0, 0)], (47, .goto (-22), 25, 50, 0)),
  (50, [(50, .iload 4, 0, 0, 0), (52, .iconst 1, 1, 0, 0), (53, .isub, 0, 0, 0), (54, .istore 5, 0, 0, 0)], (56, .nop, 0, 0, 0)),
  (56, [(56, .iload 5, 0, 0, 0)], (58, .ifCond .lt 18, 76, 61, 0)),
  (61, [(61, .aload_n 0, 0, 0, 0), (62, .aload_n 1, 0, 0, 0), (63, .iload 5, 0, 0, 0), (65, .iload 4, 0, 0, 0)], (67, .invokevirtual 52, 0, 70, 364)),
  (70, [(70, .iinc 5 (-1), 0, 1, 0)], (73, .goto (-17), 56, 76, 0)),
  (76, [], (76, .return_, 0, 0, 0))]
def mPt_weighWays : MR := (⟨"PageFormatter$Parting", "weighWays", "(LPageFormatter$Paragraph;II)V"⟩, prog_7_method_4_code, 6, (Option.none : Option Jvm.ClassFile.FieldType), 3, 77, bPt_weighWays, 360, 358, 359, 62, 3)
set_option maxRecDepth 100000 in
theorem okPt_weighWays : MOK mPt_weighWays := ⟨by decide +kernel, by decide +kernel⟩
def bPt_takeBestWay : List BLK := [
  (0, [(0, .aload_n 1, 0, 0, 0), (1, .getfield 41, 4, 5, 232), (4, .sipush 4000, 4000, 0, 0)], (7, .invokestatic 46, 0, 10, 361)),
  (10, [(10, .istore_n 2, 0, 0, 0), (11, .iconst 0, 0, 0, 0), (12, .istore_n 3, 0, 0, 0), (13, .iconst 1, 1, 0, 0), (14, .istore 4, 0, 0, 0), (16, .aload_n 0, 0, 0, 0), (17, .iconst 0, 0, 0, 0), (18, .putfield 32, 5, 6, 265), (21, .aload_n 0, 0, 0, 0), (22, .aload_n 0, 0, 0, 0), (23, .getfield 11, 5, 0, 259), (26, .iconst 1, 1, 0, 0), (27, .laload, 0, 0, 0), (28, .ldc2_w 56, 8192, 0, 396), (31, .ldiv, 0, 0, 0), (32, .putfield 37, 5, 7, 267)], (35, .nop, 0, 0, 0)),
  (35, [(35, .iload_n 3, 0, 0, 0)], (36, .ifCond .lt 85, 121, 39, 0)),
  (39, [(39, .iload_n 3, 0, 0, 0), (40, .iload_n 2, 0, 0, 0)], (41, .if_icmp .ge 80, 121, 44, 0)),
  (44, [(44, .aload_n 0, 0, 0, 0), (45, .getfield 32, 5, 6, 265), (48, .sipush 4000, 4000, 0, 0)], (51, .if_icmp .ge 70, 121, 54, 0)),
  (54, [(54, .aload_n 0, 0, 0, 0), (55, .getfield 15, 5, 1, 260), (58, .iconst 3, 3, 0, 0), (59, .iload_n 3, 0, 0, 0), (60, .imul, 0, 0, 0), (61, .iload 4, 0, 0, 0), (63, .iadd, 0, 0, 0), (64, .iaload, 0, 0, 0), (65, .istore 5, 0, 0, 0), (67, .aload_n 0, 0, 0, 0), (68, .aload_n 1, 0, 0, 0), (69, .iload_n 3, 0, 0, 0), (70, .iload 5, 0, 0, 0), (72, .iload 5, 0, 0, 0), (74, .iload_n 2, 0, 0, 0)], (75, .if_icmp .ne 7, 82, 78, 0)),
  (78, [(78, .iconst 1, 1, 0, 0)], (79, .goto 4, 83, 82, 0)),
  (82, [(82, .iconst 0, 0, 0, 0)], (83, .nop, 0, 0, 0)),
  (83, [], (83, .invokevirtual 58, 0, 86, 414)),
  (86, [(86, .aload_n 0, 0, 0, 0), (87, .getfield 22, 5, 3, 262), (90, .bipush 6, 6, 0, 0), (92, .aload_n 0, 0, 0, 0), (93, .getfield 32, 5, 6, 265), (96, .imul, 0, 0, 0), (97, .iconst 2, 2, 0, 0), (98, .iadd, 0, 0, 0), (99, .iaload, 0, 0, 0)], (100, .invokestatic 62, 0, 103, 393)),
  (103, [(103, .istore 4, 0, 0, 0), (105, .aload_n 0, 0, 0, 0), (106, .dup, 0, 0, 0), (107, .getfield 32, 5, 6, 265), (110, .iconst 1, 1, 0, 0), (111, .iadd, 0, 0, 0), (112, .putfield 32, 5, 6, 265), (115, .iload 5, 0, 0, 0), (117, .istore_n 3, 0, 0, 0)], (118, .goto (-83), 35, 121, 0)),
  (121, [], (121, .return_, 0, 0, 0))]
def mPt_takeBestWay : MR := (⟨"PageFormatter$Parting", "takeBestWay", "(LPageFormatter$Paragraph;)V"⟩, prog_7_method_5_code, 6, (Option.none : Option Jvm.ClassFile.FieldType), 3, 73, bPt_takeBestWay, 413, 411, 412, 62, 1)
set_option maxRecDepth 100000 in
theorem okPt_takeBestWay : MOK mPt_takeBestWay := ⟨by decide +kernel, by decide +kernel⟩
def bPt_roomFrom : List BLK := [
  (0, [(0, .iload_n 1, 0, 0, 0)], (1, .ifCond .ne 10, 11, 4, 0)),
  (4, [(4, .aload_n 0, 0, 0, 0), (5, .getfield 25, 5, 4, 263)], (8, .goto 7, 15, 11, 0)),
  (11, [(11, .aload_n 0, 0, 0, 0), (12, .getfield 29, 5, 5, 264)], (15, .nop, 0, 0, 0)),
  (15, [], (15, .ireturn, 0, 0, 0))]
def mPt_roomFrom : MR := (⟨"PageFormatter$Parting", "roomFrom", "(I)I"⟩, prog_7_method_6_code, 2, (Option.some Jvm.ClassFile.FieldType.int), 0, 0, bPt_roomFrom, 371, 370, 4, 62, 1)
set_option maxRecDepth 100000 in
theorem okPt_roomFrom : MOK mPt_roomFrom := ⟨by decide +kernel, by decide +kernel⟩
def bPt_weighLinesFrom : List BLK := [
  (0, [(0, .aload_n 0, 0, 0, 0), (1, .iload_n 2, 0, 0, 0)], (2, .invokevirtual 66, 0, 5, 368)),
  (5, [(5, .istore 4, 0, 0, 0), (7, .iconst 0, 0, 0, 0), (8, .istore 5, 0, 0, 0)], (10, .nop, 0, 0, 0)),
  (10, [(10, .iload 5, 0, 0, 0), (12, .iconst 3, 3, 0, 0)], (13, .if_icmp .ge 23, 36, 16, 0)),
  (16, [(16, .aload_n 0, 0, 0, 0), (17, .getfield 11, 5, 0, 259), (20, .iconst 3, 3, 0, 0), (21, .iload_n 2, 0, 0, 0), (22, .imul, 0, 0, 0), (23, .iload 5, 0, 0, 0), (25, .iadd, 0, 0, 0), (26, .ldc2_w 71, 9223372036854775807, 0, 372), (29, .lastore, 0, 0, 0), (30, .iinc 5 1, 1, 0, 0)], (33, .goto (-23), 10, 36, 0)),
  (36, [(36, .iload_n 2, 0, 0, 0), (37, .iconst 1, 1, 0, 0), (38, .iadd, 0, 0, 0), (39, .istore 5, 0, 0, 0)], (41, .nop, 0, 0, 0)),
  (41, [(41, .iload 5, 0, 0, 0), (43, .iload_n 3, 0, 0, 0)], (44, .if_icmp .gt 142, 186, 47, 0)),
  (47, [(47, .aload_n 1, 0, 0, 0), (48, .iload_n 2, 0, 0, 0), (49, .iload 5, 0, 0, 0)], (51, .invokevirtual 73, 0, 54, 373)),
  (54, [(54, .istore 6, 0, 0, 0), (56, .iload 6, 0, 0, 0), (58, .iload 4, 0, 0, 0)], (60, .if_icmp .le 14, 74, 63, 0)),
  (63, [(63, .iload 5, 0, 0, 0), (65, .iload_n 2, 0, 0, 0), (66, .iconst 1, 1, 0, 0), (67, .iadd, 0, 0, 0)], (68, .if_icmp .le 6, 74, 71, 0)),
  (71, [], (71, .goto 115, 186, 74, 0)),
  (74, [(74, .iload 6, 0, 0, 0), (76, .iload 4, 0, 0, 0), (78, .aload_n 1, 0, 0, 0), (79, .iload_n 2, 0, 0, 0), (80, .iload 5, 0, 0, 0)], (82, .invokevirtual 76, 0, 85, 389)),
  (85, [(85, .iload 5, 0, 0, 0), (87, .iload_n 3, 0, 0, 0)], (88, .if_icmp .ne 7, 95, 91, 0)),
  (91, [(91, .iconst 1, 1, 0, 0)], (92, .goto 4, 96, 95, 0)),
  (95, [(95, .iconst 0, 0, 0, 0)], (96, .nop, 0, 0, 0)),
  (96, [], (96, .invokestatic 79, 0, 99, 390)),
  (99, [(99, .istore 7, 0, 0, 0), (101, .iload 7, 0, 0, 0)], (103, .invokestatic 62, 0, 106, 393)),
  (106, [(106, .istore 8, 0, 0, 0), (108, .ldc2_w 56, 8192, 0, 396), (111, .aload_n 1, 0, 0, 0), (112, .iload_n 2, 0, 0, 0), (113, .iload 5, 0, 0, 0), (115, .iload 7, 0, 0, 0)], (117, .invokestatic 83, 0, 120, 397)),
  (120, [(120, .lmul, 0, 0, 0), (121, .lconst 1, 0, 0, 0), (122, .ladd, 0, 0, 0), (123, .aload_n 0, 0, 0, 0), (124, .getfield 11, 5, 0, 259), (127, .iconst 3, 3, 0, 0), (128, .iload 5, 0, 0, 0), (130, .imul, 0, 0, 0), (131, .iload 8, 0, 0, 0), (133, .iadd, 0, 0, 0), (134, .laload, 0, 0, 0), (135, .ladd, 0, 0, 0), (136, .lstore 9, 0, 0, 0), (138, .iconst 0, 0, 0, 0), (139, .istore 11, 0, 0, 0)], (141, .nop, 0, 0, 0)),
  (141, [(141, .iload 11, 0, 0, 0), (143, .iconst 3, 3, 0, 0)], (144, .if_icmp .ge 36, 180, 147, 0)),
  (147, [(147, .aload_n 0, 0, 0, 0), (148, .iconst 3, 3, 0, 0), (149, .iload_n 2, 0, 0, 0), (150, .imul, 0, 0, 0), (151, .iload 11, 0, 0, 0), (153, .iadd, 0, 0, 0), (154, .iload 5, 0, 0, 0), (156, .lload 9, 0, 0, 0), (158, .ldc2_w 56, 8192, 0, 396), (161, .iload 11, 0, 0, 0), (163, .iload 8, 0, 0, 0)], (165, .invokestatic 87, 0, 168, 403)),
  (168, [(168, .i2l, 0, 0, 0), (169, .lmul, 0, 0, 0), (170, .ladd, 0, 0, 0)], (171, .invokevirtual 90, 0, 174, 406)),
  (174, [(174, .iinc 11 1, 1, 0, 0)], (177, .goto (-36), 141, 180, 0)),
  (180, [(180, .iinc 5 1, 1, 0, 0)], (183, .goto (-142), 41, 186, 0)),
  (186, [], (186, .return_, 0, 0, 0))]
def mPt_weighLinesFrom : MR := (⟨"PageFormatter$Parting", "weighLinesFrom", "(LPageFormatter$Paragraph;II)V"⟩, prog_7_method_7_code, 12, (Option.none : Option Jvm.ClassFile.FieldType), 2, 46, bPt_weighLinesFrom, 367, 366, 3, 62, 3)
set_option maxRecDepth 100000 in
theorem okPt_weighLinesFrom : MOK mPt_weighLinesFrom := ⟨by decide +kernel, by decide +kernel⟩
def bPt_keepIfLess : List BLK := [
  (0, [(0, .iload_n 1, 0, 0, 0)], (1, .ifCond .lt 37, 38, 4, 0)),
  (4, [(4, .iload_n 1, 0, 0, 0), (5, .aload_n 0, 0, 0, 0), (6, .getfield 11, 5, 0, 259), (9, .arraylength, 0, 0, 0)], (10, .if_icmp .ge 28, 38, 13, 0)),
  (13, [(13, .lload_n 3, 0, 0, 0), (14, .aload_n 0, 0, 0, 0), (15, .getfield 11, 5, 0, 259), (18, .iload_n 1, 0, 0, 0), (19, .laload, 0, 0, 0), (20, .lcmp, 0, 0, 0)], (21, .ifCond .ge 17, 38, 24, 0)),
  (24, [(24, .aload_n 0, 0, 0, 0), (25, .getfield 11, 5, 0, 259), (28, .iload_n 1, 0, 0, 0), (29, .lload_n 3, 0, 0, 0), (30, .lastore, 0, 0, 0), (31, .aload_n 0, 0, 0, 0), (32, .getfield 15, 5, 1, 260), (35, .iload_n 1, 0, 0, 0), (36, .iload_n 2, 0, 0, 0), (37, .iastore, 0, 0, 0)], (38, .nop, 0, 0, 0)),
  (38, [], (38, .return_, 0, 0, 0))]
def mPt_keepIfLess : MR := (⟨"PageFormatter$Parting", "keepIfLess", "(IIJ)V"⟩, prog_7_method_8_code, 5, (Option.none : Option Jvm.ClassFile.FieldType), 0, 0, bPt_keepIfLess, 409, 408, 5, 62, 3)
set_option maxRecDepth 100000 in
theorem okPt_keepIfLess : MOK mPt_keepIfLess := ⟨by decide +kernel, by decide +kernel⟩
def bPt_badnessOf : List BLK := [
  (0, [(0, .iload_n 0, 0, 0, 0), (1, .iload_n 1, 0, 0, 0)], (2, .if_icmp .le 7, 9, 5, 0)),
  (5, [(5, .sipush 10000, 10000, 0, 0)], (8, .ireturn, 0, 0, 0)),
  (9, [(9, .iload_n 1, 0, 0, 0), (10, .iload_n 0, 0, 0, 0), (11, .isub, 0, 0, 0), (12, .istore 4, 0, 0, 0), (14, .iload_n 3, 0, 0, 0)], (15, .ifCond .ne 8, 23, 18, 0)),
  (18, [(18, .iload 4, 0, 0, 0)], (20, .ifCond .ne 5, 25, 23, 0)),
  (23, [(23, .iconst 0, 0, 0, 0)], (24, .ireturn, 0, 0, 0)),
  (25, [(25, .iload_n 2, 0, 0, 0)], (26, .ifCond .le 12, 38, 29, 0)),
  (29, [(29, .iload 4, 0, 0, 0), (31, .bipush 20, 20, 0, 0), (33, .iload_n 2, 0, 0, 0), (34, .imul, 0, 0, 0)], (35, .if_icmp .le 7, 42, 38, 0)),
  (38, [(38, .sipush 10000, 10000, 0, 0)], (41, .ireturn, 0, 0, 0)),
  (42, [(42, .sipush 10000, 10000, 0, 0), (45, .bipush 100, 100, 0, 0), (47, .iload 4, 0, 0, 0), (49, .imul, 0, 0, 0), (50, .iload 4, 0, 0, 0), (52, .imul, 0, 0, 0), (53, .iload 4, 0, 0, 0), (55, .imul, 0, 0, 0), (56, .iload_n 2, 0, 0, 0), (57, .iload_n 2, 0, 0, 0), (58, .imul, 0, 0, 0), (59, .iload_n 2, 0, 0, 0), (60, .imul, 0, 0, 0), (61, .idiv, 0, 0, 0)], (62, .invokestatic 46, 0, 65, 361)),
  (65, [], (65, .ireturn, 0, 0, 0))]
def mPt_badnessOf : MR := (⟨"PageFormatter$Parting", "badnessOf", "(IIIZ)I"⟩, prog_7_method_9_code, 5, (Option.some Jvm.ClassFile.FieldType.int), 1, 21, bPt_badnessOf, 392, 391, 0, 62, 4)
set_option maxRecDepth 100000 in
theorem okPt_badnessOf : MOK mPt_badnessOf := ⟨by decide +kernel, by decide +kernel⟩
def bPt_kindOf : List BLK := [
  (0, [(0, .iload_n 0, 0, 0, 0), (1, .bipush 13, 13, 0, 0)], (3, .if_icmp .ge 5, 8, 6, 0)),
  (6, [(6, .iconst 0, 0, 0, 0)], (7, .ireturn, 0, 0, 0)),
  (8, [(8, .iload_n 0, 0, 0, 0), (9, .bipush 100, 100, 0, 0)], (11, .if_icmp .ge 7, 18, 14, 0)),
  (14, [(14, .iconst 1, 1, 0, 0)], (15, .goto 4, 19, 18, 0)),
  (18, [(18, .iconst 2, 2, 0, 0)], (19, .nop, 0, 0, 0)),
  (19, [], (19, .ireturn, 0, 0, 0))]
def mPt_kindOf : MR := (⟨"PageFormatter$Parting", "kindOf", "(I)I"⟩, prog_7_method_10_code, 1, (Option.some Jvm.ClassFile.FieldType.int), 0, 0, bPt_kindOf, 395, 394, 0, 62, 1)
set_option maxRecDepth 100000 in
theorem okPt_kindOf : MOK mPt_kindOf := ⟨by decide +kernel, by decide +kernel⟩
def bPt_plainDemerits : List BLK := [
  (0, [(0, .lconst 1, 0, 0, 0), (1, .iload_n 3, 0, 0, 0), (2, .i2l, 0, 0, 0), (3, .ladd, 0, 0, 0), (4, .lconst 1, 0, 0, 0), (5, .iload_n 3, 0, 0, 0), (6, .i2l, 0, 0, 0), (7, .ladd, 0, 0, 0), (8, .lmul, 0, 0, 0), (9, .lstore 4, 0, 0, 0), (11, .aload_n 0, 0, 0, 0), (12, .iload_n 2, 0, 0, 0)], (13, .invokevirtual 94, 0, 16, 400)),
  (16, [], (16, .ifCond .eq 25, 41, 19, 0)),
  (19, [(19, .lload 4, 0, 0, 0), (21, .aload_n 0, 0, 0, 0), (22, .iload_n 1, 0, 0, 0)], (23, .invokevirtual 94, 0, 26, 400)),
  (26, [], (26, .ifCond .eq 9, 35, 29, 0)),
  (29, [(29, .ldc2_w 98, 13000, 0, 401)], (32, .goto 6, 38, 35, 0)),
  (35, [(35, .ldc2_w 100, 3000, 0, 402)], (38, .nop, 0, 0, 0)),
  (38, [(38, .ladd, 0, 0, 0), (39, .lstore 4, 0, 0, 0)], (41, .nop, 0, 0, 0)),
  (41, [(41, .lload 4, 0, 0, 0)], (43, .lreturn, 0, 0, 0))]
def mPt_plainDemerits : MR := (⟨"PageFormatter$Parting", "plainDemerits", "(LPageFormatter$Paragraph;III)J"⟩, prog_7_method_11_code, 6, (Option.some Jvm.ClassFile.FieldType.long), 1, 21, bPt_plainDemerits, 399, 398, 0, 62, 4)
set_option maxRecDepth 100000 in
theorem okPt_plainDemerits : MOK mPt_plainDemerits := ⟨by decide +kernel, by decide +kernel⟩
def bPt_clash : List BLK := [
  (0, [(0, .iload_n 0, 0, 0, 0), (1, .iload_n 1, 0, 0, 0), (2, .isub, 0, 0, 0), (3, .iconst 2, 2, 0, 0)], (4, .if_icmp .eq 10, 14, 7, 0)),
  (7, [(7, .iload_n 1, 0, 0, 0), (8, .iload_n 0, 0, 0, 0), (9, .isub, 0, 0, 0), (10, .iconst 2, 2, 0, 0)], (11, .if_icmp .ne 9, 20, 14, 0)),
  (14, [(14, .sipush 5000, 5000, 0, 0)], (17, .goto 4, 21, 20, 0)),
  (20, [(20, .iconst 0, 0, 0, 0)], (21, .nop, 0, 0, 0)),
  (21, [], (21, .ireturn, 0, 0, 0))]
def mPt_clash : MR := (⟨"PageFormatter$Parting", "clash", "(II)I"⟩, prog_7_method_12_code, 2, (Option.some Jvm.ClassFile.FieldType.int), 0, 0, bPt_clash, 405, 404, 0, 62, 2)
set_option maxRecDepth 100000 in
theorem okPt_clash : MOK mPt_clash := ⟨by decide +kernel, by decide +kernel⟩
def bPt_recordLine : List BLK := [
  (0, [(0, .aload_n 0, 0, 0, 0), (1, .iload_n 2, 0, 0, 0)], (2, .invokevirtual 66, 0, 5, 368)),
  (5, [(5, .istore 5, 0, 0, 0), (7, .aload_n 1, 0, 0, 0), (8, .iload_n 2, 0, 0, 0), (9, .iload_n 3, 0, 0, 0)], (10, .invokevirtual 73, 0, 13, 373)),
  (13, [(13, .istore 6, 0, 0, 0), (15, .aload_n 1, 0, 0, 0), (16, .iload_n 2, 0, 0, 0), (17, .iload_n 3, 0, 0, 0)], (18, .invokevirtual 76, 0, 21, 389)),
  (21, [(21, .istore 7, 0, 0, 0), (23, .bipush 6, 6, 0, 0), (25, .aload_n 0, 0, 0, 0), (26, .getfield 32, 5, 6, 265), (29, .imul, 0, 0, 0), (30, .istore 8, 0, 0, 0), (32, .aload_n 0, 0, 0, 0), (33, .getfield 19, 5, 2, 261), (36, .aload_n 0, 0, 0, 0), (37, .getfield 32, 5, 6, 265), (40, .iload_n 3, 0, 0, 0), (41, .iastore, 0, 0, 0), (42, .aload_n 0, 0, 0, 0), (43, .getfield 22, 5, 3, 262), (46, .iload 8, 0, 0, 0), (48, .iconst 0, 0, 0, 0), (49, .iadd, 0, 0, 0), (50, .iload 6, 0, 0, 0), (52, .iastore, 0, 0, 0), (53, .aload_n 0, 0, 0, 0), (54, .getfield 22, 5, 3, 262), (57, .iload 8, 0, 0, 0), (59, .iconst 1, 1, 0, 0), (60, .iadd, 0, 0, 0), (61, .iconst 0, 0, 0, 0), (62, .iload 5, 0, 0, 0), (64, .iload 6, 0, 0, 0), (66, .isub, 0, 0, 0)], (67, .invokestatic 102, 0, 70, 418)),
  (70, [(70, .iastore, 0, 0, 0), (71, .aload_n 0, 0, 0, 0), (72, .getfield 22, 5, 3, 262), (75, .iload 8, 0, 0, 0), (77, .iconst 2, 2, 0, 0), (78, .iadd, 0, 0, 0), (79, .iload 6, 0, 0, 0), (81, .iload 5, 0, 0, 0), (83, .iload 7, 0, 0, 0), (85, .iload 4, 0, 0, 0)], (87, .invokestatic 79, 0, 90, 390)),
  (90, [(90, .iastore, 0, 0, 0), (91, .aload_n 0, 0, 0, 0), (92, .getfield 22, 5, 3, 262), (95, .iload 8, 0, 0, 0), (97, .iconst 3, 3, 0, 0), (98, .iadd, 0, 0, 0), (99, .iload 7, 0, 0, 0), (101, .iastore, 0, 0, 0), (102, .aload_n 0, 0, 0, 0), (103, .getfield 22, 5, 3, 262), (106, .iload 8, 0, 0, 0), (108, .iconst 4, 4, 0, 0), (109, .iadd, 0, 0, 0), (110, .aload_n 1, 0, 0, 0), (111, .iload_n 3, 0, 0, 0)], (112, .invokevirtual 94, 0, 115, 400)),
  (115, [], (115, .ifCond .eq 7, 122, 118, 0)),
  (118, [(118, .iconst 1, 1, 0, 0)], (119, .goto 4, 123, 122, 0)),
  (122, [(122, .iconst 0, 0, 0, 0)], (123, .nop, 0, 0, 0)),
  (123, [(123, .iastore, 0, 0, 0), (124, .aload_n 0, 0, 0, 0), (125, .getfield 22, 5, 3, 262), (128, .iload 8, 0, 0, 0), (130, .iconst 5, 5, 0, 0), (131, .iadd, 0, 0, 0), (132, .iload 5, 0, 0, 0), (134, .iastore, 0, 0, 0)], (135, .return_, 0, 0, 0))]
def mPt_recordLine : MR := (⟨"PageFormatter$Parting", "recordLine", "(LPageFormatter$Paragraph;IIZ)V"⟩, prog_7_method_13_code, 9, (Option.none : Option Jvm.ClassFile.FieldType), 2, 45, bPt_recordLine, 417, 416, 6, 62, 4)
set_option maxRecDepth 100000 in
theorem okPt_recordLine : MOK mPt_recordLine := ⟨by decide +kernel, by decide +kernel⟩
end
section
def bPf_type : List BLK := [
  (0, [(0, .iload_n 3, 0, 0, 0), (1, .iconst 1, 1, 0, 0)], (2, .if_icmp .lt 9, 11, 5, 0)),
  (5, [(5, .iload_n 3, 0, 0, 0), (6, .bipush 8, 8, 0, 0)], (8, .if_icmp .le 6, 14, 11, 0)),
  (11, [(11, .bipush (-2), 1, 1, 0)], (13, .ireturn, 0, 0, 0)),
  (14, [(14, .aload_n 0, 0, 0, 0), (15, .getfield 12, 7, 0, 287), (18, .getfield 64, 6, 1, 84), (21, .iload_n 3, 0, 0, 0), (22, .iadd, 0, 0, 0), (23, .bipush 100, 100, 0, 0)], (25, .if_icmp .le 6, 31, 28, 0)),
  (28, [(28, .bipush (-3), 2, 1, 0)], (30, .ireturn, 0, 0, 0)),
  (31, [(31, .iconst 0, 0, 0, 0), (32, .istore 4, 0, 0, 0)], (34, .nop, 0, 0, 0)),
  (34, [(34, .iload 4, 0, 0, 0), (36, .iload_n 3, 0, 0, 0)], (37, .if_icmp .ge 46, 83, 40, 0)),
  (40, [(40, .lload_n 1, 0, 0, 0), (41, .bipush 8, 8, 0, 0), (43, .iload 4, 0, 0, 0), (45, .imul, 0, 0, 0), (46, .lushr, 0, 0, 0), (47, .l2i, 0, 0, 0), (48, .sipush 255, 255, 0, 0), (51, .iand, 0, 0, 0), (52, .istore 5, 0, 0, 0), (54, .iload 5, 0, 0, 0), (56, .bipush 32, 32, 0, 0)], (58, .if_icmp .lt 19, 77, 61, 0)),
  (61, [(61, .iload 5, 0, 0, 0), (63, .bipush 126, 126, 0, 0)], (65, .if_icmp .gt 12, 77, 68, 0)),
  (68, [(68, .aload_n 0, 0, 0, 0), (69, .getfield 12, 7, 0, 287), (72, .iload 5, 0, 0, 0)], (74, .invokevirtual 67, 0, 77, 316)),
  (77, [(77, .iinc 4 1, 1, 0, 0)], (80, .goto (-46), 34, 83, 0)),
  (83, [(83, .aload_n 0, 0, 0, 0), (84, .getfield 12, 7, 0, 287), (87, .getfield 64, 6, 1, 84)], (90, .ireturn, 0, 0, 0))]
def mPf_type : MR := (⟨"PageFormatter", "type", "(JI)I"⟩, prog_1_method_2_code, 6, (Option.some Jvm.ClassFile.FieldType.int), 1, 21, bPf_type, 315, 313, 314, 55, 2)
set_option maxRecDepth 100000 in
theorem okPf_type : MOK mPf_type := ⟨by decide +kernel, by decide +kernel⟩
def bPf_enter : List BLK := [
  (0, [(0, .aload_n 0, 0, 0, 0), (1, .getfield 42, 7, 4, 291), (4, .getfield 71, 3, 7, 202), (7, .istore_n 1, 0, 0, 0), (8, .aload_n 0, 0, 0, 0), (9, .getfield 12, 7, 0, 287), (12, .iconst 0, 0, 0, 0)], (13, .invokevirtual 74, 0, 16, 324)),
  (16, [(16, .bipush 46, 46, 0, 0)], (18, .if_icmp .ne 32, 50, 21, 0)),
  (21, [(21, .aload_n 0, 0, 0, 0), (22, .getfield 19, 7, 1, 288), (25, .aload_n 0, 0, 0, 0), (26, .getfield 12, 7, 0, 287)], (29, .invokevirtual 78, 0, 32, 328)),
  (32, [(32, .aload_n 0, 0, 0, 0)], (33, .invokevirtual 82, 0, 36, 345)),
  (36, [], (36, .ifCond .eq 7, 43, 39, 0)),
  (39, [(39, .aload_n 0, 0, 0, 0)], (40, .invokevirtual 86, 0, 43, 353)),
  (43, [(43, .aload_n 0, 0, 0, 0)], (44, .invokevirtual 89, 0, 47, 486)),
  (47, [], (47, .goto 7, 54, 50, 0)),
  (50, [(50, .aload_n 0, 0, 0, 0)], (51, .invokevirtual 92, 0, 54, 518)),
  (54, [(54, .aload_n 0, 0, 0, 0), (55, .getfield 12, 7, 0, 287), (58, .iconst 0, 0, 0, 0), (59, .putfield 64, 6, 1, 84), (62, .aload_n 0, 0, 0, 0), (63, .getfield 42, 7, 4, 291), (66, .getfield 71, 3, 7, 202), (69, .iload_n 1, 0, 0, 0), (70, .isub, 0, 0, 0)], (71, .ireturn, 0, 0, 0))]
def mPf_enter : MR := (⟨"PageFormatter", "enter", "()I"⟩, prog_1_method_3_code, 2, (Option.some Jvm.ClassFile.FieldType.int), 7, 171, bPf_enter, 323, 321, 322, 55, 0)
set_option maxRecDepth 100000 in
theorem okPf_enter : MOK mPf_enter := ⟨by decide +kernel, by decide +kernel⟩
def bPf_finish : List BLK := [
  (0, [(0, .aload_n 0, 0, 0, 0), (1, .getfield 42, 7, 4, 291), (4, .getfield 71, 3, 7, 202), (7, .istore_n 1, 0, 0, 0), (8, .aload_n 0, 0, 0, 0)], (9, .invokevirtual 86, 0, 12, 353)),
  (12, [(12, .aload_n 0, 0, 0, 0), (13, .getfield 42, 7, 4, 291)], (16, .invokevirtual 95, 0, 19, 349)),
  (19, [], (19, .ifCond .eq 12, 31, 22, 0)),
  (22, [(22, .aload_n 0, 0, 0, 0), (23, .getfield 42, 7, 4, 291), (26, .bipush 99, 99, 0, 0)], (28, .invokevirtual 98, 0, 31, 505)),
  (31, [(31, .aload_n 0, 0, 0, 0), (32, .getfield 12, 7, 0, 287), (35, .iconst 0, 0, 0, 0), (36, .putfield 64, 6, 1, 84), (39, .aload_n 0, 0, 0, 0), (40, .getfield 26, 7, 2, 289)], (43, .invokevirtual 101, 0, 46, 587)),
  (46, [(46, .aload_n 0, 0, 0, 0), (47, .getfield 42, 7, 4, 291)], (50, .invokevirtual 104, 0, 53, 588)),
  (53, [(53, .aload_n 0, 0, 0, 0), (54, .getfield 42, 7, 4, 291), (57, .getfield 71, 3, 7, 202), (60, .iload_n 1, 0, 0, 0), (61, .isub, 0, 0, 0)], (62, .ireturn, 0, 0, 0))]
def mPf_finish : MR := (⟨"PageFormatter", "finish", "()I"⟩, prog_1_method_4_code, 2, (Option.some Jvm.ClassFile.FieldType.int), 5, 126, bPf_finish, 586, 584, 585, 55, 0)
set_option maxRecDepth 100000 in
theorem okPf_finish : MOK mPf_finish := ⟨by decide +kernel, by decide +kernel⟩
def bPf_wipe : List BLK := [
  (0, [(0, .aload_n 0, 0, 0, 0), (1, .getfield 33, 7, 3, 290), (4, .getfield 105, 2, 1, 175), (7, .istore_n 1, 0, 0, 0), (8, .aload_n 0, 0, 0, 0), (9, .getfield 33, 7, 3, 290), (12, .iconst 0, 0, 0, 0), (13, .putfield 105, 2, 1, 175), (16, .iload_n 1, 0, 0, 0)], (17, .ireturn, 0, 0, 0))]
def mPf_wipe : MR := (⟨"PageFormatter", "wipe", "()I"⟩, prog_1_method_5_code, 2, (Option.some Jvm.ClassFile.FieldType.int), 0, 0, bPf_wipe, 595, 593, 594, 55, 0)
set_option maxRecDepth 100000 in
theorem okPf_wipe : MOK mPf_wipe := ⟨by decide +kernel, by decide +kernel⟩
def bPf_length : List BLK := [
  (0, [(0, .aload_n 0, 0, 0, 0), (1, .getfield 33, 7, 3, 290), (4, .getfield 105, 2, 1, 175)], (7, .ireturn, 0, 0, 0))]
def mPf_length : MR := (⟨"PageFormatter", "length", "()I"⟩, prog_1_method_6_code, 1, (Option.some Jvm.ClassFile.FieldType.int), 0, 0, bPf_length, 599, 597, 598, 55, 0)
set_option maxRecDepth 100000 in
theorem okPf_length : MOK mPf_length := ⟨by decide +kernel, by decide +kernel⟩
def bPf_at : List BLK := [
  (0, [(0, .aload_n 0, 0, 0, 0), (1, .getfield 33, 7, 3, 290), (4, .iload_n 1, 0, 0, 0)], (5, .invokevirtual 106, 0, 8, 604)),
  (8, [], (8, .ireturn, 0, 0, 0))]
def mPf_at : MR := (⟨"PageFormatter", "at", "(I)I"⟩, prog_1_method_7_code, 2, (Option.some Jvm.ClassFile.FieldType.int), 1, 21, bPf_at, 603, 601, 602, 55, 1)
set_option maxRecDepth 100000 in
theorem okPf_at : MOK mPf_at := ⟨by decide +kernel, by decide +kernel⟩
def bPf_demerits : List BLK := [
  (0, [(0, .aload_n 0, 0, 0, 0), (1, .getfield 56, 7, 6, 293), (4, .getfield 107, 5, 7, 268)], (7, .lreturn, 0, 0, 0))]
def mPf_demerits : MR := (⟨"PageFormatter", "demerits", "()J"⟩, prog_1_method_8_code, 1, (Option.some Jvm.ClassFile.FieldType.long), 0, 0, bPf_demerits, 611, 609, 610, 55, 0)
set_option maxRecDepth 100000 in
theorem okPf_demerits : MOK mPf_demerits := ⟨by decide +kernel, by decide +kernel⟩
def bPf_line : List BLK := [
  (0, [(0, .aload_n 0, 0, 0, 0), (1, .getfield 56, 7, 6, 293), (4, .iload_n 1, 0, 0, 0), (5, .iload_n 2, 0, 0, 0)], (6, .invokevirtual 111, 0, 9, 452)),
  (9, [], (9, .ireturn, 0, 0, 0))]
def mPf_line : MR := (⟨"PageFormatter", "line", "(II)I"⟩, prog_1_method_9_code, 3, (Option.some Jvm.ClassFile.FieldType.int), 1, 22, bPf_line, 615, 613, 614, 55, 2)
set_option maxRecDepth 100000 in
theorem okPf_line : MOK mPf_line := ⟨by decide +kernel, by decide +kernel⟩
def bPf_count : List BLK := [
  (0, [(0, .iload_n 1, 0, 0, 0)], (1, .tableswitch 232 0 16 #[83, 91, 99, 107, 115, 123, 131, 139, 147, 155, 163, 171, 187, 203, 211, 216, 224], 83, 83, 0)),
  (84, [(84, .aload_n 0, 0, 0, 0), (85, .getfield 49, 7, 5, 292), (88, .getfield 115, 4, 6, 234)], (91, .ireturn, 0, 0, 0)),
  (92, [(92, .aload_n 0, 0, 0, 0), (93, .getfield 42, 7, 4, 291), (96, .getfield 118, 3, 4, 196)], (99, .ireturn, 0, 0, 0)),
  (100, [(100, .aload_n 0, 0, 0, 0), (101, .getfield 42, 7, 4, 291), (104, .getfield 121, 3, 5, 198)], (107, .ireturn, 0, 0, 0)),
  (108, [(108, .aload_n 0, 0, 0, 0), (109, .getfield 42, 7, 4, 291), (112, .getfield 124, 3, 6, 200)], (115, .ireturn, 0, 0, 0)),
  (116, [(116, .aload_n 0, 0, 0, 0), (117, .getfield 26, 7, 2, 289), (120, .getfield 127, 1, 0, 127)], (123, .ireturn, 0, 0, 0)),
  (124, [(124, .aload_n 0, 0, 0, 0), (125, .getfield 26, 7, 2, 289), (128, .getfield 130, 1, 1, 130)], (131, .ireturn, 0, 0, 0)),
  (132, [(132, .aload_n 0, 0, 0, 0), (133, .getfield 26, 7, 2, 289), (136, .getfield 133, 1, 2, 133)], (139, .ireturn, 0, 0, 0)),
  (140, [(140, .aload_n 0, 0, 0, 0), (141, .getfield 26, 7, 2, 289), (144, .getfield 136, 1, 3, 136)], (147, .ireturn, 0, 0, 0)),
  (148, [(148, .aload_n 0, 0, 0, 0), (149, .getfield 26, 7, 2, 289), (152, .getfield 139, 1, 4, 138)], (155, .ireturn, 0, 0, 0)),
  (156, [(156, .aload_n 0, 0, 0, 0), (157, .getfield 26, 7, 2, 289), (160, .getfield 142, 1, 5, 140)], (163, .ireturn, 0, 0, 0)),
  (164, [(164, .aload_n 0, 0, 0, 0), (165, .getfield 26, 7, 2, 289), (168, .getfield 145, 1, 6, 143)], (171, .ireturn, 0, 0, 0)),
  (172, [(172, .aload_n 0, 0, 0, 0), (173, .getfield 26, 7, 2, 289), (176, .getfield 148, 1, 7, 145)], (179, .ifCond .eq 7, 186, 182, 0)),
  (182, [(182, .iconst 1, 1, 0, 0)], (183, .goto 4, 187, 186, 0)),
  (186, [(186, .iconst 0, 0, 0, 0)], (187, .nop, 0, 0, 0)),
  (187, [], (187, .ireturn, 0, 0, 0)),
  (188, [(188, .aload_n 0, 0, 0, 0), (189, .getfield 26, 7, 2, 289), (192, .getfield 152, 1, 8, 147)], (195, .ifCond .eq 7, 202, 198, 0)),
  (198, [(198, .iconst 1, 1, 0, 0)], (199, .goto 4, 203, 202, 0)),
  (202, [(202, .iconst 0, 0, 0, 0)], (203, .nop, 0, 0, 0)),
  (203, [], (203, .ireturn, 0, 0, 0)),
  (204, [(204, .aload_n 0, 0, 0, 0), (205, .getfield 56, 7, 6, 293), (208, .getfield 155, 5, 6, 266)], (211, .ireturn, 0, 0, 0)),
  (212, [(212, .aload_n 0, 0, 0, 0), (213, .getfield 60, 7, 7, 294)], (216, .ireturn, 0, 0, 0)),
  (217, [(217, .aload_n 0, 0, 0, 0), (218, .getfield 42, 7, 4, 291), (221, .getfield 71, 3, 7, 202)], (224, .ireturn, 0, 0, 0)),
  (225, [(225, .aload_n 0, 0, 0, 0), (226, .getfield 12, 7, 0, 287), (229, .getfield 64, 6, 1, 84)], (232, .ireturn, 0, 0, 0)),
  (233, [(233, .bipush (-2), 1, 1, 0)], (235, .ireturn, 0, 0, 0))]
def mPf_count : MR := (⟨"PageFormatter", "count", "(I)I"⟩, prog_1_method_10_code, 2, (Option.some Jvm.ClassFile.FieldType.int), 0, 0, bPf_count, 619, 617, 618, 55, 1)
set_option maxRecDepth 100000 in
theorem okPf_count : MOK mPf_count := ⟨by decide +kernel, by decide +kernel⟩
end
section
def bPf_breaksFirst : List BLK := [
  (0, [(0, .aload_n 0, 0, 0, 0), (1, .getfield 19, 7, 1, 288), (4, .getfield 158, 0, 0, 99)], (7, .lookupswitch 75 #[(25200, 67), (25202, 65), (25445, 65), (26217, 65), (28262, 65), (29552, 65), (29801, 65)], 65, 65, 0)),
  (72, [(72, .iconst 1, 1, 0, 0)], (73, .ireturn, 0, 0, 0)),
  (74, [(74, .aload_n 0, 0, 0, 0), (75, .getfield 42, 7, 4, 291)], (78, .invokevirtual 95, 0, 81, 349)),
  (81, [], (81, .ireturn, 0, 0, 0)),
  (82, [(82, .iconst 0, 0, 0, 0)], (83, .ireturn, 0, 0, 0))]
def mPf_breaksFirst : MR := (⟨"PageFormatter", "breaksFirst", "()Z"⟩, prog_1_method_11_code, 1, (Option.some Jvm.ClassFile.FieldType.boolean), 1, 20, bPf_breaksFirst, 348, 347, 1, 55, 0)
set_option maxRecDepth 100000 in
theorem okPf_breaksFirst : MOK mPf_breaksFirst := ⟨by decide +kernel, by decide +kernel⟩
def bPf_obey : List BLK := [
  (0, [(0, .aload_n 0, 0, 0, 0), (1, .getfield 19, 7, 1, 288), (4, .getfield 158, 0, 0, 99)], (7, .lookupswitch 452 #[(25200, 367), (25202, 137), (25445, 289), (26217, 140), (26223, 428), (26725, 404), (26990, 212), (27253, 162), (27763, 184), (28257, 173), (28262, 151), (28780, 374), (29293, 254), (29552, 345), (29801, 219), (30060, 317)], 137, 137, 0)),
  (144, [], (144, .goto 325, 469, 147, 0)),
  (147, [(147, .aload_n 0, 0, 0, 0), (148, .getfield 26, 7, 2, 289), (151, .iconst 1, 1, 0, 0), (152, .putfield 148, 1, 7, 145)], (155, .goto 314, 469, 158, 0)),
  (158, [(158, .aload_n 0, 0, 0, 0), (159, .getfield 26, 7, 2, 289), (162, .iconst 0, 0, 0, 0), (163, .putfield 148, 1, 7, 145)], (166, .goto 303, 469, 169, 0)),
  (169, [(169, .aload_n 0, 0, 0, 0), (170, .getfield 26, 7, 2, 289), (173, .iconst 1, 1, 0, 0), (174, .putfield 152, 1, 8, 147)], (177, .goto 292, 469, 180, 0)),
  (180, [(180, .aload_n 0, 0, 0, 0), (181, .getfield 26, 7, 2, 289), (184, .iconst 0, 0, 0, 0), (185, .putfield 152, 1, 8, 147)], (188, .goto 281, 469, 191, 0)),
  (191, [(191, .aload_n 0, 0, 0, 0), (192, .getfield 26, 7, 2, 289), (195, .aload_n 0, 0, 0, 0), (196, .getfield 19, 7, 1, 288), (199, .aload_n 0, 0, 0, 0), (200, .getfield 26, 7, 2, 289), (203, .getfield 136, 1, 3, 136), (206, .iconst 1, 1, 0, 0), (207, .iconst 1, 1, 0, 0), (208, .bipush 9, 9, 0, 0)], (210, .invokevirtual 161, 0, 213, 490)),
  (213, [(213, .putfield 136, 1, 3, 136)], (216, .goto 253, 469, 219, 0)),
  (219, [(219, .aload_n 0, 0, 0, 0)], (220, .invokevirtual 165, 0, 223, 496)),
  (223, [], (223, .goto 246, 469, 226, 0)),
  (226, [(226, .aload_n 0, 0, 0, 0), (227, .getfield 26, 7, 2, 289), (230, .aload_n 0, 0, 0, 0), (231, .getfield 19, 7, 1, 288), (234, .aload_n 0, 0, 0, 0), (235, .getfield 26, 7, 2, 289), (238, .getfield 133, 1, 2, 133), (241, .iconst 0, 0, 0, 0), (242, .iconst 0, 0, 0, 0), (243, .aload_n 0, 0, 0, 0), (244, .getfield 26, 7, 2, 289), (247, .getfield 127, 1, 0, 127), (250, .iconst 1, 1, 0, 0), (251, .isub, 0, 0, 0)], (252, .invokevirtual 161, 0, 255, 490)),
  (255, [(255, .putfield 133, 1, 2, 133)], (258, .goto 211, 469, 261, 0)),
  (261, [(261, .aload_n 0, 0, 0, 0), (262, .getfield 26, 7, 2, 289), (265, .aload_n 0, 0, 0, 0), (266, .getfield 19, 7, 1, 288), (269, .aload_n 0, 0, 0, 0), (270, .getfield 26, 7, 2, 289), (273, .getfield 127, 1, 0, 127), (276, .bipush 40, 40, 0, 0), (278, .aload_n 0, 0, 0, 0), (279, .getfield 26, 7, 2, 289)], (282, .invokevirtual 168, 0, 285, 500)),
  (285, [(285, .bipush 80, 80, 0, 0)], (287, .invokevirtual 161, 0, 290, 490)),
  (290, [(290, .putfield 127, 1, 0, 127)], (293, .goto 176, 469, 296, 0)),
  (296, [(296, .aload_n 0, 0, 0, 0), (297, .getfield 26, 7, 2, 289), (300, .aload_n 0, 0, 0, 0), (301, .getfield 19, 7, 1, 288), (304, .aload_n 0, 0, 0, 0), (305, .getfield 26, 7, 2, 289), (308, .getfield 139, 1, 4, 138), (311, .iconst 1, 1, 0, 0), (312, .iconst 0, 0, 0, 0), (313, .bipush 99, 99, 0, 0)], (315, .invokevirtual 161, 0, 318, 490)),
  (318, [(318, .putfield 139, 1, 4, 138)], (321, .goto 148, 469, 324, 0)),
  (324, [(324, .aload_n 0, 0, 0, 0), (325, .getfield 26, 7, 2, 289), (328, .aload_n 0, 0, 0, 0), (329, .getfield 19, 7, 1, 288), (332, .aload_n 0, 0, 0, 0), (333, .getfield 26, 7, 2, 289), (336, .getfield 142, 1, 5, 140), (339, .iconst 1, 1, 0, 0), (340, .iconst 0, 0, 0, 0), (341, .bipush 99, 99, 0, 0)], (343, .invokevirtual 161, 0, 346, 490)),
  (346, [(346, .putfield 142, 1, 5, 140)], (349, .goto 120, 469, 352, 0)),
  (352, [(352, .aload_n 0, 0, 0, 0), (353, .getfield 42, 7, 4, 291), (356, .aload_n 0, 0, 0, 0), (357, .getfield 19, 7, 1, 288), (360, .iconst 0, 0, 0, 0), (361, .iconst 1, 1, 0, 0), (362, .iconst 0, 0, 0, 0), (363, .bipush 99, 99, 0, 0)], (365, .invokevirtual 161, 0, 368, 490)),
  (368, [], (368, .invokevirtual 98, 0, 371, 505)),
  (371, [], (371, .goto 98, 469, 374, 0)),
  (374, [(374, .aload_n 0, 0, 0, 0)], (375, .invokevirtual 172, 0, 378, 509)),
  (378, [], (378, .goto 91, 469, 381, 0)),
  (381, [(381, .aload_n 0, 0, 0, 0), (382, .getfield 26, 7, 2, 289), (385, .aload_n 0, 0, 0, 0), (386, .getfield 19, 7, 1, 288), (389, .aload_n 0, 0, 0, 0), (390, .getfield 26, 7, 2, 289), (393, .getfield 145, 1, 6, 143), (396, .bipush 24, 24, 0, 0), (398, .bipush 8, 8, 0, 0), (400, .bipush 99, 99, 0, 0)], (402, .invokevirtual 161, 0, 405, 490)),
  (405, [(405, .putfield 145, 1, 6, 143)], (408, .goto 61, 469, 411, 0)),
  (411, [(411, .aload_n 0, 0, 0, 0), (412, .getfield 42, 7, 4, 291), (415, .getfield 175, 3, 2, 192), (418, .aload_n 0, 0, 0, 0), (419, .getfield 12, 7, 0, 287), (422, .aload_n 0, 0, 0, 0), (423, .getfield 19, 7, 1, 288), (426, .getfield 178, 0, 1, 101)], (429, .invokevirtual 181, 0, 432, 513)),
  (432, [], (432, .goto 37, 469, 435, 0)),
  (435, [(435, .aload_n 0, 0, 0, 0), (436, .getfield 42, 7, 4, 291), (439, .getfield 185, 3, 3, 194), (442, .aload_n 0, 0, 0, 0), (443, .getfield 12, 7, 0, 287), (446, .aload_n 0, 0, 0, 0), (447, .getfield 19, 7, 1, 288), (450, .getfield 178, 0, 1, 101)], (453, .invokevirtual 181, 0, 456, 513)),
  (456, [], (456, .goto 13, 469, 459, 0)),
  (459, [(459, .aload_n 0, 0, 0, 0), (460, .dup, 0, 0, 0), (461, .getfield 60, 7, 7, 294), (464, .iconst 1, 1, 0, 0), (465, .iadd, 0, 0, 0), (466, .putfield 60, 7, 7, 294)], (469, .nop, 0, 0, 0)),
  (469, [], (469, .return_, 0, 0, 0))]
def mPf_obey : MR := (⟨"PageFormatter", "obey", "()V"⟩, prog_1_method_12_code, 1, (Option.none : Option Jvm.ClassFile.FieldType), 5, 107, bPf_obey, 489, 488, 11, 55, 0)
set_option maxRecDepth 100000 in
theorem okPf_obey : MOK mPf_obey := ⟨by decide +kernel, by decide +kernel⟩
def bPf_setIndent : List BLK := [
  (0, [(0, .aload_n 0, 0, 0, 0), (1, .getfield 26, 7, 2, 289), (4, .aload_n 0, 0, 0, 0), (5, .getfield 19, 7, 1, 288), (8, .aload_n 0, 0, 0, 0), (9, .getfield 26, 7, 2, 289), (12, .getfield 130, 1, 1, 130), (15, .iconst 0, 0, 0, 0), (16, .iconst 0, 0, 0, 0), (17, .aload_n 0, 0, 0, 0), (18, .getfield 26, 7, 2, 289), (21, .getfield 127, 1, 0, 127), (24, .iconst 1, 1, 0, 0), (25, .isub, 0, 0, 0)], (26, .invokevirtual 161, 0, 29, 490)),
  (29, [(29, .putfield 130, 1, 1, 130), (32, .aload_n 0, 0, 0, 0), (33, .getfield 26, 7, 2, 289), (36, .aload_n 0, 0, 0, 0), (37, .getfield 26, 7, 2, 289), (40, .getfield 130, 1, 1, 130), (43, .putfield 133, 1, 2, 133)], (46, .return_, 0, 0, 0))]
def mPf_setIndent : MR := (⟨"PageFormatter", "setIndent", "()V"⟩, prog_1_method_13_code, 1, (Option.none : Option Jvm.ClassFile.FieldType), 2, 46, bPf_setIndent, 499, 498, 12, 55, 0)
set_option maxRecDepth 100000 in
theorem okPf_setIndent : MOK mPf_setIndent := ⟨by decide +kernel, by decide +kernel⟩
def bPf_beginPage : List BLK := [
  (0, [(0, .aload_n 0, 0, 0, 0), (1, .getfield 42, 7, 4, 291)], (4, .invokevirtual 95, 0, 7, 349)),
  (7, [], (7, .ifCond .eq 12, 19, 10, 0)),
  (10, [(10, .aload_n 0, 0, 0, 0), (11, .getfield 42, 7, 4, 291), (14, .bipush 99, 99, 0, 0)], (16, .invokevirtual 98, 0, 19, 505)),
  (19, [(19, .aload_n 0, 0, 0, 0), (20, .getfield 42, 7, 4, 291), (23, .aload_n 0, 0, 0, 0), (24, .getfield 19, 7, 1, 288), (27, .aload_n 0, 0, 0, 0), (28, .getfield 42, 7, 4, 291), (31, .getfield 124, 3, 6, 200), (34, .aload_n 0, 0, 0, 0), (35, .getfield 42, 7, 4, 291), (38, .getfield 124, 3, 6, 200), (41, .iconst 1, 1, 0, 0), (42, .sipush 999, 999, 0, 0)], (45, .invokevirtual 161, 0, 48, 490)),
  (48, [(48, .putfield 124, 3, 6, 200)], (51, .return_, 0, 0, 0))]
def mPf_beginPage : MR := (⟨"PageFormatter", "beginPage", "()V"⟩, prog_1_method_14_code, 1, (Option.none : Option Jvm.ClassFile.FieldType), 4, 87, bPf_beginPage, 512, 511, 13, 55, 0)
set_option maxRecDepth 100000 in
theorem okPf_beginPage : MOK mPf_beginPage := ⟨by decide +kernel, by decide +kernel⟩
def bPf_takeText : List BLK := [
  (0, [(0, .aload_n 0, 0, 0, 0), (1, .getfield 12, 7, 0, 287)], (4, .invokevirtual 188, 0, 7, 522)),
  (7, [(7, .istore_n 1, 0, 0, 0), (8, .iload_n 1, 0, 0, 0)], (9, .ifCond .gt 13, 22, 12, 0)),
  (12, [(12, .aload_n 0, 0, 0, 0), (13, .getfield 12, 7, 0, 287), (16, .getfield 64, 6, 1, 84)], (19, .ifCond .ne 7, 26, 22, 0)),
  (22, [(22, .aload_n 0, 0, 0, 0)], (23, .invokevirtual 86, 0, 26, 353)),
  (26, [(26, .iload_n 1, 0, 0, 0), (27, .aload_n 0, 0, 0, 0), (28, .getfield 12, 7, 0, 287), (31, .getfield 64, 6, 1, 84)], (34, .if_icmp .ne 8, 42, 37, 0)),
  (37, [(37, .aload_n 0, 0, 0, 0)], (38, .invokevirtual 191, 0, 41, 527)),
  (41, [], (41, .return_, 0, 0, 0)),
  (42, [(42, .aload_n 0, 0, 0, 0), (43, .getfield 26, 7, 2, 289), (46, .iload_n 1, 0, 0, 0)], (47, .invokevirtual 194, 0, 50, 531)),
  (50, [(50, .aload_n 0, 0, 0, 0), (51, .getfield 12, 7, 0, 287), (54, .iload_n 1, 0, 0, 0)], (55, .invokevirtual 197, 0, 58, 536)),
  (58, [(58, .aload_n 0, 0, 0, 0), (59, .getfield 26, 7, 2, 289)], (62, .invokevirtual 200, 0, 65, 540)),
  (65, [(65, .istore_n 2, 0, 0, 0), (66, .aload_n 0, 0, 0, 0), (67, .getfield 26, 7, 2, 289), (70, .getfield 139, 1, 4, 138)], (73, .ifCond .le 11, 84, 76, 0)),
  (76, [(76, .aload_n 0, 0, 0, 0), (77, .iload_n 2, 0, 0, 0)], (78, .invokevirtual 203, 0, 81, 544)),
  (81, [], (81, .goto 33, 114, 84, 0)),
  (84, [(84, .aload_n 0, 0, 0, 0), (85, .getfield 26, 7, 2, 289), (88, .getfield 148, 1, 7, 145)], (91, .ifCond .ne 18, 109, 94, 0)),
  (94, [(94, .aload_n 0, 0, 0, 0), (95, .getfield 12, 7, 0, 287)], (98, .invokevirtual 207, 0, 101, 548)),
  (101, [(101, .aload_n 0, 0, 0, 0), (102, .iload_n 2, 0, 0, 0)], (103, .invokevirtual 210, 0, 106, 557)),
  (106, [], (106, .goto 8, 114, 109, 0)),
  (109, [(109, .aload_n 0, 0, 0, 0), (110, .iload_n 2, 0, 0, 0)], (111, .invokevirtual 213, 0, 114, 562)),
  (114, [], (114, .return_, 0, 0, 0))]
def mPf_takeText : MR := (⟨"PageFormatter", "takeText", "()V"⟩, prog_1_method_15_code, 3, (Option.none : Option Jvm.ClassFile.FieldType), 6, 149, bPf_takeText, 521, 520, 14, 55, 0)
set_option maxRecDepth 100000 in
theorem okPf_takeText : MOK mPf_takeText := ⟨by decide +kernel, by decide +kernel⟩
def bPf_putEmptyLine : List BLK := [
  (0, [(0, .aload_n 0, 0, 0, 0), (1, .getfield 42, 7, 4, 291), (4, .iconst 1, 1, 0, 0)], (5, .invokevirtual 216, 0, 8, 425)),
  (8, [(8, .aload_n 0, 0, 0, 0), (9, .getfield 42, 7, 4, 291)], (12, .invokevirtual 219, 0, 15, 471)),
  (15, [], (15, .return_, 0, 0, 0))]
def mPf_putEmptyLine : MR := (⟨"PageFormatter", "putEmptyLine", "()V"⟩, prog_1_method_16_code, 1, (Option.none : Option Jvm.ClassFile.FieldType), 4, 87, bPf_putEmptyLine, 530, 529, 15, 55, 0)
set_option maxRecDepth 100000 in
theorem okPf_putEmptyLine : MOK mPf_putEmptyLine := ⟨by decide +kernel, by decide +kernel⟩
def bPf_putCentred : List BLK := [
  (0, [(0, .aload_n 0, 0, 0, 0), (1, .getfield 26, 7, 2, 289), (4, .dup, 0, 0, 0), (5, .getfield 139, 1, 4, 138), (8, .iconst 1, 1, 0, 0), (9, .isub, 0, 0, 0), (10, .putfield 139, 1, 4, 138), (13, .aload_n 0, 0, 0, 0), (14, .getfield 12, 7, 0, 287)], (17, .invokevirtual 207, 0, 20, 548)),
  (20, [(20, .aload_n 0, 0, 0, 0), (21, .getfield 12, 7, 0, 287)], (24, .invokevirtual 222, 0, 27, 552)),
  (27, [(27, .aload_n 0, 0, 0, 0), (28, .getfield 26, 7, 2, 289), (31, .getfield 127, 1, 0, 127), (34, .aload_n 0, 0, 0, 0), (35, .getfield 26, 7, 2, 289), (38, .getfield 133, 1, 2, 133), (41, .iadd, 0, 0, 0), (42, .iconst 1, 1, 0, 0), (43, .iadd, 0, 0, 0), (44, .aload_n 0, 0, 0, 0), (45, .getfield 12, 7, 0, 287), (48, .getfield 64, 6, 1, 84), (51, .isub, 0, 0, 0), (52, .istore_n 2, 0, 0, 0), (53, .aload_n 0, 0, 0, 0), (54, .getfield 26, 7, 2, 289), (57, .iconst 0, 0, 0, 0), (58, .iload_n 2, 0, 0, 0)], (59, .invokestatic 225, 0, 62, 556)),
  (62, [(62, .iconst 2, 2, 0, 0), (63, .idiv, 0, 0, 0), (64, .putfield 133, 1, 2, 133), (67, .aload_n 0, 0, 0, 0), (68, .iload_n 1, 0, 0, 0)], (69, .invokevirtual 210, 0, 72, 557)),
  (72, [], (72, .return_, 0, 0, 0))]
def mPf_putCentred : MR := (⟨"PageFormatter", "putCentred", "(Z)V"⟩, prog_1_method_17_code, 3, (Option.none : Option Jvm.ClassFile.FieldType), 5, 108, bPf_putCentred, 547, 546, 16, 55, 1)
set_option maxRecDepth 100000 in
theorem okPf_putCentred : MOK mPf_putCentred := ⟨by decide +kernel, by decide +kernel⟩
def bPf_putEntered : List BLK := [
  (0, [(0, .aload_n 0, 0, 0, 0), (1, .getfield 42, 7, 4, 291), (4, .aload_n 0, 0, 0, 0), (5, .getfield 12, 7, 0, 287), (8, .getfield 64, 6, 1, 84)], (11, .ifCond .ne 7, 18, 14, 0)),
  (14, [(14, .iconst 1, 1, 0, 0)], (15, .goto 4, 19, 18, 0)),
  (18, [(18, .iconst 0, 0, 0, 0)], (19, .nop, 0, 0, 0)),
  (19, [], (19, .invokevirtual 216, 0, 22, 425)),
  (22, [(22, .aload_n 0, 0, 0, 0), (23, .getfield 33, 7, 3, 290), (26, .aload_n 0, 0, 0, 0), (27, .getfield 12, 7, 0, 287), (30, .getfield 230, 6, 0, 80), (33, .iconst 0, 0, 0, 0), (34, .aload_n 0, 0, 0, 0), (35, .getfield 12, 7, 0, 287), (38, .getfield 64, 6, 1, 84), (41, .iload_n 1, 0, 0, 0)], (42, .invokevirtual 234, 0, 45, 561)),
  (45, [(45, .aload_n 0, 0, 0, 0), (46, .getfield 42, 7, 4, 291)], (49, .invokevirtual 219, 0, 52, 471)),
  (52, [], (52, .return_, 0, 0, 0))]
def mPf_putEntered : MR := (⟨"PageFormatter", "putEntered", "(Z)V"⟩, prog_1_method_18_code, 2, (Option.none : Option Jvm.ClassFile.FieldType), 4, 87, bPf_putEntered, 560, 559, 17, 55, 1)
set_option maxRecDepth 100000 in
theorem okPf_putEntered : MOK mPf_putEntered := ⟨by decide +kernel, by decide +kernel⟩
def bPf_gatherWords : List BLK := [
  (0, [(0, .iconst 0, 0, 0, 0), (1, .istore_n 2, 0, 0, 0), (2, .iconst 0, 0, 0, 0), (3, .istore_n 3, 0, 0, 0)], (4, .nop, 0, 0, 0)),
  (4, [(4, .iload_n 3, 0, 0, 0), (5, .aload_n 0, 0, 0, 0), (6, .getfield 12, 7, 0, 287), (9, .getfield 64, 6, 1, 84)], (12, .if_icmp .gt 82, 94, 15, 0)),
  (15, [(15, .iload_n 3, 0, 0, 0), (16, .aload_n 0, 0, 0, 0), (17, .getfield 12, 7, 0, 287), (20, .getfield 64, 6, 1, 84)], (23, .if_icmp .ge 19, 42, 26, 0)),
  (26, [(26, .aload_n 0, 0, 0, 0), (27, .getfield 12, 7, 0, 287), (30, .iload_n 3, 0, 0, 0)], (31, .invokevirtual 74, 0, 34, 324)),
  (34, [(34, .bipush 32, 32, 0, 0)], (36, .if_icmp .eq 6, 42, 39, 0)),
  (39, [], (39, .goto 49, 88, 42, 0)),
  (42, [(42, .aload_n 0, 0, 0, 0), (43, .getfield 12, 7, 0, 287), (46, .iload_n 2, 0, 0, 0), (47, .iload_n 3, 0, 0, 0)], (48, .invokevirtual 238, 0, 51, 566)),
  (51, [], (51, .ifCond .eq 33, 84, 54, 0)),
  (54, [(54, .aload_n 0, 0, 0, 0), (55, .getfield 49, 7, 5, 292), (58, .getfield 115, 4, 6, 234), (61, .bipush 80, 80, 0, 0)], (63, .if_icmp .lt 7, 70, 66, 0)),
  (66, [(66, .aload_n 0, 0, 0, 0)], (67, .invokevirtual 86, 0, 70, 353)),
  (70, [(70, .aload_n 0, 0, 0, 0), (71, .getfield 49, 7, 5, 292), (74, .aload_n 0, 0, 0, 0), (75, .getfield 12, 7, 0, 287), (78, .iload_n 2, 0, 0, 0), (79, .iload_n 3, 0, 0, 0), (80, .iload_n 1, 0, 0, 0)], (81, .invokevirtual 242, 0, 84, 570)),
  (84, [(84, .iload_n 3, 0, 0, 0), (85, .iconst 1, 1, 0, 0), (86, .iadd, 0, 0, 0), (87, .istore_n 2, 0, 0, 0)], (88, .nop, 0, 0, 0)),
  (88, [(88, .iinc 3 1, 1, 0, 0)], (91, .goto (-87), 4, 94, 0)),
  (94, [], (94, .return_, 0, 0, 0))]
def mPf_gatherWords : MR := (⟨"PageFormatter", "gatherWords", "(Z)V"⟩, prog_1_method_19_code, 4, (Option.none : Option Jvm.ClassFile.FieldType), 5, 126, bPf_gatherWords, 565, 564, 18, 55, 1)
set_option maxRecDepth 100000 in
theorem okPf_gatherWords : MOK mPf_gatherWords := ⟨by decide +kernel, by decide +kernel⟩
def bPf_breakParagraph : List BLK := [
  (0, [(0, .aload_n 0, 0, 0, 0), (1, .getfield 49, 7, 5, 292), (4, .getfield 115, 4, 6, 234)], (7, .ifCond .ne 4, 11, 10, 0)),
  (10, [], (10, .return_, 0, 0, 0)),
  (11, [(11, .aload_n 0, 0, 0, 0), (12, .getfield 56, 7, 6, 293), (15, .aload_n 0, 0, 0, 0), (16, .getfield 49, 7, 5, 292), (19, .aload_n 0, 0, 0, 0), (20, .getfield 26, 7, 2, 289), (23, .getfield 127, 1, 0, 127), (26, .aload_n 0, 0, 0, 0), (27, .getfield 26, 7, 2, 289), (30, .getfield 133, 1, 2, 133), (33, .isub, 0, 0, 0), (34, .aload_n 0, 0, 0, 0), (35, .getfield 26, 7, 2, 289), (38, .getfield 127, 1, 0, 127), (41, .aload_n 0, 0, 0, 0), (42, .getfield 26, 7, 2, 289), (45, .getfield 130, 1, 1, 130), (48, .isub, 0, 0, 0)], (49, .invokevirtual 246, 0, 52, 357)),
  (52, [(52, .aload_n 0, 0, 0, 0), (53, .getfield 56, 7, 6, 293), (56, .aload_n 0, 0, 0, 0), (57, .getfield 49, 7, 5, 292)], (60, .invokevirtual 250, 0, 63, 410)),
  (63, [(63, .iconst 0, 0, 0, 0), (64, .istore_n 1, 0, 0, 0), (65, .iconst 0, 0, 0, 0), (66, .istore_n 2, 0, 0, 0)], (67, .nop, 0, 0, 0)),
  (67, [(67, .iload_n 2, 0, 0, 0), (68, .aload_n 0, 0, 0, 0), (69, .getfield 56, 7, 6, 293), (72, .getfield 155, 5, 6, 266)], (75, .if_icmp .ge 97, 172, 78, 0)),
  (78, [(78, .aload_n 0, 0, 0, 0), (79, .getfield 26, 7, 2, 289), (82, .getfield 152, 1, 8, 147)], (85, .ifCond .eq 20, 105, 88, 0)),
  (88, [(88, .iload_n 2, 0, 0, 0), (89, .aload_n 0, 0, 0, 0), (90, .getfield 56, 7, 6, 293), (93, .getfield 155, 5, 6, 266), (96, .iconst 1, 1, 0, 0), (97, .isub, 0, 0, 0)], (98, .if_icmp .ge 7, 105, 101, 0)),
  (101, [(101, .iconst 1, 1, 0, 0)], (102, .goto 4, 106, 105, 0)),
  (105, [(105, .iconst 0, 0, 0, 0)], (106, .nop, 0, 0, 0)),
  (106, [(106, .istore_n 3, 0, 0, 0), (107, .aload_n 0, 0, 0, 0), (108, .getfield 56, 7, 6, 293), (111, .iload_n 2, 0, 0, 0)], (112, .invokevirtual 254, 0, 115, 421)),
  (115, [(115, .istore 4, 0, 0, 0), (117, .aload_n 0, 0, 0, 0), (118, .getfield 42, 7, 4, 291), (121, .iconst 0, 0, 0, 0)], (122, .invokevirtual 216, 0, 125, 425)),
  (125, [(125, .aload_n 0, 0, 0, 0), (126, .getfield 49, 7, 5, 292), (129, .aload_n 0, 0, 0, 0), (130, .getfield 33, 7, 3, 290), (133, .iload_n 1, 0, 0, 0), (134, .iload 4, 0, 0, 0), (136, .iload_n 3, 0, 0, 0)], (137, .ifCond .eq 15, 152, 140, 0)),
  (140, [(140, .aload_n 0, 0, 0, 0), (141, .getfield 56, 7, 6, 293), (144, .iload_n 2, 0, 0, 0), (145, .iconst 1, 1, 0, 0)], (146, .invokevirtual 111, 0, 149, 452)),
  (149, [], (149, .goto 4, 153, 152, 0)),
  (152, [(152, .iconst 0, 0, 0, 0)], (153, .nop, 0, 0, 0)),
  (153, [], (153, .invokevirtual 257, 0, 156, 456)),
  (156, [(156, .aload_n 0, 0, 0, 0), (157, .getfield 42, 7, 4, 291)], (160, .invokevirtual 219, 0, 163, 471)),
  (163, [(163, .iload 4, 0, 0, 0), (165, .istore_n 1, 0, 0, 0), (166, .iinc 2 1, 1, 0, 0)], (169, .goto (-102), 67, 172, 0)),
  (172, [(172, .aload_n 0, 0, 0, 0), (173, .getfield 49, 7, 5, 292)], (176, .invokevirtual 261, 0, 179, 482)),
  (179, [], (179, .return_, 0, 0, 0))]
def mPf_breakParagraph : MR := (⟨"PageFormatter", "breakParagraph", "()V"⟩, prog_1_method_20_code, 5, (Option.none : Option Jvm.ClassFile.FieldType), 4, 102, bPf_breakParagraph, 356, 355, 2, 55, 0)
set_option maxRecDepth 100000 in
theorem okPf_breakParagraph : MOK mPf_breakParagraph := ⟨by decide +kernel, by decide +kernel⟩
end
section
def bMd_begin : List BLK := [
  (0, [(0, .aload_n 0, 0, 0, 0), (1, .iconst 0, 0, 0, 0), (2, .putfield 81, 8, 1, 632), (5, .aload_n 0, 0, 0, 0), (6, .iconst 0, 0, 0, 0), (7, .putfield 85, 8, 6, 637), (10, .aload_n 0, 0, 0, 0), (11, .iconst 1, 1, 0, 0), (12, .putfield 88, 8, 25, 656), (15, .aload_n 0, 0, 0, 0), (16, .iconst 1, 1, 0, 0), (17, .putfield 92, 8, 26, 657), (20, .aload_n 0, 0, 0, 0), (21, .iconst 1, 1, 0, 0), (22, .putfield 95, 8, 27, 658), (25, .aload_n 0, 0, 0, 0), (26, .iconst 0, 0, 0, 0), (27, .putfield 98, 8, 28, 659), (30, .aload_n 0, 0, 0, 0), (31, .iconst 0, 0, 0, 0), (32, .putfield 101, 8, 29, 660), (35, .aload_n 0, 0, 0, 0), (36, .bipush 40, 40, 0, 0), (38, .putfield 104, 8, 30, 661), (41, .aload_n 0, 0, 0, 0), (42, .iconst 0, 0, 0, 0), (43, .putfield 107, 8, 31, 662), (46, .aload_n 0, 0, 0, 0), (47, .iconst 0, 0, 0, 0), (48, .putfield 110, 8, 32, 663), (51, .aload_n 0, 0, 0, 0), (52, .bipush 24, 24, 0, 0), (54, .putfield 113, 8, 33, 664), (57, .aload_n 0, 0, 0, 0), (58, .iconst 0, 0, 0, 0), (59, .putfield 116, 8, 34, 665), (62, .aload_n 0, 0, 0, 0), (63, .iconst 0, 0, 0, 0), (64, .putfield 119, 8, 35, 666), (67, .aload_n 0, 0, 0, 0), (68, .iconst 1, 1, 0, 0), (69, .putfield 122, 8, 36, 667), (72, .aload_n 0, 0, 0, 0), (73, .iconst 0, 0, 0, 0), (74, .putfield 125, 8, 38, 669), (77, .aload_n 0, 0, 0, 0), (78, .iconst 0, 0, 0, 0), (79, .putfield 128, 8, 40, 671)], (82, .return_, 0, 0, 0))]
def mMd_begin : MR := (⟨"PageFormatterModel", "begin", "()V"⟩, prog_10_method_2_code, 1, (Option.none : Option Jvm.ClassFile.FieldType), 0, 0, bMd_begin, 630, 629, 21, 63, 0)
set_option maxRecDepth 100000 in
theorem okMd_begin : MOK mMd_begin := ⟨by decide +kernel, by decide +kernel⟩
def bMd_in : List BLK := [
  (0, [(0, .iload_n 0, 0, 0, 0), (1, .iload_n 1, 0, 0, 0)], (2, .if_icmp .lt 12, 14, 5, 0)),
  (5, [(5, .iload_n 0, 0, 0, 0), (6, .iload_n 2, 0, 0, 0)], (7, .if_icmp .gt 7, 14, 10, 0)),
  (10, [(10, .iconst 1, 1, 0, 0)], (11, .goto 4, 15, 14, 0)),
  (14, [(14, .iconst 0, 0, 0, 0)], (15, .nop, 0, 0, 0)),
  (15, [], (15, .ireturn, 0, 0, 0))]
def mMd_in : MR := (⟨"PageFormatterModel", "in", "(III)Z"⟩, prog_10_method_3_code, 3, (Option.some Jvm.ClassFile.FieldType.boolean), 0, 0, bMd_in, 782, 781, 0, 63, 3)
set_option maxRecDepth 100000 in
theorem okMd_in : MOK mMd_in := ⟨by decide +kernel, by decide +kernel⟩
def bMd_type : List BLK := [
  (0, [(0, .iload_n 3, 0, 0, 0), (1, .iconst 1, 1, 0, 0), (2, .bipush 8, 8, 0, 0)], (4, .invokestatic 131, 0, 7, 780)),
  (7, [], (7, .ifCond .ne 6, 13, 10, 0)),
  (10, [(10, .bipush (-2), 1, 1, 0)], (12, .ireturn, 0, 0, 0)),
  (13, [(13, .aload_n 0, 0, 0, 0), (14, .getfield 81, 8, 1, 632), (17, .iload_n 3, 0, 0, 0), (18, .iadd, 0, 0, 0), (19, .bipush 100, 100, 0, 0)], (21, .if_icmp .le 6, 27, 24, 0)),
  (24, [(24, .bipush (-3), 2, 1, 0)], (26, .ireturn, 0, 0, 0)),
  (27, [(27, .iconst 0, 0, 0, 0), (28, .istore 4, 0, 0, 0)], (30, .nop, 0, 0, 0)),
  (30, [(30, .iload 4, 0, 0, 0), (32, .iload_n 3, 0, 0, 0)], (33, .if_icmp .ge 56, 89, 36, 0)),
  (36, [(36, .lload_n 1, 0, 0, 0), (37, .bipush 8, 8, 0, 0), (39, .iload 4, 0, 0, 0), (41, .imul, 0, 0, 0), (42, .lshr, 0, 0, 0), (43, .ldc2_w 135, 255, 0, 783), (46, .land, 0, 0, 0), (47, .l2i, 0, 0, 0), (48, .istore 5, 0, 0, 0), (50, .iload 5, 0, 0, 0), (52, .bipush 32, 32, 0, 0), (54, .bipush 126, 126, 0, 0)], (56, .invokestatic 131, 0, 59, 780)),
  (59, [], (59, .ifCond .eq 24, 83, 62, 0)),
  (62, [(62, .aload_n 0, 0, 0, 0), (63, .getfield 7, 8, 0, 631), (66, .aload_n 0, 0, 0, 0), (67, .getfield 81, 8, 1, 632), (70, .iload 5, 0, 0, 0), (72, .iastore, 0, 0, 0), (73, .aload_n 0, 0, 0, 0), (74, .dup, 0, 0, 0), (75, .getfield 81, 8, 1, 632), (78, .iconst 1, 1, 0, 0), (79, .iadd, 0, 0, 0), (80, .putfield 81, 8, 1, 632)], (83, .nop, 0, 0, 0)),
  (83, [(83, .iinc 4 1, 1, 0, 0)], (86, .goto (-56), 30, 89, 0)),
  (89, [(89, .aload_n 0, 0, 0, 0), (90, .getfield 81, 8, 1, 632)], (93, .ireturn, 0, 0, 0))]
def mMd_type : MR := (⟨"PageFormatterModel", "type", "(JI)I"⟩, prog_10_method_4_code, 6, (Option.some Jvm.ClassFile.FieldType.int), 1, 22, bMd_type, 779, 777, 778, 63, 2)
set_option maxRecDepth 100000 in
theorem okMd_type : MOK mMd_type := ⟨by decide +kernel, by decide +kernel⟩
def bMd_give : List BLK := [
  (0, [(0, .aload_n 0, 0, 0, 0), (1, .getfield 137, 8, 24, 655), (4, .sipush 20000, 20000, 0, 0)], (7, .if_icmp .ge 23, 30, 10, 0)),
  (10, [(10, .aload_n 0, 0, 0, 0), (11, .getfield 69, 8, 23, 654), (14, .aload_n 0, 0, 0, 0), (15, .getfield 137, 8, 24, 655), (18, .iload_n 1, 0, 0, 0), (19, .iastore, 0, 0, 0), (20, .aload_n 0, 0, 0, 0), (21, .dup, 0, 0, 0), (22, .getfield 137, 8, 24, 655), (25, .iconst 1, 1, 0, 0), (26, .iadd, 0, 0, 0), (27, .putfield 137, 8, 24, 655)], (30, .nop, 0, 0, 0)),
  (30, [], (30, .return_, 0, 0, 0))]
def mMd_give : MR := (⟨"PageFormatterModel", "give", "(I)V"⟩, prog_10_method_5_code, 2, (Option.none : Option Jvm.ClassFile.FieldType), 0, 0, bMd_give, 876, 875, 41, 63, 1)
set_option maxRecDepth 100000 in
theorem okMd_give : MOK mMd_give := ⟨by decide +kernel, by decide +kernel⟩
def bMd_giveMany : List BLK := [
  (0, [(0, .iconst 0, 0, 0, 0), (1, .istore_n 3, 0, 0, 0)], (2, .nop, 0, 0, 0)),
  (2, [(2, .iload_n 3, 0, 0, 0), (3, .iload_n 2, 0, 0, 0)], (4, .if_icmp .ge 14, 18, 7, 0)),
  (7, [(7, .aload_n 0, 0, 0, 0), (8, .iload_n 1, 0, 0, 0)], (9, .invokevirtual 140, 0, 12, 873)),
  (12, [(12, .iinc 3 1, 1, 0, 0)], (15, .goto (-13), 2, 18, 0)),
  (18, [], (18, .return_, 0, 0, 0))]
def mMd_giveMany : MR := (⟨"PageFormatterModel", "giveMany", "(II)V"⟩, prog_10_method_6_code, 4, (Option.none : Option Jvm.ClassFile.FieldType), 1, 21, bMd_giveMany, 884, 883, 43, 63, 2)
set_option maxRecDepth 100000 in
theorem okMd_giveMany : MOK mMd_giveMany := ⟨by decide +kernel, by decide +kernel⟩
def bMd_giveNumber : List BLK := [
  (0, [(0, .iconst 1, 1, 0, 0), (1, .istore_n 2, 0, 0, 0)], (2, .nop, 0, 0, 0)),
  (2, [(2, .iload_n 1, 0, 0, 0), (3, .iload_n 2, 0, 0, 0), (4, .idiv, 0, 0, 0), (5, .bipush 9, 9, 0, 0)], (7, .if_icmp .le 11, 18, 10, 0)),
  (10, [(10, .bipush 10, 10, 0, 0), (12, .iload_n 2, 0, 0, 0), (13, .imul, 0, 0, 0), (14, .istore_n 2, 0, 0, 0)], (15, .goto (-13), 2, 18, 0)),
  (18, [(18, .iload_n 2, 0, 0, 0)], (19, .ifCond .le 24, 43, 22, 0)),
  (22, [(22, .aload_n 0, 0, 0, 0), (23, .bipush 48, 48, 0, 0), (25, .iload_n 1, 0, 0, 0), (26, .iload_n 2, 0, 0, 0), (27, .idiv, 0, 0, 0), (28, .bipush 10, 10, 0, 0), (30, .irem, 0, 0, 0), (31, .iadd, 0, 0, 0)], (32, .invokevirtual 140, 0, 35, 873)),
  (35, [(35, .iload_n 2, 0, 0, 0), (36, .bipush 10, 10, 0, 0), (38, .idiv, 0, 0, 0), (39, .istore_n 2, 0, 0, 0)], (40, .goto (-22), 18, 43, 0)),
  (43, [], (43, .return_, 0, 0, 0))]
def mMd_giveNumber : MR := (⟨"PageFormatterModel", "giveNumber", "(I)V"⟩, prog_10_method_7_code, 3, (Option.none : Option Jvm.ClassFile.FieldType), 1, 21, bMd_giveNumber, 880, 879, 42, 63, 1)
set_option maxRecDepth 100000 in
theorem okMd_giveNumber : MOK mMd_giveNumber := ⟨by decide +kernel, by decide +kernel⟩
def bMd_giveTitle : List BLK := [
  (0, [(0, .aload_n 0, 0, 0, 0), (1, .bipush 10, 10, 0, 0)], (3, .invokevirtual 140, 0, 6, 873)),
  (6, [(6, .iconst 0, 0, 0, 0), (7, .istore_n 3, 0, 0, 0)], (8, .nop, 0, 0, 0)),
  (8, [(8, .iload_n 3, 0, 0, 0), (9, .iload_n 2, 0, 0, 0)], (10, .if_icmp .ge 35, 45, 13, 0)),
  (13, [(13, .aload_n 1, 0, 0, 0), (14, .iload_n 3, 0, 0, 0), (15, .iaload, 0, 0, 0), (16, .bipush 35, 35, 0, 0)], (18, .if_icmp .ne 14, 32, 21, 0)),
  (21, [(21, .aload_n 0, 0, 0, 0), (22, .aload_n 0, 0, 0, 0), (23, .getfield 119, 8, 35, 666)], (26, .invokevirtual 144, 0, 29, 877)),
  (29, [], (29, .goto 10, 39, 32, 0)),
  (32, [(32, .aload_n 0, 0, 0, 0), (33, .aload_n 1, 0, 0, 0), (34, .iload_n 3, 0, 0, 0), (35, .iaload, 0, 0, 0)], (36, .invokevirtual 140, 0, 39, 873)),
  (39, [(39, .iinc 3 1, 1, 0, 0)], (42, .goto (-34), 8, 45, 0)),
  (45, [(45, .aload_n 0, 0, 0, 0), (46, .bipush 10, 10, 0, 0)], (48, .invokevirtual 140, 0, 51, 873)),
  (51, [(51, .aload_n 0, 0, 0, 0), (52, .bipush 10, 10, 0, 0)], (54, .invokevirtual 140, 0, 57, 873)),
  (57, [], (57, .return_, 0, 0, 0))]
def mMd_giveTitle : MR := (⟨"PageFormatterModel", "giveTitle", "([II)V"⟩, prog_10_method_8_code, 4, (Option.none : Option Jvm.ClassFile.FieldType), 2, 43, bMd_giveTitle, 872, 871, 40, 63, 2)
set_option maxRecDepth 100000 in
theorem okMd_giveTitle : MOK mMd_giveTitle := ⟨by decide +kernel, by decide +kernel⟩
def bMd_bottom : List BLK := [
  (0, [(0, .aload_n 0, 0, 0, 0), (1, .getfield 113, 8, 33, 664), (4, .iconst 3, 3, 0, 0), (5, .isub, 0, 0, 0)], (6, .ireturn, 0, 0, 0))]
def mMd_bottom : MR := (⟨"PageFormatterModel", "bottom", "()I"⟩, prog_10_method_9_code, 1, (Option.some Jvm.ClassFile.FieldType.int), 0, 0, bMd_bottom, 864, 863, 38, 63, 0)
set_option maxRecDepth 100000 in
theorem okMd_bottom : MOK mMd_bottom := ⟨by decide +kernel, by decide +kernel⟩
def bMd_giveHead : List BLK := [
  (0, [(0, .aload_n 0, 0, 0, 0), (1, .aload_n 0, 0, 0, 0), (2, .getfield 122, 8, 36, 667), (5, .putfield 119, 8, 35, 666), (8, .aload_n 0, 0, 0, 0), (9, .dup, 0, 0, 0), (10, .getfield 122, 8, 36, 667), (13, .iconst 1, 1, 0, 0), (14, .iadd, 0, 0, 0), (15, .putfield 122, 8, 36, 667), (18, .aload_n 0, 0, 0, 0), (19, .aload_n 0, 0, 0, 0), (20, .getfield 72, 8, 37, 668), (23, .aload_n 0, 0, 0, 0), (24, .getfield 125, 8, 38, 669)], (27, .invokevirtual 147, 0, 30, 869)),
  (30, [(30, .aload_n 0, 0, 0, 0), (31, .iconst 4, 4, 0, 0), (32, .putfield 116, 8, 34, 665)], (35, .return_, 0, 0, 0))]
def mMd_giveHead : MR := (⟨"PageFormatterModel", "giveHead", "()V"⟩, prog_10_method_10_code, 1, (Option.none : Option Jvm.ClassFile.FieldType), 3, 66, bMd_giveHead, 868, 867, 39, 63, 0)
set_option maxRecDepth 100000 in
theorem okMd_giveHead : MOK mMd_giveHead := ⟨by decide +kernel, by decide +kernel⟩
def bMd_giveFoot : List BLK := [
  (0, [(0, .aload_n 0, 0, 0, 0), (1, .aload_n 0, 0, 0, 0), (2, .getfield 75, 8, 39, 670), (5, .aload_n 0, 0, 0, 0), (6, .getfield 128, 8, 40, 671)], (9, .invokevirtual 147, 0, 12, 869)),
  (12, [], (12, .return_, 0, 0, 0))]
def mMd_giveFoot : MR := (⟨"PageFormatterModel", "giveFoot", "()V"⟩, prog_10_method_11_code, 1, (Option.none : Option Jvm.ClassFile.FieldType), 3, 66, bMd_giveFoot, 888, 887, 44, 63, 0)
set_option maxRecDepth 100000 in
theorem okMd_giveFoot : MOK mMd_giveFoot := ⟨by decide +kernel, by decide +kernel⟩
def bMd_put : List BLK := [
  (0, [(0, .aload_n 0, 0, 0, 0), (1, .dup, 0, 0, 0), (2, .getfield 151, 8, 42, 673), (5, .iconst 1, 1, 0, 0), (6, .iadd, 0, 0, 0), (7, .putfield 151, 8, 42, 673), (10, .aload_n 0, 0, 0, 0), (11, .getfield 116, 8, 34, 665)], (14, .ifCond .eq 14, 28, 17, 0)),
  (17, [(17, .aload_n 0, 0, 0, 0), (18, .getfield 116, 8, 34, 665), (21, .aload_n 0, 0, 0, 0)], (22, .invokevirtual 154, 0, 25, 861)),
  (25, [], (25, .if_icmp .le 7, 32, 28, 0)),
  (28, [(28, .aload_n 0, 0, 0, 0)], (29, .invokevirtual 158, 0, 32, 865)),
  (32, [(32, .aload_n 0, 0, 0, 0), (33, .bipush 32, 32, 0, 0), (35, .aload_n 0, 0, 0, 0), (36, .getfield 161, 8, 3, 634)], (39, .ifCond .le 10, 49, 42, 0)),
  (42, [(42, .aload_n 0, 0, 0, 0), (43, .getfield 101, 8, 29, 660)], (46, .goto 4, 50, 49, 0)),
  (49, [(49, .iconst 0, 0, 0, 0)], (50, .nop, 0, 0, 0)),
  (50, [], (50, .invokevirtual 164, 0, 53, 881)),
  (53, [(53, .iconst 0, 0, 0, 0), (54, .istore_n 1, 0, 0, 0)], (55, .nop, 0, 0, 0)),
  (55, [(55, .iload_n 1, 0, 0, 0), (56, .aload_n 0, 0, 0, 0), (57, .getfield 161, 8, 3, 634)], (60, .if_icmp .ge 47, 107, 63, 0)),
  (63, [(63, .aload_n 0, 0, 0, 0), (64, .getfield 13, 8, 2, 633), (67, .iload_n 1, 0, 0, 0), (68, .iaload, 0, 0, 0), (69, .sipush 256, 256, 0, 0)], (72, .if_icmp .lt 15, 87, 75, 0)),
  (75, [(75, .aload_n 0, 0, 0, 0), (76, .bipush 95, 95, 0, 0)], (78, .invokevirtual 140, 0, 81, 873)),
  (81, [(81, .aload_n 0, 0, 0, 0), (82, .bipush 8, 8, 0, 0)], (84, .invokevirtual 140, 0, 87, 873)),
  (87, [(87, .aload_n 0, 0, 0, 0), (88, .aload_n 0, 0, 0, 0), (89, .getfield 13, 8, 2, 633), (92, .iload_n 1, 0, 0, 0), (93, .iaload, 0, 0, 0), (94, .sipush 255, 255, 0, 0), (97, .iand, 0, 0, 0)], (98, .invokevirtual 140, 0, 101, 873)),
  (101, [(101, .iinc 1 1, 1, 0, 0)], (104, .goto (-49), 55, 107, 0)),
  (107, [(107, .aload_n 0, 0, 0, 0), (108, .bipush 10, 10, 0, 0)], (110, .invokevirtual 140, 0, 113, 873)),
  (113, [(113, .aload_n 0, 0, 0, 0), (114, .aload_n 0, 0, 0, 0), (115, .getfield 98, 8, 28, 659), (118, .putfield 101, 8, 29, 660), (121, .aload_n 0, 0, 0, 0)], (122, .invokevirtual 154, 0, 125, 861)),
  (125, [(125, .aload_n 0, 0, 0, 0), (126, .getfield 116, 8, 34, 665), (129, .isub, 0, 0, 0), (130, .istore_n 1, 0, 0, 0), (131, .iload_n 1, 0, 0, 0)], (132, .ifCond .ge 7, 139, 135, 0)),
  (135, [(135, .iconst 0, 0, 0, 0)], (136, .goto 4, 140, 139, 0)),
  (139, [(139, .iload_n 1, 0, 0, 0)], (140, .nop, 0, 0, 0)),
  (140, [(140, .istore_n 1, 0, 0, 0), (141, .aload_n 0, 0, 0, 0), (142, .bipush 10, 10, 0, 0), (144, .aload_n 0, 0, 0, 0), (145, .getfield 95, 8, 27, 658), (148, .iconst 1, 1, 0, 0), (149, .isub, 0, 0, 0), (150, .iload_n 1, 0, 0, 0)], (151, .if_icmp .ge 12, 163, 154, 0)),
  (154, [(154, .aload_n 0, 0, 0, 0), (155, .getfield 95, 8, 27, 658), (158, .iconst 1, 1, 0, 0), (159, .isub, 0, 0, 0)], (160, .goto 4, 164, 163, 0)),
  (163, [(163, .iload_n 1, 0, 0, 0)], (164, .nop, 0, 0, 0)),
  (164, [], (164, .invokevirtual 164, 0, 167, 881)),
  (167, [(167, .aload_n 0, 0, 0, 0), (168, .dup, 0, 0, 0), (169, .getfield 116, 8, 34, 665), (172, .aload_n 0, 0, 0, 0), (173, .getfield 95, 8, 27, 658), (176, .iadd, 0, 0, 0), (177, .putfield 116, 8, 34, 665), (180, .aload_n 0, 0, 0, 0), (181, .getfield 116, 8, 34, 665), (184, .aload_n 0, 0, 0, 0)], (185, .invokevirtual 154, 0, 188, 861)),
  (188, [], (188, .if_icmp .le 7, 195, 191, 0)),
  (191, [(191, .aload_n 0, 0, 0, 0)], (192, .invokevirtual 168, 0, 195, 885)),
  (195, [], (195, .return_, 0, 0, 0))]
def mMd_put : MR := (⟨"PageFormatterModel", "put", "()V"⟩, prog_10_method_12_code, 2, (Option.none : Option Jvm.ClassFile.FieldType), 4, 86, bMd_put, 860, 859, 37, 63, 0)
set_option maxRecDepth 100000 in
theorem okMd_put : MOK mMd_put := ⟨by decide +kernel, by decide +kernel⟩
def bMd_space : List BLK := [
  (0, [(0, .aload_n 0, 0, 0, 0)], (1, .invokevirtual 171, 0, 4, 796)),
  (4, [(4, .aload_n 0, 0, 0, 0), (5, .getfield 116, 8, 34, 665), (8, .aload_n 0, 0, 0, 0)], (9, .invokevirtual 154, 0, 12, 861)),
  (12, [], (12, .if_icmp .le 4, 16, 15, 0)),
  (15, [], (15, .return_, 0, 0, 0)),
  (16, [(16, .aload_n 0, 0, 0, 0), (17, .getfield 116, 8, 34, 665)], (20, .ifCond .ne 7, 27, 23, 0)),
  (23, [(23, .aload_n 0, 0, 0, 0)], (24, .invokevirtual 158, 0, 27, 865)),
  (27, [(27, .aload_n 0, 0, 0, 0)], (28, .invokevirtual 154, 0, 31, 861)),
  (31, [(31, .iconst 1, 1, 0, 0), (32, .iadd, 0, 0, 0), (33, .aload_n 0, 0, 0, 0), (34, .getfield 116, 8, 34, 665), (37, .isub, 0, 0, 0), (38, .istore_n 2, 0, 0, 0), (39, .aload_n 0, 0, 0, 0), (40, .bipush 10, 10, 0, 0), (42, .iload_n 1, 0, 0, 0), (43, .iload_n 2, 0, 0, 0)], (44, .if_icmp .ge 7, 51, 47, 0)),
  (47, [(47, .iload_n 1, 0, 0, 0)], (48, .goto 4, 52, 51, 0)),
  (51, [(51, .iload_n 2, 0, 0, 0)], (52, .nop, 0, 0, 0)),
  (52, [], (52, .invokevirtual 164, 0, 55, 881)),
  (55, [(55, .aload_n 0, 0, 0, 0), (56, .dup, 0, 0, 0), (57, .getfield 116, 8, 34, 665), (60, .iload_n 1, 0, 0, 0), (61, .iadd, 0, 0, 0), (62, .putfield 116, 8, 34, 665), (65, .aload_n 0, 0, 0, 0), (66, .getfield 116, 8, 34, 665), (69, .aload_n 0, 0, 0, 0)], (70, .invokevirtual 154, 0, 73, 861)),
  (73, [], (73, .if_icmp .le 7, 80, 76, 0)),
  (76, [(76, .aload_n 0, 0, 0, 0)], (77, .invokevirtual 168, 0, 80, 885)),
  (80, [], (80, .return_, 0, 0, 0))]
def mMd_space : MR := (⟨"PageFormatterModel", "space", "(I)V"⟩, prog_10_method_13_code, 3, (Option.none : Option Jvm.ClassFile.FieldType), 7, 176, bMd_space, 900, 899, 47, 63, 1)
set_option maxRecDepth 100000 in
theorem okMd_space : MOK mMd_space := ⟨by decide +kernel, by decide +kernel⟩
def bMd_layPlaces : List BLK := [
  (0, [(0, .aload_n 0, 0, 0, 0), (1, .iconst 0, 0, 0, 0), (2, .putfield 174, 8, 11, 642), (5, .aload_n 0, 0, 0, 0), (6, .getfield 22, 8, 7, 638), (9, .iconst 0, 0, 0, 0), (10, .iconst 0, 0, 0, 0), (11, .iastore, 0, 0, 0), (12, .aload_n 0, 0, 0, 0), (13, .getfield 25, 8, 8, 639), (16, .iconst 0, 0, 0, 0), (17, .iconst 0, 0, 0, 0), (18, .iastore, 0, 0, 0), (19, .aload_n 0, 0, 0, 0), (20, .getfield 32, 8, 10, 641), (23, .iconst 0, 0, 0, 0), (24, .iconst 0, 0, 0, 0), (25, .iastore, 0, 0, 0), (26, .aload_n 0, 0, 0, 0), (27, .getfield 28, 8, 9, 640), (30, .iconst 0, 0, 0, 0), (31, .iconst 0, 0, 0, 0), (32, .bastore, 0, 0, 0), (33, .iconst 0, 0, 0, 0), (34, .istore_n 1, 0, 0, 0), (35, .iconst 0, 0, 0, 0), (36, .istore_n 2, 0, 0, 0), (37, .iconst 0, 0, 0, 0), (38, .istore_n 3, 0, 0, 0)], (39, .nop, 0, 0, 0)),
  (39, [(39, .iload_n 3, 0, 0, 0), (40, .aload_n 0, 0, 0, 0), (41, .getfield 85, 8, 6, 637)], (44, .if_icmp .ge 213, 257, 47, 0)),
  (47, [(47, .aload_n 0, 0, 0, 0), (48, .iload_n 1, 0, 0, 0), (49, .aload_n 0, 0, 0, 0), (50, .getfield 19, 8, 5, 636), (53, .iload_n 3, 0, 0, 0), (54, .iaload, 0, 0, 0)], (55, .invokevirtual 177, 0, 58, 804)),
  (58, [(58, .istore 4, 0, 0, 0), (60, .iconst 0, 0, 0, 0), (61, .istore 5, 0, 0, 0), (63, .iconst 0, 0, 0, 0), (64, .istore 6, 0, 0, 0), (66, .iload_n 1, 0, 0, 0), (67, .istore 7, 0, 0, 0)], (69, .nop, 0, 0, 0)),
  (69, [(69, .iload 7, 0, 0, 0), (71, .aload_n 0, 0, 0, 0), (72, .getfield 19, 8, 5, 636), (75, .iload_n 3, 0, 0, 0), (76, .iaload, 0, 0, 0)], (77, .if_icmp .ge 105, 182, 80, 0)),
  (80, [(80, .aload_n 0, 0, 0, 0), (81, .getfield 16, 8, 4, 635), (84, .iload 7, 0, 0, 0), (86, .iaload, 0, 0, 0), (87, .sipush 255, 255, 0, 0), (90, .iand, 0, 0, 0), (91, .bipush 94, 94, 0, 0)], (93, .if_icmp .eq 9, 102, 96, 0)),
  (96, [(96, .iinc 5 1, 1, 0, 0)], (99, .goto 77, 176, 102, 0)),
  (102, [(102, .iload 5, 0, 0, 0), (104, .iload 6, 0, 0, 0)], (106, .if_icmp .le 70, 176, 109, 0)),
  (109, [(109, .iload 5, 0, 0, 0), (111, .iload 4, 0, 0, 0)], (113, .if_icmp .ge 63, 176, 116, 0)),
  (116, [(116, .iload 5, 0, 0, 0), (118, .istore 6, 0, 0, 0), (120, .aload_n 0, 0, 0, 0), (121, .dup, 0, 0, 0), (122, .getfield 174, 8, 11, 642), (125, .iconst 1, 1, 0, 0), (126, .iadd, 0, 0, 0), (127, .putfield 174, 8, 11, 642), (130, .aload_n 0, 0, 0, 0), (131, .getfield 22, 8, 7, 638), (134, .aload_n 0, 0, 0, 0), (135, .getfield 174, 8, 11, 642), (138, .iload_n 2, 0, 0, 0), (139, .iload 5, 0, 0, 0), (141, .iadd, 0, 0, 0), (142, .iastore, 0, 0, 0), (143, .aload_n 0, 0, 0, 0), (144, .getfield 25, 8, 8, 639), (147, .aload_n 0, 0, 0, 0), (148, .getfield 174, 8, 11, 642), (151, .iload_n 3, 0, 0, 0), (152, .iastore, 0, 0, 0), (153, .aload_n 0, 0, 0, 0), (154, .getfield 32, 8, 10, 641), (157, .aload_n 0, 0, 0, 0), (158, .getfield 174, 8, 11, 642), (161, .iload 7, 0, 0, 0), (163, .iconst 1, 1, 0, 0), (164, .iadd, 0, 0, 0), (165, .iastore, 0, 0, 0), (166, .aload_n 0, 0, 0, 0), (167, .getfield 28, 8, 9, 640), (170, .aload_n 0, 0, 0, 0), (171, .getfield 174, 8, 11, 642), (174, .iconst 1, 1, 0, 0), (175, .bastore, 0, 0, 0)], (176, .nop, 0, 0, 0)),
  (176, [(176, .iinc 7 1, 1, 0, 0)], (179, .goto (-110), 69, 182, 0)),
  (182, [(182, .iload_n 2, 0, 0, 0), (183, .iload 4, 0, 0, 0), (185, .iadd, 0, 0, 0), (186, .istore_n 2, 0, 0, 0), (187, .aload_n 0, 0, 0, 0), (188, .dup, 0, 0, 0), (189, .getfield 174, 8, 11, 642), (192, .iconst 1, 1, 0, 0), (193, .iadd, 0, 0, 0), (194, .putfield 174, 8, 11, 642), (197, .aload_n 0, 0, 0, 0), (198, .getfield 22, 8, 7, 638), (201, .aload_n 0, 0, 0, 0), (202, .getfield 174, 8, 11, 642), (205, .iload_n 2, 0, 0, 0), (206, .iastore, 0, 0, 0), (207, .aload_n 0, 0, 0, 0), (208, .getfield 25, 8, 8, 639), (211, .aload_n 0, 0, 0, 0), (212, .getfield 174, 8, 11, 642), (215, .iload_n 3, 0, 0, 0), (216, .iconst 1, 1, 0, 0), (217, .iadd, 0, 0, 0), (218, .iastore, 0, 0, 0), (219, .aload_n 0, 0, 0, 0), (220, .getfield 32, 8, 10, 641), (223, .aload_n 0, 0, 0, 0), (224, .getfield 174, 8, 11, 642), (227, .aload_n 0, 0, 0, 0), (228, .getfield 19, 8, 5, 636), (231, .iload_n 3, 0, 0, 0), (232, .iaload, 0, 0, 0), (233, .iastore, 0, 0, 0), (234, .aload_n 0, 0, 0, 0), (235, .getfield 28, 8, 9, 640), (238, .aload_n 0, 0, 0, 0), (239, .getfield 174, 8, 11, 642), (242, .iconst 0, 0, 0, 0), (243, .bastore, 0, 0, 0), (244, .aload_n 0, 0, 0, 0), (245, .getfield 19, 8, 5, 636), (248, .iload_n 3, 0, 0, 0), (249, .iaload, 0, 0, 0), (250, .istore_n 1, 0, 0, 0), (251, .iinc 3 1, 1, 0, 0)], (254, .goto (-215), 39, 257, 0)),
  (257, [], (257, .return_, 0, 0, 0))]
def mMd_layPlaces : MR := (⟨"PageFormatterModel", "layPlaces", "()V"⟩, prog_10_method_14_code, 8, (Option.none : Option Jvm.ClassFile.FieldType), 1, 24, bMd_layPlaces, 803, 802, 25, 63, 0)
set_option maxRecDepth 100000 in
theorem okMd_layPlaces : MOK mMd_layPlaces := ⟨by decide +kernel, by decide +kernel⟩
def bMd_bytesIn : List BLK := [
  (0, [(0, .iconst 0, 0, 0, 0), (1, .istore_n 3, 0, 0, 0), (2, .iload_n 1, 0, 0, 0), (3, .istore 4, 0, 0, 0)], (5, .nop, 0, 0, 0)),
  (5, [(5, .iload 4, 0, 0, 0), (7, .iload_n 2, 0, 0, 0)], (8, .if_icmp .ge 33, 41, 11, 0)),
  (11, [(11, .aload_n 0, 0, 0, 0), (12, .getfield 16, 8, 4, 635), (15, .iload 4, 0, 0, 0), (17, .iaload, 0, 0, 0), (18, .sipush 255, 255, 0, 0), (21, .iand, 0, 0, 0), (22, .bipush 94, 94, 0, 0)], (24, .if_icmp .ne 7, 31, 27, 0)),
  (27, [(27, .iload_n 3, 0, 0, 0)], (28, .goto 6, 34, 31, 0)),
  (31, [(31, .iload_n 3, 0, 0, 0), (32, .iconst 1, 1, 0, 0), (33, .iadd, 0, 0, 0)], (34, .nop, 0, 0, 0)),
  (34, [(34, .istore_n 3, 0, 0, 0), (35, .iinc 4 1, 1, 0, 0)], (38, .goto (-33), 5, 41, 0)),
  (41, [(41, .iload_n 3, 0, 0, 0)], (42, .ireturn, 0, 0, 0))]
def mMd_bytesIn : MR := (⟨"PageFormatterModel", "bytesIn", "(II)I"⟩, prog_10_method_15_code, 5, (Option.some Jvm.ClassFile.FieldType.int), 0, 0, bMd_bytesIn, 807, 806, 26, 63, 2)
set_option maxRecDepth 100000 in
theorem okMd_bytesIn : MOK mMd_bytesIn := ⟨by decide +kernel, by decide +kernel⟩
def bMd_blanksOf : List BLK := [
  (0, [(0, .aload_n 0, 0, 0, 0), (1, .getfield 28, 8, 9, 640), (4, .iload_n 2, 0, 0, 0), (5, .baload, 0, 0, 0)], (6, .ifCond .eq 12, 18, 9, 0)),
  (9, [(9, .aload_n 0, 0, 0, 0), (10, .getfield 25, 8, 8, 639), (13, .iload_n 2, 0, 0, 0), (14, .iaload, 0, 0, 0)], (15, .goto 11, 26, 18, 0)),
  (18, [(18, .aload_n 0, 0, 0, 0), (19, .getfield 25, 8, 8, 639), (22, .iload_n 2, 0, 0, 0), (23, .iaload, 0, 0, 0), (24, .iconst 1, 1, 0, 0), (25, .isub, 0, 0, 0)], (26, .nop, 0, 0, 0)),
  (26, [(26, .aload_n 0, 0, 0, 0), (27, .getfield 25, 8, 8, 639), (30, .iload_n 1, 0, 0, 0), (31, .iaload, 0, 0, 0), (32, .isub, 0, 0, 0)], (33, .ireturn, 0, 0, 0))]
def mMd_blanksOf : MR := (⟨"PageFormatterModel", "blanksOf", "(II)I"⟩, prog_10_method_16_code, 3, (Option.some Jvm.ClassFile.FieldType.int), 0, 0, bMd_blanksOf, 820, 819, 29, 63, 2)
set_option maxRecDepth 100000 in
theorem okMd_blanksOf : MOK mMd_blanksOf := ⟨by decide +kernel, by decide +kernel⟩
end
section
def bMd_lengthOf : List BLK := [
  (0, [(0, .aload_n 0, 0, 0, 0), (1, .getfield 22, 8, 7, 638), (4, .iload_n 2, 0, 0, 0), (5, .iaload, 0, 0, 0), (6, .aload_n 0, 0, 0, 0), (7, .getfield 22, 8, 7, 638), (10, .iload_n 1, 0, 0, 0), (11, .iaload, 0, 0, 0), (12, .isub, 0, 0, 0), (13, .aload_n 0, 0, 0, 0), (14, .iload_n 1, 0, 0, 0), (15, .iload_n 2, 0, 0, 0)], (16, .invokevirtual 181, 0, 19, 817)),
  (19, [(19, .iadd, 0, 0, 0), (20, .aload_n 0, 0, 0, 0), (21, .getfield 28, 8, 9, 640), (24, .iload_n 2, 0, 0, 0), (25, .baload, 0, 0, 0)], (26, .ifCond .eq 7, 33, 29, 0)),
  (29, [(29, .iconst 1, 1, 0, 0)], (30, .goto 4, 34, 33, 0)),
  (33, [(33, .iconst 0, 0, 0, 0)], (34, .nop, 0, 0, 0)),
  (34, [(34, .iadd, 0, 0, 0)], (35, .ireturn, 0, 0, 0))]
def mMd_lengthOf : MR := (⟨"PageFormatterModel", "lengthOf", "(II)I"⟩, prog_10_method_17_code, 3, (Option.some Jvm.ClassFile.FieldType.int), 1, 22, bMd_lengthOf, 816, 815, 28, 63, 2)
set_option maxRecDepth 100000 in
theorem okMd_lengthOf : MOK mMd_lengthOf := ⟨by decide +kernel, by decide +kernel⟩
def bMd_roomOf : List BLK := [
  (0, [(0, .aload_n 0, 0, 0, 0), (1, .getfield 104, 8, 30, 661), (4, .iload_n 1, 0, 0, 0)], (5, .ifCond .ne 10, 15, 8, 0)),
  (8, [(8, .aload_n 0, 0, 0, 0), (9, .getfield 184, 8, 43, 674)], (12, .goto 7, 19, 15, 0)),
  (15, [(15, .aload_n 0, 0, 0, 0), (16, .getfield 98, 8, 28, 659)], (19, .nop, 0, 0, 0)),
  (19, [(19, .isub, 0, 0, 0)], (20, .ireturn, 0, 0, 0))]
def mMd_roomOf : MR := (⟨"PageFormatterModel", "roomOf", "(I)I"⟩, prog_10_method_18_code, 2, (Option.some Jvm.ClassFile.FieldType.int), 0, 0, bMd_roomOf, 824, 823, 30, 63, 1)
set_option maxRecDepth 100000 in
theorem okMd_roomOf : MOK mMd_roomOf := ⟨by decide +kernel, by decide +kernel⟩
def bMd_slackOf : List BLK := [
  (0, [(0, .aload_n 0, 0, 0, 0), (1, .iload_n 1, 0, 0, 0)], (2, .invokevirtual 187, 0, 5, 821)),
  (5, [(5, .aload_n 0, 0, 0, 0), (6, .iload_n 1, 0, 0, 0), (7, .iload_n 2, 0, 0, 0)], (8, .invokevirtual 191, 0, 11, 813)),
  (11, [(11, .isub, 0, 0, 0), (12, .istore_n 3, 0, 0, 0), (13, .iload_n 3, 0, 0, 0)], (14, .ifCond .ge 7, 21, 17, 0)),
  (17, [(17, .iconst 0, 0, 0, 0)], (18, .goto 4, 22, 21, 0)),
  (21, [(21, .iload_n 3, 0, 0, 0)], (22, .nop, 0, 0, 0)),
  (22, [], (22, .ireturn, 0, 0, 0))]
def mMd_slackOf : MR := (⟨"PageFormatterModel", "slackOf", "(II)I"⟩, prog_10_method_19_code, 4, (Option.some Jvm.ClassFile.FieldType.int), 2, 44, bMd_slackOf, 832, 831, 32, 63, 2)
set_option maxRecDepth 100000 in
theorem okMd_slackOf : MOK mMd_slackOf := ⟨by decide +kernel, by decide +kernel⟩
def bMd_badnessOf : List BLK := [
  (0, [(0, .aload_n 0, 0, 0, 0), (1, .iload_n 1, 0, 0, 0), (2, .iload_n 2, 0, 0, 0)], (3, .invokevirtual 191, 0, 6, 813)),
  (6, [(6, .aload_n 0, 0, 0, 0), (7, .iload_n 1, 0, 0, 0)], (8, .invokevirtual 187, 0, 11, 821)),
  (11, [], (11, .if_icmp .le 7, 18, 14, 0)),
  (14, [(14, .sipush 10000, 10000, 0, 0)], (17, .ireturn, 0, 0, 0)),
  (18, [(18, .aload_n 0, 0, 0, 0), (19, .iload_n 1, 0, 0, 0), (20, .iload_n 2, 0, 0, 0)], (21, .invokevirtual 194, 0, 24, 829)),
  (24, [(24, .i2l, 0, 0, 0), (25, .lstore_n 3, 0, 0, 0), (26, .aload_n 0, 0, 0, 0), (27, .iload_n 1, 0, 0, 0), (28, .iload_n 2, 0, 0, 0)], (29, .invokevirtual 181, 0, 32, 817)),
  (32, [(32, .i2l, 0, 0, 0), (33, .lstore 5, 0, 0, 0), (35, .iload_n 2, 0, 0, 0), (36, .aload_n 0, 0, 0, 0), (37, .getfield 174, 8, 11, 642)], (40, .if_icmp .eq 9, 49, 43, 0)),
  (43, [(43, .lload_n 3, 0, 0, 0), (44, .lconst 0, 0, 0, 0), (45, .lcmp, 0, 0, 0)], (46, .ifCond .ne 5, 51, 49, 0)),
  (49, [(49, .iconst 0, 0, 0, 0)], (50, .ireturn, 0, 0, 0)),
  (51, [(51, .lload 5, 0, 0, 0), (53, .lconst 0, 0, 0, 0), (54, .lcmp, 0, 0, 0)], (55, .ifCond .eq 14, 69, 58, 0)),
  (58, [(58, .lload_n 3, 0, 0, 0), (59, .ldc2_w 197, 20, 0, 833), (62, .lload 5, 0, 0, 0), (64, .lmul, 0, 0, 0), (65, .lcmp, 0, 0, 0)], (66, .ifCond .le 7, 73, 69, 0)),
  (69, [(69, .sipush 10000, 10000, 0, 0)], (72, .ireturn, 0, 0, 0)),
  (73, [(73, .ldc2_w 199, 100, 0, 834), (76, .lload_n 3, 0, 0, 0), (77, .lmul, 0, 0, 0), (78, .lload_n 3, 0, 0, 0), (79, .lmul, 0, 0, 0), (80, .lload_n 3, 0, 0, 0), (81, .lmul, 0, 0, 0), (82, .lload 5, 0, 0, 0), (84, .lload 5, 0, 0, 0), (86, .lmul, 0, 0, 0), (87, .lload 5, 0, 0, 0), (89, .lmul, 0, 0, 0), (90, .ldiv, 0, 0, 0), (91, .lstore 7, 0, 0, 0), (93, .lload 7, 0, 0, 0), (95, .ldc2_w 201, 10000, 0, 835), (98, .lcmp, 0, 0, 0)], (99, .ifCond .le 9, 108, 102, 0)),
  (102, [(102, .sipush 10000, 10000, 0, 0)], (105, .goto 6, 111, 108, 0)),
  (108, [(108, .lload 7, 0, 0, 0), (110, .l2i, 0, 0, 0)], (111, .nop, 0, 0, 0)),
  (111, [], (111, .ireturn, 0, 0, 0))]
def mMd_badnessOf : MR := (⟨"PageFormatterModel", "badnessOf", "(II)I"⟩, prog_10_method_20_code, 9, (Option.some Jvm.ClassFile.FieldType.int), 3, 67, bMd_badnessOf, 828, 827, 31, 63, 2)
set_option maxRecDepth 100000 in
theorem okMd_badnessOf : MOK mMd_badnessOf := ⟨by decide +kernel, by decide +kernel⟩
def bMd_kindOf : List BLK := [
  (0, [(0, .iload_n 0, 0, 0, 0), (1, .bipush 13, 13, 0, 0)], (3, .if_icmp .ge 7, 10, 6, 0)),
  (6, [(6, .iconst 0, 0, 0, 0)], (7, .goto 14, 21, 10, 0)),
  (10, [(10, .iload_n 0, 0, 0, 0), (11, .bipush 100, 100, 0, 0)], (13, .if_icmp .ge 7, 20, 16, 0)),
  (16, [(16, .iconst 1, 1, 0, 0)], (17, .goto 4, 21, 20, 0)),
  (20, [(20, .iconst 2, 2, 0, 0)], (21, .nop, 0, 0, 0)),
  (21, [], (21, .ireturn, 0, 0, 0))]
def mMd_kindOf : MR := (⟨"PageFormatterModel", "kindOf", "(I)I"⟩, prog_10_method_21_code, 1, (Option.some Jvm.ClassFile.FieldType.int), 0, 0, bMd_kindOf, 838, 837, 0, 63, 1)
set_option maxRecDepth 100000 in
theorem okMd_kindOf : MOK mMd_kindOf := ⟨by decide +kernel, by decide +kernel⟩
def bMd_demeritsOf : List BLK := [
  (0, [(0, .lconst 1, 0, 0, 0), (1, .aload_n 0, 0, 0, 0), (2, .iload_n 1, 0, 0, 0), (3, .iload_n 2, 0, 0, 0)], (4, .invokevirtual 203, 0, 7, 825)),
  (7, [(7, .i2l, 0, 0, 0), (8, .ladd, 0, 0, 0), (9, .lstore 4, 0, 0, 0), (11, .lload 4, 0, 0, 0), (13, .lload 4, 0, 0, 0), (15, .lmul, 0, 0, 0), (16, .lstore 6, 0, 0, 0), (18, .aload_n 0, 0, 0, 0), (19, .getfield 28, 8, 9, 640), (22, .iload_n 2, 0, 0, 0), (23, .baload, 0, 0, 0)], (24, .ifCond .eq 36, 60, 27, 0)),
  (27, [(27, .lload 6, 0, 0, 0), (29, .ldc2_w 206, 3000, 0, 843), (32, .ladd, 0, 0, 0), (33, .lstore 6, 0, 0, 0), (35, .lload 6, 0, 0, 0), (37, .iload_n 1, 0, 0, 0)], (38, .ifCond .le 18, 56, 41, 0)),
  (41, [(41, .aload_n 0, 0, 0, 0), (42, .getfield 28, 8, 9, 640), (45, .iload_n 1, 0, 0, 0), (46, .baload, 0, 0, 0)], (47, .ifCond .eq 9, 56, 50, 0)),
  (50, [(50, .ldc2_w 201, 10000, 0, 835)], (53, .goto 4, 57, 56, 0)),
  (56, [(56, .lconst 0, 0, 0, 0)], (57, .nop, 0, 0, 0)),
  (57, [(57, .ladd, 0, 0, 0), (58, .lstore 6, 0, 0, 0)], (60, .nop, 0, 0, 0)),
  (60, [(60, .lload 4, 0, 0, 0), (62, .l2i, 0, 0, 0), (63, .iconst 1, 1, 0, 0), (64, .isub, 0, 0, 0)], (65, .invokestatic 208, 0, 68, 836)),
  (68, [(68, .istore 8, 0, 0, 0), (70, .iload 8, 0, 0, 0), (72, .iconst 2, 2, 0, 0)], (73, .if_icmp .ne 7, 80, 76, 0)),
  (76, [(76, .iload_n 3, 0, 0, 0)], (77, .ifCond .eq 13, 90, 80, 0)),
  (80, [(80, .iload 8, 0, 0, 0)], (82, .ifCond .ne 12, 94, 85, 0)),
  (85, [(85, .iload_n 3, 0, 0, 0), (86, .iconst 2, 2, 0, 0)], (87, .if_icmp .ne 7, 94, 90, 0)),
  (90, [(90, .iconst 1, 1, 0, 0)], (91, .goto 4, 95, 94, 0)),
  (94, [(94, .iconst 0, 0, 0, 0)], (95, .nop, 0, 0, 0)),
  (95, [(95, .istore 9, 0, 0, 0), (97, .iload 9, 0, 0, 0)], (99, .ifCond .eq 12, 111, 102, 0)),
  (102, [(102, .lload 6, 0, 0, 0), (104, .ldc2_w 211, 5000, 0, 844), (107, .ladd, 0, 0, 0)], (108, .goto 5, 113, 111, 0)),
  (111, [(111, .lload 6, 0, 0, 0)], (113, .nop, 0, 0, 0)),
  (113, [], (113, .lreturn, 0, 0, 0))]
def mMd_demeritsOf : MR := (⟨"PageFormatterModel", "demeritsOf", "(III)J"⟩, prog_10_method_22_code, 10, (Option.some Jvm.ClassFile.FieldType.long), 4, 95, bMd_demeritsOf, 842, 841, 33, 63, 3)
set_option maxRecDepth 100000 in
theorem okMd_demeritsOf : MOK mMd_demeritsOf := ⟨by decide +kernel, by decide +kernel⟩
def bMd_findBest : List BLK := [
  (0, [(0, .iconst 4, 4, 0, 0), (1, .iload_n 1, 0, 0, 0), (2, .imul, 0, 0, 0), (3, .iload_n 2, 0, 0, 0), (4, .iadd, 0, 0, 0), (5, .istore_n 3, 0, 0, 0), (6, .aload_n 0, 0, 0, 0), (7, .getfield 35, 8, 12, 643), (10, .iload_n 3, 0, 0, 0), (11, .iload_n 1, 0, 0, 0), (12, .aload_n 0, 0, 0, 0), (13, .getfield 174, 8, 11, 642)], (16, .if_icmp .ne 7, 23, 19, 0)),
  (19, [(19, .lconst 0, 0, 0, 0)], (20, .goto 6, 26, 23, 0)),
  (23, [(23, .ldc2_w 213, 4000000000000000000, 0, 812)], (26, .nop, 0, 0, 0)),
  (26, [(26, .lastore, 0, 0, 0), (27, .aload_n 0, 0, 0, 0), (28, .getfield 39, 8, 13, 644), (31, .iload_n 3, 0, 0, 0), (32, .iconst 0, 0, 0, 0), (33, .iastore, 0, 0, 0), (34, .iload_n 1, 0, 0, 0), (35, .aload_n 0, 0, 0, 0), (36, .getfield 174, 8, 11, 642)], (39, .if_icmp .ge 7, 46, 42, 0)),
  (42, [(42, .iconst 1, 1, 0, 0)], (43, .goto 4, 47, 46, 0)),
  (46, [(46, .iconst 0, 0, 0, 0)], (47, .nop, 0, 0, 0)),
  (47, [(47, .istore 4, 0, 0, 0), (49, .iload_n 1, 0, 0, 0), (50, .iconst 1, 1, 0, 0), (51, .iadd, 0, 0, 0), (52, .istore 5, 0, 0, 0)], (54, .nop, 0, 0, 0)),
  (54, [(54, .iload 5, 0, 0, 0), (56, .aload_n 0, 0, 0, 0), (57, .getfield 174, 8, 11, 642)], (60, .if_icmp .gt 154, 214, 63, 0)),
  (63, [(63, .iload 4, 0, 0, 0)], (65, .ifCond .eq 149, 214, 68, 0)),
  (68, [(68, .iload 5, 0, 0, 0), (70, .iload_n 1, 0, 0, 0), (71, .iconst 1, 1, 0, 0), (72, .iadd, 0, 0, 0)], (73, .if_icmp .eq 18, 91, 76, 0)),
  (76, [(76, .aload_n 0, 0, 0, 0), (77, .iload_n 1, 0, 0, 0), (78, .iload 5, 0, 0, 0)], (80, .invokevirtual 191, 0, 83, 813)),
  (83, [(83, .aload_n 0, 0, 0, 0), (84, .iload_n 1, 0, 0, 0)], (85, .invokevirtual 187, 0, 88, 821)),
  (88, [], (88, .if_icmp .gt 7, 95, 91, 0)),
  (91, [(91, .iconst 1, 1, 0, 0)], (92, .goto 4, 96, 95, 0)),
  (95, [(95, .iconst 0, 0, 0, 0)], (96, .nop, 0, 0, 0)),
  (96, [(96, .istore 4, 0, 0, 0), (98, .iload 4, 0, 0, 0)], (100, .ifCond .eq 108, 208, 103, 0)),
  (103, [(103, .iconst 4, 4, 0, 0), (104, .iload 5, 0, 0, 0), (106, .imul, 0, 0, 0), (107, .aload_n 0, 0, 0, 0), (108, .iload_n 1, 0, 0, 0), (109, .iload 5, 0, 0, 0)], (111, .invokevirtual 203, 0, 114, 825)),
  (114, [], (114, .invokestatic 208, 0, 117, 836)),
  (117, [(117, .iadd, 0, 0, 0), (118, .istore 6, 0, 0, 0), (120, .aload_n 0, 0, 0, 0), (121, .iload_n 1, 0, 0, 0), (122, .iload 5, 0, 0, 0), (124, .iload_n 2, 0, 0, 0)], (125, .invokevirtual 215, 0, 128, 839)),
  (128, [(128, .aload_n 0, 0, 0, 0), (129, .getfield 35, 8, 12, 643), (132, .iload 6, 0, 0, 0), (134, .laload, 0, 0, 0), (135, .ladd, 0, 0, 0), (136, .lstore 7, 0, 0, 0), (138, .aload_n 0, 0, 0, 0), (139, .getfield 39, 8, 13, 644), (142, .iload 6, 0, 0, 0), (144, .iaload, 0, 0, 0), (145, .iconst 1, 1, 0, 0), (146, .iadd, 0, 0, 0), (147, .istore 9, 0, 0, 0), (149, .lload 7, 0, 0, 0), (151, .aload_n 0, 0, 0, 0), (152, .getfield 35, 8, 12, 643), (155, .iload_n 3, 0, 0, 0), (156, .laload, 0, 0, 0), (157, .lcmp, 0, 0, 0)], (158, .ifCond .lt 26, 184, 161, 0)),
  (161, [(161, .lload 7, 0, 0, 0), (163, .aload_n 0, 0, 0, 0), (164, .getfield 35, 8, 12, 643), (167, .iload_n 3, 0, 0, 0), (168, .laload, 0, 0, 0), (169, .lcmp, 0, 0, 0)], (170, .ifCond .ne 38, 208, 173, 0)),
  (173, [(173, .iload 9, 0, 0, 0), (175, .aload_n 0, 0, 0, 0), (176, .getfield 39, 8, 13, 644), (179, .iload_n 3, 0, 0, 0), (180, .iaload, 0, 0, 0)], (181, .if_icmp .ge 27, 208, 184, 0)),
  (184, [(184, .aload_n 0, 0, 0, 0), (185, .getfield 35, 8, 12, 643), (188, .iload_n 3, 0, 0, 0), (189, .lload 7, 0, 0, 0), (191, .lastore, 0, 0, 0), (192, .aload_n 0, 0, 0, 0), (193, .getfield 39, 8, 13, 644), (196, .iload_n 3, 0, 0, 0), (197, .iload 9, 0, 0, 0), (199, .iastore, 0, 0, 0), (200, .aload_n 0, 0, 0, 0), (201, .getfield 42, 8, 14, 645), (204, .iload_n 3, 0, 0, 0), (205, .iload 5, 0, 0, 0), (207, .iastore, 0, 0, 0)], (208, .nop, 0, 0, 0)),
  (208, [(208, .iinc 5 1, 1, 0, 0)], (211, .goto (-157), 54, 214, 0)),
  (214, [], (214, .return_, 0, 0, 0))]
def mMd_findBest : MR := (⟨"PageFormatterModel", "findBest", "(II)V"⟩, prog_10_method_23_code, 10, (Option.none : Option Jvm.ClassFile.FieldType), 5, 124, bMd_findBest, 811, 810, 27, 63, 2)
set_option maxRecDepth 100000 in
theorem okMd_findBest : MOK mMd_findBest := ⟨by decide +kernel, by decide +kernel⟩
def bMd_breakNow : List BLK := [
  (0, [(0, .aload_n 0, 0, 0, 0), (1, .getfield 85, 8, 6, 637)], (4, .ifCond .ne 4, 8, 7, 0)),
  (7, [], (7, .return_, 0, 0, 0)),
  (8, [(8, .aload_n 0, 0, 0, 0), (9, .aload_n 0, 0, 0, 0), (10, .getfield 101, 8, 29, 660), (13, .putfield 184, 8, 43, 674), (16, .aload_n 0, 0, 0, 0)], (17, .invokevirtual 219, 0, 20, 800)),
  (20, [(20, .aload_n 0, 0, 0, 0), (21, .getfield 174, 8, 11, 642), (24, .istore_n 1, 0, 0, 0)], (25, .nop, 0, 0, 0)),
  (25, [(25, .iload_n 1, 0, 0, 0)], (26, .ifCond .le 28, 54, 29, 0)),
  (29, [(29, .iconst 0, 0, 0, 0), (30, .istore_n 2, 0, 0, 0)], (31, .nop, 0, 0, 0)),
  (31, [(31, .iload_n 2, 0, 0, 0), (32, .iconst 3, 3, 0, 0)], (33, .if_icmp .ge 15, 48, 36, 0)),
  (36, [(36, .aload_n 0, 0, 0, 0), (37, .iload_n 1, 0, 0, 0), (38, .iload_n 2, 0, 0, 0)], (39, .invokevirtual 222, 0, 42, 808)),
  (42, [(42, .iinc 2 1, 1, 0, 0)], (45, .goto (-14), 31, 48, 0)),
  (48, [(48, .iinc 1 (-1), 0, 1, 0)], (51, .goto (-26), 25, 54, 0)),
  (54, [(54, .aload_n 0, 0, 0, 0), (55, .iconst 0, 0, 0, 0), (56, .iconst 3, 3, 0, 0)], (57, .invokevirtual 222, 0, 60, 808)),
  (60, [(60, .aload_n 0, 0, 0, 0), (61, .aload_n 0, 0, 0, 0), (62, .getfield 35, 8, 12, 643), (65, .iconst 3, 3, 0, 0), (66, .laload, 0, 0, 0), (67, .putfield 47, 8, 15, 646), (70, .aload_n 0, 0, 0, 0), (71, .iconst 0, 0, 0, 0), (72, .putfield 225, 8, 16, 647), (75, .iconst 0, 0, 0, 0), (76, .istore_n 1, 0, 0, 0), (77, .iconst 3, 3, 0, 0), (78, .istore_n 2, 0, 0, 0)], (79, .nop, 0, 0, 0)),
  (79, [(79, .iload_n 1, 0, 0, 0), (80, .aload_n 0, 0, 0, 0), (81, .getfield 174, 8, 11, 642)], (84, .if_icmp .ge 35, 119, 87, 0)),
  (87, [(87, .aload_n 0, 0, 0, 0), (88, .getfield 42, 8, 14, 645), (91, .iconst 4, 4, 0, 0), (92, .iload_n 1, 0, 0, 0), (93, .imul, 0, 0, 0), (94, .iload_n 2, 0, 0, 0), (95, .iadd, 0, 0, 0), (96, .iaload, 0, 0, 0), (97, .istore_n 3, 0, 0, 0), (98, .aload_n 0, 0, 0, 0), (99, .iload_n 1, 0, 0, 0), (100, .iload_n 3, 0, 0, 0)], (101, .invokevirtual 228, 0, 104, 845)),
  (104, [(104, .aload_n 0, 0, 0, 0), (105, .iload_n 1, 0, 0, 0), (106, .iload_n 3, 0, 0, 0)], (107, .invokevirtual 203, 0, 110, 825)),
  (110, [], (110, .invokestatic 208, 0, 113, 836)),
  (113, [(113, .istore_n 2, 0, 0, 0), (114, .iload_n 3, 0, 0, 0), (115, .istore_n 1, 0, 0, 0)], (116, .goto (-37), 79, 119, 0)),
  (119, [(119, .iconst 0, 0, 0, 0), (120, .istore_n 1, 0, 0, 0), (121, .iconst 3, 3, 0, 0), (122, .istore_n 2, 0, 0, 0), (123, .aload_n 0, 0, 0, 0), (124, .iconst 0, 0, 0, 0), (125, .putfield 85, 8, 6, 637)], (128, .nop, 0, 0, 0)),
  (128, [(128, .iload_n 1, 0, 0, 0), (129, .aload_n 0, 0, 0, 0), (130, .getfield 174, 8, 11, 642)], (133, .if_icmp .ge 39, 172, 136, 0)),
  (136, [(136, .aload_n 0, 0, 0, 0), (137, .getfield 42, 8, 14, 645), (140, .iconst 4, 4, 0, 0), (141, .iload_n 1, 0, 0, 0), (142, .imul, 0, 0, 0), (143, .iload_n 2, 0, 0, 0), (144, .iadd, 0, 0, 0), (145, .iaload, 0, 0, 0), (146, .istore_n 3, 0, 0, 0), (147, .aload_n 0, 0, 0, 0), (148, .iload_n 1, 0, 0, 0), (149, .iload_n 3, 0, 0, 0)], (150, .invokevirtual 203, 0, 153, 825)),
  (153, [], (153, .invokestatic 208, 0, 156, 836)),
  (156, [(156, .istore_n 2, 0, 0, 0), (157, .aload_n 0, 0, 0, 0), (158, .iload_n 1, 0, 0, 0), (159, .iload_n 3, 0, 0, 0)], (160, .invokevirtual 231, 0, 163, 849)),
  (163, [(163, .aload_n 0, 0, 0, 0)], (164, .invokevirtual 234, 0, 167, 857)),
  (167, [(167, .iload_n 3, 0, 0, 0), (168, .istore_n 1, 0, 0, 0)], (169, .goto (-41), 128, 172, 0)),
  (172, [], (172, .return_, 0, 0, 0))]
def mMd_breakNow : MR := (⟨"PageFormatterModel", "breakNow", "()V"⟩, prog_10_method_24_code, 4, (Option.none : Option Jvm.ClassFile.FieldType), 6, 153, bMd_breakNow, 799, 798, 24, 63, 0)
set_option maxRecDepth 100000 in
theorem okMd_breakNow : MOK mMd_breakNow := ⟨by decide +kernel, by decide +kernel⟩
def bMd_note : List BLK := [
  (0, [(0, .aload_n 0, 0, 0, 0), (1, .getfield 51, 8, 17, 648), (4, .aload_n 0, 0, 0, 0), (5, .getfield 225, 8, 16, 647), (8, .aload_n 0, 0, 0, 0), (9, .iload_n 1, 0, 0, 0), (10, .iload_n 2, 0, 0, 0)], (11, .invokevirtual 191, 0, 14, 813)),
  (14, [(14, .iastore, 0, 0, 0), (15, .aload_n 0, 0, 0, 0), (16, .getfield 54, 8, 18, 649), (19, .aload_n 0, 0, 0, 0), (20, .getfield 225, 8, 16, 647), (23, .aload_n 0, 0, 0, 0), (24, .iload_n 1, 0, 0, 0), (25, .iload_n 2, 0, 0, 0)], (26, .invokevirtual 194, 0, 29, 829)),
  (29, [(29, .iastore, 0, 0, 0), (30, .aload_n 0, 0, 0, 0), (31, .getfield 57, 8, 19, 650), (34, .aload_n 0, 0, 0, 0), (35, .getfield 225, 8, 16, 647), (38, .aload_n 0, 0, 0, 0), (39, .iload_n 1, 0, 0, 0), (40, .iload_n 2, 0, 0, 0)], (41, .invokevirtual 203, 0, 44, 825)),
  (44, [(44, .iastore, 0, 0, 0), (45, .aload_n 0, 0, 0, 0), (46, .getfield 60, 8, 20, 651), (49, .aload_n 0, 0, 0, 0), (50, .getfield 225, 8, 16, 647), (53, .aload_n 0, 0, 0, 0), (54, .iload_n 1, 0, 0, 0), (55, .iload_n 2, 0, 0, 0)], (56, .invokevirtual 181, 0, 59, 817)),
  (59, [(59, .iastore, 0, 0, 0), (60, .aload_n 0, 0, 0, 0), (61, .getfield 63, 8, 21, 652), (64, .aload_n 0, 0, 0, 0), (65, .getfield 225, 8, 16, 647), (68, .aload_n 0, 0, 0, 0), (69, .getfield 28, 8, 9, 640), (72, .iload_n 2, 0, 0, 0), (73, .baload, 0, 0, 0), (74, .bastore, 0, 0, 0), (75, .aload_n 0, 0, 0, 0), (76, .getfield 66, 8, 22, 653), (79, .aload_n 0, 0, 0, 0), (80, .getfield 225, 8, 16, 647), (83, .aload_n 0, 0, 0, 0), (84, .iload_n 1, 0, 0, 0)], (85, .invokevirtual 187, 0, 88, 821)),
  (88, [(88, .iastore, 0, 0, 0), (89, .aload_n 0, 0, 0, 0), (90, .dup, 0, 0, 0), (91, .getfield 225, 8, 16, 647), (94, .iconst 1, 1, 0, 0), (95, .iadd, 0, 0, 0), (96, .putfield 225, 8, 16, 647)], (99, .return_, 0, 0, 0))]
def mMd_note : MR := (⟨"PageFormatterModel", "note", "(II)V"⟩, prog_10_method_25_code, 3, (Option.none : Option Jvm.ClassFile.FieldType), 4, 95, bMd_note, 848, 847, 34, 63, 2)
set_option maxRecDepth 100000 in
theorem okMd_note : MOK mMd_note := ⟨by decide +kernel, by decide +kernel⟩
def bMd_layLine : List BLK := [
  (0, [(0, .aload_n 0, 0, 0, 0), (1, .getfield 92, 8, 26, 657)], (4, .ifCond .eq 20, 24, 7, 0)),
  (7, [(7, .iload_n 2, 0, 0, 0), (8, .aload_n 0, 0, 0, 0), (9, .getfield 174, 8, 11, 642)], (12, .if_icmp .ge 12, 24, 15, 0)),
  (15, [(15, .aload_n 0, 0, 0, 0), (16, .iload_n 1, 0, 0, 0), (17, .iload_n 2, 0, 0, 0)], (18, .invokevirtual 194, 0, 21, 829)),
  (21, [], (21, .goto 4, 25, 24, 0)),
  (24, [(24, .iconst 0, 0, 0, 0)], (25, .nop, 0, 0, 0)),
  (25, [(25, .istore_n 3, 0, 0, 0), (26, .aload_n 0, 0, 0, 0), (27, .iload_n 1, 0, 0, 0), (28, .iload_n 2, 0, 0, 0)], (29, .invokevirtual 181, 0, 32, 817)),
  (32, [(32, .istore 4, 0, 0, 0), (34, .iconst 0, 0, 0, 0), (35, .istore 5, 0, 0, 0), (37, .aload_n 0, 0, 0, 0), (38, .iconst 0, 0, 0, 0), (39, .putfield 161, 8, 3, 634), (42, .aload_n 0, 0, 0, 0), (43, .getfield 25, 8, 8, 639), (46, .iload_n 1, 0, 0, 0), (47, .iaload, 0, 0, 0), (48, .istore 6, 0, 0, 0), (50, .aload_n 0, 0, 0, 0), (51, .getfield 32, 8, 10, 641), (54, .iload_n 1, 0, 0, 0), (55, .iaload, 0, 0, 0), (56, .istore 7, 0, 0, 0)], (58, .nop, 0, 0, 0)),
  (58, [(58, .iload 7, 0, 0, 0), (60, .aload_n 0, 0, 0, 0), (61, .getfield 32, 8, 10, 641), (64, .iload_n 2, 0, 0, 0), (65, .iaload, 0, 0, 0)], (66, .if_icmp .lt 14, 80, 69, 0)),
  (69, [(69, .iload 6, 0, 0, 0), (71, .aload_n 0, 0, 0, 0), (72, .getfield 25, 8, 8, 639), (75, .iload_n 2, 0, 0, 0), (76, .iaload, 0, 0, 0)], (77, .if_icmp .ge 124, 201, 80, 0)),
  (80, [(80, .iload 6, 0, 0, 0), (82, .aload_n 0, 0, 0, 0), (83, .getfield 25, 8, 8, 639), (86, .iload_n 2, 0, 0, 0), (87, .iaload, 0, 0, 0)], (88, .if_icmp .ge 54, 142, 91, 0)),
  (91, [(91, .iload 7, 0, 0, 0), (93, .aload_n 0, 0, 0, 0), (94, .getfield 19, 8, 5, 636), (97, .iload 6, 0, 0, 0), (99, .iaload, 0, 0, 0)], (100, .if_icmp .ne 42, 142, 103, 0)),
  (103, [(103, .iinc 6 1, 1, 0, 0), (106, .iload 5, 0, 0, 0), (108, .iload 4, 0, 0, 0)], (110, .if_icmp .ge (-30), 80, 113, 0)),
  (113, [(113, .iinc 5 1, 1, 0, 0), (116, .aload_n 0, 0, 0, 0), (117, .iconst 1, 1, 0, 0), (118, .iload_n 3, 0, 0, 0), (119, .iload 5, 0, 0, 0), (121, .imul, 0, 0, 0), (122, .iload 4, 0, 0, 0), (124, .idiv, 0, 0, 0), (125, .iadd, 0, 0, 0), (126, .iload_n 3, 0, 0, 0), (127, .iload 5, 0, 0, 0), (129, .iconst 1, 1, 0, 0), (130, .isub, 0, 0, 0), (131, .imul, 0, 0, 0), (132, .iload 4, 0, 0, 0), (134, .idiv, 0, 0, 0), (135, .isub, 0, 0, 0)], (136, .invokevirtual 237, 0, 139, 853)),
  (139, [], (139, .goto (-59), 80, 142, 0)),
  (142, [(142, .iload 7, 0, 0, 0), (144, .aload_n 0, 0, 0, 0), (145, .getfield 32, 8, 10, 641), (148, .iload_n 2, 0, 0, 0), (149, .iaload, 0, 0, 0)], (150, .if_icmp .ge 45, 195, 153, 0)),
  (153, [(153, .aload_n 0, 0, 0, 0), (154, .getfield 16, 8, 4, 635), (157, .iload 7, 0, 0, 0), (159, .iaload, 0, 0, 0), (160, .sipush 255, 255, 0, 0), (163, .iand, 0, 0, 0), (164, .bipush 94, 94, 0, 0)], (166, .if_icmp .eq 29, 195, 169, 0)),
  (169, [(169, .aload_n 0, 0, 0, 0), (170, .getfield 13, 8, 2, 633), (173, .aload_n 0, 0, 0, 0), (174, .getfield 161, 8, 3, 634), (177, .aload_n 0, 0, 0, 0), (178, .getfield 16, 8, 4, 635), (181, .iload 7, 0, 0, 0), (183, .iaload, 0, 0, 0), (184, .iastore, 0, 0, 0), (185, .aload_n 0, 0, 0, 0), (186, .dup, 0, 0, 0), (187, .getfield 161, 8, 3, 634), (190, .iconst 1, 1, 0, 0), (191, .iadd, 0, 0, 0), (192, .putfield 161, 8, 3, 634)], (195, .nop, 0, 0, 0)),
  (195, [(195, .iinc 7 1, 1, 0, 0)], (198, .goto (-140), 58, 201, 0)),
  (201, [(201, .aload_n 0, 0, 0, 0), (202, .getfield 28, 8, 9, 640), (205, .iload_n 2, 0, 0, 0), (206, .baload, 0, 0, 0)], (207, .ifCond .eq 24, 231, 210, 0)),
  (210, [(210, .aload_n 0, 0, 0, 0), (211, .getfield 13, 8, 2, 633), (214, .aload_n 0, 0, 0, 0), (215, .getfield 161, 8, 3, 634), (218, .bipush 45, 45, 0, 0), (220, .iastore, 0, 0, 0), (221, .aload_n 0, 0, 0, 0), (222, .dup, 0, 0, 0), (223, .getfield 161, 8, 3, 634), (226, .iconst 1, 1, 0, 0), (227, .iadd, 0, 0, 0), (228, .putfield 161, 8, 3, 634)], (231, .nop, 0, 0, 0)),
  (231, [], (231, .return_, 0, 0, 0))]
def mMd_layLine : MR := (⟨"PageFormatterModel", "layLine", "(II)V"⟩, prog_10_method_26_code, 8, (Option.none : Option Jvm.ClassFile.FieldType), 3, 67, bMd_layLine, 852, 851, 35, 63, 2)
set_option maxRecDepth 100000 in
theorem okMd_layLine : MOK mMd_layLine := ⟨by decide +kernel, by decide +kernel⟩
def bMd_addBlanks : List BLK := [
  (0, [(0, .iconst 0, 0, 0, 0), (1, .istore_n 2, 0, 0, 0)], (2, .nop, 0, 0, 0)),
  (2, [(2, .iload_n 2, 0, 0, 0), (3, .iload_n 1, 0, 0, 0)], (4, .if_icmp .ge 30, 34, 7, 0)),
  (7, [(7, .aload_n 0, 0, 0, 0), (8, .getfield 13, 8, 2, 633), (11, .aload_n 0, 0, 0, 0), (12, .getfield 161, 8, 3, 634), (15, .bipush 32, 32, 0, 0), (17, .iastore, 0, 0, 0), (18, .aload_n 0, 0, 0, 0), (19, .dup, 0, 0, 0), (20, .getfield 161, 8, 3, 634), (23, .iconst 1, 1, 0, 0), (24, .iadd, 0, 0, 0), (25, .putfield 161, 8, 3, 634), (28, .iinc 2 1, 1, 0, 0)], (31, .goto (-29), 2, 34, 0)),
  (34, [], (34, .return_, 0, 0, 0))]
def mMd_addBlanks : MR := (⟨"PageFormatterModel", "addBlanks", "(I)V"⟩, prog_10_method_27_code, 3, (Option.none : Option Jvm.ClassFile.FieldType), 0, 0, bMd_addBlanks, 856, 855, 36, 63, 1)
set_option maxRecDepth 100000 in
theorem okMd_addBlanks : MOK mMd_addBlanks := ⟨by decide +kernel, by decide +kernel⟩
end
section
def bMd_readNumber : List BLK := [
  (0, [(0, .aload_n 0, 0, 0, 0), (1, .getfield 240, 8, 44, 675), (4, .istore_n 1, 0, 0, 0), (5, .aload_n 0, 0, 0, 0), (6, .iconst 0, 0, 0, 0), (7, .putfield 243, 8, 46, 677), (10, .iload_n 1, 0, 0, 0), (11, .aload_n 0, 0, 0, 0), (12, .getfield 81, 8, 1, 632)], (15, .if_icmp .ge 48, 63, 18, 0)),
  (18, [(18, .aload_n 0, 0, 0, 0), (19, .getfield 7, 8, 0, 631), (22, .iload_n 1, 0, 0, 0), (23, .iaload, 0, 0, 0), (24, .bipush 43, 43, 0, 0)], (26, .if_icmp .eq 14, 40, 29, 0)),
  (29, [(29, .aload_n 0, 0, 0, 0), (30, .getfield 7, 8, 0, 631), (33, .iload_n 1, 0, 0, 0), (34, .iaload, 0, 0, 0), (35, .bipush 45, 45, 0, 0)], (37, .if_icmp .ne 26, 63, 40, 0)),
  (40, [(40, .aload_n 0, 0, 0, 0), (41, .aload_n 0, 0, 0, 0), (42, .getfield 7, 8, 0, 631), (45, .iload_n 1, 0, 0, 0), (46, .iaload, 0, 0, 0), (47, .bipush 43, 43, 0, 0)], (49, .if_icmp .ne 7, 56, 52, 0)),
  (52, [(52, .iconst 1, 1, 0, 0)], (53, .goto 4, 57, 56, 0)),
  (56, [(56, .iconst (-1), 0, 1, 0)], (57, .nop, 0, 0, 0)),
  (57, [(57, .putfield 243, 8, 46, 677), (60, .iinc 1 1, 1, 0, 0)], (63, .nop, 0, 0, 0)),
  (63, [(63, .aload_n 0, 0, 0, 0), (64, .iconst 0, 0, 0, 0), (65, .putfield 246, 8, 45, 676), (68, .aload_n 0, 0, 0, 0), (69, .iconst 0, 0, 0, 0), (70, .putfield 249, 8, 47, 678), (73, .iconst 0, 0, 0, 0), (74, .istore_n 2, 0, 0, 0)], (75, .nop, 0, 0, 0)),
  (75, [(75, .iload_n 1, 0, 0, 0), (76, .aload_n 0, 0, 0, 0), (77, .getfield 81, 8, 1, 632)], (80, .if_icmp .ge 66, 146, 83, 0)),
  (83, [(83, .aload_n 0, 0, 0, 0), (84, .getfield 7, 8, 0, 631), (87, .iload_n 1, 0, 0, 0), (88, .iaload, 0, 0, 0), (89, .bipush 48, 48, 0, 0), (91, .bipush 57, 57, 0, 0)], (93, .invokestatic 131, 0, 96, 780)),
  (96, [], (96, .ifCond .eq 50, 146, 99, 0)),
  (99, [(99, .aload_n 0, 0, 0, 0), (100, .iload_n 2, 0, 0, 0), (101, .iconst 4, 4, 0, 0)], (102, .if_icmp .ge 23, 125, 105, 0)),
  (105, [(105, .bipush 10, 10, 0, 0), (107, .aload_n 0, 0, 0, 0), (108, .getfield 249, 8, 47, 678), (111, .imul, 0, 0, 0), (112, .aload_n 0, 0, 0, 0), (113, .getfield 7, 8, 0, 631), (116, .iload_n 1, 0, 0, 0), (117, .iaload, 0, 0, 0), (118, .iadd, 0, 0, 0), (119, .bipush 48, 48, 0, 0), (121, .isub, 0, 0, 0)], (122, .goto 7, 129, 125, 0)),
  (125, [(125, .aload_n 0, 0, 0, 0), (126, .getfield 249, 8, 47, 678)], (129, .nop, 0, 0, 0)),
  (129, [(129, .putfield 249, 8, 47, 678), (132, .iinc 2 1, 1, 0, 0), (135, .aload_n 0, 0, 0, 0), (136, .iconst 1, 1, 0, 0), (137, .putfield 246, 8, 45, 676), (140, .iinc 1 1, 1, 0, 0)], (143, .goto (-68), 75, 146, 0)),
  (146, [], (146, .return_, 0, 0, 0))]
def mMd_readNumber : MR := (⟨"PageFormatterModel", "readNumber", "()V"⟩, prog_10_method_28_code, 3, (Option.none : Option Jvm.ClassFile.FieldType), 1, 22, bMd_readNumber, 795, 794, 23, 63, 0)
set_option maxRecDepth 100000 in
theorem okMd_readNumber : MOK mMd_readNumber := ⟨by decide +kernel, by decide +kernel⟩
def bMd_set : List BLK := [
  (0, [(0, .aload_n 0, 0, 0, 0), (1, .getfield 246, 8, 45, 676)], (4, .ifCond .ne 7, 11, 7, 0)),
  (7, [(7, .iload_n 2, 0, 0, 0)], (8, .goto 28, 36, 11, 0)),
  (11, [(11, .aload_n 0, 0, 0, 0), (12, .getfield 243, 8, 46, 677)], (15, .ifCond .ne 10, 25, 18, 0)),
  (18, [(18, .aload_n 0, 0, 0, 0), (19, .getfield 249, 8, 47, 678)], (22, .goto 14, 36, 25, 0)),
  (25, [(25, .iload_n 1, 0, 0, 0), (26, .aload_n 0, 0, 0, 0), (27, .getfield 243, 8, 46, 677), (30, .aload_n 0, 0, 0, 0), (31, .getfield 249, 8, 47, 678), (34, .imul, 0, 0, 0), (35, .iadd, 0, 0, 0)], (36, .nop, 0, 0, 0)),
  (36, [(36, .istore 5, 0, 0, 0), (38, .iload 5, 0, 0, 0), (40, .iload_n 3, 0, 0, 0)], (41, .if_icmp .ge 7, 48, 44, 0)),
  (44, [(44, .iload_n 3, 0, 0, 0)], (45, .goto 17, 62, 48, 0)),
  (48, [(48, .iload 5, 0, 0, 0), (50, .iload 4, 0, 0, 0)], (52, .if_icmp .le 8, 60, 55, 0)),
  (55, [(55, .iload 4, 0, 0, 0)], (57, .goto 5, 62, 60, 0)),
  (60, [(60, .iload 5, 0, 0, 0)], (62, .nop, 0, 0, 0)),
  (62, [], (62, .ireturn, 0, 0, 0))]
def mMd_set : MR := (⟨"PageFormatterModel", "set", "(IIII)I"⟩, prog_10_method_29_code, 6, (Option.some Jvm.ClassFile.FieldType.int), 0, 0, bMd_set, 892, 891, 45, 63, 4)
set_option maxRecDepth 100000 in
theorem okMd_set : MOK mMd_set := ⟨by decide +kernel, by decide +kernel⟩
def bMd_command : List BLK := [
  (0, [(0, .aload_n 0, 0, 0, 0), (1, .getfield 81, 8, 1, 632), (4, .iconst 2, 2, 0, 0)], (5, .if_icmp .le 23, 28, 8, 0)),
  (8, [(8, .sipush 256, 256, 0, 0), (11, .aload_n 0, 0, 0, 0), (12, .getfield 7, 8, 0, 631), (15, .iconst 1, 1, 0, 0), (16, .iaload, 0, 0, 0), (17, .imul, 0, 0, 0), (18, .aload_n 0, 0, 0, 0), (19, .getfield 7, 8, 0, 631), (22, .iconst 2, 2, 0, 0), (23, .iaload, 0, 0, 0), (24, .iadd, 0, 0, 0)], (25, .goto 4, 29, 28, 0)),
  (28, [(28, .iconst 0, 0, 0, 0)], (29, .nop, 0, 0, 0)),
  (29, [(29, .istore_n 1, 0, 0, 0), (30, .aload_n 0, 0, 0, 0), (31, .iconst 3, 3, 0, 0), (32, .putfield 240, 8, 44, 675)], (35, .nop, 0, 0, 0)),
  (35, [(35, .aload_n 0, 0, 0, 0), (36, .getfield 240, 8, 44, 675), (39, .aload_n 0, 0, 0, 0), (40, .getfield 81, 8, 1, 632)], (43, .if_icmp .ge 30, 73, 46, 0)),
  (46, [(46, .aload_n 0, 0, 0, 0), (47, .getfield 7, 8, 0, 631), (50, .aload_n 0, 0, 0, 0), (51, .getfield 240, 8, 44, 675), (54, .iaload, 0, 0, 0), (55, .bipush 32, 32, 0, 0)], (57, .if_icmp .ne 16, 73, 60, 0)),
  (60, [(60, .aload_n 0, 0, 0, 0), (61, .dup, 0, 0, 0), (62, .getfield 240, 8, 44, 675), (65, .iconst 1, 1, 0, 0), (66, .iadd, 0, 0, 0), (67, .putfield 240, 8, 44, 675)], (70, .goto (-35), 35, 73, 0)),
  (73, [(73, .aload_n 0, 0, 0, 0)], (74, .invokevirtual 252, 0, 77, 792)),
  (77, [(77, .iload_n 1, 0, 0, 0)], (78, .lookupswitch 259 #[(25202, 82), (26217, 89), (26990, 158), (27253, 116), (27763, 139), (28257, 116), (28262, 89), (29293, 216), (29801, 189)], 82, 82, 0)),
  (160, [(160, .aload_n 0, 0, 0, 0)], (161, .invokevirtual 171, 0, 164, 796)),
  (164, [], (164, .goto 178, 342, 167, 0)),
  (167, [(167, .aload_n 0, 0, 0, 0)], (168, .invokevirtual 171, 0, 171, 796)),
  (171, [(171, .aload_n 0, 0, 0, 0), (172, .aload_n 0, 0, 0, 0), (173, .getfield 7, 8, 0, 631), (176, .iconst 1, 1, 0, 0), (177, .iaload, 0, 0, 0), (178, .bipush 102, 102, 0, 0)], (180, .if_icmp .ne 7, 187, 183, 0)),
  (183, [(183, .iconst 1, 1, 0, 0)], (184, .goto 4, 188, 187, 0)),
  (187, [(187, .iconst 0, 0, 0, 0)], (188, .nop, 0, 0, 0)),
  (188, [(188, .putfield 88, 8, 25, 656)], (191, .goto 151, 342, 194, 0)),
  (194, [(194, .aload_n 0, 0, 0, 0), (195, .aload_n 0, 0, 0, 0), (196, .getfield 7, 8, 0, 631), (199, .iconst 1, 1, 0, 0), (200, .iaload, 0, 0, 0), (201, .bipush 106, 106, 0, 0)], (203, .if_icmp .ne 7, 210, 206, 0)),
  (206, [(206, .iconst 1, 1, 0, 0)], (207, .goto 4, 211, 210, 0)),
  (210, [(210, .iconst 0, 0, 0, 0)], (211, .nop, 0, 0, 0)),
  (211, [(211, .putfield 92, 8, 26, 657)], (214, .goto 128, 342, 217, 0)),
  (217, [(217, .aload_n 0, 0, 0, 0), (218, .aload_n 0, 0, 0, 0), (219, .aload_n 0, 0, 0, 0), (220, .getfield 95, 8, 27, 658), (223, .iconst 1, 1, 0, 0), (224, .iconst 1, 1, 0, 0), (225, .bipush 9, 9, 0, 0)], (227, .invokevirtual 255, 0, 230, 889)),
  (230, [(230, .putfield 95, 8, 27, 658)], (233, .goto 109, 342, 236, 0)),
  (236, [(236, .aload_n 0, 0, 0, 0), (237, .aload_n 0, 0, 0, 0), (238, .aload_n 0, 0, 0, 0), (239, .getfield 98, 8, 28, 659), (242, .iconst 0, 0, 0, 0), (243, .iconst 0, 0, 0, 0), (244, .aload_n 0, 0, 0, 0), (245, .getfield 104, 8, 30, 661), (248, .iconst 1, 1, 0, 0), (249, .isub, 0, 0, 0)], (250, .invokevirtual 255, 0, 253, 889)),
  (253, [(253, .putfield 98, 8, 28, 659), (256, .aload_n 0, 0, 0, 0), (257, .aload_n 0, 0, 0, 0), (258, .getfield 98, 8, 28, 659), (261, .putfield 101, 8, 29, 660)], (264, .goto 78, 342, 267, 0)),
  (267, [(267, .aload_n 0, 0, 0, 0)], (268, .invokevirtual 171, 0, 271, 796)),
  (271, [(271, .aload_n 0, 0, 0, 0), (272, .aload_n 0, 0, 0, 0), (273, .aload_n 0, 0, 0, 0), (274, .getfield 101, 8, 29, 660), (277, .iconst 0, 0, 0, 0), (278, .iconst 0, 0, 0, 0), (279, .aload_n 0, 0, 0, 0), (280, .getfield 104, 8, 30, 661), (283, .iconst 1, 1, 0, 0), (284, .isub, 0, 0, 0)], (285, .invokevirtual 255, 0, 288, 889)),
  (288, [(288, .putfield 101, 8, 29, 660)], (291, .goto 51, 342, 294, 0)),
  (294, [(294, .aload_n 0, 0, 0, 0), (295, .aload_n 0, 0, 0, 0), (296, .aload_n 0, 0, 0, 0), (297, .getfield 104, 8, 30, 661), (300, .bipush 40, 40, 0, 0), (302, .aload_n 0, 0, 0, 0), (303, .getfield 101, 8, 29, 660), (306, .aload_n 0, 0, 0, 0), (307, .getfield 98, 8, 28, 659)], (310, .if_icmp .le 10, 320, 313, 0)),
  (313, [(313, .aload_n 0, 0, 0, 0), (314, .getfield 101, 8, 29, 660)], (317, .goto 7, 324, 320, 0)),
  (320, [(320, .aload_n 0, 0, 0, 0), (321, .getfield 98, 8, 28, 659)], (324, .nop, 0, 0, 0)),
  (324, [(324, .iconst 1, 1, 0, 0), (325, .iadd, 0, 0, 0), (326, .bipush 80, 80, 0, 0)], (328, .invokevirtual 255, 0, 331, 889)),
  (331, [(331, .putfield 104, 8, 30, 661)], (334, .goto 8, 342, 337, 0)),
  (337, [(337, .aload_n 0, 0, 0, 0), (338, .iload_n 1, 0, 0, 0)], (339, .invokevirtual 259, 0, 342, 893)),
  (342, [], (342, .return_, 0, 0, 0))]
def mMd_command : MR := (⟨"PageFormatterModel", "command", "()V"⟩, prog_10_method_30_code, 2, (Option.none : Option Jvm.ClassFile.FieldType), 9, 219, bMd_command, 791, 790, 22, 63, 0)
set_option maxRecDepth 100000 in
theorem okMd_command : MOK mMd_command := ⟨by decide +kernel, by decide +kernel⟩
def bMd_command2 : List BLK := [
  (0, [(0, .iload_n 1, 0, 0, 0)], (1, .lookupswitch 212 #[(25200, 125), (25445, 67), (26223, 197), (26725, 182), (28780, 161), (29552, 109), (30060, 90)], 67, 67, 0)),
  (68, [(68, .aload_n 0, 0, 0, 0)], (69, .invokevirtual 171, 0, 72, 796)),
  (72, [(72, .aload_n 0, 0, 0, 0), (73, .aload_n 0, 0, 0, 0), (74, .aload_n 0, 0, 0, 0), (75, .getfield 107, 8, 31, 662), (78, .iconst 1, 1, 0, 0), (79, .iconst 0, 0, 0, 0), (80, .bipush 99, 99, 0, 0)], (82, .invokevirtual 255, 0, 85, 889)),
  (85, [(85, .putfield 107, 8, 31, 662)], (88, .goto 135, 223, 91, 0)),
  (91, [(91, .aload_n 0, 0, 0, 0), (92, .aload_n 0, 0, 0, 0), (93, .aload_n 0, 0, 0, 0), (94, .getfield 110, 8, 32, 663), (97, .iconst 1, 1, 0, 0), (98, .iconst 0, 0, 0, 0), (99, .bipush 99, 99, 0, 0)], (101, .invokevirtual 255, 0, 104, 889)),
  (104, [(104, .putfield 110, 8, 32, 663)], (107, .goto 116, 223, 110, 0)),
  (110, [(110, .aload_n 0, 0, 0, 0), (111, .aload_n 0, 0, 0, 0), (112, .iconst 0, 0, 0, 0), (113, .iconst 1, 1, 0, 0), (114, .iconst 0, 0, 0, 0), (115, .bipush 99, 99, 0, 0)], (117, .invokevirtual 255, 0, 120, 889)),
  (120, [], (120, .invokevirtual 262, 0, 123, 897)),
  (123, [], (123, .goto 100, 223, 126, 0)),
  (126, [(126, .aload_n 0, 0, 0, 0), (127, .getfield 116, 8, 34, 665)], (130, .ifCond .le 9, 139, 133, 0)),
  (133, [(133, .aload_n 0, 0, 0, 0), (134, .bipush 99, 99, 0, 0)], (136, .invokevirtual 262, 0, 139, 897)),
  (139, [(139, .aload_n 0, 0, 0, 0), (140, .aload_n 0, 0, 0, 0), (141, .aload_n 0, 0, 0, 0), (142, .getfield 122, 8, 36, 667), (145, .aload_n 0, 0, 0, 0), (146, .getfield 122, 8, 36, 667), (149, .iconst 1, 1, 0, 0), (150, .sipush 999, 999, 0, 0)], (153, .invokevirtual 255, 0, 156, 889)),
  (156, [(156, .putfield 122, 8, 36, 667)], (159, .goto 64, 223, 162, 0)),
  (162, [(162, .aload_n 0, 0, 0, 0), (163, .aload_n 0, 0, 0, 0), (164, .aload_n 0, 0, 0, 0), (165, .getfield 113, 8, 33, 664), (168, .bipush 24, 24, 0, 0), (170, .bipush 8, 8, 0, 0), (172, .bipush 99, 99, 0, 0)], (174, .invokevirtual 255, 0, 177, 889)),
  (177, [(177, .putfield 113, 8, 33, 664)], (180, .goto 43, 223, 183, 0)),
  (183, [(183, .aload_n 0, 0, 0, 0), (184, .aload_n 0, 0, 0, 0), (185, .aload_n 0, 0, 0, 0), (186, .getfield 72, 8, 37, 668)], (189, .invokevirtual 265, 0, 192, 901)),
  (192, [(192, .putfield 125, 8, 38, 669)], (195, .goto 28, 223, 198, 0)),
  (198, [(198, .aload_n 0, 0, 0, 0), (199, .aload_n 0, 0, 0, 0), (200, .aload_n 0, 0, 0, 0), (201, .getfield 75, 8, 39, 670)], (204, .invokevirtual 265, 0, 207, 901)),
  (207, [(207, .putfield 128, 8, 40, 671)], (210, .goto 13, 223, 213, 0)),
  (213, [(213, .aload_n 0, 0, 0, 0), (214, .dup, 0, 0, 0), (215, .getfield 269, 8, 41, 672), (218, .iconst 1, 1, 0, 0), (219, .iadd, 0, 0, 0), (220, .putfield 269, 8, 41, 672)], (223, .nop, 0, 0, 0)),
  (223, [], (223, .return_, 0, 0, 0))]
def mMd_command2 : MR := (⟨"PageFormatterModel", "command", "(I)V"⟩, prog_10_method_31_code, 2, (Option.none : Option Jvm.ClassFile.FieldType), 8, 198, bMd_command2, 896, 895, 46, 63, 1)
set_option maxRecDepth 100000 in
theorem okMd_command2 : MOK mMd_command2 := ⟨by decide +kernel, by decide +kernel⟩
def bMd_copyRest : List BLK := [
  (0, [(0, .iconst 0, 0, 0, 0), (1, .istore_n 2, 0, 0, 0), (2, .aload_n 0, 0, 0, 0), (3, .getfield 240, 8, 44, 675), (6, .istore_n 3, 0, 0, 0)], (7, .nop, 0, 0, 0)),
  (7, [(7, .iload_n 3, 0, 0, 0), (8, .aload_n 0, 0, 0, 0), (9, .getfield 81, 8, 1, 632)], (12, .if_icmp .ge 21, 33, 15, 0)),
  (15, [(15, .aload_n 1, 0, 0, 0), (16, .iload_n 2, 0, 0, 0), (17, .aload_n 0, 0, 0, 0), (18, .getfield 7, 8, 0, 631), (21, .iload_n 3, 0, 0, 0), (22, .iaload, 0, 0, 0), (23, .iastore, 0, 0, 0), (24, .iinc 2 1, 1, 0, 0), (27, .iinc 3 1, 1, 0, 0)], (30, .goto (-23), 7, 33, 0)),
  (33, [(33, .iload_n 2, 0, 0, 0)], (34, .ireturn, 0, 0, 0))]
def mMd_copyRest : MR := (⟨"PageFormatterModel", "copyRest", "([I)I"⟩, prog_10_method_32_code, 4, (Option.some Jvm.ClassFile.FieldType.int), 0, 0, bMd_copyRest, 904, 903, 48, 63, 1)
set_option maxRecDepth 100000 in
theorem okMd_copyRest : MOK mMd_copyRest := ⟨by decide +kernel, by decide +kernel⟩
def bMd_text : List BLK := [
  (0, [(0, .iconst 0, 0, 0, 0), (1, .istore_n 1, 0, 0, 0)], (2, .nop, 0, 0, 0)),
  (2, [(2, .iload_n 1, 0, 0, 0), (3, .aload_n 0, 0, 0, 0), (4, .getfield 81, 8, 1, 632)], (7, .if_icmp .ge 20, 27, 10, 0)),
  (10, [(10, .aload_n 0, 0, 0, 0), (11, .getfield 7, 8, 0, 631), (14, .iload_n 1, 0, 0, 0), (15, .iaload, 0, 0, 0), (16, .bipush 32, 32, 0, 0)], (18, .if_icmp .ne 9, 27, 21, 0)),
  (21, [(21, .iinc 1 1, 1, 0, 0)], (24, .goto (-22), 2, 27, 0)),
  (27, [(27, .iload_n 1, 0, 0, 0), (28, .aload_n 0, 0, 0, 0), (29, .getfield 81, 8, 1, 632)], (32, .if_icmp .ne 7, 39, 35, 0)),
  (35, [(35, .iconst 1, 1, 0, 0)], (36, .goto 4, 40, 39, 0)),
  (39, [(39, .iconst 0, 0, 0, 0)], (40, .nop, 0, 0, 0)),
  (40, [(40, .istore_n 2, 0, 0, 0), (41, .iload_n 1, 0, 0, 0)], (42, .ifCond .gt 7, 49, 45, 0)),
  (45, [(45, .iload_n 2, 0, 0, 0)], (46, .ifCond .eq 7, 53, 49, 0)),
  (49, [(49, .aload_n 0, 0, 0, 0)], (50, .invokevirtual 171, 0, 53, 796)),
  (53, [(53, .iload_n 2, 0, 0, 0)], (54, .ifCond .eq 13, 67, 57, 0)),
  (57, [(57, .aload_n 0, 0, 0, 0), (58, .iconst 0, 0, 0, 0), (59, .putfield 161, 8, 3, 634), (62, .aload_n 0, 0, 0, 0)], (63, .invokevirtual 234, 0, 66, 857)),
  (66, [], (66, .return_, 0, 0, 0)),
  (67, [(67, .iload_n 1, 0, 0, 0)], (68, .ifCond .le 37, 105, 71, 0)),
  (71, [(71, .aload_n 0, 0, 0, 0), (72, .aload_n 0, 0, 0, 0), (73, .getfield 101, 8, 29, 660), (76, .iload_n 1, 0, 0, 0), (77, .iadd, 0, 0, 0), (78, .aload_n 0, 0, 0, 0), (79, .getfield 104, 8, 30, 661), (82, .iconst 1, 1, 0, 0), (83, .isub, 0, 0, 0)], (84, .if_icmp .le 12, 96, 87, 0)),
  (87, [(87, .aload_n 0, 0, 0, 0), (88, .getfield 104, 8, 30, 661), (91, .iconst 1, 1, 0, 0), (92, .isub, 0, 0, 0)], (93, .goto 9, 102, 96, 0)),
  (96, [(96, .aload_n 0, 0, 0, 0), (97, .getfield 101, 8, 29, 660), (100, .iload_n 1, 0, 0, 0), (101, .iadd, 0, 0, 0)], (102, .nop, 0, 0, 0)),
  (102, [(102, .putfield 101, 8, 29, 660)], (105, .nop, 0, 0, 0)),
  (105, [(105, .aload_n 0, 0, 0, 0), (106, .getfield 110, 8, 32, 663)], (109, .ifCond .le 9, 118, 112, 0)),
  (112, [(112, .sipush 256, 256, 0, 0)], (115, .goto 4, 119, 118, 0)),
  (118, [(118, .iconst 0, 0, 0, 0)], (119, .nop, 0, 0, 0)),
  (119, [(119, .istore_n 3, 0, 0, 0), (120, .aload_n 0, 0, 0, 0), (121, .aload_n 0, 0, 0, 0), (122, .getfield 110, 8, 32, 663)], (125, .ifCond .le 12, 137, 128, 0)),
  (128, [(128, .aload_n 0, 0, 0, 0), (129, .getfield 110, 8, 32, 663), (132, .iconst 1, 1, 0, 0), (133, .isub, 0, 0, 0)], (134, .goto 4, 138, 137, 0)),
  (137, [(137, .iconst 0, 0, 0, 0)], (138, .nop, 0, 0, 0)),
  (138, [(138, .putfield 110, 8, 32, 663), (141, .aload_n 0, 0, 0, 0), (142, .getfield 107, 8, 31, 662)], (145, .ifCond .gt 10, 155, 148, 0)),
  (148, [(148, .aload_n 0, 0, 0, 0), (149, .getfield 88, 8, 25, 656)], (152, .ifCond .ne 99, 251, 155, 0)),
  (155, [(155, .aload_n 0, 0, 0, 0), (156, .iconst 0, 0, 0, 0), (157, .putfield 161, 8, 3, 634), (160, .iload_n 1, 0, 0, 0), (161, .istore 4, 0, 0, 0)], (163, .nop, 0, 0, 0)),
  (163, [(163, .iload 4, 0, 0, 0), (165, .aload_n 0, 0, 0, 0), (166, .getfield 81, 8, 1, 632)], (169, .if_icmp .ge 66, 235, 172, 0)),
  (172, [(172, .aload_n 0, 0, 0, 0), (173, .getfield 7, 8, 0, 631), (176, .iload 4, 0, 0, 0), (178, .iaload, 0, 0, 0), (179, .bipush 94, 94, 0, 0)], (181, .if_icmp .eq 48, 229, 184, 0)),
  (184, [(184, .aload_n 0, 0, 0, 0), (185, .getfield 13, 8, 2, 633), (188, .aload_n 0, 0, 0, 0), (189, .getfield 161, 8, 3, 634), (192, .aload_n 0, 0, 0, 0), (193, .getfield 7, 8, 0, 631), (196, .iload 4, 0, 0, 0), (198, .iaload, 0, 0, 0), (199, .bipush 32, 32, 0, 0)], (201, .if_icmp .ne 8, 209, 204, 0)),
  (204, [(204, .bipush 32, 32, 0, 0)], (206, .goto 12, 218, 209, 0)),
  (209, [(209, .aload_n 0, 0, 0, 0), (210, .getfield 7, 8, 0, 631), (213, .iload 4, 0, 0, 0), (215, .iaload, 0, 0, 0), (216, .iload_n 3, 0, 0, 0), (217, .ior, 0, 0, 0)], (218, .nop, 0, 0, 0)),
  (218, [(218, .iastore, 0, 0, 0), (219, .aload_n 0, 0, 0, 0), (220, .dup, 0, 0, 0), (221, .getfield 161, 8, 3, 634), (224, .iconst 1, 1, 0, 0), (225, .iadd, 0, 0, 0), (226, .putfield 161, 8, 3, 634)], (229, .nop, 0, 0, 0)),
  (229, [(229, .iinc 4 1, 1, 0, 0)], (232, .goto (-69), 163, 235, 0)),
  (235, [(235, .aload_n 0, 0, 0, 0), (236, .getfield 107, 8, 31, 662)], (239, .ifCond .le 7, 246, 242, 0)),
  (242, [(242, .aload_n 0, 0, 0, 0)], (243, .invokevirtual 272, 0, 246, 909)),
  (246, [(246, .aload_n 0, 0, 0, 0)], (247, .invokevirtual 234, 0, 250, 857)),
  (250, [], (250, .return_, 0, 0, 0)),
  (251, [(251, .aload_n 0, 0, 0, 0), (252, .iload_n 1, 0, 0, 0), (253, .iload_n 3, 0, 0, 0)], (254, .invokevirtual 275, 0, 257, 913)),
  (257, [], (257, .return_, 0, 0, 0))]
def mMd_text : MR := (⟨"PageFormatterModel", "text", "()V"⟩, prog_10_method_33_code, 5, (Option.none : Option Jvm.ClassFile.FieldType), 8, 200, bMd_text, 908, 907, 49, 63, 0)
set_option maxRecDepth 100000 in
theorem okMd_text : MOK mMd_text := ⟨by decide +kernel, by decide +kernel⟩
def bMd_centre : List BLK := [
  (0, [(0, .aload_n 0, 0, 0, 0), (1, .dup, 0, 0, 0), (2, .getfield 107, 8, 31, 662), (5, .iconst 1, 1, 0, 0), (6, .isub, 0, 0, 0), (7, .putfield 107, 8, 31, 662)], (10, .nop, 0, 0, 0)),
  (10, [(10, .aload_n 0, 0, 0, 0), (11, .getfield 161, 8, 3, 634)], (14, .ifCond .le 32, 46, 17, 0)),
  (17, [(17, .aload_n 0, 0, 0, 0), (18, .getfield 13, 8, 2, 633), (21, .aload_n 0, 0, 0, 0), (22, .getfield 161, 8, 3, 634), (25, .iconst 1, 1, 0, 0), (26, .isub, 0, 0, 0), (27, .iaload, 0, 0, 0), (28, .bipush 32, 32, 0, 0)], (30, .if_icmp .ne 16, 46, 33, 0)),
  (33, [(33, .aload_n 0, 0, 0, 0), (34, .dup, 0, 0, 0), (35, .getfield 161, 8, 3, 634), (38, .iconst 1, 1, 0, 0), (39, .isub, 0, 0, 0), (40, .putfield 161, 8, 3, 634)], (43, .goto (-33), 10, 46, 0)),
  (46, [(46, .aload_n 0, 0, 0, 0), (47, .getfield 104, 8, 30, 661), (50, .aload_n 0, 0, 0, 0), (51, .getfield 101, 8, 29, 660), (54, .iadd, 0, 0, 0), (55, .iconst 1, 1, 0, 0), (56, .iadd, 0, 0, 0), (57, .aload_n 0, 0, 0, 0), (58, .getfield 161, 8, 3, 634), (61, .isub, 0, 0, 0), (62, .istore_n 1, 0, 0, 0), (63, .aload_n 0, 0, 0, 0), (64, .iload_n 1, 0, 0, 0)], (65, .ifCond .ge 7, 72, 68, 0)),
  (68, [(68, .iconst 0, 0, 0, 0)], (69, .goto 6, 75, 72, 0)),
  (72, [(72, .iload_n 1, 0, 0, 0), (73, .iconst 2, 2, 0, 0), (74, .idiv, 0, 0, 0)], (75, .nop, 0, 0, 0)),
  (75, [(75, .putfield 101, 8, 29, 660)], (78, .return_, 0, 0, 0))]
def mMd_centre : MR := (⟨"PageFormatterModel", "centre", "()V"⟩, prog_10_method_34_code, 2, (Option.none : Option Jvm.ClassFile.FieldType), 0, 0, bMd_centre, 912, 911, 50, 63, 0)
set_option maxRecDepth 100000 in
theorem okMd_centre : MOK mMd_centre := ⟨by decide +kernel, by decide +kernel⟩
def bMd_readWords : List BLK := [
  (0, [(0, .iload_n 1, 0, 0, 0), (1, .istore_n 3, 0, 0, 0)], (2, .nop, 0, 0, 0)),
  (2, [(2, .iload_n 3, 0, 0, 0), (3, .aload_n 0, 0, 0, 0), (4, .getfield 81, 8, 1, 632)], (7, .if_icmp .ge 157, 164, 10, 0)),
  (10, [(10, .aload_n 0, 0, 0, 0), (11, .getfield 7, 8, 0, 631), (14, .iload_n 3, 0, 0, 0), (15, .iaload, 0, 0, 0), (16, .bipush 32, 32, 0, 0)], (18, .if_icmp .ne 9, 27, 21, 0)),
  (21, [(21, .iinc 3 1, 1, 0, 0)], (24, .goto (-22), 2, 27, 0)),
  (27, [(27, .aload_n 0, 0, 0, 0), (28, .iload_n 3, 0, 0, 0)], (29, .invokevirtual 278, 0, 32, 917)),
  (32, [], (32, .ifCond .eq 28, 60, 35, 0)),
  (35, [(35, .iload_n 3, 0, 0, 0), (36, .aload_n 0, 0, 0, 0), (37, .getfield 81, 8, 1, 632)], (40, .if_icmp .ge (-38), 2, 43, 0)),
  (43, [(43, .aload_n 0, 0, 0, 0), (44, .getfield 7, 8, 0, 631), (47, .iload_n 3, 0, 0, 0), (48, .iaload, 0, 0, 0), (49, .bipush 32, 32, 0, 0)], (51, .if_icmp .eq (-49), 2, 54, 0)),
  (54, [(54, .iinc 3 1, 1, 0, 0)], (57, .goto (-22), 35, 60, 0)),
  (60, [(60, .aload_n 0, 0, 0, 0), (61, .getfield 85, 8, 6, 637), (64, .bipush 80, 80, 0, 0)], (66, .if_icmp .ne 7, 73, 69, 0)),
  (69, [(69, .aload_n 0, 0, 0, 0)], (70, .invokevirtual 171, 0, 73, 796)),
  (73, [(73, .aload_n 0, 0, 0, 0), (74, .getfield 85, 8, 6, 637)], (77, .ifCond .ne 7, 84, 80, 0)),
  (80, [(80, .iconst 0, 0, 0, 0)], (81, .goto 14, 95, 84, 0)),
  (84, [(84, .aload_n 0, 0, 0, 0), (85, .getfield 19, 8, 5, 636), (88, .aload_n 0, 0, 0, 0), (89, .getfield 85, 8, 6, 637), (92, .iconst 1, 1, 0, 0), (93, .isub, 0, 0, 0), (94, .iaload, 0, 0, 0)], (95, .nop, 0, 0, 0)),
  (95, [(95, .istore 4, 0, 0, 0)], (97, .nop, 0, 0, 0)),
  (97, [(97, .iload_n 3, 0, 0, 0), (98, .aload_n 0, 0, 0, 0), (99, .getfield 81, 8, 1, 632)], (102, .if_icmp .ge 38, 140, 105, 0)),
  (105, [(105, .aload_n 0, 0, 0, 0), (106, .getfield 7, 8, 0, 631), (109, .iload_n 3, 0, 0, 0), (110, .iaload, 0, 0, 0), (111, .bipush 32, 32, 0, 0)], (113, .if_icmp .eq 27, 140, 116, 0)),
  (116, [(116, .aload_n 0, 0, 0, 0), (117, .getfield 16, 8, 4, 635), (120, .iload 4, 0, 0, 0), (122, .aload_n 0, 0, 0, 0), (123, .getfield 7, 8, 0, 631), (126, .iload_n 3, 0, 0, 0), (127, .iaload, 0, 0, 0), (128, .iload_n 2, 0, 0, 0), (129, .ior, 0, 0, 0), (130, .iastore, 0, 0, 0), (131, .iinc 4 1, 1, 0, 0), (134, .iinc 3 1, 1, 0, 0)], (137, .goto (-40), 97, 140, 0)),
  (140, [(140, .aload_n 0, 0, 0, 0), (141, .getfield 19, 8, 5, 636), (144, .aload_n 0, 0, 0, 0), (145, .getfield 85, 8, 6, 637), (148, .iload 4, 0, 0, 0), (150, .iastore, 0, 0, 0), (151, .aload_n 0, 0, 0, 0), (152, .dup, 0, 0, 0), (153, .getfield 85, 8, 6, 637), (156, .iconst 1, 1, 0, 0), (157, .iadd, 0, 0, 0), (158, .putfield 85, 8, 6, 637)], (161, .goto (-159), 2, 164, 0)),
  (164, [], (164, .return_, 0, 0, 0))]
def mMd_readWords : MR := (⟨"PageFormatterModel", "readWords", "(II)V"⟩, prog_10_method_35_code, 5, (Option.none : Option Jvm.ClassFile.FieldType), 7, 176, bMd_readWords, 916, 915, 51, 63, 2)
set_option maxRecDepth 100000 in
theorem okMd_readWords : MOK mMd_readWords := ⟨by decide +kernel, by decide +kernel⟩
def bMd_isBare : List BLK := [
  (0, [(0, .iconst 1, 1, 0, 0), (1, .istore_n 2, 0, 0, 0), (2, .iload_n 1, 0, 0, 0), (3, .istore_n 3, 0, 0, 0)], (4, .nop, 0, 0, 0)),
  (4, [(4, .iload_n 3, 0, 0, 0), (5, .aload_n 0, 0, 0, 0), (6, .getfield 81, 8, 1, 632)], (9, .if_icmp .ge 41, 50, 12, 0)),
  (12, [(12, .aload_n 0, 0, 0, 0), (13, .getfield 7, 8, 0, 631), (16, .iload_n 3, 0, 0, 0), (17, .iaload, 0, 0, 0), (18, .bipush 32, 32, 0, 0)], (20, .if_icmp .eq 30, 50, 23, 0)),
  (23, [(23, .iload_n 2, 0, 0, 0)], (24, .ifCond .eq 18, 42, 27, 0)),
  (27, [(27, .aload_n 0, 0, 0, 0), (28, .getfield 7, 8, 0, 631), (31, .iload_n 3, 0, 0, 0), (32, .iaload, 0, 0, 0), (33, .bipush 94, 94, 0, 0)], (35, .if_icmp .ne 7, 42, 38, 0)),
  (38, [(38, .iconst 1, 1, 0, 0)], (39, .goto 4, 43, 42, 0)),
  (42, [(42, .iconst 0, 0, 0, 0)], (43, .nop, 0, 0, 0)),
  (43, [(43, .istore_n 2, 0, 0, 0), (44, .iinc 3 1, 1, 0, 0)], (47, .goto (-43), 4, 50, 0)),
  (50, [(50, .iload_n 2, 0, 0, 0)], (51, .ireturn, 0, 0, 0))]
def mMd_isBare : MR := (⟨"PageFormatterModel", "isBare", "(I)Z"⟩, prog_10_method_36_code, 4, (Option.some Jvm.ClassFile.FieldType.boolean), 0, 0, bMd_isBare, 920, 919, 52, 63, 1)
set_option maxRecDepth 100000 in
theorem okMd_isBare : MOK mMd_isBare := ⟨by decide +kernel, by decide +kernel⟩
def bMd_enter : List BLK := [
  (0, [(0, .aload_n 0, 0, 0, 0), (1, .getfield 151, 8, 42, 673), (4, .istore_n 1, 0, 0, 0), (5, .aload_n 0, 0, 0, 0), (6, .getfield 81, 8, 1, 632)], (9, .ifCond .le 21, 30, 12, 0)),
  (12, [(12, .aload_n 0, 0, 0, 0), (13, .getfield 7, 8, 0, 631), (16, .iconst 0, 0, 0, 0), (17, .iaload, 0, 0, 0), (18, .bipush 46, 46, 0, 0)], (20, .if_icmp .ne 10, 30, 23, 0)),
  (23, [(23, .aload_n 0, 0, 0, 0)], (24, .invokevirtual 282, 0, 27, 788)),
  (27, [], (27, .goto 7, 34, 30, 0)),
  (30, [(30, .aload_n 0, 0, 0, 0)], (31, .invokevirtual 284, 0, 34, 905)),
  (34, [(34, .aload_n 0, 0, 0, 0), (35, .iconst 0, 0, 0, 0), (36, .putfield 81, 8, 1, 632), (39, .aload_n 0, 0, 0, 0), (40, .getfield 151, 8, 42, 673), (43, .iload_n 1, 0, 0, 0), (44, .isub, 0, 0, 0)], (45, .ireturn, 0, 0, 0))]
def mMd_enter : MR := (⟨"PageFormatterModel", "enter", "()I"⟩, prog_10_method_37_code, 2, (Option.some Jvm.ClassFile.FieldType.int), 10, 240, bMd_enter, 787, 785, 786, 63, 0)
set_option maxRecDepth 100000 in
theorem okMd_enter : MOK mMd_enter := ⟨by decide +kernel, by decide +kernel⟩
end
section
def bMd_finish : List BLK := [
  (0, [(0, .aload_n 0, 0, 0, 0), (1, .getfield 151, 8, 42, 673), (4, .istore_n 1, 0, 0, 0), (5, .aload_n 0, 0, 0, 0)], (6, .invokevirtual 171, 0, 9, 796)),
  (9, [(9, .aload_n 0, 0, 0, 0), (10, .getfield 116, 8, 34, 665)], (13, .ifCond .le 9, 22, 16, 0)),
  (16, [(16, .aload_n 0, 0, 0, 0), (17, .bipush 99, 99, 0, 0)], (19, .invokevirtual 262, 0, 22, 897)),
  (22, [(22, .aload_n 0, 0, 0, 0)], (23, .invokevirtual 78, 0, 26, 627)),
  (26, [(26, .aload_n 0, 0, 0, 0), (27, .getfield 151, 8, 42, 673), (30, .iload_n 1, 0, 0, 0), (31, .isub, 0, 0, 0)], (32, .ireturn, 0, 0, 0))]
def mMd_finish : MR := (⟨"PageFormatterModel", "finish", "()I"⟩, prog_10_method_38_code, 2, (Option.some Jvm.ClassFile.FieldType.int), 8, 198, bMd_finish, 924, 922, 923, 63, 0)
set_option maxRecDepth 100000 in
theorem okMd_finish : MOK mMd_finish := ⟨by decide +kernel, by decide +kernel⟩
def bMd_wipe : List BLK := [
  (0, [(0, .aload_n 0, 0, 0, 0), (1, .getfield 137, 8, 24, 655), (4, .istore_n 1, 0, 0, 0), (5, .aload_n 0, 0, 0, 0), (6, .iconst 0, 0, 0, 0), (7, .putfield 137, 8, 24, 655), (10, .iload_n 1, 0, 0, 0)], (11, .ireturn, 0, 0, 0))]
def mMd_wipe : MR := (⟨"PageFormatterModel", "wipe", "()I"⟩, prog_10_method_39_code, 2, (Option.some Jvm.ClassFile.FieldType.int), 0, 0, bMd_wipe, 928, 926, 927, 63, 0)
set_option maxRecDepth 100000 in
theorem okMd_wipe : MOK mMd_wipe := ⟨by decide +kernel, by decide +kernel⟩
def bMd_length : List BLK := [
  (0, [(0, .aload_n 0, 0, 0, 0), (1, .getfield 137, 8, 24, 655)], (4, .ireturn, 0, 0, 0))]
def mMd_length : MR := (⟨"PageFormatterModel", "length", "()I"⟩, prog_10_method_40_code, 1, (Option.some Jvm.ClassFile.FieldType.int), 0, 0, bMd_length, 932, 930, 931, 63, 0)
set_option maxRecDepth 100000 in
theorem okMd_length : MOK mMd_length := ⟨by decide +kernel, by decide +kernel⟩
def bMd_at : List BLK := [
  (0, [(0, .iload_n 1, 0, 0, 0), (1, .iconst 0, 0, 0, 0), (2, .aload_n 0, 0, 0, 0), (3, .getfield 137, 8, 24, 655), (6, .iconst 1, 1, 0, 0), (7, .isub, 0, 0, 0)], (8, .invokestatic 131, 0, 11, 780)),
  (11, [], (11, .ifCond .eq 12, 23, 14, 0)),
  (14, [(14, .aload_n 0, 0, 0, 0), (15, .getfield 69, 8, 23, 654), (18, .iload_n 1, 0, 0, 0), (19, .iaload, 0, 0, 0)], (20, .goto 4, 24, 23, 0)),
  (23, [(23, .iconst (-1), 0, 1, 0)], (24, .nop, 0, 0, 0)),
  (24, [], (24, .ireturn, 0, 0, 0))]
def mMd_at : MR := (⟨"PageFormatterModel", "at", "(I)I"⟩, prog_10_method_41_code, 2, (Option.some Jvm.ClassFile.FieldType.int), 1, 22, bMd_at, 936, 934, 935, 63, 1)
set_option maxRecDepth 100000 in
theorem okMd_at : MOK mMd_at := ⟨by decide +kernel, by decide +kernel⟩
def bMd_demerits : List BLK := [
  (0, [(0, .aload_n 0, 0, 0, 0), (1, .getfield 47, 8, 15, 646)], (4, .lreturn, 0, 0, 0))]
def mMd_demerits : MR := (⟨"PageFormatterModel", "demerits", "()J"⟩, prog_10_method_42_code, 1, (Option.some Jvm.ClassFile.FieldType.long), 0, 0, bMd_demerits, 940, 938, 939, 63, 0)
set_option maxRecDepth 100000 in
theorem okMd_demerits : MOK mMd_demerits := ⟨by decide +kernel, by decide +kernel⟩
def bMd_line : List BLK := [
  (0, [(0, .iload_n 1, 0, 0, 0), (1, .iconst 0, 0, 0, 0), (2, .aload_n 0, 0, 0, 0), (3, .getfield 225, 8, 16, 647), (6, .iconst 1, 1, 0, 0), (7, .isub, 0, 0, 0)], (8, .invokestatic 131, 0, 11, 780)),
  (11, [], (11, .ifCond .ne 5, 16, 14, 0)),
  (14, [(14, .iconst (-1), 0, 1, 0)], (15, .ireturn, 0, 0, 0)),
  (16, [(16, .iload_n 2, 0, 0, 0)], (17, .tableswitch 89 0 5 #[39, 46, 53, 60, 67, 82], 39, 39, 0)),
  (56, [(56, .aload_n 0, 0, 0, 0), (57, .getfield 51, 8, 17, 648), (60, .iload_n 1, 0, 0, 0), (61, .iaload, 0, 0, 0)], (62, .ireturn, 0, 0, 0)),
  (63, [(63, .aload_n 0, 0, 0, 0), (64, .getfield 54, 8, 18, 649), (67, .iload_n 1, 0, 0, 0), (68, .iaload, 0, 0, 0)], (69, .ireturn, 0, 0, 0)),
  (70, [(70, .aload_n 0, 0, 0, 0), (71, .getfield 57, 8, 19, 650), (74, .iload_n 1, 0, 0, 0), (75, .iaload, 0, 0, 0)], (76, .ireturn, 0, 0, 0)),
  (77, [(77, .aload_n 0, 0, 0, 0), (78, .getfield 60, 8, 20, 651), (81, .iload_n 1, 0, 0, 0), (82, .iaload, 0, 0, 0)], (83, .ireturn, 0, 0, 0)),
  (84, [(84, .aload_n 0, 0, 0, 0), (85, .getfield 63, 8, 21, 652), (88, .iload_n 1, 0, 0, 0), (89, .baload, 0, 0, 0)], (90, .ifCond .eq 7, 97, 93, 0)),
  (93, [(93, .iconst 1, 1, 0, 0)], (94, .goto 4, 98, 97, 0)),
  (97, [(97, .iconst 0, 0, 0, 0)], (98, .nop, 0, 0, 0)),
  (98, [], (98, .ireturn, 0, 0, 0)),
  (99, [(99, .aload_n 0, 0, 0, 0), (100, .getfield 66, 8, 22, 653), (103, .iload_n 1, 0, 0, 0), (104, .iaload, 0, 0, 0)], (105, .ireturn, 0, 0, 0)),
  (106, [(106, .bipush (-2), 1, 1, 0)], (108, .ireturn, 0, 0, 0))]
def mMd_line : MR := (⟨"PageFormatterModel", "line", "(II)I"⟩, prog_10_method_43_code, 3, (Option.some Jvm.ClassFile.FieldType.int), 1, 22, bMd_line, 944, 942, 943, 63, 2)
set_option maxRecDepth 100000 in
theorem okMd_line : MOK mMd_line := ⟨by decide +kernel, by decide +kernel⟩
def bMd_count : List BLK := [
  (0, [(0, .iload_n 1, 0, 0, 0)], (1, .tableswitch 114 0 10 #[59, 64, 69, 74, 79, 84, 89, 94, 99, 104, 109], 59, 59, 0)),
  (60, [(60, .aload_n 0, 0, 0, 0), (61, .getfield 85, 8, 6, 637)], (64, .ireturn, 0, 0, 0)),
  (65, [(65, .aload_n 0, 0, 0, 0), (66, .getfield 116, 8, 34, 665)], (69, .ireturn, 0, 0, 0)),
  (70, [(70, .aload_n 0, 0, 0, 0), (71, .getfield 119, 8, 35, 666)], (74, .ireturn, 0, 0, 0)),
  (75, [(75, .aload_n 0, 0, 0, 0), (76, .getfield 122, 8, 36, 667)], (79, .ireturn, 0, 0, 0)),
  (80, [(80, .aload_n 0, 0, 0, 0), (81, .getfield 104, 8, 30, 661)], (84, .ireturn, 0, 0, 0)),
  (85, [(85, .aload_n 0, 0, 0, 0), (86, .getfield 98, 8, 28, 659)], (89, .ireturn, 0, 0, 0)),
  (90, [(90, .aload_n 0, 0, 0, 0), (91, .getfield 101, 8, 29, 660)], (94, .ireturn, 0, 0, 0)),
  (95, [(95, .aload_n 0, 0, 0, 0), (96, .getfield 95, 8, 27, 658)], (99, .ireturn, 0, 0, 0)),
  (100, [(100, .aload_n 0, 0, 0, 0), (101, .getfield 107, 8, 31, 662)], (104, .ireturn, 0, 0, 0)),
  (105, [(105, .aload_n 0, 0, 0, 0), (106, .getfield 110, 8, 32, 663)], (109, .ireturn, 0, 0, 0)),
  (110, [(110, .aload_n 0, 0, 0, 0), (111, .getfield 113, 8, 33, 664)], (114, .ireturn, 0, 0, 0)),
  (115, [(115, .aload_n 0, 0, 0, 0), (116, .iload_n 1, 0, 0, 0)], (117, .invokevirtual 287, 0, 120, 949)),
  (120, [], (120, .ireturn, 0, 0, 0))]
def mMd_count : MR := (⟨"PageFormatterModel", "count", "(I)I"⟩, prog_10_method_44_code, 2, (Option.some Jvm.ClassFile.FieldType.int), 1, 21, bMd_count, 948, 946, 947, 63, 1)
set_option maxRecDepth 100000 in
theorem okMd_count : MOK mMd_count := ⟨by decide +kernel, by decide +kernel⟩
def bMd_count2 : List BLK := [
  (0, [(0, .iload_n 1, 0, 0, 0)], (1, .tableswitch 85 11 16 #[39, 52, 65, 70, 75, 80], 39, 39, 0)),
  (40, [(40, .aload_n 0, 0, 0, 0), (41, .getfield 88, 8, 25, 656)], (44, .ifCond .eq 7, 51, 47, 0)),
  (47, [(47, .iconst 1, 1, 0, 0)], (48, .goto 4, 52, 51, 0)),
  (51, [(51, .iconst 0, 0, 0, 0)], (52, .nop, 0, 0, 0)),
  (52, [], (52, .ireturn, 0, 0, 0)),
  (53, [(53, .aload_n 0, 0, 0, 0), (54, .getfield 92, 8, 26, 657)], (57, .ifCond .eq 7, 64, 60, 0)),
  (60, [(60, .iconst 1, 1, 0, 0)], (61, .goto 4, 65, 64, 0)),
  (64, [(64, .iconst 0, 0, 0, 0)], (65, .nop, 0, 0, 0)),
  (65, [], (65, .ireturn, 0, 0, 0)),
  (66, [(66, .aload_n 0, 0, 0, 0), (67, .getfield 225, 8, 16, 647)], (70, .ireturn, 0, 0, 0)),
  (71, [(71, .aload_n 0, 0, 0, 0), (72, .getfield 269, 8, 41, 672)], (75, .ireturn, 0, 0, 0)),
  (76, [(76, .aload_n 0, 0, 0, 0), (77, .getfield 151, 8, 42, 673)], (80, .ireturn, 0, 0, 0)),
  (81, [(81, .aload_n 0, 0, 0, 0), (82, .getfield 81, 8, 1, 632)], (85, .ireturn, 0, 0, 0)),
  (86, [(86, .bipush (-2), 1, 1, 0)], (88, .ireturn, 0, 0, 0))]
def mMd_count2 : MR := (⟨"PageFormatterModel", "count2", "(I)I"⟩, prog_10_method_45_code, 2, (Option.some Jvm.ClassFile.FieldType.int), 0, 0, bMd_count2, 952, 951, 53, 63, 1)
set_option maxRecDepth 100000 in
theorem okMd_count2 : MOK mMd_count2 := ⟨by decide +kernel, by decide +kernel⟩
end
section
/-! ===== views of the store ===== -/
/-- nothing but the cells S has changed -/
def Fr (S : List Nat) (σ σ' : St2) : Prop := ∀ c, c ∉ S → σ'.1 c = σ.1 c ∧ σ'.2 c = σ.2 c
theorem Fr.rf {S : List Nat} {σ : St2} : Fr S σ σ := fun _ _ => ⟨rfl, rfl⟩
theorem Fr.tr {S : List Nat} {a b c : St2} (h1 : Fr S a b) (h2 : Fr S b c) : Fr S a c := fun q hq => ⟨(h2 q hq).1.trans (h1 q hq).1, (h2 q hq).2.trans (h1 q hq).2⟩
theorem Fr.wk {S T : List Nat} {a b : St2} (h : Fr S a b) (hs : ∀ c ∈ S, c ∈ T) : Fr T a b := fun q hq => h q (fun z => hq (hs q z))
theorem Fr.u1 {S : List Nat} {σ : St2} {c k : Nat} {x : Int32} (h : c ∈ S) : Fr S σ (up2 σ.1 c k x, σ.2) := fun q hq => ⟨up2_ne _ _ _ (fun e => hq (e ▸ h)), rfl⟩
theorem Fr.u2 {S : List Nat} {σ : St2} {c k : Nat} {x : Int64} (h : c ∈ S) : Fr S σ (σ.1, up2 σ.2 c k x) := fun q hq => ⟨rfl, up2_ne _ _ _ (fun e => hq (e ▸ h))⟩
theorem Fr.a1 {S : List Nat} {σ σ' : St2} {c : Nat} (h : Fr S σ σ') (hc : c ∉ S) : σ'.1 c = σ.1 c := (h c hc).1
theorem Fr.a2 {S : List Nat} {σ σ' : St2} {c : Nat} (h : Fr S σ σ') (hc : c ∉ S) : σ'.2 c = σ.2 c := (h c hc).2
/-- the first cells of an array of ints are these numbers -/
def RowAt (σ : St2) (c : Nat) (x : List Nat) : Prop := ∀ j, j < x.length → σ.1 c j = nI (x.getD j 0)
theorem RowAt.fr {S : List Nat} {σ σ' : St2} {c : Nat} {x : List Nat} (h : RowAt σ c x) (hf : Fr S σ σ') (hc : c ∉ S) : RowAt σ' c x := fun j hj => by rw [hf.a1 hc]; exact h j hj
theorem RowAt.nil {σ : St2} {c : Nat} : RowAt σ c [] := fun j hj => absurd hj (Nat.not_lt_zero j)
theorem RowAt.push {σ σ' : St2} {c : Nat} {x : List Nat} {b : Nat} (h : RowAt σ c x) (h1 : σ'.1 c x.length = nI b) (h2 : ∀ j, j < x.length → σ'.1 c j = σ.1 c j) : RowAt σ' c (x ++ [b]) := by
  intro j hj
  rw [List.length_append, List.length_singleton] at hj
  by_cases e : j = x.length
  · subst e
    rw [h1]
    simp
  · rw [h2 j (by omega), h j (by omega)]
    simp [List.getElem?_append_left (show j < x.length by omega)]
theorem RowAt.take {σ : St2} {c n : Nat} {x : List Nat} (h : RowAt σ c x) : RowAt σ c (x.take n) := by
  intro j hj
  have hj' : j < x.length := by rw [List.length_take] at hj; omega
  have hn : j < n := by rw [List.length_take] at hj; omega
  rw [h j hj']
  simp [List.getD_eq_getElem?_getD, List.getElem?_take, hn]
theorem nI_byte {b : Nat} (h : b < 128) : (nI b).toInt8.toInt32 = nI b := by
  have key : ∀ b : Fin 128, ((nI b.val).toInt8.toInt32 = nI b.val) := by decide
  exact key ⟨b, h⟩
theorem nI_bit {b : Nat} (h : b < 2) : nI b &&& 1 = nI b := by
  have key : ∀ b : Fin 2, (nI b.val &&& 1 = nI b.val) := by decide
  exact key ⟨b, h⟩
theorem mI_neg (k : Nat) (h : k < 1000) : mI k < 0 := by
  have key : ∀ b : Fin 1000, mI b.val < 0 := by decide +kernel
  exact key ⟨k, h⟩
theorem nI_neg {n : Nat} (h : n < 2 ^ 31) : ¬ nI n < 0 := nI_pos h
theorem nI_cl {n : Nat} (h : n < 2 ^ 31) : (nI n).toNatClampNeg = n := nI_clamp h
theorem nI_mI {a k : Nat} (ha : a < 2 ^ 31) (hk : k < 1000) : nI a ≠ mI k := fun e => nI_neg ha (by rw [e]; exact mI_neg k hk)
theorem vp_nI {n N : Nat} (h : n < N) (hN : N < 2 ^ 31) : vp_in (nI n) N := vp_in_nI h hN
/-! texts of the class: at the cells 1, 8, 10 -/
def TextAt (σ : St2) (t : Nat) (x : List Nat) : Prop := x.length ≤ 100 ∧ σ.1 t 1 = nI x.length ∧ RowAt σ (t + 1) x
theorem TextAt.fr {S : List Nat} {σ σ' : St2} {t : Nat} {x : List Nat} (h : TextAt σ t x) (hf : Fr S σ σ') (h1 : t ∉ S) (h2 : t + 1 ∉ S) : TextAt σ' t x := ⟨h.1, by rw [hf.a1 h1]; exact h.2.1, h.2.2.fr hf h2⟩
/-- byte i of a text, -1 beyond -/
def tb (x : List Nat) (i : Int32) : Int32 := if i < 0 then mI 0 else if nI x.length ≤ i then mI 0 else nI (x.getD i.toNatClampNeg 0)
theorem tb_nI {x : List Nat} {j : Nat} (hx : x.length ≤ 100) (hj : j < 2 ^ 31) : tb x (nI j) = if j < x.length then nI (x.getD j 0) else mI 0 := by
  unfold tb
  rw [if_neg (nI_neg hj), nI_cl hj]
  by_cases h : j < x.length
  · rw [if_neg (nI_ge h (by omega)), if_pos h]
  · rw [if_pos (nI_le (by omega) hj), if_neg h]
end
section
/-! ===== the class's texts ===== -/
section TX
variable {lc : Launch} {G : GG} {σ : St2} {Q : Option Value → St2 → Prop} {t : Nat} {x : List Nat}
theorem sp_byteAt (ht : t = 1 ∨ t = 8 ∨ t = 10) (hx : TextAt σ t x) {i : Int32} (k : Q (some (.int (tb x i))) σ) : Ev lc G mTx_byteAt 0 [some (.ref t), some (.int i)] [] σ Q := by
  obtain ⟨h1, h2, h3⟩ := hx
  rcases ht with rfl | rfl | rfl <;> (
    refine ev_if_lt okTx_byteAt rfl rfl trivial (fun h => ?_) (fun h => ?_)
    · refine ev_nop okTx_byteAt rfl rfl trivial (ev_ri okTx_byteAt rfl rfl trivial rfl ?_)
      rw [tb, if_pos h] at k
      exact k
    · refine ev_ic_ge okTx_byteAt rfl rfl trivial (fun g => ?_) (fun g => ?_)
      · refine ev_nop okTx_byteAt rfl rfl trivial (ev_ri okTx_byteAt rfl rfl trivial rfl ?_)
        rw [h2] at g
        rw [tb, if_neg h, if_pos g] at k
        exact k
      · rw [h2] at g
        obtain ⟨j, hj, rfl⟩ := nI_of h
        have hlt : j < x.length := (Nat.lt_or_ge j x.length).resolve_right (fun q => g (nI_le q hj))
        refine ev_goto okTx_byteAt rfl rfl ⟨vp_nI (by omega) (by decide), trivial⟩ (ev_ri okTx_byteAt rfl rfl trivial rfl ?_)
        rw [tb_nI h1 hj, if_pos hlt] at k
        rw [nI_cl hj]
        rw [← h3 j hlt] at k
        exact k)
theorem sp_add (ht : t = 1 ∨ t = 8 ∨ t = 10) (hx : TextAt σ t x) (hl : x.length < 100) {b : Nat} (hb : b < 128) (k : ∀ σ', TextAt σ' t (x ++ [b]) → Fr [t, t + 1] σ σ' → (∀ j, j ≠ x.length → σ'.1 (t + 1) j = σ.1 (t + 1) j) → Q none σ') : Ev lc G mTx_add 0 [some (.ref t), some (.int (nI b))] [] σ Q := by
  obtain ⟨h1, h2, h3⟩ := hx
  rcases ht with rfl | rfl | rfl <;> (
    refine ev_ic_ge okTx_add rfl rfl trivial (fun h => ?_) (fun h => ?_)
    · rw [h2] at h
      exact absurd h (nI_ge hl (by decide))
    · refine ev_nop okTx_add rfl rfl ⟨by rw [h2]; exact vp_nI hl (by decide), trivial⟩ (ev_rv okTx_add rfl rfl trivial rfl ?_)
      refine k _ ⟨by simp; omega, ?_, RowAt.push h3 ?_ fun j hj => ?_⟩ ?_ ?_
      · simp [up2, h2, nI_add]
      · simp [up2, h2, nI_cl (show x.length < 2 ^ 31 by omega), nI_byte hb]
      · simp [up2, h2, nI_cl (show x.length < 2 ^ 31 by omega), Nat.ne_of_lt hj]
      · exact Fr.tr (Fr.u1 (by decide)) (Fr.u1 (σ := (_, _)) (by decide))
      · intro j hj
        simp [up2, h2, nI_cl (show x.length < 2 ^ 31 by omega), hj])
theorem gD {x : List Nat} {j : Nat} (h : j < x.length) : x.getD j 0 = x[j] := by simp [h]
theorem gD0 {x : List Nat} {j : Nat} (h : x.length ≤ j) : x.getD j 0 = 0 := by simp [h]
/-- where the first byte from there on is that is no blank -/
def pbl (x : List Nat) (i : Nat) : Nat := i + ((x.drop i).takeWhile (fun b => b == 32)).length
theorem pbl_hit {x : List Nat} {i : Nat} (h : i < x.length) (hb : x.getD i 0 = 32) : pbl x i = pbl x (i + 1) := by
  unfold pbl
  rw [List.drop_eq_getElem_cons h]
  have : x[i] = 32 := by rw [gD h] at hb; exact hb
  rw [List.takeWhile_cons, this]
  simp
  omega
theorem pbl_stop {x : List Nat} {i : Nat} (h : i < x.length) (hb : x.getD i 0 ≠ 32) : pbl x i = i := by
  unfold pbl
  rw [List.drop_eq_getElem_cons h]
  have : x[i] ≠ 32 := by rw [gD h] at hb; exact hb
  rw [List.takeWhile_cons]
  simp [this]
theorem pbl_end {x : List Nat} {i : Nat} (h : x.length ≤ i) : pbl x i = i := by
  unfold pbl
  rw [List.drop_eq_nil_of_le h]
  simp
theorem getD_lt {x : List Nat} {j : Nat} {N : Nat} (hb : ∀ b ∈ x, b < N) (hN : 0 < N) : x.getD j 0 < N := by
  by_cases h : j < x.length
  · rw [gD h]; exact hb _ (List.getElem_mem h)
  · rw [gD0 (by omega)]; exact hN
theorem lp_passBlanks (ht : t = 1 ∨ t = 8 ∨ t = 10) (hx : TextAt σ t x) (hb : ∀ b ∈ x, b < 128) : ∀ (n i : Nat), i ≤ 1000 → x.length ≤ i + n → Q (some (.int (nI (pbl x i)))) σ → Ev lc G mTx_passBlanks 2 [some (.ref t), none, some (.int (nI i))] [] σ Q := by
  intro n
  induction n with
  | zero =>
    intro i hi hn k
    rw [pbl_end (show x.length ≤ i from hn)] at k
    rcases ht with rfl | rfl | rfl <;> (
      refine ev_ic_ge okTx_passBlanks rfl rfl trivial (fun h => ev_ri okTx_passBlanks rfl rfl trivial rfl k) (fun h => ?_)
      rw [hx.2.1] at h
      exact absurd (nI_le hn (by omega)) h)
  | succ n ih =>
    intro i hi hn k
    have hlen := hx.1
    rcases ht with rfl | rfl | rfl <;> (
      refine ev_ic_ge okTx_passBlanks rfl rfl trivial (fun h => ?_) (fun h => ?_)
      · rw [hx.2.1] at h
        rw [pbl_end ((nI_leI (by omega) (by omega)).mp h)] at k
        exact ev_ri okTx_passBlanks rfl rfl trivial rfl k
      · rw [hx.2.1] at h
        have hlt : i < x.length := (Nat.lt_or_ge i x.length).resolve_right (fun q => h (nI_le q (by omega)))
        refine ev_cv okTx_passBlanks okTx_byteAt rfl rfl trivial rfl (by decide +kernel) rfl rfl (sp_byteAt (by decide) hx ?_)
        rw [tb_nI hlen (by omega), if_pos hlt]
        have hbb := getD_lt (j := i) hb (by decide)
        refine ev_ic_ne okTx_passBlanks rfl rfl trivial (fun g => ?_) (fun g => ?_)
        · rw [pbl_stop hlt (fun e => g (by rw [e]))] at k
          exact ev_ri okTx_passBlanks rfl rfl trivial rfl k
        · have e : x.getD i 0 = 32 := (nI_eq (by omega) (by decide)).mp g
          rw [pbl_hit hlt e] at k
          refine ev_goto okTx_passBlanks rfl rfl trivial ?_
          rw [nI_add]
          exact ih (i + 1) (by omega) (by omega) k)
theorem sp_passBlanks (ht : t = 1 ∨ t = 8 ∨ t = 10) (hx : TextAt σ t x) (hb : ∀ b ∈ x, b < 128) {i : Nat} (hi : i ≤ 1000) (k : Q (some (.int (nI (pbl x i)))) σ) : Ev lc G mTx_passBlanks 0 [some (.ref t), some (.int (nI i)), none] [] σ Q := by
  rcases ht with rfl | rfl | rfl <;> exact ev_nop okTx_passBlanks rfl rfl trivial (ev_lv [some (.ref _), none, some (.int (nI i))] ⟨rfl, rfl, trivial⟩ (lp_passBlanks (by decide) hx hb x.length i hi (by omega) k))
end TX
end
section
/-! ===== the class's texts: the rest ===== -/
section TX2
variable {lc : Launch} {G : GG} {σ : St2} {Q : Option Value → St2 → Prop} {t : Nat} {x : List Nat}
def b2 (b : Bool) : Int32 := if b then nI 1 else nI 0
theorem sp_leadingBlanks (hx : TextAt σ 1 x) (hb : ∀ b ∈ x, b < 128) (k : Q (some (.int (nI (pbl x 0)))) σ) : Ev lc G mTx_leadingBlanks 0 [some (.ref 1)] [] σ Q :=
  ev_cv okTx_leadingBlanks okTx_passBlanks rfl rfl trivial rfl (by decide +kernel) rfl rfl (sp_passBlanks (i := 0) (Or.inl rfl) hx hb (by decide) (ev_ri okTx_leadingBlanks rfl rfl trivial rfl k))
def hasL (x : List Nat) (i to : Nat) : Bool := ((x.take to).drop i).any (fun b => b != 94)
theorem td_cons {x : List Nat} {i to : Nat} (h : i < to) (ht : to ≤ x.length) : (x.take to).drop i = x.getD i 0 :: (x.take to).drop (i + 1) := by
  have hl : i < (x.take to).length := by rw [List.length_take]; omega
  rw [List.drop_eq_getElem_cons hl]
  congr 1
  rw [List.getElem_take, gD]
theorem td_nil {x : List Nat} {i to : Nat} (h : to ≤ i) : (x.take to).drop i = [] := List.drop_eq_nil_of_le (by rw [List.length_take]; omega)
theorem td_snoc {x : List Nat} {i j : Nat} (h : j ≤ i) (hi : i < x.length) : (x.take (i + 1)).drop j = (x.take i).drop j ++ [x.getD i 0] := by
  rw [List.take_succ, List.getElem?_eq_getElem hi, List.drop_append_of_le_length (by rw [List.length_take]; omega), gD hi]
  rfl
theorem lp_hasLetters (hx : TextAt σ 1 x) (hb : ∀ b ∈ x, b < 128) {to : Nat} (ht : to ≤ x.length) : ∀ (n i : Nat), i ≤ 1000 → to ≤ i + n → Q (some (.int (b2 (hasL x i to)))) σ → Ev lc G mTx_hasLetters 2 [some (.ref 1), none, some (.int (nI to)), some (.int (nI i))] [] σ Q := by
  intro n
  have hlen := hx.1
  induction n with
  | zero =>
    intro i hi hn k
    refine ev_ic_ge okTx_hasLetters rfl rfl trivial (fun h => ev_rz okTx_hasLetters rfl rfl trivial rfl (Or.inl rfl) ?_) (fun h => absurd (nI_le hn (by omega)) h)
    unfold hasL at k
    rw [td_nil (show to ≤ i from hn)] at k
    exact k
  | succ n ih =>
    intro i hi hn k
    refine ev_ic_ge okTx_hasLetters rfl rfl trivial (fun h => ev_rz okTx_hasLetters rfl rfl trivial rfl (Or.inl rfl) ?_) (fun h => ?_)
    · unfold hasL at k
      rw [td_nil ((nI_leI (by omega) (by omega)).mp h)] at k
      exact k
    · have hlt : i < to := (Nat.lt_or_ge i to).resolve_right (fun q => h (nI_le q (by omega)))
      refine ev_cv okTx_hasLetters okTx_byteAt rfl rfl trivial rfl (by decide +kernel) rfl rfl (sp_byteAt (Or.inl rfl) hx ?_)
      rw [tb_nI hlen (by omega), if_pos (by omega)]
      have hbb := getD_lt (j := i) hb (by decide)
      refine ev_ic_eq okTx_hasLetters rfl rfl trivial (fun g => ?_) (fun g => ?_)
      · have e : x.getD i 0 = 94 := (nI_eq (by omega) (by decide)).mp g
        refine ev_goto okTx_hasLetters rfl rfl trivial ?_
        rw [nI_add]
        refine ih (i + 1) (by omega) (by omega) ?_
        have e2 : hasL x i to = hasL x (i + 1) to := by
          unfold hasL
          rw [td_cons hlt ht, e]
          rfl
        rw [e2] at k
        exact k
      · refine ev_rz okTx_hasLetters rfl rfl trivial rfl (Or.inr rfl) ?_
        have e2 : hasL x i to = true := by
          unfold hasL
          rw [td_cons hlt ht, List.any_cons]
          have : x.getD i 0 ≠ 94 := fun e => g (by rw [e])
          rw [show (x.getD i 0 != 94) = true from bne_iff_ne.mpr this, Bool.true_or]
        rw [e2] at k
        exact k
theorem sp_hasLetters (hx : TextAt σ 1 x) (hb : ∀ b ∈ x, b < 128) {i to : Nat} (ht : to ≤ x.length) (hi : i ≤ 1000) (k : Q (some (.int (b2 (hasL x i to)))) σ) : Ev lc G mTx_hasLetters 0 [some (.ref 1), some (.int (nI i)), some (.int (nI to)), none] [] σ Q :=
  ev_nop okTx_hasLetters rfl rfl trivial (ev_lv [some (.ref 1), none, some (.int (nI to)), some (.int (nI i))] ⟨rfl, rfl, rfl, trivial⟩ (lp_hasLetters hx hb ht to i hi (by omega) k))
theorem TextAt.empty (σ : St2) (t : Nat) : TextAt (up2 σ.1 t 1 (nI 0), σ.2) t [] := ⟨by decide, up2_same σ.1 t 1 (nI 0), RowAt.nil⟩
theorem lp_copyFrom (ht : t = 8 ∨ t = 10) {j : Nat} : ∀ (n i : Nat) (σ : St2), j ≤ i → i ≤ 1000 → x.length ≤ i + n → TextAt σ 1 x → (∀ b ∈ x, b < 128) → TextAt σ t ((x.take i).drop j) → (∀ σ', TextAt σ' t (x.drop j) → Fr [t, t + 1] σ σ' → Q none σ') → Ev lc G mTx_copyFrom 7 [some (.ref t), some (.ref 1), none, some (.int (nI i))] [] σ Q := by
  intro n
  induction n with
  | zero =>
    intro i σ hj hi hn hx hb hy k
    have e : (x.take i).drop j = x.drop j := by rw [List.take_of_length_le (by omega)]
    rw [e] at hy
    rcases ht with rfl | rfl <;> (
      refine ev_ic_ge okTx_copyFrom rfl rfl trivial (fun h => ev_rv okTx_copyFrom rfl rfl trivial rfl (k σ hy Fr.rf)) (fun h => ?_)
      rw [hx.2.1] at h
      exact absurd (nI_le hn (by omega)) h)
  | succ n ih =>
    intro i σ hj hi hn hx hb hy k
    have hlen := hx.1
    by_cases hlt : i < x.length
    · rcases ht with rfl | rfl <;> (
        refine ev_ic_ge okTx_copyFrom rfl rfl trivial (fun h => ?_) (fun h => ?_)
        · rw [hx.2.1] at h
          exact absurd h (nI_ge hlt (by omega))
        · refine ev_cv okTx_copyFrom okTx_byteAt rfl rfl trivial rfl (by decide +kernel) rfl rfl (sp_byteAt (Or.inl rfl) hx ?_)
          rw [tb_nI hlen (by omega), if_pos hlt]
          refine ev_cv okTx_copyFrom okTx_add rfl rfl trivial rfl (by decide +kernel) rfl rfl (sp_add (by decide) hy (by rw [List.length_drop, List.length_take]; omega) (getD_lt hb (by decide)) fun σ1 h1 h2 _ => ?_)
          refine ev_goto okTx_copyFrom rfl rfl trivial ?_
          rw [nI_add]
          exact ih (i + 1) σ1 (by omega) (by omega) (by omega) (hx.fr h2 (by decide) (by decide)) hb (by rw [td_snoc hj hlt]; exact h1) (fun σ' q1 q2 => k σ' q1 (h2.tr q2)))
    · have e : (x.take i).drop j = x.drop j := by rw [List.take_of_length_le (by omega)]
      rw [e] at hy
      rcases ht with rfl | rfl <;> (
        refine ev_ic_ge okTx_copyFrom rfl rfl trivial (fun h => ev_rv okTx_copyFrom rfl rfl trivial rfl (k σ hy Fr.rf)) (fun h => ?_)
        rw [hx.2.1] at h
        exact absurd (nI_le (Nat.le_of_not_lt hlt) (by omega)) h)
theorem sp_copyFrom (ht : t = 8 ∨ t = 10) {j : Nat} (hj : j ≤ 1000) (hx : TextAt σ 1 x) (hb : ∀ b ∈ x, b < 128) (k : ∀ σ', TextAt σ' t (x.drop j) → Fr [t, t + 1] σ σ' → Q none σ') : Ev lc G mTx_copyFrom 0 [some (.ref t), some (.ref 1), some (.int (nI j)), none] [] σ Q := by
  have hf : Fr [t, t + 1] σ (up2 σ.1 t 1 (nI 0), σ.2) := Fr.u1 List.mem_cons_self
  have h0 : TextAt (up2 σ.1 t 1 (nI 0), σ.2) t ((x.take j).drop j) := by
    rw [td_nil (Nat.le_refl j)]
    exact TextAt.empty σ _
  have h1 : TextAt (up2 σ.1 t 1 (nI 0), σ.2) 1 x := by
    rcases ht with rfl | rfl <;> exact hx.fr hf (by decide) (by decide)
  rcases ht with rfl | rfl <;> exact ev_nop okTx_copyFrom rfl rfl trivial (ev_lv [some (.ref _), some (.ref 1), none, some (.int (nI j))] ⟨rfl, rfl, rfl, trivial⟩ (lp_copyFrom (by decide) x.length j _ (Nat.le_refl j) hj (by omega) h1 hb h0 (fun σ' q1 q2 => k σ' q1 (hf.tr q2))))
/-- the text is rebuilt in its own place: of the old bytes those from the new end on stand -/
theorem lp_dropFirst {j : Nat} (h100 : x.length ≤ 100) (hb : ∀ b ∈ x, b < 128) : ∀ (n i : Nat) (σ : St2), j ≤ i → i ≤ x.length → x.length ≤ i + n → TextAt σ 1 ((x.take i).drop j) → (∀ q, i - j ≤ q → q < x.length → σ.1 2 q = nI (x.getD q 0)) → (∀ σ', TextAt σ' 1 (x.drop j) → Fr [1, 2] σ σ' → Q none σ') → Ev lc G mTx_dropFirst 12 [some (.ref 1), none, some (.int (nI x.length)), some (.int (nI i))] [] σ Q := by
  intro n
  induction n with
  | zero =>
    intro i σ hj hi hn hy _ k
    have e : (x.take i).drop j = x.drop j := by rw [List.take_of_length_le (by omega)]
    rw [e] at hy
    exact ev_ic_ge okTx_dropFirst rfl rfl trivial (fun h => ev_rv okTx_dropFirst rfl rfl trivial rfl (k σ hy Fr.rf)) (fun h => absurd (nI_le hn (by omega)) h)
  | succ n ih =>
    intro i σ hj hi hn hy hold k
    by_cases hlt : i < x.length
    · refine ev_ic_ge okTx_dropFirst rfl rfl trivial (fun h => absurd h (nI_ge hlt (by omega))) (fun h => ?_)
      refine ev_ic_ge okTx_dropFirst rfl rfl trivial (fun h => absurd h (nI_ge (by omega) (by decide))) (fun h => ?_)
      refine ev_cv okTx_dropFirst okTx_add rfl rfl ⟨vp_nI (by omega) (by decide), trivial⟩ rfl (by decide +kernel) rfl rfl ?_
      rw [nI_cl (by omega), hold i (by omega) hlt]
      have hl : ((x.take i).drop j).length = i - j := by rw [List.length_drop, List.length_take]; omega
      refine sp_add (Or.inl rfl) hy (by omega) (getD_lt hb (by decide)) fun σ1 h1 h2 h3 => ?_
      refine ev_goto okTx_dropFirst rfl rfl trivial ?_
      rw [nI_add]
      refine ih (i + 1) σ1 (by omega) (by omega) (by omega) (by rw [td_snoc hj hlt]; exact h1) (fun q q1 q2 => ?_) (fun σ' q1 q2 => k σ' q1 (h2.tr q2))
      rw [h3 q (by omega)]
      exact hold q (by omega) q2
    · have e : (x.take i).drop j = x.drop j := by rw [List.take_of_length_le (by omega)]
      rw [e] at hy
      exact ev_ic_ge okTx_dropFirst rfl rfl trivial (fun h => ev_rv okTx_dropFirst rfl rfl trivial rfl (k σ hy Fr.rf)) (fun h => absurd (nI_le (Nat.le_of_not_lt hlt) (by omega)) h)
theorem sp_dropFirst {j : Nat} (hj : j ≤ x.length) (hx : TextAt σ 1 x) (hb : ∀ b ∈ x, b < 128) (k : ∀ σ', TextAt σ' 1 (x.drop j) → Fr [1, 2] σ σ' → Q none σ') : Ev lc G mTx_dropFirst 0 [some (.ref 1), some (.int (nI j)), none, none] [] σ Q := by
  obtain ⟨h1, h2, h3⟩ := hx
  refine ev_nop okTx_dropFirst rfl rfl trivial ?_
  rw [h2]
  refine ev_lv [some (.ref 1), none, some (.int (nI x.length)), some (.int (nI j))] ⟨rfl, rfl, rfl, trivial⟩ (lp_dropFirst h1 hb x.length j _ (Nat.le_refl j) hj (by omega) ?_ ?_ (fun σ' q1 q2 => k σ' q1 (Fr.tr (Fr.u1 (by decide)) q2)))
  · rw [td_nil (Nat.le_refl j)]
    exact TextAt.empty σ _
  · intro q _ q2
    show up2 σ.1 1 1 (nI 0) 2 q = _
    rw [up2_ne _ _ _ (by decide)]
    exact h3 q q2
def noC (x : List Nat) : List Nat := x.filter (fun b => b != 94)
theorem noC_snoc {x : List Nat} {i : Nat} (hi : i < x.length) : noC (x.take (i + 1)) = noC (x.take i) ++ (if x.getD i 0 = 94 then [] else [x.getD i 0]) := by
  unfold noC
  rw [List.take_succ, List.getElem?_eq_getElem hi, List.filter_append, gD hi]
  by_cases e : x[i] = 94 <;> simp [e]
theorem noC_len (x : List Nat) (i : Nat) : (noC (x.take i)).length ≤ i := Nat.le_trans (List.length_filter_le _ _) (by rw [List.length_take]; omega)
theorem lp_dropCarets (h100 : x.length ≤ 100) (hb : ∀ b ∈ x, b < 128) : ∀ (n i : Nat) (σ : St2), i ≤ x.length → x.length ≤ i + n → TextAt σ 1 (noC (x.take i)) → (∀ q, i ≤ q → q < x.length → σ.1 2 q = nI (x.getD q 0)) → (∀ σ', TextAt σ' 1 (noC x) → Fr [1, 2] σ σ' → Q none σ') → Ev lc G mTx_dropCarets 12 [some (.ref 1), some (.int (nI x.length)), some (.int (nI i))] [] σ Q := by
  intro n
  induction n with
  | zero =>
    intro i σ hi hn hy _ k
    rw [List.take_of_length_le (by omega)] at hy
    exact ev_ic_ge okTx_dropCarets rfl rfl trivial (fun h => ev_rv okTx_dropCarets rfl rfl trivial rfl (k σ hy Fr.rf)) (fun h => absurd (nI_le hn (by omega)) h)
  | succ n ih =>
    intro i σ hi hn hy hold k
    by_cases hlt : i < x.length
    · refine ev_ic_ge okTx_dropCarets rfl rfl trivial (fun h => absurd h (nI_ge hlt (by omega))) (fun h => ?_)
      refine ev_ic_ge okTx_dropCarets rfl rfl trivial (fun h => absurd h (nI_ge (by omega) (by decide))) (fun h => ?_)
      have hbb := getD_lt (j := i) hb (by decide)
      have hlen := noC_len x i
      have hv : σ.1 2 (nI i).toNatClampNeg = nI (x.getD i 0) := by rw [nI_cl (by omega)]; exact hold i (Nat.le_refl i) hlt
      refine ev_ic_eq okTx_dropCarets rfl rfl ⟨vp_nI (by omega) (by decide), trivial⟩ (fun g => ?_) (fun g => ?_)
      · rw [hv] at g
        have e : x.getD i 0 = 94 := (nI_eq (by omega) (by decide)).mp g
        refine ev_goto okTx_dropCarets rfl rfl trivial ?_
        rw [nI_add]
        refine ih (i + 1) σ (by omega) (by omega) ?_ (fun q q1 q2 => hold q (by omega) q2) k
        rw [noC_snoc hlt, if_pos e, List.append_nil]
        exact hy
      · rw [hv] at g
        have e : x.getD i 0 ≠ 94 := fun q => g (by rw [q])
        refine ev_cv okTx_dropCarets okTx_add rfl rfl ⟨vp_nI (by omega) (by decide), trivial⟩ rfl (by decide +kernel) rfl rfl ?_
        rw [hv]
        refine sp_add (Or.inl rfl) hy (by omega) hbb fun σ1 h1 h2 h3 => ?_
        refine ev_goto okTx_dropCarets rfl rfl trivial ?_
        rw [nI_add]
        refine ih (i + 1) σ1 (by omega) (by omega) (by rw [noC_snoc hlt, if_neg e]; exact h1) (fun q q1 q2 => ?_) (fun σ' q1 q2 => k σ' q1 (h2.tr q2))
        rw [h3 q (by omega)]
        exact hold q (by omega) q2
    · rw [List.take_of_length_le (by omega)] at hy
      exact ev_ic_ge okTx_dropCarets rfl rfl trivial (fun h => ev_rv okTx_dropCarets rfl rfl trivial rfl (k σ hy Fr.rf)) (fun h => absurd (nI_le (Nat.le_of_not_lt hlt) (by omega)) h)
theorem sp_dropCarets (hx : TextAt σ 1 x) (hb : ∀ b ∈ x, b < 128) (k : ∀ σ', TextAt σ' 1 (noC x) → Fr [1, 2] σ σ' → Q none σ') : Ev lc G mTx_dropCarets 0 [some (.ref 1), none, none] [] σ Q := by
  obtain ⟨h1, h2, h3⟩ := hx
  refine ev_nop okTx_dropCarets rfl rfl trivial ?_
  rw [h2]
  refine lp_dropCarets h1 hb x.length 0 _ (by omega) (by omega) ?_ ?_ (fun σ' q1 q2 => k σ' q1 (Fr.tr (Fr.u1 (by decide)) q2))
  · exact TextAt.empty σ 1
  · intro q _ q2
    show up2 σ.1 1 1 (nI 0) 2 q = _
    rw [up2_ne _ _ _ (by decide)]
    exact h3 q q2
/-- without the blanks at its end -/
def noE (x : List Nat) : List Nat := (x.reverse.dropWhile (fun b => b == 32)).reverse
theorem noE_snoc (y : List Nat) (b : Nat) : noE (y ++ [b]) = if b = 32 then noE y else y ++ [b] := by
  unfold noE
  rw [List.reverse_append]
  by_cases e : b = 32
  · simp [e, List.dropWhile_cons]
  · simp [e, List.dropWhile_cons]
theorem sp_dropEndBlanks : ∀ (n : Nat) (x : List Nat) (σ : St2), x.length ≤ n → TextAt σ 1 x → (∀ b ∈ x, b < 128) → (∀ σ', TextAt σ' 1 (noE x) → Fr [1] σ σ' → Q none σ') → Ev lc G mTx_dropEndBlanks 0 [some (.ref 1)] [] σ Q := by
  intro n
  induction n with
  | zero =>
    intro x σ hn hx _ k
    have e : x = [] := List.length_eq_zero_iff.mp (by omega)
    subst e
    refine ev_if_le okTx_dropEndBlanks rfl rfl trivial (fun h => ev_rv okTx_dropEndBlanks rfl rfl trivial rfl (k σ hx Fr.rf)) (fun h => ?_)
    rw [hx.2.1] at h
    exact absurd (by decide : nI ([] : List Nat).length ≤ 0) h
  | succ n ih =>
    intro x σ hn hx hb k
    rcases List.eq_nil_or_concat x with rfl | ⟨y, b, rfl⟩
    · refine ev_if_le okTx_dropEndBlanks rfl rfl trivial (fun h => ev_rv okTx_dropEndBlanks rfl rfl trivial rfl (k σ hx Fr.rf)) (fun h => ?_)
      rw [hx.2.1] at h
      exact absurd (by decide : nI ([] : List Nat).length ≤ 0) h
    · rw [List.concat_eq_append] at *
      have h100 := hx.1
      rw [List.length_append, List.length_singleton] at hn h100
      have h1 : σ.1 1 1 = nI (y.length + 1) := by rw [hx.2.1]; simp
      refine ev_if_le okTx_dropEndBlanks rfl rfl trivial (fun h => ?_) (fun h => ?_)
      · rw [h1] at h
        exact absurd h (nI_nle (by omega) (by omega))
      · refine ev_cv okTx_dropEndBlanks okTx_byteAt rfl rfl trivial rfl (by decide +kernel) rfl rfl ?_
        rw [h1, pk_sub (by omega), Nat.add_sub_cancel]
        refine sp_byteAt (Or.inl rfl) hx ?_
        have hbb : b < 128 := hb b (by simp)
        have hg : (y ++ [b]).getD y.length 0 = b := by simp
        rw [tb_nI hx.1 (by omega), if_pos (by simp), hg]
        refine ev_ic_ne okTx_dropEndBlanks rfl rfl trivial (fun g => ?_) (fun g => ?_)
        · have e : b ≠ 32 := fun q => g (by rw [q])
          rw [noE_snoc, if_neg e] at k
          exact ev_rv okTx_dropEndBlanks rfl rfl trivial rfl (k σ hx Fr.rf)
        · have e : b = 32 := (nI_eq (by omega) (by decide)).mp g
          rw [noE_snoc, if_pos e] at k
          refine ev_goto okTx_dropEndBlanks rfl rfl trivial ?_
          rw [h1, pk_sub (by omega), Nat.add_sub_cancel]
          refine ih y _ (by omega) ⟨by omega, up2_same σ.1 1 1 (nI y.length), fun j hj => ?_⟩ (fun b hb' => hb b (by simp [hb'])) (fun σ' q1 q2 => k σ' q1 (Fr.tr (Fr.u1 (by decide)) q2))
          show up2 σ.1 1 1 (nI y.length) 2 j = _
          rw [up2_ne _ _ _ (by decide), hx.2.2 j (by simp; omega)]
          simp [List.getElem?_append_left hj]
end TX2
end
section
/-! ===== THE OUTPUT (the class's) ===== -/
def emit (o x : List Nat) : List Nat := (o ++ x).take 20000
theorem emit_len (o x : List Nat) : (emit o x).length ≤ 20000 := by unfold emit; rw [List.length_take]; omega
theorem emit_nil {o : List Nat} (h : o.length ≤ 20000) : emit o [] = o := by
  unfold emit; rw [List.append_nil, List.take_of_length_le h]
theorem emit_emit (o x y : List Nat) : emit (emit o x) y = emit o (x ++ y) := by
  unfold emit
  by_cases h : (o ++ x).length ≤ 20000
  · rw [List.take_of_length_le h, List.append_assoc]
  · have e1 : ((o ++ x).take 20000 ++ y).take 20000 = ((o ++ x).take 20000).take 20000 := List.take_append_of_le_length (by rw [List.length_take]; omega)
    have e2 : (o ++ x ++ y).take 20000 = (o ++ x).take 20000 := List.take_append_of_le_length (by omega)
    rw [e1, ← List.append_assoc, e2, List.take_take, Nat.min_self]
theorem emit_full {o : List Nat} {b : Nat} (h : o.length = 20000) : emit o [b] = o := by
  unfold emit; rw [List.take_append_of_le_length (by omega), List.take_of_length_le (by omega)]
theorem emit_room {o : List Nat} {b : Nat} (h : o.length < 20000) : emit o [b] = o ++ [b] := by
  unfold emit; rw [List.take_of_length_le (by simp; omega)]
def OutAt (σ : St2) (o : List Nat) : Prop := o.length ≤ 20000 ∧ σ.1 5 1 = nI o.length ∧ RowAt σ 6 o
theorem OutAt.fr {S : List Nat} {σ σ' : St2} {o : List Nat} (h : OutAt σ o) (hf : Fr S σ σ') (h1 : 5 ∉ S) (h2 : 6 ∉ S) : OutAt σ' o := ⟨h.1, by rw [hf.a1 h1]; exact h.2.1, h.2.2.fr hf h2⟩
/-- an Int32 is below 0, or the name of a number -/
theorem i32_cases (n : Int32) : (n < 0 ∧ n.toNatClampNeg = 0) ∨ (n.toNatClampNeg < 2 ^ 31 ∧ n = nI n.toNatClampNeg) := by
  by_cases h : n < 0
  · left
    refine ⟨h, ?_⟩
    have : n.toInt < 0 := by simpa [Int32.lt_iff_toInt_lt] using h
    unfold Int32.toNatClampNeg
    omega
  · right
    obtain ⟨j, hj, rfl⟩ := nI_of h
    rw [nI_cl hj]
    exact ⟨hj, rfl⟩
section OU
variable {lc : Launch} {G : GG} {σ : St2} {Q : Option Value → St2 → Prop} {o : List Nat}
theorem sp_put (ho : OutAt σ o) {b : Nat} (hb : b < 128) (k : ∀ σ', OutAt σ' (emit o [b]) → Fr [5, 6] σ σ' → Q none σ') : Ev lc G mOu_put 0 [some (.ref 5), some (.int (nI b))] [] σ Q := by
  obtain ⟨h1, h2, h3⟩ := ho
  refine ev_ic_ge okOu_put rfl rfl trivial (fun h => ?_) (fun h => ?_)
  · rw [h2] at h
    have e : o.length = 20000 := Nat.le_antisymm h1 ((nI_leI (by decide) (by omega)).mp h)
    rw [emit_full e] at k
    exact ev_rv okOu_put rfl rfl trivial rfl (k σ ⟨h1, h2, h3⟩ Fr.rf)
  · rw [h2] at h
    have hl : o.length < 20000 := (Nat.lt_or_ge o.length 20000).resolve_right (fun q => h (nI_le q (by omega)))
    rw [emit_room hl] at k
    refine ev_nop okOu_put rfl rfl ⟨by rw [h2]; exact vp_nI hl (by decide), trivial⟩ (ev_rv okOu_put rfl rfl trivial rfl ?_)
    refine k _ ⟨by simp; omega, ?_, RowAt.push h3 ?_ fun j hj => ?_⟩ ?_
    · simp [up2, h2, nI_add]
    · simp [up2, h2, nI_cl (show o.length < 2 ^ 31 by omega), nI_byte hb]
    · simp [up2, h2, nI_cl (show o.length < 2 ^ 31 by omega), Nat.ne_of_lt hj]
    · exact Fr.tr (Fr.u1 (by decide)) (Fr.u1 (σ := (_, _)) (by decide))
theorem lp_repeat {b N : Nat} (hb : b < 128) (hN : N < 2 ^ 31) : ∀ (m i : Nat) (σ : St2) (o : List Nat), i + m = N → OutAt σ o → (∀ σ', OutAt σ' (emit o (List.replicate m b)) → Fr [5, 6] σ σ' → Q none σ') → Ev lc G mOu_repeat 2 [some (.ref 5), some (.int (nI b)), some (.int (nI N)), some (.int (nI i))] [] σ Q := by
  intro m
  induction m with
  | zero =>
    intro i σ o hi ho k
    rw [List.replicate_zero, emit_nil ho.1] at k
    exact ev_ic_ge okOu_repeat rfl rfl trivial (fun h => ev_rv okOu_repeat rfl rfl trivial rfl (k σ ho Fr.rf)) (fun h => absurd (nI_le (by omega) (by omega)) h)
  | succ m ih =>
    intro i σ o hi ho k
    refine ev_ic_ge okOu_repeat rfl rfl trivial (fun h => absurd h (nI_ge (by omega) hN)) (fun h => ?_)
    refine ev_cv okOu_repeat okOu_put rfl rfl trivial rfl (by decide +kernel) rfl rfl (sp_put ho hb fun σ1 h1 h2 => ?_)
    refine ev_goto okOu_repeat rfl rfl trivial ?_
    rw [nI_add]
    refine ih (i + 1) σ1 _ (by omega) h1 (fun σ' q1 q2 => k σ' ?_ (h2.tr q2))
    rw [emit_emit] at q1
    exact q1
theorem sp_repeat (ho : OutAt σ o) {b : Nat} (hb : b < 128) (n : Int32) (k : ∀ σ', OutAt σ' (emit o (List.replicate n.toNatClampNeg b)) → Fr [5, 6] σ σ' → Q none σ') : Ev lc G mOu_repeat 0 [some (.ref 5), some (.int (nI b)), some (.int n), none] [] σ Q := by
  refine ev_nop okOu_repeat rfl rfl trivial ?_
  rcases i32_cases n with ⟨h1, h2⟩ | ⟨h1, h2⟩
  · rw [h2, List.replicate_zero, emit_nil ho.1] at k
    refine ev_ic_ge okOu_repeat rfl rfl trivial (fun h => ev_rv okOu_repeat rfl rfl trivial rfl (k σ ho Fr.rf)) (fun h => absurd ?_ h)
    exact Int32.le_of_lt h1
  · rw [h2]
    exact lp_repeat hb h1 _ 0 σ o (by omega) ho k
/-- bytes, underlined or not -/
def und (u : Nat) (y : List Nat) : List Nat := y.flatMap (fun b => if u = 0 ∨ b = 32 then [b] else [95, 8, b])
theorem und_cons (u b : Nat) (y : List Nat) : und u (b :: y) = (if u = 0 ∨ b = 32 then [b] else [95, 8, b]) ++ und u y := by simp [und]
theorem lp_putBytes {c u E : Nat} {x : List Nat} (hc : (c = 2 ∧ E ≤ 100) ∨ (c = 13 ∧ E ≤ 8000)) (hE : E ≤ x.length) (hu : u < 2) (hb : ∀ b ∈ x, b < 128) : ∀ (m i : Nat) (σ : St2) (o : List Nat), i + m = E → RowAt σ c x → OutAt σ o → (∀ σ', OutAt σ' (emit o (und u ((x.take E).drop i))) → Fr [5, 6] σ σ' → Q none σ') → Ev lc G mOu_putBytes 7 [some (.ref 5), some (.ref c), none, some (.int (nI E)), some (.int (nI u)), some (.int (nI i))] [] σ Q := by
  intro m
  induction m with
  | zero =>
    intro i σ o hi hx ho k
    rw [td_nil (by omega), show und u [] = [] from rfl, emit_nil ho.1] at k
    rcases hc with ⟨rfl, hc⟩ | ⟨rfl, hc⟩ <;> exact ev_ic_ge okOu_putBytes rfl rfl trivial (fun h => ev_rv okOu_putBytes rfl rfl trivial rfl (k σ ho Fr.rf)) (fun h => absurd (nI_le (by omega) (by omega)) h)
  | succ m ih =>
    intro i σ o hi hx ho k
    have hlt : i < E := by omega
    have hbb := getD_lt (j := i) hb (by decide)
    have hv : σ.1 c (nI i).toNatClampNeg = nI (x.getD i 0) := by
      have : E ≤ 8000 := by rcases hc with ⟨-, h⟩ | ⟨-, h⟩ <;> omega
      rw [nI_cl (by omega)]; exact hx i (by omega)
    rw [td_cons hlt hE, und_cons] at k
    -- what comes behind this byte
    have step : ∀ (σ1 : St2) (o1 : List Nat), OutAt σ1 o1 → RowAt σ1 c x → Fr [5, 6] σ σ1 → emit o1 ([x.getD i 0] ++ und u ((x.take E).drop (i + 1))) = emit o ((if u = 0 ∨ x.getD i 0 = 32 then [x.getD i 0] else [95, 8, x.getD i 0]) ++ und u ((x.take E).drop (i + 1))) → Ev lc G mOu_putBytes 46 [some (.ref 5), some (.ref c), none, some (.int (nI E)), some (.int (nI u)), some (.int (nI i))] [] σ1 Q := by
      intro σ1 o1 h1 h2 h3 h4
      have hv1 : σ1.1 c (nI i).toNatClampNeg = nI (x.getD i 0) := by
        rw [h3.a1 (by rcases hc with ⟨rfl, -⟩ | ⟨rfl, -⟩ <;> decide)]; exact hv
      have fin : ∀ σ2, OutAt σ2 (emit o1 [x.getD i 0]) → Fr [5, 6] σ1 σ2 → Ev lc G mOu_putBytes 54 [some (.ref 5), some (.ref c), none, some (.int (nI E)), some (.int (nI u)), some (.int (nI i))] [] σ2 Q := by
        intro σ2 q1 q2
        refine ev_goto okOu_putBytes rfl rfl trivial ?_
        rw [nI_add]
        refine ih (i + 1) σ2 _ (by omega) (h2.fr q2 (by rcases hc with ⟨rfl, -⟩ | ⟨rfl, -⟩ <;> decide)) q1 (fun σ' r1 r2 => k σ' ?_ ((h3.tr q2).tr r2))
        rw [emit_emit, h4] at r1
        exact r1
      rcases hc with ⟨rfl, hc⟩ | ⟨rfl, hc⟩ <;> (
        refine ev_cv okOu_putBytes okOu_put rfl rfl ⟨vp_nI (by omega) (by decide), trivial⟩ rfl (by decide +kernel) rfl rfl ?_
        rw [hv1]
        exact sp_put h1 hbb fin)
    rcases hc with ⟨rfl, hc'⟩ | ⟨rfl, hc'⟩ <;> (
      refine ev_ic_ge okOu_putBytes rfl rfl trivial (fun h => absurd h (nI_ge hlt (by omega))) (fun h => ?_)
      refine ev_ic_ge okOu_putBytes rfl rfl trivial (fun h => absurd h (nI_ge (by omega) (by decide))) (fun h => ?_)
      refine ev_if_eq okOu_putBytes rfl rfl trivial (fun h => ?_) (fun h => ?_)
      · have e : u = 0 := (nI_eq (by omega) (by decide)).mp h
        exact step σ o ho hx Fr.rf (by rw [if_pos (Or.inl e)])
      · have e : ¬ u = 0 := fun q => h (by rw [q]; rfl)
        refine ev_ic_eq okOu_putBytes rfl rfl ⟨vp_nI (by omega) (by decide), trivial⟩ (fun g => ?_) (fun g => ?_)
        · rw [hv] at g
          exact step σ o ho hx Fr.rf (by rw [if_pos (Or.inr ((nI_eq (by omega) (by decide)).mp g))])
        · rw [hv] at g
          have e2 : ¬ x.getD i 0 = 32 := fun q => g (by rw [q])
          refine ev_cv okOu_putBytes okOu_put rfl rfl trivial rfl (by decide +kernel) rfl rfl (sp_put ho (by decide) fun σ1 h1 h2 => ?_)
          refine ev_cv okOu_putBytes okOu_put rfl rfl trivial rfl (by decide +kernel) rfl rfl (sp_put h1 (by decide) fun σ2 h3 h4 => ?_)
          refine step σ2 _ h3 (hx.fr (h2.tr h4) (by decide)) (h2.tr h4) ?_
          rw [if_neg (by rintro (q | q); exact e q; exact e2 q), emit_emit, emit_emit]
          rfl)
theorem sp_putBytes {c u E B : Nat} {x : List Nat} (hc : (c = 2 ∧ E ≤ 100) ∨ (c = 13 ∧ E ≤ 8000)) (hE : E ≤ x.length) (hB : B ≤ E) (hu : u < 2) (hb : ∀ b ∈ x, b < 128) (hx : RowAt σ c x) (ho : OutAt σ o) (k : ∀ σ', OutAt σ' (emit o (und u ((x.take E).drop B))) → Fr [5, 6] σ σ' → Q none σ') : Ev lc G mOu_putBytes 0 [some (.ref 5), some (.ref c), some (.int (nI B)), some (.int (nI E)), some (.int (nI u)), none] [] σ Q := by
  have hB2 : E ≤ 8000 := by rcases hc with ⟨-, h⟩ | ⟨-, h⟩ <;> omega
  refine ev_max okOu_putBytes rfl rfl trivial (by decide +kernel) rfl ?_
  have e : (if nI 0 < nI B then nI B else nI 0) = nI B := by
    by_cases q : 0 < B
    · rw [if_pos (nI_lt q (by omega))]
    · have : B = 0 := by omega
      subst this
      simp
  rw [e]
  refine ev_nop okOu_putBytes rfl rfl trivial ?_
  have key := lp_putBytes (lc := lc) (G := G) (Q := Q) hc hE hu hb (E - B) B σ o (by omega) hx ho k
  rcases hc with ⟨rfl, hc⟩ | ⟨rfl, hc⟩ <;> exact ev_lv [some (.ref 5), some (.ref _), none, some (.int (nI E)), some (.int (nI u)), some (.int (nI B))] ⟨rfl, rfl, rfl, rfl, rfl, trivial⟩ key
end OU
end
section
/-! ===== heads and feet (the class's) ===== -/
/-- digits of p, from the e-th on -/
def dg (p : Nat) : Nat → List Nat
  | 0 => [48 + p % 10]
  | e + 1 => (if 10 ^ (e + 1) ≤ p then [48 + p / 10 ^ (e + 1) % 10] else []) ++ dg p e
def ttl (x : List Nat) (p : Nat) : List Nat := [10] ++ x.flatMap (fun b => if b = 35 then dg p 9 else [b]) ++ [10, 10]
theorem pow9 {e : Nat} (h : e ≤ 9) : 10 ^ e ≤ 1000000000 := by
  have : ∀ e : Fin 10, 10 ^ e.val ≤ 1000000000 := by decide
  exact this ⟨e, by omega⟩
section MG
variable {lc : Launch} {G : GG} {σ : St2} {Q : Option Value → St2 → Prop} {o : List Nat} {t : Nat}
theorem lp_digits (ht : t = 8 ∨ t = 10) {p i : Nat} (hp : p < 2 ^ 31) : ∀ (e : Nat) (σ : St2) (o : List Nat), e ≤ 9 → OutAt σ o → (∀ σ', OutAt σ' (emit o (dg p e)) → Fr [5, 6] σ σ' → Ev lc G mOu_putMargin 83 [some (.ref 5), some (.ref t), some (.int (nI p)), some (.int (nI i)), none] [] σ' Q) → Ev lc G mOu_putMargin 42 [some (.ref 5), some (.ref t), some (.int (nI p)), some (.int (nI i)), some (.int (nI (10 ^ e)))] [] σ Q := by
  intro e
  induction e with
  | zero =>
    intro σ o he ho k
    have last : Ev lc G mOu_putMargin 59 [some (.ref 5), some (.ref t), some (.int (nI p)), some (.int (nI i)), some (.int (nI (10 ^ 0)))] [] σ Q := by
      rcases ht with rfl | rfl <;> (
        refine ev_cv okOu_putMargin okOu_put rfl rfl ⟨by decide, by decide, trivial⟩ rfl (by decide +kernel) rfl rfl ?_
        rw [show (10 : Nat) ^ 0 = 1 from rfl, pk_div hp (by decide) (by decide), Nat.div_one, pk_rem hp (by decide) (by decide), nI_add]
        refine sp_put ho (by omega) fun σ1 h1 h2 => ?_
        refine ev_goto okOu_putMargin rfl rfl ⟨by decide, trivial⟩ ?_
        refine ev_if_le okOu_putMargin rfl rfl trivial (fun h => ?_) (fun h => absurd (by decide) h)
        exact ev_lv [some (.ref 5), some (.ref _), some (.int (nI p)), some (.int (nI i)), none] ⟨rfl, rfl, rfl, rfl, trivial⟩ (k σ1 h1 h2))
    rcases ht with rfl | rfl <;> (
      refine ev_if_le okOu_putMargin rfl rfl trivial (fun h => absurd h (by decide)) (fun h => ?_)
      refine ev_ic_ge okOu_putMargin rfl rfl trivial (fun h => last) (fun h => ?_)
      exact ev_ic_ne okOu_putMargin rfl rfl trivial (fun h => absurd rfl h) (fun h => last))
  | succ e ih =>
    intro σ o he ho k
    have h9 := pow9 he
    have h0 : 0 < 10 ^ (e + 1) := Nat.pos_of_ne_zero (by simp)
    have hne : ¬ nI (10 ^ (e + 1)) = 0 := nI_ne0 h0 (by omega)
    have hdiv : nI (10 ^ (e + 1)) / nI 10 = nI (10 ^ e) := by
      rw [pk_div (by omega) (by decide) (by decide), Nat.pow_succ, Nat.mul_div_cancel _ (by decide)]
    rw [dg] at k
    -- behind this digit
    have next : ∀ (σ1 : St2) (o1 : List Nat), OutAt σ1 o1 → Fr [5, 6] σ σ1 → o1 = emit o (if 10 ^ (e + 1) ≤ p then [48 + p / 10 ^ (e + 1) % 10] else []) → Ev lc G mOu_putMargin 73 [some (.ref 5), some (.ref t), some (.int (nI p)), some (.int (nI i)), some (.int (nI (10 ^ (e + 1))))] [] σ1 Q := by
      intro σ1 o1 h1 h2 h3
      have key := ih σ1 o1 (by omega) h1 (fun σ' q1 q2 => k σ' (by rw [h3, emit_emit] at q1; exact q1) (h2.tr q2))
      rcases ht with rfl | rfl <;> (
        refine ev_goto okOu_putMargin rfl rfl ⟨by decide, trivial⟩ ?_
        rw [hdiv]
        exact key)
    by_cases hle : 10 ^ (e + 1) ≤ p
    · rcases ht with rfl | rfl <;> (
        refine ev_if_le okOu_putMargin rfl rfl trivial (fun h => absurd h (nI_nle h0 (by omega))) (fun h => ?_)
        refine ev_ic_ge okOu_putMargin rfl rfl trivial (fun h => ?_) (fun h => absurd (nI_le hle hp) h)
        refine ev_cv okOu_putMargin okOu_put rfl rfl ⟨hne, by decide, trivial⟩ rfl (by decide +kernel) rfl rfl ?_
        have hq : p / 10 ^ (e + 1) < 2 ^ 31 := Nat.lt_of_le_of_lt (Nat.div_le_self _ _) hp
        rw [pk_div hp h0 (by omega), pk_rem hq (by decide) (by decide), nI_add]
        refine sp_put ho (by omega) fun σ1 h1 h2 => ?_
        exact next σ1 _ h1 h2 (by rw [if_pos hle]))
    · rcases ht with rfl | rfl <;> (
        refine ev_if_le okOu_putMargin rfl rfl trivial (fun h => absurd h (nI_nle h0 (by omega))) (fun h => ?_)
        refine ev_ic_ge okOu_putMargin rfl rfl trivial (fun h => absurd ((nI_leI (by omega) hp).mp h) hle) (fun h => ?_)
        refine ev_ic_ne okOu_putMargin rfl rfl trivial (fun h => next σ o ho Fr.rf (by rw [if_neg hle, emit_nil ho.1])) (fun h => ?_)
        have h1 : 10 ^ (e + 1) = 1 := (nI_eq (by omega) (by decide)).mp h
        rw [Nat.pow_succ] at h1
        have := Nat.pos_of_ne_zero (show 10 ^ e ≠ 0 by simp)
        omega)
theorem lp_margin (ht : t = 8 ∨ t = 10) {p : Nat} (hp : p < 2 ^ 31) {x : List Nat} (hb : ∀ b ∈ x, b < 128) : ∀ (m i : Nat) (σ : St2) (o : List Nat), i + m = x.length → TextAt σ t x → OutAt σ o → (∀ σ', OutAt σ' (emit o ((x.drop i).flatMap (fun b => if b = 35 then dg p 9 else [b]) ++ [10, 10])) → Fr [5, 6] σ σ' → Q none σ') → Ev lc G mOu_putMargin 8 [some (.ref 5), some (.ref t), some (.int (nI p)), some (.int (nI i)), none] [] σ Q := by
  intro m
  induction m with
  | zero =>
    intro i σ o hi hx ho k
    have hlen := hx.1
    rw [List.drop_eq_nil_of_le (by omega)] at k
    rcases ht with rfl | rfl <;> (
      refine ev_ic_ge okOu_putMargin rfl rfl trivial (fun h => ?_) (fun h => absurd (by rw [hx.2.1]; exact nI_le (by omega) (by omega)) h)
      refine ev_cv okOu_putMargin okOu_put rfl rfl trivial rfl (by decide +kernel) rfl rfl (sp_put ho (by decide) fun σ1 h1 h2 => ?_)
      refine ev_cv okOu_putMargin okOu_put rfl rfl trivial rfl (by decide +kernel) rfl rfl (sp_put h1 (by decide) fun σ2 h3 h4 => ?_)
      refine ev_rv okOu_putMargin rfl rfl trivial rfl (k σ2 ?_ (h2.tr h4))
      rw [emit_emit] at h3
      exact h3)
  | succ m ih =>
    intro i σ o hi hx ho k
    have hlen := hx.1
    have hlt : i < x.length := by omega
    have hbb := getD_lt (j := i) hb (by decide)
    rw [List.drop_eq_getElem_cons hlt, List.flatMap_cons, ← gD hlt] at k
    have next : ∀ (σ1 : St2) (o1 : List Nat), OutAt σ1 o1 → Fr [5, 6] σ σ1 → o1 = emit o (if x.getD i 0 = 35 then dg p 9 else [x.getD i 0]) → Ev lc G mOu_putMargin 83 [some (.ref 5), some (.ref t), some (.int (nI p)), some (.int (nI i)), none] [] σ1 Q := by
      intro σ1 o1 h1 h2 h3
      have key := ih (i + 1) σ1 o1 (by omega) (hx.fr h2 (by rcases ht with rfl | rfl <;> decide) (by rcases ht with rfl | rfl <;> decide)) h1 (fun σ' q1 q2 => k σ' (by rw [h3, emit_emit, ← List.append_assoc] at q1; exact q1) (h2.tr q2))
      rcases ht with rfl | rfl <;> (
        refine ev_goto okOu_putMargin rfl rfl trivial ?_
        rw [nI_add]
        exact key)
    have key2 := lp_digits (lc := lc) (G := G) (Q := Q) (i := i) ht hp 9 σ o (by decide) ho
    rcases ht with rfl | rfl <;> (
      refine ev_ic_ge okOu_putMargin rfl rfl trivial (fun h => absurd h (by rw [hx.2.1]; exact nI_ge hlt (by omega))) (fun h => ?_)
      refine ev_cv okOu_putMargin okTx_byteAt rfl rfl trivial rfl (by decide +kernel) rfl rfl (sp_byteAt (by decide) hx ?_)
      rw [tb_nI hlen (by omega), if_pos hlt]
      refine ev_ic_eq okOu_putMargin rfl rfl trivial (fun g => ?_) (fun g => ?_)
      · have e : x.getD i 0 = 35 := (nI_eq (by omega) (by decide)).mp g
        refine ev_nop okOu_putMargin rfl rfl trivial ?_
        exact key2 (fun σ' q1 q2 => next σ' _ q1 q2 (by rw [if_pos e]))
      · have e : ¬ x.getD i 0 = 35 := fun q => g (by rw [q])
        refine ev_cv okOu_putMargin okTx_byteAt rfl rfl trivial rfl (by decide +kernel) rfl rfl (sp_byteAt (by decide) hx ?_)
        rw [tb_nI hlen (by omega), if_pos hlt]
        refine ev_cv okOu_putMargin okOu_put rfl rfl trivial rfl (by decide +kernel) rfl rfl (sp_put ho hbb fun σ1 h1 h2 => ?_)
        exact ev_goto okOu_putMargin rfl rfl trivial (next σ1 _ h1 h2 (by rw [if_neg e])))
theorem sp_putMargin (ht : t = 8 ∨ t = 10) {p : Nat} (hp : p < 2 ^ 31) {x : List Nat} (hb : ∀ b ∈ x, b < 128) (hx : TextAt σ t x) (ho : OutAt σ o) (k : ∀ σ', OutAt σ' (emit o (ttl x p)) → Fr [5, 6] σ σ' → Q none σ') : Ev lc G mOu_putMargin 0 [some (.ref 5), some (.ref t), some (.int (nI p)), none, none] [] σ Q := by
  have key : ∀ σ1, OutAt σ1 (emit o [10]) → Fr [5, 6] σ σ1 → Ev lc G mOu_putMargin 8 [some (.ref 5), some (.ref t), some (.int (nI p)), some (.int (nI 0)), none] [] σ1 Q := fun σ1 h1 h2 =>
    lp_margin ht hp hb x.length 0 σ1 _ (by omega) (hx.fr h2 (by rcases ht with rfl | rfl <;> decide) (by rcases ht with rfl | rfl <;> decide)) h1 (fun σ' q1 q2 => k σ' (by rw [emit_emit, List.drop_zero] at q1; unfold ttl; rw [List.append_assoc]; exact q1) (h2.tr q2))
  rcases ht with rfl | rfl <;> (
    refine ev_cv okOu_putMargin okOu_put rfl rfl trivial rfl (by decide +kernel) rfl rfl (sp_put ho (by decide) fun σ1 h1 h2 => ?_)
    exact ev_nop okOu_putMargin rfl rfl trivial (key σ1 h1 h2))
end MG
end
section
/-! ===== pages: the model, and the class's =====
numbers by their places: 0 RIGHT, 1 INDENT, 2 THIS INDENT, 3 SPACING, 4 CENTRED, 5 UNDERLINED, 6 PAGE LENGTH, 7 FILL, 8 JUSTIFY, 9 LINE NUMBER, 10 THE PAGE, 11 THE NEXT PAGE, 12 lines PUT -/
abbrev NN : Type := Nat → Int32
abbrev PS : Type := NN × List Nat
def bot (N : NN) : Int32 := N 6 - nI 3
def i0 (v : Int32) : Int32 := if nI 0 < v then v else nI 0
def imn (x y : Int32) : Int32 := if y < x then y else x
def pHead (hd : List Nat) (s : PS) : PS := (upd (upd (upd s.1 10 (s.1 11)) 11 (s.1 11 + nI 1)) 9 (nI 4), emit s.2 (ttl hd (s.1 11).toNatClampNeg))
def pDown (ft : List Nat) (n : Int32) (s : PS) : PS := (upd s.1 9 (s.1 9 + n), if bot s.1 < s.1 9 + n then emit s.2 (ttl ft (s.1 10).toNatClampNeg) else s.2)
def pOpen0 (hd : List Nat) (s : PS) : PS := if s.1 9 = 0 ∨ bot s.1 < s.1 9 then pHead hd s else s
def pOpen (hd : List Nat) (e : Bool) (s : PS) : PS := ((pOpen0 hd s).1, if e then (pOpen0 hd s).2 else emit (pOpen0 hd s).2 (List.replicate ((pOpen0 hd s).1 2).toNatClampNeg 32))
def pClose (ft : List Nat) (s : PS) : PS := pDown ft (s.1 3) (upd (upd s.1 2 (s.1 1)) 12 (s.1 12 + nI 1), emit (emit s.2 [10]) (List.replicate (imn (s.1 3 - nI 1) (i0 (bot s.1 - s.1 9))).toNatClampNeg 10))
def pSkip1 (hd : List Nat) (s : PS) : PS := if s.1 9 = 0 then pHead hd s else s
def pSkip (hd ft : List Nat) (n : Int32) (s : PS) : PS := if bot s.1 < s.1 9 then s else pDown ft n ((pSkip1 hd s).1, emit (pSkip1 hd s).2 (List.replicate (imn n (bot (pSkip1 hd s).1 + nI 1 - (pSkip1 hd s).1 9)).toNatClampNeg 10))
/-- page numbers that are numbers -/
def PB (b : Nat) (N : NN) : Prop := ∃ p q, N 11 = nI p ∧ N 10 = nI q ∧ p ≤ b ∧ q ≤ b
theorem PB.mono {a b : Nat} {N : NN} (h : PB a N) (hab : a ≤ b) : PB b N := by
  obtain ⟨p, q, h1, h2, h3, h4⟩ := h
  exact ⟨p, q, h1, h2, by omega, by omega⟩
theorem PB.keep {b k : Nat} {N : NN} {v : Int32} (h : PB b N) (h1 : k ≠ 11) (h2 : k ≠ 10) : PB b (upd N k v) := by
  obtain ⟨p, q, e1, e2, h3, h4⟩ := h
  exact ⟨p, q, by simp [upd, Ne.symm h1, e1], by simp [upd, Ne.symm h2, e2], h3, h4⟩
theorem pHead_PB {b : Nat} {hd : List Nat} {s : PS} (h : PB b s.1) : PB (b + 1) (pHead hd s).1 := by
  obtain ⟨p, q, e1, e2, h3, h4⟩ := h
  exact ⟨p + 1, p, by simp [pHead, upd, e1, nI_add], by simp [pHead, upd, e1], by omega, by omega⟩
theorem pDown_PB {b : Nat} {ft : List Nat} {n : Int32} {s : PS} (h : PB b s.1) : PB b (pDown ft n s).1 := h.keep (by decide) (by decide)
theorem pOpen0_PB {b : Nat} {hd : List Nat} {s : PS} (h : PB b s.1) : PB (b + 1) (pOpen0 hd s).1 := by
  unfold pOpen0; split
  · exact pHead_PB h
  · exact h.mono (by omega)
theorem pOpen_PB {b : Nat} {hd : List Nat} {e : Bool} {s : PS} (h : PB b s.1) : PB (b + 1) (pOpen hd e s).1 := pOpen0_PB h
theorem pClose_PB {b : Nat} {ft : List Nat} {s : PS} (h : PB b s.1) : PB b (pClose ft s).1 := pDown_PB (s := (_, _)) ((h.keep (by decide) (by decide)).keep (by decide) (by decide))
theorem pSkip_PB {b : Nat} {hd ft : List Nat} {n : Int32} {s : PS} (h : PB b s.1) : PB (b + 1) (pSkip hd ft n s).1 := by
  unfold pSkip; split
  · exact h.mono (by omega)
  · refine pDown_PB (s := (_, _)) ?_
    show PB (b + 1) (pSkip1 hd s).1
    unfold pSkip1; split
    · exact pHead_PB h
    · exact h.mono (by omega)
def PgV (σ : St2) (N : NN) (hd ft o : List Nat) : Prop := (∀ k, k < 9 → σ.1 4 k = N k) ∧ (∀ k, k < 4 → σ.1 7 (k + 4) = N (k + 9)) ∧ TextAt σ 8 hd ∧ TextAt σ 10 ft ∧ OutAt σ o
theorem PgV.fr {S : List Nat} {σ σ' : St2} {N : NN} {hd ft o : List Nat} (h : PgV σ N hd ft o) (hf : Fr S σ σ') (hs : ∀ c ∈ [4, 5, 6, 7, 8, 9, 10, 11], c ∉ S) : PgV σ' N hd ft o :=
  ⟨fun k hk => by rw [hf.a1 (hs 4 (by decide))]; exact h.1 k hk, fun k hk => by rw [hf.a1 (hs 7 (by decide))]; exact h.2.1 k hk, h.2.2.1.fr hf (hs 8 (by decide)) (hs 9 (by decide)), h.2.2.2.1.fr hf (hs 10 (by decide)) (hs 11 (by decide)), h.2.2.2.2.fr hf (hs 5 (by decide)) (hs 6 (by decide))⟩
theorem PgV.out {σ σ' : St2} {N : NN} {hd ft o o' : List Nat} (h : PgV σ N hd ft o) (hf : Fr [5, 6] σ σ') (ho : OutAt σ' o') : PgV σ' N hd ft o' :=
  ⟨fun k hk => by rw [hf.a1 (by decide)]; exact h.1 k hk, fun k hk => by rw [hf.a1 (by decide)]; exact h.2.1 k hk, h.2.2.1.fr hf (by decide) (by decide), h.2.2.2.1.fr hf (by decide) (by decide), ho⟩
theorem PgV.setP {σ : St2} {N : NN} {hd ft o : List Nat} (h : PgV σ N hd ft o) (k : Nat) (hk : k < 4) (v : Int32) : PgV (up2 σ.1 7 (k + 4) v, σ.2) (upd N (k + 9) v) hd ft o := by
  have hf : Fr [7] σ (up2 σ.1 7 (k + 4) v, σ.2) := Fr.u1 (by decide)
  refine ⟨fun j hj => ?_, fun j hj => ?_, h.2.2.1.fr hf (by decide) (by decide), h.2.2.2.1.fr hf (by decide) (by decide), h.2.2.2.2.fr hf (by decide) (by decide)⟩
  · rw [hf.a1 (by decide), h.1 j hj, upd, if_neg (by omega)]
  · show up2 σ.1 7 (k + 4) v 7 (j + 4) = _
    by_cases e : j = k
    · subst e
      rw [up2_same, upd, if_pos rfl]
    · rw [up2_col _ _ _ (by omega), h.2.1 j hj, upd, if_neg (by omega)]
theorem PgV.setL {σ : St2} {N : NN} {hd ft o : List Nat} (h : PgV σ N hd ft o) (k : Nat) (hk : k < 9) (v : Int32) : PgV (up2 σ.1 4 k v, σ.2) (upd N k v) hd ft o := by
  have hf : Fr [4] σ (up2 σ.1 4 k v, σ.2) := Fr.u1 (by decide)
  refine ⟨fun j hj => ?_, fun j hj => ?_, h.2.2.1.fr hf (by decide) (by decide), h.2.2.2.1.fr hf (by decide) (by decide), h.2.2.2.2.fr hf (by decide) (by decide)⟩
  · show up2 σ.1 4 k v 4 j = _
    by_cases e : j = k
    · subst e
      rw [up2_same, upd, if_pos rfl]
    · rw [up2_col _ _ _ e, h.1 j hj, upd, if_neg e]
  · rw [hf.a1 (by decide), h.2.1 j hj, upd, if_neg (by omega)]
section PG
variable {lc : Launch} {G : GG} {σ : St2} {Q : Option Value → St2 → Prop} {N : NN} {hd ft o : List Nat}
theorem sp_isBegun (h : PgV σ N hd ft o) (k : Q (some (.int (if N 9 = 0 then nI 0 else nI 1))) σ) : Ev lc G mPg_isBegun 0 [some (.ref 7)] [] σ Q := by
  have e : σ.1 7 4 = N 9 := h.2.1 0 (by decide)
  refine ev_if_eq okPg_isBegun rfl rfl trivial (fun q => ?_) (fun q => ?_)
  · rw [e] at q
    rw [if_pos q] at k
    exact ev_nop okPg_isBegun rfl rfl trivial (ev_rz okPg_isBegun rfl rfl trivial rfl (Or.inl rfl) k)
  · rw [e] at q
    rw [if_neg q] at k
    exact ev_goto okPg_isBegun rfl rfl trivial (ev_rz okPg_isBegun rfl rfl trivial rfl (Or.inr rfl) k)
theorem sp_bottom (h : PgV σ N hd ft o) (k : Q (some (.int (bot N))) σ) : Ev lc G mPg_bottom 0 [some (.ref 7)] [] σ Q := by
  have e : σ.1 4 6 = N 6 := h.1 6 (by decide)
  refine ev_ri okPg_bottom rfl rfl trivial rfl ?_
  rw [e]
  exact k
theorem sp_begin (h : PgV σ N hd ft o) (hb : ∀ b ∈ hd, b < 128) {B : Nat} (hB : B < 2 ^ 31) (hp : PB B N) (k : ∀ σ', PgV σ' (pHead hd (N, o)).1 hd ft (pHead hd (N, o)).2 → Fr [5, 6, 7] σ σ' → Q none σ') : Ev lc G mPg_begin 0 [some (.ref 7)] [] σ Q := by
  obtain ⟨p, q, e1, e2, h3, h4⟩ := hp
  have e6 : σ.1 7 6 = nI p := (h.2.1 2 (by decide)).trans e1
  have h1 := (h.setP 1 (by decide) (σ.1 7 6)).setP 2 (by decide) (up2 σ.1 7 5 (σ.1 7 6) 7 6 + nI 1)
  refine ev_cv okPg_begin okOu_putMargin rfl rfl trivial rfl (by decide +kernel) rfl rfl ?_
  have e5 : (up2 (up2 σ.1 7 5 (σ.1 7 6), σ.2).1 7 6 ((up2 σ.1 7 5 (σ.1 7 6), σ.2).1 7 6 + nI 1), (up2 σ.1 7 5 (σ.1 7 6), σ.2).2).1 7 5 = nI p := by simp [up2, e6]
  rw [e5]
  refine sp_putMargin (Or.inl rfl) (by omega) hb h1.2.2.1 h1.2.2.2.2 fun σ1 q1 q2 => ?_
  refine ev_rv okPg_begin rfl rfl trivial rfl (k _ ?_ ?_)
  · have h2 := (h1.out q2 q1).setP 0 (by decide) (nI 4)
    have e7 : upd (upd (upd N (1 + 9) (σ.1 7 6)) (2 + 9) (up2 σ.1 7 5 (σ.1 7 6) 7 6 + nI 1)) (0 + 9) (nI 4) = (pHead hd (N, o)).1 := by
      simp [pHead, up2, e6, e1]
    rw [e7] at h2
    have e8 : (pHead hd (N, o)).2 = emit o (ttl hd p) := by simp [pHead, e1, nI_cl (show p < 2 ^ 31 by omega)]
    rw [e8]
    exact h2
  · exact Fr.tr (Fr.tr (Fr.tr (Fr.u1 (by decide)) (Fr.u1 (σ := (_, _)) (by decide))) (q2.wk (by decide))) (Fr.u1 (by decide))
theorem sp_goDown (h : PgV σ N hd ft o) (hb : ∀ b ∈ ft, b < 128) {B : Nat} (hB : B < 2 ^ 31) (hp : PB B N) {n : Int32} (k : ∀ σ', PgV σ' (pDown ft n (N, o)).1 hd ft (pDown ft n (N, o)).2 → Fr [5, 6, 7] σ σ' → Q none σ') : Ev lc G mPg_goDown 0 [some (.ref 7), some (.int n)] [] σ Q := by
  obtain ⟨p, q, e1, e2, h3, h4⟩ := hp
  have e4 : σ.1 7 4 = N 9 := h.2.1 0 (by decide)
  have e5 : σ.1 7 5 = nI q := (h.2.1 1 (by decide)).trans e2
  have h1 : PgV (up2 σ.1 7 4 (σ.1 7 4 + n), σ.2) (upd N 9 (N 9 + n)) hd ft o := by
    have := h.setP 0 (by decide) (σ.1 7 4 + n)
    rw [e4] at this ⊢
    exact this
  have hf : Fr [5, 6, 7] σ (up2 σ.1 7 4 (σ.1 7 4 + n), σ.2) := Fr.u1 (by decide)
  refine ev_cv okPg_goDown okPg_bottom rfl rfl trivial rfl (by decide +kernel) rfl rfl (sp_bottom h1 ?_)
  have eb : bot (upd N 9 (N 9 + n)) = bot N := by simp [bot, upd]
  rw [eb]
  have e9 : (up2 σ.1 7 4 (σ.1 7 4 + n), σ.2).1 7 4 = N 9 + n := by simp [up2, e4]
  refine ev_ic_le okPg_goDown rfl rfl trivial (fun g => ?_) (fun g => ?_)
  · rw [e9] at g
    refine ev_rv okPg_goDown rfl rfl trivial rfl (k _ ?_ hf)
    have : (pDown ft n (N, o)).2 = o := by
      show (if bot N < N 9 + n then _ else o) = o
      rw [if_neg (Int32.not_lt.mpr g)]
    rw [this]
    exact h1
  · rw [e9] at g
    refine ev_cv okPg_goDown okOu_putMargin rfl rfl trivial rfl (by decide +kernel) rfl rfl ?_
    have e10 : (up2 σ.1 7 4 (σ.1 7 4 + n), σ.2).1 7 5 = nI q := by simp [up2, e5]
    rw [e10]
    refine sp_putMargin (Or.inr rfl) (by omega) hb h1.2.2.2.1 h1.2.2.2.2 fun σ1 q1 q2 => ?_
    refine ev_rv okPg_goDown rfl rfl trivial rfl (k _ ?_ (hf.tr (q2.wk (by decide))))
    have : (pDown ft n (N, o)).2 = emit o (ttl ft q) := by
      show (if bot N < N 9 + n then emit o (ttl ft (N 10).toNatClampNeg) else o) = _
      rw [if_pos (Int32.not_le.mp g), e2, nI_cl (by omega)]
    rw [this]
    exact h1.out q2 q1
theorem sp_openLine (h : PgV σ N hd ft o) (hb : ∀ b ∈ hd, b < 128) {B : Nat} (hB : B < 2 ^ 31) (hp : PB B N) {e : Bool} (k : ∀ σ', PgV σ' (pOpen hd e (N, o)).1 hd ft (pOpen hd e (N, o)).2 → Fr [5, 6, 7] σ σ' → Q none σ') : Ev lc G mPg_openLine 0 [some (.ref 7), some (.int (b2 e))] [] σ Q := by
  have e4 : σ.1 7 4 = N 9 := h.2.1 0 (by decide)
  have fin : ∀ σ1, PgV σ1 (pOpen0 hd (N, o)).1 hd ft (pOpen0 hd (N, o)).2 → Fr [5, 6, 7] σ σ1 → Ev lc G mPg_openLine 22 [some (.ref 7), some (.int (b2 e))] [] σ1 Q := by
    intro σ1 h1 hf
    refine ev_if_ne okPg_openLine rfl rfl trivial (fun g => ?_) (fun g => ?_)
    · cases e with
      | true => exact ev_rv okPg_openLine rfl rfl trivial rfl (k σ1 h1 hf)
      | false => exact absurd rfl g
    · cases e with
      | true => exact absurd g (by decide)
      | false =>
        refine ev_cv okPg_openLine okOu_repeat rfl rfl trivial rfl (by decide +kernel) rfl rfl ?_
        rw [show σ1.1 4 2 = (pOpen0 hd (N, o)).1 2 from h1.1 2 (by decide)]
        exact sp_repeat h1.2.2.2.2 (by decide) _ fun σ2 q1 q2 => ev_rv okPg_openLine rfl rfl trivial rfl (k σ2 (h1.out q2 q1) (hf.tr (q2.wk (by decide))))
  have head : (N 9 = 0 ∨ bot N < N 9) → Ev lc G mPg_openLine 18 [some (.ref 7), some (.int (b2 e))] [] σ Q := by
    intro hc
    refine ev_cv okPg_openLine okPg_begin rfl rfl trivial rfl (by decide +kernel) rfl rfl (sp_begin h hb hB hp fun σ1 q1 q2 => fin σ1 ?_ q2)
    have : pOpen0 hd (N, o) = pHead hd (N, o) := if_pos hc
    rw [this]
    exact q1
  refine ev_cv okPg_openLine okPg_isBegun rfl rfl trivial rfl (by decide +kernel) rfl rfl (sp_isBegun h ?_)
  refine ev_if_eq okPg_openLine rfl rfl trivial (fun g => ?_) (fun g => ?_)
  · refine head (Or.inl ?_)
    by_cases q : N 9 = 0
    · exact q
    · rw [if_neg q] at g
      exact absurd g (by decide)
  · have g0 : ¬ N 9 = 0 := fun q => g (by rw [if_pos q]; rfl)
    refine ev_cv okPg_openLine okPg_bottom rfl rfl trivial rfl (by decide +kernel) rfl rfl (sp_bottom h ?_)
    refine ev_ic_le okPg_openLine rfl rfl trivial (fun g2 => ?_) (fun g2 => ?_)
    · rw [e4] at g2
      have : pOpen0 hd (N, o) = (N, o) := if_neg (by rintro (q | q); exact g0 q; exact absurd q (Int32.not_lt.mpr g2))
      refine fin σ ?_ Fr.rf
      rw [this]
      exact h
    · rw [e4] at g2
      exact head (Or.inr (Int32.not_le.mp g2))
theorem sp_closeLine (h : PgV σ N hd ft o) (hb : ∀ b ∈ ft, b < 128) {B : Nat} (hB : B < 2 ^ 31) (hp : PB B N) (k : ∀ σ', PgV σ' (pClose ft (N, o)).1 hd ft (pClose ft (N, o)).2 → Fr [4, 5, 6, 7] σ σ' → Q none σ') : Ev lc G mPg_closeLine 0 [some (.ref 7), none] [] σ Q := by
  refine ev_cv okPg_closeLine okOu_put rfl rfl trivial rfl (by decide +kernel) rfl rfl (sp_put h.2.2.2.2 (by decide) fun σ1 q1 q2 => ?_)
  have h1 := h.out q2 q1
  have f1 : Fr [4, 5, 6, 7] σ σ1 := q2.wk (by decide)
  have e41 : σ1.1 4 1 = N 1 := h1.1 1 (by decide)
  have h2 := h1.setL 2 (by decide) (σ1.1 4 1)
  have f2 : Fr [4, 5, 6, 7] σ1 (up2 σ1.1 4 2 (σ1.1 4 1), σ1.2) := Fr.u1 (by decide)
  rw [e41] at h2 f2
  refine ev_cv okPg_closeLine okPg_bottom rfl rfl trivial rfl (by decide +kernel) rfl rfl ?_
  rw [e41]
  refine sp_bottom h2 ?_
  have eb : bot (upd N 2 (N 1)) = bot N := by simp [bot, upd]
  rw [eb]
  refine ev_max okPg_closeLine rfl rfl trivial (by decide +kernel) rfl ?_
  have e74 : (up2 σ1.1 4 2 (N 1), σ1.2).1 7 4 = N 9 := by simp [up2]; exact h1.2.1 0 (by decide)
  rw [e74]
  refine ev_min okPg_closeLine rfl rfl trivial (by decide +kernel) rfl ?_
  have e43 : (up2 σ1.1 4 2 (N 1), σ1.2).1 4 3 = N 3 := by simp [up2]; exact h1.1 3 (by decide)
  rw [e43]
  refine ev_cv okPg_closeLine okOu_repeat rfl rfl trivial rfl (by decide +kernel) rfl rfl (sp_repeat h2.2.2.2.2 (by decide) _ fun σ2 r1 r2 => ?_)
  have h3 := h2.out r2 r1
  have f3 : Fr [4, 5, 6, 7] σ σ2 := (f1.tr f2).tr (r2.wk (by decide))
  have e77 : σ2.1 7 7 = N 12 := (h3.2.1 3 (by decide)).trans (by simp [upd])
  have h4 := h3.setP 3 (by decide) (σ2.1 7 7 + nI 1)
  have e432 : (up2 σ2.1 7 7 (σ2.1 7 7 + nI 1), σ2.2).1 4 3 = N 3 := by
    rw [h4.1 3 (by decide)]; simp [upd]
  refine ev_cv okPg_closeLine okPg_goDown rfl rfl trivial rfl (by decide +kernel) rfl rfl ?_
  rw [e432]
  refine sp_goDown h4 hb hB ((hp.keep (by decide) (by decide)).keep (by decide) (by decide)) fun σ3 s1 s2 => ?_
  refine ev_rv okPg_closeLine rfl rfl trivial rfl (k σ3 ?_ ((f3.tr (Fr.u1 (by decide))).tr (s2.wk (by decide))))
  rw [e77] at s1
  exact s1
theorem sp_skip (h : PgV σ N hd ft o) (hb : ∀ b ∈ hd, b < 128) (hb2 : ∀ b ∈ ft, b < 128) {B : Nat} (hB : B + 1 < 2 ^ 31) (hp : PB B N) {n : Int32} (k : ∀ σ', PgV σ' (pSkip hd ft n (N, o)).1 hd ft (pSkip hd ft n (N, o)).2 → Fr [5, 6, 7] σ σ' → Q none σ') : Ev lc G mPg_skip 0 [some (.ref 7), some (.int n)] [] σ Q := by
  have e4 : σ.1 7 4 = N 9 := h.2.1 0 (by decide)
  refine ev_cv okPg_skip okPg_bottom rfl rfl trivial rfl (by decide +kernel) rfl rfl (sp_bottom h ?_)
  refine ev_ic_le okPg_skip rfl rfl trivial (fun g => ?_) (fun g => ?_)
  · rw [e4] at g
    have fin : ∀ σ1, PgV σ1 (pSkip1 hd (N, o)).1 hd ft (pSkip1 hd (N, o)).2 → PB (B + 1) (pSkip1 hd (N, o)).1 → Fr [5, 6, 7] σ σ1 → Ev lc G mPg_skip 23 [some (.ref 7), some (.int n)] [] σ1 Q := by
      intro σ1 h1 hp1 hf
      refine ev_cv okPg_skip okPg_bottom rfl rfl trivial rfl (by decide +kernel) rfl rfl (sp_bottom h1 ?_)
      refine ev_min okPg_skip rfl rfl trivial (by decide +kernel) rfl ?_
      rw [show σ1.1 7 4 = (pSkip1 hd (N, o)).1 9 from h1.2.1 0 (by decide)]
      refine ev_cv okPg_skip okOu_repeat rfl rfl trivial rfl (by decide +kernel) rfl rfl (sp_repeat h1.2.2.2.2 (by decide) _ fun σ2 q1 q2 => ?_)
      refine ev_cv okPg_skip okPg_goDown rfl rfl trivial rfl (by decide +kernel) rfl rfl (sp_goDown (h1.out q2 q1) hb2 hB hp1 fun σ3 r1 r2 => ?_)
      refine ev_rv okPg_skip rfl rfl trivial rfl (k σ3 ?_ ((hf.tr (q2.wk (by decide))).tr r2))
      have : pSkip hd ft n (N, o) = pDown ft n ((pSkip1 hd (N, o)).1, emit (pSkip1 hd (N, o)).2 (List.replicate (imn n (bot (pSkip1 hd (N, o)).1 + nI 1 - (pSkip1 hd (N, o)).1 9)).toNatClampNeg 10)) := if_neg (Int32.not_lt.mpr g)
      rw [this]
      exact r1
    refine ev_cv okPg_skip okPg_isBegun rfl rfl trivial rfl (by decide +kernel) rfl rfl (sp_isBegun h ?_)
    refine ev_if_ne okPg_skip rfl rfl trivial (fun q => ?_) (fun q => ?_)
    · have g0 : ¬ N 9 = 0 := fun z => q (by rw [if_pos z]; rfl)
      have : pSkip1 hd (N, o) = (N, o) := if_neg g0
      refine fin σ ?_ ?_ Fr.rf
      · rw [this]; exact h
      · rw [this]; exact hp.mono (by omega)
    · have g0 : N 9 = 0 := by
        by_cases z : N 9 = 0
        · exact z
        · rw [if_neg z] at q
          exact absurd q (by decide)
      have : pSkip1 hd (N, o) = pHead hd (N, o) := if_pos g0
      refine ev_cv okPg_skip okPg_begin rfl rfl trivial rfl (by decide +kernel) rfl rfl (sp_begin h hb (by omega) hp fun σ1 q1 q2 => fin σ1 ?_ ?_ q2)
      · rw [this]; exact q1
      · rw [this]; exact pHead_PB hp
  · rw [e4] at g
    have : pSkip hd ft n (N, o) = (N, o) := if_pos (Int32.not_le.mp g)
    refine ev_rv okPg_skip rfl rfl trivial rfl (k σ ?_ Fr.rf)
    rw [this]
    exact h
end PG
end
section
/-! ===== the reference: output, titles ===== -/
/-- nothing but the cells S, and of the reference's own fields F, has changed -/
def Fq (S F : List Nat) (σ σ' : St2) : Prop := (∀ c, c ∉ S → c ≠ 22 → σ'.1 c = σ.1 c ∧ σ'.2 c = σ.2 c) ∧ ∀ f, f ∉ F → σ'.1 22 f = σ.1 22 f ∧ σ'.2 22 f = σ.2 22 f
theorem Fq.rf {S F : List Nat} {σ : St2} : Fq S F σ σ := ⟨fun _ _ _ => ⟨rfl, rfl⟩, fun _ _ => ⟨rfl, rfl⟩⟩
theorem Fq.tr {S F : List Nat} {a b c : St2} (h1 : Fq S F a b) (h2 : Fq S F b c) : Fq S F a c :=
  ⟨fun q hq hn => ⟨(h2.1 q hq hn).1.trans (h1.1 q hq hn).1, (h2.1 q hq hn).2.trans (h1.1 q hq hn).2⟩, fun f hf => ⟨(h2.2 f hf).1.trans (h1.2 f hf).1, (h2.2 f hf).2.trans (h1.2 f hf).2⟩⟩
theorem Fq.wk {S F S' F' : List Nat} {a b : St2} (h : Fq S F a b) (hs : ∀ c ∈ S, c ∈ S') (hf : ∀ c ∈ F, c ∈ F') : Fq S' F' a b := ⟨fun q hq hn => h.1 q (fun z => hq (hs q z)) hn, fun f z => h.2 f (fun w => z (hf f w))⟩
theorem Fq.u1 {S F : List Nat} {σ : St2} {c k : Nat} {x : Int32} (h : c ∈ S) (hc : c ≠ 22) : Fq S F σ (up2 σ.1 c k x, σ.2) := ⟨fun q hq _ => ⟨up2_ne _ _ _ (fun e => hq (e ▸ h)), rfl⟩, fun f _ => ⟨by show up2 σ.1 c k x 22 f = _; rw [up2_ne _ _ _ (Ne.symm hc)], rfl⟩⟩
theorem Fq.u2 {S F : List Nat} {σ : St2} {c k : Nat} {x : Int64} (h : c ∈ S) (hc : c ≠ 22) : Fq S F σ (σ.1, up2 σ.2 c k x) := ⟨fun q hq _ => ⟨rfl, up2_ne _ _ _ (fun e => hq (e ▸ h))⟩, fun f _ => ⟨rfl, by show up2 σ.2 c k x 22 f = _; rw [up2_ne _ _ _ (Ne.symm hc)]⟩⟩
theorem Fq.f1 {S F : List Nat} {σ : St2} {k : Nat} {x : Int32} (h : k ∈ F) : Fq S F σ (up2 σ.1 22 k x, σ.2) := ⟨fun q _ hn => ⟨up2_ne _ _ _ hn, rfl⟩, fun f hf => ⟨by show up2 σ.1 22 k x 22 f = _; rw [up2_col _ _ _ (fun e => hf (by rw [e]; exact h))], rfl⟩⟩
theorem Fq.f2 {S F : List Nat} {σ : St2} {k : Nat} {x : Int64} (h : k ∈ F) : Fq S F σ (σ.1, up2 σ.2 22 k x) := ⟨fun q _ hn => ⟨rfl, up2_ne _ _ _ hn⟩, fun f hf => ⟨rfl, by show up2 σ.2 22 k x 22 f = _; rw [up2_col _ _ _ (fun e => hf (by rw [e]; exact h))]⟩⟩
theorem Fq.a1 {S F : List Nat} {σ σ' : St2} {c : Nat} (h : Fq S F σ σ') (hc : c ∉ S) (hn : c ≠ 22) : σ'.1 c = σ.1 c := (h.1 c hc hn).1
theorem Fq.a2 {S F : List Nat} {σ σ' : St2} {c : Nat} (h : Fq S F σ σ') (hc : c ∉ S) (hn : c ≠ 22) : σ'.2 c = σ.2 c := (h.1 c hc hn).2
theorem Fq.g1 {S F : List Nat} {σ σ' : St2} {f : Nat} (h : Fq S F σ σ') (hf : f ∉ F) : σ'.1 22 f = σ.1 22 f := (h.2 f hf).1
theorem Fq.g2 {S F : List Nat} {σ σ' : St2} {f : Nat} (h : Fq S F σ σ') (hf : f ∉ F) : σ'.2 22 f = σ.2 22 f := (h.2 f hf).2
theorem RowAt.fq {S F : List Nat} {σ σ' : St2} {c : Nat} {x : List Nat} (h : RowAt σ c x) (hf : Fq S F σ σ') (hc : c ∉ S) (hn : c ≠ 22) : RowAt σ' c x := fun j hj => by rw [hf.a1 hc hn]; exact h j hj
/-- a list of the reference: its size in the field f, its numbers in the cell c, of at most n -/
def LstR (σ : St2) (f c n : Nat) (x : List Nat) : Prop := x.length ≤ n ∧ σ.1 22 f = nI x.length ∧ RowAt σ c x
theorem LstR.fq {S F : List Nat} {σ σ' : St2} {f c n : Nat} {x : List Nat} (h : LstR σ f c n x) (hf : Fq S F σ σ') (h1 : f ∉ F) (hc : c ∉ S) (hn : c ≠ 22) : LstR σ' f c n x := ⟨h.1, by rw [hf.g1 h1]; exact h.2.1, h.2.2.fq hf hc hn⟩
section RP
variable {lc : Launch} {G : GG} {σ : St2} {Q : Option Value → St2 → Prop} {o : List Nat}
theorem sp_in {v lo hi : Int32} (k : Q (some (.int (b2 (decide (lo ≤ v ∧ v ≤ hi))))) σ) : Ev lc G mMd_in 0 [some (.int v), some (.int lo), some (.int hi)] [] σ Q := by
  refine ev_ic_lt okMd_in rfl rfl trivial (fun h => ?_) (fun h => ?_)
  · rw [decide_eq_false (fun q => absurd h (Int32.not_lt.mpr q.1))] at k
    exact ev_nop okMd_in rfl rfl trivial (ev_rz okMd_in rfl rfl trivial rfl (Or.inl rfl) k)
  · refine ev_ic_gt okMd_in rfl rfl trivial (fun g => ?_) (fun g => ?_)
    · rw [decide_eq_false (fun q => absurd g (Int32.not_lt.mpr q.2))] at k
      exact ev_nop okMd_in rfl rfl trivial (ev_rz okMd_in rfl rfl trivial rfl (Or.inl rfl) k)
    · rw [decide_eq_true ⟨Int32.not_lt.mp h, Int32.not_lt.mp g⟩] at k
      exact ev_goto okMd_in rfl rfl trivial (ev_rz okMd_in rfl rfl trivial rfl (Or.inr rfl) k)
abbrev OutR (σ : St2) (o : List Nat) : Prop := LstR σ 24 40 20000 o
theorem sp_give (ho : OutR σ o) {b : Nat} (k : ∀ σ', OutR σ' (emit o [b]) → Fq [40] [24] σ σ' → Q none σ') : Ev lc G mMd_give 0 [some (.ref 22), some (.int (nI b))] [] σ Q := by
  obtain ⟨h1, h2, h3⟩ := ho
  refine ev_ic_ge okMd_give rfl rfl trivial (fun h => ?_) (fun h => ?_)
  · rw [h2] at h
    have e : o.length = 20000 := Nat.le_antisymm h1 ((nI_leI (by decide) (by omega)).mp h)
    rw [emit_full e] at k
    exact ev_rv okMd_give rfl rfl trivial rfl (k σ ⟨h1, h2, h3⟩ Fq.rf)
  · rw [h2] at h
    have hl : o.length < 20000 := (Nat.lt_or_ge o.length 20000).resolve_right (fun q => h (nI_le q (by omega)))
    rw [emit_room hl] at k
    refine ev_nop okMd_give rfl rfl ⟨by rw [h2]; exact vp_nI hl (by decide), trivial⟩ (ev_rv okMd_give rfl rfl trivial rfl ?_)
    refine k _ ⟨by simp; omega, ?_, RowAt.push h3 ?_ fun j hj => ?_⟩ ?_
    · simp [up2, h2, nI_add]
    · simp [up2, h2, nI_cl (show o.length < 2 ^ 31 by omega)]
    · simp [up2, h2, nI_cl (show o.length < 2 ^ 31 by omega), Nat.ne_of_lt hj]
    · exact Fq.tr (Fq.u1 (by decide) (by decide)) (Fq.f1 (σ := (_, _)) (by decide))
theorem lp_giveMany {b N : Nat} (hN : N < 2 ^ 31) : ∀ (m i : Nat) (σ : St2) (o : List Nat), i + m = N → OutR σ o → (∀ σ', OutR σ' (emit o (List.replicate m b)) → Fq [40] [24] σ σ' → Q none σ') → Ev lc G mMd_giveMany 2 [some (.ref 22), some (.int (nI b)), some (.int (nI N)), some (.int (nI i))] [] σ Q := by
  intro m
  induction m with
  | zero =>
    intro i σ o hi ho k
    rw [List.replicate_zero, emit_nil ho.1] at k
    exact ev_ic_ge okMd_giveMany rfl rfl trivial (fun h => ev_rv okMd_giveMany rfl rfl trivial rfl (k σ ho Fq.rf)) (fun h => absurd (nI_le (by omega) (by omega)) h)
  | succ m ih =>
    intro i σ o hi ho k
    refine ev_ic_ge okMd_giveMany rfl rfl trivial (fun h => absurd h (nI_ge (by omega) hN)) (fun h => ?_)
    refine ev_cv okMd_giveMany okMd_give rfl rfl trivial rfl (by decide +kernel) rfl rfl (sp_give ho fun σ1 h1 h2 => ?_)
    refine ev_goto okMd_giveMany rfl rfl trivial ?_
    rw [nI_add]
    refine ih (i + 1) σ1 _ (by omega) h1 (fun σ' q1 q2 => k σ' ?_ (h2.tr q2))
    rw [emit_emit] at q1
    exact q1
theorem sp_giveMany (ho : OutR σ o) {b : Nat} (n : Int32) (k : ∀ σ', OutR σ' (emit o (List.replicate n.toNatClampNeg b)) → Fq [40] [24] σ σ' → Q none σ') : Ev lc G mMd_giveMany 0 [some (.ref 22), some (.int (nI b)), some (.int n), none] [] σ Q := by
  refine ev_nop okMd_giveMany rfl rfl trivial ?_
  rcases i32_cases n with ⟨h1, h2⟩ | ⟨h1, h2⟩
  · rw [h2, List.replicate_zero, emit_nil ho.1] at k
    refine ev_ic_ge okMd_giveMany rfl rfl trivial (fun h => ev_rv okMd_giveMany rfl rfl trivial rfl (k σ ho Fq.rf)) (fun h => absurd ?_ h)
    exact Int32.le_of_lt h1
  · rw [h2]
    exact lp_giveMany h1 _ 0 σ o (by omega) ho k
/-- all digits from the e-th on -/
def dgr (p : Nat) : Nat → List Nat
  | 0 => [48 + p % 10]
  | e + 1 => [48 + p / 10 ^ (e + 1) % 10] ++ dgr p e
theorem dg_low {p : Nat} : ∀ e, (e = 0 ∨ 10 ^ e ≤ p) → dg p e = dgr p e
  | 0, _ => rfl
  | e + 1, h => by
    have h1 : 10 ^ (e + 1) ≤ p := h.resolve_left (by omega)
    have h2 : 10 ^ e ≤ p := by rw [Nat.pow_succ] at h1; omega
    rw [dg, dgr, if_pos h1, dg_low e (Or.inr h2)]
theorem dg_high {p e : Nat} (h : p < 10 ^ (e + 1)) (h0 : e = 0 ∨ 10 ^ e ≤ p) : ∀ d, dg p (e + d) = dgr p e
  | 0 => dg_low e h0
  | d + 1 => by
    have : 10 ^ (e + 1) ≤ 10 ^ (e + d + 1) := Nat.pow_le_pow_right (by decide) (by omega)
    rw [show e + (d + 1) = (e + d) + 1 by omega, dg, if_neg (by omega), dg_high h h0 d]
    rfl
theorem lp_num2 {p : Nat} (hp : p < 2 ^ 31) : ∀ (e : Nat) (σ : St2) (o : List Nat), e ≤ 9 → OutR σ o → (∀ σ', OutR σ' (emit o (dgr p e)) → Fq [40] [24] σ σ' → Q none σ') → Ev lc G mMd_giveNumber 18 [some (.ref 22), some (.int (nI p)), some (.int (nI (10 ^ e)))] [] σ Q := by
  intro e
  induction e with
  | zero =>
    intro σ o he ho k
    refine ev_if_le okMd_giveNumber rfl rfl trivial (fun h => absurd h (by decide)) (fun h => ?_)
    refine ev_cv okMd_giveNumber okMd_give rfl rfl ⟨by decide, by decide, trivial⟩ rfl (by decide +kernel) rfl rfl ?_
    rw [show (10 : Nat) ^ 0 = 1 from rfl, pk_div hp (by decide) (by decide), Nat.div_one, pk_rem hp (by decide) (by decide), nI_add]
    refine sp_give ho fun σ1 h1 h2 => ?_
    refine ev_goto okMd_giveNumber rfl rfl ⟨by decide, trivial⟩ ?_
    exact ev_if_le okMd_giveNumber rfl rfl trivial (fun h => ev_rv okMd_giveNumber rfl rfl trivial rfl (k σ1 h1 h2)) (fun h => absurd (by decide) h)
  | succ e ih =>
    intro σ o he ho k
    have h9 := pow9 he
    have h0 : 0 < 10 ^ (e + 1) := Nat.pos_of_ne_zero (by simp)
    have hne : ¬ nI (10 ^ (e + 1)) = 0 := nI_ne0 h0 (by omega)
    have hdiv : nI (10 ^ (e + 1)) / nI 10 = nI (10 ^ e) := by
      rw [pk_div (by omega) (by decide) (by decide), Nat.pow_succ, Nat.mul_div_cancel _ (by decide)]
    have hq : p / 10 ^ (e + 1) < 2 ^ 31 := Nat.lt_of_le_of_lt (Nat.div_le_self _ _) hp
    refine ev_if_le okMd_giveNumber rfl rfl trivial (fun h => absurd h (nI_nle h0 (by omega))) (fun h => ?_)
    refine ev_cv okMd_giveNumber okMd_give rfl rfl ⟨hne, by decide, trivial⟩ rfl (by decide +kernel) rfl rfl ?_
    rw [pk_div hp h0 (by omega), pk_rem hq (by decide) (by decide), nI_add]
    refine sp_give ho fun σ1 h1 h2 => ?_
    refine ev_goto okMd_giveNumber rfl rfl ⟨by decide, trivial⟩ ?_
    rw [hdiv]
    exact ih σ1 _ (by omega) h1 (fun σ' q1 q2 => k σ' (by rw [emit_emit] at q1; exact q1) (h2.tr q2))
theorem lp_num1 {p : Nat} (hp : p < 2 ^ 31) (ho : OutR σ o) (k : ∀ σ', OutR σ' (emit o (dg p 9)) → Fq [40] [24] σ σ' → Q none σ') : ∀ (m e : Nat), e + m = 9 → (e = 0 ∨ 10 ^ e ≤ p) → Ev lc G mMd_giveNumber 2 [some (.ref 22), some (.int (nI p)), some (.int (nI (10 ^ e)))] [] σ Q := by
  intro m
  have hstep : ∀ e, e ≤ 9 → (e = 0 ∨ 10 ^ e ≤ p) → p / 10 ^ e ≤ 9 → Ev lc G mMd_giveNumber 18 [some (.ref 22), some (.int (nI p)), some (.int (nI (10 ^ e)))] [] σ Q := by
    intro e he h0 hle
    have hpos : 0 < 10 ^ e := Nat.pos_of_ne_zero (by simp)
    have hlt : p < 10 ^ (e + 1) := by
      rw [Nat.pow_succ, Nat.mul_comm]
      have := Nat.lt_mul_of_div_lt (show p / 10 ^ e < 10 by omega) hpos
      exact this
    refine lp_num2 hp e σ o he ho ?_
    have := dg_high hlt h0 (9 - e)
    rw [show e + (9 - e) = 9 by omega] at this
    rw [← this]
    exact k
  induction m with
  | zero =>
    intro e he h0
    have e9 : e = 9 := by omega
    subst e9
    have hle : p / 10 ^ 9 ≤ 9 := by omega
    refine ev_ic_le okMd_giveNumber rfl rfl ⟨by decide, trivial⟩ (fun h => hstep 9 (by omega) h0 hle) (fun h => absurd ?_ h)
    rw [pk_div hp (by decide) (by decide)]
    exact nI_le hle (by decide)
  | succ m ih =>
    intro e he h0
    have h9 := pow9 (show e ≤ 9 by omega)
    have hpos : 0 < 10 ^ e := Nat.pos_of_ne_zero (by simp)
    have hq : p / 10 ^ e < 2 ^ 31 := Nat.lt_of_le_of_lt (Nat.div_le_self _ _) hp
    refine ev_ic_le okMd_giveNumber rfl rfl ⟨nI_ne0 hpos (by omega), trivial⟩ (fun h => ?_) (fun h => ?_)
    · rw [pk_div hp hpos (by omega)] at h
      exact hstep e (by omega) h0 ((nI_leI hq (by decide)).mp h)
    · rw [pk_div hp hpos (by omega)] at h
      have hg : 9 < p / 10 ^ e := by
        rcases Nat.lt_or_ge 9 (p / 10 ^ e) with q | q
        · exact q
        · exact absurd (nI_le q (by decide)) h
      refine ev_goto okMd_giveNumber rfl rfl trivial ?_
      rw [pk_mul, Nat.mul_comm, ← Nat.pow_succ]
      refine ih (e + 1) (by omega) (Or.inr ?_)
      rw [Nat.pow_succ, Nat.mul_comm]
      exact (Nat.le_div_iff_mul_le hpos).mp (show 10 ≤ p / 10 ^ e by omega)
theorem sp_giveNumber {p : Nat} (hp : p < 2 ^ 31) (ho : OutR σ o) (k : ∀ σ', OutR σ' (emit o (dg p 9)) → Fq [40] [24] σ σ' → Q none σ') : Ev lc G mMd_giveNumber 0 [some (.ref 22), some (.int (nI p)), none] [] σ Q :=
  ev_nop okMd_giveNumber rfl rfl trivial (lp_num1 hp ho k 9 0 rfl (Or.inl rfl))
theorem lp_giveTitle {c p : Nat} (hc : c = 41 ∨ c = 42) (hp : p < 2 ^ 31) {x : List Nat} (h100 : x.length ≤ 100) (hb : ∀ b ∈ x, b < 128) : ∀ (m i : Nat) (σ : St2) (o : List Nat), i + m = x.length → RowAt σ c x → σ.1 22 35 = nI p → OutR σ o → (∀ σ', OutR σ' (emit o ((x.drop i).flatMap (fun b => if b = 35 then dg p 9 else [b]) ++ [10, 10])) → Fq [40] [24] σ σ' → Q none σ') → Ev lc G mMd_giveTitle 8 [some (.ref 22), some (.ref c), some (.int (nI x.length)), some (.int (nI i))] [] σ Q := by
  intro m
  induction m with
  | zero =>
    intro i σ o hi hx hpg ho k
    rw [List.drop_eq_nil_of_le (by omega)] at k
    rcases hc with rfl | rfl <;> (
      refine ev_ic_ge okMd_giveTitle rfl rfl trivial (fun h => ?_) (fun h => absurd (nI_le (by omega) (by omega)) h)
      refine ev_cv okMd_giveTitle okMd_give rfl rfl trivial rfl (by decide +kernel) rfl rfl (sp_give ho fun σ1 h1 h2 => ?_)
      refine ev_cv okMd_giveTitle okMd_give rfl rfl trivial rfl (by decide +kernel) rfl rfl (sp_give h1 fun σ2 h3 h4 => ?_)
      refine ev_rv okMd_giveTitle rfl rfl trivial rfl (k σ2 ?_ (h2.tr h4))
      rw [emit_emit] at h3
      exact h3)
  | succ m ih =>
    intro i σ o hi hx hpg ho k
    have hlt : i < x.length := by omega
    have hbb := getD_lt (j := i) hb (by decide)
    have hv : σ.1 c (nI i).toNatClampNeg = nI (x.getD i 0) := by rw [nI_cl (by omega)]; exact hx i hlt
    rw [List.drop_eq_getElem_cons hlt, List.flatMap_cons, ← gD hlt] at k
    have next : ∀ (σ1 : St2) (o1 : List Nat), OutR σ1 o1 → Fq [40] [24] σ σ1 → o1 = emit o (if x.getD i 0 = 35 then dg p 9 else [x.getD i 0]) → Ev lc G mMd_giveTitle 39 [some (.ref 22), some (.ref c), some (.int (nI x.length)), some (.int (nI i))] [] σ1 Q := by
      intro σ1 o1 h1 h2 h3
      have key := ih (i + 1) σ1 o1 (by omega) (hx.fq h2 (by rcases hc with rfl | rfl <;> decide) (by rcases hc with rfl | rfl <;> decide)) (by rw [h2.g1 (by decide)]; exact hpg) h1 (fun σ' q1 q2 => k σ' (by rw [h3, emit_emit, ← List.append_assoc] at q1; exact q1) (h2.tr q2))
      rcases hc with rfl | rfl <;> (
        refine ev_goto okMd_giveTitle rfl rfl trivial ?_
        rw [nI_add]
        exact key)
    rcases hc with rfl | rfl <;> (
      refine ev_ic_ge okMd_giveTitle rfl rfl trivial (fun h => absurd h (nI_ge hlt (by omega))) (fun h => ?_)
      refine ev_ic_ne okMd_giveTitle rfl rfl ⟨vp_nI (by omega) (by decide), trivial⟩ (fun g => ?_) (fun g => ?_)
      · rw [hv] at g
        have e : ¬ x.getD i 0 = 35 := fun q => g (by rw [q])
        refine ev_cv okMd_giveTitle okMd_give rfl rfl ⟨vp_nI (by omega) (by decide), trivial⟩ rfl (by decide +kernel) rfl rfl ?_
        rw [hv]
        exact sp_give ho fun σ1 h1 h2 => next σ1 _ h1 h2 (by rw [if_neg e])
      · rw [hv] at g
        have e : x.getD i 0 = 35 := (nI_eq (by omega) (by decide)).mp g
        refine ev_cv okMd_giveTitle okMd_giveNumber rfl rfl trivial rfl (by decide +kernel) rfl rfl ?_
        rw [hpg]
        exact sp_giveNumber hp ho fun σ1 h1 h2 => ev_goto okMd_giveTitle rfl rfl trivial (next σ1 _ h1 h2 (by rw [if_pos e])))
theorem sp_giveTitle {c p : Nat} (hc : c = 41 ∨ c = 42) (hp : p < 2 ^ 31) {x : List Nat} (h100 : x.length ≤ 100) (hb : ∀ b ∈ x, b < 128) (hx : RowAt σ c x) (hpg : σ.1 22 35 = nI p) (ho : OutR σ o) (k : ∀ σ', OutR σ' (emit o (ttl x p)) → Fq [40] [24] σ σ' → Q none σ') : Ev lc G mMd_giveTitle 0 [some (.ref 22), some (.ref c), some (.int (nI x.length)), none] [] σ Q := by
  have key : ∀ σ1, OutR σ1 (emit o [10]) → Fq [40] [24] σ σ1 → Ev lc G mMd_giveTitle 8 [some (.ref 22), some (.ref c), some (.int (nI x.length)), some (.int (nI 0))] [] σ1 Q := fun σ1 h1 h2 =>
    lp_giveTitle hc hp h100 hb x.length 0 σ1 _ (by omega) (hx.fq h2 (by rcases hc with rfl | rfl <;> decide) (by rcases hc with rfl | rfl <;> decide)) (by rw [h2.g1 (by decide)]; exact hpg) h1 (fun σ' q1 q2 => k σ' (by rw [emit_emit, List.drop_zero] at q1; unfold ttl; rw [List.append_assoc]; exact q1) (h2.tr q2))
  rcases hc with rfl | rfl <;> (
    refine ev_cv okMd_giveTitle okMd_give rfl rfl trivial rfl (by decide +kernel) rfl rfl (sp_give ho fun σ1 h1 h2 => ?_)
    exact ev_nop okMd_giveTitle rfl rfl trivial (key σ1 h1 h2))
end RP
end
section
/-! ===== the reference: pages ===== -/
def fm : Nat → Nat
  | 0 => 30 | 1 => 28 | 2 => 29 | 3 => 27 | 4 => 31 | 5 => 32 | 6 => 33 | 7 => 25 | 8 => 26 | 9 => 34 | 10 => 35 | 11 => 36 | 12 => 42 | _ => 0
theorem fm_inj {j k : Nat} (hj : j < 13) (hk : k < 13) (h : j ≠ k) : fm j ≠ fm k := by
  have : ∀ j : Fin 13, ∀ k : Fin 13, j.val ≠ k.val → fm j.val ≠ fm k.val := by decide
  exact this ⟨j, hj⟩ ⟨k, hk⟩ h
theorem fm_out {k : Nat} (hk : k < 13) : fm k ∉ [38, 40, 24, 1, 3, 6, 11, 15, 16, 41, 43, 44, 45, 46, 47] := by
  have : ∀ k : Fin 13, fm k.val ∉ [38, 40, 24, 1, 3, 6, 11, 15, 16, 41, 43, 44, 45, 46, 47] := by decide
  exact this ⟨k, hk⟩
def RgV (σ : St2) (N : NN) (hd ft o : List Nat) : Prop := (∀ k, k < 13 → σ.1 22 (fm k) = N k) ∧ LstR σ 38 41 100 hd ∧ LstR σ 40 42 100 ft ∧ OutR σ o
theorem RgV.fq {S F : List Nat} {σ σ' : St2} {N : NN} {hd ft o : List Nat} (h : RgV σ N hd ft o) (hf : Fq S F σ σ') (hs : ∀ c ∈ [40, 41, 42], c ∉ S) (hF : ∀ k, k < 13 → fm k ∉ F) (h1 : 38 ∉ F) (h2 : 40 ∉ F) (h3 : 24 ∉ F) : RgV σ' N hd ft o :=
  ⟨fun k hk => by rw [hf.g1 (hF k hk)]; exact h.1 k hk, h.2.1.fq hf h1 (hs 41 (by decide)) (by decide), h.2.2.1.fq hf h2 (hs 42 (by decide)) (by decide), h.2.2.2.fq hf h3 (hs 40 (by decide)) (by decide)⟩
theorem fm24 {k : Nat} (hk : k < 13) : fm k ∉ [24] := fun h => fm_out hk (by rw [List.mem_singleton.mp h]; decide)
theorem RgV.out {σ σ' : St2} {N : NN} {hd ft o o' : List Nat} (h : RgV σ N hd ft o) (hf : Fq [40] [24] σ σ') (ho : OutR σ' o') : RgV σ' N hd ft o' :=
  ⟨fun k hk => by rw [hf.g1 (fm24 hk)]; exact h.1 k hk, h.2.1.fq hf (by decide) (by decide) (by decide), h.2.2.1.fq hf (by decide) (by decide) (by decide), ho⟩
theorem RgV.set {σ : St2} {N : NN} {hd ft o : List Nat} (h : RgV σ N hd ft o) (k : Nat) (hk : k < 13) (v : Int32) : RgV (up2 σ.1 22 (fm k) v, σ.2) (upd N k v) hd ft o := by
  have hf : Fq [] [fm k] σ (up2 σ.1 22 (fm k) v, σ.2) := Fq.f1 (by simp)
  have ho := fm_out hk
  have e : ∀ f, f ∈ [38, 40, 24] → f ∉ [fm k] := fun f hf1 hf2 => ho (by
    rw [← List.mem_singleton.mp hf2]
    simp only [List.mem_cons, List.not_mem_nil, or_false] at hf1 ⊢
    omega)
  refine ⟨fun j hj => ?_, h.2.1.fq hf (e _ (by decide)) (by decide) (by decide), h.2.2.1.fq hf (e _ (by decide)) (by decide) (by decide), h.2.2.2.fq hf (e _ (by decide)) (by decide) (by decide)⟩
  show up2 σ.1 22 (fm k) v 22 (fm j) = _
  by_cases q : j = k
  · subst q
    rw [up2_same, upd, if_pos rfl]
  · rw [up2_col _ _ _ (fm_inj hj hk q), h.1 j hj, upd, if_neg q]
/-- what a sheet gives: codes from 256 on are underlined -/
def ux (y : List Nat) : List Nat := y.flatMap (fun v => if 256 ≤ v then [95, 8, v % 256] else [v % 256])
theorem ux_cons (v : Nat) (y : List Nat) : ux (v :: y) = (if 256 ≤ v then [95, 8, v % 256] else [v % 256]) ++ ux y := by simp [ux]
theorem upd_comm (N : NN) {a b : Nat} (x y : Int32) (h : a ≠ b) : upd (upd N a x) b y = upd (upd N b y) a x := by
  funext k
  simp only [upd]
  by_cases h1 : k = b
  · subst h1
    rw [if_pos rfl, if_neg (Ne.symm h), if_pos rfl]
  · rw [if_neg h1]
    by_cases h2 : k = a
    · rw [if_pos h2, if_pos h2]
    · rw [if_neg h2, if_neg h2, if_neg h1]
theorem pHead_c12 (hd : List Nat) (N : NN) (o : List Nat) (v : Int32) : pHead hd (upd N 12 v, o) = (upd (pHead hd (N, o)).1 12 v, (pHead hd (N, o)).2) := by
  unfold pHead
  refine Prod.ext ?_ ?_
  · show upd (upd (upd (upd N 12 v) 10 (upd N 12 v 11)) 11 (upd N 12 v 11 + nI 1)) 9 (nI 4) = upd (upd (upd (upd N 10 (N 11)) 11 (N 11 + nI 1)) 9 (nI 4)) 12 v
    rw [show upd N 12 v 11 = N 11 by simp [upd], upd_comm N _ _ (show 12 ≠ 10 by decide), upd_comm _ _ _ (show 12 ≠ 11 by decide), upd_comm _ _ _ (show 12 ≠ 9 by decide)]
  · show emit o (ttl hd (upd N 12 v 11).toNatClampNeg) = _
    rw [show upd N 12 v 11 = N 11 by simp [upd]]
theorem pOpen0_c12 (hd : List Nat) (N : NN) (o : List Nat) (v : Int32) : pOpen0 hd (upd N 12 v, o) = (upd (pOpen0 hd (N, o)).1 12 v, (pOpen0 hd (N, o)).2) := by
  unfold pOpen0
  have e1 : upd N 12 v 9 = N 9 := by simp [upd]
  have e2 : bot (upd N 12 v) = bot N := by simp [bot, upd]
  simp only [e1, e2]
  split
  · exact pHead_c12 hd N o v
  · rfl
theorem pOpen0_12 (hd : List Nat) (N : NN) (o : List Nat) : (pOpen0 hd (N, o)).1 12 = N 12 := by
  unfold pOpen0
  split <;> simp [pHead, upd]
theorem i0_ge (v : Int32) : (if 0 ≤ v then v else nI 0) = i0 v := by
  unfold i0
  by_cases h : nI 0 < v
  · rw [if_pos h, if_pos (show 0 ≤ v from Int32.le_of_lt h)]
  · rw [if_neg h]
    by_cases g : 0 ≤ v
    · rw [if_pos g]
      exact Int32.le_antisymm (Int32.not_lt.mp h) g
    · rw [if_neg g]
theorem imn_ge (x y : Int32) : (if y ≤ x then y else x) = imn x y := by
  unfold imn
  by_cases h : y < x
  · rw [if_pos h, if_pos (Int32.le_of_lt h)]
  · rw [if_neg h]
    by_cases g : y ≤ x
    · rw [if_pos g]
      exact Int32.le_antisymm g (Int32.not_lt.mp h)
    · rw [if_neg g]
section RQ
variable {lc : Launch} {G : GG} {σ : St2} {Q : Option Value → St2 → Prop} {N : NN} {hd ft o : List Nat}
theorem sp_bottomR (h : RgV σ N hd ft o) (k : Q (some (.int (bot N))) σ) : Ev lc G mMd_bottom 0 [some (.ref 22)] [] σ Q := by
  have e : σ.1 22 33 = N 6 := h.1 6 (by decide)
  refine ev_ri okMd_bottom rfl rfl trivial rfl ?_
  rw [e]
  exact k
theorem sp_giveHead (h : RgV σ N hd ft o) (hb : ∀ b ∈ hd, b < 128) {B : Nat} (hB : B < 2 ^ 31) (hp : PB B N) (k : ∀ σ', RgV σ' (pHead hd (N, o)).1 hd ft (pHead hd (N, o)).2 → Fq [40] [24, 34, 35, 36] σ σ' → Q none σ') : Ev lc G mMd_giveHead 0 [some (.ref 22)] [] σ Q := by
  obtain ⟨p, q, e1, e2, h3, h4⟩ := hp
  have e6 : σ.1 22 36 = nI p := (h.1 11 (by decide)).trans e1
  have h1 := (h.set 10 (by decide) (σ.1 22 36)).set 11 (by decide) (up2 σ.1 22 35 (σ.1 22 36) 22 36 + nI 1)
  refine ev_cv okMd_giveHead okMd_giveTitle rfl rfl trivial rfl (by decide +kernel) rfl rfl ?_
  have e38 := h1.2.1.2.1
  have e35 : (up2 (up2 σ.1 22 35 (σ.1 22 36), σ.2).1 22 36 ((up2 σ.1 22 35 (σ.1 22 36), σ.2).1 22 36 + nI 1), (up2 σ.1 22 35 (σ.1 22 36), σ.2).2).1 22 35 = nI p := by simp [up2, e6]
  have e38' : (up2 (up2 σ.1 22 35 (σ.1 22 36), σ.2).1 22 36 ((up2 σ.1 22 35 (σ.1 22 36), σ.2).1 22 36 + nI 1), (up2 σ.1 22 35 (σ.1 22 36), σ.2).2).1 22 38 = nI hd.length := e38
  rw [e38']
  refine sp_giveTitle (Or.inl rfl) (by omega) h1.2.1.1 hb h1.2.1.2.2 e35 h1.2.2.2 fun σ1 q1 q2 => ?_
  refine ev_rv okMd_giveHead rfl rfl trivial rfl (k _ ?_ ?_)
  · have h2 := (h1.out q2 q1).set 9 (by decide) (nI 4)
    have e7 : upd (upd (upd N 10 (σ.1 22 36)) 11 (up2 σ.1 22 35 (σ.1 22 36) 22 36 + nI 1)) 9 (nI 4) = (pHead hd (N, o)).1 := by
      simp [pHead, up2, e6, e1]
    rw [e7] at h2
    have e8 : (pHead hd (N, o)).2 = emit o (ttl hd p) := by simp [pHead, e1, nI_cl (show p < 2 ^ 31 by omega)]
    rw [e8]
    exact h2
  · exact Fq.tr (Fq.tr (Fq.tr (Fq.f1 (by decide)) (Fq.f1 (σ := (_, _)) (by decide))) (q2.wk (by decide) (by decide))) (Fq.f1 (by decide))
theorem sp_giveFoot (h : RgV σ N hd ft o) (hb : ∀ b ∈ ft, b < 128) {B : Nat} (hB : B < 2 ^ 31) (hp : PB B N) (k : ∀ σ', RgV σ' N hd ft (emit o (ttl ft (N 10).toNatClampNeg)) → Fq [40] [24] σ σ' → Q none σ') : Ev lc G mMd_giveFoot 0 [some (.ref 22)] [] σ Q := by
  obtain ⟨p, q, e1, e2, h3, h4⟩ := hp
  refine ev_cv okMd_giveFoot okMd_giveTitle rfl rfl trivial rfl (by decide +kernel) rfl rfl ?_
  rw [h.2.2.1.2.1]
  refine sp_giveTitle (p := q) (Or.inr rfl) (by omega) h.2.2.1.1 hb h.2.2.1.2.2 ((h.1 10 (by decide)).trans e2) h.2.2.2 fun σ1 q1 q2 => ?_
  refine ev_rv okMd_giveFoot rfl rfl trivial rfl (k σ1 ?_ q2)
  rw [e2, nI_cl (by omega)]
  exact h.out q2 q1
theorem lp_put {y : List Nat} (hy : ∀ v ∈ y, v < 512) : ∀ (m i : Nat) (σ : St2) (o : List Nat), i + m = y.length → LstR σ 3 24 300 y → OutR σ o → (∀ σ', OutR σ' (emit o (ux (y.drop i))) → Fq [40] [24] σ σ' → Ev lc G mMd_put 107 [some (.ref 22), none] [] σ' Q) → Ev lc G mMd_put 55 [some (.ref 22), some (.int (nI i))] [] σ Q := by
  intro m
  induction m with
  | zero =>
    intro i σ o hi hs ho k
    have hl := hs.1
    rw [List.drop_eq_nil_of_le (by omega), show ux [] = [] from rfl, emit_nil ho.1] at k
    refine ev_ic_ge okMd_put rfl rfl trivial (fun h => ev_lv [some (.ref 22), none] ⟨rfl, trivial⟩ (k σ ho Fq.rf)) (fun h => absurd ?_ h)
    rw [hs.2.1]
    exact nI_le (by omega) (by omega)
  | succ m ih =>
    intro i σ o hi hs ho k
    have hl := hs.1
    have hlt : i < y.length := by omega
    have hbb := getD_lt (j := i) hy (by decide)
    have hv : σ.1 24 (nI i).toNatClampNeg = nI (y.getD i 0) := by rw [nI_cl (by omega)]; exact hs.2.2 i hlt
    rw [List.drop_eq_getElem_cons hlt, ux_cons, ← gD hlt] at k
    have next : ∀ (σ1 : St2) (o1 : List Nat), OutR σ1 o1 → Fq [40] [24] σ σ1 → emit o1 ([y.getD i 0 % 256] ++ ux (y.drop (i + 1))) = emit o ((if 256 ≤ y.getD i 0 then [95, 8, y.getD i 0 % 256] else [y.getD i 0 % 256]) ++ ux (y.drop (i + 1))) → Ev lc G mMd_put 87 [some (.ref 22), some (.int (nI i))] [] σ1 Q := by
      intro σ1 o1 h1 h2 h3
      have hv1 : σ1.1 24 (nI i).toNatClampNeg = nI (y.getD i 0) := by rw [h2.a1 (by decide) (by decide)]; exact hv
      refine ev_cv okMd_put okMd_give rfl rfl ⟨vp_nI (by omega) (by decide), trivial⟩ rfl (by decide +kernel) rfl rfl ?_
      rw [hv1, pk_andN (by omega) 8 (by decide)]
      refine sp_give h1 fun σ2 q1 q2 => ?_
      refine ev_goto okMd_put rfl rfl trivial ?_
      rw [nI_add]
      refine ih (i + 1) σ2 _ (by omega) ((hs.fq h2 (by decide) (by decide) (by decide)).fq q2 (by decide) (by decide) (by decide)) q1 (fun σ' r1 r2 => k σ' ?_ ((h2.tr q2).tr r2))
      rw [emit_emit] at r1
      rw [← h3]
      exact r1
    refine ev_ic_ge okMd_put rfl rfl trivial (fun h => absurd h (by rw [hs.2.1]; exact nI_ge hlt (by omega))) (fun h => ?_)
    refine ev_ic_lt okMd_put rfl rfl ⟨vp_nI (by omega) (by decide), trivial⟩ (fun g => ?_) (fun g => ?_)
    · rw [hv] at g
      have e : ¬ 256 ≤ y.getD i 0 := Nat.not_le.mpr ((nI_ltI (by omega) (by decide)).mp g)
      exact next σ o ho Fq.rf (by rw [if_neg e])
    · rw [hv] at g
      have e : 256 ≤ y.getD i 0 := (Nat.lt_or_ge (y.getD i 0) 256).resolve_left (fun q => g (nI_lt q (by decide)))
      refine ev_cv okMd_put okMd_give rfl rfl trivial rfl (by decide +kernel) rfl rfl (sp_give ho fun σ1 h1 h2 => ?_)
      refine ev_cv okMd_put okMd_give rfl rfl trivial rfl (by decide +kernel) rfl rfl (sp_give h1 fun σ2 h3 h4 => ?_)
      refine next σ2 _ h3 (h2.tr h4) ?_
      rw [if_pos e, emit_emit, emit_emit]
      rfl
def pPut (hd ft y : List Nat) (s : PS) : PS := pClose ft ((pOpen hd y.isEmpty s).1, emit (pOpen hd y.isEmpty s).2 (ux y))
theorem sp_putR {y : List Nat} (hy : ∀ v ∈ y, v < 512) (h : RgV σ N hd ft o) (hs : LstR σ 3 24 300 y) (hb : ∀ b ∈ hd, b < 128) (hb2 : ∀ b ∈ ft, b < 128) {B : Nat} (hB : B + 1 < 2 ^ 31) (hp : PB B N) (k : ∀ σ', RgV σ' (pPut hd ft y (N, o)).1 hd ft (pPut hd ft y (N, o)).2 → Fq [40] [24, 34, 35, 36, 42, 29] σ σ' → Q none σ') : Ev lc G mMd_put 0 [some (.ref 22), none] [] σ Q := by
  have e42 : σ.1 22 42 = N 12 := h.1 12 (by decide)
  have e34 : σ.1 22 34 = N 9 := h.1 9 (by decide)
  have h1 := h.set 12 (by decide) (σ.1 22 42 + nI 1)
  have f1 : Fq [40] [24, 34, 35, 36, 42, 29] σ (up2 σ.1 22 42 (σ.1 22 42 + nI 1), σ.2) := Fq.f1 (by decide)
  rw [e42] at h1
  have hs1 : LstR (up2 σ.1 22 42 (N 12 + nI 1), σ.2) 3 24 300 y := hs.fq (S := []) (F := [42]) (Fq.f1 (by decide)) (by decide) (by decide) (by decide)
  have hp1 : PB B (upd N 12 (N 12 + nI 1)) := hp.keep (by decide) (by decide)
  -- behind the HEAD
  have body : ∀ σ1, RgV σ1 (pOpen0 hd (upd N 12 (N 12 + nI 1), o)).1 hd ft (pOpen0 hd (upd N 12 (N 12 + nI 1), o)).2 → LstR σ1 3 24 300 y → Fq [40] [24, 34, 35, 36, 42, 29] σ σ1 → Ev lc G mMd_put 32 [some (.ref 22), none] [] σ1 Q := by
    rw [pOpen0_c12]
    generalize hS : pOpen0 hd (N, o) = S
    intro σ1 g1 g2 g3
    have hlen := g2.1
    have p1 : PB (B + 1) S.1 := by rw [← hS]; exact pOpen0_PB hp
    have s12 : S.1 12 = N 12 := by rw [← hS]; exact pOpen0_12 hd N o
    have eo : (pOpen hd y.isEmpty (N, o)) = (S.1, if y.isEmpty then S.2 else emit S.2 (List.replicate (S.1 2).toNatClampNeg 32)) := by unfold pOpen; rw [hS]
    -- behind the blanks
    have tail : ∀ σ2, RgV σ2 (upd S.1 12 (N 12 + nI 1)) hd ft (if y.isEmpty then S.2 else emit S.2 (List.replicate (S.1 2).toNatClampNeg 32)) → LstR σ2 3 24 300 y → Fq [40] [24, 34, 35, 36, 42, 29] σ σ2 → Ev lc G mMd_put 53 [some (.ref 22), none] [] σ2 Q := by
      generalize hO : (if y.isEmpty then S.2 else emit S.2 (List.replicate (S.1 2).toNatClampNeg 32)) = O at *
      intro σ2 a1 a2 a3
      refine ev_nop okMd_put rfl rfl trivial (lp_put hy y.length 0 σ2 O (by omega) a2 a1.2.2.2 fun σ3 c1 c2 => ?_)
      rw [List.drop_zero] at c1
      have a4 := a1.out c2 c1
      refine ev_cv okMd_put okMd_give rfl rfl trivial rfl (by decide +kernel) rfl rfl (sp_give a4.2.2.2 fun σ4 d1 d2 => ?_)
      have a5 := a4.out d2 d1
      have e28 : σ4.1 22 28 = S.1 1 := (a5.1 1 (by decide)).trans (by simp [upd])
      have a6 := a5.set 2 (by decide) (σ4.1 22 28)
      rw [e28] at a6
      refine ev_cv okMd_put okMd_bottom rfl rfl trivial rfl (by decide +kernel) rfl rfl ?_
      rw [e28]
      refine sp_bottomR a6 ?_
      have eb : bot (upd (upd S.1 12 (N 12 + nI 1)) 2 (S.1 1)) = bot S.1 := by simp [bot, upd]
      have e34 : (up2 σ4.1 22 29 (S.1 1), σ4.2).1 22 34 = S.1 9 := (a6.1 9 (by decide)).trans (by simp [upd])
      have e27 : (up2 σ4.1 22 29 (S.1 1), σ4.2).1 22 27 = S.1 3 := (a6.1 3 (by decide)).trans (by simp [upd])
      rw [eb]
      have f4 : Fq [40] [24, 34, 35, 36, 42, 29] σ (up2 σ4.1 22 29 (S.1 1), σ4.2) := ((a3.tr (c2.wk (by decide) (by decide))).tr (d2.wk (by decide) (by decide))).tr (Fq.f1 (by decide))
      have a6 : RgV (up2 σ4.1 22 29 (S.1 1), σ4.2) (upd (upd S.1 12 (N 12 + nI 1)) 2 (S.1 1)) hd ft (emit (emit O (ux y)) [10]) := a6
      generalize (up2 σ4.1 22 29 (S.1 1), σ4.2) = τ at a6 e34 e27 f4 ⊢
      -- the bytes 10 that SPACING gives, then the end
      have last : ∀ free : Int32, free = i0 (bot S.1 - S.1 9) → Ev lc G mMd_put 140 [some (.ref 22), none] [.int free] τ Q := by
        intro free hfree
        have fin : Ev lc G mMd_put 164 [some (.ref 22), some (.int free)] [.int (imn (S.1 3 - nI 1) free), .int (nI 10), .ref 22] τ Q := by
          refine ev_cv okMd_put okMd_giveMany rfl rfl trivial rfl (by decide +kernel) rfl rfl (sp_giveMany a6.2.2.2 _ fun σ5 r1 r2 => ?_)
          have a7 := a6.out r2 r1
          have e34' : σ5.1 22 34 = S.1 9 := (a7.1 9 (by decide)).trans (by simp [upd])
          have e27' : σ5.1 22 27 = S.1 3 := (a7.1 3 (by decide)).trans (by simp [upd])
          have a8 := a7.set 9 (by decide) (σ5.1 22 34 + σ5.1 22 27)
          have f6 : Fq [40] [24, 34, 35, 36, 42, 29] σ5 (up2 σ5.1 22 34 (σ5.1 22 34 + σ5.1 22 27), σ5.2) := Fq.f1 (by decide)
          rw [e34', e27'] at a8 f6
          refine ev_cv okMd_put okMd_bottom rfl rfl trivial rfl (by decide +kernel) rfl rfl ?_
          rw [e34', e27']
          refine sp_bottomR a8 ?_
          have e9 : (up2 σ5.1 22 34 (S.1 9 + S.1 3), σ5.2).1 22 34 = S.1 9 + S.1 3 := (a8.1 9 (by decide)).trans (by simp [upd])
          have eb2 : bot (upd (upd (upd S.1 12 (N 12 + nI 1)) 2 (S.1 1)) 9 (S.1 9 + S.1 3)) = bot S.1 := by simp [bot, upd]
          rw [eb2]
          have eN : (pPut hd ft y (N, o)).1 = upd (upd (upd S.1 12 (N 12 + nI 1)) 2 (S.1 1)) 9 (S.1 9 + S.1 3) := by
            unfold pPut
            rw [eo]
            show upd (upd (upd S.1 2 (S.1 1)) 12 (S.1 12 + nI 1)) 9 (upd (upd S.1 2 (S.1 1)) 12 (S.1 12 + nI 1) 9 + S.1 3) = _
            rw [s12, upd_comm S.1 _ _ (show 12 ≠ 2 by decide)]
            simp [upd]
          have eO : (pPut hd ft y (N, o)).2 = if bot S.1 < S.1 9 + S.1 3 then emit (emit (emit (emit O (ux y)) [10]) (List.replicate (imn (S.1 3 - nI 1) free).toNatClampNeg 10)) (ttl ft (S.1 10).toNatClampNeg) else emit (emit (emit O (ux y)) [10]) (List.replicate (imn (S.1 3 - nI 1) free).toNatClampNeg 10) := by
            unfold pPut
            rw [eo, hfree]
            show (if bot (upd (upd S.1 2 (S.1 1)) 12 (S.1 12 + nI 1)) < upd (upd S.1 2 (S.1 1)) 12 (S.1 12 + nI 1) 9 + S.1 3 then emit _ (ttl ft (upd (upd S.1 2 (S.1 1)) 12 (S.1 12 + nI 1) 10).toNatClampNeg) else _) = _
            rw [show bot (upd (upd S.1 2 (S.1 1)) 12 (S.1 12 + nI 1)) = bot S.1 by simp [bot, upd], show upd (upd S.1 2 (S.1 1)) 12 (S.1 12 + nI 1) 9 = S.1 9 by simp [upd], show upd (upd S.1 2 (S.1 1)) 12 (S.1 12 + nI 1) 10 = S.1 10 by simp [upd]]
          have f7 := (f4.tr (r2.wk (by decide) (by decide))).tr f6
          refine ev_ic_le okMd_put rfl rfl trivial (fun g => ?_) (fun g => ?_)
          · rw [e9] at g
            refine ev_rv okMd_put rfl rfl trivial rfl (k _ ?_ f7)
            rw [eN, eO, if_neg (Int32.not_lt.mpr g)]
            exact a8
          · rw [e9] at g
            refine ev_cv okMd_put okMd_giveFoot rfl rfl trivial rfl (by decide +kernel) rfl rfl (sp_giveFoot a8 hb2 hB (((p1.keep (by decide) (by decide)).keep (by decide) (by decide)).keep (by decide) (by decide)) fun σ6 t1 t2 => ?_)
            refine ev_rv okMd_put rfl rfl trivial rfl (k _ ?_ (f7.tr (t2.wk (by decide) (by decide))))
            rw [eN, eO, if_pos (Int32.not_le.mp g)]
            rw [show upd (upd (upd S.1 12 (N 12 + nI 1)) 2 (S.1 1)) 9 (S.1 9 + S.1 3) 10 = S.1 10 by simp [upd]] at t1
            exact t1
        refine ev_ic_ge okMd_put rfl rfl trivial (fun g => ?_) (fun g => ?_)
        · rw [e27] at g
          refine ev_nop okMd_put rfl rfl trivial ?_
          have : imn (S.1 3 - nI 1) free = free := by rw [← imn_ge, if_pos g]
          rw [this] at fin
          exact fin
        · rw [e27] at g
          refine ev_goto okMd_put rfl rfl trivial ?_
          rw [e27]
          have : imn (S.1 3 - nI 1) free = S.1 3 - nI 1 := by rw [← imn_ge, if_neg g]
          rw [this] at fin
          exact fin
      refine ev_if_ge okMd_put rfl rfl trivial (fun g => ?_) (fun g => ?_)
      · rw [e34] at g
        refine ev_nop okMd_put rfl rfl trivial ?_
        rw [e34]
        exact ev_lv [some (.ref 22), none] ⟨rfl, trivial⟩ (last _ (by rw [← i0_ge, if_pos g]))
      · rw [e34] at g
        refine ev_goto okMd_put rfl rfl trivial ?_
        exact ev_lv [some (.ref 22), none] ⟨rfl, trivial⟩ (last _ (by rw [← i0_ge, if_neg g]))
    refine ev_if_le okMd_put rfl rfl trivial (fun g => ?_) (fun g => ?_)
    · rw [g2.2.1] at g
      have hz : y.length = 0 := by
        rcases Nat.eq_zero_or_pos y.length with q | q
        · exact q
        · exact absurd g (nI_nle q (by omega))
      have ey : y.isEmpty = true := List.isEmpty_iff.mpr (List.length_eq_zero_iff.mp hz)
      refine ev_nop okMd_put rfl rfl trivial ?_
      refine ev_cv okMd_put okMd_giveMany rfl rfl trivial rfl (by decide +kernel) rfl rfl (sp_giveMany g1.2.2.2 _ fun σ2 r1 r2 => ?_)
      refine tail σ2 ?_ (g2.fq r2 (by decide) (by decide) (by decide)) (g3.tr (r2.wk (by decide) (by decide)))
      rw [if_pos ey]
      have := g1.out r2 r1
      rw [show (nI 0).toNatClampNeg = 0 from nI_cl (by decide), List.replicate_zero, emit_nil g1.2.2.2.1] at this
      exact this
    · rw [g2.2.1] at g
      have hz : ¬ y.length = 0 := fun q => g (by rw [q]; decide)
      have ey : ¬ y.isEmpty = true := fun q => hz (by rw [List.isEmpty_iff.mp q]; rfl)
      refine ev_goto okMd_put rfl rfl trivial ?_
      refine ev_cv okMd_put okMd_giveMany rfl rfl trivial rfl (by decide +kernel) rfl rfl ?_
      rw [show σ1.1 22 29 = S.1 2 from (g1.1 2 (by decide)).trans (by simp [upd])]
      refine sp_giveMany g1.2.2.2 _ fun σ2 r1 r2 => ?_
      refine tail σ2 ?_ (g2.fq r2 (by decide) (by decide) (by decide)) (g3.tr (r2.wk (by decide) (by decide)))
      rw [if_neg ey]
      exact g1.out r2 r1
  have e34' : (up2 σ.1 22 42 (N 12 + nI 1), σ.2).1 22 34 = N 9 := (h1.1 9 (by decide)).trans (by simp [upd])
  have eb : bot (upd N 12 (N 12 + nI 1)) = bot N := by simp [bot, upd]
  rw [e42] at f1
  have head : (N 9 = 0 ∨ bot N < N 9) → Ev lc G mMd_put 28 [some (.ref 22), none] [] (up2 σ.1 22 42 (N 12 + nI 1), σ.2) Q := by
    intro hc
    refine ev_cv okMd_put okMd_giveHead rfl rfl trivial rfl (by decide +kernel) rfl rfl (sp_giveHead h1 hb (by omega) hp1 fun σ1 q1 q2 => body σ1 ?_ (hs1.fq q2 (by decide) (by decide) (by decide)) (f1.tr (q2.wk (by decide) (by decide))))
    have : pOpen0 hd (upd N 12 (N 12 + nI 1), o) = pHead hd (upd N 12 (N 12 + nI 1), o) := by
      unfold pOpen0
      rw [if_pos]
      show upd N 12 (N 12 + nI 1) 9 = 0 ∨ bot (upd N 12 (N 12 + nI 1)) < upd N 12 (N 12 + nI 1) 9
      rw [eb]
      simpa [upd] using hc
    rw [this]
    exact q1
  refine ev_if_eq okMd_put rfl rfl trivial (fun g => ?_) (fun g => ?_)
  · rw [e42, e34'] at g
    rw [e42]
    exact head (Or.inl g)
  · rw [e42, e34'] at g
    rw [e42]
    refine ev_cv okMd_put okMd_bottom rfl rfl trivial rfl (by decide +kernel) rfl rfl (sp_bottomR h1 ?_)
    rw [eb]
    refine ev_ic_le okMd_put rfl rfl trivial (fun g2 => ?_) (fun g2 => ?_)
    · rw [e34'] at g2
      refine body _ ?_ hs1 f1
      have : pOpen0 hd (upd N 12 (N 12 + nI 1), o) = (upd N 12 (N 12 + nI 1), o) := by
        unfold pOpen0
        rw [if_neg]
        show ¬ (upd N 12 (N 12 + nI 1) 9 = 0 ∨ bot (upd N 12 (N 12 + nI 1)) < upd N 12 (N 12 + nI 1) 9)
        rw [eb, show upd N 12 (N 12 + nI 1) 9 = N 9 by simp [upd]]
        rintro (q | q)
        · exact g q
        · exact absurd q (Int32.not_lt.mpr g2)
      rw [this]
      exact h1
    · rw [e34'] at g2
      exact head (Or.inr (Int32.not_le.mp g2))
/-- SPACE behind its BREAK -/
theorem sp_space4 (h : RgV σ N hd ft o) (hb : ∀ b ∈ hd, b < 128) (hb2 : ∀ b ∈ ft, b < 128) {B : Nat} (hB : B + 1 < 2 ^ 31) (hp : PB B N) {n : Int32} (k : ∀ σ', RgV σ' (pSkip hd ft n (N, o)).1 hd ft (pSkip hd ft n (N, o)).2 → Fq [40] [24, 34, 35, 36] σ σ' → Q none σ') : Ev lc G mMd_space 4 [some (.ref 22), some (.int n), none] [] σ Q := by
  have e4 : σ.1 22 34 = N 9 := h.1 9 (by decide)
  refine ev_cv okMd_space okMd_bottom rfl rfl trivial rfl (by decide +kernel) rfl rfl (sp_bottomR h ?_)
  refine ev_ic_le okMd_space rfl rfl trivial (fun g => ?_) (fun g => ?_)
  · rw [e4] at g
    have fin : ∀ σ1, RgV σ1 (pSkip1 hd (N, o)).1 hd ft (pSkip1 hd (N, o)).2 → PB (B + 1) (pSkip1 hd (N, o)).1 → Fq [40] [24, 34, 35, 36] σ σ1 → Ev lc G mMd_space 27 [some (.ref 22), some (.int n), none] [] σ1 Q := by
      have hsk : pSkip hd ft n (N, o) = pDown ft n ((pSkip1 hd (N, o)).1, emit (pSkip1 hd (N, o)).2 (List.replicate (imn n (bot (pSkip1 hd (N, o)).1 + nI 1 - (pSkip1 hd (N, o)).1 9)).toNatClampNeg 10)) := if_neg (Int32.not_lt.mpr g)
      generalize pSkip1 hd (N, o) = S at hsk ⊢
      intro σ1 h1 hp1 hf
      refine ev_cv okMd_space okMd_bottom rfl rfl trivial rfl (by decide +kernel) rfl rfl (sp_bottomR h1 ?_)
      have e9 : σ1.1 22 34 = S.1 9 := h1.1 9 (by decide)
      have last : ∀ l2 : Option Value, Ev lc G mMd_space 52 [some (.ref 22), some (.int n), none] [.int (imn n (bot S.1 + nI 1 - S.1 9)), .int (nI 10), .ref 22] σ1 Q := by
        intro _
        refine ev_cv okMd_space okMd_giveMany rfl rfl trivial rfl (by decide +kernel) rfl rfl (sp_giveMany h1.2.2.2 _ fun σ2 q1 q2 => ?_)
        have h2 := h1.out q2 q1
        have e9' : σ2.1 22 34 = S.1 9 := h2.1 9 (by decide)
        have h3 := h2.set 9 (by decide) (σ2.1 22 34 + n)
        rw [e9'] at h3
        refine ev_cv okMd_space okMd_bottom rfl rfl trivial rfl (by decide +kernel) rfl rfl ?_
        rw [e9']
        refine sp_bottomR h3 ?_
        have e10 : (up2 σ2.1 22 34 (S.1 9 + n), σ2.2).1 22 34 = S.1 9 + n := (h3.1 9 (by decide)).trans (by simp [upd])
        have eb : bot (upd S.1 9 (S.1 9 + n)) = bot S.1 := by simp [bot, upd]
        rw [eb]
        have hf2 : Fq [40] [24, 34, 35, 36] σ (up2 σ2.1 22 34 (S.1 9 + n), σ2.2) := (hf.tr (q2.wk (by decide) (by decide))).tr (Fq.f1 (by decide))
        refine ev_ic_le okMd_space rfl rfl trivial (fun g2 => ?_) (fun g2 => ?_)
        · rw [e10] at g2
          refine ev_rv okMd_space rfl rfl trivial rfl (k _ ?_ hf2)
          rw [hsk]
          show RgV _ (upd S.1 9 (S.1 9 + n)) hd ft (if bot S.1 < S.1 9 + n then _ else _)
          rw [if_neg (Int32.not_lt.mpr g2)]
          exact h3
        · rw [e10] at g2
          refine ev_cv okMd_space okMd_giveFoot rfl rfl trivial rfl (by decide +kernel) rfl rfl (sp_giveFoot h3 hb2 hB (hp1.keep (by decide) (by decide)) fun σ3 r1 r2 => ?_)
          refine ev_rv okMd_space rfl rfl trivial rfl (k _ ?_ (hf2.tr (r2.wk (by decide) (by decide))))
          rw [hsk]
          show RgV _ (upd S.1 9 (S.1 9 + n)) hd ft (if bot S.1 < S.1 9 + n then _ else _)
          rw [if_pos (Int32.not_le.mp g2)]
          rw [show upd S.1 9 (S.1 9 + n) 10 = S.1 10 by simp [upd]] at r1
          exact r1
      refine ev_ic_ge okMd_space rfl rfl trivial (fun g2 => ?_) (fun g2 => ?_)
      · rw [e9] at g2
        refine ev_nop okMd_space rfl rfl trivial ?_
        rw [e9]
        have : imn n (bot S.1 + nI 1 - S.1 9) = bot S.1 + nI 1 - S.1 9 := by rw [← imn_ge, if_pos g2]
        have l := last none
        rw [this] at l
        exact ev_lv [some (.ref 22), some (.int n), none] ⟨rfl, rfl, trivial⟩ l
      · rw [e9] at g2
        refine ev_goto okMd_space rfl rfl trivial ?_
        have : imn n (bot S.1 + nI 1 - S.1 9) = n := by rw [← imn_ge, if_neg g2]
        have l := last none
        rw [this] at l
        exact ev_lv [some (.ref 22), some (.int n), none] ⟨rfl, rfl, trivial⟩ l
    refine ev_if_ne okMd_space rfl rfl trivial (fun q => ?_) (fun q => ?_)
    · rw [e4] at q
      have : pSkip1 hd (N, o) = (N, o) := if_neg q
      refine fin σ ?_ ?_ Fq.rf
      · rw [this]; exact h
      · rw [this]; exact hp.mono (by omega)
    · rw [e4] at q
      have : pSkip1 hd (N, o) = pHead hd (N, o) := if_pos (by simpa using q)
      refine ev_cv okMd_space okMd_giveHead rfl rfl trivial rfl (by decide +kernel) rfl rfl (sp_giveHead h hb (by omega) hp fun σ1 q1 q2 => fin σ1 ?_ ?_ q2)
      · rw [this]; exact q1
      · rw [this]; exact pHead_PB hp
  · rw [e4] at g
    have : pSkip hd ft n (N, o) = (N, o) := if_pos (Int32.not_le.mp g)
    refine ev_rv okMd_space rfl rfl trivial rfl (k σ ?_ Fq.rf)
    rw [this]
    exact h
end RQ
end
section
/-! ===== commands: the model, and the class's ===== -/
def isD (b : Nat) : Bool := decide (48 ≤ b) && decide (b ≤ 57)
def cname (x : List Nat) : Nat := if x.length < 3 then 0 else 256 * x.getD 1 0 + x.getD 2 0
def rs (x : List Nat) : Nat := pbl x 3
def sgn (x : List Nat) : Nat := x.getD (rs x) 0
def stt (x : List Nat) : Nat := if sgn x = 43 ∨ sgn x = 45 then rs x + 1 else rs x
def dgs (x : List Nat) : List Nat := (x.drop (stt x)).takeWhile isD
def amt (l : List Nat) : Nat := (l.take 4).foldl (fun a c => 10 * a + (c - 48)) 0
def am (x : List Nat) : Nat := amt (dgs x)
def num (x : List Nat) : Bool := !(dgs x).isEmpty
/-- what a value is set to, before it is brought between its bounds -/
def wv (x : List Nat) (v d : Int32) : Int32 := if num x then (if sgn x = 43 then v + nI (am x) else if sgn x = 45 then v - nI (am x) else nI (am x)) else d
def clp (lo hi v : Int32) : Int32 := if v < lo then lo else if hi < v then hi else v
theorem tw_at {p : Nat → Bool} : ∀ {l : List Nat} {d : Nat}, d < (l.takeWhile p).length → d < l.length ∧ l.getD d 0 = (l.takeWhile p).getD d 0 ∧ p (l.getD d 0) = true
  | [], d, h => by simp at h
  | a :: l, d, h => by
    rw [List.takeWhile_cons] at h ⊢
    by_cases hp : p a = true
    · rw [if_pos hp] at h ⊢
      cases d with
      | zero => exact ⟨by simp, rfl, hp⟩
      | succ d =>
        obtain ⟨h1, h2, h3⟩ := tw_at (p := p) (l := l) (d := d) (by simpa using h)
        exact ⟨by simp; exact h1, by simpa using h2, by simpa using h3⟩
    · rw [if_neg hp] at h
      simp at h
theorem tw_end {p : Nat → Bool} : ∀ {l : List Nat}, (l.takeWhile p).length < l.length → p (l.getD (l.takeWhile p).length 0) = false
  | [], h => by simp at h
  | a :: l, h => by
    rw [List.takeWhile_cons] at h ⊢
    by_cases hp : p a = true
    · rw [if_pos hp] at h ⊢
      have := tw_end (p := p) (l := l) (by simpa using h)
      simpa using this
    · rw [if_neg hp]
      simpa using hp
theorem drop_getD (x : List Nat) (s d : Nat) : (x.drop s).getD d 0 = x.getD (s + d) 0 := by
  simp [List.getD_eq_getElem?_getD, List.getElem?_drop]
theorem dgs_at {x : List Nat} {d : Nat} (h : d < (dgs x).length) : stt x + d < x.length ∧ x.getD (stt x + d) 0 = (dgs x).getD d 0 ∧ 48 ≤ x.getD (stt x + d) 0 ∧ x.getD (stt x + d) 0 ≤ 57 := by
  obtain ⟨h1, h2, h3⟩ := tw_at (l := x.drop (stt x)) h
  rw [List.length_drop] at h1
  rw [drop_getD] at h2 h3
  simp only [isD, Bool.and_eq_true, decide_eq_true_eq] at h3
  exact ⟨by omega, h2, h3.1, h3.2⟩
theorem dgs_end {x : List Nat} (h : stt x + (dgs x).length < x.length) : ¬ (48 ≤ x.getD (stt x + (dgs x).length) 0 ∧ x.getD (stt x + (dgs x).length) 0 ≤ 57) := by
  have h1 := tw_end (p := isD) (l := x.drop (stt x)) (by rw [List.length_drop]; show (dgs x).length < _; omega)
  rw [drop_getD] at h1
  intro q
  have : isD (x.getD (stt x + (dgs x).length) 0) = true := by unfold isD; rw [decide_eq_true q.1, decide_eq_true q.2]; rfl
  rw [show (List.takeWhile isD (x.drop (stt x))).length = (dgs x).length from rfl] at h1
  rw [this] at h1
  cases h1
theorem amt_snoc (l : List Nat) (c : Nat) : amt (l ++ [c]) = if l.length < 4 then 10 * amt l + (c - 48) else amt l := by
  unfold amt
  by_cases h : l.length < 4
  · rw [if_pos h, List.take_of_length_le (by simp; omega), List.take_of_length_le (by omega), List.foldl_append]
    rfl
  · rw [if_neg h, List.take_append_of_le_length (by omega)]
theorem fold_lt : ∀ (l : List Nat) (a n : Nat), (∀ c ∈ l, c ≤ 57) → a < 10 ^ n → l.foldl (fun a c => 10 * a + (c - 48)) a < 10 ^ (n + l.length)
  | [], a, n, _, h => by simpa using h
  | c :: l, a, n, hc, h => by
    have h1 : c ≤ 57 := hc c List.mem_cons_self
    have := fold_lt l (10 * a + (c - 48)) (n + 1) (fun c q => hc c (List.mem_cons_of_mem _ q)) (by rw [Nat.pow_succ]; omega)
    rw [List.foldl_cons, List.length_cons, show n + (l.length + 1) = n + 1 + l.length by omega]
    exact this
theorem amt_lt {l : List Nat} (h : ∀ c ∈ l, c ≤ 57) : amt l < 10000 := by
  unfold amt
  have h1 := fold_lt (l.take 4) 0 0 (fun c q => h c (List.mem_of_mem_take q)) (by decide)
  refine Nat.lt_of_lt_of_le h1 ?_
  have : (l.take 4).length ≤ 4 := by rw [List.length_take]; omega
  exact Nat.le_trans (Nat.pow_le_pow_right (by decide) (by omega)) (by decide : 10 ^ 4 ≤ 10000)
theorem mem_tw {p : Nat → Bool} : ∀ {l : List Nat} {c : Nat}, c ∈ l.takeWhile p → p c = true
  | [], c, h => by simp at h
  | a :: l, c, h => by
    rw [List.takeWhile_cons] at h
    by_cases hp : p a = true
    · rw [if_pos hp] at h
      rcases List.mem_cons.mp h with rfl | h
      · exact hp
      · exact mem_tw h
    · rw [if_neg hp] at h
      simp at h
theorem dgs_le {x : List Nat} {c : Nat} (h : c ∈ dgs x) : c ≤ 57 := by
  have := mem_tw h
  simp only [isD, Bool.and_eq_true, decide_eq_true_eq] at this
  exact this.2
theorem take_snoc {l : List Nat} {d : Nat} (h : d < l.length) : l.take (d + 1) = l.take d ++ [l.getD d 0] := by
  rw [List.take_succ, List.getElem?_eq_getElem h, gD h]
  rfl
theorem am_lt (x : List Nat) : am x < 10000 := amt_lt fun c h => dgs_le h
theorem amd_lt (x : List Nat) (d : Nat) : amt ((dgs x).take d) < 10000 := amt_lt fun c h => dgs_le (List.mem_of_mem_take h)
theorem pbl_le {x : List Nat} {i : Nat} (h : i ≤ x.length) : pbl x i ≤ x.length := by
  unfold pbl
  have := (List.takeWhile_prefix (l := x.drop i) (fun b => b == 32)).length_le
  rw [List.length_drop] at this
  omega
theorem rs_le {x : List Nat} (h : x.length ≤ 100) : rs x ≤ 100 := by
  unfold rs
  by_cases q : 3 ≤ x.length
  · exact Nat.le_trans (pbl_le q) h
  · rw [pbl_end (by omega)]
    decide
theorem stt_le {x : List Nat} (h : x.length ≤ 100) : stt x ≤ 101 := by
  unfold stt
  have := rs_le h
  split <;> omega
/-- what the class's Command holds behind read -/
def CmdAt (σ : St2) (x : List Nat) : Prop := σ.1 3 0 = nI (cname x) ∧ σ.1 3 1 = nI (rs x) ∧ σ.1 3 2 = tb x (nI (rs x)) ∧ σ.1 3 3 = nI (am x) ∧ σ.1 3 4 = b2 (num x)
theorem CmdAt.fr {S : List Nat} {σ σ' : St2} {x : List Nat} (h : CmdAt σ x) (hf : Fr S σ σ') (h3 : 3 ∉ S) : CmdAt σ' x := by
  unfold CmdAt
  rw [hf.a1 h3]
  exact h
theorem nm_or {a b : Nat} (ha : a < 128) (hb : b < 128) : nI a <<< (nI 8 &&& 31) ||| nI b = nI (256 * a + b) := by
  have key : ∀ a : Fin 128, ∀ b : Fin 128, nI a.val <<< (nI 8 &&& 31) ||| nI b.val = nI (256 * a.val + b.val) := by decide +kernel
  exact key ⟨a, ha⟩ ⟨b, hb⟩
section CM
variable {lc : Launch} {G : GG} {σ : St2} {Q : Option Value → St2 → Prop} {x : List Nat}
theorem sp_isDigit {v : Int32} (k : Q (some (.int (b2 (decide (nI 48 ≤ v ∧ v ≤ nI 57))))) σ) : Ev lc G mCm_isDigit 0 [some (.int v)] [] σ Q := by
  refine ev_ic_lt okCm_isDigit rfl rfl trivial (fun h => ?_) (fun h => ?_)
  · rw [decide_eq_false (fun q => absurd h (Int32.not_lt.mpr q.1))] at k
    exact ev_nop okCm_isDigit rfl rfl trivial (ev_rz okCm_isDigit rfl rfl trivial rfl (Or.inl rfl) k)
  · refine ev_ic_gt okCm_isDigit rfl rfl trivial (fun g => ?_) (fun g => ?_)
    · rw [decide_eq_false (fun q => absurd g (Int32.not_lt.mpr q.2))] at k
      exact ev_nop okCm_isDigit rfl rfl trivial (ev_rz okCm_isDigit rfl rfl trivial rfl (Or.inl rfl) k)
    · rw [decide_eq_true ⟨Int32.not_lt.mp h, Int32.not_lt.mp g⟩] at k
      exact ev_goto okCm_isDigit rfl rfl trivial (ev_rz okCm_isDigit rfl rfl trivial rfl (Or.inr rfl) k)
theorem lp_readNumber (hb : ∀ b ∈ x, b < 128) : ∀ (m d : Nat) (σ : St2), d + m = 4 → d ≤ (dgs x).length → TextAt σ 1 x → σ.1 3 0 = nI (cname x) → σ.1 3 1 = nI (rs x) → σ.1 3 2 = tb x (nI (rs x)) → σ.1 3 3 = nI (amt ((dgs x).take d)) → (∀ σ', CmdAt σ' x → Fr [3] σ σ' → Q none σ') → Ev lc G mCm_readNumber 62 [some (.ref 3), some (.ref 1), none, some (.int (nI (stt x))), some (.int (nI d))] [] σ Q := by
  have fin : ∀ (d : Nat) (σ : St2), d ≤ 4 → d ≤ (dgs x).length → amt ((dgs x).take d) = am x → (d = 0 ↔ dgs x = []) → σ.1 3 0 = nI (cname x) → σ.1 3 1 = nI (rs x) → σ.1 3 2 = tb x (nI (rs x)) → σ.1 3 3 = nI (amt ((dgs x).take d)) → (∀ σ', CmdAt σ' x → Fr [3] σ σ' → Q none σ') → Ev lc G mCm_readNumber 111 [some (.ref 3), some (.ref 1), none, some (.int (nI (stt x))), some (.int (nI d))] [] σ Q := by
    intro d σ hd hl ha hz h0 h1 h2 h3 k
    have done : ∀ v : Int32, v = b2 (num x) → CmdAt (up2 σ.1 3 4 v, σ.2) x := by
      intro v hv
      refine ⟨?_, ?_, ?_, ?_, ?_⟩
      · simp [up2, h0]
      · simp [up2, h1]
      · simp [up2, h2]
      · simp [up2, h3, ha]
      · simp [up2, hv]
    refine ev_if_le okCm_readNumber rfl rfl trivial (fun h => ?_) (fun h => ?_)
    · have e : d = 0 := by
        rcases Nat.eq_zero_or_pos d with q | q
        · exact q
        · exact absurd h (nI_nle q (by omega))
      refine ev_nop okCm_readNumber rfl rfl trivial (ev_rv okCm_readNumber rfl rfl ⟨Or.inl rfl, trivial⟩ rfl (k _ (done _ ?_) (Fr.u1 (by decide))))
      unfold num
      rw [hz.mp e]
      rfl
    · have e : ¬ d = 0 := fun q => h (by rw [q]; decide)
      refine ev_goto okCm_readNumber rfl rfl trivial (ev_rv okCm_readNumber rfl rfl ⟨Or.inr rfl, trivial⟩ rfl (k _ (done _ ?_) (Fr.u1 (by decide))))
      unfold num
      have : (dgs x).isEmpty = false := by
        cases hq : dgs x with
        | nil => exact absurd (hz.mpr hq) e
        | cons a l => rfl
      rw [this]
      rfl
  intro m
  induction m with
  | zero =>
    intro d σ hm hl hx h0 h1 h2 h3 k
    have e4 : d = 4 := by omega
    subst e4
    refine ev_ic_ge okCm_readNumber rfl rfl trivial (fun h => fin 4 σ (by omega) hl ?_ ?_ h0 h1 h2 h3 k) (fun h => absurd (Int32.le_refl _) h)
    · unfold am amt
      rw [List.take_take, Nat.min_self]
    · constructor
      · intro h; omega
      · intro h; rw [h] at hl; simp at hl
  | succ m ih =>
    intro d σ hm hl hx h0 h1 h2 h3 k
    have h100 := hx.1
    have hst := stt_le h100
    refine ev_ic_ge okCm_readNumber rfl rfl trivial (fun h => absurd h (nI_ge (by omega) (by decide))) (fun h => ?_)
    refine ev_cv okCm_readNumber okTx_byteAt rfl rfl trivial rfl (by decide +kernel) rfl rfl ?_
    rw [nI_add]
    refine sp_byteAt (Or.inl rfl) hx ?_
    rw [tb_nI h100 (by omega)]
    refine ev_cs okCm_readNumber okCm_isDigit rfl rfl trivial rfl (by decide +kernel) rfl rfl (sp_isDigit ?_)
    by_cases hd : d < (dgs x).length
    · obtain ⟨a1, a2, a3, a4⟩ := dgs_at hd
      rw [if_pos a1, decide_eq_true ⟨nI_le a3 (by omega), nI_le a4 (by decide)⟩]
      refine ev_if_eq okCm_readNumber rfl rfl trivial (fun g => absurd g (by decide)) (fun g => ?_)
      refine ev_cv okCm_readNumber okTx_byteAt rfl rfl trivial rfl (by decide +kernel) rfl rfl ?_
      rw [nI_add]
      refine sp_byteAt (Or.inl rfl) hx ?_
      rw [tb_nI h100 (by omega), if_pos a1]
      refine ev_goto okCm_readNumber rfl rfl trivial ?_
      have hlt := amd_lt x d
      rw [h3, pk_mul, nI_add, nI_add, pk_sub (by omega)]
      have e : amt ((dgs x).take (d + 1)) = amt ((dgs x).take d) * 10 + x.getD (stt x + d) 0 - 48 := by
        rw [take_snoc hd, amt_snoc, if_pos (by rw [List.length_take]; omega), ← a2]
        omega
      rw [← e]
      refine ih (d + 1) _ (by omega) hd ?_ ?_ ?_ ?_ ?_ (fun σ' q1 q2 => k σ' q1 (Fr.tr (Fr.u1 (by decide)) q2))
      · exact hx.fr (S := [3]) (Fr.u1 (by decide)) (by decide) (by decide)
      · simp [up2, h0]
      · simp [up2, h1]
      · simp [up2, h2]
      · simp [up2]
    · have e : d = (dgs x).length := by omega
      have hno : (decide (nI 48 ≤ (if stt x + d < x.length then nI (x.getD (stt x + d) 0) else mI 0) ∧ (if stt x + d < x.length then nI (x.getD (stt x + d) 0) else mI 0) ≤ nI 57)) = false := by
        refine decide_eq_false fun q => ?_
        by_cases hlt : stt x + d < x.length
        · rw [if_pos hlt] at q
          have hbb := getD_lt (j := stt x + d) hb (by decide)
          rw [e] at hlt q hbb
          exact dgs_end hlt ⟨(nI_leI (by decide) (by omega)).mp q.1, (nI_leI (by omega) (by decide)).mp q.2⟩
        · rw [if_neg hlt] at q
          exact absurd q.1 (by decide)
      rw [hno]
      refine ev_if_eq okCm_readNumber rfl rfl trivial (fun g => ?_) (fun g => absurd rfl g)
      refine fin d σ (by omega) hl ?_ ?_ h0 h1 h2 h3 k
      · rw [e, List.take_length]
        rfl
      · rw [e]
        exact List.length_eq_zero_iff
theorem sp_readNumber (hb : ∀ b ∈ x, b < 128) (hx : TextAt σ 1 x) (h0 : σ.1 3 0 = nI (cname x)) (h1 : σ.1 3 1 = nI (rs x)) (k : ∀ σ', CmdAt σ' x → Fr [3] σ σ' → Q none σ') : Ev lc G mCm_readNumber 0 [some (.ref 3), some (.ref 1), none, none, none] [] σ Q := by
  have h100 := hx.1
  have hrs := rs_le h100
  refine ev_cv okCm_readNumber okTx_byteAt rfl rfl trivial rfl (by decide +kernel) rfl rfl ?_
  rw [h1]
  refine sp_byteAt (Or.inl rfl) hx ?_
  have hsg : tb x (nI (rs x)) = if rs x < x.length then nI (sgn x) else mI 0 := tb_nI h100 (by omega)
  have hsb : sgn x < 128 := getD_lt hb (by decide)
  generalize hT : tb x (nI (rs x)) = T at hsg
  have e32 : (up2 σ.1 3 2 T, σ.2).1 3 2 = T := by simp [up2]
  have e31 : (up2 σ.1 3 2 T, σ.2).1 3 1 = nI (rs x) := by simp [up2, h1]
  have is43 : T = nI 43 ↔ sgn x = 43 := by
    rw [hsg]
    by_cases q : rs x < x.length
    · rw [if_pos q, nI_eq (by omega) (by decide)]
    · rw [if_neg q]
      constructor
      · intro h; exact absurd h (by decide)
      · intro h; unfold sgn at h; rw [gD0 (by omega)] at h; omega
  have is45 : T = nI 45 ↔ sgn x = 45 := by
    rw [hsg]
    by_cases q : rs x < x.length
    · rw [if_pos q, nI_eq (by omega) (by decide)]
    · rw [if_neg q]
      constructor
      · intro h; exact absurd h (by decide)
      · intro h; unfold sgn at h; rw [gD0 (by omega)] at h; omega
  have fr1 : Fr [3] σ (up2 σ.1 3 2 T, σ.2) := Fr.u1 (by decide)
  have e30 : (up2 σ.1 3 2 T, σ.2).1 3 0 = nI (cname x) := by simp [up2, h0]
  have hx1 := hx.fr fr1 (by decide) (by decide)
  have start : ∀ l2 : Value, Ev lc G mCm_readNumber 53 [some (.ref 3), some (.ref 1), none, none, none] [.int (nI (stt x))] (up2 σ.1 3 2 T, σ.2) Q := by
    intro _
    refine ev_nop okCm_readNumber rfl rfl trivial (lp_readNumber hb 4 0 _ rfl (by omega) ?_ ?_ ?_ ?_ ?_ (fun σ' q1 q2 => k σ' q1 ((fr1.tr (Fr.u1 (by decide))).tr q2)))
    · exact hx1.fr (S := [3]) (Fr.u1 (by decide)) (by decide) (by decide)
    · simp [up2, h0]
    · simp [up2, h1]
    · simp [up2, hT]
    · simp [up2, amt]
  have yes : (sgn x = 43 ∨ sgn x = 45) → Ev lc G mCm_readNumber 30 [some (.ref 3), some (.ref 1), none, none, none] [] (up2 σ.1 3 2 T, σ.2) Q := by
    intro q
    refine ev_goto okCm_readNumber rfl rfl trivial ?_
    refine ev_if_eq okCm_readNumber rfl rfl trivial (fun g => absurd g (by decide)) (fun g => ?_)
    refine ev_goto okCm_readNumber rfl rfl trivial ?_
    rw [e31, nI_add]
    have := start (.int 0)
    unfold stt at this
    rw [if_pos q] at this
    exact ev_lv [some (.ref 3), some (.ref 1), none, none, none] ⟨rfl, rfl, trivial⟩ this
  refine ev_ic_eq okCm_readNumber rfl rfl trivial (fun g => ?_) (fun g => ?_)
  · rw [e32] at g
    exact yes (Or.inl (is43.mp g))
  · rw [e32] at g
    refine ev_ic_ne okCm_readNumber rfl rfl trivial (fun g2 => ?_) (fun g2 => ?_)
    · rw [e32] at g2
      refine ev_nop okCm_readNumber rfl rfl trivial ?_
      refine ev_if_eq okCm_readNumber rfl rfl trivial (fun _ => ?_) (fun g => absurd rfl g)
      refine ev_nop okCm_readNumber rfl rfl trivial ?_
      rw [e31]
      have := start (.int 0)
      unfold stt at this
      rw [if_neg (by rintro (q | q); exact g (is43.mpr q); exact g2 (is45.mpr q))] at this
      exact ev_lv [some (.ref 3), some (.ref 1), none, none, none] ⟨rfl, rfl, trivial⟩ this
    · rw [e32] at g2
      exact yes (Or.inr (is45.mp g2))
theorem sp_read (hb : ∀ b ∈ x, b < 128) (hx : TextAt σ 1 x) (k : ∀ σ', CmdAt σ' x → Fr [3] σ σ' → Q none σ') : Ev lc G mCm_read 0 [some (.ref 3), some (.ref 1)] [] σ Q := by
  have h100 := hx.1
  have go : Ev lc G mCm_read 27 [some (.ref 3), some (.ref 1)] [.int (nI (cname x)), .ref 3] σ Q := by
    refine ev_cv okCm_read okTx_passBlanks rfl rfl trivial rfl (by decide +kernel) rfl rfl ?_
    have fr1 : Fr [3] σ (up2 σ.1 3 0 (nI (cname x)), σ.2) := Fr.u1 (by decide)
    refine sp_passBlanks (Or.inl rfl) (hx.fr fr1 (by decide) (by decide)) hb (by decide) ?_
    refine ev_cv okCm_read okCm_readNumber rfl rfl trivial rfl (by decide +kernel) rfl rfl ?_
    have fr2 : Fr [3] σ (up2 (up2 σ.1 3 0 (nI (cname x)), σ.2).1 3 1 (nI (pbl x 3)), (up2 σ.1 3 0 (nI (cname x)), σ.2).2) := fr1.tr (Fr.u1 (by decide))
    refine sp_readNumber hb (hx.fr fr2 (by decide) (by decide)) (by simp [up2]) (by simp [up2, rs]) fun σ' q1 q2 => ?_
    exact ev_rv okCm_read rfl rfl trivial rfl (k σ' q1 (fr2.tr q2))
  refine ev_ic_ge okCm_read rfl rfl trivial (fun h => ?_) (fun h => ?_)
  · rw [hx.2.1] at h
    have hl : 3 ≤ x.length := (nI_leI (by decide) (by omega)).mp h
    refine ev_cv okCm_read okTx_byteAt rfl rfl trivial rfl (by decide +kernel) rfl rfl (sp_byteAt (Or.inl rfl) hx ?_)
    rw [tb_nI h100 (by decide), if_pos (by omega)]
    refine ev_cv okCm_read okTx_byteAt rfl rfl trivial rfl (by decide +kernel) rfl rfl (sp_byteAt (Or.inl rfl) hx ?_)
    rw [tb_nI h100 (by decide), if_pos (by omega)]
    refine ev_nop okCm_read rfl rfl trivial ?_
    rw [nm_or (getD_lt hb (by decide)) (getD_lt hb (by decide))]
    unfold cname at go
    rw [if_neg (by omega)] at go
    exact go
  · rw [hx.2.1] at h
    have hl : ¬ 3 ≤ x.length := fun q => h (nI_le q (by omega))
    refine ev_goto okCm_read rfl rfl trivial ?_
    unfold cname at go
    rw [if_pos (by omega)] at go
    exact go
theorem clp_mm {lo hi v : Int32} (h : lo ≤ hi) : (if lo < (if v < hi then v else hi) then (if v < hi then v else hi) else lo) = clp lo hi v := by
  unfold clp
  by_cases h1 : v < hi
  · rw [if_pos h1]
    by_cases h2 : lo < v
    · rw [if_pos h2, if_neg (Int32.not_lt.mpr (Int32.le_of_lt h2)), if_neg (Int32.not_lt.mpr (Int32.le_of_lt h1))]
    · rw [if_neg h2]
      by_cases h3 : v < lo
      · rw [if_pos h3]
      · rw [if_neg h3, if_neg (Int32.not_lt.mpr (Int32.le_of_lt h1))]
        exact Int32.le_antisymm (Int32.not_lt.mp h3) (Int32.not_lt.mp h2)
  · rw [if_neg h1]
    have h4 : hi ≤ v := Int32.not_lt.mp h1
    rw [if_neg (Int32.not_lt.mpr (Int32.le_trans h h4))]
    by_cases h2 : lo < hi
    · rw [if_pos h2]
      by_cases h3 : hi < v
      · rw [if_pos h3]
      · rw [if_neg h3]
        exact Int32.le_antisymm h4 (Int32.not_lt.mp h3)
    · rw [if_neg h2]
      have e : lo = hi := Int32.le_antisymm h (Int32.not_lt.mp h2)
      by_cases h3 : hi < v
      · rw [if_pos h3]; exact e
      · rw [if_neg h3, e]
        exact Int32.le_antisymm h4 (Int32.not_lt.mp h3)
theorem sp_set (h100 : x.length ≤ 100) (hb : ∀ b ∈ x, b < 128) (hc : CmdAt σ x) {v d lo hi : Int32} (hl : lo ≤ hi) (k : Q (some (.int (clp lo hi (wv x v d)))) σ) : Ev lc G mCm_set 0 [some (.ref 3), some (.int v), some (.int d), some (.int lo), some (.int hi), none] [] σ Q := by
  obtain ⟨c0, c1, c2, c3, c4⟩ := hc
  have fin : ∀ w : Int32, w = wv x v d → Ev lc G mCm_set 56 [some (.ref 3), some (.int v), some (.int d), some (.int lo), some (.int hi), some (.int w)] [] σ Q := by
    intro w hw
    refine ev_min okCm_set rfl rfl trivial (by decide +kernel) rfl ?_
    refine ev_max okCm_set rfl rfl trivial (by decide +kernel) rfl ?_
    refine ev_ri okCm_set rfl rfl trivial rfl ?_
    rw [clp_mm hl, hw]
    exact k
  have hrs := rs_le h100
  have hsg : tb x (nI (rs x)) = if rs x < x.length then nI (sgn x) else mI 0 := tb_nI h100 (by omega)
  have hsb : sgn x < 128 := getD_lt hb (by decide)
  have isS : ∀ n, 0 < n → n < 128 → (σ.1 3 2 = nI n ↔ sgn x = n) := by
    intro n hn hn2
    rw [c2, hsg]
    by_cases q : rs x < x.length
    · rw [if_pos q, nI_eq (by omega) (by omega)]
    · rw [if_neg q]
      constructor
      · intro h; exact absurd h (Ne.symm (nI_mI (by omega) (by decide)))
      · intro h; unfold sgn at h; rw [gD0 (by omega)] at h; omega
  refine ev_if_ne okCm_set rfl rfl trivial (fun h => ?_) (fun h => ?_)
  · rw [c4] at h
    have hn : num x = true := by
      cases q : num x with
      | true => rfl
      | false => rw [q] at h; exact absurd rfl h
    refine ev_ic_ne okCm_set rfl rfl trivial (fun g => ?_) (fun g => ?_)
    · have g : ¬ sgn x = 43 := fun q => g ((isS 43 (by decide) (by decide)).mpr q)
      refine ev_ic_ne okCm_set rfl rfl trivial (fun g2 => ?_) (fun g2 => ?_)
      · have g2 : ¬ sgn x = 45 := fun q => g2 ((isS 45 (by decide) (by decide)).mpr q)
        exact fin _ (by rw [c3]; unfold wv; rw [if_pos hn, if_neg g, if_neg g2])
      · have g2 : sgn x = 45 := (isS 45 (by decide) (by decide)).mp g2
        refine ev_nop okCm_set rfl rfl trivial (fin _ ?_)
        rw [c3]; unfold wv; rw [if_pos hn, if_neg g, if_pos g2]
    · have g : sgn x = 43 := (isS 43 (by decide) (by decide)).mp g
      refine ev_goto okCm_set rfl rfl trivial (fin _ ?_)
      rw [c3]; unfold wv; rw [if_pos hn, if_pos g]
  · rw [c4] at h
    have hn : ¬ num x = true := by
      intro q
      rw [q] at h
      exact absurd h (by decide)
    refine ev_goto okCm_set rfl rfl trivial (fin _ ?_)
    unfold wv; rw [if_neg hn]
end CM
end
section
/-! ===== the reference: commands' numbers ===== -/
def rsg (x : List Nat) : Int32 := if sgn x = 43 then nI 1 else if sgn x = 45 then mI 0 else nI 0
def RCmd (σ : St2) (x : List Nat) : Prop := σ.1 22 44 = nI (rs x) ∧ σ.1 22 45 = b2 (num x) ∧ σ.1 22 46 = rsg x ∧ σ.1 22 47 = nI (am x)
theorem RCmd.fq {S F : List Nat} {σ σ' : St2} {x : List Nat} (h : RCmd σ x) (hf : Fq S F σ σ') (h4 : ∀ f ∈ [44, 45, 46, 47], f ∉ F) : RCmd σ' x :=
  ⟨by rw [hf.g1 (h4 44 (by decide))]; exact h.1, by rw [hf.g1 (h4 45 (by decide))]; exact h.2.1, by rw [hf.g1 (h4 46 (by decide))]; exact h.2.2.1, by rw [hf.g1 (h4 47 (by decide))]; exact h.2.2.2⟩
abbrev LineR (σ : St2) (x : List Nat) : Prop := LstR σ 1 23 100 x
section RC
variable {lc : Launch} {G : GG} {σ : St2} {Q : Option Value → St2 → Prop} {x : List Nat}
theorem lp_readNumberR (hb : ∀ b ∈ x, b < 128) : ∀ (m d : Nat) (σ : St2), d + m = (dgs x).length → LineR σ x → σ.1 22 44 = nI (rs x) → σ.1 22 45 = b2 (decide (0 < d)) → σ.1 22 46 = rsg x → σ.1 22 47 = nI (amt ((dgs x).take d)) → (∀ σ', RCmd σ' x → Fq [] [45, 46, 47] σ σ' → Q none σ') → Ev lc G mMd_readNumber 75 [some (.ref 22), some (.int (nI (stt x + d))), some (.int (nI d))] [] σ Q := by
  intro m
  induction m with
  | zero =>
    intro d σ hm hx h4 h5 h6 h7 k
    have h100 := hx.1
    have hst := stt_le h100
    have e : d = (dgs x).length := by omega
    have done : RCmd σ x := by
      refine ⟨h4, ?_, h6, ?_⟩
      · rw [h5, e]
        unfold num
        cases dgs x <;> rfl
      · rw [h7, e, List.take_length]
        rfl
    have hdl : d ≤ 100 := by
      have : (dgs x).length ≤ (x.drop (stt x)).length := (List.takeWhile_prefix (l := x.drop (stt x)) isD).length_le
      rw [List.length_drop] at this
      omega
    refine ev_ic_ge okMd_readNumber rfl rfl trivial (fun h => ev_rv okMd_readNumber rfl rfl trivial rfl (k σ done Fq.rf)) (fun h => ?_)
    rw [hx.2.1] at h
    have hlt : stt x + d < x.length := (Nat.lt_or_ge (stt x + d) x.length).resolve_right (fun q => h (nI_le q (by omega)))
    have hbb := getD_lt (j := stt x + d) hb (by decide)
    refine ev_cs okMd_readNumber okMd_in rfl rfl ⟨vp_nI (by omega) (by decide), trivial⟩ rfl (by decide +kernel) rfl rfl ?_
    rw [nI_cl (by omega), hx.2.2 _ hlt]
    refine sp_in ?_
    have : (decide (nI 48 ≤ nI (x.getD (stt x + d) 0) ∧ nI (x.getD (stt x + d) 0) ≤ nI 57)) = false := decide_eq_false fun q => by
      rw [e] at hlt q hbb
      exact dgs_end hlt ⟨(nI_leI (by decide) (by omega)).mp q.1, (nI_leI (by omega) (by decide)).mp q.2⟩
    rw [this]
    exact ev_if_eq okMd_readNumber rfl rfl trivial (fun _ => ev_rv okMd_readNumber rfl rfl trivial rfl (k σ done Fq.rf)) (fun g => absurd rfl g)
  | succ m ih =>
    intro d σ hm hx h4 h5 h6 h7 k
    have h100 := hx.1
    have hst := stt_le h100
    have hd : d < (dgs x).length := by omega
    obtain ⟨a1, a2, a3, a4⟩ := dgs_at hd
    refine ev_ic_ge okMd_readNumber rfl rfl trivial (fun h => ?_) (fun h => ?_)
    · rw [hx.2.1] at h
      exact absurd h (nI_ge a1 (by omega))
    · have hv : σ.1 23 (nI (stt x + d)).toNatClampNeg = nI (x.getD (stt x + d) 0) := by rw [nI_cl (by omega)]; exact hx.2.2 _ a1
      refine ev_cs okMd_readNumber okMd_in rfl rfl ⟨vp_nI (by omega) (by decide), trivial⟩ rfl (by decide +kernel) rfl rfl ?_
      rw [hv]
      refine sp_in ?_
      rw [decide_eq_true ⟨nI_le a3 (by omega), nI_le a4 (by decide)⟩]
      refine ev_if_eq okMd_readNumber rfl rfl trivial (fun g => absurd g (by decide)) (fun _ => ?_)
      have hlt := amd_lt x d
      have hd100 : d < 100 := by omega
      have es : amt ((dgs x).take (d + 1)) = if d < 4 then 10 * amt ((dgs x).take d) + x.getD (stt x + d) 0 - 48 else amt ((dgs x).take d) := by
        rw [take_snoc hd, amt_snoc, List.length_take, ← a2, Nat.min_eq_left (by omega)]
        by_cases q : d < 4
        · rw [if_pos q, if_pos q]; omega
        · rw [if_neg q, if_neg q]
      have fin : Ev lc G mMd_readNumber 129 [some (.ref 22), some (.int (nI (stt x + d))), some (.int (nI d))] [.int (nI (amt ((dgs x).take (d + 1)))), .ref 22] σ Q := by
        refine ev_goto okMd_readNumber rfl rfl ⟨Or.inr rfl, trivial⟩ ?_
        rw [nI_add, nI_add]
        refine ih (d + 1) _ (by omega) ?_ ?_ ?_ ?_ ?_ (fun σ' q1 q2 => k σ' q1 (Fq.tr (Fq.tr (Fq.f1 (by decide)) (Fq.f1 (σ := (_, _)) (by decide))) q2))
        · exact (hx.fq (S := []) (F := [45, 46, 47]) (Fq.tr (Fq.f1 (by decide)) (Fq.f1 (σ := (_, _)) (by decide))) (by decide) (by decide) (by decide))
        · simp [up2, h4]
        · simp [up2]; rfl
        · simp [up2, h6]
        · simp [up2]
      refine ev_ic_ge okMd_readNumber rfl rfl trivial (fun g => ?_) (fun g => ?_)
      · have g : ¬ d < 4 := fun q => absurd g (nI_ge q (by decide))
        refine ev_nop okMd_readNumber rfl rfl trivial ?_
        rw [h7]
        rw [es, if_neg g] at fin
        exact fin
      · have g : d < 4 := (Nat.lt_or_ge d 4).resolve_right (fun q => g (nI_le q (by omega)))
        refine ev_goto okMd_readNumber rfl rfl ⟨vp_nI (by omega) (by decide), trivial⟩ ?_
        rw [hv, h7, pk_mul, nI_add, pk_sub (by omega)]
        rw [es, if_pos g] at fin
        exact fin
theorem sp_readNumberR (hb : ∀ b ∈ x, b < 128) (hx : LineR σ x) (h4 : σ.1 22 44 = nI (rs x)) (k : ∀ σ', RCmd σ' x → Fq [] [45, 46, 47] σ σ' → Q none σ') : Ev lc G mMd_readNumber 0 [some (.ref 22), none, none] [] σ Q := by
  have h100 := hx.1
  have hrs := rs_le h100
  have start : ∀ (σ1 : St2) , Fq [] [45, 46, 47] σ σ1 → σ1.1 22 46 = rsg x → Ev lc G mMd_readNumber 63 [some (.ref 22), some (.int (nI (stt x))), none] [] σ1 Q := by
    intro σ1 hf h6
    refine ev_nop okMd_readNumber rfl rfl ⟨Or.inl rfl, trivial⟩ (lp_readNumberR hb (dgs x).length 0 _ (by omega) ?_ ?_ ?_ ?_ ?_ (fun σ' q1 q2 => k σ' q1 ((hf.tr (Fq.tr (Fq.f1 (by decide)) (Fq.f1 (σ := (_, _)) (by decide)))).tr q2)))
    · exact (hx.fq (S := []) (F := [45, 46, 47]) (hf.tr (Fq.tr (Fq.f1 (by decide)) (Fq.f1 (σ := (_, _)) (by decide)))) (by decide) (by decide) (by decide))
    · simp [up2, hf.g1 (show 44 ∉ [45, 46, 47] by decide), h4]
    · simp [up2]; rfl
    · simp [up2, h6]
    · simp [up2, amt]
  have hsb : sgn x < 128 := getD_lt hb (by decide)
  have f1 : Fq [] [45, 46, 47] σ (up2 σ.1 22 46 (nI 0), σ.2) := Fq.f1 (by decide)
  have hx1 := hx.fq f1 (by decide) (by decide) (by decide)
  refine ev_ic_ge okMd_readNumber rfl rfl trivial (fun h => ?_) (fun h => ?_)
  · rw [h4, hx1.2.1] at h
    have hl : x.length ≤ rs x := (nI_leI (by omega) (by omega)).mp h
    have hs0 : sgn x = 0 := gD0 hl
    have es : stt x = rs x := by unfold stt; rw [if_neg (by rw [hs0]; decide)]
    rw [h4]
    have := start _ f1 (by simp [up2, rsg, hs0])
    rw [es] at this
    exact this
  · rw [h4, hx1.2.1] at h
    have hl : rs x < x.length := (Nat.lt_or_ge (rs x) x.length).resolve_right (fun q => h (nI_le q (by omega)))
    rw [h4]
    have hv : (up2 σ.1 22 46 (nI 0), σ.2).1 23 (nI (rs x)).toNatClampNeg = nI (sgn x) := by rw [nI_cl (by omega)]; exact hx1.2.2 _ hl
    have vp : vp_in (nI (rs x)) 100 := vp_nI (by omega) (by decide)
    have sg : ∀ v : Int32, v = rsg x → (sgn x = 43 ∨ sgn x = 45) → Ev lc G mMd_readNumber 57 [some (.ref 22), some (.int (nI (rs x))), none] [.int v, .ref 22] (up2 σ.1 22 46 (nI 0), σ.2) Q := by
      intro v hv hs
      refine ev_nop okMd_readNumber rfl rfl trivial ?_
      rw [nI_add]
      have := start _ (f1.tr (Fq.f1 (x := v) (k := 46) (σ := (_, _)) (by decide))) (by simp [up2, hv])
      unfold stt at this
      rw [if_pos hs] at this
      exact this
    have pm : (sgn x = 43 ∨ sgn x = 45) → Ev lc G mMd_readNumber 40 [some (.ref 22), some (.int (nI (rs x))), none] [] (up2 σ.1 22 46 (nI 0), σ.2) Q := by
      intro hs
      refine ev_ic_ne okMd_readNumber rfl rfl ⟨vp, trivial⟩ (fun g => ?_) (fun g => ?_)
      · rw [hv] at g
        have g : ¬ sgn x = 43 := fun q => g (by rw [q])
        refine ev_nop okMd_readNumber rfl rfl trivial (sg _ ?_ hs)
        unfold rsg
        rw [if_neg g, if_pos (hs.resolve_left g)]
      · rw [hv] at g
        have g : sgn x = 43 := (nI_eq (by omega) (by decide)).mp g
        refine ev_goto okMd_readNumber rfl rfl trivial (sg _ ?_ hs)
        unfold rsg
        rw [if_pos g]
    refine ev_ic_eq okMd_readNumber rfl rfl ⟨vp, trivial⟩ (fun g => ?_) (fun g => ?_)
    · rw [hv] at g
      exact pm (Or.inl ((nI_eq (by omega) (by decide)).mp g))
    · rw [hv] at g
      have g : ¬ sgn x = 43 := fun q => g (by rw [q])
      refine ev_ic_ne okMd_readNumber rfl rfl ⟨vp, trivial⟩ (fun g2 => ?_) (fun g2 => ?_)
      · rw [hv] at g2
        have g2 : ¬ sgn x = 45 := fun q => g2 (by rw [q])
        have := start _ f1 (by simp [up2, rsg, g, g2])
        unfold stt at this
        rw [if_neg (by rintro (q | q); exact g q; exact g2 q)] at this
        exact this
      · rw [hv] at g2
        exact pm (Or.inr ((nI_eq (by omega) (by decide)).mp g2))
theorem sub_m1 (v a : Int32) : v + mI 0 * a = v - a := by
  rw [show mI 0 = -1 from rfl, Int32.neg_mul, Int32.one_mul, Int32.sub_eq_add_neg]
theorem sp_setR (hc : RCmd σ x) {v d lo hi : Int32} (k : Q (some (.int (clp lo hi (wv x v d)))) σ) : Ev lc G mMd_set 0 [some (.ref 22), some (.int v), some (.int d), some (.int lo), some (.int hi), none] [] σ Q := by
  obtain ⟨c4, c5, c6, c7⟩ := hc
  have fin : ∀ w : Int32, w = wv x v d → Ev lc G mMd_set 36 [some (.ref 22), some (.int v), some (.int d), some (.int lo), some (.int hi), none] [.int w] σ Q := by
    intro w hw
    subst hw
    refine ev_ic_ge okMd_set rfl rfl trivial (fun g => ?_) (fun g => ?_)
    · refine ev_ic_le okMd_set rfl rfl trivial (fun g2 => ?_) (fun g2 => ?_)
      · refine ev_nop okMd_set rfl rfl trivial (ev_ri okMd_set rfl rfl trivial rfl ?_)
        unfold clp at k
        rw [if_neg (Int32.not_lt.mpr g), if_neg (Int32.not_lt.mpr g2)] at k
        exact k
      · refine ev_goto okMd_set rfl rfl trivial (ev_ri okMd_set rfl rfl trivial rfl ?_)
        unfold clp at k
        rw [if_neg (Int32.not_lt.mpr g), if_pos (Int32.not_le.mp g2)] at k
        exact k
    · refine ev_goto okMd_set rfl rfl trivial (ev_ri okMd_set rfl rfl trivial rfl ?_)
      unfold clp at k
      rw [if_pos (Int32.not_le.mp g)] at k
      exact k
  refine ev_if_ne okMd_set rfl rfl trivial (fun h => ?_) (fun h => ?_)
  · rw [c5] at h
    have hn : num x = true := by
      cases q : num x with
      | true => rfl
      | false => rw [q] at h; exact absurd rfl h
    refine ev_if_ne okMd_set rfl rfl trivial (fun g => ?_) (fun g => ?_)
    · rw [c6] at g
      refine ev_nop okMd_set rfl rfl trivial (fin _ ?_)
      rw [c6, c7]
      unfold wv
      rw [if_pos hn]
      unfold rsg at g ⊢
      by_cases h1 : sgn x = 43
      · rw [if_pos h1, if_pos h1, show nI 1 = 1 from rfl, Int32.one_mul]
      · rw [if_neg h1] at g ⊢
        by_cases h2 : sgn x = 45
        · rw [if_pos h2, if_neg h1, if_pos h2, sub_m1]
        · rw [if_neg h2] at g
          exact absurd rfl g
    · rw [c6] at g
      refine ev_goto okMd_set rfl rfl trivial (fin _ ?_)
      rw [c7]
      unfold wv
      rw [if_pos hn]
      unfold rsg at g
      by_cases h1 : sgn x = 43
      · rw [if_pos h1] at g; exact absurd g (by decide)
      · rw [if_neg h1] at g ⊢
        by_cases h2 : sgn x = 45
        · rw [if_pos h2] at g; exact absurd g (by decide)
        · rw [if_neg h2]
  · rw [c5] at h
    have hn : ¬ num x = true := by
      intro q
      rw [q] at h
      exact absurd h (by decide)
    refine ev_goto okMd_set rfl rfl trivial (fin _ ?_)
    unfold wv; rw [if_neg hn]
theorem lp_copyRest {c : Nat} (hc : c = 41 ∨ c = 42) {j : Nat} : ∀ (m i : Nat) (σ : St2), j ≤ i → i ≤ 200 → x.length ≤ i + m → LineR σ x → RowAt σ c ((x.take i).drop j) → (∀ σ', RowAt σ' c (x.drop j) → Fq [c] [] σ σ' → Q (some (.int (nI (x.drop j).length))) σ') → Ev lc G mMd_copyRest 7 [some (.ref 22), some (.ref c), some (.int (nI ((x.take i).drop j).length)), some (.int (nI i))] [] σ Q := by
  intro m
  induction m with
  | zero =>
    intro i σ hj hi hm hx hy k
    have e : (x.take i).drop j = x.drop j := by rw [List.take_of_length_le (by omega)]
    rw [e] at hy ⊢
    have h100 := hx.1
    rcases hc with rfl | rfl <;> (
      refine ev_ic_ge okMd_copyRest rfl rfl trivial (fun h => ev_ri okMd_copyRest rfl rfl trivial rfl (k σ hy Fq.rf)) (fun h => absurd ?_ h)
      rw [hx.2.1]
      exact nI_le (by omega) (by omega))
  | succ m ih =>
    intro i σ hj hi hm hx hy k
    have h100 := hx.1
    by_cases hlt : i < x.length
    · have hl : ((x.take i).drop j).length = i - j := by rw [List.length_drop, List.length_take]; omega
      have hv : σ.1 23 (nI i).toNatClampNeg = nI (x.getD i 0) := by rw [nI_cl (by omega)]; exact hx.2.2 _ hlt
      rcases hc with rfl | rfl <;> (
        refine ev_ic_ge okMd_copyRest rfl rfl trivial (fun h => ?_) (fun h => ?_)
        · rw [hx.2.1] at h
          exact absurd h (nI_ge hlt (by omega))
        · refine ev_goto okMd_copyRest rfl rfl ⟨vp_nI (by omega) (by decide), vp_nI (by omega) (by decide), trivial⟩ ?_
          rw [hv, nI_add, nI_add]
          have hl2 : ((x.take i).drop j).length + 1 = ((x.take (i + 1)).drop j).length := by rw [td_snoc hj hlt]; simp
          rw [hl2]
          refine ih (i + 1) _ (by omega) (by omega) (by omega) (hx.fq (S := [_]) (F := []) (Fq.u1 List.mem_cons_self (by decide)) (by decide) (by decide) (by decide)) ?_ (fun σ' q1 q2 => k σ' q1 (Fq.tr (Fq.u1 List.mem_cons_self (by decide)) q2))
          rw [td_snoc hj hlt]
          refine RowAt.push hy ?_ (fun q hq => ?_)
          · have e9 : (nI ((x.take i).drop j).length).toNatClampNeg = ((x.take i).drop j).length := nI_cl (by omega)
            rw [e9]
            dsimp only
            rw [up2_same]
          · have e9 : (nI ((x.take i).drop j).length).toNatClampNeg = ((x.take i).drop j).length := nI_cl (by omega)
            rw [e9]
            dsimp only
            rw [up2_col _ _ _ (Nat.ne_of_lt hq)])
    · have e : (x.take i).drop j = x.drop j := by rw [List.take_of_length_le (by omega)]
      rw [e] at hy ⊢
      rcases hc with rfl | rfl <;> (
        refine ev_ic_ge okMd_copyRest rfl rfl trivial (fun h => ev_ri okMd_copyRest rfl rfl trivial rfl (k σ hy Fq.rf)) (fun h => absurd ?_ h)
        rw [hx.2.1]
        exact nI_le (by omega) (by omega))
theorem sp_copyRest {c : Nat} (hc : c = 41 ∨ c = 42) (hx : LineR σ x) (h4 : σ.1 22 44 = nI (rs x)) (k : ∀ σ', RowAt σ' c (x.drop (rs x)) → Fq [c] [] σ σ' → Q (some (.int (nI (x.drop (rs x)).length))) σ') : Ev lc G mMd_copyRest 0 [some (.ref 22), some (.ref c), none, none] [] σ Q := by
  have hrs := rs_le hx.1
  have key := lp_copyRest (lc := lc) (G := G) (Q := Q) hc (j := rs x) x.length (rs x) σ (Nat.le_refl _) (by omega) (by omega) hx (by rw [td_nil (Nat.le_refl _)]; exact RowAt.nil) k
  rw [td_nil (Nat.le_refl _)] at key
  rcases hc with rfl | rfl <;> (
    refine ev_nop okMd_copyRest rfl rfl trivial ?_
    rw [h4]
    exact key)
end RC
end
section
/-! ===== the class's Paragraph ===== -/
/-- letters, letters and words before each place (place 0 first), the words' underlining -/
def PaV (σ : St2) (L lb wb U : List Nat) : Prop := (L.length ≤ 8000 ∧ σ.1 12 4 = nI L.length ∧ RowAt σ 13 L) ∧ (lb.length = wb.length ∧ 1 ≤ lb.length ∧ lb.length ≤ 4001 ∧ σ.1 12 5 = nI (lb.length - 1)) ∧ RowAt σ 14 lb ∧ RowAt σ 15 wb ∧ U.length ≤ 80 ∧ σ.1 12 6 = nI U.length ∧ RowAt σ 16 U
theorem PaV.fr {S : List Nat} {σ σ' : St2} {L lb wb U : List Nat} (h : PaV σ L lb wb U) (hf : Fr S σ σ') (hs : ∀ c ∈ [12, 13, 14, 15, 16], c ∉ S) : PaV σ' L lb wb U := by
  obtain ⟨⟨a1, a2, a3⟩, ⟨b1, b2, b3, b4⟩, c1, c2, d1, d2, d3⟩ := h
  have e := hf.a1 (hs 12 (by decide))
  exact ⟨⟨a1, by rw [e]; exact a2, a3.fr hf (hs 13 (by decide))⟩, ⟨b1, b2, b3, by rw [e]; exact b4⟩, c1.fr hf (hs 14 (by decide)), c2.fr hf (hs 15 (by decide)), d1, by rw [e]; exact d2, d3.fr hf (hs 16 (by decide))⟩
section PA
variable {lc : Launch} {G : GG} {σ : St2} {Q : Option Value → St2 → Prop} {L lb wb U : List Nat}
theorem sp_addLetter (h : PaV σ L lb wb U) (hl : L.length < 8000) {b : Nat} (hb : b < 128) (k : ∀ σ', PaV σ' (L ++ [b]) lb wb U → Fr [12, 13] σ σ' → Q none σ') : Ev lc G mPa_addLetter 0 [some (.ref 12), some (.int (nI b))] [] σ Q := by
  obtain ⟨⟨a1, a2, a3⟩, ⟨b1, b2, b3, b4⟩, c1, c2, d1, d2, d3⟩ := h
  refine ev_ic_ge okPa_addLetter rfl rfl trivial (fun g => ?_) (fun g => ?_)
  · rw [a2] at g
    exact absurd g (nI_ge hl (by decide))
  · refine ev_nop okPa_addLetter rfl rfl ⟨by rw [a2]; exact vp_nI hl (by decide), trivial⟩ (ev_rv okPa_addLetter rfl rfl trivial rfl ?_)
    have hf : Fr [12, 13] σ (up2 (up2 σ.1 13 (σ.1 12 4).toNatClampNeg (nI b).toInt8.toInt32.toInt8.toInt32, σ.2).1 12 4 ((up2 σ.1 13 (σ.1 12 4).toNatClampNeg (nI b).toInt8.toInt32.toInt8.toInt32, σ.2).1 12 4 + nI 1), (up2 σ.1 13 (σ.1 12 4).toNatClampNeg (nI b).toInt8.toInt32.toInt8.toInt32, σ.2).2) := Fr.tr (Fr.u1 (by decide)) (Fr.u1 (σ := (_, _)) (by decide))
    refine k _ ⟨⟨by simp; omega, ?_, RowAt.push a3 ?_ fun j hj => ?_⟩, ⟨b1, b2, b3, ?_⟩, c1.fr hf (by decide), c2.fr hf (by decide), d1, ?_, d3.fr hf (by decide)⟩ hf
    · simp [up2, a2, nI_add]
    · simp [up2, a2, nI_cl (show L.length < 2 ^ 31 by omega), nI_byte hb]
    · simp [up2, a2, nI_cl (show L.length < 2 ^ 31 by omega), Nat.ne_of_lt hj]
    · simp [up2, b4]
    · simp [up2, d2]
theorem sp_addPlace (h : PaV σ L lb wb U) (hl : lb.length < 4001) (k : ∀ σ', PaV σ' L (lb ++ [L.length]) (wb ++ [U.length]) U → Fr [12, 14, 15] σ σ' → Q none σ') : Ev lc G mPa_addPlace 0 [some (.ref 12)] [] σ Q := by
  obtain ⟨⟨a1, a2, a3⟩, ⟨b1, b2, b3, b4⟩, c1, c2, d1, d2, d3⟩ := h
  have e1 : lb.length - 1 + 1 = lb.length := by omega
  refine ev_ic_ge okPa_addPlace rfl rfl trivial (fun g => ?_) (fun g => ?_)
  · rw [b4] at g
    exact absurd g (nI_ge (by omega) (by decide))
  · have e5 : (up2 σ.1 12 5 (σ.1 12 5 + nI 1), σ.2).1 12 5 = nI lb.length := by simp [up2, b4, nI_add, e1]
    have e4 : (up2 σ.1 12 5 (σ.1 12 5 + nI 1), σ.2).1 12 4 = nI L.length := by simp [up2, a2]
    refine ev_nop okPa_addPlace rfl rfl ⟨?_, ?_, trivial⟩ (ev_rv okPa_addPlace rfl rfl trivial rfl ?_)
    · rw [e5]; exact vp_nI hl (by decide)
    · rw [e5]
      have : (up2 (up2 σ.1 12 5 (σ.1 12 5 + nI 1), σ.2).1 14 (nI lb.length).toNatClampNeg ((up2 σ.1 12 5 (σ.1 12 5 + nI 1), σ.2).1 12 4), (up2 σ.1 12 5 (σ.1 12 5 + nI 1), σ.2).2).1 12 5 = nI lb.length := by
        simp [up2, b4, nI_add, e1]
      rw [this]
      exact vp_nI hl (by decide)
    · rw [e5, e4]
      have e6 : (up2 (up2 σ.1 12 5 (σ.1 12 5 + nI 1), σ.2).1 14 (nI lb.length).toNatClampNeg (nI L.length), (up2 σ.1 12 5 (σ.1 12 5 + nI 1), σ.2).2).1 12 5 = nI lb.length := by
        simp [up2, b4, nI_add, e1]
      have e7 : (up2 (up2 σ.1 12 5 (σ.1 12 5 + nI 1), σ.2).1 14 (nI lb.length).toNatClampNeg (nI L.length), (up2 σ.1 12 5 (σ.1 12 5 + nI 1), σ.2).2).1 12 6 = nI U.length := by
        simp [up2, d2]
      rw [e6, e7, nI_cl (show lb.length < 2 ^ 31 by omega)]
      have hf : Fr [12, 14, 15] σ (up2 (up2 (up2 σ.1 12 5 (σ.1 12 5 + nI 1), σ.2).1 14 lb.length (nI L.length), (up2 σ.1 12 5 (σ.1 12 5 + nI 1), σ.2).2).1 15 lb.length (nI U.length), (up2 (up2 σ.1 12 5 (σ.1 12 5 + nI 1), σ.2).1 14 lb.length (nI L.length), (up2 σ.1 12 5 (σ.1 12 5 + nI 1), σ.2).2).2) := Fr.tr (Fr.tr (Fr.u1 (by decide)) (Fr.u1 (σ := (_, _)) (by decide))) (Fr.u1 (σ := (_, _)) (by decide))
      refine k _ ⟨⟨a1, ?_, a3.fr hf (by decide)⟩, ⟨by simp [b1], by simp, by simp; omega, ?_⟩, RowAt.push c1 ?_ (fun j hj => ?_), RowAt.push c2 ?_ (fun j hj => ?_), d1, ?_, d3.fr hf (by decide)⟩ hf
      · simp [up2, a2]
      · simp [up2, b4, nI_add, e1]
      · simp [up2]
      · simp [up2, Nat.ne_of_lt hj]
      · simp [up2, ← b1]
      · have : j ≠ lb.length := by omega
        simp [up2, this]
      · simp [up2, d2]
/-- the letters and hyphen points of a word: wc words before it, B0 letters -/
def aw (wc B0 : Nat) : List Nat → Bool → List Nat → List Nat → List Nat → List Nat × List Nat × List Nat
  | [], _, L, lb, wb => (L, lb, wb)
  | b :: r, pv, L, lb, wb => if b = 94 then aw wc B0 r true L lb wb else if B0 < L.length ∧ pv = true then aw wc B0 r false (L ++ [b]) (lb ++ [L.length]) (wb ++ [wc]) else aw wc B0 r false (L ++ [b]) lb wb
theorem aw_ge (wc B0 : Nat) : ∀ (w : List Nat) (pv : Bool) (L lb wb : List Nat), lb.length ≤ (aw wc B0 w pv L lb wb).2.1.length
  | [], pv, L, lb, wb => Nat.le_refl _
  | b :: r, pv, L, lb, wb => by
    rw [aw]
    split
    · exact aw_ge wc B0 r true L lb wb
    · split
      · have := aw_ge wc B0 r false (L ++ [b]) (lb ++ [L.length]) (wb ++ [wc])
        rw [List.length_append, List.length_singleton] at this
        omega
      · exact aw_ge wc B0 r false (L ++ [b]) lb wb
theorem lp_addWord {x : List Nat} {fr to u B0 : Nat} (hb : ∀ b ∈ x, b < 128) (hto : to ≤ x.length) (hu : u < 2) : ∀ (m i : Nat) (σ : St2) (pv : Bool) (L lb wb : List Nat), i + m = to → fr ≤ i → TextAt σ 1 x → PaV σ L lb wb U → B0 ≤ L.length → (B0 < L.length → fr < i ∧ pv = decide (x.getD (i - 1) 0 = 94)) → L.length + m ≤ 8000 → (aw U.length B0 ((x.take to).drop i) pv L lb wb).2.1.length ≤ 4001 →
    (∀ σ', PaV σ' (aw U.length B0 ((x.take to).drop i) pv L lb wb).1 (aw U.length B0 ((x.take to).drop i) pv L lb wb).2.1 (aw U.length B0 ((x.take to).drop i) pv L lb wb).2.2 U → Fr [12, 13, 14, 15] σ σ' → Ev lc G mPa_addWord 81 [some (.ref 12), some (.ref 1), none, some (.int (nI to)), some (.int (nI u)), some (.int (nI B0)), none] [] σ' Q) →
    Ev lc G mPa_addWord 19 [some (.ref 12), some (.ref 1), none, some (.int (nI to)), some (.int (nI u)), some (.int (nI B0)), some (.int (nI i))] [] σ Q := by
  intro m
  induction m with
  | zero =>
    intro i σ pv L lb wb hm _ hx hp hB _ _ _ k
    have h100 := hx.1
    rw [td_nil (by omega)] at k
    refine ev_ic_ge okPa_addWord rfl rfl trivial (fun g => ev_lv [some (.ref 12), some (.ref 1), none, some (.int (nI to)), some (.int (nI u)), some (.int (nI B0)), none] ⟨rfl, rfl, rfl, rfl, rfl, trivial⟩ (k σ hp Fr.rf)) (fun g => absurd (nI_le (by omega) (by omega)) g)
  | succ m ih =>
    intro i σ pv L lb wb hm hfi hx hp hB hpv hL hlb k
    have h100 := hx.1
    have hlt : i < to := by omega
    have hbb := getD_lt (j := i) hb (by decide)
    have hL8 := hp.1.1
    rw [td_cons hlt hto] at k hlb
    refine ev_ic_ge okPa_addWord rfl rfl trivial (fun g => absurd g (nI_ge hlt (by omega))) (fun g => ?_)
    refine ev_cv okPa_addWord okTx_byteAt rfl rfl trivial rfl (by decide +kernel) rfl rfl (sp_byteAt (Or.inl rfl) hx ?_)
    rw [tb_nI h100 (by omega), if_pos (by omega)]
    refine ev_ic_ne okPa_addWord rfl rfl trivial (fun g2 => ?_) (fun g2 => ?_)
    · have e : ¬ x.getD i 0 = 94 := fun q => g2 (by rw [q])
      rw [aw, if_neg e] at k hlb
      -- the letter itself
      have letter : ∀ (σ1 : St2) (lb1 wb1 : List Nat), PaV σ1 L lb1 wb1 U → TextAt σ1 1 x → Fr [12, 13, 14, 15] σ σ1 → (aw U.length B0 ((x.take to).drop (i + 1)) false (L ++ [x.getD i 0]) lb1 wb1).2.1.length ≤ 4001 →
          (∀ σ', PaV σ' (aw U.length B0 ((x.take to).drop (i + 1)) false (L ++ [x.getD i 0]) lb1 wb1).1 (aw U.length B0 ((x.take to).drop (i + 1)) false (L ++ [x.getD i 0]) lb1 wb1).2.1 (aw U.length B0 ((x.take to).drop (i + 1)) false (L ++ [x.getD i 0]) lb1 wb1).2.2 U → Fr [12, 13, 14, 15] σ σ' → Ev lc G mPa_addWord 81 [some (.ref 12), some (.ref 1), none, some (.int (nI to)), some (.int (nI u)), some (.int (nI B0)), none] [] σ' Q) →
          Ev lc G mPa_addWord 65 [some (.ref 12), some (.ref 1), none, some (.int (nI to)), some (.int (nI u)), some (.int (nI B0)), some (.int (nI i))] [] σ1 Q := by
        intro σ1 lb1 wb1 h1 h2 h3 h4 h5
        refine ev_cv okPa_addWord okTx_byteAt rfl rfl trivial rfl (by decide +kernel) rfl rfl (sp_byteAt (Or.inl rfl) h2 ?_)
        rw [tb_nI h100 (by omega), if_pos (by omega)]
        refine ev_cv okPa_addWord okPa_addLetter rfl rfl trivial rfl (by decide +kernel) rfl rfl (sp_addLetter h1 (by omega) hbb fun σ2 q1 q2 => ?_)
        refine ev_goto okPa_addWord rfl rfl trivial ?_
        rw [nI_add]
        have f2 := h3.tr (q2.wk (T := [12, 13, 14, 15]) (by decide))
        refine ih (i + 1) σ2 false _ _ _ (by omega) (by omega) (h2.fr q2 (by decide) (by decide)) q1 (by simp; omega) (fun _ => ⟨by
          by_cases z : B0 < L.length
          · have := (hpv z).1; omega
          · omega, ?_⟩) (by simp; omega) h4 (fun σ' r1 r2 => h5 σ' r1 (f2.tr r2))
        rw [Nat.add_sub_cancel, decide_eq_false e]
      refine ev_ic_le okPa_addWord rfl rfl trivial (fun g3 => ?_) (fun g3 => ?_)
      · rw [hp.1.2.1] at g3
        have hB2 : ¬ B0 < L.length := Nat.not_lt.mpr ((nI_leI (by omega) (by omega)).mp g3)
        rw [if_neg (fun z => hB2 z.1)] at k hlb
        exact letter σ lb wb hp hx Fr.rf hlb k
      · rw [hp.1.2.1] at g3
        have hB2 : B0 < L.length := (Nat.lt_or_ge B0 L.length).resolve_right (fun q => g3 (nI_le q (by omega)))
        obtain ⟨z1, z2⟩ := hpv hB2
        refine ev_cv okPa_addWord okTx_byteAt rfl rfl trivial rfl (by decide +kernel) rfl rfl ?_
        rw [pk_sub (by omega)]
        refine sp_byteAt (Or.inl rfl) hx ?_
        rw [tb_nI h100 (by omega), if_pos (by omega)]
        have hbb2 := getD_lt (j := i - 1) hb (by decide)
        refine ev_ic_ne okPa_addWord rfl rfl trivial (fun g4 => ?_) (fun g4 => ?_)
        · have e2 : ¬ x.getD (i - 1) 0 = 94 := fun q => g4 (by rw [q])
          rw [decide_eq_false e2] at z2
          rw [if_neg (fun z => by rw [z2] at z; exact absurd z.2 (by decide))] at k hlb
          exact letter σ lb wb hp hx Fr.rf hlb k
        · have e2 : x.getD (i - 1) 0 = 94 := (nI_eq (by omega) (by decide)).mp g4
          rw [decide_eq_true e2] at z2
          rw [if_pos ⟨hB2, z2⟩] at k hlb
          have hge := aw_ge U.length B0 ((x.take to).drop (i + 1)) false (L ++ [x.getD i 0]) (lb ++ [L.length]) (wb ++ [U.length])
          rw [List.length_append, List.length_singleton] at hge
          refine ev_cv okPa_addWord okPa_addPlace rfl rfl trivial rfl (by decide +kernel) rfl rfl (sp_addPlace hp (by omega) fun σ1 q1 q2 => ?_)
          exact letter σ1 _ _ q1 (hx.fr q2 (by decide) (by decide)) (q2.wk (by decide)) hlb k
    · have e : x.getD i 0 = 94 := (nI_eq (by omega) (by decide)).mp g2
      rw [aw, if_pos e] at k hlb
      refine ev_goto okPa_addWord rfl rfl trivial (ev_goto okPa_addWord rfl rfl trivial ?_)
      rw [nI_add]
      refine ih (i + 1) σ true L lb wb (by omega) (by omega) hx hp hB (fun z => ⟨by have := (hpv z).1; omega, ?_⟩) (by omega) hlb k
      rw [Nat.add_sub_cancel, decide_eq_true e]
/-- behind a word: its end is a place -/
def addW (w : List Nat) (u : Nat) (s : List Nat × List Nat × List Nat × List Nat) : List Nat × List Nat × List Nat × List Nat :=
  let r := aw s.2.2.2.length s.1.length w false s.1 s.2.1 s.2.2.1
  (r.1, r.2.1 ++ [r.1.length], r.2.2 ++ [s.2.2.2.length + 1], s.2.2.2 ++ [u])
theorem aw_len (wc B0 : Nat) : ∀ (w : List Nat) (pv : Bool) (L lb wb : List Nat), (aw wc B0 w pv L lb wb).1.length ≤ L.length + w.length ∧ (aw wc B0 w pv L lb wb).2.1.length ≤ lb.length + w.length
  | [], pv, L, lb, wb => by simp [aw]
  | b :: r, pv, L, lb, wb => by
    rw [aw]
    split
    · have := aw_len wc B0 r true L lb wb
      simp only [List.length_cons]
      omega
    · split
      · have := aw_len wc B0 r false (L ++ [b]) (lb ++ [L.length]) (wb ++ [wc])
        simp only [List.length_append, List.length_cons, List.length_nil] at this ⊢
        omega
      · have := aw_len wc B0 r false (L ++ [b]) lb wb
        simp only [List.length_append, List.length_cons, List.length_nil] at this ⊢
        omega
theorem sp_addWord {x : List Nat} {fr to u : Nat} (hb : ∀ b ∈ x, b < 128) (hfr : fr ≤ to) (hto : to ≤ x.length) (hu : u < 2) (hx : TextAt σ 1 x) (hp : PaV σ L lb wb U) (hU : U.length < 80) (hL : L.length + (to - fr) ≤ 8000) (hlb : (aw U.length L.length ((x.take to).drop fr) false L lb wb).2.1.length < 4001)
    (k : ∀ σ', PaV σ' (addW ((x.take to).drop fr) u (L, lb, wb, U)).1 (addW ((x.take to).drop fr) u (L, lb, wb, U)).2.1 (addW ((x.take to).drop fr) u (L, lb, wb, U)).2.2.1 (U ++ [u]) → Fr [12, 13, 14, 15, 16] σ σ' → Q none σ') :
    Ev lc G mPa_addWord 0 [some (.ref 12), some (.ref 1), some (.int (nI fr)), some (.int (nI to)), some (.int (nI u)), none, none] [] σ Q := by
  have h100 := hx.1
  refine ev_ic_lt okPa_addWord rfl rfl trivial (fun g => ?_) (fun g => ?_)
  · refine ev_nop okPa_addWord rfl rfl trivial ?_
    rw [hp.1.2.1]
    refine ev_lv [some (.ref 12), some (.ref 1), none, some (.int (nI to)), some (.int (nI u)), some (.int (nI L.length)), some (.int (nI fr))] ⟨rfl, rfl, rfl, rfl, rfl, rfl, trivial⟩ (lp_addWord (fr := fr) hb hto hu (to - fr) fr σ false L lb wb (by omega) (Nat.le_refl _) hx hp (Nat.le_refl _) (fun z => absurd z (Nat.lt_irrefl _)) hL (by omega) fun σ1 h1 h2 => ?_)
    have hlen := aw_len U.length L.length ((x.take to).drop fr) false L lb wb
    have hwl : ((x.take to).drop fr).length = to - fr := by rw [List.length_drop, List.length_take]; omega
    obtain ⟨⟨a1, a2, a3⟩, ⟨b1, b2, b3, b4⟩, c1, c2, d1, d2, d3⟩ := h1
    have f1 : Fr [12, 13, 14, 15, 16] σ σ1 := h2.wk (by decide)
    have hpos : σ1.1 12 6 = nI U.length := d2
    have nb : nI u &&& 1 = nI u := nI_bit hu
    -- the word's underlining, and one word more
    have h3 : PaV (up2 (up2 σ1.1 16 (σ1.1 12 6).toNatClampNeg (nI u &&& 1), σ1.2).1 12 6 ((up2 σ1.1 16 (σ1.1 12 6).toNatClampNeg (nI u &&& 1), σ1.2).1 12 6 + nI 1), (up2 σ1.1 16 (σ1.1 12 6).toNatClampNeg (nI u &&& 1), σ1.2).2) (aw U.length L.length ((x.take to).drop fr) false L lb wb).1 (aw U.length L.length ((x.take to).drop fr) false L lb wb).2.1 (aw U.length L.length ((x.take to).drop fr) false L lb wb).2.2 (U ++ [u]) := by
      have hf : Fr [12, 16] σ1 (up2 (up2 σ1.1 16 (σ1.1 12 6).toNatClampNeg (nI u &&& 1), σ1.2).1 12 6 ((up2 σ1.1 16 (σ1.1 12 6).toNatClampNeg (nI u &&& 1), σ1.2).1 12 6 + nI 1), (up2 σ1.1 16 (σ1.1 12 6).toNatClampNeg (nI u &&& 1), σ1.2).2) := Fr.tr (Fr.u1 (by decide)) (Fr.u1 (σ := (_, _)) (by decide))
      refine ⟨⟨a1, ?_, a3.fr hf (by decide)⟩, ⟨b1, b2, b3, ?_⟩, c1.fr hf (by decide), c2.fr hf (by decide), by simp; omega, ?_, RowAt.push d3 ?_ (fun j hj => ?_)⟩
      · simp [up2, a2]
      · simp [up2, b4]
      · simp [up2, d2, nI_add]
      · simp [up2, d2, nb, nI_cl (show U.length < 2 ^ 31 by omega)]
      · simp [up2, d2, nI_cl (show U.length < 2 ^ 31 by omega), Nat.ne_of_lt hj]
    refine ev_cv okPa_addWord okPa_addPlace rfl rfl ⟨by rw [d2]; exact vp_nI hU (by decide), trivial⟩ rfl (by decide +kernel) rfl rfl (sp_addPlace h3 (by omega) fun σ2 q1 q2 => ?_)
    refine ev_rv okPa_addWord rfl rfl trivial rfl (k σ2 ?_ ((f1.tr (Fr.tr (Fr.u1 (by decide)) (Fr.u1 (σ := (_, _)) (by decide)))).tr (q2.wk (by decide))))
    rw [List.length_append, List.length_singleton] at q1
    exact q1
  · rw [hp.2.2.2.2.2.1] at g
    exact absurd (nI_lt hU (by decide)) g
theorem sp_clear (h : PaV σ L lb wb U) (h0 : lb.getD 0 0 = 0 ∧ wb.getD 0 0 = 0) (k : ∀ σ', PaV σ' [] [0] [0] [] → Fr [12] σ σ' → Q none σ') : Ev lc G mPa_clear 0 [some (.ref 12)] [] σ Q := by
  obtain ⟨⟨a1, a2, a3⟩, ⟨b1, b2, b3, b4⟩, c1, c2, d1, d2, d3⟩ := h
  refine ev_rv okPa_clear rfl rfl trivial rfl (k _ ⟨⟨by decide, ?_, RowAt.nil⟩, ⟨rfl, by decide, by decide, ?_⟩, ?_, ?_, by decide, ?_, RowAt.nil⟩ (Fr.tr (Fr.tr (Fr.u1 (by decide)) (Fr.u1 (σ := (_, _)) (by decide))) (Fr.u1 (σ := (_, _)) (by decide))))
  · simp [up2]
  · simp [up2]
  · intro j hj
    have e : j = 0 := by simpa using hj
    subst e
    have := c1 0 (by omega)
    rw [h0.1] at this
    simpa [up2] using this
  · intro j hj
    have e : j = 0 := by simpa using hj
    subst e
    have := c2 0 (by omega)
    rw [h0.2] at this
    simpa [up2] using this
  · simp [up2]
end PA
end
section
/-! ===== the class's Paragraph: lengths, blanks, what is written ===== -/
def Mono (l : List Nat) : Prop := ∀ i j, i ≤ j → j < l.length → l.getD i 0 ≤ l.getD j 0
/-- no word ends at that place -/
def hyp (wb : List Nat) (p : Nat) : Bool := decide (0 < p ∧ p < wb.length ∧ wb.getD p 0 = wb.getD (p - 1) 0)
def bln (wb : List Nat) (a b : Nat) : Nat := wb.getD (b - 1) 0 - wb.getD a 0
def ltr (lb : List Nat) (a b : Nat) : Nat := lb.getD b 0 - lb.getD a 0
def lnO (lb wb : List Nat) (a b : Nat) : Nat := ltr lb a b + bln wb a b + (if hyp wb b then 1 else 0)
/-- places as they come: they grow, their words are among the words -/
def PaB (L lb wb U : List Nat) : Prop := Mono lb ∧ Mono wb ∧ (∀ j, lb.getD j 0 ≤ L.length) ∧ (∀ j, wb.getD j 0 ≤ U.length) ∧ (∀ j, j + 1 < wb.length → wb.getD j 0 < U.length) ∧ (∀ b ∈ L, b < 128) ∧ ∀ u ∈ U, u < 2
section PB
variable {lc : Launch} {G : GG} {σ : St2} {Q : Option Value → St2 → Prop} {L lb wb U : List Nat}
theorem sp_isHyphen (h : PaV σ L lb wb U) (hb : PaB L lb wb U) {p : Nat} (hp : p ≤ 5000) (k : Q (some (.int (b2 (hyp wb p)))) σ) : Ev lc G mPa_isHyphen 0 [some (.ref 12), some (.int (nI p))] [] σ Q := by
  obtain ⟨⟨a1, a2, a3⟩, ⟨b1, b2', b3, b4⟩, c1, c2, d1, d2, d3⟩ := h
  have no : hyp wb p = false → Ev lc G mPa_isHyphen 33 [some (.ref 12), some (.int (nI p))] [] σ Q := by
    intro q
    rw [q] at k
    exact ev_nop okPa_isHyphen rfl rfl trivial (ev_rz okPa_isHyphen rfl rfl trivial rfl (Or.inl rfl) k)
  refine ev_if_le okPa_isHyphen rfl rfl trivial (fun g => no ?_) (fun g => ?_)
  · have e : p = 0 := by
      rcases Nat.eq_zero_or_pos p with q | q
      · exact q
      · exact absurd g (nI_nle q (by omega))
    exact decide_eq_false (fun z => by omega)
  · have e : 0 < p := Nat.pos_of_ne_zero (fun q => g (by rw [q]; decide))
    refine ev_ic_gt okPa_isHyphen rfl rfl trivial (fun g2 => no ?_) (fun g2 => ?_)
    · rw [b4] at g2
      have : lb.length - 1 < p := (nI_ltI (by omega) (by omega)).mp g2
      exact decide_eq_false (fun z => by omega)
    · rw [b4] at g2
      have hle : p ≤ lb.length - 1 := Nat.le_of_not_lt (fun q => g2 (nI_lt q (by omega)))
      have v1 : σ.1 15 (nI p).toNatClampNeg = nI (wb.getD p 0) := by rw [nI_cl (by omega)]; exact c2 p (by omega)
      have v2 : σ.1 15 (nI p - nI 1).toNatClampNeg = nI (wb.getD (p - 1) 0) := by rw [pk_sub (by omega), nI_cl (by omega)]; exact c2 (p - 1) (by omega)
      have hw1 := hb.2.2.2.1 p
      have hw2 := hb.2.2.2.1 (p - 1)
      refine ev_ic_ne okPa_isHyphen rfl rfl ⟨vp_nI (by omega) (by decide), by rw [pk_sub (by omega)]; exact vp_nI (by omega) (by decide), trivial⟩ (fun g3 => no ?_) (fun g3 => ?_)
      · rw [v1, v2] at g3
        exact decide_eq_false (fun z => g3 (by rw [z.2.2]))
      · rw [v1, v2] at g3
        have g3 : wb.getD p 0 = wb.getD (p - 1) 0 := (nI_eq (by omega) (by omega)).mp g3
        have : hyp wb p = true := decide_eq_true ⟨e, by omega, g3⟩
        rw [this] at k
        exact ev_goto okPa_isHyphen rfl rfl trivial (ev_rz okPa_isHyphen rfl rfl trivial rfl (Or.inr rfl) k)
theorem sp_blanksIn (h : PaV σ L lb wb U) (hb : PaB L lb wb U) {a b : Nat} (hab : a < b) (hn : b < lb.length) (k : Q (some (.int (nI (bln wb a b)))) σ) : Ev lc G mPa_blanksIn 0 [some (.ref 12), some (.int (nI a)), some (.int (nI b))] [] σ Q := by
  obtain ⟨⟨a1, a2, a3⟩, ⟨b1, b2', b3, b4⟩, c1, c2, d1, d2, d3⟩ := h
  refine ev_if_lt okPa_blanksIn rfl rfl trivial (fun g => absurd g (nI_neg (by omega))) (fun g => ?_)
  refine ev_ic_ge okPa_blanksIn rfl rfl trivial (fun g => absurd g (nI_ge hab (by omega))) (fun g => ?_)
  refine ev_ic_le okPa_blanksIn rfl rfl trivial (fun g => ?_) (fun g => absurd (by rw [b4]; exact nI_le (by omega) (by omega)) g)
  refine ev_ri okPa_blanksIn rfl rfl ⟨by rw [pk_sub (by omega)]; exact vp_nI (by omega) (by decide), vp_nI (by omega) (by decide), trivial⟩ rfl ?_
  rw [pk_sub (by omega), nI_cl (by omega), nI_cl (by omega), c2 (b - 1) (by omega), c2 a (by omega), pk_sub (hb.2.1 a (b - 1) (by omega) (by omega))]
  exact k
theorem sp_lettersIn (h : PaV σ L lb wb U) (hb : PaB L lb wb U) {a b : Nat} (hab : a < b) (hn : b < lb.length) (k : Q (some (.int (nI (ltr lb a b)))) σ) : Ev lc G mPa_lettersIn 0 [some (.ref 12), some (.int (nI a)), some (.int (nI b))] [] σ Q := by
  obtain ⟨⟨a1, a2, a3⟩, ⟨b1, b2', b3, b4⟩, c1, c2, d1, d2, d3⟩ := h
  refine ev_if_lt okPa_lettersIn rfl rfl trivial (fun g => absurd g (nI_neg (by omega))) (fun g => ?_)
  refine ev_ic_ge okPa_lettersIn rfl rfl trivial (fun g => absurd g (nI_ge hab (by omega))) (fun g => ?_)
  refine ev_ic_le okPa_lettersIn rfl rfl trivial (fun g => ?_) (fun g => absurd (by rw [b4]; exact nI_le (by omega) (by omega)) g)
  refine ev_ri okPa_lettersIn rfl rfl ⟨vp_nI (by omega) (by decide), vp_nI (by omega) (by decide), trivial⟩ rfl ?_
  rw [nI_cl (by omega), nI_cl (by omega), c1 b hn, c1 a (by omega), pk_sub (hb.1 a b (by omega) (by omega))]
  exact k
theorem sp_lengthOf (h : PaV σ L lb wb U) (hb : PaB L lb wb U) {a b : Nat} (hab : a < b) (hn : b < lb.length) (k : Q (some (.int (nI (lnO lb wb a b)))) σ) : Ev lc G mPa_lengthOf 0 [some (.ref 12), some (.int (nI a)), some (.int (nI b))] [] σ Q := by
  have h4 := h.2.1.2.2.1
  refine ev_cv okPa_lengthOf okPa_lettersIn rfl rfl trivial rfl (by decide +kernel) rfl rfl (sp_lettersIn h hb hab hn ?_)
  refine ev_cv okPa_lengthOf okPa_blanksIn rfl rfl trivial rfl (by decide +kernel) rfl rfl (sp_blanksIn h hb hab hn ?_)
  refine ev_cv okPa_lengthOf okPa_isHyphen rfl rfl trivial rfl (by decide +kernel) rfl rfl (sp_isHyphen h hb (by omega) ?_)
  unfold lnO at k
  refine ev_if_eq okPa_lengthOf rfl rfl trivial (fun g => ?_) (fun g => ?_)
  · have e : hyp wb b = false := by
      cases q : hyp wb b with
      | false => rfl
      | true => rw [q] at g; exact absurd g (by decide)
    refine ev_nop okPa_lengthOf rfl rfl trivial (ev_ri okPa_lengthOf rfl rfl trivial rfl ?_)
    rw [e] at k
    rw [nI_add, nI_add]
    exact k
  · have e : hyp wb b = true := by
      cases q : hyp wb b with
      | true => rfl
      | false => rw [q] at g; exact absurd rfl g
    refine ev_goto okPa_lengthOf rfl rfl trivial (ev_ri okPa_lengthOf rfl rfl trivial rfl ?_)
    rw [e] at k
    rw [nI_add, nI_add]
    exact k
/-- the bytes of the piece behind place p -/
def pce (L lb wb U : List Nat) (p : Nat) : List Nat := und (U.getD (wb.getD p 0) 0) ((L.take (lb.getD (p + 1) 0)).drop (lb.getD p 0))
theorem sp_writePiece {o : List Nat} (h : PaV σ L lb wb U) (hb : PaB L lb wb U) (ho : OutAt σ o) {p : Nat} (hp : p + 1 < lb.length) (k : ∀ σ', OutAt σ' (emit o (pce L lb wb U p)) → Fr [5, 6] σ σ' → Q none σ') : Ev lc G mPa_writePiece 0 [some (.ref 12), some (.ref 5), some (.int (nI p)), none, none] [] σ Q := by
  obtain ⟨⟨a1, a2, a3⟩, ⟨b1, b2', b3, b4⟩, c1, c2, d1, d2, d3⟩ := id h
  have hw : wb.getD p 0 < U.length := hb.2.2.2.2.1 p (by omega)
  have v1 : σ.1 15 (nI p).toNatClampNeg = nI (wb.getD p 0) := by rw [nI_cl (by omega)]; exact c2 p (by omega)
  have hu : U.getD (wb.getD p 0) 0 < 2 := getD_lt hb.2.2.2.2.2.2 (by decide)
  have v2 : σ.1 16 (nI (wb.getD p 0)).toNatClampNeg = nI (U.getD (wb.getD p 0) 0) := by rw [nI_cl (by omega)]; exact d3 _ hw
  have hl1 := hb.2.2.1 p
  have hl2 := hb.2.2.1 (p + 1)
  have fin : ∀ u : Nat, u = U.getD (wb.getD p 0) 0 → Ev lc G mPa_writePiece 44 [some (.ref 12), some (.ref 5), some (.int (nI p)), none, none] [.int (nI u)] σ Q := by
    intro u hu'
    refine ev_cv okPa_writePiece okOu_putBytes rfl rfl ⟨vp_nI (by omega) (by decide), by rw [nI_add]; exact vp_nI (by omega) (by decide), trivial⟩ rfl (by decide +kernel) rfl rfl ?_
    rw [nI_add, nI_cl (by omega), nI_cl (by omega), c1 p (by omega), c1 (p + 1) (by omega)]
    refine sp_putBytes (Or.inr ⟨rfl, by omega⟩) hl2 (hb.1 p (p + 1) (by omega) (by omega)) (by omega) hb.2.2.2.2.2.1 a3 ho fun σ1 q1 q2 => ?_
    refine ev_rv okPa_writePiece rfl rfl trivial rfl (k σ1 ?_ q2)
    unfold pce
    rw [← hu']
    exact q1
  refine ev_if_lt okPa_writePiece rfl rfl trivial (fun g => absurd g (nI_neg (by omega))) (fun g => ?_)
  refine ev_ic_lt okPa_writePiece rfl rfl trivial (fun g => ?_) (fun g => absurd (by rw [b4]; exact nI_lt (by omega) (by omega)) g)
  refine ev_if_lt okPa_writePiece rfl rfl ⟨vp_nI (by omega) (by decide), trivial⟩ (fun g => absurd g (by rw [v1]; exact nI_neg (by omega))) (fun g => ?_)
  rw [v1]
  refine ev_ic_ge okPa_writePiece rfl rfl trivial (fun g => absurd g (nI_ge (by omega) (by decide))) (fun g => ?_)
  refine ev_if_eq okPa_writePiece rfl rfl ⟨vp_nI (by omega) (by decide), trivial⟩ (fun g => ?_) (fun g => ?_)
  · rw [v2] at g
    have e : U.getD (wb.getD p 0) 0 = 0 := (nI_eq (by omega) (by decide)).mp g
    exact ev_nop okPa_writePiece rfl rfl trivial (ev_lv [some (.ref 12), some (.ref 5), some (.int (nI p)), none, none] ⟨rfl, rfl, rfl, trivial⟩ (fin 0 e.symm))
  · rw [v2] at g
    have e : ¬ U.getD (wb.getD p 0) 0 = 0 := fun q => g (by rw [q]; rfl)
    exact ev_goto okPa_writePiece rfl rfl trivial (ev_lv [some (.ref 12), some (.ref 5), some (.int (nI p)), none, none] ⟨rfl, rfl, rfl, trivial⟩ (fin 1 (by omega)))
/-- how many blanks the k-th (from 0 on) of g becomes -/
def gap (sl g k : Nat) : Nat := 1 + sl * (k + 1) / g - sl * k / g
/-- pieces from place p on, m of them; a: the line's beginning; k blanks have come -/
def wrt (pc : Nat → List Nat) (wb : List Nat) (a g sl : Nat) : Nat → Nat → Nat → List Nat
  | 0, _, _ => []
  | m + 1, p, k => if a < p ∧ 0 < g ∧ hyp wb p = false then List.replicate (gap sl g k) 32 ++ pc p ++ wrt pc wb a g sl m (p + 1) (k + 1) else pc p ++ wrt pc wb a g sl m (p + 1) k
theorem lp_write {a b sl : Nat} (hsl : sl ≤ 1000) : ∀ (m p k : Nat) (σ : St2) (o : List Nat), p + m = b → b < lb.length → a ≤ p → k ≤ p → PaV σ L lb wb U → PaB L lb wb U → OutAt σ o →
    (∀ σ', OutAt σ' (emit o (wrt (pce L lb wb U) wb a (bln wb a b) sl m p k ++ (if hyp wb b then [45] else []))) → Fr [5, 6] σ σ' → Q none σ') →
    Ev lc G mPa_write 14 [some (.ref 12), some (.ref 5), some (.int (nI a)), some (.int (nI b)), some (.int (nI sl)), some (.int (nI (bln wb a b))), some (.int (nI k)), some (.int (nI p))] [] σ Q := by
  intro m
  induction m with
  | zero =>
    intro p k σ o hm hn ha hk h hb ho kk
    have h4 := h.2.1.2.2.1
    refine ev_ic_ge okPa_write rfl rfl trivial (fun g => ?_) (fun g => absurd (nI_le (by omega) (by omega)) g)
    refine ev_cv okPa_write okPa_isHyphen rfl rfl trivial rfl (by decide +kernel) rfl rfl (sp_isHyphen h hb (by omega) ?_)
    refine ev_if_eq okPa_write rfl rfl trivial (fun g => ?_) (fun g => ?_)
    · have e : hyp wb b = false := by
        cases q : hyp wb b with
        | false => rfl
        | true => rw [q] at g; exact absurd g (by decide)
      rw [e] at kk
      refine ev_rv okPa_write rfl rfl trivial rfl (kk σ ?_ Fr.rf)
      rw [show wrt (pce L lb wb U) wb a (bln wb a b) sl 0 p k ++ (if (false : Bool) = true then [45] else []) = [] from rfl, emit_nil ho.1]
      exact ho
    · have e : hyp wb b = true := by
        cases q : hyp wb b with
        | true => rfl
        | false => rw [q] at g; exact absurd rfl g
      rw [e] at kk
      refine ev_cv okPa_write okOu_put rfl rfl trivial rfl (by decide +kernel) rfl rfl (sp_put ho (by decide) fun σ1 q1 q2 => ?_)
      exact ev_rv okPa_write rfl rfl trivial rfl (kk σ1 q1 q2)
  | succ m ih =>
    intro p k σ o hm hn ha hk h hb ho kk
    have h4 := h.2.1.2.2.1
    have hlt : p < b := by omega
    have hbl : bln wb a b ≤ 80 := by
      have h1 := hb.2.2.2.1 (b - 1)
      have h2 := h.2.2.2.2.1
      unfold bln
      omega
    rw [wrt] at kk
    -- the piece, and on
    have piece : ∀ (k' : Nat) (σ1 : St2) (o1 : List Nat), k' ≤ p + 1 → OutAt σ1 o1 → Fr [5, 6] σ σ1 →
        (∀ σ', OutAt σ' (emit o1 (pce L lb wb U p ++ wrt (pce L lb wb U) wb a (bln wb a b) sl m (p + 1) k' ++ (if hyp wb b then [45] else []))) → Fr [5, 6] σ σ' → Q none σ') →
        Ev lc G mPa_write 70 [some (.ref 12), some (.ref 5), some (.int (nI a)), some (.int (nI b)), some (.int (nI sl)), some (.int (nI (bln wb a b))), some (.int (nI k')), some (.int (nI p))] [] σ1 Q := by
      intro k' σ1 o1 hk' h1 h2 h3
      have hp1 := h.fr h2 (by decide)
      refine ev_cv okPa_write okPa_writePiece rfl rfl trivial rfl (by decide +kernel) rfl rfl (sp_writePiece hp1 hb h1 (by omega) fun σ2 q1 q2 => ?_)
      refine ev_goto okPa_write rfl rfl trivial ?_
      rw [nI_add]
      refine ih (p + 1) k' σ2 _ (by omega) hn (by omega) (by omega) (hp1.fr q2 (by decide)) hb q1 (fun σ' r1 r2 => h3 σ' ?_ ((h2.tr q2).tr r2))
      rw [emit_emit, ← List.append_assoc] at r1
      exact r1
    refine ev_ic_ge okPa_write rfl rfl trivial (fun g => absurd g (nI_ge hlt (by omega))) (fun g => ?_)
    refine ev_ic_le okPa_write rfl rfl trivial (fun g => ?_) (fun g => ?_)
    · have g : ¬ a < p := Nat.not_lt.mpr ((nI_leI (by omega) (by omega)).mp g)
      rw [if_neg (fun z => g z.1)] at kk
      exact piece k σ o (by omega) ho Fr.rf kk
    · have g : a < p := (Nat.lt_or_ge a p).resolve_right (fun q => g (nI_le q (by omega)))
      refine ev_if_le okPa_write rfl rfl trivial (fun g2 => ?_) (fun g2 => ?_)
      · have g2 : ¬ 0 < bln wb a b := fun q => absurd g2 (nI_nle q (by omega))
        rw [if_neg (fun z => g2 z.2.1)] at kk
        exact piece k σ o (by omega) ho Fr.rf kk
      · have g2 : 0 < bln wb a b := Nat.pos_of_ne_zero (fun q => g2 (by rw [q]; decide))
        refine ev_cv okPa_write okPa_isHyphen rfl rfl trivial rfl (by decide +kernel) rfl rfl (sp_isHyphen h hb (by omega) ?_)
        refine ev_if_ne okPa_write rfl rfl trivial (fun g3 => ?_) (fun g3 => ?_)
        · have e : hyp wb p = true := by
            cases q : hyp wb p with
            | true => rfl
            | false => rw [q] at g3; exact absurd rfl g3
          rw [if_neg (fun z => by rw [e] at z; exact absurd z.2.2 (by decide))] at kk
          exact piece k σ o (by omega) ho Fr.rf kk
        · have e : hyp wb p = false := by
            cases q : hyp wb p with
            | false => rfl
            | true => rw [q] at g3; exact absurd g3 (by decide)
          rw [if_pos ⟨g, g2, e⟩] at kk
          have m1 : sl * (k + 1) < 2 ^ 31 := by
            have : sl * (k + 1) ≤ 1000 * 5000 := Nat.mul_le_mul hsl (by omega)
            omega
          have m0 : sl * k ≤ sl * (k + 1) := Nat.mul_le_mul_left _ (by omega)
          have m2 : sl * k / bln wb a b ≤ sl * (k + 1) / bln wb a b := Nat.div_le_div_right m0
          refine ev_cv okPa_write okOu_repeat rfl rfl ⟨nI_ne0 g2 (by omega), nI_ne0 g2 (by omega), trivial⟩ rfl (by decide +kernel) rfl rfl ?_
          rw [nI_add, pk_sub (show 1 ≤ k + 1 by omega), Nat.add_sub_cancel, pk_mul, pk_mul, pk_div m1 g2 (by omega), pk_div (by omega) g2 (by omega), nI_add, pk_sub (by omega)]
          refine sp_repeat ho (by decide) _ fun σ1 q1 q2 => ?_
          have hg : (nI (1 + sl * (k + 1) / bln wb a b - sl * k / bln wb a b)).toNatClampNeg = gap sl (bln wb a b) k := by
            have : sl * (k + 1) / bln wb a b ≤ sl * (k + 1) := Nat.div_le_self _ _
            have m3 : sl * (k + 1) ≤ 1000 * 5000 := Nat.mul_le_mul hsl (by omega)
            have m4 : 1 + sl * (k + 1) / bln wb a b ≤ 1 + 1000 * 5000 := Nat.add_le_add_left (Nat.le_trans this m3) 1
            rw [nI_cl (Nat.lt_of_le_of_lt (Nat.sub_le _ _) (Nat.lt_of_le_of_lt m4 (by decide)))]
            rfl
          rw [hg] at q1
          refine piece (k + 1) σ1 _ (by omega) q1 q2 (fun σ' r1 r2 => kk σ' ?_ r2)
          rw [emit_emit] at r1
          simp only [List.append_assoc] at r1 ⊢
          exact r1
theorem sp_write {o : List Nat} {a b sl : Nat} (hsl : sl ≤ 1000) (hab : a < b) (hn : b < lb.length) (h : PaV σ L lb wb U) (hb : PaB L lb wb U) (ho : OutAt σ o)
    (k : ∀ σ', OutAt σ' (emit o (wrt (pce L lb wb U) wb a (bln wb a b) sl (b - a) a 0 ++ (if hyp wb b then [45] else []))) → Fr [5, 6] σ σ' → Q none σ') :
    Ev lc G mPa_write 0 [some (.ref 12), some (.ref 5), some (.int (nI a)), some (.int (nI b)), some (.int (nI sl)), none, none, none] [] σ Q := by
  refine ev_cv okPa_write okPa_blanksIn rfl rfl trivial rfl (by decide +kernel) rfl rfl (sp_blanksIn h hb hab hn ?_)
  exact ev_nop okPa_write rfl rfl trivial (lp_write hsl (b - a) a 0 σ o (by omega) hn (Nat.le_refl _) (by omega) h hb ho k)
end PB
end
section
/-! ===== parting: the model's numbers, and the class's small methods ===== -/
def bad (len room g : Nat) (last : Bool) : Nat :=
  if room < len then 10000 else if last = true ∨ room - len = 0 then 0 else if g = 0 ∨ 20 * g < room - len then 10000 else
    if 100 * (room - len) * (room - len) * (room - len) / (g * g * g) < 10000 then 100 * (room - len) * (room - len) * (room - len) / (g * g * g) else 10000
def kdO (x : Nat) : Nat := if x < 13 then 0 else if x < 100 then 1 else 2
def clsh (k k' : Nat) : Nat := if (k = 0 ∧ k' = 2) ∨ (k = 2 ∧ k' = 0) then 5000 else 0
def plnD (wb : List Nat) (a b bd : Nat) : Nat := (1 + bd) * (1 + bd) + (if hyp wb b then (if hyp wb a then 13000 else 3000) else 0)
theorem bad_le (len room g : Nat) (last : Bool) : bad len room g last ≤ 10000 := by
  unfold bad
  split
  · omega
  · split
    · omega
    · split
      · omega
      · split <;> omega
theorem kdO_lt (x : Nat) : kdO x < 3 := by unfold kdO; split <;> (try split) <;> omega
theorem clsh_le (k k' : Nat) : clsh k k' ≤ 5000 := by unfold clsh; split <;> omega
theorem plnD_le {wb : List Nat} {a b bd : Nat} (h : bd ≤ 10000) : plnD wb a b bd ≤ 100033001 := by
  unfold plnD
  have : (1 + bd) * (1 + bd) ≤ 10001 * 10001 := Nat.mul_le_mul (by omega) (by omega)
  split <;> (try split) <;> omega
section PT
variable {lc : Launch} {G : GG} {σ : St2} {Q : Option Value → St2 → Prop} {L lb wb U : List Nat}
theorem sp_badnessOf {len room g : Nat} {last : Bool} (h1 : len ≤ 10000) (h2 : room ≤ 80) (h3 : g ≤ 80) (k : Q (some (.int (nI (bad len room g last)))) σ) : Ev lc G mPt_badnessOf 0 [some (.int (nI len)), some (.int (nI room)), some (.int (nI g)), some (.int (b2 last)), none] [] σ Q := by
  unfold bad at k
  refine ev_ic_le okPt_badnessOf rfl rfl trivial (fun q => ?_) (fun q => ?_)
  · have q : len ≤ room := (nI_leI (by omega) (by omega)).mp q
    rw [if_neg (by omega)] at k
    have z : last = true ∨ room - len = 0 → Ev lc G mPt_badnessOf 23 [some (.int (nI len)), some (.int (nI room)), some (.int (nI g)), some (.int (b2 last)), some (.int (nI (room - len)))] [] σ Q := by
      intro q2
      rw [if_pos q2] at k
      exact ev_ri okPt_badnessOf rfl rfl trivial rfl k
    refine ev_if_ne okPt_badnessOf rfl rfl trivial (fun q2 => ?_) (fun q2 => ?_)
    · rw [pk_sub q]
      refine z (Or.inl ?_)
      cases last with
      | true => rfl
      | false => exact absurd rfl q2
    · rw [pk_sub q]
      have q2 : ¬ last = true := by
        intro e
        rw [e] at q2
        exact absurd q2 (by decide)
      refine ev_if_ne okPt_badnessOf rfl rfl trivial (fun q3 => ?_) (fun q3 => ?_)
      · have q3 : ¬ room - len = 0 := fun e => q3 (by rw [e]; rfl)
        rw [if_neg (by rintro (e | e); exact q2 e; exact q3 e)] at k
        have w : g = 0 ∨ 20 * g < room - len → Ev lc G mPt_badnessOf 38 [some (.int (nI len)), some (.int (nI room)), some (.int (nI g)), some (.int (b2 last)), some (.int (nI (room - len)))] [] σ Q := by
          intro q4
          rw [if_pos q4] at k
          exact ev_ri okPt_badnessOf rfl rfl trivial rfl k
        refine ev_if_le okPt_badnessOf rfl rfl trivial (fun q4 => w (Or.inl ?_)) (fun q4 => ?_)
        · rcases Nat.eq_zero_or_pos g with e | e
          · exact e
          · exact absurd q4 (nI_nle e (by omega))
        · have q4 : ¬ g = 0 := fun e => q4 (by rw [e]; decide)
          refine ev_ic_le okPt_badnessOf rfl rfl trivial (fun q5 => ?_) (fun q5 => w (Or.inr ?_))
          · rw [pk_mul] at q5
            have q5 : room - len ≤ 20 * g := (nI_leI (by omega) (by omega)).mp q5
            rw [if_neg (by rintro (e | e); exact q4 e; omega)] at k
            have hs : room - len ≤ 80 := by omega
            generalize hS : room - len = s at *
            have e1 : 100 * s ≤ 8000 := by omega
            have e2 : 100 * s * s ≤ 8000 * 80 := Nat.mul_le_mul e1 hs
            have e3 : 100 * s * s * s ≤ 8000 * 80 * 80 := Nat.mul_le_mul e2 hs
            have f1 : g * g ≤ 80 * 80 := Nat.mul_le_mul h3 h3
            have f2 : g * g * g ≤ 80 * 80 * 80 := Nat.mul_le_mul f1 h3
            have f3 : 0 < g * g * g := Nat.mul_pos (Nat.mul_pos (by omega) (by omega)) (by omega)
            have e4 : 100 * s * s * s / (g * g * g) ≤ 8000 * 80 * 80 := Nat.le_trans (Nat.div_le_self _ _) e3
            refine ev_min okPt_badnessOf rfl rfl ⟨by rw [pk_mul, pk_mul]; exact nI_ne0 f3 (by omega), trivial⟩ (by decide +kernel) rfl ?_
            rw [pk_mul, pk_mul, pk_mul, pk_mul, pk_mul, pk_div (by omega) f3 (by omega)]
            refine ev_ri okPt_badnessOf rfl rfl trivial rfl ?_
            by_cases hq : 100 * s * s * s / (g * g * g) < 10000
            · rw [if_pos (nI_lt hq (by decide))]
              rw [if_pos hq] at k
              exact k
            · rw [if_neg (fun z => hq ((nI_ltI (by omega) (by decide)).mp z))]
              rw [if_neg hq] at k
              exact k
          · rw [pk_mul] at q5
            exact (Nat.lt_or_ge (20 * g) (room - len)).resolve_right (fun e => q5 (nI_le e (by omega)))
      · have q3 : room - len = 0 := by
          have : nI (room - len) = 0 := by simpa using q3
          exact (nI_eq (by omega) (by decide)).mp this
        exact z (Or.inr q3)
  · have q : room < len := (Nat.lt_or_ge room len).resolve_right (fun e => q (nI_le e (by omega)))
    rw [if_pos q] at k
    exact ev_ri okPt_badnessOf rfl rfl trivial rfl k
theorem sp_kindOf {x : Nat} (hx : x < 2 ^ 31) (k : Q (some (.int (nI (kdO x)))) σ) : Ev lc G mPt_kindOf 0 [some (.int (nI x))] [] σ Q := by
  unfold kdO at k
  refine ev_ic_ge okPt_kindOf rfl rfl trivial (fun q => ?_) (fun q => ?_)
  · have q : 13 ≤ x := (nI_leI (by decide) hx).mp q
    rw [if_neg (by omega)] at k
    refine ev_ic_ge okPt_kindOf rfl rfl trivial (fun q2 => ?_) (fun q2 => ?_)
    · have q2 : 100 ≤ x := (nI_leI (by decide) hx).mp q2
      rw [if_neg (by omega)] at k
      exact ev_nop okPt_kindOf rfl rfl trivial (ev_ri okPt_kindOf rfl rfl trivial rfl k)
    · have q2 : x < 100 := (Nat.lt_or_ge x 100).resolve_right (fun e => q2 (nI_le e hx))
      rw [if_pos q2] at k
      exact ev_goto okPt_kindOf rfl rfl trivial (ev_ri okPt_kindOf rfl rfl trivial rfl k)
  · have q : x < 13 := (Nat.lt_or_ge x 13).resolve_right (fun e => q (nI_le e hx))
    rw [if_pos q] at k
    exact ev_ri okPt_kindOf rfl rfl trivial rfl k
theorem sp_clash {a b : Nat} (ha : a < 3) (hb : b < 3) (k : Q (some (.int (nI (clsh a b)))) σ) : Ev lc G mPt_clash 0 [some (.int (nI a)), some (.int (nI b))] [] σ Q := by
  have key : ∀ a : Fin 3, ∀ b : Fin 3, (nI a.val - nI b.val = nI 2 ∨ nI b.val - nI a.val = nI 2 ↔ (a.val = 0 ∧ b.val = 2) ∨ (a.val = 2 ∧ b.val = 0)) := by decide
  have key := key ⟨a, ha⟩ ⟨b, hb⟩
  unfold clsh at k
  have yes : (nI a - nI b = nI 2 ∨ nI b - nI a = nI 2) → Ev lc G mPt_clash 14 [some (.int (nI a)), some (.int (nI b))] [] σ Q := by
    intro q
    rw [if_pos (key.mp q)] at k
    exact ev_goto okPt_clash rfl rfl trivial (ev_ri okPt_clash rfl rfl trivial rfl k)
  refine ev_ic_eq okPt_clash rfl rfl trivial (fun q => yes (Or.inl q)) (fun q => ?_)
  refine ev_ic_ne okPt_clash rfl rfl trivial (fun q2 => ?_) (fun q2 => yes (Or.inr q2))
  rw [if_neg (fun z => by rcases key.mpr z with e | e; exact q e; exact q2 e)] at k
  exact ev_nop okPt_clash rfl rfl trivial (ev_ri okPt_clash rfl rfl trivial rfl k)
theorem lN_eqS {n : Nat} (h : n < 2 ^ 31) : (nI n).toInt64 = lN n := nI_l h
theorem sp_plainDemerits (h : PaV σ L lb wb U) (hb : PaB L lb wb U) {a b bd : Nat} (ha : a ≤ 5000) (hb2 : b ≤ 5000) (hd : bd ≤ 10000) (k : Q (some (.long (lN (plnD wb a b bd)))) σ) : Ev lc G mPt_plainDemerits 0 [some (.ref 12), some (.int (nI a)), some (.int (nI b)), some (.int (nI bd)), none, none] [] σ Q := by
  have e1 : lN ((1 : Fin 2).val) + (nI bd).toInt64 = lN (1 + bd) := by rw [nI_l (by omega), lN_add]; rfl
  unfold plnD at k
  refine ev_cv okPt_plainDemerits okPa_isHyphen rfl rfl trivial rfl (by decide +kernel) rfl rfl (sp_isHyphen h hb hb2 ?_)
  refine ev_if_eq okPt_plainDemerits rfl rfl trivial (fun q => ?_) (fun q => ?_)
  · have e : hyp wb b = false := by
      cases z : hyp wb b with
      | false => rfl
      | true => rw [z] at q; exact absurd q (by decide)
    rw [e] at k
    refine ev_rl okPt_plainDemerits rfl rfl trivial rfl ?_
    rw [e1, lN_mul]
    exact k
  · have e : hyp wb b = true := by
      cases z : hyp wb b with
      | true => rfl
      | false => rw [z] at q; exact absurd rfl q
    rw [e, if_pos rfl] at k
    refine ev_cv okPt_plainDemerits okPa_isHyphen rfl rfl trivial rfl (by decide +kernel) rfl rfl (sp_isHyphen h hb ha ?_)
    refine ev_if_eq okPt_plainDemerits rfl rfl trivial (fun q2 => ?_) (fun q2 => ?_)
    · have e2 : hyp wb a = false := by
        cases z : hyp wb a with
        | false => rfl
        | true => rw [z] at q2; exact absurd q2 (by decide)
      rw [e2] at k
      refine ev_nop okPt_plainDemerits rfl rfl trivial (ev_nop okPt_plainDemerits rfl rfl trivial (ev_rl okPt_plainDemerits rfl rfl trivial rfl ?_))
      rw [e1, lN_mul, lN_add]
      exact k
    · have e2 : hyp wb a = true := by
        cases z : hyp wb a with
        | true => rfl
        | false => rw [z] at q2; exact absurd rfl q2
      rw [e2] at k
      refine ev_goto okPt_plainDemerits rfl rfl trivial (ev_nop okPt_plainDemerits rfl rfl trivial (ev_rl okPt_plainDemerits rfl rfl trivial rfl ?_))
      rw [e1, lN_mul, lN_add]
      exact k
def rmO (r1 r2 a : Nat) : Nat := if a = 0 then r1 else r2
theorem sp_roomFrom {r1 r2 a : Nat} (h1 : σ.1 17 4 = nI r1) (h2 : σ.1 17 5 = nI r2) (ha : a ≤ 5000) (k : Q (some (.int (nI (rmO r1 r2 a)))) σ) : Ev lc G mPt_roomFrom 0 [some (.ref 17), some (.int (nI a))] [] σ Q := by
  unfold rmO at k
  refine ev_if_ne okPt_roomFrom rfl rfl trivial (fun q => ?_) (fun q => ?_)
  · have q : ¬ a = 0 := fun e => q (by rw [e]; rfl)
    rw [if_neg q] at k
    refine ev_nop okPt_roomFrom rfl rfl trivial (ev_ri okPt_roomFrom rfl rfl trivial rfl ?_)
    rw [h2]
    exact k
  · have q : a = 0 := (nI_eq (by omega) (by decide)).mp (show nI a = nI 0 from (by simpa using q : nI a = 0))
    rw [if_pos q] at k
    refine ev_goto okPt_roomFrom rfl rfl trivial (ev_ri okPt_roomFrom rfl rfl trivial rfl ?_)
    rw [h1]
    exact k
/-- a cost is kept if it is less -/
def kif (σ : St2) (i : Nat) (to : Int32) (c : Int64) : St2 := if c < σ.2 18 i then (up2 σ.1 19 i to, up2 σ.2 18 i c) else σ
theorem sp_keepIfLess {i : Nat} (hi : i < 12003) {to : Int32} {c : Int64} (k : Q none (kif σ i to c)) : Ev lc G mPt_keepIfLess 0 [some (.ref 17), some (.int (nI i)), some (.int to), some (.long c), none] [] σ Q := by
  unfold kif at k
  refine ev_if_lt okPt_keepIfLess rfl rfl trivial (fun q => absurd q (nI_neg (by omega))) (fun q => ?_)
  refine ev_ic_ge okPt_keepIfLess rfl rfl trivial (fun q => absurd q (nI_ge hi (by decide))) (fun q => ?_)
  have vp : vp_in (nI i) 12003 := vp_nI hi (by decide)
  refine ev_if_ge okPt_keepIfLess rfl rfl ⟨vp, trivial⟩ (fun q2 => ?_) (fun q2 => ?_)
  · rw [nI_cl (by omega)] at q2
    rw [if_neg (Int64.not_lt.mpr ((lg_cmp_ge _ _).mp q2))] at k
    exact ev_rv okPt_keepIfLess rfl rfl trivial rfl k
  · rw [nI_cl (by omega)] at q2
    have q3 : c < σ.2 18 i := Int64.not_le.mp (fun z => q2 ((lg_cmp_ge _ _).mpr z))
    rw [if_pos q3] at k
    refine ev_nop okPt_keepIfLess rfl rfl ⟨vp, vp, trivial⟩ (ev_rv okPt_keepIfLess rfl rfl trivial rfl ?_)
    rw [nI_cl (by omega)]
    exact k
end PT
end
section
/-! ===== parting: the table of least sums, and the class's search ===== -/
abbrev TE : Type := Nat × Nat × Nat
def lxl (x y : Nat × Nat) : Prop := x.1 < y.1 ∨ (x.1 = y.1 ∧ x.2 < y.2)
theorem lxl_dec (x y : Nat × Nat) : lxl x y ∨ ¬ lxl x y := Classical.em _
noncomputable def accU (acc : Option TE) (c : Nat × Nat) (b : Nat) : Option TE := match acc with
  | none => some (c.1, c.2, b)
  | some y => if c.1 < y.1 ∨ (c.1 = y.1 ∧ c.2 < y.2.1) then some (c.1, c.2, b) else some y
noncomputable def scn (leg : Nat → Bool) (cand : Nat → Nat × Nat) : Nat → Nat → Option TE → Option TE
  | 0, _, acc => acc
  | m + 1, b, acc => if leg b = true then scn leg cand m (b + 1) (accU acc (cand b) b) else acc
section DPM
variable (lb wb : List Nat) (r1 r2 n : Nat) (B : Nat → Nat → TE)
def bdO (a b : Nat) : Nat := bad (lnO lb wb a b) (rmO r1 r2 a) (bln wb a b) (decide (b = n))
def kO (a b : Nat) : Nat := kdO (bdO lb wb r1 r2 n a b)
def legO (a b : Nat) : Bool := decide (b = a + 1 ∨ lnO lb wb a b ≤ rmO r1 r2 a)
def cndO (a k b : Nat) : Nat × Nat := (plnD wb a b (bdO lb wb r1 r2 n a b) + clsh k (kO lb wb r1 r2 n a b) + (B b (kO lb wb r1 r2 n a b)).1, (B b (kO lb wb r1 r2 n a b)).2.1 + 1)
/-- B is the table: of the least sum from a on, if the line before has the KIND k; its lines; where its first line ends -/
def DP : Prop := (∀ k, B n k = (0, 0, 0)) ∧ ∀ a k, a < n → scn (legO lb wb r1 r2 a) (cndO lb wb r1 r2 n B a k) (n - a) (a + 1) none = some (B a k)
end DPM
theorem accU_mem {acc : Option TE} {c : Nat × Nat} {b : Nat} {r : TE} (h : accU acc c b = some r) : acc = some r ∨ r = (c.1, c.2, b) := by
  unfold accU at h
  split at h
  · cases h; exact Or.inr rfl
  · split at h
    · cases h; exact Or.inr rfl
    · exact Or.inl h
theorem scn_mem {leg : Nat → Bool} {cand : Nat → Nat × Nat} : ∀ (m b : Nat) (acc : Option TE) {r : TE}, scn leg cand m b acc = some r → acc = some r ∨ ∃ b', b ≤ b' ∧ b' < b + m ∧ leg b' = true ∧ r = ((cand b').1, (cand b').2, b')
  | 0, b, acc, r, h => Or.inl h
  | m + 1, b, acc, r, h => by
    rw [scn] at h
    split at h
    · rename_i hl
      rcases scn_mem m (b + 1) _ h with h | ⟨b', h1, h2, h3, h4⟩
      · rcases accU_mem h with h | h
        · exact Or.inl h
        · exact Or.inr ⟨b, by omega, by omega, hl, h⟩
      · exact Or.inr ⟨b', by omega, by omega, h3, h4⟩
    · exact Or.inl h
section DPS
variable {lb wb : List Nat} {r1 r2 n : Nat} {B : Nat → Nat → TE}
theorem bdO_le (a b : Nat) : bdO lb wb r1 r2 n a b ≤ 10000 := bad_le _ _ _ _
theorem kO_lt (a b : Nat) : kO lb wb r1 r2 n a b < 3 := kdO_lt _
theorem DP_at (h : DP lb wb r1 r2 n B) {a k : Nat} (ha : a < n) : ∃ b, a < b ∧ b ≤ n ∧ legO lb wb r1 r2 a b = true ∧ B a k = ((cndO lb wb r1 r2 n B a k b).1, (cndO lb wb r1 r2 n B a k b).2, b) := by
  rcases scn_mem _ _ _ (h.2 a k ha) with q | ⟨b, h1, h2, h3, h4⟩
  · cases q
  · exact ⟨b, by omega, by omega, h3, h4⟩
theorem DP_bd (h : DP lb wb r1 r2 n B) : ∀ (m a k : Nat), a + m = n → (B a k).1 ≤ m * 100038001 ∧ (B a k).2.1 ≤ m := by
  intro m
  induction m using Nat.strongRecOn with
  | _ m ih =>
    intro a k ha
    by_cases hm : m = 0
    · have e : a = n := by omega
      subst e
      rw [h.1 k]
      simp
    · obtain ⟨b, h1, h2, -, h4⟩ := DP_at h (k := k) (show a < n by omega)
      rw [h4]
      obtain ⟨i1, i2⟩ := ih (n - b) (by omega) b (kO lb wb r1 r2 n a b) (by omega)
      have h5 := plnD_le (wb := wb) (a := a) (b := b) (bdO_le (lb := lb) (wb := wb) (r1 := r1) (r2 := r2) (n := n) a b)
      have h6 := clsh_le k (kO lb wb r1 r2 n a b)
      have h7 : (n - b) * 100038001 + 100038001 ≤ m * 100038001 := by
        have : (n - b + 1) * 100038001 ≤ m * 100038001 := Nat.mul_le_mul_right _ (by omega)
        rwa [Nat.add_mul, Nat.one_mul] at this
      simp only [cndO]
      constructor <;> omega
theorem DP_end (h : DP lb wb r1 r2 n B) {a k : Nat} (ha : a < n) : a < (B a k).2.2 ∧ (B a k).2.2 ≤ n := by
  obtain ⟨b, h1, h2, -, h4⟩ := DP_at h (k := k) ha
  rw [h4]
  exact ⟨h1, h2⟩
end DPS
/-- the class's table: costs and ends, from the place a0 on -/
def TabC (σ : St2) (n : Nat) (B : Nat → Nat → TE) (a0 : Nat) : Prop := ∀ a, a0 ≤ a → a ≤ n → ∀ k, k < 3 → σ.2 18 (3 * a + k) = lN (8192 * (B a k).1 + (B a k).2.1) ∧ (a < n → σ.1 19 (3 * a + k) = nI (B a k).2.2)
def AccAt (σ : St2) (i : Nat) (acc : Option TE) : Prop := match acc with
  | none => σ.2 18 i = lN 9223372036854775807
  | some y => σ.2 18 i = lN (8192 * y.1 + y.2.1) ∧ σ.1 19 i = nI y.2.2 ∧ y.2.1 < 8192 ∧ 8192 * y.1 + y.2.1 < 2 ^ 62
theorem kif_c (σ : St2) (i j : Nat) (to : Int32) (c : Int64) (h : j ≠ i) : (kif σ i to c).2 18 j = σ.2 18 j ∧ (kif σ i to c).1 19 j = σ.1 19 j := by
  unfold kif
  split
  · exact ⟨up2_col σ.2 18 c h, up2_col σ.1 19 to h⟩
  · exact ⟨rfl, rfl⟩
theorem kif_fr (σ : St2) (i : Nat) (to : Int32) (c : Int64) : Fr [18, 19] σ (kif σ i to c) := by
  unfold kif
  split
  · exact Fr.tr (Fr.u1 (by decide)) (Fr.u2 (σ := (up2 σ.1 19 i to, σ.2)) (by decide))
  · exact Fr.rf
theorem kif_acc {σ : St2} {i s l b : Nat} {acc : Option TE} (h : AccAt σ i acc) (hl : l < 8192) (hs : 8192 * s + l < 2 ^ 62) : AccAt (kif σ i (nI b) (lN (8192 * s + l))) i (accU acc (s, l) b) := by
  have set : ∀ σ : St2, lN (8192 * s + l) < σ.2 18 i → AccAt (kif σ i (nI b) (lN (8192 * s + l))) i (some (s, l, b)) := by
    intro σ q
    unfold kif
    rw [if_pos q]
    exact ⟨up2_same σ.2 18 i _, up2_same σ.1 19 i _, hl, hs⟩
  unfold accU
  cases acc with
  | none =>
    refine set σ ?_
    have h : σ.2 18 i = lN 9223372036854775807 := h
    rw [h]
    exact (pk_lLT (by omega) (by decide)).mpr (by omega)
  | some y =>
    obtain ⟨s', l', e'⟩ := y
    obtain ⟨h1, h2, h3, h4⟩ := h
    simp only at h1 h2 h3 h4
    show AccAt _ i (if s < s' ∨ (s = s' ∧ l < l') then some (s, l, b) else some (s', l', e'))
    by_cases q : s < s' ∨ (s = s' ∧ l < l')
    · rw [if_pos q]
      refine set σ ?_
      rw [h1]
      exact (pk_lLT (by omega) (by omega)).mpr (by omega)
    · rw [if_neg q]
      have : ¬ lN (8192 * s + l) < σ.2 18 i := by
        rw [h1, pk_lLT (by omega) (by omega)]
        omega
      unfold kif
      rw [if_neg this]
      exact ⟨h1, h2, h3, h4⟩
theorem kif_acc_ne {σ : St2} {i j : Nat} {to : Int32} {c : Int64} {acc : Option TE} (h : AccAt σ j acc) (hj : j ≠ i) : AccAt (kif σ i to c) j acc := by
  obtain ⟨e1, e2⟩ := kif_c σ i j to c hj
  cases acc with
  | none =>
    show (kif σ i to c).2 18 j = _
    rw [e1]; exact h
  | some y =>
    obtain ⟨h1, h2, h3⟩ := h
    exact ⟨by rw [e1]; exact h1, by rw [e2]; exact h2, h3⟩
theorem TabC.kif {σ : St2} {n f i : Nat} {B : Nat → Nat → TE} {to : Int32} {c : Int64} (h : TabC σ n B (f + 1)) (hi : i < 3 * f + 3) : TabC (kif σ i to c) n B (f + 1) := by
  intro a ha hn k hk
  obtain ⟨e1, e2⟩ := kif_c σ i (3 * a + k) to c (by omega)
  rw [e1, e2]
  exact h a ha hn k hk
section WL
variable {lc : Launch} {G : GG} {Q : Option Value → St2 → Prop} {L lb wb U : List Nat} {r1 r2 n : Nat} {B : Nat → Nat → TE}
/-- what the class's search reads: the words, the rooms -/
def SrV (σ : St2) (L lb wb U : List Nat) (r1 r2 : Nat) : Prop := PaV σ L lb wb U ∧ σ.1 17 4 = nI r1 ∧ σ.1 17 5 = nI r2
theorem SrV.fr {σ σ' : St2} (h : SrV σ L lb wb U r1 r2) (hf : Fr [18, 19] σ σ') : SrV σ' L lb wb U r1 r2 := ⟨h.1.fr hf (by decide), by rw [hf.a1 (by decide)]; exact h.2.1, by rw [hf.a1 (by decide)]; exact h.2.2⟩
theorem lp_weigh (hd : DP lb wb r1 r2 n B) (hb : PaB L lb wb U) (hr1 : r1 ≤ 80) (hr2 : r2 ≤ 80) (hn : lb.length = n + 1) {f : Nat} (hf : f < n) : ∀ (m to : Nat) (σ : St2) (acc : Nat → Option TE), to + m = n + 1 → f < to → SrV σ L lb wb U r1 r2 → TabC σ n B (f + 1) → (∀ k, k < 3 → AccAt σ (3 * f + k) (acc k)) → (∀ k, k < 3 → scn (legO lb wb r1 r2 f) (cndO lb wb r1 r2 n B f k) m to (acc k) = some (B f k)) →
    (∀ σ', TabC σ' n B f → Fr [18, 19] σ σ' → Q none σ') →
    Ev lc G mPt_weighLinesFrom 41 [some (.ref 17), some (.ref 12), some (.int (nI f)), some (.int (nI n)), some (.int (nI (rmO r1 r2 f))), some (.int (nI to)), none, none, none, none, none, none] [] σ Q := by
  have done : ∀ (σ : St2) (acc : Nat → Option TE), TabC σ n B (f + 1) → (∀ k, k < 3 → AccAt σ (3 * f + k) (acc k)) → (∀ k, k < 3 → acc k = some (B f k)) → TabC σ n B f := by
    intro σ acc h1 h2 h3 a ha hn' k hk
    by_cases e : a = f
    · subst e
      have := h2 k hk
      rw [h3 k hk] at this
      exact ⟨this.1, fun _ => this.2.1⟩
    · exact h1 a (by omega) hn' k hk
  intro m
  induction m with
  | zero =>
    intro to σ acc hm ht hs htab hacc hscn k
    have h4 := hs.1.2.1.2.2.1
    exact ev_ic_gt okPt_weighLinesFrom rfl rfl trivial (fun g => ev_rv okPt_weighLinesFrom rfl rfl trivial rfl (k σ (done σ acc htab hacc hscn) Fr.rf)) (fun g => absurd (nI_lt (by omega) (by omega)) g)
  | succ m ih =>
    intro to σ acc hm ht hs htab hacc hscn k
    have h4 := hs.1.2.1.2.2.1
    have hrm : rmO r1 r2 f ≤ 80 := by unfold rmO; split <;> omega
    have hln : lnO lb wb f to ≤ 8081 := by
      have h1 := hb.2.2.1 to
      have h2 := hb.2.2.2.1 (to - 1)
      have h3 := hs.1.1.1
      have h5 := hs.1.2.2.2.2.1
      unfold lnO ltr bln
      split <;> omega
    have hbl : bln wb f to ≤ 80 := by
      have h2 := hb.2.2.2.1 (to - 1)
      have h5 := hs.1.2.2.2.2.1
      unfold bln
      omega
    refine ev_ic_gt okPt_weighLinesFrom rfl rfl trivial (fun g => absurd g (nI_nlt (by omega) (by omega))) (fun g => ?_)
    refine ev_cv okPt_weighLinesFrom okPa_lengthOf rfl rfl trivial rfl (by decide +kernel) rfl rfl (sp_lengthOf hs.1 hb ht (by omega) ?_)
    -- a legal line
    have legal : legO lb wb r1 r2 f to = true → Ev lc G mPt_weighLinesFrom 74 [some (.ref 17), some (.ref 12), some (.int (nI f)), some (.int (nI n)), some (.int (nI (rmO r1 r2 f))), some (.int (nI to)), some (.int (nI (lnO lb wb f to))), none, none, none, none, none] [] σ Q := by
      intro hleg
      refine ev_cv okPt_weighLinesFrom okPa_blanksIn rfl rfl trivial rfl (by decide +kernel) rfl rfl (sp_blanksIn hs.1 hb ht (by omega) ?_)
      have badn : Ev lc G mPt_weighLinesFrom 96 [some (.ref 17), some (.ref 12), some (.int (nI f)), some (.int (nI n)), some (.int (nI (rmO r1 r2 f))), some (.int (nI to)), some (.int (nI (lnO lb wb f to))), none, none, none, none, none] [.int (b2 (decide (to = n))), .int (nI (bln wb f to)), .int (nI (rmO r1 r2 f)), .int (nI (lnO lb wb f to))] σ Q := by
        refine ev_cs okPt_weighLinesFrom okPt_badnessOf rfl rfl trivial rfl (by decide +kernel) rfl rfl (sp_badnessOf (by omega) hrm hbl ?_)
        have hbd : bdO lb wb r1 r2 n f to ≤ 10000 := bdO_le f to
        show Ev lc G mPt_weighLinesFrom 99 _ (psh (some (.int (nI (bdO lb wb r1 r2 n f to)))) []) σ Q
        refine ev_cs okPt_weighLinesFrom okPt_kindOf rfl rfl trivial rfl (by decide +kernel) rfl rfl (sp_kindOf (by omega) ?_)
        have hk3 : kO lb wb r1 r2 n f to < 3 := kO_lt f to
        show Ev lc G mPt_weighLinesFrom 106 _ (psh (some (.int (nI (kO lb wb r1 r2 n f to)))) []) σ Q
        refine ev_cs okPt_weighLinesFrom okPt_plainDemerits rfl rfl trivial rfl (by decide +kernel) rfl rfl (sp_plainDemerits hs.1 hb (by omega) (by omega) hbd ?_)
        generalize hK : kO lb wb r1 r2 n f to = K at hk3 ⊢
        obtain ⟨tc, -⟩ := htab to (by omega) (by omega) K hk3
        have eidx : nI 3 * nI to + nI K = nI (3 * to + K) := by rw [pk_mul, nI_add]
        refine ev_nop okPt_weighLinesFrom rfl rfl ⟨by rw [eidx]; exact vp_nI (by omega) (by decide), trivial⟩ ?_
        rw [eidx, nI_cl (by omega), tc]
        have ec : lN 8192 * lN (plnD wb f to (bdO lb wb r1 r2 n f to)) + lN (1 : Fin 2).val + lN (8192 * (B to K).1 + (B to K).2.1) = lN (8192 * plnD wb f to (bdO lb wb r1 r2 n f to) + 1 + (8192 * (B to K).1 + (B to K).2.1)) := by
          rw [lN_mul, lN_add, lN_add]; rfl
        rw [ec]
        obtain ⟨bd1, bd2⟩ := DP_bd hd (n - to) to K (by omega)
        have bd3 : (n - to) * 100038001 ≤ 4000 * 100038001 := Nat.mul_le_mul_right _ (by omega)
        have bd4 := plnD_le (wb := wb) (a := f) (b := to) hbd
        generalize hP : plnD wb f to (bdO lb wb r1 r2 n f to) = P at bd4 ⊢
        have cnd : ∀ j, cndO lb wb r1 r2 n B f j to = (P + clsh j K + (B to K).1, (B to K).2.1 + 1) := by
          intro j
          unfold cndO
          rw [hK, hP]
        -- the three KINDS of the line before
        have kinds : ∀ (r j : Nat) (σ1 : St2), j + r = 3 → SrV σ1 L lb wb U r1 r2 → TabC σ1 n B (f + 1) → (∀ q, q < j → AccAt σ1 (3 * f + q) (accU (acc q) (cndO lb wb r1 r2 n B f q to) to)) → (∀ q, j ≤ q → q < 3 → AccAt σ1 (3 * f + q) (acc q)) → Fr [18, 19] σ σ1 →
            Ev lc G mPt_weighLinesFrom 141 [some (.ref 17), some (.ref 12), some (.int (nI f)), some (.int (nI n)), some (.int (nI (rmO r1 r2 f))), some (.int (nI to)), none, none, some (.int (nI K)), some (.long (lN (8192 * P + 1 + (8192 * (B to K).1 + (B to K).2.1)))), none, some (.int (nI j))] [] σ1 Q := by
          intro r
          induction r with
          | zero =>
            intro j σ1 hj s1 s2 s3 s4 s5
            have e3 : j = 3 := by omega
            subst e3
            refine ev_ic_ge okPt_weighLinesFrom rfl rfl trivial (fun g => ?_) (fun g => absurd (Int32.le_refl _) g)
            refine ev_goto okPt_weighLinesFrom rfl rfl trivial ?_
            rw [nI_add]
            refine ev_lv [some (.ref 17), some (.ref 12), some (.int (nI f)), some (.int (nI n)), some (.int (nI (rmO r1 r2 f))), some (.int (nI (to + 1))), none, none, none, none, none, none] ⟨rfl, rfl, rfl, rfl, rfl, rfl, trivial⟩ (ih (to + 1) σ1 (fun q => accU (acc q) (cndO lb wb r1 r2 n B f q to) to) (by omega) (by omega) s1 s2 s3 (fun q hq => ?_) (fun σ' q1 q2 => k σ' q1 (s5.tr q2)))
            have := hscn q hq
            rw [scn, if_pos hleg] at this
            exact this
          | succ r ihr =>
            intro j σ1 hj s1 s2 s3 s4 s5
            refine ev_ic_ge okPt_weighLinesFrom rfl rfl trivial (fun g => absurd g (nI_ge (by omega) (by decide))) (fun g => ?_)
            refine ev_cs okPt_weighLinesFrom okPt_clash rfl rfl trivial rfl (by decide +kernel) rfl rfl (sp_clash (by omega) hk3 ?_)
            have hcl := clsh_le j K
            refine ev_cv okPt_weighLinesFrom okPt_keepIfLess rfl rfl trivial rfl (by decide +kernel) rfl rfl ?_
            rw [nI_l (by omega), lN_mul, lN_add, pk_mul, nI_add]
            have e2 : 8192 * P + 1 + (8192 * (B to K).1 + (B to K).2.1) + 8192 * clsh j K = 8192 * (P + clsh j K + (B to K).1) + ((B to K).2.1 + 1) := by omega
            refine sp_keepIfLess (by omega) ?_
            rw [e2]
            refine ev_goto okPt_weighLinesFrom rfl rfl trivial ?_
            rw [nI_add]
            refine ihr (j + 1) _ (by omega) (s1.fr (kif_fr _ _ _ _)) (s2.kif (by omega)) (fun q hq => ?_) (fun q q1 q2 => ?_) (s5.tr (kif_fr _ _ _ _))
            · by_cases e : q = j
              · subst e
                rw [cnd q]
                exact kif_acc (s4 q (Nat.le_refl _) (by omega)) (by omega) (by omega)
              · exact kif_acc_ne (s3 q (by omega)) (by omega)
            · exact kif_acc_ne (s4 q (by omega) q2) (by omega)
        refine ev_lv [some (.ref 17), some (.ref 12), some (.int (nI f)), some (.int (nI n)), some (.int (nI (rmO r1 r2 f))), some (.int (nI to)), none, none, some (.int (nI K)), some (.long _), none, some (.int (nI 0))] ⟨rfl, rfl, rfl, rfl, rfl, rfl, rfl, rfl, rfl, trivial⟩ (kinds 3 0 σ rfl hs htab (fun q hq => absurd hq (Nat.not_lt_zero q)) (fun q _ hq => hacc q hq) Fr.rf)
      refine ev_ic_ne okPt_weighLinesFrom rfl rfl trivial (fun g => ?_) (fun g => ?_)
      · have e : ¬ to = n := fun q => g (by rw [q])
        rw [decide_eq_false e] at badn
        exact ev_nop okPt_weighLinesFrom rfl rfl trivial badn
      · have e : to = n := (nI_eq (by omega) (by omega)).mp (by simpa using g)
        rw [decide_eq_true e] at badn
        exact ev_goto okPt_weighLinesFrom rfl rfl trivial badn
    refine ev_ic_le okPt_weighLinesFrom rfl rfl trivial (fun g => ?_) (fun g => ?_)
    · exact legal (decide_eq_true (Or.inr ((nI_leI (by omega) (by omega)).mp g)))
    · have g : ¬ lnO lb wb f to ≤ rmO r1 r2 f := fun q => g (nI_le q (by omega))
      refine ev_ic_le okPt_weighLinesFrom rfl rfl trivial (fun g2 => ?_) (fun g2 => ?_)
      · rw [nI_add] at g2
        have g2 : to ≤ f + 1 := (nI_leI (by omega) (by omega)).mp g2
        exact legal (decide_eq_true (Or.inl (by omega)))
      · rw [nI_add] at g2
        have g2 : ¬ to ≤ f + 1 := fun q => g2 (nI_le q (by omega))
        have hno : ¬ legO lb wb r1 r2 f to = true := by
          unfold legO
          rw [decide_eq_true_eq]
          rintro (q | q)
          · omega
          · exact g q
        refine ev_goto okPt_weighLinesFrom rfl rfl trivial (ev_rv okPt_weighLinesFrom rfl rfl trivial rfl (k σ (done σ acc htab hacc (fun q hq => ?_)) Fr.rf))
        have := hscn q hq
        rw [scn, if_neg hno] at this
        exact this
theorem sp_weighLinesFrom {σ : St2} (hd : DP lb wb r1 r2 n B) (hb : PaB L lb wb U) (hr1 : r1 ≤ 80) (hr2 : r2 ≤ 80) (hn : lb.length = n + 1) {f : Nat} (hf : f < n) (hs : SrV σ L lb wb U r1 r2) (htab : TabC σ n B (f + 1)) (k : ∀ σ', TabC σ' n B f → Fr [18, 19] σ σ' → Q none σ') :
    Ev lc G mPt_weighLinesFrom 0 [some (.ref 17), some (.ref 12), some (.int (nI f)), some (.int (nI n)), none, none, none, none, none, none, none, none] [] σ Q := by
  have h4 := hs.1.2.1.2.2.1
  refine ev_cv okPt_weighLinesFrom okPt_roomFrom rfl rfl trivial rfl (by decide +kernel) rfl rfl (sp_roomFrom hs.2.1 hs.2.2 (by omega) ?_)
  refine ev_nop okPt_weighLinesFrom rfl rfl trivial ?_
  have init : ∀ (r j : Nat) (σ1 : St2), j + r = 3 → SrV σ1 L lb wb U r1 r2 → TabC σ1 n B (f + 1) → (∀ q, q < j → AccAt σ1 (3 * f + q) none) → Fr [18, 19] σ σ1 →
      Ev lc G mPt_weighLinesFrom 10 [some (.ref 17), some (.ref 12), some (.int (nI f)), some (.int (nI n)), some (.int (nI (rmO r1 r2 f))), some (.int (nI j)), none, none, none, none, none, none] [] σ1 Q := by
    intro r
    induction r with
    | zero =>
      intro j σ1 hj s1 s2 s3 s4
      have e3 : j = 3 := by omega
      subst e3
      refine ev_ic_ge okPt_weighLinesFrom rfl rfl trivial (fun g => ?_) (fun g => absurd (Int32.le_refl _) g)
      refine ev_nop okPt_weighLinesFrom rfl rfl trivial ?_
      rw [nI_add]
      refine lp_weigh hd hb hr1 hr2 hn hf (n - f) (f + 1) σ1 (fun _ => none) (by omega) (by omega) s1 s2 (fun q hq => s3 q hq) (fun q _ => hd.2 f q hf) (fun σ' q1 q2 => k σ' q1 (s4.tr q2))
    | succ r ihr =>
      intro j σ1 hj s1 s2 s3 s4
      refine ev_ic_ge okPt_weighLinesFrom rfl rfl trivial (fun g => absurd g (nI_ge (by omega) (by decide))) (fun g => ?_)
      have eidx : nI 3 * nI f + nI j = nI (3 * f + j) := by rw [pk_mul, nI_add]
      refine ev_goto okPt_weighLinesFrom rfl rfl ⟨by rw [eidx]; exact vp_nI (by omega) (by decide), trivial⟩ ?_
      rw [eidx, nI_cl (by omega), nI_add]
      have hf1 : Fr [18, 19] σ1 (σ1.1, up2 σ1.2 18 (3 * f + j) (lN 9223372036854775807)) := Fr.u2 (by decide)
      refine ihr (j + 1) _ (by omega) (s1.fr hf1) (fun a ha hn' q hq => ?_) (fun q hq => ?_) (s4.tr hf1)
      · have := s2 a ha hn' q hq
        refine ⟨?_, this.2⟩
        show up2 σ1.2 18 (3 * f + j) _ 18 (3 * a + q) = _
        rw [up2_col _ _ _ (by omega)]
        exact this.1
      · show up2 σ1.2 18 (3 * f + j) (lN 9223372036854775807) 18 (3 * f + q) = _
        by_cases e : q = j
        · subst e
          rw [up2_same]
        · rw [up2_col _ _ _ (by omega)]
          exact s3 q (by omega)
  exact init 3 0 σ rfl hs htab (fun q hq => absurd hq (Nat.not_lt_zero q)) Fr.rf
end WL
end
section
/-! ===== parting: the class's way through its table ===== -/
section WW
variable {lc : Launch} {G : GG} {σ : St2} {Q : Option Value → St2 → Prop} {L lb wb U : List Nat} {r1 r2 n : Nat} {B : Nat → Nat → TE}
theorem min4000 {n : Nat} (h : n ≤ 4000) : (if nI 4000 < nI n then nI 4000 else nI n) = nI n := by
  rw [if_neg (fun q => absurd ((nI_ltI (by decide) (by omega)).mp q) (by omega))]
theorem sp_weighWays (hd : DP lb wb r1 r2 n B) (hb : PaB L lb wb U) (hr1 : r1 ≤ 80) (hr2 : r2 ≤ 80) (hn : lb.length = n + 1) (hp : PaV σ L lb wb U) (k : ∀ σ', TabC σ' n B 0 → SrV σ' L lb wb U r1 r2 → Fr [17, 18, 19] σ σ' → (∀ j, j ≠ 4 → j ≠ 5 → σ'.1 17 j = σ.1 17 j) → σ'.2 17 = σ.2 17 → Q none σ') :
    Ev lc G mPt_weighWays 0 [some (.ref 17), some (.ref 12), some (.int (nI r1)), some (.int (nI r2)), none, none] [] σ Q := by
  have h4 := hp.2.1.2.2.1
  have f0 : Fr [17, 18, 19] σ (up2 (up2 σ.1 17 4 (nI r1), σ.2).1 17 5 (nI r2), (up2 σ.1 17 4 (nI r1), σ.2).2) := Fr.tr (Fr.u1 (by decide)) (Fr.u1 (σ := (_, _)) (by decide))
  have p0 := hp.fr f0 (by decide)
  have s0 : SrV (up2 (up2 σ.1 17 4 (nI r1), σ.2).1 17 5 (nI r2), (up2 σ.1 17 4 (nI r1), σ.2).2) L lb wb U r1 r2 := ⟨p0, by simp [up2], by simp [up2]⟩
  have o0 : ∀ j, j ≠ 4 → j ≠ 5 → (up2 (up2 σ.1 17 4 (nI r1), σ.2).1 17 5 (nI r2), (up2 σ.1 17 4 (nI r1), σ.2).2).1 17 j = σ.1 17 j := by
    intro j h1 h2
    simp [up2, h1, h2]
  have l0 : (up2 (up2 σ.1 17 4 (nI r1), σ.2).1 17 5 (nI r2), (up2 σ.1 17 4 (nI r1), σ.2).2).2 17 = σ.2 17 := rfl
  refine ev_min okPt_weighWays rfl rfl trivial (by decide +kernel) rfl ?_
  generalize (up2 (up2 σ.1 17 4 (nI r1), σ.2).1 17 5 (nI r2), (up2 σ.1 17 4 (nI r1), σ.2).2) = τ at f0 p0 s0 o0 l0 ⊢
  rw [p0.2.1.2.2.2, hn, Nat.add_sub_cancel, min4000 (by omega)]
  -- down from the last place
  have down : ∀ (f : Nat) (σ1 : St2), f ≤ n → SrV σ1 L lb wb U r1 r2 → TabC σ1 n B f → Fr [18, 19] τ σ1 → Ev lc G mPt_weighWays 56 [some (.ref 17), some (.ref 12), none, none, some (.int (nI n)), some (.int (nI f - nI 1))] [] σ1 Q := by
    intro f
    induction f with
    | zero =>
      intro σ1 _ s1 s2 s3
      refine ev_if_lt okPt_weighWays rfl rfl trivial (fun g => ev_rv okPt_weighWays rfl rfl trivial rfl (k σ1 s2 s1 (f0.tr (s3.wk (by decide))) (fun j h1 h2 => ?_) ?_)) (fun g => absurd (by decide) g)
      · rw [s3.a1 (by decide)]; exact o0 j h1 h2
      · rw [s3.a2 (by decide)]; exact l0
    | succ f ih =>
      intro σ1 hf s1 s2 s3
      rw [pk_sub (by omega), Nat.add_sub_cancel]
      refine ev_if_lt okPt_weighWays rfl rfl trivial (fun g => absurd g (nI_neg (by omega))) (fun g => ?_)
      refine ev_cv okPt_weighWays okPt_weighLinesFrom rfl rfl trivial rfl (by decide +kernel) rfl rfl (sp_weighLinesFrom hd hb hr1 hr2 hn (by omega) s1 s2 fun σ2 q1 q2 => ?_)
      refine ev_goto okPt_weighWays rfl rfl trivial ?_
      rw [show nI f + mI 0 = nI f - nI 1 by rw [show mI 0 = -1 from rfl, show nI 1 = 1 from rfl, ← Int32.sub_eq_add_neg]]
      exact ih σ2 (by omega) (s1.fr q2) q1 (s3.tr q2)
  refine ev_nop okPt_weighWays rfl rfl trivial ?_
  have init : ∀ (r j : Nat) (σ1 : St2), j + r = 3 → SrV σ1 L lb wb U r1 r2 → (∀ q, q < j → σ1.2 18 (3 * n + q) = lN 0) → Fr [18, 19] τ σ1 → Ev lc G mPt_weighWays 25 [some (.ref 17), some (.ref 12), none, none, some (.int (nI n)), some (.int (nI j))] [] σ1 Q := by
    intro r
    induction r with
    | zero =>
      intro j σ1 hj s1 s2 s3
      have e3 : j = 3 := by omega
      subst e3
      refine ev_ic_ge okPt_weighWays rfl rfl trivial (fun g => ?_) (fun g => absurd (Int32.le_refl _) g)
      refine ev_nop okPt_weighWays rfl rfl trivial (down n σ1 (Nat.le_refl _) s1 (fun a ha hn' q hq => ?_) s3)
      have e : a = n := by omega
      subst e
      rw [hd.1 q]
      exact ⟨s2 q hq, fun z => absurd z (Nat.lt_irrefl _)⟩
    | succ r ihr =>
      intro j σ1 hj s1 s2 s3
      refine ev_ic_ge okPt_weighWays rfl rfl trivial (fun g => absurd g (nI_ge (by omega) (by decide))) (fun g => ?_)
      have eidx : nI 3 * nI n + nI j = nI (3 * n + j) := by rw [pk_mul, nI_add]
      refine ev_goto okPt_weighWays rfl rfl ⟨by rw [eidx]; exact vp_nI (by omega) (by decide), trivial⟩ ?_
      rw [eidx, nI_cl (by omega), nI_add]
      have hf1 : Fr [18, 19] σ1 (σ1.1, up2 σ1.2 18 (3 * n + j) (lN (0 : Fin 2).val)) := Fr.u2 (by decide)
      refine ihr (j + 1) _ (by omega) (s1.fr hf1) (fun q hq => ?_) (s3.tr hf1)
      show up2 σ1.2 18 (3 * n + j) (lN (0 : Fin 2).val) 18 (3 * n + q) = _
      by_cases e : q = j
      · subst e
        rw [up2_same]; rfl
      · rw [up2_col _ _ _ (by omega)]
        exact s2 q (by omega)
  exact ev_lv [some (.ref 17), some (.ref 12), none, none, some (.int (nI n)), some (.int (nI 0))] ⟨rfl, rfl, rfl, rfl, trivial⟩ (init 3 0 τ rfl s0 (fun q hq => absurd hq (Nat.not_lt_zero q)) Fr.rf)
/-- what is told of a line: LENGTH, SLACK, BADNESS, blanks, hyphen, ROOM -/
def fct (lb wb : List Nat) (r1 r2 n a b : Nat) : List Nat := [lnO lb wb a b, rmO r1 r2 a - lnO lb wb a b, bdO lb wb r1 r2 n a b, bln wb a b, (if hyp wb b then 1 else 0), rmO r1 r2 a]
theorem max0 {a b : Nat} (ha : a < 2 ^ 30) (hb : b < 2 ^ 30) : (if nI 0 < nI a - nI b then nI a - nI b else nI 0) = nI (a - b) := by
  by_cases h : b ≤ a
  · rw [pk_sub h]
    by_cases q : 0 < a - b
    · rw [if_pos (nI_lt q (by omega))]
    · rw [if_neg (fun z => q ((nI_ltI (by decide) (by omega)).mp z)), show a - b = 0 by omega]
  · have hn := pk_sneg (a := a) (b := b) hb (by omega)
    rw [if_neg (show ¬ nI 0 < nI a - nI b from fun z => absurd (Int32.lt_trans hn (show (0 : Int32) < _ from z)) Int32.lt_irrefl), show a - b = 0 by omega]
theorem row6 {σ' : St2} {F : List Nat} (h : RowAt σ' 21 F) {a b c d e f : Nat} (h0 : σ'.1 21 F.length = nI a) (h1 : σ'.1 21 (F.length + 1) = nI b) (h2 : σ'.1 21 (F.length + 2) = nI c) (h3 : σ'.1 21 (F.length + 3) = nI d) (h4 : σ'.1 21 (F.length + 4) = nI e) (h5 : σ'.1 21 (F.length + 5) = nI f) : RowAt σ' 21 (F ++ [a, b, c, d, e, f]) := by
  intro j hj
  rw [List.length_append] at hj
  simp only [List.length_cons, List.length_nil] at hj
  by_cases e1 : j < F.length
  · rw [h j e1]
    simp [List.getElem?_append_left e1]
  · obtain ⟨i, rfl⟩ : ∃ i, j = F.length + i := ⟨j - F.length, by omega⟩
    have hi : i < 6 := by omega
    rw [List.getD_eq_getElem?_getD, List.getElem?_append_right (by omega), Nat.add_sub_cancel_left]
    rcases (show i = 0 ∨ i = 1 ∨ i = 2 ∨ i = 3 ∨ i = 4 ∨ i = 5 by omega) with rfl | rfl | rfl | rfl | rfl | rfl
    · exact h0
    · exact h1
    · exact h2
    · exact h3
    · exact h4
    · exact h5
/-- what the class tells of lines: ends E, facts F -/
def LnV (σ : St2) (E F : List Nat) : Prop := E.length ≤ 4000 ∧ F.length = 6 * E.length ∧ σ.1 17 6 = nI E.length ∧ RowAt σ 20 E ∧ RowAt σ 21 F
theorem sp_recordLine {E F : List Nat} (hb : PaB L lb wb U) (hr1 : r1 ≤ 80) (hr2 : r2 ≤ 80) (hn : lb.length = n + 1) (hs : SrV σ L lb wb U r1 r2) (hl : LnV σ E F) (hE : E.length < 4000) {a b : Nat} (hab : a < b) (hbn : b ≤ n)
    (k : ∀ σ', RowAt σ' 20 (E ++ [b]) → RowAt σ' 21 (F ++ fct lb wb r1 r2 n a b) → Fr [20, 21] σ σ' → Q none σ') :
    Ev lc G mPt_recordLine 0 [some (.ref 17), some (.ref 12), some (.int (nI a)), some (.int (nI b)), some (.int (b2 (decide (b = n)))), none, none, none, none] [] σ Q := by
  have h4 := hs.1.2.1.2.2.1
  obtain ⟨l1, l2, l3, l4, l5⟩ := hl
  have hrm : rmO r1 r2 a ≤ 80 := by unfold rmO; split <;> omega
  have hln : lnO lb wb a b ≤ 8081 := by
    have h1 := hb.2.2.1 b
    have h2 := hb.2.2.2.1 (b - 1)
    have h3 := hs.1.1.1
    have h5 := hs.1.2.2.2.2.1
    unfold lnO ltr bln
    split <;> omega
  have hbl : bln wb a b ≤ 80 := by
    have h2 := hb.2.2.2.1 (b - 1)
    have h5 := hs.1.2.2.2.2.1
    unfold bln
    omega
  refine ev_cv okPt_recordLine okPt_roomFrom rfl rfl trivial rfl (by decide +kernel) rfl rfl (sp_roomFrom hs.2.1 hs.2.2 (by omega) ?_)
  refine ev_cv okPt_recordLine okPa_lengthOf rfl rfl trivial rfl (by decide +kernel) rfl rfl (sp_lengthOf hs.1 hb hab (by omega) ?_)
  refine ev_cv okPt_recordLine okPa_blanksIn rfl rfl trivial rfl (by decide +kernel) rfl rfl (sp_blanksIn hs.1 hb hab (by omega) ?_)
  have e6 : nI 6 * σ.1 17 6 = nI (6 * E.length) := by rw [l3, pk_mul]
  have idx : ∀ d, d < 6 → vp_in (nI (6 * E.length) + nI d) 24000 ∧ (nI (6 * E.length) + nI d).toNatClampNeg = F.length + d := by
    intro d hd'
    rw [nI_add, nI_cl (by omega), l2]
    exact ⟨vp_nI (by omega) (by decide), rfl⟩
  have vE : vp_in (σ.1 17 6) 4000 := by rw [l3]; exact vp_nI hE (by decide)
  have e20 : (up2 σ.1 20 (σ.1 17 6).toNatClampNeg (nI b), σ.2).1 17 6 = σ.1 17 6 := by simp [up2]
  refine ev_max okPt_recordLine rfl rfl ⟨vE, by rw [e6]; exact (idx 0 (by decide)).1, trivial⟩ (by decide +kernel) rfl ?_
  rw [e6, (idx 0 (by decide)).2, max0 (by omega) (by omega), l3, nI_cl (by omega)]
  generalize hS0 : (up2 (up2 σ.1 20 E.length (nI b), σ.2).1 21 (F.length + 0) (nI (lnO lb wb a b)), (up2 σ.1 20 E.length (nI b), σ.2).2) = τ0
  have g0 : Fr [20, 21] σ τ0 := by rw [← hS0]; exact Fr.tr (Fr.u1 (by decide)) (Fr.u1 (σ := (_, _)) (by decide))
  have r20 : RowAt τ0 20 (E ++ [b]) := by
    rw [← hS0]
    refine RowAt.push l4 ?_ (fun j hj => ?_)
    · simp [up2]
    · simp [up2, Nat.ne_of_lt hj]
  have c0 : τ0.1 21 F.length = nI (lnO lb wb a b) := by rw [← hS0]; simp [up2]
  have o0 : ∀ j, j < F.length → τ0.1 21 j = σ.1 21 j := by intro j hj; rw [← hS0]; simp [up2, Nat.ne_of_lt hj]
  refine ev_cs okPt_recordLine okPt_badnessOf rfl rfl ⟨(idx 1 (by decide)).1, trivial⟩ rfl (by decide +kernel) rfl rfl (sp_badnessOf (by omega) hrm hbl ?_)
  show Ev lc G mPt_recordLine 90 _ (psh (some (.int (nI (bdO lb wb r1 r2 n a b)))) _) _ Q
  rw [(idx 1 (by decide)).2]
  refine ev_cv okPt_recordLine okPa_isHyphen rfl rfl ⟨(idx 2 (by decide)).1, (idx 3 (by decide)).1, trivial⟩ rfl (by decide +kernel) rfl rfl ?_
  rw [(idx 2 (by decide)).2, (idx 3 (by decide)).2]
  generalize hS1 : (up2 (up2 (up2 τ0.1 21 (F.length + 1) (nI (rmO r1 r2 a - lnO lb wb a b)), τ0.2).1 21 (F.length + 2) (nI (bdO lb wb r1 r2 n a b)), (up2 τ0.1 21 (F.length + 1) (nI (rmO r1 r2 a - lnO lb wb a b)), τ0.2).2).1 21 (F.length + 3) (nI (bln wb a b)), (up2 (up2 τ0.1 21 (F.length + 1) (nI (rmO r1 r2 a - lnO lb wb a b)), τ0.2).1 21 (F.length + 2) (nI (bdO lb wb r1 r2 n a b)), (up2 τ0.1 21 (F.length + 1) (nI (rmO r1 r2 a - lnO lb wb a b)), τ0.2).2).2) = τ1
  have g1 : Fr [20, 21] τ0 τ1 := by rw [← hS1]; exact Fr.tr (Fr.tr (Fr.u1 (by decide)) (Fr.u1 (σ := (_, _)) (by decide))) (Fr.u1 (σ := (_, _)) (by decide))
  have p1 := hs.1.fr (g0.tr g1) (by decide)
  refine sp_isHyphen p1 hb (by omega) ?_
  have fin : ∀ v : Nat, v = (if hyp wb b then 1 else 0) → Ev lc G mPt_recordLine 123 [some (.ref 17), some (.ref 12), some (.int (nI a)), some (.int (nI b)), some (.int (b2 (decide (b = n)))), some (.int (nI (rmO r1 r2 a))), some (.int (nI (lnO lb wb a b))), some (.int (nI (bln wb a b))), some (.int (nI (6 * E.length)))] [.int (nI v), .int (nI (6 * E.length) + nI 4), .ref 21] τ1 Q := by
    intro v hv
    refine ev_rv okPt_recordLine rfl rfl ⟨(idx 4 (by decide)).1, (idx 5 (by decide)).1, trivial⟩ rfl ?_
    rw [(idx 4 (by decide)).2, (idx 5 (by decide)).2]
    refine k _ ?_ ?_ ?_
    · have g2 : Fr [21] τ0 (up2 (up2 τ1.1 21 (F.length + 4) (nI v), τ1.2).1 21 (F.length + 5) (nI (rmO r1 r2 a)), (up2 τ1.1 21 (F.length + 4) (nI v), τ1.2).2) := by
        rw [← hS1]
        exact Fr.tr (Fr.tr (Fr.tr (Fr.tr (Fr.u1 (by decide)) (Fr.u1 (σ := (_, _)) (by decide))) (Fr.u1 (σ := (_, _)) (by decide))) (Fr.u1 (σ := (_, _)) (by decide))) (Fr.u1 (σ := (_, _)) (by decide))
      exact r20.fr g2 (by decide)
    · unfold fct
      rw [← hv, ← hS1]
      refine row6 (fun j hj => ?_) ?_ ?_ ?_ ?_ ?_ ?_
      · have n1 : j ≠ F.length + 1 := by omega
        have n2 : j ≠ F.length + 2 := by omega
        have n3 : j ≠ F.length + 3 := by omega
        have n4 : j ≠ F.length + 4 := by omega
        have n5 : j ≠ F.length + 5 := by omega
        rw [← l5 j hj, ← o0 j hj]
        simp [up2, n1, n2, n3, n4, n5]
      · simp [up2, c0]
      · simp [up2]
      · simp [up2]
      · simp [up2]
      · simp [up2]
      · simp [up2]
    · exact (g0.tr g1).tr (Fr.tr (Fr.u1 (by decide)) (Fr.u1 (σ := (_, _)) (by decide)))
  refine ev_if_eq okPt_recordLine rfl rfl trivial (fun q => ?_) (fun q => ?_)
  · have e : hyp wb b = false := by
      cases z : hyp wb b with
      | false => rfl
      | true => rw [z] at q; exact absurd q (by decide)
    exact ev_nop okPt_recordLine rfl rfl trivial (fin 0 (by rw [e]; rfl))
  · have e : hyp wb b = true := by
      cases z : hyp wb b with
      | true => rfl
      | false => rw [z] at q; exact absurd rfl q
    exact ev_goto okPt_recordLine rfl rfl trivial (fin 1 (by rw [e]; rfl))
/-- the way through the table: each line's beginning and end -/
def wy (lb wb : List Nat) (r1 r2 n : Nat) (B : Nat → Nat → TE) : Nat → Nat → Nat → List (Nat × Nat)
  | 0, _, _ => []
  | m + 1, a, k => if a < n then (a, (B a k).2.2) :: wy lb wb r1 r2 n B m (B a k).2.2 (kO lb wb r1 r2 n a (B a k).2.2) else []
theorem lp_take (hd : DP lb wb r1 r2 n B) (hb : PaB L lb wb U) (hr1 : r1 ≤ 80) (hr2 : r2 ≤ 80) (hn : lb.length = n + 1) (l2 : Option Value) : ∀ (m a kd : Nat) (σ : St2) (E F : List Nat), n ≤ a + m → a ≤ n → kd < 3 → E.length ≤ a → SrV σ L lb wb U r1 r2 → TabC σ n B 0 → LnV σ E F →
    (∀ σ', LnV σ' (E ++ (wy lb wb r1 r2 n B m a kd).map (fun q => q.2)) (F ++ (wy lb wb r1 r2 n B m a kd).flatMap (fun q => fct lb wb r1 r2 n q.1 q.2)) → Fr [17, 20, 21] σ σ' → (∀ j, j ≠ 6 → σ'.1 17 j = σ.1 17 j) → σ'.2 17 = σ.2 17 → Q none σ') →
    Ev lc G mPt_takeBestWay 35 [some (.ref 17), some (.ref 12), some (.int (nI n)), some (.int (nI a)), some (.int (nI kd)), none] [] σ Q := by
  intro m
  induction m with
  | zero =>
    intro a kd σ E F hm ha hkd hE hs ht hl k
    have h4 := hs.1.2.1.2.2.1
    simp only [wy, List.map_nil, List.flatMap_nil, List.append_nil] at k
    refine ev_if_lt okPt_takeBestWay rfl rfl trivial (fun g => absurd g (nI_neg (by omega))) (fun g => ?_)
    exact ev_ic_ge okPt_takeBestWay rfl rfl trivial (fun g => ev_rv okPt_takeBestWay rfl rfl trivial rfl (k σ hl Fr.rf (fun _ _ => rfl) rfl)) (fun g => absurd (nI_le (by omega) (by omega)) g)
  | succ m ih =>
    intro a kd σ E F hm ha hkd hE hs ht hl k
    have h4 := hs.1.2.1.2.2.1
    rw [wy] at k
    refine ev_if_lt okPt_takeBestWay rfl rfl trivial (fun g => absurd g (nI_neg (by omega))) (fun g => ?_)
    by_cases hlt : a < n
    · simp only [if_pos hlt] at k
      obtain ⟨d1, d2⟩ := DP_end hd (k := kd) hlt
      have tc := (ht a (by omega) (by omega) kd hkd).2 hlt
      generalize hbb : (B a kd).2.2 = b at *
      refine ev_ic_ge okPt_takeBestWay rfl rfl trivial (fun g => absurd g (nI_ge hlt (by omega))) (fun g => ?_)
      refine ev_ic_ge okPt_takeBestWay rfl rfl trivial (fun g => absurd g (by rw [hl.2.2.1]; exact nI_ge (by omega) (by decide))) (fun g => ?_)
      have eidx : nI 3 * nI a + nI kd = nI (3 * a + kd) := by rw [pk_mul, nI_add]
      have vp : vp_in (nI 3 * nI a + nI kd) 12003 := by rw [eidx]; exact vp_nI (by omega) (by decide)
      have ev : σ.1 19 (nI 3 * nI a + nI kd).toNatClampNeg = nI b := by rw [eidx, nI_cl (by omega)]; exact tc
      have rcd : Ev lc G mPt_takeBestWay 83 [some (.ref 17), some (.ref 12), some (.int (nI n)), some (.int (nI a)), some (.int (nI kd)), some (.int (nI b))] [.int (b2 (decide (b = n))), .int (nI b), .int (nI a), .ref 12, .ref 17] σ Q := by
        refine ev_cv okPt_takeBestWay okPt_recordLine rfl rfl trivial rfl (by decide +kernel) rfl rfl (sp_recordLine hb hr1 hr2 hn hs hl (by omega) d1 d2 fun σ1 q1 q2 q3 => ?_)
        have c6 : σ1.1 17 6 = nI E.length := by rw [q3.a1 (by decide)]; exact hl.2.2.1
        have hF := hl.2.1
        have e6 : nI 6 * σ1.1 17 6 + nI 2 = nI (F.length + 2) := by rw [c6, pk_mul, nI_add, hF]
        have vf : σ1.1 21 (F.length + 2) = nI (bdO lb wb r1 r2 n a b) := by
          have := q2 (F.length + 2) (by simp [fct])
          rw [this]
          simp [fct, List.getElem?_append_right]
        have hE4 := hl.1
        refine ev_cs okPt_takeBestWay okPt_kindOf rfl rfl ⟨by rw [e6]; exact vp_nI (by omega) (by decide), trivial⟩ rfl (by decide +kernel) rfl rfl ?_
        rw [e6, nI_cl (by omega), vf]
        have hbd : bdO lb wb r1 r2 n a b ≤ 10000 := bdO_le a b
        refine sp_kindOf (by omega) ?_
        refine ev_goto okPt_takeBestWay rfl rfl trivial ?_
        rw [c6, nI_add]
        have hf1 : Fr [17, 20, 21] σ1 (up2 σ1.1 17 6 (nI (E.length + 1)), σ1.2) := Fr.u1 (by decide)
        have hf2 : Fr [17] σ1 (up2 σ1.1 17 6 (nI (E.length + 1)), σ1.2) := Fr.u1 (by decide)
        have q3' : Fr [17, 20, 21] σ σ1 := q3.wk (by decide)
        have hf3 := q3'.tr hf1
        refine ev_lv [some (.ref 17), some (.ref 12), some (.int (nI n)), some (.int (nI b)), some (.int (nI (kO lb wb r1 r2 n a b))), none] ⟨rfl, rfl, rfl, rfl, rfl, trivial⟩ (ih b (kO lb wb r1 r2 n a b) _ (E ++ [b]) (F ++ fct lb wb r1 r2 n a b) (by omega) d2 (kO_lt a b) (by simp; omega) ?_ ?_ ?_ (fun σ' r1' r2' r3' r4' => k σ' ?_ (hf3.tr r2') (fun j hj => ?_) ?_))
        · exact ⟨hs.1.fr hf3 (by decide), by
            dsimp only
            rw [up2_col _ _ _ (by decide), q3.a1 (by decide)]; exact hs.2.1, by
            dsimp only
            rw [up2_col _ _ _ (by decide), q3.a1 (by decide)]; exact hs.2.2⟩
        · intro a' h1 h2 k' h3
          rw [hf3.a2 (by decide), hf3.a1 (by decide)]
          exact ht a' h1 h2 k' h3
        · refine ⟨by simp; omega, by simp [fct, hF]; omega, ?_, q1.fr hf2 (by decide), q2.fr hf2 (by decide)⟩
          dsimp only
          rw [up2_same]
          simp
        · simp only [List.map_cons, List.flatMap_cons] at *
          rw [List.append_assoc, List.append_assoc] at r1'
          exact r1'
        · rw [r3' j hj]
          dsimp only
          rw [up2_col _ _ _ hj, q3.a1 (by decide)]
        · rw [r4']
          show σ1.2 17 = _
          rw [q3.a2 (by decide)]
      refine ev_ic_ne okPt_takeBestWay rfl rfl ⟨vp, trivial⟩ (fun g => ?_) (fun g => ?_)
      · rw [ev] at g
        have e : ¬ b = n := fun q => g (by rw [q])
        rw [decide_eq_false e] at rcd
        refine ev_nop okPt_takeBestWay rfl rfl trivial ?_
        rw [ev]
        exact rcd
      · rw [ev] at g
        have e : b = n := (nI_eq (by omega) (by omega)).mp (by simpa using g)
        rw [decide_eq_true e] at rcd
        refine ev_goto okPt_takeBestWay rfl rfl trivial ?_
        rw [ev]
        exact rcd
    · simp only [if_neg hlt, List.map_nil, List.flatMap_nil, List.append_nil] at k
      exact ev_ic_ge okPt_takeBestWay rfl rfl trivial (fun g => ev_rv okPt_takeBestWay rfl rfl trivial rfl (k σ hl Fr.rf (fun _ _ => rfl) rfl)) (fun g => absurd (nI_le (by omega) (by omega)) g)
theorem sp_takeBestWay (hd : DP lb wb r1 r2 n B) (hb : PaB L lb wb U) (hr1 : r1 ≤ 80) (hr2 : r2 ≤ 80) (hn : lb.length = n + 1) (hs : SrV σ L lb wb U r1 r2) (ht : TabC σ n B 0)
    (k : ∀ σ', LnV σ' ((wy lb wb r1 r2 n B n 0 1).map (fun q => q.2)) ((wy lb wb r1 r2 n B n 0 1).flatMap (fun q => fct lb wb r1 r2 n q.1 q.2)) → σ'.2 17 7 = lN (B 0 1).1 → Fr [17, 20, 21] σ σ' → Q none σ') :
    Ev lc G mPt_takeBestWay 0 [some (.ref 17), some (.ref 12), none, none, none, none] [] σ Q := by
  have h4 := hs.1.2.1.2.2.1
  refine ev_min okPt_takeBestWay rfl rfl trivial (by decide +kernel) rfl ?_
  rw [hs.1.2.1.2.2.2, hn, Nat.add_sub_cancel, min4000 (by omega)]
  have t0 := (ht 0 (by omega) (by omega) 1 (by decide)).1
  obtain ⟨b1, b2⟩ := DP_bd hd n 0 1 (by omega)
  have b3 : n * 100038001 ≤ 4000 * 100038001 := Nat.mul_le_mul_right _ (by omega)
  have e0 : (up2 σ.1 17 6 (nI 0), σ.2).2 18 (nI 1).toNatClampNeg = lN (8192 * (B 0 1).1 + (B 0 1).2.1) := t0
  refine ev_nop okPt_takeBestWay rfl rfl ⟨vp_nI (by decide) (by decide), by decide, trivial⟩ ?_
  rw [e0, pk_lDiv (by omega) (by decide) (by decide)]
  have e1 : (8192 * (B 0 1).1 + (B 0 1).2.1) / 8192 = (B 0 1).1 := by omega
  rw [e1]
  have f0 : Fr [17, 20, 21] σ ((up2 σ.1 17 6 (nI 0), σ.2).1, up2 (up2 σ.1 17 6 (nI 0), σ.2).2 17 7 (lN (B 0 1).1)) := Fr.tr (Fr.u1 (by decide)) (Fr.u2 (σ := (_, _)) (by decide))
  refine lp_take hd hb hr1 hr2 hn none n 0 1 _ [] [] (by omega) (by omega) (by decide) (by decide) ⟨hs.1.fr f0 (by decide), ?_, ?_⟩ (fun a h1 h2 q h3 => ?_) ⟨by decide, rfl, ?_, RowAt.nil, RowAt.nil⟩ (fun σ' q1 q2 q3 q4 => k σ' ?_ ?_ (f0.tr q2))
  · dsimp only
    rw [up2_col _ _ _ (by decide)]; exact hs.2.1
  · dsimp only
    rw [up2_col _ _ _ (by decide)]; exact hs.2.2
  · rw [f0.a2 (by decide), f0.a1 (by decide)]
    exact ht a h1 h2 q h3
  · dsimp only
    rw [up2_same]; rfl
  · simpa using q1
  · rw [q4]
    dsimp only
    rw [up2_same]
theorem sp_endOf {E F : List Nat} (hl : LnV σ E F) {i : Nat} (hi : i < E.length) (k : Q (some (.int (nI (E.getD i 0)))) σ) : Ev lc G mPt_endOf 0 [some (.ref 17), some (.int (nI i))] [] σ Q := by
  have h1 := hl.1
  refine ev_if_lt okPt_endOf rfl rfl trivial (fun g => absurd g (nI_neg (by omega))) (fun g => ?_)
  refine ev_ic_ge okPt_endOf rfl rfl trivial (fun g => absurd g (by rw [hl.2.2.1]; exact nI_ge hi (by omega))) (fun g => ?_)
  refine ev_goto okPt_endOf rfl rfl ⟨vp_nI (by omega) (by decide), trivial⟩ (ev_ri okPt_endOf rfl rfl trivial rfl ?_)
  rw [nI_cl (by omega), hl.2.2.2.1 i hi]
  exact k
/-- what line(i, what) answers -/
def lnQ (E F : List Nat) (i w : Int32) : Int32 := if i < 0 then mI 0 else if i < nI E.length then (if w < 0 then mI 1 else if nI 6 ≤ w then mI 1 else nI (F.getD (6 * i.toNatClampNeg + w.toNatClampNeg) 0)) else mI 0
theorem sp_fact {E F : List Nat} (hl : LnV σ E F) {i w : Int32} (k : Q (some (.int (lnQ E F i w))) σ) : Ev lc G mPt_fact 0 [some (.ref 17), some (.int i), some (.int w)] [] σ Q := by
  have h1 := hl.1
  have h2 := hl.2.1
  unfold lnQ at k
  refine ev_if_lt okPt_fact rfl rfl trivial (fun g => ?_) (fun g => ?_)
  · rw [if_pos g] at k
    exact ev_ri okPt_fact rfl rfl trivial rfl k
  · rw [if_neg g] at k
    refine ev_ic_lt okPt_fact rfl rfl trivial (fun g2 => ?_) (fun g2 => ?_)
    · rw [hl.2.2.1] at g2
      rw [if_pos g2] at k
      refine ev_if_lt okPt_fact rfl rfl trivial (fun g3 => ?_) (fun g3 => ?_)
      · rw [if_pos g3] at k
        exact ev_nop okPt_fact rfl rfl trivial (ev_ri okPt_fact rfl rfl trivial rfl k)
      · rw [if_neg g3] at k
        refine ev_ic_ge okPt_fact rfl rfl trivial (fun g4 => ?_) (fun g4 => ?_)
        · rw [if_pos g4] at k
          exact ev_nop okPt_fact rfl rfl trivial (ev_ri okPt_fact rfl rfl trivial rfl k)
        · rw [if_neg g4] at k
          obtain ⟨i', hi', rfl⟩ := nI_of g
          obtain ⟨w', hw', rfl⟩ := nI_of g3
          have hi2 : i' < E.length := (nI_ltI hi' (by omega)).mp g2
          have hw2 : w' < 6 := (Nat.lt_or_ge w' 6).resolve_right (fun q => g4 (nI_le q hw'))
          rw [nI_cl hi', nI_cl hw'] at k
          have e : nI 6 * nI i' + nI w' = nI (6 * i' + w') := by rw [pk_mul, nI_add]
          refine ev_goto okPt_fact rfl rfl ⟨by rw [e]; exact vp_nI (by omega) (by decide), trivial⟩ (ev_ri okPt_fact rfl rfl trivial rfl ?_)
          rw [e, nI_cl (by omega), hl.2.2.2.2 _ (by omega)]
          exact k
    · rw [hl.2.2.1] at g2
      rw [if_neg g2] at k
      exact ev_ri okPt_fact rfl rfl trivial rfl k
end WW
end
section
/-! ===== a BREAK (the class's) ===== -/
/-- lines that follow one another from a to n -/
def Chn (n : Nat) : Nat → List (Nat × Nat) → Prop
  | a, [] => a = n
  | a, q :: r => q.1 = a ∧ a < q.2 ∧ q.2 ≤ n ∧ Chn n q.2 r
theorem Chn_last {n b : Nat} {r : List (Nat × Nat)} (h : Chn n b r) : b < n ↔ r ≠ [] := by
  cases r with
  | nil =>
    have h : b = n := h
    exact ⟨fun q => by omega, fun q => absurd rfl q⟩
  | cons q r =>
    obtain ⟨h1, h2, h3, -⟩ := h
    exact ⟨fun _ => by simp, fun _ => by omega⟩
theorem wy_chn {lb wb : List Nat} {r1 r2 n : Nat} {B : Nat → Nat → TE} (hd : DP lb wb r1 r2 n B) : ∀ (m a k : Nat), n ≤ a + m → a ≤ n → Chn n a (wy lb wb r1 r2 n B m a k)
  | 0, a, k, h, ha => by
    rw [wy]
    show a = n
    omega
  | m + 1, a, k, h, ha => by
    rw [wy]
    by_cases q : a < n
    · rw [if_pos q]
      obtain ⟨h1, h2⟩ := DP_end hd (k := k) q
      exact ⟨rfl, h1, h2, wy_chn hd m _ _ (by omega) h2⟩
    · rw [if_neg q]
      show a = n
      omega
theorem Chn_len {n : Nat} : ∀ {a : Nat} {r : List (Nat × Nat)}, Chn n a r → r.length + a ≤ n
  | a, [], h => by
    have h : a = n := h
    simp; omega
  | a, q :: r, h => by
    have := Chn_len h.2.2.2
    simp
    have := h.2.1
    omega
/-- what is PUT for the line from a to b; jf: JUSTIFY -/
def lnE (L lb wb U : List Nat) (r1 r2 n : Nat) (jf : Bool) (a b : Nat) : List Nat :=
  wrt (pce L lb wb U) wb a (bln wb a b) (if jf = true ∧ b < n then rmO r1 r2 a - lnO lb wb a b else 0) (b - a) a 0 ++ (if hyp wb b then [45] else [])
def brkL (hd ft : List Nat) (le : Nat → Nat → List Nat) : List (Nat × Nat) → PS → PS
  | [], s => s
  | q :: r, s => brkL hd ft le r (pClose ft ((pOpen hd false s).1, emit (pOpen hd false s).2 (le q.1 q.2)))
theorem pOpen_keep (hd : List Nat) (e : Bool) (s : PS) {j : Nat} (h : j ≠ 9 ∧ j ≠ 10 ∧ j ≠ 11) : (pOpen hd e s).1 j = s.1 j := by
  unfold pOpen pOpen0
  split
  · simp [pHead, upd, h.1, h.2.1, h.2.2]
  · rfl
theorem pClose_keep (ft : List Nat) (s : PS) {j : Nat} (h : j ≠ 9 ∧ j ≠ 2 ∧ j ≠ 12) : (pClose ft s).1 j = s.1 j := by
  simp [pClose, pDown, upd, h.1, h.2.1, h.2.2]
theorem brkL_keep (hd ft : List Nat) (le : Nat → Nat → List Nat) {j : Nat} (h : j ≠ 9 ∧ j ≠ 10 ∧ j ≠ 11 ∧ j ≠ 2 ∧ j ≠ 12) : ∀ (r : List (Nat × Nat)) (s : PS), (brkL hd ft le r s).1 j = s.1 j
  | [], s => rfl
  | q :: r, s => by
    rw [brkL, brkL_keep hd ft le h r, pClose_keep _ _ ⟨h.1, h.2.2.2.1, h.2.2.2.2⟩]
    exact pOpen_keep hd false s ⟨h.1, h.2.1, h.2.2.1⟩
theorem brkL_PB {hd ft : List Nat} {le : Nat → Nat → List Nat} : ∀ (r : List (Nat × Nat)) (s : PS) (b : Nat), PB b s.1 → PB (b + r.length) (brkL hd ft le r s).1
  | [], s, b, h => h
  | q :: r, s, b, h => by
    rw [brkL]
    have := brkL_PB (hd := hd) (ft := ft) (le := le) r _ (b + 1) (pClose_PB (ft := ft) (s := ((pOpen hd false s).1, emit (pOpen hd false s).2 (le q.1 q.2))) (pOpen_PB (hd := hd) (e := false) h))
    rw [List.length_cons, show b + (r.length + 1) = b + 1 + r.length by omega]
    exact this
theorem fct_at {lb wb : List Nat} {r1 r2 n : Nat} (q : Nat × Nat) (r : List (Nat × Nat)) : ∀ pre : List (Nat × Nat), ((pre ++ q :: r).flatMap (fun z => fct lb wb r1 r2 n z.1 z.2)).getD (6 * pre.length + 1) 0 = rmO r1 r2 q.1 - lnO lb wb q.1 q.2
  | [] => by simp [fct]
  | z :: pre => by
    have ih := fct_at (lb := lb) (wb := wb) (r1 := r1) (r2 := r2) (n := n) q r pre
    rw [List.cons_append, List.flatMap_cons, List.getD_eq_getElem?_getD, List.getElem?_append_right (by simp [fct]; omega)]
    rw [← ih, List.getD_eq_getElem?_getD]
    have e : 6 * (z :: pre).length + 1 - (fct lb wb r1 r2 n z.1 z.2).length = 6 * pre.length + 1 := by simp [fct]; omega
    rw [e]
section BR
variable {lc : Launch} {G : GG} {σ : St2} {Q : Option Value → St2 → Prop} {L lb wb U hd ft : List Nat} {r1 r2 n : Nat} {jf : Bool}
theorem lp_lines (hb : PaB L lb wb U) (hr1 : r1 ≤ 80) (hr2 : r2 ≤ 80) (hn : lb.length = n + 1) (hhd : ∀ b ∈ hd, b < 128) (hft : ∀ b ∈ ft, b < 128) (W : List (Nat × Nat)) : ∀ (rest pre : List (Nat × Nat)) (a : Nat) (σ : St2) (s : PS) (pb : Nat), W = pre ++ rest → Chn n a rest → PgV σ s.1 hd ft s.2 → PaV σ L lb wb U → LnV σ (W.map (fun q => q.2)) (W.flatMap (fun q => fct lb wb r1 r2 n q.1 q.2)) → s.1 8 = b2 jf → PB pb s.1 → pb + rest.length < 2 ^ 30 →
    (∀ σ', PgV σ' (brkL hd ft (lnE L lb wb U r1 r2 n jf) rest s).1 hd ft (brkL hd ft (lnE L lb wb U r1 r2 n jf) rest s).2 → Fr [4, 5, 6, 7] σ σ' → Ev lc G mPf_breakParagraph 172 [some (.ref 0), none, none, none, none] [] σ' Q) →
    Ev lc G mPf_breakParagraph 67 [some (.ref 0), some (.int (nI a)), some (.int (nI pre.length)), none, none] [] σ Q := by
  intro rest
  induction rest with
  | nil =>
    intro pre a σ s pb hW hc hp hpa hl hj hpb hlt k
    have e : W.length = pre.length := by rw [hW]; simp
    have h4 := hl.1
    rw [List.length_map] at h4
    refine ev_ic_ge okPf_breakParagraph rfl rfl trivial (fun g => ?_) (fun g => absurd ?_ g)
    · exact ev_lv [some (.ref 0), none, none, none, none] ⟨rfl, trivial⟩ (k σ hp Fr.rf)
    · rw [hl.2.2.1, List.length_map, e]
      exact Int32.le_refl _
  | cons q rest ih =>
    intro pre a σ s pb hW hc hp hpa hl hj hpb hlt k
    obtain ⟨x, y⟩ := q
    obtain ⟨c1, c2, c3, c4⟩ := hc
    simp only at c1 c2 c3 c4
    subst c1
    have hWl : W.length = pre.length + (rest.length + 1) := by rw [hW]; simp
    have h4 := hl.1
    rw [List.length_map] at h4
    have h41 := hpa.2.1.2.2.1
    have hrm : rmO r1 r2 x ≤ 80 := by unfold rmO; split <;> omega
    have hend : (W.map (fun q => q.2)).getD pre.length 0 = y := by rw [hW]; simp [List.getElem?_append_right]
    have hsl : (W.flatMap (fun q => fct lb wb r1 r2 n q.1 q.2)).getD (6 * pre.length + 1) 0 = rmO r1 r2 x - lnO lb wb x y := by rw [hW]; exact fct_at (x, y) rest pre
    have hlast : y < n ↔ pre.length < W.length - 1 := by
      rw [Chn_last c4]
      constructor
      · intro h
        have : 0 < rest.length := List.length_pos_iff.mpr h
        omega
      · intro h e
        rw [e] at hWl
        simp at hWl
        omega
    rw [brkL] at k
    -- the line, made full or not
    have line : ∀ (fu : Bool), (fu = true ↔ (jf = true ∧ y < n)) → Ev lc G mPf_breakParagraph 106 [some (.ref 0), some (.int (nI x)), some (.int (nI pre.length)), none, none] [.int (b2 fu)] σ Q := by
      intro fu hfu
      refine ev_cv okPf_breakParagraph okPt_endOf rfl rfl trivial rfl (by decide +kernel) rfl rfl (sp_endOf hl (i := pre.length) (by rw [List.length_map]; omega) ?_)
      rw [hend]
      refine ev_cv okPf_breakParagraph okPg_openLine rfl rfl trivial rfl (by decide +kernel) rfl rfl (sp_openLine (e := false) hp hhd (B := pb) (by omega) hpb fun σ1 q1 q2 => ?_)
      have hpa1 := hpa.fr q2 (by decide)
      have hl1 : LnV σ1 (W.map (fun q => q.2)) (W.flatMap (fun q => fct lb wb r1 r2 n q.1 q.2)) := ⟨hl.1, hl.2.1, by rw [q2.a1 (by decide)]; exact hl.2.2.1, hl.2.2.2.1.fr q2 (by decide), hl.2.2.2.2.fr q2 (by decide)⟩
      have wr : Ev lc G mPf_breakParagraph 153 [some (.ref 0), some (.int (nI x)), some (.int (nI pre.length)), some (.int (b2 fu)), some (.int (nI y))] [.int (nI (if jf = true ∧ y < n then rmO r1 r2 x - lnO lb wb x y else 0)), .int (nI y), .int (nI x), .ref 5, .ref 12] σ1 Q := by
        refine ev_cv okPf_breakParagraph okPa_write rfl rfl trivial rfl (by decide +kernel) rfl rfl (sp_write (by split <;> omega) c2 (by omega) hpa1 hb q1.2.2.2.2 fun σ2 r1' r2' => ?_)
        have p2 := q1.out r2' r1'
        refine ev_cv okPf_breakParagraph okPg_closeLine rfl rfl trivial rfl (by decide +kernel) rfl rfl (sp_closeLine p2 hft (B := pb + 1) (by simp at hlt; omega) (pOpen_PB hpb) fun σ3 s1 s2 => ?_)
        have f3 : Fr [4, 5, 6, 7] σ σ3 := ((q2.wk (by decide)).tr (r2'.wk (by decide))).tr s2
        have hpa3 := hpa.fr f3 (by decide)
        have hl3 : LnV σ3 (W.map (fun q => q.2)) (W.flatMap (fun q => fct lb wb r1 r2 n q.1 q.2)) := ⟨hl.1, hl.2.1, by rw [f3.a1 (by decide)]; exact hl.2.2.1, hl.2.2.2.1.fr f3 (by decide), hl.2.2.2.2.fr f3 (by decide)⟩
        refine ev_goto okPf_breakParagraph rfl rfl trivial ?_
        rw [nI_add]
        have hpl : (pre ++ [(x, y)]).length = pre.length + 1 := by simp
        rw [← hpl]
        refine ev_lv [some (.ref 0), some (.int (nI y)), some (.int (nI (pre ++ [(x, y)]).length)), none, none] ⟨rfl, rfl, rfl, trivial⟩ (ih (pre ++ [(x, y)]) y σ3 _ (pb + 1) (by rw [hW]; simp) c4 s1 hpa3 hl3 ?_ (pClose_PB (pOpen_PB (e := false) hpb)) (by simp at hlt; omega) (fun σ' t1 t2 => k σ' t1 (f3.tr t2)))
        rw [pClose_keep _ _ (by decide)]
        show (pOpen hd false s).1 8 = _
        rw [pOpen_keep _ _ _ (by decide)]
        exact hj
      refine ev_if_eq okPf_breakParagraph rfl rfl trivial (fun g => ?_) (fun g => ?_)
      · have e : fu = false := by
          cases fu with
          | false => rfl
          | true => exact absurd g (by decide)
        rw [if_neg (fun z => by have := hfu.mpr z; rw [e] at this; cases this)] at wr
        exact ev_nop okPf_breakParagraph rfl rfl trivial wr
      · have e : fu = true := by
          cases fu with
          | true => rfl
          | false => exact absurd rfl g
        rw [if_pos (hfu.mp e)] at wr
        refine ev_cv okPf_breakParagraph okPt_fact rfl rfl trivial rfl (by decide +kernel) rfl rfl (sp_fact hl1 ?_)
        have eq : lnQ (W.map (fun q => q.2)) (W.flatMap (fun q => fct lb wb r1 r2 n q.1 q.2)) (nI pre.length) (nI 1) = nI (rmO r1 r2 x - lnO lb wb x y) := by
          unfold lnQ
          rw [if_neg (nI_neg (by omega)), if_pos (nI_lt (by rw [List.length_map]; omega) (by rw [List.length_map]; omega)), if_neg (by decide), if_neg (by decide), nI_cl (by omega), nI_cl (by decide), hsl]
        rw [eq]
        exact ev_goto okPf_breakParagraph rfl rfl trivial wr
    refine ev_ic_ge okPf_breakParagraph rfl rfl trivial (fun g => absurd g (by rw [hl.2.2.1, List.length_map]; exact nI_ge (by omega) (by omega))) (fun g => ?_)
    have ej : σ.1 4 8 = b2 jf := (hp.1 8 (by decide)).trans hj
    refine ev_if_eq okPf_breakParagraph rfl rfl trivial (fun g => ?_) (fun g => ?_)
    · rw [ej] at g
      have e : jf = false := by
        cases jf with
        | false => rfl
        | true => exact absurd g (by decide)
      exact ev_nop okPf_breakParagraph rfl rfl trivial (line false (by rw [e]; simp))
    · rw [ej] at g
      have e : jf = true := by
        cases jf with
        | true => rfl
        | false => exact absurd rfl g
      refine ev_ic_ge okPf_breakParagraph rfl rfl trivial (fun g2 => ?_) (fun g2 => ?_)
      · rw [hl.2.2.1, List.length_map, pk_sub (by omega)] at g2
        have g2 : W.length - 1 ≤ pre.length := (nI_leI (by omega) (by omega)).mp g2
        refine ev_nop okPf_breakParagraph rfl rfl trivial (line false ?_)
        constructor
        · intro z; cases z
        · rintro ⟨-, z⟩
          have := hlast.mp z
          omega
      · rw [hl.2.2.1, List.length_map, pk_sub (by omega)] at g2
        have g2 : pre.length < W.length - 1 := (Nat.lt_or_ge pre.length (W.length - 1)).resolve_right (fun z => g2 (nI_le z (by omega)))
        refine ev_goto okPf_breakParagraph rfl rfl trivial (line true ?_)
        exact ⟨fun _ => ⟨e, hlast.mpr g2⟩, fun _ => rfl⟩
theorem sp_break0 {N : NN} {o : List Nat} (hp : PgV σ N hd ft o) (hpa : PaV σ L lb wb []) (k : Q none σ) : Ev lc G mPf_breakParagraph 0 [some (.ref 0), none, none, none, none] [] σ Q := by
  refine ev_if_ne okPf_breakParagraph rfl rfl trivial (fun g => absurd ?_ g) (fun g => ev_rv okPf_breakParagraph rfl rfl trivial rfl k)
  rw [hpa.2.2.2.2.2.1]
  rfl
theorem sp_break {N : NN} {o : List Nat} {B : Nat → Nat → TE} {R hh ii pb : Nat} (hd' : DP lb wb (R - hh) (R - ii) n B) (hb : PaB L lb wb U) (hU : U ≠ []) (h0 : lb.getD 0 0 = 0 ∧ wb.getD 0 0 = 0) (hR : R ≤ 80) (hh1 : hh < R) (hi1 : ii < R) (hn : lb.length = n + 1) (hhd : ∀ b ∈ hd, b < 128) (hft : ∀ b ∈ ft, b < 128) (hp : PgV σ N hd ft o) (hpa : PaV σ L lb wb U) (n0 : N 0 = nI R) (n1 : N 1 = nI ii) (n2 : N 2 = nI hh) (hj : N 8 = b2 jf) (hpb : PB pb N) (hlt : pb + n < 2 ^ 30)
    (k : ∀ σ', PgV σ' (brkL hd ft (lnE L lb wb U (R - hh) (R - ii) n jf) (wy lb wb (R - hh) (R - ii) n B n 0 1) (N, o)).1 hd ft (brkL hd ft (lnE L lb wb U (R - hh) (R - ii) n jf) (wy lb wb (R - hh) (R - ii) n B n 0 1) (N, o)).2 → PaV σ' [] [0] [0] [] →
      LnV σ' ((wy lb wb (R - hh) (R - ii) n B n 0 1).map (fun q => q.2)) ((wy lb wb (R - hh) (R - ii) n B n 0 1).flatMap (fun q => fct lb wb (R - hh) (R - ii) n q.1 q.2)) → σ'.2 17 7 = lN (B 0 1).1 → Fr [4, 5, 6, 7, 12, 17, 18, 19, 20, 21] σ σ' → Q none σ') :
    Ev lc G mPf_breakParagraph 0 [some (.ref 0), none, none, none, none] [] σ Q := by
  have hUl : 0 < U.length := List.length_pos_iff.mpr hU
  have hU80 := hpa.2.2.2.2.1
  have h41 := hpa.2.1.2.2.1
  refine ev_if_ne okPf_breakParagraph rfl rfl trivial (fun g => ?_) (fun g => ?_)
  · refine ev_cv okPf_breakParagraph okPt_weighWays rfl rfl trivial rfl (by decide +kernel) rfl rfl ?_
    rw [show σ.1 4 0 = nI R from (hp.1 0 (by decide)).trans n0, show σ.1 4 1 = nI ii from (hp.1 1 (by decide)).trans n1, show σ.1 4 2 = nI hh from (hp.1 2 (by decide)).trans n2, pk_sub (by omega), pk_sub (by omega)]
    refine sp_weighWays hd' hb (by omega) (by omega) hn hpa fun σ1 t1 t2 t3 t4 t5 => ?_
    refine ev_cv okPf_breakParagraph okPt_takeBestWay rfl rfl trivial rfl (by decide +kernel) rfl rfl (sp_takeBestWay hd' hb (by omega) (by omega) hn t2 t1 fun σ2 u1 u2 u3 => ?_)
    have f2 : Fr [17, 18, 19, 20, 21] σ σ2 := (t3.wk (by decide)).tr (u3.wk (by decide))
    have hp2 := hp.fr f2 (by decide)
    have hpa2 := hpa.fr f2 (by decide)
    have hc := wy_chn hd' n 0 1 (by omega) (by omega)
    have hcl := Chn_len hc
    refine ev_nop okPf_breakParagraph rfl rfl trivial ?_
    refine lp_lines (jf := jf) hb (by omega) (by omega) hn hhd hft _ _ [] 0 σ2 (N, o) pb rfl hc hp2 hpa2 u1 hj hpb (by omega) fun σ3 v1 v2 => ?_
    have hpa3 := hpa2.fr v2 (by decide)
    have hl3 : LnV σ3 ((wy lb wb (R - hh) (R - ii) n B n 0 1).map (fun q => q.2)) ((wy lb wb (R - hh) (R - ii) n B n 0 1).flatMap (fun q => fct lb wb (R - hh) (R - ii) n q.1 q.2)) := ⟨u1.1, u1.2.1, by rw [v2.a1 (by decide)]; exact u1.2.2.1, u1.2.2.2.1.fr v2 (by decide), u1.2.2.2.2.fr v2 (by decide)⟩
    refine ev_cv okPf_breakParagraph okPa_clear rfl rfl trivial rfl (by decide +kernel) rfl rfl (sp_clear hpa3 h0 fun σ4 w1 w2 => ?_)
    refine ev_rv okPf_breakParagraph rfl rfl trivial rfl (k σ4 (v1.fr w2 (by decide)) w1 ⟨hl3.1, hl3.2.1, by rw [w2.a1 (by decide)]; exact hl3.2.2.1, hl3.2.2.2.1.fr w2 (by decide), hl3.2.2.2.2.fr w2 (by decide)⟩ ?_ ?_)
    · rw [w2.a2 (by decide), v2.a2 (by decide)]
      exact u2
    · exact ((f2.wk (by decide)).tr (v2.wk (by decide))).tr (w2.wk (by decide))
  · have g : σ.1 12 6 = 0 := by simpa using g
    rw [hpa.2.2.2.2.2.1] at g
    exact absurd g (nI_ne0 hUl (by omega))
end BR
end
section
/-! ===== the reference: parting ===== -/
/-- places: they grow, words one by one -/
def PlB (lb wb : List Nat) : Prop := Mono lb ∧ Mono wb ∧ (∀ j, lb.getD j 0 ≤ 8000) ∧ (∀ j, wb.getD j 0 ≤ 80) ∧ ∀ b, 0 < b → b < wb.length → wb.getD b 0 = wb.getD (b - 1) 0 ∨ wb.getD b 0 = wb.getD (b - 1) 0 + 1
/-- what the reference's search reads: places, rooms -/
def RsV (σ : St2) (n : Nat) (lb wb : List Nat) (R hh ii : Nat) : Prop := (σ.1 22 11 = nI n ∧ lb.length = n + 1 ∧ wb.length = n + 1 ∧ n ≤ 4000) ∧ RowAt σ 27 lb ∧ RowAt σ 28 wb ∧ (∀ p, p ≤ n → σ.1 29 p = b2 (hyp wb p)) ∧ σ.1 22 30 = nI R ∧ σ.1 22 43 = nI hh ∧ σ.1 22 28 = nI ii
theorem RsV.fq {S F : List Nat} {σ σ' : St2} {n : Nat} {lb wb : List Nat} {R hh ii : Nat} (h : RsV σ n lb wb R hh ii) (hf : Fq S F σ σ') (hs : ∀ c ∈ [27, 28, 29], c ∉ S) (hF : ∀ f ∈ [11, 30, 43, 28], f ∉ F) : RsV σ' n lb wb R hh ii := by
  obtain ⟨⟨a1, a2⟩, b1, b2', b3, c1, c2, c3⟩ := h
  exact ⟨⟨by rw [hf.g1 (hF 11 (by decide))]; exact a1, a2⟩, b1.fq hf (hs 27 (by decide)) (by decide), b2'.fq hf (hs 28 (by decide)) (by decide), fun p hp => by rw [hf.a1 (hs 29 (by decide)) (by decide)]; exact b3 p hp, by rw [hf.g1 (hF 30 (by decide))]; exact c1, by rw [hf.g1 (hF 43 (by decide))]; exact c2, by rw [hf.g1 (hF 28 (by decide))]; exact c3⟩
theorem b2_0 {b : Bool} : b2 b = 0 ↔ b = false := by cases b <;> decide
section RT
variable {lc : Launch} {G : GG} {σ : St2} {Q : Option Value → St2 → Prop} {n R hh ii : Nat} {lb wb : List Nat}
theorem sp_blanksOf (h : RsV σ n lb wb R hh ii) (hb : PlB lb wb) {a b : Nat} (hab : a < b) (hbn : b ≤ n) (k : Q (some (.int (nI (bln wb a b)))) σ) : Ev lc G mMd_blanksOf 0 [some (.ref 22), some (.int (nI a)), some (.int (nI b))] [] σ Q := by
  obtain ⟨⟨a1, a2, a3, a4⟩, b1, b2', b3, c1, c2, c3⟩ := h
  have v1 : σ.1 29 (nI b).toNatClampNeg = b2 (hyp wb b) := by rw [nI_cl (by omega)]; exact b3 b hbn
  have v2 : σ.1 28 (nI b).toNatClampNeg = nI (wb.getD b 0) := by rw [nI_cl (by omega)]; exact b2' b (by omega)
  have v3 : σ.1 28 (nI a).toNatClampNeg = nI (wb.getD a 0) := by rw [nI_cl (by omega)]; exact b2' a (by omega)
  have m1 := hb.2.1 a (b - 1) (by omega) (by omega)
  have fin : Ev lc G mMd_blanksOf 26 [some (.ref 22), some (.int (nI a)), some (.int (nI b))] [.int (nI (wb.getD (b - 1) 0))] σ Q := by
    refine ev_ri okMd_blanksOf rfl rfl ⟨vp_nI (by omega) (by decide), trivial⟩ rfl ?_
    rw [v3, pk_sub m1]
    exact k
  refine ev_if_eq okMd_blanksOf rfl rfl ⟨vp_nI (by omega) (by decide), trivial⟩ (fun g => ?_) (fun g => ?_)
  · rw [v1, b2_0] at g
    have e : wb.getD b 0 = wb.getD (b - 1) 0 + 1 := by
      rcases hb.2.2.2.2 b (by omega) (by omega) with q | q
      · have : hyp wb b = true := decide_eq_true ⟨by omega, by omega, q⟩
        rw [this] at g
        cases g
      · exact q
    refine ev_nop okMd_blanksOf rfl rfl ⟨vp_nI (by omega) (by decide), trivial⟩ ?_
    rw [v2, e, pk_sub (by omega), Nat.add_sub_cancel]
    exact fin
  · rw [v1, b2_0] at g
    have e : wb.getD b 0 = wb.getD (b - 1) 0 := by
      have : hyp wb b = true := by simpa using g
      exact (of_decide_eq_true this).2.2
    refine ev_goto okMd_blanksOf rfl rfl ⟨vp_nI (by omega) (by decide), trivial⟩ ?_
    rw [v2, e]
    exact fin
theorem sp_lengthOfR (h : RsV σ n lb wb R hh ii) (hb : PlB lb wb) {a b : Nat} (hab : a < b) (hbn : b ≤ n) (k : Q (some (.int (nI (lnO lb wb a b)))) σ) : Ev lc G mMd_lengthOf 0 [some (.ref 22), some (.int (nI a)), some (.int (nI b))] [] σ Q := by
  obtain ⟨⟨a1, a2, a3, a4⟩, b1, b2', b3, c1, c2, c3⟩ := id h
  have v1 : σ.1 29 (nI b).toNatClampNeg = b2 (hyp wb b) := by rw [nI_cl (by omega)]; exact b3 b hbn
  refine ev_cv okMd_lengthOf okMd_blanksOf rfl rfl ⟨vp_nI (by omega) (by decide), vp_nI (by omega) (by decide), trivial⟩ rfl (by decide +kernel) rfl rfl (sp_blanksOf h hb hab hbn ?_)
  rw [nI_cl (by omega), nI_cl (by omega), b1 b (by omega), b1 a (by omega), pk_sub (hb.1 a b (by omega) (by omega))]
  unfold lnO at k
  refine ev_if_eq okMd_lengthOf rfl rfl ⟨vp_nI (by omega) (by decide), trivial⟩ (fun g => ?_) (fun g => ?_)
  · rw [v1, b2_0] at g
    rw [g] at k
    refine ev_nop okMd_lengthOf rfl rfl trivial (ev_ri okMd_lengthOf rfl rfl trivial rfl ?_)
    rw [nI_add, nI_add]
    exact k
  · rw [v1, b2_0] at g
    have g : hyp wb b = true := by simpa using g
    rw [g] at k
    refine ev_goto okMd_lengthOf rfl rfl trivial (ev_ri okMd_lengthOf rfl rfl trivial rfl ?_)
    rw [nI_add, nI_add]
    exact k
theorem sp_roomOf (h : RsV σ n lb wb R hh ii) (h1 : hh ≤ R) (h2 : ii ≤ R) {a : Nat} (ha : a ≤ 5000) (k : Q (some (.int (nI (rmO (R - hh) (R - ii) a)))) σ) : Ev lc G mMd_roomOf 0 [some (.ref 22), some (.int (nI a))] [] σ Q := by
  obtain ⟨⟨a1, a2, a3, a4⟩, b1, b2', b3, c1, c2, c3⟩ := h
  unfold rmO at k
  refine ev_if_ne okMd_roomOf rfl rfl trivial (fun q => ?_) (fun q => ?_)
  · have q : ¬ a = 0 := fun e => q (by rw [e]; rfl)
    rw [if_neg q] at k
    refine ev_nop okMd_roomOf rfl rfl trivial (ev_ri okMd_roomOf rfl rfl trivial rfl ?_)
    rw [c1, c3, pk_sub h2]
    exact k
  · have q : a = 0 := (nI_eq (by omega) (by decide)).mp (show nI a = nI 0 from (by simpa using q : nI a = 0))
    rw [if_pos q] at k
    refine ev_goto okMd_roomOf rfl rfl trivial (ev_ri okMd_roomOf rfl rfl trivial rfl ?_)
    rw [c1, c2, pk_sub h1]
    exact k
theorem lnO_le (hb : PlB lb wb) (a b : Nat) : lnO lb wb a b ≤ 8081 ∧ bln wb a b ≤ 80 := by
  have h1 := hb.2.2.1 b
  have h2 := hb.2.2.2.1 (b - 1)
  unfold lnO ltr bln
  constructor
  · split <;> omega
  · omega
theorem rmO_le {r1 r2 a : Nat} (h1 : r1 ≤ 80) (h2 : r2 ≤ 80) : rmO r1 r2 a ≤ 80 := by unfold rmO; split <;> omega
theorem sp_slackOf (h : RsV σ n lb wb R hh ii) (hb : PlB lb wb) (hR : R ≤ 80) (h1 : hh ≤ R) (h2 : ii ≤ R) {a b : Nat} (hab : a < b) (hbn : b ≤ n) (k : Q (some (.int (nI (rmO (R - hh) (R - ii) a - lnO lb wb a b)))) σ) : Ev lc G mMd_slackOf 0 [some (.ref 22), some (.int (nI a)), some (.int (nI b)), none] [] σ Q := by
  have h4 := h.1.2.2.2
  have l1 := lnO_le hb a b
  have l2 := rmO_le (a := a) (show R - hh ≤ 80 by omega) (show R - ii ≤ 80 by omega)
  refine ev_cv okMd_slackOf okMd_roomOf rfl rfl trivial rfl (by decide +kernel) rfl rfl (sp_roomOf h h1 h2 (by omega) ?_)
  refine ev_cv okMd_slackOf okMd_lengthOf rfl rfl trivial rfl (by decide +kernel) rfl rfl (sp_lengthOfR h hb hab hbn ?_)
  refine ev_if_ge okMd_slackOf rfl rfl trivial (fun g => ?_) (fun g => ?_)
  · have hle : lnO lb wb a b ≤ rmO (R - hh) (R - ii) a := Nat.le_of_not_lt (fun q => absurd (pk_sneg (by omega) q) (Int32.not_lt.mpr g))
    refine ev_nop okMd_slackOf rfl rfl trivial (ev_ri okMd_slackOf rfl rfl trivial rfl ?_)
    rw [pk_sub hle]
    exact k
  · have hle : ¬ lnO lb wb a b ≤ rmO (R - hh) (R - ii) a := fun q => g (by rw [pk_sub q]; exact nI_pos' (by omega))
    refine ev_goto okMd_slackOf rfl rfl trivial (ev_ri okMd_slackOf rfl rfl trivial rfl ?_)
    rw [show rmO (R - hh) (R - ii) a - lnO lb wb a b = 0 by omega] at k
    exact k
theorem sp_badnessOfR (h : RsV σ n lb wb R hh ii) (hb : PlB lb wb) (hR : R ≤ 80) (h1 : hh ≤ R) (h2 : ii ≤ R) {a b : Nat} (hab : a < b) (hbn : b ≤ n) (k : Q (some (.int (nI (bdO lb wb (R - hh) (R - ii) n a b)))) σ) : Ev lc G mMd_badnessOf 0 [some (.ref 22), some (.int (nI a)), some (.int (nI b)), none, none, none, none, none, none] [] σ Q := by
  have h4 := h.1.2.2.2
  have l1 := lnO_le hb a b
  have l2 := rmO_le (a := a) (show R - hh ≤ 80 by omega) (show R - ii ≤ 80 by omega)
  unfold bdO at k
  refine ev_cv okMd_badnessOf okMd_lengthOf rfl rfl trivial rfl (by decide +kernel) rfl rfl (sp_lengthOfR h hb hab hbn ?_)
  refine ev_cv okMd_badnessOf okMd_roomOf rfl rfl trivial rfl (by decide +kernel) rfl rfl (sp_roomOf h h1 h2 (by omega) ?_)
  generalize hlen : lnO lb wb a b = len at *
  generalize hroom : rmO (R - hh) (R - ii) a = room at *
  generalize hg : bln wb a b = g at *
  unfold bad at k
  refine ev_ic_le okMd_badnessOf rfl rfl trivial (fun q => ?_) (fun q => ?_)
  · have q : len ≤ room := (nI_leI (by omega) (by omega)).mp q
    rw [if_neg (by omega)] at k
    refine ev_cv okMd_badnessOf okMd_slackOf rfl rfl trivial rfl (by decide +kernel) rfl rfl (sp_slackOf h hb hR h1 h2 hab hbn ?_)
    rw [hroom, hlen]
    refine ev_cv okMd_badnessOf okMd_blanksOf rfl rfl trivial rfl (by decide +kernel) rfl rfl (sp_blanksOf h hb hab hbn ?_)
    rw [hg]
    have hs : room - len ≤ 80 := by omega
    generalize hS : room - len = s at *
    have z : (decide (b = n)) = true ∨ s = 0 → Ev lc G mMd_badnessOf 49 [some (.ref 22), some (.int (nI a)), some (.int (nI b)), some (.long (nI s).toInt64), none, some (.long (nI g).toInt64), none, none, none] [] σ Q := by
      intro q2
      rw [if_pos q2] at k
      exact ev_ri okMd_badnessOf rfl rfl trivial rfl k
    refine ev_ic_eq okMd_badnessOf rfl rfl trivial (fun q2 => ?_) (fun q2 => ?_)
    · rw [h.1.1] at q2
      exact z (Or.inl (decide_eq_true ((nI_eq (by omega) (by omega)).mp q2)))
    · rw [h.1.1] at q2
      have q2 : ¬ b = n := fun e => q2 (by rw [e])
      have es : (nI s).toInt64 = lN s := nI_l (by omega)
      have eg : (nI g).toInt64 = lN g := nI_l (by omega)
      refine ev_if_ne okMd_badnessOf rfl rfl trivial (fun q3 => ?_) (fun q3 => ?_)
      · rw [lg_cmp_eq, es] at q3
        have q3 : ¬ s = 0 := fun e => q3 (by rw [e]; rfl)
        rw [if_neg (by rintro (e | e); exact q2 (of_decide_eq_true e); exact q3 e)] at k
        have w : g = 0 ∨ 20 * g < s → Ev lc G mMd_badnessOf 69 [some (.ref 22), some (.int (nI a)), some (.int (nI b)), some (.long (nI s).toInt64), none, some (.long (nI g).toInt64), none, none, none] [] σ Q := by
          intro q4
          rw [if_pos q4] at k
          exact ev_ri okMd_badnessOf rfl rfl trivial rfl k
        refine ev_if_eq okMd_badnessOf rfl rfl trivial (fun q4 => w (Or.inl ?_)) (fun q4 => ?_)
        · rw [lg_cmp_eq, eg] at q4
          exact (lN_eq (by omega) (by decide)).mp q4
        · rw [lg_cmp_eq, eg] at q4
          have q4 : ¬ g = 0 := fun e => q4 (by rw [e]; rfl)
          refine ev_if_le okMd_badnessOf rfl rfl trivial (fun q5 => ?_) (fun q5 => w (Or.inr ?_))
          · rw [lg_cmp_le, es, eg, lN_mul] at q5
            have q5 : s ≤ 20 * g := (lN_le (by omega) (by omega)).mp q5
            rw [if_neg (by rintro (e | e); exact q4 e; omega)] at k
            have e1 : 100 * s ≤ 8000 := by omega
            have e2 : 100 * s * s ≤ 8000 * 80 := Nat.mul_le_mul e1 hs
            have e3 : 100 * s * s * s ≤ 8000 * 80 * 80 := Nat.mul_le_mul e2 hs
            have f1 : g * g ≤ 80 * 80 := Nat.mul_le_mul l1.2 l1.2
            have f2 : g * g * g ≤ 80 * 80 * 80 := Nat.mul_le_mul f1 l1.2
            have f3 : 0 < g * g * g := Nat.mul_pos (Nat.mul_pos (by omega) (by omega)) (by omega)
            have e4 : 100 * s * s * s / (g * g * g) ≤ 8000 * 80 * 80 := Nat.le_trans (Nat.div_le_self _ _) e3
            have eq : lN 100 * (nI s).toInt64 * (nI s).toInt64 * (nI s).toInt64 / ((nI g).toInt64 * (nI g).toInt64 * (nI g).toInt64) = lN (100 * s * s * s / (g * g * g)) := by
              rw [es, eg, lN_mul, lN_mul, lN_mul, lN_mul, lN_mul, pk_lDiv (by omega) f3 (by omega)]
            have ne : ¬ (nI g).toInt64 * (nI g).toInt64 * (nI g).toInt64 = 0 := by
              rw [eg, lN_mul, lN_mul]
              intro e
              have := (lN_eq (a := g * g * g) (b := 0) (by omega) (by decide)).mp e
              omega
            refine ev_if_le okMd_badnessOf rfl rfl ⟨ne, trivial⟩ (fun q6 => ?_) (fun q6 => ?_)
            · rw [eq, lg_cmp_le] at q6
              have q6 : 100 * s * s * s / (g * g * g) ≤ 10000 := (lN_le (by omega) (by decide)).mp q6
              refine ev_nop okMd_badnessOf rfl rfl trivial (ev_ri okMd_badnessOf rfl rfl trivial rfl ?_)
              rw [eq, lN_i]
              by_cases hq : 100 * s * s * s / (g * g * g) < 10000
              · rw [if_pos hq] at k; exact k
              · rw [if_neg hq] at k
                rw [show 100 * s * s * s / (g * g * g) = 10000 by omega]
                exact k
            · rw [eq, lg_cmp_le] at q6
              have q6 : ¬ 100 * s * s * s / (g * g * g) ≤ 10000 := fun e => q6 ((lN_le (by omega) (by decide)).mpr e)
              refine ev_goto okMd_badnessOf rfl rfl trivial (ev_ri okMd_badnessOf rfl rfl trivial rfl ?_)
              rw [if_neg (by omega)] at k
              exact k
          · rw [lg_cmp_le, es, eg, lN_mul] at q5
            exact (Nat.lt_or_ge (20 * g) s).resolve_right (fun e => q5 ((lN_le (by omega) (by omega)).mpr e))
      · have q3 : lg_cmp (nI s).toInt64 (lN (0 : Fin 2).val) = 0 := by simpa using q3
        rw [lg_cmp_eq, es] at q3
        exact z (Or.inr ((lN_eq (by omega) (by decide)).mp q3))
  · have q : room < len := (Nat.lt_or_ge room len).resolve_right (fun e => q (nI_le e (by omega)))
    rw [if_pos q] at k
    exact ev_ri okMd_badnessOf rfl rfl trivial rfl k
theorem sp_kindOfR {x : Nat} (hx : x < 2 ^ 31) (k : Q (some (.int (nI (kdO x)))) σ) : Ev lc G mMd_kindOf 0 [some (.int (nI x))] [] σ Q := by
  unfold kdO at k
  refine ev_ic_ge okMd_kindOf rfl rfl trivial (fun q => ?_) (fun q => ?_)
  · have q : 13 ≤ x := (nI_leI (by decide) hx).mp q
    rw [if_neg (by omega)] at k
    refine ev_ic_ge okMd_kindOf rfl rfl trivial (fun q2 => ?_) (fun q2 => ?_)
    · have q2 : 100 ≤ x := (nI_leI (by decide) hx).mp q2
      rw [if_neg (by omega)] at k
      exact ev_nop okMd_kindOf rfl rfl trivial (ev_ri okMd_kindOf rfl rfl trivial rfl k)
    · have q2 : x < 100 := (Nat.lt_or_ge x 100).resolve_right (fun e => q2 (nI_le e hx))
      rw [if_pos q2] at k
      exact ev_goto okMd_kindOf rfl rfl trivial (ev_ri okMd_kindOf rfl rfl trivial rfl k)
  · have q : x < 13 := (Nat.lt_or_ge x 13).resolve_right (fun e => q (nI_le e hx))
    rw [if_pos q] at k
    exact ev_goto okMd_kindOf rfl rfl trivial (ev_ri okMd_kindOf rfl rfl trivial rfl k)
set_option maxRecDepth 100000 in
theorem sp_demeritsOf (h : RsV σ n lb wb R hh ii) (hb : PlB lb wb) (hR : R ≤ 80) (h1 : hh ≤ R) (h2 : ii ≤ R) {a b kb : Nat} (hab : a < b) (hbn : b ≤ n) (hk : kb < 4) (k : Q (some (.long (lN (plnD wb a b (bdO lb wb (R - hh) (R - ii) n a b) + clsh kb (kO lb wb (R - hh) (R - ii) n a b))))) σ) : Ev lc G mMd_demeritsOf 0 [some (.ref 22), some (.int (nI a)), some (.int (nI b)), some (.int (nI kb)), none, none, none, none, none, none] [] σ Q := by
  obtain ⟨⟨a1, a2, a3, a4⟩, b1, b2', b3, c1, c2, c3⟩ := id h
  have hbd : bdO lb wb (R - hh) (R - ii) n a b ≤ 10000 := bdO_le a b
  have hk3 : kO lb wb (R - hh) (R - ii) n a b < 3 := kO_lt a b
  refine ev_cv okMd_demeritsOf okMd_badnessOf rfl rfl trivial rfl (by decide +kernel) rfl rfl (sp_badnessOfR h hb hR h1 h2 hab hbn ?_)
  have e1 : lN (1 : Fin 2).val + (nI (bdO lb wb (R - hh) (R - ii) n a b)).toInt64 = lN (1 + bdO lb wb (R - hh) (R - ii) n a b) := by rw [nI_l (by omega), lN_add]; rfl
  have ek : kO lb wb (R - hh) (R - ii) n a b = kdO (bdO lb wb (R - hh) (R - ii) n a b) := rfl
  generalize hB : bdO lb wb (R - hh) (R - ii) n a b = bd at *
  have v1 : σ.1 29 (nI b).toNatClampNeg = b2 (hyp wb b) := by rw [nI_cl (by omega)]; exact b3 b hbn
  have v2 : σ.1 29 (nI a).toNatClampNeg = b2 (hyp wb a) := by rw [nI_cl (by omega)]; exact b3 a (by omega)
  -- behind the hyphens
  have fin : ∀ D : Nat, D = plnD wb a b bd → Ev lc G mMd_demeritsOf 60 [some (.ref 22), some (.int (nI a)), some (.int (nI b)), some (.int (nI kb)), some (.long (lN (1 + bd))), none, some (.long (lN D)), none, none, none] [] σ Q := by
    intro D hD
    subst hD
    refine ev_cs okMd_demeritsOf okMd_kindOf rfl rfl trivial rfl (by decide +kernel) rfl rfl ?_
    rw [lN_i, pk_sub (by omega), Nat.add_sub_cancel_left]
    refine sp_kindOfR (by omega) ?_
    rw [← ek]
    generalize hK : kO lb wb (R - hh) (R - ii) n a b = K at *
    have yes : ((kb = 0 ∧ K = 2) ∨ (kb = 2 ∧ K = 0)) → Ev lc G mMd_demeritsOf 90 [some (.ref 22), some (.int (nI a)), some (.int (nI b)), some (.int (nI kb)), some (.long (lN (1 + bd))), none, some (.long (lN (plnD wb a b bd))), none, some (.int (nI K)), none] [] σ Q := by
      intro q
      unfold clsh at k
      rw [if_pos q] at k
      refine ev_goto okMd_demeritsOf rfl rfl trivial (ev_if_eq okMd_demeritsOf rfl rfl trivial (fun g => absurd g (by decide)) (fun g => ev_goto okMd_demeritsOf rfl rfl trivial (ev_rl okMd_demeritsOf rfl rfl trivial rfl ?_)))
      rw [lN_add]
      exact k
    have no : ¬ ((kb = 0 ∧ K = 2) ∨ (kb = 2 ∧ K = 0)) → Ev lc G mMd_demeritsOf 94 [some (.ref 22), some (.int (nI a)), some (.int (nI b)), some (.int (nI kb)), some (.long (lN (1 + bd))), none, some (.long (lN (plnD wb a b bd))), none, some (.int (nI K)), none] [] σ Q := by
      intro q
      unfold clsh at k
      rw [if_neg q, Nat.add_zero] at k
      exact ev_nop okMd_demeritsOf rfl rfl trivial (ev_if_eq okMd_demeritsOf rfl rfl trivial (fun g => ev_nop okMd_demeritsOf rfl rfl trivial (ev_rl okMd_demeritsOf rfl rfl trivial rfl k)) (fun g => absurd rfl g))
    have second : ¬ (kb = 0 ∧ K = 2) → Ev lc G mMd_demeritsOf 80 [some (.ref 22), some (.int (nI a)), some (.int (nI b)), some (.int (nI kb)), some (.long (lN (1 + bd))), none, some (.long (lN (plnD wb a b bd))), none, some (.int (nI K)), none] [] σ Q := by
      intro q0
      refine ev_if_ne okMd_demeritsOf rfl rfl trivial (fun g => no ?_) (fun g => ?_)
      · have g : ¬ K = 0 := fun e => g (by rw [e]; rfl)
        rintro (q | q)
        · exact q0 q
        · exact g q.2
      · have g : K = 0 := (nI_eq (by omega) (by decide)).mp (show nI K = nI 0 from (by simpa using g : nI K = 0))
        refine ev_ic_ne okMd_demeritsOf rfl rfl trivial (fun g2 => no ?_) (fun g2 => yes (Or.inr ⟨(nI_eq (by omega) (by decide)).mp (by simpa using g2), g⟩))
        have g2 : ¬ kb = 2 := fun e => g2 (by rw [e])
        rintro (q | q)
        · exact q0 q
        · exact g2 q.1
    refine ev_ic_ne okMd_demeritsOf rfl rfl trivial (fun g => second ?_) (fun g => ?_)
    · have g : ¬ K = 2 := fun e => g (by rw [e])
      exact fun q => g q.2
    · have g : K = 2 := (nI_eq (by omega) (by decide)).mp (by simpa using g)
      refine ev_if_eq okMd_demeritsOf rfl rfl trivial (fun g2 => yes (Or.inl ⟨(nI_eq (by omega) (by decide)).mp g2, g⟩)) (fun g2 => second ?_)
      have g2 : ¬ kb = 0 := fun e => g2 (by rw [e]; rfl)
      exact fun q => g2 q.1
  refine ev_if_eq okMd_demeritsOf rfl rfl ⟨vp_nI (by omega) (by decide), trivial⟩ (fun g => ?_) (fun g => ?_)
  · rw [v1, b2_0] at g
    rw [e1, lN_mul]
    exact fin _ (by unfold plnD; rw [g, if_neg (by decide), Nat.add_zero])
  · rw [v1, b2_0] at g
    have g : hyp wb b = true := by simpa using g
    rw [e1, lN_mul]
    have no : hyp wb a = false → Ev lc G mMd_demeritsOf 56 [some (.ref 22), some (.int (nI a)), some (.int (nI b)), some (.int (nI kb)), some (.long (lN (1 + bd))), none, some (.long (lN ((1 + bd) * (1 + bd)) + lN 3000)), none, none, none] [.long (lN ((1 + bd) * (1 + bd)) + lN 3000)] σ Q := by
      intro q
      refine ev_nop okMd_demeritsOf rfl rfl trivial (ev_nop okMd_demeritsOf rfl rfl trivial ?_)
      rw [show lN (0 : Fin 2).val = lN 0 from rfl, lN_add, lN_add]
      exact fin _ (by unfold plnD; rw [g, q, if_pos rfl, if_neg (by decide), Nat.add_zero])
    refine ev_if_le okMd_demeritsOf rfl rfl trivial (fun g2 => no ?_) (fun g2 => ?_)
    · have g2 : a = 0 := by
        rcases Nat.eq_zero_or_pos a with q | q
        · exact q
        · exact absurd g2 (nI_nle q (by omega))
      exact decide_eq_false (fun z => by omega)
    · refine ev_if_eq okMd_demeritsOf rfl rfl ⟨vp_nI (by omega) (by decide), trivial⟩ (fun g3 => no ?_) (fun g3 => ?_)
      · rw [v2, b2_0] at g3
        exact g3
      · rw [v2, b2_0] at g3
        have g3 : hyp wb a = true := by simpa using g3
        refine ev_goto okMd_demeritsOf rfl rfl trivial (ev_nop okMd_demeritsOf rfl rfl trivial ?_)
        rw [lN_add, lN_add]
        exact fin _ (by unfold plnD; rw [g, g3, if_pos rfl, if_pos rfl, Nat.add_assoc])
end RT
end
section
/-! ===== the reference: its search ===== -/
def TabR (σ : St2) (n : Nat) (B : Nat → Nat → TE) (a0 : Nat) : Prop := ∀ a, a0 ≤ a → a ≤ n → ∀ k, k < 3 → σ.2 31 (4 * a + k) = lN (B a k).1 ∧ σ.1 32 (4 * a + k) = nI (B a k).2.1 ∧ (a < n → σ.1 33 (4 * a + k) = nI (B a k).2.2)
def AccR (σ : St2) (i : Nat) (acc : Option TE) : Prop := match acc with
  | none => σ.2 31 i = lN 4000000000000000000 ∧ σ.1 32 i = nI 0
  | some y => σ.2 31 i = lN y.1 ∧ σ.1 32 i = nI y.2.1 ∧ σ.1 33 i = nI y.2.2 ∧ y.1 < 4000000000000000000 ∧ y.2.1 < 100000
/-- nothing but the entry i of the table has changed -/
def Ent (i : Nat) (σ σ' : St2) : Prop := Fq [31, 32, 33] [] σ σ' ∧ ∀ j, j ≠ i → σ'.2 31 j = σ.2 31 j ∧ σ'.1 32 j = σ.1 32 j ∧ σ'.1 33 j = σ.1 33 j
theorem Ent.rf {i : Nat} {σ : St2} : Ent i σ σ := ⟨Fq.rf, fun _ _ => ⟨rfl, rfl, rfl⟩⟩
theorem Ent.tr {i : Nat} {a b c : St2} (h1 : Ent i a b) (h2 : Ent i b c) : Ent i a c := ⟨h1.1.tr h2.1, fun j hj => ⟨(h2.2 j hj).1.trans (h1.2 j hj).1, (h2.2 j hj).2.1.trans (h1.2 j hj).2.1, (h2.2 j hj).2.2.trans (h1.2 j hj).2.2⟩⟩
theorem Ent.set (i : Nat) (σ : St2) (s : Int64) (l e : Int32) : Ent i σ (up2 (up2 σ.1 32 i l) 33 i e, up2 σ.2 31 i s) := by
  refine ⟨Fq.tr (Fq.tr (Fq.u2 (c := 31) (k := i) (x := s) (by decide) (by decide)) (Fq.u1 (σ := (σ.1, up2 σ.2 31 i s)) (c := 32) (k := i) (x := l) (by decide) (by decide))) (Fq.u1 (σ := (up2 σ.1 32 i l, up2 σ.2 31 i s)) (c := 33) (k := i) (x := e) (by decide) (by decide)), fun j hj => ?_⟩
  exact ⟨up2_col σ.2 31 s hj, by
    dsimp only
    rw [up2_ne _ _ _ (by decide), up2_col _ _ _ hj], by
    dsimp only
    rw [up2_col _ _ _ hj, up2_ne _ _ _ (by decide)]⟩
theorem Ent.two (i : Nat) (σ : St2) (s : Int64) (l : Int32) : Ent i σ (up2 σ.1 32 i l, up2 σ.2 31 i s) := by
  refine ⟨Fq.tr (Fq.u2 (c := 31) (k := i) (x := s) (by decide) (by decide)) (Fq.u1 (σ := (σ.1, up2 σ.2 31 i s)) (c := 32) (k := i) (x := l) (by decide) (by decide)), fun j hj => ?_⟩
  exact ⟨up2_col σ.2 31 s hj, up2_col σ.1 32 l hj, by
    dsimp only
    rw [up2_ne _ _ _ (by decide)]⟩
theorem TabR.ent {σ σ' : St2} {n a i : Nat} {B : Nat → Nat → TE} (h : TabR σ n B (a + 1)) (he : Ent i σ σ') (hi : i < 4 * a + 4) : TabR σ' n B (a + 1) := by
  intro b hb hn k hk
  obtain ⟨e1, e2, e3⟩ := he.2 (4 * b + k) (by omega)
  rw [e1, e2, e3]
  exact h b hb hn k hk
section RF
variable {lc : Launch} {G : GG} {Q : Option Value → St2 → Prop} {n R hh ii : Nat} {lb wb : List Nat} {B : Nat → Nat → TE}
set_option maxRecDepth 100000 in
theorem lp_find (hd : DP lb wb (R - hh) (R - ii) n B) (hb : PlB lb wb) (hR : R ≤ 80) (h1 : hh ≤ R) (h2 : ii ≤ R) {a kb : Nat} (ha : a < n) (hk : kb < 4) : ∀ (m b : Nat) (σ : St2) (acc : Option TE), b + m = n + 1 → a < b → RsV σ n lb wb R hh ii → TabR σ n B (a + 1) → AccR σ (4 * a + kb) acc → scn (legO lb wb (R - hh) (R - ii) a) (cndO lb wb (R - hh) (R - ii) n B a kb) m b acc = some (B a kb) →
    (∀ σ', AccR σ' (4 * a + kb) (some (B a kb)) → Ent (4 * a + kb) σ σ' → Q none σ') →
    Ev lc G mMd_findBest 54 [some (.ref 22), some (.int (nI a)), some (.int (nI kb)), some (.int (nI (4 * a + kb))), some (.int (nI 1)), some (.int (nI b)), none, none, none, none] [] σ Q := by
  intro m
  induction m with
  | zero =>
    intro b σ acc hm hab hs ht hacc hscn k
    have h4 := hs.1.2.2.2
    have e : acc = some (B a kb) := hscn
    rw [e] at hacc
    refine ev_ic_gt okMd_findBest rfl rfl trivial (fun g => ev_rv okMd_findBest rfl rfl trivial rfl (k σ hacc Ent.rf)) (fun g => absurd ?_ g)
    rw [hs.1.1]
    exact nI_lt (by omega) (by omega)
  | succ m ih =>
    intro b σ acc hm hab hs ht hacc hscn k
    have h4 := hs.1.2.2.2
    have l1 := lnO_le hb a b
    have l2 := rmO_le (a := a) (show R - hh ≤ 80 by omega) (show R - ii ≤ 80 by omega)
    refine ev_ic_gt okMd_findBest rfl rfl trivial (fun g => absurd g (by rw [hs.1.1]; exact nI_nlt (by omega) (by omega))) (fun g => ?_)
    refine ev_if_eq okMd_findBest rfl rfl trivial (fun g => absurd g (by decide)) (fun g => ?_)
    -- a line that isn't legal ends the search
    have stop : ¬ legO lb wb (R - hh) (R - ii) a b = true → Ev lc G mMd_findBest 95 [some (.ref 22), some (.int (nI a)), some (.int (nI kb)), some (.int (nI (4 * a + kb))), none, some (.int (nI b)), none, none, none, none] [] σ Q := by
      intro hno
      rw [scn, if_neg hno] at hscn
      rw [hscn] at hacc
      refine ev_nop okMd_findBest rfl rfl trivial (ev_if_eq okMd_findBest rfl rfl trivial (fun _ => ?_) (fun g => absurd rfl g))
      refine ev_goto okMd_findBest rfl rfl trivial ?_
      refine ev_ic_gt okMd_findBest rfl rfl trivial (fun g => ev_rv okMd_findBest rfl rfl trivial rfl (k σ hacc Ent.rf)) (fun g => ?_)
      exact ev_if_eq okMd_findBest rfl rfl trivial (fun g => ev_rv okMd_findBest rfl rfl trivial rfl (k σ hacc Ent.rf)) (fun g => absurd rfl g)
    have legal : legO lb wb (R - hh) (R - ii) a b = true → Ev lc G mMd_findBest 91 [some (.ref 22), some (.int (nI a)), some (.int (nI kb)), some (.int (nI (4 * a + kb))), none, some (.int (nI b)), none, none, none, none] [] σ Q := by
      intro hleg
      rw [scn, if_pos hleg] at hscn
      refine ev_goto okMd_findBest rfl rfl trivial (ev_if_eq okMd_findBest rfl rfl trivial (fun g => absurd g (by decide)) (fun _ => ?_))
      refine ev_cv okMd_findBest okMd_badnessOf rfl rfl trivial rfl (by decide +kernel) rfl rfl (sp_badnessOfR hs hb hR h1 h2 hab (by omega) ?_)
      have hbd : bdO lb wb (R - hh) (R - ii) n a b ≤ 10000 := bdO_le a b
      refine ev_cs okMd_findBest okMd_kindOf rfl rfl trivial rfl (by decide +kernel) rfl rfl (sp_kindOfR (by omega) ?_)
      have hk3 : kO lb wb (R - hh) (R - ii) n a b < 3 := kO_lt a b
      show Ev lc G mMd_findBest 117 _ (psh (some (.int (nI (kO lb wb (R - hh) (R - ii) n a b)))) _) σ Q
      refine ev_cv okMd_findBest okMd_demeritsOf rfl rfl trivial rfl (by decide +kernel) rfl rfl (sp_demeritsOf hs hb hR h1 h2 hab (by omega) hk ?_)
      have ecnd : cndO lb wb (R - hh) (R - ii) n B a kb b = (plnD wb a b (bdO lb wb (R - hh) (R - ii) n a b) + clsh kb (kO lb wb (R - hh) (R - ii) n a b) + (B b (kO lb wb (R - hh) (R - ii) n a b)).1, (B b (kO lb wb (R - hh) (R - ii) n a b)).2.1 + 1) := rfl
      rw [ecnd] at hscn
      have hcl := clsh_le kb (kO lb wb (R - hh) (R - ii) n a b)
      have hpl := plnD_le (wb := wb) (a := a) (b := b) hbd
      generalize hK : kO lb wb (R - hh) (R - ii) n a b = K at *
      obtain ⟨t1, t2, -⟩ := ht b (by omega) (by omega) K hk3
      obtain ⟨bd1, bd2⟩ := DP_bd hd (n - b) b K (by omega)
      have bd3 : (n - b) * 100038001 ≤ 4000 * 100038001 := Nat.mul_le_mul_right _ (by omega)
      generalize hD : plnD wb a b (bdO lb wb (R - hh) (R - ii) n a b) + clsh kb K = D at *
      have hDle : D ≤ 100038001 := by omega
      have eidx : nI 4 * nI b + nI K = nI (4 * b + K) := by rw [pk_mul, nI_add]
      have vp : vp_in (nI 4 * nI b + nI K) 32404 := by rw [eidx]; exact vp_nI (by omega) (by decide)
      have vs : vp_in (nI (4 * a + kb)) 32404 := vp_nI (by omega) (by decide)
      have es : (nI 4 * nI b + nI K).toNatClampNeg = 4 * b + K := by rw [eidx, nI_cl (by omega)]
      have ei : (nI (4 * a + kb)).toNatClampNeg = 4 * a + kb := nI_cl (by omega)
      -- behind the comparison
      have next : ∀ σ1 : St2, Ent (4 * a + kb) σ σ1 → AccR σ1 (4 * a + kb) (accU acc (D + (B b K).1, (B b K).2.1 + 1) b) → Ev lc G mMd_findBest 208 [some (.ref 22), some (.int (nI a)), some (.int (nI kb)), some (.int (nI (4 * a + kb))), some (.int (nI 1)), some (.int (nI b)), none, none, none, none] [] σ1 Q := by
        intro σ1 q1 q2
        refine ev_goto okMd_findBest rfl rfl trivial ?_
        rw [nI_add]
        exact ih (b + 1) σ1 _ (by omega) (by omega) (hs.fq q1.1 (by decide) (by decide)) (ht.ent q1 (by omega)) q2 hscn (fun σ' r1 r2 => k σ' r1 (q1.tr r2))
      have take : (∀ y, acc = some y → D + (B b K).1 < y.1 ∨ (D + (B b K).1 = y.1 ∧ (B b K).2.1 + 1 < y.2.1)) → Ev lc G mMd_findBest 184 [some (.ref 22), some (.int (nI a)), some (.int (nI kb)), some (.int (nI (4 * a + kb))), some (.int (nI 1)), some (.int (nI b)), some (.int (nI (4 * b + K))), some (.long (lN (D + (B b K).1))), none, some (.int (nI ((B b K).2.1 + 1)))] [] σ Q := by
        intro hy
        refine ev_nop okMd_findBest rfl rfl ⟨vs, vs, vs, trivial⟩ ?_
        rw [ei]
        refine ev_lv [some (.ref 22), some (.int (nI a)), some (.int (nI kb)), some (.int (nI (4 * a + kb))), some (.int (nI 1)), some (.int (nI b)), none, none, none, none] ⟨rfl, rfl, rfl, rfl, rfl, rfl, trivial⟩ (next _ (Ent.set (4 * a + kb) σ (lN (D + (B b K).1)) (nI ((B b K).2.1 + 1)) (nI b)) ?_)
        have : accU acc (D + (B b K).1, (B b K).2.1 + 1) b = some (D + (B b K).1, (B b K).2.1 + 1, b) := by
          unfold accU
          cases acc with
          | none => rfl
          | some y => exact if_pos (hy y rfl)
        rw [this]
        refine ⟨up2_same σ.2 31 _ _, ?_, up2_same (up2 σ.1 32 (4 * a + kb) (nI ((B b K).2.1 + 1))) 33 _ _, by show D + (B b K).1 < _; omega, by show (B b K).2.1 + 1 < _; omega⟩
        dsimp only
        rw [up2_ne _ _ _ (by decide), up2_same]
      have leave : (∃ y, acc = some y ∧ ¬ (D + (B b K).1 < y.1 ∨ (D + (B b K).1 = y.1 ∧ (B b K).2.1 + 1 < y.2.1))) → Ev lc G mMd_findBest 208 [some (.ref 22), some (.int (nI a)), some (.int (nI kb)), some (.int (nI (4 * a + kb))), some (.int (nI 1)), some (.int (nI b)), none, none, none, none] [] σ Q := by
        rintro ⟨y, hy1, hy2⟩
        refine next σ Ent.rf ?_
        rw [hy1] at hacc ⊢
        have : accU (some y) (D + (B b K).1, (B b K).2.1 + 1) b = some y := if_neg hy2
        rw [this]
        exact hacc
      have esum : lN D + lN (B b K).1 = lN (D + (B b K).1) := lN_add _ _
      refine ev_if_lt okMd_findBest rfl rfl ⟨vp, vp, vs, trivial⟩ (fun g => ?_) (fun g => ?_)
      · rw [es, t1, esum, ei, lg_cmp_lt] at g
        rw [es, t1, t2, esum, nI_add, eidx]
        refine take (fun y hy => ?_)
        rw [hy] at hacc
        obtain ⟨y1, y2, y3, y4, y5⟩ := hacc
        rw [y1] at g
        exact Or.inl ((pk_lLT (by omega) (by omega)).mp g)
      · rw [es, t1, esum, ei, lg_cmp_lt] at g
        rw [es, t1, t2, esum, nI_add, eidx]
        cases hacc' : acc with
        | none =>
          rw [hacc'] at hacc
          exact absurd (by rw [hacc.1]; exact (pk_lLT (by omega) (by decide)).mpr (by omega)) g
        | some y =>
          have hacc2 := hacc
          rw [hacc'] at hacc2
          obtain ⟨y1, y2, y3, y4, y5⟩ := hacc2
          rw [y1] at g
          have g : ¬ D + (B b K).1 < y.1 := fun q => g ((pk_lLT (by omega) (by omega)).mpr q)
          refine ev_if_ne okMd_findBest rfl rfl ⟨vs, trivial⟩ (fun g2 => ?_) (fun g2 => ?_)
          · rw [ei, y1, lg_cmp_eq] at g2
            have g2 : ¬ D + (B b K).1 = y.1 := fun q => g2 (by rw [q])
            exact ev_lv [some (.ref 22), some (.int (nI a)), some (.int (nI kb)), some (.int (nI (4 * a + kb))), some (.int (nI 1)), some (.int (nI b)), none, none, none, none] ⟨rfl, rfl, rfl, rfl, rfl, rfl, trivial⟩ (leave ⟨y, hacc', by rintro (q | q); exact g q; exact g2 q.1⟩)
          · have g2 : lg_cmp (lN (D + (B b K).1)) (σ.2 31 (nI (4 * a + kb)).toNatClampNeg) = 0 := by simpa using g2
            rw [ei, y1, lg_cmp_eq] at g2
            have g2 : D + (B b K).1 = y.1 := (pk_lEQ (by omega) (by omega)).mp g2
            refine ev_ic_ge okMd_findBest rfl rfl ⟨vs, trivial⟩ (fun g3 => ?_) (fun g3 => ?_)
            · rw [ei, y2] at g3
              have g3 : y.2.1 ≤ (B b K).2.1 + 1 := (nI_leI (by omega) (by omega)).mp g3
              exact ev_lv [some (.ref 22), some (.int (nI a)), some (.int (nI kb)), some (.int (nI (4 * a + kb))), some (.int (nI 1)), some (.int (nI b)), none, none, none, none] ⟨rfl, rfl, rfl, rfl, rfl, rfl, trivial⟩ (leave ⟨y, hacc', by rintro (q | q); exact g q; omega⟩)
            · rw [ei, y2] at g3
              have g3 : (B b K).2.1 + 1 < y.2.1 := (Nat.lt_or_ge _ _).resolve_right (fun q => g3 (nI_le q (by omega)))
              refine take (fun z hz => ?_)
              rw [hacc'] at hz
              cases hz
              exact Or.inr ⟨g2, g3⟩
    refine ev_ic_eq okMd_findBest rfl rfl trivial (fun g => ?_) (fun g => ?_)
    · rw [nI_add] at g
      have g : b = a + 1 := (nI_eq (by omega) (by omega)).mp g
      exact ev_lv [some (.ref 22), some (.int (nI a)), some (.int (nI kb)), some (.int (nI (4 * a + kb))), none, some (.int (nI b)), none, none, none, none] ⟨rfl, rfl, rfl, rfl, rfl, trivial⟩ (legal (decide_eq_true (Or.inl g)))
    · rw [nI_add] at g
      have g : ¬ b = a + 1 := fun q => g (by rw [q])
      refine ev_cv okMd_findBest okMd_lengthOf rfl rfl trivial rfl (by decide +kernel) rfl rfl (sp_lengthOfR hs hb hab (by omega) ?_)
      refine ev_cv okMd_findBest okMd_roomOf rfl rfl trivial rfl (by decide +kernel) rfl rfl (sp_roomOf hs h1 h2 (by omega) ?_)
      refine ev_ic_gt okMd_findBest rfl rfl trivial (fun g2 => ?_) (fun g2 => ?_)
      · have g2 : rmO (R - hh) (R - ii) a < lnO lb wb a b := (nI_ltI (by omega) (by omega)).mp g2
        refine ev_lv [some (.ref 22), some (.int (nI a)), some (.int (nI kb)), some (.int (nI (4 * a + kb))), none, some (.int (nI b)), none, none, none, none] ⟨rfl, rfl, rfl, rfl, rfl, trivial⟩ (stop ?_)
        unfold legO
        rw [decide_eq_true_eq]
        rintro (q | q)
        · exact g q
        · omega
      · have g2 : lnO lb wb a b ≤ rmO (R - hh) (R - ii) a := Nat.le_of_not_lt (fun q => g2 (nI_lt q (by omega)))
        exact ev_lv [some (.ref 22), some (.int (nI a)), some (.int (nI kb)), some (.int (nI (4 * a + kb))), none, some (.int (nI b)), none, none, none, none] ⟨rfl, rfl, rfl, rfl, rfl, trivial⟩ (legal (decide_eq_true (Or.inr g2)))
set_option maxRecDepth 100000 in
theorem sp_findBest {σ : St2} (hd : DP lb wb (R - hh) (R - ii) n B) (hb : PlB lb wb) (hR : R ≤ 80) (h1 : hh ≤ R) (h2 : ii ≤ R) {a kb : Nat} (ha : a ≤ n) (hk : kb < 4) (hs : RsV σ n lb wb R hh ii) (ht : TabR σ n B (a + 1))
    (k : ∀ σ', σ'.2 31 (4 * a + kb) = lN (B a kb).1 → σ'.1 32 (4 * a + kb) = nI (B a kb).2.1 → (a < n → σ'.1 33 (4 * a + kb) = nI (B a kb).2.2) → Ent (4 * a + kb) σ σ' → Q none σ') :
    Ev lc G mMd_findBest 0 [some (.ref 22), some (.int (nI a)), some (.int (nI kb)), none, none, none, none, none, none, none] [] σ Q := by
  have h4 := hs.1.2.2.2
  have es : nI 4 * nI a + nI kb = nI (4 * a + kb) := by rw [pk_mul, nI_add]
  have vs : vp_in (nI (4 * a + kb)) 32404 := vp_nI (by omega) (by decide)
  have ei : (nI (4 * a + kb)).toNatClampNeg = 4 * a + kb := nI_cl (by omega)
  refine ev_ic_ne okMd_findBest rfl rfl trivial (fun g => ?_) (fun g => ?_)
  · rw [hs.1.1] at g
    have g : ¬ a = n := fun q => g (by rw [q])
    rw [es]
    refine ev_nop okMd_findBest rfl rfl trivial ?_
    have e0 : (σ.1, up2 σ.2 31 (nI (4 * a + kb)).toNatClampNeg (lN 4000000000000000000)).1 22 11 = nI n := hs.1.1
    refine ev_ic_ge okMd_findBest rfl rfl ⟨vs, vs, trivial⟩ (fun g2 => ?_) (fun g2 => ?_)
    · have e1 : (up2 (σ.1, up2 σ.2 31 (nI (4 * a + kb)).toNatClampNeg (lN 4000000000000000000)).1 32 (nI (4 * a + kb)).toNatClampNeg (nI 0), (σ.1, up2 σ.2 31 (nI (4 * a + kb)).toNatClampNeg (lN 4000000000000000000)).2).1 22 11 = nI n := by
        dsimp only
        rw [up2_ne _ _ _ (by decide)]; exact hs.1.1
      rw [e1] at g2
      exact absurd g2 (nI_ge (by omega) (by omega))
    · refine ev_goto okMd_findBest rfl rfl trivial (ev_nop okMd_findBest rfl rfl trivial ?_)
      rw [ei, nI_add]
      have hE : Ent (4 * a + kb) σ (up2 σ.1 32 (4 * a + kb) (nI 0), up2 σ.2 31 (4 * a + kb) (lN 4000000000000000000)) := Ent.two _ _ _ _
      refine lp_find hd hb hR h1 h2 (by omega) hk (n - a) (a + 1) _ none (by omega) (by omega) (hs.fq hE.1 (by decide) (by decide)) (ht.ent hE (by omega)) ⟨up2_same σ.2 31 _ _, up2_same σ.1 32 _ _⟩ (hd.2 a kb (by omega)) (fun σ' q1 q2 => k σ' q1.1 q1.2.1 (fun _ => q1.2.2.1) (hE.tr q2))
  · have g : nI a = σ.1 22 11 := by simpa using g
    rw [hs.1.1] at g
    have g : a = n := (nI_eq (by omega) (by omega)).mp g
    rw [es]
    refine ev_goto okMd_findBest rfl rfl trivial ?_
    refine ev_ic_ge okMd_findBest rfl rfl ⟨vs, vs, trivial⟩ (fun g2 => ?_) (fun g2 => ?_)
    · refine ev_nop okMd_findBest rfl rfl trivial (ev_nop okMd_findBest rfl rfl trivial ?_)
      rw [ei, nI_add]
      have hE : Ent (4 * a + kb) σ (up2 σ.1 32 (4 * a + kb) (nI 0), up2 σ.2 31 (4 * a + kb) (lN (0 : Fin 2).val)) := Ent.two _ _ _ _
      have e1 : (up2 σ.1 32 (4 * a + kb) (nI 0), up2 σ.2 31 (4 * a + kb) (lN (0 : Fin 2).val)).1 22 11 = nI n := (hs.fq hE.1 (by decide) (by decide)).1.1
      have hB := hd.1 kb
      rw [← g] at hB
      refine ev_ic_gt okMd_findBest rfl rfl trivial (fun g3 => ev_rv okMd_findBest rfl rfl trivial rfl (k _ ?_ ?_ (fun q => by omega) hE)) (fun g3 => absurd ?_ g3)
      · rw [hB]
        exact up2_same σ.2 31 _ _
      · rw [hB]
        exact up2_same σ.1 32 _ _
      · rw [e1]
        exact nI_lt (by omega) (by omega)
    · have e1 : (up2 (σ.1, up2 σ.2 31 (nI (4 * a + kb)).toNatClampNeg (lN (0 : Fin 2).val)).1 32 (nI (4 * a + kb)).toNatClampNeg (nI 0), (σ.1, up2 σ.2 31 (nI (4 * a + kb)).toNatClampNeg (lN (0 : Fin 2).val)).2).1 22 11 = nI n := by
        dsimp only
        rw [up2_ne _ _ _ (by decide)]; exact hs.1.1
      rw [e1, g] at g2
      exact absurd (Int32.le_refl _) g2
end RF
end
section
/-! ===== words, cut at their hyphen points ===== -/
def hlt (w : List Nat) : Bool := w.any (fun b => b != 94)
/-- the raw segments of a word: each but the last ends with the first ^ behind its letters -/
def sgs : List Nat → List Nat → List (List Nat)
  | cur, [] => [cur]
  | cur, b :: r => if b = 94 ∧ hlt cur = true ∧ hlt r = true then (cur ++ [94]) :: sgs [] r else sgs (cur ++ [b]) r
abbrev Seg : Type := List Nat × Nat × Bool
def mrk (u : Nat) : List (List Nat) → List Seg
  | [] => []
  | [s] => [(s, u, true)]
  | s :: t :: r => (s, u, false) :: mrk u (t :: r)
def wsg (w : List Nat) (u : Nat) : List Seg := mrk u (sgs [] w)
def SGs (ws : List (List Nat × Nat)) : List Seg := ws.flatMap (fun q => wsg q.1 q.2)
def psum {α : Type} (f : α → Nat) : Nat → List α → List Nat
  | _, [] => []
  | b, x :: r => (b + f x) :: psum f (b + f x) r
def tot {α : Type} (f : α → Nat) : List α → Nat
  | [] => 0
  | x :: r => f x + tot f r
theorem psum_app {α : Type} (f : α → Nat) : ∀ (x y : List α) (b : Nat), psum f b (x ++ y) = psum f b x ++ psum f (b + tot f x) y
  | [], y, b => by simp [psum, tot]
  | a :: x, y, b => by
    rw [List.cons_append, psum, psum, psum_app f x y, tot, List.cons_append, Nat.add_assoc]
theorem tot_app {α : Type} (f : α → Nat) : ∀ (x y : List α), tot f (x ++ y) = tot f x + tot f y
  | [], y => by simp [tot]
  | a :: x, y => by rw [List.cons_append, tot, tot_app f x y, tot, Nat.add_assoc]
theorem psum_len {α : Type} (f : α → Nat) : ∀ (x : List α) (b : Nat), (psum f b x).length = x.length
  | [], b => rfl
  | a :: x, b => by rw [psum, List.length_cons, List.length_cons, psum_len f x]
def nl (x : Seg) : Nat := (noC x.1).length
def ef (x : Seg) : Nat := if x.2.2 then 1 else 0
def rl (x : Seg) : Nat := x.1.length
def lbS (S : List Seg) : List Nat := 0 :: psum nl 0 S
def wbS (S : List Seg) : List Nat := 0 :: psum ef 0 S
def paS (S : List Seg) : List Nat := 0 :: psum rl 0 S
def ltS (S : List Seg) : List Nat := S.flatMap (fun x => noC x.1)
theorem noC_app (x y : List Nat) : noC (x ++ y) = noC x ++ noC y := by simp [noC]
theorem noC_c : noC [94] = [] := rfl
theorem noC_l {b : Nat} (h : b ≠ 94) : noC [b] = [b] := by simp [noC, h]
theorem hlt_noC (w : List Nat) : hlt w = true ↔ 0 < (noC w).length := by
  unfold hlt noC
  rw [List.any_eq_true, List.length_pos_iff]
  constructor
  · rintro ⟨b, h1, h2⟩ e
    have : b ∈ w.filter (fun b => b != 94) := List.mem_filter.mpr ⟨h1, h2⟩
    rw [e] at this
    exact absurd this List.not_mem_nil
  · intro h
    obtain ⟨b, hb⟩ := List.exists_mem_of_ne_nil _ h
    exact ⟨b, (List.mem_filter.mp hb).1, (List.mem_filter.mp hb).2⟩
theorem hlt_nil_noC {w : List Nat} (h : hlt w = false) : noC w = [] := by
  rcases Nat.eq_zero_or_pos (noC w).length with q | q
  · exact List.length_eq_zero_iff.mp q
  · rw [(hlt_noC w).mpr q] at h; cases h
theorem hlt_cons (b : Nat) (r : List Nat) : hlt (b :: r) = ((b != 94) || hlt r) := by simp [hlt]
theorem sgs_ne (cur r : List Nat) : sgs cur r ≠ [] := by
  induction r generalizing cur with
  | nil => simp [sgs]
  | cons b r ih =>
    rw [sgs]
    split
    · simp
    · exact ih _
theorem sgs_no : ∀ (r cur : List Nat), hlt r = false → sgs cur r = [cur ++ r]
  | [], cur, _ => by simp [sgs]
  | b :: r, cur, h => by
    rw [hlt_cons] at h
    have h2 : hlt r = false := by cases q : hlt r with
      | false => rfl
      | true => rw [q] at h; simp at h
    rw [sgs, if_neg (fun z => by rw [h2] at z; exact absurd z.2.2 (by decide)), sgs_no r _ h2]
    simp
theorem mrk_cons (u : Nat) (s : List Nat) {l : List (List Nat)} (h : l ≠ []) : mrk u (s :: l) = (s, u, false) :: mrk u l := by
  cases l with
  | nil => exact absurd rfl h
  | cons t r => rfl
/-- the letters before each hyphen point, as the class finds them -/
def hcC : Nat → Bool → List Nat → List Nat
  | _, _, [] => []
  | c, pv, b :: r => if b = 94 then hcC c true r else if 0 < c ∧ pv = true then c :: hcC (c + 1) false r else hcC (c + 1) false r
theorem hcC_no : ∀ (r : List Nat) (c : Nat) (pv : Bool), hlt r = false → hcC c pv r = []
  | [], c, pv, _ => rfl
  | b :: r, c, pv, h => by
    rw [hlt_cons] at h
    have h2 : hlt r = false := by cases q : hlt r with
      | false => rfl
      | true => rw [q] at h; simp at h
    have h3 : b = 94 := by
      by_cases e : b = 94
      · exact e
      · simp [e] at h
    rw [hcC, if_pos h3, hcC_no r c true h2]
theorem sg_all (u : Nat) : ∀ (r : List Nat),
    (∀ cur c, hlt cur = true → (noC cur).length ≤ c → psum nl (c - (noC cur).length) (mrk u (sgs cur r)) = hcC c false r ++ [c + (noC r).length]) ∧
    (∀ cur c, hlt cur = false → 0 < c → hlt r = true → ∃ t, hcC c true r = c :: t ∧ psum nl c (mrk u (sgs cur r)) = t ++ [c + (noC r).length]) ∧
    (∀ cur pv, hlt cur = false → psum nl 0 (mrk u (sgs cur r)) = hcC 0 pv r ++ [(noC r).length])
  | [] => by
    refine ⟨fun cur c h hc => ?_, fun cur c h _ h2 => ?_, fun cur pv h => ?_⟩
    · simp [sgs, mrk, psum, hcC, nl, noC]
      have : (List.filter (fun b => b != 94) cur).length ≤ c := hc
      omega
    · cases h2
    · have := hlt_nil_noC h
      simp [sgs, mrk, psum, hcC, nl, this]
      rfl
  | b :: r => by
    obtain ⟨iA, iB, iC⟩ := sg_all u r
    refine ⟨fun cur c h hc => ?_, fun cur c h hc0 h2 => ?_, fun cur pv h => ?_⟩
    · by_cases e : b = 94
      · subst e
        have hn : noC (94 :: r) = noC r := by simp [noC]
        rw [hn]
        by_cases hr : hlt r = true
        · rw [sgs, if_pos ⟨rfl, h, hr⟩, mrk_cons u _ (sgs_ne _ _), psum, hcC, if_pos rfl]
          have hv : c - (noC cur).length + nl (cur ++ [94], u, false) = c := by
            simp only [nl, noC_app, noC_c, List.append_nil]
            omega
          rw [hv]
          have hcpos : 0 < c := Nat.lt_of_lt_of_le ((hlt_noC cur).mp h) hc
          obtain ⟨t, t1, t2⟩ := iB [] c rfl hcpos hr
          rw [t1, t2]
          rfl
        · have hr : hlt r = false := by simpa using hr
          have hr2 : hlt (94 :: r) = false := by rw [hlt_cons, hr]; rfl
          rw [sgs_no _ _ hr2, hcC_no _ _ _ hr2, hlt_nil_noC hr]
          have : noC (cur ++ 94 :: r) = noC cur := by rw [noC_app, hn, hlt_nil_noC hr, List.append_nil]
          simp only [mrk, psum, nl, this, List.nil_append, List.length_nil, Nat.add_zero]
          rw [Nat.sub_add_cancel hc]
      · rw [sgs, if_neg (fun z => e z.1), hcC, if_neg e, if_neg (fun z => by cases z.2)]
        have h1 : noC (cur ++ [b]) = noC cur ++ [b] := by rw [noC_app, noC_l e]
        have h3 : hlt (cur ++ [b]) = true := (hlt_noC _).mpr (by rw [h1]; simp)
        have := iA (cur ++ [b]) (c + 1) h3 (by rw [h1]; simp; omega)
        rw [h1, List.length_append, List.length_singleton, show c + 1 - ((noC cur).length + 1) = c - (noC cur).length by omega] at this
        rw [this, show noC (b :: r) = b :: noC r by simp [noC, e], List.length_cons, show c + 1 + (noC r).length = c + ((noC r).length + 1) by omega]
    · by_cases e : b = 94
      · subst e
        have hr : hlt r = true := by rw [hlt_cons] at h2; simpa using h2
        rw [sgs, if_neg (fun z => by rw [h] at z; exact absurd z.2.1 (by decide)), hcC, if_pos rfl, show noC (94 :: r) = noC r by simp [noC]]
        have h3 : hlt (cur ++ [94]) = false := by
          cases q : hlt (cur ++ [94]) with
          | false => rfl
          | true =>
            have := (hlt_noC _).mp q
            rw [noC_app, hlt_nil_noC h] at this
            exact absurd this (by decide)
        exact iB (cur ++ [94]) c h3 hc0 hr
      · rw [sgs, if_neg (fun z => e z.1), hcC, if_neg e, if_pos ⟨hc0, rfl⟩]
        have h1 : noC (cur ++ [b]) = [b] := by rw [noC_app, noC_l e, hlt_nil_noC h]; rfl
        have h3 : hlt (cur ++ [b]) = true := (hlt_noC _).mpr (by rw [h1]; simp)
        have := iA (cur ++ [b]) (c + 1) h3 (by rw [h1]; simp)
        rw [h1, List.length_singleton, Nat.add_sub_cancel] at this
        refine ⟨_, rfl, ?_⟩
        rw [this, show noC (b :: r) = b :: noC r by simp [noC, e], List.length_cons, show c + 1 + (noC r).length = c + ((noC r).length + 1) by omega]
    · by_cases e : b = 94
      · subst e
        rw [sgs, if_neg (fun z => by rw [h] at z; exact absurd z.2.1 (by decide)), hcC, if_pos rfl, show noC (94 :: r) = noC r by simp [noC]]
        have h3 : hlt (cur ++ [94]) = false := by
          cases q : hlt (cur ++ [94]) with
          | false => rfl
          | true =>
            have := (hlt_noC _).mp q
            rw [noC_app, hlt_nil_noC h] at this
            exact absurd this (by decide)
        exact iC (cur ++ [94]) true h3
      · rw [sgs, if_neg (fun z => e z.1), hcC, if_neg e, if_neg (fun z => absurd z.1 (by decide))]
        have h1 : noC (cur ++ [b]) = [b] := by rw [noC_app, noC_l e, hlt_nil_noC h]; rfl
        have h3 : hlt (cur ++ [b]) = true := (hlt_noC _).mpr (by rw [h1]; simp)
        have := iA (cur ++ [b]) 1 h3 (by rw [h1]; simp)
        rw [h1, List.length_singleton, Nat.sub_self] at this
        rw [Nat.zero_add, this, show noC (b :: r) = b :: noC r by simp [noC, e], List.length_cons, Nat.add_comm]
theorem psum_shift {α : Type} (f : α → Nat) : ∀ (x : List α) (b c : Nat), psum f (b + c) x = (psum f c x).map (fun v => b + v)
  | [], b, c => rfl
  | a :: x, b, c => by rw [psum, psum, List.map_cons, Nat.add_assoc, psum_shift f x b]
/-- the letters before each place of a word -/
theorem wsg_nl (w : List Nat) (u B : Nat) : psum nl B (wsg w u) = (hcC 0 false w).map (fun v => B + v) ++ [B + (noC w).length] := by
  have := (sg_all u w).2.2 [] false rfl
  rw [show B = B + 0 from rfl, psum_shift]
  unfold wsg
  rw [this]
  simp
theorem mrk_ef (u : Nat) : ∀ (l : List (List Nat)) (wc : Nat), l ≠ [] → psum ef wc (mrk u l) = List.replicate (l.length - 1) wc ++ [wc + 1]
  | [], wc, h => absurd rfl h
  | [s], wc, _ => by simp [mrk, psum, ef]
  | s :: t :: r, wc, _ => by
    rw [mrk, psum]
    have := mrk_ef u (t :: r) wc (by simp)
    rw [show wc + ef (s, u, false) = wc from rfl, this]
    simp [List.replicate_succ]
theorem mrk_len (u : Nat) : ∀ (l : List (List Nat)), (mrk u l).length = l.length
  | [] => rfl
  | [s] => rfl
  | s :: t :: r => by
    rw [mrk, List.length_cons, mrk_len u (t :: r)]
    simp
theorem wsg_ef (w : List Nat) (u wc : Nat) : psum ef wc (wsg w u) = (hcC 0 false w).map (fun _ => wc) ++ [wc + 1] := by
  have h1 := mrk_ef u (sgs [] w) wc (sgs_ne _ _)
  have h2 := congrArg List.length ((sg_all u w).2.2 [] false rfl)
  rw [psum_len, mrk_len, List.length_append, List.length_singleton] at h2
  unfold wsg
  rw [h1, h2, Nat.add_sub_cancel]
  congr 1
  rw [List.map_const']
/-- the class's letters and places of a word -/
theorem aw_eq (wc B0 : Nat) : ∀ (w : List Nat) (pv : Bool) (L lb wb : List Nat), B0 ≤ L.length → aw wc B0 w pv L lb wb = (L ++ noC w, lb ++ (hcC (L.length - B0) pv w).map (fun v => B0 + v), wb ++ (hcC (L.length - B0) pv w).map (fun _ => wc))
  | [], pv, L, lb, wb, h => by simp [aw, hcC, noC]
  | b :: r, pv, L, lb, wb, h => by
    rw [aw, hcC]
    by_cases e : b = 94
    · rw [if_pos e, if_pos e, aw_eq wc B0 r true L lb wb h, show noC (b :: r) = noC r by simp [noC, e]]
    · have hn : noC (b :: r) = b :: noC r := by simp [noC, e]
      have hl : (L ++ [b]).length - B0 = L.length - B0 + 1 := by simp; omega
      rw [if_neg e, if_neg e]
      by_cases q : B0 < L.length ∧ pv = true
      · rw [if_pos q, if_pos ⟨by omega, q.2⟩, aw_eq wc B0 r false _ _ _ (by simp; omega), hl, hn]
        have : B0 + (L.length - B0) = L.length := by omega
        simp [this]
      · rw [if_neg q, if_neg (fun z => q ⟨by omega, z.2⟩), aw_eq wc B0 r false _ _ _ (by simp; omega), hl, hn]
        simp
theorem tot_nl (S : List Seg) : tot nl S = (ltS S).length := by
  induction S with
  | nil => rfl
  | cons x S ih =>
    rw [tot, ih]
    simp [ltS, nl]
theorem sgs_flat : ∀ (r cur : List Nat), (sgs cur r).flatten = cur ++ r
  | [], cur => by simp [sgs]
  | b :: r, cur => by
    rw [sgs]
    split
    · rename_i h
      rw [List.flatten_cons, sgs_flat r [], h.1]
      simp
    · rw [sgs_flat r (cur ++ [b])]
      simp
theorem mrk_fst (u : Nat) : ∀ l : List (List Nat), (mrk u l).map (fun x => x.1) = l
  | [] => rfl
  | [s] => rfl
  | s :: t :: r => by rw [mrk, List.map_cons, mrk_fst u (t :: r)]
theorem wsg_raw (w : List Nat) (u : Nat) : ((wsg w u).map (fun x => x.1)).flatten = w := by
  unfold wsg
  rw [mrk_fst, sgs_flat]
  rfl
theorem noC_flat : ∀ l : List (List Nat), noC l.flatten = l.flatMap noC
  | [] => rfl
  | s :: l => by rw [List.flatten_cons, noC_app, noC_flat l]; rfl
theorem ltS_wsg (w : List Nat) (u : Nat) : ltS (wsg w u) = noC w := by
  have h := noC_flat ((wsg w u).map (fun x => x.1))
  rw [wsg_raw] at h
  rw [h, List.flatMap_map]
  rfl
theorem ltS_app (x y : List Seg) : ltS (x ++ y) = ltS x ++ ltS y := by simp [ltS]
/-- the class's paragraph of the words ws -/
def clsP (ws : List (List Nat × Nat)) : List Nat × List Nat × List Nat × List Nat := (ltS (SGs ws), lbS (SGs ws), wbS (SGs ws), ws.map (fun q => q.2))
theorem tot_ef_mrk (u : Nat) : ∀ l : List (List Nat), l ≠ [] → tot ef (mrk u l) = 1
  | [], h => absurd rfl h
  | [s], _ => rfl
  | s :: t :: r, _ => by
    rw [mrk, tot, tot_ef_mrk u (t :: r) (by simp)]
    rfl
theorem tot_ef (ws : List (List Nat × Nat)) : tot ef (SGs ws) = ws.length := by
  induction ws with
  | nil => rfl
  | cons q ws ih =>
    have : SGs (q :: ws) = wsg q.1 q.2 ++ SGs ws := by simp [SGs]
    rw [this, tot_app, ih]
    unfold wsg
    rw [tot_ef_mrk _ _ (sgs_ne _ _), List.length_cons, Nat.add_comm]
theorem SGs_snoc (ws : List (List Nat × Nat)) (w : List Nat) (u : Nat) : SGs (ws ++ [(w, u)]) = SGs ws ++ wsg w u := by simp [SGs]
theorem addW_cls (ws : List (List Nat × Nat)) (w : List Nat) (u : Nat) : addW w u (clsP ws) = clsP (ws ++ [(w, u)]) := by
  unfold addW clsP
  dsimp only
  rw [aw_eq _ _ _ _ _ _ _ (Nat.le_refl _), Nat.sub_self, List.length_map, SGs_snoc]
  have e1 : lbS (SGs ws ++ wsg w u) = lbS (SGs ws) ++ psum nl (ltS (SGs ws)).length (wsg w u) := by
    unfold lbS
    rw [psum_app, Nat.zero_add, tot_nl]
    rfl
  have e2 : wbS (SGs ws ++ wsg w u) = wbS (SGs ws) ++ psum ef ws.length (wsg w u) := by
    unfold wbS
    rw [psum_app, Nat.zero_add, tot_ef]
    rfl
  rw [e1, e2, wsg_nl, wsg_ef, ltS_app, ltS_wsg]
  simp
end
section
/-! ===== what the places of words are ===== -/
theorem tot_take_le {α : Type} (f : α → Nat) (S : List α) {i j : Nat} (h : i ≤ j) : tot f (S.take i) ≤ tot f (S.take j) := by
  have : S.take j = S.take i ++ (S.drop i).take (j - i) := by
    rw [← List.take_append_drop i (S.take j), List.take_take, Nat.min_eq_left h, List.drop_take]
  rw [this, tot_app]
  omega
theorem tot_take_all {α : Type} (f : α → Nat) (S : List α) (j : Nat) : tot f (S.take j) ≤ tot f S := by
  have h := tot_app f (S.take j) (S.drop j)
  rw [List.take_append_drop] at h
  omega
theorem psum_at {α : Type} (f : α → Nat) : ∀ (S : List α) (b j : Nat), j < S.length → (psum f b S).getD j 0 = b + tot f (S.take (j + 1))
  | [], b, j, h => by simp at h
  | x :: S, b, 0, h => by simp [psum, tot]
  | x :: S, b, j + 1, h => by
    rw [psum, List.take_succ_cons, tot]
    have := psum_at f S (b + f x) j (by simpa using h)
    simp only [List.getD_cons_succ]
    rw [this]
    omega
theorem psL_at {α : Type} (f : α → Nat) (S : List α) {j : Nat} (h : j ≤ S.length) : (0 :: psum f 0 S).getD j 0 = tot f (S.take j) := by
  cases j with
  | zero => simp [tot]
  | succ j =>
    simp only [List.getD_cons_succ]
    rw [psum_at f S 0 j (by omega), Nat.zero_add]
theorem psL_len {α : Type} (f : α → Nat) (S : List α) : (0 :: psum f 0 S).length = S.length + 1 := by rw [List.length_cons, psum_len]
theorem psL_mono {α : Type} (f : α → Nat) (S : List α) : Mono (0 :: psum f 0 S) := by
  intro i j hij hj
  rw [psL_len] at hj
  rw [psL_at f S (by omega), psL_at f S (by omega)]
  exact tot_take_le f S hij
theorem psL_le {α : Type} (f : α → Nat) (S : List α) (j : Nat) : (0 :: psum f 0 S).getD j 0 ≤ tot f S := by
  by_cases h : j ≤ S.length
  · rw [psL_at f S h]; exact tot_take_all f S j
  · rw [gD0 (by rw [psL_len]; omega)]; omega
theorem tot_take_succ {α : Type} (f : α → Nat) (S : List α) {j : Nat} (h : j < S.length) : tot f (S.take (j + 1)) = tot f (S.take j) + f S[j] := by
  rw [List.take_succ, List.getElem?_eq_getElem h, tot_app]
  simp [tot]
theorem psL_step {α : Type} (f : α → Nat) (S : List α) {j : Nat} (h : j < S.length) : (0 :: psum f 0 S).getD (j + 1) 0 = (0 :: psum f 0 S).getD j 0 + f S[j] := by
  rw [psL_at f S (by omega), psL_at f S (by omega), tot_take_succ f S h]
theorem ef_le (x : Seg) : ef x ≤ 1 := by unfold ef; split <;> omega
theorem hyp_seg (S : List Seg) {p : Nat} (hp : p < S.length) : hyp (wbS S) (p + 1) = !(S[p].2.2) := by
  have hs : (wbS S).getD (p + 1) 0 = (wbS S).getD p 0 + ef S[p] := psL_step ef S hp
  have hl : (wbS S).length = S.length + 1 := psL_len ef S
  unfold hyp
  rw [Nat.add_sub_cancel, hs, hl]
  cases h : S[p].2.2 with
  | true =>
    have : ef S[p] = 1 := by simp [ef, h]
    rw [this]
    exact decide_eq_false (fun z => by omega)
  | false =>
    have : ef S[p] = 0 := by simp [ef, h]
    rw [this]
    exact decide_eq_true ⟨by omega, by omega, rfl⟩
/-- words as the paragraph has them: some letter, no blank, short -/
def WdOK (ws : List (List Nat × Nat)) : Prop := ws.length ≤ 80 ∧ ∀ q ∈ ws, hlt q.1 = true ∧ q.1.length ≤ 100 ∧ q.2 < 2 ∧ ∀ b ∈ q.1, 33 ≤ b ∧ b < 128
theorem sgs_cnt : ∀ (r cur : List Nat), hlt (cur ++ r) = true → 2 * (sgs cur r).length ≤ cur.length + r.length + 1
  | [], cur, h => by
    rw [List.append_nil] at h
    have : 0 < (noC cur).length := (hlt_noC cur).mp h
    have : (noC cur).length ≤ cur.length := List.length_filter_le _ _
    simp [sgs]
    omega
  | b :: r, cur, h => by
    rw [sgs]
    split
    · rename_i q
      have h1 := sgs_cnt r [] (by simpa using q.2.2)
      have : 0 < (noC cur).length := (hlt_noC cur).mp q.2.1
      have : (noC cur).length ≤ cur.length := List.length_filter_le _ _
      simp only [List.length_cons, List.length_nil] at h1 ⊢
      omega
    · have h1 := sgs_cnt r (cur ++ [b]) (by simpa using h)
      simp only [List.length_append, List.length_cons, List.length_nil] at h1 ⊢
      omega
theorem wsg_cnt {w : List Nat} {u : Nat} (h : hlt w = true) (hl : w.length ≤ 100) : (wsg w u).length ≤ 50 := by
  have := sgs_cnt w [] (by simpa using h)
  unfold wsg
  rw [mrk_len]
  simp at this
  omega
theorem SGs_cons (q : List Nat × Nat) (ws : List (List Nat × Nat)) : SGs (q :: ws) = wsg q.1 q.2 ++ SGs ws := by simp [SGs]
theorem SGs_cnt {ws : List (List Nat × Nat)} (h : ∀ q ∈ ws, hlt q.1 = true ∧ q.1.length ≤ 100) : (SGs ws).length ≤ 50 * ws.length ∧ (ltS (SGs ws)).length ≤ 100 * ws.length := by
  induction ws with
  | nil => simp [SGs, ltS]
  | cons q ws ih =>
    obtain ⟨i1, i2⟩ := ih (fun z hz => h z (List.mem_cons_of_mem _ hz))
    obtain ⟨h1, h2⟩ := h q List.mem_cons_self
    have h3 := wsg_cnt (u := q.2) h1 h2
    have h4 : (noC q.1).length ≤ q.1.length := List.length_filter_le _ _
    rw [SGs_cons, ltS_app, ltS_wsg]
    simp only [List.length_append, List.length_cons]
    omega
theorem mem_ltS {ws : List (List Nat × Nat)} {b : Nat} (h : b ∈ ltS (SGs ws)) : ∃ q ∈ ws, b ∈ q.1 := by
  induction ws with
  | nil => simp [SGs, ltS] at h
  | cons q ws ih =>
    rw [SGs_cons, ltS_app, ltS_wsg] at h
    rcases List.mem_append.mp h with h | h
    · exact ⟨q, List.mem_cons_self, (List.mem_filter.mp h).1⟩
    · obtain ⟨z, h1, h2⟩ := ih h
      exact ⟨z, List.mem_cons_of_mem _ h1, h2⟩
theorem wsg_last (w : List Nat) (u : Nat) {j : Nat} (hj : j < (wsg w u).length) : (wsg w u)[j].2.2 = decide (j + 1 = (wsg w u).length) := by
  have key : ∀ (l : List (List Nat)) (j : Nat) (hj : j < (mrk u l).length), (mrk u l)[j].2.2 = decide (j + 1 = (mrk u l).length) := by
    intro l
    induction l with
    | nil => intro j hj; simp [mrk] at hj
    | cons s l ih =>
      intro j hj
      cases l with
      | nil =>
        have : j = 0 := by simpa [mrk] using hj
        subst this
        simp [mrk]
      | cons t r =>
        cases j with
        | zero => simp [mrk, mrk_len]
        | succ j =>
          have hj' : j < (mrk u (t :: r)).length := by simpa [mrk] using hj
          have := ih j hj'
          simp only [mrk, List.getElem_cons_succ, List.length_cons]
          rw [this]
          simp
  exact key _ j hj
theorem tot_ef_part (w : List Nat) (u : Nat) {p : Nat} (hp : p < (wsg w u).length) : tot ef ((wsg w u).take p) = 0 := by
  induction p with
  | zero => rfl
  | succ p ih =>
    rw [tot_take_succ ef _ (by omega), ih (by omega)]
    have := wsg_last w u (show p < (wsg w u).length by omega)
    rw [decide_eq_false (by omega)] at this
    simp [ef, this]
/-- the raw length of words -/
def wl (q : List Nat × Nat) : Nat := q.1.length
def weS (ws : List (List Nat × Nat)) : List Nat := psum wl 0 ws
theorem tot_rl_wsg (w : List Nat) (u : Nat) : tot rl (wsg w u) = w.length := by
  have h := congrArg List.length (wsg_raw w u)
  have key : ∀ S : List Seg, tot rl S = ((S.map (fun x => x.1)).flatten).length := by
    intro S
    induction S with
    | nil => rfl
    | cons x S ih => rw [tot, ih]; simp [rl]
  rw [key, h]
theorem we_at (ws : List (List Nat × Nat)) {i : Nat} (h : i < ws.length) : (weS ws).getD i 0 = tot wl (ws.take (i + 1)) := by
  unfold weS
  rw [psum_at wl ws 0 i h, Nat.zero_add]
/-- ends of words among places -/
theorem we_place : ∀ (ws : List (List Nat × Nat)) (p : Nat), (p < (SGs ws).length → tot ef ((SGs ws).take p) < ws.length ∧ tot rl ((SGs ws).take (p + 1)) ≤ tot wl (ws.take (tot ef ((SGs ws).take p) + 1))) ∧
    (∀ h : p < (SGs ws).length, (SGs ws)[p].2.2 = true → tot rl ((SGs ws).take (p + 1)) = tot wl (ws.take (tot ef ((SGs ws).take (p + 1)))))
  | [], p => by
    refine ⟨fun h => by simp [SGs] at h, fun h => by simp [SGs] at h⟩
  | q :: ws, p => by
    have hS := SGs_cons q ws
    by_cases hp : p < (wsg q.1 q.2).length
    · have t0 : (SGs (q :: ws)).take p = (wsg q.1 q.2).take p := by rw [hS, List.take_append_of_le_length (by omega)]
      have t1 : (SGs (q :: ws)).take (p + 1) = (wsg q.1 q.2).take (p + 1) := by rw [hS, List.take_append_of_le_length (by omega)]
      have e0 := tot_ef_part q.1 q.2 hp
      refine ⟨fun _ => ?_, fun h he => ?_⟩
      · rw [t0, t1, e0]
        refine ⟨by simp, ?_⟩
        have := tot_take_all rl (wsg q.1 q.2) (p + 1)
        rw [tot_rl_wsg] at this
        simpa [tot, wl] using this
      · have hg : (SGs (q :: ws))[p] = (wsg q.1 q.2)[p] := by
          simp only [hS]
          rw [List.getElem_append_left hp]
        rw [hg, wsg_last q.1 q.2 hp] at he
        have he : p + 1 = (wsg q.1 q.2).length := of_decide_eq_true he
        rw [t1, List.take_of_length_le (by omega), tot_rl_wsg]
        have : tot ef (wsg q.1 q.2) = 1 := tot_ef_mrk _ _ (sgs_ne _ _)
        rw [this]
        simp [tot, wl]
    · obtain ⟨p', rfl⟩ : ∃ p', p = (wsg q.1 q.2).length + p' := ⟨p - (wsg q.1 q.2).length, by omega⟩
      obtain ⟨i1, i2⟩ := we_place ws p'
      have t0 : (SGs (q :: ws)).take ((wsg q.1 q.2).length + p') = wsg q.1 q.2 ++ (SGs ws).take p' := by rw [hS, List.take_append, List.take_of_length_le (by omega), Nat.add_sub_cancel_left]
      have t1 : (SGs (q :: ws)).take ((wsg q.1 q.2).length + p' + 1) = wsg q.1 q.2 ++ (SGs ws).take (p' + 1) := by rw [hS, List.take_append, List.take_of_length_le (by omega), Nat.add_assoc, Nat.add_sub_cancel_left]
      have e1 : tot ef (wsg q.1 q.2) = 1 := tot_ef_mrk _ _ (sgs_ne _ _)
      refine ⟨fun h => ?_, fun h he => ?_⟩
      · have h' : p' < (SGs ws).length := by rw [hS, List.length_append] at h; omega
        obtain ⟨j1, j2⟩ := i1 h'
        rw [t0, t1, tot_app, tot_app, e1, tot_rl_wsg]
        refine ⟨by simp; omega, ?_⟩
        rw [show 1 + tot ef ((SGs ws).take p') + 1 = (tot ef ((SGs ws).take p') + 1) + 1 by omega, List.take_succ_cons, tot]
        show q.1.length + _ ≤ q.1.length + _
        omega
      · have h' : p' < (SGs ws).length := by rw [hS, List.length_append] at h; omega
        have hg : (SGs (q :: ws))[(wsg q.1 q.2).length + p'] = (SGs ws)[p'] := by
          simp only [hS]
          rw [List.getElem_append_right (by omega)]
          simp
        rw [hg] at he
        have := i2 h' he
        rw [t1, tot_app, tot_app, e1, tot_rl_wsg, this]
        rw [show 1 + tot ef ((SGs ws).take (p' + 1)) = tot ef ((SGs ws).take (p' + 1)) + 1 by omega, List.take_succ_cons, tot]
        rfl
theorem SGs_end {ws : List (List Nat × Nat)} {p : Nat} (hp : p < (SGs ws).length) : tot ef ((SGs ws).take p) < ws.length := ((we_place ws p).1 hp).1
theorem cls_PaB {ws : List (List Nat × Nat)} (h : WdOK ws) : PaB (clsP ws).1 (clsP ws).2.1 (clsP ws).2.2.1 (clsP ws).2.2.2 := by
  refine ⟨psL_mono nl _, psL_mono ef _, fun j => ?_, fun j => ?_, fun j hj => ?_, fun b hb => ?_, fun u hu => ?_⟩
  · have := psL_le nl (SGs ws) j
    rw [tot_nl] at this
    exact this
  · have := psL_le ef (SGs ws) j
    rw [tot_ef] at this
    show _ ≤ (ws.map (fun q => q.2)).length
    rw [List.length_map]
    exact this
  · have hj' : j < (SGs ws).length := by
      have : (wbS (SGs ws)).length = (SGs ws).length + 1 := psL_len ef _
      have hj : j + 1 < (wbS (SGs ws)).length := hj
      omega
    show (wbS (SGs ws)).getD j 0 < (ws.map (fun q => q.2)).length
    rw [List.length_map]
    unfold wbS
    rw [psL_at ef _ (by omega)]
    exact SGs_end hj'
  · obtain ⟨q, h1, h2⟩ := mem_ltS hb
    exact ((h.2 q h1).2.2.2 b h2).2
  · obtain ⟨q, h1, rfl⟩ := List.mem_map.mp hu
    exact (h.2 q h1).2.2.1
theorem cls_PlB {ws : List (List Nat × Nat)} (h : WdOK ws) : PlB (clsP ws).2.1 (clsP ws).2.2.1 := by
  have hb := cls_PaB h
  have hc := SGs_cnt (fun q hq => ⟨(h.2 q hq).1, (h.2 q hq).2.1⟩)
  have h80 := h.1
  refine ⟨hb.1, hb.2.1, fun j => ?_, fun j => ?_, fun b hb0 hbl => ?_⟩
  · have := hb.2.2.1 j
    have : (clsP ws).1.length ≤ 8000 := by show (ltS (SGs ws)).length ≤ 8000; omega
    omega
  · have h1 := hb.2.2.2.1 j
    have h2 : (clsP ws).2.2.2.length = ws.length := by simp [clsP]
    omega
  · obtain ⟨j, rfl⟩ : ∃ j, b = j + 1 := ⟨b - 1, by omega⟩
    have hj : j < (SGs ws).length := by
      have : (wbS (SGs ws)).length = (SGs ws).length + 1 := psL_len ef _
      have hbl : j + 1 < (wbS (SGs ws)).length := hbl
      omega
    have := psL_step ef (SGs ws) hj
    have he := ef_le (SGs ws)[j]
    have e9 : (clsP ws).2.2.1 = 0 :: psum ef 0 (SGs ws) := rfl
    rw [Nat.add_sub_cancel, e9, this]
    omega
end
section
/-! ===== the reference: its places ===== -/
def rawW (ws : List (List Nat × Nat)) : List Nat := ws.flatMap (fun q => q.1.map (fun b => b + 256 * q.2))
/-- the reference's words: raw, with their underlining -/
def RwV (σ : St2) (ws : List (List Nat × Nat)) : Prop := σ.1 22 6 = nI ws.length ∧ RowAt σ 26 (weS ws) ∧ RowAt σ 25 (rawW ws)
theorem RwV.fq {S F : List Nat} {σ σ' : St2} {ws : List (List Nat × Nat)} (h : RwV σ ws) (hf : Fq S F σ σ') (h1 : 25 ∉ S) (h2 : 26 ∉ S) (h3 : 6 ∉ F) : RwV σ' ws := ⟨by rw [hf.g1 h3]; exact h.1, h.2.1.fq hf h2 (by decide), h.2.2.fq hf h1 (by decide)⟩
theorem rawW_len (ws : List (List Nat × Nat)) : (rawW ws).length = tot wl ws := by
  induction ws with
  | nil => rfl
  | cons q ws ih =>
    have : rawW (q :: ws) = q.1.map (fun b => b + 256 * q.2) ++ rawW ws := by simp [rawW]
    rw [this, List.length_append, ih, tot, List.length_map]
    rfl
theorem rawW_app (x y : List (List Nat × Nat)) : rawW (x ++ y) = rawW x ++ rawW y := by simp [rawW]
theorem rawW_cons (q : List Nat × Nat) (ws : List (List Nat × Nat)) : rawW (q :: ws) = q.1.map (fun b => b + 256 * q.2) ++ rawW ws := by simp [rawW]
theorem SGs_app (x y : List (List Nat × Nat)) : SGs (x ++ y) = SGs x ++ SGs y := by simp [SGs]
/-- byte j of word i, among the raw letters -/
theorem raw_at {ws : List (List Nat × Nat)} {i j : Nat} (hi : i < ws.length) (hj : j < ws[i].1.length) : tot wl (ws.take i) + j < (rawW ws).length ∧ (rawW ws).getD (tot wl (ws.take i) + j) 0 = ws[i].1.getD j 0 + 256 * ws[i].2 := by
  have hr : rawW ws = rawW (ws.take i) ++ (ws[i].1.map (fun b => b + 256 * ws[i].2) ++ rawW (ws.drop (i + 1))) := by
    have h1 : rawW (ws.take i ++ ws.drop i) = rawW (ws.take i) ++ rawW (ws.drop i) := rawW_app _ _
    rw [List.take_append_drop] at h1
    rw [h1, List.drop_eq_getElem_cons hi, rawW_cons]
  have hl := rawW_len (ws.take i)
  rw [hr]
  constructor
  · simp only [List.length_append, List.length_map, hl]
    omega
  · rw [List.getD_eq_getElem?_getD, List.getElem?_append_right (by omega), hl, Nat.add_sub_cancel_left, List.getElem?_append_left (by simpa using hj)]
    simp [hj]
def ipS (S : List Seg) : List Nat := 0 :: S.map (fun x => if x.2.2 then 0 else 1)
/-- the places that stand so far -/
def LpV (σ : St2) (S : List Seg) : Prop := σ.1 22 11 = nI S.length ∧ RowAt σ 27 (lbS S) ∧ RowAt σ 28 (wbS S) ∧ RowAt σ 29 (ipS S) ∧ RowAt σ 30 (paS S)
theorem psum_snoc {α : Type} (f : α → Nat) (S : List α) (x : α) : (0 :: psum f 0 (S ++ [x])) = (0 :: psum f 0 S) ++ [tot f S + f x] := by
  rw [psum_app, Nat.zero_add]
  rfl
theorem LpV.push {σ σ' : St2} {S : List Seg} (h : LpV σ S) (x : Seg) (h0 : σ'.1 22 11 = nI (S.length + 1)) (h27 : σ'.1 27 (S.length + 1) = nI (tot nl S + nl x)) (h28 : σ'.1 28 (S.length + 1) = nI (tot ef S + ef x)) (h29 : σ'.1 29 (S.length + 1) = nI (if x.2.2 then 0 else 1)) (h30 : σ'.1 30 (S.length + 1) = nI (tot rl S + rl x)) (o : ∀ c ∈ [27, 28, 29, 30], ∀ j, j ≠ S.length + 1 → σ'.1 c j = σ.1 c j) : LpV σ' (S ++ [x]) := by
  obtain ⟨a0, a1, a2, a3, a4⟩ := h
  have l1 : (0 :: psum nl 0 S).length = S.length + 1 := psL_len nl S
  have l2 : (0 :: psum ef 0 S).length = S.length + 1 := psL_len ef S
  have l4 : (0 :: psum rl 0 S).length = S.length + 1 := psL_len rl S
  have l3 : (ipS S).length = S.length + 1 := by simp [ipS]
  refine ⟨by rw [h0]; simp, ?_, ?_, ?_, ?_⟩
  · unfold lbS
    rw [psum_snoc]
    exact RowAt.push a1 (by rw [l1]; exact h27) (fun j hj => o 27 (by decide) j (by omega))
  · unfold wbS
    rw [psum_snoc]
    exact RowAt.push a2 (by rw [l2]; exact h28) (fun j hj => o 28 (by decide) j (by omega))
  · have : ipS (S ++ [x]) = ipS S ++ [if x.2.2 then 0 else 1] := by simp [ipS]
    rw [this]
    exact RowAt.push a3 (by rw [l3]; exact h29) (fun j hj => o 29 (by decide) j (by omega))
  · unfold paS
    rw [psum_snoc]
    exact RowAt.push a4 (by rw [l4]; exact h30) (fun j hj => o 30 (by decide) j (by omega))
section RL
variable {lc : Launch} {G : GG} {Q : Option Value → St2 → Prop} {ws : List (List Nat × Nat)}
theorem u27 (I : Nat → Nat → Int32) (b : Nat) (x : Int32) : up2 I 27 b x 22 = I 22 := up2_ne _ _ _ (by decide)
theorem u28 (I : Nat → Nat → Int32) (b : Nat) (x : Int32) : up2 I 28 b x 22 = I 22 := up2_ne _ _ _ (by decide)
theorem u29 (I : Nat → Nat → Int32) (b : Nat) (x : Int32) : up2 I 29 b x 22 = I 22 := up2_ne _ _ _ (by decide)
theorem u30 (I : Nat → Nat → Int32) (b : Nat) (x : Int32) : up2 I 30 b x 22 = I 22 := up2_ne _ _ _ (by decide)
theorem and255 {v : Nat} (h : v < 2 ^ 31) : nI v &&& nI 255 = nI (v % 256) := pk_andN (by omega) 8 (by decide)
theorem lp_bytesIn {σ : St2} (hw : RwV σ ws) (hok : WdOK ws) {i : Nat} (hi : i < ws.length) (hT : tot wl ws ≤ 8000) : ∀ (m j : Nat), j + m = ws[i].1.length → Q (some (.int (nI (noC ws[i].1).length))) σ → Ev lc G mMd_bytesIn 5 [some (.ref 22), none, some (.int (nI (tot wl (ws.take (i + 1))))), some (.int (nI (noC (ws[i].1.take j)).length)), some (.int (nI (tot wl (ws.take i) + j)))] [] σ Q := by
  have hT1 := tot_take_all wl ws (i + 1)
  have hT2 : tot wl (ws.take (i + 1)) = tot wl (ws.take i) + ws[i].1.length := tot_take_succ wl ws hi
  intro m
  induction m with
  | zero =>
    intro j hj k
    refine ev_ic_ge okMd_bytesIn rfl rfl trivial (fun g => ev_ri okMd_bytesIn rfl rfl trivial rfl ?_) (fun g => absurd (nI_le (by omega) (by omega)) g)
    rw [List.take_of_length_le (by omega)]
    exact k
  | succ m ih =>
    intro j hj k
    obtain ⟨r1, r2⟩ := raw_at hi (show j < ws[i].1.length by omega)
    obtain ⟨-, hl, hu, hbb⟩ := hok.2 ws[i] (List.getElem_mem hi)
    have hb1 : ws[i].1.getD j 0 < 128 := getD_lt (fun b hb => (hbb b hb).2) (by decide)
    have hv : σ.1 25 (nI (tot wl (ws.take i) + j)).toNatClampNeg = nI (ws[i].1.getD j 0 + 256 * ws[i].2) := by
      rw [nI_cl (by omega), hw.2.2 _ r1, r2]
    have hm : nI (ws[i].1.getD j 0 + 256 * ws[i].2) &&& nI 255 = nI (ws[i].1.getD j 0) := by
      rw [and255 (by omega)]
      congr 1
      omega
    refine ev_ic_ge okMd_bytesIn rfl rfl trivial (fun g => absurd g (nI_ge (by omega) (by omega))) (fun g => ?_)
    refine ev_ic_ne okMd_bytesIn rfl rfl ⟨vp_nI (by omega) (by decide), trivial⟩ (fun g => ?_) (fun g => ?_)
    · rw [hv, hm] at g
      have e : ¬ ws[i].1.getD j 0 = 94 := fun q => g (by rw [q])
      refine ev_nop okMd_bytesIn rfl rfl trivial (ev_goto okMd_bytesIn rfl rfl trivial ?_)
      rw [nI_add, nI_add]
      have := ih (j + 1) (by omega) k
      rw [noC_snoc (by omega), if_neg e, List.length_append, List.length_singleton] at this
      exact this
    · rw [hv, hm] at g
      have e : ws[i].1.getD j 0 = 94 := (nI_eq (by omega) (by decide)).mp (by simpa using g)
      refine ev_goto okMd_bytesIn rfl rfl trivial (ev_goto okMd_bytesIn rfl rfl trivial ?_)
      rw [nI_add]
      have := ih (j + 1) (by omega) k
      rw [noC_snoc (by omega), if_pos e, List.append_nil] at this
      exact this
theorem sp_bytesIn {σ : St2} (hw : RwV σ ws) (hok : WdOK ws) {i : Nat} (hi : i < ws.length) (hT : tot wl ws ≤ 8000) (k : Q (some (.int (nI (noC ws[i].1).length))) σ) : Ev lc G mMd_bytesIn 0 [some (.ref 22), some (.int (nI (tot wl (ws.take i)))), some (.int (nI (tot wl (ws.take (i + 1))))), none, none] [] σ Q :=
  ev_nop okMd_bytesIn rfl rfl trivial (ev_lv [some (.ref 22), none, some (.int (nI (tot wl (ws.take (i + 1))))), some (.int (nI 0)), some (.int (nI (tot wl (ws.take i))))] ⟨rfl, rfl, rfl, rfl, trivial⟩ (lp_bytesIn hw hok hi hT ws[i].1.length 0 (by omega) k))
/-- the bytes of a word, one by one -/
theorem lp_word {i : Nat} (hok : WdOK ws) (hi : i < ws.length) (hT : tot wl ws ≤ 8000) (hN : (SGs ws).length ≤ 4000) : ∀ (r cur : List Nat) (dn : List Seg) (σ : St2), RwV σ ws → LpV σ (SGs (ws.take i) ++ dn) → ws[i].1 = ((dn.map (fun x => x.1)).flatten ++ cur) ++ r → wsg ws[i].1 ws[i].2 = dn ++ mrk ws[i].2 (sgs cur r) → tot ef dn = 0 →
    (∀ σ' dn' cur', LpV σ' (SGs (ws.take i) ++ dn') → wsg ws[i].1 ws[i].2 = dn' ++ [(cur', ws[i].2, true)] → RwV σ' ws → Fq [27, 28, 29, 30] [11] σ σ' → Ev lc G mMd_layPlaces 182 [some (.ref 22), none, some (.int (nI (ltS (SGs (ws.take i))).length)), some (.int (nI i)), some (.int (nI (noC ws[i].1).length)), none, none, none] [] σ' Q) →
    Ev lc G mMd_layPlaces 69 [some (.ref 22), none, some (.int (nI (ltS (SGs (ws.take i))).length)), some (.int (nI i)), some (.int (nI (noC ws[i].1).length)), some (.int (nI (tot nl dn + (noC cur).length))), some (.int (nI (tot nl dn))), some (.int (nI (tot wl (ws.take i) + (tot rl dn + cur.length))))] [] σ Q := by
  have hT1 := tot_take_all wl ws (i + 1)
  have hT2 : tot wl (ws.take (i + 1)) = tot wl (ws.take i) + ws[i].1.length := tot_take_succ wl ws hi
  have h80 := hok.1
  obtain ⟨-, hl, hu, hbb⟩ := hok.2 ws[i] (List.getElem_mem hi)
  have hflat : ∀ dn : List Seg, ((dn.map (fun x => x.1)).flatten).length = tot rl dn := by
    intro dn
    induction dn with
    | nil => rfl
    | cons x dn ih => simp [tot, rl, ← ih]
  have hnoC : ∀ dn : List Seg, (noC (dn.map (fun x => x.1)).flatten).length = tot nl dn := by
    intro dn
    induction dn with
    | nil => rfl
    | cons x dn ih => rw [List.map_cons, List.flatten_cons, noC_app, List.length_append, ih]; rfl
  have hwe : ∀ σ : St2, RwV σ ws → σ.1 26 (nI i).toNatClampNeg = nI (tot wl (ws.take (i + 1))) := by
    intro σ hw
    rw [nI_cl (by omega), hw.2.1 i (by unfold weS; rw [psum_len]; exact hi), we_at ws hi]
  intro r
  induction r with
  | nil =>
    intro cur dn σ hw hp hr hs he k
    have hlen := congrArg List.length hr
    simp only [List.length_append, hflat, List.length_nil] at hlen
    refine ev_ic_ge okMd_layPlaces rfl rfl ⟨vp_nI (by omega) (by decide), trivial⟩ (fun g => ?_) (fun g => absurd ?_ g)
    · refine ev_lv [some (.ref 22), none, some (.int _), some (.int (nI i)), some (.int _), none, none, none] ⟨rfl, rfl, rfl, rfl, trivial⟩ (k σ dn cur hp ?_ hw Fq.rf)
      rw [hs]
      rfl
    · rw [hwe σ hw]
      exact nI_le (by omega) (by omega)
  | cons b r ih =>
    intro cur dn σ hw hp hr hs he k
    have hlen := congrArg List.length hr
    simp only [List.length_append, hflat, List.length_cons] at hlen
    have hall := congrArg (fun x => (noC x).length) hr
    simp only [noC_app, List.length_append, hnoC] at hall
    have hj : ws[i].1.getD (tot rl dn + cur.length) 0 = b := by
      rw [hr, List.getD_eq_getElem?_getD, List.getElem?_append_right (by simp [hflat])]
      simp [hflat]
    obtain ⟨r1, r2⟩ := raw_at hi (show tot rl dn + cur.length < ws[i].1.length by omega)
    rw [hj] at r2
    have hb1 : b < 128 := (hbb b (by rw [hr]; simp)).2
    have hv : σ.1 25 (nI (tot wl (ws.take i) + (tot rl dn + cur.length))).toNatClampNeg = nI (b + 256 * ws[i].2) := by
      rw [nI_cl (by omega), hw.2.2 _ r1, r2]
    have hm : nI (b + 256 * ws[i].2) &&& nI 255 = nI b := by
      rw [and255 (by omega)]
      congr 1
      omega
    have hnr : (noC (b :: r)).length ≤ r.length + 1 := List.length_filter_le (fun b => b != 94) (b :: r)
    have hnw : (noC ws[i].1).length ≤ 100 := Nat.le_trans (List.length_filter_le _ _) hl
    refine ev_ic_ge okMd_layPlaces rfl rfl ⟨vp_nI (by omega) (by decide), trivial⟩ (fun g => absurd g (by rw [hwe σ hw]; exact nI_ge (by omega) (by omega))) (fun g => ?_)
    -- no place here: the byte joins the segment
    have join : ¬ (b = 94 ∧ hlt cur = true ∧ hlt r = true) → Ev lc G mMd_layPlaces 176 [some (.ref 22), none, some (.int (nI (ltS (SGs (ws.take i))).length)), some (.int (nI i)), some (.int (nI (noC ws[i].1).length)), some (.int (nI (tot nl dn + (noC (cur ++ [b])).length))), some (.int (nI (tot nl dn))), some (.int (nI (tot wl (ws.take i) + (tot rl dn + cur.length))))] [] σ Q := by
      intro hno
      refine ev_goto okMd_layPlaces rfl rfl trivial ?_
      rw [nI_add]
      have := ih (cur ++ [b]) dn σ hw hp (by rw [hr]; simp) (by rw [hs, sgs, if_neg hno]) he k
      rw [List.length_append, List.length_singleton, show tot wl (ws.take i) + (tot rl dn + (cur.length + 1)) = tot wl (ws.take i) + (tot rl dn + cur.length) + 1 by omega] at this
      exact this
    refine ev_ic_eq okMd_layPlaces rfl rfl ⟨vp_nI (by omega) (by decide), trivial⟩ (fun g => ?_) (fun g => ?_)
    · rw [hv, hm] at g
      have e : b = 94 := (nI_eq (by omega) (by decide)).mp g
      have hncb : noC (cur ++ [b]) = noC cur := by rw [e, noC_app, noC_c, List.append_nil]
      have hnb : noC (b :: r) = noC r := by simp [noC, e]
      rw [hncb] at join
      rw [hnb] at hall
      refine ev_ic_le okMd_layPlaces rfl rfl trivial (fun g2 => ?_) (fun g2 => ?_)
      · have g2 : tot nl dn + (noC cur).length ≤ tot nl dn := (nI_leI (by omega) (by omega)).mp g2
        exact join (fun z => by have := (hlt_noC cur).mp z.2.1; omega)
      · have g2 : ¬ tot nl dn + (noC cur).length ≤ tot nl dn := fun q => g2 (nI_le q (by omega))
        refine ev_ic_ge okMd_layPlaces rfl rfl trivial (fun g3 => ?_) (fun g3 => ?_)
        · have g3 : (noC ws[i].1).length ≤ tot nl dn + (noC cur).length := (nI_leI (by omega) (by omega)).mp g3
          exact join (fun z => by have := (hlt_noC r).mp z.2.2; omega)
        · have g3 : ¬ (noC ws[i].1).length ≤ tot nl dn + (noC cur).length := fun q => g3 (nI_le q (by omega))
          have hc1 : hlt cur = true := (hlt_noC cur).mpr (by omega)
          have hc2 : hlt r = true := (hlt_noC r).mpr (by omega)
          have hS1 : wsg ws[i].1 ws[i].2 = (dn ++ [(cur ++ [94], ws[i].2, false)]) ++ mrk ws[i].2 (sgs [] r) := by
            rw [hs, sgs, if_pos ⟨e, hc1, hc2⟩, mrk_cons _ _ (sgs_ne _ _)]
            simp
          have hSl : (SGs (ws.take i) ++ dn).length + 1 ≤ 4000 := by
            have e1 : SGs ws = SGs (ws.take i) ++ (wsg ws[i].1 ws[i].2 ++ SGs (ws.drop (i + 1))) := by
              have h1 : SGs (ws.take i ++ ws.drop i) = SGs (ws.take i) ++ SGs (ws.drop i) := SGs_app _ _
              rw [List.take_append_drop] at h1
              rw [h1, List.drop_eq_getElem_cons hi, SGs_cons]
            have e2 := congrArg List.length e1
            have e3 := congrArg List.length hS1
            simp only [List.length_append, List.length_cons, List.length_nil] at e2 e3 ⊢
            omega
          have eX : σ.1 22 11 + nI 1 = nI ((SGs (ws.take i) ++ dn).length + 1) := by rw [hp.1, nI_add]
          have vpl : vp_in (nI ((SGs (ws.take i) ++ dn).length + 1)) 8101 := vp_nI (by omega) (by decide)
          have ecl : (nI ((SGs (ws.take i) ++ dn).length + 1)).toNatClampNeg = (SGs (ws.take i) ++ dn).length + 1 := nI_cl (by omega)
          have hti : tot ef (SGs (ws.take i) ++ dn) = i := by
            rw [tot_app, he, tot_ef, List.length_take]
            omega
          have htr : tot rl (SGs (ws.take i)) = tot wl (ws.take i) := by
            have key : ∀ l : List (List Nat × Nat), tot rl (SGs l) = tot wl l := by
              intro l
              induction l with
              | nil => rfl
              | cons q l ih => rw [SGs_cons, tot_app, tot_rl_wsg, ih]; rfl
            exact key _
          generalize hSd : SGs (ws.take i) ++ dn = S at *
          refine ev_nop okMd_layPlaces rfl rfl ⟨by simpa [up2, eX] using vpl, by simpa [up2, eX] using vpl, by simpa [up2, eX] using vpl, by simpa [up2, eX] using vpl, trivial⟩ ?_
          refine ev_goto okMd_layPlaces rfl rfl trivial ?_
          rw [nI_add]
          have hfq : Fq [27, 28, 29, 30] [11] σ (up2 (up2 (up2 (up2 (up2 σ.1 22 11 (nI (S.length + 1))) 27 (S.length + 1) (nI (ltS (SGs (ws.take i))).length + nI (tot nl dn + (noC cur).length))) 28 (S.length + 1) (nI i)) 30 (S.length + 1) (nI (tot wl (ws.take i) + (tot rl dn + cur.length)) + nI 1)) 29 (S.length + 1) (nI 1 &&& 1), σ.2) :=
            Fq.tr (Fq.tr (Fq.tr (Fq.tr (Fq.f1 (by decide)) (Fq.u1 (σ := (_, _)) (by decide) (by decide))) (Fq.u1 (σ := (_, _)) (by decide) (by decide))) (Fq.u1 (σ := (_, _)) (by decide) (by decide))) (Fq.u1 (σ := (_, _)) (by decide) (by decide))
          have hfin := ih [] (dn ++ [(cur ++ [94], ws[i].2, false)]) _ (hw.fq hfq (by decide) (by decide) (by decide)) ?_ (by rw [hr, e]; simp) hS1 (by rw [tot_app, he]; rfl) (fun σ' dn' cur' q1 q2 q3 q4 => k σ' dn' cur' q1 q2 q3 (hfq.tr q4))
          · have x1 : tot nl (dn ++ [(cur ++ [94], ws[i].2, false)]) = tot nl dn + (noC cur).length := by
              rw [tot_app]
              simp only [tot, nl, noC_app, noC_c, List.append_nil, Nat.add_zero]
            have x2 : tot rl (dn ++ [(cur ++ [94], ws[i].2, false)]) = tot rl dn + (cur.length + 1) := by
              rw [tot_app]
              simp only [tot, rl, List.length_append, List.length_singleton, Nat.add_zero]
            rw [x1, x2, show noC [] = [] from rfl, List.length_nil, Nat.add_zero, Nat.add_zero, show tot wl (ws.take i) + (tot rl dn + (cur.length + 1)) = tot wl (ws.take i) + (tot rl dn + cur.length) + 1 by omega] at hfin
            simp only [nI_add] at hfin
            simp only [u27, u28, u30, up2_same, eX, ecl, nI_add]
            exact hfin
          · rw [← List.append_assoc, hSd]
            refine LpV.push hp _ ?_ ?_ ?_ ?_ ?_ (fun c hc j hj => ?_)
            · simp [up2]
            · have : tot nl S = (ltS (SGs (ws.take i))).length + tot nl dn := by rw [← hSd, tot_app, tot_nl]
              simp only [up2, nI_add, nl, noC_app, noC_c, List.append_nil]
              simp [this]
              rw [Nat.add_assoc]
            · simp [up2, hti, ef]
            · simp [up2]; decide
            · have : tot rl S = tot wl (ws.take i) + tot rl dn := by rw [← hSd, tot_app, htr]
              simp [up2, nI_add, rl, this]
              congr 1
              omega
            · simp only [List.mem_cons, List.not_mem_nil, or_false] at hc
              rcases hc with rfl | rfl | rfl | rfl <;> simp [up2, hj]
    · rw [hv, hm] at g
      have e : ¬ b = 94 := fun q => g (by rw [q])
      have hncb : (noC (cur ++ [b])).length = (noC cur).length + 1 := by rw [noC_app, noC_l e, List.length_append]; rfl
      refine ev_goto okMd_layPlaces rfl rfl trivial ?_
      rw [nI_add]
      have := join (fun z => e z.1)
      rw [hncb] at this
      exact this
theorem lp_places (hok : WdOK ws) (hT : tot wl ws ≤ 8000) (hN : (SGs ws).length ≤ 4000) : ∀ (m i : Nat) (σ : St2), i + m = ws.length → RwV σ ws → LpV σ (SGs (ws.take i)) → (∀ σ', LpV σ' (SGs ws) → Fq [27, 28, 29, 30] [11] σ σ' → Q none σ') →
    Ev lc G mMd_layPlaces 39 [some (.ref 22), some (.int (nI (tot wl (ws.take i)))), some (.int (nI (ltS (SGs (ws.take i))).length)), some (.int (nI i)), none, none, none, none] [] σ Q := by
  have h80 := hok.1
  intro m
  induction m with
  | zero =>
    intro i σ hi hw hp k
    rw [List.take_of_length_le (show ws.length ≤ i by omega)] at hp
    refine ev_ic_ge okMd_layPlaces rfl rfl trivial (fun g => ev_rv okMd_layPlaces rfl rfl trivial rfl (k σ hp Fq.rf)) (fun g => absurd ?_ g)
    rw [hw.1]
    exact nI_le (by omega) (by omega)
  | succ m ih =>
    intro i σ hi hw hp k
    have hlt : i < ws.length := by omega
    have hT1 := tot_take_all wl ws (i + 1)
    have hT2 : tot wl (ws.take (i + 1)) = tot wl (ws.take i) + ws[i].1.length := tot_take_succ wl ws hlt
    obtain ⟨hh1, hl, hu, hbb⟩ := hok.2 ws[i] (List.getElem_mem hlt)
    have hwe : ∀ σ : St2, RwV σ ws → σ.1 26 (nI i).toNatClampNeg = nI (tot wl (ws.take (i + 1))) := by
      intro σ hw
      rw [nI_cl (by omega), hw.2.1 i (by unfold weS; rw [psum_len]; exact hlt), we_at ws hlt]
    have vi : vp_in (nI i) 80 := vp_nI (by omega) (by decide)
    have hSi : SGs (ws.take (i + 1)) = SGs (ws.take i) ++ wsg ws[i].1 ws[i].2 := by
      rw [List.take_succ, List.getElem?_eq_getElem hlt, SGs_app]
      simp [SGs]
    refine ev_ic_ge okMd_layPlaces rfl rfl trivial (fun g => absurd g (by rw [hw.1]; exact nI_ge hlt (by omega))) (fun g => ?_)
    refine ev_cv okMd_layPlaces okMd_bytesIn rfl rfl ⟨vi, trivial⟩ rfl (by decide +kernel) rfl rfl ?_
    rw [hwe σ hw]
    refine sp_bytesIn hw hok hlt hT ?_
    refine ev_nop okMd_layPlaces rfl rfl trivial ?_
    refine ev_lv [some (.ref 22), none, some (.int (nI (ltS (SGs (ws.take i))).length)), some (.int (nI i)), some (.int (nI (noC ws[i].1).length)), some (.int (nI 0)), some (.int (nI 0)), some (.int (nI (tot wl (ws.take i))))] ⟨rfl, rfl, rfl, rfl, rfl, rfl, rfl, trivial⟩ (lp_word hok hlt hT hN ws[i].1 [] [] σ hw (by rw [List.append_nil]; exact hp) (by simp) rfl rfl fun σ1 dn cur q1 q2 q3 q4 => ?_)
    have hS2 : SGs (ws.take (i + 1)) = (SGs (ws.take i) ++ dn) ++ [(cur, ws[i].2, true)] := by rw [hSi, q2, List.append_assoc]
    have hSl : (SGs (ws.take i) ++ dn).length + 1 ≤ 4000 := by
      have e1 : SGs ws = SGs (ws.take (i + 1)) ++ SGs (ws.drop (i + 1)) := by
        have h1 : SGs (ws.take (i + 1) ++ ws.drop (i + 1)) = _ := SGs_app _ _
        rwa [List.take_append_drop] at h1
      have e2 := congrArg List.length e1
      rw [hS2] at e2
      simp only [List.length_append, List.length_cons, List.length_nil] at e2 ⊢
      omega
    have t1 : tot nl (SGs (ws.take i) ++ dn) + nl (cur, ws[i].2, true) = (ltS (SGs (ws.take (i + 1)))).length := by
      rw [← tot_nl, hS2, tot_app nl (SGs (ws.take i) ++ dn)]
      rfl
    have t2 : tot ef (SGs (ws.take i) ++ dn) + ef (cur, ws[i].2, true) = i + 1 := by
      have := tot_ef (ws.take (i + 1))
      rw [hS2, tot_app ef (SGs (ws.take i) ++ dn), List.length_take] at this
      have e : tot ef [(cur, ws[i].2, true)] = ef (cur, ws[i].2, true) := rfl
      omega
    have t3 : tot rl (SGs (ws.take i) ++ dn) + rl (cur, ws[i].2, true) = tot wl (ws.take (i + 1)) := by
      have key : ∀ l : List (List Nat × Nat), tot rl (SGs l) = tot wl l := by
        intro l
        induction l with
        | nil => rfl
        | cons q l ih => rw [SGs_cons, tot_app, tot_rl_wsg, ih]; rfl
      rw [← key, hS2, tot_app rl (SGs (ws.take i) ++ dn)]
      rfl
    have t4 : (ltS (SGs (ws.take i))).length + (noC ws[i].1).length = (ltS (SGs (ws.take (i + 1)))).length := by rw [hSi, ltS_app, ltS_wsg, List.length_append]
    generalize hSd : SGs (ws.take i) ++ dn = S at *
    have eX : σ1.1 22 11 + nI 1 = nI (S.length + 1) := by rw [q1.1, nI_add]
    have vpl : vp_in (nI (S.length + 1)) 8101 := vp_nI (by omega) (by decide)
    have ecl : (nI (S.length + 1)).toNatClampNeg = S.length + 1 := nI_cl (by omega)
    have e26 : ∀ I : Nat → Nat → Int32, I 26 = σ1.1 26 → I 26 (nI i).toNatClampNeg = nI (tot wl (ws.take (i + 1))) := by
      intro I hI
      rw [hI]
      exact hwe σ1 q3
    refine ev_goto okMd_layPlaces rfl rfl ⟨by simpa [up2, eX] using vpl, by simpa [up2, eX] using vpl, vi, by simpa [up2, eX] using vpl, by simpa [up2, eX] using vpl, vi, trivial⟩ ?_
    have hfq : Fq [27, 28, 29, 30] [11] σ1 (up2 (up2 (up2 (up2 (up2 σ1.1 22 11 (nI (S.length + 1))) 27 (S.length + 1) (nI (ltS (SGs (ws.take (i + 1)))).length)) 28 (S.length + 1) (nI (i + 1))) 30 (S.length + 1) (nI (tot wl (ws.take (i + 1))))) 29 (S.length + 1) (nI 0 &&& 1), σ1.2) :=
      Fq.tr (Fq.tr (Fq.tr (Fq.tr (Fq.f1 (by decide)) (Fq.u1 (σ := (_, _)) (by decide) (by decide))) (Fq.u1 (σ := (_, _)) (by decide) (by decide))) (Fq.u1 (σ := (_, _)) (by decide) (by decide))) (Fq.u1 (σ := (_, _)) (by decide) (by decide))
    have hfin := ih (i + 1) _ (by omega) (q3.fq hfq (by decide) (by decide) (by decide)) ?_ (fun σ' r1 r2 => k σ' r1 ((q4.tr hfq).tr r2))
    · simp only [u27, u28, u29, u30, up2_same, eX, ecl, nI_add, t4]
      have r26 : ∀ (I : Nat → Nat → Int32) (b : Nat) (x : Int32), up2 I 27 b x 26 = I 26 ∧ up2 I 28 b x 26 = I 26 ∧ up2 I 29 b x 26 = I 26 ∧ up2 I 30 b x 26 = I 26 ∧ up2 I 22 b x 26 = I 26 := fun I b x => ⟨up2_ne _ _ _ (by decide), up2_ne _ _ _ (by decide), up2_ne _ _ _ (by decide), up2_ne _ _ _ (by decide), up2_ne _ _ _ (by decide)⟩
      simp only [(r26 _ _ _).1, (r26 _ _ _).2.1, (r26 _ _ _).2.2.1, (r26 _ _ _).2.2.2.1, (r26 _ _ _).2.2.2.2, hwe σ1 q3]
      exact ev_lv [some (.ref 22), some (.int (nI (tot wl (ws.take (i + 1))))), some (.int (nI (ltS (SGs (ws.take (i + 1)))).length)), some (.int (nI (i + 1))), none, none, none, none] ⟨rfl, rfl, rfl, rfl, trivial⟩ hfin
    · rw [hS2]
      refine LpV.push q1 _ ?_ ?_ ?_ ?_ ?_ (fun c hc j hj => ?_)
      · simp [up2]
      · rw [t1, ← hS2]; simp [up2]
      · rw [t2]; simp [up2]
      · simp [up2]; decide
      · rw [t3]; simp [up2]
      · simp only [List.mem_cons, List.not_mem_nil, or_false] at hc
        rcases hc with rfl | rfl | rfl | rfl <;> simp [up2, hj]
theorem sp_layPlaces {σ : St2} (hok : WdOK ws) (hw : RwV σ ws) (k : ∀ σ', LpV σ' (SGs ws) → Fq [27, 28, 29, 30] [11] σ σ' → Q none σ') : Ev lc G mMd_layPlaces 0 [some (.ref 22), none, none, none, none, none, none, none] [] σ Q := by
  have hc := SGs_cnt (fun q hq => ⟨(hok.2 q hq).1, (hok.2 q hq).2.1⟩)
  have h80 := hok.1
  have hT : tot wl ws ≤ 8000 := by
    have key : ∀ l : List (List Nat × Nat), (∀ q ∈ l, q.1.length ≤ 100) → tot wl l ≤ 100 * l.length := by
      intro l
      induction l with
      | nil => intro _; simp [tot]
      | cons q l ih =>
        intro h
        have h1 := ih (fun z hz => h z (List.mem_cons_of_mem _ hz))
        have h2 : wl q ≤ 100 := h q List.mem_cons_self
        rw [tot, List.length_cons]
        omega
    have := key ws (fun q hq => (hok.2 q hq).2.1)
    omega
  refine ev_nop okMd_layPlaces rfl rfl ⟨vp_nI (by decide) (by decide), vp_nI (by decide) (by decide), vp_nI (by decide) (by decide), vp_nI (by decide) (by decide), trivial⟩ ?_
  have hfq : Fq [27, 28, 29, 30] [11] σ (up2 (up2 (up2 (up2 (up2 σ.1 22 11 (nI 0)) 27 (nI 0).toNatClampNeg (nI 0)) 28 (nI 0).toNatClampNeg (nI 0)) 30 (nI 0).toNatClampNeg (nI 0)) 29 (nI 0).toNatClampNeg (nI 0 &&& 1), σ.2) :=
    Fq.tr (Fq.tr (Fq.tr (Fq.tr (Fq.f1 (by decide)) (Fq.u1 (σ := (_, _)) (by decide) (by decide))) (Fq.u1 (σ := (_, _)) (by decide) (by decide))) (Fq.u1 (σ := (_, _)) (by decide) (by decide))) (Fq.u1 (σ := (_, _)) (by decide) (by decide))
  refine lp_places hok hT (by omega) ws.length 0 _ (by omega) (hw.fq hfq (by decide) (by decide) (by decide)) ?_ (fun σ' r1 r2 => k σ' r1 (hfq.tr r2))
  have z0 : (nI 0).toNatClampNeg = 0 := nI_cl (by decide)
  refine ⟨?_, ?_, ?_, ?_, ?_⟩
  · simp [up2, SGs]
  all_goals (
    intro j hj
    have e : j = 0 := by simpa [lbS, wbS, ipS, paS, SGs, psum] using hj
    subst e
    simp [up2, z0, lbS, wbS, ipS, paS])
  decide
end RL
end
section
/-! ===== the reference: a line is laid ===== -/
theorem RsV_of {σ : St2} {ws : List (List Nat × Nat)} {R hh ii : Nat} (hp : LpV σ (SGs ws)) (hN : (SGs ws).length ≤ 4000) (h1 : σ.1 22 30 = nI R) (h2 : σ.1 22 43 = nI hh) (h3 : σ.1 22 28 = nI ii) : RsV σ (SGs ws).length (clsP ws).2.1 (clsP ws).2.2.1 R hh ii := by
  obtain ⟨a0, a1, a2, a3, a4⟩ := hp
  refine ⟨⟨a0, psL_len nl _, psL_len ef _, hN⟩, a1, a2, fun p hp => ?_, h1, h2, h3⟩
  have hl : (ipS (SGs ws)).length = (SGs ws).length + 1 := by simp [ipS]
  rw [a3 p (by omega)]
  cases p with
  | zero =>
    have : hyp (clsP ws).2.2.1 0 = false := decide_eq_false (fun z => by omega)
    rw [this]
    rfl
  | succ p =>
    have hp' : p < (SGs ws).length := by omega
    have e : hyp (clsP ws).2.2.1 (p + 1) = !((SGs ws)[p].2.2) := hyp_seg (SGs ws) hp'
    rw [e]
    have : (ipS (SGs ws)).getD (p + 1) 0 = if (SGs ws)[p].2.2 then 0 else 1 := by simp [ipS, hp']
    rw [this]
    cases (SGs ws)[p].2.2 <;> rfl
section RA
variable {lc : Launch} {G : GG} {σ : St2} {Q : Option Value → St2 → Prop}
theorem lp_addBlanks {N : Nat} : ∀ (m i : Nat) (σ : St2) (sh : List Nat), i + m = N → N < 1000 → sh.length + m ≤ 300 → LstR σ 3 24 300 sh → (∀ σ', LstR σ' 3 24 300 (sh ++ List.replicate m 32) → Fq [24] [3] σ σ' → Q none σ') → Ev lc G mMd_addBlanks 2 [some (.ref 22), some (.int (nI N)), some (.int (nI i))] [] σ Q := by
  intro m
  induction m with
  | zero =>
    intro i σ sh hi hN hc hs k
    rw [List.replicate_zero, List.append_nil] at k
    exact ev_ic_ge okMd_addBlanks rfl rfl trivial (fun g => ev_rv okMd_addBlanks rfl rfl trivial rfl (k σ hs Fq.rf)) (fun g => absurd (nI_le (by omega) (by omega)) g)
  | succ m ih =>
    intro i σ sh hi hN hc hs k
    obtain ⟨s1, s2, s3⟩ := hs
    refine ev_ic_ge okMd_addBlanks rfl rfl trivial (fun g => absurd g (nI_ge (by omega) (by omega))) (fun g => ?_)
    refine ev_goto okMd_addBlanks rfl rfl ⟨by rw [s2]; exact vp_nI (by omega) (by decide), trivial⟩ ?_
    rw [nI_add]
    refine ih (i + 1) _ (sh ++ [32]) (by omega) hN (by simp; omega) ⟨by simp; omega, ?_, RowAt.push s3 ?_ (fun j hj => ?_)⟩ (fun σ' q1 q2 => k σ' ?_ (Fq.tr (Fq.tr (Fq.u1 (by decide) (by decide)) (Fq.f1 (σ := (_, _)) (by decide))) q2))
    · simp [up2, s2, nI_add]
    · simp [up2, s2, nI_cl (show sh.length < 2 ^ 31 by omega)]
    · simp [up2, s2, nI_cl (show sh.length < 2 ^ 31 by omega), Nat.ne_of_lt hj]
    · rw [List.append_assoc] at q1
      exact q1
theorem sp_addBlanks {N : Nat} (hN : N < 1000) {sh : List Nat} (hc : sh.length + N ≤ 300) (hs : LstR σ 3 24 300 sh) (k : ∀ σ', LstR σ' 3 24 300 (sh ++ List.replicate N 32) → Fq [24] [3] σ σ' → Q none σ') : Ev lc G mMd_addBlanks 0 [some (.ref 22), some (.int (nI N)), none] [] σ Q :=
  ev_nop okMd_addBlanks rfl rfl trivial (lp_addBlanks N 0 σ sh (by omega) hN hc hs k)
end RA
/-- the codes of the piece behind place p -/
def pcR (S : List Seg) (p : Nat) : List Nat := match S[p]? with
  | some x => (noC x.1).map (fun b => b + 256 * x.2.1)
  | none => []
theorem seg_raw {ws : List (List Nat × Nat)} {p j : Nat} (hp : p < (SGs ws).length) (hj : j < (SGs ws)[p].1.length) : tot rl ((SGs ws).take p) + j < (rawW ws).length ∧ (rawW ws).getD (tot rl ((SGs ws).take p) + j) 0 = (SGs ws)[p].1.getD j 0 + 256 * (SGs ws)[p].2.1 := by
  have key : ∀ S : List Seg, ∀ (p j : Nat) (hp : p < S.length), j < S[p].1.length → tot rl (S.take p) + j < (S.flatMap (fun x => x.1.map (fun b => b + 256 * x.2.1))).length ∧ (S.flatMap (fun x => x.1.map (fun b => b + 256 * x.2.1))).getD (tot rl (S.take p) + j) 0 = S[p].1.getD j 0 + 256 * S[p].2.1 := by
    intro S
    induction S with
    | nil => intro p j hp; simp at hp
    | cons x S ih =>
      intro p j hp hj
      rw [List.flatMap_cons]
      cases p with
      | zero =>
        simp only [List.getElem_cons_zero] at hj
        refine ⟨by simp [tot]; omega, ?_⟩
        simp only [List.take_zero, tot, Nat.zero_add, List.getElem_cons_zero]
        rw [List.getD_eq_getElem?_getD, List.getElem?_append_left (by simpa using hj)]
        simp [hj]
      | succ p =>
        simp only [List.getElem_cons_succ] at hj
        obtain ⟨i1, i2⟩ := ih p j (by simpa using hp) hj
        simp only [List.take_succ_cons, tot, List.getElem_cons_succ]
        have hl : (x.1.map (fun b => b + 256 * x.2.1)).length = rl x := by simp [rl]
        refine ⟨by rw [List.length_append, hl]; omega, ?_⟩
        rw [List.getD_eq_getElem?_getD, List.getElem?_append_right (by omega), hl, show rl x + tot rl (S.take p) + j - rl x = tot rl (S.take p) + j by omega, ← List.getD_eq_getElem?_getD]
        exact i2
  have hraw : (SGs ws).flatMap (fun x => x.1.map (fun b => b + 256 * x.2.1)) = rawW ws := by
    have one : ∀ (w : List Nat) (u : Nat), (wsg w u).flatMap (fun x => x.1.map (fun b => b + 256 * x.2.1)) = w.map (fun b => b + 256 * u) := by
      intro w u
      have hm : ∀ l : List (List Nat), (mrk u l).flatMap (fun x => x.1.map (fun b => b + 256 * x.2.1)) = l.flatten.map (fun b => b + 256 * u) := by
        intro l
        induction l with
        | nil => rfl
        | cons s l ih =>
          cases l with
          | nil => simp [mrk]
          | cons t r =>
            rw [mrk, List.flatMap_cons, ih]
            simp
      unfold wsg
      rw [hm, sgs_flat]
      rfl
    induction ws with
    | nil => rfl
    | cons q ws ih =>
      rw [SGs_cons, List.flatMap_append, one, rawW_cons]
      congr 1
      have : ∀ ws : List (List Nat × Nat), (SGs ws).flatMap (fun x => x.1.map (fun b => b + 256 * x.2.1)) = rawW ws := by
        intro ws
        induction ws with
        | nil => rfl
        | cons q ws ih2 => rw [SGs_cons, List.flatMap_append, one, rawW_cons, ih2]
      exact this ws
  rw [← hraw]
  exact key (SGs ws) p j hp hj
section RY
variable {lc : Launch} {G : GG} {Q : Option Value → St2 → Prop} {ws : List (List Nat × Nat)} {a b sl : Nat}
/-- what the laying of a line reads: words and places -/
def LyV (σ : St2) (ws : List (List Nat × Nat)) : Prop := (True ∧ RowAt σ 26 (weS ws) ∧ RowAt σ 25 (rawW ws)) ∧ LpV σ (SGs ws)
theorem LyV.fq {σ σ' : St2} (h : LyV σ ws) (hf : Fq [24] [3] σ σ') : LyV σ' ws := ⟨⟨trivial, h.1.2.1.fq hf (by decide) (by decide), h.1.2.2.fq hf (by decide) (by decide)⟩, by rw [hf.g1 (by decide)]; exact h.2.1, h.2.2.1.fq hf (by decide) (by decide), h.2.2.2.1.fq hf (by decide) (by decide), h.2.2.2.2.1.fq hf (by decide) (by decide), h.2.2.2.2.2.fq hf (by decide) (by decide)⟩
abbrev laL (a b sl g kb w k : Nat) : LV := [some (.ref 22), some (.int (nI a)), some (.int (nI b)), some (.int (nI sl)), some (.int (nI g)), some (.int (nI kb)), some (.int (nI w)), some (.int (nI k))]
theorem pa_at {S : List Seg} {p : Nat} (h : p ≤ S.length) : (paS S).getD p 0 = tot rl (S.take p) := psL_at rl S h
theorem wb_at {S : List Seg} {p : Nat} (h : p ≤ S.length) : (wbS S).getD p 0 = tot ef (S.take p) := psL_at ef S h
/-- the bytes of a segment -/
theorem lp_seg (hok : WdOK ws) (hN : (SGs ws).length ≤ 4000) (hT : tot rl (SGs ws) ≤ 8000) (hb : b ≤ (SGs ws).length) {p : Nat} (hp : p < b) {g kb w : Nat} (hw : w ≤ 80) (hwp : w = tot ef ((SGs ws).take p)) : ∀ (m j : Nat) (σ : St2) (sh : List Nat), j + m = ((SGs ws)[p]'(by omega)).1.length → 0 < m → LyV σ ws → LstR σ 3 24 300 sh → sh.length + (noC (((SGs ws)[p]'(by omega)).1.drop j)).length ≤ 300 →
    (∀ σ', LstR σ' 3 24 300 (sh ++ (noC (((SGs ws)[p]'(by omega)).1.drop j)).map (fun c => c + 256 * ((SGs ws)[p]'(by omega)).2.1)) → Fq [24] [3] σ σ' → Ev lc G mMd_layLine 58 (laL a b sl g kb w (tot rl ((SGs ws).take (p + 1)))) [] σ' Q) →
    Ev lc G mMd_layLine 142 (laL a b sl g kb w (tot rl ((SGs ws).take p) + j)) [] σ Q := by
  have hpl : p < (SGs ws).length := by omega
  have hpa : ∀ σ : St2, LyV σ ws → σ.1 30 (nI b).toNatClampNeg = nI (tot rl ((SGs ws).take b)) := by
    intro σ h
    rw [nI_cl (by omega), h.2.2.2.2.2 b (by rw [show (paS (SGs ws)).length = (SGs ws).length + 1 from psL_len rl _]; omega), pa_at hb]
  have hpw : ∀ σ : St2, LyV σ ws → σ.1 28 (nI b).toNatClampNeg = nI (tot ef ((SGs ws).take b)) := by
    intro σ h
    rw [nI_cl (by omega), h.2.2.2.1 b (by rw [show (wbS (SGs ws)).length = (SGs ws).length + 1 from psL_len ef _]; omega), wb_at hb]
  have vb : vp_in (nI b) 8101 := vp_nI (by omega) (by decide)
  have h1 := tot_take_succ rl (SGs ws) hpl
  have h2 := tot_take_le rl (SGs ws) (show p + 1 ≤ b by omega)
  have h3 := tot_take_all rl (SGs ws) b
  have hwl : w < ws.length := by rw [hwp]; exact SGs_end hpl
  have hwe : ∀ σ : St2, LyV σ ws → σ.1 26 (nI w).toNatClampNeg = nI (tot wl (ws.take (w + 1))) := by
    intro σ h
    rw [nI_cl (by omega), h.1.2.1 w (by unfold weS; rw [psum_len]; exact hwl), we_at ws hwl]
  have hF4 : tot rl ((SGs ws).take (p + 1)) ≤ tot wl (ws.take (w + 1)) := by rw [hwp]; exact ((we_place ws p).1 hpl).2
  have hwt := tot_take_all wl ws (w + 1)
  have htw : tot wl ws = tot rl (SGs ws) := by
    have key : ∀ l : List (List Nat × Nat), tot rl (SGs l) = tot wl l := by
      intro l
      induction l with
      | nil => rfl
      | cons q l ih => rw [SGs_cons, tot_app, tot_rl_wsg, ih]; rfl
    exact (key ws).symm
  have h80 := hok.1
  have hefb : tot ef ((SGs ws).take b) ≤ 80 := by
    have h5 := tot_take_all ef (SGs ws) b
    rw [tot_ef] at h5
    omega
  generalize hx : (SGs ws)[p]'hpl = x at *
  intro m
  induction m with
  | zero => intro j σ sh _ h0; omega
  | succ m ih =>
    intro j σ sh hj _ hly hs hcap k
    have hjl : j < x.1.length := by omega
    have hrl : rl x = x.1.length := rfl
    obtain ⟨r1, r2⟩ := seg_raw (ws := ws) (p := p) (j := j) hpl (by rw [hx]; exact hjl)
    rw [hx] at r2
    have hmem : ∀ c ∈ x.1, 33 ≤ c ∧ c < 128 := by
      intro c hc
      have : x ∈ SGs ws := by rw [← hx]; exact List.getElem_mem hpl
      obtain ⟨q, q1, q2⟩ := List.mem_flatMap.mp this
      have hraw := wsg_raw q.1 q.2
      refine (hok.2 q q1).2.2.2 c ?_
      rw [← hraw]
      exact List.mem_flatten.mpr ⟨x.1, List.mem_map.mpr ⟨x, q2, rfl⟩, hc⟩
    have hu : x.2.1 < 2 := by
      have : x ∈ SGs ws := by rw [← hx]; exact List.getElem_mem hpl
      obtain ⟨q, q1, q2⟩ := List.mem_flatMap.mp this
      have hm : ∀ (u : Nat) (l : List (List Nat)) (z : Seg), z ∈ mrk u l → z.2.1 = u := by
        intro u l
        induction l with
        | nil => intro z hz; simp [mrk] at hz
        | cons s l ih =>
          intro z hz
          cases l with
          | nil =>
            have : z = (s, u, true) := by simpa [mrk] using hz
            rw [this]
          | cons t r =>
            rw [mrk] at hz
            rcases List.mem_cons.mp hz with rfl | hz
            · rfl
            · exact ih z hz
      rw [hm q.2 _ x q2]
      exact (hok.2 q q1).2.2.1
    have hb1 : x.1.getD j 0 < 128 := getD_lt (fun c hc => (hmem c hc).2) (by decide)
    have hv : σ.1 25 (nI (tot rl ((SGs ws).take p) + j)).toNatClampNeg = nI (x.1.getD j 0 + 256 * x.2.1) := by
      rw [nI_cl (by omega), hly.1.2.2 _ r1, r2]
    have hm : nI (x.1.getD j 0 + 256 * x.2.1) &&& nI 255 = nI (x.1.getD j 0) := by
      rw [and255 (by omega)]
      congr 1
      omega
    have hdrop : x.1.drop j = x.1.getD j 0 :: x.1.drop (j + 1) := by rw [List.drop_eq_getElem_cons hjl, gD hjl]
    -- behind the byte
    have next : ∀ (σ1 : St2) (sh1 : List Nat), LyV σ1 ws → LstR σ1 3 24 300 sh1 → Fq [24] [3] σ σ1 → sh1.length + (noC (x.1.drop (j + 1))).length ≤ 300 → sh1 ++ (noC (x.1.drop (j + 1))).map (fun c => c + 256 * x.2.1) = sh ++ (noC (x.1.drop j)).map (fun c => c + 256 * x.2.1) → Ev lc G mMd_layLine 195 (laL a b sl g kb w (tot rl ((SGs ws).take p) + j)) [] σ1 Q := by
      intro σ1 sh1 q1 q2 q3 q4 q5
      refine ev_goto okMd_layLine rfl rfl trivial ?_
      rw [nI_add]
      by_cases hlast : j + 1 = x.1.length
      · have e1 : noC (x.1.drop (j + 1)) = [] := by rw [List.drop_eq_nil_of_le (by omega)]; rfl
        rw [e1, List.map_nil, List.append_nil] at q5
        have := k σ1 (by rw [← q5]; exact q2) q3
        rw [h1, hrl, ← hlast, ← Nat.add_assoc] at this
        exact this
      · have go := ih (j + 1) σ1 sh1 (by omega) (by omega) q1 q2 q4 (fun σ' r1 r2 => k σ' (by rw [q5] at r1; exact r1) (q3.tr r2))
        refine ev_ic_lt okMd_layLine rfl rfl ⟨vb, trivial⟩ (fun g => ?_) (fun g => absurd (by rw [hpa σ1 q1]; exact nI_lt (by omega) (by omega)) g)
        refine ev_ic_ge okMd_layLine rfl rfl ⟨vb, trivial⟩ (fun g2 => go) (fun g2 => ?_)
        refine ev_ic_ne okMd_layLine rfl rfl ⟨vp_nI (by omega) (by decide), trivial⟩ (fun g3 => go) (fun g3 => ?_)
        have g3 : nI (tot rl ((SGs ws).take p) + j + 1) = σ1.1 26 (nI w).toNatClampNeg := by simpa using g3
        rw [hwe σ1 q1] at g3
        have := (nI_eq (by omega) (by omega)).mp g3
        omega
    refine ev_ic_ge okMd_layLine rfl rfl ⟨vb, trivial⟩ (fun g => absurd g (by rw [hpa σ hly]; exact nI_ge (by omega) (by omega))) (fun g => ?_)
    refine ev_ic_eq okMd_layLine rfl rfl ⟨vp_nI (by omega) (by decide), trivial⟩ (fun g => ?_) (fun g => ?_)
    · rw [hv, hm] at g
      have e : x.1.getD j 0 = 94 := (nI_eq (by omega) (by decide)).mp g
      have e2 : noC (x.1.drop j) = noC (x.1.drop (j + 1)) := by rw [hdrop, e]; simp [noC]
      exact next σ sh hly hs Fq.rf (by rw [← e2]; exact hcap) (by rw [e2])
    · rw [hv, hm] at g
      have e : ¬ x.1.getD j 0 = 94 := fun q => g (by rw [q])
      have e2 : noC (x.1.drop j) = x.1.getD j 0 :: noC (x.1.drop (j + 1)) := by rw [hdrop]; simp only [noC]; rw [List.filter_cons_of_pos (by simpa using e)]
      rw [e2, List.length_cons] at hcap
      obtain ⟨s1, s2, s3⟩ := hs
      refine ev_nop okMd_layLine rfl rfl ⟨vp_nI (by omega) (by decide), by rw [s2]; exact vp_nI (by omega) (by decide), trivial⟩ ?_
      rw [hv]
      have f1 : Fq [24] [3] σ (up2 (up2 σ.1 24 (σ.1 22 3).toNatClampNeg (nI (x.1.getD j 0 + 256 * x.2.1)), σ.2).1 22 3 ((up2 σ.1 24 (σ.1 22 3).toNatClampNeg (nI (x.1.getD j 0 + 256 * x.2.1)), σ.2).1 22 3 + nI 1), (up2 σ.1 24 (σ.1 22 3).toNatClampNeg (nI (x.1.getD j 0 + 256 * x.2.1)), σ.2).2) := Fq.tr (Fq.u1 (by decide) (by decide)) (Fq.f1 (σ := (_, _)) (by decide))
      refine next _ (sh ++ [x.1.getD j 0 + 256 * x.2.1]) (hly.fq f1) ⟨by simp; omega, ?_, RowAt.push s3 ?_ (fun q hq => ?_)⟩ f1 (by simp; omega) (by rw [e2]; simp)
      · simp [up2, s2, nI_add]
      · simp [up2, s2, nI_cl (show sh.length < 2 ^ 31 by omega)]
      · simp [up2, s2, nI_cl (show sh.length < 2 ^ 31 by omega), Nat.ne_of_lt hq]
end RY
end
section
/-! ===== the reference: a line is laid, place by place ===== -/
section RZ
variable {lc : Launch} {G : GG} {Q : Option Value → St2 → Prop} {ws : List (List Nat × Nat)} {a b sl : Nat}
theorem pcR_at {S : List Seg} {p : Nat} (h : p < S.length) : pcR S p = (noC S[p].1).map (fun c => c + 256 * S[p].2.1) := by
  unfold pcR
  rw [List.getElem?_eq_getElem h]
theorem seg_pos {p : Nat} (hok : WdOK ws) (hp : p < (SGs ws).length) : 0 < (SGs ws)[p].1.length := by
  have hx : (SGs ws)[p] ∈ SGs ws := List.getElem_mem hp
  obtain ⟨q, q1, q2⟩ := List.mem_flatMap.mp hx
  have key : ∀ (r cur : List Nat), hlt (cur ++ r) = true → ∀ s ∈ sgs cur r, 0 < s.length := by
    intro r
    induction r with
    | nil =>
      intro cur h s hs
      have : s = cur := by simpa [sgs] using hs
      rw [this]
      rw [List.append_nil] at h
      have h1 := (hlt_noC cur).mp h
      have h2 : (noC cur).length ≤ cur.length := List.length_filter_le _ _
      omega
    | cons c r ih =>
      intro cur h s hs
      rw [sgs] at hs
      split at hs
      · rename_i z
        rcases List.mem_cons.mp hs with rfl | hs
        · simp
        · exact ih [] (by simpa using z.2.2) s hs
      · exact ih (cur ++ [c]) (by simpa using h) s hs
  have hm : (SGs ws)[p].1 ∈ sgs [] q.1 := by
    have : (SGs ws)[p].1 ∈ (wsg q.1 q.2).map (fun x => x.1) := List.mem_map.mpr ⟨_, q2, rfl⟩
    unfold wsg at this
    rwa [mrk_fst] at this
  exact key q.1 [] (by simpa using (hok.2 q q1).1) _ hm
theorem lp_lay (hok : WdOK ws) (hN : (SGs ws).length ≤ 4000) (hT : tot rl (SGs ws) ≤ 8000) (hb : b ≤ (SGs ws).length) (hab : a < b) (hsl : sl ≤ 1000) : ∀ (m p kb : Nat) (σ : St2) (sh : List Nat), p + m = b → a ≤ p → tot ef ((SGs ws).take a) + kb = (if a < p ∧ hyp (wbS (SGs ws)) p = false then tot ef ((SGs ws).take p) - 1 else tot ef ((SGs ws).take p)) → LyV σ ws → LstR σ 3 24 300 sh → sh.length + (wrt (pcR (SGs ws)) (wbS (SGs ws)) a (bln (wbS (SGs ws)) a b) sl m p kb).length + 1 ≤ 300 →
    (∀ σ', LstR σ' 3 24 300 (sh ++ wrt (pcR (SGs ws)) (wbS (SGs ws)) a (bln (wbS (SGs ws)) a b) sl m p kb) → Fq [24] [3] σ σ' → Ev lc G mMd_layLine 201 [some (.ref 22), none, some (.int (nI b)), none, none, none, none, none] [] σ' Q) →
    Ev lc G mMd_layLine 58 (laL a b sl (bln (wbS (SGs ws)) a b) kb (tot ef ((SGs ws).take a) + kb) (tot rl ((SGs ws).take p))) [] σ Q := by
  have h80 := hok.1
  have hefb : tot ef ((SGs ws).take b) ≤ ws.length := by
    have h5 := tot_take_all ef (SGs ws) b
    rwa [tot_ef] at h5
  have hpa : ∀ σ : St2, LyV σ ws → σ.1 30 (nI b).toNatClampNeg = nI (tot rl ((SGs ws).take b)) := by
    intro σ h
    rw [nI_cl (by omega), h.2.2.2.2.2 b (by rw [show (paS (SGs ws)).length = (SGs ws).length + 1 from psL_len rl _]; omega), pa_at hb]
  have hpw : ∀ σ : St2, LyV σ ws → σ.1 28 (nI b).toNatClampNeg = nI (tot ef ((SGs ws).take b)) := by
    intro σ h
    rw [nI_cl (by omega), h.2.2.2.1 b (by rw [show (wbS (SGs ws)).length = (SGs ws).length + 1 from psL_len ef _]; omega), wb_at hb]
  have hwe : ∀ (w : Nat) (σ : St2), w < ws.length → LyV σ ws → σ.1 26 (nI w).toNatClampNeg = nI (tot wl (ws.take (w + 1))) := by
    intro w σ hw h
    rw [nI_cl (by omega), h.1.2.1 w (by unfold weS; rw [psum_len]; exact hw), we_at ws hw]
  have vb : vp_in (nI b) 8101 := vp_nI (by omega) (by decide)
  have h3 := tot_take_all rl (SGs ws) b
  have htw : tot wl ws = tot rl (SGs ws) := by
    have key : ∀ l : List (List Nat × Nat), tot rl (SGs l) = tot wl l := by
      intro l
      induction l with
      | nil => rfl
      | cons q l ih => rw [SGs_cons, tot_app, tot_rl_wsg, ih]; rfl
    exact (key ws).symm
  have hwt : ∀ w, tot wl (ws.take w) ≤ 8000 := fun w => by have := tot_take_all wl ws w; omega
  have hg : bln (wbS (SGs ws)) a b = tot ef ((SGs ws).take (b - 1)) - tot ef ((SGs ws).take a) := by
    unfold bln
    rw [wb_at (by omega), wb_at (by omega)]
  have hgm := tot_take_le ef (SGs ws) (show a ≤ b - 1 by omega)
  have hgle : bln (wbS (SGs ws)) a b ≤ 80 := by
    have := tot_take_le ef (SGs ws) (show b - 1 ≤ b by omega)
    omega
  -- a word's end at place p
  have hend : ∀ p, 0 < p → p ≤ (SGs ws).length → hyp (wbS (SGs ws)) p = false → tot ef ((SGs ws).take p) = tot ef ((SGs ws).take (p - 1)) + 1 ∧ tot wl (ws.take (tot ef ((SGs ws).take p))) = tot rl ((SGs ws).take p) := by
    intro p h0 hp hh
    obtain ⟨q, rfl⟩ : ∃ q, p = q + 1 := ⟨p - 1, by omega⟩
    rw [hyp_seg (SGs ws) (by omega)] at hh
    have he : (SGs ws)[q].2.2 = true := by simpa using hh
    refine ⟨?_, ((we_place ws q).2 (by omega) he).symm⟩
    rw [Nat.add_sub_cancel, tot_take_succ ef (SGs ws) (by omega)]
    simp [ef, he]
  have hhy : ∀ p, 0 < p → p ≤ (SGs ws).length → hyp (wbS (SGs ws)) p = true → tot ef ((SGs ws).take p) = tot ef ((SGs ws).take (p - 1)) := by
    intro p h0 hp hh
    obtain ⟨q, rfl⟩ : ∃ q, p = q + 1 := ⟨p - 1, by omega⟩
    rw [hyp_seg (SGs ws) (by omega)] at hh
    have he : (SGs ws)[q].2.2 = false := by simpa using hh
    rw [Nat.add_sub_cancel, tot_take_succ ef (SGs ws) (by omega)]
    simp [ef, he]
  intro m
  induction m with
  | zero =>
    intro p kb σ sh hm hap hw hly hs hcap k
    have e : p = b := by omega
    subst e
    have hbp := tot_take_le ef (SGs ws) (show p - 1 ≤ p by omega)
    rw [show wrt (pcR (SGs ws)) (wbS (SGs ws)) a (bln (wbS (SGs ws)) a p) sl 0 p kb = [] from rfl, List.append_nil] at k
    refine ev_ic_lt okMd_layLine rfl rfl ⟨vb, trivial⟩ (fun q => absurd q (by rw [hpa σ hly]; exact Int32.lt_irrefl)) (fun q => ?_)
    cases hh : hyp (wbS (SGs ws)) p with
    | true =>
      rw [hh, if_neg (fun z => by cases z.2)] at hw
      refine ev_ic_ge okMd_layLine rfl rfl ⟨vb, trivial⟩ (fun q2 => ev_lv [some (.ref 22), none, some (.int (nI p)), none, none, none, none, none] ⟨rfl, rfl, trivial⟩ (k σ hs Fq.rf)) (fun q2 => absurd ?_ q2)
      rw [hpw σ hly, hw]
      exact Int32.le_refl _
    | false =>
      rw [hh, if_pos ⟨hab, rfl⟩] at hw
      obtain ⟨e1, e2⟩ := hend p (by omega) hb hh
      have hkg : kb = bln (wbS (SGs ws)) a p := by omega
      refine ev_ic_ge okMd_layLine rfl rfl ⟨vb, trivial⟩ (fun q2 => absurd q2 (by rw [hpw σ hly]; exact nI_ge (by omega) (by omega))) (fun q2 => ?_)
      refine ev_ic_ge okMd_layLine rfl rfl ⟨vb, trivial⟩ (fun q2 => absurd q2 (by rw [hpw σ hly]; exact nI_ge (by omega) (by omega))) (fun q2 => ?_)
      refine ev_ic_ne okMd_layLine rfl rfl ⟨vp_nI (by omega) (by decide), trivial⟩ (fun q3 => absurd ?_ q3) (fun q3 => ?_)
      · rw [hwe _ σ (by omega) hly, show tot ef ((SGs ws).take a) + kb + 1 = tot ef ((SGs ws).take p) by omega, e2]
      · refine ev_ic_ge okMd_layLine rfl rfl trivial (fun q4 => ?_) (fun q4 => absurd (by rw [hkg]; exact Int32.le_refl _) q4)
        rw [nI_add, show tot ef ((SGs ws).take a) + kb + 1 = tot ef ((SGs ws).take p) by omega]
        refine ev_ic_ge okMd_layLine rfl rfl ⟨vb, trivial⟩ (fun q5 => ?_) (fun q5 => absurd (by rw [hpw σ hly]; exact Int32.le_refl _) q5)
        refine ev_ic_ge okMd_layLine rfl rfl ⟨vb, trivial⟩ (fun q6 => ?_) (fun q6 => absurd (by rw [hpa σ hly]; exact Int32.le_refl _) q6)
        refine ev_goto okMd_layLine rfl rfl trivial ?_
        rw [nI_add]
        refine ev_ic_lt okMd_layLine rfl rfl ⟨vb, trivial⟩ (fun q7 => absurd q7 (by rw [hpa σ hly]; exact nI_nlt (by omega) (by omega))) (fun q7 => ?_)
        refine ev_ic_ge okMd_layLine rfl rfl ⟨vb, trivial⟩ (fun q8 => ev_lv [some (.ref 22), none, some (.int (nI p)), none, none, none, none, none] ⟨rfl, rfl, trivial⟩ (k σ hs Fq.rf)) (fun q8 => absurd (by rw [hpw σ hly]; exact Int32.le_refl _) q8)
  | succ m ih =>
    intro p kb σ sh hm hap hw hly hs hcap k
    have hpb : p < b := by omega
    have hpl : p < (SGs ws).length := by omega
    have hpos := seg_pos hok hpl
    have h1 := tot_take_succ rl (SGs ws) hpl
    have hrl : rl (SGs ws)[p] = (SGs ws)[p].1.length := rfl
    have h2 := tot_take_le rl (SGs ws) (show p + 1 ≤ b by omega)
    have hwl : tot ef ((SGs ws).take p) < ws.length := SGs_end hpl
    have hF4 := ((we_place ws p).1 hpl).2
    have hpm := tot_take_le ef (SGs ws) (show p ≤ b - 1 by omega)
    have hpm2 := tot_take_le ef (SGs ws) (show b - 1 ≤ b by omega)
    have hapm := tot_take_le ef (SGs ws) hap
    rw [wrt] at hcap k
    -- the piece of place p, then the next place
    have piece : ∀ (kb' : Nat) (σ1 : St2) (sh1 : List Nat), tot ef ((SGs ws).take a) + kb' = tot ef ((SGs ws).take p) → LyV σ1 ws → LstR σ1 3 24 300 sh1 → Fq [24] [3] σ σ1 → sh1.length + (pcR (SGs ws) p ++ wrt (pcR (SGs ws)) (wbS (SGs ws)) a (bln (wbS (SGs ws)) a b) sl m (p + 1) kb').length + 1 ≤ 300 →
        (∀ σ', LstR σ' 3 24 300 (sh1 ++ (pcR (SGs ws) p ++ wrt (pcR (SGs ws)) (wbS (SGs ws)) a (bln (wbS (SGs ws)) a b) sl m (p + 1) kb')) → Fq [24] [3] σ σ' → Ev lc G mMd_layLine 201 [some (.ref 22), none, some (.int (nI b)), none, none, none, none, none] [] σ' Q) →
        Ev lc G mMd_layLine 142 (laL a b sl (bln (wbS (SGs ws)) a b) kb' (tot ef ((SGs ws).take a) + kb') (tot rl ((SGs ws).take p))) [] σ1 Q := by
      intro kb' σ1 sh1 q1 q2 q3 q4 q5 q6
      have hpc := pcR_at hpl
      rw [hpc, List.length_append, List.length_map] at q5
      refine lp_seg (w := tot ef ((SGs ws).take a) + kb') (kb := kb') (g := bln (wbS (SGs ws)) a b) hok hN hT hb hpb (by omega) q1 (SGs ws)[p].1.length 0 σ1 sh1 (by omega) hpos q2 q3 (by rw [List.drop_zero]; omega) (fun σ2 r1 r2 => ?_)
      rw [List.drop_zero, ← hpc] at r1
      have f2 := q4.tr r2
      refine ih (p + 1) kb' σ2 (sh1 ++ pcR (SGs ws) p) (by omega) (by omega) ?_ (q2.fq r2) r1 (by rw [List.length_append, hpc, List.length_map]; omega) (fun σ' s1 s2 => q6 σ' (by rw [List.append_assoc] at s1; exact s1) (f2.tr s2))
      cases hh : hyp (wbS (SGs ws)) (p + 1) with
      | true =>
        rw [if_neg (fun z => by cases z.2), q1]
        have := hhy (p + 1) (by omega) (by omega) hh
        rw [Nat.add_sub_cancel] at this
        exact this.symm
      | false =>
        rw [if_pos ⟨by omega, rfl⟩, q1]
        have := (hend (p + 1) (by omega) (by omega) hh).1
        rw [Nat.add_sub_cancel] at this
        omega
    -- no blank before this piece
    have plain : ¬ (a < p ∧ hyp (wbS (SGs ws)) p = false) → Ev lc G mMd_layLine 80 (laL a b sl (bln (wbS (SGs ws)) a b) kb (tot ef ((SGs ws).take a) + kb) (tot rl ((SGs ws).take p))) [] σ Q := by
      intro hno
      rw [if_neg hno] at hw
      rw [if_neg (fun z => hno ⟨z.1, z.2.2⟩)] at hcap k
      have go := piece kb σ sh hw hly hs Fq.rf hcap k
      refine ev_ic_ge okMd_layLine rfl rfl ⟨vb, trivial⟩ (fun q2 => go) (fun q2 => ?_)
      refine ev_ic_ne okMd_layLine rfl rfl ⟨vp_nI (by omega) (by decide), trivial⟩ (fun q3 => go) (fun q3 => ?_)
      have q3 : nI (tot rl ((SGs ws).take p)) = σ.1 26 (nI (tot ef ((SGs ws).take a) + kb)).toNatClampNeg := by simpa using q3
      rw [hwe _ σ (by omega) hly] at q3
      have hx := hwt (tot ef ((SGs ws).take a) + kb + 1)
      have := (nI_eq (by omega) (by omega)).mp q3
      rw [hw] at this
      omega
    refine ev_ic_lt okMd_layLine rfl rfl ⟨vb, trivial⟩ (fun q => ?_) (fun q => absurd (by rw [hpa σ hly]; exact nI_lt (by omega) (by omega)) q)
    by_cases hc : a < p ∧ hyp (wbS (SGs ws)) p = false
    · rw [if_pos hc] at hw
      obtain ⟨e1, e2⟩ := hend p (by omega) (by omega) hc.2
      have hkg : kb < bln (wbS (SGs ws)) a b := by omega
      rw [if_pos ⟨hc.1, by omega, hc.2⟩] at hcap k
      generalize hgg : bln (wbS (SGs ws)) a b = g at *
      refine ev_ic_ge okMd_layLine rfl rfl ⟨vb, trivial⟩ (fun q2 => absurd q2 (by rw [hpw σ hly]; exact nI_ge (by omega) (by omega))) (fun q2 => ?_)
      refine ev_ic_ne okMd_layLine rfl rfl ⟨vp_nI (by omega) (by decide), trivial⟩ (fun q3 => absurd ?_ q3) (fun q3 => ?_)
      · rw [hwe _ σ (by omega) hly, show tot ef ((SGs ws).take a) + kb + 1 = tot ef ((SGs ws).take p) by omega, e2]
      · refine ev_ic_ge okMd_layLine rfl rfl trivial (fun q4 => absurd q4 (nI_ge hkg (by omega))) (fun q4 => ?_)
        have g2 : 0 < g := by omega
        have m1 : sl * (kb + 1) ≤ 1000 * 100 := Nat.mul_le_mul hsl (by omega)
        have m0 : sl * kb ≤ sl * (kb + 1) := Nat.mul_le_mul_left _ (by omega)
        have m2 : sl * kb / g ≤ sl * (kb + 1) / g := Nat.div_le_div_right m0
        have m3 : sl * (kb + 1) / g ≤ sl * (kb + 1) := Nat.div_le_self _ _
        refine ev_cv okMd_layLine okMd_addBlanks rfl rfl ⟨nI_ne0 g2 (by omega), nI_ne0 g2 (by omega), trivial⟩ rfl (by decide +kernel) rfl rfl ?_
        rw [nI_add, nI_add, pk_sub (show 1 ≤ kb + 1 by omega), Nat.add_sub_cancel, pk_mul, pk_mul, pk_div (by omega) g2 (by omega), pk_div (by omega) g2 (by omega), nI_add, pk_sub (by omega)]
        show Ev lc G mMd_addBlanks 0 [some (.ref 22), some (.int (nI (gap sl g kb))), none] [] σ _
        have hlen : (List.replicate (gap sl g kb) 32 ++ pcR (SGs ws) p ++ wrt (pcR (SGs ws)) (wbS (SGs ws)) a g sl m (p + 1) (kb + 1)).length = gap sl g kb + (pcR (SGs ws) p ++ wrt (pcR (SGs ws)) (wbS (SGs ws)) a g sl m (p + 1) (kb + 1)).length := by simp only [List.length_append, List.length_replicate, Nat.add_assoc]
        rw [hlen] at hcap
        refine sp_addBlanks (by omega) (by omega) hs fun σ1 r1 r2 => ?_
        refine ev_goto okMd_layLine rfl rfl trivial ?_
        have go := piece (kb + 1) σ1 (sh ++ List.replicate (gap sl g kb) 32) (by omega) (hly.fq r2) r1 r2 (by rw [List.length_append, List.length_replicate]; omega) (fun σ' s1 s2 => k σ' (by simp only [List.append_assoc] at s1 ⊢; exact s1) s2)
        rw [← Nat.add_assoc] at go
        refine ev_ic_ge okMd_layLine rfl rfl ⟨vb, trivial⟩ (fun q5 => go) (fun q5 => ?_)
        refine ev_ic_ne okMd_layLine rfl rfl ⟨vp_nI (by omega) (by decide), trivial⟩ (fun q6 => go) (fun q6 => ?_)
        have q6 : nI (tot rl ((SGs ws).take p)) = σ1.1 26 (nI (tot ef ((SGs ws).take a) + kb + 1)).toNatClampNeg := by simpa using q6
        rw [hwe _ σ1 (by omega) (hly.fq r2)] at q6
        have hx := hwt (tot ef ((SGs ws).take a) + kb + 1 + 1)
        have := (nI_eq (by omega) (by omega)).mp q6
        rw [show tot ef ((SGs ws).take a) + kb + 1 = tot ef ((SGs ws).take p) by omega] at this
        omega
    · exact plain hc
end RZ
end
section
/-! ===== the reference: layLine, note; the lines of both sides are one ===== -/
section RN
variable {lc : Launch} {G : GG} {σ : St2} {Q : Option Value → St2 → Prop} {ws : List (List Nat × Nat)} {R hh ii : Nat}
/-- the sheet of the line from a to b -/
def shC (ws : List (List Nat × Nat)) (r1 r2 : Nat) (jf : Bool) (a b : Nat) : List Nat :=
  wrt (pcR (SGs ws)) (wbS (SGs ws)) a (bln (wbS (SGs ws)) a b) (if jf = true ∧ b < (SGs ws).length then rmO r1 r2 a - lnO (lbS (SGs ws)) (wbS (SGs ws)) a b else 0) (b - a) a 0 ++ (if hyp (wbS (SGs ws)) b then [45] else [])
theorem sp_layLine (hok : WdOK ws) (hN : (SGs ws).length ≤ 4000) (hT : tot rl (SGs ws) ≤ 8000) (hR : R ≤ 80) (h1 : hh ≤ R) (h2 : ii ≤ R) (hs : RsV σ (SGs ws).length (lbS (SGs ws)) (wbS (SGs ws)) R hh ii) (hly : LyV σ ws) {jf : Bool} (hj : σ.1 22 26 = b2 jf) {a b : Nat} (hab : a < b) (hb : b ≤ (SGs ws).length) (hcap : (shC ws (R - hh) (R - ii) jf a b).length ≤ 298)
    (k : ∀ σ', LstR σ' 3 24 300 (shC ws (R - hh) (R - ii) jf a b) → Fq [24] [3] σ σ' → Q none σ') : Ev lc G mMd_layLine 0 [some (.ref 22), some (.int (nI a)), some (.int (nI b)), none, none, none, none, none] [] σ Q := by
  have hpl : PlB (lbS (SGs ws)) (wbS (SGs ws)) := cls_PlB hok
  have l2 := rmO_le (a := a) (show R - hh ≤ 80 by omega) (show R - ii ≤ 80 by omega)
  have h80 := hok.1
  have hea : tot ef ((SGs ws).take a) ≤ 80 := by
    have h5 := tot_take_all ef (SGs ws) a
    rw [tot_ef] at h5
    omega
  unfold shC at hcap k
  generalize hsl : (if jf = true ∧ b < (SGs ws).length then rmO (R - hh) (R - ii) a - lnO (lbS (SGs ws)) (wbS (SGs ws)) a b else 0) = sl at hcap k
  have hsl80 : sl ≤ 80 := by rw [← hsl]; split <;> omega
  have main : Ev lc G mMd_layLine 25 [some (.ref 22), some (.int (nI a)), some (.int (nI b)), none, none, none, none, none] [.int (nI sl)] σ Q := by
    refine ev_cv okMd_layLine okMd_blanksOf rfl rfl trivial rfl (by decide +kernel) rfl rfl (sp_blanksOf hs hpl hab hb ?_)
    have e1 : σ.1 28 (nI a).toNatClampNeg = nI (tot ef ((SGs ws).take a)) := by
      rw [nI_cl (by omega), hly.2.2.2.1 a (by rw [show (wbS (SGs ws)).length = (SGs ws).length + 1 from psL_len ef _]; omega), wb_at (by omega)]
    have e2 : σ.1 30 (nI a).toNatClampNeg = nI (tot rl ((SGs ws).take a)) := by
      rw [nI_cl (by omega), hly.2.2.2.2.2 a (by rw [show (paS (SGs ws)).length = (SGs ws).length + 1 from psL_len rl _]; omega), pa_at (by omega)]
    refine ev_nop okMd_layLine rfl rfl ⟨vp_nI (by omega) (by decide), vp_nI (by omega) (by decide), trivial⟩ ?_
    have f1 : Fq [24] [3] σ (up2 σ.1 22 3 (nI 0), σ.2) := Fq.f1 (by decide)
    have e1' : (up2 σ.1 22 3 (nI 0), σ.2).1 28 (nI a).toNatClampNeg = nI (tot ef ((SGs ws).take a)) := by rw [f1.a1 (by decide) (by decide)]; exact e1
    have e2' : (up2 σ.1 22 3 (nI 0), σ.2).1 30 (nI a).toNatClampNeg = nI (tot rl ((SGs ws).take a)) := by rw [f1.a1 (by decide) (by decide)]; exact e2
    rw [e1', e2']
    rw [List.length_append] at hcap
    refine lp_lay hok hN hT hb hab (by omega) (b - a) a 0 _ [] (by omega) (Nat.le_refl _) (by rw [if_neg (fun z => absurd z.1 (Nat.lt_irrefl _)), Nat.add_zero]) (hly.fq f1) ⟨by decide, up2_same σ.1 22 3 (nI 0), RowAt.nil⟩ (by rw [List.length_nil]; omega) (fun σ1 q1 q2 => ?_)
    rw [List.nil_append] at q1
    have f2 := f1.tr q2
    have v1 : σ1.1 29 (nI b).toNatClampNeg = b2 (hyp (wbS (SGs ws)) b) := by rw [nI_cl (by omega), f2.a1 (by decide) (by decide)]; exact hs.2.2.2.1 b hb
    refine ev_if_eq okMd_layLine rfl rfl ⟨vp_nI (by omega) (by decide), trivial⟩ (fun g => ?_) (fun g => ?_)
    · rw [v1, b2_0] at g
      refine ev_rv okMd_layLine rfl rfl trivial rfl (k σ1 ?_ f2)
      rw [g, if_neg (by decide), List.append_nil]
      exact q1
    · rw [v1, b2_0] at g
      have g : hyp (wbS (SGs ws)) b = true := by simpa using g
      rw [g, if_pos rfl] at k hcap
      obtain ⟨s1, s2, s3⟩ := q1
      have hlen : (wrt (pcR (SGs ws)) (wbS (SGs ws)) a (bln (wbS (SGs ws)) a b) sl (b - a) a 0).length < 299 := by simp at hcap; omega
      generalize wrt (pcR (SGs ws)) (wbS (SGs ws)) a (bln (wbS (SGs ws)) a b) sl (b - a) a 0 = sh at *
      refine ev_nop okMd_layLine rfl rfl ⟨by rw [s2]; exact vp_nI (by omega) (by decide), trivial⟩ (ev_rv okMd_layLine rfl rfl trivial rfl (k _ ⟨by simp; omega, ?_, RowAt.push s3 ?_ (fun q hq => ?_)⟩ (f2.tr (Fq.tr (Fq.u1 (by decide) (by decide)) (Fq.f1 (σ := (_, _)) (by decide))))))
      · simp [up2, s2, nI_add]
      · simp [up2, s2, nI_cl (show sh.length < 2 ^ 31 by omega)]
      · simp [up2, s2, nI_cl (show sh.length < 2 ^ 31 by omega), Nat.ne_of_lt hq]
  refine ev_if_eq okMd_layLine rfl rfl trivial (fun g => ?_) (fun g => ?_)
  · rw [hj, b2_0] at g
    rw [if_neg (fun z => by rw [g] at z; cases z.1)] at hsl
    subst hsl
    exact ev_nop okMd_layLine rfl rfl trivial main
  · rw [hj, b2_0] at g
    have g : jf = true := by simpa using g
    refine ev_ic_ge okMd_layLine rfl rfl trivial (fun g2 => ?_) (fun g2 => ?_)
    · rw [hs.1.1] at g2
      have g2 : (SGs ws).length ≤ b := (nI_leI (by omega) (by omega)).mp g2
      rw [if_neg (fun z => by omega)] at hsl
      subst hsl
      exact ev_nop okMd_layLine rfl rfl trivial main
    · rw [hs.1.1] at g2
      have g2 : b < (SGs ws).length := (Nat.lt_or_ge b _).resolve_right (fun z => g2 (nI_le z (by omega)))
      rw [if_pos ⟨g, g2⟩] at hsl
      refine ev_cv okMd_layLine okMd_slackOf rfl rfl trivial rfl (by decide +kernel) rfl rfl (sp_slackOf hs hpl hR h1 h2 hab hb ?_)
      rw [hsl]
      exact ev_goto okMd_layLine rfl rfl trivial main
/-- what the reference tells of lines -/
def NtV (σ : St2) (cnt : Nat) (F : List Nat) : Prop := cnt ≤ 4000 ∧ F.length = 6 * cnt ∧ σ.1 22 16 = nI cnt ∧ (∀ i, i < cnt → ∀ j, j < 6 → σ.1 (34 + j) i = nI (F.getD (6 * i + j) 0)) ∧ ∀ i, i < cnt → F.getD (6 * i + 4) 0 ≤ 1
theorem NtV.fq {S F' : List Nat} {σ σ' : St2} {cnt : Nat} {F : List Nat} (h : NtV σ cnt F) (hf : Fq S F' σ σ') (hs : ∀ c ∈ [34, 35, 36, 37, 38, 39], c ∉ S) (h16 : 16 ∉ F') : NtV σ' cnt F := by
  refine ⟨h.1, h.2.1, by rw [hf.g1 h16]; exact h.2.2.1, fun i hi j hj => ?_, h.2.2.2.2⟩
  have : 34 + j ∈ [34, 35, 36, 37, 38, 39] := by
    rcases (show j = 0 ∨ j = 1 ∨ j = 2 ∨ j = 3 ∨ j = 4 ∨ j = 5 by omega) with rfl | rfl | rfl | rfl | rfl | rfl <;> decide
  rw [hf.a1 (hs _ this) (by omega)]
  exact h.2.2.2.1 i hi j hj
theorem sp_note {n : Nat} {lb wb : List Nat} (hb : PlB lb wb) (hR : R ≤ 80) (h1 : hh ≤ R) (h2 : ii ≤ R) (hs : RsV σ n lb wb R hh ii) {cnt : Nat} {F : List Nat} (hn : NtV σ cnt F) (hc : cnt < 4000) {a b : Nat} (hab : a < b) (hbn : b ≤ n)
    (k : ∀ σ', NtV σ' (cnt + 1) (F ++ fct lb wb (R - hh) (R - ii) n a b) → Fq [34, 35, 36, 37, 38, 39] [16] σ σ' → Q none σ') : Ev lc G mMd_note 0 [some (.ref 22), some (.int (nI a)), some (.int (nI b))] [] σ Q := by
  obtain ⟨n1, n2, n3, n4, n5⟩ := hn
  have vc : vp_in (nI cnt) 8100 := vp_nI (by omega) (by decide)
  have ec : (nI cnt).toNatClampNeg = cnt := nI_cl (by omega)
  have h4 := hs.1.2.2.2
  refine ev_cv okMd_note okMd_lengthOf rfl rfl trivial rfl (by decide +kernel) rfl rfl (sp_lengthOfR hs hb hab hbn ?_)
  refine ev_cv okMd_note okMd_slackOf rfl rfl ⟨by rw [n3]; exact vc, trivial⟩ rfl (by decide +kernel) rfl rfl ?_
  rw [n3, ec]
  have f1 : Fq [34, 35, 36, 37, 38, 39] [16] σ (up2 σ.1 34 cnt (nI (lnO lb wb a b)), σ.2) := Fq.u1 (by decide) (by decide)
  generalize hS1 : (up2 σ.1 34 cnt (nI (lnO lb wb a b)), σ.2) = τ1 at f1 ⊢
  have s1 := hs.fq f1 (by decide) (by decide)
  have c1 : τ1.1 22 16 = nI cnt := by rw [← hS1]; dsimp only; rw [up2_ne _ _ _ (by decide)]; exact n3
  refine sp_slackOf s1 hb hR h1 h2 hab hbn ?_
  rw [c1]
  refine ev_cv okMd_note okMd_badnessOf rfl rfl ⟨vc, trivial⟩ rfl (by decide +kernel) rfl rfl ?_
  rw [ec]
  have f2 : Fq [34, 35, 36, 37, 38, 39] [16] τ1 (up2 τ1.1 35 cnt (nI (rmO (R - hh) (R - ii) a - lnO lb wb a b)), τ1.2) := Fq.u1 (by decide) (by decide)
  generalize hS2 : (up2 τ1.1 35 cnt (nI (rmO (R - hh) (R - ii) a - lnO lb wb a b)), τ1.2) = τ2 at f2 ⊢
  have s2 := s1.fq f2 (by decide) (by decide)
  have c2 : τ2.1 22 16 = nI cnt := by rw [← hS2]; dsimp only; rw [up2_ne _ _ _ (by decide)]; exact c1
  refine sp_badnessOfR s2 hb hR h1 h2 hab hbn ?_
  rw [c2]
  refine ev_cv okMd_note okMd_blanksOf rfl rfl ⟨vc, trivial⟩ rfl (by decide +kernel) rfl rfl ?_
  rw [ec]
  have f3 : Fq [34, 35, 36, 37, 38, 39] [16] τ2 (up2 τ2.1 36 cnt (nI (bdO lb wb (R - hh) (R - ii) n a b)), τ2.2) := Fq.u1 (by decide) (by decide)
  generalize hS3 : (up2 τ2.1 36 cnt (nI (bdO lb wb (R - hh) (R - ii) n a b)), τ2.2) = τ3 at f3 ⊢
  have s3 := s2.fq f3 (by decide) (by decide)
  have c3 : τ3.1 22 16 = nI cnt := by rw [← hS3]; dsimp only; rw [up2_ne _ _ _ (by decide)]; exact c2
  refine sp_blanksOf s3 hb hab hbn ?_
  rw [c3]
  have c4 : (up2 τ3.1 37 (nI cnt).toNatClampNeg (nI (bln wb a b)), τ3.2).1 22 16 = nI cnt := by dsimp only; rw [up2_ne _ _ _ (by decide)]; exact c3
  have i4 : (up2 τ3.1 37 (nI cnt).toNatClampNeg (nI (bln wb a b)), τ3.2).1 29 (nI b).toNatClampNeg = b2 (hyp wb b) := by dsimp only; rw [up2_ne _ _ _ (by decide), nI_cl (by omega)]; exact s3.2.2.2.1 b hbn
  have hbit : b2 (hyp wb b) &&& 1 = nI (if hyp wb b then 1 else 0) := by cases hyp wb b <;> decide
  refine ev_cv okMd_note okMd_roomOf rfl rfl ⟨vc, vp_nI (by omega) (by decide), by rw [c4]; exact vc, trivial⟩ rfl (by decide +kernel) rfl rfl ?_
  rw [c4, i4, hbit, ec]
  have f5 : Fq [34, 35, 36, 37, 38, 39] [16] τ3 (up2 (up2 τ3.1 37 cnt (nI (bln wb a b)), τ3.2).1 38 cnt (nI (if hyp wb b then 1 else 0)), (up2 τ3.1 37 cnt (nI (bln wb a b)), τ3.2).2) := Fq.tr (Fq.u1 (by decide) (by decide)) (Fq.u1 (σ := (_, _)) (by decide) (by decide))
  generalize hS5 : (up2 (up2 τ3.1 37 cnt (nI (bln wb a b)), τ3.2).1 38 cnt (nI (if hyp wb b then 1 else 0)), (up2 τ3.1 37 cnt (nI (bln wb a b)), τ3.2).2) = τ5 at f5 ⊢
  have s5 := s3.fq f5 (by decide) (by decide)
  have c5 : τ5.1 22 16 = nI cnt := by rw [← hS5]; dsimp only; rw [up2_ne _ _ _ (by decide), up2_ne _ _ _ (by decide)]; exact c3
  refine sp_roomOf s5 h1 h2 (by omega) ?_
  rw [c5]
  refine ev_rv okMd_note rfl rfl ⟨vc, trivial⟩ rfl ?_
  rw [ec]
  have c6 : (up2 τ5.1 39 cnt (nI (rmO (R - hh) (R - ii) a)), τ5.2).1 22 16 = nI cnt := by dsimp only; rw [up2_ne _ _ _ (by decide)]; exact c5
  rw [c6, nI_add]
  refine k _ ⟨by omega, by simp [fct]; omega, ?_, fun i hi j hj => ?_, fun i hi => ?_⟩ ((((f1.tr f2).tr f3).tr f5).tr (Fq.tr (Fq.u1 (by decide) (by decide)) (Fq.f1 (σ := (_, _)) (by decide))))
  · dsimp only
    rw [up2_same]
  · by_cases e : i = cnt
    · subst e
      have hg : (F ++ fct lb wb (R - hh) (R - ii) n a b).getD (6 * i + j) 0 = (fct lb wb (R - hh) (R - ii) n a b).getD j 0 := by
        rw [List.getD_eq_getElem?_getD, List.getElem?_append_right (by omega), n2, Nat.add_sub_cancel_left]
        rfl
      rw [hg]
      rcases (show j = 0 ∨ j = 1 ∨ j = 2 ∨ j = 3 ∨ j = 4 ∨ j = 5 by omega) with rfl | rfl | rfl | rfl | rfl | rfl
      · rw [← hS5, ← hS3, ← hS2, ← hS1]; simp [up2, fct]
      · rw [← hS5, ← hS3, ← hS2]; simp [up2, fct]
      · rw [← hS5, ← hS3]; simp [up2, fct]
      · rw [← hS5]; simp [up2, fct]
      · rw [← hS5]; simp [up2, fct]
      · simp [up2, fct]
    · have hi' : i < cnt := by omega
      have hg : (F ++ fct lb wb (R - hh) (R - ii) n a b).getD (6 * i + j) 0 = F.getD (6 * i + j) 0 := by
        rw [List.getD_eq_getElem?_getD, List.getElem?_append_left (by omega), ← List.getD_eq_getElem?_getD]
      rw [hg, ← n4 i hi' j hj]
      rcases (show j = 0 ∨ j = 1 ∨ j = 2 ∨ j = 3 ∨ j = 4 ∨ j = 5 by omega) with rfl | rfl | rfl | rfl | rfl | rfl
      all_goals (rw [← hS5, ← hS3, ← hS2, ← hS1]; simp [up2, e])
  · by_cases e : i = cnt
    · subst e
      have hg : (F ++ fct lb wb (R - hh) (R - ii) n a b).getD (6 * i + 4) 0 = (fct lb wb (R - hh) (R - ii) n a b).getD 4 0 := by
        rw [List.getD_eq_getElem?_getD, List.getElem?_append_right (by omega), n2, Nat.add_sub_cancel_left]
        rfl
      rw [hg]
      simp only [fct, List.getD_cons_succ, List.getD_cons_zero]
      split <;> decide
    · have hi' : i < cnt := by omega
      have hg : (F ++ fct lb wb (R - hh) (R - ii) n a b).getD (6 * i + 4) 0 = F.getD (6 * i + 4) 0 := by
        rw [List.getD_eq_getElem?_getD, List.getElem?_append_left (by omega), ← List.getD_eq_getElem?_getD]
      rw [hg]
      exact n5 i hi'
end RN
end
section
/-! ===== the table exists; the lines of both sides are one ===== -/
section TBL
variable (lb wb : List Nat) (r1 r2 n : Nat)
noncomputable def bsT : Nat → Nat → Nat → TE
  | 0 => fun _ _ => (0, 0, 0)
  | d + 1 => fun a k => if a + (d + 1) = n then (scn (legO lb wb r1 r2 a) (cndO lb wb r1 r2 n (bsT d) a k) (n - a) (a + 1) none).getD (0, 0, 0) else bsT d a k
end TBL
section TBP
variable {lb wb : List Nat} {r1 r2 n : Nat}
theorem bsT_st {a k : Nat} : ∀ (e d : Nat), n ≤ a + d → bsT lb wb r1 r2 n (d + e) a k = bsT lb wb r1 r2 n d a k
  | 0, d, h => rfl
  | e + 1, d, h => by
    rw [← Nat.add_assoc, bsT]
    dsimp only
    rw [if_neg (by omega)]
    exact bsT_st e d h
theorem bsT_n (k : Nat) : ∀ d, bsT lb wb r1 r2 n d n k = (0, 0, 0)
  | 0 => rfl
  | d + 1 => by
    rw [bsT]
    dsimp only
    rw [if_neg (by omega)]
    exact bsT_n k d
theorem scn_congr {leg : Nat → Bool} {c c' : Nat → Nat × Nat} : ∀ (m b : Nat) (acc : Option TE), (∀ q, b ≤ q → q < b + m → c q = c' q) → scn leg c m b acc = scn leg c' m b acc
  | 0, b, acc, _ => rfl
  | m + 1, b, acc, h => by
    rw [scn, scn, h b (by omega) (by omega)]
    split
    · exact scn_congr m (b + 1) _ (fun q h1 h2 => h q (by omega) (by omega))
    · rfl
theorem accU_some (acc : Option TE) (c : Nat × Nat) (b : Nat) : ∃ y, accU acc c b = some y := by
  unfold accU
  split
  · exact ⟨_, rfl⟩
  · split <;> exact ⟨_, rfl⟩
theorem scn_some {leg : Nat → Bool} {c : Nat → Nat × Nat} : ∀ (m b : Nat) (y : TE), ∃ z, scn leg c m b (some y) = some z
  | 0, b, y => ⟨y, rfl⟩
  | m + 1, b, y => by
    rw [scn]
    split
    · obtain ⟨z, hz⟩ := accU_some (some y) (c b) b
      rw [hz]
      exact scn_some m (b + 1) z
    · exact ⟨y, rfl⟩
theorem DP_bsT : DP lb wb r1 r2 n (bsT lb wb r1 r2 n n) := by
  refine ⟨fun k => bsT_n k n, fun a k ha => ?_⟩
  obtain ⟨d, hd⟩ : ∃ d, n = a + (d + 1) := ⟨n - a - 1, by omega⟩
  have hst : bsT lb wb r1 r2 n n a k = bsT lb wb r1 r2 n (d + 1) a k := by
    have := bsT_st (lb := lb) (wb := wb) (r1 := r1) (r2 := r2) (n := n) (a := a) (k := k) a (d + 1) (by omega)
    rw [show d + 1 + a = n by omega] at this
    exact this
  have hsub : ∀ b k', a < b → b ≤ n → bsT lb wb r1 r2 n d b k' = bsT lb wb r1 r2 n n b k' := by
    intro b k' h1 h2
    have := bsT_st (lb := lb) (wb := wb) (r1 := r1) (r2 := r2) (n := n) (a := b) (k := k') (n - d) d (by omega)
    rw [show d + (n - d) = n by omega] at this
    exact this.symm
  have hc : scn (legO lb wb r1 r2 a) (cndO lb wb r1 r2 n (bsT lb wb r1 r2 n d) a k) (n - a) (a + 1) none = scn (legO lb wb r1 r2 a) (cndO lb wb r1 r2 n (bsT lb wb r1 r2 n n) a k) (n - a) (a + 1) none := by
    refine scn_congr _ _ _ (fun q h1 h2 => ?_)
    unfold cndO
    rw [hsub q _ (by omega) (by omega)]
  have hex : ∃ z, scn (legO lb wb r1 r2 a) (cndO lb wb r1 r2 n (bsT lb wb r1 r2 n n) a k) (n - a) (a + 1) none = some z := by
    rw [show n - a = d + 1 by omega, scn, if_pos (show legO lb wb r1 r2 a (a + 1) = true from decide_eq_true (Or.inl rfl))]
    obtain ⟨y, hy⟩ := accU_some none (cndO lb wb r1 r2 n (bsT lb wb r1 r2 n n) a k (a + 1)) (a + 1)
    rw [hy]
    exact scn_some _ _ _
  obtain ⟨z, hz⟩ := hex
  rw [hz, hst, bsT]
  dsimp only
  rw [if_pos hd.symm, hc, hz]
  rfl
theorem DP_01 {B : Nat → Nat → TE} (h : DP lb wb r1 r2 n B) : B 0 3 = B 0 1 := by
  by_cases hn : 0 < n
  · have h1 := h.2 0 1 hn
    have h3 := h.2 0 3 hn
    have : cndO lb wb r1 r2 n B 0 3 = cndO lb wb r1 r2 n B 0 1 := by
      funext b
      unfold cndO clsh
      rw [if_neg (by omega), if_neg (by omega)]
    rw [this, h1] at h3
    exact (Option.some.inj h3).symm
  · have e : n = 0 := by omega
    subst e
    rw [h.1 3, h.1 1]
end TBP
theorem ux_app (x y : List Nat) : ux (x ++ y) = ux x ++ ux y := by simp [ux]
theorem ux_rep (m : Nat) : ux (List.replicate m 32) = List.replicate m 32 := by
  induction m with
  | zero => rfl
  | succ m ih =>
    rw [List.replicate_succ, ux_cons, ih]
    rfl
theorem ux_und {u : Nat} (hu : u < 2) : ∀ {y : List Nat}, (∀ b ∈ y, 33 ≤ b ∧ b < 128) → ux (y.map (fun b => b + 256 * u)) = und u y
  | [], _ => rfl
  | b :: y, h => by
    have hb := h b List.mem_cons_self
    rw [List.map_cons, ux_cons, und_cons, ux_und hu (fun z hz => h z (List.mem_cons_of_mem _ hz))]
    congr 1
    rcases (show u = 0 ∨ u = 1 by omega) with rfl | rfl
    · rw [if_neg (by omega), if_pos (Or.inl rfl), show (b + 256 * 0) % 256 = b by omega]
    · rw [if_pos (by omega), if_neg (by omega), show (b + 256 * 1) % 256 = b by omega]
theorem slice_nl : ∀ (S : List Seg) (p : Nat) (hp : p < S.length), ((ltS S).take (tot nl (S.take (p + 1)))).drop (tot nl (S.take p)) = noC S[p].1
  | [], p, hp => by simp at hp
  | x :: S, 0, hp => by
    have : ltS (x :: S) = noC x.1 ++ ltS S := by simp [ltS]
    rw [this]
    simp [tot, nl]
  | x :: S, p + 1, hp => by
    have h1 : ltS (x :: S) = noC x.1 ++ ltS S := by simp [ltS]
    have ih := slice_nl S p (by simpa using hp)
    rw [h1, List.take_succ_cons, List.take_succ_cons, tot, tot]
    have e : (noC x.1).length = nl x := rfl
    rw [← e, List.take_length_add_append, List.drop_length_add_append]
    simpa using ih
theorem seg_u : ∀ (ws : List (List Nat × Nat)) (p : Nat) (hp : p < (SGs ws).length), (ws.map (fun q => q.2)).getD (tot ef ((SGs ws).take p)) 0 = (SGs ws)[p].2.1
  | [], p, hp => by simp [SGs] at hp
  | q :: ws, p, hp => by
    have hS := SGs_cons q ws
    have hm : ∀ (u : Nat) (l : List (List Nat)) (z : Seg), z ∈ mrk u l → z.2.1 = u := by
      intro u l
      induction l with
      | nil => intro z hz; simp [mrk] at hz
      | cons s l ih =>
        intro z hz
        cases l with
        | nil =>
          have : z = (s, u, true) := by simpa [mrk] using hz
          rw [this]
        | cons t r =>
          rw [mrk] at hz
          rcases List.mem_cons.mp hz with rfl | hz
          · rfl
          · exact ih z hz
    by_cases h : p < (wsg q.1 q.2).length
    · have t0 : (SGs (q :: ws)).take p = (wsg q.1 q.2).take p := by rw [hS, List.take_append_of_le_length (by omega)]
      have hg : (SGs (q :: ws))[p] = (wsg q.1 q.2)[p] := by
        simp only [hS]
        rw [List.getElem_append_left h]
      rw [t0, tot_ef_part q.1 q.2 h, hg, hm q.2 _ _ (List.getElem_mem h)]
      rfl
    · obtain ⟨p', rfl⟩ : ∃ p', p = (wsg q.1 q.2).length + p' := ⟨p - (wsg q.1 q.2).length, by omega⟩
      have t0 : (SGs (q :: ws)).take ((wsg q.1 q.2).length + p') = wsg q.1 q.2 ++ (SGs ws).take p' := by rw [hS, List.take_append, List.take_of_length_le (by omega), Nat.add_sub_cancel_left]
      have h' : p' < (SGs ws).length := by rw [hS, List.length_append] at hp; omega
      have hg : (SGs (q :: ws))[(wsg q.1 q.2).length + p'] = (SGs ws)[p'] := by
        simp only [hS]
        rw [List.getElem_append_right (by omega)]
        simp
      have e1 : tot ef (wsg q.1 q.2) = 1 := tot_ef_mrk _ _ (sgs_ne _ _)
      rw [t0, tot_app, e1, hg, Nat.add_comm 1, List.map_cons, List.getD_cons_succ]
      exact seg_u ws p' h'
section SAME
variable {ws : List (List Nat × Nat)}
theorem seg_mem (hok : WdOK ws) {p : Nat} (hp : p < (SGs ws).length) : (∀ c ∈ (SGs ws)[p].1, 33 ≤ c ∧ c < 128) ∧ (SGs ws)[p].2.1 < 2 ∧ (SGs ws)[p].1.length ≤ 100 ∧ 0 < (noC (SGs ws)[p].1).length := by
  have hx : (SGs ws)[p] ∈ SGs ws := List.getElem_mem hp
  generalize (SGs ws)[p] = x at hx
  obtain ⟨q, q1, q2⟩ := List.mem_flatMap.mp hx
  have hraw := wsg_raw q.1 q.2
  have hm : x.1 ∈ sgs [] q.1 := by
    have : x.1 ∈ (wsg q.1 q.2).map (fun x => x.1) := List.mem_map.mpr ⟨_, q2, rfl⟩
    unfold wsg at this
    rwa [mrk_fst] at this
  have hsub : ∀ c ∈ x.1, c ∈ q.1 := by
    intro c hc
    rw [← hraw]
    exact List.mem_flatten.mpr ⟨x.1, List.mem_map.mpr ⟨x, q2, rfl⟩, hc⟩
  have hu : ∀ (u : Nat) (l : List (List Nat)) (z : Seg), z ∈ mrk u l → z.2.1 = u := by
    intro u l
    induction l with
    | nil => intro z hz; simp [mrk] at hz
    | cons s l ih =>
      intro z hz
      cases l with
      | nil =>
        have : z = (s, u, true) := by simpa [mrk] using hz
        rw [this]
      | cons t r =>
        rw [mrk] at hz
        rcases List.mem_cons.mp hz with rfl | hz
        · rfl
        · exact ih z hz
  have key : ∀ (r cur : List Nat), hlt (cur ++ r) = true → ∀ s ∈ sgs cur r, 0 < (noC s).length := by
    intro r
    induction r with
    | nil =>
      intro cur h s hs
      have : s = cur := by simpa [sgs] using hs
      rw [this]
      rw [List.append_nil] at h
      exact (hlt_noC cur).mp h
    | cons c r ih =>
      intro cur h s hs
      rw [sgs] at hs
      split at hs
      · rename_i z
        rcases List.mem_cons.mp hs with rfl | hs
        · rw [noC_app, noC_c, List.append_nil]
          exact (hlt_noC cur).mp z.2.1
        · exact ih [] (by simpa using z.2.2) s hs
      · exact ih (cur ++ [c]) (by simpa using h) s hs
  have hlen : x.1.length ≤ q.1.length := by
    have h1 := sgs_flat q.1 []
    have h2 : ∀ (l : List (List Nat)), x.1 ∈ l → x.1.length ≤ l.flatten.length := by
      intro l
      induction l with
      | nil => intro h; simp at h
      | cons s l ih =>
        intro h
        rw [List.flatten_cons, List.length_append]
        rcases List.mem_cons.mp h with h | h
        · rw [h]; omega
        · have := ih h; omega
    have h3 := h2 _ hm
    rw [h1] at h3
    simpa using h3
  obtain ⟨o1, o2, o3, o4⟩ := hok.2 q q1
  exact ⟨fun c hc => o4 c (hsub c hc), by rw [hu q.2 _ x q2]; exact o3, by omega, key q.1 [] (by simpa using o1) _ hm⟩
theorem ux_pc (hok : WdOK ws) {p : Nat} (hp : p < (SGs ws).length) : ux (pcR (SGs ws) p) = pce (clsP ws).1 (clsP ws).2.1 (clsP ws).2.2.1 (clsP ws).2.2.2 p := by
  obtain ⟨m1, m2, -, -⟩ := seg_mem hok hp
  rw [pcR_at hp, ux_und (y := noC (SGs ws)[p].1) m2 (fun b hb => m1 b (List.mem_filter.mp hb).1)]
  unfold pce clsP
  dsimp only
  rw [wb_at (by omega), show (lbS (SGs ws)).getD (p + 1) 0 = tot nl ((SGs ws).take (p + 1)) from psL_at nl _ (by omega), show (lbS (SGs ws)).getD p 0 = tot nl ((SGs ws).take p) from psL_at nl _ (by omega), slice_nl _ _ hp, seg_u ws p hp]
theorem ux_wrt (hok : WdOK ws) (a g sl : Nat) : ∀ (m p k : Nat), p + m ≤ (SGs ws).length → ux (wrt (pcR (SGs ws)) (wbS (SGs ws)) a g sl m p k) = wrt (pce (clsP ws).1 (clsP ws).2.1 (clsP ws).2.2.1 (clsP ws).2.2.2) (wbS (SGs ws)) a g sl m p k
  | 0, p, k, h => rfl
  | m + 1, p, k, h => by
    rw [wrt, wrt]
    split
    · rw [ux_app, ux_app, ux_rep, ux_pc hok (by omega), ux_wrt hok a g sl m (p + 1) (k + 1) (by omega)]
    · rw [ux_app, ux_pc hok (by omega), ux_wrt hok a g sl m (p + 1) k (by omega)]
theorem ux_shC (hok : WdOK ws) {r1 r2 a b : Nat} {jf : Bool} (hab : a < b) (hb : b ≤ (SGs ws).length) : ux (shC ws r1 r2 jf a b) = lnE (clsP ws).1 (clsP ws).2.1 (clsP ws).2.2.1 (clsP ws).2.2.2 r1 r2 (SGs ws).length jf a b := by
  unfold shC lnE
  rw [ux_app, ux_wrt hok _ _ _ _ _ _ (by omega)]
  congr 1
  show ux (if hyp (wbS (SGs ws)) b then [45] else []) = if hyp (wbS (SGs ws)) b then [45] else []
  cases hyp (wbS (SGs ws)) b <;> rfl
theorem shC_lt (hok : WdOK ws) {r1 r2 a b : Nat} {jf : Bool} : ∀ v ∈ shC ws r1 r2 jf a b, v < 512 := by
  have hpc : ∀ p, ∀ v ∈ pcR (SGs ws) p, v < 512 := by
    intro p v hv
    by_cases hp : p < (SGs ws).length
    · rw [pcR_at hp] at hv
      obtain ⟨c, c1, rfl⟩ := List.mem_map.mp hv
      obtain ⟨m1, m2, -, -⟩ := seg_mem hok hp
      have := (m1 c (List.mem_filter.mp c1).1).2
      omega
    · unfold pcR at hv
      rw [List.getElem?_eq_none (by omega)] at hv
      simp at hv
  have hw : ∀ (a g sl m p k : Nat), ∀ v ∈ wrt (pcR (SGs ws)) (wbS (SGs ws)) a g sl m p k, v < 512 := by
    intro a g sl m
    induction m with
    | zero => intro p k v hv; simp [wrt] at hv
    | succ m ih =>
      intro p k v hv
      rw [wrt] at hv
      split at hv
      · rcases List.mem_append.mp hv with hv | hv
        · rcases List.mem_append.mp hv with hv | hv
          · rw [List.eq_of_mem_replicate hv]; decide
          · exact hpc p v hv
        · exact ih _ _ v hv
      · rcases List.mem_append.mp hv with hv | hv
        · exact hpc p v hv
        · exact ih _ _ v hv
  intro v hv
  unfold shC at hv
  rcases List.mem_append.mp hv with hv | hv
  · exact hw _ _ _ _ _ _ v hv
  · split at hv
    · rw [List.mem_singleton.mp hv]; decide
    · simp at hv
theorem shC_ne (hok : WdOK ws) {r1 r2 a b : Nat} {jf : Bool} (hab : a < b) (hb : b ≤ (SGs ws).length) : (shC ws r1 r2 jf a b).isEmpty = false := by
  have hp : a < (SGs ws).length := by omega
  obtain ⟨-, -, -, m4⟩ := seg_mem hok hp
  have h1 : 0 < (pcR (SGs ws) a).length := by rw [pcR_at hp, List.length_map]; exact m4
  cases hq : (shC ws r1 r2 jf a b) with
  | cons c l => rfl
  | nil =>
    have := congrArg List.length hq
    unfold shC at this
    rw [show b - a = (b - a - 1) + 1 by omega, wrt, if_neg (fun z => absurd z.1 (Nat.lt_irrefl _))] at this
    simp only [List.length_append, List.length_nil] at this
    omega
end SAME
end
section
/-! ===== the reference: a BREAK ===== -/
section CAP
variable {ws : List (List Nat × Nat)}
theorem wrt_len (hok : WdOK ws) {a b sl : Nat} (hb : b ≤ (SGs ws).length) (hab : a < b) : ∀ (m p k : Nat), p + m = b → a ≤ p → tot ef ((SGs ws).take a) + k = (if a < p ∧ hyp (wbS (SGs ws)) p = false then tot ef ((SGs ws).take p) - 1 else tot ef ((SGs ws).take p)) →
    (wrt (pcR (SGs ws)) (wbS (SGs ws)) a (bln (wbS (SGs ws)) a b) sl m p k).length + tot nl ((SGs ws).take p) + k + sl * k / bln (wbS (SGs ws)) a b ≤ tot nl ((SGs ws).take b) + bln (wbS (SGs ws)) a b + sl * bln (wbS (SGs ws)) a b / bln (wbS (SGs ws)) a b := by
  have hg : bln (wbS (SGs ws)) a b = tot ef ((SGs ws).take (b - 1)) - tot ef ((SGs ws).take a) := by
    unfold bln
    rw [wb_at (by omega), wb_at (by omega)]
  have hgm := tot_take_le ef (SGs ws) (show a ≤ b - 1 by omega)
  have hstep : ∀ p, 0 < p → p ≤ (SGs ws).length → tot ef ((SGs ws).take p) = tot ef ((SGs ws).take (p - 1)) + (if hyp (wbS (SGs ws)) p = false then 1 else 0) := by
    intro p h0 hp
    obtain ⟨q, rfl⟩ : ∃ q, p = q + 1 := ⟨p - 1, by omega⟩
    rw [hyp_seg (SGs ws) (by omega), Nat.add_sub_cancel, tot_take_succ ef (SGs ws) (by omega)]
    cases h : (SGs ws)[q].2.2 <;> simp [ef, h]
  intro m
  induction m with
  | zero =>
    intro p k hm hap hw
    have e : p = b := by omega
    subst e
    have h1 := hstep p (by omega) hb
    have hk : k = bln (wbS (SGs ws)) a p := by
      rw [hg]
      by_cases hh : hyp (wbS (SGs ws)) p = false
      · rw [if_pos hh] at h1
        rw [if_pos ⟨hab, hh⟩] at hw
        omega
      · rw [if_neg hh] at h1
        rw [if_neg (fun z => hh z.2)] at hw
        omega
    rw [wrt, ← hk]
    simp
  | succ m ih =>
    intro p k hm hap hw
    have hpl : p < (SGs ws).length := by omega
    have h1 := hstep (p + 1) (by omega) (by omega)
    rw [Nat.add_sub_cancel] at h1
    have hpc : (pcR (SGs ws) p).length + tot nl ((SGs ws).take p) = tot nl ((SGs ws).take (p + 1)) := by
      rw [pcR_at hpl, List.length_map, tot_take_succ nl _ hpl, Nat.add_comm]
      rfl
    have hap2 := tot_take_le ef (SGs ws) hap
    have hpb := tot_take_le ef (SGs ws) (show p ≤ b - 1 by omega)
    have hnext : tot ef ((SGs ws).take p) = (if a < p + 1 ∧ hyp (wbS (SGs ws)) (p + 1) = false then tot ef ((SGs ws).take (p + 1)) - 1 else tot ef ((SGs ws).take (p + 1))) := by
      by_cases hh : hyp (wbS (SGs ws)) (p + 1) = false
      · rw [if_pos hh] at h1
        rw [if_pos ⟨by omega, hh⟩]
        omega
      · rw [if_neg hh] at h1
        rw [if_neg (fun z => hh z.2)]
        omega
    rw [wrt]
    by_cases hc : a < p ∧ hyp (wbS (SGs ws)) p = false
    · rw [if_pos hc] at hw
      have h2 := hstep p (by omega) (by omega)
      rw [if_pos hc.2] at h2
      have h3 := tot_take_le ef (SGs ws) (show a ≤ p - 1 by omega)
      rw [if_pos ⟨hc.1, by omega, hc.2⟩]
      have := ih (p + 1) (k + 1) (by omega) (by omega) (by rw [← hnext]; omega)
      simp only [List.length_append, List.length_replicate, gap]
      have m0 : sl * k ≤ sl * (k + 1) := Nat.mul_le_mul_left _ (by omega)
      have m2 : sl * k / bln (wbS (SGs ws)) a b ≤ sl * (k + 1) / bln (wbS (SGs ws)) a b := Nat.div_le_div_right m0
      omega
    · rw [if_neg hc] at hw
      rw [if_neg (fun z => hc ⟨z.1, z.2.2⟩)]
      have := ih (p + 1) k (by omega) (by omega) (by rw [← hnext]; omega)
      simp only [List.length_append]
      omega
theorem shC_len (hok : WdOK ws) {r1 r2 a b : Nat} {jf : Bool} (hr1 : r1 ≤ 80) (hr2 : r2 ≤ 80) (hab : a < b) (hb : b ≤ (SGs ws).length) (hleg : legO (lbS (SGs ws)) (wbS (SGs ws)) r1 r2 a b = true) : (shC ws r1 r2 jf a b).length ≤ 298 := by
  have hrm := rmO_le (a := a) hr1 hr2
  unfold shC
  generalize hsl : (if jf = true ∧ b < (SGs ws).length then rmO r1 r2 a - lnO (lbS (SGs ws)) (wbS (SGs ws)) a b else 0) = sl
  have hsl2 : sl ≤ 80 := by rw [← hsl]; split <;> omega
  have h1 := wrt_len hok (sl := sl) hb hab (b - a) a 0 (by omega) (Nat.le_refl _) (by rw [if_neg (fun z => absurd z.1 (Nat.lt_irrefl _)), Nat.add_zero])
  have h2 : sl * bln (wbS (SGs ws)) a b / bln (wbS (SGs ws)) a b ≤ sl := by
    by_cases q : 0 < bln (wbS (SGs ws)) a b
    · rw [Nat.mul_div_cancel _ q]; exact Nat.le_refl _
    · rw [show bln (wbS (SGs ws)) a b = 0 by omega]; simp
  have h3 : (if hyp (wbS (SGs ws)) b then [45] else []).length ≤ 1 := by split <;> simp
  have h4 : tot nl ((SGs ws).take b) - tot nl ((SGs ws).take a) + bln (wbS (SGs ws)) a b ≤ 101 := by
    rcases of_decide_eq_true hleg with q | q
    · subst q
      have hp : a < (SGs ws).length := by omega
      obtain ⟨-, -, m3, -⟩ := seg_mem hok hp
      have := tot_take_succ nl (SGs ws) hp
      have h5 : nl (SGs ws)[a] ≤ 100 := Nat.le_trans (List.length_filter_le _ _) m3
      have h6 : bln (wbS (SGs ws)) a (a + 1) = 0 := by unfold bln; rw [Nat.add_sub_cancel, Nat.sub_self]
      omega
    · have h5 : ltr (lbS (SGs ws)) a b = tot nl ((SGs ws).take b) - tot nl ((SGs ws).take a) := by
        unfold ltr lbS
        rw [psL_at nl _ hb, psL_at nl _ (by omega)]
      unfold lnO at q
      omega
  have h5 := tot_take_le nl (SGs ws) (show a ≤ b by omega)
  rw [Nat.mul_zero, Nat.zero_div] at h1
  rw [List.length_append]
  omega
end CAP
section RB
variable {lc : Launch} {G : GG} {σ : St2} {Q : Option Value → St2 → Prop} {ws : List (List Nat × Nat)} {R hh ii : Nat} {B : Nat → Nat → TE} {hd ft : List Nat}
/-- the ends that the way asks for -/
def NxV (σ : St2) (n : Nat) (B : Nat → Nat → TE) : Prop := ∀ a kd, (a = 0 ∧ kd = 3 ∨ 1 ≤ a ∧ kd < 3) → a < n → σ.1 33 (4 * a + kd) = nI (B a kd).2.2
theorem NxV.fq {S F : List Nat} {σ σ' : St2} {n : Nat} (h : NxV σ n B) (hf : Fq S F σ σ') (hs : 33 ∉ S) : NxV σ' n B := fun a kd h1 h2 => by rw [hf.a1 hs (by decide)]; exact h a kd h1 h2
theorem DP_leg {lb wb : List Nat} {r1 r2 n : Nat} (h : DP lb wb r1 r2 n B) {a k : Nat} (ha : a < n) : legO lb wb r1 r2 a (B a k).2.2 = true := by
  obtain ⟨b, h1, h2, h3, h4⟩ := DP_at h (k := k) ha
  rw [h4]
  exact h3
abbrev nS (ws : List (List Nat × Nat)) : Nat := (SGs ws).length
abbrev lS (ws : List (List Nat × Nat)) : List Nat := lbS (SGs ws)
abbrev wS (ws : List (List Nat × Nat)) : List Nat := wbS (SGs ws)
theorem lp_notes (hok : WdOK ws) (hR : R ≤ 80) (h1 : hh ≤ R) (h2 : ii ≤ R) (hdp : DP (lS ws) (wS ws) (R - hh) (R - ii) (nS ws) B) : ∀ (m a kd : Nat) (σ : St2) (cnt : Nat) (F : List Nat), nS ws ≤ a + m → a ≤ nS ws → (a = 0 ∧ kd = 3 ∨ 1 ≤ a ∧ kd < 3) → cnt ≤ a → RsV σ (nS ws) (lS ws) (wS ws) R hh ii → NxV σ (nS ws) B → NtV σ cnt F →
    (∀ σ', NtV σ' (cnt + (wy (lS ws) (wS ws) (R - hh) (R - ii) (nS ws) B m a kd).length) (F ++ (wy (lS ws) (wS ws) (R - hh) (R - ii) (nS ws) B m a kd).flatMap (fun q => fct (lS ws) (wS ws) (R - hh) (R - ii) (nS ws) q.1 q.2)) → Fq [34, 35, 36, 37, 38, 39] [16] σ σ' → Ev lc G mMd_breakNow 119 [some (.ref 22), none, none, none] [] σ' Q) →
    Ev lc G mMd_breakNow 79 [some (.ref 22), some (.int (nI a)), some (.int (nI kd)), none] [] σ Q := by
  have hpl : PlB (lS ws) (wS ws) := cls_PlB hok
  intro m
  induction m with
  | zero =>
    intro a kd σ cnt F hm ha hk hc hs hx hn k
    have h4 := hs.1.2.2.2
    simp only [wy, List.length_nil, Nat.add_zero, List.flatMap_nil, List.append_nil] at k
    refine ev_ic_ge okMd_breakNow rfl rfl trivial (fun g => ev_lv [some (.ref 22), none, none, none] ⟨rfl, trivial⟩ (k σ hn Fq.rf)) (fun g => absurd (by rw [hs.1.1]; exact nI_le (by omega) (by omega)) g)
  | succ m ih =>
    intro a kd σ cnt F hm ha hk hc hs hx hn k
    have h4 := hs.1.2.2.2
    rw [wy] at k
    by_cases hlt : a < nS ws
    · simp only [if_pos hlt] at k
      obtain ⟨d1, d2⟩ := DP_end hdp (k := kd) hlt
      have tc := hx a kd hk hlt
      have hkd : kd < 4 := by omega
      generalize hbb : (B a kd).2.2 = b at *
      refine ev_ic_ge okMd_breakNow rfl rfl trivial (fun g => absurd g (by rw [hs.1.1]; exact nI_ge hlt (by omega))) (fun g => ?_)
      have eidx : nI 4 * nI a + nI kd = nI (4 * a + kd) := by rw [pk_mul, nI_add]
      have ev : σ.1 33 (nI 4 * nI a + nI kd).toNatClampNeg = nI b := by rw [eidx, nI_cl (by omega)]; exact tc
      refine ev_cv okMd_breakNow okMd_note rfl rfl ⟨by rw [eidx]; exact vp_nI (by omega) (by decide), trivial⟩ rfl (by decide +kernel) rfl rfl ?_
      rw [ev]
      refine sp_note hpl hR h1 h2 hs hn (by omega) d1 d2 fun σ1 q1 q2 => ?_
      have s1 := hs.fq q2 (by decide) (by decide)
      refine ev_cv okMd_breakNow okMd_badnessOf rfl rfl trivial rfl (by decide +kernel) rfl rfl (sp_badnessOfR s1 hpl hR h1 h2 d1 d2 ?_)
      have hbd : bdO (lS ws) (wS ws) (R - hh) (R - ii) (nS ws) a b ≤ 10000 := bdO_le a b
      refine ev_cs okMd_breakNow okMd_kindOf rfl rfl trivial rfl (by decide +kernel) rfl rfl (sp_kindOfR (by omega) ?_)
      refine ev_goto okMd_breakNow rfl rfl trivial ?_
      refine ev_lv [some (.ref 22), some (.int (nI b)), some (.int (nI (kO (lS ws) (wS ws) (R - hh) (R - ii) (nS ws) a b))), none] ⟨rfl, rfl, rfl, trivial⟩ (ih b (kO (lS ws) (wS ws) (R - hh) (R - ii) (nS ws) a b) σ1 (cnt + 1) _ (by omega) d2 (Or.inr ⟨by omega, kO_lt a b⟩) (by omega) s1 (hx.fq q2 (by decide)) q1 (fun σ' r1 r2 => k σ' ?_ (q2.tr r2)))
      simp only [List.length_cons, List.flatMap_cons]
      rw [List.append_assoc, show cnt + 1 + (wy (lS ws) (wS ws) (R - hh) (R - ii) (nS ws) B m b (kO (lS ws) (wS ws) (R - hh) (R - ii) (nS ws) a b)).length = cnt + ((wy (lS ws) (wS ws) (R - hh) (R - ii) (nS ws) B m b (kO (lS ws) (wS ws) (R - hh) (R - ii) (nS ws) a b)).length + 1) by omega] at r1
      exact r1
    · simp only [if_neg hlt, List.length_nil, Nat.add_zero, List.flatMap_nil, List.append_nil] at k
      exact ev_ic_ge okMd_breakNow rfl rfl trivial (fun g => ev_lv [some (.ref 22), none, none, none] ⟨rfl, trivial⟩ (k σ hn Fq.rf)) (fun g => absurd (by rw [hs.1.1]; exact nI_le (by omega) (by omega)) g)
theorem pPut_step {hd ft : List Nat} (hok : WdOK ws) {r1 r2 a b : Nat} {jf : Bool} (hab : a < b) (hb : b ≤ nS ws) (s : PS) : pPut hd ft (shC ws r1 r2 jf a b) s = pClose ft ((pOpen hd false s).1, emit (pOpen hd false s).2 (lnE (clsP ws).1 (clsP ws).2.1 (clsP ws).2.2.1 (clsP ws).2.2.2 r1 r2 (nS ws) jf a b)) := by
  unfold pPut
  rw [shC_ne hok hab hb, ux_shC hok hab hb]
end RB
end
section
/-! ===== the reference: a BREAK, its loops ===== -/
theorem LyV.fq2 {S F : List Nat} {σ σ' : St2} {ws : List (List Nat × Nat)} (h : LyV σ ws) (hf : Fq S F σ σ') (hs : ∀ c ∈ [25, 26, 27, 28, 29, 30], c ∉ S) (h11 : 11 ∉ F) : LyV σ' ws :=
  ⟨⟨trivial, h.1.2.1.fq hf (hs 26 (by decide)) (by decide), h.1.2.2.fq hf (hs 25 (by decide)) (by decide)⟩, by rw [hf.g1 h11]; exact h.2.1, h.2.2.1.fq hf (hs 27 (by decide)) (by decide), h.2.2.2.1.fq hf (hs 28 (by decide)) (by decide), h.2.2.2.2.1.fq hf (hs 29 (by decide)) (by decide), h.2.2.2.2.2.fq hf (hs 30 (by decide)) (by decide)⟩
theorem RgV.fqs {S F : List Nat} {σ σ' : St2} {N : NN} {hd ft o : List Nat} (h : RgV σ N hd ft o) (hf : Fq S F σ σ') (hs : ∀ c ∈ [40, 41, 42], c ∉ S) (hF : ∀ f ∈ [30, 28, 29, 27, 31, 32, 33, 25, 26, 34, 35, 36, 42, 38, 40, 24], f ∉ F) : RgV σ' N hd ft o := by
  refine h.fq hf hs (fun k hk => hF _ ?_) (hF _ (by decide)) (hF _ (by decide)) (hF _ (by decide))
  have : ∀ k : Fin 13, fm k.val ∈ [30, 28, 29, 27, 31, 32, 33, 25, 26, 34, 35, 36, 42, 38, 40, 24] := by decide
  exact this ⟨k, hk⟩
theorem wy_03 {lb wb : List Nat} {r1 r2 n : Nat} {B : Nat → Nat → TE} (h : DP lb wb r1 r2 n B) (m : Nat) : wy lb wb r1 r2 n B m 0 3 = wy lb wb r1 r2 n B m 0 1 := by
  cases m with
  | zero => rfl
  | succ m => rw [wy, wy, DP_01 h]
section RB2
variable {lc : Launch} {G : GG} {Q : Option Value → St2 → Prop} {ws : List (List Nat × Nat)} {R hh ii : Nat} {B : Nat → Nat → TE} {hd ft : List Nat}
theorem lp_tab {n : Nat} {lb wb : List Nat} (hdp : DP lb wb (R - hh) (R - ii) n B) (hpl : PlB lb wb) (hR : R ≤ 80) (h1 : hh ≤ R) (h2 : ii ≤ R) : ∀ (a : Nat) (σ : St2), a ≤ n → RsV σ n lb wb R hh ii → TabR σ n B (a + 1) →
    (∀ σ', RsV σ' n lb wb R hh ii → TabR σ' n B 1 → Fq [31, 32, 33] [] σ σ' → Ev lc G mMd_breakNow 54 [some (.ref 22), none, none, none] [] σ' Q) → Ev lc G mMd_breakNow 25 [some (.ref 22), some (.int (nI a)), none, none] [] σ Q := by
  intro a
  induction a with
  | zero =>
    intro σ ha hs ht k
    exact ev_if_le okMd_breakNow rfl rfl trivial (fun g => ev_lv [some (.ref 22), none, none, none] ⟨rfl, trivial⟩ (k σ hs ht Fq.rf)) (fun g => absurd (by decide) g)
  | succ a ih =>
    intro σ ha hs ht k
    have h4 := hs.1.2.2.2
    refine ev_if_le okMd_breakNow rfl rfl trivial (fun g => absurd g (nI_nle (by omega) (by omega))) (fun g => ?_)
    refine ev_nop okMd_breakNow rfl rfl trivial ?_
    have inner : ∀ (m kd : Nat) (σ1 : St2), kd + m = 3 → RsV σ1 n lb wb R hh ii → TabR σ1 n B (a + 1 + 1) → (∀ j, j < kd → σ1.2 31 (4 * (a + 1) + j) = lN (B (a + 1) j).1 ∧ σ1.1 32 (4 * (a + 1) + j) = nI (B (a + 1) j).2.1 ∧ (a + 1 < n → σ1.1 33 (4 * (a + 1) + j) = nI (B (a + 1) j).2.2)) → Fq [31, 32, 33] [] σ σ1 → Ev lc G mMd_breakNow 31 [some (.ref 22), some (.int (nI (a + 1))), some (.int (nI kd)), none] [] σ1 Q := by
      intro m
      induction m with
      | zero =>
        intro kd σ1 hm s1 t1 e1 f1
        have : kd = 3 := by omega
        subst this
        refine ev_ic_ge okMd_breakNow rfl rfl trivial (fun g => ?_) (fun g => absurd (by decide) g)
        refine ev_goto okMd_breakNow rfl rfl trivial ?_
        have em : nI (a + 1) + mI 0 = nI a := by rw [show mI 0 = -1 from rfl, ← Int32.sub_eq_add_neg]; exact pk_sub (b := 1) (by omega)
        rw [em]
        refine ev_lv [some (.ref 22), some (.int (nI a)), none, none] ⟨rfl, rfl, trivial⟩ (ih σ1 (by omega) s1 (fun b hb hn q hq => ?_) (fun σ' r1 r2 r3 => k σ' r1 r2 (f1.tr r3)))
        by_cases e : b = a + 1
        · subst e
          exact e1 q hq
        · exact t1 b (by omega) hn q hq
      | succ m ih2 =>
        intro kd σ1 hm s1 t1 e1 f1
        refine ev_ic_ge okMd_breakNow rfl rfl trivial (fun g => absurd g (nI_ge (by omega) (by decide))) (fun g => ?_)
        refine ev_cv okMd_breakNow okMd_findBest rfl rfl trivial rfl (by decide +kernel) rfl rfl (sp_findBest hdp hpl hR h1 h2 ha (by omega) s1 t1 fun σ2 q1 q2 q3 q4 => ?_)
        refine ev_goto okMd_breakNow rfl rfl trivial ?_
        rw [nI_add]
        refine ih2 (kd + 1) σ2 (by omega) (s1.fq q4.1 (by decide) (by decide)) (t1.ent q4 (by omega)) (fun j hj => ?_) (f1.tr q4.1)
        by_cases e : j = kd
        · subst e
          exact ⟨q1, q2, q3⟩
        · obtain ⟨r1, r2, r3⟩ := q4.2 (4 * (a + 1) + j) (by omega)
          rw [r1, r2, r3]
          exact e1 j (by omega)
    exact inner 3 0 σ rfl hs ht (fun j hj => absurd hj (Nat.not_lt_zero j)) Fq.rf
/-- the lines are laid and PUT -/
theorem lp_puts (hok : WdOK ws) (hN : nS ws ≤ 4000) (hT : tot rl (SGs ws) ≤ 8000) (hR : R ≤ 80) (h1 : hh ≤ R) (h2 : ii ≤ R) (hhd : ∀ b ∈ hd, b < 128) (hft : ∀ b ∈ ft, b < 128) {jf : Bool} (hdp : DP (lS ws) (wS ws) (R - hh) (R - ii) (nS ws) B) : ∀ (m a kd : Nat) (σ : St2) (s : PS) (pb : Nat), nS ws ≤ a + m → a ≤ nS ws → (a = 0 ∧ kd = 3 ∨ 1 ≤ a ∧ kd < 3) → RsV σ (nS ws) (lS ws) (wS ws) R hh ii → NxV σ (nS ws) B → LyV σ ws → RgV σ s.1 hd ft s.2 → s.1 8 = b2 jf → PB pb s.1 → pb + m < 2 ^ 30 →
    (∀ σ', RgV σ' (brkL hd ft (lnE (clsP ws).1 (clsP ws).2.1 (clsP ws).2.2.1 (clsP ws).2.2.2 (R - hh) (R - ii) (nS ws) jf) (wy (lS ws) (wS ws) (R - hh) (R - ii) (nS ws) B m a kd) s).1 hd ft (brkL hd ft (lnE (clsP ws).1 (clsP ws).2.1 (clsP ws).2.2.1 (clsP ws).2.2.2 (R - hh) (R - ii) (nS ws) jf) (wy (lS ws) (wS ws) (R - hh) (R - ii) (nS ws) B m a kd) s).2 → Fq [24, 40] [3, 24, 34, 35, 36, 42, 29] σ σ' → Q none σ') →
    Ev lc G mMd_breakNow 128 [some (.ref 22), some (.int (nI a)), some (.int (nI kd)), none] [] σ Q := by
  have hpl : PlB (lS ws) (wS ws) := cls_PlB hok
  intro m
  induction m with
  | zero =>
    intro a kd σ s pb hm ha hk hs hx hly hg hj hpb hlt k
    simp only [wy, brkL] at k
    exact ev_ic_ge okMd_breakNow rfl rfl trivial (fun g => ev_rv okMd_breakNow rfl rfl trivial rfl (k σ hg Fq.rf)) (fun g => absurd (by rw [hs.1.1]; exact nI_le (by omega) (by omega)) g)
  | succ m ih =>
    intro a kd σ s pb hm ha hk hs hx hly hg hj hpb hlt k
    rw [wy] at k
    by_cases hlt2 : a < nS ws
    · simp only [if_pos hlt2, brkL] at k
      obtain ⟨d1, d2⟩ := DP_end hdp (k := kd) hlt2
      have d3 := DP_leg hdp (k := kd) hlt2
      have tc := hx a kd hk hlt2
      generalize hbb : (B a kd).2.2 = b at *
      refine ev_ic_ge okMd_breakNow rfl rfl trivial (fun g => absurd g (by rw [hs.1.1]; exact nI_ge hlt2 (by omega))) (fun g => ?_)
      have eidx : nI 4 * nI a + nI kd = nI (4 * a + kd) := by rw [pk_mul, nI_add]
      have ev : σ.1 33 (nI 4 * nI a + nI kd).toNatClampNeg = nI b := by rw [eidx, nI_cl (by omega)]; exact tc
      refine ev_cv okMd_breakNow okMd_badnessOf rfl rfl ⟨by rw [eidx]; exact vp_nI (by omega) (by decide), trivial⟩ rfl (by decide +kernel) rfl rfl ?_
      rw [ev]
      refine sp_badnessOfR hs hpl hR h1 h2 d1 d2 ?_
      have hbd : bdO (lS ws) (wS ws) (R - hh) (R - ii) (nS ws) a b ≤ 10000 := bdO_le a b
      refine ev_cs okMd_breakNow okMd_kindOf rfl rfl trivial rfl (by decide +kernel) rfl rfl (sp_kindOfR (by omega) ?_)
      have e26 : σ.1 22 26 = b2 jf := (hg.1 8 (by decide)).trans hj
      refine ev_cv okMd_breakNow okMd_layLine rfl rfl trivial rfl (by decide +kernel) rfl rfl (sp_layLine (jf := jf) hok hN hT hR h1 h2 hs hly e26 d1 d2 (shC_len hok (by omega) (by omega) d1 d2 d3) fun σ1 q1 q2 => ?_)
      have g1 := hg.fqs q2 (by decide) (by decide)
      refine ev_cv okMd_breakNow okMd_put rfl rfl trivial rfl (by decide +kernel) rfl rfl (sp_putR (B := pb) (shC_lt hok) g1 q1 hhd hft (by omega) hpb fun σ2 r1 r2 => ?_)
      have f2 : Fq [24, 40] [3, 24, 34, 35, 36, 42, 29] σ σ2 := (q2.wk (by decide) (by decide)).tr (r2.wk (by decide) (by decide))
      rw [pPut_step hok d1 d2] at r1
      refine ev_goto okMd_breakNow rfl rfl trivial ?_
      refine ev_lv [some (.ref 22), some (.int (nI b)), some (.int (nI (kO (lS ws) (wS ws) (R - hh) (R - ii) (nS ws) a b))), none] ⟨rfl, rfl, rfl, trivial⟩ (ih b (kO (lS ws) (wS ws) (R - hh) (R - ii) (nS ws) a b) σ2 _ (pb + 1) (by omega) d2 (Or.inr ⟨by omega, kO_lt a b⟩) (hs.fq f2 (by decide) (by decide)) (hx.fq f2 (by decide)) (hly.fq2 f2 (by decide) (by decide)) r1 ?_ (pClose_PB (pOpen_PB (e := false) hpb)) (by omega) (fun σ' t1 t2 => k σ' t1 (f2.tr t2)))
      rw [pClose_keep _ _ (by decide)]
      show (pOpen hd false s).1 8 = _
      rw [pOpen_keep _ _ _ (by decide)]
      exact hj
    · simp only [if_neg hlt2, brkL] at k
      exact ev_ic_ge okMd_breakNow rfl rfl trivial (fun g => ev_rv okMd_breakNow rfl rfl trivial rfl (k σ hg Fq.rf)) (fun g => absurd (by rw [hs.1.1]; exact nI_le (by omega) (by omega)) g)
theorem rl_le (hok : WdOK ws) : tot rl (SGs ws) ≤ 8000 := by
  have key : ∀ l : List (List Nat × Nat), (∀ q ∈ l, q.1.length ≤ 100) → tot rl (SGs l) ≤ 100 * l.length := by
    intro l
    induction l with
    | nil => intro _; exact Nat.le_refl _
    | cons q l ih =>
      intro h
      rw [SGs_cons, tot_app, tot_rl_wsg, List.length_cons]
      have h1 := h q List.mem_cons_self
      have h2 := ih (fun z hz => h z (List.mem_cons_of_mem _ hz))
      omega
  have h1 := key ws (fun q hq => (hok.2 q hq).2.1)
  have h2 := hok.1
  omega
theorem nS_le (hok : WdOK ws) : nS ws ≤ 4000 := by
  have hc := (SGs_cnt (fun q hq => ⟨(hok.2 q hq).1, (hok.2 q hq).2.1⟩)).1
  have h2 := hok.1
  show (SGs ws).length ≤ 4000
  omega
theorem sp_breakNow0 {σ : St2} (hw : RwV σ []) (k : Q none σ) : Ev lc G mMd_breakNow 0 [some (.ref 22), none, none, none] [] σ Q := by
  refine ev_if_ne okMd_breakNow rfl rfl trivial (fun g => absurd ?_ g) (fun g => ev_rv okMd_breakNow rfl rfl trivial rfl k)
  rw [hw.1]
  rfl
theorem sp_breakNow {σ : St2} {N : NN} {o : List Nat} {pb : Nat} {jf : Bool} (hok : WdOK ws) (hne : ws ≠ []) (hR : R ≤ 80) (h1 : hh < R) (h2 : ii < R) (hdp : DP (lS ws) (wS ws) (R - hh) (R - ii) (nS ws) B) (hhd : ∀ b ∈ hd, b < 128) (hft : ∀ b ∈ ft, b < 128) (hg : RgV σ N hd ft o) (hw : RwV σ ws) (n0 : N 0 = nI R) (n1 : N 1 = nI ii) (n2 : N 2 = nI hh) (hj : N 8 = b2 jf) (hpb : PB pb N) (hlt : pb + 4000 < 2 ^ 30)
    (k : ∀ σ', RgV σ' (brkL hd ft (lnE (clsP ws).1 (clsP ws).2.1 (clsP ws).2.2.1 (clsP ws).2.2.2 (R - hh) (R - ii) (nS ws) jf) (wy (lS ws) (wS ws) (R - hh) (R - ii) (nS ws) B (nS ws) 0 1) (N, o)).1 hd ft (brkL hd ft (lnE (clsP ws).1 (clsP ws).2.1 (clsP ws).2.2.1 (clsP ws).2.2.2 (R - hh) (R - ii) (nS ws) jf) (wy (lS ws) (wS ws) (R - hh) (R - ii) (nS ws) B (nS ws) 0 1) (N, o)).2 → RwV σ' [] →
      NtV σ' (wy (lS ws) (wS ws) (R - hh) (R - ii) (nS ws) B (nS ws) 0 1).length ((wy (lS ws) (wS ws) (R - hh) (R - ii) (nS ws) B (nS ws) 0 1).flatMap (fun q => fct (lS ws) (wS ws) (R - hh) (R - ii) (nS ws) q.1 q.2)) → σ'.2 22 15 = lN (B 0 1).1 → Fq [24, 27, 28, 29, 30, 31, 32, 33, 34, 35, 36, 37, 38, 39, 40] [3, 6, 11, 15, 16, 24, 29, 34, 35, 36, 42, 43] σ σ' → Q none σ') :
    Ev lc G mMd_breakNow 0 [some (.ref 22), none, none, none] [] σ Q := by
  have hpl : PlB (lS ws) (wS ws) := cls_PlB hok
  have hN := nS_le hok
  have hwl : 0 < ws.length := List.length_pos_iff.mpr hne
  have h80 := hok.1
  refine ev_if_ne okMd_breakNow rfl rfl trivial (fun g => ?_) (fun g => absurd (show σ.1 22 6 = 0 by simpa using g) (by rw [hw.1]; exact nI_ne0 hwl (by omega)))
  refine ev_cv okMd_breakNow okMd_layPlaces rfl rfl trivial rfl (by decide +kernel) rfl rfl ?_
  have e29 : σ.1 22 29 = nI hh := (hg.1 2 (by decide)).trans n2
  rw [e29]
  have f0 : Fq [] [43] σ (up2 σ.1 22 43 (nI hh), σ.2) := Fq.f1 (by decide)
  have e43 : (up2 σ.1 22 43 (nI hh), σ.2).1 22 43 = nI hh := up2_same σ.1 22 43 _
  have g0 := hg.fqs f0 (by decide) (by decide)
  have w0 := hw.fq f0 (by decide) (by decide) (by decide)
  generalize (up2 σ.1 22 43 (nI hh), σ.2) = σ0 at f0 e43 g0 w0 ⊢
  refine sp_layPlaces hok w0 fun σ1 q1 q2 => ?_
  have g1 := g0.fqs q2 (by decide) (by decide)
  have w1 := w0.fq q2 (by decide) (by decide) (by decide)
  have s1 : RsV σ1 (nS ws) (lS ws) (wS ws) R hh ii := RsV_of q1 hN ((g1.1 0 (by decide)).trans n0) (by rw [q2.g1 (by decide)]; exact e43) ((g1.1 1 (by decide)).trans n1)
  have f1 : Fq [24, 27, 28, 29, 30, 31, 32, 33, 34, 35, 36, 37, 38, 39, 40] [3, 6, 11, 15, 16, 24, 29, 34, 35, 36, 42, 43] σ σ1 := (f0.wk (by decide) (by decide)).tr (q2.wk (by decide) (by decide))
  refine ev_nop okMd_breakNow rfl rfl trivial ?_
  rw [s1.1.1]
  refine lp_tab hdp hpl hR (by omega) (by omega) (nS ws) σ1 (Nat.le_refl _) s1 (fun a ha hn => by omega) fun σ2 s2 t2 f2 => ?_
  refine ev_cv okMd_breakNow okMd_findBest rfl rfl trivial rfl (by decide +kernel) rfl rfl (sp_findBest (a := 0) (kb := 3) hdp hpl hR (by omega) (by omega) (by omega) (by omega) s2 t2 fun σ3 r1 r2 r3 r4 => ?_)
  have s3 := s2.fq r4.1 (by decide) (by decide)
  have t3 := t2.ent (a := 0) r4 (by omega)
  have x3 : NxV σ3 (nS ws) B := by
    rintro a kd (⟨rfl, rfl⟩ | ⟨c1, c2⟩) ha
    · exact r3 ha
    · exact (t3 a c1 (by omega) kd c2).2.2 ha
  have f3 : Fq [24, 27, 28, 29, 30, 31, 32, 33, 34, 35, 36, 37, 38, 39, 40] [3, 6, 11, 15, 16, 24, 29, 34, 35, 36, 42, 43] σ1 σ3 := (f2.wk (by decide) (by decide)).tr (r4.1.wk (by decide) (by decide))
  have g3 := g1.fqs (f2.tr r4.1) (by decide) (by decide)
  have y3 : LyV σ3 ws := ⟨⟨trivial, w1.2.1.fq (f2.tr r4.1) (by decide) (by decide), w1.2.2.fq (f2.tr r4.1) (by decide) (by decide)⟩, by rw [(f2.tr r4.1).g1 (by decide)]; exact q1.1, q1.2.1.fq (f2.tr r4.1) (by decide) (by decide), q1.2.2.1.fq (f2.tr r4.1) (by decide) (by decide), q1.2.2.2.1.fq (f2.tr r4.1) (by decide) (by decide), q1.2.2.2.2.fq (f2.tr r4.1) (by decide) (by decide)⟩
  refine ev_nop okMd_breakNow rfl rfl ⟨vp_nI (by decide) (by decide), trivial⟩ ?_
  have e3 : σ3.2 31 (nI 3).toNatClampNeg = lN (B 0 1).1 := by
    rw [show (nI 3).toNatClampNeg = 4 * 0 + 3 from nI_cl (by decide), r1, DP_01 hdp]
  rw [e3]
  have f4 : Fq [] [15, 16] σ3 (up2 σ3.1 22 16 (nI 0), up2 σ3.2 22 15 (lN (B 0 1).1)) := Fq.tr (Fq.f2 (by decide)) (Fq.f1 (σ := (σ3.1, up2 σ3.2 22 15 (lN (B 0 1).1))) (by decide))
  have n4 : NtV (up2 σ3.1 22 16 (nI 0), up2 σ3.2 22 15 (lN (B 0 1).1)) 0 [] := ⟨by decide, rfl, up2_same σ3.1 22 16 _, fun i hi => absurd hi (Nat.not_lt_zero i), fun i hi => absurd hi (Nat.not_lt_zero i)⟩
  have d4 : (up2 σ3.1 22 16 (nI 0), up2 σ3.2 22 15 (lN (B 0 1).1)).2 22 15 = lN (B 0 1).1 := up2_same σ3.2 22 15 _
  show Ev lc G mMd_breakNow 79 [some (.ref 22), some (.int (nI 0)), some (.int (nI 3)), none] [] (up2 σ3.1 22 16 (nI 0), up2 σ3.2 22 15 (lN (B 0 1).1)) Q
  generalize (up2 σ3.1 22 16 (nI 0), up2 σ3.2 22 15 (lN (B 0 1).1)) = σ4 at f4 n4 d4 ⊢
  refine lp_notes hok hR (by omega) (by omega) hdp (nS ws) 0 3 σ4 0 [] (by omega) (by omega) (Or.inl ⟨rfl, rfl⟩) (Nat.le_refl _) (s3.fq f4 (by decide) (by decide)) (x3.fq f4 (by decide)) n4 fun σ5 u1 u2 => ?_
  rw [wy_03 hdp, Nat.zero_add, List.nil_append] at u1
  have f5 := (Fq.wk f4 (S' := [34, 35, 36, 37, 38, 39]) (F' := [15, 16]) (by decide) (by decide)).tr (u2.wk (by decide) (by decide))
  refine ev_nop okMd_breakNow rfl rfl trivial ?_
  have f6 : Fq [34, 35, 36, 37, 38, 39] [6, 15, 16] σ3 (up2 σ5.1 22 6 (nI 0), σ5.2) := (f5.wk (by decide) (by decide)).tr (Fq.f1 (by decide))
  have f6' : Fq [] [6] σ5 (up2 σ5.1 22 6 (nI 0), σ5.2) := Fq.f1 (by decide)
  have w6 : RwV (up2 σ5.1 22 6 (nI 0), σ5.2) [] := ⟨up2_same σ5.1 22 6 _, RowAt.nil, RowAt.nil⟩
  have d6 : (up2 σ5.1 22 6 (nI 0), σ5.2).2 22 15 = lN (B 0 1).1 := by
    show σ5.2 22 15 = _
    rw [u2.g2 (by decide)]; exact d4
  have n6 := u1.fq f6' (by decide) (by decide)
  generalize (up2 σ5.1 22 6 (nI 0), σ5.2) = σ6 at f6 w6 d6 n6 ⊢
  refine lp_puts (jf := jf) hok hN (rl_le hok) hR (by omega) (by omega) hhd hft hdp (nS ws) 0 3 σ6 (N, o) pb (by omega) (by omega) (Or.inl ⟨rfl, rfl⟩) (s3.fq f6 (by decide) (by decide)) (x3.fq f6 (by decide)) (y3.fq2 f6 (by decide) (by decide)) (g3.fqs f6 (by decide) (by decide)) hj hpb (by omega) fun σ7 v1 v2 => ?_
  rw [wy_03 hdp] at v1
  refine k σ7 v1 (w6.fq v2 (by decide) (by decide) (by decide)) (n6.fq v2 (by decide) (by decide)) (by rw [v2.g2 (by decide)]; exact d6) ?_
  exact ((f1.tr f3).tr (f6.wk (by decide) (by decide))).tr (v2.wk (by decide) (by decide))
end RB2
end
section
/-! ===== the state that both sides show ===== -/
/-- line; words; numbers and output; head, foot; facts, demerits; passed over -/
abbrev MS : Type := List Nat × List (List Nat × Nat) × PS × (List Nat × List Nat) × (List Nat × Int64) × Int32
abbrev mX (m : MS) : List Nat := m.1
abbrev mW (m : MS) : List (List Nat × Nat) := m.2.1
abbrev mP (m : MS) : PS := m.2.2.1
abbrev mH (m : MS) : List Nat := m.2.2.2.1.1
abbrev mF (m : MS) : List Nat := m.2.2.2.1.2
abbrev mT (m : MS) : List Nat := m.2.2.2.2.1.1
abbrev mD (m : MS) : Int64 := m.2.2.2.2.1.2
abbrev mQ (m : MS) : Int32 := m.2.2.2.2.2
def sX (m : MS) (x : List Nat) : MS := (x, m.2)
def sW (m : MS) (w : List (List Nat × Nat)) : MS := (m.1, w, m.2.2)
def sP (m : MS) (p : PS) : MS := (m.1, m.2.1, p, m.2.2.2)
def sN (m : MS) (j : Nat) (v : Int32) : MS := sP m (upd (mP m).1 j v, (mP m).2)
def CV (σ : St2) (m : MS) : Prop := TextAt σ 1 (mX m) ∧ PgV σ (mP m).1 (mH m) (mF m) (mP m).2 ∧ PaV σ (clsP (mW m)).1 (clsP (mW m)).2.1 (clsP (mW m)).2.2.1 (clsP (mW m)).2.2.2 ∧ (∃ E, LnV σ E (mT m)) ∧ σ.2 17 7 = mD m ∧ σ.1 0 7 = mQ m
def RV (σ : St2) (m : MS) : Prop := LineR σ (mX m) ∧ RgV σ (mP m).1 (mH m) (mF m) (mP m).2 ∧ RwV σ (mW m) ∧ (∃ cnt, NtV σ cnt (mT m)) ∧ σ.2 22 15 = mD m ∧ σ.1 22 41 = mQ m
def Rg (v : Int32) (lo hi : Nat) : Prop := ∃ n, v = nI n ∧ lo ≤ n ∧ n ≤ hi
def R2 (N : NN) : Prop := ∃ R ii, N 0 = nI R ∧ N 1 = nI ii ∧ R ≤ 80 ∧ ii < R
def R3 (N : NN) : Prop := ∃ R ii hh, N 0 = nI R ∧ N 1 = nI ii ∧ N 2 = nI hh ∧ R ≤ 80 ∧ ii < R ∧ hh < R
def NK (pb : Nat) (N : NN) : Prop := Rg (N 3) 1 9 ∧ Rg (N 4) 0 99 ∧ Rg (N 5) 0 99 ∧ Rg (N 6) 8 99 ∧ (∃ fl, N 7 = b2 fl) ∧ (∃ jf, N 8 = b2 jf) ∧ Rg (N 9) 0 200 ∧ PB pb N
def NI (pb : Nat) (N : NN) : Prop := R3 N ∧ NK pb N
theorem R3.two {N : NN} (h : R3 N) : R2 N := by
  obtain ⟨R, ii, hh, a, b, c, d, e, f⟩ := h
  exact ⟨R, ii, a, b, d, e⟩
def Inv (pb : Nat) (m : MS) : Prop := (∀ b ∈ mX m, 32 ≤ b ∧ b < 127) ∧ WdOK (mW m) ∧ NI pb (mP m).1 ∧ (∀ b ∈ mH m, b < 128) ∧ (∀ b ∈ mF m, b < 128)
theorem Inv.x128 {pb : Nat} {m : MS} (h : Inv pb m) : ∀ b ∈ mX m, b < 128 := fun b hb => by have := h.1 b hb; omega
theorem NK.mono {a b : Nat} {N : NN} (h : NK a N) (hab : a ≤ b) : NK b N := ⟨h.1, h.2.1, h.2.2.1, h.2.2.2.1, h.2.2.2.2.1, h.2.2.2.2.2.1, h.2.2.2.2.2.2.1, h.2.2.2.2.2.2.2.mono hab⟩
theorem Inv.mono {a b : Nat} {m : MS} (h : Inv a m) (hab : a ≤ b) : Inv b m := ⟨h.1, h.2.1, ⟨h.2.2.1.1, h.2.2.1.2.mono hab⟩, h.2.2.2⟩
theorem NK_of {a b : Nat} {N N' : NN} (h : NK a N) (hk : ∀ j, 3 ≤ j → j < 9 → N' j = N j) (h9 : Rg (N' 9) 0 200) (hp : PB b N') : NK b N' := by
  obtain ⟨h3, h4, h5, h6, h7, h8, -, -⟩ := h
  rw [← hk 3 (by omega) (by omega)] at h3
  rw [← hk 4 (by omega) (by omega)] at h4
  rw [← hk 5 (by omega) (by omega)] at h5
  rw [← hk 6 (by omega) (by omega)] at h6
  rw [← hk 7 (by omega) (by omega)] at h7
  rw [← hk 8 (by omega) (by omega)] at h8
  exact ⟨h3, h4, h5, h6, h7, h8, h9, hp⟩
theorem bot_nI {N : NN} {pl : Nat} (h : N 6 = nI pl) (h8 : 8 ≤ pl) : bot N = nI (pl - 3) := by
  unfold bot
  rw [h, pk_sub (by omega)]
theorem pOpen_9 {a : Nat} {hd : List Nat} {e : Bool} {s : PS} (h : NK a s.1) : Rg ((pOpen hd e s).1 9) 0 99 := by
  obtain ⟨h3, h4, h5, ⟨pl, h6, h61, h62⟩, h7, h8, ⟨v, h9, -, h92⟩, hp⟩ := h
  unfold pOpen pOpen0
  split
  · exact ⟨4, by simp [pHead, upd], by omega, by omega⟩
  · rename_i hn
    refine ⟨v, h9, by omega, ?_⟩
    rw [h9, bot_nI h6 h61] at hn
    have : ¬ nI (pl - 3) < nI v := fun z => hn (Or.inr z)
    have : ¬ pl - 3 < v := fun z => this (nI_lt z (by omega))
    omega
theorem pSkip1_9 {a : Nat} {hd : List Nat} {s : PS} (h : NK a s.1) (hb : ¬ bot s.1 < s.1 9) : Rg ((pSkip1 hd s).1 9) 0 99 := by
  obtain ⟨h3, h4, h5, ⟨pl, h6, h61, h62⟩, h7, h8, ⟨v, h9, -, h92⟩, hp⟩ := h
  unfold pSkip1
  split
  · exact ⟨4, by simp [pHead, upd], by omega, by omega⟩
  · refine ⟨v, h9, by omega, ?_⟩
    rw [h9, bot_nI h6 h61] at hb
    have : ¬ pl - 3 < v := fun z => hb (nI_lt z (by omega))
    omega
theorem pLine_NI {a : Nat} {hd ft o : List Nat} {e : Bool} {s : PS} (h2 : R2 s.1) (h : NK a s.1) : NI (a + 1) (pClose ft ((pOpen hd e s).1, o)).1 := by
  have h9 := pOpen_9 (hd := hd) (e := e) h
  have hp := pOpen_PB (hd := hd) (e := e) h.2.2.2.2.2.2.2
  have k : ∀ j, j ≠ 9 → j ≠ 10 → j ≠ 11 → (pOpen hd e s).1 j = s.1 j := fun j a b c => pOpen_keep hd e s ⟨a, b, c⟩
  generalize pOpen hd e s = S at h9 hp k ⊢
  obtain ⟨R, ii, a0, a1, a2, a3⟩ := h2
  obtain ⟨v, e9, -, v9⟩ := h9
  obtain ⟨sp, e3, s1, s2⟩ := h.1
  have e1 : ∀ j, j ≠ 9 → j ≠ 2 → j ≠ 12 → (pClose ft (S.1, o)).1 j = S.1 j := fun j a b c => pClose_keep ft (S.1, o) ⟨a, b, c⟩
  have e2 : (pClose ft (S.1, o)).1 2 = S.1 1 := by simp [pClose, pDown, upd]
  have e9' : (pClose ft (S.1, o)).1 9 = S.1 9 + S.1 3 := by simp [pClose, pDown, upd]
  refine ⟨⟨R, ii, ii, ?_, ?_, ?_, a2, a3, a3⟩, NK_of h (fun j h3 h9 => ?_) ?_ (pClose_PB hp)⟩
  · rw [e1 0 (by decide) (by decide) (by decide), k 0 (by decide) (by decide) (by decide)]; exact a0
  · rw [e1 1 (by decide) (by decide) (by decide), k 1 (by decide) (by decide) (by decide)]; exact a1
  · rw [e2, k 1 (by decide) (by decide) (by decide)]; exact a1
  · rw [e1 j (by omega) (by omega) (by omega), k j (by omega) (by omega) (by omega)]
  · rw [e9', e9, k 3 (by decide) (by decide) (by decide), e3, nI_add]
    exact ⟨v + sp, rfl, by omega, by omega⟩
theorem pSkip_keep (hd ft : List Nat) (n : Int32) (s : PS) {j : Nat} (h : j ≠ 9 ∧ j ≠ 10 ∧ j ≠ 11) : (pSkip hd ft n s).1 j = s.1 j := by
  unfold pSkip pSkip1
  split
  · rfl
  · split <;> simp [pDown, pHead, upd, h.1, h.2.1, h.2.2]
theorem pSkip_NI {a : Nat} {hd ft : List Nat} {n : Int32} {s : PS} (hn : Rg n 0 99) (h : NI a s.1) : NI (a + 1) (pSkip hd ft n s).1 := by
  obtain ⟨h3, hk⟩ := h
  refine ⟨?_, NK_of hk (fun j h3 h9 => pSkip_keep hd ft n s ⟨by omega, by omega, by omega⟩) ?_ (pSkip_PB hk.2.2.2.2.2.2.2)⟩
  · obtain ⟨R, ii, hh, a0, a1, a2, r⟩ := h3
    exact ⟨R, ii, hh, by rw [pSkip_keep _ _ _ _ (by decide)]; exact a0, by rw [pSkip_keep _ _ _ _ (by decide)]; exact a1, by rw [pSkip_keep _ _ _ _ (by decide)]; exact a2, r⟩
  · by_cases hb : bot s.1 < s.1 9
    · unfold pSkip
      rw [if_pos hb]
      exact hk.2.2.2.2.2.2.1
    · obtain ⟨v, e9, -, v9⟩ := pSkip1_9 (hd := hd) hk hb
      obtain ⟨n', en, -, n9⟩ := hn
      unfold pSkip
      rw [if_neg hb]
      show Rg (upd (pSkip1 hd s).1 9 ((pSkip1 hd s).1 9 + n) 9) 0 200
      rw [show upd (pSkip1 hd s).1 9 ((pSkip1 hd s).1 9 + n) 9 = (pSkip1 hd s).1 9 + n by simp [upd], e9, en, nI_add]
      exact ⟨v + n', rfl, by omega, by omega⟩
theorem brkL_NI {hd ft : List Nat} {le : Nat → Nat → List Nat} : ∀ (r : List (Nat × Nat)) (s : PS) (b : Nat), NI b s.1 → NI (b + r.length) (brkL hd ft le r s).1
  | [], s, b, h => h
  | q :: r, s, b, h => by
    rw [brkL]
    have := brkL_NI (hd := hd) (ft := ft) (le := le) r _ (b + 1) (pLine_NI (hd := hd) (ft := ft) (o := emit (pOpen hd false s).2 (le q.1 q.2)) (e := false) h.1.two h.2)
    rw [List.length_cons, show b + (r.length + 1) = b + 1 + r.length by omega]
    exact this
/-! a BREAK -/
abbrev cl (N : NN) (j : Nat) : Nat := (N j).toNatClampNeg
noncomputable def bkB (ws : List (List Nat × Nat)) (r1 r2 : Nat) : Nat → Nat → TE := bsT (lS ws) (wS ws) r1 r2 (nS ws) (nS ws)
noncomputable def bkW (ws : List (List Nat × Nat)) (r1 r2 : Nat) : List (Nat × Nat) := wy (lS ws) (wS ws) r1 r2 (nS ws) (bkB ws r1 r2) (nS ws) 0 1
noncomputable def mBrk (m : MS) : MS := if mW m = [] then m else
  (m.1, [], brkL (mH m) (mF m) (lnE (clsP (mW m)).1 (clsP (mW m)).2.1 (clsP (mW m)).2.2.1 (clsP (mW m)).2.2.2 (cl (mP m).1 0 - cl (mP m).1 2) (cl (mP m).1 0 - cl (mP m).1 1) (nS (mW m)) (decide ((mP m).1 8 = nI 1))) (bkW (mW m) (cl (mP m).1 0 - cl (mP m).1 2) (cl (mP m).1 0 - cl (mP m).1 1)) (mP m), m.2.2.2.1,
    ((bkW (mW m) (cl (mP m).1 0 - cl (mP m).1 2) (cl (mP m).1 0 - cl (mP m).1 1)).flatMap (fun q => fct (lS (mW m)) (wS (mW m)) (cl (mP m).1 0 - cl (mP m).1 2) (cl (mP m).1 0 - cl (mP m).1 1) (nS (mW m)) q.1 q.2), lN (bkB (mW m) (cl (mP m).1 0 - cl (mP m).1 2) (cl (mP m).1 0 - cl (mP m).1 1) 0 1).1), m.2.2.2.2.2)
theorem bk_DP (ws : List (List Nat × Nat)) (r1 r2 : Nat) : DP (lS ws) (wS ws) r1 r2 (nS ws) (bkB ws r1 r2) := DP_bsT
theorem bkW_len (ws : List (List Nat × Nat)) (hok : WdOK ws) (r1 r2 : Nat) : (bkW ws r1 r2).length ≤ 4000 := by
  have h1 := Chn_len (wy_chn (bk_DP ws r1 r2) (nS ws) 0 1 (by omega) (by omega))
  have h2 := nS_le hok
  unfold bkW
  omega
theorem WdOK_nil : WdOK [] := ⟨by decide, fun q hq => absurd hq List.not_mem_nil⟩
theorem mBrk_Inv {pb : Nat} {m : MS} (h : Inv pb m) : Inv (pb + 4000) (mBrk m) := by
  unfold mBrk
  split
  · exact h.mono (by omega)
  · obtain ⟨h1, h2, h3, h4, h5⟩ := h
    refine ⟨h1, WdOK_nil, ?_, h4, h5⟩
    have := brkL_NI (hd := mH m) (ft := mF m) (le := lnE (clsP (mW m)).1 (clsP (mW m)).2.1 (clsP (mW m)).2.2.1 (clsP (mW m)).2.2.2 (cl (mP m).1 0 - cl (mP m).1 2) (cl (mP m).1 0 - cl (mP m).1 1) (nS (mW m)) (decide ((mP m).1 8 = nI 1))) (bkW (mW m) (cl (mP m).1 0 - cl (mP m).1 2) (cl (mP m).1 0 - cl (mP m).1 1)) (mP m) pb h3
    have hl := bkW_len (mW m) h2 (cl (mP m).1 0 - cl (mP m).1 2) (cl (mP m).1 0 - cl (mP m).1 1)
    exact ⟨this.1, this.2.mono (by omega)⟩
theorem b2_dec (b : Bool) : decide (b2 b = nI 1) = b := by cases b <;> decide
section BK
variable {lc : Launch} {G : GG} {σ : St2} {Q : Option Value → St2 → Prop} {m : MS} {pb : Nat}
theorem sp_brkC (hc : CV σ m) (hi : Inv pb m) (hpb : pb < 900000000) (k : ∀ σ', CV σ' (mBrk m) → Fr [4, 5, 6, 7, 12, 17, 18, 19, 20, 21] σ σ' → Q none σ') : Ev lc G mPf_breakParagraph 0 [some (.ref 0), none, none, none, none] [] σ Q := by
  obtain ⟨h1, h2, ⟨h3, hk⟩, h4, h5⟩ := hi
  obtain ⟨c1, c2, c3, c4, c5, c6⟩ := hc
  by_cases hw : mW m = []
  · have e : mBrk m = m := if_pos hw
    rw [e] at k
    have c3' := c3
    rw [hw] at c3'
    exact sp_break0 c2 c3' (k σ ⟨c1, c2, c3, c4, c5, c6⟩ Fr.rf)
  · have hU : (clsP (mW m)).2.2.2 ≠ [] := by
      show (mW m).map (fun q => q.2) ≠ []
      simpa using hw
    obtain ⟨R, ii, hh, n0, n1, n2, r1, r2, r3⟩ := h3
    obtain ⟨jf, n8⟩ := hk.2.2.2.2.2.1
    have hlen : (clsP (mW m)).2.1.length = nS (mW m) + 1 := psL_len nl _
    have hN := nS_le h2
    refine sp_break (jf := jf) (n := nS (mW m)) (bk_DP (mW m) (R - hh) (R - ii)) (cls_PaB h2) hU ⟨rfl, rfl⟩ r1 r3 r2 hlen h4 h5 c2 c3 n0 n1 n2 n8 hk.2.2.2.2.2.2.2 (by omega) fun σ' q1 q2 q3 q4 q5 => ?_
    refine k σ' ?_ q5
    have d0 : cl (mP m).1 0 = R := by show ((mP m).1 0).toNatClampNeg = R; rw [n0]; exact nI_cl (by omega)
    have d1 : cl (mP m).1 1 = ii := by show ((mP m).1 1).toNatClampNeg = ii; rw [n1]; exact nI_cl (by omega)
    have d2 : cl (mP m).1 2 = hh := by show ((mP m).1 2).toNatClampNeg = hh; rw [n2]; exact nI_cl (by omega)
    unfold mBrk
    rw [if_neg hw, d0, d1, d2, n8, b2_dec]
    exact ⟨c1.fr q5 (by decide) (by decide), q1, q2, ⟨_, q3⟩, q4, by rw [q5.a1 (by decide)]; exact c6⟩
theorem sp_brkR (hc : RV σ m) (hi : Inv pb m) (hpb : pb < 900000000) (k : ∀ σ', RV σ' (mBrk m) → Fq [24, 27, 28, 29, 30, 31, 32, 33, 34, 35, 36, 37, 38, 39, 40] [3, 6, 11, 15, 16, 24, 29, 34, 35, 36, 42, 43] σ σ' → Q none σ') : Ev lc G mMd_breakNow 0 [some (.ref 22), none, none, none] [] σ Q := by
  obtain ⟨h1, h2, ⟨h3, hk⟩, h4, h5⟩ := hi
  obtain ⟨c1, c2, c3, c4, c5, c6⟩ := hc
  by_cases hw : mW m = []
  · have e : mBrk m = m := if_pos hw
    rw [e] at k
    have c3' := c3
    rw [hw] at c3'
    exact sp_breakNow0 c3' (k σ ⟨c1, c2, c3, c4, c5, c6⟩ Fq.rf)
  · obtain ⟨R, ii, hh, n0, n1, n2, r1, r2, r3⟩ := h3
    obtain ⟨jf, n8⟩ := hk.2.2.2.2.2.1
    refine sp_breakNow (jf := jf) h2 hw r1 r3 r2 (bk_DP (mW m) (R - hh) (R - ii)) h4 h5 c2 c3 n0 n1 n2 n8 hk.2.2.2.2.2.2.2 (by omega) fun σ' q1 q2 q3 q4 q5 => ?_
    refine k σ' ?_ q5
    have d0 : cl (mP m).1 0 = R := by show ((mP m).1 0).toNatClampNeg = R; rw [n0]; exact nI_cl (by omega)
    have d1 : cl (mP m).1 1 = ii := by show ((mP m).1 1).toNatClampNeg = ii; rw [n1]; exact nI_cl (by omega)
    have d2 : cl (mP m).1 2 = hh := by show ((mP m).1 2).toNatClampNeg = hh; rw [n2]; exact nI_cl (by omega)
    unfold mBrk
    rw [if_neg hw, d0, d1, d2, n8, b2_dec]
    exact ⟨c1.fq q5 (by decide) (by decide) (by decide), q1, q2, ⟨_, q3⟩, q4, by rw [q5.g1 (by decide)]; exact c6⟩
end BK
end
section
/-! ===== texts and commands: what they do ===== -/
noncomputable def wd (cur : List Nat) (u : Nat) (m : MS) : MS := if hlt cur = true then sW (if (mW m).length = 80 then mBrk m else m) (mW (if (mW m).length = 80 then mBrk m else m) ++ [(cur, u)]) else m
noncomputable def gW (u : Nat) : List Nat → List Nat → MS → MS
  | cur, [], m => wd cur u m
  | cur, b :: r, m => if b = 32 then gW u [] r (wd cur u m) else gW u (cur ++ [b]) r m
def shW (u : Nat) (z : List Nat) : List Nat := z.map (fun b => if b = 32 then 32 else b + 256 * u)
def mPut (u : Nat) (z : List Nat) (m : MS) : MS := sP m (pPut (mH m) (mF m) (shW u z) (mP m))
def tN (bl : Nat) (N : NN) : NN := upd (upd N 2 (nI (min (cl N 0 - 1) (cl N 2 + bl)))) 5 (nI (cl N 5 - 1))
def tU (N : NN) : Nat := if cl N 5 = 0 then 0 else 1
noncomputable def mT1 (m : MS) : MS := if 0 < pbl (mX m) 0 ∨ (mX m).length = 0 then mBrk m else m
def cN (len : Nat) (N : NN) : NN := upd (upd N 4 (nI (cl N 4 - 1))) 2 (nI ((cl N 0 + cl N 2 + 1 - len) / 2))
noncomputable def mT3 (u : Nat) (y : List Nat) (m : MS) : MS :=
  if 0 < cl (mP m).1 4 then mPut u (noE (noC y)) (sP m (cN (noE (noC y)).length (mP m).1, (mP m).2))
  else if (mP m).1 7 = 0 then mPut u (noC y) m else gW u [] y m
noncomputable def mT2 (x : List Nat) (m : MS) : MS :=
  if pbl x 0 = x.length then mPut 0 [] m else mT3 (tU (mP m).1) (x.drop (pbl x 0)) (sP m (tN (pbl x 0) (mP m).1, (mP m).2))
noncomputable def mTx (m : MS) : MS := mT2 (mX m) (mT1 m)
def brF (c : Nat) (N : NN) : Bool := if c = 25200 then decide (¬ N 9 = 0) else decide (c = 25202 ∨ c = 25445 ∨ c = 26217 ∨ c = 28262 ∨ c = 29552 ∨ c = 29801)
def inN (x : List Nat) (N : NN) : NN := upd (upd N 1 (clp (nI 0) (N 0 - nI 1) (wv x (N 1) (nI 0)))) 2 (clp (nI 0) (N 0 - nI 1) (wv x (N 1) (nI 0)))
def bpM (x : List Nat) (m : MS) : MS := sN (if (mP m).1 9 = 0 then m else sP m (pSkip (mH m) (mF m) (nI 99) (mP m))) 11 (clp (nI 1) (nI 999) (wv x ((if (mP m).1 9 = 0 then m else sP m (pSkip (mH m) (mF m) (nI 99) (mP m))).2.2.1.1 11) ((if (mP m).1 9 = 0 then m else sP m (pSkip (mH m) (mF m) (nI 99) (mP m))).2.2.1.1 11)))
def mOb (x : List Nat) (m : MS) : MS :=
  if cname x = 25202 then m
  else if cname x = 26217 then sN m 7 (nI 1)
  else if cname x = 28262 then sN m 7 (nI 0)
  else if cname x = 27253 then sN m 8 (nI 1)
  else if cname x = 28257 then sN m 8 (nI 0)
  else if cname x = 27763 then sN m 3 (clp (nI 1) (nI 9) (wv x ((mP m).1 3) (nI 1)))
  else if cname x = 26990 then sP m (inN x (mP m).1, (mP m).2)
  else if cname x = 29801 then sN m 2 (clp (nI 0) ((mP m).1 0 - nI 1) (wv x ((mP m).1 2) (nI 0)))
  else if cname x = 29293 then sN m 0 (clp (nI (max (cl (mP m).1 2) (cl (mP m).1 1) + 1)) (nI 80) (wv x ((mP m).1 0) (nI 40)))
  else if cname x = 25445 then sN m 4 (clp (nI 0) (nI 99) (wv x ((mP m).1 4) (nI 1)))
  else if cname x = 30060 then sN m 5 (clp (nI 0) (nI 99) (wv x ((mP m).1 5) (nI 1)))
  else if cname x = 29552 then sP m (pSkip (mH m) (mF m) (clp (nI 0) (nI 99) (wv x (nI 0) (nI 1))) (mP m))
  else if cname x = 25200 then bpM x m
  else if cname x = 28780 then sN m 6 (clp (nI 8) (nI 99) (wv x ((mP m).1 6) (nI 24)))
  else if cname x = 26725 then (m.1, m.2.1, m.2.2.1, (x.drop (rs x), mF m), m.2.2.2.2)
  else if cname x = 26223 then (m.1, m.2.1, m.2.2.1, (mH m, x.drop (rs x)), m.2.2.2.2)
  else (m.1, m.2.1, m.2.2.1, m.2.2.2.1, m.2.2.2.2.1, mQ m + nI 1)
noncomputable def mCm (m : MS) : MS := mOb (mX m) (if brF (cname (mX m)) (mP m).1 = true then mBrk m else m)
/-! the line changes by itself -/
theorem mBrk_sX (m : MS) (y : List Nat) : mBrk (sX m y) = sX (mBrk m) y := by
  unfold mBrk
  by_cases h : mW m = []
  · rw [if_pos h, if_pos (show mW (sX m y) = [] from h)]
  · rw [if_neg h, if_neg (show ¬ mW (sX m y) = [] from h)]
    rfl
theorem mBrk_X (m : MS) : mX (mBrk m) = mX m := by
  unfold mBrk
  split <;> rfl
theorem mBrk_H (m : MS) : mH (mBrk m) = mH m ∧ mF (mBrk m) = mF m ∧ mQ (mBrk m) = mQ m := by
  unfold mBrk
  split <;> exact ⟨rfl, rfl, rfl⟩
theorem mBrk_W {m : MS} (h : mW m ≠ []) : mW (mBrk m) = [] := by
  unfold mBrk
  rw [if_neg h]
theorem wd_sX (cur : List Nat) (u : Nat) (m : MS) (y : List Nat) : wd cur u (sX m y) = sX (wd cur u m) y := by
  unfold wd
  split
  · by_cases h : (mW m).length = 80
    · rw [if_pos h, if_pos (show (mW (sX m y)).length = 80 from h), mBrk_sX]
      rfl
    · rw [if_neg h, if_neg (show ¬ (mW (sX m y)).length = 80 from h)]
      rfl
  · rfl
theorem gW_sX (u : Nat) (y : List Nat) : ∀ (r cur : List Nat) (m : MS), gW u cur r (sX m y) = sX (gW u cur r m) y
  | [], cur, m => wd_sX cur u m y
  | b :: r, cur, m => by
    rw [gW, gW]
    split
    · rw [wd_sX]
      exact gW_sX u y r [] _
    · exact gW_sX u y r _ m
theorem wd_X (cur : List Nat) (u : Nat) (m : MS) : mX (wd cur u m) = mX m := by
  unfold wd
  split
  · show mX (if (mW m).length = 80 then mBrk m else m) = mX m
    split
    · exact mBrk_X m
    · rfl
  · rfl
/-! what stays true -/
theorem NK.set {pb : Nat} {N : NN} (h : NK pb N) {j : Nat} {v : Int32} (h3 : j = 3 → Rg v 1 9) (h4 : j = 4 → Rg v 0 99) (h5 : j = 5 → Rg v 0 99) (h6 : j = 6 → Rg v 8 99) (h7 : j = 7 → ∃ b, v = b2 b) (h8 : j = 8 → ∃ b, v = b2 b) (h9 : j < 9) : NK pb (upd N j v) := by
  obtain ⟨a3, a4, a5, a6, a7, a8, a9, ap⟩ := h
  have key : ∀ q, q ≠ j → upd N j v q = N q := fun q hq => by simp [upd, hq]
  have same : upd N j v j = v := by simp [upd]
  refine ⟨?_, ?_, ?_, ?_, ?_, ?_, ?_, ap.keep (by omega) (by omega)⟩
  · by_cases e : j = 3
    · subst e; rw [same]; exact h3 rfl
    · rw [key 3 (Ne.symm e)]; exact a3
  · by_cases e : j = 4
    · subst e; rw [same]; exact h4 rfl
    · rw [key 4 (Ne.symm e)]; exact a4
  · by_cases e : j = 5
    · subst e; rw [same]; exact h5 rfl
    · rw [key 5 (Ne.symm e)]; exact a5
  · by_cases e : j = 6
    · subst e; rw [same]; exact h6 rfl
    · rw [key 6 (Ne.symm e)]; exact a6
  · by_cases e : j = 7
    · subst e; rw [same]; exact h7 rfl
    · rw [key 7 (Ne.symm e)]; exact a7
  · by_cases e : j = 8
    · subst e; rw [same]; exact h8 rfl
    · rw [key 8 (Ne.symm e)]; exact a8
  · rw [key 9 (by omega)]; exact a9
theorem NK.set2 {pb : Nat} {N : NN} (h : NK pb N) {j : Nat} {v : Int32} (hj : j < 3) : NK pb (upd N j v) := h.set (by omega) (by omega) (by omega) (by omega) (by omega) (by omega) (by omega)
theorem R3.set {N : NN} (h : R3 N) {j : Nat} {v : Int32} (hj : 3 ≤ j) : R3 (upd N j v) := by
  obtain ⟨R, ii, hh, a, b, c, d⟩ := h
  have key : ∀ q, q ≠ j → upd N j v q = N q := fun q hq => by simp [upd, hq]
  exact ⟨R, ii, hh, by rw [key 0 (by omega)]; exact a, by rw [key 1 (by omega)]; exact b, by rw [key 2 (by omega)]; exact c, d⟩
theorem R2.set {N : NN} (h : R2 N) {j : Nat} {v : Int32} (hj : 2 ≤ j) : R2 (upd N j v) := by
  obtain ⟨R, ii, a, b, d⟩ := h
  have key : ∀ q, q ≠ j → upd N j v q = N q := fun q hq => by simp [upd, hq]
  exact ⟨R, ii, by rw [key 0 (by omega)]; exact a, by rw [key 1 (by omega)]; exact b, d⟩
theorem clp_Rg {lo hi : Nat} {v : Int32} (h : lo ≤ hi) (hh : hi < 2 ^ 31) : Rg (clp (nI lo) (nI hi) v) lo hi := by
  unfold clp
  by_cases h1 : v < nI lo
  · rw [if_pos h1]; exact ⟨lo, rfl, Nat.le_refl _, h⟩
  · rw [if_neg h1]
    by_cases h2 : nI hi < v
    · rw [if_pos h2]; exact ⟨hi, rfl, h, Nat.le_refl _⟩
    · rw [if_neg h2]
      rcases i32_cases v with ⟨q, -⟩ | ⟨q1, q2⟩
      · exact absurd (Int32.lt_of_lt_of_le q (show (0 : Int32) ≤ nI lo from Int32.not_lt.mp (nI_neg (by omega)))) h1
      · refine ⟨v.toNatClampNeg, q2, ?_, ?_⟩
        · rw [q2] at h1
          exact Nat.le_of_not_lt (fun z => h1 (nI_lt z (by omega)))
        · rw [q2] at h2
          exact Nat.le_of_not_lt (fun z => h2 (nI_lt z (by omega)))
theorem Rg_cl {N : NN} {j lo hi : Nat} (h : Rg (N j) lo hi) (hh : hi < 2 ^ 31) : N j = nI (cl N j) ∧ lo ≤ cl N j ∧ cl N j ≤ hi := by
  obtain ⟨n, e, h1, h2⟩ := h
  have : cl N j = n := by show (N j).toNatClampNeg = n; rw [e]; exact nI_cl (by omega)
  rw [this]
  exact ⟨e, h1, h2⟩
theorem R3_cl {N : NN} (h : R3 N) : N 0 = nI (cl N 0) ∧ N 1 = nI (cl N 1) ∧ N 2 = nI (cl N 2) ∧ cl N 0 ≤ 80 ∧ cl N 1 < cl N 0 ∧ cl N 2 < cl N 0 := by
  obtain ⟨R, ii, hh, a, b, c, d1, d2, d3⟩ := h
  have e0 : cl N 0 = R := by show (N 0).toNatClampNeg = _; rw [a]; exact nI_cl (by omega)
  have e1 : cl N 1 = ii := by show (N 1).toNatClampNeg = _; rw [b]; exact nI_cl (by omega)
  have e2 : cl N 2 = hh := by show (N 2).toNatClampNeg = _; rw [c]; exact nI_cl (by omega)
  rw [e0, e1, e2]
  exact ⟨a, b, c, d1, d2, d3⟩
theorem wd_Inv {pb u : Nat} {cur : List Nat} {m : MS} (h : Inv pb m) (hc : ∀ b ∈ cur, 33 ≤ b ∧ b < 127) (hl : cur.length ≤ 100) (hu : u < 2) : Inv (pb + 4000) (wd cur u m) := by
  unfold wd
  split
  · rename_i ht
    have key : ∀ m1 : MS, Inv (pb + 4000) m1 → (mW m1).length < 80 → Inv (pb + 4000) (sW m1 (mW m1 ++ [(cur, u)])) := by
      intro m1 h1 h2
      refine ⟨h1.1, ⟨?_, fun q hq => ?_⟩, h1.2.2⟩
      · show (mW m1 ++ [(cur, u)]).length ≤ 80
        simp; omega
      · rcases List.mem_append.mp hq with hq | hq
        · exact h1.2.1.2 q hq
        · rw [List.mem_singleton.mp hq]
          exact ⟨ht, hl, hu, fun b hb => ⟨(hc b hb).1, by have := (hc b hb).2; omega⟩⟩
    have h80 := h.2.1.1
    by_cases e : (mW m).length = 80
    · rw [if_pos e]
      refine key _ (mBrk_Inv h) ?_
      rw [mBrk_W (fun z => by rw [z] at e; cases e)]
      decide
    · rw [if_neg e]
      exact key _ (h.mono (by omega)) (by omega)
  · exact h.mono (by omega)
theorem gW_Inv {u : Nat} (hu : u < 2) : ∀ (r cur : List Nat) (m : MS) (pb : Nat), Inv pb m → (∀ b ∈ cur, 33 ≤ b ∧ b < 127) → (∀ b ∈ r, 32 ≤ b ∧ b < 127) → cur.length + r.length ≤ 100 → Inv (pb + 4000 * (r.length + 1)) (gW u cur r m)
  | [], cur, m, pb, h, hc, hr, hl => by
    rw [gW]
    exact (wd_Inv h hc (by simp at hl; omega) hu).mono (by simp)
  | b :: r, cur, m, pb, h, hc, hr, hl => by
    rw [gW]
    rw [List.length_cons] at hl ⊢
    have hb := hr b List.mem_cons_self
    split
    · have := gW_Inv hu r [] _ (pb + 4000) (wd_Inv h hc (by omega) hu) (fun b hb => absurd hb List.not_mem_nil) (fun c hc => hr c (List.mem_cons_of_mem _ hc)) (by simp; omega)
      exact this.mono (by omega)
    · have := gW_Inv hu r (cur ++ [b]) m pb h (fun c hc2 => by
        rcases List.mem_append.mp hc2 with q | q
        · exact hc c q
        · rw [List.mem_singleton.mp q]; omega) (fun c hc => hr c (List.mem_cons_of_mem _ hc)) (by simp; omega)
      exact this.mono (by omega)
theorem mPut_Inv {pb u : Nat} {z : List Nat} {m : MS} (h1 : ∀ b ∈ mX m, 32 ≤ b ∧ b < 127) (h2 : WdOK (mW m)) (h3 : R2 (mP m).1) (hk : NK pb (mP m).1) (h4 : ∀ b ∈ mH m, b < 128) (h5 : ∀ b ∈ mF m, b < 128) : Inv (pb + 1) (mPut u z m) := ⟨h1, h2, pLine_NI h3 hk, h4, h5⟩
theorem tN_NI {pb bl : Nat} {N : NN} (h : NI pb N) : NI pb (tN bl N) := by
  obtain ⟨h0, h1, h2, h3, h4, h5⟩ := R3_cl h.1
  obtain ⟨e5, -, f5⟩ := Rg_cl h.2.2.2.1 (by decide)
  unfold tN
  refine ⟨R3.set ⟨cl N 0, cl N 1, min (cl N 0 - 1) (cl N 2 + bl), ?_, ?_, ?_, h3, h4, by omega⟩ (by decide), (h.2.set2 (by decide)).set (by omega) (by omega) (fun _ => ⟨_, rfl, by omega, by omega⟩) (by omega) (by omega) (by omega) (by omega)⟩
  · simp [upd]; exact h0
  · simp [upd]; exact h1
  · simp [upd]
theorem mT3_Inv {pb u : Nat} {y : List Nat} {m : MS} (h : Inv pb m) (hu : u < 2) (hy : ∀ b ∈ y, 32 ≤ b ∧ b < 127) (hl : y.length ≤ 100) : Inv (pb + 500000) (mT3 u y m) := by
  unfold mT3
  obtain ⟨a1, a2, a3, a4, a5⟩ := h
  split
  · refine (mPut_Inv (m := sP m (cN (noE (noC y)).length (mP m).1, (mP m).2)) a1 a2 ?_ ?_ a4 a5).mono (show pb + 1 ≤ _ by omega)
    · exact (a3.1.two.set (by decide)).set (by decide)
    · obtain ⟨e4, -, f4⟩ := Rg_cl a3.2.2.1 (by decide)
      exact (a3.2.set (by omega) (fun _ => ⟨_, rfl, by omega, by omega⟩) (by omega) (by omega) (by omega) (by omega) (by omega)).set2 (by omega)
  · split
    · exact (mPut_Inv a1 a2 a3.1.two a3.2 a4 a5).mono (by omega)
    · exact (gW_Inv hu y [] m pb ⟨a1, a2, a3, a4, a5⟩ (fun b hb => absurd hb List.not_mem_nil) hy (by simpa using hl)).mono (by omega)
theorem tU_lt (N : NN) : tU N < 2 := by unfold tU; split <;> decide
theorem mTx_Inv {pb : Nat} {m : MS} (h : Inv pb m) (hl : (mX m).length ≤ 100) : Inv (pb + 600000) (mTx m) := by
  have h1 : Inv (pb + 4000) (mT1 m) := by
    unfold mT1
    split
    · exact mBrk_Inv h
    · exact h.mono (by omega)
  unfold mTx mT2
  split
  · exact (mPut_Inv h1.1 h1.2.1 h1.2.2.1.1.two h1.2.2.1.2 h1.2.2.2.1 h1.2.2.2.2).mono (by omega)
  · refine (mT3_Inv (pb := pb + 4000) (m := sP (mT1 m) (tN (pbl (mX m) 0) (mP (mT1 m)).1, (mP (mT1 m)).2)) ⟨h1.1, h1.2.1, tN_NI h1.2.2.1, h1.2.2.2⟩ (tU_lt _) (fun b hb => h.1 b (List.mem_of_mem_drop hb)) (by rw [List.length_drop]; omega)).mono (by omega)
theorem R3_in {N : NN} {x : List Nat} (h : R3 N) : R3 (inN x N) := by
  obtain ⟨h0, h1, h2, h3, h4, h5⟩ := R3_cl h
  have e : N 0 - nI 1 = nI (cl N 0 - 1) := by rw [h0]; exact pk_sub (b := 1) (by omega)
  obtain ⟨v, v1, -, v2⟩ := clp_Rg (lo := 0) (hi := cl N 0 - 1) (v := wv x (N 1) (nI 0)) (by omega) (by omega)
  refine ⟨cl N 0, v, v, ?_, ?_, ?_, h3, by omega, by omega⟩
  · simp [inN, upd]; exact h0
  · simp [inN, upd]; rw [e]; exact v1
  · simp [inN, upd]; rw [e]; exact v1
theorem iteP {α : Type} {P : α → Prop} {c : Prop} [Decidable c] {a b : α} (h1 : c → P a) (h2 : ¬ c → P b) : P (if c then a else b) := by
  split
  · exact h1 ‹_›
  · exact h2 ‹_›
theorem mOb_Inv {pb : Nat} {x : List Nat} {m : MS} (h : Inv pb m) (hx : ∀ b ∈ x, 32 ≤ b ∧ b < 127) : Inv (pb + 2000) (mOb x m) := by
  obtain ⟨a1, a2, a3, a4, a5⟩ := h
  obtain ⟨h0, h1, h2, h3, h4, h5⟩ := R3_cl a3.1
  have e1 : (mP m).1 0 - nI 1 = nI (cl (mP m).1 0 - 1) := by rw [h0]; exact pk_sub (b := 1) (by omega)
  have hm : Inv (pb + 2000) m := Inv.mono ⟨a1, a2, a3, a4, a5⟩ (by omega)
  have k3 : ∀ (N : NN), NI (pb + 2000) N → ∀ o, Inv (pb + 2000) (sP m (N, o)) := fun N hN o => ⟨a1, a2, hN, a4, a5⟩
  have b3 : R3 (mP m).1 := a3.1
  have bk : NK (pb + 2000) (mP m).1 := a3.2.mono (by omega)
  unfold mOb
  refine iteP (P := Inv (pb + 2000)) (fun _ => ?_) (fun _ => ?_)
  · exact hm
  refine iteP (P := Inv (pb + 2000)) (fun _ => ?_) (fun _ => ?_)
  · exact k3 _ ⟨b3.set (by decide), bk.set (by omega) (by omega) (by omega) (by omega) (fun _ => ⟨true, rfl⟩) (by omega) (by omega)⟩ _
  refine iteP (P := Inv (pb + 2000)) (fun _ => ?_) (fun _ => ?_)
  · exact k3 _ ⟨b3.set (by decide), bk.set (by omega) (by omega) (by omega) (by omega) (fun _ => ⟨false, rfl⟩) (by omega) (by omega)⟩ _
  refine iteP (P := Inv (pb + 2000)) (fun _ => ?_) (fun _ => ?_)
  · exact k3 _ ⟨b3.set (by decide), bk.set (by omega) (by omega) (by omega) (by omega) (by omega) (fun _ => ⟨true, rfl⟩) (by omega)⟩ _
  refine iteP (P := Inv (pb + 2000)) (fun _ => ?_) (fun _ => ?_)
  · exact k3 _ ⟨b3.set (by decide), bk.set (by omega) (by omega) (by omega) (by omega) (by omega) (fun _ => ⟨false, rfl⟩) (by omega)⟩ _
  refine iteP (P := Inv (pb + 2000)) (fun _ => ?_) (fun _ => ?_)
  · exact k3 _ ⟨b3.set (by decide), bk.set (fun _ => clp_Rg (by decide) (by decide)) (by omega) (by omega) (by omega) (by omega) (by omega) (by omega)⟩ _
  refine iteP (P := Inv (pb + 2000)) (fun _ => ?_) (fun _ => ?_)
  · exact k3 _ ⟨R3_in b3, (bk.set2 (by decide)).set2 (by decide)⟩ _
  refine iteP (P := Inv (pb + 2000)) (fun _ => ?_) (fun _ => ?_)
  · refine k3 _ ⟨?_, bk.set2 (by decide)⟩ _
    obtain ⟨v, v1, -, v2⟩ := clp_Rg (lo := 0) (hi := cl (mP m).1 0 - 1) (v := wv x ((mP m).1 2) (nI 0)) (by omega) (by omega)
    refine ⟨cl (mP m).1 0, cl (mP m).1 1, v, ?_, ?_, ?_, h3, h4, by omega⟩
    · simp [upd]; exact h0
    · simp [upd]; exact h1
    · simp [upd]; rw [e1]; exact v1
  refine iteP (P := Inv (pb + 2000)) (fun _ => ?_) (fun _ => ?_)
  · refine k3 _ ⟨?_, bk.set2 (by decide)⟩ _
    obtain ⟨v, v1, v3, v2⟩ := clp_Rg (lo := max (cl (mP m).1 2) (cl (mP m).1 1) + 1) (hi := 80) (v := wv x ((mP m).1 0) (nI 40)) (by omega) (by omega)
    refine ⟨v, cl (mP m).1 1, cl (mP m).1 2, ?_, ?_, ?_, v2, by omega, by omega⟩
    · simp [upd]; exact v1
    · simp [upd]; exact h1
    · simp [upd]; exact h2
  refine iteP (P := Inv (pb + 2000)) (fun _ => ?_) (fun _ => ?_)
  · exact k3 _ ⟨b3.set (by decide), bk.set (by omega) (fun _ => clp_Rg (by decide) (by decide)) (by omega) (by omega) (by omega) (by omega) (by omega)⟩ _
  refine iteP (P := Inv (pb + 2000)) (fun _ => ?_) (fun _ => ?_)
  · exact k3 _ ⟨b3.set (by decide), bk.set (by omega) (by omega) (fun _ => clp_Rg (by decide) (by decide)) (by omega) (by omega) (by omega) (by omega)⟩ _
  refine iteP (P := Inv (pb + 2000)) (fun _ => ?_) (fun _ => ?_)
  · have := pSkip_NI (hd := mH m) (ft := mF m) (s := mP m) (n := clp (nI 0) (nI 99) (wv x (nI 0) (nI 1))) (clp_Rg (by decide) (by decide)) a3
    exact ⟨a1, a2, ⟨this.1, this.2.mono (by omega)⟩, a4, a5⟩
  refine iteP (P := Inv (pb + 2000)) (fun _ => ?_) (fun _ => ?_)
  · have key : ∀ m1 : MS, Inv (pb + 1) m1 → Inv (pb + 2000) (sN m1 11 (clp (nI 1) (nI 999) (wv x (m1.2.2.1.1 11) (m1.2.2.1.1 11)))) := by
      rintro m1 ⟨c1, c2, c3, c4, c5⟩
      refine ⟨c1, c2, ⟨c3.1.set (by decide), NK_of c3.2 (fun j q1 q2 => ?_) ?_ ?_⟩, c4, c5⟩
      · show upd (mP m1).1 11 _ j = _
        simp only [upd]
        rw [if_neg (by omega)]
      · exact (show Rg ((mP m1).1 9) 0 200 from c3.2.2.2.2.2.2.2.1)
      · obtain ⟨v, v1, v3, v2⟩ := clp_Rg (lo := 1) (hi := 999) (v := wv x (m1.2.2.1.1 11) (m1.2.2.1.1 11)) (by omega) (by omega)
        obtain ⟨p, q, e1, e2, p1, p2⟩ := c3.2.2.2.2.2.2.2.2
        refine ⟨v, q, ?_, ?_, by omega, by omega⟩
        · exact v1
        · exact e2
    unfold bpM
    by_cases e : (mP m).1 9 = 0
    · rw [if_pos e]
      exact key m (Inv.mono ⟨a1, a2, a3, a4, a5⟩ (by omega))
    · rw [if_neg e]
      exact key _ ⟨a1, a2, pSkip_NI ⟨99, rfl, by omega, by omega⟩ a3, a4, a5⟩
  refine iteP (P := Inv (pb + 2000)) (fun _ => ?_) (fun _ => ?_)
  · exact k3 _ ⟨b3.set (by decide), bk.set (by omega) (by omega) (by omega) (fun _ => clp_Rg (by decide) (by decide)) (by omega) (by omega) (by omega)⟩ _
  refine iteP (P := Inv (pb + 2000)) (fun _ => ?_) (fun _ => ?_)
  · exact ⟨a1, a2, hm.2.2.1, fun b hb => by have := hx b (List.mem_of_mem_drop hb); omega, a5⟩
  refine iteP (P := Inv (pb + 2000)) (fun _ => ?_) (fun _ => ?_)
  · exact ⟨a1, a2, hm.2.2.1, a4, fun b hb => by have := hx b (List.mem_of_mem_drop hb); omega⟩
  · exact ⟨a1, a2, hm.2.2.1, a4, a5⟩
theorem mCm_Inv {pb : Nat} {m : MS} (h : Inv pb m) : Inv (pb + 6000) (mCm m) := by
  unfold mCm
  split
  · exact (mOb_Inv (mBrk_Inv h) h.1).mono (by omega)
  · exact (mOb_Inv h h.1).mono (by omega)
end
section
/-! ===== the class: texts ===== -/
theorem LnV.fr {S : List Nat} {σ σ' : St2} {E F : List Nat} (h : LnV σ E F) (hf : Fr S σ σ') (hs : ∀ c ∈ [17, 20, 21], c ∉ S) : LnV σ' E F := ⟨h.1, h.2.1, by rw [hf.a1 (hs 17 (by decide))]; exact h.2.2.1, h.2.2.2.1.fr hf (hs 20 (by decide)), h.2.2.2.2.fr hf (hs 21 (by decide))⟩
theorem CV.pg {σ σ' : St2} {m : MS} {N : NN} {o : List Nat} (h : CV σ m) (hf : Fr [4, 5, 6, 7] σ σ') (hp : PgV σ' N (mH m) (mF m) o) : CV σ' (sP m (N, o)) := by
  obtain ⟨c1, c2, c3, ⟨E, c4⟩, c5, c6⟩ := h
  exact ⟨c1.fr hf (by decide) (by decide), hp, c3.fr hf (by decide), ⟨E, c4.fr hf (by decide)⟩, by rw [hf.a2 (by decide)]; exact c5, by rw [hf.a1 (by decide)]; exact c6⟩
theorem CV.tx {σ σ' : St2} {m : MS} {y : List Nat} (h : CV σ m) (hf : Fr [1, 2] σ σ') (hp : TextAt σ' 1 y) : CV σ' (sX m y) := by
  obtain ⟨c1, c2, c3, ⟨E, c4⟩, c5, c6⟩ := h
  exact ⟨hp, c2.fr hf (by decide), c3.fr hf (by decide), ⟨E, c4.fr hf (by decide)⟩, by rw [hf.a2 (by decide)]; exact c5, by rw [hf.a1 (by decide)]; exact c6⟩
theorem CV.setL {σ : St2} {m : MS} (h : CV σ m) (j : Nat) (hj : j < 9) (v : Int32) : CV (up2 σ.1 4 j v, σ.2) (sN m j v) := h.pg (Fr.u1 (by decide)) (h.2.1.setL j hj v)
theorem CV.setP {σ : St2} {m : MS} (h : CV σ m) (j : Nat) (hj : j < 4) (v : Int32) : CV (up2 σ.1 7 (j + 4) v, σ.2) (sN m (j + 9) v) := h.pg (Fr.u1 (by decide)) (h.2.1.setP j hj v)
theorem upd_id {N : NN} {j : Nat} {v : Int32} (h : N j = v) : upd N j v = N := by
  funext q
  simp only [upd]
  by_cases e : q = j
  · rw [if_pos e, e]; exact h.symm
  · rw [if_neg e]
theorem sN_id {m : MS} {j : Nat} {v : Int32} (h : (mP m).1 j = v) : sN m j v = m := by
  unfold sN sP
  rw [upd_id h]
theorem ux_shW {u : Nat} (hu : u < 2) : ∀ {z : List Nat}, (∀ b ∈ z, b < 128) → ux (shW u z) = und u z
  | [], _ => rfl
  | b :: z, h => by
    have hb := h b List.mem_cons_self
    have ih := ux_shW hu (z := z) (fun c hc => h c (List.mem_cons_of_mem _ hc))
    show ux ((if b = 32 then 32 else b + 256 * u) :: shW u z) = _
    rw [ux_cons, und_cons, ih]
    congr 1
    by_cases e : b = 32
    · subst e
      simp
    · rw [if_neg e]
      rcases (show u = 0 ∨ u = 1 by omega) with rfl | rfl
      · rw [if_neg (by omega), if_pos (Or.inl rfl), show (b + 256 * 0) % 256 = b by omega]
      · rw [if_pos (by omega), if_neg (by omega), show (b + 256 * 1) % 256 = b by omega]
theorem shW_empty (u : Nat) (z : List Nat) : (shW u z).isEmpty = z.isEmpty := by
  cases z <;> rfl
section CT
variable {lc : Launch} {G : GG} {σ : St2} {Q : Option Value → St2 → Prop} {m : MS} {pb : Nat}
theorem sp_reset (k : Q none (up2 (up2 (up2 (up2 (up2 (up2 (up2 (up2 (up2 σ.1 4 0 (nI 40)) 4 1 (nI 0)) 4 2 (nI 0)) 4 3 (nI 1)) 4 4 (nI 0)) 4 5 (nI 0)) 4 6 (nI 24)) 4 7 (nI 1)) 4 8 (nI 1), σ.2)) : Ev lc G mLa_reset 0 [some (.ref 4)] [] σ Q :=
  ev_rv okLa_reset rfl rfl ⟨Or.inr rfl, Or.inr rfl, trivial⟩ rfl k
theorem sp_leastRight (hc : CV σ m) (h3 : R3 (mP m).1) (k : Q (some (.int (nI (max (cl (mP m).1 2) (cl (mP m).1 1) + 1)))) σ) : Ev lc G mLa_leastRight 0 [some (.ref 4)] [] σ Q := by
  obtain ⟨h0, h1, h2, b0, b1, b2⟩ := R3_cl h3
  refine ev_max okLa_leastRight rfl rfl trivial (by decide +kernel) rfl ?_
  rw [show σ.1 4 2 = _ from (hc.2.1.1 2 (by decide)).trans h2, show σ.1 4 1 = _ from (hc.2.1.1 1 (by decide)).trans h1]
  refine ev_ri okLa_leastRight rfl rfl trivial rfl ?_
  have e : (if nI (cl (mP m).1 2) < nI (cl (mP m).1 1) then nI (cl (mP m).1 1) else nI (cl (mP m).1 2)) = nI (max (cl (mP m).1 2) (cl (mP m).1 1)) := by
    by_cases q : cl (mP m).1 2 < cl (mP m).1 1
    · rw [if_pos (nI_lt q (by omega)), Nat.max_eq_right (by omega)]
    · rw [if_neg (fun z => q ((nI_ltI (by omega) (by omega)).mp z)), Nat.max_eq_left (by omega)]
  rw [e, nI_add]
  exact k
theorem sp_grow (hc : CV σ m) (h3 : R3 (mP m).1) {bl : Nat} (hb : bl ≤ 100) (k : ∀ σ', CV σ' (sN m 2 (nI (min (cl (mP m).1 0 - 1) (cl (mP m).1 2 + bl)))) → Fr [4] σ σ' → Q none σ') : Ev lc G mLa_growThisIndent 0 [some (.ref 4), some (.int (nI bl))] [] σ Q := by
  obtain ⟨h0, h1, h2, b0, b1, b2⟩ := R3_cl h3
  refine ev_min okLa_growThisIndent rfl rfl trivial (by decide +kernel) rfl ?_
  rw [show σ.1 4 2 = _ from (hc.2.1.1 2 (by decide)).trans h2, show σ.1 4 0 = _ from (hc.2.1.1 0 (by decide)).trans h0, nI_add, pk_sub (by omega)]
  have e : (if nI (cl (mP m).1 2 + bl) < nI (cl (mP m).1 0 - 1) then nI (cl (mP m).1 2 + bl) else nI (cl (mP m).1 0 - 1)) = nI (min (cl (mP m).1 0 - 1) (cl (mP m).1 2 + bl)) := by
    by_cases q : cl (mP m).1 2 + bl < cl (mP m).1 0 - 1
    · rw [if_pos (nI_lt q (by omega)), Nat.min_eq_right (by omega)]
    · rw [if_neg (fun z => q ((nI_ltI (by omega) (by omega)).mp z)), Nat.min_eq_left (by omega)]
  rw [e]
  exact ev_rv okLa_growThisIndent rfl rfl trivial rfl (k _ (hc.setL 2 (by decide) _) (Fr.u1 (by decide)))
theorem sp_takeUnderlined (hc : CV σ m) (h5 : Rg ((mP m).1 5) 0 99) (k : ∀ σ', CV σ' (sN m 5 (nI (cl (mP m).1 5 - 1))) → Fr [4] σ σ' → Q (some (.int (nI (tU (mP m).1)))) σ') : Ev lc G mLa_takeUnderlined 0 [some (.ref 4)] [] σ Q := by
  obtain ⟨e5, -, f5⟩ := Rg_cl h5 (by decide)
  have e : σ.1 4 5 = nI (cl (mP m).1 5) := (hc.2.1.1 5 (by decide)).trans e5
  refine ev_if_ne okLa_takeUnderlined rfl rfl trivial (fun g => ?_) (fun g => ?_)
  · rw [e] at g
    have hz : ¬ cl (mP m).1 5 = 0 := fun z => g (by rw [z]; rfl)
    refine ev_rz okLa_takeUnderlined rfl rfl trivial rfl (Or.inr rfl) ?_
    rw [e, pk_sub (by omega)]
    have := k _ (hc.setL 5 (by decide) (nI (cl (mP m).1 5 - 1))) (Fr.u1 (by decide))
    unfold tU at this
    rw [if_neg hz] at this
    exact this
  · have g : σ.1 4 5 = 0 := by simpa using g
    rw [e] at g
    have hz : cl (mP m).1 5 = 0 := by
      rcases Nat.eq_zero_or_pos (cl (mP m).1 5) with q | q
      · exact q
      · exact absurd g (nI_ne0 q (by omega))
    refine ev_rz okLa_takeUnderlined rfl rfl trivial rfl (Or.inl rfl) ?_
    have := k σ (by rw [sN_id (by rw [e5, hz])]; exact hc) Fr.rf
    unfold tU at this
    rw [if_pos hz] at this
    exact this
theorem sp_putEmptyLine (hc : CV σ m) (hH : ∀ b ∈ mH m, b < 128) (hF : ∀ b ∈ mF m, b < 128) (hp : PB pb (mP m).1) (hpb : pb < 900000000) (k : ∀ σ', CV σ' (mPut 0 [] m) → Fr [4, 5, 6, 7] σ σ' → Q none σ') : Ev lc G mPf_putEmptyLine 0 [some (.ref 0)] [] σ Q := by
  refine ev_cv okPf_putEmptyLine okPg_openLine rfl rfl trivial rfl (by decide +kernel) rfl rfl (sp_openLine (e := true) hc.2.1 hH (B := pb) (by omega) hp fun σ1 q1 q2 => ?_)
  refine ev_cv okPf_putEmptyLine okPg_closeLine rfl rfl trivial rfl (by decide +kernel) rfl rfl (sp_closeLine q1 hF (B := pb + 1) (by omega) (pOpen_PB hp) fun σ2 r1 r2 => ?_)
  have f2 : Fr [4, 5, 6, 7] σ σ2 := (q2.wk (by decide)).tr r2
  refine ev_rv okPf_putEmptyLine rfl rfl trivial rfl (k σ2 ?_ f2)
  have e : pPut (mH m) (mF m) (shW 0 []) (mP m) = pClose (mF m) (pOpen (mH m) true (mP m)) := by
    unfold pPut
    show pClose (mF m) ((pOpen (mH m) true (mP m)).1, emit (pOpen (mH m) true (mP m)).2 []) = _
    rw [emit_nil q1.2.2.2.2.1]
  unfold mPut
  rw [e]
  exact hc.pg f2 r1
theorem sp_putEntered {u : Nat} (hu : u < 2) (hc : CV σ m) (hx : ∀ b ∈ mX m, b < 128) (hH : ∀ b ∈ mH m, b < 128) (hF : ∀ b ∈ mF m, b < 128) (hp : PB pb (mP m).1) (hpb : pb < 900000000) (k : ∀ σ', CV σ' (mPut u (mX m) m) → Fr [4, 5, 6, 7] σ σ' → Q none σ') : Ev lc G mPf_putEntered 0 [some (.ref 0), some (.int (nI u))] [] σ Q := by
  obtain ⟨c1, c2, c3⟩ := hc
  have hl := c1.1
  have main : Ev lc G mPf_putEntered 19 [some (.ref 0), some (.int (nI u))] [.int (b2 (mX m).isEmpty), .ref 7] σ Q := by
    refine ev_cv okPf_putEntered okPg_openLine rfl rfl trivial rfl (by decide +kernel) rfl rfl (sp_openLine (e := (mX m).isEmpty) c2 hH (B := pb) (by omega) hp fun σ1 q1 q2 => ?_)
    have x1 := c1.fr q2 (by decide) (by decide)
    refine ev_cv okPf_putEntered okOu_putBytes rfl rfl trivial rfl (by decide +kernel) rfl rfl ?_
    rw [x1.2.1]
    refine sp_putBytes (c := 2) (E := (mX m).length) (B := 0) (x := mX m) (Or.inl ⟨rfl, hl⟩) (Nat.le_refl _) (Nat.zero_le _) hu hx x1.2.2 q1.2.2.2.2 fun σ2 r1 r2 => ?_
    rw [List.take_length, List.drop_zero] at r1
    have p2 := q1.out r2 r1
    refine ev_cv okPf_putEntered okPg_closeLine rfl rfl trivial rfl (by decide +kernel) rfl rfl (sp_closeLine p2 hF (B := pb + 1) (by omega) (pOpen_PB hp) fun σ3 s1 s2 => ?_)
    have f3 : Fr [4, 5, 6, 7] σ σ3 := ((q2.wk (by decide)).tr (r2.wk (by decide))).tr s2
    refine ev_rv okPf_putEntered rfl rfl trivial rfl (k σ3 ?_ f3)
    unfold mPut pPut
    rw [shW_empty, ux_shW hu hx]
    exact CV.pg ⟨c1, c2, c3⟩ f3 s1
  refine ev_if_ne okPf_putEntered rfl rfl trivial (fun g => ?_) (fun g => ?_)
  · rw [c1.2.1] at g
    have hz : ¬ (mX m).length = 0 := fun z => g (by rw [z]; rfl)
    have e : (mX m).isEmpty = false := by
      cases h : mX m with
      | nil => rw [h] at hz; exact absurd rfl hz
      | cons a l => rfl
    rw [e] at main
    exact ev_nop okPf_putEntered rfl rfl trivial main
  · have g : σ.1 1 1 = 0 := by simpa using g
    rw [c1.2.1] at g
    have hz : (mX m).length = 0 := by
      rcases Nat.eq_zero_or_pos (mX m).length with q | q
      · exact q
      · exact absurd g (nI_ne0 q (by omega))
    have e : (mX m).isEmpty = true := by rw [List.length_eq_zero_iff.mp hz]; rfl
    rw [e] at main
    exact ev_goto okPf_putEntered rfl rfl trivial main
theorem noE_mem {y : List Nat} {b : Nat} (h : b ∈ noE y) : b ∈ y := by
  unfold noE at h
  rw [List.mem_reverse] at h
  exact List.mem_reverse.mp (List.dropWhile_subset _ h)
theorem sp_putCentred {u : Nat} (hu : u < 2) (hc : CV σ m) (h3 : R3 (mP m).1) (h4 : Rg ((mP m).1 4) 0 99) (h4' : 0 < cl (mP m).1 4) (hx : ∀ b ∈ mX m, b < 128) (hH : ∀ b ∈ mH m, b < 128) (hF : ∀ b ∈ mF m, b < 128) (hp : PB pb (mP m).1) (hpb : pb < 900000000) (k : ∀ σ', CV σ' (sX (mPut u (noE (noC (mX m))) (sP m (cN (noE (noC (mX m))).length (mP m).1, (mP m).2))) (noE (noC (mX m)))) → Fr [1, 2, 4, 5, 6, 7] σ σ' → Q none σ') : Ev lc G mPf_putCentred 0 [some (.ref 0), some (.int (nI u)), none] [] σ Q := by
  obtain ⟨h0, h1, h2, b0, b1, b2⟩ := R3_cl h3
  obtain ⟨e4, -, f4⟩ := Rg_cl h4 (by decide)
  have l4 : σ.1 4 4 = nI (cl (mP m).1 4) := (hc.2.1.1 4 (by decide)).trans e4
  refine ev_cv okPf_putCentred okTx_dropCarets rfl rfl trivial rfl (by decide +kernel) rfl rfl ?_
  rw [l4, pk_sub (by omega)]
  have d1 := hc.setL 4 (by decide) (nI (cl (mP m).1 4 - 1))
  have f1 : Fr [4] σ (up2 σ.1 4 4 (nI (cl (mP m).1 4 - 1)), σ.2) := Fr.u1 (by decide)
  generalize (up2 σ.1 4 4 (nI (cl (mP m).1 4 - 1)), σ.2) = σ1 at d1 f1 ⊢
  refine sp_dropCarets d1.1 hx fun σ2 q1 q2 => ?_
  have d2 := d1.tx q2 q1
  have hx2 : ∀ b ∈ noC (mX m), b < 128 := fun b hb => hx b (List.mem_filter.mp hb).1
  refine ev_cv okPf_putCentred okTx_dropEndBlanks rfl rfl trivial rfl (by decide +kernel) rfl rfl (sp_dropEndBlanks (noC (mX m)).length (noC (mX m)) σ2 (Nat.le_refl _) q1 hx2 fun σ3 r1 r2 => ?_)
  have d3 : CV σ3 (sX (sN m 4 (nI (cl (mP m).1 4 - 1))) (noE (noC (mX m)))) := d2.tx (r2.wk (by decide)) r1
  have hlen : (noE (noC (mX m))).length ≤ 100 := d3.1.1
  have g0 : σ3.1 4 0 = nI (cl (mP m).1 0) := (d3.2.1.1 0 (by decide)).trans h0
  have g2 : σ3.1 4 2 = nI (cl (mP m).1 2) := (d3.2.1.1 2 (by decide)).trans h2
  have gs : σ3.1 1 1 = nI (noE (noC (mX m))).length := d3.1.2.1
  refine ev_max okPf_putCentred rfl rfl trivial (by decide +kernel) rfl ?_
  rw [g0, g2, gs, nI_add, nI_add, max0 (by omega) (by omega)]
  refine ev_cv okPf_putCentred okPf_putEntered rfl rfl ⟨by decide, trivial⟩ rfl (by decide +kernel) rfl rfl ?_
  rw [pk_div (by omega) (by decide) (by decide)]
  have d4 : CV _ (sX (sP m (cN (noE (noC (mX m))).length (mP m).1, (mP m).2)) (noE (noC (mX m)))) := d3.setL 2 (by decide) (nI ((cl (mP m).1 0 + cl (mP m).1 2 + 1 - (noE (noC (mX m))).length) / 2))
  refine sp_putEntered (pb := pb) hu d4 (fun b hb => hx2 b (noE_mem hb)) hH hF ((hp.keep (by decide) (by decide)).keep (by decide) (by decide)) hpb fun σ5 s1 s2 => ?_
  refine ev_rv okPf_putCentred rfl rfl trivial rfl (k σ5 s1 ?_)
  exact ((((f1.wk (by decide)).tr (q2.wk (by decide))).tr (r2.wk (by decide))).tr (Fr.u1 (by decide))).tr (s2.wk (by decide))
end CT
end
section
/-! ===== the class: words and texts are taken ===== -/
section CG
variable {lc : Launch} {G : GG} {σ : St2} {Q : Option Value → St2 → Prop}
theorem CV.pa {σ σ' : St2} {m : MS} {w : List (List Nat × Nat)} (h : CV σ m) (hf : Fr [12, 13, 14, 15, 16] σ σ') (hp : PaV σ' (clsP w).1 (clsP w).2.1 (clsP w).2.2.1 (clsP w).2.2.2) : CV σ' (sW m w) := by
  obtain ⟨c1, c2, c3, ⟨E, c4⟩, c5, c6⟩ := h
  exact ⟨c1.fr hf (by decide) (by decide), c2.fr hf (by decide), hp, ⟨E, c4.fr hf (by decide)⟩, by rw [hf.a2 (by decide)]; exact c5, by rw [hf.a1 (by decide)]; exact c6⟩
abbrev CF : List Nat := [4, 5, 6, 7, 12, 13, 14, 15, 16, 17, 18, 19, 20, 21]
theorem hasL_hlt (y : List Nat) (fr to : Nat) : hasL y fr to = hlt ((y.take to).drop fr) := rfl
/-- a word, from its letters on -/
theorem lp_wd {u : Nat} (hu : u < 2) {y : List Nat} (hy : ∀ b ∈ y, 32 ≤ b ∧ b < 127) {m : MS} {fr to pb : Nat} (hft : fr ≤ to) (hto : to ≤ y.length) (hnb : ∀ b ∈ (y.take to).drop fr, b ≠ 32) (hx : mX m = y) (hc : CV σ m) (hi : Inv pb m) (hpb : pb + 4000 < 900000000)
    (k : ∀ σ', CV σ' (wd ((y.take to).drop fr) u m) → Fr CF σ σ' → Ev lc G mPf_gatherWords 84 [some (.ref 0), some (.int (nI u)), none, some (.int (nI to))] [] σ' Q) :
    Ev lc G mPf_gatherWords 42 [some (.ref 0), some (.int (nI u)), some (.int (nI fr)), some (.int (nI to))] [] σ Q := by
  have hy8 : ∀ b ∈ y, b < 128 := fun b hb => by have := hy b hb; omega
  have h100 : y.length ≤ 100 := by rw [← hx]; exact hc.1.1
  have ht : TextAt σ 1 y := by rw [← hx]; exact hc.1
  have hwl : ((y.take to).drop fr).length = to - fr := by rw [List.length_drop, List.length_take]; omega
  refine ev_cv okPf_gatherWords okTx_hasLetters rfl rfl trivial rfl (by decide +kernel) rfl rfl (sp_hasLetters ht hy8 hto (by omega) ?_)
  rw [hasL_hlt]
  refine ev_if_eq okPf_gatherWords rfl rfl trivial (fun g => ?_) (fun g => ?_)
  · rw [b2_0] at g
    have e : wd ((y.take to).drop fr) u m = m := if_neg (by rw [g]; decide)
    rw [e] at k
    exact ev_lv [some (.ref 0), some (.int (nI u)), none, some (.int (nI to))] ⟨rfl, rfl, rfl, trivial⟩ (k σ hc Fr.rf)
  · rw [b2_0] at g
    have g : hlt ((y.take to).drop fr) = true := by simpa using g
    have e : wd ((y.take to).drop fr) u m = sW (if (mW m).length = 80 then mBrk m else m) (mW (if (mW m).length = 80 then mBrk m else m) ++ [((y.take to).drop fr, u)]) := if_pos g
    -- the word is added
    have add : ∀ (m1 : MS) (σ1 : St2), CV σ1 m1 → mX m1 = y → WdOK (mW m1) → (mW m1).length < 80 → Fr CF σ σ1 → wd ((y.take to).drop fr) u m = sW m1 (mW m1 ++ [((y.take to).drop fr, u)]) → Ev lc G mPf_gatherWords 70 [some (.ref 0), some (.int (nI u)), some (.int (nI fr)), some (.int (nI to))] [] σ1 Q := by
      intro m1 σ1 c1 x1 w1 l1 f1 e1
      have ht1 : TextAt σ1 1 y := by rw [← x1]; exact c1.1
      have hok : WdOK (mW m1 ++ [((y.take to).drop fr, u)]) := by
        refine ⟨by simp; omega, fun q hq => ?_⟩
        rcases List.mem_append.mp hq with hq | hq
        · exact w1.2 q hq
        · rw [List.mem_singleton.mp hq]
          refine ⟨g, by rw [hwl]; omega, hu, fun b hb => ?_⟩
          have h1 := hy b (List.mem_of_mem_take (List.mem_of_mem_drop hb))
          have h2 := hnb b hb
          omega
      have hadd := addW_cls (mW m1) ((y.take to).drop fr) u
      have hL := c1.2.2.1.1.1
      have hl2 := (SGs_cnt (fun q hq => ⟨(w1.2 q hq).1, (w1.2 q hq).2.1⟩)).2
      have hn := nS_le hok
      have hpl : (clsP (mW m1 ++ [((y.take to).drop fr, u)])).2.1.length = nS (mW m1 ++ [((y.take to).drop fr, u)]) + 1 := psL_len nl _
      have hlb : (aw (clsP (mW m1)).2.2.2.length (clsP (mW m1)).1.length ((y.take to).drop fr) false (clsP (mW m1)).1 (clsP (mW m1)).2.1 (clsP (mW m1)).2.2.1).2.1.length < 4001 := by
        have h5 : (addW ((y.take to).drop fr) u (clsP (mW m1))).2.1.length = (aw (clsP (mW m1)).2.2.2.length (clsP (mW m1)).1.length ((y.take to).drop fr) false (clsP (mW m1)).1 (clsP (mW m1)).2.1 (clsP (mW m1)).2.2.1).2.1.length + 1 := by
          unfold addW
          simp
        rw [hadd, hpl] at h5
        omega
      refine ev_cv okPf_gatherWords okPa_addWord rfl rfl trivial rfl (by decide +kernel) rfl rfl (sp_addWord hy8 hft hto hu ht1 c1.2.2.1 (by show ((mW m1).map (fun q => q.2)).length < 80; rw [List.length_map]; exact l1) (by show (ltS (SGs (mW m1))).length + (to - fr) ≤ 8000; omega) hlb fun σ2 q1 q2 => ?_)
      refine ev_lv [some (.ref 0), some (.int (nI u)), none, some (.int (nI to))] ⟨rfl, rfl, rfl, trivial⟩ (k σ2 ?_ (f1.tr (q2.wk (by decide))))
      rw [e1]
      refine c1.pa q2 ?_
      have e4 : ((clsP (mW m1)).1, (clsP (mW m1)).2.1, (clsP (mW m1)).2.2.1, (clsP (mW m1)).2.2.2) = clsP (mW m1) := rfl
      rw [e4, hadd] at q1
      have e5 : (clsP (mW m1)).2.2.2 ++ [u] = (clsP (mW m1 ++ [((y.take to).drop fr, u)])).2.2.2 := by
        show (mW m1).map (fun q => q.2) ++ [u] = (mW m1 ++ [((y.take to).drop fr, u)]).map (fun q => q.2)
        simp
      rw [e5] at q1
      exact q1
    have hw80 := hi.2.1.1
    have e126 : σ.1 12 6 = nI (mW m).length := by
      have := hc.2.2.1.2.2.2.2.2.1
      rw [show (clsP (mW m)).2.2.2.length = (mW m).length from List.length_map ..] at this
      exact this
    refine ev_ic_lt okPf_gatherWords rfl rfl trivial (fun g2 => ?_) (fun g2 => ?_)
    · rw [e126] at g2
      have g2 : (mW m).length < 80 := (nI_ltI (by omega) (by decide)).mp g2
      rw [if_neg (by omega)] at e
      exact add m σ hc hx hi.2.1 g2 Fr.rf e
    · rw [e126] at g2
      have g2 : (mW m).length = 80 := by
        have : ¬ (mW m).length < 80 := fun z => g2 (nI_lt z (by decide))
        omega
      rw [if_pos g2] at e
      refine ev_cv okPf_gatherWords okPf_breakParagraph rfl rfl trivial rfl (by decide +kernel) rfl rfl (sp_brkC hc hi (by omega) fun σ1 q1 q2 => ?_)
      have hne : mW m ≠ [] := fun z => by rw [z] at g2; cases g2
      exact add (mBrk m) σ1 q1 (by rw [mBrk_X]; exact hx) (mBrk_Inv hi).2.1 (by rw [mBrk_W hne]; decide) (q2.wk (by decide)) e
set_option maxRecDepth 100000 in
theorem lp_gather {u : Nat} (hu : u < 2) {y : List Nat} (hy : ∀ b ∈ y, 32 ≤ b ∧ b < 127) : ∀ (n to fr : Nat) (m : MS) (σ : St2) (pb : Nat), to + n = y.length → fr ≤ to → (∀ b ∈ (y.take to).drop fr, b ≠ 32) → mX m = y → CV σ m → Inv pb m → pb + 4000 * (n + 1) < 900000000 →
    (∀ σ', CV σ' (gW u ((y.take to).drop fr) (y.drop to) m) → Fr CF σ σ' → Q none σ') →
    Ev lc G mPf_gatherWords 4 [some (.ref 0), some (.int (nI u)), some (.int (nI fr)), some (.int (nI to))] [] σ Q := by
  have hy8 : ∀ b ∈ y, b < 128 := fun b hb => by have := hy b hb; omega
  intro n
  induction n with
  | zero =>
    intro to fr m σ pb hn hft hnb hx hc hi hpb k
    have h100 : y.length ≤ 100 := by rw [← hx]; exact hc.1.1
    have hsz : σ.1 1 1 = nI y.length := by rw [← hx]; exact hc.1.2.1
    rw [show y.drop to = [] from List.drop_eq_nil_of_le (by omega), gW] at k
    refine ev_ic_gt okPf_gatherWords rfl rfl trivial (fun g => absurd g (by rw [hsz]; exact nI_nlt (by omega) (by omega))) (fun g => ?_)
    refine ev_ic_ge okPf_gatherWords rfl rfl trivial (fun g => ?_) (fun g => absurd (by rw [hsz]; exact nI_le (by omega) (by omega)) g)
    refine lp_wd hu hy hft (by omega) hnb hx hc hi (by omega) fun σ1 q1 q2 => ?_
    refine ev_nop okPf_gatherWords rfl rfl trivial (ev_goto okPf_gatherWords rfl rfl trivial ?_)
    have hsz1 : σ1.1 1 1 = nI y.length := by rw [← hx, ← wd_X ((y.take to).drop fr) u m]; exact q1.1.2.1
    refine ev_ic_gt okPf_gatherWords rfl rfl trivial (fun g => ev_rv okPf_gatherWords rfl rfl trivial rfl (k σ1 q1 q2)) (fun g => absurd ?_ g)
    rw [hsz1, nI_add]
    exact nI_lt (by omega) (by omega)
  | succ n ih =>
    intro to fr m σ pb hn hft hnb hx hc hi hpb k
    have h100 : y.length ≤ 100 := by rw [← hx]; exact hc.1.1
    have hsz : σ.1 1 1 = nI y.length := by rw [← hx]; exact hc.1.2.1
    have ht : TextAt σ 1 y := by rw [← hx]; exact hc.1
    have hlt : to < y.length := by omega
    have hbb := getD_lt (j := to) hy8 (by decide)
    rw [List.drop_eq_getElem_cons hlt, ← gD hlt, gW] at k
    refine ev_ic_gt okPf_gatherWords rfl rfl trivial (fun g => absurd g (by rw [hsz]; exact nI_nlt (by omega) (by omega))) (fun g => ?_)
    refine ev_ic_ge okPf_gatherWords rfl rfl trivial (fun g => absurd g (by rw [hsz]; exact nI_ge hlt (by omega))) (fun g => ?_)
    refine ev_cv okPf_gatherWords okTx_byteAt rfl rfl trivial rfl (by decide +kernel) rfl rfl (sp_byteAt (Or.inl rfl) ht ?_)
    rw [tb_nI h100 (by omega), if_pos hlt]
    refine ev_ic_eq okPf_gatherWords rfl rfl trivial (fun g2 => ?_) (fun g2 => ?_)
    · have e : y.getD to 0 = 32 := (nI_eq (by omega) (by decide)).mp g2
      rw [if_pos e] at k
      refine lp_wd hu hy hft (by omega) hnb hx hc hi (by omega) fun σ1 q1 q2 => ?_
      refine ev_nop okPf_gatherWords rfl rfl trivial (ev_goto okPf_gatherWords rfl rfl trivial ?_)
      rw [nI_add]
      have hwi : Inv (pb + 4000) (wd ((y.take to).drop fr) u m) := wd_Inv hi (fun b hb => by
        have h1 := hy b (List.mem_of_mem_take (List.mem_of_mem_drop hb))
        have h2 := hnb b hb
        omega) (by rw [List.length_drop, List.length_take]; omega) hu
      have e0 : (y.take (to + 1)).drop (to + 1) = [] := td_nil (Nat.le_refl _)
      have := ih (to + 1) (to + 1) (wd ((y.take to).drop fr) u m) σ1 (pb + 4000) (by omega) (Nat.le_refl _) (by rw [e0]; intro b hb; exact absurd hb List.not_mem_nil) (by rw [wd_X]; exact hx) q1 hwi (by omega) (fun σ' r1 r2 => k σ' (by rw [e0] at r1; exact r1) (q2.tr r2))
      exact this
    · have e : ¬ y.getD to 0 = 32 := fun q => g2 (by rw [q])
      rw [if_neg e, ← td_snoc hft hlt] at k
      refine ev_goto okPf_gatherWords rfl rfl trivial (ev_goto okPf_gatherWords rfl rfl trivial ?_)
      rw [nI_add]
      refine ih (to + 1) fr m σ pb (by omega) (by omega) (fun b hb => ?_) hx hc hi (by omega) k
      rw [td_snoc hft hlt] at hb
      rcases List.mem_append.mp hb with hb | hb
      · exact hnb b hb
      · rw [List.mem_singleton.mp hb]; exact e
theorem sp_gatherWords {u : Nat} (hu : u < 2) {m : MS} {pb : Nat} (hc : CV σ m) (hi : Inv pb m) (hpb : pb < 800000000) (k : ∀ σ', CV σ' (gW u [] (mX m) m) → Fr CF σ σ' → Q none σ') : Ev lc G mPf_gatherWords 0 [some (.ref 0), some (.int (nI u)), none, none] [] σ Q := by
  have h100 := hc.1.1
  refine ev_nop okPf_gatherWords rfl rfl trivial (lp_gather (y := mX m) hu hi.1 (mX m).length 0 0 m σ pb (by omega) (Nat.le_refl _) (by simp) rfl hc hi (by omega) ?_)
  simpa using k
theorem pbl_len (x : List Nat) : pbl x 0 ≤ x.length := pbl_le (Nat.zero_le _)
theorem sp_takeText {m : MS} {pb : Nat} (hc : CV σ m) (hi : Inv pb m) (hpb : pb < 700000000) (k : ∀ σ' y, CV σ' (sX (mTx m) y) → Fr [1, 2, 4, 5, 6, 7, 12, 13, 14, 15, 16, 17, 18, 19, 20, 21] σ σ' → Q none σ') : Ev lc G mPf_takeText 0 [some (.ref 0), none, none] [] σ Q := by
  have h100 := hc.1.1
  have hbl := pbl_len (mX m)
  have hsz := hc.1.2.1
  refine ev_cv okPf_takeText okTx_leadingBlanks rfl rfl trivial rfl (by decide +kernel) rfl rfl (sp_leadingBlanks hc.1 hi.x128 ?_)
  -- behind the BREAK
  have body : ∀ σ1, CV σ1 (mT1 m) → Inv (pb + 4000) (mT1 m) → mX (mT1 m) = mX m → Fr CF σ σ1 → Ev lc G mPf_takeText 26 [some (.ref 0), some (.int (nI (pbl (mX m) 0))), none] [] σ1 Q := by
    have hk : ∀ σ' y, CV σ' (sX (mT2 (mX m) (mT1 m)) y) → Fr [1, 2, 4, 5, 6, 7, 12, 13, 14, 15, 16, 17, 18, 19, 20, 21] σ σ' → Q none σ' := k
    generalize mT1 m = m1 at hk ⊢
    intro σ1 c1 i1 x1 f1
    have hsz1 : σ1.1 1 1 = nI (mX m).length := by rw [← x1]; exact c1.1.2.1
    refine ev_ic_ne okPf_takeText rfl rfl trivial (fun g => ?_) (fun g => ?_)
    · rw [hsz1] at g
      have hne : ¬ pbl (mX m) 0 = (mX m).length := fun z => g (by rw [z])
      have e2 : mT2 (mX m) m1 = mT3 (tU (mP m1).1) ((mX m).drop (pbl (mX m) 0)) (sP m1 (tN (pbl (mX m) 0) (mP m1).1, (mP m1).2)) := if_neg hne
      rw [e2] at hk
      refine ev_cv okPf_takeText okLa_growThisIndent rfl rfl trivial rfl (by decide +kernel) rfl rfl (sp_grow c1 i1.2.2.1.1 (by omega) fun σ2 q1 q2 => ?_)
      have t2 : TextAt σ2 1 (mX m) := by rw [← x1]; exact q1.1
      refine ev_cv okPf_takeText okTx_dropFirst rfl rfl trivial rfl (by decide +kernel) rfl rfl (sp_dropFirst hbl t2 hi.x128 fun σ3 r1 r2 => ?_)
      have c3 := q1.tx r2 r1
      refine ev_cv okPf_takeText okLa_takeUnderlined rfl rfl trivial rfl (by decide +kernel) rfl rfl (sp_takeUnderlined c3 i1.2.2.1.2.2.2.1 fun σ4 s1 s2 => ?_)
      have f4 : Fr [1, 2, 4, 5, 6, 7, 12, 13, 14, 15, 16, 17, 18, 19, 20, 21] σ σ4 := (((f1.wk (by decide)).tr (q2.wk (by decide))).tr (r2.wk (by decide))).tr (s2.wk (by decide))
      have i4 : Inv (pb + 4000) (sX (sP m1 (tN (pbl (mX m) 0) (mP m1).1, (mP m1).2)) ((mX m).drop (pbl (mX m) 0))) := ⟨fun b hb => hi.1 b (List.mem_of_mem_drop hb), i1.2.1, tN_NI i1.2.2.1, i1.2.2.2⟩
      have c4 : CV σ4 (sX (sP m1 (tN (pbl (mX m) 0) (mP m1).1, (mP m1).2)) ((mX m).drop (pbl (mX m) 0))) := s1
      have tu : tU (mP (sX (sN m1 2 (nI (min (cl (mP m1).1 0 - 1) (cl (mP m1).1 2 + pbl (mX m) 0)))) ((mX m).drop (pbl (mX m) 0)))).1 = tU (mP m1).1 := rfl
      rw [tu]
      have hu := tU_lt (mP m1).1
      generalize tU (mP m1).1 = u at hk hu ⊢
      clear s1 tu e2
      generalize hM : sP m1 (tN (pbl (mX m) 0) (mP m1).1, (mP m1).2) = M at c4 i4 hk
      generalize (mX m).drop (pbl (mX m) 0) = y at c4 i4 hk
      clear hM c3 q1 r1 c1 i1
      obtain ⟨a1, a2, a3, a4, a5⟩ := i4
      obtain ⟨e4, -, l4⟩ := Rg_cl (N := (mP M).1) a3.2.2.1 (by decide)
      have g4 : σ4.1 4 4 = nI (cl (mP M).1 4) := (c4.2.1.1 4 (by decide)).trans e4
      have g7 : σ4.1 4 7 = (mP M).1 7 := c4.2.1.1 7 (by decide)
      have hy8 : ∀ b ∈ y, b < 128 := fun b hb => by have := a1 b hb; omega
      unfold mT3 at hk
      refine ev_if_le okPf_takeText rfl rfl trivial (fun g => ?_) (fun g => ?_)
      · rw [g4] at g
        have hz : ¬ 0 < cl (mP M).1 4 := fun z => nI_nle z (by omega) g
        rw [if_neg hz] at hk
        refine ev_if_ne okPf_takeText rfl rfl trivial (fun g => ?_) (fun g => ?_)
        · rw [g7] at g
          rw [if_neg g] at hk
          refine ev_cv okPf_takeText okPf_gatherWords rfl rfl trivial rfl (by decide +kernel) rfl rfl (sp_gatherWords hu c4 ⟨a1, a2, a3, a4, a5⟩ (by omega) fun σ5 t1 t2 => ?_)
          refine ev_rv okPf_takeText rfl rfl trivial rfl (hk σ5 y ?_ (f4.tr (t2.wk (by decide))))
          rw [← gW_sX]
          exact t1
        · have g : σ4.1 4 7 = 0 := by simpa using g
          rw [g7] at g
          rw [if_pos g] at hk
          refine ev_cv okPf_takeText okTx_dropCarets rfl rfl trivial rfl (by decide +kernel) rfl rfl (sp_dropCarets c4.1 hy8 fun σ5 t1 t2 => ?_)
          have c5 := c4.tx t2 t1
          refine ev_cv okPf_takeText okPf_putEntered rfl rfl trivial rfl (by decide +kernel) rfl rfl (sp_putEntered (pb := pb + 4000) hu c5 (fun b hb => hy8 b (List.mem_filter.mp hb).1) a4 a5 a3.2.2.2.2.2.2.2.2 (by omega) fun σ6 v1 v2 => ?_)
          refine ev_goto okPf_takeText rfl rfl trivial (ev_rv okPf_takeText rfl rfl trivial rfl (hk σ6 (noC y) v1 ((f4.tr (t2.wk (by decide))).tr (v2.wk (by decide)))))
      · rw [g4] at g
        have hz : 0 < cl (mP M).1 4 := by
          rcases Nat.eq_zero_or_pos (cl (mP M).1 4) with q | q
          · exact absurd (by rw [q]; decide) g
          · exact q
        rw [if_pos hz] at hk
        refine ev_cv okPf_takeText okPf_putCentred rfl rfl trivial rfl (by decide +kernel) rfl rfl (sp_putCentred (pb := pb + 4000) hu c4 a3.1 a3.2.2.1 hz hy8 a4 a5 a3.2.2.2.2.2.2.2.2 (by omega) fun σ5 t1 t2 => ?_)
        refine ev_goto okPf_takeText rfl rfl trivial (ev_rv okPf_takeText rfl rfl trivial rfl (hk σ5 _ t1 (f4.tr (t2.wk (by decide)))))
    · have g : nI (pbl (mX m) 0) = σ1.1 1 1 := by simpa using g
      rw [hsz1] at g
      have he : pbl (mX m) 0 = (mX m).length := (nI_eq (by omega) (by omega)).mp g
      have e2 : mT2 (mX m) m1 = mPut 0 [] m1 := if_pos he
      rw [e2] at hk
      refine ev_cv okPf_takeText okPf_putEmptyLine rfl rfl trivial rfl (by decide +kernel) rfl rfl (sp_putEmptyLine (pb := pb + 4000) c1 i1.2.2.2.1 i1.2.2.2.2 i1.2.2.1.2.2.2.2.2.2.2.2 (by omega) fun σ2 q1 q2 => ?_)
      refine ev_rv okPf_takeText rfl rfl trivial rfl (hk σ2 (mX m1) ?_ ((f1.wk (by decide)).tr (q2.wk (by decide))))
      exact q1
  have brk : (0 < pbl (mX m) 0 ∨ (mX m).length = 0) → Ev lc G mPf_takeText 22 [some (.ref 0), some (.int (nI (pbl (mX m) 0))), none] [] σ Q := by
    intro h
    have e : mT1 m = mBrk m := if_pos h
    rw [e] at body
    refine ev_cv okPf_takeText okPf_breakParagraph rfl rfl trivial rfl (by decide +kernel) rfl rfl (sp_brkC hc hi (by omega) fun σ1 q1 q2 => body σ1 q1 (mBrk_Inv hi) (mBrk_X m) (q2.wk (by decide)))
  refine ev_if_gt okPf_takeText rfl rfl trivial (fun g => ?_) (fun g => ?_)
  · refine brk (Or.inl ?_)
    rcases Nat.eq_zero_or_pos (pbl (mX m) 0) with q | q
    · rw [q] at g; exact absurd g (by decide)
    · exact q
  · have hz : ¬ 0 < pbl (mX m) 0 := fun z => g (nI_lt (a := 0) z (by omega))
    refine ev_if_ne okPf_takeText rfl rfl trivial (fun g2 => ?_) (fun g2 => ?_)
    · rw [hsz] at g2
      have e : mT1 m = m := if_neg (fun z => z.elim hz (fun q => g2 (by rw [q]; rfl)))
      rw [e] at body
      exact body σ hc (hi.mono (by omega)) rfl Fr.rf
    · have g2 : σ.1 1 1 = 0 := by simpa using g2
      rw [hsz] at g2
      refine brk (Or.inr ?_)
      rcases Nat.eq_zero_or_pos (mX m).length with q | q
      · exact q
      · exact absurd g2 (nI_ne0 q (by omega))
end CG
end
section
/-! ===== the class: commands ===== -/
theorem nI_int {n : Nat} (h : n < 2 ^ 31) : (nI n).toInt = (n : Int) := Int32.toInt_ofNat_of_lt h
theorem cname_lt {x : List Nat} (hb : ∀ b ∈ x, b < 128) : cname x < 40000 := by
  unfold cname
  have h1 := getD_lt (j := 1) hb (by decide)
  have h2 := getD_lt (j := 2) hb (by decide)
  split <;> omega
theorem CV.hf {σ σ' : St2} {m : MS} {a b : List Nat} (h : CV σ m) (hf : Fr [8, 9, 10, 11] σ σ') (h8 : TextAt σ' 8 a) (h10 : TextAt σ' 10 b) : CV σ' (m.1, m.2.1, m.2.2.1, (a, b), m.2.2.2.2) := by
  obtain ⟨c1, ⟨d1, d2, d3, d4, d5⟩, c3, ⟨E, c4⟩, c5, c6⟩ := h
  exact ⟨c1.fr hf (by decide) (by decide), ⟨fun k hk => by rw [hf.a1 (by decide)]; exact d1 k hk, fun k hk => by rw [hf.a1 (by decide)]; exact d2 k hk, h8, h10, d5.fr hf (by decide) (by decide)⟩, c3.fr hf (by decide), ⟨E, c4.fr hf (by decide)⟩, by rw [hf.a2 (by decide)]; exact c5, by rw [hf.a1 (by decide)]; exact c6⟩
section CC
variable {lc : Launch} {G : GG} {σ : St2} {Q : Option Value → St2 → Prop} {m : MS} {x : List Nat} {pb : Nat}
theorem sp_breaksFirst (hb : ∀ b ∈ x, b < 128) (hc : CV σ m) (hcm : CmdAt σ x) (k : Q (some (.int (b2 (brF (cname x) (mP m).1)))) σ) : Ev lc G mPf_breaksFirst 0 [some (.ref 0)] [] σ Q := by
  have hlt := cname_lt hb
  have ec : σ.1 3 0 = nI (cname x) := hcm.1
  have yes : brF (cname x) (mP m).1 = true → Ev lc G mPf_breaksFirst 72 [some (.ref 0)] [] σ Q := by
    intro h
    rw [h] at k
    exact ev_rz okPf_breaksFirst rfl rfl trivial rfl (Or.inr rfl) k
  by_cases h0 : cname x = 25200
  · refine ev_look (off := 67) 74 okPf_breaksFirst rfl rfl trivial (by rw [ec, h0]; rfl) rfl ?_
    refine ev_cv okPf_breaksFirst okPg_isBegun rfl rfl trivial rfl (by decide +kernel) rfl rfl (sp_isBegun hc.2.1 ?_)
    have e : brF (cname x) (mP m).1 = decide (¬ (mP m).1 9 = 0) := by unfold brF; rw [if_pos h0]
    rw [e] at k
    by_cases z : (mP m).1 9 = 0
    · rw [if_pos z]
      rw [decide_eq_false (fun q => q z)] at k
      exact ev_rz okPf_breaksFirst rfl rfl trivial rfl (Or.inl rfl) k
    · rw [if_neg z]
      rw [decide_eq_true z] at k
      exact ev_rz okPf_breaksFirst rfl rfl trivial rfl (Or.inr rfl) k
  have e : brF (cname x) (mP m).1 = decide (cname x = 25202 ∨ cname x = 25445 ∨ cname x = 26217 ∨ cname x = 28262 ∨ cname x = 29552 ∨ cname x = 29801) := by unfold brF; rw [if_neg h0]
  by_cases h1 : cname x = 25202
  · exact ev_look (off := 65) 72 okPf_breaksFirst rfl rfl trivial (by rw [ec, h1]; rfl) rfl (yes (by rw [e]; exact decide_eq_true (by omega)))
  by_cases h2 : cname x = 25445
  · exact ev_look (off := 65) 72 okPf_breaksFirst rfl rfl trivial (by rw [ec, h2]; rfl) rfl (yes (by rw [e]; exact decide_eq_true (by omega)))
  by_cases h3 : cname x = 26217
  · exact ev_look (off := 65) 72 okPf_breaksFirst rfl rfl trivial (by rw [ec, h3]; rfl) rfl (yes (by rw [e]; exact decide_eq_true (by omega)))
  by_cases h4 : cname x = 28262
  · exact ev_look (off := 65) 72 okPf_breaksFirst rfl rfl trivial (by rw [ec, h4]; rfl) rfl (yes (by rw [e]; exact decide_eq_true (by omega)))
  by_cases h5 : cname x = 29552
  · exact ev_look (off := 65) 72 okPf_breaksFirst rfl rfl trivial (by rw [ec, h5]; rfl) rfl (yes (by rw [e]; exact decide_eq_true (by omega)))
  by_cases h6 : cname x = 29801
  · exact ev_look (off := 65) 72 okPf_breaksFirst rfl rfl trivial (by rw [ec, h6]; rfl) rfl (yes (by rw [e]; exact decide_eq_true (by omega)))
  refine ev_look (off := 75) 82 okPf_breaksFirst rfl rfl trivial ?_ rfl ?_
  · rw [ec, nI_int (by omega)]
    show Op.lookupswitch.offset [(25200, 67), (25202, 65), (25445, 65), (26217, 65), (28262, 65), (29552, 65), (29801, 65)] 75 (cname x : Int) = 75
    simp only [Op.lookupswitch.offset]
    repeat rw [if_neg (by omega)]
  · rw [e, decide_eq_false (by omega)] at k
    exact ev_rz okPf_breaksFirst rfl rfl trivial rfl (Or.inl rfl) k
theorem sp_setIndent (hb : ∀ b ∈ x, b < 128) (h100 : x.length ≤ 100) (hc : CV σ m) (hcm : CmdAt σ x) (h3 : R3 (mP m).1) (k : ∀ σ', CV σ' (sP m (inN x (mP m).1, (mP m).2)) → Fr [4] σ σ' → Q none σ') : Ev lc G mPf_setIndent 0 [some (.ref 0)] [] σ Q := by
  obtain ⟨h0, h1, h2, b0, b1, b2⟩ := R3_cl h3
  have e0 : σ.1 4 0 = (mP m).1 0 := hc.2.1.1 0 (by decide)
  have e1 : σ.1 4 1 = (mP m).1 1 := hc.2.1.1 1 (by decide)
  have hle : nI 0 ≤ (mP m).1 0 - nI 1 := by rw [h0, pk_sub (by omega)]; exact nI_le (Nat.zero_le _) (by omega)
  refine ev_cv okPf_setIndent okCm_set rfl rfl trivial rfl (by decide +kernel) rfl rfl ?_
  rw [e0, e1]
  refine sp_set h100 hb hcm hle ?_
  refine ev_rv okPf_setIndent rfl rfl trivial rfl ?_
  have d1 := hc.setL 1 (by decide) (clp (nI 0) ((mP m).1 0 - nI 1) (wv x ((mP m).1 1) (nI 0)))
  have d2 := d1.setL 2 (by decide) (clp (nI 0) ((mP m).1 0 - nI 1) (wv x ((mP m).1 1) (nI 0)))
  have e4 : (up2 σ.1 4 1 (clp (nI 0) ((mP m).1 0 - nI 1) (wv x ((mP m).1 1) (nI 0))), σ.2).1 4 1 = clp (nI 0) ((mP m).1 0 - nI 1) (wv x ((mP m).1 1) (nI 0)) := up2_same σ.1 4 1 _
  rw [e4]
  exact k _ d2 (Fr.tr (Fr.u1 (by decide)) (Fr.u1 (σ := (_, _)) (by decide)))
theorem sp_beginPage (hb : ∀ b ∈ x, b < 128) (h100 : x.length ≤ 100) (hc : CV σ m) (hcm : CmdAt σ x) (hi : Inv pb m) (hpb : pb < 900000000) (k : ∀ σ', CV σ' (bpM x m) → Fr [5, 6, 7] σ σ' → Q none σ') : Ev lc G mPf_beginPage 0 [some (.ref 0)] [] σ Q := by
  have fin : ∀ (m1 : MS) (σ1 : St2), CV σ1 m1 → CmdAt σ1 x → Fr [5, 6, 7] σ σ1 → (bpM x m = sN m1 11 (clp (nI 1) (nI 999) (wv x (m1.2.2.1.1 11) (m1.2.2.1.1 11)))) → Ev lc G mPf_beginPage 19 [some (.ref 0)] [] σ1 Q := by
    intro m1 σ1 c1 cm1 f1 e1
    have e11 : σ1.1 7 6 = (mP m1).1 11 := c1.2.1.2.1 2 (by decide)
    refine ev_cv okPf_beginPage okCm_set rfl rfl trivial rfl (by decide +kernel) rfl rfl ?_
    rw [e11]
    refine sp_set h100 hb cm1 (by decide) ?_
    refine ev_rv okPf_beginPage rfl rfl trivial rfl (k _ ?_ (f1.tr (Fr.u1 (by decide))))
    rw [e1]
    exact c1.setP 2 (by decide) _
  refine ev_cv okPf_beginPage okPg_isBegun rfl rfl trivial rfl (by decide +kernel) rfl rfl (sp_isBegun hc.2.1 ?_)
  by_cases z : (mP m).1 9 = 0
  · rw [if_pos z]
    refine ev_if_eq okPf_beginPage rfl rfl trivial (fun g => fin m σ hc hcm Fr.rf ?_) (fun g => absurd rfl g)
    unfold bpM
    rw [if_pos z]
  · rw [if_neg z]
    refine ev_if_eq okPf_beginPage rfl rfl trivial (fun g => absurd g (by decide)) (fun g => ?_)
    refine ev_cv okPf_beginPage okPg_skip rfl rfl trivial rfl (by decide +kernel) rfl rfl (sp_skip (B := pb) hc.2.1 hi.2.2.2.1 hi.2.2.2.2 (by omega) hi.2.2.1.2.2.2.2.2.2.2.2 fun σ1 q1 q2 => ?_)
    refine fin (sP m (pSkip (mH m) (mF m) (nI 99) (mP m))) σ1 (hc.pg (q2.wk (by decide)) q1) (hcm.fr q2 (by decide)) q2 ?_
    unfold bpM
    rw [if_neg z]
theorem sp_obey (hc : CV σ m) (hx : mX m = x) (hcm : CmdAt σ x) (hi : Inv pb m) (hpb : pb < 900000000) (k : ∀ σ', CV σ' (mOb x m) → Fr [0, 4, 5, 6, 7, 8, 9, 10, 11] σ σ' → Q none σ') : Ev lc G mPf_obey 0 [some (.ref 0)] [] σ Q := by
  have hb : ∀ b ∈ x, b < 128 := by rw [← hx]; exact hi.x128
  have ht : TextAt σ 1 x := by rw [← hx]; exact hc.1
  have h100 := ht.1
  have hlt := cname_lt hb
  have ec : σ.1 3 0 = nI (cname x) := hcm.1
  have fin : ∀ σ', CV σ' (mOb x m) → Fr [0, 4, 5, 6, 7, 8, 9, 10, 11] σ σ' → Ev lc G mPf_obey 469 [some (.ref 0)] [] σ' Q := fun σ' a b => ev_rv okPf_obey rfl rfl trivial rfl (k σ' a b)
  have N : ∀ j, j < 9 → σ.1 4 j = (mP m).1 j := hc.2.1.1
  obtain ⟨h0, h1, h2, b0, b1, b2⟩ := R3_cl hi.2.2.1.1
  have hle : nI 0 ≤ (mP m).1 0 - nI 1 := by rw [h0, pk_sub (by omega)]; exact nI_le (Nat.zero_le _) (by omega)
  by_cases c1 : cname x = 25202
  · refine ev_look (off := 137) 144 okPf_obey rfl rfl trivial (by rw [ec, c1]; rfl) rfl (ev_goto okPf_obey rfl rfl trivial (fin σ ?_ Fr.rf))
    rw [show mOb x m = m by unfold mOb; rw [c1]; rfl]
    exact hc
  by_cases c2 : cname x = 26217
  · refine ev_look (off := 140) 147 okPf_obey rfl rfl trivial (by rw [ec, c2]; rfl) rfl (ev_goto okPf_obey rfl rfl ⟨Or.inr rfl, trivial⟩ (fin _ ?_ (Fr.u1 (by decide))))
    rw [show mOb x m = sN m 7 (nI 1) by unfold mOb; rw [c2]; rfl]
    exact hc.setL 7 (by decide) _
  by_cases c3 : cname x = 28262
  · refine ev_look (off := 151) 158 okPf_obey rfl rfl trivial (by rw [ec, c3]; rfl) rfl (ev_goto okPf_obey rfl rfl ⟨Or.inl rfl, trivial⟩ (fin _ ?_ (Fr.u1 (by decide))))
    rw [show mOb x m = sN m 7 (nI 0) by unfold mOb; rw [c3]; rfl]
    exact hc.setL 7 (by decide) _
  by_cases c4 : cname x = 27253
  · refine ev_look (off := 162) 169 okPf_obey rfl rfl trivial (by rw [ec, c4]; rfl) rfl (ev_goto okPf_obey rfl rfl ⟨Or.inr rfl, trivial⟩ (fin _ ?_ (Fr.u1 (by decide))))
    rw [show mOb x m = sN m 8 (nI 1) by unfold mOb; rw [c4]; rfl]
    exact hc.setL 8 (by decide) _
  by_cases c5 : cname x = 28257
  · refine ev_look (off := 173) 180 okPf_obey rfl rfl trivial (by rw [ec, c5]; rfl) rfl (ev_goto okPf_obey rfl rfl ⟨Or.inl rfl, trivial⟩ (fin _ ?_ (Fr.u1 (by decide))))
    rw [show mOb x m = sN m 8 (nI 0) by unfold mOb; rw [c5]; rfl]
    exact hc.setL 8 (by decide) _
  by_cases c6 : cname x = 27763
  · refine ev_look (off := 184) 191 okPf_obey rfl rfl trivial (by rw [ec, c6]; rfl) rfl ?_
    refine ev_cv okPf_obey okCm_set rfl rfl trivial rfl (by decide +kernel) rfl rfl ?_
    rw [N 3 (by decide)]
    refine sp_set h100 hb hcm (by decide) (ev_goto okPf_obey rfl rfl trivial (fin _ ?_ (Fr.u1 (by decide))))
    rw [show mOb x m = sN m 3 (clp (nI 1) (nI 9) (wv x ((mP m).1 3) (nI 1))) by unfold mOb; rw [c6]; rfl]
    exact hc.setL 3 (by decide) _
  by_cases c7 : cname x = 26990
  · refine ev_look (off := 212) 219 okPf_obey rfl rfl trivial (by rw [ec, c7]; rfl) rfl ?_
    refine ev_cv okPf_obey okPf_setIndent rfl rfl trivial rfl (by decide +kernel) rfl rfl (sp_setIndent hb h100 hc hcm hi.2.2.1.1 fun σ1 q1 q2 => ?_)
    refine ev_goto okPf_obey rfl rfl trivial (fin σ1 ?_ (q2.wk (by decide)))
    rw [show mOb x m = sP m (inN x (mP m).1, (mP m).2) by unfold mOb; rw [c7]; rfl]
    exact q1
  by_cases c8 : cname x = 29801
  · refine ev_look (off := 219) 226 okPf_obey rfl rfl trivial (by rw [ec, c8]; rfl) rfl ?_
    refine ev_cv okPf_obey okCm_set rfl rfl trivial rfl (by decide +kernel) rfl rfl ?_
    rw [N 2 (by decide), N 0 (by decide)]
    refine sp_set h100 hb hcm hle (ev_goto okPf_obey rfl rfl trivial (fin _ ?_ (Fr.u1 (by decide))))
    rw [show mOb x m = sN m 2 (clp (nI 0) ((mP m).1 0 - nI 1) (wv x ((mP m).1 2) (nI 0))) by unfold mOb; rw [c8]; rfl]
    exact hc.setL 2 (by decide) _
  by_cases c9 : cname x = 29293
  · refine ev_look (off := 254) 261 okPf_obey rfl rfl trivial (by rw [ec, c9]; rfl) rfl ?_
    refine ev_cv okPf_obey okLa_leastRight rfl rfl trivial rfl (by decide +kernel) rfl rfl (sp_leastRight hc hi.2.2.1.1 ?_)
    refine ev_cv okPf_obey okCm_set rfl rfl trivial rfl (by decide +kernel) rfl rfl ?_
    rw [N 0 (by decide)]
    refine sp_set h100 hb hcm (nI_le (by omega) (by decide)) (ev_goto okPf_obey rfl rfl trivial (fin _ ?_ (Fr.u1 (by decide))))
    rw [show mOb x m = sN m 0 (clp (nI (max (cl (mP m).1 2) (cl (mP m).1 1) + 1)) (nI 80) (wv x ((mP m).1 0) (nI 40))) by unfold mOb; rw [c9]; rfl]
    exact hc.setL 0 (by decide) _
  by_cases c10 : cname x = 25445
  · refine ev_look (off := 289) 296 okPf_obey rfl rfl trivial (by rw [ec, c10]; rfl) rfl ?_
    refine ev_cv okPf_obey okCm_set rfl rfl trivial rfl (by decide +kernel) rfl rfl ?_
    rw [N 4 (by decide)]
    refine sp_set h100 hb hcm (by decide) (ev_goto okPf_obey rfl rfl trivial (fin _ ?_ (Fr.u1 (by decide))))
    rw [show mOb x m = sN m 4 (clp (nI 0) (nI 99) (wv x ((mP m).1 4) (nI 1))) by unfold mOb; rw [c10]; rfl]
    exact hc.setL 4 (by decide) _
  by_cases c11 : cname x = 30060
  · refine ev_look (off := 317) 324 okPf_obey rfl rfl trivial (by rw [ec, c11]; rfl) rfl ?_
    refine ev_cv okPf_obey okCm_set rfl rfl trivial rfl (by decide +kernel) rfl rfl ?_
    rw [N 5 (by decide)]
    refine sp_set h100 hb hcm (by decide) (ev_goto okPf_obey rfl rfl trivial (fin _ ?_ (Fr.u1 (by decide))))
    rw [show mOb x m = sN m 5 (clp (nI 0) (nI 99) (wv x ((mP m).1 5) (nI 1))) by unfold mOb; rw [c11]; rfl]
    exact hc.setL 5 (by decide) _
  by_cases c12 : cname x = 29552
  · refine ev_look (off := 345) 352 okPf_obey rfl rfl trivial (by rw [ec, c12]; rfl) rfl ?_
    refine ev_cv okPf_obey okCm_set rfl rfl trivial rfl (by decide +kernel) rfl rfl ?_
    refine sp_set h100 hb hcm (by decide) ?_
    refine ev_cv okPf_obey okPg_skip rfl rfl trivial rfl (by decide +kernel) rfl rfl (sp_skip (B := pb) hc.2.1 hi.2.2.2.1 hi.2.2.2.2 (by omega) hi.2.2.1.2.2.2.2.2.2.2.2 fun σ1 q1 q2 => ?_)
    refine ev_goto okPf_obey rfl rfl trivial (fin σ1 ?_ (q2.wk (by decide)))
    rw [show mOb x m = sP m (pSkip (mH m) (mF m) (clp (nI 0) (nI 99) (wv x (nI 0) (nI 1))) (mP m)) by unfold mOb; rw [c12]; rfl]
    exact hc.pg (q2.wk (by decide)) q1
  by_cases c13 : cname x = 25200
  · refine ev_look (off := 367) 374 okPf_obey rfl rfl trivial (by rw [ec, c13]; rfl) rfl ?_
    refine ev_cv okPf_obey okPf_beginPage rfl rfl trivial rfl (by decide +kernel) rfl rfl (sp_beginPage hb h100 hc hcm hi hpb fun σ1 q1 q2 => ?_)
    refine ev_goto okPf_obey rfl rfl trivial (fin σ1 ?_ (q2.wk (by decide)))
    rw [show mOb x m = bpM x m by unfold mOb; rw [c13]; rfl]
    exact q1
  by_cases c14 : cname x = 28780
  · refine ev_look (off := 374) 381 okPf_obey rfl rfl trivial (by rw [ec, c14]; rfl) rfl ?_
    refine ev_cv okPf_obey okCm_set rfl rfl trivial rfl (by decide +kernel) rfl rfl ?_
    rw [N 6 (by decide)]
    refine sp_set h100 hb hcm (by decide) (ev_goto okPf_obey rfl rfl trivial (fin _ ?_ (Fr.u1 (by decide))))
    rw [show mOb x m = sN m 6 (clp (nI 8) (nI 99) (wv x ((mP m).1 6) (nI 24))) by unfold mOb; rw [c14]; rfl]
    exact hc.setL 6 (by decide) _
  have hrs := rs_le h100
  by_cases c15 : cname x = 26725
  · refine ev_look (off := 404) 411 okPf_obey rfl rfl trivial (by rw [ec, c15]; rfl) rfl ?_
    refine ev_cv okPf_obey okTx_copyFrom rfl rfl trivial rfl (by decide +kernel) rfl rfl ?_
    rw [hcm.2.1]
    refine sp_copyFrom (Or.inl rfl) (by omega) ht hb fun σ1 q1 q2 => ?_
    refine ev_goto okPf_obey rfl rfl trivial (fin σ1 ?_ (q2.wk (by decide)))
    rw [show mOb x m = (m.1, m.2.1, m.2.2.1, (x.drop (rs x), mF m), m.2.2.2.2) by unfold mOb; rw [c15]; rfl]
    exact hc.hf (q2.wk (by decide)) q1 (hc.2.1.2.2.2.1.fr q2 (by decide) (by decide))
  by_cases c16 : cname x = 26223
  · refine ev_look (off := 428) 435 okPf_obey rfl rfl trivial (by rw [ec, c16]; rfl) rfl ?_
    refine ev_cv okPf_obey okTx_copyFrom rfl rfl trivial rfl (by decide +kernel) rfl rfl ?_
    rw [hcm.2.1]
    refine sp_copyFrom (Or.inr rfl) (by omega) ht hb fun σ1 q1 q2 => ?_
    refine ev_goto okPf_obey rfl rfl trivial (fin σ1 ?_ (q2.wk (by decide)))
    rw [show mOb x m = (m.1, m.2.1, m.2.2.1, (mH m, x.drop (rs x)), m.2.2.2.2) by unfold mOb; rw [c16]; rfl]
    exact hc.hf (q2.wk (by decide)) (hc.2.1.2.2.1.fr q2 (by decide) (by decide)) q1
  refine ev_look (off := 452) 459 okPf_obey rfl rfl trivial ?_ rfl ?_
  · rw [ec, nI_int (by omega)]
    show Op.lookupswitch.offset [(25200, 367), (25202, 137), (25445, 289), (26217, 140), (26223, 428), (26725, 404), (26990, 212), (27253, 162), (27763, 184), (28257, 173), (28262, 151), (28780, 374), (29293, 254), (29552, 345), (29801, 219), (30060, 317)] 452 (cname x : Int) = 452
    simp only [Op.lookupswitch.offset]
    repeat rw [if_neg (by omega)]
  · refine ev_nop okPf_obey rfl rfl trivial (fin _ ?_ (Fr.u1 (by decide)))
    have em : mOb x m = (m.1, m.2.1, m.2.2.1, m.2.2.2.1, m.2.2.2.2.1, mQ m + nI 1) := by
      unfold mOb
      rw [if_neg c1, if_neg c2, if_neg c3, if_neg c4, if_neg c5, if_neg c6, if_neg c7, if_neg c8, if_neg c9, if_neg c10, if_neg c11, if_neg c12, if_neg c13, if_neg c14, if_neg c15, if_neg c16]
    rw [em]
    obtain ⟨a1, a2, a3, ⟨E, a4⟩, a5, a6⟩ := hc
    have f : Fr [0] σ (up2 σ.1 0 7 (σ.1 0 7 + nI 1), σ.2) := Fr.u1 (by decide)
    refine ⟨a1.fr f (by decide) (by decide), a2.fr f (by decide), a3.fr f (by decide), ⟨E, a4.fr f (by decide)⟩, a5, ?_⟩
    show up2 σ.1 0 7 (σ.1 0 7 + nI 1) 0 7 = _
    rw [up2_same, a6]
end CC
end
section
/-! ===== the class: its methods ===== -/
noncomputable def mEn (m : MS) : MS := sX (if tb (mX m) (nI 0) = nI 46 then mCm m else mTx m) []
def rN (N : NN) : NN := fun j => match j with
  | 0 => nI 40 | 1 => nI 0 | 2 => nI 0 | 3 => nI 1 | 4 => nI 0 | 5 => nI 0 | 6 => nI 24 | 7 => nI 1 | 8 => nI 1 | 9 => nI 0 | 10 => nI 0 | 11 => nI 1 | j => N j
noncomputable def mF1 (m : MS) : MS := if (mP (mBrk m)).1 9 = 0 then mBrk m else sP (mBrk m) (pSkip (mH (mBrk m)) (mF (mBrk m)) (nI 99) (mP (mBrk m)))
def mRs (m : MS) : MS := ([], m.2.1, (rN (mP m).1, (mP m).2), ([], []), m.2.2.2.2)
noncomputable def mFi (m : MS) : MS := mRs (mF1 m)
def mWi (m : MS) : MS := sP m ((mP m).1, [])
def lnA (F : List Nat) (i w : Int32) : Int32 := if i < 0 then mI 0 else if i < nI (F.length / 6) then (if w < 0 then mI 1 else if nI 6 ≤ w then mI 1 else nI (F.getD (6 * i.toNatClampNeg + w.toNatClampNeg) 0)) else mI 0
def ctA (m : MS) (w : Int32) : Int32 := if w < 0 then mI 1 else match w.toNatClampNeg with
  | 0 => nI (mW m).length | 1 => (mP m).1 9 | 2 => (mP m).1 10 | 3 => (mP m).1 11 | 4 => (mP m).1 0 | 5 => (mP m).1 1 | 6 => (mP m).1 2 | 7 => (mP m).1 3 | 8 => (mP m).1 4 | 9 => (mP m).1 5 | 10 => (mP m).1 6 | 11 => (mP m).1 7 | 12 => (mP m).1 8 | 13 => nI ((mT m).length / 6) | 14 => mQ m | 15 => (mP m).1 12 | 16 => nI (mX m).length | _ => mI 1
def by8 (w : Int64) (i : Nat) : Nat := (w.toUInt64.toNat >>> (8 * i)) % 256
def tyX (w : Int64) : Nat → Nat → List Nat → List Nat
  | 0, _, x => x
  | r + 1, i, x => tyX w r (i + 1) (if 32 ≤ by8 w i ∧ by8 w i ≤ 126 then x ++ [by8 w i] else x)
/-- what type answers, and the line then -/
def tyA (x : List Nat) (w : Int64) (n : Int32) : Int32 × List Nat := if n < nI 1 ∨ nI 8 < n then (mI 1, x) else if nI 100 < nI x.length + n then (mI 2, x) else (nI (tyX w n.toNatClampNeg 0 x).length, tyX w n.toNatClampNeg 0 x)
abbrev CC : List Nat := [0, 1, 2, 3, 4, 5, 6, 7, 8, 9, 10, 11, 12, 13, 14, 15, 16, 17, 18, 19, 20, 21]
theorem by8_lt (w : Int64) (i : Nat) : by8 w i < 256 := Nat.mod_lt _ (by decide)
section CP
variable {lc : Launch} {G : GG} {σ : St2} {Q : Option Value → St2 → Prop} {m : MS} {pb : Nat}
theorem sp_enterC (hc : CV σ m) (hi : Inv pb m) (hpb : pb < 600000000) (k : ∀ σ', CV σ' (mEn m) → Fr CC σ σ' → Q (some (.int ((mP (mEn m)).1 12 - (mP m).1 12))) σ') : Ev lc G mPf_enter 0 [some (.ref 0), none] [] σ Q := by
  have e7 : σ.1 7 7 = (mP m).1 12 := hc.2.1.2.1 3 (by decide)
  have h100 := hc.1.1
  refine ev_cv okPf_enter okTx_byteAt rfl rfl trivial rfl (by decide +kernel) rfl rfl (sp_byteAt (Or.inl rfl) hc.1 ?_)
  rw [e7]
  have fin : ∀ (m1 : MS) (y : List Nat) (σ1 : St2), CV σ1 (sX m1 y) → Fr CC σ σ1 → mEn m = sX m1 [] → Ev lc G mPf_enter 54 [some (.ref 0), some (.int ((mP m).1 12))] [] σ1 Q := by
    intro m1 y σ1 c1 f1 e1
    have f2 : Fr [1, 2] σ1 (up2 σ1.1 1 1 (nI 0), σ1.2) := Fr.u1 (by decide)
    have c2 : CV (up2 σ1.1 1 1 (nI 0), σ1.2) (sX m1 []) := c1.tx f2 (TextAt.empty σ1 1)
    have e2 : (up2 σ1.1 1 1 (nI 0), σ1.2).1 7 7 = (mP m1).1 12 := c2.2.1.2.1 3 (by decide)
    refine ev_ri okPf_enter rfl rfl trivial rfl ?_
    rw [e2]
    have := k _ (by rw [e1]; exact c2) (f1.tr (f2.wk (by decide)))
    rw [e1] at this
    exact this
  refine ev_ic_ne okPf_enter rfl rfl trivial (fun g => ?_) (fun g => ?_)
  · have e : mEn m = sX (mTx m) [] := by unfold mEn; rw [if_neg g]
    refine ev_cv okPf_enter okPf_takeText rfl rfl trivial rfl (by decide +kernel) rfl rfl (sp_takeText hc hi (by omega) fun σ1 y q1 q2 => ?_)
    exact fin (mTx m) y σ1 q1 (q2.wk (by decide)) e
  · have g : tb (mX m) (nI 0) = nI 46 := by simpa using g
    have e : mEn m = sX (mCm m) [] := by unfold mEn; rw [if_pos g]
    refine ev_cv okPf_enter okCm_read rfl rfl trivial rfl (by decide +kernel) rfl rfl (sp_read hi.x128 hc.1 fun σ1 q1 q2 => ?_)
    have c1 : CV σ1 m := by
      obtain ⟨a1, a2, a3, ⟨E, a4⟩, a5, a6⟩ := hc
      exact ⟨a1.fr q2 (by decide) (by decide), a2.fr q2 (by decide), a3.fr q2 (by decide), ⟨E, a4.fr q2 (by decide)⟩, by rw [q2.a2 (by decide)]; exact a5, by rw [q2.a1 (by decide)]; exact a6⟩
    refine ev_cv okPf_enter okPf_breaksFirst rfl rfl trivial rfl (by decide +kernel) rfl rfl (sp_breaksFirst hi.x128 c1 q1 ?_)
    have obey : ∀ (m1 : MS) (σ2 : St2), CV σ2 m1 → mX m1 = mX m → CmdAt σ2 (mX m) → Inv (pb + 4000) m1 → Fr CC σ σ2 → mCm m = mOb (mX m) m1 → Ev lc G mPf_enter 43 [some (.ref 0), some (.int ((mP m).1 12))] [] σ2 Q := by
      intro m1 σ2 c2 x2 cm2 i2 f2 e2
      refine ev_cv okPf_enter okPf_obey rfl rfl trivial rfl (by decide +kernel) rfl rfl (sp_obey c2 x2 cm2 i2 (by omega) fun σ3 r1 r2 => ?_)
      refine ev_goto okPf_enter rfl rfl trivial (fin (mCm m) (mX (mCm m)) σ3 ?_ (f2.tr (r2.wk (by decide))) e)
      rw [e2]
      exact r1
    refine ev_if_eq okPf_enter rfl rfl trivial (fun g2 => ?_) (fun g2 => ?_)
    · rw [b2_0] at g2
      refine obey m σ1 c1 rfl q1 (hi.mono (by omega)) (q2.wk (by decide)) ?_
      unfold mCm
      rw [if_neg (by rw [g2]; decide)]
    · rw [b2_0] at g2
      have g2 : brF (cname (mX m)) (mP m).1 = true := by simpa using g2
      refine ev_cv okPf_enter okPf_breakParagraph rfl rfl trivial rfl (by decide +kernel) rfl rfl (sp_brkC c1 hi (by omega) fun σ2 r1 r2 => ?_)
      refine obey (mBrk m) σ2 r1 (mBrk_X m) (q1.fr r2 (by decide)) (mBrk_Inv hi) ((q2.wk (by decide)).tr (r2.wk (by decide))) ?_
      unfold mCm
      rw [if_pos g2]
theorem sp_pgReset (k : Q none (up2 (up2 (up2 (up2 (up2 σ.1 8 1 (nI 0)) 10 1 (nI 0)) 7 4 (nI 0)) 7 5 (nI 0)) 7 6 (nI 1), σ.2)) : Ev lc G mPg_reset 0 [some (.ref 7)] [] σ Q :=
  ev_rv okPg_reset rfl rfl trivial rfl k
theorem sp_finishC (hc : CV σ m) (hi : Inv pb m) (hpb : pb < 600000000) (k : ∀ σ', CV σ' (mFi m) → Fr CC σ σ' → Q (some (.int ((mP (mFi m)).1 12 - (mP m).1 12))) σ') : Ev lc G mPf_finish 0 [some (.ref 0), none] [] σ Q := by
  have e7 : σ.1 7 7 = (mP m).1 12 := hc.2.1.2.1 3 (by decide)
  refine ev_cv okPf_finish okPf_breakParagraph rfl rfl trivial rfl (by decide +kernel) rfl rfl (sp_brkC hc hi (by omega) fun σ1 q1 q2 => ?_)
  rw [e7]
  have i1 := mBrk_Inv hi
  have fin : ∀ σ2, CV σ2 (mF1 m) → Fr CC σ σ2 → Ev lc G mPf_finish 31 [some (.ref 0), some (.int ((mP m).1 12))] [] σ2 Q := by
    have hk : ∀ σ', CV σ' (mRs (mF1 m)) → Fr CC σ σ' → Q (some (.int ((mP (mF1 m)).1 12 - (mP m).1 12))) σ' := k
    generalize mF1 m = m1 at hk ⊢
    intro σ2 c2 f2
    refine ev_cv okPf_finish okLa_reset rfl rfl trivial rfl (by decide +kernel) rfl rfl (sp_reset ?_)
    refine ev_cv okPf_finish okPg_reset rfl rfl trivial rfl (by decide +kernel) rfl rfl (sp_pgReset ?_)
    refine ev_ri okPf_finish rfl rfl trivial rfl ?_
    have e12 : σ2.1 7 7 = (mP m1).1 12 := c2.2.1.2.1 3 (by decide)
    obtain ⟨a1, ⟨p1, p2, p3, p4, p5⟩, a3, ⟨E, a4⟩, a5, a6⟩ := c2
    generalize hT : (up2 (up2 (up2 (up2 (up2 ((up2 (up2 (up2 (up2 (up2 (up2 (up2 (up2 (up2 (up2 σ2.1 1 1 (nI 0), σ2.2).1 4 0 (nI 40)) 4 1 (nI 0)) 4 2 (nI 0)) 4 3 (nI 1)) 4 4 (nI 0)) 4 5 (nI 0)) 4 6 (nI 24)) 4 7 (nI 1)) 4 8 (nI 1), (up2 σ2.1 1 1 (nI 0), σ2.2).2)).1 8 1 (nI 0)) 10 1 (nI 0)) 7 4 (nI 0)) 7 5 (nI 0)) 7 6 (nI 1), ((up2 (up2 (up2 (up2 (up2 (up2 (up2 (up2 (up2 (up2 σ2.1 1 1 (nI 0), σ2.2).1 4 0 (nI 40)) 4 1 (nI 0)) 4 2 (nI 0)) 4 3 (nI 1)) 4 4 (nI 0)) 4 5 (nI 0)) 4 6 (nI 24)) 4 7 (nI 1)) 4 8 (nI 1), (up2 σ2.1 1 1 (nI 0), σ2.2).2)).2) = τ
    have f3 : Fr [1, 4, 7, 8, 10] σ2 τ := by
      intro c hcn
      simp only [List.mem_cons, List.not_mem_nil, or_false, not_or] at hcn
      obtain ⟨n1, n4, n7, n8, n10⟩ := hcn
      rw [← hT]
      exact ⟨by simp [up2, n1, n4, n7, n8, n10], rfl⟩
    have t7 : τ.1 7 7 = (mP m1).1 12 := by rw [← hT]; simp [up2]; exact e12
    rw [t7]
    have T1 : TextAt τ 1 [] := ⟨by decide, by rw [← hT]; simp [up2], RowAt.nil⟩
    have T8 : TextAt τ 8 [] := ⟨by decide, by rw [← hT]; simp [up2], RowAt.nil⟩
    have T10 : TextAt τ 10 [] := ⟨by decide, by rw [← hT]; simp [up2], RowAt.nil⟩
    refine hk τ ⟨T1, ⟨fun j hj => ?_, fun j hj => ?_, T8, T10, p5.fr f3 (by decide) (by decide)⟩, a3.fr f3 (by decide), ⟨E, a4.fr f3 (by decide)⟩, by rw [f3.a2 (by decide)]; exact a5, by rw [f3.a1 (by decide)]; exact a6⟩ (f2.tr (f3.wk (by decide)))
    · rcases (show j = 0 ∨ j = 1 ∨ j = 2 ∨ j = 3 ∨ j = 4 ∨ j = 5 ∨ j = 6 ∨ j = 7 ∨ j = 8 by omega) with rfl | rfl | rfl | rfl | rfl | rfl | rfl | rfl | rfl
      all_goals (rw [← hT]; simp [up2, rN, mRs])
    · rcases (show j = 0 ∨ j = 1 ∨ j = 2 ∨ j = 3 by omega) with rfl | rfl | rfl | rfl
      · rw [← hT]; simp [up2, rN, mRs]
      · rw [← hT]; simp [up2, rN, mRs]
      · rw [← hT]; simp [up2, rN, mRs]
      · exact t7
  refine ev_cv okPf_finish okPg_isBegun rfl rfl trivial rfl (by decide +kernel) rfl rfl (sp_isBegun q1.2.1 ?_)
  by_cases z : (mP (mBrk m)).1 9 = 0
  · rw [if_pos z]
    have e : mF1 m = mBrk m := if_pos z
    rw [e] at fin
    exact ev_if_eq okPf_finish rfl rfl trivial (fun g => fin σ1 q1 (q2.wk (by decide))) (fun g => absurd rfl g)
  · rw [if_neg z]
    have e : mF1 m = sP (mBrk m) (pSkip (mH (mBrk m)) (mF (mBrk m)) (nI 99) (mP (mBrk m))) := if_neg z
    rw [e] at fin
    refine ev_if_eq okPf_finish rfl rfl trivial (fun g => absurd g (by decide)) (fun g => ?_)
    refine ev_cv okPf_finish okPg_skip rfl rfl trivial rfl (by decide +kernel) rfl rfl (sp_skip (B := pb + 4000) q1.2.1 i1.2.2.2.1 i1.2.2.2.2 (by omega) i1.2.2.1.2.2.2.2.2.2.2.2 fun σ2 r1 r2 => ?_)
    exact fin σ2 (q1.pg (r2.wk (by decide)) r1) ((q2.wk (by decide)).tr (r2.wk (by decide)))
theorem sp_wipeC (hc : CV σ m) (k : ∀ σ', CV σ' (mWi m) → Fr CC σ σ' → Q (some (.int (nI (mP m).2.length))) σ') : Ev lc G mPf_wipe 0 [some (.ref 0), none] [] σ Q := by
  have e : σ.1 5 1 = nI (mP m).2.length := hc.2.1.2.2.2.2.2.1
  refine ev_ri okPf_wipe rfl rfl trivial rfl ?_
  rw [e]
  have f : Fr [5, 6] σ (up2 σ.1 5 1 (nI 0), σ.2) := Fr.u1 (by decide)
  exact k _ (hc.pg (f.wk (by decide)) (hc.2.1.out f ⟨by decide, up2_same σ.1 5 1 _, RowAt.nil⟩)) (f.wk (by decide))
theorem sp_lengthC (hc : CV σ m) (k : Q (some (.int (nI (mP m).2.length))) σ) : Ev lc G mPf_length 0 [some (.ref 0)] [] σ Q := by
  have e : σ.1 5 1 = nI (mP m).2.length := hc.2.1.2.2.2.2.2.1
  refine ev_ri okPf_length rfl rfl trivial rfl ?_
  rw [e]
  exact k
theorem sp_outByte {o : List Nat} (ho : OutAt σ o) {i : Int32} (k : Q (some (.int (tb o i))) σ) : Ev lc G mOu_byteAt 0 [some (.ref 5), some (.int i)] [] σ Q := by
  obtain ⟨h1, h2, h3⟩ := ho
  unfold tb at k
  refine ev_if_lt okOu_byteAt rfl rfl trivial (fun g => ?_) (fun g => ?_)
  · rw [if_pos g] at k
    exact ev_nop okOu_byteAt rfl rfl trivial (ev_ri okOu_byteAt rfl rfl trivial rfl k)
  · rw [if_neg g] at k
    refine ev_ic_ge okOu_byteAt rfl rfl trivial (fun g2 => ?_) (fun g2 => ?_)
    · rw [h2] at g2
      rw [if_pos g2] at k
      exact ev_nop okOu_byteAt rfl rfl trivial (ev_ri okOu_byteAt rfl rfl trivial rfl k)
    · rw [h2] at g2
      rw [if_neg g2] at k
      rcases i32_cases i with ⟨q, -⟩ | ⟨q1, q2⟩
      · exact absurd q g
      · have hlt : i.toNatClampNeg < o.length := by
          rcases Nat.lt_or_ge i.toNatClampNeg o.length with q | q
          · exact q
          · exact absurd (by rw [q2]; exact nI_le q q1) g2
        refine ev_goto okOu_byteAt rfl rfl ⟨by rw [q2]; exact vp_nI (by omega) (by decide), trivial⟩ (ev_ri okOu_byteAt rfl rfl trivial rfl ?_)
        rw [h3 _ hlt]
        exact k
theorem sp_atC (hc : CV σ m) {i : Int32} (k : Q (some (.int (tb (mP m).2 i))) σ) : Ev lc G mPf_at 0 [some (.ref 0), some (.int i)] [] σ Q :=
  ev_cv okPf_at okOu_byteAt rfl rfl trivial rfl (by decide +kernel) rfl rfl (sp_outByte hc.2.1.2.2.2.2 (ev_ri okPf_at rfl rfl trivial rfl k))
theorem sp_demeritsC (hc : CV σ m) (k : Q (some (.long (mD m))) σ) : Ev lc G mPf_demerits 0 [some (.ref 0)] [] σ Q := by
  refine ev_rl okPf_demerits rfl rfl trivial rfl ?_
  rw [hc.2.2.2.2.1]
  exact k
theorem sp_lineC (hc : CV σ m) {i w : Int32} (k : Q (some (.int (lnA (mT m) i w))) σ) : Ev lc G mPf_line 0 [some (.ref 0), some (.int i), some (.int w)] [] σ Q := by
  obtain ⟨E, hl⟩ := hc.2.2.2.1
  refine ev_cv okPf_line okPt_fact rfl rfl trivial rfl (by decide +kernel) rfl rfl (sp_fact hl (ev_ri okPf_line rfl rfl trivial rfl ?_))
  have e : lnQ E (mT m) i w = lnA (mT m) i w := by
    unfold lnQ lnA
    rw [hl.2.1, Nat.mul_div_cancel_left _ (by decide)]
  rw [e]
  exact k
theorem sp_countC (hc : CV σ m) (h7 : ∃ fl, (mP m).1 7 = b2 fl) (h8 : ∃ jf, (mP m).1 8 = b2 jf) {w : Int32} (k : Q (some (.int (ctA m w))) σ) : Ev lc G mPf_count 0 [some (.ref 0), some (.int w)] [] σ Q := by
  obtain ⟨a1, ⟨p1, p2, p3, p4, p5⟩, a3, ⟨E, a4⟩, a5, a6⟩ := hc
  rcases i32_cases w with ⟨q, -⟩ | ⟨q1, q2⟩
  · have e : ctA m w = mI 1 := if_pos q
    rw [e] at k
    refine ev_tout 233 okPf_count rfl rfl trivial (Or.inl (Int32.lt_iff_toInt_lt.mp q)) rfl (ev_ri okPf_count rfl rfl trivial rfl k)
  · generalize w.toNatClampNeg = j at q1 q2
    subst q2
    have hn : ¬ nI j < 0 := nI_neg q1
    have e : ctA m (nI j) = _ := if_neg hn
    rw [e, nI_cl q1] at k
    by_cases hj : j ≤ 16
    · have go : ∀ tgt off, (#[83, 91, 99, 107, 115, 123, 131, 139, 147, 155, 163, 171, 187, 203, 211, 216, 224] : Array Int)[j]? = some off → (1 : Int) + off = (tgt : Nat) → Ev lc G mPf_count tgt [some (.ref 0), some (.int (nI j))] [] σ Q → Ev lc G mPf_count 0 [some (.ref 0), some (.int (nI j))] [] σ Q := by
        intro tgt off h1 h2 h3
        refine ev_tin tgt okPf_count rfl rfl trivial (by rw [nI_int q1]; omega) (by rw [nI_int q1]; omega) ?_ h2 h3
        rw [nI_int q1, Int.sub_zero, Int.toNat_natCast]
        exact h1
      rcases (show j = 0 ∨ j = 1 ∨ j = 2 ∨ j = 3 ∨ j = 4 ∨ j = 5 ∨ j = 6 ∨ j = 7 ∨ j = 8 ∨ j = 9 ∨ j = 10 ∨ j = 11 ∨ j = 12 ∨ j = 13 ∨ j = 14 ∨ j = 15 ∨ j = 16 by omega) with rfl | rfl | rfl | rfl | rfl | rfl | rfl | rfl | rfl | rfl | rfl | rfl | rfl | rfl | rfl | rfl | rfl
      · refine go 84 83 rfl rfl (ev_ri okPf_count rfl rfl trivial rfl ?_)
        rw [a3.2.2.2.2.2.1, show (clsP (mW m)).2.2.2.length = (mW m).length from List.length_map ..]
        exact k
      · refine go 92 91 rfl rfl (ev_ri okPf_count rfl rfl trivial rfl ?_)
        rw [show σ.1 7 4 = _ from p2 0 (by decide)]; exact k
      · refine go 100 99 rfl rfl (ev_ri okPf_count rfl rfl trivial rfl ?_)
        rw [show σ.1 7 5 = _ from p2 1 (by decide)]; exact k
      · refine go 108 107 rfl rfl (ev_ri okPf_count rfl rfl trivial rfl ?_)
        rw [show σ.1 7 6 = _ from p2 2 (by decide)]; exact k
      · refine go 116 115 rfl rfl (ev_ri okPf_count rfl rfl trivial rfl ?_)
        rw [p1 0 (by decide)]; exact k
      · refine go 124 123 rfl rfl (ev_ri okPf_count rfl rfl trivial rfl ?_)
        rw [p1 1 (by decide)]; exact k
      · refine go 132 131 rfl rfl (ev_ri okPf_count rfl rfl trivial rfl ?_)
        rw [p1 2 (by decide)]; exact k
      · refine go 140 139 rfl rfl (ev_ri okPf_count rfl rfl trivial rfl ?_)
        rw [p1 3 (by decide)]; exact k
      · refine go 148 147 rfl rfl (ev_ri okPf_count rfl rfl trivial rfl ?_)
        rw [p1 4 (by decide)]; exact k
      · refine go 156 155 rfl rfl (ev_ri okPf_count rfl rfl trivial rfl ?_)
        rw [p1 5 (by decide)]; exact k
      · refine go 164 163 rfl rfl (ev_ri okPf_count rfl rfl trivial rfl ?_)
        rw [p1 6 (by decide)]; exact k
      · obtain ⟨fl, e7⟩ := h7
        have k : Q (some (.int ((mP m).1 7))) σ := k
        have e47 : σ.1 4 7 = b2 fl := (p1 7 (by decide)).trans e7
        rw [e7] at k
        refine go 172 171 rfl rfl ?_
        refine ev_if_eq okPf_count rfl rfl trivial (fun g => ?_) (fun g => ?_)
        · rw [e47, b2_0] at g
          rw [g] at k
          exact ev_nop okPf_count rfl rfl trivial (ev_ri okPf_count rfl rfl trivial rfl k)
        · rw [e47, b2_0] at g
          have g : fl = true := by simpa using g
          rw [g] at k
          exact ev_goto okPf_count rfl rfl trivial (ev_ri okPf_count rfl rfl trivial rfl k)
      · obtain ⟨fl, e7⟩ := h8
        have k : Q (some (.int ((mP m).1 8))) σ := k
        have e47 : σ.1 4 8 = b2 fl := (p1 8 (by decide)).trans e7
        rw [e7] at k
        refine go 188 187 rfl rfl ?_
        refine ev_if_eq okPf_count rfl rfl trivial (fun g => ?_) (fun g => ?_)
        · rw [e47, b2_0] at g
          rw [g] at k
          exact ev_nop okPf_count rfl rfl trivial (ev_ri okPf_count rfl rfl trivial rfl k)
        · rw [e47, b2_0] at g
          have g : fl = true := by simpa using g
          rw [g] at k
          exact ev_goto okPf_count rfl rfl trivial (ev_ri okPf_count rfl rfl trivial rfl k)
      · refine go 204 203 rfl rfl (ev_ri okPf_count rfl rfl trivial rfl ?_)
        have k : Q (some (.int (nI ((mT m).length / 6)))) σ := k
        rw [a4.2.1, Nat.mul_div_cancel_left _ (by decide)] at k
        rw [a4.2.2.1]
        exact k
      · refine go 212 211 rfl rfl (ev_ri okPf_count rfl rfl trivial rfl ?_)
        rw [a6]; exact k
      · refine go 217 216 rfl rfl (ev_ri okPf_count rfl rfl trivial rfl ?_)
        rw [show σ.1 7 7 = _ from p2 3 (by decide)]; exact k
      · refine go 225 224 rfl rfl (ev_ri okPf_count rfl rfl trivial rfl ?_)
        rw [a1.2.1]; exact k
    · have e2 : ∀ (P : Int32 → Prop), P (mI 1) → P (match j with
          | 0 => nI (mW m).length | 1 => (mP m).1 9 | 2 => (mP m).1 10 | 3 => (mP m).1 11 | 4 => (mP m).1 0 | 5 => (mP m).1 1 | 6 => (mP m).1 2 | 7 => (mP m).1 3 | 8 => (mP m).1 4 | 9 => (mP m).1 5 | 10 => (mP m).1 6 | 11 => (mP m).1 7 | 12 => (mP m).1 8 | 13 => nI ((mT m).length / 6) | 14 => mQ m | 15 => (mP m).1 12 | 16 => nI (mX m).length | _ => mI 1) := by
        intro P hp
        obtain ⟨j', rfl⟩ : ∃ j', j = j' + 17 := ⟨j - 17, by omega⟩
        exact hp
      have k2 : Q (some (.int (mI 1))) σ := by
        obtain ⟨j', rfl⟩ : ∃ j', j = j' + 17 := ⟨j - 17, by omega⟩
        exact k
      refine ev_tout 233 okPf_count rfl rfl trivial (Or.inr (by rw [nI_int q1]; omega)) rfl (ev_ri okPf_count rfl rfl trivial rfl k2)
end CP
end
section
/-! ===== type: both ===== -/
theorem u8_and (A : UInt64) : A.toInt64.toInt32 &&& nI 255 = nI (A.toNat % 256) := by
  apply Int32.toBitVec.inj
  apply BitVec.eq_of_toNat_eq
  have h := Nat.and_two_pow_sub_one_eq_mod (A.toNat % 4294967296) 8
  simp [nI] at *
  rw [BitVec.signExtend_eq_setWidth_of_le _ (by decide), BitVec.toNat_setWidth]
  have h2 : A.toNat % 256 % 4294967296 = A.toNat % 256 := by omega
  rw [h2]
  exact h
theorem sh_cnt {i : Nat} (h : i < 8) : (nI 8 * nI i).toInt64.toUInt64 &&& Int64.toUInt64 63 = UInt64.ofNat (8 * i) := by
  have key : ∀ i : Fin 8, (nI 8 * nI i.val).toInt64.toUInt64 &&& Int64.toUInt64 63 = UInt64.ofNat (8 * i.val) := by decide +kernel
  exact key ⟨i, h⟩
theorem sh_cntS {i : Nat} (h : i < 8) : (nI 8 * nI i).toInt64 &&& 63 = Int64.ofNat (8 * i) := by
  have key : ∀ i : Fin 8, (nI 8 * nI i.val).toInt64 &&& 63 = Int64.ofNat (8 * i.val) := by decide +kernel
  exact key ⟨i, h⟩
theorem ty_c (w : Int64) {i : Nat} (h : i < 8) : (w.toUInt64 >>> ((nI 8 * nI i).toInt64.toUInt64 &&& Int64.toUInt64 63)).toInt64.toInt32 &&& nI 255 = nI (by8 w i) := by
  rw [sh_cnt h, u8_and]
  unfold by8
  congr 2
  simp
  rw [Nat.mod_eq_of_lt (show 8 * i < 64 by omega)]
theorem bit255 {j : Nat} (hj : j < 32) (h8 : 8 ≤ j) : (255#32).getLsbD j = false := by
  have key : ∀ j : Fin 32, 8 ≤ j.val → (255#32).getLsbD j.val = false := by decide
  exact key ⟨j, hj⟩ h8
theorem ty_r (w : Int64) {i : Nat} (h : i < 8) : (w >>> ((nI 8 * nI i).toInt64 &&& 63) &&& lN 255).toInt32 = nI (by8 w i) := by
  rw [← ty_c w h, sh_cnt h, sh_cntS h]
  apply Int32.toBitVec.inj
  simp [nI, lN]
  have key : ∀ i : Fin 8, ((8#64 * BitVec.ofNat 64 i.val).smod 64#64).toNat = 8 * i.val := by decide +kernel
  rw [key ⟨i, h⟩, Nat.mod_eq_of_lt (show 8 * i < 64 by omega), BitVec.signExtend_eq_setWidth_of_le _ (by decide), BitVec.signExtend_eq_setWidth_of_le _ (by decide)]
  apply BitVec.eq_of_getLsbD_eq
  intro j hj
  rw [BitVec.getLsbD_and, BitVec.getLsbD_and]
  by_cases h8 : 8 ≤ j
  · rw [bit255 hj h8, Bool.and_false, Bool.and_false]
  · congr 1
    rw [BitVec.getLsbD_setWidth, BitVec.getLsbD_setWidth, BitVec.getLsbD_sshiftRight, BitVec.getLsbD_ushiftRight]
    congr 1
    have h1 : ¬ 64 ≤ j := by omega
    have h2 : 8 * i + j < 64 := by omega
    simp [h1, h2]
section TY
variable {lc : Launch} {G : GG} {Q : Option Value → St2 → Prop} {pb : Nat}
theorem by8_128 {w : Int64} {i : Nat} (h : by8 w i ≤ 126) : by8 w i < 128 := by omega
theorem lp_typeC {w : Int64} {n : Nat} (hn : n ≤ 8) : ∀ (r i : Nat) (σ : St2) (m : MS), i + r = n → CV σ m → (mX m).length + r ≤ 100 → (∀ σ', CV σ' (sX m (tyX w r i (mX m))) → Fr CC σ σ' → Q (some (.int (nI (tyX w r i (mX m)).length))) σ') →
    Ev lc G mPf_type 34 [some (.ref 0), some (.long w), none, some (.int (nI n)), some (.int (nI i)), none] [] σ Q := by
  intro r
  induction r with
  | zero =>
    intro i σ m hi hc hl k
    refine ev_ic_ge okPf_type rfl rfl trivial (fun g => ?_) (fun g => absurd (nI_le (by omega) (by omega)) g)
    refine ev_ri okPf_type rfl rfl trivial rfl ?_
    rw [hc.1.2.1]
    exact k σ hc Fr.rf
  | succ r ih =>
    intro i σ m hi hc hl k
    have hb := by8_lt w i
    refine ev_ic_ge okPf_type rfl rfl trivial (fun g => absurd g (nI_ge (by omega) (by omega))) (fun g => ?_)
    have next : ∀ (σ1 : St2) (y : List Nat), CV σ1 (sX m y) → Fr CC σ σ1 → y.length + r ≤ 100 → y = (if 32 ≤ by8 w i ∧ by8 w i ≤ 126 then mX m ++ [by8 w i] else mX m) → Ev lc G mPf_type 77 [some (.ref 0), some (.long w), none, some (.int (nI n)), some (.int (nI i)), none] [] σ1 Q := by
      intro σ1 y c1 f1 l1 e1
      refine ev_goto okPf_type rfl rfl trivial ?_
      rw [nI_add]
      refine ih (i + 1) σ1 (sX m y) (by omega) c1 l1 (fun σ' q1 q2 => ?_)
      have := k σ' (by rw [tyX, ← e1]; exact q1) (f1.tr q2)
      rw [tyX, ← e1] at this
      exact this
    refine ev_ic_lt okPf_type rfl rfl trivial (fun g2 => ?_) (fun g2 => ?_)
    · rw [ty_c w (by omega)] at g2
      have g2 : by8 w i < 32 := (nI_ltI (by omega) (by decide)).mp g2
      exact ev_lv [some (.ref 0), some (.long w), none, some (.int (nI n)), some (.int (nI i)), none] ⟨rfl, rfl, rfl, rfl, trivial⟩ (next σ (mX m) hc Fr.rf (by omega) (by rw [if_neg (by omega)]))
    · rw [ty_c w (by omega)] at g2
      have g2 : 32 ≤ by8 w i := Nat.le_of_not_lt (fun z => g2 (nI_lt z (by decide)))
      rw [ty_c w (by omega)]
      refine ev_ic_gt okPf_type rfl rfl trivial (fun g3 => ?_) (fun g3 => ?_)
      · have g3 : 126 < by8 w i := (nI_ltI (by decide) (by omega)).mp g3
        exact ev_lv [some (.ref 0), some (.long w), none, some (.int (nI n)), some (.int (nI i)), none] ⟨rfl, rfl, rfl, rfl, trivial⟩ (next σ (mX m) hc Fr.rf (by omega) (by rw [if_neg (by omega)]))
      · have g3 : by8 w i ≤ 126 := Nat.le_of_not_lt (fun z => g3 (nI_lt z (by omega)))
        refine ev_cv okPf_type okTx_add rfl rfl trivial rfl (by decide +kernel) rfl rfl (sp_add (Or.inl rfl) hc.1 (by omega) (by8_128 g3) fun σ1 q1 q2 q3 => ?_)
        exact ev_lv [some (.ref 0), some (.long w), none, some (.int (nI n)), some (.int (nI i)), none] ⟨rfl, rfl, rfl, rfl, trivial⟩ (next σ1 _ (hc.tx q2 q1) (q2.wk (by decide)) (by simp; omega) (by rw [if_pos ⟨g2, g3⟩]))
theorem sp_typeC {σ : St2} {m : MS} {w : Int64} {n : Int32} (hc : CV σ m) (k : ∀ σ', CV σ' (sX m (tyA (mX m) w n).2) → Fr CC σ σ' → Q (some (.int (tyA (mX m) w n).1)) σ') : Ev lc G mPf_type 0 [some (.ref 0), some (.long w), none, some (.int n), none, none] [] σ Q := by
  have h100 := hc.1.1
  have bad : (n < nI 1 ∨ nI 8 < n) → Ev lc G mPf_type 11 [some (.ref 0), some (.long w), none, some (.int n), none, none] [] σ Q := by
    intro h
    have e : tyA (mX m) w n = (mI 1, mX m) := if_pos h
    rw [e] at k
    exact ev_ri okPf_type rfl rfl trivial rfl (k σ hc Fr.rf)
  refine ev_ic_lt okPf_type rfl rfl trivial (fun g => bad (Or.inl g)) (fun g => ?_)
  refine ev_ic_le okPf_type rfl rfl trivial (fun g2 => ?_) (fun g2 => bad (Or.inr (Int32.not_le.mp g2)))
  have e : tyA (mX m) w n = if nI 100 < nI (mX m).length + n then (mI 2, mX m) else (nI (tyX w n.toNatClampNeg 0 (mX m)).length, tyX w n.toNatClampNeg 0 (mX m)) := if_neg (fun z => z.elim g (fun q => absurd q (Int32.not_lt.mpr g2)))
  refine ev_ic_le okPf_type rfl rfl trivial (fun g3 => ?_) (fun g3 => ?_)
  · rw [hc.1.2.1] at g3
    rw [if_neg (Int32.not_lt.mpr g3)] at e
    rw [e] at k
    rcases i32_cases n with ⟨q, -⟩ | ⟨q1, q2⟩
    · exact absurd (Int32.lt_trans q (by decide : (0 : Int32) < nI 1)) g
    · generalize n.toNatClampNeg = j at q1 q2 k
      subst q2
      have h8 : j ≤ 8 := (nI_leI q1 (by decide)).mp g2
      rw [nI_add] at g3
      have h3 : (mX m).length + j ≤ 100 := (nI_leI (by omega) (by decide)).mp g3
      exact ev_nop okPf_type rfl rfl trivial (lp_typeC h8 j 0 σ m (by omega) hc h3 k)
  · rw [hc.1.2.1] at g3
    rw [if_pos (Int32.not_le.mp g3)] at e
    rw [e] at k
    exact ev_ri okPf_type rfl rfl trivial rfl (k σ hc Fr.rf)
theorem RV.tx {σ σ' : St2} {m : MS} {y : List Nat} (h : RV σ m) (hf : Fq [23] [1] σ σ') (hp : LineR σ' y) : RV σ' (sX m y) := by
  obtain ⟨c1, c2, c3, ⟨cnt, c4⟩, c5, c6⟩ := h
  exact ⟨hp, c2.fqs hf (by decide) (by decide), c3.fq hf (by decide) (by decide) (by decide), ⟨cnt, c4.fq hf (by decide) (by decide)⟩, by rw [hf.g2 (by decide)]; exact c5, by rw [hf.g1 (by decide)]; exact c6⟩
theorem lp_typeR {w : Int64} {n : Nat} (hn : n ≤ 8) : ∀ (r i : Nat) (σ : St2) (m : MS), i + r = n → RV σ m → (mX m).length + r ≤ 100 → (∀ σ', RV σ' (sX m (tyX w r i (mX m))) → Fq [23] [1] σ σ' → Q (some (.int (nI (tyX w r i (mX m)).length))) σ') →
    Ev lc G mMd_type 30 [some (.ref 22), some (.long w), none, some (.int (nI n)), some (.int (nI i)), none] [] σ Q := by
  intro r
  induction r with
  | zero =>
    intro i σ m hi hc hl k
    refine ev_ic_ge okMd_type rfl rfl trivial (fun g => ?_) (fun g => absurd (nI_le (by omega) (by omega)) g)
    refine ev_ri okMd_type rfl rfl trivial rfl ?_
    rw [hc.1.2.1]
    exact k σ hc Fq.rf
  | succ r ih =>
    intro i σ m hi hc hl k
    have hb := by8_lt w i
    refine ev_ic_ge okMd_type rfl rfl trivial (fun g => absurd g (nI_ge (by omega) (by omega))) (fun g => ?_)
    have next : ∀ (σ1 : St2) (y : List Nat), RV σ1 (sX m y) → Fq [23] [1] σ σ1 → y.length + r ≤ 100 → y = (if 32 ≤ by8 w i ∧ by8 w i ≤ 126 then mX m ++ [by8 w i] else mX m) → Ev lc G mMd_type 83 [some (.ref 22), some (.long w), none, some (.int (nI n)), some (.int (nI i)), none] [] σ1 Q := by
      intro σ1 y c1 f1 l1 e1
      refine ev_goto okMd_type rfl rfl trivial ?_
      rw [nI_add]
      refine ih (i + 1) σ1 (sX m y) (by omega) c1 l1 (fun σ' q1 q2 => ?_)
      have := k σ' (by rw [tyX, ← e1]; exact q1) (f1.tr q2)
      rw [tyX, ← e1] at this
      exact this
    refine ev_cs okMd_type okMd_in rfl rfl trivial rfl (by decide +kernel) rfl rfl ?_
    rw [ty_r w (by omega)]
    refine sp_in ?_
    have eq : decide (nI 32 ≤ nI (by8 w i) ∧ nI (by8 w i) ≤ nI 126) = decide (32 ≤ by8 w i ∧ by8 w i ≤ 126) := by
      apply decide_eq_decide.mpr
      exact ⟨fun z => ⟨(nI_leI (by decide) (by omega)).mp z.1, (nI_leI (by omega) (by decide)).mp z.2⟩, fun z => ⟨nI_le z.1 (by omega), nI_le z.2 (by decide)⟩⟩
    rw [eq]
    refine ev_if_eq okMd_type rfl rfl trivial (fun g2 => ?_) (fun g2 => ?_)
    · rw [b2_0] at g2
      have g2 := of_decide_eq_false g2
      exact ev_lv [some (.ref 22), some (.long w), none, some (.int (nI n)), some (.int (nI i)), none] ⟨rfl, rfl, rfl, rfl, trivial⟩ (next σ (mX m) hc Fq.rf (by omega) (by rw [if_neg g2]))
    · rw [b2_0] at g2
      have g2 : 32 ≤ by8 w i ∧ by8 w i ≤ 126 := by simpa using g2
      obtain ⟨a1, a2, a3⟩ := hc.1
      refine ev_nop okMd_type rfl rfl ⟨by rw [a2]; exact vp_nI (by omega) (by decide), trivial⟩ ?_
      have f1 : Fq [23] [1] σ (up2 (up2 σ.1 23 (σ.1 22 1).toNatClampNeg (nI (by8 w i)), σ.2).1 22 1 ((up2 σ.1 23 (σ.1 22 1).toNatClampNeg (nI (by8 w i)), σ.2).1 22 1 + nI 1), (up2 σ.1 23 (σ.1 22 1).toNatClampNeg (nI (by8 w i)), σ.2).2) := Fq.tr (Fq.u1 (by decide) (by decide)) (Fq.f1 (σ := (_, _)) (by decide))
      refine ev_lv [some (.ref 22), some (.long w), none, some (.int (nI n)), some (.int (nI i)), none] ⟨rfl, rfl, rfl, rfl, trivial⟩ (next _ (mX m ++ [by8 w i]) (hc.tx f1 ⟨by simp; omega, ?_, RowAt.push a3 ?_ (fun q hq => ?_)⟩) f1 (by simp; omega) (by rw [if_pos g2]))
      · simp [up2, a2, nI_add]
      · simp [up2, a2, nI_cl (show (mX m).length < 2 ^ 31 by omega)]
      · simp [up2, a2, nI_cl (show (mX m).length < 2 ^ 31 by omega), Nat.ne_of_lt hq]
theorem sp_typeR {σ : St2} {m : MS} {w : Int64} {n : Int32} (hc : RV σ m) (k : ∀ σ', RV σ' (sX m (tyA (mX m) w n).2) → Fq [23] [1] σ σ' → Q (some (.int (tyA (mX m) w n).1)) σ') : Ev lc G mMd_type 0 [some (.ref 22), some (.long w), none, some (.int n), none, none] [] σ Q := by
  have h100 := hc.1.1
  refine ev_cs okMd_type okMd_in rfl rfl trivial rfl (by decide +kernel) rfl rfl (sp_in ?_)
  refine ev_if_ne okMd_type rfl rfl trivial (fun g => ?_) (fun g => ?_)
  · rw [b2_0] at g
    have g : nI 1 ≤ n ∧ n ≤ nI 8 := by simpa using g
    have e : tyA (mX m) w n = if nI 100 < nI (mX m).length + n then (mI 2, mX m) else (nI (tyX w n.toNatClampNeg 0 (mX m)).length, tyX w n.toNatClampNeg 0 (mX m)) := if_neg (fun z => z.elim (fun q => absurd q (Int32.not_lt.mpr g.1)) (fun q => absurd q (Int32.not_lt.mpr g.2)))
    refine ev_ic_le okMd_type rfl rfl trivial (fun g3 => ?_) (fun g3 => ?_)
    · rw [hc.1.2.1] at g3
      rw [if_neg (Int32.not_lt.mpr g3)] at e
      rw [e] at k
      rcases i32_cases n with ⟨q, -⟩ | ⟨q1, q2⟩
      · exact absurd (Int32.lt_trans q (by decide : (0 : Int32) < nI 1)) (Int32.not_lt.mpr g.1)
      · generalize n.toNatClampNeg = j at q1 q2 k
        subst q2
        have h8 : j ≤ 8 := (nI_leI q1 (by decide)).mp g.2
        rw [nI_add] at g3
        have h3 : (mX m).length + j ≤ 100 := (nI_leI (by omega) (by decide)).mp g3
        exact ev_nop okMd_type rfl rfl trivial (lp_typeR h8 j 0 σ m (by omega) hc h3 k)
    · rw [hc.1.2.1] at g3
      rw [if_pos (Int32.not_le.mp g3)] at e
      rw [e] at k
      exact ev_ri okMd_type rfl rfl trivial rfl (k σ hc Fq.rf)
  · have g : b2 (decide (nI 1 ≤ n ∧ n ≤ nI 8)) = 0 := by simpa using g
    rw [b2_0] at g
    have g := of_decide_eq_false g
    have e : tyA (mX m) w n = (mI 1, mX m) := if_pos (by
      by_cases z : n < nI 1
      · exact Or.inl z
      · exact Or.inr (Int32.not_le.mp (fun q => g ⟨Int32.not_lt.mp z, q⟩)))
    rw [e] at k
    exact ev_ri okMd_type rfl rfl trivial rfl (k σ hc Fq.rf)
end TY
end
section
/-! ===== the reference: words are read ===== -/
theorem RV.pg {S F : List Nat} {σ σ' : St2} {m : MS} {N : NN} {o : List Nat} (h : RV σ m) (hf : Fq S F σ σ') (hs : ∀ c ∈ [23, 25, 26, 34, 35, 36, 37, 38, 39], c ∉ S) (hF : ∀ f ∈ [1, 6, 15, 16, 41], f ∉ F) (hp : RgV σ' N (mH m) (mF m) o) : RV σ' (sP m (N, o)) := by
  obtain ⟨c1, c2, c3, ⟨cnt, c4⟩, c5, c6⟩ := h
  refine ⟨c1.fq hf (hF 1 (by decide)) (hs 23 (by decide)) (by decide), hp, c3.fq hf (hs 25 (by decide)) (hs 26 (by decide)) (hF 6 (by decide)), ⟨cnt, c4.fq hf (fun c hc => hs c ?_) (hF 16 (by decide))⟩, by rw [hf.g2 (hF 15 (by decide))]; exact c5, by rw [hf.g1 (hF 41 (by decide))]; exact c6⟩
  simp only [List.mem_cons, List.not_mem_nil, or_false] at hc ⊢
  omega
theorem RV.set {σ : St2} {m : MS} (h : RV σ m) (j : Nat) (hj : j < 13) (v : Int32) : RV (up2 σ.1 22 (fm j) v, σ.2) (sN m j v) := by
  have ho := fm_out hj
  have hf : Fq [] [fm j] σ (up2 σ.1 22 (fm j) v, σ.2) := Fq.f1 (by simp)
  refine h.pg hf (fun c _ => List.not_mem_nil) (fun f h1 h2 => ho ?_) (h.2.1.set j hj v)
  rw [← List.mem_singleton.mp h2]
  simp only [List.mem_cons, List.not_mem_nil, or_false] at h1 ⊢
  omega
theorem RV.sheet {σ σ' : St2} {m : MS} (h : RV σ m) (hf : Fq [24] [3] σ σ') : RV σ' m := h.pg hf (by decide) (by decide) (h.2.1.fqs hf (by decide) (by decide))
abbrev FS : List Nat := [24, 25, 26, 27, 28, 29, 30, 31, 32, 33, 34, 35, 36, 37, 38, 39, 40]
abbrev FF : List Nat := [3, 6, 11, 15, 16, 24, 29, 31, 32, 34, 35, 36, 42, 43]
def tk (x : List Nat) (i : Nat) : List Nat := (x.drop i).takeWhile (fun b => b != 32)
theorem tk_hit {x : List Nat} {i : Nat} (h : i < x.length) (hb : x.getD i 0 ≠ 32) : tk x i = x.getD i 0 :: tk x (i + 1) := by
  unfold tk
  rw [List.drop_eq_getElem_cons h, ← gD h, List.takeWhile_cons, if_pos (by simpa using hb)]
theorem tk_stop {x : List Nat} {i : Nat} (hb : x.length ≤ i ∨ x.getD i 0 = 32) : tk x i = [] := by
  unfold tk
  by_cases h : i < x.length
  · have hb : x.getD i 0 = 32 := hb.resolve_left (by omega)
    rw [List.drop_eq_getElem_cons h, ← gD h, List.takeWhile_cons, if_neg (by simp only [hb]; decide)]
  · rw [List.drop_eq_nil_of_le (by omega)]
    rfl
theorem tk_mem {x : List Nat} {i b : Nat} (h : b ∈ tk x i) : b ≠ 32 ∧ b ∈ x := by
  have h1 := mem_tw h
  exact ⟨by simpa using h1, List.mem_of_mem_drop (List.takeWhile_subset _ h)⟩
theorem tk_drop (x : List Nat) (i : Nat) : x.drop i = tk x i ++ x.drop (i + (tk x i).length) := by
  have h := List.takeWhile_append_dropWhile (p := fun b => b != 32) (l := x.drop i)
  have h2 : (x.drop i).drop (tk x i).length = (x.drop i).dropWhile (fun b => b != 32) := by
    conv => lhs; rw [← h]
    unfold tk
    rw [List.drop_left]
  rw [← List.drop_drop, h2]
  exact h.symm
theorem tk_end {x : List Nat} : ∀ (n i : Nat), x.length ≤ i + n → (x.length ≤ i + (tk x i).length ∨ x.getD (i + (tk x i).length) 0 = 32)
  | 0, i, h => by
    left; omega
  | n + 1, i, h => by
    by_cases hl : i < x.length
    · by_cases hb : x.getD i 0 = 32
      · right
        rw [tk_stop (Or.inr hb)]
        exact hb
      · rw [tk_hit hl hb, List.length_cons]
        have := tk_end (x := x) n (i + 1) (by omega)
        rw [show i + 1 + (tk x (i + 1)).length = i + ((tk x (i + 1)).length + 1) by omega] at this
        exact this
    · left; omega
theorem gW_tok (u : Nat) : ∀ (t cur r : List Nat) (m : MS), (∀ b ∈ t, b ≠ 32) → gW u cur (t ++ r) m = gW u (cur ++ t) r m
  | [], cur, r, m, _ => by rw [List.nil_append, List.append_nil]
  | b :: t, cur, r, m, h => by
    rw [List.cons_append, gW, if_neg (h b List.mem_cons_self), gW_tok u t (cur ++ [b]) r m (fun c hc => h c (List.mem_cons_of_mem _ hc)), List.append_assoc]
    rfl
theorem wd_nil (u : Nat) (m : MS) : wd [] u m = m := rfl
theorem gW_skip (u : Nat) (r : List Nat) (m : MS) : gW u [] (32 :: r) m = gW u [] r m := by
  rw [gW, if_pos rfl, wd_nil]
theorem gW_at (u : Nat) (x : List Nat) (i : Nat) (m : MS) : gW u [] (x.drop i) m = gW u [] (x.drop (i + (tk x i).length)) (wd (tk x i) u m) := by
  conv => lhs; rw [tk_drop x i]
  rw [gW_tok u _ _ _ _ (fun b hb => (tk_mem hb).1), List.nil_append]
  by_cases h : i + (tk x i).length < x.length
  · have hb : x.getD (i + (tk x i).length) 0 = 32 := (tk_end (x := x) x.length i (by omega)).resolve_left (by omega)
    rw [List.drop_eq_getElem_cons h, ← gD h, hb, gW, if_pos rfl, gW_skip]
  · rw [List.drop_eq_nil_of_le (by omega), gW, gW, wd_nil]
section RW
variable {lc : Launch} {G : GG} {Q : Option Value → St2 → Prop} {x : List Nat}
theorem lp_isBare {σ : St2} (hx : LineR σ x) (hb : ∀ b ∈ x, b < 128) : ∀ (n i : Nat) (f : Bool), x.length ≤ i + n → i ≤ 200 → Q (some (.int (b2 (f && !hlt (tk x i))))) σ → Ev lc G mMd_isBare 4 [some (.ref 22), none, some (.int (b2 f)), some (.int (nI i))] [] σ Q := by
  obtain ⟨x1, x2, x3⟩ := hx
  have z01 : ∀ f : Bool, b2 f = 0 ∨ b2 f = 1 := fun f => by cases f <;> decide
  intro n
  induction n with
  | zero =>
    intro i f hn hi k
    rw [tk_stop (Or.inl (by omega)), show hlt [] = false from rfl, Bool.not_false, Bool.and_true] at k
    exact ev_ic_ge okMd_isBare rfl rfl trivial (fun g => ev_rz okMd_isBare rfl rfl trivial rfl (z01 f) k) (fun g => absurd (by rw [x2]; exact nI_le (by omega) (by omega)) g)
  | succ n ih =>
    intro i f hn hi k
    by_cases hl : i < x.length
    · have hbb := getD_lt (j := i) hb (by decide)
      have hv : σ.1 23 (nI i).toNatClampNeg = nI (x.getD i 0) := by rw [nI_cl (by omega)]; exact x3 i hl
      have vi : vp_in (nI i) 100 := vp_nI (by omega) (by decide)
      refine ev_ic_ge okMd_isBare rfl rfl trivial (fun g => absurd g (by rw [x2]; exact nI_ge hl (by omega))) (fun g => ?_)
      refine ev_ic_eq okMd_isBare rfl rfl ⟨vi, trivial⟩ (fun g => ?_) (fun g => ?_)
      · rw [hv] at g
        have e : x.getD i 0 = 32 := (nI_eq (by omega) (by decide)).mp g
        rw [tk_stop (Or.inr e), show hlt [] = false from rfl, Bool.not_false, Bool.and_true] at k
        exact ev_rz okMd_isBare rfl rfl trivial rfl (z01 f) k
      · rw [hv] at g
        have e : ¬ x.getD i 0 = 32 := fun q => g (by rw [q])
        rw [tk_hit hl e, hlt_cons] at k
        have next : ∀ f' : Bool, (f' && !hlt (tk x (i + 1))) = (f && !((x.getD i 0 != 94) || hlt (tk x (i + 1)))) → Ev lc G mMd_isBare 43 [some (.ref 22), none, some (.int (b2 f)), some (.int (nI i))] [.int (b2 f')] σ Q := by
          intro f' h
          refine ev_goto okMd_isBare rfl rfl trivial ?_
          rw [nI_add]
          exact ih (i + 1) f' (by omega) (by omega) (by rw [h]; exact k)
        refine ev_if_eq okMd_isBare rfl rfl trivial (fun g2 => ?_) (fun g2 => ?_)
        · rw [b2_0] at g2
          subst g2
          exact ev_nop okMd_isBare rfl rfl trivial (next false (by simp))
        · rw [b2_0] at g2
          have g2 : f = true := by simpa using g2
          subst g2
          refine ev_ic_ne okMd_isBare rfl rfl ⟨vi, trivial⟩ (fun g3 => ?_) (fun g3 => ?_)
          · rw [hv] at g3
            have e2 : ¬ x.getD i 0 = 94 := fun q => g3 (by rw [q])
            exact ev_nop okMd_isBare rfl rfl trivial (next false (by rw [show (x.getD i 0 != 94) = true from bne_iff_ne.mpr e2]; simp))
          · have g3 : σ.1 23 (nI i).toNatClampNeg = nI 94 := by simpa using g3
            rw [hv] at g3
            have e2 : x.getD i 0 = 94 := (nI_eq (by omega) (by decide)).mp g3
            exact ev_goto okMd_isBare rfl rfl trivial (next true (by simp only [e2]; simp))
    · rw [tk_stop (Or.inl (by omega)), show hlt [] = false from rfl, Bool.not_false, Bool.and_true] at k
      exact ev_ic_ge okMd_isBare rfl rfl trivial (fun g => ev_rz okMd_isBare rfl rfl trivial rfl (z01 f) k) (fun g => absurd (by rw [x2]; exact nI_le (by omega) (by omega)) g)
theorem sp_isBare {σ : St2} (hx : LineR σ x) (hb : ∀ b ∈ x, b < 128) {i : Nat} (hi : i ≤ 100) (k : Q (some (.int (b2 (!hlt (tk x i))))) σ) : Ev lc G mMd_isBare 0 [some (.ref 22), some (.int (nI i)), none, none] [] σ Q :=
  ev_nop okMd_isBare rfl rfl trivial (ev_lv [some (.ref 22), none, some (.int (b2 true)), some (.int (nI i))] ⟨rfl, rfl, rfl, trivial⟩ (lp_isBare hx hb x.length i true (by omega) (by omega) (by rw [Bool.true_and]; exact k)))
theorem or256 {b u : Nat} (hb : b < 128) (hu : u < 2) : nI b ||| nI (256 * u) = nI (b + 256 * u) := by
  have key : ∀ b : Fin 128, ∀ u : Fin 2, nI b.val ||| nI (256 * u.val) = nI (b.val + 256 * u.val) := by decide +kernel
  exact key ⟨b, hb⟩ ⟨u, hu⟩
theorem weS_snoc (ws : List (List Nat × Nat)) (q : List Nat × Nat) : weS (ws ++ [q]) = weS ws ++ [tot wl ws + wl q] := by
  unfold weS
  rw [psum_app, Nat.zero_add]
  rfl
/-- what stands of a bare run is passed -/
theorem lp_bare {σ : St2} (hx : LineR σ x) (hb : ∀ b ∈ x, b < 128) {u0 : Nat} : ∀ (n i : Nat), x.length ≤ i + n → i ≤ x.length → Ev lc G mMd_readWords 2 [some (.ref 22), none, some (.int (nI u0)), some (.int (nI (i + (tk x i).length))), none] [] σ Q → Ev lc G mMd_readWords 35 [some (.ref 22), none, some (.int (nI u0)), some (.int (nI i)), none] [] σ Q := by
  obtain ⟨x1, x2, x3⟩ := hx
  intro n
  induction n with
  | zero =>
    intro i hn hi k
    rw [tk_stop (Or.inl (by omega))] at k
    exact ev_ic_ge okMd_readWords rfl rfl trivial (fun g => k) (fun g => absurd (by rw [x2]; exact nI_le (by omega) (by omega)) g)
  | succ n ih =>
    intro i hn hi k
    by_cases hl : i < x.length
    · have hbb := getD_lt (j := i) hb (by decide)
      have hv : σ.1 23 (nI i).toNatClampNeg = nI (x.getD i 0) := by rw [nI_cl (by omega)]; exact x3 i hl
      refine ev_ic_ge okMd_readWords rfl rfl trivial (fun g => absurd g (by rw [x2]; exact nI_ge hl (by omega))) (fun g => ?_)
      refine ev_ic_eq okMd_readWords rfl rfl ⟨vp_nI (by omega) (by decide), trivial⟩ (fun g => ?_) (fun g => ?_)
      · rw [hv] at g
        have e : x.getD i 0 = 32 := (nI_eq (by omega) (by decide)).mp g
        rw [tk_stop (Or.inr e)] at k
        exact k
      · rw [hv] at g
        have e : ¬ x.getD i 0 = 32 := fun q => g (by rw [q])
        refine ev_goto okMd_readWords rfl rfl trivial ?_
        rw [nI_add]
        refine ih (i + 1) (by omega) (by omega) ?_
        rw [tk_hit hl e, List.length_cons, show i + ((tk x (i + 1)).length + 1) = i + 1 + (tk x (i + 1)).length by omega] at k
        exact k
    · rw [tk_stop (Or.inl (by omega))] at k
      exact ev_ic_ge okMd_readWords rfl rfl trivial (fun g => k) (fun g => absurd (by rw [x2]; exact nI_le (by omega) (by omega)) g)
/-- the letters of a word are copied -/
theorem lp_letters (hb : ∀ b ∈ x, b < 128) {u : Nat} (hu : u < 2) : ∀ (n i : Nat) (σ : St2) (W : List Nat), x.length ≤ i + n → i ≤ x.length → LineR σ x → RowAt σ 25 W → W.length + (x.length - i) ≤ 8100 →
    (∀ σ', RowAt σ' 25 (W ++ (tk x i).map (fun b => b + 256 * u)) → Fq [25] [] σ σ' → Ev lc G mMd_readWords 140 [some (.ref 22), none, some (.int (nI (256 * u))), some (.int (nI (i + (tk x i).length))), some (.int (nI (W.length + (tk x i).length)))] [] σ' Q) →
    Ev lc G mMd_readWords 97 [some (.ref 22), none, some (.int (nI (256 * u))), some (.int (nI i)), some (.int (nI W.length))] [] σ Q := by
  intro n
  induction n with
  | zero =>
    intro i σ W hn hi hx hw hl k
    obtain ⟨x1, x2, x3⟩ := hx
    rw [tk_stop (Or.inl (by omega)), List.map_nil, List.append_nil] at k
    exact ev_ic_ge okMd_readWords rfl rfl trivial (fun g => k σ hw Fq.rf) (fun g => absurd (by rw [x2]; exact nI_le (by omega) (by omega)) g)
  | succ n ih =>
    intro i σ W hn hi hx hw hl k
    obtain ⟨x1, x2, x3⟩ := hx
    by_cases hlt : i < x.length
    · have hbb := getD_lt (j := i) hb (by decide)
      have hv : σ.1 23 (nI i).toNatClampNeg = nI (x.getD i 0) := by rw [nI_cl (by omega)]; exact x3 i hlt
      have vi : vp_in (nI i) 100 := vp_nI (by omega) (by decide)
      refine ev_ic_ge okMd_readWords rfl rfl trivial (fun g => absurd g (by rw [x2]; exact nI_ge hlt (by omega))) (fun g => ?_)
      refine ev_ic_eq okMd_readWords rfl rfl ⟨vi, trivial⟩ (fun g => ?_) (fun g => ?_)
      · rw [hv] at g
        have e : x.getD i 0 = 32 := (nI_eq (by omega) (by decide)).mp g
        rw [tk_stop (Or.inr e), List.map_nil, List.append_nil] at k
        exact k σ hw Fq.rf
      · rw [hv] at g
        have e : ¬ x.getD i 0 = 32 := fun q => g (by rw [q])
        rw [tk_hit hlt e, List.map_cons, List.length_cons] at k
        refine ev_goto okMd_readWords rfl rfl ⟨vi, vp_nI (by omega) (by decide), trivial⟩ ?_
        rw [hv, or256 hbb hu, nI_add, nI_add, nI_cl (by omega)]
        have f1 : Fq [25] [] σ (up2 σ.1 25 W.length (nI (x.getD i 0 + 256 * u)), σ.2) := Fq.u1 (by decide) (by decide)
        have hW : (W ++ [x.getD i 0 + 256 * u]).length = W.length + 1 := by simp
        have := ih (i + 1) (up2 σ.1 25 W.length (nI (x.getD i 0 + 256 * u)), σ.2) (W ++ [x.getD i 0 + 256 * u]) (by omega) (by omega) (LstR.fq ⟨x1, x2, x3⟩ f1 (by decide) (by decide) (by decide)) (RowAt.push hw (up2_same σ.1 25 W.length _) (fun j hj => up2_col σ.1 25 _ (by omega))) (by rw [hW]; omega) (fun σ' r1 r2 => ?_)
        · rw [hW] at this
          exact this
        · rw [hW]
          have k2 := k σ' (by rw [List.append_assoc] at r1; exact r1) (f1.tr r2)
          rw [show i + 1 + (tk x (i + 1)).length = i + ((tk x (i + 1)).length + 1) by omega, show W.length + 1 + (tk x (i + 1)).length = W.length + ((tk x (i + 1)).length + 1) by omega]
          exact k2
    · rw [tk_stop (Or.inl (by omega)), List.map_nil, List.append_nil] at k
      exact ev_ic_ge okMd_readWords rfl rfl trivial (fun g => k σ hw Fq.rf) (fun g => absurd (by rw [x2]; exact nI_le (by omega) (by omega)) g)
end RW
end
section
/-! ===== the reference: texts ===== -/
section RX
variable {lc : Launch} {G : GG} {Q : Option Value → St2 → Prop}
theorem RV.wd {σ σ' : St2} {m : MS} {w : List (List Nat × Nat)} (h : RV σ m) (hf : Fq [25, 26] [6] σ σ') (hp : RwV σ' w) : RV σ' (sW m w) := by
  obtain ⟨c1, c2, c3, ⟨cnt, c4⟩, c5, c6⟩ := h
  exact ⟨c1.fq hf (by decide) (by decide) (by decide), c2.fqs hf (by decide) (by decide), hp, ⟨cnt, c4.fq hf (by decide) (by decide)⟩, by rw [hf.g2 (by decide)]; exact c5, by rw [hf.g1 (by decide)]; exact c6⟩
theorem wl_le {ws : List (List Nat × Nat)} (h : ∀ q ∈ ws, q.1.length ≤ 100) : tot wl ws ≤ 100 * ws.length := by
  induction ws with
  | nil => exact Nat.le_refl _
  | cons q ws ih =>
    have h1 := h q List.mem_cons_self
    have h2 := ih (fun z hz => h z (List.mem_cons_of_mem _ hz))
    rw [tot, List.length_cons]
    have : wl q = q.1.length := rfl
    omega
set_option maxRecDepth 100000 in
theorem lp_readWords {u : Nat} (hu : u < 2) : ∀ (n i : Nat) (σ : St2) (m : MS) (pb : Nat), (mX m).length ≤ i + n → i ≤ (mX m).length → RV σ m → Inv pb m → pb + 4000 * n < 900000000 →
    (∀ σ', RV σ' (gW u [] ((mX m).drop i) m) → Fq FS FF σ σ' → Q none σ') →
    Ev lc G mMd_readWords 2 [some (.ref 22), none, some (.int (nI (256 * u))), some (.int (nI i)), none] [] σ Q := by
  intro n
  induction n with
  | zero =>
    intro i σ m pb hn hi hc hv hp k
    have h100 := hc.1.1
    rw [List.drop_eq_nil_of_le (by omega), gW, wd_nil] at k
    exact ev_ic_ge okMd_readWords rfl rfl trivial (fun g => ev_rv okMd_readWords rfl rfl trivial rfl (k σ hc Fq.rf)) (fun g => absurd (by rw [hc.1.2.1]; exact nI_le (by omega) (by omega)) g)
  | succ n ih =>
    intro i σ m pb hn hi hc hv hp k
    have h100 := hc.1.1
    have hx8 := hv.x128
    by_cases hl : i < (mX m).length
    · have hbb := getD_lt (j := i) hx8 (by decide)
      have hrd : σ.1 23 (nI i).toNatClampNeg = nI ((mX m).getD i 0) := by rw [nI_cl (by omega)]; exact hc.1.2.2 i hl
      refine ev_ic_ge okMd_readWords rfl rfl trivial (fun g => absurd g (by rw [hc.1.2.1]; exact nI_ge hl (by omega))) (fun g => ?_)
      refine ev_ic_ne okMd_readWords rfl rfl ⟨vp_nI (by omega) (by decide), trivial⟩ (fun g => ?_) (fun g => ?_)
      · rw [hrd] at g
        have e : ¬ (mX m).getD i 0 = 32 := fun q => g (by rw [q])
        have htl : 0 < (tk (mX m) i).length := by rw [tk_hit hl e]; simp
        have hte : i + (tk (mX m) i).length ≤ (mX m).length := by
          have := congrArg List.length (tk_drop (mX m) i)
          rw [List.length_append, List.length_drop, List.length_drop] at this
          omega
        rw [gW_at] at k
        refine ev_cv okMd_readWords okMd_isBare rfl rfl trivial rfl (by decide +kernel) rfl rfl (sp_isBare hc.1 hx8 (by omega) ?_)
        refine ev_if_eq okMd_readWords rfl rfl trivial (fun g2 => ?_) (fun g2 => ?_)
        · rw [b2_0] at g2
          have ht : hlt (tk (mX m) i) = true := by simpa using g2
          have ew : wd (tk (mX m) i) u m = sW (if (mW m).length = 80 then mBrk m else m) (mW (if (mW m).length = 80 then mBrk m else m) ++ [(tk (mX m) i, u)]) := if_pos ht
          have i2 : Inv (pb + 4000) (wd (tk (mX m) i) u m) := wd_Inv hv (fun b hb => by
            have h1 := tk_mem hb
            have h2 := hv.1 b h1.2
            omega) (by omega) hu
          have x2 : mX (wd (tk (mX m) i) u m) = mX m := wd_X _ _ _
          generalize wd (tk (mX m) i) u m = m2 at ew i2 x2 k
          -- the word is added
          have add : ∀ (m1 : MS) (σ1 : St2), RV σ1 m1 → mX m1 = mX m → WdOK (mW m1) → (mW m1).length < 80 → Fq FS FF σ σ1 → m2 = sW m1 (mW m1 ++ [(tk (mX m) i, u)]) → Ev lc G mMd_readWords 73 [some (.ref 22), none, some (.int (nI (256 * u))), some (.int (nI i)), none] [] σ1 Q := by
            intro m1 σ1 c1 y1 w1 l1 f1 e1
            have hT := wl_le (fun q hq => (w1.2 q hq).2.1)
            have hx1 : LineR σ1 (mX m) := by rw [← y1]; exact c1.1
            have go : Ev lc G mMd_readWords 95 [some (.ref 22), none, some (.int (nI (256 * u))), some (.int (nI i)), none] [.int (nI (rawW (mW m1)).length)] σ1 Q := by
              refine ev_nop okMd_readWords rfl rfl trivial ?_
              refine lp_letters hx8 hu (mX m).length i σ1 (rawW (mW m1)) (by omega) hi hx1 c1.2.2.1.2.2 (by rw [rawW_len]; omega) fun σ2 r1 r2 => ?_
              have e6 : σ2.1 22 6 = nI (mW m1).length := by rw [r2.g1 (by decide)]; exact c1.2.2.1.1
              refine ev_goto okMd_readWords rfl rfl ⟨by rw [e6]; exact vp_nI (by omega) (by decide), trivial⟩ ?_
              rw [e6, nI_cl (by omega)]
              have f3 : Fq [25, 26] [6] σ1 (up2 (up2 σ2.1 26 (mW m1).length (nI ((rawW (mW m1)).length + (tk (mX m) i).length)), σ2.2).1 22 6 ((up2 σ2.1 26 (mW m1).length (nI ((rawW (mW m1)).length + (tk (mX m) i).length)), σ2.2).1 22 6 + nI 1), (up2 σ2.1 26 (mW m1).length (nI ((rawW (mW m1)).length + (tk (mX m) i).length)), σ2.2).2) := (r2.wk (by decide) (by decide)).tr (Fq.tr (Fq.u1 (by decide) (by decide)) (Fq.f1 (σ := (_, _)) (by decide)))
              have wlen : (weS (mW m1)).length = (mW m1).length := by unfold weS; rw [psum_len]
              have c3 : RV (up2 (up2 σ2.1 26 (mW m1).length (nI ((rawW (mW m1)).length + (tk (mX m) i).length)), σ2.2).1 22 6 ((up2 σ2.1 26 (mW m1).length (nI ((rawW (mW m1)).length + (tk (mX m) i).length)), σ2.2).1 22 6 + nI 1), (up2 σ2.1 26 (mW m1).length (nI ((rawW (mW m1)).length + (tk (mX m) i).length)), σ2.2).2) m2 := by
                rw [e1]
                refine c1.wd f3 ⟨?_, ?_, ?_⟩
                · have e7 : (up2 σ2.1 26 (mW m1).length (nI ((rawW (mW m1)).length + (tk (mX m) i).length)), σ2.2).1 22 6 = nI (mW m1).length := by
                    dsimp only
                    rw [up2_ne _ _ _ (by decide)]; exact e6
                  dsimp only
                  rw [up2_same]
                  rw [show up2 σ2.1 26 (mW m1).length (nI ((rawW (mW m1)).length + (tk (mX m) i).length)) 22 6 = nI (mW m1).length from e7, nI_add]
                  simp
                · rw [weS_snoc]
                  have hold : RowAt σ2 26 (weS (mW m1)) := c1.2.2.1.2.1.fq r2 (by decide) (by decide)
                  refine RowAt.push hold ?_ (fun j hj => ?_)
                  · rw [wlen, ← rawW_len]
                    simp [up2, wl]
                  · rw [wlen] at hj
                    simp [up2, Nat.ne_of_lt hj]
                · rw [rawW_app, show rawW [(tk (mX m) i, u)] = (tk (mX m) i).map (fun b => b + 256 * u) by simp [rawW]]
                  intro j hj
                  rw [← r1 j hj]
                  simp [up2]
              generalize (up2 (up2 σ2.1 26 (mW m1).length (nI ((rawW (mW m1)).length + (tk (mX m) i).length)), σ2.2).1 22 6 ((up2 σ2.1 26 (mW m1).length (nI ((rawW (mW m1)).length + (tk (mX m) i).length)), σ2.2).1 22 6 + nI 1), (up2 σ2.1 26 (mW m1).length (nI ((rawW (mW m1)).length + (tk (mX m) i).length)), σ2.2).2) = σ3 at f3 c3 ⊢
              have f3' : Fq FS FF σ σ3 := f1.tr (f3.wk (by decide) (by decide))
              refine ev_lv [some (.ref 22), none, some (.int (nI (256 * u))), some (.int (nI (i + (tk (mX m) i).length))), none] ⟨rfl, rfl, rfl, trivial⟩ (ih (i + (tk (mX m) i).length) σ3 m2 (pb + 4000) (by rw [x2]; omega) (by rw [x2]; exact hte) c3 i2 (by omega) (fun σ' s1 s2 => k σ' (by rw [x2] at s1; exact s1) (f3'.tr s2)))
            have e6 : σ1.1 22 6 = nI (mW m1).length := c1.2.2.1.1
            refine ev_if_ne okMd_readWords rfl rfl trivial (fun g3 => ?_) (fun g3 => ?_)
            · rw [e6] at g3
              have hw0 : ¬ (mW m1).length = 0 := fun z => g3 (by rw [z]; rfl)
              have wlen : (weS (mW m1)).length = (mW m1).length := by unfold weS; rw [psum_len]
              refine ev_nop okMd_readWords rfl rfl ⟨by rw [e6, pk_sub (by omega)]; exact vp_nI (by omega) (by decide), trivial⟩ ?_
              have ev : σ1.1 26 (σ1.1 22 6 - nI 1).toNatClampNeg = nI (rawW (mW m1)).length := by
                rw [e6, pk_sub (by omega), nI_cl (by omega), c1.2.2.1.2.1 _ (by rw [wlen]; omega), we_at _ (by omega), rawW_len, Nat.sub_add_cancel (by omega), List.take_length]
              rw [ev]
              exact go
            · have g3 : σ1.1 22 6 = 0 := by simpa using g3
              rw [e6] at g3
              have hw0 : (mW m1).length = 0 := by
                rcases Nat.eq_zero_or_pos (mW m1).length with q | q
                · exact q
                · exact absurd g3 (nI_ne0 q (by omega))
              have : (rawW (mW m1)).length = 0 := by rw [List.length_eq_zero_iff.mp hw0]; rfl
              rw [this] at go
              exact ev_goto okMd_readWords rfl rfl trivial go
          have e6 : σ.1 22 6 = nI (mW m).length := hc.2.2.1.1
          have hw80 := hv.2.1.1
          refine ev_ic_ne okMd_readWords rfl rfl trivial (fun g3 => ?_) (fun g3 => ?_)
          · rw [e6] at g3
            have h80 : ¬ (mW m).length = 80 := fun z => g3 (by rw [z])
            rw [if_neg h80] at ew
            exact add m σ hc rfl hv.2.1 (by omega) Fq.rf ew
          · have g3 : σ.1 22 6 = nI 80 := by simpa using g3
            rw [e6] at g3
            have h80 : (mW m).length = 80 := (nI_eq (by omega) (by decide)).mp g3
            rw [if_pos h80] at ew
            have hne : mW m ≠ [] := fun z => by rw [z] at h80; cases h80
            refine ev_cv okMd_readWords okMd_breakNow rfl rfl trivial rfl (by decide +kernel) rfl rfl (sp_brkR hc hv (by omega) fun σ1 q1 q2 => ?_)
            exact add (mBrk m) σ1 q1 (mBrk_X m) (mBrk_Inv hv).2.1 (by rw [mBrk_W hne]; decide) (q2.wk (by decide) (by decide)) ew
        · rw [b2_0] at g2
          have ht : ¬ hlt (tk (mX m) i) = true := by simpa using g2
          have ew : wd (tk (mX m) i) u m = m := if_neg ht
          rw [ew] at k
          refine lp_bare hc.1 hx8 (mX m).length i (by omega) hi (ih (i + (tk (mX m) i).length) σ m pb (by omega) hte hc hv (by omega) k)
      · have g : σ.1 23 (nI i).toNatClampNeg = nI 32 := by simpa using g
        rw [hrd] at g
        have e : (mX m).getD i 0 = 32 := (nI_eq (by omega) (by decide)).mp g
        rw [List.drop_eq_getElem_cons hl, ← gD hl, e, gW_skip] at k
        refine ev_goto okMd_readWords rfl rfl trivial ?_
        rw [nI_add]
        exact ih (i + 1) σ m pb (by omega) (by omega) hc hv (by omega) k
    · rw [List.drop_eq_nil_of_le (by omega), gW, wd_nil] at k
      exact ev_ic_ge okMd_readWords rfl rfl trivial (fun g => ev_rv okMd_readWords rfl rfl trivial rfl (k σ hc Fq.rf)) (fun g => absurd (by rw [hc.1.2.1]; exact nI_le (by omega) (by omega)) g)
theorem sp_readWords {u : Nat} (hu : u < 2) {i : Nat} {σ : St2} {m : MS} {pb : Nat} (hi : i ≤ (mX m).length) (hc : RV σ m) (hv : Inv pb m) (hpb : pb < 800000000) (k : ∀ σ', RV σ' (gW u [] ((mX m).drop i) m) → Fq FS FF σ σ' → Q none σ') : Ev lc G mMd_readWords 0 [some (.ref 22), some (.int (nI i)), some (.int (nI (256 * u))), none, none] [] σ Q := by
  have h100 := hc.1.1
  exact ev_nop okMd_readWords rfl rfl trivial (ev_lv [some (.ref 22), none, some (.int (nI (256 * u))), some (.int (nI i)), none] ⟨rfl, rfl, rfl, trivial⟩ (lp_readWords hu (mX m).length i σ m pb (by omega) hi hc hv (by omega) k))
end RX
end
section
/-! ===== the reference: centre, text ===== -/
theorem noE_shW {u : Nat} (hu : u < 2) (z : List Nat) : noE (shW u z) = shW u (noE z) := by
  have key : ∀ l : List Nat, (l.map (fun b => if b = 32 then 32 else b + 256 * u)).dropWhile (fun b => b == 32) = (l.dropWhile (fun b => b == 32)).map (fun b => if b = 32 then 32 else b + 256 * u) := by
    intro l
    induction l with
    | nil => rfl
    | cons b l ih =>
      rw [List.map_cons, List.dropWhile_cons, List.dropWhile_cons]
      by_cases e : b = 32
      · subst e
        exact ih
      · have e1 : (b == 32) = false := beq_eq_false_iff_ne.mpr e
        have e2 : ((if b = 32 then 32 else b + 256 * u) == 32) = false := beq_eq_false_iff_ne.mpr (by rw [if_neg e]; omega)
        rw [e1, e2]
        rfl
  unfold noE shW
  rw [← List.map_reverse, key, List.map_reverse]
theorem shW_len (u : Nat) (z : List Nat) : (shW u z).length = z.length := List.length_map ..
theorem shW_lt {u : Nat} (hu : u < 2) {z : List Nat} (hz : ∀ b ∈ z, b < 128) : ∀ v ∈ shW u z, v < 512 := by
  intro v hv
  obtain ⟨b, hb, rfl⟩ := List.mem_map.mp hv
  have := hz b hb
  split <;> omega
section RE
variable {lc : Launch} {G : GG} {Q : Option Value → St2 → Prop}
theorem lp_trim : ∀ (n : Nat) (y : List Nat) (σ : St2), y.length ≤ n → LstR σ 3 24 300 y → (∀ b ∈ y, b < 512) → (∀ σ', LstR σ' 3 24 300 (noE y) → Fq [] [3] σ σ' → Ev lc G mMd_centre 46 [some (.ref 22), none] [] σ' Q) → Ev lc G mMd_centre 10 [some (.ref 22), none] [] σ Q := by
  intro n
  induction n with
  | zero =>
    intro y σ hn hs hb k
    have e : y = [] := List.length_eq_zero_iff.mp (by omega)
    subst e
    exact ev_if_le okMd_centre rfl rfl trivial (fun g => k σ hs Fq.rf) (fun g => absurd (by rw [hs.2.1]; decide) g)
  | succ n ih =>
    intro y σ hn hs hb k
    obtain ⟨s1, s2, s3⟩ := hs
    rcases List.eq_nil_or_concat y with e | ⟨z, b, e⟩
    · subst e
      exact ev_if_le okMd_centre rfl rfl trivial (fun g => k σ ⟨s1, s2, s3⟩ Fq.rf) (fun g => absurd (by rw [s2]; decide) g)
    · rw [List.concat_eq_append] at e
      subst e
      have hl : (z ++ [b]).length = z.length + 1 := by simp
      rw [hl] at s1 s2 hn
      have hbb := hb b (by simp)
      have hv : σ.1 24 z.length = nI b := by
        rw [s3 z.length (by rw [hl]; omega)]
        simp
      refine ev_if_le okMd_centre rfl rfl trivial (fun g => absurd g (by rw [s2]; exact nI_nle (by omega) (by omega))) (fun g => ?_)
      have ei : σ.1 22 3 - nI 1 = nI z.length := by rw [s2, pk_sub (by omega), Nat.add_sub_cancel]
      refine ev_ic_ne okMd_centre rfl rfl ⟨by rw [ei]; exact vp_nI (by omega) (by decide), trivial⟩ (fun g => ?_) (fun g => ?_)
      · rw [ei, nI_cl (by omega), hv] at g
        have e : ¬ b = 32 := fun q => g (by rw [q])
        rw [noE_snoc, if_neg e] at k
        exact k σ ⟨by rw [hl]; exact s1, by rw [hl]; exact s2, s3⟩ Fq.rf
      · have g : σ.1 24 (σ.1 22 3 - nI 1).toNatClampNeg = nI 32 := by simpa using g
        rw [ei, nI_cl (by omega), hv] at g
        have e : b = 32 := (nI_eq (by omega) (by decide)).mp g
        rw [noE_snoc, if_pos e] at k
        refine ev_goto okMd_centre rfl rfl trivial ?_
        rw [ei]
        have f1 : Fq [] [3] σ (up2 σ.1 22 3 (nI z.length), σ.2) := Fq.f1 (by decide)
        refine ih z _ (by omega) ⟨by omega, up2_same σ.1 22 3 _, fun j hj => ?_⟩ (fun c hc => hb c (List.mem_append_left _ hc)) (fun σ' q1 q2 => k σ' q1 (f1.tr q2))
        rw [f1.a1 (by decide) (by decide), s3 j (by rw [hl]; omega)]
        simp [List.getElem?_append_left hj]
theorem sp_centre {σ : St2} {m : MS} {y : List Nat} (hc : RV σ m) (hs : LstR σ 3 24 300 y) (hb : ∀ b ∈ y, b < 512) (h3 : R3 (mP m).1) (h4 : Rg ((mP m).1 4) 0 99) (h4' : 0 < cl (mP m).1 4) (k : ∀ σ', RV σ' (sP m (cN (noE y).length (mP m).1, (mP m).2)) → LstR σ' 3 24 300 (noE y) → Fq [] [3, 29, 31] σ σ' → Q none σ') : Ev lc G mMd_centre 0 [some (.ref 22), none] [] σ Q := by
  obtain ⟨h0, h1, h2, b0, b1, b2⟩ := R3_cl h3
  obtain ⟨e4, -, f4⟩ := Rg_cl h4 (by decide)
  have l4 : σ.1 22 31 = nI (cl (mP m).1 4) := (hc.2.1.1 4 (by decide)).trans e4
  refine ev_nop okMd_centre rfl rfl trivial ?_
  rw [l4, pk_sub (by omega)]
  have d1 := hc.set 4 (by decide) (nI (cl (mP m).1 4 - 1))
  have f1 : Fq [] [3, 29, 31] σ (up2 σ.1 22 31 (nI (cl (mP m).1 4 - 1)), σ.2) := Fq.f1 (by decide)
  have d1 : RV (up2 σ.1 22 31 (nI (cl (mP m).1 4 - 1)), σ.2) (sN m 4 (nI (cl (mP m).1 4 - 1))) := d1
  have s1 := hs.fq (S := []) (F := [31]) (σ' := (up2 σ.1 22 31 (nI (cl (mP m).1 4 - 1)), σ.2)) (Fq.f1 (by decide)) (by decide) (by decide) (by decide)
  generalize (up2 σ.1 22 31 (nI (cl (mP m).1 4 - 1)), σ.2) = σ1 at d1 f1 s1 ⊢
  refine lp_trim y.length y σ1 (Nat.le_refl _) s1 hb fun σ2 q1 q2 => ?_
  have d2 : RV σ2 (sN m 4 (nI (cl (mP m).1 4 - 1))) := d1.sheet (q2.wk (by decide) (by decide))
  have hl := q1.1
  have g0 : σ2.1 22 30 = nI (cl (mP m).1 0) := (d2.2.1.1 0 (by decide)).trans h0
  have g2 : σ2.1 22 29 = nI (cl (mP m).1 2) := (d2.2.1.1 2 (by decide)).trans h2
  have fin : ∀ (v : Nat) (l1 : Option Value), v = (cl (mP m).1 0 + cl (mP m).1 2 + 1 - (noE y).length) / 2 → Ev lc G mMd_centre 75 [some (.ref 22), none] [.int (nI v), .ref 22] σ2 Q := by
    intro v l1 hv
    subst hv
    refine ev_rv okMd_centre rfl rfl trivial rfl (k _ (d2.set 2 (by decide) _) (q1.fq (S := []) (F := [29]) (Fq.f1 (by decide)) (by decide) (by decide) (by decide)) ((f1.tr (q2.wk (by decide) (by decide))).tr (Fq.f1 (by decide))))
  refine ev_if_ge okMd_centre rfl rfl trivial (fun g => ?_) (fun g => ?_)
  · rw [g0, g2, q1.2.1, nI_add, nI_add] at g
    have hle : (noE y).length ≤ cl (mP m).1 0 + cl (mP m).1 2 + 1 := by
      rcases Nat.lt_or_ge (cl (mP m).1 0 + cl (mP m).1 2 + 1) (noE y).length with q | q
      · exact absurd (pk_sneg (by omega) q) (Int32.not_lt.mpr g)
      · exact q
    refine ev_nop okMd_centre rfl rfl ⟨by decide, trivial⟩ ?_
    rw [g0, g2, q1.2.1, nI_add, nI_add, pk_sub hle, pk_div (by omega) (by decide) (by decide)]
    exact ev_lv [some (.ref 22), none] ⟨rfl, trivial⟩ (fin _ none rfl)
  · rw [g0, g2, q1.2.1, nI_add, nI_add] at g
    have hlt : cl (mP m).1 0 + cl (mP m).1 2 + 1 < (noE y).length := by
      rcases Nat.lt_or_ge (cl (mP m).1 0 + cl (mP m).1 2 + 1) (noE y).length with q | q
      · exact q
      · exact absurd (by rw [pk_sub q]; exact Int32.not_lt.mp (nI_neg (by omega))) g
    refine ev_goto okMd_centre rfl rfl trivial ?_
    exact ev_lv [some (.ref 22), none] ⟨rfl, trivial⟩ (fin 0 none (by rw [Nat.sub_eq_zero_of_le (by omega)]))
theorem lp_blanks {σ : St2} {x : List Nat} (hx : LineR σ x) (hb : ∀ b ∈ x, b < 128) : ∀ (n i : Nat), x.length ≤ i + n → i ≤ x.length → Ev lc G mMd_text 27 [some (.ref 22), some (.int (nI (pbl x i))), none, none, none] [] σ Q → Ev lc G mMd_text 2 [some (.ref 22), some (.int (nI i)), none, none, none] [] σ Q := by
  obtain ⟨x1, x2, x3⟩ := hx
  intro n
  induction n with
  | zero =>
    intro i hn hi k
    rw [pbl_end (by omega)] at k
    exact ev_ic_ge okMd_text rfl rfl trivial (fun g => k) (fun g => absurd (by rw [x2]; exact nI_le (by omega) (by omega)) g)
  | succ n ih =>
    intro i hn hi k
    by_cases hl : i < x.length
    · have hbb := getD_lt (j := i) hb (by decide)
      have hv : σ.1 23 (nI i).toNatClampNeg = nI (x.getD i 0) := by rw [nI_cl (by omega)]; exact x3 i hl
      refine ev_ic_ge okMd_text rfl rfl trivial (fun g => absurd g (by rw [x2]; exact nI_ge hl (by omega))) (fun g => ?_)
      refine ev_ic_ne okMd_text rfl rfl ⟨vp_nI (by omega) (by decide), trivial⟩ (fun g => ?_) (fun g => ?_)
      · rw [hv] at g
        have e : x.getD i 0 ≠ 32 := fun q => g (by rw [q])
        rw [pbl_stop hl e] at k
        exact k
      · have g : σ.1 23 (nI i).toNatClampNeg = nI 32 := by simpa using g
        rw [hv] at g
        have e : x.getD i 0 = 32 := (nI_eq (by omega) (by decide)).mp g
        rw [pbl_hit hl e] at k
        refine ev_goto okMd_text rfl rfl trivial ?_
        rw [nI_add]
        exact ih (i + 1) (by omega) (by omega) k
    · rw [pbl_end (by omega)] at k
      exact ev_ic_ge okMd_text rfl rfl trivial (fun g => k) (fun g => absurd (by rw [x2]; exact nI_le (by omega) (by omega)) g)
theorem lp_sheet {x : List Nat} (hb : ∀ b ∈ x, b < 128) {u : Nat} (hu : u < 2) {bl : Nat} : ∀ (n i : Nat) (σ : St2), x.length = i + n → bl ≤ i → LineR σ x → LstR σ 3 24 300 (shW u (noC ((x.take i).drop bl))) →
    (∀ σ', LstR σ' 3 24 300 (shW u (noC (x.drop bl))) → Fq [24] [3] σ σ' → Ev lc G mMd_text 235 [some (.ref 22), none, none, none, none] [] σ' Q) →
    Ev lc G mMd_text 163 [some (.ref 22), none, none, some (.int (nI (256 * u))), some (.int (nI i))] [] σ Q := by
  intro n
  induction n with
  | zero =>
    intro i σ hn hi hx hs k
    obtain ⟨x1, x2, x3⟩ := hx
    rw [List.take_of_length_le (by omega)] at hs
    refine ev_ic_ge okMd_text rfl rfl trivial (fun g => ev_lv [some (.ref 22), none, none, none, none] ⟨rfl, trivial⟩ (k σ hs Fq.rf)) (fun g => absurd (by rw [x2]; exact nI_le (by omega) (by omega)) g)
  | succ n ih =>
    intro i σ hn hi hx hs k
    obtain ⟨x1, x2, x3⟩ := hx
    have hl : i < x.length := by omega
    have hbb := getD_lt (j := i) hb (by decide)
    have hv : σ.1 23 (nI i).toNatClampNeg = nI (x.getD i 0) := by rw [nI_cl (by omega)]; exact x3 i hl
    have vi : vp_in (nI i) 100 := vp_nI (by omega) (by decide)
    have hnx : noC ((x.take (i + 1)).drop bl) = noC ((x.take i).drop bl) ++ (if x.getD i 0 = 94 then [] else [x.getD i 0]) := by
      rw [td_snoc hi hl, noC_app]
      congr 1
      by_cases e : x.getD i 0 = 94
      · rw [if_pos e, e]; rfl
      · rw [if_neg e, noC_l e]
    refine ev_ic_ge okMd_text rfl rfl trivial (fun g => absurd g (by rw [x2]; exact nI_ge hl (by omega))) (fun g => ?_)
    refine ev_ic_eq okMd_text rfl rfl ⟨vi, trivial⟩ (fun g => ?_) (fun g => ?_)
    · rw [hv] at g
      have e : x.getD i 0 = 94 := (nI_eq (by omega) (by decide)).mp g
      rw [if_pos e, List.append_nil] at hnx
      refine ev_goto okMd_text rfl rfl trivial ?_
      rw [nI_add]
      exact ih (i + 1) σ (by omega) (by omega) ⟨x1, x2, x3⟩ (by rw [hnx]; exact hs) k
    · rw [hv] at g
      have e : ¬ x.getD i 0 = 94 := fun q => g (by rw [q])
      rw [if_neg e] at hnx
      obtain ⟨s1, s2, s3⟩ := hs
      have hsl : (shW u (noC ((x.take i).drop bl))).length ≤ 100 := by
        rw [shW_len]
        refine Nat.le_trans (List.length_filter_le _ _) ?_
        rw [List.length_drop, List.length_take]; omega
      have hnx2 : shW u (noC ((x.take (i + 1)).drop bl)) = shW u (noC ((x.take i).drop bl)) ++ [if x.getD i 0 = 32 then 32 else x.getD i 0 + 256 * u] := by
        rw [hnx]
        simp [shW]
      generalize shW u (noC ((x.take i).drop bl)) = sh at *
      have put : ∀ c : Nat, c = (if x.getD i 0 = 32 then 32 else x.getD i 0 + 256 * u) → Ev lc G mMd_text 218 [some (.ref 22), none, none, some (.int (nI (256 * u))), some (.int (nI i))] [.int (nI c), .int (σ.1 22 3), .ref 24] σ Q := by
        intro c hc
        rw [← hc] at hnx2
        rw [s2]
        refine ev_nop okMd_text rfl rfl ⟨vp_nI (by omega) (by decide), trivial⟩ ?_
        refine ev_goto okMd_text rfl rfl trivial ?_
        rw [nI_add, nI_cl (by omega)]
        have f1 : Fq [24] [3] σ (up2 (up2 σ.1 24 sh.length (nI c), σ.2).1 22 3 ((up2 σ.1 24 sh.length (nI c), σ.2).1 22 3 + nI 1), (up2 σ.1 24 sh.length (nI c), σ.2).2) := Fq.tr (Fq.u1 (by decide) (by decide)) (Fq.f1 (σ := (_, _)) (by decide))
        refine ih (i + 1) _ (by omega) (by omega) (LstR.fq ⟨x1, x2, x3⟩ f1 (by decide) (by decide) (by decide)) ?_ (fun σ' q1 q2 => k σ' q1 (f1.tr q2))
        rw [hnx2]
        refine ⟨by simp; omega, ?_, RowAt.push s3 ?_ (fun q hq => ?_)⟩
        · simp [up2, s2, nI_add]
        · simp [up2]
        · simp [up2, Nat.ne_of_lt hq]
      refine ev_ic_ne okMd_text rfl rfl ⟨vi, trivial⟩ (fun g2 => ?_) (fun g2 => ?_)
      · rw [hv] at g2
        have e2 : ¬ x.getD i 0 = 32 := fun q => g2 (by rw [q])
        refine ev_nop okMd_text rfl rfl ⟨vi, trivial⟩ ?_
        rw [hv, or256 hbb hu]
        exact put _ (by rw [if_neg e2])
      · have g2 : σ.1 23 (nI i).toNatClampNeg = nI 32 := by simpa using g2
        rw [hv] at g2
        have e2 : x.getD i 0 = 32 := (nI_eq (by omega) (by decide)).mp g2
        exact ev_goto okMd_text rfl rfl trivial (put 32 (by rw [if_pos e2]))
end RE
end
section
/-! ===== the reference: text, space ===== -/
section RT3
variable {lc : Launch} {G : GG} {σ : St2} {Q : Option Value → St2 → Prop} {m : MS} {pb : Nat}
theorem sp_putM {u : Nat} (hu : u < 2) {z : List Nat} (hz : ∀ b ∈ z, b < 128) (hc : RV σ m) (hs : LstR σ 3 24 300 (shW u z)) (hH : ∀ b ∈ mH m, b < 128) (hF : ∀ b ∈ mF m, b < 128) (hp : PB pb (mP m).1) (hpb : pb < 900000000) (k : ∀ σ', RV σ' (mPut u z m) → Fq [40] [24, 34, 35, 36, 42, 29] σ σ' → Q none σ') : Ev lc G mMd_put 0 [some (.ref 22), none] [] σ Q :=
  sp_putR (B := pb) (shW_lt hu hz) hc.2.1 hs hH hF (by omega) hp fun σ' q1 q2 => k σ' (hc.pg q2 (by decide) (by decide) q1) q2
theorem sp_space (hc : RV σ m) (hi : Inv pb m) (hpb : pb < 800000000) {n : Int32} (k : ∀ σ', RV σ' (sP (mBrk m) (pSkip (mH (mBrk m)) (mF (mBrk m)) n (mP (mBrk m)))) → Fq FS FF σ σ' → Q none σ') : Ev lc G mMd_space 0 [some (.ref 22), some (.int n), none] [] σ Q := by
  have i1 := mBrk_Inv hi
  refine ev_cv okMd_space okMd_breakNow rfl rfl trivial rfl (by decide +kernel) rfl rfl (sp_brkR hc hi (by omega) fun σ1 q1 q2 => ?_)
  refine sp_space4 (B := pb + 4000) q1.2.1 i1.2.2.2.1 i1.2.2.2.2 (by omega) i1.2.2.1.2.2.2.2.2.2.2.2 fun σ2 r1 r2 => ?_
  exact k σ2 (q1.pg r2 (by decide) (by decide) r1) ((q2.wk (by decide) (by decide)).tr (r2.wk (by decide) (by decide)))
theorem sp_text (hc : RV σ m) (hi : Inv pb m) (hpb : pb < 700000000) (k : ∀ σ', RV σ' (mTx m) → Fq FS FF σ σ' → Q none σ') : Ev lc G mMd_text 0 [some (.ref 22), none, none, none, none] [] σ Q := by
  have h100 := hc.1.1
  have hbl := pbl_len (mX m)
  have hx8 := hi.x128
  refine ev_nop okMd_text rfl rfl trivial (lp_blanks hc.1 hx8 (mX m).length 0 (by omega) (Nat.zero_le _) ?_)
  -- behind the BREAK
  have body : ∀ σ1, RV σ1 (mT1 m) → Inv (pb + 4000) (mT1 m) → mX (mT1 m) = mX m → Fq FS FF σ σ1 → Ev lc G mMd_text 53 [some (.ref 22), some (.int (nI (pbl (mX m) 0))), some (.int (b2 (decide (pbl (mX m) 0 = (mX m).length)))), none, none] [] σ1 Q := by
    have hk : ∀ σ', RV σ' (mT2 (mX m) (mT1 m)) → Fq FS FF σ σ' → Q none σ' := k
    generalize mT1 m = m1 at hk ⊢
    intro σ1 c1 i1 x1 f1
    obtain ⟨a1, a2, a3, a4, a5⟩ := i1
    refine ev_if_eq okMd_text rfl rfl trivial (fun g => ?_) (fun g => ?_)
    · rw [b2_0] at g
      have hne : ¬ pbl (mX m) 0 = (mX m).length := of_decide_eq_false g
      have e2 : mT2 (mX m) m1 = mT3 (tU (mP m1).1) ((mX m).drop (pbl (mX m) 0)) (sP m1 (tN (pbl (mX m) 0) (mP m1).1, (mP m1).2)) := if_neg hne
      rw [e2] at hk
      obtain ⟨h0, h1, h2, b0, b1, b2'⟩ := R3_cl a3.1
      obtain ⟨e5, -, f5⟩ := Rg_cl (N := (mP m1).1) a3.2.2.2.1 (by decide)
      -- THIS INDENT has grown
      have grown : ∀ σ2, RV σ2 (sN m1 2 (nI (min (cl (mP m1).1 0 - 1) (cl (mP m1).1 2 + pbl (mX m) 0)))) → Fq FS FF σ σ2 → Ev lc G mMd_text 105 [some (.ref 22), some (.int (nI (pbl (mX m) 0))), none, none, none] [] σ2 Q := by
        intro σ2 c2 f2
        have e32 : σ2.1 22 32 = nI (cl (mP m1).1 5) := (c2.2.1.1 5 (by decide)).trans e5
        have after : Ev lc G mMd_text 138 [some (.ref 22), some (.int (nI (pbl (mX m) 0))), none, some (.int (nI (256 * tU (mP m1).1))), none] [.int (nI (cl (mP m1).1 5 - 1)), .ref 22] σ2 Q := by
          have c3 : RV (up2 σ2.1 22 32 (nI (cl (mP m1).1 5 - 1)), σ2.2) (sP m1 (tN (pbl (mX m) 0) (mP m1).1, (mP m1).2)) := c2.set 5 (by decide) (nI (cl (mP m1).1 5 - 1))
          have f3 : Fq FS FF σ (up2 σ2.1 22 32 (nI (cl (mP m1).1 5 - 1)), σ2.2) := f2.tr (Fq.f1 (by decide))
          have i3 : Inv (pb + 4000) (sP m1 (tN (pbl (mX m) 0) (mP m1).1, (mP m1).2)) := ⟨a1, a2, tN_NI a3, a4, a5⟩
          have hu := tU_lt (mP m1).1
          generalize hS3 : (up2 σ2.1 22 32 (nI (cl (mP m1).1 5 - 1)), σ2.2) = σ3 at c3 f3
          generalize tU (mP m1).1 = u at hk hu ⊢
          have x3 : mX (sP m1 (tN (pbl (mX m) 0) (mP m1).1, (mP m1).2)) = mX m := x1
          generalize sP m1 (tN (pbl (mX m) 0) (mP m1).1, (mP m1).2) = M at c3 i3 hk x3
          have i3' := i3
          obtain ⟨g1, g2, g3, g4, g5⟩ := i3
          obtain ⟨e4, -, l4⟩ := Rg_cl (N := (mP M).1) g3.2.2.1 (by decide)
          have s31 : σ3.1 22 31 = nI (cl (mP M).1 4) := (c3.2.1.1 4 (by decide)).trans e4
          have s25 : σ3.1 22 25 = (mP M).1 7 := c3.2.1.1 7 (by decide)
          have hy8 : ∀ b ∈ (mX m).drop (pbl (mX m) 0), b < 128 := fun b hb => hx8 b (List.mem_of_mem_drop hb)
          have hz8 : ∀ b ∈ noC ((mX m).drop (pbl (mX m) 0)), b < 128 := fun b hb => hy8 b (List.mem_filter.mp hb).1
          unfold mT3 at hk
          -- the sheet, then PUT
          have sheet : (0 < cl (mP M).1 4 ∨ (mP M).1 7 = 0) → Ev lc G mMd_text 155 [some (.ref 22), some (.int (nI (pbl (mX m) 0))), none, some (.int (nI (256 * u))), none] [] σ3 Q := by
            intro hor
            refine ev_nop okMd_text rfl rfl trivial ?_
            have q4 : Fq [24] [3] σ3 (up2 σ3.1 22 3 (nI 0), σ3.2) := Fq.f1 (by decide)
            have c4 := c3.sheet q4
            have s4 : LstR (up2 σ3.1 22 3 (nI 0), σ3.2) 3 24 300 [] := ⟨by decide, up2_same σ3.1 22 3 _, RowAt.nil⟩
            generalize (up2 σ3.1 22 3 (nI 0), σ3.2) = σ4 at q4 c4 s4 ⊢
            have hx4 : LineR σ4 (mX m) := by rw [← x3]; exact c4.1
            refine ev_lv [some (.ref 22), none, none, some (.int (nI (256 * u))), some (.int (nI (pbl (mX m) 0)))] ⟨rfl, rfl, rfl, trivial⟩ (lp_sheet hx8 hu ((mX m).length - pbl (mX m) 0) (pbl (mX m) 0) σ4 (by omega) (Nat.le_refl _) hx4 (by rw [td_nil (Nat.le_refl _)]; exact s4) fun σ5 r1 r2 => ?_)
            have c5 := c4.sheet r2
            have f5 : Fq FS FF σ σ5 := (f3.tr (q4.wk (by decide) (by decide))).tr (r2.wk (by decide) (by decide))
            have t31 : σ5.1 22 31 = nI (cl (mP M).1 4) := (c5.2.1.1 4 (by decide)).trans e4
            refine ev_if_le okMd_text rfl rfl trivial (fun g => ?_) (fun g => ?_)
            · rw [t31] at g
              have hz : ¬ 0 < cl (mP M).1 4 := fun z => nI_nle z (by omega) g
              have h7 : (mP M).1 7 = 0 := hor.resolve_left hz
              rw [if_neg hz, if_pos h7] at hk
              refine ev_cv okMd_text okMd_put rfl rfl trivial rfl (by decide +kernel) rfl rfl (sp_putM (pb := pb + 4000) hu hz8 c5 r1 g4 g5 g3.2.2.2.2.2.2.2.2 (by omega) fun σ6 v1 v2 => ?_)
              exact ev_rv okMd_text rfl rfl trivial rfl (hk σ6 v1 (f5.tr (v2.wk (by decide) (by decide))))
            · rw [t31] at g
              have hz : 0 < cl (mP M).1 4 := by
                rcases Nat.eq_zero_or_pos (cl (mP M).1 4) with q | q
                · exact absurd (by rw [q]; decide) g
                · exact q
              rw [if_pos hz] at hk
              refine ev_cv okMd_text okMd_centre rfl rfl trivial rfl (by decide +kernel) rfl rfl (sp_centre c5 r1 (shW_lt hu hz8) g3.1 g3.2.2.1 hz fun σ6 v1 v2 v3 => ?_)
              rw [noE_shW hu, shW_len] at v1
              rw [noE_shW hu] at v2
              refine ev_cv okMd_text okMd_put rfl rfl trivial rfl (by decide +kernel) rfl rfl (sp_putM (pb := pb + 4000) hu (fun b hb => hz8 b (noE_mem hb)) v1 v2 g4 g5 ((g3.2.2.2.2.2.2.2.2.keep (by decide) (by decide)).keep (by decide) (by decide)) (by omega) fun σ7 w1 w2 => ?_)
              exact ev_rv okMd_text rfl rfl trivial rfl (hk σ7 w1 ((f5.tr (v3.wk (by decide) (by decide))).tr (w2.wk (by decide) (by decide))))
          refine ev_if_gt okMd_text rfl rfl trivial (fun g => ?_) (fun g => ?_)
          · rw [hS3, s31] at g
            rw [hS3]
            refine sheet (Or.inl ?_)
            rcases Nat.eq_zero_or_pos (cl (mP M).1 4) with q | q
            · rw [q] at g; exact absurd g (by decide)
            · exact q
          · rw [hS3, s31] at g
            rw [hS3]
            have hz : ¬ 0 < cl (mP M).1 4 := fun z => g (nI_lt (a := 0) z (by omega))
            refine ev_if_ne okMd_text rfl rfl trivial (fun g => ?_) (fun g => ?_)
            · rw [s25] at g
              rw [if_neg hz, if_neg g] at hk
              refine ev_cv okMd_text okMd_readWords rfl rfl trivial rfl (by decide +kernel) rfl rfl (sp_readWords (i := pbl (mX m) 0) hu (by rw [x3]; exact hbl) c3 i3' (by omega) fun σ4 r1 r2 => ?_)
              rw [x3] at r1
              exact ev_rv okMd_text rfl rfl trivial rfl (hk σ4 r1 (f3.tr r2))
            · have g : σ3.1 22 25 = 0 := by simpa using g
              rw [s25] at g
              exact sheet (Or.inr g)
        refine ev_if_le okMd_text rfl rfl trivial (fun g => ?_) (fun g => ?_)
        · rw [e32] at g
          have hz : cl (mP m1).1 5 = 0 := by
            rcases Nat.eq_zero_or_pos (cl (mP m1).1 5) with q | q
            · exact q
            · exact absurd g (nI_nle q (by omega))
          have tu : tU (mP m1).1 = 0 := if_pos hz
          rw [tu, hz] at after
          refine ev_nop okMd_text rfl rfl trivial ?_
          refine ev_if_le okMd_text rfl rfl trivial (fun g2 => ?_) (fun g2 => absurd g (by rw [e32] at g2; exact g2))
          exact ev_nop okMd_text rfl rfl trivial after
        · rw [e32] at g
          have hz : ¬ cl (mP m1).1 5 = 0 := fun q => g (by rw [q]; decide)
          have tu : tU (mP m1).1 = 1 := if_neg hz
          rw [tu] at after
          refine ev_goto okMd_text rfl rfl trivial ?_
          refine ev_if_le okMd_text rfl rfl trivial (fun g2 => absurd (by rw [e32] at g2; exact g2) g) (fun g2 => ?_)
          refine ev_goto okMd_text rfl rfl trivial ?_
          rw [e32, pk_sub (by omega)]
          exact after
      have e29 : σ1.1 22 29 = nI (cl (mP m1).1 2) := (c1.2.1.1 2 (by decide)).trans h2
      have e30 : σ1.1 22 30 = nI (cl (mP m1).1 0) := (c1.2.1.1 0 (by decide)).trans h0
      refine ev_if_le okMd_text rfl rfl trivial (fun g2 => ?_) (fun g2 => ?_)
      · have hz : pbl (mX m) 0 = 0 := by
          rcases Nat.eq_zero_or_pos (pbl (mX m) 0) with q | q
          · exact q
          · exact absurd g2 (nI_nle q (by omega))
        refine ev_lv [some (.ref 22), some (.int (nI (pbl (mX m) 0))), none, none, none] ⟨rfl, rfl, trivial⟩ (grown σ1 ?_ f1)
        rw [sN_id (by rw [h2, hz, Nat.add_zero, Nat.min_eq_right (by omega)])]
        exact c1
      · have last : ∀ v : Nat, v = min (cl (mP m1).1 0 - 1) (cl (mP m1).1 2 + pbl (mX m) 0) → Ev lc G mMd_text 102 [some (.ref 22), some (.int (nI (pbl (mX m) 0))), some (.int (b2 (decide (pbl (mX m) 0 = (mX m).length)))), none, none] [.int (nI v), .ref 22] σ1 Q := by
          intro v hv
          subst hv
          refine ev_nop okMd_text rfl rfl trivial ?_
          exact ev_lv [some (.ref 22), some (.int (nI (pbl (mX m) 0))), none, none, none] ⟨rfl, rfl, trivial⟩ (grown _ (c1.set 2 (by decide) _) (f1.tr (Fq.f1 (by decide))))
        refine ev_ic_le okMd_text rfl rfl trivial (fun g3 => ?_) (fun g3 => ?_)
        · rw [e29, e30, nI_add, pk_sub (by omega)] at g3
          have hle : cl (mP m1).1 2 + pbl (mX m) 0 ≤ cl (mP m1).1 0 - 1 := (nI_leI (by omega) (by omega)).mp g3
          refine ev_nop okMd_text rfl rfl trivial ?_
          rw [e29, nI_add]
          exact last _ (by rw [Nat.min_eq_right hle])
        · rw [e29, e30, nI_add, pk_sub (by omega)] at g3
          have hlt : ¬ cl (mP m1).1 2 + pbl (mX m) 0 ≤ cl (mP m1).1 0 - 1 := fun z => g3 (nI_le z (by omega))
          refine ev_goto okMd_text rfl rfl trivial ?_
          rw [e30, pk_sub (by omega)]
          exact last _ (by rw [Nat.min_eq_left (by omega)])
    · rw [b2_0] at g
      have he : pbl (mX m) 0 = (mX m).length := by simpa using g
      have e2 : mT2 (mX m) m1 = mPut 0 [] m1 := if_pos he
      rw [e2] at hk
      have q4 : Fq [24] [3] σ1 (up2 σ1.1 22 3 (nI 0), σ1.2) := Fq.f1 (by decide)
      refine ev_cv okMd_text okMd_put rfl rfl trivial rfl (by decide +kernel) rfl rfl (sp_putM (u := 0) (z := []) (pb := pb + 4000) (by decide) (fun b hb => absurd hb List.not_mem_nil) (c1.sheet q4) ⟨by decide, up2_same σ1.1 22 3 _, RowAt.nil⟩ a4 a5 a3.2.2.2.2.2.2.2.2 (by omega) fun σ2 r1 r2 => ?_)
      exact ev_rv okMd_text rfl rfl trivial rfl (hk σ2 r1 ((f1.tr (q4.wk (by decide) (by decide))).tr (r2.wk (by decide) (by decide))))
  have brk : (0 < pbl (mX m) 0 ∨ (mX m).length = 0) → Ev lc G mMd_text 49 [some (.ref 22), some (.int (nI (pbl (mX m) 0))), some (.int (b2 (decide (pbl (mX m) 0 = (mX m).length)))), none, none] [] σ Q := by
    intro h
    have e : mT1 m = mBrk m := if_pos h
    rw [e] at body
    exact ev_cv okMd_text okMd_breakNow rfl rfl trivial rfl (by decide +kernel) rfl rfl (sp_brkR hc hi (by omega) fun σ1 q1 q2 => body σ1 q1 (mBrk_Inv hi) (mBrk_X m) (q2.wk (by decide) (by decide)))
  have test : ∀ f : Bool, f = decide (pbl (mX m) 0 = (mX m).length) → Ev lc G mMd_text 40 [some (.ref 22), some (.int (nI (pbl (mX m) 0))), none, none, none] [.int (b2 f)] σ Q := by
    intro f hf
    subst hf
    refine ev_if_gt okMd_text rfl rfl trivial (fun g => ?_) (fun g => ?_)
    · refine brk (Or.inl ?_)
      rcases Nat.eq_zero_or_pos (pbl (mX m) 0) with q | q
      · rw [q] at g; exact absurd g (by decide)
      · exact q
    · have hz : ¬ 0 < pbl (mX m) 0 := fun z => g (nI_lt (a := 0) z (by omega))
      refine ev_if_eq okMd_text rfl rfl trivial (fun g2 => ?_) (fun g2 => ?_)
      · rw [b2_0] at g2
        have hne := of_decide_eq_false g2
        have e : mT1 m = m := if_neg (fun z => z.elim hz (fun q => hne (by omega)))
        rw [e] at body
        exact body σ hc (hi.mono (by omega)) rfl Fq.rf
      · rw [b2_0] at g2
        have he : pbl (mX m) 0 = (mX m).length := by simpa using g2
        exact brk (Or.inr (by omega))
  refine ev_ic_ne okMd_text rfl rfl trivial (fun g => ?_) (fun g => ?_)
  · rw [hc.1.2.1] at g
    exact ev_nop okMd_text rfl rfl trivial (test false (decide_eq_false (fun z => g (by rw [z]))).symm)
  · have g : nI (pbl (mX m) 0) = σ.1 22 1 := by simpa using g
    rw [hc.1.2.1] at g
    exact ev_goto okMd_text rfl rfl trivial (test true (decide_eq_true ((nI_eq (by omega) (by omega)).mp g)).symm)
end RT3
end
section
/-! ===== the reference: commands ===== -/
abbrev RC : List Nat := [22, 23, 24, 25, 26, 27, 28, 29, 30, 31, 32, 33, 34, 35, 36, 37, 38, 39, 40, 41, 42]
theorem Fq.fr {S F : List Nat} {σ σ' : St2} (h : Fq S F σ σ') (hs : ∀ c ∈ S, c ∈ RC) : Fr RC σ σ' := fun c hc => h.1 c (fun z => hc (hs c z)) (fun e => hc (by rw [e]; decide))
theorem brkL_9 {hd ft : List Nat} {le : Nat → Nat → List Nat} : ∀ (r : List (Nat × Nat)) (s : PS) (b : Nat), NI b s.1 → ¬ s.1 9 = 0 → ¬ (brkL hd ft le r s).1 9 = 0
  | [], s, b, _, h => h
  | q :: r, s, b, hn, h => by
    rw [brkL]
    refine brkL_9 r _ (b + 1) (pLine_NI (hd := hd) (ft := ft) (o := emit (pOpen hd false s).2 (le q.1 q.2)) (e := false) hn.1.two hn.2) ?_
    obtain ⟨v, e9, -, v9⟩ := pOpen_9 (hd := hd) (e := false) hn.2
    obtain ⟨sp, e3, s1, s2⟩ := hn.2.1
    have e : (pClose ft ((pOpen hd false s).1, emit (pOpen hd false s).2 (le q.1 q.2))).1 9 = (pOpen hd false s).1 9 + (pOpen hd false s).1 3 := by simp [pClose, pDown, upd]
    rw [e, e9, pOpen_keep hd false s (j := 3) (by decide), e3, nI_add]
    exact nI_ne0 (by omega) (by omega)
theorem mBrk_9 {pb : Nat} {m : MS} (hi : Inv pb m) (h : ¬ (mP m).1 9 = 0) : ¬ (mP (mBrk m)).1 9 = 0 := by
  unfold mBrk
  split
  · exact h
  · exact brkL_9 _ _ pb hi.2.2.1 h
theorem RV.hf {S F : List Nat} {σ σ' : St2} {m : MS} {a b : List Nat} (h : RV σ m) (hf : Fq S F σ σ') (hs : ∀ c ∈ S, c ∈ [41, 42]) (hF : ∀ f ∈ F, f ∈ [38, 40]) (h1 : LstR σ' 38 41 100 a) (h2 : LstR σ' 40 42 100 b) : RV σ' (m.1, m.2.1, m.2.2.1, (a, b), m.2.2.2.2) := by
  have hf := hf.wk hs hF
  obtain ⟨c1, ⟨d1, d2, d3, d4⟩, c3, ⟨cnt, c4⟩, c5, c6⟩ := h
  refine ⟨c1.fq hf (by decide) (by decide) (by decide), ⟨fun k hk => ?_, h1, h2, d4.fq hf (by decide) (by decide) (by decide)⟩, c3.fq hf (by decide) (by decide) (by decide), ⟨cnt, c4.fq hf (by decide) (by decide)⟩, by rw [hf.g2 (by decide)]; exact c5, by rw [hf.g1 (by decide)]; exact c6⟩
  have ho := fm_out hk
  rw [hf.g1 (fun z => ho (by simp only [List.mem_cons, List.not_mem_nil, or_false] at z ⊢; omega))]
  exact d1 k hk
section RC2
variable {lc : Launch} {G : GG} {σ : St2} {Q : Option Value → St2 → Prop} {m : MS} {pb : Nat}
theorem sp_command2 (hc : RV σ m) (hcm : RCmd σ (mX m)) (hi : Inv pb m) (hpb : pb < 600000000)
    (n1 : ¬ cname (mX m) = 25202) (n2 : ¬ cname (mX m) = 26217) (n3 : ¬ cname (mX m) = 28262) (n4 : ¬ cname (mX m) = 27253) (n5 : ¬ cname (mX m) = 28257) (n6 : ¬ cname (mX m) = 27763) (n7 : ¬ cname (mX m) = 26990) (n8 : ¬ cname (mX m) = 29801) (n9 : ¬ cname (mX m) = 29293)
    (k : ∀ σ', RV σ' (mCm m) → Fr RC σ σ' → Q none σ') : Ev lc G mMd_command2 0 [some (.ref 22), some (.int (nI (cname (mX m))))] [] σ Q := by
  have hx8 := hi.x128
  have h100 := hc.1.1
  have hlt := cname_lt hx8
  have hrs := rs_le h100
  have fin : ∀ σ', RV σ' (mCm m) → Fr RC σ σ' → ∀ l1, Ev lc G mMd_command2 223 [some (.ref 22), l1] [] σ' Q := fun σ' a b l1 => ev_rv okMd_command2 rfl rfl trivial rfl (k σ' a b)
  have nb : ∀ c, cname (mX m) = c → ¬ c = 25200 → ¬ c = 25445 → ¬ c = 29552 → brF (cname (mX m)) (mP m).1 = false := by
    intro c hcc h1 h2 h3
    unfold brF
    rw [if_neg (by omega)]
    exact decide_eq_false (by omega)
  by_cases c1 : cname (mX m) = 25445
  · have em : mCm m = sN (mBrk m) 4 (clp (nI 0) (nI 99) (wv (mX m) ((mP (mBrk m)).1 4) (nI 1))) := by
      unfold mCm mOb
      rw [c1, if_pos (show brF 25445 (mP m).1 = true from rfl)]
      rfl
    refine ev_look (off := 67) 68 okMd_command2 rfl rfl trivial (by rw [c1]; rfl) rfl ?_
    refine ev_cv okMd_command2 okMd_breakNow rfl rfl trivial rfl (by decide +kernel) rfl rfl (sp_brkR hc hi (by omega) fun σ1 q1 q2 => ?_)
    refine ev_cv okMd_command2 okMd_set rfl rfl trivial rfl (by decide +kernel) rfl rfl ?_
    rw [show σ1.1 22 31 = (mP (mBrk m)).1 4 from q1.2.1.1 4 (by decide)]
    refine sp_setR (hcm.fq q2 (by decide)) (ev_goto okMd_command2 rfl rfl trivial (fin _ ?_ ((q2.fr (by decide)).tr (Fr.u1 (by decide))) _))
    rw [em]
    exact q1.set 4 (by decide) _
  by_cases c2 : cname (mX m) = 30060
  · have em : mCm m = sN m 5 (clp (nI 0) (nI 99) (wv (mX m) ((mP m).1 5) (nI 1))) := by
      unfold mCm
      rw [if_neg (by rw [nb _ c2 (by decide) (by decide) (by decide)]; decide)]
      unfold mOb
      rw [c2]
      rfl
    refine ev_look (off := 90) 91 okMd_command2 rfl rfl trivial (by rw [c2]; rfl) rfl ?_
    refine ev_cv okMd_command2 okMd_set rfl rfl trivial rfl (by decide +kernel) rfl rfl ?_
    rw [show σ.1 22 32 = (mP m).1 5 from hc.2.1.1 5 (by decide)]
    refine sp_setR hcm (ev_goto okMd_command2 rfl rfl trivial (fin _ ?_ (Fr.u1 (by decide)) _))
    rw [em]
    exact hc.set 5 (by decide) _
  by_cases c3 : cname (mX m) = 29552
  · have em : mCm m = sP (mBrk m) (pSkip (mH (mBrk m)) (mF (mBrk m)) (clp (nI 0) (nI 99) (wv (mX m) (nI 0) (nI 1))) (mP (mBrk m))) := by
      unfold mCm mOb
      rw [c3, if_pos (show brF 29552 (mP m).1 = true from rfl)]
      rfl
    refine ev_look (off := 109) 110 okMd_command2 rfl rfl trivial (by rw [c3]; rfl) rfl ?_
    refine ev_cv okMd_command2 okMd_set rfl rfl trivial rfl (by decide +kernel) rfl rfl (sp_setR hcm ?_)
    refine ev_cv okMd_command2 okMd_space rfl rfl trivial rfl (by decide +kernel) rfl rfl (sp_space hc hi (by omega) fun σ1 q1 q2 => ?_)
    refine ev_goto okMd_command2 rfl rfl trivial (fin σ1 ?_ (q2.fr (by decide)) _)
    rw [em]
    exact q1
  by_cases c4 : cname (mX m) = 25200
  · refine ev_look (off := 125) 126 okMd_command2 rfl rfl trivial (by rw [c4]; rfl) rfl ?_
    have last : ∀ (m1 : MS) (σ1 : St2), RV σ1 m1 → RCmd σ1 (mX m) → Fr RC σ σ1 → mCm m = sN m1 11 (clp (nI 1) (nI 999) (wv (mX m) (m1.2.2.1.1 11) (m1.2.2.1.1 11))) → Ev lc G mMd_command2 139 [some (.ref 22), some (.int (nI (cname (mX m))))] [] σ1 Q := by
      intro m1 σ1 d1 r1 f1 e1
      refine ev_cv okMd_command2 okMd_set rfl rfl trivial rfl (by decide +kernel) rfl rfl ?_
      rw [show σ1.1 22 36 = m1.2.2.1.1 11 from d1.2.1.1 11 (by decide)]
      refine sp_setR r1 (ev_goto okMd_command2 rfl rfl trivial (fin _ ?_ (f1.tr (Fr.u1 (by decide))) _))
      rw [e1]
      exact d1.set 11 (by decide) _
    have e34 : σ.1 22 34 = (mP m).1 9 := hc.2.1.1 9 (by decide)
    obtain ⟨e9, -, l9⟩ := Rg_cl (N := (mP m).1) hi.2.2.1.2.2.2.2.2.2.2.1 (by decide)
    refine ev_if_le okMd_command2 rfl rfl trivial (fun g => ?_) (fun g => ?_)
    · rw [e34, e9] at g
      have hz : (mP m).1 9 = 0 := by
        rcases Nat.eq_zero_or_pos (cl (mP m).1 9) with q | q
        · rw [e9, q]; rfl
        · exact absurd g (nI_nle q (by omega))
      refine last m σ hc hcm Fr.rf ?_
      unfold mCm
      have hb : brF (cname (mX m)) (mP m).1 = false := by
        unfold brF
        rw [if_pos c4]
        exact decide_eq_false (fun z => z hz)
      rw [if_neg (by rw [hb]; decide)]
      have eo : mOb (mX m) m = bpM (mX m) m := by unfold mOb; rw [c4]; rfl
      rw [eo]
      unfold bpM
      rw [if_pos hz]
    · rw [e34, e9] at g
      have hz : ¬ (mP m).1 9 = 0 := fun q => g (by rw [← e9, q]; decide)
      refine ev_cv okMd_command2 okMd_space rfl rfl trivial rfl (by decide +kernel) rfl rfl (sp_space hc hi (by omega) fun σ1 q1 q2 => ?_)
      refine last _ σ1 q1 (hcm.fq q2 (by decide)) (q2.fr (by decide)) ?_
      unfold mCm
      have hb : brF (cname (mX m)) (mP m).1 = true := by
        unfold brF
        rw [if_pos c4]
        exact decide_eq_true hz
      rw [if_pos hb]
      have eo : mOb (mX m) (mBrk m) = bpM (mX m) (mBrk m) := by unfold mOb; rw [c4]; rfl
      rw [eo]
      unfold bpM
      rw [if_neg (mBrk_9 hi hz)]
  have nbr : brF (cname (mX m)) (mP m).1 = false := nb _ rfl c4 c1 c3
  have ec : mCm m = mOb (mX m) m := by
    unfold mCm
    rw [if_neg (by rw [nbr]; decide)]
  rw [ec] at fin
  by_cases c5 : cname (mX m) = 28780
  · refine ev_look (off := 161) 162 okMd_command2 rfl rfl trivial (by rw [c5]; rfl) rfl ?_
    refine ev_cv okMd_command2 okMd_set rfl rfl trivial rfl (by decide +kernel) rfl rfl ?_
    rw [show σ.1 22 33 = (mP m).1 6 from hc.2.1.1 6 (by decide)]
    refine sp_setR hcm (ev_goto okMd_command2 rfl rfl trivial (fin _ ?_ (Fr.u1 (by decide)) _))
    rw [show mOb (mX m) m = sN m 6 (clp (nI 8) (nI 99) (wv (mX m) ((mP m).1 6) (nI 24))) by unfold mOb; rw [c5]; rfl]
    exact hc.set 6 (by decide) _
  by_cases c6 : cname (mX m) = 26725
  · refine ev_look (off := 182) 183 okMd_command2 rfl rfl trivial (by rw [c6]; rfl) rfl ?_
    refine ev_cv okMd_command2 okMd_copyRest rfl rfl trivial rfl (by decide +kernel) rfl rfl (sp_copyRest (Or.inl rfl) hc.1 hcm.1 fun σ1 q1 q2 => ?_)
    have f2 : Fq [41] [38] σ (up2 σ1.1 22 38 (nI ((mX m).drop (rs (mX m))).length), σ1.2) := (q2.wk (by decide) (by decide)).tr (Fq.f1 (by decide))
    refine ev_goto okMd_command2 rfl rfl trivial (fin _ ?_ (f2.fr (by decide)) _)
    rw [show mOb (mX m) m = (m.1, m.2.1, m.2.2.1, ((mX m).drop (rs (mX m)), mF m), m.2.2.2.2) by unfold mOb; rw [c6]; rfl]
    refine hc.hf f2 (by decide) (by decide) ⟨by rw [List.length_drop]; omega, up2_same σ1.1 22 38 _, fun j hj => ?_⟩ (hc.2.1.2.2.1.fq f2 (by decide) (by decide) (by decide))
    rw [← q1 j hj]
    exact congrFun (up2_ne σ1.1 38 (nI ((mX m).drop (rs (mX m))).length) (show 41 ≠ 22 by decide)) j
  by_cases c7 : cname (mX m) = 26223
  · refine ev_look (off := 197) 198 okMd_command2 rfl rfl trivial (by rw [c7]; rfl) rfl ?_
    refine ev_cv okMd_command2 okMd_copyRest rfl rfl trivial rfl (by decide +kernel) rfl rfl (sp_copyRest (Or.inr rfl) hc.1 hcm.1 fun σ1 q1 q2 => ?_)
    have f2 : Fq [42] [40] σ (up2 σ1.1 22 40 (nI ((mX m).drop (rs (mX m))).length), σ1.2) := (q2.wk (by decide) (by decide)).tr (Fq.f1 (by decide))
    refine ev_goto okMd_command2 rfl rfl trivial (fin _ ?_ (f2.fr (by decide)) _)
    rw [show mOb (mX m) m = (m.1, m.2.1, m.2.2.1, (mH m, (mX m).drop (rs (mX m))), m.2.2.2.2) by unfold mOb; rw [c7]; rfl]
    refine hc.hf f2 (by decide) (by decide) (hc.2.1.2.1.fq f2 (by decide) (by decide) (by decide)) ⟨by rw [List.length_drop]; omega, up2_same σ1.1 22 40 _, fun j hj => ?_⟩
    rw [← q1 j hj]
    exact congrFun (up2_ne σ1.1 40 (nI ((mX m).drop (rs (mX m))).length) (show 42 ≠ 22 by decide)) j
  refine ev_look (off := 212) 213 okMd_command2 rfl rfl trivial ?_ rfl ?_
  · rw [nI_int (by omega)]
    show Op.lookupswitch.offset [(25200, 125), (25445, 67), (26223, 197), (26725, 182), (28780, 161), (29552, 109), (30060, 90)] 212 (cname (mX m) : Int) = 212
    simp only [Op.lookupswitch.offset]
    repeat rw [if_neg (by omega)]
  · have f : Fq [] [41] σ (up2 σ.1 22 41 (σ.1 22 41 + nI 1), σ.2) := Fq.f1 (by decide)
    refine ev_nop okMd_command2 rfl rfl trivial (fin _ ?_ (f.fr (by decide)) _)
    have em : mOb (mX m) m = (m.1, m.2.1, m.2.2.1, m.2.2.2.1, m.2.2.2.2.1, mQ m + nI 1) := by
      unfold mOb
      rw [if_neg n1, if_neg n2, if_neg n3, if_neg n4, if_neg n5, if_neg n6, if_neg n7, if_neg n8, if_neg n9, if_neg c1, if_neg c2, if_neg c3, if_neg c4, if_neg c5, if_neg c6, if_neg c7]
    rw [em]
    obtain ⟨a1, a2, a3, ⟨cnt, a4⟩, a5, a6⟩ := hc
    refine ⟨a1.fq f (by decide) (by decide) (by decide), a2.fqs f (by decide) (by decide), a3.fq f (by decide) (by decide) (by decide), ⟨cnt, a4.fq f (by decide) (by decide)⟩, a5, ?_⟩
    show up2 σ.1 22 41 (σ.1 22 41 + nI 1) 22 41 = _
    rw [up2_same, a6]
/-- where the number begins -/
theorem lp_rest {x : List Nat} (hb : ∀ b ∈ x, b < 128) : ∀ (n i : Nat) (σ : St2) (c : Int32), x.length ≤ i + n → i ≤ 200 → LineR σ x → σ.1 22 44 = nI i → (∀ σ', σ'.1 22 44 = nI (pbl x i) → Fq [] [44] σ σ' → Ev lc G mMd_command 73 [some (.ref 22), some (.int c)] [] σ' Q) → Ev lc G mMd_command 35 [some (.ref 22), some (.int c)] [] σ Q := by
  intro n
  induction n with
  | zero =>
    intro i σ c hn hi hx h4 k
    rw [pbl_end (by omega)] at k
    exact ev_ic_ge okMd_command rfl rfl trivial (fun g => k σ h4 Fq.rf) (fun g => absurd (by rw [hx.2.1, h4]; exact nI_le (by omega) (by omega)) g)
  | succ n ih =>
    intro i σ c hn hi hx h4 k
    have h100 := hx.1
    by_cases hl : i < x.length
    · have hbb := getD_lt (j := i) hb (by decide)
      have hv : σ.1 23 (σ.1 22 44).toNatClampNeg = nI (x.getD i 0) := by rw [h4, nI_cl (by omega)]; exact hx.2.2 i hl
      refine ev_ic_ge okMd_command rfl rfl trivial (fun g => absurd g (by rw [hx.2.1, h4]; exact nI_ge hl (by omega))) (fun g => ?_)
      refine ev_ic_ne okMd_command rfl rfl ⟨by rw [h4]; exact vp_nI (by omega) (by decide), trivial⟩ (fun g => ?_) (fun g => ?_)
      · rw [hv] at g
        have e : x.getD i 0 ≠ 32 := fun q => g (by rw [q])
        rw [pbl_stop hl e] at k
        exact k σ h4 Fq.rf
      · have g : σ.1 23 (σ.1 22 44).toNatClampNeg = nI 32 := by simpa using g
        rw [hv] at g
        have e : x.getD i 0 = 32 := (nI_eq (by omega) (by decide)).mp g
        rw [pbl_hit hl e] at k
        refine ev_goto okMd_command rfl rfl trivial ?_
        rw [h4, nI_add]
        have f : Fq [] [44] σ (up2 σ.1 22 44 (nI (i + 1)), σ.2) := Fq.f1 (by decide)
        exact ih (i + 1) _ c (by omega) (by omega) (hx.fq f (by decide) (by decide) (by decide)) (up2_same σ.1 22 44 _) (fun σ' q1 q2 => k σ' q1 (f.tr q2))
    · rw [pbl_end (by omega)] at k
      exact ev_ic_ge okMd_command rfl rfl trivial (fun g => k σ h4 Fq.rf) (fun g => absurd (by rw [hx.2.1, h4]; exact nI_le (by omega) (by omega)) g)
theorem RV.cm {F : List Nat} {σ σ' : St2} {m : MS} (h : RV σ m) (hf : Fq [] F σ σ') (hF : ∀ f ∈ F, f ∈ [44, 45, 46, 47]) : RV σ' m := by
  have hf := hf.wk (S' := []) (by decide) hF
  exact h.pg hf (by decide) (by decide) (h.2.1.fqs hf (by decide) (by decide))
theorem sp_command (hc : RV σ m) (hi : Inv pb m) (hpb : pb < 600000000) (k : ∀ σ', RV σ' (mCm m) → Fr RC σ σ' → Q none σ') : Ev lc G mMd_command 0 [some (.ref 22), none] [] σ Q := by
  have hx8 := hi.x128
  have h100 := hc.1.1
  have hlt := cname_lt hx8
  have b1 := getD_lt (j := 1) hx8 (by decide)
  have b2' := getD_lt (j := 2) hx8 (by decide)
  -- behind the name
  have main : Ev lc G mMd_command 29 [some (.ref 22), none] [.int (nI (cname (mX m)))] σ Q := by
    refine ev_nop okMd_command rfl rfl trivial ?_
    have f0 : Fq [] [44] σ (up2 σ.1 22 44 (nI 3), σ.2) := Fq.f1 (by decide)
    refine lp_rest hx8 (mX m).length 3 _ (nI (cname (mX m))) (by omega) (by decide) (hc.1.fq f0 (by decide) (by decide) (by decide)) (up2_same σ.1 22 44 _) fun σ1 q1 q2 => ?_
    have d1 := hc.cm (f0.tr q2) (by decide)
    refine ev_cv okMd_command okMd_readNumber rfl rfl trivial rfl (by decide +kernel) rfl rfl (sp_readNumberR hx8 d1.1 q1 fun σ2 r1 r2 => ?_)
    have d2 := d1.cm r2 (by decide)
    have F2 : Fr RC σ σ2 := ((f0.tr q2).fr (by decide)).tr (r2.fr (by decide))
    have fin : ∀ σ', RV σ' (mCm m) → Fr RC σ2 σ' → ∀ l1, Ev lc G mMd_command 342 [some (.ref 22), l1] [] σ' Q := fun σ' a b l1 => ev_rv okMd_command rfl rfl trivial rfl (k σ' a (F2.tr b))
    obtain ⟨h0, h1, h2, z0, z1, z2⟩ := R3_cl hi.2.2.1.1
    have hn : ∀ c, cname (mX m) = c → 0 < c → (mX m).getD 1 0 = c / 256 ∧ 2 < (mX m).length := by
      intro c hcc h0
      unfold cname at hcc
      split at hcc
      · omega
      · omega
    have ln1 : ∀ σ' m1, RV σ' m1 → mX m1 = mX m → 2 < (mX m).length → σ'.1 23 (nI 1).toNatClampNeg = nI ((mX m).getD 1 0) := by
      intro σ' m1 d e hl
      have := d.1.2.2 1 (by rw [e]; omega)
      rw [e] at this
      exact this
    by_cases c1 : cname (mX m) = 25202
    · refine ev_look (off := 82) 160 okMd_command rfl rfl trivial (by rw [c1]; rfl) rfl ?_
      refine ev_cv okMd_command okMd_breakNow rfl rfl trivial rfl (by decide +kernel) rfl rfl (sp_brkR d2 hi (by omega) fun σ3 s1 s2 => ?_)
      refine ev_goto okMd_command rfl rfl trivial (fin σ3 ?_ (s2.fr (by decide)) _)
      have em : mCm m = mBrk m := by
        unfold mCm mOb
        rw [c1, if_pos (show brF 25202 (mP m).1 = true from rfl)]
        rfl
      rw [em]
      exact s1
    by_cases c2 : cname (mX m) = 26217
    · refine ev_look (off := 89) 167 okMd_command rfl rfl trivial (by rw [c2]; rfl) rfl ?_
      refine ev_cv okMd_command okMd_breakNow rfl rfl trivial rfl (by decide +kernel) rfl rfl (sp_brkR d2 hi (by omega) fun σ3 s1 s2 => ?_)
      obtain ⟨e1, e2⟩ := hn _ c2 (by decide)
      have lv := ln1 σ3 (mBrk m) s1 (mBrk_X m) e2
      rw [e1] at lv
      refine ev_ic_ne okMd_command rfl rfl ⟨vp_nI (by decide) (by decide), trivial⟩ (fun g => absurd lv g) (fun g => ?_)
      refine ev_goto okMd_command rfl rfl trivial (ev_goto okMd_command rfl rfl ⟨Or.inr rfl, trivial⟩ (fin _ ?_ ((s2.fr (by decide)).tr (Fr.u1 (by decide))) _))
      have em : mCm m = sN (mBrk m) 7 (nI 1) := by
        unfold mCm mOb
        rw [c2, if_pos (show brF 26217 (mP m).1 = true from rfl)]
        rfl
      rw [em]
      exact s1.set 7 (by decide) _
    by_cases c3 : cname (mX m) = 28262
    · refine ev_look (off := 89) 167 okMd_command rfl rfl trivial (by rw [c3]; rfl) rfl ?_
      refine ev_cv okMd_command okMd_breakNow rfl rfl trivial rfl (by decide +kernel) rfl rfl (sp_brkR d2 hi (by omega) fun σ3 s1 s2 => ?_)
      obtain ⟨e1, e2⟩ := hn _ c3 (by decide)
      have lv := ln1 σ3 (mBrk m) s1 (mBrk_X m) e2
      rw [e1] at lv
      refine ev_ic_ne okMd_command rfl rfl ⟨vp_nI (by decide) (by decide), trivial⟩ (fun g => ?_) (fun g => ?_)
      · refine ev_nop okMd_command rfl rfl trivial (ev_goto okMd_command rfl rfl ⟨Or.inl rfl, trivial⟩ (fin _ ?_ ((s2.fr (by decide)).tr (Fr.u1 (by decide))) _))
        have em : mCm m = sN (mBrk m) 7 (nI 0) := by
          unfold mCm mOb
          rw [c3, if_pos (show brF 28262 (mP m).1 = true from rfl)]
          rfl
        rw [em]
        exact s1.set 7 (by decide) _
      · have g : σ3.1 23 (nI 1).toNatClampNeg = nI 102 := by simpa using g
        rw [lv] at g
        exact absurd g (by decide)
    have nb : ¬ cname (mX m) = 25200 → ¬ cname (mX m) = 25445 → ¬ cname (mX m) = 29552 → ¬ cname (mX m) = 29801 → mCm m = mOb (mX m) m := by
      intro p1 p2 p3 p4
      have : brF (cname (mX m)) (mP m).1 = false := by
        unfold brF
        rw [if_neg p1]
        exact decide_eq_false (by omega)
      unfold mCm
      rw [if_neg (by rw [this]; decide)]
    by_cases c4 : cname (mX m) = 27253
    · refine ev_look (off := 116) 194 okMd_command rfl rfl trivial (by rw [c4]; rfl) rfl ?_
      obtain ⟨e1, e2⟩ := hn _ c4 (by decide)
      have lv := ln1 σ2 m d2 rfl e2
      rw [e1] at lv
      refine ev_ic_ne okMd_command rfl rfl ⟨vp_nI (by decide) (by decide), trivial⟩ (fun g => absurd lv g) (fun g => ?_)
      refine ev_goto okMd_command rfl rfl trivial (ev_goto okMd_command rfl rfl ⟨Or.inr rfl, trivial⟩ (fin _ ?_ (Fr.u1 (by decide)) _))
      rw [nb (by omega) (by omega) (by omega) (by omega), show mOb (mX m) m = sN m 8 (nI 1) by unfold mOb; rw [c4]; rfl]
      exact d2.set 8 (by decide) _
    by_cases c5 : cname (mX m) = 28257
    · refine ev_look (off := 116) 194 okMd_command rfl rfl trivial (by rw [c5]; rfl) rfl ?_
      obtain ⟨e1, e2⟩ := hn _ c5 (by decide)
      have lv := ln1 σ2 m d2 rfl e2
      rw [e1] at lv
      refine ev_ic_ne okMd_command rfl rfl ⟨vp_nI (by decide) (by decide), trivial⟩ (fun g => ?_) (fun g => ?_)
      · refine ev_nop okMd_command rfl rfl trivial (ev_goto okMd_command rfl rfl ⟨Or.inl rfl, trivial⟩ (fin _ ?_ (Fr.u1 (by decide)) _))
        rw [nb (by omega) (by omega) (by omega) (by omega), show mOb (mX m) m = sN m 8 (nI 0) by unfold mOb; rw [c5]; rfl]
        exact d2.set 8 (by decide) _
      · have g : σ2.1 23 (nI 1).toNatClampNeg = nI 106 := by simpa using g
        rw [lv] at g
        exact absurd g (by decide)
    by_cases c6 : cname (mX m) = 27763
    · refine ev_look (off := 139) 217 okMd_command rfl rfl trivial (by rw [c6]; rfl) rfl ?_
      refine ev_cv okMd_command okMd_set rfl rfl trivial rfl (by decide +kernel) rfl rfl ?_
      rw [show σ2.1 22 27 = (mP m).1 3 from d2.2.1.1 3 (by decide)]
      refine sp_setR r1 (ev_goto okMd_command rfl rfl trivial (fin _ ?_ (Fr.u1 (by decide)) _))
      rw [nb (by omega) (by omega) (by omega) (by omega), show mOb (mX m) m = sN m 3 (clp (nI 1) (nI 9) (wv (mX m) ((mP m).1 3) (nI 1))) by unfold mOb; rw [c6]; rfl]
      exact d2.set 3 (by decide) _
    by_cases c7 : cname (mX m) = 26990
    · refine ev_look (off := 158) 236 okMd_command rfl rfl trivial (by rw [c7]; rfl) rfl ?_
      refine ev_cv okMd_command okMd_set rfl rfl trivial rfl (by decide +kernel) rfl rfl ?_
      rw [show σ2.1 22 28 = (mP m).1 1 from d2.2.1.1 1 (by decide), show σ2.1 22 30 = (mP m).1 0 from d2.2.1.1 0 (by decide)]
      refine sp_setR r1 (ev_goto okMd_command rfl rfl trivial ?_)
      have d3 := d2.set 1 (by decide) (clp (nI 0) ((mP m).1 0 - nI 1) (wv (mX m) ((mP m).1 1) (nI 0)))
      have d4 := d3.set 2 (by decide) (clp (nI 0) ((mP m).1 0 - nI 1) (wv (mX m) ((mP m).1 1) (nI 0)))
      have e28 : (up2 σ2.1 22 28 (clp (nI 0) ((mP m).1 0 - nI 1) (wv (mX m) ((mP m).1 1) (nI 0))), σ2.2).1 22 28 = clp (nI 0) ((mP m).1 0 - nI 1) (wv (mX m) ((mP m).1 1) (nI 0)) := up2_same σ2.1 22 28 _
      rw [e28]
      refine fin _ ?_ (Fr.tr (Fr.u1 (by decide)) (Fr.u1 (σ := (_, _)) (by decide))) _
      rw [nb (by omega) (by omega) (by omega) (by omega), show mOb (mX m) m = sP m (inN (mX m) (mP m).1, (mP m).2) by unfold mOb; rw [c7]; rfl]
      exact d4
    by_cases c8 : cname (mX m) = 29801
    · refine ev_look (off := 189) 267 okMd_command rfl rfl trivial (by rw [c8]; rfl) rfl ?_
      refine ev_cv okMd_command okMd_breakNow rfl rfl trivial rfl (by decide +kernel) rfl rfl (sp_brkR d2 hi (by omega) fun σ3 s1 s2 => ?_)
      refine ev_cv okMd_command okMd_set rfl rfl trivial rfl (by decide +kernel) rfl rfl ?_
      rw [show σ3.1 22 29 = (mP (mBrk m)).1 2 from s1.2.1.1 2 (by decide), show σ3.1 22 30 = (mP (mBrk m)).1 0 from s1.2.1.1 0 (by decide)]
      refine sp_setR (r1.fq s2 (by decide)) (ev_goto okMd_command rfl rfl trivial (fin _ ?_ ((s2.fr (by decide)).tr (Fr.u1 (by decide))) _))
      have em : mCm m = sN (mBrk m) 2 (clp (nI 0) ((mP (mBrk m)).1 0 - nI 1) (wv (mX m) ((mP (mBrk m)).1 2) (nI 0))) := by
        unfold mCm mOb
        rw [c8, if_pos (show brF 29801 (mP m).1 = true from rfl)]
        rfl
      rw [em]
      exact s1.set 2 (by decide) _
    by_cases c9 : cname (mX m) = 29293
    · refine ev_look (off := 216) 294 okMd_command rfl rfl trivial (by rw [c9]; rfl) rfl ?_
      have e29 : σ2.1 22 29 = nI (cl (mP m).1 2) := (d2.2.1.1 2 (by decide)).trans h2
      have e28 : σ2.1 22 28 = nI (cl (mP m).1 1) := (d2.2.1.1 1 (by decide)).trans h1
      have last : ∀ v : Nat, v = max (cl (mP m).1 2) (cl (mP m).1 1) → Ev lc G mMd_command 324 [some (.ref 22), some (.int (nI (cname (mX m))))] [.int (nI v), .int (nI 40), .int (σ2.1 22 30), .ref 22, .ref 22] σ2 Q := by
        intro v hv
        subst hv
        refine ev_cv okMd_command okMd_set rfl rfl trivial rfl (by decide +kernel) rfl rfl ?_
        rw [show σ2.1 22 30 = (mP m).1 0 from d2.2.1.1 0 (by decide), nI_add]
        refine sp_setR r1 (ev_goto okMd_command rfl rfl trivial (fin _ ?_ (Fr.u1 (by decide)) _))
        rw [nb (by omega) (by omega) (by omega) (by omega), show mOb (mX m) m = sN m 0 (clp (nI (max (cl (mP m).1 2) (cl (mP m).1 1) + 1)) (nI 80) (wv (mX m) ((mP m).1 0) (nI 40))) by unfold mOb; rw [c9]; rfl]
        exact d2.set 0 (by decide) _
      refine ev_ic_le okMd_command rfl rfl trivial (fun g => ?_) (fun g => ?_)
      · rw [e29, e28] at g
        have hle : cl (mP m).1 2 ≤ cl (mP m).1 1 := (nI_leI (by omega) (by omega)).mp g
        refine ev_nop okMd_command rfl rfl trivial ?_
        rw [e28]
        exact last _ (Nat.max_eq_right hle).symm
      · rw [e29, e28] at g
        have hle : ¬ cl (mP m).1 2 ≤ cl (mP m).1 1 := fun z => g (nI_le z (by omega))
        refine ev_goto okMd_command rfl rfl trivial ?_
        rw [e29]
        exact last _ (Nat.max_eq_left (by omega)).symm
    refine ev_look (off := 259) 337 okMd_command rfl rfl trivial ?_ rfl ?_
    · rw [nI_int (by omega)]
      show Op.lookupswitch.offset [(25202, 82), (26217, 89), (26990, 158), (27253, 116), (27763, 139), (28257, 116), (28262, 89), (29293, 216), (29801, 189)] 259 (cname (mX m) : Int) = 259
      simp only [Op.lookupswitch.offset]
      repeat rw [if_neg (by omega)]
    · refine ev_cv okMd_command okMd_command2 rfl rfl trivial rfl (by decide +kernel) rfl rfl (sp_command2 d2 r1 hi hpb c1 c2 c3 c4 c5 c6 c7 c8 c9 fun σ3 s1 s2 => fin σ3 s1 s2 _)
  refine ev_ic_le okMd_command rfl rfl trivial (fun g => ?_) (fun g => ?_)
  · rw [hc.1.2.1] at g
    have hl : (mX m).length ≤ 2 := (nI_leI (by omega) (by decide)).mp g
    have e : cname (mX m) = 0 := if_pos (by omega)
    rw [e] at main
    exact ev_nop okMd_command rfl rfl trivial main
  · rw [hc.1.2.1] at g
    have hl : ¬ (mX m).length ≤ 2 := fun z => g (nI_le z (by decide))
    have e : cname (mX m) = 256 * (mX m).getD 1 0 + (mX m).getD 2 0 := if_neg (by omega)
    rw [e] at main
    refine ev_goto okMd_command rfl rfl ⟨vp_nI (by decide) (by decide), vp_nI (by decide) (by decide), trivial⟩ ?_
    rw [show σ.1 23 (nI 1).toNatClampNeg = nI ((mX m).getD 1 0) from hc.1.2.2 1 (by omega), show σ.1 23 (nI 2).toNatClampNeg = nI ((mX m).getD 2 0) from hc.1.2.2 2 (by omega), pk_mul, nI_add]
    exact main
end RC2
end
section
/-! ===== the reference: its methods ===== -/
def bgF (I : Nat → Int32) (f : Nat) : Int32 := if f = 40 then nI 0 else if f = 38 then nI 0 else if f = 36 then nI 1 else if f = 35 then nI 0 else if f = 34 then nI 0 else if f = 33 then nI 24 else if f = 32 then nI 0 else if f = 31 then nI 0 else if f = 30 then nI 40 else if f = 29 then nI 0 else if f = 28 then nI 0 else if f = 27 then nI 1 else if f = 26 then nI 1 else if f = 25 then nI 1 else if f = 6 then nI 0 else if f = 1 then nI 0 else I f
theorem mBrk_W0 (m : MS) : mW (mBrk m) = [] := by
  by_cases h : mW m = []
  · rw [show mBrk m = m from if_pos h]; exact h
  · exact mBrk_W h
theorem mBrk_mBrk (m : MS) : mBrk (mBrk m) = mBrk m := if_pos (mBrk_W0 m)
theorem mF1_W (m : MS) : mW (mF1 m) = [] := by
  unfold mF1
  split
  · exact mBrk_W0 m
  · exact mBrk_W0 m
section RP2
variable {lc : Launch} {G : GG} {σ : St2} {Q : Option Value → St2 → Prop} {m : MS} {pb : Nat}
theorem sp_beginR (hc : RV σ m) (hw : mW m = []) (k : ∀ σ', RV σ' (mRs m) → Fr RC σ σ' → Q none σ') : Ev lc G mMd_begin 0 [some (.ref 22)] [] σ Q := by
  have fin : ∀ τ : St2, τ.2 = σ.2 → (∀ c, c ≠ 22 → τ.1 c = σ.1 c) → (∀ f, τ.1 22 f = bgF (σ.1 22) f) → Q none τ := by
    intro τ h2 h1 hf
    have hfq : Fq [] [1, 6, 25, 26, 27, 28, 29, 30, 31, 32, 33, 34, 35, 36, 38, 40] σ τ := by
      refine ⟨fun c _ hn => ⟨h1 c hn, by rw [h2]⟩, fun f hf' => ⟨?_, by rw [h2]⟩⟩
      simp only [List.mem_cons, List.not_mem_nil, or_false, not_or] at hf'
      obtain ⟨a1, a2, a3, a4, a5, a6, a7, a8, a9, a10, a11, a12, a13, a14, a15, a16⟩ := hf'
      rw [hf f]
      simp [bgF, a1, a2, a3, a4, a5, a6, a7, a8, a9, a10, a11, a12, a13, a14, a15, a16]
    obtain ⟨c1, ⟨d1, d2, d3, d4⟩, c3, ⟨cnt, c4⟩, c5, c6⟩ := hc
    refine k τ ⟨?_, ⟨fun j hj => ?_, ?_, ?_, d4.fq hfq (by decide) (by decide) (by decide)⟩, ?_, ⟨cnt, c4.fq hfq (by decide) (by decide)⟩, by rw [hfq.g2 (by decide)]; exact c5, by rw [hfq.g1 (by decide)]; exact c6⟩ (hfq.fr (by decide))
    · show LineR τ []
      exact ⟨by decide, hf 1, RowAt.nil⟩
    · have key : τ.1 22 (fm 12) = (mP m).1 12 := by rw [hfq.g1 (by decide)]; exact d1 12 (by decide)
      rcases (show j = 0 ∨ j = 1 ∨ j = 2 ∨ j = 3 ∨ j = 4 ∨ j = 5 ∨ j = 6 ∨ j = 7 ∨ j = 8 ∨ j = 9 ∨ j = 10 ∨ j = 11 ∨ j = 12 by omega) with rfl | rfl | rfl | rfl | rfl | rfl | rfl | rfl | rfl | rfl | rfl | rfl | rfl
      · exact hf 30
      · exact hf 28
      · exact hf 29
      · exact hf 27
      · exact hf 31
      · exact hf 32
      · exact hf 33
      · exact hf 25
      · exact hf 26
      · exact hf 34
      · exact hf 35
      · exact hf 36
      · exact key
    · show LstR τ 38 41 100 []
      exact ⟨by decide, hf 38, RowAt.nil⟩
    · show LstR τ 40 42 100 []
      exact ⟨by decide, hf 40, RowAt.nil⟩
    · show RwV τ (mW m)
      rw [hw]
      exact ⟨hf 6, RowAt.nil, RowAt.nil⟩
  refine ev_rv okMd_begin rfl rfl ⟨Or.inr rfl, Or.inr rfl, trivial⟩ rfl (fin _ rfl (fun c hc => by simp [up2, hc]) (fun f => rfl))
theorem sp_enterR (hc : RV σ m) (hi : Inv pb m) (hpb : pb < 600000000) (k : ∀ σ', RV σ' (mEn m) → Fr RC σ σ' → Q (some (.int ((mP (mEn m)).1 12 - (mP m).1 12))) σ') : Ev lc G mMd_enter 0 [some (.ref 22), none] [] σ Q := by
  have e42 : σ.1 22 42 = (mP m).1 12 := hc.2.1.1 12 (by decide)
  have h100 := hc.1.1
  have hx8 := hi.x128
  have htb := tb_nI (x := mX m) (j := 0) h100 (by decide)
  have b0 := getD_lt (j := 0) hx8 (by decide)
  have fin : ∀ (m1 : MS) (σ1 : St2), RV σ1 m1 → Fr RC σ σ1 → mEn m = sX m1 [] → Ev lc G mMd_enter 34 [some (.ref 22), some (.int ((mP m).1 12))] [] σ1 Q := by
    intro m1 σ1 c1 f1 e1
    have f2 : Fq [23] [1] σ1 (up2 σ1.1 22 1 (nI 0), σ1.2) := Fq.f1 (by decide)
    have c2 : RV (up2 σ1.1 22 1 (nI 0), σ1.2) (sX m1 []) := c1.tx f2 ⟨by decide, up2_same σ1.1 22 1 _, RowAt.nil⟩
    have e2 : (up2 σ1.1 22 1 (nI 0), σ1.2).1 22 42 = (mP m1).1 12 := c2.2.1.1 12 (by decide)
    refine ev_ri okMd_enter rfl rfl trivial rfl ?_
    rw [e2]
    have := k _ (by rw [e1]; exact c2) (f1.tr (f2.fr (by decide)))
    rw [e1] at this
    exact this
  have text : ¬ tb (mX m) (nI 0) = nI 46 → Ev lc G mMd_enter 30 [some (.ref 22), some (.int ((mP m).1 12))] [] σ Q := by
    intro h
    refine ev_cv okMd_enter okMd_text rfl rfl trivial rfl (by decide +kernel) rfl rfl (sp_text hc hi (by omega) fun σ1 q1 q2 => ?_)
    exact fin (mTx m) σ1 q1 (q2.fr (by decide)) (by unfold mEn; rw [if_neg h])
  refine ev_if_le okMd_enter rfl rfl trivial (fun g => ?_) (fun g => ?_)
  · rw [hc.1.2.1] at g
    rw [e42]
    refine text ?_
    rw [htb, if_neg (fun z => nI_nle z (by omega) g)]
    decide
  · rw [hc.1.2.1] at g
    have hl : 0 < (mX m).length := by
      rcases Nat.eq_zero_or_pos (mX m).length with q | q
      · exact absurd (by rw [q]; decide) g
      · exact q
    rw [if_pos hl] at htb
    have hv : σ.1 23 (nI 0).toNatClampNeg = nI ((mX m).getD 0 0) := hc.1.2.2 0 hl
    rw [e42]
    refine ev_ic_ne okMd_enter rfl rfl ⟨vp_nI (by decide) (by decide), trivial⟩ (fun g2 => ?_) (fun g2 => ?_)
    · rw [hv] at g2
      exact text (by rw [htb]; exact g2)
    · have g2 : σ.1 23 (nI 0).toNatClampNeg = nI 46 := by simpa using g2
      rw [hv, ← htb] at g2
      refine ev_cv okMd_enter okMd_command rfl rfl trivial rfl (by decide +kernel) rfl rfl (sp_command hc hi hpb fun σ1 q1 q2 => ?_)
      exact ev_goto okMd_enter rfl rfl trivial (fin (mCm m) σ1 q1 q2 (by unfold mEn; rw [if_pos g2]))
theorem sp_finishR (hc : RV σ m) (hi : Inv pb m) (hpb : pb < 600000000) (k : ∀ σ', RV σ' (mFi m) → Fr RC σ σ' → Q (some (.int ((mP (mFi m)).1 12 - (mP m).1 12))) σ') : Ev lc G mMd_finish 0 [some (.ref 22), none] [] σ Q := by
  have e42 : σ.1 22 42 = (mP m).1 12 := hc.2.1.1 12 (by decide)
  have i1 := mBrk_Inv hi
  refine ev_cv okMd_finish okMd_breakNow rfl rfl trivial rfl (by decide +kernel) rfl rfl (sp_brkR hc hi (by omega) fun σ1 q1 q2 => ?_)
  rw [e42]
  have fin : ∀ σ2, RV σ2 (mF1 m) → Fr RC σ σ2 → Ev lc G mMd_finish 22 [some (.ref 22), some (.int ((mP m).1 12))] [] σ2 Q := by
    intro σ2 c2 f2
    refine ev_cv okMd_finish okMd_begin rfl rfl trivial rfl (by decide +kernel) rfl rfl (sp_beginR c2 (mF1_W m) fun σ3 r1 r2 => ?_)
    refine ev_ri okMd_finish rfl rfl trivial rfl ?_
    rw [show σ3.1 22 42 = (mP (mFi m)).1 12 from r1.2.1.1 12 (by decide)]
    exact k σ3 r1 (f2.tr r2)
  have e34 : σ1.1 22 34 = (mP (mBrk m)).1 9 := q1.2.1.1 9 (by decide)
  obtain ⟨e9, -, l9⟩ := Rg_cl (N := (mP (mBrk m)).1) i1.2.2.1.2.2.2.2.2.2.2.1 (by decide)
  refine ev_if_le okMd_finish rfl rfl trivial (fun g => ?_) (fun g => ?_)
  · rw [e34, e9] at g
    have hz : (mP (mBrk m)).1 9 = 0 := by
      rcases Nat.eq_zero_or_pos (cl (mP (mBrk m)).1 9) with q | q
      · rw [e9, q]; rfl
      · exact absurd g (nI_nle q (by omega))
    have e : mF1 m = mBrk m := if_pos hz
    rw [e] at fin
    exact fin σ1 q1 (q2.fr (by decide))
  · rw [e34, e9] at g
    have hz : ¬ (mP (mBrk m)).1 9 = 0 := fun q => g (by rw [← e9, q]; decide)
    have e : mF1 m = sP (mBrk m) (pSkip (mH (mBrk m)) (mF (mBrk m)) (nI 99) (mP (mBrk m))) := if_neg hz
    rw [e] at fin
    refine ev_cv okMd_finish okMd_space rfl rfl trivial rfl (by decide +kernel) rfl rfl (sp_space q1 i1 (by omega) fun σ2 r1 r2 => ?_)
    rw [mBrk_mBrk] at r1
    exact fin σ2 r1 ((q2.fr (by decide)).tr (r2.fr (by decide)))
theorem sp_wipeR (hc : RV σ m) (k : ∀ σ', RV σ' (mWi m) → Fr RC σ σ' → Q (some (.int (nI (mP m).2.length))) σ') : Ev lc G mMd_wipe 0 [some (.ref 22), none] [] σ Q := by
  have e : σ.1 22 24 = nI (mP m).2.length := hc.2.1.2.2.2.2.1
  refine ev_ri okMd_wipe rfl rfl trivial rfl ?_
  rw [e]
  have f : Fq [40] [24] σ (up2 σ.1 22 24 (nI 0), σ.2) := Fq.f1 (by decide)
  exact k _ (hc.pg f (by decide) (by decide) (hc.2.1.out f ⟨by decide, up2_same σ.1 22 24 _, RowAt.nil⟩)) (f.fr (by decide))
theorem sp_lengthR (hc : RV σ m) (k : Q (some (.int (nI (mP m).2.length))) σ) : Ev lc G mMd_length 0 [some (.ref 22)] [] σ Q := by
  have e : σ.1 22 24 = nI (mP m).2.length := hc.2.1.2.2.2.2.1
  refine ev_ri okMd_length rfl rfl trivial rfl ?_
  rw [e]
  exact k
/-- between 0 and one below n -/
theorem in_lt {i : Int32} {n : Nat} (hn : n < 2 ^ 31) : (nI 0 ≤ i ∧ i ≤ nI n - nI 1) ↔ (¬ i < 0 ∧ i < nI n) := by
  rcases i32_cases i with ⟨q, -⟩ | ⟨q1, q2⟩
  · exact ⟨fun z => absurd q (Int32.not_lt.mpr z.1), fun z => absurd q z.1⟩
  · generalize i.toNatClampNeg = j at q1 q2
    subst q2
    rcases Nat.eq_zero_or_pos n with e | e
    · subst e
      have h1 : nI 0 - nI 1 < 0 := by decide
      exact ⟨fun z => absurd (Int32.lt_of_le_of_lt z.2 h1) (nI_neg q1), fun z => absurd z.2 (nI_neg q1)⟩
    · rw [pk_sub e]
      exact ⟨fun z => ⟨nI_neg q1, nI_lt (by have := (nI_leI q1 (by omega)).mp z.2; omega) hn⟩, fun z => ⟨nI_le (Nat.zero_le _) q1, nI_le (by have := (nI_ltI q1 hn).mp z.2; omega) (by omega)⟩⟩
theorem sp_atR (hc : RV σ m) {i : Int32} (k : Q (some (.int (tb (mP m).2 i))) σ) : Ev lc G mMd_at 0 [some (.ref 22), some (.int i)] [] σ Q := by
  obtain ⟨h1, h2, h3⟩ := hc.2.1.2.2.2
  unfold tb at k
  refine ev_cs okMd_at okMd_in rfl rfl trivial rfl (by decide +kernel) rfl rfl (sp_in ?_)
  have ed : decide (nI 0 ≤ i ∧ i ≤ nI (mP m).2.length - nI 1) = decide (¬ i < 0 ∧ i < nI (mP m).2.length) := decide_eq_decide.mpr (in_lt (by omega))
  rw [h2, ed]
  refine ev_if_eq okMd_at rfl rfl trivial (fun g => ?_) (fun g => ?_)
  · rw [b2_0] at g
    have g := of_decide_eq_false g
    refine ev_nop okMd_at rfl rfl trivial (ev_ri okMd_at rfl rfl trivial rfl ?_)
    by_cases z : i < 0
    · rw [if_pos z] at k; exact k
    · rw [if_neg z, if_pos (Int32.not_lt.mp (fun q => g ⟨z, q⟩))] at k
      exact k
  · rw [b2_0] at g
    have g : ¬ i < 0 ∧ i < nI (mP m).2.length := by simpa using g
    rw [if_neg g.1, if_neg (Int32.not_le.mpr g.2)] at k
    rcases i32_cases i with ⟨q, -⟩ | ⟨q1, q2⟩
    · exact absurd q g.1
    · have hlt : i.toNatClampNeg < (mP m).2.length := by
        rw [q2] at g
        exact (nI_ltI q1 (by omega)).mp g.2
      refine ev_goto okMd_at rfl rfl ⟨by rw [q2]; exact vp_nI (by omega) (by decide), trivial⟩ (ev_ri okMd_at rfl rfl trivial rfl ?_)
      rw [h3 _ hlt]
      exact k
theorem sp_demeritsR (hc : RV σ m) (k : Q (some (.long (mD m))) σ) : Ev lc G mMd_demerits 0 [some (.ref 22)] [] σ Q := by
  refine ev_rl okMd_demerits rfl rfl trivial rfl ?_
  rw [hc.2.2.2.2.1]
  exact k
theorem sp_lineR (hc : RV σ m) {i w : Int32} (k : Q (some (.int (lnA (mT m) i w))) σ) : Ev lc G mMd_line 0 [some (.ref 22), some (.int i), some (.int w)] [] σ Q := by
  obtain ⟨cnt, n1, n2, n3, n4, n5⟩ := hc.2.2.2.1
  unfold lnA at k
  rw [n2, Nat.mul_div_cancel_left _ (by decide)] at k
  refine ev_cs okMd_line okMd_in rfl rfl trivial rfl (by decide +kernel) rfl rfl (sp_in ?_)
  have ed : decide (nI 0 ≤ i ∧ i ≤ nI cnt - nI 1) = decide (¬ i < 0 ∧ i < nI cnt) := decide_eq_decide.mpr (in_lt (by omega))
  rw [n3, ed]
  refine ev_if_ne okMd_line rfl rfl trivial (fun g => ?_) (fun g => ?_)
  · rw [b2_0] at g
    have g : ¬ i < 0 ∧ i < nI cnt := by simpa using g
    rw [if_neg g.1, if_pos g.2] at k
    rcases i32_cases i with ⟨q, -⟩ | ⟨q1, q2⟩
    · exact absurd q g.1
    · have hlt : i.toNatClampNeg < cnt := by
        rw [q2] at g
        exact (nI_ltI q1 (by omega)).mp g.2
      have vi : vp_in i 8100 := by rw [q2]; exact vp_nI (by omega) (by decide)
      rcases i32_cases w with ⟨p, -⟩ | ⟨p1, p2⟩
      · rw [if_pos p] at k
        exact ev_tout 106 okMd_line rfl rfl trivial (Or.inl (Int32.lt_iff_toInt_lt.mp p)) rfl (ev_ri okMd_line rfl rfl trivial rfl k)
      · generalize w.toNatClampNeg = j at p1 p2 k
        subst p2
        rw [if_neg (nI_neg p1)] at k
        by_cases hj : j ≤ 5
        · rw [if_neg (nI_ge (show j < 6 by omega) (by decide))] at k
          have cell : ∀ c, c = 34 + j → σ.1 c i.toNatClampNeg = nI ((mT m).getD (6 * i.toNatClampNeg + j) 0) := fun c hcc => by rw [hcc]; exact n4 _ hlt j (by omega)
          have go : ∀ tgt off, (#[39, 46, 53, 60, 67, 82] : Array Int)[j]? = some off → (17 : Int) + off = (tgt : Nat) → Ev lc G mMd_line tgt [some (.ref 22), some (.int i), some (.int (nI j))] [] σ Q → Ev lc G mMd_line 16 [some (.ref 22), some (.int i), some (.int (nI j))] [] σ Q := by
            intro tgt off h1 h2 h3
            refine ev_tin tgt okMd_line rfl rfl trivial (by rw [nI_int p1]; omega) (by rw [nI_int p1]; omega) ?_ h2 h3
            rw [nI_int p1, Int.sub_zero, Int.toNat_natCast]
            exact h1
          rcases (show j = 0 ∨ j = 1 ∨ j = 2 ∨ j = 3 ∨ j = 4 ∨ j = 5 by omega) with rfl | rfl | rfl | rfl | rfl | rfl
          · refine go 56 39 rfl rfl (ev_ri okMd_line rfl rfl ⟨vi, trivial⟩ rfl ?_)
            rw [cell 34 rfl]; exact k
          · refine go 63 46 rfl rfl (ev_ri okMd_line rfl rfl ⟨vi, trivial⟩ rfl ?_)
            rw [cell 35 rfl]; exact k
          · refine go 70 53 rfl rfl (ev_ri okMd_line rfl rfl ⟨vi, trivial⟩ rfl ?_)
            rw [cell 36 rfl]; exact k
          · refine go 77 60 rfl rfl (ev_ri okMd_line rfl rfl ⟨vi, trivial⟩ rfl ?_)
            rw [cell 37 rfl]; exact k
          · have h01 := n5 _ hlt
            have c38 := cell 38 rfl
            obtain ⟨v, hv⟩ : ∃ v, v = (mT m).getD (6 * i.toNatClampNeg + 4) 0 := ⟨_, rfl⟩
            rw [← hv] at h01 c38 k
            refine go 84 67 rfl rfl ?_
            refine ev_if_eq okMd_line rfl rfl ⟨vi, trivial⟩ (fun g3 => ?_) (fun g3 => ?_)
            · rw [c38] at g3
              have e : v = 0 := by
                rcases Nat.eq_zero_or_pos v with q | q
                · exact q
                · exact absurd g3 (nI_ne0 q (by omega))
              rw [e] at k
              exact ev_nop okMd_line rfl rfl trivial (ev_ri okMd_line rfl rfl trivial rfl k)
            · rw [c38] at g3
              have e : v = 1 := by
                rcases Nat.eq_zero_or_pos v with q | q
                · exact absurd (by rw [q]; rfl) g3
                · omega
              rw [e] at k
              exact ev_goto okMd_line rfl rfl trivial (ev_ri okMd_line rfl rfl trivial rfl k)
          · refine go 99 82 rfl rfl (ev_ri okMd_line rfl rfl ⟨vi, trivial⟩ rfl ?_)
            rw [cell 39 rfl]; exact k
        · rw [if_pos (nI_le (show 6 ≤ j by omega) p1)] at k
          exact ev_tout 106 okMd_line rfl rfl trivial (Or.inr (by rw [nI_int p1]; omega)) rfl (ev_ri okMd_line rfl rfl trivial rfl k)
  · have g : b2 (decide (¬ i < 0 ∧ i < nI cnt)) = 0 := by simpa using g
    rw [b2_0] at g
    have g := of_decide_eq_false g
    refine ev_ri okMd_line rfl rfl trivial rfl ?_
    by_cases z : i < 0
    · rw [if_pos z] at k; exact k
    · rw [if_neg z, if_neg (fun q => g ⟨z, q⟩)] at k
      exact k
theorem sp_countR (hc : RV σ m) (h7 : ∃ fl, (mP m).1 7 = b2 fl) (h8 : ∃ jf, (mP m).1 8 = b2 jf) {w : Int32} (k : Q (some (.int (ctA m w))) σ) : Ev lc G mMd_count 0 [some (.ref 22), some (.int w)] [] σ Q := by
  obtain ⟨a1, ⟨p1, p2, p3, p4⟩, a3, ⟨cnt, a4⟩, a5, a6⟩ := hc
  rcases i32_cases w with ⟨q, -⟩ | ⟨q1, q2⟩
  · have e : ctA m w = mI 1 := if_pos q
    rw [e] at k
    have q' : w.toInt < 0 := Int32.lt_iff_toInt_lt.mp q
    refine ev_tout 115 okMd_count rfl rfl trivial (Or.inl q') rfl ?_
    refine ev_cv okMd_count okMd_count2 rfl rfl trivial rfl (by decide +kernel) rfl rfl ?_
    exact ev_tout 86 okMd_count2 rfl rfl trivial (Or.inl (by omega)) rfl (ev_ri okMd_count2 rfl rfl trivial rfl (ev_ri okMd_count rfl rfl trivial rfl k))
  · generalize w.toNatClampNeg = j at q1 q2
    subst q2
    have hn : ¬ nI j < 0 := nI_neg q1
    have e : ctA m (nI j) = _ := if_neg hn
    rw [e, nI_cl q1] at k
    by_cases hj : j ≤ 10
    · have go : ∀ tgt off, (#[59, 64, 69, 74, 79, 84, 89, 94, 99, 104, 109] : Array Int)[j]? = some off → (1 : Int) + off = (tgt : Nat) → Ev lc G mMd_count tgt [some (.ref 22), some (.int (nI j))] [] σ Q → Ev lc G mMd_count 0 [some (.ref 22), some (.int (nI j))] [] σ Q := by
        intro tgt off h1 h2 h3
        refine ev_tin tgt okMd_count rfl rfl trivial (by rw [nI_int q1]; omega) (by rw [nI_int q1]; omega) ?_ h2 h3
        rw [nI_int q1, Int.sub_zero, Int.toNat_natCast]
        exact h1
      rcases (show j = 0 ∨ j = 1 ∨ j = 2 ∨ j = 3 ∨ j = 4 ∨ j = 5 ∨ j = 6 ∨ j = 7 ∨ j = 8 ∨ j = 9 ∨ j = 10 by omega) with rfl | rfl | rfl | rfl | rfl | rfl | rfl | rfl | rfl | rfl | rfl
      · refine go 60 59 rfl rfl (ev_ri okMd_count rfl rfl trivial rfl ?_)
        rw [a3.1]; exact k
      · refine go 65 64 rfl rfl (ev_ri okMd_count rfl rfl trivial rfl ?_)
        rw [show σ.1 22 34 = _ from p1 9 (by decide)]; exact k
      · refine go 70 69 rfl rfl (ev_ri okMd_count rfl rfl trivial rfl ?_)
        rw [show σ.1 22 35 = _ from p1 10 (by decide)]; exact k
      · refine go 75 74 rfl rfl (ev_ri okMd_count rfl rfl trivial rfl ?_)
        rw [show σ.1 22 36 = _ from p1 11 (by decide)]; exact k
      · refine go 80 79 rfl rfl (ev_ri okMd_count rfl rfl trivial rfl ?_)
        rw [show σ.1 22 30 = _ from p1 0 (by decide)]; exact k
      · refine go 85 84 rfl rfl (ev_ri okMd_count rfl rfl trivial rfl ?_)
        rw [show σ.1 22 28 = _ from p1 1 (by decide)]; exact k
      · refine go 90 89 rfl rfl (ev_ri okMd_count rfl rfl trivial rfl ?_)
        rw [show σ.1 22 29 = _ from p1 2 (by decide)]; exact k
      · refine go 95 94 rfl rfl (ev_ri okMd_count rfl rfl trivial rfl ?_)
        rw [show σ.1 22 27 = _ from p1 3 (by decide)]; exact k
      · refine go 100 99 rfl rfl (ev_ri okMd_count rfl rfl trivial rfl ?_)
        rw [show σ.1 22 31 = _ from p1 4 (by decide)]; exact k
      · refine go 105 104 rfl rfl (ev_ri okMd_count rfl rfl trivial rfl ?_)
        rw [show σ.1 22 32 = _ from p1 5 (by decide)]; exact k
      · refine go 110 109 rfl rfl (ev_ri okMd_count rfl rfl trivial rfl ?_)
        rw [show σ.1 22 33 = _ from p1 6 (by decide)]; exact k
    · refine ev_tout 115 okMd_count rfl rfl trivial (Or.inr (by rw [nI_int q1]; omega)) rfl ?_
      refine ev_cv okMd_count okMd_count2 rfl rfl trivial rfl (by decide +kernel) rfl rfl ?_
      have ret : ∀ v : Int32, Q (some (.int v)) σ → Ev lc G mMd_count 120 [some (.ref 22), some (.int (nI j))] [.int v] σ Q := fun v hv => ev_ri okMd_count rfl rfl trivial rfl hv
      by_cases hj2 : j ≤ 16
      · have go : ∀ (Q' : Option Value → St2 → Prop) tgt off, (#[39, 52, 65, 70, 75, 80] : Array Int)[j - 11]? = some off → (1 : Int) + off = (tgt : Nat) → Ev lc G mMd_count2 tgt [some (.ref 22), some (.int (nI j))] [] σ Q' → Ev lc G mMd_count2 0 [some (.ref 22), some (.int (nI j))] [] σ Q' := by
          intro Q' tgt off h1 h2 h3
          refine ev_tin tgt okMd_count2 rfl rfl trivial (by rw [nI_int q1]; omega) (by rw [nI_int q1]; omega) ?_ h2 h3
          rw [nI_int q1, show ((j : Int) - 11).toNat = j - 11 by omega]
          exact h1
        rcases (show j = 11 ∨ j = 12 ∨ j = 13 ∨ j = 14 ∨ j = 15 ∨ j = 16 by omega) with rfl | rfl | rfl | rfl | rfl | rfl
        · obtain ⟨fl, e7⟩ := h7
          have k : Q (some (.int ((mP m).1 7))) σ := k
          have e47 : σ.1 22 25 = b2 fl := (p1 7 (by decide)).trans e7
          rw [e7] at k
          refine go _ 40 39 rfl rfl ?_
          refine ev_if_eq okMd_count2 rfl rfl trivial (fun g => ?_) (fun g => ?_)
          · rw [e47, b2_0] at g
            rw [g] at k
            exact ev_nop okMd_count2 rfl rfl trivial (ev_ri okMd_count2 rfl rfl trivial rfl (ret _ k))
          · rw [e47, b2_0] at g
            have g : fl = true := by simpa using g
            rw [g] at k
            exact ev_goto okMd_count2 rfl rfl trivial (ev_ri okMd_count2 rfl rfl trivial rfl (ret _ k))
        · obtain ⟨fl, e7⟩ := h8
          have k : Q (some (.int ((mP m).1 8))) σ := k
          have e47 : σ.1 22 26 = b2 fl := (p1 8 (by decide)).trans e7
          rw [e7] at k
          refine go _ 53 52 rfl rfl ?_
          refine ev_if_eq okMd_count2 rfl rfl trivial (fun g => ?_) (fun g => ?_)
          · rw [e47, b2_0] at g
            rw [g] at k
            exact ev_nop okMd_count2 rfl rfl trivial (ev_ri okMd_count2 rfl rfl trivial rfl (ret _ k))
          · rw [e47, b2_0] at g
            have g : fl = true := by simpa using g
            rw [g] at k
            exact ev_goto okMd_count2 rfl rfl trivial (ev_ri okMd_count2 rfl rfl trivial rfl (ret _ k))
        · refine go _ 66 65 rfl rfl (ev_ri okMd_count2 rfl rfl trivial rfl (ret _ ?_))
          have k : Q (some (.int (nI ((mT m).length / 6)))) σ := k
          rw [a4.2.1, Nat.mul_div_cancel_left _ (by decide)] at k
          rw [a4.2.2.1]
          exact k
        · refine go _ 71 70 rfl rfl (ev_ri okMd_count2 rfl rfl trivial rfl (ret _ ?_))
          rw [a6]; exact k
        · refine go _ 76 75 rfl rfl (ev_ri okMd_count2 rfl rfl trivial rfl (ret _ ?_))
          rw [show σ.1 22 42 = _ from p1 12 (by decide)]; exact k
        · refine go _ 81 80 rfl rfl (ev_ri okMd_count2 rfl rfl trivial rfl (ret _ ?_))
          rw [a1.2.1]; exact k
      · have k2 : Q (some (.int (mI 1))) σ := by
          obtain ⟨j', rfl⟩ : ∃ j', j = j' + 17 := ⟨j - 17, by omega⟩
          exact k
        exact ev_tout 86 okMd_count2 rfl rfl trivial (Or.inr (by rw [nI_int q1]; omega)) rfl (ev_ri okMd_count2 rfl rfl trivial rfl (ret _ k2))
end RP2
end
section
/-! ===== constructors: worlds that grow ===== -/
def tysA (a : Nat → ClassId) : List (ClassId × FieldType) := [(a 0, .byte), (a 1, .int), (a 2, .boolean), (a 3, .long)]
/-- links to private constructors of nest mates: the caller's class, the link, the constructor -/
def nestL : List (String × Nat × MethodName) := [(RX7, 11, ⟨RX6, "<init>", "()V"⟩), (RX7, 18, ⟨RX0, "<init>", "()V"⟩), (RX7, 32, ⟨RX2, "<init>", "()V"⟩), (RX3, 11, ⟨RX6, "<init>", "()V"⟩), (RX7, 48, ⟨RX4, "<init>", "()V"⟩), (RX7, 55, ⟨RX5, "<init>", "()V"⟩)]
def NW (U : State) : Prop := ∀ q ∈ nestL, va_Nw (.methodLinkNest q.1 q.2.1 q.2.2 RX7) U
theorem NW.warm {s U : State} (h : NW s) (hW : s.WarmedH U.vm) : NW U := fun q hq => va_Nw.warmM hW (h q hq)
theorem NW.call {U : State} (h : NW U) (g : JFrame) (mk : MethodId) (a : Array Value) : NW (U.calling g mk a) := fun q hq => va_Nw.same rfl rfl (h q hq)
/-- name, code, locals, answer, is it a constructor, room -/
abbrev CM : Type := MethodName × ByteArray × Nat × Option FieldType × Bool × Room
def Kx (D : va_G) (a : Nat → ClassId) (M : CM) (p : Program) (s : State) (m : MethodId) (args : Array Value) (meth : Method) (c : Code) : Prop :=
  p.tables.exec = Jvm.exec ∧ c.code = M.2.1 ∧ meth.sig.returnType = M.2.2.2.1 ∧ c.maxLocals = M.2.2.1 ∧ s.vm.findClass M.1.cls = some m.cls ∧ (∀ w ∈ GT, w.before args s = true) ∧ (M.2.2.2.2.1 = true → meth.name = "<init>") ∧ va_K D CLS (tysA a) s ∧ NW s ∧ meth.locks = false
def Ec (lc : Launch) (D : va_G) (a : Nat → ClassId) (M : CM) (QW : Array Value → List Frame → State → State → Prop) (AW : State → Nat → Prop) (pc : Nat) (lv : List (Nat × Value)) (st : List Value) (ws : va_W) (n k : Nat) : Prop :=
  ∀ (p : Program) (e : Env) (s : State) (m : MethodId) (args : Array Value) (below : List Frame) (meth : Method) (c : Code), Kx D a M p s m args meth c → (∀ q, s.heap.size ≤ q → AW s q) → ∀ (H : Heap) (locs : List Loc) (ls : Array Slot),
    va_P D CLS ws H → va_D (AW s) ws → va_S (AW s) s.heap H locs → lv_has ls M.2.2.1 lv → W p lc e M.2.2.2.2.2 s m args below meth c H locs n k (QW args below s) (F0 m pc ls st)
section EC
variable {lc : Launch} {D : va_G} {a : Nat → ClassId} {M : CM} {QW : Array Value → List Frame → State → State → Prop} {AW : State → Nat → Prop} {pc n k : Nat} {lv : List (Nat × Value)} {st : List Value} {ws : va_W}
theorem ec_al {kf : Fin 4} {b : Nat} (j : Nat) (hd : decode M.2.1 pc = .ok (.aload_n kf, 1)) (hl : lv[j]? = some (kf.val, .ref b)) (kk : Ec lc D a M QW AW (pc + 1) lv (.ref b :: st) ws n k) : Ec lc D a M QW AW pc lv st ws n k :=
  fun p e s m args below meth c K hA H locs ls hP hD hS hl' => lv_aload_n K.1 K.2.1 hd rfl (lv_at hl' j hl) (kk p e s m args below meth c K hA H locs ls hP hD hS hl')
theorem ec_ic {i : Int} {v : Int32} (hd : decode M.2.1 pc = .ok (.iconst i, 1)) (hv : Int32.ofInt i = v) (kk : Ec lc D a M QW AW (pc + 1) lv (.int v :: st) ws n k) : Ec lc D a M QW AW pc lv st ws n k :=
  fun p e s m args below meth c K hA H locs ls hP hD hS hl' => lv_iconst K.1 K.2.1 hd hv (kk p e s m args below meth c K hA H locs ls hP hD hS hl')
theorem ec_bi {i : Int} {v : Int32} (hd : decode M.2.1 pc = .ok (.bipush i, 2)) (hv : (Int8.ofInt i).toInt32 = v) (kk : Ec lc D a M QW AW (pc + 2) lv (.int v :: st) ws n k) : Ec lc D a M QW AW pc lv st ws n k :=
  fun p e s m args below meth c K hA H locs ls hP hD hS hl' => lv_bipush K.1 K.2.1 hd hv (kk p e s m args below meth c K hA H locs ls hP hD hS hl')
theorem ec_si {i : Int} {v : Int32} (hd : decode M.2.1 pc = .ok (.sipush i, 3)) (hv : (Int16.ofInt i).toInt32 = v) (kk : Ec lc D a M QW AW (pc + 3) lv (.int v :: st) ws n k) : Ec lc D a M QW AW pc lv st ws n k :=
  fun p e s m args below meth c K hA H locs ls hP hD hS hl' => lv_sipush K.1 K.2.1 hd hv (kk p e s m args below meth c K hA H locs ls hP hD hS hl')
theorem ec_l2 {i : Nat} {v : Int64} (wi : Nat) (hd : decode M.2.1 pc = .ok (.ldc2_w i, 3)) (hw : lw_tbl[wi]? = some (Cond.constantLong M.1.cls i v)) (kk : Ec lc D a M QW AW (pc + 3) lv (.long v :: st) ws n k) : Ec lc D a M QW AW pc lv st ws n k :=
  fun p e s m args below meth c K hA H locs ls hP hD hS hl' => lv_ldc2 K.1 K.2.1 K.2.2.2.2.1 (K.2.2.2.2.2.1 _ (GT_at hw rfl)) hd (kk p e s m args below meth c K hA H locs ls hP hD hS hl')
theorem ec_dup {v : Value} (hd : decode M.2.1 pc = .ok (.dup, 1)) (hv : v.category = 1) (kk : Ec lc D a M QW AW (pc + 1) lv (v :: v :: st) ws n k) : Ec lc D a M QW AW pc lv (v :: st) ws n k :=
  fun p e s m args below meth c K hA H locs ls hP hD hS hl' => lv_dup K.1 K.2.1 hd hv (kk p e s m args below meth c K hA H locs ls hP hD hS hl')
theorem ec_get {i ad : Nat} {fs : List Value} {C : String} {T : u_T} {N : Nat} {v : Value} (q0 ci fk wi : Nat) (hd : decode M.2.1 pc = .ok (.getfield i, 3)) (he : ws[q0]? = some (ad, .inr (ci, fs))) (hc : CLS[ci]? = some (C, T, N)) (hk : fk < N) (hw : lw_tbl[wi]? = some (Cond.fieldLink M.1.cls i C (T fk).2.1 (T fk).2.2.1)) (hsame : (T fk).1 = C) (hv : fs[fk]? = some v) (kk : Ec lc D a M QW AW (pc + 3) lv (v :: st) ws n k) : Ec lc D a M QW AW pc lv (.ref ad :: st) ws n k :=
  fun p e s m args below meth c K hA H locs ls hP hD hS hl' => va_get K.1 K.2.1 K.2.2.2.2.2.1 (cls_u hc).1 K.2.2.2.2.1 K.2.2.2.2.2.2.2.1 hP q0 he hc fk hk (K.2.2.2.2.2.1 _ (GT_at hw rfl)) (fun _ h9 => by rw [hsame] at h9; exact h9) hv hd (kk p e s m args below meth c K hA H locs ls hP hD hS hl')
theorem ec_put {i ad : Nat} {fs : List Value} {C : String} {T : u_T} {N : Nat} {v : Value} {ty : FieldType} {ws' : va_W} (q0 ci fk wi : Nat) (hd : decode M.2.1 pc = .ok (.putfield i, 3)) (he : ws[q0]? = some (ad, .inr (ci, fs))) (hc : CLS[ci]? = some (C, T, N)) (hk : fk < N) (hw : lw_tbl[wi]? = some (Cond.fieldLink M.1.cls i C (T fk).2.1 (T fk).2.2.1)) (hsame : (T fk).1 = C) (hfin : (T fk).2.2.2 = false) (hty : parseFieldDescriptor (T fk).2.2.1 = some ty) (hn : narrow ty v = v) (hf : fits ty v = true) (hl : fk < fs.length) (hws : ws.set q0 (ad, .inr (ci, fs.set fk v)) = ws') (kk : Ec lc D a M QW AW (pc + 3) lv st ws' n k) : Ec lc D a M QW AW pc lv (v :: .ref ad :: st) ws n k := by
  intro p e s m args below meth c K hA H locs ls hP hD hS hl'
  obtain ⟨hu, ty0, u1, u2⟩ := cls_u hc
  subst hws
  exact va_put K.1 K.2.1 K.2.2.2.2.2.1 hu ty0 u1 u2 K.2.2.2.2.1 K.2.2.2.2.2.2.2.1 hP hD hS q0 he hc fk hk (K.2.2.2.2.2.1 _ (GT_at hw rfl)) (fun _ h9 => by rw [hsame] at h9; exact h9) hfin hty hn hf hl hd (fun H1 locs1 hP1 hD1 hS1 => kk p e s m args below meth c K hA H1 locs1 ls hP1 hD1 hS1 hl')
theorem ec_putF {i ad : Nat} {fs : List Value} {C : String} {T : u_T} {N : Nat} {v : Value} {ty : FieldType} {ws' : va_W} (q0 ci fk wi : Nat) (hM : M.2.2.2.2.1 = true) (hd : decode M.2.1 pc = .ok (.putfield i, 3)) (he : ws[q0]? = some (ad, .inr (ci, fs))) (hc : CLS[ci]? = some (C, T, N)) (hk : fk < N) (hw : lw_tbl[wi]? = some (Cond.fieldLink M.1.cls i C (T fk).2.1 (T fk).2.2.1)) (hsame : (T fk).1 = C) (hown : (T fk).1 = M.1.cls) (hfin : (T fk).2.2.2 = true) (hty : parseFieldDescriptor (T fk).2.2.1 = some ty) (hn : narrow ty v = v) (hf : fits ty v = true) (hl : fk < fs.length) (hws : ws.set q0 (ad, .inr (ci, fs.set fk v)) = ws') (kk : Ec lc D a M QW AW (pc + 3) lv st ws' n k) : Ec lc D a M QW AW pc lv (v :: .ref ad :: st) ws n k := by
  intro p e s m args below meth c K hA H locs ls hP hD hS hl'
  obtain ⟨hu, ty0, u1, u2⟩ := cls_u hc
  subst hws
  exact va_putF K.1 K.2.1 K.2.2.2.2.2.1 hu ty0 u1 u2 K.2.2.2.2.1 K.2.2.2.2.2.2.2.1 hP hD hS q0 he hc fk hk (K.2.2.2.2.2.1 _ (GT_at hw rfl)) (fun _ h9 => by rw [hsame] at h9; exact h9) hfin (K.2.2.2.2.2.2.1 hM) hown hty hn hf hl hd (fun H1 locs1 hP1 hD1 hS1 => kk p e s m args below meth c K hA H1 locs1 ls hP1 hD1 hS1 hl')
theorem ec_newa {at' : ArrayType} {v : Int32} {a0 : vp_A} {ty : FieldType} {ws' : Nat → va_W} (t N wi : Nat) (hd : decode M.2.1 pc = .ok (.newarray at', 2)) (hty : newarray.typeOf at' = ty) (ht : (tysA a)[t]? = some (a t, ty)) (hprim : ∀ (U : State) (c : ClassId), va_RA U c ty → U.vm.findClass ("[" ++ ty.toString) = some c) (hw : lw_tbl[wi]? = some (Cond.arrayClass ty)) (ha : ∀ cA : ClassId, vp_cell cA a0 = arrV cA N (fun _ => defaultValue ty)) (hn : ¬ v < 0) (hN : v.toNatClampNeg = N) (hby : N * componentBytes ty ≤ 536870912) (hc1 : n + 1 ≤ M.2.2.2.2.2.cells) (hs1 : k + N ≤ M.2.2.2.2.2.slots) (hws : ∀ q, ws ++ [(q, .inl (a t, a0))] = ws' q) (kk : ∀ q, Ec lc D a M QW AW (pc + 2) lv (.ref q :: st) (ws' q) (n + 1) (k + N)) : Ec lc D a M QW AW pc lv (.int v :: st) ws n k := by
  intro p e s m args below meth c K hA H locs ls hP hD hS hl'
  subst hty
  refine va_newa K.1 K.2.1 (K.2.2.2.2.2.1 _ (GT_at hw rfl)) rfl K.2.2.2.2.2.2.2.1 hP hD hS hA ha hn hN hby hc1 hs1 hd (fun q cA H1 hK1 hP1 hD1 hS1 => ?_)
  have h1 := hprim s cA ((hK1.2 (tysA a).length (cA, newarray.typeOf at') (by simp)).2)
  have h2 := hprim s (a t) ((K.2.2.2.2.2.2.2.1.2 t _ ht).2)
  have e1 : cA = a t := Option.some.inj (h1.symm.trans h2)
  subst e1
  rw [hws q] at hP1 hD1
  exact kk q p e s m args below meth c K hA H1 locs ls hP1 hD1 hS1 hl'
theorem ec_new {i : Nat} {C : String} {T : u_T} {N : Nat} {fs : List Value} {ws' : Nat → va_W} (ci wl wi wn : Nat) (ty : Nat → FieldType) (hty : ∀ j, j < N → parseFieldDescriptor (T j).2.2.1 = some (ty j)) (hd : decode M.2.1 pc = .ok (.new i, 3)) (hc : CLS[ci]? = some (C, T, N)) (h1 : lw_tbl[wl]? = some (Cond.classLink M.1.cls i C)) (h2 : lw_tbl[wi]? = some (Cond.instantiable C N)) (h3 : lw_tbl[wn]? = some (Cond.initialized C)) (hfs : ∀ j, j < N → defaultValue (ty j) = vp_V fs j) (hc1 : n + 1 ≤ M.2.2.2.2.2.cells) (hs1 : k + N ≤ M.2.2.2.2.2.slots) (hws : ∀ q, ws ++ [(q, .inr (ci, fs))] = ws' q) (kk : ∀ q, Ec lc D a M QW AW (pc + 3) lv (.ref q :: st) (ws' q) (n + 1) (k + N)) : Ec lc D a M QW AW pc lv st ws n k := by
  intro p e s m args below meth c K hA H locs ls hP hD hS hl'
  obtain ⟨hu, -⟩ := cls_u hc
  refine va_new K.1 K.2.1 K.2.2.2.2.2.1 hu ty hty K.2.2.2.2.1 (K.2.2.2.2.2.1 _ (GT_at h1 rfl)) (K.2.2.2.2.2.1 _ (GT_at h2 rfl)) (K.2.2.2.2.2.1 _ (GT_at h3 rfl)) K.2.2.2.2.2.2.2.1 hP hD hS hA hc hfs hc1 hs1 hd (fun q H1 hP1 hD1 hS1 => ?_)
  rw [hws q] at hP1 hD1
  exact kk q p e s m args below meth c K hA H1 locs ls hP1 hD1 hS1 hl'
theorem ec_obj {i ad : Nat} (wi : Nat) (hd : decode M.2.1 pc = .ok (.invokespecial i, 3)) (hw : lw_tbl[wi]? = some (Cond.methodLink M.1.cls i Lib.objectInit)) (h1 : lw_tbl[71]? = some (Cond.instanceMethod Lib.objectInit)) (h2 : lw_tbl[72]? = some (Cond.code Lib.objectInit ⟨#[0xb1]⟩ 1 none)) (hf : 1 ≤ M.2.2.2.2.2.frames) (hlo : 12 ≤ M.2.2.2.2.2.locals) (kk : Ec lc D a M QW AW (pc + 3) lv [] ws n k) : Ec lc D a M QW AW pc lv [.ref ad] ws n k := by
  intro p e s m args below meth c K hA H locs ls hP hD hS hl'
  refine W.objInit K.1 K.2.1 K.2.2.2.2.1 (K.2.2.2.2.2.1 _ (GT_at hw rfl)) (K.2.2.2.2.2.1 _ (GT_at h1 rfl)) (K.2.2.2.2.2.1 _ (GT_at h2 rfl)) rfl (by rw [K.2.2.2.1]; exact hl'.1) rfl hd hf hlo ?_
  exact W.eq (g2 := F0 m (pc + 3) ls []) rfl (kk p e s m args below meth c K hA H locs ls hP hD hS hl')
theorem ec_wide {n' k' : Nat} (h1 : n ≤ n') (h2 : k ≤ k') (kk : Ec lc D a M QW AW pc lv st ws n' k') : Ec lc D a M QW AW pc lv st ws n k :=
  fun p e s m args below meth c K hA H locs ls hP hD hS hl' => W.widen h1 h2 (kk p e s m args below meth c K hA H locs ls hP hD hS hl')
theorem ec_ast {kf : Fin 4} {b : Nat} {lv' : List (Nat × Value)} (hd : decode M.2.1 pc = .ok (.astore_n kf, 1)) (hn : kf.val < M.2.2.1) (hl : (kf.val, Value.ref b) :: lv.filter (fun q => !(q.1 == kf.val) && !(q.1 + 1 == kf.val && q.2.category == 2)) = lv') (kk : Ec lc D a M QW AW (pc + 1) lv' st ws n k) : Ec lc D a M QW AW pc lv (.ref b :: st) ws n k :=
  fun p e s m args below meth c K hA H locs ls hP hD hS hl' => lv_astore_n K.1 K.2.1 hd rfl hl' hn hl (fun ls1 hl1 => kk p e s m args below meth c K hA H locs ls1 hP hD hS hl1)
end EC
/-- a constructor's contract: from the world w0 it comes to a world that Post tells -/
def PcC (D : va_G) (a : Nat → ClassId) (w0 : va_W) (sz : Nat) (U : State) : Prop := U.heap.size = sz ∧ va_P D CLS w0 U.heap ∧ va_K D CLS (tysA a) U ∧ va_D (fun _ => True) w0 ∧ NW U
def QcC (D : va_G) (w0 : va_W) (Post : va_W → Prop) (sz : Nat) : Array Value → State → Outcome → State → Prop := va_Qv (fun w1 : va_W => Post w1) (fun w1 t => va_P D CLS w1 t.heap ∧ va_D (va_A w0 sz) w1) (va_A w0 sz)
def CON (lc : Launch) (D : va_G) (a : Nat → ClassId) (M : CM) (As : List Value) (w0 : va_W) (Post : va_W → Prop) : Prop :=
  ∀ sz : Nat, Met lc M.1 (Cond.code M.1 M.2.1 M.2.2.1 M.2.2.2.1 :: GT) M.2.2.2.2.2 (va_Pc As (PcC D a w0 sz)) (QcC D w0 Post sz) M.2.2.2.2.2.cells M.2.2.2.2.2.slots (va_A w0 sz)
/-- the end that a constructor's contract asks for -/
def QWC (D : va_G) (M : CM) (w0 : va_W) (Post : va_W → Prop) : Array Value → List Frame → State → State → Prop := fun args below s => MQ below (QcC D w0 Post s.heap.size) args s M.2.2.2.2.2.cells M.2.2.2.2.2.slots (va_A w0 s.heap.size)
section EC2
variable {lc : Launch} {D : va_G} {a : Nat → ClassId} {M : CM} {pc n k : Nat} {lv : List (Nat × Value)} {st : List Value} {ws w0 : va_W} {Post : va_W → Prop}
theorem ec_ret (hr : M.2.2.2.1 = none) (hd : decode M.2.1 pc = .ok (.return_, 1)) (h1 : n ≤ M.2.2.2.2.2.cells) (h2 : k ≤ M.2.2.2.2.2.slots) (hp : Post ws) : Ec lc D a M (QWC D M w0 Post) (fun s => va_A w0 s.heap.size) pc lv [] ws n k := by
  intro p e s m args below meth c K hA H locs ls hP hD hS hl'
  have hlocks := K.2.2.2.2.2.2.2.2.2
  refine W.widen h1 h2 ?_
  exact W.vret K.1 K.2.1 (K.2.2.1.trans hr) (fun t ht hW => ⟨⟨ws, rfl, hp, by rw [ht]; exact hP, hD⟩, hS.F ht⟩) hS.2.2 hd
theorem con_of {As : List Value} (hpl : plainName M.1.cls = true) (hr : M.2.2.2.1 = none) (hnm : M.2.2.2.2.1 = true → M.1.name = "<init>") (hsl : (lg_sl As).length ≤ M.2.2.1) (h : Ec lc D a M (QWC D M w0 Post) (fun s => va_A w0 s.heap.size) 0 (lv_args 0 As) [] w0 0 0) : CON lc D a M As w0 Post := by
  intro sz
  refine Met.ofW (cc := M.2.1) (maxL := M.2.2.1) (ret := M.2.2.2.1) hpl rfl ?_
  intro p e s m args below meth c s₁ B hml hv
  obtain ⟨rfl, hsz, hP, hK, hD0, hN⟩ := hv
  have hts := atoms_spec (ws := Cond.code M.1 M.2.1 M.2.2.1 M.2.2.2.1 :: GT) B.pre
  subst hsz
  have hl := lv_entry As (n := M.2.2.1) hsl
  rw [lg_entry_eq]
  exact h p e s m _ below meth c ⟨B.exec, B.bytes, B.returns, hml, findClass_of_methodNamed B.named, fun w hw => hts w (List.mem_cons_of_mem _ hw), fun hi => (name_of_methodNamed B.named B.method).1.trans (hnm hi), hK, hN, B.notSynchronized⟩ (fun q hq => Or.inr hq) s.heap [] _ hP (hD0.self (sz := s.heap.size)) va_S.rf hl
theorem PcC_blind {w : va_W} {sz : Nat} (av : List Value) : FrameBlind (va_Pc av (PcC D a w sz)) := fun x U g mk q => by
  obtain ⟨q0, q1, qP, qK, qD, qN⟩ := q
  exact ⟨q0, q1, qP, va_K.moved (u := U) (U := U.calling g mk x) (Vm.Alike.refl U.vm) qK, qD, qN.call g mk x⟩
theorem goodC {M' : CM} {wi : Nat} (h : lw_tbl[wi]? = some (Cond.code M'.1 M'.2.1 M'.2.2.1 M'.2.2.2.1)) : GoodIn GT (Cond.code M'.1 M'.2.1 M'.2.2.1 M'.2.2.2.1 :: GT) := by
  intro w hw
  rcases List.mem_cons.mp hw with rfl | h'
  · exact ⟨GT_at h rfl, GT_good (GT_at h rfl)⟩
  · exact ⟨h', GT_good h'⟩
end EC2
theorem fm_of {ws : va_W} : ∀ {is : List Nat} {wc : va_W}, is.map (fun i => ws[i]?) = wc.map some → is.filterMap (fun i => ws[i]?) = wc
  | [], [], _ => rfl
  | [], _ :: _, h => by cases h
  | _ :: _, [], h => by cases h
  | i :: is, q :: wc, h => by
    rw [List.map_cons, List.map_cons] at h
    obtain ⟨h1, h2⟩ := List.cons.inj h
    rw [List.filterMap_cons, h1, fm_of h2]
section EC3
variable {lc : Launch} {D : va_G} {a : Nat → ClassId} {M M' : CM} {QW : Array Value → List Frame → State → State → Prop} {AW : State → Nat → Prop} {pc n k : Nat} {lv : List (Nat × Value)} {st : List Value} {ws wc wr : va_W} {Post : va_W → Prop}
/-- behind a constructor's call -/
theorem ec_back {p : Program} {e : Env} {s : State} {m : MethodId} {args : Array Value} {below : List Frame} {meth : Method} {c : Code} {H : Heap} {locs : List Loc} {ls : Array Slot} {st0 : List Value} {x : Array Value} (isC isR : List Nat) (hC : isC.map (fun i => ws[i]?) = wc.map some) (hR : isR.map (fun i => ws[i]?) = wr.map some) (hn : va_nd isR = true) (hdis : ∀ i ∈ isR, i ∉ isC)
    (K : Kx D a M p s m args meth c) (hA : ∀ q, s.heap.size ≤ q → AW s q) (hP : va_P D CLS ws H) (hD : va_D (AW s) ws) (hS : va_S (AW s) s.heap H locs) (hl : lv_has ls M.2.2.1 lv)
    (hr : va_Run p lc e M.2.2.2.2.2 s m args below meth c H locs n k M'.2.2.2.2.2.cells M'.2.2.2.2.2.slots (F0 m pc ls st0) st (QcC D wc Post H.size x) (va_A wc H.size))
    (kk : ∀ w1, Post w1 → Ec lc D a M QW AW (pc + 3) lv st (wr ++ w1) (n + M'.2.2.2.2.2.cells) (k + M'.2.2.2.2.2.slots)) : W p lc e M.2.2.2.2.2 s m args below meth c H locs n k (QW args below s) (F0 m pc ls st0) := by
  have hFc := va_free (wc := wc) hD hS hA isC hC
  refine va_callv hr hS (fun q _ h => hFc q h) hFc (fun u t H1 locs1 ht hvm hw hB hz1 hk1 hS1 => ?_)
  obtain ⟨hP1, hD1⟩ := hB
  rw [ht] at hP1
  obtain ⟨hP2, hD2⟩ := va_join (wr := wr) (w1 := u) hP hD isC isR hC hR hn hdis hk1 hFc hP1 hD1
  exact kk u hw p e s m args below meth c K hA H1 locs1 ls hP2 hD2 hS1 hl
theorem ec_pre (isC : List Nat) {As : List Value} (hC : isC.map (fun i => ws[i]?) = wc.map some) (hnC : va_nd isC = true) {p : Program} {s : State} {m : MethodId} {args : Array Value} {meth : Method} {c : Code} {H : Heap} (K : Kx D a M p s m args meth c) (hP : va_P D CLS ws H) (hD : va_D (AW s) ws) : PreS s H (va_Pc As (PcC D a wc H.size)) As :=
  ⟨PcC_blind As, fun U hU hW => ⟨rfl, by rw [hU], by rw [hU]; exact hP.sub isC (fm_of hC), va_K.moved hW.alike K.2.2.2.2.2.2.2.1, (hD.sub isC hnC hC).weaken (fun _ _ _ _ => trivial), K.2.2.2.2.2.2.2.2.1.warm hW⟩⟩
theorem ec_ci {i b np : Nat} {As : List Value} (isC isR : List Nat) (wl wi wc' wn : Nat) (hcon : CON lc D a M' (.ref b :: As) wc Post) (hd : decode M.2.1 pc = .ok (.invokespecial i, 3)) (hr0 : M'.2.2.2.1 = none) (hnm : M'.1.name = "<init>") (h1 : lw_tbl[wl]? = some (Cond.methodLink M.1.cls i M'.1)) (h2 : lw_tbl[wi]? = some (Cond.instanceMethod M'.1)) (h3 : lw_tbl[wc']? = some (Cond.code M'.1 M'.2.1 M'.2.2.1 M'.2.2.2.1)) (h4 : lw_tbl[wn]? = some (Cond.initialized M'.1.cls)) (hds : M'.1.cls ≠ "java/lang/invoke/MethodHandle" ∧ M'.1.cls ≠ "java/lang/invoke/VarHandle" ∧ (parseMethodDescriptor M'.1.desc).map (fun d => d.parameters.length) = some np)
    (hrm : M'.2.2.2.2.2.frames + 1 ≤ M.2.2.2.2.2.frames ∧ 8 + (M'.2.2.1 + 11) + M'.2.2.2.2.2.locals ≤ M.2.2.2.2.2.locals) (hlen : As.length = np) (hcat : (st.map fun v => v.category).sum ≤ 8) (hf : n + M'.2.2.2.2.2.cells ≤ M.2.2.2.2.2.cells ∧ k + M'.2.2.2.2.2.slots ≤ M.2.2.2.2.2.slots)
    (hC : isC.map (fun i => ws[i]?) = wc.map some) (hnC : va_nd isC = true) (hR : isR.map (fun i => ws[i]?) = wr.map some) (hn : va_nd isR = true) (hdis : ∀ i ∈ isR, i ∉ isC) (kk : ∀ w1, Post w1 → Ec lc D a M QW AW (pc + 3) lv st (wr ++ w1) (n + M'.2.2.2.2.2.cells) (k + M'.2.2.2.2.2.slots)) : Ec lc D a M QW AW pc lv (As.reverse ++ .ref b :: st) ws n k := by
  intro p e s m args below meth c K hA H locs ls hP hD hS hl'
  have hc3 : lw_tbl[wc']? = some (Cond.code M'.1 M'.2.1 M'.2.2.1 none) := by rw [h3, hr0]
  have hcon' := hcon H.size
  have hg := goodC h3
  rw [hr0] at hcon' hg
  exact ec_back isC isR hC hR hn hdis K hA hP hD hS hl' (va_runI (Ts := GT) (own := M.1.cls) (As := As) (n := np) (b := b) (rest := st) ⟨K.1, K.2.1, K.2.2.2.1, K.2.2.2.2.1, K.2.2.2.2.2.1⟩ hcon' (cwI np K.2.2.2.2.2.1 hg rfl rfl rfl (K.2.2.2.2.2.1 _ (GT_at h4 rfl)) (K.2.2.2.2.2.1 _ (GT_at h1 rfl)) (K.2.2.2.2.2.1 _ (GT_at h2 rfl)) hnm hds hrm) (ec_pre isC hC hnC K hP hD) rfl hlen hl'.1 rfl (lv_room hcat) hd hf) kk
theorem ec_cn {i b np : Nat} {As : List Value} (isC isR : List Nat) (wi wc' wn : Nat) (hcon : CON lc D a M' (.ref b :: As) wc Post) (hd : decode M.2.1 pc = .ok (.invokespecial i, 3)) (hr0 : M'.2.2.2.1 = none) (hnm : M'.1.name = "<init>") (h1 : (M.1.cls, i, M'.1) ∈ nestL) (h2 : lw_tbl[wi]? = some (Cond.instanceMethod M'.1)) (h3 : lw_tbl[wc']? = some (Cond.code M'.1 M'.2.1 M'.2.2.1 M'.2.2.2.1)) (h4 : lw_tbl[wn]? = some (Cond.initialized M'.1.cls)) (hds : M'.1.cls ≠ "java/lang/invoke/MethodHandle" ∧ M'.1.cls ≠ "java/lang/invoke/VarHandle" ∧ (parseMethodDescriptor M'.1.desc).map (fun d => d.parameters.length) = some np)
    (hrm : M'.2.2.2.2.2.frames + 1 ≤ M.2.2.2.2.2.frames ∧ 8 + (M'.2.2.1 + 11) + M'.2.2.2.2.2.locals ≤ M.2.2.2.2.2.locals) (hlen : As.length = np) (hcat : (st.map fun v => v.category).sum ≤ 8) (hf : n + M'.2.2.2.2.2.cells ≤ M.2.2.2.2.2.cells ∧ k + M'.2.2.2.2.2.slots ≤ M.2.2.2.2.2.slots)
    (hC : isC.map (fun i => ws[i]?) = wc.map some) (hnC : va_nd isC = true) (hR : isR.map (fun i => ws[i]?) = wr.map some) (hn : va_nd isR = true) (hdis : ∀ i ∈ isR, i ∉ isC) (kk : ∀ w1, Post w1 → Ec lc D a M QW AW (pc + 3) lv st (wr ++ w1) (n + M'.2.2.2.2.2.cells) (k + M'.2.2.2.2.2.slots)) : Ec lc D a M QW AW pc lv (As.reverse ++ .ref b :: st) ws n k := by
  intro p e s m args below meth c K hA H locs ls hP hD hS hl'
  have hcon' := hcon H.size
  have hg := goodC h3
  rw [hr0] at hcon' hg
  exact ec_back isC isR hC hR hn hdis K hA hP hD hS hl' (va_runIN (Ts := GT) (own := M.1.cls) (host := RX7) (As := As) (n := np) (b := b) (rest := st) ⟨K.1, K.2.1, K.2.2.2.1, K.2.2.2.2.1, K.2.2.2.2.2.1⟩ hcon' ⟨va_cnB np K.2.2.2.2.2.1 hg rfl rfl rfl (K.2.2.2.2.2.2.2.2.1 _ h1) (K.2.2.2.2.2.1 _ (GT_at h4 rfl)) hds hrm, hnm, K.2.2.2.2.2.1 _ (GT_at h2 rfl)⟩ (ec_pre isC hC hnC K hP hD) rfl hlen hl'.1 rfl (lv_room hcat) hd hf) kk
theorem ec_cv {i b np ci q0 : Nat} {As fs : List Value} {T : u_T} {N : Nat} (isC isR : List Nat) (wl wi wc' wn wv : Nat) (hcon : CON lc D a M' (.ref b :: As) wc Post) (hd : decode M.2.1 pc = .ok (.invokevirtual i, 3)) (h1 : lw_tbl[wl]? = some (Cond.methodLink M.1.cls i M'.1)) (h2 : lw_tbl[wi]? = some (Cond.instanceMethod M'.1)) (h3 : lw_tbl[wc']? = some (Cond.code M'.1 M'.2.1 M'.2.2.1 M'.2.2.2.1)) (h4 : lw_tbl[wn]? = some (Cond.initialized M'.1.cls)) (h5 : lw_tbl[wv]? = some (Cond.selects M'.1.cls M'.1 M'.1)) (hds : M'.1.cls ≠ "java/lang/invoke/MethodHandle" ∧ M'.1.cls ≠ "java/lang/invoke/VarHandle" ∧ (parseMethodDescriptor M'.1.desc).map (fun d => d.parameters.length) = some np)
    (hrm : M'.2.2.2.2.2.frames + 1 ≤ M.2.2.2.2.2.frames ∧ 8 + (M'.2.2.1 + 11) + M'.2.2.2.2.2.locals ≤ M.2.2.2.2.2.locals) (hlen : As.length = np) (hcat : (st.map fun v => v.category).sum ≤ 8) (hf : n + M'.2.2.2.2.2.cells ≤ M.2.2.2.2.2.cells ∧ k + M'.2.2.2.2.2.slots ≤ M.2.2.2.2.2.slots)
    (he : ws[q0]? = some (b, .inr (ci, fs))) (hcl : CLS[ci]? = some (M'.1.cls, T, N))
    (hC : isC.map (fun i => ws[i]?) = wc.map some) (hnC : va_nd isC = true) (hR : isR.map (fun i => ws[i]?) = wr.map some) (hn : va_nd isR = true) (hdis : ∀ i ∈ isR, i ∉ isC) (kk : ∀ w1, Post w1 → Ec lc D a M QW AW (pc + 3) lv st (wr ++ w1) (n + M'.2.2.2.2.2.cells) (k + M'.2.2.2.2.2.slots)) : Ec lc D a M QW AW pc lv (As.reverse ++ .ref b :: st) ws n k := by
  intro p e s m args below meth c K hA H locs ls hP hD hS hl'
  have hpre := ec_pre (As := .ref b :: As) isC hC hnC K hP hD
  exact ec_back isC isR hC hR hn hdis K hA hP hD hS hl' (va_runV (Ts := GT) (own := M.1.cls) (C := M'.1.cls) (As := As) (n := np) (b := b) (rest := st) ⟨K.1, K.2.1, K.2.2.2.1, K.2.2.2.2.1, K.2.2.2.2.2.1⟩ (hcon H.size) ⟨callB_of np K.2.2.2.2.2.1 (goodC h3) rfl rfl rfl (K.2.2.2.2.2.1 _ (GT_at h4 rfl)) (K.2.2.2.2.2.1 _ (GT_at h1 rfl)) hds hrm, K.2.2.2.2.2.1 _ (GT_at h2 rfl), K.2.2.2.2.2.1 _ (GT_at h5 rfl)⟩ ⟨hpre.1, va_recv K.2.2.2.2.2.2.2.1 hP hcl he, hpre.2⟩ rfl hlen hl'.1 rfl (lv_room hcat) hd hf) kk
end EC3
end
