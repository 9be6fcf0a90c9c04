section
-- ===== PART A: goes FIRST, ahead of the names: the tables' words, and 'selects' of the private methods out of them =====
/-- a private method of a class that the tables say can be made, by its rows of tables_1 -/
def lw_okq (q : MethodName × Nat) : Prop := (q.1.cls ≠ "java/lang/invoke/MethodHandle" ∧ q.1.cls ≠ "java/lang/invoke/VarHandle") ∧ Cond.instantiable q.1.cls q.2 ∈ tables_1 ∧ Cond.privateMethod q.1 ∈ tables_1 ∧ Cond.instanceMethod q.1 ∈ tables_1
theorem lw_p0 : lw_okq (⟨"TagCoder", "keep", "(LTagCoder$Type;)I"⟩, 6) := ⟨⟨by decide +kernel, by decide +kernel⟩, List.mem_of_getElem? (i := 15) (by decide +kernel), List.mem_of_getElem? (i := 156) (by decide +kernel), List.mem_of_getElem? (i := 157) (by decide +kernel)⟩
theorem lw_p1 : lw_okq (⟨"TagCoder", "typeAt", "(I)LTagCoder$Type;"⟩, 6) := ⟨⟨by decide +kernel, by decide +kernel⟩, List.mem_of_getElem? (i := 15) (by decide +kernel), List.mem_of_getElem? (i := 164) (by decide +kernel), List.mem_of_getElem? (i := 165) (by decide +kernel)⟩
theorem lw_p2 : lw_okq (⟨"TagCoder$Members", "clashesBehind", "(I)Z"⟩, 5) := ⟨⟨by decide +kernel, by decide +kernel⟩, List.mem_of_getElem? (i := 202) (by decide +kernel), List.mem_of_getElem? (i := 262) (by decide +kernel), List.mem_of_getElem? (i := 263) (by decide +kernel)⟩
theorem lw_p3 : lw_okq (⟨"java/lang/Throwable", "fillInStackTrace", "(I)Ljava/lang/Throwable;"⟩, 6) := ⟨⟨by decide +kernel, by decide +kernel⟩, List.mem_of_getElem? (i := 355) (by decide +kernel), List.mem_of_getElem? (i := 353) (by decide +kernel), List.mem_of_getElem? (i := 354) (by decide +kernel)⟩
theorem lw_p4 : lw_okq (⟨"TagCoder$Recoder", "value", "(LTagCoder$Type;II)V"⟩, 10) := ⟨⟨by decide +kernel, by decide +kernel⟩, List.mem_of_getElem? (i := 42) (by decide +kernel), List.mem_of_getElem? (i := 389) (by decide +kernel), List.mem_of_getElem? (i := 390) (by decide +kernel)⟩
theorem lw_p5 : lw_okq (⟨"TagCoder$Recoder", "readIdentifier", "(I)V"⟩, 10) := ⟨⟨by decide +kernel, by decide +kernel⟩, List.mem_of_getElem? (i := 42) (by decide +kernel), List.mem_of_getElem? (i := 408) (by decide +kernel), List.mem_of_getElem? (i := 409) (by decide +kernel)⟩
theorem lw_p6 : lw_okq (⟨"TagCoder$Recoder", "next", "(I)I"⟩, 10) := ⟨⟨by decide +kernel, by decide +kernel⟩, List.mem_of_getElem? (i := 42) (by decide +kernel), List.mem_of_getElem? (i := 412) (by decide +kernel), List.mem_of_getElem? (i := 413) (by decide +kernel)⟩
theorem lw_p7 : lw_okq (⟨"TagCoder$Recoder", "readLongNumber", "(I)I"⟩, 10) := ⟨⟨by decide +kernel, by decide +kernel⟩, List.mem_of_getElem? (i := 42) (by decide +kernel), List.mem_of_getElem? (i := 416) (by decide +kernel), List.mem_of_getElem? (i := 417) (by decide +kernel)⟩
theorem lw_p8 : lw_okq (⟨"TagCoder$Recoder", "readLength", "(I)V"⟩, 10) := ⟨⟨by decide +kernel, by decide +kernel⟩, List.mem_of_getElem? (i := 42) (by decide +kernel), List.mem_of_getElem? (i := 420) (by decide +kernel), List.mem_of_getElem? (i := 421) (by decide +kernel)⟩
theorem lw_p9 : lw_okq (⟨"TagCoder$Recoder", "membersOf", "(LTagCoder$Members;I)V"⟩, 10) := ⟨⟨by decide +kernel, by decide +kernel⟩, List.mem_of_getElem? (i := 42) (by decide +kernel), List.mem_of_getElem? (i := 441) (by decide +kernel), List.mem_of_getElem? (i := 442) (by decide +kernel)⟩
theorem lw_p10 : lw_okq (⟨"TagCoder$Recoder", "goesOn", "(IZ)Z"⟩, 10) := ⟨⟨by decide +kernel, by decide +kernel⟩, List.mem_of_getElem? (i := 42) (by decide +kernel), List.mem_of_getElem? (i := 445) (by decide +kernel), List.mem_of_getElem? (i := 446) (by decide +kernel)⟩
theorem lw_p11 : lw_okq (⟨"TagCoder$Recoder", "peekTag", "(I)I"⟩, 10) := ⟨⟨by decide +kernel, by decide +kernel⟩, List.mem_of_getElem? (i := 42) (by decide +kernel), List.mem_of_getElem? (i := 449) (by decide +kernel), List.mem_of_getElem? (i := 450) (by decide +kernel)⟩
theorem lw_p12 : lw_okq (⟨"TagCoder$Recoder", "settle", "(IIZ)V"⟩, 10) := ⟨⟨by decide +kernel, by decide +kernel⟩, List.mem_of_getElem? (i := 42) (by decide +kernel), List.mem_of_getElem? (i := 454) (by decide +kernel), List.mem_of_getElem? (i := 455) (by decide +kernel)⟩
theorem lw_p13 : lw_okq (⟨"TagCoder$Octets", "identifierEnd", "(I)I"⟩, 2) := ⟨⟨by decide +kernel, by decide +kernel⟩, List.mem_of_getElem? (i := 25) (by decide +kernel), List.mem_of_getElem? (i := 462) (by decide +kernel), List.mem_of_getElem? (i := 463) (by decide +kernel)⟩
theorem lw_p14 : lw_okq (⟨"TagCoder$Recoder", "isBelow", "(III)Z"⟩, 10) := ⟨⟨by decide +kernel, by decide +kernel⟩, List.mem_of_getElem? (i := 42) (by decide +kernel), List.mem_of_getElem? (i := 473) (by decide +kernel), List.mem_of_getElem? (i := 474) (by decide +kernel)⟩
theorem lw_p15 : lw_okq (⟨"TagCoder$Octets", "turnRound", "(II)V"⟩, 2) := ⟨⟨by decide +kernel, by decide +kernel⟩, List.mem_of_getElem? (i := 25) (by decide +kernel), List.mem_of_getElem? (i := 484) (by decide +kernel), List.mem_of_getElem? (i := 485) (by decide +kernel)⟩
def lw_privs_1 : List (MethodName × Nat) := [(⟨"TagCoder", "keep", "(LTagCoder$Type;)I"⟩, 6), (⟨"TagCoder", "typeAt", "(I)LTagCoder$Type;"⟩, 6), (⟨"TagCoder$Members", "clashesBehind", "(I)Z"⟩, 5), (⟨"java/lang/Throwable", "fillInStackTrace", "(I)Ljava/lang/Throwable;"⟩, 6), (⟨"TagCoder$Recoder", "value", "(LTagCoder$Type;II)V"⟩, 10), (⟨"TagCoder$Recoder", "readIdentifier", "(I)V"⟩, 10), (⟨"TagCoder$Recoder", "next", "(I)I"⟩, 10), (⟨"TagCoder$Recoder", "readLongNumber", "(I)I"⟩, 10), (⟨"TagCoder$Recoder", "readLength", "(I)V"⟩, 10), (⟨"TagCoder$Recoder", "membersOf", "(LTagCoder$Members;I)V"⟩, 10), (⟨"TagCoder$Recoder", "goesOn", "(IZ)Z"⟩, 10), (⟨"TagCoder$Recoder", "peekTag", "(I)I"⟩, 10), (⟨"TagCoder$Recoder", "settle", "(IIZ)V"⟩, 10), (⟨"TagCoder$Octets", "identifierEnd", "(I)I"⟩, 2), (⟨"TagCoder$Recoder", "isBelow", "(III)Z"⟩, 10), (⟨"TagCoder$Octets", "turnRound", "(II)V"⟩, 2)]
theorem lw_r1 : ∀ q ∈ lw_privs_1, lw_okq q := List.forall_mem_cons.mpr ⟨lw_p0, List.forall_mem_cons.mpr ⟨lw_p1, List.forall_mem_cons.mpr ⟨lw_p2, List.forall_mem_cons.mpr ⟨lw_p3, List.forall_mem_cons.mpr ⟨lw_p4, List.forall_mem_cons.mpr ⟨lw_p5, List.forall_mem_cons.mpr ⟨lw_p6, List.forall_mem_cons.mpr ⟨lw_p7, List.forall_mem_cons.mpr ⟨lw_p8, List.forall_mem_cons.mpr ⟨lw_p9, List.forall_mem_cons.mpr ⟨lw_p10, List.forall_mem_cons.mpr ⟨lw_p11, List.forall_mem_cons.mpr ⟨lw_p12, List.forall_mem_cons.mpr ⟨lw_p13, List.forall_mem_cons.mpr ⟨lw_p14, List.forall_mem_cons.mpr ⟨lw_p15, fun _ h => absurd h List.not_mem_nil⟩⟩⟩⟩⟩⟩⟩⟩⟩⟩⟩⟩⟩⟩⟩⟩
theorem lw_p16 : lw_okq (⟨"TagCoder$Recoder", "valuesOf", "(LTagCoder$Type;I)V"⟩, 10) := ⟨⟨by decide +kernel, by decide +kernel⟩, List.mem_of_getElem? (i := 42) (by decide +kernel), List.mem_of_getElem? (i := 492) (by decide +kernel), List.mem_of_getElem? (i := 493) (by decide +kernel)⟩
theorem lw_p17 : lw_okq (⟨"TagCoder$Recoder", "innerOf", "(LTagCoder$Type;I)V"⟩, 10) := ⟨⟨by decide +kernel, by decide +kernel⟩, List.mem_of_getElem? (i := 42) (by decide +kernel), List.mem_of_getElem? (i := 496) (by decide +kernel), List.mem_of_getElem? (i := 497) (by decide +kernel)⟩
theorem lw_p18 : lw_okq (⟨"TagCoder$Recoder", "bitString", "()V"⟩, 10) := ⟨⟨by decide +kernel, by decide +kernel⟩, List.mem_of_getElem? (i := 42) (by decide +kernel), List.mem_of_getElem? (i := 500) (by decide +kernel), List.mem_of_getElem? (i := 501) (by decide +kernel)⟩
theorem lw_p19 : lw_okq (⟨"TagCoder$Recoder", "string", "(II)V"⟩, 10) := ⟨⟨by decide +kernel, by decide +kernel⟩, List.mem_of_getElem? (i := 42) (by decide +kernel), List.mem_of_getElem? (i := 505) (by decide +kernel), List.mem_of_getElem? (i := 506) (by decide +kernel)⟩
theorem lw_p20 : lw_okq (⟨"TagCoder$Recoder", "piece", "(I)V"⟩, 10) := ⟨⟨by decide +kernel, by decide +kernel⟩, List.mem_of_getElem? (i := 42) (by decide +kernel), List.mem_of_getElem? (i := 509) (by decide +kernel), List.mem_of_getElem? (i := 510) (by decide +kernel)⟩
theorem lw_p21 : lw_okq (⟨"TagCoder$Recoder", "readUnused", "()V"⟩, 10) := ⟨⟨by decide +kernel, by decide +kernel⟩, List.mem_of_getElem? (i := 42) (by decide +kernel), List.mem_of_getElem? (i := 513) (by decide +kernel), List.mem_of_getElem? (i := 514) (by decide +kernel)⟩
theorem lw_p22 : lw_okq (⟨"TagCoder$Recoder", "octetsOf", "(LTagCoder$Type;)V"⟩, 10) := ⟨⟨by decide +kernel, by decide +kernel⟩, List.mem_of_getElem? (i := 42) (by decide +kernel), List.mem_of_getElem? (i := 517) (by decide +kernel), List.mem_of_getElem? (i := 518) (by decide +kernel)⟩
theorem lw_p23 : lw_okq (⟨"TagCoder$Recoder", "countCharacters", "(I)I"⟩, 10) := ⟨⟨by decide +kernel, by decide +kernel⟩, List.mem_of_getElem? (i := 42) (by decide +kernel), List.mem_of_getElem? (i := 521) (by decide +kernel), List.mem_of_getElem? (i := 522) (by decide +kernel)⟩
theorem lw_p24 : lw_okq (⟨"TagCoder$Recoder", "refuseHighOctets", "(I)V"⟩, 10) := ⟨⟨by decide +kernel, by decide +kernel⟩, List.mem_of_getElem? (i := 42) (by decide +kernel), List.mem_of_getElem? (i := 538) (by decide +kernel), List.mem_of_getElem? (i := 539) (by decide +kernel)⟩
theorem lw_p25 : lw_okq (⟨"TagCoder$Recoder", "simple", "(LTagCoder$Type;)V"⟩, 10) := ⟨⟨by decide +kernel, by decide +kernel⟩, List.mem_of_getElem? (i := 42) (by decide +kernel), List.mem_of_getElem? (i := 543) (by decide +kernel), List.mem_of_getElem? (i := 544) (by decide +kernel)⟩
theorem lw_p26 : lw_okq (⟨"TagCoder$Recoder", "truth", "()V"⟩, 10) := ⟨⟨by decide +kernel, by decide +kernel⟩, List.mem_of_getElem? (i := 42) (by decide +kernel), List.mem_of_getElem? (i := 547) (by decide +kernel), List.mem_of_getElem? (i := 548) (by decide +kernel)⟩
theorem lw_p27 : lw_okq (⟨"TagCoder$Recoder", "integer", "(LTagCoder$Type;)V"⟩, 10) := ⟨⟨by decide +kernel, by decide +kernel⟩, List.mem_of_getElem? (i := 42) (by decide +kernel), List.mem_of_getElem? (i := 551) (by decide +kernel), List.mem_of_getElem? (i := 552) (by decide +kernel)⟩
theorem lw_p28 : lw_okq (⟨"TagCoder$Recoder", "nothing", "()V"⟩, 10) := ⟨⟨by decide +kernel, by decide +kernel⟩, List.mem_of_getElem? (i := 42) (by decide +kernel), List.mem_of_getElem? (i := 555) (by decide +kernel), List.mem_of_getElem? (i := 556) (by decide +kernel)⟩
theorem lw_p29 : lw_okq (⟨"TagCoder$Recoder", "objectIdentifier", "()V"⟩, 10) := ⟨⟨by decide +kernel, by decide +kernel⟩, List.mem_of_getElem? (i := 42) (by decide +kernel), List.mem_of_getElem? (i := 559) (by decide +kernel), List.mem_of_getElem? (i := 560) (by decide +kernel)⟩
theorem lw_p30 : lw_okq (⟨"TagCoderModel", "made", "(III)I"⟩, 47) := ⟨⟨by decide +kernel, by decide +kernel⟩, List.mem_of_getElem? (i := 575) (by decide +kernel), List.mem_of_getElem? (i := 732) (by decide +kernel), List.mem_of_getElem? (i := 733) (by decide +kernel)⟩
theorem lw_p31 : lw_okq (⟨"TagCoderModel", "isType", "(I)Z"⟩, 47) := ⟨⟨by decide +kernel, by decide +kernel⟩, List.mem_of_getElem? (i := 575) (by decide +kernel), List.mem_of_getElem? (i := 740) (by decide +kernel), List.mem_of_getElem? (i := 741) (by decide +kernel)⟩
def lw_privs_2 : List (MethodName × Nat) := [(⟨"TagCoder$Recoder", "valuesOf", "(LTagCoder$Type;I)V"⟩, 10), (⟨"TagCoder$Recoder", "innerOf", "(LTagCoder$Type;I)V"⟩, 10), (⟨"TagCoder$Recoder", "bitString", "()V"⟩, 10), (⟨"TagCoder$Recoder", "string", "(II)V"⟩, 10), (⟨"TagCoder$Recoder", "piece", "(I)V"⟩, 10), (⟨"TagCoder$Recoder", "readUnused", "()V"⟩, 10), (⟨"TagCoder$Recoder", "octetsOf", "(LTagCoder$Type;)V"⟩, 10), (⟨"TagCoder$Recoder", "countCharacters", "(I)I"⟩, 10), (⟨"TagCoder$Recoder", "refuseHighOctets", "(I)V"⟩, 10), (⟨"TagCoder$Recoder", "simple", "(LTagCoder$Type;)V"⟩, 10), (⟨"TagCoder$Recoder", "truth", "()V"⟩, 10), (⟨"TagCoder$Recoder", "integer", "(LTagCoder$Type;)V"⟩, 10), (⟨"TagCoder$Recoder", "nothing", "()V"⟩, 10), (⟨"TagCoder$Recoder", "objectIdentifier", "()V"⟩, 10), (⟨"TagCoderModel", "made", "(III)I"⟩, 47), (⟨"TagCoderModel", "isType", "(I)Z"⟩, 47)]
theorem lw_r2 : ∀ q ∈ lw_privs_2, lw_okq q := List.forall_mem_cons.mpr ⟨lw_p16, List.forall_mem_cons.mpr ⟨lw_p17, List.forall_mem_cons.mpr ⟨lw_p18, List.forall_mem_cons.mpr ⟨lw_p19, List.forall_mem_cons.mpr ⟨lw_p20, List.forall_mem_cons.mpr ⟨lw_p21, List.forall_mem_cons.mpr ⟨lw_p22, List.forall_mem_cons.mpr ⟨lw_p23, List.forall_mem_cons.mpr ⟨lw_p24, List.forall_mem_cons.mpr ⟨lw_p25, List.forall_mem_cons.mpr ⟨lw_p26, List.forall_mem_cons.mpr ⟨lw_p27, List.forall_mem_cons.mpr ⟨lw_p28, List.forall_mem_cons.mpr ⟨lw_p29, List.forall_mem_cons.mpr ⟨lw_p30, List.forall_mem_cons.mpr ⟨lw_p31, fun _ h => absurd h List.not_mem_nil⟩⟩⟩⟩⟩⟩⟩⟩⟩⟩⟩⟩⟩⟩⟩⟩
theorem lw_p32 : lw_okq (⟨"TagCoderModel", "isChoice", "(I)Z"⟩, 47) := ⟨⟨by decide +kernel, by decide +kernel⟩, List.mem_of_getElem? (i := 575) (by decide +kernel), List.mem_of_getElem? (i := 748) (by decide +kernel), List.mem_of_getElem? (i := 749) (by decide +kernel)⟩
theorem lw_p33 : lw_okq (⟨"TagCoderModel", "canBe", "(IJ)Z"⟩, 47) := ⟨⟨by decide +kernel, by decide +kernel⟩, List.mem_of_getElem? (i := 575) (by decide +kernel), List.mem_of_getElem? (i := 765) (by decide +kernel), List.mem_of_getElem? (i := 766) (by decide +kernel)⟩
theorem lw_p34 : lw_okq (⟨"TagCoderModel", "isAllowed", "()Z"⟩, 47) := ⟨⟨by decide +kernel, by decide +kernel⟩, List.mem_of_getElem? (i := 575) (by decide +kernel), List.mem_of_getElem? (i := 773) (by decide +kernel), List.mem_of_getElem? (i := 774) (by decide +kernel)⟩
theorem lw_p35 : lw_okq (⟨"TagCoderModel", "meet", "(II)Z"⟩, 47) := ⟨⟨by decide +kernel, by decide +kernel⟩, List.mem_of_getElem? (i := 575) (by decide +kernel), List.mem_of_getElem? (i := 777) (by decide +kernel), List.mem_of_getElem? (i := 778) (by decide +kernel)⟩
theorem lw_p36 : lw_okq (⟨"TagCoderModel", "begins", "(II)Z"⟩, 47) := ⟨⟨by decide +kernel, by decide +kernel⟩, List.mem_of_getElem? (i := 575) (by decide +kernel), List.mem_of_getElem? (i := 781) (by decide +kernel), List.mem_of_getElem? (i := 782) (by decide +kernel)⟩
theorem lw_p37 : lw_okq (⟨"TagCoderModel", "raise", "(I)I"⟩, 47) := ⟨⟨by decide +kernel, by decide +kernel⟩, List.mem_of_getElem? (i := 575) (by decide +kernel), List.mem_of_getElem? (i := 797) (by decide +kernel), List.mem_of_getElem? (i := 798) (by decide +kernel)⟩
theorem lw_p38 : lw_okq (⟨"TagCoderModel", "begin", "(I)V"⟩, 47) := ⟨⟨by decide +kernel, by decide +kernel⟩, List.mem_of_getElem? (i := 575) (by decide +kernel), List.mem_of_getElem? (i := 801) (by decide +kernel), List.mem_of_getElem? (i := 802) (by decide +kernel)⟩
theorem lw_p39 : lw_okq (⟨"TagCoderModel", "coming", "()I"⟩, 47) := ⟨⟨by decide +kernel, by decide +kernel⟩, List.mem_of_getElem? (i := 575) (by decide +kernel), List.mem_of_getElem? (i := 805) (by decide +kernel), List.mem_of_getElem? (i := 806) (by decide +kernel)⟩
theorem lw_p40 : lw_okq (⟨"TagCoderModel", "identifier", "()V"⟩, 47) := ⟨⟨by decide +kernel, by decide +kernel⟩, List.mem_of_getElem? (i := 575) (by decide +kernel), List.mem_of_getElem? (i := 809) (by decide +kernel), List.mem_of_getElem? (i := 810) (by decide +kernel)⟩
theorem lw_p41 : lw_okq (⟨"TagCoderModel", "next", "()I"⟩, 47) := ⟨⟨by decide +kernel, by decide +kernel⟩, List.mem_of_getElem? (i := 575) (by decide +kernel), List.mem_of_getElem? (i := 813) (by decide +kernel), List.mem_of_getElem? (i := 814) (by decide +kernel)⟩
theorem lw_p42 : lw_okq (⟨"TagCoderModel", "alternative", "(II)I"⟩, 47) := ⟨⟨by decide +kernel, by decide +kernel⟩, List.mem_of_getElem? (i := 575) (by decide +kernel), List.mem_of_getElem? (i := 817) (by decide +kernel), List.mem_of_getElem? (i := 818) (by decide +kernel)⟩
theorem lw_p43 : lw_okq (⟨"TagCoderModel", "simple", "(II)V"⟩, 47) := ⟨⟨by decide +kernel, by decide +kernel⟩, List.mem_of_getElem? (i := 575) (by decide +kernel), List.mem_of_getElem? (i := 821) (by decide +kernel), List.mem_of_getElem? (i := 822) (by decide +kernel)⟩
theorem lw_p44 : lw_okq (⟨"TagCoderModel", "header", "(I)V"⟩, 47) := ⟨⟨by decide +kernel, by decide +kernel⟩, List.mem_of_getElem? (i := 575) (by decide +kernel), List.mem_of_getElem? (i := 825) (by decide +kernel), List.mem_of_getElem? (i := 826) (by decide +kernel)⟩
theorem lw_p45 : lw_okq (⟨"TagCoderModel", "string", "(Z)V"⟩, 47) := ⟨⟨by decide +kernel, by decide +kernel⟩, List.mem_of_getElem? (i := 575) (by decide +kernel), List.mem_of_getElem? (i := 830) (by decide +kernel), List.mem_of_getElem? (i := 831) (by decide +kernel)⟩
theorem lw_p46 : lw_okq (⟨"TagCoderModel", "takeBits", "(Z)Z"⟩, 47) := ⟨⟨by decide +kernel, by decide +kernel⟩, List.mem_of_getElem? (i := 575) (by decide +kernel), List.mem_of_getElem? (i := 834) (by decide +kernel), List.mem_of_getElem? (i := 835) (by decide +kernel)⟩
theorem lw_p47 : lw_okq (⟨"TagCoderModel", "take", "(I)V"⟩, 47) := ⟨⟨by decide +kernel, by decide +kernel⟩, List.mem_of_getElem? (i := 575) (by decide +kernel), List.mem_of_getElem? (i := 838) (by decide +kernel), List.mem_of_getElem? (i := 839) (by decide +kernel)⟩
def lw_privs_3 : List (MethodName × Nat) := [(⟨"TagCoderModel", "isChoice", "(I)Z"⟩, 47), (⟨"TagCoderModel", "canBe", "(IJ)Z"⟩, 47), (⟨"TagCoderModel", "isAllowed", "()Z"⟩, 47), (⟨"TagCoderModel", "meet", "(II)Z"⟩, 47), (⟨"TagCoderModel", "begins", "(II)Z"⟩, 47), (⟨"TagCoderModel", "raise", "(I)I"⟩, 47), (⟨"TagCoderModel", "begin", "(I)V"⟩, 47), (⟨"TagCoderModel", "coming", "()I"⟩, 47), (⟨"TagCoderModel", "identifier", "()V"⟩, 47), (⟨"TagCoderModel", "next", "()I"⟩, 47), (⟨"TagCoderModel", "alternative", "(II)I"⟩, 47), (⟨"TagCoderModel", "simple", "(II)V"⟩, 47), (⟨"TagCoderModel", "header", "(I)V"⟩, 47), (⟨"TagCoderModel", "string", "(Z)V"⟩, 47), (⟨"TagCoderModel", "takeBits", "(Z)Z"⟩, 47), (⟨"TagCoderModel", "take", "(I)V"⟩, 47)]
theorem lw_r3 : ∀ q ∈ lw_privs_3, lw_okq q := List.forall_mem_cons.mpr ⟨lw_p32, List.forall_mem_cons.mpr ⟨lw_p33, List.forall_mem_cons.mpr ⟨lw_p34, List.forall_mem_cons.mpr ⟨lw_p35, List.forall_mem_cons.mpr ⟨lw_p36, List.forall_mem_cons.mpr ⟨lw_p37, List.forall_mem_cons.mpr ⟨lw_p38, List.forall_mem_cons.mpr ⟨lw_p39, List.forall_mem_cons.mpr ⟨lw_p40, List.forall_mem_cons.mpr ⟨lw_p41, List.forall_mem_cons.mpr ⟨lw_p42, List.forall_mem_cons.mpr ⟨lw_p43, List.forall_mem_cons.mpr ⟨lw_p44, List.forall_mem_cons.mpr ⟨lw_p45, List.forall_mem_cons.mpr ⟨lw_p46, List.forall_mem_cons.mpr ⟨lw_p47, fun _ h => absurd h List.not_mem_nil⟩⟩⟩⟩⟩⟩⟩⟩⟩⟩⟩⟩⟩⟩⟩⟩
theorem lw_p48 : lw_okq (⟨"TagCoderModel", "goesOn", "(I)Z"⟩, 47) := ⟨⟨by decide +kernel, by decide +kernel⟩, List.mem_of_getElem? (i := 575) (by decide +kernel), List.mem_of_getElem? (i := 842) (by decide +kernel), List.mem_of_getElem? (i := 843) (by decide +kernel)⟩
theorem lw_p49 : lw_okq (⟨"TagCoderModel", "characters", "(I)I"⟩, 47) := ⟨⟨by decide +kernel, by decide +kernel⟩, List.mem_of_getElem? (i := 575) (by decide +kernel), List.mem_of_getElem? (i := 846) (by decide +kernel), List.mem_of_getElem? (i := 847) (by decide +kernel)⟩
theorem lw_p50 : lw_okq (⟨"TagCoderModel", "isNumber", "(I)Z"⟩, 47) := ⟨⟨by decide +kernel, by decide +kernel⟩, List.mem_of_getElem? (i := 575) (by decide +kernel), List.mem_of_getElem? (i := 854) (by decide +kernel), List.mem_of_getElem? (i := 855) (by decide +kernel)⟩
theorem lw_p51 : lw_okq (⟨"TagCoderModel", "isIdentifier", "()Z"⟩, 47) := ⟨⟨by decide +kernel, by decide +kernel⟩, List.mem_of_getElem? (i := 575) (by decide +kernel), List.mem_of_getElem? (i := 859) (by decide +kernel), List.mem_of_getElem? (i := 860) (by decide +kernel)⟩
theorem lw_p52 : lw_okq (⟨"TagCoderModel", "addBody", "(I)V"⟩, 47) := ⟨⟨by decide +kernel, by decide +kernel⟩, List.mem_of_getElem? (i := 575) (by decide +kernel), List.mem_of_getElem? (i := 863) (by decide +kernel), List.mem_of_getElem? (i := 864) (by decide +kernel)⟩
theorem lw_p53 : lw_okq (⟨"TagCoderModel", "addHeader", "(IZI)V"⟩, 47) := ⟨⟨by decide +kernel, by decide +kernel⟩, List.mem_of_getElem? (i := 575) (by decide +kernel), List.mem_of_getElem? (i := 867) (by decide +kernel), List.mem_of_getElem? (i := 868) (by decide +kernel)⟩
theorem lw_p54 : lw_okq (⟨"TagCoderModel", "pooling", "(I)V"⟩, 47) := ⟨⟨by decide +kernel, by decide +kernel⟩, List.mem_of_getElem? (i := 575) (by decide +kernel), List.mem_of_getElem? (i := 871) (by decide +kernel), List.mem_of_getElem? (i := 872) (by decide +kernel)⟩
theorem lw_p55 : lw_okq (⟨"TagCoderModel", "addPart", "(II)V"⟩, 47) := ⟨⟨by decide +kernel, by decide +kernel⟩, List.mem_of_getElem? (i := 575) (by decide +kernel), List.mem_of_getElem? (i := 875) (by decide +kernel), List.mem_of_getElem? (i := 876) (by decide +kernel)⟩
theorem lw_p56 : lw_okq (⟨"TagCoderModel", "push", "(III)V"⟩, 47) := ⟨⟨by decide +kernel, by decide +kernel⟩, List.mem_of_getElem? (i := 575) (by decide +kernel), List.mem_of_getElem? (i := 879) (by decide +kernel), List.mem_of_getElem? (i := 880) (by decide +kernel)⟩
theorem lw_p57 : lw_okq (⟨"TagCoderModel", "goOn", "()V"⟩, 47) := ⟨⟨by decide +kernel, by decide +kernel⟩, List.mem_of_getElem? (i := 575) (by decide +kernel), List.mem_of_getElem? (i := 883) (by decide +kernel), List.mem_of_getElem? (i := 884) (by decide +kernel)⟩
theorem lw_p58 : lw_okq (⟨"TagCoderModel", "isUsual", "(IJ)Z"⟩, 47) := ⟨⟨by decide +kernel, by decide +kernel⟩, List.mem_of_getElem? (i := 575) (by decide +kernel), List.mem_of_getElem? (i := 887) (by decide +kernel), List.mem_of_getElem? (i := 888) (by decide +kernel)⟩
theorem lw_p59 : lw_okq (⟨"TagCoderModel", "numberBody", "(IJ)V"⟩, 47) := ⟨⟨by decide +kernel, by decide +kernel⟩, List.mem_of_getElem? (i := 575) (by decide +kernel), List.mem_of_getElem? (i := 891) (by decide +kernel), List.mem_of_getElem? (i := 892) (by decide +kernel)⟩
theorem lw_p60 : lw_okq (⟨"TagCoderModel", "hold", "(II)V"⟩, 47) := ⟨⟨by decide +kernel, by decide +kernel⟩, List.mem_of_getElem? (i := 575) (by decide +kernel), List.mem_of_getElem? (i := 895) (by decide +kernel), List.mem_of_getElem? (i := 896) (by decide +kernel)⟩
theorem lw_p61 : lw_okq (⟨"TagCoderModel", "finish", "()V"⟩, 47) := ⟨⟨by decide +kernel, by decide +kernel⟩, List.mem_of_getElem? (i := 575) (by decide +kernel), List.mem_of_getElem? (i := 899) (by decide +kernel), List.mem_of_getElem? (i := 900) (by decide +kernel)⟩
theorem lw_p62 : lw_okq (⟨"TagCoderModel", "order", "(IZ)V"⟩, 47) := ⟨⟨by decide +kernel, by decide +kernel⟩, List.mem_of_getElem? (i := 575) (by decide +kernel), List.mem_of_getElem? (i := 903) (by decide +kernel), List.mem_of_getElem? (i := 904) (by decide +kernel)⟩
theorem lw_p63 : lw_okq (⟨"TagCoderModel", "isBehind", "(IIZ)Z"⟩, 47) := ⟨⟨by decide +kernel, by decide +kernel⟩, List.mem_of_getElem? (i := 575) (by decide +kernel), List.mem_of_getElem? (i := 907) (by decide +kernel), List.mem_of_getElem? (i := 908) (by decide +kernel)⟩
def lw_privs_4 : List (MethodName × Nat) := [(⟨"TagCoderModel", "goesOn", "(I)Z"⟩, 47), (⟨"TagCoderModel", "characters", "(I)I"⟩, 47), (⟨"TagCoderModel", "isNumber", "(I)Z"⟩, 47), (⟨"TagCoderModel", "isIdentifier", "()Z"⟩, 47), (⟨"TagCoderModel", "addBody", "(I)V"⟩, 47), (⟨"TagCoderModel", "addHeader", "(IZI)V"⟩, 47), (⟨"TagCoderModel", "pooling", "(I)V"⟩, 47), (⟨"TagCoderModel", "addPart", "(II)V"⟩, 47), (⟨"TagCoderModel", "push", "(III)V"⟩, 47), (⟨"TagCoderModel", "goOn", "()V"⟩, 47), (⟨"TagCoderModel", "isUsual", "(IJ)Z"⟩, 47), (⟨"TagCoderModel", "numberBody", "(IJ)V"⟩, 47), (⟨"TagCoderModel", "hold", "(II)V"⟩, 47), (⟨"TagCoderModel", "finish", "()V"⟩, 47), (⟨"TagCoderModel", "order", "(IZ)V"⟩, 47), (⟨"TagCoderModel", "isBehind", "(IIZ)Z"⟩, 47)]
theorem lw_r4 : ∀ q ∈ lw_privs_4, lw_okq q := List.forall_mem_cons.mpr ⟨lw_p48, List.forall_mem_cons.mpr ⟨lw_p49, List.forall_mem_cons.mpr ⟨lw_p50, List.forall_mem_cons.mpr ⟨lw_p51, List.forall_mem_cons.mpr ⟨lw_p52, List.forall_mem_cons.mpr ⟨lw_p53, List.forall_mem_cons.mpr ⟨lw_p54, List.forall_mem_cons.mpr ⟨lw_p55, List.forall_mem_cons.mpr ⟨lw_p56, List.forall_mem_cons.mpr ⟨lw_p57, List.forall_mem_cons.mpr ⟨lw_p58, List.forall_mem_cons.mpr ⟨lw_p59, List.forall_mem_cons.mpr ⟨lw_p60, List.forall_mem_cons.mpr ⟨lw_p61, List.forall_mem_cons.mpr ⟨lw_p62, List.forall_mem_cons.mpr ⟨lw_p63, fun _ h => absurd h List.not_mem_nil⟩⟩⟩⟩⟩⟩⟩⟩⟩⟩⟩⟩⟩⟩⟩⟩
theorem lw_p64 : lw_okq (⟨"TagCoderModel", "goOnSequence", "(I)V"⟩, 47) := ⟨⟨by decide +kernel, by decide +kernel⟩, List.mem_of_getElem? (i := 575) (by decide +kernel), List.mem_of_getElem? (i := 911) (by decide +kernel), List.mem_of_getElem? (i := 912) (by decide +kernel)⟩
theorem lw_p65 : lw_okq (⟨"TagCoderModel", "goOnSet", "(I)V"⟩, 47) := ⟨⟨by decide +kernel, by decide +kernel⟩, List.mem_of_getElem? (i := 575) (by decide +kernel), List.mem_of_getElem? (i := 915) (by decide +kernel), List.mem_of_getElem? (i := 916) (by decide +kernel)⟩
def lw_privs_5 : List (MethodName × Nat) := [(⟨"TagCoderModel", "goOnSequence", "(I)V"⟩, 47), (⟨"TagCoderModel", "goOnSet", "(I)V"⟩, 47)]
theorem lw_r5 : ∀ q ∈ lw_privs_5, lw_okq q := List.forall_mem_cons.mpr ⟨lw_p64, List.forall_mem_cons.mpr ⟨lw_p65, fun _ h => absurd h List.not_mem_nil⟩⟩
def lw_privs : List (MethodName × Nat) := lw_privs_1 ++ (lw_privs_2 ++ (lw_privs_3 ++ (lw_privs_4 ++ (lw_privs_5))))
def lw_tbl : List Cond := k2_sels lw_privs ++ tables_1
theorem lw_privs_ok : ∀ q ∈ lw_privs, lw_okq q := by
  show ∀ q ∈ lw_privs_1 ++ (lw_privs_2 ++ (lw_privs_3 ++ (lw_privs_4 ++ (lw_privs_5)))), lw_okq q
  exact List.forall_mem_append.mpr ⟨lw_r1, List.forall_mem_append.mpr ⟨lw_r2, List.forall_mem_append.mpr ⟨lw_r3, List.forall_mem_append.mpr ⟨lw_r4, lw_r5⟩⟩⟩⟩
-- ===== end of PART A; then your names; then what follows =====
end
section
/-! Tables of the small machine, written by wip/whole/gen_tab.py out of the claim's own listing (JAVAP.txt) and the Statement's words: classes, fields, methods, instructions, constant pools. -/
def xm_f0 : u_T := fun k => match k with
  | 0 => ("TagCoder", "types", "[LTagCoder$Type;", true)
  | 1 => ("TagCoder", "typeCount", "I", false)
  | 2 => ("TagCoder", "draft", "LTagCoder$Members;", false)
  | 3 => ("TagCoder", "octets", "LTagCoder$Octets;", true)
  | 4 => ("TagCoder", "result", "LTagCoder$Octets;", true)
  | _ => ("TagCoder", "recoder", "LTagCoder$Recoder;", true)
def xm_f1 : u_T := fun k => match k with
  | 0 => ("TagCoder$Type", "form", "I", true)
  | 1 => ("TagCoder$Type", "tag", "I", true)
  | 2 => ("TagCoder$Type", "isBounded", "Z", true)
  | 3 => ("TagCoder$Type", "low", "J", true)
  | 4 => ("TagCoder$Type", "high", "J", true)
  | 5 => ("TagCoder$Type", "inner", "LTagCoder$Type;", true)
  | 6 => ("TagCoder$Type", "members", "LTagCoder$Members;", true)
  | _ => ("TagCoder$Type", "firstTags", "[I", true)
def xm_f2 : u_T := fun k => match k with
  | 0 => ("TagCoder$Members", "kind", "I", true)
  | 1 => ("TagCoder$Members", "types", "[LTagCoder$Type;", true)
  | 2 => ("TagCoder$Members", "hows", "[I", true)
  | 3 => ("TagCoder$Members", "defaults", "[J", true)
  | _ => ("TagCoder$Members", "count", "I", false)
def xm_f3 : u_T := fun k => match k with
  | 0 => ("TagCoder$Octets", "row", "[I", true)
  | _ => ("TagCoder$Octets", "count", "I", false)
def xm_f4 : u_T := fun k => match k with
  | 0 => ("TagCoder$Recoder", "out", "LTagCoder$Octets;", true)
  | 1 => ("TagCoder$Recoder", "in", "LTagCoder$Octets;", true)
  | 2 => ("TagCoder$Recoder", "at", "I", false)
  | 3 => ("TagCoder$Recoder", "tag", "I", false)
  | 4 => ("TagCoder$Recoder", "constructed", "Z", false)
  | 5 => ("TagCoder$Recoder", "indefinite", "Z", false)
  | 6 => ("TagCoder$Recoder", "end", "I", false)
  | 7 => ("TagCoder$Recoder", "number", "J", false)
  | 8 => ("TagCoder$Recoder", "isWide", "Z", false)
  | _ => ("TagCoder$Recoder", "unused", "I", false)
def xm_f5 : u_T := fun k => match k with
  | 0 => ("TagCoderModel", "thrown", "I", false)
  | 1 => ("TagCoderModel", "types", "I", false)
  | 2 => ("TagCoderModel", "sort", "[I", true)
  | 3 => ("TagCoderModel", "tag", "[I", true)
  | 4 => ("TagCoderModel", "kind", "[I", true)
  | 5 => ("TagCoderModel", "inner", "[I", true)
  | 6 => ("TagCoderModel", "bounded", "[Z", true)
  | 7 => ("TagCoderModel", "low", "[J", true)
  | 8 => ("TagCoderModel", "high", "[J", true)
  | 9 => ("TagCoderModel", "firsts", "[I", true)
  | 10 => ("TagCoderModel", "first", "[I", true)
  | 11 => ("TagCoderModel", "members", "[I", true)
  | 12 => ("TagCoderModel", "member", "[I", true)
  | 13 => ("TagCoderModel", "how", "[I", true)
  | 14 => ("TagCoderModel", "usual", "[J", true)
  | 15 => ("TagCoderModel", "open", "I", false)
  | 16 => ("TagCoderModel", "size", "I", false)
  | 17 => ("TagCoderModel", "octets", "[I", true)
  | 18 => ("TagCoderModel", "results", "I", false)
  | 19 => ("TagCoderModel", "result", "[I", true)
  | 20 => ("TagCoderModel", "bad", "Z", false)
  | 21 => ("TagCoderModel", "at", "I", false)
  | 22 => ("TagCoderModel", "limit", "I", false)
  | 23 => ("TagCoderModel", "seen", "I", false)
  | 24 => ("TagCoderModel", "constructed", "Z", false)
  | 25 => ("TagCoderModel", "stop", "I", false)
  | 26 => ("TagCoderModel", "bodySize", "I", false)
  | 27 => ("TagCoderModel", "body", "[I", true)
  | 28 => ("TagCoderModel", "frames", "I", false)
  | 29 => ("TagCoderModel", "frameSort", "[I", true)
  | 30 => ("TagCoderModel", "frameType", "[I", true)
  | 31 => ("TagCoderModel", "frameTag", "[I", true)
  | 32 => ("TagCoderModel", "frameStop", "[I", true)
  | 33 => ("TagCoderModel", "frameOuter", "[I", true)
  | 34 => ("TagCoderModel", "frameBase", "[I", true)
  | 35 => ("TagCoderModel", "frameNext", "[I", true)
  | 36 => ("TagCoderModel", "framePart", "[I", true)
  | 37 => ("TagCoderModel", "wraps", "[I", true)
  | 38 => ("TagCoderModel", "parts", "I", false)
  | 39 => ("TagCoderModel", "partAt", "[I", true)
  | 40 => ("TagCoderModel", "partSize", "[I", true)
  | 41 => ("TagCoderModel", "partTag", "[I", true)
  | 42 => ("TagCoderModel", "pooled", "I", false)
  | 43 => ("TagCoderModel", "pool", "[I", true)
  | 44 => ("TagCoderModel", "stringStop", "[I", true)
  | 45 => ("TagCoderModel", "stringOuter", "[I", true)
  | _ => ("TagCoderModel", "stringParts", "[I", true)
def xm_cls : List vw_C := [("TagCoder", xm_f0, 6), ("TagCoder$Type", xm_f1, 8), ("TagCoder$Members", xm_f2, 5), ("TagCoder$Octets", xm_f3, 2), ("TagCoder$Recoder", xm_f4, 10), ("TagCoderModel", xm_f5, 47)]
def xm_ftl : List (List FieldType) := [[.array (.object "TagCoder$Type"), .int, .object "TagCoder$Members", .object "TagCoder$Octets", .object "TagCoder$Octets", .object "TagCoder$Recoder"],
  [.int, .int, .boolean, .long, .long, .object "TagCoder$Type", .object "TagCoder$Members", .array .int],
  [.int, .array (.object "TagCoder$Type"), .array .int, .array .long, .int],
  [.array .int, .int],
  [.object "TagCoder$Octets", .object "TagCoder$Octets", .int, .int, .boolean, .boolean, .int, .long, .boolean, .int],
  [.int, .int, .array .int, .array .int, .array .int, .array .int, .array .boolean, .array .long, .array .long, .array .int, .array .int, .array .int, .array .int, .array .int, .array .long, .int, .int, .array .int, .int, .array .int, .boolean, .int, .int, .int, .boolean, .int, .int, .array .int, .int, .array .int, .array .int, .array .int, .array .int, .array .int, .array .int, .array .int, .array .int, .array .int, .int, .array .int, .array .int, .array .int, .int, .array .int, .array .int, .array .int, .array .int]]
def xm_fty (ci j : Nat) : FieldType := (xm_ftl.getD ci []).getD j .int
def xm_fnl : List (List Bool) := [[true, false, false, true, true, true],
  [true, true, true, true, true, true, true, true],
  [true, true, true, true, false],
  [true, false],
  [true, true, false, false, false, false, false, false, false, false],
  [false, false, true, true, true, true, true, true, true, true, true, true, true, true, true, false, false, true, false, true, false, false, false, false, false, false, false, true, false, true, true, true, true, true, true, true, true, true, false, true, true, true, false, true, true, true, true]]
def xm_fin (ci j : Nat) : Bool := (xm_fnl.getD ci []).getD j true
def xm_dfl : List (List Value) := [[.null, .int 0, .null, .null, .null, .null],
  [.int 0, .int 0, .int 0, .long 0, .long 0, .null, .null, .null],
  [.int 0, .null, .null, .null, .int 0],
  [.null, .int 0],
  [.null, .null, .int 0, .int 0, .int 0, .int 0, .int 0, .long 0, .int 0, .int 0],
  [.int 0, .int 0, .null, .null, .null, .null, .null, .null, .null, .null, .null, .null, .null, .null, .null, .int 0, .int 0, .null, .int 0, .null, .int 0, .int 0, .int 0, .int 0, .int 0, .int 0, .int 0, .null, .int 0, .null, .null, .null, .null, .null, .null, .null, .null, .null, .int 0, .null, .null, .null, .int 0, .null, .null, .null, .null]]
def xm_def (ci : Nat) : List Value := xm_dfl.getD ci []
def xm_szl : List Nat := [6, 8, 5, 2, 10, 47]
def xm_siz (ci : Nat) : Nat := xm_szl.getD ci 0
/-- the class whose objects the one array of references holds -/
def xm_elt : Nat := 1
def xm_eln : String := "TagCoder$Type"
def xm_cnl : List String := ["TagCoder", "TagCoder$Type", "TagCoder$Members", "TagCoder$Octets", "TagCoder$Recoder", "TagCoderModel", "TagCoderLaw"]
def xm_cn (c : Nat) : String := xm_cnl.getD c ""
def xm_xn (x : Nat) : String := match x with
  | 0 => "java/lang/IndexOutOfBoundsException"
  | _ => "java/lang/IllegalArgumentException"
def xm_xs : List String := ["java/lang/RuntimeException", "java/lang/Exception"]
def xm_look {α : Type} : List (Nat × α) → Nat → Option α
  | [], _ => none
  | (i, v) :: r, j => if i = j then some v else xm_look r j
theorem xm_look_in {α : Type} : ∀ {t : List (Nat × α)} {j : Nat} {v : α}, xm_look t j = some v → (j, v) ∈ t
  | [], _, _, h => by cases h
  | (i, u) :: r, j, v, h => by
    unfold xm_look at h
    split at h
    · rename_i e
      cases h
      subst e
      exact List.mem_cons_self
    · exact List.mem_cons_of_mem _ (xm_look_in h)
-- methods: name, code, locals, what it returns, its class' number
def xm_yl : List MethodName := [⟨"TagCoder", "<init>", "()V"⟩,
  ⟨"TagCoder", "basic", "(I)I"⟩,
  ⟨"TagCoder", "bounded", "(IJJ)I"⟩,
  ⟨"TagCoder", "tagged", "(IIZI)I"⟩,
  ⟨"TagCoder", "list", "(II)I"⟩,
  ⟨"TagCoder", "open", "(I)Z"⟩,
  ⟨"TagCoder", "member", "(IIJ)Z"⟩,
  ⟨"TagCoder", "close", "()I"⟩,
  ⟨"TagCoder", "feed", "(JI)Z"⟩,
  ⟨"TagCoder", "clear", "()V"⟩,
  ⟨"TagCoder", "transcode", "(I)I"⟩,
  ⟨"TagCoder", "result", "(I)I"⟩,
  ⟨"TagCoder", "octet", "(I)I"⟩,
  ⟨"TagCoder", "counts", "()I"⟩,
  ⟨"TagCoder", "firstTag", "(II)I"⟩,
  ⟨"TagCoder", "isBasicKind", "(I)Z"⟩,
  ⟨"TagCoder", "typeAt", "(I)LTagCoder$Type;"⟩,
  ⟨"TagCoder", "keep", "(LTagCoder$Type;)I"⟩,
  ⟨"TagCoder$Type", "<init>", "(IIZJJLTagCoder$Type;LTagCoder$Members;)V"⟩,
  ⟨"TagCoder$Type", "ofKind", "(I)LTagCoder$Type;"⟩,
  ⟨"TagCoder$Type", "around", "(ILTagCoder$Type;)LTagCoder$Type;"⟩,
  ⟨"TagCoder$Type", "listOf", "(ILTagCoder$Type;)LTagCoder$Type;"⟩,
  ⟨"TagCoder$Type", "madeOf", "(LTagCoder$Members;)LTagCoder$Type;"⟩,
  ⟨"TagCoder$Type", "within", "(JJ)LTagCoder$Type;"⟩,
  ⟨"TagCoder$Type", "retagged", "(I)LTagCoder$Type;"⟩,
  ⟨"TagCoder$Type", "mayBeBounded", "()Z"⟩,
  ⟨"TagCoder$Type", "isOctets", "()Z"⟩,
  ⟨"TagCoder$Type", "isConstructed", "()Z"⟩,
  ⟨"TagCoder$Type", "mayBe", "(Z)Z"⟩,
  ⟨"TagCoder$Type", "keepsTo", "(J)Z"⟩,
  ⟨"TagCoder$Type", "mayDefaultTo", "(J)Z"⟩,
  ⟨"TagCoder$Type", "hasFirstTag", "(I)Z"⟩,
  ⟨"TagCoder$Type", "sharesFirstTag", "(LTagCoder$Type;)Z"⟩,
  ⟨"TagCoder$Type", "bearing", "(I)LTagCoder$Type;"⟩,
  ⟨"TagCoder$Members", "<init>", "(I)V"⟩,
  ⟨"TagCoder$Members", "mayTake", "(LTagCoder$Type;IJ)Z"⟩,
  ⟨"TagCoder$Members", "add", "(LTagCoder$Type;IJ)V"⟩,
  ⟨"TagCoder$Members", "breaksRules", "()Z"⟩,
  ⟨"TagCoder$Members", "clashesBehind", "(I)Z"⟩,
  ⟨"TagCoder$Members", "allFirstTags", "()[I"⟩,
  ⟨"TagCoder$Members", "indexBearing", "(II)I"⟩,
  ⟨"TagCoder$Members", "hasMandatoryOutside", "(I)Z"⟩,
  ⟨"TagCoder$Octets", "<init>", "()V"⟩,
  ⟨"TagCoder$Octets", "ask", "(I)I"⟩,
  ⟨"TagCoder$Octets", "append", "(I)V"⟩,
  ⟨"TagCoder$Octets", "become", "(LTagCoder$Octets;)V"⟩,
  ⟨"TagCoder$Octets", "insertHeader", "(IIZ)V"⟩,
  ⟨"TagCoder$Octets", "sevensIn", "(I)I"⟩,
  ⟨"TagCoder$Octets", "identifierEnd", "(I)I"⟩,
  ⟨"TagCoder$Octets", "tagAt", "(I)I"⟩,
  ⟨"TagCoder$Octets", "endOf", "(I)I"⟩,
  ⟨"TagCoder$Octets", "bringForward", "(II)V"⟩,
  ⟨"TagCoder$Octets", "turnRound", "(II)V"⟩,
  ⟨"TagCoder$Recoder", "<init>", "()V"⟩,
  ⟨"TagCoder$Recoder", "recode", "(LTagCoder$Octets;LTagCoder$Type;)V"⟩,
  ⟨"TagCoder$Recoder", "value", "(LTagCoder$Type;II)V"⟩,
  ⟨"TagCoder$Recoder", "next", "(I)I"⟩,
  ⟨"TagCoder$Recoder", "readIdentifier", "(I)V"⟩,
  ⟨"TagCoder$Recoder", "readLongNumber", "(I)I"⟩,
  ⟨"TagCoder$Recoder", "peekTag", "(I)I"⟩,
  ⟨"TagCoder$Recoder", "readLength", "(I)V"⟩,
  ⟨"TagCoder$Recoder", "goesOn", "(IZ)Z"⟩,
  ⟨"TagCoder$Recoder", "simple", "(LTagCoder$Type;)V"⟩,
  ⟨"TagCoder$Recoder", "truth", "()V"⟩,
  ⟨"TagCoder$Recoder", "integer", "(LTagCoder$Type;)V"⟩,
  ⟨"TagCoder$Recoder", "nothing", "()V"⟩,
  ⟨"TagCoder$Recoder", "objectIdentifier", "()V"⟩,
  ⟨"TagCoder$Recoder", "bitString", "()V"⟩,
  ⟨"TagCoder$Recoder", "octetsOf", "(LTagCoder$Type;)V"⟩,
  ⟨"TagCoder$Recoder", "string", "(II)V"⟩,
  ⟨"TagCoder$Recoder", "piece", "(I)V"⟩,
  ⟨"TagCoder$Recoder", "readUnused", "()V"⟩,
  ⟨"TagCoder$Recoder", "refuseHighOctets", "(I)V"⟩,
  ⟨"TagCoder$Recoder", "countCharacters", "(I)I"⟩,
  ⟨"TagCoder$Recoder", "followers", "(I)I"⟩,
  ⟨"TagCoder$Recoder", "leastCode", "(I)I"⟩,
  ⟨"TagCoder$Recoder", "isCharacter", "(II)Z"⟩,
  ⟨"TagCoder$Recoder", "innerOf", "(LTagCoder$Type;I)V"⟩,
  ⟨"TagCoder$Recoder", "valuesOf", "(LTagCoder$Type;I)V"⟩,
  ⟨"TagCoder$Recoder", "membersOf", "(LTagCoder$Members;I)V"⟩,
  ⟨"TagCoder$Recoder", "settle", "(IIZ)V"⟩,
  ⟨"TagCoder$Recoder", "isBelow", "(III)Z"⟩,
  ⟨"TagCoderModel", "<init>", "()V"⟩,
  ⟨"TagCoderModel", "thrown", "()I"⟩,
  ⟨"TagCoderModel", "raise", "(I)I"⟩,
  ⟨"TagCoderModel", "isType", "(I)Z"⟩,
  ⟨"TagCoderModel", "made", "(III)I"⟩,
  ⟨"TagCoderModel", "basic", "(I)I"⟩,
  ⟨"TagCoderModel", "bounded", "(IJJ)I"⟩,
  ⟨"TagCoderModel", "isChoice", "(I)Z"⟩,
  ⟨"TagCoderModel", "tagged", "(IIZI)I"⟩,
  ⟨"TagCoderModel", "list", "(II)I"⟩,
  ⟨"TagCoderModel", "open", "(I)Z"⟩,
  ⟨"TagCoderModel", "canBe", "(IJ)Z"⟩,
  ⟨"TagCoderModel", "member", "(IIJ)Z"⟩,
  ⟨"TagCoderModel", "begins", "(II)Z"⟩,
  ⟨"TagCoderModel", "meet", "(II)Z"⟩,
  ⟨"TagCoderModel", "isAllowed", "()Z"⟩,
  ⟨"TagCoderModel", "close", "()I"⟩,
  ⟨"TagCoderModel", "feed", "(JI)Z"⟩,
  ⟨"TagCoderModel", "clear", "()V"⟩,
  ⟨"TagCoderModel", "next", "()I"⟩,
  ⟨"TagCoderModel", "identifier", "()V"⟩,
  ⟨"TagCoderModel", "coming", "()I"⟩,
  ⟨"TagCoderModel", "header", "(I)V"⟩,
  ⟨"TagCoderModel", "goesOn", "(I)Z"⟩,
  ⟨"TagCoderModel", "pooling", "(I)V"⟩,
  ⟨"TagCoderModel", "addHeader", "(IZI)V"⟩,
  ⟨"TagCoderModel", "addPart", "(II)V"⟩,
  ⟨"TagCoderModel", "addBody", "(I)V"⟩,
  ⟨"TagCoderModel", "hold", "(II)V"⟩,
  ⟨"TagCoderModel", "isBehind", "(IIZ)Z"⟩,
  ⟨"TagCoderModel", "order", "(IZ)V"⟩,
  ⟨"TagCoderModel", "numberBody", "(IJ)V"⟩,
  ⟨"TagCoderModel", "isUsual", "(IJ)Z"⟩,
  ⟨"TagCoderModel", "take", "(I)V"⟩,
  ⟨"TagCoderModel", "takeBits", "(Z)Z"⟩,
  ⟨"TagCoderModel", "string", "(Z)V"⟩,
  ⟨"TagCoderModel", "isNumber", "(I)Z"⟩,
  ⟨"TagCoderModel", "isIdentifier", "()Z"⟩,
  ⟨"TagCoderModel", "characters", "(I)I"⟩,
  ⟨"TagCoderModel", "simple", "(II)V"⟩,
  ⟨"TagCoderModel", "push", "(III)V"⟩,
  ⟨"TagCoderModel", "begin", "(I)V"⟩,
  ⟨"TagCoderModel", "alternative", "(II)I"⟩,
  ⟨"TagCoderModel", "finish", "()V"⟩,
  ⟨"TagCoderModel", "goOnSequence", "(I)V"⟩,
  ⟨"TagCoderModel", "goOnSet", "(I)V"⟩,
  ⟨"TagCoderModel", "goOn", "()V"⟩,
  ⟨"TagCoderModel", "transcode", "(I)I"⟩,
  ⟨"TagCoderModel", "result", "(I)I"⟩,
  ⟨"TagCoderModel", "octet", "(I)I"⟩,
  ⟨"TagCoderModel", "counts", "()I"⟩,
  ⟨"TagCoderModel", "firstTag", "(II)I"⟩,
  ⟨"TagCoderLaw", "transcode", "(LTagCoder;I[J)I"⟩,
  ⟨"TagCoderLaw", "law", "([I)Z"⟩]
def xm_y (k : Nat) : MethodName := xm_yl.getD k ⟨"", "", ""⟩
def xm_own (k : Nat) : String := (xm_y k).cls
def xm_bl : List ByteArray := [prog_1_method_1_code, prog_1_method_2_code, prog_1_method_3_code, prog_1_method_4_code, prog_1_method_5_code, prog_1_method_6_code, prog_1_method_7_code, prog_1_method_8_code, prog_1_method_9_code, prog_1_method_10_code, prog_1_method_11_code, prog_1_method_12_code, prog_1_method_13_code, prog_1_method_14_code, prog_1_method_15_code, prog_1_method_16_code, prog_1_method_17_code, prog_1_method_18_code, prog_5_method_1_code, prog_5_method_2_code, prog_5_method_3_code, prog_5_method_4_code, prog_5_method_5_code, prog_5_method_6_code, prog_5_method_7_code, prog_5_method_8_code, prog_5_method_9_code, prog_5_method_10_code, prog_5_method_11_code, prog_5_method_12_code, prog_5_method_13_code, prog_5_method_14_code, prog_5_method_15_code, prog_5_method_16_code, prog_2_method_1_code, prog_2_method_2_code, prog_2_method_3_code, prog_2_method_4_code, prog_2_method_5_code, prog_2_method_6_code, prog_2_method_7_code, prog_2_method_8_code, prog_3_method_1_code, prog_3_method_2_code, prog_3_method_3_code, prog_3_method_4_code, prog_3_method_5_code, prog_3_method_6_code, prog_3_method_7_code, prog_3_method_8_code, prog_3_method_9_code, prog_3_method_10_code, prog_3_method_11_code, prog_4_method_1_code, prog_4_method_2_code, prog_4_method_3_code, prog_4_method_4_code, prog_4_method_5_code, prog_4_method_6_code, prog_4_method_7_code, prog_4_method_8_code, prog_4_method_9_code, prog_4_method_10_code, prog_4_method_11_code, prog_4_method_12_code, prog_4_method_13_code, prog_4_method_14_code, prog_4_method_15_code, prog_4_method_16_code, prog_4_method_17_code, prog_4_method_18_code, prog_4_method_19_code, prog_4_method_20_code, prog_4_method_21_code, prog_4_method_22_code, prog_4_method_23_code, prog_4_method_24_code, prog_4_method_25_code, prog_4_method_26_code, prog_4_method_27_code, prog_4_method_28_code, prog_4_method_29_code, prog_7_method_1_code, prog_7_method_2_code, prog_7_method_3_code, prog_7_method_4_code, prog_7_method_5_code, prog_7_method_6_code, prog_7_method_7_code, prog_7_method_8_code, prog_7_method_9_code, prog_7_method_10_code, prog_7_method_11_code, prog_7_method_12_code, prog_7_method_13_code, prog_7_method_14_code, prog_7_method_15_code, prog_7_method_16_code, prog_7_method_17_code, prog_7_method_18_code, prog_7_method_19_code, prog_7_method_20_code, prog_7_method_21_code, prog_7_method_22_code, prog_7_method_23_code, prog_7_method_24_code, prog_7_method_25_code, prog_7_method_26_code, prog_7_method_27_code, prog_7_method_28_code, prog_7_method_29_code, prog_7_method_30_code, prog_7_method_31_code, prog_7_method_32_code, prog_7_method_33_code, prog_7_method_34_code, prog_7_method_35_code, prog_7_method_36_code, prog_7_method_37_code, prog_7_method_38_code, prog_7_method_39_code, prog_7_method_40_code, prog_7_method_41_code, prog_7_method_42_code, prog_7_method_43_code, prog_7_method_44_code, prog_7_method_45_code, prog_7_method_46_code, prog_7_method_47_code, prog_7_method_48_code, prog_7_method_49_code, prog_7_method_50_code, prog_7_method_51_code, prog_7_method_52_code, method_3_code, code]
def xm_b (k : Nat) : ByteArray := xm_bl.getD k code
def xm_nl : List Nat := [1, 2, 7, 7, 4, 2, 6, 2, 5, 1, 3, 2, 2, 2, 4, 1, 2, 2, 10, 1, 2, 2, 2, 5, 2, 3, 1, 1, 2, 3, 5, 3, 3, 5, 2, 5, 5, 2, 4, 6, 4, 3, 1, 2, 2, 2, 11, 1, 3, 5, 4, 3, 6, 1, 3, 7, 2, 4, 5, 3, 6, 3, 2, 1, 6, 1, 5, 3, 4, 7, 4, 1, 3, 8, 1, 1, 2, 5, 8, 11, 7, 10, 1, 1, 2, 2, 4, 3, 8, 2, 6, 4, 2, 5, 6, 5, 5, 6, 5, 5, 1, 1, 5, 2, 6, 2, 2, 5, 3, 4, 7, 8, 8, 6, 11, 2, 4, 5, 5, 4, 8, 5, 4, 6, 5, 3, 4, 6, 4, 3, 2, 2, 1, 3, 4, 7]
def xm_n (k : Nat) : Nat := xm_nl.getD k 0
def xm_rl : List (Option FieldType) := [none, some (.int), some (.int), some (.int), some (.int), some (.boolean), some (.boolean), some (.int), some (.boolean), none, some (.int), some (.int), some (.int), some (.int), some (.int), some (.boolean), some (.object "TagCoder$Type"), some (.int), none, some (.object "TagCoder$Type"), some (.object "TagCoder$Type"), some (.object "TagCoder$Type"), some (.object "TagCoder$Type"), some (.object "TagCoder$Type"), some (.object "TagCoder$Type"), some (.boolean), some (.boolean), some (.boolean), some (.boolean), some (.boolean), some (.boolean), some (.boolean), some (.boolean), some (.object "TagCoder$Type"), none, some (.boolean), none, some (.boolean), some (.boolean), some (.array .int), some (.int), some (.boolean), none, some (.int), none, none, none, some (.int), some (.int), some (.int), some (.int), none, none, none, none, none, some (.int), none, some (.int), some (.int), none, some (.boolean), none, none, none, none, none, none, none, none, none, none, none, some (.int), some (.int), some (.int), some (.boolean), none, none, none, none, some (.boolean), none, some (.int), some (.int), some (.boolean), some (.int), some (.int), some (.int), some (.boolean), some (.int), some (.int), some (.boolean), some (.boolean), some (.boolean), some (.boolean), some (.boolean), some (.boolean), some (.int), some (.boolean), none, some (.int), none, some (.int), none, some (.boolean), none, none, none, none, none, some (.boolean), none, none, some (.boolean), none, some (.boolean), none, some (.boolean), some (.boolean), some (.int), none, none, none, some (.int), none, none, none, none, some (.int), some (.int), some (.int), some (.int), some (.int), some (.int), some (.boolean)]
def xm_r (k : Nat) : Option FieldType := xm_rl.getD k none
def xm_kl0 : List Nat := [0, 0, 0, 0, 0, 0, 0, 0, 0, 0, 0, 0, 0, 0, 0, 0, 0, 0, 1, 1, 1, 1, 1, 1, 1, 1, 1, 1, 1, 1, 1, 1, 1, 1, 2, 2, 2, 2, 2, 2, 2, 2, 3, 3, 3, 3, 3, 3, 3, 3, 3, 3, 3, 4, 4, 4, 4, 4, 4, 4, 4, 4, 4, 4, 4, 4, 4, 4, 4, 4, 4, 4, 4, 4, 4, 4, 4, 4, 4, 4, 4, 4, 5, 5, 5, 5, 5, 5, 5, 5, 5, 5, 5, 5, 5, 5, 5, 5, 5, 5, 5, 5, 5, 5, 5, 5, 5, 5, 5, 5, 5, 5, 5, 5, 5, 5, 5, 5, 5, 5, 5, 5, 5, 5, 5, 5, 5, 5, 5, 5, 5, 5, 5, 5, 6, 6]
def xm_kc (k : Nat) : Nat := xm_kl0.getD k 99
def xm_inl : List Bool := [true, false, false, false, false, false, false, false, false, false, false, false, false, false, false, false, false, false, true, false, false, false, false, false, false, false, false, false, false, false, false, false, false, false, true, false, false, false, false, false, false, false, true, false, false, false, false, false, false, false, false, false, false, true, false, false, false, false, false, false, false, false, false, false, false, false, false, false, false, false, false, false, false, false, false, false, false, false, false, false, false, false, true, false, false, false, false, false, false, false, false, false, false, false, false, false, false, false, false, false, false, false, false, false, false, false, false, false, false, false, false, false, false, false, false, false, false, false, false, false, false, false, false, false, false, false, false, false, false, false, false, false, false, false, false, false]
def xm_ini (k : Nat) : Bool := xm_inl.getD k false
def xm_rrl : List Bool := [false, false, false, false, false, false, false, false, false, false, false, false, false, false, false, false, true, false, false, true, true, true, true, true, true, false, false, false, false, false, false, false, false, true, false, false, false, false, false, true, false, false, false, false, false, false, false, false, false, false, false, false, false, false, false, false, false, false, false, false, false, false, false, false, false, false, false, false, false, false, false, false, false, false, false, false, false, false, false, false, false, false, false, false, false, false, false, false, false, false, false, false, false, false, false, false, false, false, false, false, false, false, false, false, false, false, false, false, false, false, false, false, false, false, false, false, false, false, false, false, false, false, false, false, false, false, false, false, false, false, false, false, false, false, false, false]
/-- it returns a reference -/
def xm_rr (k : Nat) : Bool := xm_rrl.getD k false
/-- the class of its receiver -/
def xm_rc (k : Nat) : Nat := xm_kc k
def xm_hh (k : Nat) : List (Nat × Nat × Nat × Nat) := if k = 134 then [(0, 9, 12, 13), (0, 9, 15, 15)] else []
def xm_cat (k pc x : Nat) : Option (Nat × Nat) := if k = 134 ∧ pc < 9 then (if x = 0 then some (12, 3) else if x = 1 then some (15, 3) else none) else none
def xm_cpl : List (List (Nat × Nat × Nat × Nat)) := [[(3, 7, 0, 0), (9, 6, 0, 0), (11, 0, 0, 0), (15, 0, 0, 1), (19, 0, 0, 2), (23, 4, 3, 0), (25, 13, 42, 0), (26, 0, 0, 3), (30, 0, 0, 4), (33, 4, 4, 0), (35, 13, 53, 0), (36, 0, 0, 5), (40, 2, 15, 1), (44, 2, 19, 1), (48, 1, 17, 1), (52, 1, 16, 1), (55, 1, 25, 0), (59, 0, 1, 0), (62, 1, 23, 2), (66, 2, 20, 2), (70, 1, 24, 1), (73, 2, 21, 2), (76, 4, 2, 0), (78, 3, 34, 1), (81, 1, 35, 3), (85, 1, 36, 3), (89, 1, 37, 0), (92, 2, 22, 1), (96, 0, 3, 1), (99, 1, 44, 1), (102, 5, 0, 104), (104, 11, 0, 0), (105, 1, 54, 2), (109, 0, 4, 0), (112, 1, 45, 1), (116, 1, 43, 1), (120, 0, 2, 0), (123, 0, 2, 4), (124, 0, 1, 7)],
  [(3, 7, 0, 0), (9, 0, 1, 0), (10, 4, 1, 0), (15, 0, 1, 1), (18, 0, 1, 2), (22, 0, 1, 3), (26, 0, 1, 4), (29, 0, 1, 5), (33, 0, 1, 6), (37, 1, 39, 0), (43, 0, 1, 7), (47, 3, 18, 7), (50, 0, 2, 0), (53, 1, 26, 0), (57, 1, 27, 0), (60, 1, 29, 1), (64, 1, 31, 1), (68, 1, 40, 2), (72, 0, 2, 1)],
  [(3, 7, 0, 0), (9, 6, 0, 0), (11, 0, 2, 1), (17, 0, 2, 2), (21, 0, 2, 3), (25, 0, 2, 4), (29, 0, 2, 0), (32, 1, 30, 1), (36, 1, 38, 1), (40, 1, 32, 1), (44, 0, 1, 7), (47, 8, 0, 0), (53, 1, 31, 1)],
  [(3, 7, 0, 0), (9, 0, 3, 0), (15, 0, 3, 1), (19, 8, 0, 0), (26, 2, 47, 1), (30, 5, 1, 32), (32, 11, 1, 0), (33, 1, 48, 1), (36, 10, 0, 0), (42, 1, 52, 2)],
  [(3, 7, 0, 0), (9, 4, 3, 0), (11, 13, 42, 0), (12, 0, 4, 0), (18, 0, 4, 1), (21, 0, 4, 2), (25, 0, 4, 3), (28, 0, 4, 4), (32, 0, 4, 5), (35, 0, 4, 6), (38, 0, 4, 7), (42, 0, 4, 8), (45, 0, 4, 9), (48, 1, 45, 1), (52, 0, 3, 1), (55, 1, 55, 3), (59, 5, 1, 61), (61, 11, 1, 0), (62, 1, 57, 1), (66, 1, 60, 1), (69, 1, 33, 1), (75, 1, 28, 1), (79, 0, 1, 0), (82, 0, 1, 6), (86, 1, 79, 2), (90, 1, 78, 2), (94, 1, 77, 2), (97, 1, 67, 0), (100, 1, 68, 1), (104, 1, 62, 1), (107, 1, 27, 0), (111, 1, 46, 3), (115, 0, 3, 0), (119, 1, 56, 1), (123, 1, 58, 1), (126, 1, 63, 0), (129, 1, 64, 1), (132, 1, 65, 0), (135, 1, 66, 0), (138, 1, 44, 1), (141, 0, 1, 2), (144, 1, 29, 1), (148, 1, 69, 2), (152, 1, 73, 1), (155, 1, 72, 1), (158, 1, 70, 1), (161, 1, 61, 2), (165, 1, 71, 0), (168, 2, 74, 1), (171, 2, 75, 1), (174, 2, 76, 2), (182, 0, 1, 5), (186, 1, 80, 3), (189, 1, 59, 1), (192, 1, 40, 2), (198, 0, 2, 1), (202, 0, 2, 2), (205, 0, 2, 3), (209, 0, 2, 0), (212, 1, 41, 1), (216, 1, 50, 1), (219, 1, 49, 1), (222, 1, 81, 3), (226, 1, 51, 2), (229, 9, 0, 0)],
  [(1, 7, 0, 0), (7, 0, 5, 2), (13, 0, 5, 3), (16, 0, 5, 4), (19, 0, 5, 5), (22, 0, 5, 6), (26, 0, 5, 7), (30, 0, 5, 8), (33, 0, 5, 9), (36, 0, 5, 10), (39, 0, 5, 11), (42, 0, 5, 12), (45, 0, 5, 13), (48, 0, 5, 14), (51, 0, 5, 17), (54, 0, 5, 19), (57, 0, 5, 27), (60, 0, 5, 29), (63, 0, 5, 30), (66, 0, 5, 31), (69, 0, 5, 32), (72, 0, 5, 33), (75, 0, 5, 34), (78, 0, 5, 35), (81, 0, 5, 36), (84, 0, 5, 37), (87, 0, 5, 39), (90, 0, 5, 40), (93, 0, 5, 41), (96, 0, 5, 43), (99, 0, 5, 44), (102, 0, 5, 45), (105, 0, 5, 46), (108, 0, 5, 0), (112, 0, 5, 1), (115, 1, 86, 3), (119, 1, 85, 1), (123, 1, 89, 1), (127, 0, 5, 15), (130, 1, 93, 2), (134, 1, 95, 2), (138, 1, 96, 2), (141, 1, 97, 0), (145, 0, 5, 16), (148, 0, 5, 21), (151, 0, 5, 22), (154, 0, 5, 20), (158, 1, 101, 0), (162, 0, 5, 24), (165, 0, 5, 23), (168, 1, 102, 0), (171, 0, 5, 25), (176, 0, 5, 42), (179, 1, 106, 1), (183, 0, 5, 38), (186, 0, 5, 26), (189, 1, 107, 3), (193, 1, 108, 2), (197, 1, 111, 3), (201, 1, 113, 2), (205, 1, 109, 1), (208, 1, 110, 2), (211, 1, 115, 1), (214, 1, 116, 1), (218, 1, 105, 1), (221, 1, 104, 1), (230, 1, 117, 1), (234, 1, 120, 1), (238, 1, 118, 1), (241, 1, 119, 0), (244, 0, 5, 28), (247, 1, 103, 0), (250, 1, 124, 2), (254, 1, 121, 2), (257, 1, 122, 3), (261, 1, 112, 2), (265, 1, 123, 1), (268, 1, 125, 0), (271, 1, 114, 2), (274, 1, 126, 1), (277, 1, 127, 1), (280, 1, 84, 1), (283, 1, 128, 0), (286, 0, 5, 18)],
  [(7, 1, 10, 1), (8, 4, 0, 0), (17, 3, 0, 0), (18, 4, 5, 0), (20, 3, 82, 0), (21, 1, 1, 1), (24, 1, 87, 1), (27, 1, 2, 3), (31, 1, 88, 3), (32, 1, 3, 4), (36, 1, 90, 4), (37, 1, 4, 2), (41, 1, 91, 2), (42, 1, 5, 1), (46, 1, 92, 1), (47, 1, 6, 3), (51, 1, 94, 3), (52, 1, 7, 0), (56, 1, 98, 0), (57, 1, 8, 2), (61, 1, 99, 2), (62, 1, 9, 0), (65, 1, 100, 0), (66, 12, 134, 3), (71, 1, 129, 1), (72, 1, 83, 0), (75, 1, 11, 1), (78, 1, 130, 1), (79, 1, 12, 1), (82, 1, 131, 1), (83, 1, 13, 0), (86, 1, 132, 0), (87, 1, 14, 2), (90, 1, 133, 2)]]
def xm_cp (k idx : Nat) : Option (Nat × Nat × Nat) := xm_look (xm_cpl.getD (xm_kc k) []) idx
def xm_kil : List (List (Nat × Int32)) := [[], [], [], [(25, 2097151)], [(178, 65536), (179, 1114111), (180, 55296), (181, 57343)], [(126, 2097152), (226, 65536), (227, 1114111), (228, 55296), (229, 57343)], []]
def xm_ki (k idx : Nat) : Option Int32 := xm_look (xm_kil.getD (xm_kc k) []) idx
def xm_kll : List (List (Nat × Int64)) := [[], [], [], [], [], [(174, 256), (224, -1)], [(25, 4294967295)]]
def xm_kl (k idx : Nat) : Option Int64 := xm_look (xm_kll.getD (xm_kc k) []) idx
def xm_pok (k ci j : Nat) : Bool := !xm_fin ci j || (xm_ini k && decide (xm_kc k = ci))
-- 0: TagCoder.<init>()V
def xm_i0 : List (Nat × ClassFile.Instr × Nat) := [(0, .aload_n 0, 1), (1, .invokespecial 3, 3), (4, .aload_n 0, 1), (5, .bipush (16), 2), (7, .anewarray 9, 3), (10, .putfield 11, 3), (13, .aload_n 0, 1), (14, .iconst 0, 1), (15, .putfield 15, 3), (18, .aload_n 0, 1), (19, .aconst_null, 1), (20, .putfield 19, 3), (23, .aload_n 0, 1), (24, .new 23, 3), (27, .dup, 1), (28, .invokespecial 25, 3), (31, .putfield 26, 3), (34, .aload_n 0, 1), (35, .new 23, 3), (38, .dup, 1), (39, .invokespecial 25, 3), (42, .putfield 30, 3), (45, .aload_n 0, 1), (46, .new 33, 3), (49, .dup, 1), (50, .invokespecial 35, 3), (53, .putfield 36, 3), (56, .return_, 1)]
-- 1: TagCoder.basic(I)I
def xm_i1 : List (Nat × ClassFile.Instr × Nat) := [(0, .iload_n 1, 1), (1, .invokestatic 40, 3), (4, .ifCond .eq (14), 3), (7, .aload_n 0, 1), (8, .iload_n 1, 1), (9, .invokestatic 44, 3), (12, .invokevirtual 48, 3), (15, .goto (4), 3), (18, .iconst (-1), 1), (19, .ireturn, 1)]
-- 2: TagCoder.bounded(IJJ)I
def xm_i2 : List (Nat × ClassFile.Instr × Nat) := [(0, .aload_n 0, 1), (1, .iload_n 1, 1), (2, .invokevirtual 52, 3), (5, .astore 6, 2), (7, .aload 6, 2), (9, .ifnull (18), 3), (12, .aload 6, 2), (14, .invokevirtual 55, 3), (17, .ifCond .eq (10), 3), (20, .lload_n 2, 1), (21, .lload 4, 2), (23, .lcmp, 1), (24, .ifCond .le (5), 3), (27, .iconst (-1), 1), (28, .ireturn, 1), (29, .aload 6, 2), (31, .getfield 59, 3), (34, .iconst 2, 1), (35, .if_icmp .eq (11), 3), (38, .lload_n 2, 1), (39, .lconst 0, 1), (40, .lcmp, 1), (41, .ifCond .ge (5), 3), (44, .iconst (-1), 1), (45, .ireturn, 1), (46, .aload_n 0, 1), (47, .aload 6, 2), (49, .lload_n 2, 1), (50, .lload 4, 2), (52, .invokevirtual 62, 3), (55, .invokevirtual 48, 3), (58, .ireturn, 1)]
-- 3: TagCoder.tagged(IIZI)I
def xm_i3 : List (Nat × ClassFile.Instr × Nat) := [(0, .aload_n 0, 1), (1, .iload 4, 2), (3, .invokevirtual 52, 3), (6, .astore 5, 2), (8, .aload 5, 2), (10, .ifnull (13), 3), (13, .iload_n 1, 1), (14, .iconst 1, 1), (15, .if_icmp .lt (8), 3), (18, .iload_n 1, 1), (19, .iconst 3, 1), (20, .if_icmp .le (5), 3), (23, .iconst (-1), 1), (24, .ireturn, 1), (25, .iload_n 2, 1), (26, .ifCond .lt (10), 3), (29, .iload_n 2, 1), (30, .sipush (2000), 3), (33, .if_icmp .le (5), 3), (36, .iconst (-1), 1), (37, .ireturn, 1), (38, .iload_n 3, 1), (39, .ifCond .ne (15), 3), (42, .aload 5, 2), (44, .getfield 59, 3), (47, .bipush (20), 2), (49, .if_icmp .ne (5), 3), (52, .iconst (-1), 1), (53, .ireturn, 1), (54, .iload_n 1, 1), (55, .bipush (21), 2), (57, .ishl, 1), (58, .iload_n 2, 1), (59, .iadd, 1), (60, .istore 6, 2), (62, .aload_n 0, 1), (63, .iload_n 3, 1), (64, .ifCond .eq (13), 3), (67, .iload 6, 2), (69, .aload 5, 2), (71, .invokestatic 66, 3), (74, .goto (10), 3), (77, .aload 5, 2), (79, .iload 6, 2), (81, .invokevirtual 70, 3), (84, .invokevirtual 48, 3), (87, .ireturn, 1)]
-- 4: TagCoder.list(II)I
def xm_i4 : List (Nat × ClassFile.Instr × Nat) := [(0, .aload_n 0, 1), (1, .iload_n 2, 1), (2, .invokevirtual 52, 3), (5, .astore_n 3, 1), (6, .aload_n 3, 1), (7, .ifnull (15), 3), (10, .iload_n 1, 1), (11, .bipush (16), 2), (13, .if_icmp .eq (11), 3), (16, .iload_n 1, 1), (17, .bipush (17), 2), (19, .if_icmp .eq (5), 3), (22, .iconst (-1), 1), (23, .ireturn, 1), (24, .aload_n 0, 1), (25, .iload_n 1, 1), (26, .aload_n 3, 1), (27, .invokestatic 73, 3), (30, .invokevirtual 48, 3), (33, .ireturn, 1)]
-- 5: TagCoder.open(I)Z
def xm_i5 : List (Nat × ClassFile.Instr × Nat) := [(0, .iload_n 1, 1), (1, .bipush (16), 2), (3, .if_icmp .eq (17), 3), (6, .iload_n 1, 1), (7, .bipush (17), 2), (9, .if_icmp .eq (11), 3), (12, .iload_n 1, 1), (13, .bipush (20), 2), (15, .if_icmp .eq (5), 3), (18, .iconst 0, 1), (19, .ireturn, 1), (20, .aload_n 0, 1), (21, .new 76, 3), (24, .dup, 1), (25, .iload_n 1, 1), (26, .invokespecial 78, 3), (29, .putfield 19, 3), (32, .iconst 1, 1), (33, .ireturn, 1)]
-- 6: TagCoder.member(IIJ)Z
def xm_i6 : List (Nat × ClassFile.Instr × Nat) := [(0, .aload_n 0, 1), (1, .iload_n 1, 1), (2, .invokevirtual 52, 3), (5, .astore 5, 2), (7, .aload_n 0, 1), (8, .getfield 19, 3), (11, .ifnull (22), 3), (14, .aload 5, 2), (16, .ifnull (17), 3), (19, .aload_n 0, 1), (20, .getfield 19, 3), (23, .aload 5, 2), (25, .iload_n 2, 1), (26, .lload_n 3, 1), (27, .invokevirtual 81, 3), (30, .ifCond .ne (5), 3), (33, .iconst 0, 1), (34, .ireturn, 1), (35, .aload_n 0, 1), (36, .getfield 19, 3), (39, .aload 5, 2), (41, .iload_n 2, 1), (42, .lload_n 3, 1), (43, .invokevirtual 85, 3), (46, .iconst 1, 1), (47, .ireturn, 1)]
-- 7: TagCoder.close()I
def xm_i7 : List (Nat × ClassFile.Instr × Nat) := [(0, .aload_n 0, 1), (1, .getfield 19, 3), (4, .ifnull (22), 3), (7, .aload_n 0, 1), (8, .getfield 15, 3), (11, .bipush (16), 2), (13, .if_icmp .ge (13), 3), (16, .aload_n 0, 1), (17, .getfield 19, 3), (20, .invokevirtual 89, 3), (23, .ifCond .eq (5), 3), (26, .iconst (-1), 1), (27, .ireturn, 1), (28, .aload_n 0, 1), (29, .aload_n 0, 1), (30, .getfield 19, 3), (33, .invokestatic 92, 3), (36, .invokevirtual 48, 3), (39, .istore_n 1, 1), (40, .aload_n 0, 1), (41, .aconst_null, 1), (42, .putfield 19, 3), (45, .iload_n 1, 1), (46, .ireturn, 1)]
-- 8: TagCoder.feed(JI)Z
def xm_i8 : List (Nat × ClassFile.Instr × Nat) := [(0, .iload_n 3, 1), (1, .iconst 1, 1), (2, .if_icmp .lt (24), 3), (5, .iload_n 3, 1), (6, .bipush (8), 2), (8, .if_icmp .gt (18), 3), (11, .aload_n 0, 1), (12, .getfield 26, 3), (15, .getfield 96, 3), (18, .iload_n 3, 1), (19, .iadd, 1), (20, .sipush (200), 3), (23, .if_icmp .le (5), 3), (26, .iconst 0, 1), (27, .ireturn, 1), (28, .iload_n 3, 1), (29, .iconst 1, 1), (30, .isub, 1), (31, .istore 4, 2), (33, .iload 4, 2), (35, .ifCond .lt (28), 3), (38, .aload_n 0, 1), (39, .getfield 26, 3), (42, .lload_n 1, 1), (43, .bipush (8), 2), (45, .iload 4, 2), (47, .imul, 1), (48, .lushr, 1), (49, .l2i, 1), (50, .sipush (255), 3), (53, .iand, 1), (54, .invokevirtual 99, 3), (57, .iinc 4 (-1), 3), (60, .goto (-27), 3), (63, .iconst 1, 1), (64, .ireturn, 1)]
-- 9: TagCoder.clear()V
def xm_i9 : List (Nat × ClassFile.Instr × Nat) := [(0, .aload_n 0, 1), (1, .getfield 26, 3), (4, .iconst 0, 1), (5, .putfield 96, 3), (8, .return_, 1)]
-- 10: TagCoder.transcode(I)I
def xm_i10 : List (Nat × ClassFile.Instr × Nat) := [(0, .aload_n 0, 1), (1, .iload_n 1, 1), (2, .invokevirtual 52, 3), (5, .astore_n 2, 1), (6, .aload_n 2, 1), (7, .ifnonnull (11), 3), (10, .new 102, 3), (13, .dup, 1), (14, .invokespecial 104, 3), (17, .athrow, 1), (18, .aload_n 0, 1), (19, .getfield 36, 3), (22, .aload_n 0, 1), (23, .getfield 26, 3), (26, .aload_n 2, 1), (27, .invokevirtual 105, 3), (30, .aload_n 0, 1), (31, .getfield 30, 3), (34, .aload_n 0, 1), (35, .getfield 36, 3), (38, .getfield 109, 3), (41, .invokevirtual 112, 3), (44, .aload_n 0, 1), (45, .getfield 30, 3), (48, .getfield 96, 3), (51, .ireturn, 1)]
-- 11: TagCoder.result(I)I
def xm_i11 : List (Nat × ClassFile.Instr × Nat) := [(0, .aload_n 0, 1), (1, .getfield 30, 3), (4, .iload_n 1, 1), (5, .invokevirtual 116, 3), (8, .ireturn, 1)]
-- 12: TagCoder.octet(I)I
def xm_i12 : List (Nat × ClassFile.Instr × Nat) := [(0, .aload_n 0, 1), (1, .getfield 26, 3), (4, .iload_n 1, 1), (5, .invokevirtual 116, 3), (8, .ireturn, 1)]
-- 13: TagCoder.counts()I
def xm_i13 : List (Nat × ClassFile.Instr × Nat) := [(0, .aload_n 0, 1), (1, .getfield 19, 3), (4, .ifnonnull (7), 3), (7, .iconst 0, 1), (8, .goto (25), 3), (11, .bipush (32), 2), (13, .aload_n 0, 1), (14, .getfield 19, 3), (17, .getfield 120, 3), (20, .imul, 1), (21, .sipush (1024), 3), (24, .aload_n 0, 1), (25, .getfield 19, 3), (28, .getfield 123, 3), (31, .imul, 1), (32, .iadd, 1), (33, .istore_n 1, 1), (34, .aload_n 0, 1), (35, .getfield 15, 3), (38, .iload_n 1, 1), (39, .iadd, 1), (40, .ireturn, 1)]
-- 14: TagCoder.firstTag(II)I
def xm_i14 : List (Nat × ClassFile.Instr × Nat) := [(0, .aload_n 0, 1), (1, .iload_n 1, 1), (2, .invokevirtual 52, 3), (5, .astore_n 3, 1), (6, .aload_n 3, 1), (7, .ifnull (16), 3), (10, .iload_n 2, 1), (11, .ifCond .lt (12), 3), (14, .iload_n 2, 1), (15, .aload_n 3, 1), (16, .getfield 124, 3), (19, .arraylength, 1), (20, .if_icmp .lt (5), 3), (23, .iconst (-1), 1), (24, .ireturn, 1), (25, .aload_n 3, 1), (26, .getfield 124, 3), (29, .iload_n 2, 1), (30, .iaload, 1), (31, .ireturn, 1)]
-- 15: TagCoder.isBasicKind(I)Z
def xm_i15 : List (Nat × ClassFile.Instr × Nat) := [(0, .iload_n 0, 1), (1, .iconst 1, 1), (2, .if_icmp .lt (9), 3), (5, .iload_n 0, 1), (6, .bipush (6), 2), (8, .if_icmp .le (15), 3), (11, .iload_n 0, 1), (12, .bipush (12), 2), (14, .if_icmp .eq (9), 3), (17, .iload_n 0, 1), (18, .bipush (22), 2), (20, .if_icmp .ne (7), 3), (23, .iconst 1, 1), (24, .goto (4), 3), (27, .iconst 0, 1), (28, .ireturn, 1)]
-- 16: TagCoder.typeAt(I)LTagCoder$Type;
def xm_i16 : List (Nat × ClassFile.Instr × Nat) := [(0, .iload_n 1, 1), (1, .ifCond .lt (20), 3), (4, .iload_n 1, 1), (5, .aload_n 0, 1), (6, .getfield 15, 3), (9, .if_icmp .ge (12), 3), (12, .aload_n 0, 1), (13, .getfield 11, 3), (16, .iload_n 1, 1), (17, .aaload, 1), (18, .goto (4), 3), (21, .aconst_null, 1), (22, .areturn, 1)]
-- 17: TagCoder.keep(LTagCoder$Type;)I
def xm_i17 : List (Nat × ClassFile.Instr × Nat) := [(0, .aload_n 0, 1), (1, .getfield 15, 3), (4, .bipush (16), 2), (6, .if_icmp .lt (5), 3), (9, .iconst (-1), 1), (10, .ireturn, 1), (11, .aload_n 0, 1), (12, .getfield 11, 3), (15, .aload_n 0, 1), (16, .getfield 15, 3), (19, .aload_n 1, 1), (20, .aastore, 1), (21, .aload_n 0, 1), (22, .dup, 1), (23, .getfield 15, 3), (26, .iconst 1, 1), (27, .iadd, 1), (28, .putfield 15, 3), (31, .aload_n 0, 1), (32, .getfield 15, 3), (35, .iconst 1, 1), (36, .isub, 1), (37, .ireturn, 1)]
-- 18: TagCoder$Type.<init>(IIZJJLTagCoder$Type;LTagCoder$Members;)V
def xm_i18 : List (Nat × ClassFile.Instr × Nat) := [(0, .aload_n 0, 1), (1, .invokespecial 3, 3), (4, .aload_n 0, 1), (5, .iload_n 1, 1), (6, .putfield 9, 3), (9, .aload_n 0, 1), (10, .iload_n 2, 1), (11, .putfield 15, 3), (14, .aload_n 0, 1), (15, .iload_n 3, 1), (16, .putfield 18, 3), (19, .aload_n 0, 1), (20, .lload 4, 2), (22, .putfield 22, 3), (25, .aload_n 0, 1), (26, .lload 6, 2), (28, .putfield 26, 3), (31, .aload_n 0, 1), (32, .aload 8, 2), (34, .putfield 29, 3), (37, .aload_n 0, 1), (38, .aload 9, 2), (40, .putfield 33, 3), (43, .aload_n 0, 1), (44, .iload_n 1, 1), (45, .bipush (20), 2), (47, .if_icmp .ne (16), 3), (50, .aload 9, 2), (52, .ifnull (11), 3), (55, .aload 9, 2), (57, .invokevirtual 37, 3), (60, .goto (10), 3), (63, .iconst 1, 1), (64, .newarray .int, 2), (66, .dup, 1), (67, .iconst 0, 1), (68, .iload_n 2, 1), (69, .iastore, 1), (70, .putfield 43, 3), (73, .return_, 1)]
-- 19: TagCoder$Type.ofKind(I)LTagCoder$Type;
def xm_i19 : List (Nat × ClassFile.Instr × Nat) := [(0, .new 10, 3), (3, .dup, 1), (4, .iload_n 0, 1), (5, .iload_n 0, 1), (6, .iconst 0, 1), (7, .lconst 0, 1), (8, .lconst 0, 1), (9, .aconst_null, 1), (10, .aconst_null, 1), (11, .invokespecial 47, 3), (14, .areturn, 1)]
-- 20: TagCoder$Type.around(ILTagCoder$Type;)LTagCoder$Type;
def xm_i20 : List (Nat × ClassFile.Instr × Nat) := [(0, .new 10, 3), (3, .dup, 1), (4, .bipush (118), 2), (6, .iload_n 0, 1), (7, .iconst 0, 1), (8, .lconst 0, 1), (9, .lconst 0, 1), (10, .aload_n 1, 1), (11, .aconst_null, 1), (12, .invokespecial 47, 3), (15, .areturn, 1)]
-- 21: TagCoder$Type.listOf(ILTagCoder$Type;)LTagCoder$Type;
def xm_i21 : List (Nat × ClassFile.Instr × Nat) := [(0, .new 10, 3), (3, .dup, 1), (4, .iload_n 0, 1), (5, .bipush (17), 2), (7, .if_icmp .ne (8), 3), (10, .bipush (117), 2), (12, .goto (5), 3), (15, .bipush (116), 2), (17, .iload_n 0, 1), (18, .iconst 0, 1), (19, .lconst 0, 1), (20, .lconst 0, 1), (21, .aload_n 1, 1), (22, .aconst_null, 1), (23, .invokespecial 47, 3), (26, .areturn, 1)]
-- 22: TagCoder$Type.madeOf(LTagCoder$Members;)LTagCoder$Type;
def xm_i22 : List (Nat × ClassFile.Instr × Nat) := [(0, .aload_n 0, 1), (1, .getfield 50, 3), (4, .bipush (20), 2), (6, .if_icmp .ne (7), 3), (9, .iconst (-1), 1), (10, .goto (7), 3), (13, .aload_n 0, 1), (14, .getfield 50, 3), (17, .istore_n 1, 1), (18, .new 10, 3), (21, .dup, 1), (22, .aload_n 0, 1), (23, .getfield 50, 3), (26, .iload_n 1, 1), (27, .iconst 0, 1), (28, .lconst 0, 1), (29, .lconst 0, 1), (30, .aconst_null, 1), (31, .aload_n 0, 1), (32, .invokespecial 47, 3), (35, .areturn, 1)]
-- 23: TagCoder$Type.within(JJ)LTagCoder$Type;
def xm_i23 : List (Nat × ClassFile.Instr × Nat) := [(0, .new 10, 3), (3, .dup, 1), (4, .aload_n 0, 1), (5, .getfield 9, 3), (8, .aload_n 0, 1), (9, .getfield 15, 3), (12, .iconst 1, 1), (13, .lload_n 1, 1), (14, .lload_n 3, 1), (15, .aload_n 0, 1), (16, .getfield 29, 3), (19, .aload_n 0, 1), (20, .getfield 33, 3), (23, .invokespecial 47, 3), (26, .areturn, 1)]
-- 24: TagCoder$Type.retagged(I)LTagCoder$Type;
def xm_i24 : List (Nat × ClassFile.Instr × Nat) := [(0, .new 10, 3), (3, .dup, 1), (4, .aload_n 0, 1), (5, .getfield 9, 3), (8, .iload_n 1, 1), (9, .aload_n 0, 1), (10, .getfield 18, 3), (13, .aload_n 0, 1), (14, .getfield 22, 3), (17, .aload_n 0, 1), (18, .getfield 26, 3), (21, .aload_n 0, 1), (22, .getfield 29, 3), (25, .aload_n 0, 1), (26, .getfield 33, 3), (29, .invokespecial 47, 3), (32, .areturn, 1)]
-- 25: TagCoder$Type.mayBeBounded()Z
def xm_i25 : List (Nat × ClassFile.Instr × Nat) := [(0, .aload_n 0, 1), (1, .getfield 15, 3), (4, .aload_n 0, 1), (5, .getfield 9, 3), (8, .if_icmp .eq (7), 3), (11, .iconst 1, 1), (12, .goto (4), 3), (15, .iconst 0, 1), (16, .istore_n 1, 1), (17, .aload_n 0, 1), (18, .getfield 9, 3), (21, .iconst 2, 1), (22, .if_icmp .eq (10), 3), (25, .aload_n 0, 1), (26, .invokevirtual 53, 3), (29, .ifCond .eq (7), 3), (32, .iconst 1, 1), (33, .goto (4), 3), (36, .iconst 0, 1), (37, .istore_n 2, 1), (38, .iload_n 2, 1), (39, .ifCond .eq (18), 3), (42, .aload_n 0, 1), (43, .getfield 18, 3), (46, .ifCond .ne (11), 3), (49, .iload_n 1, 1), (50, .ifCond .ne (7), 3), (53, .iconst 1, 1), (54, .goto (4), 3), (57, .iconst 0, 1), (58, .ireturn, 1)]
-- 26: TagCoder$Type.isOctets()Z
def xm_i26 : List (Nat × ClassFile.Instr × Nat) := [(0, .aload_n 0, 1), (1, .getfield 9, 3), (4, .iconst 4, 1), (5, .if_icmp .eq (21), 3), (8, .aload_n 0, 1), (9, .getfield 9, 3), (12, .bipush (12), 2), (14, .if_icmp .eq (12), 3), (17, .aload_n 0, 1), (18, .getfield 9, 3), (21, .bipush (22), 2), (23, .if_icmp .ne (7), 3), (26, .iconst 1, 1), (27, .goto (4), 3), (30, .iconst 0, 1), (31, .ireturn, 1)]
-- 27: TagCoder$Type.isConstructed()Z
def xm_i27 : List (Nat × ClassFile.Instr × Nat) := [(0, .aload_n 0, 1), (1, .getfield 9, 3), (4, .bipush (16), 2), (6, .if_icmp .eq (39), 3), (9, .aload_n 0, 1), (10, .getfield 9, 3), (13, .bipush (17), 2), (15, .if_icmp .eq (30), 3), (18, .aload_n 0, 1), (19, .getfield 9, 3), (22, .bipush (116), 2), (24, .if_icmp .eq (21), 3), (27, .aload_n 0, 1), (28, .getfield 9, 3), (31, .bipush (117), 2), (33, .if_icmp .eq (12), 3), (36, .aload_n 0, 1), (37, .getfield 9, 3), (40, .bipush (118), 2), (42, .if_icmp .ne (7), 3), (45, .iconst 1, 1), (46, .goto (4), 3), (49, .iconst 0, 1), (50, .ireturn, 1)]
-- 28: TagCoder$Type.mayBe(Z)Z
def xm_i28 : List (Nat × ClassFile.Instr × Nat) := [(0, .aload_n 0, 1), (1, .getfield 9, 3), (4, .iconst 3, 1), (5, .if_icmp .eq (18), 3), (8, .aload_n 0, 1), (9, .invokevirtual 53, 3), (12, .ifCond .ne (11), 3), (15, .iload_n 1, 1), (16, .aload_n 0, 1), (17, .invokevirtual 57, 3), (20, .if_icmp .ne (7), 3), (23, .iconst 1, 1), (24, .goto (4), 3), (27, .iconst 0, 1), (28, .ireturn, 1)]
-- 29: TagCoder$Type.keepsTo(J)Z
def xm_i29 : List (Nat × ClassFile.Instr × Nat) := [(0, .aload_n 0, 1), (1, .getfield 18, 3), (4, .ifCond .eq (21), 3), (7, .lload_n 1, 1), (8, .aload_n 0, 1), (9, .getfield 22, 3), (12, .lcmp, 1), (13, .ifCond .lt (16), 3), (16, .lload_n 1, 1), (17, .aload_n 0, 1), (18, .getfield 26, 3), (21, .lcmp, 1), (22, .ifCond .gt (7), 3), (25, .iconst 1, 1), (26, .goto (4), 3), (29, .iconst 0, 1), (30, .ireturn, 1)]
-- 30: TagCoder$Type.mayDefaultTo(J)Z
def xm_i30 : List (Nat × ClassFile.Instr × Nat) := [(0, .aload_n 0, 1), (1, .astore_n 3, 1), (2, .iconst 0, 1), (3, .istore 4, 2), (5, .iload 4, 2), (7, .bipush (16), 2), (9, .if_icmp .ge (30), 3), (12, .aload_n 3, 1), (13, .getfield 9, 3), (16, .bipush (118), 2), (18, .if_icmp .ne (21), 3), (21, .aload_n 3, 1), (22, .getfield 29, 3), (25, .ifnull (14), 3), (28, .aload_n 3, 1), (29, .getfield 29, 3), (32, .astore_n 3, 1), (33, .iinc 4 (1), 3), (36, .goto (-31), 3), (39, .aload_n 3, 1), (40, .getfield 9, 3), (43, .iconst 1, 1), (44, .if_icmp .ne (21), 3), (47, .lload_n 1, 1), (48, .lconst 0, 1), (49, .lcmp, 1), (50, .ifCond .eq (9), 3), (53, .lload_n 1, 1), (54, .lconst 1, 1), (55, .lcmp, 1), (56, .ifCond .ne (7), 3), (59, .iconst 1, 1), (60, .goto (4), 3), (63, .iconst 0, 1), (64, .ireturn, 1), (65, .aload_n 3, 1), (66, .getfield 9, 3), (69, .iconst 2, 1), (70, .if_icmp .ne (15), 3), (73, .aload_n 3, 1), (74, .lload_n 1, 1), (75, .invokevirtual 60, 3), (78, .ifCond .eq (7), 3), (81, .iconst 1, 1), (82, .goto (4), 3), (85, .iconst 0, 1), (86, .ireturn, 1)]
-- 31: TagCoder$Type.hasFirstTag(I)Z
def xm_i31 : List (Nat × ClassFile.Instr × Nat) := [(0, .iconst 0, 1), (1, .istore_n 2, 1), (2, .iload_n 2, 1), (3, .aload_n 0, 1), (4, .getfield 43, 3), (7, .arraylength, 1), (8, .if_icmp .ge (21), 3), (11, .aload_n 0, 1), (12, .getfield 43, 3), (15, .iload_n 2, 1), (16, .iaload, 1), (17, .iload_n 1, 1), (18, .if_icmp .ne (5), 3), (21, .iconst 1, 1), (22, .ireturn, 1), (23, .iinc 2 (1), 3), (26, .goto (-24), 3), (29, .iconst 0, 1), (30, .ireturn, 1)]
-- 32: TagCoder$Type.sharesFirstTag(LTagCoder$Type;)Z
def xm_i32 : List (Nat × ClassFile.Instr × Nat) := [(0, .iconst 0, 1), (1, .istore_n 2, 1), (2, .iload_n 2, 1), (3, .aload_n 0, 1), (4, .getfield 43, 3), (7, .arraylength, 1), (8, .if_icmp .ge (24), 3), (11, .aload_n 1, 1), (12, .aload_n 0, 1), (13, .getfield 43, 3), (16, .iload_n 2, 1), (17, .iaload, 1), (18, .invokevirtual 64, 3), (21, .ifCond .eq (5), 3), (24, .iconst 1, 1), (25, .ireturn, 1), (26, .iinc 2 (1), 3), (29, .goto (-27), 3), (32, .iconst 0, 1), (33, .ireturn, 1)]
-- 33: TagCoder$Type.bearing(I)LTagCoder$Type;
def xm_i33 : List (Nat × ClassFile.Instr × Nat) := [(0, .aload_n 0, 1), (1, .astore_n 2, 1), (2, .iconst 0, 1), (3, .istore_n 3, 1), (4, .iload_n 3, 1), (5, .bipush (16), 2), (7, .if_icmp .ge (54), 3), (10, .aload_n 2, 1), (11, .getfield 9, 3), (14, .bipush (20), 2), (16, .if_icmp .ne (45), 3), (19, .aload_n 2, 1), (20, .getfield 33, 3), (23, .ifnull (38), 3), (26, .aload_n 2, 1), (27, .getfield 33, 3), (30, .iload_n 1, 1), (31, .iconst 0, 1), (32, .invokevirtual 68, 3), (35, .istore 4, 2), (37, .iload 4, 2), (39, .ifCond .ge (5), 3), (42, .aconst_null, 1), (43, .areturn, 1), (44, .aload_n 2, 1), (45, .getfield 33, 3), (48, .getfield 72, 3), (51, .iload 4, 2), (53, .aaload, 1), (54, .astore_n 2, 1), (55, .iinc 3 (1), 3), (58, .goto (-54), 3), (61, .aload_n 2, 1), (62, .getfield 15, 3), (65, .iload_n 1, 1), (66, .if_icmp .ne (7), 3), (69, .aload_n 2, 1), (70, .goto (4), 3), (73, .aconst_null, 1), (74, .areturn, 1)]
-- 34: TagCoder$Members.<init>(I)V
def xm_i34 : List (Nat × ClassFile.Instr × Nat) := [(0, .aload_n 0, 1), (1, .invokespecial 3, 3), (4, .aload_n 0, 1), (5, .bipush (6), 2), (7, .anewarray 9, 3), (10, .putfield 11, 3), (13, .aload_n 0, 1), (14, .bipush (6), 2), (16, .newarray .int, 2), (18, .putfield 17, 3), (21, .aload_n 0, 1), (22, .bipush (6), 2), (24, .newarray .long, 2), (26, .putfield 21, 3), (29, .aload_n 0, 1), (30, .iconst 0, 1), (31, .putfield 25, 3), (34, .aload_n 0, 1), (35, .iload_n 1, 1), (36, .putfield 29, 3), (39, .return_, 1)]
-- 35: TagCoder$Members.mayTake(LTagCoder$Type;IJ)Z
def xm_i35 : List (Nat × ClassFile.Instr × Nat) := [(0, .aload_n 0, 1), (1, .getfield 25, 3), (4, .bipush (6), 2), (6, .if_icmp .lt (5), 3), (9, .iconst 0, 1), (10, .ireturn, 1), (11, .iload_n 2, 1), (12, .ifCond .ne (5), 3), (15, .iconst 1, 1), (16, .ireturn, 1), (17, .aload_n 0, 1), (18, .getfield 29, 3), (21, .bipush (20), 2), (23, .if_icmp .ne (5), 3), (26, .iconst 0, 1), (27, .ireturn, 1), (28, .iload_n 2, 1), (29, .iconst 1, 1), (30, .if_icmp .eq (16), 3), (33, .iload_n 2, 1), (34, .iconst 2, 1), (35, .if_icmp .ne (15), 3), (38, .aload_n 1, 1), (39, .lload_n 3, 1), (40, .invokevirtual 32, 3), (43, .ifCond .eq (7), 3), (46, .iconst 1, 1), (47, .goto (4), 3), (50, .iconst 0, 1), (51, .ireturn, 1)]
-- 36: TagCoder$Members.add(LTagCoder$Type;IJ)V
def xm_i36 : List (Nat × ClassFile.Instr × Nat) := [(0, .aload_n 0, 1), (1, .getfield 11, 3), (4, .aload_n 0, 1), (5, .getfield 25, 3), (8, .aload_n 1, 1), (9, .aastore, 1), (10, .aload_n 0, 1), (11, .getfield 17, 3), (14, .aload_n 0, 1), (15, .getfield 25, 3), (18, .iload_n 2, 1), (19, .iastore, 1), (20, .aload_n 0, 1), (21, .getfield 21, 3), (24, .aload_n 0, 1), (25, .getfield 25, 3), (28, .lload_n 3, 1), (29, .lastore, 1), (30, .aload_n 0, 1), (31, .dup, 1), (32, .getfield 25, 3), (35, .iconst 1, 1), (36, .iadd, 1), (37, .putfield 25, 3), (40, .return_, 1)]
-- 37: TagCoder$Members.breaksRules()Z
def xm_i37 : List (Nat × ClassFile.Instr × Nat) := [(0, .aload_n 0, 1), (1, .getfield 29, 3), (4, .bipush (20), 2), (6, .if_icmp .ne (12), 3), (9, .aload_n 0, 1), (10, .getfield 25, 3), (13, .ifCond .ne (5), 3), (16, .iconst 1, 1), (17, .ireturn, 1), (18, .iconst 0, 1), (19, .istore_n 1, 1), (20, .iload_n 1, 1), (21, .aload_n 0, 1), (22, .getfield 25, 3), (25, .if_icmp .ge (19), 3), (28, .aload_n 0, 1), (29, .iload_n 1, 1), (30, .invokevirtual 36, 3), (33, .ifCond .eq (5), 3), (36, .iconst 1, 1), (37, .ireturn, 1), (38, .iinc 1 (1), 3), (41, .goto (-21), 3), (44, .iconst 0, 1), (45, .ireturn, 1)]
-- 38: TagCoder$Members.clashesBehind(I)Z
def xm_i38 : List (Nat × ClassFile.Instr × Nat) := [(0, .aload_n 0, 1), (1, .getfield 29, 3), (4, .bipush (16), 2), (6, .if_icmp .ne (7), 3), (9, .iconst 1, 1), (10, .goto (4), 3), (13, .iconst 0, 1), (14, .istore_n 2, 1), (15, .iload_n 2, 1), (16, .ifCond .eq (14), 3), (19, .aload_n 0, 1), (20, .getfield 17, 3), (23, .iload_n 1, 1), (24, .iaload, 1), (25, .ifCond .ne (5), 3), (28, .iconst 0, 1), (29, .ireturn, 1), (30, .iload_n 1, 1), (31, .iconst 1, 1), (32, .iadd, 1), (33, .istore_n 3, 1), (34, .iload_n 3, 1), (35, .aload_n 0, 1), (36, .getfield 25, 3), (39, .if_icmp .ge (44), 3), (42, .aload_n 0, 1), (43, .getfield 11, 3), (46, .iload_n 1, 1), (47, .aaload, 1), (48, .aload_n 0, 1), (49, .getfield 11, 3), (52, .iload_n 3, 1), (53, .aaload, 1), (54, .invokevirtual 40, 3), (57, .ifCond .eq (5), 3), (60, .iconst 1, 1), (61, .ireturn, 1), (62, .iload_n 2, 1), (63, .ifCond .eq (14), 3), (66, .aload_n 0, 1), (67, .getfield 17, 3), (70, .iload_n 3, 1), (71, .iaload, 1), (72, .ifCond .ne (5), 3), (75, .iconst 0, 1), (76, .ireturn, 1), (77, .iinc 3 (1), 3), (80, .goto (-46), 3), (83, .iconst 0, 1), (84, .ireturn, 1)]
-- 39: TagCoder$Members.allFirstTags()[I
def xm_i39 : List (Nat × ClassFile.Instr × Nat) := [(0, .iconst 0, 1), (1, .istore_n 1, 1), (2, .iconst 0, 1), (3, .istore_n 2, 1), (4, .iload_n 2, 1), (5, .aload_n 0, 1), (6, .getfield 25, 3), (9, .if_icmp .ge (22), 3), (12, .iload_n 1, 1), (13, .aload_n 0, 1), (14, .getfield 11, 3), (17, .iload_n 2, 1), (18, .aaload, 1), (19, .getfield 44, 3), (22, .arraylength, 1), (23, .iadd, 1), (24, .istore_n 1, 1), (25, .iinc 2 (1), 3), (28, .goto (-24), 3), (31, .iload_n 1, 1), (32, .newarray .int, 2), (34, .astore_n 2, 1), (35, .iconst 0, 1), (36, .istore_n 3, 1), (37, .iconst 0, 1), (38, .istore 4, 2), (40, .iload 4, 2), (42, .aload_n 0, 1), (43, .getfield 25, 3), (46, .if_icmp .ge (38), 3), (49, .aload_n 0, 1), (50, .getfield 11, 3), (53, .iload 4, 2), (55, .aaload, 1), (56, .getfield 44, 3), (59, .astore 5, 2), (61, .aload 5, 2), (63, .iconst 0, 1), (64, .aload_n 2, 1), (65, .iload_n 3, 1), (66, .aload 5, 2), (68, .arraylength, 1), (69, .invokestatic 47, 3), (72, .iload_n 3, 1), (73, .aload 5, 2), (75, .arraylength, 1), (76, .iadd, 1), (77, .istore_n 3, 1), (78, .iinc 4 (1), 3), (81, .goto (-41), 3), (84, .aload_n 2, 1), (85, .areturn, 1)]
-- 40: TagCoder$Members.indexBearing(II)I
def xm_i40 : List (Nat × ClassFile.Instr × Nat) := [(0, .iload_n 2, 1), (1, .istore_n 3, 1), (2, .iload_n 3, 1), (3, .aload_n 0, 1), (4, .getfield 25, 3), (7, .if_icmp .ge (24), 3), (10, .aload_n 0, 1), (11, .getfield 11, 3), (14, .iload_n 3, 1), (15, .aaload, 1), (16, .iload_n 1, 1), (17, .invokevirtual 53, 3), (20, .ifCond .eq (5), 3), (23, .iload_n 3, 1), (24, .ireturn, 1), (25, .iinc 3 (1), 3), (28, .goto (-26), 3), (31, .iconst (-1), 1), (32, .ireturn, 1)]
-- 41: TagCoder$Members.hasMandatoryOutside(I)Z
def xm_i41 : List (Nat × ClassFile.Instr × Nat) := [(0, .iconst 0, 1), (1, .istore_n 2, 1), (2, .iload_n 2, 1), (3, .aload_n 0, 1), (4, .getfield 25, 3), (7, .if_icmp .ge (28), 3), (10, .aload_n 0, 1), (11, .getfield 17, 3), (14, .iload_n 2, 1), (15, .iaload, 1), (16, .ifCond .ne (13), 3), (19, .iload_n 1, 1), (20, .iload_n 2, 1), (21, .ishr, 1), (22, .iconst 1, 1), (23, .iand, 1), (24, .ifCond .ne (5), 3), (27, .iconst 1, 1), (28, .ireturn, 1), (29, .iinc 2 (1), 3), (32, .goto (-30), 3), (35, .iconst 0, 1), (36, .ireturn, 1)]
-- 42: TagCoder$Octets.<init>()V
def xm_i42 : List (Nat × ClassFile.Instr × Nat) := [(0, .aload_n 0, 1), (1, .invokespecial 3, 3), (4, .aload_n 0, 1), (5, .sipush (200), 3), (8, .newarray .int, 2), (10, .putfield 9, 3), (13, .aload_n 0, 1), (14, .iconst 0, 1), (15, .putfield 15, 3), (18, .return_, 1)]
-- 43: TagCoder$Octets.ask(I)I
def xm_i43 : List (Nat × ClassFile.Instr × Nat) := [(0, .iload_n 1, 1), (1, .iconst (-1), 1), (2, .if_icmp .ne (8), 3), (5, .aload_n 0, 1), (6, .getfield 15, 3), (9, .ireturn, 1), (10, .iload_n 1, 1), (11, .ifCond .lt (20), 3), (14, .iload_n 1, 1), (15, .aload_n 0, 1), (16, .getfield 15, 3), (19, .if_icmp .ge (12), 3), (22, .aload_n 0, 1), (23, .getfield 9, 3), (26, .iload_n 1, 1), (27, .iaload, 1), (28, .goto (4), 3), (31, .iconst (-1), 1), (32, .ireturn, 1)]
-- 44: TagCoder$Octets.append(I)V
def xm_i44 : List (Nat × ClassFile.Instr × Nat) := [(0, .aload_n 0, 1), (1, .getfield 15, 3), (4, .aload_n 0, 1), (5, .getfield 9, 3), (8, .arraylength, 1), (9, .if_icmp .ge (23), 3), (12, .aload_n 0, 1), (13, .getfield 9, 3), (16, .aload_n 0, 1), (17, .getfield 15, 3), (20, .iload_n 1, 1), (21, .iastore, 1), (22, .aload_n 0, 1), (23, .dup, 1), (24, .getfield 15, 3), (27, .iconst 1, 1), (28, .iadd, 1), (29, .putfield 15, 3), (32, .return_, 1)]
-- 45: TagCoder$Octets.become(LTagCoder$Octets;)V
def xm_i45 : List (Nat × ClassFile.Instr × Nat) := [(0, .aload_n 1, 1), (1, .getfield 9, 3), (4, .iconst 0, 1), (5, .aload_n 0, 1), (6, .getfield 9, 3), (9, .iconst 0, 1), (10, .aload_n 1, 1), (11, .getfield 15, 3), (14, .invokestatic 19, 3), (17, .aload_n 0, 1), (18, .aload_n 1, 1), (19, .getfield 15, 3), (22, .putfield 15, 3), (25, .return_, 1)]
-- 46: TagCoder$Octets.insertHeader(IIZ)V
def xm_i46 : List (Nat × ClassFile.Instr × Nat) := [(0, .aload_n 0, 1), (1, .getfield 15, 3), (4, .iload_n 1, 1), (5, .isub, 1), (6, .istore 4, 2), (8, .iload_n 2, 1), (9, .ldc 25, 2), (11, .iand, 1), (12, .istore 5, 2), (14, .iload 5, 2), (16, .invokestatic 26, 3), (19, .istore 6, 2), (21, .iconst 2, 1), (22, .iload 6, 2), (24, .iadd, 1), (25, .iload 4, 2), (27, .sipush (128), 3), (30, .if_icmp .ge (7), 3), (33, .iconst 0, 1), (34, .goto (4), 3), (37, .iconst 1, 1), (38, .iadd, 1), (39, .istore 7, 2), (41, .aload_n 0, 1), (42, .getfield 15, 3), (45, .iload 7, 2), (47, .iadd, 1), (48, .aload_n 0, 1), (49, .getfield 9, 3), (52, .arraylength, 1), (53, .if_icmp .le (11), 3), (56, .new 30, 3), (59, .dup, 1), (60, .invokespecial 32, 3), (63, .athrow, 1), (64, .aload_n 0, 1), (65, .getfield 9, 3), (68, .iload_n 1, 1), (69, .aload_n 0, 1), (70, .getfield 9, 3), (73, .iload_n 1, 1), (74, .iload 7, 2), (76, .iadd, 1), (77, .iload 4, 2), (79, .invokestatic 19, 3), (82, .aload_n 0, 1), (83, .dup, 1), (84, .getfield 15, 3), (87, .iload 7, 2), (89, .iadd, 1), (90, .putfield 15, 3), (93, .iload_n 2, 1), (94, .bipush (21), 2), (96, .ishr, 1), (97, .bipush (64), 2), (99, .imul, 1), (100, .iload_n 3, 1), (101, .ifCond .eq (8), 3), (104, .bipush (32), 2), (106, .goto (4), 3), (109, .iconst 0, 1), (110, .iadd, 1), (111, .istore 8, 2), (113, .aload_n 0, 1), (114, .getfield 9, 3), (117, .iload_n 1, 1), (118, .iload 8, 2), (120, .iload 6, 2), (122, .ifCond .ne (8), 3), (125, .iload 5, 2), (127, .goto (5), 3), (130, .bipush (31), 2), (132, .iadd, 1), (133, .iastore, 1), (134, .iconst 1, 1), (135, .istore 9, 2), (137, .iload 9, 2), (139, .iload 6, 2), (141, .if_icmp .gt (52), 3), (144, .iload 5, 2), (146, .bipush (7), 2), (148, .iload 6, 2), (150, .iload 9, 2), (152, .isub, 1), (153, .imul, 1), (154, .ishr, 1), (155, .bipush (127), 2), (157, .iand, 1), (158, .istore 10, 2), (160, .aload_n 0, 1), (161, .getfield 9, 3), (164, .iload_n 1, 1), (165, .iload 9, 2), (167, .iadd, 1), (168, .iload 9, 2), (170, .iload 6, 2), (172, .if_icmp .ge (12), 3), (175, .iload 10, 2), (177, .sipush (128), 3), (180, .iadd, 1), (181, .goto (5), 3), (184, .iload 10, 2), (186, .iastore, 1), (187, .iinc 9 (1), 3), (190, .goto (-53), 3), (193, .iload 4, 2), (195, .sipush (128), 3), (198, .if_icmp .lt (17), 3), (201, .aload_n 0, 1), (202, .getfield 9, 3), (205, .iload_n 1, 1), (206, .iload 7, 2), (208, .iadd, 1), (209, .iconst 2, 1), (210, .isub, 1), (211, .sipush (129), 3), (214, .iastore, 1), (215, .aload_n 0, 1), (216, .getfield 9, 3), (219, .iload_n 1, 1), (220, .iload 7, 2), (222, .iadd, 1), (223, .iconst 1, 1), (224, .isub, 1), (225, .iload 4, 2), (227, .iastore, 1), (228, .return_, 1)]
-- 47: TagCoder$Octets.sevensIn(I)I
def xm_i47 : List (Nat × ClassFile.Instr × Nat) := [(0, .iload_n 0, 1), (1, .bipush (31), 2), (3, .if_icmp .ge (5), 3), (6, .iconst 0, 1), (7, .ireturn, 1), (8, .iload_n 0, 1), (9, .sipush (128), 3), (12, .if_icmp .ge (5), 3), (15, .iconst 1, 1), (16, .ireturn, 1), (17, .iload_n 0, 1), (18, .sipush (16384), 3), (21, .if_icmp .ge (7), 3), (24, .iconst 2, 1), (25, .goto (4), 3), (28, .iconst 3, 1), (29, .ireturn, 1)]
-- 48: TagCoder$Octets.identifierEnd(I)I
def xm_i48 : List (Nat × ClassFile.Instr × Nat) := [(0, .aload_n 0, 1), (1, .getfield 9, 3), (4, .iload_n 1, 1), (5, .iaload, 1), (6, .bipush (31), 2), (8, .iand, 1), (9, .bipush (31), 2), (11, .if_icmp .eq (5), 3), (14, .iload_n 1, 1), (15, .ireturn, 1), (16, .iload_n 1, 1), (17, .iconst 1, 1), (18, .iadd, 1), (19, .istore_n 2, 1), (20, .iload_n 2, 1), (21, .aload_n 0, 1), (22, .getfield 15, 3), (25, .if_icmp .ge (23), 3), (28, .aload_n 0, 1), (29, .getfield 9, 3), (32, .iload_n 2, 1), (33, .iaload, 1), (34, .sipush (128), 3), (37, .if_icmp .ge (5), 3), (40, .iload_n 2, 1), (41, .ireturn, 1), (42, .iinc 2 (1), 3), (45, .goto (-25), 3), (48, .iload_n 1, 1), (49, .ireturn, 1)]
-- 49: TagCoder$Octets.tagAt(I)I
def xm_i49 : List (Nat × ClassFile.Instr × Nat) := [(0, .aload_n 0, 1), (1, .iload_n 1, 1), (2, .invokevirtual 33, 3), (5, .istore_n 2, 1), (6, .iload_n 2, 1), (7, .iload_n 1, 1), (8, .if_icmp .ne (15), 3), (11, .aload_n 0, 1), (12, .getfield 9, 3), (15, .iload_n 1, 1), (16, .iaload, 1), (17, .bipush (31), 2), (19, .iand, 1), (20, .goto (4), 3), (23, .iconst 0, 1), (24, .istore_n 3, 1), (25, .iload_n 1, 1), (26, .iconst 1, 1), (27, .iadd, 1), (28, .istore 4, 2), (30, .iload 4, 2), (32, .iload_n 2, 1), (33, .if_icmp .gt (25), 3), (36, .iload_n 3, 1), (37, .bipush (7), 2), (39, .ishl, 1), (40, .aload_n 0, 1), (41, .getfield 9, 3), (44, .iload 4, 2), (46, .iaload, 1), (47, .bipush (127), 2), (49, .iand, 1), (50, .ior, 1), (51, .istore_n 3, 1), (52, .iinc 4 (1), 3), (55, .goto (-25), 3), (58, .aload_n 0, 1), (59, .getfield 9, 3), (62, .iload_n 1, 1), (63, .iaload, 1), (64, .bipush (6), 2), (66, .ishr, 1), (67, .bipush (21), 2), (69, .ishl, 1), (70, .iload_n 3, 1), (71, .iadd, 1), (72, .ireturn, 1)]
-- 50: TagCoder$Octets.endOf(I)I
def xm_i50 : List (Nat × ClassFile.Instr × Nat) := [(0, .aload_n 0, 1), (1, .iload_n 1, 1), (2, .invokevirtual 33, 3), (5, .iconst 1, 1), (6, .iadd, 1), (7, .istore_n 2, 1), (8, .iload_n 2, 1), (9, .aload_n 0, 1), (10, .getfield 15, 3), (13, .if_icmp .ge (18), 3), (16, .aload_n 0, 1), (17, .getfield 9, 3), (20, .iload_n 2, 1), (21, .iaload, 1), (22, .sipush (128), 3), (25, .if_icmp .le (6), 3), (28, .iinc 2 (1), 3), (31, .iload_n 2, 1), (32, .aload_n 0, 1), (33, .getfield 15, 3), (36, .if_icmp .ge (12), 3), (39, .aload_n 0, 1), (40, .getfield 9, 3), (43, .iload_n 2, 1), (44, .iaload, 1), (45, .goto (4), 3), (48, .iconst 0, 1), (49, .istore_n 3, 1), (50, .aload_n 0, 1), (51, .getfield 15, 3), (54, .iload_n 2, 1), (55, .iconst 1, 1), (56, .iadd, 1), (57, .iload_n 3, 1), (58, .iadd, 1), (59, .invokestatic 36, 3), (62, .ireturn, 1)]
-- 51: TagCoder$Octets.bringForward(II)V
def xm_i51 : List (Nat × ClassFile.Instr × Nat) := [(0, .aload_n 0, 1), (1, .iload_n 1, 1), (2, .iload_n 2, 1), (3, .invokevirtual 42, 3), (6, .aload_n 0, 1), (7, .iload_n 2, 1), (8, .aload_n 0, 1), (9, .getfield 15, 3), (12, .invokevirtual 42, 3), (15, .aload_n 0, 1), (16, .iload_n 1, 1), (17, .aload_n 0, 1), (18, .getfield 15, 3), (21, .invokevirtual 42, 3), (24, .return_, 1)]
-- 52: TagCoder$Octets.turnRound(II)V
def xm_i52 : List (Nat × ClassFile.Instr × Nat) := [(0, .iload_n 2, 1), (1, .iconst 1, 1), (2, .isub, 1), (3, .istore_n 3, 1), (4, .iload_n 1, 1), (5, .istore 4, 2), (7, .iload 4, 2), (9, .iload_n 3, 1), (10, .if_icmp .ge (42), 3), (13, .aload_n 0, 1), (14, .getfield 9, 3), (17, .iload 4, 2), (19, .iaload, 1), (20, .istore 5, 2), (22, .aload_n 0, 1), (23, .getfield 9, 3), (26, .iload 4, 2), (28, .aload_n 0, 1), (29, .getfield 9, 3), (32, .iload_n 3, 1), (33, .iaload, 1), (34, .iastore, 1), (35, .aload_n 0, 1), (36, .getfield 9, 3), (39, .iload_n 3, 1), (40, .iload 5, 2), (42, .iastore, 1), (43, .iinc 3 (-1), 3), (46, .iinc 4 (1), 3), (49, .goto (-42), 3), (52, .return_, 1)]
-- 53: TagCoder$Recoder.<init>()V
def xm_i53 : List (Nat × ClassFile.Instr × Nat) := [(0, .aload_n 0, 1), (1, .invokespecial 3, 3), (4, .aload_n 0, 1), (5, .new 9, 3), (8, .dup, 1), (9, .invokespecial 11, 3), (12, .putfield 12, 3), (15, .aload_n 0, 1), (16, .new 9, 3), (19, .dup, 1), (20, .invokespecial 11, 3), (23, .putfield 18, 3), (26, .aload_n 0, 1), (27, .iconst 0, 1), (28, .putfield 21, 3), (31, .aload_n 0, 1), (32, .iconst 0, 1), (33, .putfield 25, 3), (36, .aload_n 0, 1), (37, .iconst 0, 1), (38, .putfield 28, 3), (41, .aload_n 0, 1), (42, .iconst 0, 1), (43, .putfield 32, 3), (46, .aload_n 0, 1), (47, .iconst 0, 1), (48, .putfield 35, 3), (51, .aload_n 0, 1), (52, .lconst 0, 1), (53, .putfield 38, 3), (56, .aload_n 0, 1), (57, .iconst 0, 1), (58, .putfield 42, 3), (61, .aload_n 0, 1), (62, .iconst 0, 1), (63, .putfield 45, 3), (66, .return_, 1)]
-- 54: TagCoder$Recoder.recode(LTagCoder$Octets;LTagCoder$Type;)V
def xm_i54 : List (Nat × ClassFile.Instr × Nat) := [(0, .aload_n 0, 1), (1, .getfield 18, 3), (4, .aload_n 1, 1), (5, .invokevirtual 48, 3), (8, .aload_n 0, 1), (9, .iconst 0, 1), (10, .putfield 21, 3), (13, .aload_n 0, 1), (14, .getfield 12, 3), (17, .iconst 0, 1), (18, .putfield 52, 3), (21, .aload_n 0, 1), (22, .aload_n 2, 1), (23, .aload_n 0, 1), (24, .getfield 18, 3), (27, .getfield 52, 3), (30, .iconst 1, 1), (31, .invokevirtual 55, 3), (34, .aload_n 0, 1), (35, .getfield 21, 3), (38, .aload_n 0, 1), (39, .getfield 18, 3), (42, .getfield 52, 3), (45, .if_icmp .eq (11), 3), (48, .new 59, 3), (51, .dup, 1), (52, .invokespecial 61, 3), (55, .athrow, 1), (56, .return_, 1)]
-- 55: TagCoder$Recoder.value(LTagCoder$Type;II)V
def xm_i55 : List (Nat × ClassFile.Instr × Nat) := [(0, .aload_n 1, 1), (1, .ifnull (9), 3), (4, .iload_n 3, 1), (5, .bipush (16), 2), (7, .if_icmp .le (11), 3), (10, .new 59, 3), (13, .dup, 1), (14, .invokespecial 61, 3), (17, .athrow, 1), (18, .aload_n 0, 1), (19, .iload_n 2, 1), (20, .invokevirtual 62, 3), (23, .aload_n 0, 1), (24, .iload_n 2, 1), (25, .invokevirtual 66, 3), (28, .aload_n 0, 1), (29, .getfield 25, 3), (32, .istore 4, 2), (34, .aload_n 1, 1), (35, .iload 4, 2), (37, .invokevirtual 69, 3), (40, .astore 5, 2), (42, .aload 5, 2), (44, .ifnull (15), 3), (47, .aload 5, 2), (49, .aload_n 0, 1), (50, .getfield 28, 3), (53, .invokevirtual 75, 3), (56, .ifCond .ne (11), 3), (59, .new 59, 3), (62, .dup, 1), (63, .invokespecial 61, 3), (66, .athrow, 1), (67, .aload_n 0, 1), (68, .getfield 12, 3), (71, .getfield 52, 3), (74, .istore 6, 2), (76, .aload 5, 2), (78, .getfield 79, 3), (81, .lookupswitch (132) #[(3, 116), (4, 123), (12, 123), (16, 83), (17, 83), (22, 123), (116, 96), (117, 96), (118, 106)], 83), (164, .aload_n 0, 1), (165, .aload 5, 2), (167, .getfield 82, 3), (170, .iload_n 3, 1), (171, .invokevirtual 86, 3), (174, .goto (45), 3), (177, .aload_n 0, 1), (178, .aload 5, 2), (180, .iload_n 3, 1), (181, .invokevirtual 90, 3), (184, .goto (35), 3), (187, .aload_n 0, 1), (188, .aload 5, 2), (190, .iload_n 3, 1), (191, .invokevirtual 94, 3), (194, .goto (25), 3), (197, .aload_n 0, 1), (198, .invokevirtual 97, 3), (201, .goto (18), 3), (204, .aload_n 0, 1), (205, .aload 5, 2), (207, .invokevirtual 100, 3), (210, .goto (9), 3), (213, .aload_n 0, 1), (214, .aload 5, 2), (216, .invokevirtual 104, 3), (219, .aload_n 0, 1), (220, .getfield 12, 3), (223, .iload 6, 2), (225, .iload 4, 2), (227, .aload 5, 2), (229, .invokevirtual 107, 3), (232, .invokevirtual 111, 3), (235, .return_, 1)]
-- 56: TagCoder$Recoder.next(I)I
def xm_i56 : List (Nat × ClassFile.Instr × Nat) := [(0, .aload_n 0, 1), (1, .getfield 21, 3), (4, .iload_n 1, 1), (5, .if_icmp .ge (17), 3), (8, .aload_n 0, 1), (9, .getfield 21, 3), (12, .aload_n 0, 1), (13, .getfield 18, 3), (16, .getfield 52, 3), (19, .if_icmp .lt (11), 3), (22, .new 59, 3), (25, .dup, 1), (26, .invokespecial 61, 3), (29, .athrow, 1), (30, .aload_n 0, 1), (31, .dup, 1), (32, .getfield 21, 3), (35, .iconst 1, 1), (36, .iadd, 1), (37, .putfield 21, 3), (40, .aload_n 0, 1), (41, .getfield 18, 3), (44, .getfield 115, 3), (47, .aload_n 0, 1), (48, .getfield 21, 3), (51, .iconst 1, 1), (52, .isub, 1), (53, .iaload, 1), (54, .ireturn, 1)]
-- 57: TagCoder$Recoder.readIdentifier(I)V
def xm_i57 : List (Nat × ClassFile.Instr × Nat) := [(0, .aload_n 0, 1), (1, .iload_n 1, 1), (2, .invokevirtual 119, 3), (5, .istore_n 2, 1), (6, .aload_n 0, 1), (7, .iload_n 2, 1), (8, .bipush (32), 2), (10, .iand, 1), (11, .ifCond .eq (7), 3), (14, .iconst 1, 1), (15, .goto (4), 3), (18, .iconst 0, 1), (19, .putfield 28, 3), (22, .iload_n 2, 1), (23, .bipush (31), 2), (25, .iand, 1), (26, .istore_n 3, 1), (27, .iload_n 3, 1), (28, .bipush (31), 2), (30, .if_icmp .ne (9), 3), (33, .aload_n 0, 1), (34, .iload_n 1, 1), (35, .invokevirtual 123, 3), (38, .istore_n 3, 1), (39, .aload_n 0, 1), (40, .iload_n 2, 1), (41, .bipush (6), 2), (43, .ishr, 1), (44, .bipush (21), 2), (46, .ishl, 1), (47, .iload_n 3, 1), (48, .iadd, 1), (49, .putfield 25, 3), (52, .return_, 1)]
-- 58: TagCoder$Recoder.readLongNumber(I)I
def xm_i58 : List (Nat × ClassFile.Instr × Nat) := [(0, .iconst 0, 1), (1, .istore_n 2, 1), (2, .sipush (128), 3), (5, .istore_n 3, 1), (6, .iconst 0, 1), (7, .istore 4, 2), (9, .iload 4, 2), (11, .iconst 3, 1), (12, .if_icmp .ge (52), 3), (15, .iload_n 3, 1), (16, .sipush (128), 3), (19, .if_icmp .lt (45), 3), (22, .aload_n 0, 1), (23, .iload_n 1, 1), (24, .invokevirtual 119, 3), (27, .istore_n 3, 1), (28, .iload 4, 2), (30, .ifCond .ne (18), 3), (33, .iload_n 3, 1), (34, .sipush (128), 3), (37, .if_icmp .ne (11), 3), (40, .new 59, 3), (43, .dup, 1), (44, .invokespecial 61, 3), (47, .athrow, 1), (48, .iload_n 2, 1), (49, .bipush (7), 2), (51, .ishl, 1), (52, .iload_n 3, 1), (53, .bipush (127), 2), (55, .iand, 1), (56, .ior, 1), (57, .istore_n 2, 1), (58, .iinc 4 (1), 3), (61, .goto (-52), 3), (64, .iload_n 3, 1), (65, .sipush (128), 3), (68, .if_icmp .ge (9), 3), (71, .iload_n 2, 1), (72, .bipush (31), 2), (74, .if_icmp .ge (11), 3), (77, .new 59, 3), (80, .dup, 1), (81, .invokespecial 61, 3), (84, .athrow, 1), (85, .iload_n 2, 1), (86, .ireturn, 1)]
-- 59: TagCoder$Recoder.peekTag(I)I
def xm_i59 : List (Nat × ClassFile.Instr × Nat) := [(0, .aload_n 0, 1), (1, .getfield 21, 3), (4, .istore_n 2, 1), (5, .aload_n 0, 1), (6, .iload_n 1, 1), (7, .invokevirtual 62, 3), (10, .aload_n 0, 1), (11, .iload_n 2, 1), (12, .putfield 21, 3), (15, .aload_n 0, 1), (16, .getfield 25, 3), (19, .ireturn, 1)]
-- 60: TagCoder$Recoder.readLength(I)V
def xm_i60 : List (Nat × ClassFile.Instr × Nat) := [(0, .aload_n 0, 1), (1, .iload_n 1, 1), (2, .invokevirtual 119, 3), (5, .istore_n 2, 1), (6, .aload_n 0, 1), (7, .iload_n 2, 1), (8, .sipush (128), 3), (11, .if_icmp .ne (7), 3), (14, .iconst 1, 1), (15, .goto (4), 3), (18, .iconst 0, 1), (19, .putfield 32, 3), (22, .iload_n 2, 1), (23, .sipush (132), 3), (26, .if_icmp .gt (17), 3), (29, .aload_n 0, 1), (30, .getfield 32, 3), (33, .ifCond .eq (18), 3), (36, .aload_n 0, 1), (37, .getfield 28, 3), (40, .ifCond .ne (11), 3), (43, .new 59, 3), (46, .dup, 1), (47, .invokespecial 61, 3), (50, .athrow, 1), (51, .aload_n 0, 1), (52, .getfield 32, 3), (55, .ifCond .eq (9), 3), (58, .aload_n 0, 1), (59, .iload_n 1, 1), (60, .putfield 35, 3), (63, .return_, 1), (64, .iload_n 2, 1), (65, .sipush (128), 3), (68, .if_icmp .ge (8), 3), (71, .iload_n 2, 1), (72, .i2l, 1), (73, .goto (4), 3), (76, .lconst 0, 1), (77, .lstore_n 3, 1), (78, .sipush (128), 3), (81, .istore 5, 2), (83, .iload 5, 2), (85, .iload_n 2, 1), (86, .if_icmp .ge (21), 3), (89, .lload_n 3, 1), (90, .bipush (8), 2), (92, .lshl, 1), (93, .aload_n 0, 1), (94, .iload_n 1, 1), (95, .invokevirtual 119, 3), (98, .i2l, 1), (99, .lor, 1), (100, .lstore_n 3, 1), (101, .iinc 5 (1), 3), (104, .goto (-21), 3), (107, .lload_n 3, 1), (108, .iload_n 1, 1), (109, .aload_n 0, 1), (110, .getfield 21, 3), (113, .isub, 1), (114, .i2l, 1), (115, .lcmp, 1), (116, .ifCond .le (11), 3), (119, .new 59, 3), (122, .dup, 1), (123, .invokespecial 61, 3), (126, .athrow, 1), (127, .aload_n 0, 1), (128, .aload_n 0, 1), (129, .getfield 21, 3), (132, .lload_n 3, 1), (133, .l2i, 1), (134, .iadd, 1), (135, .putfield 35, 3), (138, .return_, 1)]
-- 61: TagCoder$Recoder.goesOn(IZ)Z
def xm_i61 : List (Nat × ClassFile.Instr × Nat) := [(0, .iload_n 2, 1), (1, .ifCond .ne (17), 3), (4, .aload_n 0, 1), (5, .getfield 21, 3), (8, .iload_n 1, 1), (9, .if_icmp .ge (7), 3), (12, .iconst 1, 1), (13, .goto (4), 3), (16, .iconst 0, 1), (17, .ireturn, 1), (18, .aload_n 0, 1), (19, .getfield 21, 3), (22, .iconst 1, 1), (23, .iadd, 1), (24, .iload_n 1, 1), (25, .if_icmp .ge (47), 3), (28, .aload_n 0, 1), (29, .getfield 18, 3), (32, .getfield 115, 3), (35, .aload_n 0, 1), (36, .getfield 21, 3), (39, .iaload, 1), (40, .ifCond .ne (32), 3), (43, .aload_n 0, 1), (44, .getfield 18, 3), (47, .getfield 115, 3), (50, .aload_n 0, 1), (51, .getfield 21, 3), (54, .iconst 1, 1), (55, .iadd, 1), (56, .iaload, 1), (57, .ifCond .ne (15), 3), (60, .aload_n 0, 1), (61, .dup, 1), (62, .getfield 21, 3), (65, .iconst 2, 1), (66, .iadd, 1), (67, .putfield 21, 3), (70, .iconst 0, 1), (71, .ireturn, 1), (72, .iconst 1, 1), (73, .ireturn, 1)]
-- 62: TagCoder$Recoder.simple(LTagCoder$Type;)V
def xm_i62 : List (Nat × ClassFile.Instr × Nat) := [(0, .aload_n 1, 1), (1, .getfield 79, 3), (4, .tableswitch (58) 1 5 #[36, 43, 58, 58, 51], 36), (40, .aload_n 0, 1), (41, .invokevirtual 126, 3), (44, .goto (22), 3), (47, .aload_n 0, 1), (48, .aload_n 1, 1), (49, .invokevirtual 129, 3), (52, .goto (14), 3), (55, .aload_n 0, 1), (56, .invokevirtual 132, 3), (59, .goto (7), 3), (62, .aload_n 0, 1), (63, .invokevirtual 135, 3), (66, .return_, 1)]
-- 63: TagCoder$Recoder.truth()V
def xm_i63 : List (Nat × ClassFile.Instr × Nat) := [(0, .aload_n 0, 1), (1, .getfield 35, 3), (4, .aload_n 0, 1), (5, .getfield 21, 3), (8, .isub, 1), (9, .iconst 1, 1), (10, .if_icmp .eq (11), 3), (13, .new 59, 3), (16, .dup, 1), (17, .invokespecial 61, 3), (20, .athrow, 1), (21, .aload_n 0, 1), (22, .iconst 0, 1), (23, .putfield 42, 3), (26, .aload_n 0, 1), (27, .aload_n 0, 1), (28, .aload_n 0, 1), (29, .getfield 35, 3), (32, .invokevirtual 119, 3), (35, .ifCond .ne (7), 3), (38, .lconst 0, 1), (39, .goto (4), 3), (42, .lconst 1, 1), (43, .putfield 38, 3), (46, .aload_n 0, 1), (47, .getfield 12, 3), (50, .aload_n 0, 1), (51, .getfield 38, 3), (54, .lconst 0, 1), (55, .lcmp, 1), (56, .ifCond .ne (7), 3), (59, .iconst 0, 1), (60, .goto (6), 3), (63, .sipush (255), 3), (66, .invokevirtual 138, 3), (69, .return_, 1)]
-- 64: TagCoder$Recoder.integer(LTagCoder$Type;)V
def xm_i64 : List (Nat × ClassFile.Instr × Nat) := [(0, .aload_n 0, 1), (1, .getfield 35, 3), (4, .aload_n 0, 1), (5, .getfield 21, 3), (8, .isub, 1), (9, .istore_n 2, 1), (10, .aload_n 0, 1), (11, .aload_n 0, 1), (12, .getfield 35, 3), (15, .invokevirtual 119, 3), (18, .istore_n 3, 1), (19, .iload_n 2, 1), (20, .iconst 1, 1), (21, .if_icmp .le (44), 3), (24, .iload_n 3, 1), (25, .ifCond .eq (10), 3), (28, .iload_n 3, 1), (29, .sipush (255), 3), (32, .if_icmp .ne (33), 3), (35, .aload_n 0, 1), (36, .getfield 18, 3), (39, .getfield 115, 3), (42, .aload_n 0, 1), (43, .getfield 21, 3), (46, .iaload, 1), (47, .bipush (7), 2), (49, .ishr, 1), (50, .iload_n 3, 1), (51, .bipush (7), 2), (53, .ishr, 1), (54, .if_icmp .ne (11), 3), (57, .new 59, 3), (60, .dup, 1), (61, .invokespecial 61, 3), (64, .athrow, 1), (65, .aload_n 0, 1), (66, .iload_n 2, 1), (67, .bipush (8), 2), (69, .if_icmp .le (7), 3), (72, .iconst 1, 1), (73, .goto (4), 3), (76, .iconst 0, 1), (77, .putfield 42, 3), (80, .aload_n 0, 1), (81, .iload_n 3, 1), (82, .sipush (128), 3), (85, .if_icmp .ge (8), 3), (88, .iload_n 3, 1), (89, .i2l, 1), (90, .goto (9), 3), (93, .iload_n 3, 1), (94, .sipush (256), 3), (97, .isub, 1), (98, .i2l, 1), (99, .putfield 38, 3), (102, .aload_n 0, 1), (103, .getfield 12, 3), (106, .iload_n 3, 1), (107, .invokevirtual 138, 3), (110, .iconst 1, 1), (111, .istore 4, 2), (113, .iload 4, 2), (115, .iload_n 2, 1), (116, .if_icmp .ge (43), 3), (119, .aload_n 0, 1), (120, .aload_n 0, 1), (121, .getfield 35, 3), (124, .invokevirtual 119, 3), (127, .istore 5, 2), (129, .aload_n 0, 1), (130, .aload_n 0, 1), (131, .getfield 38, 3), (134, .bipush (8), 2), (136, .lshl, 1), (137, .iload 5, 2), (139, .i2l, 1), (140, .lor, 1), (141, .putfield 38, 3), (144, .aload_n 0, 1), (145, .getfield 12, 3), (148, .iload 5, 2), (150, .invokevirtual 138, 3), (153, .iinc 4 (1), 3), (156, .goto (-43), 3), (159, .aload_n 1, 1), (160, .getfield 141, 3), (163, .ifCond .eq (10), 3), (166, .aload_n 0, 1), (167, .getfield 42, 3), (170, .ifCond .ne (14), 3), (173, .aload_n 1, 1), (174, .aload_n 0, 1), (175, .getfield 38, 3), (178, .invokevirtual 144, 3), (181, .ifCond .ne (11), 3), (184, .new 59, 3), (187, .dup, 1), (188, .invokespecial 61, 3), (191, .athrow, 1), (192, .return_, 1)]
-- 65: TagCoder$Recoder.nothing()V
def xm_i65 : List (Nat × ClassFile.Instr × Nat) := [(0, .aload_n 0, 1), (1, .getfield 21, 3), (4, .aload_n 0, 1), (5, .getfield 35, 3), (8, .if_icmp .eq (11), 3), (11, .new 59, 3), (14, .dup, 1), (15, .invokespecial 61, 3), (18, .athrow, 1), (19, .return_, 1)]
-- 66: TagCoder$Recoder.objectIdentifier()V
def xm_i66 : List (Nat × ClassFile.Instr × Nat) := [(0, .aload_n 0, 1), (1, .getfield 35, 3), (4, .aload_n 0, 1), (5, .getfield 21, 3), (8, .isub, 1), (9, .istore_n 1, 1), (10, .iconst 1, 1), (11, .istore_n 2, 1), (12, .iconst 0, 1), (13, .istore_n 3, 1), (14, .iload_n 3, 1), (15, .iload_n 1, 1), (16, .if_icmp .ge (62), 3), (19, .aload_n 0, 1), (20, .aload_n 0, 1), (21, .getfield 35, 3), (24, .invokevirtual 119, 3), (27, .istore 4, 2), (29, .iload_n 2, 1), (30, .ifCond .eq (19), 3), (33, .iload 4, 2), (35, .sipush (128), 3), (38, .if_icmp .ne (11), 3), (41, .new 59, 3), (44, .dup, 1), (45, .invokespecial 61, 3), (48, .athrow, 1), (49, .iload 4, 2), (51, .sipush (128), 3), (54, .if_icmp .ge (7), 3), (57, .iconst 1, 1), (58, .goto (4), 3), (61, .iconst 0, 1), (62, .istore_n 2, 1), (63, .aload_n 0, 1), (64, .getfield 12, 3), (67, .iload 4, 2), (69, .invokevirtual 138, 3), (72, .iinc 3 (1), 3), (75, .goto (-61), 3), (78, .iload_n 1, 1), (79, .ifCond .eq (7), 3), (82, .iload_n 2, 1), (83, .ifCond .ne (11), 3), (86, .new 59, 3), (89, .dup, 1), (90, .invokespecial 61, 3), (93, .athrow, 1), (94, .return_, 1)]
-- 67: TagCoder$Recoder.bitString()V
def xm_i67 : List (Nat × ClassFile.Instr × Nat) := [(0, .aload_n 0, 1), (1, .getfield 12, 3), (4, .getfield 52, 3), (7, .istore_n 1, 1), (8, .aload_n 0, 1), (9, .iconst 0, 1), (10, .putfield 45, 3), (13, .aload_n 0, 1), (14, .getfield 12, 3), (17, .iconst 0, 1), (18, .invokevirtual 138, 3), (21, .aload_n 0, 1), (22, .iconst 3, 1), (23, .iconst 1, 1), (24, .invokevirtual 148, 3), (27, .aload_n 0, 1), (28, .getfield 12, 3), (31, .getfield 52, 3), (34, .iconst 1, 1), (35, .isub, 1), (36, .istore_n 2, 1), (37, .iload_n 2, 1), (38, .iload_n 1, 1), (39, .if_icmp .le (44), 3), (42, .aload_n 0, 1), (43, .getfield 12, 3), (46, .getfield 115, 3), (49, .iload_n 1, 1), (50, .aload_n 0, 1), (51, .getfield 45, 3), (54, .iastore, 1), (55, .aload_n 0, 1), (56, .getfield 12, 3), (59, .getfield 115, 3), (62, .iload_n 2, 1), (63, .aload_n 0, 1), (64, .getfield 12, 3), (67, .getfield 115, 3), (70, .iload_n 2, 1), (71, .iaload, 1), (72, .aload_n 0, 1), (73, .getfield 45, 3), (76, .ishr, 1), (77, .aload_n 0, 1), (78, .getfield 45, 3), (81, .ishl, 1), (82, .iastore, 1), (83, .return_, 1)]
-- 68: TagCoder$Recoder.octetsOf(LTagCoder$Type;)V
def xm_i68 : List (Nat × ClassFile.Instr × Nat) := [(0, .aload_n 0, 1), (1, .getfield 12, 3), (4, .getfield 52, 3), (7, .istore_n 2, 1), (8, .aload_n 0, 1), (9, .iconst 4, 1), (10, .iconst 1, 1), (11, .invokevirtual 148, 3), (14, .aload_n 0, 1), (15, .getfield 12, 3), (18, .getfield 52, 3), (21, .iload_n 2, 1), (22, .isub, 1), (23, .istore_n 3, 1), (24, .aload_n 1, 1), (25, .getfield 79, 3), (28, .bipush (12), 2), (30, .if_icmp .ne (12), 3), (33, .aload_n 0, 1), (34, .iload_n 2, 1), (35, .invokevirtual 152, 3), (38, .istore_n 3, 1), (39, .goto (17), 3), (42, .aload_n 1, 1), (43, .getfield 79, 3), (46, .bipush (22), 2), (48, .if_icmp .ne (8), 3), (51, .aload_n 0, 1), (52, .iload_n 2, 1), (53, .invokevirtual 155, 3), (56, .aload_n 1, 1), (57, .iload_n 3, 1), (58, .i2l, 1), (59, .invokevirtual 144, 3), (62, .ifCond .ne (11), 3), (65, .new 59, 3), (68, .dup, 1), (69, .invokespecial 61, 3), (72, .athrow, 1), (73, .return_, 1)]
-- 69: TagCoder$Recoder.string(II)V
def xm_i69 : List (Nat × ClassFile.Instr × Nat) := [(0, .aload_n 0, 1), (1, .getfield 28, 3), (4, .ifCond .ne (9), 3), (7, .aload_n 0, 1), (8, .iload_n 1, 1), (9, .invokevirtual 158, 3), (12, .return_, 1), (13, .iload_n 2, 1), (14, .iconst 4, 1), (15, .if_icmp .le (11), 3), (18, .new 59, 3), (21, .dup, 1), (22, .invokespecial 61, 3), (25, .athrow, 1), (26, .aload_n 0, 1), (27, .getfield 35, 3), (30, .istore_n 3, 1), (31, .aload_n 0, 1), (32, .getfield 32, 3), (35, .istore 4, 2), (37, .iconst 0, 1), (38, .istore 5, 2), (40, .iconst 0, 1), (41, .istore 6, 2), (43, .iload 6, 2), (45, .sipush (200), 3), (48, .if_icmp .ge (56), 3), (51, .aload_n 0, 1), (52, .iload_n 3, 1), (53, .iload 4, 2), (55, .invokevirtual 161, 3), (58, .ifCond .eq (46), 3), (61, .aload_n 0, 1), (62, .iload_n 3, 1), (63, .invokevirtual 62, 3), (66, .aload_n 0, 1), (67, .iload_n 3, 1), (68, .invokevirtual 66, 3), (71, .aload_n 0, 1), (72, .getfield 25, 3), (75, .iload_n 1, 1), (76, .if_icmp .eq (11), 3), (79, .new 59, 3), (82, .dup, 1), (83, .invokespecial 61, 3), (86, .athrow, 1), (87, .aload_n 0, 1), (88, .iload_n 1, 1), (89, .iload_n 2, 1), (90, .iconst 1, 1), (91, .iadd, 1), (92, .invokevirtual 148, 3), (95, .iinc 5 (1), 3), (98, .iinc 6 (1), 3), (101, .goto (-58), 3), (104, .iload_n 1, 1), (105, .iconst 3, 1), (106, .if_icmp .ne (16), 3), (109, .iload 5, 2), (111, .ifCond .ne (11), 3), (114, .new 59, 3), (117, .dup, 1), (118, .invokespecial 61, 3), (121, .athrow, 1), (122, .return_, 1)]
-- 70: TagCoder$Recoder.piece(I)V
def xm_i70 : List (Nat × ClassFile.Instr × Nat) := [(0, .iload_n 1, 1), (1, .iconst 3, 1), (2, .if_icmp .ne (7), 3), (5, .aload_n 0, 1), (6, .invokevirtual 165, 3), (9, .aload_n 0, 1), (10, .getfield 35, 3), (13, .aload_n 0, 1), (14, .getfield 21, 3), (17, .isub, 1), (18, .istore_n 2, 1), (19, .iconst 0, 1), (20, .istore_n 3, 1), (21, .iload_n 3, 1), (22, .iload_n 2, 1), (23, .if_icmp .ge (24), 3), (26, .aload_n 0, 1), (27, .getfield 12, 3), (30, .aload_n 0, 1), (31, .aload_n 0, 1), (32, .getfield 35, 3), (35, .invokevirtual 119, 3), (38, .invokevirtual 138, 3), (41, .iinc 3 (1), 3), (44, .goto (-23), 3), (47, .return_, 1)]
-- 71: TagCoder$Recoder.readUnused()V
def xm_i71 : List (Nat × ClassFile.Instr × Nat) := [(0, .aload_n 0, 1), (1, .getfield 45, 3), (4, .ifCond .eq (11), 3), (7, .new 59, 3), (10, .dup, 1), (11, .invokespecial 61, 3), (14, .athrow, 1), (15, .aload_n 0, 1), (16, .aload_n 0, 1), (17, .aload_n 0, 1), (18, .getfield 35, 3), (21, .invokevirtual 119, 3), (24, .putfield 45, 3), (27, .aload_n 0, 1), (28, .getfield 45, 3), (31, .bipush (7), 2), (33, .if_icmp .gt (21), 3), (36, .aload_n 0, 1), (37, .getfield 45, 3), (40, .ifCond .eq (22), 3), (43, .aload_n 0, 1), (44, .getfield 21, 3), (47, .aload_n 0, 1), (48, .getfield 35, 3), (51, .if_icmp .ne (11), 3), (54, .new 59, 3), (57, .dup, 1), (58, .invokespecial 61, 3), (61, .athrow, 1), (62, .return_, 1)]
-- 72: TagCoder$Recoder.refuseHighOctets(I)V
def xm_i72 : List (Nat × ClassFile.Instr × Nat) := [(0, .iload_n 1, 1), (1, .istore_n 2, 1), (2, .iload_n 2, 1), (3, .aload_n 0, 1), (4, .getfield 12, 3), (7, .getfield 52, 3), (10, .if_icmp .ge (32), 3), (13, .aload_n 0, 1), (14, .getfield 12, 3), (17, .getfield 115, 3), (20, .iload_n 2, 1), (21, .iaload, 1), (22, .sipush (128), 3), (25, .if_icmp .lt (11), 3), (28, .new 59, 3), (31, .dup, 1), (32, .invokespecial 61, 3), (35, .athrow, 1), (36, .iinc 2 (1), 3), (39, .goto (-37), 3), (42, .return_, 1)]
-- 73: TagCoder$Recoder.countCharacters(I)I
def xm_i73 : List (Nat × ClassFile.Instr × Nat) := [(0, .iconst 0, 1), (1, .istore_n 2, 1), (2, .iconst 0, 1), (3, .istore_n 3, 1), (4, .iconst 0, 1), (5, .istore 4, 2), (7, .iconst 0, 1), (8, .istore 5, 2), (10, .iload_n 1, 1), (11, .istore 6, 2), (13, .iload 6, 2), (15, .aload_n 0, 1), (16, .getfield 12, 3), (19, .getfield 52, 3), (22, .if_icmp .ge (117), 3), (25, .aload_n 0, 1), (26, .getfield 12, 3), (29, .getfield 115, 3), (32, .iload 6, 2), (34, .iaload, 1), (35, .istore 7, 2), (37, .iload_n 3, 1), (38, .ifCond .le (36), 3), (41, .iload 7, 2), (43, .bipush (6), 2), (45, .ishr, 1), (46, .iconst 2, 1), (47, .if_icmp .ne (9), 3), (50, .iload_n 3, 1), (51, .iconst 1, 1), (52, .isub, 1), (53, .goto (4), 3), (56, .iconst (-1), 1), (57, .istore_n 3, 1), (58, .iload 4, 2), (60, .bipush (6), 2), (62, .ishl, 1), (63, .iload 7, 2), (65, .bipush (63), 2), (67, .iand, 1), (68, .ior, 1), (69, .istore 4, 2), (71, .goto (36), 3), (74, .iload 7, 2), (76, .invokestatic 168, 3), (79, .istore_n 3, 1), (80, .iload_n 3, 1), (81, .ifCond .gt (8), 3), (84, .iload 7, 2), (86, .goto (10), 3), (89, .iload 7, 2), (91, .bipush (63), 2), (93, .iload_n 3, 1), (94, .ishr, 1), (95, .iand, 1), (96, .istore 4, 2), (98, .iload_n 3, 1), (99, .invokestatic 171, 3), (102, .istore 5, 2), (104, .iinc 2 (1), 3), (107, .iload_n 3, 1), (108, .ifCond .lt (17), 3), (111, .iload_n 3, 1), (112, .ifCond .ne (21), 3), (115, .iload 4, 2), (117, .iload 5, 2), (119, .invokestatic 174, 3), (122, .ifCond .ne (11), 3), (125, .new 59, 3), (128, .dup, 1), (129, .invokespecial 61, 3), (132, .athrow, 1), (133, .iinc 6 (1), 3), (136, .goto (-123), 3), (139, .iload_n 3, 1), (140, .ifCond .eq (11), 3), (143, .new 59, 3), (146, .dup, 1), (147, .invokespecial 61, 3), (150, .athrow, 1), (151, .iload_n 2, 1), (152, .ireturn, 1)]
-- 74: TagCoder$Recoder.followers(I)I
def xm_i74 : List (Nat × ClassFile.Instr × Nat) := [(0, .iload_n 0, 1), (1, .sipush (128), 3), (4, .if_icmp .ge (5), 3), (7, .iconst 0, 1), (8, .ireturn, 1), (9, .iload_n 0, 1), (10, .sipush (192), 3), (13, .if_icmp .lt (10), 3), (16, .iload_n 0, 1), (17, .sipush (248), 3), (20, .if_icmp .lt (5), 3), (23, .iconst (-1), 1), (24, .ireturn, 1), (25, .iload_n 0, 1), (26, .sipush (224), 3), (29, .if_icmp .ge (5), 3), (32, .iconst 1, 1), (33, .ireturn, 1), (34, .iload_n 0, 1), (35, .sipush (240), 3), (38, .if_icmp .ge (7), 3), (41, .iconst 2, 1), (42, .goto (4), 3), (45, .iconst 3, 1), (46, .ireturn, 1)]
-- 75: TagCoder$Recoder.leastCode(I)I
def xm_i75 : List (Nat × ClassFile.Instr × Nat) := [(0, .iload_n 0, 1), (1, .ifCond .gt (5), 3), (4, .iconst 0, 1), (5, .ireturn, 1), (6, .iload_n 0, 1), (7, .iconst 1, 1), (8, .if_icmp .ne (7), 3), (11, .sipush (128), 3), (14, .ireturn, 1), (15, .iload_n 0, 1), (16, .iconst 2, 1), (17, .if_icmp .ne (9), 3), (20, .sipush (2048), 3), (23, .goto (5), 3), (26, .ldc 178, 2), (28, .ireturn, 1)]
-- 76: TagCoder$Recoder.isCharacter(II)Z
def xm_i76 : List (Nat × ClassFile.Instr × Nat) := [(0, .iload_n 0, 1), (1, .iload_n 1, 1), (2, .if_icmp .lt (25), 3), (5, .iload_n 0, 1), (6, .ldc 179, 2), (8, .if_icmp .gt (19), 3), (11, .iload_n 0, 1), (12, .ldc 180, 2), (14, .if_icmp .lt (9), 3), (17, .iload_n 0, 1), (18, .ldc 181, 2), (20, .if_icmp .le (7), 3), (23, .iconst 1, 1), (24, .goto (4), 3), (27, .iconst 0, 1), (28, .ireturn, 1)]
-- 77: TagCoder$Recoder.innerOf(LTagCoder$Type;I)V
def xm_i77 : List (Nat × ClassFile.Instr × Nat) := [(0, .aload_n 0, 1), (1, .getfield 35, 3), (4, .istore_n 3, 1), (5, .aload_n 0, 1), (6, .getfield 32, 3), (9, .istore 4, 2), (11, .aload_n 0, 1), (12, .aload_n 1, 1), (13, .getfield 182, 3), (16, .iload_n 3, 1), (17, .iload_n 2, 1), (18, .iconst 1, 1), (19, .iadd, 1), (20, .invokevirtual 55, 3), (23, .aload_n 0, 1), (24, .iload_n 3, 1), (25, .iload 4, 2), (27, .invokevirtual 161, 3), (30, .ifCond .eq (11), 3), (33, .new 59, 3), (36, .dup, 1), (37, .invokespecial 61, 3), (40, .athrow, 1), (41, .return_, 1)]
-- 78: TagCoder$Recoder.valuesOf(LTagCoder$Type;I)V
def xm_i78 : List (Nat × ClassFile.Instr × Nat) := [(0, .aload_n 0, 1), (1, .getfield 35, 3), (4, .istore_n 3, 1), (5, .aload_n 0, 1), (6, .getfield 32, 3), (9, .istore 4, 2), (11, .aload_n 0, 1), (12, .getfield 12, 3), (15, .getfield 52, 3), (18, .istore 5, 2), (20, .iconst 0, 1), (21, .istore 6, 2), (23, .iload 6, 2), (25, .sipush (200), 3), (28, .if_icmp .ge (58), 3), (31, .aload_n 0, 1), (32, .iload_n 3, 1), (33, .iload 4, 2), (35, .invokevirtual 161, 3), (38, .ifCond .eq (48), 3), (41, .aload_n 0, 1), (42, .getfield 12, 3), (45, .getfield 52, 3), (48, .istore 7, 2), (50, .aload_n 0, 1), (51, .aload_n 1, 1), (52, .getfield 182, 3), (55, .iload_n 3, 1), (56, .iload_n 2, 1), (57, .iconst 1, 1), (58, .iadd, 1), (59, .invokevirtual 55, 3), (62, .aload_n 1, 1), (63, .getfield 79, 3), (66, .bipush (117), 2), (68, .if_icmp .ne (12), 3), (71, .aload_n 0, 1), (72, .iload 5, 2), (74, .iload 7, 2), (76, .iconst 0, 1), (77, .invokevirtual 186, 3), (80, .iinc 6 (1), 3), (83, .goto (-60), 3), (86, .return_, 1)]
-- 79: TagCoder$Recoder.membersOf(LTagCoder$Members;I)V
def xm_i79 : List (Nat × ClassFile.Instr × Nat) := [(0, .aload_n 0, 1), (1, .getfield 35, 3), (4, .istore_n 3, 1), (5, .aload_n 0, 1), (6, .getfield 32, 3), (9, .istore 4, 2), (11, .aload_n 0, 1), (12, .getfield 12, 3), (15, .getfield 52, 3), (18, .istore 5, 2), (20, .iconst 0, 1), (21, .istore 6, 2), (23, .iconst 0, 1), (24, .istore 7, 2), (26, .iconst 0, 1), (27, .istore 8, 2), (29, .iload 8, 2), (31, .sipush (200), 3), (34, .if_icmp .ge (157), 3), (37, .aload_n 0, 1), (38, .iload_n 3, 1), (39, .iload 4, 2), (41, .invokevirtual 161, 3), (44, .ifCond .eq (147), 3), (47, .aload_n 1, 1), (48, .aload_n 0, 1), (49, .iload_n 3, 1), (50, .invokevirtual 189, 3), (53, .iload 7, 2), (55, .invokevirtual 192, 3), (58, .istore 9, 2), (60, .iload 9, 2), (62, .ifCond .lt (13), 3), (65, .iload 6, 2), (67, .iload 9, 2), (69, .ishr, 1), (70, .iconst 1, 1), (71, .iand, 1), (72, .ifCond .eq (11), 3), (75, .new 59, 3), (78, .dup, 1), (79, .invokespecial 61, 3), (82, .athrow, 1), (83, .iload 6, 2), (85, .iconst 1, 1), (86, .iload 9, 2), (88, .ishl, 1), (89, .ior, 1), (90, .istore 6, 2), (92, .aload_n 0, 1), (93, .getfield 12, 3), (96, .getfield 52, 3), (99, .istore 10, 2), (101, .aload_n 0, 1), (102, .aload_n 1, 1), (103, .getfield 198, 3), (106, .iload 9, 2), (108, .aaload, 1), (109, .iload_n 3, 1), (110, .iload_n 2, 1), (111, .iconst 1, 1), (112, .iadd, 1), (113, .invokevirtual 55, 3), (116, .aload_n 1, 1), (117, .getfield 202, 3), (120, .iload 9, 2), (122, .iaload, 1), (123, .iconst 2, 1), (124, .if_icmp .ne (34), 3), (127, .aload_n 0, 1), (128, .getfield 42, 3), (131, .ifCond .ne (27), 3), (134, .aload_n 0, 1), (135, .getfield 38, 3), (138, .aload_n 1, 1), (139, .getfield 205, 3), (142, .iload 9, 2), (144, .laload, 1), (145, .lcmp, 1), (146, .ifCond .ne (12), 3), (149, .aload_n 0, 1), (150, .getfield 12, 3), (153, .iload 10, 2), (155, .putfield 52, 3), (158, .aload_n 1, 1), (159, .getfield 209, 3), (162, .bipush (17), 2), (164, .if_icmp .ne (15), 3), (167, .aload_n 0, 1), (168, .iload 5, 2), (170, .iload 10, 2), (172, .iconst 1, 1), (173, .invokevirtual 186, 3), (176, .goto (9), 3), (179, .iload 9, 2), (181, .iconst 1, 1), (182, .iadd, 1), (183, .istore 7, 2), (185, .iinc 8 (1), 3), (188, .goto (-159), 3), (191, .aload_n 1, 1), (192, .iload 6, 2), (194, .invokevirtual 212, 3), (197, .ifCond .eq (11), 3), (200, .new 59, 3), (203, .dup, 1), (204, .invokespecial 61, 3), (207, .athrow, 1), (208, .return_, 1)]
-- 80: TagCoder$Recoder.settle(IIZ)V
def xm_i80 : List (Nat × ClassFile.Instr × Nat) := [(0, .iload_n 2, 1), (1, .aload_n 0, 1), (2, .getfield 12, 3), (5, .getfield 52, 3), (8, .if_icmp .lt (4), 3), (11, .return_, 1), (12, .iload_n 1, 1), (13, .istore 4, 2), (15, .iconst 0, 1), (16, .istore 5, 2), (18, .iload 5, 2), (20, .sipush (200), 3), (23, .if_icmp .ge (72), 3), (26, .iload 4, 2), (28, .iload_n 2, 1), (29, .if_icmp .ge (66), 3), (32, .aload_n 0, 1), (33, .getfield 12, 3), (36, .iload 4, 2), (38, .invokevirtual 216, 3), (41, .istore 6, 2), (43, .iload_n 3, 1), (44, .ifCond .eq (26), 3), (47, .aload_n 0, 1), (48, .getfield 12, 3), (51, .iload_n 2, 1), (52, .invokevirtual 219, 3), (55, .aload_n 0, 1), (56, .getfield 12, 3), (59, .iload 4, 2), (61, .invokevirtual 219, 3), (64, .if_icmp .ge (21), 3), (67, .goto (28), 3), (70, .aload_n 0, 1), (71, .iload_n 2, 1), (72, .iload 4, 2), (74, .iload 6, 2), (76, .invokevirtual 222, 3), (79, .ifCond .eq (6), 3), (82, .goto (13), 3), (85, .iload 6, 2), (87, .istore 4, 2), (89, .iinc 5 (1), 3), (92, .goto (-74), 3), (95, .iload 4, 2), (97, .iload_n 2, 1), (98, .if_icmp .ge (13), 3), (101, .aload_n 0, 1), (102, .getfield 12, 3), (105, .iload 4, 2), (107, .iload_n 2, 1), (108, .invokevirtual 226, 3), (111, .return_, 1)]
-- 81: TagCoder$Recoder.isBelow(III)Z
def xm_i81 : List (Nat × ClassFile.Instr × Nat) := [(0, .aload_n 0, 1), (1, .getfield 12, 3), (4, .getfield 52, 3), (7, .iload_n 1, 1), (8, .isub, 1), (9, .istore 4, 2), (11, .iload_n 3, 1), (12, .iload_n 2, 1), (13, .isub, 1), (14, .istore 5, 2), (16, .iload 4, 2), (18, .iload 5, 2), (20, .invokestatic 229, 3), (23, .istore 6, 2), (25, .iconst 0, 1), (26, .istore 7, 2), (28, .iload 7, 2), (30, .iload 6, 2), (32, .if_icmp .ge (79), 3), (35, .iload 7, 2), (37, .iload 4, 2), (39, .if_icmp .ge (18), 3), (42, .aload_n 0, 1), (43, .getfield 12, 3), (46, .getfield 115, 3), (49, .iload_n 1, 1), (50, .iload 7, 2), (52, .iadd, 1), (53, .iaload, 1), (54, .goto (4), 3), (57, .iconst 0, 1), (58, .istore 8, 2), (60, .iload 7, 2), (62, .iload 5, 2), (64, .if_icmp .ge (18), 3), (67, .aload_n 0, 1), (68, .getfield 12, 3), (71, .getfield 115, 3), (74, .iload_n 2, 1), (75, .iload 7, 2), (77, .iadd, 1), (78, .iaload, 1), (79, .goto (4), 3), (82, .iconst 0, 1), (83, .istore 9, 2), (85, .iload 8, 2), (87, .iload 9, 2), (89, .if_icmp .eq (16), 3), (92, .iload 8, 2), (94, .iload 9, 2), (96, .if_icmp .ge (7), 3), (99, .iconst 1, 1), (100, .goto (4), 3), (103, .iconst 0, 1), (104, .ireturn, 1), (105, .iinc 7 (1), 3), (108, .goto (-80), 3), (111, .iconst 0, 1), (112, .ireturn, 1)]
-- 82: TagCoderModel.<init>()V
def xm_i82 : List (Nat × ClassFile.Instr × Nat) := [(0, .aload_n 0, 1), (1, .invokespecial 1, 3), (4, .aload_n 0, 1), (5, .bipush (16), 2), (7, .newarray .int, 2), (9, .putfield 7, 3), (12, .aload_n 0, 1), (13, .bipush (16), 2), (15, .newarray .int, 2), (17, .putfield 13, 3), (20, .aload_n 0, 1), (21, .bipush (16), 2), (23, .newarray .int, 2), (25, .putfield 16, 3), (28, .aload_n 0, 1), (29, .bipush (16), 2), (31, .newarray .int, 2), (33, .putfield 19, 3), (36, .aload_n 0, 1), (37, .bipush (16), 2), (39, .newarray .boolean, 2), (41, .putfield 22, 3), (44, .aload_n 0, 1), (45, .bipush (16), 2), (47, .newarray .long, 2), (49, .putfield 26, 3), (52, .aload_n 0, 1), (53, .bipush (16), 2), (55, .newarray .long, 2), (57, .putfield 30, 3), (60, .aload_n 0, 1), (61, .bipush (17), 2), (63, .newarray .int, 2), (65, .putfield 33, 3), (68, .aload_n 0, 1), (69, .sipush (1632), 3), (72, .newarray .int, 2), (74, .putfield 36, 3), (77, .aload_n 0, 1), (78, .bipush (17), 2), (80, .newarray .int, 2), (82, .putfield 39, 3), (85, .aload_n 0, 1), (86, .bipush (102), 2), (88, .newarray .int, 2), (90, .putfield 42, 3), (93, .aload_n 0, 1), (94, .bipush (102), 2), (96, .newarray .int, 2), (98, .putfield 45, 3), (101, .aload_n 0, 1), (102, .bipush (102), 2), (104, .newarray .long, 2), (106, .putfield 48, 3), (109, .aload_n 0, 1), (110, .sipush (200), 3), (113, .newarray .int, 2), (115, .putfield 51, 3), (118, .aload_n 0, 1), (119, .sipush (300), 3), (122, .newarray .int, 2), (124, .putfield 54, 3), (127, .aload_n 0, 1), (128, .sipush (200), 3), (131, .newarray .int, 2), (133, .putfield 57, 3), (136, .aload_n 0, 1), (137, .bipush (20), 2), (139, .newarray .int, 2), (141, .putfield 60, 3), (144, .aload_n 0, 1), (145, .bipush (20), 2), (147, .newarray .int, 2), (149, .putfield 63, 3), (152, .aload_n 0, 1), (153, .bipush (20), 2), (155, .newarray .int, 2), (157, .putfield 66, 3), (160, .aload_n 0, 1), (161, .bipush (20), 2), (163, .newarray .int, 2), (165, .putfield 69, 3), (168, .aload_n 0, 1), (169, .bipush (20), 2), (171, .newarray .int, 2), (173, .putfield 72, 3), (176, .aload_n 0, 1), (177, .bipush (20), 2), (179, .newarray .int, 2), (181, .putfield 75, 3), (184, .aload_n 0, 1), (185, .bipush (20), 2), (187, .newarray .int, 2), (189, .putfield 78, 3), (192, .aload_n 0, 1), (193, .bipush (20), 2), (195, .newarray .int, 2), (197, .putfield 81, 3), (200, .aload_n 0, 1), (201, .bipush (16), 2), (203, .newarray .int, 2), (205, .putfield 84, 3), (208, .aload_n 0, 1), (209, .sipush (130), 3), (212, .newarray .int, 2), (214, .putfield 87, 3), (217, .aload_n 0, 1), (218, .sipush (130), 3), (221, .newarray .int, 2), (223, .putfield 90, 3), (226, .aload_n 0, 1), (227, .sipush (130), 3), (230, .newarray .int, 2), (232, .putfield 93, 3), (235, .aload_n 0, 1), (236, .sipush (9000), 3), (239, .newarray .int, 2), (241, .putfield 96, 3), (244, .aload_n 0, 1), (245, .iconst 5, 1), (246, .newarray .int, 2), (248, .putfield 99, 3), (251, .aload_n 0, 1), (252, .iconst 5, 1), (253, .newarray .int, 2), (255, .putfield 102, 3), (258, .aload_n 0, 1), (259, .iconst 5, 1), (260, .newarray .int, 2), (262, .putfield 105, 3), (265, .return_, 1)]
-- 83: TagCoderModel.thrown()I
def xm_i83 : List (Nat × ClassFile.Instr × Nat) := [(0, .aload_n 0, 1), (1, .getfield 108, 3), (4, .ireturn, 1)]
-- 84: TagCoderModel.raise(I)I
def xm_i84 : List (Nat × ClassFile.Instr × Nat) := [(0, .aload_n 0, 1), (1, .iload_n 1, 1), (2, .putfield 108, 3), (5, .iconst 0, 1), (6, .ireturn, 1)]
-- 85: TagCoderModel.isType(I)Z
def xm_i85 : List (Nat × ClassFile.Instr × Nat) := [(0, .iload_n 1, 1), (1, .ifCond .lt (15), 3), (4, .iload_n 1, 1), (5, .aload_n 0, 1), (6, .getfield 112, 3), (9, .if_icmp .ge (7), 3), (12, .iconst 1, 1), (13, .goto (4), 3), (16, .iconst 0, 1), (17, .ireturn, 1)]
-- 86: TagCoderModel.made(III)I
def xm_i86 : List (Nat × ClassFile.Instr × Nat) := [(0, .aload_n 0, 1), (1, .getfield 7, 3), (4, .aload_n 0, 1), (5, .getfield 112, 3), (8, .iload_n 1, 1), (9, .iastore, 1), (10, .aload_n 0, 1), (11, .getfield 13, 3), (14, .aload_n 0, 1), (15, .getfield 112, 3), (18, .iload_n 2, 1), (19, .iastore, 1), (20, .aload_n 0, 1), (21, .getfield 16, 3), (24, .aload_n 0, 1), (25, .getfield 112, 3), (28, .iload_n 3, 1), (29, .iastore, 1), (30, .aload_n 0, 1), (31, .getfield 22, 3), (34, .aload_n 0, 1), (35, .getfield 112, 3), (38, .iconst 0, 1), (39, .bastore, 1), (40, .aload_n 0, 1), (41, .getfield 33, 3), (44, .aload_n 0, 1), (45, .getfield 112, 3), (48, .iconst 1, 1), (49, .iastore, 1), (50, .aload_n 0, 1), (51, .getfield 36, 3), (54, .bipush (96), 2), (56, .aload_n 0, 1), (57, .getfield 112, 3), (60, .imul, 1), (61, .iload_n 2, 1), (62, .iastore, 1), (63, .aload_n 0, 1), (64, .dup, 1), (65, .getfield 112, 3), (68, .iconst 1, 1), (69, .iadd, 1), (70, .putfield 112, 3), (73, .aload_n 0, 1), (74, .getfield 112, 3), (77, .iconst 1, 1), (78, .isub, 1), (79, .ireturn, 1)]
-- 87: TagCoderModel.basic(I)I
def xm_i87 : List (Nat × ClassFile.Instr × Nat) := [(0, .aload_n 0, 1), (1, .iconst 0, 1), (2, .putfield 108, 3), (5, .iload_n 1, 1), (6, .iconst 1, 1), (7, .if_icmp .lt (9), 3), (10, .iload_n 1, 1), (11, .bipush (6), 2), (13, .if_icmp .le (15), 3), (16, .iload_n 1, 1), (17, .bipush (12), 2), (19, .if_icmp .eq (9), 3), (22, .iload_n 1, 1), (23, .bipush (22), 2), (25, .if_icmp .ne (7), 3), (28, .iconst 1, 1), (29, .goto (4), 3), (32, .iconst 0, 1), (33, .istore_n 2, 1), (34, .iload_n 2, 1), (35, .ifCond .eq (22), 3), (38, .aload_n 0, 1), (39, .getfield 112, 3), (42, .bipush (16), 2), (44, .if_icmp .ge (13), 3), (47, .aload_n 0, 1), (48, .iconst 0, 1), (49, .iload_n 1, 1), (50, .iload_n 1, 1), (51, .invokevirtual 115, 3), (54, .goto (4), 3), (57, .iconst (-1), 1), (58, .ireturn, 1)]
-- 88: TagCoderModel.bounded(IJJ)I
def xm_i88 : List (Nat × ClassFile.Instr × Nat) := [(0, .aload_n 0, 1), (1, .iconst 0, 1), (2, .putfield 108, 3), (5, .aload_n 0, 1), (6, .getfield 112, 3), (9, .bipush (16), 2), (11, .if_icmp .eq (36), 3), (14, .aload_n 0, 1), (15, .iload_n 1, 1), (16, .invokevirtual 119, 3), (19, .ifCond .eq (28), 3), (22, .lload_n 2, 1), (23, .lload 4, 2), (25, .lcmp, 1), (26, .ifCond .gt (21), 3), (29, .aload_n 0, 1), (30, .getfield 7, 3), (33, .iload_n 1, 1), (34, .iaload, 1), (35, .ifCond .ne (12), 3), (38, .aload_n 0, 1), (39, .getfield 22, 3), (42, .iload_n 1, 1), (43, .baload, 1), (44, .ifCond .eq (5), 3), (47, .iconst (-1), 1), (48, .ireturn, 1), (49, .aload_n 0, 1), (50, .getfield 16, 3), (53, .iload_n 1, 1), (54, .iaload, 1), (55, .istore 6, 2), (57, .iload 6, 2), (59, .iconst 2, 1), (60, .if_icmp .eq (23), 3), (63, .iload 6, 2), (65, .iconst 4, 1), (66, .if_icmp .eq (17), 3), (69, .iload 6, 2), (71, .bipush (12), 2), (73, .if_icmp .eq (10), 3), (76, .iload 6, 2), (78, .bipush (22), 2), (80, .if_icmp .ne (15), 3), (83, .iload 6, 2), (85, .iconst 2, 1), (86, .if_icmp .eq (11), 3), (89, .lload_n 2, 1), (90, .lconst 0, 1), (91, .lcmp, 1), (92, .ifCond .ge (5), 3), (95, .iconst (-1), 1), (96, .ireturn, 1), (97, .aload_n 0, 1), (98, .iconst 0, 1), (99, .iload 6, 2), (101, .iload 6, 2), (103, .invokevirtual 115, 3), (106, .istore 7, 2), (108, .aload_n 0, 1), (109, .getfield 22, 3), (112, .iload 7, 2), (114, .iconst 1, 1), (115, .bastore, 1), (116, .aload_n 0, 1), (117, .getfield 26, 3), (120, .iload 7, 2), (122, .lload_n 2, 1), (123, .lastore, 1), (124, .aload_n 0, 1), (125, .getfield 30, 3), (128, .iload 7, 2), (130, .lload 4, 2), (132, .lastore, 1), (133, .iload 7, 2), (135, .ireturn, 1)]
-- 89: TagCoderModel.isChoice(I)Z
def xm_i89 : List (Nat × ClassFile.Instr × Nat) := [(0, .aload_n 0, 1), (1, .getfield 7, 3), (4, .iload_n 1, 1), (5, .iaload, 1), (6, .iconst 4, 1), (7, .if_icmp .ne (18), 3), (10, .aload_n 0, 1), (11, .getfield 16, 3), (14, .iload_n 1, 1), (15, .iaload, 1), (16, .bipush (20), 2), (18, .if_icmp .ne (7), 3), (21, .iconst 1, 1), (22, .goto (4), 3), (25, .iconst 0, 1), (26, .ireturn, 1)]
-- 90: TagCoderModel.tagged(IIZI)I
def xm_i90 : List (Nat × ClassFile.Instr × Nat) := [(0, .aload_n 0, 1), (1, .iconst 0, 1), (2, .putfield 108, 3), (5, .aload_n 0, 1), (6, .getfield 112, 3), (9, .bipush (16), 2), (11, .if_icmp .eq (46), 3), (14, .aload_n 0, 1), (15, .iload 4, 2), (17, .invokevirtual 119, 3), (20, .ifCond .eq (37), 3), (23, .iload_n 1, 1), (24, .iconst 1, 1), (25, .if_icmp .lt (32), 3), (28, .iload_n 1, 1), (29, .iconst 3, 1), (30, .if_icmp .gt (27), 3), (33, .iload_n 2, 1), (34, .ifCond .lt (23), 3), (37, .iload_n 2, 1), (38, .sipush (2000), 3), (41, .if_icmp .gt (16), 3), (44, .iload_n 3, 1), (45, .ifCond .ne (14), 3), (48, .aload_n 0, 1), (49, .iload 4, 2), (51, .invokevirtual 123, 3), (54, .ifCond .eq (5), 3), (57, .iconst (-1), 1), (58, .ireturn, 1), (59, .aload_n 0, 1), (60, .iload_n 3, 1), (61, .ifCond .eq (7), 3), (64, .iconst 2, 1), (65, .goto (4), 3), (68, .iconst 1, 1), (69, .ldc 126, 2), (71, .iload_n 1, 1), (72, .imul, 1), (73, .iload_n 2, 1), (74, .iadd, 1), (75, .iconst 0, 1), (76, .invokevirtual 115, 3), (79, .istore 5, 2), (81, .aload_n 0, 1), (82, .getfield 19, 3), (85, .iload 5, 2), (87, .iload 4, 2), (89, .iastore, 1), (90, .iload 5, 2), (92, .ireturn, 1)]
-- 91: TagCoderModel.list(II)I
def xm_i91 : List (Nat × ClassFile.Instr × Nat) := [(0, .aload_n 0, 1), (1, .iconst 0, 1), (2, .putfield 108, 3), (5, .aload_n 0, 1), (6, .getfield 112, 3), (9, .bipush (16), 2), (11, .if_icmp .eq (23), 3), (14, .aload_n 0, 1), (15, .iload_n 2, 1), (16, .invokevirtual 119, 3), (19, .ifCond .eq (15), 3), (22, .iload_n 1, 1), (23, .bipush (16), 2), (25, .if_icmp .eq (11), 3), (28, .iload_n 1, 1), (29, .bipush (17), 2), (31, .if_icmp .eq (5), 3), (34, .iconst (-1), 1), (35, .ireturn, 1), (36, .aload_n 0, 1), (37, .iconst 3, 1), (38, .iload_n 1, 1), (39, .iload_n 1, 1), (40, .invokevirtual 115, 3), (43, .istore_n 3, 1), (44, .aload_n 0, 1), (45, .getfield 19, 3), (48, .iload_n 3, 1), (49, .iload_n 2, 1), (50, .iastore, 1), (51, .iload_n 3, 1), (52, .ireturn, 1)]
-- 92: TagCoderModel.open(I)Z
def xm_i92 : List (Nat × ClassFile.Instr × Nat) := [(0, .aload_n 0, 1), (1, .iconst 0, 1), (2, .putfield 108, 3), (5, .iload_n 1, 1), (6, .bipush (16), 2), (8, .if_icmp .eq (17), 3), (11, .iload_n 1, 1), (12, .bipush (17), 2), (14, .if_icmp .eq (11), 3), (17, .iload_n 1, 1), (18, .bipush (20), 2), (20, .if_icmp .eq (5), 3), (23, .iconst 0, 1), (24, .ireturn, 1), (25, .aload_n 0, 1), (26, .iload_n 1, 1), (27, .putfield 127, 3), (30, .aload_n 0, 1), (31, .getfield 39, 3), (34, .bipush (16), 2), (36, .iconst 0, 1), (37, .iastore, 1), (38, .iconst 1, 1), (39, .ireturn, 1)]
-- 93: TagCoderModel.canBe(IJ)Z
def xm_i93 : List (Nat × ClassFile.Instr × Nat) := [(0, .iload_n 1, 1), (1, .istore 4, 2), (3, .aload_n 0, 1), (4, .getfield 7, 3), (7, .iload 4, 2), (9, .iaload, 1), (10, .iconst 1, 1), (11, .if_icmp .eq (14), 3), (14, .aload_n 0, 1), (15, .getfield 7, 3), (18, .iload 4, 2), (20, .iaload, 1), (21, .iconst 2, 1), (22, .if_icmp .ne (15), 3), (25, .aload_n 0, 1), (26, .getfield 19, 3), (29, .iload 4, 2), (31, .iaload, 1), (32, .istore 4, 2), (34, .goto (-31), 3), (37, .aload_n 0, 1), (38, .getfield 7, 3), (41, .iload 4, 2), (43, .iaload, 1), (44, .ifCond .eq (5), 3), (47, .iconst 0, 1), (48, .ireturn, 1), (49, .aload_n 0, 1), (50, .getfield 16, 3), (53, .iload 4, 2), (55, .iaload, 1), (56, .iconst 1, 1), (57, .if_icmp .ne (23), 3), (60, .lload_n 2, 1), (61, .lconst 0, 1), (62, .lcmp, 1), (63, .ifCond .eq (9), 3), (66, .lload_n 2, 1), (67, .lconst 1, 1), (68, .lcmp, 1), (69, .ifCond .ne (7), 3), (72, .iconst 1, 1), (73, .goto (57), 3), (76, .iconst 0, 1), (77, .goto (53), 3), (80, .aload_n 0, 1), (81, .getfield 16, 3), (84, .iload 4, 2), (86, .iaload, 1), (87, .iconst 2, 1), (88, .if_icmp .ne (41), 3), (91, .aload_n 0, 1), (92, .getfield 22, 3), (95, .iload 4, 2), (97, .baload, 1), (98, .ifCond .eq (27), 3), (101, .lload_n 2, 1), (102, .aload_n 0, 1), (103, .getfield 26, 3), (106, .iload 4, 2), (108, .laload, 1), (109, .lcmp, 1), (110, .ifCond .lt (19), 3), (113, .lload_n 2, 1), (114, .aload_n 0, 1), (115, .getfield 30, 3), (118, .iload 4, 2), (120, .laload, 1), (121, .lcmp, 1), (122, .ifCond .gt (7), 3), (125, .iconst 1, 1), (126, .goto (4), 3), (129, .iconst 0, 1), (130, .ireturn, 1)]
-- 94: TagCoderModel.member(IIJ)Z
def xm_i94 : List (Nat × ClassFile.Instr × Nat) := [(0, .aload_n 0, 1), (1, .iconst 0, 1), (2, .putfield 108, 3), (5, .aload_n 0, 1), (6, .getfield 39, 3), (9, .bipush (16), 2), (11, .iaload, 1), (12, .istore 5, 2), (14, .aload_n 0, 1), (15, .getfield 127, 3), (18, .ifCond .eq (54), 3), (21, .iload 5, 2), (23, .bipush (6), 2), (25, .if_icmp .eq (47), 3), (28, .aload_n 0, 1), (29, .iload_n 1, 1), (30, .invokevirtual 119, 3), (33, .ifCond .eq (39), 3), (36, .iload_n 2, 1), (37, .ifCond .lt (35), 3), (40, .iload_n 2, 1), (41, .iconst 2, 1), (42, .if_icmp .gt (30), 3), (45, .aload_n 0, 1), (46, .getfield 127, 3), (49, .bipush (20), 2), (51, .if_icmp .ne (7), 3), (54, .iload_n 2, 1), (55, .ifCond .gt (17), 3), (58, .iload_n 2, 1), (59, .iconst 2, 1), (60, .if_icmp .ne (14), 3), (63, .aload_n 0, 1), (64, .iload_n 1, 1), (65, .lload_n 3, 1), (66, .invokevirtual 130, 3), (69, .ifCond .ne (5), 3), (72, .iconst 0, 1), (73, .ireturn, 1), (74, .aload_n 0, 1), (75, .getfield 42, 3), (78, .bipush (96), 2), (80, .iload 5, 2), (82, .iadd, 1), (83, .iload_n 1, 1), (84, .iastore, 1), (85, .aload_n 0, 1), (86, .getfield 45, 3), (89, .bipush (96), 2), (91, .iload 5, 2), (93, .iadd, 1), (94, .iload_n 2, 1), (95, .iastore, 1), (96, .aload_n 0, 1), (97, .getfield 48, 3), (100, .bipush (96), 2), (102, .iload 5, 2), (104, .iadd, 1), (105, .lload_n 3, 1), (106, .lastore, 1), (107, .aload_n 0, 1), (108, .getfield 39, 3), (111, .bipush (16), 2), (113, .dup2, 1), (114, .iaload, 1), (115, .iconst 1, 1), (116, .iadd, 1), (117, .iastore, 1), (118, .iconst 1, 1), (119, .ireturn, 1)]
-- 95: TagCoderModel.begins(II)Z
def xm_i95 : List (Nat × ClassFile.Instr × Nat) := [(0, .iconst 0, 1), (1, .istore_n 3, 1), (2, .iconst 0, 1), (3, .istore 4, 2), (5, .iload 4, 2), (7, .aload_n 0, 1), (8, .getfield 33, 3), (11, .iload_n 1, 1), (12, .iaload, 1), (13, .if_icmp .ge (35), 3), (16, .iload_n 3, 1), (17, .ifCond .ne (19), 3), (20, .aload_n 0, 1), (21, .getfield 36, 3), (24, .bipush (96), 2), (26, .iload_n 1, 1), (27, .imul, 1), (28, .iload 4, 2), (30, .iadd, 1), (31, .iaload, 1), (32, .iload_n 2, 1), (33, .if_icmp .ne (7), 3), (36, .iconst 1, 1), (37, .goto (4), 3), (40, .iconst 0, 1), (41, .istore_n 3, 1), (42, .iinc 4 (1), 3), (45, .goto (-40), 3), (48, .iload_n 3, 1), (49, .ireturn, 1)]
-- 96: TagCoderModel.meet(II)Z
def xm_i96 : List (Nat × ClassFile.Instr × Nat) := [(0, .iconst 0, 1), (1, .istore_n 3, 1), (2, .iconst 0, 1), (3, .istore 4, 2), (5, .iload 4, 2), (7, .aload_n 0, 1), (8, .getfield 33, 3), (11, .iload_n 1, 1), (12, .iaload, 1), (13, .if_icmp .ge (39), 3), (16, .iload_n 3, 1), (17, .ifCond .ne (23), 3), (20, .aload_n 0, 1), (21, .iload_n 2, 1), (22, .aload_n 0, 1), (23, .getfield 36, 3), (26, .bipush (96), 2), (28, .iload_n 1, 1), (29, .imul, 1), (30, .iload 4, 2), (32, .iadd, 1), (33, .iaload, 1), (34, .invokevirtual 134, 3), (37, .ifCond .eq (7), 3), (40, .iconst 1, 1), (41, .goto (4), 3), (44, .iconst 0, 1), (45, .istore_n 3, 1), (46, .iinc 4 (1), 3), (49, .goto (-44), 3), (52, .iload_n 3, 1), (53, .ireturn, 1)]
-- 97: TagCoderModel.isAllowed()Z
def xm_i97 : List (Nat × ClassFile.Instr × Nat) := [(0, .aload_n 0, 1), (1, .getfield 39, 3), (4, .bipush (16), 2), (6, .iaload, 1), (7, .istore_n 1, 1), (8, .aload_n 0, 1), (9, .getfield 127, 3), (12, .bipush (20), 2), (14, .if_icmp .ne (7), 3), (17, .iload_n 1, 1), (18, .ifCond .le (7), 3), (21, .iconst 1, 1), (22, .goto (4), 3), (25, .iconst 0, 1), (26, .istore_n 2, 1), (27, .iconst 0, 1), (28, .istore_n 3, 1), (29, .iload_n 3, 1), (30, .iload_n 1, 1), (31, .if_icmp .ge (107), 3), (34, .iload_n 1, 1), (35, .iconst 1, 1), (36, .isub, 1), (37, .istore 4, 2), (39, .aload_n 0, 1), (40, .getfield 127, 3), (43, .bipush (16), 2), (45, .if_icmp .ne (33), 3), (48, .iload_n 3, 1), (49, .istore 4, 2), (51, .iload 4, 2), (53, .iload_n 1, 1), (54, .iconst 1, 1), (55, .isub, 1), (56, .if_icmp .ge (22), 3), (59, .aload_n 0, 1), (60, .getfield 45, 3), (63, .bipush (96), 2), (65, .iload 4, 2), (67, .iadd, 1), (68, .iaload, 1), (69, .ifCond .le (9), 3), (72, .iinc 4 (1), 3), (75, .goto (-24), 3), (78, .iload_n 3, 1), (79, .iconst 1, 1), (80, .iadd, 1), (81, .istore 5, 2), (83, .iload 5, 2), (85, .iload 4, 2), (87, .if_icmp .gt (45), 3), (90, .iload_n 2, 1), (91, .ifCond .eq (33), 3), (94, .aload_n 0, 1), (95, .aload_n 0, 1), (96, .getfield 42, 3), (99, .bipush (96), 2), (101, .iload_n 3, 1), (102, .iadd, 1), (103, .iaload, 1), (104, .aload_n 0, 1), (105, .getfield 42, 3), (108, .bipush (96), 2), (110, .iload 5, 2), (112, .iadd, 1), (113, .iaload, 1), (114, .invokevirtual 138, 3), (117, .ifCond .ne (7), 3), (120, .iconst 1, 1), (121, .goto (4), 3), (124, .iconst 0, 1), (125, .istore_n 2, 1), (126, .iinc 5 (1), 3), (129, .goto (-46), 3), (132, .iinc 3 (1), 3), (135, .goto (-106), 3), (138, .iload_n 2, 1), (139, .ireturn, 1)]
-- 98: TagCoderModel.close()I
def xm_i98 : List (Nat × ClassFile.Instr × Nat) := [(0, .aload_n 0, 1), (1, .iconst 0, 1), (2, .putfield 108, 3), (5, .aload_n 0, 1), (6, .getfield 127, 3), (9, .ifCond .eq (19), 3), (12, .aload_n 0, 1), (13, .getfield 112, 3), (16, .bipush (16), 2), (18, .if_icmp .eq (10), 3), (21, .aload_n 0, 1), (22, .invokevirtual 141, 3), (25, .ifCond .ne (5), 3), (28, .iconst (-1), 1), (29, .ireturn, 1), (30, .aload_n 0, 1), (31, .iconst 4, 1), (32, .aload_n 0, 1), (33, .getfield 127, 3), (36, .aload_n 0, 1), (37, .getfield 127, 3), (40, .invokevirtual 115, 3), (43, .istore_n 1, 1), (44, .aload_n 0, 1), (45, .getfield 39, 3), (48, .iload_n 1, 1), (49, .aload_n 0, 1), (50, .getfield 39, 3), (53, .bipush (16), 2), (55, .iaload, 1), (56, .iastore, 1), (57, .iconst 0, 1), (58, .istore_n 2, 1), (59, .iload_n 2, 1), (60, .bipush (6), 2), (62, .if_icmp .ge (69), 3), (65, .aload_n 0, 1), (66, .getfield 42, 3), (69, .bipush (6), 2), (71, .iload_n 1, 1), (72, .imul, 1), (73, .iload_n 2, 1), (74, .iadd, 1), (75, .aload_n 0, 1), (76, .getfield 42, 3), (79, .bipush (96), 2), (81, .iload_n 2, 1), (82, .iadd, 1), (83, .iaload, 1), (84, .iastore, 1), (85, .aload_n 0, 1), (86, .getfield 45, 3), (89, .bipush (6), 2), (91, .iload_n 1, 1), (92, .imul, 1), (93, .iload_n 2, 1), (94, .iadd, 1), (95, .aload_n 0, 1), (96, .getfield 45, 3), (99, .bipush (96), 2), (101, .iload_n 2, 1), (102, .iadd, 1), (103, .iaload, 1), (104, .iastore, 1), (105, .aload_n 0, 1), (106, .getfield 48, 3), (109, .bipush (6), 2), (111, .iload_n 1, 1), (112, .imul, 1), (113, .iload_n 2, 1), (114, .iadd, 1), (115, .aload_n 0, 1), (116, .getfield 48, 3), (119, .bipush (96), 2), (121, .iload_n 2, 1), (122, .iadd, 1), (123, .laload, 1), (124, .lastore, 1), (125, .iinc 2 (1), 3), (128, .goto (-69), 3), (131, .aload_n 0, 1), (132, .getfield 127, 3), (135, .bipush (20), 2), (137, .if_icmp .ne (98), 3), (140, .aload_n 0, 1), (141, .getfield 33, 3), (144, .iload_n 1, 1), (145, .iconst 0, 1), (146, .iastore, 1), (147, .iconst 0, 1), (148, .istore_n 2, 1), (149, .iload_n 2, 1), (150, .aload_n 0, 1), (151, .getfield 39, 3), (154, .iload_n 1, 1), (155, .iaload, 1), (156, .if_icmp .ge (79), 3), (159, .aload_n 0, 1), (160, .getfield 42, 3), (163, .bipush (6), 2), (165, .iload_n 1, 1), (166, .imul, 1), (167, .iload_n 2, 1), (168, .iadd, 1), (169, .iaload, 1), (170, .istore_n 3, 1), (171, .iconst 0, 1), (172, .istore 4, 2), (174, .iload 4, 2), (176, .aload_n 0, 1), (177, .getfield 33, 3), (180, .iload_n 3, 1), (181, .iaload, 1), (182, .if_icmp .ge (47), 3), (185, .aload_n 0, 1), (186, .getfield 36, 3), (189, .bipush (96), 2), (191, .iload_n 1, 1), (192, .imul, 1), (193, .aload_n 0, 1), (194, .getfield 33, 3), (197, .iload_n 1, 1), (198, .iaload, 1), (199, .iadd, 1), (200, .aload_n 0, 1), (201, .getfield 36, 3), (204, .bipush (96), 2), (206, .iload_n 3, 1), (207, .imul, 1), (208, .iload 4, 2), (210, .iadd, 1), (211, .iaload, 1), (212, .iastore, 1), (213, .aload_n 0, 1), (214, .getfield 33, 3), (217, .iload_n 1, 1), (218, .dup2, 1), (219, .iaload, 1), (220, .iconst 1, 1), (221, .iadd, 1), (222, .iastore, 1), (223, .iinc 4 (1), 3), (226, .goto (-52), 3), (229, .iinc 2 (1), 3), (232, .goto (-83), 3), (235, .aload_n 0, 1), (236, .iconst 0, 1), (237, .putfield 127, 3), (240, .aload_n 0, 1), (241, .getfield 39, 3), (244, .bipush (16), 2), (246, .iconst 0, 1), (247, .iastore, 1), (248, .iload_n 1, 1), (249, .ireturn, 1)]
-- 99: TagCoderModel.feed(JI)Z
def xm_i99 : List (Nat × ClassFile.Instr × Nat) := [(0, .aload_n 0, 1), (1, .iconst 0, 1), (2, .putfield 108, 3), (5, .iload_n 3, 1), (6, .iconst 1, 1), (7, .if_icmp .lt (21), 3), (10, .iload_n 3, 1), (11, .bipush (8), 2), (13, .if_icmp .gt (15), 3), (16, .aload_n 0, 1), (17, .getfield 145, 3), (20, .iload_n 3, 1), (21, .iadd, 1), (22, .sipush (200), 3), (25, .if_icmp .le (5), 3), (28, .iconst 0, 1), (29, .ireturn, 1), (30, .iconst 0, 1), (31, .istore 4, 2), (33, .iload 4, 2), (35, .iload_n 3, 1), (36, .if_icmp .ge (44), 3), (39, .aload_n 0, 1), (40, .getfield 51, 3), (43, .aload_n 0, 1), (44, .getfield 145, 3), (47, .lload_n 1, 1), (48, .bipush (8), 2), (50, .iload_n 3, 1), (51, .iconst 1, 1), (52, .isub, 1), (53, .iload 4, 2), (55, .isub, 1), (56, .imul, 1), (57, .lushr, 1), (58, .l2i, 1), (59, .sipush (255), 3), (62, .iand, 1), (63, .iastore, 1), (64, .aload_n 0, 1), (65, .dup, 1), (66, .getfield 145, 3), (69, .iconst 1, 1), (70, .iadd, 1), (71, .putfield 145, 3), (74, .iinc 4 (1), 3), (77, .goto (-44), 3), (80, .iconst 1, 1), (81, .ireturn, 1)]
-- 100: TagCoderModel.clear()V
def xm_i100 : List (Nat × ClassFile.Instr × Nat) := [(0, .aload_n 0, 1), (1, .iconst 0, 1), (2, .putfield 108, 3), (5, .aload_n 0, 1), (6, .iconst 0, 1), (7, .putfield 145, 3), (10, .return_, 1)]
-- 101: TagCoderModel.next()I
def xm_i101 : List (Nat × ClassFile.Instr × Nat) := [(0, .aload_n 0, 1), (1, .getfield 148, 3), (4, .aload_n 0, 1), (5, .getfield 151, 3), (8, .if_icmp .lt (10), 3), (11, .aload_n 0, 1), (12, .iconst 1, 1), (13, .putfield 154, 3), (16, .iconst 0, 1), (17, .ireturn, 1), (18, .aload_n 0, 1), (19, .dup, 1), (20, .getfield 148, 3), (23, .iconst 1, 1), (24, .iadd, 1), (25, .putfield 148, 3), (28, .aload_n 0, 1), (29, .getfield 51, 3), (32, .aload_n 0, 1), (33, .getfield 148, 3), (36, .iconst 1, 1), (37, .isub, 1), (38, .iaload, 1), (39, .ireturn, 1)]
-- 102: TagCoderModel.identifier()V
def xm_i102 : List (Nat × ClassFile.Instr × Nat) := [(0, .aload_n 0, 1), (1, .invokevirtual 158, 3), (4, .istore_n 1, 1), (5, .aload_n 0, 1), (6, .iload_n 1, 1), (7, .bipush (32), 2), (9, .iand, 1), (10, .ifCond .eq (7), 3), (13, .iconst 1, 1), (14, .goto (4), 3), (17, .iconst 0, 1), (18, .putfield 162, 3), (21, .iload_n 1, 1), (22, .bipush (31), 2), (24, .iand, 1), (25, .istore_n 2, 1), (26, .iload_n 2, 1), (27, .bipush (31), 2), (29, .if_icmp .ne (106), 3), (32, .iconst 0, 1), (33, .istore_n 2, 1), (34, .iconst 0, 1), (35, .istore_n 3, 1), (36, .sipush (128), 3), (39, .istore 4, 2), (41, .iload 4, 2), (43, .bipush (127), 2), (45, .if_icmp .le (68), 3), (48, .aload_n 0, 1), (49, .getfield 154, 3), (52, .ifCond .ne (61), 3), (55, .aload_n 0, 1), (56, .invokevirtual 158, 3), (59, .istore 4, 2), (61, .aload_n 0, 1), (62, .aload_n 0, 1), (63, .getfield 154, 3), (66, .ifCond .ne (20), 3), (69, .iload_n 3, 1), (70, .ifCond .ne (11), 3), (73, .iload 4, 2), (75, .sipush (128), 3), (78, .if_icmp .eq (8), 3), (81, .iload_n 3, 1), (82, .iconst 3, 1), (83, .if_icmp .ne (7), 3), (86, .iconst 1, 1), (87, .goto (4), 3), (90, .iconst 0, 1), (91, .putfield 154, 3), (94, .iload_n 2, 1), (95, .sipush (128), 3), (98, .imul, 1), (99, .iload 4, 2), (101, .sipush (128), 3), (104, .irem, 1), (105, .iadd, 1), (106, .istore_n 2, 1), (107, .iinc 3 (1), 3), (110, .goto (-69), 3), (113, .aload_n 0, 1), (114, .aload_n 0, 1), (115, .getfield 154, 3), (118, .ifCond .ne (9), 3), (121, .iload_n 2, 1), (122, .bipush (31), 2), (124, .if_icmp .ge (7), 3), (127, .iconst 1, 1), (128, .goto (4), 3), (131, .iconst 0, 1), (132, .putfield 154, 3), (135, .aload_n 0, 1), (136, .ldc 126, 2), (138, .iload_n 1, 1), (139, .bipush (64), 2), (141, .idiv, 1), (142, .imul, 1), (143, .iload_n 2, 1), (144, .iadd, 1), (145, .putfield 165, 3), (148, .return_, 1)]
-- 103: TagCoderModel.coming()I
def xm_i103 : List (Nat × ClassFile.Instr × Nat) := [(0, .aload_n 0, 1), (1, .getfield 148, 3), (4, .istore_n 1, 1), (5, .aload_n 0, 1), (6, .getfield 148, 3), (9, .aload_n 0, 1), (10, .getfield 151, 3), (13, .if_icmp .lt (5), 3), (16, .iconst (-1), 1), (17, .ireturn, 1), (18, .aload_n 0, 1), (19, .invokevirtual 168, 3), (22, .aload_n 0, 1), (23, .iload_n 1, 1), (24, .putfield 148, 3), (27, .aload_n 0, 1), (28, .getfield 165, 3), (31, .ireturn, 1)]
-- 104: TagCoderModel.header(I)V
def xm_i104 : List (Nat × ClassFile.Instr × Nat) := [(0, .aload_n 0, 1), (1, .invokevirtual 168, 3), (4, .aload_n 0, 1), (5, .aload_n 0, 1), (6, .getfield 154, 3), (9, .ifCond .ne (11), 3), (12, .aload_n 0, 1), (13, .getfield 165, 3), (16, .iload_n 1, 1), (17, .if_icmp .eq (7), 3), (20, .iconst 1, 1), (21, .goto (4), 3), (24, .iconst 0, 1), (25, .putfield 154, 3), (28, .aload_n 0, 1), (29, .invokevirtual 158, 3), (32, .istore_n 2, 1), (33, .aload_n 0, 1), (34, .iconst (-1), 1), (35, .putfield 171, 3), (38, .aload_n 0, 1), (39, .getfield 154, 3), (42, .ifCond .ne (10), 3), (45, .iload_n 2, 1), (46, .sipush (128), 3), (49, .if_icmp .ne (27), 3), (52, .aload_n 0, 1), (53, .aload_n 0, 1), (54, .getfield 154, 3), (57, .ifCond .ne (10), 3), (60, .aload_n 0, 1), (61, .getfield 162, 3), (64, .ifCond .ne (7), 3), (67, .iconst 1, 1), (68, .goto (4), 3), (71, .iconst 0, 1), (72, .putfield 154, 3), (75, .return_, 1), (76, .iload_n 2, 1), (77, .i2l, 1), (78, .lstore_n 3, 1), (79, .iload_n 2, 1), (80, .sipush (128), 3), (83, .if_icmp .le (57), 3), (86, .aload_n 0, 1), (87, .iload_n 2, 1), (88, .sipush (132), 3), (91, .if_icmp .le (7), 3), (94, .iconst 1, 1), (95, .goto (4), 3), (98, .iconst 0, 1), (99, .putfield 154, 3), (102, .lconst 0, 1), (103, .lstore_n 3, 1), (104, .sipush (128), 3), (107, .istore 5, 2), (109, .iload 5, 2), (111, .iload_n 2, 1), (112, .if_icmp .ge (28), 3), (115, .aload_n 0, 1), (116, .getfield 154, 3), (119, .ifCond .ne (21), 3), (122, .lload_n 3, 1), (123, .ldc2_w 174, 3), (126, .lmul, 1), (127, .aload_n 0, 1), (128, .invokevirtual 158, 3), (131, .i2l, 1), (132, .ladd, 1), (133, .lstore_n 3, 1), (134, .iinc 5 (1), 3), (137, .goto (-28), 3), (140, .aload_n 0, 1), (141, .aload_n 0, 1), (142, .getfield 154, 3), (145, .ifCond .ne (18), 3), (148, .lload_n 3, 1), (149, .aload_n 0, 1), (150, .getfield 151, 3), (153, .aload_n 0, 1), (154, .getfield 148, 3), (157, .isub, 1), (158, .i2l, 1), (159, .lcmp, 1), (160, .ifCond .le (7), 3), (163, .iconst 1, 1), (164, .goto (4), 3), (167, .iconst 0, 1), (168, .putfield 154, 3), (171, .aload_n 0, 1), (172, .aload_n 0, 1), (173, .getfield 154, 3), (176, .ifCond .eq (10), 3), (179, .aload_n 0, 1), (180, .getfield 148, 3), (183, .goto (10), 3), (186, .aload_n 0, 1), (187, .getfield 148, 3), (190, .lload_n 3, 1), (191, .l2i, 1), (192, .iadd, 1), (193, .putfield 171, 3), (196, .return_, 1)]
-- 105: TagCoderModel.goesOn(I)Z
def xm_i105 : List (Nat × ClassFile.Instr × Nat) := [(0, .iload_n 1, 1), (1, .ifCond .lt (19), 3), (4, .aload_n 0, 1), (5, .getfield 148, 3), (8, .iload_n 1, 1), (9, .if_icmp .ge (7), 3), (12, .iconst 1, 1), (13, .goto (51), 3), (16, .iconst 0, 1), (17, .goto (47), 3), (20, .aload_n 0, 1), (21, .getfield 148, 3), (24, .iconst 1, 1), (25, .iadd, 1), (26, .aload_n 0, 1), (27, .getfield 151, 3), (30, .if_icmp .ge (29), 3), (33, .aload_n 0, 1), (34, .getfield 51, 3), (37, .aload_n 0, 1), (38, .getfield 148, 3), (41, .iaload, 1), (42, .ifCond .ne (17), 3), (45, .aload_n 0, 1), (46, .getfield 51, 3), (49, .aload_n 0, 1), (50, .getfield 148, 3), (53, .iconst 1, 1), (54, .iadd, 1), (55, .iaload, 1), (56, .ifCond .eq (7), 3), (59, .iconst 1, 1), (60, .goto (4), 3), (63, .iconst 0, 1), (64, .ireturn, 1)]
-- 106: TagCoderModel.pooling(I)V
def xm_i106 : List (Nat × ClassFile.Instr × Nat) := [(0, .aload_n 0, 1), (1, .getfield 96, 3), (4, .aload_n 0, 1), (5, .getfield 176, 3), (8, .iload_n 1, 1), (9, .sipush (255), 3), (12, .iand, 1), (13, .iastore, 1), (14, .aload_n 0, 1), (15, .dup, 1), (16, .getfield 176, 3), (19, .iconst 1, 1), (20, .iadd, 1), (21, .putfield 176, 3), (24, .return_, 1)]
-- 107: TagCoderModel.addHeader(IZI)V
def xm_i107 : List (Nat × ClassFile.Instr × Nat) := [(0, .iload_n 1, 1), (1, .ldc 126, 2), (3, .irem, 1), (4, .istore 4, 2), (6, .aload_n 0, 1), (7, .iload_n 1, 1), (8, .ldc 126, 2), (10, .idiv, 1), (11, .bipush (64), 2), (13, .imul, 1), (14, .iload_n 2, 1), (15, .ifCond .eq (8), 3), (18, .bipush (32), 2), (20, .goto (4), 3), (23, .iconst 0, 1), (24, .iadd, 1), (25, .iload 4, 2), (27, .bipush (31), 2), (29, .if_icmp .ge (8), 3), (32, .iload 4, 2), (34, .goto (5), 3), (37, .bipush (31), 2), (39, .iadd, 1), (40, .invokevirtual 179, 3), (43, .iload 4, 2), (45, .sipush (16384), 3), (48, .if_icmp .lt (16), 3), (51, .aload_n 0, 1), (52, .iload 4, 2), (54, .bipush (14), 2), (56, .ishr, 1), (57, .sipush (128), 3), (60, .ior, 1), (61, .invokevirtual 179, 3), (64, .iload 4, 2), (66, .sipush (128), 3), (69, .if_icmp .lt (19), 3), (72, .aload_n 0, 1), (73, .iload 4, 2), (75, .bipush (7), 2), (77, .ishr, 1), (78, .bipush (127), 2), (80, .iand, 1), (81, .sipush (128), 3), (84, .ior, 1), (85, .invokevirtual 179, 3), (88, .iload 4, 2), (90, .bipush (31), 2), (92, .if_icmp .lt (12), 3), (95, .aload_n 0, 1), (96, .iload 4, 2), (98, .bipush (127), 2), (100, .iand, 1), (101, .invokevirtual 179, 3), (104, .iload_n 3, 1), (105, .bipush (127), 2), (107, .if_icmp .le (10), 3), (110, .aload_n 0, 1), (111, .sipush (129), 3), (114, .invokevirtual 179, 3), (117, .aload_n 0, 1), (118, .iload_n 3, 1), (119, .invokevirtual 179, 3), (122, .return_, 1)]
-- 108: TagCoderModel.addPart(II)V
def xm_i108 : List (Nat × ClassFile.Instr × Nat) := [(0, .aload_n 0, 1), (1, .getfield 87, 3), (4, .aload_n 0, 1), (5, .getfield 183, 3), (8, .iload_n 1, 1), (9, .iastore, 1), (10, .aload_n 0, 1), (11, .getfield 90, 3), (14, .aload_n 0, 1), (15, .getfield 183, 3), (18, .aload_n 0, 1), (19, .getfield 176, 3), (22, .iload_n 1, 1), (23, .isub, 1), (24, .iastore, 1), (25, .aload_n 0, 1), (26, .getfield 93, 3), (29, .aload_n 0, 1), (30, .getfield 183, 3), (33, .iload_n 2, 1), (34, .iastore, 1), (35, .aload_n 0, 1), (36, .dup, 1), (37, .getfield 183, 3), (40, .iconst 1, 1), (41, .iadd, 1), (42, .putfield 183, 3), (45, .return_, 1)]
-- 109: TagCoderModel.addBody(I)V
def xm_i109 : List (Nat × ClassFile.Instr × Nat) := [(0, .aload_n 0, 1), (1, .getfield 176, 3), (4, .istore_n 2, 1), (5, .aload_n 0, 1), (6, .iload_n 1, 1), (7, .iconst 0, 1), (8, .aload_n 0, 1), (9, .getfield 186, 3), (12, .invokevirtual 189, 3), (15, .iconst 0, 1), (16, .istore_n 3, 1), (17, .iload_n 3, 1), (18, .aload_n 0, 1), (19, .getfield 186, 3), (22, .if_icmp .ge (19), 3), (25, .aload_n 0, 1), (26, .aload_n 0, 1), (27, .getfield 57, 3), (30, .iload_n 3, 1), (31, .iaload, 1), (32, .invokevirtual 179, 3), (35, .iinc 3 (1), 3), (38, .goto (-21), 3), (41, .aload_n 0, 1), (42, .iload_n 2, 1), (43, .iload_n 1, 1), (44, .invokevirtual 193, 3), (47, .return_, 1)]
-- 110: TagCoderModel.hold(II)V
def xm_i110 : List (Nat × ClassFile.Instr × Nat) := [(0, .iconst 0, 1), (1, .istore_n 3, 1), (2, .iload_n 1, 1), (3, .istore 4, 2), (5, .iload 4, 2), (7, .aload_n 0, 1), (8, .getfield 183, 3), (11, .if_icmp .ge (19), 3), (14, .iload_n 3, 1), (15, .aload_n 0, 1), (16, .getfield 90, 3), (19, .iload 4, 2), (21, .iaload, 1), (22, .iadd, 1), (23, .istore_n 3, 1), (24, .iinc 4 (1), 3), (27, .goto (-22), 3), (30, .aload_n 0, 1), (31, .getfield 176, 3), (34, .istore 4, 2), (36, .aload_n 0, 1), (37, .iload_n 2, 1), (38, .iconst 1, 1), (39, .iload_n 3, 1), (40, .invokevirtual 189, 3), (43, .iload_n 1, 1), (44, .istore 5, 2), (46, .iload 5, 2), (48, .aload_n 0, 1), (49, .getfield 183, 3), (52, .if_icmp .ge (49), 3), (55, .iconst 0, 1), (56, .istore 6, 2), (58, .iload 6, 2), (60, .aload_n 0, 1), (61, .getfield 90, 3), (64, .iload 5, 2), (66, .iaload, 1), (67, .if_icmp .ge (28), 3), (70, .aload_n 0, 1), (71, .aload_n 0, 1), (72, .getfield 96, 3), (75, .aload_n 0, 1), (76, .getfield 87, 3), (79, .iload 5, 2), (81, .iaload, 1), (82, .iload 6, 2), (84, .iadd, 1), (85, .iaload, 1), (86, .invokevirtual 179, 3), (89, .iinc 6 (1), 3), (92, .goto (-34), 3), (95, .iinc 5 (1), 3), (98, .goto (-52), 3), (101, .aload_n 0, 1), (102, .iload_n 1, 1), (103, .putfield 183, 3), (106, .aload_n 0, 1), (107, .iload 4, 2), (109, .iload_n 2, 1), (110, .invokevirtual 193, 3), (113, .return_, 1)]
-- 111: TagCoderModel.isBehind(IIZ)Z
def xm_i111 : List (Nat × ClassFile.Instr × Nat) := [(0, .iload_n 3, 1), (1, .ifCond .eq (24), 3), (4, .aload_n 0, 1), (5, .getfield 93, 3), (8, .iload_n 1, 1), (9, .iaload, 1), (10, .aload_n 0, 1), (11, .getfield 93, 3), (14, .iload_n 2, 1), (15, .iaload, 1), (16, .if_icmp .le (7), 3), (19, .iconst 1, 1), (20, .goto (4), 3), (23, .iconst 0, 1), (24, .ireturn, 1), (25, .aload_n 0, 1), (26, .getfield 90, 3), (29, .iload_n 1, 1), (30, .iaload, 1), (31, .aload_n 0, 1), (32, .getfield 90, 3), (35, .iload_n 2, 1), (36, .iaload, 1), (37, .if_icmp .le (12), 3), (40, .aload_n 0, 1), (41, .getfield 90, 3), (44, .iload_n 1, 1), (45, .iaload, 1), (46, .goto (9), 3), (49, .aload_n 0, 1), (50, .getfield 90, 3), (53, .iload_n 2, 1), (54, .iaload, 1), (55, .istore 4, 2), (57, .iconst 0, 1), (58, .istore 5, 2), (60, .iload 5, 2), (62, .iload 4, 2), (64, .if_icmp .ge (91), 3), (67, .iload 5, 2), (69, .aload_n 0, 1), (70, .getfield 90, 3), (73, .iload_n 1, 1), (74, .iaload, 1), (75, .if_icmp .ge (20), 3), (78, .aload_n 0, 1), (79, .getfield 96, 3), (82, .aload_n 0, 1), (83, .getfield 87, 3), (86, .iload_n 1, 1), (87, .iaload, 1), (88, .iload 5, 2), (90, .iadd, 1), (91, .iaload, 1), (92, .goto (4), 3), (95, .iconst 0, 1), (96, .istore 6, 2), (98, .iload 5, 2), (100, .aload_n 0, 1), (101, .getfield 90, 3), (104, .iload_n 2, 1), (105, .iaload, 1), (106, .if_icmp .ge (20), 3), (109, .aload_n 0, 1), (110, .getfield 96, 3), (113, .aload_n 0, 1), (114, .getfield 87, 3), (117, .iload_n 2, 1), (118, .iaload, 1), (119, .iload 5, 2), (121, .iadd, 1), (122, .iaload, 1), (123, .goto (4), 3), (126, .iconst 0, 1), (127, .istore 7, 2), (129, .iload 6, 2), (131, .iload 7, 2), (133, .if_icmp .eq (16), 3), (136, .iload 6, 2), (138, .iload 7, 2), (140, .if_icmp .le (7), 3), (143, .iconst 1, 1), (144, .goto (4), 3), (147, .iconst 0, 1), (148, .ireturn, 1), (149, .iinc 5 (1), 3), (152, .goto (-92), 3), (155, .iconst 0, 1), (156, .ireturn, 1)]
-- 112: TagCoderModel.order(IZ)V
def xm_i112 : List (Nat × ClassFile.Instr × Nat) := [(0, .iload_n 1, 1), (1, .iconst 1, 1), (2, .iadd, 1), (3, .istore_n 3, 1), (4, .iload_n 3, 1), (5, .aload_n 0, 1), (6, .getfield 183, 3), (9, .if_icmp .ge (146), 3), (12, .iload_n 3, 1), (13, .istore 4, 2), (15, .iload 4, 2), (17, .iload_n 1, 1), (18, .if_icmp .le (131), 3), (21, .aload_n 0, 1), (22, .iload 4, 2), (24, .iconst 1, 1), (25, .isub, 1), (26, .iload 4, 2), (28, .iload_n 2, 1), (29, .invokevirtual 197, 3), (32, .ifCond .eq (117), 3), (35, .aload_n 0, 1), (36, .getfield 87, 3), (39, .iload 4, 2), (41, .iaload, 1), (42, .istore 5, 2), (44, .aload_n 0, 1), (45, .getfield 90, 3), (48, .iload 4, 2), (50, .iaload, 1), (51, .istore 6, 2), (53, .aload_n 0, 1), (54, .getfield 93, 3), (57, .iload 4, 2), (59, .iaload, 1), (60, .istore 7, 2), (62, .aload_n 0, 1), (63, .getfield 87, 3), (66, .iload 4, 2), (68, .aload_n 0, 1), (69, .getfield 87, 3), (72, .iload 4, 2), (74, .iconst 1, 1), (75, .isub, 1), (76, .iaload, 1), (77, .iastore, 1), (78, .aload_n 0, 1), (79, .getfield 90, 3), (82, .iload 4, 2), (84, .aload_n 0, 1), (85, .getfield 90, 3), (88, .iload 4, 2), (90, .iconst 1, 1), (91, .isub, 1), (92, .iaload, 1), (93, .iastore, 1), (94, .aload_n 0, 1), (95, .getfield 93, 3), (98, .iload 4, 2), (100, .aload_n 0, 1), (101, .getfield 93, 3), (104, .iload 4, 2), (106, .iconst 1, 1), (107, .isub, 1), (108, .iaload, 1), (109, .iastore, 1), (110, .aload_n 0, 1), (111, .getfield 87, 3), (114, .iload 4, 2), (116, .iconst 1, 1), (117, .isub, 1), (118, .iload 5, 2), (120, .iastore, 1), (121, .aload_n 0, 1), (122, .getfield 90, 3), (125, .iload 4, 2), (127, .iconst 1, 1), (128, .isub, 1), (129, .iload 6, 2), (131, .iastore, 1), (132, .aload_n 0, 1), (133, .getfield 93, 3), (136, .iload 4, 2), (138, .iconst 1, 1), (139, .isub, 1), (140, .iload 7, 2), (142, .iastore, 1), (143, .iinc 4 (-1), 3), (146, .goto (-131), 3), (149, .iinc 3 (1), 3), (152, .goto (-148), 3), (155, .return_, 1)]
-- 113: TagCoderModel.numberBody(IJ)V
def xm_i113 : List (Nat × ClassFile.Instr × Nat) := [(0, .aload_n 0, 1), (1, .iconst 0, 1), (2, .putfield 186, 3), (5, .iload_n 1, 1), (6, .iconst 1, 1), (7, .if_icmp .ne (28), 3), (10, .aload_n 0, 1), (11, .getfield 57, 3), (14, .iconst 0, 1), (15, .lload_n 2, 1), (16, .lconst 0, 1), (17, .lcmp, 1), (18, .ifCond .ne (7), 3), (21, .iconst 0, 1), (22, .goto (6), 3), (25, .sipush (255), 3), (28, .iastore, 1), (29, .aload_n 0, 1), (30, .iconst 1, 1), (31, .putfield 186, 3), (34, .return_, 1), (35, .bipush (8), 2), (37, .istore 4, 2), (39, .iload 4, 2), (41, .iconst 1, 1), (42, .if_icmp .le (27), 3), (45, .lload_n 2, 1), (46, .bipush (8), 2), (48, .iload 4, 2), (50, .imul, 1), (51, .bipush (9), 2), (53, .isub, 1), (54, .lshr, 1), (55, .lload_n 2, 1), (56, .bipush (63), 2), (58, .lshr, 1), (59, .lcmp, 1), (60, .ifCond .ne (9), 3), (63, .iinc 4 (-1), 3), (66, .goto (-27), 3), (69, .iload 4, 2), (71, .iconst 1, 1), (72, .isub, 1), (73, .istore 5, 2), (75, .iload 5, 2), (77, .ifCond .lt (40), 3), (80, .aload_n 0, 1), (81, .getfield 57, 3), (84, .aload_n 0, 1), (85, .getfield 186, 3), (88, .lload_n 2, 1), (89, .bipush (8), 2), (91, .iload 5, 2), (93, .imul, 1), (94, .lshr, 1), (95, .l2i, 1), (96, .sipush (255), 3), (99, .iand, 1), (100, .iastore, 1), (101, .aload_n 0, 1), (102, .dup, 1), (103, .getfield 186, 3), (106, .iconst 1, 1), (107, .iadd, 1), (108, .putfield 186, 3), (111, .iinc 5 (-1), 3), (114, .goto (-39), 3), (117, .return_, 1)]
-- 114: TagCoderModel.isUsual(IJ)Z
def xm_i114 : List (Nat × ClassFile.Instr × Nat) := [(0, .iload_n 1, 1), (1, .istore 4, 2), (3, .iconst 0, 1), (4, .istore 5, 2), (6, .iconst (-1), 1), (7, .istore 6, 2), (9, .aload_n 0, 1), (10, .getfield 7, 3), (13, .iload 4, 2), (15, .iaload, 1), (16, .iconst 1, 1), (17, .if_icmp .eq (14), 3), (20, .aload_n 0, 1), (21, .getfield 7, 3), (24, .iload 4, 2), (26, .iaload, 1), (27, .iconst 2, 1), (28, .if_icmp .ne (64), 3), (31, .iload 6, 2), (33, .ifCond .ge (13), 3), (36, .aload_n 0, 1), (37, .getfield 13, 3), (40, .iload 4, 2), (42, .iaload, 1), (43, .goto (5), 3), (46, .iload 6, 2), (48, .istore 7, 2), (50, .iload 7, 2), (52, .istore 6, 2), (54, .aload_n 0, 1), (55, .getfield 7, 3), (58, .iload 4, 2), (60, .iaload, 1), (61, .iconst 2, 1), (62, .if_icmp .ne (18), 3), (65, .aload_n 0, 1), (66, .getfield 84, 3), (69, .iload 5, 2), (71, .iload 7, 2), (73, .iastore, 1), (74, .iinc 5 (1), 3), (77, .iconst (-1), 1), (78, .istore 6, 2), (80, .aload_n 0, 1), (81, .getfield 19, 3), (84, .iload 4, 2), (86, .iaload, 1), (87, .istore 4, 2), (89, .goto (-80), 3), (92, .aload_n 0, 1), (93, .aload_n 0, 1), (94, .getfield 16, 3), (97, .iload 4, 2), (99, .iaload, 1), (100, .lload_n 2, 1), (101, .invokevirtual 201, 3), (104, .aload_n 0, 1), (105, .getfield 183, 3), (108, .istore 7, 2), (110, .aload_n 0, 1), (111, .getfield 176, 3), (114, .istore 8, 2), (116, .aload_n 0, 1), (117, .iload 6, 2), (119, .ifCond .ge (13), 3), (122, .aload_n 0, 1), (123, .getfield 13, 3), (126, .iload 4, 2), (128, .iaload, 1), (129, .goto (5), 3), (132, .iload 6, 2), (134, .invokevirtual 205, 3), (137, .iload 5, 2), (139, .iconst 1, 1), (140, .isub, 1), (141, .istore 9, 2), (143, .iload 9, 2), (145, .ifCond .lt (22), 3), (148, .aload_n 0, 1), (149, .iload 7, 2), (151, .aload_n 0, 1), (152, .getfield 84, 3), (155, .iload 9, 2), (157, .iaload, 1), (158, .invokevirtual 208, 3), (161, .iinc 9 (-1), 3), (164, .goto (-21), 3), (167, .aload_n 0, 1), (168, .getfield 90, 3), (171, .iload 7, 2), (173, .iaload, 1), (174, .aload_n 0, 1), (175, .getfield 90, 3), (178, .iload 7, 2), (180, .iconst 1, 1), (181, .isub, 1), (182, .iaload, 1), (183, .if_icmp .ne (7), 3), (186, .iconst 1, 1), (187, .goto (4), 3), (190, .iconst 0, 1), (191, .istore 9, 2), (193, .iconst 0, 1), (194, .istore 10, 2), (196, .iload 10, 2), (198, .aload_n 0, 1), (199, .getfield 90, 3), (202, .iload 7, 2), (204, .iaload, 1), (205, .if_icmp .ge (56), 3), (208, .iload 9, 2), (210, .ifCond .eq (51), 3), (213, .aload_n 0, 1), (214, .getfield 96, 3), (217, .aload_n 0, 1), (218, .getfield 87, 3), (221, .iload 7, 2), (223, .iaload, 1), (224, .iload 10, 2), (226, .iadd, 1), (227, .iaload, 1), (228, .aload_n 0, 1), (229, .getfield 96, 3), (232, .aload_n 0, 1), (233, .getfield 87, 3), (236, .iload 7, 2), (238, .iconst 1, 1), (239, .isub, 1), (240, .iaload, 1), (241, .iload 10, 2), (243, .iadd, 1), (244, .iaload, 1), (245, .if_icmp .ne (7), 3), (248, .iconst 1, 1), (249, .goto (4), 3), (252, .iconst 0, 1), (253, .istore 9, 2), (255, .iinc 10 (1), 3), (258, .goto (-62), 3), (261, .aload_n 0, 1), (262, .iload 7, 2), (264, .putfield 183, 3), (267, .aload_n 0, 1), (268, .iload 8, 2), (270, .putfield 176, 3), (273, .iload 9, 2), (275, .ireturn, 1)]
-- 115: TagCoderModel.take(I)V
def xm_i115 : List (Nat × ClassFile.Instr × Nat) := [(0, .aload_n 0, 1), (1, .getfield 148, 3), (4, .iload_n 1, 1), (5, .if_icmp .ge (29), 3), (8, .aload_n 0, 1), (9, .getfield 57, 3), (12, .aload_n 0, 1), (13, .getfield 186, 3), (16, .aload_n 0, 1), (17, .invokevirtual 158, 3), (20, .iastore, 1), (21, .aload_n 0, 1), (22, .dup, 1), (23, .getfield 186, 3), (26, .iconst 1, 1), (27, .iadd, 1), (28, .putfield 186, 3), (31, .goto (-31), 3), (34, .return_, 1)]
-- 116: TagCoderModel.takeBits(Z)Z
def xm_i116 : List (Nat × ClassFile.Instr × Nat) := [(0, .aload_n 0, 1), (1, .getfield 171, 3), (4, .aload_n 0, 1), (5, .getfield 148, 3), (8, .isub, 1), (9, .istore_n 2, 1), (10, .iload_n 2, 1), (11, .ifCond .le (10), 3), (14, .aload_n 0, 1), (15, .invokevirtual 158, 3), (18, .goto (5), 3), (21, .bipush (8), 2), (23, .istore_n 3, 1), (24, .aload_n 0, 1), (25, .aload_n 0, 1), (26, .getfield 154, 3), (29, .ifCond .ne (22), 3), (32, .iload_n 1, 1), (33, .ifCond .ne (18), 3), (36, .iload_n 3, 1), (37, .bipush (7), 2), (39, .if_icmp .gt (12), 3), (42, .iload_n 2, 1), (43, .iconst 1, 1), (44, .if_icmp .ne (11), 3), (47, .iload_n 3, 1), (48, .ifCond .le (7), 3), (51, .iconst 1, 1), (52, .goto (4), 3), (55, .iconst 0, 1), (56, .putfield 154, 3), (59, .aload_n 0, 1), (60, .aload_n 0, 1), (61, .getfield 154, 3), (64, .ifCond .eq (10), 3), (67, .aload_n 0, 1), (68, .getfield 148, 3), (71, .goto (7), 3), (74, .aload_n 0, 1), (75, .getfield 171, 3), (78, .invokevirtual 211, 3), (81, .aload_n 0, 1), (82, .getfield 57, 3), (85, .iconst 0, 1), (86, .iload_n 3, 1), (87, .iastore, 1), (88, .iload_n 3, 1), (89, .ifCond .le (7), 3), (92, .iconst 1, 1), (93, .goto (4), 3), (96, .iconst 0, 1), (97, .ireturn, 1)]
-- 117: TagCoderModel.string(Z)V
def xm_i117 : List (Nat × ClassFile.Instr × Nat) := [(0, .iconst 0, 1), (1, .istore_n 2, 1), (2, .iconst 0, 1), (3, .istore_n 3, 1), (4, .iconst 1, 1), (5, .istore 4, 2), (7, .iload 4, 2), (9, .ifCond .eq (245), 3), (12, .aload_n 0, 1), (13, .getfield 154, 3), (16, .ifCond .ne (238), 3), (19, .aload_n 0, 1), (20, .getfield 162, 3), (23, .ifCond .eq (72), 3), (26, .aload_n 0, 1), (27, .iload_n 2, 1), (28, .iconst 4, 1), (29, .if_icmp .ne (7), 3), (32, .iconst 1, 1), (33, .goto (4), 3), (36, .iconst 0, 1), (37, .putfield 154, 3), (40, .aload_n 0, 1), (41, .getfield 99, 3), (44, .iload_n 2, 1), (45, .aload_n 0, 1), (46, .getfield 171, 3), (49, .iastore, 1), (50, .aload_n 0, 1), (51, .getfield 102, 3), (54, .iload_n 2, 1), (55, .aload_n 0, 1), (56, .getfield 151, 3), (59, .iastore, 1), (60, .aload_n 0, 1), (61, .getfield 105, 3), (64, .iload_n 2, 1), (65, .iconst 0, 1), (66, .iastore, 1), (67, .aload_n 0, 1), (68, .aload_n 0, 1), (69, .getfield 171, 3), (72, .ifCond .lt (10), 3), (75, .aload_n 0, 1), (76, .getfield 171, 3), (79, .goto (7), 3), (82, .aload_n 0, 1), (83, .getfield 151, 3), (86, .putfield 151, 3), (89, .iinc 2 (1), 3), (92, .goto (24), 3), (95, .iload_n 1, 1), (96, .ifCond .eq (12), 3), (99, .aload_n 0, 1), (100, .iload_n 3, 1), (101, .invokevirtual 214, 3), (104, .istore_n 3, 1), (105, .goto (11), 3), (108, .aload_n 0, 1), (109, .aload_n 0, 1), (110, .getfield 171, 3), (113, .invokevirtual 211, 3), (116, .iload_n 2, 1), (117, .ifCond .le (86), 3), (120, .aload_n 0, 1), (121, .getfield 154, 3), (124, .ifCond .ne (79), 3), (127, .aload_n 0, 1), (128, .aload_n 0, 1), (129, .getfield 99, 3), (132, .iload_n 2, 1), (133, .iconst 1, 1), (134, .isub, 1), (135, .iaload, 1), (136, .invokevirtual 218, 3), (139, .ifCond .ne (64), 3), (142, .iinc 2 (-1), 3), (145, .aload_n 0, 1), (146, .iload_n 1, 1), (147, .ifCond .eq (16), 3), (150, .aload_n 0, 1), (151, .getfield 105, 3), (154, .iload_n 2, 1), (155, .iaload, 1), (156, .ifCond .ne (7), 3), (159, .iconst 1, 1), (160, .goto (4), 3), (163, .iconst 0, 1), (164, .putfield 154, 3), (167, .aload_n 0, 1), (168, .dup, 1), (169, .getfield 148, 3), (172, .aload_n 0, 1), (173, .getfield 99, 3), (176, .iload_n 2, 1), (177, .iaload, 1), (178, .ifCond .ge (7), 3), (181, .iconst 2, 1), (182, .goto (4), 3), (185, .iconst 0, 1), (186, .iadd, 1), (187, .putfield 148, 3), (190, .aload_n 0, 1), (191, .aload_n 0, 1), (192, .getfield 102, 3), (195, .iload_n 2, 1), (196, .iaload, 1), (197, .putfield 151, 3), (200, .goto (-84), 3), (203, .iload_n 2, 1), (204, .ifCond .le (7), 3), (207, .iconst 1, 1), (208, .goto (4), 3), (211, .iconst 0, 1), (212, .istore 4, 2), (214, .iload 4, 2), (216, .ifCond .eq (-209), 3), (219, .aload_n 0, 1), (220, .getfield 154, 3), (223, .ifCond .ne (-216), 3), (226, .aload_n 0, 1), (227, .iload_n 1, 1), (228, .ifCond .eq (7), 3), (231, .iconst 3, 1), (232, .goto (4), 3), (235, .iconst 4, 1), (236, .invokevirtual 221, 3), (239, .aload_n 0, 1), (240, .getfield 105, 3), (243, .iload_n 2, 1), (244, .iconst 1, 1), (245, .isub, 1), (246, .dup2, 1), (247, .iaload, 1), (248, .iconst 1, 1), (249, .iadd, 1), (250, .iastore, 1), (251, .goto (-244), 3), (254, .return_, 1)]
-- 118: TagCoderModel.isNumber(I)Z
def xm_i118 : List (Nat × ClassFile.Instr × Nat) := [(0, .aload_n 0, 1), (1, .getfield 186, 3), (4, .ifCond .eq (55), 3), (7, .aload_n 0, 1), (8, .getfield 186, 3), (11, .iconst 1, 1), (12, .if_icmp .le (49), 3), (15, .aload_n 0, 1), (16, .getfield 57, 3), (19, .iconst 0, 1), (20, .iaload, 1), (21, .ifCond .ne (15), 3), (24, .aload_n 0, 1), (25, .getfield 57, 3), (28, .iconst 1, 1), (29, .iaload, 1), (30, .sipush (128), 3), (33, .if_icmp .lt (26), 3), (36, .aload_n 0, 1), (37, .getfield 57, 3), (40, .iconst 0, 1), (41, .iaload, 1), (42, .sipush (255), 3), (45, .if_icmp .ne (16), 3), (48, .aload_n 0, 1), (49, .getfield 57, 3), (52, .iconst 1, 1), (53, .iaload, 1), (54, .bipush (127), 2), (56, .if_icmp .le (5), 3), (59, .iconst 0, 1), (60, .ireturn, 1), (61, .aload_n 0, 1), (62, .getfield 22, 3), (65, .iload_n 1, 1), (66, .baload, 1), (67, .ifCond .ne (5), 3), (70, .iconst 1, 1), (71, .ireturn, 1), (72, .aload_n 0, 1), (73, .getfield 186, 3), (76, .bipush (8), 2), (78, .if_icmp .le (5), 3), (81, .iconst 0, 1), (82, .ireturn, 1), (83, .aload_n 0, 1), (84, .getfield 57, 3), (87, .iconst 0, 1), (88, .iaload, 1), (89, .bipush (127), 2), (91, .if_icmp .le (9), 3), (94, .ldc2_w 224, 3), (97, .goto (4), 3), (100, .lconst 0, 1), (101, .lstore_n 2, 1), (102, .iconst 0, 1), (103, .istore 4, 2), (105, .iload 4, 2), (107, .aload_n 0, 1), (108, .getfield 186, 3), (111, .if_icmp .ge (23), 3), (114, .lload_n 2, 1), (115, .bipush (8), 2), (117, .lshl, 1), (118, .aload_n 0, 1), (119, .getfield 57, 3), (122, .iload 4, 2), (124, .iaload, 1), (125, .i2l, 1), (126, .lor, 1), (127, .lstore_n 2, 1), (128, .iinc 4 (1), 3), (131, .goto (-26), 3), (134, .lload_n 2, 1), (135, .aload_n 0, 1), (136, .getfield 26, 3), (139, .iload_n 1, 1), (140, .laload, 1), (141, .lcmp, 1), (142, .ifCond .lt (18), 3), (145, .lload_n 2, 1), (146, .aload_n 0, 1), (147, .getfield 30, 3), (150, .iload_n 1, 1), (151, .laload, 1), (152, .lcmp, 1), (153, .ifCond .gt (7), 3), (156, .iconst 1, 1), (157, .goto (4), 3), (160, .iconst 0, 1), (161, .ireturn, 1)]
-- 119: TagCoderModel.isIdentifier()Z
def xm_i119 : List (Nat × ClassFile.Instr × Nat) := [(0, .aload_n 0, 1), (1, .getfield 186, 3), (4, .ifCond .le (24), 3), (7, .aload_n 0, 1), (8, .getfield 57, 3), (11, .aload_n 0, 1), (12, .getfield 186, 3), (15, .iconst 1, 1), (16, .isub, 1), (17, .iaload, 1), (18, .sipush (128), 3), (21, .if_icmp .ge (7), 3), (24, .iconst 1, 1), (25, .goto (4), 3), (28, .iconst 0, 1), (29, .istore_n 1, 1), (30, .iconst 0, 1), (31, .istore_n 2, 1), (32, .iload_n 2, 1), (33, .aload_n 0, 1), (34, .getfield 186, 3), (37, .if_icmp .ge (59), 3), (40, .iload_n 2, 1), (41, .ifCond .eq (17), 3), (44, .aload_n 0, 1), (45, .getfield 57, 3), (48, .iload_n 2, 1), (49, .iconst 1, 1), (50, .isub, 1), (51, .iaload, 1), (52, .sipush (128), 3), (55, .if_icmp .ge (7), 3), (58, .iconst 1, 1), (59, .goto (4), 3), (62, .iconst 0, 1), (63, .istore_n 3, 1), (64, .iload_n 1, 1), (65, .ifCond .eq (23), 3), (68, .iload_n 3, 1), (69, .ifCond .eq (15), 3), (72, .aload_n 0, 1), (73, .getfield 57, 3), (76, .iload_n 2, 1), (77, .iaload, 1), (78, .sipush (128), 3), (81, .if_icmp .eq (7), 3), (84, .iconst 1, 1), (85, .goto (4), 3), (88, .iconst 0, 1), (89, .istore_n 1, 1), (90, .iinc 2 (1), 3), (93, .goto (-61), 3), (96, .iload_n 1, 1), (97, .ireturn, 1)]
-- 120: TagCoderModel.characters(I)I
def xm_i120 : List (Nat × ClassFile.Instr × Nat) := [(0, .iload_n 1, 1), (1, .iconst 4, 1), (2, .if_icmp .ne (8), 3), (5, .aload_n 0, 1), (6, .getfield 186, 3), (9, .ireturn, 1), (10, .iconst 0, 1), (11, .istore_n 2, 1), (12, .iconst 0, 1), (13, .istore_n 3, 1), (14, .iload_n 3, 1), (15, .aload_n 0, 1), (16, .getfield 186, 3), (19, .if_icmp .ge (326), 3), (22, .aload_n 0, 1), (23, .getfield 57, 3), (26, .iload_n 3, 1), (27, .iaload, 1), (28, .istore 4, 2), (30, .iload 4, 2), (32, .sipush (128), 3), (35, .if_icmp .ge (7), 3), (38, .iconst 0, 1), (39, .goto (64), 3), (42, .iload 4, 2), (44, .sipush (192), 3), (47, .if_icmp .lt (15), 3), (50, .iload 4, 2), (52, .sipush (224), 3), (55, .if_icmp .ge (7), 3), (58, .iconst 1, 1), (59, .goto (44), 3), (62, .iload 4, 2), (64, .sipush (224), 3), (67, .if_icmp .lt (15), 3), (70, .iload 4, 2), (72, .sipush (240), 3), (75, .if_icmp .ge (7), 3), (78, .iconst 2, 1), (79, .goto (24), 3), (82, .iload 4, 2), (84, .sipush (240), 3), (87, .if_icmp .lt (15), 3), (90, .iload 4, 2), (92, .sipush (248), 3), (95, .if_icmp .ge (7), 3), (98, .iconst 3, 1), (99, .goto (4), 3), (102, .iconst (-1), 1), (103, .istore 5, 2), (105, .iload_n 1, 1), (106, .bipush (22), 2), (108, .if_icmp .ne (8), 3), (111, .iload 5, 2), (113, .ifCond .ne (19), 3), (116, .iload 5, 2), (118, .ifCond .lt (14), 3), (121, .iload_n 3, 1), (122, .iload 5, 2), (124, .iadd, 1), (125, .aload_n 0, 1), (126, .getfield 186, 3), (129, .if_icmp .lt (5), 3), (132, .iconst (-1), 1), (133, .ireturn, 1), (134, .iload 5, 2), (136, .ifCond .ne (8), 3), (139, .iload 4, 2), (141, .goto (39), 3), (144, .iload 5, 2), (146, .iconst 1, 1), (147, .if_icmp .ne (12), 3), (150, .iload 4, 2), (152, .sipush (192), 3), (155, .isub, 1), (156, .goto (24), 3), (159, .iload 5, 2), (161, .iconst 2, 1), (162, .if_icmp .ne (12), 3), (165, .iload 4, 2), (167, .sipush (224), 3), (170, .isub, 1), (171, .goto (9), 3), (174, .iload 4, 2), (176, .sipush (240), 3), (179, .isub, 1), (180, .istore 6, 2), (182, .iconst 1, 1), (183, .istore 7, 2), (185, .iload 7, 2), (187, .iload 5, 2), (189, .if_icmp .gt (62), 3), (192, .aload_n 0, 1), (193, .getfield 57, 3), (196, .iload_n 3, 1), (197, .iload 7, 2), (199, .iadd, 1), (200, .iaload, 1), (201, .sipush (128), 3), (204, .if_icmp .lt (18), 3), (207, .aload_n 0, 1), (208, .getfield 57, 3), (211, .iload_n 3, 1), (212, .iload 7, 2), (214, .iadd, 1), (215, .iaload, 1), (216, .sipush (191), 3), (219, .if_icmp .le (5), 3), (222, .iconst (-1), 1), (223, .ireturn, 1), (224, .bipush (64), 2), (226, .iload 6, 2), (228, .imul, 1), (229, .aload_n 0, 1), (230, .getfield 57, 3), (233, .iload_n 3, 1), (234, .iload 7, 2), (236, .iadd, 1), (237, .iaload, 1), (238, .iadd, 1), (239, .sipush (128), 3), (242, .isub, 1), (243, .istore 6, 2), (245, .iinc 7 (1), 3), (248, .goto (-63), 3), (251, .iload 5, 2), (253, .ifCond .eq (44), 3), (256, .iload 5, 2), (258, .iconst 1, 1), (259, .if_icmp .ne (11), 3), (262, .iload 6, 2), (264, .sipush (128), 3), (267, .if_icmp .ge (30), 3), (270, .iload 5, 2), (272, .iconst 2, 1), (273, .if_icmp .ne (11), 3), (276, .iload 6, 2), (278, .sipush (2048), 3), (281, .if_icmp .ge (16), 3), (284, .iload 5, 2), (286, .iconst 3, 1), (287, .if_icmp .ne (14), 3), (290, .iload 6, 2), (292, .ldc 226, 2), (294, .if_icmp .lt (7), 3), (297, .iconst 1, 1), (298, .goto (4), 3), (301, .iconst 0, 1), (302, .istore 7, 2), (304, .iload 7, 2), (306, .ifCond .eq (24), 3), (309, .iload 6, 2), (311, .ldc 227, 2), (313, .if_icmp .gt (17), 3), (316, .iload 6, 2), (318, .ldc 228, 2), (320, .if_icmp .lt (12), 3), (323, .iload 6, 2), (325, .ldc 229, 2), (327, .if_icmp .gt (5), 3), (330, .iconst (-1), 1), (331, .ireturn, 1), (332, .iinc 2 (1), 3), (335, .iload_n 3, 1), (336, .iload 5, 2), (338, .iconst 1, 1), (339, .iadd, 1), (340, .iadd, 1), (341, .istore_n 3, 1), (342, .goto (-328), 3), (345, .iload_n 2, 1), (346, .ireturn, 1)]
-- 121: TagCoderModel.simple(II)V
def xm_i121 : List (Nat × ClassFile.Instr × Nat) := [(0, .aload_n 0, 1), (1, .getfield 16, 3), (4, .iload_n 1, 1), (5, .iaload, 1), (6, .istore_n 3, 1), (7, .aload_n 0, 1), (8, .iload_n 2, 1), (9, .invokevirtual 221, 3), (12, .aload_n 0, 1), (13, .iconst 0, 1), (14, .putfield 186, 3), (17, .aload_n 0, 1), (18, .getfield 154, 3), (21, .ifCond .eq (4), 3), (24, .return_, 1), (25, .iload_n 3, 1), (26, .iconst 3, 1), (27, .if_icmp .ne (74), 3), (30, .aload_n 0, 1), (31, .getfield 57, 3), (34, .iconst 0, 1), (35, .iconst 0, 1), (36, .iastore, 1), (37, .aload_n 0, 1), (38, .iconst 1, 1), (39, .putfield 186, 3), (42, .aload_n 0, 1), (43, .iconst 1, 1), (44, .invokevirtual 230, 3), (47, .aload_n 0, 1), (48, .getfield 186, 3), (51, .iconst 1, 1), (52, .if_icmp .le (267), 3), (55, .aload_n 0, 1), (56, .getfield 154, 3), (59, .ifCond .ne (260), 3), (62, .aload_n 0, 1), (63, .getfield 57, 3), (66, .aload_n 0, 1), (67, .getfield 186, 3), (70, .iconst 1, 1), (71, .isub, 1), (72, .aload_n 0, 1), (73, .getfield 57, 3), (76, .aload_n 0, 1), (77, .getfield 186, 3), (80, .iconst 1, 1), (81, .isub, 1), (82, .iaload, 1), (83, .aload_n 0, 1), (84, .getfield 57, 3), (87, .iconst 0, 1), (88, .iaload, 1), (89, .ishr, 1), (90, .aload_n 0, 1), (91, .getfield 57, 3), (94, .iconst 0, 1), (95, .iaload, 1), (96, .ishl, 1), (97, .iastore, 1), (98, .goto (221), 3), (101, .iload_n 3, 1), (102, .iconst 4, 1), (103, .if_icmp .eq (15), 3), (106, .iload_n 3, 1), (107, .bipush (12), 2), (109, .if_icmp .eq (9), 3), (112, .iload_n 3, 1), (113, .bipush (22), 2), (115, .if_icmp .ne (78), 3), (118, .aload_n 0, 1), (119, .iconst 0, 1), (120, .invokevirtual 230, 3), (123, .aload_n 0, 1), (124, .getfield 154, 3), (127, .ifCond .eq (7), 3), (130, .iconst (-1), 1), (131, .goto (8), 3), (134, .aload_n 0, 1), (135, .iload_n 3, 1), (136, .invokevirtual 234, 3), (139, .istore 4, 2), (141, .aload_n 0, 1), (142, .iload 4, 2), (144, .ifCond .lt (38), 3), (147, .aload_n 0, 1), (148, .getfield 22, 3), (151, .iload_n 1, 1), (152, .baload, 1), (153, .ifCond .eq (33), 3), (156, .iload 4, 2), (158, .i2l, 1), (159, .aload_n 0, 1), (160, .getfield 26, 3), (163, .iload_n 1, 1), (164, .laload, 1), (165, .lcmp, 1), (166, .ifCond .lt (16), 3), (169, .iload 4, 2), (171, .i2l, 1), (172, .aload_n 0, 1), (173, .getfield 30, 3), (176, .iload_n 1, 1), (177, .laload, 1), (178, .lcmp, 1), (179, .ifCond .le (7), 3), (182, .iconst 1, 1), (183, .goto (4), 3), (186, .iconst 0, 1), (187, .putfield 154, 3), (190, .goto (129), 3), (193, .aload_n 0, 1), (194, .aload_n 0, 1), (195, .getfield 162, 3), (198, .putfield 154, 3), (201, .aload_n 0, 1), (202, .getfield 154, 3), (205, .ifCond .ne (11), 3), (208, .aload_n 0, 1), (209, .aload_n 0, 1), (210, .getfield 171, 3), (213, .invokevirtual 211, 3), (216, .aload_n 0, 1), (217, .aload_n 0, 1), (218, .getfield 154, 3), (221, .ifCond .ne (58), 3), (224, .iload_n 3, 1), (225, .iconst 1, 1), (226, .if_icmp .ne (14), 3), (229, .aload_n 0, 1), (230, .getfield 186, 3), (233, .iconst 1, 1), (234, .if_icmp .eq (49), 3), (237, .goto (42), 3), (240, .iload_n 3, 1), (241, .iconst 2, 1), (242, .if_icmp .ne (14), 3), (245, .aload_n 0, 1), (246, .iload_n 1, 1), (247, .invokevirtual 238, 3), (250, .ifCond .ne (33), 3), (253, .goto (26), 3), (256, .iload_n 3, 1), (257, .bipush (6), 2), (259, .if_icmp .ne (13), 3), (262, .aload_n 0, 1), (263, .invokevirtual 241, 3), (266, .ifCond .ne (17), 3), (269, .goto (10), 3), (272, .aload_n 0, 1), (273, .getfield 186, 3), (276, .ifCond .le (7), 3), (279, .iconst 1, 1), (280, .goto (4), 3), (283, .iconst 0, 1), (284, .putfield 154, 3), (287, .aload_n 0, 1), (288, .getfield 57, 3), (291, .iconst 0, 1), (292, .iload_n 3, 1), (293, .iconst 1, 1), (294, .if_icmp .ne (18), 3), (297, .aload_n 0, 1), (298, .getfield 57, 3), (301, .iconst 0, 1), (302, .iaload, 1), (303, .ifCond .le (9), 3), (306, .sipush (255), 3), (309, .goto (9), 3), (312, .aload_n 0, 1), (313, .getfield 57, 3), (316, .iconst 0, 1), (317, .iaload, 1), (318, .iastore, 1), (319, .aload_n 0, 1), (320, .getfield 154, 3), (323, .ifCond .ne (8), 3), (326, .aload_n 0, 1), (327, .iload_n 2, 1), (328, .invokevirtual 205, 3), (331, .return_, 1)]
-- 122: TagCoderModel.push(III)V
def xm_i122 : List (Nat × ClassFile.Instr × Nat) := [(0, .aload_n 0, 1), (1, .iload_n 3, 1), (2, .invokevirtual 221, 3), (5, .aload_n 0, 1), (6, .aload_n 0, 1), (7, .getfield 154, 3), (10, .ifCond .ne (10), 3), (13, .aload_n 0, 1), (14, .getfield 162, 3), (17, .ifCond .ne (7), 3), (20, .iconst 1, 1), (21, .goto (4), 3), (24, .iconst 0, 1), (25, .putfield 154, 3), (28, .aload_n 0, 1), (29, .getfield 60, 3), (32, .aload_n 0, 1), (33, .getfield 244, 3), (36, .iload_n 1, 1), (37, .iastore, 1), (38, .aload_n 0, 1), (39, .getfield 63, 3), (42, .aload_n 0, 1), (43, .getfield 244, 3), (46, .iload_n 2, 1), (47, .iastore, 1), (48, .aload_n 0, 1), (49, .getfield 66, 3), (52, .aload_n 0, 1), (53, .getfield 244, 3), (56, .iload_n 3, 1), (57, .iastore, 1), (58, .aload_n 0, 1), (59, .getfield 69, 3), (62, .aload_n 0, 1), (63, .getfield 244, 3), (66, .aload_n 0, 1), (67, .getfield 171, 3), (70, .iastore, 1), (71, .aload_n 0, 1), (72, .getfield 72, 3), (75, .aload_n 0, 1), (76, .getfield 244, 3), (79, .aload_n 0, 1), (80, .getfield 151, 3), (83, .iastore, 1), (84, .aload_n 0, 1), (85, .getfield 75, 3), (88, .aload_n 0, 1), (89, .getfield 244, 3), (92, .aload_n 0, 1), (93, .getfield 183, 3), (96, .iastore, 1), (97, .aload_n 0, 1), (98, .getfield 78, 3), (101, .aload_n 0, 1), (102, .getfield 244, 3), (105, .iconst 0, 1), (106, .iastore, 1), (107, .aload_n 0, 1), (108, .getfield 81, 3), (111, .aload_n 0, 1), (112, .getfield 244, 3), (115, .iconst (-1), 1), (116, .iastore, 1), (117, .aload_n 0, 1), (118, .aload_n 0, 1), (119, .getfield 171, 3), (122, .ifCond .lt (10), 3), (125, .aload_n 0, 1), (126, .getfield 171, 3), (129, .goto (7), 3), (132, .aload_n 0, 1), (133, .getfield 151, 3), (136, .putfield 151, 3), (139, .aload_n 0, 1), (140, .dup, 1), (141, .getfield 244, 3), (144, .iconst 1, 1), (145, .iadd, 1), (146, .putfield 244, 3), (149, .return_, 1)]
-- 123: TagCoderModel.begin(I)V
def xm_i123 : List (Nat × ClassFile.Instr × Nat) := [(0, .iload_n 1, 1), (1, .istore_n 2, 1), (2, .iconst (-1), 1), (3, .istore_n 3, 1), (4, .iconst 1, 1), (5, .istore 4, 2), (7, .iload 4, 2), (9, .ifCond .eq (99), 3), (12, .iconst 0, 1), (13, .istore 4, 2), (15, .aload_n 0, 1), (16, .getfield 7, 3), (19, .iload_n 2, 1), (20, .iaload, 1), (21, .iconst 1, 1), (22, .if_icmp .ne (31), 3), (25, .iload_n 3, 1), (26, .ifCond .ge (12), 3), (29, .aload_n 0, 1), (30, .getfield 13, 3), (33, .iload_n 2, 1), (34, .iaload, 1), (35, .goto (4), 3), (38, .iload_n 3, 1), (39, .istore_n 3, 1), (40, .aload_n 0, 1), (41, .getfield 19, 3), (44, .iload_n 2, 1), (45, .iaload, 1), (46, .istore_n 2, 1), (47, .iconst 1, 1), (48, .istore 4, 2), (50, .goto (-43), 3), (53, .aload_n 0, 1), (54, .iload_n 2, 1), (55, .invokevirtual 123, 3), (58, .ifCond .eq (-51), 3), (61, .aload_n 0, 1), (62, .iload_n 2, 1), (63, .aload_n 0, 1), (64, .invokevirtual 247, 3), (67, .invokevirtual 250, 3), (70, .istore_n 2, 1), (71, .aload_n 0, 1), (72, .aload_n 0, 1), (73, .getfield 154, 3), (76, .ifCond .ne (7), 3), (79, .iload_n 2, 1), (80, .ifCond .ge (7), 3), (83, .iconst 1, 1), (84, .goto (4), 3), (87, .iconst 0, 1), (88, .putfield 154, 3), (91, .aload_n 0, 1), (92, .getfield 154, 3), (95, .ifCond .ne (7), 3), (98, .iconst 1, 1), (99, .goto (4), 3), (102, .iconst 0, 1), (103, .istore 4, 2), (105, .goto (-98), 3), (108, .aload_n 0, 1), (109, .getfield 154, 3), (112, .ifCond .eq (4), 3), (115, .return_, 1), (116, .iload_n 3, 1), (117, .ifCond .ge (12), 3), (120, .aload_n 0, 1), (121, .getfield 13, 3), (124, .iload_n 2, 1), (125, .iaload, 1), (126, .goto (4), 3), (129, .iload_n 3, 1), (130, .istore 5, 2), (132, .aload_n 0, 1), (133, .getfield 7, 3), (136, .iload_n 2, 1), (137, .iaload, 1), (138, .ifCond .ne (13), 3), (141, .aload_n 0, 1), (142, .iload_n 2, 1), (143, .iload 5, 2), (145, .invokevirtual 254, 3), (148, .goto (16), 3), (151, .aload_n 0, 1), (152, .aload_n 0, 1), (153, .getfield 7, 3), (156, .iload_n 2, 1), (157, .iaload, 1), (158, .iload_n 2, 1), (159, .iload 5, 2), (161, .invokevirtual 257, 3), (164, .return_, 1)]
-- 124: TagCoderModel.alternative(II)I
def xm_i124 : List (Nat × ClassFile.Instr × Nat) := [(0, .iconst (-1), 1), (1, .istore_n 3, 1), (2, .iconst 0, 1), (3, .istore 4, 2), (5, .iload 4, 2), (7, .aload_n 0, 1), (8, .getfield 39, 3), (11, .iload_n 1, 1), (12, .iaload, 1), (13, .if_icmp .ge (54), 3), (16, .iload_n 3, 1), (17, .ifCond .ge (42), 3), (20, .iload_n 2, 1), (21, .ifCond .lt (38), 3), (24, .aload_n 0, 1), (25, .aload_n 0, 1), (26, .getfield 42, 3), (29, .bipush (6), 2), (31, .iload_n 1, 1), (32, .imul, 1), (33, .iload 4, 2), (35, .iadd, 1), (36, .iaload, 1), (37, .iload_n 2, 1), (38, .invokevirtual 134, 3), (41, .ifCond .eq (18), 3), (44, .aload_n 0, 1), (45, .getfield 42, 3), (48, .bipush (6), 2), (50, .iload_n 1, 1), (51, .imul, 1), (52, .iload 4, 2), (54, .iadd, 1), (55, .iaload, 1), (56, .goto (4), 3), (59, .iload_n 3, 1), (60, .istore_n 3, 1), (61, .iinc 4 (1), 3), (64, .goto (-59), 3), (67, .iload_n 3, 1), (68, .ireturn, 1)]
-- 125: TagCoderModel.finish()V
def xm_i125 : List (Nat × ClassFile.Instr × Nat) := [(0, .aload_n 0, 1), (1, .getfield 244, 3), (4, .iconst 1, 1), (5, .isub, 1), (6, .istore_n 1, 1), (7, .aload_n 0, 1), (8, .getfield 63, 3), (11, .iload_n 1, 1), (12, .iaload, 1), (13, .istore_n 2, 1), (14, .aload_n 0, 1), (15, .aload_n 0, 1), (16, .getfield 154, 3), (19, .ifCond .ne (16), 3), (22, .aload_n 0, 1), (23, .aload_n 0, 1), (24, .getfield 69, 3), (27, .iload_n 1, 1), (28, .iaload, 1), (29, .invokevirtual 218, 3), (32, .ifCond .eq (7), 3), (35, .iconst 1, 1), (36, .goto (4), 3), (39, .iconst 0, 1), (40, .putfield 154, 3), (43, .aload_n 0, 1), (44, .dup, 1), (45, .getfield 148, 3), (48, .aload_n 0, 1), (49, .getfield 69, 3), (52, .iload_n 1, 1), (53, .iaload, 1), (54, .ifCond .ge (7), 3), (57, .iconst 2, 1), (58, .goto (4), 3), (61, .iconst 0, 1), (62, .iadd, 1), (63, .putfield 148, 3), (66, .aload_n 0, 1), (67, .aload_n 0, 1), (68, .getfield 72, 3), (71, .iload_n 1, 1), (72, .iaload, 1), (73, .putfield 151, 3), (76, .aload_n 0, 1), (77, .getfield 16, 3), (80, .iload_n 2, 1), (81, .iaload, 1), (82, .bipush (17), 2), (84, .if_icmp .ne (38), 3), (87, .aload_n 0, 1), (88, .getfield 7, 3), (91, .iload_n 2, 1), (92, .iaload, 1), (93, .iconst 2, 1), (94, .if_icmp .eq (28), 3), (97, .aload_n 0, 1), (98, .aload_n 0, 1), (99, .getfield 75, 3), (102, .iload_n 1, 1), (103, .iaload, 1), (104, .aload_n 0, 1), (105, .getfield 7, 3), (108, .iload_n 2, 1), (109, .iaload, 1), (110, .iconst 4, 1), (111, .if_icmp .ne (7), 3), (114, .iconst 1, 1), (115, .goto (4), 3), (118, .iconst 0, 1), (119, .invokevirtual 261, 3), (122, .aload_n 0, 1), (123, .dup, 1), (124, .getfield 244, 3), (127, .iconst 1, 1), (128, .isub, 1), (129, .putfield 244, 3), (132, .aload_n 0, 1), (133, .getfield 154, 3), (136, .ifCond .ne (19), 3), (139, .aload_n 0, 1), (140, .aload_n 0, 1), (141, .getfield 75, 3), (144, .iload_n 1, 1), (145, .iaload, 1), (146, .aload_n 0, 1), (147, .getfield 66, 3), (150, .iload_n 1, 1), (151, .iaload, 1), (152, .invokevirtual 208, 3), (155, .return_, 1)]
-- 126: TagCoderModel.goOnSequence(I)V
def xm_i126 : List (Nat × ClassFile.Instr × Nat) := [(0, .aload_n 0, 1), (1, .getfield 63, 3), (4, .iload_n 1, 1), (5, .iaload, 1), (6, .istore_n 2, 1), (7, .aload_n 0, 1), (8, .getfield 78, 3), (11, .iload_n 1, 1), (12, .iaload, 1), (13, .aload_n 0, 1), (14, .getfield 39, 3), (17, .iload_n 2, 1), (18, .iaload, 1), (19, .if_icmp .ge (108), 3), (22, .aload_n 0, 1), (23, .getfield 154, 3), (26, .ifCond .ne (101), 3), (29, .bipush (6), 2), (31, .iload_n 2, 1), (32, .imul, 1), (33, .aload_n 0, 1), (34, .getfield 78, 3), (37, .iload_n 1, 1), (38, .iaload, 1), (39, .iadd, 1), (40, .istore_n 3, 1), (41, .aload_n 0, 1), (42, .getfield 78, 3), (45, .iload_n 1, 1), (46, .dup2, 1), (47, .iaload, 1), (48, .iconst 1, 1), (49, .iadd, 1), (50, .iastore, 1), (51, .aload_n 0, 1), (52, .aload_n 0, 1), (53, .getfield 69, 3), (56, .iload_n 1, 1), (57, .iaload, 1), (58, .invokevirtual 218, 3), (61, .ifCond .eq (38), 3), (64, .aload_n 0, 1), (65, .aload_n 0, 1), (66, .getfield 42, 3), (69, .iload_n 3, 1), (70, .iaload, 1), (71, .aload_n 0, 1), (72, .invokevirtual 247, 3), (75, .invokevirtual 134, 3), (78, .ifCond .eq (21), 3), (81, .aload_n 0, 1), (82, .getfield 81, 3), (85, .iload_n 1, 1), (86, .iload_n 3, 1), (87, .iastore, 1), (88, .aload_n 0, 1), (89, .aload_n 0, 1), (90, .getfield 42, 3), (93, .iload_n 3, 1), (94, .iaload, 1), (95, .invokevirtual 265, 3), (98, .return_, 1), (99, .aload_n 0, 1), (100, .aload_n 0, 1), (101, .getfield 154, 3), (104, .ifCond .ne (12), 3), (107, .aload_n 0, 1), (108, .getfield 45, 3), (111, .iload_n 3, 1), (112, .iaload, 1), (113, .ifCond .ne (7), 3), (116, .iconst 1, 1), (117, .goto (4), 3), (120, .iconst 0, 1), (121, .putfield 154, 3), (124, .goto (-117), 3), (127, .aload_n 0, 1), (128, .invokevirtual 268, 3), (131, .return_, 1)]
-- 127: TagCoderModel.goOnSet(I)V
def xm_i127 : List (Nat × ClassFile.Instr × Nat) := [(0, .aload_n 0, 1), (1, .getfield 63, 3), (4, .iload_n 1, 1), (5, .iaload, 1), (6, .istore_n 2, 1), (7, .aload_n 0, 1), (8, .aload_n 0, 1), (9, .getfield 69, 3), (12, .iload_n 1, 1), (13, .iaload, 1), (14, .invokevirtual 218, 3), (17, .ifCond .eq (145), 3), (20, .aload_n 0, 1), (21, .invokevirtual 247, 3), (24, .istore_n 3, 1), (25, .iconst (-1), 1), (26, .istore 4, 2), (28, .iconst 0, 1), (29, .istore 5, 2), (31, .iload 5, 2), (33, .aload_n 0, 1), (34, .getfield 39, 3), (37, .iload_n 2, 1), (38, .iaload, 1), (39, .if_icmp .ge (52), 3), (42, .aload_n 0, 1), (43, .getfield 78, 3), (46, .iload_n 1, 1), (47, .iaload, 1), (48, .iload 5, 2), (50, .ishr, 1), (51, .iconst 1, 1), (52, .iand, 1), (53, .ifCond .ne (28), 3), (56, .aload_n 0, 1), (57, .aload_n 0, 1), (58, .getfield 42, 3), (61, .bipush (6), 2), (63, .iload_n 2, 1), (64, .imul, 1), (65, .iload 5, 2), (67, .iadd, 1), (68, .iaload, 1), (69, .iload_n 3, 1), (70, .invokevirtual 134, 3), (73, .ifCond .eq (8), 3), (76, .iload 5, 2), (78, .goto (5), 3), (81, .iload 4, 2), (83, .istore 4, 2), (85, .iinc 5 (1), 3), (88, .goto (-57), 3), (91, .aload_n 0, 1), (92, .aload_n 0, 1), (93, .getfield 154, 3), (96, .ifCond .ne (8), 3), (99, .iload 4, 2), (101, .ifCond .ge (7), 3), (104, .iconst 1, 1), (105, .goto (4), 3), (108, .iconst 0, 1), (109, .putfield 154, 3), (112, .aload_n 0, 1), (113, .getfield 154, 3), (116, .ifCond .ne (45), 3), (119, .aload_n 0, 1), (120, .getfield 78, 3), (123, .iload_n 1, 1), (124, .dup2, 1), (125, .iaload, 1), (126, .iconst 1, 1), (127, .iload 4, 2), (129, .ishl, 1), (130, .ior, 1), (131, .iastore, 1), (132, .aload_n 0, 1), (133, .getfield 81, 3), (136, .iload_n 1, 1), (137, .bipush (6), 2), (139, .iload_n 2, 1), (140, .imul, 1), (141, .iload 4, 2), (143, .iadd, 1), (144, .iastore, 1), (145, .aload_n 0, 1), (146, .aload_n 0, 1), (147, .getfield 42, 3), (150, .bipush (6), 2), (152, .iload_n 2, 1), (153, .imul, 1), (154, .iload 4, 2), (156, .iadd, 1), (157, .iaload, 1), (158, .invokevirtual 265, 3), (161, .return_, 1), (162, .iconst 0, 1), (163, .istore_n 3, 1), (164, .iload_n 3, 1), (165, .aload_n 0, 1), (166, .getfield 39, 3), (169, .iload_n 2, 1), (170, .iaload, 1), (171, .if_icmp .ge (52), 3), (174, .aload_n 0, 1), (175, .aload_n 0, 1), (176, .getfield 154, 3), (179, .ifCond .ne (30), 3), (182, .aload_n 0, 1), (183, .getfield 45, 3), (186, .bipush (6), 2), (188, .iload_n 2, 1), (189, .imul, 1), (190, .iload_n 3, 1), (191, .iadd, 1), (192, .iaload, 1), (193, .ifCond .ne (20), 3), (196, .aload_n 0, 1), (197, .getfield 78, 3), (200, .iload_n 1, 1), (201, .iaload, 1), (202, .iload_n 3, 1), (203, .ishr, 1), (204, .iconst 1, 1), (205, .iand, 1), (206, .ifCond .ne (7), 3), (209, .iconst 1, 1), (210, .goto (4), 3), (213, .iconst 0, 1), (214, .putfield 154, 3), (217, .iinc 3 (1), 3), (220, .goto (-56), 3), (223, .aload_n 0, 1), (224, .invokevirtual 268, 3), (227, .return_, 1)]
-- 128: TagCoderModel.goOn()V
def xm_i128 : List (Nat × ClassFile.Instr × Nat) := [(0, .aload_n 0, 1), (1, .getfield 244, 3), (4, .iconst 1, 1), (5, .isub, 1), (6, .istore_n 1, 1), (7, .aload_n 0, 1), (8, .getfield 63, 3), (11, .iload_n 1, 1), (12, .iaload, 1), (13, .istore_n 2, 1), (14, .aload_n 0, 1), (15, .getfield 81, 3), (18, .iload_n 1, 1), (19, .iaload, 1), (20, .istore_n 3, 1), (21, .iload_n 3, 1), (22, .ifCond .lt (56), 3), (25, .aload_n 0, 1), (26, .getfield 81, 3), (29, .iload_n 1, 1), (30, .iconst (-1), 1), (31, .iastore, 1), (32, .aload_n 0, 1), (33, .aload_n 0, 1), (34, .getfield 45, 3), (37, .iload_n 3, 1), (38, .iaload, 1), (39, .iconst 2, 1), (40, .if_icmp .ne (31), 3), (43, .aload_n 0, 1), (44, .aload_n 0, 1), (45, .getfield 42, 3), (48, .iload_n 3, 1), (49, .iaload, 1), (50, .aload_n 0, 1), (51, .getfield 48, 3), (54, .iload_n 3, 1), (55, .laload, 1), (56, .invokevirtual 271, 3), (59, .ifCond .eq (12), 3), (62, .aload_n 0, 1), (63, .getfield 183, 3), (66, .iconst 1, 1), (67, .isub, 1), (68, .goto (7), 3), (71, .aload_n 0, 1), (72, .getfield 183, 3), (75, .putfield 183, 3), (78, .aload_n 0, 1), (79, .getfield 60, 3), (82, .iload_n 1, 1), (83, .iaload, 1), (84, .iconst 2, 1), (85, .if_icmp .ne (40), 3), (88, .aload_n 0, 1), (89, .getfield 78, 3), (92, .iload_n 1, 1), (93, .iaload, 1), (94, .iconst 1, 1), (95, .if_icmp .ne (10), 3), (98, .aload_n 0, 1), (99, .invokevirtual 268, 3), (102, .goto (90), 3), (105, .aload_n 0, 1), (106, .getfield 78, 3), (109, .iload_n 1, 1), (110, .iconst 1, 1), (111, .iastore, 1), (112, .aload_n 0, 1), (113, .aload_n 0, 1), (114, .getfield 19, 3), (117, .iload_n 2, 1), (118, .iaload, 1), (119, .invokevirtual 265, 3), (122, .goto (70), 3), (125, .aload_n 0, 1), (126, .getfield 60, 3), (129, .iload_n 1, 1), (130, .iaload, 1), (131, .iconst 3, 1), (132, .if_icmp .ne (36), 3), (135, .aload_n 0, 1), (136, .aload_n 0, 1), (137, .getfield 69, 3), (140, .iload_n 1, 1), (141, .iaload, 1), (142, .invokevirtual 218, 3), (145, .ifCond .eq (16), 3), (148, .aload_n 0, 1), (149, .aload_n 0, 1), (150, .getfield 19, 3), (153, .iload_n 2, 1), (154, .iaload, 1), (155, .invokevirtual 265, 3), (158, .goto (34), 3), (161, .aload_n 0, 1), (162, .invokevirtual 268, 3), (165, .goto (27), 3), (168, .aload_n 0, 1), (169, .getfield 16, 3), (172, .iload_n 2, 1), (173, .iaload, 1), (174, .bipush (16), 2), (176, .if_icmp .ne (11), 3), (179, .aload_n 0, 1), (180, .iload_n 1, 1), (181, .invokevirtual 274, 3), (184, .goto (8), 3), (187, .aload_n 0, 1), (188, .iload_n 1, 1), (189, .invokevirtual 277, 3), (192, .return_, 1)]
-- 129: TagCoderModel.transcode(I)I
def xm_i129 : List (Nat × ClassFile.Instr × Nat) := [(0, .aload_n 0, 1), (1, .iload_n 1, 1), (2, .invokevirtual 119, 3), (5, .ifCond .ne (9), 3), (8, .aload_n 0, 1), (9, .iconst 1, 1), (10, .invokevirtual 280, 3), (13, .ireturn, 1), (14, .aload_n 0, 1), (15, .iconst 0, 1), (16, .putfield 154, 3), (19, .aload_n 0, 1), (20, .iconst 0, 1), (21, .putfield 148, 3), (24, .aload_n 0, 1), (25, .aload_n 0, 1), (26, .getfield 145, 3), (29, .putfield 151, 3), (32, .aload_n 0, 1), (33, .iconst 0, 1), (34, .putfield 244, 3), (37, .aload_n 0, 1), (38, .iconst 0, 1), (39, .putfield 183, 3), (42, .aload_n 0, 1), (43, .iconst 0, 1), (44, .putfield 176, 3), (47, .aload_n 0, 1), (48, .iload_n 1, 1), (49, .invokevirtual 265, 3), (52, .aload_n 0, 1), (53, .getfield 244, 3), (56, .ifCond .le (17), 3), (59, .aload_n 0, 1), (60, .getfield 154, 3), (63, .ifCond .ne (10), 3), (66, .aload_n 0, 1), (67, .invokevirtual 283, 3), (70, .goto (-18), 3), (73, .aload_n 0, 1), (74, .getfield 154, 3), (77, .ifCond .ne (14), 3), (80, .aload_n 0, 1), (81, .getfield 148, 3), (84, .aload_n 0, 1), (85, .getfield 145, 3), (88, .if_icmp .ge (9), 3), (91, .aload_n 0, 1), (92, .iconst 2, 1), (93, .invokevirtual 280, 3), (96, .ireturn, 1), (97, .aload_n 0, 1), (98, .iconst 0, 1), (99, .putfield 108, 3), (102, .aload_n 0, 1), (103, .aload_n 0, 1), (104, .getfield 90, 3), (107, .iconst 0, 1), (108, .iaload, 1), (109, .putfield 286, 3), (112, .iconst 0, 1), (113, .istore_n 2, 1), (114, .iload_n 2, 1), (115, .aload_n 0, 1), (116, .getfield 286, 3), (119, .if_icmp .ge (28), 3), (122, .aload_n 0, 1), (123, .getfield 54, 3), (126, .iload_n 2, 1), (127, .aload_n 0, 1), (128, .getfield 96, 3), (131, .aload_n 0, 1), (132, .getfield 87, 3), (135, .iconst 0, 1), (136, .iaload, 1), (137, .iload_n 2, 1), (138, .iadd, 1), (139, .iaload, 1), (140, .iastore, 1), (141, .iinc 2 (1), 3), (144, .goto (-30), 3), (147, .aload_n 0, 1), (148, .getfield 286, 3), (151, .ireturn, 1)]
-- 130: TagCoderModel.result(I)I
def xm_i130 : List (Nat × ClassFile.Instr × Nat) := [(0, .aload_n 0, 1), (1, .iconst 0, 1), (2, .putfield 108, 3), (5, .iload_n 1, 1), (6, .iconst (-1), 1), (7, .if_icmp .ne (10), 3), (10, .aload_n 0, 1), (11, .getfield 286, 3), (14, .goto (25), 3), (17, .iload_n 1, 1), (18, .ifCond .lt (20), 3), (21, .iload_n 1, 1), (22, .aload_n 0, 1), (23, .getfield 286, 3), (26, .if_icmp .ge (12), 3), (29, .aload_n 0, 1), (30, .getfield 54, 3), (33, .iload_n 1, 1), (34, .iaload, 1), (35, .goto (4), 3), (38, .iconst (-1), 1), (39, .ireturn, 1)]
-- 131: TagCoderModel.octet(I)I
def xm_i131 : List (Nat × ClassFile.Instr × Nat) := [(0, .aload_n 0, 1), (1, .iconst 0, 1), (2, .putfield 108, 3), (5, .iload_n 1, 1), (6, .iconst (-1), 1), (7, .if_icmp .ne (10), 3), (10, .aload_n 0, 1), (11, .getfield 145, 3), (14, .goto (25), 3), (17, .iload_n 1, 1), (18, .ifCond .lt (20), 3), (21, .iload_n 1, 1), (22, .aload_n 0, 1), (23, .getfield 145, 3), (26, .if_icmp .ge (12), 3), (29, .aload_n 0, 1), (30, .getfield 51, 3), (33, .iload_n 1, 1), (34, .iaload, 1), (35, .goto (4), 3), (38, .iconst (-1), 1), (39, .ireturn, 1)]
-- 132: TagCoderModel.counts()I
def xm_i132 : List (Nat × ClassFile.Instr × Nat) := [(0, .aload_n 0, 1), (1, .iconst 0, 1), (2, .putfield 108, 3), (5, .aload_n 0, 1), (6, .getfield 112, 3), (9, .bipush (32), 2), (11, .aload_n 0, 1), (12, .getfield 127, 3), (15, .imul, 1), (16, .iadd, 1), (17, .sipush (1024), 3), (20, .aload_n 0, 1), (21, .getfield 39, 3), (24, .bipush (16), 2), (26, .iaload, 1), (27, .imul, 1), (28, .iadd, 1), (29, .ireturn, 1)]
-- 133: TagCoderModel.firstTag(II)I
def xm_i133 : List (Nat × ClassFile.Instr × Nat) := [(0, .aload_n 0, 1), (1, .iconst 0, 1), (2, .putfield 108, 3), (5, .aload_n 0, 1), (6, .iload_n 1, 1), (7, .invokevirtual 119, 3), (10, .ifCond .eq (31), 3), (13, .iload_n 2, 1), (14, .ifCond .lt (27), 3), (17, .iload_n 2, 1), (18, .aload_n 0, 1), (19, .getfield 33, 3), (22, .iload_n 1, 1), (23, .iaload, 1), (24, .if_icmp .ge (17), 3), (27, .aload_n 0, 1), (28, .getfield 36, 3), (31, .bipush (96), 2), (33, .iload_n 1, 1), (34, .imul, 1), (35, .iload_n 2, 1), (36, .iadd, 1), (37, .iaload, 1), (38, .goto (4), 3), (41, .iconst (-1), 1), (42, .ireturn, 1)]
-- 134: TagCoderLaw.transcode(LTagCoder;I[J)I
def xm_i134 : List (Nat × ClassFile.Instr × Nat) := [(0, .aload_n 2, 1), (1, .iconst 0, 1), (2, .aload_n 0, 1), (3, .iload_n 1, 1), (4, .invokevirtual 7, 3), (7, .i2l, 1), (8, .lastore, 1), (9, .goto (9), 3), (12, .astore_n 3, 1), (13, .iconst 1, 1), (14, .ireturn, 1), (15, .astore_n 3, 1), (16, .iconst 2, 1), (17, .ireturn, 1), (18, .iconst 0, 1), (19, .ireturn, 1)]
-- 135: TagCoderLaw.law([I)Z
def xm_i135 : List (Nat × ClassFile.Instr × Nat) := [(0, .new 8, 3), (3, .dup, 1), (4, .invokespecial 17, 3), (7, .astore_n 1, 1), (8, .new 18, 3), (11, .dup, 1), (12, .invokespecial 20, 3), (15, .astore_n 2, 1), (16, .iconst 1, 1), (17, .newarray .long, 2), (19, .astore_n 3, 1), (20, .iconst 0, 1), (21, .istore 4, 2), (23, .iload 4, 2), (25, .aload_n 0, 1), (26, .arraylength, 1), (27, .bipush (6), 2), (29, .isub, 1), (30, .if_icmp .gt (695), 3), (33, .aload_n 0, 1), (34, .iload 4, 2), (36, .iaload, 1), (37, .bipush (15), 2), (39, .iand, 1), (40, .tableswitch (679) 0 13 #[72, 97, 210, 287, 324, 349, 430, 443, 512, 523, 579, 604, 629, 642], 72), (112, .aload_n 1, 1), (113, .aload_n 0, 1), (114, .iload 4, 2), (116, .iconst 1, 1), (117, .iadd, 1), (118, .iaload, 1), (119, .invokevirtual 21, 3), (122, .aload_n 2, 1), (123, .aload_n 0, 1), (124, .iload 4, 2), (126, .iconst 1, 1), (127, .iadd, 1), (128, .iaload, 1), (129, .invokevirtual 24, 3), (132, .if_icmp .eq (587), 3), (135, .iconst 0, 1), (136, .ireturn, 1), (137, .aload_n 1, 1), (138, .aload_n 0, 1), (139, .iload 4, 2), (141, .iconst 1, 1), (142, .iadd, 1), (143, .iaload, 1), (144, .aload_n 0, 1), (145, .iload 4, 2), (147, .iconst 2, 1), (148, .iadd, 1), (149, .iaload, 1), (150, .i2l, 1), (151, .bipush (32), 2), (153, .lshl, 1), (154, .aload_n 0, 1), (155, .iload 4, 2), (157, .iconst 3, 1), (158, .iadd, 1), (159, .iaload, 1), (160, .i2l, 1), (161, .ldc2_w 25, 3), (164, .land, 1), (165, .lor, 1), (166, .aload_n 0, 1), (167, .iload 4, 2), (169, .iconst 4, 1), (170, .iadd, 1), (171, .iaload, 1), (172, .i2l, 1), (173, .bipush (32), 2), (175, .lshl, 1), (176, .aload_n 0, 1), (177, .iload 4, 2), (179, .iconst 5, 1), (180, .iadd, 1), (181, .iaload, 1), (182, .i2l, 1), (183, .ldc2_w 25, 3), (186, .land, 1), (187, .lor, 1), (188, .invokevirtual 27, 3), (191, .aload_n 2, 1), (192, .aload_n 0, 1), (193, .iload 4, 2), (195, .iconst 1, 1), (196, .iadd, 1), (197, .iaload, 1), (198, .aload_n 0, 1), (199, .iload 4, 2), (201, .iconst 2, 1), (202, .iadd, 1), (203, .iaload, 1), (204, .i2l, 1), (205, .bipush (32), 2), (207, .lshl, 1), (208, .aload_n 0, 1), (209, .iload 4, 2), (211, .iconst 3, 1), (212, .iadd, 1), (213, .iaload, 1), (214, .i2l, 1), (215, .ldc2_w 25, 3), (218, .land, 1), (219, .lor, 1), (220, .aload_n 0, 1), (221, .iload 4, 2), (223, .iconst 4, 1), (224, .iadd, 1), (225, .iaload, 1), (226, .i2l, 1), (227, .bipush (32), 2), (229, .lshl, 1), (230, .aload_n 0, 1), (231, .iload 4, 2), (233, .iconst 5, 1), (234, .iadd, 1), (235, .iaload, 1), (236, .i2l, 1), (237, .ldc2_w 25, 3), (240, .land, 1), (241, .lor, 1), (242, .invokevirtual 31, 3), (245, .if_icmp .eq (474), 3), (248, .iconst 0, 1), (249, .ireturn, 1), (250, .aload_n 1, 1), (251, .aload_n 0, 1), (252, .iload 4, 2), (254, .iconst 1, 1), (255, .iadd, 1), (256, .iaload, 1), (257, .aload_n 0, 1), (258, .iload 4, 2), (260, .iconst 2, 1), (261, .iadd, 1), (262, .iaload, 1), (263, .aload_n 0, 1), (264, .iload 4, 2), (266, .iconst 3, 1), (267, .iadd, 1), (268, .iaload, 1), (269, .ifCond .eq (7), 3), (272, .iconst 1, 1), (273, .goto (4), 3), (276, .iconst 0, 1), (277, .aload_n 0, 1), (278, .iload 4, 2), (280, .iconst 4, 1), (281, .iadd, 1), (282, .iaload, 1), (283, .invokevirtual 32, 3), (286, .aload_n 2, 1), (287, .aload_n 0, 1), (288, .iload 4, 2), (290, .iconst 1, 1), (291, .iadd, 1), (292, .iaload, 1), (293, .aload_n 0, 1), (294, .iload 4, 2), (296, .iconst 2, 1), (297, .iadd, 1), (298, .iaload, 1), (299, .aload_n 0, 1), (300, .iload 4, 2), (302, .iconst 3, 1), (303, .iadd, 1), (304, .iaload, 1), (305, .ifCond .eq (7), 3), (308, .iconst 1, 1), (309, .goto (4), 3), (312, .iconst 0, 1), (313, .aload_n 0, 1), (314, .iload 4, 2), (316, .iconst 4, 1), (317, .iadd, 1), (318, .iaload, 1), (319, .invokevirtual 36, 3), (322, .if_icmp .eq (397), 3), (325, .iconst 0, 1), (326, .ireturn, 1), (327, .aload_n 1, 1), (328, .aload_n 0, 1), (329, .iload 4, 2), (331, .iconst 1, 1), (332, .iadd, 1), (333, .iaload, 1), (334, .aload_n 0, 1), (335, .iload 4, 2), (337, .iconst 2, 1), (338, .iadd, 1), (339, .iaload, 1), (340, .invokevirtual 37, 3), (343, .aload_n 2, 1), (344, .aload_n 0, 1), (345, .iload 4, 2), (347, .iconst 1, 1), (348, .iadd, 1), (349, .iaload, 1), (350, .aload_n 0, 1), (351, .iload 4, 2), (353, .iconst 2, 1), (354, .iadd, 1), (355, .iaload, 1), (356, .invokevirtual 41, 3), (359, .if_icmp .eq (360), 3), (362, .iconst 0, 1), (363, .ireturn, 1), (364, .aload_n 1, 1), (365, .aload_n 0, 1), (366, .iload 4, 2), (368, .iconst 1, 1), (369, .iadd, 1), (370, .iaload, 1), (371, .invokevirtual 42, 3), (374, .aload_n 2, 1), (375, .aload_n 0, 1), (376, .iload 4, 2), (378, .iconst 1, 1), (379, .iadd, 1), (380, .iaload, 1), (381, .invokevirtual 46, 3), (384, .if_icmp .eq (335), 3), (387, .iconst 0, 1), (388, .ireturn, 1), (389, .aload_n 1, 1), (390, .aload_n 0, 1), (391, .iload 4, 2), (393, .iconst 1, 1), (394, .iadd, 1), (395, .iaload, 1), (396, .aload_n 0, 1), (397, .iload 4, 2), (399, .iconst 2, 1), (400, .iadd, 1), (401, .iaload, 1), (402, .aload_n 0, 1), (403, .iload 4, 2), (405, .iconst 3, 1), (406, .iadd, 1), (407, .iaload, 1), (408, .i2l, 1), (409, .bipush (32), 2), (411, .lshl, 1), (412, .aload_n 0, 1), (413, .iload 4, 2), (415, .iconst 4, 1), (416, .iadd, 1), (417, .iaload, 1), (418, .i2l, 1), (419, .ldc2_w 25, 3), (422, .land, 1), (423, .lor, 1), (424, .invokevirtual 47, 3), (427, .aload_n 2, 1), (428, .aload_n 0, 1), (429, .iload 4, 2), (431, .iconst 1, 1), (432, .iadd, 1), (433, .iaload, 1), (434, .aload_n 0, 1), (435, .iload 4, 2), (437, .iconst 2, 1), (438, .iadd, 1), (439, .iaload, 1), (440, .aload_n 0, 1), (441, .iload 4, 2), (443, .iconst 3, 1), (444, .iadd, 1), (445, .iaload, 1), (446, .i2l, 1), (447, .bipush (32), 2), (449, .lshl, 1), (450, .aload_n 0, 1), (451, .iload 4, 2), (453, .iconst 4, 1), (454, .iadd, 1), (455, .iaload, 1), (456, .i2l, 1), (457, .ldc2_w 25, 3), (460, .land, 1), (461, .lor, 1), (462, .invokevirtual 51, 3), (465, .if_icmp .eq (254), 3), (468, .iconst 0, 1), (469, .ireturn, 1), (470, .aload_n 1, 1), (471, .invokevirtual 52, 3), (474, .aload_n 2, 1), (475, .invokevirtual 56, 3), (478, .if_icmp .eq (241), 3), (481, .iconst 0, 1), (482, .ireturn, 1), (483, .aload_n 1, 1), (484, .aload_n 0, 1), (485, .iload 4, 2), (487, .iconst 1, 1), (488, .iadd, 1), (489, .iaload, 1), (490, .i2l, 1), (491, .bipush (32), 2), (493, .lshl, 1), (494, .aload_n 0, 1), (495, .iload 4, 2), (497, .iconst 2, 1), (498, .iadd, 1), (499, .iaload, 1), (500, .i2l, 1), (501, .ldc2_w 25, 3), (504, .land, 1), (505, .lor, 1), (506, .aload_n 0, 1), (507, .iload 4, 2), (509, .iconst 3, 1), (510, .iadd, 1), (511, .iaload, 1), (512, .invokevirtual 57, 3), (515, .aload_n 2, 1), (516, .aload_n 0, 1), (517, .iload 4, 2), (519, .iconst 1, 1), (520, .iadd, 1), (521, .iaload, 1), (522, .i2l, 1), (523, .bipush (32), 2), (525, .lshl, 1), (526, .aload_n 0, 1), (527, .iload 4, 2), (529, .iconst 2, 1), (530, .iadd, 1), (531, .iaload, 1), (532, .i2l, 1), (533, .ldc2_w 25, 3), (536, .land, 1), (537, .lor, 1), (538, .aload_n 0, 1), (539, .iload 4, 2), (541, .iconst 3, 1), (542, .iadd, 1), (543, .iaload, 1), (544, .invokevirtual 61, 3), (547, .if_icmp .eq (172), 3), (550, .iconst 0, 1), (551, .ireturn, 1), (552, .aload_n 1, 1), (553, .invokevirtual 62, 3), (556, .aload_n 2, 1), (557, .invokevirtual 65, 3), (560, .goto (159), 3), (563, .aload_n 1, 1), (564, .aload_n 0, 1), (565, .iload 4, 2), (567, .iconst 1, 1), (568, .iadd, 1), (569, .iaload, 1), (570, .aload_n 3, 1), (571, .invokestatic 66, 3), (574, .istore 5, 2), (576, .aload_n 2, 1), (577, .aload_n 0, 1), (578, .iload 4, 2), (580, .iconst 1, 1), (581, .iadd, 1), (582, .iaload, 1), (583, .invokevirtual 71, 3), (586, .istore 6, 2), (588, .aload_n 2, 1), (589, .invokevirtual 72, 3), (592, .iload 5, 2), (594, .if_icmp .eq (5), 3), (597, .iconst 0, 1), (598, .ireturn, 1), (599, .iload 5, 2), (601, .ifCond .ne (15), 3), (604, .aload_n 3, 1), (605, .iconst 0, 1), (606, .laload, 1), (607, .iload 6, 2), (609, .i2l, 1), (610, .lcmp, 1), (611, .ifCond .eq (5), 3), (614, .iconst 0, 1), (615, .ireturn, 1), (616, .goto (103), 3), (619, .aload_n 1, 1), (620, .aload_n 0, 1), (621, .iload 4, 2), (623, .iconst 1, 1), (624, .iadd, 1), (625, .iaload, 1), (626, .invokevirtual 75, 3), (629, .aload_n 2, 1), (630, .aload_n 0, 1), (631, .iload 4, 2), (633, .iconst 1, 1), (634, .iadd, 1), (635, .iaload, 1), (636, .invokevirtual 78, 3), (639, .if_icmp .eq (80), 3), (642, .iconst 0, 1), (643, .ireturn, 1), (644, .aload_n 1, 1), (645, .aload_n 0, 1), (646, .iload 4, 2), (648, .iconst 1, 1), (649, .iadd, 1), (650, .iaload, 1), (651, .invokevirtual 79, 3), (654, .aload_n 2, 1), (655, .aload_n 0, 1), (656, .iload 4, 2), (658, .iconst 1, 1), (659, .iadd, 1), (660, .iaload, 1), (661, .invokevirtual 82, 3), (664, .if_icmp .eq (55), 3), (667, .iconst 0, 1), (668, .ireturn, 1), (669, .aload_n 1, 1), (670, .invokevirtual 83, 3), (673, .aload_n 2, 1), (674, .invokevirtual 86, 3), (677, .if_icmp .eq (42), 3), (680, .iconst 0, 1), (681, .ireturn, 1), (682, .aload_n 1, 1), (683, .aload_n 0, 1), (684, .iload 4, 2), (686, .iconst 1, 1), (687, .iadd, 1), (688, .iaload, 1), (689, .aload_n 0, 1), (690, .iload 4, 2), (692, .iconst 2, 1), (693, .iadd, 1), (694, .iaload, 1), (695, .invokevirtual 87, 3), (698, .aload_n 2, 1), (699, .aload_n 0, 1), (700, .iload 4, 2), (702, .iconst 1, 1), (703, .iadd, 1), (704, .iaload, 1), (705, .aload_n 0, 1), (706, .iload 4, 2), (708, .iconst 2, 1), (709, .iadd, 1), (710, .iaload, 1), (711, .invokevirtual 90, 3), (714, .if_icmp .eq (5), 3), (717, .iconst 0, 1), (718, .ireturn, 1), (719, .iinc 4 (6), 3), (722, .goto (-699), 3), (725, .iconst 1, 1), (726, .ireturn, 1)]
def xm_il : List (List (Nat × ClassFile.Instr × Nat)) := [xm_i0, xm_i1, xm_i2, xm_i3, xm_i4, xm_i5, xm_i6, xm_i7, xm_i8, xm_i9, xm_i10, xm_i11, xm_i12, xm_i13, xm_i14, xm_i15, xm_i16, xm_i17, xm_i18, xm_i19, xm_i20, xm_i21, xm_i22, xm_i23, xm_i24, xm_i25, xm_i26, xm_i27, xm_i28, xm_i29, xm_i30, xm_i31, xm_i32, xm_i33, xm_i34, xm_i35, xm_i36, xm_i37, xm_i38, xm_i39, xm_i40, xm_i41, xm_i42, xm_i43, xm_i44, xm_i45, xm_i46, xm_i47, xm_i48, xm_i49, xm_i50, xm_i51, xm_i52, xm_i53, xm_i54, xm_i55, xm_i56, xm_i57, xm_i58, xm_i59, xm_i60, xm_i61, xm_i62, xm_i63, xm_i64, xm_i65, xm_i66, xm_i67, xm_i68, xm_i69, xm_i70, xm_i71, xm_i72, xm_i73, xm_i74, xm_i75, xm_i76, xm_i77, xm_i78, xm_i79, xm_i80, xm_i81, xm_i82, xm_i83, xm_i84, xm_i85, xm_i86, xm_i87, xm_i88, xm_i89, xm_i90, xm_i91, xm_i92, xm_i93, xm_i94, xm_i95, xm_i96, xm_i97, xm_i98, xm_i99, xm_i100, xm_i101, xm_i102, xm_i103, xm_i104, xm_i105, xm_i106, xm_i107, xm_i108, xm_i109, xm_i110, xm_i111, xm_i112, xm_i113, xm_i114, xm_i115, xm_i116, xm_i117, xm_i118, xm_i119, xm_i120, xm_i121, xm_i122, xm_i123, xm_i124, xm_i125, xm_i126, xm_i127, xm_i128, xm_i129, xm_i130, xm_i131, xm_i132, xm_i133, xm_i134, xm_i135]
def xm_ins (k pc : Nat) : Option (ClassFile.Instr × Nat) := xm_look (xm_il.getD k []) pc
end
section
/-! Each instruction of the tables is what the method's bytes decode to. -/
def xm_dc (b : ByteArray) (t : List (Nat × ClassFile.Instr × Nat)) : Prop := ∀ e ∈ t, decode b e.1 = .ok e.2
theorem xm_dc_of {b : ByteArray} {t : List (Nat × ClassFile.Instr × Nat)} (h : t.all (fun e => decide (decode b e.1 = .ok e.2)) = true) : xm_dc b t := fun e he => of_decide_eq_true (List.all_eq_true.mp h e he)
theorem xm_d0 : xm_dc prog_1_method_1_code xm_i0 := xm_dc_of (by decide +kernel)
theorem xm_d1 : xm_dc prog_1_method_2_code xm_i1 := xm_dc_of (by decide +kernel)
theorem xm_d2 : xm_dc prog_1_method_3_code xm_i2 := xm_dc_of (by decide +kernel)
theorem xm_d3 : xm_dc prog_1_method_4_code xm_i3 := xm_dc_of (by decide +kernel)
theorem xm_d4 : xm_dc prog_1_method_5_code xm_i4 := xm_dc_of (by decide +kernel)
theorem xm_d5 : xm_dc prog_1_method_6_code xm_i5 := xm_dc_of (by decide +kernel)
theorem xm_d6 : xm_dc prog_1_method_7_code xm_i6 := xm_dc_of (by decide +kernel)
theorem xm_d7 : xm_dc prog_1_method_8_code xm_i7 := xm_dc_of (by decide +kernel)
theorem xm_d8 : xm_dc prog_1_method_9_code xm_i8 := xm_dc_of (by decide +kernel)
theorem xm_d9 : xm_dc prog_1_method_10_code xm_i9 := xm_dc_of (by decide +kernel)
theorem xm_d10 : xm_dc prog_1_method_11_code xm_i10 := xm_dc_of (by decide +kernel)
theorem xm_d11 : xm_dc prog_1_method_12_code xm_i11 := xm_dc_of (by decide +kernel)
theorem xm_d12 : xm_dc prog_1_method_13_code xm_i12 := xm_dc_of (by decide +kernel)
theorem xm_d13 : xm_dc prog_1_method_14_code xm_i13 := xm_dc_of (by decide +kernel)
theorem xm_d14 : xm_dc prog_1_method_15_code xm_i14 := xm_dc_of (by decide +kernel)
theorem xm_d15 : xm_dc prog_1_method_16_code xm_i15 := xm_dc_of (by decide +kernel)
theorem xm_d16 : xm_dc prog_1_method_17_code xm_i16 := xm_dc_of (by decide +kernel)
theorem xm_d17 : xm_dc prog_1_method_18_code xm_i17 := xm_dc_of (by decide +kernel)
theorem xm_d18 : xm_dc prog_5_method_1_code xm_i18 := xm_dc_of (by decide +kernel)
theorem xm_d19 : xm_dc prog_5_method_2_code xm_i19 := xm_dc_of (by decide +kernel)
theorem xm_d20 : xm_dc prog_5_method_3_code xm_i20 := xm_dc_of (by decide +kernel)
theorem xm_d21 : xm_dc prog_5_method_4_code xm_i21 := xm_dc_of (by decide +kernel)
theorem xm_d22 : xm_dc prog_5_method_5_code xm_i22 := xm_dc_of (by decide +kernel)
theorem xm_d23 : xm_dc prog_5_method_6_code xm_i23 := xm_dc_of (by decide +kernel)
theorem xm_d24 : xm_dc prog_5_method_7_code xm_i24 := xm_dc_of (by decide +kernel)
theorem xm_d25 : xm_dc prog_5_method_8_code xm_i25 := xm_dc_of (by decide +kernel)
theorem xm_d26 : xm_dc prog_5_method_9_code xm_i26 := xm_dc_of (by decide +kernel)
theorem xm_d27 : xm_dc prog_5_method_10_code xm_i27 := xm_dc_of (by decide +kernel)
theorem xm_d28 : xm_dc prog_5_method_11_code xm_i28 := xm_dc_of (by decide +kernel)
theorem xm_d29 : xm_dc prog_5_method_12_code xm_i29 := xm_dc_of (by decide +kernel)
theorem xm_d30 : xm_dc prog_5_method_13_code xm_i30 := xm_dc_of (by decide +kernel)
theorem xm_d31 : xm_dc prog_5_method_14_code xm_i31 := xm_dc_of (by decide +kernel)
theorem xm_d32 : xm_dc prog_5_method_15_code xm_i32 := xm_dc_of (by decide +kernel)
theorem xm_d33 : xm_dc prog_5_method_16_code xm_i33 := xm_dc_of (by decide +kernel)
theorem xm_d34 : xm_dc prog_2_method_1_code xm_i34 := xm_dc_of (by decide +kernel)
theorem xm_d35 : xm_dc prog_2_method_2_code xm_i35 := xm_dc_of (by decide +kernel)
theorem xm_d36 : xm_dc prog_2_method_3_code xm_i36 := xm_dc_of (by decide +kernel)
theorem xm_d37 : xm_dc prog_2_method_4_code xm_i37 := xm_dc_of (by decide +kernel)
theorem xm_d38 : xm_dc prog_2_method_5_code xm_i38 := xm_dc_of (by decide +kernel)
theorem xm_d39 : xm_dc prog_2_method_6_code xm_i39 := xm_dc_of (by decide +kernel)
theorem xm_d40 : xm_dc prog_2_method_7_code xm_i40 := xm_dc_of (by decide +kernel)
theorem xm_d41 : xm_dc prog_2_method_8_code xm_i41 := xm_dc_of (by decide +kernel)
theorem xm_d42 : xm_dc prog_3_method_1_code xm_i42 := xm_dc_of (by decide +kernel)
theorem xm_d43 : xm_dc prog_3_method_2_code xm_i43 := xm_dc_of (by decide +kernel)
theorem xm_d44 : xm_dc prog_3_method_3_code xm_i44 := xm_dc_of (by decide +kernel)
theorem xm_d45 : xm_dc prog_3_method_4_code xm_i45 := xm_dc_of (by decide +kernel)
theorem xm_d46 : xm_dc prog_3_method_5_code xm_i46 := xm_dc_of (by decide +kernel)
theorem xm_d47 : xm_dc prog_3_method_6_code xm_i47 := xm_dc_of (by decide +kernel)
theorem xm_d48 : xm_dc prog_3_method_7_code xm_i48 := xm_dc_of (by decide +kernel)
theorem xm_d49 : xm_dc prog_3_method_8_code xm_i49 := xm_dc_of (by decide +kernel)
theorem xm_d50 : xm_dc prog_3_method_9_code xm_i50 := xm_dc_of (by decide +kernel)
theorem xm_d51 : xm_dc prog_3_method_10_code xm_i51 := xm_dc_of (by decide +kernel)
theorem xm_d52 : xm_dc prog_3_method_11_code xm_i52 := xm_dc_of (by decide +kernel)
theorem xm_d53 : xm_dc prog_4_method_1_code xm_i53 := xm_dc_of (by decide +kernel)
theorem xm_d54 : xm_dc prog_4_method_2_code xm_i54 := xm_dc_of (by decide +kernel)
theorem xm_d55 : xm_dc prog_4_method_3_code xm_i55 := xm_dc_of (by decide +kernel)
theorem xm_d56 : xm_dc prog_4_method_4_code xm_i56 := xm_dc_of (by decide +kernel)
theorem xm_d57 : xm_dc prog_4_method_5_code xm_i57 := xm_dc_of (by decide +kernel)
theorem xm_d58 : xm_dc prog_4_method_6_code xm_i58 := xm_dc_of (by decide +kernel)
theorem xm_d59 : xm_dc prog_4_method_7_code xm_i59 := xm_dc_of (by decide +kernel)
theorem xm_d60 : xm_dc prog_4_method_8_code xm_i60 := xm_dc_of (by decide +kernel)
theorem xm_d61 : xm_dc prog_4_method_9_code xm_i61 := xm_dc_of (by decide +kernel)
theorem xm_d62 : xm_dc prog_4_method_10_code xm_i62 := xm_dc_of (by decide +kernel)
theorem xm_d63 : xm_dc prog_4_method_11_code xm_i63 := xm_dc_of (by decide +kernel)
theorem xm_d64 : xm_dc prog_4_method_12_code xm_i64 := xm_dc_of (by decide +kernel)
theorem xm_d65 : xm_dc prog_4_method_13_code xm_i65 := xm_dc_of (by decide +kernel)
theorem xm_d66 : xm_dc prog_4_method_14_code xm_i66 := xm_dc_of (by decide +kernel)
theorem xm_d67 : xm_dc prog_4_method_15_code xm_i67 := xm_dc_of (by decide +kernel)
theorem xm_d68 : xm_dc prog_4_method_16_code xm_i68 := xm_dc_of (by decide +kernel)
theorem xm_d69 : xm_dc prog_4_method_17_code xm_i69 := xm_dc_of (by decide +kernel)
theorem xm_d70 : xm_dc prog_4_method_18_code xm_i70 := xm_dc_of (by decide +kernel)
theorem xm_d71 : xm_dc prog_4_method_19_code xm_i71 := xm_dc_of (by decide +kernel)
theorem xm_d72 : xm_dc prog_4_method_20_code xm_i72 := xm_dc_of (by decide +kernel)
theorem xm_d73 : xm_dc prog_4_method_21_code xm_i73 := xm_dc_of (by decide +kernel)
theorem xm_d74 : xm_dc prog_4_method_22_code xm_i74 := xm_dc_of (by decide +kernel)
theorem xm_d75 : xm_dc prog_4_method_23_code xm_i75 := xm_dc_of (by decide +kernel)
theorem xm_d76 : xm_dc prog_4_method_24_code xm_i76 := xm_dc_of (by decide +kernel)
theorem xm_d77 : xm_dc prog_4_method_25_code xm_i77 := xm_dc_of (by decide +kernel)
theorem xm_d78 : xm_dc prog_4_method_26_code xm_i78 := xm_dc_of (by decide +kernel)
theorem xm_d79 : xm_dc prog_4_method_27_code xm_i79 := xm_dc_of (by decide +kernel)
theorem xm_d80 : xm_dc prog_4_method_28_code xm_i80 := xm_dc_of (by decide +kernel)
theorem xm_d81 : xm_dc prog_4_method_29_code xm_i81 := xm_dc_of (by decide +kernel)
theorem xm_d82 : xm_dc prog_7_method_1_code xm_i82 := xm_dc_of (by decide +kernel)
theorem xm_d83 : xm_dc prog_7_method_2_code xm_i83 := xm_dc_of (by decide +kernel)
theorem xm_d84 : xm_dc prog_7_method_3_code xm_i84 := xm_dc_of (by decide +kernel)
theorem xm_d85 : xm_dc prog_7_method_4_code xm_i85 := xm_dc_of (by decide +kernel)
theorem xm_d86 : xm_dc prog_7_method_5_code xm_i86 := xm_dc_of (by decide +kernel)
theorem xm_d87 : xm_dc prog_7_method_6_code xm_i87 := xm_dc_of (by decide +kernel)
theorem xm_d88 : xm_dc prog_7_method_7_code xm_i88 := xm_dc_of (by decide +kernel)
theorem xm_d89 : xm_dc prog_7_method_8_code xm_i89 := xm_dc_of (by decide +kernel)
theorem xm_d90 : xm_dc prog_7_method_9_code xm_i90 := xm_dc_of (by decide +kernel)
theorem xm_d91 : xm_dc prog_7_method_10_code xm_i91 := xm_dc_of (by decide +kernel)
theorem xm_d92 : xm_dc prog_7_method_11_code xm_i92 := xm_dc_of (by decide +kernel)
theorem xm_d93 : xm_dc prog_7_method_12_code xm_i93 := xm_dc_of (by decide +kernel)
theorem xm_d94 : xm_dc prog_7_method_13_code xm_i94 := xm_dc_of (by decide +kernel)
theorem xm_d95 : xm_dc prog_7_method_14_code xm_i95 := xm_dc_of (by decide +kernel)
theorem xm_d96 : xm_dc prog_7_method_15_code xm_i96 := xm_dc_of (by decide +kernel)
theorem xm_d97 : xm_dc prog_7_method_16_code xm_i97 := xm_dc_of (by decide +kernel)
theorem xm_d98 : xm_dc prog_7_method_17_code xm_i98 := xm_dc_of (by decide +kernel)
theorem xm_d99 : xm_dc prog_7_method_18_code xm_i99 := xm_dc_of (by decide +kernel)
theorem xm_d100 : xm_dc prog_7_method_19_code xm_i100 := xm_dc_of (by decide +kernel)
theorem xm_d101 : xm_dc prog_7_method_20_code xm_i101 := xm_dc_of (by decide +kernel)
theorem xm_d102 : xm_dc prog_7_method_21_code xm_i102 := xm_dc_of (by decide +kernel)
theorem xm_d103 : xm_dc prog_7_method_22_code xm_i103 := xm_dc_of (by decide +kernel)
theorem xm_d104 : xm_dc prog_7_method_23_code xm_i104 := xm_dc_of (by decide +kernel)
theorem xm_d105 : xm_dc prog_7_method_24_code xm_i105 := xm_dc_of (by decide +kernel)
theorem xm_d106 : xm_dc prog_7_method_25_code xm_i106 := xm_dc_of (by decide +kernel)
theorem xm_d107 : xm_dc prog_7_method_26_code xm_i107 := xm_dc_of (by decide +kernel)
theorem xm_d108 : xm_dc prog_7_method_27_code xm_i108 := xm_dc_of (by decide +kernel)
theorem xm_d109 : xm_dc prog_7_method_28_code xm_i109 := xm_dc_of (by decide +kernel)
theorem xm_d110 : xm_dc prog_7_method_29_code xm_i110 := xm_dc_of (by decide +kernel)
theorem xm_d111 : xm_dc prog_7_method_30_code xm_i111 := xm_dc_of (by decide +kernel)
theorem xm_d112 : xm_dc prog_7_method_31_code xm_i112 := xm_dc_of (by decide +kernel)
theorem xm_d113 : xm_dc prog_7_method_32_code xm_i113 := xm_dc_of (by decide +kernel)
theorem xm_d114 : xm_dc prog_7_method_33_code xm_i114 := xm_dc_of (by decide +kernel)
theorem xm_d115 : xm_dc prog_7_method_34_code xm_i115 := xm_dc_of (by decide +kernel)
theorem xm_d116 : xm_dc prog_7_method_35_code xm_i116 := xm_dc_of (by decide +kernel)
theorem xm_d117 : xm_dc prog_7_method_36_code xm_i117 := xm_dc_of (by decide +kernel)
theorem xm_d118 : xm_dc prog_7_method_37_code xm_i118 := xm_dc_of (by decide +kernel)
theorem xm_d119 : xm_dc prog_7_method_38_code xm_i119 := xm_dc_of (by decide +kernel)
theorem xm_d120 : xm_dc prog_7_method_39_code xm_i120 := xm_dc_of (by decide +kernel)
theorem xm_d121 : xm_dc prog_7_method_40_code xm_i121 := xm_dc_of (by decide +kernel)
theorem xm_d122 : xm_dc prog_7_method_41_code xm_i122 := xm_dc_of (by decide +kernel)
theorem xm_d123 : xm_dc prog_7_method_42_code xm_i123 := xm_dc_of (by decide +kernel)
theorem xm_d124 : xm_dc prog_7_method_43_code xm_i124 := xm_dc_of (by decide +kernel)
theorem xm_d125 : xm_dc prog_7_method_44_code xm_i125 := xm_dc_of (by decide +kernel)
theorem xm_d126 : xm_dc prog_7_method_45_code xm_i126 := xm_dc_of (by decide +kernel)
theorem xm_d127 : xm_dc prog_7_method_46_code xm_i127 := xm_dc_of (by decide +kernel)
theorem xm_d128 : xm_dc prog_7_method_47_code xm_i128 := xm_dc_of (by decide +kernel)
theorem xm_d129 : xm_dc prog_7_method_48_code xm_i129 := xm_dc_of (by decide +kernel)
theorem xm_d130 : xm_dc prog_7_method_49_code xm_i130 := xm_dc_of (by decide +kernel)
theorem xm_d131 : xm_dc prog_7_method_50_code xm_i131 := xm_dc_of (by decide +kernel)
theorem xm_d132 : xm_dc prog_7_method_51_code xm_i132 := xm_dc_of (by decide +kernel)
theorem xm_d133 : xm_dc prog_7_method_52_code xm_i133 := xm_dc_of (by decide +kernel)
theorem xm_d134 : xm_dc method_3_code xm_i134 := xm_dc_of (by decide +kernel)
theorem xm_d135 : xm_dc code xm_i135 := xm_dc_of (by decide +kernel)
theorem xm_dall : ∀ q ∈ xm_bl.zip xm_il, xm_dc q.1 q.2 := List.forall_mem_cons.mpr ⟨xm_d0, List.forall_mem_cons.mpr ⟨xm_d1, List.forall_mem_cons.mpr ⟨xm_d2, List.forall_mem_cons.mpr ⟨xm_d3, List.forall_mem_cons.mpr ⟨xm_d4, List.forall_mem_cons.mpr ⟨xm_d5, List.forall_mem_cons.mpr ⟨xm_d6, List.forall_mem_cons.mpr ⟨xm_d7, List.forall_mem_cons.mpr ⟨xm_d8, List.forall_mem_cons.mpr ⟨xm_d9, List.forall_mem_cons.mpr ⟨xm_d10, List.forall_mem_cons.mpr ⟨xm_d11, List.forall_mem_cons.mpr ⟨xm_d12, List.forall_mem_cons.mpr ⟨xm_d13, List.forall_mem_cons.mpr ⟨xm_d14, List.forall_mem_cons.mpr ⟨xm_d15, List.forall_mem_cons.mpr ⟨xm_d16, List.forall_mem_cons.mpr ⟨xm_d17, List.forall_mem_cons.mpr ⟨xm_d18, List.forall_mem_cons.mpr ⟨xm_d19, List.forall_mem_cons.mpr ⟨xm_d20, List.forall_mem_cons.mpr ⟨xm_d21, List.forall_mem_cons.mpr ⟨xm_d22, List.forall_mem_cons.mpr ⟨xm_d23, List.forall_mem_cons.mpr ⟨xm_d24, List.forall_mem_cons.mpr ⟨xm_d25, List.forall_mem_cons.mpr ⟨xm_d26, List.forall_mem_cons.mpr ⟨xm_d27, List.forall_mem_cons.mpr ⟨xm_d28, List.forall_mem_cons.mpr ⟨xm_d29, List.forall_mem_cons.mpr ⟨xm_d30, List.forall_mem_cons.mpr ⟨xm_d31, List.forall_mem_cons.mpr ⟨xm_d32, List.forall_mem_cons.mpr ⟨xm_d33, List.forall_mem_cons.mpr ⟨xm_d34, List.forall_mem_cons.mpr ⟨xm_d35, List.forall_mem_cons.mpr ⟨xm_d36, List.forall_mem_cons.mpr ⟨xm_d37, List.forall_mem_cons.mpr ⟨xm_d38, List.forall_mem_cons.mpr ⟨xm_d39, List.forall_mem_cons.mpr ⟨xm_d40, List.forall_mem_cons.mpr ⟨xm_d41, List.forall_mem_cons.mpr ⟨xm_d42, List.forall_mem_cons.mpr ⟨xm_d43, List.forall_mem_cons.mpr ⟨xm_d44, List.forall_mem_cons.mpr ⟨xm_d45, List.forall_mem_cons.mpr ⟨xm_d46, List.forall_mem_cons.mpr ⟨xm_d47, List.forall_mem_cons.mpr ⟨xm_d48, List.forall_mem_cons.mpr ⟨xm_d49, List.forall_mem_cons.mpr ⟨xm_d50, List.forall_mem_cons.mpr ⟨xm_d51, List.forall_mem_cons.mpr ⟨xm_d52, List.forall_mem_cons.mpr ⟨xm_d53, List.forall_mem_cons.mpr ⟨xm_d54, List.forall_mem_cons.mpr ⟨xm_d55, List.forall_mem_cons.mpr ⟨xm_d56, List.forall_mem_cons.mpr ⟨xm_d57, List.forall_mem_cons.mpr ⟨xm_d58, List.forall_mem_cons.mpr ⟨xm_d59, List.forall_mem_cons.mpr ⟨xm_d60, List.forall_mem_cons.mpr ⟨xm_d61, List.forall_mem_cons.mpr ⟨xm_d62, List.forall_mem_cons.mpr ⟨xm_d63, List.forall_mem_cons.mpr ⟨xm_d64, List.forall_mem_cons.mpr ⟨xm_d65, List.forall_mem_cons.mpr ⟨xm_d66, List.forall_mem_cons.mpr ⟨xm_d67, List.forall_mem_cons.mpr ⟨xm_d68, List.forall_mem_cons.mpr ⟨xm_d69, List.forall_mem_cons.mpr ⟨xm_d70, List.forall_mem_cons.mpr ⟨xm_d71, List.forall_mem_cons.mpr ⟨xm_d72, List.forall_mem_cons.mpr ⟨xm_d73, List.forall_mem_cons.mpr ⟨xm_d74, List.forall_mem_cons.mpr ⟨xm_d75, List.forall_mem_cons.mpr ⟨xm_d76, List.forall_mem_cons.mpr ⟨xm_d77, List.forall_mem_cons.mpr ⟨xm_d78, List.forall_mem_cons.mpr ⟨xm_d79, List.forall_mem_cons.mpr ⟨xm_d80, List.forall_mem_cons.mpr ⟨xm_d81, List.forall_mem_cons.mpr ⟨xm_d82, List.forall_mem_cons.mpr ⟨xm_d83, List.forall_mem_cons.mpr ⟨xm_d84, List.forall_mem_cons.mpr ⟨xm_d85, List.forall_mem_cons.mpr ⟨xm_d86, List.forall_mem_cons.mpr ⟨xm_d87, List.forall_mem_cons.mpr ⟨xm_d88, List.forall_mem_cons.mpr ⟨xm_d89, List.forall_mem_cons.mpr ⟨xm_d90, List.forall_mem_cons.mpr ⟨xm_d91, List.forall_mem_cons.mpr ⟨xm_d92, List.forall_mem_cons.mpr ⟨xm_d93, List.forall_mem_cons.mpr ⟨xm_d94, List.forall_mem_cons.mpr ⟨xm_d95, List.forall_mem_cons.mpr ⟨xm_d96, List.forall_mem_cons.mpr ⟨xm_d97, List.forall_mem_cons.mpr ⟨xm_d98, List.forall_mem_cons.mpr ⟨xm_d99, List.forall_mem_cons.mpr ⟨xm_d100, List.forall_mem_cons.mpr ⟨xm_d101, List.forall_mem_cons.mpr ⟨xm_d102, List.forall_mem_cons.mpr ⟨xm_d103, List.forall_mem_cons.mpr ⟨xm_d104, List.forall_mem_cons.mpr ⟨xm_d105, List.forall_mem_cons.mpr ⟨xm_d106, List.forall_mem_cons.mpr ⟨xm_d107, List.forall_mem_cons.mpr ⟨xm_d108, List.forall_mem_cons.mpr ⟨xm_d109, List.forall_mem_cons.mpr ⟨xm_d110, List.forall_mem_cons.mpr ⟨xm_d111, List.forall_mem_cons.mpr ⟨xm_d112, List.forall_mem_cons.mpr ⟨xm_d113, List.forall_mem_cons.mpr ⟨xm_d114, List.forall_mem_cons.mpr ⟨xm_d115, List.forall_mem_cons.mpr ⟨xm_d116, List.forall_mem_cons.mpr ⟨xm_d117, List.forall_mem_cons.mpr ⟨xm_d118, List.forall_mem_cons.mpr ⟨xm_d119, List.forall_mem_cons.mpr ⟨xm_d120, List.forall_mem_cons.mpr ⟨xm_d121, List.forall_mem_cons.mpr ⟨xm_d122, List.forall_mem_cons.mpr ⟨xm_d123, List.forall_mem_cons.mpr ⟨xm_d124, List.forall_mem_cons.mpr ⟨xm_d125, List.forall_mem_cons.mpr ⟨xm_d126, List.forall_mem_cons.mpr ⟨xm_d127, List.forall_mem_cons.mpr ⟨xm_d128, List.forall_mem_cons.mpr ⟨xm_d129, List.forall_mem_cons.mpr ⟨xm_d130, List.forall_mem_cons.mpr ⟨xm_d131, List.forall_mem_cons.mpr ⟨xm_d132, List.forall_mem_cons.mpr ⟨xm_d133, List.forall_mem_cons.mpr ⟨xm_d134, List.forall_mem_cons.mpr ⟨xm_d135, fun _ h => absurd h List.not_mem_nil⟩⟩⟩⟩⟩⟩⟩⟩⟩⟩⟩⟩⟩⟩⟩⟩⟩⟩⟩⟩⟩⟩⟩⟩⟩⟩⟩⟩⟩⟩⟩⟩⟩⟩⟩⟩⟩⟩⟩⟩⟩⟩⟩⟩⟩⟩⟩⟩⟩⟩⟩⟩⟩⟩⟩⟩⟩⟩⟩⟩⟩⟩⟩⟩⟩⟩⟩⟩⟩⟩⟩⟩⟩⟩⟩⟩⟩⟩⟩⟩⟩⟩⟩⟩⟩⟩⟩⟩⟩⟩⟩⟩⟩⟩⟩⟩⟩⟩⟩⟩⟩⟩⟩⟩⟩⟩⟩⟩⟩⟩⟩⟩⟩⟩⟩⟩⟩⟩⟩⟩⟩⟩⟩⟩⟩⟩⟩⟩⟩⟩⟩⟩⟩⟩⟩⟩
end
section
/-! A small machine over cells that are numbered from 0 in the order of their making (number 0 is the law's script): own work. Its steps are functions, so that a run of it is a computation; part 05 shows that what it computes is what the bytecode does. -/
abbrev xm_A : Type := (Nat → Int32) ⊕ ((Nat → Int64) ⊕ (Nat → Option Nat))
abbrev xm_E : Type := (Nat × Nat × xm_A) ⊕ (Nat × List Value)
abbrev xm_C : Type := List (Option xm_E)
abbrev xm_H : Type := xm_C × Nat
abbrev xm_L : Type := List (Option Value)
abbrev xm_F : Type := Nat × Nat × xm_L × List Value
abbrev xm_O : Type := Option Value ⊕ Nat
abbrev xm_S : Type := Nat × (Nat → Int32)
/-- what a step gives: the machine goes on; it returned; it threw an exception of that number; it calls (callee, arguments, the rest of the stack) -/
abbrev xm_R : Type := (xm_F × xm_H) ⊕ ((Option Value × xm_H) ⊕ ((Nat × xm_H) ⊕ (Nat × List Value × List Value)))
def xm_ld (L : xm_L) (i : Nat) : Option Value := (L[i]?).getD none
def xm_clr (L : xm_L) : Nat → xm_L
  | 0 => L
  | j + 1 => match xm_ld L j with
    | some (.long _) => L.set j none
    | some (.double _) => L.set j none
    | _ => L
def xm_st1 (L : xm_L) (i : Nat) (v : Value) : xm_L := (xm_clr L i).set i (some v)
def xm_st2 (L : xm_L) (i : Nat) (v : Value) : xm_L := ((xm_clr L i).set i (some v)).set (i + 1) none
def xm_sl (vs : List Value) : xm_L := vs.flatMap fun v => if v.category = 2 then [some v, none] else [some v]
def xm_ent (n : Nat) (vs : List Value) : xm_L := xm_sl vs ++ List.replicate (n - (xm_sl vs).length) none
def xm_up {α : Type} (f : Nat → α) (k : Nat) (x : α) : Nat → α := fun j => if j = k then x else f j
def xm_tg (pc : Nat) (off : Int) : Nat := ((pc : Int) + off).toNat
abbrev xm_nx (k pc : Nat) (L : xm_L) (st : List Value) (h : xm_H) : Option (xm_F × xm_H) := some ((k, pc, L, st), h)
def xm_bi2 (o : Int32 → Int32 → Int32) (k pc : Nat) (L : xm_L) (st : List Value) (h : xm_H) : Option (xm_F × xm_H) := match st with
  | .int y :: .int x :: r => xm_nx k (pc + 1) L (.int (o x y) :: r) h
  | _ => none
def xm_bd2 (o : Int32 → Int32 → Int32) (k pc : Nat) (L : xm_L) (st : List Value) (h : xm_H) : Option (xm_F × xm_H) := match st with
  | .int y :: .int x :: r => if y = 0 then none else xm_nx k (pc + 1) L (.int (o x y) :: r) h
  | _ => none
def xm_l2 (o : Int64 → Int64 → Int64) (k pc : Nat) (L : xm_L) (st : List Value) (h : xm_H) : Option (xm_F × xm_H) := match st with
  | .long y :: .long x :: r => xm_nx k (pc + 1) L (.long (o x y) :: r) h
  | _ => none
def xm_ls (o : Int64 → Int32 → Int64) (k pc : Nat) (L : xm_L) (st : List Value) (h : xm_H) : Option (xm_F × xm_H) := match st with
  | .int y :: .long x :: r => xm_nx k (pc + 1) L (.long (o x y) :: r) h
  | _ => none
def xm_ic (c : ClassFile.Cond) (x y : Int32) : Bool := match c with
  | .eq => decide (x = y)
  | .ne => !decide (x = y)
  | .lt => decide (x < y)
  | .ge => decide (y ≤ x)
  | .gt => decide (y < x)
  | .le => decide (x ≤ y)
def xm_jp (b : Bool) (k pc : Nat) (off : Int) (L : xm_L) (r : List Value) (h : xm_H) : Option (xm_F × xm_H) :=
  if 0 ≤ (pc : Int) + off then xm_nx k (if b = true then xm_tg pc off else pc + 3) L r h else none
def xm_ilo (i n k pc : Nat) (L : xm_L) (st : List Value) (h : xm_H) : Option (xm_F × xm_H) := match xm_ld L i with
  | some (.int x) => xm_nx k (pc + n) L (.int x :: st) h
  | _ => none
def xm_llo (i n k pc : Nat) (L : xm_L) (st : List Value) (h : xm_H) : Option (xm_F × xm_H) := match xm_ld L i with
  | some (.long x) => xm_nx k (pc + n) L (.long x :: st) h
  | _ => none
def xm_alo (i n k pc : Nat) (L : xm_L) (st : List Value) (h : xm_H) : Option (xm_F × xm_H) := match xm_ld L i with
  | some (.ref x) => xm_nx k (pc + n) L (.ref x :: st) h
  | some .null => xm_nx k (pc + n) L (.null :: st) h
  | _ => none
def xm_ist (i n k pc : Nat) (L : xm_L) (st : List Value) (h : xm_H) : Option (xm_F × xm_H) := match st with
  | .int x :: r => if i < L.length then xm_nx k (pc + n) (xm_st1 L i (.int x)) r h else none
  | _ => none
def xm_lst (i n k pc : Nat) (L : xm_L) (st : List Value) (h : xm_H) : Option (xm_F × xm_H) := match st with
  | .long x :: r => if i + 1 < L.length then xm_nx k (pc + n) (xm_st2 L i (.long x)) r h else none
  | _ => none
def xm_ast (i n k pc : Nat) (L : xm_L) (st : List Value) (h : xm_H) : Option (xm_F × xm_H) := match st with
  | .ref x :: r => if i < L.length then xm_nx k (pc + n) (xm_st1 L i (.ref x)) r h else none
  | .null :: r => if i < L.length then xm_nx k (pc + n) (xm_st1 L i .null) r h else none
  | _ => none
def xm_inc (i : Nat) (z : Int) (k pc : Nat) (L : xm_L) (st : List Value) (h : xm_H) : Option (xm_F × xm_H) := match xm_ld L i with
  | some (.int x) => if i < L.length then xm_nx k (pc + 3) (xm_st1 L i (.int (x + Int32.ofInt z))) st h else none
  | _ => none
/-- the cell of a number -/
def xm_cell (h : xm_H) (i : Nat) : Option xm_E := (h.1[i]?).getD none
def xm_put (h : xm_H) (i : Nat) (e : xm_E) : xm_H := (h.1.set i (some e), h.2)
def xm_new (h : xm_H) (e : xm_E) (n : Nat) : xm_H := (h.1 ++ [some e], h.2 + n)
def xm_fit (ty : FieldType) (v : Value) : Bool := match ty, v with
  | .int, .int _ => true
  | .boolean, .int x => decide (x = 0) || decide (x = 1)
  | .long, .long _ => true
  | .object _, .ref _ => true
  | .object _, .null => true
  | .array _, .ref _ => true
  | .array _, .null => true
  | _, _ => false
def xm_gf (k pc idx : Nat) (L : xm_L) (st : List Value) (h : xm_H) : Option (xm_F × xm_H) := match st, xm_cp k idx with
  | .ref i :: r, some (0, ci, j) => match xm_cell h i with
    | some (.inr (ci', fs)) => if ci' = ci then (match fs[j]? with
      | some v => xm_nx k (pc + 3) L (v :: r) h
      | none => none) else none
    | _ => none
  | _, _ => none
def xm_pf (k pc idx : Nat) (L : xm_L) (st : List Value) (h : xm_H) : Option (xm_F × xm_H) := match st, xm_cp k idx with
  | v :: .ref i :: r, some (0, ci, j) => match xm_cell h i with
    | some (.inr (ci', fs)) => if ci' = ci ∧ j < fs.length ∧ xm_fit (xm_fty ci j) v = true ∧ xm_pok k ci j = true then xm_nx k (pc + 3) L r (xm_put h i (.inr (ci, fs.set j v))) else none
    | _ => none
  | _, _ => none
def xm_iald (sc : xm_S) (k pc : Nat) (L : xm_L) (st : List Value) (h : xm_H) : Option (xm_F × xm_H) := match st with
  | .int j :: .ref i :: r => if i = 0 then (if j < 0 ∨ sc.1 ≤ j.toNatClampNeg then none else xm_nx k (pc + 1) L (.int (sc.2 j.toNatClampNeg) :: r) h) else match xm_cell h i with
    | some (.inl (0, n, .inl f)) => if j < 0 ∨ n ≤ j.toNatClampNeg then none else xm_nx k (pc + 1) L (.int (f j.toNatClampNeg) :: r) h
    | _ => none
  | _ => none
def xm_zald (k pc : Nat) (L : xm_L) (st : List Value) (h : xm_H) : Option (xm_F × xm_H) := match st with
  | .int j :: .ref i :: r => match xm_cell h i with
    | some (.inl (2, n, .inl f)) => if j < 0 ∨ n ≤ j.toNatClampNeg then none else xm_nx k (pc + 1) L (.int (f j.toNatClampNeg) :: r) h
    | _ => none
  | _ => none
def xm_lald (k pc : Nat) (L : xm_L) (st : List Value) (h : xm_H) : Option (xm_F × xm_H) := match st with
  | .int j :: .ref i :: r => match xm_cell h i with
    | some (.inl (1, n, .inr (.inl f))) => if j < 0 ∨ n ≤ j.toNatClampNeg then none else xm_nx k (pc + 1) L (.long (f j.toNatClampNeg) :: r) h
    | _ => none
  | _ => none
def xm_aald (k pc : Nat) (L : xm_L) (st : List Value) (h : xm_H) : Option (xm_F × xm_H) := match st with
  | .int j :: .ref i :: r => match xm_cell h i with
    | some (.inl (3, n, .inr (.inr f))) => if j < 0 ∨ n ≤ j.toNatClampNeg then none else xm_nx k (pc + 1) L (va_rf (f j.toNatClampNeg) :: r) h
    | _ => none
  | _ => none
def xm_iast (k pc : Nat) (L : xm_L) (st : List Value) (h : xm_H) : Option (xm_F × xm_H) := match st with
  | .int x :: .int j :: .ref i :: r => match xm_cell h i with
    | some (.inl (0, n, .inl f)) => if j < 0 ∨ n ≤ j.toNatClampNeg then none else xm_nx k (pc + 1) L r (xm_put h i (.inl (0, n, .inl (upd f j.toNatClampNeg x))))
    | _ => none
  | _ => none
def xm_zast (k pc : Nat) (L : xm_L) (st : List Value) (h : xm_H) : Option (xm_F × xm_H) := match st with
  | .int x :: .int j :: .ref i :: r => match xm_cell h i with
    | some (.inl (2, n, .inl f)) => if (j < 0 ∨ n ≤ j.toNatClampNeg) ∨ ¬ (x = 0 ∨ x = 1) then none else xm_nx k (pc + 1) L r (xm_put h i (.inl (2, n, .inl (upd f j.toNatClampNeg x))))
    | _ => none
  | _ => none
def xm_last (k pc : Nat) (L : xm_L) (st : List Value) (h : xm_H) : Option (xm_F × xm_H) := match st with
  | .long x :: .int j :: .ref i :: r => match xm_cell h i with
    | some (.inl (1, n, .inr (.inl f))) => if j < 0 ∨ n ≤ j.toNatClampNeg then none else xm_nx k (pc + 1) L r (xm_put h i (.inl (1, n, .inr (.inl (vp_updL f j.toNatClampNeg x)))))
    | _ => none
  | _ => none
def xm_aast (k pc : Nat) (L : xm_L) (st : List Value) (h : xm_H) : Option (xm_F × xm_H) := match st with
  | .ref v :: .int j :: .ref i :: r => match xm_cell h i, xm_cell h v with
    | some (.inl (3, n, .inr (.inr f))), some (.inr (ci, _)) => if (j < 0 ∨ n ≤ j.toNatClampNeg) ∨ ¬ ci = xm_elt then none else xm_nx k (pc + 1) L r (xm_put h i (.inl (3, n, .inr (.inr (va_up f j.toNatClampNeg (some v))))))
    | _, _ => none
  | _ => none
def xm_len (sc : xm_S) (k pc : Nat) (L : xm_L) (st : List Value) (h : xm_H) : Option (xm_F × xm_H) := match st with
  | .ref i :: r => if i = 0 then xm_nx k (pc + 1) L (.int (Int32.ofNat sc.1) :: r) h else match xm_cell h i with
    | some (.inl (t, n, _)) => if t < 4 then xm_nx k (pc + 1) L (.int (Int32.ofNat n) :: r) h else none
    | _ => none
  | _ => none
def xm_nob (k pc idx : Nat) (L : xm_L) (st : List Value) (h : xm_H) : Option (xm_F × xm_H) := match xm_cp k idx with
  | some (4, ci, _) => xm_nx k (pc + 3) L (.ref h.1.length :: st) (xm_new h (.inr (ci, xm_def ci)) (xm_siz ci))
  | _ => none
def xm_nar (a : ClassFile.ArrayType) (k pc : Nat) (L : xm_L) (st : List Value) (h : xm_H) : Option (xm_F × xm_H) := match a, st with
  | .int, .int n :: r => if n < 0 ∨ 67108864 < n.toNatClampNeg then none else xm_nx k (pc + 2) L (.ref h.1.length :: r) (xm_new h (.inl (0, n.toNatClampNeg, .inl (fun _ => 0))) n.toNatClampNeg)
  | .long, .int n :: r => if n < 0 ∨ 67108864 < n.toNatClampNeg then none else xm_nx k (pc + 2) L (.ref h.1.length :: r) (xm_new h (.inl (1, n.toNatClampNeg, .inr (.inl (fun _ => 0)))) n.toNatClampNeg)
  | .boolean, .int n :: r => if n < 0 ∨ 67108864 < n.toNatClampNeg then none else xm_nx k (pc + 2) L (.ref h.1.length :: r) (xm_new h (.inl (2, n.toNatClampNeg, .inl (fun _ => 0))) n.toNatClampNeg)
  | _, _ => none
def xm_anw (k pc idx : Nat) (L : xm_L) (st : List Value) (h : xm_H) : Option (xm_F × xm_H) := match st, xm_cp k idx with
  | .int n :: r, some (6, _, _) => if n < 0 ∨ 67108864 < n.toNatClampNeg then none else xm_nx k (pc + 3) L (.ref h.1.length :: r) (xm_new h (.inl (3, n.toNatClampNeg, .inr (.inr (fun _ => none)))) n.toNatClampNeg)
  | _, _ => none
def xm_wt (st : List Value) : Nat := (st.map fun v => v.category).sum
/-- Object's constructor -/
def xm_oin (k pc idx : Nat) (L : xm_L) (st : List Value) (h : xm_H) : Option (xm_F × xm_H) := match st, xm_cp k idx with
  | .ref _ :: r, some (7, _, _) => if xm_wt r ≤ 8 then xm_nx k (pc + 3) L r h else none
  | _, _ => none
/-- System.arraycopy of ints, Math.max, Math.min -/
def xm_lib (k pc idx : Nat) (L : xm_L) (st : List Value) (h : xm_H) : Option (xm_F × xm_H) := match xm_cp k idx, st with
  | some (8, _, _), .int n :: .int dp :: .ref d :: .int sp :: .ref a :: r => match xm_cell h a, xm_cell h d with
    | some (.inl (0, n0, .inl f)), some (.inl (0, n1, .inl g)) =>
      if sp < 0 ∨ dp < 0 ∨ n < 0 ∨ n0 < sp.toNatClampNeg + n.toNatClampNeg ∨ n1 < dp.toNatClampNeg + n.toNatClampNeg ∨ 8 < xm_wt r then none
      else xm_nx k (pc + 3) L r (xm_put h d (.inl (0, n1, .inl (va_cpy f g sp.toNatClampNeg dp.toNatClampNeg n.toNatClampNeg))))
    | _, _ => none
  | some (9, _, _), .int y :: .int x :: r => if 8 < xm_wt r then none else xm_nx k (pc + 3) L (.int (if x < y then y else x) :: r) h
  | some (10, _, _), .int y :: .int x :: r => if 8 < xm_wt r then none else xm_nx k (pc + 3) L (.int (if y < x then y else x) :: r) h
  | _, _ => none
def xm_tsw (dflt lo hi : Int) (offs : Array Int) (k pc : Nat) (L : xm_L) (st : List Value) (h : xm_H) : Option (xm_F × xm_H) := match st with
  | .int x :: r => if x.toInt < lo ∨ hi < x.toInt then (if 0 ≤ (pc : Int) + dflt then xm_nx k (xm_tg pc dflt) L r h else none)
    else match offs.toList[(x.toInt - lo).toNat]? with
      | some off => if 0 ≤ (pc : Int) + off then xm_nx k (xm_tg pc off) L r h else none
      | none => none
  | _ => none
def xm_lsw (dflt : Int) (ps : Array (Int × Int)) (k pc : Nat) (L : xm_L) (st : List Value) (h : xm_H) : Option (xm_F × xm_H) := match st with
  | .int x :: r => if (ps.toList.zip (ps.toList.drop 1)).all (fun (a, next) => a.1 < next.1) = true ∧ 0 ≤ (pc : Int) + Op.lookupswitch.offset ps.toList dflt x.toInt then xm_nx k (xm_tg pc (Op.lookupswitch.offset ps.toList dflt x.toInt)) L r h else none
  | _ => none
def xm_one (st : List Value) : Bool := match st with
  | v :: _ => decide (v.category = 1)
  | [] => false
def xm_do (sc : xm_S) (i : ClassFile.Instr) (n : Nat) (k pc : Nat) (L : xm_L) (st : List Value) (h : xm_H) : Option (xm_F × xm_H) := match i, n with
  | .iconst a, 1 => xm_nx k (pc + 1) L (.int (Int32.ofInt a) :: st) h
  | .bipush a, 2 => xm_nx k (pc + 2) L (.int (Int8.ofInt a).toInt32 :: st) h
  | .sipush a, 3 => xm_nx k (pc + 3) L (.int (Int16.ofInt a).toInt32 :: st) h
  | .lconst a, 1 => xm_nx k (pc + 1) L (.long (Int64.ofNat (a : Nat)) :: st) h
  | .aconst_null, 1 => xm_nx k (pc + 1) L (.null :: st) h
  | .ldc a, 2 => match xm_ki k a with
    | some v => xm_nx k (pc + 2) L (.int v :: st) h
    | none => none
  | .ldc2_w a, 3 => match xm_kl k a with
    | some v => xm_nx k (pc + 3) L (.long v :: st) h
    | none => none
  | .iload_n a, 1 => xm_ilo a 1 k pc L st h
  | .iload a, 2 => xm_ilo a 2 k pc L st h
  | .lload_n a, 1 => xm_llo a 1 k pc L st h
  | .lload a, 2 => xm_llo a 2 k pc L st h
  | .aload_n a, 1 => xm_alo a 1 k pc L st h
  | .aload a, 2 => xm_alo a 2 k pc L st h
  | .istore_n a, 1 => xm_ist a 1 k pc L st h
  | .istore a, 2 => xm_ist a 2 k pc L st h
  | .lstore_n a, 1 => xm_lst a 1 k pc L st h
  | .lstore a, 2 => xm_lst a 2 k pc L st h
  | .astore_n a, 1 => xm_ast a 1 k pc L st h
  | .astore a, 2 => xm_ast a 2 k pc L st h
  | .iinc a z, 3 => xm_inc a z k pc L st h
  | .iadd, 1 => xm_bi2 (fun x y => x + y) k pc L st h
  | .isub, 1 => xm_bi2 (fun x y => x - y) k pc L st h
  | .imul, 1 => xm_bi2 (fun x y => x * y) k pc L st h
  | .iand, 1 => xm_bi2 (fun x y => x &&& y) k pc L st h
  | .ior, 1 => xm_bi2 (fun x y => x ||| y) k pc L st h
  | .ishl, 1 => xm_bi2 (fun x y => x <<< (y &&& 31)) k pc L st h
  | .ishr, 1 => xm_bi2 (fun x y => x >>> (y &&& 31)) k pc L st h
  | .idiv, 1 => xm_bd2 (fun x y => x / y) k pc L st h
  | .irem, 1 => xm_bd2 (fun x y => x - x / y * y) k pc L st h
  | .ladd, 1 => xm_l2 (fun x y => x + y) k pc L st h
  | .lmul, 1 => xm_l2 (fun x y => x * y) k pc L st h
  | .land, 1 => xm_l2 (fun x y => x &&& y) k pc L st h
  | .lor, 1 => xm_l2 (fun x y => x ||| y) k pc L st h
  | .lshl, 1 => xm_ls (fun x y => x <<< (y.toInt64 &&& 63)) k pc L st h
  | .lshr, 1 => xm_ls (fun x y => x >>> (y.toInt64 &&& 63)) k pc L st h
  | .lushr, 1 => xm_ls (fun x y => (x.toUInt64 >>> (y.toInt64.toUInt64 &&& Int64.toUInt64 63)).toInt64) k pc L st h
  | .lcmp, 1 => match st with
    | .long y :: .long x :: r => xm_nx k (pc + 1) L (.int (lg_cmp x y) :: r) h
    | _ => none
  | .i2l, 1 => match st with
    | .int x :: r => xm_nx k (pc + 1) L (.long x.toInt64 :: r) h
    | _ => none
  | .l2i, 1 => match st with
    | .long x :: r => xm_nx k (pc + 1) L (.int x.toInt32 :: r) h
    | _ => none
  | .dup, 1 => match st with
    | v :: r => if v.category = 1 then xm_nx k (pc + 1) L (v :: v :: r) h else none
    | _ => none
  | .dup_x1, 1 => match st with
    | v :: w :: r => if v.category = 1 ∧ w.category = 1 then xm_nx k (pc + 1) L (v :: w :: v :: r) h else none
    | _ => none
  | .dup_x2, 1 => match st with
    | v :: w :: u :: r => if v.category = 1 ∧ w.category = 1 ∧ u.category = 1 then xm_nx k (pc + 1) L (v :: w :: u :: v :: r) h else none
    | _ => none
  | .dup2, 1 => match st with
    | v :: w :: r => if v.category = 1 ∧ w.category = 1 then xm_nx k (pc + 1) L (v :: w :: v :: w :: r) h else none
    | _ => none
  | .pop, 1 => match st with
    | v :: r => if v.category = 1 then xm_nx k (pc + 1) L r h else none
    | _ => none
  | .ifCond c off, 3 => match st with
    | .int x :: r => xm_jp (xm_ic c x 0) k pc off L r h
    | _ => none
  | .if_icmp c off, 3 => match st with
    | .int y :: .int x :: r => xm_jp (xm_ic c x y) k pc off L r h
    | _ => none
  | .ifnull off, 3 => match st with
    | .null :: r => xm_jp true k pc off L r h
    | .ref _ :: r => xm_jp false k pc off L r h
    | _ => none
  | .ifnonnull off, 3 => match st with
    | .null :: r => xm_jp false k pc off L r h
    | .ref _ :: r => xm_jp true k pc off L r h
    | _ => none
  | .goto off, 3 => xm_jp true k pc off L st h
  | .tableswitch d lo hi offs, _ => xm_tsw d lo hi offs k pc L st h
  | .lookupswitch d ps, _ => xm_lsw d ps k pc L st h
  | .getfield a, 3 => xm_gf k pc a L st h
  | .putfield a, 3 => xm_pf k pc a L st h
  | .iaload, 1 => xm_iald sc k pc L st h
  | .laload, 1 => xm_lald k pc L st h
  | .baload, 1 => xm_zald k pc L st h
  | .aaload, 1 => xm_aald k pc L st h
  | .iastore, 1 => xm_iast k pc L st h
  | .lastore, 1 => xm_last k pc L st h
  | .bastore, 1 => xm_zast k pc L st h
  | .aastore, 1 => xm_aast k pc L st h
  | .arraylength, 1 => xm_len sc k pc L st h
  | .new a, 3 => xm_nob k pc a L st h
  | .newarray t, 2 => xm_nar t k pc L st h
  | .anewarray a, 3 => xm_anw k pc a L st h
  | .invokespecial a, 3 => xm_oin k pc a L st h
  | .invokestatic a, 3 => xm_lib k pc a L st h
  | _, _ => none
/-- a new exception that is thrown at once -/
def xm_thr (k pc idx : Nat) (h : xm_H) : Option xm_R := match xm_cp k idx with
  | some (5, x, ic) => if xm_ins k (pc + 3) = some (.dup, 1) ∧ xm_ins k (pc + 4) = some (.invokespecial ic, 3) ∧ xm_ins k (pc + 7) = some (.athrow, 1) ∧ xm_hh k = [] then some (.inr (.inr (.inl (x, (h.1 ++ [none], h.2 + 6))))) else none
  | _ => none
def xm_end (i : ClassFile.Instr) (n k pc : Nat) (st : List Value) (h : xm_H) : Option xm_R := match i, n with
  | .ireturn, 1 => match st, xm_r k with
    | [.int x], some .int => some (.inr (.inl (some (.int x), h)))
    | [.int x], some .boolean => if x = 0 ∨ x = 1 then some (.inr (.inl (some (.int x), h))) else none
    | _, _ => none
  | .areturn, 1 => match st with
    | [.ref x] => if xm_rr k = true then some (.inr (.inl (some (.ref x), h))) else none
    | [.null] => if xm_rr k = true then some (.inr (.inl (some .null, h))) else none
    | _ => none
  | .return_, 1 => match st, xm_r k with
    | [], none => some (.inr (.inl (none, h)))
    | _, _ => none
  | .new a, 3 => if xm_wt st ≤ 8 then xm_thr k pc a h else none
  | .invokevirtual a, 3 => match xm_cp k a with
    | some (1, k2, z) => match st.drop z with
      | .ref i :: r => match xm_cell h i with
        | some (.inr (ci, _)) => if (ci = xm_rc k2 ∧ z ≤ st.length) ∧ xm_wt r ≤ 8 ∧ (xm_sl (.ref i :: (st.take z).reverse)).length ≤ xm_n k2 then some (.inr (.inr (.inr (k2, .ref i :: (st.take z).reverse, r)))) else none
        | _ => none
      | _ => none
    | _ => none
  | .invokespecial a, 3 => match xm_cp k a with
    | some (3, k2, z) => match st.drop z with
      | .ref i :: r => if z ≤ st.length ∧ xm_wt r ≤ 8 ∧ (xm_sl (.ref i :: (st.take z).reverse)).length ≤ xm_n k2 then some (.inr (.inr (.inr (k2, .ref i :: (st.take z).reverse, r)))) else none
      | _ => none
    | some (13, k2, z) => match st.drop z with
      | .ref i :: r => if z ≤ st.length ∧ xm_wt r ≤ 8 ∧ (xm_sl (.ref i :: (st.take z).reverse)).length ≤ xm_n k2 then some (.inr (.inr (.inr (k2, .ref i :: (st.take z).reverse, r)))) else none
      | _ => none
    | _ => none
  | .invokestatic a, 3 => match xm_cp k a with
    | some (2, k2, z) => if z ≤ st.length ∧ xm_wt (st.drop z) ≤ 8 ∧ (xm_sl (st.take z).reverse).length ≤ xm_n k2 then some (.inr (.inr (.inr (k2, (st.take z).reverse, st.drop z)))) else none
    | some (12, k2, z) => if z ≤ st.length ∧ xm_wt (st.drop z) ≤ 8 ∧ (xm_sl (st.take z).reverse).length ≤ xm_n k2 then some (.inr (.inr (.inr (k2, (st.take z).reverse, st.drop z)))) else none
    | _ => none
  | _, _ => none
def xm_step (sc : xm_S) (f : xm_F) (h : xm_H) : Option xm_R := match xm_ins f.1 f.2.1 with
  | none => none
  | some (i, n) => match xm_do sc i n f.1 f.2.1 f.2.2.1 f.2.2.2 h with
    | some q => some (.inl q)
    | none => xm_end i n f.1 f.2.1 f.2.2.2 h
/-- it stands at a call of an object's method -/
def xm_vt (k pc : Nat) : Bool := match xm_ins k pc with
  | some (.invokevirtual _, _) => true
  | _ => false
/-- a run of at most 'n' steps, with calls at most 'd' deep; the frame that waits for a call stands at the call's own place -/
def xm_ev (sc : xm_S) : Nat → Nat → xm_F → xm_H → Option (xm_O × xm_H)
  | 0, _, _, _ => none
  | n + 1, d, f, h => match xm_step sc f h with
    | none => none
    | some (.inl q) => xm_ev sc n d q.1 q.2
    | some (.inr (.inl q)) => some (.inl q.1, q.2)
    | some (.inr (.inr (.inl q))) => some (.inr q.1, q.2)
    | some (.inr (.inr (.inr q))) => match d with
      | 0 => none
      | d' + 1 => match xm_ev sc n d' (q.1, 0, xm_ent (xm_n q.1) q.2.1, []) h with
        | none => none
        | some (.inl v, h2) => xm_ev sc n (d' + 1) (f.1, f.2.1 + 3, f.2.2.1, v.toList ++ q.2.2) h2
        | some (.inr x, h2) => if xm_vt f.1 f.2.1 = true then (match xm_hh f.1 with
          | [] => some (.inr x, h2)
          | _ => match xm_cat f.1 f.2.1 x with
            | some (pc2, i) => xm_ev sc n (d' + 1) (f.1, pc2 + 1, (xm_clr f.2.2.1 i).set i none, []) h2
            | none => none) else none
end
section
/-! How the small machine's cells and values lie in the JVM's heap: own work. Cell i (from 1 on) lies at B + i; number 0 is the law's script, at sb. -/
def xm_ad (B sb i : Nat) : Nat := if i = 0 then sb else B + i
def xm_cv (B sb : Nat) (v : Value) : Value := match v with
  | .ref i => .ref (xm_ad B sb i)
  | v => v
def xm_ca (B sb n : Nat) (a : xm_A) : vp_A := match a with
  | .inl f => (n, .inl f)
  | .inr (.inl f) => (n, .inr (.inl f))
  | .inr (.inr f) => (n, .inr (.inr (.inr (.inr (fun j => (f j).map (xm_ad B sb))))))
def xm_ce (B sb : Nat) (cs : Nat → ClassId) (e : xm_E) : va_E := match e with
  | .inl (t, n, a) => .inl (cs t, xm_ca B sb n a)
  | .inr (ci, fs) => .inr (ci, fs.map (xm_cv B sb))
def xm_hb (B sb : Nat) (D : va_G) (cs : Nat → ClassId) (h : xm_C) (H : Heap) : Prop :=
  H.size = B + h.length ∧ h[0]? = some none ∧ ∀ (i : Nat) (e : xm_E), h[i]? = some (some e) → va_at D xm_cls (B + i, xm_ce B sb cs e) H
def xm_lh (B sb : Nat) (L : xm_L) (ls : Array Slot) : Prop :=
  ls.size = L.length ∧ lv_wf ls ∧ ∀ (i : Nat) (v : Value), L[i]? = some (some v) → ls[i]? = some (.val (xm_cv B sb v))
def xm_tys (cs : Nat → ClassId) : List (ClassId × FieldType) := [(cs 0, .int), (cs 1, .long), (cs 2, .boolean), (cs 3, .object xm_eln)]
def xm_wl (B sb : Nat) (cs : Nat → ClassId) (h : xm_C) : va_W := (List.range h.length).filterMap (fun i => ((h[i]?).getD none).map (fun e => (B + i, xm_ce B sb cs e)))
theorem xm_cat_cv (B sb : Nat) (v : Value) : (xm_cv B sb v).category = v.category := by
  cases v <;> rfl
theorem xm_wt_cv (B sb : Nat) (st : List Value) : ((st.map (xm_cv B sb)).map fun v => v.category).sum = xm_wt st := by
  unfold xm_wt
  rw [List.map_map]
  congr 1
  apply List.map_congr_left
  intro v _
  exact xm_cat_cv B sb v
theorem xm_ld_some {L : xm_L} {i : Nat} {v : Value} (h : xm_ld L i = some v) : L[i]? = some (some v) := by
  unfold xm_ld at h
  cases hL : L[i]? with
  | none => rw [hL] at h; cases h
  | some o => rw [hL] at h; simp only [Option.getD_some] at h; rw [h]
theorem xm_cell_some {h : xm_H} {i : Nat} {e : xm_E} (q : xm_cell h i = some e) : h.1[i]? = some (some e) := by
  unfold xm_cell at q
  cases hL : h.1[i]? with
  | none => rw [hL] at q; cases q
  | some o => rw [hL] at q; simp only [Option.getD_some] at q; rw [q]
section
variable {B sb : Nat} {D : va_G} {cs : Nat → ClassId} {h : xm_C} {H H1 : Heap}
theorem xm_hb.pos (a : xm_hb B sb D cs h H) {i : Nat} {e : xm_E} (q : h[i]? = some (some e)) : i ≠ 0 := by
  intro z
  subst z
  rw [a.2.1] at q
  cases q
theorem xm_hb.adr (a : xm_hb B sb D cs h H) {i : Nat} {e : xm_E} (q : h[i]? = some (some e)) : xm_ad B sb i = B + i := by
  unfold xm_ad
  rw [if_neg (a.pos q)]
theorem xm_wl_in {x : Nat × va_E} (q : x ∈ xm_wl B sb cs h) : ∃ (i : Nat) (e : xm_E), h[i]? = some (some e) ∧ x = (B + i, xm_ce B sb cs e) := by
  obtain ⟨i, -, hi⟩ := List.mem_filterMap.mp q
  cases hL : h[i]? with
  | none => rw [hL] at hi; cases hi
  | some o =>
    rw [hL] at hi
    cases o with
    | none => cases hi
    | some e =>
      simp only [Option.getD_some, Option.map_some, Option.some.injEq] at hi
      exact ⟨i, e, hL, hi.symm⟩
theorem xm_wl_at {i : Nat} {e : xm_E} (q : h[i]? = some (some e)) : ∃ q0 : Nat, (xm_wl B sb cs h)[q0]? = some (B + i, xm_ce B sb cs e) := by
  apply List.mem_iff_getElem?.mp
  refine List.mem_filterMap.mpr ⟨i, List.mem_range.mpr (List.getElem?_eq_some_iff.mp q).1, ?_⟩
  rw [q]
  rfl
theorem xm_wl_P (a : xm_hb B sb D cs h H) : va_P D xm_cls (xm_wl B sb cs h) H := by
  intro k q hq
  obtain ⟨i, e, h1, rfl⟩ := xm_wl_in (List.mem_of_getElem? hq)
  exact a.2.2 i e h1
theorem xm_wl_D (a : xm_hb B sb D cs h H) : va_D (fun q => B < q) (xm_wl B sb cs h) := by
  have hp : (xm_wl B sb cs h).Pairwise (fun x y => x.1 < y.1) := by
    refine List.Pairwise.filterMap _ ?_ (List.pairwise_lt_range (n := h.length))
    intro i j hij x hx y hy
    cases hi : (h[i]?).getD none with
    | none => rw [hi] at hx; cases hx
    | some e =>
      cases hj : (h[j]?).getD none with
      | none => rw [hj] at hy; cases hy
      | some e' =>
        rw [hi] at hx
        rw [hj] at hy
        simp only [Option.map_some, Option.some.injEq] at hx hy
        rw [← hx, ← hy]
        exact Nat.add_lt_add_left hij B
  refine ⟨fun i j x y hx hy hxy => ?_, fun k q hq => ?_⟩
  · obtain ⟨hi, ei⟩ := List.getElem?_eq_some_iff.mp hx
    obtain ⟨hj, ej⟩ := List.getElem?_eq_some_iff.mp hy
    rcases Nat.lt_trichotomy i j with g | g | g
    · have := List.pairwise_iff_getElem.mp hp i j hi hj g
      rw [ei, ej, hxy] at this
      exact absurd this (Nat.lt_irrefl _)
    · exact g
    · have := List.pairwise_iff_getElem.mp hp j i hj hi g
      rw [ei, ej, hxy] at this
      exact absurd this (Nat.lt_irrefl _)
  · obtain ⟨i, e, h1, rfl⟩ := xm_wl_in (List.mem_of_getElem? hq)
    have := a.pos h1
    show B < B + i
    omega
theorem xm_hb.set (a : xm_hb B sb D cs h H) {i q0 : Nat} {e e' : xm_E} (q : h[i]? = some (some e)) (hq : (xm_wl B sb cs h)[q0]? = some (B + i, xm_ce B sb cs e))
    (hP : va_P D xm_cls ((xm_wl B sb cs h).set q0 (B + i, xm_ce B sb cs e')) H1) (hz : H1.size = H.size) : xm_hb B sb D cs (h.set i (some e')) H1 := by
  refine ⟨by rw [hz, List.length_set]; exact a.1, ?_, ?_⟩
  · rw [List.getElem?_set_ne (a.pos q)]
    exact a.2.1
  · intro j e2 hj
    by_cases hij : i = j
    · subst hij
      rw [List.getElem?_set_self (List.getElem?_eq_some_iff.mp q).1] at hj
      cases hj
      refine hP q0 _ ?_
      rw [List.getElem?_set_self (List.getElem?_eq_some_iff.mp hq).1]
    · rw [List.getElem?_set_ne hij] at hj
      obtain ⟨q1, h1⟩ := xm_wl_at (B := B) (sb := sb) (cs := cs) hj
      refine hP q1 _ ?_
      rw [List.getElem?_set_ne]
      · exact h1
      · intro z
        subst z
        rw [hq] at h1
        simp only [Option.some.injEq, Prod.mk.injEq] at h1
        exact hij (Nat.add_left_cancel h1.1)
theorem xm_hb.push (a : xm_hb B sb D cs h H) {e : Option xm_E} (hz : H1.size = H.size + 1) (ho : ∀ q : Nat, q < H.size → H1[q]? = H[q]?) (he : ∀ e', e = some e' → va_at D xm_cls (H.size, xm_ce B sb cs e') H1) : xm_hb B sb D cs (h ++ [e]) H1 := by
  refine ⟨by rw [hz, a.1, List.length_append]; rfl, ?_, ?_⟩
  · rw [List.getElem?_append_left (List.getElem?_eq_some_iff.mp a.2.1).1]
    exact a.2.1
  · intro i e2 hi
    by_cases hl : i < h.length
    · rw [List.getElem?_append_left hl] at hi
      exact (a.2.2 i e2 hi).kept (ho _ (by rw [a.1]; exact Nat.add_lt_add_left hl B))
    · rw [List.getElem?_append_right (by omega)] at hi
      have hk : i - h.length < 1 := (List.getElem?_eq_some_iff.mp hi).1
      have : i = h.length := by omega
      subst this
      rw [Nat.sub_self] at hi
      have : e = some e2 := by simpa using hi
      have := he e2 this
      rw [a.1] at this
      exact this
end
/-! the locals -/
def xm_pr (B sb : Nat) (L : xm_L) : List (Nat × Value) := (List.range L.length).filterMap (fun i => (xm_ld L i).map (fun v => (i, xm_cv B sb v)))
theorem xm_pr_in {B sb : Nat} {L : xm_L} {i : Nat} {v : Value} (h : L[i]? = some (some v)) : (i, xm_cv B sb v) ∈ xm_pr B sb L := by
  refine List.mem_filterMap.mpr ⟨i, List.mem_range.mpr (List.getElem?_eq_some_iff.mp h).1, ?_⟩
  unfold xm_ld
  rw [h]
  rfl
theorem xm_lh.has {B sb : Nat} {L : xm_L} {ls : Array Slot} (a : xm_lh B sb L ls) : lv_has ls L.length (xm_pr B sb L) := by
  refine ⟨a.1, a.2.1, fun q hq => ?_⟩
  obtain ⟨i, -, hi⟩ := List.mem_filterMap.mp hq
  cases hL : xm_ld L i with
  | none => rw [hL] at hi; cases hi
  | some v =>
    rw [hL] at hi
    simp only [Option.map_some, Option.some.injEq] at hi
    rw [← hi]
    exact a.2.2 i v (xm_ld_some hL)
theorem xm_clr_len (L : xm_L) (i : Nat) : (xm_clr L i).length = L.length := by
  unfold xm_clr
  split
  · rfl
  · split <;> simp
theorem xm_clr_at {L : xm_L} {i j : Nat} {v : Value} (h : (xm_clr L i)[j]? = some (some v)) : L[j]? = some (some v) ∧ ¬ (j + 1 = i ∧ v.category = 2) := by
  unfold xm_clr at h
  split at h
  · exact ⟨h, fun z => by omega⟩
  · rename_i j'
    have key : ∀ w, xm_ld L j' = some w → w.category = 2 → (L.set j' none)[j]? = some (some v) → L[j]? = some (some v) ∧ ¬ (j + 1 = j' + 1 ∧ v.category = 2) := by
      intro w hw hc hs
      by_cases hj : j' = j
      · subst hj
        rw [List.getElem?_set_self (List.getElem?_eq_some_iff.mp (xm_ld_some hw)).1] at hs
        cases hs
      · rw [List.getElem?_set_ne hj] at hs
        exact ⟨hs, fun z => hj (by omega)⟩
    split at h
    · rename_i w hw
      exact key _ hw rfl h
    · rename_i w hw
      exact key _ hw rfl h
    · rename_i h1 h2
      refine ⟨h, fun z => ?_⟩
      obtain ⟨z1, z2⟩ := z
      have : j = j' := by omega
      subst this
      have hl : xm_ld L j = some v := by unfold xm_ld; rw [h]; rfl
      cases v with
      | long x => exact h1 x hl
      | double x => exact h2 x hl
      | _ => simp [Value.category] at z2
theorem xm_lh.st1 {B sb : Nat} {L : xm_L} {ls' : Array Slot} {i : Nat} {v : Value} (hi : i < L.length)
    (a : lv_has ls' L.length ((i, xm_cv B sb v) :: (xm_pr B sb L).filter (fun q => !(q.1 == i) && !(q.1 + 1 == i && q.2.category == 2)))) : xm_lh B sb (xm_st1 L i v) ls' := by
  have hlen : (xm_st1 L i v).length = L.length := by unfold xm_st1; rw [List.length_set, xm_clr_len]
  refine ⟨by rw [hlen]; exact a.1, a.2.1, fun j u hj => ?_⟩
  unfold xm_st1 at hj
  by_cases hij : i = j
  · subst hij
    rw [List.getElem?_set_self (by rw [xm_clr_len]; exact hi)] at hj
    cases hj
    exact a.2.2 (i, xm_cv B sb v) List.mem_cons_self
  · rw [List.getElem?_set_ne hij] at hj
    obtain ⟨h1, h2⟩ := xm_clr_at hj
    refine a.2.2 (j, xm_cv B sb u) (List.mem_cons_of_mem _ (List.mem_filter.mpr ⟨xm_pr_in h1, ?_⟩))
    simp only [xm_cat_cv, Bool.and_eq_true, Bool.not_eq_true', beq_eq_false_iff_ne, ne_eq, Bool.and_eq_false_iff]
    exact ⟨fun z => hij z.symm, by
      by_cases hc : j + 1 = i
      · exact Or.inr (fun z => h2 ⟨hc, z⟩)
      · exact Or.inl hc⟩
theorem xm_lh.st2 {B sb : Nat} {L : xm_L} {ls' : Array Slot} {i : Nat} {v : Value} (hi : i + 1 < L.length)
    (a : lv_has ls' L.length ((i, xm_cv B sb v) :: (xm_pr B sb L).filter (fun q => !(q.1 == i) && (!(q.1 == i + 1) && !(q.1 + 1 == i && q.2.category == 2))))) : xm_lh B sb (xm_st2 L i v) ls' := by
  have hlen : (xm_st2 L i v).length = L.length := by unfold xm_st2; rw [List.length_set, List.length_set, xm_clr_len]
  refine ⟨by rw [hlen]; exact a.1, a.2.1, fun j u hj => ?_⟩
  unfold xm_st2 at hj
  by_cases hj1 : i + 1 = j
  · subst hj1
    rw [List.getElem?_set_self (by rw [List.length_set, xm_clr_len]; exact hi)] at hj
    cases hj
  · rw [List.getElem?_set_ne hj1] at hj
    by_cases hij : i = j
    · subst hij
      rw [List.getElem?_set_self (by rw [xm_clr_len]; omega)] at hj
      cases hj
      exact a.2.2 (i, xm_cv B sb v) List.mem_cons_self
    · rw [List.getElem?_set_ne hij] at hj
      obtain ⟨h1, h2⟩ := xm_clr_at hj
      refine a.2.2 (j, xm_cv B sb u) (List.mem_cons_of_mem _ (List.mem_filter.mpr ⟨xm_pr_in h1, ?_⟩))
      simp only [xm_cat_cv, Bool.and_eq_true, Bool.not_eq_true', beq_eq_false_iff_ne, ne_eq, Bool.and_eq_false_iff]
      exact ⟨fun z => hij z.symm, fun z => hj1 z.symm, by
        by_cases hc : j + 1 = i
        · exact Or.inr (fun z => h2 ⟨hc, z⟩)
        · exact Or.inl hc⟩
/-- a local that is no longer known -/
theorem xm_lh.fg {B sb : Nat} {L : xm_L} {ls' : Array Slot} {i : Nat} {v : Value} (hi : i < L.length)
    (a : lv_has ls' L.length ((i, v) :: (xm_pr B sb L).filter (fun q => !(q.1 == i) && !(q.1 + 1 == i && q.2.category == 2)))) : xm_lh B sb ((xm_clr L i).set i none) ls' := by
  refine ⟨by rw [List.length_set, xm_clr_len]; exact a.1, a.2.1, fun j u hj => ?_⟩
  by_cases hij : i = j
  · subst hij
    rw [List.getElem?_set_self (by rw [xm_clr_len]; exact hi)] at hj
    cases hj
  · rw [List.getElem?_set_ne hij] at hj
    obtain ⟨h1, h2⟩ := xm_clr_at hj
    refine a.2.2 (j, xm_cv B sb u) (List.mem_cons_of_mem _ (List.mem_filter.mpr ⟨xm_pr_in h1, ?_⟩))
    simp only [xm_cat_cv, Bool.and_eq_true, Bool.not_eq_true', beq_eq_false_iff_ne, ne_eq, Bool.and_eq_false_iff]
    exact ⟨fun z => hij z.symm, by
      by_cases hc : j + 1 = i
      · exact Or.inr (fun z => h2 ⟨hc, z⟩)
      · exact Or.inl hc⟩
theorem xm_sl_lg (B sb : Nat) (vs : List Value) : lg_sl (vs.map (xm_cv B sb)) = (xm_sl vs).map (fun o => match o with | some v => Slot.val (xm_cv B sb v) | none => Slot.second) := by
  induction vs with
  | nil => rfl
  | cons v r ih =>
    have h1 : lg_sl ((v :: r).map (xm_cv B sb)) = (if (xm_cv B sb v).category = 2 then [.val (xm_cv B sb v), .second] else [.val (xm_cv B sb v)]) ++ lg_sl (r.map (xm_cv B sb)) := rfl
    have h2 : xm_sl (v :: r) = (if v.category = 2 then [some v, none] else [some v]) ++ xm_sl r := rfl
    rw [h1, h2, ih, xm_cat_cv, List.map_append]
    congr 1
    split <;> rfl
theorem xm_lh.entry {B sb n : Nat} {vs : List Value} (hn : (xm_sl vs).length ≤ n) : xm_lh B sb (xm_ent n vs) ((lg_sl (vs.map (xm_cv B sb)) ++ List.replicate (n - (lg_sl (vs.map (xm_cv B sb))).length) Slot.unset).toArray) := by
  have hl : (lg_sl (vs.map (xm_cv B sb))).length = (xm_sl vs).length := by rw [xm_sl_lg, List.length_map]
  have h0 := lv_entry (vs.map (xm_cv B sb)) (n := n) (by rw [hl]; exact hn)
  refine ⟨?_, h0.2.1, fun i v hi => ?_⟩
  · rw [h0.1]
    unfold xm_ent
    rw [List.length_append, List.length_replicate]
    omega
  · unfold xm_ent at hi
    by_cases h1 : i < (xm_sl vs).length
    · rw [List.getElem?_append_left h1] at hi
      rw [List.getElem?_toArray, List.getElem?_append_left (by rw [hl]; exact h1), xm_sl_lg, List.getElem?_map, hi]
      rfl
    · rw [List.getElem?_append_right (by omega)] at hi
      rw [List.getElem?_replicate] at hi
      split at hi <;> cases hi
end
section
/-! What the tables say is what the Statement's words say: own work. -/
def xm_ws : List Cond := lw_tbl.filter goodWord
theorem xm_ws_good : ∀ w ∈ xm_ws, goodWord w = true := fun w h => (List.mem_filter.mp h).2
/-- the tables' words by lists: the private methods' first -/
def xm_tb (j : Nat) : List Cond := match j with
  | 0 => k2_sels lw_privs
  | 1 => tables_1_1
  | 2 => tables_1_2
  | 3 => tables_1_3
  | _ => tables_1_4
theorem xm_tb_in {j : Nat} {w : Cond} (h : w ∈ xm_tb j) : w ∈ lw_tbl := by
  unfold xm_tb at h
  show w ∈ k2_sels lw_privs ++ (tables_1_1 ++ (tables_1_2 ++ (tables_1_3 ++ tables_1_4)))
  split at h
  · exact List.mem_append_left _ h
  · exact List.mem_append_right _ (List.mem_append_left _ h)
  · exact List.mem_append_right _ (List.mem_append_right _ (List.mem_append_left _ h))
  · exact List.mem_append_right _ (List.mem_append_right _ (List.mem_append_right _ (List.mem_append_left _ h)))
  · exact List.mem_append_right _ (List.mem_append_right _ (List.mem_append_right _ (List.mem_append_right _ h)))
/-- the word stands at that place -/
def xm_inw (w : Cond) (q : Nat × Nat) : Bool := decide ((xm_tb q.1)[q.2]? = some w) && goodWord w
theorem xm_inw_in {w : Cond} {q : Nat × Nat} (h : xm_inw w q = true) : w ∈ xm_ws := by
  unfold xm_inw at h
  rw [Bool.and_eq_true] at h
  exact List.mem_filter.mpr ⟨xm_tb_in (List.mem_of_getElem? (of_decide_eq_true h.1)), h.2⟩
def xm_pt (ps : List (Nat × Nat)) (i : Nat) : Nat × Nat := ps.getD i (0, 0)
def xm_za {α β : Type} (f : α → β → Bool) (l : List α) (m : List β) : Bool := (l.zip m).all (fun q => f q.1 q.2) && decide (l.length = m.length)
theorem xm_za_in {α β : Type} {f : α → β → Bool} {l : List α} {m : List β} (h : xm_za f l m = true) {a : α} (ha : a ∈ l) : ∃ b, f a b = true := by
  unfold xm_za at h
  rw [Bool.and_eq_true] at h
  have hlen := of_decide_eq_true h.2
  obtain ⟨i, hi⟩ := List.mem_iff_getElem?.mp ha
  have hl : i < l.length := (List.getElem?_eq_some_iff.mp hi).1
  have hl2 : i < m.length := by omega
  have hz : (a, m[i]) ∈ l.zip m := by
    apply List.mem_iff_getElem?.mpr
    refine ⟨i, ?_⟩
    rw [List.getElem?_zip_eq_some]
    exact ⟨hi, List.getElem?_eq_getElem hl2⟩
  exact ⟨_, List.all_eq_true.mp h.1 _ hz⟩
def xm_wk (k : Nat) : List Cond := Cond.code (xm_y k) (xm_b k) (xm_n k) (xm_r k) :: xm_ws
/-- words that the tables decide though the kit doesn't carry them in a contract -/
def xm_xw : List Cond := [.arrayOver (.object "TagCoder$Type"), .methodLinkNest "TagCoder" 25 ⟨"TagCoder$Octets", "<init>", "()V"⟩ "TagCoder", .methodLinkNest "TagCoder" 35 ⟨"TagCoder$Recoder", "<init>", "()V"⟩ "TagCoder", .methodLinkNest "TagCoder$Recoder" 11 ⟨"TagCoder$Octets", "<init>", "()V"⟩ "TagCoder",
  .declares ⟨"java/lang/RuntimeException", "<init>", "()V"⟩, .declares ⟨"java/lang/Exception", "<init>", "()V"⟩, .declares ⟨"java/lang/Throwable", "<init>", "()V"⟩, .castable "java/lang/IndexOutOfBoundsException" "java/lang/IndexOutOfBoundsException", .castable "java/lang/IllegalArgumentException" "java/lang/IllegalArgumentException", .not (.castable "java/lang/IllegalArgumentException" "java/lang/IndexOutOfBoundsException")]
/-- words that look at the heap: Throwable's two statics -/
def xm_ew : List Cond := [.isRef (.static "java/lang/Throwable" "UNASSIGNED_STACK" "[Ljava/lang/StackTraceElement;"), .isRef (.static "java/lang/Throwable" "SUPPRESSED_SENTINEL" "Ljava/util/List;"), .laysStatic "java/lang/Throwable" "UNASSIGNED_STACK" "[Ljava/lang/StackTraceElement;", .laysStatic "java/lang/Throwable" "SUPPRESSED_SENTINEL" "Ljava/util/List;"]
def xm_Nx (U : State) : Prop := ∀ V : State, U.WarmedH V.vm → ∀ (a : Array Value) (w : Cond), w ∈ xm_xw → w.before a V = true
def xm_Zx (B : Nat) (U : State) : Prop := ∀ V : State, U.vm.Alike V.vm → (∀ q : Nat, q ≤ B → V.heap[q]? = U.heap[q]?) → ∀ (a : Array Value) (w : Cond), w ∈ xm_ew → w.before a V = true
theorem xm_Nx.moved {u U : State} (hvm : u.WarmedH U.vm) (h : xm_Nx u) : xm_Nx U := fun V hV => h V (State.WarmedH.trans hvm hV)
theorem xm_Zx.moved {B : Nat} {u U : State} (hvm : u.vm.Alike U.vm) (ho : ∀ q : Nat, q ≤ B → U.heap[q]? = u.heap[q]?) (h : xm_Zx B u) : xm_Zx B U := fun V hV hh => h V (hvm.trans hV) (fun q hq => (hh q hq).trans (ho q hq))
def xm_cpp : List (List (List (Nat × Nat))) := [[[(1, 19)], [(1, 22)], [(1, 81)], [(1, 82)], [(1, 83)], [(1, 24), (1, 25), (1, 2)], [(1, 27), (1, 2)], [(1, 84)], [(1, 85)], [(1, 41), (1, 42), (1, 3)], [(1, 44), (1, 3)], [(1, 86)], [(1, 104), (1, 105), (1, 1)], [(1, 107), (1, 108), (1, 5)], [(1, 155), (1, 157), (0, 0), (1, 1)], [(1, 163), (1, 165), (0, 1), (1, 1)], [(1, 167), (1, 168), (1, 169), (1, 5)], [(1, 124)], [(1, 175), (1, 176), (1, 177), (1, 5)], [(1, 183), (1, 184), (1, 5)], [(1, 186), (1, 187), (1, 188), (1, 5)], [(1, 194), (1, 195), (1, 5)], [(1, 201), (1, 202), (1, 7)], [(1, 203), (1, 204), (1, 7)], [(1, 237), (1, 238), (1, 239), (1, 7)], [(2, 9), (2, 10), (2, 11), (1, 7)], [(2, 17), (2, 18), (2, 19), (1, 7)], [(2, 33), (2, 34), (1, 5)], [(1, 34)], [(2, 40), (2, 41), (2, 42), (1, 2)], [], [], [(2, 139), (2, 140), (2, 141), (1, 3)], [(1, 50)], [(3, 93), (2, 144), (2, 145), (1, 2)], [(2, 52), (2, 53), (2, 54), (1, 2)], [(1, 210)], [(1, 220)], [(1, 137)]],
  [[(1, 115)], [(1, 123)], [(1, 110), (1, 111), (1, 5)], [(1, 126)], [(1, 127)], [(1, 129)], [(1, 130)], [(1, 131)], [(1, 133)], [(1, 116), (1, 117), (1, 118), (1, 7)], [(1, 135)], [(1, 112), (1, 113), (1, 5)], [(1, 209)], [(1, 171), (1, 172), (1, 173), (1, 5)], [(2, 196), (2, 197), (2, 198), (1, 5)], [(2, 5), (2, 6), (2, 7), (1, 5)], [(2, 29), (2, 30), (2, 31), (1, 5)], [(2, 187), (2, 188), (2, 189), (1, 7)], [(1, 213)]],
  [[(1, 206)], [(1, 207)], [(1, 212)], [(1, 215)], [(1, 217)], [(1, 219)], [(1, 208)], [(2, 1), (2, 2), (2, 3), (1, 5)], [(2, 21), (2, 23), (0, 2), (1, 7)], [(2, 25), (2, 26), (2, 27), (1, 5)], [(1, 136)], [(1, 120)], [(2, 191), (2, 30), (2, 31), (1, 5)]],
  [[(1, 29)], [(1, 30)], [(1, 32)], [(2, 147)], [(3, 88), (3, 89), (1, 2)], [], [], [(2, 221), (2, 223), (0, 13), (1, 2)], [(2, 225)], [(3, 3), (3, 5), (0, 15), (1, 2)]],
  [[(1, 46)], [(1, 47), (1, 25), (1, 2)], [(1, 27), (1, 2)], [(1, 49)], [(1, 51)], [(1, 52)], [(1, 53)], [(1, 54)], [(1, 55)], [(1, 56)], [(1, 57)], [(1, 58)], [(1, 59)], [(2, 143), (2, 144), (2, 145), (1, 2)], [(1, 33)], [(2, 148), (2, 150), (0, 4), (1, 3)], [], [], [(2, 167), (2, 169), (0, 5), (1, 3)], [(2, 179), (2, 181), (0, 8), (1, 3)], [(2, 183), (2, 184), (2, 185), (1, 5)], [(2, 192), (2, 193), (2, 194), (1, 5)], [(1, 125)], [(1, 134)], [(2, 200), (2, 202), (0, 9), (1, 3)], [(3, 11), (3, 13), (0, 16), (1, 3)], [(3, 15), (3, 17), (0, 17), (1, 3)], [(3, 19), (3, 21), (0, 18), (1, 3)], [(3, 36), (3, 38), (0, 22), (1, 3)], [(3, 62), (3, 64), (0, 25), (1, 3)], [(3, 82), (2, 197), (2, 198), (1, 5)], [(3, 83), (3, 84), (3, 85), (1, 2)], [(1, 31)], [(2, 171), (2, 173), (0, 6), (1, 3)], [(2, 175), (2, 177), (0, 7), (1, 3)], [(3, 66), (3, 68), (0, 26), (1, 3)], [(3, 70), (3, 72), (0, 27), (1, 3)], [(3, 74), (3, 76), (0, 28), (1, 3)], [(3, 78), (3, 80), (0, 29), (1, 3)], [(3, 23), (2, 41), (2, 42), (1, 2)], [(1, 128)], [(3, 61), (2, 6), (2, 7), (1, 5)], [(3, 24), (3, 26), (0, 19), (1, 3)], [(3, 40), (3, 42), (0, 23), (1, 3)], [(3, 57), (3, 59), (0, 24), (1, 3)], [(3, 28), (3, 30), (0, 20), (1, 3)], [(2, 204), (2, 206), (0, 10), (1, 3)], [(3, 32), (3, 34), (0, 21), (1, 3)], [(3, 44), (3, 45), (1, 3)], [(3, 47), (3, 48), (1, 3)], [(3, 51), (3, 52), (1, 3)], [(1, 132)], [(2, 213), (2, 215), (0, 12), (1, 3)], [(2, 208), (2, 210), (0, 11), (1, 3)], [(2, 212), (2, 188), (2, 189), (1, 7)], [(1, 214)], [(1, 216)], [(1, 218)], [(1, 211)], [(3, 7), (3, 8), (3, 9), (1, 7)], [(2, 217), (2, 218), (2, 219), (1, 2)], [(2, 228), (2, 229), (2, 230), (1, 2)], [(2, 232), (2, 234), (0, 14), (1, 3)], [(2, 239), (3, 0), (3, 1), (1, 2)], [(2, 236)]],
  [[(3, 99)], [(3, 102)], [(3, 103)], [(3, 104)], [(3, 105)], [(3, 106)], [(3, 107)], [(3, 108)], [(3, 109)], [(3, 110)], [(3, 111)], [(3, 112)], [(3, 113)], [(3, 114)], [(3, 117)], [(3, 119)], [(3, 127)], [(3, 129)], [(3, 130)], [(3, 131)], [(3, 132)], [(3, 133)], [(3, 134)], [(3, 135)], [(3, 136)], [(3, 137)], [(3, 139)], [(3, 140)], [(3, 141)], [(3, 143)], [(3, 144)], [(3, 145)], [(3, 146)], [(3, 100)], [(3, 101)], [(4, 11), (4, 13), (0, 30), (1, 4)], [(4, 19), (4, 21), (0, 31), (1, 4)], [(4, 27), (4, 29), (0, 32), (1, 4)], [(3, 115)], [(4, 44), (4, 46), (0, 33), (1, 4)], [(4, 60), (4, 62), (0, 36), (1, 4)], [(4, 56), (4, 58), (0, 35), (1, 4)], [(4, 52), (4, 54), (0, 34), (1, 4)], [(3, 116)], [(3, 121)], [(3, 122)], [(3, 120)], [(4, 92), (4, 94), (0, 41), (1, 4)], [(3, 124)], [(3, 123)], [(4, 88), (4, 90), (0, 40), (1, 4)], [(3, 125)], [(3, 142)], [(4, 150), (4, 152), (0, 54), (1, 4)], [(3, 138)], [(3, 126)], [(4, 146), (4, 148), (0, 53), (1, 4)], [(4, 154), (4, 156), (0, 55), (1, 4)], [(4, 186), (4, 188), (0, 63), (1, 4)], [(4, 170), (4, 172), (0, 59), (1, 4)], [(4, 142), (4, 144), (0, 52), (1, 4)], [(4, 174), (4, 176), (0, 60), (1, 4)], [(4, 117), (4, 119), (0, 47), (1, 4)], [(4, 113), (4, 115), (0, 46), (1, 4)], [(4, 121), (4, 123), (0, 48), (1, 4)], [(4, 104), (4, 106), (0, 44), (1, 4)], [(4, 109), (4, 111), (0, 45), (1, 4)], [(4, 125), (4, 127), (0, 49), (1, 4)], [(4, 133), (4, 135), (0, 50), (1, 4)], [(4, 138), (4, 140), (0, 51), (1, 4)], [(3, 128)], [(4, 84), (4, 86), (0, 39), (1, 4)], [(4, 96), (4, 98), (0, 42), (1, 4)], [(4, 100), (4, 102), (0, 43), (1, 4)], [(4, 158), (4, 160), (0, 56), (1, 4)], [(4, 182), (4, 184), (0, 62), (1, 4)], [(4, 80), (4, 82), (0, 38), (1, 4)], [(4, 178), (4, 180), (0, 61), (1, 4)], [(4, 166), (4, 168), (0, 58), (1, 4)], [(4, 190), (4, 192), (0, 64), (1, 4)], [(4, 194), (4, 196), (0, 65), (1, 4)], [(4, 76), (4, 78), (0, 37), (1, 4)], [(4, 162), (4, 164), (0, 57), (1, 4)], [(3, 118)]],
  [[(2, 73), (2, 74), (2, 75), (1, 1)], [(1, 14), (1, 15), (1, 1)], [(1, 16), (1, 17), (1, 1)], [(3, 94), (3, 95), (1, 4)], [(3, 96), (3, 97), (1, 4)], [(1, 100), (1, 101), (1, 102), (1, 1)], [(4, 7), (4, 8), (4, 9), (1, 4)], [(1, 159), (1, 160), (1, 161), (1, 1)], [(4, 15), (4, 16), (4, 17), (1, 4)], [(1, 179), (1, 180), (1, 181), (1, 1)], [(4, 23), (4, 24), (4, 25), (1, 4)], [(1, 190), (1, 191), (1, 192), (1, 1)], [(4, 32), (4, 33), (4, 34), (1, 4)], [(1, 197), (1, 198), (1, 199), (1, 1)], [(4, 36), (4, 37), (4, 38), (1, 4)], [(1, 233), (1, 234), (1, 235), (1, 1)], [(4, 40), (4, 41), (4, 42), (1, 4)], [(2, 13), (2, 14), (2, 15), (1, 1)], [(4, 48), (4, 49), (4, 50), (1, 4)], [(2, 36), (2, 37), (2, 38), (1, 1)], [(4, 64), (4, 65), (4, 66), (1, 4)], [(2, 44), (2, 45), (2, 46), (1, 1)], [(4, 68), (4, 69), (4, 70), (1, 4)], [(2, 68), (2, 69), (1, 0)], [(4, 72), (4, 73), (4, 74), (1, 4)], [(4, 3), (4, 4), (4, 5), (1, 4)], [(2, 48), (2, 49), (2, 50), (1, 1)], [(4, 198), (4, 199), (4, 200), (1, 4)], [(2, 56), (2, 57), (2, 58), (1, 1)], [(4, 202), (4, 203), (4, 204), (1, 4)], [(2, 60), (2, 61), (2, 62), (1, 1)], [(4, 206), (4, 207), (4, 208), (1, 4)], [(2, 64), (2, 65), (2, 66), (1, 1)], [(4, 210), (4, 211), (4, 212), (1, 4)]]]
def xm_lpp : List (List (Nat × Nat)) := [[(1, 87), (1, 89), (1, 91), (1, 93), (1, 95), (1, 97)],
  [(1, 138), (1, 140), (1, 142), (1, 144), (1, 146), (1, 148), (1, 150), (1, 152)],
  [(1, 221), (1, 223), (1, 225), (1, 227), (1, 229)],
  [(1, 35), (1, 37)],
  [(1, 60), (1, 62), (1, 64), (1, 66), (1, 68), (1, 70), (1, 72), (1, 74), (1, 76), (1, 78)],
  [(3, 147), (3, 149), (3, 151), (3, 153), (3, 155), (3, 157), (3, 159), (3, 161), (3, 163), (3, 165), (3, 167), (3, 169), (3, 171), (3, 173), (3, 175), (3, 177), (3, 179), (3, 181), (3, 183), (3, 185), (3, 187), (3, 189), (3, 191), (3, 193), (3, 195), (3, 197), (3, 199), (3, 201), (3, 203), (3, 205), (3, 207), (3, 209), (3, 211), (3, 213), (3, 215), (3, 217), (3, 219), (3, 221), (3, 223), (3, 225), (3, 227), (3, 229), (3, 231), (3, 233), (3, 235), (3, 237), (3, 239)]]
def xm_kip : List (List (Nat × Nat)) := [[], [], [], [(3, 87)], [(3, 50), (3, 54), (3, 55), (3, 56)], [(4, 31), (4, 129), (4, 130), (4, 131), (4, 132)], []]
def xm_klp : List (List (Nat × Nat)) := [[], [], [], [], [], [(4, 108), (4, 137)], [(4, 214)]]
def xm_mh (k : Nat) (z : Nat) : Bool := decide ((xm_y k).cls ≠ "java/lang/invoke/MethodHandle" ∧ (xm_y k).cls ≠ "java/lang/invoke/VarHandle" ∧ (parseMethodDescriptor (xm_y k).desc).map (fun d => d.parameters.length) = some z) && decide (xm_n k ≤ 41)
def xm_ck0 (ps : List (Nat × Nat)) (c idx ci j : Nat) : Bool := match xm_cls[ci]? with
  | none => false
  | some r => (decide (j < r.2.2) && xm_inw (.fieldLink (xm_cn c) idx (r.2.1 j).1 (r.2.1 j).2.1 (r.2.1 j).2.2.1) (xm_pt ps 0)) && (decide (parseFieldDescriptor (r.2.1 j).2.2.1 = some (xm_fty ci j)) && (decide ((r.2.1 j).2.2.2 = xm_fin ci j) && (decide (c = ci → (r.2.1 j).1 = xm_cn c))))
def xm_ck1 (ps : List (Nat × Nat)) (c idx k2 z : Nat) : Bool := (xm_inw (.methodLink (xm_cn c) idx (xm_y k2)) (xm_pt ps 0) && (xm_inw (.instanceMethod (xm_y k2)) (xm_pt ps 1) && (xm_inw (.selects (xm_own k2) (xm_y k2) (xm_y k2)) (xm_pt ps 2) && xm_inw (.initialized (xm_own k2)) (xm_pt ps 3)))) && (xm_mh k2 z && (decide ((xm_cls[xm_rc k2]?).map (fun r => r.1) = some (xm_own k2)) && (decide (xm_hh k2 = []) && decide (k2 < 134))))
def xm_ck2 (ps : List (Nat × Nat)) (c idx k2 z : Nat) : Bool := (xm_inw (.methodLink (xm_cn c) idx (xm_y k2)) (xm_pt ps 0) && (xm_inw (.static (xm_y k2)) (xm_pt ps 1) && xm_inw (.initialized (xm_own k2)) (xm_pt ps 2))) && (xm_mh k2 z && (decide (xm_hh k2 = []) && decide (k2 < 134)))
def xm_ck3 (ps : List (Nat × Nat)) (c idx k2 z : Nat) : Bool := (xm_inw (.methodLink (xm_cn c) idx (xm_y k2)) (xm_pt ps 0) && (xm_inw (.instanceMethod (xm_y k2)) (xm_pt ps 1) && xm_inw (.initialized (xm_own k2)) (xm_pt ps 2))) && (xm_mh k2 z && (decide (xm_hh k2 = []) && (decide (k2 < 134) && (decide ((xm_y k2).name = "<init>") && decide (xm_r k2 = none)))))
def xm_ck4 (ps : List (Nat × Nat)) (c idx ci : Nat) : Bool := match xm_cls[ci]? with
  | none => false
  | some r => (xm_inw (.classLink (xm_cn c) idx r.1) (xm_pt ps 0) && (xm_inw (.instantiable r.1 r.2.2) (xm_pt ps 1) && xm_inw (.initialized r.1) (xm_pt ps 2))) && (decide (xm_siz ci = r.2.2) && ((List.range r.2.2).all (fun j => decide (defaultValue (xm_fty ci j) = vp_V (xm_def ci) j)) && (xm_def ci).all (fun v => match v with
    | .ref _ => false
    | _ => true)))
def xm_ck12 (ps : List (Nat × Nat)) (c idx k2 z : Nat) : Bool := (xm_inw (.methodLink (xm_cn c) idx (xm_y k2)) (xm_pt ps 0) && (xm_inw (.static (xm_y k2)) (xm_pt ps 1) && xm_inw (.initialized (xm_own k2)) (xm_pt ps 2))) && (xm_mh k2 z && decide (k2 = 134))
def xm_ck13 (ps : List (Nat × Nat)) (c idx k2 z : Nat) : Bool := (decide (Cond.methodLinkNest (xm_cn c) idx (xm_y k2) "TagCoder" ∈ xm_xw) && (xm_inw (.instanceMethod (xm_y k2)) (xm_pt ps 0) && xm_inw (.initialized (xm_own k2)) (xm_pt ps 1))) && (xm_mh k2 z && (decide (xm_hh k2 = []) && (decide (k2 < 134) && (decide ((xm_y k2).name = "<init>") && decide (xm_r k2 = none)))))
def xm_ck (ps : List (Nat × Nat)) (c : Nat) (e : Nat × Nat × Nat × Nat) : Bool := match e.2.1 with
  | 0 => xm_ck0 ps c e.1 e.2.2.1 e.2.2.2
  | 1 => xm_ck1 ps c e.1 e.2.2.1 e.2.2.2
  | 2 => xm_ck2 ps c e.1 e.2.2.1 e.2.2.2
  | 3 => xm_ck3 ps c e.1 e.2.2.1 e.2.2.2
  | 4 => xm_ck4 ps c e.1 e.2.2.1
  | 6 => xm_inw (.classLink (xm_cn c) e.1 xm_eln) (xm_pt ps 0)
  | 7 => xm_inw (.methodLink (xm_cn c) e.1 Lib.objectInit) (xm_pt ps 0)
  | 8 => xm_inw (.methodLink (xm_cn c) e.1 arraycopyName) (xm_pt ps 0)
  | 9 => xm_inw (.methodLink (xm_cn c) e.1 Lib.Math.max.name) (xm_pt ps 0)
  | 10 => xm_inw (.methodLink (xm_cn c) e.1 Lib.Math.min.name) (xm_pt ps 0)
  | 12 => xm_ck12 ps c e.1 e.2.2.1 e.2.2.2
  | 13 => xm_ck13 ps c e.1 e.2.2.1 e.2.2.2
  | _ => true
set_option maxRecDepth 100000 in
theorem xm_ckall : (List.range 7).all (fun c => xm_za (fun e ps => xm_ck ps c e) (xm_cpl.getD c []) (xm_cpp.getD c [])) = true := by decide +kernel
set_option maxRecDepth 100000 in
theorem xm_ownall : (List.range 136).all (fun k => decide (xm_own k = xm_cn (xm_kc k)) && (decide (xm_kc k < 7) && (decide (plainName (xm_own k) = true) && (decide (xm_ini k = true → (xm_y k).name = "<init>"))))) = true := by decide +kernel

theorem xm_kc_lt {k : Nat} (h : xm_kc k < 7) : k < 136 := by
  unfold xm_kc at h
  by_cases hk : k < 136
  · exact hk
  · exfalso
    rw [List.getD_eq_getElem?_getD, List.getElem?_eq_none (by show 136 ≤ k; omega)] at h
    exact absurd h (by decide)
theorem xm_own_cn {k : Nat} (h : xm_kc k < 7) : xm_own k = xm_cn (xm_kc k) := by
  have h1 := List.all_eq_true.mp xm_ownall k (List.mem_range.mpr (xm_kc_lt h))
  rw [Bool.and_eq_true] at h1
  exact of_decide_eq_true h1.1
theorem xm_cp_in {k idx : Nat} {v : Nat × Nat × Nat} (h : xm_cp k idx = some v) : (∃ ps, xm_ck ps (xm_kc k) (idx, v) = true) ∧ xm_own k = xm_cn (xm_kc k) := by
  have hin : (idx, v) ∈ xm_cpl.getD (xm_kc k) [] := xm_look_in (show xm_look (xm_cpl.getD (xm_kc k) []) idx = some v from h)
  have hk : xm_kc k < 7 := by
    by_cases hk : xm_kc k < 7
    · exact hk
    · exfalso
      rw [List.getD_eq_getElem?_getD, List.getElem?_eq_none (by show 7 ≤ xm_kc k; omega)] at hin
      cases hin
  have h1 := List.all_eq_true.mp xm_ckall (xm_kc k) (List.mem_range.mpr hk)
  obtain ⟨ps, h2⟩ := xm_za_in h1 hin
  exact ⟨⟨ps, h2⟩, xm_own_cn hk⟩
theorem xm_t_f {k idx ci j : Nat} (h : xm_cp k idx = some (0, ci, j)) : ∃ (C : String) (T : u_T) (N : Nat), xm_cls[ci]? = some (C, T, N) ∧ j < N ∧ Cond.fieldLink (xm_own k) idx (T j).1 (T j).2.1 (T j).2.2.1 ∈ xm_ws ∧ parseFieldDescriptor (T j).2.2.1 = some (xm_fty ci j) ∧ (T j).2.2.2 = xm_fin ci j ∧ (xm_kc k = ci → (T j).1 = xm_own k) := by
  obtain ⟨⟨ps, h1⟩, h2⟩ := xm_cp_in h
  have h3 : xm_ck0 ps (xm_kc k) idx ci j = true := h1
  unfold xm_ck0 at h3
  cases hr : xm_cls[ci]? with
  | none => rw [hr] at h3; cases h3
  | some r =>
    obtain ⟨C, T, N⟩ := r
    rw [hr] at h3
    simp only [Bool.and_eq_true, decide_eq_true_eq] at h3
    obtain ⟨⟨a1, a2⟩, a3, a4, a5⟩ := h3
    exact ⟨C, T, N, rfl, a1, by rw [h2]; exact xm_inw_in a2, a3, a4, by rw [h2]; exact a5⟩
set_option maxRecDepth 100000 in
theorem xm_layall : (List.range 6).all (fun ci => match xm_cls[ci]? with
  | none => false
  | some r => (xm_za xm_inw (u_ws r.1 r.2.1 r.2.2) (xm_lpp.getD ci []) && ((List.range r.2.2).all (fun j => decide (parseFieldDescriptor (r.2.1 j).2.2.1 = some (xm_fty ci j))) && (List.range r.2.2).all (fun a => (List.range r.2.2).all (fun b => decide (a = b) || decide ((r.2.1 a).2.1 ≠ (r.2.1 b).2.1)))))) = true := by decide +kernel
theorem xm_t_lay {ci : Nat} {C : String} {T : u_T} {N : Nat} (h : xm_cls[ci]? = some (C, T, N)) : (∀ w ∈ u_ws C T N, w ∈ xm_ws) ∧ (∀ j, j < N → parseFieldDescriptor (T j).2.2.1 = some (xm_fty ci j)) ∧ (∀ a, a < N → ∀ b, b < N → a ≠ b → (T a).2.1 ≠ (T b).2.1) := by
  have hl : ci < 6 := (List.getElem?_eq_some_iff.mp h).1
  have h1 := List.all_eq_true.mp xm_layall ci (List.mem_range.mpr hl)
  rw [h] at h1
  simp only [Bool.and_eq_true] at h1
  obtain ⟨a1, a2, a3⟩ := h1
  refine ⟨fun w hw => (by obtain ⟨q, hq⟩ := xm_za_in a1 hw; exact xm_inw_in hq), fun j hj => of_decide_eq_true (List.all_eq_true.mp a2 j (List.mem_range.mpr hj)), fun a ha b hb hab => ?_⟩
  have h2 := List.all_eq_true.mp (List.all_eq_true.mp a3 a (List.mem_range.mpr ha)) b (List.mem_range.mpr hb)
  rw [Bool.or_eq_true] at h2
  rcases h2 with h2 | h2
  · exact absurd (of_decide_eq_true h2) hab
  · exact of_decide_eq_true h2
theorem xm_t_new {k idx ci y : Nat} (h : xm_cp k idx = some (4, ci, y)) : ∃ (C : String) (T : u_T) (N : Nat), xm_cls[ci]? = some (C, T, N) ∧ Cond.classLink (xm_own k) idx C ∈ xm_ws ∧ Cond.instantiable C N ∈ xm_ws ∧ Cond.initialized C ∈ xm_ws ∧ N = xm_siz ci ∧ (∀ j, j < N → defaultValue (xm_fty ci j) = vp_V (xm_def ci) j) ∧ ∀ B sb : Nat, (xm_def ci).all (fun v => match v with
    | .ref _ => false
    | _ => true) = true := by
  obtain ⟨⟨ps, h1⟩, h2⟩ := xm_cp_in h
  have h3 : xm_ck4 ps (xm_kc k) idx ci = true := h1
  unfold xm_ck4 at h3
  cases hr : xm_cls[ci]? with
  | none => rw [hr] at h3; cases h3
  | some r =>
    obtain ⟨C, T, N⟩ := r
    rw [hr] at h3
    simp only [Bool.and_eq_true] at h3
    obtain ⟨⟨a1, a2, a3⟩, a4, a5, a6⟩ := h3
    exact ⟨C, T, N, rfl, by rw [h2]; exact xm_inw_in a1, xm_inw_in a2, xm_inw_in a3, (of_decide_eq_true a4).symm, fun j hj => of_decide_eq_true (List.all_eq_true.mp a5 j (List.mem_range.mpr hj)), fun _ _ => a6⟩
theorem xm_t_oin {k idx y1 y2 : Nat} (h : xm_cp k idx = some (7, y1, y2)) : Cond.methodLink (xm_own k) idx Lib.objectInit ∈ xm_ws ∧ Cond.instanceMethod Lib.objectInit ∈ xm_ws ∧ Cond.code Lib.objectInit ⟨#[0xb1]⟩ 1 none ∈ xm_ws := by
  obtain ⟨⟨ps, h1⟩, h2⟩ := xm_cp_in h
  exact ⟨by rw [h2]; exact xm_inw_in h1, xm_inw_in (q := (1, 20)) (by decide +kernel), xm_inw_in (q := (1, 21)) (by decide +kernel)⟩
theorem xm_t_cpy {k idx y1 y2 : Nat} (h : xm_cp k idx = some (8, y1, y2)) : Cond.methodLink (xm_own k) idx arraycopyName ∈ xm_ws ∧ Cond.native arraycopyName ∈ xm_ws ∧ Cond.static arraycopyName ∈ xm_ws ∧ Cond.initialized "java/lang/System" ∈ xm_ws := by
  obtain ⟨⟨ps, h1⟩, h2⟩ := xm_cp_in h
  exact ⟨by rw [h2]; exact xm_inw_in h1, xm_inw_in (q := (1, 122)) (by decide +kernel), xm_inw_in (q := (1, 121)) (by decide +kernel), xm_inw_in (q := (1, 6)) (by decide +kernel)⟩
theorem xm_t_max {k idx y1 y2 : Nat} (h : xm_cp k idx = some (9, y1, y2)) : Cond.methodLink (xm_own k) idx Lib.Math.max.name ∈ xm_ws ∧ Cond.static Lib.Math.max.name ∈ xm_ws ∧ Cond.initialized "java/lang/Math" ∈ xm_ws ∧ Cond.code Lib.Math.max.name Lib.Math.max.code 2 (some .int) ∈ xm_ws := by
  obtain ⟨⟨ps, h1⟩, h2⟩ := xm_cp_in h
  exact ⟨by rw [h2]; exact xm_inw_in h1, xm_inw_in (q := (2, 237)) (by decide +kernel), xm_inw_in (q := (1, 13)) (by decide +kernel), xm_inw_in (q := (2, 238)) (by decide +kernel)⟩
theorem xm_t_min {k idx y1 y2 : Nat} (h : xm_cp k idx = some (10, y1, y2)) : Cond.methodLink (xm_own k) idx Lib.Math.min.name ∈ xm_ws ∧ Cond.static Lib.Math.min.name ∈ xm_ws ∧ Cond.initialized "java/lang/Math" ∈ xm_ws ∧ Cond.code Lib.Math.min.name Lib.Math.min.code 2 (some .int) ∈ xm_ws := by
  obtain ⟨⟨ps, h1⟩, h2⟩ := xm_cp_in h
  exact ⟨by rw [h2]; exact xm_inw_in h1, xm_inw_in (q := (2, 226)) (by decide +kernel), xm_inw_in (q := (1, 13)) (by decide +kernel), xm_inw_in (q := (2, 227)) (by decide +kernel)⟩
theorem xm_t_anw {k idx y1 y2 : Nat} (h : xm_cp k idx = some (6, y1, y2)) : Cond.classLink (xm_own k) idx xm_eln ∈ xm_ws := by
  obtain ⟨⟨ps, h1⟩, h2⟩ := xm_cp_in h
  rw [h2]
  exact xm_inw_in h1
theorem xm_t_elt : ∃ r : vw_C, xm_cls[xm_elt]? = some r ∧ r.1 = xm_eln := ⟨_, rfl, rfl⟩
theorem xm_t_a0 : Cond.arrayClass (newarray.typeOf .int) ∈ xm_ws := xm_inw_in (q := (1, 40)) (by decide +kernel)
theorem xm_t_a1 : Cond.arrayClass (newarray.typeOf .long) ∈ xm_ws := xm_inw_in (q := (1, 232)) (by decide +kernel)
theorem xm_t_a2 : Cond.arrayClass (newarray.typeOf .boolean) ∈ xm_ws := xm_inw_in (q := (4, 2)) (by decide +kernel)
set_option maxRecDepth 100000 in
theorem xm_kiall : (List.range 7).all (fun c => xm_za (fun e q => xm_inw (.constant (xm_cn c) e.1 e.2) q) (xm_kil.getD c []) (xm_kip.getD c []) && xm_za (fun e q => xm_inw (.constantLong (xm_cn c) e.1 e.2) q) (xm_kll.getD c []) (xm_klp.getD c [])) = true := by decide +kernel
theorem xm_k_lt {α : Type} {t : List (List (Nat × α))} {k idx : Nat} {v : α} (ht : t.length = 7) (h : xm_look (t.getD (xm_kc k) []) idx = some v) : xm_kc k < 7 := by
  by_cases hk : xm_kc k < 7
  · exact hk
  · exfalso
    rw [List.getD_eq_getElem?_getD, List.getElem?_eq_none (by omega)] at h
    cases h
theorem xm_t_ki {k idx : Nat} {v : Int32} (h : xm_ki k idx = some v) : Cond.constant (xm_own k) idx v ∈ xm_ws := by
  have hk := xm_k_lt (t := xm_kil) rfl h
  have h1 := List.all_eq_true.mp xm_kiall _ (List.mem_range.mpr hk)
  rw [Bool.and_eq_true] at h1
  rw [xm_own_cn hk]
  obtain ⟨q, hq⟩ := xm_za_in h1.1 (xm_look_in (show xm_look (xm_kil.getD (xm_kc k) []) idx = some v from h))
  exact xm_inw_in hq
theorem xm_t_kl {k idx : Nat} {v : Int64} (h : xm_kl k idx = some v) : Cond.constantLong (xm_own k) idx v ∈ xm_ws := by
  have hk := xm_k_lt (t := xm_kll) rfl h
  have h1 := List.all_eq_true.mp xm_kiall _ (List.mem_range.mpr hk)
  rw [Bool.and_eq_true] at h1
  rw [xm_own_cn hk]
  obtain ⟨q, hq⟩ := xm_za_in h1.2 (xm_look_in (show xm_look (xm_kll.getD (xm_kc k) []) idx = some v from h))
  exact xm_inw_in hq
set_option maxRecDepth 100000 in
theorem xm_rrall : (List.range 136).all (fun k => !xm_rr k || (match xm_r k with
  | some (.object _) => true
  | some (.array _) => true
  | _ => false)) = true := by decide +kernel
theorem xm_t_rr {k : Nat} (h : xm_rr k = true) : ∃ rt : FieldType, xm_r k = some rt ∧ ((∃ n, rt = .object n) ∨ ∃ t, rt = .array t) := by
  have hk : k < 136 := by
    by_cases hk : k < 136
    · exact hk
    · exfalso
      unfold xm_rr at h
      rw [List.getD_eq_getElem?_getD, List.getElem?_eq_none (by show 136 ≤ k; omega)] at h
      cases h
  have h1 := List.all_eq_true.mp xm_rrall k (List.mem_range.mpr hk)
  rw [h] at h1
  simp only [Bool.not_true, Bool.false_or] at h1
  split at h1
  · rename_i n hr
    exact ⟨_, hr, Or.inl ⟨_, rfl⟩⟩
  · rename_i n hr
    exact ⟨_, hr, Or.inr ⟨_, rfl⟩⟩
  · cases h1
theorem xm_zip_at {k : Nat} (hk : k < 136) : (xm_b k, xm_il.getD k []) ∈ xm_bl.zip xm_il := by
  have h1 : k < xm_bl.length := hk
  have h2 : k < xm_il.length := hk
  have e1 : xm_b k = xm_bl[k] := by unfold xm_b; rw [List.getD_eq_getElem?_getD, List.getElem?_eq_getElem h1]; rfl
  have e2 : xm_il.getD k [] = xm_il[k] := by rw [List.getD_eq_getElem?_getD, List.getElem?_eq_getElem h2]; rfl
  rw [e1, e2]
  have h3 : k < (xm_bl.zip xm_il).length := by rw [List.length_zip]; omega
  have := List.getElem_mem h3
  rwa [List.getElem_zip] at this
theorem xm_ins_lt {k pc : Nat} {x : ClassFile.Instr × Nat} (h : xm_ins k pc = some x) : k < 136 := by
  by_cases hk : k < 136
  · exact hk
  · exfalso
    unfold xm_ins at h
    rw [List.getD_eq_getElem?_getD, List.getElem?_eq_none (by show 136 ≤ k; omega)] at h
    cases h
theorem xm_t_ins {k pc n : Nat} {i : ClassFile.Instr} (h : xm_ins k pc = some (i, n)) : decode (xm_b k) pc = .ok (i, n) :=
  by
  have h1 : xm_dc (xm_b k) (xm_il.getD k []) := xm_dall (xm_b k, xm_il.getD k []) (xm_zip_at (xm_ins_lt h))
  have h2 : (pc, (i, n)) ∈ xm_il.getD k [] := xm_look_in (show xm_look (xm_il.getD k []) pc = some (i, n) from h)
  exact h1 (pc, (i, n)) h2
theorem xm_t_plain {k pc : Nat} {x : ClassFile.Instr × Nat} (h : xm_ins k pc = some x) : plainName (xm_y k).cls = true := by
  have h1 := List.all_eq_true.mp xm_ownall k (List.mem_range.mpr (xm_ins_lt h))
  simp only [Bool.and_eq_true, decide_eq_true_eq] at h1
  exact h1.2.2.1
theorem xm_t_ini {k : Nat} (h : xm_ini k = true) : (xm_y k).name = "<init>" := by
  have hk : k < 136 := by
    by_cases hk : k < 136
    · exact hk
    · exfalso
      unfold xm_ini at h
      rw [List.getD_eq_getElem?_getD, List.getElem?_eq_none (by show 136 ≤ k; omega)] at h
      cases h
  have h1 := List.all_eq_true.mp xm_ownall k (List.mem_range.mpr hk)
  simp only [Bool.and_eq_true, decide_eq_true_eq] at h1
  exact h1.2.2.2 h
/-- a word of a throw: of the tables, or of the two lists -/
def xm_inx (w : Cond) (q : Nat × Nat) : Bool := if q.1 < 5 then xm_inw w q else if q.1 = 5 then decide (xm_xw[q.2]? = some w) else decide (xm_ew[q.2]? = some w)
theorem xm_inx_in {w : Cond} {q : Nat × Nat} (h : xm_inx w q = true) : w ∈ xm_ws ∨ w ∈ xm_xw ∨ w ∈ xm_ew := by
  unfold xm_inx at h
  split at h
  · exact Or.inl (xm_inw_in h)
  · split at h
    · exact Or.inr (Or.inl (List.mem_of_getElem? (of_decide_eq_true h)))
    · exact Or.inr (Or.inr (List.mem_of_getElem? (of_decide_eq_true h)))
def xm_exl : List (Nat × Nat × Nat × Nat × List (Nat × Nat) × (Nat × Nat) × (Nat × Nat)) := [(0, 102, 0, 104, [(1, 8), (2, 99), (2, 108), (2, 111), (2, 114), (2, 116), (2, 100), (2, 101), (1, 20), (1, 21), (2, 102), (2, 107), (2, 112), (2, 128), (2, 89), (2, 129), (2, 91), (2, 130), (2, 93), (2, 103), (6, 2), (2, 105), (6, 3), (2, 95), (2, 118), (2, 119), (2, 120), (2, 121), (5, 4), (2, 121), (2, 122), (2, 123), (2, 124), (5, 5), (2, 124), (2, 125), (2, 126), (2, 100), (5, 6), (2, 117), (2, 78), (5, 7), (2, 86), (2, 87), (2, 88), (2, 90), (2, 92), (2, 94), (6, 0), (6, 1), (2, 98), (2, 97), (2, 96)], (2, 77), (1, 11)),
  (3, 30, 1, 32, [(1, 8), (2, 99), (2, 108), (2, 111), (2, 114), (2, 116), (2, 100), (2, 101), (1, 20), (1, 21), (2, 102), (2, 107), (2, 112), (2, 128), (2, 89), (2, 129), (2, 91), (2, 130), (2, 93), (2, 103), (6, 2), (2, 105), (6, 3), (2, 95), (2, 162), (2, 163), (2, 164), (2, 121), (5, 4), (2, 121), (2, 122), (2, 123), (2, 124), (5, 5), (2, 124), (2, 125), (2, 126), (2, 100), (5, 6), (3, 92), (2, 153), (5, 8), (2, 155), (2, 110), (2, 156), (2, 157), (2, 158), (2, 159), (6, 0), (6, 1), (2, 98), (2, 97), (2, 160)], (3, 91), (1, 12)),
  (4, 59, 1, 61, [(1, 8), (2, 99), (2, 108), (2, 111), (2, 114), (2, 116), (2, 100), (2, 101), (1, 20), (1, 21), (2, 102), (2, 107), (2, 112), (2, 128), (2, 89), (2, 129), (2, 91), (2, 130), (2, 93), (2, 103), (6, 2), (2, 105), (6, 3), (2, 95), (2, 162), (2, 163), (2, 164), (2, 121), (5, 4), (2, 121), (2, 122), (2, 123), (2, 124), (5, 5), (2, 124), (2, 125), (2, 126), (2, 100), (5, 6), (2, 161), (2, 153), (5, 8), (2, 155), (2, 110), (2, 156), (2, 157), (2, 158), (2, 159), (6, 0), (6, 1), (2, 98), (2, 97), (2, 160)], (2, 152), (1, 12))]
set_option maxRecDepth 100000 in
theorem xm_exall : xm_exl.all (fun z => xm_za xm_inx (Bundle.ownAtoms0 (xm_cn z.1) z.2.2.2.1 (xm_xn z.2.2.1) xm_xs) z.2.2.2.2.1 && (xm_inw (.classLink (xm_cn z.1) z.2.1 (xm_xn z.2.2.1)) z.2.2.2.2.2.1 && (xm_inw (.initialized (xm_xn z.2.2.1)) z.2.2.2.2.2.2 && (decide (Bundle.fit (xm_xn z.2.2.1) = true) && xm_xs.all (fun n => Bundle.fit n))))) = true := by decide +kernel
set_option maxRecDepth 100000 in
theorem xm_exin : (List.range 7).all (fun c => (xm_cpl.getD c []).all (fun e => !decide (e.2.1 = 5) || xm_exl.any (fun z => decide (z.1 = c) && (decide (z.2.1 = e.1) && (decide (z.2.2.1 = e.2.2.1) && decide (z.2.2.2.1 = e.2.2.2)))))) = true := by decide +kernel
theorem xm_t_exc {k idx x ic : Nat} (h : xm_cp k idx = some (5, x, ic)) : Bundle.fit (xm_xn x) = true ∧ (∀ n ∈ xm_xs, Bundle.fit n = true) ∧ Cond.classLink (xm_own k) idx (xm_xn x) ∈ xm_ws ∧ Cond.initialized (xm_xn x) ∈ xm_ws ∧ ∀ w ∈ Bundle.ownAtoms0 (xm_own k) ic (xm_xn x) xm_xs, w ∈ xm_ws ∨ w ∈ xm_xw ∨ w ∈ xm_ew := by
  have hin : (idx, (5, x, ic)) ∈ xm_cpl.getD (xm_kc k) [] := xm_look_in (show xm_look (xm_cpl.getD (xm_kc k) []) idx = some (5, x, ic) from h)
  have hk : xm_kc k < 7 := xm_k_lt (t := xm_cpl) rfl (show xm_look (xm_cpl.getD (xm_kc k) []) idx = some (5, x, ic) from h)
  have h1 := List.all_eq_true.mp (List.all_eq_true.mp xm_exin _ (List.mem_range.mpr hk)) _ hin
  simp only [decide_true, Bool.not_true, Bool.false_or, List.any_eq_true, Bool.and_eq_true, decide_eq_true_eq] at h1
  obtain ⟨z, hz, z1, z2, z3, z4⟩ := h1
  have h2 := List.all_eq_true.mp xm_exall z hz
  rw [z1, z2, z3, z4] at h2
  simp only [Bool.and_eq_true, decide_eq_true_eq] at h2
  obtain ⟨b1, b2, b3, b4, b5⟩ := h2
  rw [xm_own_cn hk]
  exact ⟨b4, fun n hn => List.all_eq_true.mp b5 n hn, xm_inw_in b2, xm_inw_in b3, fun w hw => (by obtain ⟨q, hq⟩ := xm_za_in b1 hw; exact xm_inx_in hq)⟩
end
section
/-! One step of the small machine is what the instruction does: own work. -/
/-- what is known of the method that runs: number k, begun in the state s -/
def xm_G (B sb Lx : Nat) (xs : Nat → Int32) (D : va_G) (cs : Nat → ClassId) (l : Launch) (p : Program) (s : State) (m : MethodId) (args : Array Value) (meth : Method) (c : Code) (k : Nat) : Prop :=
  p.tables.exec = Jvm.exec ∧ c.code = xm_b k ∧ meth.sig.returnType = xm_r k ∧ c.maxLocals = xm_n k ∧ s.vm.findClass (xm_own k) = some m.cls ∧ (∀ w ∈ xm_ws, w.before args s = true) ∧ meth.locks = false ∧ (xm_ini k = true → meth.name = "<init>") ∧
  c.exceptionTable.toList = tableOf (xm_hh k) ∧ va_K D xm_cls (xm_tys cs) s ∧ va_X sb Lx xs s s.heap ∧ sb ≤ B ∧ B < s.heap.size ∧ xm_Zx B s ∧ xm_Nx s ∧ l.stackTraces = false
/-- from this frame and these cells the walk comes to its end -/
def xm_J (B sb : Nat) (D : va_G) (cs : Nat → ClassId) (p : Program) (l : Launch) (e : Env) (R : Room) (s : State) (m : MethodId) (args : Array Value) (below : List Frame) (meth : Method) (c : Code) (Q : State → Prop) (s0 : Nat) (f : xm_F) (h : xm_H) : Prop :=
  ∀ (H : Heap) (ls : Array Slot) (locs : List Loc) (cells slots : Nat), xm_hb B sb D cs h.1 H → (∀ q : Nat, q ≤ B → H[q]? = s.heap[q]?) → (∀ z ∈ locs, B < z.base) → s.heap.size + cells = B + h.1.length → s0 + slots = h.2 → xm_lh B sb f.2.2.1 ls → f.2.2.1.length = xm_n f.1 →
    W p l e R s m args below meth c H locs cells slots Q (F0 m f.2.1 ls (f.2.2.2.map (xm_cv B sb)))
section
variable {B sb Lx : Nat} {xs : Nat → Int32} {D : va_G} {cs : Nat → ClassId} {p : Program} {l : Launch} {e : Env} {R : Room} {s : State} {m : MethodId} {args : Array Value} {below : List Frame} {meth : Method} {c : Code} {Q : State → Prop} {s0 k pc : Nat} {L : xm_L} {st r : List Value} {h : xm_H}
theorem xm_noref {B sb : Nat} {l : List Value} (h : l.all (fun v => match v with
    | .ref _ => false
    | _ => true) = true) : l.map (xm_cv B sb) = l := by
  have h1 : ∀ v ∈ l, xm_cv B sb v = v := by
    intro v hv
    have h2 := List.all_eq_true.mp h v hv
    cases v with
    | ref i => cases h2
    | _ => rfl
  exact (List.map_congr_left h1).trans (List.map_id' l)
theorem xm_sz {H : Heap} {locs : List Loc} {cells slots : Nat} {g : JFrame} (kk : H.size ≤ s.heap.size + cells → W p l e R s m args below meth c H locs cells slots Q g) : W p l e R s m args below meth c H locs cells slots Q g := by
  intro T hT X
  refine kk ?_ T hT X
  have h3 := X.same.2.2.1
  rw [← hT]
  exact h3
theorem xm_tgt {pc : Nat} {off : Int} (h : 0 ≤ (pc : Int) + off) : (pc : Int) + off = ((xm_tg pc off : Nat) : Int) := by
  unfold xm_tg
  omega
theorem xm_len_st1 (L : xm_L) (i : Nat) (v : Value) : (xm_st1 L i v).length = L.length := by unfold xm_st1; rw [List.length_set, xm_clr_len]
theorem xm_len_st2 (L : xm_L) (i : Nat) (v : Value) : (xm_st2 L i v).length = L.length := by unfold xm_st2; rw [List.length_set, List.length_set, xm_clr_len]

theorem xm_r_iconst {a : Int} (G : xm_G B sb Lx xs D cs l p s m args meth c k) (hd : decode (xm_b k) pc = .ok (.iconst a, 1)) (kk : xm_J B sb D cs p l e R s m args below meth c Q s0 (k, pc + 1, L, .int (Int32.ofInt a) :: st) h) : xm_J B sb D cs p l e R s m args below meth c Q s0 (k, pc, L, st) h :=
  fun H ls locs cells slots a1 a2 a3 a4 a5 a6 a7 => lv_iconst G.1 G.2.1 hd rfl (kk H ls locs cells slots a1 a2 a3 a4 a5 a6 a7)
theorem xm_r_bipush {a : Int} (G : xm_G B sb Lx xs D cs l p s m args meth c k) (hd : decode (xm_b k) pc = .ok (.bipush a, 2)) (kk : xm_J B sb D cs p l e R s m args below meth c Q s0 (k, pc + 2, L, .int (Int8.ofInt a).toInt32 :: st) h) : xm_J B sb D cs p l e R s m args below meth c Q s0 (k, pc, L, st) h :=
  fun H ls locs cells slots a1 a2 a3 a4 a5 a6 a7 => lv_bipush G.1 G.2.1 hd rfl (kk H ls locs cells slots a1 a2 a3 a4 a5 a6 a7)
theorem xm_r_sipush {a : Int} (G : xm_G B sb Lx xs D cs l p s m args meth c k) (hd : decode (xm_b k) pc = .ok (.sipush a, 3)) (kk : xm_J B sb D cs p l e R s m args below meth c Q s0 (k, pc + 3, L, .int (Int16.ofInt a).toInt32 :: st) h) : xm_J B sb D cs p l e R s m args below meth c Q s0 (k, pc, L, st) h :=
  fun H ls locs cells slots a1 a2 a3 a4 a5 a6 a7 => lv_sipush G.1 G.2.1 hd rfl (kk H ls locs cells slots a1 a2 a3 a4 a5 a6 a7)
theorem xm_r_lconst {a : Fin 2} (G : xm_G B sb Lx xs D cs l p s m args meth c k) (hd : decode (xm_b k) pc = .ok (.lconst a, 1)) (kk : xm_J B sb D cs p l e R s m args below meth c Q s0 (k, pc + 1, L, .long (Int64.ofNat (a : Nat)) :: st) h) : xm_J B sb D cs p l e R s m args below meth c Q s0 (k, pc, L, st) h :=
  fun H ls locs cells slots a1 a2 a3 a4 a5 a6 a7 => lv_lconst G.1 G.2.1 hd rfl (kk H ls locs cells slots a1 a2 a3 a4 a5 a6 a7)
theorem xm_r_null (G : xm_G B sb Lx xs D cs l p s m args meth c k) (hd : decode (xm_b k) pc = .ok (.aconst_null, 1)) (kk : xm_J B sb D cs p l e R s m args below meth c Q s0 (k, pc + 1, L, .null :: st) h) : xm_J B sb D cs p l e R s m args below meth c Q s0 (k, pc, L, st) h :=
  fun H ls locs cells slots a1 a2 a3 a4 a5 a6 a7 => lv_null G.1 G.2.1 hd (kk H ls locs cells slots a1 a2 a3 a4 a5 a6 a7)
theorem xm_r_ldc {a : Nat} {v : Int32} (G : xm_G B sb Lx xs D cs l p s m args meth c k) (hd : decode (xm_b k) pc = .ok (.ldc a, 2)) (hk : xm_ki k a = some v) (kk : xm_J B sb D cs p l e R s m args below meth c Q s0 (k, pc + 2, L, .int v :: st) h) : xm_J B sb D cs p l e R s m args below meth c Q s0 (k, pc, L, st) h :=
  fun H ls locs cells slots a1 a2 a3 a4 a5 a6 a7 => lv_ldc G.1 G.2.1 G.2.2.2.2.1 (G.2.2.2.2.2.1 _ (xm_t_ki hk)) hd (kk H ls locs cells slots a1 a2 a3 a4 a5 a6 a7)
theorem xm_r_ldc2 {a : Nat} {v : Int64} (G : xm_G B sb Lx xs D cs l p s m args meth c k) (hd : decode (xm_b k) pc = .ok (.ldc2_w a, 3)) (hk : xm_kl k a = some v) (kk : xm_J B sb D cs p l e R s m args below meth c Q s0 (k, pc + 3, L, .long v :: st) h) : xm_J B sb D cs p l e R s m args below meth c Q s0 (k, pc, L, st) h :=
  fun H ls locs cells slots a1 a2 a3 a4 a5 a6 a7 => lv_ldc2 G.1 G.2.1 G.2.2.2.2.1 (G.2.2.2.2.2.1 _ (xm_t_kl hk)) hd (kk H ls locs cells slots a1 a2 a3 a4 a5 a6 a7)
theorem xm_r_ilo_n {a : Fin 4} {x : Int32} (G : xm_G B sb Lx xs D cs l p s m args meth c k) (hd : decode (xm_b k) pc = .ok (.iload_n a, 1)) (hl : xm_ld L a = some (.int x)) (kk : xm_J B sb D cs p l e R s m args below meth c Q s0 (k, pc + 1, L, .int x :: st) h) : xm_J B sb D cs p l e R s m args below meth c Q s0 (k, pc, L, st) h :=
  fun H ls locs cells slots a1 a2 a3 a4 a5 a6 a7 => lv_iload_n G.1 G.2.1 hd rfl (a6.2.2 _ _ (xm_ld_some hl)) (kk H ls locs cells slots a1 a2 a3 a4 a5 a6 a7)
theorem xm_r_ilo {a : Nat} {x : Int32} (G : xm_G B sb Lx xs D cs l p s m args meth c k) (hd : decode (xm_b k) pc = .ok (.iload a, 2)) (hl : xm_ld L a = some (.int x)) (kk : xm_J B sb D cs p l e R s m args below meth c Q s0 (k, pc + 2, L, .int x :: st) h) : xm_J B sb D cs p l e R s m args below meth c Q s0 (k, pc, L, st) h :=
  fun H ls locs cells slots a1 a2 a3 a4 a5 a6 a7 => lv_iload G.1 G.2.1 hd (a6.2.2 _ _ (xm_ld_some hl)) (kk H ls locs cells slots a1 a2 a3 a4 a5 a6 a7)
theorem xm_r_llo_n {a : Fin 4} {x : Int64} (G : xm_G B sb Lx xs D cs l p s m args meth c k) (hd : decode (xm_b k) pc = .ok (.lload_n a, 1)) (hl : xm_ld L a = some (.long x)) (kk : xm_J B sb D cs p l e R s m args below meth c Q s0 (k, pc + 1, L, .long x :: st) h) : xm_J B sb D cs p l e R s m args below meth c Q s0 (k, pc, L, st) h :=
  fun H ls locs cells slots a1 a2 a3 a4 a5 a6 a7 => lv_lload_n G.1 G.2.1 hd rfl (a6.2.2 _ _ (xm_ld_some hl)) (kk H ls locs cells slots a1 a2 a3 a4 a5 a6 a7)
theorem xm_r_llo {a : Nat} {x : Int64} (G : xm_G B sb Lx xs D cs l p s m args meth c k) (hd : decode (xm_b k) pc = .ok (.lload a, 2)) (hl : xm_ld L a = some (.long x)) (kk : xm_J B sb D cs p l e R s m args below meth c Q s0 (k, pc + 2, L, .long x :: st) h) : xm_J B sb D cs p l e R s m args below meth c Q s0 (k, pc, L, st) h :=
  fun H ls locs cells slots a1 a2 a3 a4 a5 a6 a7 => lv_lload G.1 G.2.1 hd (a6.2.2 _ _ (xm_ld_some hl)) (kk H ls locs cells slots a1 a2 a3 a4 a5 a6 a7)
theorem xm_r_alo_nr {a : Fin 4} {x : Nat} (G : xm_G B sb Lx xs D cs l p s m args meth c k) (hd : decode (xm_b k) pc = .ok (.aload_n a, 1)) (hl : xm_ld L a = some (.ref x)) (kk : xm_J B sb D cs p l e R s m args below meth c Q s0 (k, pc + 1, L, .ref x :: st) h) : xm_J B sb D cs p l e R s m args below meth c Q s0 (k, pc, L, st) h :=
  fun H ls locs cells slots a1 a2 a3 a4 a5 a6 a7 => lv_aload_n G.1 G.2.1 hd rfl (a6.2.2 _ _ (xm_ld_some hl)) (kk H ls locs cells slots a1 a2 a3 a4 a5 a6 a7)
theorem xm_r_alor {a : Nat} {x : Nat} (G : xm_G B sb Lx xs D cs l p s m args meth c k) (hd : decode (xm_b k) pc = .ok (.aload a, 2)) (hl : xm_ld L a = some (.ref x)) (kk : xm_J B sb D cs p l e R s m args below meth c Q s0 (k, pc + 2, L, .ref x :: st) h) : xm_J B sb D cs p l e R s m args below meth c Q s0 (k, pc, L, st) h :=
  fun H ls locs cells slots a1 a2 a3 a4 a5 a6 a7 => lv_aload G.1 G.2.1 hd (a6.2.2 _ _ (xm_ld_some hl)) (kk H ls locs cells slots a1 a2 a3 a4 a5 a6 a7)
theorem xm_r_alo_nz {a : Fin 4} (G : xm_G B sb Lx xs D cs l p s m args meth c k) (hd : decode (xm_b k) pc = .ok (.aload_n a, 1)) (hl : xm_ld L a = some (.null)) (kk : xm_J B sb D cs p l e R s m args below meth c Q s0 (k, pc + 1, L, .null :: st) h) : xm_J B sb D cs p l e R s m args below meth c Q s0 (k, pc, L, st) h :=
  fun H ls locs cells slots a1 a2 a3 a4 a5 a6 a7 => lv_aload_nN G.1 G.2.1 hd rfl (a6.2.2 _ _ (xm_ld_some hl)) (kk H ls locs cells slots a1 a2 a3 a4 a5 a6 a7)
theorem xm_r_aloz {a : Nat} (G : xm_G B sb Lx xs D cs l p s m args meth c k) (hd : decode (xm_b k) pc = .ok (.aload a, 2)) (hl : xm_ld L a = some (.null)) (kk : xm_J B sb D cs p l e R s m args below meth c Q s0 (k, pc + 2, L, .null :: st) h) : xm_J B sb D cs p l e R s m args below meth c Q s0 (k, pc, L, st) h :=
  fun H ls locs cells slots a1 a2 a3 a4 a5 a6 a7 => lv_aloadN G.1 G.2.1 hd (a6.2.2 _ _ (xm_ld_some hl)) (kk H ls locs cells slots a1 a2 a3 a4 a5 a6 a7)
theorem xm_r_ist_n {a : Fin 4} {x : Int32} (G : xm_G B sb Lx xs D cs l p s m args meth c k) (hd : decode (xm_b k) pc = .ok (.istore_n a, 1)) (hi : (a : Nat) < L.length) (kk : xm_J B sb D cs p l e R s m args below meth c Q s0 (k, pc + 1, xm_st1 L a (.int x), r) h) : xm_J B sb D cs p l e R s m args below meth c Q s0 (k, pc, L, .int x :: r) h :=
  fun H ls locs cells slots a1 a2 a3 a4 a5 a6 a7 => lv_istore_n G.1 G.2.1 hd rfl a6.has hi rfl (fun ls2 hl2 => kk H ls2 locs cells slots a1 a2 a3 a4 a5 (xm_lh.st1 hi hl2) ((xm_len_st1 _ _ _).trans a7))
theorem xm_r_ist {a : Nat} {x : Int32} (G : xm_G B sb Lx xs D cs l p s m args meth c k) (hd : decode (xm_b k) pc = .ok (.istore a, 2)) (hi : (a : Nat) < L.length) (kk : xm_J B sb D cs p l e R s m args below meth c Q s0 (k, pc + 2, xm_st1 L a (.int x), r) h) : xm_J B sb D cs p l e R s m args below meth c Q s0 (k, pc, L, .int x :: r) h :=
  fun H ls locs cells slots a1 a2 a3 a4 a5 a6 a7 => lv_istore G.1 G.2.1 hd a6.has hi rfl (fun ls2 hl2 => kk H ls2 locs cells slots a1 a2 a3 a4 a5 (xm_lh.st1 hi hl2) ((xm_len_st1 _ _ _).trans a7))
theorem xm_r_lst_n {a : Fin 4} {x : Int64} (G : xm_G B sb Lx xs D cs l p s m args meth c k) (hd : decode (xm_b k) pc = .ok (.lstore_n a, 1)) (hi : (a : Nat) + 1 < L.length) (kk : xm_J B sb D cs p l e R s m args below meth c Q s0 (k, pc + 1, xm_st2 L a (.long x), r) h) : xm_J B sb D cs p l e R s m args below meth c Q s0 (k, pc, L, .long x :: r) h :=
  fun H ls locs cells slots a1 a2 a3 a4 a5 a6 a7 => lv_lstore_n G.1 G.2.1 hd rfl a6.has hi rfl (fun ls2 hl2 => kk H ls2 locs cells slots a1 a2 a3 a4 a5 (xm_lh.st2 hi hl2) ((xm_len_st2 _ _ _).trans a7))
theorem xm_r_lst {a : Nat} {x : Int64} (G : xm_G B sb Lx xs D cs l p s m args meth c k) (hd : decode (xm_b k) pc = .ok (.lstore a, 2)) (hi : (a : Nat) + 1 < L.length) (kk : xm_J B sb D cs p l e R s m args below meth c Q s0 (k, pc + 2, xm_st2 L a (.long x), r) h) : xm_J B sb D cs p l e R s m args below meth c Q s0 (k, pc, L, .long x :: r) h :=
  fun H ls locs cells slots a1 a2 a3 a4 a5 a6 a7 => lv_lstore G.1 G.2.1 hd a6.has hi rfl (fun ls2 hl2 => kk H ls2 locs cells slots a1 a2 a3 a4 a5 (xm_lh.st2 hi hl2) ((xm_len_st2 _ _ _).trans a7))
theorem xm_r_ast_nr {a : Fin 4} {x : Nat} (G : xm_G B sb Lx xs D cs l p s m args meth c k) (hd : decode (xm_b k) pc = .ok (.astore_n a, 1)) (hi : (a : Nat) < L.length) (kk : xm_J B sb D cs p l e R s m args below meth c Q s0 (k, pc + 1, xm_st1 L a (.ref x), r) h) : xm_J B sb D cs p l e R s m args below meth c Q s0 (k, pc, L, .ref x :: r) h :=
  fun H ls locs cells slots a1 a2 a3 a4 a5 a6 a7 => lv_astore_n G.1 G.2.1 hd rfl a6.has hi rfl (fun ls2 hl2 => kk H ls2 locs cells slots a1 a2 a3 a4 a5 (xm_lh.st1 (v := .ref x) hi hl2) ((xm_len_st1 _ _ _).trans a7))
theorem xm_r_astr {a : Nat} {x : Nat} (G : xm_G B sb Lx xs D cs l p s m args meth c k) (hd : decode (xm_b k) pc = .ok (.astore a, 2)) (hi : (a : Nat) < L.length) (kk : xm_J B sb D cs p l e R s m args below meth c Q s0 (k, pc + 2, xm_st1 L a (.ref x), r) h) : xm_J B sb D cs p l e R s m args below meth c Q s0 (k, pc, L, .ref x :: r) h :=
  fun H ls locs cells slots a1 a2 a3 a4 a5 a6 a7 => lv_astore G.1 G.2.1 hd a6.has hi rfl (fun ls2 hl2 => kk H ls2 locs cells slots a1 a2 a3 a4 a5 (xm_lh.st1 (v := .ref x) hi hl2) ((xm_len_st1 _ _ _).trans a7))
theorem xm_r_ast_nz {a : Fin 4} (G : xm_G B sb Lx xs D cs l p s m args meth c k) (hd : decode (xm_b k) pc = .ok (.astore_n a, 1)) (hi : (a : Nat) < L.length) (kk : xm_J B sb D cs p l e R s m args below meth c Q s0 (k, pc + 1, xm_st1 L a (.null), r) h) : xm_J B sb D cs p l e R s m args below meth c Q s0 (k, pc, L, .null :: r) h :=
  fun H ls locs cells slots a1 a2 a3 a4 a5 a6 a7 => lv_astore_nN G.1 G.2.1 hd rfl a6.has hi rfl (fun ls2 hl2 => kk H ls2 locs cells slots a1 a2 a3 a4 a5 (xm_lh.st1 (v := .null) hi hl2) ((xm_len_st1 _ _ _).trans a7))
theorem xm_r_astz {a : Nat} (G : xm_G B sb Lx xs D cs l p s m args meth c k) (hd : decode (xm_b k) pc = .ok (.astore a, 2)) (hi : (a : Nat) < L.length) (kk : xm_J B sb D cs p l e R s m args below meth c Q s0 (k, pc + 2, xm_st1 L a (.null), r) h) : xm_J B sb D cs p l e R s m args below meth c Q s0 (k, pc, L, .null :: r) h :=
  fun H ls locs cells slots a1 a2 a3 a4 a5 a6 a7 => lv_astoreN G.1 G.2.1 hd a6.has hi rfl (fun ls2 hl2 => kk H ls2 locs cells slots a1 a2 a3 a4 a5 (xm_lh.st1 (v := .null) hi hl2) ((xm_len_st1 _ _ _).trans a7))
theorem xm_r_inc {a : Nat} {z : Int} {x : Int32} (G : xm_G B sb Lx xs D cs l p s m args meth c k) (hd : decode (xm_b k) pc = .ok (.iinc a z, 3)) (hl : xm_ld L a = some (.int x)) (hi : a < L.length) (kk : xm_J B sb D cs p l e R s m args below meth c Q s0 (k, pc + 3, xm_st1 L a (.int (x + Int32.ofInt z)), st) h) : xm_J B sb D cs p l e R s m args below meth c Q s0 (k, pc, L, st) h := by
  intro H ls locs cells slots a1 a2 a3 a4 a5 a6 a7
  obtain ⟨q, hq⟩ := List.mem_iff_getElem?.mp (xm_pr_in (B := B) (sb := sb) (xm_ld_some hl))
  exact lv_iinc (k := q) G.1 G.2.1 hd a6.has hq rfl hi rfl (fun ls2 hl2 => kk H ls2 locs cells slots a1 a2 a3 a4 a5 (xm_lh.st1 (v := .int (x + Int32.ofInt z)) hi hl2) ((xm_len_st1 _ _ _).trans a7))
theorem xm_r_iadd {x y : Int32} (G : xm_G B sb Lx xs D cs l p s m args meth c k) (hd : decode (xm_b k) pc = .ok (.iadd, 1)) (kk : xm_J B sb D cs p l e R s m args below meth c Q s0 (k, pc + 1, L, .int (x + y) :: r) h) : xm_J B sb D cs p l e R s m args below meth c Q s0 (k, pc, L, .int y :: .int x :: r) h :=
  fun H ls locs cells slots a1 a2 a3 a4 a5 a6 a7 => lv_iadd G.1 G.2.1 hd (kk H ls locs cells slots a1 a2 a3 a4 a5 a6 a7)
theorem xm_r_isub {x y : Int32} (G : xm_G B sb Lx xs D cs l p s m args meth c k) (hd : decode (xm_b k) pc = .ok (.isub, 1)) (kk : xm_J B sb D cs p l e R s m args below meth c Q s0 (k, pc + 1, L, .int (x - y) :: r) h) : xm_J B sb D cs p l e R s m args below meth c Q s0 (k, pc, L, .int y :: .int x :: r) h :=
  fun H ls locs cells slots a1 a2 a3 a4 a5 a6 a7 => lv_isub G.1 G.2.1 hd (kk H ls locs cells slots a1 a2 a3 a4 a5 a6 a7)
theorem xm_r_imul {x y : Int32} (G : xm_G B sb Lx xs D cs l p s m args meth c k) (hd : decode (xm_b k) pc = .ok (.imul, 1)) (kk : xm_J B sb D cs p l e R s m args below meth c Q s0 (k, pc + 1, L, .int (x * y) :: r) h) : xm_J B sb D cs p l e R s m args below meth c Q s0 (k, pc, L, .int y :: .int x :: r) h :=
  fun H ls locs cells slots a1 a2 a3 a4 a5 a6 a7 => lv_imul G.1 G.2.1 hd (kk H ls locs cells slots a1 a2 a3 a4 a5 a6 a7)
theorem xm_r_iand {x y : Int32} (G : xm_G B sb Lx xs D cs l p s m args meth c k) (hd : decode (xm_b k) pc = .ok (.iand, 1)) (kk : xm_J B sb D cs p l e R s m args below meth c Q s0 (k, pc + 1, L, .int (x &&& y) :: r) h) : xm_J B sb D cs p l e R s m args below meth c Q s0 (k, pc, L, .int y :: .int x :: r) h :=
  fun H ls locs cells slots a1 a2 a3 a4 a5 a6 a7 => lv_iand G.1 G.2.1 hd (kk H ls locs cells slots a1 a2 a3 a4 a5 a6 a7)
theorem xm_r_ior {x y : Int32} (G : xm_G B sb Lx xs D cs l p s m args meth c k) (hd : decode (xm_b k) pc = .ok (.ior, 1)) (kk : xm_J B sb D cs p l e R s m args below meth c Q s0 (k, pc + 1, L, .int (x ||| y) :: r) h) : xm_J B sb D cs p l e R s m args below meth c Q s0 (k, pc, L, .int y :: .int x :: r) h :=
  fun H ls locs cells slots a1 a2 a3 a4 a5 a6 a7 => lv_ior G.1 G.2.1 hd (kk H ls locs cells slots a1 a2 a3 a4 a5 a6 a7)
theorem xm_r_ishl {x y : Int32} (G : xm_G B sb Lx xs D cs l p s m args meth c k) (hd : decode (xm_b k) pc = .ok (.ishl, 1)) (kk : xm_J B sb D cs p l e R s m args below meth c Q s0 (k, pc + 1, L, .int (x <<< (y &&& 31)) :: r) h) : xm_J B sb D cs p l e R s m args below meth c Q s0 (k, pc, L, .int y :: .int x :: r) h :=
  fun H ls locs cells slots a1 a2 a3 a4 a5 a6 a7 => lv_ishl G.1 G.2.1 hd (kk H ls locs cells slots a1 a2 a3 a4 a5 a6 a7)
theorem xm_r_ishr {x y : Int32} (G : xm_G B sb Lx xs D cs l p s m args meth c k) (hd : decode (xm_b k) pc = .ok (.ishr, 1)) (kk : xm_J B sb D cs p l e R s m args below meth c Q s0 (k, pc + 1, L, .int (x >>> (y &&& 31)) :: r) h) : xm_J B sb D cs p l e R s m args below meth c Q s0 (k, pc, L, .int y :: .int x :: r) h :=
  fun H ls locs cells slots a1 a2 a3 a4 a5 a6 a7 => lv_ishr G.1 G.2.1 hd (kk H ls locs cells slots a1 a2 a3 a4 a5 a6 a7)
theorem xm_r_idiv {x y : Int32} (G : xm_G B sb Lx xs D cs l p s m args meth c k) (hd : decode (xm_b k) pc = .ok (.idiv, 1)) (hy : ¬ y = 0) (kk : xm_J B sb D cs p l e R s m args below meth c Q s0 (k, pc + 1, L, .int (x / y) :: r) h) : xm_J B sb D cs p l e R s m args below meth c Q s0 (k, pc, L, .int y :: .int x :: r) h :=
  fun H ls locs cells slots a1 a2 a3 a4 a5 a6 a7 => lv_idiv G.1 G.2.1 hd hy (kk H ls locs cells slots a1 a2 a3 a4 a5 a6 a7)
theorem xm_r_irem {x y : Int32} (G : xm_G B sb Lx xs D cs l p s m args meth c k) (hd : decode (xm_b k) pc = .ok (.irem, 1)) (hy : ¬ y = 0) (kk : xm_J B sb D cs p l e R s m args below meth c Q s0 (k, pc + 1, L, .int (x - x / y * y) :: r) h) : xm_J B sb D cs p l e R s m args below meth c Q s0 (k, pc, L, .int y :: .int x :: r) h :=
  fun H ls locs cells slots a1 a2 a3 a4 a5 a6 a7 => lv_irem G.1 G.2.1 hd hy (kk H ls locs cells slots a1 a2 a3 a4 a5 a6 a7)
theorem xm_r_ladd {x y : Int64} (G : xm_G B sb Lx xs D cs l p s m args meth c k) (hd : decode (xm_b k) pc = .ok (.ladd, 1)) (kk : xm_J B sb D cs p l e R s m args below meth c Q s0 (k, pc + 1, L, .long (x + y) :: r) h) : xm_J B sb D cs p l e R s m args below meth c Q s0 (k, pc, L, .long y :: .long x :: r) h :=
  fun H ls locs cells slots a1 a2 a3 a4 a5 a6 a7 => lv_ladd G.1 G.2.1 hd (kk H ls locs cells slots a1 a2 a3 a4 a5 a6 a7)
theorem xm_r_lmul {x y : Int64} (G : xm_G B sb Lx xs D cs l p s m args meth c k) (hd : decode (xm_b k) pc = .ok (.lmul, 1)) (kk : xm_J B sb D cs p l e R s m args below meth c Q s0 (k, pc + 1, L, .long (x * y) :: r) h) : xm_J B sb D cs p l e R s m args below meth c Q s0 (k, pc, L, .long y :: .long x :: r) h :=
  fun H ls locs cells slots a1 a2 a3 a4 a5 a6 a7 => lv_lmul G.1 G.2.1 hd (kk H ls locs cells slots a1 a2 a3 a4 a5 a6 a7)
theorem xm_r_land {x y : Int64} (G : xm_G B sb Lx xs D cs l p s m args meth c k) (hd : decode (xm_b k) pc = .ok (.land, 1)) (kk : xm_J B sb D cs p l e R s m args below meth c Q s0 (k, pc + 1, L, .long (x &&& y) :: r) h) : xm_J B sb D cs p l e R s m args below meth c Q s0 (k, pc, L, .long y :: .long x :: r) h :=
  fun H ls locs cells slots a1 a2 a3 a4 a5 a6 a7 => lv_land G.1 G.2.1 hd (kk H ls locs cells slots a1 a2 a3 a4 a5 a6 a7)
theorem xm_r_lor {x y : Int64} (G : xm_G B sb Lx xs D cs l p s m args meth c k) (hd : decode (xm_b k) pc = .ok (.lor, 1)) (kk : xm_J B sb D cs p l e R s m args below meth c Q s0 (k, pc + 1, L, .long (x ||| y) :: r) h) : xm_J B sb D cs p l e R s m args below meth c Q s0 (k, pc, L, .long y :: .long x :: r) h :=
  fun H ls locs cells slots a1 a2 a3 a4 a5 a6 a7 => lv_lor G.1 G.2.1 hd (kk H ls locs cells slots a1 a2 a3 a4 a5 a6 a7)
theorem xm_r_lshl {x : Int64} {y : Int32} (G : xm_G B sb Lx xs D cs l p s m args meth c k) (hd : decode (xm_b k) pc = .ok (.lshl, 1)) (kk : xm_J B sb D cs p l e R s m args below meth c Q s0 (k, pc + 1, L, .long (x <<< (y.toInt64 &&& 63)) :: r) h) : xm_J B sb D cs p l e R s m args below meth c Q s0 (k, pc, L, .int y :: .long x :: r) h :=
  fun H ls locs cells slots a1 a2 a3 a4 a5 a6 a7 => lv_lshl G.1 G.2.1 hd rfl (kk H ls locs cells slots a1 a2 a3 a4 a5 a6 a7)
theorem xm_r_lshr {x : Int64} {y : Int32} (G : xm_G B sb Lx xs D cs l p s m args meth c k) (hd : decode (xm_b k) pc = .ok (.lshr, 1)) (kk : xm_J B sb D cs p l e R s m args below meth c Q s0 (k, pc + 1, L, .long (x >>> (y.toInt64 &&& 63)) :: r) h) : xm_J B sb D cs p l e R s m args below meth c Q s0 (k, pc, L, .int y :: .long x :: r) h :=
  fun H ls locs cells slots a1 a2 a3 a4 a5 a6 a7 => lv_lshr G.1 G.2.1 hd rfl (kk H ls locs cells slots a1 a2 a3 a4 a5 a6 a7)
theorem xm_r_lushr {x : Int64} {y : Int32} (G : xm_G B sb Lx xs D cs l p s m args meth c k) (hd : decode (xm_b k) pc = .ok (.lushr, 1)) (kk : xm_J B sb D cs p l e R s m args below meth c Q s0 (k, pc + 1, L, .long ((x.toUInt64 >>> (y.toInt64.toUInt64 &&& Int64.toUInt64 63)).toInt64) :: r) h) : xm_J B sb D cs p l e R s m args below meth c Q s0 (k, pc, L, .int y :: .long x :: r) h :=
  fun H ls locs cells slots a1 a2 a3 a4 a5 a6 a7 => lv_lushr G.1 G.2.1 hd rfl (kk H ls locs cells slots a1 a2 a3 a4 a5 a6 a7)
theorem xm_r_lcmp {x y : Int64} (G : xm_G B sb Lx xs D cs l p s m args meth c k) (hd : decode (xm_b k) pc = .ok (.lcmp, 1)) (kk : xm_J B sb D cs p l e R s m args below meth c Q s0 (k, pc + 1, L, .int (lg_cmp x y) :: r) h) : xm_J B sb D cs p l e R s m args below meth c Q s0 (k, pc, L, .long y :: .long x :: r) h :=
  fun H ls locs cells slots a1 a2 a3 a4 a5 a6 a7 => W.lcmp G.1 G.2.1 hd (kk H ls locs cells slots a1 a2 a3 a4 a5 a6 a7)
theorem xm_r_i2l {x : Int32} (G : xm_G B sb Lx xs D cs l p s m args meth c k) (hd : decode (xm_b k) pc = .ok (.i2l, 1)) (kk : xm_J B sb D cs p l e R s m args below meth c Q s0 (k, pc + 1, L, .long x.toInt64 :: r) h) : xm_J B sb D cs p l e R s m args below meth c Q s0 (k, pc, L, .int x :: r) h :=
  fun H ls locs cells slots a1 a2 a3 a4 a5 a6 a7 => lv_i2l G.1 G.2.1 hd rfl (kk H ls locs cells slots a1 a2 a3 a4 a5 a6 a7)
theorem xm_r_l2i {x : Int64} (G : xm_G B sb Lx xs D cs l p s m args meth c k) (hd : decode (xm_b k) pc = .ok (.l2i, 1)) (kk : xm_J B sb D cs p l e R s m args below meth c Q s0 (k, pc + 1, L, .int x.toInt32 :: r) h) : xm_J B sb D cs p l e R s m args below meth c Q s0 (k, pc, L, .long x :: r) h :=
  fun H ls locs cells slots a1 a2 a3 a4 a5 a6 a7 => lv_l2i G.1 G.2.1 hd rfl (kk H ls locs cells slots a1 a2 a3 a4 a5 a6 a7)
theorem xm_r_dup {v : Value} (G : xm_G B sb Lx xs D cs l p s m args meth c k) (hd : decode (xm_b k) pc = .ok (.dup, 1)) (hv : v.category = 1) (kk : xm_J B sb D cs p l e R s m args below meth c Q s0 (k, pc + 1, L, v :: v :: r) h) : xm_J B sb D cs p l e R s m args below meth c Q s0 (k, pc, L, v :: r) h :=
  fun H ls locs cells slots a1 a2 a3 a4 a5 a6 a7 => lv_dup G.1 G.2.1 hd ((xm_cat_cv B sb v).trans hv) (kk H ls locs cells slots a1 a2 a3 a4 a5 a6 a7)
theorem xm_r_pop {v : Value} (G : xm_G B sb Lx xs D cs l p s m args meth c k) (hd : decode (xm_b k) pc = .ok (.pop, 1)) (hv : v.category = 1) (kk : xm_J B sb D cs p l e R s m args below meth c Q s0 (k, pc + 1, L, r) h) : xm_J B sb D cs p l e R s m args below meth c Q s0 (k, pc, L, v :: r) h :=
  fun H ls locs cells slots a1 a2 a3 a4 a5 a6 a7 => lv_pop G.1 G.2.1 hd ((xm_cat_cv B sb v).trans hv) (kk H ls locs cells slots a1 a2 a3 a4 a5 a6 a7)
theorem xm_r_dup_x1 {v u : Value} (G : xm_G B sb Lx xs D cs l p s m args meth c k) (hd : decode (xm_b k) pc = .ok (.dup_x1, 1)) (hv : v.category = 1) (hu : u.category = 1) (kk : xm_J B sb D cs p l e R s m args below meth c Q s0 (k, pc + 1, L, v :: u :: v :: r) h) : xm_J B sb D cs p l e R s m args below meth c Q s0 (k, pc, L, v :: u :: r) h :=
  fun H ls locs cells slots a1 a2 a3 a4 a5 a6 a7 => lv_dup_x1 G.1 G.2.1 hd ((xm_cat_cv B sb v).trans hv) ((xm_cat_cv B sb u).trans hu) (kk H ls locs cells slots a1 a2 a3 a4 a5 a6 a7)
theorem xm_r_dup_x2 {v u t : Value} (G : xm_G B sb Lx xs D cs l p s m args meth c k) (hd : decode (xm_b k) pc = .ok (.dup_x2, 1)) (hv : v.category = 1) (hu : u.category = 1) (ht : t.category = 1) (kk : xm_J B sb D cs p l e R s m args below meth c Q s0 (k, pc + 1, L, v :: u :: t :: v :: r) h) : xm_J B sb D cs p l e R s m args below meth c Q s0 (k, pc, L, v :: u :: t :: r) h :=
  fun H ls locs cells slots a1 a2 a3 a4 a5 a6 a7 => lv_dup_x2 G.1 G.2.1 hd ((xm_cat_cv B sb v).trans hv) ((xm_cat_cv B sb u).trans hu) ((xm_cat_cv B sb t).trans ht) (kk H ls locs cells slots a1 a2 a3 a4 a5 a6 a7)
theorem xm_r_dup2 {v u : Value} (G : xm_G B sb Lx xs D cs l p s m args meth c k) (hd : decode (xm_b k) pc = .ok (.dup2, 1)) (hv : v.category = 1) (hu : u.category = 1) (kk : xm_J B sb D cs p l e R s m args below meth c Q s0 (k, pc + 1, L, v :: u :: v :: u :: r) h) : xm_J B sb D cs p l e R s m args below meth c Q s0 (k, pc, L, v :: u :: r) h :=
  fun H ls locs cells slots a1 a2 a3 a4 a5 a6 a7 => lv_dup2_11 G.1 G.2.1 hd ((xm_cat_cv B sb v).trans hv) ((xm_cat_cv B sb u).trans hu) (kk H ls locs cells slots a1 a2 a3 a4 a5 a6 a7)
theorem xm_r_if_eq {x : Int32} {off : Int} (G : xm_G B sb Lx xs D cs l p s m args meth c k) (hd : decode (xm_b k) pc = .ok (.ifCond .eq off, 3)) (ho : 0 ≤ (pc : Int) + off) (kk : xm_J B sb D cs p l e R s m args below meth c Q s0 (k, (if xm_ic .eq x 0 = true then xm_tg pc off else pc + 3), L, r) h) : xm_J B sb D cs p l e R s m args below meth c Q s0 (k, pc, L, .int x :: r) h := by
  intro H ls locs cells slots a1 a2 a3 a4 a5 a6 a7
  have kk := kk H ls locs cells slots a1 a2 a3 a4 a5 a6 a7
  exact lv_if_eq G.1 G.2.1 hd (xm_tgt ho) (fun q => by rw [if_pos (by simpa [xm_ic] using q)] at kk; exact kk) (fun q => by rw [if_neg (by simpa [xm_ic] using q)] at kk; exact kk)
theorem xm_r_ic_eq {x y : Int32} {off : Int} (G : xm_G B sb Lx xs D cs l p s m args meth c k) (hd : decode (xm_b k) pc = .ok (.if_icmp .eq off, 3)) (ho : 0 ≤ (pc : Int) + off) (kk : xm_J B sb D cs p l e R s m args below meth c Q s0 (k, (if xm_ic .eq x y = true then xm_tg pc off else pc + 3), L, r) h) : xm_J B sb D cs p l e R s m args below meth c Q s0 (k, pc, L, .int y :: .int x :: r) h := by
  intro H ls locs cells slots a1 a2 a3 a4 a5 a6 a7
  have kk := kk H ls locs cells slots a1 a2 a3 a4 a5 a6 a7
  exact lv_icmp_eq G.1 G.2.1 hd (xm_tgt ho) (fun q => by rw [if_pos (by simpa [xm_ic] using q)] at kk; exact kk) (fun q => by rw [if_neg (by simpa [xm_ic] using q)] at kk; exact kk)
theorem xm_r_if_ne {x : Int32} {off : Int} (G : xm_G B sb Lx xs D cs l p s m args meth c k) (hd : decode (xm_b k) pc = .ok (.ifCond .ne off, 3)) (ho : 0 ≤ (pc : Int) + off) (kk : xm_J B sb D cs p l e R s m args below meth c Q s0 (k, (if xm_ic .ne x 0 = true then xm_tg pc off else pc + 3), L, r) h) : xm_J B sb D cs p l e R s m args below meth c Q s0 (k, pc, L, .int x :: r) h := by
  intro H ls locs cells slots a1 a2 a3 a4 a5 a6 a7
  have kk := kk H ls locs cells slots a1 a2 a3 a4 a5 a6 a7
  exact lv_if_ne G.1 G.2.1 hd (xm_tgt ho) (fun q => by rw [if_pos (by simpa [xm_ic] using q)] at kk; exact kk) (fun q => by rw [if_neg (by simpa [xm_ic] using q)] at kk; exact kk)
theorem xm_r_ic_ne {x y : Int32} {off : Int} (G : xm_G B sb Lx xs D cs l p s m args meth c k) (hd : decode (xm_b k) pc = .ok (.if_icmp .ne off, 3)) (ho : 0 ≤ (pc : Int) + off) (kk : xm_J B sb D cs p l e R s m args below meth c Q s0 (k, (if xm_ic .ne x y = true then xm_tg pc off else pc + 3), L, r) h) : xm_J B sb D cs p l e R s m args below meth c Q s0 (k, pc, L, .int y :: .int x :: r) h := by
  intro H ls locs cells slots a1 a2 a3 a4 a5 a6 a7
  have kk := kk H ls locs cells slots a1 a2 a3 a4 a5 a6 a7
  exact lv_icmp_ne G.1 G.2.1 hd (xm_tgt ho) (fun q => by rw [if_pos (by simpa [xm_ic] using q)] at kk; exact kk) (fun q => by rw [if_neg (by simpa [xm_ic] using q)] at kk; exact kk)
theorem xm_r_if_lt {x : Int32} {off : Int} (G : xm_G B sb Lx xs D cs l p s m args meth c k) (hd : decode (xm_b k) pc = .ok (.ifCond .lt off, 3)) (ho : 0 ≤ (pc : Int) + off) (kk : xm_J B sb D cs p l e R s m args below meth c Q s0 (k, (if xm_ic .lt x 0 = true then xm_tg pc off else pc + 3), L, r) h) : xm_J B sb D cs p l e R s m args below meth c Q s0 (k, pc, L, .int x :: r) h := by
  intro H ls locs cells slots a1 a2 a3 a4 a5 a6 a7
  have kk := kk H ls locs cells slots a1 a2 a3 a4 a5 a6 a7
  exact lv_if_lt G.1 G.2.1 hd (xm_tgt ho) (fun q => by rw [if_pos (by simpa [xm_ic] using q)] at kk; exact kk) (fun q => by rw [if_neg (by simpa [xm_ic] using q)] at kk; exact kk)
theorem xm_r_ic_lt {x y : Int32} {off : Int} (G : xm_G B sb Lx xs D cs l p s m args meth c k) (hd : decode (xm_b k) pc = .ok (.if_icmp .lt off, 3)) (ho : 0 ≤ (pc : Int) + off) (kk : xm_J B sb D cs p l e R s m args below meth c Q s0 (k, (if xm_ic .lt x y = true then xm_tg pc off else pc + 3), L, r) h) : xm_J B sb D cs p l e R s m args below meth c Q s0 (k, pc, L, .int y :: .int x :: r) h := by
  intro H ls locs cells slots a1 a2 a3 a4 a5 a6 a7
  have kk := kk H ls locs cells slots a1 a2 a3 a4 a5 a6 a7
  exact lv_icmp_lt G.1 G.2.1 hd (xm_tgt ho) (fun q => by rw [if_pos (by simpa [xm_ic] using q)] at kk; exact kk) (fun q => by rw [if_neg (by simpa [xm_ic] using q)] at kk; exact kk)
theorem xm_r_if_ge {x : Int32} {off : Int} (G : xm_G B sb Lx xs D cs l p s m args meth c k) (hd : decode (xm_b k) pc = .ok (.ifCond .ge off, 3)) (ho : 0 ≤ (pc : Int) + off) (kk : xm_J B sb D cs p l e R s m args below meth c Q s0 (k, (if xm_ic .ge x 0 = true then xm_tg pc off else pc + 3), L, r) h) : xm_J B sb D cs p l e R s m args below meth c Q s0 (k, pc, L, .int x :: r) h := by
  intro H ls locs cells slots a1 a2 a3 a4 a5 a6 a7
  have kk := kk H ls locs cells slots a1 a2 a3 a4 a5 a6 a7
  exact lv_if_ge G.1 G.2.1 hd (xm_tgt ho) (fun q => by rw [if_pos (by simpa [xm_ic] using q)] at kk; exact kk) (fun q => by rw [if_neg (by simpa [xm_ic] using q)] at kk; exact kk)
theorem xm_r_ic_ge {x y : Int32} {off : Int} (G : xm_G B sb Lx xs D cs l p s m args meth c k) (hd : decode (xm_b k) pc = .ok (.if_icmp .ge off, 3)) (ho : 0 ≤ (pc : Int) + off) (kk : xm_J B sb D cs p l e R s m args below meth c Q s0 (k, (if xm_ic .ge x y = true then xm_tg pc off else pc + 3), L, r) h) : xm_J B sb D cs p l e R s m args below meth c Q s0 (k, pc, L, .int y :: .int x :: r) h := by
  intro H ls locs cells slots a1 a2 a3 a4 a5 a6 a7
  have kk := kk H ls locs cells slots a1 a2 a3 a4 a5 a6 a7
  exact lv_icmp_ge G.1 G.2.1 hd (xm_tgt ho) (fun q => by rw [if_pos (by simpa [xm_ic] using q)] at kk; exact kk) (fun q => by rw [if_neg (by simpa [xm_ic] using q)] at kk; exact kk)
theorem xm_r_if_gt {x : Int32} {off : Int} (G : xm_G B sb Lx xs D cs l p s m args meth c k) (hd : decode (xm_b k) pc = .ok (.ifCond .gt off, 3)) (ho : 0 ≤ (pc : Int) + off) (kk : xm_J B sb D cs p l e R s m args below meth c Q s0 (k, (if xm_ic .gt x 0 = true then xm_tg pc off else pc + 3), L, r) h) : xm_J B sb D cs p l e R s m args below meth c Q s0 (k, pc, L, .int x :: r) h := by
  intro H ls locs cells slots a1 a2 a3 a4 a5 a6 a7
  have kk := kk H ls locs cells slots a1 a2 a3 a4 a5 a6 a7
  exact lv_if_gt G.1 G.2.1 hd (xm_tgt ho) (fun q => by rw [if_pos (by simpa [xm_ic] using q)] at kk; exact kk) (fun q => by rw [if_neg (by simpa [xm_ic] using q)] at kk; exact kk)
theorem xm_r_ic_gt {x y : Int32} {off : Int} (G : xm_G B sb Lx xs D cs l p s m args meth c k) (hd : decode (xm_b k) pc = .ok (.if_icmp .gt off, 3)) (ho : 0 ≤ (pc : Int) + off) (kk : xm_J B sb D cs p l e R s m args below meth c Q s0 (k, (if xm_ic .gt x y = true then xm_tg pc off else pc + 3), L, r) h) : xm_J B sb D cs p l e R s m args below meth c Q s0 (k, pc, L, .int y :: .int x :: r) h := by
  intro H ls locs cells slots a1 a2 a3 a4 a5 a6 a7
  have kk := kk H ls locs cells slots a1 a2 a3 a4 a5 a6 a7
  exact lv_icmp_gt G.1 G.2.1 hd (xm_tgt ho) (fun q => by rw [if_pos (by simpa [xm_ic] using q)] at kk; exact kk) (fun q => by rw [if_neg (by simpa [xm_ic] using q)] at kk; exact kk)
theorem xm_r_if_le {x : Int32} {off : Int} (G : xm_G B sb Lx xs D cs l p s m args meth c k) (hd : decode (xm_b k) pc = .ok (.ifCond .le off, 3)) (ho : 0 ≤ (pc : Int) + off) (kk : xm_J B sb D cs p l e R s m args below meth c Q s0 (k, (if xm_ic .le x 0 = true then xm_tg pc off else pc + 3), L, r) h) : xm_J B sb D cs p l e R s m args below meth c Q s0 (k, pc, L, .int x :: r) h := by
  intro H ls locs cells slots a1 a2 a3 a4 a5 a6 a7
  have kk := kk H ls locs cells slots a1 a2 a3 a4 a5 a6 a7
  exact lv_if_le G.1 G.2.1 hd (xm_tgt ho) (fun q => by rw [if_pos (by simpa [xm_ic] using q)] at kk; exact kk) (fun q => by rw [if_neg (by simpa [xm_ic] using q)] at kk; exact kk)
theorem xm_r_ic_le {x y : Int32} {off : Int} (G : xm_G B sb Lx xs D cs l p s m args meth c k) (hd : decode (xm_b k) pc = .ok (.if_icmp .le off, 3)) (ho : 0 ≤ (pc : Int) + off) (kk : xm_J B sb D cs p l e R s m args below meth c Q s0 (k, (if xm_ic .le x y = true then xm_tg pc off else pc + 3), L, r) h) : xm_J B sb D cs p l e R s m args below meth c Q s0 (k, pc, L, .int y :: .int x :: r) h := by
  intro H ls locs cells slots a1 a2 a3 a4 a5 a6 a7
  have kk := kk H ls locs cells slots a1 a2 a3 a4 a5 a6 a7
  exact lv_icmp_le G.1 G.2.1 hd (xm_tgt ho) (fun q => by rw [if_pos (by simpa [xm_ic] using q)] at kk; exact kk) (fun q => by rw [if_neg (by simpa [xm_ic] using q)] at kk; exact kk)
theorem xm_r_goto {off : Int} (G : xm_G B sb Lx xs D cs l p s m args meth c k) (hd : decode (xm_b k) pc = .ok (.goto off, 3)) (ho : 0 ≤ (pc : Int) + off) (kk : xm_J B sb D cs p l e R s m args below meth c Q s0 (k, (if true = true then xm_tg pc off else pc + 3), L, r) h) : xm_J B sb D cs p l e R s m args below meth c Q s0 (k, pc, L, r) h := by
  intro H ls locs cells slots a1 a2 a3 a4 a5 a6 a7
  have kk := kk H ls locs cells slots a1 a2 a3 a4 a5 a6 a7
  exact lv_goto G.1 G.2.1 hd (xm_tgt ho) (by rw [if_pos rfl] at kk; exact kk)
theorem xm_r_ifnullN {off : Int} (G : xm_G B sb Lx xs D cs l p s m args meth c k) (hd : decode (xm_b k) pc = .ok (.ifnull off, 3)) (ho : 0 ≤ (pc : Int) + off) (kk : xm_J B sb D cs p l e R s m args below meth c Q s0 (k, (if true = true then xm_tg pc off else pc + 3), L, r) h) : xm_J B sb D cs p l e R s m args below meth c Q s0 (k, pc, L, .null :: r) h := by
  intro H ls locs cells slots a1 a2 a3 a4 a5 a6 a7
  have kk := kk H ls locs cells slots a1 a2 a3 a4 a5 a6 a7
  exact lv_ifnullN G.1 G.2.1 hd (xm_tgt ho) (by rw [if_pos rfl] at kk; exact kk)
theorem xm_r_ifnull {x : Nat} {off : Int} (G : xm_G B sb Lx xs D cs l p s m args meth c k) (hd : decode (xm_b k) pc = .ok (.ifnull off, 3)) (ho : 0 ≤ (pc : Int) + off) (kk : xm_J B sb D cs p l e R s m args below meth c Q s0 (k, (if false = true then xm_tg pc off else pc + 3), L, r) h) : xm_J B sb D cs p l e R s m args below meth c Q s0 (k, pc, L, .ref x :: r) h := by
  intro H ls locs cells slots a1 a2 a3 a4 a5 a6 a7
  have kk := kk H ls locs cells slots a1 a2 a3 a4 a5 a6 a7
  exact lv_ifnull G.1 G.2.1 hd (by rw [if_neg (by decide)] at kk; exact kk)
theorem xm_r_ifnonnull {x : Nat} {off : Int} (G : xm_G B sb Lx xs D cs l p s m args meth c k) (hd : decode (xm_b k) pc = .ok (.ifnonnull off, 3)) (ho : 0 ≤ (pc : Int) + off) (kk : xm_J B sb D cs p l e R s m args below meth c Q s0 (k, (if true = true then xm_tg pc off else pc + 3), L, r) h) : xm_J B sb D cs p l e R s m args below meth c Q s0 (k, pc, L, .ref x :: r) h := by
  intro H ls locs cells slots a1 a2 a3 a4 a5 a6 a7
  have kk := kk H ls locs cells slots a1 a2 a3 a4 a5 a6 a7
  exact lv_ifnonnull G.1 G.2.1 hd (xm_tgt ho) (by rw [if_pos rfl] at kk; exact kk)
theorem xm_r_ifnonnullN {off : Int} (G : xm_G B sb Lx xs D cs l p s m args meth c k) (hd : decode (xm_b k) pc = .ok (.ifnonnull off, 3)) (ho : 0 ≤ (pc : Int) + off) (kk : xm_J B sb D cs p l e R s m args below meth c Q s0 (k, (if false = true then xm_tg pc off else pc + 3), L, r) h) : xm_J B sb D cs p l e R s m args below meth c Q s0 (k, pc, L, .null :: r) h := by
  intro H ls locs cells slots a1 a2 a3 a4 a5 a6 a7
  have kk := kk H ls locs cells slots a1 a2 a3 a4 a5 a6 a7
  exact lv_ifnonnullN G.1 G.2.1 hd (by rw [if_neg (by decide)] at kk; exact kk)
theorem xm_r_tout {d lo hi : Int} {offs : Array Int} {n : Nat} {x : Int32} (G : xm_G B sb Lx xs D cs l p s m args meth c k) (hd : decode (xm_b k) pc = .ok (.tableswitch d lo hi offs, n)) (hx : x.toInt < lo ∨ hi < x.toInt) (ho : 0 ≤ (pc : Int) + d) (kk : xm_J B sb D cs p l e R s m args below meth c Q s0 (k, xm_tg pc d, L, r) h) : xm_J B sb D cs p l e R s m args below meth c Q s0 (k, pc, L, .int x :: r) h :=
  fun H ls locs cells slots a1 a2 a3 a4 a5 a6 a7 => lv_tableOut G.1 G.2.1 hd hx (xm_tgt ho) (kk H ls locs cells slots a1 a2 a3 a4 a5 a6 a7)
theorem xm_r_tin {d lo hi off : Int} {offs : Array Int} {n : Nat} {x : Int32} (G : xm_G B sb Lx xs D cs l p s m args meth c k) (hd : decode (xm_b k) pc = .ok (.tableswitch d lo hi offs, n)) (hx : ¬ (x.toInt < lo ∨ hi < x.toInt)) (hf : offs.toList[(x.toInt - lo).toNat]? = some off) (ho : 0 ≤ (pc : Int) + off) (kk : xm_J B sb D cs p l e R s m args below meth c Q s0 (k, xm_tg pc off, L, r) h) : xm_J B sb D cs p l e R s m args below meth c Q s0 (k, pc, L, .int x :: r) h :=
  fun H ls locs cells slots a1 a2 a3 a4 a5 a6 a7 => lv_tableIn G.1 G.2.1 hd (fun q => hx (Or.inl q)) (fun q => hx (Or.inr q)) (by rw [← Array.getElem?_toList]; exact hf) (xm_tgt ho) (kk H ls locs cells slots a1 a2 a3 a4 a5 a6 a7)
theorem xm_r_lsw {d : Int} {ps : Array (Int × Int)} {n : Nat} {x : Int32} (G : xm_G B sb Lx xs D cs l p s m args meth c k) (hd : decode (xm_b k) pc = .ok (.lookupswitch d ps, n)) (hp : (ps.toList.zip (ps.toList.drop 1)).all (fun (a, next) => a.1 < next.1) = true) (ho : 0 ≤ (pc : Int) + Op.lookupswitch.offset ps.toList d x.toInt) (kk : xm_J B sb D cs p l e R s m args below meth c Q s0 (k, xm_tg pc (Op.lookupswitch.offset ps.toList d x.toInt), L, r) h) : xm_J B sb D cs p l e R s m args below meth c Q s0 (k, pc, L, .int x :: r) h :=
  fun H ls locs cells slots a1 a2 a3 a4 a5 a6 a7 => lv_lookup G.1 G.2.1 hd hp rfl (xm_tgt ho) (kk H ls locs cells slots a1 a2 a3 a4 a5 a6 a7)
/-- a cell is changed: what the kit's row gives is what the machine says -/
theorem xm_back {H H1 : Heap} {ls : Array Slot} {locs1 : List Loc} {cells slots i q0 pc2 : Nat} {e1 e2 : xm_E} {st2 : List Value} (kk : xm_J B sb D cs p l e R s m args below meth c Q s0 (k, pc2, L, st2) (xm_put h i e2)) (hB : B < s.heap.size)
    (a1 : xm_hb B sb D cs h.1 H) (a2 : ∀ q : Nat, q ≤ B → H[q]? = s.heap[q]?) (a4 : s.heap.size + cells = B + h.1.length) (a5 : s0 + slots = h.2) (a6 : xm_lh B sb L ls) (a7 : L.length = xm_n k)
    (hi : h.1[i]? = some (some e1)) (hq : (xm_wl B sb cs h.1)[q0]? = some (B + i, xm_ce B sb cs e1)) (hP : va_P D xm_cls ((xm_wl B sb cs h.1).set q0 (B + i, xm_ce B sb cs e2)) H1) (hS : va_S (fun q => B < q) H H1 locs1) :
    W p l e R s m args below meth c H1 locs1 cells slots Q (F0 m pc2 ls (st2.map (xm_cv B sb))) := by
  refine xm_sz fun hsz => ?_
  have hz : H1.size = H.size := by
    have h1 := hS.1
    have h2 := a1.1
    omega
  have hl : 0 < h.1.length := (List.getElem?_eq_some_iff.mp a1.2.1).1
  refine kk H1 ls locs1 cells slots (a1.set hi hq hP hz) (fun q hq9 => ?_) hS.2.2 ?_ a5 a6 a7
  · rw [hS.2.1 q (by have := a1.1; omega) (by omega)]
    exact a2 q hq9
  · show s.heap.size + cells = B + (h.1.set i (some e2)).length
    rw [List.length_set]
    exact a4
theorem xm_s0 {H : Heap} {locs : List Loc} (a3 : ∀ z ∈ locs, B < z.base) : va_S (fun q => B < q) H H locs := ⟨Nat.le_refl _, fun _ _ _ => rfl, a3⟩

theorem xm_r_gf {a i ci j : Nat} {fs : List Value} {v : Value} (G : xm_G B sb Lx xs D cs l p s m args meth c k) (hd : decode (xm_b k) pc = .ok (.getfield a, 3)) (hc : xm_cp k a = some (0, ci, j)) (hi : xm_cell h i = some (.inr (ci, fs))) (hv : fs[j]? = some v) (kk : xm_J B sb D cs p l e R s m args below meth c Q s0 (k, pc + 3, L, v :: r) h) : xm_J B sb D cs p l e R s m args below meth c Q s0 (k, pc, L, .ref i :: r) h := by
  intro H ls locs cells slots a1 a2 a3 a4 a5 a6 a7
  have hi := xm_cell_some hi
  obtain ⟨C, T, N, t1, t2, t3, -⟩ := xm_t_f hc
  obtain ⟨q0, hq⟩ := xm_wl_at (B := B) (sb := sb) (cs := cs) hi
  show W p l e R s m args below meth c H locs cells slots Q (F0 m pc ls (.ref (xm_ad B sb i) :: r.map (xm_cv B sb)))
  rw [a1.adr hi]
  exact va_get (D := D) (ci := ci) (v := xm_cv B sb v) (C := C) (T := T) (N := N) G.1 G.2.1 G.2.2.2.2.2.1 (xm_t_lay t1).1 G.2.2.2.2.1 G.2.2.2.2.2.2.2.2.2.1 (xm_wl_P a1) q0 (fs := fs.map (xm_cv B sb)) hq t1 j t2 (G.2.2.2.2.2.1 _ t3) (fun _ h9 => h9) (by rw [List.getElem?_map, hv]; rfl) hd (kk H ls locs cells slots a1 a2 a3 a4 a5 a6 a7)
theorem xm_fit_ok {ty : FieldType} {v : Value} (hf : xm_fit ty v = true) : narrow ty (xm_cv B sb v) = xm_cv B sb v ∧ fits ty (xm_cv B sb v) = true := by
  unfold xm_fit at hf
  split at hf
  · exact ⟨rfl, rfl⟩
  · rename_i x
    simp only [Bool.or_eq_true, decide_eq_true_eq] at hf
    rcases hf with rfl | rfl
    · exact ⟨show narrow .boolean (.int 0) = .int 0 from by decide +kernel, show fits .boolean (.int 0) = true from by decide +kernel⟩
    · exact ⟨show narrow .boolean (.int 1) = .int 1 from by decide +kernel, show fits .boolean (.int 1) = true from by decide +kernel⟩
  · exact ⟨rfl, rfl⟩
  · exact ⟨rfl, rfl⟩
  · exact ⟨rfl, rfl⟩
  · exact ⟨rfl, rfl⟩
  · exact ⟨rfl, rfl⟩
  · cases hf
theorem xm_r_pf {a i ci j : Nat} {fs : List Value} {v : Value} (G : xm_G B sb Lx xs D cs l p s m args meth c k) (hd : decode (xm_b k) pc = .ok (.putfield a, 3)) (hc : xm_cp k a = some (0, ci, j)) (hi : xm_cell h i = some (.inr (ci, fs))) (hj : j < fs.length) (hf : xm_fit (xm_fty ci j) v = true) (hk : xm_pok k ci j = true) (kk : xm_J B sb D cs p l e R s m args below meth c Q s0 (k, pc + 3, L, r) (xm_put h i (.inr (ci, fs.set j v)))) : xm_J B sb D cs p l e R s m args below meth c Q s0 (k, pc, L, v :: .ref i :: r) h := by
  intro H ls locs cells slots a1 a2 a3 a4 a5 a6 a7
  have hi := xm_cell_some hi
  obtain ⟨C, T, N, t1, t2, t3, t4, t5, t6⟩ := xm_t_f hc
  obtain ⟨u1, u2, u3⟩ := xm_t_lay t1
  obtain ⟨q0, hq⟩ := xm_wl_at (B := B) (sb := sb) (cs := cs) hi
  show W p l e R s m args below meth c H locs cells slots Q (F0 m pc ls (xm_cv B sb v :: .ref (xm_ad B sb i) :: r.map (xm_cv B sb)))
  rw [a1.adr hi]
  have hm : (fs.map (xm_cv B sb)).set j (xm_cv B sb v) = (fs.set j v).map (xm_cv B sb) := (List.map_set ..).symm
  unfold xm_pok at hk
  rw [Bool.or_eq_true] at hk
  by_cases hfin : xm_fin ci j = true
  · rw [hfin, Bool.not_true, Bool.and_eq_true] at hk
    obtain ⟨k1, k2⟩ := hk.resolve_left (by decide)
    refine va_putF (D := D) (ci := ci) (v := xm_cv B sb v) (ty := xm_fty ci j) (C := C) (T := T) (N := N) (H0 := H) (A := fun q => B < q) G.1 G.2.1 G.2.2.2.2.2.1 u1 (xm_fty ci) u2 u3 G.2.2.2.2.1 G.2.2.2.2.2.2.2.2.2.1 (xm_wl_P a1) (xm_wl_D a1) (xm_s0 a3) q0 (fs := fs.map (xm_cv B sb)) hq t1 j t2 (G.2.2.2.2.2.1 _ t3) (fun _ h9 => h9) (t5.trans hfin) (G.2.2.2.2.2.2.2.1 k1) (t6 (of_decide_eq_true k2)) t4 (xm_fit_ok hf).1 (xm_fit_ok hf).2 (by rw [List.length_map]; exact hj) hd (fun H1 locs1 hP _ hS => ?_)
    rw [hm] at hP
    exact xm_back kk G.2.2.2.2.2.2.2.2.2.2.2.2.1 a1 a2 a4 a5 a6 a7 hi hq hP hS
  · refine va_put (D := D) (ci := ci) (v := xm_cv B sb v) (ty := xm_fty ci j) (C := C) (T := T) (N := N) (H0 := H) (A := fun q => B < q) G.1 G.2.1 G.2.2.2.2.2.1 u1 (xm_fty ci) u2 u3 G.2.2.2.2.1 G.2.2.2.2.2.2.2.2.2.1 (xm_wl_P a1) (xm_wl_D a1) (xm_s0 a3) q0 (fs := fs.map (xm_cv B sb)) hq t1 j t2 (G.2.2.2.2.2.1 _ t3) (fun _ h9 => h9) (t5.trans (by simpa using hfin)) t4 (xm_fit_ok hf).1 (xm_fit_ok hf).2 (by rw [List.length_map]; exact hj) hd (fun H1 locs1 hP _ hS => ?_)
    rw [hm] at hP
    exact xm_back kk G.2.2.2.2.2.2.2.2.2.2.2.2.1 a1 a2 a4 a5 a6 a7 hi hq hP hS
theorem xm_r_iald {i n : Nat} {f : Nat → Int32} {j : Int32} (G : xm_G B sb Lx xs D cs l p s m args meth c k) (hd : decode (xm_b k) pc = .ok (.iaload, 1)) (hi : xm_cell h i = some (.inl (0, n, .inl f))) (hj : ¬ (j < 0 ∨ n ≤ j.toNatClampNeg)) (kk : xm_J B sb D cs p l e R s m args below meth c Q s0 (k, pc + 1, L, .int (f j.toNatClampNeg) :: r) h) : xm_J B sb D cs p l e R s m args below meth c Q s0 (k, pc, L, .int j :: .ref i :: r) h := by
  intro H ls locs cells slots a1 a2 a3 a4 a5 a6 a7
  have hi := xm_cell_some hi
  obtain ⟨q0, hq⟩ := xm_wl_at (B := B) (sb := sb) (cs := cs) hi
  show W p l e R s m args below meth c H locs cells slots Q (F0 m pc ls (.int j :: .ref (xm_ad B sb i) :: r.map (xm_cv B sb)))
  rw [a1.adr hi]
  exact va_iald (f := f) (n := n) G.1 G.2.1 G.2.2.2.2.2.2.2.2.2.1 (xm_wl_P a1) q0 0 hq rfl hj hd (kk H ls locs cells slots a1 a2 a3 a4 a5 a6 a7)
theorem xm_r_zald {i n : Nat} {f : Nat → Int32} {j : Int32} (G : xm_G B sb Lx xs D cs l p s m args meth c k) (hd : decode (xm_b k) pc = .ok (.baload, 1)) (hi : xm_cell h i = some (.inl (2, n, .inl f))) (hj : ¬ (j < 0 ∨ n ≤ j.toNatClampNeg)) (kk : xm_J B sb D cs p l e R s m args below meth c Q s0 (k, pc + 1, L, .int (f j.toNatClampNeg) :: r) h) : xm_J B sb D cs p l e R s m args below meth c Q s0 (k, pc, L, .int j :: .ref i :: r) h := by
  intro H ls locs cells slots a1 a2 a3 a4 a5 a6 a7
  have hi := xm_cell_some hi
  obtain ⟨q0, hq⟩ := xm_wl_at (B := B) (sb := sb) (cs := cs) hi
  show W p l e R s m args below meth c H locs cells slots Q (F0 m pc ls (.int j :: .ref (xm_ad B sb i) :: r.map (xm_cv B sb)))
  rw [a1.adr hi]
  exact va_zald (f := f) (n := n) G.1 G.2.1 G.2.2.2.2.2.2.2.2.2.1 (xm_wl_P a1) q0 2 hq rfl hj hd (kk H ls locs cells slots a1 a2 a3 a4 a5 a6 a7)
theorem xm_r_lald {i n : Nat} {f : Nat → Int64} {j : Int32} (G : xm_G B sb Lx xs D cs l p s m args meth c k) (hd : decode (xm_b k) pc = .ok (.laload, 1)) (hi : xm_cell h i = some (.inl (1, n, .inr (.inl f)))) (hj : ¬ (j < 0 ∨ n ≤ j.toNatClampNeg)) (kk : xm_J B sb D cs p l e R s m args below meth c Q s0 (k, pc + 1, L, .long (f j.toNatClampNeg) :: r) h) : xm_J B sb D cs p l e R s m args below meth c Q s0 (k, pc, L, .int j :: .ref i :: r) h := by
  intro H ls locs cells slots a1 a2 a3 a4 a5 a6 a7
  have hi := xm_cell_some hi
  obtain ⟨q0, hq⟩ := xm_wl_at (B := B) (sb := sb) (cs := cs) hi
  show W p l e R s m args below meth c H locs cells slots Q (F0 m pc ls (.int j :: .ref (xm_ad B sb i) :: r.map (xm_cv B sb)))
  rw [a1.adr hi]
  exact va_lald (f := f) (n := n) G.1 G.2.1 G.2.2.2.2.2.2.2.2.2.1 (xm_wl_P a1) q0 1 hq rfl hj hd (kk H ls locs cells slots a1 a2 a3 a4 a5 a6 a7)
theorem xm_cv_rf (B sb : Nat) (o : Option Nat) : xm_cv B sb (va_rf o) = va_rf (o.map (xm_ad B sb)) := by cases o <;> rfl
theorem xm_r_aald {i n : Nat} {f : Nat → Option Nat} {j : Int32} (G : xm_G B sb Lx xs D cs l p s m args meth c k) (hd : decode (xm_b k) pc = .ok (.aaload, 1)) (hi : xm_cell h i = some (.inl (3, n, .inr (.inr f)))) (hj : ¬ (j < 0 ∨ n ≤ j.toNatClampNeg)) (kk : xm_J B sb D cs p l e R s m args below meth c Q s0 (k, pc + 1, L, va_rf (f j.toNatClampNeg) :: r) h) : xm_J B sb D cs p l e R s m args below meth c Q s0 (k, pc, L, .int j :: .ref i :: r) h := by
  intro H ls locs cells slots a1 a2 a3 a4 a5 a6 a7
  have hi := xm_cell_some hi
  obtain ⟨q0, hq⟩ := xm_wl_at (B := B) (sb := sb) (cs := cs) hi
  have kk := kk H ls locs cells slots a1 a2 a3 a4 a5 a6 a7
  rw [List.map_cons, xm_cv_rf] at kk
  show W p l e R s m args below meth c H locs cells slots Q (F0 m pc ls (.int j :: .ref (xm_ad B sb i) :: r.map (xm_cv B sb)))
  rw [a1.adr hi]
  exact va_aldq (f := fun j => (f j).map (xm_ad B sb)) (n := n) G.1 G.2.1 G.2.2.2.2.2.2.2.2.2.1 (xm_wl_P a1) q0 3 hq rfl hj hd kk
theorem xm_r_sld {j : Int32} (G : xm_G B sb Lx xs D cs l p s m args meth c k) (hd : decode (xm_b k) pc = .ok (.iaload, 1)) (hj : ¬ (j < 0 ∨ Lx ≤ j.toNatClampNeg)) (kk : xm_J B sb D cs p l e R s m args below meth c Q s0 (k, pc + 1, L, .int (xs j.toNatClampNeg) :: r) h) : xm_J B sb D cs p l e R s m args below meth c Q s0 (k, pc, L, .int j :: .ref 0 :: r) h := by
  intro H ls locs cells slots a1 a2 a3 a4 a5 a6 a7
  have hX := G.2.2.2.2.2.2.2.2.2.2.1
  have hsb := G.2.2.2.2.2.2.2.2.2.2.2.1
  have hX2 : va_X sb Lx xs s H := hX.kept (a2 sb hsb)
  have hl : sb < H.size := by have := a1.1; have : 0 < h.1.length := (List.getElem?_eq_some_iff.mp a1.2.1).1; omega
  exact va_sld (A := fun q => B < q) (H0 := H) G.1 G.2.1 hX2 hl (by show ¬ B < sb; omega) (xm_s0 a3) hj hd (kk H ls locs cells slots a1 a2 a3 a4 a5 a6 a7)
theorem xm_r_slen (G : xm_G B sb Lx xs D cs l p s m args meth c k) (hd : decode (xm_b k) pc = .ok (.arraylength, 1)) (kk : xm_J B sb D cs p l e R s m args below meth c Q s0 (k, pc + 1, L, .int (Int32.ofNat Lx) :: r) h) : xm_J B sb D cs p l e R s m args below meth c Q s0 (k, pc, L, .ref 0 :: r) h := by
  intro H ls locs cells slots a1 a2 a3 a4 a5 a6 a7
  have hX := G.2.2.2.2.2.2.2.2.2.2.1
  have hsb := G.2.2.2.2.2.2.2.2.2.2.2.1
  have hX2 : va_X sb Lx xs s H := hX.kept (a2 sb hsb)
  have hl : sb < H.size := by have := a1.1; have : 0 < h.1.length := (List.getElem?_eq_some_iff.mp a1.2.1).1; omega
  exact va_slen (A := fun q => B < q) (H0 := H) G.1 G.2.1 hX2 hl (by show ¬ B < sb; omega) (xm_s0 a3) hd (kk H ls locs cells slots a1 a2 a3 a4 a5 a6 a7)
theorem xm_ca_1 (B sb n : Nat) (a : xm_A) : (xm_ca B sb n a).1 = n := by
  unfold xm_ca
  split <;> rfl
theorem xm_r_len {i t n : Nat} {x : xm_A} (G : xm_G B sb Lx xs D cs l p s m args meth c k) (hd : decode (xm_b k) pc = .ok (.arraylength, 1)) (hi : xm_cell h i = some (.inl (t, n, x))) (ht : t < 4) (kk : xm_J B sb D cs p l e R s m args below meth c Q s0 (k, pc + 1, L, .int (Int32.ofNat n) :: r) h) : xm_J B sb D cs p l e R s m args below meth c Q s0 (k, pc, L, .ref i :: r) h := by
  intro H ls locs cells slots a1 a2 a3 a4 a5 a6 a7
  have hi := xm_cell_some hi
  obtain ⟨q0, hq⟩ := xm_wl_at (B := B) (sb := sb) (cs := cs) hi
  show W p l e R s m args below meth c H locs cells slots Q (F0 m pc ls (.ref (xm_ad B sb i) :: r.map (xm_cv B sb)))
  rw [a1.adr hi]
  have hty : ∃ ty, (xm_tys cs)[t]? = some (cs t, ty) := by
    rcases (show t = 0 ∨ t = 1 ∨ t = 2 ∨ t = 3 by omega) with rfl | rfl | rfl | rfl <;> exact ⟨_, rfl⟩
  obtain ⟨ty, hty⟩ := hty
  exact va_alen (x := xm_ca B sb n x) (v := Int32.ofNat n) G.1 G.2.1 G.2.2.2.2.2.2.2.2.2.1 (xm_wl_P a1) q0 t hq hty (by rw [xm_ca_1]) hd (kk H ls locs cells slots a1 a2 a3 a4 a5 a6 a7)
theorem xm_r_iast {i n : Nat} {f : Nat → Int32} {j : Int32} {x : Int32} (G : xm_G B sb Lx xs D cs l p s m args meth c k) (hd : decode (xm_b k) pc = .ok (.iastore, 1)) (hi : xm_cell h i = some (.inl (0, n, .inl f))) (hj : ¬ (j < 0 ∨ n ≤ j.toNatClampNeg)) (kk : xm_J B sb D cs p l e R s m args below meth c Q s0 (k, pc + 1, L, r) (xm_put h i (.inl (0, n, .inl (upd f j.toNatClampNeg x))))) : xm_J B sb D cs p l e R s m args below meth c Q s0 (k, pc, L, .int x :: .int j :: .ref i :: r) h := by
  intro H ls locs cells slots a1 a2 a3 a4 a5 a6 a7
  have hi := xm_cell_some hi
  obtain ⟨q0, hq⟩ := xm_wl_at (B := B) (sb := sb) (cs := cs) hi
  show W p l e R s m args below meth c H locs cells slots Q (F0 m pc ls (.int x :: .int j :: .ref (xm_ad B sb i) :: r.map (xm_cv B sb)))
  rw [a1.adr hi]
  refine va_iast (f := f) (n := n) (H0 := H) (A := fun q => B < q) G.1 G.2.1 G.2.2.2.2.2.2.2.2.2.1 (xm_wl_P a1) (xm_wl_D a1) (xm_s0 a3) q0 0 hq rfl hj hd (fun H1 locs1 hP _ hS => ?_)
  exact xm_back kk G.2.2.2.2.2.2.2.2.2.2.2.2.1 a1 a2 a4 a5 a6 a7 hi hq hP hS
theorem xm_r_last {i n : Nat} {f : Nat → Int64} {j : Int32} {x : Int64} (G : xm_G B sb Lx xs D cs l p s m args meth c k) (hd : decode (xm_b k) pc = .ok (.lastore, 1)) (hi : xm_cell h i = some (.inl (1, n, .inr (.inl f)))) (hj : ¬ (j < 0 ∨ n ≤ j.toNatClampNeg)) (kk : xm_J B sb D cs p l e R s m args below meth c Q s0 (k, pc + 1, L, r) (xm_put h i (.inl (1, n, .inr (.inl (vp_updL f j.toNatClampNeg x)))))) : xm_J B sb D cs p l e R s m args below meth c Q s0 (k, pc, L, .long x :: .int j :: .ref i :: r) h := by
  intro H ls locs cells slots a1 a2 a3 a4 a5 a6 a7
  have hi := xm_cell_some hi
  obtain ⟨q0, hq⟩ := xm_wl_at (B := B) (sb := sb) (cs := cs) hi
  show W p l e R s m args below meth c H locs cells slots Q (F0 m pc ls (.long x :: .int j :: .ref (xm_ad B sb i) :: r.map (xm_cv B sb)))
  rw [a1.adr hi]
  refine va_last (f := f) (n := n) (H0 := H) (A := fun q => B < q) G.1 G.2.1 G.2.2.2.2.2.2.2.2.2.1 (xm_wl_P a1) (xm_wl_D a1) (xm_s0 a3) q0 1 hq rfl hj hd (fun H1 locs1 hP _ hS => ?_)
  exact xm_back kk G.2.2.2.2.2.2.2.2.2.2.2.2.1 a1 a2 a4 a5 a6 a7 hi hq hP hS
theorem xm_r_zast {i n : Nat} {f : Nat → Int32} {j : Int32} {x : Int32} (G : xm_G B sb Lx xs D cs l p s m args meth c k) (hd : decode (xm_b k) pc = .ok (.bastore, 1)) (hi : xm_cell h i = some (.inl (2, n, .inl f))) (hj : ¬ (j < 0 ∨ n ≤ j.toNatClampNeg)) (hx : x = 0 ∨ x = 1) (kk : xm_J B sb D cs p l e R s m args below meth c Q s0 (k, pc + 1, L, r) (xm_put h i (.inl (2, n, .inl (upd f j.toNatClampNeg x))))) : xm_J B sb D cs p l e R s m args below meth c Q s0 (k, pc, L, .int x :: .int j :: .ref i :: r) h := by
  intro H ls locs cells slots a1 a2 a3 a4 a5 a6 a7
  have hi := xm_cell_some hi
  obtain ⟨q0, hq⟩ := xm_wl_at (B := B) (sb := sb) (cs := cs) hi
  show W p l e R s m args below meth c H locs cells slots Q (F0 m pc ls (.int x :: .int j :: .ref (xm_ad B sb i) :: r.map (xm_cv B sb)))
  rw [a1.adr hi]
  refine va_zast (f := f) (n := n) (H0 := H) (A := fun q => B < q) G.1 G.2.1 G.2.2.2.2.2.2.2.2.2.1 (xm_wl_P a1) (xm_wl_D a1) (xm_s0 a3) q0 2 hq rfl hj hd (fun H1 locs1 hP _ hS => ?_)
  have hn : vp_nar .boolean x = x := by rcases hx with rfl | rfl <;> decide +kernel
  rw [hn] at hP
  exact xm_back kk G.2.2.2.2.2.2.2.2.2.2.2.2.1 a1 a2 a4 a5 a6 a7 hi hq hP hS
theorem xm_r_aast {i n v ci : Nat} {f : Nat → Option Nat} {j : Int32} {vs : List Value} (G : xm_G B sb Lx xs D cs l p s m args meth c k) (hd : decode (xm_b k) pc = .ok (.aastore, 1)) (hi : xm_cell h i = some (.inl (3, n, .inr (.inr f)))) (hv : xm_cell h v = some (.inr (ci, vs))) (hc : ci = xm_elt) (hj : ¬ (j < 0 ∨ n ≤ j.toNatClampNeg)) (kk : xm_J B sb D cs p l e R s m args below meth c Q s0 (k, pc + 1, L, r) (xm_put h i (.inl (3, n, .inr (.inr (va_up f j.toNatClampNeg (some v))))))) : xm_J B sb D cs p l e R s m args below meth c Q s0 (k, pc, L, .ref v :: .int j :: .ref i :: r) h := by
  intro H ls locs cells slots a1 a2 a3 a4 a5 a6 a7
  have hi := xm_cell_some hi
  have hv := xm_cell_some hv
  subst hc
  obtain ⟨q0, hq⟩ := xm_wl_at (B := B) (sb := sb) (cs := cs) hi
  obtain ⟨q1, hq1⟩ := xm_wl_at (B := B) (sb := sb) (cs := cs) hv
  obtain ⟨cr, hcr, hcn⟩ := xm_t_elt
  show W p l e R s m args below meth c H locs cells slots Q (F0 m pc ls (.ref (xm_ad B sb v) :: .int j :: .ref (xm_ad B sb i) :: r.map (xm_cv B sb)))
  rw [a1.adr hi, a1.adr hv]
  refine va_astq (f := fun j => (f j).map (xm_ad B sb)) (n := n) (H0 := H) (A := fun q => B < q) (r := cr) G.1 G.2.1 G.2.2.2.2.2.2.2.2.2.1 (xm_wl_P a1) (xm_wl_D a1) (xm_s0 a3) q0 3 q1 xm_elt hq (by rw [hcn]; rfl) hq1 hcr hj hd (fun H1 locs1 hP _ hS => ?_)
  have hu : va_up (fun j => (f j).map (xm_ad B sb)) j.toNatClampNeg (some (B + v)) = fun z => (va_up f j.toNatClampNeg (some v) z).map (xm_ad B sb) := by
    funext z
    unfold va_up
    split
    · rw [Option.map_some, a1.adr hv]
    · rfl
  rw [hu] at hP
  exact xm_back kk G.2.2.2.2.2.2.2.2.2.2.2.2.1 a1 a2 a4 a5 a6 a7 hi hq hP hS
/-- a cell has been made: the heap that came -/
theorem xm_born {H H1 : Heap} {ls : Array Slot} {locs : List Loc} {cells slots z pc2 : Nat} {e2 : xm_E} {st2 : List Value} (kk : xm_J B sb D cs p l e R s m args below meth c Q s0 (k, pc2, L, st2) (xm_new h e2 z))
    (a1 : xm_hb B sb D cs h.1 H) (a2 : ∀ q : Nat, q ≤ B → H[q]? = s.heap[q]?) (a3 : ∀ z ∈ locs, B < z.base) (a4 : s.heap.size + cells = B + h.1.length) (a5 : s0 + slots = h.2) (a6 : xm_lh B sb L ls) (a7 : L.length = xm_n k)
    (hz : H1.size = H.size + 1) (ho : ∀ q : Nat, q < H.size → H1[q]? = H[q]?) (he : va_at D xm_cls (H.size, xm_ce B sb cs e2) H1) :
    W p l e R s m args below meth c H1 locs (cells + 1) (slots + z) Q (F0 m pc2 ls (st2.map (xm_cv B sb))) := by
  have hl : 0 < h.1.length := (List.getElem?_eq_some_iff.mp a1.2.1).1
  refine kk H1 ls locs (cells + 1) (slots + z) (a1.push hz ho (fun e' q => by cases q; exact he)) (fun q hq => ?_) a3 ?_ ?_ a6 a7
  · rw [ho q (by have := a1.1; omega)]
    exact a2 q hq
  · show s.heap.size + (cells + 1) = B + (h.1 ++ [some e2]).length
    rw [List.length_append]
    show s.heap.size + (cells + 1) = B + (h.1.length + 1)
    omega
  · show s0 + (slots + z) = h.2 + z
    omega
theorem xm_adl {H : Heap} (a1 : xm_hb B sb D cs h.1 H) : xm_ad B sb h.1.length = H.size := by
  have hl : 0 < h.1.length := (List.getElem?_eq_some_iff.mp a1.2.1).1
  unfold xm_ad
  rw [if_neg (by omega), a1.1]
theorem xm_r_new {a ci y : Nat} (G : xm_G B sb Lx xs D cs l p s m args meth c k) (hd : decode (xm_b k) pc = .ok (.new a, 3)) (hc : xm_cp k a = some (4, ci, y)) (hm : B + (h.1.length + 1) ≤ s.heap.size + R.cells ∧ h.2 + xm_siz ci ≤ s0 + R.slots) (kk : xm_J B sb D cs p l e R s m args below meth c Q s0 (k, pc + 3, L, .ref h.1.length :: st) (xm_new h (.inr (ci, xm_def ci)) (xm_siz ci))) : xm_J B sb D cs p l e R s m args below meth c Q s0 (k, pc, L, st) h := by
  intro H ls locs cells slots a1 a2 a3 a4 a5 a6 a7
  obtain ⟨C, T, N, t1, t2, t3, t4, t5, t6, t7⟩ := xm_t_new hc
  obtain ⟨u1, u2, u3⟩ := xm_t_lay t1
  have hts := G.2.2.2.2.2.1
  have hKn := (G.2.2.2.2.2.2.2.2.2.1).1 ci _ t1
  subst t5
  refine W.newcK G.1 G.2.1 G.2.2.2.2.1 (hts _ t2) (hts _ t3) (hts _ t4) rfl hd (by omega) (by omega) hKn.2.1 rfl fun H1 kC hkC e1 z1 o1 => ?_
  have hw := xm_born (H1 := H1) kk a1 a2 a3 a4 a5 a6 a7 z1 o1 ⟨_, t1, (u_born (xm_fty ci) hts u1 hKn hkC e1 u2).to (fun j hj => by rw [xm_noref (t7 B sb)]; exact t6 j hj)⟩
  rw [List.map_cons] at hw
  have hr : xm_cv B sb (.ref h.1.length) = .ref H.size := by
    show Value.ref (xm_ad B sb h.1.length) = _
    rw [xm_adl a1]
  rw [hr] at hw
  exact hw
theorem xm_r_nai {n : Int32} (G : xm_G B sb Lx xs D cs l p s m args meth c k) (hd : decode (xm_b k) pc = .ok (.newarray .int, 2)) (hn : ¬ (n < 0 ∨ 67108864 < n.toNatClampNeg)) (hm : B + (h.1.length + 1) ≤ s.heap.size + R.cells ∧ h.2 + n.toNatClampNeg ≤ s0 + R.slots) (kk : xm_J B sb D cs p l e R s m args below meth c Q s0 (k, pc + 2, L, .ref h.1.length :: r) (xm_new h (.inl (0, n.toNatClampNeg, .inl (fun _ => 0))) n.toNatClampNeg)) : xm_J B sb D cs p l e R s m args below meth c Q s0 (k, pc, L, .int n :: r) h := by
  intro H ls locs cells slots a1 a2 a3 a4 a5 a6 a7
  have hts := G.2.2.2.2.2.1
  refine va_newaK (N := n.toNatClampNeg) G.1 G.2.1 (hts _ xm_t_a0) rfl hd rfl (fun q => hn (Or.inl q)) rfl (by show _ * 4 ≤ _; omega) (by omega) (by omega) rfl fun H1 cA e1 z1 o1 hAr hNm => ?_
  have hcs : cA = cs 0 := by
    have h9 := ((G.2.2.2.2.2.2.2.2.2.1).2 0 _ rfl).2
    exact Option.some.inj (hNm.symm.trans h9)
  subst hcs
  have hw := xm_born (H1 := H1) kk a1 a2 a3 a4 a5 a6 a7 z1 o1 e1
  rw [List.map_cons] at hw
  have hr : xm_cv B sb (.ref h.1.length) = .ref H.size := by
    show Value.ref (xm_ad B sb h.1.length) = _
    rw [xm_adl a1]
  rw [hr] at hw
  exact hw
theorem xm_r_nal {n : Int32} (G : xm_G B sb Lx xs D cs l p s m args meth c k) (hd : decode (xm_b k) pc = .ok (.newarray .long, 2)) (hn : ¬ (n < 0 ∨ 67108864 < n.toNatClampNeg)) (hm : B + (h.1.length + 1) ≤ s.heap.size + R.cells ∧ h.2 + n.toNatClampNeg ≤ s0 + R.slots) (kk : xm_J B sb D cs p l e R s m args below meth c Q s0 (k, pc + 2, L, .ref h.1.length :: r) (xm_new h (.inl (1, n.toNatClampNeg, .inr (.inl (fun _ => 0)))) n.toNatClampNeg)) : xm_J B sb D cs p l e R s m args below meth c Q s0 (k, pc, L, .int n :: r) h := by
  intro H ls locs cells slots a1 a2 a3 a4 a5 a6 a7
  have hts := G.2.2.2.2.2.1
  refine va_newaK (N := n.toNatClampNeg) G.1 G.2.1 (hts _ xm_t_a1) rfl hd rfl (fun q => hn (Or.inl q)) rfl (by show _ * 8 ≤ _; omega) (by omega) (by omega) rfl fun H1 cA e1 z1 o1 hAr hNm => ?_
  have hcs : cA = cs 1 := by
    have h9 := ((G.2.2.2.2.2.2.2.2.2.1).2 1 _ rfl).2
    exact Option.some.inj (hNm.symm.trans h9)
  subst hcs
  have hw := xm_born (H1 := H1) kk a1 a2 a3 a4 a5 a6 a7 z1 o1 e1
  rw [List.map_cons] at hw
  have hr : xm_cv B sb (.ref h.1.length) = .ref H.size := by
    show Value.ref (xm_ad B sb h.1.length) = _
    rw [xm_adl a1]
  rw [hr] at hw
  exact hw
theorem xm_r_naz {n : Int32} (G : xm_G B sb Lx xs D cs l p s m args meth c k) (hd : decode (xm_b k) pc = .ok (.newarray .boolean, 2)) (hn : ¬ (n < 0 ∨ 67108864 < n.toNatClampNeg)) (hm : B + (h.1.length + 1) ≤ s.heap.size + R.cells ∧ h.2 + n.toNatClampNeg ≤ s0 + R.slots) (kk : xm_J B sb D cs p l e R s m args below meth c Q s0 (k, pc + 2, L, .ref h.1.length :: r) (xm_new h (.inl (2, n.toNatClampNeg, .inl (fun _ => 0))) n.toNatClampNeg)) : xm_J B sb D cs p l e R s m args below meth c Q s0 (k, pc, L, .int n :: r) h := by
  intro H ls locs cells slots a1 a2 a3 a4 a5 a6 a7
  have hts := G.2.2.2.2.2.1
  refine va_newaK (N := n.toNatClampNeg) G.1 G.2.1 (hts _ xm_t_a2) rfl hd rfl (fun q => hn (Or.inl q)) rfl (by show _ * 1 ≤ _; omega) (by omega) (by omega) rfl fun H1 cA e1 z1 o1 hAr hNm => ?_
  have hcs : cA = cs 2 := by
    have h9 := ((G.2.2.2.2.2.2.2.2.2.1).2 2 _ rfl).2
    exact Option.some.inj (hNm.symm.trans h9)
  subst hcs
  have hw := xm_born (H1 := H1) kk a1 a2 a3 a4 a5 a6 a7 z1 o1 e1
  rw [List.map_cons] at hw
  have hr : xm_cv B sb (.ref h.1.length) = .ref H.size := by
    show Value.ref (xm_ad B sb h.1.length) = _
    rw [xm_adl a1]
  rw [hr] at hw
  exact hw
theorem xm_r_anw {a y1 y2 : Nat} {n : Int32} (G : xm_G B sb Lx xs D cs l p s m args meth c k) (hd : decode (xm_b k) pc = .ok (.anewarray a, 3)) (hc : xm_cp k a = some (6, y1, y2)) (hn : ¬ (n < 0 ∨ 67108864 < n.toNatClampNeg)) (hm : B + (h.1.length + 1) ≤ s.heap.size + R.cells ∧ h.2 + n.toNatClampNeg ≤ s0 + R.slots) (kk : xm_J B sb D cs p l e R s m args below meth c Q s0 (k, pc + 3, L, .ref h.1.length :: r) (xm_new h (.inl (3, n.toNatClampNeg, .inr (.inr (fun _ => none)))) n.toNatClampNeg)) : xm_J B sb D cs p l e R s m args below meth c Q s0 (k, pc, L, .int n :: r) h := by
  intro H ls locs cells slots a1 a2 a3 a4 a5 a6 a7
  have hts := G.2.2.2.2.2.1
  refine W.anew G.1 G.2.1 G.2.2.2.2.1 (hts _ (xm_t_anw hc)) (show (Cond.arrayOver (.object xm_eln)).before args s = true from G.2.2.2.2.2.2.2.2.2.2.2.2.2.2.1 s (State.WarmedH.refl _) args _ List.mem_cons_self) rfl hd rfl (fun q => hn (Or.inl q)) (by omega) (by omega) (by omega) fun cA kA comp f1 f2 f3 f4 => ?_
  have hcs : cA = cs 3 := by
    obtain ⟨kA', comp', g1, g2, g3, g4⟩ := ((G.2.2.2.2.2.2.2.2.2.1).2 3 _ rfl).2
    exact Option.some.inj (f1.symm.trans g4)
  subst hcs
  have hw := xm_born (H1 := H.push ({ cls := cs 3, slots := Array.replicate n.toNatClampNeg .null, vm := .none } : Cell)) kk a1 a2 a3 a4 a5 a6 a7 (by simp) (fun q hq => by rw [Array.getElem?_push, if_neg (Nat.ne_of_lt hq)]) (by
    show (H.push ({ cls := cs 3, slots := Array.replicate n.toNatClampNeg .null, vm := .none } : Cell))[H.size]? = some (arrV (cs 3) n.toNatClampNeg (fun _ => .null))
    rw [← arrV_new]
    simp)
  rw [List.map_cons] at hw
  have hr : xm_cv B sb (.ref h.1.length) = .ref H.size := by
    show Value.ref (xm_ad B sb h.1.length) = _
    rw [xm_adl a1]
  rw [hr] at hw
  exact hw
theorem xm_r_oin {a i y1 y2 : Nat} (G : xm_G B sb Lx xs D cs l p s m args meth c k) (hd : decode (xm_b k) pc = .ok (.invokespecial a, 3)) (hc : xm_cp k a = some (7, y1, y2)) (hw : xm_wt r ≤ 8) (hR : 1 ≤ R.frames ∧ 40 ≤ R.locals) (kk : xm_J B sb D cs p l e R s m args below meth c Q s0 (k, pc + 3, L, r) h) : xm_J B sb D cs p l e R s m args below meth c Q s0 (k, pc, L, .ref i :: r) h := by
  intro H ls locs cells slots a1 a2 a3 a4 a5 a6 a7
  have hts := G.2.2.2.2.2.1
  obtain ⟨t1, t2, t3⟩ := xm_t_oin hc
  exact W.objInit (rest := r.map (xm_cv B sb)) G.1 G.2.1 G.2.2.2.2.1 (hts _ t1) (hts _ t2) (hts _ t3) rfl (by rw [G.2.2.2.1]; exact a6.1.trans a7) rfl hd hR.1 (by show 2 * 0 + _ + 12 ≤ _; rw [xm_wt_cv]; omega) (kk H ls locs cells slots a1 a2 a3 a4 a5 a6 a7)
theorem xm_r_cpy {a0 d n0 n1 a y1 y2 : Nat} {f g : Nat → Int32} {sp dp n : Int32} (G : xm_G B sb Lx xs D cs l p s m args meth c k) (hd : decode (xm_b k) pc = .ok (.invokestatic a, 3)) (hc : xm_cp k a = some (8, y1, y2)) (h0 : xm_cell h a0 = some (.inl (0, n0, .inl f))) (h1 : xm_cell h d = some (.inl (0, n1, .inl g)))
    (hn : ¬ (sp < 0 ∨ dp < 0 ∨ n < 0 ∨ n0 < sp.toNatClampNeg + n.toNatClampNeg ∨ n1 < dp.toNatClampNeg + n.toNatClampNeg ∨ 8 < xm_wt r)) (hR : 1 ≤ R.frames ∧ 40 ≤ R.locals)
    (kk : xm_J B sb D cs p l e R s m args below meth c Q s0 (k, pc + 3, L, r) (xm_put h d (.inl (0, n1, .inl (va_cpy f g sp.toNatClampNeg dp.toNatClampNeg n.toNatClampNeg))))) : xm_J B sb D cs p l e R s m args below meth c Q s0 (k, pc, L, .int n :: .int dp :: .ref d :: .int sp :: .ref a0 :: r) h := by
  intro H ls locs cells slots a1 a2 a3 a4 a5 a6 a7
  have hts := G.2.2.2.2.2.1
  have h0 := xm_cell_some h0
  have h1 := xm_cell_some h1
  obtain ⟨t1, t2, t3, t4⟩ := xm_t_cpy hc
  obtain ⟨q0, hq⟩ := xm_wl_at (B := B) (sb := sb) (cs := cs) h0
  obtain ⟨q1, hq1⟩ := xm_wl_at (B := B) (sb := sb) (cs := cs) h1
  show W p l e R s m args below meth c H locs cells slots Q (F0 m pc ls (.int n :: .int dp :: .ref (xm_ad B sb d) :: .int sp :: .ref (xm_ad B sb a0) :: r.map (xm_cv B sb)))
  rw [a1.adr h0, a1.adr h1]
  have hnf : nativeFrameWords "java/lang/System" "arraycopy" 5 + 11 ≤ 30 := by decide +kernel
  refine va_copyi (f := f) (g := g) (n0 := n0) (n1 := n1) (ty := .int) (H0 := H) (A := fun q => B < q) (rest := r.map (xm_cv B sb)) G.1 G.2.1 (by rw [G.2.2.2.1]; exact (a6.1.trans a7).symm) G.2.2.2.2.1 (hts _ t1) (hts _ t2) (hts _ t3) (hts _ t4) G.2.2.2.2.2.2.2.2.2.1 (xm_wl_P a1) (xm_wl_D a1) (xm_s0 a3) q0 q1 0 0 hq hq1 rfl rfl rfl (fun q => hn (Or.inl q)) (fun q => hn (Or.inr (Or.inl q))) (fun q => hn (Or.inr (Or.inr (Or.inl q)))) (by omega) (by omega) (fun _ _ => rfl) hR.1 (by rw [xm_wt_cv]; omega) hd (fun H1 locs1 hP _ hS => ?_)
  exact xm_back kk G.2.2.2.2.2.2.2.2.2.2.2.2.1 a1 a2 a4 a5 a6 a7 h1 hq1 hP hS
theorem xm_r_max {a y1 y2 : Nat} {x y : Int32} (G : xm_G B sb Lx xs D cs l p s m args meth c k) (hd : decode (xm_b k) pc = .ok (.invokestatic a, 3)) (hc : xm_cp k a = some (9, y1, y2)) (hw : ¬ 8 < xm_wt r) (hR : 1 ≤ R.frames ∧ 40 ≤ R.locals) (hm : B + h.1.length ≤ s.heap.size + R.cells ∧ h.2 ≤ s0 + R.slots) (kk : xm_J B sb D cs p l e R s m args below meth c Q s0 (k, pc + 3, L, .int (if x < y then y else x) :: r) h) : xm_J B sb D cs p l e R s m args below meth c Q s0 (k, pc, L, .int y :: .int x :: r) h := by
  intro H ls locs cells slots a1 a2 a3 a4 a5 a6 a7
  have hts := G.2.2.2.2.2.1
  obtain ⟨t1, t2, t3, t4⟩ := xm_t_max hc
  exact va_mmax (rest := r.map (xm_cv B sb)) G.1 G.2.1 (by rw [G.2.2.2.1]; exact (a6.1.trans a7).symm) G.2.2.2.2.1 (hts _ t1) (hts _ t2) (hts _ t3) (hts _ t4) hR.1 (by rw [xm_wt_cv]; omega) (by omega) (by omega) hd (kk H ls locs cells slots a1 a2 a3 a4 a5 a6 a7)
theorem xm_r_min {a y1 y2 : Nat} {x y : Int32} (G : xm_G B sb Lx xs D cs l p s m args meth c k) (hd : decode (xm_b k) pc = .ok (.invokestatic a, 3)) (hc : xm_cp k a = some (10, y1, y2)) (hw : ¬ 8 < xm_wt r) (hR : 1 ≤ R.frames ∧ 40 ≤ R.locals) (hm : B + h.1.length ≤ s.heap.size + R.cells ∧ h.2 ≤ s0 + R.slots) (kk : xm_J B sb D cs p l e R s m args below meth c Q s0 (k, pc + 3, L, .int (if y < x then y else x) :: r) h) : xm_J B sb D cs p l e R s m args below meth c Q s0 (k, pc, L, .int y :: .int x :: r) h := by
  intro H ls locs cells slots a1 a2 a3 a4 a5 a6 a7
  have hts := G.2.2.2.2.2.1
  obtain ⟨t1, t2, t3, t4⟩ := xm_t_min hc
  exact va_mmin (rest := r.map (xm_cv B sb)) G.1 G.2.1 (by rw [G.2.2.2.1]; exact (a6.1.trans a7).symm) G.2.2.2.2.1 (hts _ t1) (hts _ t2) (hts _ t3) (hts _ t4) hR.1 (by rw [xm_wt_cv]; omega) (by omega) (by omega) hd (kk H ls locs cells slots a1 a2 a3 a4 a5 a6 a7)
end
end
section
/-! The step function, alternative by alternative: own work. -/
section
variable {B sb Lx : Nat} {xs : Nat → Int32} {D : va_G} {cs : Nat → ClassId} {p : Program} {l : Launch} {e : Env} {R : Room} {s : State} {m : MethodId} {args : Array Value} {below : List Frame} {meth : Method} {c : Code} {Q : State → Prop} {s0 k pc : Nat} {L : xm_L} {st r : List Value} {h : xm_H}
set_option maxHeartbeats 4000000 in
set_option maxRecDepth 100000 in
theorem xm_on {i : ClassFile.Instr} {n : Nat} {f2 : xm_F} {h2 : xm_H} (G : xm_G B sb Lx xs D cs l p s m args meth c k) (hd : decode (xm_b k) pc = .ok (i, n)) (hs : xm_do (Lx, xs) i n k pc L st h = some (f2, h2)) (hR : 1 ≤ R.frames ∧ 40 ≤ R.locals) (hm : B + h2.1.length ≤ s.heap.size + R.cells ∧ h2.2 ≤ s0 + R.slots) (kk : xm_J B sb D cs p l e R s m args below meth c Q s0 f2 h2) : xm_J B sb D cs p l e R s m args below meth c Q s0 (k, pc, L, st) h := by
  unfold xm_do at hs
  split at hs
  · cases hs
    exact xm_r_iconst G hd kk
  · cases hs
    exact xm_r_bipush G hd kk
  · cases hs
    exact xm_r_sipush G hd kk
  · cases hs
    exact xm_r_lconst G hd kk
  · cases hs
    exact xm_r_null G hd kk
  · split at hs
    · rename_i v hk
      cases hs
      exact xm_r_ldc G hd hk kk
    · cases hs
  · split at hs
    · rename_i v hk
      cases hs
      exact xm_r_ldc2 G hd hk kk
    · cases hs
  · unfold xm_ilo at hs
    split at hs
    · rename_i x hl
      cases hs
      exact xm_r_ilo_n G hd hl kk
    · cases hs
  · unfold xm_ilo at hs
    split at hs
    · rename_i x hl
      cases hs
      exact xm_r_ilo G hd hl kk
    · cases hs
  · unfold xm_llo at hs
    split at hs
    · rename_i x hl
      cases hs
      exact xm_r_llo_n G hd hl kk
    · cases hs
  · unfold xm_llo at hs
    split at hs
    · rename_i x hl
      cases hs
      exact xm_r_llo G hd hl kk
    · cases hs
  · unfold xm_alo at hs
    split at hs
    · rename_i x hl
      cases hs
      exact xm_r_alo_nr G hd hl kk
    · rename_i hl
      cases hs
      exact xm_r_alo_nz G hd hl kk
    · cases hs
  · unfold xm_alo at hs
    split at hs
    · rename_i x hl
      cases hs
      exact xm_r_alor G hd hl kk
    · rename_i hl
      cases hs
      exact xm_r_aloz G hd hl kk
    · cases hs
  · unfold xm_ist at hs
    split at hs
    · split at hs
      · rename_i hi
        cases hs
        exact xm_r_ist_n G hd hi kk
      · cases hs
    · cases hs
  · unfold xm_ist at hs
    split at hs
    · split at hs
      · rename_i hi
        cases hs
        exact xm_r_ist G hd hi kk
      · cases hs
    · cases hs
  · unfold xm_lst at hs
    split at hs
    · split at hs
      · rename_i hi
        cases hs
        exact xm_r_lst_n G hd hi kk
      · cases hs
    · cases hs
  · unfold xm_lst at hs
    split at hs
    · split at hs
      · rename_i hi
        cases hs
        exact xm_r_lst G hd hi kk
      · cases hs
    · cases hs
  · unfold xm_ast at hs
    split at hs
    · split at hs
      · rename_i hi
        cases hs
        exact xm_r_ast_nr G hd hi kk
      · cases hs
    · split at hs
      · rename_i hi
        cases hs
        exact xm_r_ast_nz G hd hi kk
      · cases hs
    · cases hs
  · unfold xm_ast at hs
    split at hs
    · split at hs
      · rename_i hi
        cases hs
        exact xm_r_astr G hd hi kk
      · cases hs
    · split at hs
      · rename_i hi
        cases hs
        exact xm_r_astz G hd hi kk
      · cases hs
    · cases hs
  · unfold xm_inc at hs
    split at hs
    · rename_i x hl
      split at hs
      · rename_i hi
        cases hs
        exact xm_r_inc G hd hl hi kk
      · cases hs
    · cases hs
  · unfold xm_bi2 at hs
    split at hs
    · cases hs
      exact xm_r_iadd G hd kk
    · cases hs
  · unfold xm_bi2 at hs
    split at hs
    · cases hs
      exact xm_r_isub G hd kk
    · cases hs
  · unfold xm_bi2 at hs
    split at hs
    · cases hs
      exact xm_r_imul G hd kk
    · cases hs
  · unfold xm_bi2 at hs
    split at hs
    · cases hs
      exact xm_r_iand G hd kk
    · cases hs
  · unfold xm_bi2 at hs
    split at hs
    · cases hs
      exact xm_r_ior G hd kk
    · cases hs
  · unfold xm_bi2 at hs
    split at hs
    · cases hs
      exact xm_r_ishl G hd kk
    · cases hs
  · unfold xm_bi2 at hs
    split at hs
    · cases hs
      exact xm_r_ishr G hd kk
    · cases hs
  · unfold xm_bd2 at hs
    split at hs
    · split at hs
      · cases hs
      · rename_i hy
        cases hs
        exact xm_r_idiv G hd hy kk
    · cases hs
  · unfold xm_bd2 at hs
    split at hs
    · split at hs
      · cases hs
      · rename_i hy
        cases hs
        exact xm_r_irem G hd hy kk
    · cases hs
  · unfold xm_l2 at hs
    split at hs
    · cases hs
      exact xm_r_ladd G hd kk
    · cases hs
  · unfold xm_l2 at hs
    split at hs
    · cases hs
      exact xm_r_lmul G hd kk
    · cases hs
  · unfold xm_l2 at hs
    split at hs
    · cases hs
      exact xm_r_land G hd kk
    · cases hs
  · unfold xm_l2 at hs
    split at hs
    · cases hs
      exact xm_r_lor G hd kk
    · cases hs
  · unfold xm_ls at hs
    split at hs
    · cases hs
      exact xm_r_lshl G hd kk
    · cases hs
  · unfold xm_ls at hs
    split at hs
    · cases hs
      exact xm_r_lshr G hd kk
    · cases hs
  · unfold xm_ls at hs
    split at hs
    · cases hs
      exact xm_r_lushr G hd kk
    · cases hs
  · split at hs
    · cases hs
      exact xm_r_lcmp G hd kk
    · cases hs
  · split at hs
    · cases hs
      exact xm_r_i2l G hd kk
    · cases hs
  · split at hs
    · cases hs
      exact xm_r_l2i G hd kk
    · cases hs
  · split at hs
    · split at hs
      · rename_i hv
        cases hs
        exact xm_r_dup G hd hv kk
      · cases hs
    · cases hs
  · split at hs
    · split at hs
      · rename_i hv
        cases hs
        exact xm_r_dup_x1 G hd hv.1 hv.2 kk
      · cases hs
    · cases hs
  · split at hs
    · split at hs
      · rename_i hv
        cases hs
        exact xm_r_dup_x2 G hd hv.1 hv.2.1 hv.2.2 kk
      · cases hs
    · cases hs
  · split at hs
    · split at hs
      · rename_i hv
        cases hs
        exact xm_r_dup2 G hd hv.1 hv.2 kk
      · cases hs
    · cases hs
  · split at hs
    · split at hs
      · rename_i hv
        cases hs
        exact xm_r_pop G hd hv kk
      · cases hs
    · cases hs
  · split at hs
    · unfold xm_jp at hs
      split at hs
      · rename_i ho
        cases hs
        rename ClassFile.Cond => cnd
        cases cnd
        · exact xm_r_if_eq G hd ho kk
        · exact xm_r_if_ne G hd ho kk
        · exact xm_r_if_lt G hd ho kk
        · exact xm_r_if_ge G hd ho kk
        · exact xm_r_if_gt G hd ho kk
        · exact xm_r_if_le G hd ho kk
      · cases hs
    · cases hs
  · split at hs
    · unfold xm_jp at hs
      split at hs
      · rename_i ho
        cases hs
        rename ClassFile.Cond => cnd
        cases cnd
        · exact xm_r_ic_eq G hd ho kk
        · exact xm_r_ic_ne G hd ho kk
        · exact xm_r_ic_lt G hd ho kk
        · exact xm_r_ic_ge G hd ho kk
        · exact xm_r_ic_gt G hd ho kk
        · exact xm_r_ic_le G hd ho kk
      · cases hs
    · cases hs
  · split at hs
    · unfold xm_jp at hs
      split at hs
      · rename_i ho
        cases hs
        exact xm_r_ifnullN G hd ho kk
      · cases hs
    · unfold xm_jp at hs
      split at hs
      · rename_i ho
        cases hs
        exact xm_r_ifnull G hd ho kk
      · cases hs
    · cases hs
  · split at hs
    · unfold xm_jp at hs
      split at hs
      · rename_i ho
        cases hs
        exact xm_r_ifnonnullN G hd ho kk
      · cases hs
    · unfold xm_jp at hs
      split at hs
      · rename_i ho
        cases hs
        exact xm_r_ifnonnull G hd ho kk
      · cases hs
    · cases hs
  · unfold xm_jp at hs
    split at hs
    · rename_i ho
      cases hs
      exact xm_r_goto G hd ho kk
    · cases hs
  · unfold xm_tsw at hs
    split at hs
    · split at hs
      · rename_i hx
        split at hs
        · rename_i ho
          cases hs
          exact xm_r_tout G hd hx ho kk
        · cases hs
      · rename_i hx
        split at hs
        · rename_i off hf
          split at hs
          · rename_i ho
            cases hs
            exact xm_r_tin G hd hx hf ho kk
          · cases hs
        · cases hs
    · cases hs
  · unfold xm_lsw at hs
    split at hs
    · split at hs
      · rename_i hx
        cases hs
        exact xm_r_lsw G hd hx.1 hx.2 kk
      · cases hs
    · cases hs
  · unfold xm_gf at hs
    split at hs
    · rename_i hc
      split at hs
      · rename_i hi
        split at hs
        · rename_i hci
          subst hci
          split at hs
          · rename_i v hv
            cases hs
            exact xm_r_gf G hd hc hi hv kk
          · cases hs
        · cases hs
      · cases hs
    · cases hs
  · unfold xm_pf at hs
    split at hs
    · rename_i hc
      split at hs
      · rename_i hi
        split at hs
        · rename_i hq
          obtain ⟨hci, h3, h4, h5⟩ := hq
          subst hci
          cases hs
          exact xm_r_pf G hd hc hi h3 h4 h5 kk
        · cases hs
      · cases hs
    · cases hs
  · unfold xm_iald at hs
    split at hs
    · split at hs
      · rename_i hz
        subst hz
        split at hs
        · cases hs
        · rename_i hj
          cases hs
          exact xm_r_sld G hd hj kk
      · split at hs
        · rename_i hi
          split at hs
          · cases hs
          · rename_i hj
            cases hs
            exact xm_r_iald G hd hi hj kk
        · cases hs
    · cases hs
  · unfold xm_lald at hs
    split at hs
    · split at hs
      · rename_i hi
        split at hs
        · cases hs
        · rename_i hj
          cases hs
          exact xm_r_lald G hd hi hj kk
      · cases hs
    · cases hs
  · unfold xm_zald at hs
    split at hs
    · split at hs
      · rename_i hi
        split at hs
        · cases hs
        · rename_i hj
          cases hs
          exact xm_r_zald G hd hi hj kk
      · cases hs
    · cases hs
  · unfold xm_aald at hs
    split at hs
    · split at hs
      · rename_i hi
        split at hs
        · cases hs
        · rename_i hj
          cases hs
          exact xm_r_aald G hd hi hj kk
      · cases hs
    · cases hs
  · unfold xm_iast at hs
    split at hs
    · split at hs
      · rename_i hi
        split at hs
        · cases hs
        · rename_i hj
          cases hs
          exact xm_r_iast G hd hi hj kk
      · cases hs
    · cases hs
  · unfold xm_last at hs
    split at hs
    · split at hs
      · rename_i hi
        split at hs
        · cases hs
        · rename_i hj
          cases hs
          exact xm_r_last G hd hi hj kk
      · cases hs
    · cases hs
  · unfold xm_zast at hs
    split at hs
    · split at hs
      · rename_i hi
        split at hs
        · cases hs
        · rename_i hj
          cases hs
          exact xm_r_zast G hd hi (fun q => hj (Or.inl q)) (Classical.byContradiction fun q => hj (Or.inr q)) kk
      · cases hs
    · cases hs
  · unfold xm_aast at hs
    split at hs
    · split at hs
      · rename_i hi hv
        split at hs
        · cases hs
        · rename_i hj
          cases hs
          exact xm_r_aast G hd hi hv (Classical.byContradiction fun q => hj (Or.inr q)) (fun q => hj (Or.inl q)) kk
      · cases hs
    · cases hs
  · unfold xm_len at hs
    split at hs
    · split at hs
      · rename_i hz
        subst hz
        cases hs
        exact xm_r_slen G hd kk
      · split at hs
        · rename_i hi
          split at hs
          · rename_i ht
            cases hs
            exact xm_r_len G hd hi ht kk
          · cases hs
        · cases hs
    · cases hs
  · unfold xm_nob at hs
    split at hs
    · rename_i hc
      cases hs
      exact xm_r_new G hd hc (by simpa [xm_new] using hm) kk
    · cases hs
  · unfold xm_nar at hs
    split at hs
    · split at hs
      · cases hs
      · rename_i hn
        cases hs
        exact xm_r_nai G hd hn (by simpa [xm_new] using hm) kk
    · split at hs
      · cases hs
      · rename_i hn
        cases hs
        exact xm_r_nal G hd hn (by simpa [xm_new] using hm) kk
    · split at hs
      · cases hs
      · rename_i hn
        cases hs
        exact xm_r_naz G hd hn (by simpa [xm_new] using hm) kk
    · cases hs
  · unfold xm_anw at hs
    split at hs
    · rename_i hc
      split at hs
      · cases hs
      · rename_i hn
        cases hs
        exact xm_r_anw G hd hc hn (by simpa [xm_new] using hm) kk
    · cases hs
  · unfold xm_oin at hs
    split at hs
    · rename_i hc
      split at hs
      · rename_i hw
        cases hs
        exact xm_r_oin G hd hc hw hR kk
      · cases hs
    · cases hs
  · unfold xm_lib at hs
    split at hs
    · rename_i hc
      split at hs
      · rename_i h0 h1
        split at hs
        · cases hs
        · rename_i hn
          cases hs
          exact xm_r_cpy G hd hc h0 h1 hn hR kk
      · cases hs
    · rename_i hc
      split at hs
      · cases hs
      · rename_i hn
        cases hs
        exact xm_r_max G hd hc hn hR hm kk
    · rename_i hc
      split at hs
      · cases hs
      · rename_i hn
        cases hs
        exact xm_r_min G hd hc hn hR hm kk
    · cases hs
  · cases hs
end
end
section
/-! Returns, throws and calls of the small machine: own work. -/
set_option maxHeartbeats 4000000 in
set_option maxRecDepth 100000 in
theorem xm_do_k {sc : xm_S} {i : ClassFile.Instr} {n k pc : Nat} {L : xm_L} {st : List Value} {h h2 : xm_H} {f2 : xm_F} (hs : xm_do sc i n k pc L st h = some (f2, h2)) : f2.1 = k ∧ h.1.length ≤ h2.1.length ∧ h.2 ≤ h2.2 := by
  unfold xm_do at hs
  simp only [xm_bi2, xm_bd2, xm_l2, xm_ls, xm_jp, xm_ilo, xm_llo, xm_alo, xm_ist, xm_lst, xm_ast, xm_inc, xm_gf, xm_pf, xm_iald, xm_zald, xm_lald, xm_aald, xm_iast, xm_zast, xm_last, xm_aast, xm_len, xm_nob, xm_nar, xm_anw, xm_oin, xm_lib, xm_tsw, xm_lsw, xm_nx] at hs
  repeat' (split at hs)
  all_goals first
    | (cases hs; done)
    | (cases hs; refine ⟨rfl, ?_, ?_⟩ <;> simp [xm_put, xm_new])
theorem xm_ev_mono (sc : xm_S) : ∀ (n d : Nat) (f : xm_F) (h : xm_H) (o : xm_O) (h2 : xm_H), xm_ev sc n d f h = some (o, h2) → h.1.length ≤ h2.1.length ∧ h.2 ≤ h2.2
  | 0, _, _, _, _, _, q => by cases q
  | n + 1, d, f, h, o, h2, q => by
    unfold xm_ev at q
    split at q
    · cases q
    · rename_i q9 hs
      have h1 := xm_ev_mono sc n d _ _ _ _ q
      unfold xm_step at hs
      split at hs
      · cases hs
      · split at hs
        · rename_i r9 hd
          cases hs
          have h3 := xm_do_k hd
          exact ⟨Nat.le_trans h3.2.1 h1.1, Nat.le_trans h3.2.2 h1.2⟩
        · unfold xm_end at hs
          simp only [xm_thr] at hs
          repeat' (split at hs)
          all_goals cases hs
    · rename_i q9 hs
      cases q
      unfold xm_step at hs
      split at hs
      · cases hs
      · split at hs
        · cases hs
        · unfold xm_end at hs
          simp only [xm_thr] at hs
          repeat' (split at hs)
          all_goals first | (cases hs; done) | (cases hs; exact ⟨Nat.le_refl _, Nat.le_refl _⟩)
    · rename_i q9 hs
      cases q
      unfold xm_step at hs
      split at hs
      · cases hs
      · split at hs
        · cases hs
        · unfold xm_end at hs
          simp only [xm_thr] at hs
          repeat' (split at hs)
          all_goals first | (cases hs; done) | (cases hs; simp)
    · split at q
      · cases q
      · split at q
        · cases q
        · rename_i hc
          have h1 := xm_ev_mono sc n _ _ _ _ _ hc
          have h3 := xm_ev_mono sc n _ _ _ _ _ q
          exact ⟨Nat.le_trans h1.1 h3.1, Nat.le_trans h1.2 h3.2⟩
        · rename_i hc
          have h1 := xm_ev_mono sc n _ _ _ _ _ hc
          split at q
          · split at q
            · cases q
              exact h1
            · split at q
              · have h3 := xm_ev_mono sc n _ _ _ _ _ q
                exact ⟨Nat.le_trans h1.1 h3.1, Nat.le_trans h1.2 h3.2⟩
              · cases q
          · cases q
/-- how a method ended: with that answer, or with that exception; and the cells then -/
def xm_OC (B sb : Nat) (D : va_G) (cs : Nat → ClassId) (o : xm_O) (h2 : xm_H) (s : State) (oc : Outcome) (t : State) : Prop :=
  (match o with
    | .inl v => oc = .returned (v.map (xm_cv B sb))
    | .inr x => ∃ (q : Addr) (ce : Cell), oc = .threw q ∧ t.heap[q]? = some ce ∧ ce.vm = .none ∧ s.vm.findClass (xm_xn x) = some ce.cls) ∧
  xm_hb B sb D cs h2.1 t.heap ∧ ∀ q : Nat, q ≤ B → t.heap[q]? = s.heap[q]?
def xm_FE (B : Nat) (s t : State) (mc ms : Nat) : Prop := ∃ L : List Loc, (s.WarmedH t.vm ∧ s.sameButNew ({ t with vm := s.vm } : State) L mc ms) ∧ ∀ q ∈ L, B < q.base
def xm_QQ (B sb : Nat) (D : va_G) (cs : Nat → ClassId) (o : xm_O) (h2 : xm_H) (below : List Frame) (s : State) (mc ms : Nat) : State → Prop := fun t =>
  ∃ oc, t.status = .running ∧ Ended t below oc ∧ xm_OC B sb D cs o h2 s oc t ∧ xm_FE B s t mc ms
def xm_Pc (B sb Lx : Nat) (xs : Nat → Int32) (D : va_G) (cs : Nat → ClassId) (as : List Value) (h : xm_H) : Array Value → State → Prop := va_Pc (as.map (xm_cv B sb)) (fun U =>
  xm_hb B sb D cs h.1 U.heap ∧ va_K D xm_cls (xm_tys cs) U ∧ va_X sb Lx xs U U.heap ∧ sb ≤ B ∧ xm_Zx B U ∧ xm_Nx U)
theorem xm_Wmono {p : Program} {l : Launch} {e : Env} {R : Room} {s : State} {m : MethodId} {args : Array Value} {below : List Frame} {meth : Method} {c : Code} {H : Heap} {locs : List Loc} {cells slots : Nat} {Q Q2 : State → Prop} {g : JFrame} (hQ : ∀ t, Q t → Q2 t) (w : W p l e R s m args below meth c H locs cells slots Q g) : W p l e R s m args below meth c H locs cells slots Q2 g := by
  intro T hT X
  obtain ⟨t, a, b⟩ := w T hT X
  exact ⟨t, a, hQ t b⟩
theorem xm_toQQ {B sb : Nat} {D : va_G} {cs : Nat → ClassId} {o : xm_O} {h2 : xm_H} {below : List Frame} {args : Array Value} {s : State} {mc ms : Nat} (t : State) (q : MQ below (fun _ st oc t => xm_OC B sb D cs o h2 st oc t) args s mc ms (fun q => B < q) t) : xm_QQ B sb D cs o h2 below s mc ms t := by
  obtain ⟨oc, q1, q2, q3, L, ⟨-, q4, q5⟩, q6⟩ := q
  exact ⟨oc, q1, q2, q3, L, ⟨q4, q5⟩, q6⟩
theorem xm_blind {B sb Lx : Nat} {xs : Nat → Int32} {D : va_G} {cs : Nat → ClassId} {as : List Value} {h : xm_H} : FrameBlind (xm_Pc B sb Lx xs D cs as h) := by
  intro a U g mk q
  obtain ⟨q0, q1, q2, q3, q4, q5, q6⟩ := q
  exact ⟨q0, q1, va_K.moved (u := U) (U := U.calling g mk a) (Vm.Alike.refl U.vm) q2, va_X.moved (u := U) (U := U.calling g mk a) (Vm.Alike.refl U.vm) q3, q4, xm_Zx.moved (u := U) (U := U.calling g mk a) (Vm.Alike.refl U.vm) (fun _ _ => rfl) q5, xm_Nx.moved (u := U) (U := U.calling g mk a) (State.WarmedH.refl U) q6⟩
section
variable {B sb Lx : Nat} {xs : Nat → Int32} {D : va_G} {cs : Nat → ClassId} {p : Program} {l : Launch} {e : Env} {R : Room} {s : State} {m : MethodId} {args : Array Value} {below : List Frame} {meth : Method} {c : Code} {Q : State → Prop} {s0 k pc : Nat} {L : xm_L} {st r : List Value} {h h2 : xm_H}
theorem xm_ret {i : ClassFile.Instr} {n : Nat} {v : Option Value} (G : xm_G B sb Lx xs D cs l p s m args meth c k) (hd : decode (xm_b k) pc = .ok (i, n)) (hs : xm_end i n k pc st h = some (.inr (.inl (v, h2)))) {mc ms : Nat} (hm : B + h2.1.length = s.heap.size + mc ∧ h2.2 = s0 + ms) :
    xm_J B sb D cs p l e R s m args below meth c (xm_QQ B sb D cs (.inl v) h2 below s mc ms) s0 (k, pc, L, st) h := by
  have hlk := G.2.2.2.2.2.2.1
  have hr := G.2.2.1
  have key : ∀ (H : Heap), xm_hb B sb D cs h.1 H → (∀ q : Nat, q ≤ B → H[q]? = s.heap[q]?) → ∀ v2 : Option Value, (Option.map (xm_cv B sb) v) = v2 → h2 = h → ∀ t : State, t.heap = H → s.WarmedH t.vm → xm_OC B sb D cs (.inl v) h2 s (.returned v2) t := by
    intro H a1 a2 v2 hv hh t ht _
    subst hh
    exact ⟨by rw [← hv], by rw [ht]; exact a1, fun q hq => by rw [ht]; exact a2 q hq⟩
  intro H ls locs cells slots a1 a2 a3 a4 a5 a6 a7
  have hh : h2 = h := by
    unfold xm_end at hs
    simp only [xm_thr] at hs
    repeat' (split at hs)
    all_goals first | (cases hs; done) | (cases hs; rfl)
  have hc : cells = mc := by rw [hh] at hm; omega
  have hz : slots = ms := by rw [hh] at hm; omega
  subst hc
  subst hz
  unfold xm_end at hs
  split at hs
  · split at hs
    · rename_i hr9
      cases hs
      exact xm_Wmono xm_toQQ (W.iret G.1 G.2.1 (hr.trans hr9) (key H a1 a2 _ rfl hh) a3 hd hlk)
    · rename_i hr9
      split at hs
      · rename_i hx
        cases hs
        exact xm_Wmono xm_toQQ (W.zret (ty := .boolean) G.1 G.2.1 (hr.trans hr9) (by rcases hx with rfl | rfl <;> decide +kernel) (key H a1 a2 _ rfl hh) a3 hd hlk)
      · cases hs
    · cases hs
  · split at hs
    · split at hs
      · rename_i hrr
        cases hs
        obtain ⟨rt, hrt, hrk⟩ := xm_t_rr hrr
        exact xm_Wmono xm_toQQ (W.aret (rt := rt) G.1 G.2.1 (hr.trans hrt) hrk (Or.inr ⟨_, rfl⟩) (key H a1 a2 _ rfl hh) a3 hd hlk)
      · cases hs
    · split at hs
      · rename_i hrr
        cases hs
        obtain ⟨rt, hrt, hrk⟩ := xm_t_rr hrr
        exact xm_Wmono xm_toQQ (W.aret (rt := rt) G.1 G.2.1 (hr.trans hrt) hrk (Or.inl rfl) (key H a1 a2 _ rfl hh) a3 hd hlk)
      · cases hs
    · cases hs
  · split at hs
    · rename_i hr9
      cases hs
      exact xm_Wmono xm_toQQ (W.vret G.1 G.2.1 (hr.trans hr9) (key H a1 a2 _ rfl hh) a3 hd hlk)
    · cases hs
  · exfalso
    simp only [xm_thr] at hs
    repeat' (split at hs)
    all_goals cases hs
  · exfalso
    repeat' (split at hs)
    all_goals cases hs
  · exfalso
    repeat' (split at hs)
    all_goals cases hs
  · exfalso
    repeat' (split at hs)
    all_goals cases hs
  · cases hs
end
end
section
/-! Throws in the walk, with the library's laws of a throw: own work. -/
/-- the walk's frame g, over which the exception at q is being thrown -/
def xm_WT (p : Program) (l : Launch) (e : Env) (R : Room) (s : State) (m : MethodId) (args : Array Value) (below : List Frame) (meth : Method) (c : Code) (H : Heap) (locs : List Loc) (cells slots : Nat) (Q : State → Prop) (g : JFrame) (q : Addr) : Prop :=
  ∀ T : State, T.heap = H → Stand p l e R s m args below meth c T locs cells slots → ∃ t, Steps p.tables e below ((T.setTop g).pushFrame (.throwing q)) t ∧ Q t
section
variable {p : Program} {l : Launch} {e : Env} {R : Room} {s : State} {m : MethodId} {args : Array Value} {below : List Frame} {meth : Method} {c : Code} {T : State} {locs : List Loc} {cells slots : Nat}
/-- a walk that stands at T stands there too as if it had begun at T, with what room is left -/
theorem xm_anew (X : Stand p l e R s m args below meth c T locs cells slots) (hc : cells + 1 ≤ R.cells) (hs : slots + 6 ≤ R.slots) :
    Stand p l e { frames := R.frames, cells := 1, slots := 6, locals := R.locals } ((T.setVm s.vm).setFrames (.invoking m args :: below)) m args below meth c T [] 0 0 := by
  have htop : (T.setVm s.vm).topJava?.isSome := X.here.top
  have hlt := State.cur_lt_of_top htop
  have hF : ((T.setVm s.vm).setFrames (.invoking m args :: below)).frames = .invoking m args :: below := State.frames_setFrames _ hlt
  obtain ⟨g0, hg0⟩ := Option.isSome_iff_exists.mp htop
  obtain ⟨fs, hfs⟩ := State.topJava?_eq_some.mp hg0
  have hdrop : T.heap.toList.drop T.heap.size = [] := List.drop_eq_nil_of_le (Nat.le_of_eq Array.length_toList)
  refine { admits := X.admits, cas := X.cas, clock := X.clock, frames := hF, room := ?_, hears := X.hears, method := X.method, code := X.code, here := X.here, tail := X.tail, warmed := X.warmed, limits := ?_, bytes := ?_, same := ?_ }
  · have h0 := X.room
    have hU : ((T.setVm s.vm).setFrames (.invoking m args :: below)).localsInUse = s.localsInUse := by
      rw [State.localsInUse_invoking hF (meth := meth) (c := c) X.method X.code, State.localsInUse_invoking X.frames X.method X.code]
    have h1 : e.platform.stackLimits (T.setVm s.vm).me = e.platform.stackLimits s.me := X.limits
    have h2 : (T.setVm s.vm).me.stackBytes = s.me.stackBytes := X.bytes
    have h3 := X.heapSize
    have h4 := X.used
    simp only [State.hasRoom, Bool.and_eq_true, decide_eq_true_eq] at h0 ⊢
    obtain ⟨⟨⟨⟨u1, u2, u3, u4, u5, u6⟩, u7⟩, u8⟩, u9⟩ := h0
    rw [X.frames, List.length_cons] at u2 u3
    simp only [hF, hU, List.length_cons, State.stackLimits_setFrames, State.stackBytes_setFrames, h1, h2]
    refine ⟨⟨⟨⟨by omega, by omega, by omega, by omega, by omega, u6⟩, ?_⟩, ?_⟩, X.book⟩
    · show T.heap.size + 1 ≤ _
      omega
    · show T.slotsUsed + 6 ≤ _
      omega
  · rw [State.stackLimits_setFrames]; rfl
  · rw [State.stackBytes_setFrames]; rfl
  · refine ⟨?_, Nat.le_refl _, Nat.le_refl _, ?_, ?_, fun a c9 h9 => ⟨c9, h9, rfl, rfl, fun _ _ => rfl⟩⟩
    · obtain ⟨th, ht, -⟩ := State.frames_cons hfs
      show T.setVm s.vm = { ((T.setVm s.vm).setFrames (.invoking m args :: below)).setFrames (T.setVm s.vm).frames with heap := T.heap, slotsUsed := T.slotsUsed }
      rw [State.setFrames_setFrames, State.setFrames_self ht]
      rfl
    · show T.slotsUsed = T.slotsUsed + ((T.heap.toList.drop T.heap.size).map (·.slots.size)).sum
      rw [hdrop]
      rfl
    · show ((T.heap.toList.drop T.heap.size).map (·.slots.size)).sum ≤ 0
      rw [hdrop]
      exact Nat.le_refl _
theorem xm_kept {s U : State} {k n : Nat} (h : s.sameButNew ({ U with vm := s.vm } : State) [] k n) {q : Nat} (hq : q < s.heap.size) : U.heap[q]? = s.heap[q]? := by
  obtain ⟨-, -, -, -, -, h6⟩ := h
  obtain ⟨c9, e1, e2, e3, e4⟩ := h6 q _ (Array.getElem?_eq_getElem hq)
  have hs : c9.slots = (s.heap[q]).slots := Array.ext_getElem? fun i => e4 i (fun hm => by cases hm)
  rw [hs] at e2
  have e5 : U.heap[q]? = some c9 := e1
  rw [e5, e2, Array.getElem?_eq_getElem hq]
end
end
section
/-! A new exception that is thrown at once; an exception that leaves the method: own work, over the library's laws of them. -/
section
variable {B sb Lx : Nat} {xs : Nat → Int32} {D : va_G} {cs : Nat → ClassId} {p : Program} {l : Launch} {e : Env} {R : Room} {s : State} {m : MethodId} {args : Array Value} {below : List Frame} {meth : Method} {c : Code} {Q : State → Prop} {s0 k pc : Nat} {L : xm_L} {st r : List Value} {h h2 : xm_H} {mc ms : Nat}
set_option maxHeartbeats 4000000 in
theorem xm_throw {a x ic : Nat} (G : xm_G B sb Lx xs D cs l p s m args meth c k) (hc : xm_cp k a = some (5, x, ic)) (d0 : decode (xm_b k) pc = .ok (.new a, 3)) (d3 : decode (xm_b k) (pc + 3) = .ok (.dup, 1)) (d4 : decode (xm_b k) (pc + 4) = .ok (.invokespecial ic, 3)) (d7 : decode (xm_b k) (pc + 7) = .ok (.athrow, 1)) (hh : xm_hh k = [])
    (hw : xm_wt st ≤ 8) (hR : 5 < R.frames ∧ 100 ≤ R.locals) (hm : B + (h.1.length + 1) = s.heap.size + mc ∧ h.2 + 6 = s0 + ms) (hmR : mc ≤ R.cells ∧ ms ≤ R.slots) :
    xm_J B sb D cs p l e R s m args below meth c (xm_QQ B sb D cs (.inr x) (h.1 ++ [none], h.2 + 6) below s mc ms) s0 (k, pc, L, st) h := by
  intro H ls locs cells slots a1 a2 a3 a4 a5 a6 a7
  intro T hT X
  obtain ⟨hexec, hb, -, hml, hown, hts, hlk, -, hex, -, -, -, hB, hZ, hN, hl⟩ := G
  obtain ⟨t1, t2, t3, t4, t5⟩ := xm_t_exc hc
  have hl0 : 0 < h.1.length := (List.getElem?_eq_some_iff.mp a1.2.1).1
  have htr : e.platform.stackTraces = false := (show e.platform.stackTraces = l.stackTraces by rw [X.admits.platform]).trans hl
  have Y := xm_anew X (by omega) (by omega)
  obtain ⟨s2, hs2⟩ : ∃ z, z = (T.setVm s.vm).setFrames (.invoking m args :: below) := ⟨_, rfl⟩
  rw [← hs2] at Y
  have hvm : s2.vm = s.vm := by rw [hs2]; rfl
  have hhp : s2.heap = H := by rw [hs2]; exact hT
  have hW0 : s.WarmedH s2.vm := by rw [hvm]; exact State.WarmedH.refl s
  have hgood : ∀ w ∈ xm_ws, w.before args s2 = true := fun w hw9 => word_at hW0 (good_of_word (xm_ws_good w hw9)) (hts w hw9)
  have hall : ∀ w ∈ Bundle.ownAtoms0 (xm_own k) ic (xm_xn x) xm_xs, w.before args s2 = true := by
    intro w hw9
    rcases t5 w hw9 with g | g | g
    · exact hgood w g
    · exact hN s2 hW0 args w g
    · exact hZ s2 hW0.alike (fun q hq => by rw [hhp]; exact a2 q hq) args w g
  have hown2 : s2.vm.findClass (xm_own k) = some m.cls := by rw [hvm]; exact hown
  have e0 : decode c.code pc = .ok (.new a, 3) := by rw [hb]; exact d0
  have e3 : decode c.code (pc + 3) = .ok (.dup, 1) := by rw [hb]; exact d3
  have e4 : decode c.code (pc + 4) = .ok (.invokespecial ic, 3) := by rw [hb]; exact d4
  have e7 : decode c.code (pc + 7) = .ok (.athrow, 1) := by rw [hb]; exact d7
  obtain ⟨vm1, cX, kX, hfX, hkX, -, -, X1, st1⟩ := Y.newCold hexec (own := xm_own k) (C := xm_xn x) (index := a) (n := 6) hown2 (hgood _ t3) (hall _ (by simp [Bundle.ownAtoms0])) (hgood _ t4)
    (g := F0 m pc ls (st.map (xm_cv B sb))) rfl e0 (Nat.le_refl _) (Nat.le_refl _)
  generalize hT1 : (T.setVm vm1).pushCell { cls := cX, slots := kX.instanceTypes.map defaultValue, vm := .none } = T1 at X1 st1
  have hcellA : T1.heap[T.heap.size]? = some (freshCell cX kX) := by rw [← hT1]; exact State.heap_pushCell_size _ _
  have hcat : (Value.ref T.heap.size).category = 1 := rfl
  have hsz : ls.size = c.maxLocals := by rw [hml]; exact a6.1.trans a7
  rw [hh] at hex
  obtain ⟨U, hsteps, hrun, hend, hW, hsame, ce, hce, hO⟩ := X1.ctorThrow0 hexec htr (own := xm_own k) (cls := xm_xn x) (names := xm_xs) (ic := ic) hown2 t1 t2 hall (fun z hz => nomatch hz) hfX hkX hcellA (by rw [hhp, hT]; exact Nat.le_refl _)
    (g := { method := m, pc := pc + 4, locals := ls, stack := .ref T.heap.size :: .ref T.heap.size :: st.map (xm_cv B sb), locked := none }) rfl hsz rfl rfl (rest := st.map (xm_cv B sb)) rfl e4 e7 (fun z hz => by rw [hex] at hz; cases hz)
    (by show 2 + 3 < R.frames; omega) (by
      simp only [List.map_cons, List.sum_cons, hcat]
      rw [xm_wt_cv]
      show 2 * 0 + (1 + xm_wt st) + (13 * (2 + 1) + 41) ≤ R.locals
      omega) hlk
  have hks : ∀ q : Nat, q < H.size → U.heap[q]? = H[q]? := fun q hq => by
    have := xm_kept hsame (q := q) (by rw [hhp]; exact hq)
    rw [hhp] at this
    exact this
  have hWs : s.WarmedH U.vm := State.WarmedH.trans hW0 hW
  have hcl : s.vm.findClass (xm_xn x) = some ce.cls := by
    have h9 := hO.cls
    rw [hvm] at h9
    exact h9
  have hlt : T.heap.size < U.heap.size := (Array.getElem?_eq_some_iff.mp hce).1
  have hub : U.heap.size ≤ s2.heap.size + 1 := hsame.2.2.1
  have hUz : U.heap.size = H.size + 1 := by rw [hhp] at hub; rw [hT] at hlt; omega
  have hend2 : s.sameButNew ({ U with vm := s.vm } : State) locs mc ms := by
    subst hs2
    obtain ⟨g1, g2⟩ := hsame
    rw [State.setFrames_setFrames] at g1
    have h2 : (T.setVm s.vm).sameButNew ({ U with vm := s.vm } : State) [] (0 + 1) (0 + 6) := ⟨g1, g2⟩
    have h3 := X.same.trans h2
    rw [List.append_nil] at h3
    exact h3.mono (by omega) (by omega)
  refine ⟨U, ?_, .threw T.heap.size, hrun, hend, ⟨⟨T.heap.size, ce, rfl, hce, hO.vm, hcl⟩, a1.push hUz hks (fun e' q => by cases q), fun q hq => ?_⟩, locs, ⟨hWs, hend2⟩, a3⟩
  · refine st1 _ ?_
    show Steps p.tables e below (T1.setTop { method := m, pc := pc + 3, locals := ls, stack := .ref T.heap.size :: st.map (xm_cv B sb), locked := none }) _
    jvm_step X1.here [X1.here.top, hexec, e3, Value.category]
    exact hsteps
  · rw [hks q (by have := a1.1; omega)]
    exact a2 q hq
/-- from this frame, over which an exception of the number x is thrown, the walk comes to its end -/
def xm_JX (B sb : Nat) (D : va_G) (cs : Nat → ClassId) (p : Program) (l : Launch) (e : Env) (R : Room) (s : State) (m : MethodId) (args : Array Value) (below : List Frame) (meth : Method) (c : Code) (Q : State → Prop) (s0 : Nat) (f : xm_F) (h : xm_H) (x : Nat) : Prop :=
  ∀ (H : Heap) (ls : Array Slot) (locs : List Loc) (cells slots : Nat) (q9 : Addr) (ce : Cell), xm_hb B sb D cs h.1 H → (∀ q : Nat, q ≤ B → H[q]? = s.heap[q]?) → (∀ z ∈ locs, B < z.base) → s.heap.size + cells = B + h.1.length → s0 + slots = h.2 → xm_lh B sb f.2.2.1 ls → f.2.2.1.length = xm_n f.1 →
    H[q9]? = some ce → ce.vm = .none → s.vm.findClass (xm_xn x) = some ce.cls → xm_WT p l e R s m args below meth c H locs cells slots Q (F0 m f.2.1 ls (f.2.2.2.map (xm_cv B sb))) q9
theorem xm_out {x : Nat} (G : xm_G B sb Lx xs D cs l p s m args meth c k) (hh : xm_hh k = []) (hm : B + h.1.length = s.heap.size + mc ∧ h.2 = s0 + ms) :
    xm_JX B sb D cs p l e R s m args below meth c (xm_QQ B sb D cs (.inr x) h below s mc ms) s0 (k, pc, L, st) h x := by
  intro H ls locs cells slots q9 ce a1 a2 a3 a4 a5 a6 a7 h1 h2 h3
  intro T hT X
  have hx := G.2.2.2.2.2.2.2.2.1
  rw [hh] at hx
  obtain ⟨g1, g2, g3, g4, g5⟩ := X.leaveThrown q9 (g := F0 m pc ls (st.map (xm_cv B sb))) rfl rfl rfl (fun z hz => by rw [hx] at hz; cases hz) G.2.2.2.2.2.2.1
  have hH : (T.setFrames (.throwing q9 :: below)).heap = H := hT
  refine ⟨_, g1, .threw q9, g2, g3, ⟨⟨q9, ce, rfl, by rw [hH]; exact h1, h2, h3⟩, by rw [hH]; exact a1, fun q hq => by rw [hH]; exact a2 q hq⟩, locs, ⟨g4, ?_⟩, a3⟩
  have hc : cells = mc := by omega
  have hs : slots = ms := by omega
  subst hc
  subst hs
  exact g5
end
end
section
/-! Contracts that may end in a throw, and calls by them: own work. -/
def xm_Met (B sb : Nat) (D : va_G) (cs : Nat → ClassId) (l : Launch) (y : MethodName) (ws : List Cond) (rm : Room) (Pc : Array Value → State → Prop) (o : xm_O) (h2 : xm_H) (mc ms : Nat) : Prop :=
  MetFree l y (headSpec ws rm) Pc (fun _ _ _ _ _ => True) (fun _ st oc t => xm_OC B sb D cs o h2 st oc t ∧ xm_FE B st t mc ms)
theorem xm_toMet {B sb : Nat} {D : va_G} {cs : Nat → ClassId} {l : Launch} {y : MethodName} {ws : List Cond} {rm : Room} {Pc : Array Value → State → Prop} {v : Option Value} {h2 : xm_H} {mc ms : Nat} (hM : xm_Met B sb D cs l y ws rm Pc (.inl v) h2 mc ms) :
    Met l y ws rm Pc (fun _ st oc t => xm_OC B sb D cs (.inl v) h2 st oc t) mc ms (fun q => B < q) := by
  intro p e ha hc hk s m args below hf happ hP hK
  obtain ⟨n, oc, q1, q2, q3, q4, L, ⟨q5, q6⟩, q7⟩ := hM p e ha hc hk s m args below hf happ hP hK
  exact ⟨n, oc, q1, q2, q3, q4, L, ⟨⟨_, q4.1⟩, q5, q6⟩, q7⟩
theorem xm_of {B sb : Nat} {D : va_G} {cs : Nat → ClassId} {l : Launch} {y : MethodName} {ws : List Cond} {rm : Room} {Pc : Array Value → State → Prop} {o : xm_O} {h2 : xm_H} {mc ms : Nat} {cc : ByteArray} {maxL : Nat} {ret : Option FieldType} (hy : plainName y.cls = true)
    (his : ∀ args (s : State) m, (headSpec ws rm).pre.before args s = true → s.methodNamed? y = some m → ∃ meth c, s.vm.method? m = some meth ∧ meth.code = some c ∧ c.code = cc ∧ c.maxLocals = maxL ∧ meth.sig.returnType = ret ∧ meth.locks = false)
    (body : ∀ p e s m args below meth c s₁, BodyLoose p l y (headSpec ws rm) cc maxL ret e s m args below meth c s₁ → c.maxLocals = maxL → Pc args s →
      W p l e (headSpec ws rm).room s m args below meth c s.heap [] 0 0 (xm_QQ B sb D cs o h2 below s mc ms) (entryFrame m args maxL)) : xm_Met B sb D cs l y ws rm Pc o h2 mc ms := by
  refine MetFree.of_bodyS (code := cc) (maxLocals := maxL) (ret := ret) hy his ?_
  intro p e s m args below meth c s₁ B9 hml hP _
  have hh0 : s₁.heap = s.heap := by rw [B9.state]; rfl
  obtain ⟨t, a1, oc, b1, b2, b3, b4⟩ := body p e s m args below meth c s₁ B9 hml hP s₁ hh0 (Stand.of_body B9)
  exact ⟨t, oc, a1, b1, b2, b3, b4⟩
section
variable {B sb : Nat} {D : va_G} {cs : Nat → ClassId} {p : Program} {l : Launch} {e : Env} {R : Room} {s : State} {m : MethodId} {args : Array Value} {below : List Frame} {meth : Method} {c : Code} {T : State} {locs : List Loc} {cells slots : Nat}
set_option maxHeartbeats 4000000 in
/-- a method of an object is called, and throws -/
theorem xm_callVT {own C : String} {index : Nat} {y : MethodName} {bytes : ByteArray} {maxL z mc ms x : Nat} {ret : Option FieldType} {ws : List Cond} {rm : Room} {Pc : Array Value → State → Prop} {h3 : xm_H} {b : Addr} {g : JFrame} {As rest : List Value} {H : Heap}
    (X : Stand p l e R s m args below meth c T locs cells slots) (hexec : p.tables.exec = Jvm.exec) (hown : s.vm.findClass own = some m.cls) (hM : xm_Met B sb D cs l y ws rm Pc (.inr x) h3 mc ms) (cw : CallW R s args own C index y bytes maxL ret ws rm mc ms z) (hp : PreV s H C b Pc As) (hT : T.heap = H)
    (hg : g.method = m) (hn : As.length = z) (hsize : g.locals.size = c.maxLocals) (hstack : g.stack = As.reverse ++ .ref b :: rest) (hW8 : 2 * g.monitorRoom + (rest.map fun v => v.category).sum ≤ 8) (hdg : decode c.code g.pc = .ok (.invokevirtual index, 3)) (hf : cells + mc ≤ R.cells ∧ slots + ms ≤ R.slots) :
    ∃ (q : Addr) (st₀ t T' : State) (L : List Loc), st₀.heap = H ∧ st₀.vm.Alike s.vm ∧ Stand p l e R s m args below meth c T' (locs ++ L) (cells + mc) (slots + ms) ∧ (∀ z ∈ L, B < z.base) ∧ T'.heap = t.heap ∧ xm_OC B sb D cs (.inr x) h3 st₀ (.threw q) t ∧
      Steps p.tables e below (T.setTop g) ((T'.setTop { g with stack := rest }).pushFrame (.throwing q)) := by
  obtain ⟨⟨hrc, hrs, hfr, hlo, hws, hcw, hcode, hini, hy, hlen, hlink⟩, hinst, hsel⟩ := cw
  obtain ⟨hbl, ⟨cellB, hcell, hobj, hcls⟩, hPc⟩ := hp
  obtain ⟨mk, methM, hnamed, hmethM, hstM, habM⟩ := Cond.instanceMethod_spec hinst
  obtain ⟨methM', cM, hmethM', -, -, -, -, -, -, hsigM⟩ := Cond.code_spec hnamed hcode
  cases hmethM.symm.trans hmethM'
  obtain ⟨c2, r2, m2, q1, q2, q3, q4, kP, hkP, hkPi⟩ := Cond.selects_spec hsel
  cases hcls.symm.trans q1
  cases (State.methodFound?_of_named hnamed hy).symm.trans q2
  cases hnamed.symm.trans q3
  have hselP : selectMethod e.platform s.vm cellB.cls mk = .method mk := by rw [Launch.admits_selectMethod X.admits]; exact q4
  obtain ⟨vm1, X1, hstep1⟩ := X.invokevirtual hexec hown hlink hnamed hmethM hstM hkP hkPi hy (a := b) (cell := cellB) (by rw [hT]; exact hcell)
    (fun w h => by rw [h] at hobj; cases hobj) hselP hmethM habM hkP hkPi (g := g) hg (argsL := As) (rest := rest) (hn.trans (hlen _ hsigM)) hstack hdg
  have hwU : ∀ w ∈ ws, w.before (Value.ref b :: As).toArray (T.setVm vm1) = true := fun w hw => hws w hw _ _ X1.warmed
  have hiU : (Cond.initialized y.cls).before (Value.ref b :: As).toArray (T.setVm vm1) = true := word_at X1.warmed (Or.inl (by first | rfl | simp [Cond.onTables, Cond.keeps, Cond.steady])) hini
  have hnU : (T.setVm vm1).methodNamed? y = some mk := X1.named hnamed
  obtain ⟨methY, cY, hmY, hcY, -, hlY, -, -, -, -⟩ := Cond.code_spec hnU (hwU _ hcw)
  obtain ⟨kY, hkY, -⟩ := className_of_methodNamed hnU
  have hinitY : kY.init = .initialized := Cond.initialized_spec (findClass_of_methodNamed hnU) hkY hiU
  have hat : At (T.setVm vm1) ({ g with stack := rest } : JFrame).method c below := by
    show At (T.setVm vm1) g.method c below
    rw [hg]
    exact X1.here
  have happ : (headSpec ws rm).appliesLoose y e.platform ((T.setVm vm1).calling { g with stack := rest } mk (Value.ref b :: As).toArray) = true :=
    Spec.appliesLoose_calling (g := { g with stack := rest }) hat hdg hnU hkY hinitY
      (X1.room_calling (g := { g with stack := rest }) (R' := (headSpec ws rm).room) hsize hmY hcY hfr (by rw [hlY]; show 2 * g.monitorRoom + (rest.map fun v => v.category).sum + (maxL + 11) + rm.locals ≤ R.locals; omega) (by show cells + rm.cells ≤ _; omega) (by show slots + rm.slots ≤ _; omega)) (atoms_intro hwU)
  obtain ⟨mid, hmid⟩ := hat.above
  have hfr2 : ((T.setVm vm1).setTop { g with stack := rest }).frames = (.java { g with stack := rest } :: mid) ++ below := by rw [State.frames_setTop' _ hat.top, hmid]; rfl
  have hPU : Pc (Value.ref b :: As).toArray ((T.setVm vm1).calling { g with stack := rest } mk (Value.ref b :: As).toArray) := hbl _ _ _ _ (hPc (T.setVm vm1) hT X1.warmed)
  obtain ⟨oc, t, hsteps, -, hend, hq⟩ := Steps.callFree hM p X.admits X.cas X.clock (acts := []) hfr2 happ hPU trivial
  rw [State.frames_setTop' _ hat.top, X1.tail] at hend
  obtain ⟨⟨⟨q, ce, rfl, hce, hcv, hcl⟩, hhb, hho⟩, L, ⟨hW, hsame⟩, hL⟩ := hq
  obtain ⟨T', X', -, -, ht⟩ := X1.outOfThrown (g := { g with stack := rest }) hg (mk := mk) (a := (Value.ref b :: As).toArray) (t := t) hend hW hsame
  have hth : T'.heap = t.heap := by
    rw [ht]
    exact (Stand.throwing_heap T' { g with stack := rest } q).symm
  refine ⟨q, (T.setVm vm1).calling { g with stack := rest } mk (Value.ref b :: As).toArray, t, T', L, hT, X1.warmed.alike.symm, X', hL, hth, ⟨⟨q, ce, rfl, hce, hcv, hcl⟩, hhb, hho⟩, hstep1 _ fun acts => ?_⟩
  rw [doInvoke_state, ← ht]
  exact hsteps
end
end
section
/-! The words of calls: own work. -/
def xm_cd (k : Nat) : Cond := Cond.code (xm_y k) (xm_b k) (xm_n k) (xm_r k)
theorem xm_w0 : xm_cd 0 ∈ xm_ws := List.mem_filter.mpr ⟨xm_tb_in (j := 1) (List.mem_of_getElem? (i := 18) rfl), rfl⟩
theorem xm_w1 : xm_cd 1 ∈ xm_ws := List.mem_filter.mpr ⟨xm_tb_in (j := 1) (List.mem_of_getElem? (i := 103) rfl), rfl⟩
theorem xm_w2 : xm_cd 2 ∈ xm_ws := List.mem_filter.mpr ⟨xm_tb_in (j := 1) (List.mem_of_getElem? (i := 162) rfl), rfl⟩
theorem xm_w3 : xm_cd 3 ∈ xm_ws := List.mem_filter.mpr ⟨xm_tb_in (j := 1) (List.mem_of_getElem? (i := 182) rfl), rfl⟩
theorem xm_w4 : xm_cd 4 ∈ xm_ws := List.mem_filter.mpr ⟨xm_tb_in (j := 1) (List.mem_of_getElem? (i := 193) rfl), rfl⟩
theorem xm_w5 : xm_cd 5 ∈ xm_ws := List.mem_filter.mpr ⟨xm_tb_in (j := 1) (List.mem_of_getElem? (i := 200) rfl), rfl⟩
theorem xm_w6 : xm_cd 6 ∈ xm_ws := List.mem_filter.mpr ⟨xm_tb_in (j := 1) (List.mem_of_getElem? (i := 236) rfl), rfl⟩
theorem xm_w7 : xm_cd 7 ∈ xm_ws := List.mem_filter.mpr ⟨xm_tb_in (j := 2) (List.mem_of_getElem? (i := 16) rfl), rfl⟩
theorem xm_w8 : xm_cd 8 ∈ xm_ws := List.mem_filter.mpr ⟨xm_tb_in (j := 2) (List.mem_of_getElem? (i := 39) rfl), rfl⟩
theorem xm_w9 : xm_cd 9 ∈ xm_ws := List.mem_filter.mpr ⟨xm_tb_in (j := 2) (List.mem_of_getElem? (i := 47) rfl), rfl⟩
theorem xm_w10 : xm_cd 10 ∈ xm_ws := List.mem_filter.mpr ⟨xm_tb_in (j := 2) (List.mem_of_getElem? (i := 76) rfl), rfl⟩
theorem xm_w11 : xm_cd 11 ∈ xm_ws := List.mem_filter.mpr ⟨xm_tb_in (j := 2) (List.mem_of_getElem? (i := 51) rfl), rfl⟩
theorem xm_w12 : xm_cd 12 ∈ xm_ws := List.mem_filter.mpr ⟨xm_tb_in (j := 2) (List.mem_of_getElem? (i := 59) rfl), rfl⟩
theorem xm_w13 : xm_cd 13 ∈ xm_ws := List.mem_filter.mpr ⟨xm_tb_in (j := 2) (List.mem_of_getElem? (i := 63) rfl), rfl⟩
theorem xm_w14 : xm_cd 14 ∈ xm_ws := List.mem_filter.mpr ⟨xm_tb_in (j := 2) (List.mem_of_getElem? (i := 67) rfl), rfl⟩
theorem xm_w15 : xm_cd 15 ∈ xm_ws := List.mem_filter.mpr ⟨xm_tb_in (j := 1) (List.mem_of_getElem? (i := 106) rfl), rfl⟩
theorem xm_w16 : xm_cd 16 ∈ xm_ws := List.mem_filter.mpr ⟨xm_tb_in (j := 1) (List.mem_of_getElem? (i := 166) rfl), rfl⟩
theorem xm_w17 : xm_cd 17 ∈ xm_ws := List.mem_filter.mpr ⟨xm_tb_in (j := 1) (List.mem_of_getElem? (i := 158) rfl), rfl⟩
theorem xm_w18 : xm_cd 18 ∈ xm_ws := List.mem_filter.mpr ⟨xm_tb_in (j := 1) (List.mem_of_getElem? (i := 114) rfl), rfl⟩
theorem xm_w19 : xm_cd 19 ∈ xm_ws := List.mem_filter.mpr ⟨xm_tb_in (j := 1) (List.mem_of_getElem? (i := 109) rfl), rfl⟩
theorem xm_w20 : xm_cd 20 ∈ xm_ws := List.mem_filter.mpr ⟨xm_tb_in (j := 1) (List.mem_of_getElem? (i := 185) rfl), rfl⟩
theorem xm_w21 : xm_cd 21 ∈ xm_ws := List.mem_filter.mpr ⟨xm_tb_in (j := 1) (List.mem_of_getElem? (i := 196) rfl), rfl⟩
theorem xm_w22 : xm_cd 22 ∈ xm_ws := List.mem_filter.mpr ⟨xm_tb_in (j := 2) (List.mem_of_getElem? (i := 35) rfl), rfl⟩
theorem xm_w23 : xm_cd 23 ∈ xm_ws := List.mem_filter.mpr ⟨xm_tb_in (j := 1) (List.mem_of_getElem? (i := 178) rfl), rfl⟩
theorem xm_w24 : xm_cd 24 ∈ xm_ws := List.mem_filter.mpr ⟨xm_tb_in (j := 1) (List.mem_of_getElem? (i := 189) rfl), rfl⟩
theorem xm_w25 : xm_cd 25 ∈ xm_ws := List.mem_filter.mpr ⟨xm_tb_in (j := 1) (List.mem_of_getElem? (i := 170) rfl), rfl⟩
theorem xm_w26 : xm_cd 26 ∈ xm_ws := List.mem_filter.mpr ⟨xm_tb_in (j := 1) (List.mem_of_getElem? (i := 174) rfl), rfl⟩
theorem xm_w27 : xm_cd 27 ∈ xm_ws := List.mem_filter.mpr ⟨xm_tb_in (j := 2) (List.mem_of_getElem? (i := 199) rfl), rfl⟩
theorem xm_w28 : xm_cd 28 ∈ xm_ws := List.mem_filter.mpr ⟨xm_tb_in (j := 2) (List.mem_of_getElem? (i := 195) rfl), rfl⟩
theorem xm_w29 : xm_cd 29 ∈ xm_ws := List.mem_filter.mpr ⟨xm_tb_in (j := 2) (List.mem_of_getElem? (i := 8) rfl), rfl⟩
theorem xm_w30 : xm_cd 30 ∈ xm_ws := List.mem_filter.mpr ⟨xm_tb_in (j := 2) (List.mem_of_getElem? (i := 4) rfl), rfl⟩
theorem xm_w31 : xm_cd 31 ∈ xm_ws := List.mem_filter.mpr ⟨xm_tb_in (j := 2) (List.mem_of_getElem? (i := 32) rfl), rfl⟩
theorem xm_w32 : xm_cd 32 ∈ xm_ws := List.mem_filter.mpr ⟨xm_tb_in (j := 2) (List.mem_of_getElem? (i := 28) rfl), rfl⟩
theorem xm_w33 : xm_cd 33 ∈ xm_ws := List.mem_filter.mpr ⟨xm_tb_in (j := 2) (List.mem_of_getElem? (i := 186) rfl), rfl⟩
theorem xm_w34 : xm_cd 34 ∈ xm_ws := List.mem_filter.mpr ⟨xm_tb_in (j := 1) (List.mem_of_getElem? (i := 205) rfl), rfl⟩
theorem xm_w35 : xm_cd 35 ∈ xm_ws := List.mem_filter.mpr ⟨xm_tb_in (j := 2) (List.mem_of_getElem? (i := 0) rfl), rfl⟩
theorem xm_w36 : xm_cd 36 ∈ xm_ws := List.mem_filter.mpr ⟨xm_tb_in (j := 2) (List.mem_of_getElem? (i := 12) rfl), rfl⟩
theorem xm_w37 : xm_cd 37 ∈ xm_ws := List.mem_filter.mpr ⟨xm_tb_in (j := 2) (List.mem_of_getElem? (i := 20) rfl), rfl⟩
theorem xm_w38 : xm_cd 38 ∈ xm_ws := List.mem_filter.mpr ⟨xm_tb_in (j := 2) (List.mem_of_getElem? (i := 24) rfl), rfl⟩
theorem xm_w39 : xm_cd 39 ∈ xm_ws := List.mem_filter.mpr ⟨xm_tb_in (j := 1) (List.mem_of_getElem? (i := 119) rfl), rfl⟩
theorem xm_w40 : xm_cd 40 ∈ xm_ws := List.mem_filter.mpr ⟨xm_tb_in (j := 2) (List.mem_of_getElem? (i := 190) rfl), rfl⟩
theorem xm_w41 : xm_cd 41 ∈ xm_ws := List.mem_filter.mpr ⟨xm_tb_in (j := 3) (List.mem_of_getElem? (i := 10) rfl), rfl⟩
theorem xm_w42 : xm_cd 42 ∈ xm_ws := List.mem_filter.mpr ⟨xm_tb_in (j := 1) (List.mem_of_getElem? (i := 28) rfl), rfl⟩
theorem xm_w43 : xm_cd 43 ∈ xm_ws := List.mem_filter.mpr ⟨xm_tb_in (j := 2) (List.mem_of_getElem? (i := 55) rfl), rfl⟩
theorem xm_w44 : xm_cd 44 ∈ xm_ws := List.mem_filter.mpr ⟨xm_tb_in (j := 2) (List.mem_of_getElem? (i := 43) rfl), rfl⟩
theorem xm_w45 : xm_cd 45 ∈ xm_ws := List.mem_filter.mpr ⟨xm_tb_in (j := 2) (List.mem_of_getElem? (i := 146) rfl), rfl⟩
theorem xm_w46 : xm_cd 46 ∈ xm_ws := List.mem_filter.mpr ⟨xm_tb_in (j := 3) (List.mem_of_getElem? (i := 86) rfl), rfl⟩
theorem xm_w47 : xm_cd 47 ∈ xm_ws := List.mem_filter.mpr ⟨xm_tb_in (j := 3) (List.mem_of_getElem? (i := 90) rfl), rfl⟩
theorem xm_w48 : xm_cd 48 ∈ xm_ws := List.mem_filter.mpr ⟨xm_tb_in (j := 2) (List.mem_of_getElem? (i := 224) rfl), rfl⟩
theorem xm_w49 : xm_cd 49 ∈ xm_ws := List.mem_filter.mpr ⟨xm_tb_in (j := 2) (List.mem_of_getElem? (i := 231) rfl), rfl⟩
theorem xm_w50 : xm_cd 50 ∈ xm_ws := List.mem_filter.mpr ⟨xm_tb_in (j := 2) (List.mem_of_getElem? (i := 220) rfl), rfl⟩
theorem xm_w51 : xm_cd 51 ∈ xm_ws := List.mem_filter.mpr ⟨xm_tb_in (j := 3) (List.mem_of_getElem? (i := 2) rfl), rfl⟩
theorem xm_w52 : xm_cd 52 ∈ xm_ws := List.mem_filter.mpr ⟨xm_tb_in (j := 3) (List.mem_of_getElem? (i := 6) rfl), rfl⟩
theorem xm_w53 : xm_cd 53 ∈ xm_ws := List.mem_filter.mpr ⟨xm_tb_in (j := 1) (List.mem_of_getElem? (i := 45) rfl), rfl⟩
theorem xm_w54 : xm_cd 54 ∈ xm_ws := List.mem_filter.mpr ⟨xm_tb_in (j := 2) (List.mem_of_getElem? (i := 142) rfl), rfl⟩
theorem xm_w55 : xm_cd 55 ∈ xm_ws := List.mem_filter.mpr ⟨xm_tb_in (j := 2) (List.mem_of_getElem? (i := 151) rfl), rfl⟩
theorem xm_w56 : xm_cd 56 ∈ xm_ws := List.mem_filter.mpr ⟨xm_tb_in (j := 2) (List.mem_of_getElem? (i := 174) rfl), rfl⟩
theorem xm_w57 : xm_cd 57 ∈ xm_ws := List.mem_filter.mpr ⟨xm_tb_in (j := 2) (List.mem_of_getElem? (i := 170) rfl), rfl⟩
theorem xm_w58 : xm_cd 58 ∈ xm_ws := List.mem_filter.mpr ⟨xm_tb_in (j := 2) (List.mem_of_getElem? (i := 178) rfl), rfl⟩
theorem xm_w59 : xm_cd 59 ∈ xm_ws := List.mem_filter.mpr ⟨xm_tb_in (j := 2) (List.mem_of_getElem? (i := 211) rfl), rfl⟩
theorem xm_w60 : xm_cd 60 ∈ xm_ws := List.mem_filter.mpr ⟨xm_tb_in (j := 2) (List.mem_of_getElem? (i := 182) rfl), rfl⟩
theorem xm_w61 : xm_cd 61 ∈ xm_ws := List.mem_filter.mpr ⟨xm_tb_in (j := 2) (List.mem_of_getElem? (i := 207) rfl), rfl⟩
theorem xm_w62 : xm_cd 62 ∈ xm_ws := List.mem_filter.mpr ⟨xm_tb_in (j := 3) (List.mem_of_getElem? (i := 65) rfl), rfl⟩
theorem xm_w63 : xm_cd 63 ∈ xm_ws := List.mem_filter.mpr ⟨xm_tb_in (j := 3) (List.mem_of_getElem? (i := 69) rfl), rfl⟩
theorem xm_w64 : xm_cd 64 ∈ xm_ws := List.mem_filter.mpr ⟨xm_tb_in (j := 3) (List.mem_of_getElem? (i := 73) rfl), rfl⟩
theorem xm_w65 : xm_cd 65 ∈ xm_ws := List.mem_filter.mpr ⟨xm_tb_in (j := 3) (List.mem_of_getElem? (i := 77) rfl), rfl⟩
theorem xm_w66 : xm_cd 66 ∈ xm_ws := List.mem_filter.mpr ⟨xm_tb_in (j := 3) (List.mem_of_getElem? (i := 81) rfl), rfl⟩
theorem xm_w67 : xm_cd 67 ∈ xm_ws := List.mem_filter.mpr ⟨xm_tb_in (j := 3) (List.mem_of_getElem? (i := 22) rfl), rfl⟩
theorem xm_w68 : xm_cd 68 ∈ xm_ws := List.mem_filter.mpr ⟨xm_tb_in (j := 3) (List.mem_of_getElem? (i := 39) rfl), rfl⟩
theorem xm_w69 : xm_cd 69 ∈ xm_ws := List.mem_filter.mpr ⟨xm_tb_in (j := 3) (List.mem_of_getElem? (i := 27) rfl), rfl⟩
theorem xm_w70 : xm_cd 70 ∈ xm_ws := List.mem_filter.mpr ⟨xm_tb_in (j := 3) (List.mem_of_getElem? (i := 31) rfl), rfl⟩
theorem xm_w71 : xm_cd 71 ∈ xm_ws := List.mem_filter.mpr ⟨xm_tb_in (j := 3) (List.mem_of_getElem? (i := 35) rfl), rfl⟩
theorem xm_w72 : xm_cd 72 ∈ xm_ws := List.mem_filter.mpr ⟨xm_tb_in (j := 3) (List.mem_of_getElem? (i := 60) rfl), rfl⟩
theorem xm_w73 : xm_cd 73 ∈ xm_ws := List.mem_filter.mpr ⟨xm_tb_in (j := 3) (List.mem_of_getElem? (i := 43) rfl), rfl⟩
theorem xm_w74 : xm_cd 74 ∈ xm_ws := List.mem_filter.mpr ⟨xm_tb_in (j := 3) (List.mem_of_getElem? (i := 46) rfl), rfl⟩
theorem xm_w75 : xm_cd 75 ∈ xm_ws := List.mem_filter.mpr ⟨xm_tb_in (j := 3) (List.mem_of_getElem? (i := 49) rfl), rfl⟩
theorem xm_w76 : xm_cd 76 ∈ xm_ws := List.mem_filter.mpr ⟨xm_tb_in (j := 3) (List.mem_of_getElem? (i := 53) rfl), rfl⟩
theorem xm_w77 : xm_cd 77 ∈ xm_ws := List.mem_filter.mpr ⟨xm_tb_in (j := 3) (List.mem_of_getElem? (i := 18) rfl), rfl⟩
theorem xm_w78 : xm_cd 78 ∈ xm_ws := List.mem_filter.mpr ⟨xm_tb_in (j := 3) (List.mem_of_getElem? (i := 14) rfl), rfl⟩
theorem xm_w79 : xm_cd 79 ∈ xm_ws := List.mem_filter.mpr ⟨xm_tb_in (j := 2) (List.mem_of_getElem? (i := 203) rfl), rfl⟩
theorem xm_w80 : xm_cd 80 ∈ xm_ws := List.mem_filter.mpr ⟨xm_tb_in (j := 2) (List.mem_of_getElem? (i := 216) rfl), rfl⟩
theorem xm_w81 : xm_cd 81 ∈ xm_ws := List.mem_filter.mpr ⟨xm_tb_in (j := 2) (List.mem_of_getElem? (i := 235) rfl), rfl⟩
theorem xm_w82 : xm_cd 82 ∈ xm_ws := List.mem_filter.mpr ⟨xm_tb_in (j := 3) (List.mem_of_getElem? (i := 98) rfl), rfl⟩
theorem xm_w83 : xm_cd 83 ∈ xm_ws := List.mem_filter.mpr ⟨xm_tb_in (j := 4) (List.mem_of_getElem? (i := 6) rfl), rfl⟩
theorem xm_w84 : xm_cd 84 ∈ xm_ws := List.mem_filter.mpr ⟨xm_tb_in (j := 4) (List.mem_of_getElem? (i := 79) rfl), rfl⟩
theorem xm_w85 : xm_cd 85 ∈ xm_ws := List.mem_filter.mpr ⟨xm_tb_in (j := 4) (List.mem_of_getElem? (i := 22) rfl), rfl⟩
theorem xm_w86 : xm_cd 86 ∈ xm_ws := List.mem_filter.mpr ⟨xm_tb_in (j := 4) (List.mem_of_getElem? (i := 14) rfl), rfl⟩
theorem xm_w87 : xm_cd 87 ∈ xm_ws := List.mem_filter.mpr ⟨xm_tb_in (j := 4) (List.mem_of_getElem? (i := 10) rfl), rfl⟩
theorem xm_w88 : xm_cd 88 ∈ xm_ws := List.mem_filter.mpr ⟨xm_tb_in (j := 4) (List.mem_of_getElem? (i := 18) rfl), rfl⟩
theorem xm_w89 : xm_cd 89 ∈ xm_ws := List.mem_filter.mpr ⟨xm_tb_in (j := 4) (List.mem_of_getElem? (i := 30) rfl), rfl⟩
theorem xm_w90 : xm_cd 90 ∈ xm_ws := List.mem_filter.mpr ⟨xm_tb_in (j := 4) (List.mem_of_getElem? (i := 26) rfl), rfl⟩
theorem xm_w91 : xm_cd 91 ∈ xm_ws := List.mem_filter.mpr ⟨xm_tb_in (j := 4) (List.mem_of_getElem? (i := 35) rfl), rfl⟩
theorem xm_w92 : xm_cd 92 ∈ xm_ws := List.mem_filter.mpr ⟨xm_tb_in (j := 4) (List.mem_of_getElem? (i := 39) rfl), rfl⟩
theorem xm_w93 : xm_cd 93 ∈ xm_ws := List.mem_filter.mpr ⟨xm_tb_in (j := 4) (List.mem_of_getElem? (i := 47) rfl), rfl⟩
theorem xm_w94 : xm_cd 94 ∈ xm_ws := List.mem_filter.mpr ⟨xm_tb_in (j := 4) (List.mem_of_getElem? (i := 43) rfl), rfl⟩
theorem xm_w95 : xm_cd 95 ∈ xm_ws := List.mem_filter.mpr ⟨xm_tb_in (j := 4) (List.mem_of_getElem? (i := 63) rfl), rfl⟩
theorem xm_w96 : xm_cd 96 ∈ xm_ws := List.mem_filter.mpr ⟨xm_tb_in (j := 4) (List.mem_of_getElem? (i := 59) rfl), rfl⟩
theorem xm_w97 : xm_cd 97 ∈ xm_ws := List.mem_filter.mpr ⟨xm_tb_in (j := 4) (List.mem_of_getElem? (i := 55) rfl), rfl⟩
theorem xm_w98 : xm_cd 98 ∈ xm_ws := List.mem_filter.mpr ⟨xm_tb_in (j := 4) (List.mem_of_getElem? (i := 51) rfl), rfl⟩
theorem xm_w99 : xm_cd 99 ∈ xm_ws := List.mem_filter.mpr ⟨xm_tb_in (j := 4) (List.mem_of_getElem? (i := 67) rfl), rfl⟩
theorem xm_w100 : xm_cd 100 ∈ xm_ws := List.mem_filter.mpr ⟨xm_tb_in (j := 4) (List.mem_of_getElem? (i := 71) rfl), rfl⟩
theorem xm_w101 : xm_cd 101 ∈ xm_ws := List.mem_filter.mpr ⟨xm_tb_in (j := 4) (List.mem_of_getElem? (i := 95) rfl), rfl⟩
theorem xm_w102 : xm_cd 102 ∈ xm_ws := List.mem_filter.mpr ⟨xm_tb_in (j := 4) (List.mem_of_getElem? (i := 91) rfl), rfl⟩
theorem xm_w103 : xm_cd 103 ∈ xm_ws := List.mem_filter.mpr ⟨xm_tb_in (j := 4) (List.mem_of_getElem? (i := 87) rfl), rfl⟩
theorem xm_w104 : xm_cd 104 ∈ xm_ws := List.mem_filter.mpr ⟨xm_tb_in (j := 4) (List.mem_of_getElem? (i := 107) rfl), rfl⟩
theorem xm_w105 : xm_cd 105 ∈ xm_ws := List.mem_filter.mpr ⟨xm_tb_in (j := 4) (List.mem_of_getElem? (i := 124) rfl), rfl⟩
theorem xm_w106 : xm_cd 106 ∈ xm_ws := List.mem_filter.mpr ⟨xm_tb_in (j := 4) (List.mem_of_getElem? (i := 153) rfl), rfl⟩
theorem xm_w107 : xm_cd 107 ∈ xm_ws := List.mem_filter.mpr ⟨xm_tb_in (j := 4) (List.mem_of_getElem? (i := 149) rfl), rfl⟩
theorem xm_w108 : xm_cd 108 ∈ xm_ws := List.mem_filter.mpr ⟨xm_tb_in (j := 4) (List.mem_of_getElem? (i := 157) rfl), rfl⟩
theorem xm_w109 : xm_cd 109 ∈ xm_ws := List.mem_filter.mpr ⟨xm_tb_in (j := 4) (List.mem_of_getElem? (i := 145) rfl), rfl⟩
theorem xm_w110 : xm_cd 110 ∈ xm_ws := List.mem_filter.mpr ⟨xm_tb_in (j := 4) (List.mem_of_getElem? (i := 177) rfl), rfl⟩
theorem xm_w111 : xm_cd 111 ∈ xm_ws := List.mem_filter.mpr ⟨xm_tb_in (j := 4) (List.mem_of_getElem? (i := 189) rfl), rfl⟩
theorem xm_w112 : xm_cd 112 ∈ xm_ws := List.mem_filter.mpr ⟨xm_tb_in (j := 4) (List.mem_of_getElem? (i := 185) rfl), rfl⟩
theorem xm_w113 : xm_cd 113 ∈ xm_ws := List.mem_filter.mpr ⟨xm_tb_in (j := 4) (List.mem_of_getElem? (i := 173) rfl), rfl⟩
theorem xm_w114 : xm_cd 114 ∈ xm_ws := List.mem_filter.mpr ⟨xm_tb_in (j := 4) (List.mem_of_getElem? (i := 169) rfl), rfl⟩
theorem xm_w115 : xm_cd 115 ∈ xm_ws := List.mem_filter.mpr ⟨xm_tb_in (j := 4) (List.mem_of_getElem? (i := 120) rfl), rfl⟩
theorem xm_w116 : xm_cd 116 ∈ xm_ws := List.mem_filter.mpr ⟨xm_tb_in (j := 4) (List.mem_of_getElem? (i := 116) rfl), rfl⟩
theorem xm_w117 : xm_cd 117 ∈ xm_ws := List.mem_filter.mpr ⟨xm_tb_in (j := 4) (List.mem_of_getElem? (i := 112) rfl), rfl⟩
theorem xm_w118 : xm_cd 118 ∈ xm_ws := List.mem_filter.mpr ⟨xm_tb_in (j := 4) (List.mem_of_getElem? (i := 136) rfl), rfl⟩
theorem xm_w119 : xm_cd 119 ∈ xm_ws := List.mem_filter.mpr ⟨xm_tb_in (j := 4) (List.mem_of_getElem? (i := 141) rfl), rfl⟩
theorem xm_w120 : xm_cd 120 ∈ xm_ws := List.mem_filter.mpr ⟨xm_tb_in (j := 4) (List.mem_of_getElem? (i := 128) rfl), rfl⟩
theorem xm_w121 : xm_cd 121 ∈ xm_ws := List.mem_filter.mpr ⟨xm_tb_in (j := 4) (List.mem_of_getElem? (i := 103) rfl), rfl⟩
theorem xm_w122 : xm_cd 122 ∈ xm_ws := List.mem_filter.mpr ⟨xm_tb_in (j := 4) (List.mem_of_getElem? (i := 161) rfl), rfl⟩
theorem xm_w123 : xm_cd 123 ∈ xm_ws := List.mem_filter.mpr ⟨xm_tb_in (j := 4) (List.mem_of_getElem? (i := 83) rfl), rfl⟩
theorem xm_w124 : xm_cd 124 ∈ xm_ws := List.mem_filter.mpr ⟨xm_tb_in (j := 4) (List.mem_of_getElem? (i := 99) rfl), rfl⟩
theorem xm_w125 : xm_cd 125 ∈ xm_ws := List.mem_filter.mpr ⟨xm_tb_in (j := 4) (List.mem_of_getElem? (i := 181) rfl), rfl⟩
theorem xm_w126 : xm_cd 126 ∈ xm_ws := List.mem_filter.mpr ⟨xm_tb_in (j := 4) (List.mem_of_getElem? (i := 193) rfl), rfl⟩
theorem xm_w127 : xm_cd 127 ∈ xm_ws := List.mem_filter.mpr ⟨xm_tb_in (j := 4) (List.mem_of_getElem? (i := 197) rfl), rfl⟩
theorem xm_w128 : xm_cd 128 ∈ xm_ws := List.mem_filter.mpr ⟨xm_tb_in (j := 4) (List.mem_of_getElem? (i := 165) rfl), rfl⟩
theorem xm_w129 : xm_cd 129 ∈ xm_ws := List.mem_filter.mpr ⟨xm_tb_in (j := 4) (List.mem_of_getElem? (i := 75) rfl), rfl⟩
theorem xm_w130 : xm_cd 130 ∈ xm_ws := List.mem_filter.mpr ⟨xm_tb_in (j := 4) (List.mem_of_getElem? (i := 201) rfl), rfl⟩
theorem xm_w131 : xm_cd 131 ∈ xm_ws := List.mem_filter.mpr ⟨xm_tb_in (j := 4) (List.mem_of_getElem? (i := 205) rfl), rfl⟩
theorem xm_w132 : xm_cd 132 ∈ xm_ws := List.mem_filter.mpr ⟨xm_tb_in (j := 4) (List.mem_of_getElem? (i := 209) rfl), rfl⟩
theorem xm_w133 : xm_cd 133 ∈ xm_ws := List.mem_filter.mpr ⟨xm_tb_in (j := 4) (List.mem_of_getElem? (i := 213) rfl), rfl⟩
theorem xm_wall : ∀ k ∈ ([0, 1, 2, 3, 4, 5, 6, 7, 8, 9, 10, 11, 12, 13, 14, 15, 16, 17, 18, 19, 20, 21, 22, 23, 24, 25, 26, 27, 28, 29, 30, 31, 32, 33, 34, 35, 36, 37, 38, 39, 40, 41, 42, 43, 44, 45, 46, 47, 48, 49, 50, 51, 52, 53, 54, 55, 56, 57, 58, 59, 60, 61, 62, 63, 64, 65, 66, 67, 68, 69, 70, 71, 72, 73, 74, 75, 76, 77, 78, 79, 80, 81, 82, 83, 84, 85, 86, 87, 88, 89, 90, 91, 92, 93, 94, 95, 96, 97, 98, 99, 100, 101, 102, 103, 104, 105, 106, 107, 108, 109, 110, 111, 112, 113, 114, 115, 116, 117, 118, 119, 120, 121, 122, 123, 124, 125, 126, 127, 128, 129, 130, 131, 132, 133] : List Nat), xm_cd k ∈ xm_ws := List.forall_mem_cons.mpr ⟨xm_w0, List.forall_mem_cons.mpr ⟨xm_w1, List.forall_mem_cons.mpr ⟨xm_w2, List.forall_mem_cons.mpr ⟨xm_w3, List.forall_mem_cons.mpr ⟨xm_w4, List.forall_mem_cons.mpr ⟨xm_w5, List.forall_mem_cons.mpr ⟨xm_w6, List.forall_mem_cons.mpr ⟨xm_w7, List.forall_mem_cons.mpr ⟨xm_w8, List.forall_mem_cons.mpr ⟨xm_w9, List.forall_mem_cons.mpr ⟨xm_w10, List.forall_mem_cons.mpr ⟨xm_w11, List.forall_mem_cons.mpr ⟨xm_w12, List.forall_mem_cons.mpr ⟨xm_w13, List.forall_mem_cons.mpr ⟨xm_w14, List.forall_mem_cons.mpr ⟨xm_w15, List.forall_mem_cons.mpr ⟨xm_w16, List.forall_mem_cons.mpr ⟨xm_w17, List.forall_mem_cons.mpr ⟨xm_w18, List.forall_mem_cons.mpr ⟨xm_w19, List.forall_mem_cons.mpr ⟨xm_w20, List.forall_mem_cons.mpr ⟨xm_w21, List.forall_mem_cons.mpr ⟨xm_w22, List.forall_mem_cons.mpr ⟨xm_w23, List.forall_mem_cons.mpr ⟨xm_w24, List.forall_mem_cons.mpr ⟨xm_w25, List.forall_mem_cons.mpr ⟨xm_w26, List.forall_mem_cons.mpr ⟨xm_w27, List.forall_mem_cons.mpr ⟨xm_w28, List.forall_mem_cons.mpr ⟨xm_w29, List.forall_mem_cons.mpr ⟨xm_w30, List.forall_mem_cons.mpr ⟨xm_w31, List.forall_mem_cons.mpr ⟨xm_w32, List.forall_mem_cons.mpr ⟨xm_w33, List.forall_mem_cons.mpr ⟨xm_w34, List.forall_mem_cons.mpr ⟨xm_w35, List.forall_mem_cons.mpr ⟨xm_w36, List.forall_mem_cons.mpr ⟨xm_w37, List.forall_mem_cons.mpr ⟨xm_w38, List.forall_mem_cons.mpr ⟨xm_w39, List.forall_mem_cons.mpr ⟨xm_w40, List.forall_mem_cons.mpr ⟨xm_w41, List.forall_mem_cons.mpr ⟨xm_w42, List.forall_mem_cons.mpr ⟨xm_w43, List.forall_mem_cons.mpr ⟨xm_w44, List.forall_mem_cons.mpr ⟨xm_w45, List.forall_mem_cons.mpr ⟨xm_w46, List.forall_mem_cons.mpr ⟨xm_w47, List.forall_mem_cons.mpr ⟨xm_w48, List.forall_mem_cons.mpr ⟨xm_w49, List.forall_mem_cons.mpr ⟨xm_w50, List.forall_mem_cons.mpr ⟨xm_w51, List.forall_mem_cons.mpr ⟨xm_w52, List.forall_mem_cons.mpr ⟨xm_w53, List.forall_mem_cons.mpr ⟨xm_w54, List.forall_mem_cons.mpr ⟨xm_w55, List.forall_mem_cons.mpr ⟨xm_w56, List.forall_mem_cons.mpr ⟨xm_w57, List.forall_mem_cons.mpr ⟨xm_w58, List.forall_mem_cons.mpr ⟨xm_w59, List.forall_mem_cons.mpr ⟨xm_w60, List.forall_mem_cons.mpr ⟨xm_w61, List.forall_mem_cons.mpr ⟨xm_w62, List.forall_mem_cons.mpr ⟨xm_w63, List.forall_mem_cons.mpr ⟨xm_w64, List.forall_mem_cons.mpr ⟨xm_w65, List.forall_mem_cons.mpr ⟨xm_w66, List.forall_mem_cons.mpr ⟨xm_w67, List.forall_mem_cons.mpr ⟨xm_w68, List.forall_mem_cons.mpr ⟨xm_w69, List.forall_mem_cons.mpr ⟨xm_w70, List.forall_mem_cons.mpr ⟨xm_w71, List.forall_mem_cons.mpr ⟨xm_w72, List.forall_mem_cons.mpr ⟨xm_w73, List.forall_mem_cons.mpr ⟨xm_w74, List.forall_mem_cons.mpr ⟨xm_w75, List.forall_mem_cons.mpr ⟨xm_w76, List.forall_mem_cons.mpr ⟨xm_w77, List.forall_mem_cons.mpr ⟨xm_w78, List.forall_mem_cons.mpr ⟨xm_w79, List.forall_mem_cons.mpr ⟨xm_w80, List.forall_mem_cons.mpr ⟨xm_w81, List.forall_mem_cons.mpr ⟨xm_w82, List.forall_mem_cons.mpr ⟨xm_w83, List.forall_mem_cons.mpr ⟨xm_w84, List.forall_mem_cons.mpr ⟨xm_w85, List.forall_mem_cons.mpr ⟨xm_w86, List.forall_mem_cons.mpr ⟨xm_w87, List.forall_mem_cons.mpr ⟨xm_w88, List.forall_mem_cons.mpr ⟨xm_w89, List.forall_mem_cons.mpr ⟨xm_w90, List.forall_mem_cons.mpr ⟨xm_w91, List.forall_mem_cons.mpr ⟨xm_w92, List.forall_mem_cons.mpr ⟨xm_w93, List.forall_mem_cons.mpr ⟨xm_w94, List.forall_mem_cons.mpr ⟨xm_w95, List.forall_mem_cons.mpr ⟨xm_w96, List.forall_mem_cons.mpr ⟨xm_w97, List.forall_mem_cons.mpr ⟨xm_w98, List.forall_mem_cons.mpr ⟨xm_w99, List.forall_mem_cons.mpr ⟨xm_w100, List.forall_mem_cons.mpr ⟨xm_w101, List.forall_mem_cons.mpr ⟨xm_w102, List.forall_mem_cons.mpr ⟨xm_w103, List.forall_mem_cons.mpr ⟨xm_w104, List.forall_mem_cons.mpr ⟨xm_w105, List.forall_mem_cons.mpr ⟨xm_w106, List.forall_mem_cons.mpr ⟨xm_w107, List.forall_mem_cons.mpr ⟨xm_w108, List.forall_mem_cons.mpr ⟨xm_w109, List.forall_mem_cons.mpr ⟨xm_w110, List.forall_mem_cons.mpr ⟨xm_w111, List.forall_mem_cons.mpr ⟨xm_w112, List.forall_mem_cons.mpr ⟨xm_w113, List.forall_mem_cons.mpr ⟨xm_w114, List.forall_mem_cons.mpr ⟨xm_w115, List.forall_mem_cons.mpr ⟨xm_w116, List.forall_mem_cons.mpr ⟨xm_w117, List.forall_mem_cons.mpr ⟨xm_w118, List.forall_mem_cons.mpr ⟨xm_w119, List.forall_mem_cons.mpr ⟨xm_w120, List.forall_mem_cons.mpr ⟨xm_w121, List.forall_mem_cons.mpr ⟨xm_w122, List.forall_mem_cons.mpr ⟨xm_w123, List.forall_mem_cons.mpr ⟨xm_w124, List.forall_mem_cons.mpr ⟨xm_w125, List.forall_mem_cons.mpr ⟨xm_w126, List.forall_mem_cons.mpr ⟨xm_w127, List.forall_mem_cons.mpr ⟨xm_w128, List.forall_mem_cons.mpr ⟨xm_w129, List.forall_mem_cons.mpr ⟨xm_w130, List.forall_mem_cons.mpr ⟨xm_w131, List.forall_mem_cons.mpr ⟨xm_w132, List.forall_mem_cons.mpr ⟨xm_w133, fun _ h => absurd h List.not_mem_nil⟩⟩⟩⟩⟩⟩⟩⟩⟩⟩⟩⟩⟩⟩⟩⟩⟩⟩⟩⟩⟩⟩⟩⟩⟩⟩⟩⟩⟩⟩⟩⟩⟩⟩⟩⟩⟩⟩⟩⟩⟩⟩⟩⟩⟩⟩⟩⟩⟩⟩⟩⟩⟩⟩⟩⟩⟩⟩⟩⟩⟩⟩⟩⟩⟩⟩⟩⟩⟩⟩⟩⟩⟩⟩⟩⟩⟩⟩⟩⟩⟩⟩⟩⟩⟩⟩⟩⟩⟩⟩⟩⟩⟩⟩⟩⟩⟩⟩⟩⟩⟩⟩⟩⟩⟩⟩⟩⟩⟩⟩⟩⟩⟩⟩⟩⟩⟩⟩⟩⟩⟩⟩⟩⟩⟩⟩⟩⟩⟩⟩⟩⟩⟩⟩
theorem xm_wrng : List.range 134 = [0, 1, 2, 3, 4, 5, 6, 7, 8, 9, 10, 11, 12, 13, 14, 15, 16, 17, 18, 19, 20, 21, 22, 23, 24, 25, 26, 27, 28, 29, 30, 31, 32, 33, 34, 35, 36, 37, 38, 39, 40, 41, 42, 43, 44, 45, 46, 47, 48, 49, 50, 51, 52, 53, 54, 55, 56, 57, 58, 59, 60, 61, 62, 63, 64, 65, 66, 67, 68, 69, 70, 71, 72, 73, 74, 75, 76, 77, 78, 79, 80, 81, 82, 83, 84, 85, 86, 87, 88, 89, 90, 91, 92, 93, 94, 95, 96, 97, 98, 99, 100, 101, 102, 103, 104, 105, 106, 107, 108, 109, 110, 111, 112, 113, 114, 115, 116, 117, 118, 119, 120, 121, 122, 123, 124, 125, 126, 127, 128, 129, 130, 131, 132, 133] := by decide +kernel
theorem xm_t_wk {k : Nat} (h : k < 134) : ∀ w ∈ xm_wk k, w ∈ xm_ws := by
  intro w hw
  rcases List.mem_cons.mp hw with rfl | hw
  · exact xm_wall k (by rw [← xm_wrng]; exact List.mem_range.mpr h)
  · exact hw
theorem xm_gi {t : List Cond} (h : ∀ w ∈ t, w ∈ xm_ws) : GoodIn xm_ws t := fun w hw => ⟨h w hw, good_of_word (xm_ws_good w (h w hw))⟩
theorem xm_mh_in {k z : Nat} (h : xm_mh k z = true) : ((xm_y k).cls ≠ "java/lang/invoke/MethodHandle" ∧ (xm_y k).cls ≠ "java/lang/invoke/VarHandle" ∧ (parseMethodDescriptor (xm_y k).desc).map (fun d => d.parameters.length) = some z) ∧ xm_n k ≤ 41 := by
  unfold xm_mh at h
  rw [Bool.and_eq_true] at h
  exact ⟨of_decide_eq_true h.1, of_decide_eq_true h.2⟩
theorem xm_t_v {k a k2 z : Nat} (h : xm_cp k a = some (1, k2, z)) : GoodIn xm_ws (wsV (xm_own k) a (xm_own k2) (xm_y k2) (xm_wk k2)) ∧ ((xm_y k2).cls ≠ "java/lang/invoke/MethodHandle" ∧ (xm_y k2).cls ≠ "java/lang/invoke/VarHandle" ∧ (parseMethodDescriptor (xm_y k2).desc).map (fun d => d.parameters.length) = some z) ∧ (∃ r : vw_C, xm_cls[xm_rc k2]? = some r ∧ r.1 = xm_own k2) ∧ xm_hh k2 = [] ∧ xm_n k2 ≤ 41 := by
  obtain ⟨⟨ps, h1⟩, h2⟩ := xm_cp_in h
  have h3 : xm_ck1 ps (xm_kc k) a k2 z = true := h1
  unfold xm_ck1 at h3
  simp only [Bool.and_eq_true] at h3
  obtain ⟨⟨b1, b2, b3, b4⟩, b5, b6, b7, b8⟩ := h3
  have b6 := of_decide_eq_true b6
  refine ⟨xm_gi (fun w hw => ?_), (xm_mh_in b5).1, ?_, of_decide_eq_true b7, (xm_mh_in b5).2⟩
  · unfold wsV at hw
    rcases List.mem_append.mp hw with hw | hw
    · simp only [List.mem_cons, List.not_mem_nil, or_false] at hw
      rcases hw with rfl | rfl | rfl | rfl
      · rw [h2]; exact xm_inw_in b1
      · exact xm_inw_in b2
      · exact xm_inw_in b3
      · exact xm_inw_in b4
    · exact xm_t_wk (of_decide_eq_true b8) w hw
  · cases hr : xm_cls[xm_rc k2]? with
    | none => rw [hr] at b6; cases b6
    | some r => rw [hr] at b6; exact ⟨r, rfl, Option.some.inj b6⟩
theorem xm_t_s {k a k2 z : Nat} (h : xm_cp k a = some (2, k2, z)) : GoodIn xm_ws (va_wsS (xm_own k) a (xm_y k2) (xm_wk k2)) ∧ ((xm_y k2).cls ≠ "java/lang/invoke/MethodHandle" ∧ (xm_y k2).cls ≠ "java/lang/invoke/VarHandle" ∧ (parseMethodDescriptor (xm_y k2).desc).map (fun d => d.parameters.length) = some z) ∧ xm_hh k2 = [] ∧ xm_n k2 ≤ 41 := by
  obtain ⟨⟨ps, h1⟩, h2⟩ := xm_cp_in h
  have h3 : xm_ck2 ps (xm_kc k) a k2 z = true := h1
  unfold xm_ck2 at h3
  simp only [Bool.and_eq_true] at h3
  obtain ⟨⟨b1, b2, b3⟩, b5, b7, b8⟩ := h3
  refine ⟨xm_gi (fun w hw => ?_), (xm_mh_in b5).1, of_decide_eq_true b7, (xm_mh_in b5).2⟩
  unfold va_wsS at hw
  rcases List.mem_append.mp hw with hw | hw
  · simp only [List.mem_cons, List.not_mem_nil, or_false] at hw
    rcases hw with rfl | rfl | rfl
    · rw [h2]; exact xm_inw_in b1
    · exact xm_inw_in b2
    · exact xm_inw_in b3
  · exact xm_t_wk (of_decide_eq_true b8) w hw
theorem xm_t_i {k a k2 z : Nat} (h : xm_cp k a = some (3, k2, z)) : GoodIn xm_ws (xm_wk k2) ∧ Cond.initialized (xm_y k2).cls ∈ xm_ws ∧ Cond.methodLink (xm_own k) a (xm_y k2) ∈ xm_ws ∧ Cond.instanceMethod (xm_y k2) ∈ xm_ws ∧ (xm_y k2).name = "<init>" ∧ ((xm_y k2).cls ≠ "java/lang/invoke/MethodHandle" ∧ (xm_y k2).cls ≠ "java/lang/invoke/VarHandle" ∧ (parseMethodDescriptor (xm_y k2).desc).map (fun d => d.parameters.length) = some z) ∧ xm_r k2 = none ∧ xm_hh k2 = [] ∧ xm_n k2 ≤ 41 := by
  obtain ⟨⟨ps, h1⟩, h2⟩ := xm_cp_in h
  have h3 : xm_ck3 ps (xm_kc k) a k2 z = true := h1
  unfold xm_ck3 at h3
  simp only [Bool.and_eq_true] at h3
  obtain ⟨⟨b1, b2, b3⟩, b5, b7, b8, b9, b10⟩ := h3
  exact ⟨xm_gi (xm_t_wk (of_decide_eq_true b8)), xm_inw_in b3, by rw [h2]; exact xm_inw_in b1, xm_inw_in b2, of_decide_eq_true b9, (xm_mh_in b5).1, of_decide_eq_true b10, of_decide_eq_true b7, (xm_mh_in b5).2⟩
theorem xm_t_in {k a k2 z : Nat} (h : xm_cp k a = some (13, k2, z)) : GoodIn xm_ws (xm_wk k2) ∧ Cond.initialized (xm_y k2).cls ∈ xm_ws ∧ Cond.methodLinkNest (xm_own k) a (xm_y k2) "TagCoder" ∈ xm_xw ∧ Cond.instanceMethod (xm_y k2) ∈ xm_ws ∧ (xm_y k2).name = "<init>" ∧ ((xm_y k2).cls ≠ "java/lang/invoke/MethodHandle" ∧ (xm_y k2).cls ≠ "java/lang/invoke/VarHandle" ∧ (parseMethodDescriptor (xm_y k2).desc).map (fun d => d.parameters.length) = some z) ∧ xm_r k2 = none ∧ xm_hh k2 = [] ∧ xm_n k2 ≤ 41 := by
  obtain ⟨⟨ps, h1⟩, h2⟩ := xm_cp_in h
  have h3 : xm_ck13 ps (xm_kc k) a k2 z = true := h1
  unfold xm_ck13 at h3
  simp only [Bool.and_eq_true] at h3
  obtain ⟨⟨b1, b2, b3⟩, b5, b7, b8, b9, b10⟩ := h3
  exact ⟨xm_gi (xm_t_wk (of_decide_eq_true b8)), xm_inw_in b3, by rw [h2]; exact of_decide_eq_true b1, xm_inw_in b2, of_decide_eq_true b9, (xm_mh_in b5).1, of_decide_eq_true b10, of_decide_eq_true b7, (xm_mh_in b5).2⟩
end
section
/-! A run of the small machine is a run of the bytecode: own work. -/
def xm_fr (d : Nat) : Nat := d + 6
def xm_lo (d : Nat) : Nat := 60 * d + 120
def xm_rm (d mc ms : Nat) : Room := { frames := xm_fr d, cells := mc, slots := ms, locals := xm_lo d }
def xm_SND (B sb Lx : Nat) (xs : Nat → Int32) (D : va_G) (cs : Nat → ClassId) (l : Launch) (n : Nat) : Prop := ∀ (d : Nat) (f : xm_F) (h : xm_H) (o : xm_O) (h2 : xm_H), xm_ev (Lx, xs) n d f h = some (o, h2) →
  ∀ (p : Program) (e : Env) (R : Room) (s : State) (m : MethodId) (args : Array Value) (below : List Frame) (meth : Method) (c : Code) (s0 mc ms : Nat), xm_G B sb Lx xs D cs l p s m args meth c f.1 → xm_fr d ≤ R.frames → xm_lo d ≤ R.locals → B + h2.1.length = s.heap.size + mc → h2.2 = s0 + ms → mc ≤ R.cells → ms ≤ R.slots →
    xm_J B sb D cs p l e R s m args below meth c (xm_QQ B sb D cs o h2 below s mc ms) s0 f h
theorem xm_ev_ins {sc : xm_S} {n d : Nat} {f : xm_F} {h : xm_H} {z : xm_O × xm_H} (q : xm_ev sc n d f h = some z) : ∃ x, xm_ins f.1 f.2.1 = some x := by
  cases n with
  | zero => cases q
  | succ n =>
    cases hi : xm_ins f.1 f.2.1 with
    | some x => exact ⟨x, rfl⟩
    | none =>
      unfold xm_ev xm_step at q
      rw [hi] at q
      cases q
section
variable {B sb Lx : Nat} {xs : Nat → Int32} {D : va_G} {cs : Nat → ClassId} {l : Launch}
theorem xm_bodyG {p : Program} {s : State} {m : MethodId} {args : Array Value} {below : List Frame} {meth : Method} {c : Code} {s₁ : State} {e : Env} {k : Nat} {ws : List Cond} {rm : Room} {as : List Value} {h : xm_H}
    (hl : l.stackTraces = false) (B9 : BodyLoose p l (xm_y k) (headSpec ws rm) (xm_b k) (xm_n k) (xm_r k) e s m args below meth c s₁) (hml : c.maxLocals = xm_n k) (hw : ∀ w ∈ xm_ws, w ∈ ws) (ht : c.exceptionTable.toList = tableOf (xm_hh k)) (hv : xm_Pc B sb Lx xs D cs as h args s) : xm_G B sb Lx xs D cs l p s m args meth c k := by
  obtain ⟨-, q1, q2, q3, q4, q5, q6⟩ := hv
  have hts := atoms_spec (ws := ws) B9.pre
  have hl0 : 0 < h.1.length := (List.getElem?_eq_some_iff.mp q1.2.1).1
  exact ⟨B9.exec, B9.bytes, B9.returns, hml, findClass_of_methodNamed B9.named, fun w hw9 => hts w (hw w hw9), B9.notSynchronized, fun hi => (name_of_methodNamed B9.named B9.method).1.trans (xm_t_ini hi), ht, q2, q3, q4, by have := q1.1; omega, q5, q6, hl⟩
theorem xm_body {n d k mc ms : Nat} {as : List Value} {h h2 : xm_H} {o : xm_O} {p : Program} {s : State} {m : MethodId} {args : Array Value} {below : List Frame} {meth : Method} {c : Code} {e : Env} {R : Room} (hS : xm_SND B sb Lx xs D cs l n)
    (hev : xm_ev (Lx, xs) n d (k, 0, xm_ent (xm_n k) as, []) h = some (o, h2)) (hn : (xm_sl as).length ≤ xm_n k) (hmc : h.1.length + mc = h2.1.length) (hms : h.2 + ms = h2.2) (hv : xm_Pc B sb Lx xs D cs as h args s) (G : xm_G B sb Lx xs D cs l p s m args meth c k)
    (hf : xm_fr d ≤ R.frames) (hlo : xm_lo d ≤ R.locals) (hc : mc ≤ R.cells) (hz : ms ≤ R.slots) :
    W p l e R s m args below meth c s.heap [] 0 0 (xm_QQ B sb D cs o h2 below s mc ms) (entryFrame m args (xm_n k)) := by
  obtain ⟨hargs, q1, -⟩ := hv
  have he : entryFrame m args (xm_n k) = F0 m 0 ((lg_sl (as.map (xm_cv B sb)) ++ List.replicate (xm_n k - (lg_sl (as.map (xm_cv B sb))).length) Slot.unset).toArray) [] := by rw [hargs, lg_entry_eq]
  rw [he]
  exact hS d _ h o h2 hev p e R s m args below meth c h.2 mc ms G hf hlo (by have := q1.1; omega) (by omega) hc hz s.heap _ [] 0 0 q1 (fun _ _ => rfl) (fun _ z => by cases z) (by have := q1.1; omega) (by omega) (xm_lh.entry hn) (by
    show (xm_ent (xm_n k) as).length = xm_n k
    unfold xm_ent
    rw [List.length_append, List.length_replicate]
    omega)
theorem xm_met {n d k mc ms : Nat} {as : List Value} {h h2 : xm_H} {o : xm_O} (hS : xm_SND B sb Lx xs D cs l n) (hl : l.stackTraces = false) (hev : xm_ev (Lx, xs) n d (k, 0, xm_ent (xm_n k) as, []) h = some (o, h2)) (hn : (xm_sl as).length ≤ xm_n k) (hh : xm_hh k = []) (hmc : h.1.length + mc = h2.1.length) (hms : h.2 + ms = h2.2) :
    xm_Met B sb D cs l (xm_y k) (xm_wk k) (xm_rm d mc ms) (xm_Pc B sb Lx xs D cs as h) o h2 mc ms := by
  obtain ⟨x, hi⟩ := xm_ev_ins hev
  refine xm_of (cc := xm_b k) (maxL := xm_n k) (ret := xm_r k) (xm_t_plain hi) ?_ ?_
  · intro args s m hpre hnm
    obtain ⟨meth, c, h1, h2, h3, h4, h5, h6, -, -⟩ := Cond.code_spec hnm (atoms_spec (ws := xm_wk k) hpre _ List.mem_cons_self)
    exact ⟨meth, c, h1, h2, h3, h4, h5, h6⟩
  · intro p e s m args below meth c s₁ B9 hml hv
    have ht : c.exceptionTable.toList = tableOf (xm_hh k) := by
      have h9 := BodyLoose.noHandlers B9 (atoms_spec (ws := xm_wk k) B9.pre _ List.mem_cons_self)
      rw [hh]
      cases hx : c.exceptionTable with
      | mk zs =>
        rw [hx] at h9
        cases zs with
        | nil => rfl
        | cons z r => simp at h9
    exact xm_body hS hev hn hmc hms hv (xm_bodyG hl B9 hml (fun w hw => List.mem_cons_of_mem _ hw) ht hv) (Nat.le_refl _) (Nat.le_refl _) (Nat.le_refl _) (Nat.le_refl _)
/-- what a callee's contract asks, at a call -/
theorem xm_pre {p : Program} {s U : State} {m : MethodId} {args : Array Value} {meth : Method} {c : Code} {k : Nat} {H : Heap} {h : xm_H} {as : List Value} (G : xm_G B sb Lx xs D cs l p s m args meth c k) (a1 : xm_hb B sb D cs h.1 H) (a2 : ∀ q : Nat, q ≤ B → H[q]? = s.heap[q]?) (hU : U.heap = H) (hW : s.WarmedH U.vm) : xm_Pc B sb Lx xs D cs as h (as.map (xm_cv B sb)).toArray U := by
  obtain ⟨-, -, -, -, -, -, -, -, -, hK, hX, hsb, hB, hZ, hN, -⟩ := G
  have hk : ∀ q : Nat, q ≤ B → U.heap[q]? = s.heap[q]? := fun q hq => by rw [hU]; exact a2 q hq
  exact ⟨rfl, by rw [hU]; exact a1, va_K.moved hW.alike hK, va_X.moved hW.alike (hX.kept (hk sb hsb)), hsb, xm_Zx.moved hW.alike hk hZ, xm_Nx.moved hW hN⟩
end
section
variable {B sb Lx : Nat} {xs : Nat → Int32} {D : va_G} {cs : Nat → ClassId} {p : Program} {l : Launch} {e : Env} {R : Room} {s : State} {m : MethodId} {args : Array Value} {below : List Frame} {meth : Method} {c : Code} {Q : State → Prop} {s0 k pc : Nat} {L : xm_L} {st r : List Value} {h h3 : xm_H} {o : xm_O} {d mc ms : Nat}
theorem xm_locs {locs L1 : List Loc} (a3 : ∀ z ∈ locs, B < z.base) (hL : ∀ z ∈ L1, B < z.base) : ∀ z ∈ locs ++ L1, B < z.base := fun z hz => by
  rcases List.mem_append.mp hz with g | g
  · exact a3 z g
  · exact hL z g
/-- behind a call that returned -/
theorem xm_returned {v : Option Value} {cells slots : Nat} {H : Heap} {ls : Array Slot} {locs : List Loc} {st0 : List Value}
    (hr : va_Run p l e R s m args below meth c H locs cells slots mc ms (F0 m pc ls st0) (r.map (xm_cv B sb)) (fun st₀ oc t => xm_OC B sb D cs (.inl v) h3 st₀ oc t) (fun q => B < q))
    (a2 : ∀ q : Nat, q ≤ B → H[q]? = s.heap[q]?) (a3 : ∀ z ∈ locs, B < z.base) (a4 : s.heap.size + cells = B + h.1.length) (a5 : s0 + slots = h.2) (a6 : xm_lh B sb L ls) (a7 : L.length = xm_n k)
    (hmc : h.1.length + mc = h3.1.length) (hms : h.2 + ms = h3.2)
    (kv : xm_J B sb D cs p l e R s m args below meth c Q s0 (k, pc + 3, L, v.toList ++ r) h3) :
    W p l e R s m args below meth c H locs cells slots Q (F0 m pc ls st0) := by
  intro T hT X
  obtain ⟨v2, st₀, t, T', L1, h0, X', hL, e1, e2, ⟨hv, hb, ho⟩, st⟩ := hr T hT X
  have hv2 : v2 = v.map (xm_cv B sb) := Outcome.returned.inj hv
  have hst : v2.toList ++ r.map (xm_cv B sb) = (v.toList ++ r).map (xm_cv B sb) := by
    rw [hv2, List.map_append]
    cases v <;> rfl
  have kv := kv T'.heap ls (locs ++ L1) (cells + mc) (slots + ms) (by rw [e1]; exact hb) (fun q hq => by rw [e1, ho q hq, h0]; exact a2 q hq) (xm_locs a3 hL) (by omega) (by omega) a6 a7
  obtain ⟨t2, b1, b2⟩ := kv T' rfl X'
  refine ⟨t2, st t2 ?_, b2⟩
  show Steps p.tables e below (T'.setTop (F0 m (pc + 3) ls (v2.toList ++ r.map (xm_cv B sb)))) t2
  rw [hst]
  exact b1
theorem xm_stk {z i : Nat} (hst : st.drop z = .ref i :: r) : st.map (xm_cv B sb) = (((st.take z).reverse).map (xm_cv B sb)).reverse ++ .ref (xm_ad B sb i) :: r.map (xm_cv B sb) := by
  rw [← List.map_reverse, List.reverse_reverse]
  conv => lhs; rw [← List.take_append_drop z st, hst, List.map_append, List.map_cons]
  rfl
theorem xm_callV {a k2 z i : Nat} {fs : List Value} (G : xm_G B sb Lx xs D cs l p s m args meth c k) (hd : decode (xm_b k) pc = .ok (.invokevirtual a, 3)) (hc : xm_cp k a = some (1, k2, z)) (hst : st.drop z = .ref i :: r) (hcell : xm_cell h i = some (.inr (xm_rc k2, fs))) (hz : z ≤ st.length) (hw : xm_wt r ≤ 8)
    (hM : xm_Met B sb D cs l (xm_y k2) (xm_wk k2) (xm_rm d mc ms) (xm_Pc B sb Lx xs D cs (.ref i :: (st.take z).reverse) h) o h3 mc ms) (hmc : h.1.length + mc = h3.1.length) (hms : h.2 + ms = h3.2)
    (hf : xm_fr (d + 1) ≤ R.frames) (hlo : xm_lo (d + 1) ≤ R.locals) (hm : B + h3.1.length ≤ s.heap.size + R.cells ∧ h3.2 ≤ s0 + R.slots)
    (kv : ∀ v, o = .inl v → xm_J B sb D cs p l e R s m args below meth c Q s0 (k, pc + 3, L, v.toList ++ r) h3)
    (kx : ∀ x, o = .inr x → xm_JX B sb D cs p l e R s m args below meth c Q s0 (k, pc, L, r) h3 x) :
    xm_J B sb D cs p l e R s m args below meth c Q s0 (k, pc, L, st) h := by
  intro H ls locs cells slots a1 a2 a3 a4 a5 a6 a7
  obtain ⟨t1, t2, ⟨cr, t3, t4⟩, -, t5⟩ := xm_t_v hc
  have hi := xm_cell_some hcell
  have hts := G.2.2.2.2.2.1
  have hstk := xm_stk (B := B) (sb := sb) hst
  obtain ⟨q0, hq⟩ := xm_wl_at (B := B) (sb := sb) (cs := cs) hi
  have hrec := va_recv G.2.2.2.2.2.2.2.2.2.1 (xm_wl_P a1) t3 hq
  rw [t4] at hrec
  have hcw : CallW R s args (xm_own k) (xm_own k2) a (xm_y k2) (xm_b k2) (xm_n k2) (xm_r k2) (xm_wk k2) (xm_rm d mc ms) mc ms z := cwV z hts t1 rfl rfl rfl ⟨rfl, t2⟩ ⟨by show xm_fr d + 1 ≤ _; unfold xm_fr at *; omega, by show 8 + (xm_n k2 + 11) + xm_lo d ≤ _; unfold xm_lo at *; omega⟩
  have hpre : PreV s H (xm_own k2) (B + i) (xm_Pc B sb Lx xs D cs (.ref i :: (st.take z).reverse) h) (((st.take z).reverse).map (xm_cv B sb)) := ⟨xm_blind, hrec, fun U hU hW => by
    have := xm_pre (as := .ref i :: (st.take z).reverse) G a1 a2 hU hW
    rw [List.map_cons] at this
    have ha : xm_cv B sb (.ref i) = .ref (B + i) := by show Value.ref (xm_ad B sb i) = _; rw [a1.adr hi]
    rw [ha] at this
    exact this⟩
  have hlen : (((st.take z).reverse).map (xm_cv B sb)).length = z := by rw [List.length_map, List.length_reverse, List.length_take]; omega
  have hstk2 : (F0 m pc ls (st.map (xm_cv B sb))).stack = (((st.take z).reverse).map (xm_cv B sb)).reverse ++ .ref (B + i) :: r.map (xm_cv B sb) := by rw [← a1.adr hi]; exact hstk
  have hw8 : 2 * (F0 m pc ls (st.map (xm_cv B sb))).monitorRoom + ((r.map (xm_cv B sb)).map fun v => v.category).sum ≤ 8 := by show 2 * 0 + _ ≤ 8; rw [xm_wt_cv]; omega
  cases o with
  | inl v =>
    have hr := va_runV (S := ⟨G.1, G.2.1, G.2.2.2.1, G.2.2.2.2.1, hts⟩) (H := H) (locs := locs) (cells := cells) (slots := slots) (p := p) (l := l) (e := e) (R := R) (below := below) (meth := meth) (rest := r.map (xm_cv B sb)) (g := F0 m pc ls (st.map (xm_cv B sb))) (xm_toMet hM) hcw hpre rfl hlen (a6.1.trans a7) hstk2 hw8 hd ⟨by omega, by omega⟩
    exact xm_returned hr a2 a3 a4 a5 a6 a7 hmc hms (kv v rfl)
  | inr x =>
    intro T hT X
    obtain ⟨q, st₀, t, T', L1, h0, hal, X', hL, e1, ⟨⟨q9, ce, hq9, hce, hcv, hcl⟩, hb, ho⟩, hsteps⟩ := xm_callVT (g := F0 m pc ls (st.map (xm_cv B sb))) (As := ((st.take z).reverse).map (xm_cv B sb)) (rest := r.map (xm_cv B sb)) X G.1 G.2.2.2.2.1 hM hcw hpre hT rfl hlen ((a6.1.trans a7).trans G.2.2.2.1.symm) hstk2 hw8 (by rw [G.2.1]; exact hd) ⟨by omega, by omega⟩
    cases hq9
    have hcl2 : s.vm.findClass (xm_xn x) = some ce.cls := by rw [← hal.findClass] at hcl; exact hcl
    obtain ⟨t2, b1, b2⟩ := kx x rfl T'.heap ls (locs ++ L1) (cells + mc) (slots + ms) q ce (by rw [e1]; exact hb) (fun q hq => by rw [e1, ho q hq, h0]; exact a2 q hq) (xm_locs a3 hL) (by omega) (by omega) a6 a7 (by rw [e1]; exact hce) hcv hcl2 T' rfl X'
    exact ⟨t2, hsteps.trans b1, b2⟩
theorem xm_callS {a k2 z : Nat} {v : Option Value} (G : xm_G B sb Lx xs D cs l p s m args meth c k) (hd : decode (xm_b k) pc = .ok (.invokestatic a, 3)) (hc : xm_cp k a = some (2, k2, z)) (hz : z ≤ st.length) (hw : xm_wt (st.drop z) ≤ 8)
    (hM : xm_Met B sb D cs l (xm_y k2) (xm_wk k2) (xm_rm d mc ms) (xm_Pc B sb Lx xs D cs (st.take z).reverse h) (.inl v) h3 mc ms) (hmc : h.1.length + mc = h3.1.length) (hms : h.2 + ms = h3.2)
    (hf : xm_fr (d + 1) ≤ R.frames) (hlo : xm_lo (d + 1) ≤ R.locals) (hm : B + h3.1.length ≤ s.heap.size + R.cells ∧ h3.2 ≤ s0 + R.slots)
    (kv : xm_J B sb D cs p l e R s m args below meth c Q s0 (k, pc + 3, L, v.toList ++ st.drop z) h3) :
    xm_J B sb D cs p l e R s m args below meth c Q s0 (k, pc, L, st) h := by
  intro H ls locs cells slots a1 a2 a3 a4 a5 a6 a7
  obtain ⟨t1, t2, -, t5⟩ := xm_t_s hc
  have hts := G.2.2.2.2.2.1
  have hstk : st.map (xm_cv B sb) = (((st.take z).reverse).map (xm_cv B sb)).reverse ++ (st.drop z).map (xm_cv B sb) := by
    rw [← List.map_reverse, List.reverse_reverse, ← List.map_append, List.take_append_drop]
  have hr := va_runS (S := ⟨G.1, G.2.1, G.2.2.2.1, G.2.2.2.2.1, hts⟩) (H := H) (locs := locs) (cells := cells) (slots := slots) (p := p) (l := l) (e := e) (R := R) (below := below) (meth := meth) (rest := (st.drop z).map (xm_cv B sb)) (g := F0 m pc ls (st.map (xm_cv B sb))) (As := ((st.take z).reverse).map (xm_cv B sb)) (n := z) (xm_toMet hM)
    (va_cwS z hts t1 rfl rfl rfl t2 ⟨by show xm_fr d + 1 ≤ _; unfold xm_fr at *; omega, by show 8 + (xm_n k2 + 11) + xm_lo d ≤ _; unfold xm_lo at *; omega⟩)
    ⟨xm_blind, fun U hU hW => xm_pre (as := (st.take z).reverse) G a1 a2 hU hW⟩ rfl (by rw [List.length_map, List.length_reverse, List.length_take]; omega) (a6.1.trans a7) hstk (by show 2 * 0 + _ ≤ 8; rw [xm_wt_cv]; omega) hd ⟨by omega, by omega⟩
  exact xm_returned hr a2 a3 a4 a5 a6 a7 hmc hms kv
theorem xm_callI {a k2 z i : Nat} {v : Option Value} (G : xm_G B sb Lx xs D cs l p s m args meth c k) (hd : decode (xm_b k) pc = .ok (.invokespecial a, 3)) (hc : xm_cp k a = some (3, k2, z) ∨ xm_cp k a = some (13, k2, z)) (hst : st.drop z = .ref i :: r) (hz : z ≤ st.length) (hw : xm_wt r ≤ 8)
    (hM : xm_Met B sb D cs l (xm_y k2) (xm_wk k2) (xm_rm d mc ms) (xm_Pc B sb Lx xs D cs (.ref i :: (st.take z).reverse) h) (.inl v) h3 mc ms) (hmc : h.1.length + mc = h3.1.length) (hms : h.2 + ms = h3.2)
    (hf : xm_fr (d + 1) ≤ R.frames) (hlo : xm_lo (d + 1) ≤ R.locals) (hm : B + h3.1.length ≤ s.heap.size + R.cells ∧ h3.2 ≤ s0 + R.slots)
    (kv : xm_J B sb D cs p l e R s m args below meth c Q s0 (k, pc + 3, L, v.toList ++ r) h3) :
    xm_J B sb D cs p l e R s m args below meth c Q s0 (k, pc, L, st) h := by
  intro H ls locs cells slots a1 a2 a3 a4 a5 a6 a7
  have hts := G.2.2.2.2.2.1
  have hstk := xm_stk (B := B) (sb := sb) hst
  have hpre : PreS s H (xm_Pc B sb Lx xs D cs (.ref i :: (st.take z).reverse) h) (.ref (xm_ad B sb i) :: ((st.take z).reverse).map (xm_cv B sb)) := ⟨xm_blind, fun U hU hW => xm_pre (as := .ref i :: (st.take z).reverse) G a1 a2 hU hW⟩
  have hlen : (((st.take z).reverse).map (xm_cv B sb)).length = z := by rw [List.length_map, List.length_reverse, List.length_take]; omega
  have hw8 : 2 * (F0 m pc ls (st.map (xm_cv B sb))).monitorRoom + ((r.map (xm_cv B sb)).map fun v => v.category).sum ≤ 8 := by show 2 * 0 + _ ≤ 8; rw [xm_wt_cv]; omega
  rcases hc with hc | hc
  · obtain ⟨t1, t2, t3, t4, t5, t6, t7, -, t8⟩ := xm_t_i hc
    have hM2 := xm_toMet hM
    have hr := va_runI (S := ⟨G.1, G.2.1, G.2.2.2.1, G.2.2.2.2.1, hts⟩) (H := H) (locs := locs) (cells := cells) (slots := slots) (p := p) (l := l) (e := e) (R := R) (below := below) (meth := meth) (rest := r.map (xm_cv B sb)) (g := F0 m pc ls (st.map (xm_cv B sb))) (b := xm_ad B sb i) (As := ((st.take z).reverse).map (xm_cv B sb)) (n := z) hM2
      (cwI z hts t1 (by unfold xm_wk; rw [t7]) rfl rfl (hts _ t2) (hts _ t3) (hts _ t4) t5 t6 ⟨by show xm_fr d + 1 ≤ _; unfold xm_fr at *; omega, by show 8 + (xm_n k2 + 11) + xm_lo d ≤ _; unfold xm_lo at *; omega⟩) hpre rfl hlen (a6.1.trans a7) hstk hw8 hd ⟨by omega, by omega⟩
    exact xm_returned hr a2 a3 a4 a5 a6 a7 hmc hms kv
  · obtain ⟨t1, t2, t3, t4, t5, t6, t7, -, t8⟩ := xm_t_in hc
    have hM2 := xm_toMet hM
    have hnest : va_Nw (.methodLinkNest (xm_own k) a (xm_y k2) "TagCoder") s := G.2.2.2.2.2.2.2.2.2.2.2.2.2.2.1 s (State.WarmedH.refl _) #[] _ t3
    have hr := va_runIN (S := ⟨G.1, G.2.1, G.2.2.2.1, G.2.2.2.2.1, hts⟩) (H := H) (locs := locs) (cells := cells) (slots := slots) (p := p) (l := l) (e := e) (R := R) (below := below) (meth := meth) (rest := r.map (xm_cv B sb)) (g := F0 m pc ls (st.map (xm_cv B sb))) (b := xm_ad B sb i) (As := ((st.take z).reverse).map (xm_cv B sb)) (n := z) hM2
      ⟨va_cnB z hts t1 (by unfold xm_wk; rw [t7]) rfl rfl hnest (hts _ t2) t6 ⟨by show xm_fr d + 1 ≤ _; unfold xm_fr at *; omega, by show 8 + (xm_n k2 + 11) + xm_lo d ≤ _; unfold xm_lo at *; omega⟩, t5, hts _ t4⟩ hpre rfl hlen (a6.1.trans a7) hstk hw8 hd ⟨by omega, by omega⟩
    exact xm_returned hr a2 a3 a4 a5 a6 a7 hmc hms kv
end
end
section
/-! The law's helper: a static method with a table of handlers; what it catches: own work. -/
theorem xm_th {k2 : Nat} (hk : k2 = 134) : GoodIn xm_ws (Cond.codeWith (xm_y k2) (xm_b k2) (xm_n k2) (xm_r k2) (xm_hh k2) :: xm_ws) := by
  subst hk
  refine xm_gi (fun w hw => ?_)
  rcases List.mem_cons.mp hw with rfl | hw
  · exact List.mem_filter.mpr ⟨xm_tb_in (j := 2) (List.mem_of_getElem? (i := 70) rfl), rfl⟩
  · exact hw
theorem xm_tableOf {t : List ExceptionTableEntry} {hh : List (Nat × Nat × Nat × Nat)} (h : t.map (fun h => (h.startPc, h.endPc, h.handlerPc, h.catchType)) = hh) : t = tableOf hh := by
  subst h
  unfold tableOf
  rw [List.map_map]
  exact (List.map_id' t).symm
section
variable {B sb Lx : Nat} {xs : Nat → Int32} {D : va_G} {cs : Nat → ClassId} {l : Launch}
theorem xm_metH {n d k mc ms : Nat} {as : List Value} {h h2 : xm_H} {o : xm_O} (hS : xm_SND B sb Lx xs D cs l n) (hl : l.stackTraces = false) (hev : xm_ev (Lx, xs) n d (k, 0, xm_ent (xm_n k) as, []) h = some (o, h2)) (hn : (xm_sl as).length ≤ xm_n k) (hmc : h.1.length + mc = h2.1.length) (hms : h.2 + ms = h2.2) :
    xm_Met B sb D cs l (xm_y k) (Cond.codeWith (xm_y k) (xm_b k) (xm_n k) (xm_r k) (xm_hh k) :: xm_ws) (xm_rm d mc ms) (xm_Pc B sb Lx xs D cs as h) o h2 mc ms := by
  obtain ⟨x, hi⟩ := xm_ev_ins hev
  refine xm_of (cc := xm_b k) (maxL := xm_n k) (ret := xm_r k) (xm_t_plain hi) ?_ ?_
  · intro args s m hpre hnm
    obtain ⟨m2, meth, c, h0, h1, h2, h3, h4, -, h5, h6, -⟩ := Cond.codeWith_spec (atoms_spec (ws := Cond.codeWith (xm_y k) (xm_b k) (xm_n k) (xm_r k) (xm_hh k) :: xm_ws) hpre _ List.mem_cons_self)
    cases Option.some.inj (h0.symm.trans hnm)
    exact ⟨meth, c, h1, h2, h3, h4, h5, h6⟩
  · intro p e s m args below meth c s₁ B9 hml hv
    have ht : c.exceptionTable.toList = tableOf (xm_hh k) := by
      obtain ⟨m2, meth2, c2, h0, h1, h2, h3, h4, h5, -⟩ := Cond.codeWith_spec (atoms_spec (ws := Cond.codeWith (xm_y k) (xm_b k) (xm_n k) (xm_r k) (xm_hh k) :: xm_ws) B9.pre _ List.mem_cons_self)
      cases Option.some.inj (h0.symm.trans B9.named)
      cases B9.method.symm.trans h1
      cases (Stand.of_body B9).code.symm.trans h2
      exact xm_tableOf h5
    exact xm_body hS hev hn hmc hms hv (xm_bodyG hl B9 hml (fun w hw => List.mem_cons_of_mem _ hw) ht hv) (Nat.le_refl _) (Nat.le_refl _) (Nat.le_refl _) (Nat.le_refl _)
end
section
variable {B sb Lx : Nat} {xs : Nat → Int32} {D : va_G} {cs : Nat → ClassId} {p : Program} {l : Launch} {e : Env} {R : Room} {s : State} {m : MethodId} {args : Array Value} {below : List Frame} {meth : Method} {c : Code} {Q : State → Prop} {s0 k pc : Nat} {L : xm_L} {st r : List Value} {h h3 : xm_H} {o : xm_O} {d mc ms : Nat}
theorem xm_t_h {k a k2 z : Nat} (h : xm_cp k a = some (12, k2, z)) : Cond.methodLink (xm_own k) a (xm_y k2) ∈ xm_ws ∧ Cond.static (xm_y k2) ∈ xm_ws ∧ Cond.initialized (xm_y k2).cls ∈ xm_ws ∧ ((xm_y k2).cls ≠ "java/lang/invoke/MethodHandle" ∧ (xm_y k2).cls ≠ "java/lang/invoke/VarHandle" ∧ (parseMethodDescriptor (xm_y k2).desc).map (fun d => d.parameters.length) = some z) ∧ xm_n k2 ≤ 41 ∧ k2 = 134 := by
  obtain ⟨⟨ps, h1⟩, h2⟩ := xm_cp_in h
  have h3 : xm_ck12 ps (xm_kc k) a k2 z = true := h1
  unfold xm_ck12 at h3
  simp only [Bool.and_eq_true] at h3
  obtain ⟨⟨b1, b2, b3⟩, b5, b6⟩ := h3
  exact ⟨by rw [h2]; exact xm_inw_in b1, xm_inw_in b2, xm_inw_in b3, (xm_mh_in b5).1, (xm_mh_in b5).2, of_decide_eq_true b6⟩
set_option maxHeartbeats 4000000 in
theorem xm_callH {a k2 z : Nat} {v : Option Value} (G : xm_G B sb Lx xs D cs l p s m args meth c k) (hd : decode (xm_b k) pc = .ok (.invokestatic a, 3)) (hc : xm_cp k a = some (12, k2, z)) (hz : z ≤ st.length) (hw : xm_wt (st.drop z) ≤ 8)
    (hM : xm_Met B sb D cs l (xm_y k2) (Cond.codeWith (xm_y k2) (xm_b k2) (xm_n k2) (xm_r k2) (xm_hh k2) :: xm_ws) (xm_rm d mc ms) (xm_Pc B sb Lx xs D cs (st.take z).reverse h) (.inl v) h3 mc ms) (hmc : h.1.length + mc = h3.1.length) (hms : h.2 + ms = h3.2)
    (hf : xm_fr (d + 1) ≤ R.frames) (hlo : xm_lo (d + 1) ≤ R.locals) (hm : B + h3.1.length ≤ s.heap.size + R.cells ∧ h3.2 ≤ s0 + R.slots)
    (kv : xm_J B sb D cs p l e R s m args below meth c Q s0 (k, pc + 3, L, v.toList ++ st.drop z) h3) :
    xm_J B sb D cs p l e R s m args below meth c Q s0 (k, pc, L, st) h := by
  intro H ls locs cells slots a1 a2 a3 a4 a5 a6 a7
  obtain ⟨t1, t2, t3, ⟨y1, y2, y3⟩, t5, t6⟩ := xm_t_h hc
  have hts := G.2.2.2.2.2.1
  have hgood := xm_th t6
  have hstk : st.map (xm_cv B sb) = (((st.take z).reverse).map (xm_cv B sb)).reverse ++ (st.drop z).map (xm_cv B sb) := by
    rw [← List.map_reverse, List.reverse_reverse, ← List.map_append, List.take_append_drop]
  intro T hT X
  have hcw := hts _ (hgood _ List.mem_cons_self).1
  obtain ⟨mk, methM, cM, hnamed, hmethM, -, -, -, -, -, -, hsigM⟩ := Cond.codeWith_spec hcw
  have hstatic : methM.isStatic = true := Cond.static_spec hnamed hmethM (hts _ t2)
  obtain ⟨kP, hkP, -⟩ := className_of_methodNamed hnamed
  have hinitP : kP.init = .initialized := Cond.initialized_spec (findClass_of_methodNamed hnamed) hkP (hts _ t3)
  have hlen : (((st.take z).reverse).map (xm_cv B sb)).length = methM.sig.parameters.length := by
    rw [List.length_map, List.length_reverse, List.length_take]
    rw [hsigM] at y3
    have h9 : methM.sig.parameters.length = z := Option.some.inj y3
    omega
  obtain ⟨vm1, X1, hstep1⟩ := X.invokestatic G.1 G.2.2.2.2.1 (hts _ t1) hnamed hmethM hstatic hkP hinitP ⟨y1, y2⟩ (g := F0 m pc ls (st.map (xm_cv B sb))) rfl (argsL := ((st.take z).reverse).map (xm_cv B sb)) (rest := (st.drop z).map (xm_cv B sb)) hlen hstk (by rw [G.2.1]; exact hd)
  have hwU : ∀ w ∈ (Cond.codeWith (xm_y k2) (xm_b k2) (xm_n k2) (xm_r k2) (xm_hh k2) :: xm_ws), w.before (((st.take z).reverse).map (xm_cv B sb)).toArray (T.setVm vm1) = true := fun w hw9 => word_at X1.warmed (hgood w hw9).2 (hts _ (hgood w hw9).1)
  have hnU : (T.setVm vm1).methodNamed? (xm_y k2) = some mk := X1.named hnamed
  obtain ⟨mk2, methY, cY, hnY, hmY, hcY, -, hlY, -, -, -, -⟩ := Cond.codeWith_spec (hwU _ List.mem_cons_self)
  cases Option.some.inj (hnY.symm.trans hnU)
  obtain ⟨kY, hkY, -⟩ := className_of_methodNamed hnU
  have hiU : (Cond.initialized (xm_y k2).cls).before (((st.take z).reverse).map (xm_cv B sb)).toArray (T.setVm vm1) = true := hwU _ (List.mem_cons_of_mem _ t3)
  have hinitY : kY.init = .initialized := Cond.initialized_spec (findClass_of_methodNamed hnU) hkY hiU
  have hw8 : xm_wt (st.drop z) = (((st.drop z).map (xm_cv B sb)).map fun v => v.category).sum := (xm_wt_cv B sb _).symm
  have happ : (headSpec (Cond.codeWith (xm_y k2) (xm_b k2) (xm_n k2) (xm_r k2) (xm_hh k2) :: xm_ws) (xm_rm d mc ms)).appliesLoose (xm_y k2) e.platform ((T.setVm vm1).calling (F0 m pc ls ((st.drop z).map (xm_cv B sb))) mk (((st.take z).reverse).map (xm_cv B sb)).toArray) = true :=
    Spec.appliesLoose_calling (g := F0 m pc ls ((st.drop z).map (xm_cv B sb))) X1.here (by rw [G.2.1]; exact hd) hnU hkY hinitY
      (X1.room_calling (g := F0 m pc ls ((st.drop z).map (xm_cv B sb))) (R' := xm_rm d mc ms) ((a6.1.trans a7).trans G.2.2.2.1.symm) hmY hcY (by show xm_fr d + 1 ≤ _; unfold xm_fr at *; omega) (by rw [hlY]; show 2 * 0 + (((st.drop z).map (xm_cv B sb)).map fun v => v.category).sum + (xm_n k2 + 11) + xm_lo d ≤ R.locals; rw [← hw8]; unfold xm_lo at *; omega) (by show cells + mc ≤ _; omega) (by show slots + ms ≤ _; omega)) (atoms_intro hwU)
  obtain ⟨mid, hmid⟩ := X1.here.above
  have hfr2 : ((T.setVm vm1).setTop (F0 m pc ls ((st.drop z).map (xm_cv B sb)))).frames = (.java (F0 m pc ls ((st.drop z).map (xm_cv B sb))) :: mid) ++ below := by rw [State.frames_setTop' _ X1.here.top, hmid]; rfl
  have hPU : xm_Pc B sb Lx xs D cs (st.take z).reverse h (((st.take z).reverse).map (xm_cv B sb)).toArray ((T.setVm vm1).calling (F0 m pc ls ((st.drop z).map (xm_cv B sb))) mk (((st.take z).reverse).map (xm_cv B sb)).toArray) := xm_blind _ _ _ _ (xm_pre (as := (st.take z).reverse) (U := T.setVm vm1) G a1 a2 hT X1.warmed)
  obtain ⟨oc, t, hsteps, -, hend, hq⟩ := Steps.callFree hM p X.admits X.cas X.clock (acts := []) hfr2 happ hPU trivial
  rw [State.frames_setTop' _ X1.here.top, X1.tail] at hend
  obtain ⟨⟨hv, hhb, hho⟩, L1, ⟨hW, hsame⟩, hL⟩ := hq
  subst hv
  obtain ⟨T', X', -, -, ht⟩ := X1.outOf (g := F0 m pc ls ((st.drop z).map (xm_cv B sb))) rfl (by rw [G.2.1]; exact hd) (mk := mk) (a := (((st.take z).reverse).map (xm_cv B sb)).toArray) (t := t) hend hW hsame
  have hth : T'.heap = t.heap := by
    rw [ht]
    exact (State.heap_setTop _ _).symm
  obtain ⟨t2, b1, b2⟩ := kv T'.heap ls (locs ++ L1) (cells + mc) (slots + ms) (by rw [hth]; exact hhb) (fun q hq => by rw [hth, hho q hq]; show T.heap[q]? = _; rw [hT]; exact a2 q hq) (xm_locs a3 hL) (by omega) (by omega) a6 a7 T' rfl X'
  have hst : (Option.map (xm_cv B sb) v).toList ++ (st.drop z).map (xm_cv B sb) = (v.toList ++ st.drop z).map (xm_cv B sb) := by
    rw [List.map_append]
    cases v <;> rfl
  refine ⟨t2, (hstep1 t2 fun acts => ?_), b2⟩
  rw [doInvoke_state]
  refine hsteps.trans ?_
  rw [ht]
  show Steps p.tables e below (T'.setTop (F0 m (pc + 3) ls ((Option.map (xm_cv B sb) v).toList ++ (st.drop z).map (xm_cv B sb)))) t2
  rw [hst]
  exact b1
end
end
section
/-! What the law's helper catches: own work, over the library's laws of the search for a handler. -/
section
variable {Q : Handler → Pre} {E : CtlPost} {e : Env} {d : Bool} {acts : List Action} {s : State} {f : JFrame} {a : Addr}
/-- an entry whose class the tables link: taken or passed, and the link is noted -/
theorem xm_go1 {x : ExceptionTableEntry} {t : List ExceptionTableEntry} {c : ClassId} {cell : Cell} (hx : covers x f.pc = true) (h0 : x.catchType ≠ 0) (hl : s.vm.ClassLinks e.platform f.method.cls x.catchType c)
    (hcell : s.heap[a]? = some cell) (hobj : ∀ k, cell.vm ≠ .statics k) (hk : ∃ k, s.vm.classes[cell.cls]? = some k) (hc : ∃ k, s.vm.classes[c]? = some k) :
    wp (findHandler.go f a (x :: t)) Q E e d acts s ↔ if s.vm.assignable cell.cls c = true then Q (.found x.handlerPc) d acts (s.setVm (s.vm.noted f.method.cls x.catchType (.cls c))) else wp (findHandler.go f a t) Q E e d acts (s.setVm (s.vm.noted f.method.cls x.catchType (.cls c))) := by
  simp only [covers] at hx
  obtain ⟨r1, r2⟩ := (resolveClass_links e.toSetting hl).op (op := VmOp.resolveClass f.method.cls x.catchType) rfl
  have hal : s.vm.Alike (s.vm.noted f.method.cls x.catchType (.cls c)) := (Vm.Alike.refl s.vm).noted _ _ _
  obtain ⟨k1, hk1⟩ := hk
  obtain ⟨k2, hk2⟩ := hc
  obtain ⟨k3, hk3, -⟩ := hal.2.2 _ _ hk1
  obtain ⟨k4, hk4, -⟩ := hal.2.2 _ _ hk2
  have has : (s.vm.noted f.method.cls x.catchType (.cls c)).assignable cell.cls c = s.vm.assignable cell.cls c := hal.assignable _ _
  cases hfit : s.vm.assignable cell.cls c <;> rw [hfit] at has <;> simp [findHandler.go, hx, h0, r1, r2, hcell, hobj, hk3, hk4, has, VmOp.dirties, VmOp.acts]
/-- the search ends in a handler, and leaves those tables -/
theorem xm_step1 {f : JFrame} {r : List Frame} {pc : Nat} {vm2 : Vm} (hfind : ∀ (Q : Handler → Pre) (E : CtlPost) (d : Bool) (acts : List Action), wp (findHandler f a) Q E e d acts s ↔ Q (.found pc) d acts (s.setVm vm2)) :
    (stepThrowing e s a (.java f :: r)).Is ((s.setVm vm2).setFrames (.java { f with pc := pc, stack := [.ref a] } :: r)) [] := by
  simp only [stepThrowing, searchFrame, vmDo]
  generalize hr : Sem.go _ e false [] s = res
  obtain ⟨as, rfl, ha⟩ := Sem.eq_ok_of hr (a := Handler.found pc) (s' := s.setVm vm2) (acts' := []) (by simp [hfind _ _ _ _])
  exact ⟨rfl, ha⟩
theorem xm_caught {tb : Tables} {s target : State} {g : JFrame} {c : Code} {below : List Frame} (h : At s g.method c below) {pc : Nat} {vm2 : Vm}
    (hfind : ∀ (Q : Handler → Pre) (E : CtlPost) (d : Bool) (acts : List Action), wp (findHandler g a) Q E e d acts ((s.setTop g).pushFrame (.throwing a)) ↔ Q (.found pc) d acts (((s.setTop g).pushFrame (.throwing a)).setVm vm2))
    (hrest : Steps tb e below ((s.setVm vm2).setTop { g with pc := pc, stack := [.ref a] }) target) : Steps tb e below ((s.setTop g).pushFrame (.throwing a)) target := by
  obtain ⟨hgo, hw⟩ := h.throwing a
  refine Steps.head hgo hw ?_
  rw [stepThread_throwing (frames_entered h.top _), (xm_step1 (s := (s.setTop g).pushFrame (.throwing a)) hfind).1]
  obtain ⟨g0, hg⟩ := Option.isSome_iff_exists.mp h.top
  obtain ⟨r, hr⟩ := State.topJava?_eq_some.mp hg
  have hr2 : (s.setVm vm2).frames = .java g0 :: r := hr
  have key : ∀ (u : State) (A B : List Frame), ((u.setFrames A).setVm vm2).setFrames B = (u.setVm vm2).setFrames B := fun u A B => by
    show ((u.setVm vm2).setFrames A).setFrames B = _
    rw [State.setFrames_setFrames]
  rw [State.setTop_of_frames _ hr2] at hrest
  rw [hr, List.tail_cons, State.pushFrame, key, State.setTop_of_frames _ hr, key]
  exact hrest
end
section
variable {B sb Lx : Nat} {xs : Nat → Int32} {D : va_G} {cs : Nat → ClassId} {p : Program} {l : Launch} {e : Env} {R : Room} {s : State} {m : MethodId} {args : Array Value} {below : List Frame} {meth : Method} {c : Code} {Q : State → Prop} {s0 k pc : Nat} {L : xm_L} {st r : List Value} {h h3 : xm_H} {o : xm_O} {d mc ms : Nat}
theorem xm_link {own name : String} {idx : Nat} {vm1 : Vm} (hpl : e.platform.magicAccessors = ({} : Platform).magicAccessors) (hown : s.vm.findClass own = some m.cls) (hlink : (Cond.classLink own idx name).before args s = true) (hW : s.WarmedH vm1) :
    ∃ c9, s.vm.findClass name = some c9 ∧ vm1.ClassLinks e.platform m.cls idx c9 ∧ s.WarmedH (vm1.noted m.cls idx (.cls c9)) ∧ ∃ k9, vm1.classes[c9]? = some k9 := by
  obtain ⟨c9, h1, h2⟩ := Cond.classLink_spec hown hlink e.platform hpl
  have hU : (Cond.classLink own idx name).before args (s.setVm vm1) = true := word_at (U := s.setVm vm1) hW (Or.inl (by first | rfl | simp [Cond.onTables, Cond.keeps, Cond.steady])) hlink
  have hownU : (s.setVm vm1).vm.findClass own = some m.cls := by
    show vm1.findClass own = _
    rw [hW.alike.findClass]
    exact hown
  obtain ⟨c8, g1, g2⟩ := Cond.classLink_spec hownU hU e.platform hpl
  have g1 : vm1.findClass name = some c8 := g1
  have hc : c8 = c9 := by
    rw [hW.alike.findClass] at g1
    exact Option.some.inj (g1.symm.trans h1)
  subst hc
  obtain ⟨dk, cf, nm, ck, hd, -, -, -, -, -, -, hres⟩ := h2.here
  obtain ⟨k9, hk9, -⟩ := Vm.findClass_spec g1
  exact ⟨c8, h1, g2, State.WarmedH.noted hW hd hres (State.rightAt_cls h2), k9, hk9⟩
theorem xm_cl13 : Cond.classLink (xm_own 134) 13 "java/lang/IndexOutOfBoundsException" ∈ xm_ws := xm_inw_in (q := (2, 71)) (by decide +kernel)
theorem xm_cl15 : Cond.classLink (xm_own 134) 15 "java/lang/IllegalArgumentException" ∈ xm_ws := xm_inw_in (q := (2, 72)) (by decide +kernel)
set_option maxHeartbeats 4000000 in
theorem xm_catch {x pc2 i : Nat} (G : xm_G B sb Lx xs D cs l p s m args meth c k) (hcat : xm_cat k pc x = some (pc2, i)) (kk : xm_J B sb D cs p l e R s m args below meth c Q s0 (k, pc2 + 1, (xm_clr L i).set i none, []) h) :
    xm_JX B sb D cs p l e R s m args below meth c Q s0 (k, pc, L, r) h x := by
  intro H ls locs cells slots q9 ce a1 a2 a3 a4 a5 a6 a7 h1 h2 h3
  intro T hT X
  unfold xm_cat at hcat
  split at hcat
  · rename_i hkp
    obtain ⟨hk, hpc⟩ := hkp
    subst hk
    have hL4 : L.length = 4 := a7
    have hts := G.2.2.2.2.2.1
    have hown := G.2.2.2.2.1
    have hN := G.2.2.2.2.2.2.2.2.2.2.2.2.2.2.1
    have hex : c.exceptionTable.toList = [⟨0, 9, 12, 13⟩, ⟨0, 9, 15, 15⟩] := G.2.2.2.2.2.2.2.2.1
    have hpl : e.platform.magicAccessors = ({} : Platform).magicAccessors := by rw [X.admits.platform]
    have hb := G.2.1
    have hstat : ∀ z, ce.vm ≠ .statics z := fun z hz => by rw [h2] at hz; cases hz
    obtain ⟨kce, hkce, -⟩ := Vm.findClass_spec h3
    obtain ⟨kceT, hkceT, -⟩ := X.warmed.alike.2.2 _ _ hkce
    -- behind the handler's first instruction the walk goes on
    have goon : ∀ (hp : Nat) (vm2 : Vm), s.WarmedH vm2 → pc2 = hp → i = 3 → decode (xm_b 134) hp = .ok (.astore_n 3, 1) → ∃ t, Steps p.tables e below ((T.setVm vm2).setTop (F0 m hp ls [.ref q9])) t ∧ Q t := by
      intro hp vm2 hW2 e1 e2 hd
      subst e1
      subst e2
      have hi9 : 3 < L.length := by omega
      have w : W p l e R s m args below meth c H locs cells slots Q (F0 m pc2 ls [.ref q9]) :=
        lv_astore_n (k := 3) (x := q9) G.1 hb hd rfl a6.has hi9 rfl (fun ls2 hl2 => kk H ls2 locs cells slots a1 a2 a3 a4 a5 (xm_lh.fg (v := .ref q9) hi9 hl2) (by
          show ((xm_clr L 3).set 3 none).length = _
          rw [List.length_set, xm_clr_len]
          exact a7))
      exact w (T.setVm vm2) hT (X.noted hW2)
    have hmeth : ((T.setTop (F0 m pc ls (r.map (xm_cv B sb)))).pushFrame (.throwing q9)).vm.method? m = some meth := by
      rw [Stand.throwing_vm]
      exact X.method'
    have hheap : ((T.setTop (F0 m pc ls (r.map (xm_cv B sb)))).pushFrame (.throwing q9)).heap[q9]? = some ce := by
      rw [Stand.throwing_heap, hT]
      exact h1
    have hvmT : ((T.setTop (F0 m pc ls (r.map (xm_cv B sb)))).pushFrame (.throwing q9)).vm = T.vm := Stand.throwing_vm _ _ _
    obtain ⟨cI, i1, i2, i3, kI, i4⟩ := xm_link hpl hown (hts _ xm_cl13) X.warmed
    obtain ⟨cA, j1, j2, j3, kA, j4⟩ := xm_link hpl hown (hts _ xm_cl15) i3
    have cov : ∀ b z : Nat, covers ⟨0, 9, b, z⟩ pc = true := fun b z => by simp [covers, hpc]
    split at hcat
    · rename_i hx
      subst hx
      cases hcat
      have hcast : (Cond.castable "java/lang/IndexOutOfBoundsException" "java/lang/IndexOutOfBoundsException").before args s = true := hN s (State.WarmedH.refl _) args _ (by decide)
      obtain ⟨u1, u2, v1, v2, v3⟩ := Cond.castable_spec hcast
      cases Option.some.inj (v1.symm.trans h3)
      cases Option.some.inj (v2.symm.trans i1)
      have hfit : T.vm.assignable ce.cls cI = true := by rw [X.warmed.alike.assignable]; exact v3
      obtain ⟨t, b1, b2⟩ := goon 12 _ i3 rfl rfl (xm_t_ins (by decide +kernel))
      refine ⟨t, xm_caught (g := F0 m pc ls (r.map (xm_cv B sb))) (pc := 12) (vm2 := T.vm.noted m.cls 13 (.cls cI)) X.here ?_ b1, b2⟩
      intro Q9 E9 d9 acts9
      rw [W.findHandler_eq hmeth X.code, hex, xm_go1 (c := cI) (cell := ce) (cov _ _) (by decide) (by rw [hvmT]; exact i2) hheap hstat (by rw [hvmT]; exact ⟨_, hkceT⟩) (by rw [hvmT]; exact ⟨_, i4⟩), if_pos (by rw [hvmT]; exact hfit), hvmT]
    · split at hcat
      · rename_i hx
        subst hx
        cases hcat
        have hcast : (Cond.castable "java/lang/IllegalArgumentException" "java/lang/IllegalArgumentException").before args s = true := hN s (State.WarmedH.refl _) args _ (by decide)
        obtain ⟨u1, u2, v1, v2, v3⟩ := Cond.castable_spec hcast
        cases Option.some.inj (v1.symm.trans h3)
        cases Option.some.inj (v2.symm.trans j1)
        obtain ⟨w1, w2, n1, n2, n3⟩ := va_Nc.of (hN s (State.WarmedH.refl _) args (.not (.castable "java/lang/IllegalArgumentException" "java/lang/IndexOutOfBoundsException")) (by decide))
        cases Option.some.inj (n1.symm.trans h3)
        cases Option.some.inj (n2.symm.trans i1)
        have hno : ¬ T.vm.assignable ce.cls cI = true := by rw [X.warmed.alike.assignable, n3]; decide
        have hfit : (T.vm.noted m.cls 13 (.cls cI)).assignable ce.cls cA = true := by rw [i3.alike.assignable]; exact v3
        obtain ⟨kce2, hkce2, -⟩ := i3.alike.2.2 _ _ hkce
        obtain ⟨t, b1, b2⟩ := goon 15 _ j3 rfl rfl (xm_t_ins (by decide +kernel))
        refine ⟨t, xm_caught (g := F0 m pc ls (r.map (xm_cv B sb))) (pc := 15) (vm2 := (T.vm.noted m.cls 13 (.cls cI)).noted m.cls 15 (.cls cA)) X.here ?_ b1, b2⟩
        intro Q9 E9 d9 acts9
        rw [W.findHandler_eq hmeth X.code, hex, xm_go1 (c := cI) (cell := ce) (cov _ _) (by decide) (by rw [hvmT]; exact i2) hheap hstat (by rw [hvmT]; exact ⟨_, hkceT⟩) (by rw [hvmT]; exact ⟨_, i4⟩), if_neg (by rw [hvmT]; exact hno), hvmT]
        have h9 := xm_go1 (Q := Q9) (E := E9) (d := d9) (acts := acts9) (e := e) (f := F0 m pc ls (r.map (xm_cv B sb))) (a := q9) (s := ((T.setTop (F0 m pc ls (r.map (xm_cv B sb)))).pushFrame (.throwing q9)).setVm (T.vm.noted m.cls 13 (.cls cI))) (x := ⟨0, 9, 15, 15⟩) (t := []) (c := cA) (cell := ce) (cov _ _) (by decide) j2 hheap hstat ⟨_, hkce2⟩ ⟨_, j4⟩
        rw [if_pos] at h9
        · exact h9
        · exact hfit
      · cases hcat
  · cases hcat
end
end
section
/-! The main theorem of the small machine: own work. -/
/-- how a frame goes on behind a call -/
def xm_cont (sc : xm_S) (n d : Nat) (f : xm_F) (rest : List Value) (z : xm_O × xm_H) : Option (xm_O × xm_H) := match z.1 with
  | .inl v => xm_ev sc n (d + 1) (f.1, f.2.1 + 3, f.2.2.1, v.toList ++ rest) z.2
  | .inr x => if xm_vt f.1 f.2.1 = true then (match xm_hh f.1 with
    | [] => some (.inr x, z.2)
    | _ => match xm_cat f.1 f.2.1 x with
      | some (pc2, i) => xm_ev sc n (d + 1) (f.1, pc2 + 1, (xm_clr f.2.2.1 i).set i none, []) z.2
      | none => none) else none
section
variable {sc : xm_S} {n d : Nat} {f : xm_F} {h : xm_H}
theorem xm_ev_on {q : xm_F × xm_H} (hs : xm_step sc f h = some (.inl q)) : xm_ev sc (n + 1) d f h = xm_ev sc n d q.1 q.2 := by
  conv => lhs; unfold xm_ev
  rw [hs]
theorem xm_ev_rt {q : Option Value × xm_H} (hs : xm_step sc f h = some (.inr (.inl q))) : xm_ev sc (n + 1) d f h = some (.inl q.1, q.2) := by
  conv => lhs; unfold xm_ev
  rw [hs]
theorem xm_ev_th {q : Nat × xm_H} (hs : xm_step sc f h = some (.inr (.inr (.inl q)))) : xm_ev sc (n + 1) d f h = some (.inr q.1, q.2) := by
  conv => lhs; unfold xm_ev
  rw [hs]
theorem xm_ev_no (hs : xm_step sc f h = none) : xm_ev sc (n + 1) d f h = none := by
  conv => lhs; unfold xm_ev
  rw [hs]
theorem xm_ev_c0 {q : Nat × List Value × List Value} (hs : xm_step sc f h = some (.inr (.inr (.inr q)))) : xm_ev sc (n + 1) 0 f h = none := by
  conv => lhs; unfold xm_ev
  rw [hs]
theorem xm_ev_cn {q : Nat × List Value × List Value} (hs : xm_step sc f h = some (.inr (.inr (.inr q)))) (hi : xm_ev sc n d (q.1, 0, xm_ent (xm_n q.1) q.2.1, []) h = none) : xm_ev sc (n + 1) (d + 1) f h = none := by
  conv => lhs; unfold xm_ev
  rw [hs]
  simp only [hi]
theorem xm_ev_cl {q : Nat × List Value × List Value} {z : xm_O × xm_H} (hs : xm_step sc f h = some (.inr (.inr (.inr q)))) (hi : xm_ev sc n d (q.1, 0, xm_ent (xm_n q.1) q.2.1, []) h = some z) : xm_ev sc (n + 1) (d + 1) f h = xm_cont sc n d f q.2.2 z := by
  conv => lhs; unfold xm_ev
  rw [hs]
  simp only [hi]
  obtain ⟨o, h2⟩ := z
  cases o with
  | inl v => rfl
  | inr x =>
    unfold xm_cont
    rfl
end
section
variable {B sb Lx : Nat} {xs : Nat → Int32} {D : va_G} {cs : Nat → ClassId} {l : Launch}
theorem xm_vt_no {k pc n : Nat} {i : ClassFile.Instr} (hi : xm_ins k pc = some (i, n)) (h : xm_vt k pc = true) : ∃ a, i = .invokevirtual a := by
  unfold xm_vt at h
  rw [hi] at h
  split at h
  · rename_i e
    cases e
    exact ⟨_, rfl⟩
  · cases h
set_option maxHeartbeats 4000000 in
theorem xm_snd (hl : l.stackTraces = false) : ∀ n, xm_SND B sb Lx xs D cs l n
  | 0 => fun d f h o h2 hev => by cases hev
  | n + 1 => by
    have ih := xm_snd hl n
    intro d f h o h2 hev p e R s m args below meth c s0 mc ms G hf hlo hc hz hmc hms
    obtain ⟨k, pc, L, st⟩ := f
    have hfr : 6 ≤ R.frames := by unfold xm_fr at hf; omega
    have hlc : 120 ≤ R.locals := by unfold xm_lo at hlo; omega
    obtain ⟨⟨i, n9⟩, hi⟩ := xm_ev_ins hev
    have hi : xm_ins k pc = some (i, n9) := hi
    have hd := xm_t_ins hi
    have hstep : xm_step (Lx, xs) (k, pc, L, st) h = match xm_do (Lx, xs) i n9 k pc L st h with
        | some q => some (.inl q)
        | none => xm_end i n9 k pc st h := by
      unfold xm_step
      show (match xm_ins k pc with
        | none => none
        | some (i, n) => match xm_do (Lx, xs) i n k pc L st h with
          | some q => some (Sum.inl q)
          | none => xm_end i n k pc st h) = _
      rw [hi]
    cases hdo : xm_do (Lx, xs) i n9 k pc L st h with
    | some q =>
      obtain ⟨f2, hh2⟩ := q
      rw [hdo] at hstep
      rw [xm_ev_on hstep] at hev
      have hev : xm_ev (Lx, xs) n d f2 hh2 = some (o, h2) := hev
      have hk := xm_do_k hdo
      have hmono := xm_ev_mono _ _ _ _ _ _ _ hev
      exact xm_on G hd hdo ⟨by omega, by omega⟩ ⟨by omega, by omega⟩ (ih d f2 hh2 o h2 hev p e R s m args below meth c s0 mc ms (by rw [hk.1]; exact G) hf hlo hc hz hmc hms)
    | none =>
      rw [hdo] at hstep
      have hstep : xm_step (Lx, xs) (k, pc, L, st) h = xm_end i n9 k pc st h := hstep
      cases hend : xm_end i n9 k pc st h with
      | none => rw [xm_ev_no (hstep.trans hend)] at hev; cases hev
      | some z =>
        rcases z with q | q | q | q
        · exfalso
          unfold xm_end at hend
          simp only [xm_thr] at hend
          repeat' (split at hend)
          all_goals cases hend
        · obtain ⟨v, h9⟩ := q
          rw [xm_ev_rt (hstep.trans hend)] at hev
          cases hev
          exact xm_ret G hd hend ⟨hc, hz⟩
        · obtain ⟨x, h9⟩ := q
          rw [xm_ev_th (hstep.trans hend)] at hev
          cases hev
          unfold xm_end at hend
          split at hend
          · exfalso
            repeat' (split at hend)
            all_goals cases hend
          · exfalso
            repeat' (split at hend)
            all_goals cases hend
          · exfalso
            repeat' (split at hend)
            all_goals cases hend
          · split at hend
            · rename_i hw
              unfold xm_thr at hend
              split at hend
              · rename_i hc5
                split at hend
                · rename_i hq
                  obtain ⟨g1, g2, g3, g4⟩ := hq
                  cases hend
                  refine xm_throw G hc5 hd (xm_t_ins g1) (xm_t_ins g2) (xm_t_ins g3) g4 hw ⟨by omega, by omega⟩ ⟨?_, hz⟩ ⟨hmc, hms⟩
                  rw [List.length_append] at hc
                  exact hc
                · cases hend
              · cases hend
            · cases hend
          · exfalso
            repeat' (split at hend)
            all_goals cases hend
          · exfalso
            repeat' (split at hend)
            all_goals cases hend
          · exfalso
            repeat' (split at hend)
            all_goals cases hend
          · cases hend
        · obtain ⟨k2, as, rest⟩ := q
          cases d with
          | zero => rw [xm_ev_c0 (hstep.trans hend)] at hev; cases hev
          | succ d' =>
            cases hin : xm_ev (Lx, xs) n d' (k2, 0, xm_ent (xm_n k2) as, []) h with
            | none => rw [xm_ev_cn (hstep.trans hend) hin] at hev; cases hev
            | some z =>
              rw [xm_ev_cl (hstep.trans hend) hin] at hev
              obtain ⟨o3, h3⟩ := z
              have hm1 := xm_ev_mono _ _ _ _ _ _ _ hin
              obtain ⟨mc1, hmc1⟩ : ∃ z, h.1.length + z = h3.1.length := ⟨h3.1.length - h.1.length, by omega⟩
              obtain ⟨ms1, hms1⟩ : ∃ z, h.2 + z = h3.2 := ⟨h3.2 - h.2, by omega⟩
              -- how it goes on behind a return, and over a throw
              have kv : ∀ v, o3 = .inl v → (B + h3.1.length ≤ s.heap.size + R.cells ∧ h3.2 ≤ s0 + R.slots) ∧ xm_J B sb D cs p l e R s m args below meth c (xm_QQ B sb D cs o h2 below s mc ms) s0 (k, pc + 3, L, v.toList ++ rest) h3 := by
                intro v hv
                subst hv
                have hev : xm_ev (Lx, xs) n (d' + 1) (k, pc + 3, L, v.toList ++ rest) h3 = some (o, h2) := hev
                have hm2 := xm_ev_mono _ _ _ _ _ _ _ hev
                exact ⟨⟨by omega, by omega⟩, ih (d' + 1) (k, pc + 3, L, v.toList ++ rest) h3 o h2 hev p e R s m args below meth c s0 mc ms G hf hlo hc hz hmc hms⟩
              have kx : ∀ x, o3 = .inr x → (B + h3.1.length ≤ s.heap.size + R.cells ∧ h3.2 ≤ s0 + R.slots) ∧ xm_vt k pc = true ∧ xm_JX B sb D cs p l e R s m args below meth c (xm_QQ B sb D cs o h2 below s mc ms) s0 (k, pc, L, rest) h3 x := by
                intro x hx
                subst hx
                unfold xm_cont at hev
                dsimp only at hev
                split at hev
                · rename_i hvt
                  split at hev
                  · rename_i hh
                    cases hev
                    exact ⟨⟨by omega, by omega⟩, hvt, xm_out G hh ⟨hc, hz⟩⟩
                  · split at hev
                    · rename_i pc2 i2 hcat
                      have hm2 := xm_ev_mono _ _ _ _ _ _ _ hev
                      exact ⟨⟨by omega, by omega⟩, hvt, xm_catch G hcat (ih (d' + 1) _ h3 o h2 hev p e R s m args below meth c s0 mc ms G hf hlo hc hz hmc hms)⟩
                    · cases hev
                · cases hev
              have hroom : B + h3.1.length ≤ s.heap.size + R.cells ∧ h3.2 ≤ s0 + R.slots := by
                cases o3 with
                | inl v => exact (kv v rfl).1
                | inr x => exact (kx x rfl).1
              unfold xm_end at hend
              split at hend
              · exfalso
                repeat' (split at hend)
                all_goals cases hend
              · exfalso
                repeat' (split at hend)
                all_goals cases hend
              · exfalso
                repeat' (split at hend)
                all_goals cases hend
              · exfalso
                simp only [xm_thr] at hend
                repeat' (split at hend)
                all_goals cases hend
              · -- a method of an object
                split at hend
                · rename_i hc1
                  split at hend
                  · rename_i hdr
                    split at hend
                    · rename_i hcell
                      split at hend
                      · rename_i hq
                        obtain ⟨⟨q1, q2⟩, q3, q4⟩ := hq
                        cases hend
                        subst q1
                        exact xm_callV G hd hc1 hdr hcell q2 q3 (xm_met ih hl hin q4 (xm_t_v hc1).2.2.2.1 hmc1 hms1) hmc1 hms1 hf hlo hroom (fun v hv => (kv v hv).2) (fun x hx => (kx x hx).2.2)
                      · cases hend
                    · cases hend
                  · cases hend
                · cases hend
              · -- a constructor
                have hov : ∃ v, o3 = .inl v := by
                  cases o3 with
                  | inl v => exact ⟨v, rfl⟩
                  | inr x =>
                    obtain ⟨a9, h9⟩ := xm_vt_no hi (kx x rfl).2.1
                    cases h9
                obtain ⟨v, rfl⟩ := hov
                split at hend
                · rename_i hc1
                  split at hend
                  · rename_i hdr
                    split at hend
                    · rename_i hq
                      obtain ⟨q2, q3, q4⟩ := hq
                      cases hend
                      exact xm_callI G hd (Or.inl hc1) hdr q2 q3 (xm_met ih hl hin q4 (xm_t_i hc1).2.2.2.2.2.2.2.1 hmc1 hms1) hmc1 hms1 hf hlo hroom (kv v rfl).2
                    · cases hend
                  · cases hend
                · rename_i hc1
                  split at hend
                  · rename_i hdr
                    split at hend
                    · rename_i hq
                      obtain ⟨q2, q3, q4⟩ := hq
                      cases hend
                      exact xm_callI G hd (Or.inr hc1) hdr q2 q3 (xm_met ih hl hin q4 (xm_t_in hc1).2.2.2.2.2.2.2.1 hmc1 hms1) hmc1 hms1 hf hlo hroom (kv v rfl).2
                    · cases hend
                  · cases hend
                · cases hend
              · -- a static method
                have hov : ∃ v, o3 = .inl v := by
                  cases o3 with
                  | inl v => exact ⟨v, rfl⟩
                  | inr x =>
                    obtain ⟨a9, h9⟩ := xm_vt_no hi (kx x rfl).2.1
                    cases h9
                obtain ⟨v, rfl⟩ := hov
                split at hend
                · rename_i hc1
                  split at hend
                  · rename_i hq
                    obtain ⟨q2, q3, q4⟩ := hq
                    cases hend
                    exact xm_callS G hd hc1 q2 q3 (xm_met ih hl hin q4 (xm_t_s hc1).2.2.1 hmc1 hms1) hmc1 hms1 hf hlo hroom (kv v rfl).2
                  · cases hend
                · rename_i hc1
                  split at hend
                  · rename_i hq
                    obtain ⟨q2, q3, q4⟩ := hq
                    cases hend
                    exact xm_callH G hd hc1 q2 q3 (xm_metH ih hl hin q4 hmc1 hms1) hmc1 hms1 hf hlo hroom (kv v rfl).2
                  · cases hend
                · cases hend
              · cases hend
end
end
section
/-! The law's start: what the Statement gives is what the small machine asks: own work. -/
theorem xm_at {s : State} {args : Array Value} (hts : ∀ w ∈ lw_tbl, w.before args s = true) (j i : Nat) {w : Cond} (h : (xm_tb j)[i]? = some w) : w.before args s = true := hts w (xm_tb_in (List.mem_of_getElem? h))
theorem xm_Nx_start {s : State} {args : Array Value} (hts : ∀ w ∈ lw_tbl, w.before args s = true) (hno : (Cond.not (.castable "java/lang/IllegalArgumentException" "java/lang/IndexOutOfBoundsException")).before args s = true) : xm_Nx s := by
  intro V hV a w hw
  unfold xm_xw at hw
  simp only [List.mem_cons, List.not_mem_nil, or_false] at hw
  rcases hw with rfl | rfl | rfl | rfl | rfl | rfl | rfl | rfl | rfl | rfl
  · exact va_AO.use (va_AO.moved hV.alike (va_AO.of (xm_at hts 1 23 (by decide +kernel))))
  · exact va_Nw.use rfl (va_Nw.warmM hV (va_Nw.of rfl (xm_at hts 1 26 (by decide +kernel))))
  · exact va_Nw.use rfl (va_Nw.warmM hV (va_Nw.of rfl (xm_at hts 1 43 (by decide +kernel))))
  · exact va_Nw.use rfl (va_Nw.warmM hV (va_Nw.of rfl (xm_at hts 1 48 (by decide +kernel))))
  · exact va_Nw.use rfl (va_Nw.warmD hV (va_Nw.of rfl (xm_at hts 2 80 (by decide +kernel))))
  · exact va_Nw.use rfl (va_Nw.warmD hV (va_Nw.of rfl (xm_at hts 2 82 (by decide +kernel))))
  · exact va_Nw.use rfl (va_Nw.warmD hV (va_Nw.of rfl (xm_at hts 2 84 (by decide +kernel))))
  · exact va_Nw.use rfl (va_Nw.warmC hV (va_Nw.of rfl (xm_at hts 2 79 (by decide +kernel))))
  · exact va_Nw.use rfl (va_Nw.warmC hV (va_Nw.of rfl (xm_at hts 2 154 (by decide +kernel))))
  · obtain ⟨c1, t1, g1, g2, g3⟩ := va_Nc.moved hV.alike (va_Nc.of hno)
    simp [Cond.before, Cond.holds, Cond.value, g1, g2, g3]
theorem xm_Z1 {C n d : String} {A : Nat → Prop} {V : State} {a : Array Value} (h : va_Zq C n d A V V.heap) : (Cond.isRef (.static C n d)).before a V = true := by
  rcases h with h | ⟨t, h⟩
  · obtain ⟨cf, kf, fi, f, q, cell, h1, h2, h3, h4, h5, h6, h7, -⟩ := h
    have hu : cell.vm ≠ .unknown := fun z => by rw [z] at h6; cases h6
    simp [Cond.before, Cond.holds, Cond.value, Term.eval, State.fieldNamed?, h1, h2, h4, h5, h6, h7, hu]
  · obtain ⟨cf, kf, fi, f, q, cell, h1, h2, h3, h4, h5, h6, h7, -⟩ := h
    have hu : cell.vm ≠ .unknown := fun z => by rw [z] at h6; cases h6
    simp [Cond.before, Cond.holds, Cond.value, Term.eval, State.fieldNamed?, h1, h2, h4, h5, h6, h7, hu]
theorem xm_Z2 {B : Nat} {C n d : String} {s V : State} {args a : Array Value} (hB : s.heap.size = B + 1) (h : (Cond.laysStatic C n d).before args s = true) (hvm : s.vm.Alike V.vm) (ho : ∀ q : Nat, q ≤ B → V.heap[q]? = s.heap[q]?) : (Cond.laysStatic C n d).before a V = true := by
  obtain ⟨c, k, i, f, q, cell, hc, hi, hst, hq, hcell, hs, hcls, hlt, hty⟩ := Cond.laysStatic_spec h
  obtain ⟨k2, hi2, he⟩ := State.fieldFound?_setVm hvm hi
  have hlq : q < s.heap.size := (Array.getElem?_eq_some_iff.mp hcell).1
  have hlq2 : q < B + 1 := by rw [← hB]; exact hlq
  have hcV : V.vm.findClass C = some c := by rw [hvm.findClass]; exact hc
  have hcell2 : V.heap[q]? = some cell := by rw [ho q (Nat.le_of_lt_succ hlq2)]; exact hcell
  have hq2 : k2.statics = some q := by rw [he]; exact hq
  have hty2 : k2.staticTypes[f.slot]? = some f.type := by rw [he]; exact hty
  have hi3 : V.fieldFound? C n d = some (c, k2, i, f) := hi2
  simp [Cond.before, Cond.holds, Cond.value, hcV, hi3, hq2, hcell2, hst, hs, hcls, hlt, hty2]
theorem xm_Zx_start {B : Nat} {s : State} {args : Array Value} (hB : s.heap.size = B + 1) (hts : ∀ w ∈ lw_tbl, w.before args s = true) (hu : (Cond.isRef (.static "java/lang/Throwable" "UNASSIGNED_STACK" "[Ljava/lang/StackTraceElement;")).before args s = true) (hn : (Cond.isRef (.static "java/lang/Throwable" "SUPPRESSED_SENTINEL" "Ljava/util/List;")).before args s = true) : xm_Zx B s := by
  have l1 := xm_at hts 2 104 (w := .laysStatic "java/lang/Throwable" "UNASSIGNED_STACK" "[Ljava/lang/StackTraceElement;") (by decide +kernel)
  have l2 := xm_at hts 2 106 (w := .laysStatic "java/lang/Throwable" "SUPPRESSED_SENTINEL" "Ljava/util/List;") (by decide +kernel)
  have hi := xm_at hts 1 8 (w := .initialized "java/lang/Throwable") (by decide +kernel)
  have z1 := va_Zqof (A := fun q => B < q) l1 hi hu (fun a ha => by omega)
  have z2 := va_Zqof (A := fun q => B < q) l2 hi hn (fun a ha => by omega)
  intro V hvm ho a w hw
  have hk : ∀ q : Nat, q < s.heap.size → ¬ B < q → V.heap[q]? = s.heap[q]? := fun q _ hq => ho q (by omega)
  unfold xm_ew at hw
  simp only [List.mem_cons, List.not_mem_nil, or_false] at hw
  rcases hw with rfl | rfl | rfl | rfl
  · exact xm_Z1 (va_Zq.moved hvm (z1.kept hk))
  · exact xm_Z1 (va_Zq.moved hvm (z2.kept hk))
  · exact xm_Z2 hB l1 hvm ho
  · exact xm_Z2 hB l2 hvm ho
def xm_ipp : List (Nat × Nat) := [(1, 15), (1, 111), (1, 202), (1, 25), (1, 42), (3, 95)]
theorem xm_insall : xm_za (fun (r : vw_C) q => xm_inw (.instantiable r.1 r.2.2) q) xm_cls xm_ipp = true := by decide +kernel
theorem xm_K_start {s : State} {args : Array Value} (hts : ∀ w ∈ lw_tbl, w.before args s = true) : ∃ (D : va_G) (cs : Nat → ClassId), va_K D xm_cls (xm_tys cs) s := by
  have hws : ∀ w ∈ xm_ws, w.before args s = true := fun w hw => hts w (List.mem_filter.mp hw).1
  have h1 : ∀ ci : Nat, ∃ (cC : ClassId) (iS : Nat → Nat), ∀ q : vw_C, xm_cls[ci]? = some q → u_Kn s q.1 q.2.1 q.2.2 cC iS := by
    intro ci
    cases hr : xm_cls[ci]? with
    | none => exact ⟨0, fun _ => 0, fun q hq => by cases hq⟩
    | some r =>
      obtain ⟨C, T, N⟩ := r
      obtain ⟨q, hq⟩ := xm_za_in xm_insall (List.mem_of_getElem? hr)
      obtain ⟨cC, iS, hK⟩ := u_known hws (xm_t_lay hr).1 (hws _ (xm_inw_in hq))
      exact ⟨cC, iS, fun q hq => by cases hq; exact hK⟩
  obtain ⟨c0, k0, p0, f0, g0, e0⟩ := Cond.arrayClass_spec (hws _ xm_t_a0)
  obtain ⟨c1, k1, p1, f1, g1, e1⟩ := Cond.arrayClass_spec (hws _ xm_t_a1)
  obtain ⟨c2, k2, p2, f2, g2, e2⟩ := Cond.arrayClass_spec (hws _ xm_t_a2)
  obtain ⟨p3, c3, k3, f3, -, g3, e3, d3⟩ := Cond.arrayOver_spec (xm_at hts 1 23 (w := .arrayOver (.object "TagCoder$Type")) (by decide +kernel))
  refine ⟨(fun ci => Classical.choose (h1 ci), fun ci => Classical.choose (Classical.choose_spec (h1 ci))), fun t => match t with
    | 0 => c0
    | 1 => c1
    | 2 => c2
    | _ => c3, fun ci q hq => Classical.choose_spec (Classical.choose_spec (h1 ci)) q hq, fun t q hq => ?_⟩
  have ht : t < 4 := (List.getElem?_eq_some_iff.mp hq).1
  rcases (show t = 0 ∨ t = 1 ∨ t = 2 ∨ t = 3 by omega) with rfl | rfl | rfl | rfl
  · cases hq
    exact ⟨fun n z => ⟨fun k h => (by cases h), k0, g0, p0, e0⟩, f0⟩
  · cases hq
    exact ⟨fun n z => ⟨fun k h => (by cases h), k1, g1, p1, e1⟩, f1⟩
  · cases hq
    exact ⟨fun n z => ⟨fun k h => (by cases h), k2, g2, p2, e2⟩, f2⟩
  · cases hq
    exact ⟨fun n z => ⟨fun k h => (by cases h), k3, g3, p3, e3⟩, k3, p3, g3, e3, f3, d3⟩
/-- the pure statement: on every script of at most N ints the small machine's run of the law ends with 1, within the claim's room -/
def xm_PURE (N C S : Nat) : Prop := ∀ (L : Nat) (xs : Nat → Int32), L ≤ N → ∃ (n : Nat) (h2 : xm_H), xm_ev (L, xs) n 1000 (135, 0, xm_ent 7 [.ref 0], []) ([none], 0) = some (.inl (some (.int 1)), h2) ∧ h2.1.length ≤ C + 1 ∧ h2.2 ≤ S
end
section
/-! Runs of the small machine with the frames that wait: own work. -/
section
variable {sc : xm_S}
theorem xm_ev_up : ∀ (n d : Nat) (f : xm_F) (h : xm_H) (r : xm_O × xm_H), xm_ev sc n d f h = some r → xm_ev sc (n + 1) d f h = some r
  | 0, _, _, _, _, hev => by cases hev
  | n + 1, d, f, h, r, hev => by
    cases hs : xm_step sc f h with
    | none => rw [xm_ev_no hs] at hev; cases hev
    | some z =>
      rcases z with q | q | q | q
      · rw [xm_ev_on hs] at hev
        rw [xm_ev_on hs]
        exact xm_ev_up n _ _ _ _ hev
      · rw [xm_ev_rt hs] at hev
        rw [xm_ev_rt hs]
        exact hev
      · rw [xm_ev_th hs] at hev
        rw [xm_ev_th hs]
        exact hev
      · cases d with
        | zero => rw [xm_ev_c0 hs] at hev; cases hev
        | succ d =>
          cases hi : xm_ev sc n d (q.1, 0, xm_ent (xm_n q.1) q.2.1, []) h with
          | none => rw [xm_ev_cn hs hi] at hev; cases hev
          | some z =>
            have hi2 := xm_ev_up n _ _ _ _ hi
            rw [xm_ev_cl hs hi] at hev
            rw [xm_ev_cl hs hi2]
            obtain ⟨o, h2⟩ := z
            cases o with
            | inl v => exact xm_ev_up n _ _ _ _ hev
            | inr x =>
              unfold xm_cont at hev
              unfold xm_cont
              dsimp only at hev ⊢
              split at hev
              · rename_i hv
                rw [if_pos hv]
                split at hev
                · exact hev
                · rename_i hh
                  split at hev
                  · rename_i pc2 i hc
                    exact xm_ev_up n _ _ _ _ hev
                  · cases hev
              · cases hev
theorem xm_ev_le {n n2 d : Nat} {f : xm_F} {h : xm_H} {r : xm_O × xm_H} (hn : n ≤ n2) (hev : xm_ev sc n d f h = some r) : xm_ev sc n2 d f h = some r := by
  induction hn with
  | refl => exact hev
  | step _ ih => exact xm_ev_up _ _ _ _ _ ih
/-- what waits goes on: K's frames stand at their calls, without the arguments -/
def xm_U (sc : xm_S) (P : xm_O → xm_H → Prop) : List xm_F → xm_O → xm_H → Prop
  | [], o, h => P o h
  | g :: K, .inl v, h => ∃ (n : Nat) (o2 : xm_O) (h2 : xm_H), xm_ev sc n (1000 - K.length) (g.1, g.2.1 + 3, g.2.2.1, v.toList ++ g.2.2.2) h = some (o2, h2) ∧ xm_U sc P K o2 h2
  | g :: K, .inr x, h => xm_vt g.1 g.2.1 = true ∧ ((xm_hh g.1 = [] ∧ xm_U sc P K (.inr x) h) ∨ (xm_hh g.1 ≠ [] ∧ ∃ (pc2 i n : Nat) (o2 : xm_O) (h2 : xm_H), xm_cat g.1 g.2.1 x = some (pc2, i) ∧ xm_ev sc n (1000 - K.length) (g.1, pc2 + 1, (xm_clr g.2.2.1 i).set i none, []) h = some (o2, h2) ∧ xm_U sc P K o2 h2))
/-- the run of f, over the frames K that wait for it, ends as P says -/
def xm_Go (sc : xm_S) (P : xm_O → xm_H → Prop) (K : List xm_F) (f : xm_F) (h : xm_H) : Prop := ∃ (n : Nat) (o : xm_O) (h2 : xm_H), xm_ev sc n (1000 - K.length) f h = some (o, h2) ∧ xm_U sc P K o h2
variable {P : xm_O → xm_H → Prop} {K : List xm_F} {f f2 : xm_F} {h h2 : xm_H}
theorem xm_go_on (hs : xm_step sc f h = some (.inl (f2, h2))) (kk : xm_Go sc P K f2 h2) : xm_Go sc P K f h := by
  obtain ⟨n, o, h3, a, b⟩ := kk
  exact ⟨n + 1, o, h3, by rw [xm_ev_on hs]; exact a, b⟩
theorem xm_go_rt {v : Option Value} (hs : xm_step sc f h = some (.inr (.inl (v, h2)))) (kk : xm_U sc P K (.inl v) h2) : xm_Go sc P K f h := ⟨1, _, _, xm_ev_rt hs, kk⟩
theorem xm_go_th {x : Nat} (hs : xm_step sc f h = some (.inr (.inr (.inl (x, h2))))) (kk : xm_U sc P K (.inr x) h2) : xm_Go sc P K f h := ⟨1, _, _, xm_ev_th hs, kk⟩
theorem xm_go_cl {k2 : Nat} {as rest : List Value} (hK : K.length < 1000) (hs : xm_step sc f h = some (.inr (.inr (.inr (k2, as, rest))))) (kk : xm_Go sc P ((f.1, f.2.1, f.2.2.1, rest) :: K) (k2, 0, xm_ent (xm_n k2) as, []) h) : xm_Go sc P K f h := by
  obtain ⟨n, o, h3, a, b⟩ := kk
  obtain ⟨d, hd⟩ : ∃ d, 1000 - K.length = d + 1 := ⟨1000 - K.length - 1, by omega⟩
  have hd2 : 1000 - ((f.1, f.2.1, f.2.2.1, rest) :: K : List xm_F).length = d := by rw [List.length_cons]; omega
  rw [hd2] at a
  unfold xm_Go
  rw [hd]
  cases o with
  | inl v =>
    unfold xm_U at b
    obtain ⟨n2, o2, h4, c1, c2⟩ := b
    rw [hd] at c1
    refine ⟨max n n2 + 1, o2, h4, ?_, c2⟩
    rw [xm_ev_cl hs (xm_ev_le (Nat.le_max_left _ _) a)]
    exact xm_ev_le (Nat.le_max_right _ _) c1
  | inr x =>
    unfold xm_U at b
    obtain ⟨hv, b⟩ := b
    have hv : xm_vt f.1 f.2.1 = true := hv
    rcases b with ⟨hh, b⟩ | ⟨hh, pc2, i, n2, o2, h4, hc, c1, c2⟩
    · have hh : xm_hh f.1 = [] := hh
      refine ⟨n + 1, _, _, ?_, b⟩
      rw [xm_ev_cl hs a]
      unfold xm_cont
      dsimp only
      rw [if_pos hv, hh]
    · have hh : xm_hh f.1 ≠ [] := hh
      have hc : xm_cat f.1 f.2.1 x = some (pc2, i) := hc
      rw [hd] at c1
      refine ⟨max n n2 + 1, o2, h4, ?_, c2⟩
      rw [xm_ev_cl hs (xm_ev_le (Nat.le_max_left _ _) a)]
      unfold xm_cont
      dsimp only
      rw [if_pos hv]
      split
      · rename_i h6
        exact absurd h6 hh
      · rw [hc]
        exact xm_ev_le (Nat.le_max_right _ _) c1
/-- some steps at once -/
def xm_run (sc : xm_S) : Nat → xm_F → xm_H → Option (xm_F × xm_H)
  | 0, f, h => some (f, h)
  | n + 1, f, h => match xm_step sc f h with
    | some (.inl q) => xm_run sc n q.1 q.2
    | _ => none
theorem xm_go_run : ∀ (n : Nat) {f : xm_F} {h : xm_H}, xm_run sc n f h = some (f2, h2) → xm_Go sc P K f2 h2 → xm_Go sc P K f h
  | 0, f, h, hr, kk => by cases hr; exact kk
  | n + 1, f, h, hr, kk => by
    unfold xm_run at hr
    cases hs : xm_step sc f h with
    | none => rw [hs] at hr; cases hr
    | some z =>
      rw [hs] at hr
      rcases z with q | q | q | q
      · exact xm_go_on hs (xm_go_run n hr kk)
      · cases hr
      · cases hr
      · cases hr
end
end
section
/-! A machine over whole numbers: the small machine's steps as conditions on them: own work. An int stands for its residue, a reference bears a mark: true for the cells that the law's start makes (their kinds and their lasting references stand in a table), false for those that are made later. -/
abbrev ym_V : Type := (Int ⊕ Int64) ⊕ Option (Bool × Nat)
abbrev ym_L : Type := List (Option ym_V)
abbrev ym_F : Type := Nat × Nat × ym_L × List ym_V
/-- ints, longs and references by cell and place; the cells' kinds and lengths; how many cells; how much room is used -/
abbrev ym_S : Type := (Nat → Int → Int) × (Nat → Int → Int64) × (Nat → Int → Option Nat) × (Nat → Option (Nat × Nat)) × Nat × Nat
abbrev ym_I (a : Int) : ym_V := .inl (.inl a)
abbrev ym_J (a : Int64) : ym_V := .inl (.inr a)
abbrev ym_P (c : Nat) : ym_V := .inr (some (true, c))
abbrev ym_Q (c : Nat) : ym_V := .inr (some (false, c))
abbrev ym_N : ym_V := .inr none
def ym_v : ym_V → Value
  | .inl (.inl a) => .int (Int32.ofInt a)
  | .inl (.inr x) => .long x
  | .inr none => .null
  | .inr (some (_, c)) => .ref c
abbrev ym_ml (L : ym_L) : xm_L := L.map (Option.map ym_v)
def ym_f (f : ym_F) : xm_F := (f.1, f.2.1, ym_ml f.2.2.1, f.2.2.2.map ym_v)
abbrev ym_in (a : Int) : Prop := -2147483648 ≤ a ∧ a < 2147483648
abbrev ym_T (s : ym_S) (c : Nat) : Option (Nat × Nat) := s.2.2.2.1 c
abbrev ym_n (s : ym_S) : Nat := s.2.2.2.2.1
abbrev ym_z (s : ym_S) : Nat := s.2.2.2.2.2
abbrev ym_R (s : ym_S) : Nat → Int → Option Nat := s.2.2.1
def ym_fsl : List (Option (Nat × Nat)) := [none, some (4, 0), some (3, 16), some (7, 0), some (0, 200), some (7, 0), some (0, 200), some (8, 0), some (7, 0), some (0, 200), some (7, 0), some (0, 200), some (9, 0), some (0, 16), some (0, 16), some (0, 16), some (0, 16), some (2, 16), some (1, 16), some (1, 16), some (0, 17), some (0, 1632), some (0, 17), some (0, 102), some (0, 102), some (1, 102), some (0, 200), some (0, 300), some (0, 200), some (0, 20), some (0, 20), some (0, 20), some (0, 20), some (0, 20), some (0, 20), some (0, 20), some (0, 20), some (0, 16), some (0, 130), some (0, 130), some (0, 130), some (0, 9000), some (0, 5), some (0, 5), some (0, 5), some (1, 1)]
def ym_fxl : List (List (Option Nat)) := [[], [some 2, none, none, some 3, some 5, some 7], [], [some 4, none], [], [some 6, none], [], [some 8, some 10, none, none, none, none, none, none, none, none], [some 9, none], [], [some 11, none], [], [none, none, some 13, some 14, some 15, some 16, some 17, some 18, some 19, some 20, some 21, some 22, some 23, some 24, some 25, none, none, some 26, none, some 27, none, none, none, none, none, none, none, some 28, none, some 29, some 30, some 31, some 32, some 33, some 34, some 35, some 36, some 37, none, some 38, some 39, some 40, none, some 41, some 42, some 43, some 44], [], [], [], [], [], [], [], [], [], [], [], [], [], [], [], [], [], [], [], [], [], [], [], [], [], [], [], [], [], [], [], [], []]
def ym_fs (c : Nat) : Option (Nat × Nat) := ym_fsl.getD c none
def ym_fx (c j : Nat) : Option Nat := (ym_fxl.getD c []).getD j none
def ym_fb : Nat := 46
def ym_fk (ci j : Nat) : Nat := match xm_fty ci j with
  | .int => 0
  | .boolean => 1
  | .long => 2
  | .object _ => 3
  | .array _ => 3
  | _ => 4
def ym_kil : List (List (Nat × Int)) := [[], [], [], [(25, 2097151)], [(178, 65536), (179, 1114111), (180, 55296), (181, 57343)], [(126, 2097152), (226, 65536), (227, 1114111), (228, 55296), (229, 57343)], []]
def ym_ki (k idx : Nat) : Option Int := xm_look (ym_kil.getD (xm_kc k) []) idx
def ym_fv (s : ym_S) (ci c j : Nat) : Value := match ym_fk ci j with
  | 2 => .long (s.2.1 c j)
  | 3 => va_rf (s.2.2.1 c j)
  | _ => .int (Int32.ofInt (s.1 c j))
/-- what a cell of a kind holds -/
def ym_c (s : ym_S) (c n : Nat) (o : Option xm_E) : Nat → Prop
  | 0 => n ≤ 67108864 ∧ ∃ f : Nat → Int32, o = some (.inl (0, n, .inl f)) ∧ ∀ j : Nat, j < n → f j = Int32.ofInt (s.1 c j)
  | 1 => n ≤ 67108864 ∧ ∃ f : Nat → Int64, o = some (.inl (1, n, .inr (.inl f))) ∧ ∀ j : Nat, j < n → f j = s.2.1 c j
  | 2 => n ≤ 67108864 ∧ ∃ f : Nat → Int32, o = some (.inl (2, n, .inl f)) ∧ ∀ j : Nat, j < n → f j = Int32.ofInt (s.1 c j)
  | 3 => n ≤ 67108864 ∧ ∃ f : Nat → Option Nat, o = some (.inl (3, n, .inr (.inr f))) ∧ ∀ j : Nat, j < n → f j = s.2.2.1 c j
  | ci + 4 => ∃ fs : List Value, o = some (.inr (ci, fs)) ∧ fs.length = (xm_def ci).length ∧ ∀ (j : Nat) (v : Value), fs[j]? = some v → v = ym_fv s ci c j
def ym_Fix (s : ym_S) : Prop := (∀ (c : Nat) (t : Nat × Nat), ym_fs c = some t → ym_T s c = some t) ∧ (∀ c j r : Nat, ym_fx c j = some r → ym_R s c j = some r) ∧ ym_T s 0 = none
/-- the state's numbers are the heap's -/
def ym_H (s : ym_S) (h : xm_H) : Prop := (h.1.length = ym_n s ∧ h.2 = ym_z s) ∧ (∀ c j, ym_in (s.1 c j)) ∧ (∀ c, ym_n s ≤ c → ∀ j, s.1 c j = 0 ∧ s.2.1 c j = 0 ∧ s.2.2.1 c j = none) ∧ ym_Fix s ∧ (∀ c t n, ym_T s c = some (t, n) → ym_c s c n (xm_cell h c) t)
def ym_Go (sc : xm_S) (P : xm_O → xm_H → Prop) (K : List ym_F) (f : ym_F) (s : ym_S) : Prop := ∀ h, ym_H s h → xm_Go sc P (K.map ym_f) (ym_f f) h
def ym_Rt (sc : xm_S) (P : xm_O → xm_H → Prop) (K : List ym_F) (v : Option ym_V) (s : ym_S) : Prop := ∀ h, ym_H s h → xm_U sc P (K.map ym_f) (.inl (v.map ym_v)) h
def ym_Ex (sc : xm_S) (P : xm_O → xm_H → Prop) (K : List ym_F) (x : Nat) (s : ym_S) : Prop := ∀ h, ym_H s h → xm_U sc P (K.map ym_f) (.inr x) h
-- the state's changes
def ym_u {α : Type} (I : Nat → Int → α) (c : Nat) (j : Int) (v : α) : Nat → Int → α := fun c' j' => bif Nat.beq c' c then (if j' = j then v else I c' j') else I c' j'
def ym_wI (s : ym_S) (c : Nat) (j v : Int) : ym_S := (ym_u s.1 c j v, s.2)
def ym_wJ (s : ym_S) (c : Nat) (j : Int) (v : Int64) : ym_S := (s.1, ym_u s.2.1 c j v, s.2.2)
def ym_wR (s : ym_S) (c : Nat) (j : Int) (v : Option Nat) : ym_S := (s.1, s.2.1, ym_u s.2.2.1 c j v, s.2.2.2)
def ym_mk (s : ym_S) (t n z : Nat) : ym_S := (s.1, s.2.1, s.2.2.1, (fun c => bif Nat.beq c (ym_n s) then some (t, n) else ym_T s c), ym_n s + 1, ym_z s + z)
def ym_ex (s : ym_S) : ym_S := (s.1, s.2.1, s.2.2.1, s.2.2.2.1, ym_n s + 1, ym_z s + 6)
def ym_cpy (s : ym_S) (a d : Nat) (sp dp n : Int) : ym_S := ((fun c j => bif Nat.beq c d then (if dp ≤ j ∧ j < dp + n then s.1 a (sp + (j - dp)) else s.1 c j) else s.1 c j), s.2)
-- frames
def ym_ld (L : ym_L) (i : Nat) : Option ym_V := (L[i]?).getD none
def ym_clr (L : ym_L) : Nat → ym_L
  | 0 => L
  | j + 1 => match ym_ld L j with
    | some (.inl (.inr _)) => L.set j none
    | _ => L
def ym_ct (v : ym_V) : Nat := match v with
  | .inl (.inr _) => 2
  | _ => 1
def ym_wt : List ym_V → Nat
  | [] => 0
  | v :: r => ym_ct v + ym_wt r
def ym_sl : List ym_V → ym_L
  | [] => []
  | v :: r => bif Nat.beq (ym_ct v) 2 then some v :: none :: ym_sl r else some v :: ym_sl r
def ym_ent (n : Nat) (vs : List ym_V) : ym_L := ym_sl vs ++ List.replicate (n - (ym_sl vs).length) none
-- numbers
def ym_and (x y : Int) : Int := (Int32.ofInt x &&& Int32.ofInt y).toInt
def ym_or (x y : Int) : Int := (Int32.ofInt x ||| Int32.ofInt y).toInt
def ym_shl (x y : Int) : Int := (Int32.ofInt x <<< (Int32.ofInt y &&& 31)).toInt
def ym_shr (x y : Int) : Int := (Int32.ofInt x >>> (Int32.ofInt y &&& 31)).toInt
def ym_div (x y : Int) : Int := (Int32.ofInt x / Int32.ofInt y).toInt
def ym_rem (x y : Int) : Int := (Int32.ofInt x - Int32.ofInt x / Int32.ofInt y * Int32.ofInt y).toInt
def ym_cmp (x y : Int64) : Int := if x > y then 1 else if x = y then 0 else -1
def ym_l2i (x : Int64) : Int := x.toInt32.toInt
def ym_i2l (x : Int) : Int64 := (Int32.ofInt x).toInt64
def ym_lshl (x : Int64) (y : Int) : Int64 := x <<< ((Int32.ofInt y).toInt64 &&& 63)
def ym_lshr (x : Int64) (y : Int) : Int64 := x >>> ((Int32.ofInt y).toInt64 &&& 63)
def ym_lus (x : Int64) (y : Int) : Int64 := (x.toUInt64 >>> ((Int32.ofInt y).toInt64.toUInt64 &&& Int64.toUInt64 63)).toInt64
-- a step
def ym_ck (b : Bool) (F : Prop) : Prop := match b with
  | true => F
  | false => False
def ym_isb (c t : Nat) : Bool := match ym_fs c with
  | some (t', _) => Nat.beq t' t
  | none => false
def ym_ob (s : ym_S) (b : Bool) (c t : Nat) (F : Prop) : Prop := match b with
  | true => ym_ck (ym_isb c t) F
  | false => ym_T s c = some (t, 0) ∧ F
def ym_ar (s : ym_S) (b : Bool) (c t : Nat) (F : Nat → Prop) : Prop := match b with
  | true => (match ym_fs c with
    | some (t', n) => ym_ck (Nat.beq t' t) (F n)
    | none => False)
  | false => ∃ n : Nat, ym_T s c = some (t, n) ∧ F n
def ym_rq (s : ym_S) (c : Nat) (j : Int) (G : ym_V → Prop) : Prop := (ym_R s c j = none → G ym_N) ∧ (∀ q : Nat, ym_R s c j = some q → G (ym_Q q))
def ym_rd (s : ym_S) (b : Bool) (c j : Nat) (G : ym_V → Prop) : Prop := match b with
  | true => (match ym_fx c j with
    | some r => G (ym_P r)
    | none => ym_rq s c j G)
  | false => ym_rq s c j G
def ym_wo (b : Bool) (c j : Nat) (F : Prop) : Prop := match b with
  | true => ym_ck (ym_fx c j).isNone F
  | false => ym_fb ≤ c ∧ F
def ym_woa (b : Bool) (c : Nat) (F : Prop) : Prop := match b with
  | true => ym_ck (ym_fxl.getD c []).isEmpty F
  | false => ym_fb ≤ c ∧ F
def ym_br (c : ClassFile.Cond) (x y : Int) (T N : Prop) : Prop := ym_in x ∧ ym_in y ∧ (match c with
  | .eq => (x = y → T) ∧ (¬ x = y → N)
  | .ne => (x = y → N) ∧ (¬ x = y → T)
  | .lt => (x < y → T) ∧ (y ≤ x → N)
  | .ge => (x < y → N) ∧ (y ≤ x → T)
  | .gt => (y < x → T) ∧ (x ≤ y → N)
  | .le => (y < x → N) ∧ (x ≤ y → T))
def ym_jk (pc : Nat) (off : Int) : Bool := decide (0 ≤ (pc : Int) + off)
def ym_tb (G : Int → Prop) : List Int → Int → Int → Prop
  | [], _, _ => True
  | off :: os, z, x => (x = z → G off) ∧ ym_tb G os (z + 1) x
def ym_lb (G : Int → Prop) (d : Int) : List (Int × Int) → Int → Prop
  | [], _ => G d
  | (z, off) :: r, x => (x = z → G off) ∧ (¬ x = z → ym_lb G d r x)
abbrev ym_G : Type := Option Nat → ym_L → List ym_V → ym_S → Prop
section
variable (L : ym_L) (st : List ym_V) (s : ym_S) (go : ym_G)
def ym_ilo (i : Nat) : Prop := match ym_ld L i with
  | some (.inl (.inl x)) => go none L (ym_I x :: st) s
  | _ => False
def ym_llo (i : Nat) : Prop := match ym_ld L i with
  | some (.inl (.inr x)) => go none L (ym_J x :: st) s
  | _ => False
def ym_alo (i : Nat) : Prop := match ym_ld L i with
  | some (.inr x) => go none L (.inr x :: st) s
  | _ => False
def ym_ist (i : Nat) : Prop := match st with
  | .inl (.inl x) :: r => ym_ck (Nat.blt i L.length) (go none ((ym_clr L i).set i (some (ym_I x))) r s)
  | _ => False
def ym_lst (i : Nat) : Prop := match st with
  | .inl (.inr x) :: r => ym_ck (Nat.blt (i + 1) L.length) (go none (((ym_clr L i).set i (some (ym_J x))).set (i + 1) none) r s)
  | _ => False
def ym_ast (i : Nat) : Prop := match st with
  | .inr x :: r => ym_ck (Nat.blt i L.length) (go none ((ym_clr L i).set i (some (.inr x))) r s)
  | _ => False
def ym_inc (i : Nat) (z : Int) : Prop := match ym_ld L i with
  | some (.inl (.inl x)) => ym_ck (Nat.blt i L.length) (go none ((ym_clr L i).set i (some (ym_I (x + z)))) st s)
  | _ => False
def ym_b2 (o : Int → Int → Int) : Prop := match st with
  | .inl (.inl y) :: .inl (.inl x) :: r => go none L (ym_I (o x y) :: r) s
  | _ => False
def ym_d2 (o : Int → Int → Int) : Prop := match st with
  | .inl (.inl y) :: .inl (.inl x) :: r => ym_ck (decide (0 < y) && decide (y < 2147483648)) (go none L (ym_I (o x y) :: r) s)
  | _ => False
def ym_l2 (o : Int64 → Int64 → Int64) : Prop := match st with
  | .inl (.inr y) :: .inl (.inr x) :: r => go none L (ym_J (o x y) :: r) s
  | _ => False
def ym_ls (o : Int64 → Int → Int64) : Prop := match st with
  | .inl (.inl y) :: .inl (.inr x) :: r => go none L (ym_J (o x y) :: r) s
  | _ => False
def ym_gf (q : Option (Nat × Nat × Nat)) : Prop := match st, q with
  | .inr (some (b, c)) :: r, some (0, ci, j) => ym_ob s b c (ci + 4) (ym_ck (Nat.blt j (xm_def ci).length) (match ym_fk ci j with
    | 0 => ym_in (s.1 c j) → go none L (ym_I (s.1 c j) :: r) s
    | 1 => ym_in (s.1 c j) → go none L (ym_I (s.1 c j) :: r) s
    | 2 => go none L (ym_J (s.2.1 c j) :: r) s
    | 3 => ym_rd s b c j (fun v => go none L (v :: r) s)
    | _ => False))
  | _, _ => False
def ym_pf (k : Nat) (q : Option (Nat × Nat × Nat)) : Prop := match st, q with
  | v :: .inr (some (b, c)) :: r, some (0, ci, j) => ym_ob s b c (ci + 4) (ym_ck (Nat.blt j (xm_def ci).length && xm_pok k ci j) (match ym_fk ci j, v with
    | 0, .inl (.inl x) => ym_in x ∧ go none L r (ym_wI s c j x)
    | 1, .inl (.inl x) => (x = 0 ∨ x = 1) ∧ go none L r (ym_wI s c j x)
    | 2, .inl (.inr x) => go none L r (ym_wJ s c j x)
    | 3, .inr none => ym_wo b c j (go none L r (ym_wR s c j none))
    | 3, .inr (some (_, d)) => ym_wo b c j (go none L r (ym_wR s c j (some d)))
    | _, _ => False))
  | _, _ => False
def ym_ald (sc : xm_S) : Prop := match st with
  | .inl (.inl j) :: .inr (some (true, 0)) :: r => (0 ≤ j ∧ j < (sc.1 : Int)) ∧ go none L (ym_I (sc.2 j.toNat).toInt :: r) s
  | .inl (.inl j) :: .inr (some (b, c)) :: r => ym_ar s b c 0 (fun n => (0 ≤ j ∧ j < (n : Int)) ∧ (ym_in (s.1 c j) → go none L (ym_I (s.1 c j) :: r) s))
  | _ => False
def ym_zld : Prop := match st with
  | .inl (.inl j) :: .inr (some (b, c)) :: r => ym_ar s b c 2 (fun n => (0 ≤ j ∧ j < (n : Int)) ∧ (ym_in (s.1 c j) → go none L (ym_I (s.1 c j) :: r) s))
  | _ => False
def ym_lld : Prop := match st with
  | .inl (.inl j) :: .inr (some (b, c)) :: r => ym_ar s b c 1 (fun n => (0 ≤ j ∧ j < (n : Int)) ∧ go none L (ym_J (s.2.1 c j) :: r) s)
  | _ => False
def ym_rld : Prop := match st with
  | .inl (.inl j) :: .inr (some (b, c)) :: r => ym_ar s b c 3 (fun n => (0 ≤ j ∧ j < (n : Int)) ∧ ym_rq s c j (fun v => go none L (v :: r) s))
  | _ => False
def ym_iat : Prop := match st with
  | .inl (.inl x) :: .inl (.inl j) :: .inr (some (b, c)) :: r => ym_ar s b c 0 (fun n => (0 ≤ j ∧ j < (n : Int)) ∧ ym_in x ∧ go none L r (ym_wI s c j x))
  | _ => False
def ym_zat : Prop := match st with
  | .inl (.inl x) :: .inl (.inl j) :: .inr (some (b, c)) :: r => ym_ar s b c 2 (fun n => (0 ≤ j ∧ j < (n : Int)) ∧ (x = 0 ∨ x = 1) ∧ go none L r (ym_wI s c j x))
  | _ => False
def ym_lat : Prop := match st with
  | .inl (.inr x) :: .inl (.inl j) :: .inr (some (b, c)) :: r => ym_ar s b c 1 (fun n => (0 ≤ j ∧ j < (n : Int)) ∧ go none L r (ym_wJ s c j x))
  | _ => False
def ym_rat : Prop := match st with
  | .inr (some (b2, v)) :: .inl (.inl j) :: .inr (some (b, c)) :: r => ym_ar s b c 3 (fun n => (0 ≤ j ∧ j < (n : Int)) ∧ ym_ob s b2 v 5 (ym_woa b c (go none L r (ym_wR s c j (some v)))))
  | _ => False
def ym_len (sc : xm_S) : Prop := match st with
  | .inr (some (true, 0)) :: r => go none L (ym_I (sc.1 : Int) :: r) s
  | .inr (some (b, c)) :: r => ym_ar s b c 0 (fun n => go none L (ym_I (n : Int) :: r) s)
  | _ => False
def ym_nar (t : Nat) : Prop := match st with
  | .inl (.inl n) :: r => (0 ≤ n ∧ n ≤ 67108864) ∧ go none L (ym_Q (ym_n s) :: r) (ym_mk s t n.toNat n.toNat)
  | _ => False
def ym_sw1 (pc : Nat) (d lo hi : Int) (offs : List Int) : Prop := match st with
  | .inl (.inl x) :: r => ym_in x ∧ ym_ck (ym_jk pc d && decide (offs.length = (hi - lo + 1).toNat)) ((x < lo ∨ hi < x → go (some (xm_tg pc d)) L r s) ∧ ym_tb (fun off => ym_ck (ym_jk pc off) (go (some (xm_tg pc off)) L r s)) offs lo x)
  | _ => False
def ym_sw2 (pc : Nat) (d : Int) (ps : List (Int × Int)) : Prop := match st with
  | .inl (.inl x) :: r => ym_in x ∧ ym_ck ((ps.zip (ps.drop 1)).all (fun (a, next) => a.1 < next.1)) (ym_lb (fun off => ym_ck (ym_jk pc off) (go (some (xm_tg pc off)) L r s)) d ps x)
  | _ => False
end
section
variable (sc : xm_S) (P : xm_O → xm_H → Prop) (K : List ym_F)
def ym_cl (k pc : Nat) (L : ym_L) (k2 : Nat) (as rest : List ym_V) (s : ym_S) : Prop := ym_ck (Nat.ble (ym_wt rest) 8 && Nat.ble (ym_sl as).length (xm_n k2)) (ym_Go sc P ((k, pc, L, rest) :: K) (k2, 0, ym_ent (xm_n k2) as, []) s)
def ym_spc (k pc : Nat) (L : ym_L) (st : List ym_V) (s : ym_S) (go : ym_G) (q : Option (Nat × Nat × Nat)) : Prop := match q with
  | some (7, _, _) => (match st with
    | .inr (some _) :: r => ym_ck (Nat.ble (ym_wt r) 8) (go none L r s)
    | _ => False)
  | some (3, k2, z) => (match st.drop z with
    | .inr (some (b, c)) :: r => ym_ck (Nat.ble z st.length) (ym_cl sc P K k pc L k2 (.inr (some (b, c)) :: (st.take z).reverse) r s)
    | _ => False)
  | some (13, k2, z) => (match st.drop z with
    | .inr (some (b, c)) :: r => ym_ck (Nat.ble z st.length) (ym_cl sc P K k pc L k2 (.inr (some (b, c)) :: (st.take z).reverse) r s)
    | _ => False)
  | _ => False
def ym_sta (k pc : Nat) (L : ym_L) (st : List ym_V) (s : ym_S) (go : ym_G) (q : Option (Nat × Nat × Nat)) : Prop := match q with
  | some (8, _, _) => (match st with
    | .inl (.inl n) :: .inl (.inl dp) :: .inr (some (bd, d)) :: .inl (.inl sp) :: .inr (some (ba, a)) :: r => ym_ar s ba a 0 (fun n0 => ym_ar s bd d 0 (fun n1 => (0 ≤ sp ∧ 0 ≤ dp ∧ 0 ≤ n ∧ sp + n ≤ (n0 : Int) ∧ dp + n ≤ (n1 : Int)) ∧ ym_ck (Nat.ble (ym_wt r) 8) (go none L r (ym_cpy s a d sp dp n))))
    | _ => False)
  | some (9, _, _) => (match st with
    | .inl (.inl y) :: .inl (.inl x) :: r => ym_in x ∧ ym_in y ∧ ym_ck (Nat.ble (ym_wt r) 8) (go none L (ym_I (if x < y then y else x) :: r) s)
    | _ => False)
  | some (10, _, _) => (match st with
    | .inl (.inl y) :: .inl (.inl x) :: r => ym_in x ∧ ym_in y ∧ ym_ck (Nat.ble (ym_wt r) 8) (go none L (ym_I (if y < x then y else x) :: r) s)
    | _ => False)
  | some (2, k2, z) => ym_ck (Nat.ble z st.length) (ym_cl sc P K k pc L k2 (st.take z).reverse (st.drop z) s)
  | some (12, k2, z) => ym_ck (Nat.ble z st.length) (ym_cl sc P K k pc L k2 (st.take z).reverse (st.drop z) s)
  | _ => False
def ym_vir (k pc : Nat) (L : ym_L) (st : List ym_V) (s : ym_S) (q : Option (Nat × Nat × Nat)) : Prop := match q with
  | some (1, k2, z) => (match st.drop z with
    | .inr (some (b, c)) :: r => ym_ob s b c (xm_rc k2 + 4) (ym_ck (Nat.ble z st.length) (ym_cl sc P K k pc L k2 (.inr (some (b, c)) :: (st.take z).reverse) r s))
    | _ => False)
  | _ => False
def ym_new (k : Nat) (L : ym_L) (st : List ym_V) (s : ym_S) (go : ym_G) (q : Option (Nat × Nat × Nat)) : Prop := match q with
  | some (4, ci, _) => go none L (ym_Q (ym_n s) :: st) (ym_mk s (ci + 4) 0 (xm_siz ci))
  | some (5, x, _) => ym_ck (Nat.ble (ym_wt st) 8 && !Nat.beq k 134) (ym_Ex sc P K x (ym_ex s))
  | _ => False
def ym_ire (k : Nat) (st : List ym_V) (s : ym_S) : Prop := match st, xm_r k with
  | [.inl (.inl x)], some .int => ym_Rt sc P K (some (ym_I x)) s
  | [.inl (.inl x)], some .boolean => (x = 0 ∨ x = 1) ∧ ym_Rt sc P K (some (ym_I x)) s
  | _, _ => False
def ym_x (k pc : Nat) (i : ClassFile.Instr) (m : Nat) (L : ym_L) (st : List ym_V) (s : ym_S) (go : ym_G) : Prop := match i, m with
  | .iconst a, 1 => go none L (ym_I a :: st) s
  | .bipush a, 2 => ym_ck (decide (-128 ≤ a) && decide (a < 128)) (go none L (ym_I a :: st) s)
  | .sipush a, 3 => ym_ck (decide (-32768 ≤ a) && decide (a < 32768)) (go none L (ym_I a :: st) s)
  | .lconst a, 1 => go none L (ym_J (Int64.ofNat (a : Nat)) :: st) s
  | .aconst_null, 1 => go none L (ym_N :: st) s
  | .ldc a, 2 => (match ym_ki k a with
    | some v => go none L (ym_I v :: st) s
    | none => False)
  | .ldc2_w a, 3 => (match xm_kl k a with
    | some v => go none L (ym_J v :: st) s
    | none => False)
  | .iload_n a, 1 => ym_ilo L st s go a
  | .iload a, 2 => ym_ilo L st s go a
  | .lload_n a, 1 => ym_llo L st s go a
  | .lload a, 2 => ym_llo L st s go a
  | .aload_n a, 1 => ym_alo L st s go a
  | .aload a, 2 => ym_alo L st s go a
  | .istore_n a, 1 => ym_ist L st s go a
  | .istore a, 2 => ym_ist L st s go a
  | .lstore_n a, 1 => ym_lst L st s go a
  | .astore_n a, 1 => ym_ast L st s go a
  | .astore a, 2 => ym_ast L st s go a
  | .iinc a z, 3 => ym_inc L st s go a z
  | .iadd, 1 => ym_b2 L st s go (fun x y => x + y)
  | .isub, 1 => ym_b2 L st s go (fun x y => x - y)
  | .imul, 1 => ym_b2 L st s go (fun x y => x * y)
  | .iand, 1 => ym_b2 L st s go ym_and
  | .ior, 1 => ym_b2 L st s go ym_or
  | .ishl, 1 => ym_b2 L st s go ym_shl
  | .ishr, 1 => ym_b2 L st s go ym_shr
  | .idiv, 1 => ym_d2 L st s go ym_div
  | .irem, 1 => ym_d2 L st s go ym_rem
  | .ladd, 1 => ym_l2 L st s go (fun x y => x + y)
  | .lmul, 1 => ym_l2 L st s go (fun x y => x * y)
  | .land, 1 => ym_l2 L st s go (fun x y => x &&& y)
  | .lor, 1 => ym_l2 L st s go (fun x y => x ||| y)
  | .lshl, 1 => ym_ls L st s go ym_lshl
  | .lshr, 1 => ym_ls L st s go ym_lshr
  | .lushr, 1 => ym_ls L st s go ym_lus
  | .lcmp, 1 => (match st with
    | .inl (.inr y) :: .inl (.inr x) :: r => go none L (ym_I (ym_cmp x y) :: r) s
    | _ => False)
  | .i2l, 1 => (match st with
    | .inl (.inl x) :: r => go none L (ym_J (ym_i2l x) :: r) s
    | _ => False)
  | .l2i, 1 => (match st with
    | .inl (.inr x) :: r => go none L (ym_I (ym_l2i x) :: r) s
    | _ => False)
  | .dup, 1 => (match st with
    | v :: r => ym_ck (Nat.beq (ym_ct v) 1) (go none L (v :: v :: r) s)
    | _ => False)
  | .dup2, 1 => (match st with
    | v :: w :: r => ym_ck (Nat.beq (ym_ct v) 1 && Nat.beq (ym_ct w) 1) (go none L (v :: w :: v :: w :: r) s)
    | _ => False)
  | .ifCond c off, 3 => (match st with
    | .inl (.inl x) :: r => ym_ck (ym_jk pc off) (ym_br c x 0 (go (some (xm_tg pc off)) L r s) (go none L r s))
    | _ => False)
  | .if_icmp c off, 3 => (match st with
    | .inl (.inl y) :: .inl (.inl x) :: r => ym_ck (ym_jk pc off) (ym_br c x y (go (some (xm_tg pc off)) L r s) (go none L r s))
    | _ => False)
  | .ifnull off, 3 => (match st with
    | .inr none :: r => ym_ck (ym_jk pc off) (go (some (xm_tg pc off)) L r s)
    | .inr (some _) :: r => ym_ck (ym_jk pc off) (go none L r s)
    | _ => False)
  | .ifnonnull off, 3 => (match st with
    | .inr none :: r => ym_ck (ym_jk pc off) (go none L r s)
    | .inr (some _) :: r => ym_ck (ym_jk pc off) (go (some (xm_tg pc off)) L r s)
    | _ => False)
  | .goto off, 3 => ym_ck (ym_jk pc off) (go (some (xm_tg pc off)) L st s)
  | .tableswitch d lo hi offs, _ => ym_sw1 L st s go pc d lo hi offs.toList
  | .lookupswitch d ps, _ => ym_sw2 L st s go pc d ps.toList
  | .getfield a, 3 => ym_gf L st s go (xm_cp k a)
  | .putfield a, 3 => ym_pf L st s go k (xm_cp k a)
  | .iaload, 1 => ym_ald L st s go sc
  | .laload, 1 => ym_lld L st s go
  | .baload, 1 => ym_zld L st s go
  | .aaload, 1 => ym_rld L st s go
  | .iastore, 1 => ym_iat L st s go
  | .lastore, 1 => ym_lat L st s go
  | .bastore, 1 => ym_zat L st s go
  | .aastore, 1 => ym_rat L st s go
  | .arraylength, 1 => ym_len L st s go sc
  | .newarray .int, 2 => ym_nar L st s go 0
  | .newarray .long, 2 => ym_nar L st s go 1
  | .anewarray a, 3 => (match xm_cp k a with
    | some (6, _, _) => ym_nar L st s go 3
    | _ => False)
  | .new a, 3 => ym_new sc P K k L st s go (xm_cp k a)
  | .invokespecial a, 3 => ym_spc sc P K k pc L st s go (xm_cp k a)
  | .invokestatic a, 3 => ym_sta sc P K k pc L st s go (xm_cp k a)
  | .invokevirtual a, 3 => ym_vir sc P K k pc L st s (xm_cp k a)
  | .ireturn, 1 => ym_ire sc P K k st s
  | .areturn, 1 => (match st with
    | [.inr x] => ym_ck (xm_rr k) (ym_Rt sc P K (some (.inr x)) s)
    | _ => False)
  | .return_, 1 => (match st, xm_r k with
    | [], none => ym_Rt sc P K none s
    | _, _ => False)
  | _, _ => False
/-- the code from a place on -/
def ym_from (pc : Nat) : List (Nat × ClassFile.Instr × Nat) → List (Nat × ClassFile.Instr × Nat)
  | [] => []
  | a :: r => bif Nat.beq a.1 pc then a :: r else ym_from pc r
/-- what is left to show at a place of a method: up to the calls, the returns, the jumps back and the places that are cut -/
def ym_wp (k : Nat) (cut : List Nat) : Nat → List (Nat × ClassFile.Instr × Nat) → ym_L → List ym_V → ym_S → Prop
  | 0, _, _, _, _ => False
  | _ + 1, [], _, _, _ => False
  | n + 1, (pc, i, m) :: rest, L, st, s => ym_x sc P K k pc i m L st s (fun t L st s => match t with
    | none => bif cut.elem (pc + m) then ym_Go sc P K (k, pc + m, L, st) s else (match rest with
      | [] => False
      | (pc2, i2, m2) :: r => bif Nat.beq pc2 (pc + m) then ym_wp k cut n ((pc2, i2, m2) :: r) L st s else False)
    | some q => bif cut.elem q || Nat.ble q pc then ym_Go sc P K (k, q, L, st) s else ym_wp k cut n (ym_from q rest) L st s)
end
end
section
/-! The machine over whole numbers: rows of numbers, frames and cells: own work. -/
theorem ym_of {a : Int} (h : ym_in a) : (Int32.ofInt a).toInt = a := Int32.toInt_ofInt_of_le (by have := h.1; omega) (by have := h.2; omega)
theorem ym_toin (x : Int32) : ym_in x.toInt := ⟨by have := x.le_toInt; omega, by have := x.toInt_lt; omega⟩
theorem ym_lt {x y : Int} (hx : ym_in x) (hy : ym_in y) : Int32.ofInt x < Int32.ofInt y ↔ x < y := by rw [Int32.lt_iff_toInt_lt, ym_of hx, ym_of hy]
theorem ym_le {x y : Int} (hx : ym_in x) (hy : ym_in y) : Int32.ofInt x ≤ Int32.ofInt y ↔ x ≤ y := by rw [Int32.le_iff_toInt_le, ym_of hx, ym_of hy]
theorem ym_eq {x y : Int} (hx : ym_in x) (hy : ym_in y) : Int32.ofInt x = Int32.ofInt y ↔ x = y := by rw [← Int32.toInt_inj, ym_of hx, ym_of hy]
theorem ym_of0 : (0 : Int32) = Int32.ofInt 0 := rfl
theorem ym_of1 : (1 : Int32) = Int32.ofInt 1 := rfl
theorem ym_in0 : ym_in 0 := by decide
theorem ym_idx {j : Int} {n : Nat} (h0 : 0 ≤ j) (h1 : j < (n : Int)) (hn : n ≤ 67108864) : ¬ (Int32.ofInt j < 0 ∨ n ≤ (Int32.ofInt j).toNatClampNeg) ∧ (Int32.ofInt j).toNatClampNeg = j.toNat ∧ j.toNat < n ∧ ((j.toNat : Nat) : Int) = j := by
  have hj : ym_in j := ⟨by omega, by omega⟩
  have e : (Int32.ofInt j).toNatClampNeg = j.toNat := by rw [← Int32.toNat_toInt, ym_of hj]
  refine ⟨?_, e, by omega, by omega⟩
  rw [e, ym_of0, ym_lt hj ym_in0]
  omega
theorem ym_bool {x : Int} (h : x = 0 ∨ x = 1) : Int32.ofInt x = 0 ∨ Int32.ofInt x = 1 := by
  rcases h with rfl | rfl
  · exact Or.inl rfl
  · exact Or.inr rfl
theorem ym_and_in (x y : Int) : ym_in (ym_and x y) := ym_toin _
theorem ym_or_in (x y : Int) : ym_in (ym_or x y) := ym_toin _
theorem ym_shl_in (x y : Int) : ym_in (ym_shl x y) := ym_toin _
theorem ym_shr_in (x y : Int) : ym_in (ym_shr x y) := ym_toin _
theorem ym_div_in (x y : Int) : ym_in (ym_div x y) := ym_toin _
theorem ym_rem_in (x y : Int) : ym_in (ym_rem x y) := ym_toin _
theorem ym_l2i_in (x : Int64) : ym_in (ym_l2i x) := ym_toin _
theorem ym_cmp_in (x y : Int64) : ym_in (ym_cmp x y) := by
  unfold ym_cmp
  split
  · decide
  · split <;> decide
theorem ym_cmp_of (x y : Int64) : Int32.ofInt (ym_cmp x y) = lg_cmp x y := by
  unfold ym_cmp lg_cmp
  split
  · rfl
  · split <;> rfl
-- frames
theorem ym_ld_map (L : ym_L) (i : Nat) : xm_ld (ym_ml L) i = (ym_ld L i).map ym_v := by
  unfold xm_ld ym_ld ym_ml
  rw [List.getElem?_map]
  cases L[i]? with
  | none => rfl
  | some o => rfl
theorem ym_set_map (L : ym_L) (i : Nat) (o : Option ym_V) : ym_ml (L.set i o) = (ym_ml L).set i (o.map ym_v) := List.map_set
theorem ym_clr_map (L : ym_L) (i : Nat) : ym_ml (ym_clr L i) = xm_clr (ym_ml L) i := by
  cases i with
  | zero => rfl
  | succ j =>
    unfold ym_clr xm_clr
    dsimp only
    rw [ym_ld_map]
    cases ym_ld L j with
    | none => rfl
    | some v =>
      rcases v with (a | a) | a
      · rfl
      · exact ym_set_map L j none
      · cases a with
        | none => rfl
        | some q => rfl
theorem ym_len_map (L : ym_L) : (ym_ml L).length = L.length := List.length_map _
theorem ym_ct_v (v : ym_V) : (ym_v v).category = ym_ct v := by
  rcases v with (a | a) | a
  · rfl
  · rfl
  · cases a with
    | none => rfl
    | some q => rfl
theorem ym_wt_map : ∀ st : List ym_V, xm_wt (st.map ym_v) = ym_wt st
  | [] => rfl
  | v :: r => by
    have ih := ym_wt_map r
    unfold xm_wt at ih ⊢
    rw [List.map_cons, List.map_cons, List.sum_cons, ih, ym_ct_v]
    rfl
theorem ym_sl_map : ∀ vs : List ym_V, xm_sl (vs.map ym_v) = ym_ml (ym_sl vs)
  | [] => rfl
  | v :: r => by
    have ih := ym_sl_map r
    unfold xm_sl at ih ⊢
    rw [List.map_cons, List.flatMap_cons, ih, ym_ct_v]
    rcases v with (a | a) | a
    · rfl
    · rfl
    · rfl
theorem ym_ent_map (n : Nat) (vs : List ym_V) : xm_ent n (vs.map ym_v) = ym_ml (ym_ent n vs) := by
  unfold xm_ent ym_ent
  rw [ym_sl_map, ym_len_map]
  unfold ym_ml
  rw [List.map_append, List.map_replicate]
  rfl
-- cells
theorem ym_cell_lt {h : xm_H} {i : Nat} {e : xm_E} (hc : xm_cell h i = some e) : i < h.1.length := by
  unfold xm_cell at hc
  cases hq : h.1[i]? with
  | none => rw [hq] at hc; cases hc
  | some o => exact (List.getElem?_eq_some_iff.mp hq).1
theorem ym_cell_put {h : xm_H} {i : Nat} {e : xm_E} (hi : i < h.1.length) : xm_cell (xm_put h i e) i = some e := by
  unfold xm_cell xm_put
  dsimp only
  rw [List.getElem?_set_self hi]
  rfl
theorem ym_cell_ne {h : xm_H} {i j : Nat} {e : xm_E} (hij : j ≠ i) : xm_cell (xm_put h i e) j = xm_cell h j := by
  unfold xm_cell xm_put
  dsimp only
  rw [List.getElem?_set_ne (Ne.symm hij)]
theorem ym_c_some {s : ym_S} {c n t : Nat} {o : Option xm_E} (h : ym_c s c n o t) : ∃ e, o = some e := by
  rcases t with _ | _ | _ | _ | ci
  · obtain ⟨-, f, h, -⟩ := h; exact ⟨_, h⟩
  · obtain ⟨-, f, h, -⟩ := h; exact ⟨_, h⟩
  · obtain ⟨-, f, h, -⟩ := h; exact ⟨_, h⟩
  · obtain ⟨-, f, h, -⟩ := h; exact ⟨_, h⟩
  · obtain ⟨f, h, -⟩ := h; exact ⟨_, h⟩
theorem ym_c_same {s s2 : ym_S} {c n t : Nat} {o : Option xm_E} (h1 : ∀ j, s2.1 c j = s.1 c j) (h2 : ∀ j, s2.2.1 c j = s.2.1 c j) (h3 : ∀ j, s2.2.2.1 c j = s.2.2.1 c j) (h : ym_c s c n o t) : ym_c s2 c n o t := by
  rcases t with _ | _ | _ | _ | ci
  · obtain ⟨a, f, b, d⟩ := h
    exact ⟨a, f, b, fun j hj => by rw [h1]; exact d j hj⟩
  · obtain ⟨a, f, b, d⟩ := h
    exact ⟨a, f, b, fun j hj => by rw [h2]; exact d j hj⟩
  · obtain ⟨a, f, b, d⟩ := h
    exact ⟨a, f, b, fun j hj => by rw [h1]; exact d j hj⟩
  · obtain ⟨a, f, b, d⟩ := h
    exact ⟨a, f, b, fun j hj => by rw [h3]; exact d j hj⟩
  · obtain ⟨f, b, d, e⟩ := h
    refine ⟨f, b, d, fun j v hj => ?_⟩
    rw [e j v hj]
    unfold ym_fv
    rw [h1, h2, h3]
theorem ym_H_lt {s : ym_S} {h : xm_H} {c t n : Nat} (hH : ym_H s h) (hT : ym_T s c = some (t, n)) : c < ym_n s := by
  obtain ⟨⟨h1, -⟩, -, -, -, h2⟩ := hH
  obtain ⟨e, he⟩ := ym_c_some (h2 c t n hT)
  have := ym_cell_lt he
  omega
/-- a cell is written -/
theorem ym_H_put {s s2 : ym_S} {h : xm_H} {c t n : Nat} {e : xm_E} (hH : ym_H s h) (hT : ym_T s c = some (t, n)) (hI : ∀ c' j, ym_in (s2.1 c' j)) (h3 : s2.2.2.2 = s.2.2.2) (hrow : ∀ c', c' ≠ c → (∀ j, s2.1 c' j = s.1 c' j) ∧ (∀ j, s2.2.1 c' j = s.2.1 c' j) ∧ (∀ j, s2.2.2.1 c' j = s.2.2.1 c' j)) (hfix : ym_Fix s2) (hc : ym_c s2 c n (some e) t) : ym_H s2 (xm_put h c e) := by
  have hlt := ym_H_lt hH hT
  obtain ⟨⟨a1, a2⟩, b, d, f, g⟩ := hH
  refine ⟨⟨?_, ?_⟩, hI, ?_, hfix, ?_⟩
  · show (h.1.set c (some e)).length = s2.2.2.2.2.1
    rw [List.length_set, h3]
    exact a1
  · show h.2 = s2.2.2.2.2.2
    rw [h3]
    exact a2
  · intro c' hc' j
    have hc' : s2.2.2.2.2.1 ≤ c' := hc'
    rw [h3] at hc'
    have hne : c' ≠ c := by
      have hc' : ym_n s ≤ c' := hc'
      omega
    obtain ⟨r1, r2, r3⟩ := hrow c' hne
    rw [r1, r2, r3]
    exact d c' hc' j
  · intro c' t' n' hT'
    have hT' : s2.2.2.2.1 c' = some (t', n') := hT'
    rw [h3] at hT'
    by_cases hcc : c' = c
    · subst hcc
      have hT2 : s.2.2.2.1 c' = some (t, n) := hT
      rw [hT2] at hT'
      cases hT'
      rw [ym_cell_put (by have : h.1.length = ym_n s := a1; omega)]
      exact hc
    · rw [ym_cell_ne hcc]
      obtain ⟨r1, r2, r3⟩ := hrow c' hcc
      exact ym_c_same r1 r2 r3 (g c' t' n' hT')
theorem ym_u_ne {α : Type} {I : Nat → Int → α} {c c' : Nat} {j j' : Int} {v : α} (h : c' ≠ c) : ym_u I c j v c' j' = I c' j' := by
  unfold ym_u
  rw [show Nat.beq c' c = false from by rw [← Bool.not_eq_true, Nat.beq_eq]; exact h]
  rfl
theorem ym_u_eq {α : Type} {I : Nat → Int → α} {c : Nat} {j : Int} {v : α} : ym_u I c j v c j = v := by
  unfold ym_u
  rw [show Nat.beq c c = true from Nat.beq_refl c, if_pos rfl]
  rfl
theorem ym_u_jn {α : Type} {I : Nat → Int → α} {c : Nat} {j j' : Int} {v : α} (h : j' ≠ j) : ym_u I c j v c j' = I c j' := by
  unfold ym_u
  rw [show Nat.beq c c = true from Nat.beq_refl c, if_neg h]
  rfl
theorem ym_u_in {I : Nat → Int → Int} {c : Nat} {j v : Int} (h : ∀ c j, ym_in (I c j)) (hv : ym_in v) (c' : Nat) (j' : Int) : ym_in (ym_u I c j v c' j') := by
  unfold ym_u
  cases Nat.beq c' c with
  | false => exact h _ _
  | true =>
    show ym_in (if j' = j then v else I c' j')
    split
    · exact hv
    · exact h _ _
theorem ym_fix_I {s : ym_S} {c : Nat} {j v : Int} (h : ym_Fix s) : ym_Fix (ym_wI s c j v) := h
theorem ym_fix_J {s : ym_S} {c : Nat} {j : Int} {v : Int64} (h : ym_Fix s) : ym_Fix (ym_wJ s c j v) := h
/-- a new cell -/
theorem ym_H_new {s : ym_S} {h : xm_H} {e : xm_E} {t n z : Nat} (hH : ym_H s h) (hc : ym_c s (ym_n s) n (some e) t) : ym_H (ym_mk s t n z) (xm_new h e z) := by
  have hl := fun c t n => ym_H_lt (c := c) (t := t) (n := n) hH
  obtain ⟨⟨a1, a2⟩, b, d, ⟨f1, f2, f3⟩, g⟩ := hH
  have hTn : ∀ c, c ≠ ym_n s → ym_T (ym_mk s t n z) c = ym_T s c := by
    intro c hc
    show (bif Nat.beq c (ym_n s) then some (t, n) else ym_T s c) = _
    rw [show Nat.beq c (ym_n s) = false from by rw [← Bool.not_eq_true, Nat.beq_eq]; exact hc]
    rfl
  refine ⟨⟨?_, ?_⟩, b, fun c hc j => d c (Nat.le_of_succ_le hc) j, ⟨fun c t' hf => ?_, f2, ?_⟩, ?_⟩
  · show (h.1 ++ [some e]).length = _
    rw [List.length_append, a1]
    rfl
  · show h.2 + z = _
    rw [a2]
    rfl
  · have h1 := f1 c t' hf
    rw [hTn c (by have := hl c t'.1 t'.2 h1; omega)]
    exact h1
  · have h1 := hl 1 4 0 (f1 1 (4, 0) rfl)
    rw [hTn 0 (by omega)]
    exact f3
  · intro c t' n' hT
    by_cases hcc : c = ym_n s
    · subst hcc
      have hT : (bif Nat.beq (ym_n s) (ym_n s) then some (t, n) else ym_T s (ym_n s)) = some (t', n') := hT
      rw [show Nat.beq (ym_n s) (ym_n s) = true from Nat.beq_refl _] at hT
      cases hT
      have : xm_cell (xm_new h e z) (ym_n s) = some e := by
        unfold xm_cell xm_new
        dsimp only
        rw [← a1, List.getElem?_append_right (Nat.le_refl _), Nat.sub_self]
        rfl
      rw [this]
      exact hc
    · rw [hTn c hcc] at hT
      have hlt := hl c t' n' hT
      have : xm_cell (xm_new h e z) c = xm_cell h c := by
        unfold xm_cell xm_new
        dsimp only
        rw [List.getElem?_append_left (by rw [a1]; exact hlt)]
      rw [this]
      exact g c t' n' hT
theorem ym_H_ex {s : ym_S} {h : xm_H} (hH : ym_H s h) : ym_H (ym_ex s) (h.1 ++ [none], h.2 + 6) := by
  have hl := fun c t n => ym_H_lt (c := c) (t := t) (n := n) hH
  obtain ⟨⟨a1, a2⟩, b, d, f, g⟩ := hH
  refine ⟨⟨?_, ?_⟩, b, fun c hc j => d c (Nat.le_of_succ_le hc) j, f, ?_⟩
  · show (h.1 ++ [none]).length = _
    rw [List.length_append, a1]
    rfl
  · show h.2 + 6 = _
    rw [a2]
    rfl
  · intro c t' n' hT
    have hlt := hl c t' n' hT
    have : xm_cell (h.1 ++ [none], h.2 + 6) c = xm_cell h c := by
      unfold xm_cell
      dsimp only
      rw [List.getElem?_append_left (by rw [a1]; exact hlt)]
    rw [this]
    exact g c t' n' hT
theorem ym_ck_of {b : Bool} {F : Prop} (h : ym_ck b F) : b = true ∧ F := by
  cases b with
  | true => exact ⟨rfl, h⟩
  | false => exact h.elim
theorem ym_isb_of {s : ym_S} {c t : Nat} (h : ym_isb c t = true) (hf : ym_Fix s) : ∃ n, ym_T s c = some (t, n) := by
  unfold ym_isb at h
  split at h
  · rename_i t' n e
    exact ⟨n, by rw [← Nat.eq_of_beq_eq_true h]; exact hf.1 c _ e⟩
  · cases h
theorem ym_ob_of {s : ym_S} {b : Bool} {c t : Nat} {F : Prop} (h : ym_ob s b c t F) (hf : ym_Fix s) : (∃ n, ym_T s c = some (t, n)) ∧ F := by
  cases b with
  | true =>
    obtain ⟨h1, h2⟩ := ym_ck_of h
    exact ⟨ym_isb_of h1 hf, h2⟩
  | false => exact ⟨⟨_, h.1⟩, h.2⟩
theorem ym_ar_of {s : ym_S} {b : Bool} {c t : Nat} {F : Nat → Prop} (h : ym_ar s b c t F) (hf : ym_Fix s) : ∃ n, ym_T s c = some (t, n) ∧ F n := by
  cases b with
  | true =>
    unfold ym_ar at h
    dsimp only at h
    split at h
    · rename_i t' n e
      obtain ⟨h1, h2⟩ := ym_ck_of h
      exact ⟨n, by rw [← Nat.eq_of_beq_eq_true h1]; exact hf.1 c _ e, h2⟩
    · exact h.elim
  | false => exact h
theorem ym_rq_of {s : ym_S} {c : Nat} {j : Int} {G : ym_V → Prop} (h : ym_rq s c j G) : ∃ w, G w ∧ ym_v w = va_rf (ym_R s c j) := by
  cases hq : ym_R s c j with
  | none => exact ⟨_, h.1 hq, rfl⟩
  | some q => exact ⟨_, h.2 q hq, rfl⟩
theorem ym_rd_of {s : ym_S} {b : Bool} {c j : Nat} {G : ym_V → Prop} (h : ym_rd s b c j G) (hf : ym_Fix s) : ∃ w, G w ∧ ym_v w = va_rf (ym_R s c j) := by
  cases b with
  | false => exact ym_rq_of h
  | true =>
    unfold ym_rd at h
    dsimp only at h
    split at h
    · rename_i r e
      exact ⟨_, h, by rw [hf.2.1 c j r e]; rfl⟩
    · exact ym_rq_of h
theorem ym_fix_R {s : ym_S} {c : Nat} {j : Int} {v : Option Nat} (h : ym_Fix s) (hn : ∀ i r : Nat, (i : Int) = j → ym_fx c i ≠ some r) : ym_Fix (ym_wR s c j v) := by
  refine ⟨h.1, fun c' i r hx => ?_, h.2.2⟩
  show ym_u s.2.2.1 c j v c' i = some r
  by_cases hcc : c' = c
  · subst hcc
    by_cases hij : (i : Int) = j
    · exact absurd hx (hn i r hij)
    · rw [ym_u_jn hij]
      exact h.2.1 c' i r hx
  · rw [ym_u_ne hcc]
    exact h.2.1 c' i r hx
theorem ym_fx_hi {c j : Nat} (h : ym_fb ≤ c) : ym_fx c j = none := by
  unfold ym_fx
  have : ym_fxl.getD c [] = [] := by
    rw [List.getD_eq_getElem?_getD, List.getElem?_eq_none (show ym_fxl.length ≤ c from h)]
    rfl
  rw [this]
  rfl
theorem ym_wo_of {b : Bool} {c j : Nat} {F : Prop} (h : ym_wo b c j F) : (∀ i r : Nat, (i : Int) = (j : Int) → ym_fx c i ≠ some r) ∧ F := by
  cases b with
  | true =>
    obtain ⟨h1, h2⟩ := ym_ck_of h
    refine ⟨fun i r hi hx => ?_, h2⟩
    rw [show i = j by omega] at hx
    rw [hx] at h1
    cases h1
  | false =>
    refine ⟨fun i r hi hx => ?_, h.2⟩
    rw [ym_fx_hi h.1] at hx
    cases hx
theorem ym_woa_of {b : Bool} {c : Nat} {j : Int} {F : Prop} (h : ym_woa b c F) : (∀ i r : Nat, (i : Int) = j → ym_fx c i ≠ some r) ∧ F := by
  cases b with
  | true =>
    obtain ⟨h1, h2⟩ := ym_ck_of h
    refine ⟨fun i r hi hx => ?_, h2⟩
    unfold ym_fx at hx
    rw [List.isEmpty_iff.mp h1] at hx
    cases hx
  | false =>
    refine ⟨fun i r hi hx => ?_, h.2⟩
    rw [ym_fx_hi h.1] at hx
    cases hx
end
section
/-! The machine over whole numbers: its steps are the small machine's: own work. -/
section
variable {sc : xm_S} {P : xm_O → xm_H → Prop} {K : List ym_F} {k pc m q : Nat} {i : ClassFile.Instr} {L L2 : ym_L} {st st2 : List ym_V} {s s2 : ym_S} {h h2 : xm_H} {go : ym_G}
theorem ym_st0 (hi : xm_ins k pc = some (i, m)) : xm_step sc (ym_f (k, pc, L, st)) h = match xm_do sc i m k pc (ym_ml L) (st.map ym_v) h with
    | some q => some (.inl q)
    | none => xm_end i m k pc (st.map ym_v) h := by
  unfold xm_step
  show (match xm_ins k pc with
    | none => none
    | some (i, n) => match xm_do sc i n k pc (ym_ml L) (st.map ym_v) h with
      | some q => some (Sum.inl q)
      | none => xm_end i n k pc (st.map ym_v) h) = _
  rw [hi]
theorem ym_stp (hi : xm_ins k pc = some (i, m)) (hd : xm_do sc i m k pc (ym_ml L) (st.map ym_v) h = some ((k, q, ym_ml L2, st2.map ym_v), h2)) (hH : ym_H s2 h2) (kk : ym_Go sc P K (k, q, L2, st2) s2) : xm_Go sc P (K.map ym_f) (ym_f (k, pc, L, st)) h := by
  refine xm_go_on (f2 := ym_f (k, q, L2, st2)) (h2 := h2) ?_ (kk h2 hH)
  rw [ym_st0 hi, hd]
  rfl
theorem ym_ste {r : xm_R} (hi : xm_ins k pc = some (i, m)) (hd : xm_do sc i m k pc (ym_ml L) (st.map ym_v) h = none) (he : xm_end i m k pc (st.map ym_v) h = some r) : xm_step sc (ym_f (k, pc, L, st)) h = some r := by
  rw [ym_st0 hi, hd]
  exact he
theorem ym_clk {k2 : Nat} {as rest : List ym_V} (hK : K.length < 1000) (hs : xm_step sc (ym_f (k, pc, L, st)) h = some (.inr (.inr (.inr (k2, as.map ym_v, rest.map ym_v))))) (hH : ym_H s h) (kk : ym_Go sc P ((k, pc, L, rest) :: K) (k2, 0, ym_ent (xm_n k2) as, []) s) : xm_Go sc P (K.map ym_f) (ym_f (k, pc, L, st)) h := by
  refine xm_go_cl (by rw [List.length_map]; exact hK) hs ?_
  have h1 := kk h hH
  unfold ym_f at h1
  dsimp only at h1
  rw [← ym_ent_map] at h1
  exact h1
theorem ym_jk_of {off : Int} (h : ym_jk pc off = true) : 0 ≤ (pc : Int) + off := of_decide_eq_true h
theorem ym_rt_cons {g : ym_F} {v : Option ym_V} (kk : ym_Go sc P K (g.1, g.2.1 + 3, g.2.2.1, v.toList ++ g.2.2.2) s) : ym_Rt sc P (g :: K) v s := by
  intro h hH
  obtain ⟨n, o, h2, a, b⟩ := kk h hH
  refine ⟨n, o, h2, ?_, b⟩
  rw [List.length_map] at a ⊢
  have e : (ym_f (g.1, g.2.1 + 3, g.2.2.1, v.toList ++ g.2.2.2)) = ((ym_f g).1, (ym_f g).2.1 + 3, (ym_f g).2.2.1, (v.map ym_v).toList ++ (ym_f g).2.2.2) := by
    unfold ym_f
    cases v with
    | none => rfl
    | some w => rfl
  rw [e] at a
  exact a
theorem ym_ex_cons {g : ym_F} {x : Nat} (hv : xm_vt g.1 g.2.1 = true) (hh : xm_hh g.1 = []) (kk : ym_Ex sc P K x s) : ym_Ex sc P (g :: K) x s := fun h hH => ⟨hv, Or.inl ⟨hh, kk h hH⟩⟩
theorem ym_ex_catch {g : ym_F} {x pc2 j : Nat} (hv : xm_vt g.1 g.2.1 = true) (hh : xm_hh g.1 ≠ []) (hc : xm_cat g.1 g.2.1 x = some (pc2, j)) (kk : ym_Go sc P K (g.1, pc2 + 1, (ym_clr g.2.2.1 j).set j none, []) s) : ym_Ex sc P (g :: K) x s := by
  intro h hH
  obtain ⟨n, o, h2, a, b⟩ := kk h hH
  refine ⟨hv, Or.inr ⟨hh, pc2, j, n, o, h2, hc, ?_, b⟩⟩
  rw [List.length_map] at a ⊢
  have e : ym_f (g.1, pc2 + 1, (ym_clr g.2.2.1 j).set j none, []) = ((ym_f g).1, pc2 + 1, (xm_clr (ym_f g).2.2.1 j).set j none, []) := by
    unfold ym_f
    dsimp only
    rw [ym_set_map, ym_clr_map]
    rfl
  rw [e] at a
  exact a
-- what the instructions ask
abbrev ym_K (sc : xm_S) (P : xm_O → xm_H → Prop) (K : List ym_F) (k pc m : Nat) (go : ym_G) : Prop := ∀ (t : Option Nat) (L : ym_L) (st : List ym_V) (s : ym_S), go t L st s → ym_Go sc P K (k, (match t with
  | none => pc + m
  | some q => q), L, st) s
variable (hi : xm_ins k pc = some (i, m)) (hH : ym_H s h) (hg : ym_K sc P K k pc m go)
theorem ym_k_go {L2 : ym_L} {st2 : List ym_V} (hi : xm_ins k pc = some (i, m)) (hH : ym_H s2 h2) (hg : ym_K sc P K k pc m go) (hd : xm_do sc i m k pc (ym_ml L) (st.map ym_v) h = some ((k, pc + m, ym_ml L2, st2.map ym_v), h2)) (hx : go none L2 st2 s2) : xm_Go sc P (K.map ym_f) (ym_f (k, pc, L, st)) h := ym_stp hi hd hH (hg none L2 st2 s2 hx)
theorem ym_k_jp {L2 : ym_L} {st2 : List ym_V} {q : Nat} (hi : xm_ins k pc = some (i, m)) (hH : ym_H s2 h2) (hg : ym_K sc P K k pc m go) (hd : xm_do sc i m k pc (ym_ml L) (st.map ym_v) h = some ((k, q, ym_ml L2, st2.map ym_v), h2)) (hx : go (some q) L2 st2 s2) : xm_Go sc P (K.map ym_f) (ym_f (k, pc, L, st)) h := ym_stp hi hd hH (hg (some q) L2 st2 s2 hx)
theorem ym_k_ilo {a : Nat} (hx : ym_ilo L st s go a) : ∃ st2, go none L st2 s ∧ ∀ n k pc h, xm_ilo a n k pc (ym_ml L) (st.map ym_v) h = xm_nx k (pc + n) (ym_ml L) (st2.map ym_v) h := by
  unfold ym_ilo at hx
  split at hx
  · rename_i x e
    refine ⟨_, hx, fun n k pc h => ?_⟩
    unfold xm_ilo
    rw [ym_ld_map, e]
    rfl
  · exact hx.elim
theorem ym_k_llo {a : Nat} (hx : ym_llo L st s go a) : ∃ st2, go none L st2 s ∧ ∀ n k pc h, xm_llo a n k pc (ym_ml L) (st.map ym_v) h = xm_nx k (pc + n) (ym_ml L) (st2.map ym_v) h := by
  unfold ym_llo at hx
  split at hx
  · rename_i x e
    refine ⟨_, hx, fun n k pc h => ?_⟩
    unfold xm_llo
    rw [ym_ld_map, e]
    rfl
  · exact hx.elim
theorem ym_k_alo {a : Nat} (hx : ym_alo L st s go a) : ∃ st2, go none L st2 s ∧ ∀ n k pc h, xm_alo a n k pc (ym_ml L) (st.map ym_v) h = xm_nx k (pc + n) (ym_ml L) (st2.map ym_v) h := by
  unfold ym_alo at hx
  split at hx
  · rename_i x e
    refine ⟨_, hx, fun n k pc h => ?_⟩
    unfold xm_alo
    rw [ym_ld_map, e]
    cases x with
    | none => rfl
    | some q => rfl
  · exact hx.elim
theorem ym_k_st1 {a : Nat} {v : ym_V} : ym_ml ((ym_clr L a).set a (some v)) = xm_st1 (ym_ml L) a (ym_v v) := by
  unfold xm_st1
  rw [ym_set_map, ym_clr_map]
  rfl
theorem ym_k_ist {a : Nat} (hx : ym_ist L st s go a) : ∃ L2 st2, go none L2 st2 s ∧ ∀ n k pc h, xm_ist a n k pc (ym_ml L) (st.map ym_v) h = xm_nx k (pc + n) (ym_ml L2) (st2.map ym_v) h := by
  unfold ym_ist at hx
  split at hx
  · rename_i x r
    obtain ⟨h1, h2⟩ := ym_ck_of hx
    refine ⟨_, _, h2, fun n k pc h => ?_⟩
    rw [ym_k_st1]
    exact if_pos (by rw [ym_len_map]; exact Nat.le_of_ble_eq_true h1)
  · exact hx.elim
theorem ym_k_lst {a : Nat} (hx : ym_lst L st s go a) : ∃ L2 st2, go none L2 st2 s ∧ ∀ n k pc h, xm_lst a n k pc (ym_ml L) (st.map ym_v) h = xm_nx k (pc + n) (ym_ml L2) (st2.map ym_v) h := by
  unfold ym_lst at hx
  split at hx
  · rename_i x r
    obtain ⟨h1, h2⟩ := ym_ck_of hx
    refine ⟨_, _, h2, fun n k pc h => ?_⟩
    rw [ym_set_map, ym_set_map, ym_clr_map]
    exact if_pos (by rw [ym_len_map]; exact Nat.le_of_ble_eq_true h1)
  · exact hx.elim
theorem ym_k_ast {a : Nat} (hx : ym_ast L st s go a) : ∃ L2 st2, go none L2 st2 s ∧ ∀ n k pc h, xm_ast a n k pc (ym_ml L) (st.map ym_v) h = xm_nx k (pc + n) (ym_ml L2) (st2.map ym_v) h := by
  unfold ym_ast at hx
  split at hx
  · rename_i x r
    obtain ⟨h1, h2⟩ := ym_ck_of hx
    refine ⟨_, _, h2, fun n k pc h => ?_⟩
    rw [ym_k_st1]
    cases x with
    | none => exact if_pos (by rw [ym_len_map]; exact Nat.le_of_ble_eq_true h1)
    | some q => exact if_pos (by rw [ym_len_map]; exact Nat.le_of_ble_eq_true h1)
  · exact hx.elim
theorem ym_k_inc {a : Nat} {z : Int} (hx : ym_inc L st s go a z) : ∃ L2, go none L2 st s ∧ ∀ k pc h, xm_inc a z k pc (ym_ml L) (st.map ym_v) h = xm_nx k (pc + 3) (ym_ml L2) (st.map ym_v) h := by
  unfold ym_inc at hx
  split at hx
  · rename_i x e
    obtain ⟨h1, h2⟩ := ym_ck_of hx
    refine ⟨_, h2, fun k pc h => ?_⟩
    rw [ym_k_st1]
    unfold xm_inc
    rw [ym_ld_map, e]
    show (if a < (ym_ml L).length then xm_nx k (pc + 3) (xm_st1 (ym_ml L) a (.int (Int32.ofInt x + Int32.ofInt z))) (st.map ym_v) h else none) = _
    rw [if_pos (by rw [ym_len_map]; exact Nat.le_of_ble_eq_true h1), ← Int32.ofInt_add]
    rfl
  · exact hx.elim
theorem ym_k_b2 {o : Int → Int → Int} {o2 : Int32 → Int32 → Int32} (ho : ∀ x y, o2 (Int32.ofInt x) (Int32.ofInt y) = Int32.ofInt (o x y)) (hx : ym_b2 L st s go o) : ∃ st2, go none L st2 s ∧ ∀ k pc h, xm_bi2 o2 k pc (ym_ml L) (st.map ym_v) h = xm_nx k (pc + 1) (ym_ml L) (st2.map ym_v) h := by
  unfold ym_b2 at hx
  split at hx
  · rename_i y x r
    refine ⟨_, hx, fun k pc h => ?_⟩
    show xm_nx k (pc + 1) (ym_ml L) (.int (o2 (Int32.ofInt x) (Int32.ofInt y)) :: r.map ym_v) h = _
    rw [ho]
    rfl
  · exact hx.elim
theorem ym_k_d2 {o : Int → Int → Int} {o2 : Int32 → Int32 → Int32} (ho : ∀ x y, o2 (Int32.ofInt x) (Int32.ofInt y) = Int32.ofInt (o x y)) (hx : ym_d2 L st s go o) : ∃ st2, go none L st2 s ∧ ∀ k pc h, xm_bd2 o2 k pc (ym_ml L) (st.map ym_v) h = xm_nx k (pc + 1) (ym_ml L) (st2.map ym_v) h := by
  unfold ym_d2 at hx
  split at hx
  · rename_i y x r
    obtain ⟨h1, h2⟩ := ym_ck_of hx
    rw [Bool.and_eq_true, decide_eq_true_iff, decide_eq_true_iff] at h1
    refine ⟨_, h2, fun k pc h => ?_⟩
    show (if Int32.ofInt y = 0 then none else xm_nx k (pc + 1) (ym_ml L) (.int (o2 (Int32.ofInt x) (Int32.ofInt y)) :: r.map ym_v) h) = _
    rw [if_neg (by rw [ym_of0, ym_eq ⟨by omega, by omega⟩ ym_in0]; omega), ho]
    rfl
  · exact hx.elim
theorem ym_k_l2 {o : Int64 → Int64 → Int64} (hx : ym_l2 L st s go o) : ∃ st2, go none L st2 s ∧ ∀ k pc h, xm_l2 o k pc (ym_ml L) (st.map ym_v) h = xm_nx k (pc + 1) (ym_ml L) (st2.map ym_v) h := by
  unfold ym_l2 at hx
  split at hx
  · exact ⟨_, hx, fun k pc h => rfl⟩
  · exact hx.elim
theorem ym_k_ls {o : Int64 → Int → Int64} {o2 : Int64 → Int32 → Int64} (ho : ∀ x y, o2 x (Int32.ofInt y) = o x y) (hx : ym_ls L st s go o) : ∃ st2, go none L st2 s ∧ ∀ k pc h, xm_ls o2 k pc (ym_ml L) (st.map ym_v) h = xm_nx k (pc + 1) (ym_ml L) (st2.map ym_v) h := by
  unfold ym_ls at hx
  split at hx
  · rename_i y x r
    refine ⟨_, hx, fun k pc h => ?_⟩
    show xm_nx k (pc + 1) (ym_ml L) (.long (o2 x (Int32.ofInt y)) :: r.map ym_v) h = _
    rw [ho]
    rfl
  · exact hx.elim
theorem ym_k_br {c : ClassFile.Cond} {x y : Int} {T N : Prop} (hx : ym_br c x y T N) : (xm_ic c (Int32.ofInt x) (Int32.ofInt y) = true ∧ T) ∨ (xm_ic c (Int32.ofInt x) (Int32.ofInt y) = false ∧ N) := by
  obtain ⟨hx1, hy1, hc⟩ := hx
  unfold xm_ic
  cases c with
  | eq =>
    dsimp only at hc ⊢
    by_cases e : x = y
    · exact Or.inl ⟨decide_eq_true ((ym_eq hx1 hy1).mpr e), hc.1 e⟩
    · exact Or.inr ⟨decide_eq_false (fun z => e ((ym_eq hx1 hy1).mp z)), hc.2 e⟩
  | ne =>
    dsimp only at hc ⊢
    by_cases e : x = y
    · exact Or.inr ⟨by rw [decide_eq_true ((ym_eq hx1 hy1).mpr e)]; rfl, hc.1 e⟩
    · exact Or.inl ⟨by rw [decide_eq_false (fun z => e ((ym_eq hx1 hy1).mp z))]; rfl, hc.2 e⟩
  | lt =>
    dsimp only at hc ⊢
    by_cases e : x < y
    · exact Or.inl ⟨decide_eq_true ((ym_lt hx1 hy1).mpr e), hc.1 e⟩
    · exact Or.inr ⟨decide_eq_false (fun z => e ((ym_lt hx1 hy1).mp z)), hc.2 (by omega)⟩
  | ge =>
    dsimp only at hc ⊢
    by_cases e : x < y
    · exact Or.inr ⟨decide_eq_false (fun z => absurd ((ym_le hy1 hx1).mp z) (by omega)), hc.1 e⟩
    · exact Or.inl ⟨decide_eq_true ((ym_le hy1 hx1).mpr (by omega)), hc.2 (by omega)⟩
  | gt =>
    dsimp only at hc ⊢
    by_cases e : y < x
    · exact Or.inl ⟨decide_eq_true ((ym_lt hy1 hx1).mpr e), hc.1 e⟩
    · exact Or.inr ⟨decide_eq_false (fun z => e ((ym_lt hy1 hx1).mp z)), hc.2 (by omega)⟩
  | le =>
    dsimp only at hc ⊢
    by_cases e : y < x
    · exact Or.inr ⟨decide_eq_false (fun z => absurd ((ym_le hx1 hy1).mp z) (by omega)), hc.1 e⟩
    · exact Or.inl ⟨decide_eq_true ((ym_le hx1 hy1).mpr (by omega)), hc.2 (by omega)⟩
theorem ym_k_jx {off : Int} {b : Bool} {r : List ym_V} (hj : ym_jk pc off = true) (hx : (b = true ∧ go (some (xm_tg pc off)) L r s) ∨ (b = false ∧ go none L r s)) : ∃ t, go t L r s ∧ ∀ h, xm_jp b k pc off (ym_ml L) (r.map ym_v) h = xm_nx k (match t with
    | none => pc + 3
    | some q => q) (ym_ml L) (r.map ym_v) h := by
  rcases hx with ⟨e, hx⟩ | ⟨e, hx⟩
  · subst e
    exact ⟨_, hx, fun h => if_pos (ym_jk_of hj)⟩
  · subst e
    exact ⟨_, hx, fun h => if_pos (ym_jk_of hj)⟩
end
end
section
/-! The machine over whole numbers: cells read and written: own work. -/
section
variable {sc : xm_S} {P : xm_O → xm_H → Prop} {K : List ym_F} {k pc m q : Nat} {i : ClassFile.Instr} {L L2 : ym_L} {st st2 : List ym_V} {s s2 : ym_S} {h h2 : xm_H} {go : ym_G}
theorem ym_c_ob {ci n c : Nat} {o : Option xm_E} (hc : ym_c s c n o (ci + 4)) : ∃ fs : List Value, o = some (.inr (ci, fs)) ∧ fs.length = (xm_def ci).length ∧ ∀ (j : Nat) (v : Value), fs[j]? = some v → v = ym_fv s ci c j := hc
theorem ym_k_gf {a : Nat} (hx : ym_gf L st s go (xm_cp k a)) (hH : ym_H s h) : ∃ st2, go none L st2 s ∧ xm_gf k pc a (ym_ml L) (st.map ym_v) h = xm_nx k (pc + 3) (ym_ml L) (st2.map ym_v) h := by
  obtain ⟨-, hin, -, hf, hT⟩ := hH
  unfold ym_gf at hx
  split at hx
  · rename_i _ b c r ci j hcp
    obtain ⟨⟨n, h1⟩, hx⟩ := ym_ob_of hx hf
    obtain ⟨h2, hx⟩ := ym_ck_of hx
    obtain ⟨fs, e1, e2, e3⟩ := ym_c_ob (hT c _ n h1)
    have hj : j < fs.length := by rw [e2]; exact Nat.le_of_ble_eq_true h2
    have key : ∀ v, fs[j]? = some v → xm_gf k pc a (ym_ml L) ((.inr (some (b, c)) :: r : List ym_V).map ym_v) h = xm_nx k (pc + 3) (ym_ml L) (v :: r.map ym_v) h := by
      intro v hv
      unfold xm_gf
      rw [hcp]
      show (match xm_cell h c with
        | some (.inr (ci', fs)) => if ci' = ci then (match fs[j]? with
          | some v => xm_nx k (pc + 3) (ym_ml L) (v :: r.map ym_v) h
          | none => none) else none
        | _ => none) = _
      rw [e1]
      dsimp only
      rw [if_pos rfl, hv]
    obtain ⟨v, hv⟩ : ∃ v, fs[j]? = some v := ⟨_, List.getElem?_eq_getElem hj⟩
    have hvv := e3 j v hv
    have hk := key v hv
    unfold ym_fv at hvv
    split at hx
    · rename_i e
      rw [e] at hvv
      exact ⟨_, hx (hin c j), by rw [hk, hvv]; rfl⟩
    · rename_i e
      rw [e] at hvv
      exact ⟨_, hx (hin c j), by rw [hk, hvv]; rfl⟩
    · rename_i e
      rw [e] at hvv
      exact ⟨_, hx, by rw [hk, hvv]; rfl⟩
    · rename_i e
      rw [e] at hvv
      obtain ⟨w, hw1, hw2⟩ := ym_rd_of hx hf
      exact ⟨_, hw1, by rw [hk, hvv, List.map_cons, hw2]; rfl⟩
    · exact hx.elim
  · exact hx.elim
theorem ym_c_set {ci n c j : Nat} {o : Option xm_E} {v : Value} (hrow : ∀ j2 : Nat, j2 ≠ j → ym_fv s2 ci c j2 = ym_fv s ci c j2) (hv : v = ym_fv s2 ci c j) (hc : ym_c s c n o (ci + 4)) : ∃ fs : List Value, o = some (.inr (ci, fs)) ∧ fs.length = (xm_def ci).length ∧ ym_c s2 c n (some (.inr (ci, fs.set j v))) (ci + 4) := by
  obtain ⟨fs, e1, e2, e3⟩ := ym_c_ob hc
  refine ⟨fs, e1, e2, fs.set j v, rfl, by rw [List.length_set]; exact e2, fun j2 w hw => ?_⟩
  by_cases hjj : j2 = j
  · subst hjj
    have hl : j2 < fs.length := by
      have := (List.getElem?_eq_some_iff.mp hw).1
      rw [List.length_set] at this
      exact this
    rw [List.getElem?_set_self hl] at hw
    cases hw
    exact hv
  · rw [List.getElem?_set_ne (Ne.symm hjj)] at hw
    rw [e3 j2 w hw]
    exact (hrow j2 hjj).symm
theorem ym_fk_int {ci j : Nat} (h : ym_fk ci j = 0) : xm_fty ci j = .int := by
  unfold ym_fk at h
  split at h
  · assumption
  · cases h
  · cases h
  · cases h
  · cases h
  · cases h
theorem ym_fk_bool {ci j : Nat} (h : ym_fk ci j = 1) : xm_fty ci j = .boolean := by
  unfold ym_fk at h
  split at h
  · cases h
  · assumption
  · cases h
  · cases h
  · cases h
  · cases h
theorem ym_fk_long {ci j : Nat} (h : ym_fk ci j = 2) : xm_fty ci j = .long := by
  unfold ym_fk at h
  split at h
  · cases h
  · cases h
  · assumption
  · cases h
  · cases h
  · cases h
theorem ym_fk_ref {ci j : Nat} (h : ym_fk ci j = 3) : (∃ x, xm_fty ci j = .object x) ∨ (∃ x, xm_fty ci j = .array x) := by
  unfold ym_fk at h
  split at h
  · cases h
  · cases h
  · cases h
  · exact Or.inl ⟨_, by assumption⟩
  · exact Or.inr ⟨_, by assumption⟩
  · cases h
theorem ym_fv_I {ci c j n : Nat} {v : Int} (hj : n ≠ j) : ym_fv (ym_wI s c j v) ci c n = ym_fv s ci c n := by
  have e : (ym_wI s c j v).1 c n = s.1 c n := ym_u_jn (by omega)
  unfold ym_fv
  rw [e]
  rfl
theorem ym_fv_J {ci c j n : Nat} {v : Int64} (hj : n ≠ j) : ym_fv (ym_wJ s c j v) ci c n = ym_fv s ci c n := by
  have e : (ym_wJ s c j v).2.1 c n = s.2.1 c n := ym_u_jn (by omega)
  unfold ym_fv
  rw [e]
  rfl
theorem ym_fv_R {ci c j n : Nat} {v : Option Nat} (hj : n ≠ j) : ym_fv (ym_wR s c j v) ci c n = ym_fv s ci c n := by
  have e : (ym_wR s c j v).2.2.1 c n = s.2.2.1 c n := ym_u_jn (by omega)
  unfold ym_fv
  rw [e]
  rfl
theorem ym_row_I {c : Nat} {j v : Int} : ∀ c', c' ≠ c → (∀ j2, (ym_wI s c j v).1 c' j2 = s.1 c' j2) ∧ (∀ j2, (ym_wI s c j v).2.1 c' j2 = s.2.1 c' j2) ∧ (∀ j2, (ym_wI s c j v).2.2.1 c' j2 = s.2.2.1 c' j2) := fun c' hc => ⟨fun j2 => ym_u_ne hc, fun j2 => rfl, fun j2 => rfl⟩
theorem ym_row_J {c : Nat} {j : Int} {v : Int64} : ∀ c', c' ≠ c → (∀ j2, (ym_wJ s c j v).1 c' j2 = s.1 c' j2) ∧ (∀ j2, (ym_wJ s c j v).2.1 c' j2 = s.2.1 c' j2) ∧ (∀ j2, (ym_wJ s c j v).2.2.1 c' j2 = s.2.2.1 c' j2) := fun c' hc => ⟨fun j2 => rfl, fun j2 => ym_u_ne hc, fun j2 => rfl⟩
theorem ym_row_R {c : Nat} {j : Int} {v : Option Nat} : ∀ c', c' ≠ c → (∀ j2, (ym_wR s c j v).1 c' j2 = s.1 c' j2) ∧ (∀ j2, (ym_wR s c j v).2.1 c' j2 = s.2.1 c' j2) ∧ (∀ j2, (ym_wR s c j v).2.2.1 c' j2 = s.2.2.1 c' j2) := fun c' hc => ⟨fun j2 => rfl, fun j2 => rfl, fun j2 => ym_u_ne hc⟩
theorem ym_k_pf {a : Nat} (hx : ym_pf L st s go k (xm_cp k a)) (hH : ym_H s h) : ∃ st2 s2 h2, go none L st2 s2 ∧ ym_H s2 h2 ∧ xm_pf k pc a (ym_ml L) (st.map ym_v) h = xm_nx k (pc + 3) (ym_ml L) (st2.map ym_v) h2 := by
  have hH0 := hH
  obtain ⟨-, hin, -, hf, hT⟩ := hH
  unfold ym_pf at hx
  split at hx
  · rename_i _ v b c r ci j hcp
    obtain ⟨⟨n, h1⟩, hx⟩ := ym_ob_of hx hf
    obtain ⟨h2, hx⟩ := ym_ck_of hx
    rw [Bool.and_eq_true] at h2
    obtain ⟨h2, h3⟩ := h2
    have key : ∀ fs, xm_cell h c = some (.inr (ci, fs)) → fs.length = (xm_def ci).length → xm_fit (xm_fty ci j) (ym_v v) = true → xm_pf k pc a (ym_ml L) ((v :: .inr (some (b, c)) :: r : List ym_V).map ym_v) h = xm_nx k (pc + 3) (ym_ml L) (r.map ym_v) (xm_put h c (.inr (ci, fs.set j (ym_v v)))) := by
      intro fs e1 e2 hfit
      unfold xm_pf
      rw [hcp]
      show (match xm_cell h c with
        | some (.inr (ci', fs)) => if ci' = ci ∧ j < fs.length ∧ xm_fit (xm_fty ci j) (ym_v v) = true ∧ xm_pok k ci j = true then xm_nx k (pc + 3) (ym_ml L) (r.map ym_v) (xm_put h c (.inr (ci, fs.set j (ym_v v)))) else none
        | _ => none) = _
      rw [e1]
      dsimp only
      rw [if_pos ⟨rfl, by rw [e2]; exact Nat.le_of_ble_eq_true h2, hfit, h3⟩]
    rcases hfk : ym_fk ci j with _ | _ | _ | _ | z
    · rw [hfk] at hx
      rcases v with (x | x) | (_ | ⟨b2, d⟩)
      · obtain ⟨hx1, hx2⟩ := hx
        obtain ⟨fs, e1, e2, e3⟩ := ym_c_set (s2 := ym_wI s c j x) (j := j) (v := ym_v (ym_I x)) (fun j2 hj => ym_fv_I hj) (by unfold ym_fv; rw [hfk]; show Value.int (Int32.ofInt x) = Value.int (Int32.ofInt (ym_u s.1 c j x c j)); rw [ym_u_eq]) (hT c _ n h1)
        exact ⟨r, _, _, hx2, ym_H_put hH0 h1 (ym_u_in hin hx1) rfl ym_row_I (ym_fix_I hf) e3, key fs e1 e2 (by rw [ym_fk_int hfk]; rfl)⟩
      · exact False.elim hx
      · exact False.elim hx
      · exact False.elim hx
    · rw [hfk] at hx
      rcases v with (x | x) | (_ | ⟨b2, d⟩)
      · obtain ⟨hx1, hx2⟩ := hx
        obtain ⟨fs, e1, e2, e3⟩ := ym_c_set (s2 := ym_wI s c j x) (j := j) (v := ym_v (ym_I x)) (fun j2 hj => ym_fv_I hj) (by unfold ym_fv; rw [hfk]; show Value.int (Int32.ofInt x) = Value.int (Int32.ofInt (ym_u s.1 c j x c j)); rw [ym_u_eq]) (hT c _ n h1)
        refine ⟨r, _, _, hx2, ym_H_put hH0 h1 (ym_u_in hin (by rcases hx1 with rfl | rfl <;> decide)) rfl ym_row_I (ym_fix_I hf) e3, key fs e1 e2 ?_⟩
        rw [ym_fk_bool hfk]
        rcases hx1 with rfl | rfl
        · rfl
        · rfl
      · exact False.elim hx
      · exact False.elim hx
      · exact False.elim hx
    · rw [hfk] at hx
      rcases v with (x | x) | (_ | ⟨b2, d⟩)
      · exact False.elim hx
      · obtain ⟨fs, e1, e2, e3⟩ := ym_c_set (s2 := ym_wJ s c j x) (j := j) (v := ym_v (ym_J x)) (fun j2 hj => ym_fv_J hj) (by unfold ym_fv; rw [hfk]; show Value.long x = Value.long (ym_u s.2.1 c j x c j); rw [ym_u_eq]) (hT c _ n h1)
        exact ⟨r, _, _, hx, ym_H_put hH0 h1 hin rfl ym_row_J (ym_fix_J hf) e3, key fs e1 e2 (by rw [ym_fk_long hfk]; rfl)⟩
      · exact False.elim hx
      · exact False.elim hx
    · rw [hfk] at hx
      rcases v with (x | x) | (_ | ⟨b2, d⟩)
      · exact False.elim hx
      · exact False.elim hx
      · obtain ⟨hn, hx⟩ := ym_wo_of hx
        obtain ⟨fs, e1, e2, e3⟩ := ym_c_set (s2 := ym_wR s c j none) (j := j) (v := ym_v ym_N) (fun j2 hj => ym_fv_R hj) (by unfold ym_fv; rw [hfk]; show Value.null = va_rf (ym_u s.2.2.1 c j none c j); rw [ym_u_eq]; rfl) (hT c _ n h1)
        refine ⟨r, _, _, hx, ym_H_put hH0 h1 hin rfl ym_row_R (ym_fix_R hf hn) e3, key fs e1 e2 ?_⟩
        rcases ym_fk_ref hfk with ⟨x, e⟩ | ⟨x, e⟩
        · rw [e]; rfl
        · rw [e]; rfl
      · obtain ⟨hn, hx⟩ := ym_wo_of hx
        obtain ⟨fs, e1, e2, e3⟩ := ym_c_set (s2 := ym_wR s c j (some d)) (j := j) (v := ym_v (.inr (some (b2, d)))) (fun j2 hj => ym_fv_R hj) (by unfold ym_fv; rw [hfk]; show Value.ref d = va_rf (ym_u s.2.2.1 c j (some d) c j); rw [ym_u_eq]; rfl) (hT c _ n h1)
        refine ⟨r, _, _, hx, ym_H_put hH0 h1 hin rfl ym_row_R (ym_fix_R hf hn) e3, key fs e1 e2 ?_⟩
        rcases ym_fk_ref hfk with ⟨x, e⟩ | ⟨x, e⟩
        · rw [e]; rfl
        · rw [e]; rfl
    · rw [hfk] at hx
      exact False.elim hx
  · exact hx.elim
-- arrays
theorem ym_k_ald (hx : ym_ald L st s go sc) (hsc : sc.1 ≤ 67108864) (hH : ym_H s h) : ∃ st2, go none L st2 s ∧ xm_iald sc k pc (ym_ml L) (st.map ym_v) h = xm_nx k (pc + 1) (ym_ml L) (st2.map ym_v) h := by
  obtain ⟨-, hin, -, hf, hT⟩ := hH
  unfold ym_ald at hx
  split at hx
  · rename_i j r
    obtain ⟨⟨h0, h1⟩, hx⟩ := hx
    obtain ⟨e1, e2, -, -⟩ := ym_idx h0 h1 hsc
    refine ⟨_, hx, (if_neg e1).trans ?_⟩
    rw [e2]
    show xm_nx k (pc + 1) (ym_ml L) (.int (sc.2 j.toNat) :: r.map ym_v) h = xm_nx k (pc + 1) (ym_ml L) (.int (Int32.ofInt (sc.2 j.toNat).toInt) :: r.map ym_v) h
    rw [Int32.ofInt_toInt]
  · rename_i j b c r hne
    obtain ⟨n, h1, ⟨g0, g1⟩, hx⟩ := ym_ar_of hx hf
    obtain ⟨hn, f, e0, e3⟩ := hT c _ n h1
    obtain ⟨e1, e2, e4, e5⟩ := ym_idx g0 g1 hn
    refine ⟨_, hx (hin c j), ?_⟩
    have hc0 : c ≠ 0 := by
      rintro rfl
      cases b with
      | true => exact hne rfl rfl
      | false =>
        rw [hf.2.2] at h1
        cases h1
    show (if c = 0 then _ else match xm_cell h c with
      | some (.inl (0, n, .inl f)) => if Int32.ofInt j < 0 ∨ n ≤ (Int32.ofInt j).toNatClampNeg then none else xm_nx k (pc + 1) (ym_ml L) (.int (f (Int32.ofInt j).toNatClampNeg) :: r.map ym_v) h
      | _ => none) = _
    rw [if_neg hc0, e0]
    exact (if_neg e1).trans (by rw [e2, e3 _ e4, e5]; rfl)
  · exact hx.elim
theorem ym_k_zld (hx : ym_zld L st s go) (hH : ym_H s h) : ∃ st2, go none L st2 s ∧ xm_zald k pc (ym_ml L) (st.map ym_v) h = xm_nx k (pc + 1) (ym_ml L) (st2.map ym_v) h := by
  obtain ⟨-, hin, -, hf, hT⟩ := hH
  unfold ym_zld at hx
  split at hx
  · rename_i j b c r
    obtain ⟨n, h1, ⟨g0, g1⟩, hx⟩ := ym_ar_of hx hf
    obtain ⟨hn, f, e0, e3⟩ := hT c _ n h1
    obtain ⟨e1, e2, e4, e5⟩ := ym_idx g0 g1 hn
    refine ⟨_, hx (hin c j), ?_⟩
    show (match xm_cell h c with
      | some (.inl (2, n, .inl f)) => if Int32.ofInt j < 0 ∨ n ≤ (Int32.ofInt j).toNatClampNeg then none else xm_nx k (pc + 1) (ym_ml L) (.int (f (Int32.ofInt j).toNatClampNeg) :: r.map ym_v) h
      | _ => none) = _
    rw [e0]
    exact (if_neg e1).trans (by rw [e2, e3 _ e4, e5]; rfl)
  · exact hx.elim
theorem ym_k_lld (hx : ym_lld L st s go) (hH : ym_H s h) : ∃ st2, go none L st2 s ∧ xm_lald k pc (ym_ml L) (st.map ym_v) h = xm_nx k (pc + 1) (ym_ml L) (st2.map ym_v) h := by
  obtain ⟨-, hin, -, hf, hT⟩ := hH
  unfold ym_lld at hx
  split at hx
  · rename_i j b c r
    obtain ⟨n, h1, ⟨g0, g1⟩, hx⟩ := ym_ar_of hx hf
    obtain ⟨hn, f, e0, e3⟩ := hT c _ n h1
    obtain ⟨e1, e2, e4, e5⟩ := ym_idx g0 g1 hn
    refine ⟨_, hx, ?_⟩
    show (match xm_cell h c with
      | some (.inl (1, n, .inr (.inl f))) => if Int32.ofInt j < 0 ∨ n ≤ (Int32.ofInt j).toNatClampNeg then none else xm_nx k (pc + 1) (ym_ml L) (.long (f (Int32.ofInt j).toNatClampNeg) :: r.map ym_v) h
      | _ => none) = _
    rw [e0]
    exact (if_neg e1).trans (by rw [e2, e3 _ e4, e5]; rfl)
  · exact hx.elim
theorem ym_k_rld (hx : ym_rld L st s go) (hH : ym_H s h) : ∃ st2, go none L st2 s ∧ xm_aald k pc (ym_ml L) (st.map ym_v) h = xm_nx k (pc + 1) (ym_ml L) (st2.map ym_v) h := by
  obtain ⟨-, hin, -, hf, hT⟩ := hH
  unfold ym_rld at hx
  split at hx
  · rename_i j b c r
    obtain ⟨n, h1, ⟨g0, g1⟩, hx⟩ := ym_ar_of hx hf
    obtain ⟨hn, f, e0, e3⟩ := hT c _ n h1
    obtain ⟨e1, e2, e4, e5⟩ := ym_idx g0 g1 hn
    obtain ⟨w, hw1, hw2⟩ := ym_rq_of hx
    refine ⟨_, hw1, ?_⟩
    show (match xm_cell h c with
      | some (.inl (3, n, .inr (.inr f))) => if Int32.ofInt j < 0 ∨ n ≤ (Int32.ofInt j).toNatClampNeg then none else xm_nx k (pc + 1) (ym_ml L) (va_rf (f (Int32.ofInt j).toNatClampNeg) :: r.map ym_v) h
      | _ => none) = _
    rw [e0]
    exact (if_neg e1).trans (by rw [e2, e3 _ e4, e5, List.map_cons, hw2])
  · exact hx.elim
theorem ym_wI_row {c n : Nat} {j v : Int} {f : Nat → Int32} (h0 : 0 ≤ j) (h1 : j < (n : Int)) (hf : ∀ i : Nat, i < n → f i = Int32.ofInt (s.1 c i)) : ∀ i : Nat, i < n → upd f j.toNat (Int32.ofInt v) i = Int32.ofInt ((ym_wI s c j v).1 c i) := by
  intro i hi
  unfold upd
  show _ = Int32.ofInt (ym_u s.1 c j v c i)
  by_cases e : i = j.toNat
  · rw [if_pos e, show (i : Int) = j by omega, ym_u_eq]
  · rw [if_neg e, ym_u_jn (by omega)]
    exact hf i hi
theorem ym_k_iat (hx : ym_iat L st s go) (hH : ym_H s h) : ∃ st2 s2 h2, go none L st2 s2 ∧ ym_H s2 h2 ∧ xm_iast k pc (ym_ml L) (st.map ym_v) h = xm_nx k (pc + 1) (ym_ml L) (st2.map ym_v) h2 := by
  have hH0 := hH
  obtain ⟨-, hin, -, hf, hT⟩ := hH
  unfold ym_iat at hx
  split at hx
  · rename_i x j b c r
    obtain ⟨n, h1, ⟨g0, g1⟩, hx1, hx⟩ := ym_ar_of hx hf
    obtain ⟨hn, f, e0, e3⟩ := hT c _ n h1
    obtain ⟨e1, e2, e4, e5⟩ := ym_idx g0 g1 hn
    refine ⟨_, _, _, hx, ym_H_put hH0 h1 (ym_u_in hin hx1) rfl ym_row_I (ym_fix_I hf) ⟨hn, _, rfl, ym_wI_row g0 g1 e3⟩, ?_⟩
    show (match xm_cell h c with
      | some (.inl (0, n, .inl f)) => if Int32.ofInt j < 0 ∨ n ≤ (Int32.ofInt j).toNatClampNeg then none else xm_nx k (pc + 1) (ym_ml L) (r.map ym_v) (xm_put h c (.inl (0, n, .inl (upd f (Int32.ofInt j).toNatClampNeg (Int32.ofInt x)))))
      | _ => none) = _
    rw [e0]
    exact (if_neg e1).trans (by rw [e2])
  · exact hx.elim
theorem ym_k_zat (hx : ym_zat L st s go) (hH : ym_H s h) : ∃ st2 s2 h2, go none L st2 s2 ∧ ym_H s2 h2 ∧ xm_zast k pc (ym_ml L) (st.map ym_v) h = xm_nx k (pc + 1) (ym_ml L) (st2.map ym_v) h2 := by
  have hH0 := hH
  obtain ⟨-, hin, -, hf, hT⟩ := hH
  unfold ym_zat at hx
  split at hx
  · rename_i x j b c r
    obtain ⟨n, h1, ⟨g0, g1⟩, hx1, hx⟩ := ym_ar_of hx hf
    obtain ⟨hn, f, e0, e3⟩ := hT c _ n h1
    obtain ⟨e1, e2, e4, e5⟩ := ym_idx g0 g1 hn
    refine ⟨_, _, _, hx, ym_H_put hH0 h1 (ym_u_in hin (by rcases hx1 with rfl | rfl <;> decide)) rfl ym_row_I (ym_fix_I hf) ⟨hn, _, rfl, ym_wI_row g0 g1 e3⟩, ?_⟩
    show (match xm_cell h c with
      | some (.inl (2, n, .inl f)) => if (Int32.ofInt j < 0 ∨ n ≤ (Int32.ofInt j).toNatClampNeg) ∨ ¬ (Int32.ofInt x = 0 ∨ Int32.ofInt x = 1) then none else xm_nx k (pc + 1) (ym_ml L) (r.map ym_v) (xm_put h c (.inl (2, n, .inl (upd f (Int32.ofInt j).toNatClampNeg (Int32.ofInt x)))))
      | _ => none) = _
    rw [e0]
    exact (if_neg (fun z => z.elim e1 (fun z => z (ym_bool hx1)))).trans (by rw [e2])
  · exact hx.elim
theorem ym_k_lat (hx : ym_lat L st s go) (hH : ym_H s h) : ∃ st2 s2 h2, go none L st2 s2 ∧ ym_H s2 h2 ∧ xm_last k pc (ym_ml L) (st.map ym_v) h = xm_nx k (pc + 1) (ym_ml L) (st2.map ym_v) h2 := by
  have hH0 := hH
  obtain ⟨-, hin, -, hf, hT⟩ := hH
  unfold ym_lat at hx
  split at hx
  · rename_i x j b c r
    obtain ⟨n, h1, ⟨g0, g1⟩, hx⟩ := ym_ar_of hx hf
    obtain ⟨hn, f, e0, e3⟩ := hT c _ n h1
    obtain ⟨e1, e2, e4, e5⟩ := ym_idx g0 g1 hn
    refine ⟨_, _, _, hx, ym_H_put hH0 h1 hin rfl ym_row_J (ym_fix_J hf) ⟨hn, vp_updL f j.toNat x, rfl, fun i hi => ?_⟩, ?_⟩
    · unfold vp_updL
      show _ = ym_u s.2.1 c j x c i
      by_cases e : i = j.toNat
      · rw [if_pos e, show (i : Int) = j by omega, ym_u_eq]
      · rw [if_neg e, ym_u_jn (by omega)]
        exact e3 i hi
    · show (match xm_cell h c with
        | some (.inl (1, n, .inr (.inl f))) => if Int32.ofInt j < 0 ∨ n ≤ (Int32.ofInt j).toNatClampNeg then none else xm_nx k (pc + 1) (ym_ml L) (r.map ym_v) (xm_put h c (.inl (1, n, .inr (.inl (vp_updL f (Int32.ofInt j).toNatClampNeg x)))))
        | _ => none) = _
      rw [e0]
      exact (if_neg e1).trans (by rw [e2])
  · exact hx.elim
theorem ym_k_rat (hx : ym_rat L st s go) (hH : ym_H s h) : ∃ st2 s2 h2, go none L st2 s2 ∧ ym_H s2 h2 ∧ xm_aast k pc (ym_ml L) (st.map ym_v) h = xm_nx k (pc + 1) (ym_ml L) (st2.map ym_v) h2 := by
  have hH0 := hH
  obtain ⟨-, hin, -, hf, hT⟩ := hH
  unfold ym_rat at hx
  split at hx
  · rename_i b2 v j b c r
    obtain ⟨n, h1, ⟨g0, g1⟩, hx⟩ := ym_ar_of hx hf
    obtain ⟨⟨n2, h2⟩, hx⟩ := ym_ob_of hx hf
    obtain ⟨hw, hx⟩ := ym_woa_of (j := j) hx
    obtain ⟨hn, f, e0, e3⟩ := hT c _ n h1
    obtain ⟨fs, d1, -, -⟩ := ym_c_ob (ci := 1) (hT v _ n2 h2)
    obtain ⟨e1, e2, e4, e5⟩ := ym_idx g0 g1 hn
    refine ⟨_, _, _, hx, ym_H_put hH0 h1 hin rfl ym_row_R (ym_fix_R hf hw) ⟨hn, va_up f j.toNat (some v), rfl, fun i hi => ?_⟩, ?_⟩
    · unfold va_up
      show _ = ym_u s.2.2.1 c j (some v) c i
      by_cases e : i = j.toNat
      · rw [if_pos e, show (i : Int) = j by omega, ym_u_eq]
      · rw [if_neg e, ym_u_jn (by omega)]
        exact e3 i hi
    · show (match xm_cell h c, xm_cell h v with
        | some (.inl (3, n, .inr (.inr f))), some (.inr (ci, _)) => if (Int32.ofInt j < 0 ∨ n ≤ (Int32.ofInt j).toNatClampNeg) ∨ ¬ ci = xm_elt then none else xm_nx k (pc + 1) (ym_ml L) (r.map ym_v) (xm_put h c (.inl (3, n, .inr (.inr (va_up f (Int32.ofInt j).toNatClampNeg (some v))))))
        | _, _ => none) = _
      rw [e0, d1]
      exact (if_neg (fun z => z.elim e1 (fun z => z rfl))).trans (by rw [e2])
  · exact hx.elim
theorem ym_k_len (hx : ym_len L st s go sc) (hH : ym_H s h) : ∃ st2, go none L st2 s ∧ xm_len sc k pc (ym_ml L) (st.map ym_v) h = xm_nx k (pc + 1) (ym_ml L) (st2.map ym_v) h := by
  obtain ⟨-, hin, -, hf, hT⟩ := hH
  unfold ym_len at hx
  split at hx
  · rename_i r
    refine ⟨_, hx, ?_⟩
    show xm_nx k (pc + 1) (ym_ml L) (.int (Int32.ofNat sc.1) :: r.map ym_v) h = xm_nx k (pc + 1) (ym_ml L) (.int (Int32.ofInt (sc.1 : Int)) :: r.map ym_v) h
    rw [Int32.ofInt_eq_ofNat]
  · rename_i b c r hne
    obtain ⟨n, h1, hx⟩ := ym_ar_of hx hf
    obtain ⟨hn, f, e0, e3⟩ := hT c _ n h1
    refine ⟨_, hx, ?_⟩
    have hc0 : c ≠ 0 := by
      rintro rfl
      cases b with
      | true => exact hne rfl rfl
      | false =>
        rw [hf.2.2] at h1
        cases h1
    refine (if_neg hc0).trans ?_
    rw [e0]
    show xm_nx k (pc + 1) (ym_ml L) (.int (Int32.ofNat n) :: r.map ym_v) h = xm_nx k (pc + 1) (ym_ml L) (.int (Int32.ofInt (n : Int)) :: r.map ym_v) h
    rw [Int32.ofInt_eq_ofNat]
  · exact hx.elim
theorem ym_nsz {n : Int} (h : 0 ≤ n ∧ n ≤ 67108864) : ¬ (Int32.ofInt n < 0 ∨ 67108864 < (Int32.ofInt n).toNatClampNeg) ∧ (Int32.ofInt n).toNatClampNeg = n.toNat := by
  have hj : ym_in n := ⟨by omega, by omega⟩
  have e : (Int32.ofInt n).toNatClampNeg = n.toNat := by rw [← Int32.toNat_toInt, ym_of hj]
  refine ⟨?_, e⟩
  rw [e, ym_of0, ym_lt hj ym_in0]
  omega
theorem ym_k_na0 (hx : ym_nar L st s go 0) (hH : ym_H s h) : ∃ st2 s2 h2, go none L st2 s2 ∧ ym_H s2 h2 ∧ xm_nar .int k pc (ym_ml L) (st.map ym_v) h = xm_nx k (pc + 2) (ym_ml L) (st2.map ym_v) h2 := by
  have hz := hH.2.2.1 (ym_n s) (Nat.le_refl _)
  have hl := hH.1.1
  unfold ym_nar at hx
  split at hx
  · rename_i n r
    obtain ⟨h0, hx⟩ := hx
    obtain ⟨e1, e2⟩ := ym_nsz h0
    refine ⟨_, _, _, hx, ym_H_new (e := .inl (0, n.toNat, .inl (fun _ => 0))) hH ⟨by omega, _, rfl, fun j hj => by rw [(hz j).1]; rfl⟩, (if_neg e1).trans ?_⟩
    rw [e2, hl]
    rfl
  · exact hx.elim
theorem ym_k_na1 (hx : ym_nar L st s go 1) (hH : ym_H s h) : ∃ st2 s2 h2, go none L st2 s2 ∧ ym_H s2 h2 ∧ xm_nar .long k pc (ym_ml L) (st.map ym_v) h = xm_nx k (pc + 2) (ym_ml L) (st2.map ym_v) h2 := by
  have hz := hH.2.2.1 (ym_n s) (Nat.le_refl _)
  have hl := hH.1.1
  unfold ym_nar at hx
  split at hx
  · rename_i n r
    obtain ⟨h0, hx⟩ := hx
    obtain ⟨e1, e2⟩ := ym_nsz h0
    refine ⟨_, _, _, hx, ym_H_new (e := .inl (1, n.toNat, .inr (.inl (fun _ => 0)))) hH ⟨by omega, _, rfl, fun j hj => by rw [(hz j).2.1]⟩, (if_neg e1).trans ?_⟩
    rw [e2, hl]
    rfl
  · exact hx.elim
theorem ym_k_na3 {a x y : Nat} (hc : xm_cp k a = some (6, x, y)) (hx : ym_nar L st s go 3) (hH : ym_H s h) : ∃ st2 s2 h2, go none L st2 s2 ∧ ym_H s2 h2 ∧ xm_anw k pc a (ym_ml L) (st.map ym_v) h = xm_nx k (pc + 3) (ym_ml L) (st2.map ym_v) h2 := by
  have hz := hH.2.2.1 (ym_n s) (Nat.le_refl _)
  have hl := hH.1.1
  unfold ym_nar at hx
  split at hx
  · rename_i n r
    obtain ⟨h0, hx⟩ := hx
    obtain ⟨e1, e2⟩ := ym_nsz h0
    refine ⟨_, _, _, hx, ym_H_new (e := .inl (3, n.toNat, .inr (.inr (fun _ => none)))) hH ⟨by omega, _, rfl, fun j hj => by rw [(hz j).2.2]⟩, ?_⟩
    unfold xm_anw
    rw [hc]
    refine (if_neg e1).trans ?_
    rw [e2, hl]
    rfl
  · exact hx.elim
end
end
section
/-! The machine over whole numbers: what is left to show at a place suffices: own work. -/
def ym_dv (q : Nat) : Value := match q with
  | 2 => .long 0
  | 3 => .null
  | _ => .int 0
theorem ym_def_ok : ∀ ci : Nat, xm_def ci = (List.range (xm_def ci).length).map (fun j => ym_dv (ym_fk ci j))
  | 0 => rfl
  | 1 => rfl
  | 2 => rfl
  | 3 => rfl
  | 4 => rfl
  | 5 => rfl
  | _ + 6 => rfl
def ym_thr (k : Nat) (a : Nat × ClassFile.Instr × Nat) : Bool := match a.2.1 with
  | .new b => (match xm_cp k b with
    | some (5, _, ic) => decide (xm_ins k (a.1 + 3) = some (.dup, 1) ∧ xm_ins k (a.1 + 4) = some (.invokespecial ic, 3) ∧ xm_ins k (a.1 + 7) = some (.athrow, 1))
    | _ => true)
  | _ => true
def ym_srt : List (Nat × ClassFile.Instr × Nat) → Bool
  | [] => true
  | [_] => true
  | a :: b :: r => Nat.blt a.1 b.1 && ym_srt (b :: r)
set_option maxRecDepth 100000 in
theorem ym_thr_all : (List.range 136).all (fun k => (xm_il.getD k []).all (ym_thr k)) = true := by decide +kernel
set_option maxRecDepth 100000 in
theorem ym_srt_all : (List.range 136).all (fun k => ym_srt (xm_il.getD k [])) = true := by decide +kernel
theorem ym_il_hi {k : Nat} (h : 136 ≤ k) : xm_il.getD k [] = [] := by
  rw [List.getD_eq_getElem?_getD, List.getElem?_eq_none (show xm_il.length ≤ k from h)]
  rfl
theorem ym_thr_of {k pc a x ic m : Nat} (hi : xm_ins k pc = some (.new a, m)) (hc : xm_cp k a = some (5, x, ic)) : xm_ins k (pc + 3) = some (.dup, 1) ∧ xm_ins k (pc + 4) = some (.invokespecial ic, 3) ∧ xm_ins k (pc + 7) = some (.athrow, 1) := by
  have hm := xm_look_in hi
  by_cases hk : k < 136
  · have h1 := List.all_eq_true.mp ym_thr_all k (List.mem_range.mpr hk)
    have h2 := List.all_eq_true.mp h1 _ hm
    unfold ym_thr at h2
    dsimp only at h2
    rw [hc] at h2
    exact of_decide_eq_true h2
  · rw [ym_il_hi (by omega)] at hm
    cases hm
theorem ym_srt_of (k : Nat) : ym_srt (xm_il.getD k []) = true := by
  by_cases hk : k < 136
  · exact List.all_eq_true.mp ym_srt_all k (List.mem_range.mpr hk)
  · rw [ym_il_hi (by omega)]
    rfl
theorem ym_srt_lt : ∀ {l : List (Nat × ClassFile.Instr × Nat)} {a : Nat × ClassFile.Instr × Nat}, ym_srt (a :: l) = true → ∀ b ∈ l, a.1 < b.1
  | [], a, _, b, hb => by cases hb
  | c :: l, a, h, b, hb => by
    unfold ym_srt at h
    rw [Bool.and_eq_true] at h
    have h1 : a.1 < c.1 := Nat.le_of_ble_eq_true h.1
    rcases List.mem_cons.mp hb with rfl | hb
    · exact h1
    · have := ym_srt_lt h.2 b hb
      omega
theorem ym_srt_tl {l : List (Nat × ClassFile.Instr × Nat)} {a : Nat × ClassFile.Instr × Nat} (h : ym_srt (a :: l) = true) : ym_srt l = true := by
  cases l with
  | nil => rfl
  | cons c l =>
    unfold ym_srt at h
    rw [Bool.and_eq_true] at h
    exact h.2
theorem ym_look_suf : ∀ (pre : List (Nat × ClassFile.Instr × Nat)) {pc : Nat} {x : ClassFile.Instr × Nat} {rest : List (Nat × ClassFile.Instr × Nat)}, ym_srt (pre ++ (pc, x) :: rest) = true → xm_look (pre ++ (pc, x) :: rest) pc = some x
  | [], pc, x, rest, _ => by
    show (if pc = pc then some x else _) = _
    rw [if_pos rfl]
  | a :: pre, pc, x, rest, h => by
    have h1 := ym_srt_lt h (pc, x) (List.mem_append_right _ List.mem_cons_self)
    have h1 : a.1 < pc := h1
    show (if a.1 = pc then some a.2 else xm_look (pre ++ (pc, x) :: rest) pc) = _
    rw [if_neg (by omega)]
    exact ym_look_suf pre (ym_srt_tl h)
theorem ym_from_suf (q : Nat) : ∀ l : List (Nat × ClassFile.Instr × Nat), ym_from q l <:+ l
  | [] => List.suffix_refl _
  | a :: r => by
    unfold ym_from
    cases Nat.beq a.1 q with
    | true => exact List.suffix_refl _
    | false => exact (ym_from_suf q r).trans (List.suffix_cons _ _)
theorem ym_from_hd (q : Nat) : ∀ (l : List (Nat × ClassFile.Instr × Nat)) {a : Nat × ClassFile.Instr × Nat} {r : List (Nat × ClassFile.Instr × Nat)}, ym_from q l = a :: r → a.1 = q
  | [], a, r, h => by cases h
  | b :: l, a, r, h => by
    unfold ym_from at h
    cases hb : Nat.beq b.1 q with
    | true =>
      rw [hb] at h
      cases h
      exact Nat.eq_of_beq_eq_true hb
    | false =>
      rw [hb] at h
      exact ym_from_hd q l h
section
variable {sc : xm_S} {P : xm_O → xm_H → Prop} {K : List ym_F} {k pc m q : Nat} {i : ClassFile.Instr} {L L2 : ym_L} {st st2 : List ym_V} {s s2 : ym_S} {h h2 : xm_H} {go : ym_G}
theorem ym_tb_of {G : Int → Prop} : ∀ {offs : List Int} {z x : Int}, ym_tb G offs z x → ∀ (n : Nat) (off : Int), offs[n]? = some off → x = z + n → G off
  | [], z, x, _, n, off, h, _ => by cases h
  | o :: os, z, x, h, 0, off, h1, h2 => by
    cases h1
    exact h.1 (by omega)
  | o :: os, z, x, h, n + 1, off, h1, h2 => ym_tb_of h.2 n off h1 (by omega)
theorem ym_lb_of {G : Int → Prop} {d : Int} : ∀ {ps : List (Int × Int)} {x : Int}, ym_lb G d ps x → G (Op.lookupswitch.offset ps d x)
  | [], x, h => h
  | (z, off) :: r, x, h => by
    show G (if z = x then off else Op.lookupswitch.offset r d x)
    by_cases e : x = z
    · rw [if_pos e.symm]
      exact h.1 e
    · rw [if_neg (fun y => e y.symm)]
      exact ym_lb_of (h.2 e)
theorem ym_k_sw1 {d lo hi : Int} {offs : Array Int} (hx : ym_sw1 L st s go pc d lo hi offs.toList) : ∃ t st2, go (some t) L st2 s ∧ xm_tsw d lo hi offs k pc (ym_ml L) (st.map ym_v) h = xm_nx k t (ym_ml L) (st2.map ym_v) h := by
  unfold ym_sw1 at hx
  split at hx
  · rename_i x r
    obtain ⟨hx1, hx⟩ := hx
    obtain ⟨h1, hx⟩ := ym_ck_of hx
    rw [Bool.and_eq_true] at h1
    obtain ⟨h1, h2⟩ := h1
    have h2 := of_decide_eq_true h2
    show ∃ t st2, _ ∧ (if (Int32.ofInt x).toInt < lo ∨ hi < (Int32.ofInt x).toInt then (if 0 ≤ (pc : Int) + d then xm_nx k (xm_tg pc d) (ym_ml L) (r.map ym_v) h else none) else match offs.toList[((Int32.ofInt x).toInt - lo).toNat]? with
      | some off => if 0 ≤ (pc : Int) + off then xm_nx k (xm_tg pc off) (ym_ml L) (r.map ym_v) h else none
      | none => none) = _
    rw [ym_of hx1]
    by_cases e : x < lo ∨ hi < x
    · exact ⟨_, _, hx.1 e, (if_pos e).trans (if_pos (ym_jk_of h1))⟩
    · obtain ⟨off, ho⟩ : ∃ off, offs.toList[(x - lo).toNat]? = some off := ⟨_, List.getElem?_eq_getElem (by omega)⟩
      obtain ⟨g1, g2⟩ := ym_ck_of (ym_tb_of hx.2 _ off ho (by omega))
      refine ⟨_, _, g2, (if_neg e).trans ?_⟩
      rw [ho]
      exact if_pos (ym_jk_of g1)
  · exact hx.elim
theorem ym_k_sw2 {d : Int} {ps : Array (Int × Int)} (hx : ym_sw2 L st s go pc d ps.toList) : ∃ t st2, go (some t) L st2 s ∧ xm_lsw d ps k pc (ym_ml L) (st.map ym_v) h = xm_nx k t (ym_ml L) (st2.map ym_v) h := by
  unfold ym_sw2 at hx
  split at hx
  · rename_i x r
    obtain ⟨hx1, hx⟩ := hx
    obtain ⟨h1, hx⟩ := ym_ck_of hx
    obtain ⟨g1, g2⟩ := ym_ck_of (ym_lb_of hx)
    refine ⟨_, _, g2, ?_⟩
    show (if (ps.toList.zip (ps.toList.drop 1)).all (fun (a, next) => a.1 < next.1) = true ∧ 0 ≤ (pc : Int) + Op.lookupswitch.offset ps.toList d (Int32.ofInt x).toInt then xm_nx k (xm_tg pc (Op.lookupswitch.offset ps.toList d (Int32.ofInt x).toInt)) (ym_ml L) (r.map ym_v) h else none) = _
    rw [ym_of hx1]
    exact if_pos ⟨h1, ym_jk_of g1⟩
  · exact hx.elim
theorem ym_c_def {ci c : Nat} (hz : ∀ j, s.1 c j = 0 ∧ s.2.1 c j = 0 ∧ s.2.2.1 c j = none) : ym_c s c 0 (some (.inr (ci, xm_def ci))) (ci + 4) := by
  refine ⟨_, rfl, rfl, fun j v hv => ?_⟩
  rw [ym_def_ok, List.getElem?_map] at hv
  obtain ⟨z1, z2, z3⟩ := hz j
  cases hr : (List.range (xm_def ci).length)[j]? with
  | none => rw [hr] at hv; cases hv
  | some w =>
    rw [hr] at hv
    have hw : w = j := by
      obtain ⟨h1, h2⟩ := List.getElem?_eq_some_iff.mp hr
      rw [List.getElem_range] at h2
      exact h2.symm
    subst hw
    cases hv
    show ym_dv (ym_fk ci w) = ym_fv s ci c w
    unfold ym_dv ym_fv
    rw [z1, z2, z3]
    generalize ym_fk ci w = q
    rcases q with _ | _ | _ | _ | q <;> rfl
theorem ym_k_new {a : Nat} (hi : xm_ins k pc = some (.new a, 3)) (hH : ym_H s h) (hg : ym_K sc P K k pc 3 go) (hx : ym_new sc P K k L st s go (xm_cp k a)) : xm_Go sc P (K.map ym_f) (ym_f (k, pc, L, st)) h := by
  unfold ym_new at hx
  split at hx
  · rename_i ci _ hc
    refine ym_k_go hi (ym_H_new hH (ym_c_def (hH.2.2.1 (ym_n s) (Nat.le_refl _)))) hg ?_ hx
    show xm_nob k pc a (ym_ml L) (st.map ym_v) h = _
    unfold xm_nob
    rw [hc]
    show xm_nx k (pc + 3) (ym_ml L) (.ref h.1.length :: st.map ym_v) _ = _
    rw [hH.1.1]
    rfl
  · rename_i x ic hc
    obtain ⟨h1, hx⟩ := ym_ck_of hx
    rw [Bool.and_eq_true] at h1
    obtain ⟨h1, h2⟩ := h1
    have hk : k ≠ 134 := by
      rintro rfl
      cases h2
    obtain ⟨d1, d2, d3⟩ := ym_thr_of hi hc
    refine xm_go_th (x := x) (ym_ste hi ?_ ?_) (hx _ (ym_H_ex hH))
    · show xm_nob k pc a (ym_ml L) (st.map ym_v) h = none
      unfold xm_nob
      rw [hc]
      rfl
    · show (if xm_wt (st.map ym_v) ≤ 8 then xm_thr k pc a h else none) = _
      rw [if_pos (by rw [ym_wt_map]; exact Nat.le_of_ble_eq_true h1)]
      unfold xm_thr
      rw [hc]
      exact if_pos ⟨d1, d2, d3, by unfold xm_hh; rw [if_neg hk]⟩
  · exact hx.elim
theorem ym_k_call {k2 : Nat} {as rest : List ym_V} (hK : K.length < 1000) (hH : ym_H s h) (hx : ym_cl sc P K k pc L k2 as rest s) (hs : xm_wt (rest.map ym_v) ≤ 8 → (xm_sl (as.map ym_v)).length ≤ xm_n k2 → xm_step sc (ym_f (k, pc, L, st)) h = some (.inr (.inr (.inr (k2, as.map ym_v, rest.map ym_v))))) : xm_Go sc P (K.map ym_f) (ym_f (k, pc, L, st)) h := by
  obtain ⟨h1, hx⟩ := ym_ck_of hx
  rw [Bool.and_eq_true] at h1
  exact ym_clk hK (hs (by rw [ym_wt_map]; exact Nat.le_of_ble_eq_true h1.1) (by rw [ym_sl_map, ym_len_map]; exact Nat.le_of_ble_eq_true h1.2)) hH hx
theorem ym_dt (z : Nat) (st : List ym_V) : (st.map ym_v).drop z = (st.drop z).map ym_v ∧ ((st.map ym_v).take z).reverse = (st.take z).reverse.map ym_v ∧ (st.map ym_v).length = st.length := ⟨(List.map_drop).symm, by rw [← List.map_take, List.map_reverse], List.length_map _⟩
theorem ym_k_spc {a : Nat} (hK : K.length < 1000) (hi : xm_ins k pc = some (.invokespecial a, 3)) (hH : ym_H s h) (hg : ym_K sc P K k pc 3 go) (hx : ym_spc sc P K k pc L st s go (xm_cp k a)) : xm_Go sc P (K.map ym_f) (ym_f (k, pc, L, st)) h := by
  unfold ym_spc at hx
  split at hx
  · rename_i hc
    split at hx
    · rename_i b r
      obtain ⟨h1, hx⟩ := ym_ck_of hx
      refine ym_k_go hi hH hg ?_ hx
      show xm_oin k pc a (ym_ml L) ((.inr (some b) :: r : List ym_V).map ym_v) h = _
      unfold xm_oin
      rw [hc]
      exact if_pos (by rw [ym_wt_map]; exact Nat.le_of_ble_eq_true h1)
    · exact hx.elim
  · rename_i k2 z hc
    obtain ⟨e1, e2, e3⟩ := ym_dt z st
    split at hx
    · rename_i b c r hd
      obtain ⟨h1, hx⟩ := ym_ck_of hx
      refine ym_k_call hK hH hx (fun g1 g2 => ym_ste hi ?_ ?_)
      · show xm_oin k pc a (ym_ml L) (st.map ym_v) h = none
        unfold xm_oin
        rw [hc]
        split
        · rename_i _ e
          cases e
        · rfl
      · show (match xm_cp k a with
          | some (3, k2, z) => match (st.map ym_v).drop z with
            | .ref i :: r => if z ≤ (st.map ym_v).length ∧ xm_wt r ≤ 8 ∧ (xm_sl (.ref i :: ((st.map ym_v).take z).reverse)).length ≤ xm_n k2 then (some (Sum.inr (Sum.inr (Sum.inr (k2, .ref i :: ((st.map ym_v).take z).reverse, r)))) : Option xm_R) else none
            | _ => none
          | some (13, k2, z) => match (st.map ym_v).drop z with
            | .ref i :: r => if z ≤ (st.map ym_v).length ∧ xm_wt r ≤ 8 ∧ (xm_sl (.ref i :: ((st.map ym_v).take z).reverse)).length ≤ xm_n k2 then (some (Sum.inr (Sum.inr (Sum.inr (k2, .ref i :: ((st.map ym_v).take z).reverse, r)))) : Option xm_R) else none
            | _ => none
          | _ => none) = _
        rw [hc]
        show (match (st.map ym_v).drop z with
            | .ref i :: r => if z ≤ (st.map ym_v).length ∧ xm_wt r ≤ 8 ∧ (xm_sl (.ref i :: ((st.map ym_v).take z).reverse)).length ≤ xm_n k2 then (some (Sum.inr (Sum.inr (Sum.inr (k2, .ref i :: ((st.map ym_v).take z).reverse, r)))) : Option xm_R) else none
            | _ => none) = _
        rw [e1, hd, e2, e3]
        exact if_pos ⟨Nat.le_of_ble_eq_true h1, g1, g2⟩
    · exact hx.elim
  · rename_i k2 z hc
    obtain ⟨e1, e2, e3⟩ := ym_dt z st
    split at hx
    · rename_i b c r hd
      obtain ⟨h1, hx⟩ := ym_ck_of hx
      refine ym_k_call hK hH hx (fun g1 g2 => ym_ste hi ?_ ?_)
      · show xm_oin k pc a (ym_ml L) (st.map ym_v) h = none
        unfold xm_oin
        rw [hc]
        split
        · rename_i _ e
          cases e
        · rfl
      · show (match xm_cp k a with
          | some (3, k2, z) => match (st.map ym_v).drop z with
            | .ref i :: r => if z ≤ (st.map ym_v).length ∧ xm_wt r ≤ 8 ∧ (xm_sl (.ref i :: ((st.map ym_v).take z).reverse)).length ≤ xm_n k2 then (some (Sum.inr (Sum.inr (Sum.inr (k2, .ref i :: ((st.map ym_v).take z).reverse, r)))) : Option xm_R) else none
            | _ => none
          | some (13, k2, z) => match (st.map ym_v).drop z with
            | .ref i :: r => if z ≤ (st.map ym_v).length ∧ xm_wt r ≤ 8 ∧ (xm_sl (.ref i :: ((st.map ym_v).take z).reverse)).length ≤ xm_n k2 then (some (Sum.inr (Sum.inr (Sum.inr (k2, .ref i :: ((st.map ym_v).take z).reverse, r)))) : Option xm_R) else none
            | _ => none
          | _ => none) = _
        rw [hc]
        show (match (st.map ym_v).drop z with
            | .ref i :: r => if z ≤ (st.map ym_v).length ∧ xm_wt r ≤ 8 ∧ (xm_sl (.ref i :: ((st.map ym_v).take z).reverse)).length ≤ xm_n k2 then (some (Sum.inr (Sum.inr (Sum.inr (k2, .ref i :: ((st.map ym_v).take z).reverse, r)))) : Option xm_R) else none
            | _ => none) = _
        rw [e1, hd, e2, e3]
        exact if_pos ⟨Nat.le_of_ble_eq_true h1, g1, g2⟩
    · exact hx.elim
  · exact hx.elim
theorem ym_k_vir {a : Nat} (hK : K.length < 1000) (hi : xm_ins k pc = some (.invokevirtual a, 3)) (hH : ym_H s h) (hx : ym_vir sc P K k pc L st s (xm_cp k a)) : xm_Go sc P (K.map ym_f) (ym_f (k, pc, L, st)) h := by
  unfold ym_vir at hx
  split at hx
  · rename_i k2 z hc
    obtain ⟨e1, e2, e3⟩ := ym_dt z st
    split at hx
    · rename_i b c r hd
      obtain ⟨⟨n, hT⟩, hx⟩ := ym_ob_of hx hH.2.2.2.1
      obtain ⟨h1, hx⟩ := ym_ck_of hx
      obtain ⟨fs, d1, -, -⟩ := ym_c_ob (hH.2.2.2.2 c _ n hT)
      refine ym_k_call hK hH hx (fun g1 g2 => ym_ste hi rfl ?_)
      show (match xm_cp k a with
        | some (1, k2, z) => match (st.map ym_v).drop z with
          | .ref i :: r => match xm_cell h i with
            | some (.inr (ci, _)) => if (ci = xm_rc k2 ∧ z ≤ (st.map ym_v).length) ∧ xm_wt r ≤ 8 ∧ (xm_sl (.ref i :: ((st.map ym_v).take z).reverse)).length ≤ xm_n k2 then (some (Sum.inr (Sum.inr (Sum.inr (k2, .ref i :: ((st.map ym_v).take z).reverse, r)))) : Option xm_R) else none
            | _ => none
          | _ => none
        | _ => none) = _
      rw [hc]
      show (match (st.map ym_v).drop z with
          | .ref i :: r => match xm_cell h i with
            | some (.inr (ci, _)) => if (ci = xm_rc k2 ∧ z ≤ (st.map ym_v).length) ∧ xm_wt r ≤ 8 ∧ (xm_sl (.ref i :: ((st.map ym_v).take z).reverse)).length ≤ xm_n k2 then (some (Sum.inr (Sum.inr (Sum.inr (k2, .ref i :: ((st.map ym_v).take z).reverse, r)))) : Option xm_R) else none
            | _ => none
          | _ => none) = _
      rw [e1, hd, e2, e3]
      show (match xm_cell h c with
            | some (.inr (ci, _)) => if (ci = xm_rc k2 ∧ z ≤ st.length) ∧ xm_wt (r.map ym_v) ≤ 8 ∧ (xm_sl (.ref c :: (st.take z).reverse.map ym_v)).length ≤ xm_n k2 then (some (Sum.inr (Sum.inr (Sum.inr (k2, .ref c :: (st.take z).reverse.map ym_v, r.map ym_v)))) : Option xm_R) else none
            | _ => none) = _
      rw [d1]
      exact if_pos ⟨⟨rfl, Nat.le_of_ble_eq_true h1⟩, g1, g2⟩
    · exact hx.elim
  · exact hx.elim
end
end
section
/-! The machine over whole numbers: the step, and what is left to show: own work. -/
section
variable {sc : xm_S} {P : xm_O → xm_H → Prop} {K : List ym_F} {k pc m q : Nat} {i : ClassFile.Instr} {L L2 : ym_L} {st st2 : List ym_V} {s s2 : ym_S} {h h2 : xm_H} {go : ym_G}
theorem ym_k_cpy {a d n0 n1 : Nat} {sp dp n : Int} (hH : ym_H s h) (ha : ym_T s a = some (0, n0)) (hd : ym_T s d = some (0, n1)) (hb : 0 ≤ sp ∧ 0 ≤ dp ∧ 0 ≤ n ∧ sp + n ≤ (n0 : Int) ∧ dp + n ≤ (n1 : Int)) : ∃ f g, xm_cell h a = some (.inl (0, n0, .inl f)) ∧ xm_cell h d = some (.inl (0, n1, .inl g)) ∧ ym_H (ym_cpy s a d sp dp n) (xm_put h d (.inl (0, n1, .inl (va_cpy f g sp.toNat dp.toNat n.toNat)))) := by
  obtain ⟨b1, b2, b3, b4, b5⟩ := hb
  obtain ⟨-, hin, -, hf, hT⟩ := id hH
  obtain ⟨hn0, f, e0, e3⟩ := hT a _ n0 ha
  obtain ⟨hn1, g, d0, d3⟩ := hT d _ n1 hd
  refine ⟨f, g, e0, d0, ym_H_put hH hd ?_ rfl ?_ hf ⟨hn1, _, rfl, fun j hj => ?_⟩⟩
  · intro c j
    show ym_in (bif Nat.beq c d then (if dp ≤ j ∧ j < dp + n then s.1 a (sp + (j - dp)) else s.1 c j) else s.1 c j)
    cases Nat.beq c d with
    | false => exact hin _ _
    | true =>
      show ym_in (if dp ≤ j ∧ j < dp + n then s.1 a (sp + (j - dp)) else s.1 c j)
      split
      · exact hin _ _
      · exact hin _ _
  · intro c hc
    refine ⟨fun j => ?_, fun j => rfl, fun j => rfl⟩
    show (bif Nat.beq c d then (if dp ≤ j ∧ j < dp + n then s.1 a (sp + (j - dp)) else s.1 c j) else s.1 c j) = _
    rw [show Nat.beq c d = false from by rw [← Bool.not_eq_true, Nat.beq_eq]; exact hc]
    rfl
  · show va_cpy f g sp.toNat dp.toNat n.toNat j = Int32.ofInt (bif Nat.beq d d then (if dp ≤ (j : Int) ∧ (j : Int) < dp + n then s.1 a (sp + ((j : Int) - dp)) else s.1 d j) else s.1 d j)
    rw [show Nat.beq d d = true from Nat.beq_refl d]
    show (if dp.toNat ≤ j ∧ j < dp.toNat + n.toNat then f (sp.toNat + (j - dp.toNat)) else g j) = Int32.ofInt (if dp ≤ (j : Int) ∧ (j : Int) < dp + n then s.1 a (sp + ((j : Int) - dp)) else s.1 d j)
    by_cases hc : dp ≤ (j : Int) ∧ (j : Int) < dp + n
    · rw [if_pos hc, if_pos (by omega), e3 _ (by omega)]
      rw [show ((sp.toNat + (j - dp.toNat) : Nat) : Int) = sp + ((j : Int) - dp) by omega]
    · rw [if_neg hc, if_neg (by omega)]
      exact d3 j hj
theorem ym_k_sta {a : Nat} (hK : K.length < 1000) (hi : xm_ins k pc = some (.invokestatic a, 3)) (hH : ym_H s h) (hg : ym_K sc P K k pc 3 go) (hx : ym_sta sc P K k pc L st s go (xm_cp k a)) : xm_Go sc P (K.map ym_f) (ym_f (k, pc, L, st)) h := by
  unfold ym_sta at hx
  split at hx
  · rename_i hc
    split at hx
    · rename_i n dp bd d sp ba a2 r
      obtain ⟨n0, ha, hx⟩ := ym_ar_of hx hH.2.2.2.1
      obtain ⟨n1, hd, hb, hx⟩ := ym_ar_of hx hH.2.2.2.1
      obtain ⟨h1, hx⟩ := ym_ck_of hx
      have h1 : ym_wt r ≤ 8 := Nat.le_of_ble_eq_true h1
      obtain ⟨f, g, e0, d0, hH2⟩ := ym_k_cpy hH ha hd hb
      obtain ⟨hn0, -, -, -⟩ := hH.2.2.2.2 a2 _ n0 ha
      obtain ⟨hn1, -, -, -⟩ := hH.2.2.2.2 d _ n1 hd
      have i1 : ym_in sp := ⟨by omega, by omega⟩
      have i2 : ym_in dp := ⟨by omega, by omega⟩
      have i3 : ym_in n := ⟨by omega, by omega⟩
      have c1 : (Int32.ofInt sp).toNatClampNeg = sp.toNat := by rw [← Int32.toNat_toInt, ym_of i1]
      have c2 : (Int32.ofInt dp).toNatClampNeg = dp.toNat := by rw [← Int32.toNat_toInt, ym_of i2]
      have c3 : (Int32.ofInt n).toNatClampNeg = n.toNat := by rw [← Int32.toNat_toInt, ym_of i3]
      refine ym_k_go hi hH2 hg ?_ hx
      show xm_lib k pc a (ym_ml L) (.int (Int32.ofInt n) :: .int (Int32.ofInt dp) :: .ref d :: .int (Int32.ofInt sp) :: .ref a2 :: r.map ym_v) h = _
      unfold xm_lib
      rw [hc]
      show (match xm_cell h a2, xm_cell h d with
        | some (.inl (0, n0, .inl f)), some (.inl (0, n1, .inl g)) =>
          if Int32.ofInt sp < 0 ∨ Int32.ofInt dp < 0 ∨ Int32.ofInt n < 0 ∨ n0 < (Int32.ofInt sp).toNatClampNeg + (Int32.ofInt n).toNatClampNeg ∨ n1 < (Int32.ofInt dp).toNatClampNeg + (Int32.ofInt n).toNatClampNeg ∨ 8 < xm_wt (r.map ym_v) then none
          else xm_nx k (pc + 3) (ym_ml L) (r.map ym_v) (xm_put h d (.inl (0, n1, .inl (va_cpy f g (Int32.ofInt sp).toNatClampNeg (Int32.ofInt dp).toNatClampNeg (Int32.ofInt n).toNatClampNeg))))
        | _, _ => none) = _
      rw [e0, d0, c1, c2, c3]
      refine if_neg ?_
      rw [ym_of0, ym_lt i1 ym_in0, ym_lt i2 ym_in0, ym_lt i3 ym_in0, ym_wt_map]
      omega
    · exact hx.elim
  · rename_i hc
    split at hx
    · rename_i y x r
      obtain ⟨hx1, hy1, hx⟩ := hx
      obtain ⟨h1, hx⟩ := ym_ck_of hx
      have h1 : ym_wt r ≤ 8 := Nat.le_of_ble_eq_true h1
      refine ym_k_go hi hH hg ?_ hx
      show xm_lib k pc a (ym_ml L) (.int (Int32.ofInt y) :: .int (Int32.ofInt x) :: r.map ym_v) h = _
      unfold xm_lib
      rw [hc]
      refine (if_neg (by rw [ym_wt_map]; omega)).trans ?_
      show xm_nx k (pc + 3) (ym_ml L) (.int (if Int32.ofInt x < Int32.ofInt y then Int32.ofInt y else Int32.ofInt x) :: r.map ym_v) h = xm_nx k (pc + 3) (ym_ml L) (.int (Int32.ofInt (if x < y then y else x)) :: r.map ym_v) h
      by_cases e : x < y
      · rw [if_pos e, if_pos ((ym_lt hx1 hy1).mpr e)]
      · rw [if_neg e, if_neg (fun z => e ((ym_lt hx1 hy1).mp z))]
    · exact hx.elim
  · rename_i hc
    split at hx
    · rename_i y x r
      obtain ⟨hx1, hy1, hx⟩ := hx
      obtain ⟨h1, hx⟩ := ym_ck_of hx
      have h1 : ym_wt r ≤ 8 := Nat.le_of_ble_eq_true h1
      refine ym_k_go hi hH hg ?_ hx
      show xm_lib k pc a (ym_ml L) (.int (Int32.ofInt y) :: .int (Int32.ofInt x) :: r.map ym_v) h = _
      unfold xm_lib
      rw [hc]
      refine (if_neg (by rw [ym_wt_map]; omega)).trans ?_
      show xm_nx k (pc + 3) (ym_ml L) (.int (if Int32.ofInt y < Int32.ofInt x then Int32.ofInt y else Int32.ofInt x) :: r.map ym_v) h = xm_nx k (pc + 3) (ym_ml L) (.int (Int32.ofInt (if y < x then y else x)) :: r.map ym_v) h
      by_cases e : y < x
      · rw [if_pos e, if_pos ((ym_lt hy1 hx1).mpr e)]
      · rw [if_neg e, if_neg (fun z => e ((ym_lt hy1 hx1).mp z))]
    · exact hx.elim
  · rename_i k2 z hc
    obtain ⟨e1, e2, e3⟩ := ym_dt z st
    obtain ⟨h1, hx⟩ := ym_ck_of hx
    refine ym_k_call hK hH hx (fun g1 g2 => ym_ste hi ?_ ?_)
    · show xm_lib k pc a (ym_ml L) (st.map ym_v) h = none
      unfold xm_lib
      rw [hc]
      rfl
    · show (match xm_cp k a with
        | some (2, k2, z) => if z ≤ (st.map ym_v).length ∧ xm_wt ((st.map ym_v).drop z) ≤ 8 ∧ (xm_sl ((st.map ym_v).take z).reverse).length ≤ xm_n k2 then (some (Sum.inr (Sum.inr (Sum.inr (k2, ((st.map ym_v).take z).reverse, (st.map ym_v).drop z)))) : Option xm_R) else none
        | some (12, k2, z) => if z ≤ (st.map ym_v).length ∧ xm_wt ((st.map ym_v).drop z) ≤ 8 ∧ (xm_sl ((st.map ym_v).take z).reverse).length ≤ xm_n k2 then (some (Sum.inr (Sum.inr (Sum.inr (k2, ((st.map ym_v).take z).reverse, (st.map ym_v).drop z)))) : Option xm_R) else none
        | _ => none) = _
      rw [hc]
      show (if z ≤ (st.map ym_v).length ∧ xm_wt ((st.map ym_v).drop z) ≤ 8 ∧ (xm_sl ((st.map ym_v).take z).reverse).length ≤ xm_n k2 then (some (Sum.inr (Sum.inr (Sum.inr (k2, ((st.map ym_v).take z).reverse, (st.map ym_v).drop z)))) : Option xm_R) else none) = _
      rw [e1, e2, e3]
      exact if_pos ⟨Nat.le_of_ble_eq_true h1, g1, g2⟩
  · rename_i k2 z hc
    obtain ⟨e1, e2, e3⟩ := ym_dt z st
    obtain ⟨h1, hx⟩ := ym_ck_of hx
    refine ym_k_call hK hH hx (fun g1 g2 => ym_ste hi ?_ ?_)
    · show xm_lib k pc a (ym_ml L) (st.map ym_v) h = none
      unfold xm_lib
      rw [hc]
      rfl
    · show (match xm_cp k a with
        | some (2, k2, z) => if z ≤ (st.map ym_v).length ∧ xm_wt ((st.map ym_v).drop z) ≤ 8 ∧ (xm_sl ((st.map ym_v).take z).reverse).length ≤ xm_n k2 then (some (Sum.inr (Sum.inr (Sum.inr (k2, ((st.map ym_v).take z).reverse, (st.map ym_v).drop z)))) : Option xm_R) else none
        | some (12, k2, z) => if z ≤ (st.map ym_v).length ∧ xm_wt ((st.map ym_v).drop z) ≤ 8 ∧ (xm_sl ((st.map ym_v).take z).reverse).length ≤ xm_n k2 then (some (Sum.inr (Sum.inr (Sum.inr (k2, ((st.map ym_v).take z).reverse, (st.map ym_v).drop z)))) : Option xm_R) else none
        | _ => none) = _
      rw [hc]
      show (if z ≤ (st.map ym_v).length ∧ xm_wt ((st.map ym_v).drop z) ≤ 8 ∧ (xm_sl ((st.map ym_v).take z).reverse).length ≤ xm_n k2 then (some (Sum.inr (Sum.inr (Sum.inr (k2, ((st.map ym_v).take z).reverse, (st.map ym_v).drop z)))) : Option xm_R) else none) = _
      rw [e1, e2, e3]
      exact if_pos ⟨Nat.le_of_ble_eq_true h1, g1, g2⟩
  · exact hx.elim
theorem ym_k_ire (hi : xm_ins k pc = some (.ireturn, 1)) (hH : ym_H s h) (hx : ym_ire sc P K k st s) : xm_Go sc P (K.map ym_f) (ym_f (k, pc, L, st)) h := by
  unfold ym_ire at hx
  split at hx
  · rename_i x hr
    refine xm_go_rt (v := some (.int (Int32.ofInt x))) (ym_ste hi rfl ?_) (hx h hH)
    show (match ([.int (Int32.ofInt x)] : List Value), xm_r k with
      | [.int x], some .int => (some (.inr (.inl (some (.int x), h))) : Option xm_R)
      | [.int x], some .boolean => if x = 0 ∨ x = 1 then some (.inr (.inl (some (.int x), h))) else none
      | _, _ => none) = _
    rw [hr]
  · rename_i x hr
    refine xm_go_rt (v := some (.int (Int32.ofInt x))) (ym_ste hi rfl ?_) (hx.2 h hH)
    show (match ([.int (Int32.ofInt x)] : List Value), xm_r k with
      | [.int x], some .int => (some (.inr (.inl (some (.int x), h))) : Option xm_R)
      | [.int x], some .boolean => if x = 0 ∨ x = 1 then some (.inr (.inl (some (.int x), h))) else none
      | _, _ => none) = _
    rw [hr]
    exact if_pos (ym_bool hx.1)
  · exact hx.elim
theorem ym_look_map {α β : Type} (f : α → β) : ∀ (l : List (Nat × α)) (j : Nat), xm_look (l.map (fun p => (p.1, f p.2))) j = (xm_look l j).map f
  | [], _ => rfl
  | (i, v) :: r, j => by
    show (if i = j then some (f v) else xm_look (r.map (fun p => (p.1, f p.2))) j) = Option.map f (if i = j then some v else xm_look r j)
    by_cases e : i = j
    · rw [if_pos e, if_pos e]
      rfl
    · rw [if_neg e, if_neg e]
      exact ym_look_map f r j
theorem ym_kil_ok : xm_kil = ym_kil.map (fun l => l.map (fun p => (p.1, Int32.ofInt p.2))) := rfl
theorem ym_ki_of {k a : Nat} {v : Int} (h : ym_ki k a = some v) : xm_ki k a = some (Int32.ofInt v) := by
  unfold ym_ki at h
  unfold xm_ki
  rw [ym_kil_ok]
  have e : (ym_kil.map (fun l => l.map (fun p => (p.1, Int32.ofInt p.2)))).getD (xm_kc k) [] = (ym_kil.getD (xm_kc k) []).map (fun p => (p.1, Int32.ofInt p.2)) := by
    rw [List.getD_eq_getElem?_getD, List.getD_eq_getElem?_getD, List.getElem?_map]
    cases ym_kil[xm_kc k]? with
    | none => rfl
    | some l => rfl
  rw [e, ym_look_map Int32.ofInt, h]
  rfl
theorem ym_k_cnd {c : ClassFile.Cond} {x y : Int} {off : Int} {r : List ym_V} (hi : xm_ins k pc = some (i, 3)) (hH : ym_H s h) (hg : ym_K sc P K k pc 3 go) (hj : ym_jk pc off = true) (hx : ym_br c x y (go (some (xm_tg pc off)) L r s) (go none L r s)) (hd : xm_do sc i 3 k pc (ym_ml L) (st.map ym_v) h = xm_jp (xm_ic c (Int32.ofInt x) (Int32.ofInt y)) k pc off (ym_ml L) (r.map ym_v) h) : xm_Go sc P (K.map ym_f) (ym_f (k, pc, L, st)) h := by
  obtain ⟨t, g1, g2⟩ := ym_k_jx (k := k) hj (ym_k_br hx)
  exact ym_stp hi (hd.trans (g2 h)) hH (hg t L r s g1)
set_option maxHeartbeats 4000000 in
set_option maxRecDepth 100000 in
theorem ym_x_ok (hK : K.length < 1000) (hsc : sc.1 ≤ 67108864) (hi : xm_ins k pc = some (i, m)) (hx : ym_x sc P K k pc i m L st s go) (hg : ym_K sc P K k pc m go) : ym_Go sc P K (k, pc, L, st) s := by
  intro h hH
  unfold ym_x at hx
  split at hx
  · exact ym_k_go hi hH hg rfl hx
  · rename_i a
    obtain ⟨h1, hx⟩ := ym_ck_of hx
    rw [Bool.and_eq_true, decide_eq_true_iff, decide_eq_true_iff] at h1
    refine ym_k_go hi hH hg ?_ hx
    show xm_nx k (pc + 2) (ym_ml L) (.int (Int8.ofInt a).toInt32 :: st.map ym_v) h = xm_nx k (pc + 2) (ym_ml L) (.int (Int32.ofInt a) :: st.map ym_v) h
    rw [← Int32.ofInt_toInt (Int8.ofInt a).toInt32, Int8.toInt_toInt32, Int8.toInt_ofInt_of_le (by omega) (by omega)]
  · rename_i a
    obtain ⟨h1, hx⟩ := ym_ck_of hx
    rw [Bool.and_eq_true, decide_eq_true_iff, decide_eq_true_iff] at h1
    refine ym_k_go hi hH hg ?_ hx
    show xm_nx k (pc + 3) (ym_ml L) (.int (Int16.ofInt a).toInt32 :: st.map ym_v) h = xm_nx k (pc + 3) (ym_ml L) (.int (Int32.ofInt a) :: st.map ym_v) h
    rw [← Int32.ofInt_toInt (Int16.ofInt a).toInt32, Int16.toInt_toInt32, Int16.toInt_ofInt_of_le (by omega) (by omega)]
  · exact ym_k_go hi hH hg rfl hx
  · exact ym_k_go hi hH hg rfl hx
  · split at hx
    · rename_i v hv
      refine ym_k_go hi hH hg ?_ hx
      show (match xm_ki k _ with
        | some v => xm_nx k (pc + 2) (ym_ml L) (.int v :: st.map ym_v) h
        | none => none) = _
      rw [ym_ki_of hv]
      rfl
    · exact hx.elim
  · split at hx
    · rename_i v hv
      refine ym_k_go hi hH hg ?_ hx
      show (match xm_kl k _ with
        | some v => xm_nx k (pc + 3) (ym_ml L) (.long v :: st.map ym_v) h
        | none => none) = _
      rw [hv]
      rfl
    · exact hx.elim
  · obtain ⟨st2, g1, g2⟩ := ym_k_ilo hx
    exact ym_k_go hi hH hg (g2 1 k pc h) g1
  · obtain ⟨st2, g1, g2⟩ := ym_k_ilo hx
    exact ym_k_go hi hH hg (g2 2 k pc h) g1
  · obtain ⟨st2, g1, g2⟩ := ym_k_llo hx
    exact ym_k_go hi hH hg (g2 1 k pc h) g1
  · obtain ⟨st2, g1, g2⟩ := ym_k_llo hx
    exact ym_k_go hi hH hg (g2 2 k pc h) g1
  · obtain ⟨st2, g1, g2⟩ := ym_k_alo hx
    exact ym_k_go hi hH hg (g2 1 k pc h) g1
  · obtain ⟨st2, g1, g2⟩ := ym_k_alo hx
    exact ym_k_go hi hH hg (g2 2 k pc h) g1
  · obtain ⟨L2, st2, g1, g2⟩ := ym_k_ist hx
    exact ym_k_go hi hH hg (g2 1 k pc h) g1
  · obtain ⟨L2, st2, g1, g2⟩ := ym_k_ist hx
    exact ym_k_go hi hH hg (g2 2 k pc h) g1
  · obtain ⟨L2, st2, g1, g2⟩ := ym_k_lst hx
    exact ym_k_go hi hH hg (g2 1 k pc h) g1
  · obtain ⟨L2, st2, g1, g2⟩ := ym_k_ast hx
    exact ym_k_go hi hH hg (g2 1 k pc h) g1
  · obtain ⟨L2, st2, g1, g2⟩ := ym_k_ast hx
    exact ym_k_go hi hH hg (g2 2 k pc h) g1
  · obtain ⟨L2, g1, g2⟩ := ym_k_inc hx
    exact ym_k_go hi hH hg (g2 k pc h) g1
  · obtain ⟨st2, g1, g2⟩ := ym_k_b2 (fun x y => (Int32.ofInt_add x y).symm) hx
    exact ym_k_go hi hH hg (g2 k pc h) g1
  · obtain ⟨st2, g1, g2⟩ := ym_k_b2 (fun x y => (Int32.ofInt_sub x y).symm) hx
    exact ym_k_go hi hH hg (g2 k pc h) g1
  · obtain ⟨st2, g1, g2⟩ := ym_k_b2 (fun x y => (Int32.ofInt_mul x y).symm) hx
    exact ym_k_go hi hH hg (g2 k pc h) g1
  · obtain ⟨st2, g1, g2⟩ := ym_k_b2 (o2 := (fun x y => x &&& y)) (fun x y => (Int32.ofInt_toInt _).symm) hx
    exact ym_k_go hi hH hg (g2 k pc h) g1
  · obtain ⟨st2, g1, g2⟩ := ym_k_b2 (o2 := (fun x y => x ||| y)) (fun x y => (Int32.ofInt_toInt _).symm) hx
    exact ym_k_go hi hH hg (g2 k pc h) g1
  · obtain ⟨st2, g1, g2⟩ := ym_k_b2 (o2 := (fun x y => x <<< (y &&& 31))) (fun x y => (Int32.ofInt_toInt _).symm) hx
    exact ym_k_go hi hH hg (g2 k pc h) g1
  · obtain ⟨st2, g1, g2⟩ := ym_k_b2 (o2 := (fun x y => x >>> (y &&& 31))) (fun x y => (Int32.ofInt_toInt _).symm) hx
    exact ym_k_go hi hH hg (g2 k pc h) g1
  · obtain ⟨st2, g1, g2⟩ := ym_k_d2 (o2 := (fun x y => x / y)) (fun x y => (Int32.ofInt_toInt _).symm) hx
    exact ym_k_go hi hH hg (g2 k pc h) g1
  · obtain ⟨st2, g1, g2⟩ := ym_k_d2 (o2 := (fun x y => x - x / y * y)) (fun x y => (Int32.ofInt_toInt _).symm) hx
    exact ym_k_go hi hH hg (g2 k pc h) g1
  · obtain ⟨st2, g1, g2⟩ := ym_k_l2 hx
    exact ym_k_go hi hH hg (g2 k pc h) g1
  · obtain ⟨st2, g1, g2⟩ := ym_k_l2 hx
    exact ym_k_go hi hH hg (g2 k pc h) g1
  · obtain ⟨st2, g1, g2⟩ := ym_k_l2 hx
    exact ym_k_go hi hH hg (g2 k pc h) g1
  · obtain ⟨st2, g1, g2⟩ := ym_k_l2 hx
    exact ym_k_go hi hH hg (g2 k pc h) g1
  · obtain ⟨st2, g1, g2⟩ := ym_k_ls (o2 := (fun x y => x <<< (y.toInt64 &&& 63))) (fun x y => rfl) hx
    exact ym_k_go hi hH hg (g2 k pc h) g1
  · obtain ⟨st2, g1, g2⟩ := ym_k_ls (o2 := (fun x y => x >>> (y.toInt64 &&& 63))) (fun x y => rfl) hx
    exact ym_k_go hi hH hg (g2 k pc h) g1
  · obtain ⟨st2, g1, g2⟩ := ym_k_ls (o2 := (fun x y => (x.toUInt64 >>> (y.toInt64.toUInt64 &&& Int64.toUInt64 63)).toInt64)) (fun x y => rfl) hx
    exact ym_k_go hi hH hg (g2 k pc h) g1
  · split at hx
    · rename_i y x r
      refine ym_k_go hi hH hg ?_ hx
      show xm_nx k (pc + 1) (ym_ml L) (.int (lg_cmp x y) :: r.map ym_v) h = xm_nx k (pc + 1) (ym_ml L) (.int (Int32.ofInt (ym_cmp x y)) :: r.map ym_v) h
      rw [ym_cmp_of]
    · exact hx.elim
  · split at hx
    · exact ym_k_go hi hH hg rfl hx
    · exact hx.elim
  · split at hx
    · rename_i x r
      refine ym_k_go hi hH hg ?_ hx
      show xm_nx k (pc + 1) (ym_ml L) (.int x.toInt32 :: r.map ym_v) h = xm_nx k (pc + 1) (ym_ml L) (.int (Int32.ofInt x.toInt32.toInt) :: r.map ym_v) h
      rw [Int32.ofInt_toInt]
    · exact hx.elim
  · split at hx
    · rename_i v r
      obtain ⟨h1, hx⟩ := ym_ck_of hx
      refine ym_k_go hi hH hg ?_ hx
      exact if_pos ((ym_ct_v v).trans (Nat.eq_of_beq_eq_true h1))
    · exact hx.elim
  · split at hx
    · rename_i v w r
      obtain ⟨h1, hx⟩ := ym_ck_of hx
      rw [Bool.and_eq_true] at h1
      refine ym_k_go hi hH hg ?_ hx
      exact if_pos ⟨(ym_ct_v v).trans (Nat.eq_of_beq_eq_true h1.1), (ym_ct_v w).trans (Nat.eq_of_beq_eq_true h1.2)⟩
    · exact hx.elim
  · split at hx
    · obtain ⟨h1, hx⟩ := ym_ck_of hx
      exact ym_k_cnd hi hH hg h1 hx rfl
    · exact hx.elim
  · split at hx
    · obtain ⟨h1, hx⟩ := ym_ck_of hx
      exact ym_k_cnd hi hH hg h1 hx rfl
    · exact hx.elim
  · split at hx
    · obtain ⟨h1, hx⟩ := ym_ck_of hx
      exact ym_k_jp hi hH hg (if_pos (ym_jk_of h1)) hx
    · obtain ⟨h1, hx⟩ := ym_ck_of hx
      exact ym_k_go hi hH hg (if_pos (ym_jk_of h1)) hx
    · exact hx.elim
  · split at hx
    · obtain ⟨h1, hx⟩ := ym_ck_of hx
      exact ym_k_go hi hH hg (if_pos (ym_jk_of h1)) hx
    · obtain ⟨h1, hx⟩ := ym_ck_of hx
      exact ym_k_jp hi hH hg (if_pos (ym_jk_of h1)) hx
    · exact hx.elim
  · obtain ⟨h1, hx⟩ := ym_ck_of hx
    exact ym_k_jp hi hH hg (if_pos (ym_jk_of h1)) hx
  · obtain ⟨t, st2, g1, g2⟩ := ym_k_sw1 (k := k) (h := h) hx
    exact ym_k_jp hi hH hg g2 g1
  · obtain ⟨t, st2, g1, g2⟩ := ym_k_sw2 (k := k) (h := h) hx
    exact ym_k_jp hi hH hg g2 g1
  · obtain ⟨st2, g1, g2⟩ := ym_k_gf (pc := pc) hx hH
    exact ym_k_go hi hH hg g2 g1
  · obtain ⟨st2, s2, h2, g1, g2, g3⟩ := ym_k_pf (pc := pc) hx hH
    exact ym_k_go hi g2 hg g3 g1
  · obtain ⟨st2, g1, g2⟩ := ym_k_ald (k := k) (pc := pc) hx hsc hH
    exact ym_k_go hi hH hg g2 g1
  · obtain ⟨st2, g1, g2⟩ := ym_k_lld (k := k) (pc := pc) hx hH
    exact ym_k_go hi hH hg g2 g1
  · obtain ⟨st2, g1, g2⟩ := ym_k_zld (k := k) (pc := pc) hx hH
    exact ym_k_go hi hH hg g2 g1
  · obtain ⟨st2, g1, g2⟩ := ym_k_rld (k := k) (pc := pc) hx hH
    exact ym_k_go hi hH hg g2 g1
  · obtain ⟨st2, s2, h2, g1, g2, g3⟩ := ym_k_iat (k := k) (pc := pc) hx hH
    exact ym_k_go hi g2 hg g3 g1
  · obtain ⟨st2, s2, h2, g1, g2, g3⟩ := ym_k_lat (k := k) (pc := pc) hx hH
    exact ym_k_go hi g2 hg g3 g1
  · obtain ⟨st2, s2, h2, g1, g2, g3⟩ := ym_k_zat (k := k) (pc := pc) hx hH
    exact ym_k_go hi g2 hg g3 g1
  · obtain ⟨st2, s2, h2, g1, g2, g3⟩ := ym_k_rat (k := k) (pc := pc) hx hH
    exact ym_k_go hi g2 hg g3 g1
  · obtain ⟨st2, g1, g2⟩ := ym_k_len (k := k) (pc := pc) hx hH
    exact ym_k_go hi hH hg g2 g1
  · obtain ⟨st2, s2, h2, g1, g2, g3⟩ := ym_k_na0 (k := k) (pc := pc) hx hH
    exact ym_k_go hi g2 hg g3 g1
  · obtain ⟨st2, s2, h2, g1, g2, g3⟩ := ym_k_na1 (k := k) (pc := pc) hx hH
    exact ym_k_go hi g2 hg g3 g1
  · split at hx
    · rename_i hc
      obtain ⟨st2, s2, h2, g1, g2, g3⟩ := ym_k_na3 (pc := pc) hc hx hH
      exact ym_k_go hi g2 hg g3 g1
    · exact hx.elim
  · exact ym_k_new hi hH hg hx
  · exact ym_k_spc hK hi hH hg hx
  · exact ym_k_sta hK hi hH hg hx
  · exact ym_k_vir hK hi hH hx
  · exact ym_k_ire hi hH hx
  · split at hx
    · rename_i x
      obtain ⟨h1, hx⟩ := ym_ck_of hx
      refine xm_go_rt (ym_ste hi rfl ?_) (hx h hH)
      cases x with
      | none => exact if_pos h1
      | some q => exact if_pos h1
    · exact hx.elim
  · split at hx
    · rename_i hr
      refine xm_go_rt (ym_ste hi rfl ?_) (hx h hH)
      show (match ([] : List Value), xm_r k with
        | [], none => (some (.inr (.inl (none, h))) : Option xm_R)
        | _, _ => none) = _
      rw [hr]
      rfl
    · exact hx.elim
  · exact hx.elim
theorem ym_wp_ok (hK : K.length < 1000) (hsc : sc.1 ≤ 67108864) {cut : List Nat} : ∀ (n : Nat) {pc : Nat} {i : ClassFile.Instr} {m : Nat} {rest : List (Nat × ClassFile.Instr × Nat)} {L : ym_L} {st : List ym_V} {s : ym_S}, ((pc, i, m) :: rest) <:+ xm_il.getD k [] → ym_wp sc P K k cut n ((pc, i, m) :: rest) L st s → ym_Go sc P K (k, pc, L, st) s
  | 0, _, _, _, _, _, _, _, _, hx => False.elim hx
  | n + 1, pc, i, m, rest, L, st, s, hsf, hx => by
    obtain ⟨pre, hpre⟩ := hsf
    have hi : xm_ins k pc = some (i, m) := by
      unfold xm_ins
      have h1 := ym_srt_of k
      rw [← hpre] at h1 ⊢
      exact ym_look_suf pre h1
    have hrs : rest <:+ xm_il.getD k [] := ⟨pre ++ [(pc, i, m)], by rw [List.append_assoc]; exact hpre⟩
    unfold ym_wp at hx
    refine ym_x_ok hK hsc hi hx (fun t L2 st2 s2 hg => ?_)
    cases t with
    | none =>
      dsimp only at hg ⊢
      cases hc : cut.elem (pc + m) with
      | true =>
        rw [hc] at hg
        exact hg
      | false =>
        rw [hc] at hg
        cases rest with
        | nil => exact False.elim hg
        | cons a r =>
          obtain ⟨pc2, i2, m2⟩ := a
          have hg2 : (bif Nat.beq pc2 (pc + m) then ym_wp sc P K k cut n ((pc2, i2, m2) :: r) L2 st2 s2 else False) := hg
          cases hb : Nat.beq pc2 (pc + m) with
          | false =>
            rw [hb] at hg2
            exact False.elim hg2
          | true =>
            rw [hb] at hg2
            rw [← Nat.eq_of_beq_eq_true hb]
            exact ym_wp_ok hK hsc n hrs hg2
    | some q =>
      dsimp only at hg ⊢
      cases hc : (cut.elem q || Nat.ble q pc) with
      | true =>
        rw [hc] at hg
        exact hg
      | false =>
        rw [hc] at hg
        have hg2 : ym_wp sc P K k cut n (ym_from q rest) L2 st2 s2 := hg
        have hs2 := ym_from_suf q rest
        cases hf : ym_from q rest with
        | nil =>
          rw [hf] at hg2
          cases n with
          | zero => exact False.elim hg2
          | succ n => exact False.elim hg2
        | cons a r =>
          rw [hf] at hg2 hs2
          have hq := ym_from_hd q rest hf
          obtain ⟨pc2, i2, m2⟩ := a
          have hq : pc2 = q := hq
          rw [← hq]
          exact ym_wp_ok hK hsc n (hs2.trans hrs) hg2
/-- from a place of a method -/
theorem ym_seg {cut : List Nat} {cd : List (Nat × ClassFile.Instr × Nat)} (hK : K.length < 1000) (hsc : sc.1 ≤ 67108864) (hcd : xm_il.getD k [] = cd) (n : Nat) (hx : ym_wp sc P K k cut n (ym_from pc cd) L st s) : ym_Go sc P K (k, pc, L, st) s := by
  subst hcd
  have hs := ym_from_suf pc (xm_il.getD k [])
  cases hf : ym_from pc (xm_il.getD k []) with
  | nil =>
    rw [hf] at hx
    cases n with
    | zero => exact hx.elim
    | succ n => exact hx.elim
  | cons a r =>
    rw [hf] at hx hs
    obtain ⟨pc2, i2, m2⟩ := a
    have hq : pc2 = pc := ym_from_hd pc _ hf
    subst hq
    exact ym_wp_ok hK hsc n hs hx
end
end
