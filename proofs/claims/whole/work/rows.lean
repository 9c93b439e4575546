section
-- ===== PART A: goes FIRST, ahead of the names: the tables' words, and 'selects' of the private methods out of them =====
/-- a private method of a class that the tables say can be made, by its rows of tables_1 -/
def lw_okq (q : MethodName × Nat) : Prop := (q.1.cls ≠ "java/lang/invoke/MethodHandle" ∧ q.1.cls ≠ "java/lang/invoke/VarHandle") ∧ Cond.instantiable q.1.cls q.2 ∈ tables_1 ∧ Cond.privateMethod q.1 ∈ tables_1 ∧ Cond.instanceMethod q.1 ∈ tables_1
theorem lw_p0 : lw_okq (⟨"GlyphPositions$Loader", "tagsAsSaid", "(IZ)Z"⟩, 2) := ⟨⟨by decide +kernel, by decide +kernel⟩, List.mem_of_getElem? (i := 44) (by decide +kernel), List.mem_of_getElem? (i := 286) (by decide +kernel), List.mem_of_getElem? (i := 287) (by decide +kernel)⟩
theorem lw_p1 : lw_okq (⟨"GlyphPositions$Loader", "listLies", "(III)Z"⟩, 2) := ⟨⟨by decide +kernel, by decide +kernel⟩, List.mem_of_getElem? (i := 44) (by decide +kernel), List.mem_of_getElem? (i := 290) (by decide +kernel), List.mem_of_getElem? (i := 291) (by decide +kernel)⟩
theorem lw_p2 : lw_okq (⟨"GlyphPositions$Loader", "scriptAsSaid", "(I)Z"⟩, 2) := ⟨⟨by decide +kernel, by decide +kernel⟩, List.mem_of_getElem? (i := 44) (by decide +kernel), List.mem_of_getElem? (i := 306) (by decide +kernel), List.mem_of_getElem? (i := 307) (by decide +kernel)⟩
theorem lw_p3 : lw_okq (⟨"GlyphPositions$Loader", "languageAsSaid", "(I)Z"⟩, 2) := ⟨⟨by decide +kernel, by decide +kernel⟩, List.mem_of_getElem? (i := 44) (by decide +kernel), List.mem_of_getElem? (i := 310) (by decide +kernel), List.mem_of_getElem? (i := 311) (by decide +kernel)⟩
theorem lw_p4 : lw_okq (⟨"GlyphPositions$Loader", "numbersAsSaid", "(II)Z"⟩, 2) := ⟨⟨by decide +kernel, by decide +kernel⟩, List.mem_of_getElem? (i := 44) (by decide +kernel), List.mem_of_getElem? (i := 315) (by decide +kernel), List.mem_of_getElem? (i := 316) (by decide +kernel)⟩
theorem lw_p5 : lw_okq (⟨"GlyphPositions$Loader", "lookupHeadAsSaid", "(I)Z"⟩, 2) := ⟨⟨by decide +kernel, by decide +kernel⟩, List.mem_of_getElem? (i := 44) (by decide +kernel), List.mem_of_getElem? (i := 327) (by decide +kernel), List.mem_of_getElem? (i := 328) (by decide +kernel)⟩
theorem lw_p6 : lw_okq (⟨"GlyphPositions$Loader", "subtableAsSaid", "(II)Z"⟩, 2) := ⟨⟨by decide +kernel, by decide +kernel⟩, List.mem_of_getElem? (i := 44) (by decide +kernel), List.mem_of_getElem? (i := 331) (by decide +kernel), List.mem_of_getElem? (i := 332) (by decide +kernel)⟩
theorem lw_p7 : lw_okq (⟨"GlyphPositions$Loader", "extensionAsSaid", "(II)Z"⟩, 2) := ⟨⟨by decide +kernel, by decide +kernel⟩, List.mem_of_getElem? (i := 44) (by decide +kernel), List.mem_of_getElem? (i := 335) (by decide +kernel), List.mem_of_getElem? (i := 336) (by decide +kernel)⟩
theorem lw_p8 : lw_okq (⟨"GlyphPositions$Loader", "singleAsSaid", "(I)Z"⟩, 2) := ⟨⟨by decide +kernel, by decide +kernel⟩, List.mem_of_getElem? (i := 44) (by decide +kernel), List.mem_of_getElem? (i := 339) (by decide +kernel), List.mem_of_getElem? (i := 340) (by decide +kernel)⟩
theorem lw_p9 : lw_okq (⟨"GlyphPositions$Loader", "covered", "(I)I"⟩, 2) := ⟨⟨by decide +kernel, by decide +kernel⟩, List.mem_of_getElem? (i := 44) (by decide +kernel), List.mem_of_getElem? (i := 343) (by decide +kernel), List.mem_of_getElem? (i := 344) (by decide +kernel)⟩
theorem lw_p10 : lw_okq (⟨"GlyphPositions$Loader", "looksAtOneMore", "()Z"⟩, 2) := ⟨⟨by decide +kernel, by decide +kernel⟩, List.mem_of_getElem? (i := 44) (by decide +kernel), List.mem_of_getElem? (i := 347) (by decide +kernel), List.mem_of_getElem? (i := 348) (by decide +kernel)⟩
theorem lw_p11 : lw_okq (⟨"GlyphPositions$Loader", "glyphsRise", "(III)Z"⟩, 2) := ⟨⟨by decide +kernel, by decide +kernel⟩, List.mem_of_getElem? (i := 44) (by decide +kernel), List.mem_of_getElem? (i := 351) (by decide +kernel), List.mem_of_getElem? (i := 352) (by decide +kernel)⟩
theorem lw_p12 : lw_okq (⟨"GlyphPositions$Loader", "rangesRise", "(II)Z"⟩, 2) := ⟨⟨by decide +kernel, by decide +kernel⟩, List.mem_of_getElem? (i := 44) (by decide +kernel), List.mem_of_getElem? (i := 355) (by decide +kernel), List.mem_of_getElem? (i := 356) (by decide +kernel)⟩
theorem lw_p13 : lw_okq (⟨"GlyphPositions$Loader", "listByIndexLies", "(III)Z"⟩, 2) := ⟨⟨by decide +kernel, by decide +kernel⟩, List.mem_of_getElem? (i := 44) (by decide +kernel), List.mem_of_getElem? (i := 368) (by decide +kernel), List.mem_of_getElem? (i := 369) (by decide +kernel)⟩
theorem lw_p14 : lw_okq (⟨"GlyphPositions$Loader", "pairAsSaid", "(I)Z"⟩, 2) := ⟨⟨by decide +kernel, by decide +kernel⟩, List.mem_of_getElem? (i := 44) (by decide +kernel), List.mem_of_getElem? (i := 372) (by decide +kernel), List.mem_of_getElem? (i := 373) (by decide +kernel)⟩
theorem lw_p15 : lw_okq (⟨"GlyphPositions$Loader", "pairRowsAsSaid", "(III)Z"⟩, 2) := ⟨⟨by decide +kernel, by decide +kernel⟩, List.mem_of_getElem? (i := 44) (by decide +kernel), List.mem_of_getElem? (i := 376) (by decide +kernel), List.mem_of_getElem? (i := 377) (by decide +kernel)⟩
def lw_privs_1 : List (MethodName × Nat) := [(⟨"GlyphPositions$Loader", "tagsAsSaid", "(IZ)Z"⟩, 2), (⟨"GlyphPositions$Loader", "listLies", "(III)Z"⟩, 2), (⟨"GlyphPositions$Loader", "scriptAsSaid", "(I)Z"⟩, 2), (⟨"GlyphPositions$Loader", "languageAsSaid", "(I)Z"⟩, 2), (⟨"GlyphPositions$Loader", "numbersAsSaid", "(II)Z"⟩, 2), (⟨"GlyphPositions$Loader", "lookupHeadAsSaid", "(I)Z"⟩, 2), (⟨"GlyphPositions$Loader", "subtableAsSaid", "(II)Z"⟩, 2), (⟨"GlyphPositions$Loader", "extensionAsSaid", "(II)Z"⟩, 2), (⟨"GlyphPositions$Loader", "singleAsSaid", "(I)Z"⟩, 2), (⟨"GlyphPositions$Loader", "covered", "(I)I"⟩, 2), (⟨"GlyphPositions$Loader", "looksAtOneMore", "()Z"⟩, 2), (⟨"GlyphPositions$Loader", "glyphsRise", "(III)Z"⟩, 2), (⟨"GlyphPositions$Loader", "rangesRise", "(II)Z"⟩, 2), (⟨"GlyphPositions$Loader", "listByIndexLies", "(III)Z"⟩, 2), (⟨"GlyphPositions$Loader", "pairAsSaid", "(I)Z"⟩, 2), (⟨"GlyphPositions$Loader", "pairRowsAsSaid", "(III)Z"⟩, 2)]
theorem lw_r1 : ∀ q ∈ lw_privs_1, lw_okq q := List.forall_mem_cons.mpr ⟨lw_p0, List.forall_mem_cons.mpr ⟨lw_p1, List.forall_mem_cons.mpr ⟨lw_p2, List.forall_mem_cons.mpr ⟨lw_p3, List.forall_mem_cons.mpr ⟨lw_p4, List.forall_mem_cons.mpr ⟨lw_p5, List.forall_mem_cons.mpr ⟨lw_p6, List.forall_mem_cons.mpr ⟨lw_p7, List.forall_mem_cons.mpr ⟨lw_p8, List.forall_mem_cons.mpr ⟨lw_p9, List.forall_mem_cons.mpr ⟨lw_p10, List.forall_mem_cons.mpr ⟨lw_p11, List.forall_mem_cons.mpr ⟨lw_p12, List.forall_mem_cons.mpr ⟨lw_p13, List.forall_mem_cons.mpr ⟨lw_p14, List.forall_mem_cons.mpr ⟨lw_p15, fun _ h => absurd h List.not_mem_nil⟩⟩⟩⟩⟩⟩⟩⟩⟩⟩⟩⟩⟩⟩⟩⟩
theorem lw_p16 : lw_okq (⟨"GlyphPositions$Loader", "pairClassesAsSaid", "(II)Z"⟩, 2) := ⟨⟨by decide +kernel, by decide +kernel⟩, List.mem_of_getElem? (i := 44) (by decide +kernel), List.mem_of_getElem? (i := 380) (by decide +kernel), List.mem_of_getElem? (i := 381) (by decide +kernel)⟩
theorem lw_p17 : lw_okq (⟨"GlyphPositions$Loader", "classesAsSaid", "(I)Z"⟩, 2) := ⟨⟨by decide +kernel, by decide +kernel⟩, List.mem_of_getElem? (i := 44) (by decide +kernel), List.mem_of_getElem? (i := 384) (by decide +kernel), List.mem_of_getElem? (i := 385) (by decide +kernel)⟩
theorem lw_p18 : lw_okq (⟨"GlyphPositions$Loader", "cursiveAsSaid", "(I)Z"⟩, 2) := ⟨⟨by decide +kernel, by decide +kernel⟩, List.mem_of_getElem? (i := 44) (by decide +kernel), List.mem_of_getElem? (i := 389) (by decide +kernel), List.mem_of_getElem? (i := 390) (by decide +kernel)⟩
theorem lw_p19 : lw_okq (⟨"GlyphPositions$Loader", "anchorsAsSaid", "(III)Z"⟩, 2) := ⟨⟨by decide +kernel, by decide +kernel⟩, List.mem_of_getElem? (i := 44) (by decide +kernel), List.mem_of_getElem? (i := 393) (by decide +kernel), List.mem_of_getElem? (i := 394) (by decide +kernel)⟩
theorem lw_p20 : lw_okq (⟨"GlyphPositions$Loader", "anchorAsSaid", "(I)Z"⟩, 2) := ⟨⟨by decide +kernel, by decide +kernel⟩, List.mem_of_getElem? (i := 44) (by decide +kernel), List.mem_of_getElem? (i := 397) (by decide +kernel), List.mem_of_getElem? (i := 398) (by decide +kernel)⟩
theorem lw_p21 : lw_okq (⟨"GlyphPositions$Loader", "marksOnAsSaid", "(II)Z"⟩, 2) := ⟨⟨by decide +kernel, by decide +kernel⟩, List.mem_of_getElem? (i := 44) (by decide +kernel), List.mem_of_getElem? (i := 401) (by decide +kernel), List.mem_of_getElem? (i := 402) (by decide +kernel)⟩
theorem lw_p22 : lw_okq (⟨"GlyphPositions$Loader", "marksAsSaid", "(III)Z"⟩, 2) := ⟨⟨by decide +kernel, by decide +kernel⟩, List.mem_of_getElem? (i := 44) (by decide +kernel), List.mem_of_getElem? (i := 405) (by decide +kernel), List.mem_of_getElem? (i := 406) (by decide +kernel)⟩
theorem lw_p23 : lw_okq (⟨"GlyphPositions$Loader", "ligaturesAsSaid", "(III)Z"⟩, 2) := ⟨⟨by decide +kernel, by decide +kernel⟩, List.mem_of_getElem? (i := 44) (by decide +kernel), List.mem_of_getElem? (i := 409) (by decide +kernel), List.mem_of_getElem? (i := 410) (by decide +kernel)⟩
theorem lw_p24 : lw_okq (⟨"java/lang/Throwable", "fillInStackTrace", "(I)Ljava/lang/Throwable;"⟩, 6) := ⟨⟨by decide +kernel, by decide +kernel⟩, List.mem_of_getElem? (i := 489) (by decide +kernel), List.mem_of_getElem? (i := 487) (by decide +kernel), List.mem_of_getElem? (i := 488) (by decide +kernel)⟩
theorem lw_p25 : lw_okq (⟨"GlyphPositions$Tags", "find", "(I)I"⟩, 3) := ⟨⟨by decide +kernel, by decide +kernel⟩, List.mem_of_getElem? (i := 82) (by decide +kernel), List.mem_of_getElem? (i := 595) (by decide +kernel), List.mem_of_getElem? (i := 596) (by decide +kernel)⟩
theorem lw_p26 : lw_okq (⟨"GlyphPositions$Choice", "languageAt", "(II)I"⟩, 3) := ⟨⟨by decide +kernel, by decide +kernel⟩, List.mem_of_getElem? (i := 123) (by decide +kernel), List.mem_of_getElem? (i := 637) (by decide +kernel), List.mem_of_getElem? (i := 638) (by decide +kernel)⟩
theorem lw_p27 : lw_okq (⟨"GlyphPositions$Choice", "placeByTag", "(II)I"⟩, 3) := ⟨⟨by decide +kernel, by decide +kernel⟩, List.mem_of_getElem? (i := 123) (by decide +kernel), List.mem_of_getElem? (i := 642) (by decide +kernel), List.mem_of_getElem? (i := 643) (by decide +kernel)⟩
theorem lw_p28 : lw_okq (⟨"GlyphPositions$Choice", "wantLookupsOf", "(I)V"⟩, 3) := ⟨⟨by decide +kernel, by decide +kernel⟩, List.mem_of_getElem? (i := 123) (by decide +kernel), List.mem_of_getElem? (i := 649) (by decide +kernel), List.mem_of_getElem? (i := 650) (by decide +kernel)⟩
theorem lw_p29 : lw_okq (⟨"GlyphPositions$Setter", "findPassedOver", "(I)V"⟩, 11) := ⟨⟨by decide +kernel, by decide +kernel⟩, List.mem_of_getElem? (i := 181) (by decide +kernel), List.mem_of_getElem? (i := 662) (by decide +kernel), List.mem_of_getElem? (i := 663) (by decide +kernel)⟩
theorem lw_p30 : lw_okq (⟨"GlyphPositions$Setter", "take", "(III)I"⟩, 11) := ⟨⟨by decide +kernel, by decide +kernel⟩, List.mem_of_getElem? (i := 181) (by decide +kernel), List.mem_of_getElem? (i := 669) (by decide +kernel), List.mem_of_getElem? (i := 670) (by decide +kernel)⟩
theorem lw_p31 : lw_okq (⟨"GlyphPositions$Setter", "takeSingle", "(II)Z"⟩, 11) := ⟨⟨by decide +kernel, by decide +kernel⟩, List.mem_of_getElem? (i := 181) (by decide +kernel), List.mem_of_getElem? (i := 674) (by decide +kernel), List.mem_of_getElem? (i := 675) (by decide +kernel)⟩
def lw_privs_2 : List (MethodName × Nat) := [(⟨"GlyphPositions$Loader", "pairClassesAsSaid", "(II)Z"⟩, 2), (⟨"GlyphPositions$Loader", "classesAsSaid", "(I)Z"⟩, 2), (⟨"GlyphPositions$Loader", "cursiveAsSaid", "(I)Z"⟩, 2), (⟨"GlyphPositions$Loader", "anchorsAsSaid", "(III)Z"⟩, 2), (⟨"GlyphPositions$Loader", "anchorAsSaid", "(I)Z"⟩, 2), (⟨"GlyphPositions$Loader", "marksOnAsSaid", "(II)Z"⟩, 2), (⟨"GlyphPositions$Loader", "marksAsSaid", "(III)Z"⟩, 2), (⟨"GlyphPositions$Loader", "ligaturesAsSaid", "(III)Z"⟩, 2), (⟨"java/lang/Throwable", "fillInStackTrace", "(I)Ljava/lang/Throwable;"⟩, 6), (⟨"GlyphPositions$Tags", "find", "(I)I"⟩, 3), (⟨"GlyphPositions$Choice", "languageAt", "(II)I"⟩, 3), (⟨"GlyphPositions$Choice", "placeByTag", "(II)I"⟩, 3), (⟨"GlyphPositions$Choice", "wantLookupsOf", "(I)V"⟩, 3), (⟨"GlyphPositions$Setter", "findPassedOver", "(I)V"⟩, 11), (⟨"GlyphPositions$Setter", "take", "(III)I"⟩, 11), (⟨"GlyphPositions$Setter", "takeSingle", "(II)Z"⟩, 11)]
theorem lw_r2 : ∀ q ∈ lw_privs_2, lw_okq q := List.forall_mem_cons.mpr ⟨lw_p16, List.forall_mem_cons.mpr ⟨lw_p17, List.forall_mem_cons.mpr ⟨lw_p18, List.forall_mem_cons.mpr ⟨lw_p19, List.forall_mem_cons.mpr ⟨lw_p20, List.forall_mem_cons.mpr ⟨lw_p21, List.forall_mem_cons.mpr ⟨lw_p22, List.forall_mem_cons.mpr ⟨lw_p23, List.forall_mem_cons.mpr ⟨lw_p24, List.forall_mem_cons.mpr ⟨lw_p25, List.forall_mem_cons.mpr ⟨lw_p26, List.forall_mem_cons.mpr ⟨lw_p27, List.forall_mem_cons.mpr ⟨lw_p28, List.forall_mem_cons.mpr ⟨lw_p29, List.forall_mem_cons.mpr ⟨lw_p30, List.forall_mem_cons.mpr ⟨lw_p31, fun _ h => absurd h List.not_mem_nil⟩⟩⟩⟩⟩⟩⟩⟩⟩⟩⟩⟩⟩⟩⟩⟩
theorem lw_p32 : lw_okq (⟨"GlyphPositions$Setter", "indexAt", "(III)I"⟩, 11) := ⟨⟨by decide +kernel, by decide +kernel⟩, List.mem_of_getElem? (i := 181) (by decide +kernel), List.mem_of_getElem? (i := 678) (by decide +kernel), List.mem_of_getElem? (i := 679) (by decide +kernel)⟩
theorem lw_p33 : lw_okq (⟨"GlyphPositions$Setter", "giveValue", "(III)V"⟩, 11) := ⟨⟨by decide +kernel, by decide +kernel⟩, List.mem_of_getElem? (i := 181) (by decide +kernel), List.mem_of_getElem? (i := 690) (by decide +kernel), List.mem_of_getElem? (i := 691) (by decide +kernel)⟩
theorem lw_p34 : lw_okq (⟨"GlyphPositions$Setter", "takePair", "(II)I"⟩, 11) := ⟨⟨by decide +kernel, by decide +kernel⟩, List.mem_of_getElem? (i := 181) (by decide +kernel), List.mem_of_getElem? (i := 702) (by decide +kernel), List.mem_of_getElem? (i := 703) (by decide +kernel)⟩
theorem lw_p35 : lw_okq (⟨"GlyphPositions$Setter", "valuesInRow", "(III)I"⟩, 11) := ⟨⟨by decide +kernel, by decide +kernel⟩, List.mem_of_getElem? (i := 181) (by decide +kernel), List.mem_of_getElem? (i := 706) (by decide +kernel), List.mem_of_getElem? (i := 707) (by decide +kernel)⟩
theorem lw_p36 : lw_okq (⟨"GlyphPositions$Setter", "valuesByClasses", "(IIII)I"⟩, 11) := ⟨⟨by decide +kernel, by decide +kernel⟩, List.mem_of_getElem? (i := 181) (by decide +kernel), List.mem_of_getElem? (i := 711) (by decide +kernel), List.mem_of_getElem? (i := 712) (by decide +kernel)⟩
theorem lw_p37 : lw_okq (⟨"GlyphPositions$Setter", "takeCursive", "(II)Z"⟩, 11) := ⟨⟨by decide +kernel, by decide +kernel⟩, List.mem_of_getElem? (i := 181) (by decide +kernel), List.mem_of_getElem? (i := 718) (by decide +kernel), List.mem_of_getElem? (i := 719) (by decide +kernel)⟩
theorem lw_p38 : lw_okq (⟨"GlyphPositions$Setter", "anchorAt", "(II)I"⟩, 11) := ⟨⟨by decide +kernel, by decide +kernel⟩, List.mem_of_getElem? (i := 181) (by decide +kernel), List.mem_of_getElem? (i := 722) (by decide +kernel), List.mem_of_getElem? (i := 723) (by decide +kernel)⟩
theorem lw_p39 : lw_okq (⟨"GlyphPositions$Setter", "takeMark", "(III)Z"⟩, 11) := ⟨⟨by decide +kernel, by decide +kernel⟩, List.mem_of_getElem? (i := 181) (by decide +kernel), List.mem_of_getElem? (i := 734) (by decide +kernel), List.mem_of_getElem? (i := 735) (by decide +kernel)⟩
theorem lw_p40 : lw_okq (⟨"GlyphPositions$Setter", "anchorOn", "(IIIII)I"⟩, 11) := ⟨⟨by decide +kernel, by decide +kernel⟩, List.mem_of_getElem? (i := 181) (by decide +kernel), List.mem_of_getElem? (i := 738) (by decide +kernel), List.mem_of_getElem? (i := 739) (by decide +kernel)⟩
theorem lw_p41 : lw_okq (⟨"GlyphPositions$Run", "goOver", "(IIII)V"⟩, 9) := ⟨⟨by decide +kernel, by decide +kernel⟩, List.mem_of_getElem? (i := 140) (by decide +kernel), List.mem_of_getElem? (i := 750) (by decide +kernel), List.mem_of_getElem? (i := 751) (by decide +kernel)⟩
theorem lw_p42 : lw_okq (⟨"GlyphPositionsModel", "refused", "(I)Z"⟩, 34) := ⟨⟨by decide +kernel, by decide +kernel⟩, List.mem_of_getElem? (i := 767) (by decide +kernel), List.mem_of_getElem? (i := 888) (by decide +kernel), List.mem_of_getElem? (i := 889) (by decide +kernel)⟩
theorem lw_p43 : lw_okq (⟨"GlyphPositionsModel", "checkHead", "()V"⟩, 34) := ⟨⟨by decide +kernel, by decide +kernel⟩, List.mem_of_getElem? (i := 767) (by decide +kernel), List.mem_of_getElem? (i := 900) (by decide +kernel), List.mem_of_getElem? (i := 901) (by decide +kernel)⟩
theorem lw_p44 : lw_okq (⟨"GlyphPositionsModel", "u16", "(J)I"⟩, 34) := ⟨⟨by decide +kernel, by decide +kernel⟩, List.mem_of_getElem? (i := 767) (by decide +kernel), List.mem_of_getElem? (i := 904) (by decide +kernel), List.mem_of_getElem? (i := 905) (by decide +kernel)⟩
theorem lw_p45 : lw_okq (⟨"GlyphPositionsModel", "need", "(Z)V"⟩, 34) := ⟨⟨by decide +kernel, by decide +kernel⟩, List.mem_of_getElem? (i := 767) (by decide +kernel), List.mem_of_getElem? (i := 909) (by decide +kernel), List.mem_of_getElem? (i := 910) (by decide +kernel)⟩
theorem lw_p46 : lw_okq (⟨"GlyphPositionsModel", "checkScripts", "()V"⟩, 34) := ⟨⟨by decide +kernel, by decide +kernel⟩, List.mem_of_getElem? (i := 767) (by decide +kernel), List.mem_of_getElem? (i := 916) (by decide +kernel), List.mem_of_getElem? (i := 917) (by decide +kernel)⟩
theorem lw_p47 : lw_okq (⟨"GlyphPositionsModel", "atMost", "(JI)I"⟩, 34) := ⟨⟨by decide +kernel, by decide +kernel⟩, List.mem_of_getElem? (i := 767) (by decide +kernel), List.mem_of_getElem? (i := 920) (by decide +kernel), List.mem_of_getElem? (i := 921) (by decide +kernel)⟩
def lw_privs_3 : List (MethodName × Nat) := [(⟨"GlyphPositions$Setter", "indexAt", "(III)I"⟩, 11), (⟨"GlyphPositions$Setter", "giveValue", "(III)V"⟩, 11), (⟨"GlyphPositions$Setter", "takePair", "(II)I"⟩, 11), (⟨"GlyphPositions$Setter", "valuesInRow", "(III)I"⟩, 11), (⟨"GlyphPositions$Setter", "valuesByClasses", "(IIII)I"⟩, 11), (⟨"GlyphPositions$Setter", "takeCursive", "(II)Z"⟩, 11), (⟨"GlyphPositions$Setter", "anchorAt", "(II)I"⟩, 11), (⟨"GlyphPositions$Setter", "takeMark", "(III)Z"⟩, 11), (⟨"GlyphPositions$Setter", "anchorOn", "(IIIII)I"⟩, 11), (⟨"GlyphPositions$Run", "goOver", "(IIII)V"⟩, 9), (⟨"GlyphPositionsModel", "refused", "(I)Z"⟩, 34), (⟨"GlyphPositionsModel", "checkHead", "()V"⟩, 34), (⟨"GlyphPositionsModel", "u16", "(J)I"⟩, 34), (⟨"GlyphPositionsModel", "need", "(Z)V"⟩, 34), (⟨"GlyphPositionsModel", "checkScripts", "()V"⟩, 34), (⟨"GlyphPositionsModel", "atMost", "(JI)I"⟩, 34)]
theorem lw_r3 : ∀ q ∈ lw_privs_3, lw_okq q := List.forall_mem_cons.mpr ⟨lw_p32, List.forall_mem_cons.mpr ⟨lw_p33, List.forall_mem_cons.mpr ⟨lw_p34, List.forall_mem_cons.mpr ⟨lw_p35, List.forall_mem_cons.mpr ⟨lw_p36, List.forall_mem_cons.mpr ⟨lw_p37, List.forall_mem_cons.mpr ⟨lw_p38, List.forall_mem_cons.mpr ⟨lw_p39, List.forall_mem_cons.mpr ⟨lw_p40, List.forall_mem_cons.mpr ⟨lw_p41, List.forall_mem_cons.mpr ⟨lw_p42, List.forall_mem_cons.mpr ⟨lw_p43, List.forall_mem_cons.mpr ⟨lw_p44, List.forall_mem_cons.mpr ⟨lw_p45, List.forall_mem_cons.mpr ⟨lw_p46, List.forall_mem_cons.mpr ⟨lw_p47, fun _ h => absurd h List.not_mem_nil⟩⟩⟩⟩⟩⟩⟩⟩⟩⟩⟩⟩⟩⟩⟩⟩
theorem lw_p48 : lw_okq (⟨"GlyphPositionsModel", "u32", "(J)J"⟩, 34) := ⟨⟨by decide +kernel, by decide +kernel⟩, List.mem_of_getElem? (i := 767) (by decide +kernel), List.mem_of_getElem? (i := 925) (by decide +kernel), List.mem_of_getElem? (i := 926) (by decide +kernel)⟩
theorem lw_p49 : lw_okq (⟨"GlyphPositionsModel", "checkScript", "(J)V"⟩, 34) := ⟨⟨by decide +kernel, by decide +kernel⟩, List.mem_of_getElem? (i := 767) (by decide +kernel), List.mem_of_getElem? (i := 930) (by decide +kernel), List.mem_of_getElem? (i := 931) (by decide +kernel)⟩
theorem lw_p50 : lw_okq (⟨"GlyphPositionsModel", "checkLanguage", "(J)V"⟩, 34) := ⟨⟨by decide +kernel, by decide +kernel⟩, List.mem_of_getElem? (i := 767) (by decide +kernel), List.mem_of_getElem? (i := 934) (by decide +kernel), List.mem_of_getElem? (i := 935) (by decide +kernel)⟩
theorem lw_p51 : lw_okq (⟨"GlyphPositionsModel", "featureCount", "()I"⟩, 34) := ⟨⟨by decide +kernel, by decide +kernel⟩, List.mem_of_getElem? (i := 767) (by decide +kernel), List.mem_of_getElem? (i := 939) (by decide +kernel), List.mem_of_getElem? (i := 940) (by decide +kernel)⟩
theorem lw_p52 : lw_okq (⟨"GlyphPositionsModel", "checkFeatures", "()V"⟩, 34) := ⟨⟨by decide +kernel, by decide +kernel⟩, List.mem_of_getElem? (i := 767) (by decide +kernel), List.mem_of_getElem? (i := 943) (by decide +kernel), List.mem_of_getElem? (i := 944) (by decide +kernel)⟩
theorem lw_p53 : lw_okq (⟨"GlyphPositionsModel", "lookupCount", "()I"⟩, 34) := ⟨⟨by decide +kernel, by decide +kernel⟩, List.mem_of_getElem? (i := 767) (by decide +kernel), List.mem_of_getElem? (i := 947) (by decide +kernel), List.mem_of_getElem? (i := 948) (by decide +kernel)⟩
theorem lw_p54 : lw_okq (⟨"GlyphPositionsModel", "checkLookups", "()V"⟩, 34) := ⟨⟨by decide +kernel, by decide +kernel⟩, List.mem_of_getElem? (i := 767) (by decide +kernel), List.mem_of_getElem? (i := 951) (by decide +kernel), List.mem_of_getElem? (i := 952) (by decide +kernel)⟩
theorem lw_p55 : lw_okq (⟨"GlyphPositionsModel", "checkLookup", "(J)V"⟩, 34) := ⟨⟨by decide +kernel, by decide +kernel⟩, List.mem_of_getElem? (i := 767) (by decide +kernel), List.mem_of_getElem? (i := 955) (by decide +kernel), List.mem_of_getElem? (i := 956) (by decide +kernel)⟩
theorem lw_p56 : lw_okq (⟨"GlyphPositionsModel", "checkSubtable", "(IJ)V"⟩, 34) := ⟨⟨by decide +kernel, by decide +kernel⟩, List.mem_of_getElem? (i := 767) (by decide +kernel), List.mem_of_getElem? (i := 959) (by decide +kernel), List.mem_of_getElem? (i := 960) (by decide +kernel)⟩
theorem lw_p57 : lw_okq (⟨"GlyphPositionsModel", "checkSingle", "(J)V"⟩, 34) := ⟨⟨by decide +kernel, by decide +kernel⟩, List.mem_of_getElem? (i := 767) (by decide +kernel), List.mem_of_getElem? (i := 963) (by decide +kernel), List.mem_of_getElem? (i := 964) (by decide +kernel)⟩
theorem lw_p58 : lw_okq (⟨"GlyphPositionsModel", "bitsAt", "(J)I"⟩, 34) := ⟨⟨by decide +kernel, by decide +kernel⟩, List.mem_of_getElem? (i := 767) (by decide +kernel), List.mem_of_getElem? (i := 967) (by decide +kernel), List.mem_of_getElem? (i := 968) (by decide +kernel)⟩
theorem lw_p59 : lw_okq (⟨"GlyphPositionsModel", "checkCoverage", "(J)I"⟩, 34) := ⟨⟨by decide +kernel, by decide +kernel⟩, List.mem_of_getElem? (i := 767) (by decide +kernel), List.mem_of_getElem? (i := 971) (by decide +kernel), List.mem_of_getElem? (i := 972) (by decide +kernel)⟩
theorem lw_p60 : lw_okq (⟨"GlyphPositionsModel", "look", "()V"⟩, 34) := ⟨⟨by decide +kernel, by decide +kernel⟩, List.mem_of_getElem? (i := 767) (by decide +kernel), List.mem_of_getElem? (i := 975) (by decide +kernel), List.mem_of_getElem? (i := 976) (by decide +kernel)⟩
theorem lw_p61 : lw_okq (⟨"GlyphPositionsModel", "reach", "(JJ)V"⟩, 34) := ⟨⟨by decide +kernel, by decide +kernel⟩, List.mem_of_getElem? (i := 767) (by decide +kernel), List.mem_of_getElem? (i := 982) (by decide +kernel), List.mem_of_getElem? (i := 983) (by decide +kernel)⟩
theorem lw_p62 : lw_okq (⟨"GlyphPositionsModel", "byIndex", "(JJ)I"⟩, 34) := ⟨⟨by decide +kernel, by decide +kernel⟩, List.mem_of_getElem? (i := 767) (by decide +kernel), List.mem_of_getElem? (i := 986) (by decide +kernel), List.mem_of_getElem? (i := 987) (by decide +kernel)⟩
theorem lw_p63 : lw_okq (⟨"GlyphPositionsModel", "checkPairs", "(J)V"⟩, 34) := ⟨⟨by decide +kernel, by decide +kernel⟩, List.mem_of_getElem? (i := 767) (by decide +kernel), List.mem_of_getElem? (i := 990) (by decide +kernel), List.mem_of_getElem? (i := 991) (by decide +kernel)⟩
def lw_privs_4 : List (MethodName × Nat) := [(⟨"GlyphPositionsModel", "u32", "(J)J"⟩, 34), (⟨"GlyphPositionsModel", "checkScript", "(J)V"⟩, 34), (⟨"GlyphPositionsModel", "checkLanguage", "(J)V"⟩, 34), (⟨"GlyphPositionsModel", "featureCount", "()I"⟩, 34), (⟨"GlyphPositionsModel", "checkFeatures", "()V"⟩, 34), (⟨"GlyphPositionsModel", "lookupCount", "()I"⟩, 34), (⟨"GlyphPositionsModel", "checkLookups", "()V"⟩, 34), (⟨"GlyphPositionsModel", "checkLookup", "(J)V"⟩, 34), (⟨"GlyphPositionsModel", "checkSubtable", "(IJ)V"⟩, 34), (⟨"GlyphPositionsModel", "checkSingle", "(J)V"⟩, 34), (⟨"GlyphPositionsModel", "bitsAt", "(J)I"⟩, 34), (⟨"GlyphPositionsModel", "checkCoverage", "(J)I"⟩, 34), (⟨"GlyphPositionsModel", "look", "()V"⟩, 34), (⟨"GlyphPositionsModel", "reach", "(JJ)V"⟩, 34), (⟨"GlyphPositionsModel", "byIndex", "(JJ)I"⟩, 34), (⟨"GlyphPositionsModel", "checkPairs", "(J)V"⟩, 34)]
theorem lw_r4 : ∀ q ∈ lw_privs_4, lw_okq q := List.forall_mem_cons.mpr ⟨lw_p48, List.forall_mem_cons.mpr ⟨lw_p49, List.forall_mem_cons.mpr ⟨lw_p50, List.forall_mem_cons.mpr ⟨lw_p51, List.forall_mem_cons.mpr ⟨lw_p52, List.forall_mem_cons.mpr ⟨lw_p53, List.forall_mem_cons.mpr ⟨lw_p54, List.forall_mem_cons.mpr ⟨lw_p55, List.forall_mem_cons.mpr ⟨lw_p56, List.forall_mem_cons.mpr ⟨lw_p57, List.forall_mem_cons.mpr ⟨lw_p58, List.forall_mem_cons.mpr ⟨lw_p59, List.forall_mem_cons.mpr ⟨lw_p60, List.forall_mem_cons.mpr ⟨lw_p61, List.forall_mem_cons.mpr ⟨lw_p62, List.forall_mem_cons.mpr ⟨lw_p63, fun _ h => absurd h List.not_mem_nil⟩⟩⟩⟩⟩⟩⟩⟩⟩⟩⟩⟩⟩⟩⟩⟩
theorem lw_p64 : lw_okq (⟨"GlyphPositionsModel", "checkPairSet", "(JI)V"⟩, 34) := ⟨⟨by decide +kernel, by decide +kernel⟩, List.mem_of_getElem? (i := 767) (by decide +kernel), List.mem_of_getElem? (i := 995) (by decide +kernel), List.mem_of_getElem? (i := 996) (by decide +kernel)⟩
theorem lw_p65 : lw_okq (⟨"GlyphPositionsModel", "checkClasses", "(J)V"⟩, 34) := ⟨⟨by decide +kernel, by decide +kernel⟩, List.mem_of_getElem? (i := 767) (by decide +kernel), List.mem_of_getElem? (i := 999) (by decide +kernel), List.mem_of_getElem? (i := 1000) (by decide +kernel)⟩
theorem lw_p66 : lw_okq (⟨"GlyphPositionsModel", "checkJoins", "(J)V"⟩, 34) := ⟨⟨by decide +kernel, by decide +kernel⟩, List.mem_of_getElem? (i := 767) (by decide +kernel), List.mem_of_getElem? (i := 1007) (by decide +kernel), List.mem_of_getElem? (i := 1008) (by decide +kernel)⟩
theorem lw_p67 : lw_okq (⟨"GlyphPositionsModel", "checkPlace", "(JJ)V"⟩, 34) := ⟨⟨by decide +kernel, by decide +kernel⟩, List.mem_of_getElem? (i := 767) (by decide +kernel), List.mem_of_getElem? (i := 1011) (by decide +kernel), List.mem_of_getElem? (i := 1012) (by decide +kernel)⟩
theorem lw_p68 : lw_okq (⟨"GlyphPositionsModel", "checkAnchor", "(J)V"⟩, 34) := ⟨⟨by decide +kernel, by decide +kernel⟩, List.mem_of_getElem? (i := 767) (by decide +kernel), List.mem_of_getElem? (i := 1015) (by decide +kernel), List.mem_of_getElem? (i := 1016) (by decide +kernel)⟩
theorem lw_p69 : lw_okq (⟨"GlyphPositionsModel", "checkHanging", "(JZ)V"⟩, 34) := ⟨⟨by decide +kernel, by decide +kernel⟩, List.mem_of_getElem? (i := 767) (by decide +kernel), List.mem_of_getElem? (i := 1019) (by decide +kernel), List.mem_of_getElem? (i := 1020) (by decide +kernel)⟩
theorem lw_p70 : lw_okq (⟨"GlyphPositionsModel", "checkMarks", "(JI)V"⟩, 34) := ⟨⟨by decide +kernel, by decide +kernel⟩, List.mem_of_getElem? (i := 767) (by decide +kernel), List.mem_of_getElem? (i := 1023) (by decide +kernel), List.mem_of_getElem? (i := 1024) (by decide +kernel)⟩
theorem lw_p71 : lw_okq (⟨"GlyphPositionsModel", "checkParts", "(JI)V"⟩, 34) := ⟨⟨by decide +kernel, by decide +kernel⟩, List.mem_of_getElem? (i := 767) (by decide +kernel), List.mem_of_getElem? (i := 1027) (by decide +kernel), List.mem_of_getElem? (i := 1028) (by decide +kernel)⟩
theorem lw_p72 : lw_okq (⟨"GlyphPositionsModel", "checkRow", "(JJI)V"⟩, 34) := ⟨⟨by decide +kernel, by decide +kernel⟩, List.mem_of_getElem? (i := 767) (by decide +kernel), List.mem_of_getElem? (i := 1031) (by decide +kernel), List.mem_of_getElem? (i := 1032) (by decide +kernel)⟩
theorem lw_p73 : lw_okq (⟨"GlyphPositionsModel", "tagAt", "(I)I"⟩, 34) := ⟨⟨by decide +kernel, by decide +kernel⟩, List.mem_of_getElem? (i := 767) (by decide +kernel), List.mem_of_getElem? (i := 1051) (by decide +kernel), List.mem_of_getElem? (i := 1052) (by decide +kernel)⟩
theorem lw_p74 : lw_okq (⟨"GlyphPositionsModel", "chooseAll", "()V"⟩, 34) := ⟨⟨by decide +kernel, by decide +kernel⟩, List.mem_of_getElem? (i := 767) (by decide +kernel), List.mem_of_getElem? (i := 1067) (by decide +kernel), List.mem_of_getElem? (i := 1068) (by decide +kernel)⟩
theorem lw_p75 : lw_okq (⟨"GlyphPositionsModel", "languageAt", "()I"⟩, 34) := ⟨⟨by decide +kernel, by decide +kernel⟩, List.mem_of_getElem? (i := 767) (by decide +kernel), List.mem_of_getElem? (i := 1071) (by decide +kernel), List.mem_of_getElem? (i := 1072) (by decide +kernel)⟩
theorem lw_p76 : lw_okq (⟨"GlyphPositionsModel", "hasScript", "(I)Z"⟩, 34) := ⟨⟨by decide +kernel, by decide +kernel⟩, List.mem_of_getElem? (i := 767) (by decide +kernel), List.mem_of_getElem? (i := 1075) (by decide +kernel), List.mem_of_getElem? (i := 1076) (by decide +kernel)⟩
theorem lw_p77 : lw_okq (⟨"GlyphPositionsModel", "f16", "(I)I"⟩, 34) := ⟨⟨by decide +kernel, by decide +kernel⟩, List.mem_of_getElem? (i := 767) (by decide +kernel), List.mem_of_getElem? (i := 1079) (by decide +kernel), List.mem_of_getElem? (i := 1080) (by decide +kernel)⟩
theorem lw_p78 : lw_okq (⟨"GlyphPositionsModel", "f32", "(I)I"⟩, 34) := ⟨⟨by decide +kernel, by decide +kernel⟩, List.mem_of_getElem? (i := 767) (by decide +kernel), List.mem_of_getElem? (i := 1083) (by decide +kernel), List.mem_of_getElem? (i := 1084) (by decide +kernel)⟩
theorem lw_p79 : lw_okq (⟨"GlyphPositionsModel", "scriptAt", "(I)I"⟩, 34) := ⟨⟨by decide +kernel, by decide +kernel⟩, List.mem_of_getElem? (i := 767) (by decide +kernel), List.mem_of_getElem? (i := 1088) (by decide +kernel), List.mem_of_getElem? (i := 1089) (by decide +kernel)⟩
def lw_privs_5 : List (MethodName × Nat) := [(⟨"GlyphPositionsModel", "checkPairSet", "(JI)V"⟩, 34), (⟨"GlyphPositionsModel", "checkClasses", "(J)V"⟩, 34), (⟨"GlyphPositionsModel", "checkJoins", "(J)V"⟩, 34), (⟨"GlyphPositionsModel", "checkPlace", "(JJ)V"⟩, 34), (⟨"GlyphPositionsModel", "checkAnchor", "(J)V"⟩, 34), (⟨"GlyphPositionsModel", "checkHanging", "(JZ)V"⟩, 34), (⟨"GlyphPositionsModel", "checkMarks", "(JI)V"⟩, 34), (⟨"GlyphPositionsModel", "checkParts", "(JI)V"⟩, 34), (⟨"GlyphPositionsModel", "checkRow", "(JJI)V"⟩, 34), (⟨"GlyphPositionsModel", "tagAt", "(I)I"⟩, 34), (⟨"GlyphPositionsModel", "chooseAll", "()V"⟩, 34), (⟨"GlyphPositionsModel", "languageAt", "()I"⟩, 34), (⟨"GlyphPositionsModel", "hasScript", "(I)Z"⟩, 34), (⟨"GlyphPositionsModel", "f16", "(I)I"⟩, 34), (⟨"GlyphPositionsModel", "f32", "(I)I"⟩, 34), (⟨"GlyphPositionsModel", "scriptAt", "(I)I"⟩, 34)]
theorem lw_r5 : ∀ q ∈ lw_privs_5, lw_okq q := List.forall_mem_cons.mpr ⟨lw_p64, List.forall_mem_cons.mpr ⟨lw_p65, List.forall_mem_cons.mpr ⟨lw_p66, List.forall_mem_cons.mpr ⟨lw_p67, List.forall_mem_cons.mpr ⟨lw_p68, List.forall_mem_cons.mpr ⟨lw_p69, List.forall_mem_cons.mpr ⟨lw_p70, List.forall_mem_cons.mpr ⟨lw_p71, List.forall_mem_cons.mpr ⟨lw_p72, List.forall_mem_cons.mpr ⟨lw_p73, List.forall_mem_cons.mpr ⟨lw_p74, List.forall_mem_cons.mpr ⟨lw_p75, List.forall_mem_cons.mpr ⟨lw_p76, List.forall_mem_cons.mpr ⟨lw_p77, List.forall_mem_cons.mpr ⟨lw_p78, List.forall_mem_cons.mpr ⟨lw_p79, fun _ h => absurd h List.not_mem_nil⟩⟩⟩⟩⟩⟩⟩⟩⟩⟩⟩⟩⟩⟩⟩⟩
theorem lw_p80 : lw_okq (⟨"GlyphPositionsModel", "choosing", "(IZ)V"⟩, 34) := ⟨⟨by decide +kernel, by decide +kernel⟩, List.mem_of_getElem? (i := 767) (by decide +kernel), List.mem_of_getElem? (i := 1092) (by decide +kernel), List.mem_of_getElem? (i := 1093) (by decide +kernel)⟩
theorem lw_p81 : lw_okq (⟨"GlyphPositionsModel", "isOn", "(I)Z"⟩, 34) := ⟨⟨by decide +kernel, by decide +kernel⟩, List.mem_of_getElem? (i := 767) (by decide +kernel), List.mem_of_getElem? (i := 1096) (by decide +kernel), List.mem_of_getElem? (i := 1097) (by decide +kernel)⟩
theorem lw_p82 : lw_okq (⟨"GlyphPositionsModel", "lookupAt", "(I)I"⟩, 34) := ⟨⟨by decide +kernel, by decide +kernel⟩, List.mem_of_getElem? (i := 767) (by decide +kernel), List.mem_of_getElem? (i := 1100) (by decide +kernel), List.mem_of_getElem? (i := 1101) (by decide +kernel)⟩
theorem lw_p83 : lw_okq (⟨"GlyphPositionsModel", "doAt", "(II)I"⟩, 34) := ⟨⟨by decide +kernel, by decide +kernel⟩, List.mem_of_getElem? (i := 767) (by decide +kernel), List.mem_of_getElem? (i := 1104) (by decide +kernel), List.mem_of_getElem? (i := 1105) (by decide +kernel)⟩
theorem lw_p84 : lw_okq (⟨"GlyphPositionsModel", "typeOf", "(I)I"⟩, 34) := ⟨⟨by decide +kernel, by decide +kernel⟩, List.mem_of_getElem? (i := 767) (by decide +kernel), List.mem_of_getElem? (i := 1108) (by decide +kernel), List.mem_of_getElem? (i := 1109) (by decide +kernel)⟩
theorem lw_p85 : lw_okq (⟨"GlyphPositionsModel", "isPassed", "(II)Z"⟩, 34) := ⟨⟨by decide +kernel, by decide +kernel⟩, List.mem_of_getElem? (i := 767) (by decide +kernel), List.mem_of_getElem? (i := 1112) (by decide +kernel), List.mem_of_getElem? (i := 1113) (by decide +kernel)⟩
theorem lw_p86 : lw_okq (⟨"GlyphPositionsModel", "rangeOf", "(I)I"⟩, 34) := ⟨⟨by decide +kernel, by decide +kernel⟩, List.mem_of_getElem? (i := 767) (by decide +kernel), List.mem_of_getElem? (i := 1116) (by decide +kernel), List.mem_of_getElem? (i := 1117) (by decide +kernel)⟩
theorem lw_p87 : lw_okq (⟨"GlyphPositionsModel", "subtableAt", "(II)I"⟩, 34) := ⟨⟨by decide +kernel, by decide +kernel⟩, List.mem_of_getElem? (i := 767) (by decide +kernel), List.mem_of_getElem? (i := 1120) (by decide +kernel), List.mem_of_getElem? (i := 1121) (by decide +kernel)⟩
theorem lw_p88 : lw_okq (⟨"GlyphPositionsModel", "take", "(IIII)I"⟩, 34) := ⟨⟨by decide +kernel, by decide +kernel⟩, List.mem_of_getElem? (i := 767) (by decide +kernel), List.mem_of_getElem? (i := 1124) (by decide +kernel), List.mem_of_getElem? (i := 1125) (by decide +kernel)⟩
theorem lw_p89 : lw_okq (⟨"GlyphPositionsModel", "takeSingle", "(II)I"⟩, 34) := ⟨⟨by decide +kernel, by decide +kernel⟩, List.mem_of_getElem? (i := 767) (by decide +kernel), List.mem_of_getElem? (i := 1128) (by decide +kernel), List.mem_of_getElem? (i := 1129) (by decide +kernel)⟩
theorem lw_p90 : lw_okq (⟨"GlyphPositionsModel", "covered", "(III)I"⟩, 34) := ⟨⟨by decide +kernel, by decide +kernel⟩, List.mem_of_getElem? (i := 767) (by decide +kernel), List.mem_of_getElem? (i := 1132) (by decide +kernel), List.mem_of_getElem? (i := 1133) (by decide +kernel)⟩
theorem lw_p91 : lw_okq (⟨"GlyphPositionsModel", "indexIn", "(II)I"⟩, 34) := ⟨⟨by decide +kernel, by decide +kernel⟩, List.mem_of_getElem? (i := 767) (by decide +kernel), List.mem_of_getElem? (i := 1136) (by decide +kernel), List.mem_of_getElem? (i := 1137) (by decide +kernel)⟩
theorem lw_p92 : lw_okq (⟨"GlyphPositionsModel", "give", "(III)V"⟩, 34) := ⟨⟨by decide +kernel, by decide +kernel⟩, List.mem_of_getElem? (i := 767) (by decide +kernel), List.mem_of_getElem? (i := 1140) (by decide +kernel), List.mem_of_getElem? (i := 1141) (by decide +kernel)⟩
theorem lw_p93 : lw_okq (⟨"GlyphPositionsModel", "s16", "(I)I"⟩, 34) := ⟨⟨by decide +kernel, by decide +kernel⟩, List.mem_of_getElem? (i := 767) (by decide +kernel), List.mem_of_getElem? (i := 1144) (by decide +kernel), List.mem_of_getElem? (i := 1145) (by decide +kernel)⟩
theorem lw_p94 : lw_okq (⟨"GlyphPositionsModel", "takePair", "(III)I"⟩, 34) := ⟨⟨by decide +kernel, by decide +kernel⟩, List.mem_of_getElem? (i := 767) (by decide +kernel), List.mem_of_getElem? (i := 1148) (by decide +kernel), List.mem_of_getElem? (i := 1149) (by decide +kernel)⟩
theorem lw_p95 : lw_okq (⟨"GlyphPositionsModel", "nextOf", "(II)I"⟩, 34) := ⟨⟨by decide +kernel, by decide +kernel⟩, List.mem_of_getElem? (i := 767) (by decide +kernel), List.mem_of_getElem? (i := 1152) (by decide +kernel), List.mem_of_getElem? (i := 1153) (by decide +kernel)⟩
def lw_privs_6 : List (MethodName × Nat) := [(⟨"GlyphPositionsModel", "choosing", "(IZ)V"⟩, 34), (⟨"GlyphPositionsModel", "isOn", "(I)Z"⟩, 34), (⟨"GlyphPositionsModel", "lookupAt", "(I)I"⟩, 34), (⟨"GlyphPositionsModel", "doAt", "(II)I"⟩, 34), (⟨"GlyphPositionsModel", "typeOf", "(I)I"⟩, 34), (⟨"GlyphPositionsModel", "isPassed", "(II)Z"⟩, 34), (⟨"GlyphPositionsModel", "rangeOf", "(I)I"⟩, 34), (⟨"GlyphPositionsModel", "subtableAt", "(II)I"⟩, 34), (⟨"GlyphPositionsModel", "take", "(IIII)I"⟩, 34), (⟨"GlyphPositionsModel", "takeSingle", "(II)I"⟩, 34), (⟨"GlyphPositionsModel", "covered", "(III)I"⟩, 34), (⟨"GlyphPositionsModel", "indexIn", "(II)I"⟩, 34), (⟨"GlyphPositionsModel", "give", "(III)V"⟩, 34), (⟨"GlyphPositionsModel", "s16", "(I)I"⟩, 34), (⟨"GlyphPositionsModel", "takePair", "(III)I"⟩, 34), (⟨"GlyphPositionsModel", "nextOf", "(II)I"⟩, 34)]
theorem lw_r6 : ∀ q ∈ lw_privs_6, lw_okq q := List.forall_mem_cons.mpr ⟨lw_p80, List.forall_mem_cons.mpr ⟨lw_p81, List.forall_mem_cons.mpr ⟨lw_p82, List.forall_mem_cons.mpr ⟨lw_p83, List.forall_mem_cons.mpr ⟨lw_p84, List.forall_mem_cons.mpr ⟨lw_p85, List.forall_mem_cons.mpr ⟨lw_p86, List.forall_mem_cons.mpr ⟨lw_p87, List.forall_mem_cons.mpr ⟨lw_p88, List.forall_mem_cons.mpr ⟨lw_p89, List.forall_mem_cons.mpr ⟨lw_p90, List.forall_mem_cons.mpr ⟨lw_p91, List.forall_mem_cons.mpr ⟨lw_p92, List.forall_mem_cons.mpr ⟨lw_p93, List.forall_mem_cons.mpr ⟨lw_p94, List.forall_mem_cons.mpr ⟨lw_p95, fun _ h => absurd h List.not_mem_nil⟩⟩⟩⟩⟩⟩⟩⟩⟩⟩⟩⟩⟩⟩⟩⟩
theorem lw_p96 : lw_okq (⟨"GlyphPositionsModel", "valuesOf", "(IIIII)I"⟩, 34) := ⟨⟨by decide +kernel, by decide +kernel⟩, List.mem_of_getElem? (i := 767) (by decide +kernel), List.mem_of_getElem? (i := 1156) (by decide +kernel), List.mem_of_getElem? (i := 1157) (by decide +kernel)⟩
theorem lw_p97 : lw_okq (⟨"GlyphPositionsModel", "classIn", "(II)I"⟩, 34) := ⟨⟨by decide +kernel, by decide +kernel⟩, List.mem_of_getElem? (i := 767) (by decide +kernel), List.mem_of_getElem? (i := 1160) (by decide +kernel), List.mem_of_getElem? (i := 1161) (by decide +kernel)⟩
theorem lw_p98 : lw_okq (⟨"GlyphPositionsModel", "takeJoin", "(III)I"⟩, 34) := ⟨⟨by decide +kernel, by decide +kernel⟩, List.mem_of_getElem? (i := 767) (by decide +kernel), List.mem_of_getElem? (i := 1164) (by decide +kernel), List.mem_of_getElem? (i := 1165) (by decide +kernel)⟩
theorem lw_p99 : lw_okq (⟨"GlyphPositionsModel", "hang", "(IIZII)V"⟩, 34) := ⟨⟨by decide +kernel, by decide +kernel⟩, List.mem_of_getElem? (i := 767) (by decide +kernel), List.mem_of_getElem? (i := 1168) (by decide +kernel), List.mem_of_getElem? (i := 1169) (by decide +kernel)⟩
theorem lw_p100 : lw_okq (⟨"GlyphPositionsModel", "takeMark", "(IIII)I"⟩, 34) := ⟨⟨by decide +kernel, by decide +kernel⟩, List.mem_of_getElem? (i := 767) (by decide +kernel), List.mem_of_getElem? (i := 1172) (by decide +kernel), List.mem_of_getElem? (i := 1173) (by decide +kernel)⟩
theorem lw_p101 : lw_okq (⟨"GlyphPositionsModel", "baseOf", "(III)I"⟩, 34) := ⟨⟨by decide +kernel, by decide +kernel⟩, List.mem_of_getElem? (i := 767) (by decide +kernel), List.mem_of_getElem? (i := 1176) (by decide +kernel), List.mem_of_getElem? (i := 1177) (by decide +kernel)⟩
theorem lw_p102 : lw_okq (⟨"GlyphPositionsModel", "kindOfGlyph", "(I)I"⟩, 34) := ⟨⟨by decide +kernel, by decide +kernel⟩, List.mem_of_getElem? (i := 767) (by decide +kernel), List.mem_of_getElem? (i := 1180) (by decide +kernel), List.mem_of_getElem? (i := 1181) (by decide +kernel)⟩
theorem lw_p103 : lw_okq (⟨"GlyphPositionsModel", "settle", "(I)V"⟩, 34) := ⟨⟨by decide +kernel, by decide +kernel⟩, List.mem_of_getElem? (i := 767) (by decide +kernel), List.mem_of_getElem? (i := 1184) (by decide +kernel), List.mem_of_getElem? (i := 1185) (by decide +kernel)⟩
def lw_privs_7 : List (MethodName × Nat) := [(⟨"GlyphPositionsModel", "valuesOf", "(IIIII)I"⟩, 34), (⟨"GlyphPositionsModel", "classIn", "(II)I"⟩, 34), (⟨"GlyphPositionsModel", "takeJoin", "(III)I"⟩, 34), (⟨"GlyphPositionsModel", "hang", "(IIZII)V"⟩, 34), (⟨"GlyphPositionsModel", "takeMark", "(IIII)I"⟩, 34), (⟨"GlyphPositionsModel", "baseOf", "(III)I"⟩, 34), (⟨"GlyphPositionsModel", "kindOfGlyph", "(I)I"⟩, 34), (⟨"GlyphPositionsModel", "settle", "(I)V"⟩, 34)]
theorem lw_r7 : ∀ q ∈ lw_privs_7, lw_okq q := List.forall_mem_cons.mpr ⟨lw_p96, List.forall_mem_cons.mpr ⟨lw_p97, List.forall_mem_cons.mpr ⟨lw_p98, List.forall_mem_cons.mpr ⟨lw_p99, List.forall_mem_cons.mpr ⟨lw_p100, List.forall_mem_cons.mpr ⟨lw_p101, List.forall_mem_cons.mpr ⟨lw_p102, List.forall_mem_cons.mpr ⟨lw_p103, fun _ h => absurd h List.not_mem_nil⟩⟩⟩⟩⟩⟩⟩⟩
def lw_privs : List (MethodName × Nat) := lw_privs_1 ++ (lw_privs_2 ++ (lw_privs_3 ++ (lw_privs_4 ++ (lw_privs_5 ++ (lw_privs_6 ++ (lw_privs_7))))))
def lw_tbl : List Cond := k2_sels lw_privs ++ tables_1
theorem lw_privs_ok : ∀ q ∈ lw_privs, lw_okq q := by
  show ∀ q ∈ lw_privs_1 ++ (lw_privs_2 ++ (lw_privs_3 ++ (lw_privs_4 ++ (lw_privs_5 ++ (lw_privs_6 ++ (lw_privs_7)))))), lw_okq q
  exact List.forall_mem_append.mpr ⟨lw_r1, List.forall_mem_append.mpr ⟨lw_r2, List.forall_mem_append.mpr ⟨lw_r3, List.forall_mem_append.mpr ⟨lw_r4, List.forall_mem_append.mpr ⟨lw_r5, List.forall_mem_append.mpr ⟨lw_r6, lw_r7⟩⟩⟩⟩⟩⟩
end
section
section QN
def q_tbl : List Cond := lw_tbl.filter goodWord
theorem q_intab {w : Cond} (h : w ∈ tables_1) (hg : goodWord w = true) : w ∈ q_tbl := List.mem_filter.mpr ⟨List.mem_append_right _ h, hg⟩
theorem q_selp {w : Cond} (h : w ∈ k2_sels lw_privs) (hg : goodWord w = true) : w ∈ q_tbl := List.mem_filter.mpr ⟨List.mem_append_left _ h, hg⟩
theorem q_tab1 {w : Cond} (h : w ∈ tables_1_1) (hg : goodWord w = true) : w ∈ q_tbl := q_intab (show w ∈ tables_1 from (List.mem_append_left _ h)) hg
theorem q_tab2 {w : Cond} (h : w ∈ tables_1_2) (hg : goodWord w = true) : w ∈ q_tbl := q_intab (show w ∈ tables_1 from (List.mem_append_right _ (List.mem_append_left _ h))) hg
theorem q_tab3 {w : Cond} (h : w ∈ tables_1_3) (hg : goodWord w = true) : w ∈ q_tbl := q_intab (show w ∈ tables_1 from (List.mem_append_right _ (List.mem_append_right _ (List.mem_append_left _ h)))) hg
theorem q_tab4 {w : Cond} (h : w ∈ tables_1_4) (hg : goodWord w = true) : w ∈ q_tbl := q_intab (show w ∈ tables_1 from (List.mem_append_right _ (List.mem_append_right _ (List.mem_append_right _ (List.mem_append_left _ h))))) hg
theorem q_tab5 {w : Cond} (h : w ∈ tables_1_5) (hg : goodWord w = true) : w ∈ q_tbl := q_intab (show w ∈ tables_1 from (List.mem_append_right _ (List.mem_append_right _ (List.mem_append_right _ (List.mem_append_right _ h))))) hg
theorem q_inr {big : List Cond} (ws : List Cond) (ps : List Nat) (hp : ws = ps.filterMap (fun i => big[i]?)) : ∀ w ∈ ws, w ∈ big := by
  intro w hw
  rw [hp] at hw
  obtain ⟨i, -, hi⟩ := List.mem_filterMap.mp hw
  exact List.mem_of_getElem? hi
theorem q_good : GoodIn q_tbl q_tbl := fun w h => ⟨h, good_of_word (List.mem_filter.mp h).2⟩
def R_GP : String := "GlyphPositions"
def T_GP : u_T := fun k => match k with
  | 0 => ("GlyphPositions", "fed", "LGlyphPositions$Table;", true)
  | 1 => ("GlyphPositions", "font", "LGlyphPositions$Table;", true)
  | 2 => ("GlyphPositions", "loader", "LGlyphPositions$Loader;", true)
  | 3 => ("GlyphPositions", "kinds", "LGlyphPositions$Kinds;", true)
  | 4 => ("GlyphPositions", "tags", "LGlyphPositions$Tags;", true)
  | 5 => ("GlyphPositions", "told", "LGlyphPositions$Told;", true)
  | 6 => ("GlyphPositions", "choice", "LGlyphPositions$Choice;", true)
  | 7 => ("GlyphPositions", "run", "LGlyphPositions$Run;", true)
  | 8 => ("GlyphPositions", "setter", "LGlyphPositions$Setter;", true)
  | 9 => ("GlyphPositions", "loaded", "Z", false)
  | 10 => ("GlyphPositions", "script", "I", false)
  | _ => ("GlyphPositions", "language", "I", false)
def ty_GP : Nat → FieldType := fun k => match k with
  | 0 => .object "GlyphPositions$Table"
  | 1 => .object "GlyphPositions$Table"
  | 2 => .object "GlyphPositions$Loader"
  | 3 => .object "GlyphPositions$Kinds"
  | 4 => .object "GlyphPositions$Tags"
  | 5 => .object "GlyphPositions$Told"
  | 6 => .object "GlyphPositions$Choice"
  | 7 => .object "GlyphPositions$Run"
  | 8 => .object "GlyphPositions$Setter"
  | 9 => .boolean
  | 10 => .int
  | _ => .int
theorem nm_GP : ∀ a, a < 12 → ∀ b, b < 12 → a ≠ b → (T_GP a).2.1 ≠ (T_GP b).2.1 := by decide +kernel
theorem tyok_GP : ∀ k, k < 12 → parseFieldDescriptor (T_GP k).2.2.1 = some (ty_GP k) := by decide +kernel
theorem in_GP : ∀ w ∈ u_ws R_GP T_GP 12, w ∈ q_tbl := fun w h => q_intab (q_inr _ [232, 234, 236, 238, 240, 242, 244, 246, 248, 250, 252, 254] (by decide +kernel) w h) (List.all_eq_true.mp (show (u_ws R_GP T_GP 12).all goodWord = true by decide +kernel) w h)
def R_Choice : String := "GlyphPositions$Choice"
def T_Choice : u_T := fun k => match k with
  | 0 => ("GlyphPositions$Choice", "font", "LGlyphPositions$Table;", true)
  | 1 => ("GlyphPositions$Choice", "tags", "LGlyphPositions$Tags;", true)
  | _ => ("GlyphPositions$Choice", "wanted", "[Z", true)
def ty_Choice : Nat → FieldType := fun k => match k with
  | 0 => .object "GlyphPositions$Table"
  | 1 => .object "GlyphPositions$Tags"
  | _ => .array .boolean
theorem nm_Choice : ∀ a, a < 3 → ∀ b, b < 3 → a ≠ b → (T_Choice a).2.1 ≠ (T_Choice b).2.1 := by decide +kernel
theorem tyok_Choice : ∀ k, k < 3 → parseFieldDescriptor (T_Choice k).2.2.1 = some (ty_Choice k) := by decide +kernel
theorem in_Choice : ∀ w ∈ u_ws R_Choice T_Choice 3, w ∈ q_tbl := fun w h => q_intab (q_inr _ [132, 134, 136] (by decide +kernel) w h) (List.all_eq_true.mp (show (u_ws R_Choice T_Choice 3).all goodWord = true by decide +kernel) w h)
def R_GlyphSets : String := "GlyphPositions$GlyphSets"
def R_Kinds : String := "GlyphPositions$Kinds"
def T_Kinds : u_T := fun k => match k with
  | 0 => ("GlyphPositions$Kinds", "first", "[I", true)
  | 1 => ("GlyphPositions$Kinds", "last", "[I", true)
  | 2 => ("GlyphPositions$Kinds", "kind", "[I", true)
  | 3 => ("GlyphPositions$Kinds", "marks", "[I", true)
  | _ => ("GlyphPositions$Kinds", "count", "I", false)
def ty_Kinds : Nat → FieldType := fun k => match k with
  | 0 => .array .int
  | 1 => .array .int
  | 2 => .array .int
  | 3 => .array .int
  | _ => .int
theorem nm_Kinds : ∀ a, a < 5 → ∀ b, b < 5 → a ≠ b → (T_Kinds a).2.1 ≠ (T_Kinds b).2.1 := by decide +kernel
theorem tyok_Kinds : ∀ k, k < 5 → parseFieldDescriptor (T_Kinds k).2.2.1 = some (ty_Kinds k) := by decide +kernel
theorem in_Kinds : ∀ w ∈ u_ws R_Kinds T_Kinds 5, w ∈ q_tbl := fun w h => q_intab (q_inr _ [69, 71, 73, 75, 77] (by decide +kernel) w h) (List.all_eq_true.mp (show (u_ws R_Kinds T_Kinds 5).all goodWord = true by decide +kernel) w h)
def R_Loader : String := "GlyphPositions$Loader"
def T_Loader : u_T := fun k => match k with
  | 0 => ("GlyphPositions$Loader", "table", "LGlyphPositions$Table;", true)
  | _ => ("GlyphPositions$Loader", "lookedAt", "I", false)
def ty_Loader : Nat → FieldType := fun k => match k with
  | 0 => .object "GlyphPositions$Table"
  | _ => .int
theorem nm_Loader : ∀ a, a < 2 → ∀ b, b < 2 → a ≠ b → (T_Loader a).2.1 ≠ (T_Loader b).2.1 := by decide +kernel
theorem tyok_Loader : ∀ k, k < 2 → parseFieldDescriptor (T_Loader k).2.2.1 = some (ty_Loader k) := by decide +kernel
theorem in_Loader : ∀ w ∈ u_ws R_Loader T_Loader 2, w ∈ q_tbl := fun w h => q_intab (q_inr _ [51, 53] (by decide +kernel) w h) (List.all_eq_true.mp (show (u_ws R_Loader T_Loader 2).all goodWord = true by decide +kernel) w h)
def R_Run : String := "GlyphPositions$Run"
def T_Run : u_T := fun k => match k with
  | 0 => ("GlyphPositions$Run", "width", "[I", true)
  | 1 => ("GlyphPositions$Run", "higher", "[I", true)
  | 2 => ("GlyphPositions$Run", "right", "[I", true)
  | 3 => ("GlyphPositions$Run", "up", "[I", true)
  | 4 => ("GlyphPositions$Run", "hangsOn", "[I", true)
  | 5 => ("GlyphPositions$Run", "hangsByCursive", "[Z", true)
  | 6 => ("GlyphPositions$Run", "hangsRight", "[I", true)
  | 7 => ("GlyphPositions$Run", "hangsUp", "[I", true)
  | _ => ("GlyphPositions$Run", "count", "I", false)
def ty_Run : Nat → FieldType := fun k => match k with
  | 0 => .array .int
  | 1 => .array .int
  | 2 => .array .int
  | 3 => .array .int
  | 4 => .array .int
  | 5 => .array .boolean
  | 6 => .array .int
  | 7 => .array .int
  | _ => .int
theorem nm_Run : ∀ a, a < 9 → ∀ b, b < 9 → a ≠ b → (T_Run a).2.1 ≠ (T_Run b).2.1 := by decide +kernel
theorem tyok_Run : ∀ k, k < 9 → parseFieldDescriptor (T_Run k).2.2.1 = some (ty_Run k) := by decide +kernel
theorem in_Run : ∀ w ∈ u_ws R_Run T_Run 9, w ∈ q_tbl := fun w h => q_intab (q_inr _ [161, 163, 165, 167, 169, 171, 173, 175, 177] (by decide +kernel) w h) (List.all_eq_true.mp (show (u_ws R_Run T_Run 9).all goodWord = true by decide +kernel) w h)
def R_Setter : String := "GlyphPositions$Setter"
def T_Setter : u_T := fun k => match k with
  | 0 => ("GlyphPositions$Setter", "font", "LGlyphPositions$Table;", true)
  | 1 => ("GlyphPositions$Setter", "told", "LGlyphPositions$Told;", true)
  | 2 => ("GlyphPositions$Setter", "kinds", "LGlyphPositions$Kinds;", true)
  | 3 => ("GlyphPositions$Setter", "run", "LGlyphPositions$Run;", true)
  | 4 => ("GlyphPositions$Setter", "kind", "[I", true)
  | 5 => ("GlyphPositions$Setter", "marks", "[I", true)
  | 6 => ("GlyphPositions$Setter", "noMarkBefore", "[I", true)
  | 7 => ("GlyphPositions$Setter", "passedOver", "[Z", true)
  | 8 => ("GlyphPositions$Setter", "before", "[I", true)
  | 9 => ("GlyphPositions$Setter", "next", "[I", true)
  | _ => ("GlyphPositions$Setter", "back", "Z", false)
def ty_Setter : Nat → FieldType := fun k => match k with
  | 0 => .object "GlyphPositions$Table"
  | 1 => .object "GlyphPositions$Told"
  | 2 => .object "GlyphPositions$Kinds"
  | 3 => .object "GlyphPositions$Run"
  | 4 => .array .int
  | 5 => .array .int
  | 6 => .array .int
  | 7 => .array .boolean
  | 8 => .array .int
  | 9 => .array .int
  | _ => .boolean
theorem nm_Setter : ∀ a, a < 11 → ∀ b, b < 11 → a ≠ b → (T_Setter a).2.1 ≠ (T_Setter b).2.1 := by decide +kernel
theorem tyok_Setter : ∀ k, k < 11 → parseFieldDescriptor (T_Setter k).2.2.1 = some (ty_Setter k) := by decide +kernel
theorem in_Setter : ∀ w ∈ u_ws R_Setter T_Setter 11, w ∈ q_tbl := fun w h => q_intab (q_inr _ [197, 199, 201, 203, 205, 207, 209, 211, 213, 215, 217] (by decide +kernel) w h) (List.all_eq_true.mp (show (u_ws R_Setter T_Setter 11).all goodWord = true by decide +kernel) w h)
def R_Table : String := "GlyphPositions$Table"
def T_Table : u_T := fun k => match k with
  | 0 => ("GlyphPositions$Table", "bytes", "[B", true)
  | _ => ("GlyphPositions$Table", "size", "I", false)
def ty_Table : Nat → FieldType := fun k => match k with
  | 0 => .array .byte
  | _ => .int
theorem nm_Table : ∀ a, a < 2 → ∀ b, b < 2 → a ≠ b → (T_Table a).2.1 ≠ (T_Table b).2.1 := by decide +kernel
theorem tyok_Table : ∀ k, k < 2 → parseFieldDescriptor (T_Table k).2.2.1 = some (ty_Table k) := by decide +kernel
theorem in_Table : ∀ w ∈ u_ws R_Table T_Table 2, w ∈ q_tbl := fun w h => q_intab (q_inr _ [37, 39] (by decide +kernel) w h) (List.all_eq_true.mp (show (u_ws R_Table T_Table 2).all goodWord = true by decide +kernel) w h)
def R_Tags : String := "GlyphPositions$Tags"
def T_Tags : u_T := fun k => match k with
  | 0 => ("GlyphPositions$Tags", "tag", "[I", true)
  | 1 => ("GlyphPositions$Tags", "on", "[Z", true)
  | _ => ("GlyphPositions$Tags", "count", "I", false)
def ty_Tags : Nat → FieldType := fun k => match k with
  | 0 => .array .int
  | 1 => .array .boolean
  | _ => .int
theorem nm_Tags : ∀ a, a < 3 → ∀ b, b < 3 → a ≠ b → (T_Tags a).2.1 ≠ (T_Tags b).2.1 := by decide +kernel
theorem tyok_Tags : ∀ k, k < 3 → parseFieldDescriptor (T_Tags k).2.2.1 = some (ty_Tags k) := by decide +kernel
theorem in_Tags : ∀ w ∈ u_ws R_Tags T_Tags 3, w ∈ q_tbl := fun w h => q_intab (q_inr _ [90, 92, 94] (by decide +kernel) w h) (List.all_eq_true.mp (show (u_ws R_Tags T_Tags 3).all goodWord = true by decide +kernel) w h)
def R_Told : String := "GlyphPositions$Told"
def T_Told : u_T := fun k => match k with
  | 0 => ("GlyphPositions$Told", "glyph", "[I", true)
  | 1 => ("GlyphPositions$Told", "width", "[I", true)
  | 2 => ("GlyphPositions$Told", "part", "[I", true)
  | _ => ("GlyphPositions$Told", "count", "I", false)
def ty_Told : Nat → FieldType := fun k => match k with
  | 0 => .array .int
  | 1 => .array .int
  | 2 => .array .int
  | _ => .int
theorem nm_Told : ∀ a, a < 4 → ∀ b, b < 4 → a ≠ b → (T_Told a).2.1 ≠ (T_Told b).2.1 := by decide +kernel
theorem tyok_Told : ∀ k, k < 4 → parseFieldDescriptor (T_Told k).2.2.1 = some (ty_Told k) := by decide +kernel
theorem in_Told : ∀ w ∈ u_ws R_Told T_Told 4, w ∈ q_tbl := fun w h => q_intab (q_inr _ [113, 115, 117, 119] (by decide +kernel) w h) (List.all_eq_true.mp (show (u_ws R_Told T_Told 4).all goodWord = true by decide +kernel) w h)
def R_GlyphPositionsModel : String := "GlyphPositionsModel"
def T_GlyphPositionsModel : u_T := fun k => match k with
  | 0 => ("GlyphPositionsModel", "fault", "I", false)
  | 1 => ("GlyphPositionsModel", "size", "I", false)
  | 2 => ("GlyphPositionsModel", "tape", "[I", true)
  | 3 => ("GlyphPositionsModel", "isFont", "Z", false)
  | 4 => ("GlyphPositionsModel", "font", "[I", true)
  | 5 => ("GlyphPositionsModel", "bad", "Z", false)
  | 6 => ("GlyphPositionsModel", "looked", "I", false)
  | 7 => ("GlyphPositionsModel", "ranges", "I", false)
  | 8 => ("GlyphPositionsModel", "firsts", "[I", true)
  | 9 => ("GlyphPositionsModel", "lasts", "[I", true)
  | 10 => ("GlyphPositionsModel", "kinds", "[I", true)
  | 11 => ("GlyphPositionsModel", "marks", "[I", true)
  | 12 => ("GlyphPositionsModel", "script", "I", false)
  | 13 => ("GlyphPositionsModel", "language", "I", false)
  | 14 => ("GlyphPositionsModel", "tags", "I", false)
  | 15 => ("GlyphPositionsModel", "tag", "[I", true)
  | 16 => ("GlyphPositionsModel", "isOn", "[Z", true)
  | 17 => ("GlyphPositionsModel", "told", "I", false)
  | 18 => ("GlyphPositionsModel", "toldGlyph", "[I", true)
  | 19 => ("GlyphPositionsModel", "toldWidth", "[I", true)
  | 20 => ("GlyphPositionsModel", "toldPart", "[I", true)
  | 21 => ("GlyphPositionsModel", "chosen", "[Z", true)
  | 22 => ("GlyphPositionsModel", "many", "I", false)
  | 23 => ("GlyphPositionsModel", "isBack", "Z", false)
  | 24 => ("GlyphPositionsModel", "glyphs", "[I", true)
  | 25 => ("GlyphPositionsModel", "parts", "[I", true)
  | 26 => ("GlyphPositionsModel", "widths", "[I", true)
  | 27 => ("GlyphPositionsModel", "heights", "[I", true)
  | 28 => ("GlyphPositionsModel", "rights", "[I", true)
  | 29 => ("GlyphPositionsModel", "ups", "[I", true)
  | 30 => ("GlyphPositionsModel", "hangs", "[I", true)
  | 31 => ("GlyphPositionsModel", "isJoined", "[Z", true)
  | 32 => ("GlyphPositionsModel", "hangRight", "[I", true)
  | _ => ("GlyphPositionsModel", "hangUp", "[I", true)
def ty_GlyphPositionsModel : Nat → FieldType := fun k => match k with
  | 0 => .int
  | 1 => .int
  | 2 => .array .int
  | 3 => .boolean
  | 4 => .array .int
  | 5 => .boolean
  | 6 => .int
  | 7 => .int
  | 8 => .array .int
  | 9 => .array .int
  | 10 => .array .int
  | 11 => .array .int
  | 12 => .int
  | 13 => .int
  | 14 => .int
  | 15 => .array .int
  | 16 => .array .boolean
  | 17 => .int
  | 18 => .array .int
  | 19 => .array .int
  | 20 => .array .int
  | 21 => .array .boolean
  | 22 => .int
  | 23 => .boolean
  | 24 => .array .int
  | 25 => .array .int
  | 26 => .array .int
  | 27 => .array .int
  | 28 => .array .int
  | 29 => .array .int
  | 30 => .array .int
  | 31 => .array .boolean
  | 32 => .array .int
  | _ => .array .int
theorem nm_GlyphPositionsModel : ∀ a, a < 34 → ∀ b, b < 34 → a ≠ b → (T_GlyphPositionsModel a).2.1 ≠ (T_GlyphPositionsModel b).2.1 := by decide +kernel
theorem tyok_GlyphPositionsModel : ∀ k, k < 34 → parseFieldDescriptor (T_GlyphPositionsModel k).2.2.1 = some (ty_GlyphPositionsModel k) := by decide +kernel
theorem in_GlyphPositionsModel : ∀ w ∈ u_ws R_GlyphPositionsModel T_GlyphPositionsModel 34, w ∈ q_tbl := fun w h => q_intab (q_inr _ [806, 808, 810, 812, 814, 816, 818, 820, 822, 824, 826, 828, 830, 832, 834, 836, 838, 840, 842, 844, 846, 848, 850, 852, 854, 856, 858, 860, 862, 864, 866, 868, 870, 872] (by decide +kernel) w h) (List.all_eq_true.mp (show (u_ws R_GlyphPositionsModel T_GlyphPositionsModel 34).all goodWord = true by decide +kernel) w h)
def R_Integer : String := "java/lang/Integer"
abbrev vwCl : List vw_C := [(R_GP, T_GP, 12), (R_Choice, T_Choice, 3), (R_Kinds, T_Kinds, 5), (R_Loader, T_Loader, 2), (R_Run, T_Run, 9), (R_Setter, T_Setter, 11), (R_Table, T_Table, 2), (R_Tags, T_Tags, 3), (R_Told, T_Told, 4), (R_GlyphPositionsModel, T_GlyphPositionsModel, 34)]
end QN
end
section
abbrev b_Table_lies : ByteArray := prog_8_method_6_code
def y_Table_lies : MethodName := ⟨R_Table, "lies", "(II)Z"⟩
theorem d_Table_lies_0 : decode b_Table_lies 0 = .ok (.iload_n 1, 1) := by decide +kernel
theorem d_Table_lies_1 : decode b_Table_lies 1 = .ok (.ifCond .lt 21, 3) := by decide +kernel
theorem d_Table_lies_4 : decode b_Table_lies 4 = .ok (.iload_n 2, 1) := by decide +kernel
theorem d_Table_lies_5 : decode b_Table_lies 5 = .ok (.ifCond .lt 17, 3) := by decide +kernel
theorem d_Table_lies_8 : decode b_Table_lies 8 = .ok (.iload_n 1, 1) := by decide +kernel
theorem d_Table_lies_9 : decode b_Table_lies 9 = .ok (.aload_n 0, 1) := by decide +kernel
theorem d_Table_lies_10 : decode b_Table_lies 10 = .ok (.getfield 15, 3) := by decide +kernel
theorem d_Table_lies_13 : decode b_Table_lies 13 = .ok (.iload_n 2, 1) := by decide +kernel
theorem d_Table_lies_14 : decode b_Table_lies 14 = .ok (.isub, 1) := by decide +kernel
theorem d_Table_lies_15 : decode b_Table_lies 15 = .ok (.if_icmp .gt 7, 3) := by decide +kernel
theorem d_Table_lies_18 : decode b_Table_lies 18 = .ok (.iconst 1, 1) := by decide +kernel
theorem d_Table_lies_19 : decode b_Table_lies 19 = .ok (.goto 4, 3) := by decide +kernel
theorem d_Table_lies_22 : decode b_Table_lies 22 = .ok (.iconst 0, 1) := by decide +kernel
theorem d_Table_lies_23 : decode b_Table_lies 23 = .ok (.ireturn, 1) := by decide +kernel
abbrev b_Table_u16 : ByteArray := prog_8_method_7_code
def y_Table_u16 : MethodName := ⟨R_Table, "u16", "(I)I"⟩
theorem d_Table_u16_0 : decode b_Table_u16 0 = .ok (.iload_n 1, 1) := by decide +kernel
theorem d_Table_u16_1 : decode b_Table_u16 1 = .ok (.ifCond .lt 13, 3) := by decide +kernel
theorem d_Table_u16_4 : decode b_Table_u16 4 = .ok (.iload_n 1, 1) := by decide +kernel
theorem d_Table_u16_5 : decode b_Table_u16 5 = .ok (.aload_n 0, 1) := by decide +kernel
theorem d_Table_u16_6 : decode b_Table_u16 6 = .ok (.getfield 15, 3) := by decide +kernel
theorem d_Table_u16_9 : decode b_Table_u16 9 = .ok (.iconst 2, 1) := by decide +kernel
theorem d_Table_u16_10 : decode b_Table_u16 10 = .ok (.isub, 1) := by decide +kernel
theorem d_Table_u16_11 : decode b_Table_u16 11 = .ok (.if_icmp .le 5, 3) := by decide +kernel
theorem d_Table_u16_14 : decode b_Table_u16 14 = .ok (.iconst 0, 1) := by decide +kernel
theorem d_Table_u16_15 : decode b_Table_u16 15 = .ok (.ireturn, 1) := by decide +kernel
theorem d_Table_u16_16 : decode b_Table_u16 16 = .ok (.aload_n 0, 1) := by decide +kernel
theorem d_Table_u16_17 : decode b_Table_u16 17 = .ok (.getfield 9, 3) := by decide +kernel
theorem d_Table_u16_20 : decode b_Table_u16 20 = .ok (.iload_n 1, 1) := by decide +kernel
theorem d_Table_u16_21 : decode b_Table_u16 21 = .ok (.baload, 1) := by decide +kernel
theorem d_Table_u16_22 : decode b_Table_u16 22 = .ok (.sipush 255, 3) := by decide +kernel
theorem d_Table_u16_25 : decode b_Table_u16 25 = .ok (.iand, 1) := by decide +kernel
theorem d_Table_u16_26 : decode b_Table_u16 26 = .ok (.bipush 8, 2) := by decide +kernel
theorem d_Table_u16_28 : decode b_Table_u16 28 = .ok (.ishl, 1) := by decide +kernel
theorem d_Table_u16_29 : decode b_Table_u16 29 = .ok (.aload_n 0, 1) := by decide +kernel
theorem d_Table_u16_30 : decode b_Table_u16 30 = .ok (.getfield 9, 3) := by decide +kernel
theorem d_Table_u16_33 : decode b_Table_u16 33 = .ok (.iload_n 1, 1) := by decide +kernel
theorem d_Table_u16_34 : decode b_Table_u16 34 = .ok (.iconst 1, 1) := by decide +kernel
theorem d_Table_u16_35 : decode b_Table_u16 35 = .ok (.iadd, 1) := by decide +kernel
theorem d_Table_u16_36 : decode b_Table_u16 36 = .ok (.baload, 1) := by decide +kernel
theorem d_Table_u16_37 : decode b_Table_u16 37 = .ok (.sipush 255, 3) := by decide +kernel
theorem d_Table_u16_40 : decode b_Table_u16 40 = .ok (.iand, 1) := by decide +kernel
theorem d_Table_u16_41 : decode b_Table_u16 41 = .ok (.ior, 1) := by decide +kernel
theorem d_Table_u16_42 : decode b_Table_u16 42 = .ok (.ireturn, 1) := by decide +kernel
abbrev b_Table_u32 : ByteArray := prog_8_method_9_code
def y_Table_u32 : MethodName := ⟨R_Table, "u32", "(I)I"⟩
theorem d_Table_u32_0 : decode b_Table_u32 0 = .ok (.aload_n 0, 1) := by decide +kernel
theorem d_Table_u32_1 : decode b_Table_u32 1 = .ok (.iload_n 1, 1) := by decide +kernel
theorem d_Table_u32_2 : decode b_Table_u32 2 = .ok (.invokevirtual 25, 3) := by decide +kernel
theorem d_Table_u32_5 : decode b_Table_u32 5 = .ok (.bipush 16, 2) := by decide +kernel
theorem d_Table_u32_7 : decode b_Table_u32 7 = .ok (.ishl, 1) := by decide +kernel
theorem d_Table_u32_8 : decode b_Table_u32 8 = .ok (.aload_n 0, 1) := by decide +kernel
theorem d_Table_u32_9 : decode b_Table_u32 9 = .ok (.iload_n 1, 1) := by decide +kernel
theorem d_Table_u32_10 : decode b_Table_u32 10 = .ok (.iconst 2, 1) := by decide +kernel
theorem d_Table_u32_11 : decode b_Table_u32 11 = .ok (.iadd, 1) := by decide +kernel
theorem d_Table_u32_12 : decode b_Table_u32 12 = .ok (.invokevirtual 25, 3) := by decide +kernel
theorem d_Table_u32_15 : decode b_Table_u32 15 = .ok (.ior, 1) := by decide +kernel
theorem d_Table_u32_16 : decode b_Table_u32 16 = .ok (.ireturn, 1) := by decide +kernel
abbrev b_Table_append : ByteArray := prog_8_method_2_code
def y_Table_append : MethodName := ⟨R_Table, "append", "(I)Z"⟩
theorem d_Table_append_0 : decode b_Table_append 0 = .ok (.aload_n 0, 1) := by decide +kernel
theorem d_Table_append_1 : decode b_Table_append 1 = .ok (.getfield 15, 3) := by decide +kernel
theorem d_Table_append_4 : decode b_Table_append 4 = .ok (.sipush 8188, 3) := by decide +kernel
theorem d_Table_append_7 : decode b_Table_append 7 = .ok (.if_icmp .le 5, 3) := by decide +kernel
theorem d_Table_append_10 : decode b_Table_append 10 = .ok (.iconst 0, 1) := by decide +kernel
theorem d_Table_append_11 : decode b_Table_append 11 = .ok (.ireturn, 1) := by decide +kernel
theorem d_Table_append_12 : decode b_Table_append 12 = .ok (.aload_n 0, 1) := by decide +kernel
theorem d_Table_append_13 : decode b_Table_append 13 = .ok (.getfield 9, 3) := by decide +kernel
theorem d_Table_append_16 : decode b_Table_append 16 = .ok (.aload_n 0, 1) := by decide +kernel
theorem d_Table_append_17 : decode b_Table_append 17 = .ok (.getfield 15, 3) := by decide +kernel
theorem d_Table_append_20 : decode b_Table_append 20 = .ok (.iload_n 1, 1) := by decide +kernel
theorem d_Table_append_21 : decode b_Table_append 21 = .ok (.bipush 24, 2) := by decide +kernel
theorem d_Table_append_23 : decode b_Table_append 23 = .ok (.iushr, 1) := by decide +kernel
theorem d_Table_append_24 : decode b_Table_append 24 = .ok (.i2b, 1) := by decide +kernel
theorem d_Table_append_25 : decode b_Table_append 25 = .ok (.bastore, 1) := by decide +kernel
theorem d_Table_append_26 : decode b_Table_append 26 = .ok (.aload_n 0, 1) := by decide +kernel
theorem d_Table_append_27 : decode b_Table_append 27 = .ok (.getfield 9, 3) := by decide +kernel
theorem d_Table_append_30 : decode b_Table_append 30 = .ok (.aload_n 0, 1) := by decide +kernel
theorem d_Table_append_31 : decode b_Table_append 31 = .ok (.getfield 15, 3) := by decide +kernel
theorem d_Table_append_34 : decode b_Table_append 34 = .ok (.iconst 1, 1) := by decide +kernel
theorem d_Table_append_35 : decode b_Table_append 35 = .ok (.iadd, 1) := by decide +kernel
theorem d_Table_append_36 : decode b_Table_append 36 = .ok (.iload_n 1, 1) := by decide +kernel
theorem d_Table_append_37 : decode b_Table_append 37 = .ok (.bipush 16, 2) := by decide +kernel
theorem d_Table_append_39 : decode b_Table_append 39 = .ok (.iushr, 1) := by decide +kernel
theorem d_Table_append_40 : decode b_Table_append 40 = .ok (.i2b, 1) := by decide +kernel
theorem d_Table_append_41 : decode b_Table_append 41 = .ok (.bastore, 1) := by decide +kernel
theorem d_Table_append_42 : decode b_Table_append 42 = .ok (.aload_n 0, 1) := by decide +kernel
theorem d_Table_append_43 : decode b_Table_append 43 = .ok (.getfield 9, 3) := by decide +kernel
theorem d_Table_append_46 : decode b_Table_append 46 = .ok (.aload_n 0, 1) := by decide +kernel
theorem d_Table_append_47 : decode b_Table_append 47 = .ok (.getfield 15, 3) := by decide +kernel
theorem d_Table_append_50 : decode b_Table_append 50 = .ok (.iconst 2, 1) := by decide +kernel
theorem d_Table_append_51 : decode b_Table_append 51 = .ok (.iadd, 1) := by decide +kernel
theorem d_Table_append_52 : decode b_Table_append 52 = .ok (.iload_n 1, 1) := by decide +kernel
theorem d_Table_append_53 : decode b_Table_append 53 = .ok (.bipush 8, 2) := by decide +kernel
theorem d_Table_append_55 : decode b_Table_append 55 = .ok (.iushr, 1) := by decide +kernel
theorem d_Table_append_56 : decode b_Table_append 56 = .ok (.i2b, 1) := by decide +kernel
theorem d_Table_append_57 : decode b_Table_append 57 = .ok (.bastore, 1) := by decide +kernel
theorem d_Table_append_58 : decode b_Table_append 58 = .ok (.aload_n 0, 1) := by decide +kernel
theorem d_Table_append_59 : decode b_Table_append 59 = .ok (.getfield 9, 3) := by decide +kernel
theorem d_Table_append_62 : decode b_Table_append 62 = .ok (.aload_n 0, 1) := by decide +kernel
theorem d_Table_append_63 : decode b_Table_append 63 = .ok (.getfield 15, 3) := by decide +kernel
theorem d_Table_append_66 : decode b_Table_append 66 = .ok (.iconst 3, 1) := by decide +kernel
theorem d_Table_append_67 : decode b_Table_append 67 = .ok (.iadd, 1) := by decide +kernel
theorem d_Table_append_68 : decode b_Table_append 68 = .ok (.iload_n 1, 1) := by decide +kernel
theorem d_Table_append_69 : decode b_Table_append 69 = .ok (.i2b, 1) := by decide +kernel
theorem d_Table_append_70 : decode b_Table_append 70 = .ok (.bastore, 1) := by decide +kernel
theorem d_Table_append_71 : decode b_Table_append 71 = .ok (.aload_n 0, 1) := by decide +kernel
theorem d_Table_append_72 : decode b_Table_append 72 = .ok (.dup, 1) := by decide +kernel
theorem d_Table_append_73 : decode b_Table_append 73 = .ok (.getfield 15, 3) := by decide +kernel
theorem d_Table_append_76 : decode b_Table_append 76 = .ok (.iconst 4, 1) := by decide +kernel
theorem d_Table_append_77 : decode b_Table_append 77 = .ok (.iadd, 1) := by decide +kernel
theorem d_Table_append_78 : decode b_Table_append 78 = .ok (.putfield 15, 3) := by decide +kernel
theorem d_Table_append_81 : decode b_Table_append 81 = .ok (.iconst 1, 1) := by decide +kernel
theorem d_Table_append_82 : decode b_Table_append 82 = .ok (.ireturn, 1) := by decide +kernel
abbrev b_Table_replace : ByteArray := prog_8_method_3_code
def y_Table_replace : MethodName := ⟨R_Table, "replace", "(II)I"⟩
theorem d_Table_replace_0 : decode b_Table_replace 0 = .ok (.iload_n 1, 1) := by decide +kernel
theorem d_Table_replace_1 : decode b_Table_replace 1 = .ok (.ifCond .lt 11, 3) := by decide +kernel
theorem d_Table_replace_4 : decode b_Table_replace 4 = .ok (.iload_n 1, 1) := by decide +kernel
theorem d_Table_replace_5 : decode b_Table_replace 5 = .ok (.aload_n 0, 1) := by decide +kernel
theorem d_Table_replace_6 : decode b_Table_replace 6 = .ok (.getfield 15, 3) := by decide +kernel
theorem d_Table_replace_9 : decode b_Table_replace 9 = .ok (.if_icmp .lt 5, 3) := by decide +kernel
theorem d_Table_replace_12 : decode b_Table_replace 12 = .ok (.iconst 0, 1) := by decide +kernel
theorem d_Table_replace_13 : decode b_Table_replace 13 = .ok (.ireturn, 1) := by decide +kernel
theorem d_Table_replace_14 : decode b_Table_replace 14 = .ok (.aload_n 0, 1) := by decide +kernel
theorem d_Table_replace_15 : decode b_Table_replace 15 = .ok (.getfield 9, 3) := by decide +kernel
theorem d_Table_replace_18 : decode b_Table_replace 18 = .ok (.iload_n 1, 1) := by decide +kernel
theorem d_Table_replace_19 : decode b_Table_replace 19 = .ok (.baload, 1) := by decide +kernel
theorem d_Table_replace_20 : decode b_Table_replace 20 = .ok (.sipush 255, 3) := by decide +kernel
theorem d_Table_replace_23 : decode b_Table_replace 23 = .ok (.iand, 1) := by decide +kernel
theorem d_Table_replace_24 : decode b_Table_replace 24 = .ok (.istore_n 3, 1) := by decide +kernel
theorem d_Table_replace_25 : decode b_Table_replace 25 = .ok (.aload_n 0, 1) := by decide +kernel
theorem d_Table_replace_26 : decode b_Table_replace 26 = .ok (.getfield 9, 3) := by decide +kernel
theorem d_Table_replace_29 : decode b_Table_replace 29 = .ok (.iload_n 1, 1) := by decide +kernel
theorem d_Table_replace_30 : decode b_Table_replace 30 = .ok (.iload_n 2, 1) := by decide +kernel
theorem d_Table_replace_31 : decode b_Table_replace 31 = .ok (.i2b, 1) := by decide +kernel
theorem d_Table_replace_32 : decode b_Table_replace 32 = .ok (.bastore, 1) := by decide +kernel
theorem d_Table_replace_33 : decode b_Table_replace 33 = .ok (.iload_n 3, 1) := by decide +kernel
theorem d_Table_replace_34 : decode b_Table_replace 34 = .ok (.ireturn, 1) := by decide +kernel
abbrev b_Table_shorten : ByteArray := prog_8_method_4_code
def y_Table_shorten : MethodName := ⟨R_Table, "shorten", "(I)I"⟩
theorem d_Table_shorten_0 : decode b_Table_shorten 0 = .ok (.iload_n 1, 1) := by decide +kernel
theorem d_Table_shorten_1 : decode b_Table_shorten 1 = .ok (.ifCond .lt 20, 3) := by decide +kernel
theorem d_Table_shorten_4 : decode b_Table_shorten 4 = .ok (.iload_n 1, 1) := by decide +kernel
theorem d_Table_shorten_5 : decode b_Table_shorten 5 = .ok (.aload_n 0, 1) := by decide +kernel
theorem d_Table_shorten_6 : decode b_Table_shorten 6 = .ok (.getfield 15, 3) := by decide +kernel
theorem d_Table_shorten_9 : decode b_Table_shorten 9 = .ok (.if_icmp .ge 12, 3) := by decide +kernel
theorem d_Table_shorten_12 : decode b_Table_shorten 12 = .ok (.aload_n 0, 1) := by decide +kernel
theorem d_Table_shorten_13 : decode b_Table_shorten 13 = .ok (.getfield 15, 3) := by decide +kernel
theorem d_Table_shorten_16 : decode b_Table_shorten 16 = .ok (.iload_n 1, 1) := by decide +kernel
theorem d_Table_shorten_17 : decode b_Table_shorten 17 = .ok (.isub, 1) := by decide +kernel
theorem d_Table_shorten_18 : decode b_Table_shorten 18 = .ok (.goto 4, 3) := by decide +kernel
theorem d_Table_shorten_21 : decode b_Table_shorten 21 = .ok (.iconst 0, 1) := by decide +kernel
theorem d_Table_shorten_22 : decode b_Table_shorten 22 = .ok (.istore_n 2, 1) := by decide +kernel
theorem d_Table_shorten_23 : decode b_Table_shorten 23 = .ok (.aload_n 0, 1) := by decide +kernel
theorem d_Table_shorten_24 : decode b_Table_shorten 24 = .ok (.dup, 1) := by decide +kernel
theorem d_Table_shorten_25 : decode b_Table_shorten 25 = .ok (.getfield 15, 3) := by decide +kernel
theorem d_Table_shorten_28 : decode b_Table_shorten 28 = .ok (.iload_n 2, 1) := by decide +kernel
theorem d_Table_shorten_29 : decode b_Table_shorten 29 = .ok (.isub, 1) := by decide +kernel
theorem d_Table_shorten_30 : decode b_Table_shorten 30 = .ok (.putfield 15, 3) := by decide +kernel
theorem d_Table_shorten_33 : decode b_Table_shorten 33 = .ok (.iload_n 2, 1) := by decide +kernel
theorem d_Table_shorten_34 : decode b_Table_shorten 34 = .ok (.ireturn, 1) := by decide +kernel
abbrev b_Table_s16 : ByteArray := prog_8_method_8_code
def y_Table_s16 : MethodName := ⟨R_Table, "s16", "(I)I"⟩
theorem d_Table_s16_0 : decode b_Table_s16 0 = .ok (.aload_n 0, 1) := by decide +kernel
theorem d_Table_s16_1 : decode b_Table_s16 1 = .ok (.iload_n 1, 1) := by decide +kernel
theorem d_Table_s16_2 : decode b_Table_s16 2 = .ok (.invokevirtual 25, 3) := by decide +kernel
theorem d_Table_s16_5 : decode b_Table_s16 5 = .ok (.i2s, 1) := by decide +kernel
theorem d_Table_s16_6 : decode b_Table_s16 6 = .ok (.ireturn, 1) := by decide +kernel
abbrev b_Integer_bitCount : ByteArray := prog_17_method_49_code
def y_Integer_bitCount : MethodName := ⟨R_Integer, "bitCount", "(I)I"⟩
theorem d_Integer_bitCount_0 : decode b_Integer_bitCount 0 = .ok (.iload_n 0, 1) := by decide +kernel
theorem d_Integer_bitCount_1 : decode b_Integer_bitCount 1 = .ok (.iload_n 0, 1) := by decide +kernel
theorem d_Integer_bitCount_2 : decode b_Integer_bitCount 2 = .ok (.iconst 1, 1) := by decide +kernel
theorem d_Integer_bitCount_3 : decode b_Integer_bitCount 3 = .ok (.iushr, 1) := by decide +kernel
theorem d_Integer_bitCount_4 : decode b_Integer_bitCount 4 = .ok (.ldc_w 265, 3) := by decide +kernel
theorem d_Integer_bitCount_7 : decode b_Integer_bitCount 7 = .ok (.iand, 1) := by decide +kernel
theorem d_Integer_bitCount_8 : decode b_Integer_bitCount 8 = .ok (.isub, 1) := by decide +kernel
theorem d_Integer_bitCount_9 : decode b_Integer_bitCount 9 = .ok (.istore_n 0, 1) := by decide +kernel
theorem d_Integer_bitCount_10 : decode b_Integer_bitCount 10 = .ok (.iload_n 0, 1) := by decide +kernel
theorem d_Integer_bitCount_11 : decode b_Integer_bitCount 11 = .ok (.ldc_w 266, 3) := by decide +kernel
theorem d_Integer_bitCount_14 : decode b_Integer_bitCount 14 = .ok (.iand, 1) := by decide +kernel
theorem d_Integer_bitCount_15 : decode b_Integer_bitCount 15 = .ok (.iload_n 0, 1) := by decide +kernel
theorem d_Integer_bitCount_16 : decode b_Integer_bitCount 16 = .ok (.iconst 2, 1) := by decide +kernel
theorem d_Integer_bitCount_17 : decode b_Integer_bitCount 17 = .ok (.iushr, 1) := by decide +kernel
theorem d_Integer_bitCount_18 : decode b_Integer_bitCount 18 = .ok (.ldc_w 266, 3) := by decide +kernel
theorem d_Integer_bitCount_21 : decode b_Integer_bitCount 21 = .ok (.iand, 1) := by decide +kernel
theorem d_Integer_bitCount_22 : decode b_Integer_bitCount 22 = .ok (.iadd, 1) := by decide +kernel
theorem d_Integer_bitCount_23 : decode b_Integer_bitCount 23 = .ok (.istore_n 0, 1) := by decide +kernel
theorem d_Integer_bitCount_24 : decode b_Integer_bitCount 24 = .ok (.iload_n 0, 1) := by decide +kernel
theorem d_Integer_bitCount_25 : decode b_Integer_bitCount 25 = .ok (.iload_n 0, 1) := by decide +kernel
theorem d_Integer_bitCount_26 : decode b_Integer_bitCount 26 = .ok (.iconst 4, 1) := by decide +kernel
theorem d_Integer_bitCount_27 : decode b_Integer_bitCount 27 = .ok (.iushr, 1) := by decide +kernel
theorem d_Integer_bitCount_28 : decode b_Integer_bitCount 28 = .ok (.iadd, 1) := by decide +kernel
theorem d_Integer_bitCount_29 : decode b_Integer_bitCount 29 = .ok (.ldc_w 267, 3) := by decide +kernel
theorem d_Integer_bitCount_32 : decode b_Integer_bitCount 32 = .ok (.iand, 1) := by decide +kernel
theorem d_Integer_bitCount_33 : decode b_Integer_bitCount 33 = .ok (.istore_n 0, 1) := by decide +kernel
theorem d_Integer_bitCount_34 : decode b_Integer_bitCount 34 = .ok (.iload_n 0, 1) := by decide +kernel
theorem d_Integer_bitCount_35 : decode b_Integer_bitCount 35 = .ok (.iload_n 0, 1) := by decide +kernel
theorem d_Integer_bitCount_36 : decode b_Integer_bitCount 36 = .ok (.bipush 8, 2) := by decide +kernel
theorem d_Integer_bitCount_38 : decode b_Integer_bitCount 38 = .ok (.iushr, 1) := by decide +kernel
theorem d_Integer_bitCount_39 : decode b_Integer_bitCount 39 = .ok (.iadd, 1) := by decide +kernel
theorem d_Integer_bitCount_40 : decode b_Integer_bitCount 40 = .ok (.istore_n 0, 1) := by decide +kernel
theorem d_Integer_bitCount_41 : decode b_Integer_bitCount 41 = .ok (.iload_n 0, 1) := by decide +kernel
theorem d_Integer_bitCount_42 : decode b_Integer_bitCount 42 = .ok (.iload_n 0, 1) := by decide +kernel
theorem d_Integer_bitCount_43 : decode b_Integer_bitCount 43 = .ok (.bipush 16, 2) := by decide +kernel
theorem d_Integer_bitCount_45 : decode b_Integer_bitCount 45 = .ok (.iushr, 1) := by decide +kernel
theorem d_Integer_bitCount_46 : decode b_Integer_bitCount 46 = .ok (.iadd, 1) := by decide +kernel
theorem d_Integer_bitCount_47 : decode b_Integer_bitCount 47 = .ok (.istore_n 0, 1) := by decide +kernel
theorem d_Integer_bitCount_48 : decode b_Integer_bitCount 48 = .ok (.iload_n 0, 1) := by decide +kernel
theorem d_Integer_bitCount_49 : decode b_Integer_bitCount 49 = .ok (.bipush 63, 2) := by decide +kernel
theorem d_Integer_bitCount_51 : decode b_Integer_bitCount 51 = .ok (.iand, 1) := by decide +kernel
theorem d_Integer_bitCount_52 : decode b_Integer_bitCount 52 = .ok (.ireturn, 1) := by decide +kernel
abbrev b_Integer_compare : ByteArray := prog_17_method_40_code
def y_Integer_compare : MethodName := ⟨R_Integer, "compare", "(II)I"⟩
theorem d_Integer_compare_0 : decode b_Integer_compare 0 = .ok (.iload_n 0, 1) := by decide +kernel
theorem d_Integer_compare_1 : decode b_Integer_compare 1 = .ok (.iload_n 1, 1) := by decide +kernel
theorem d_Integer_compare_2 : decode b_Integer_compare 2 = .ok (.if_icmp .ge 7, 3) := by decide +kernel
theorem d_Integer_compare_5 : decode b_Integer_compare 5 = .ok (.iconst (-1), 1) := by decide +kernel
theorem d_Integer_compare_6 : decode b_Integer_compare 6 = .ok (.goto 13, 3) := by decide +kernel
theorem d_Integer_compare_9 : decode b_Integer_compare 9 = .ok (.iload_n 0, 1) := by decide +kernel
theorem d_Integer_compare_10 : decode b_Integer_compare 10 = .ok (.iload_n 1, 1) := by decide +kernel
theorem d_Integer_compare_11 : decode b_Integer_compare 11 = .ok (.if_icmp .ne 7, 3) := by decide +kernel
theorem d_Integer_compare_14 : decode b_Integer_compare 14 = .ok (.iconst 0, 1) := by decide +kernel
theorem d_Integer_compare_15 : decode b_Integer_compare 15 = .ok (.goto 4, 3) := by decide +kernel
theorem d_Integer_compare_18 : decode b_Integer_compare 18 = .ok (.iconst 1, 1) := by decide +kernel
theorem d_Integer_compare_19 : decode b_Integer_compare 19 = .ok (.ireturn, 1) := by decide +kernel
abbrev b_Integer_compareUnsigned : ByteArray := prog_17_method_41_code
def y_Integer_compareUnsigned : MethodName := ⟨R_Integer, "compareUnsigned", "(II)I"⟩
theorem d_Integer_compareUnsigned_0 : decode b_Integer_compareUnsigned 0 = .ok (.iload_n 0, 1) := by decide +kernel
theorem d_Integer_compareUnsigned_1 : decode b_Integer_compareUnsigned 1 = .ok (.ldc 127, 2) := by decide +kernel
theorem d_Integer_compareUnsigned_3 : decode b_Integer_compareUnsigned 3 = .ok (.iadd, 1) := by decide +kernel
theorem d_Integer_compareUnsigned_4 : decode b_Integer_compareUnsigned 4 = .ok (.iload_n 1, 1) := by decide +kernel
theorem d_Integer_compareUnsigned_5 : decode b_Integer_compareUnsigned 5 = .ok (.ldc 127, 2) := by decide +kernel
theorem d_Integer_compareUnsigned_7 : decode b_Integer_compareUnsigned 7 = .ok (.iadd, 1) := by decide +kernel
theorem d_Integer_compareUnsigned_8 : decode b_Integer_compareUnsigned 8 = .ok (.invokestatic 259, 3) := by decide +kernel
theorem d_Integer_compareUnsigned_11 : decode b_Integer_compareUnsigned 11 = .ok (.ireturn, 1) := by decide +kernel
end
section
/-! Words of this proof: states as two functions (numbers, arrays), functions that may fail, and the rows that the printed walks use. -/
section QBase
abbrev QSt : Type := (Nat → Int32) × (Nat → Nat → Int32)
def q_ps (st : QSt) (k : Nat) (v : Int32) : QSt := (va_up st.1 k v, st.2)
def q_pa (st : QSt) (k i : Nat) (v : Int32) : QSt := (st.1, va_up st.2 k (upd (st.2 k) i v))
def q_vpb (i : Int32) (n : Nat) : Bool := decide (¬ (i < 0 ∨ n ≤ i.toNatClampNeg))
theorem q_vpb_in {i : Int32} {n : Nat} (h : q_vpb i n = true) : vp_in i n := show ¬ (i < 0 ∨ n ≤ i.toNatClampNeg) from of_decide_eq_true h
def q_isb (v : Int32) : Bool := decide (v = 0 ∨ v = 1)
theorem q_isb_fit {v : Int32} (h : q_isb v = true) : fits .boolean (.int v) = true := by
  rcases of_decide_eq_true h with rfl | rfl <;> decide
theorem q_isb_nar {v : Int32} (h : q_isb v = true) : narrow .boolean (.int v) = .int v := by
  rcases of_decide_eq_true h with rfl | rfl <;> decide
def q_grd {α : Type} (b : Bool) (x : Option α) : Option α := if b = true then x else none
theorem q_grd_some {α : Type} {b : Bool} {x : Option α} {y : α} (h : q_grd b x = some y) : b = true ∧ x = some y := by
  unfold q_grd at h
  split at h
  · exact ⟨by assumption, h⟩
  · cases h
def q_bn {ρ α : Type} (o : Option ρ) (k : ρ → Option α) : Option α := match o with
  | none => none
  | some r => k r
theorem q_bn_some {ρ α : Type} {o : Option ρ} {k : ρ → Option α} {y : α} (h : q_bn o k = some y) : ∃ r, o = some r ∧ k r = some y := by
  cases o with
  | none => cases h
  | some r => exact ⟨r, rfl, h⟩
def q_bm {ρ α : Type} (o : Option (ρ × QSt)) (k : ρ → QSt → Option α) : Option α := match o with
  | none => none
  | some q => k q.1 q.2
theorem q_bm_some {ρ α : Type} {o : Option (ρ × QSt)} {k : ρ → QSt → Option α} {y : α} (h : q_bm o k = some y) : ∃ r s, o = some (r, s) ∧ k r s = some y := by
  cases o with
  | none => cases h
  | some q => exact ⟨q.1, q.2, rfl, h⟩
def q_bv {α : Type} (o : Option QSt) (k : QSt → Option α) : Option α := match o with
  | none => none
  | some s => k s
theorem q_bv_some {α : Type} {o : Option QSt} {k : QSt → Option α} {y : α} (h : q_bv o k = some y) : ∃ s, o = some s ∧ k s = some y := by
  cases o with
  | none => cases h
  | some s => exact ⟨s, rfl, h⟩
def q_lt {α β : Type} (x : α) (k : α → Option β) : Option β := k x
theorem q_lt_some {α β : Type} {x : α} {k : α → Option β} {y : β} (h : q_lt x k = some y) : ∃ z, z = x ∧ k z = some y := ⟨x, rfl, h⟩
def q_ush (x y : Int32) : Int32 := (x.toUInt32 >>> (y.toUInt32 &&& Int32.toUInt32 31)).toInt32
theorem q_ine {x k : Int32} (h : ¬ x = k) : x.toInt ≠ k.toInt := fun h2 => h (Int32.toInt_inj.mp h2)
theorem q_at {a b : va_W} (h : a.map Prod.fst = b.map Prod.fst) {i : Nat} {p : Nat × va_E} (hp : b[i]? = some p) : ∃ p', a[i]? = some p' ∧ p'.1 = p.1 := by
  have h1 : (b.map Prod.fst)[i]? = some p.1 := by rw [List.getElem?_map, hp]; rfl
  rw [← h, List.getElem?_map] at h1
  cases ha : a[i]? with
  | none => rw [ha] at h1; cases h1
  | some p' => rw [ha] at h1; exact ⟨p', rfl, Option.some.inj h1⟩
theorem q_Dmove {A : Nat → Prop} {a b : va_W} (h : a.map Prod.fst = b.map Prod.fst) (hD : va_D A a) : va_D A b := by
  refine ⟨fun i j p q hp hq he => ?_, fun k q hk => ?_⟩
  · obtain ⟨p', h1, h2⟩ := q_at h hp
    obtain ⟨q', h3, h4⟩ := q_at h hq
    exact hD.1 i j p' q' h1 h3 (by rw [h2, h4, he])
  · obtain ⟨q', h3, h4⟩ := q_at h hk
    rw [← h4]
    exact hD.2 k q' h3
end QBase
section QW
variable {p : Program} {l : Launch} {e : Env} {R : Room} {s : State} {m : MethodId} {args : Array Value} {below : List Frame} {meth : Method} {c : Code} {H : Heap} {locs : List Loc} {cells slots : Nat} {Q : State → Prop} {cc : ByteArray} {pc : Nat} {ls : Array Slot} {rest : List Value} {nL : Nat} {own : String} {D : va_G} {tys : List (ClassId × FieldType)} {w : QSt → va_W} {st st' : QSt} {A : Nat → Prop}
theorem q_topi {x y : Int32} (h : y = x) (k : W p l e R s m args below meth c H locs cells slots Q (F0 m pc ls (.int y :: rest))) : W p l e R s m args below meth c H locs cells slots Q (F0 m pc ls (.int x :: rest)) := h ▸ k
theorem q_topl {x y : Int64} (h : y = x) (k : W p l e R s m args below meth c H locs cells slots Q (F0 m pc ls (.long y :: rest))) : W p l e R s m args below meth c H locs cells slots Q (F0 m pc ls (.long x :: rest)) := h ▸ k
def q_Cx (p : Program) (s : State) (m : MethodId) (args : Array Value) (c : Code) (cc : ByteArray) (nL : Nat) (own : String) (D : va_G) (tys : List (ClassId × FieldType)) : Prop :=
  CallFix p m c cc nL s args q_tbl own ∧ va_K D vwCl tys s
def q_Pre (D : va_G) (tys : List (ClassId × FieldType)) (w : QSt → va_W) (st : QSt) (sz : Nat) (U : State) : Prop :=
  U.heap.size = sz ∧ va_P D vwCl (w st) U.heap ∧ va_K D vwCl tys U ∧ va_D (fun _ => True) (w st)
/-- a method that answers an int and leaves the state st' -/
def q_Mi (l : Launch) (y : MethodName) (cc : ByteArray) (maxL : Nat) (ty : FieldType) (rm : Room) (D : va_G) (tys : List (ClassId × FieldType)) (w : QSt → va_W) (As : List Value) (st : QSt) (r : Int32) (st' : QSt) : Prop :=
  ∀ sz : Nat, Met l y (Cond.code y cc maxL (some ty) :: q_tbl) rm (va_Pc As (q_Pre D tys w st sz)) (va_Qi (fun r' (_ : Unit) => r' = r) (fun _ t => va_P D vwCl (w st') t.heap) (va_A (w st) sz)) 0 0 (va_A (w st) sz)
/-- a method that answers a long and leaves the state st' -/
def q_Ml (l : Launch) (y : MethodName) (cc : ByteArray) (maxL : Nat) (rm : Room) (D : va_G) (tys : List (ClassId × FieldType)) (w : QSt → va_W) (As : List Value) (st : QSt) (r : Int64) (st' : QSt) : Prop :=
  ∀ sz : Nat, Met l y (Cond.code y cc maxL (some .long) :: q_tbl) rm (va_Pc As (q_Pre D tys w st sz)) (va_Ql (fun r' (_ : Unit) => r' = r) (fun _ t => va_P D vwCl (w st') t.heap) (va_A (w st) sz)) 0 0 (va_A (w st) sz)
/-- a method that answers nothing -/
def q_Mv (l : Launch) (y : MethodName) (cc : ByteArray) (maxL : Nat) (rm : Room) (D : va_G) (tys : List (ClassId × FieldType)) (w : QSt → va_W) (As : List Value) (st : QSt) (st' : QSt) : Prop :=
  ∀ sz : Nat, Met l y (Cond.code y cc maxL none :: q_tbl) rm (va_Pc As (q_Pre D tys w st sz)) (va_Qv (fun (_ : Unit) => True) (fun _ t => va_P D vwCl (w st') t.heap) (va_A (w st) sz)) 0 0 (va_A (w st) sz)
def q_Zi (below : List Frame) (args : Array Value) (s : State) (D : va_G) (w : QSt → va_W) (r : Int32) (st' : QSt) (A : Nat → Prop) : State → Prop :=
  MQ below (va_Qi (fun r' (_ : Unit) => r' = r) (fun _ t => va_P D vwCl (w st') t.heap) A) args s 0 0 A
def q_Zl (below : List Frame) (args : Array Value) (s : State) (D : va_G) (w : QSt → va_W) (r : Int64) (st' : QSt) (A : Nat → Prop) : State → Prop :=
  MQ below (va_Ql (fun r' (_ : Unit) => r' = r) (fun _ t => va_P D vwCl (w st') t.heap) A) args s 0 0 A
def q_Zv (below : List Frame) (args : Array Value) (s : State) (D : va_G) (w : QSt → va_W) (st' : QSt) (A : Nat → Prop) : State → Prop :=
  MQ below (va_Qv (fun (_ : Unit) => True) (fun _ t => va_P D vwCl (w st') t.heap) A) args s 0 0 A
theorem q_Mi_of {y : MethodName} {maxL : Nat} {ty : FieldType} {rm : Room} {As : List Value} {r : Int32} (hy : plainName y.cls = true) (hlen : (lg_sl As).length ≤ maxL) (hw : ∀ a b : QSt, (w a).map Prod.fst = (w b).map Prod.fst)
    (body : ∀ (p : Program) (e : Env) (s : State) (m : MethodId) (args : Array Value) (below : List Frame) (meth : Method) (c : Code) (A : Nat → Prop) (ls : Array Slot), q_Cx p s m args c cc maxL y.cls D tys → meth.sig.returnType = some ty → meth.locks = false → (∀ z, va_D A (w z)) → (∀ q : Nat, s.heap.size ≤ q → A q) →
      va_P D vwCl (w st) s.heap → va_S A s.heap s.heap [] → lv_has ls maxL (lv_args 0 As) → W p l e rm s m args below meth c s.heap [] 0 0 (q_Zi below args s D w r st' A) (F0 m 0 ls [])) : q_Mi l y cc maxL ty rm D tys w As st r st' := by
  intro sz
  refine Met.ofW (cc := cc) (maxL := maxL) (ret := some ty) hy rfl ?_
  intro p e s m args below meth c s₁ B hml hv
  obtain ⟨rfl, hsz, hP, hK, hD0⟩ := hv
  have hts := atoms_spec (ws := Cond.code y cc maxL (some ty) :: q_tbl) B.pre
  have hown : s.vm.findClass y.cls = some m.cls := findClass_of_methodNamed B.named
  subst hsz
  have hD : va_D (va_A (w st) s.heap.size) (w st) := hD0.self
  rw [lg_entry_eq]
  exact body p e s m _ below meth c (va_A (w st) s.heap.size) _ ⟨⟨B.exec, B.bytes, hml, hown, fun w h => hts w (List.mem_cons_of_mem _ h)⟩, hK⟩ B.returns B.notSynchronized (fun z => q_Dmove (hw st z) hD) (fun q h => Or.inr h) hP va_S.rf (lv_entry As hlen)
theorem q_Ml_of {y : MethodName} {maxL : Nat} {rm : Room} {As : List Value} {r : Int64} (hy : plainName y.cls = true) (hlen : (lg_sl As).length ≤ maxL) (hw : ∀ a b : QSt, (w a).map Prod.fst = (w b).map Prod.fst)
    (body : ∀ (p : Program) (e : Env) (s : State) (m : MethodId) (args : Array Value) (below : List Frame) (meth : Method) (c : Code) (A : Nat → Prop) (ls : Array Slot), q_Cx p s m args c cc maxL y.cls D tys → meth.sig.returnType = some .long → meth.locks = false → (∀ z, va_D A (w z)) → (∀ q : Nat, s.heap.size ≤ q → A q) →
      va_P D vwCl (w st) s.heap → va_S A s.heap s.heap [] → lv_has ls maxL (lv_args 0 As) → W p l e rm s m args below meth c s.heap [] 0 0 (q_Zl below args s D w r st' A) (F0 m 0 ls [])) : q_Ml l y cc maxL rm D tys w As st r st' := by
  intro sz
  refine Met.ofW (cc := cc) (maxL := maxL) (ret := some .long) hy rfl ?_
  intro p e s m args below meth c s₁ B hml hv
  obtain ⟨rfl, hsz, hP, hK, hD0⟩ := hv
  have hts := atoms_spec (ws := Cond.code y cc maxL (some .long) :: q_tbl) B.pre
  have hown : s.vm.findClass y.cls = some m.cls := findClass_of_methodNamed B.named
  subst hsz
  have hD : va_D (va_A (w st) s.heap.size) (w st) := hD0.self
  rw [lg_entry_eq]
  exact body p e s m _ below meth c (va_A (w st) s.heap.size) _ ⟨⟨B.exec, B.bytes, hml, hown, fun w h => hts w (List.mem_cons_of_mem _ h)⟩, hK⟩ B.returns B.notSynchronized (fun z => q_Dmove (hw st z) hD) (fun q h => Or.inr h) hP va_S.rf (lv_entry As hlen)
theorem q_Mv_of {y : MethodName} {maxL : Nat} {rm : Room} {As : List Value} (hy : plainName y.cls = true) (hlen : (lg_sl As).length ≤ maxL) (hw : ∀ a b : QSt, (w a).map Prod.fst = (w b).map Prod.fst)
    (body : ∀ (p : Program) (e : Env) (s : State) (m : MethodId) (args : Array Value) (below : List Frame) (meth : Method) (c : Code) (A : Nat → Prop) (ls : Array Slot), q_Cx p s m args c cc maxL y.cls D tys → meth.sig.returnType = none → meth.locks = false → (∀ z, va_D A (w z)) → (∀ q : Nat, s.heap.size ≤ q → A q) →
      va_P D vwCl (w st) s.heap → va_S A s.heap s.heap [] → lv_has ls maxL (lv_args 0 As) → W p l e rm s m args below meth c s.heap [] 0 0 (q_Zv below args s D w st' A) (F0 m 0 ls [])) : q_Mv l y cc maxL rm D tys w As st st' := by
  intro sz
  refine Met.ofW (cc := cc) (maxL := maxL) (ret := none) hy rfl ?_
  intro p e s m args below meth c s₁ B hml hv
  obtain ⟨rfl, hsz, hP, hK, hD0⟩ := hv
  have hts := atoms_spec (ws := Cond.code y cc maxL none :: q_tbl) B.pre
  have hown : s.vm.findClass y.cls = some m.cls := findClass_of_methodNamed B.named
  subst hsz
  have hD : va_D (va_A (w st) s.heap.size) (w st) := hD0.self
  rw [lg_entry_eq]
  exact body p e s m _ below meth c (va_A (w st) s.heap.size) _ ⟨⟨B.exec, B.bytes, hml, hown, fun w h => hts w (List.mem_cons_of_mem _ h)⟩, hK⟩ B.returns B.notSynchronized (fun z => q_Dmove (hw st z) hD) (fun q h => Or.inr h) hP va_S.rf (lv_entry As hlen)
theorem q_iret {v r : Int32} {st1 : QSt} {ty : FieldType} (hC : q_Cx p s m args c cc nL own D tys) (hr : meth.sig.returnType = some ty) (hlk : meth.locks = false) (hf : some (v, st1) = some (r, st')) (hn : narrow ty (.int v) = .int v) (hP : va_P D vwCl (w st1) H) (hS : va_S A s.heap H locs) (hd : decode cc pc = .ok (.ireturn, 1)) :
    W p l e R s m args below meth c H locs 0 0 (q_Zi below args s D w r st' A) (F0 m pc ls [.int v]) := by
  cases hf
  exact W.zret hC.1.1 hC.1.2.1 hr hn (fun t ht hW => ⟨⟨v, (), rfl, rfl, by show va_P D vwCl (w _) t.heap; rw [ht]; exact hP⟩, hS.F ht⟩) hS.2.2 hd hlk
theorem q_lret {v r : Int64} {st1 : QSt} (hC : q_Cx p s m args c cc nL own D tys) (hr : meth.sig.returnType = some .long) (hlk : meth.locks = false) (hf : some (v, st1) = some (r, st')) (hP : va_P D vwCl (w st1) H) (hS : va_S A s.heap H locs) (hd : decode cc pc = .ok (.lreturn, 1)) :
    W p l e R s m args below meth c H locs 0 0 (q_Zl below args s D w r st' A) (F0 m pc ls [.long v]) := by
  cases hf
  exact W.lret hC.1.1 hC.1.2.1 hr (fun t ht hW => ⟨⟨v, (), rfl, rfl, by show va_P D vwCl (w _) t.heap; rw [ht]; exact hP⟩, hS.F ht⟩) hS.2.2 hd hlk
theorem q_iretP {v r : Int32} {ty : FieldType} (hC : q_Cx p s m args c cc nL own D tys) (hr : meth.sig.returnType = some ty) (hlk : meth.locks = false) (hf : some v = some r) (hn : narrow ty (.int v) = .int v) (hP : va_P D vwCl (w st) H) (hS : va_S A s.heap H locs) (hd : decode cc pc = .ok (.ireturn, 1)) :
    W p l e R s m args below meth c H locs 0 0 (q_Zi below args s D w r st A) (F0 m pc ls [.int v]) := by
  cases hf
  exact W.zret hC.1.1 hC.1.2.1 hr hn (fun t ht hW => ⟨⟨v, (), rfl, rfl, by show va_P D vwCl (w _) t.heap; rw [ht]; exact hP⟩, hS.F ht⟩) hS.2.2 hd hlk
theorem q_vret {st1 : QSt} (hC : q_Cx p s m args c cc nL own D tys) (hr : meth.sig.returnType = none) (hlk : meth.locks = false) (hf : some st1 = some st') (hP : va_P D vwCl (w st1) H) (hS : va_S A s.heap H locs) (hd : decode cc pc = .ok (.return_, 1)) :
    W p l e R s m args below meth c H locs 0 0 (q_Zv below args s D w st' A) (F0 m pc ls []) := by
  cases hf
  exact W.vret hC.1.1 hC.1.2.1 hr (fun t ht hW => ⟨⟨(), rfl, trivial, by show va_P D vwCl (w _) t.heap; rw [ht]; exact hP⟩, hS.F ht⟩) hS.2.2 hd hlk
/-- what is known of a callee: its words are in the tables -/
def q_cal (y : MethodName) (bytes : ByteArray) (maxL : Nat) (ret : Option FieldType) (n : Nat) : Prop :=
  Cond.code y bytes maxL ret ∈ q_tbl ∧ Cond.initialized y.cls ∈ q_tbl ∧ y.cls ≠ "java/lang/invoke/MethodHandle" ∧ y.cls ≠ "java/lang/invoke/VarHandle" ∧ (parseMethodDescriptor y.desc).map (fun d => d.parameters.length) = some n
def q_calV (y : MethodName) (bytes : ByteArray) (maxL : Nat) (ret : Option FieldType) (n : Nat) : Prop :=
  q_cal y bytes maxL ret n ∧ Cond.instanceMethod y ∈ q_tbl ∧ Cond.selects y.cls y y ∈ q_tbl
def q_calS (y : MethodName) (bytes : ByteArray) (maxL : Nat) (ret : Option FieldType) (n : Nat) : Prop :=
  q_cal y bytes maxL ret n ∧ Cond.static y ∈ q_tbl
theorem q_goodc {y : MethodName} {bytes : ByteArray} {maxL : Nat} {ret : Option FieldType} (h : Cond.code y bytes maxL ret ∈ q_tbl) : GoodIn q_tbl (Cond.code y bytes maxL ret :: q_tbl) := fun w hw => by
  rcases List.mem_cons.mp hw with rfl | hw
  · exact q_good _ h
  · exact q_good _ hw
theorem q_blind {As : List Value} {sz : Nat} : FrameBlind (va_Pc As (q_Pre D tys w st sz)) := fun a U g mk q => by
  obtain ⟨q0, q1, qP, qK, qD⟩ := q
  exact ⟨q0, q1, qP, va_K.moved (u := U) (U := U.calling g mk a) (Vm.Alike.refl U.vm) qK, qD⟩
theorem q_freeA (hD : ∀ z, va_D A (w z)) (hA : ∀ q : Nat, s.heap.size ≤ q → A q) (hS : va_S A s.heap H locs) (st : QSt) : ∀ q : Nat, va_A (w st) H.size q → A q := fun q h => by
  rcases h with ⟨k, e, hk⟩ | h
  · exact (hD st).2 k (q, e) hk
  · exact hA q (Nat.le_trans hS.1 h)
section QC
variable {y : MethodName} {bytes : ByteArray} {maxL n idx ci q0 b : Nat} {ty : FieldType} {rm : Room} {As stk fs : List Value} {r : Int32} {q : u_T × Nat} {host : String}
def q_rm (rm R : Room) (maxL : Nat) : Prop := rm.cells = 0 ∧ rm.slots = 0 ∧ rm.frames + 1 ≤ R.frames ∧ 8 + (maxL + 11) + rm.locals ≤ R.locals
theorem q_callVi (hC : q_Cx p s m args c cc nL own D tys) (hM : q_Mi l y bytes maxL ty rm D tys w (.ref b :: As) st r st') (hq : q_calV y bytes maxL (some ty) n) (hl : Cond.methodLink own idx y ∈ q_tbl) (hR : q_rm rm R maxL)
    (hcl : vwCl[ci]? = some (y.cls, q)) (he : (w st)[q0]? = some (b, .inr (ci, fs))) (hP : va_P D vwCl (w st) H) (hD : ∀ z, va_D A (w z)) (hA : ∀ q : Nat, s.heap.size ≤ q → A q) (hS : va_S A s.heap H locs) (hn : As.length = n) (hsz : ls.size = nL) (hstk : stk = As.reverse ++ .ref b :: rest) (hW : (rest.map fun v => v.category).sum ≤ 8)
    (hdg : decode cc pc = .ok (.invokevirtual idx, 3)) (kk : ∀ (H1 : Heap) (locs1 : List Loc), va_P D vwCl (w st') H1 → va_S A s.heap H1 locs1 → W p l e R s m args below meth c H1 locs1 0 0 Q (F0 m (pc + 3) ls (.int r :: rest))) : W p l e R s m args below meth c H locs 0 0 Q (F0 m pc ls stk) := by
  obtain ⟨⟨k1, k2, k3, k4, k5⟩, k6, k7⟩ := hq
  have hts := hC.1.2.2.2.2
  have hF := q_freeA hD hA hS st
  refine va_calli (va_runV (As := As) (rest := rest) hC.1 (hM H.size) ⟨callB_of n hts (q_goodc k1) rfl hR.1 hR.2.1 (hts _ k2) (hts _ hl) ⟨k3, k4, k5⟩ hR.2.2, hts _ k6, hts _ k7⟩ ⟨q_blind, va_recv hC.2 hP hcl he, fun U hU hW => ⟨rfl, by rw [hU], by rw [hU]; exact hP, va_K.moved hW.alike hC.2, (hD st).weaken (fun _ _ _ _ => trivial)⟩⟩ rfl hn hsz hstk (lv_room hW) hdg ⟨Nat.zero_le _, Nat.zero_le _⟩) hS (fun q _ h => hF q h) hF (fun r_2 u t H1 locs ht hvm hw hB hz1 hk1 hS => ?_)
  subst hw
  exact kk H1 locs (by rw [← ht]; exact hB) hS
theorem q_callVl {r : Int64} (hC : q_Cx p s m args c cc nL own D tys) (hM : q_Ml l y bytes maxL rm D tys w (.ref b :: As) st r st') (hq : q_calV y bytes maxL (some .long) n) (hl : Cond.methodLink own idx y ∈ q_tbl) (hR : q_rm rm R maxL)
    (hcl : vwCl[ci]? = some (y.cls, q)) (he : (w st)[q0]? = some (b, .inr (ci, fs))) (hP : va_P D vwCl (w st) H) (hD : ∀ z, va_D A (w z)) (hA : ∀ q : Nat, s.heap.size ≤ q → A q) (hS : va_S A s.heap H locs) (hn : As.length = n) (hsz : ls.size = nL) (hstk : stk = As.reverse ++ .ref b :: rest) (hW : (rest.map fun v => v.category).sum ≤ 8)
    (hdg : decode cc pc = .ok (.invokevirtual idx, 3)) (kk : ∀ (H1 : Heap) (locs1 : List Loc), va_P D vwCl (w st') H1 → va_S A s.heap H1 locs1 → W p l e R s m args below meth c H1 locs1 0 0 Q (F0 m (pc + 3) ls (.long r :: rest))) : W p l e R s m args below meth c H locs 0 0 Q (F0 m pc ls stk) := by
  obtain ⟨⟨k1, k2, k3, k4, k5⟩, k6, k7⟩ := hq
  have hts := hC.1.2.2.2.2
  have hF := q_freeA hD hA hS st
  refine va_calll (va_runV (As := As) (rest := rest) hC.1 (hM H.size) ⟨callB_of n hts (q_goodc k1) rfl hR.1 hR.2.1 (hts _ k2) (hts _ hl) ⟨k3, k4, k5⟩ hR.2.2, hts _ k6, hts _ k7⟩ ⟨q_blind, va_recv hC.2 hP hcl he, fun U hU hW => ⟨rfl, by rw [hU], by rw [hU]; exact hP, va_K.moved hW.alike hC.2, (hD st).weaken (fun _ _ _ _ => trivial)⟩⟩ rfl hn hsz hstk (lv_room hW) hdg ⟨Nat.zero_le _, Nat.zero_le _⟩) hS (fun q _ h => hF q h) hF (fun r_2 u t H1 locs ht hvm hw hB hz1 hk1 hS => ?_)
  subst hw
  exact kk H1 locs (by rw [← ht]; exact hB) hS
theorem q_callVv (hC : q_Cx p s m args c cc nL own D tys) (hM : q_Mv l y bytes maxL rm D tys w (.ref b :: As) st st') (hq : q_calV y bytes maxL none n) (hl : Cond.methodLink own idx y ∈ q_tbl) (hR : q_rm rm R maxL)
    (hcl : vwCl[ci]? = some (y.cls, q)) (he : (w st)[q0]? = some (b, .inr (ci, fs))) (hP : va_P D vwCl (w st) H) (hD : ∀ z, va_D A (w z)) (hA : ∀ q : Nat, s.heap.size ≤ q → A q) (hS : va_S A s.heap H locs) (hn : As.length = n) (hsz : ls.size = nL) (hstk : stk = As.reverse ++ .ref b :: rest) (hW : (rest.map fun v => v.category).sum ≤ 8)
    (hdg : decode cc pc = .ok (.invokevirtual idx, 3)) (kk : ∀ (H1 : Heap) (locs1 : List Loc), va_P D vwCl (w st') H1 → va_S A s.heap H1 locs1 → W p l e R s m args below meth c H1 locs1 0 0 Q (F0 m (pc + 3) ls rest)) : W p l e R s m args below meth c H locs 0 0 Q (F0 m pc ls stk) := by
  obtain ⟨⟨k1, k2, k3, k4, k5⟩, k6, k7⟩ := hq
  have hts := hC.1.2.2.2.2
  have hF := q_freeA hD hA hS st
  refine va_callv (va_runV (As := As) (rest := rest) hC.1 (hM H.size) ⟨callB_of n hts (q_goodc k1) rfl hR.1 hR.2.1 (hts _ k2) (hts _ hl) ⟨k3, k4, k5⟩ hR.2.2, hts _ k6, hts _ k7⟩ ⟨q_blind, va_recv hC.2 hP hcl he, fun U hU hW => ⟨rfl, by rw [hU], by rw [hU]; exact hP, va_K.moved hW.alike hC.2, (hD st).weaken (fun _ _ _ _ => trivial)⟩⟩ rfl hn hsz hstk (lv_room hW) hdg ⟨Nat.zero_le _, Nat.zero_le _⟩) hS (fun q _ h => hF q h) hF (fun u t H1 locs ht hvm hw hB hz1 hk1 hS => ?_)
  exact kk H1 locs (by rw [← ht]; exact hB) hS
theorem q_callVNv (hC : q_Cx p s m args c cc nL own D tys) (hM : q_Mv l y bytes maxL rm D tys w (.ref b :: As) st st') (hq : q_calV y bytes maxL none n) (hl : Cond.methodLinkNest own idx y host ∈ q_tbl) (hR : q_rm rm R maxL)
    (hcl : vwCl[ci]? = some (y.cls, q)) (he : (w st)[q0]? = some (b, .inr (ci, fs))) (hP : va_P D vwCl (w st) H) (hD : ∀ z, va_D A (w z)) (hA : ∀ q : Nat, s.heap.size ≤ q → A q) (hS : va_S A s.heap H locs) (hn : As.length = n) (hsz : ls.size = nL) (hstk : stk = As.reverse ++ .ref b :: rest) (hW : (rest.map fun v => v.category).sum ≤ 8)
    (hdg : decode cc pc = .ok (.invokevirtual idx, 3)) (kk : ∀ (H1 : Heap) (locs1 : List Loc), va_P D vwCl (w st') H1 → va_S A s.heap H1 locs1 → W p l e R s m args below meth c H1 locs1 0 0 Q (F0 m (pc + 3) ls rest)) : W p l e R s m args below meth c H locs 0 0 Q (F0 m pc ls stk) := by
  obtain ⟨⟨k1, k2, k3, k4, k5⟩, k6, k7⟩ := hq
  have hts := hC.1.2.2.2.2
  have hF := q_freeA hD hA hS st
  refine va_callv (va_runVN (As := As) (rest := rest) hC.1 (hM H.size) ⟨va_cnB n hts (q_goodc k1) rfl hR.1 hR.2.1 (hts _ hl) (hts _ k2) ⟨k3, k4, k5⟩ hR.2.2, hts _ k6, hts _ k7⟩ ⟨q_blind, va_recv hC.2 hP hcl he, fun U hU hW => ⟨rfl, by rw [hU], by rw [hU]; exact hP, va_K.moved hW.alike hC.2, (hD st).weaken (fun _ _ _ _ => trivial)⟩⟩ rfl hn hsz hstk (lv_room hW) hdg ⟨Nat.zero_le _, Nat.zero_le _⟩) hS (fun q _ h => hF q h) hF (fun u t H1 locs ht hvm hw hB hz1 hk1 hS => ?_)
  exact kk H1 locs (by rw [← ht]; exact hB) hS
theorem q_callVNi (hC : q_Cx p s m args c cc nL own D tys) (hM : q_Mi l y bytes maxL ty rm D tys w (.ref b :: As) st r st') (hq : q_calV y bytes maxL (some ty) n) (hl : Cond.methodLinkNest own idx y host ∈ q_tbl) (hR : q_rm rm R maxL)
    (hcl : vwCl[ci]? = some (y.cls, q)) (he : (w st)[q0]? = some (b, .inr (ci, fs))) (hP : va_P D vwCl (w st) H) (hD : ∀ z, va_D A (w z)) (hA : ∀ q : Nat, s.heap.size ≤ q → A q) (hS : va_S A s.heap H locs) (hn : As.length = n) (hsz : ls.size = nL) (hstk : stk = As.reverse ++ .ref b :: rest) (hW : (rest.map fun v => v.category).sum ≤ 8)
    (hdg : decode cc pc = .ok (.invokevirtual idx, 3)) (kk : ∀ (H1 : Heap) (locs1 : List Loc), va_P D vwCl (w st') H1 → va_S A s.heap H1 locs1 → W p l e R s m args below meth c H1 locs1 0 0 Q (F0 m (pc + 3) ls (.int r :: rest))) : W p l e R s m args below meth c H locs 0 0 Q (F0 m pc ls stk) := by
  obtain ⟨⟨k1, k2, k3, k4, k5⟩, k6, k7⟩ := hq
  have hts := hC.1.2.2.2.2
  have hF := q_freeA hD hA hS st
  refine va_calli (va_runVN (As := As) (rest := rest) hC.1 (hM H.size) ⟨va_cnB n hts (q_goodc k1) rfl hR.1 hR.2.1 (hts _ hl) (hts _ k2) ⟨k3, k4, k5⟩ hR.2.2, hts _ k6, hts _ k7⟩ ⟨q_blind, va_recv hC.2 hP hcl he, fun U hU hW => ⟨rfl, by rw [hU], by rw [hU]; exact hP, va_K.moved hW.alike hC.2, (hD st).weaken (fun _ _ _ _ => trivial)⟩⟩ rfl hn hsz hstk (lv_room hW) hdg ⟨Nat.zero_le _, Nat.zero_le _⟩) hS (fun q _ h => hF q h) hF (fun r_2 u t H1 locs ht hvm hw hB hz1 hk1 hS => ?_)
  subst hw
  exact kk H1 locs (by rw [← ht]; exact hB) hS
theorem q_callSi (hC : q_Cx p s m args c cc nL own D tys) (hM : q_Mi l y bytes maxL ty rm D tys w As st r st') (hq : q_calS y bytes maxL (some ty) n) (hl : Cond.methodLink own idx y ∈ q_tbl) (hR : q_rm rm R maxL)
    (hP : va_P D vwCl (w st) H) (hD : ∀ z, va_D A (w z)) (hA : ∀ q : Nat, s.heap.size ≤ q → A q) (hS : va_S A s.heap H locs) (hn : As.length = n) (hsz : ls.size = nL) (hstk : stk = As.reverse ++ rest) (hW : (rest.map fun v => v.category).sum ≤ 8)
    (hdg : decode cc pc = .ok (.invokestatic idx, 3)) (kk : ∀ (H1 : Heap) (locs1 : List Loc), va_P D vwCl (w st') H1 → va_S A s.heap H1 locs1 → W p l e R s m args below meth c H1 locs1 0 0 Q (F0 m (pc + 3) ls (.int r :: rest))) : W p l e R s m args below meth c H locs 0 0 Q (F0 m pc ls stk) := by
  obtain ⟨⟨k1, k2, k3, k4, k5⟩, k6⟩ := hq
  have hts := hC.1.2.2.2.2
  have hF := q_freeA hD hA hS st
  refine va_calli (va_runS (As := As) (rest := rest) hC.1 (hM H.size) ⟨callB_of n hts (q_goodc k1) rfl hR.1 hR.2.1 (hts _ k2) (hts _ hl) ⟨k3, k4, k5⟩ hR.2.2, hts _ k6⟩ ⟨q_blind, fun U hU hW => ⟨rfl, by rw [hU], by rw [hU]; exact hP, va_K.moved hW.alike hC.2, (hD st).weaken (fun _ _ _ _ => trivial)⟩⟩ rfl hn hsz hstk (lv_room hW) hdg ⟨Nat.zero_le _, Nat.zero_le _⟩) hS (fun q _ h => hF q h) hF (fun r_2 u t H1 locs ht hvm hw hB hz1 hk1 hS => ?_)
  subst hw
  exact kk H1 locs (by rw [← ht]; exact hB) hS
theorem q_callSNi (hC : q_Cx p s m args c cc nL own D tys) (hM : q_Mi l y bytes maxL ty rm D tys w As st r st') (hq : q_calS y bytes maxL (some ty) n) (hl : Cond.methodLinkNest own idx y host ∈ q_tbl) (hR : q_rm rm R maxL)
    (hP : va_P D vwCl (w st) H) (hD : ∀ z, va_D A (w z)) (hA : ∀ q : Nat, s.heap.size ≤ q → A q) (hS : va_S A s.heap H locs) (hn : As.length = n) (hsz : ls.size = nL) (hstk : stk = As.reverse ++ rest) (hW : (rest.map fun v => v.category).sum ≤ 8)
    (hdg : decode cc pc = .ok (.invokestatic idx, 3)) (kk : ∀ (H1 : Heap) (locs1 : List Loc), va_P D vwCl (w st') H1 → va_S A s.heap H1 locs1 → W p l e R s m args below meth c H1 locs1 0 0 Q (F0 m (pc + 3) ls (.int r :: rest))) : W p l e R s m args below meth c H locs 0 0 Q (F0 m pc ls stk) := by
  obtain ⟨⟨k1, k2, k3, k4, k5⟩, k6⟩ := hq
  have hts := hC.1.2.2.2.2
  have hF := q_freeA hD hA hS st
  refine va_calli (va_runSN (As := As) (rest := rest) hC.1 (hM H.size) ⟨va_cnB n hts (q_goodc k1) rfl hR.1 hR.2.1 (hts _ hl) (hts _ k2) ⟨k3, k4, k5⟩ hR.2.2, hts _ k6, trivial⟩ ⟨q_blind, fun U hU hW => ⟨rfl, by rw [hU], by rw [hU]; exact hP, va_K.moved hW.alike hC.2, (hD st).weaken (fun _ _ _ _ => trivial)⟩⟩ rfl hn hsz hstk (lv_room hW) hdg ⟨Nat.zero_le _, Nat.zero_le _⟩) hS (fun q _ h => hF q h) hF (fun r_2 u t H1 locs ht hvm hw hB hz1 hk1 hS => ?_)
  subst hw
  exact kk H1 locs (by rw [← ht]; exact hB) hS
end QC
end QW
end
section
theorem wq_0 : (Cond.fieldLink "GlyphPositions$Table" (15 : Nat) "GlyphPositions$Table" "size" "I") ∈ q_tbl := q_tab1 (List.mem_of_getElem? (i := 35) (by decide +kernel)) rfl
theorem wq_1 : (Cond.fieldLink "GlyphPositions$Table" (9 : Nat) "GlyphPositions$Table" "bytes" "[B") ∈ q_tbl := q_tab1 (List.mem_of_getElem? (i := 34) (by decide +kernel)) rfl
theorem wq_2 : (Cond.methodLink "GlyphPositions$Table" (25 : Nat) ({ cls := "GlyphPositions$Table", name := "u16", desc := "(I)I" } : MethodName)) ∈ q_tbl := q_tab2 (List.mem_of_getElem? (i := 57) (by decide +kernel)) rfl
theorem wq_3 : (Cond.constant "java/lang/Integer" (265 : Nat) (1431655765 : Int32)) ∈ q_tbl := q_tab2 (List.mem_of_getElem? (i := 124) (by decide +kernel)) rfl
theorem wq_4 : (Cond.constant "java/lang/Integer" (266 : Nat) (858993459 : Int32)) ∈ q_tbl := q_tab2 (List.mem_of_getElem? (i := 125) (by decide +kernel)) rfl
theorem wq_5 : (Cond.constant "java/lang/Integer" (267 : Nat) (252645135 : Int32)) ∈ q_tbl := q_tab2 (List.mem_of_getElem? (i := 126) (by decide +kernel)) rfl
theorem wq_6 : (Cond.constant "java/lang/Integer" (127 : Nat) (-2147483648 : Int32)) ∈ q_tbl := q_tab2 (List.mem_of_getElem? (i := 61) (by decide +kernel)) rfl
theorem wq_7 : (Cond.methodLink "java/lang/Integer" (259 : Nat) ({ cls := "java/lang/Integer", name := "compare", desc := "(II)I" } : MethodName)) ∈ q_tbl := q_tab2 (List.mem_of_getElem? (i := 62) (by decide +kernel)) rfl
theorem wq_8 : (Cond.code ({ cls := "GlyphPositions$Table", name := "u16", desc := "(I)I" } : MethodName) prog_8_method_7_code (2 : Nat) (some .int)) ∈ q_tbl := q_tab2 (List.mem_of_getElem? (i := 40) (by decide +kernel)) rfl
theorem wq_9 : (Cond.initialized "GlyphPositions$Table") ∈ q_tbl := q_tab1 (List.mem_of_getElem? (i := 2) (by decide +kernel)) rfl
theorem wq_10 : (Cond.selects "GlyphPositions$Table" ({ cls := "GlyphPositions$Table", name := "u16", desc := "(I)I" } : MethodName) ({ cls := "GlyphPositions$Table", name := "u16", desc := "(I)I" } : MethodName)) ∈ q_tbl := q_tab2 (List.mem_of_getElem? (i := 39) (by decide +kernel)) rfl
theorem wq_11 : (Cond.instanceMethod ({ cls := "GlyphPositions$Table", name := "u16", desc := "(I)I" } : MethodName)) ∈ q_tbl := q_tab2 (List.mem_of_getElem? (i := 38) (by decide +kernel)) rfl
theorem wq_12 : (Cond.code ({ cls := "java/lang/Integer", name := "compare", desc := "(II)I" } : MethodName) prog_17_method_40_code (2 : Nat) (some .int)) ∈ q_tbl := q_tab2 (List.mem_of_getElem? (i := 64) (by decide +kernel)) rfl
theorem wq_13 : (Cond.initialized "java/lang/Integer") ∈ q_tbl := q_tab1 (List.mem_of_getElem? (i := 16) (by decide +kernel)) rfl
theorem wq_14 : (Cond.static ({ cls := "java/lang/Integer", name := "compare", desc := "(II)I" } : MethodName)) ∈ q_tbl := q_tab2 (List.mem_of_getElem? (i := 63) (by decide +kernel)) rfl
theorem cal_Table_u16 : q_calV y_Table_u16 b_Table_u16 2 ((some .int)) 1 := ⟨⟨wq_8, wq_9, by decide +kernel, by decide +kernel, by decide +kernel⟩, wq_11, wq_10⟩
theorem cal_Integer_compare : q_calS y_Integer_compare b_Integer_compare 2 ((some .int)) 2 := ⟨⟨wq_12, wq_13, by decide +kernel, by decide +kernel, by decide +kernel⟩, wq_14⟩
end
section
abbrev XG : Type := va_G × (Nat → ClassId) × (Nat → Nat)
def wX (G : XG) (st : QSt) : va_W :=
  [(G.2.2 0, .inr (0, [.ref (G.2.2 1), .ref (G.2.2 3), .ref (G.2.2 5), .ref (G.2.2 6), .ref (G.2.2 11), .ref (G.2.2 14), .ref (G.2.2 18), .ref (G.2.2 20), .ref (G.2.2 29), .int (st.1 0), .int (st.1 1), .int (st.1 2)])),
   (G.2.2 1, .inr (6, [.ref (G.2.2 2), .int (st.1 3)])),
   (G.2.2 2, .inl (G.2.1 1, 8192, .inl (st.2 0))),
   (G.2.2 3, .inr (6, [.ref (G.2.2 4), .int (st.1 4)])),
   (G.2.2 4, .inl (G.2.1 1, 8192, .inl (st.2 1))),
   (G.2.2 5, .inr (3, [.ref (G.2.2 1), .int (st.1 5)])),
   (G.2.2 6, .inr (2, [.ref (G.2.2 7), .ref (G.2.2 8), .ref (G.2.2 9), .ref (G.2.2 10), .int (st.1 6)])),
   (G.2.2 7, .inl (G.2.1 0, 256, .inl (st.2 2))),
   (G.2.2 8, .inl (G.2.1 0, 256, .inl (st.2 3))),
   (G.2.2 9, .inl (G.2.1 0, 256, .inl (st.2 4))),
   (G.2.2 10, .inl (G.2.1 0, 256, .inl (st.2 5))),
   (G.2.2 11, .inr (7, [.ref (G.2.2 12), .ref (G.2.2 13), .int (st.1 7)])),
   (G.2.2 12, .inl (G.2.1 0, 20, .inl (st.2 6))),
   (G.2.2 13, .inl (G.2.1 2, 20, .inl (st.2 7))),
   (G.2.2 14, .inr (8, [.ref (G.2.2 15), .ref (G.2.2 16), .ref (G.2.2 17), .int (st.1 8)])),
   (G.2.2 15, .inl (G.2.1 0, 800, .inl (st.2 8))),
   (G.2.2 16, .inl (G.2.1 0, 800, .inl (st.2 9))),
   (G.2.2 17, .inl (G.2.1 0, 800, .inl (st.2 10))),
   (G.2.2 18, .inr (1, [.ref (G.2.2 3), .ref (G.2.2 11), .ref (G.2.2 19)])),
   (G.2.2 19, .inl (G.2.1 2, 64, .inl (st.2 11))),
   (G.2.2 20, .inr (4, [.ref (G.2.2 21), .ref (G.2.2 22), .ref (G.2.2 23), .ref (G.2.2 24), .ref (G.2.2 25), .ref (G.2.2 26), .ref (G.2.2 27), .ref (G.2.2 28), .int (st.1 9)])),
   (G.2.2 21, .inl (G.2.1 0, 800, .inl (st.2 12))),
   (G.2.2 22, .inl (G.2.1 0, 800, .inl (st.2 13))),
   (G.2.2 23, .inl (G.2.1 0, 800, .inl (st.2 14))),
   (G.2.2 24, .inl (G.2.1 0, 800, .inl (st.2 15))),
   (G.2.2 25, .inl (G.2.1 0, 800, .inl (st.2 16))),
   (G.2.2 26, .inl (G.2.1 2, 800, .inl (st.2 17))),
   (G.2.2 27, .inl (G.2.1 0, 800, .inl (st.2 18))),
   (G.2.2 28, .inl (G.2.1 0, 800, .inl (st.2 19))),
   (G.2.2 29, .inr (5, [.ref (G.2.2 3), .ref (G.2.2 14), .ref (G.2.2 6), .ref (G.2.2 20), .ref (G.2.2 30), .ref (G.2.2 31), .ref (G.2.2 32), .ref (G.2.2 33), .ref (G.2.2 34), .ref (G.2.2 35), .int (st.1 10)])),
   (G.2.2 30, .inl (G.2.1 0, 800, .inl (st.2 20))),
   (G.2.2 31, .inl (G.2.1 0, 800, .inl (st.2 21))),
   (G.2.2 32, .inl (G.2.1 0, 800, .inl (st.2 22))),
   (G.2.2 33, .inl (G.2.1 2, 800, .inl (st.2 23))),
   (G.2.2 34, .inl (G.2.1 0, 800, .inl (st.2 24))),
   (G.2.2 35, .inl (G.2.1 0, 800, .inl (st.2 25))),
   (G.2.2 36, .inr (9, [.int (st.1 11), .int (st.1 12), .ref (G.2.2 37), .int (st.1 13), .ref (G.2.2 38), .int (st.1 14), .int (st.1 15), .int (st.1 16), .ref (G.2.2 39), .ref (G.2.2 40), .ref (G.2.2 41), .ref (G.2.2 42), .int (st.1 17), .int (st.1 18), .int (st.1 19), .ref (G.2.2 43), .ref (G.2.2 44), .int (st.1 20), .ref (G.2.2 45), .ref (G.2.2 46), .ref (G.2.2 47), .ref (G.2.2 48), .int (st.1 21), .int (st.1 22), .ref (G.2.2 49), .ref (G.2.2 50), .ref (G.2.2 51), .ref (G.2.2 52), .ref (G.2.2 53), .ref (G.2.2 54), .ref (G.2.2 55), .ref (G.2.2 56), .ref (G.2.2 57), .ref (G.2.2 58)])),
   (G.2.2 37, .inl (G.2.1 0, 8192, .inl (st.2 26))),
   (G.2.2 38, .inl (G.2.1 0, 8192, .inl (st.2 27))),
   (G.2.2 39, .inl (G.2.1 0, 256, .inl (st.2 28))),
   (G.2.2 40, .inl (G.2.1 0, 256, .inl (st.2 29))),
   (G.2.2 41, .inl (G.2.1 0, 256, .inl (st.2 30))),
   (G.2.2 42, .inl (G.2.1 0, 256, .inl (st.2 31))),
   (G.2.2 43, .inl (G.2.1 0, 20, .inl (st.2 32))),
   (G.2.2 44, .inl (G.2.1 2, 20, .inl (st.2 33))),
   (G.2.2 45, .inl (G.2.1 0, 800, .inl (st.2 34))),
   (G.2.2 46, .inl (G.2.1 0, 800, .inl (st.2 35))),
   (G.2.2 47, .inl (G.2.1 0, 800, .inl (st.2 36))),
   (G.2.2 48, .inl (G.2.1 2, 64, .inl (st.2 37))),
   (G.2.2 49, .inl (G.2.1 0, 800, .inl (st.2 38))),
   (G.2.2 50, .inl (G.2.1 0, 800, .inl (st.2 39))),
   (G.2.2 51, .inl (G.2.1 0, 800, .inl (st.2 40))),
   (G.2.2 52, .inl (G.2.1 0, 800, .inl (st.2 41))),
   (G.2.2 53, .inl (G.2.1 0, 800, .inl (st.2 42))),
   (G.2.2 54, .inl (G.2.1 0, 800, .inl (st.2 43))),
   (G.2.2 55, .inl (G.2.1 0, 800, .inl (st.2 44))),
   (G.2.2 56, .inl (G.2.1 2, 800, .inl (st.2 45))),
   (G.2.2 57, .inl (G.2.1 0, 800, .inl (st.2 46))),
   (G.2.2 58, .inl (G.2.1 0, 800, .inl (st.2 47))),
   (G.2.2 59, .inl (G.2.1 3, 1, .inr (.inl (fun j => (st.2 48 j).toInt64))))]
def xT (G : XG) : List (ClassId × FieldType) := [(G.2.1 0, .int), (G.2.1 1, .byte), (G.2.1 2, .boolean), (G.2.1 3, .long)]
theorem wX_fst (G : XG) : ∀ a b : QSt, (wX G a).map Prod.fst = (wX G b).map Prod.fst := fun _ _ => rfl
section QX
variable {p : Program} {l : Launch} {e : Env} {R : Room} {s : State} {m : MethodId} {args : Array Value} {below : List Frame} {meth : Method} {c : Code} {H : Heap} {locs : List Loc} {cells slots : Nat} {Q : State → Prop} {cc : ByteArray} {pc : Nat} {ls : Array Slot} {rest : List Value} {nL : Nat} {own host : String} {st st1 : QSt} {A : Nat → Prop} {G : XG} {idx : Nat}
theorem xg_1_size (hC : q_Cx p s m args c cc nL own G.1 (xT G)) (hP : va_P G.1 vwCl (wX G st) H) (hl : Cond.fieldLink own idx R_Table "size" "I" ∈ q_tbl) (hd : decode cc pc = .ok (.getfield idx, 3)) (kk : W p l e R s m args below meth c H locs cells slots Q (F0 m (pc + 3) ls (.int (st.1 3) :: rest))) : W p l e R s m args below meth c H locs cells slots Q (F0 m pc ls (.ref (G.2.2 1) :: rest)) :=
  va_get hC.1.1 hC.1.2.1 hC.1.2.2.2.2 in_Table hC.1.2.2.2.1 hC.2 hP 1 rfl rfl 1 (by decide) (hC.1.2.2.2.2 _ hl) (fun _ h9 => h9) rfl hd kk
theorem xg_1_bytes (hC : q_Cx p s m args c cc nL own G.1 (xT G)) (hP : va_P G.1 vwCl (wX G st) H) (hl : Cond.fieldLink own idx R_Table "bytes" "[B" ∈ q_tbl) (hd : decode cc pc = .ok (.getfield idx, 3)) (kk : W p l e R s m args below meth c H locs cells slots Q (F0 m (pc + 3) ls (.ref (G.2.2 2) :: rest))) : W p l e R s m args below meth c H locs cells slots Q (F0 m pc ls (.ref (G.2.2 1) :: rest)) :=
  va_get hC.1.1 hC.1.2.1 hC.1.2.2.2.2 in_Table hC.1.2.2.2.1 hC.2 hP 1 rfl rfl 0 (by decide) (hC.1.2.2.2.2 _ hl) (fun _ h9 => h9) rfl hd kk
theorem xl_2 {i v : Int32} (hC : q_Cx p s m args c cc nL own G.1 (xT G)) (hP : va_P G.1 vwCl (wX G st) H) (e1 : v = st.2 0 i.toNatClampNeg) (hi : q_vpb i 8192 = true) (hd : decode cc pc = .ok (.baload, 1)) (kk : W p l e R s m args below meth c H locs cells slots Q (F0 m (pc + 1) ls (.int v :: rest))) : W p l e R s m args below meth c H locs cells slots Q (F0 m pc ls (.int i :: .ref (G.2.2 2) :: rest)) := by
  subst e1
  exact va_bald hC.1.1 hC.1.2.1 hC.2 hP 2 1 rfl rfl (q_vpb_in hi) hd kk
theorem xs_2 {i x : Int32} (hC : q_Cx p s m args c cc nL own G.1 (xT G)) (hP : va_P G.1 vwCl (wX G st) H) (hD : ∀ z, va_D A (wX G z)) (hS : va_S A s.heap H locs) (e1 : st1 = q_pa st 0 i.toNatClampNeg (vp_nar .byte x)) (hi : q_vpb i 8192 = true) (hd : decode cc pc = .ok (.bastore, 1)) (kk : ∀ (H1 : Heap) (locs1 : List Loc), va_P G.1 vwCl (wX G st1) H1 → va_S A s.heap H1 locs1 → W p l e R s m args below meth c H1 locs1 cells slots Q (F0 m (pc + 1) ls rest)) : W p l e R s m args below meth c H locs cells slots Q (F0 m pc ls (.int x :: .int i :: .ref (G.2.2 2) :: rest)) :=
  va_bast hC.1.1 hC.1.2.1 hC.2 hP (hD st) hS 2 1 rfl rfl (q_vpb_in hi) hd (fun H1 l1 hP1 _ hS1 => kk H1 l1 (by rw [e1]; exact hP1) hS1)
theorem xp_1_size {v : Int32} (hC : q_Cx p s m args c cc nL own G.1 (xT G)) (hP : va_P G.1 vwCl (wX G st) H) (hD : ∀ z, va_D A (wX G z)) (hS : va_S A s.heap H locs) (e1 : st1 = q_ps st 3 v) (hl : Cond.fieldLink own idx R_Table "size" "I" ∈ q_tbl) (hd : decode cc pc = .ok (.putfield idx, 3)) (kk : ∀ (H1 : Heap) (locs1 : List Loc), va_P G.1 vwCl (wX G st1) H1 → va_S A s.heap H1 locs1 → W p l e R s m args below meth c H1 locs1 cells slots Q (F0 m (pc + 3) ls rest)) : W p l e R s m args below meth c H locs cells slots Q (F0 m pc ls (.int v :: .ref (G.2.2 1) :: rest)) :=
  va_put (ty := .int) hC.1.1 hC.1.2.1 hC.1.2.2.2.2 in_Table ty_Table tyok_Table nm_Table hC.1.2.2.2.1 hC.2 hP (hD st) hS 1 rfl rfl 1 (by decide) (hC.1.2.2.2.2 _ hl) (fun _ h9 => h9) rfl (by decide +kernel) rfl rfl (Nat.le_of_ble_eq_true rfl) hd (fun H1 l1 hP1 _ hS1 => kk H1 l1 (by rw [e1]; exact hP1) hS1)
theorem xg_3_size (hC : q_Cx p s m args c cc nL own G.1 (xT G)) (hP : va_P G.1 vwCl (wX G st) H) (hl : Cond.fieldLink own idx R_Table "size" "I" ∈ q_tbl) (hd : decode cc pc = .ok (.getfield idx, 3)) (kk : W p l e R s m args below meth c H locs cells slots Q (F0 m (pc + 3) ls (.int (st.1 4) :: rest))) : W p l e R s m args below meth c H locs cells slots Q (F0 m pc ls (.ref (G.2.2 3) :: rest)) :=
  va_get hC.1.1 hC.1.2.1 hC.1.2.2.2.2 in_Table hC.1.2.2.2.1 hC.2 hP 3 rfl rfl 1 (by decide) (hC.1.2.2.2.2 _ hl) (fun _ h9 => h9) rfl hd kk
theorem xg_3_bytes (hC : q_Cx p s m args c cc nL own G.1 (xT G)) (hP : va_P G.1 vwCl (wX G st) H) (hl : Cond.fieldLink own idx R_Table "bytes" "[B" ∈ q_tbl) (hd : decode cc pc = .ok (.getfield idx, 3)) (kk : W p l e R s m args below meth c H locs cells slots Q (F0 m (pc + 3) ls (.ref (G.2.2 4) :: rest))) : W p l e R s m args below meth c H locs cells slots Q (F0 m pc ls (.ref (G.2.2 3) :: rest)) :=
  va_get hC.1.1 hC.1.2.1 hC.1.2.2.2.2 in_Table hC.1.2.2.2.1 hC.2 hP 3 rfl rfl 0 (by decide) (hC.1.2.2.2.2 _ hl) (fun _ h9 => h9) rfl hd kk
theorem xl_4 {i v : Int32} (hC : q_Cx p s m args c cc nL own G.1 (xT G)) (hP : va_P G.1 vwCl (wX G st) H) (e1 : v = st.2 1 i.toNatClampNeg) (hi : q_vpb i 8192 = true) (hd : decode cc pc = .ok (.baload, 1)) (kk : W p l e R s m args below meth c H locs cells slots Q (F0 m (pc + 1) ls (.int v :: rest))) : W p l e R s m args below meth c H locs cells slots Q (F0 m pc ls (.int i :: .ref (G.2.2 4) :: rest)) := by
  subst e1
  exact va_bald hC.1.1 hC.1.2.1 hC.2 hP 4 1 rfl rfl (q_vpb_in hi) hd kk
end QX
end
section
def xTable_lies (x1 x2 : Int32) (st : QSt) : Option Int32 :=
  if x1 < 0 then (some 0) else (if x2 < 0 then (some 0) else (if ((st.1 3) - x2) < x1 then (some 0) else (some 1)))
set_option maxHeartbeats 4000000 in
set_option maxRecDepth 100000 in
theorem c_xTable_lies (l : Launch) (G : XG) {x1 x2 : Int32} {st : QSt} {ro : Int32} (hf : xTable_lies x1 x2 st = some ro) : q_Mi l y_Table_lies b_Table_lies 3 .boolean ({ frames := 0, cells := 0, slots := 0, locals := 0 } : Room) G.1 (xT G) (wX G) [.ref (G.2.2 1), .int x1, .int x2] st ro st := by
  refine q_Mi_of (by decide) (Nat.le_of_ble_eq_true rfl) (wX_fst G) ?_
  intro p e s m args below meth c A ls hC hr hlk hD hA hP hS hl
  have hx := hC.1.1
  have hb := hC.1.2.1
  have hown := hC.1.2.2.2.1
  have hts := hC.1.2.2.2.2
  have hl : lv_has ls 3 [(0, .ref (G.2.2 1)), (1, .int x1), (2, .int x2)] := hl
  unfold xTable_lies at hf
  refine lv_iload_n hx hb d_Table_lies_0 rfl (lv_at hl 1 rfl) ?_
  refine lv_if_lt (tgt := 22) hx hb d_Table_lies_1 (by decide) (fun c1 => ?_) (fun c1 => ?_)
  · rw [if_pos c1] at hf
    refine lv_iconst (v := 0) hx hb d_Table_lies_22 (by decide) ?_
    exact q_iretP hC hr hlk hf (by first | rfl | decide) hP hS d_Table_lies_23
  rw [if_neg c1] at hf
  refine lv_iload_n hx hb d_Table_lies_4 rfl (lv_at hl 2 rfl) ?_
  refine lv_if_lt (tgt := 22) hx hb d_Table_lies_5 (by decide) (fun c1 => ?_) (fun c1 => ?_)
  · rw [if_pos c1] at hf
    refine lv_iconst (v := 0) hx hb d_Table_lies_22 (by decide) ?_
    exact q_iretP hC hr hlk hf (by first | rfl | decide) hP hS d_Table_lies_23
  rw [if_neg c1] at hf
  refine lv_iload_n hx hb d_Table_lies_8 rfl (lv_at hl 1 rfl) ?_
  refine lv_aload_n hx hb d_Table_lies_9 rfl (lv_at hl 0 rfl) ?_
  refine xg_1_size hC hP wq_0 d_Table_lies_10 ?_
  refine lv_iload_n hx hb d_Table_lies_13 rfl (lv_at hl 2 rfl) ?_
  refine lv_isub hx hb d_Table_lies_14 ?_
  refine lv_icmp_gt (tgt := 22) hx hb d_Table_lies_15 (by decide) (fun c1 => ?_) (fun c1 => ?_)
  · rw [if_pos c1] at hf
    refine lv_iconst (v := 0) hx hb d_Table_lies_22 (by decide) ?_
    exact q_iretP hC hr hlk hf (by first | rfl | decide) hP hS d_Table_lies_23
  rw [if_neg c1] at hf
  refine lv_iconst (v := 1) hx hb d_Table_lies_18 (by decide) ?_
  refine lv_goto (tgt := 23) hx hb d_Table_lies_19 (by decide) ?_
  exact q_iretP hC hr hlk hf (by first | rfl | decide) hP hS d_Table_lies_23
def xTable_u16 (x1 : Int32) (st : QSt) : Option Int32 :=
  if x1 < 0 then (some 0) else (if x1 ≤ ((st.1 3) - 2) then (q_grd (q_vpb x1 8192) (q_lt (st.2 0 x1.toNatClampNeg) (fun v1 => q_grd (q_vpb (x1 + 1) 8192) (q_lt (st.2 0 (x1 + 1).toNatClampNeg) (fun v2 => some (((v1 &&& 255) <<< (8 &&& 31)) ||| (v2 &&& 255))))))) else (some 0))
set_option maxHeartbeats 4000000 in
set_option maxRecDepth 100000 in
theorem c_xTable_u16 (l : Launch) (G : XG) {x1 : Int32} {st : QSt} {ro : Int32} (hf : xTable_u16 x1 st = some ro) : q_Mi l y_Table_u16 b_Table_u16 2 .int ({ frames := 0, cells := 0, slots := 0, locals := 0 } : Room) G.1 (xT G) (wX G) [.ref (G.2.2 1), .int x1] st ro st := by
  refine q_Mi_of (by decide) (Nat.le_of_ble_eq_true rfl) (wX_fst G) ?_
  intro p e s m args below meth c A ls hC hr hlk hD hA hP hS hl
  have hx := hC.1.1
  have hb := hC.1.2.1
  have hown := hC.1.2.2.2.1
  have hts := hC.1.2.2.2.2
  have hl : lv_has ls 2 [(0, .ref (G.2.2 1)), (1, .int x1)] := hl
  unfold xTable_u16 at hf
  refine lv_iload_n hx hb d_Table_u16_0 rfl (lv_at hl 1 rfl) ?_
  refine lv_if_lt (tgt := 14) hx hb d_Table_u16_1 (by decide) (fun c1 => ?_) (fun c1 => ?_)
  · rw [if_pos c1] at hf
    refine lv_iconst (v := 0) hx hb d_Table_u16_14 (by decide) ?_
    exact q_iretP hC hr hlk hf (by first | rfl | decide) hP hS d_Table_u16_15
  rw [if_neg c1] at hf
  refine lv_iload_n hx hb d_Table_u16_4 rfl (lv_at hl 1 rfl) ?_
  refine lv_aload_n hx hb d_Table_u16_5 rfl (lv_at hl 0 rfl) ?_
  refine xg_1_size hC hP wq_0 d_Table_u16_6 ?_
  refine lv_iconst (v := 2) hx hb d_Table_u16_9 (by decide) ?_
  refine lv_isub hx hb d_Table_u16_10 ?_
  refine lv_icmp_le (tgt := 16) hx hb d_Table_u16_11 (by decide) (fun c1 => ?_) (fun c1 => ?_)
  rotate_left
  · rw [if_neg c1] at hf
    refine lv_iconst (v := 0) hx hb d_Table_u16_14 (by decide) ?_
    exact q_iretP hC hr hlk hf (by first | rfl | decide) hP hS d_Table_u16_15
  rw [if_pos c1] at hf
  refine lv_aload_n hx hb d_Table_u16_16 rfl (lv_at hl 0 rfl) ?_
  refine xg_1_bytes hC hP wq_1 d_Table_u16_17 ?_
  refine lv_iload_n hx hb d_Table_u16_20 rfl (lv_at hl 1 rfl) ?_
  obtain ⟨hi, hf⟩ := q_grd_some hf
  obtain ⟨v1, e_v1, hf⟩ := q_lt_some hf
  refine xl_2 hC hP e_v1 hi d_Table_u16_21 ?_
  refine lv_sipush (v := 255) hx hb d_Table_u16_22 (by decide) ?_
  refine lv_iand hx hb d_Table_u16_25 ?_
  refine lv_bipush (v := 8) hx hb d_Table_u16_26 (by decide) ?_
  refine lv_ishl hx hb d_Table_u16_28 ?_
  refine lv_aload_n hx hb d_Table_u16_29 rfl (lv_at hl 0 rfl) ?_
  refine xg_1_bytes hC hP wq_1 d_Table_u16_30 ?_
  refine lv_iload_n hx hb d_Table_u16_33 rfl (lv_at hl 1 rfl) ?_
  refine lv_iconst (v := 1) hx hb d_Table_u16_34 (by decide) ?_
  refine lv_iadd hx hb d_Table_u16_35 ?_
  obtain ⟨hi, hf⟩ := q_grd_some hf
  obtain ⟨v2, e_v2, hf⟩ := q_lt_some hf
  refine xl_2 hC hP e_v2 hi d_Table_u16_36 ?_
  refine lv_sipush (v := 255) hx hb d_Table_u16_37 (by decide) ?_
  refine lv_iand hx hb d_Table_u16_40 ?_
  refine lv_ior hx hb d_Table_u16_41 ?_
  exact q_iretP hC hr hlk hf (by first | rfl | decide) hP hS d_Table_u16_42
def xTable_u32 (x1 : Int32) (st : QSt) : Option Int32 :=
  q_bn (xTable_u16 x1 st) (fun r1 => q_bn (xTable_u16 (x1 + 2) st) (fun r2 => some ((r1 <<< (16 &&& 31)) ||| r2)))
set_option maxHeartbeats 4000000 in
set_option maxRecDepth 100000 in
theorem c_xTable_u32 (l : Launch) (G : XG) {x1 : Int32} {st : QSt} {ro : Int32} (hf : xTable_u32 x1 st = some ro) : q_Mi l y_Table_u32 b_Table_u32 2 .int ({ frames := 1, cells := 0, slots := 0, locals := 21 } : Room) G.1 (xT G) (wX G) [.ref (G.2.2 1), .int x1] st ro st := by
  refine q_Mi_of (by decide) (Nat.le_of_ble_eq_true rfl) (wX_fst G) ?_
  intro p e s m args below meth c A ls hC hr hlk hD hA hP hS hl
  have hx := hC.1.1
  have hb := hC.1.2.1
  have hown := hC.1.2.2.2.1
  have hts := hC.1.2.2.2.2
  have hl : lv_has ls 2 [(0, .ref (G.2.2 1)), (1, .int x1)] := hl
  unfold xTable_u32 at hf
  refine lv_aload_n hx hb d_Table_u32_0 rfl (lv_at hl 0 rfl) ?_
  refine lv_iload_n hx hb d_Table_u32_1 rfl (lv_at hl 1 rfl) ?_
  obtain ⟨r1, h_r1, hf⟩ := q_bn_some hf
  refine q_callVi (As := [.int x1]) (rest := []) (q0 := 1) hC (c_xTable_u16 l G h_r1) cal_Table_u16 wq_2 ⟨rfl, rfl, Nat.le_of_ble_eq_true rfl, Nat.le_of_ble_eq_true rfl⟩ rfl rfl hP hD hA hS rfl hl.1 rfl (Nat.le_of_ble_eq_true rfl) d_Table_u32_2 (fun H locs hP hS => ?_)
  refine lv_bipush (v := 16) hx hb d_Table_u32_5 (by decide) ?_
  refine lv_ishl hx hb d_Table_u32_7 ?_
  refine lv_aload_n hx hb d_Table_u32_8 rfl (lv_at hl 0 rfl) ?_
  refine lv_iload_n hx hb d_Table_u32_9 rfl (lv_at hl 1 rfl) ?_
  refine lv_iconst (v := 2) hx hb d_Table_u32_10 (by decide) ?_
  refine lv_iadd hx hb d_Table_u32_11 ?_
  obtain ⟨r2, h_r2, hf⟩ := q_bn_some hf
  refine q_callVi (As := [.int (x1 + 2)]) (rest := [.int (r1 <<< (16 &&& 31))]) (q0 := 1) hC (c_xTable_u16 l G h_r2) cal_Table_u16 wq_2 ⟨rfl, rfl, Nat.le_of_ble_eq_true rfl, Nat.le_of_ble_eq_true rfl⟩ rfl rfl hP hD hA hS rfl hl.1 rfl (Nat.le_of_ble_eq_true rfl) d_Table_u32_12 (fun H locs hP hS => ?_)
  refine lv_ior hx hb d_Table_u32_15 ?_
  exact q_iretP hC hr hlk hf (by first | rfl | decide) hP hS d_Table_u32_16
def xTable_append (x1 : Int32) (st : QSt) : Option (Int32 × QSt) :=
  if (st.1 3) ≤ 8188 then (q_grd (q_vpb (st.1 3) 8192) (q_lt (q_pa st 0 (st.1 3).toNatClampNeg (vp_nar .byte ((q_ush x1 24).toInt8.toInt32))) (fun s1 => q_grd (q_vpb ((s1.1 3) + 1) 8192) (q_lt (q_pa s1 0 ((s1.1 3) + 1).toNatClampNeg (vp_nar .byte ((q_ush x1 16).toInt8.toInt32))) (fun s2 => q_grd (q_vpb ((s2.1 3) + 2) 8192) (q_lt (q_pa s2 0 ((s2.1 3) + 2).toNatClampNeg (vp_nar .byte ((q_ush x1 8).toInt8.toInt32))) (fun s3 => q_grd (q_vpb ((s3.1 3) + 3) 8192) (q_lt (q_pa s3 0 ((s3.1 3) + 3).toNatClampNeg (vp_nar .byte x1.toInt8.toInt32)) (fun s4 => q_lt (q_ps s4 3 ((s4.1 3) + 4)) (fun s5 => some (1, s5))))))))))) else (some (0, st))
set_option maxHeartbeats 4000000 in
set_option maxRecDepth 100000 in
theorem c_xTable_append (l : Launch) (G : XG) {x1 : Int32} {st : QSt} {ro : Int32} {so : QSt} (hf : xTable_append x1 st = some (ro, so)) : q_Mi l y_Table_append b_Table_append 2 .boolean ({ frames := 0, cells := 0, slots := 0, locals := 0 } : Room) G.1 (xT G) (wX G) [.ref (G.2.2 1), .int x1] st ro so := by
  refine q_Mi_of (by decide) (Nat.le_of_ble_eq_true rfl) (wX_fst G) ?_
  intro p e s m args below meth c A ls hC hr hlk hD hA hP hS hl
  have hx := hC.1.1
  have hb := hC.1.2.1
  have hown := hC.1.2.2.2.1
  have hts := hC.1.2.2.2.2
  have hl : lv_has ls 2 [(0, .ref (G.2.2 1)), (1, .int x1)] := hl
  unfold xTable_append at hf
  refine lv_aload_n hx hb d_Table_append_0 rfl (lv_at hl 0 rfl) ?_
  refine xg_1_size hC hP wq_0 d_Table_append_1 ?_
  refine lv_sipush (v := 8188) hx hb d_Table_append_4 (by decide) ?_
  refine lv_icmp_le (tgt := 12) hx hb d_Table_append_7 (by decide) (fun c1 => ?_) (fun c1 => ?_)
  rotate_left
  · rw [if_neg c1] at hf
    refine lv_iconst (v := 0) hx hb d_Table_append_10 (by decide) ?_
    exact q_iret hC hr hlk hf (by first | rfl | decide) hP hS d_Table_append_11
  rw [if_pos c1] at hf
  refine lv_aload_n hx hb d_Table_append_12 rfl (lv_at hl 0 rfl) ?_
  refine xg_1_bytes hC hP wq_1 d_Table_append_13 ?_
  refine lv_aload_n hx hb d_Table_append_16 rfl (lv_at hl 0 rfl) ?_
  refine xg_1_size hC hP wq_0 d_Table_append_17 ?_
  refine lv_iload_n hx hb d_Table_append_20 rfl (lv_at hl 1 rfl) ?_
  refine lv_bipush (v := 24) hx hb d_Table_append_21 (by decide) ?_
  refine lv_iushr (v := q_ush x1 24) hx hb d_Table_append_23 rfl ?_
  refine lv_i2b (v := (q_ush x1 24).toInt8.toInt32) hx hb d_Table_append_24 rfl ?_
  obtain ⟨hi, hf⟩ := q_grd_some hf
  obtain ⟨s1, e_s1, hf⟩ := q_lt_some hf
  refine xs_2 hC hP hD hS e_s1 hi d_Table_append_25 (fun H locs hP hS => ?_)
  refine lv_aload_n hx hb d_Table_append_26 rfl (lv_at hl 0 rfl) ?_
  refine xg_1_bytes hC hP wq_1 d_Table_append_27 ?_
  refine lv_aload_n hx hb d_Table_append_30 rfl (lv_at hl 0 rfl) ?_
  refine xg_1_size hC hP wq_0 d_Table_append_31 ?_
  refine lv_iconst (v := 1) hx hb d_Table_append_34 (by decide) ?_
  refine lv_iadd hx hb d_Table_append_35 ?_
  refine lv_iload_n hx hb d_Table_append_36 rfl (lv_at hl 1 rfl) ?_
  refine lv_bipush (v := 16) hx hb d_Table_append_37 (by decide) ?_
  refine lv_iushr (v := q_ush x1 16) hx hb d_Table_append_39 rfl ?_
  refine lv_i2b (v := (q_ush x1 16).toInt8.toInt32) hx hb d_Table_append_40 rfl ?_
  obtain ⟨hi, hf⟩ := q_grd_some hf
  obtain ⟨s2, e_s2, hf⟩ := q_lt_some hf
  refine xs_2 hC hP hD hS e_s2 hi d_Table_append_41 (fun H locs hP hS => ?_)
  refine lv_aload_n hx hb d_Table_append_42 rfl (lv_at hl 0 rfl) ?_
  refine xg_1_bytes hC hP wq_1 d_Table_append_43 ?_
  refine lv_aload_n hx hb d_Table_append_46 rfl (lv_at hl 0 rfl) ?_
  refine xg_1_size hC hP wq_0 d_Table_append_47 ?_
  refine lv_iconst (v := 2) hx hb d_Table_append_50 (by decide) ?_
  refine lv_iadd hx hb d_Table_append_51 ?_
  refine lv_iload_n hx hb d_Table_append_52 rfl (lv_at hl 1 rfl) ?_
  refine lv_bipush (v := 8) hx hb d_Table_append_53 (by decide) ?_
  refine lv_iushr (v := q_ush x1 8) hx hb d_Table_append_55 rfl ?_
  refine lv_i2b (v := (q_ush x1 8).toInt8.toInt32) hx hb d_Table_append_56 rfl ?_
  obtain ⟨hi, hf⟩ := q_grd_some hf
  obtain ⟨s3, e_s3, hf⟩ := q_lt_some hf
  refine xs_2 hC hP hD hS e_s3 hi d_Table_append_57 (fun H locs hP hS => ?_)
  refine lv_aload_n hx hb d_Table_append_58 rfl (lv_at hl 0 rfl) ?_
  refine xg_1_bytes hC hP wq_1 d_Table_append_59 ?_
  refine lv_aload_n hx hb d_Table_append_62 rfl (lv_at hl 0 rfl) ?_
  refine xg_1_size hC hP wq_0 d_Table_append_63 ?_
  refine lv_iconst (v := 3) hx hb d_Table_append_66 (by decide) ?_
  refine lv_iadd hx hb d_Table_append_67 ?_
  refine lv_iload_n hx hb d_Table_append_68 rfl (lv_at hl 1 rfl) ?_
  refine lv_i2b (v := x1.toInt8.toInt32) hx hb d_Table_append_69 rfl ?_
  obtain ⟨hi, hf⟩ := q_grd_some hf
  obtain ⟨s4, e_s4, hf⟩ := q_lt_some hf
  refine xs_2 hC hP hD hS e_s4 hi d_Table_append_70 (fun H locs hP hS => ?_)
  refine lv_aload_n hx hb d_Table_append_71 rfl (lv_at hl 0 rfl) ?_
  refine lv_dup hx hb d_Table_append_72 rfl ?_
  refine xg_1_size hC hP wq_0 d_Table_append_73 ?_
  refine lv_iconst (v := 4) hx hb d_Table_append_76 (by decide) ?_
  refine lv_iadd hx hb d_Table_append_77 ?_
  obtain ⟨s5, e_s5, hf⟩ := q_lt_some hf
  refine xp_1_size hC hP hD hS e_s5 wq_0 d_Table_append_78 (fun H locs hP hS => ?_)
  refine lv_iconst (v := 1) hx hb d_Table_append_81 (by decide) ?_
  exact q_iret hC hr hlk hf (by first | rfl | decide) hP hS d_Table_append_82
def xTable_replace (x1 x2 : Int32) (st : QSt) : Option (Int32 × QSt) :=
  if x1 < 0 then (some (0, st)) else (if x1 < (st.1 3) then (q_grd (q_vpb x1 8192) (q_lt (st.2 0 x1.toNatClampNeg) (fun v1 => q_lt (v1 &&& 255) (fun x3_1002 => q_grd (q_vpb x1 8192) (q_lt (q_pa st 0 x1.toNatClampNeg (vp_nar .byte x2.toInt8.toInt32)) (fun s3 => some (x3_1002, s3))))))) else (some (0, st)))
set_option maxHeartbeats 4000000 in
set_option maxRecDepth 100000 in
theorem c_xTable_replace (l : Launch) (G : XG) {x1 x2 : Int32} {st : QSt} {ro : Int32} {so : QSt} (hf : xTable_replace x1 x2 st = some (ro, so)) : q_Mi l y_Table_replace b_Table_replace 4 .int ({ frames := 0, cells := 0, slots := 0, locals := 0 } : Room) G.1 (xT G) (wX G) [.ref (G.2.2 1), .int x1, .int x2] st ro so := by
  refine q_Mi_of (by decide) (Nat.le_of_ble_eq_true rfl) (wX_fst G) ?_
  intro p e s m args below meth c A ls hC hr hlk hD hA hP hS hl
  have hx := hC.1.1
  have hb := hC.1.2.1
  have hown := hC.1.2.2.2.1
  have hts := hC.1.2.2.2.2
  have hl : lv_has ls 4 [(0, .ref (G.2.2 1)), (1, .int x1), (2, .int x2)] := hl
  unfold xTable_replace at hf
  refine lv_iload_n hx hb d_Table_replace_0 rfl (lv_at hl 1 rfl) ?_
  refine lv_if_lt (tgt := 12) hx hb d_Table_replace_1 (by decide) (fun c1 => ?_) (fun c1 => ?_)
  · rw [if_pos c1] at hf
    refine lv_iconst (v := 0) hx hb d_Table_replace_12 (by decide) ?_
    exact q_iret hC hr hlk hf (by first | rfl | decide) hP hS d_Table_replace_13
  rw [if_neg c1] at hf
  refine lv_iload_n hx hb d_Table_replace_4 rfl (lv_at hl 1 rfl) ?_
  refine lv_aload_n hx hb d_Table_replace_5 rfl (lv_at hl 0 rfl) ?_
  refine xg_1_size hC hP wq_0 d_Table_replace_6 ?_
  refine lv_icmp_lt (tgt := 14) hx hb d_Table_replace_9 (by decide) (fun c1 => ?_) (fun c1 => ?_)
  rotate_left
  · rw [if_neg c1] at hf
    refine lv_iconst (v := 0) hx hb d_Table_replace_12 (by decide) ?_
    exact q_iret hC hr hlk hf (by first | rfl | decide) hP hS d_Table_replace_13
  rw [if_pos c1] at hf
  refine lv_aload_n hx hb d_Table_replace_14 rfl (lv_at hl 0 rfl) ?_
  refine xg_1_bytes hC hP wq_1 d_Table_replace_15 ?_
  refine lv_iload_n hx hb d_Table_replace_18 rfl (lv_at hl 1 rfl) ?_
  obtain ⟨hi, hf⟩ := q_grd_some hf
  obtain ⟨v1, e_v1, hf⟩ := q_lt_some hf
  refine xl_2 hC hP e_v1 hi d_Table_replace_19 ?_
  refine lv_sipush (v := 255) hx hb d_Table_replace_20 (by decide) ?_
  refine lv_iand hx hb d_Table_replace_23 ?_
  obtain ⟨x3_1002, e_x3_1002, hf⟩ := q_lt_some hf
  refine q_topi e_x3_1002 ?_
  refine lv_istore_n (lv' := [(3, .int x3_1002), (0, .ref (G.2.2 1)), (1, .int x1), (2, .int x2)]) hx hb d_Table_replace_24 rfl hl (by decide) rfl (fun ls hl => ?_)
  refine lv_aload_n hx hb d_Table_replace_25 rfl (lv_at hl 1 rfl) ?_
  refine xg_1_bytes hC hP wq_1 d_Table_replace_26 ?_
  refine lv_iload_n hx hb d_Table_replace_29 rfl (lv_at hl 2 rfl) ?_
  refine lv_iload_n hx hb d_Table_replace_30 rfl (lv_at hl 3 rfl) ?_
  refine lv_i2b (v := x2.toInt8.toInt32) hx hb d_Table_replace_31 rfl ?_
  obtain ⟨hi, hf⟩ := q_grd_some hf
  obtain ⟨s3, e_s3, hf⟩ := q_lt_some hf
  refine xs_2 hC hP hD hS e_s3 hi d_Table_replace_32 (fun H locs hP hS => ?_)
  refine lv_iload_n hx hb d_Table_replace_33 rfl (lv_at hl 0 rfl) ?_
  exact q_iret hC hr hlk hf (by first | rfl | decide) hP hS d_Table_replace_34
def xTable_shorten_22 (w0_22 : Int32) (st_22 : QSt) : Option (Int32 × QSt) :=
  q_lt (q_ps st_22 3 ((st_22.1 3) - w0_22)) (fun s1 => some (w0_22, s1))
def xTable_shorten_21 (st_21 : QSt) : Option (Int32 × QSt) :=
  xTable_shorten_22 0 st_21
def xTable_shorten (x1 : Int32) (st : QSt) : Option (Int32 × QSt) :=
  if x1 < 0 then (xTable_shorten_21 st) else (if (st.1 3) ≤ x1 then (xTable_shorten_21 st) else (xTable_shorten_22 ((st.1 3) - x1) st))
set_option maxHeartbeats 4000000 in
set_option maxRecDepth 100000 in
theorem c_xTable_shorten (l : Launch) (G : XG) {x1 : Int32} {st : QSt} {ro : Int32} {so : QSt} (hf : xTable_shorten x1 st = some (ro, so)) : q_Mi l y_Table_shorten b_Table_shorten 3 .int ({ frames := 0, cells := 0, slots := 0, locals := 0 } : Room) G.1 (xT G) (wX G) [.ref (G.2.2 1), .int x1] st ro so := by
  refine q_Mi_of (by decide) (Nat.le_of_ble_eq_true rfl) (wX_fst G) ?_
  intro p e s m args below meth c A ls hC hr hlk hD hA hP hS hl
  have hx := hC.1.1
  have hb := hC.1.2.1
  have hown := hC.1.2.2.2.1
  have hts := hC.1.2.2.2.2
  have hl : lv_has ls 3 [(0, .ref (G.2.2 1)), (1, .int x1)] := hl
  have J_22 : ∀ (w0_22 : Int32) (st_22 : QSt) (H : Heap) (locs : List Loc) (ls : Array Slot), xTable_shorten_22 w0_22 st_22 = some (ro, so) → va_P G.1 vwCl (wX G st_22) H → va_S A s.heap H locs → lv_has ls 3 [(0, .ref (G.2.2 1))] → W p l e ({ frames := 0, cells := 0, slots := 0, locals := 0 } : Room) s m args below meth c H locs 0 0 (q_Zi below args s G.1 (wX G) ro so A) (F0 m 22 ls [.int w0_22]) := by
    intro w0_22 st_22 H locs ls hf hP hS hl
    unfold xTable_shorten_22 at hf
    refine lv_istore_n (lv' := [(2, .int w0_22), (0, .ref (G.2.2 1))]) hx hb d_Table_shorten_22 rfl hl (by decide) rfl (fun ls hl => ?_)
    refine lv_aload_n hx hb d_Table_shorten_23 rfl (lv_at hl 1 rfl) ?_
    refine lv_dup hx hb d_Table_shorten_24 rfl ?_
    refine xg_1_size hC hP wq_0 d_Table_shorten_25 ?_
    refine lv_iload_n hx hb d_Table_shorten_28 rfl (lv_at hl 0 rfl) ?_
    refine lv_isub hx hb d_Table_shorten_29 ?_
    obtain ⟨s1, e_s1, hf⟩ := q_lt_some hf
    refine xp_1_size hC hP hD hS e_s1 wq_0 d_Table_shorten_30 (fun H locs hP hS => ?_)
    refine lv_iload_n hx hb d_Table_shorten_33 rfl (lv_at hl 0 rfl) ?_
    exact q_iret hC hr hlk hf (by first | rfl | decide) hP hS d_Table_shorten_34
  have J_21 : ∀ (st_21 : QSt) (H : Heap) (locs : List Loc) (ls : Array Slot), xTable_shorten_21 st_21 = some (ro, so) → va_P G.1 vwCl (wX G st_21) H → va_S A s.heap H locs → lv_has ls 3 [(0, .ref (G.2.2 1))] → W p l e ({ frames := 0, cells := 0, slots := 0, locals := 0 } : Room) s m args below meth c H locs 0 0 (q_Zi below args s G.1 (wX G) ro so A) (F0 m 21 ls []) := by
    intro st_21 H locs ls hf hP hS hl
    unfold xTable_shorten_21 at hf
    refine lv_iconst (v := 0) hx hb d_Table_shorten_21 (by decide) ?_
    exact J_22 _ _ _ _ _ hf hP hS hl
  unfold xTable_shorten at hf
  refine lv_iload_n hx hb d_Table_shorten_0 rfl (lv_at hl 1 rfl) ?_
  refine lv_if_lt (tgt := 21) hx hb d_Table_shorten_1 (by decide) (fun c1 => ?_) (fun c1 => ?_)
  · rw [if_pos c1] at hf
    exact J_21 _ _ _ _ hf hP hS (lv_sub hl [0] rfl)
  rw [if_neg c1] at hf
  refine lv_iload_n hx hb d_Table_shorten_4 rfl (lv_at hl 1 rfl) ?_
  refine lv_aload_n hx hb d_Table_shorten_5 rfl (lv_at hl 0 rfl) ?_
  refine xg_1_size hC hP wq_0 d_Table_shorten_6 ?_
  refine lv_icmp_ge (tgt := 21) hx hb d_Table_shorten_9 (by decide) (fun c1 => ?_) (fun c1 => ?_)
  · rw [if_pos c1] at hf
    exact J_21 _ _ _ _ hf hP hS (lv_sub hl [0] rfl)
  rw [if_neg c1] at hf
  refine lv_aload_n hx hb d_Table_shorten_12 rfl (lv_at hl 0 rfl) ?_
  refine xg_1_size hC hP wq_0 d_Table_shorten_13 ?_
  refine lv_iload_n hx hb d_Table_shorten_16 rfl (lv_at hl 1 rfl) ?_
  refine lv_isub hx hb d_Table_shorten_17 ?_
  refine lv_goto (tgt := 22) hx hb d_Table_shorten_18 (by decide) ?_
  exact J_22 _ _ _ _ _ hf hP hS (lv_sub hl [0] rfl)
def xTable_u16_3 (x1 : Int32) (st : QSt) : Option Int32 :=
  if x1 < 0 then (some 0) else (if x1 ≤ ((st.1 4) - 2) then (q_grd (q_vpb x1 8192) (q_lt (st.2 1 x1.toNatClampNeg) (fun v1 => q_grd (q_vpb (x1 + 1) 8192) (q_lt (st.2 1 (x1 + 1).toNatClampNeg) (fun v2 => some (((v1 &&& 255) <<< (8 &&& 31)) ||| (v2 &&& 255))))))) else (some 0))
set_option maxHeartbeats 4000000 in
set_option maxRecDepth 100000 in
theorem c_xTable_u16_3 (l : Launch) (G : XG) {x1 : Int32} {st : QSt} {ro : Int32} (hf : xTable_u16_3 x1 st = some ro) : q_Mi l y_Table_u16 b_Table_u16 2 .int ({ frames := 0, cells := 0, slots := 0, locals := 0 } : Room) G.1 (xT G) (wX G) [.ref (G.2.2 3), .int x1] st ro st := by
  refine q_Mi_of (by decide) (Nat.le_of_ble_eq_true rfl) (wX_fst G) ?_
  intro p e s m args below meth c A ls hC hr hlk hD hA hP hS hl
  have hx := hC.1.1
  have hb := hC.1.2.1
  have hown := hC.1.2.2.2.1
  have hts := hC.1.2.2.2.2
  have hl : lv_has ls 2 [(0, .ref (G.2.2 3)), (1, .int x1)] := hl
  unfold xTable_u16_3 at hf
  refine lv_iload_n hx hb d_Table_u16_0 rfl (lv_at hl 1 rfl) ?_
  refine lv_if_lt (tgt := 14) hx hb d_Table_u16_1 (by decide) (fun c1 => ?_) (fun c1 => ?_)
  · rw [if_pos c1] at hf
    refine lv_iconst (v := 0) hx hb d_Table_u16_14 (by decide) ?_
    exact q_iretP hC hr hlk hf (by first | rfl | decide) hP hS d_Table_u16_15
  rw [if_neg c1] at hf
  refine lv_iload_n hx hb d_Table_u16_4 rfl (lv_at hl 1 rfl) ?_
  refine lv_aload_n hx hb d_Table_u16_5 rfl (lv_at hl 0 rfl) ?_
  refine xg_3_size hC hP wq_0 d_Table_u16_6 ?_
  refine lv_iconst (v := 2) hx hb d_Table_u16_9 (by decide) ?_
  refine lv_isub hx hb d_Table_u16_10 ?_
  refine lv_icmp_le (tgt := 16) hx hb d_Table_u16_11 (by decide) (fun c1 => ?_) (fun c1 => ?_)
  rotate_left
  · rw [if_neg c1] at hf
    refine lv_iconst (v := 0) hx hb d_Table_u16_14 (by decide) ?_
    exact q_iretP hC hr hlk hf (by first | rfl | decide) hP hS d_Table_u16_15
  rw [if_pos c1] at hf
  refine lv_aload_n hx hb d_Table_u16_16 rfl (lv_at hl 0 rfl) ?_
  refine xg_3_bytes hC hP wq_1 d_Table_u16_17 ?_
  refine lv_iload_n hx hb d_Table_u16_20 rfl (lv_at hl 1 rfl) ?_
  obtain ⟨hi, hf⟩ := q_grd_some hf
  obtain ⟨v1, e_v1, hf⟩ := q_lt_some hf
  refine xl_4 hC hP e_v1 hi d_Table_u16_21 ?_
  refine lv_sipush (v := 255) hx hb d_Table_u16_22 (by decide) ?_
  refine lv_iand hx hb d_Table_u16_25 ?_
  refine lv_bipush (v := 8) hx hb d_Table_u16_26 (by decide) ?_
  refine lv_ishl hx hb d_Table_u16_28 ?_
  refine lv_aload_n hx hb d_Table_u16_29 rfl (lv_at hl 0 rfl) ?_
  refine xg_3_bytes hC hP wq_1 d_Table_u16_30 ?_
  refine lv_iload_n hx hb d_Table_u16_33 rfl (lv_at hl 1 rfl) ?_
  refine lv_iconst (v := 1) hx hb d_Table_u16_34 (by decide) ?_
  refine lv_iadd hx hb d_Table_u16_35 ?_
  obtain ⟨hi, hf⟩ := q_grd_some hf
  obtain ⟨v2, e_v2, hf⟩ := q_lt_some hf
  refine xl_4 hC hP e_v2 hi d_Table_u16_36 ?_
  refine lv_sipush (v := 255) hx hb d_Table_u16_37 (by decide) ?_
  refine lv_iand hx hb d_Table_u16_40 ?_
  refine lv_ior hx hb d_Table_u16_41 ?_
  exact q_iretP hC hr hlk hf (by first | rfl | decide) hP hS d_Table_u16_42
def xTable_s16 (x1 : Int32) (st : QSt) : Option Int32 :=
  q_bn (xTable_u16_3 x1 st) (fun r1 => some r1.toInt16.toInt32)
set_option maxHeartbeats 4000000 in
set_option maxRecDepth 100000 in
theorem c_xTable_s16 (l : Launch) (G : XG) {x1 : Int32} {st : QSt} {ro : Int32} (hf : xTable_s16 x1 st = some ro) : q_Mi l y_Table_s16 b_Table_s16 2 .int ({ frames := 1, cells := 0, slots := 0, locals := 21 } : Room) G.1 (xT G) (wX G) [.ref (G.2.2 3), .int x1] st ro st := by
  refine q_Mi_of (by decide) (Nat.le_of_ble_eq_true rfl) (wX_fst G) ?_
  intro p e s m args below meth c A ls hC hr hlk hD hA hP hS hl
  have hx := hC.1.1
  have hb := hC.1.2.1
  have hown := hC.1.2.2.2.1
  have hts := hC.1.2.2.2.2
  have hl : lv_has ls 2 [(0, .ref (G.2.2 3)), (1, .int x1)] := hl
  unfold xTable_s16 at hf
  refine lv_aload_n hx hb d_Table_s16_0 rfl (lv_at hl 0 rfl) ?_
  refine lv_iload_n hx hb d_Table_s16_1 rfl (lv_at hl 1 rfl) ?_
  obtain ⟨r1, h_r1, hf⟩ := q_bn_some hf
  refine q_callVi (As := [.int x1]) (rest := []) (q0 := 3) hC (c_xTable_u16_3 l G h_r1) cal_Table_u16 wq_2 ⟨rfl, rfl, Nat.le_of_ble_eq_true rfl, Nat.le_of_ble_eq_true rfl⟩ rfl rfl hP hD hA hS rfl hl.1 rfl (Nat.le_of_ble_eq_true rfl) d_Table_s16_2 (fun H locs hP hS => ?_)
  refine lv_i2s (v := r1.toInt16.toInt32) hx hb d_Table_s16_5 rfl ?_
  exact q_iretP hC hr hlk hf (by first | rfl | decide) hP hS d_Table_s16_6
def xTable_u32_3 (x1 : Int32) (st : QSt) : Option Int32 :=
  q_bn (xTable_u16_3 x1 st) (fun r1 => q_bn (xTable_u16_3 (x1 + 2) st) (fun r2 => some ((r1 <<< (16 &&& 31)) ||| r2)))
set_option maxHeartbeats 4000000 in
set_option maxRecDepth 100000 in
theorem c_xTable_u32_3 (l : Launch) (G : XG) {x1 : Int32} {st : QSt} {ro : Int32} (hf : xTable_u32_3 x1 st = some ro) : q_Mi l y_Table_u32 b_Table_u32 2 .int ({ frames := 1, cells := 0, slots := 0, locals := 21 } : Room) G.1 (xT G) (wX G) [.ref (G.2.2 3), .int x1] st ro st := by
  refine q_Mi_of (by decide) (Nat.le_of_ble_eq_true rfl) (wX_fst G) ?_
  intro p e s m args below meth c A ls hC hr hlk hD hA hP hS hl
  have hx := hC.1.1
  have hb := hC.1.2.1
  have hown := hC.1.2.2.2.1
  have hts := hC.1.2.2.2.2
  have hl : lv_has ls 2 [(0, .ref (G.2.2 3)), (1, .int x1)] := hl
  unfold xTable_u32_3 at hf
  refine lv_aload_n hx hb d_Table_u32_0 rfl (lv_at hl 0 rfl) ?_
  refine lv_iload_n hx hb d_Table_u32_1 rfl (lv_at hl 1 rfl) ?_
  obtain ⟨r1, h_r1, hf⟩ := q_bn_some hf
  refine q_callVi (As := [.int x1]) (rest := []) (q0 := 3) hC (c_xTable_u16_3 l G h_r1) cal_Table_u16 wq_2 ⟨rfl, rfl, Nat.le_of_ble_eq_true rfl, Nat.le_of_ble_eq_true rfl⟩ rfl rfl hP hD hA hS rfl hl.1 rfl (Nat.le_of_ble_eq_true rfl) d_Table_u32_2 (fun H locs hP hS => ?_)
  refine lv_bipush (v := 16) hx hb d_Table_u32_5 (by decide) ?_
  refine lv_ishl hx hb d_Table_u32_7 ?_
  refine lv_aload_n hx hb d_Table_u32_8 rfl (lv_at hl 0 rfl) ?_
  refine lv_iload_n hx hb d_Table_u32_9 rfl (lv_at hl 1 rfl) ?_
  refine lv_iconst (v := 2) hx hb d_Table_u32_10 (by decide) ?_
  refine lv_iadd hx hb d_Table_u32_11 ?_
  obtain ⟨r2, h_r2, hf⟩ := q_bn_some hf
  refine q_callVi (As := [.int (x1 + 2)]) (rest := [.int (r1 <<< (16 &&& 31))]) (q0 := 3) hC (c_xTable_u16_3 l G h_r2) cal_Table_u16 wq_2 ⟨rfl, rfl, Nat.le_of_ble_eq_true rfl, Nat.le_of_ble_eq_true rfl⟩ rfl rfl hP hD hA hS rfl hl.1 rfl (Nat.le_of_ble_eq_true rfl) d_Table_u32_12 (fun H locs hP hS => ?_)
  refine lv_ior hx hb d_Table_u32_15 ?_
  exact q_iretP hC hr hlk hf (by first | rfl | decide) hP hS d_Table_u32_16
def xInteger_bitCount (x0 : Int32) : Option Int32 :=
  q_lt (x0 - ((q_ush x0 1) &&& 1431655765)) (fun x0_1001 => q_lt ((x0_1001 &&& 858993459) + ((q_ush x0_1001 2) &&& 858993459)) (fun x0_1002 => q_lt ((x0_1002 + (q_ush x0_1002 4)) &&& 252645135) (fun x0_1003 => q_lt (x0_1003 + (q_ush x0_1003 8)) (fun x0_1004 => q_lt (x0_1004 + (q_ush x0_1004 16)) (fun x0_1005 => some (x0_1005 &&& 63))))))
set_option maxHeartbeats 4000000 in
set_option maxRecDepth 100000 in
theorem c_xInteger_bitCount (l : Launch) (G : XG) {x0 : Int32} {st : QSt} {ro : Int32} (hf : xInteger_bitCount x0 = some ro) : q_Mi l y_Integer_bitCount b_Integer_bitCount 1 .int ({ frames := 0, cells := 0, slots := 0, locals := 0 } : Room) G.1 (xT G) (wX G) [.int x0] st ro st := by
  refine q_Mi_of (by decide) (Nat.le_of_ble_eq_true rfl) (wX_fst G) ?_
  intro p e s m args below meth c A ls hC hr hlk hD hA hP hS hl
  have hx := hC.1.1
  have hb := hC.1.2.1
  have hown := hC.1.2.2.2.1
  have hts := hC.1.2.2.2.2
  have hl : lv_has ls 1 [(0, .int x0)] := hl
  unfold xInteger_bitCount at hf
  refine lv_iload_n hx hb d_Integer_bitCount_0 rfl (lv_at hl 0 rfl) ?_
  refine lv_iload_n hx hb d_Integer_bitCount_1 rfl (lv_at hl 0 rfl) ?_
  refine lv_iconst (v := 1) hx hb d_Integer_bitCount_2 (by decide) ?_
  refine lv_iushr (v := q_ush x0 1) hx hb d_Integer_bitCount_3 rfl ?_
  refine lv_ldcw (v := 1431655765) hx hb hown (hts _ wq_3) d_Integer_bitCount_4 ?_
  refine lv_iand hx hb d_Integer_bitCount_7 ?_
  refine lv_isub hx hb d_Integer_bitCount_8 ?_
  obtain ⟨x0_1001, e_x0_1001, hf⟩ := q_lt_some hf
  refine q_topi e_x0_1001 ?_
  refine lv_istore_n (lv' := [(0, .int x0_1001)]) hx hb d_Integer_bitCount_9 rfl hl (by decide) rfl (fun ls hl => ?_)
  refine lv_iload_n hx hb d_Integer_bitCount_10 rfl (lv_at hl 0 rfl) ?_
  refine lv_ldcw (v := 858993459) hx hb hown (hts _ wq_4) d_Integer_bitCount_11 ?_
  refine lv_iand hx hb d_Integer_bitCount_14 ?_
  refine lv_iload_n hx hb d_Integer_bitCount_15 rfl (lv_at hl 0 rfl) ?_
  refine lv_iconst (v := 2) hx hb d_Integer_bitCount_16 (by decide) ?_
  refine lv_iushr (v := q_ush x0_1001 2) hx hb d_Integer_bitCount_17 rfl ?_
  refine lv_ldcw (v := 858993459) hx hb hown (hts _ wq_4) d_Integer_bitCount_18 ?_
  refine lv_iand hx hb d_Integer_bitCount_21 ?_
  refine lv_iadd hx hb d_Integer_bitCount_22 ?_
  obtain ⟨x0_1002, e_x0_1002, hf⟩ := q_lt_some hf
  refine q_topi e_x0_1002 ?_
  refine lv_istore_n (lv' := [(0, .int x0_1002)]) hx hb d_Integer_bitCount_23 rfl hl (by decide) rfl (fun ls hl => ?_)
  refine lv_iload_n hx hb d_Integer_bitCount_24 rfl (lv_at hl 0 rfl) ?_
  refine lv_iload_n hx hb d_Integer_bitCount_25 rfl (lv_at hl 0 rfl) ?_
  refine lv_iconst (v := 4) hx hb d_Integer_bitCount_26 (by decide) ?_
  refine lv_iushr (v := q_ush x0_1002 4) hx hb d_Integer_bitCount_27 rfl ?_
  refine lv_iadd hx hb d_Integer_bitCount_28 ?_
  refine lv_ldcw (v := 252645135) hx hb hown (hts _ wq_5) d_Integer_bitCount_29 ?_
  refine lv_iand hx hb d_Integer_bitCount_32 ?_
  obtain ⟨x0_1003, e_x0_1003, hf⟩ := q_lt_some hf
  refine q_topi e_x0_1003 ?_
  refine lv_istore_n (lv' := [(0, .int x0_1003)]) hx hb d_Integer_bitCount_33 rfl hl (by decide) rfl (fun ls hl => ?_)
  refine lv_iload_n hx hb d_Integer_bitCount_34 rfl (lv_at hl 0 rfl) ?_
  refine lv_iload_n hx hb d_Integer_bitCount_35 rfl (lv_at hl 0 rfl) ?_
  refine lv_bipush (v := 8) hx hb d_Integer_bitCount_36 (by decide) ?_
  refine lv_iushr (v := q_ush x0_1003 8) hx hb d_Integer_bitCount_38 rfl ?_
  refine lv_iadd hx hb d_Integer_bitCount_39 ?_
  obtain ⟨x0_1004, e_x0_1004, hf⟩ := q_lt_some hf
  refine q_topi e_x0_1004 ?_
  refine lv_istore_n (lv' := [(0, .int x0_1004)]) hx hb d_Integer_bitCount_40 rfl hl (by decide) rfl (fun ls hl => ?_)
  refine lv_iload_n hx hb d_Integer_bitCount_41 rfl (lv_at hl 0 rfl) ?_
  refine lv_iload_n hx hb d_Integer_bitCount_42 rfl (lv_at hl 0 rfl) ?_
  refine lv_bipush (v := 16) hx hb d_Integer_bitCount_43 (by decide) ?_
  refine lv_iushr (v := q_ush x0_1004 16) hx hb d_Integer_bitCount_45 rfl ?_
  refine lv_iadd hx hb d_Integer_bitCount_46 ?_
  obtain ⟨x0_1005, e_x0_1005, hf⟩ := q_lt_some hf
  refine q_topi e_x0_1005 ?_
  refine lv_istore_n (lv' := [(0, .int x0_1005)]) hx hb d_Integer_bitCount_47 rfl hl (by decide) rfl (fun ls hl => ?_)
  refine lv_iload_n hx hb d_Integer_bitCount_48 rfl (lv_at hl 0 rfl) ?_
  refine lv_bipush (v := 63) hx hb d_Integer_bitCount_49 (by decide) ?_
  refine lv_iand hx hb d_Integer_bitCount_51 ?_
  exact q_iretP hC hr hlk hf (by first | rfl | decide) hP hS d_Integer_bitCount_52
def xInteger_compare (x0 x1 : Int32) : Option Int32 :=
  if x1 ≤ x0 then (if x0 = x1 then (some 0) else (some 1)) else (some (-1))
set_option maxHeartbeats 4000000 in
set_option maxRecDepth 100000 in
theorem c_xInteger_compare (l : Launch) (G : XG) {x0 x1 : Int32} {st : QSt} {ro : Int32} (hf : xInteger_compare x0 x1 = some ro) : q_Mi l y_Integer_compare b_Integer_compare 2 .int ({ frames := 0, cells := 0, slots := 0, locals := 0 } : Room) G.1 (xT G) (wX G) [.int x0, .int x1] st ro st := by
  refine q_Mi_of (by decide) (Nat.le_of_ble_eq_true rfl) (wX_fst G) ?_
  intro p e s m args below meth c A ls hC hr hlk hD hA hP hS hl
  have hx := hC.1.1
  have hb := hC.1.2.1
  have hown := hC.1.2.2.2.1
  have hts := hC.1.2.2.2.2
  have hl : lv_has ls 2 [(0, .int x0), (1, .int x1)] := hl
  unfold xInteger_compare at hf
  refine lv_iload_n hx hb d_Integer_compare_0 rfl (lv_at hl 0 rfl) ?_
  refine lv_iload_n hx hb d_Integer_compare_1 rfl (lv_at hl 1 rfl) ?_
  refine lv_icmp_ge (tgt := 9) hx hb d_Integer_compare_2 (by decide) (fun c1 => ?_) (fun c1 => ?_)
  rotate_left
  · rw [if_neg c1] at hf
    refine lv_iconst (v := (-1)) hx hb d_Integer_compare_5 (by decide) ?_
    refine lv_goto (tgt := 19) hx hb d_Integer_compare_6 (by decide) ?_
    exact q_iretP hC hr hlk hf (by first | rfl | decide) hP hS d_Integer_compare_19
  rw [if_pos c1] at hf
  refine lv_iload_n hx hb d_Integer_compare_9 rfl (lv_at hl 0 rfl) ?_
  refine lv_iload_n hx hb d_Integer_compare_10 rfl (lv_at hl 1 rfl) ?_
  refine lv_icmp_ne (tgt := 18) hx hb d_Integer_compare_11 (by decide) (fun c1 => ?_) (fun c1 => ?_)
  · rw [if_neg c1] at hf
    refine lv_iconst (v := 1) hx hb d_Integer_compare_18 (by decide) ?_
    exact q_iretP hC hr hlk hf (by first | rfl | decide) hP hS d_Integer_compare_19
  rw [if_pos c1] at hf
  refine lv_iconst (v := 0) hx hb d_Integer_compare_14 (by decide) ?_
  refine lv_goto (tgt := 19) hx hb d_Integer_compare_15 (by decide) ?_
  exact q_iretP hC hr hlk hf (by first | rfl | decide) hP hS d_Integer_compare_19
def xInteger_compareUnsigned (x0 x1 : Int32) : Option Int32 :=
  q_bn (xInteger_compare (x0 + (-2147483648)) (x1 + (-2147483648))) (fun r1 => some r1)
set_option maxHeartbeats 4000000 in
set_option maxRecDepth 100000 in
theorem c_xInteger_compareUnsigned (l : Launch) (G : XG) {x0 x1 : Int32} {st : QSt} {ro : Int32} (hf : xInteger_compareUnsigned x0 x1 = some ro) : q_Mi l y_Integer_compareUnsigned b_Integer_compareUnsigned 2 .int ({ frames := 1, cells := 0, slots := 0, locals := 21 } : Room) G.1 (xT G) (wX G) [.int x0, .int x1] st ro st := by
  refine q_Mi_of (by decide) (Nat.le_of_ble_eq_true rfl) (wX_fst G) ?_
  intro p e s m args below meth c A ls hC hr hlk hD hA hP hS hl
  have hx := hC.1.1
  have hb := hC.1.2.1
  have hown := hC.1.2.2.2.1
  have hts := hC.1.2.2.2.2
  have hl : lv_has ls 2 [(0, .int x0), (1, .int x1)] := hl
  unfold xInteger_compareUnsigned at hf
  refine lv_iload_n hx hb d_Integer_compareUnsigned_0 rfl (lv_at hl 0 rfl) ?_
  refine lv_ldc (v := (-2147483648)) hx hb hown (hts _ wq_6) d_Integer_compareUnsigned_1 ?_
  refine lv_iadd hx hb d_Integer_compareUnsigned_3 ?_
  refine lv_iload_n hx hb d_Integer_compareUnsigned_4 rfl (lv_at hl 1 rfl) ?_
  refine lv_ldc (v := (-2147483648)) hx hb hown (hts _ wq_6) d_Integer_compareUnsigned_5 ?_
  refine lv_iadd hx hb d_Integer_compareUnsigned_7 ?_
  obtain ⟨r1, h_r1, hf⟩ := q_bn_some hf
  refine q_callSi (As := [.int (x0 + (-2147483648)), .int (x1 + (-2147483648))]) (rest := []) hC (c_xInteger_compare l G h_r1) cal_Integer_compare wq_7 ⟨rfl, rfl, Nat.le_of_ble_eq_true rfl, Nat.le_of_ble_eq_true rfl⟩ hP hD hA hS rfl hl.1 rfl (Nat.le_of_ble_eq_true rfl) d_Integer_compareUnsigned_8 (fun H locs hP hS => ?_)
  exact q_iretP hC hr hlk hf (by first | rfl | decide) hP hS d_Integer_compareUnsigned_11
end
