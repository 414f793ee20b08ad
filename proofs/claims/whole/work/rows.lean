section
-- ===== PART A: goes FIRST, ahead of the names: the tables' words, and 'selects' of the private methods out of them =====
/-- a private method of a class that the tables say can be made, by its rows of tables_1 -/
def lw_okq (q : MethodName × Nat) : Prop := (q.1.cls ≠ "java/lang/invoke/MethodHandle" ∧ q.1.cls ≠ "java/lang/invoke/VarHandle") ∧ Cond.instantiable q.1.cls q.2 ∈ tables_1 ∧ Cond.privateMethod q.1 ∈ tables_1 ∧ Cond.instanceMethod q.1 ∈ tables_1
theorem lw_p0 : lw_okq (⟨"java/lang/Throwable", "fillInStackTrace", "(I)Ljava/lang/Throwable;"⟩, 6) := ⟨⟨by decide +kernel, by decide +kernel⟩, List.mem_of_getElem? (i := 158) (by decide +kernel), List.mem_of_getElem? (i := 156) (by decide +kernel), List.mem_of_getElem? (i := 157) (by decide +kernel)⟩
theorem lw_p1 : lw_okq (⟨"DecimalWords", "operate", "(IIII)Z"⟩, 7) := ⟨⟨by decide +kernel, by decide +kernel⟩, List.mem_of_getElem? (i := 16) (by decide +kernel), List.mem_of_getElem? (i := 269) (by decide +kernel), List.mem_of_getElem? (i := 270) (by decide +kernel)⟩
theorem lw_p2 : lw_okq (⟨"DecimalWords", "setResult", "(ILDecimalWords$Datum;LDecimalWords$Datum;)V"⟩, 7) := ⟨⟨by decide +kernel, by decide +kernel⟩, List.mem_of_getElem? (i := 16) (by decide +kernel), List.mem_of_getElem? (i := 273) (by decide +kernel), List.mem_of_getElem? (i := 274) (by decide +kernel)⟩
theorem lw_p3 : lw_okq (⟨"DecimalWords", "setNext", "(LDecimalWords$Datum;)V"⟩, 7) := ⟨⟨by decide +kernel, by decide +kernel⟩, List.mem_of_getElem? (i := 16) (by decide +kernel), List.mem_of_getElem? (i := 277) (by decide +kernel), List.mem_of_getElem? (i := 278) (by decide +kernel)⟩
theorem lw_p4 : lw_okq (⟨"DecimalWords", "stepToZero", "(JI)V"⟩, 7) := ⟨⟨by decide +kernel, by decide +kernel⟩, List.mem_of_getElem? (i := 16) (by decide +kernel), List.mem_of_getElem? (i := 304) (by decide +kernel), List.mem_of_getElem? (i := 305) (by decide +kernel)⟩
theorem lw_p5 : lw_okq (⟨"DecimalWords", "stepFromZero", "(JI)V"⟩, 7) := ⟨⟨by decide +kernel, by decide +kernel⟩, List.mem_of_getElem? (i := 16) (by decide +kernel), List.mem_of_getElem? (i := 309) (by decide +kernel), List.mem_of_getElem? (i := 310) (by decide +kernel)⟩
theorem lw_p6 : lw_okq (⟨"DecimalWords", "setFromInfinity", "(ILDecimalWords$Datum;LDecimalWords$Datum;)V"⟩, 7) := ⟨⟨by decide +kernel, by decide +kernel⟩, List.mem_of_getElem? (i := 16) (by decide +kernel), List.mem_of_getElem? (i := 335) (by decide +kernel), List.mem_of_getElem? (i := 336) (by decide +kernel)⟩
theorem lw_p7 : lw_okq (⟨"DecimalWords", "addInfinity", "(LDecimalWords$Datum;LDecimalWords$Datum;Z)V"⟩, 7) := ⟨⟨by decide +kernel, by decide +kernel⟩, List.mem_of_getElem? (i := 16) (by decide +kernel), List.mem_of_getElem? (i := 339) (by decide +kernel), List.mem_of_getElem? (i := 340) (by decide +kernel)⟩
theorem lw_p8 : lw_okq (⟨"DecimalWords", "setInvalid", "()V"⟩, 7) := ⟨⟨by decide +kernel, by decide +kernel⟩, List.mem_of_getElem? (i := 16) (by decide +kernel), List.mem_of_getElem? (i := 343) (by decide +kernel), List.mem_of_getElem? (i := 344) (by decide +kernel)⟩
theorem lw_p9 : lw_okq (⟨"DecimalWords", "raise", "(I)V"⟩, 7) := ⟨⟨by decide +kernel, by decide +kernel⟩, List.mem_of_getElem? (i := 16) (by decide +kernel), List.mem_of_getElem? (i := 347) (by decide +kernel), List.mem_of_getElem? (i := 348) (by decide +kernel)⟩
theorem lw_p10 : lw_okq (⟨"DecimalWords", "setFromFinite", "(ILDecimalWords$Datum;LDecimalWords$Datum;)V"⟩, 7) := ⟨⟨by decide +kernel, by decide +kernel⟩, List.mem_of_getElem? (i := 16) (by decide +kernel), List.mem_of_getElem? (i := 351) (by decide +kernel), List.mem_of_getElem? (i := 352) (by decide +kernel)⟩
theorem lw_p11 : lw_okq (⟨"DecimalWords$Outcome", "join", "(LDecimalWords$Datum;LDecimalWords$Datum;Z)V"⟩, 8) := ⟨⟨by decide +kernel, by decide +kernel⟩, List.mem_of_getElem? (i := 55) (by decide +kernel), List.mem_of_getElem? (i := 364) (by decide +kernel), List.mem_of_getElem? (i := 365) (by decide +kernel)⟩
theorem lw_p12 : lw_okq (⟨"DecimalWords$Outcome", "addToLow", "(J)V"⟩, 8) := ⟨⟨by decide +kernel, by decide +kernel⟩, List.mem_of_getElem? (i := 55) (by decide +kernel), List.mem_of_getElem? (i := 371) (by decide +kernel), List.mem_of_getElem? (i := 372) (by decide +kernel)⟩
theorem lw_p13 : lw_okq (⟨"DecimalWords", "fit", "()V"⟩, 7) := ⟨⟨by decide +kernel, by decide +kernel⟩, List.mem_of_getElem? (i := 16) (by decide +kernel), List.mem_of_getElem? (i := 380) (by decide +kernel), List.mem_of_getElem? (i := 381) (by decide +kernel)⟩
theorem lw_p14 : lw_okq (⟨"DecimalWords", "fitWithoutRest", "()Z"⟩, 7) := ⟨⟨by decide +kernel, by decide +kernel⟩, List.mem_of_getElem? (i := 16) (by decide +kernel), List.mem_of_getElem? (i := 385) (by decide +kernel), List.mem_of_getElem? (i := 386) (by decide +kernel)⟩
theorem lw_p15 : lw_okq (⟨"DecimalWords", "fitRounded", "()V"⟩, 7) := ⟨⟨by decide +kernel, by decide +kernel⟩, List.mem_of_getElem? (i := 16) (by decide +kernel), List.mem_of_getElem? (i := 395) (by decide +kernel), List.mem_of_getElem? (i := 396) (by decide +kernel)⟩
def lw_privs_1 : List (MethodName × Nat) := [(⟨"java/lang/Throwable", "fillInStackTrace", "(I)Ljava/lang/Throwable;"⟩, 6), (⟨"DecimalWords", "operate", "(IIII)Z"⟩, 7), (⟨"DecimalWords", "setResult", "(ILDecimalWords$Datum;LDecimalWords$Datum;)V"⟩, 7), (⟨"DecimalWords", "setNext", "(LDecimalWords$Datum;)V"⟩, 7), (⟨"DecimalWords", "stepToZero", "(JI)V"⟩, 7), (⟨"DecimalWords", "stepFromZero", "(JI)V"⟩, 7), (⟨"DecimalWords", "setFromInfinity", "(ILDecimalWords$Datum;LDecimalWords$Datum;)V"⟩, 7), (⟨"DecimalWords", "addInfinity", "(LDecimalWords$Datum;LDecimalWords$Datum;Z)V"⟩, 7), (⟨"DecimalWords", "setInvalid", "()V"⟩, 7), (⟨"DecimalWords", "raise", "(I)V"⟩, 7), (⟨"DecimalWords", "setFromFinite", "(ILDecimalWords$Datum;LDecimalWords$Datum;)V"⟩, 7), (⟨"DecimalWords$Outcome", "join", "(LDecimalWords$Datum;LDecimalWords$Datum;Z)V"⟩, 8), (⟨"DecimalWords$Outcome", "addToLow", "(J)V"⟩, 8), (⟨"DecimalWords", "fit", "()V"⟩, 7), (⟨"DecimalWords", "fitWithoutRest", "()Z"⟩, 7), (⟨"DecimalWords", "fitRounded", "()V"⟩, 7)]
theorem lw_r1 : ∀ q ∈ lw_privs_1, lw_okq q := List.forall_mem_cons.mpr ⟨lw_p0, List.forall_mem_cons.mpr ⟨lw_p1, List.forall_mem_cons.mpr ⟨lw_p2, List.forall_mem_cons.mpr ⟨lw_p3, List.forall_mem_cons.mpr ⟨lw_p4, List.forall_mem_cons.mpr ⟨lw_p5, List.forall_mem_cons.mpr ⟨lw_p6, List.forall_mem_cons.mpr ⟨lw_p7, List.forall_mem_cons.mpr ⟨lw_p8, List.forall_mem_cons.mpr ⟨lw_p9, List.forall_mem_cons.mpr ⟨lw_p10, List.forall_mem_cons.mpr ⟨lw_p11, List.forall_mem_cons.mpr ⟨lw_p12, List.forall_mem_cons.mpr ⟨lw_p13, List.forall_mem_cons.mpr ⟨lw_p14, List.forall_mem_cons.mpr ⟨lw_p15, fun _ h => absurd h List.not_mem_nil⟩⟩⟩⟩⟩⟩⟩⟩⟩⟩⟩⟩⟩⟩⟩⟩
theorem lw_p16 : lw_okq (⟨"DecimalWords", "setTooGreat", "()V"⟩, 7) := ⟨⟨by decide +kernel, by decide +kernel⟩, List.mem_of_getElem? (i := 16) (by decide +kernel), List.mem_of_getElem? (i := 403) (by decide +kernel), List.mem_of_getElem? (i := 404) (by decide +kernel)⟩
theorem lw_p17 : lw_okq (⟨"DecimalWords", "roundedKept", "(Z)J"⟩, 7) := ⟨⟨by decide +kernel, by decide +kernel⟩, List.mem_of_getElem? (i := 16) (by decide +kernel), List.mem_of_getElem? (i := 415) (by decide +kernel), List.mem_of_getElem? (i := 416) (by decide +kernel)⟩
theorem lw_p18 : lw_okq (⟨"DecimalWords", "divide", "(LDecimalWords$Datum;LDecimalWords$Datum;)V"⟩, 7) := ⟨⟨by decide +kernel, by decide +kernel⟩, List.mem_of_getElem? (i := 16) (by decide +kernel), List.mem_of_getElem? (i := 425) (by decide +kernel), List.mem_of_getElem? (i := 426) (by decide +kernel)⟩
theorem lw_p19 : lw_okq (⟨"DecimalWords", "quantize", "(LDecimalWords$Datum;I)V"⟩, 7) := ⟨⟨by decide +kernel, by decide +kernel⟩, List.mem_of_getElem? (i := 16) (by decide +kernel), List.mem_of_getElem? (i := 436) (by decide +kernel), List.mem_of_getElem? (i := 437) (by decide +kernel)⟩
theorem lw_p20 : lw_okq (⟨"DecimalWordsModel", "noRegister", "(I)Z"⟩, 18) := ⟨⟨by decide +kernel, by decide +kernel⟩, List.mem_of_getElem? (i := 565) (by decide +kernel), List.mem_of_getElem? (i := 637) (by decide +kernel), List.mem_of_getElem? (i := 638) (by decide +kernel)⟩
theorem lw_p21 : lw_okq (⟨"DecimalWordsModel", "operate", "(III)V"⟩, 18) := ⟨⟨by decide +kernel, by decide +kernel⟩, List.mem_of_getElem? (i := 565) (by decide +kernel), List.mem_of_getElem? (i := 641) (by decide +kernel), List.mem_of_getElem? (i := 642) (by decide +kernel)⟩
theorem lw_p22 : lw_okq (⟨"DecimalWordsModel", "is", "(II)Z"⟩, 18) := ⟨⟨by decide +kernel, by decide +kernel⟩, List.mem_of_getElem? (i := 565) (by decide +kernel), List.mem_of_getElem? (i := 645) (by decide +kernel), List.mem_of_getElem? (i := 646) (by decide +kernel)⟩
theorem lw_p23 : lw_okq (⟨"DecimalWordsModel", "be", "(IZJI)V"⟩, 18) := ⟨⟨by decide +kernel, by decide +kernel⟩, List.mem_of_getElem? (i := 565) (by decide +kernel), List.mem_of_getElem? (i := 649) (by decide +kernel), List.mem_of_getElem? (i := 650) (by decide +kernel)⟩
theorem lw_p24 : lw_okq (⟨"DecimalWordsModel", "add", "(IIZ)V"⟩, 18) := ⟨⟨by decide +kernel, by decide +kernel⟩, List.mem_of_getElem? (i := 565) (by decide +kernel), List.mem_of_getElem? (i := 653) (by decide +kernel), List.mem_of_getElem? (i := 654) (by decide +kernel)⟩
theorem lw_p25 : lw_okq (⟨"DecimalWordsModel", "invalid", "()V"⟩, 18) := ⟨⟨by decide +kernel, by decide +kernel⟩, List.mem_of_getElem? (i := 565) (by decide +kernel), List.mem_of_getElem? (i := 657) (by decide +kernel), List.mem_of_getElem? (i := 658) (by decide +kernel)⟩
theorem lw_p26 : lw_okq (⟨"DecimalWordsModel", "lay", "(JI)V"⟩, 18) := ⟨⟨by decide +kernel, by decide +kernel⟩, List.mem_of_getElem? (i := 565) (by decide +kernel), List.mem_of_getElem? (i := 661) (by decide +kernel), List.mem_of_getElem? (i := 662) (by decide +kernel)⟩
theorem lw_p27 : lw_okq (⟨"DecimalWordsModel", "clear", "()V"⟩, 18) := ⟨⟨by decide +kernel, by decide +kernel⟩, List.mem_of_getElem? (i := 565) (by decide +kernel), List.mem_of_getElem? (i := 665) (by decide +kernel), List.mem_of_getElem? (i := 666) (by decide +kernel)⟩
theorem lw_p28 : lw_okq (⟨"DecimalWordsModel", "layOther", "(JI)V"⟩, 18) := ⟨⟨by decide +kernel, by decide +kernel⟩, List.mem_of_getElem? (i := 565) (by decide +kernel), List.mem_of_getElem? (i := 670) (by decide +kernel), List.mem_of_getElem? (i := 671) (by decide +kernel)⟩
theorem lw_p29 : lw_okq (⟨"DecimalWordsModel", "addDigits", "()V"⟩, 18) := ⟨⟨by decide +kernel, by decide +kernel⟩, List.mem_of_getElem? (i := 565) (by decide +kernel), List.mem_of_getElem? (i := 674) (by decide +kernel), List.mem_of_getElem? (i := 675) (by decide +kernel)⟩
theorem lw_p30 : lw_okq (⟨"DecimalWordsModel", "subtractDigits", "()Z"⟩, 18) := ⟨⟨by decide +kernel, by decide +kernel⟩, List.mem_of_getElem? (i := 565) (by decide +kernel), List.mem_of_getElem? (i := 678) (by decide +kernel), List.mem_of_getElem? (i := 679) (by decide +kernel)⟩
theorem lw_p31 : lw_okq (⟨"DecimalWordsModel", "less", "()Z"⟩, 18) := ⟨⟨by decide +kernel, by decide +kernel⟩, List.mem_of_getElem? (i := 565) (by decide +kernel), List.mem_of_getElem? (i := 682) (by decide +kernel), List.mem_of_getElem? (i := 683) (by decide +kernel)⟩
def lw_privs_2 : List (MethodName × Nat) := [(⟨"DecimalWords", "setTooGreat", "()V"⟩, 7), (⟨"DecimalWords", "roundedKept", "(Z)J"⟩, 7), (⟨"DecimalWords", "divide", "(LDecimalWords$Datum;LDecimalWords$Datum;)V"⟩, 7), (⟨"DecimalWords", "quantize", "(LDecimalWords$Datum;I)V"⟩, 7), (⟨"DecimalWordsModel", "noRegister", "(I)Z"⟩, 18), (⟨"DecimalWordsModel", "operate", "(III)V"⟩, 18), (⟨"DecimalWordsModel", "is", "(II)Z"⟩, 18), (⟨"DecimalWordsModel", "be", "(IZJI)V"⟩, 18), (⟨"DecimalWordsModel", "add", "(IIZ)V"⟩, 18), (⟨"DecimalWordsModel", "invalid", "()V"⟩, 18), (⟨"DecimalWordsModel", "lay", "(JI)V"⟩, 18), (⟨"DecimalWordsModel", "clear", "()V"⟩, 18), (⟨"DecimalWordsModel", "layOther", "(JI)V"⟩, 18), (⟨"DecimalWordsModel", "addDigits", "()V"⟩, 18), (⟨"DecimalWordsModel", "subtractDigits", "()Z"⟩, 18), (⟨"DecimalWordsModel", "less", "()Z"⟩, 18)]
theorem lw_r2 : ∀ q ∈ lw_privs_2, lw_okq q := List.forall_mem_cons.mpr ⟨lw_p16, List.forall_mem_cons.mpr ⟨lw_p17, List.forall_mem_cons.mpr ⟨lw_p18, List.forall_mem_cons.mpr ⟨lw_p19, List.forall_mem_cons.mpr ⟨lw_p20, List.forall_mem_cons.mpr ⟨lw_p21, List.forall_mem_cons.mpr ⟨lw_p22, List.forall_mem_cons.mpr ⟨lw_p23, List.forall_mem_cons.mpr ⟨lw_p24, List.forall_mem_cons.mpr ⟨lw_p25, List.forall_mem_cons.mpr ⟨lw_p26, List.forall_mem_cons.mpr ⟨lw_p27, List.forall_mem_cons.mpr ⟨lw_p28, List.forall_mem_cons.mpr ⟨lw_p29, List.forall_mem_cons.mpr ⟨lw_p30, List.forall_mem_cons.mpr ⟨lw_p31, fun _ h => absurd h List.not_mem_nil⟩⟩⟩⟩⟩⟩⟩⟩⟩⟩⟩⟩⟩⟩⟩⟩
theorem lw_p32 : lw_okq (⟨"DecimalWordsModel", "trim", "()V"⟩, 18) := ⟨⟨by decide +kernel, by decide +kernel⟩, List.mem_of_getElem? (i := 565) (by decide +kernel), List.mem_of_getElem? (i := 686) (by decide +kernel), List.mem_of_getElem? (i := 687) (by decide +kernel)⟩
theorem lw_p33 : lw_okq (⟨"DecimalWordsModel", "fit", "(ZI)V"⟩, 18) := ⟨⟨by decide +kernel, by decide +kernel⟩, List.mem_of_getElem? (i := 565) (by decide +kernel), List.mem_of_getElem? (i := 690) (by decide +kernel), List.mem_of_getElem? (i := 691) (by decide +kernel)⟩
theorem lw_p34 : lw_okq (⟨"DecimalWordsModel", "between", "(III)I"⟩, 18) := ⟨⟨by decide +kernel, by decide +kernel⟩, List.mem_of_getElem? (i := 565) (by decide +kernel), List.mem_of_getElem? (i := 694) (by decide +kernel), List.mem_of_getElem? (i := 695) (by decide +kernel)⟩
theorem lw_p35 : lw_okq (⟨"DecimalWordsModel", "whole", "(I)J"⟩, 18) := ⟨⟨by decide +kernel, by decide +kernel⟩, List.mem_of_getElem? (i := 565) (by decide +kernel), List.mem_of_getElem? (i := 698) (by decide +kernel), List.mem_of_getElem? (i := 699) (by decide +kernel)⟩
theorem lw_p36 : lw_okq (⟨"DecimalWordsModel", "times", "(JI)J"⟩, 18) := ⟨⟨by decide +kernel, by decide +kernel⟩, List.mem_of_getElem? (i := 565) (by decide +kernel), List.mem_of_getElem? (i := 702) (by decide +kernel), List.mem_of_getElem? (i := 703) (by decide +kernel)⟩
theorem lw_p37 : lw_okq (⟨"DecimalWordsModel", "great", "(Z)V"⟩, 18) := ⟨⟨by decide +kernel, by decide +kernel⟩, List.mem_of_getElem? (i := 565) (by decide +kernel), List.mem_of_getElem? (i := 706) (by decide +kernel), List.mem_of_getElem? (i := 707) (by decide +kernel)⟩
theorem lw_p38 : lw_okq (⟨"DecimalWordsModel", "rounded", "(IZ)J"⟩, 18) := ⟨⟨by decide +kernel, by decide +kernel⟩, List.mem_of_getElem? (i := 565) (by decide +kernel), List.mem_of_getElem? (i := 711) (by decide +kernel), List.mem_of_getElem? (i := 712) (by decide +kernel)⟩
theorem lw_p39 : lw_okq (⟨"DecimalWordsModel", "multiply", "(II)V"⟩, 18) := ⟨⟨by decide +kernel, by decide +kernel⟩, List.mem_of_getElem? (i := 565) (by decide +kernel), List.mem_of_getElem? (i := 718) (by decide +kernel), List.mem_of_getElem? (i := 719) (by decide +kernel)⟩
theorem lw_p40 : lw_okq (⟨"DecimalWordsModel", "divide", "(II)V"⟩, 18) := ⟨⟨by decide +kernel, by decide +kernel⟩, List.mem_of_getElem? (i := 565) (by decide +kernel), List.mem_of_getElem? (i := 722) (by decide +kernel), List.mem_of_getElem? (i := 723) (by decide +kernel)⟩
theorem lw_p41 : lw_okq (⟨"DecimalWordsModel", "quantize", "(II)V"⟩, 18) := ⟨⟨by decide +kernel, by decide +kernel⟩, List.mem_of_getElem? (i := 565) (by decide +kernel), List.mem_of_getElem? (i := 726) (by decide +kernel), List.mem_of_getElem? (i := 727) (by decide +kernel)⟩
theorem lw_p42 : lw_okq (⟨"DecimalWordsModel", "order", "(II)I"⟩, 18) := ⟨⟨by decide +kernel, by decide +kernel⟩, List.mem_of_getElem? (i := 565) (by decide +kernel), List.mem_of_getElem? (i := 730) (by decide +kernel), List.mem_of_getElem? (i := 731) (by decide +kernel)⟩
theorem lw_p43 : lw_okq (⟨"DecimalWordsModel", "signOf", "(I)I"⟩, 18) := ⟨⟨by decide +kernel, by decide +kernel⟩, List.mem_of_getElem? (i := 565) (by decide +kernel), List.mem_of_getElem? (i := 734) (by decide +kernel), List.mem_of_getElem? (i := 735) (by decide +kernel)⟩
theorem lw_p44 : lw_okq (⟨"DecimalWordsModel", "compareSizes", "(II)I"⟩, 18) := ⟨⟨by decide +kernel, by decide +kernel⟩, List.mem_of_getElem? (i := 565) (by decide +kernel), List.mem_of_getElem? (i := 738) (by decide +kernel), List.mem_of_getElem? (i := 739) (by decide +kernel)⟩
theorem lw_p45 : lw_okq (⟨"DecimalWordsModel", "lengthOf", "(J)I"⟩, 18) := ⟨⟨by decide +kernel, by decide +kernel⟩, List.mem_of_getElem? (i := 565) (by decide +kernel), List.mem_of_getElem? (i := 742) (by decide +kernel), List.mem_of_getElem? (i := 743) (by decide +kernel)⟩
theorem lw_p46 : lw_okq (⟨"DecimalWordsModel", "copy", "(I)V"⟩, 18) := ⟨⟨by decide +kernel, by decide +kernel⟩, List.mem_of_getElem? (i := 565) (by decide +kernel), List.mem_of_getElem? (i := 746) (by decide +kernel), List.mem_of_getElem? (i := 747) (by decide +kernel)⟩
theorem lw_p47 : lw_okq (⟨"DecimalWordsModel", "next", "(I)V"⟩, 18) := ⟨⟨by decide +kernel, by decide +kernel⟩, List.mem_of_getElem? (i := 565) (by decide +kernel), List.mem_of_getElem? (i := 750) (by decide +kernel), List.mem_of_getElem? (i := 751) (by decide +kernel)⟩
def lw_privs_3 : List (MethodName × Nat) := [(⟨"DecimalWordsModel", "trim", "()V"⟩, 18), (⟨"DecimalWordsModel", "fit", "(ZI)V"⟩, 18), (⟨"DecimalWordsModel", "between", "(III)I"⟩, 18), (⟨"DecimalWordsModel", "whole", "(I)J"⟩, 18), (⟨"DecimalWordsModel", "times", "(JI)J"⟩, 18), (⟨"DecimalWordsModel", "great", "(Z)V"⟩, 18), (⟨"DecimalWordsModel", "rounded", "(IZ)J"⟩, 18), (⟨"DecimalWordsModel", "multiply", "(II)V"⟩, 18), (⟨"DecimalWordsModel", "divide", "(II)V"⟩, 18), (⟨"DecimalWordsModel", "quantize", "(II)V"⟩, 18), (⟨"DecimalWordsModel", "order", "(II)I"⟩, 18), (⟨"DecimalWordsModel", "signOf", "(I)I"⟩, 18), (⟨"DecimalWordsModel", "compareSizes", "(II)I"⟩, 18), (⟨"DecimalWordsModel", "lengthOf", "(J)I"⟩, 18), (⟨"DecimalWordsModel", "copy", "(I)V"⟩, 18), (⟨"DecimalWordsModel", "next", "(I)V"⟩, 18)]
theorem lw_r3 : ∀ q ∈ lw_privs_3, lw_okq q := List.forall_mem_cons.mpr ⟨lw_p32, List.forall_mem_cons.mpr ⟨lw_p33, List.forall_mem_cons.mpr ⟨lw_p34, List.forall_mem_cons.mpr ⟨lw_p35, List.forall_mem_cons.mpr ⟨lw_p36, List.forall_mem_cons.mpr ⟨lw_p37, List.forall_mem_cons.mpr ⟨lw_p38, List.forall_mem_cons.mpr ⟨lw_p39, List.forall_mem_cons.mpr ⟨lw_p40, List.forall_mem_cons.mpr ⟨lw_p41, List.forall_mem_cons.mpr ⟨lw_p42, List.forall_mem_cons.mpr ⟨lw_p43, List.forall_mem_cons.mpr ⟨lw_p44, List.forall_mem_cons.mpr ⟨lw_p45, List.forall_mem_cons.mpr ⟨lw_p46, List.forall_mem_cons.mpr ⟨lw_p47, fun _ h => absurd h List.not_mem_nil⟩⟩⟩⟩⟩⟩⟩⟩⟩⟩⟩⟩⟩⟩⟩⟩
theorem lw_p48 : lw_okq (⟨"DecimalWordsModel", "store", "(I)V"⟩, 18) := ⟨⟨by decide +kernel, by decide +kernel⟩, List.mem_of_getElem? (i := 565) (by decide +kernel), List.mem_of_getElem? (i := 754) (by decide +kernel), List.mem_of_getElem? (i := 755) (by decide +kernel)⟩
theorem lw_p49 : lw_okq (⟨"DecimalWordsModel", "packDigits", "(I)J"⟩, 18) := ⟨⟨by decide +kernel, by decide +kernel⟩, List.mem_of_getElem? (i := 565) (by decide +kernel), List.mem_of_getElem? (i := 789) (by decide +kernel), List.mem_of_getElem? (i := 790) (by decide +kernel)⟩
theorem lw_p50 : lw_okq (⟨"DecimalWordsModel", "ten", "(III)I"⟩, 18) := ⟨⟨by decide +kernel, by decide +kernel⟩, List.mem_of_getElem? (i := 565) (by decide +kernel), List.mem_of_getElem? (i := 794) (by decide +kernel), List.mem_of_getElem? (i := 795) (by decide +kernel)⟩
theorem lw_p51 : lw_okq (⟨"DecimalWordsModel", "three", "(I)I"⟩, 18) := ⟨⟨by decide +kernel, by decide +kernel⟩, List.mem_of_getElem? (i := 565) (by decide +kernel), List.mem_of_getElem? (i := 810) (by decide +kernel), List.mem_of_getElem? (i := 811) (by decide +kernel)⟩
def lw_privs_4 : List (MethodName × Nat) := [(⟨"DecimalWordsModel", "store", "(I)V"⟩, 18), (⟨"DecimalWordsModel", "packDigits", "(I)J"⟩, 18), (⟨"DecimalWordsModel", "ten", "(III)I"⟩, 18), (⟨"DecimalWordsModel", "three", "(I)I"⟩, 18)]
theorem lw_r4 : ∀ q ∈ lw_privs_4, lw_okq q := List.forall_mem_cons.mpr ⟨lw_p48, List.forall_mem_cons.mpr ⟨lw_p49, List.forall_mem_cons.mpr ⟨lw_p50, List.forall_mem_cons.mpr ⟨lw_p51, fun _ h => absurd h List.not_mem_nil⟩⟩⟩⟩
def lw_privs : List (MethodName × Nat) := lw_privs_1 ++ (lw_privs_2 ++ (lw_privs_3 ++ (lw_privs_4)))
def lw_tbl : List Cond := k2_sels lw_privs ++ tables_1
theorem lw_privs_ok : ∀ q ∈ lw_privs, lw_okq q := by
  show ∀ q ∈ lw_privs_1 ++ (lw_privs_2 ++ (lw_privs_3 ++ (lw_privs_4))), lw_okq q
  exact List.forall_mem_append.mpr ⟨lw_r1, List.forall_mem_append.mpr ⟨lw_r2, List.forall_mem_append.mpr ⟨lw_r3, lw_r4⟩⟩⟩
end
section
/-! ===== BEGIN words of one list among another's, by their places ===== -/
theorem goodIn_r {big : List Cond} (ws : List Cond) (ps : List Nat) (hp : ws = ps.filterMap (fun i => big[i]?)) (h : ws.all goodWord = true) : GoodIn big ws := by
  intro w hw
  have h1 := List.all_eq_true.mp h w hw
  rw [hp] at hw
  obtain ⟨i, -, hi⟩ := List.mem_filterMap.mp hw
  have hm : w ∈ big := by first | exact List.mem_of_getElem? hi | exact List.getElem?_mem hi
  exact ⟨hm, good_of_word h1⟩
theorem goodIn_app {big a b : List Cond} (ha : GoodIn big a) (hb : GoodIn big b) : GoodIn big (a ++ b) := fun w h => (List.mem_append.mp h).elim (ha w) (hb w)
theorem goodIn_ca {big a b : List Cond} {c : Cond} (ha : GoodIn big (c :: a)) (hb : GoodIn big b) : GoodIn big (c :: (a ++ b)) := fun w h => (List.mem_cons.mp h).elim (fun e => ha w (List.mem_cons.mpr (Or.inl e))) (fun h => (List.mem_append.mp h).elim (fun h => ha w (List.mem_cons.mpr (Or.inr h))) (hb w))
theorem goodIn_sub {big ws : List Cond} (hm : ∀ w ∈ ws, w ∈ big) (h : ws.all goodWord = true) : GoodIn big ws := fun w hw => ⟨hm w hw, good_of_word (List.all_eq_true.mp h w hw)⟩
/-! ===== END ===== -/

/-! ===== BEGIN exceptions that leave a method, and their catching by the caller (launches without stack traces) ===== -/
section VXA
/-! The laws vx_back, vx_callV, vx_callS, vx_callSW, vx_throw0, vx_throwS follow proofs of the library, with one case more: JvmDerived/Free/Laws.lean (Back.of_free), Shelf42/LK1.lean (callV, callS), Shelf/KitTraced.lean (throwNew0V, throwNewS). -/
/-- where a method has thrown q: the class by its name, the cell, what was written, the world -/
def vx_T (XC : String → State → State → Prop) (st : State) (q : Addr) (t : State) (mc ms : Nat) (free : Addr → Prop) : Prop :=
  ∃ (E : String) (ce : Cell) (L : List Loc), XC E st t ∧ t.heap[q]? = some ce ∧ ce.vm = .none ∧ st.vm.findClass E = some ce.cls ∧ st.WarmedH t.vm ∧ st.sameButNew ({ t with vm := st.vm } : State) L mc ms ∧ ∀ z ∈ L, free z.base
def vx_Q (Qc : Array Value → State → Outcome → State → Prop) (XC : String → State → State → Prop) (mc ms : Nat) (free : Addr → Prop) : Array Value → State → Outcome → State → Prop := fun a st o t =>
  (Qc a st o t ∧ ∃ L, FrameEnd st o t L mc ms ∧ ∀ q ∈ L, free q.base) ∨ ∃ q, o = .threw q ∧ vx_T XC st q t mc ms free
/-- a callee that returns or throws -/
def vx_Met (l : Launch) (y : MethodName) (ws : List Cond) (rm : Room) (Pc : Array Value → State → Prop) (Qc : Array Value → State → Outcome → State → Prop) (XC : String → State → State → Prop) (mc ms : Nat) (free : Addr → Prop) : Prop :=
  MetFree l y (headSpec ws rm) Pc (fun _ _ _ _ _ => True) (vx_Q Qc XC mc ms free)
def vx_Post (XC : String → State → State → Prop) (mc ms : Nat) (free : Addr → Prop) : Pt → Array Value → Addr → Pt → Prop := fun A a q B =>
  ∃ (g : JFrame) (mk : MethodId) (t : State) (L : List Loc) (E : String) (ce : Cell), B.U.heap = t.heap ∧ B.U.vm = t.vm ∧ XC E (A.U.calling g mk a) t ∧ t.heap[q]? = some ce ∧ ce.vm = .none ∧ A.U.vm.findClass E = some ce.cls ∧ B.locs = A.locs ++ L ∧ (∀ z ∈ L, free z.base) ∧ B.cells = A.cells + mc ∧ B.slots = A.slots + ms
def vx_Back (l : Launch) (R : Room) (p : Program) (e : Env) (below : List Frame) (s : State) (sargs : Array Value) (y : MethodName) (len W9 : Nat)
    (Pre : Pt → Array Value → Prop) (Post : Pt → Array Value → Option Value → Pt → Prop) (PostX : Pt → Array Value → Addr → Pt → Prop) : Prop :=
  ∀ (m : MethodId) (meth : Method) (c : Code) (A : Pt) (g : JFrame) (ig : Instr) (mk : MethodId) (a : Array Value),
    Stand p l e R s m sargs below meth c A.U A.locs A.cells A.slots → g.method = m → g.locals.size = c.maxLocals → decode c.code g.pc = .ok (ig, len) →
    2 * g.monitorRoom + (g.stack.map fun v => v.category).sum ≤ W9 → A.U.methodNamed? y = some mk → Pre A a →
    (∃ (v : Option Value) (B : Pt), Stand p l e R s m sargs below meth c B.U B.locs B.cells B.slots ∧ Post A a v B ∧
      Steps p.tables e below (doInvoke e (A.U.setTop g) [] mk a).1 (B.U.setTop { g with pc := g.pc + len, stack := v.toList ++ g.stack })) ∨
    (∃ (q : Addr) (B : Pt), Stand p l e R s m sargs below meth c B.U B.locs B.cells B.slots ∧ PostX A a q B ∧
      Steps p.tables e below (doInvoke e (A.U.setTop g) [] mk a).1 ((B.U.setTop g).pushFrame (.throwing q)))
section Payer
variable {l : Launch} {R : Room} {p : Program} {e : Env} {below : List Frame} {s : State} {sargs : Array Value} {y : MethodName} {len W9 : Nat}
theorem vx_back {ws : List Cond} {rm : Room} {Pc : Array Value → State → Prop} {Qc : Array Value → State → Outcome → State → Prop} {XC : String → State → State → Prop} {mc ms : Nat} {free : Addr → Prop} {bytes : ByteArray} {maxL : Nat} {ret : Option FieldType}
    (hM : vx_Met l y ws rm Pc Qc XC mc ms free) (hblind : FrameBlind Pc) (hrc : rm.cells = mc) (hrs : rm.slots = ms)
    (hframes : rm.frames + 1 ≤ R.frames) (hlocals : W9 + (maxL + 11) + rm.locals ≤ R.locals)
    (hws : ∀ w ∈ ws, ∀ a' U, s.WarmedH U.vm → w.before a' U = true) (hcode : Cond.code y bytes maxL ret ∈ ws) (hinit : ∀ a' U, s.WarmedH U.vm → (Cond.initialized y.cls).before a' U = true) :
    vx_Back l R p e below s sargs y len W9 (PreOf R mc ms Pc) (PostOf Qc mc ms free) (vx_Post XC mc ms free) := by
  intro m meth c A g ig mk a X hg hsize hdg hW hn hp
  have h1 : (headSpec ws rm).pre.before a A.U = true := atoms_intro fun w hw => hws w hw _ _ X.warmed
  have h2 : (Cond.code y bytes maxL ret).before a A.U = true := hws _ hcode _ _ X.warmed
  have h3 : (Cond.initialized y.cls).before a A.U = true := hinit _ _ X.warmed
  have h4 : A.cells + (headSpec ws rm).room.cells ≤ R.cells := by rw [show (headSpec ws rm).room.cells = mc from hrc]; exact hp.1
  have h5 : A.slots + (headSpec ws rm).room.slots ≤ R.slots := by rw [show (headSpec ws rm).room.slots = ms from hrs]; exact hp.2.1
  have hPc : Pc a (A.U.calling g mk a) := hblind _ _ _ _ hp.2.2
  obtain ⟨U, Ls, c0, s0⟩ := A
  dsimp only [Pt.U, Pt.locs, Pt.cells, Pt.slots] at h1 h2 h3 h4 h5 X hn hPc ⊢
  obtain ⟨methY, cY, hmY, hcY, -, hlY, -, -, -, -⟩ := Cond.code_spec hn h2
  obtain ⟨kY, hkY, -⟩ := className_of_methodNamed hn
  have hinitY : kY.init = .initialized := Cond.initialized_spec (findClass_of_methodNamed hn) hkY h3
  have h : At U g.method c below := by rw [hg]; exact X.here
  have hlocals9 : W9 + (maxL + 11) + (headSpec ws rm).room.locals ≤ R.locals := hlocals
  have happ : (headSpec ws rm).appliesLoose y e.platform (U.calling g mk a) = true :=
    Spec.appliesLoose_calling (g := g) h hdg hn hkY hinitY
      (X.room_calling (g := g) (R' := (headSpec ws rm).room) hsize hmY hcY hframes (by rw [hlY]; omega) h4 h5) h1
  obtain ⟨mid, hmid⟩ := h.above
  have hfr : (U.setTop g).frames = (.java g :: mid) ++ below := by rw [State.frames_setTop' g h.top, hmid]; rfl
  obtain ⟨o, s₂, hsteps, -, hend, hq⟩ := Steps.callFree hM p X.admits X.cas X.clock (acts := []) hfr happ hPc trivial
  have hq' : vx_Q Qc XC mc ms free a (U.calling g mk a) o s₂ := hq
  rw [State.frames_setTop' g h.top] at hend
  obtain ⟨g₀, hg0⟩ := Option.isSome_iff_exists.mp h.top
  obtain ⟨r, hr⟩ := State.topJava?_eq_some.mp hg0
  have hr' : (({ U with heap := s₂.heap, slotsUsed := s₂.slotsUsed } : State).setVm s₂.vm).frames = .java g₀ :: r := hr
  rcases hq' with ⟨hqc, L, hfe, hL⟩ | ⟨q, rfl, E, ce, L, hx, hce, hcv, hcl, hW₂, hsm, hL⟩
  · obtain ⟨⟨v, rfl⟩, hW₂, e2, q2, q3, q4, q5, q6⟩ := id hfe
    have e3 : s₂ = ({ (U.calling g mk a).setFrames s₂.frames with heap := s₂.heap, slotsUsed := s₂.slotsUsed } : State).setVm s₂.vm := by
      have : s₂ = ({ s₂ with vm := (U.calling g mk a).vm } : State).setVm s₂.vm := rfl
      rw [e2] at this
      exact this
    obtain ⟨c₂, i₂, len₂, hc₂, hd₂, hf₂⟩ := hend
    have hW' : U.WarmedH s₂.vm := hW₂
    have hcc : c₂ = c := by
      have h1 : s₂.code? g.method = U.code? g.method := by
        rw [State.code?_eq, State.code?_eq, hW'.alike.method?]
      exact Option.some.inj (hc₂.symm.trans (h1.trans h.code))
    subst hcc
    have hlen : len₂ = len := by rw [hdg] at hd₂; cases hd₂; rfl
    subst hlen
    have hs₂ : s₂ = (({ U with heap := s₂.heap, slotsUsed := s₂.slotsUsed } : State).setVm s₂.vm).setTop { g with pc := g.pc + len₂, stack := v.toList ++ g.stack } := by
      refine e3.trans ?_
      rw [hf₂, State.calling_eq h.top, State.setFrames_setFrames, State.setTop_of_frames _ hr', hr]
      rfl
    have hsame : U.sameButNew ({ U with heap := s₂.heap, slotsUsed := s₂.slotsUsed } : State) L mc ms := by
      refine ⟨?_, q2, q3, q4, q5, q6⟩
      obtain ⟨t, ht, -⟩ := State.frames_cons hr
      show ({ U with heap := s₂.heap, slotsUsed := s₂.slotsUsed } : State) = { U.setFrames U.frames with heap := s₂.heap, slotsUsed := s₂.slotsUsed }
      rw [State.setFrames_self ht]
    subst hg
    refine Or.inl ⟨v, ⟨(({ U with heap := s₂.heap, slotsUsed := s₂.slotsUsed } : State).setVm s₂.vm), Ls ++ L, c0 + mc, s0 + ms⟩,
      ⟨X.admits, X.cas, X.clock, X.frames, X.room, X.hears, X.method, X.code, (X.here.setHeapUsed s₂.heap s₂.slotsUsed).setVm hW'.alike, X.tail, State.WarmedH.trans X.warmed hW', X.limits, X.bytes, X.same.trans (hsame.setVm s.vm)⟩,
      ⟨g, mk, s₂, L, rfl, rfl, hqc, rfl, hL, rfl, rfl⟩, ?_⟩
    show Steps p.tables e below _ ((({ U with heap := s₂.heap, slotsUsed := s₂.slotsUsed } : State).setVm s₂.vm).setTop { g with pc := g.pc + len₂, stack := v.toList ++ g.stack })
    rw [← hs₂]
    exact hsteps
  · obtain ⟨e2, q2, q3, q4, q5, q6⟩ := id hsm
    have e3 : s₂ = ({ (U.calling g mk a).setFrames s₂.frames with heap := s₂.heap, slotsUsed := s₂.slotsUsed } : State).setVm s₂.vm := by
      have : s₂ = ({ s₂ with vm := (U.calling g mk a).vm } : State).setVm s₂.vm := rfl
      rw [e2] at this
      exact this
    have hf₂ : s₂.frames = .throwing q :: .java g :: U.frames.tail := hend
    have hW' : U.WarmedH s₂.vm := hW₂
    have hs₂ : s₂ = ((({ U with heap := s₂.heap, slotsUsed := s₂.slotsUsed } : State).setVm s₂.vm).setTop g).pushFrame (.throwing q) := by
      refine e3.trans ?_
      rw [hf₂, State.calling_eq h.top, State.setFrames_setFrames, State.pushFrame, State.frames_setTop _ hr', State.setTop_of_frames _ hr', State.setFrames_setFrames, hr]
      rfl
    have hsame : U.sameButNew ({ U with heap := s₂.heap, slotsUsed := s₂.slotsUsed } : State) L mc ms := by
      refine ⟨?_, q2, q3, q4, q5, q6⟩
      obtain ⟨t, ht, -⟩ := State.frames_cons hr
      show ({ U with heap := s₂.heap, slotsUsed := s₂.slotsUsed } : State) = { U.setFrames U.frames with heap := s₂.heap, slotsUsed := s₂.slotsUsed }
      rw [State.setFrames_self ht]
    subst hg
    refine Or.inr ⟨q, ⟨(({ U with heap := s₂.heap, slotsUsed := s₂.slotsUsed } : State).setVm s₂.vm), Ls ++ L, c0 + mc, s0 + ms⟩,
      ⟨X.admits, X.cas, X.clock, X.frames, X.room, X.hears, X.method, X.code, (X.here.setHeapUsed s₂.heap s₂.slotsUsed).setVm hW'.alike, X.tail, State.WarmedH.trans X.warmed hW', X.limits, X.bytes, X.same.trans (hsame.setVm s.vm)⟩,
      ⟨g, mk, s₂, L, E, ce, rfl, rfl, hx, hce, hcv, hcl, rfl, hL, rfl, rfl⟩, ?_⟩
    show Steps p.tables e below _ (((({ U with heap := s₂.heap, slotsUsed := s₂.slotsUsed } : State).setVm s₂.vm).setTop g).pushFrame (.throwing q))
    rw [← hs₂]
    exact hsteps
end Payer
section Calls
variable {p : Program} {l : Launch} {e : Env} {R : Room} {s : State} {m : MethodId} {args : Array Value} {below : List Frame} {meth : Method} {c : Code} {T : State} {locs : List Loc} {cells slots : Nat}
theorem vx_callV (X : Stand p l e R s m args below meth c T locs cells slots) (hexec : p.tables.exec = Jvm.exec) {own C : String} {index : Nat} {y : MethodName} {bytes : ByteArray} {maxL : Nat} {ret : Option FieldType}
    (hown : s.vm.findClass own = some m.cls) (hlink : (Cond.methodLink own index y).before args s = true) (hinst : (Cond.instanceMethod y).before args s = true) (hsel : (Cond.selects C y y).before args s = true)
    (hcode : (Cond.code y bytes maxL ret).before args s = true) (hy : y.cls ≠ "java/lang/invoke/MethodHandle" ∧ y.cls ≠ "java/lang/invoke/VarHandle")
    {W9 : Nat} {Pre : Pt → Array Value → Prop} {Post : Pt → Array Value → Option Value → Pt → Prop} {PostX : Pt → Array Value → Addr → Pt → Prop} (hK : vx_Back l R p e below s args y 3 W9 Pre Post PostX)
    {b : Addr} {cellB : Cell} (hcell : T.heap[b]? = some cellB) (hobj : cellB.vm.isStatics = false) (hcls : s.vm.findClass C = some cellB.cls)
    {g : JFrame} (hg : g.method = m) (hsize : g.locals.size = c.maxLocals) {argsL rest : List Value} (hlen : ∀ sig, parseMethodDescriptor y.desc = some sig → argsL.length = sig.parameters.length)
    (hstack : g.stack = argsL.reverse ++ .ref b :: rest) (hW : 2 * g.monitorRoom + (rest.map fun v => v.category).sum ≤ W9) (hdg : decode c.code g.pc = .ok (.invokevirtual index, 3))
    (hpre : ∀ vm₁, s.WarmedH vm₁ → Pre ⟨T.setVm vm₁, locs, cells, slots⟩ (Value.ref b :: argsL).toArray) :
    (∃ (v : Option Value) (vm₁ : Vm) (B : Pt), s.WarmedH vm₁ ∧ Stand p l e R s m args below meth c B.U B.locs B.cells B.slots ∧ Post ⟨T.setVm vm₁, locs, cells, slots⟩ (Value.ref b :: argsL).toArray v B ∧
      ∀ target, Steps p.tables e below (B.U.setTop { g with pc := g.pc + 3, stack := v.toList ++ rest }) target → Steps p.tables e below (T.setTop g) target) ∨
    (∃ (q : Addr) (vm₁ : Vm) (B : Pt), s.WarmedH vm₁ ∧ Stand p l e R s m args below meth c B.U B.locs B.cells B.slots ∧ PostX ⟨T.setVm vm₁, locs, cells, slots⟩ (Value.ref b :: argsL).toArray q B ∧
      Steps p.tables e below (T.setTop g) ((B.U.setTop { g with stack := rest }).pushFrame (.throwing q))) := by
  obtain ⟨mk, methM, hnamed, hmethM, hstM, habM⟩ := Cond.instanceMethod_spec hinst
  obtain ⟨methM', cM, hmethM', -, -, -, -, -, -, hsigM⟩ := Cond.code_spec hnamed hcode
  cases hmethM.symm.trans hmethM'
  obtain ⟨c2, r2, m2, q1, q2, q3, q4, kP, hkP, hkPi⟩ := Cond.selects_spec hsel
  cases hcls.symm.trans q1
  cases (State.methodFound?_of_named hnamed hy).symm.trans q2
  cases hnamed.symm.trans q3
  have hselP : selectMethod e.platform s.vm cellB.cls mk = .method mk := by rw [Launch.admits_selectMethod X.admits]; exact q4
  obtain ⟨vm₁, X₁, hstep₁⟩ := X.invokevirtual hexec hown hlink hnamed hmethM hstM hkP hkPi hy (a := b) (cell := cellB) hcell
    (fun z h => by rw [h] at hobj; cases hobj) hselP hmethM habM hkP hkPi (g := g) hg (argsL := argsL) (rest := rest) (hlen _ hsigM) hstack hdg
  rcases hK m meth c ⟨T.setVm vm₁, locs, cells, slots⟩ { g with stack := rest } (.invokevirtual index) mk (Value.ref b :: argsL).toArray X₁ hg hsize hdg hW (X₁.named hnamed) (hpre vm₁ X₁.warmed) with ⟨v, B, X', hpost, hsteps⟩ | ⟨q, B, X', hpost, hsteps⟩
  · exact Or.inl ⟨v, vm₁, B, X₁.warmed, X', hpost, fun target h => hstep₁ _ fun acts => by rw [doInvoke_state]; exact hsteps.trans h⟩
  · exact Or.inr ⟨q, vm₁, B, X₁.warmed, X', hpost, hstep₁ _ fun acts => by rw [doInvoke_state]; exact hsteps⟩
theorem vx_callS (X : Stand p l e R s m args below meth c T locs cells slots) (hexec : p.tables.exec = Jvm.exec) {own : String} {index : Nat} {y : MethodName} {bytes : ByteArray} {maxL : Nat} {ret : Option FieldType}
    (hown : s.vm.findClass own = some m.cls) (hlink : (Cond.methodLink own index y).before args s = true) (hstat : (Cond.static y).before args s = true) (hinit : (Cond.initialized y.cls).before args s = true)
    (hcode : (Cond.code y bytes maxL ret).before args s = true) (hy : y.cls ≠ "java/lang/invoke/MethodHandle" ∧ y.cls ≠ "java/lang/invoke/VarHandle")
    {W9 : Nat} {Pre : Pt → Array Value → Prop} {Post : Pt → Array Value → Option Value → Pt → Prop} {PostX : Pt → Array Value → Addr → Pt → Prop} (hK : vx_Back l R p e below s args y 3 W9 Pre Post PostX)
    {g : JFrame} (hg : g.method = m) (hsize : g.locals.size = c.maxLocals) {argsL rest : List Value} (hlen : ∀ sig, parseMethodDescriptor y.desc = some sig → argsL.length = sig.parameters.length)
    (hstack : g.stack = argsL.reverse ++ rest) (hW : 2 * g.monitorRoom + (rest.map fun v => v.category).sum ≤ W9) (hdg : decode c.code g.pc = .ok (.invokestatic index, 3))
    (hpre : ∀ vm₁, s.WarmedH vm₁ → Pre ⟨T.setVm vm₁, locs, cells, slots⟩ argsL.toArray) :
    (∃ (v : Option Value) (vm₁ : Vm) (B : Pt), s.WarmedH vm₁ ∧ Stand p l e R s m args below meth c B.U B.locs B.cells B.slots ∧ Post ⟨T.setVm vm₁, locs, cells, slots⟩ argsL.toArray v B ∧
      ∀ target, Steps p.tables e below (B.U.setTop { g with pc := g.pc + 3, stack := v.toList ++ rest }) target → Steps p.tables e below (T.setTop g) target) ∨
    (∃ (q : Addr) (vm₁ : Vm) (B : Pt), s.WarmedH vm₁ ∧ Stand p l e R s m args below meth c B.U B.locs B.cells B.slots ∧ PostX ⟨T.setVm vm₁, locs, cells, slots⟩ argsL.toArray q B ∧
      Steps p.tables e below (T.setTop g) ((B.U.setTop { g with stack := rest }).pushFrame (.throwing q))) := by
  obtain ⟨mk, hnamed⟩ := Cond.code_named hcode
  obtain ⟨methM, cM, hmethM, -, -, -, -, -, -, hsigM⟩ := Cond.code_spec hnamed hcode
  have hstatic : methM.isStatic = true := Cond.static_spec hnamed hmethM hstat
  obtain ⟨kP, hkP, -⟩ := className_of_methodNamed hnamed
  have hinitP : kP.init = .initialized := Cond.initialized_spec (findClass_of_methodNamed hnamed) hkP hinit
  obtain ⟨vm₁, X₁, hstep₁⟩ := X.invokestatic hexec hown hlink hnamed hmethM hstatic hkP hinitP hy (g := g) hg (argsL := argsL) (rest := rest) (hlen _ hsigM) hstack hdg
  rcases hK m meth c ⟨T.setVm vm₁, locs, cells, slots⟩ { g with stack := rest } (.invokestatic index) mk argsL.toArray X₁ hg hsize hdg hW (X₁.named hnamed) (hpre vm₁ X₁.warmed) with ⟨v, B, X', hpost, hsteps⟩ | ⟨q, B, X', hpost, hsteps⟩
  · exact Or.inl ⟨v, vm₁, B, X₁.warmed, X', hpost, fun target h => hstep₁ _ fun acts => by rw [doInvoke_state]; exact hsteps.trans h⟩
  · exact Or.inr ⟨q, vm₁, B, X₁.warmed, X', hpost, hstep₁ _ fun acts => by rw [doInvoke_state]; exact hsteps⟩
end Calls
theorem vx_cls {s : State} {T : State} {vm₁ : Vm} {E : String} {k : ClassId} (hW : s.WarmedH vm₁) (h : (T.setVm vm₁).vm.findClass E = some k) : s.vm.findClass E = some k := by
  have h1 : vm₁.findClass E = some k := h
  rw [hW.alike.findClass] at h1
  exact h1
/-- the method's frame g, with q thrown over it -/
def vx_W (p : Program) (l : Launch) (e : Env) (R : Room) (s : State) (m : MethodId) (args : Array Value) (below : List Frame) (meth : Method) (c : Code) (H : Heap) (locs : List Loc) (cells slots : Nat) (Q : State → Prop) (g : JFrame) (q : Addr) : Prop :=
  ∀ T : State, T.heap = H → Stand p l e R s m args below meth c T locs cells slots → ∃ t, Steps p.tables e below ((T.setTop g).pushFrame (.throwing q)) t ∧ Q t
def vx_Run (p : Program) (l : Launch) (e : Env) (R : Room) (s : State) (m : MethodId) (args : Array Value) (below : List Frame) (meth : Method) (c : Code) (H : Heap) (locs : List Loc) (cells slots mc ms : Nat) (g : JFrame) (rest : List Value) (Qa : State → Outcome → State → Prop) (XC : String → State → State → Prop) (free : Addr → Prop) : Prop :=
  ∀ T : State, T.heap = H → Stand p l e R s m args below meth c T locs cells slots →
    (∃ (v : Option Value) (st₀ t T' : State) (L : List Loc), st₀.heap = H ∧ Stand p l e R s m args below meth c T' (locs ++ L) (cells + mc) (slots + ms) ∧ (∀ q ∈ L, free q.base) ∧ T'.heap = t.heap ∧ T'.vm = t.vm ∧ Qa st₀ (.returned v) t ∧
      Goes p e below T g T' { g with pc := g.pc + 3, stack := v.toList ++ rest }) ∨
    (∃ (q : Addr) (st₀ t T' : State) (L : List Loc) (E : String) (ce : Cell), st₀.heap = H ∧ Stand p l e R s m args below meth c T' (locs ++ L) (cells + mc) (slots + ms) ∧ (∀ z ∈ L, free z.base) ∧ T'.heap = t.heap ∧ T'.vm = t.vm ∧ XC E st₀ t ∧ t.heap[q]? = some ce ∧ ce.vm = .none ∧ s.vm.findClass E = some ce.cls ∧
      Steps p.tables e below (T.setTop g) ((T'.setTop { g with stack := rest }).pushFrame (.throwing q)))
def vx_X {S : Type} (px : S → Prop) (B : String → S → State → Prop) (A : Nat → Prop) : String → State → State → Prop := fun E st t => ∃ u : S, px u ∧ B E u t ∧ va_F A st t
section Runs
variable {p : Program} {l : Launch} {e : Env} {R : Room} {s : State} {m : MethodId} {args : Array Value} {below : List Frame} {meth : Method} {c : Code} {H : Heap} {locs : List Loc} {cells slots : Nat}
variable {y : MethodName} {bytes cc : ByteArray} {maxL nL mc ms n index : Nat} {ret : Option FieldType} {ws : List Cond} {rm : Room} {Pc : Array Value → State → Prop} {Qc : Array Value → State → Outcome → State → Prop} {XC : String → State → State → Prop} {free : Addr → Prop} {Ts : List Cond} {own C : String} {b : Addr} {As rest : List Value} {g : JFrame}
theorem vx_callBack (cb : CallB R s args own index y bytes maxL ret ws rm mc ms n) (hM : vx_Met l y ws rm Pc Qc XC mc ms free) (hbl : FrameBlind Pc) : vx_Back l R p e below s args y 3 8 (PreOf R mc ms Pc) (PostOf Qc mc ms free) (vx_Post XC mc ms free) := by
  obtain ⟨hrc, hrs, hfr, hlo, hws, hcw, -, hini, -⟩ := cb
  exact vx_back (bytes := bytes) (maxL := maxL) (ret := ret) hM hbl hrc hrs hfr hlo hws hcw (fun a' U hW => word_at hW (Or.inl (by first | rfl | simp [Cond.onTables, Cond.keeps, Cond.steady])) hini)
theorem vx_runV (S : CallFix p m c cc nL s args Ts own) (hM : vx_Met l y ws rm Pc Qc XC mc ms free) (cw : CallW R s args own C index y bytes maxL ret ws rm mc ms n) (hp : PreV s H C b Pc As)
    (hg : g.method = m) (hn : As.length = n) (hsize : g.locals.size = nL) (hstack : g.stack = As.reverse ++ .ref b :: rest) (hW : 2 * g.monitorRoom + (rest.map fun v => v.category).sum ≤ 8) (hdg : decode cc g.pc = .ok (.invokevirtual index, 3)) (hf : cells + mc ≤ R.cells ∧ slots + ms ≤ R.slots) :
    vx_Run p l e R s m args below meth c H locs cells slots mc ms g rest (Qc (Value.ref b :: As).toArray) XC free := by
  have hK : vx_Back l R p e below s args y 3 8 (PreOf R mc ms Pc) (PostOf Qc mc ms free) (vx_Post XC mc ms free) := vx_callBack cw.1 hM hp.1
  obtain ⟨⟨-, -, -, -, -, -, hcode, -, hy, hlen, hl⟩, hin, hse⟩ := cw
  obtain ⟨hx, hb, hml, ho, -⟩ := S
  obtain ⟨-, ⟨cellB, hcB, hoB, hclB⟩, hPc⟩ := hp
  intro T hT X
  rcases vx_callV X hx (C := C) (bytes := bytes) (maxL := maxL) (ret := ret) ho hl hin hse hcode hy hK (by rw [hT]; exact hcB) hoB hclB hg (hsize.trans hml.symm) (argsL := As) (rest := rest) (fun sig h => hn.trans (hlen sig h)) hstack hW (by rw [hb]; exact hdg)
    (fun vm₁ hW₁ => ⟨hf.1, hf.2, hPc (T.setVm vm₁) hT hW₁⟩) with ⟨v, vm₁, ⟨U', l2, c2, s2⟩, hW₁, X', ⟨g', mk, t, L, e1, e2, hq, h1, hL, h2, h3⟩, st⟩ | ⟨q, vm₁, ⟨U', l2, c2, s2⟩, hW₁, X', ⟨g', mk, t, L, E, ce, e1, e2, hq, hce, hcv, hcl, h1, hL, h2, h3⟩, st⟩
  · dsimp only [Pt.U, Pt.locs, Pt.cells, Pt.slots] at X' e1 e2 h1 h2 h3 st
    subst h1; subst h2; subst h3
    exact Or.inl ⟨v, (T.setVm vm₁).calling g' mk (Value.ref b :: As).toArray, t, U', L, hT, X', hL, e1, e2, hq, st⟩
  · dsimp only [Pt.U, Pt.locs, Pt.cells, Pt.slots] at X' e1 e2 h1 h2 h3 st hcl
    subst h1; subst h2; subst h3
    exact Or.inr ⟨q, (T.setVm vm₁).calling g' mk (Value.ref b :: As).toArray, t, U', L, E, ce, hT, X', hL, e1, e2, hq, hce, hcv, vx_cls hW₁ hcl, st⟩
theorem vx_runS (S : CallFix p m c cc nL s args Ts own) (hM : vx_Met l y ws rm Pc Qc XC mc ms free) (cw : CallB R s args own index y bytes maxL ret ws rm mc ms n ∧ (Cond.static y).before args s = true) (hp : PreS s H Pc As)
    (hg : g.method = m) (hn : As.length = n) (hsize : g.locals.size = nL) (hstack : g.stack = As.reverse ++ rest) (hW : 2 * g.monitorRoom + (rest.map fun v => v.category).sum ≤ 8) (hdg : decode cc g.pc = .ok (.invokestatic index, 3)) (hf : cells + mc ≤ R.cells ∧ slots + ms ≤ R.slots) :
    vx_Run p l e R s m args below meth c H locs cells slots mc ms g rest (Qc As.toArray) XC free := by
  have hK : vx_Back l R p e below s args y 3 8 (PreOf R mc ms Pc) (PostOf Qc mc ms free) (vx_Post XC mc ms free) := vx_callBack cw.1 hM hp.1
  obtain ⟨⟨-, -, -, -, -, -, hcode, hini, hy, hlen, hl⟩, hstt⟩ := cw
  obtain ⟨hx, hb, hml, ho, -⟩ := S
  intro T hT X
  rcases vx_callS X hx (bytes := bytes) (maxL := maxL) (ret := ret) ho hl hstt hini hcode hy hK hg (hsize.trans hml.symm) (argsL := As) (rest := rest) (fun sig h => hn.trans (hlen sig h)) hstack hW (by rw [hb]; exact hdg)
    (fun vm₁ hW₁ => ⟨hf.1, hf.2, hp.2 (T.setVm vm₁) hT hW₁⟩) with ⟨v, vm₁, ⟨U', l2, c2, s2⟩, hW₁, X', ⟨g', mk, t, L, e1, e2, hq, h1, hL, h2, h3⟩, st⟩ | ⟨q, vm₁, ⟨U', l2, c2, s2⟩, hW₁, X', ⟨g', mk, t, L, E, ce, e1, e2, hq, hce, hcv, hcl, h1, hL, h2, h3⟩, st⟩
  · dsimp only [Pt.U, Pt.locs, Pt.cells, Pt.slots] at X' e1 e2 h1 h2 h3 st
    subst h1; subst h2; subst h3
    exact Or.inl ⟨v, (T.setVm vm₁).calling g' mk As.toArray, t, U', L, hT, X', hL, e1, e2, hq, st⟩
  · dsimp only [Pt.U, Pt.locs, Pt.cells, Pt.slots] at X' e1 e2 h1 h2 h3 st hcl
    subst h1; subst h2; subst h3
    exact Or.inr ⟨q, (T.setVm vm₁).calling g' mk As.toArray, t, U', L, E, ce, hT, X', hL, e1, e2, hq, hce, hcv, vx_cls hW₁ hcl, st⟩
end Runs
section Rows
variable {p : Program} {l : Launch} {e : Env} {R : Room} {s : State} {m : MethodId} {args : Array Value} {below : List Frame} {meth : Method} {c : Code} {H : Heap} {locs : List Loc} {cells slots : Nat} {Q : State → Prop}
variable {mc ms : Nat} {free : Addr → Prop} {A0 A1 : Nat → Prop} {H0 : Heap} {a : Array Value} {pc : Nat} {ls : Array Slot} {st0 rest : List Value}
theorem vx_keep {st₀ t T' : State} {L : List Loc} (h0 : st₀.heap = H) (e1 : T'.heap = t.heap) (hS : va_S A0 H0 H locs) (hA : ∀ q, q < H.size → A1 q → A0 q) (hf : ∀ q, free q → A0 q) (hL : ∀ q ∈ L, free q.base) (hF : va_F A1 st₀ t) :
    H.size ≤ T'.heap.size ∧ (∀ q : Nat, q < H.size → ¬ A1 q → T'.heap[q]? = H[q]?) ∧ va_S A0 H0 T'.heap (locs ++ L) := by
  obtain ⟨hz, hk⟩ := hF
  rw [h0] at hz hk
  exact ⟨by rw [e1]; exact hz, fun q h1 h2 => by rw [e1]; exact hk q h1 h2,
    ⟨Nat.le_trans hS.1 (by rw [e1]; exact hz), fun q h1 h2 => by rw [e1, hk q (Nat.lt_of_lt_of_le h1 hS.1) (fun z => h2 (hA q (Nat.lt_of_lt_of_le h1 hS.1) z))]; exact hS.2.1 q h1 h2, fun q hq => by
      rcases List.mem_append.mp hq with h | h
      · exact hS.2.2 q h
      · exact hf _ (hL q h)⟩⟩
theorem vx_calli {S SX : Type} {post : Int32 → S → Prop} {px : SX → Prop} {B : S → State → Prop} {BX : String → SX → State → Prop} {AX : Nat → Prop} (hr : vx_Run p l e R s m args below meth c H locs cells slots mc ms (F0 m pc ls st0) rest (va_Qi post B A1 a) (vx_X px BX AX) free) (hS : va_S A0 H0 H locs) (hA : ∀ q, q < H.size → A1 q → A0 q) (hf : ∀ q, free q → A0 q) (hAX : ∀ q, q < H.size → AX q → A0 q)
    (kx : ∀ (E : String) (ce : Cell) (q9 : Addr) (u : SX) (t : State) (H1 : Heap) (locs1 : List Loc), t.heap = H1 → s.vm.Alike t.vm → px u → BX E u t → H.size ≤ H1.size → (∀ q : Nat, q < H.size → ¬ AX q → H1[q]? = H[q]?) → va_S A0 H0 H1 locs1 → H1[q9]? = some ce → ce.vm = .none → s.vm.findClass E = some ce.cls → vx_W p l e R s m args below meth c H1 locs1 (cells + mc) (slots + ms) Q (F0 m pc ls rest) q9)
    (kk : ∀ (r : Int32) (u : S) (t : State) (H1 : Heap) (locs1 : List Loc), t.heap = H1 → s.vm.Alike t.vm → post r u → B u t → H.size ≤ H1.size → (∀ q : Nat, q < H.size → ¬ A1 q → H1[q]? = H[q]?) → va_S A0 H0 H1 locs1 → W p l e R s m args below meth c H1 locs1 (cells + mc) (slots + ms) Q (F0 m (pc + 3) ls (.int r :: rest))) : W p l e R s m args below meth c H locs cells slots Q (F0 m pc ls st0) := by
  intro T hT X
  rcases hr T hT X with ⟨v, st₀, t, T', L, h0, X', hL, e1, e2, ⟨⟨r, u, hv, hp, hb⟩, hF⟩, st⟩ | ⟨q, st₀, t, T', L, E, ce, h0, X', hL, e1, e2, ⟨u, hp, hb, hF⟩, hce, hcv, hcl, st⟩
  · cases hv
    obtain ⟨k1, k2, k3⟩ := vx_keep h0 e1 hS hA hf hL hF
    obtain ⟨t2, a1, b1⟩ := kk r u t T'.heap (locs ++ L) e1.symm (by rw [← e2]; exact X'.warmed.alike) hp hb k1 k2 k3 T' rfl X'
    exact ⟨t2, st t2 a1, b1⟩
  · obtain ⟨k1, k2, k3⟩ := vx_keep h0 e1 hS hAX hf hL hF
    obtain ⟨t2, a1, b1⟩ := kx E ce q u t T'.heap (locs ++ L) e1.symm (by rw [← e2]; exact X'.warmed.alike) hp hb k1 k2 k3 (by rw [e1]; exact hce) hcv hcl T' rfl X'
    exact ⟨t2, st.trans a1, b1⟩
theorem vx_calll {S SX : Type} {post : Int64 → S → Prop} {px : SX → Prop} {B : S → State → Prop} {BX : String → SX → State → Prop} {AX : Nat → Prop} (hr : vx_Run p l e R s m args below meth c H locs cells slots mc ms (F0 m pc ls st0) rest (va_Ql post B A1 a) (vx_X px BX AX) free) (hS : va_S A0 H0 H locs) (hA : ∀ q, q < H.size → A1 q → A0 q) (hf : ∀ q, free q → A0 q) (hAX : ∀ q, q < H.size → AX q → A0 q)
    (kx : ∀ (E : String) (ce : Cell) (q9 : Addr) (u : SX) (t : State) (H1 : Heap) (locs1 : List Loc), t.heap = H1 → s.vm.Alike t.vm → px u → BX E u t → H.size ≤ H1.size → (∀ q : Nat, q < H.size → ¬ AX q → H1[q]? = H[q]?) → va_S A0 H0 H1 locs1 → H1[q9]? = some ce → ce.vm = .none → s.vm.findClass E = some ce.cls → vx_W p l e R s m args below meth c H1 locs1 (cells + mc) (slots + ms) Q (F0 m pc ls rest) q9)
    (kk : ∀ (r : Int64) (u : S) (t : State) (H1 : Heap) (locs1 : List Loc), t.heap = H1 → s.vm.Alike t.vm → post r u → B u t → H.size ≤ H1.size → (∀ q : Nat, q < H.size → ¬ A1 q → H1[q]? = H[q]?) → va_S A0 H0 H1 locs1 → W p l e R s m args below meth c H1 locs1 (cells + mc) (slots + ms) Q (F0 m (pc + 3) ls (.long r :: rest))) : W p l e R s m args below meth c H locs cells slots Q (F0 m pc ls st0) := by
  intro T hT X
  rcases hr T hT X with ⟨v, st₀, t, T', L, h0, X', hL, e1, e2, ⟨⟨r, u, hv, hp, hb⟩, hF⟩, st⟩ | ⟨q, st₀, t, T', L, E, ce, h0, X', hL, e1, e2, ⟨u, hp, hb, hF⟩, hce, hcv, hcl, st⟩
  · cases hv
    obtain ⟨k1, k2, k3⟩ := vx_keep h0 e1 hS hA hf hL hF
    obtain ⟨t2, a1, b1⟩ := kk r u t T'.heap (locs ++ L) e1.symm (by rw [← e2]; exact X'.warmed.alike) hp hb k1 k2 k3 T' rfl X'
    exact ⟨t2, st t2 a1, b1⟩
  · obtain ⟨k1, k2, k3⟩ := vx_keep h0 e1 hS hAX hf hL hF
    obtain ⟨t2, a1, b1⟩ := kx E ce q u t T'.heap (locs ++ L) e1.symm (by rw [← e2]; exact X'.warmed.alike) hp hb k1 k2 k3 (by rw [e1]; exact hce) hcv hcl T' rfl X'
    exact ⟨t2, st.trans a1, b1⟩
theorem vx_callf {S SX : Type} {post : UInt32 → S → Prop} {px : SX → Prop} {B : S → State → Prop} {BX : String → SX → State → Prop} {AX : Nat → Prop} (hr : vx_Run p l e R s m args below meth c H locs cells slots mc ms (F0 m pc ls st0) rest (va_Qf post B A1 a) (vx_X px BX AX) free) (hS : va_S A0 H0 H locs) (hA : ∀ q, q < H.size → A1 q → A0 q) (hf : ∀ q, free q → A0 q) (hAX : ∀ q, q < H.size → AX q → A0 q)
    (kx : ∀ (E : String) (ce : Cell) (q9 : Addr) (u : SX) (t : State) (H1 : Heap) (locs1 : List Loc), t.heap = H1 → s.vm.Alike t.vm → px u → BX E u t → H.size ≤ H1.size → (∀ q : Nat, q < H.size → ¬ AX q → H1[q]? = H[q]?) → va_S A0 H0 H1 locs1 → H1[q9]? = some ce → ce.vm = .none → s.vm.findClass E = some ce.cls → vx_W p l e R s m args below meth c H1 locs1 (cells + mc) (slots + ms) Q (F0 m pc ls rest) q9)
    (kk : ∀ (r : UInt32) (u : S) (t : State) (H1 : Heap) (locs1 : List Loc), t.heap = H1 → s.vm.Alike t.vm → post r u → B u t → H.size ≤ H1.size → (∀ q : Nat, q < H.size → ¬ A1 q → H1[q]? = H[q]?) → va_S A0 H0 H1 locs1 → W p l e R s m args below meth c H1 locs1 (cells + mc) (slots + ms) Q (F0 m (pc + 3) ls (.float r :: rest))) : W p l e R s m args below meth c H locs cells slots Q (F0 m pc ls st0) := by
  intro T hT X
  rcases hr T hT X with ⟨v, st₀, t, T', L, h0, X', hL, e1, e2, ⟨⟨r, u, hv, hp, hb⟩, hF⟩, st⟩ | ⟨q, st₀, t, T', L, E, ce, h0, X', hL, e1, e2, ⟨u, hp, hb, hF⟩, hce, hcv, hcl, st⟩
  · cases hv
    obtain ⟨k1, k2, k3⟩ := vx_keep h0 e1 hS hA hf hL hF
    obtain ⟨t2, a1, b1⟩ := kk r u t T'.heap (locs ++ L) e1.symm (by rw [← e2]; exact X'.warmed.alike) hp hb k1 k2 k3 T' rfl X'
    exact ⟨t2, st t2 a1, b1⟩
  · obtain ⟨k1, k2, k3⟩ := vx_keep h0 e1 hS hAX hf hL hF
    obtain ⟨t2, a1, b1⟩ := kx E ce q u t T'.heap (locs ++ L) e1.symm (by rw [← e2]; exact X'.warmed.alike) hp hb k1 k2 k3 (by rw [e1]; exact hce) hcv hcl T' rfl X'
    exact ⟨t2, st.trans a1, b1⟩
theorem vx_calld {S SX : Type} {post : UInt64 → S → Prop} {px : SX → Prop} {B : S → State → Prop} {BX : String → SX → State → Prop} {AX : Nat → Prop} (hr : vx_Run p l e R s m args below meth c H locs cells slots mc ms (F0 m pc ls st0) rest (va_Qd post B A1 a) (vx_X px BX AX) free) (hS : va_S A0 H0 H locs) (hA : ∀ q, q < H.size → A1 q → A0 q) (hf : ∀ q, free q → A0 q) (hAX : ∀ q, q < H.size → AX q → A0 q)
    (kx : ∀ (E : String) (ce : Cell) (q9 : Addr) (u : SX) (t : State) (H1 : Heap) (locs1 : List Loc), t.heap = H1 → s.vm.Alike t.vm → px u → BX E u t → H.size ≤ H1.size → (∀ q : Nat, q < H.size → ¬ AX q → H1[q]? = H[q]?) → va_S A0 H0 H1 locs1 → H1[q9]? = some ce → ce.vm = .none → s.vm.findClass E = some ce.cls → vx_W p l e R s m args below meth c H1 locs1 (cells + mc) (slots + ms) Q (F0 m pc ls rest) q9)
    (kk : ∀ (r : UInt64) (u : S) (t : State) (H1 : Heap) (locs1 : List Loc), t.heap = H1 → s.vm.Alike t.vm → post r u → B u t → H.size ≤ H1.size → (∀ q : Nat, q < H.size → ¬ A1 q → H1[q]? = H[q]?) → va_S A0 H0 H1 locs1 → W p l e R s m args below meth c H1 locs1 (cells + mc) (slots + ms) Q (F0 m (pc + 3) ls (.double r :: rest))) : W p l e R s m args below meth c H locs cells slots Q (F0 m pc ls st0) := by
  intro T hT X
  rcases hr T hT X with ⟨v, st₀, t, T', L, h0, X', hL, e1, e2, ⟨⟨r, u, hv, hp, hb⟩, hF⟩, st⟩ | ⟨q, st₀, t, T', L, E, ce, h0, X', hL, e1, e2, ⟨u, hp, hb, hF⟩, hce, hcv, hcl, st⟩
  · cases hv
    obtain ⟨k1, k2, k3⟩ := vx_keep h0 e1 hS hA hf hL hF
    obtain ⟨t2, a1, b1⟩ := kk r u t T'.heap (locs ++ L) e1.symm (by rw [← e2]; exact X'.warmed.alike) hp hb k1 k2 k3 T' rfl X'
    exact ⟨t2, st t2 a1, b1⟩
  · obtain ⟨k1, k2, k3⟩ := vx_keep h0 e1 hS hAX hf hL hF
    obtain ⟨t2, a1, b1⟩ := kx E ce q u t T'.heap (locs ++ L) e1.symm (by rw [← e2]; exact X'.warmed.alike) hp hb k1 k2 k3 (by rw [e1]; exact hce) hcv hcl T' rfl X'
    exact ⟨t2, st.trans a1, b1⟩
theorem vx_callv {S SX : Type} {post : S → Prop} {px : SX → Prop} {B : S → State → Prop} {BX : String → SX → State → Prop} {AX : Nat → Prop} (hr : vx_Run p l e R s m args below meth c H locs cells slots mc ms (F0 m pc ls st0) rest (va_Qv post B A1 a) (vx_X px BX AX) free) (hS : va_S A0 H0 H locs) (hA : ∀ q, q < H.size → A1 q → A0 q) (hf : ∀ q, free q → A0 q) (hAX : ∀ q, q < H.size → AX q → A0 q)
    (kx : ∀ (E : String) (ce : Cell) (q9 : Addr) (u : SX) (t : State) (H1 : Heap) (locs1 : List Loc), t.heap = H1 → s.vm.Alike t.vm → px u → BX E u t → H.size ≤ H1.size → (∀ q : Nat, q < H.size → ¬ AX q → H1[q]? = H[q]?) → va_S A0 H0 H1 locs1 → H1[q9]? = some ce → ce.vm = .none → s.vm.findClass E = some ce.cls → vx_W p l e R s m args below meth c H1 locs1 (cells + mc) (slots + ms) Q (F0 m pc ls rest) q9)
    (kk : ∀ (u : S) (t : State) (H1 : Heap) (locs1 : List Loc), t.heap = H1 → s.vm.Alike t.vm → post u → B u t → H.size ≤ H1.size → (∀ q : Nat, q < H.size → ¬ A1 q → H1[q]? = H[q]?) → va_S A0 H0 H1 locs1 → W p l e R s m args below meth c H1 locs1 (cells + mc) (slots + ms) Q (F0 m (pc + 3) ls (rest))) : W p l e R s m args below meth c H locs cells slots Q (F0 m pc ls st0) := by
  intro T hT X
  rcases hr T hT X with ⟨v, st₀, t, T', L, h0, X', hL, e1, e2, ⟨⟨u, hv, hp, hb⟩, hF⟩, st⟩ | ⟨q, st₀, t, T', L, E, ce, h0, X', hL, e1, e2, ⟨u, hp, hb, hF⟩, hce, hcv, hcl, st⟩
  · cases hv
    obtain ⟨k1, k2, k3⟩ := vx_keep h0 e1 hS hA hf hL hF
    obtain ⟨t2, a1, b1⟩ := kk u t T'.heap (locs ++ L) e1.symm (by rw [← e2]; exact X'.warmed.alike) hp hb k1 k2 k3 T' rfl X'
    exact ⟨t2, st t2 a1, b1⟩
  · obtain ⟨k1, k2, k3⟩ := vx_keep h0 e1 hS hAX hf hL hF
    obtain ⟨t2, a1, b1⟩ := kx E ce q u t T'.heap (locs ++ L) e1.symm (by rw [← e2]; exact X'.warmed.alike) hp hb k1 k2 k3 (by rw [e1]; exact hce) hcv hcl T' rfl X'
    exact ⟨t2, st.trans a1, b1⟩
/-- caught by the row x of this method's table; the rows ahead don't take it -/
theorem vx_catch {own name : String} {E : String} {ce : Cell} {q : Addr} (hown : s.vm.findClass own = some m.cls) (pre : List ExceptionTableEntry) (x : ExceptionTableEntry) (suf : List ExceptionTableEntry) (hsplit : c.exceptionTable.toList = pre ++ x :: suf)
    (hpass : ∀ z ∈ pre, covers z pc = false ∨ (z.catchType ≠ 0 ∧ ∃ nm : String, (Cond.classLink own z.catchType nm).before args s = true ∧ va_Nc E nm s)) (hx : covers x pc = true) (h0 : x.catchType ≠ 0)
    (hlink : (Cond.classLink own x.catchType name).before args s = true) (hcast : (Cond.castable E name).before args s = true) (hcell : H[q]? = some ce) (hv : ce.vm = .none) (hcl : s.vm.findClass E = some ce.cls)
    (kk : W p l e R s m args below meth c H locs cells slots Q (F0 m x.handlerPc ls [.ref q])) : vx_W p l e R s m args below meth c H locs cells slots Q (F0 m pc ls rest) q := by
  intro T hT X
  have hpl : e.platform.magicAccessors = ({} : Platform).magicAccessors := by rw [X.admits.platform]
  obtain ⟨c3, c4, hc3, hc4, hasg⟩ := Cond.castable_spec hcast
  cases Option.some.inj (hc3.symm.trans hcl)
  obtain ⟨c5, hc5, hcl5⟩ := Cond.classLink_spec hown hlink e.platform hpl
  cases Option.some.inj (hc4.symm.trans hc5)
  obtain ⟨vm', X', st⟩ := X.thenCaughtThrough q (g := F0 m pc ls rest) rfl (Steps.refl _) (by rw [hT]; exact hcell) (by rw [hv]; rfl) (by obtain ⟨k9, h9, -⟩ := Vm.findClass_spec hcl; exact ⟨k9, h9⟩) pre x suf hsplit
    (fun z hz => by
      rcases hpass z hz with h | ⟨hz0, nm, hl1, hn1⟩
      · exact Or.inl h
      · obtain ⟨c6, hc6, hcl6⟩ := Cond.classLink_spec hown hl1 e.platform hpl
        obtain ⟨a8, b8, h1, h2, h3⟩ := hn1
        cases Option.some.inj (h1.symm.trans hcl)
        cases Option.some.inj (h2.symm.trans hc6)
        exact Or.inr ⟨hz0, _, hcl6, h3⟩) hx (Or.inr ⟨h0, c4, hcl5, hasg⟩)
  obtain ⟨t, a1, b1⟩ := kk (T.setVm vm') hT X'
  exact ⟨t, st.trans a1, b1⟩
end Rows
section Ends
variable {p : Program} {l : Launch} {e : Env} {R : Room} {s : State} {m : MethodId} {args : Array Value} {below : List Frame} {meth : Method} {c : Code} {H : Heap} {locs : List Loc} {cells slots : Nat} {Q : State → Prop}
variable {mc ms : Nat} {free : Addr → Prop} {A0 A1 : Nat → Prop} {H0 : Heap} {a : Array Value} {ls : Array Slot} {st0 rest : List Value}
variable {Qc : Array Value → State → Outcome → State → Prop} {XC : String → State → State → Prop}
/-- what a body that may throw owes at its end -/
def vx_MQ (below : List Frame) (Qc : Array Value → State → Outcome → State → Prop) (XC : String → State → State → Prop) (a : Array Value) (s : State) (mc ms : Nat) (free : Addr → Prop) : State → Prop := fun t =>
  ∃ o, t.status = .running ∧ Ended t below o ∧ vx_Q Qc XC mc ms free a s o t
theorem vx_ret {g : JFrame} {mc ms : Nat} (k : W p l e R s m args below meth c H locs cells slots (MQ below Qc args s mc ms free) g) : W p l e R s m args below meth c H locs cells slots (vx_MQ below Qc XC args s mc ms free) g := by
  intro T hT X
  obtain ⟨t, a1, o, b1, b2, b3, b4⟩ := k T hT X
  exact ⟨t, a1, o, b1, b2, Or.inl ⟨b3, b4⟩⟩
/-- not caught here: it goes on to the caller -/
theorem vx_widen {g : JFrame} {q : Addr} {k n : Nat} (h1 : cells ≤ k) (h2 : slots ≤ n) (kk : vx_W p l e R s m args below meth c H locs k n Q g q) : vx_W p l e R s m args below meth c H locs cells slots Q g q := fun T hT X => kk T hT (stand_widen X h1 h2)
theorem vx_out {pc : Nat} {E : String} {ce : Cell} {q : Addr} {mc ms : Nat} (hout : ∀ x ∈ c.exceptionTable.toList, covers x pc = false) (hlocks : meth.locks = false) (hcell : H[q]? = some ce) (hv : ce.vm = .none) (hcl : s.vm.findClass E = some ce.cls)
    (hx : ∀ t : State, t.heap = H → s.vm.Alike t.vm → XC E s t) (hf : ∀ z ∈ locs, free z.base) (hc : cells ≤ mc) (hs : slots ≤ ms) :
    vx_W p l e R s m args below meth c H locs cells slots (vx_MQ below Qc XC args s mc ms free) (F0 m pc ls rest) q := by
  intro T hT X
  obtain ⟨st1, hrun, hend, hW, hsm⟩ := X.leaveThrown q (g := F0 m pc ls rest) rfl rfl rfl hout hlocks
  have hcell9 : (T.setFrames (.throwing q :: below)).heap[q]? = some ce := by
    show T.heap[q]? = some ce
    rw [hT]; exact hcell
  exact ⟨_, st1, .threw q, hrun, hend, Or.inr ⟨q, rfl, E, ce, locs, hx _ hT hW.alike, hcell9, hv, hcl, hW, hsm.mono hc hs, hf⟩⟩
theorem vx_frame {U : State} {k n : Nat} (h : s.sameButNew ({ U with vm := s.vm } : State) locs k n) : s.heap.size ≤ U.heap.size ∧ ∀ q : Nat, q < s.heap.size → (∀ z ∈ locs, z.base ≠ q) → U.heap[q]? = s.heap[q]? := by
  obtain ⟨-, h2, -, -, -, h6⟩ := h
  refine ⟨h2, fun q hq hz => ?_⟩
  obtain ⟨c9, e1, e2, e3, e4⟩ := h6 q _ (Array.getElem?_eq_getElem hq)
  have hs : c9.slots = (s.heap[q]).slots := Array.ext_getElem? fun i => e4 i fun hm => hz _ hm rfl
  have h9 : c9 = s.heap[q] := by
    rw [hs] at e2
    exact e2
  have e5 : U.heap[q]? = some c9 := e1
  rw [e5, h9, Array.getElem?_eq_getElem hq]
/-- the words of a throw but the four that speak of the heap -/
def vx_no (w : Cond) : Bool := decide (w ≠ .isRef (.static Bundle.tN "UNASSIGNED_STACK" Bundle.steD)) && decide (w ≠ .isRef (.static Bundle.tN "SUPPRESSED_SENTINEL" Bundle.listD)) && decide (w ≠ .laysStatic Bundle.tN "UNASSIGNED_STACK" Bundle.steD) && decide (w ≠ .laysStatic Bundle.tN "SUPPRESSED_SENTINEL" Bundle.listD)
def vx_at0 (own : String) (ic : Nat) (X : String) (names : List String) : List Cond := (Bundle.ownAtoms0 own ic X names).filter vx_no
def vx_atS (own : String) (ic : Nat) (X : String) (names : List String) : List Cond := (Bundle.ownAtoms own ic X names).filter vx_no
/-- a word that the tables alone decide, or a good one -/
def vx_ot (w : Cond) : Bool := w.onTables || goodWord w
theorem vx_ot_at {args a' : Array Value} {s U : State} {w : Cond} (hW : s.WarmedH U.vm) (hvm : s.vm = U.vm) (hg : vx_ot w = true) (h : w.before args s = true) : w.before a' U = true := by
  simp only [vx_ot, Bool.or_eq_true] at hg
  rcases hg with hg | hg
  · exact va_tabs hg hvm h
  · exact word_at hW (good_of_word hg) h
/-- a list's words: the good ones out of the method's own list, the others by premises of their own -/
theorem vx_hat {args : Array Value} {s : State} {L B : List Cond} (h1 : ∀ w ∈ L.filter goodWord, w.before args s = true) (h2 : ∀ w ∈ L.filter (fun w => !goodWord w), w ∈ B) (h3 : ∀ w ∈ B, w.before args s = true) : ∀ w ∈ L, w.before args s = true := by
  intro w hw
  by_cases g : goodWord w = true
  · exact h1 w (List.mem_filter.mpr ⟨hw, g⟩)
  · refine h3 w (h2 w (List.mem_filter.mpr ⟨hw, ?_⟩))
    show (!goodWord w) = true
    cases hgw : goodWord w
    · rfl
    · exact absurd hgw g
theorem vx_c {args : Array Value} {s : State} {w : Cond} {B : List Cond} (h : w.before args s = true) (t : ∀ w ∈ B, w.before args s = true) : ∀ w' ∈ w :: B, w'.before args s = true := fun w' h' => (List.mem_cons.mp h').elim (fun e => by rw [e]; exact h) (t w')
theorem vx_n {args : Array Value} {s : State} : ∀ w ∈ ([] : List Cond), w.before args s = true := fun _ h => nomatch h
theorem vx_own {args : Array Value} {s : State} {L : List Cond} (h1 : ∀ w ∈ L.filter vx_no, w.before args s = true)
    (hU : (Cond.isRef (.static Bundle.tN "UNASSIGNED_STACK" Bundle.steD)).before args s = true) (hN : (Cond.isRef (.static Bundle.tN "SUPPRESSED_SENTINEL" Bundle.listD)).before args s = true)
    (lU : (Cond.laysStatic Bundle.tN "UNASSIGNED_STACK" Bundle.steD).before args s = true) (lN : (Cond.laysStatic Bundle.tN "SUPPRESSED_SENTINEL" Bundle.listD).before args s = true) : ∀ w ∈ L, w.before args s = true := by
  intro w hw
  by_cases e1 : w = .isRef (.static Bundle.tN "UNASSIGNED_STACK" Bundle.steD)
  · rw [e1]; exact hU
  · by_cases e2 : w = .isRef (.static Bundle.tN "SUPPRESSED_SENTINEL" Bundle.listD)
    · rw [e2]; exact hN
    · by_cases e3 : w = .laysStatic Bundle.tN "UNASSIGNED_STACK" Bundle.steD
      · rw [e3]; exact lU
      · by_cases e4 : w = .laysStatic Bundle.tN "SUPPRESSED_SENTINEL" Bundle.listD
        · rw [e4]; exact lN
        · exact h1 w (List.mem_filter.mpr ⟨hw, by unfold vx_no; rw [decide_eq_true e1, decide_eq_true e2, decide_eq_true e3, decide_eq_true e4]; rfl⟩)
/-- where a static field lies, its class's statics cell in H -/
def vx_L (C n d : String) (A : Nat → Prop) (U : State) (H : Heap) : Prop := ∃ (c : ClassId) (k : Class) (i : Nat) (f : Field) (a : Nat) (cell : Cell), U.vm.findClass C = some c ∧ U.fieldFound? C n d = some (c, k, i, f) ∧ f.isStatic = true ∧ k.statics = some a ∧ H[a]? = some cell ∧ cell.vm.isStatics = true ∧ cell.cls = c ∧ f.slot < cell.slots.size ∧ k.staticTypes[f.slot]? = some f.type ∧ ¬ A a
theorem vx_L.moved {C n d : String} {A : Nat → Prop} {u U : State} {H : Heap} (hvm : u.vm.Alike U.vm) (h : vx_L C n d A u H) : vx_L C n d A U H := by
  obtain ⟨c, k, i, f, a, cell, h1, h2, h3, h4, h5, h6, h7, h8, h9, h10⟩ := h
  obtain ⟨k', hi', he⟩ := State.fieldFound?_setVm hvm h2
  exact ⟨c, k', i, f, a, cell, by rw [hvm.findClass]; exact h1, hi', h3, by rw [he]; exact h4, h5, h6, h7, h8, by rw [he]; exact h9, h10⟩
theorem vx_L.kept {C n d : String} {A : Nat → Prop} {U : State} {H H1 : Heap} (h : vx_L C n d A U H) (hq : ∀ a : Nat, a < H.size → ¬ A a → H1[a]? = H[a]?) : vx_L C n d A U H1 := by
  obtain ⟨c, k, i, f, a, cell, h1, h2, h3, h4, h5, h6, h7, h8, h9, h10⟩ := h
  exact ⟨c, k, i, f, a, cell, h1, h2, h3, h4, by rw [hq a (Array.getElem?_eq_some_iff.mp h5).1 h10]; exact h5, h6, h7, h8, h9, h10⟩
theorem vx_L.narrow {C n d : String} {A B : Nat → Prop} {U : State} {H : Heap} (h : vx_L C n d A U H) (hAB : ∀ q, B q → A q) : vx_L C n d B U H := by
  obtain ⟨c, k, i, f, a, cell, h1, h2, h3, h4, h5, h6, h7, h8, h9, h10⟩ := h
  exact ⟨c, k, i, f, a, cell, h1, h2, h3, h4, h5, h6, h7, h8, h9, fun z => h10 (hAB _ z)⟩
theorem vx_L.word {C n d : String} {A : Nat → Prop} {s : State} {args : Array Value} (h : vx_L C n d A s s.heap) : (Cond.laysStatic C n d).before args s = true := by
  obtain ⟨c, k, i, f, a, cell, h1, h2, h3, h4, h5, h6, h7, h8, h9, -⟩ := h
  show (Cond.laysStatic C n d).holds args s none s [] = true
  exact Cond.laysStatic_of h1 h2 h3 h4 h5 h6 h7 h8 h9
/-- .. and what it holds: null or some reference -/
def vx_Zq (C n d : String) (A : Nat → Prop) (U : State) (H : Heap) : Prop := va_Zq C n d A U H ∧ vx_L C n d A U H
theorem vx_Zq.moved {C n d : String} {A : Nat → Prop} {u U : State} {H : Heap} (hvm : u.vm.Alike U.vm) (h : vx_Zq C n d A u H) : vx_Zq C n d A U H := ⟨va_Zq.moved hvm h.1, vx_L.moved hvm h.2⟩
theorem vx_Zq.kept {C n d : String} {A : Nat → Prop} {U : State} {H H1 : Heap} (h : vx_Zq C n d A U H) (hq : ∀ a : Nat, a < H.size → ¬ A a → H1[a]? = H[a]?) : vx_Zq C n d A U H1 := ⟨va_Zq.kept h.1 hq, vx_L.kept h.2 hq⟩
theorem vx_Zq.narrow {C n d : String} {A B : Nat → Prop} {U : State} {H : Heap} (h : vx_Zq C n d A U H) (hAB : ∀ q, B q → A q) : vx_Zq C n d B U H := ⟨va_Zq.narrow h.1 hAB, vx_L.narrow h.2 hAB⟩
theorem vx_Zqof {args : Array Value} {s : State} {C n d : String} {A : Nat → Prop} (hl : (Cond.laysStatic C n d).before args s = true) (hini : (Cond.initialized C).before args s = true) (h : (Cond.isRef (.static C n d)).before args s = true) (hA : ∀ a : Nat, a < s.heap.size → ¬ A a) : vx_Zq C n d A s s.heap := by
  refine ⟨va_Zqof hl hini h hA, ?_⟩
  obtain ⟨c, k, i, f, a, cell, h1, h2, h3, h4, h5, h6, h7, h8, h9⟩ := Cond.laysStatic_spec hl
  exact ⟨c, k, i, f, a, cell, h1, h2, h3, h4, h5, h6, h7, h8, h9, hA a (Array.getElem?_eq_some_iff.mp h5).1⟩
theorem vx_isRef {C n d : String} {v : Value} {A : Nat → Prop} {s : State} {args : Array Value} (h : va_Z C n d v A s s.heap) (hv : v.isRef = true) : (Cond.isRef (.static C n d)).before args s = true := by
  obtain ⟨cf, kf, fi, f, a, cell, h1, h2, h3, h4, h5, h6, h7, -⟩ := h
  have he : (Term.static C n d).eval args s none [] s = some v := by
    simp [Term.eval, State.fieldNamed?, h1, h2, h4, h5, h6, h7]
  simp only [Cond.before, Cond.holds, Cond.value, he]
  cases v <;> simp_all [Value.isRef]
theorem vx_isRefq {C n d : String} {A : Nat → Prop} {s : State} {args : Array Value} (h : va_Zq C n d A s s.heap) : (Cond.isRef (.static C n d)).before args s = true := by
  rcases h with h | ⟨t, h⟩
  · exact vx_isRef h rfl
  · exact vx_isRef h rfl
/-- the same frame, seen from here: as if the method were called anew in this heap -/
theorem vx_rebase {T : State} (X : Stand p l e R s m args below meth c T locs cells slots) {R' : Room} (hf : R'.frames ≤ R.frames) (hl : R'.locals ≤ R.locals) (hc : cells + R'.cells ≤ R.cells) (hs : slots + R'.slots ≤ R.slots) :
    Stand p l e R' ((T.setVm s.vm).setFrames (.invoking m args :: below)) m args below meth c T [] 0 0 := by
  have htop : (T.setVm s.vm).topJava?.isSome := X.here.top
  have hF : ((T.setVm s.vm).setFrames (.invoking m args :: below)).frames = .invoking m args :: below := State.frames_setFrames _ (State.cur_lt_of_top htop)
  obtain ⟨g₀, hg0⟩ := Option.isSome_iff_exists.mp htop
  obtain ⟨r, hr⟩ := State.topJava?_eq_some.mp hg0
  have hl9 : e.platform.stackLimits (T.setVm s.vm).me = e.platform.stackLimits s.me := X.limits
  have hb9 : (T.setVm s.vm).me.stackBytes = s.me.stackBytes := X.bytes
  refine ⟨X.admits, X.cas, X.clock, hF, ?_, X.hears, X.method, X.code, X.here, X.tail, X.warmed, ?_, ?_, ?_⟩
  · have h := X.room
    have hU : ((T.setVm s.vm).setFrames (.invoking m args :: below)).localsInUse = s.localsInUse := by
      rw [State.localsInUse_invoking hF (meth := meth) (c := c) X.method X.code, State.localsInUse_invoking X.frames X.method X.code]
    simp only [State.hasRoom, Bool.and_eq_true, decide_eq_true_eq] at h ⊢
    obtain ⟨⟨⟨⟨h1, h2, h3, h4, h5, h6⟩, h7⟩, h8⟩, h9⟩ := h
    rw [X.frames, List.length_cons] at h2 h3
    have q1 := X.heapSize
    have q2 := X.used
    simp only [hF, hU, List.length_cons, State.stackLimits_setFrames, State.stackBytes_setFrames, hl9, hb9]
    refine ⟨⟨⟨⟨by omega, by omega, by omega, by omega, by omega, h6⟩, ?_⟩, ?_⟩, X.book⟩
    · show T.heap.size + R'.cells ≤ e.platform.maxCells
      omega
    · show T.slotsUsed + R'.slots ≤ e.platform.maxSlots
      omega
  · rw [State.stackLimits_setFrames]; rfl
  · rw [State.stackBytes_setFrames]; rfl
  · refine ⟨?_, Nat.le_refl _, Nat.le_refl _, ?_, ?_, fun a c9 h9 => ⟨c9, h9, rfl, rfl, fun _ _ => rfl⟩⟩
    · obtain ⟨t, ht, -⟩ := State.frames_cons hr
      show T.setVm s.vm = { ((T.setVm s.vm).setFrames (.invoking m args :: below)).setFrames (T.setVm s.vm).frames with heap := T.heap, slotsUsed := T.slotsUsed }
      rw [State.setFrames_setFrames, State.setFrames_self ht]
      rfl
    · show T.slotsUsed = T.slotsUsed + ((T.heap.toList.drop T.heap.size).map (·.slots.size)).sum
      rw [List.drop_eq_nil_of_le (Nat.le_of_eq Array.length_toList)]
      rfl
    · show ((T.heap.toList.drop T.heap.size).map (·.slots.size)).sum ≤ 0
      rw [List.drop_eq_nil_of_le (Nat.le_of_eq Array.length_toList)]
      exact Nat.le_refl _
/-- 'throw new E()': new; dup; invokespecial; athrow -/
theorem vx_throw0 {cc : ByteArray} {pc : Nat} (hexec : p.tables.exec = Jvm.exec) (hb : c.code = cc) (hl : l.stackTraces = false) {own cls : String} {names : List String} {ik ic mc ms : Nat} {A : Nat → Prop}
    (hown : s.vm.findClass own = some m.cls) (hcls : Bundle.fit cls = true) (hnames : ∀ n ∈ names, Bundle.fit n = true)
    (hk : (Cond.classLink own ik cls).before args s = true) (hini : (Cond.initialized cls).before args s = true) (hat : ∀ w ∈ vx_at0 own ic cls names, w.before args s = true)
    (hgood : ∀ w ∈ Cond.classLink own ik cls :: Cond.initialized cls :: vx_at0 own ic cls names, vx_ot w = true)
    (hU : vx_Zq Bundle.tN "UNASSIGNED_STACK" Bundle.steD A s s.heap) (hN : vx_Zq Bundle.tN "SUPPRESSED_SENTINEL" Bundle.listD A s s.heap) (hS : va_S A s.heap H locs) (hsize : ls.size = c.maxLocals)
    (d0 : decode cc pc = .ok (.new ik, 3)) (d3 : decode cc (pc + 3) = .ok (.dup, 1)) (d4 : decode cc (pc + 4) = .ok (.invokespecial ic, 3)) (d7 : decode cc (pc + 7) = .ok (.athrow, 1))
    (hout : ∀ x ∈ c.exceptionTable.toList, covers x (pc + 7) = false)
    (hRframes : names.length + 3 < R.frames) (hRlocals : (rest.map fun v => v.category).sum + (13 * (names.length + 1) + 42) ≤ R.locals) (hRcells : cells + 1 ≤ R.cells) (hRslots : slots + 6 ≤ R.slots) (hlocks : meth.locks = false)
    (hx : ∀ t : State, s.vm.Alike t.vm → H.size ≤ t.heap.size → (∀ q : Nat, q < H.size → t.heap[q]? = H[q]?) → XC cls s t)
    (hf : ∀ z ∈ locs, free z.base) (hc : cells + 1 ≤ mc) (hs : slots + 6 ≤ ms) :
    W p l e R s m args below meth c H locs cells slots (vx_MQ below Qc XC args s mc ms free) (F0 m pc ls rest) := by
  intro T hT X
  have htr : e.platform.stackTraces = false := (show e.platform.stackTraces = l.stackTraces by rw [X.admits.platform]).trans hl
  have Y := vx_rebase X (R' := { frames := R.frames, locals := R.locals, cells := 1, slots := 6 }) (Nat.le_refl _) (Nat.le_refl _) hRcells hRslots
  obtain ⟨s', hA⟩ : ∃ z, z = (T.setVm s.vm).setFrames (.invoking m args :: below) := ⟨_, rfl⟩
  rw [← hA] at Y
  have hvm : s'.vm = s.vm := by rw [hA]; rfl
  have hhp : s'.heap = H := by rw [hA]; exact hT
  have hW0 : s.WarmedH s'.vm := by rw [hvm]; exact State.WarmedH.refl s
  have hat' : ∀ w ∈ vx_at0 own ic cls names, w.before args s' = true := fun w hw => vx_ot_at hW0 hvm.symm (hgood w (List.mem_cons_of_mem _ (List.mem_cons_of_mem _ hw))) (hat w hw)
  have hk' : (Cond.classLink own ik cls).before args s' = true := vx_ot_at hW0 hvm.symm (hgood _ List.mem_cons_self) hk
  have hini' : (Cond.initialized cls).before args s' = true := vx_ot_at hW0 hvm.symm (hgood _ (List.mem_cons_of_mem _ List.mem_cons_self)) hini
  have hU' : vx_Zq Bundle.tN "UNASSIGNED_STACK" Bundle.steD A s' s'.heap := by rw [hhp]; exact vx_Zq.moved hW0.alike (hU.kept hS.2.1)
  have hN' : vx_Zq Bundle.tN "SUPPRESSED_SENTINEL" Bundle.listD A s' s'.heap := by rw [hhp]; exact vx_Zq.moved hW0.alike (hN.kept hS.2.1)
  have h : ∀ w ∈ Bundle.ownAtoms0 own ic cls names, w.before args s' = true := vx_own hat' (vx_isRefq hU'.1) (vx_isRefq hN'.1) hU'.2.word hN'.2.word
  have hown' : s'.vm.findClass own = some m.cls := by rw [hvm]; exact hown
  have hins : (Cond.instantiable cls 6).before args s' = true := h _ (by simp [Bundle.ownAtoms0])
  obtain ⟨vm₁, cX, kX, hfX, hkX, -, -, X₁, st1⟩ := Y.newCold hexec (own := own) (C := cls) (index := ik) (n := 6) hown' hk' hins hini'
    (g := F0 m pc ls rest) rfl (by rw [hb]; exact d0) (Nat.le_refl _) (Nat.le_refl _)
  generalize hT1 : (T.setVm vm₁).pushCell { cls := cX, slots := kX.instanceTypes.map defaultValue, vm := .none } = T1 at X₁ st1
  have hcat : (Value.ref T.heap.size).category = 1 := rfl
  have hcellA : T1.heap[T.heap.size]? = some (freshCell cX kX) := by rw [← hT1]; exact State.heap_pushCell_size _ _
  have d3' : decode c.code (pc + 3) = .ok (.dup, 1) := by rw [hb]; exact d3
  obtain ⟨U, hsteps, hrun, hend, hW, hsame, ce, hce, hO⟩ := X₁.ctorThrow0 hexec htr (own := own) (cls := cls) (names := names) (ic := ic) hown' hcls hnames h (fun x hx => nomatch hx) hfX hkX hcellA (by rw [hhp, hT]; exact Nat.le_refl _)
    (g := { method := m, pc := pc + 4, locals := ls, stack := .ref T.heap.size :: .ref T.heap.size :: rest, locked := none }) rfl hsize rfl rfl (rest := rest) rfl
    (by rw [hb]; exact d4) (by rw [hb]; exact d7) hout hRframes (by simp only [List.map_cons, List.sum_cons, hcat]; omega) hlocks
  obtain ⟨f1, f2⟩ := vx_frame hsame
  rw [hhp] at f1 f2
  have hWs : s.WarmedH U.vm := State.WarmedH.trans hW0 hW
  have hcl : s.vm.findClass cls = some ce.cls := by
    have h9 := hO.cls
    rw [hvm] at h9
    exact h9
  have hall : s.sameButNew ({ U with vm := s.vm } : State) locs mc ms := by
    subst hA
    obtain ⟨e1, e2⟩ := hsame
    rw [State.setFrames_setFrames] at e1
    have h2 : (T.setVm s.vm).sameButNew ({ U with vm := s.vm } : State) [] (0 + 1) (0 + 6) := ⟨e1, e2⟩
    have h3 := X.same.trans h2
    rw [List.append_nil] at h3
    exact h3.mono hc hs
  refine ⟨U, ?_, .threw T.heap.size, hrun, hend, Or.inr ⟨T.heap.size, rfl, cls, ce, locs, hx U hWs.alike f1 (fun q hq => f2 q hq (fun z hz => nomatch hz)), hce, hO.vm, hcl, hWs, hall, hf⟩⟩
  refine st1 _ ?_
  show Steps p.tables e below (T1.setTop { method := m, pc := pc + 3, locals := ls, stack := .ref T.heap.size :: rest, locked := none }) _
  jvm_step X₁.here [X₁.here.top, hexec, d3', Value.category]
  exact hsteps
/-- 'throw new E("text")': new; dup; ldc; invokespecial; athrow -/
theorem vx_throwS {cc : ByteArray} {pc : Nat} (hexec : p.tables.exec = Jvm.exec) (hb : c.code = cc) (hl : l.stackTraces = false) {own cls text : String} {names : List String} {ik is ic mc ms sa : Nat} {A : Nat → Prop}
    (hown : s.vm.findClass own = some m.cls) (hcls : Bundle.fit cls = true) (hnames : ∀ n ∈ names, Bundle.fit n = true)
    (hk : (Cond.classLink own ik cls).before args s = true) (hini : (Cond.initialized cls).before args s = true) (hstr : vk_R own is text sa s) (hat : ∀ w ∈ vx_atS own ic cls names, w.before args s = true)
    (hgood : ∀ w ∈ Cond.classLink own ik cls :: Cond.initialized cls :: vx_atS own ic cls names, vx_ot w = true)
    (hU : vx_Zq Bundle.tN "UNASSIGNED_STACK" Bundle.steD A s s.heap) (hN : vx_Zq Bundle.tN "SUPPRESSED_SENTINEL" Bundle.listD A s s.heap) (hS : va_S A s.heap H locs) (hsize : ls.size = c.maxLocals)
    (d0 : decode cc pc = .ok (.new ik, 3)) (d3 : decode cc (pc + 3) = .ok (.dup, 1)) (d4 : decode cc (pc + 4) = .ok (.ldc is, 2)) (d6 : decode cc (pc + 6) = .ok (.invokespecial ic, 3)) (d9 : decode cc (pc + 9) = .ok (.athrow, 1))
    (hout : ∀ x ∈ c.exceptionTable.toList, covers x (pc + 9) = false)
    (hRframes : names.length + 3 < R.frames) (hRlocals : (rest.map fun v => v.category).sum + (13 * (names.length + 1) + 43) ≤ R.locals) (hRcells : cells + 1 ≤ R.cells) (hRslots : slots + 6 ≤ R.slots) (hlocks : meth.locks = false)
    (hx : ∀ t : State, s.vm.Alike t.vm → H.size ≤ t.heap.size → (∀ q : Nat, q < H.size → t.heap[q]? = H[q]?) → XC cls s t)
    (hf : ∀ z ∈ locs, free z.base) (hc : cells + 1 ≤ mc) (hs : slots + 6 ≤ ms) :
    W p l e R s m args below meth c H locs cells slots (vx_MQ below Qc XC args s mc ms free) (F0 m pc ls rest) := by
  intro T hT X
  have htr : e.platform.stackTraces = false := (show e.platform.stackTraces = l.stackTraces by rw [X.admits.platform]).trans hl
  have Y := vx_rebase X (R' := { frames := R.frames, locals := R.locals, cells := 1, slots := 6 }) (Nat.le_refl _) (Nat.le_refl _) hRcells hRslots
  obtain ⟨s', hA⟩ : ∃ z, z = (T.setVm s.vm).setFrames (.invoking m args :: below) := ⟨_, rfl⟩
  rw [← hA] at Y
  have hvm : s'.vm = s.vm := by rw [hA]; rfl
  have hhp : s'.heap = H := by rw [hA]; exact hT
  have hW0 : s.WarmedH s'.vm := by rw [hvm]; exact State.WarmedH.refl s
  have hat' : ∀ w ∈ vx_atS own ic cls names, w.before args s' = true := fun w hw => vx_ot_at hW0 hvm.symm (hgood w (List.mem_cons_of_mem _ (List.mem_cons_of_mem _ hw))) (hat w hw)
  have hk' : (Cond.classLink own ik cls).before args s' = true := vx_ot_at hW0 hvm.symm (hgood _ List.mem_cons_self) hk
  have hini' : (Cond.initialized cls).before args s' = true := vx_ot_at hW0 hvm.symm (hgood _ (List.mem_cons_of_mem _ List.mem_cons_self)) hini
  have hU' : vx_Zq Bundle.tN "UNASSIGNED_STACK" Bundle.steD A s' s'.heap := by rw [hhp]; exact vx_Zq.moved hW0.alike (hU.kept hS.2.1)
  have hN' : vx_Zq Bundle.tN "SUPPRESSED_SENTINEL" Bundle.listD A s' s'.heap := by rw [hhp]; exact vx_Zq.moved hW0.alike (hN.kept hS.2.1)
  have h : ∀ w ∈ Bundle.ownAtoms own ic cls names, w.before args s' = true := vx_own hat' (vx_isRefq hU'.1) (vx_isRefq hN'.1) hU'.2.word hN'.2.word
  have hown' : s'.vm.findClass own = some m.cls := by rw [hvm]; exact hown
  have hins : (Cond.instantiable cls 6).before args s' = true := h _ (by simp [Bundle.ownAtoms])
  obtain ⟨vm₁, cX, kX, hfX, hkX, -, -, X₁, st1⟩ := Y.newCold hexec (own := own) (C := cls) (index := ik) (n := 6) hown' hk' hins hini'
    (g := F0 m pc ls rest) rfl (by rw [hb]; exact d0) (Nat.le_refl _) (Nat.le_refl _)
  generalize hT1 : (T.setVm vm₁).pushCell { cls := cX, slots := kX.instanceTypes.map defaultValue, vm := .none } = T1 at X₁ st1
  have hcat : (Value.ref T.heap.size).category = 1 := rfl
  have hcellA : T1.heap[T.heap.size]? = some (freshCell cX kX) := by rw [← hT1]; exact State.heap_pushCell_size _ _
  have d3' : decode c.code (pc + 3) = .ok (.dup, 1) := by rw [hb]; exact d3
  have d4' : decode c.code (pc + 4) = .ok (.ldc is, 2) := by rw [hb]; exact d4
  have hstr' : vk_R own is text sa s' := vk_R.warm hW0 hstr
  obtain ⟨U, hsteps, hrun, hend, hW, hsame, ce, hce, hO⟩ := X₁.ctorThrowS hexec htr (own := own) (cls := cls) (names := names) (ic := ic) hown' hcls hnames h (fun x hx => nomatch hx) hfX hkX hcellA (by rw [hhp, hT]; exact Nat.le_refl _) (msg := .ref sa) rfl
    (g := { method := m, pc := pc + 6, locals := ls, stack := .ref sa :: .ref T.heap.size :: .ref T.heap.size :: rest, locked := none }) rfl hsize rfl rfl (rest := rest) rfl
    (by rw [hb]; exact d6) (by rw [hb]; exact d9) hout hRframes (by simp only [List.map_cons, List.sum_cons, hcat]; omega) hlocks
  obtain ⟨f1, f2⟩ := vx_frame hsame
  rw [hhp] at f1 f2
  have hWs : s.WarmedH U.vm := State.WarmedH.trans hW0 hW
  have hcl : s.vm.findClass cls = some ce.cls := by
    have h9 := hO.cls
    rw [hvm] at h9
    exact h9
  have hall : s.sameButNew ({ U with vm := s.vm } : State) locs mc ms := by
    subst hA
    obtain ⟨e1, e2⟩ := hsame
    rw [State.setFrames_setFrames] at e1
    have h2 : (T.setVm s.vm).sameButNew ({ U with vm := s.vm } : State) [] (0 + 1) (0 + 6) := ⟨e1, e2⟩
    have h3 := X.same.trans h2
    rw [List.append_nil] at h3
    exact h3.mono hc hs
  refine ⟨U, ?_, .threw T.heap.size, hrun, hend, Or.inr ⟨T.heap.size, rfl, cls, ce, locs, hx U hWs.alike f1 (fun q hq => f2 q hq (fun z hz => nomatch hz)), hce, hO.vm, hcl, hWs, hall, hf⟩⟩
  refine st1 _ ?_
  show Steps p.tables e below (T1.setTop { method := m, pc := pc + 3, locals := ls, stack := .ref T.heap.size :: rest, locked := none }) _
  jvm_step X₁.here [X₁.here.top, hexec, d3', Value.category]
  exact X₁.ldcString hexec (own := own) (text := text) (index := is) (a := sa) hown' hstr'.1 hstr'.2
    (g := { method := m, pc := pc + 4, locals := ls, stack := .ref T.heap.size :: .ref T.heap.size :: rest, locked := none }) rfl d4' _ hsteps
/-- 'throw new E("text")', the text by a wide index -/
theorem vx_throwSW {cc : ByteArray} {pc : Nat} (hexec : p.tables.exec = Jvm.exec) (hb : c.code = cc) (hl : l.stackTraces = false) {own cls text : String} {names : List String} {ik is ic mc ms sa : Nat} {A : Nat → Prop}
    (hown : s.vm.findClass own = some m.cls) (hcls : Bundle.fit cls = true) (hnames : ∀ n ∈ names, Bundle.fit n = true)
    (hk : (Cond.classLink own ik cls).before args s = true) (hini : (Cond.initialized cls).before args s = true) (hstr : vk_R own is text sa s) (hat : ∀ w ∈ vx_atS own ic cls names, w.before args s = true)
    (hgood : ∀ w ∈ Cond.classLink own ik cls :: Cond.initialized cls :: vx_atS own ic cls names, vx_ot w = true)
    (hU : vx_Zq Bundle.tN "UNASSIGNED_STACK" Bundle.steD A s s.heap) (hN : vx_Zq Bundle.tN "SUPPRESSED_SENTINEL" Bundle.listD A s s.heap) (hS : va_S A s.heap H locs) (hsize : ls.size = c.maxLocals)
    (d0 : decode cc pc = .ok (.new ik, 3)) (d3 : decode cc (pc + 3) = .ok (.dup, 1)) (d4 : decode cc (pc + 4) = .ok (.ldc_w is, 3)) (d7 : decode cc (pc + 7) = .ok (.invokespecial ic, 3)) (d10 : decode cc (pc + 10) = .ok (.athrow, 1))
    (hout : ∀ x ∈ c.exceptionTable.toList, covers x (pc + 10) = false)
    (hRframes : names.length + 3 < R.frames) (hRlocals : (rest.map fun v => v.category).sum + (13 * (names.length + 1) + 43) ≤ R.locals) (hRcells : cells + 1 ≤ R.cells) (hRslots : slots + 6 ≤ R.slots) (hlocks : meth.locks = false)
    (hx : ∀ t : State, s.vm.Alike t.vm → H.size ≤ t.heap.size → (∀ q : Nat, q < H.size → t.heap[q]? = H[q]?) → XC cls s t)
    (hf : ∀ z ∈ locs, free z.base) (hc : cells + 1 ≤ mc) (hs : slots + 6 ≤ ms) :
    W p l e R s m args below meth c H locs cells slots (vx_MQ below Qc XC args s mc ms free) (F0 m pc ls rest) := by
  intro T hT X
  have htr : e.platform.stackTraces = false := (show e.platform.stackTraces = l.stackTraces by rw [X.admits.platform]).trans hl
  have Y := vx_rebase X (R' := { frames := R.frames, locals := R.locals, cells := 1, slots := 6 }) (Nat.le_refl _) (Nat.le_refl _) hRcells hRslots
  obtain ⟨s', hA⟩ : ∃ z, z = (T.setVm s.vm).setFrames (.invoking m args :: below) := ⟨_, rfl⟩
  rw [← hA] at Y
  have hvm : s'.vm = s.vm := by rw [hA]; rfl
  have hhp : s'.heap = H := by rw [hA]; exact hT
  have hW0 : s.WarmedH s'.vm := by rw [hvm]; exact State.WarmedH.refl s
  have hat' : ∀ w ∈ vx_atS own ic cls names, w.before args s' = true := fun w hw => vx_ot_at hW0 hvm.symm (hgood w (List.mem_cons_of_mem _ (List.mem_cons_of_mem _ hw))) (hat w hw)
  have hk' : (Cond.classLink own ik cls).before args s' = true := vx_ot_at hW0 hvm.symm (hgood _ List.mem_cons_self) hk
  have hini' : (Cond.initialized cls).before args s' = true := vx_ot_at hW0 hvm.symm (hgood _ (List.mem_cons_of_mem _ List.mem_cons_self)) hini
  have hU' : vx_Zq Bundle.tN "UNASSIGNED_STACK" Bundle.steD A s' s'.heap := by rw [hhp]; exact vx_Zq.moved hW0.alike (hU.kept hS.2.1)
  have hN' : vx_Zq Bundle.tN "SUPPRESSED_SENTINEL" Bundle.listD A s' s'.heap := by rw [hhp]; exact vx_Zq.moved hW0.alike (hN.kept hS.2.1)
  have h : ∀ w ∈ Bundle.ownAtoms own ic cls names, w.before args s' = true := vx_own hat' (vx_isRefq hU'.1) (vx_isRefq hN'.1) hU'.2.word hN'.2.word
  have hown' : s'.vm.findClass own = some m.cls := by rw [hvm]; exact hown
  have hins : (Cond.instantiable cls 6).before args s' = true := h _ (by simp [Bundle.ownAtoms])
  obtain ⟨vm₁, cX, kX, hfX, hkX, -, -, X₁, st1⟩ := Y.newCold hexec (own := own) (C := cls) (index := ik) (n := 6) hown' hk' hins hini'
    (g := F0 m pc ls rest) rfl (by rw [hb]; exact d0) (Nat.le_refl _) (Nat.le_refl _)
  generalize hT1 : (T.setVm vm₁).pushCell { cls := cX, slots := kX.instanceTypes.map defaultValue, vm := .none } = T1 at X₁ st1
  have hcat : (Value.ref T.heap.size).category = 1 := rfl
  have hcellA : T1.heap[T.heap.size]? = some (freshCell cX kX) := by rw [← hT1]; exact State.heap_pushCell_size _ _
  have d3' : decode c.code (pc + 3) = .ok (.dup, 1) := by rw [hb]; exact d3
  have d4' : decode c.code (pc + 4) = .ok (.ldc_w is, 3) := by rw [hb]; exact d4
  have hstr' : vk_R own is text sa s' := vk_R.warm hW0 hstr
  obtain ⟨U, hsteps, hrun, hend, hW, hsame, ce, hce, hO⟩ := X₁.ctorThrowS hexec htr (own := own) (cls := cls) (names := names) (ic := ic) hown' hcls hnames h (fun x hx => nomatch hx) hfX hkX hcellA (by rw [hhp, hT]; exact Nat.le_refl _) (msg := .ref sa) rfl
    (g := { method := m, pc := pc + 7, locals := ls, stack := .ref sa :: .ref T.heap.size :: .ref T.heap.size :: rest, locked := none }) rfl hsize rfl rfl (rest := rest) rfl
    (by rw [hb]; exact d7) (by rw [hb]; exact d10) hout hRframes (by simp only [List.map_cons, List.sum_cons, hcat]; omega) hlocks
  obtain ⟨f1, f2⟩ := vx_frame hsame
  rw [hhp] at f1 f2
  have hWs : s.WarmedH U.vm := State.WarmedH.trans hW0 hW
  have hcl : s.vm.findClass cls = some ce.cls := by
    have h9 := hO.cls
    rw [hvm] at h9
    exact h9
  have hall : s.sameButNew ({ U with vm := s.vm } : State) locs mc ms := by
    subst hA
    obtain ⟨e1, e2⟩ := hsame
    rw [State.setFrames_setFrames] at e1
    have h2 : (T.setVm s.vm).sameButNew ({ U with vm := s.vm } : State) [] (0 + 1) (0 + 6) := ⟨e1, e2⟩
    have h3 := X.same.trans h2
    rw [List.append_nil] at h3
    exact h3.mono hc hs
  refine ⟨U, ?_, .threw T.heap.size, hrun, hend, Or.inr ⟨T.heap.size, rfl, cls, ce, locs, hx U hWs.alike f1 (fun q hq => f2 q hq (fun z hz => nomatch hz)), hce, hO.vm, hcl, hWs, hall, hf⟩⟩
  refine st1 _ ?_
  show Steps p.tables e below (T1.setTop { method := m, pc := pc + 3, locals := ls, stack := .ref T.heap.size :: rest, locked := none }) _
  jvm_step X₁.here [X₁.here.top, hexec, d3', Value.category]
  exact X₁.ldcStringW hexec (own := own) (text := text) (index := is) (a := sa) hown' hstr'.1 hstr'.2
    (g := { method := m, pc := pc + 4, locals := ls, stack := .ref T.heap.size :: .ref T.heap.size :: rest, locked := none }) rfl d4' _ hsteps
end Ends
section Bodies
variable {l : Launch}
theorem vx_ofW {y : MethodName} {ws ws' : List Cond} {rm : Room} {Pc : Array Value → State → Prop} {Qc : Array Value → State → Outcome → State → Prop} {XC : String → State → State → Prop} {mc ms : Nat} {free : Addr → Prop} {cc : ByteArray} {maxL : Nat} {ret : Option FieldType}
    (hy : plainName y.cls = true) (hw : ws = Cond.code y cc maxL ret :: ws')
    (body : ∀ p e s m args below meth c s₁, BodyLoose p l y (headSpec ws rm) cc maxL ret e s m args below meth c s₁ → c.maxLocals = maxL → (∀ x ∈ c.exceptionTable.toList, False) → Pc args s →
      W p l e (headSpec ws rm).room s m args below meth c s.heap [] 0 0 (vx_MQ below Qc XC args s mc ms free) (entryFrame m args maxL)) : vx_Met l y ws rm Pc Qc XC mc ms free := by
  refine MetFree.of_bodyS (code := cc) (maxLocals := maxL) (ret := ret) hy ?_ ?_
  · intro args s m h hn
    obtain ⟨meth, c, h1, h2, h3, h4, h5, h6, -, -⟩ := Cond.code_spec hn (atoms_spec (ws := ws) h _ (by rw [hw]; exact List.mem_cons_self))
    exact ⟨meth, c, h1, h2, h3, h4, h5, h6⟩
  · intro p e s m args below meth c s₁ B hml hP _
    have hh0 : s₁.heap = s.heap := by rw [B.state]; rfl
    have ht : ∀ x ∈ c.exceptionTable.toList, False := by
      obtain ⟨meth9, c9, h1, h2, -, -, -, -, h7, -⟩ := Cond.code_spec B.named (atoms_spec (ws := ws) B.pre _ (by rw [hw]; exact List.mem_cons_self))
      cases Option.some.inj (h1.symm.trans B.method)
      cases Option.some.inj (h2.symm.trans (Stand.of_body B).code)
      intro x hx
      rw [Array.isEmpty_iff.mp h7] at hx
      cases hx
    obtain ⟨t, a1, o, b1, b2, b3⟩ := body p e s m args below meth c s₁ B hml ht hP s₁ hh0 (Stand.of_body B)
    exact ⟨t, o, a1, b1, b2, b3⟩
/-- the table of a body with handlers -/
theorem vx_table {p : Program} {x y : MethodName} {S : Spec} {cc bytes : ByteArray} {maxL maxL' : Nat} {ret ret' : Option FieldType} {e : Env} {s s₁ : State} {m : MethodId} {args : Array Value} {below : List Frame} {meth : Method} {c : Code} {hh : List (Nat × Nat × Nat × Nat)}
    (B : BodyLoose p l y S cc maxL ret e s m args below meth c s₁) (h : (Cond.codeWith y bytes maxL' ret' hh).before args s = true) : c.exceptionTable.toList = tableOf hh := by
  obtain ⟨m9, meth9, c9, hn9, h1, h2, -, -, h6, -⟩ := Cond.codeWith_spec h
  cases Option.some.inj (hn9.symm.trans B.named)
  cases Option.some.inj (h1.symm.trans B.method)
  cases Option.some.inj (h2.symm.trans (Stand.of_body B).code)
  rw [← h6, table_eq]
end Bodies
end VXA
/-! ===== END ===== -/
/-! ===== BEGIN a static call of a method with an exception table ===== -/
section VXS
variable {p : Program} {l : Launch} {e : Env} {R : Room} {s : State} {m : MethodId} {args : Array Value} {below : List Frame} {meth : Method} {c : Code} {T : State} {H : Heap} {locs : List Loc} {cells slots : Nat}
abbrev vx_CSW (R : Room) (s : State) (args : Array Value) (own : String) (index : Nat) (y : MethodName) (bytes : ByteArray) (maxL : Nat) (ret : Option FieldType) (hh : List (Nat × Nat × Nat × Nat)) (ws : List Cond) (rm : Room) (mc ms n : Nat) : Prop :=
  (rm.cells = mc ∧ rm.slots = ms ∧ rm.frames + 1 ≤ R.frames ∧ 8 + (maxL + 11) + rm.locals ≤ R.locals ∧ (∀ w ∈ ws, ∀ (a' : Array Value) (U : State), s.WarmedH U.vm → w.before a' U = true) ∧ Cond.codeWith y bytes maxL ret hh ∈ ws) ∧
  (Cond.codeWith y bytes maxL ret hh).before args s = true ∧ (Cond.initialized y.cls).before args s = true ∧ (y.cls ≠ "java/lang/invoke/MethodHandle" ∧ y.cls ≠ "java/lang/invoke/VarHandle") ∧
  (∀ sig, parseMethodDescriptor y.desc = some sig → n = sig.parameters.length) ∧ (Cond.methodLink own index y).before args s = true ∧ (Cond.static y).before args s = true
theorem vx_cwSW {own : String} {index maxL mc ms : Nat} {y : MethodName} {bytes : ByteArray} {ret : Option FieldType} {hh : List (Nat × Nat × Nat × Nat)} {Ts ws ws' : List Cond} {rm : Room} (n : Nat) (ht : ∀ w ∈ Ts, w.before args s = true) (hT : GoodIn Ts (va_wsS own index y ws)) (hw : ws = Cond.codeWith y bytes maxL ret hh :: ws') (hrc : rm.cells = mc) (hrs : rm.slots = ms)
    (hd : y.cls ≠ "java/lang/invoke/MethodHandle" ∧ y.cls ≠ "java/lang/invoke/VarHandle" ∧ (parseMethodDescriptor y.desc).map (fun d => d.parameters.length) = some n) (hR : rm.frames + 1 ≤ R.frames ∧ 8 + (maxL + 11) + rm.locals ≤ R.locals) :
    vx_CSW R s args own index y bytes maxL ret hh ws rm mc ms n := by
  have ok : ∀ w ∈ va_wsS own index y ws, w.before args s = true := fun w h => ht w (hT w h).1
  have hG : GoodIn Ts ws := fun w h => hT w (by unfold va_wsS; exact List.mem_append_right _ h)
  have hc : Cond.codeWith y bytes maxL ret hh ∈ ws := by rw [hw]; exact List.mem_cons_self
  refine ⟨⟨hrc, hrs, hR.1, hR.2, pay_in ht hG, hc⟩, ht _ (hG _ hc).1, ok _ (by simp [va_wsS]), ⟨hd.1, hd.2.1⟩, fun sig h => ?_, ok _ (by simp [va_wsS]), ok _ (by simp [va_wsS])⟩
  have h2 := hd.2.2
  rw [h] at h2
  exact (Option.some.inj h2).symm
theorem vx_callSW (X : Stand p l e R s m args below meth c T locs cells slots) (hexec : p.tables.exec = Jvm.exec) {own : String} {index : Nat} {y : MethodName} {bytes : ByteArray} {maxL : Nat} {ret : Option FieldType} {hh : List (Nat × Nat × Nat × Nat)}
    (hown : s.vm.findClass own = some m.cls) (hlink : (Cond.methodLink own index y).before args s = true) (hstat : (Cond.static y).before args s = true) (hinit : (Cond.initialized y.cls).before args s = true)
    (hcode : (Cond.codeWith y bytes maxL ret hh).before args s = true) (hy : y.cls ≠ "java/lang/invoke/MethodHandle" ∧ y.cls ≠ "java/lang/invoke/VarHandle")
    {W9 : Nat} {Pre : Pt → Array Value → Prop} {Post : Pt → Array Value → Option Value → Pt → Prop} (hK : Back l R p e below s args y 3 W9 Pre Post)
    {g : JFrame} (hg : g.method = m) (hsize : g.locals.size = c.maxLocals) {argsL rest : List Value} (hlen : ∀ sig, parseMethodDescriptor y.desc = some sig → argsL.length = sig.parameters.length)
    (hstack : g.stack = argsL.reverse ++ rest) (hW : 2 * g.monitorRoom + (rest.map fun v => v.category).sum ≤ W9) (hdg : decode c.code g.pc = .ok (.invokestatic index, 3))
    (hpre : ∀ vm₁, s.WarmedH vm₁ → Pre ⟨T.setVm vm₁, locs, cells, slots⟩ argsL.toArray) :
    ∃ (v : Option Value) (vm₁ : Vm) (B : Pt), s.WarmedH vm₁ ∧ Stand p l e R s m args below meth c B.U B.locs B.cells B.slots ∧ Post ⟨T.setVm vm₁, locs, cells, slots⟩ argsL.toArray v B ∧
      ∀ target, Steps p.tables e below (B.U.setTop { g with pc := g.pc + 3, stack := v.toList ++ rest }) target → Steps p.tables e below (T.setTop g) target := by
  obtain ⟨mk, methM, cM, hnamed, hmethM, -, -, -, -, -, -, hsigM⟩ := Cond.codeWith_spec hcode
  have hstatic : methM.isStatic = true := Cond.static_spec hnamed hmethM hstat
  obtain ⟨kP, hkP, -⟩ := className_of_methodNamed hnamed
  have hinitP : kP.init = .initialized := Cond.initialized_spec (findClass_of_methodNamed hnamed) hkP hinit
  obtain ⟨vm₁, X₁, hstep₁⟩ := X.invokestatic hexec hown hlink hnamed hmethM hstatic hkP hinitP hy (g := g) hg (argsL := argsL) (rest := rest) (hlen _ hsigM) hstack hdg
  obtain ⟨v, B, X', hpost, hsteps⟩ := hK m meth c ⟨T.setVm vm₁, locs, cells, slots⟩ { g with stack := rest } (.invokestatic index) mk argsL.toArray X₁ hg hsize hdg hW (X₁.named hnamed) (hpre vm₁ X₁.warmed)
  exact ⟨v, vm₁, B, X₁.warmed, X', hpost, fun target h => hstep₁ _ fun acts => by rw [doInvoke_state]; exact hsteps.trans h⟩
theorem vx_runSW {y : MethodName} {bytes cc : ByteArray} {maxL nL mc ms n index : Nat} {ret : Option FieldType} {hh : List (Nat × Nat × Nat × Nat)} {ws : List Cond} {rm : Room} {Pc : Array Value → State → Prop} {Qc : Array Value → State → Outcome → State → Prop} {free : Addr → Prop} {Ts : List Cond} {own : String} {As rest : List Value} {g : JFrame}
    (S : CallFix p m c cc nL s args Ts own) (hM : Met l y ws rm Pc Qc mc ms free) (cw : vx_CSW R s args own index y bytes maxL ret hh ws rm mc ms n) (hp : PreS s H Pc As)
    (hg : g.method = m) (hn : As.length = n) (hsize : g.locals.size = nL) (hstack : g.stack = As.reverse ++ rest) (hW : 2 * g.monitorRoom + (rest.map fun v => v.category).sum ≤ 8) (hdg : decode cc g.pc = .ok (.invokestatic index, 3)) (hf : cells + mc ≤ R.cells ∧ slots + ms ≤ R.slots) :
    va_Run p l e R s m args below meth c H locs cells slots mc ms g rest (Qc As.toArray) (free) := by
  obtain ⟨⟨hrc, hrs, hfr, hlo, hws, hcw⟩, hcode, hini, hy, hlen, hl, hstt⟩ := cw
  have hK : Back l R p e below s args y 3 8 (PreOf R mc ms Pc) (PostOf Qc mc ms free) := va_backW (hh := hh) (bytes := bytes) (maxL := maxL) (ret := ret) hM hp.1 hrc hrs hfr hlo hws hcw (fun a' U hW => word_at hW (Or.inl (by first | rfl | simp [Cond.onTables, Cond.keeps, Cond.steady])) hini)
  obtain ⟨hx, hb, hml, ho, -⟩ := S
  intro T hT X
  obtain ⟨v, vm₁, ⟨U', l2, c2, s2⟩, hW₁, X', ⟨g', mk, t, L, e1, e2, hq, h1, hL, h2, h3⟩, st⟩ := vx_callSW X hx (hh := hh) (bytes := bytes) (maxL := maxL) (ret := ret) ho hl hstt hini hcode hy hK hg (hsize.trans hml.symm) (argsL := As) (rest := rest) (fun sig h => hn.trans (hlen sig h)) hstack hW (by rw [hb]; exact hdg)
    (fun vm₁ hW₁ => ⟨hf.1, hf.2, hp.2 (T.setVm vm₁) hT hW₁⟩)
  dsimp only [Pt.U, Pt.locs, Pt.cells, Pt.slots] at X' e1 e2 h1 h2 h3 st
  subst h1; subst h2; subst h3
  exact ⟨v, (T.setVm vm₁).calling g' mk As.toArray, t, U', L, hT, X', hL, e1, e2, hq, st⟩
/-- not caught here, past rows that name other classes: it goes on to the caller -/
theorem vx_outP {p : Program} {l : Launch} {e : Env} {R : Room} {s : State} {m : MethodId} {args : Array Value} {below : List Frame} {meth : Method} {c : Code} {H : Heap} {locs : List Loc} {cells slots : Nat} {free : Addr → Prop} {ls : Array Slot} {rest : List Value} {Qc : Array Value → State → Outcome → State → Prop} {XC : String → State → State → Prop}
    {pc : Nat} {own E : String} {ce : Cell} {q : Addr} {mc ms : Nat} (hown : s.vm.findClass own = some m.cls) (hlocks : meth.locks = false)
    (hpass : ∀ z ∈ c.exceptionTable.toList, covers z pc = false ∨ (z.catchType ≠ 0 ∧ ∃ nm : String, (Cond.classLink own z.catchType nm).before args s = true ∧ va_Nc E nm s)) (hcell : H[q]? = some ce) (hv : ce.vm = .none) (hcl : s.vm.findClass E = some ce.cls)
    (hx : ∀ t : State, t.heap = H → s.vm.Alike t.vm → XC E s t) (hf : ∀ z ∈ locs, free z.base) (hc : cells ≤ mc) (hs : slots ≤ ms) :
    vx_W p l e R s m args below meth c H locs cells slots (vx_MQ below Qc XC args s mc ms free) (F0 m pc ls rest) q := by
  intro T hT X
  have hpl : e.platform.magicAccessors = ({} : Platform).magicAccessors := by rw [X.admits.platform]
  obtain ⟨vm', hW', X', st⟩ := X.outThrough hlocks q (g := F0 m pc ls rest) rfl rfl rfl (cell := ce) (by rw [hT]; exact hcell) (by rw [hv]; rfl)
    (by obtain ⟨k9, h9, -⟩ := Vm.findClass_spec hcl; exact ⟨k9, h9⟩) (fun z hz => by
      rcases hpass z hz with h | ⟨hz0, nm, hl1, hn1⟩
      · exact Or.inl h
      · obtain ⟨c6, hc6, hcl6⟩ := Cond.classLink_spec hown hl1 e.platform hpl
        obtain ⟨a8, b8, h1, h2, h3⟩ := hn1
        cases Option.some.inj (h1.symm.trans hcl)
        cases Option.some.inj (h2.symm.trans hc6)
        exact Or.inr ⟨hz0, _, hcl6, h3⟩)
  obtain ⟨g₀, hfr⟩ := X'.frames_eq
  have hcell9 : ((T.setVm vm').setFrames (.throwing q :: below)).heap[q]? = some ce := by
    show T.heap[q]? = some ce
    rw [hT]; exact hcell
  have hend : Ended ((T.setVm vm').setFrames (.throwing q :: below)) below (.threw q) := State.frames_setFrames _ (State.cur_lt_of_frames hfr)
  refine ⟨(T.setVm vm').setFrames (.throwing q :: below), ?_, .threw q, X'.here.running, hend, Or.inr ⟨q, rfl, E, ce, locs, hx _ hT (X'.ends _).1.alike, hcell9, hv, hcl, (X'.ends _).1, (X'.ends _).2.mono hc hs, hf⟩⟩
  rw [X.pushThrowing_eq]
  exact st
/-- a thing of a world lies in the heap -/
theorem vx_lt {D : va_G} {cl : List vw_C} {ws : va_W} {H1 : Heap} (h : va_P D cl ws H1) {k : Nat} {q : Nat × va_E} (hk : ws[k]? = some q) : q.1 < H1.size := (h k q hk).lt
end VXS
/-! ===== END ===== -/
/-! ===== BEGIN methods with a table of their own: called by a name, returning or throwing ===== -/
section VXH
/-! vx_backW, vx_callVX, vx_callSX, vx_callVW, vx_runVW, vx_runVX, vx_runSX, vx_ofWH follow the same proofs as their sisters above (Free/Laws.lean, Shelf42/LK1.lean); vx_outP calls Shelf42/NT130.lean (outThrough). -/
section
variable {l : Launch} {R : Room} {p : Program} {e : Env} {below : List Frame} {s : State} {sargs : Array Value} {y : MethodName} {len W9 : Nat}
theorem vx_backW {ws : List Cond} {rm : Room} {Pc : Array Value → State → Prop} {Qc : Array Value → State → Outcome → State → Prop} {XC : String → State → State → Prop} {mc ms : Nat} {free : Addr → Prop} {bytes : ByteArray} {maxL : Nat} {ret : Option FieldType} {hh : List (Nat × Nat × Nat × Nat)}
    (hM : vx_Met l y ws rm Pc Qc XC mc ms free) (hblind : FrameBlind Pc) (hrc : rm.cells = mc) (hrs : rm.slots = ms)
    (hframes : rm.frames + 1 ≤ R.frames) (hlocals : W9 + (maxL + 11) + rm.locals ≤ R.locals)
    (hws : ∀ w ∈ ws, ∀ a' U, s.WarmedH U.vm → w.before a' U = true) (hcode : Cond.codeWith y bytes maxL ret hh ∈ ws) (hinit : ∀ a' U, s.WarmedH U.vm → (Cond.initialized y.cls).before a' U = true) :
    vx_Back l R p e below s sargs y len W9 (PreOf R mc ms Pc) (PostOf Qc mc ms free) (vx_Post XC mc ms free) := by
  intro m meth c A g ig mk a X hg hsize hdg hW hn hp
  have h1 : (headSpec ws rm).pre.before a A.U = true := atoms_intro fun w hw => hws w hw _ _ X.warmed
  have h2 : (Cond.codeWith y bytes maxL ret hh).before a A.U = true := hws _ hcode _ _ X.warmed
  have h3 : (Cond.initialized y.cls).before a A.U = true := hinit _ _ X.warmed
  have h4 : A.cells + (headSpec ws rm).room.cells ≤ R.cells := by rw [show (headSpec ws rm).room.cells = mc from hrc]; exact hp.1
  have h5 : A.slots + (headSpec ws rm).room.slots ≤ R.slots := by rw [show (headSpec ws rm).room.slots = ms from hrs]; exact hp.2.1
  have hPc : Pc a (A.U.calling g mk a) := hblind _ _ _ _ hp.2.2
  obtain ⟨U, Ls, c0, s0⟩ := A
  dsimp only [Pt.U, Pt.locs, Pt.cells, Pt.slots] at h1 h2 h3 h4 h5 X hn hPc ⊢
  obtain ⟨m9, methY, cY, hn9, hmY, hcY, -, hlY, -⟩ := Cond.codeWith_spec h2
  cases Option.some.inj (hn9.symm.trans hn)
  obtain ⟨kY, hkY, -⟩ := className_of_methodNamed hn
  have hinitY : kY.init = .initialized := Cond.initialized_spec (findClass_of_methodNamed hn) hkY h3
  have h : At U g.method c below := by rw [hg]; exact X.here
  have hlocals9 : W9 + (maxL + 11) + (headSpec ws rm).room.locals ≤ R.locals := hlocals
  have happ : (headSpec ws rm).appliesLoose y e.platform (U.calling g mk a) = true :=
    Spec.appliesLoose_calling (g := g) h hdg hn hkY hinitY
      (X.room_calling (g := g) (R' := (headSpec ws rm).room) hsize hmY hcY hframes (by rw [hlY]; omega) h4 h5) h1
  obtain ⟨mid, hmid⟩ := h.above
  have hfr : (U.setTop g).frames = (.java g :: mid) ++ below := by rw [State.frames_setTop' g h.top, hmid]; rfl
  obtain ⟨o, s₂, hsteps, -, hend, hq⟩ := Steps.callFree hM p X.admits X.cas X.clock (acts := []) hfr happ hPc trivial
  have hq' : vx_Q Qc XC mc ms free a (U.calling g mk a) o s₂ := hq
  rw [State.frames_setTop' g h.top] at hend
  obtain ⟨g₀, hg0⟩ := Option.isSome_iff_exists.mp h.top
  obtain ⟨r, hr⟩ := State.topJava?_eq_some.mp hg0
  have hr' : (({ U with heap := s₂.heap, slotsUsed := s₂.slotsUsed } : State).setVm s₂.vm).frames = .java g₀ :: r := hr
  rcases hq' with ⟨hqc, L, hfe, hL⟩ | ⟨q, rfl, E, ce, L, hx, hce, hcv, hcl, hW₂, hsm, hL⟩
  · obtain ⟨⟨v, rfl⟩, hW₂, e2, q2, q3, q4, q5, q6⟩ := id hfe
    have e3 : s₂ = ({ (U.calling g mk a).setFrames s₂.frames with heap := s₂.heap, slotsUsed := s₂.slotsUsed } : State).setVm s₂.vm := by
      have : s₂ = ({ s₂ with vm := (U.calling g mk a).vm } : State).setVm s₂.vm := rfl
      rw [e2] at this
      exact this
    obtain ⟨c₂, i₂, len₂, hc₂, hd₂, hf₂⟩ := hend
    have hW' : U.WarmedH s₂.vm := hW₂
    have hcc : c₂ = c := by
      have h1 : s₂.code? g.method = U.code? g.method := by
        rw [State.code?_eq, State.code?_eq, hW'.alike.method?]
      exact Option.some.inj (hc₂.symm.trans (h1.trans h.code))
    subst hcc
    have hlen : len₂ = len := by rw [hdg] at hd₂; cases hd₂; rfl
    subst hlen
    have hs₂ : s₂ = (({ U with heap := s₂.heap, slotsUsed := s₂.slotsUsed } : State).setVm s₂.vm).setTop { g with pc := g.pc + len₂, stack := v.toList ++ g.stack } := by
      refine e3.trans ?_
      rw [hf₂, State.calling_eq h.top, State.setFrames_setFrames, State.setTop_of_frames _ hr', hr]
      rfl
    have hsame : U.sameButNew ({ U with heap := s₂.heap, slotsUsed := s₂.slotsUsed } : State) L mc ms := by
      refine ⟨?_, q2, q3, q4, q5, q6⟩
      obtain ⟨t, ht, -⟩ := State.frames_cons hr
      show ({ U with heap := s₂.heap, slotsUsed := s₂.slotsUsed } : State) = { U.setFrames U.frames with heap := s₂.heap, slotsUsed := s₂.slotsUsed }
      rw [State.setFrames_self ht]
    subst hg
    refine Or.inl ⟨v, ⟨(({ U with heap := s₂.heap, slotsUsed := s₂.slotsUsed } : State).setVm s₂.vm), Ls ++ L, c0 + mc, s0 + ms⟩,
      ⟨X.admits, X.cas, X.clock, X.frames, X.room, X.hears, X.method, X.code, (X.here.setHeapUsed s₂.heap s₂.slotsUsed).setVm hW'.alike, X.tail, State.WarmedH.trans X.warmed hW', X.limits, X.bytes, X.same.trans (hsame.setVm s.vm)⟩,
      ⟨g, mk, s₂, L, rfl, rfl, hqc, rfl, hL, rfl, rfl⟩, ?_⟩
    show Steps p.tables e below _ ((({ U with heap := s₂.heap, slotsUsed := s₂.slotsUsed } : State).setVm s₂.vm).setTop { g with pc := g.pc + len₂, stack := v.toList ++ g.stack })
    rw [← hs₂]
    exact hsteps
  · obtain ⟨e2, q2, q3, q4, q5, q6⟩ := id hsm
    have e3 : s₂ = ({ (U.calling g mk a).setFrames s₂.frames with heap := s₂.heap, slotsUsed := s₂.slotsUsed } : State).setVm s₂.vm := by
      have : s₂ = ({ s₂ with vm := (U.calling g mk a).vm } : State).setVm s₂.vm := rfl
      rw [e2] at this
      exact this
    have hf₂ : s₂.frames = .throwing q :: .java g :: U.frames.tail := hend
    have hW' : U.WarmedH s₂.vm := hW₂
    have hs₂ : s₂ = ((({ U with heap := s₂.heap, slotsUsed := s₂.slotsUsed } : State).setVm s₂.vm).setTop g).pushFrame (.throwing q) := by
      refine e3.trans ?_
      rw [hf₂, State.calling_eq h.top, State.setFrames_setFrames, State.pushFrame, State.frames_setTop _ hr', State.setTop_of_frames _ hr', State.setFrames_setFrames, hr]
      rfl
    have hsame : U.sameButNew ({ U with heap := s₂.heap, slotsUsed := s₂.slotsUsed } : State) L mc ms := by
      refine ⟨?_, q2, q3, q4, q5, q6⟩
      obtain ⟨t, ht, -⟩ := State.frames_cons hr
      show ({ U with heap := s₂.heap, slotsUsed := s₂.slotsUsed } : State) = { U.setFrames U.frames with heap := s₂.heap, slotsUsed := s₂.slotsUsed }
      rw [State.setFrames_self ht]
    subst hg
    refine Or.inr ⟨q, ⟨(({ U with heap := s₂.heap, slotsUsed := s₂.slotsUsed } : State).setVm s₂.vm), Ls ++ L, c0 + mc, s0 + ms⟩,
      ⟨X.admits, X.cas, X.clock, X.frames, X.room, X.hears, X.method, X.code, (X.here.setHeapUsed s₂.heap s₂.slotsUsed).setVm hW'.alike, X.tail, State.WarmedH.trans X.warmed hW', X.limits, X.bytes, X.same.trans (hsame.setVm s.vm)⟩,
      ⟨g, mk, s₂, L, E, ce, rfl, rfl, hx, hce, hcv, hcl, rfl, hL, rfl, rfl⟩, ?_⟩
    show Steps p.tables e below _ (((({ U with heap := s₂.heap, slotsUsed := s₂.slotsUsed } : State).setVm s₂.vm).setTop g).pushFrame (.throwing q))
    rw [← hs₂]
    exact hsteps
end
variable {p : Program} {l : Launch} {e : Env} {R : Room} {s : State} {m : MethodId} {args : Array Value} {below : List Frame} {meth : Method} {c : Code} {T : State} {H : Heap} {locs : List Loc} {cells slots : Nat}
theorem vx_callVX (X : Stand p l e R s m args below meth c T locs cells slots) (hexec : p.tables.exec = Jvm.exec) {own C : String} {index : Nat} {y : MethodName} {bytes : ByteArray} {maxL : Nat} {ret : Option FieldType} {hh : List (Nat × Nat × Nat × Nat)}
    (hown : s.vm.findClass own = some m.cls) (hlink : (Cond.methodLink own index y).before args s = true) (hinst : (Cond.instanceMethod y).before args s = true) (hsel : (Cond.selects C y y).before args s = true)
    (hcode : (Cond.codeWith y bytes maxL ret hh).before args s = true) (hy : y.cls ≠ "java/lang/invoke/MethodHandle" ∧ y.cls ≠ "java/lang/invoke/VarHandle")
    {W9 : Nat} {Pre : Pt → Array Value → Prop} {Post : Pt → Array Value → Option Value → Pt → Prop} {PostX : Pt → Array Value → Addr → Pt → Prop} (hK : vx_Back l R p e below s args y 3 W9 Pre Post PostX)
    {b : Addr} {cellB : Cell} (hcell : T.heap[b]? = some cellB) (hobj : cellB.vm.isStatics = false) (hcls : s.vm.findClass C = some cellB.cls)
    {g : JFrame} (hg : g.method = m) (hsize : g.locals.size = c.maxLocals) {argsL rest : List Value} (hlen : ∀ sig, parseMethodDescriptor y.desc = some sig → argsL.length = sig.parameters.length)
    (hstack : g.stack = argsL.reverse ++ .ref b :: rest) (hW : 2 * g.monitorRoom + (rest.map fun v => v.category).sum ≤ W9) (hdg : decode c.code g.pc = .ok (.invokevirtual index, 3))
    (hpre : ∀ vm₁, s.WarmedH vm₁ → Pre ⟨T.setVm vm₁, locs, cells, slots⟩ (Value.ref b :: argsL).toArray) :
    (∃ (v : Option Value) (vm₁ : Vm) (B : Pt), s.WarmedH vm₁ ∧ Stand p l e R s m args below meth c B.U B.locs B.cells B.slots ∧ Post ⟨T.setVm vm₁, locs, cells, slots⟩ (Value.ref b :: argsL).toArray v B ∧
      ∀ target, Steps p.tables e below (B.U.setTop { g with pc := g.pc + 3, stack := v.toList ++ rest }) target → Steps p.tables e below (T.setTop g) target) ∨
    (∃ (q : Addr) (vm₁ : Vm) (B : Pt), s.WarmedH vm₁ ∧ Stand p l e R s m args below meth c B.U B.locs B.cells B.slots ∧ PostX ⟨T.setVm vm₁, locs, cells, slots⟩ (Value.ref b :: argsL).toArray q B ∧
      Steps p.tables e below (T.setTop g) ((B.U.setTop { g with stack := rest }).pushFrame (.throwing q))) := by
  obtain ⟨mk, methM, hnamed, hmethM, hstM, habM⟩ := Cond.instanceMethod_spec hinst
  obtain ⟨m8, methM', cM, hn8, hmethM', -, -, -, -, -, -, hsigM⟩ := Cond.codeWith_spec hcode
  cases Option.some.inj (hn8.symm.trans hnamed)
  cases hmethM.symm.trans hmethM'
  obtain ⟨c2, r2, m2, q1, q2, q3, q4, kP, hkP, hkPi⟩ := Cond.selects_spec hsel
  cases hcls.symm.trans q1
  cases (State.methodFound?_of_named hnamed hy).symm.trans q2
  cases hnamed.symm.trans q3
  have hselP : selectMethod e.platform s.vm cellB.cls mk = .method mk := by rw [Launch.admits_selectMethod X.admits]; exact q4
  obtain ⟨vm₁, X₁, hstep₁⟩ := X.invokevirtual hexec hown hlink hnamed hmethM hstM hkP hkPi hy (a := b) (cell := cellB) hcell
    (fun z h => by rw [h] at hobj; cases hobj) hselP hmethM habM hkP hkPi (g := g) hg (argsL := argsL) (rest := rest) (hlen _ hsigM) hstack hdg
  rcases hK m meth c ⟨T.setVm vm₁, locs, cells, slots⟩ { g with stack := rest } (.invokevirtual index) mk (Value.ref b :: argsL).toArray X₁ hg hsize hdg hW (X₁.named hnamed) (hpre vm₁ X₁.warmed) with ⟨v, B, X', hpost, hsteps⟩ | ⟨q, B, X', hpost, hsteps⟩
  · exact Or.inl ⟨v, vm₁, B, X₁.warmed, X', hpost, fun target h => hstep₁ _ fun acts => by rw [doInvoke_state]; exact hsteps.trans h⟩
  · exact Or.inr ⟨q, vm₁, B, X₁.warmed, X', hpost, hstep₁ _ fun acts => by rw [doInvoke_state]; exact hsteps⟩
theorem vx_callSX (X : Stand p l e R s m args below meth c T locs cells slots) (hexec : p.tables.exec = Jvm.exec) {own : String} {index : Nat} {y : MethodName} {bytes : ByteArray} {maxL : Nat} {ret : Option FieldType} {hh : List (Nat × Nat × Nat × Nat)}
    (hown : s.vm.findClass own = some m.cls) (hlink : (Cond.methodLink own index y).before args s = true) (hstat : (Cond.static y).before args s = true) (hinit : (Cond.initialized y.cls).before args s = true)
    (hcode : (Cond.codeWith y bytes maxL ret hh).before args s = true) (hy : y.cls ≠ "java/lang/invoke/MethodHandle" ∧ y.cls ≠ "java/lang/invoke/VarHandle")
    {W9 : Nat} {Pre : Pt → Array Value → Prop} {Post : Pt → Array Value → Option Value → Pt → Prop} {PostX : Pt → Array Value → Addr → Pt → Prop} (hK : vx_Back l R p e below s args y 3 W9 Pre Post PostX)
    {g : JFrame} (hg : g.method = m) (hsize : g.locals.size = c.maxLocals) {argsL rest : List Value} (hlen : ∀ sig, parseMethodDescriptor y.desc = some sig → argsL.length = sig.parameters.length)
    (hstack : g.stack = argsL.reverse ++ rest) (hW : 2 * g.monitorRoom + (rest.map fun v => v.category).sum ≤ W9) (hdg : decode c.code g.pc = .ok (.invokestatic index, 3))
    (hpre : ∀ vm₁, s.WarmedH vm₁ → Pre ⟨T.setVm vm₁, locs, cells, slots⟩ argsL.toArray) :
    (∃ (v : Option Value) (vm₁ : Vm) (B : Pt), s.WarmedH vm₁ ∧ Stand p l e R s m args below meth c B.U B.locs B.cells B.slots ∧ Post ⟨T.setVm vm₁, locs, cells, slots⟩ argsL.toArray v B ∧
      ∀ target, Steps p.tables e below (B.U.setTop { g with pc := g.pc + 3, stack := v.toList ++ rest }) target → Steps p.tables e below (T.setTop g) target) ∨
    (∃ (q : Addr) (vm₁ : Vm) (B : Pt), s.WarmedH vm₁ ∧ Stand p l e R s m args below meth c B.U B.locs B.cells B.slots ∧ PostX ⟨T.setVm vm₁, locs, cells, slots⟩ argsL.toArray q B ∧
      Steps p.tables e below (T.setTop g) ((B.U.setTop { g with stack := rest }).pushFrame (.throwing q))) := by
  obtain ⟨mk, methM, cM, hnamed, hmethM, -, -, -, -, -, -, hsigM⟩ := Cond.codeWith_spec hcode
  have hstatic : methM.isStatic = true := Cond.static_spec hnamed hmethM hstat
  obtain ⟨kP, hkP, -⟩ := className_of_methodNamed hnamed
  have hinitP : kP.init = .initialized := Cond.initialized_spec (findClass_of_methodNamed hnamed) hkP hinit
  obtain ⟨vm₁, X₁, hstep₁⟩ := X.invokestatic hexec hown hlink hnamed hmethM hstatic hkP hinitP hy (g := g) hg (argsL := argsL) (rest := rest) (hlen _ hsigM) hstack hdg
  rcases hK m meth c ⟨T.setVm vm₁, locs, cells, slots⟩ { g with stack := rest } (.invokestatic index) mk argsL.toArray X₁ hg hsize hdg hW (X₁.named hnamed) (hpre vm₁ X₁.warmed) with ⟨v, B, X', hpost, hsteps⟩ | ⟨q, B, X', hpost, hsteps⟩
  · exact Or.inl ⟨v, vm₁, B, X₁.warmed, X', hpost, fun target h => hstep₁ _ fun acts => by rw [doInvoke_state]; exact hsteps.trans h⟩
  · exact Or.inr ⟨q, vm₁, B, X₁.warmed, X', hpost, hstep₁ _ fun acts => by rw [doInvoke_state]; exact hsteps⟩
theorem vx_callVW (X : Stand p l e R s m args below meth c T locs cells slots) (hexec : p.tables.exec = Jvm.exec) {own C : String} {index : Nat} {y : MethodName} {bytes : ByteArray} {maxL : Nat} {ret : Option FieldType} {hh : List (Nat × Nat × Nat × Nat)}
    (hown : s.vm.findClass own = some m.cls) (hlink : (Cond.methodLink own index y).before args s = true) (hinst : (Cond.instanceMethod y).before args s = true) (hsel : (Cond.selects C y y).before args s = true)
    (hcode : (Cond.codeWith y bytes maxL ret hh).before args s = true) (hy : y.cls ≠ "java/lang/invoke/MethodHandle" ∧ y.cls ≠ "java/lang/invoke/VarHandle")
    {W9 : Nat} {Pre : Pt → Array Value → Prop} {Post : Pt → Array Value → Option Value → Pt → Prop} (hK : Back l R p e below s args y 3 W9 Pre Post)
    {b : Addr} {cellB : Cell} (hcell : T.heap[b]? = some cellB) (hobj : cellB.vm.isStatics = false) (hcls : s.vm.findClass C = some cellB.cls)
    {g : JFrame} (hg : g.method = m) (hsize : g.locals.size = c.maxLocals) {argsL rest : List Value} (hlen : ∀ sig, parseMethodDescriptor y.desc = some sig → argsL.length = sig.parameters.length)
    (hstack : g.stack = argsL.reverse ++ .ref b :: rest) (hW : 2 * g.monitorRoom + (rest.map fun v => v.category).sum ≤ W9) (hdg : decode c.code g.pc = .ok (.invokevirtual index, 3))
    (hpre : ∀ vm₁, s.WarmedH vm₁ → Pre ⟨T.setVm vm₁, locs, cells, slots⟩ (Value.ref b :: argsL).toArray) :
    ∃ (v : Option Value) (vm₁ : Vm) (B : Pt), s.WarmedH vm₁ ∧ Stand p l e R s m args below meth c B.U B.locs B.cells B.slots ∧ Post ⟨T.setVm vm₁, locs, cells, slots⟩ (Value.ref b :: argsL).toArray v B ∧
      ∀ target, Steps p.tables e below (B.U.setTop { g with pc := g.pc + 3, stack := v.toList ++ rest }) target → Steps p.tables e below (T.setTop g) target := by
  obtain ⟨mk, methM, hnamed, hmethM, hstM, habM⟩ := Cond.instanceMethod_spec hinst
  obtain ⟨m8, methM', cM, hn8, hmethM', -, -, -, -, -, -, hsigM⟩ := Cond.codeWith_spec hcode
  cases Option.some.inj (hn8.symm.trans hnamed)
  cases hmethM.symm.trans hmethM'
  obtain ⟨c2, r2, m2, q1, q2, q3, q4, kP, hkP, hkPi⟩ := Cond.selects_spec hsel
  cases hcls.symm.trans q1
  cases (State.methodFound?_of_named hnamed hy).symm.trans q2
  cases hnamed.symm.trans q3
  have hselP : selectMethod e.platform s.vm cellB.cls mk = .method mk := by rw [Launch.admits_selectMethod X.admits]; exact q4
  obtain ⟨vm₁, X₁, hstep₁⟩ := X.invokevirtual hexec hown hlink hnamed hmethM hstM hkP hkPi hy (a := b) (cell := cellB) hcell
    (fun z h => by rw [h] at hobj; cases hobj) hselP hmethM habM hkP hkPi (g := g) hg (argsL := argsL) (rest := rest) (hlen _ hsigM) hstack hdg
  obtain ⟨v, B, X', hpost, hsteps⟩ := hK m meth c ⟨T.setVm vm₁, locs, cells, slots⟩ { g with stack := rest } (.invokevirtual index) mk (Value.ref b :: argsL).toArray X₁ hg hsize hdg hW (X₁.named hnamed) (hpre vm₁ X₁.warmed)
  exact ⟨v, vm₁, B, X₁.warmed, X', hpost, fun target h => hstep₁ _ fun acts => by rw [doInvoke_state]; exact hsteps.trans h⟩
abbrev vx_CVW (R : Room) (s : State) (args : Array Value) (own C : String) (index : Nat) (y : MethodName) (bytes : ByteArray) (maxL : Nat) (ret : Option FieldType) (hh : List (Nat × Nat × Nat × Nat)) (ws : List Cond) (rm : Room) (mc ms n : Nat) : Prop :=
  (rm.cells = mc ∧ rm.slots = ms ∧ rm.frames + 1 ≤ R.frames ∧ 8 + (maxL + 11) + rm.locals ≤ R.locals ∧ (∀ w ∈ ws, ∀ (a' : Array Value) (U : State), s.WarmedH U.vm → w.before a' U = true) ∧ Cond.codeWith y bytes maxL ret hh ∈ ws) ∧
  (Cond.codeWith y bytes maxL ret hh).before args s = true ∧ (Cond.initialized y.cls).before args s = true ∧ (y.cls ≠ "java/lang/invoke/MethodHandle" ∧ y.cls ≠ "java/lang/invoke/VarHandle") ∧
  (∀ sig, parseMethodDescriptor y.desc = some sig → n = sig.parameters.length) ∧ (Cond.methodLink own index y).before args s = true ∧ (Cond.instanceMethod y).before args s = true ∧ (Cond.selects C y y).before args s = true
theorem vx_cwVW {own C : String} {index maxL mc ms : Nat} {y : MethodName} {bytes : ByteArray} {ret : Option FieldType} {hh : List (Nat × Nat × Nat × Nat)} {Ts ws ws' : List Cond} {rm : Room} (n : Nat) (ht : ∀ w ∈ Ts, w.before args s = true) (hT : GoodIn Ts (wsV own index C y ws)) (hw : ws = Cond.codeWith y bytes maxL ret hh :: ws') (hrc : rm.cells = mc) (hrs : rm.slots = ms)
    (hd : y.cls = C ∧ y.cls ≠ "java/lang/invoke/MethodHandle" ∧ y.cls ≠ "java/lang/invoke/VarHandle" ∧ (parseMethodDescriptor y.desc).map (fun d => d.parameters.length) = some n) (hR : rm.frames + 1 ≤ R.frames ∧ 8 + (maxL + 11) + rm.locals ≤ R.locals) :
    vx_CVW R s args own C index y bytes maxL ret hh ws rm mc ms n := by
  obtain ⟨hC, hd⟩ := hd
  subst hC
  have ok : ∀ w ∈ wsV own index y.cls y ws, w.before args s = true := fun w h => ht w (hT w h).1
  have hG : GoodIn Ts ws := fun w h => hT w (by unfold wsV; exact List.mem_append_right _ h)
  have hc : Cond.codeWith y bytes maxL ret hh ∈ ws := by rw [hw]; exact List.mem_cons_self
  refine ⟨⟨hrc, hrs, hR.1, hR.2, pay_in ht hG, hc⟩, ht _ (hG _ hc).1, ok _ (by simp [wsV]), ⟨hd.1, hd.2.1⟩, fun sig h => ?_, ok _ (by simp [wsV]), ok _ (by simp [wsV]), ok _ (by simp [wsV])⟩
  have h2 := hd.2.2
  rw [h] at h2
  exact (Option.some.inj h2).symm
theorem vx_runVW {y : MethodName} {bytes cc : ByteArray} {maxL nL mc ms n index : Nat} {ret : Option FieldType} {hh : List (Nat × Nat × Nat × Nat)} {ws : List Cond} {rm : Room} {Pc : Array Value → State → Prop} {Qc : Array Value → State → Outcome → State → Prop} {free : Addr → Prop} {Ts : List Cond} {own C : String} {b : Addr} {As rest : List Value} {g : JFrame}
    (S : CallFix p m c cc nL s args Ts own) (hM : Met l y ws rm Pc Qc mc ms free) (cw : vx_CVW R s args own C index y bytes maxL ret hh ws rm mc ms n) (hp : PreV s H C b Pc As)
    (hg : g.method = m) (hn : As.length = n) (hsize : g.locals.size = nL) (hstack : g.stack = As.reverse ++ .ref b :: rest) (hW : 2 * g.monitorRoom + (rest.map fun v => v.category).sum ≤ 8) (hdg : decode cc g.pc = .ok (.invokevirtual index, 3)) (hf : cells + mc ≤ R.cells ∧ slots + ms ≤ R.slots) :
    va_Run p l e R s m args below meth c H locs cells slots mc ms g rest (Qc (Value.ref b :: As).toArray) free := by
  obtain ⟨⟨hrc, hrs, hfr, hlo, hws, hcw⟩, hcode, hini, hy, hlen, hl, hin, hse⟩ := cw
  have hK : Back l R p e below s args y 3 8 (PreOf R mc ms Pc) (PostOf Qc mc ms free) := va_backW (hh := hh) (bytes := bytes) (maxL := maxL) (ret := ret) hM hp.1 hrc hrs hfr hlo hws hcw (fun a' U hW => word_at hW (Or.inl (by first | rfl | simp [Cond.onTables, Cond.keeps, Cond.steady])) hini)
  obtain ⟨hx, hb, hml, ho, -⟩ := S
  obtain ⟨-, ⟨cellB, hcB, hoB, hclB⟩, hPc⟩ := hp
  intro T hT X
  obtain ⟨v, vm₁, ⟨U', l2, c2, s2⟩, hW₁, X', ⟨g', mk, t, L, e1, e2, hq, h1, hL, h2, h3⟩, st⟩ := vx_callVW X hx (C := C) (hh := hh) (bytes := bytes) (maxL := maxL) (ret := ret) ho hl hin hse hcode hy hK (by rw [hT]; exact hcB) hoB hclB hg (hsize.trans hml.symm) (argsL := As) (rest := rest) (fun sig h => hn.trans (hlen sig h)) hstack hW (by rw [hb]; exact hdg)
    (fun vm₁ hW₁ => ⟨hf.1, hf.2, hPc (T.setVm vm₁) hT hW₁⟩)
  dsimp only [Pt.U, Pt.locs, Pt.cells, Pt.slots] at X' e1 e2 h1 h2 h3 st
  subst h1; subst h2; subst h3
  exact ⟨v, (T.setVm vm₁).calling g' mk (Value.ref b :: As).toArray, t, U', L, hT, X', hL, e1, e2, hq, st⟩
section
variable {y : MethodName} {bytes cc : ByteArray} {maxL nL mc ms n index : Nat} {ret : Option FieldType} {ws : List Cond} {rm : Room} {Pc : Array Value → State → Prop} {Qc : Array Value → State → Outcome → State → Prop} {XC : String → State → State → Prop} {free : Addr → Prop} {Ts : List Cond} {own C : String} {b : Addr} {As rest : List Value} {g : JFrame}
theorem vx_runVX {hh : List (Nat × Nat × Nat × Nat)} (S : CallFix p m c cc nL s args Ts own) (hM : vx_Met l y ws rm Pc Qc XC mc ms free) (cw : vx_CVW R s args own C index y bytes maxL ret hh ws rm mc ms n) (hp : PreV s H C b Pc As)
    (hg : g.method = m) (hn : As.length = n) (hsize : g.locals.size = nL) (hstack : g.stack = As.reverse ++ .ref b :: rest) (hW : 2 * g.monitorRoom + (rest.map fun v => v.category).sum ≤ 8) (hdg : decode cc g.pc = .ok (.invokevirtual index, 3)) (hf : cells + mc ≤ R.cells ∧ slots + ms ≤ R.slots) :
    vx_Run p l e R s m args below meth c H locs cells slots mc ms g rest (Qc (Value.ref b :: As).toArray) XC free := by
  obtain ⟨⟨hrc, hrs, hfr, hlo, hws, hcw⟩, hcode, hini, hy, hlen, hl, hin, hse⟩ := cw
  have hK : vx_Back l R p e below s args y 3 8 (PreOf R mc ms Pc) (PostOf Qc mc ms free) (vx_Post XC mc ms free) := vx_backW (hh := hh) (bytes := bytes) (maxL := maxL) (ret := ret) hM hp.1 hrc hrs hfr hlo hws hcw (fun a' U hW => word_at hW (Or.inl (by first | rfl | simp [Cond.onTables, Cond.keeps, Cond.steady])) hini)
  obtain ⟨hx, hb, hml, ho, -⟩ := S
  obtain ⟨-, ⟨cellB, hcB, hoB, hclB⟩, hPc⟩ := hp
  intro T hT X
  rcases vx_callVX X hx (C := C) (hh := hh) (bytes := bytes) (maxL := maxL) (ret := ret) ho hl hin hse hcode hy hK (by rw [hT]; exact hcB) hoB hclB hg (hsize.trans hml.symm) (argsL := As) (rest := rest) (fun sig h => hn.trans (hlen sig h)) hstack hW (by rw [hb]; exact hdg)
    (fun vm₁ hW₁ => ⟨hf.1, hf.2, hPc (T.setVm vm₁) hT hW₁⟩) with ⟨v, vm₁, ⟨U', l2, c2, s2⟩, hW₁, X', ⟨g', mk, t, L, e1, e2, hq, h1, hL, h2, h3⟩, st⟩ | ⟨q, vm₁, ⟨U', l2, c2, s2⟩, hW₁, X', ⟨g', mk, t, L, E, ce, e1, e2, hq, hce, hcv, hcl, h1, hL, h2, h3⟩, st⟩
  · dsimp only [Pt.U, Pt.locs, Pt.cells, Pt.slots] at X' e1 e2 h1 h2 h3 st
    subst h1; subst h2; subst h3
    exact Or.inl ⟨v, (T.setVm vm₁).calling g' mk (Value.ref b :: As).toArray, t, U', L, hT, X', hL, e1, e2, hq, st⟩
  · dsimp only [Pt.U, Pt.locs, Pt.cells, Pt.slots] at X' e1 e2 h1 h2 h3 st hcl
    subst h1; subst h2; subst h3
    exact Or.inr ⟨q, (T.setVm vm₁).calling g' mk (Value.ref b :: As).toArray, t, U', L, E, ce, hT, X', hL, e1, e2, hq, hce, hcv, vx_cls hW₁ hcl, st⟩
theorem vx_runSX {hh : List (Nat × Nat × Nat × Nat)} (S : CallFix p m c cc nL s args Ts own) (hM : vx_Met l y ws rm Pc Qc XC mc ms free) (cw : vx_CSW R s args own index y bytes maxL ret hh ws rm mc ms n) (hp : PreS s H Pc As)
    (hg : g.method = m) (hn : As.length = n) (hsize : g.locals.size = nL) (hstack : g.stack = As.reverse ++ rest) (hW : 2 * g.monitorRoom + (rest.map fun v => v.category).sum ≤ 8) (hdg : decode cc g.pc = .ok (.invokestatic index, 3)) (hf : cells + mc ≤ R.cells ∧ slots + ms ≤ R.slots) :
    vx_Run p l e R s m args below meth c H locs cells slots mc ms g rest (Qc As.toArray) XC free := by
  obtain ⟨⟨hrc, hrs, hfr, hlo, hws, hcw⟩, hcode, hini, hy, hlen, hl, hstt⟩ := cw
  have hK : vx_Back l R p e below s args y 3 8 (PreOf R mc ms Pc) (PostOf Qc mc ms free) (vx_Post XC mc ms free) := vx_backW (hh := hh) (bytes := bytes) (maxL := maxL) (ret := ret) hM hp.1 hrc hrs hfr hlo hws hcw (fun a' U hW => word_at hW (Or.inl (by first | rfl | simp [Cond.onTables, Cond.keeps, Cond.steady])) hini)
  obtain ⟨hx, hb, hml, ho, -⟩ := S
  intro T hT X
  rcases vx_callSX X hx (hh := hh) (bytes := bytes) (maxL := maxL) (ret := ret) ho hl hstt hini hcode hy hK hg (hsize.trans hml.symm) (argsL := As) (rest := rest) (fun sig h => hn.trans (hlen sig h)) hstack hW (by rw [hb]; exact hdg)
    (fun vm₁ hW₁ => ⟨hf.1, hf.2, hp.2 (T.setVm vm₁) hT hW₁⟩) with ⟨v, vm₁, ⟨U', l2, c2, s2⟩, hW₁, X', ⟨g', mk, t, L, e1, e2, hq, h1, hL, h2, h3⟩, st⟩ | ⟨q, vm₁, ⟨U', l2, c2, s2⟩, hW₁, X', ⟨g', mk, t, L, E, ce, e1, e2, hq, hce, hcv, hcl, h1, hL, h2, h3⟩, st⟩
  · dsimp only [Pt.U, Pt.locs, Pt.cells, Pt.slots] at X' e1 e2 h1 h2 h3 st
    subst h1; subst h2; subst h3
    exact Or.inl ⟨v, (T.setVm vm₁).calling g' mk As.toArray, t, U', L, hT, X', hL, e1, e2, hq, st⟩
  · dsimp only [Pt.U, Pt.locs, Pt.cells, Pt.slots] at X' e1 e2 h1 h2 h3 st hcl
    subst h1; subst h2; subst h3
    exact Or.inr ⟨q, (T.setVm vm₁).calling g' mk As.toArray, t, U', L, E, ce, hT, X', hL, e1, e2, hq, hce, hcv, vx_cls hW₁ hcl, st⟩
end
end VXH
theorem vx_ofWH {l : Launch} {y : MethodName} {ws ws' : List Cond} {rm : Room} {Pc : Array Value → State → Prop} {Qc : Array Value → State → Outcome → State → Prop} {XC : String → State → State → Prop} {mc ms : Nat} {free : Addr → Prop} {cc : ByteArray} {maxL : Nat} {ret : Option FieldType} {hh : List (Nat × Nat × Nat × Nat)}
    (hy : plainName y.cls = true) (hw : ws = Cond.codeWith y cc maxL ret hh :: ws')
    (body : ∀ p e s m args below meth c s₁, BodyLoose p l y (headSpec ws rm) cc maxL ret e s m args below meth c s₁ → c.maxLocals = maxL → Pc args s →
      W p l e (headSpec ws rm).room s m args below meth c s.heap [] 0 0 (vx_MQ below Qc XC args s mc ms free) (entryFrame m args maxL)) : vx_Met l y ws rm Pc Qc XC mc ms free := by
  refine MetFree.of_bodyS (code := cc) (maxLocals := maxL) (ret := ret) hy ?_ ?_
  · intro args s m h hn
    obtain ⟨m9, meth, c, hn9, h1, h2, h3, h4, -, h5, h6, -⟩ := Cond.codeWith_spec (atoms_spec (ws := ws) h _ (by rw [hw]; exact List.mem_cons_self))
    cases hn.symm.trans hn9
    exact ⟨meth, c, h1, h2, h3, h4, h5, h6⟩
  · intro p e s m args below meth c s₁ B hml hP _
    have hh0 : s₁.heap = s.heap := by rw [B.state]; rfl
    obtain ⟨t, a1, o, b1, b2, b3⟩ := body p e s m args below meth c s₁ B hml hP s₁ hh0 (Stand.of_body B)
    exact ⟨t, o, a1, b1, b2, b3⟩
/-! ===== END ===== -/

/-! ===== BEGIN what the machine throws by itself, no traces kept ===== -/
section VXM
set_option maxHeartbeats 1000000 in
/-- the machine throws cls with the message text, no traces kept: from its note over the frame g to 'throwing' over the same frame (follows the proofs of Stand.vmThrowsMessage, Shelf/KitTracedVmS.lean, and Stand.throwsMessageColdBareV, StandMessageColdV.lean, without the step out of the frame) -/
theorem vx_vmAt {p : Program} {l : Launch} {e : Env} {R : Room} {s : State} {m₀ : MethodId} {args : Array Value} {below : List Frame} {meth : Method} {c : Code} {W : State} {locs : List Loc} {cells slots : Nat}
    (X : Stand p l e R s m₀ args below meth c W locs cells slots) (hexec : p.tables.exec = Jvm.exec) (htr : e.platform.stackTraces = false) {cls : String} {names : List String} {text : String}
    (hcls : Bundle.fit cls = true) (hnames : ∀ n ∈ names, Bundle.fit n = true) (hsoe : (cls == "java/lang/StackOverflowError") = false) (hoom : (cls == "java/lang/OutOfMemoryError") = false)
    (h : ∀ a ∈ Bundle.messageArmAtoms cls names, a.before args s = true)
    (hlocs : ∀ x ∈ locs, ∀ cell, s.heap[x.base]? = some cell → cell.vm.isStatics = false)
    (htext : (text == notModelled) = false) (hlimit : ¬ (stringBytes (stringToUtf16 text)).size > e.platform.arrayLengthLimit) (hheap : ¬ (stringBytes (stringToUtf16 text)).size * componentBytes .byte > e.platform.maxHeapBytes)
    {g : JFrame} (hg : g.method = m₀) (hsize : g.locals.size = c.maxLocals)
    (hRframes : names.length + 4 < R.frames) (hRlocals : 2 * g.monitorRoom + (g.stack.map fun v => v.category).sum + 10240 ≤ R.locals) (hshort : 13 * names.length + 55 ≤ 10240)
    (hRcells : cells + 3 ≤ R.cells) (hRslots : slots + ((stringBytes (stringToUtf16 text)).size + 4 + 6) ≤ R.slots) (hlocks : meth.locks = false) :
    ∃ (S : State) (q : Addr) (ce : Cell), (∀ target, Steps p.tables e below ((S.setTop g).pushFrame (.throwing q)) target → Steps p.tables e below ((W.setTop g).pushFrame (.throwNew cls (some text) none)) target) ∧
      Stand p l e R s m₀ args below meth c S locs (cells + 3) (slots + ((stringBytes (stringToUtf16 text)).size + 4 + 6)) ∧ S.heap[q]? = some ce ∧ s.vm.findClass cls = some ce.cls ∧ ce.vm = .none := by
  have howns : e.platform.frameOwnsMonitors = true := by rw [X.admits.platform]
  have hfin : e.platform.finalization = false := by rw [X.admits.platform]
  have hpl : e.platform.magicAccessors = ({} : Platform).magicAccessors := by rw [X.admits.platform]
  have a : ∀ x, x ∈ Bundle.messageArmAtoms cls names → x.holds args s none s [] = true := fun x hx => h x hx
  obtain ⟨T, Z0, L, -, Y⟩ := ThrowableC.of_atoms (args := args) howns hfin hpl (fun x hx => h x (by simp [Bundle.messageArmAtoms, hx]))
  obtain ⟨Z, M, LZ, LM, hnZ⟩ := Init0T.ofS_atoms (args := args) hpl L Y (fun x hx => h x (by simp [Bundle.messageArmAtoms, hx]))
  obtain ⟨P1, Ps, hlen, L1, hL, hP1m, hlink1, hlink⟩ := Bundle.chainS (args := args) hpl hnZ names cls hcls hnames (fun x hx => h x (by simp [Bundle.messageArmAtoms, hx]))
  obtain ⟨Zs, LZs, hn4, hfitv, hfitc⟩ := StringT.of_atoms (args := args) (fun x hx => h x (by simp [Bundle.messageArmAtoms, hx]))
  have hfound : s.vm.findClass cls = some P1.m.cls := findClass_of_methodNamed hP1m
  obtain ⟨c1, kX, hc1, hk, hord, -, -, hn6⟩ := Cond.instantiable_spec (a (.instantiable cls 6) (by simp [Bundle.messageArmAtoms]))
  cases Option.some.inj (hc1.symm.trans hfound)
  have hinit := Cond.initialized_spec hfound hk (a (.initialized cls) (by simp [Bundle.messageArmAtoms]))
  have hctor : kX.findMethod "<init>" "(Ljava/lang/String;)V" = some P1.m.idx := findMethod_of_methodNamed hP1m hk
  have hsel0 : selectMethod e.platform s.vm P1.m.cls T.fill0 = .method T.fill0 := by
    obtain ⟨c2, r2, m2, q1, q2, q3, q4, -⟩ := Cond.selects_spec (a (.selects cls Bundle.tFill0 Bundle.tFill0) (by simp [Bundle.messageArmAtoms]))
    cases Option.some.inj (q1.symm.trans hfound)
    cases Option.some.inj (q2.symm.trans (State.methodFound?_of_named Y.fill0 (by decide)))
    cases Option.some.inj (q3.symm.trans Y.fill0)
    rw [Launch.admits_selectMethod X.admits]; exact q4
  have hselF : selectMethod e.platform s.vm P1.m.cls T.fill = .method T.fill := by
    obtain ⟨c2, r2, m2, q1, q2, q3, q4, -⟩ := Cond.selects_spec (a (.selects cls Bundle.tFill Bundle.tFill) (by simp [Bundle.messageArmAtoms]))
    cases Option.some.inj (q1.symm.trans hfound)
    cases Option.some.inj (q2.symm.trans (State.methodFound?_of_named Y.fill (by decide)))
    cases Option.some.inj (q3.symm.trans Y.fill)
    rw [Launch.admits_selectMethod X.admits]; exact q4
  obtain ⟨cellS0, hcS0, hiss⟩ := Y.statics
  obtain ⟨u0, hu0⟩ := Cond.staticRefV Y.unassigned L.unassignedStatic L.statics hcS0 hiss (a (.isRef (.static Bundle.tN "UNASSIGNED_STACK" Bundle.steD)) (by simp [Bundle.messageArmAtoms]))
  obtain ⟨sen, hsen⟩ := Cond.staticRefV Y.sentinel L.sentinelStatic L.statics hcS0 hiss (a (.isRef (.static Bundle.tN "SUPPRESSED_SENTINEL" Bundle.listD)) (by simp [Bundle.messageArmAtoms]))
  obtain ⟨ci198, i198, fB, hk198, hg198, ha198, hsB, -, hnB, htB, hffB⟩ := Cond.ownField (t := .object "java/lang/Object") Y.found L.cls (by decide +kernel) (a (.fieldLink Bundle.tN 198 Bundle.tN "backtrace" "Ljava/lang/Object;") (by simp [Bundle.messageArmAtoms])) (a (.lays Bundle.tN Bundle.tN "backtrace" "Ljava/lang/Object;") (by simp [Bundle.messageArmAtoms])) e.platform hpl
  obtain ⟨cellS, hcS', heS, -, hkeep⟩ := X.same.2.2.2.2.2 T.aS cellS0 hcS0
  have hcellS : W.heap[T.aS]? = some cellS := hcS'
  have hout' : ∀ i, (⟨T.aS, i⟩ : Loc) ∉ locs := fun i hmem => by
    have := hlocs _ hmem cellS0 hcS0
    rw [hiss] at this; cases this
  have hknownS : cellS.vm ≠ .unknown := by
    rw [heS]; intro hu
    rw [show cellS0.vm = .unknown from hu] at hiss
    cases hiss
  have hvU : cellS.slots[T.fUnassigned.slot]? = some u0.v := by rw [hkeep _ (hout' _)]; exact hu0
  have hvSen : cellS.slots[T.fSentinel.slot]? = some sen.v := by rw [hkeep _ (hout' _)]; exact hsen
  obtain ⟨iM, hffM⟩ := Y.msg
  obtain ⟨tyC, dC, hdC, hdnC⟩ := Cond.laysAt hfound hk Y.cause (a (.lays cls Bundle.tN "cause" "Ljava/lang/Throwable;") (by simp [Bundle.messageArmAtoms]))
  obtain ⟨tyS, dS, hdS, hdnS⟩ := Cond.laysAt hfound hk Y.stack (a (.lays cls Bundle.tN "stackTrace" Bundle.steD) (by simp [Bundle.messageArmAtoms]))
  obtain ⟨tyP, dP, hdP, hdnP⟩ := Cond.laysAt hfound hk Y.supp (a (.lays cls Bundle.tN "suppressedExceptions" Bundle.listD) (by simp [Bundle.messageArmAtoms]))
  obtain ⟨tyM, dM, hdM, hdnM⟩ := Cond.laysAt hfound hk hffM (a (.lays cls Bundle.tN "detailMessage" "Ljava/lang/String;") (by simp [Bundle.messageArmAtoms]))
  obtain ⟨tyB, dB, hdB, hdnB⟩ := Cond.laysAt hfound hk hffB (a (.lays cls Bundle.tN "backtrace" "Ljava/lang/Object;") (by simp [Bundle.messageArmAtoms]))
  have bC := Cond.laysApart hdB hdC hdnB hdnC (by rw [hnB, Y.causeName]; decide)
  have bS := Cond.laysApart hdB hdS hdnB hdnS (by rw [hnB, Y.stackName]; decide)
  have bP := Cond.laysApart hdB hdP hdnB hdnP (by rw [hnB, Y.suppName]; decide)
  have hbk : ((preparedCellV T.toThrowableT (freshCell P1.m.cls kX) (W.heap.size + 2) u0 sen).withEntry W.cur).slots[fB.slot]? = some .null := by
    have := fresh_default (c := P1.m.cls) tyB
    rw [htB] at this
    simpa [preparedCellV, Cell.setSlot, Cell.withEntry, Array.getElem?_setIfInBounds, bC, bS, bP, bC.symm, bS.symm, bP.symm, defaultValue] using this
  have tkC := Takes.of_laid (v := .ref (W.heap.size + 2)) hk hord tyC (by rw [Y.causeType]; rfl)
  have tkS := Takes.of_laid (v := u0.v) hk hord tyS (by rw [Y.stackType]; exact fits_refV_array _ u0)
  have tkP := Takes.of_laid (v := sen.v) hk hord tyP (by rw [Y.suppType]; exact fits_refV_object _ sen)
  have tkM := Takes.of_laid (v := .ref (W.heap.size + 1)) hk hord tyM (by rw [Y.msgType]; rfl)
  have hskip : SkipFacts T e.platform s (fun u => u) u0 ((preparedCellV T.toThrowableT (freshCell P1.m.cls kX) (W.heap.size + 2) u0 sen).withEntry W.cur) := ⟨{ ci198 := ci198, i198 := i198, fBack := fB }, ⟨hk198, hg198, ha198, hsB⟩, hbk, fun _ _ => rfl⟩
  have h0 : At W g.method c below := by rw [hg]; exact X.here
  obtain ⟨hbeyond, hfreeW⟩ := X.vmMayThrow hsize (.throwNew cls (some text) none) (fun f hf => by cases hf) rfl hRlocals
  have hfr' : W.frames.length + Ps.length + 4 < (e.platform.stackLimits W.me).1 := by have := X.framesAbove hRframes; omega
  have hwd' : (stackUse (.java g :: W.frames.tail)).2 + 13 * Ps.length + 55 ≤ (e.platform.stackLimits W.me).2 := by have := X.stackAbove hsize (K := 13 * Ps.length + 55) (by omega); omega
  have hslots : W.slotsUsed + (stringBytes (stringToUtf16 text)).size + Zs.kS.instanceTypes.size + kX.instanceTypes.size ≤ e.platform.maxSlots := by
    have := X.slotsAbove hRslots
    rw [hn4, hn6]
    omega
  obtain ⟨vm', hW', st⟩ := Steps.vmThrowsMessageColdByV p (s₀ := s) (S := W) (g := g) h0 hexec T L Z LZ M LM X.warmed (t := W.cur) rfl Zs LZs P1 L1 Ps hL hlink1 hlink hsoe hoom hfound hk hinit hord hctor
    (Launch.admits_hotImplicitExceptions X.admits) hbeyond hfreeW htext hlimit hheap (X.cellsAbove hRcells) hslots (hfitv _) (hfitc _)
    (Nn := fun u => u) heapOnly_id (fun _ _ => rfl) (fun _ => rfl) (fun u x y => setCell_twice _ _ _ _) (fun _ => Nat.le_refl _) (cN := ((preparedCellV T.toThrowableT (freshCell P1.m.cls kX) (W.heap.size + 2) u0 sen).withEntry W.cur))
    hsel0 hcellS hknownS hvU tkS (fun _ hu => hu) (fun _ hu => hu) rfl rfl rfl (by simp [preparedCellV, Cell.setSlot, Cell.withEntry]) hskip (fun _ _ hA hW _ hroom _ hrest => L.nativeOff p htr hA hW hroom hrest) hselF hvSen tkC tkP tkM Y.objLocals rfl hfr' hwd'
  rw [plainBareV_eq T.toThrowableT (W.heap.size + 2) u0 sen (.ref (W.heap.size + 1)) W.cur rfl rfl] at st
  obtain ⟨-, -, w3, w4, -, -, -⟩ := withThrown_facts e.platform W Zs text P1.m.cls kX
  have X3 := ((X.pushed (bytesOf Zs.cB (stringToUtf16 text))).pushed (stringAt Zs.cS Zs.kS Zs.fv Zs.fc (stringToUtf16 text) W.heap.size)).pushed (freshCell P1.m.cls kX)
  rw [← withString_eq] at X3
  have X4 := X3.noted hW'
  have ha : (W.heap.size + 2) < ((withThrown W Zs text P1.m.cls kX).setVm vm').heap.size := by show _ < (withThrown W Zs text P1.m.cls kX).heap.size; rw [w3]; omega
  have hcell : ((withThrown W Zs text P1.m.cls kX).setVm vm').heap[(W.heap.size + 2)]? = some (freshCell P1.m.cls kX) := w4
  have X5 := ((((X4.stored hcell T.fCause.slot (.ref (W.heap.size + 2))).storedAgain ha T.fStack.slot u0.v).storedAgain ha T.fSupp.slot sen.v).storedAgain ha T.fStack.slot u0.v).storedAgain ha T.fMsg.slot (.ref (W.heap.size + 1))
  obtain ⟨g₁, hfrM⟩ := X5.frames_eq
  have hU : ((((withThrown W Zs text P1.m.cls kX).setVm vm').setCell (W.heap.size + 2) (plainBareV T.toThrowableT (freshCell P1.m.cls kX) (W.heap.size + 2) u0 sen (.ref (W.heap.size + 1)))).setTop g).pushFrame (.throwing (W.heap.size + 2)) = (((withThrown W Zs text P1.m.cls kX).setVm vm').setCell (W.heap.size + 2) (plainBareV T.toThrowableT (freshCell P1.m.cls kX) (W.heap.size + 2) u0 sen (.ref (W.heap.size + 1)))).setFrames (.throwing (W.heap.size + 2) :: .java g :: below) := by
    rw [State.pushFrame, State.frames_setTop _ hfrM, State.setTop_of_frames _ hfrM, State.setFrames_setFrames]
  have b1 : (bytesOf Zs.cB (stringToUtf16 text)).slots.size = (stringBytes (stringToUtf16 text)).size := by
    rw [(Cell.writeAll_facts _ _).2.2]; simp [bytes0]
  have b2 : (stringAt Zs.cS Zs.kS Zs.fv Zs.fc (stringToUtf16 text) W.heap.size).slots.size = 4 := by simp [string0, Cell.setSlot, hn4]
  have b3 : (freshCell P1.m.cls kX).slots.size = 6 := by simp [hn6]
  rw [b1, b2, b3] at X5
  have e9 : slots + (stringBytes (stringToUtf16 text)).size + 4 + 6 = slots + ((stringBytes (stringToUtf16 text)).size + 4 + 6) := by omega
  rw [e9] at X5
  simp only [List.append_assoc, List.cons_append, List.nil_append] at X5
  refine ⟨((withThrown W Zs text P1.m.cls kX).setVm vm').setCell (W.heap.size + 2) (plainBareV T.toThrowableT (freshCell P1.m.cls kX) (W.heap.size + 2) u0 sen (.ref (W.heap.size + 1))), W.heap.size + 2, _, fun target ht => st _ (by rw [X.tail, ← hU]; exact ht),
    X5.forget (fun y hy => ?_), heapAt_setCell_self _ ha, hfound, rfl⟩
  simp only [List.mem_cons, List.not_mem_nil, or_false] at hy
  have hge : s.heap.size ≤ W.heap.size := X.same.2.1
  rcases hy with rfl | rfl | rfl | rfl | rfl <;> exact Nat.le_trans hge (Nat.le_add_right _ 2)
set_option maxHeartbeats 1000000 in
/-- the machine throws NullPointerException, no traces kept: from its note over the frame g to 'throwing' over the same frame (follows the proof of Stand.vmThrowsNpe, Shelf42/KT2.lean; throwsNpeColdBareVAt, Shelf42/NT91.lean, called) -/
theorem vx_npeAt {p : Program} {l : Launch} {e : Env} {R : Room} {s : State} {m₀ : MethodId} {args : Array Value} {below : List Frame} {meth : Method} {c : Code} {W : State} {locs : List Loc} {cells slots : Nat}
    (X : Stand p l e R s m₀ args below meth c W locs cells slots) (hexec : p.tables.exec = Jvm.exec) (htr : e.platform.stackTraces = false) {n : Nat}
    (h : ∀ a ∈ Bundle.npeArmAtoms n, a.before args s = true)
    (hlocs : ∀ x ∈ locs, ∀ cell, s.heap[x.base]? = some cell → cell.vm.isStatics = false)
    {g : JFrame} (hg : g.method = m₀) (hsize : g.locals.size = c.maxLocals)
    (hRframes : 7 < R.frames) (hRlocals : 2 * g.monitorRoom + (g.stack.map fun v => v.category).sum + 10240 ≤ R.locals)
    (hRcells : cells + 1 ≤ R.cells) (hRslots : slots + n ≤ R.slots) (hlocks : meth.locks = false) :
    ∃ (S : State) (q : Addr) (ce : Cell), (∀ target, Steps p.tables e below ((S.setTop g).pushFrame (.throwing q)) target → Steps p.tables e below ((W.setTop g).pushFrame (.throwNew "java/lang/NullPointerException" none none)) target) ∧
      Stand p l e R s m₀ args below meth c S locs (cells + 1) (slots + n) ∧ S.heap[q]? = some ce ∧ s.vm.findClass "java/lang/NullPointerException" = some ce.cls ∧ ce.vm = .none := by
  have howns : e.platform.frameOwnsMonitors = true := by rw [X.admits.platform]
  have hfin : e.platform.finalization = false := by rw [X.admits.platform]
  have hpl : e.platform.magicAccessors = ({} : Platform).magicAccessors := by rw [X.admits.platform]
  have hpl2 : e.platform.arrayCloneIsPublic = true := by rw [X.admits.platform]
  have a' : ∀ x, x ∈ Bundle.npeArmAtoms n → x.holds args s none s [] = true := fun x hx => h x hx
  obtain ⟨T, Z, L, LZ, Y⟩ := ThrowableC.of_atoms (args := args) howns hfin hpl (fun x hx => h x (by simp [Bundle.npeArmAtoms, hx]))
  obtain ⟨N, LN, hcN, hnNF, hordN, hffS⟩ := NpeC.of_atoms (args := args) hpl hpl2 L Y (fun x hx => h x (by simp [Bundle.npeArmAtoms, hx]))
  obtain ⟨P1, L1, hP1m, hP1s⟩ := PassC.of_atoms (args := args) (s := s) hpl (X := Bundle.nN) (Y := Bundle.rN) (by decide) (by decide) LibCode.NullPointerException.Init0.at_0 LibCode.NullPointerException.Init0.at_1 LibCode.NullPointerException.Init0.at_4 (fun x hx => h x (by simp [Bundle.npeArmAtoms, hx]))
  obtain ⟨PR, LR, hPRm, hPRs⟩ := PassC.of_atoms (args := args) (s := s) hpl (X := Bundle.rN) (Y := Bundle.eN) (by decide) (by decide) LibCode.RuntimeException.Init0.at_0 LibCode.RuntimeException.Init0.at_1 LibCode.RuntimeException.Init0.at_4 (fun x hx => h x (by simp [Bundle.npeArmAtoms, hx]))
  obtain ⟨PE, LEx, hPEm, hPEs⟩ := PassC.of_atoms (args := args) (s := s) hpl (X := Bundle.eN) (Y := Bundle.tN) (by decide) (by decide) LibCode.Exception.Init0.at_0 LibCode.Exception.Init0.at_1 LibCode.Exception.Init0.at_4 (fun x hx => h x (by simp [Bundle.npeArmAtoms, hx]))
  have hfound : s.vm.findClass Bundle.nN = some P1.m.cls := findClass_of_methodNamed hP1m
  have ecls : N.cN = P1.m.cls := Option.some.inj (hcN.symm.trans hfound)
  have hk : s.vm.classes[P1.m.cls]? = some N.kN := by rw [← ecls]; exact LN.cls
  have hinit := Cond.initialized_spec hfound hk (a' (.initialized Bundle.nN) (by simp [Bundle.npeArmAtoms]))
  have hctor : N.kN.findMethod "<init>" "()V" = some P1.m.idx := findMethod_of_methodNamed hP1m hk
  obtain ⟨c1, k1, hc1, hk1, -, -, -, hn⟩ := Cond.instantiable_spec (a' (.instantiable Bundle.nN n) (by simp [Bundle.npeArmAtoms]))
  cases Option.some.inj (hc1.symm.trans hfound)
  cases Option.some.inj (hk1.symm.trans hk)
  have hfsz : (freshCell P1.m.cls N.kN).slots.size = n := by simp [hn]
  have hlink1 : P1.sup = PR.m := Option.some.inj (hP1s.symm.trans hPRm)
  have hlinkR : PR.sup = PE.m := Option.some.inj (hPRs.symm.trans hPEm)
  have hlinkE : PE.sup = Z.m T.toThrowableT := Option.some.inj (hPEs.symm.trans Y.init0)
  have hLs : ∀ P, P ∈ [PR, PE] → P.Links0 e.platform s := fun P hP => by
    simp only [List.mem_cons, List.not_mem_nil, or_false] at hP
    rcases hP with rfl | rfl
    · exact LR
    · exact LEx
  have hsel0 : selectMethod e.platform s.vm P1.m.cls T.fill0 = .method T.fill0 := by
    obtain ⟨c2, r2, m2, q1, q2, q3, q4, -⟩ := Cond.selects_spec (a' (.selects Bundle.nN Bundle.tFill0 Bundle.tFill0) (by simp [Bundle.npeArmAtoms]))
    cases Option.some.inj (q1.symm.trans hfound)
    cases Option.some.inj (q2.symm.trans (State.methodFound?_of_named Y.fill0 (by decide)))
    cases Option.some.inj (q3.symm.trans Y.fill0)
    rw [Launch.admits_selectMethod X.admits]; exact q4
  have hselF : selectMethod e.platform s.vm P1.m.cls T.fill = .method N.fill := by
    obtain ⟨c2, r2, m2, q1, q2, q3, q4, -⟩ := Cond.selects_spec (a' (.selects Bundle.nN Bundle.tFill Bundle.nFill) (by simp [Bundle.npeArmAtoms]))
    cases Option.some.inj (q1.symm.trans hfound)
    cases Option.some.inj (q2.symm.trans (State.methodFound?_of_named Y.fill (by decide)))
    cases Option.some.inj (q3.symm.trans hnNF)
    rw [Launch.admits_selectMethod X.admits]; exact q4
  obtain ⟨cellS0, hcS0, hiss⟩ := Y.statics
  obtain ⟨u0, hu0⟩ := Cond.staticRefV Y.unassigned L.unassignedStatic L.statics hcS0 hiss (a' (.isRef (.static Bundle.tN "UNASSIGNED_STACK" Bundle.steD)) (by simp [Bundle.npeArmAtoms]))
  obtain ⟨sen, hsen⟩ := Cond.staticRefV Y.sentinel L.sentinelStatic L.statics hcS0 hiss (a' (.isRef (.static Bundle.tN "SUPPRESSED_SENTINEL" Bundle.listD)) (by simp [Bundle.npeArmAtoms]))
  obtain ⟨ci198, i198, fB, hk198, hg198, ha198, hsB, -, hnB, htB, hffB⟩ := Cond.ownField (t := .object "java/lang/Object") Y.found L.cls (by decide +kernel) (a' (.fieldLink Bundle.tN 198 Bundle.tN "backtrace" Bundle.objD) (by simp [Bundle.npeArmAtoms])) (a' (.lays Bundle.tN Bundle.tN "backtrace" Bundle.objD) (by simp [Bundle.npeArmAtoms])) e.platform hpl
  obtain ⟨cellS, hcS', heS, -, hkeep⟩ := X.same.2.2.2.2.2 T.aS cellS0 hcS0
  have hcellS : W.heap[T.aS]? = some cellS := hcS'
  have hout' : ∀ i, (⟨T.aS, i⟩ : Loc) ∉ locs := fun i hmem => by
    have := hlocs _ hmem cellS0 hcS0
    rw [hiss] at this; cases this
  have hknownS : cellS.vm ≠ .unknown := by
    rw [heS]; intro hu
    rw [show cellS0.vm = .unknown from hu] at hiss
    cases hiss
  have hvU : cellS.slots[T.fUnassigned.slot]? = some u0.v := by rw [hkeep _ (hout' _)]; exact hu0
  have hvSen : cellS.slots[T.fSentinel.slot]? = some sen.v := by rw [hkeep _ (hout' _)]; exact hsen
  obtain ⟨tyC, dC, hdC, hdnC⟩ := Cond.laysAt hfound hk Y.cause (a' (.lays Bundle.nN Bundle.tN "cause" "Ljava/lang/Throwable;") (by simp [Bundle.npeArmAtoms]))
  obtain ⟨tyS, dS, hdS, hdnS⟩ := Cond.laysAt hfound hk Y.stack (a' (.lays Bundle.nN Bundle.tN "stackTrace" Bundle.steD) (by simp [Bundle.npeArmAtoms]))
  obtain ⟨tyP, dP, hdP, hdnP⟩ := Cond.laysAt hfound hk Y.supp (a' (.lays Bundle.nN Bundle.tN "suppressedExceptions" Bundle.listD) (by simp [Bundle.npeArmAtoms]))
  obtain ⟨tyX, dX, hdX, hdnX⟩ := Cond.laysAt hfound hk hffS (a' (.lays Bundle.nN Bundle.nN "extendedMessageState" "I") (by simp [Bundle.npeArmAtoms, Bundle.npeAtoms]))
  obtain ⟨hnX, htX⟩ := State.fieldFound?_type hffS (t := .int) (by decide +kernel)
  have xC := Cond.laysApart hdC hdX hdnC hdnX (by rw [hnX, Y.causeName]; decide)
  have xS := Cond.laysApart hdS hdX hdnS hdnX (by rw [hnX, Y.stackName]; decide)
  have xP := Cond.laysApart hdP hdX hdnP hdnX (by rw [hnX, Y.suppName]; decide)
  have hv0 : (freshCell P1.m.cls N.kN).slots[N.fState.slot]? = some (.int 0) := by
    have := fresh_default (c := P1.m.cls) tyX
    rw [htX] at this; exact this
  obtain ⟨tyB, dB, hdB, hdnB⟩ := Cond.laysAt hfound hk hffB (a' (.lays Bundle.nN Bundle.tN "backtrace" Bundle.objD) (by simp [Bundle.npeArmAtoms]))
  have bC := Cond.laysApart hdB hdC hdnB hdnC (by rw [hnB, Y.causeName]; decide)
  have bS := Cond.laysApart hdB hdS hdnB hdnS (by rw [hnB, Y.stackName]; decide)
  have bP := Cond.laysApart hdB hdP hdnB hdnP (by rw [hnB, Y.suppName]; decide)
  have bX := Cond.laysApart hdB hdX hdnB hdnX (by rw [hnB, hnX]; decide)
  have hbk : ((npeCell N.toNpeT (preparedCellV T.toThrowableT (freshCell P1.m.cls N.kN) W.heap.size u0 sen) W.cur).withEntry W.cur).slots[fB.slot]? = some .null := by
    have := fresh_default (c := P1.m.cls) tyB
    rw [htB] at this
    simpa [npeCell, preparedCellV, Cell.setSlot, Cell.withEntry, Array.getElem?_setIfInBounds, bC, bS, bP, bX, bC.symm, bS.symm, bP.symm, bX.symm, defaultValue] using this
  have tkC := Takes.of_laid (v := .ref W.heap.size) hk hordN tyC (by rw [Y.causeType]; rfl)
  have tkS := Takes.of_laid (v := u0.v) hk hordN tyS (by rw [Y.stackType]; exact fits_refV_array _ u0)
  have tkP := Takes.of_laid (v := sen.v) hk hordN tyP (by rw [Y.suppType]; exact fits_refV_object _ sen)
  have tkX := Takes.of_laid (v := .int 1) hk hordN tyX (by rw [htX]; rfl)
  have hskip : SkipFacts T e.platform s (fun u => u) u0 ((npeCell N.toNpeT (preparedCellV T.toThrowableT (freshCell P1.m.cls N.kN) W.heap.size u0 sen) W.cur).withEntry W.cur) := ⟨{ ci198 := ci198, i198 := i198, fBack := fB }, ⟨hk198, hg198, ha198, hsB⟩, hbk, fun _ _ => rfl⟩
  obtain ⟨vm', X3, st, -⟩ := X.throwsNpeColdBareVAt hexec hg hsize T L Z LZ N LN P1 L1 [PR, PE] hLs hlink1 ⟨hlinkR, hlinkE, trivial⟩ hfound hk hinit hordN hctor hsel0 hselF hcellS hknownS hvU hvSen
    hv0 xC xS xP tkC tkS tkP tkX Y.objLocals hskip (fun _ _ hA hW _ hroom _ hrest => L.nativeOff p htr hA hW hroom hrest) (by simpa using hRframes) hRlocals (by simp) hRcells (by rw [hn]; exact hRslots)
  have hlt : W.heap.size < ((W.pushCell (freshCell P1.m.cls N.kN)).setVm vm').heap.size := by
    show W.heap.size < (W.pushCell (freshCell P1.m.cls N.kN)).heap.size
    rw [State.heap_size_pushCell]; omega
  rw [hfsz] at X3
  obtain ⟨g₁, hfrM⟩ := X3.frames_eq
  have hU : ((((W.pushCell (freshCell P1.m.cls N.kN)).setVm vm').setCell W.heap.size (npeBareV T.toThrowableT N.toNpeT (freshCell P1.m.cls N.kN) W.heap.size u0 sen)).setTop g).pushFrame (.throwing W.heap.size) = (((W.pushCell (freshCell P1.m.cls N.kN)).setVm vm').setCell W.heap.size (npeBareV T.toThrowableT N.toNpeT (freshCell P1.m.cls N.kN) W.heap.size u0 sen)).setFrames (.throwing W.heap.size :: .java g :: below) := by
    rw [State.pushFrame, State.frames_setTop _ hfrM, State.setTop_of_frames _ hfrM, State.setFrames_setFrames]
  refine ⟨_, W.heap.size, _, fun target ht => st.trans (by rw [← hU]; exact ht), X3.forget (fun y hy => ?_), heapAt_setCell_self _ hlt, hfound, rfl⟩
  simp only [List.mem_cons, List.not_mem_nil, or_false] at hy
  have hge : s.heap.size ≤ W.heap.size := X.same.2.1
  rcases hy with rfl | rfl | rfl | rfl | rfl <;> exact hge
/-- the words of a machine's NullPointerException, but the four that speak of the heap -/
def vx_atN (n : Nat) : List Cond := (Bundle.npeArmAtoms n).filter vx_no
/-- the words of a machine's throw with a message, but the four that speak of the heap -/
def vx_atM (X : String) (names : List String) : List Cond := (Bundle.messageArmAtoms X names).filter vx_no
section
variable {p : Program} {l : Launch} {e : Env} {R : Room} {s : State} {m : MethodId} {args : Array Value} {below : List Frame} {meth : Method} {c : Code} {H : Heap} {locs : List Loc} {cells slots : Nat}
/-- a frame seen from a rebased start, seen from the first start again -/
theorem vx_back9 {T S : State} {R' : Room} {k n : Nat} (X : Stand p l e R s m args below meth c T locs cells slots) (Y : Stand p l e R' ((T.setVm s.vm).setFrames (.invoking m args :: below)) m args below meth c T [] 0 0) (Z : Stand p l e R' ((T.setVm s.vm).setFrames (.invoking m args :: below)) m args below meth c S [] k n) :
    Stand p l e R s m args below meth c S locs (cells + k) (slots + n) := by
  have hW0 : s.WarmedH ((T.setVm s.vm).setFrames (.invoking m args :: below)).vm := State.WarmedH.refl s
  refine { admits := X.admits, cas := X.cas, clock := X.clock, frames := X.frames, room := X.room, hears := X.hears, method := X.method, code := X.code, here := Z.here, tail := Z.tail, warmed := State.WarmedH.trans hW0 Z.warmed, limits := Z.limits.trans (Y.limits.symm.trans X.limits), bytes := Z.bytes.trans (Y.bytes.symm.trans X.bytes), same := ?_ }
  obtain ⟨e1, e2⟩ := Z.same
  rw [State.setFrames_setFrames] at e1
  have h2 : (T.setVm s.vm).sameButNew (S.setVm s.vm) [] k n := ⟨e1, e2⟩
  have h3 := X.same.trans h2
  rw [List.append_nil] at h3
  exact h3
/-- from the machine's note that E is thrown here with this text -/
def vx_Note (p : Program) (l : Launch) (e : Env) (R : Room) (s : State) (m : MethodId) (args : Array Value) (below : List Frame) (meth : Method) (c : Code) (H : Heap) (locs : List Loc) (cells slots : Nat) (Q : State → Prop) (g : JFrame) (E text : String) : Prop :=
  ∀ T : State, T.heap = H → Stand p l e R s m args below meth c T locs cells slots → ∃ t, Steps p.tables e below ((T.setTop g).pushFrame (.throwNew E (some text) none)) t ∧ Q t
theorem vx_vm {pc : Nat} {ls : Array Slot} {rest : List Value} {Q : State → Prop} (hexec : p.tables.exec = Jvm.exec) (hl : l.stackTraces = false) {cls text : String} {names : List String} {nb : Nat} {A : Nat → Prop}
    (hcls : Bundle.fit cls = true) (hnames : ∀ n ∈ names, Bundle.fit n = true) (hsoe : (cls == "java/lang/StackOverflowError") = false) (hoom : (cls == "java/lang/OutOfMemoryError") = false)
    (hat : ∀ w ∈ vx_atM cls names, w.before args s = true) (hgood : ∀ w ∈ vx_atM cls names, vx_ot w = true)
    (hU : vx_Zq Bundle.tN "UNASSIGNED_STACK" Bundle.steD A s s.heap) (hN : vx_Zq Bundle.tN "SUPPRESSED_SENTINEL" Bundle.listD A s s.heap) (hS : va_S A s.heap H locs) (hsize : ls.size = c.maxLocals)
    (htext : (text == notModelled) = false) (hnb : (stringBytes (stringToUtf16 text)).size ≤ nb) (hnb1 : nb ≤ 1000)
    (hRframes : names.length + 4 < R.frames) (hRlocals : (rest.map fun v => v.category).sum + 10240 ≤ R.locals) (hshort : 13 * names.length + 55 ≤ 10240) (hRcells : cells + 3 ≤ R.cells) (hRslots : slots + (nb + 10) ≤ R.slots) (hlocks : meth.locks = false)
    (k : ∀ (H1 : Heap) (q9 : Addr) (ce : Cell), H.size ≤ H1.size → (∀ q : Nat, q < H.size → H1[q]? = H[q]?) → va_S A s.heap H1 locs → H1[q9]? = some ce → ce.vm = .none → s.vm.findClass cls = some ce.cls → vx_W p l e R s m args below meth c H1 locs (cells + 3) (slots + (nb + 10)) Q (F0 m pc ls rest) q9) :
    vx_Note p l e R s m args below meth c H locs cells slots Q (F0 m pc ls rest) cls text := by
  intro T hT X
  have htr : e.platform.stackTraces = false := (show e.platform.stackTraces = l.stackTraces by rw [X.admits.platform]).trans hl
  have Y := vx_rebase X (R' := { frames := R.frames, locals := R.locals, cells := 3, slots := nb + 10 }) (Nat.le_refl _) (Nat.le_refl _) hRcells hRslots
  have hhp : ((T.setVm s.vm).setFrames (.invoking m args :: below)).heap = H := hT
  have hW0 : s.WarmedH ((T.setVm s.vm).setFrames (.invoking m args :: below)).vm := State.WarmedH.refl s
  have hat' : ∀ w ∈ vx_atM cls names, w.before args ((T.setVm s.vm).setFrames (.invoking m args :: below)) = true := fun w hw => vx_ot_at hW0 rfl (hgood w hw) (hat w hw)
  have hU' : vx_Zq Bundle.tN "UNASSIGNED_STACK" Bundle.steD A ((T.setVm s.vm).setFrames (.invoking m args :: below)) ((T.setVm s.vm).setFrames (.invoking m args :: below)).heap := by rw [hhp]; exact vx_Zq.moved hW0.alike (hU.kept hS.2.1)
  have hN' : vx_Zq Bundle.tN "SUPPRESSED_SENTINEL" Bundle.listD A ((T.setVm s.vm).setFrames (.invoking m args :: below)) ((T.setVm s.vm).setFrames (.invoking m args :: below)).heap := by rw [hhp]; exact vx_Zq.moved hW0.alike (hN.kept hS.2.1)
  obtain ⟨S, q, ce, st, Z, hce, hcl', hv⟩ := vx_vmAt Y hexec htr (cls := cls) (names := names) (text := text) hcls hnames hsoe hoom (vx_own hat' (vx_isRefq hU'.1) (vx_isRefq hN'.1) hU'.2.word hN'.2.word) (fun x hx => nomatch hx) htext
    (by rw [Launch.admits_arrayLengthLimit X.admits]; omega) (by rw [Launch.admits_maxHeapBytes X.admits]; simp only [componentBytes]; omega)
    (g := F0 m pc ls rest) rfl hsize hRframes (by show 2 * 0 + (rest.map fun v => v.category).sum + 10240 ≤ R.locals; omega) hshort (by show 0 + 3 ≤ 3; omega) (by show 0 + (_ + 4 + 6) ≤ nb + 10; omega) hlocks
  obtain ⟨f1, f2⟩ := vx_frame Z.same
  have f1' : H.size ≤ S.heap.size := by rw [← hT]; exact f1
  have f2' : ∀ q : Nat, q < H.size → S.heap[q]? = H[q]? := fun q hq => by
    rw [← hT]
    exact f2 q (by rw [← hT] at hq; exact hq) (fun z hz => nomatch hz)
  have X5 := vx_back9 X Y Z
  have X6 : Stand p l e R s m args below meth c S locs (cells + 3) (slots + (nb + 10)) := { X5 with same := X5.same.mono (by omega) (by omega) }
  obtain ⟨t, a1, b1⟩ := k S.heap q ce f1' f2' ⟨Nat.le_trans hS.1 f1', fun q h1 h2 => (f2' q (Nat.lt_of_lt_of_le h1 hS.1)).trans (hS.2.1 q h1 h2), hS.2.2⟩ hce hv hcl' S rfl X6
  exact ⟨t, st t a1, b1⟩
/-- from the machine's note that NullPointerException is thrown here -/
def vx_NoteN (p : Program) (l : Launch) (e : Env) (R : Room) (s : State) (m : MethodId) (args : Array Value) (below : List Frame) (meth : Method) (c : Code) (H : Heap) (locs : List Loc) (cells slots : Nat) (Q : State → Prop) (g : JFrame) : Prop :=
  ∀ T : State, T.heap = H → Stand p l e R s m args below meth c T locs cells slots → ∃ t, Steps p.tables e below ((T.setTop g).pushFrame (.throwNew "java/lang/NullPointerException" none none)) t ∧ Q t
theorem vx_npe {pc : Nat} {ls : Array Slot} {rest : List Value} {Q : State → Prop} (hexec : p.tables.exec = Jvm.exec) (hl : l.stackTraces = false) {nb : Nat} {A : Nat → Prop}
    (hat : ∀ w ∈ vx_atN nb, w.before args s = true) (hgood : ∀ w ∈ vx_atN nb, vx_ot w = true)
    (hU : vx_Zq Bundle.tN "UNASSIGNED_STACK" Bundle.steD A s s.heap) (hN : vx_Zq Bundle.tN "SUPPRESSED_SENTINEL" Bundle.listD A s s.heap) (hS : va_S A s.heap H locs) (hsize : ls.size = c.maxLocals)
    (hRframes : 7 < R.frames) (hRlocals : (rest.map fun v => v.category).sum + 10240 ≤ R.locals) (hRcells : cells + 1 ≤ R.cells) (hRslots : slots + nb ≤ R.slots) (hlocks : meth.locks = false)
    (k : ∀ (H1 : Heap) (q9 : Addr) (ce : Cell), H.size ≤ H1.size → (∀ q : Nat, q < H.size → H1[q]? = H[q]?) → va_S A s.heap H1 locs → H1[q9]? = some ce → ce.vm = .none → s.vm.findClass "java/lang/NullPointerException" = some ce.cls → vx_W p l e R s m args below meth c H1 locs (cells + 1) (slots + nb) Q (F0 m pc ls rest) q9) :
    vx_NoteN p l e R s m args below meth c H locs cells slots Q (F0 m pc ls rest) := by
  intro T hT X
  have htr : e.platform.stackTraces = false := (show e.platform.stackTraces = l.stackTraces by rw [X.admits.platform]).trans hl
  have Y := vx_rebase X (R' := { frames := R.frames, locals := R.locals, cells := 1, slots := nb }) (Nat.le_refl _) (Nat.le_refl _) hRcells hRslots
  have hhp : ((T.setVm s.vm).setFrames (.invoking m args :: below)).heap = H := hT
  have hW0 : s.WarmedH ((T.setVm s.vm).setFrames (.invoking m args :: below)).vm := State.WarmedH.refl s
  have hat' : ∀ w ∈ vx_atN nb, w.before args ((T.setVm s.vm).setFrames (.invoking m args :: below)) = true := fun w hw => vx_ot_at hW0 rfl (hgood w hw) (hat w hw)
  have hU' : vx_Zq Bundle.tN "UNASSIGNED_STACK" Bundle.steD A ((T.setVm s.vm).setFrames (.invoking m args :: below)) ((T.setVm s.vm).setFrames (.invoking m args :: below)).heap := by rw [hhp]; exact vx_Zq.moved hW0.alike (hU.kept hS.2.1)
  have hN' : vx_Zq Bundle.tN "SUPPRESSED_SENTINEL" Bundle.listD A ((T.setVm s.vm).setFrames (.invoking m args :: below)) ((T.setVm s.vm).setFrames (.invoking m args :: below)).heap := by rw [hhp]; exact vx_Zq.moved hW0.alike (hN.kept hS.2.1)
  obtain ⟨S, q, ce, st, Z, hce, hcl', hv⟩ := vx_npeAt Y hexec htr (n := nb) (vx_own hat' (vx_isRefq hU'.1) (vx_isRefq hN'.1) hU'.2.word hN'.2.word) (fun x hx => nomatch hx)
    (g := F0 m pc ls rest) rfl hsize hRframes (by show 2 * 0 + (rest.map fun v => v.category).sum + 10240 ≤ R.locals; omega) (by show 0 + 1 ≤ 1; omega) (by show 0 + nb ≤ nb; omega) hlocks
  obtain ⟨f1, f2⟩ := vx_frame Z.same
  have f1' : H.size ≤ S.heap.size := by rw [← hT]; exact f1
  have f2' : ∀ q : Nat, q < H.size → S.heap[q]? = H[q]? := fun q hq => by
    rw [← hT]
    exact f2 q (by rw [← hT] at hq; exact hq) (fun z hz => nomatch hz)
  have X5 := vx_back9 X Y Z
  have X6 : Stand p l e R s m args below meth c S locs (cells + 1) (slots + nb) := { X5 with same := X5.same.mono (by omega) (by omega) }
  obtain ⟨t, a1, b1⟩ := k S.heap q ce f1' f2' ⟨Nat.le_trans hS.1 f1', fun q h1 h2 => (f2' q (Nat.lt_of_lt_of_le h1 hS.1)).trans (hS.2.1 q h1 h2), hS.2.2⟩ hce hv hcl' S rfl X6
  exact ⟨t, st t a1, b1⟩
variable {Q : State → Prop} {cc : ByteArray} {pc : Nat} {ls : Array Slot} {rest : List Value}
theorem vx_idivZ (hexec : p.tables.exec = Jvm.exec) (hb : c.code = cc) {a b : Int32} (h0 : b = 0) (d : decode cc pc = .ok (.idiv, 1)) (k : vx_Note p l e R s m args below meth c H locs cells slots Q (F0 m pc ls rest) "java/lang/ArithmeticException" "/ by zero") :
    W p l e R s m args below meth c H locs cells slots Q (F0 m pc ls (.int b :: .int a :: rest)) := by
  intro T hT X
  obtain ⟨t, st, q⟩ := k T hT X
  exact ⟨t, X.idivZero hexec (g := F0 m pc ls (.int b :: .int a :: rest)) rfl (a := a) (rest := rest) (by rw [h0]) (by rw [hb]; exact d) t st, q⟩
theorem vx_iremZ (hexec : p.tables.exec = Jvm.exec) (hb : c.code = cc) {a b : Int32} (h0 : b = 0) (d : decode cc pc = .ok (.irem, 1)) (k : vx_Note p l e R s m args below meth c H locs cells slots Q (F0 m pc ls rest) "java/lang/ArithmeticException" "/ by zero") :
    W p l e R s m args below meth c H locs cells slots Q (F0 m pc ls (.int b :: .int a :: rest)) := by
  intro T hT X
  obtain ⟨t, st, q⟩ := k T hT X
  exact ⟨t, X.iremZero hexec (g := F0 m pc ls (.int b :: .int a :: rest)) rfl (a := a) (rest := rest) (by rw [h0]) (by rw [hb]; exact d) t st, q⟩
theorem vx_ldivZ (hexec : p.tables.exec = Jvm.exec) (hb : c.code = cc) {a b : Int64} (h0 : b = 0) (d : decode cc pc = .ok (.ldiv, 1)) (k : vx_Note p l e R s m args below meth c H locs cells slots Q (F0 m pc ls rest) "java/lang/ArithmeticException" "/ by zero") :
    W p l e R s m args below meth c H locs cells slots Q (F0 m pc ls (.long b :: .long a :: rest)) := by
  intro T hT X
  obtain ⟨t, st, q⟩ := k T hT X
  exact ⟨t, X.ldivZero hexec (g := F0 m pc ls (.long b :: .long a :: rest)) rfl (a := a) (rest := rest) (by rw [h0]) (by rw [hb]; exact d) t st, q⟩
theorem vx_lremZ (hexec : p.tables.exec = Jvm.exec) (hb : c.code = cc) {a b : Int64} (h0 : b = 0) (d : decode cc pc = .ok (.lrem, 1)) (k : vx_Note p l e R s m args below meth c H locs cells slots Q (F0 m pc ls rest) "java/lang/ArithmeticException" "/ by zero") :
    W p l e R s m args below meth c H locs cells slots Q (F0 m pc ls (.long b :: .long a :: rest)) := by
  intro T hT X
  obtain ⟨t, st, q⟩ := k T hT X
  exact ⟨t, X.lremZero hexec (g := F0 m pc ls (.long b :: .long a :: rest)) rfl (a := a) (rest := rest) (by rw [h0]) (by rw [hb]; exact d) t st, q⟩
theorem vx_ialdZ {D : va_G} {cl : List vw_C} {ws : va_W} {tys : List (ClassId × FieldType)} {a : Nat} (hexec : p.tables.exec = Jvm.exec) (hb : c.code = cc) (hK : va_K D cl tys s) (hP : va_P D cl ws H) (q0 t0 : Nat) {cA : ClassId} {n : Nat} {f : Nat → Int32} (ha : ws[q0]? = some (a, .inl (cA, n, .inl f))) (ht : tys[t0]? = some (cA, .int)) {i : Int32} (hout : ¬ vp_in i n) (hdg : decode cc pc = .ok (.iaload, 1))
    (k : ∀ tx : String, tx = (toString "Index " ++ toString i ++ toString " out of bounds for length " ++ toString n : String) → vx_Note p l e R s m args below meth c H locs cells slots Q (F0 m pc ls rest) "java/lang/ArrayIndexOutOfBoundsException" tx) : W p l e R s m args below meth c H locs cells slots Q (F0 m pc ls (.int i :: .ref a :: rest)) := by
  intro T hT X
  obtain ⟨t, st, q⟩ := k _ rfl T hT X
  refine ⟨t, ?_, q⟩
  have h1 := X.ialoadOut hexec (by rw [hT]; exact hP q0 _ ha) ((hK.2 t0 _ ht).1 n (fun j => .int (f j))) (j := i) (by show (i < 0 ∨ (arrV _ _ _).slots.size ≤ _); rw [arrV_size]; exact Classical.byContradiction hout) (g := F0 m pc ls (.int i :: .ref a :: rest)) rfl (rest := rest) rfl (by rw [hb]; exact hdg) t
  simp only [arrV_size] at h1
  exact h1 st
theorem vx_iastZ {D : va_G} {cl : List vw_C} {ws : va_W} {tys : List (ClassId × FieldType)} {a : Nat} (hexec : p.tables.exec = Jvm.exec) (hb : c.code = cc) (hK : va_K D cl tys s) (hP : va_P D cl ws H) (q0 t0 : Nat) {cA : ClassId} {n : Nat} {f : Nat → Int32} (ha : ws[q0]? = some (a, .inl (cA, n, .inl f))) (ht : tys[t0]? = some (cA, .int)) {i : Int32} {x : Int32} (hout : ¬ vp_in i n) (hdg : decode cc pc = .ok (.iastore, 1))
    (k : ∀ tx : String, tx = (toString "Index " ++ toString i ++ toString " out of bounds for length " ++ toString n : String) → vx_Note p l e R s m args below meth c H locs cells slots Q (F0 m pc ls rest) "java/lang/ArrayIndexOutOfBoundsException" tx) : W p l e R s m args below meth c H locs cells slots Q (F0 m pc ls (.int x :: .int i :: .ref a :: rest)) := by
  intro T hT X
  obtain ⟨t, st, q⟩ := k _ rfl T hT X
  refine ⟨t, ?_, q⟩
  have h1 := X.iastoreOut hexec (by rw [hT]; exact hP q0 _ ha) ((hK.2 t0 _ ht).1 n (fun j => .int (f j))) (j := i) (by show (i < 0 ∨ (arrV _ _ _).slots.size ≤ _); rw [arrV_size]; exact Classical.byContradiction hout) (g := F0 m pc ls (.int x :: .int i :: .ref a :: rest)) rfl (rest := rest) rfl (by rw [hb]; exact hdg) t
  simp only [arrV_size] at h1
  exact h1 st
theorem vx_baldZ {D : va_G} {cl : List vw_C} {ws : va_W} {tys : List (ClassId × FieldType)} {a : Nat} (hexec : p.tables.exec = Jvm.exec) (hb : c.code = cc) (hK : va_K D cl tys s) (hP : va_P D cl ws H) (q0 t0 : Nat) {cA : ClassId} {n : Nat} {f : Nat → Int32} (ha : ws[q0]? = some (a, .inl (cA, n, .inl f))) (ht : tys[t0]? = some (cA, .byte)) {i : Int32} (hout : ¬ vp_in i n) (hdg : decode cc pc = .ok (.baload, 1))
    (k : ∀ tx : String, tx = (toString "Index " ++ toString i ++ toString " out of bounds for length " ++ toString n : String) → vx_Note p l e R s m args below meth c H locs cells slots Q (F0 m pc ls rest) "java/lang/ArrayIndexOutOfBoundsException" tx) : W p l e R s m args below meth c H locs cells slots Q (F0 m pc ls (.int i :: .ref a :: rest)) := by
  intro T hT X
  obtain ⟨t, st, q⟩ := k _ rfl T hT X
  refine ⟨t, ?_, q⟩
  have h1 := X.baloadOut hexec (by rw [hT]; exact hP q0 _ ha) ((hK.2 t0 _ ht).1 n (fun j => .int (f j))) (j := i) (by show (i < 0 ∨ (arrV _ _ _).slots.size ≤ _); rw [arrV_size]; exact Classical.byContradiction hout) (g := F0 m pc ls (.int i :: .ref a :: rest)) rfl (rest := rest) rfl (by rw [hb]; exact hdg) t
  simp only [arrV_size] at h1
  exact h1 st
theorem vx_bastZ {D : va_G} {cl : List vw_C} {ws : va_W} {tys : List (ClassId × FieldType)} {a : Nat} (hexec : p.tables.exec = Jvm.exec) (hb : c.code = cc) (hK : va_K D cl tys s) (hP : va_P D cl ws H) (q0 t0 : Nat) {cA : ClassId} {n : Nat} {f : Nat → Int32} (ha : ws[q0]? = some (a, .inl (cA, n, .inl f))) (ht : tys[t0]? = some (cA, .byte)) {i : Int32} {x : Int32} (hout : ¬ vp_in i n) (hdg : decode cc pc = .ok (.bastore, 1))
    (k : ∀ tx : String, tx = (toString "Index " ++ toString i ++ toString " out of bounds for length " ++ toString n : String) → vx_Note p l e R s m args below meth c H locs cells slots Q (F0 m pc ls rest) "java/lang/ArrayIndexOutOfBoundsException" tx) : W p l e R s m args below meth c H locs cells slots Q (F0 m pc ls (.int x :: .int i :: .ref a :: rest)) := by
  intro T hT X
  obtain ⟨t, st, q⟩ := k _ rfl T hT X
  refine ⟨t, ?_, q⟩
  have h1 := X.bastoreOut hexec (by rw [hT]; exact hP q0 _ ha) ((hK.2 t0 _ ht).1 n (fun j => .int (f j))) (j := i) (by show (i < 0 ∨ (arrV _ _ _).slots.size ≤ _); rw [arrV_size]; exact Classical.byContradiction hout) (g := F0 m pc ls (.int x :: .int i :: .ref a :: rest)) rfl (rest := rest) rfl (by rw [hb]; exact hdg) t
  simp only [arrV_size] at h1
  exact h1 st
theorem vx_zaldZ {D : va_G} {cl : List vw_C} {ws : va_W} {tys : List (ClassId × FieldType)} {a : Nat} (hexec : p.tables.exec = Jvm.exec) (hb : c.code = cc) (hK : va_K D cl tys s) (hP : va_P D cl ws H) (q0 t0 : Nat) {cA : ClassId} {n : Nat} {f : Nat → Int32} (ha : ws[q0]? = some (a, .inl (cA, n, .inl f))) (ht : tys[t0]? = some (cA, .boolean)) {i : Int32} (hout : ¬ vp_in i n) (hdg : decode cc pc = .ok (.baload, 1))
    (k : ∀ tx : String, tx = (toString "Index " ++ toString i ++ toString " out of bounds for length " ++ toString n : String) → vx_Note p l e R s m args below meth c H locs cells slots Q (F0 m pc ls rest) "java/lang/ArrayIndexOutOfBoundsException" tx) : W p l e R s m args below meth c H locs cells slots Q (F0 m pc ls (.int i :: .ref a :: rest)) := by
  intro T hT X
  obtain ⟨t, st, q⟩ := k _ rfl T hT X
  refine ⟨t, ?_, q⟩
  have h1 := X.baloadOut hexec (by rw [hT]; exact hP q0 _ ha) ((hK.2 t0 _ ht).1 n (fun j => .int (f j))) (j := i) (by show (i < 0 ∨ (arrV _ _ _).slots.size ≤ _); rw [arrV_size]; exact Classical.byContradiction hout) (g := F0 m pc ls (.int i :: .ref a :: rest)) rfl (rest := rest) rfl (by rw [hb]; exact hdg) t
  simp only [arrV_size] at h1
  exact h1 st
theorem vx_zastZ {D : va_G} {cl : List vw_C} {ws : va_W} {tys : List (ClassId × FieldType)} {a : Nat} (hexec : p.tables.exec = Jvm.exec) (hb : c.code = cc) (hK : va_K D cl tys s) (hP : va_P D cl ws H) (q0 t0 : Nat) {cA : ClassId} {n : Nat} {f : Nat → Int32} (ha : ws[q0]? = some (a, .inl (cA, n, .inl f))) (ht : tys[t0]? = some (cA, .boolean)) {i : Int32} {x : Int32} (hout : ¬ vp_in i n) (hdg : decode cc pc = .ok (.bastore, 1))
    (k : ∀ tx : String, tx = (toString "Index " ++ toString i ++ toString " out of bounds for length " ++ toString n : String) → vx_Note p l e R s m args below meth c H locs cells slots Q (F0 m pc ls rest) "java/lang/ArrayIndexOutOfBoundsException" tx) : W p l e R s m args below meth c H locs cells slots Q (F0 m pc ls (.int x :: .int i :: .ref a :: rest)) := by
  intro T hT X
  obtain ⟨t, st, q⟩ := k _ rfl T hT X
  refine ⟨t, ?_, q⟩
  have h1 := X.bastoreOut hexec (by rw [hT]; exact hP q0 _ ha) ((hK.2 t0 _ ht).1 n (fun j => .int (f j))) (j := i) (by show (i < 0 ∨ (arrV _ _ _).slots.size ≤ _); rw [arrV_size]; exact Classical.byContradiction hout) (g := F0 m pc ls (.int x :: .int i :: .ref a :: rest)) rfl (rest := rest) rfl (by rw [hb]; exact hdg) t
  simp only [arrV_size] at h1
  exact h1 st
theorem vx_caldZ {D : va_G} {cl : List vw_C} {ws : va_W} {tys : List (ClassId × FieldType)} {a : Nat} (hexec : p.tables.exec = Jvm.exec) (hb : c.code = cc) (hK : va_K D cl tys s) (hP : va_P D cl ws H) (q0 t0 : Nat) {cA : ClassId} {n : Nat} {f : Nat → Int32} (ha : ws[q0]? = some (a, .inl (cA, n, .inl f))) (ht : tys[t0]? = some (cA, .char)) {i : Int32} (hout : ¬ vp_in i n) (hdg : decode cc pc = .ok (.caload, 1))
    (k : ∀ tx : String, tx = (toString "Index " ++ toString i ++ toString " out of bounds for length " ++ toString n : String) → vx_Note p l e R s m args below meth c H locs cells slots Q (F0 m pc ls rest) "java/lang/ArrayIndexOutOfBoundsException" tx) : W p l e R s m args below meth c H locs cells slots Q (F0 m pc ls (.int i :: .ref a :: rest)) := by
  intro T hT X
  obtain ⟨t, st, q⟩ := k _ rfl T hT X
  refine ⟨t, ?_, q⟩
  have h1 := X.caloadOut hexec (by rw [hT]; exact hP q0 _ ha) ((hK.2 t0 _ ht).1 n (fun j => .int (f j))) (j := i) (by show (i < 0 ∨ (arrV _ _ _).slots.size ≤ _); rw [arrV_size]; exact Classical.byContradiction hout) (g := F0 m pc ls (.int i :: .ref a :: rest)) rfl (rest := rest) rfl (by rw [hb]; exact hdg) t
  simp only [arrV_size] at h1
  exact h1 st
theorem vx_castZ {D : va_G} {cl : List vw_C} {ws : va_W} {tys : List (ClassId × FieldType)} {a : Nat} (hexec : p.tables.exec = Jvm.exec) (hb : c.code = cc) (hK : va_K D cl tys s) (hP : va_P D cl ws H) (q0 t0 : Nat) {cA : ClassId} {n : Nat} {f : Nat → Int32} (ha : ws[q0]? = some (a, .inl (cA, n, .inl f))) (ht : tys[t0]? = some (cA, .char)) {i : Int32} {x : Int32} (hout : ¬ vp_in i n) (hdg : decode cc pc = .ok (.castore, 1))
    (k : ∀ tx : String, tx = (toString "Index " ++ toString i ++ toString " out of bounds for length " ++ toString n : String) → vx_Note p l e R s m args below meth c H locs cells slots Q (F0 m pc ls rest) "java/lang/ArrayIndexOutOfBoundsException" tx) : W p l e R s m args below meth c H locs cells slots Q (F0 m pc ls (.int x :: .int i :: .ref a :: rest)) := by
  intro T hT X
  obtain ⟨t, st, q⟩ := k _ rfl T hT X
  refine ⟨t, ?_, q⟩
  have h1 := X.castoreOut hexec (by rw [hT]; exact hP q0 _ ha) ((hK.2 t0 _ ht).1 n (fun j => .int (f j))) (j := i) (by show (i < 0 ∨ (arrV _ _ _).slots.size ≤ _); rw [arrV_size]; exact Classical.byContradiction hout) (g := F0 m pc ls (.int x :: .int i :: .ref a :: rest)) rfl (rest := rest) rfl (by rw [hb]; exact hdg) t
  simp only [arrV_size] at h1
  exact h1 st
theorem vx_saldZ {D : va_G} {cl : List vw_C} {ws : va_W} {tys : List (ClassId × FieldType)} {a : Nat} (hexec : p.tables.exec = Jvm.exec) (hb : c.code = cc) (hK : va_K D cl tys s) (hP : va_P D cl ws H) (q0 t0 : Nat) {cA : ClassId} {n : Nat} {f : Nat → Int32} (ha : ws[q0]? = some (a, .inl (cA, n, .inl f))) (ht : tys[t0]? = some (cA, .short)) {i : Int32} (hout : ¬ vp_in i n) (hdg : decode cc pc = .ok (.saload, 1))
    (k : ∀ tx : String, tx = (toString "Index " ++ toString i ++ toString " out of bounds for length " ++ toString n : String) → vx_Note p l e R s m args below meth c H locs cells slots Q (F0 m pc ls rest) "java/lang/ArrayIndexOutOfBoundsException" tx) : W p l e R s m args below meth c H locs cells slots Q (F0 m pc ls (.int i :: .ref a :: rest)) := by
  intro T hT X
  obtain ⟨t, st, q⟩ := k _ rfl T hT X
  refine ⟨t, ?_, q⟩
  have h1 := X.saloadOut hexec (by rw [hT]; exact hP q0 _ ha) ((hK.2 t0 _ ht).1 n (fun j => .int (f j))) (j := i) (by show (i < 0 ∨ (arrV _ _ _).slots.size ≤ _); rw [arrV_size]; exact Classical.byContradiction hout) (g := F0 m pc ls (.int i :: .ref a :: rest)) rfl (rest := rest) rfl (by rw [hb]; exact hdg) t
  simp only [arrV_size] at h1
  exact h1 st
theorem vx_sastZ {D : va_G} {cl : List vw_C} {ws : va_W} {tys : List (ClassId × FieldType)} {a : Nat} (hexec : p.tables.exec = Jvm.exec) (hb : c.code = cc) (hK : va_K D cl tys s) (hP : va_P D cl ws H) (q0 t0 : Nat) {cA : ClassId} {n : Nat} {f : Nat → Int32} (ha : ws[q0]? = some (a, .inl (cA, n, .inl f))) (ht : tys[t0]? = some (cA, .short)) {i : Int32} {x : Int32} (hout : ¬ vp_in i n) (hdg : decode cc pc = .ok (.sastore, 1))
    (k : ∀ tx : String, tx = (toString "Index " ++ toString i ++ toString " out of bounds for length " ++ toString n : String) → vx_Note p l e R s m args below meth c H locs cells slots Q (F0 m pc ls rest) "java/lang/ArrayIndexOutOfBoundsException" tx) : W p l e R s m args below meth c H locs cells slots Q (F0 m pc ls (.int x :: .int i :: .ref a :: rest)) := by
  intro T hT X
  obtain ⟨t, st, q⟩ := k _ rfl T hT X
  refine ⟨t, ?_, q⟩
  have h1 := X.sastoreOut hexec (by rw [hT]; exact hP q0 _ ha) ((hK.2 t0 _ ht).1 n (fun j => .int (f j))) (j := i) (by show (i < 0 ∨ (arrV _ _ _).slots.size ≤ _); rw [arrV_size]; exact Classical.byContradiction hout) (g := F0 m pc ls (.int x :: .int i :: .ref a :: rest)) rfl (rest := rest) rfl (by rw [hb]; exact hdg) t
  simp only [arrV_size] at h1
  exact h1 st
theorem vx_laldZ {D : va_G} {cl : List vw_C} {ws : va_W} {tys : List (ClassId × FieldType)} {a : Nat} (hexec : p.tables.exec = Jvm.exec) (hb : c.code = cc) (hK : va_K D cl tys s) (hP : va_P D cl ws H) (q0 t0 : Nat) {cA : ClassId} {n : Nat} {f : Nat → Int64} (ha : ws[q0]? = some (a, .inl (cA, n, .inr (.inl f)))) (ht : tys[t0]? = some (cA, .long)) {i : Int32} (hout : ¬ vp_in i n) (hdg : decode cc pc = .ok (.laload, 1))
    (k : ∀ tx : String, tx = (toString "Index " ++ toString i ++ toString " out of bounds for length " ++ toString n : String) → vx_Note p l e R s m args below meth c H locs cells slots Q (F0 m pc ls rest) "java/lang/ArrayIndexOutOfBoundsException" tx) : W p l e R s m args below meth c H locs cells slots Q (F0 m pc ls (.int i :: .ref a :: rest)) := by
  intro T hT X
  obtain ⟨t, st, q⟩ := k _ rfl T hT X
  refine ⟨t, ?_, q⟩
  have h1 := X.laloadOut hexec (by rw [hT]; exact hP q0 _ ha) ((hK.2 t0 _ ht).1 n (fun j => .long (f j))) (j := i) (by show (i < 0 ∨ (arrV _ _ _).slots.size ≤ _); rw [arrV_size]; exact Classical.byContradiction hout) (g := F0 m pc ls (.int i :: .ref a :: rest)) rfl (rest := rest) rfl (by rw [hb]; exact hdg) t
  simp only [arrV_size] at h1
  exact h1 st
theorem vx_lastZ {D : va_G} {cl : List vw_C} {ws : va_W} {tys : List (ClassId × FieldType)} {a : Nat} (hexec : p.tables.exec = Jvm.exec) (hb : c.code = cc) (hK : va_K D cl tys s) (hP : va_P D cl ws H) (q0 t0 : Nat) {cA : ClassId} {n : Nat} {f : Nat → Int64} (ha : ws[q0]? = some (a, .inl (cA, n, .inr (.inl f)))) (ht : tys[t0]? = some (cA, .long)) {i : Int32} {x : Int64} (hout : ¬ vp_in i n) (hdg : decode cc pc = .ok (.lastore, 1))
    (k : ∀ tx : String, tx = (toString "Index " ++ toString i ++ toString " out of bounds for length " ++ toString n : String) → vx_Note p l e R s m args below meth c H locs cells slots Q (F0 m pc ls rest) "java/lang/ArrayIndexOutOfBoundsException" tx) : W p l e R s m args below meth c H locs cells slots Q (F0 m pc ls (.long x :: .int i :: .ref a :: rest)) := by
  intro T hT X
  obtain ⟨t, st, q⟩ := k _ rfl T hT X
  refine ⟨t, ?_, q⟩
  have h1 := X.lastoreOut hexec (by rw [hT]; exact hP q0 _ ha) ((hK.2 t0 _ ht).1 n (fun j => .long (f j))) (j := i) (by show (i < 0 ∨ (arrV _ _ _).slots.size ≤ _); rw [arrV_size]; exact Classical.byContradiction hout) (g := F0 m pc ls (.long x :: .int i :: .ref a :: rest)) rfl (rest := rest) rfl (by rw [hb]; exact hdg) t
  simp only [arrV_size] at h1
  exact h1 st
theorem vx_faldZ {D : va_G} {cl : List vw_C} {ws : va_W} {tys : List (ClassId × FieldType)} {a : Nat} (hexec : p.tables.exec = Jvm.exec) (hb : c.code = cc) (hK : va_K D cl tys s) (hP : va_P D cl ws H) (q0 t0 : Nat) {cA : ClassId} {n : Nat} {f : Nat → UInt32} (ha : ws[q0]? = some (a, .inl (cA, n, .inr (.inr (.inl f))))) (ht : tys[t0]? = some (cA, .float)) {i : Int32} (hout : ¬ vp_in i n) (hdg : decode cc pc = .ok (.faload, 1))
    (k : ∀ tx : String, tx = (toString "Index " ++ toString i ++ toString " out of bounds for length " ++ toString n : String) → vx_Note p l e R s m args below meth c H locs cells slots Q (F0 m pc ls rest) "java/lang/ArrayIndexOutOfBoundsException" tx) : W p l e R s m args below meth c H locs cells slots Q (F0 m pc ls (.int i :: .ref a :: rest)) := by
  intro T hT X
  obtain ⟨t, st, q⟩ := k _ rfl T hT X
  refine ⟨t, ?_, q⟩
  have h1 := X.faloadOut hexec (by rw [hT]; exact hP q0 _ ha) ((hK.2 t0 _ ht).1 n (fun j => .float (f j))) (j := i) (by show (i < 0 ∨ (arrV _ _ _).slots.size ≤ _); rw [arrV_size]; exact Classical.byContradiction hout) (g := F0 m pc ls (.int i :: .ref a :: rest)) rfl (rest := rest) rfl (by rw [hb]; exact hdg) t
  simp only [arrV_size] at h1
  exact h1 st
theorem vx_fastZ {D : va_G} {cl : List vw_C} {ws : va_W} {tys : List (ClassId × FieldType)} {a : Nat} (hexec : p.tables.exec = Jvm.exec) (hb : c.code = cc) (hK : va_K D cl tys s) (hP : va_P D cl ws H) (q0 t0 : Nat) {cA : ClassId} {n : Nat} {f : Nat → UInt32} (ha : ws[q0]? = some (a, .inl (cA, n, .inr (.inr (.inl f))))) (ht : tys[t0]? = some (cA, .float)) {i : Int32} {x : UInt32} (hout : ¬ vp_in i n) (hdg : decode cc pc = .ok (.fastore, 1))
    (k : ∀ tx : String, tx = (toString "Index " ++ toString i ++ toString " out of bounds for length " ++ toString n : String) → vx_Note p l e R s m args below meth c H locs cells slots Q (F0 m pc ls rest) "java/lang/ArrayIndexOutOfBoundsException" tx) : W p l e R s m args below meth c H locs cells slots Q (F0 m pc ls (.float x :: .int i :: .ref a :: rest)) := by
  intro T hT X
  obtain ⟨t, st, q⟩ := k _ rfl T hT X
  refine ⟨t, ?_, q⟩
  have h1 := X.fastoreOut hexec (by rw [hT]; exact hP q0 _ ha) ((hK.2 t0 _ ht).1 n (fun j => .float (f j))) (j := i) (by show (i < 0 ∨ (arrV _ _ _).slots.size ≤ _); rw [arrV_size]; exact Classical.byContradiction hout) (g := F0 m pc ls (.float x :: .int i :: .ref a :: rest)) rfl (rest := rest) rfl (by rw [hb]; exact hdg) t
  simp only [arrV_size] at h1
  exact h1 st
theorem vx_daldZ {D : va_G} {cl : List vw_C} {ws : va_W} {tys : List (ClassId × FieldType)} {a : Nat} (hexec : p.tables.exec = Jvm.exec) (hb : c.code = cc) (hK : va_K D cl tys s) (hP : va_P D cl ws H) (q0 t0 : Nat) {cA : ClassId} {n : Nat} {f : Nat → UInt64} (ha : ws[q0]? = some (a, .inl (cA, n, .inr (.inr (.inr (.inl f)))))) (ht : tys[t0]? = some (cA, .double)) {i : Int32} (hout : ¬ vp_in i n) (hdg : decode cc pc = .ok (.daload, 1))
    (k : ∀ tx : String, tx = (toString "Index " ++ toString i ++ toString " out of bounds for length " ++ toString n : String) → vx_Note p l e R s m args below meth c H locs cells slots Q (F0 m pc ls rest) "java/lang/ArrayIndexOutOfBoundsException" tx) : W p l e R s m args below meth c H locs cells slots Q (F0 m pc ls (.int i :: .ref a :: rest)) := by
  intro T hT X
  obtain ⟨t, st, q⟩ := k _ rfl T hT X
  refine ⟨t, ?_, q⟩
  have h1 := X.daloadOut hexec (by rw [hT]; exact hP q0 _ ha) ((hK.2 t0 _ ht).1 n (fun j => .double (f j))) (j := i) (by show (i < 0 ∨ (arrV _ _ _).slots.size ≤ _); rw [arrV_size]; exact Classical.byContradiction hout) (g := F0 m pc ls (.int i :: .ref a :: rest)) rfl (rest := rest) rfl (by rw [hb]; exact hdg) t
  simp only [arrV_size] at h1
  exact h1 st
theorem vx_dastZ {D : va_G} {cl : List vw_C} {ws : va_W} {tys : List (ClassId × FieldType)} {a : Nat} (hexec : p.tables.exec = Jvm.exec) (hb : c.code = cc) (hK : va_K D cl tys s) (hP : va_P D cl ws H) (q0 t0 : Nat) {cA : ClassId} {n : Nat} {f : Nat → UInt64} (ha : ws[q0]? = some (a, .inl (cA, n, .inr (.inr (.inr (.inl f)))))) (ht : tys[t0]? = some (cA, .double)) {i : Int32} {x : UInt64} (hout : ¬ vp_in i n) (hdg : decode cc pc = .ok (.dastore, 1))
    (k : ∀ tx : String, tx = (toString "Index " ++ toString i ++ toString " out of bounds for length " ++ toString n : String) → vx_Note p l e R s m args below meth c H locs cells slots Q (F0 m pc ls rest) "java/lang/ArrayIndexOutOfBoundsException" tx) : W p l e R s m args below meth c H locs cells slots Q (F0 m pc ls (.double x :: .int i :: .ref a :: rest)) := by
  intro T hT X
  obtain ⟨t, st, q⟩ := k _ rfl T hT X
  refine ⟨t, ?_, q⟩
  have h1 := X.dastoreOut hexec (by rw [hT]; exact hP q0 _ ha) ((hK.2 t0 _ ht).1 n (fun j => .double (f j))) (j := i) (by show (i < 0 ∨ (arrV _ _ _).slots.size ≤ _); rw [arrV_size]; exact Classical.byContradiction hout) (g := F0 m pc ls (.double x :: .int i :: .ref a :: rest)) rfl (rest := rest) rfl (by rw [hb]; exact hdg) t
  simp only [arrV_size] at h1
  exact h1 st
theorem vx_arraylengthN (hexec : p.tables.exec = Jvm.exec) (hb : c.code = cc) (hdg : decode cc pc = .ok (.arraylength, 1)) (k : vx_NoteN p l e R s m args below meth c H locs cells slots Q (F0 m pc ls rest)) : W p l e R s m args below meth c H locs cells slots Q (F0 m pc ls (.null :: rest)) := by
  intro T hT X
  obtain ⟨t, st, q⟩ := k T hT X
  exact ⟨t, X.arraylengthNull hexec (g := F0 m pc ls (.null :: rest)) rfl (rest := rest) rfl (by rw [hb]; exact hdg) t st, q⟩
theorem vx_ialoadN (hexec : p.tables.exec = Jvm.exec) (hb : c.code = cc) {i : Int32} (hdg : decode cc pc = .ok (.iaload, 1)) (k : vx_NoteN p l e R s m args below meth c H locs cells slots Q (F0 m pc ls rest)) : W p l e R s m args below meth c H locs cells slots Q (F0 m pc ls (.int i :: .null :: rest)) := by
  intro T hT X
  obtain ⟨t, st, q⟩ := k T hT X
  exact ⟨t, X.ialoadNull hexec (g := F0 m pc ls (.int i :: .null :: rest)) rfl (rest := rest) rfl (by rw [hb]; exact hdg) t st, q⟩
theorem vx_laloadN (hexec : p.tables.exec = Jvm.exec) (hb : c.code = cc) {i : Int32} (hdg : decode cc pc = .ok (.laload, 1)) (k : vx_NoteN p l e R s m args below meth c H locs cells slots Q (F0 m pc ls rest)) : W p l e R s m args below meth c H locs cells slots Q (F0 m pc ls (.int i :: .null :: rest)) := by
  intro T hT X
  obtain ⟨t, st, q⟩ := k T hT X
  exact ⟨t, X.laloadNull hexec (g := F0 m pc ls (.int i :: .null :: rest)) rfl (rest := rest) rfl (by rw [hb]; exact hdg) t st, q⟩
theorem vx_faloadN (hexec : p.tables.exec = Jvm.exec) (hb : c.code = cc) {i : Int32} (hdg : decode cc pc = .ok (.faload, 1)) (k : vx_NoteN p l e R s m args below meth c H locs cells slots Q (F0 m pc ls rest)) : W p l e R s m args below meth c H locs cells slots Q (F0 m pc ls (.int i :: .null :: rest)) := by
  intro T hT X
  obtain ⟨t, st, q⟩ := k T hT X
  exact ⟨t, X.faloadNull hexec (g := F0 m pc ls (.int i :: .null :: rest)) rfl (rest := rest) rfl (by rw [hb]; exact hdg) t st, q⟩
theorem vx_daloadN (hexec : p.tables.exec = Jvm.exec) (hb : c.code = cc) {i : Int32} (hdg : decode cc pc = .ok (.daload, 1)) (k : vx_NoteN p l e R s m args below meth c H locs cells slots Q (F0 m pc ls rest)) : W p l e R s m args below meth c H locs cells slots Q (F0 m pc ls (.int i :: .null :: rest)) := by
  intro T hT X
  obtain ⟨t, st, q⟩ := k T hT X
  exact ⟨t, X.daloadNull hexec (g := F0 m pc ls (.int i :: .null :: rest)) rfl (rest := rest) rfl (by rw [hb]; exact hdg) t st, q⟩
theorem vx_aaloadN (hexec : p.tables.exec = Jvm.exec) (hb : c.code = cc) {i : Int32} (hdg : decode cc pc = .ok (.aaload, 1)) (k : vx_NoteN p l e R s m args below meth c H locs cells slots Q (F0 m pc ls rest)) : W p l e R s m args below meth c H locs cells slots Q (F0 m pc ls (.int i :: .null :: rest)) := by
  intro T hT X
  obtain ⟨t, st, q⟩ := k T hT X
  exact ⟨t, X.aaloadNull hexec (g := F0 m pc ls (.int i :: .null :: rest)) rfl (rest := rest) rfl (by rw [hb]; exact hdg) t st, q⟩
theorem vx_baloadN (hexec : p.tables.exec = Jvm.exec) (hb : c.code = cc) {i : Int32} (hdg : decode cc pc = .ok (.baload, 1)) (k : vx_NoteN p l e R s m args below meth c H locs cells slots Q (F0 m pc ls rest)) : W p l e R s m args below meth c H locs cells slots Q (F0 m pc ls (.int i :: .null :: rest)) := by
  intro T hT X
  obtain ⟨t, st, q⟩ := k T hT X
  exact ⟨t, X.baloadNull hexec (g := F0 m pc ls (.int i :: .null :: rest)) rfl (rest := rest) rfl (by rw [hb]; exact hdg) t st, q⟩
theorem vx_caloadN (hexec : p.tables.exec = Jvm.exec) (hb : c.code = cc) {i : Int32} (hdg : decode cc pc = .ok (.caload, 1)) (k : vx_NoteN p l e R s m args below meth c H locs cells slots Q (F0 m pc ls rest)) : W p l e R s m args below meth c H locs cells slots Q (F0 m pc ls (.int i :: .null :: rest)) := by
  intro T hT X
  obtain ⟨t, st, q⟩ := k T hT X
  exact ⟨t, X.caloadNull hexec (g := F0 m pc ls (.int i :: .null :: rest)) rfl (rest := rest) rfl (by rw [hb]; exact hdg) t st, q⟩
theorem vx_saloadN (hexec : p.tables.exec = Jvm.exec) (hb : c.code = cc) {i : Int32} (hdg : decode cc pc = .ok (.saload, 1)) (k : vx_NoteN p l e R s m args below meth c H locs cells slots Q (F0 m pc ls rest)) : W p l e R s m args below meth c H locs cells slots Q (F0 m pc ls (.int i :: .null :: rest)) := by
  intro T hT X
  obtain ⟨t, st, q⟩ := k T hT X
  exact ⟨t, X.saloadNull hexec (g := F0 m pc ls (.int i :: .null :: rest)) rfl (rest := rest) rfl (by rw [hb]; exact hdg) t st, q⟩
theorem vx_iastoreN (hexec : p.tables.exec = Jvm.exec) (hb : c.code = cc) {x : Int32} {i : Int32} (hdg : decode cc pc = .ok (.iastore, 1)) (k : vx_NoteN p l e R s m args below meth c H locs cells slots Q (F0 m pc ls rest)) : W p l e R s m args below meth c H locs cells slots Q (F0 m pc ls (.int x :: .int i :: .null :: rest)) := by
  intro T hT X
  obtain ⟨t, st, q⟩ := k T hT X
  exact ⟨t, X.iastoreNull hexec (g := F0 m pc ls (.int x :: .int i :: .null :: rest)) rfl (rest := rest) rfl (by rw [hb]; exact hdg) t st, q⟩
theorem vx_lastoreN (hexec : p.tables.exec = Jvm.exec) (hb : c.code = cc) {x : Int64} {i : Int32} (hdg : decode cc pc = .ok (.lastore, 1)) (k : vx_NoteN p l e R s m args below meth c H locs cells slots Q (F0 m pc ls rest)) : W p l e R s m args below meth c H locs cells slots Q (F0 m pc ls (.long x :: .int i :: .null :: rest)) := by
  intro T hT X
  obtain ⟨t, st, q⟩ := k T hT X
  exact ⟨t, X.lastoreNull hexec (g := F0 m pc ls (.long x :: .int i :: .null :: rest)) rfl (rest := rest) rfl (by rw [hb]; exact hdg) t st, q⟩
theorem vx_fastoreN (hexec : p.tables.exec = Jvm.exec) (hb : c.code = cc) {x : UInt32} {i : Int32} (hdg : decode cc pc = .ok (.fastore, 1)) (k : vx_NoteN p l e R s m args below meth c H locs cells slots Q (F0 m pc ls rest)) : W p l e R s m args below meth c H locs cells slots Q (F0 m pc ls (.float x :: .int i :: .null :: rest)) := by
  intro T hT X
  obtain ⟨t, st, q⟩ := k T hT X
  exact ⟨t, X.fastoreNull hexec (g := F0 m pc ls (.float x :: .int i :: .null :: rest)) rfl (rest := rest) rfl (by rw [hb]; exact hdg) t st, q⟩
theorem vx_dastoreN (hexec : p.tables.exec = Jvm.exec) (hb : c.code = cc) {x : UInt64} {i : Int32} (hdg : decode cc pc = .ok (.dastore, 1)) (k : vx_NoteN p l e R s m args below meth c H locs cells slots Q (F0 m pc ls rest)) : W p l e R s m args below meth c H locs cells slots Q (F0 m pc ls (.double x :: .int i :: .null :: rest)) := by
  intro T hT X
  obtain ⟨t, st, q⟩ := k T hT X
  exact ⟨t, X.dastoreNull hexec (g := F0 m pc ls (.double x :: .int i :: .null :: rest)) rfl (rest := rest) rfl (by rw [hb]; exact hdg) t st, q⟩
theorem vx_bastoreN (hexec : p.tables.exec = Jvm.exec) (hb : c.code = cc) {x : Int32} {i : Int32} (hdg : decode cc pc = .ok (.bastore, 1)) (k : vx_NoteN p l e R s m args below meth c H locs cells slots Q (F0 m pc ls rest)) : W p l e R s m args below meth c H locs cells slots Q (F0 m pc ls (.int x :: .int i :: .null :: rest)) := by
  intro T hT X
  obtain ⟨t, st, q⟩ := k T hT X
  exact ⟨t, X.bastoreNull hexec (g := F0 m pc ls (.int x :: .int i :: .null :: rest)) rfl (rest := rest) rfl (by rw [hb]; exact hdg) t st, q⟩
theorem vx_castoreN (hexec : p.tables.exec = Jvm.exec) (hb : c.code = cc) {x : Int32} {i : Int32} (hdg : decode cc pc = .ok (.castore, 1)) (k : vx_NoteN p l e R s m args below meth c H locs cells slots Q (F0 m pc ls rest)) : W p l e R s m args below meth c H locs cells slots Q (F0 m pc ls (.int x :: .int i :: .null :: rest)) := by
  intro T hT X
  obtain ⟨t, st, q⟩ := k T hT X
  exact ⟨t, X.castoreNull hexec (g := F0 m pc ls (.int x :: .int i :: .null :: rest)) rfl (rest := rest) rfl (by rw [hb]; exact hdg) t st, q⟩
theorem vx_sastoreN (hexec : p.tables.exec = Jvm.exec) (hb : c.code = cc) {x : Int32} {i : Int32} (hdg : decode cc pc = .ok (.sastore, 1)) (k : vx_NoteN p l e R s m args below meth c H locs cells slots Q (F0 m pc ls rest)) : W p l e R s m args below meth c H locs cells slots Q (F0 m pc ls (.int x :: .int i :: .null :: rest)) := by
  intro T hT X
  obtain ⟨t, st, q⟩ := k T hT X
  exact ⟨t, X.sastoreNull hexec (g := F0 m pc ls (.int x :: .int i :: .null :: rest)) rfl (rest := rest) rfl (by rw [hb]; exact hdg) t st, q⟩
theorem vx_invokeN {own C : String} {index maxL : Nat} {y : MethodName} {bytes : ByteArray} {ret : Option FieldType} (hexec : p.tables.exec = Jvm.exec) (hb : c.code = cc) (hown : s.vm.findClass own = some m.cls) (hlink : (Cond.methodLink own index y).before args s = true) (hinst : (Cond.instanceMethod y).before args s = true) (hcode : (Cond.code y bytes maxL ret).before args s = true) (hsel : (Cond.selects C y y).before args s = true)
    (hx : y.cls ≠ "java/lang/invoke/MethodHandle" ∧ y.cls ≠ "java/lang/invoke/VarHandle") {As : List Value} (hlen : (parseMethodDescriptor y.desc).map (fun d => d.parameters.length) = some As.length) (hdg : decode cc pc = .ok (.invokevirtual index, 3))
    (k : vx_NoteN p l e R s m args below meth c H locs cells slots Q (F0 m pc ls rest)) {st0 : List Value} (hst : st0 = As.reverse ++ .null :: rest) : W p l e R s m args below meth c H locs cells slots Q (F0 m pc ls st0) := by
  intro T hT X
  obtain ⟨r0, r, hn, hrm, hstR, hsigR⟩ := va_Decl.of hinst hcode
  obtain ⟨c2, r2, m2, q1, q2, q3, q4, kP, hkP, hkPi⟩ := Cond.selects_spec hsel
  cases hn.symm.trans q3
  have hl9 : As.length = r.sig.parameters.length := by
    rw [hsigR] at hlen
    exact (Option.some.inj hlen).symm
  obtain ⟨vm', X1, st1⟩ := X.invokevirtualNull hexec hown hlink hn hrm hstR hkP hkPi hx (g := F0 m pc ls st0) rfl (argsL := As) (rest := rest) hl9 hst (by rw [hb]; exact hdg)
  obtain ⟨t, st, q⟩ := k (T.setVm vm') hT X1
  exact ⟨t, st1 t st, q⟩
theorem vx_newarrayZ {atype : ArrayType} (hexec : p.tables.exec = Jvm.exec) (hb : c.code = cc) {n : Int32} (h0 : n < 0) (hdg : decode cc pc = .ok (.newarray atype, 2)) (k : ∀ tx : String, tx = toString n → vx_Note p l e R s m args below meth c H locs cells slots Q (F0 m pc ls rest) "java/lang/NegativeArraySizeException" tx) : W p l e R s m args below meth c H locs cells slots Q (F0 m pc ls (.int n :: rest)) := by
  intro T hT X
  obtain ⟨t, st, q⟩ := k _ rfl T hT X
  exact ⟨t, X.newarrayNegative hexec (g := F0 m pc ls (.int n :: rest)) rfl h0 (rest := rest) rfl (by rw [hb]; exact hdg) t st, q⟩
end
end VXM
/-! ===== END ===== -/

/-! ===== BEGIN printed: names, fields, word lists, decode rows ===== -/
end
section
/-! ===== BEGIN printed: names, fields, word lists, decode rows ===== -/
def RX0 : String := "DecimalWords$Datum"
def TX0 : u_T := fun k => match k with
  | 0 => ("DecimalWords$Datum", "sort", "I", false)
  | 1 => ("DecimalWords$Datum", "minus", "Z", false)
  | 2 => ("DecimalWords$Datum", "coefficient", "J", false)
  | _ => ("DecimalWords$Datum", "exponent", "I", false)
def tyX0 : Nat → FieldType := fun k => match k with
  | 0 => .int
  | 1 => .boolean
  | 2 => .long
  | _ => .int
abbrev wsX00 : List Cond := u_ws RX0 TX0 4
theorem nmX0 : ∀ a, a < 4 → ∀ b, b < 4 → a ≠ b → (TX0 a).2.1 ≠ (TX0 b).2.1 := by decide +kernel
theorem tyX0_ok : ∀ k, k < 4 → parseFieldDescriptor (TX0 k).2.2.1 = some (tyX0 k) := by decide +kernel
abbrev cX0_init : ByteArray := prog_2_method_1_code
def yX0_init : MethodName := ⟨RX0, "<init>", "()V"⟩
abbrev cX0_setFinite : ByteArray := prog_2_method_2_code
def yX0_setFinite : MethodName := ⟨RX0, "setFinite", "(ZJI)V"⟩
abbrev cX0_setInfinity : ByteArray := prog_2_method_3_code
def yX0_setInfinity : MethodName := ⟨RX0, "setInfinity", "(Z)V"⟩
abbrev cX0_setNothing : ByteArray := prog_2_method_4_code
def yX0_setNothing : MethodName := ⟨RX0, "setNothing", "()V"⟩
abbrev cX0_take : ByteArray := prog_2_method_5_code
def yX0_take : MethodName := ⟨RX0, "take", "(LDecimalWords$Datum;)V"⟩
abbrev cX0_isZero : ByteArray := prog_2_method_6_code
def yX0_isZero : MethodName := ⟨RX0, "isZero", "()Z"⟩
abbrev cX0_side : ByteArray := prog_2_method_7_code
def yX0_side : MethodName := ⟨RX0, "side", "()I"⟩
def RX1 : String := "DecimalWords$Outcome"
def TX1 : u_T := fun k => match k with
  | 0 => ("DecimalWords$Outcome", "minus", "Z", false)
  | 1 => ("DecimalWords$Outcome", "high", "J", false)
  | 2 => ("DecimalWords$Outcome", "low", "J", false)
  | 3 => ("DecimalWords$Outcome", "power", "I", false)
  | 4 => ("DecimalWords$Outcome", "more", "Z", false)
  | 5 => ("DecimalWords$Outcome", "wish", "I", false)
  | 6 => ("DecimalWords$Outcome", "kept", "J", false)
  | _ => ("DecimalWords$Outcome", "rest", "I", false)
def tyX1 : Nat → FieldType := fun k => match k with
  | 0 => .boolean
  | 1 => .long
  | 2 => .long
  | 3 => .int
  | 4 => .boolean
  | 5 => .int
  | 6 => .long
  | _ => .int
abbrev wsX10 : List Cond := u_ws RX1 TX1 8
theorem nmX1 : ∀ a, a < 8 → ∀ b, b < 8 → a ≠ b → (TX1 a).2.1 ≠ (TX1 b).2.1 := by decide +kernel
theorem tyX1_ok : ∀ k, k < 8 → parseFieldDescriptor (TX1 k).2.2.1 = some (tyX1 k) := by decide +kernel
abbrev cX1_init : ByteArray := prog_3_method_1_code
def yX1_init : MethodName := ⟨RX1, "<init>", "()V"⟩
abbrev cX1_isZero : ByteArray := prog_3_method_2_code
def yX1_isZero : MethodName := ⟨RX1, "isZero", "()Z"⟩
abbrev cX1_digits : ByteArray := prog_3_method_3_code
def yX1_digits : MethodName := ⟨RX1, "digits", "()I"⟩
abbrev cX1_setWhole : ByteArray := prog_3_method_4_code
def yX1_setWhole : MethodName := ⟨RX1, "setWhole", "(LDecimalWords$Datum;)V"⟩
abbrev cX1_setSum : ByteArray := prog_3_method_5_code
def yX1_setSum : MethodName := ⟨RX1, "setSum", "(LDecimalWords$Datum;LDecimalWords$Datum;ZZ)V"⟩
abbrev cX1_join : ByteArray := prog_3_method_6_code
def yX1_join : MethodName := ⟨RX1, "join", "(LDecimalWords$Datum;LDecimalWords$Datum;Z)V"⟩
abbrev cX1_addToLow : ByteArray := prog_3_method_7_code
def yX1_addToLow : MethodName := ⟨RX1, "addToLow", "(J)V"⟩
abbrev cX1_setProduct : ByteArray := prog_3_method_8_code
def yX1_setProduct : MethodName := ⟨RX1, "setProduct", "(LDecimalWords$Datum;LDecimalWords$Datum;)V"⟩
abbrev cX1_setQuotient : ByteArray := prog_3_method_9_code
def yX1_setQuotient : MethodName := ⟨RX1, "setQuotient", "(LDecimalWords$Datum;LDecimalWords$Datum;)V"⟩
abbrev cX1_dropZeros : ByteArray := prog_3_method_10_code
def yX1_dropZeros : MethodName := ⟨RX1, "dropZeros", "()V"⟩
abbrev cX1_cut : ByteArray := prog_3_method_11_code
def yX1_cut : MethodName := ⟨RX1, "cut", "(I)V"⟩
abbrev cX1_restOf : ByteArray := prog_3_method_12_code
def yX1_restOf : MethodName := ⟨RX1, "restOf", "(JJZ)I"⟩
def RX2 : String := "DecimalWords$Packing"
def TX2 : u_T := fun k => match k with
  | _ => ("", "", "", false)
def tyX2 : Nat → FieldType := fun k => match k with
  | _ => .int
abbrev wsX20 : List Cond := u_ws RX2 TX2 0
theorem nmX2 : ∀ a, a < 0 → ∀ b, b < 0 → a ≠ b → (TX2 a).2.1 ≠ (TX2 b).2.1 := by decide +kernel
theorem tyX2_ok : ∀ k, k < 0 → parseFieldDescriptor (TX2 k).2.2.1 = some (tyX2 k) := by decide +kernel
abbrev cX2_wordOf : ByteArray := prog_4_method_2_code
def yX2_wordOf : MethodName := ⟨RX2, "wordOf", "(LDecimalWords$Datum;Z)J"⟩
abbrev cX2_binaryWord : ByteArray := prog_4_method_3_code
def yX2_binaryWord : MethodName := ⟨RX2, "binaryWord", "(JJ)J"⟩
abbrev cX2_digitWord : ByteArray := prog_4_method_4_code
def yX2_digitWord : MethodName := ⟨RX2, "digitWord", "(JJ)J"⟩
abbrev cX2_groupOf : ByteArray := prog_4_method_5_code
def yX2_groupOf : MethodName := ⟨RX2, "groupOf", "(III)I"⟩
abbrev cX2_read : ByteArray := prog_4_method_6_code
def yX2_read : MethodName := ⟨RX2, "read", "(LDecimalWords$Datum;ZJ)V"⟩
abbrev cX2_readBinary : ByteArray := prog_4_method_7_code
def yX2_readBinary : MethodName := ⟨RX2, "readBinary", "(LDecimalWords$Datum;ZJ)V"⟩
abbrev cX2_readDigits : ByteArray := prog_4_method_8_code
def yX2_readDigits : MethodName := ⟨RX2, "readDigits", "(LDecimalWords$Datum;ZJ)V"⟩
abbrev cX2_digitsOfGroup : ByteArray := prog_4_method_9_code
def yX2_digitsOfGroup : MethodName := ⟨RX2, "digitsOfGroup", "(I)I"⟩
abbrev cX2_digitsOfGreatGroup : ByteArray := prog_4_method_10_code
def yX2_digitsOfGreatGroup : MethodName := ⟨RX2, "digitsOfGreatGroup", "(III)I"⟩
abbrev cX2_three : ByteArray := prog_4_method_11_code
def yX2_three : MethodName := ⟨RX2, "three", "(III)I"⟩
def RX3 : String := "DecimalWords"
def TX3 : u_T := fun k => match k with
  | 0 => ("DecimalWords", "registers", "[LDecimalWords$Datum;", true)
  | 1 => ("DecimalWords", "result", "LDecimalWords$Datum;", true)
  | 2 => ("DecimalWords", "outcome", "LDecimalWords$Outcome;", true)
  | 3 => ("DecimalWords", "rounding", "I", false)
  | 4 => ("DecimalWords", "traps", "I", false)
  | 5 => ("DecimalWords", "standing", "I", false)
  | _ => ("DecimalWords", "raisedNow", "I", false)
def tyX3 : Nat → FieldType := fun k => match k with
  | 0 => .array (.object "DecimalWords$Datum")
  | 1 => .object "DecimalWords$Datum"
  | 2 => .object "DecimalWords$Outcome"
  | 3 => .int
  | 4 => .int
  | 5 => .int
  | _ => .int
abbrev wsX30 : List Cond := u_ws RX3 TX3 7
theorem nmX3 : ∀ a, a < 7 → ∀ b, b < 7 → a ≠ b → (TX3 a).2.1 ≠ (TX3 b).2.1 := by decide +kernel
theorem tyX3_ok : ∀ k, k < 7 → parseFieldDescriptor (TX3 k).2.2.1 = some (tyX3 k) := by decide +kernel
abbrev cX3_init : ByteArray := prog_1_method_1_code
def yX3_init : MethodName := ⟨RX3, "<init>", "()V"⟩
abbrev cX3_put : ByteArray := prog_1_method_2_code
def yX3_put : MethodName := ⟨RX3, "put", "(IZJI)V"⟩
abbrev cX3_apply : ByteArray := prog_1_method_3_code
def yX3_apply : MethodName := ⟨RX3, "apply", "(IIII)V"⟩
abbrev cX3_compare : ByteArray := prog_1_method_4_code
def yX3_compare : MethodName := ⟨RX3, "compare", "(II)I"⟩
abbrev cX3_kind : ByteArray := prog_1_method_5_code
def yX3_kind : MethodName := ⟨RX3, "kind", "(I)I"⟩
abbrev cX3_coefficient : ByteArray := prog_1_method_6_code
def yX3_coefficient : MethodName := ⟨RX3, "coefficient", "(I)J"⟩
abbrev cX3_exponent : ByteArray := prog_1_method_7_code
def yX3_exponent : MethodName := ⟨RX3, "exponent", "(I)I"⟩
abbrev cX3_pack : ByteArray := prog_1_method_8_code
def yX3_pack : MethodName := ⟨RX3, "pack", "(II)J"⟩
abbrev cX3_unpack : ByteArray := prog_1_method_9_code
def yX3_unpack : MethodName := ⟨RX3, "unpack", "(IIJ)V"⟩
abbrev cX3_mode : ByteArray := prog_1_method_10_code
def yX3_mode : MethodName := ⟨RX3, "mode", "(I)V"⟩
abbrev cX3_trap : ByteArray := prog_1_method_11_code
def yX3_trap : MethodName := ⟨RX3, "trap", "(I)V"⟩
abbrev cX3_flags : ByteArray := prog_1_method_12_code
def yX3_flags : MethodName := ⟨RX3, "flags", "()I"⟩
abbrev cX3_lower : ByteArray := prog_1_method_13_code
def yX3_lower : MethodName := ⟨RX3, "lower", "()V"⟩
abbrev cX3_sum : ByteArray := prog_1_method_14_code
def yX3_sum : MethodName := ⟨RX3, "sum", "(III)I"⟩
abbrev cX3_needRegister : ByteArray := prog_1_method_15_code
def yX3_needRegister : MethodName := ⟨RX3, "needRegister", "(I)V"⟩
abbrev cX3_needWay : ByteArray := prog_1_method_16_code
def yX3_needWay : MethodName := ⟨RX3, "needWay", "(I)V"⟩
abbrev cX3_operate : ByteArray := prog_1_method_17_code
def yX3_operate : MethodName := ⟨RX3, "operate", "(IIII)Z"⟩
abbrev cX3_setResult : ByteArray := prog_1_method_18_code
def yX3_setResult : MethodName := ⟨RX3, "setResult", "(ILDecimalWords$Datum;LDecimalWords$Datum;)V"⟩
abbrev cX3_setFromInfinity : ByteArray := prog_1_method_19_code
def yX3_setFromInfinity : MethodName := ⟨RX3, "setFromInfinity", "(ILDecimalWords$Datum;LDecimalWords$Datum;)V"⟩
abbrev cX3_addInfinity : ByteArray := prog_1_method_20_code
def yX3_addInfinity : MethodName := ⟨RX3, "addInfinity", "(LDecimalWords$Datum;LDecimalWords$Datum;Z)V"⟩
abbrev cX3_setFromFinite : ByteArray := prog_1_method_21_code
def yX3_setFromFinite : MethodName := ⟨RX3, "setFromFinite", "(ILDecimalWords$Datum;LDecimalWords$Datum;)V"⟩
abbrev cX3_divide : ByteArray := prog_1_method_22_code
def yX3_divide : MethodName := ⟨RX3, "divide", "(LDecimalWords$Datum;LDecimalWords$Datum;)V"⟩
abbrev cX3_quantize : ByteArray := prog_1_method_23_code
def yX3_quantize : MethodName := ⟨RX3, "quantize", "(LDecimalWords$Datum;I)V"⟩
abbrev cX3_setNext : ByteArray := prog_1_method_24_code
def yX3_setNext : MethodName := ⟨RX3, "setNext", "(LDecimalWords$Datum;)V"⟩
abbrev cX3_stepToZero : ByteArray := prog_1_method_25_code
def yX3_stepToZero : MethodName := ⟨RX3, "stepToZero", "(JI)V"⟩
abbrev cX3_stepFromZero : ByteArray := prog_1_method_26_code
def yX3_stepFromZero : MethodName := ⟨RX3, "stepFromZero", "(JI)V"⟩
abbrev cX3_raise : ByteArray := prog_1_method_27_code
def yX3_raise : MethodName := ⟨RX3, "raise", "(I)V"⟩
abbrev cX3_setInvalid : ByteArray := prog_1_method_28_code
def yX3_setInvalid : MethodName := ⟨RX3, "setInvalid", "()V"⟩
abbrev cX3_fit : ByteArray := prog_1_method_29_code
def yX3_fit : MethodName := ⟨RX3, "fit", "()V"⟩
abbrev cX3_fitWithoutRest : ByteArray := prog_1_method_30_code
def yX3_fitWithoutRest : MethodName := ⟨RX3, "fitWithoutRest", "()Z"⟩
abbrev cX3_fitRounded : ByteArray := prog_1_method_31_code
def yX3_fitRounded : MethodName := ⟨RX3, "fitRounded", "()V"⟩
abbrev cX3_setTooGreat : ByteArray := prog_1_method_32_code
def yX3_setTooGreat : MethodName := ⟨RX3, "setTooGreat", "()V"⟩
abbrev cX3_roundedKept : ByteArray := prog_1_method_33_code
def yX3_roundedKept : MethodName := ⟨RX3, "roundedKept", "(Z)J"⟩
abbrev cX3_order : ByteArray := prog_1_method_34_code
def yX3_order : MethodName := ⟨RX3, "order", "(LDecimalWords$Datum;LDecimalWords$Datum;)I"⟩
abbrev cX3_orderOfSizes : ByteArray := prog_1_method_35_code
def yX3_orderOfSizes : MethodName := ⟨RX3, "orderOfSizes", "(LDecimalWords$Datum;LDecimalWords$Datum;)I"⟩
abbrev cX3_orderOf : ByteArray := prog_1_method_36_code
def yX3_orderOf : MethodName := ⟨RX3, "orderOf", "(JJ)I"⟩
abbrev cX3_tenTo : ByteArray := prog_1_method_37_code
def yX3_tenTo : MethodName := ⟨RX3, "tenTo", "(I)J"⟩
abbrev cX3_digitsOf : ByteArray := prog_1_method_38_code
def yX3_digitsOf : MethodName := ⟨RX3, "digitsOf", "(J)I"⟩
def RX4 : String := "DecimalWordsModel"
def TX4 : u_T := fun k => match k with
  | 0 => ("DecimalWordsModel", "thrown", "I", false)
  | 1 => ("DecimalWordsModel", "kinds", "[I", false)
  | 2 => ("DecimalWordsModel", "minus", "[Z", false)
  | 3 => ("DecimalWordsModel", "coefficients", "[J", false)
  | 4 => ("DecimalWordsModel", "exponents", "[I", false)
  | 5 => ("DecimalWordsModel", "mode", "I", false)
  | 6 => ("DecimalWordsModel", "flags", "I", false)
  | 7 => ("DecimalWordsModel", "traps", "I", false)
  | 8 => ("DecimalWordsModel", "kind", "I", false)
  | 9 => ("DecimalWordsModel", "negative", "Z", false)
  | 10 => ("DecimalWordsModel", "c", "J", false)
  | 11 => ("DecimalWordsModel", "q", "I", false)
  | 12 => ("DecimalWordsModel", "raised", "I", false)
  | 13 => ("DecimalWordsModel", "count", "I", false)
  | 14 => ("DecimalWordsModel", "digits", "[I", false)
  | 15 => ("DecimalWordsModel", "others", "[I", false)
  | 16 => ("DecimalWordsModel", "unit", "I", false)
  | _ => ("DecimalWordsModel", "rest", "Z", false)
def tyX4 : Nat → FieldType := fun k => match k with
  | 0 => .int
  | 1 => .array .int
  | 2 => .array .boolean
  | 3 => .array .long
  | 4 => .array .int
  | 5 => .int
  | 6 => .int
  | 7 => .int
  | 8 => .int
  | 9 => .boolean
  | 10 => .long
  | 11 => .int
  | 12 => .int
  | 13 => .int
  | 14 => .array .int
  | 15 => .array .int
  | 16 => .int
  | _ => .boolean
abbrev wsX40 : List Cond := u_ws RX4 TX4 18
theorem nmX4 : ∀ a, a < 18 → ∀ b, b < 18 → a ≠ b → (TX4 a).2.1 ≠ (TX4 b).2.1 := by decide +kernel
theorem tyX4_ok : ∀ k, k < 18 → parseFieldDescriptor (TX4 k).2.2.1 = some (tyX4 k) := by decide +kernel
abbrev cX4_init : ByteArray := prog_6_method_1_code
def yX4_init : MethodName := ⟨RX4, "<init>", "()V"⟩
abbrev cX4_thrown : ByteArray := prog_6_method_2_code
def yX4_thrown : MethodName := ⟨RX4, "thrown", "()I"⟩
abbrev cX4_clear : ByteArray := prog_6_method_3_code
def yX4_clear : MethodName := ⟨RX4, "clear", "()V"⟩
abbrev cX4_lay : ByteArray := prog_6_method_4_code
def yX4_lay : MethodName := ⟨RX4, "lay", "(JI)V"⟩
abbrev cX4_layOther : ByteArray := prog_6_method_5_code
def yX4_layOther : MethodName := ⟨RX4, "layOther", "(JI)V"⟩
abbrev cX4_trim : ByteArray := prog_6_method_6_code
def yX4_trim : MethodName := ⟨RX4, "trim", "()V"⟩
abbrev cX4_whole : ByteArray := prog_6_method_7_code
def yX4_whole : MethodName := ⟨RX4, "whole", "(I)J"⟩
abbrev cX4_times : ByteArray := prog_6_method_8_code
def yX4_times : MethodName := ⟨RX4, "times", "(JI)J"⟩
abbrev cX4_be : ByteArray := prog_6_method_9_code
def yX4_be : MethodName := ⟨RX4, "be", "(IZJI)V"⟩
abbrev cX4_invalid : ByteArray := prog_6_method_10_code
def yX4_invalid : MethodName := ⟨RX4, "invalid", "()V"⟩
abbrev cX4_between : ByteArray := prog_6_method_11_code
def yX4_between : MethodName := ⟨RX4, "between", "(III)I"⟩
abbrev cX4_rounded : ByteArray := prog_6_method_12_code
def yX4_rounded : MethodName := ⟨RX4, "rounded", "(IZ)J"⟩
abbrev cX4_fit : ByteArray := prog_6_method_13_code
def yX4_fit : MethodName := ⟨RX4, "fit", "(ZI)V"⟩
abbrev cX4_great : ByteArray := prog_6_method_14_code
def yX4_great : MethodName := ⟨RX4, "great", "(Z)V"⟩
abbrev cX4_is : ByteArray := prog_6_method_15_code
def yX4_is : MethodName := ⟨RX4, "is", "(II)Z"⟩
abbrev cX4_less : ByteArray := prog_6_method_16_code
def yX4_less : MethodName := ⟨RX4, "less", "()Z"⟩
abbrev cX4_addDigits : ByteArray := prog_6_method_17_code
def yX4_addDigits : MethodName := ⟨RX4, "addDigits", "()V"⟩
abbrev cX4_subtractDigits : ByteArray := prog_6_method_18_code
def yX4_subtractDigits : MethodName := ⟨RX4, "subtractDigits", "()Z"⟩
abbrev cX4_add : ByteArray := prog_6_method_19_code
def yX4_add : MethodName := ⟨RX4, "add", "(IIZ)V"⟩
abbrev cX4_multiply : ByteArray := prog_6_method_20_code
def yX4_multiply : MethodName := ⟨RX4, "multiply", "(II)V"⟩
abbrev cX4_divide : ByteArray := prog_6_method_21_code
def yX4_divide : MethodName := ⟨RX4, "divide", "(II)V"⟩
abbrev cX4_quantize : ByteArray := prog_6_method_22_code
def yX4_quantize : MethodName := ⟨RX4, "quantize", "(II)V"⟩
abbrev cX4_lengthOf : ByteArray := prog_6_method_23_code
def yX4_lengthOf : MethodName := ⟨RX4, "lengthOf", "(J)I"⟩
abbrev cX4_compareSizes : ByteArray := prog_6_method_24_code
def yX4_compareSizes : MethodName := ⟨RX4, "compareSizes", "(II)I"⟩
abbrev cX4_signOf : ByteArray := prog_6_method_25_code
def yX4_signOf : MethodName := ⟨RX4, "signOf", "(I)I"⟩
abbrev cX4_order : ByteArray := prog_6_method_26_code
def yX4_order : MethodName := ⟨RX4, "order", "(II)I"⟩
abbrev cX4_next : ByteArray := prog_6_method_27_code
def yX4_next : MethodName := ⟨RX4, "next", "(I)V"⟩
abbrev cX4_copy : ByteArray := prog_6_method_28_code
def yX4_copy : MethodName := ⟨RX4, "copy", "(I)V"⟩
abbrev cX4_operate : ByteArray := prog_6_method_29_code
def yX4_operate : MethodName := ⟨RX4, "operate", "(III)V"⟩
abbrev cX4_noRegister : ByteArray := prog_6_method_30_code
def yX4_noRegister : MethodName := ⟨RX4, "noRegister", "(I)Z"⟩
abbrev cX4_store : ByteArray := prog_6_method_31_code
def yX4_store : MethodName := ⟨RX4, "store", "(I)V"⟩
abbrev cX4_apply : ByteArray := prog_6_method_32_code
def yX4_apply : MethodName := ⟨RX4, "apply", "(IIII)V"⟩
abbrev cX4_sum : ByteArray := prog_6_method_33_code
def yX4_sum : MethodName := ⟨RX4, "sum", "(III)I"⟩
abbrev cX4_put : ByteArray := prog_6_method_34_code
def yX4_put : MethodName := ⟨RX4, "put", "(IZJI)V"⟩
abbrev cX4_compare : ByteArray := prog_6_method_35_code
def yX4_compare : MethodName := ⟨RX4, "compare", "(II)I"⟩
abbrev cX4_kind : ByteArray := prog_6_method_36_code
def yX4_kind : MethodName := ⟨RX4, "kind", "(I)I"⟩
abbrev cX4_coefficient : ByteArray := prog_6_method_37_code
def yX4_coefficient : MethodName := ⟨RX4, "coefficient", "(I)J"⟩
abbrev cX4_exponent : ByteArray := prog_6_method_38_code
def yX4_exponent : MethodName := ⟨RX4, "exponent", "(I)I"⟩
abbrev cX4_ten : ByteArray := prog_6_method_39_code
def yX4_ten : MethodName := ⟨RX4, "ten", "(III)I"⟩
abbrev cX4_three : ByteArray := prog_6_method_40_code
def yX4_three : MethodName := ⟨RX4, "three", "(I)I"⟩
abbrev cX4_packDigits : ByteArray := prog_6_method_41_code
def yX4_packDigits : MethodName := ⟨RX4, "packDigits", "(I)J"⟩
abbrev cX4_pack : ByteArray := prog_6_method_42_code
def yX4_pack : MethodName := ⟨RX4, "pack", "(II)J"⟩
abbrev cX4_unpack : ByteArray := prog_6_method_43_code
def yX4_unpack : MethodName := ⟨RX4, "unpack", "(IIJ)V"⟩
abbrev cX4_mode : ByteArray := prog_6_method_44_code
def yX4_mode : MethodName := ⟨RX4, "mode", "(I)V"⟩
abbrev cX4_trap : ByteArray := prog_6_method_45_code
def yX4_trap : MethodName := ⟨RX4, "trap", "(I)V"⟩
abbrev cX4_flags : ByteArray := prog_6_method_46_code
def yX4_flags : MethodName := ⟨RX4, "flags", "()I"⟩
abbrev cX4_lower : ByteArray := prog_6_method_47_code
def yX4_lower : MethodName := ⟨RX4, "lower", "()V"⟩
def RJx00060 : String := "java/lang/ArrayIndexOutOfBoundsException"
def TJx00060 : u_T := fun k => match k with
  | 0 => ("java/lang/Throwable", "backtrace", "Ljava/lang/Object;", false)
  | 1 => ("java/lang/Throwable", "detailMessage", "Ljava/lang/String;", false)
  | 2 => ("java/lang/Throwable", "cause", "Ljava/lang/Throwable;", false)
  | 3 => ("java/lang/Throwable", "stackTrace", "[Ljava/lang/StackTraceElement;", false)
  | 4 => ("java/lang/Throwable", "depth", "I", false)
  | _ => ("java/lang/Throwable", "suppressedExceptions", "Ljava/util/List;", false)
def tyJx00060 : Nat → FieldType := fun k => match k with
  | 0 => .object "java/lang/Object"
  | 1 => .object "java/lang/String"
  | 2 => .object "java/lang/Throwable"
  | 3 => .array (.object "java/lang/StackTraceElement")
  | 4 => .int
  | _ => .object "java/util/List"
abbrev wsJx000600 : List Cond := u_ws RJx00060 TJx00060 6
theorem nmJx00060 : ∀ a, a < 6 → ∀ b, b < 6 → a ≠ b → (TJx00060 a).2.1 ≠ (TJx00060 b).2.1 := by decide +kernel
theorem tyJx00060_ok : ∀ k, k < 6 → parseFieldDescriptor (TJx00060 k).2.2.1 = some (tyJx00060 k) := by decide +kernel
abbrev cJx00060_init_a7421 : ByteArray := prog_8_method_2_code
def yJx00060_init_a7421 : MethodName := ⟨RJx00060, "<init>", "(Ljava/lang/String;)V"⟩
def RJ9 : String := "java/lang/Math"
def TJ9 : u_T := fun k => match k with
  | _ => ("", "", "", false)
def tyJ9 : Nat → FieldType := fun k => match k with
  | _ => .int
abbrev wsJ90 : List Cond := u_ws RJ9 TJ9 0
theorem nmJ9 : ∀ a, a < 0 → ∀ b, b < 0 → a ≠ b → (TJ9 a).2.1 ≠ (TJ9 b).2.1 := by decide +kernel
theorem tyJ9_ok : ∀ k, k < 0 → parseFieldDescriptor (TJ9 k).2.2.1 = some (tyJ9 k) := by decide +kernel
abbrev cJ9_max_7cf53 : ByteArray := prog_12_method_65_code
def yJ9_max_7cf53 : MethodName := ⟨RJ9, "max", "(II)I"⟩
abbrev cJ9_max_f86c9 : ByteArray := prog_12_method_66_code
def yJ9_max_f86c9 : MethodName := ⟨RJ9, "max", "(JJ)J"⟩
abbrev cJ9_min_7cf53 : ByteArray := prog_12_method_69_code
def yJ9_min_7cf53 : MethodName := ⟨RJ9, "min", "(II)I"⟩
def RJ0 : String := "java/lang/String"
def TJ0 : u_T := fun k => match k with
  | 0 => ("java/lang/String", "value", "[B", true)
  | _ => ("java/lang/String", "coder", "B", true)
def tyJ0 : Nat → FieldType := fun k => match k with
  | 0 => .array .byte
  | _ => .byte
abbrev wsJ00 : List Cond := u_ws RJ0 TJ0 2
theorem nmJ0 : ∀ a, a < 2 → ∀ b, b < 2 → a ≠ b → (TJ0 a).2.1 ≠ (TJ0 b).2.1 := by decide +kernel
theorem tyJ0_ok : ∀ k, k < 2 → parseFieldDescriptor (TJ0 k).2.2.1 = some (tyJ0 k) := by decide +kernel
def RL : String := "DecimalWordsLaw"
abbrev cL_put : ByteArray := method_3_code
def yL_put : MethodName := ⟨RL, "put", "(LDecimalWords;IZJI)I"⟩
abbrev cL_apply : ByteArray := method_4_code
def yL_apply : MethodName := ⟨RL, "apply", "(LDecimalWords;IIII)I"⟩
abbrev cL_compare : ByteArray := method_5_code
def yL_compare : MethodName := ⟨RL, "compare", "(LDecimalWords;II[J)I"⟩
abbrev cL_kind : ByteArray := method_6_code
def yL_kind : MethodName := ⟨RL, "kind", "(LDecimalWords;I[J)I"⟩
abbrev cL_coefficient : ByteArray := method_7_code
def yL_coefficient : MethodName := ⟨RL, "coefficient", "(LDecimalWords;I[J)I"⟩
abbrev cL_exponent : ByteArray := method_8_code
def yL_exponent : MethodName := ⟨RL, "exponent", "(LDecimalWords;I[J)I"⟩
abbrev cL_pack : ByteArray := method_9_code
def yL_pack : MethodName := ⟨RL, "pack", "(LDecimalWords;II[J)I"⟩
abbrev cL_unpack : ByteArray := method_10_code
def yL_unpack : MethodName := ⟨RL, "unpack", "(LDecimalWords;IIJ)I"⟩
abbrev cL_mode : ByteArray := method_11_code
def yL_mode : MethodName := ⟨RL, "mode", "(LDecimalWords;I)I"⟩
abbrev cL_trap : ByteArray := method_12_code
def yL_trap : MethodName := ⟨RL, "trap", "(LDecimalWords;I)I"⟩
abbrev cL_sum : ByteArray := method_13_code
def yL_sum : MethodName := ⟨RL, "sum", "(LDecimalWords;III[J)I"⟩
abbrev cL_law : ByteArray := code
def yL_law : MethodName := ⟨RL, "law", "([I)Z"⟩
theorem dJx00060_init_a7421_0 : decode cJx00060_init_a7421 0 = .ok (.aload_n 0, 1) := by decide +kernel
theorem dJx00060_init_a7421_1 : decode cJx00060_init_a7421 1 = .ok (.aload_n 1, 1) := by decide +kernel
theorem dJx00060_init_a7421_2 : decode cJx00060_init_a7421 2 = .ok (.invokespecial 7, 3) := by decide +kernel
theorem dJx00060_init_a7421_5 : decode cJx00060_init_a7421 5 = .ok (.return_, 1) := by decide +kernel
theorem dJ9_max_7cf53_0 : decode cJ9_max_7cf53 0 = .ok (.iload_n 0, 1) := by decide +kernel
theorem dJ9_max_7cf53_1 : decode cJ9_max_7cf53 1 = .ok (.iload_n 1, 1) := by decide +kernel
theorem dJ9_max_7cf53_2 : decode cJ9_max_7cf53 2 = .ok (.if_icmp .lt 7, 3) := by decide +kernel
theorem dJ9_max_7cf53_5 : decode cJ9_max_7cf53 5 = .ok (.iload_n 0, 1) := by decide +kernel
theorem dJ9_max_7cf53_6 : decode cJ9_max_7cf53 6 = .ok (.goto 4, 3) := by decide +kernel
theorem dJ9_max_7cf53_9 : decode cJ9_max_7cf53 9 = .ok (.iload_n 1, 1) := by decide +kernel
theorem dJ9_max_7cf53_10 : decode cJ9_max_7cf53 10 = .ok (.ireturn, 1) := by decide +kernel
theorem dJ9_max_f86c9_0 : decode cJ9_max_f86c9 0 = .ok (.lload_n 0, 1) := by decide +kernel
theorem dJ9_max_f86c9_1 : decode cJ9_max_f86c9 1 = .ok (.lload_n 2, 1) := by decide +kernel
theorem dJ9_max_f86c9_2 : decode cJ9_max_f86c9 2 = .ok (.lcmp, 1) := by decide +kernel
theorem dJ9_max_f86c9_3 : decode cJ9_max_f86c9 3 = .ok (.ifCond .lt 7, 3) := by decide +kernel
theorem dJ9_max_f86c9_6 : decode cJ9_max_f86c9 6 = .ok (.lload_n 0, 1) := by decide +kernel
theorem dJ9_max_f86c9_7 : decode cJ9_max_f86c9 7 = .ok (.goto 4, 3) := by decide +kernel
theorem dJ9_max_f86c9_10 : decode cJ9_max_f86c9 10 = .ok (.lload_n 2, 1) := by decide +kernel
theorem dJ9_max_f86c9_11 : decode cJ9_max_f86c9 11 = .ok (.lreturn, 1) := by decide +kernel
theorem dJ9_min_7cf53_0 : decode cJ9_min_7cf53 0 = .ok (.iload_n 0, 1) := by decide +kernel
theorem dJ9_min_7cf53_1 : decode cJ9_min_7cf53 1 = .ok (.iload_n 1, 1) := by decide +kernel
theorem dJ9_min_7cf53_2 : decode cJ9_min_7cf53 2 = .ok (.if_icmp .gt 7, 3) := by decide +kernel
theorem dJ9_min_7cf53_5 : decode cJ9_min_7cf53 5 = .ok (.iload_n 0, 1) := by decide +kernel
theorem dJ9_min_7cf53_6 : decode cJ9_min_7cf53 6 = .ok (.goto 4, 3) := by decide +kernel
theorem dJ9_min_7cf53_9 : decode cJ9_min_7cf53 9 = .ok (.iload_n 1, 1) := by decide +kernel
theorem dJ9_min_7cf53_10 : decode cJ9_min_7cf53 10 = .ok (.ireturn, 1) := by decide +kernel
abbrev vwCl : List vw_C := [(RJ0, TJ0, 2), (RJx00060, TJx00060, 6), (RX0, TX0, 4), (RX1, TX1, 8), (RX3, TX3, 7), (RX4, TX4, 18)]
end
section
/-! ===== the words of all methods, one list ===== -/
theorem inT_1 : ∀ w ∈ tables_1_1, w ∈ lw_tbl := fun _ h => List.mem_append_right _ (List.mem_append_left _ h)
theorem inT_2 : ∀ w ∈ tables_1_2, w ∈ lw_tbl := fun _ h => List.mem_append_right _ (List.mem_append_right _ (List.mem_append_left _ h))
theorem inT_3 : ∀ w ∈ tables_1_3, w ∈ lw_tbl := fun _ h => List.mem_append_right _ (List.mem_append_right _ (List.mem_append_right _ (List.mem_append_left _ h)))
theorem inT_4 : ∀ w ∈ tables_1_4, w ∈ lw_tbl := fun _ h => List.mem_append_right _ (List.mem_append_right _ (List.mem_append_right _ (List.mem_append_right _ (h))))
theorem inT_p : ∀ w ∈ k2_sels lw_privs, w ∈ lw_tbl := fun _ h => List.mem_append_left _ h
def gW_1 : List Cond := [.code yX0_init cX0_init 1 none, .methodLink RX0 3 objectInit, .instanceMethod objectInit, .code yX0_setFinite cX0_setFinite 5 none, .fieldLink RX0 9 "DecimalWords$Datum" "sort" "I", .fieldLink RX0 15 "DecimalWords$Datum" "minus" "Z", .fieldLink RX0 19 "DecimalWords$Datum" "coefficient" "J", .fieldLink RX0 23 "DecimalWords$Datum" "exponent" "I", .code yX0_setInfinity cX0_setInfinity 2 none, .code yX0_setNothing cX0_setNothing 1 none, .code yX0_take cX0_take 2 none, .code yX0_isZero cX0_isZero 1 (some .boolean), .code yX0_side cX0_side 1 (some .int), .methodLink RX0 26 yX0_isZero, .instanceMethod yX0_isZero, .selects RX0 yX0_isZero yX0_isZero, .initialized RX0, .code yX1_init cX1_init 1 none, .methodLink RX1 3 objectInit, .code yX1_isZero cX1_isZero 1 (some .boolean), .fieldLink RX1 9 "DecimalWords$Outcome" "high" "J", .fieldLink RX1 15 "DecimalWords$Outcome" "low" "J", .fieldLink RX1 18 "DecimalWords$Outcome" "more" "Z", .code yX1_digits cX1_digits 1 (some .int), .static yX3_digitsOf, .initialized RX3, .code yX3_digitsOf cX3_digitsOf 3 (some .int), .fieldLink RX3 260 "DecimalWords" "TENS" "[J", .code yX1_setWhole cX1_setWhole 2 none, .fieldLink RX1 26 "DecimalWords$Datum" "minus" "Z", .fieldLink RX1 31 "DecimalWords$Outcome" "minus" "Z", .fieldLink RX1 32 "DecimalWords$Datum" "coefficient" "J", .fieldLink RX1 35 "DecimalWords$Datum" "exponent" "I", .fieldLink RX1 39 "DecimalWords$Outcome" "power" "I", .code yX1_setSum cX1_setSum 6 none, .methodLink RX1 55 Lib.Math.min.name, .static Lib.Math.min.name, .initialized "java/lang/Math", .code Lib.Math.min.name Lib.Math.min.code 2 (some .int), .fieldLink RX1 61 "DecimalWords$Outcome" "wish" "I"]
def gW_2 : List Cond := [.methodLink RX1 42 yX0_isZero, .methodLink RX1 46 yX1_setWhole, .instanceMethod yX1_setWhole, .selects RX1 yX1_setWhole yX1_setWhole, .initialized RX1, .methodLink RX1 50 yX1_join, .instanceMethod yX1_join, .selects RX1 yX1_join yX1_join, .code yX1_join cX1_join 12 none, .static yX3_tenTo, .code yX3_tenTo cX3_tenTo 1 (some .long), .methodLink RX3 194 Lib.Math.min.name, .methodLink RX3 213 Lib.Math.max.name, .static Lib.Math.max.name, .code Lib.Math.max.name Lib.Math.max.code 2 (some .int), .methodLink RX1 68 yX1_addToLow, .instanceMethod yX1_addToLow, .selects RX1 yX1_addToLow yX1_addToLow, .code yX1_addToLow cX1_addToLow 3 none, .constantLong RX1 72 (10000000000000000), .methodLink RX1 54 yX1_isZero, .instanceMethod yX1_isZero, .selects RX1 yX1_isZero yX1_isZero, .code yX1_setProduct cX1_setProduct 13 none, .constantLong RX1 74 (100000000), .code yX1_setQuotient cX1_setQuotient 8 none, .methodLink RX1 76 Lib.MathLoose.max_long.x, .static Lib.MathLoose.max_long.x, .code Lib.MathLoose.max_long.x Lib.MathLoose.max_long.code 4 (some .long), .constantLong RX1 80 (10), .code yX1_dropZeros cX1_dropZeros 2 none, .constantLong RX1 82 (1000000000000000), .code yX1_cut cX1_cut 4 none, .fieldLink RX1 84 "DecimalWords$Outcome" "kept" "J", .fieldLink RX1 87 "DecimalWords$Outcome" "rest" "I", .methodLink RX1 90 yX1_restOf, .static yX1_restOf, .code yX1_restOf cX1_restOf 7 (some .int), .constantLong RX1 94 (2), .code yX2_wordOf cX2_wordOf 6 (some .long)]
def gW_3 : List Cond := [.fieldLink RX2 9 "DecimalWords$Datum" "minus" "Z", .constantLong RX2 15 (-9223372036854775808), .fieldLink RX2 17 "DecimalWords$Datum" "sort" "I", .constantLong RX2 23 (8646911284551352320), .constantLong RX2 25 (8935141660703064064), .fieldLink RX2 27 "DecimalWords$Datum" "exponent" "I", .fieldLink RX2 30 "DecimalWords$Datum" "coefficient" "J", .methodLink RX2 34 yX2_digitWord, .static yX2_digitWord, .initialized RX2, .code yX2_digitWord cX2_digitWord 12 (some .long), .constantLong RX2 45 (1000000000000000), .constantLong RX2 47 (256), .constantLong RX2 49 (8), .constantLong RX2 43 (6917529027641081856), .constantLong RX2 51 (255), .constantLong RX2 57 (1000), .methodLink RX2 59 yX2_groupOf, .static yX2_groupOf, .code yX2_groupOf cX2_groupOf 7 (some .int), .methodLink RX2 38 yX2_binaryWord, .static yX2_binaryWord, .code yX2_binaryWord cX2_binaryWord 4 (some .long), .constantLong RX2 41 (9007199254740992), .code yX2_read cX2_read 7 none, .constantLong RX2 63 (31), .constantLong RX2 65 (30), .methodLink RX2 67 yX0_setInfinity, .instanceMethod yX0_setInfinity, .selects RX0 yX0_setInfinity yX0_setInfinity, .methodLink RX2 71 yX0_setNothing, .instanceMethod yX0_setNothing, .selects RX0 yX0_setNothing yX0_setNothing, .methodLink RX2 74 yX2_readDigits, .static yX2_readDigits, .code yX2_readDigits cX2_readDigits 9 none, .constantLong RX2 93 (3), .constantLong RX2 95 (7), .constantLong RX2 81 (1023), .methodLink RX2 97 yX2_digitsOfGroup]
def gW_4 : List Cond := [.static yX2_digitsOfGroup, .code yX2_digitsOfGroup cX2_digitsOfGroup 4 (some .int), .methodLink RX2 101 yX2_three, .static yX2_three, .code yX2_three cX2_three 3 (some .int), .methodLink RX2 104 yX2_digitsOfGreatGroup, .static yX2_digitsOfGreatGroup, .code yX2_digitsOfGreatGroup cX2_digitsOfGreatGroup 3 (some .int), .methodLink RX2 89 yX0_setFinite, .instanceMethod yX0_setFinite, .selects RX0 yX0_setFinite yX0_setFinite, .methodLink RX2 78 yX2_readBinary, .static yX2_readBinary, .code yX2_readBinary cX2_readBinary 8 none, .constantLong RX2 83 (2251799813685247), .constantLong RX2 85 (9007199254740991), .constantLong RX2 87 (10000000000000000), .code yX3_init cX3_init 2 none, .methodLink RX3 1 objectInit, .classLink RX3 9 RX0, .fieldLink RX3 11 "DecimalWords" "registers" "[LDecimalWords$Datum;", .instantiable RX0 4, .fieldLink RX3 16 "DecimalWords" "result" "LDecimalWords$Datum;", .classLink RX3 20 RX1, .instantiable RX1 8, .fieldLink RX3 23 "DecimalWords" "outcome" "LDecimalWords$Outcome;", .fieldLink RX3 27 "DecimalWords" "rounding" "I", .fieldLink RX3 31 "DecimalWords" "traps" "I", .fieldLink RX3 34 "DecimalWords" "standing" "I", .fieldLink RX3 37 "DecimalWords" "raisedNow" "I", .instanceMethod yX0_init, .instanceMethod yX1_init, .code yX3_put cX3_put 6 none, .classLink RX3 46 "java/lang/IllegalArgumentException", .initialized "java/lang/IllegalArgumentException", .constantLong RX3 44 (10000000000000000), .methodLink RX3 40 yX3_needRegister, .static yX3_needRegister, .code yX3_needRegister cX3_needRegister 1 none, .classLink RX3 105 "java/lang/IndexOutOfBoundsException"]
def gW_5 : List Cond := [.initialized "java/lang/IndexOutOfBoundsException", .methodLink RX3 55 yX0_setFinite, .code yX3_apply cX3_apply 5 none, .classLink RX3 65 "java/lang/ArithmeticException", .initialized "java/lang/ArithmeticException", .methodLink RX3 61 yX3_operate, .instanceMethod yX3_operate, .selects RX3 yX3_operate yX3_operate, .code yX3_operate cX3_operate 5 (some .boolean), .methodLink RX3 112 yX3_setResult, .instanceMethod yX3_setResult, .selects RX3 yX3_setResult yX3_setResult, .code yX3_setResult cX3_setResult 4 none, .fieldLink RX3 70 "DecimalWords$Datum" "sort" "I", .methodLink RX3 120 yX3_setNext, .instanceMethod yX3_setNext, .selects RX3 yX3_setNext yX3_setNext, .code yX3_setNext cX3_setNext 5 none, .fieldLink RX3 77 "DecimalWords$Datum" "minus" "Z", .constantLong RX3 192 (9999999999999999), .fieldLink RX3 81 "DecimalWords$Datum" "coefficient" "J", .fieldLink RX3 85 "DecimalWords$Datum" "exponent" "I", .methodLink RX3 116 yX0_take, .instanceMethod yX0_take, .selects RX0 yX0_take yX0_take, .methodLink RX3 136 yX0_isZero, .methodLink RX3 184 yX3_digitsOf, .methodLink RX3 188 yX3_tenTo, .methodLink RX3 200 yX3_stepToZero, .instanceMethod yX3_stepToZero, .selects RX3 yX3_stepToZero yX3_stepToZero, .code yX3_stepToZero cX3_stepToZero 4 none, .constantLong RX3 207 (1000000000000000), .methodLink RX3 204 yX3_stepFromZero, .instanceMethod yX3_stepFromZero, .selects RX3 yX3_stepFromZero yX3_stepFromZero, .code yX3_stepFromZero cX3_stepFromZero 4 none, .methodLink RX3 143 yX0_setInfinity, .methodLink RX3 123 yX0_setNothing, .methodLink RX3 73 yX3_order]
def gW_6 : List Cond := [.static yX3_order, .code yX3_order cX3_order 3 (some .int), .methodLink RX3 250 yX0_side, .instanceMethod yX0_side, .selects RX0 yX0_side yX0_side, .methodLink RX3 253 yX3_orderOfSizes, .static yX3_orderOfSizes, .code yX3_orderOfSizes cX3_orderOfSizes 5 (some .int), .methodLink RX3 256 yX3_orderOf, .static yX3_orderOf, .code yX3_orderOf cX3_orderOf 4 (some .int), .methodLink RX3 126 yX3_setFromInfinity, .instanceMethod yX3_setFromInfinity, .selects RX3 yX3_setFromInfinity yX3_setFromInfinity, .code yX3_setFromInfinity cX3_setFromInfinity 6 none, .methodLink RX3 132 yX3_addInfinity, .instanceMethod yX3_addInfinity, .selects RX3 yX3_addInfinity yX3_addInfinity, .code yX3_addInfinity cX3_addInfinity 4 none, .methodLink RX3 140 yX3_setInvalid, .instanceMethod yX3_setInvalid, .selects RX3 yX3_setInvalid yX3_setInvalid, .code yX3_setInvalid cX3_setInvalid 1 none, .methodLink RX3 168 yX3_raise, .instanceMethod yX3_raise, .selects RX3 yX3_raise yX3_raise, .code yX3_raise cX3_raise 2 none, .methodLink RX3 129 yX3_setFromFinite, .instanceMethod yX3_setFromFinite, .selects RX3 yX3_setFromFinite yX3_setFromFinite, .code yX3_setFromFinite cX3_setFromFinite 4 none, .methodLink RX3 147 yX1_setSum, .instanceMethod yX1_setSum, .selects RX1 yX1_setSum yX1_setSum, .methodLink RX3 151 yX3_fit, .instanceMethod yX3_fit, .selects RX3 yX3_fit yX3_fit, .code yX3_fit cX3_fit 2 none, .fieldLink RX3 210 "DecimalWords$Outcome" "wish" "I", .fieldLink RX3 216 "DecimalWords$Outcome" "minus" "Z"]
def gW_7 : List Cond := [.methodLink RX3 209 yX1_isZero, .methodLink RX3 217 yX3_fitWithoutRest, .instanceMethod yX3_fitWithoutRest, .selects RX3 yX3_fitWithoutRest yX3_fitWithoutRest, .code yX3_fitWithoutRest cX3_fitWithoutRest 4 (some .boolean), .fieldLink RX3 223 "DecimalWords$Outcome" "more" "Z", .fieldLink RX3 229 "DecimalWords$Outcome" "high" "J", .fieldLink RX3 232 "DecimalWords$Outcome" "power" "I", .fieldLink RX3 235 "DecimalWords$Outcome" "low" "J", .methodLink RX3 226 yX1_dropZeros, .instanceMethod yX1_dropZeros, .selects RX1 yX1_dropZeros yX1_dropZeros, .methodLink RX3 220 yX3_fitRounded, .instanceMethod yX3_fitRounded, .selects RX3 yX3_fitRounded yX3_fitRounded, .code yX3_fitRounded cX3_fitRounded 5 none, .methodLink RX3 238 yX1_digits, .instanceMethod yX1_digits, .selects RX1 yX1_digits yX1_digits, .methodLink RX3 242 yX3_setTooGreat, .instanceMethod yX3_setTooGreat, .selects RX3 yX3_setTooGreat yX3_setTooGreat, .code yX3_setTooGreat cX3_setTooGreat 2 none, .methodLink RX3 174 yX1_cut, .instanceMethod yX1_cut, .selects RX1 yX1_cut yX1_cut, .methodLink RX3 180 yX3_roundedKept, .instanceMethod yX3_roundedKept, .selects RX3 yX3_roundedKept yX3_roundedKept, .code yX3_roundedKept cX3_roundedKept 3 (some .long), .fieldLink RX3 177 "DecimalWords$Outcome" "rest" "I", .fieldLink RX3 245 "DecimalWords$Outcome" "kept" "J", .constantLong RX3 248 (2), .methodLink RX3 154 yX1_setProduct, .instanceMethod yX1_setProduct, .selects RX1 yX1_setProduct yX1_setProduct, .methodLink RX3 158 yX3_divide, .instanceMethod yX3_divide, .selects RX3 yX3_divide yX3_divide, .code yX3_divide cX3_divide 3 none]
def gW_8 : List Cond := [.methodLink RX3 165 yX1_setQuotient, .instanceMethod yX1_setQuotient, .selects RX1 yX1_setQuotient yX1_setQuotient, .methodLink RX3 161 yX3_quantize, .instanceMethod yX3_quantize, .selects RX3 yX3_quantize yX3_quantize, .code yX3_quantize cX3_quantize 4 none, .methodLink RX3 171 yX1_setWhole, .code yX3_compare cX3_compare 3 (some .int), .code yX3_kind cX3_kind 2 (some .int), .code yX3_coefficient cX3_coefficient 2 (some .long), .code yX3_exponent cX3_exponent 2 (some .int), .code yX3_pack cX3_pack 3 (some .long), .methodLink RX3 88 yX3_needWay, .static yX3_needWay, .code yX3_needWay cX3_needWay 1 none, .methodLink RX3 91 yX2_wordOf, .static yX2_wordOf, .code yX3_unpack cX3_unpack 5 none, .methodLink RX3 97 yX2_read, .static yX2_read, .code yX3_mode cX3_mode 2 none, .code yX3_trap cX3_trap 2 none, .code yX3_flags cX3_flags 1 (some .int), .code yX3_lower cX3_lower 1 none, .code yX3_sum cX3_sum 6 (some .int), .code yX4_init cX4_init 1 none, .methodLink RX4 1 objectInit, .arrayClass .int, .fieldLink RX4 7 "DecimalWordsModel" "kinds" "[I", .arrayClass .boolean, .fieldLink RX4 13 "DecimalWordsModel" "minus" "[Z", .arrayClass .long, .fieldLink RX4 17 "DecimalWordsModel" "coefficients" "[J", .fieldLink RX4 21 "DecimalWordsModel" "exponents" "[I", .fieldLink RX4 24 "DecimalWordsModel" "digits" "[I", .fieldLink RX4 27 "DecimalWordsModel" "others" "[I", .code yX4_thrown cX4_thrown 1 (some .int), .fieldLink RX4 30 "DecimalWordsModel" "thrown" "I", .code yX4_clear cX4_clear 2 none]
def gW_9 : List Cond := [.code yX4_lay cX4_lay 7 none, .constantLong RX4 37 (10), .methodLink RX4 34 yX4_clear, .instanceMethod yX4_clear, .selects RX4 yX4_clear yX4_clear, .initialized RX4, .code yX4_layOther cX4_layOther 7 none, .code yX4_trim cX4_trim 1 none, .fieldLink RX4 39 "DecimalWordsModel" "count" "I", .code yX4_whole cX4_whole 5 (some .long), .code yX4_times cX4_times 7 (some .long), .code yX4_be cX4_be 6 none, .fieldLink RX4 42 "DecimalWordsModel" "kind" "I", .fieldLink RX4 45 "DecimalWordsModel" "negative" "Z", .fieldLink RX4 49 "DecimalWordsModel" "c" "J", .fieldLink RX4 53 "DecimalWordsModel" "q" "I", .code yX4_invalid cX4_invalid 1 none, .fieldLink RX4 56 "DecimalWordsModel" "raised" "I", .methodLink RX4 59 yX4_be, .instanceMethod yX4_be, .selects RX4 yX4_be yX4_be, .code yX4_between cX4_between 4 (some .int), .code yX4_rounded cX4_rounded 11 (some .long), .fieldLink RX4 71 "DecimalWordsModel" "rest" "Z", .fieldLink RX4 74 "DecimalWordsModel" "mode" "I", .constantLong RX4 77 (2), .methodLink RX4 63 yX4_whole, .instanceMethod yX4_whole, .selects RX4 yX4_whole yX4_whole, .methodLink RX4 67 yX4_times, .instanceMethod yX4_times, .selects RX4 yX4_times yX4_times, .code yX4_fit cX4_fit 10 none, .fieldLink RX4 86 "DecimalWordsModel" "unit" "I", .constantLong RX4 97 (10000000000000000), .constantLong RX4 99 (1000000000000000), .methodLink RX4 79 yX4_trim, .instanceMethod yX4_trim, .selects RX4 yX4_trim yX4_trim, .methodLink RX4 82 yX4_between]
def gW_10 : List Cond := [.instanceMethod yX4_between, .selects RX4 yX4_between yX4_between, .methodLink RX4 89 yX4_great, .instanceMethod yX4_great, .selects RX4 yX4_great yX4_great, .code yX4_great cX4_great 3 none, .constantLong RX4 101 (9999999999999999), .methodLink RX4 93 yX4_rounded, .instanceMethod yX4_rounded, .selects RX4 yX4_rounded yX4_rounded, .code yX4_is cX4_is 3 (some .boolean), .code yX4_less cX4_less 2 (some .boolean), .code yX4_addDigits cX4_addDigits 4 none, .code yX4_subtractDigits cX4_subtractDigits 5 (some .boolean), .methodLink RX4 103 yX4_less, .instanceMethod yX4_less, .selects RX4 yX4_less yX4_less, .code yX4_add cX4_add 6 none, .methodLink RX4 107 yX4_is, .instanceMethod yX4_is, .selects RX4 yX4_is yX4_is, .methodLink RX4 111 yX4_invalid, .instanceMethod yX4_invalid, .selects RX4 yX4_invalid yX4_invalid, .methodLink RX4 114 yX4_lay, .instanceMethod yX4_lay, .selects RX4 yX4_lay yX4_lay, .methodLink RX4 118 yX4_layOther, .instanceMethod yX4_layOther, .selects RX4 yX4_layOther yX4_layOther, .methodLink RX4 121 yX4_addDigits, .instanceMethod yX4_addDigits, .selects RX4 yX4_addDigits yX4_addDigits, .methodLink RX4 124 yX4_subtractDigits, .instanceMethod yX4_subtractDigits, .selects RX4 yX4_subtractDigits yX4_subtractDigits, .methodLink RX4 127 yX4_fit, .instanceMethod yX4_fit, .selects RX4 yX4_fit yX4_fit, .code yX4_multiply cX4_multiply 11 none]
def gW_11 : List Cond := [.code yX4_divide cX4_divide 9 none, .code yX4_quantize cX4_quantize 9 none, .code yX4_lengthOf cX4_lengthOf 6 (some .int), .code yX4_compareSizes cX4_compareSizes 13 (some .int), .methodLink RX4 131 yX4_lengthOf, .instanceMethod yX4_lengthOf, .selects RX4 yX4_lengthOf yX4_lengthOf, .code yX4_signOf cX4_signOf 2 (some .int), .code yX4_order cX4_order 4 (some .int), .methodLink RX4 135 yX4_signOf, .instanceMethod yX4_signOf, .selects RX4 yX4_signOf yX4_signOf, .methodLink RX4 139 yX4_compareSizes, .instanceMethod yX4_compareSizes, .selects RX4 yX4_compareSizes yX4_compareSizes, .code yX4_next cX4_next 5 none, .code yX4_copy cX4_copy 2 none, .code yX4_operate cX4_operate 4 none, .methodLink RX4 143 yX4_add, .instanceMethod yX4_add, .selects RX4 yX4_add yX4_add, .methodLink RX4 147 yX4_multiply, .instanceMethod yX4_multiply, .selects RX4 yX4_multiply yX4_multiply, .methodLink RX4 151 yX4_divide, .instanceMethod yX4_divide, .selects RX4 yX4_divide yX4_divide, .methodLink RX4 154 yX4_quantize, .instanceMethod yX4_quantize, .selects RX4 yX4_quantize yX4_quantize, .methodLink RX4 157 yX4_order, .instanceMethod yX4_order, .selects RX4 yX4_order yX4_order, .methodLink RX4 160 yX4_copy, .instanceMethod yX4_copy, .selects RX4 yX4_copy yX4_copy, .methodLink RX4 164 yX4_next, .instanceMethod yX4_next, .selects RX4 yX4_next yX4_next, .code yX4_noRegister cX4_noRegister 2 (some .boolean)]
def gW_12 : List Cond := [.code yX4_store cX4_store 2 none, .code yX4_apply cX4_apply 5 none, .fieldLink RX4 175 "DecimalWordsModel" "flags" "I", .fieldLink RX4 178 "DecimalWordsModel" "traps" "I", .methodLink RX4 167 yX4_noRegister, .instanceMethod yX4_noRegister, .selects RX4 yX4_noRegister yX4_noRegister, .methodLink RX4 171 yX4_operate, .instanceMethod yX4_operate, .selects RX4 yX4_operate yX4_operate, .methodLink RX4 181 yX4_store, .instanceMethod yX4_store, .selects RX4 yX4_store yX4_store, .code yX4_sum cX4_sum 6 (some .int), .code yX4_put cX4_put 6 none, .code yX4_compare cX4_compare 3 (some .int), .code yX4_kind cX4_kind 2 (some .int), .code yX4_coefficient cX4_coefficient 2 (some .long), .code yX4_exponent cX4_exponent 2 (some .int), .code yX4_ten cX4_ten 8 (some .int), .code yX4_three cX4_three 11 (some .int), .code yX4_packDigits cX4_packDigits 10 (some .long), .constantLong RX4 184 (1000), .constantLong RX4 189 (256), .constantLong RX4 191 (8), .constantLong RX4 193 (6917529027641081856), .methodLink RX4 186 yX4_ten, .instanceMethod yX4_ten, .selects RX4 yX4_ten yX4_ten, .code yX4_pack cX4_pack 9 (some .long), .constantLong RX4 195 (-9223372036854775808), .constantLong RX4 197 (30), .constantLong RX4 199 (31), .constantLong RX4 204 (9007199254740992), .methodLink RX4 201 yX4_packDigits, .instanceMethod yX4_packDigits, .selects RX4 yX4_packDigits yX4_packDigits, .code yX4_unpack cX4_unpack 12 none, .constantLong RX4 206 (2251799813685247), .constantLong RX4 208 (9007199254740991)]
def gW_13 : List Cond := [.constantLong RX4 210 (1023), .constantLong RX4 212 (255), .methodLink RX4 214 yX4_three, .instanceMethod yX4_three, .selects RX4 yX4_three yX4_three, .code yX4_mode cX4_mode 2 none, .code yX4_trap cX4_trap 2 none, .code yX4_flags cX4_flags 1 (some .int), .code yX4_lower cX4_lower 1 none, .codeWith yL_put cL_put 7 (some .int) [(0, 9, 12, 13), (0, 9, 16, 15)], .classLink RL 13 "java/lang/IndexOutOfBoundsException", .classLink RL 15 "java/lang/IllegalArgumentException", .methodLink RL 7 yX3_put, .instanceMethod yX3_put, .selects RX3 yX3_put yX3_put, .codeWith yL_apply cL_apply 6 (some .int) [(0, 9, 12, 13), (0, 9, 16, 15), (0, 9, 20, 21)], .classLink RL 21 "java/lang/ArithmeticException", .methodLink RL 17 yX3_apply, .instanceMethod yX3_apply, .selects RX3 yX3_apply yX3_apply, .codeWith yL_compare cL_compare 5 (some .int) [(0, 10, 13, 13)], .methodLink RL 23 yX3_compare, .instanceMethod yX3_compare, .selects RX3 yX3_compare yX3_compare, .codeWith yL_kind cL_kind 4 (some .int) [(0, 9, 12, 13)], .methodLink RL 27 yX3_kind, .instanceMethod yX3_kind, .selects RX3 yX3_kind yX3_kind, .codeWith yL_coefficient cL_coefficient 4 (some .int) [(0, 8, 11, 13)], .methodLink RL 31 yX3_coefficient, .instanceMethod yX3_coefficient, .selects RX3 yX3_coefficient yX3_coefficient, .codeWith yL_exponent cL_exponent 4 (some .int) [(0, 9, 12, 13)], .methodLink RL 35 yX3_exponent, .instanceMethod yX3_exponent, .selects RX3 yX3_exponent yX3_exponent, .codeWith yL_pack cL_pack 5 (some .int) [(0, 9, 12, 13), (0, 9, 16, 15)], .methodLink RL 38 yX3_pack, .instanceMethod yX3_pack, .selects RX3 yX3_pack yX3_pack]
def gW_14 : List Cond := [.codeWith yL_unpack cL_unpack 6 (some .int) [(0, 7, 10, 13), (0, 7, 14, 15)], .methodLink RL 42 yX3_unpack, .instanceMethod yX3_unpack, .selects RX3 yX3_unpack yX3_unpack, .codeWith yL_mode cL_mode 3 (some .int) [(0, 5, 8, 15)], .methodLink RL 46 yX3_mode, .instanceMethod yX3_mode, .selects RX3 yX3_mode yX3_mode, .codeWith yL_trap cL_trap 3 (some .int) [(0, 5, 8, 15)], .methodLink RL 50 yX3_trap, .instanceMethod yX3_trap, .selects RX3 yX3_trap yX3_trap, .codeWith yL_sum cL_sum 6 (some .int) [(0, 12, 15, 13)], .methodLink RL 53 yX3_sum, .instanceMethod yX3_sum, .selects RX3 yX3_sum yX3_sum, .classLink RL 8 RX3, .instantiable RX3 7, .classLink RL 58 RX4, .instantiable RX4 18, .constantLong RL 61 (4294967295), .methodLink RL 57 yX3_init, .instanceMethod yX3_init, .methodLink RL 60 yX4_init, .instanceMethod yX4_init, .methodLink RL 63 yL_put, .static yL_put, .initialized RL, .methodLink RL 68 yX4_put, .instanceMethod yX4_put, .selects RX4 yX4_put yX4_put, .methodLink RL 69 yX4_thrown, .instanceMethod yX4_thrown, .selects RX4 yX4_thrown yX4_thrown, .methodLink RL 73 yL_apply, .static yL_apply, .methodLink RL 76 yX4_apply, .instanceMethod yX4_apply, .selects RX4 yX4_apply yX4_apply, .methodLink RL 77 yL_compare]
def gW_15 : List Cond := [.static yL_compare, .methodLink RL 80 yX4_compare, .instanceMethod yX4_compare, .selects RX4 yX4_compare yX4_compare, .methodLink RL 81 yL_kind, .static yL_kind, .methodLink RL 84 yX4_kind, .instanceMethod yX4_kind, .selects RX4 yX4_kind yX4_kind, .methodLink RL 85 yL_coefficient, .static yL_coefficient, .methodLink RL 87 yX4_coefficient, .instanceMethod yX4_coefficient, .selects RX4 yX4_coefficient yX4_coefficient, .methodLink RL 88 yL_exponent, .static yL_exponent, .methodLink RL 90 yX4_exponent, .instanceMethod yX4_exponent, .selects RX4 yX4_exponent yX4_exponent, .methodLink RL 91 yL_pack, .static yL_pack, .methodLink RL 93 yX4_pack, .instanceMethod yX4_pack, .selects RX4 yX4_pack yX4_pack, .methodLink RL 94 yL_unpack, .static yL_unpack, .methodLink RL 97 yX4_unpack, .instanceMethod yX4_unpack, .selects RX4 yX4_unpack yX4_unpack, .methodLink RL 98 yL_mode, .static yL_mode, .methodLink RL 101 yX4_mode, .instanceMethod yX4_mode, .selects RX4 yX4_mode yX4_mode, .methodLink RL 102 yL_trap, .static yL_trap, .methodLink RL 104 yX4_trap, .instanceMethod yX4_trap, .selects RX4 yX4_trap yX4_trap, .methodLink RL 105 yX3_flags]
def gW_16 : List Cond := [.instanceMethod yX3_flags, .selects RX3 yX3_flags yX3_flags, .methodLink RL 108 yX4_flags, .instanceMethod yX4_flags, .selects RX4 yX4_flags yX4_flags, .methodLink RL 109 yX3_lower, .instanceMethod yX3_lower, .selects RX3 yX3_lower yX3_lower, .methodLink RL 112 yX4_lower, .instanceMethod yX4_lower, .selects RX4 yX4_lower yX4_lower, .methodLink RL 113 yL_sum, .static yL_sum, .methodLink RL 116 yX4_sum, .instanceMethod yX4_sum, .selects RX4 yX4_sum yX4_sum]
def gW : List Cond := wsX00 ++ (wsX10 ++ (wsX30 ++ (wsX40 ++ (gW_1 ++ (gW_2 ++ (gW_3 ++ (gW_4 ++ (gW_5 ++ (gW_6 ++ (gW_7 ++ (gW_8 ++ (gW_9 ++ (gW_10 ++ (gW_11 ++ (gW_12 ++ (gW_13 ++ (gW_14 ++ (gW_15 ++ (gW_16)))))))))))))))))))
theorem inW_X0 : ∀ w ∈ wsX00, w ∈ gW := fun _ h => List.mem_append_left _ h
theorem inW_X1 : ∀ w ∈ wsX10, w ∈ gW := fun _ h => List.mem_append_right _ (List.mem_append_left _ h)
theorem inW_X3 : ∀ w ∈ wsX30, w ∈ gW := fun _ h => List.mem_append_right _ (List.mem_append_right _ (List.mem_append_left _ h))
theorem inW_X4 : ∀ w ∈ wsX40, w ∈ gW := fun _ h => List.mem_append_right _ (List.mem_append_right _ (List.mem_append_right _ (List.mem_append_left _ h)))
theorem inW_1 : ∀ w ∈ gW_1, w ∈ gW := fun _ h => List.mem_append_right _ (List.mem_append_right _ (List.mem_append_right _ (List.mem_append_right _ (List.mem_append_left _ h))))
theorem inW_2 : ∀ w ∈ gW_2, w ∈ gW := fun _ h => List.mem_append_right _ (List.mem_append_right _ (List.mem_append_right _ (List.mem_append_right _ (List.mem_append_right _ (List.mem_append_left _ h)))))
theorem inW_3 : ∀ w ∈ gW_3, w ∈ gW := fun _ h => List.mem_append_right _ (List.mem_append_right _ (List.mem_append_right _ (List.mem_append_right _ (List.mem_append_right _ (List.mem_append_right _ (List.mem_append_left _ h))))))
theorem inW_4 : ∀ w ∈ gW_4, w ∈ gW := fun _ h => List.mem_append_right _ (List.mem_append_right _ (List.mem_append_right _ (List.mem_append_right _ (List.mem_append_right _ (List.mem_append_right _ (List.mem_append_right _ (List.mem_append_left _ h)))))))
theorem inW_5 : ∀ w ∈ gW_5, w ∈ gW := fun _ h => List.mem_append_right _ (List.mem_append_right _ (List.mem_append_right _ (List.mem_append_right _ (List.mem_append_right _ (List.mem_append_right _ (List.mem_append_right _ (List.mem_append_right _ (List.mem_append_left _ h))))))))
theorem inW_6 : ∀ w ∈ gW_6, w ∈ gW := fun _ h => List.mem_append_right _ (List.mem_append_right _ (List.mem_append_right _ (List.mem_append_right _ (List.mem_append_right _ (List.mem_append_right _ (List.mem_append_right _ (List.mem_append_right _ (List.mem_append_right _ (List.mem_append_left _ h)))))))))
theorem inW_7 : ∀ w ∈ gW_7, w ∈ gW := fun _ h => List.mem_append_right _ (List.mem_append_right _ (List.mem_append_right _ (List.mem_append_right _ (List.mem_append_right _ (List.mem_append_right _ (List.mem_append_right _ (List.mem_append_right _ (List.mem_append_right _ (List.mem_append_right _ (List.mem_append_left _ h))))))))))
theorem inW_8 : ∀ w ∈ gW_8, w ∈ gW := fun _ h => List.mem_append_right _ (List.mem_append_right _ (List.mem_append_right _ (List.mem_append_right _ (List.mem_append_right _ (List.mem_append_right _ (List.mem_append_right _ (List.mem_append_right _ (List.mem_append_right _ (List.mem_append_right _ (List.mem_append_right _ (List.mem_append_left _ h)))))))))))
theorem inW_9 : ∀ w ∈ gW_9, w ∈ gW := fun _ h => List.mem_append_right _ (List.mem_append_right _ (List.mem_append_right _ (List.mem_append_right _ (List.mem_append_right _ (List.mem_append_right _ (List.mem_append_right _ (List.mem_append_right _ (List.mem_append_right _ (List.mem_append_right _ (List.mem_append_right _ (List.mem_append_right _ (List.mem_append_left _ h))))))))))))
theorem inW_10 : ∀ w ∈ gW_10, w ∈ gW := fun _ h => List.mem_append_right _ (List.mem_append_right _ (List.mem_append_right _ (List.mem_append_right _ (List.mem_append_right _ (List.mem_append_right _ (List.mem_append_right _ (List.mem_append_right _ (List.mem_append_right _ (List.mem_append_right _ (List.mem_append_right _ (List.mem_append_right _ (List.mem_append_right _ (List.mem_append_left _ h)))))))))))))
theorem inW_11 : ∀ w ∈ gW_11, w ∈ gW := fun _ h => List.mem_append_right _ (List.mem_append_right _ (List.mem_append_right _ (List.mem_append_right _ (List.mem_append_right _ (List.mem_append_right _ (List.mem_append_right _ (List.mem_append_right _ (List.mem_append_right _ (List.mem_append_right _ (List.mem_append_right _ (List.mem_append_right _ (List.mem_append_right _ (List.mem_append_right _ (List.mem_append_left _ h))))))))))))))
theorem inW_12 : ∀ w ∈ gW_12, w ∈ gW := fun _ h => List.mem_append_right _ (List.mem_append_right _ (List.mem_append_right _ (List.mem_append_right _ (List.mem_append_right _ (List.mem_append_right _ (List.mem_append_right _ (List.mem_append_right _ (List.mem_append_right _ (List.mem_append_right _ (List.mem_append_right _ (List.mem_append_right _ (List.mem_append_right _ (List.mem_append_right _ (List.mem_append_right _ (List.mem_append_left _ h)))))))))))))))
theorem inW_13 : ∀ w ∈ gW_13, w ∈ gW := fun _ h => List.mem_append_right _ (List.mem_append_right _ (List.mem_append_right _ (List.mem_append_right _ (List.mem_append_right _ (List.mem_append_right _ (List.mem_append_right _ (List.mem_append_right _ (List.mem_append_right _ (List.mem_append_right _ (List.mem_append_right _ (List.mem_append_right _ (List.mem_append_right _ (List.mem_append_right _ (List.mem_append_right _ (List.mem_append_right _ (List.mem_append_left _ h))))))))))))))))
theorem inW_14 : ∀ w ∈ gW_14, w ∈ gW := fun _ h => List.mem_append_right _ (List.mem_append_right _ (List.mem_append_right _ (List.mem_append_right _ (List.mem_append_right _ (List.mem_append_right _ (List.mem_append_right _ (List.mem_append_right _ (List.mem_append_right _ (List.mem_append_right _ (List.mem_append_right _ (List.mem_append_right _ (List.mem_append_right _ (List.mem_append_right _ (List.mem_append_right _ (List.mem_append_right _ (List.mem_append_right _ (List.mem_append_left _ h)))))))))))))))))
theorem inW_15 : ∀ w ∈ gW_15, w ∈ gW := fun _ h => List.mem_append_right _ (List.mem_append_right _ (List.mem_append_right _ (List.mem_append_right _ (List.mem_append_right _ (List.mem_append_right _ (List.mem_append_right _ (List.mem_append_right _ (List.mem_append_right _ (List.mem_append_right _ (List.mem_append_right _ (List.mem_append_right _ (List.mem_append_right _ (List.mem_append_right _ (List.mem_append_right _ (List.mem_append_right _ (List.mem_append_right _ (List.mem_append_right _ (List.mem_append_left _ h))))))))))))))))))
theorem inW_16 : ∀ w ∈ gW_16, w ∈ gW := fun _ h => List.mem_append_right _ (List.mem_append_right _ (List.mem_append_right _ (List.mem_append_right _ (List.mem_append_right _ (List.mem_append_right _ (List.mem_append_right _ (List.mem_append_right _ (List.mem_append_right _ (List.mem_append_right _ (List.mem_append_right _ (List.mem_append_right _ (List.mem_append_right _ (List.mem_append_right _ (List.mem_append_right _ (List.mem_append_right _ (List.mem_append_right _ (List.mem_append_right _ (List.mem_append_right _ (h)))))))))))))))))))
theorem gd_wsX00 : wsX00.all goodWord = true := by decide +kernel
theorem gd_wsX10 : wsX10.all goodWord = true := by decide +kernel
theorem gd_wsX30 : wsX30.all goodWord = true := by decide +kernel
theorem gd_wsX40 : wsX40.all goodWord = true := by decide +kernel
theorem gd_gW_1 : gW_1.all goodWord = true := by decide +kernel
theorem gd_gW_2 : gW_2.all goodWord = true := by decide +kernel
theorem gd_gW_3 : gW_3.all goodWord = true := by decide +kernel
theorem gd_gW_4 : gW_4.all goodWord = true := by decide +kernel
theorem gd_gW_5 : gW_5.all goodWord = true := by decide +kernel
theorem gd_gW_6 : gW_6.all goodWord = true := by decide +kernel
theorem gd_gW_7 : gW_7.all goodWord = true := by decide +kernel
theorem gd_gW_8 : gW_8.all goodWord = true := by decide +kernel
theorem gd_gW_9 : gW_9.all goodWord = true := by decide +kernel
theorem gd_gW_10 : gW_10.all goodWord = true := by decide +kernel
theorem gd_gW_11 : gW_11.all goodWord = true := by decide +kernel
theorem gd_gW_12 : gW_12.all goodWord = true := by decide +kernel
theorem gd_gW_13 : gW_13.all goodWord = true := by decide +kernel
theorem gd_gW_14 : gW_14.all goodWord = true := by decide +kernel
theorem gd_gW_15 : gW_15.all goodWord = true := by decide +kernel
theorem gd_gW_16 : gW_16.all goodWord = true := by decide +kernel
theorem gW_good : ∀ w ∈ gW, goodWord w = true := fun w h => (List.mem_append.mp h).elim (fun h => List.all_eq_true.mp gd_wsX00 w h) (fun h => (List.mem_append.mp h).elim (fun h => List.all_eq_true.mp gd_wsX10 w h) (fun h => (List.mem_append.mp h).elim (fun h => List.all_eq_true.mp gd_wsX30 w h) (fun h => (List.mem_append.mp h).elim (fun h => List.all_eq_true.mp gd_wsX40 w h) (fun h => (List.mem_append.mp h).elim (fun h => List.all_eq_true.mp gd_gW_1 w h) (fun h => (List.mem_append.mp h).elim (fun h => List.all_eq_true.mp gd_gW_2 w h) (fun h => (List.mem_append.mp h).elim (fun h => List.all_eq_true.mp gd_gW_3 w h) (fun h => (List.mem_append.mp h).elim (fun h => List.all_eq_true.mp gd_gW_4 w h) (fun h => (List.mem_append.mp h).elim (fun h => List.all_eq_true.mp gd_gW_5 w h) (fun h => (List.mem_append.mp h).elim (fun h => List.all_eq_true.mp gd_gW_6 w h) (fun h => (List.mem_append.mp h).elim (fun h => List.all_eq_true.mp gd_gW_7 w h) (fun h => (List.mem_append.mp h).elim (fun h => List.all_eq_true.mp gd_gW_8 w h) (fun h => (List.mem_append.mp h).elim (fun h => List.all_eq_true.mp gd_gW_9 w h) (fun h => (List.mem_append.mp h).elim (fun h => List.all_eq_true.mp gd_gW_10 w h) (fun h => (List.mem_append.mp h).elim (fun h => List.all_eq_true.mp gd_gW_11 w h) (fun h => (List.mem_append.mp h).elim (fun h => List.all_eq_true.mp gd_gW_12 w h) (fun h => (List.mem_append.mp h).elim (fun h => List.all_eq_true.mp gd_gW_13 w h) (fun h => (List.mem_append.mp h).elim (fun h => List.all_eq_true.mp gd_gW_14 w h) (fun h => (List.mem_append.mp h).elim (fun h => List.all_eq_true.mp gd_gW_15 w h) (fun h => List.all_eq_true.mp gd_gW_16 w h)))))))))))))))))))
set_option maxRecDepth 20000 in
theorem tb_gW_1 : ∀ w ∈ gW_1, w ∈ lw_tbl := List.forall_mem_cons.mpr ⟨inT_1 _ (List.mem_of_getElem? (i := 28) rfl), List.forall_mem_cons.mpr ⟨inT_1 _ (List.mem_of_getElem? (i := 29) rfl), List.forall_mem_cons.mpr ⟨inT_1 _ (List.mem_of_getElem? (i := 21) rfl), List.forall_mem_cons.mpr ⟨inT_2 _ (List.mem_of_getElem? (i := 5) rfl), List.forall_mem_cons.mpr ⟨inT_1 _ (List.mem_of_getElem? (i := 30) rfl), List.forall_mem_cons.mpr ⟨inT_1 _ (List.mem_of_getElem? (i := 34) rfl), List.forall_mem_cons.mpr ⟨inT_1 _ (List.mem_of_getElem? (i := 37) rfl), List.forall_mem_cons.mpr ⟨inT_1 _ (List.mem_of_getElem? (i := 41) rfl), List.forall_mem_cons.mpr ⟨inT_2 _ (List.mem_of_getElem? (i := 75) rfl), List.forall_mem_cons.mpr ⟨inT_2 _ (List.mem_of_getElem? (i := 79) rfl), List.forall_mem_cons.mpr ⟨inT_2 _ (List.mem_of_getElem? (i := 43) rfl), List.forall_mem_cons.mpr ⟨inT_2 _ (List.mem_of_getElem? (i := 48) rfl), List.forall_mem_cons.mpr ⟨inT_2 _ (List.mem_of_getElem? (i := 86) rfl), List.forall_mem_cons.mpr ⟨inT_2 _ (List.mem_of_getElem? (i := 87) rfl), List.forall_mem_cons.mpr ⟨inT_2 _ (List.mem_of_getElem? (i := 46) rfl), List.forall_mem_cons.mpr ⟨inT_2 _ (List.mem_of_getElem? (i := 47) rfl), List.forall_mem_cons.mpr ⟨inT_1 _ (List.mem_of_getElem? (i := 2) rfl), List.forall_mem_cons.mpr ⟨inT_1 _ (List.mem_of_getElem? (i := 58) rfl), List.forall_mem_cons.mpr ⟨inT_1 _ (List.mem_of_getElem? (i := 59) rfl), List.forall_mem_cons.mpr ⟨inT_2 _ (List.mem_of_getElem? (i := 138) rfl), List.forall_mem_cons.mpr ⟨inT_1 _ (List.mem_of_getElem? (i := 62) rfl), List.forall_mem_cons.mpr ⟨inT_1 _ (List.mem_of_getElem? (i := 64) rfl), List.forall_mem_cons.mpr ⟨inT_1 _ (List.mem_of_getElem? (i := 68) rfl), List.forall_mem_cons.mpr ⟨inT_2 _ (List.mem_of_getElem? (i := 161) rfl), List.forall_mem_cons.mpr ⟨inT_2 _ (List.mem_of_getElem? (i := 50) rfl), List.forall_mem_cons.mpr ⟨inT_1 _ (List.mem_of_getElem? (i := 1) rfl), List.forall_mem_cons.mpr ⟨inT_2 _ (List.mem_of_getElem? (i := 51) rfl), List.forall_mem_cons.mpr ⟨inT_2 _ (List.mem_of_getElem? (i := 52) rfl), List.forall_mem_cons.mpr ⟨inT_2 _ (List.mem_of_getElem? (i := 122) rfl), List.forall_mem_cons.mpr ⟨inT_1 _ (List.mem_of_getElem? (i := 35) rfl), List.forall_mem_cons.mpr ⟨inT_1 _ (List.mem_of_getElem? (i := 60) rfl), List.forall_mem_cons.mpr ⟨inT_1 _ (List.mem_of_getElem? (i := 39) rfl), List.forall_mem_cons.mpr ⟨inT_1 _ (List.mem_of_getElem? (i := 43) rfl), List.forall_mem_cons.mpr ⟨inT_1 _ (List.mem_of_getElem? (i := 66) rfl), List.forall_mem_cons.mpr ⟨inT_2 _ (List.mem_of_getElem? (i := 117) rfl), List.forall_mem_cons.mpr ⟨inT_2 _ (List.mem_of_getElem? (i := 128) rfl), List.forall_mem_cons.mpr ⟨inT_2 _ (List.mem_of_getElem? (i := 55) rfl), List.forall_mem_cons.mpr ⟨inT_1 _ (List.mem_of_getElem? (i := 13) rfl), List.forall_mem_cons.mpr ⟨inT_2 _ (List.mem_of_getElem? (i := 56) rfl), List.forall_mem_cons.mpr ⟨inT_1 _ (List.mem_of_getElem? (i := 70) rfl), fun _ h => absurd h List.not_mem_nil⟩⟩⟩⟩⟩⟩⟩⟩⟩⟩⟩⟩⟩⟩⟩⟩⟩⟩⟩⟩⟩⟩⟩⟩⟩⟩⟩⟩⟩⟩⟩⟩⟩⟩⟩⟩⟩⟩⟩⟩
set_option maxRecDepth 20000 in
theorem tb_gW_2 : ∀ w ∈ gW_2, w ∈ lw_tbl := List.forall_mem_cons.mpr ⟨inT_2 _ (List.mem_of_getElem? (i := 118) rfl), List.forall_mem_cons.mpr ⟨inT_2 _ (List.mem_of_getElem? (i := 119) rfl), List.forall_mem_cons.mpr ⟨inT_2 _ (List.mem_of_getElem? (i := 120) rfl), List.forall_mem_cons.mpr ⟨inT_2 _ (List.mem_of_getElem? (i := 121) rfl), List.forall_mem_cons.mpr ⟨inT_1 _ (List.mem_of_getElem? (i := 3) rfl), List.forall_mem_cons.mpr ⟨inT_2 _ (List.mem_of_getElem? (i := 123) rfl), List.forall_mem_cons.mpr ⟨inT_2 _ (List.mem_of_getElem? (i := 125) rfl), List.forall_mem_cons.mpr ⟨inT_p _ (List.mem_of_getElem? (i := 11) rfl), List.forall_mem_cons.mpr ⟨inT_2 _ (List.mem_of_getElem? (i := 126) rfl), List.forall_mem_cons.mpr ⟨inT_2 _ (List.mem_of_getElem? (i := 58) rfl), List.forall_mem_cons.mpr ⟨inT_2 _ (List.mem_of_getElem? (i := 59) rfl), List.forall_mem_cons.mpr ⟨inT_2 _ (List.mem_of_getElem? (i := 54) rfl), List.forall_mem_cons.mpr ⟨inT_2 _ (List.mem_of_getElem? (i := 60) rfl), List.forall_mem_cons.mpr ⟨inT_2 _ (List.mem_of_getElem? (i := 61) rfl), List.forall_mem_cons.mpr ⟨inT_2 _ (List.mem_of_getElem? (i := 62) rfl), List.forall_mem_cons.mpr ⟨inT_2 _ (List.mem_of_getElem? (i := 130) rfl), List.forall_mem_cons.mpr ⟨inT_2 _ (List.mem_of_getElem? (i := 132) rfl), List.forall_mem_cons.mpr ⟨inT_p _ (List.mem_of_getElem? (i := 12) rfl), List.forall_mem_cons.mpr ⟨inT_2 _ (List.mem_of_getElem? (i := 133) rfl), List.forall_mem_cons.mpr ⟨inT_2 _ (List.mem_of_getElem? (i := 134) rfl), List.forall_mem_cons.mpr ⟨inT_2 _ (List.mem_of_getElem? (i := 135) rfl), List.forall_mem_cons.mpr ⟨inT_2 _ (List.mem_of_getElem? (i := 136) rfl), List.forall_mem_cons.mpr ⟨inT_2 _ (List.mem_of_getElem? (i := 137) rfl), List.forall_mem_cons.mpr ⟨inT_2 _ (List.mem_of_getElem? (i := 182) rfl), List.forall_mem_cons.mpr ⟨inT_2 _ (List.mem_of_getElem? (i := 183) rfl), List.forall_mem_cons.mpr ⟨inT_2 _ (List.mem_of_getElem? (i := 191) rfl), List.forall_mem_cons.mpr ⟨inT_2 _ (List.mem_of_getElem? (i := 192) rfl), List.forall_mem_cons.mpr ⟨inT_2 _ (List.mem_of_getElem? (i := 193) rfl), List.forall_mem_cons.mpr ⟨inT_2 _ (List.mem_of_getElem? (i := 194) rfl), List.forall_mem_cons.mpr ⟨inT_2 _ (List.mem_of_getElem? (i := 152) rfl), List.forall_mem_cons.mpr ⟨inT_2 _ (List.mem_of_getElem? (i := 151) rfl), List.forall_mem_cons.mpr ⟨inT_2 _ (List.mem_of_getElem? (i := 153) rfl), List.forall_mem_cons.mpr ⟨inT_2 _ (List.mem_of_getElem? (i := 169) rfl), List.forall_mem_cons.mpr ⟨inT_1 _ (List.mem_of_getElem? (i := 72) rfl), List.forall_mem_cons.mpr ⟨inT_1 _ (List.mem_of_getElem? (i := 74) rfl), List.forall_mem_cons.mpr ⟨inT_2 _ (List.mem_of_getElem? (i := 170) rfl), List.forall_mem_cons.mpr ⟨inT_2 _ (List.mem_of_getElem? (i := 171) rfl), List.forall_mem_cons.mpr ⟨inT_2 _ (List.mem_of_getElem? (i := 172) rfl), List.forall_mem_cons.mpr ⟨inT_2 _ (List.mem_of_getElem? (i := 173) rfl), List.forall_mem_cons.mpr ⟨inT_3 _ (List.mem_of_getElem? (i := 4) rfl), fun _ h => absurd h List.not_mem_nil⟩⟩⟩⟩⟩⟩⟩⟩⟩⟩⟩⟩⟩⟩⟩⟩⟩⟩⟩⟩⟩⟩⟩⟩⟩⟩⟩⟩⟩⟩⟩⟩⟩⟩⟩⟩⟩⟩⟩⟩
set_option maxRecDepth 20000 in
theorem tb_gW_3 : ∀ w ∈ gW_3, w ∈ lw_tbl := List.forall_mem_cons.mpr ⟨inT_1 _ (List.mem_of_getElem? (i := 33) rfl), List.forall_mem_cons.mpr ⟨inT_3 _ (List.mem_of_getElem? (i := 5) rfl), List.forall_mem_cons.mpr ⟨inT_1 _ (List.mem_of_getElem? (i := 31) rfl), List.forall_mem_cons.mpr ⟨inT_3 _ (List.mem_of_getElem? (i := 6) rfl), List.forall_mem_cons.mpr ⟨inT_3 _ (List.mem_of_getElem? (i := 7) rfl), List.forall_mem_cons.mpr ⟨inT_1 _ (List.mem_of_getElem? (i := 42) rfl), List.forall_mem_cons.mpr ⟨inT_1 _ (List.mem_of_getElem? (i := 38) rfl), List.forall_mem_cons.mpr ⟨inT_3 _ (List.mem_of_getElem? (i := 8) rfl), List.forall_mem_cons.mpr ⟨inT_3 _ (List.mem_of_getElem? (i := 9) rfl), List.forall_mem_cons.mpr ⟨inT_1 _ (List.mem_of_getElem? (i := 14) rfl), List.forall_mem_cons.mpr ⟨inT_3 _ (List.mem_of_getElem? (i := 10) rfl), List.forall_mem_cons.mpr ⟨inT_3 _ (List.mem_of_getElem? (i := 11) rfl), List.forall_mem_cons.mpr ⟨inT_3 _ (List.mem_of_getElem? (i := 12) rfl), List.forall_mem_cons.mpr ⟨inT_3 _ (List.mem_of_getElem? (i := 13) rfl), List.forall_mem_cons.mpr ⟨inT_3 _ (List.mem_of_getElem? (i := 14) rfl), List.forall_mem_cons.mpr ⟨inT_3 _ (List.mem_of_getElem? (i := 15) rfl), List.forall_mem_cons.mpr ⟨inT_3 _ (List.mem_of_getElem? (i := 17) rfl), List.forall_mem_cons.mpr ⟨inT_3 _ (List.mem_of_getElem? (i := 18) rfl), List.forall_mem_cons.mpr ⟨inT_3 _ (List.mem_of_getElem? (i := 19) rfl), List.forall_mem_cons.mpr ⟨inT_3 _ (List.mem_of_getElem? (i := 20) rfl), List.forall_mem_cons.mpr ⟨inT_3 _ (List.mem_of_getElem? (i := 21) rfl), List.forall_mem_cons.mpr ⟨inT_3 _ (List.mem_of_getElem? (i := 22) rfl), List.forall_mem_cons.mpr ⟨inT_3 _ (List.mem_of_getElem? (i := 23) rfl), List.forall_mem_cons.mpr ⟨inT_3 _ (List.mem_of_getElem? (i := 24) rfl), List.forall_mem_cons.mpr ⟨inT_3 _ (List.mem_of_getElem? (i := 34) rfl), List.forall_mem_cons.mpr ⟨inT_3 _ (List.mem_of_getElem? (i := 35) rfl), List.forall_mem_cons.mpr ⟨inT_3 _ (List.mem_of_getElem? (i := 36) rfl), List.forall_mem_cons.mpr ⟨inT_3 _ (List.mem_of_getElem? (i := 37) rfl), List.forall_mem_cons.mpr ⟨inT_2 _ (List.mem_of_getElem? (i := 73) rfl), List.forall_mem_cons.mpr ⟨inT_2 _ (List.mem_of_getElem? (i := 74) rfl), List.forall_mem_cons.mpr ⟨inT_3 _ (List.mem_of_getElem? (i := 38) rfl), List.forall_mem_cons.mpr ⟨inT_2 _ (List.mem_of_getElem? (i := 77) rfl), List.forall_mem_cons.mpr ⟨inT_2 _ (List.mem_of_getElem? (i := 78) rfl), List.forall_mem_cons.mpr ⟨inT_3 _ (List.mem_of_getElem? (i := 39) rfl), List.forall_mem_cons.mpr ⟨inT_3 _ (List.mem_of_getElem? (i := 40) rfl), List.forall_mem_cons.mpr ⟨inT_3 _ (List.mem_of_getElem? (i := 41) rfl), List.forall_mem_cons.mpr ⟨inT_3 _ (List.mem_of_getElem? (i := 42) rfl), List.forall_mem_cons.mpr ⟨inT_3 _ (List.mem_of_getElem? (i := 43) rfl), List.forall_mem_cons.mpr ⟨inT_3 _ (List.mem_of_getElem? (i := 44) rfl), List.forall_mem_cons.mpr ⟨inT_3 _ (List.mem_of_getElem? (i := 45) rfl), fun _ h => absurd h List.not_mem_nil⟩⟩⟩⟩⟩⟩⟩⟩⟩⟩⟩⟩⟩⟩⟩⟩⟩⟩⟩⟩⟩⟩⟩⟩⟩⟩⟩⟩⟩⟩⟩⟩⟩⟩⟩⟩⟩⟩⟩⟩
set_option maxRecDepth 20000 in
theorem tb_gW_4 : ∀ w ∈ gW_4, w ∈ lw_tbl := List.forall_mem_cons.mpr ⟨inT_3 _ (List.mem_of_getElem? (i := 46) rfl), List.forall_mem_cons.mpr ⟨inT_3 _ (List.mem_of_getElem? (i := 47) rfl), List.forall_mem_cons.mpr ⟨inT_3 _ (List.mem_of_getElem? (i := 48) rfl), List.forall_mem_cons.mpr ⟨inT_3 _ (List.mem_of_getElem? (i := 49) rfl), List.forall_mem_cons.mpr ⟨inT_3 _ (List.mem_of_getElem? (i := 50) rfl), List.forall_mem_cons.mpr ⟨inT_3 _ (List.mem_of_getElem? (i := 51) rfl), List.forall_mem_cons.mpr ⟨inT_3 _ (List.mem_of_getElem? (i := 52) rfl), List.forall_mem_cons.mpr ⟨inT_3 _ (List.mem_of_getElem? (i := 53) rfl), List.forall_mem_cons.mpr ⟨inT_3 _ (List.mem_of_getElem? (i := 54) rfl), List.forall_mem_cons.mpr ⟨inT_2 _ (List.mem_of_getElem? (i := 3) rfl), List.forall_mem_cons.mpr ⟨inT_2 _ (List.mem_of_getElem? (i := 4) rfl), List.forall_mem_cons.mpr ⟨inT_3 _ (List.mem_of_getElem? (i := 55) rfl), List.forall_mem_cons.mpr ⟨inT_3 _ (List.mem_of_getElem? (i := 56) rfl), List.forall_mem_cons.mpr ⟨inT_3 _ (List.mem_of_getElem? (i := 57) rfl), List.forall_mem_cons.mpr ⟨inT_3 _ (List.mem_of_getElem? (i := 58) rfl), List.forall_mem_cons.mpr ⟨inT_3 _ (List.mem_of_getElem? (i := 59) rfl), List.forall_mem_cons.mpr ⟨inT_3 _ (List.mem_of_getElem? (i := 60) rfl), List.forall_mem_cons.mpr ⟨inT_1 _ (List.mem_of_getElem? (i := 19) rfl), List.forall_mem_cons.mpr ⟨inT_1 _ (List.mem_of_getElem? (i := 20) rfl), List.forall_mem_cons.mpr ⟨inT_1 _ (List.mem_of_getElem? (i := 23) rfl), List.forall_mem_cons.mpr ⟨inT_1 _ (List.mem_of_getElem? (i := 93) rfl), List.forall_mem_cons.mpr ⟨inT_1 _ (List.mem_of_getElem? (i := 25) rfl), List.forall_mem_cons.mpr ⟨inT_1 _ (List.mem_of_getElem? (i := 94) rfl), List.forall_mem_cons.mpr ⟨inT_1 _ (List.mem_of_getElem? (i := 54) rfl), List.forall_mem_cons.mpr ⟨inT_1 _ (List.mem_of_getElem? (i := 55) rfl), List.forall_mem_cons.mpr ⟨inT_1 _ (List.mem_of_getElem? (i := 95) rfl), List.forall_mem_cons.mpr ⟨inT_1 _ (List.mem_of_getElem? (i := 96) rfl), List.forall_mem_cons.mpr ⟨inT_1 _ (List.mem_of_getElem? (i := 97) rfl), List.forall_mem_cons.mpr ⟨inT_1 _ (List.mem_of_getElem? (i := 98) rfl), List.forall_mem_cons.mpr ⟨inT_1 _ (List.mem_of_getElem? (i := 99) rfl), List.forall_mem_cons.mpr ⟨inT_1 _ (List.mem_of_getElem? (i := 27) rfl), List.forall_mem_cons.mpr ⟨inT_1 _ (List.mem_of_getElem? (i := 57) rfl), List.forall_mem_cons.mpr ⟨inT_1 _ (List.mem_of_getElem? (i := 207) rfl), List.forall_mem_cons.mpr ⟨inT_1 _ (List.mem_of_getElem? (i := 225) rfl), List.forall_mem_cons.mpr ⟨inT_1 _ (List.mem_of_getElem? (i := 11) rfl), List.forall_mem_cons.mpr ⟨inT_1 _ (List.mem_of_getElem? (i := 224) rfl), List.forall_mem_cons.mpr ⟨inT_1 _ (List.mem_of_getElem? (i := 208) rfl), List.forall_mem_cons.mpr ⟨inT_1 _ (List.mem_of_getElem? (i := 209) rfl), List.forall_mem_cons.mpr ⟨inT_1 _ (List.mem_of_getElem? (i := 210) rfl), List.forall_mem_cons.mpr ⟨inT_1 _ (List.mem_of_getElem? (i := 211) rfl), fun _ h => absurd h List.not_mem_nil⟩⟩⟩⟩⟩⟩⟩⟩⟩⟩⟩⟩⟩⟩⟩⟩⟩⟩⟩⟩⟩⟩⟩⟩⟩⟩⟩⟩⟩⟩⟩⟩⟩⟩⟩⟩⟩⟩⟩⟩
set_option maxRecDepth 20000 in
theorem tb_gW_5 : ∀ w ∈ gW_5, w ∈ lw_tbl := List.forall_mem_cons.mpr ⟨inT_1 _ (List.mem_of_getElem? (i := 8) rfl), List.forall_mem_cons.mpr ⟨inT_2 _ (List.mem_of_getElem? (i := 2) rfl), List.forall_mem_cons.mpr ⟨inT_2 _ (List.mem_of_getElem? (i := 26) rfl), List.forall_mem_cons.mpr ⟨inT_2 _ (List.mem_of_getElem? (i := 200) rfl), List.forall_mem_cons.mpr ⟨inT_1 _ (List.mem_of_getElem? (i := 12) rfl), List.forall_mem_cons.mpr ⟨inT_2 _ (List.mem_of_getElem? (i := 28) rfl), List.forall_mem_cons.mpr ⟨inT_2 _ (List.mem_of_getElem? (i := 30) rfl), List.forall_mem_cons.mpr ⟨inT_p _ (List.mem_of_getElem? (i := 1) rfl), List.forall_mem_cons.mpr ⟨inT_2 _ (List.mem_of_getElem? (i := 31) rfl), List.forall_mem_cons.mpr ⟨inT_2 _ (List.mem_of_getElem? (i := 32) rfl), List.forall_mem_cons.mpr ⟨inT_2 _ (List.mem_of_getElem? (i := 34) rfl), List.forall_mem_cons.mpr ⟨inT_p _ (List.mem_of_getElem? (i := 2) rfl), List.forall_mem_cons.mpr ⟨inT_2 _ (List.mem_of_getElem? (i := 35) rfl), List.forall_mem_cons.mpr ⟨inT_1 _ (List.mem_of_getElem? (i := 32) rfl), List.forall_mem_cons.mpr ⟨inT_2 _ (List.mem_of_getElem? (i := 36) rfl), List.forall_mem_cons.mpr ⟨inT_2 _ (List.mem_of_getElem? (i := 38) rfl), List.forall_mem_cons.mpr ⟨inT_p _ (List.mem_of_getElem? (i := 3) rfl), List.forall_mem_cons.mpr ⟨inT_2 _ (List.mem_of_getElem? (i := 39) rfl), List.forall_mem_cons.mpr ⟨inT_1 _ (List.mem_of_getElem? (i := 36) rfl), List.forall_mem_cons.mpr ⟨inT_2 _ (List.mem_of_getElem? (i := 44) rfl), List.forall_mem_cons.mpr ⟨inT_1 _ (List.mem_of_getElem? (i := 40) rfl), List.forall_mem_cons.mpr ⟨inT_1 _ (List.mem_of_getElem? (i := 44) rfl), List.forall_mem_cons.mpr ⟨inT_2 _ (List.mem_of_getElem? (i := 40) rfl), List.forall_mem_cons.mpr ⟨inT_2 _ (List.mem_of_getElem? (i := 41) rfl), List.forall_mem_cons.mpr ⟨inT_2 _ (List.mem_of_getElem? (i := 42) rfl), List.forall_mem_cons.mpr ⟨inT_2 _ (List.mem_of_getElem? (i := 45) rfl), List.forall_mem_cons.mpr ⟨inT_2 _ (List.mem_of_getElem? (i := 49) rfl), List.forall_mem_cons.mpr ⟨inT_2 _ (List.mem_of_getElem? (i := 57) rfl), List.forall_mem_cons.mpr ⟨inT_2 _ (List.mem_of_getElem? (i := 63) rfl), List.forall_mem_cons.mpr ⟨inT_2 _ (List.mem_of_getElem? (i := 65) rfl), List.forall_mem_cons.mpr ⟨inT_p _ (List.mem_of_getElem? (i := 4) rfl), List.forall_mem_cons.mpr ⟨inT_2 _ (List.mem_of_getElem? (i := 66) rfl), List.forall_mem_cons.mpr ⟨inT_2 _ (List.mem_of_getElem? (i := 67) rfl), List.forall_mem_cons.mpr ⟨inT_2 _ (List.mem_of_getElem? (i := 68) rfl), List.forall_mem_cons.mpr ⟨inT_2 _ (List.mem_of_getElem? (i := 70) rfl), List.forall_mem_cons.mpr ⟨inT_p _ (List.mem_of_getElem? (i := 5) rfl), List.forall_mem_cons.mpr ⟨inT_2 _ (List.mem_of_getElem? (i := 71) rfl), List.forall_mem_cons.mpr ⟨inT_2 _ (List.mem_of_getElem? (i := 72) rfl), List.forall_mem_cons.mpr ⟨inT_2 _ (List.mem_of_getElem? (i := 76) rfl), List.forall_mem_cons.mpr ⟨inT_2 _ (List.mem_of_getElem? (i := 80) rfl), fun _ h => absurd h List.not_mem_nil⟩⟩⟩⟩⟩⟩⟩⟩⟩⟩⟩⟩⟩⟩⟩⟩⟩⟩⟩⟩⟩⟩⟩⟩⟩⟩⟩⟩⟩⟩⟩⟩⟩⟩⟩⟩⟩⟩⟩⟩
set_option maxRecDepth 20000 in
theorem tb_gW_6 : ∀ w ∈ gW_6, w ∈ lw_tbl := List.forall_mem_cons.mpr ⟨inT_2 _ (List.mem_of_getElem? (i := 81) rfl), List.forall_mem_cons.mpr ⟨inT_2 _ (List.mem_of_getElem? (i := 82) rfl), List.forall_mem_cons.mpr ⟨inT_2 _ (List.mem_of_getElem? (i := 83) rfl), List.forall_mem_cons.mpr ⟨inT_2 _ (List.mem_of_getElem? (i := 84) rfl), List.forall_mem_cons.mpr ⟨inT_2 _ (List.mem_of_getElem? (i := 85) rfl), List.forall_mem_cons.mpr ⟨inT_2 _ (List.mem_of_getElem? (i := 88) rfl), List.forall_mem_cons.mpr ⟨inT_2 _ (List.mem_of_getElem? (i := 89) rfl), List.forall_mem_cons.mpr ⟨inT_2 _ (List.mem_of_getElem? (i := 90) rfl), List.forall_mem_cons.mpr ⟨inT_2 _ (List.mem_of_getElem? (i := 91) rfl), List.forall_mem_cons.mpr ⟨inT_2 _ (List.mem_of_getElem? (i := 92) rfl), List.forall_mem_cons.mpr ⟨inT_2 _ (List.mem_of_getElem? (i := 93) rfl), List.forall_mem_cons.mpr ⟨inT_2 _ (List.mem_of_getElem? (i := 94) rfl), List.forall_mem_cons.mpr ⟨inT_2 _ (List.mem_of_getElem? (i := 96) rfl), List.forall_mem_cons.mpr ⟨inT_p _ (List.mem_of_getElem? (i := 6) rfl), List.forall_mem_cons.mpr ⟨inT_2 _ (List.mem_of_getElem? (i := 97) rfl), List.forall_mem_cons.mpr ⟨inT_2 _ (List.mem_of_getElem? (i := 98) rfl), List.forall_mem_cons.mpr ⟨inT_2 _ (List.mem_of_getElem? (i := 100) rfl), List.forall_mem_cons.mpr ⟨inT_p _ (List.mem_of_getElem? (i := 7) rfl), List.forall_mem_cons.mpr ⟨inT_2 _ (List.mem_of_getElem? (i := 101) rfl), List.forall_mem_cons.mpr ⟨inT_2 _ (List.mem_of_getElem? (i := 102) rfl), List.forall_mem_cons.mpr ⟨inT_2 _ (List.mem_of_getElem? (i := 104) rfl), List.forall_mem_cons.mpr ⟨inT_p _ (List.mem_of_getElem? (i := 8) rfl), List.forall_mem_cons.mpr ⟨inT_2 _ (List.mem_of_getElem? (i := 105) rfl), List.forall_mem_cons.mpr ⟨inT_2 _ (List.mem_of_getElem? (i := 106) rfl), List.forall_mem_cons.mpr ⟨inT_2 _ (List.mem_of_getElem? (i := 108) rfl), List.forall_mem_cons.mpr ⟨inT_p _ (List.mem_of_getElem? (i := 9) rfl), List.forall_mem_cons.mpr ⟨inT_2 _ (List.mem_of_getElem? (i := 109) rfl), List.forall_mem_cons.mpr ⟨inT_2 _ (List.mem_of_getElem? (i := 110) rfl), List.forall_mem_cons.mpr ⟨inT_2 _ (List.mem_of_getElem? (i := 112) rfl), List.forall_mem_cons.mpr ⟨inT_p _ (List.mem_of_getElem? (i := 10) rfl), List.forall_mem_cons.mpr ⟨inT_2 _ (List.mem_of_getElem? (i := 113) rfl), List.forall_mem_cons.mpr ⟨inT_2 _ (List.mem_of_getElem? (i := 114) rfl), List.forall_mem_cons.mpr ⟨inT_2 _ (List.mem_of_getElem? (i := 115) rfl), List.forall_mem_cons.mpr ⟨inT_2 _ (List.mem_of_getElem? (i := 116) rfl), List.forall_mem_cons.mpr ⟨inT_2 _ (List.mem_of_getElem? (i := 139) rfl), List.forall_mem_cons.mpr ⟨inT_2 _ (List.mem_of_getElem? (i := 141) rfl), List.forall_mem_cons.mpr ⟨inT_p _ (List.mem_of_getElem? (i := 13) rfl), List.forall_mem_cons.mpr ⟨inT_2 _ (List.mem_of_getElem? (i := 142) rfl), List.forall_mem_cons.mpr ⟨inT_1 _ (List.mem_of_getElem? (i := 71) rfl), List.forall_mem_cons.mpr ⟨inT_1 _ (List.mem_of_getElem? (i := 61) rfl), fun _ h => absurd h List.not_mem_nil⟩⟩⟩⟩⟩⟩⟩⟩⟩⟩⟩⟩⟩⟩⟩⟩⟩⟩⟩⟩⟩⟩⟩⟩⟩⟩⟩⟩⟩⟩⟩⟩⟩⟩⟩⟩⟩⟩⟩⟩
set_option maxRecDepth 20000 in
theorem tb_gW_7 : ∀ w ∈ gW_7, w ∈ lw_tbl := List.forall_mem_cons.mpr ⟨inT_2 _ (List.mem_of_getElem? (i := 143) rfl), List.forall_mem_cons.mpr ⟨inT_2 _ (List.mem_of_getElem? (i := 144) rfl), List.forall_mem_cons.mpr ⟨inT_2 _ (List.mem_of_getElem? (i := 146) rfl), List.forall_mem_cons.mpr ⟨inT_p _ (List.mem_of_getElem? (i := 14) rfl), List.forall_mem_cons.mpr ⟨inT_2 _ (List.mem_of_getElem? (i := 147) rfl), List.forall_mem_cons.mpr ⟨inT_1 _ (List.mem_of_getElem? (i := 69) rfl), List.forall_mem_cons.mpr ⟨inT_1 _ (List.mem_of_getElem? (i := 63) rfl), List.forall_mem_cons.mpr ⟨inT_1 _ (List.mem_of_getElem? (i := 67) rfl), List.forall_mem_cons.mpr ⟨inT_1 _ (List.mem_of_getElem? (i := 65) rfl), List.forall_mem_cons.mpr ⟨inT_2 _ (List.mem_of_getElem? (i := 148) rfl), List.forall_mem_cons.mpr ⟨inT_2 _ (List.mem_of_getElem? (i := 149) rfl), List.forall_mem_cons.mpr ⟨inT_2 _ (List.mem_of_getElem? (i := 150) rfl), List.forall_mem_cons.mpr ⟨inT_2 _ (List.mem_of_getElem? (i := 154) rfl), List.forall_mem_cons.mpr ⟨inT_2 _ (List.mem_of_getElem? (i := 156) rfl), List.forall_mem_cons.mpr ⟨inT_p _ (List.mem_of_getElem? (i := 15) rfl), List.forall_mem_cons.mpr ⟨inT_2 _ (List.mem_of_getElem? (i := 157) rfl), List.forall_mem_cons.mpr ⟨inT_2 _ (List.mem_of_getElem? (i := 158) rfl), List.forall_mem_cons.mpr ⟨inT_2 _ (List.mem_of_getElem? (i := 159) rfl), List.forall_mem_cons.mpr ⟨inT_2 _ (List.mem_of_getElem? (i := 160) rfl), List.forall_mem_cons.mpr ⟨inT_2 _ (List.mem_of_getElem? (i := 162) rfl), List.forall_mem_cons.mpr ⟨inT_2 _ (List.mem_of_getElem? (i := 164) rfl), List.forall_mem_cons.mpr ⟨inT_p _ (List.mem_of_getElem? (i := 16) rfl), List.forall_mem_cons.mpr ⟨inT_2 _ (List.mem_of_getElem? (i := 165) rfl), List.forall_mem_cons.mpr ⟨inT_2 _ (List.mem_of_getElem? (i := 166) rfl), List.forall_mem_cons.mpr ⟨inT_2 _ (List.mem_of_getElem? (i := 167) rfl), List.forall_mem_cons.mpr ⟨inT_2 _ (List.mem_of_getElem? (i := 168) rfl), List.forall_mem_cons.mpr ⟨inT_2 _ (List.mem_of_getElem? (i := 174) rfl), List.forall_mem_cons.mpr ⟨inT_2 _ (List.mem_of_getElem? (i := 176) rfl), List.forall_mem_cons.mpr ⟨inT_p _ (List.mem_of_getElem? (i := 17) rfl), List.forall_mem_cons.mpr ⟨inT_2 _ (List.mem_of_getElem? (i := 177) rfl), List.forall_mem_cons.mpr ⟨inT_1 _ (List.mem_of_getElem? (i := 75) rfl), List.forall_mem_cons.mpr ⟨inT_1 _ (List.mem_of_getElem? (i := 73) rfl), List.forall_mem_cons.mpr ⟨inT_2 _ (List.mem_of_getElem? (i := 178) rfl), List.forall_mem_cons.mpr ⟨inT_2 _ (List.mem_of_getElem? (i := 179) rfl), List.forall_mem_cons.mpr ⟨inT_2 _ (List.mem_of_getElem? (i := 180) rfl), List.forall_mem_cons.mpr ⟨inT_2 _ (List.mem_of_getElem? (i := 181) rfl), List.forall_mem_cons.mpr ⟨inT_2 _ (List.mem_of_getElem? (i := 184) rfl), List.forall_mem_cons.mpr ⟨inT_2 _ (List.mem_of_getElem? (i := 186) rfl), List.forall_mem_cons.mpr ⟨inT_p _ (List.mem_of_getElem? (i := 18) rfl), List.forall_mem_cons.mpr ⟨inT_2 _ (List.mem_of_getElem? (i := 187) rfl), fun _ h => absurd h List.not_mem_nil⟩⟩⟩⟩⟩⟩⟩⟩⟩⟩⟩⟩⟩⟩⟩⟩⟩⟩⟩⟩⟩⟩⟩⟩⟩⟩⟩⟩⟩⟩⟩⟩⟩⟩⟩⟩⟩⟩⟩⟩
set_option maxRecDepth 20000 in
theorem tb_gW_8 : ∀ w ∈ gW_8, w ∈ lw_tbl := List.forall_mem_cons.mpr ⟨inT_2 _ (List.mem_of_getElem? (i := 188) rfl), List.forall_mem_cons.mpr ⟨inT_2 _ (List.mem_of_getElem? (i := 189) rfl), List.forall_mem_cons.mpr ⟨inT_2 _ (List.mem_of_getElem? (i := 190) rfl), List.forall_mem_cons.mpr ⟨inT_2 _ (List.mem_of_getElem? (i := 195) rfl), List.forall_mem_cons.mpr ⟨inT_2 _ (List.mem_of_getElem? (i := 197) rfl), List.forall_mem_cons.mpr ⟨inT_p _ (List.mem_of_getElem? (i := 19) rfl), List.forall_mem_cons.mpr ⟨inT_2 _ (List.mem_of_getElem? (i := 198) rfl), List.forall_mem_cons.mpr ⟨inT_2 _ (List.mem_of_getElem? (i := 199) rfl), List.forall_mem_cons.mpr ⟨inT_2 _ (List.mem_of_getElem? (i := 209) rfl), List.forall_mem_cons.mpr ⟨inT_2 _ (List.mem_of_getElem? (i := 216) rfl), List.forall_mem_cons.mpr ⟨inT_2 _ (List.mem_of_getElem? (i := 223) rfl), List.forall_mem_cons.mpr ⟨inT_2 _ (List.mem_of_getElem? (i := 230) rfl), List.forall_mem_cons.mpr ⟨inT_2 _ (List.mem_of_getElem? (i := 237) rfl), List.forall_mem_cons.mpr ⟨inT_2 _ (List.mem_of_getElem? (i := 238) rfl), List.forall_mem_cons.mpr ⟨inT_2 _ (List.mem_of_getElem? (i := 239) rfl), List.forall_mem_cons.mpr ⟨inT_3 _ (List.mem_of_getElem? (i := 0) rfl), List.forall_mem_cons.mpr ⟨inT_3 _ (List.mem_of_getElem? (i := 2) rfl), List.forall_mem_cons.mpr ⟨inT_3 _ (List.mem_of_getElem? (i := 3) rfl), List.forall_mem_cons.mpr ⟨inT_3 _ (List.mem_of_getElem? (i := 31) rfl), List.forall_mem_cons.mpr ⟨inT_3 _ (List.mem_of_getElem? (i := 32) rfl), List.forall_mem_cons.mpr ⟨inT_3 _ (List.mem_of_getElem? (i := 33) rfl), List.forall_mem_cons.mpr ⟨inT_3 _ (List.mem_of_getElem? (i := 67) rfl), List.forall_mem_cons.mpr ⟨inT_3 _ (List.mem_of_getElem? (i := 75) rfl), List.forall_mem_cons.mpr ⟨inT_1 _ (List.mem_of_getElem? (i := 118) rfl), List.forall_mem_cons.mpr ⟨inT_1 _ (List.mem_of_getElem? (i := 122) rfl), List.forall_mem_cons.mpr ⟨inT_3 _ (List.mem_of_getElem? (i := 83) rfl), List.forall_mem_cons.mpr ⟨inT_3 _ (List.mem_of_getElem? (i := 88) rfl), List.forall_mem_cons.mpr ⟨inT_3 _ (List.mem_of_getElem? (i := 89) rfl), List.forall_mem_cons.mpr ⟨inT_3 _ (List.mem_of_getElem? (i := 145) rfl), List.forall_mem_cons.mpr ⟨inT_3 _ (List.mem_of_getElem? (i := 91) rfl), List.forall_mem_cons.mpr ⟨inT_3 _ (List.mem_of_getElem? (i := 146) rfl), List.forall_mem_cons.mpr ⟨inT_3 _ (List.mem_of_getElem? (i := 92) rfl), List.forall_mem_cons.mpr ⟨inT_3 _ (List.mem_of_getElem? (i := 147) rfl), List.forall_mem_cons.mpr ⟨inT_3 _ (List.mem_of_getElem? (i := 93) rfl), List.forall_mem_cons.mpr ⟨inT_3 _ (List.mem_of_getElem? (i := 94) rfl), List.forall_mem_cons.mpr ⟨inT_3 _ (List.mem_of_getElem? (i := 104) rfl), List.forall_mem_cons.mpr ⟨inT_3 _ (List.mem_of_getElem? (i := 105) rfl), List.forall_mem_cons.mpr ⟨inT_3 _ (List.mem_of_getElem? (i := 151) rfl), List.forall_mem_cons.mpr ⟨inT_3 _ (List.mem_of_getElem? (i := 90) rfl), List.forall_mem_cons.mpr ⟨inT_3 _ (List.mem_of_getElem? (i := 187) rfl), fun _ h => absurd h List.not_mem_nil⟩⟩⟩⟩⟩⟩⟩⟩⟩⟩⟩⟩⟩⟩⟩⟩⟩⟩⟩⟩⟩⟩⟩⟩⟩⟩⟩⟩⟩⟩⟩⟩⟩⟩⟩⟩⟩⟩⟩⟩
set_option maxRecDepth 20000 in
theorem tb_gW_9 : ∀ w ∈ gW_9, w ∈ lw_tbl := List.forall_mem_cons.mpr ⟨inT_3 _ (List.mem_of_getElem? (i := 183) rfl), List.forall_mem_cons.mpr ⟨inT_3 _ (List.mem_of_getElem? (i := 188) rfl), List.forall_mem_cons.mpr ⟨inT_3 _ (List.mem_of_getElem? (i := 184) rfl), List.forall_mem_cons.mpr ⟨inT_3 _ (List.mem_of_getElem? (i := 186) rfl), List.forall_mem_cons.mpr ⟨inT_p _ (List.mem_of_getElem? (i := 27) rfl), List.forall_mem_cons.mpr ⟨inT_1 _ (List.mem_of_getElem? (i := 4) rfl), List.forall_mem_cons.mpr ⟨inT_3 _ (List.mem_of_getElem? (i := 192) rfl), List.forall_mem_cons.mpr ⟨inT_3 _ (List.mem_of_getElem? (i := 208) rfl), List.forall_mem_cons.mpr ⟨inT_3 _ (List.mem_of_getElem? (i := 103) rfl), List.forall_mem_cons.mpr ⟨inT_3 _ (List.mem_of_getElem? (i := 220) rfl), List.forall_mem_cons.mpr ⟨inT_3 _ (List.mem_of_getElem? (i := 224) rfl), List.forall_mem_cons.mpr ⟨inT_3 _ (List.mem_of_getElem? (i := 171) rfl), List.forall_mem_cons.mpr ⟨inT_3 _ (List.mem_of_getElem? (i := 98) rfl), List.forall_mem_cons.mpr ⟨inT_3 _ (List.mem_of_getElem? (i := 99) rfl), List.forall_mem_cons.mpr ⟨inT_3 _ (List.mem_of_getElem? (i := 100) rfl), List.forall_mem_cons.mpr ⟨inT_3 _ (List.mem_of_getElem? (i := 101) rfl), List.forall_mem_cons.mpr ⟨inT_3 _ (List.mem_of_getElem? (i := 179) rfl), List.forall_mem_cons.mpr ⟨inT_3 _ (List.mem_of_getElem? (i := 102) rfl), List.forall_mem_cons.mpr ⟨inT_3 _ (List.mem_of_getElem? (i := 168) rfl), List.forall_mem_cons.mpr ⟨inT_3 _ (List.mem_of_getElem? (i := 170) rfl), List.forall_mem_cons.mpr ⟨inT_p _ (List.mem_of_getElem? (i := 23) rfl), List.forall_mem_cons.mpr ⟨inT_3 _ (List.mem_of_getElem? (i := 216) rfl), List.forall_mem_cons.mpr ⟨inT_3 _ (List.mem_of_getElem? (i := 233) rfl), List.forall_mem_cons.mpr ⟨inT_3 _ (List.mem_of_getElem? (i := 107) rfl), List.forall_mem_cons.mpr ⟨inT_3 _ (List.mem_of_getElem? (i := 95) rfl), List.forall_mem_cons.mpr ⟨inT_3 _ (List.mem_of_getElem? (i := 234) rfl), List.forall_mem_cons.mpr ⟨inT_3 _ (List.mem_of_getElem? (i := 217) rfl), List.forall_mem_cons.mpr ⟨inT_3 _ (List.mem_of_getElem? (i := 219) rfl), List.forall_mem_cons.mpr ⟨inT_p _ (List.mem_of_getElem? (i := 35) rfl), List.forall_mem_cons.mpr ⟨inT_3 _ (List.mem_of_getElem? (i := 221) rfl), List.forall_mem_cons.mpr ⟨inT_3 _ (List.mem_of_getElem? (i := 223) rfl), List.forall_mem_cons.mpr ⟨inT_p _ (List.mem_of_getElem? (i := 36) rfl), List.forall_mem_cons.mpr ⟨inT_3 _ (List.mem_of_getElem? (i := 212) rfl), List.forall_mem_cons.mpr ⟨inT_3 _ (List.mem_of_getElem? (i := 106) rfl), List.forall_mem_cons.mpr ⟨inT_3 _ (List.mem_of_getElem? (i := 235) rfl), List.forall_mem_cons.mpr ⟨inT_3 _ (List.mem_of_getElem? (i := 236) rfl), List.forall_mem_cons.mpr ⟨inT_3 _ (List.mem_of_getElem? (i := 205) rfl), List.forall_mem_cons.mpr ⟨inT_3 _ (List.mem_of_getElem? (i := 207) rfl), List.forall_mem_cons.mpr ⟨inT_p _ (List.mem_of_getElem? (i := 32) rfl), List.forall_mem_cons.mpr ⟨inT_3 _ (List.mem_of_getElem? (i := 213) rfl), fun _ h => absurd h List.not_mem_nil⟩⟩⟩⟩⟩⟩⟩⟩⟩⟩⟩⟩⟩⟩⟩⟩⟩⟩⟩⟩⟩⟩⟩⟩⟩⟩⟩⟩⟩⟩⟩⟩⟩⟩⟩⟩⟩⟩⟩⟩
set_option maxRecDepth 20000 in
theorem tb_gW_10 : ∀ w ∈ gW_10, w ∈ lw_tbl := List.forall_mem_cons.mpr ⟨inT_3 _ (List.mem_of_getElem? (i := 215) rfl), List.forall_mem_cons.mpr ⟨inT_p _ (List.mem_of_getElem? (i := 34) rfl), List.forall_mem_cons.mpr ⟨inT_3 _ (List.mem_of_getElem? (i := 225) rfl), List.forall_mem_cons.mpr ⟨inT_3 _ (List.mem_of_getElem? (i := 227) rfl), List.forall_mem_cons.mpr ⟨inT_p _ (List.mem_of_getElem? (i := 37) rfl), List.forall_mem_cons.mpr ⟨inT_3 _ (List.mem_of_getElem? (i := 228) rfl), List.forall_mem_cons.mpr ⟨inT_3 _ (List.mem_of_getElem? (i := 229) rfl), List.forall_mem_cons.mpr ⟨inT_3 _ (List.mem_of_getElem? (i := 230) rfl), List.forall_mem_cons.mpr ⟨inT_3 _ (List.mem_of_getElem? (i := 232) rfl), List.forall_mem_cons.mpr ⟨inT_p _ (List.mem_of_getElem? (i := 38) rfl), List.forall_mem_cons.mpr ⟨inT_3 _ (List.mem_of_getElem? (i := 167) rfl), List.forall_mem_cons.mpr ⟨inT_3 _ (List.mem_of_getElem? (i := 204) rfl), List.forall_mem_cons.mpr ⟨inT_3 _ (List.mem_of_getElem? (i := 196) rfl), List.forall_mem_cons.mpr ⟨inT_3 _ (List.mem_of_getElem? (i := 200) rfl), List.forall_mem_cons.mpr ⟨inT_3 _ (List.mem_of_getElem? (i := 201) rfl), List.forall_mem_cons.mpr ⟨inT_3 _ (List.mem_of_getElem? (i := 203) rfl), List.forall_mem_cons.mpr ⟨inT_p _ (List.mem_of_getElem? (i := 31) rfl), List.forall_mem_cons.mpr ⟨inT_3 _ (List.mem_of_getElem? (i := 175) rfl), List.forall_mem_cons.mpr ⟨inT_3 _ (List.mem_of_getElem? (i := 164) rfl), List.forall_mem_cons.mpr ⟨inT_3 _ (List.mem_of_getElem? (i := 166) rfl), List.forall_mem_cons.mpr ⟨inT_p _ (List.mem_of_getElem? (i := 22) rfl), List.forall_mem_cons.mpr ⟨inT_3 _ (List.mem_of_getElem? (i := 176) rfl), List.forall_mem_cons.mpr ⟨inT_3 _ (List.mem_of_getElem? (i := 178) rfl), List.forall_mem_cons.mpr ⟨inT_p _ (List.mem_of_getElem? (i := 25) rfl), List.forall_mem_cons.mpr ⟨inT_3 _ (List.mem_of_getElem? (i := 180) rfl), List.forall_mem_cons.mpr ⟨inT_3 _ (List.mem_of_getElem? (i := 182) rfl), List.forall_mem_cons.mpr ⟨inT_p _ (List.mem_of_getElem? (i := 26) rfl), List.forall_mem_cons.mpr ⟨inT_3 _ (List.mem_of_getElem? (i := 189) rfl), List.forall_mem_cons.mpr ⟨inT_3 _ (List.mem_of_getElem? (i := 191) rfl), List.forall_mem_cons.mpr ⟨inT_p _ (List.mem_of_getElem? (i := 28) rfl), List.forall_mem_cons.mpr ⟨inT_3 _ (List.mem_of_getElem? (i := 193) rfl), List.forall_mem_cons.mpr ⟨inT_3 _ (List.mem_of_getElem? (i := 195) rfl), List.forall_mem_cons.mpr ⟨inT_p _ (List.mem_of_getElem? (i := 29) rfl), List.forall_mem_cons.mpr ⟨inT_3 _ (List.mem_of_getElem? (i := 197) rfl), List.forall_mem_cons.mpr ⟨inT_3 _ (List.mem_of_getElem? (i := 199) rfl), List.forall_mem_cons.mpr ⟨inT_p _ (List.mem_of_getElem? (i := 30) rfl), List.forall_mem_cons.mpr ⟨inT_3 _ (List.mem_of_getElem? (i := 209) rfl), List.forall_mem_cons.mpr ⟨inT_3 _ (List.mem_of_getElem? (i := 211) rfl), List.forall_mem_cons.mpr ⟨inT_p _ (List.mem_of_getElem? (i := 33) rfl), List.forall_mem_cons.mpr ⟨inT_4 _ (List.mem_of_getElem? (i := 0) rfl), fun _ h => absurd h List.not_mem_nil⟩⟩⟩⟩⟩⟩⟩⟩⟩⟩⟩⟩⟩⟩⟩⟩⟩⟩⟩⟩⟩⟩⟩⟩⟩⟩⟩⟩⟩⟩⟩⟩⟩⟩⟩⟩⟩⟩⟩⟩
set_option maxRecDepth 20000 in
theorem tb_gW_11 : ∀ w ∈ gW_11, w ∈ lw_tbl := List.forall_mem_cons.mpr ⟨inT_4 _ (List.mem_of_getElem? (i := 4) rfl), List.forall_mem_cons.mpr ⟨inT_4 _ (List.mem_of_getElem? (i := 8) rfl), List.forall_mem_cons.mpr ⟨inT_4 _ (List.mem_of_getElem? (i := 24) rfl), List.forall_mem_cons.mpr ⟨inT_4 _ (List.mem_of_getElem? (i := 20) rfl), List.forall_mem_cons.mpr ⟨inT_4 _ (List.mem_of_getElem? (i := 21) rfl), List.forall_mem_cons.mpr ⟨inT_4 _ (List.mem_of_getElem? (i := 23) rfl), List.forall_mem_cons.mpr ⟨inT_p _ (List.mem_of_getElem? (i := 45) rfl), List.forall_mem_cons.mpr ⟨inT_4 _ (List.mem_of_getElem? (i := 16) rfl), List.forall_mem_cons.mpr ⟨inT_4 _ (List.mem_of_getElem? (i := 12) rfl), List.forall_mem_cons.mpr ⟨inT_4 _ (List.mem_of_getElem? (i := 13) rfl), List.forall_mem_cons.mpr ⟨inT_4 _ (List.mem_of_getElem? (i := 15) rfl), List.forall_mem_cons.mpr ⟨inT_p _ (List.mem_of_getElem? (i := 43) rfl), List.forall_mem_cons.mpr ⟨inT_4 _ (List.mem_of_getElem? (i := 17) rfl), List.forall_mem_cons.mpr ⟨inT_4 _ (List.mem_of_getElem? (i := 19) rfl), List.forall_mem_cons.mpr ⟨inT_p _ (List.mem_of_getElem? (i := 44) rfl), List.forall_mem_cons.mpr ⟨inT_4 _ (List.mem_of_getElem? (i := 32) rfl), List.forall_mem_cons.mpr ⟨inT_4 _ (List.mem_of_getElem? (i := 28) rfl), List.forall_mem_cons.mpr ⟨inT_3 _ (List.mem_of_getElem? (i := 163) rfl), List.forall_mem_cons.mpr ⟨inT_3 _ (List.mem_of_getElem? (i := 172) rfl), List.forall_mem_cons.mpr ⟨inT_3 _ (List.mem_of_getElem? (i := 174) rfl), List.forall_mem_cons.mpr ⟨inT_p _ (List.mem_of_getElem? (i := 24) rfl), List.forall_mem_cons.mpr ⟨inT_3 _ (List.mem_of_getElem? (i := 237) rfl), List.forall_mem_cons.mpr ⟨inT_3 _ (List.mem_of_getElem? (i := 239) rfl), List.forall_mem_cons.mpr ⟨inT_p _ (List.mem_of_getElem? (i := 39) rfl), List.forall_mem_cons.mpr ⟨inT_4 _ (List.mem_of_getElem? (i := 1) rfl), List.forall_mem_cons.mpr ⟨inT_4 _ (List.mem_of_getElem? (i := 3) rfl), List.forall_mem_cons.mpr ⟨inT_p _ (List.mem_of_getElem? (i := 40) rfl), List.forall_mem_cons.mpr ⟨inT_4 _ (List.mem_of_getElem? (i := 5) rfl), List.forall_mem_cons.mpr ⟨inT_4 _ (List.mem_of_getElem? (i := 7) rfl), List.forall_mem_cons.mpr ⟨inT_p _ (List.mem_of_getElem? (i := 41) rfl), List.forall_mem_cons.mpr ⟨inT_4 _ (List.mem_of_getElem? (i := 9) rfl), List.forall_mem_cons.mpr ⟨inT_4 _ (List.mem_of_getElem? (i := 11) rfl), List.forall_mem_cons.mpr ⟨inT_p _ (List.mem_of_getElem? (i := 42) rfl), List.forall_mem_cons.mpr ⟨inT_4 _ (List.mem_of_getElem? (i := 25) rfl), List.forall_mem_cons.mpr ⟨inT_4 _ (List.mem_of_getElem? (i := 27) rfl), List.forall_mem_cons.mpr ⟨inT_p _ (List.mem_of_getElem? (i := 46) rfl), List.forall_mem_cons.mpr ⟨inT_4 _ (List.mem_of_getElem? (i := 29) rfl), List.forall_mem_cons.mpr ⟨inT_4 _ (List.mem_of_getElem? (i := 31) rfl), List.forall_mem_cons.mpr ⟨inT_p _ (List.mem_of_getElem? (i := 47) rfl), List.forall_mem_cons.mpr ⟨inT_3 _ (List.mem_of_getElem? (i := 159) rfl), fun _ h => absurd h List.not_mem_nil⟩⟩⟩⟩⟩⟩⟩⟩⟩⟩⟩⟩⟩⟩⟩⟩⟩⟩⟩⟩⟩⟩⟩⟩⟩⟩⟩⟩⟩⟩⟩⟩⟩⟩⟩⟩⟩⟩⟩⟩
set_option maxRecDepth 20000 in
theorem tb_gW_12 : ∀ w ∈ gW_12, w ∈ lw_tbl := List.forall_mem_cons.mpr ⟨inT_4 _ (List.mem_of_getElem? (i := 36) rfl), List.forall_mem_cons.mpr ⟨inT_3 _ (List.mem_of_getElem? (i := 155) rfl), List.forall_mem_cons.mpr ⟨inT_3 _ (List.mem_of_getElem? (i := 96) rfl), List.forall_mem_cons.mpr ⟨inT_3 _ (List.mem_of_getElem? (i := 97) rfl), List.forall_mem_cons.mpr ⟨inT_3 _ (List.mem_of_getElem? (i := 156) rfl), List.forall_mem_cons.mpr ⟨inT_3 _ (List.mem_of_getElem? (i := 158) rfl), List.forall_mem_cons.mpr ⟨inT_p _ (List.mem_of_getElem? (i := 20) rfl), List.forall_mem_cons.mpr ⟨inT_3 _ (List.mem_of_getElem? (i := 160) rfl), List.forall_mem_cons.mpr ⟨inT_3 _ (List.mem_of_getElem? (i := 162) rfl), List.forall_mem_cons.mpr ⟨inT_p _ (List.mem_of_getElem? (i := 21) rfl), List.forall_mem_cons.mpr ⟨inT_4 _ (List.mem_of_getElem? (i := 33) rfl), List.forall_mem_cons.mpr ⟨inT_4 _ (List.mem_of_getElem? (i := 35) rfl), List.forall_mem_cons.mpr ⟨inT_p _ (List.mem_of_getElem? (i := 48) rfl), List.forall_mem_cons.mpr ⟨inT_4 _ (List.mem_of_getElem? (i := 40) rfl), List.forall_mem_cons.mpr ⟨inT_4 _ (List.mem_of_getElem? (i := 44) rfl), List.forall_mem_cons.mpr ⟨inT_4 _ (List.mem_of_getElem? (i := 48) rfl), List.forall_mem_cons.mpr ⟨inT_4 _ (List.mem_of_getElem? (i := 52) rfl), List.forall_mem_cons.mpr ⟨inT_4 _ (List.mem_of_getElem? (i := 56) rfl), List.forall_mem_cons.mpr ⟨inT_4 _ (List.mem_of_getElem? (i := 60) rfl), List.forall_mem_cons.mpr ⟨inT_4 _ (List.mem_of_getElem? (i := 76) rfl), List.forall_mem_cons.mpr ⟨inT_4 _ (List.mem_of_getElem? (i := 92) rfl), List.forall_mem_cons.mpr ⟨inT_4 _ (List.mem_of_getElem? (i := 71) rfl), List.forall_mem_cons.mpr ⟨inT_4 _ (List.mem_of_getElem? (i := 72) rfl), List.forall_mem_cons.mpr ⟨inT_4 _ (List.mem_of_getElem? (i := 77) rfl), List.forall_mem_cons.mpr ⟨inT_4 _ (List.mem_of_getElem? (i := 78) rfl), List.forall_mem_cons.mpr ⟨inT_4 _ (List.mem_of_getElem? (i := 79) rfl), List.forall_mem_cons.mpr ⟨inT_4 _ (List.mem_of_getElem? (i := 73) rfl), List.forall_mem_cons.mpr ⟨inT_4 _ (List.mem_of_getElem? (i := 75) rfl), List.forall_mem_cons.mpr ⟨inT_p _ (List.mem_of_getElem? (i := 50) rfl), List.forall_mem_cons.mpr ⟨inT_4 _ (List.mem_of_getElem? (i := 64) rfl), List.forall_mem_cons.mpr ⟨inT_4 _ (List.mem_of_getElem? (i := 65) rfl), List.forall_mem_cons.mpr ⟨inT_4 _ (List.mem_of_getElem? (i := 66) rfl), List.forall_mem_cons.mpr ⟨inT_4 _ (List.mem_of_getElem? (i := 67) rfl), List.forall_mem_cons.mpr ⟨inT_4 _ (List.mem_of_getElem? (i := 80) rfl), List.forall_mem_cons.mpr ⟨inT_4 _ (List.mem_of_getElem? (i := 68) rfl), List.forall_mem_cons.mpr ⟨inT_4 _ (List.mem_of_getElem? (i := 70) rfl), List.forall_mem_cons.mpr ⟨inT_p _ (List.mem_of_getElem? (i := 49) rfl), List.forall_mem_cons.mpr ⟨inT_4 _ (List.mem_of_getElem? (i := 84) rfl), List.forall_mem_cons.mpr ⟨inT_4 _ (List.mem_of_getElem? (i := 85) rfl), List.forall_mem_cons.mpr ⟨inT_4 _ (List.mem_of_getElem? (i := 86) rfl), fun _ h => absurd h List.not_mem_nil⟩⟩⟩⟩⟩⟩⟩⟩⟩⟩⟩⟩⟩⟩⟩⟩⟩⟩⟩⟩⟩⟩⟩⟩⟩⟩⟩⟩⟩⟩⟩⟩⟩⟩⟩⟩⟩⟩⟩⟩
set_option maxRecDepth 20000 in
theorem tb_gW_13 : ∀ w ∈ gW_13, w ∈ lw_tbl := List.forall_mem_cons.mpr ⟨inT_4 _ (List.mem_of_getElem? (i := 87) rfl), List.forall_mem_cons.mpr ⟨inT_4 _ (List.mem_of_getElem? (i := 88) rfl), List.forall_mem_cons.mpr ⟨inT_4 _ (List.mem_of_getElem? (i := 89) rfl), List.forall_mem_cons.mpr ⟨inT_4 _ (List.mem_of_getElem? (i := 91) rfl), List.forall_mem_cons.mpr ⟨inT_p _ (List.mem_of_getElem? (i := 51) rfl), List.forall_mem_cons.mpr ⟨inT_4 _ (List.mem_of_getElem? (i := 96) rfl), List.forall_mem_cons.mpr ⟨inT_4 _ (List.mem_of_getElem? (i := 100) rfl), List.forall_mem_cons.mpr ⟨inT_4 _ (List.mem_of_getElem? (i := 104) rfl), List.forall_mem_cons.mpr ⟨inT_4 _ (List.mem_of_getElem? (i := 108) rfl), List.forall_mem_cons.mpr ⟨inT_1 _ (List.mem_of_getElem? (i := 125) rfl), List.forall_mem_cons.mpr ⟨inT_1 _ (List.mem_of_getElem? (i := 126) rfl), List.forall_mem_cons.mpr ⟨inT_1 _ (List.mem_of_getElem? (i := 203) rfl), List.forall_mem_cons.mpr ⟨inT_1 _ (List.mem_of_getElem? (i := 204) rfl), List.forall_mem_cons.mpr ⟨inT_1 _ (List.mem_of_getElem? (i := 205) rfl), List.forall_mem_cons.mpr ⟨inT_1 _ (List.mem_of_getElem? (i := 206) rfl), List.forall_mem_cons.mpr ⟨inT_2 _ (List.mem_of_getElem? (i := 8) rfl), List.forall_mem_cons.mpr ⟨inT_2 _ (List.mem_of_getElem? (i := 9) rfl), List.forall_mem_cons.mpr ⟨inT_2 _ (List.mem_of_getElem? (i := 23) rfl), List.forall_mem_cons.mpr ⟨inT_2 _ (List.mem_of_getElem? (i := 24) rfl), List.forall_mem_cons.mpr ⟨inT_2 _ (List.mem_of_getElem? (i := 25) rfl), List.forall_mem_cons.mpr ⟨inT_2 _ (List.mem_of_getElem? (i := 205) rfl), List.forall_mem_cons.mpr ⟨inT_2 _ (List.mem_of_getElem? (i := 206) rfl), List.forall_mem_cons.mpr ⟨inT_2 _ (List.mem_of_getElem? (i := 207) rfl), List.forall_mem_cons.mpr ⟨inT_2 _ (List.mem_of_getElem? (i := 208) rfl), List.forall_mem_cons.mpr ⟨inT_2 _ (List.mem_of_getElem? (i := 212) rfl), List.forall_mem_cons.mpr ⟨inT_2 _ (List.mem_of_getElem? (i := 213) rfl), List.forall_mem_cons.mpr ⟨inT_2 _ (List.mem_of_getElem? (i := 214) rfl), List.forall_mem_cons.mpr ⟨inT_2 _ (List.mem_of_getElem? (i := 215) rfl), List.forall_mem_cons.mpr ⟨inT_2 _ (List.mem_of_getElem? (i := 219) rfl), List.forall_mem_cons.mpr ⟨inT_2 _ (List.mem_of_getElem? (i := 220) rfl), List.forall_mem_cons.mpr ⟨inT_2 _ (List.mem_of_getElem? (i := 221) rfl), List.forall_mem_cons.mpr ⟨inT_2 _ (List.mem_of_getElem? (i := 222) rfl), List.forall_mem_cons.mpr ⟨inT_2 _ (List.mem_of_getElem? (i := 226) rfl), List.forall_mem_cons.mpr ⟨inT_2 _ (List.mem_of_getElem? (i := 227) rfl), List.forall_mem_cons.mpr ⟨inT_2 _ (List.mem_of_getElem? (i := 228) rfl), List.forall_mem_cons.mpr ⟨inT_2 _ (List.mem_of_getElem? (i := 229) rfl), List.forall_mem_cons.mpr ⟨inT_2 _ (List.mem_of_getElem? (i := 233) rfl), List.forall_mem_cons.mpr ⟨inT_2 _ (List.mem_of_getElem? (i := 234) rfl), List.forall_mem_cons.mpr ⟨inT_2 _ (List.mem_of_getElem? (i := 235) rfl), List.forall_mem_cons.mpr ⟨inT_2 _ (List.mem_of_getElem? (i := 236) rfl), fun _ h => absurd h List.not_mem_nil⟩⟩⟩⟩⟩⟩⟩⟩⟩⟩⟩⟩⟩⟩⟩⟩⟩⟩⟩⟩⟩⟩⟩⟩⟩⟩⟩⟩⟩⟩⟩⟩⟩⟩⟩⟩⟩⟩⟩⟩
set_option maxRecDepth 20000 in
theorem tb_gW_14 : ∀ w ∈ gW_14, w ∈ lw_tbl := List.forall_mem_cons.mpr ⟨inT_3 _ (List.mem_of_getElem? (i := 27) rfl), List.forall_mem_cons.mpr ⟨inT_3 _ (List.mem_of_getElem? (i := 28) rfl), List.forall_mem_cons.mpr ⟨inT_3 _ (List.mem_of_getElem? (i := 29) rfl), List.forall_mem_cons.mpr ⟨inT_3 _ (List.mem_of_getElem? (i := 30) rfl), List.forall_mem_cons.mpr ⟨inT_3 _ (List.mem_of_getElem? (i := 63) rfl), List.forall_mem_cons.mpr ⟨inT_3 _ (List.mem_of_getElem? (i := 64) rfl), List.forall_mem_cons.mpr ⟨inT_3 _ (List.mem_of_getElem? (i := 65) rfl), List.forall_mem_cons.mpr ⟨inT_3 _ (List.mem_of_getElem? (i := 66) rfl), List.forall_mem_cons.mpr ⟨inT_3 _ (List.mem_of_getElem? (i := 71) rfl), List.forall_mem_cons.mpr ⟨inT_3 _ (List.mem_of_getElem? (i := 72) rfl), List.forall_mem_cons.mpr ⟨inT_3 _ (List.mem_of_getElem? (i := 73) rfl), List.forall_mem_cons.mpr ⟨inT_3 _ (List.mem_of_getElem? (i := 74) rfl), List.forall_mem_cons.mpr ⟨inT_3 _ (List.mem_of_getElem? (i := 79) rfl), List.forall_mem_cons.mpr ⟨inT_3 _ (List.mem_of_getElem? (i := 80) rfl), List.forall_mem_cons.mpr ⟨inT_3 _ (List.mem_of_getElem? (i := 81) rfl), List.forall_mem_cons.mpr ⟨inT_3 _ (List.mem_of_getElem? (i := 82) rfl), List.forall_mem_cons.mpr ⟨inT_1 _ (List.mem_of_getElem? (i := 15) rfl), List.forall_mem_cons.mpr ⟨inT_1 _ (List.mem_of_getElem? (i := 16) rfl), List.forall_mem_cons.mpr ⟨inT_3 _ (List.mem_of_getElem? (i := 84) rfl), List.forall_mem_cons.mpr ⟨inT_3 _ (List.mem_of_getElem? (i := 85) rfl), List.forall_mem_cons.mpr ⟨inT_4 _ (List.mem_of_getElem? (i := 109) rfl), List.forall_mem_cons.mpr ⟨inT_1 _ (List.mem_of_getElem? (i := 17) rfl), List.forall_mem_cons.mpr ⟨inT_1 _ (List.mem_of_getElem? (i := 18) rfl), List.forall_mem_cons.mpr ⟨inT_3 _ (List.mem_of_getElem? (i := 86) rfl), List.forall_mem_cons.mpr ⟨inT_3 _ (List.mem_of_getElem? (i := 87) rfl), List.forall_mem_cons.mpr ⟨inT_1 _ (List.mem_of_getElem? (i := 123) rfl), List.forall_mem_cons.mpr ⟨inT_1 _ (List.mem_of_getElem? (i := 124) rfl), List.forall_mem_cons.mpr ⟨inT_1 _ (List.mem_of_getElem? (i := 0) rfl), List.forall_mem_cons.mpr ⟨inT_4 _ (List.mem_of_getElem? (i := 41) rfl), List.forall_mem_cons.mpr ⟨inT_4 _ (List.mem_of_getElem? (i := 42) rfl), List.forall_mem_cons.mpr ⟨inT_4 _ (List.mem_of_getElem? (i := 43) rfl), List.forall_mem_cons.mpr ⟨inT_3 _ (List.mem_of_getElem? (i := 148) rfl), List.forall_mem_cons.mpr ⟨inT_3 _ (List.mem_of_getElem? (i := 149) rfl), List.forall_mem_cons.mpr ⟨inT_3 _ (List.mem_of_getElem? (i := 150) rfl), List.forall_mem_cons.mpr ⟨inT_2 _ (List.mem_of_getElem? (i := 6) rfl), List.forall_mem_cons.mpr ⟨inT_2 _ (List.mem_of_getElem? (i := 7) rfl), List.forall_mem_cons.mpr ⟨inT_3 _ (List.mem_of_getElem? (i := 152) rfl), List.forall_mem_cons.mpr ⟨inT_3 _ (List.mem_of_getElem? (i := 153) rfl), List.forall_mem_cons.mpr ⟨inT_3 _ (List.mem_of_getElem? (i := 154) rfl), List.forall_mem_cons.mpr ⟨inT_2 _ (List.mem_of_getElem? (i := 203) rfl), fun _ h => absurd h List.not_mem_nil⟩⟩⟩⟩⟩⟩⟩⟩⟩⟩⟩⟩⟩⟩⟩⟩⟩⟩⟩⟩⟩⟩⟩⟩⟩⟩⟩⟩⟩⟩⟩⟩⟩⟩⟩⟩⟩⟩⟩⟩
set_option maxRecDepth 20000 in
theorem tb_gW_15 : ∀ w ∈ gW_15, w ∈ lw_tbl := List.forall_mem_cons.mpr ⟨inT_2 _ (List.mem_of_getElem? (i := 204) rfl), List.forall_mem_cons.mpr ⟨inT_4 _ (List.mem_of_getElem? (i := 45) rfl), List.forall_mem_cons.mpr ⟨inT_4 _ (List.mem_of_getElem? (i := 46) rfl), List.forall_mem_cons.mpr ⟨inT_4 _ (List.mem_of_getElem? (i := 47) rfl), List.forall_mem_cons.mpr ⟨inT_2 _ (List.mem_of_getElem? (i := 210) rfl), List.forall_mem_cons.mpr ⟨inT_2 _ (List.mem_of_getElem? (i := 211) rfl), List.forall_mem_cons.mpr ⟨inT_4 _ (List.mem_of_getElem? (i := 49) rfl), List.forall_mem_cons.mpr ⟨inT_4 _ (List.mem_of_getElem? (i := 50) rfl), List.forall_mem_cons.mpr ⟨inT_4 _ (List.mem_of_getElem? (i := 51) rfl), List.forall_mem_cons.mpr ⟨inT_2 _ (List.mem_of_getElem? (i := 217) rfl), List.forall_mem_cons.mpr ⟨inT_2 _ (List.mem_of_getElem? (i := 218) rfl), List.forall_mem_cons.mpr ⟨inT_4 _ (List.mem_of_getElem? (i := 53) rfl), List.forall_mem_cons.mpr ⟨inT_4 _ (List.mem_of_getElem? (i := 54) rfl), List.forall_mem_cons.mpr ⟨inT_4 _ (List.mem_of_getElem? (i := 55) rfl), List.forall_mem_cons.mpr ⟨inT_2 _ (List.mem_of_getElem? (i := 224) rfl), List.forall_mem_cons.mpr ⟨inT_2 _ (List.mem_of_getElem? (i := 225) rfl), List.forall_mem_cons.mpr ⟨inT_4 _ (List.mem_of_getElem? (i := 57) rfl), List.forall_mem_cons.mpr ⟨inT_4 _ (List.mem_of_getElem? (i := 58) rfl), List.forall_mem_cons.mpr ⟨inT_4 _ (List.mem_of_getElem? (i := 59) rfl), List.forall_mem_cons.mpr ⟨inT_2 _ (List.mem_of_getElem? (i := 231) rfl), List.forall_mem_cons.mpr ⟨inT_2 _ (List.mem_of_getElem? (i := 232) rfl), List.forall_mem_cons.mpr ⟨inT_4 _ (List.mem_of_getElem? (i := 61) rfl), List.forall_mem_cons.mpr ⟨inT_4 _ (List.mem_of_getElem? (i := 62) rfl), List.forall_mem_cons.mpr ⟨inT_4 _ (List.mem_of_getElem? (i := 63) rfl), List.forall_mem_cons.mpr ⟨inT_3 _ (List.mem_of_getElem? (i := 25) rfl), List.forall_mem_cons.mpr ⟨inT_3 _ (List.mem_of_getElem? (i := 26) rfl), List.forall_mem_cons.mpr ⟨inT_4 _ (List.mem_of_getElem? (i := 81) rfl), List.forall_mem_cons.mpr ⟨inT_4 _ (List.mem_of_getElem? (i := 82) rfl), List.forall_mem_cons.mpr ⟨inT_4 _ (List.mem_of_getElem? (i := 83) rfl), List.forall_mem_cons.mpr ⟨inT_3 _ (List.mem_of_getElem? (i := 61) rfl), List.forall_mem_cons.mpr ⟨inT_3 _ (List.mem_of_getElem? (i := 62) rfl), List.forall_mem_cons.mpr ⟨inT_4 _ (List.mem_of_getElem? (i := 93) rfl), List.forall_mem_cons.mpr ⟨inT_4 _ (List.mem_of_getElem? (i := 94) rfl), List.forall_mem_cons.mpr ⟨inT_4 _ (List.mem_of_getElem? (i := 95) rfl), List.forall_mem_cons.mpr ⟨inT_3 _ (List.mem_of_getElem? (i := 69) rfl), List.forall_mem_cons.mpr ⟨inT_3 _ (List.mem_of_getElem? (i := 70) rfl), List.forall_mem_cons.mpr ⟨inT_4 _ (List.mem_of_getElem? (i := 97) rfl), List.forall_mem_cons.mpr ⟨inT_4 _ (List.mem_of_getElem? (i := 98) rfl), List.forall_mem_cons.mpr ⟨inT_4 _ (List.mem_of_getElem? (i := 99) rfl), List.forall_mem_cons.mpr ⟨inT_1 _ (List.mem_of_getElem? (i := 115) rfl), fun _ h => absurd h List.not_mem_nil⟩⟩⟩⟩⟩⟩⟩⟩⟩⟩⟩⟩⟩⟩⟩⟩⟩⟩⟩⟩⟩⟩⟩⟩⟩⟩⟩⟩⟩⟩⟩⟩⟩⟩⟩⟩⟩⟩⟩⟩
set_option maxRecDepth 20000 in
theorem tb_gW_16 : ∀ w ∈ gW_16, w ∈ lw_tbl := List.forall_mem_cons.mpr ⟨inT_1 _ (List.mem_of_getElem? (i := 116) rfl), List.forall_mem_cons.mpr ⟨inT_1 _ (List.mem_of_getElem? (i := 117) rfl), List.forall_mem_cons.mpr ⟨inT_4 _ (List.mem_of_getElem? (i := 101) rfl), List.forall_mem_cons.mpr ⟨inT_4 _ (List.mem_of_getElem? (i := 102) rfl), List.forall_mem_cons.mpr ⟨inT_4 _ (List.mem_of_getElem? (i := 103) rfl), List.forall_mem_cons.mpr ⟨inT_1 _ (List.mem_of_getElem? (i := 119) rfl), List.forall_mem_cons.mpr ⟨inT_1 _ (List.mem_of_getElem? (i := 120) rfl), List.forall_mem_cons.mpr ⟨inT_1 _ (List.mem_of_getElem? (i := 121) rfl), List.forall_mem_cons.mpr ⟨inT_4 _ (List.mem_of_getElem? (i := 105) rfl), List.forall_mem_cons.mpr ⟨inT_4 _ (List.mem_of_getElem? (i := 106) rfl), List.forall_mem_cons.mpr ⟨inT_4 _ (List.mem_of_getElem? (i := 107) rfl), List.forall_mem_cons.mpr ⟨inT_3 _ (List.mem_of_getElem? (i := 77) rfl), List.forall_mem_cons.mpr ⟨inT_3 _ (List.mem_of_getElem? (i := 78) rfl), List.forall_mem_cons.mpr ⟨inT_4 _ (List.mem_of_getElem? (i := 37) rfl), List.forall_mem_cons.mpr ⟨inT_4 _ (List.mem_of_getElem? (i := 38) rfl), List.forall_mem_cons.mpr ⟨inT_4 _ (List.mem_of_getElem? (i := 39) rfl), fun _ h => absurd h List.not_mem_nil⟩⟩⟩⟩⟩⟩⟩⟩⟩⟩⟩⟩⟩⟩⟩⟩
theorem tb_wsX00 : ∀ w ∈ wsX00, w ∈ lw_tbl := by decide +kernel
theorem tb_wsX10 : ∀ w ∈ wsX10, w ∈ lw_tbl := by decide +kernel
theorem tb_wsX30 : ∀ w ∈ wsX30, w ∈ lw_tbl := by decide +kernel
theorem tb_wsX40 : ∀ w ∈ wsX40, w ∈ lw_tbl := by decide +kernel
theorem gW_tbl : ∀ w ∈ gW, w ∈ lw_tbl := fun w h => (List.mem_append.mp h).elim (fun h => tb_wsX00 w h) (fun h => (List.mem_append.mp h).elim (fun h => tb_wsX10 w h) (fun h => (List.mem_append.mp h).elim (fun h => tb_wsX30 w h) (fun h => (List.mem_append.mp h).elim (fun h => tb_wsX40 w h) (fun h => (List.mem_append.mp h).elim (fun h => tb_gW_1 w h) (fun h => (List.mem_append.mp h).elim (fun h => tb_gW_2 w h) (fun h => (List.mem_append.mp h).elim (fun h => tb_gW_3 w h) (fun h => (List.mem_append.mp h).elim (fun h => tb_gW_4 w h) (fun h => (List.mem_append.mp h).elim (fun h => tb_gW_5 w h) (fun h => (List.mem_append.mp h).elim (fun h => tb_gW_6 w h) (fun h => (List.mem_append.mp h).elim (fun h => tb_gW_7 w h) (fun h => (List.mem_append.mp h).elim (fun h => tb_gW_8 w h) (fun h => (List.mem_append.mp h).elim (fun h => tb_gW_9 w h) (fun h => (List.mem_append.mp h).elim (fun h => tb_gW_10 w h) (fun h => (List.mem_append.mp h).elim (fun h => tb_gW_11 w h) (fun h => (List.mem_append.mp h).elim (fun h => tb_gW_12 w h) (fun h => (List.mem_append.mp h).elim (fun h => tb_gW_13 w h) (fun h => (List.mem_append.mp h).elim (fun h => tb_gW_14 w h) (fun h => (List.mem_append.mp h).elim (fun h => tb_gW_15 w h) (fun h => tb_gW_16 w h)))))))))))))))))))
theorem gW_in {ws : List Cond} (h : ∀ w ∈ ws, w ∈ gW) : GoodIn gW ws := fun w hw => ⟨h w hw, good_of_word (gW_good w (h w hw))⟩
def xws (y : MethodName) (cc : ByteArray) (maxL : Nat) (ret : Option FieldType) : List Cond := .code y cc maxL ret :: gW
theorem xws_in {y : MethodName} {cc : ByteArray} {maxL : Nat} {ret : Option FieldType} (h : Cond.code y cc maxL ret ∈ gW) : ∀ w ∈ xws y cc maxL ret, w ∈ gW := fun w hw => (List.mem_cons.mp hw).elim (fun e => e ▸ h) id
section XCW
variable {R : Room} {s : State} {args : Array Value} {own C host : String} {index maxL : Nat} {y : MethodName} {bytes : ByteArray} {ret : Option FieldType} {rm : Room}
theorem x_cwV (n : Nat) (hts : ∀ w ∈ gW, w.before args s = true) (h1 : Cond.methodLink own index y ∈ gW) (h2 : Cond.instanceMethod y ∈ gW) (h3 : Cond.selects C y y ∈ gW) (h4 : Cond.initialized C ∈ gW) (h5 : Cond.code y bytes maxL ret ∈ gW) (hrc : rm.cells = 0) (hrs : rm.slots = 0)
    (hd : y.cls = C ∧ y.cls ≠ "java/lang/invoke/MethodHandle" ∧ y.cls ≠ "java/lang/invoke/VarHandle" ∧ (parseMethodDescriptor y.desc).map (fun d => d.parameters.length) = some n) (hR : rm.frames + 1 ≤ R.frames ∧ 8 + (maxL + 11) + rm.locals ≤ R.locals) : CallW R s args own C index y bytes maxL ret (xws y bytes maxL ret) rm 0 0 n :=
  cwV n (Ts := gW) hts (gW_in (fun w hw => by
    rcases List.mem_append.mp (show w ∈ ([.methodLink own index y, .instanceMethod y, .selects C y y, .initialized C] : List Cond) ++ xws y bytes maxL ret from hw) with h | h
    · simp only [List.mem_cons, List.not_mem_nil, or_false] at h
      rcases h with rfl | rfl | rfl | rfl
      · exact h1
      · exact h2
      · exact h3
      · exact h4
    · exact xws_in h5 w h)) rfl hrc hrs hd hR
theorem x_cwS (n : Nat) (hts : ∀ w ∈ gW, w.before args s = true) (h1 : Cond.methodLink own index y ∈ gW) (h2 : Cond.static y ∈ gW) (h4 : Cond.initialized y.cls ∈ gW) (h5 : Cond.code y bytes maxL ret ∈ gW) (hrc : rm.cells = 0) (hrs : rm.slots = 0)
    (hd : y.cls ≠ "java/lang/invoke/MethodHandle" ∧ y.cls ≠ "java/lang/invoke/VarHandle" ∧ (parseMethodDescriptor y.desc).map (fun d => d.parameters.length) = some n) (hR : rm.frames + 1 ≤ R.frames ∧ 8 + (maxL + 11) + rm.locals ≤ R.locals) : CallB R s args own index y bytes maxL ret (xws y bytes maxL ret) rm 0 0 n ∧ (Cond.static y).before args s = true :=
  va_cwS n (Ts := gW) hts (gW_in (fun w hw => by
    rcases List.mem_append.mp (show w ∈ ([.methodLink own index y, .static y, .initialized y.cls] : List Cond) ++ xws y bytes maxL ret from hw) with h | h
    · simp only [List.mem_cons, List.not_mem_nil, or_false] at h
      rcases h with rfl | rfl | rfl
      · exact h1
      · exact h2
      · exact h4
    · exact xws_in h5 w h)) rfl hrc hrs hd hR
theorem x_cwN (n : Nat) (hts : ∀ w ∈ gW, w.before args s = true) (hl : va_Nw (.methodLinkNest own index y host) s) (h2 : Cond.static y ∈ gW) (h4 : Cond.initialized y.cls ∈ gW) (h5 : Cond.code y bytes maxL ret ∈ gW) (hrc : rm.cells = 0) (hrs : rm.slots = 0)
    (hd : y.cls ≠ "java/lang/invoke/MethodHandle" ∧ y.cls ≠ "java/lang/invoke/VarHandle" ∧ (parseMethodDescriptor y.desc).map (fun d => d.parameters.length) = some n) (hR : rm.frames + 1 ≤ R.frames ∧ 8 + (maxL + 11) + rm.locals ≤ R.locals) : va_CN R s args own index y host bytes maxL ret (xws y bytes maxL ret) rm 0 0 n ∧ (Cond.static y).before args s = true ∧ True :=
  ⟨va_cnB n (Ts := gW) hts (gW_in (xws_in h5)) rfl hrc hrs hl (hts _ h4) hd hR, hts _ h2, trivial⟩
end XCW
end
section
/-! ===== the system's own words: worlds, contracts, rows over them ===== -/
def bI : Bool → Int32
  | true => 1
  | false => 0
theorem bI_0 (b : Bool) : bI b = 0 ↔ ¬ b = true := by cases b <;> decide
theorem bI_inj (a b : Bool) : bI a = bI b ↔ a = b := by cases a <;> cases b <;> decide
theorem bI_nar (b : Bool) : narrow .boolean (.int (bI b)) = .int (bI b) := by cases b <;> rfl
theorem bI_fit (b : Bool) : fits .boolean (.int (bI b)) = true := by cases b <;> rfl
theorem bI_vp (b : Bool) : vp_nar .boolean (bI b) = bI b := by cases b <;> rfl
def tensL (i : Nat) : Int64 := Int64.ofNat (10 ^ i)
/-- what a launch's start gives every method: the static row of powers, the links between nest mates -/
def xSt (t0 : Nat) (A : Nat → Prop) (U : State) (H : Heap) : Prop :=
  va_Z "DecimalWords" "TENS" "[J" (.ref t0) A U H ∧ va_T .long t0 17 (fun i => .long (tensL i)) A U H ∧
  va_Nw (.methodLinkNest RX1 22 yX3_digitsOf RX3) U ∧ va_Nw (.methodLinkNest RX1 64 yX3_tenTo RX3) U ∧ va_Nw (.methodLinkNest RX2 53 yX3_tenTo RX3) U
theorem xSt.at {t0 : Nat} {A B : Nat → Prop} {s U : State} {H : Heap} (h : xSt t0 A s s.heap) (hW : s.WarmedH U.vm)
    (hq : ∀ a : Nat, a < s.heap.size → ¬ A a → H[a]? = s.heap[a]?) (hAB : ∀ q, B q → A q) (hU : U.heap = H) : xSt t0 B U U.heap := by
  obtain ⟨h1, h2, h3, h4, h5⟩ := h
  rw [hU]
  exact ⟨((h1.kept hq).moved hW.alike).narrow hAB, ((h2.kept hq).moved hW.alike).narrow hAB, h3.warmM hW, h4.warmM hW, h5.warmM hW⟩
/-- a contract's start, in words of the cells -/
def XB (D : va_G) (tys : List (ClassId × FieldType)) (t0 : Nat) (w : va_W) (sz : Nat) (U : State) : Prop :=
  U.heap.size = sz ∧ va_P D vwCl w U.heap ∧ va_K D vwCl tys U ∧ va_D (fun _ => True) w ∧ xSt t0 (va_A w sz) U U.heap
def XQ (D : va_G) (tys : List (ClassId × FieldType)) (w1 : va_W) (A : Nat → Prop) (r : Option Value) : Array Value → State → Outcome → State → Prop := fun _ st oc t =>
  (oc = .returned r ∧ va_P D vwCl w1 t.heap ∧ va_K D vwCl tys t ∧ va_D A w1) ∧ va_F A st t
def XE (below : List Frame) (D : va_G) (tys : List (ClassId × FieldType)) (w1 : va_W) (A : Nat → Prop) (r : Option Value) (args : Array Value) (s : State) : State → Prop :=
  MQ below (XQ D tys w1 A r) args s 0 0 A
/-- a method's contract: from the cells w0 it answers r, and the cells are w1 -/
def XM (l : Launch) (D : va_G) (tys : List (ClassId × FieldType)) (t0 : Nat) (y : MethodName) (cc : ByteArray) (maxL : Nat) (ret : Option FieldType) (rm : Room) (av : List Value) (r : Option Value) (w0 w1 : va_W) : Prop :=
  ∀ sz : Nat, Met l y (xws y cc maxL ret) rm (va_Pc av (XB D tys t0 w0 sz)) (XQ D tys w1 (va_A w0 sz) r) 0 0 (va_A w0 sz)
/-- what a method's body may use of its start -/
abbrev XF (p : Program) (s : State) (m : MethodId) (args : Array Value) (meth : Method) (c : Code) (cc : ByteArray) (maxL : Nat) (ret : Option FieldType) (own : String) : Prop :=
  p.tables.exec = Jvm.exec ∧ c.code = cc ∧ meth.sig.returnType = ret ∧ (∀ w ∈ gW, w.before args s = true) ∧ s.vm.findClass own = some m.cls ∧ meth.locks = false ∧ c.maxLocals = maxL
theorem XM.of {l : Launch} {D : va_G} {tys : List (ClassId × FieldType)} {t0 : Nat} {y : MethodName} {rm : Room} {av : List Value} {r : Option Value} {w0 w1 : va_W} {cc : ByteArray} {maxL : Nat} {ret : Option FieldType}
    (hy : plainName y.cls = true) (hlen : (lg_sl av).length ≤ maxL)
    (body : ∀ (p : Program) (e : Env) (s : State) (m : MethodId) (args : Array Value) (below : List Frame) (meth : Method) (c : Code) (A : Nat → Prop) (Q : State → Prop),
      XF p s m args meth c cc maxL ret y.cls → va_K D vwCl tys s → va_P D vwCl w0 s.heap → va_D A w0 → (∀ q : Nat, s.heap.size ≤ q → A q) → xSt t0 A s s.heap → va_S A s.heap s.heap [] →
      Q = XE below D tys w1 A r args s → ∀ ls : Array Slot, lv_has ls maxL (lv_args 0 av) →
      W p l e rm s m args below meth c s.heap [] 0 0 Q (F0 m 0 ls [])) : XM l D tys t0 y cc maxL ret rm av r w0 w1 := by
  intro sz
  refine Met.ofW (cc := cc) (maxL := maxL) (ret := ret) (ws' := gW) hy rfl ?_
  intro p e s m args below meth c s₁ B hml hv
  obtain ⟨hav, hsz, hP, hK, hD0, hSt⟩ := hv
  have hfr : entryFrame m args maxL = F0 m 0 ((lg_sl av ++ List.replicate (maxL - (lg_sl av).length) Slot.unset).toArray) [] := by rw [hav, lg_entry_eq]
  rw [hfr]
  subst hsz
  exact body p e s m args below meth c (va_A w0 s.heap.size) _ ⟨B.exec, B.bytes, B.returns, fun w hw => atoms_spec (ws := xws y cc maxL ret) B.pre w (List.mem_cons_of_mem _ hw), findClass_of_methodNamed B.named, B.notSynchronized, hml⟩ hK hP hD0.self (fun q h => Or.inr h) hSt va_S.rf rfl _ (lv_entry av hlen)
theorem xB_blind (D : va_G) (tys : List (ClassId × FieldType)) (t0 : Nat) (w : va_W) (sz : Nat) (av : List Value) : FrameBlind (va_Pc av (XB D tys t0 w sz)) := by
  intro a U g mk q
  obtain ⟨q0, q1, qP, qK, qD, z1, z2, z3, z4, z5⟩ := q
  exact ⟨q0, q1, qP, va_K.moved (u := U) (U := U.calling g mk a) (Vm.Alike.refl U.vm) qK, qD, z1.moved (u := U) (U := U.calling g mk a) (Vm.Alike.refl U.vm), z2.moved (u := U) (U := U.calling g mk a) (Vm.Alike.refl U.vm), z3.same rfl rfl, z4.same rfl rfl, z5.same rfl rfl⟩
section XC
variable {p : Program} {l : Launch} {e : Env} {R : Room} {s : State} {m : MethodId} {args : Array Value} {below : List Frame} {meth : Method} {c : Code} {H : Heap} {locs : List Loc} {cells slots : Nat} {Q : State → Prop}
variable {pc : Nat} {ls : Array Slot} {rest st0 : List Value} {a : Array Value} {A : Nat → Prop} {D : va_G} {tys : List (ClassId × FieldType)} {t0 : Nat} {w0 w1 w : va_W} {r : Option Value}
variable {y : MethodName} {bytes cc : ByteArray} {maxL nL n index : Nat} {ret : Option FieldType} {ws : List Cond} {rm : Room} {Ts : List Cond} {own C host : String} {b : Addr} {As : List Value}
theorem xA_of (hD : va_D A w) (hS : va_S A s.heap H locs) (hA : ∀ q : Nat, s.heap.size ≤ q → A q) : ∀ q, va_A w H.size q → A q := by
  intro q h
  rcases h with ⟨k, e, h⟩ | h
  · exact hD.2 k (q, e) h
  · exact hA q (Nat.le_trans hS.1 h)
theorem xB_of (hK : va_K D vwCl tys s) (hP : va_P D vwCl w H) (hD : va_D A w) (hS : va_S A s.heap H locs) (hA : ∀ q : Nat, s.heap.size ≤ q → A q) (hSt : xSt t0 A s s.heap) (U : State) (hU : U.heap = H) (hW : s.WarmedH U.vm) : XB D tys t0 w H.size U :=
  ⟨by rw [hU], by rw [hU]; exact hP, va_K.moved hW.alike hK, hD.weaken (fun _ _ _ _ => trivial), hSt.at hW hS.2.1 (xA_of hD hS hA) hU⟩
/-- behind a call -/
theorem x_call (hr : va_Run p l e R s m args below meth c H locs cells slots 0 0 (F0 m pc ls st0) rest (XQ D tys w1 (va_A w H.size) r a) (va_A w H.size)) (hD : va_D A w) (hS : va_S A s.heap H locs) (hA : ∀ q : Nat, s.heap.size ≤ q → A q)
    (kk : ∀ (H1 : Heap) (locs1 : List Loc), va_P D vwCl w1 H1 → va_D A w1 → va_S A s.heap H1 locs1 → W p l e R s m args below meth c H1 locs1 cells slots Q (F0 m (pc + 3) ls (r.toList ++ rest))) : W p l e R s m args below meth c H locs cells slots Q (F0 m pc ls st0) := by
  have hF := xA_of hD hS hA
  intro T hT X
  obtain ⟨v, st₀, t, T', L, h0, X', hL, e1, e2, ⟨⟨hv, hP1, hK1, hD1⟩, hz, hk⟩, st⟩ := hr T hT X
  cases hv
  rw [h0] at hz hk
  obtain ⟨t2, a1, b1⟩ := kk T'.heap (locs ++ L) (by rw [e1]; exact hP1) (hD1.weaken (fun k q _ h => hF q.1 h))
    ⟨Nat.le_trans hS.1 (by rw [e1]; exact hz), fun q h1 h2 => by rw [e1, hk q (Nat.lt_of_lt_of_le h1 hS.1) (fun z => h2 (hF q z))]; exact hS.2.1 q h1 h2, fun q hq => by
      rcases List.mem_append.mp hq with h | h
      · exact hS.2.2 q h
      · exact hF _ (hL q h)⟩ T' rfl X'
  exact ⟨t2, st t2 a1, b1⟩
theorem x_S (S : CallFix p m c cc nL s args Ts own) (hM : XM l D tys t0 y bytes maxL ret rm As r w w1) (cw : CallB R s args own index y bytes maxL ret (xws y bytes maxL ret) rm 0 0 n ∧ (Cond.static y).before args s = true)
    (hK : va_K D vwCl tys s) (hP : va_P D vwCl w H) (hD : va_D A w) (hS : va_S A s.heap H locs) (hA : ∀ q : Nat, s.heap.size ≤ q → A q) (hSt : xSt t0 A s s.heap)
    (hn : As.length = n) (hsize : ls.size = nL) (hstack : st0 = As.reverse ++ rest) (hW : (rest.map fun v => v.category).sum ≤ 8) (hdg : decode cc pc = .ok (.invokestatic index, 3)) (hf : cells ≤ R.cells ∧ slots ≤ R.slots)
    (kk : ∀ (H1 : Heap) (locs1 : List Loc), va_P D vwCl w1 H1 → va_D A w1 → va_S A s.heap H1 locs1 → W p l e R s m args below meth c H1 locs1 cells slots Q (F0 m (pc + 3) ls (r.toList ++ rest))) : W p l e R s m args below meth c H locs cells slots Q (F0 m pc ls st0) :=
  x_call (va_runS S (hM H.size) cw ⟨xB_blind D tys t0 w H.size As, fun U hU hW => ⟨rfl, xB_of hK hP hD hS hA hSt U hU hW⟩⟩ rfl hn hsize hstack (lv_room hW) hdg hf) hD hS hA kk
theorem x_SN (S : CallFix p m c cc nL s args Ts own) (hM : XM l D tys t0 y bytes maxL ret rm As r w w1) (cw : va_CN R s args own index y host bytes maxL ret (xws y bytes maxL ret) rm 0 0 n ∧ (Cond.static y).before args s = true ∧ True)
    (hK : va_K D vwCl tys s) (hP : va_P D vwCl w H) (hD : va_D A w) (hS : va_S A s.heap H locs) (hA : ∀ q : Nat, s.heap.size ≤ q → A q) (hSt : xSt t0 A s s.heap)
    (hn : As.length = n) (hsize : ls.size = nL) (hstack : st0 = As.reverse ++ rest) (hW : (rest.map fun v => v.category).sum ≤ 8) (hdg : decode cc pc = .ok (.invokestatic index, 3)) (hf : cells ≤ R.cells ∧ slots ≤ R.slots)
    (kk : ∀ (H1 : Heap) (locs1 : List Loc), va_P D vwCl w1 H1 → va_D A w1 → va_S A s.heap H1 locs1 → W p l e R s m args below meth c H1 locs1 cells slots Q (F0 m (pc + 3) ls (r.toList ++ rest))) : W p l e R s m args below meth c H locs cells slots Q (F0 m pc ls st0) :=
  x_call (va_runSN S (hM H.size) cw ⟨xB_blind D tys t0 w H.size As, fun U hU hW => ⟨rfl, xB_of hK hP hD hS hA hSt U hU hW⟩⟩ rfl hn hsize hstack (lv_room hW) hdg hf) hD hS hA kk
theorem x_V (S : CallFix p m c cc nL s args Ts own) (hM : XM l D tys t0 y bytes maxL ret rm (.ref b :: As) r w w1) (cw : CallW R s args own C index y bytes maxL ret (xws y bytes maxL ret) rm 0 0 n)
    (hK : va_K D vwCl tys s) (hP : va_P D vwCl w H) (hD : va_D A w) (hS : va_S A s.heap H locs) (hA : ∀ q : Nat, s.heap.size ≤ q → A q) (hSt : xSt t0 A s s.heap) (q0 : Nat) {ci N : Nat} {T : u_T} {fs : List Value} (hb0 : w[q0]? = some (b, .inr (ci, fs))) (hc : vwCl[ci]? = some (C, T, N))
    (hn : As.length = n) (hsize : ls.size = nL) (hstack : st0 = As.reverse ++ .ref b :: rest) (hW : (rest.map fun v => v.category).sum ≤ 8) (hdg : decode cc pc = .ok (.invokevirtual index, 3)) (hf : cells ≤ R.cells ∧ slots ≤ R.slots)
    (kk : ∀ (H1 : Heap) (locs1 : List Loc), va_P D vwCl w1 H1 → va_D A w1 → va_S A s.heap H1 locs1 → W p l e R s m args below meth c H1 locs1 cells slots Q (F0 m (pc + 3) ls (r.toList ++ rest))) : W p l e R s m args below meth c H locs cells slots Q (F0 m pc ls st0) :=
  x_call (va_runV S (hM H.size) cw ⟨xB_blind D tys t0 w H.size (.ref b :: As), va_recv hK hP (q0 := q0) hc hb0, fun U hU hW => ⟨rfl, xB_of hK hP hD hS hA hSt U hU hW⟩⟩ rfl hn hsize hstack (lv_room hW) hdg hf) hD hS hA kk
/-! ends -/
theorem x_vret (hexec : p.tables.exec = Jvm.exec) (hb : c.code = cc) (hr : meth.sig.returnType = none) (hlocks : meth.locks = false) (hQ : Q = XE below D tys w1 A none args s) (hK : va_K D vwCl tys s) (hP : va_P D vwCl w H) (hD : va_D A w) (hS : va_S A s.heap H locs) (hw : w = w1)
    (hdg : decode cc pc = .ok (.return_, 1)) : W p l e R s m args below meth c H locs 0 0 Q (F0 m pc ls []) := by
  subst hQ; subst hw
  exact W.vret hexec hb hr (fun t ht hW => ⟨⟨rfl, by rw [ht]; exact hP, va_K.moved hW.alike hK, hD⟩, hS.F ht⟩) hS.2.2 hdg hlocks
theorem x_iret {v : Int32} (hexec : p.tables.exec = Jvm.exec) (hb : c.code = cc) (hr : meth.sig.returnType = some .int) (hlocks : meth.locks = false) (hQ : Q = XE below D tys w1 A r args s) (hK : va_K D vwCl tys s) (hP : va_P D vwCl w H) (hD : va_D A w) (hS : va_S A s.heap H locs) (hw : w = w1) (hv : r = some (.int v))
    (hdg : decode cc pc = .ok (.ireturn, 1)) : W p l e R s m args below meth c H locs 0 0 Q (F0 m pc ls [.int v]) := by
  subst hQ; subst hw; subst hv
  exact W.iret hexec hb hr (fun t ht hW => ⟨⟨rfl, by rw [ht]; exact hP, va_K.moved hW.alike hK, hD⟩, hS.F ht⟩) hS.2.2 hdg hlocks
theorem x_zret {v : Bool} (hexec : p.tables.exec = Jvm.exec) (hb : c.code = cc) (hr : meth.sig.returnType = some .boolean) (hlocks : meth.locks = false) (hQ : Q = XE below D tys w1 A r args s) (hK : va_K D vwCl tys s) (hP : va_P D vwCl w H) (hD : va_D A w) (hS : va_S A s.heap H locs) (hw : w = w1) (hv : r = some (.int (bI v)))
    (hdg : decode cc pc = .ok (.ireturn, 1)) : W p l e R s m args below meth c H locs 0 0 Q (F0 m pc ls [.int (bI v)]) := by
  subst hQ; subst hw; subst hv
  exact W.zret hexec hb hr (bI_nar v) (fun t ht hW => ⟨⟨rfl, by rw [ht]; exact hP, va_K.moved hW.alike hK, hD⟩, hS.F ht⟩) hS.2.2 hdg hlocks
theorem x_lret {v : Int64} (hexec : p.tables.exec = Jvm.exec) (hb : c.code = cc) (hr : meth.sig.returnType = some .long) (hlocks : meth.locks = false) (hQ : Q = XE below D tys w1 A r args s) (hK : va_K D vwCl tys s) (hP : va_P D vwCl w H) (hD : va_D A w) (hS : va_S A s.heap H locs) (hw : w = w1) (hv : r = some (.long v))
    (hdg : decode cc pc = .ok (.lreturn, 1)) : W p l e R s m args below meth c H locs 0 0 Q (F0 m pc ls [.long v]) := by
  subst hQ; subst hw; subst hv
  exact W.lret hexec hb hr (fun t ht hW => ⟨⟨rfl, by rw [ht]; exact hP, va_K.moved hW.alike hK, hD⟩, hS.F ht⟩) hS.2.2 hdg hlocks
/-! branches on a boolean, on two booleans, on two longs -/
theorem xb_eq (hexec : p.tables.exec = Jvm.exec) (hb : c.code = cc) {x : Bool} {off : Int} {tgt : Nat} (hdg : decode cc pc = .ok (.ifCond .eq off, 3)) (ht : (pc : Int) + off = (tgt : Int))
    (kt : ¬ x = true → W p l e R s m args below meth c H locs cells slots Q (F0 m tgt ls rest)) (kf : x = true → W p l e R s m args below meth c H locs cells slots Q (F0 m (pc + 3) ls rest)) : W p l e R s m args below meth c H locs cells slots Q (F0 m pc ls (.int (bI x) :: rest)) :=
  lv_if_eq hexec hb hdg ht (fun h => kt ((bI_0 x).mp h)) (fun h => kf (by cases x with | true => rfl | false => exact absurd rfl h))
theorem xb_ne (hexec : p.tables.exec = Jvm.exec) (hb : c.code = cc) {x : Bool} {off : Int} {tgt : Nat} (hdg : decode cc pc = .ok (.ifCond .ne off, 3)) (ht : (pc : Int) + off = (tgt : Int))
    (kt : x = true → W p l e R s m args below meth c H locs cells slots Q (F0 m tgt ls rest)) (kf : ¬ x = true → W p l e R s m args below meth c H locs cells slots Q (F0 m (pc + 3) ls rest)) : W p l e R s m args below meth c H locs cells slots Q (F0 m pc ls (.int (bI x) :: rest)) :=
  lv_if_ne hexec hb hdg ht (fun h => kt (by cases x with | true => rfl | false => exact absurd rfl h)) (fun h => kf ((bI_0 x).mp h))
theorem xbb_eq (hexec : p.tables.exec = Jvm.exec) (hb : c.code = cc) {x y : Bool} {off : Int} {tgt : Nat} (hdg : decode cc pc = .ok (.if_icmp .eq off, 3)) (ht : (pc : Int) + off = (tgt : Int))
    (kt : x = y → W p l e R s m args below meth c H locs cells slots Q (F0 m tgt ls rest)) (kf : ¬ x = y → W p l e R s m args below meth c H locs cells slots Q (F0 m (pc + 3) ls rest)) : W p l e R s m args below meth c H locs cells slots Q (F0 m pc ls (.int (bI y) :: .int (bI x) :: rest)) :=
  lv_icmp_eq hexec hb hdg ht (fun h => kt ((bI_inj x y).mp h)) (fun h => kf (fun q => h (by rw [q])))
theorem xbb_ne (hexec : p.tables.exec = Jvm.exec) (hb : c.code = cc) {x y : Bool} {off : Int} {tgt : Nat} (hdg : decode cc pc = .ok (.if_icmp .ne off, 3)) (ht : (pc : Int) + off = (tgt : Int))
    (kt : ¬ x = y → W p l e R s m args below meth c H locs cells slots Q (F0 m tgt ls rest)) (kf : x = y → W p l e R s m args below meth c H locs cells slots Q (F0 m (pc + 3) ls rest)) : W p l e R s m args below meth c H locs cells slots Q (F0 m pc ls (.int (bI y) :: .int (bI x) :: rest)) :=
  lv_icmp_ne hexec hb hdg ht (fun h => kt (fun q => h (by rw [q]))) (fun h => kf ((bI_inj x y).mp h))
theorem xl_eq (hexec : p.tables.exec = Jvm.exec) (hb : c.code = cc) {x y : Int64} {off : Int} {tgt : Nat} (h1 : decode cc pc = .ok (.lcmp, 1)) (hdg : decode cc (pc + 1) = .ok (.ifCond .eq off, 3)) (ht : ((pc + 1 : Nat) : Int) + off = (tgt : Int))
    (kt : x = y → W p l e R s m args below meth c H locs cells slots Q (F0 m tgt ls rest)) (kf : ¬ x = y → W p l e R s m args below meth c H locs cells slots Q (F0 m (pc + 4) ls rest)) : W p l e R s m args below meth c H locs cells slots Q (F0 m pc ls (.long y :: .long x :: rest)) :=
  W.lcmp hexec hb h1 (lv_if_eq hexec hb hdg ht (fun h => kt ((lg_cmp_eq x y).mp h)) (fun h => kf (fun q => h ((lg_cmp_eq x y).mpr q))))
theorem xl_ne (hexec : p.tables.exec = Jvm.exec) (hb : c.code = cc) {x y : Int64} {off : Int} {tgt : Nat} (h1 : decode cc pc = .ok (.lcmp, 1)) (hdg : decode cc (pc + 1) = .ok (.ifCond .ne off, 3)) (ht : ((pc + 1 : Nat) : Int) + off = (tgt : Int))
    (kt : ¬ x = y → W p l e R s m args below meth c H locs cells slots Q (F0 m tgt ls rest)) (kf : x = y → W p l e R s m args below meth c H locs cells slots Q (F0 m (pc + 4) ls rest)) : W p l e R s m args below meth c H locs cells slots Q (F0 m pc ls (.long y :: .long x :: rest)) :=
  W.lcmp hexec hb h1 (lv_if_ne hexec hb hdg ht (fun h => kt (fun q => h ((lg_cmp_eq x y).mpr q))) (fun h => kf ((lg_cmp_eq x y).mp h)))
theorem xl_lt (hexec : p.tables.exec = Jvm.exec) (hb : c.code = cc) {x y : Int64} {off : Int} {tgt : Nat} (h1 : decode cc pc = .ok (.lcmp, 1)) (hdg : decode cc (pc + 1) = .ok (.ifCond .lt off, 3)) (ht : ((pc + 1 : Nat) : Int) + off = (tgt : Int))
    (kt : x < y → W p l e R s m args below meth c H locs cells slots Q (F0 m tgt ls rest)) (kf : ¬ x < y → W p l e R s m args below meth c H locs cells slots Q (F0 m (pc + 4) ls rest)) : W p l e R s m args below meth c H locs cells slots Q (F0 m pc ls (.long y :: .long x :: rest)) :=
  W.lcmp hexec hb h1 (lv_if_lt hexec hb hdg ht (fun h => kt ((lg_cmp_lt x y).mp h)) (fun h => kf (fun q => h ((lg_cmp_lt x y).mpr q))))
theorem xl_ge (hexec : p.tables.exec = Jvm.exec) (hb : c.code = cc) {x y : Int64} {off : Int} {tgt : Nat} (h1 : decode cc pc = .ok (.lcmp, 1)) (hdg : decode cc (pc + 1) = .ok (.ifCond .ge off, 3)) (ht : ((pc + 1 : Nat) : Int) + off = (tgt : Int))
    (kt : y ≤ x → W p l e R s m args below meth c H locs cells slots Q (F0 m tgt ls rest)) (kf : ¬ y ≤ x → W p l e R s m args below meth c H locs cells slots Q (F0 m (pc + 4) ls rest)) : W p l e R s m args below meth c H locs cells slots Q (F0 m pc ls (.long y :: .long x :: rest)) :=
  W.lcmp hexec hb h1 (lv_if_ge hexec hb hdg ht (fun h => kt ((lg_cmp_ge x y).mp h)) (fun h => kf (fun q => h ((lg_cmp_ge x y).mpr q))))
theorem xl_gt (hexec : p.tables.exec = Jvm.exec) (hb : c.code = cc) {x y : Int64} {off : Int} {tgt : Nat} (h1 : decode cc pc = .ok (.lcmp, 1)) (hdg : decode cc (pc + 1) = .ok (.ifCond .gt off, 3)) (ht : ((pc + 1 : Nat) : Int) + off = (tgt : Int))
    (kt : y < x → W p l e R s m args below meth c H locs cells slots Q (F0 m tgt ls rest)) (kf : ¬ y < x → W p l e R s m args below meth c H locs cells slots Q (F0 m (pc + 4) ls rest)) : W p l e R s m args below meth c H locs cells slots Q (F0 m pc ls (.long y :: .long x :: rest)) :=
  W.lcmp hexec hb h1 (lv_if_gt hexec hb hdg ht (fun h => kt ((lg_cmp_gt x y).mp h)) (fun h => kf (fun q => h ((lg_cmp_gt x y).mpr q))))
theorem xl_le (hexec : p.tables.exec = Jvm.exec) (hb : c.code = cc) {x y : Int64} {off : Int} {tgt : Nat} (h1 : decode cc pc = .ok (.lcmp, 1)) (hdg : decode cc (pc + 1) = .ok (.ifCond .le off, 3)) (ht : ((pc + 1 : Nat) : Int) + off = (tgt : Int))
    (kt : x ≤ y → W p l e R s m args below meth c H locs cells slots Q (F0 m tgt ls rest)) (kf : ¬ x ≤ y → W p l e R s m args below meth c H locs cells slots Q (F0 m (pc + 4) ls rest)) : W p l e R s m args below meth c H locs cells slots Q (F0 m pc ls (.long y :: .long x :: rest)) :=
  W.lcmp hexec hb h1 (lv_if_le hexec hb hdg ht (fun h => kt ((lg_cmp_le x y).mp h)) (fun h => kf (fun q => h ((lg_cmp_le x y).mpr q))))
end XC
end
section
/-! ===== the two worlds ===== -/
def dcell (ad : Nat → Nat) (so : Nat → Int32) (mi : Nat → Bool) (co : Nat → Int64) (ex : Nat → Int32) (i : Nat) : Nat × va_E := (ad i, .inr (2, [.int (so i), .int (bI (mi i)), .long (co i), .int (ex i)]))
/-- the class' cells: itself, the row of registers, the outcome, the nine data (the last one is the result) -/
def xw (cR : ClassId) (hx hr ho : Nat) (ad : Nat → Nat) (rd tr sd rn : Int32) (om : Bool) (oh ol : Int64) (op : Int32) (oe : Bool) (ow : Int32) (ok : Int64) (os : Int32) (so : Nat → Int32) (mi : Nat → Bool) (co : Nat → Int64) (ex : Nat → Int32) : va_W :=
  [(hx, .inr (4, [.ref hr, .ref (ad 8), .ref ho, .int rd, .int tr, .int sd, .int rn])), (hr, .inl (cR, 8, .inr (.inr (.inr (.inr (fun k => some (ad k))))))), (ho, .inr (3, [.int (bI om), .long oh, .long ol, .int op, .int (bI oe), .int ow, .long ok, .int os]))] ++ (List.range 9).map (dcell ad so mi co ex)
/-- the reference's cells -/
def mw (cI cJ cZ : ClassId) (hm hk hn hc he hd hq : Nat) (th mo fg tp kd : Int32) (ng : Bool) (cc : Int64) (qq rs ct un : Int32) (re : Bool) (ks : Nat → Int32) (ms : Nat → Bool) (cs : Nat → Int64) (es dg og : Nat → Int32) : va_W :=
  [(hm, .inr (5, [.int th, .ref hk, .ref hn, .ref hc, .ref he, .int mo, .int fg, .int tp, .int kd, .int (bI ng), .long cc, .int qq, .int rs, .int ct, .ref hd, .ref hq, .int un, .int (bI re)])), (hk, .inl (cI, 8, .inl ks)), (hn, .inl (cZ, 8, .inl (fun k => bI (ms k)))), (hc, .inl (cJ, 8, .inr (.inl cs))), (he, .inl (cI, 8, .inl es)), (hd, .inl (cI, 900, .inl dg)), (hq, .inl (cI, 900, .inl og))]
def xty (cR cI cJ cZ : ClassId) : List (ClassId × FieldType) := [(cR, .object RX0), (cI, .int), (cJ, .long), (cZ, .boolean)]
theorem map_set {α : Type} {n i : Nat} {f g : Nat → α} {v : α} (h1 : g i = v) (h2 : ∀ j, j ≠ i → g j = f j) : ((List.range n).map f).set i v = (List.range n).map g := by
  apply List.ext_getElem?
  intro j
  rw [List.getElem?_set, List.getElem?_map, List.getElem?_map, List.length_map, List.length_range]
  by_cases hj : i = j
  · subst hj
    by_cases hn : i < n
    · simp [hn, h1]
    · simp [hn]
  · rw [if_neg hj]
    by_cases hn : j < n
    · simp [hn, h2 j (fun e => hj e.symm)]
    · simp [hn]
section XWD
variable {cR : ClassId} {hx hr ho : Nat} {ad : Nat → Nat} {rd tr sd rn : Int32} {om : Bool} {oh ol : Int64} {op : Int32} {oe : Bool} {ow : Int32} {ok : Int64} {os : Int32} {so : Nat → Int32} {mi : Nat → Bool} {co : Nat → Int64} {ex : Nat → Int32} {i : Nat}
theorem xw_dat (hi : i < 9) : (xw cR hx hr ho ad rd tr sd rn om oh ol op oe ow ok os so mi co ex)[3 + i]? = some (dcell ad so mi co ex i) := by
  unfold xw
  rw [List.getElem?_append_right (by simp)]
  simp [hi]
theorem xw_set {so' : Nat → Int32} {mi' : Nat → Bool} {co' : Nat → Int64} {ex' : Nat → Int32} {v : Nat × va_E} (h1 : dcell ad so' mi' co' ex' i = v) (h2 : ∀ j, j ≠ i → dcell ad so' mi' co' ex' j = dcell ad so mi co ex j) : (xw cR hx hr ho ad rd tr sd rn om oh ol op oe ow ok os so mi co ex).set (3 + i) v = xw cR hx hr ho ad rd tr sd rn om oh ol op oe ow ok os so' mi' co' ex' := by
  unfold xw
  rw [List.set_append_right _ _ (by simp)]
  congr 1
  rw [show 3 + i - [(hx, (Sum.inr (4, [Value.ref hr, .ref (ad 8), .ref ho, .int rd, .int tr, .int sd, .int rn]) : va_E)), (hr, .inl (cR, 8, .inr (.inr (.inr (.inr (fun k => some (ad k))))))), (ho, .inr (3, [.int (bI om), .long oh, .long ol, .int op, .int (bI oe), .int ow, .long ok, .int os]))].length = i from by simp]
  exact map_set h1 h2
theorem xw_so (v : Int32) : (xw cR hx hr ho ad rd tr sd rn om oh ol op oe ow ok os so mi co ex).set (3 + i) (ad i, .inr (2, [.int v, .int (bI (mi i)), .long (co i), .int (ex i)])) = xw cR hx hr ho ad rd tr sd rn om oh ol op oe ow ok os (va_up so i v) mi co ex :=
  xw_set (by simp [dcell, va_up]) (fun j hj => by simp [dcell, va_up, hj])
theorem xw_mi (v : Bool) : (xw cR hx hr ho ad rd tr sd rn om oh ol op oe ow ok os so mi co ex).set (3 + i) (ad i, .inr (2, [.int (so i), .int (bI v), .long (co i), .int (ex i)])) = xw cR hx hr ho ad rd tr sd rn om oh ol op oe ow ok os so (va_up mi i v) co ex :=
  xw_set (by simp [dcell, va_up]) (fun j hj => by simp [dcell, va_up, hj])
theorem xw_co (v : Int64) : (xw cR hx hr ho ad rd tr sd rn om oh ol op oe ow ok os so mi co ex).set (3 + i) (ad i, .inr (2, [.int (so i), .int (bI (mi i)), .long v, .int (ex i)])) = xw cR hx hr ho ad rd tr sd rn om oh ol op oe ow ok os so mi (va_up co i v) ex :=
  xw_set (by simp [dcell, va_up]) (fun j hj => by simp [dcell, va_up, hj])
theorem xw_ex (v : Int32) : (xw cR hx hr ho ad rd tr sd rn om oh ol op oe ow ok os so mi co ex).set (3 + i) (ad i, .inr (2, [.int (so i), .int (bI (mi i)), .long (co i), .int v])) = xw cR hx hr ho ad rd tr sd rn om oh ol op oe ow ok os so mi co (va_up ex i v) :=
  xw_set (by simp [dcell, va_up]) (fun j hj => by simp [dcell, va_up, hj])
end XWD
section XWR
variable {p : Program} {l : Launch} {e : Env} {R : Room} {s : State} {m : MethodId} {args : Array Value} {below : List Frame} {meth : Method} {c : Code} {H : Heap} {locs : List Loc} {cells slots : Nat} {Q : State → Prop}
variable {pc : Nat} {ls : Array Slot} {rest : List Value} {A : Nat → Prop} {D : va_G} {tys : List (ClassId × FieldType)} {H0 : Heap} {cc : ByteArray} {own : String} {index : Nat} {Ts : List Cond}
variable {cR : ClassId} {hx hr ho : Nat} {ad : Nat → Nat} {rd tr sd rn : Int32} {om : Bool} {oh ol : Int64} {op : Int32} {oe : Bool} {ow : Int32} {ok : Int64} {os : Int32} {so : Nat → Int32} {mi : Nat → Bool} {co : Nat → Int64} {ex : Nat → Int32} {i : Nat}
theorem g_so (hexec : p.tables.exec = Jvm.exec) (hb : c.code = cc) (hts : ∀ w ∈ Ts, w.before args s = true) (hin : ∀ w ∈ wsX00, w ∈ Ts) (hown : s.vm.findClass own = some m.cls) (hK : va_K D vwCl tys s) (hP : va_P D vwCl (xw cR hx hr ho ad rd tr sd rn om oh ol op oe ow ok os so mi co ex) H) (hi : i < 9) (hlink : (Cond.fieldLink own index RX0 "sort" "I").before args s = true) (hdg : decode cc pc = .ok (.getfield index, 3))
    (kk : W p l e R s m args below meth c H locs cells slots Q (F0 m (pc + 3) ls (.int (so i) :: rest))) : W p l e R s m args below meth c H locs cells slots Q (F0 m pc ls (.ref (ad i) :: rest)) :=
  va_get (D := D) (ci := 2) (v := .int (so i)) (C := RX0) (T := TX0) (N := 4) hexec hb hts hin hown hK hP (3 + i) (xw_dat hi) rfl 0 (by decide) hlink (fun _ h9 => h9) rfl hdg kk
theorem p_so (hexec : p.tables.exec = Jvm.exec) (hb : c.code = cc) (hts : ∀ w ∈ Ts, w.before args s = true) (hin : ∀ w ∈ wsX00, w ∈ Ts) (hown : s.vm.findClass own = some m.cls) (hK : va_K D vwCl tys s) (hP : va_P D vwCl (xw cR hx hr ho ad rd tr sd rn om oh ol op oe ow ok os so mi co ex) H) (hD : va_D A (xw cR hx hr ho ad rd tr sd rn om oh ol op oe ow ok os so mi co ex)) (hS : va_S A H0 H locs) (hi : i < 9) (hlink : (Cond.fieldLink own index RX0 "sort" "I").before args s = true) (v : Int32) (hdg : decode cc pc = .ok (.putfield index, 3))
    (kk : ∀ (H1 : Heap) (locs1 : List Loc), va_P D vwCl (xw cR hx hr ho ad rd tr sd rn om oh ol op oe ow ok os (va_up so i v) mi co ex) H1 → va_D A (xw cR hx hr ho ad rd tr sd rn om oh ol op oe ow ok os (va_up so i v) mi co ex) → va_S A H0 H1 locs1 → W p l e R s m args below meth c H1 locs1 cells slots Q (F0 m (pc + 3) ls rest)) : W p l e R s m args below meth c H locs cells slots Q (F0 m pc ls (.int v :: .ref (ad i) :: rest)) :=
  va_put (D := D) (ci := 2) (v := .int v) (ty := .int) (C := RX0) (T := TX0) (N := 4) hexec hb hts hin tyX0 tyX0_ok nmX0 hown hK hP hD hS (3 + i) (xw_dat hi) rfl 0 (by decide) hlink (fun _ h9 => h9) rfl (by decide +kernel) rfl rfl (Nat.le_of_ble_eq_true rfl) hdg
    (fun H1 locs1 h1 h2 h3 => kk H1 locs1 ((xw_so (cR := cR) (hx := hx) (hr := hr) (ho := ho) (i := i) v) ▸ h1) ((xw_so (cR := cR) (hx := hx) (hr := hr) (ho := ho) (i := i) v) ▸ h2) h3)
theorem g_mi (hexec : p.tables.exec = Jvm.exec) (hb : c.code = cc) (hts : ∀ w ∈ Ts, w.before args s = true) (hin : ∀ w ∈ wsX00, w ∈ Ts) (hown : s.vm.findClass own = some m.cls) (hK : va_K D vwCl tys s) (hP : va_P D vwCl (xw cR hx hr ho ad rd tr sd rn om oh ol op oe ow ok os so mi co ex) H) (hi : i < 9) (hlink : (Cond.fieldLink own index RX0 "minus" "Z").before args s = true) (hdg : decode cc pc = .ok (.getfield index, 3))
    (kk : W p l e R s m args below meth c H locs cells slots Q (F0 m (pc + 3) ls (.int (bI (mi i)) :: rest))) : W p l e R s m args below meth c H locs cells slots Q (F0 m pc ls (.ref (ad i) :: rest)) :=
  va_get (D := D) (ci := 2) (v := .int (bI (mi i))) (C := RX0) (T := TX0) (N := 4) hexec hb hts hin hown hK hP (3 + i) (xw_dat hi) rfl 1 (by decide) hlink (fun _ h9 => h9) rfl hdg kk
theorem p_mi (hexec : p.tables.exec = Jvm.exec) (hb : c.code = cc) (hts : ∀ w ∈ Ts, w.before args s = true) (hin : ∀ w ∈ wsX00, w ∈ Ts) (hown : s.vm.findClass own = some m.cls) (hK : va_K D vwCl tys s) (hP : va_P D vwCl (xw cR hx hr ho ad rd tr sd rn om oh ol op oe ow ok os so mi co ex) H) (hD : va_D A (xw cR hx hr ho ad rd tr sd rn om oh ol op oe ow ok os so mi co ex)) (hS : va_S A H0 H locs) (hi : i < 9) (hlink : (Cond.fieldLink own index RX0 "minus" "Z").before args s = true) (v : Bool) (hdg : decode cc pc = .ok (.putfield index, 3))
    (kk : ∀ (H1 : Heap) (locs1 : List Loc), va_P D vwCl (xw cR hx hr ho ad rd tr sd rn om oh ol op oe ow ok os so (va_up mi i v) co ex) H1 → va_D A (xw cR hx hr ho ad rd tr sd rn om oh ol op oe ow ok os so (va_up mi i v) co ex) → va_S A H0 H1 locs1 → W p l e R s m args below meth c H1 locs1 cells slots Q (F0 m (pc + 3) ls rest)) : W p l e R s m args below meth c H locs cells slots Q (F0 m pc ls (.int (bI v) :: .ref (ad i) :: rest)) :=
  va_put (D := D) (ci := 2) (v := .int (bI v)) (ty := .boolean) (C := RX0) (T := TX0) (N := 4) hexec hb hts hin tyX0 tyX0_ok nmX0 hown hK hP hD hS (3 + i) (xw_dat hi) rfl 1 (by decide) hlink (fun _ h9 => h9) rfl (by decide +kernel) (bI_nar v) (bI_fit v) (Nat.le_of_ble_eq_true rfl) hdg
    (fun H1 locs1 h1 h2 h3 => kk H1 locs1 ((xw_mi (cR := cR) (hx := hx) (hr := hr) (ho := ho) (i := i) v) ▸ h1) ((xw_mi (cR := cR) (hx := hx) (hr := hr) (ho := ho) (i := i) v) ▸ h2) h3)
theorem g_co (hexec : p.tables.exec = Jvm.exec) (hb : c.code = cc) (hts : ∀ w ∈ Ts, w.before args s = true) (hin : ∀ w ∈ wsX00, w ∈ Ts) (hown : s.vm.findClass own = some m.cls) (hK : va_K D vwCl tys s) (hP : va_P D vwCl (xw cR hx hr ho ad rd tr sd rn om oh ol op oe ow ok os so mi co ex) H) (hi : i < 9) (hlink : (Cond.fieldLink own index RX0 "coefficient" "J").before args s = true) (hdg : decode cc pc = .ok (.getfield index, 3))
    (kk : W p l e R s m args below meth c H locs cells slots Q (F0 m (pc + 3) ls (.long (co i) :: rest))) : W p l e R s m args below meth c H locs cells slots Q (F0 m pc ls (.ref (ad i) :: rest)) :=
  va_get (D := D) (ci := 2) (v := .long (co i)) (C := RX0) (T := TX0) (N := 4) hexec hb hts hin hown hK hP (3 + i) (xw_dat hi) rfl 2 (by decide) hlink (fun _ h9 => h9) rfl hdg kk
theorem p_co (hexec : p.tables.exec = Jvm.exec) (hb : c.code = cc) (hts : ∀ w ∈ Ts, w.before args s = true) (hin : ∀ w ∈ wsX00, w ∈ Ts) (hown : s.vm.findClass own = some m.cls) (hK : va_K D vwCl tys s) (hP : va_P D vwCl (xw cR hx hr ho ad rd tr sd rn om oh ol op oe ow ok os so mi co ex) H) (hD : va_D A (xw cR hx hr ho ad rd tr sd rn om oh ol op oe ow ok os so mi co ex)) (hS : va_S A H0 H locs) (hi : i < 9) (hlink : (Cond.fieldLink own index RX0 "coefficient" "J").before args s = true) (v : Int64) (hdg : decode cc pc = .ok (.putfield index, 3))
    (kk : ∀ (H1 : Heap) (locs1 : List Loc), va_P D vwCl (xw cR hx hr ho ad rd tr sd rn om oh ol op oe ow ok os so mi (va_up co i v) ex) H1 → va_D A (xw cR hx hr ho ad rd tr sd rn om oh ol op oe ow ok os so mi (va_up co i v) ex) → va_S A H0 H1 locs1 → W p l e R s m args below meth c H1 locs1 cells slots Q (F0 m (pc + 3) ls rest)) : W p l e R s m args below meth c H locs cells slots Q (F0 m pc ls (.long v :: .ref (ad i) :: rest)) :=
  va_put (D := D) (ci := 2) (v := .long v) (ty := .long) (C := RX0) (T := TX0) (N := 4) hexec hb hts hin tyX0 tyX0_ok nmX0 hown hK hP hD hS (3 + i) (xw_dat hi) rfl 2 (by decide) hlink (fun _ h9 => h9) rfl (by decide +kernel) rfl rfl (Nat.le_of_ble_eq_true rfl) hdg
    (fun H1 locs1 h1 h2 h3 => kk H1 locs1 ((xw_co (cR := cR) (hx := hx) (hr := hr) (ho := ho) (i := i) v) ▸ h1) ((xw_co (cR := cR) (hx := hx) (hr := hr) (ho := ho) (i := i) v) ▸ h2) h3)
theorem g_ex (hexec : p.tables.exec = Jvm.exec) (hb : c.code = cc) (hts : ∀ w ∈ Ts, w.before args s = true) (hin : ∀ w ∈ wsX00, w ∈ Ts) (hown : s.vm.findClass own = some m.cls) (hK : va_K D vwCl tys s) (hP : va_P D vwCl (xw cR hx hr ho ad rd tr sd rn om oh ol op oe ow ok os so mi co ex) H) (hi : i < 9) (hlink : (Cond.fieldLink own index RX0 "exponent" "I").before args s = true) (hdg : decode cc pc = .ok (.getfield index, 3))
    (kk : W p l e R s m args below meth c H locs cells slots Q (F0 m (pc + 3) ls (.int (ex i) :: rest))) : W p l e R s m args below meth c H locs cells slots Q (F0 m pc ls (.ref (ad i) :: rest)) :=
  va_get (D := D) (ci := 2) (v := .int (ex i)) (C := RX0) (T := TX0) (N := 4) hexec hb hts hin hown hK hP (3 + i) (xw_dat hi) rfl 3 (by decide) hlink (fun _ h9 => h9) rfl hdg kk
theorem p_ex (hexec : p.tables.exec = Jvm.exec) (hb : c.code = cc) (hts : ∀ w ∈ Ts, w.before args s = true) (hin : ∀ w ∈ wsX00, w ∈ Ts) (hown : s.vm.findClass own = some m.cls) (hK : va_K D vwCl tys s) (hP : va_P D vwCl (xw cR hx hr ho ad rd tr sd rn om oh ol op oe ow ok os so mi co ex) H) (hD : va_D A (xw cR hx hr ho ad rd tr sd rn om oh ol op oe ow ok os so mi co ex)) (hS : va_S A H0 H locs) (hi : i < 9) (hlink : (Cond.fieldLink own index RX0 "exponent" "I").before args s = true) (v : Int32) (hdg : decode cc pc = .ok (.putfield index, 3))
    (kk : ∀ (H1 : Heap) (locs1 : List Loc), va_P D vwCl (xw cR hx hr ho ad rd tr sd rn om oh ol op oe ow ok os so mi co (va_up ex i v)) H1 → va_D A (xw cR hx hr ho ad rd tr sd rn om oh ol op oe ow ok os so mi co (va_up ex i v)) → va_S A H0 H1 locs1 → W p l e R s m args below meth c H1 locs1 cells slots Q (F0 m (pc + 3) ls rest)) : W p l e R s m args below meth c H locs cells slots Q (F0 m pc ls (.int v :: .ref (ad i) :: rest)) :=
  va_put (D := D) (ci := 2) (v := .int v) (ty := .int) (C := RX0) (T := TX0) (N := 4) hexec hb hts hin tyX0 tyX0_ok nmX0 hown hK hP hD hS (3 + i) (xw_dat hi) rfl 3 (by decide) hlink (fun _ h9 => h9) rfl (by decide +kernel) rfl rfl (Nat.le_of_ble_eq_true rfl) hdg
    (fun H1 locs1 h1 h2 h3 => kk H1 locs1 ((xw_ex (cR := cR) (hx := hx) (hr := hr) (ho := ho) (i := i) v) ▸ h1) ((xw_ex (cR := cR) (hx := hx) (hr := hr) (ho := ho) (i := i) v) ▸ h2) h3)
end XWR
/-! rows of arithmetic, with names for what they answer -/
def jmax (x y : Int32) : Int32 := if x < y then y else x
def jmin (x y : Int32) : Int32 := if y < x then y else x
def jmaxL (x y : Int64) : Int64 := if y < x then x else y
def jrem (x y : Int32) : Int32 := x - x / y * y
def jremL (x y : Int64) : Int64 := x - x / y * y
def jshl (x y : Int32) : Int32 := x <<< (y &&& 31)
def jshr (x y : Int32) : Int32 := x >>> (y &&& 31)
def jshlL (x : Int64) (y : Int32) : Int64 := x <<< (y.toInt64 &&& 63)
def jshrL (x : Int64) (y : Int32) : Int64 := x >>> (y.toInt64 &&& 63)
def jushrL (x : Int64) (y : Int32) : Int64 := (x.toUInt64 >>> (y.toInt64.toUInt64 &&& Int64.toUInt64 63)).toInt64
section XOP
variable {p : Program} {l : Launch} {e : Env} {R : Room} {s : State} {m : MethodId} {args : Array Value} {below : List Frame} {meth : Method} {c : Code} {H : Heap} {locs : List Loc} {cells slots : Nat} {Q : State → Prop}
variable {pc : Nat} {ls : Array Slot} {rest : List Value} {cc : ByteArray}
theorem x_irem (hexec : p.tables.exec = Jvm.exec) (hb : c.code = cc) {x : Int32} {y : Int32} (hdg : decode cc pc = .ok (.irem, 1)) (hne : ¬ y = 0)
    (k : W p l e R s m args below meth c H locs cells slots Q (F0 m (pc + 1) ls (.int (jrem x y) :: rest))) : W p l e R s m args below meth c H locs cells slots Q (F0 m pc ls (.int y :: .int x :: rest)) := lv_irem hexec hb hdg hne k
theorem x_lrem (hexec : p.tables.exec = Jvm.exec) (hb : c.code = cc) {x : Int64} {y : Int64} (hdg : decode cc pc = .ok (.lrem, 1)) (hne : ¬ y = 0)
    (k : W p l e R s m args below meth c H locs cells slots Q (F0 m (pc + 1) ls (.long (jremL x y) :: rest))) : W p l e R s m args below meth c H locs cells slots Q (F0 m pc ls (.long y :: .long x :: rest)) := lv_lrem hexec hb hdg hne k
theorem x_ishl (hexec : p.tables.exec = Jvm.exec) (hb : c.code = cc) {x : Int32} {y : Int32} (hdg : decode cc pc = .ok (.ishl, 1))
    (k : W p l e R s m args below meth c H locs cells slots Q (F0 m (pc + 1) ls (.int (jshl x y) :: rest))) : W p l e R s m args below meth c H locs cells slots Q (F0 m pc ls (.int y :: .int x :: rest)) := lv_ishl hexec hb hdg k
theorem x_ishr (hexec : p.tables.exec = Jvm.exec) (hb : c.code = cc) {x : Int32} {y : Int32} (hdg : decode cc pc = .ok (.ishr, 1))
    (k : W p l e R s m args below meth c H locs cells slots Q (F0 m (pc + 1) ls (.int (jshr x y) :: rest))) : W p l e R s m args below meth c H locs cells slots Q (F0 m pc ls (.int y :: .int x :: rest)) := lv_ishr hexec hb hdg k
theorem x_lshl (hexec : p.tables.exec = Jvm.exec) (hb : c.code = cc) {x : Int64} {y : Int32} (hdg : decode cc pc = .ok (.lshl, 1))
    (k : W p l e R s m args below meth c H locs cells slots Q (F0 m (pc + 1) ls (.long (jshlL x y) :: rest))) : W p l e R s m args below meth c H locs cells slots Q (F0 m pc ls (.int y :: .long x :: rest)) := lv_lshl hexec hb hdg rfl k
theorem x_lshr (hexec : p.tables.exec = Jvm.exec) (hb : c.code = cc) {x : Int64} {y : Int32} (hdg : decode cc pc = .ok (.lshr, 1))
    (k : W p l e R s m args below meth c H locs cells slots Q (F0 m (pc + 1) ls (.long (jshrL x y) :: rest))) : W p l e R s m args below meth c H locs cells slots Q (F0 m pc ls (.int y :: .long x :: rest)) := lv_lshr hexec hb hdg rfl k
theorem x_lushr (hexec : p.tables.exec = Jvm.exec) (hb : c.code = cc) {x : Int64} {y : Int32} (hdg : decode cc pc = .ok (.lushr, 1))
    (k : W p l e R s m args below meth c H locs cells slots Q (F0 m (pc + 1) ls (.long (jushrL x y) :: rest))) : W p l e R s m args below meth c H locs cells slots Q (F0 m pc ls (.int y :: .long x :: rest)) := lv_lushr hexec hb hdg rfl k
theorem x_i2l (hexec : p.tables.exec = Jvm.exec) (hb : c.code = cc) {x : Int32} (hdg : decode cc pc = .ok (.i2l, 1)) (k : W p l e R s m args below meth c H locs cells slots Q (F0 m (pc + 1) ls (.long x.toInt64 :: rest))) : W p l e R s m args below meth c H locs cells slots Q (F0 m pc ls (.int x :: rest)) := lv_i2l hexec hb hdg rfl k
theorem x_l2i (hexec : p.tables.exec = Jvm.exec) (hb : c.code = cc) {x : Int64} (hdg : decode cc pc = .ok (.l2i, 1)) (k : W p l e R s m args below meth c H locs cells slots Q (F0 m (pc + 1) ls (.int x.toInt32 :: rest))) : W p l e R s m args below meth c H locs cells slots Q (F0 m pc ls (.long x :: rest)) := lv_l2i hexec hb hdg rfl k
theorem x_max {Ts : List Cond} {nL : Nat} (hexec : p.tables.exec = Jvm.exec) (hb : c.code = cc) (hml : c.maxLocals = nL) (hsz : ls.size = nL) (hts : ∀ w ∈ Ts, w.before args s = true) {own : String} {index : Nat} (hown : s.vm.findClass own = some m.cls) (hlink : Cond.methodLink own index Lib.Math.max.name ∈ Ts) (hstat : Cond.static Lib.Math.max.name ∈ Ts) (hini : Cond.initialized "java/lang/Math" ∈ Ts) (hcode : Cond.code Lib.Math.max.name Lib.Math.max.code 2 (some .int) ∈ Ts)
    (hframes : 1 ≤ R.frames) (hlocals : (rest.map fun v => v.category).sum + 13 ≤ R.locals) (hc : cells ≤ R.cells) (hs : slots ≤ R.slots) {x y : Int32} (hdg : decode cc pc = .ok (.invokestatic index, 3))
    (k : W p l e R s m args below meth c H locs cells slots Q (F0 m (pc + 3) ls (.int (jmax x y) :: rest))) : W p l e R s m args below meth c H locs cells slots Q (F0 m pc ls (.int y :: .int x :: rest)) :=
  va_mmax hexec hb (hml.trans hsz.symm) hown (hts _ hlink) (hts _ hstat) (hts _ hini) (hts _ hcode) hframes hlocals hc hs hdg k
theorem x_min {Ts : List Cond} {nL : Nat} (hexec : p.tables.exec = Jvm.exec) (hb : c.code = cc) (hml : c.maxLocals = nL) (hsz : ls.size = nL) (hts : ∀ w ∈ Ts, w.before args s = true) {own : String} {index : Nat} (hown : s.vm.findClass own = some m.cls) (hlink : Cond.methodLink own index Lib.Math.min.name ∈ Ts) (hstat : Cond.static Lib.Math.min.name ∈ Ts) (hini : Cond.initialized "java/lang/Math" ∈ Ts) (hcode : Cond.code Lib.Math.min.name Lib.Math.min.code 2 (some .int) ∈ Ts)
    (hframes : 1 ≤ R.frames) (hlocals : (rest.map fun v => v.category).sum + 13 ≤ R.locals) (hc : cells ≤ R.cells) (hs : slots ≤ R.slots) {x y : Int32} (hdg : decode cc pc = .ok (.invokestatic index, 3))
    (k : W p l e R s m args below meth c H locs cells slots Q (F0 m (pc + 3) ls (.int (jmin x y) :: rest))) : W p l e R s m args below meth c H locs cells slots Q (F0 m pc ls (.int y :: .int x :: rest)) :=
  va_mmin hexec hb (hml.trans hsz.symm) hown (hts _ hlink) (hts _ hstat) (hts _ hini) (hts _ hcode) hframes hlocals hc hs hdg k
theorem x_maxL {Ts : List Cond} {nL : Nat} (hexec : p.tables.exec = Jvm.exec) (hb : c.code = cc) (hml : c.maxLocals = nL) (hsz : ls.size = nL) (hts : ∀ w ∈ Ts, w.before args s = true) {own : String} {index : Nat} (hown : s.vm.findClass own = some m.cls) (hlink : Cond.methodLink own index Lib.MathLoose.max_long.x ∈ Ts) (hstat : Cond.static Lib.MathLoose.max_long.x ∈ Ts) (hini : Cond.initialized "java/lang/Math" ∈ Ts) (hcode : Cond.code Lib.MathLoose.max_long.x Lib.MathLoose.max_long.code 4 (some .long) ∈ Ts)
    (hframes : 1 ≤ R.frames) (hlocals : (rest.map fun v => v.category).sum + 15 ≤ R.locals) (hc : cells ≤ R.cells) (hs : slots ≤ R.slots) {x y : Int64} (hdg : decode cc pc = .ok (.invokestatic index, 3))
    (k : W p l e R s m args below meth c H locs cells slots Q (F0 m (pc + 3) ls (.long (jmaxL x y) :: rest))) : W p l e R s m args below meth c H locs cells slots Q (F0 m pc ls (.long y :: .long x :: rest)) :=
  va_mmax_long hexec hb (hml.trans hsz.symm) hown (hts _ hlink) (hts _ hstat) (hts _ hini) (hts _ hcode) hframes hlocals hc hs hdg k
end XOP
section XAA
variable {p : Program} {l : Launch} {e : Env} {R : Room} {s : State} {m : MethodId} {args : Array Value} {below : List Frame} {meth : Method} {c : Code} {H : Heap} {locs : List Loc} {cells slots : Nat} {Q : State → Prop}
variable {pc : Nat} {ls : Array Slot} {rest : List Value} {cc : ByteArray} {A : Nat → Prop} {D : va_G} {cI cJ cZ cR : ClassId} {H0 : Heap}
theorem vp_lt9 {i : Int32} (h : vp_in i 8) : i.toNatClampNeg < 9 := Nat.lt_succ_of_lt (Nat.not_le.mp fun q => h (Or.inr q))
theorem x_topb {x : Bool} (k : ∀ y : Bool, y = x → W p l e R s m args below meth c H locs cells slots Q (F0 m pc ls (.int (bI y) :: rest))) : W p l e R s m args below meth c H locs cells slots Q (F0 m pc ls (.int (bI x) :: rest)) := k x rfl
theorem x_aald {hx hr ho : Nat} {ad : Nat → Nat} {rd tr sd rn : Int32} {om : Bool} {oh ol : Int64} {op : Int32} {oe : Bool} {ow : Int32} {ok : Int64} {os : Int32} {so : Nat → Int32} {mi : Nat → Bool} {co : Nat → Int64} {ex : Nat → Int32} (hexec : p.tables.exec = Jvm.exec) (hb : c.code = cc) (hK : va_K D vwCl (xty cR cI cJ cZ) s) (hP : va_P D vwCl (xw cR hx hr ho ad rd tr sd rn om oh ol op oe ow ok os so mi co ex) H) {i : Int32} (hin : vp_in i 8) (hdg : decode cc pc = .ok (.aaload, 1))
    (kk : W p l e R s m args below meth c H locs cells slots Q (F0 m (pc + 1) ls (.ref (ad i.toNatClampNeg) :: rest))) : W p l e R s m args below meth c H locs cells slots Q (F0 m pc ls (.int i :: .ref hr :: rest)) :=
  va_aldq hexec hb hK hP 1 0 rfl rfl hin hdg kk
end XAA
/-! a row's end by its cells' update -/
theorem va_up_upd (f : Nat → Int32) (k : Nat) (x : Int32) : upd f k x = va_up f k x := rfl
theorem va_up_b (g : Nat → Bool) (k : Nat) (b : Bool) : upd (fun j => bI (g j)) k (vp_nar .boolean (bI b)) = fun j => bI (va_up g k b j) := by
  funext j
  simp only [upd, va_up, bI_vp]
  split <;> rfl
section XZA
variable {p : Program} {l : Launch} {e : Env} {R : Room} {s : State} {m : MethodId} {args : Array Value} {below : List Frame} {meth : Method} {c : Code} {H : Heap} {locs : List Loc} {cells slots : Nat} {Q : State → Prop}
variable {pc : Nat} {ls : Array Slot} {rest : List Value} {cc : ByteArray} {A : Nat → Prop} {D : va_G} {cl : List vw_C} {tys : List (ClassId × FieldType)} {a : Nat} {ws : va_W} {H0 : Heap}
theorem x_zast {b : Bool} (hexec : p.tables.exec = Jvm.exec) (hb : c.code = cc) (hK : va_K D cl tys s) (hP : va_P D cl ws H) (hD : va_D A ws) (hS : va_S A H0 H locs) (q0 t0 : Nat) {cA : ClassId} {n : Nat} {g : Nat → Bool} (ha : ws[q0]? = some (a, .inl (cA, n, .inl (fun k => bI (g k))))) (ht : tys[t0]? = some (cA, .boolean)) {i : Int32} (hin : vp_in i n) (hdg : decode cc pc = .ok (.bastore, 1))
    (kk : ∀ (H1 : Heap) (locs1 : List Loc), va_P D cl (ws.set q0 (a, .inl (cA, n, .inl (fun k => bI (va_up g i.toNatClampNeg b k))))) H1 → va_D A (ws.set q0 (a, .inl (cA, n, .inl (fun k => bI (va_up g i.toNatClampNeg b k))))) → va_S A H0 H1 locs1 → W p l e R s m args below meth c H1 locs1 cells slots Q (F0 m (pc + 1) ls rest)) : W p l e R s m args below meth c H locs cells slots Q (F0 m pc ls (.int (bI b) :: .int i :: .ref a :: rest)) := by
  have e1 := va_up_b g i.toNatClampNeg b
  refine va_zast hexec hb hK hP hD hS q0 t0 ha ht hin hdg (fun H1 l1 h1 h2 h3 => ?_)
  rw [e1] at h1 h2
  exact kk H1 l1 h1 h2 h3
end XZA
/-! loops -/
def itn {T : Type} (B : T → T) : Nat → T → T
  | 0, t => t
  | n + 1, t => itn B n (B t)
theorem itn_s {T : Type} (B : T → T) (n : Nat) (t : T) : itn B (n + 1) t = B (itn B n t) := by
  induction n generalizing t with
  | zero => rfl
  | succ n ih => exact ih (B t)
end
