section
-- ===== PART A: goes FIRST, ahead of the names: the tables' words, and 'selects' of the private methods out of them =====
/-- a private method of a class that the tables say can be made, by its rows of tables_1 -/
def lw_okq (q : MethodName × Nat) : Prop := (q.1.cls ≠ "java/lang/invoke/MethodHandle" ∧ q.1.cls ≠ "java/lang/invoke/VarHandle") ∧ Cond.instantiable q.1.cls q.2 ∈ tables_1 ∧ Cond.privateMethod q.1 ∈ tables_1 ∧ Cond.instanceMethod q.1 ∈ tables_1
theorem lw_p0 : lw_okq (⟨"java/lang/Throwable", "fillInStackTrace", "(I)Ljava/lang/Throwable;"⟩, 6) := ⟨⟨by decide +kernel, by decide +kernel⟩, List.mem_of_getElem? (i := 158) (by decide +kernel), List.mem_of_getElem? (i := 156) (by decide +kernel), List.mem_of_getElem? (i := 157) (by decide +kernel)⟩
theorem lw_p1 : lw_okq (⟨"DecimalWords", "operate", "(IIII)Z"⟩, 7) := ⟨⟨by decide +kernel, by decide +kernel⟩, List.mem_of_getElem? (i := 16) (by decide +kernel), List.mem_of_getElem? (i := 269) (by decide +kernel), List.mem_of_getElem? (i := 270) (by decide +kernel)⟩
theorem lw_p2 : lw_okq (⟨"DecimalWords", "setResult", "(ILDecimalWords$Datum;LDecimalWords$Datum;)V"⟩, 7) := ⟨⟨by decide +kernel, by decide +kernel⟩, List.mem_of_getElem? (i := 16) (by decide +kernel), List.mem_of_getElem? (i := 273) (by decide +kernel), List.mem_of_getElem? (i := 274) (by decide +kernel)⟩
theorem lw_p3 : lw_okq (⟨"DecimalWords", "setNext", "(LDecimalWords$Datum;)V"⟩, 7) := ⟨⟨by decide +kernel, by decide +kernel⟩, List.mem_of_getElem? (i := 16) (by decide +kernel), List.mem_of_getElem? (i := 277) (by decide +kernel), List.mem_of_getElem? (i := 278) (by decide +kernel)⟩
theorem lw_p4 : lw_okq (⟨"DecimalWords", "stepToZero", "(JI)V"⟩, 7) := ⟨⟨by decide +kernel, by decide +kernel⟩, List.mem_of_getElem? (i := 16) (by decide +kernel), List.mem_of_getElem? (i := 304) (by decide +kernel), List.mem_of_getElem? (i := 305) (by decide +kernel)⟩
theorem lw_p5 : lw_okq (⟨"DecimalWords", "stepFromZero", "(JI)V"⟩, 7) := ⟨⟨by decide +kernel, by decide +kernel⟩, List.mem_of_getElem? (i := 16) (by decide +kernel), List.mem_of_getElem? (i := 309) (by decide +kernel), List.mem_of_getElem? (i := 310) (by decide +kernel)⟩
theorem lw_p6 : lw_okq (⟨"DecimalWords", "setFromInfinity", "(ILDecimalWords$Datum;LDecimalWords$Datum;)V"⟩, 7) := ⟨⟨by decide +kernel, by decide +kernel⟩, List.mem_of_getElem? (i := 16) (by decide +kernel), List.mem_of_getElem? (i := 335) (by decide +kernel), List.mem_of_getElem? (i := 336) (by decide +kernel)⟩
theorem lw_p7 : lw_okq (⟨"DecimalWords", "addInfinity", "(LDecimalWords$Datum;LDecimalWords$Datum;Z)V"⟩, 7) := ⟨⟨by decide +kernel, by decide +kernel⟩, List.mem_of_getElem? (i := 16) (by decide +kernel), List.mem_of_getElem? (i := 339) (by decide +kernel), List.mem_of_getElem? (i := 340) (by decide +kernel)⟩
theorem lw_p8 : lw_okq (⟨"DecimalWords", "setInvalid", "()V"⟩, 7) := ⟨⟨by decide +kernel, by decide +kernel⟩, List.mem_of_getElem? (i := 16) (by decide +kernel), List.mem_of_getElem? (i := 343) (by decide +kernel), List.mem_of_getElem? (i := 344) (by decide +kernel)⟩
theorem lw_p9 : lw_okq (⟨"DecimalWords", "raise", "(I)V"⟩, 7) := ⟨⟨by decide +kernel, by decide +kernel⟩, List.mem_of_getElem? (i := 16) (by decide +kernel), List.mem_of_getElem? (i := 347) (by decide +kernel), List.mem_of_getElem? (i := 348) (by decide +kernel)⟩
theorem lw_p10 : lw_okq (⟨"DecimalWords", "setFromFinite", "(ILDecimalWords$Datum;LDecimalWords$Datum;)V"⟩, 7) := ⟨⟨by decide +kernel, by decide +kernel⟩, List.mem_of_getElem? (i := 16) (by decide +kernel), List.mem_of_getElem? (i := 351) (by decide +kernel), List.mem_of_getElem? (i := 352) (by decide +kernel)⟩
theorem lw_p11 : lw_okq (⟨"DecimalWords$Outcome", "join", "(LDecimalWords$Datum;LDecimalWords$Datum;Z)V"⟩, 8) := ⟨⟨by decide +kernel, by decide +kernel⟩, List.mem_of_getElem? (i := 55) (by decide +kernel), List.mem_of_getElem? (i := 364) (by decide +kernel), List.mem_of_getElem? (i := 365) (by decide +kernel)⟩
theorem lw_p12 : lw_okq (⟨"DecimalWords$Outcome", "addToLow", "(J)V"⟩, 8) := ⟨⟨by decide +kernel, by decide +kernel⟩, List.mem_of_getElem? (i := 55) (by decide +kernel), List.mem_of_getElem? (i := 371) (by decide +kernel), List.mem_of_getElem? (i := 372) (by decide +kernel)⟩
theorem lw_p13 : lw_okq (⟨"DecimalWords", "fit", "()V"⟩, 7) := ⟨⟨by decide +kernel, by decide +kernel⟩, List.mem_of_getElem? (i := 16) (by decide +kernel), List.mem_of_getElem? (i := 380) (by decide +kernel), List.mem_of_getElem? (i := 381) (by decide +kernel)⟩
theorem lw_p14 : lw_okq (⟨"DecimalWords", "fitWithoutRest", "()Z"⟩, 7) := ⟨⟨by decide +kernel, by decide +kernel⟩, List.mem_of_getElem? (i := 16) (by decide +kernel), List.mem_of_getElem? (i := 385) (by decide +kernel), List.mem_of_getElem? (i := 386) (by decide +kernel)⟩
theorem lw_p15 : lw_okq (⟨"DecimalWords", "fitRounded", "()V"⟩, 7) := ⟨⟨by decide +kernel, by decide +kernel⟩, List.mem_of_getElem? (i := 16) (by decide +kernel), List.mem_of_getElem? (i := 395) (by decide +kernel), List.mem_of_getElem? (i := 396) (by decide +kernel)⟩
def lw_privs_1 : List (MethodName × Nat) := [(⟨"java/lang/Throwable", "fillInStackTrace", "(I)Ljava/lang/Throwable;"⟩, 6), (⟨"DecimalWords", "operate", "(IIII)Z"⟩, 7), (⟨"DecimalWords", "setResult", "(ILDecimalWords$Datum;LDecimalWords$Datum;)V"⟩, 7), (⟨"DecimalWords", "setNext", "(LDecimalWords$Datum;)V"⟩, 7), (⟨"DecimalWords", "stepToZero", "(JI)V"⟩, 7), (⟨"DecimalWords", "stepFromZero", "(JI)V"⟩, 7), (⟨"DecimalWords", "setFromInfinity", "(ILDecimalWords$Datum;LDecimalWords$Datum;)V"⟩, 7), (⟨"DecimalWords", "addInfinity", "(LDecimalWords$Datum;LDecimalWords$Datum;Z)V"⟩, 7), (⟨"DecimalWords", "setInvalid", "()V"⟩, 7), (⟨"DecimalWords", "raise", "(I)V"⟩, 7), (⟨"DecimalWords", "setFromFinite", "(ILDecimalWords$Datum;LDecimalWords$Datum;)V"⟩, 7), (⟨"DecimalWords$Outcome", "join", "(LDecimalWords$Datum;LDecimalWords$Datum;Z)V"⟩, 8), (⟨"DecimalWords$Outcome", "addToLow", "(J)V"⟩, 8), (⟨"DecimalWords", "fit", "()V"⟩, 7), (⟨"DecimalWords", "fitWithoutRest", "()Z"⟩, 7), (⟨"DecimalWords", "fitRounded", "()V"⟩, 7)]
theorem lw_r1 : ∀ q ∈ lw_privs_1, lw_okq q := List.forall_mem_cons.mpr ⟨lw_p0, List.forall_mem_cons.mpr ⟨lw_p1, List.forall_mem_cons.mpr ⟨lw_p2, List.forall_mem_cons.mpr ⟨lw_p3, List.forall_mem_cons.mpr ⟨lw_p4, List.forall_mem_cons.mpr ⟨lw_p5, List.forall_mem_cons.mpr ⟨lw_p6, List.forall_mem_cons.mpr ⟨lw_p7, List.forall_mem_cons.mpr ⟨lw_p8, List.forall_mem_cons.mpr ⟨lw_p9, List.forall_mem_cons.mpr ⟨lw_p10, List.forall_mem_cons.mpr ⟨lw_p11, List.forall_mem_cons.mpr ⟨lw_p12, List.forall_mem_cons.mpr ⟨lw_p13, List.forall_mem_cons.mpr ⟨lw_p14, List.forall_mem_cons.mpr ⟨lw_p15, fun _ h => absurd h List.not_mem_nil⟩⟩⟩⟩⟩⟩⟩⟩⟩⟩⟩⟩⟩⟩⟩⟩
theorem lw_p16 : lw_okq (⟨"DecimalWords", "setTooGreat", "()V"⟩, 7) := ⟨⟨by decide +kernel, by decide +kernel⟩, List.mem_of_getElem? (i := 16) (by decide +kernel), List.mem_of_getElem? (i := 403) (by decide +kernel), List.mem_of_getElem? (i := 404) (by decide +kernel)⟩
theorem lw_p17 : lw_okq (⟨"DecimalWords", "roundedKept", "(Z)J"⟩, 7) := ⟨⟨by decide +kernel, by decide +kernel⟩, List.mem_of_getElem? (i := 16) (by decide +kernel), List.mem_of_getElem? (i := 415) (by decide +kernel), List.mem_of_getElem? (i := 416) (by decide +kernel)⟩
theorem lw_p18 : lw_okq (⟨"DecimalWords", "divide", "(LDecimalWords$Datum;LDecimalWords$Datum;)V"⟩, 7) := ⟨⟨by decide +kernel, by decide +kernel⟩, List.mem_of_getElem? (i := 16) (by decide +kernel), List.mem_of_getElem? (i := 425) (by decide +kernel), List.mem_of_getElem? (i := 426) (by decide +kernel)⟩
theorem lw_p19 : lw_okq (⟨"DecimalWords", "quantize", "(LDecimalWords$Datum;I)V"⟩, 7) := ⟨⟨by decide +kernel, by decide +kernel⟩, List.mem_of_getElem? (i := 16) (by decide +kernel), List.mem_of_getElem? (i := 436) (by decide +kernel), List.mem_of_getElem? (i := 437) (by decide +kernel)⟩
theorem lw_p20 : lw_okq (⟨"DecimalWordsModel", "noRegister", "(I)Z"⟩, 18) := ⟨⟨by decide +kernel, by decide +kernel⟩, List.mem_of_getElem? (i := 565) (by decide +kernel), List.mem_of_getElem? (i := 637) (by decide +kernel), List.mem_of_getElem? (i := 638) (by decide +kernel)⟩
theorem lw_p21 : lw_okq (⟨"DecimalWordsModel", "operate", "(III)V"⟩, 18) := ⟨⟨by decide +kernel, by decide +kernel⟩, List.mem_of_getElem? (i := 565) (by decide +kernel), List.mem_of_getElem? (i := 641) (by decide +kernel), List.mem_of_getElem? (i := 642) (by decide +kernel)⟩
theorem lw_p22 : lw_okq (⟨"DecimalWordsModel", "is", "(II)Z"⟩, 18) := ⟨⟨by decide +kernel, by decide +kernel⟩, List.mem_of_getElem? (i := 565) (by decide +kernel), List.mem_of_getElem? (i := 645) (by decide +kernel), List.mem_of_getElem? (i := 646) (by decide +kernel)⟩
theorem lw_p23 : lw_okq (⟨"DecimalWordsModel", "be", "(IZJI)V"⟩, 18) := ⟨⟨by decide +kernel, by decide +kernel⟩, List.mem_of_getElem? (i := 565) (by decide +kernel), List.mem_of_getElem? (i := 649) (by decide +kernel), List.mem_of_getElem? (i := 650) (by decide +kernel)⟩
theorem lw_p24 : lw_okq (⟨"DecimalWordsModel", "add", "(IIZ)V"⟩, 18) := ⟨⟨by decide +kernel, by decide +kernel⟩, List.mem_of_getElem? (i := 565) (by decide +kernel), List.mem_of_getElem? (i := 653) (by decide +kernel), List.mem_of_getElem? (i := 654) (by decide +kernel)⟩
theorem lw_p25 : lw_okq (⟨"DecimalWordsModel", "invalid", "()V"⟩, 18) := ⟨⟨by decide +kernel, by decide +kernel⟩, List.mem_of_getElem? (i := 565) (by decide +kernel), List.mem_of_getElem? (i := 657) (by decide +kernel), List.mem_of_getElem? (i := 658) (by decide +kernel)⟩
theorem lw_p26 : lw_okq (⟨"DecimalWordsModel", "lay", "(JI)V"⟩, 18) := ⟨⟨by decide +kernel, by decide +kernel⟩, List.mem_of_getElem? (i := 565) (by decide +kernel), List.mem_of_getElem? (i := 661) (by decide +kernel), List.mem_of_getElem? (i := 662) (by decide +kernel)⟩
theorem lw_p27 : lw_okq (⟨"DecimalWordsModel", "clear", "()V"⟩, 18) := ⟨⟨by decide +kernel, by decide +kernel⟩, List.mem_of_getElem? (i := 565) (by decide +kernel), List.mem_of_getElem? (i := 665) (by decide +kernel), List.mem_of_getElem? (i := 666) (by decide +kernel)⟩
theorem lw_p28 : lw_okq (⟨"DecimalWordsModel", "layOther", "(JI)V"⟩, 18) := ⟨⟨by decide +kernel, by decide +kernel⟩, List.mem_of_getElem? (i := 565) (by decide +kernel), List.mem_of_getElem? (i := 670) (by decide +kernel), List.mem_of_getElem? (i := 671) (by decide +kernel)⟩
theorem lw_p29 : lw_okq (⟨"DecimalWordsModel", "addDigits", "()V"⟩, 18) := ⟨⟨by decide +kernel, by decide +kernel⟩, List.mem_of_getElem? (i := 565) (by decide +kernel), List.mem_of_getElem? (i := 674) (by decide +kernel), List.mem_of_getElem? (i := 675) (by decide +kernel)⟩
theorem lw_p30 : lw_okq (⟨"DecimalWordsModel", "subtractDigits", "()Z"⟩, 18) := ⟨⟨by decide +kernel, by decide +kernel⟩, List.mem_of_getElem? (i := 565) (by decide +kernel), List.mem_of_getElem? (i := 678) (by decide +kernel), List.mem_of_getElem? (i := 679) (by decide +kernel)⟩
theorem lw_p31 : lw_okq (⟨"DecimalWordsModel", "less", "()Z"⟩, 18) := ⟨⟨by decide +kernel, by decide +kernel⟩, List.mem_of_getElem? (i := 565) (by decide +kernel), List.mem_of_getElem? (i := 682) (by decide +kernel), List.mem_of_getElem? (i := 683) (by decide +kernel)⟩
def lw_privs_2 : List (MethodName × Nat) := [(⟨"DecimalWords", "setTooGreat", "()V"⟩, 7), (⟨"DecimalWords", "roundedKept", "(Z)J"⟩, 7), (⟨"DecimalWords", "divide", "(LDecimalWords$Datum;LDecimalWords$Datum;)V"⟩, 7), (⟨"DecimalWords", "quantize", "(LDecimalWords$Datum;I)V"⟩, 7), (⟨"DecimalWordsModel", "noRegister", "(I)Z"⟩, 18), (⟨"DecimalWordsModel", "operate", "(III)V"⟩, 18), (⟨"DecimalWordsModel", "is", "(II)Z"⟩, 18), (⟨"DecimalWordsModel", "be", "(IZJI)V"⟩, 18), (⟨"DecimalWordsModel", "add", "(IIZ)V"⟩, 18), (⟨"DecimalWordsModel", "invalid", "()V"⟩, 18), (⟨"DecimalWordsModel", "lay", "(JI)V"⟩, 18), (⟨"DecimalWordsModel", "clear", "()V"⟩, 18), (⟨"DecimalWordsModel", "layOther", "(JI)V"⟩, 18), (⟨"DecimalWordsModel", "addDigits", "()V"⟩, 18), (⟨"DecimalWordsModel", "subtractDigits", "()Z"⟩, 18), (⟨"DecimalWordsModel", "less", "()Z"⟩, 18)]
theorem lw_r2 : ∀ q ∈ lw_privs_2, lw_okq q := List.forall_mem_cons.mpr ⟨lw_p16, List.forall_mem_cons.mpr ⟨lw_p17, List.forall_mem_cons.mpr ⟨lw_p18, List.forall_mem_cons.mpr ⟨lw_p19, List.forall_mem_cons.mpr ⟨lw_p20, List.forall_mem_cons.mpr ⟨lw_p21, List.forall_mem_cons.mpr ⟨lw_p22, List.forall_mem_cons.mpr ⟨lw_p23, List.forall_mem_cons.mpr ⟨lw_p24, List.forall_mem_cons.mpr ⟨lw_p25, List.forall_mem_cons.mpr ⟨lw_p26, List.forall_mem_cons.mpr ⟨lw_p27, List.forall_mem_cons.mpr ⟨lw_p28, List.forall_mem_cons.mpr ⟨lw_p29, List.forall_mem_cons.mpr ⟨lw_p30, List.forall_mem_cons.mpr ⟨lw_p31, fun _ h => absurd h List.not_mem_nil⟩⟩⟩⟩⟩⟩⟩⟩⟩⟩⟩⟩⟩⟩⟩⟩
theorem lw_p32 : lw_okq (⟨"DecimalWordsModel", "trim", "()V"⟩, 18) := ⟨⟨by decide +kernel, by decide +kernel⟩, List.mem_of_getElem? (i := 565) (by decide +kernel), List.mem_of_getElem? (i := 686) (by decide +kernel), List.mem_of_getElem? (i := 687) (by decide +kernel)⟩
theorem lw_p33 : lw_okq (⟨"DecimalWordsModel", "fit", "(ZI)V"⟩, 18) := ⟨⟨by decide +kernel, by decide +kernel⟩, List.mem_of_getElem? (i := 565) (by decide +kernel), List.mem_of_getElem? (i := 690) (by decide +kernel), List.mem_of_getElem? (i := 691) (by decide +kernel)⟩
theorem lw_p34 : lw_okq (⟨"DecimalWordsModel", "between", "(III)I"⟩, 18) := ⟨⟨by decide +kernel, by decide +kernel⟩, List.mem_of_getElem? (i := 565) (by decide +kernel), List.mem_of_getElem? (i := 694) (by decide +kernel), List.mem_of_getElem? (i := 695) (by decide +kernel)⟩
theorem lw_p35 : lw_okq (⟨"DecimalWordsModel", "whole", "(I)J"⟩, 18) := ⟨⟨by decide +kernel, by decide +kernel⟩, List.mem_of_getElem? (i := 565) (by decide +kernel), List.mem_of_getElem? (i := 698) (by decide +kernel), List.mem_of_getElem? (i := 699) (by decide +kernel)⟩
theorem lw_p36 : lw_okq (⟨"DecimalWordsModel", "times", "(JI)J"⟩, 18) := ⟨⟨by decide +kernel, by decide +kernel⟩, List.mem_of_getElem? (i := 565) (by decide +kernel), List.mem_of_getElem? (i := 702) (by decide +kernel), List.mem_of_getElem? (i := 703) (by decide +kernel)⟩
theorem lw_p37 : lw_okq (⟨"DecimalWordsModel", "great", "(Z)V"⟩, 18) := ⟨⟨by decide +kernel, by decide +kernel⟩, List.mem_of_getElem? (i := 565) (by decide +kernel), List.mem_of_getElem? (i := 706) (by decide +kernel), List.mem_of_getElem? (i := 707) (by decide +kernel)⟩
theorem lw_p38 : lw_okq (⟨"DecimalWordsModel", "rounded", "(IZ)J"⟩, 18) := ⟨⟨by decide +kernel, by decide +kernel⟩, List.mem_of_getElem? (i := 565) (by decide +kernel), List.mem_of_getElem? (i := 711) (by decide +kernel), List.mem_of_getElem? (i := 712) (by decide +kernel)⟩
theorem lw_p39 : lw_okq (⟨"DecimalWordsModel", "multiply", "(II)V"⟩, 18) := ⟨⟨by decide +kernel, by decide +kernel⟩, List.mem_of_getElem? (i := 565) (by decide +kernel), List.mem_of_getElem? (i := 718) (by decide +kernel), List.mem_of_getElem? (i := 719) (by decide +kernel)⟩
theorem lw_p40 : lw_okq (⟨"DecimalWordsModel", "divide", "(II)V"⟩, 18) := ⟨⟨by decide +kernel, by decide +kernel⟩, List.mem_of_getElem? (i := 565) (by decide +kernel), List.mem_of_getElem? (i := 722) (by decide +kernel), List.mem_of_getElem? (i := 723) (by decide +kernel)⟩
theorem lw_p41 : lw_okq (⟨"DecimalWordsModel", "quantize", "(II)V"⟩, 18) := ⟨⟨by decide +kernel, by decide +kernel⟩, List.mem_of_getElem? (i := 565) (by decide +kernel), List.mem_of_getElem? (i := 726) (by decide +kernel), List.mem_of_getElem? (i := 727) (by decide +kernel)⟩
theorem lw_p42 : lw_okq (⟨"DecimalWordsModel", "order", "(II)I"⟩, 18) := ⟨⟨by decide +kernel, by decide +kernel⟩, List.mem_of_getElem? (i := 565) (by decide +kernel), List.mem_of_getElem? (i := 730) (by decide +kernel), List.mem_of_getElem? (i := 731) (by decide +kernel)⟩
theorem lw_p43 : lw_okq (⟨"DecimalWordsModel", "signOf", "(I)I"⟩, 18) := ⟨⟨by decide +kernel, by decide +kernel⟩, List.mem_of_getElem? (i := 565) (by decide +kernel), List.mem_of_getElem? (i := 734) (by decide +kernel), List.mem_of_getElem? (i := 735) (by decide +kernel)⟩
theorem lw_p44 : lw_okq (⟨"DecimalWordsModel", "compareSizes", "(II)I"⟩, 18) := ⟨⟨by decide +kernel, by decide +kernel⟩, List.mem_of_getElem? (i := 565) (by decide +kernel), List.mem_of_getElem? (i := 738) (by decide +kernel), List.mem_of_getElem? (i := 739) (by decide +kernel)⟩
theorem lw_p45 : lw_okq (⟨"DecimalWordsModel", "lengthOf", "(J)I"⟩, 18) := ⟨⟨by decide +kernel, by decide +kernel⟩, List.mem_of_getElem? (i := 565) (by decide +kernel), List.mem_of_getElem? (i := 742) (by decide +kernel), List.mem_of_getElem? (i := 743) (by decide +kernel)⟩
theorem lw_p46 : lw_okq (⟨"DecimalWordsModel", "copy", "(I)V"⟩, 18) := ⟨⟨by decide +kernel, by decide +kernel⟩, List.mem_of_getElem? (i := 565) (by decide +kernel), List.mem_of_getElem? (i := 746) (by decide +kernel), List.mem_of_getElem? (i := 747) (by decide +kernel)⟩
theorem lw_p47 : lw_okq (⟨"DecimalWordsModel", "next", "(I)V"⟩, 18) := ⟨⟨by decide +kernel, by decide +kernel⟩, List.mem_of_getElem? (i := 565) (by decide +kernel), List.mem_of_getElem? (i := 750) (by decide +kernel), List.mem_of_getElem? (i := 751) (by decide +kernel)⟩
def lw_privs_3 : List (MethodName × Nat) := [(⟨"DecimalWordsModel", "trim", "()V"⟩, 18), (⟨"DecimalWordsModel", "fit", "(ZI)V"⟩, 18), (⟨"DecimalWordsModel", "between", "(III)I"⟩, 18), (⟨"DecimalWordsModel", "whole", "(I)J"⟩, 18), (⟨"DecimalWordsModel", "times", "(JI)J"⟩, 18), (⟨"DecimalWordsModel", "great", "(Z)V"⟩, 18), (⟨"DecimalWordsModel", "rounded", "(IZ)J"⟩, 18), (⟨"DecimalWordsModel", "multiply", "(II)V"⟩, 18), (⟨"DecimalWordsModel", "divide", "(II)V"⟩, 18), (⟨"DecimalWordsModel", "quantize", "(II)V"⟩, 18), (⟨"DecimalWordsModel", "order", "(II)I"⟩, 18), (⟨"DecimalWordsModel", "signOf", "(I)I"⟩, 18), (⟨"DecimalWordsModel", "compareSizes", "(II)I"⟩, 18), (⟨"DecimalWordsModel", "lengthOf", "(J)I"⟩, 18), (⟨"DecimalWordsModel", "copy", "(I)V"⟩, 18), (⟨"DecimalWordsModel", "next", "(I)V"⟩, 18)]
theorem lw_r3 : ∀ q ∈ lw_privs_3, lw_okq q := List.forall_mem_cons.mpr ⟨lw_p32, List.forall_mem_cons.mpr ⟨lw_p33, List.forall_mem_cons.mpr ⟨lw_p34, List.forall_mem_cons.mpr ⟨lw_p35, List.forall_mem_cons.mpr ⟨lw_p36, List.forall_mem_cons.mpr ⟨lw_p37, List.forall_mem_cons.mpr ⟨lw_p38, List.forall_mem_cons.mpr ⟨lw_p39, List.forall_mem_cons.mpr ⟨lw_p40, List.forall_mem_cons.mpr ⟨lw_p41, List.forall_mem_cons.mpr ⟨lw_p42, List.forall_mem_cons.mpr ⟨lw_p43, List.forall_mem_cons.mpr ⟨lw_p44, List.forall_mem_cons.mpr ⟨lw_p45, List.forall_mem_cons.mpr ⟨lw_p46, List.forall_mem_cons.mpr ⟨lw_p47, fun _ h => absurd h List.not_mem_nil⟩⟩⟩⟩⟩⟩⟩⟩⟩⟩⟩⟩⟩⟩⟩⟩
theorem lw_p48 : lw_okq (⟨"DecimalWordsModel", "store", "(I)V"⟩, 18) := ⟨⟨by decide +kernel, by decide +kernel⟩, List.mem_of_getElem? (i := 565) (by decide +kernel), List.mem_of_getElem? (i := 754) (by decide +kernel), List.mem_of_getElem? (i := 755) (by decide +kernel)⟩
theorem lw_p49 : lw_okq (⟨"DecimalWordsModel", "packDigits", "(I)J"⟩, 18) := ⟨⟨by decide +kernel, by decide +kernel⟩, List.mem_of_getElem? (i := 565) (by decide +kernel), List.mem_of_getElem? (i := 789) (by decide +kernel), List.mem_of_getElem? (i := 790) (by decide +kernel)⟩
theorem lw_p50 : lw_okq (⟨"DecimalWordsModel", "ten", "(III)I"⟩, 18) := ⟨⟨by decide +kernel, by decide +kernel⟩, List.mem_of_getElem? (i := 565) (by decide +kernel), List.mem_of_getElem? (i := 794) (by decide +kernel), List.mem_of_getElem? (i := 795) (by decide +kernel)⟩
theorem lw_p51 : lw_okq (⟨"DecimalWordsModel", "three", "(I)I"⟩, 18) := ⟨⟨by decide +kernel, by decide +kernel⟩, List.mem_of_getElem? (i := 565) (by decide +kernel), List.mem_of_getElem? (i := 810) (by decide +kernel), List.mem_of_getElem? (i := 811) (by decide +kernel)⟩
def lw_privs_4 : List (MethodName × Nat) := [(⟨"DecimalWordsModel", "store", "(I)V"⟩, 18), (⟨"DecimalWordsModel", "packDigits", "(I)J"⟩, 18), (⟨"DecimalWordsModel", "ten", "(III)I"⟩, 18), (⟨"DecimalWordsModel", "three", "(I)I"⟩, 18)]
theorem lw_r4 : ∀ q ∈ lw_privs_4, lw_okq q := List.forall_mem_cons.mpr ⟨lw_p48, List.forall_mem_cons.mpr ⟨lw_p49, List.forall_mem_cons.mpr ⟨lw_p50, List.forall_mem_cons.mpr ⟨lw_p51, fun _ h => absurd h List.not_mem_nil⟩⟩⟩⟩
def lw_privs : List (MethodName × Nat) := lw_privs_1 ++ (lw_privs_2 ++ (lw_privs_3 ++ (lw_privs_4)))
def lw_tbl : List Cond := k2_sels lw_privs ++ tables_1
theorem lw_privs_ok : ∀ q ∈ lw_privs, lw_okq q := by
  show ∀ q ∈ lw_privs_1 ++ (lw_privs_2 ++ (lw_privs_3 ++ (lw_privs_4))), lw_okq q
  exact List.forall_mem_append.mpr ⟨lw_r1, List.forall_mem_append.mpr ⟨lw_r2, List.forall_mem_append.mpr ⟨lw_r3, lw_r4⟩⟩⟩
end
section
/-! ===== BEGIN words of one list among another's, by their places ===== -/
theorem goodIn_r {big : List Cond} (ws : List Cond) (ps : List Nat) (hp : ws = ps.filterMap (fun i => big[i]?)) (h : ws.all goodWord = true) : GoodIn big ws := by
  intro w hw
  have h1 := List.all_eq_true.mp h w hw
  rw [hp] at hw
  obtain ⟨i, -, hi⟩ := List.mem_filterMap.mp hw
  have hm : w ∈ big := by first | exact List.mem_of_getElem? hi | exact List.getElem?_mem hi
  exact ⟨hm, good_of_word h1⟩
theorem goodIn_app {big a b : List Cond} (ha : GoodIn big a) (hb : GoodIn big b) : GoodIn big (a ++ b) := fun w h => (List.mem_append.mp h).elim (ha w) (hb w)
theorem goodIn_ca {big a b : List Cond} {c : Cond} (ha : GoodIn big (c :: a)) (hb : GoodIn big b) : GoodIn big (c :: (a ++ b)) := fun w h => (List.mem_cons.mp h).elim (fun e => ha w (List.mem_cons.mpr (Or.inl e))) (fun h => (List.mem_append.mp h).elim (fun h => ha w (List.mem_cons.mpr (Or.inr h))) (hb w))
theorem goodIn_sub {big ws : List Cond} (hm : ∀ w ∈ ws, w ∈ big) (h : ws.all goodWord = true) : GoodIn big ws := fun w hw => ⟨hm w hw, good_of_word (List.all_eq_true.mp h w hw)⟩
/-! ===== END ===== -/

/-! ===== BEGIN exceptions that leave a method, and their catching by the caller (launches without stack traces) ===== -/
section VXA
/-! The laws vx_back, vx_callV, vx_callS, vx_callSW, vx_throw0, vx_throwS follow proofs of the library, with one case more: JvmDerived/Free/Laws.lean (Back.of_free), Shelf42/LK1.lean (callV, callS), Shelf/KitTraced.lean (throwNew0V, throwNewS). -/
/-- where a method has thrown q: the class by its name, the cell, what was written, the world -/
def vx_T (XC : String → State → State → Prop) (st : State) (q : Addr) (t : State) (mc ms : Nat) (free : Addr → Prop) : Prop :=
  ∃ (E : String) (ce : Cell) (L : List Loc), XC E st t ∧ t.heap[q]? = some ce ∧ ce.vm = .none ∧ st.vm.findClass E = some ce.cls ∧ st.WarmedH t.vm ∧ st.sameButNew ({ t with vm := st.vm } : State) L mc ms ∧ ∀ z ∈ L, free z.base
def vx_Q (Qc : Array Value → State → Outcome → State → Prop) (XC : String → State → State → Prop) (mc ms : Nat) (free : Addr → Prop) : Array Value → State → Outcome → State → Prop := fun a st o t =>
  (Qc a st o t ∧ ∃ L, FrameEnd st o t L mc ms ∧ ∀ q ∈ L, free q.base) ∨ ∃ q, o = .threw q ∧ vx_T XC st q t mc ms free
/-- a callee that returns or throws -/
def vx_Met (l : Launch) (y : MethodName) (ws : List Cond) (rm : Room) (Pc : Array Value → State → Prop) (Qc : Array Value → State → Outcome → State → Prop) (XC : String → State → State → Prop) (mc ms : Nat) (free : Addr → Prop) : Prop :=
  MetFree l y (headSpec ws rm) Pc (fun _ _ _ _ _ => True) (vx_Q Qc XC mc ms free)
def vx_Post (XC : String → State → State → Prop) (mc ms : Nat) (free : Addr → Prop) : Pt → Array Value → Addr → Pt → Prop := fun A a q B =>
  ∃ (g : JFrame) (mk : MethodId) (t : State) (L : List Loc) (E : String) (ce : Cell), B.U.heap = t.heap ∧ B.U.vm = t.vm ∧ XC E (A.U.calling g mk a) t ∧ t.heap[q]? = some ce ∧ ce.vm = .none ∧ A.U.vm.findClass E = some ce.cls ∧ B.locs = A.locs ++ L ∧ (∀ z ∈ L, free z.base) ∧ B.cells = A.cells + mc ∧ B.slots = A.slots + ms
def vx_Back (l : Launch) (R : Room) (p : Program) (e : Env) (below : List Frame) (s : State) (sargs : Array Value) (y : MethodName) (len W9 : Nat)
    (Pre : Pt → Array Value → Prop) (Post : Pt → Array Value → Option Value → Pt → Prop) (PostX : Pt → Array Value → Addr → Pt → Prop) : Prop :=
  ∀ (m : MethodId) (meth : Method) (c : Code) (A : Pt) (g : JFrame) (ig : Instr) (mk : MethodId) (a : Array Value),
    Stand p l e R s m sargs below meth c A.U A.locs A.cells A.slots → g.method = m → g.locals.size = c.maxLocals → decode c.code g.pc = .ok (ig, len) →
    2 * g.monitorRoom + (g.stack.map fun v => v.category).sum ≤ W9 → A.U.methodNamed? y = some mk → Pre A a →
    (∃ (v : Option Value) (B : Pt), Stand p l e R s m sargs below meth c B.U B.locs B.cells B.slots ∧ Post A a v B ∧
      Steps p.tables e below (doInvoke e (A.U.setTop g) [] mk a).1 (B.U.setTop { g with pc := g.pc + len, stack := v.toList ++ g.stack })) ∨
    (∃ (q : Addr) (B : Pt), Stand p l e R s m sargs below meth c B.U B.locs B.cells B.slots ∧ PostX A a q B ∧
      Steps p.tables e below (doInvoke e (A.U.setTop g) [] mk a).1 ((B.U.setTop g).pushFrame (.throwing q)))
section Payer
variable {l : Launch} {R : Room} {p : Program} {e : Env} {below : List Frame} {s : State} {sargs : Array Value} {y : MethodName} {len W9 : Nat}
theorem vx_back {ws : List Cond} {rm : Room} {Pc : Array Value → State → Prop} {Qc : Array Value → State → Outcome → State → Prop} {XC : String → State → State → Prop} {mc ms : Nat} {free : Addr → Prop} {bytes : ByteArray} {maxL : Nat} {ret : Option FieldType}
    (hM : vx_Met l y ws rm Pc Qc XC mc ms free) (hblind : FrameBlind Pc) (hrc : rm.cells = mc) (hrs : rm.slots = ms)
    (hframes : rm.frames + 1 ≤ R.frames) (hlocals : W9 + (maxL + 11) + rm.locals ≤ R.locals)
    (hws : ∀ w ∈ ws, ∀ a' U, s.WarmedH U.vm → w.before a' U = true) (hcode : Cond.code y bytes maxL ret ∈ ws) (hinit : ∀ a' U, s.WarmedH U.vm → (Cond.initialized y.cls).before a' U = true) :
    vx_Back l R p e below s sargs y len W9 (PreOf R mc ms Pc) (PostOf Qc mc ms free) (vx_Post XC mc ms free) := by
  intro m meth c A g ig mk a X hg hsize hdg hW hn hp
  have h1 : (headSpec ws rm).pre.before a A.U = true := atoms_intro fun w hw => hws w hw _ _ X.warmed
  have h2 : (Cond.code y bytes maxL ret).before a A.U = true := hws _ hcode _ _ X.warmed
  have h3 : (Cond.initialized y.cls).before a A.U = true := hinit _ _ X.warmed
  have h4 : A.cells + (headSpec ws rm).room.cells ≤ R.cells := by rw [show (headSpec ws rm).room.cells = mc from hrc]; exact hp.1
  have h5 : A.slots + (headSpec ws rm).room.slots ≤ R.slots := by rw [show (headSpec ws rm).room.slots = ms from hrs]; exact hp.2.1
  have hPc : Pc a (A.U.calling g mk a) := hblind _ _ _ _ hp.2.2
  obtain ⟨U, Ls, c0, s0⟩ := A
  dsimp only [Pt.U, Pt.locs, Pt.cells, Pt.slots] at h1 h2 h3 h4 h5 X hn hPc ⊢
  obtain ⟨methY, cY, hmY, hcY, -, hlY, -, -, -, -⟩ := Cond.code_spec hn h2
  obtain ⟨kY, hkY, -⟩ := className_of_methodNamed hn
  have hinitY : kY.init = .initialized := Cond.initialized_spec (findClass_of_methodNamed hn) hkY h3
  have h : At U g.method c below := by rw [hg]; exact X.here
  have hlocals9 : W9 + (maxL + 11) + (headSpec ws rm).room.locals ≤ R.locals := hlocals
  have happ : (headSpec ws rm).appliesLoose y e.platform (U.calling g mk a) = true :=
    Spec.appliesLoose_calling (g := g) h hdg hn hkY hinitY
      (X.room_calling (g := g) (R' := (headSpec ws rm).room) hsize hmY hcY hframes (by rw [hlY]; omega) h4 h5) h1
  obtain ⟨mid, hmid⟩ := h.above
  have hfr : (U.setTop g).frames = (.java g :: mid) ++ below := by rw [State.frames_setTop' g h.top, hmid]; rfl
  obtain ⟨o, s₂, hsteps, -, hend, hq⟩ := Steps.callFree hM p X.admits X.cas X.clock (acts := []) hfr happ hPc trivial
  have hq' : vx_Q Qc XC mc ms free a (U.calling g mk a) o s₂ := hq
  rw [State.frames_setTop' g h.top] at hend
  obtain ⟨g₀, hg0⟩ := Option.isSome_iff_exists.mp h.top
  obtain ⟨r, hr⟩ := State.topJava?_eq_some.mp hg0
  have hr' : (({ U with heap := s₂.heap, slotsUsed := s₂.slotsUsed } : State).setVm s₂.vm).frames = .java g₀ :: r := hr
  rcases hq' with ⟨hqc, L, hfe, hL⟩ | ⟨q, rfl, E, ce, L, hx, hce, hcv, hcl, hW₂, hsm, hL⟩
  · obtain ⟨⟨v, rfl⟩, hW₂, e2, q2, q3, q4, q5, q6⟩ := id hfe
    have e3 : s₂ = ({ (U.calling g mk a).setFrames s₂.frames with heap := s₂.heap, slotsUsed := s₂.slotsUsed } : State).setVm s₂.vm := by
      have : s₂ = ({ s₂ with vm := (U.calling g mk a).vm } : State).setVm s₂.vm := rfl
      rw [e2] at this
      exact this
    obtain ⟨c₂, i₂, len₂, hc₂, hd₂, hf₂⟩ := hend
    have hW' : U.WarmedH s₂.vm := hW₂
    have hcc : c₂ = c := by
      have h1 : s₂.code? g.method = U.code? g.method := by
        rw [State.code?_eq, State.code?_eq, hW'.alike.method?]
      exact Option.some.inj (hc₂.symm.trans (h1.trans h.code))
    subst hcc
    have hlen : len₂ = len := by rw [hdg] at hd₂; cases hd₂; rfl
    subst hlen
    have hs₂ : s₂ = (({ U with heap := s₂.heap, slotsUsed := s₂.slotsUsed } : State).setVm s₂.vm).setTop { g with pc := g.pc + len₂, stack := v.toList ++ g.stack } := by
      refine e3.trans ?_
      rw [hf₂, State.calling_eq h.top, State.setFrames_setFrames, State.setTop_of_frames _ hr', hr]
      rfl
    have hsame : U.sameButNew ({ U with heap := s₂.heap, slotsUsed := s₂.slotsUsed } : State) L mc ms := by
      refine ⟨?_, q2, q3, q4, q5, q6⟩
      obtain ⟨t, ht, -⟩ := State.frames_cons hr
      show ({ U with heap := s₂.heap, slotsUsed := s₂.slotsUsed } : State) = { U.setFrames U.frames with heap := s₂.heap, slotsUsed := s₂.slotsUsed }
      rw [State.setFrames_self ht]
    subst hg
    refine Or.inl ⟨v, ⟨(({ U with heap := s₂.heap, slotsUsed := s₂.slotsUsed } : State).setVm s₂.vm), Ls ++ L, c0 + mc, s0 + ms⟩,
      ⟨X.admits, X.cas, X.clock, X.frames, X.room, X.hears, X.method, X.code, (X.here.setHeapUsed s₂.heap s₂.slotsUsed).setVm hW'.alike, X.tail, State.WarmedH.trans X.warmed hW', X.limits, X.bytes, X.same.trans (hsame.setVm s.vm)⟩,
      ⟨g, mk, s₂, L, rfl, rfl, hqc, rfl, hL, rfl, rfl⟩, ?_⟩
    show Steps p.tables e below _ ((({ U with heap := s₂.heap, slotsUsed := s₂.slotsUsed } : State).setVm s₂.vm).setTop { g with pc := g.pc + len₂, stack := v.toList ++ g.stack })
    rw [← hs₂]
    exact hsteps
  · obtain ⟨e2, q2, q3, q4, q5, q6⟩ := id hsm
    have e3 : s₂ = ({ (U.calling g mk a).setFrames s₂.frames with heap := s₂.heap, slotsUsed := s₂.slotsUsed } : State).setVm s₂.vm := by
      have : s₂ = ({ s₂ with vm := (U.calling g mk a).vm } : State).setVm s₂.vm := rfl
      rw [e2] at this
      exact this
    have hf₂ : s₂.frames = .throwing q :: .java g :: U.frames.tail := hend
    have hW' : U.WarmedH s₂.vm := hW₂
    have hs₂ : s₂ = ((({ U with heap := s₂.heap, slotsUsed := s₂.slotsUsed } : State).setVm s₂.vm).setTop g).pushFrame (.throwing q) := by
      refine e3.trans ?_
      rw [hf₂, State.calling_eq h.top, State.setFrames_setFrames, State.pushFrame, State.frames_setTop _ hr', State.setTop_of_frames _ hr', State.setFrames_setFrames, hr]
      rfl
    have hsame : U.sameButNew ({ U with heap := s₂.heap, slotsUsed := s₂.slotsUsed } : State) L mc ms := by
      refine ⟨?_, q2, q3, q4, q5, q6⟩
      obtain ⟨t, ht, -⟩ := State.frames_cons hr
      show ({ U with heap := s₂.heap, slotsUsed := s₂.slotsUsed } : State) = { U.setFrames U.frames with heap := s₂.heap, slotsUsed := s₂.slotsUsed }
      rw [State.setFrames_self ht]
    subst hg
    refine Or.inr ⟨q, ⟨(({ U with heap := s₂.heap, slotsUsed := s₂.slotsUsed } : State).setVm s₂.vm), Ls ++ L, c0 + mc, s0 + ms⟩,
      ⟨X.admits, X.cas, X.clock, X.frames, X.room, X.hears, X.method, X.code, (X.here.setHeapUsed s₂.heap s₂.slotsUsed).setVm hW'.alike, X.tail, State.WarmedH.trans X.warmed hW', X.limits, X.bytes, X.same.trans (hsame.setVm s.vm)⟩,
      ⟨g, mk, s₂, L, E, ce, rfl, rfl, hx, hce, hcv, hcl, rfl, hL, rfl, rfl⟩, ?_⟩
    show Steps p.tables e below _ (((({ U with heap := s₂.heap, slotsUsed := s₂.slotsUsed } : State).setVm s₂.vm).setTop g).pushFrame (.throwing q))
    rw [← hs₂]
    exact hsteps
end Payer
section Calls
variable {p : Program} {l : Launch} {e : Env} {R : Room} {s : State} {m : MethodId} {args : Array Value} {below : List Frame} {meth : Method} {c : Code} {T : State} {locs : List Loc} {cells slots : Nat}
theorem vx_callV (X : Stand p l e R s m args below meth c T locs cells slots) (hexec : p.tables.exec = Jvm.exec) {own C : String} {index : Nat} {y : MethodName} {bytes : ByteArray} {maxL : Nat} {ret : Option FieldType}
    (hown : s.vm.findClass own = some m.cls) (hlink : (Cond.methodLink own index y).before args s = true) (hinst : (Cond.instanceMethod y).before args s = true) (hsel : (Cond.selects C y y).before args s = true)
    (hcode : (Cond.code y bytes maxL ret).before args s = true) (hy : y.cls ≠ "java/lang/invoke/MethodHandle" ∧ y.cls ≠ "java/lang/invoke/VarHandle")
    {W9 : Nat} {Pre : Pt → Array Value → Prop} {Post : Pt → Array Value → Option Value → Pt → Prop} {PostX : Pt → Array Value → Addr → Pt → Prop} (hK : vx_Back l R p e below s args y 3 W9 Pre Post PostX)
    {b : Addr} {cellB : Cell} (hcell : T.heap[b]? = some cellB) (hobj : cellB.vm.isStatics = false) (hcls : s.vm.findClass C = some cellB.cls)
    {g : JFrame} (hg : g.method = m) (hsize : g.locals.size = c.maxLocals) {argsL rest : List Value} (hlen : ∀ sig, parseMethodDescriptor y.desc = some sig → argsL.length = sig.parameters.length)
    (hstack : g.stack = argsL.reverse ++ .ref b :: rest) (hW : 2 * g.monitorRoom + (rest.map fun v => v.category).sum ≤ W9) (hdg : decode c.code g.pc = .ok (.invokevirtual index, 3))
    (hpre : ∀ vm₁, s.WarmedH vm₁ → Pre ⟨T.setVm vm₁, locs, cells, slots⟩ (Value.ref b :: argsL).toArray) :
    (∃ (v : Option Value) (vm₁ : Vm) (B : Pt), s.WarmedH vm₁ ∧ Stand p l e R s m args below meth c B.U B.locs B.cells B.slots ∧ Post ⟨T.setVm vm₁, locs, cells, slots⟩ (Value.ref b :: argsL).toArray v B ∧
      ∀ target, Steps p.tables e below (B.U.setTop { g with pc := g.pc + 3, stack := v.toList ++ rest }) target → Steps p.tables e below (T.setTop g) target) ∨
    (∃ (q : Addr) (vm₁ : Vm) (B : Pt), s.WarmedH vm₁ ∧ Stand p l e R s m args below meth c B.U B.locs B.cells B.slots ∧ PostX ⟨T.setVm vm₁, locs, cells, slots⟩ (Value.ref b :: argsL).toArray q B ∧
      Steps p.tables e below (T.setTop g) ((B.U.setTop { g with stack := rest }).pushFrame (.throwing q))) := by
  obtain ⟨mk, methM, hnamed, hmethM, hstM, habM⟩ := Cond.instanceMethod_spec hinst
  obtain ⟨methM', cM, hmethM', -, -, -, -, -, -, hsigM⟩ := Cond.code_spec hnamed hcode
  cases hmethM.symm.trans hmethM'
  obtain ⟨c2, r2, m2, q1, q2, q3, q4, kP, hkP, hkPi⟩ := Cond.selects_spec hsel
  cases hcls.symm.trans q1
  cases (State.methodFound?_of_named hnamed hy).symm.trans q2
  cases hnamed.symm.trans q3
  have hselP : selectMethod e.platform s.vm cellB.cls mk = .method mk := by rw [Launch.admits_selectMethod X.admits]; exact q4
  obtain ⟨vm₁, X₁, hstep₁⟩ := X.invokevirtual hexec hown hlink hnamed hmethM hstM hkP hkPi hy (a := b) (cell := cellB) hcell
    (fun z h => by rw [h] at hobj; cases hobj) hselP hmethM habM hkP hkPi (g := g) hg (argsL := argsL) (rest := rest) (hlen _ hsigM) hstack hdg
  rcases hK m meth c ⟨T.setVm vm₁, locs, cells, slots⟩ { g with stack := rest } (.invokevirtual index) mk (Value.ref b :: argsL).toArray X₁ hg hsize hdg hW (X₁.named hnamed) (hpre vm₁ X₁.warmed) with ⟨v, B, X', hpost, hsteps⟩ | ⟨q, B, X', hpost, hsteps⟩
  · exact Or.inl ⟨v, vm₁, B, X₁.warmed, X', hpost, fun target h => hstep₁ _ fun acts => by rw [doInvoke_state]; exact hsteps.trans h⟩
  · exact Or.inr ⟨q, vm₁, B, X₁.warmed, X', hpost, hstep₁ _ fun acts => by rw [doInvoke_state]; exact hsteps⟩
theorem vx_callS (X : Stand p l e R s m args below meth c T locs cells slots) (hexec : p.tables.exec = Jvm.exec) {own : String} {index : Nat} {y : MethodName} {bytes : ByteArray} {maxL : Nat} {ret : Option FieldType}
    (hown : s.vm.findClass own = some m.cls) (hlink : (Cond.methodLink own index y).before args s = true) (hstat : (Cond.static y).before args s = true) (hinit : (Cond.initialized y.cls).before args s = true)
    (hcode : (Cond.code y bytes maxL ret).before args s = true) (hy : y.cls ≠ "java/lang/invoke/MethodHandle" ∧ y.cls ≠ "java/lang/invoke/VarHandle")
    {W9 : Nat} {Pre : Pt → Array Value → Prop} {Post : Pt → Array Value → Option Value → Pt → Prop} {PostX : Pt → Array Value → Addr → Pt → Prop} (hK : vx_Back l R p e below s args y 3 W9 Pre Post PostX)
    {g : JFrame} (hg : g.method = m) (hsize : g.locals.size = c.maxLocals) {argsL rest : List Value} (hlen : ∀ sig, parseMethodDescriptor y.desc = some sig → argsL.length = sig.parameters.length)
    (hstack : g.stack = argsL.reverse ++ rest) (hW : 2 * g.monitorRoom + (rest.map fun v => v.category).sum ≤ W9) (hdg : decode c.code g.pc = .ok (.invokestatic index, 3))
    (hpre : ∀ vm₁, s.WarmedH vm₁ → Pre ⟨T.setVm vm₁, locs, cells, slots⟩ argsL.toArray) :
    (∃ (v : Option Value) (vm₁ : Vm) (B : Pt), s.WarmedH vm₁ ∧ Stand p l e R s m args below meth c B.U B.locs B.cells B.slots ∧ Post ⟨T.setVm vm₁, locs, cells, slots⟩ argsL.toArray v B ∧
      ∀ target, Steps p.tables e below (B.U.setTop { g with pc := g.pc + 3, stack := v.toList ++ rest }) target → Steps p.tables e below (T.setTop g) target) ∨
    (∃ (q : Addr) (vm₁ : Vm) (B : Pt), s.WarmedH vm₁ ∧ Stand p l e R s m args below meth c B.U B.locs B.cells B.slots ∧ PostX ⟨T.setVm vm₁, locs, cells, slots⟩ argsL.toArray q B ∧
      Steps p.tables e below (T.setTop g) ((B.U.setTop { g with stack := rest }).pushFrame (.throwing q))) := by
  obtain ⟨mk, hnamed⟩ := Cond.code_named hcode
  obtain ⟨methM, cM, hmethM, -, -, -, -, -, -, hsigM⟩ := Cond.code_spec hnamed hcode
  have hstatic : methM.isStatic = true := Cond.static_spec hnamed hmethM hstat
  obtain ⟨kP, hkP, -⟩ := className_of_methodNamed hnamed
  have hinitP : kP.init = .initialized := Cond.initialized_spec (findClass_of_methodNamed hnamed) hkP hinit
  obtain ⟨vm₁, X₁, hstep₁⟩ := X.invokestatic hexec hown hlink hnamed hmethM hstatic hkP hinitP hy (g := g) hg (argsL := argsL) (rest := rest) (hlen _ hsigM) hstack hdg
  rcases hK m meth c ⟨T.setVm vm₁, locs, cells, slots⟩ { g with stack := rest } (.invokestatic index) mk argsL.toArray X₁ hg hsize hdg hW (X₁.named hnamed) (hpre vm₁ X₁.warmed) with ⟨v, B, X', hpost, hsteps⟩ | ⟨q, B, X', hpost, hsteps⟩
  · exact Or.inl ⟨v, vm₁, B, X₁.warmed, X', hpost, fun target h => hstep₁ _ fun acts => by rw [doInvoke_state]; exact hsteps.trans h⟩
  · exact Or.inr ⟨q, vm₁, B, X₁.warmed, X', hpost, hstep₁ _ fun acts => by rw [doInvoke_state]; exact hsteps⟩
end Calls
theorem vx_cls {s : State} {T : State} {vm₁ : Vm} {E : String} {k : ClassId} (hW : s.WarmedH vm₁) (h : (T.setVm vm₁).vm.findClass E = some k) : s.vm.findClass E = some k := by
  have h1 : vm₁.findClass E = some k := h
  rw [hW.alike.findClass] at h1
  exact h1
/-- the method's frame g, with q thrown over it -/
def vx_W (p : Program) (l : Launch) (e : Env) (R : Room) (s : State) (m : MethodId) (args : Array Value) (below : List Frame) (meth : Method) (c : Code) (H : Heap) (locs : List Loc) (cells slots : Nat) (Q : State → Prop) (g : JFrame) (q : Addr) : Prop :=
  ∀ T : State, T.heap = H → Stand p l e R s m args below meth c T locs cells slots → ∃ t, Steps p.tables e below ((T.setTop g).pushFrame (.throwing q)) t ∧ Q t
def vx_Run (p : Program) (l : Launch) (e : Env) (R : Room) (s : State) (m : MethodId) (args : Array Value) (below : List Frame) (meth : Method) (c : Code) (H : Heap) (locs : List Loc) (cells slots mc ms : Nat) (g : JFrame) (rest : List Value) (Qa : State → Outcome → State → Prop) (XC : String → State → State → Prop) (free : Addr → Prop) : Prop :=
  ∀ T : State, T.heap = H → Stand p l e R s m args below meth c T locs cells slots →
    (∃ (v : Option Value) (st₀ t T' : State) (L : List Loc), st₀.heap = H ∧ Stand p l e R s m args below meth c T' (locs ++ L) (cells + mc) (slots + ms) ∧ (∀ q ∈ L, free q.base) ∧ T'.heap = t.heap ∧ T'.vm = t.vm ∧ Qa st₀ (.returned v) t ∧
      Goes p e below T g T' { g with pc := g.pc + 3, stack := v.toList ++ rest }) ∨
    (∃ (q : Addr) (st₀ t T' : State) (L : List Loc) (E : String) (ce : Cell), st₀.heap = H ∧ Stand p l e R s m args below meth c T' (locs ++ L) (cells + mc) (slots + ms) ∧ (∀ z ∈ L, free z.base) ∧ T'.heap = t.heap ∧ T'.vm = t.vm ∧ XC E st₀ t ∧ t.heap[q]? = some ce ∧ ce.vm = .none ∧ s.vm.findClass E = some ce.cls ∧
      Steps p.tables e below (T.setTop g) ((T'.setTop { g with stack := rest }).pushFrame (.throwing q)))
def vx_X {S : Type} (px : S → Prop) (B : String → S → State → Prop) (A : Nat → Prop) : String → State → State → Prop := fun E st t => ∃ u : S, px u ∧ B E u t ∧ va_F A st t
section Runs
variable {p : Program} {l : Launch} {e : Env} {R : Room} {s : State} {m : MethodId} {args : Array Value} {below : List Frame} {meth : Method} {c : Code} {H : Heap} {locs : List Loc} {cells slots : Nat}
variable {y : MethodName} {bytes cc : ByteArray} {maxL nL mc ms n index : Nat} {ret : Option FieldType} {ws : List Cond} {rm : Room} {Pc : Array Value → State → Prop} {Qc : Array Value → State → Outcome → State → Prop} {XC : String → State → State → Prop} {free : Addr → Prop} {Ts : List Cond} {own C : String} {b : Addr} {As rest : List Value} {g : JFrame}
theorem vx_callBack (cb : CallB R s args own index y bytes maxL ret ws rm mc ms n) (hM : vx_Met l y ws rm Pc Qc XC mc ms free) (hbl : FrameBlind Pc) : vx_Back l R p e below s args y 3 8 (PreOf R mc ms Pc) (PostOf Qc mc ms free) (vx_Post XC mc ms free) := by
  obtain ⟨hrc, hrs, hfr, hlo, hws, hcw, -, hini, -⟩ := cb
  exact vx_back (bytes := bytes) (maxL := maxL) (ret := ret) hM hbl hrc hrs hfr hlo hws hcw (fun a' U hW => word_at hW (Or.inl (by first | rfl | simp [Cond.onTables, Cond.keeps, Cond.steady])) hini)
theorem vx_runV (S : CallFix p m c cc nL s args Ts own) (hM : vx_Met l y ws rm Pc Qc XC mc ms free) (cw : CallW R s args own C index y bytes maxL ret ws rm mc ms n) (hp : PreV s H C b Pc As)
    (hg : g.method = m) (hn : As.length = n) (hsize : g.locals.size = nL) (hstack : g.stack = As.reverse ++ .ref b :: rest) (hW : 2 * g.monitorRoom + (rest.map fun v => v.category).sum ≤ 8) (hdg : decode cc g.pc = .ok (.invokevirtual index, 3)) (hf : cells + mc ≤ R.cells ∧ slots + ms ≤ R.slots) :
    vx_Run p l e R s m args below meth c H locs cells slots mc ms g rest (Qc (Value.ref b :: As).toArray) XC free := by
  have hK : vx_Back l R p e below s args y 3 8 (PreOf R mc ms Pc) (PostOf Qc mc ms free) (vx_Post XC mc ms free) := vx_callBack cw.1 hM hp.1
  obtain ⟨⟨-, -, -, -, -, -, hcode, -, hy, hlen, hl⟩, hin, hse⟩ := cw
  obtain ⟨hx, hb, hml, ho, -⟩ := S
  obtain ⟨-, ⟨cellB, hcB, hoB, hclB⟩, hPc⟩ := hp
  intro T hT X
  rcases vx_callV X hx (C := C) (bytes := bytes) (maxL := maxL) (ret := ret) ho hl hin hse hcode hy hK (by rw [hT]; exact hcB) hoB hclB hg (hsize.trans hml.symm) (argsL := As) (rest := rest) (fun sig h => hn.trans (hlen sig h)) hstack hW (by rw [hb]; exact hdg)
    (fun vm₁ hW₁ => ⟨hf.1, hf.2, hPc (T.setVm vm₁) hT hW₁⟩) with ⟨v, vm₁, ⟨U', l2, c2, s2⟩, hW₁, X', ⟨g', mk, t, L, e1, e2, hq, h1, hL, h2, h3⟩, st⟩ | ⟨q, vm₁, ⟨U', l2, c2, s2⟩, hW₁, X', ⟨g', mk, t, L, E, ce, e1, e2, hq, hce, hcv, hcl, h1, hL, h2, h3⟩, st⟩
  · dsimp only [Pt.U, Pt.locs, Pt.cells, Pt.slots] at X' e1 e2 h1 h2 h3 st
    subst h1; subst h2; subst h3
    exact Or.inl ⟨v, (T.setVm vm₁).calling g' mk (Value.ref b :: As).toArray, t, U', L, hT, X', hL, e1, e2, hq, st⟩
  · dsimp only [Pt.U, Pt.locs, Pt.cells, Pt.slots] at X' e1 e2 h1 h2 h3 st hcl
    subst h1; subst h2; subst h3
    exact Or.inr ⟨q, (T.setVm vm₁).calling g' mk (Value.ref b :: As).toArray, t, U', L, E, ce, hT, X', hL, e1, e2, hq, hce, hcv, vx_cls hW₁ hcl, st⟩
theorem vx_runS (S : CallFix p m c cc nL s args Ts own) (hM : vx_Met l y ws rm Pc Qc XC mc ms free) (cw : CallB R s args own index y bytes maxL ret ws rm mc ms n ∧ (Cond.static y).before args s = true) (hp : PreS s H Pc As)
    (hg : g.method = m) (hn : As.length = n) (hsize : g.locals.size = nL) (hstack : g.stack = As.reverse ++ rest) (hW : 2 * g.monitorRoom + (rest.map fun v => v.category).sum ≤ 8) (hdg : decode cc g.pc = .ok (.invokestatic index, 3)) (hf : cells + mc ≤ R.cells ∧ slots + ms ≤ R.slots) :
    vx_Run p l e R s m args below meth c H locs cells slots mc ms g rest (Qc As.toArray) XC free := by
  have hK : vx_Back l R p e below s args y 3 8 (PreOf R mc ms Pc) (PostOf Qc mc ms free) (vx_Post XC mc ms free) := vx_callBack cw.1 hM hp.1
  obtain ⟨⟨-, -, -, -, -, -, hcode, hini, hy, hlen, hl⟩, hstt⟩ := cw
  obtain ⟨hx, hb, hml, ho, -⟩ := S
  intro T hT X
  rcases vx_callS X hx (bytes := bytes) (maxL := maxL) (ret := ret) ho hl hstt hini hcode hy hK hg (hsize.trans hml.symm) (argsL := As) (rest := rest) (fun sig h => hn.trans (hlen sig h)) hstack hW (by rw [hb]; exact hdg)
    (fun vm₁ hW₁ => ⟨hf.1, hf.2, hp.2 (T.setVm vm₁) hT hW₁⟩) with ⟨v, vm₁, ⟨U', l2, c2, s2⟩, hW₁, X', ⟨g', mk, t, L, e1, e2, hq, h1, hL, h2, h3⟩, st⟩ | ⟨q, vm₁, ⟨U', l2, c2, s2⟩, hW₁, X', ⟨g', mk, t, L, E, ce, e1, e2, hq, hce, hcv, hcl, h1, hL, h2, h3⟩, st⟩
  · dsimp only [Pt.U, Pt.locs, Pt.cells, Pt.slots] at X' e1 e2 h1 h2 h3 st
    subst h1; subst h2; subst h3
    exact Or.inl ⟨v, (T.setVm vm₁).calling g' mk As.toArray, t, U', L, hT, X', hL, e1, e2, hq, st⟩
  · dsimp only [Pt.U, Pt.locs, Pt.cells, Pt.slots] at X' e1 e2 h1 h2 h3 st hcl
    subst h1; subst h2; subst h3
    exact Or.inr ⟨q, (T.setVm vm₁).calling g' mk As.toArray, t, U', L, E, ce, hT, X', hL, e1, e2, hq, hce, hcv, vx_cls hW₁ hcl, st⟩
end Runs
section Rows
variable {p : Program} {l : Launch} {e : Env} {R : Room} {s : State} {m : MethodId} {args : Array Value} {below : List Frame} {meth : Method} {c : Code} {H : Heap} {locs : List Loc} {cells slots : Nat} {Q : State → Prop}
variable {mc ms : Nat} {free : Addr → Prop} {A0 A1 : Nat → Prop} {H0 : Heap} {a : Array Value} {pc : Nat} {ls : Array Slot} {st0 rest : List Value}
theorem vx_keep {st₀ t T' : State} {L : List Loc} (h0 : st₀.heap = H) (e1 : T'.heap = t.heap) (hS : va_S A0 H0 H locs) (hA : ∀ q, q < H.size → A1 q → A0 q) (hf : ∀ q, free q → A0 q) (hL : ∀ q ∈ L, free q.base) (hF : va_F A1 st₀ t) :
    H.size ≤ T'.heap.size ∧ (∀ q : Nat, q < H.size → ¬ A1 q → T'.heap[q]? = H[q]?) ∧ va_S A0 H0 T'.heap (locs ++ L) := by
  obtain ⟨hz, hk⟩ := hF
  rw [h0] at hz hk
  exact ⟨by rw [e1]; exact hz, fun q h1 h2 => by rw [e1]; exact hk q h1 h2,
    ⟨Nat.le_trans hS.1 (by rw [e1]; exact hz), fun q h1 h2 => by rw [e1, hk q (Nat.lt_of_lt_of_le h1 hS.1) (fun z => h2 (hA q (Nat.lt_of_lt_of_le h1 hS.1) z))]; exact hS.2.1 q h1 h2, fun q hq => by
      rcases List.mem_append.mp hq with h | h
      · exact hS.2.2 q h
      · exact hf _ (hL q h)⟩⟩
theorem vx_calli {S SX : Type} {post : Int32 → S → Prop} {px : SX → Prop} {B : S → State → Prop} {BX : String → SX → State → Prop} {AX : Nat → Prop} (hr : vx_Run p l e R s m args below meth c H locs cells slots mc ms (F0 m pc ls st0) rest (va_Qi post B A1 a) (vx_X px BX AX) free) (hS : va_S A0 H0 H locs) (hA : ∀ q, q < H.size → A1 q → A0 q) (hf : ∀ q, free q → A0 q) (hAX : ∀ q, q < H.size → AX q → A0 q)
    (kx : ∀ (E : String) (ce : Cell) (q9 : Addr) (u : SX) (t : State) (H1 : Heap) (locs1 : List Loc), t.heap = H1 → s.vm.Alike t.vm → px u → BX E u t → H.size ≤ H1.size → (∀ q : Nat, q < H.size → ¬ AX q → H1[q]? = H[q]?) → va_S A0 H0 H1 locs1 → H1[q9]? = some ce → ce.vm = .none → s.vm.findClass E = some ce.cls → vx_W p l e R s m args below meth c H1 locs1 (cells + mc) (slots + ms) Q (F0 m pc ls rest) q9)
    (kk : ∀ (r : Int32) (u : S) (t : State) (H1 : Heap) (locs1 : List Loc), t.heap = H1 → s.vm.Alike t.vm → post r u → B u t → H.size ≤ H1.size → (∀ q : Nat, q < H.size → ¬ A1 q → H1[q]? = H[q]?) → va_S A0 H0 H1 locs1 → W p l e R s m args below meth c H1 locs1 (cells + mc) (slots + ms) Q (F0 m (pc + 3) ls (.int r :: rest))) : W p l e R s m args below meth c H locs cells slots Q (F0 m pc ls st0) := by
  intro T hT X
  rcases hr T hT X with ⟨v, st₀, t, T', L, h0, X', hL, e1, e2, ⟨⟨r, u, hv, hp, hb⟩, hF⟩, st⟩ | ⟨q, st₀, t, T', L, E, ce, h0, X', hL, e1, e2, ⟨u, hp, hb, hF⟩, hce, hcv, hcl, st⟩
  · cases hv
    obtain ⟨k1, k2, k3⟩ := vx_keep h0 e1 hS hA hf hL hF
    obtain ⟨t2, a1, b1⟩ := kk r u t T'.heap (locs ++ L) e1.symm (by rw [← e2]; exact X'.warmed.alike) hp hb k1 k2 k3 T' rfl X'
    exact ⟨t2, st t2 a1, b1⟩
  · obtain ⟨k1, k2, k3⟩ := vx_keep h0 e1 hS hAX hf hL hF
    obtain ⟨t2, a1, b1⟩ := kx E ce q u t T'.heap (locs ++ L) e1.symm (by rw [← e2]; exact X'.warmed.alike) hp hb k1 k2 k3 (by rw [e1]; exact hce) hcv hcl T' rfl X'
    exact ⟨t2, st.trans a1, b1⟩
theorem vx_calll {S SX : Type} {post : Int64 → S → Prop} {px : SX → Prop} {B : S → State → Prop} {BX : String → SX → State → Prop} {AX : Nat → Prop} (hr : vx_Run p l e R s m args below meth c H locs cells slots mc ms (F0 m pc ls st0) rest (va_Ql post B A1 a) (vx_X px BX AX) free) (hS : va_S A0 H0 H locs) (hA : ∀ q, q < H.size → A1 q → A0 q) (hf : ∀ q, free q → A0 q) (hAX : ∀ q, q < H.size → AX q → A0 q)
    (kx : ∀ (E : String) (ce : Cell) (q9 : Addr) (u : SX) (t : State) (H1 : Heap) (locs1 : List Loc), t.heap = H1 → s.vm.Alike t.vm → px u → BX E u t → H.size ≤ H1.size → (∀ q : Nat, q < H.size → ¬ AX q → H1[q]? = H[q]?) → va_S A0 H0 H1 locs1 → H1[q9]? = some ce → ce.vm = .none → s.vm.findClass E = some ce.cls → vx_W p l e R s m args below meth c H1 locs1 (cells + mc) (slots + ms) Q (F0 m pc ls rest) q9)
    (kk : ∀ (r : Int64) (u : S) (t : State) (H1 : Heap) (locs1 : List Loc), t.heap = H1 → s.vm.Alike t.vm → post r u → B u t → H.size ≤ H1.size → (∀ q : Nat, q < H.size → ¬ A1 q → H1[q]? = H[q]?) → va_S A0 H0 H1 locs1 → W p l e R s m args below meth c H1 locs1 (cells + mc) (slots + ms) Q (F0 m (pc + 3) ls (.long r :: rest))) : W p l e R s m args below meth c H locs cells slots Q (F0 m pc ls st0) := by
  intro T hT X
  rcases hr T hT X with ⟨v, st₀, t, T', L, h0, X', hL, e1, e2, ⟨⟨r, u, hv, hp, hb⟩, hF⟩, st⟩ | ⟨q, st₀, t, T', L, E, ce, h0, X', hL, e1, e2, ⟨u, hp, hb, hF⟩, hce, hcv, hcl, st⟩
  · cases hv
    obtain ⟨k1, k2, k3⟩ := vx_keep h0 e1 hS hA hf hL hF
    obtain ⟨t2, a1, b1⟩ := kk r u t T'.heap (locs ++ L) e1.symm (by rw [← e2]; exact X'.warmed.alike) hp hb k1 k2 k3 T' rfl X'
    exact ⟨t2, st t2 a1, b1⟩
  · obtain ⟨k1, k2, k3⟩ := vx_keep h0 e1 hS hAX hf hL hF
    obtain ⟨t2, a1, b1⟩ := kx E ce q u t T'.heap (locs ++ L) e1.symm (by rw [← e2]; exact X'.warmed.alike) hp hb k1 k2 k3 (by rw [e1]; exact hce) hcv hcl T' rfl X'
    exact ⟨t2, st.trans a1, b1⟩
theorem vx_callf {S SX : Type} {post : UInt32 → S → Prop} {px : SX → Prop} {B : S → State → Prop} {BX : String → SX → State → Prop} {AX : Nat → Prop} (hr : vx_Run p l e R s m args below meth c H locs cells slots mc ms (F0 m pc ls st0) rest (va_Qf post B A1 a) (vx_X px BX AX) free) (hS : va_S A0 H0 H locs) (hA : ∀ q, q < H.size → A1 q → A0 q) (hf : ∀ q, free q → A0 q) (hAX : ∀ q, q < H.size → AX q → A0 q)
    (kx : ∀ (E : String) (ce : Cell) (q9 : Addr) (u : SX) (t : State) (H1 : Heap) (locs1 : List Loc), t.heap = H1 → s.vm.Alike t.vm → px u → BX E u t → H.size ≤ H1.size → (∀ q : Nat, q < H.size → ¬ AX q → H1[q]? = H[q]?) → va_S A0 H0 H1 locs1 → H1[q9]? = some ce → ce.vm = .none → s.vm.findClass E = some ce.cls → vx_W p l e R s m args below meth c H1 locs1 (cells + mc) (slots + ms) Q (F0 m pc ls rest) q9)
    (kk : ∀ (r : UInt32) (u : S) (t : State) (H1 : Heap) (locs1 : List Loc), t.heap = H1 → s.vm.Alike t.vm → post r u → B u t → H.size ≤ H1.size → (∀ q : Nat, q < H.size → ¬ A1 q → H1[q]? = H[q]?) → va_S A0 H0 H1 locs1 → W p l e R s m args below meth c H1 locs1 (cells + mc) (slots + ms) Q (F0 m (pc + 3) ls (.float r :: rest))) : W p l e R s m args below meth c H locs cells slots Q (F0 m pc ls st0) := by
  intro T hT X
  rcases hr T hT X with ⟨v, st₀, t, T', L, h0, X', hL, e1, e2, ⟨⟨r, u, hv, hp, hb⟩, hF⟩, st⟩ | ⟨q, st₀, t, T', L, E, ce, h0, X', hL, e1, e2, ⟨u, hp, hb, hF⟩, hce, hcv, hcl, st⟩
  · cases hv
    obtain ⟨k1, k2, k3⟩ := vx_keep h0 e1 hS hA hf hL hF
    obtain ⟨t2, a1, b1⟩ := kk r u t T'.heap (locs ++ L) e1.symm (by rw [← e2]; exact X'.warmed.alike) hp hb k1 k2 k3 T' rfl X'
    exact ⟨t2, st t2 a1, b1⟩
  · obtain ⟨k1, k2, k3⟩ := vx_keep h0 e1 hS hAX hf hL hF
    obtain ⟨t2, a1, b1⟩ := kx E ce q u t T'.heap (locs ++ L) e1.symm (by rw [← e2]; exact X'.warmed.alike) hp hb k1 k2 k3 (by rw [e1]; exact hce) hcv hcl T' rfl X'
    exact ⟨t2, st.trans a1, b1⟩
theorem vx_calld {S SX : Type} {post : UInt64 → S → Prop} {px : SX → Prop} {B : S → State → Prop} {BX : String → SX → State → Prop} {AX : Nat → Prop} (hr : vx_Run p l e R s m args below meth c H locs cells slots mc ms (F0 m pc ls st0) rest (va_Qd post B A1 a) (vx_X px BX AX) free) (hS : va_S A0 H0 H locs) (hA : ∀ q, q < H.size → A1 q → A0 q) (hf : ∀ q, free q → A0 q) (hAX : ∀ q, q < H.size → AX q → A0 q)
    (kx : ∀ (E : String) (ce : Cell) (q9 : Addr) (u : SX) (t : State) (H1 : Heap) (locs1 : List Loc), t.heap = H1 → s.vm.Alike t.vm → px u → BX E u t → H.size ≤ H1.size → (∀ q : Nat, q < H.size → ¬ AX q → H1[q]? = H[q]?) → va_S A0 H0 H1 locs1 → H1[q9]? = some ce → ce.vm = .none → s.vm.findClass E = some ce.cls → vx_W p l e R s m args below meth c H1 locs1 (cells + mc) (slots + ms) Q (F0 m pc ls rest) q9)
    (kk : ∀ (r : UInt64) (u : S) (t : State) (H1 : Heap) (locs1 : List Loc), t.heap = H1 → s.vm.Alike t.vm → post r u → B u t → H.size ≤ H1.size → (∀ q : Nat, q < H.size → ¬ A1 q → H1[q]? = H[q]?) → va_S A0 H0 H1 locs1 → W p l e R s m args below meth c H1 locs1 (cells + mc) (slots + ms) Q (F0 m (pc + 3) ls (.double r :: rest))) : W p l e R s m args below meth c H locs cells slots Q (F0 m pc ls st0) := by
  intro T hT X
  rcases hr T hT X with ⟨v, st₀, t, T', L, h0, X', hL, e1, e2, ⟨⟨r, u, hv, hp, hb⟩, hF⟩, st⟩ | ⟨q, st₀, t, T', L, E, ce, h0, X', hL, e1, e2, ⟨u, hp, hb, hF⟩, hce, hcv, hcl, st⟩
  · cases hv
    obtain ⟨k1, k2, k3⟩ := vx_keep h0 e1 hS hA hf hL hF
    obtain ⟨t2, a1, b1⟩ := kk r u t T'.heap (locs ++ L) e1.symm (by rw [← e2]; exact X'.warmed.alike) hp hb k1 k2 k3 T' rfl X'
    exact ⟨t2, st t2 a1, b1⟩
  · obtain ⟨k1, k2, k3⟩ := vx_keep h0 e1 hS hAX hf hL hF
    obtain ⟨t2, a1, b1⟩ := kx E ce q u t T'.heap (locs ++ L) e1.symm (by rw [← e2]; exact X'.warmed.alike) hp hb k1 k2 k3 (by rw [e1]; exact hce) hcv hcl T' rfl X'
    exact ⟨t2, st.trans a1, b1⟩
theorem vx_callv {S SX : Type} {post : S → Prop} {px : SX → Prop} {B : S → State → Prop} {BX : String → SX → State → Prop} {AX : Nat → Prop} (hr : vx_Run p l e R s m args below meth c H locs cells slots mc ms (F0 m pc ls st0) rest (va_Qv post B A1 a) (vx_X px BX AX) free) (hS : va_S A0 H0 H locs) (hA : ∀ q, q < H.size → A1 q → A0 q) (hf : ∀ q, free q → A0 q) (hAX : ∀ q, q < H.size → AX q → A0 q)
    (kx : ∀ (E : String) (ce : Cell) (q9 : Addr) (u : SX) (t : State) (H1 : Heap) (locs1 : List Loc), t.heap = H1 → s.vm.Alike t.vm → px u → BX E u t → H.size ≤ H1.size → (∀ q : Nat, q < H.size → ¬ AX q → H1[q]? = H[q]?) → va_S A0 H0 H1 locs1 → H1[q9]? = some ce → ce.vm = .none → s.vm.findClass E = some ce.cls → vx_W p l e R s m args below meth c H1 locs1 (cells + mc) (slots + ms) Q (F0 m pc ls rest) q9)
    (kk : ∀ (u : S) (t : State) (H1 : Heap) (locs1 : List Loc), t.heap = H1 → s.vm.Alike t.vm → post u → B u t → H.size ≤ H1.size → (∀ q : Nat, q < H.size → ¬ A1 q → H1[q]? = H[q]?) → va_S A0 H0 H1 locs1 → W p l e R s m args below meth c H1 locs1 (cells + mc) (slots + ms) Q (F0 m (pc + 3) ls (rest))) : W p l e R s m args below meth c H locs cells slots Q (F0 m pc ls st0) := by
  intro T hT X
  rcases hr T hT X with ⟨v, st₀, t, T', L, h0, X', hL, e1, e2, ⟨⟨u, hv, hp, hb⟩, hF⟩, st⟩ | ⟨q, st₀, t, T', L, E, ce, h0, X', hL, e1, e2, ⟨u, hp, hb, hF⟩, hce, hcv, hcl, st⟩
  · cases hv
    obtain ⟨k1, k2, k3⟩ := vx_keep h0 e1 hS hA hf hL hF
    obtain ⟨t2, a1, b1⟩ := kk u t T'.heap (locs ++ L) e1.symm (by rw [← e2]; exact X'.warmed.alike) hp hb k1 k2 k3 T' rfl X'
    exact ⟨t2, st t2 a1, b1⟩
  · obtain ⟨k1, k2, k3⟩ := vx_keep h0 e1 hS hAX hf hL hF
    obtain ⟨t2, a1, b1⟩ := kx E ce q u t T'.heap (locs ++ L) e1.symm (by rw [← e2]; exact X'.warmed.alike) hp hb k1 k2 k3 (by rw [e1]; exact hce) hcv hcl T' rfl X'
    exact ⟨t2, st.trans a1, b1⟩
/-- caught by the row x of this method's table; the rows ahead don't take it -/
theorem vx_catch {own name : String} {E : String} {ce : Cell} {q : Addr} (hown : s.vm.findClass own = some m.cls) (pre : List ExceptionTableEntry) (x : ExceptionTableEntry) (suf : List ExceptionTableEntry) (hsplit : c.exceptionTable.toList = pre ++ x :: suf)
    (hpass : ∀ z ∈ pre, covers z pc = false ∨ (z.catchType ≠ 0 ∧ ∃ nm : String, (Cond.classLink own z.catchType nm).before args s = true ∧ va_Nc E nm s)) (hx : covers x pc = true) (h0 : x.catchType ≠ 0)
    (hlink : (Cond.classLink own x.catchType name).before args s = true) (hcast : (Cond.castable E name).before args s = true) (hcell : H[q]? = some ce) (hv : ce.vm = .none) (hcl : s.vm.findClass E = some ce.cls)
    (kk : W p l e R s m args below meth c H locs cells slots Q (F0 m x.handlerPc ls [.ref q])) : vx_W p l e R s m args below meth c H locs cells slots Q (F0 m pc ls rest) q := by
  intro T hT X
  have hpl : e.platform.magicAccessors = ({} : Platform).magicAccessors := by rw [X.admits.platform]
  obtain ⟨c3, c4, hc3, hc4, hasg⟩ := Cond.castable_spec hcast
  cases Option.some.inj (hc3.symm.trans hcl)
  obtain ⟨c5, hc5, hcl5⟩ := Cond.classLink_spec hown hlink e.platform hpl
  cases Option.some.inj (hc4.symm.trans hc5)
  obtain ⟨vm', X', st⟩ := X.thenCaughtThrough q (g := F0 m pc ls rest) rfl (Steps.refl _) (by rw [hT]; exact hcell) (by rw [hv]; rfl) (by obtain ⟨k9, h9, -⟩ := Vm.findClass_spec hcl; exact ⟨k9, h9⟩) pre x suf hsplit
    (fun z hz => by
      rcases hpass z hz with h | ⟨hz0, nm, hl1, hn1⟩
      · exact Or.inl h
      · obtain ⟨c6, hc6, hcl6⟩ := Cond.classLink_spec hown hl1 e.platform hpl
        obtain ⟨a8, b8, h1, h2, h3⟩ := hn1
        cases Option.some.inj (h1.symm.trans hcl)
        cases Option.some.inj (h2.symm.trans hc6)
        exact Or.inr ⟨hz0, _, hcl6, h3⟩) hx (Or.inr ⟨h0, c4, hcl5, hasg⟩)
  obtain ⟨t, a1, b1⟩ := kk (T.setVm vm') hT X'
  exact ⟨t, st.trans a1, b1⟩
end Rows
section Ends
variable {p : Program} {l : Launch} {e : Env} {R : Room} {s : State} {m : MethodId} {args : Array Value} {below : List Frame} {meth : Method} {c : Code} {H : Heap} {locs : List Loc} {cells slots : Nat} {Q : State → Prop}
variable {mc ms : Nat} {free : Addr → Prop} {A0 A1 : Nat → Prop} {H0 : Heap} {a : Array Value} {ls : Array Slot} {st0 rest : List Value}
variable {Qc : Array Value → State → Outcome → State → Prop} {XC : String → State → State → Prop}
/-- what a body that may throw owes at its end -/
def vx_MQ (below : List Frame) (Qc : Array Value → State → Outcome → State → Prop) (XC : String → State → State → Prop) (a : Array Value) (s : State) (mc ms : Nat) (free : Addr → Prop) : State → Prop := fun t =>
  ∃ o, t.status = .running ∧ Ended t below o ∧ vx_Q Qc XC mc ms free a s o t
theorem vx_ret {g : JFrame} {mc ms : Nat} (k : W p l e R s m args below meth c H locs cells slots (MQ below Qc args s mc ms free) g) : W p l e R s m args below meth c H locs cells slots (vx_MQ below Qc XC args s mc ms free) g := by
  intro T hT X
  obtain ⟨t, a1, o, b1, b2, b3, b4⟩ := k T hT X
  exact ⟨t, a1, o, b1, b2, Or.inl ⟨b3, b4⟩⟩
/-- not caught here: it goes on to the caller -/
theorem vx_widen {g : JFrame} {q : Addr} {k n : Nat} (h1 : cells ≤ k) (h2 : slots ≤ n) (kk : vx_W p l e R s m args below meth c H locs k n Q g q) : vx_W p l e R s m args below meth c H locs cells slots Q g q := fun T hT X => kk T hT (stand_widen X h1 h2)
theorem vx_out {pc : Nat} {E : String} {ce : Cell} {q : Addr} {mc ms : Nat} (hout : ∀ x ∈ c.exceptionTable.toList, covers x pc = false) (hlocks : meth.locks = false) (hcell : H[q]? = some ce) (hv : ce.vm = .none) (hcl : s.vm.findClass E = some ce.cls)
    (hx : ∀ t : State, t.heap = H → s.vm.Alike t.vm → XC E s t) (hf : ∀ z ∈ locs, free z.base) (hc : cells ≤ mc) (hs : slots ≤ ms) :
    vx_W p l e R s m args below meth c H locs cells slots (vx_MQ below Qc XC args s mc ms free) (F0 m pc ls rest) q := by
  intro T hT X
  obtain ⟨st1, hrun, hend, hW, hsm⟩ := X.leaveThrown q (g := F0 m pc ls rest) rfl rfl rfl hout hlocks
  have hcell9 : (T.setFrames (.throwing q :: below)).heap[q]? = some ce := by
    show T.heap[q]? = some ce
    rw [hT]; exact hcell
  exact ⟨_, st1, .threw q, hrun, hend, Or.inr ⟨q, rfl, E, ce, locs, hx _ hT hW.alike, hcell9, hv, hcl, hW, hsm.mono hc hs, hf⟩⟩
theorem vx_frame {U : State} {k n : Nat} (h : s.sameButNew ({ U with vm := s.vm } : State) locs k n) : s.heap.size ≤ U.heap.size ∧ ∀ q : Nat, q < s.heap.size → (∀ z ∈ locs, z.base ≠ q) → U.heap[q]? = s.heap[q]? := by
  obtain ⟨-, h2, -, -, -, h6⟩ := h
  refine ⟨h2, fun q hq hz => ?_⟩
  obtain ⟨c9, e1, e2, e3, e4⟩ := h6 q _ (Array.getElem?_eq_getElem hq)
  have hs : c9.slots = (s.heap[q]).slots := Array.ext_getElem? fun i => e4 i fun hm => hz _ hm rfl
  have h9 : c9 = s.heap[q] := by
    rw [hs] at e2
    exact e2
  have e5 : U.heap[q]? = some c9 := e1
  rw [e5, h9, Array.getElem?_eq_getElem hq]
/-- the words of a throw but the four that speak of the heap -/
def vx_no (w : Cond) : Bool := decide (w ≠ .isRef (.static Bundle.tN "UNASSIGNED_STACK" Bundle.steD)) && decide (w ≠ .isRef (.static Bundle.tN "SUPPRESSED_SENTINEL" Bundle.listD)) && decide (w ≠ .laysStatic Bundle.tN "UNASSIGNED_STACK" Bundle.steD) && decide (w ≠ .laysStatic Bundle.tN "SUPPRESSED_SENTINEL" Bundle.listD)
def vx_at0 (own : String) (ic : Nat) (X : String) (names : List String) : List Cond := (Bundle.ownAtoms0 own ic X names).filter vx_no
def vx_atS (own : String) (ic : Nat) (X : String) (names : List String) : List Cond := (Bundle.ownAtoms own ic X names).filter vx_no
/-- a word that the tables alone decide, or a good one -/
def vx_ot (w : Cond) : Bool := w.onTables || goodWord w
theorem vx_ot_at {args a' : Array Value} {s U : State} {w : Cond} (hW : s.WarmedH U.vm) (hvm : s.vm = U.vm) (hg : vx_ot w = true) (h : w.before args s = true) : w.before a' U = true := by
  simp only [vx_ot, Bool.or_eq_true] at hg
  rcases hg with hg | hg
  · exact va_tabs hg hvm h
  · exact word_at hW (good_of_word hg) h
/-- a list's words: the good ones out of the method's own list, the others by premises of their own -/
theorem vx_hat {args : Array Value} {s : State} {L B : List Cond} (h1 : ∀ w ∈ L.filter goodWord, w.before args s = true) (h2 : ∀ w ∈ L.filter (fun w => !goodWord w), w ∈ B) (h3 : ∀ w ∈ B, w.before args s = true) : ∀ w ∈ L, w.before args s = true := by
  intro w hw
  by_cases g : goodWord w = true
  · exact h1 w (List.mem_filter.mpr ⟨hw, g⟩)
  · refine h3 w (h2 w (List.mem_filter.mpr ⟨hw, ?_⟩))
    show (!goodWord w) = true
    cases hgw : goodWord w
    · rfl
    · exact absurd hgw g
theorem vx_c {args : Array Value} {s : State} {w : Cond} {B : List Cond} (h : w.before args s = true) (t : ∀ w ∈ B, w.before args s = true) : ∀ w' ∈ w :: B, w'.before args s = true := fun w' h' => (List.mem_cons.mp h').elim (fun e => by rw [e]; exact h) (t w')
theorem vx_n {args : Array Value} {s : State} : ∀ w ∈ ([] : List Cond), w.before args s = true := fun _ h => nomatch h
theorem vx_own {args : Array Value} {s : State} {L : List Cond} (h1 : ∀ w ∈ L.filter vx_no, w.before args s = true)
    (hU : (Cond.isRef (.static Bundle.tN "UNASSIGNED_STACK" Bundle.steD)).before args s = true) (hN : (Cond.isRef (.static Bundle.tN "SUPPRESSED_SENTINEL" Bundle.listD)).before args s = true)
    (lU : (Cond.laysStatic Bundle.tN "UNASSIGNED_STACK" Bundle.steD).before args s = true) (lN : (Cond.laysStatic Bundle.tN "SUPPRESSED_SENTINEL" Bundle.listD).before args s = true) : ∀ w ∈ L, w.before args s = true := by
  intro w hw
  by_cases e1 : w = .isRef (.static Bundle.tN "UNASSIGNED_STACK" Bundle.steD)
  · rw [e1]; exact hU
  · by_cases e2 : w = .isRef (.static Bundle.tN "SUPPRESSED_SENTINEL" Bundle.listD)
    · rw [e2]; exact hN
    · by_cases e3 : w = .laysStatic Bundle.tN "UNASSIGNED_STACK" Bundle.steD
      · rw [e3]; exact lU
      · by_cases e4 : w = .laysStatic Bundle.tN "SUPPRESSED_SENTINEL" Bundle.listD
        · rw [e4]; exact lN
        · exact h1 w (List.mem_filter.mpr ⟨hw, by unfold vx_no; rw [decide_eq_true e1, decide_eq_true e2, decide_eq_true e3, decide_eq_true e4]; rfl⟩)
/-- where a static field lies, its class's statics cell in H -/
def vx_L (C n d : String) (A : Nat → Prop) (U : State) (H : Heap) : Prop := ∃ (c : ClassId) (k : Class) (i : Nat) (f : Field) (a : Nat) (cell : Cell), U.vm.findClass C = some c ∧ U.fieldFound? C n d = some (c, k, i, f) ∧ f.isStatic = true ∧ k.statics = some a ∧ H[a]? = some cell ∧ cell.vm.isStatics = true ∧ cell.cls = c ∧ f.slot < cell.slots.size ∧ k.staticTypes[f.slot]? = some f.type ∧ ¬ A a
theorem vx_L.moved {C n d : String} {A : Nat → Prop} {u U : State} {H : Heap} (hvm : u.vm.Alike U.vm) (h : vx_L C n d A u H) : vx_L C n d A U H := by
  obtain ⟨c, k, i, f, a, cell, h1, h2, h3, h4, h5, h6, h7, h8, h9, h10⟩ := h
  obtain ⟨k', hi', he⟩ := State.fieldFound?_setVm hvm h2
  exact ⟨c, k', i, f, a, cell, by rw [hvm.findClass]; exact h1, hi', h3, by rw [he]; exact h4, h5, h6, h7, h8, by rw [he]; exact h9, h10⟩
theorem vx_L.kept {C n d : String} {A : Nat → Prop} {U : State} {H H1 : Heap} (h : vx_L C n d A U H) (hq : ∀ a : Nat, a < H.size → ¬ A a → H1[a]? = H[a]?) : vx_L C n d A U H1 := by
  obtain ⟨c, k, i, f, a, cell, h1, h2, h3, h4, h5, h6, h7, h8, h9, h10⟩ := h
  exact ⟨c, k, i, f, a, cell, h1, h2, h3, h4, by rw [hq a (Array.getElem?_eq_some_iff.mp h5).1 h10]; exact h5, h6, h7, h8, h9, h10⟩
theorem vx_L.narrow {C n d : String} {A B : Nat → Prop} {U : State} {H : Heap} (h : vx_L C n d A U H) (hAB : ∀ q, B q → A q) : vx_L C n d B U H := by
  obtain ⟨c, k, i, f, a, cell, h1, h2, h3, h4, h5, h6, h7, h8, h9, h10⟩ := h
  exact ⟨c, k, i, f, a, cell, h1, h2, h3, h4, h5, h6, h7, h8, h9, fun z => h10 (hAB _ z)⟩
theorem vx_L.word {C n d : String} {A : Nat → Prop} {s : State} {args : Array Value} (h : vx_L C n d A s s.heap) : (Cond.laysStatic C n d).before args s = true := by
  obtain ⟨c, k, i, f, a, cell, h1, h2, h3, h4, h5, h6, h7, h8, h9, -⟩ := h
  show (Cond.laysStatic C n d).holds args s none s [] = true
  exact Cond.laysStatic_of h1 h2 h3 h4 h5 h6 h7 h8 h9
/-- .. and what it holds: null or some reference -/
def vx_Zq (C n d : String) (A : Nat → Prop) (U : State) (H : Heap) : Prop := va_Zq C n d A U H ∧ vx_L C n d A U H
theorem vx_Zq.moved {C n d : String} {A : Nat → Prop} {u U : State} {H : Heap} (hvm : u.vm.Alike U.vm) (h : vx_Zq C n d A u H) : vx_Zq C n d A U H := ⟨va_Zq.moved hvm h.1, vx_L.moved hvm h.2⟩
theorem vx_Zq.kept {C n d : String} {A : Nat → Prop} {U : State} {H H1 : Heap} (h : vx_Zq C n d A U H) (hq : ∀ a : Nat, a < H.size → ¬ A a → H1[a]? = H[a]?) : vx_Zq C n d A U H1 := ⟨va_Zq.kept h.1 hq, vx_L.kept h.2 hq⟩
theorem vx_Zq.narrow {C n d : String} {A B : Nat → Prop} {U : State} {H : Heap} (h : vx_Zq C n d A U H) (hAB : ∀ q, B q → A q) : vx_Zq C n d B U H := ⟨va_Zq.narrow h.1 hAB, vx_L.narrow h.2 hAB⟩
theorem vx_Zqof {args : Array Value} {s : State} {C n d : String} {A : Nat → Prop} (hl : (Cond.laysStatic C n d).before args s = true) (hini : (Cond.initialized C).before args s = true) (h : (Cond.isRef (.static C n d)).before args s = true) (hA : ∀ a : Nat, a < s.heap.size → ¬ A a) : vx_Zq C n d A s s.heap := by
  refine ⟨va_Zqof hl hini h hA, ?_⟩
  obtain ⟨c, k, i, f, a, cell, h1, h2, h3, h4, h5, h6, h7, h8, h9⟩ := Cond.laysStatic_spec hl
  exact ⟨c, k, i, f, a, cell, h1, h2, h3, h4, h5, h6, h7, h8, h9, hA a (Array.getElem?_eq_some_iff.mp h5).1⟩
theorem vx_isRef {C n d : String} {v : Value} {A : Nat → Prop} {s : State} {args : Array Value} (h : va_Z C n d v A s s.heap) (hv : v.isRef = true) : (Cond.isRef (.static C n d)).before args s = true := by
  obtain ⟨cf, kf, fi, f, a, cell, h1, h2, h3, h4, h5, h6, h7, -⟩ := h
  have he : (Term.static C n d).eval args s none [] s = some v := by
    simp [Term.eval, State.fieldNamed?, h1, h2, h4, h5, h6, h7]
  simp only [Cond.before, Cond.holds, Cond.value, he]
  cases v <;> simp_all [Value.isRef]
theorem vx_isRefq {C n d : String} {A : Nat → Prop} {s : State} {args : Array Value} (h : va_Zq C n d A s s.heap) : (Cond.isRef (.static C n d)).before args s = true := by
  rcases h with h | ⟨t, h⟩
  · exact vx_isRef h rfl
  · exact vx_isRef h rfl
/-- the same frame, seen from here: as if the method were called anew in this heap -/
theorem vx_rebase {T : State} (X : Stand p l e R s m args below meth c T locs cells slots) {R' : Room} (hf : R'.frames ≤ R.frames) (hl : R'.locals ≤ R.locals) (hc : cells + R'.cells ≤ R.cells) (hs : slots + R'.slots ≤ R.slots) :
    Stand p l e R' ((T.setVm s.vm).setFrames (.invoking m args :: below)) m args below meth c T [] 0 0 := by
  have htop : (T.setVm s.vm).topJava?.isSome := X.here.top
  have hF : ((T.setVm s.vm).setFrames (.invoking m args :: below)).frames = .invoking m args :: below := State.frames_setFrames _ (State.cur_lt_of_top htop)
  obtain ⟨g₀, hg0⟩ := Option.isSome_iff_exists.mp htop
  obtain ⟨r, hr⟩ := State.topJava?_eq_some.mp hg0
  have hl9 : e.platform.stackLimits (T.setVm s.vm).me = e.platform.stackLimits s.me := X.limits
  have hb9 : (T.setVm s.vm).me.stackBytes = s.me.stackBytes := X.bytes
  refine ⟨X.admits, X.cas, X.clock, hF, ?_, X.hears, X.method, X.code, X.here, X.tail, X.warmed, ?_, ?_, ?_⟩
  · have h := X.room
    have hU : ((T.setVm s.vm).setFrames (.invoking m args :: below)).localsInUse = s.localsInUse := by
      rw [State.localsInUse_invoking hF (meth := meth) (c := c) X.method X.code, State.localsInUse_invoking X.frames X.method X.code]
    simp only [State.hasRoom, Bool.and_eq_true, decide_eq_true_eq] at h ⊢
    obtain ⟨⟨⟨⟨h1, h2, h3, h4, h5, h6⟩, h7⟩, h8⟩, h9⟩ := h
    rw [X.frames, List.length_cons] at h2 h3
    have q1 := X.heapSize
    have q2 := X.used
    simp only [hF, hU, List.length_cons, State.stackLimits_setFrames, State.stackBytes_setFrames, hl9, hb9]
    refine ⟨⟨⟨⟨by omega, by omega, by omega, by omega, by omega, h6⟩, ?_⟩, ?_⟩, X.book⟩
    · show T.heap.size + R'.cells ≤ e.platform.maxCells
      omega
    · show T.slotsUsed + R'.slots ≤ e.platform.maxSlots
      omega
  · rw [State.stackLimits_setFrames]; rfl
  · rw [State.stackBytes_setFrames]; rfl
  · refine ⟨?_, Nat.le_refl _, Nat.le_refl _, ?_, ?_, fun a c9 h9 => ⟨c9, h9, rfl, rfl, fun _ _ => rfl⟩⟩
    · obtain ⟨t, ht, -⟩ := State.frames_cons hr
      show T.setVm s.vm = { ((T.setVm s.vm).setFrames (.invoking m args :: below)).setFrames (T.setVm s.vm).frames with heap := T.heap, slotsUsed := T.slotsUsed }
      rw [State.setFrames_setFrames, State.setFrames_self ht]
      rfl
    · show T.slotsUsed = T.slotsUsed + ((T.heap.toList.drop T.heap.size).map (·.slots.size)).sum
      rw [List.drop_eq_nil_of_le (Nat.le_of_eq Array.length_toList)]
      rfl
    · show ((T.heap.toList.drop T.heap.size).map (·.slots.size)).sum ≤ 0
      rw [List.drop_eq_nil_of_le (Nat.le_of_eq Array.length_toList)]
      exact Nat.le_refl _
/-- 'throw new E()': new; dup; invokespecial; athrow -/
theorem vx_throw0 {cc : ByteArray} {pc : Nat} (hexec : p.tables.exec = Jvm.exec) (hb : c.code = cc) (hl : l.stackTraces = false) {own cls : String} {names : List String} {ik ic mc ms : Nat} {A : Nat → Prop}
    (hown : s.vm.findClass own = some m.cls) (hcls : Bundle.fit cls = true) (hnames : ∀ n ∈ names, Bundle.fit n = true)
    (hk : (Cond.classLink own ik cls).before args s = true) (hini : (Cond.initialized cls).before args s = true) (hat : ∀ w ∈ vx_at0 own ic cls names, w.before args s = true)
    (hgood : ∀ w ∈ Cond.classLink own ik cls :: Cond.initialized cls :: vx_at0 own ic cls names, vx_ot w = true)
    (hU : vx_Zq Bundle.tN "UNASSIGNED_STACK" Bundle.steD A s s.heap) (hN : vx_Zq Bundle.tN "SUPPRESSED_SENTINEL" Bundle.listD A s s.heap) (hS : va_S A s.heap H locs) (hsize : ls.size = c.maxLocals)
    (d0 : decode cc pc = .ok (.new ik, 3)) (d3 : decode cc (pc + 3) = .ok (.dup, 1)) (d4 : decode cc (pc + 4) = .ok (.invokespecial ic, 3)) (d7 : decode cc (pc + 7) = .ok (.athrow, 1))
    (hout : ∀ x ∈ c.exceptionTable.toList, covers x (pc + 7) = false)
    (hRframes : names.length + 3 < R.frames) (hRlocals : (rest.map fun v => v.category).sum + (13 * (names.length + 1) + 42) ≤ R.locals) (hRcells : cells + 1 ≤ R.cells) (hRslots : slots + 6 ≤ R.slots) (hlocks : meth.locks = false)
    (hx : ∀ t : State, s.vm.Alike t.vm → H.size ≤ t.heap.size → (∀ q : Nat, q < H.size → t.heap[q]? = H[q]?) → XC cls s t)
    (hf : ∀ z ∈ locs, free z.base) (hc : cells + 1 ≤ mc) (hs : slots + 6 ≤ ms) :
    W p l e R s m args below meth c H locs cells slots (vx_MQ below Qc XC args s mc ms free) (F0 m pc ls rest) := by
  intro T hT X
  have htr : e.platform.stackTraces = false := (show e.platform.stackTraces = l.stackTraces by rw [X.admits.platform]).trans hl
  have Y := vx_rebase X (R' := { frames := R.frames, locals := R.locals, cells := 1, slots := 6 }) (Nat.le_refl _) (Nat.le_refl _) hRcells hRslots
  obtain ⟨s', hA⟩ : ∃ z, z = (T.setVm s.vm).setFrames (.invoking m args :: below) := ⟨_, rfl⟩
  rw [← hA] at Y
  have hvm : s'.vm = s.vm := by rw [hA]; rfl
  have hhp : s'.heap = H := by rw [hA]; exact hT
  have hW0 : s.WarmedH s'.vm := by rw [hvm]; exact State.WarmedH.refl s
  have hat' : ∀ w ∈ vx_at0 own ic cls names, w.before args s' = true := fun w hw => vx_ot_at hW0 hvm.symm (hgood w (List.mem_cons_of_mem _ (List.mem_cons_of_mem _ hw))) (hat w hw)
  have hk' : (Cond.classLink own ik cls).before args s' = true := vx_ot_at hW0 hvm.symm (hgood _ List.mem_cons_self) hk
  have hini' : (Cond.initialized cls).before args s' = true := vx_ot_at hW0 hvm.symm (hgood _ (List.mem_cons_of_mem _ List.mem_cons_self)) hini
  have hU' : vx_Zq Bundle.tN "UNASSIGNED_STACK" Bundle.steD A s' s'.heap := by rw [hhp]; exact vx_Zq.moved hW0.alike (hU.kept hS.2.1)
  have hN' : vx_Zq Bundle.tN "SUPPRESSED_SENTINEL" Bundle.listD A s' s'.heap := by rw [hhp]; exact vx_Zq.moved hW0.alike (hN.kept hS.2.1)
  have h : ∀ w ∈ Bundle.ownAtoms0 own ic cls names, w.before args s' = true := vx_own hat' (vx_isRefq hU'.1) (vx_isRefq hN'.1) hU'.2.word hN'.2.word
  have hown' : s'.vm.findClass own = some m.cls := by rw [hvm]; exact hown
  have hins : (Cond.instantiable cls 6).before args s' = true := h _ (by simp [Bundle.ownAtoms0])
  obtain ⟨vm₁, cX, kX, hfX, hkX, -, -, X₁, st1⟩ := Y.newCold hexec (own := own) (C := cls) (index := ik) (n := 6) hown' hk' hins hini'
    (g := F0 m pc ls rest) rfl (by rw [hb]; exact d0) (Nat.le_refl _) (Nat.le_refl _)
  generalize hT1 : (T.setVm vm₁).pushCell { cls := cX, slots := kX.instanceTypes.map defaultValue, vm := .none } = T1 at X₁ st1
  have hcat : (Value.ref T.heap.size).category = 1 := rfl
  have hcellA : T1.heap[T.heap.size]? = some (freshCell cX kX) := by rw [← hT1]; exact State.heap_pushCell_size _ _
  have d3' : decode c.code (pc + 3) = .ok (.dup, 1) := by rw [hb]; exact d3
  obtain ⟨U, hsteps, hrun, hend, hW, hsame, ce, hce, hO⟩ := X₁.ctorThrow0 hexec htr (own := own) (cls := cls) (names := names) (ic := ic) hown' hcls hnames h (fun x hx => nomatch hx) hfX hkX hcellA (by rw [hhp, hT]; exact Nat.le_refl _)
    (g := { method := m, pc := pc + 4, locals := ls, stack := .ref T.heap.size :: .ref T.heap.size :: rest, locked := none }) rfl hsize rfl rfl (rest := rest) rfl
    (by rw [hb]; exact d4) (by rw [hb]; exact d7) hout hRframes (by simp only [List.map_cons, List.sum_cons, hcat]; omega) hlocks
  obtain ⟨f1, f2⟩ := vx_frame hsame
  rw [hhp] at f1 f2
  have hWs : s.WarmedH U.vm := State.WarmedH.trans hW0 hW
  have hcl : s.vm.findClass cls = some ce.cls := by
    have h9 := hO.cls
    rw [hvm] at h9
    exact h9
  have hall : s.sameButNew ({ U with vm := s.vm } : State) locs mc ms := by
    subst hA
    obtain ⟨e1, e2⟩ := hsame
    rw [State.setFrames_setFrames] at e1
    have h2 : (T.setVm s.vm).sameButNew ({ U with vm := s.vm } : State) [] (0 + 1) (0 + 6) := ⟨e1, e2⟩
    have h3 := X.same.trans h2
    rw [List.append_nil] at h3
    exact h3.mono hc hs
  refine ⟨U, ?_, .threw T.heap.size, hrun, hend, Or.inr ⟨T.heap.size, rfl, cls, ce, locs, hx U hWs.alike f1 (fun q hq => f2 q hq (fun z hz => nomatch hz)), hce, hO.vm, hcl, hWs, hall, hf⟩⟩
  refine st1 _ ?_
  show Steps p.tables e below (T1.setTop { method := m, pc := pc + 3, locals := ls, stack := .ref T.heap.size :: rest, locked := none }) _
  jvm_step X₁.here [X₁.here.top, hexec, d3', Value.category]
  exact hsteps
/-- 'throw new E("text")': new; dup; ldc; invokespecial; athrow -/
theorem vx_throwS {cc : ByteArray} {pc : Nat} (hexec : p.tables.exec = Jvm.exec) (hb : c.code = cc) (hl : l.stackTraces = false) {own cls text : String} {names : List String} {ik is ic mc ms sa : Nat} {A : Nat → Prop}
    (hown : s.vm.findClass own = some m.cls) (hcls : Bundle.fit cls = true) (hnames : ∀ n ∈ names, Bundle.fit n = true)
    (hk : (Cond.classLink own ik cls).before args s = true) (hini : (Cond.initialized cls).before args s = true) (hstr : vk_R own is text sa s) (hat : ∀ w ∈ vx_atS own ic cls names, w.before args s = true)
    (hgood : ∀ w ∈ Cond.classLink own ik cls :: Cond.initialized cls :: vx_atS own ic cls names, vx_ot w = true)
    (hU : vx_Zq Bundle.tN "UNASSIGNED_STACK" Bundle.steD A s s.heap) (hN : vx_Zq Bundle.tN "SUPPRESSED_SENTINEL" Bundle.listD A s s.heap) (hS : va_S A s.heap H locs) (hsize : ls.size = c.maxLocals)
    (d0 : decode cc pc = .ok (.new ik, 3)) (d3 : decode cc (pc + 3) = .ok (.dup, 1)) (d4 : decode cc (pc + 4) = .ok (.ldc is, 2)) (d6 : decode cc (pc + 6) = .ok (.invokespecial ic, 3)) (d9 : decode cc (pc + 9) = .ok (.athrow, 1))
    (hout : ∀ x ∈ c.exceptionTable.toList, covers x (pc + 9) = false)
    (hRframes : names.length + 3 < R.frames) (hRlocals : (rest.map fun v => v.category).sum + (13 * (names.length + 1) + 43) ≤ R.locals) (hRcells : cells + 1 ≤ R.cells) (hRslots : slots + 6 ≤ R.slots) (hlocks : meth.locks = false)
    (hx : ∀ t : State, s.vm.Alike t.vm → H.size ≤ t.heap.size → (∀ q : Nat, q < H.size → t.heap[q]? = H[q]?) → XC cls s t)
    (hf : ∀ z ∈ locs, free z.base) (hc : cells + 1 ≤ mc) (hs : slots + 6 ≤ ms) :
    W p l e R s m args below meth c H locs cells slots (vx_MQ below Qc XC args s mc ms free) (F0 m pc ls rest) := by
  intro T hT X
  have htr : e.platform.stackTraces = false := (show e.platform.stackTraces = l.stackTraces by rw [X.admits.platform]).trans hl
  have Y := vx_rebase X (R' := { frames := R.frames, locals := R.locals, cells := 1, slots := 6 }) (Nat.le_refl _) (Nat.le_refl _) hRcells hRslots
  obtain ⟨s', hA⟩ : ∃ z, z = (T.setVm s.vm).setFrames (.invoking m args :: below) := ⟨_, rfl⟩
  rw [← hA] at Y
  have hvm : s'.vm = s.vm := by rw [hA]; rfl
  have hhp : s'.heap = H := by rw [hA]; exact hT
  have hW0 : s.WarmedH s'.vm := by rw [hvm]; exact State.WarmedH.refl s
  have hat' : ∀ w ∈ vx_atS own ic cls names, w.before args s' = true := fun w hw => vx_ot_at hW0 hvm.symm (hgood w (List.mem_cons_of_mem _ (List.mem_cons_of_mem _ hw))) (hat w hw)
  have hk' : (Cond.classLink own ik cls).before args s' = true := vx_ot_at hW0 hvm.symm (hgood _ List.mem_cons_self) hk
  have hini' : (Cond.initialized cls).before args s' = true := vx_ot_at hW0 hvm.symm (hgood _ (List.mem_cons_of_mem _ List.mem_cons_self)) hini
  have hU' : vx_Zq Bundle.tN "UNASSIGNED_STACK" Bundle.steD A s' s'.heap := by rw [hhp]; exact vx_Zq.moved hW0.alike (hU.kept hS.2.1)
  have hN' : vx_Zq Bundle.tN "SUPPRESSED_SENTINEL" Bundle.listD A s' s'.heap := by rw [hhp]; exact vx_Zq.moved hW0.alike (hN.kept hS.2.1)
  have h : ∀ w ∈ Bundle.ownAtoms own ic cls names, w.before args s' = true := vx_own hat' (vx_isRefq hU'.1) (vx_isRefq hN'.1) hU'.2.word hN'.2.word
  have hown' : s'.vm.findClass own = some m.cls := by rw [hvm]; exact hown
  have hins : (Cond.instantiable cls 6).before args s' = true := h _ (by simp [Bundle.ownAtoms])
  obtain ⟨vm₁, cX, kX, hfX, hkX, -, -, X₁, st1⟩ := Y.newCold hexec (own := own) (C := cls) (index := ik) (n := 6) hown' hk' hins hini'
    (g := F0 m pc ls rest) rfl (by rw [hb]; exact d0) (Nat.le_refl _) (Nat.le_refl _)
  generalize hT1 : (T.setVm vm₁).pushCell { cls := cX, slots := kX.instanceTypes.map defaultValue, vm := .none } = T1 at X₁ st1
  have hcat : (Value.ref T.heap.size).category = 1 := rfl
  have hcellA : T1.heap[T.heap.size]? = some (freshCell cX kX) := by rw [← hT1]; exact State.heap_pushCell_size _ _
  have d3' : decode c.code (pc + 3) = .ok (.dup, 1) := by rw [hb]; exact d3
  have d4' : decode c.code (pc + 4) = .ok (.ldc is, 2) := by rw [hb]; exact d4
  have hstr' : vk_R own is text sa s' := vk_R.warm hW0 hstr
  obtain ⟨U, hsteps, hrun, hend, hW, hsame, ce, hce, hO⟩ := X₁.ctorThrowS hexec htr (own := own) (cls := cls) (names := names) (ic := ic) hown' hcls hnames h (fun x hx => nomatch hx) hfX hkX hcellA (by rw [hhp, hT]; exact Nat.le_refl _) (msg := .ref sa) rfl
    (g := { method := m, pc := pc + 6, locals := ls, stack := .ref sa :: .ref T.heap.size :: .ref T.heap.size :: rest, locked := none }) rfl hsize rfl rfl (rest := rest) rfl
    (by rw [hb]; exact d6) (by rw [hb]; exact d9) hout hRframes (by simp only [List.map_cons, List.sum_cons, hcat]; omega) hlocks
  obtain ⟨f1, f2⟩ := vx_frame hsame
  rw [hhp] at f1 f2
  have hWs : s.WarmedH U.vm := State.WarmedH.trans hW0 hW
  have hcl : s.vm.findClass cls = some ce.cls := by
    have h9 := hO.cls
    rw [hvm] at h9
    exact h9
  have hall : s.sameButNew ({ U with vm := s.vm } : State) locs mc ms := by
    subst hA
    obtain ⟨e1, e2⟩ := hsame
    rw [State.setFrames_setFrames] at e1
    have h2 : (T.setVm s.vm).sameButNew ({ U with vm := s.vm } : State) [] (0 + 1) (0 + 6) := ⟨e1, e2⟩
    have h3 := X.same.trans h2
    rw [List.append_nil] at h3
    exact h3.mono hc hs
  refine ⟨U, ?_, .threw T.heap.size, hrun, hend, Or.inr ⟨T.heap.size, rfl, cls, ce, locs, hx U hWs.alike f1 (fun q hq => f2 q hq (fun z hz => nomatch hz)), hce, hO.vm, hcl, hWs, hall, hf⟩⟩
  refine st1 _ ?_
  show Steps p.tables e below (T1.setTop { method := m, pc := pc + 3, locals := ls, stack := .ref T.heap.size :: rest, locked := none }) _
  jvm_step X₁.here [X₁.here.top, hexec, d3', Value.category]
  exact X₁.ldcString hexec (own := own) (text := text) (index := is) (a := sa) hown' hstr'.1 hstr'.2
    (g := { method := m, pc := pc + 4, locals := ls, stack := .ref T.heap.size :: .ref T.heap.size :: rest, locked := none }) rfl d4' _ hsteps
/-- 'throw new E("text")', the text by a wide index -/
theorem vx_throwSW {cc : ByteArray} {pc : Nat} (hexec : p.tables.exec = Jvm.exec) (hb : c.code = cc) (hl : l.stackTraces = false) {own cls text : String} {names : List String} {ik is ic mc ms sa : Nat} {A : Nat → Prop}
    (hown : s.vm.findClass own = some m.cls) (hcls : Bundle.fit cls = true) (hnames : ∀ n ∈ names, Bundle.fit n = true)
    (hk : (Cond.classLink own ik cls).before args s = true) (hini : (Cond.initialized cls).before args s = true) (hstr : vk_R own is text sa s) (hat : ∀ w ∈ vx_atS own ic cls names, w.before args s = true)
    (hgood : ∀ w ∈ Cond.classLink own ik cls :: Cond.initialized cls :: vx_atS own ic cls names, vx_ot w = true)
    (hU : vx_Zq Bundle.tN "UNASSIGNED_STACK" Bundle.steD A s s.heap) (hN : vx_Zq Bundle.tN "SUPPRESSED_SENTINEL" Bundle.listD A s s.heap) (hS : va_S A s.heap H locs) (hsize : ls.size = c.maxLocals)
    (d0 : decode cc pc = .ok (.new ik, 3)) (d3 : decode cc (pc + 3) = .ok (.dup, 1)) (d4 : decode cc (pc + 4) = .ok (.ldc_w is, 3)) (d7 : decode cc (pc + 7) = .ok (.invokespecial ic, 3)) (d10 : decode cc (pc + 10) = .ok (.athrow, 1))
    (hout : ∀ x ∈ c.exceptionTable.toList, covers x (pc + 10) = false)
    (hRframes : names.length + 3 < R.frames) (hRlocals : (rest.map fun v => v.category).sum + (13 * (names.length + 1) + 43) ≤ R.locals) (hRcells : cells + 1 ≤ R.cells) (hRslots : slots + 6 ≤ R.slots) (hlocks : meth.locks = false)
    (hx : ∀ t : State, s.vm.Alike t.vm → H.size ≤ t.heap.size → (∀ q : Nat, q < H.size → t.heap[q]? = H[q]?) → XC cls s t)
    (hf : ∀ z ∈ locs, free z.base) (hc : cells + 1 ≤ mc) (hs : slots + 6 ≤ ms) :
    W p l e R s m args below meth c H locs cells slots (vx_MQ below Qc XC args s mc ms free) (F0 m pc ls rest) := by
  intro T hT X
  have htr : e.platform.stackTraces = false := (show e.platform.stackTraces = l.stackTraces by rw [X.admits.platform]).trans hl
  have Y := vx_rebase X (R' := { frames := R.frames, locals := R.locals, cells := 1, slots := 6 }) (Nat.le_refl _) (Nat.le_refl _) hRcells hRslots
  obtain ⟨s', hA⟩ : ∃ z, z = (T.setVm s.vm).setFrames (.invoking m args :: below) := ⟨_, rfl⟩
  rw [← hA] at Y
  have hvm : s'.vm = s.vm := by rw [hA]; rfl
  have hhp : s'.heap = H := by rw [hA]; exact hT
  have hW0 : s.WarmedH s'.vm := by rw [hvm]; exact State.WarmedH.refl s
  have hat' : ∀ w ∈ vx_atS own ic cls names, w.before args s' = true := fun w hw => vx_ot_at hW0 hvm.symm (hgood w (List.mem_cons_of_mem _ (List.mem_cons_of_mem _ hw))) (hat w hw)
  have hk' : (Cond.classLink own ik cls).before args s' = true := vx_ot_at hW0 hvm.symm (hgood _ List.mem_cons_self) hk
  have hini' : (Cond.initialized cls).before args s' = true := vx_ot_at hW0 hvm.symm (hgood _ (List.mem_cons_of_mem _ List.mem_cons_self)) hini
  have hU' : vx_Zq Bundle.tN "UNASSIGNED_STACK" Bundle.steD A s' s'.heap := by rw [hhp]; exact vx_Zq.moved hW0.alike (hU.kept hS.2.1)
  have hN' : vx_Zq Bundle.tN "SUPPRESSED_SENTINEL" Bundle.listD A s' s'.heap := by rw [hhp]; exact vx_Zq.moved hW0.alike (hN.kept hS.2.1)
  have h : ∀ w ∈ Bundle.ownAtoms own ic cls names, w.before args s' = true := vx_own hat' (vx_isRefq hU'.1) (vx_isRefq hN'.1) hU'.2.word hN'.2.word
  have hown' : s'.vm.findClass own = some m.cls := by rw [hvm]; exact hown
  have hins : (Cond.instantiable cls 6).before args s' = true := h _ (by simp [Bundle.ownAtoms])
  obtain ⟨vm₁, cX, kX, hfX, hkX, -, -, X₁, st1⟩ := Y.newCold hexec (own := own) (C := cls) (index := ik) (n := 6) hown' hk' hins hini'
    (g := F0 m pc ls rest) rfl (by rw [hb]; exact d0) (Nat.le_refl _) (Nat.le_refl _)
  generalize hT1 : (T.setVm vm₁).pushCell { cls := cX, slots := kX.instanceTypes.map defaultValue, vm := .none } = T1 at X₁ st1
  have hcat : (Value.ref T.heap.size).category = 1 := rfl
  have hcellA : T1.heap[T.heap.size]? = some (freshCell cX kX) := by rw [← hT1]; exact State.heap_pushCell_size _ _
  have d3' : decode c.code (pc + 3) = .ok (.dup, 1) := by rw [hb]; exact d3
  have d4' : decode c.code (pc + 4) = .ok (.ldc_w is, 3) := by rw [hb]; exact d4
  have hstr' : vk_R own is text sa s' := vk_R.warm hW0 hstr
  obtain ⟨U, hsteps, hrun, hend, hW, hsame, ce, hce, hO⟩ := X₁.ctorThrowS hexec htr (own := own) (cls := cls) (names := names) (ic := ic) hown' hcls hnames h (fun x hx => nomatch hx) hfX hkX hcellA (by rw [hhp, hT]; exact Nat.le_refl _) (msg := .ref sa) rfl
    (g := { method := m, pc := pc + 7, locals := ls, stack := .ref sa :: .ref T.heap.size :: .ref T.heap.size :: rest, locked := none }) rfl hsize rfl rfl (rest := rest) rfl
    (by rw [hb]; exact d7) (by rw [hb]; exact d10) hout hRframes (by simp only [List.map_cons, List.sum_cons, hcat]; omega) hlocks
  obtain ⟨f1, f2⟩ := vx_frame hsame
  rw [hhp] at f1 f2
  have hWs : s.WarmedH U.vm := State.WarmedH.trans hW0 hW
  have hcl : s.vm.findClass cls = some ce.cls := by
    have h9 := hO.cls
    rw [hvm] at h9
    exact h9
  have hall : s.sameButNew ({ U with vm := s.vm } : State) locs mc ms := by
    subst hA
    obtain ⟨e1, e2⟩ := hsame
    rw [State.setFrames_setFrames] at e1
    have h2 : (T.setVm s.vm).sameButNew ({ U with vm := s.vm } : State) [] (0 + 1) (0 + 6) := ⟨e1, e2⟩
    have h3 := X.same.trans h2
    rw [List.append_nil] at h3
    exact h3.mono hc hs
  refine ⟨U, ?_, .threw T.heap.size, hrun, hend, Or.inr ⟨T.heap.size, rfl, cls, ce, locs, hx U hWs.alike f1 (fun q hq => f2 q hq (fun z hz => nomatch hz)), hce, hO.vm, hcl, hWs, hall, hf⟩⟩
  refine st1 _ ?_
  show Steps p.tables e below (T1.setTop { method := m, pc := pc + 3, locals := ls, stack := .ref T.heap.size :: rest, locked := none }) _
  jvm_step X₁.here [X₁.here.top, hexec, d3', Value.category]
  exact X₁.ldcStringW hexec (own := own) (text := text) (index := is) (a := sa) hown' hstr'.1 hstr'.2
    (g := { method := m, pc := pc + 4, locals := ls, stack := .ref T.heap.size :: .ref T.heap.size :: rest, locked := none }) rfl d4' _ hsteps
end Ends
section Bodies
variable {l : Launch}
theorem vx_ofW {y : MethodName} {ws ws' : List Cond} {rm : Room} {Pc : Array Value → State → Prop} {Qc : Array Value → State → Outcome → State → Prop} {XC : String → State → State → Prop} {mc ms : Nat} {free : Addr → Prop} {cc : ByteArray} {maxL : Nat} {ret : Option FieldType}
    (hy : plainName y.cls = true) (hw : ws = Cond.code y cc maxL ret :: ws')
    (body : ∀ p e s m args below meth c s₁, BodyLoose p l y (headSpec ws rm) cc maxL ret e s m args below meth c s₁ → c.maxLocals = maxL → (∀ x ∈ c.exceptionTable.toList, False) → Pc args s →
      W p l e (headSpec ws rm).room s m args below meth c s.heap [] 0 0 (vx_MQ below Qc XC args s mc ms free) (entryFrame m args maxL)) : vx_Met l y ws rm Pc Qc XC mc ms free := by
  refine MetFree.of_bodyS (code := cc) (maxLocals := maxL) (ret := ret) hy ?_ ?_
  · intro args s m h hn
    obtain ⟨meth, c, h1, h2, h3, h4, h5, h6, -, -⟩ := Cond.code_spec hn (atoms_spec (ws := ws) h _ (by rw [hw]; exact List.mem_cons_self))
    exact ⟨meth, c, h1, h2, h3, h4, h5, h6⟩
  · intro p e s m args below meth c s₁ B hml hP _
    have hh0 : s₁.heap = s.heap := by rw [B.state]; rfl
    have ht : ∀ x ∈ c.exceptionTable.toList, False := by
      obtain ⟨meth9, c9, h1, h2, -, -, -, -, h7, -⟩ := Cond.code_spec B.named (atoms_spec (ws := ws) B.pre _ (by rw [hw]; exact List.mem_cons_self))
      cases Option.some.inj (h1.symm.trans B.method)
      cases Option.some.inj (h2.symm.trans (Stand.of_body B).code)
      intro x hx
      rw [Array.isEmpty_iff.mp h7] at hx
      cases hx
    obtain ⟨t, a1, o, b1, b2, b3⟩ := body p e s m args below meth c s₁ B hml ht hP s₁ hh0 (Stand.of_body B)
    exact ⟨t, o, a1, b1, b2, b3⟩
/-- the table of a body with handlers -/
theorem vx_table {p : Program} {x y : MethodName} {S : Spec} {cc bytes : ByteArray} {maxL maxL' : Nat} {ret ret' : Option FieldType} {e : Env} {s s₁ : State} {m : MethodId} {args : Array Value} {below : List Frame} {meth : Method} {c : Code} {hh : List (Nat × Nat × Nat × Nat)}
    (B : BodyLoose p l y S cc maxL ret e s m args below meth c s₁) (h : (Cond.codeWith y bytes maxL' ret' hh).before args s = true) : c.exceptionTable.toList = tableOf hh := by
  obtain ⟨m9, meth9, c9, hn9, h1, h2, -, -, h6, -⟩ := Cond.codeWith_spec h
  cases Option.some.inj (hn9.symm.trans B.named)
  cases Option.some.inj (h1.symm.trans B.method)
  cases Option.some.inj (h2.symm.trans (Stand.of_body B).code)
  rw [← h6, table_eq]
end Bodies
end VXA
/-! ===== END ===== -/
/-! ===== BEGIN a static call of a method with an exception table ===== -/
section VXS
variable {p : Program} {l : Launch} {e : Env} {R : Room} {s : State} {m : MethodId} {args : Array Value} {below : List Frame} {meth : Method} {c : Code} {T : State} {H : Heap} {locs : List Loc} {cells slots : Nat}
abbrev vx_CSW (R : Room) (s : State) (args : Array Value) (own : String) (index : Nat) (y : MethodName) (bytes : ByteArray) (maxL : Nat) (ret : Option FieldType) (hh : List (Nat × Nat × Nat × Nat)) (ws : List Cond) (rm : Room) (mc ms n : Nat) : Prop :=
  (rm.cells = mc ∧ rm.slots = ms ∧ rm.frames + 1 ≤ R.frames ∧ 8 + (maxL + 11) + rm.locals ≤ R.locals ∧ (∀ w ∈ ws, ∀ (a' : Array Value) (U : State), s.WarmedH U.vm → w.before a' U = true) ∧ Cond.codeWith y bytes maxL ret hh ∈ ws) ∧
  (Cond.codeWith y bytes maxL ret hh).before args s = true ∧ (Cond.initialized y.cls).before args s = true ∧ (y.cls ≠ "java/lang/invoke/MethodHandle" ∧ y.cls ≠ "java/lang/invoke/VarHandle") ∧
  (∀ sig, parseMethodDescriptor y.desc = some sig → n = sig.parameters.length) ∧ (Cond.methodLink own index y).before args s = true ∧ (Cond.static y).before args s = true
theorem vx_cwSW {own : String} {index maxL mc ms : Nat} {y : MethodName} {bytes : ByteArray} {ret : Option FieldType} {hh : List (Nat × Nat × Nat × Nat)} {Ts ws ws' : List Cond} {rm : Room} (n : Nat) (ht : ∀ w ∈ Ts, w.before args s = true) (hT : GoodIn Ts (va_wsS own index y ws)) (hw : ws = Cond.codeWith y bytes maxL ret hh :: ws') (hrc : rm.cells = mc) (hrs : rm.slots = ms)
    (hd : y.cls ≠ "java/lang/invoke/MethodHandle" ∧ y.cls ≠ "java/lang/invoke/VarHandle" ∧ (parseMethodDescriptor y.desc).map (fun d => d.parameters.length) = some n) (hR : rm.frames + 1 ≤ R.frames ∧ 8 + (maxL + 11) + rm.locals ≤ R.locals) :
    vx_CSW R s args own index y bytes maxL ret hh ws rm mc ms n := by
  have ok : ∀ w ∈ va_wsS own index y ws, w.before args s = true := fun w h => ht w (hT w h).1
  have hG : GoodIn Ts ws := fun w h => hT w (by unfold va_wsS; exact List.mem_append_right _ h)
  have hc : Cond.codeWith y bytes maxL ret hh ∈ ws := by rw [hw]; exact List.mem_cons_self
  refine ⟨⟨hrc, hrs, hR.1, hR.2, pay_in ht hG, hc⟩, ht _ (hG _ hc).1, ok _ (by simp [va_wsS]), ⟨hd.1, hd.2.1⟩, fun sig h => ?_, ok _ (by simp [va_wsS]), ok _ (by simp [va_wsS])⟩
  have h2 := hd.2.2
  rw [h] at h2
  exact (Option.some.inj h2).symm
theorem vx_callSW (X : Stand p l e R s m args below meth c T locs cells slots) (hexec : p.tables.exec = Jvm.exec) {own : String} {index : Nat} {y : MethodName} {bytes : ByteArray} {maxL : Nat} {ret : Option FieldType} {hh : List (Nat × Nat × Nat × Nat)}
    (hown : s.vm.findClass own = some m.cls) (hlink : (Cond.methodLink own index y).before args s = true) (hstat : (Cond.static y).before args s = true) (hinit : (Cond.initialized y.cls).before args s = true)
    (hcode : (Cond.codeWith y bytes maxL ret hh).before args s = true) (hy : y.cls ≠ "java/lang/invoke/MethodHandle" ∧ y.cls ≠ "java/lang/invoke/VarHandle")
    {W9 : Nat} {Pre : Pt → Array Value → Prop} {Post : Pt → Array Value → Option Value → Pt → Prop} (hK : Back l R p e below s args y 3 W9 Pre Post)
    {g : JFrame} (hg : g.method = m) (hsize : g.locals.size = c.maxLocals) {argsL rest : List Value} (hlen : ∀ sig, parseMethodDescriptor y.desc = some sig → argsL.length = sig.parameters.length)
    (hstack : g.stack = argsL.reverse ++ rest) (hW : 2 * g.monitorRoom + (rest.map fun v => v.category).sum ≤ W9) (hdg : decode c.code g.pc = .ok (.invokestatic index, 3))
    (hpre : ∀ vm₁, s.WarmedH vm₁ → Pre ⟨T.setVm vm₁, locs, cells, slots⟩ argsL.toArray) :
    ∃ (v : Option Value) (vm₁ : Vm) (B : Pt), s.WarmedH vm₁ ∧ Stand p l e R s m args below meth c B.U B.locs B.cells B.slots ∧ Post ⟨T.setVm vm₁, locs, cells, slots⟩ argsL.toArray v B ∧
      ∀ target, Steps p.tables e below (B.U.setTop { g with pc := g.pc + 3, stack := v.toList ++ rest }) target → Steps p.tables e below (T.setTop g) target := by
  obtain ⟨mk, methM, cM, hnamed, hmethM, -, -, -, -, -, -, hsigM⟩ := Cond.codeWith_spec hcode
  have hstatic : methM.isStatic = true := Cond.static_spec hnamed hmethM hstat
  obtain ⟨kP, hkP, -⟩ := className_of_methodNamed hnamed
  have hinitP : kP.init = .initialized := Cond.initialized_spec (findClass_of_methodNamed hnamed) hkP hinit
  obtain ⟨vm₁, X₁, hstep₁⟩ := X.invokestatic hexec hown hlink hnamed hmethM hstatic hkP hinitP hy (g := g) hg (argsL := argsL) (rest := rest) (hlen _ hsigM) hstack hdg
  obtain ⟨v, B, X', hpost, hsteps⟩ := hK m meth c ⟨T.setVm vm₁, locs, cells, slots⟩ { g with stack := rest } (.invokestatic index) mk argsL.toArray X₁ hg hsize hdg hW (X₁.named hnamed) (hpre vm₁ X₁.warmed)
  exact ⟨v, vm₁, B, X₁.warmed, X', hpost, fun target h => hstep₁ _ fun acts => by rw [doInvoke_state]; exact hsteps.trans h⟩
theorem vx_runSW {y : MethodName} {bytes cc : ByteArray} {maxL nL mc ms n index : Nat} {ret : Option FieldType} {hh : List (Nat × Nat × Nat × Nat)} {ws : List Cond} {rm : Room} {Pc : Array Value → State → Prop} {Qc : Array Value → State → Outcome → State → Prop} {free : Addr → Prop} {Ts : List Cond} {own : String} {As rest : List Value} {g : JFrame}
    (S : CallFix p m c cc nL s args Ts own) (hM : Met l y ws rm Pc Qc mc ms free) (cw : vx_CSW R s args own index y bytes maxL ret hh ws rm mc ms n) (hp : PreS s H Pc As)
    (hg : g.method = m) (hn : As.length = n) (hsize : g.locals.size = nL) (hstack : g.stack = As.reverse ++ rest) (hW : 2 * g.monitorRoom + (rest.map fun v => v.category).sum ≤ 8) (hdg : decode cc g.pc = .ok (.invokestatic index, 3)) (hf : cells + mc ≤ R.cells ∧ slots + ms ≤ R.slots) :
    va_Run p l e R s m args below meth c H locs cells slots mc ms g rest (Qc As.toArray) (free) := by
  obtain ⟨⟨hrc, hrs, hfr, hlo, hws, hcw⟩, hcode, hini, hy, hlen, hl, hstt⟩ := cw
  have hK : Back l R p e below s args y 3 8 (PreOf R mc ms Pc) (PostOf Qc mc ms free) := va_backW (hh := hh) (bytes := bytes) (maxL := maxL) (ret := ret) hM hp.1 hrc hrs hfr hlo hws hcw (fun a' U hW => word_at hW (Or.inl (by first | rfl | simp [Cond.onTables, Cond.keeps, Cond.steady])) hini)
  obtain ⟨hx, hb, hml, ho, -⟩ := S
  intro T hT X
  obtain ⟨v, vm₁, ⟨U', l2, c2, s2⟩, hW₁, X', ⟨g', mk, t, L, e1, e2, hq, h1, hL, h2, h3⟩, st⟩ := vx_callSW X hx (hh := hh) (bytes := bytes) (maxL := maxL) (ret := ret) ho hl hstt hini hcode hy hK hg (hsize.trans hml.symm) (argsL := As) (rest := rest) (fun sig h => hn.trans (hlen sig h)) hstack hW (by rw [hb]; exact hdg)
    (fun vm₁ hW₁ => ⟨hf.1, hf.2, hp.2 (T.setVm vm₁) hT hW₁⟩)
  dsimp only [Pt.U, Pt.locs, Pt.cells, Pt.slots] at X' e1 e2 h1 h2 h3 st
  subst h1; subst h2; subst h3
  exact ⟨v, (T.setVm vm₁).calling g' mk As.toArray, t, U', L, hT, X', hL, e1, e2, hq, st⟩
/-- not caught here, past rows that name other classes: it goes on to the caller -/
theorem vx_outP {p : Program} {l : Launch} {e : Env} {R : Room} {s : State} {m : MethodId} {args : Array Value} {below : List Frame} {meth : Method} {c : Code} {H : Heap} {locs : List Loc} {cells slots : Nat} {free : Addr → Prop} {ls : Array Slot} {rest : List Value} {Qc : Array Value → State → Outcome → State → Prop} {XC : String → State → State → Prop}
    {pc : Nat} {own E : String} {ce : Cell} {q : Addr} {mc ms : Nat} (hown : s.vm.findClass own = some m.cls) (hlocks : meth.locks = false)
    (hpass : ∀ z ∈ c.exceptionTable.toList, covers z pc = false ∨ (z.catchType ≠ 0 ∧ ∃ nm : String, (Cond.classLink own z.catchType nm).before args s = true ∧ va_Nc E nm s)) (hcell : H[q]? = some ce) (hv : ce.vm = .none) (hcl : s.vm.findClass E = some ce.cls)
    (hx : ∀ t : State, t.heap = H → s.vm.Alike t.vm → XC E s t) (hf : ∀ z ∈ locs, free z.base) (hc : cells ≤ mc) (hs : slots ≤ ms) :
    vx_W p l e R s m args below meth c H locs cells slots (vx_MQ below Qc XC args s mc ms free) (F0 m pc ls rest) q := by
  intro T hT X
  have hpl : e.platform.magicAccessors = ({} : Platform).magicAccessors := by rw [X.admits.platform]
  obtain ⟨vm', hW', X', st⟩ := X.outThrough hlocks q (g := F0 m pc ls rest) rfl rfl rfl (cell := ce) (by rw [hT]; exact hcell) (by rw [hv]; rfl)
    (by obtain ⟨k9, h9, -⟩ := Vm.findClass_spec hcl; exact ⟨k9, h9⟩) (fun z hz => by
      rcases hpass z hz with h | ⟨hz0, nm, hl1, hn1⟩
      · exact Or.inl h
      · obtain ⟨c6, hc6, hcl6⟩ := Cond.classLink_spec hown hl1 e.platform hpl
        obtain ⟨a8, b8, h1, h2, h3⟩ := hn1
        cases Option.some.inj (h1.symm.trans hcl)
        cases Option.some.inj (h2.symm.trans hc6)
        exact Or.inr ⟨hz0, _, hcl6, h3⟩)
  obtain ⟨g₀, hfr⟩ := X'.frames_eq
  have hcell9 : ((T.setVm vm').setFrames (.throwing q :: below)).heap[q]? = some ce := by
    show T.heap[q]? = some ce
    rw [hT]; exact hcell
  have hend : Ended ((T.setVm vm').setFrames (.throwing q :: below)) below (.threw q) := State.frames_setFrames _ (State.cur_lt_of_frames hfr)
  refine ⟨(T.setVm vm').setFrames (.throwing q :: below), ?_, .threw q, X'.here.running, hend, Or.inr ⟨q, rfl, E, ce, locs, hx _ hT (X'.ends _).1.alike, hcell9, hv, hcl, (X'.ends _).1, (X'.ends _).2.mono hc hs, hf⟩⟩
  rw [X.pushThrowing_eq]
  exact st
/-- a thing of a world lies in the heap -/
theorem vx_lt {D : va_G} {cl : List vw_C} {ws : va_W} {H1 : Heap} (h : va_P D cl ws H1) {k : Nat} {q : Nat × va_E} (hk : ws[k]? = some q) : q.1 < H1.size := (h k q hk).lt
end VXS
/-! ===== END ===== -/
/-! ===== BEGIN methods with a table of their own: called by a name, returning or throwing ===== -/
section VXH
/-! vx_backW, vx_callVX, vx_callSX, vx_callVW, vx_runVW, vx_runVX, vx_runSX, vx_ofWH follow the same proofs as their sisters above (Free/Laws.lean, Shelf42/LK1.lean); vx_outP calls Shelf42/NT130.lean (outThrough). -/
section
variable {l : Launch} {R : Room} {p : Program} {e : Env} {below : List Frame} {s : State} {sargs : Array Value} {y : MethodName} {len W9 : Nat}
theorem vx_backW {ws : List Cond} {rm : Room} {Pc : Array Value → State → Prop} {Qc : Array Value → State → Outcome → State → Prop} {XC : String → State → State → Prop} {mc ms : Nat} {free : Addr → Prop} {bytes : ByteArray} {maxL : Nat} {ret : Option FieldType} {hh : List (Nat × Nat × Nat × Nat)}
    (hM : vx_Met l y ws rm Pc Qc XC mc ms free) (hblind : FrameBlind Pc) (hrc : rm.cells = mc) (hrs : rm.slots = ms)
    (hframes : rm.frames + 1 ≤ R.frames) (hlocals : W9 + (maxL + 11) + rm.locals ≤ R.locals)
    (hws : ∀ w ∈ ws, ∀ a' U, s.WarmedH U.vm → w.before a' U = true) (hcode : Cond.codeWith y bytes maxL ret hh ∈ ws) (hinit : ∀ a' U, s.WarmedH U.vm → (Cond.initialized y.cls).before a' U = true) :
    vx_Back l R p e below s sargs y len W9 (PreOf R mc ms Pc) (PostOf Qc mc ms free) (vx_Post XC mc ms free) := by
  intro m meth c A g ig mk a X hg hsize hdg hW hn hp
  have h1 : (headSpec ws rm).pre.before a A.U = true := atoms_intro fun w hw => hws w hw _ _ X.warmed
  have h2 : (Cond.codeWith y bytes maxL ret hh).before a A.U = true := hws _ hcode _ _ X.warmed
  have h3 : (Cond.initialized y.cls).before a A.U = true := hinit _ _ X.warmed
  have h4 : A.cells + (headSpec ws rm).room.cells ≤ R.cells := by rw [show (headSpec ws rm).room.cells = mc from hrc]; exact hp.1
  have h5 : A.slots + (headSpec ws rm).room.slots ≤ R.slots := by rw [show (headSpec ws rm).room.slots = ms from hrs]; exact hp.2.1
  have hPc : Pc a (A.U.calling g mk a) := hblind _ _ _ _ hp.2.2
  obtain ⟨U, Ls, c0, s0⟩ := A
  dsimp only [Pt.U, Pt.locs, Pt.cells, Pt.slots] at h1 h2 h3 h4 h5 X hn hPc ⊢
  obtain ⟨m9, methY, cY, hn9, hmY, hcY, -, hlY, -⟩ := Cond.codeWith_spec h2
  cases Option.some.inj (hn9.symm.trans hn)
  obtain ⟨kY, hkY, -⟩ := className_of_methodNamed hn
  have hinitY : kY.init = .initialized := Cond.initialized_spec (findClass_of_methodNamed hn) hkY h3
  have h : At U g.method c below := by rw [hg]; exact X.here
  have hlocals9 : W9 + (maxL + 11) + (headSpec ws rm).room.locals ≤ R.locals := hlocals
  have happ : (headSpec ws rm).appliesLoose y e.platform (U.calling g mk a) = true :=
    Spec.appliesLoose_calling (g := g) h hdg hn hkY hinitY
      (X.room_calling (g := g) (R' := (headSpec ws rm).room) hsize hmY hcY hframes (by rw [hlY]; omega) h4 h5) h1
  obtain ⟨mid, hmid⟩ := h.above
  have hfr : (U.setTop g).frames = (.java g :: mid) ++ below := by rw [State.frames_setTop' g h.top, hmid]; rfl
  obtain ⟨o, s₂, hsteps, -, hend, hq⟩ := Steps.callFree hM p X.admits X.cas X.clock (acts := []) hfr happ hPc trivial
  have hq' : vx_Q Qc XC mc ms free a (U.calling g mk a) o s₂ := hq
  rw [State.frames_setTop' g h.top] at hend
  obtain ⟨g₀, hg0⟩ := Option.isSome_iff_exists.mp h.top
  obtain ⟨r, hr⟩ := State.topJava?_eq_some.mp hg0
  have hr' : (({ U with heap := s₂.heap, slotsUsed := s₂.slotsUsed } : State).setVm s₂.vm).frames = .java g₀ :: r := hr
  rcases hq' with ⟨hqc, L, hfe, hL⟩ | ⟨q, rfl, E, ce, L, hx, hce, hcv, hcl, hW₂, hsm, hL⟩
  · obtain ⟨⟨v, rfl⟩, hW₂, e2, q2, q3, q4, q5, q6⟩ := id hfe
    have e3 : s₂ = ({ (U.calling g mk a).setFrames s₂.frames with heap := s₂.heap, slotsUsed := s₂.slotsUsed } : State).setVm s₂.vm := by
      have : s₂ = ({ s₂ with vm := (U.calling g mk a).vm } : State).setVm s₂.vm := rfl
      rw [e2] at this
      exact this
    obtain ⟨c₂, i₂, len₂, hc₂, hd₂, hf₂⟩ := hend
    have hW' : U.WarmedH s₂.vm := hW₂
    have hcc : c₂ = c := by
      have h1 : s₂.code? g.method = U.code? g.method := by
        rw [State.code?_eq, State.code?_eq, hW'.alike.method?]
      exact Option.some.inj (hc₂.symm.trans (h1.trans h.code))
    subst hcc
    have hlen : len₂ = len := by rw [hdg] at hd₂; cases hd₂; rfl
    subst hlen
    have hs₂ : s₂ = (({ U with heap := s₂.heap, slotsUsed := s₂.slotsUsed } : State).setVm s₂.vm).setTop { g with pc := g.pc + len₂, stack := v.toList ++ g.stack } := by
      refine e3.trans ?_
      rw [hf₂, State.calling_eq h.top, State.setFrames_setFrames, State.setTop_of_frames _ hr', hr]
      rfl
    have hsame : U.sameButNew ({ U with heap := s₂.heap, slotsUsed := s₂.slotsUsed } : State) L mc ms := by
      refine ⟨?_, q2, q3, q4, q5, q6⟩
      obtain ⟨t, ht, -⟩ := State.frames_cons hr
      show ({ U with heap := s₂.heap, slotsUsed := s₂.slotsUsed } : State) = { U.setFrames U.frames with heap := s₂.heap, slotsUsed := s₂.slotsUsed }
      rw [State.setFrames_self ht]
    subst hg
    refine Or.inl ⟨v, ⟨(({ U with heap := s₂.heap, slotsUsed := s₂.slotsUsed } : State).setVm s₂.vm), Ls ++ L, c0 + mc, s0 + ms⟩,
      ⟨X.admits, X.cas, X.clock, X.frames, X.room, X.hears, X.method, X.code, (X.here.setHeapUsed s₂.heap s₂.slotsUsed).setVm hW'.alike, X.tail, State.WarmedH.trans X.warmed hW', X.limits, X.bytes, X.same.trans (hsame.setVm s.vm)⟩,
      ⟨g, mk, s₂, L, rfl, rfl, hqc, rfl, hL, rfl, rfl⟩, ?_⟩
    show Steps p.tables e below _ ((({ U with heap := s₂.heap, slotsUsed := s₂.slotsUsed } : State).setVm s₂.vm).setTop { g with pc := g.pc + len₂, stack := v.toList ++ g.stack })
    rw [← hs₂]
    exact hsteps
  · obtain ⟨e2, q2, q3, q4, q5, q6⟩ := id hsm
    have e3 : s₂ = ({ (U.calling g mk a).setFrames s₂.frames with heap := s₂.heap, slotsUsed := s₂.slotsUsed } : State).setVm s₂.vm := by
      have : s₂ = ({ s₂ with vm := (U.calling g mk a).vm } : State).setVm s₂.vm := rfl
      rw [e2] at this
      exact this
    have hf₂ : s₂.frames = .throwing q :: .java g :: U.frames.tail := hend
    have hW' : U.WarmedH s₂.vm := hW₂
    have hs₂ : s₂ = ((({ U with heap := s₂.heap, slotsUsed := s₂.slotsUsed } : State).setVm s₂.vm).setTop g).pushFrame (.throwing q) := by
      refine e3.trans ?_
      rw [hf₂, State.calling_eq h.top, State.setFrames_setFrames, State.pushFrame, State.frames_setTop _ hr', State.setTop_of_frames _ hr', State.setFrames_setFrames, hr]
      rfl
    have hsame : U.sameButNew ({ U with heap := s₂.heap, slotsUsed := s₂.slotsUsed } : State) L mc ms := by
      refine ⟨?_, q2, q3, q4, q5, q6⟩
      obtain ⟨t, ht, -⟩ := State.frames_cons hr
      show ({ U with heap := s₂.heap, slotsUsed := s₂.slotsUsed } : State) = { U.setFrames U.frames with heap := s₂.heap, slotsUsed := s₂.slotsUsed }
      rw [State.setFrames_self ht]
    subst hg
    refine Or.inr ⟨q, ⟨(({ U with heap := s₂.heap, slotsUsed := s₂.slotsUsed } : State).setVm s₂.vm), Ls ++ L, c0 + mc, s0 + ms⟩,
      ⟨X.admits, X.cas, X.clock, X.frames, X.room, X.hears, X.method, X.code, (X.here.setHeapUsed s₂.heap s₂.slotsUsed).setVm hW'.alike, X.tail, State.WarmedH.trans X.warmed hW', X.limits, X.bytes, X.same.trans (hsame.setVm s.vm)⟩,
      ⟨g, mk, s₂, L, E, ce, rfl, rfl, hx, hce, hcv, hcl, rfl, hL, rfl, rfl⟩, ?_⟩
    show Steps p.tables e below _ (((({ U with heap := s₂.heap, slotsUsed := s₂.slotsUsed } : State).setVm s₂.vm).setTop g).pushFrame (.throwing q))
    rw [← hs₂]
    exact hsteps
end
variable {p : Program} {l : Launch} {e : Env} {R : Room} {s : State} {m : MethodId} {args : Array Value} {below : List Frame} {meth : Method} {c : Code} {T : State} {H : Heap} {locs : List Loc} {cells slots : Nat}
theorem vx_callVX (X : Stand p l e R s m args below meth c T locs cells slots) (hexec : p.tables.exec = Jvm.exec) {own C : String} {index : Nat} {y : MethodName} {bytes : ByteArray} {maxL : Nat} {ret : Option FieldType} {hh : List (Nat × Nat × Nat × Nat)}
    (hown : s.vm.findClass own = some m.cls) (hlink : (Cond.methodLink own index y).before args s = true) (hinst : (Cond.instanceMethod y).before args s = true) (hsel : (Cond.selects C y y).before args s = true)
    (hcode : (Cond.codeWith y bytes maxL ret hh).before args s = true) (hy : y.cls ≠ "java/lang/invoke/MethodHandle" ∧ y.cls ≠ "java/lang/invoke/VarHandle")
    {W9 : Nat} {Pre : Pt → Array Value → Prop} {Post : Pt → Array Value → Option Value → Pt → Prop} {PostX : Pt → Array Value → Addr → Pt → Prop} (hK : vx_Back l R p e below s args y 3 W9 Pre Post PostX)
    {b : Addr} {cellB : Cell} (hcell : T.heap[b]? = some cellB) (hobj : cellB.vm.isStatics = false) (hcls : s.vm.findClass C = some cellB.cls)
    {g : JFrame} (hg : g.method = m) (hsize : g.locals.size = c.maxLocals) {argsL rest : List Value} (hlen : ∀ sig, parseMethodDescriptor y.desc = some sig → argsL.length = sig.parameters.length)
    (hstack : g.stack = argsL.reverse ++ .ref b :: rest) (hW : 2 * g.monitorRoom + (rest.map fun v => v.category).sum ≤ W9) (hdg : decode c.code g.pc = .ok (.invokevirtual index, 3))
    (hpre : ∀ vm₁, s.WarmedH vm₁ → Pre ⟨T.setVm vm₁, locs, cells, slots⟩ (Value.ref b :: argsL).toArray) :
    (∃ (v : Option Value) (vm₁ : Vm) (B : Pt), s.WarmedH vm₁ ∧ Stand p l e R s m args below meth c B.U B.locs B.cells B.slots ∧ Post ⟨T.setVm vm₁, locs, cells, slots⟩ (Value.ref b :: argsL).toArray v B ∧
      ∀ target, Steps p.tables e below (B.U.setTop { g with pc := g.pc + 3, stack := v.toList ++ rest }) target → Steps p.tables e below (T.setTop g) target) ∨
    (∃ (q : Addr) (vm₁ : Vm) (B : Pt), s.WarmedH vm₁ ∧ Stand p l e R s m args below meth c B.U B.locs B.cells B.slots ∧ PostX ⟨T.setVm vm₁, locs, cells, slots⟩ (Value.ref b :: argsL).toArray q B ∧
      Steps p.tables e below (T.setTop g) ((B.U.setTop { g with stack := rest }).pushFrame (.throwing q))) := by
  obtain ⟨mk, methM, hnamed, hmethM, hstM, habM⟩ := Cond.instanceMethod_spec hinst
  obtain ⟨m8, methM', cM, hn8, hmethM', -, -, -, -, -, -, hsigM⟩ := Cond.codeWith_spec hcode
  cases Option.some.inj (hn8.symm.trans hnamed)
  cases hmethM.symm.trans hmethM'
  obtain ⟨c2, r2, m2, q1, q2, q3, q4, kP, hkP, hkPi⟩ := Cond.selects_spec hsel
  cases hcls.symm.trans q1
  cases (State.methodFound?_of_named hnamed hy).symm.trans q2
  cases hnamed.symm.trans q3
  have hselP : selectMethod e.platform s.vm cellB.cls mk = .method mk := by rw [Launch.admits_selectMethod X.admits]; exact q4
  obtain ⟨vm₁, X₁, hstep₁⟩ := X.invokevirtual hexec hown hlink hnamed hmethM hstM hkP hkPi hy (a := b) (cell := cellB) hcell
    (fun z h => by rw [h] at hobj; cases hobj) hselP hmethM habM hkP hkPi (g := g) hg (argsL := argsL) (rest := rest) (hlen _ hsigM) hstack hdg
  rcases hK m meth c ⟨T.setVm vm₁, locs, cells, slots⟩ { g with stack := rest } (.invokevirtual index) mk (Value.ref b :: argsL).toArray X₁ hg hsize hdg hW (X₁.named hnamed) (hpre vm₁ X₁.warmed) with ⟨v, B, X', hpost, hsteps⟩ | ⟨q, B, X', hpost, hsteps⟩
  · exact Or.inl ⟨v, vm₁, B, X₁.warmed, X', hpost, fun target h => hstep₁ _ fun acts => by rw [doInvoke_state]; exact hsteps.trans h⟩
  · exact Or.inr ⟨q, vm₁, B, X₁.warmed, X', hpost, hstep₁ _ fun acts => by rw [doInvoke_state]; exact hsteps⟩
theorem vx_callSX (X : Stand p l e R s m args below meth c T locs cells slots) (hexec : p.tables.exec = Jvm.exec) {own : String} {index : Nat} {y : MethodName} {bytes : ByteArray} {maxL : Nat} {ret : Option FieldType} {hh : List (Nat × Nat × Nat × Nat)}
    (hown : s.vm.findClass own = some m.cls) (hlink : (Cond.methodLink own index y).before args s = true) (hstat : (Cond.static y).before args s = true) (hinit : (Cond.initialized y.cls).before args s = true)
    (hcode : (Cond.codeWith y bytes maxL ret hh).before args s = true) (hy : y.cls ≠ "java/lang/invoke/MethodHandle" ∧ y.cls ≠ "java/lang/invoke/VarHandle")
    {W9 : Nat} {Pre : Pt → Array Value → Prop} {Post : Pt → Array Value → Option Value → Pt → Prop} {PostX : Pt → Array Value → Addr → Pt → Prop} (hK : vx_Back l R p e below s args y 3 W9 Pre Post PostX)
    {g : JFrame} (hg : g.method = m) (hsize : g.locals.size = c.maxLocals) {argsL rest : List Value} (hlen : ∀ sig, parseMethodDescriptor y.desc = some sig → argsL.length = sig.parameters.length)
    (hstack : g.stack = argsL.reverse ++ rest) (hW : 2 * g.monitorRoom + (rest.map fun v => v.category).sum ≤ W9) (hdg : decode c.code g.pc = .ok (.invokestatic index, 3))
    (hpre : ∀ vm₁, s.WarmedH vm₁ → Pre ⟨T.setVm vm₁, locs, cells, slots⟩ argsL.toArray) :
    (∃ (v : Option Value) (vm₁ : Vm) (B : Pt), s.WarmedH vm₁ ∧ Stand p l e R s m args below meth c B.U B.locs B.cells B.slots ∧ Post ⟨T.setVm vm₁, locs, cells, slots⟩ argsL.toArray v B ∧
      ∀ target, Steps p.tables e below (B.U.setTop { g with pc := g.pc + 3, stack := v.toList ++ rest }) target → Steps p.tables e below (T.setTop g) target) ∨
    (∃ (q : Addr) (vm₁ : Vm) (B : Pt), s.WarmedH vm₁ ∧ Stand p l e R s m args below meth c B.U B.locs B.cells B.slots ∧ PostX ⟨T.setVm vm₁, locs, cells, slots⟩ argsL.toArray q B ∧
      Steps p.tables e below (T.setTop g) ((B.U.setTop { g with stack := rest }).pushFrame (.throwing q))) := by
  obtain ⟨mk, methM, cM, hnamed, hmethM, -, -, -, -, -, -, hsigM⟩ := Cond.codeWith_spec hcode
  have hstatic : methM.isStatic = true := Cond.static_spec hnamed hmethM hstat
  obtain ⟨kP, hkP, -⟩ := className_of_methodNamed hnamed
  have hinitP : kP.init = .initialized := Cond.initialized_spec (findClass_of_methodNamed hnamed) hkP hinit
  obtain ⟨vm₁, X₁, hstep₁⟩ := X.invokestatic hexec hown hlink hnamed hmethM hstatic hkP hinitP hy (g := g) hg (argsL := argsL) (rest := rest) (hlen _ hsigM) hstack hdg
  rcases hK m meth c ⟨T.setVm vm₁, locs, cells, slots⟩ { g with stack := rest } (.invokestatic index) mk argsL.toArray X₁ hg hsize hdg hW (X₁.named hnamed) (hpre vm₁ X₁.warmed) with ⟨v, B, X', hpost, hsteps⟩ | ⟨q, B, X', hpost, hsteps⟩
  · exact Or.inl ⟨v, vm₁, B, X₁.warmed, X', hpost, fun target h => hstep₁ _ fun acts => by rw [doInvoke_state]; exact hsteps.trans h⟩
  · exact Or.inr ⟨q, vm₁, B, X₁.warmed, X', hpost, hstep₁ _ fun acts => by rw [doInvoke_state]; exact hsteps⟩
theorem vx_callVW (X : Stand p l e R s m args below meth c T locs cells slots) (hexec : p.tables.exec = Jvm.exec) {own C : String} {index : Nat} {y : MethodName} {bytes : ByteArray} {maxL : Nat} {ret : Option FieldType} {hh : List (Nat × Nat × Nat × Nat)}
    (hown : s.vm.findClass own = some m.cls) (hlink : (Cond.methodLink own index y).before args s = true) (hinst : (Cond.instanceMethod y).before args s = true) (hsel : (Cond.selects C y y).before args s = true)
    (hcode : (Cond.codeWith y bytes maxL ret hh).before args s = true) (hy : y.cls ≠ "java/lang/invoke/MethodHandle" ∧ y.cls ≠ "java/lang/invoke/VarHandle")
    {W9 : Nat} {Pre : Pt → Array Value → Prop} {Post : Pt → Array Value → Option Value → Pt → Prop} (hK : Back l R p e below s args y 3 W9 Pre Post)
    {b : Addr} {cellB : Cell} (hcell : T.heap[b]? = some cellB) (hobj : cellB.vm.isStatics = false) (hcls : s.vm.findClass C = some cellB.cls)
    {g : JFrame} (hg : g.method = m) (hsize : g.locals.size = c.maxLocals) {argsL rest : List Value} (hlen : ∀ sig, parseMethodDescriptor y.desc = some sig → argsL.length = sig.parameters.length)
    (hstack : g.stack = argsL.reverse ++ .ref b :: rest) (hW : 2 * g.monitorRoom + (rest.map fun v => v.category).sum ≤ W9) (hdg : decode c.code g.pc = .ok (.invokevirtual index, 3))
    (hpre : ∀ vm₁, s.WarmedH vm₁ → Pre ⟨T.setVm vm₁, locs, cells, slots⟩ (Value.ref b :: argsL).toArray) :
    ∃ (v : Option Value) (vm₁ : Vm) (B : Pt), s.WarmedH vm₁ ∧ Stand p l e R s m args below meth c B.U B.locs B.cells B.slots ∧ Post ⟨T.setVm vm₁, locs, cells, slots⟩ (Value.ref b :: argsL).toArray v B ∧
      ∀ target, Steps p.tables e below (B.U.setTop { g with pc := g.pc + 3, stack := v.toList ++ rest }) target → Steps p.tables e below (T.setTop g) target := by
  obtain ⟨mk, methM, hnamed, hmethM, hstM, habM⟩ := Cond.instanceMethod_spec hinst
  obtain ⟨m8, methM', cM, hn8, hmethM', -, -, -, -, -, -, hsigM⟩ := Cond.codeWith_spec hcode
  cases Option.some.inj (hn8.symm.trans hnamed)
  cases hmethM.symm.trans hmethM'
  obtain ⟨c2, r2, m2, q1, q2, q3, q4, kP, hkP, hkPi⟩ := Cond.selects_spec hsel
  cases hcls.symm.trans q1
  cases (State.methodFound?_of_named hnamed hy).symm.trans q2
  cases hnamed.symm.trans q3
  have hselP : selectMethod e.platform s.vm cellB.cls mk = .method mk := by rw [Launch.admits_selectMethod X.admits]; exact q4
  obtain ⟨vm₁, X₁, hstep₁⟩ := X.invokevirtual hexec hown hlink hnamed hmethM hstM hkP hkPi hy (a := b) (cell := cellB) hcell
    (fun z h => by rw [h] at hobj; cases hobj) hselP hmethM habM hkP hkPi (g := g) hg (argsL := argsL) (rest := rest) (hlen _ hsigM) hstack hdg
  obtain ⟨v, B, X', hpost, hsteps⟩ := hK m meth c ⟨T.setVm vm₁, locs, cells, slots⟩ { g with stack := rest } (.invokevirtual index) mk (Value.ref b :: argsL).toArray X₁ hg hsize hdg hW (X₁.named hnamed) (hpre vm₁ X₁.warmed)
  exact ⟨v, vm₁, B, X₁.warmed, X', hpost, fun target h => hstep₁ _ fun acts => by rw [doInvoke_state]; exact hsteps.trans h⟩
abbrev vx_CVW (R : Room) (s : State) (args : Array Value) (own C : String) (index : Nat) (y : MethodName) (bytes : ByteArray) (maxL : Nat) (ret : Option FieldType) (hh : List (Nat × Nat × Nat × Nat)) (ws : List Cond) (rm : Room) (mc ms n : Nat) : Prop :=
  (rm.cells = mc ∧ rm.slots = ms ∧ rm.frames + 1 ≤ R.frames ∧ 8 + (maxL + 11) + rm.locals ≤ R.locals ∧ (∀ w ∈ ws, ∀ (a' : Array Value) (U : State), s.WarmedH U.vm → w.before a' U = true) ∧ Cond.codeWith y bytes maxL ret hh ∈ ws) ∧
  (Cond.codeWith y bytes maxL ret hh).before args s = true ∧ (Cond.initialized y.cls).before args s = true ∧ (y.cls ≠ "java/lang/invoke/MethodHandle" ∧ y.cls ≠ "java/lang/invoke/VarHandle") ∧
  (∀ sig, parseMethodDescriptor y.desc = some sig → n = sig.parameters.length) ∧ (Cond.methodLink own index y).before args s = true ∧ (Cond.instanceMethod y).before args s = true ∧ (Cond.selects C y y).before args s = true
theorem vx_cwVW {own C : String} {index maxL mc ms : Nat} {y : MethodName} {bytes : ByteArray} {ret : Option FieldType} {hh : List (Nat × Nat × Nat × Nat)} {Ts ws ws' : List Cond} {rm : Room} (n : Nat) (ht : ∀ w ∈ Ts, w.before args s = true) (hT : GoodIn Ts (wsV own index C y ws)) (hw : ws = Cond.codeWith y bytes maxL ret hh :: ws') (hrc : rm.cells = mc) (hrs : rm.slots = ms)
    (hd : y.cls = C ∧ y.cls ≠ "java/lang/invoke/MethodHandle" ∧ y.cls ≠ "java/lang/invoke/VarHandle" ∧ (parseMethodDescriptor y.desc).map (fun d => d.parameters.length) = some n) (hR : rm.frames + 1 ≤ R.frames ∧ 8 + (maxL + 11) + rm.locals ≤ R.locals) :
    vx_CVW R s args own C index y bytes maxL ret hh ws rm mc ms n := by
  obtain ⟨hC, hd⟩ := hd
  subst hC
  have ok : ∀ w ∈ wsV own index y.cls y ws, w.before args s = true := fun w h => ht w (hT w h).1
  have hG : GoodIn Ts ws := fun w h => hT w (by unfold wsV; exact List.mem_append_right _ h)
  have hc : Cond.codeWith y bytes maxL ret hh ∈ ws := by rw [hw]; exact List.mem_cons_self
  refine ⟨⟨hrc, hrs, hR.1, hR.2, pay_in ht hG, hc⟩, ht _ (hG _ hc).1, ok _ (by simp [wsV]), ⟨hd.1, hd.2.1⟩, fun sig h => ?_, ok _ (by simp [wsV]), ok _ (by simp [wsV]), ok _ (by simp [wsV])⟩
  have h2 := hd.2.2
  rw [h] at h2
  exact (Option.some.inj h2).symm
theorem vx_runVW {y : MethodName} {bytes cc : ByteArray} {maxL nL mc ms n index : Nat} {ret : Option FieldType} {hh : List (Nat × Nat × Nat × Nat)} {ws : List Cond} {rm : Room} {Pc : Array Value → State → Prop} {Qc : Array Value → State → Outcome → State → Prop} {free : Addr → Prop} {Ts : List Cond} {own C : String} {b : Addr} {As rest : List Value} {g : JFrame}
    (S : CallFix p m c cc nL s args Ts own) (hM : Met l y ws rm Pc Qc mc ms free) (cw : vx_CVW R s args own C index y bytes maxL ret hh ws rm mc ms n) (hp : PreV s H C b Pc As)
    (hg : g.method = m) (hn : As.length = n) (hsize : g.locals.size = nL) (hstack : g.stack = As.reverse ++ .ref b :: rest) (hW : 2 * g.monitorRoom + (rest.map fun v => v.category).sum ≤ 8) (hdg : decode cc g.pc = .ok (.invokevirtual index, 3)) (hf : cells + mc ≤ R.cells ∧ slots + ms ≤ R.slots) :
    va_Run p l e R s m args below meth c H locs cells slots mc ms g rest (Qc (Value.ref b :: As).toArray) free := by
  obtain ⟨⟨hrc, hrs, hfr, hlo, hws, hcw⟩, hcode, hini, hy, hlen, hl, hin, hse⟩ := cw
  have hK : Back l R p e below s args y 3 8 (PreOf R mc ms Pc) (PostOf Qc mc ms free) := va_backW (hh := hh) (bytes := bytes) (maxL := maxL) (ret := ret) hM hp.1 hrc hrs hfr hlo hws hcw (fun a' U hW => word_at hW (Or.inl (by first | rfl | simp [Cond.onTables, Cond.keeps, Cond.steady])) hini)
  obtain ⟨hx, hb, hml, ho, -⟩ := S
  obtain ⟨-, ⟨cellB, hcB, hoB, hclB⟩, hPc⟩ := hp
  intro T hT X
  obtain ⟨v, vm₁, ⟨U', l2, c2, s2⟩, hW₁, X', ⟨g', mk, t, L, e1, e2, hq, h1, hL, h2, h3⟩, st⟩ := vx_callVW X hx (C := C) (hh := hh) (bytes := bytes) (maxL := maxL) (ret := ret) ho hl hin hse hcode hy hK (by rw [hT]; exact hcB) hoB hclB hg (hsize.trans hml.symm) (argsL := As) (rest := rest) (fun sig h => hn.trans (hlen sig h)) hstack hW (by rw [hb]; exact hdg)
    (fun vm₁ hW₁ => ⟨hf.1, hf.2, hPc (T.setVm vm₁) hT hW₁⟩)
  dsimp only [Pt.U, Pt.locs, Pt.cells, Pt.slots] at X' e1 e2 h1 h2 h3 st
  subst h1; subst h2; subst h3
  exact ⟨v, (T.setVm vm₁).calling g' mk (Value.ref b :: As).toArray, t, U', L, hT, X', hL, e1, e2, hq, st⟩
section
variable {y : MethodName} {bytes cc : ByteArray} {maxL nL mc ms n index : Nat} {ret : Option FieldType} {ws : List Cond} {rm : Room} {Pc : Array Value → State → Prop} {Qc : Array Value → State → Outcome → State → Prop} {XC : String → State → State → Prop} {free : Addr → Prop} {Ts : List Cond} {own C : String} {b : Addr} {As rest : List Value} {g : JFrame}
theorem vx_runVX {hh : List (Nat × Nat × Nat × Nat)} (S : CallFix p m c cc nL s args Ts own) (hM : vx_Met l y ws rm Pc Qc XC mc ms free) (cw : vx_CVW R s args own C index y bytes maxL ret hh ws rm mc ms n) (hp : PreV s H C b Pc As)
    (hg : g.method = m) (hn : As.length = n) (hsize : g.locals.size = nL) (hstack : g.stack = As.reverse ++ .ref b :: rest) (hW : 2 * g.monitorRoom + (rest.map fun v => v.category).sum ≤ 8) (hdg : decode cc g.pc = .ok (.invokevirtual index, 3)) (hf : cells + mc ≤ R.cells ∧ slots + ms ≤ R.slots) :
    vx_Run p l e R s m args below meth c H locs cells slots mc ms g rest (Qc (Value.ref b :: As).toArray) XC free := by
  obtain ⟨⟨hrc, hrs, hfr, hlo, hws, hcw⟩, hcode, hini, hy, hlen, hl, hin, hse⟩ := cw
  have hK : vx_Back l R p e below s args y 3 8 (PreOf R mc ms Pc) (PostOf Qc mc ms free) (vx_Post XC mc ms free) := vx_backW (hh := hh) (bytes := bytes) (maxL := maxL) (ret := ret) hM hp.1 hrc hrs hfr hlo hws hcw (fun a' U hW => word_at hW (Or.inl (by first | rfl | simp [Cond.onTables, Cond.keeps, Cond.steady])) hini)
  obtain ⟨hx, hb, hml, ho, -⟩ := S
  obtain ⟨-, ⟨cellB, hcB, hoB, hclB⟩, hPc⟩ := hp
  intro T hT X
  rcases vx_callVX X hx (C := C) (hh := hh) (bytes := bytes) (maxL := maxL) (ret := ret) ho hl hin hse hcode hy hK (by rw [hT]; exact hcB) hoB hclB hg (hsize.trans hml.symm) (argsL := As) (rest := rest) (fun sig h => hn.trans (hlen sig h)) hstack hW (by rw [hb]; exact hdg)
    (fun vm₁ hW₁ => ⟨hf.1, hf.2, hPc (T.setVm vm₁) hT hW₁⟩) with ⟨v, vm₁, ⟨U', l2, c2, s2⟩, hW₁, X', ⟨g', mk, t, L, e1, e2, hq, h1, hL, h2, h3⟩, st⟩ | ⟨q, vm₁, ⟨U', l2, c2, s2⟩, hW₁, X', ⟨g', mk, t, L, E, ce, e1, e2, hq, hce, hcv, hcl, h1, hL, h2, h3⟩, st⟩
  · dsimp only [Pt.U, Pt.locs, Pt.cells, Pt.slots] at X' e1 e2 h1 h2 h3 st
    subst h1; subst h2; subst h3
    exact Or.inl ⟨v, (T.setVm vm₁).calling g' mk (Value.ref b :: As).toArray, t, U', L, hT, X', hL, e1, e2, hq, st⟩
  · dsimp only [Pt.U, Pt.locs, Pt.cells, Pt.slots] at X' e1 e2 h1 h2 h3 st hcl
    subst h1; subst h2; subst h3
    exact Or.inr ⟨q, (T.setVm vm₁).calling g' mk (Value.ref b :: As).toArray, t, U', L, E, ce, hT, X', hL, e1, e2, hq, hce, hcv, vx_cls hW₁ hcl, st⟩
theorem vx_runSX {hh : List (Nat × Nat × Nat × Nat)} (S : CallFix p m c cc nL s args Ts own) (hM : vx_Met l y ws rm Pc Qc XC mc ms free) (cw : vx_CSW R s args own index y bytes maxL ret hh ws rm mc ms n) (hp : PreS s H Pc As)
    (hg : g.method = m) (hn : As.length = n) (hsize : g.locals.size = nL) (hstack : g.stack = As.reverse ++ rest) (hW : 2 * g.monitorRoom + (rest.map fun v => v.category).sum ≤ 8) (hdg : decode cc g.pc = .ok (.invokestatic index, 3)) (hf : cells + mc ≤ R.cells ∧ slots + ms ≤ R.slots) :
    vx_Run p l e R s m args below meth c H locs cells slots mc ms g rest (Qc As.toArray) XC free := by
  obtain ⟨⟨hrc, hrs, hfr, hlo, hws, hcw⟩, hcode, hini, hy, hlen, hl, hstt⟩ := cw
  have hK : vx_Back l R p e below s args y 3 8 (PreOf R mc ms Pc) (PostOf Qc mc ms free) (vx_Post XC mc ms free) := vx_backW (hh := hh) (bytes := bytes) (maxL := maxL) (ret := ret) hM hp.1 hrc hrs hfr hlo hws hcw (fun a' U hW => word_at hW (Or.inl (by first | rfl | simp [Cond.onTables, Cond.keeps, Cond.steady])) hini)
  obtain ⟨hx, hb, hml, ho, -⟩ := S
  intro T hT X
  rcases vx_callSX X hx (hh := hh) (bytes := bytes) (maxL := maxL) (ret := ret) ho hl hstt hini hcode hy hK hg (hsize.trans hml.symm) (argsL := As) (rest := rest) (fun sig h => hn.trans (hlen sig h)) hstack hW (by rw [hb]; exact hdg)
    (fun vm₁ hW₁ => ⟨hf.1, hf.2, hp.2 (T.setVm vm₁) hT hW₁⟩) with ⟨v, vm₁, ⟨U', l2, c2, s2⟩, hW₁, X', ⟨g', mk, t, L, e1, e2, hq, h1, hL, h2, h3⟩, st⟩ | ⟨q, vm₁, ⟨U', l2, c2, s2⟩, hW₁, X', ⟨g', mk, t, L, E, ce, e1, e2, hq, hce, hcv, hcl, h1, hL, h2, h3⟩, st⟩
  · dsimp only [Pt.U, Pt.locs, Pt.cells, Pt.slots] at X' e1 e2 h1 h2 h3 st
    subst h1; subst h2; subst h3
    exact Or.inl ⟨v, (T.setVm vm₁).calling g' mk As.toArray, t, U', L, hT, X', hL, e1, e2, hq, st⟩
  · dsimp only [Pt.U, Pt.locs, Pt.cells, Pt.slots] at X' e1 e2 h1 h2 h3 st hcl
    subst h1; subst h2; subst h3
    exact Or.inr ⟨q, (T.setVm vm₁).calling g' mk As.toArray, t, U', L, E, ce, hT, X', hL, e1, e2, hq, hce, hcv, vx_cls hW₁ hcl, st⟩
end
end VXH
theorem vx_ofWH {l : Launch} {y : MethodName} {ws ws' : List Cond} {rm : Room} {Pc : Array Value → State → Prop} {Qc : Array Value → State → Outcome → State → Prop} {XC : String → State → State → Prop} {mc ms : Nat} {free : Addr → Prop} {cc : ByteArray} {maxL : Nat} {ret : Option FieldType} {hh : List (Nat × Nat × Nat × Nat)}
    (hy : plainName y.cls = true) (hw : ws = Cond.codeWith y cc maxL ret hh :: ws')
    (body : ∀ p e s m args below meth c s₁, BodyLoose p l y (headSpec ws rm) cc maxL ret e s m args below meth c s₁ → c.maxLocals = maxL → Pc args s →
      W p l e (headSpec ws rm).room s m args below meth c s.heap [] 0 0 (vx_MQ below Qc XC args s mc ms free) (entryFrame m args maxL)) : vx_Met l y ws rm Pc Qc XC mc ms free := by
  refine MetFree.of_bodyS (code := cc) (maxLocals := maxL) (ret := ret) hy ?_ ?_
  · intro args s m h hn
    obtain ⟨m9, meth, c, hn9, h1, h2, h3, h4, -, h5, h6, -⟩ := Cond.codeWith_spec (atoms_spec (ws := ws) h _ (by rw [hw]; exact List.mem_cons_self))
    cases hn.symm.trans hn9
    exact ⟨meth, c, h1, h2, h3, h4, h5, h6⟩
  · intro p e s m args below meth c s₁ B hml hP _
    have hh0 : s₁.heap = s.heap := by rw [B.state]; rfl
    obtain ⟨t, a1, o, b1, b2, b3⟩ := body p e s m args below meth c s₁ B hml hP s₁ hh0 (Stand.of_body B)
    exact ⟨t, o, a1, b1, b2, b3⟩
/-! ===== END ===== -/

/-! ===== BEGIN what the machine throws by itself, no traces kept ===== -/
section VXM
set_option maxHeartbeats 1000000 in
/-- the machine throws cls with the message text, no traces kept: from its note over the frame g to 'throwing' over the same frame (follows the proofs of Stand.vmThrowsMessage, Shelf/KitTracedVmS.lean, and Stand.throwsMessageColdBareV, StandMessageColdV.lean, without the step out of the frame) -/
theorem vx_vmAt {p : Program} {l : Launch} {e : Env} {R : Room} {s : State} {m₀ : MethodId} {args : Array Value} {below : List Frame} {meth : Method} {c : Code} {W : State} {locs : List Loc} {cells slots : Nat}
    (X : Stand p l e R s m₀ args below meth c W locs cells slots) (hexec : p.tables.exec = Jvm.exec) (htr : e.platform.stackTraces = false) {cls : String} {names : List String} {text : String}
    (hcls : Bundle.fit cls = true) (hnames : ∀ n ∈ names, Bundle.fit n = true) (hsoe : (cls == "java/lang/StackOverflowError") = false) (hoom : (cls == "java/lang/OutOfMemoryError") = false)
    (h : ∀ a ∈ Bundle.messageArmAtoms cls names, a.before args s = true)
    (hlocs : ∀ x ∈ locs, ∀ cell, s.heap[x.base]? = some cell → cell.vm.isStatics = false)
    (htext : (text == notModelled) = false) (hlimit : ¬ (stringBytes (stringToUtf16 text)).size > e.platform.arrayLengthLimit) (hheap : ¬ (stringBytes (stringToUtf16 text)).size * componentBytes .byte > e.platform.maxHeapBytes)
    {g : JFrame} (hg : g.method = m₀) (hsize : g.locals.size = c.maxLocals)
    (hRframes : names.length + 4 < R.frames) (hRlocals : 2 * g.monitorRoom + (g.stack.map fun v => v.category).sum + 10240 ≤ R.locals) (hshort : 13 * names.length + 55 ≤ 10240)
    (hRcells : cells + 3 ≤ R.cells) (hRslots : slots + ((stringBytes (stringToUtf16 text)).size + 4 + 6) ≤ R.slots) (hlocks : meth.locks = false) :
    ∃ (S : State) (q : Addr) (ce : Cell), (∀ target, Steps p.tables e below ((S.setTop g).pushFrame (.throwing q)) target → Steps p.tables e below ((W.setTop g).pushFrame (.throwNew cls (some text) none)) target) ∧
      Stand p l e R s m₀ args below meth c S locs (cells + 3) (slots + ((stringBytes (stringToUtf16 text)).size + 4 + 6)) ∧ S.heap[q]? = some ce ∧ s.vm.findClass cls = some ce.cls ∧ ce.vm = .none := by
  have howns : e.platform.frameOwnsMonitors = true := by rw [X.admits.platform]
  have hfin : e.platform.finalization = false := by rw [X.admits.platform]
  have hpl : e.platform.magicAccessors = ({} : Platform).magicAccessors := by rw [X.admits.platform]
  have a : ∀ x, x ∈ Bundle.messageArmAtoms cls names → x.holds args s none s [] = true := fun x hx => h x hx
  obtain ⟨T, Z0, L, -, Y⟩ := ThrowableC.of_atoms (args := args) howns hfin hpl (fun x hx => h x (by simp [Bundle.messageArmAtoms, hx]))
  obtain ⟨Z, M, LZ, LM, hnZ⟩ := Init0T.ofS_atoms (args := args) hpl L Y (fun x hx => h x (by simp [Bundle.messageArmAtoms, hx]))
  obtain ⟨P1, Ps, hlen, L1, hL, hP1m, hlink1, hlink⟩ := Bundle.chainS (args := args) hpl hnZ names cls hcls hnames (fun x hx => h x (by simp [Bundle.messageArmAtoms, hx]))
  obtain ⟨Zs, LZs, hn4, hfitv, hfitc⟩ := StringT.of_atoms (args := args) (fun x hx => h x (by simp [Bundle.messageArmAtoms, hx]))
  have hfound : s.vm.findClass cls = some P1.m.cls := findClass_of_methodNamed hP1m
  obtain ⟨c1, kX, hc1, hk, hord, -, -, hn6⟩ := Cond.instantiable_spec (a (.instantiable cls 6) (by simp [Bundle.messageArmAtoms]))
  cases Option.some.inj (hc1.symm.trans hfound)
  have hinit := Cond.initialized_spec hfound hk (a (.initialized cls) (by simp [Bundle.messageArmAtoms]))
  have hctor : kX.findMethod "<init>" "(Ljava/lang/String;)V" = some P1.m.idx := findMethod_of_methodNamed hP1m hk
  have hsel0 : selectMethod e.platform s.vm P1.m.cls T.fill0 = .method T.fill0 := by
    obtain ⟨c2, r2, m2, q1, q2, q3, q4, -⟩ := Cond.selects_spec (a (.selects cls Bundle.tFill0 Bundle.tFill0) (by simp [Bundle.messageArmAtoms]))
    cases Option.some.inj (q1.symm.trans hfound)
    cases Option.some.inj (q2.symm.trans (State.methodFound?_of_named Y.fill0 (by decide)))
    cases Option.some.inj (q3.symm.trans Y.fill0)
    rw [Launch.admits_selectMethod X.admits]; exact q4
  have hselF : selectMethod e.platform s.vm P1.m.cls T.fill = .method T.fill := by
    obtain ⟨c2, r2, m2, q1, q2, q3, q4, -⟩ := Cond.selects_spec (a (.selects cls Bundle.tFill Bundle.tFill) (by simp [Bundle.messageArmAtoms]))
    cases Option.some.inj (q1.symm.trans hfound)
    cases Option.some.inj (q2.symm.trans (State.methodFound?_of_named Y.fill (by decide)))
    cases Option.some.inj (q3.symm.trans Y.fill)
    rw [Launch.admits_selectMethod X.admits]; exact q4
  obtain ⟨cellS0, hcS0, hiss⟩ := Y.statics
  obtain ⟨u0, hu0⟩ := Cond.staticRefV Y.unassigned L.unassignedStatic L.statics hcS0 hiss (a (.isRef (.static Bundle.tN "UNASSIGNED_STACK" Bundle.steD)) (by simp [Bundle.messageArmAtoms]))
  obtain ⟨sen, hsen⟩ := Cond.staticRefV Y.sentinel L.sentinelStatic L.statics hcS0 hiss (a (.isRef (.static Bundle.tN "SUPPRESSED_SENTINEL" Bundle.listD)) (by simp [Bundle.messageArmAtoms]))
  obtain ⟨ci198, i198, fB, hk198, hg198, ha198, hsB, -, hnB, htB, hffB⟩ := Cond.ownField (t := .object "java/lang/Object") Y.found L.cls (by decide +kernel) (a (.fieldLink Bundle.tN 198 Bundle.tN "backtrace" "Ljava/lang/Object;") (by simp [Bundle.messageArmAtoms])) (a (.lays Bundle.tN Bundle.tN "backtrace" "Ljava/lang/Object;") (by simp [Bundle.messageArmAtoms])) e.platform hpl
  obtain ⟨cellS, hcS', heS, -, hkeep⟩ := X.same.2.2.2.2.2 T.aS cellS0 hcS0
  have hcellS : W.heap[T.aS]? = some cellS := hcS'
  have hout' : ∀ i, (⟨T.aS, i⟩ : Loc) ∉ locs := fun i hmem => by
    have := hlocs _ hmem cellS0 hcS0
    rw [hiss] at this; cases this
  have hknownS : cellS.vm ≠ .unknown := by
    rw [heS]; intro hu
    rw [show cellS0.vm = .unknown from hu] at hiss
    cases hiss
  have hvU : cellS.slots[T.fUnassigned.slot]? = some u0.v := by rw [hkeep _ (hout' _)]; exact hu0
  have hvSen : cellS.slots[T.fSentinel.slot]? = some sen.v := by rw [hkeep _ (hout' _)]; exact hsen
  obtain ⟨iM, hffM⟩ := Y.msg
  obtain ⟨tyC, dC, hdC, hdnC⟩ := Cond.laysAt hfound hk Y.cause (a (.lays cls Bundle.tN "cause" "Ljava/lang/Throwable;") (by simp [Bundle.messageArmAtoms]))
  obtain ⟨tyS, dS, hdS, hdnS⟩ := Cond.laysAt hfound hk Y.stack (a (.lays cls Bundle.tN "stackTrace" Bundle.steD) (by simp [Bundle.messageArmAtoms]))
  obtain ⟨tyP, dP, hdP, hdnP⟩ := Cond.laysAt hfound hk Y.supp (a (.lays cls Bundle.tN "suppressedExceptions" Bundle.listD) (by simp [Bundle.messageArmAtoms]))
  obtain ⟨tyM, dM, hdM, hdnM⟩ := Cond.laysAt hfound hk hffM (a (.lays cls Bundle.tN "detailMessage" "Ljava/lang/String;") (by simp [Bundle.messageArmAtoms]))
  obtain ⟨tyB, dB, hdB, hdnB⟩ := Cond.laysAt hfound hk hffB (a (.lays cls Bundle.tN "backtrace" "Ljava/lang/Object;") (by simp [Bundle.messageArmAtoms]))
  have bC := Cond.laysApart hdB hdC hdnB hdnC (by rw [hnB, Y.causeName]; decide)
  have bS := Cond.laysApart hdB hdS hdnB hdnS (by rw [hnB, Y.stackName]; decide)
  have bP := Cond.laysApart hdB hdP hdnB hdnP (by rw [hnB, Y.suppName]; decide)
  have hbk : ((preparedCellV T.toThrowableT (freshCell P1.m.cls kX) (W.heap.size + 2) u0 sen).withEntry W.cur).slots[fB.slot]? = some .null := by
    have := fresh_default (c := P1.m.cls) tyB
    rw [htB] at this
    simpa [preparedCellV, Cell.setSlot, Cell.withEntry, Array.getElem?_setIfInBounds, bC, bS, bP, bC.symm, bS.symm, bP.symm, defaultValue] using this
  have tkC := Takes.of_laid (v := .ref (W.heap.size + 2)) hk hord tyC (by rw [Y.causeType]; rfl)
  have tkS := Takes.of_laid (v := u0.v) hk hord tyS (by rw [Y.stackType]; exact fits_refV_array _ u0)
  have tkP := Takes.of_laid (v := sen.v) hk hord tyP (by rw [Y.suppType]; exact fits_refV_object _ sen)
  have tkM := Takes.of_laid (v := .ref (W.heap.size + 1)) hk hord tyM (by rw [Y.msgType]; rfl)
  have hskip : SkipFacts T e.platform s (fun u => u) u0 ((preparedCellV T.toThrowableT (freshCell P1.m.cls kX) (W.heap.size + 2) u0 sen).withEntry W.cur) := ⟨{ ci198 := ci198, i198 := i198, fBack := fB }, ⟨hk198, hg198, ha198, hsB⟩, hbk, fun _ _ => rfl⟩
  have h0 : At W g.method c below := by rw [hg]; exact X.here
  obtain ⟨hbeyond, hfreeW⟩ := X.vmMayThrow hsize (.throwNew cls (some text) none) (fun f hf => by cases hf) rfl hRlocals
  have hfr' : W.frames.length + Ps.length + 4 < (e.platform.stackLimits W.me).1 := by have := X.framesAbove hRframes; omega
  have hwd' : (stackUse (.java g :: W.frames.tail)).2 + 13 * Ps.length + 55 ≤ (e.platform.stackLimits W.me).2 := by have := X.stackAbove hsize (K := 13 * Ps.length + 55) (by omega); omega
  have hslots : W.slotsUsed + (stringBytes (stringToUtf16 text)).size + Zs.kS.instanceTypes.size + kX.instanceTypes.size ≤ e.platform.maxSlots := by
    have := X.slotsAbove hRslots
    rw [hn4, hn6]
    omega
  obtain ⟨vm', hW', st⟩ := Steps.vmThrowsMessageColdByV p (s₀ := s) (S := W) (g := g) h0 hexec T L Z LZ M LM X.warmed (t := W.cur) rfl Zs LZs P1 L1 Ps hL hlink1 hlink hsoe hoom hfound hk hinit hord hctor
    (Launch.admits_hotImplicitExceptions X.admits) hbeyond hfreeW htext hlimit hheap (X.cellsAbove hRcells) hslots (hfitv _) (hfitc _)
    (Nn := fun u => u) heapOnly_id (fun _ _ => rfl) (fun _ => rfl) (fun u x y => setCell_twice _ _ _ _) (fun _ => Nat.le_refl _) (cN := ((preparedCellV T.toThrowableT (freshCell P1.m.cls kX) (W.heap.size + 2) u0 sen).withEntry W.cur))
    hsel0 hcellS hknownS hvU tkS (fun _ hu => hu) (fun _ hu => hu) rfl rfl rfl (by simp [preparedCellV, Cell.setSlot, Cell.withEntry]) hskip (fun _ _ hA hW _ hroom _ hrest => L.nativeOff p htr hA hW hroom hrest) hselF hvSen tkC tkP tkM Y.objLocals rfl hfr' hwd'
  rw [plainBareV_eq T.toThrowableT (W.heap.size + 2) u0 sen (.ref (W.heap.size + 1)) W.cur rfl rfl] at st
  obtain ⟨-, -, w3, w4, -, -, -⟩ := withThrown_facts e.platform W Zs text P1.m.cls kX
  have X3 := ((X.pushed (bytesOf Zs.cB (stringToUtf16 text))).pushed (stringAt Zs.cS Zs.kS Zs.fv Zs.fc (stringToUtf16 text) W.heap.size)).pushed (freshCell P1.m.cls kX)
  rw [← withString_eq] at X3
  have X4 := X3.noted hW'
  have ha : (W.heap.size + 2) < ((withThrown W Zs text P1.m.cls kX).setVm vm').heap.size := by show _ < (withThrown W Zs text P1.m.cls kX).heap.size; rw [w3]; omega
  have hcell : ((withThrown W Zs text P1.m.cls kX).setVm vm').heap[(W.heap.size + 2)]? = some (freshCell P1.m.cls kX) := w4
  have X5 := ((((X4.stored hcell T.fCause.slot (.ref (W.heap.size + 2))).storedAgain ha T.fStack.slot u0.v).storedAgain ha T.fSupp.slot sen.v).storedAgain ha T.fStack.slot u0.v).storedAgain ha T.fMsg.slot (.ref (W.heap.size + 1))
  obtain ⟨g₁, hfrM⟩ := X5.frames_eq
  have hU : ((((withThrown W Zs text P1.m.cls kX).setVm vm').setCell (W.heap.size + 2) (plainBareV T.toThrowableT (freshCell P1.m.cls kX) (W.heap.size + 2) u0 sen (.ref (W.heap.size + 1)))).setTop g).pushFrame (.throwing (W.heap.size + 2)) = (((withThrown W Zs text P1.m.cls kX).setVm vm').setCell (W.heap.size + 2) (plainBareV T.toThrowableT (freshCell P1.m.cls kX) (W.heap.size + 2) u0 sen (.ref (W.heap.size + 1)))).setFrames (.throwing (W.heap.size + 2) :: .java g :: below) := by
    rw [State.pushFrame, State.frames_setTop _ hfrM, State.setTop_of_frames _ hfrM, State.setFrames_setFrames]
  have b1 : (bytesOf Zs.cB (stringToUtf16 text)).slots.size = (stringBytes (stringToUtf16 text)).size := by
    rw [(Cell.writeAll_facts _ _).2.2]; simp [bytes0]
  have b2 : (stringAt Zs.cS Zs.kS Zs.fv Zs.fc (stringToUtf16 text) W.heap.size).slots.size = 4 := by simp [string0, Cell.setSlot, hn4]
  have b3 : (freshCell P1.m.cls kX).slots.size = 6 := by simp [hn6]
  rw [b1, b2, b3] at X5
  have e9 : slots + (stringBytes (stringToUtf16 text)).size + 4 + 6 = slots + ((stringBytes (stringToUtf16 text)).size + 4 + 6) := by omega
  rw [e9] at X5
  simp only [List.append_assoc, List.cons_append, List.nil_append] at X5
  refine ⟨((withThrown W Zs text P1.m.cls kX).setVm vm').setCell (W.heap.size + 2) (plainBareV T.toThrowableT (freshCell P1.m.cls kX) (W.heap.size + 2) u0 sen (.ref (W.heap.size + 1))), W.heap.size + 2, _, fun target ht => st _ (by rw [X.tail, ← hU]; exact ht),
    X5.forget (fun y hy => ?_), heapAt_setCell_self _ ha, hfound, rfl⟩
  simp only [List.mem_cons, List.not_mem_nil, or_false] at hy
  have hge : s.heap.size ≤ W.heap.size := X.same.2.1
  rcases hy with rfl | rfl | rfl | rfl | rfl <;> exact Nat.le_trans hge (Nat.le_add_right _ 2)
set_option maxHeartbeats 1000000 in
/-- the machine throws NullPointerException, no traces kept: from its note over the frame g to 'throwing' over the same frame (follows the proof of Stand.vmThrowsNpe, Shelf42/KT2.lean; throwsNpeColdBareVAt, Shelf42/NT91.lean, called) -/
theorem vx_npeAt {p : Program} {l : Launch} {e : Env} {R : Room} {s : State} {m₀ : MethodId} {args : Array Value} {below : List Frame} {meth : Method} {c : Code} {W : State} {locs : List Loc} {cells slots : Nat}
    (X : Stand p l e R s m₀ args below meth c W locs cells slots) (hexec : p.tables.exec = Jvm.exec) (htr : e.platform.stackTraces = false) {n : Nat}
    (h : ∀ a ∈ Bundle.npeArmAtoms n, a.before args s = true)
    (hlocs : ∀ x ∈ locs, ∀ cell, s.heap[x.base]? = some cell → cell.vm.isStatics = false)
    {g : JFrame} (hg : g.method = m₀) (hsize : g.locals.size = c.maxLocals)
    (hRframes : 7 < R.frames) (hRlocals : 2 * g.monitorRoom + (g.stack.map fun v => v.category).sum + 10240 ≤ R.locals)
    (hRcells : cells + 1 ≤ R.cells) (hRslots : slots + n ≤ R.slots) (hlocks : meth.locks = false) :
    ∃ (S : State) (q : Addr) (ce : Cell), (∀ target, Steps p.tables e below ((S.setTop g).pushFrame (.throwing q)) target → Steps p.tables e below ((W.setTop g).pushFrame (.throwNew "java/lang/NullPointerException" none none)) target) ∧
      Stand p l e R s m₀ args below meth c S locs (cells + 1) (slots + n) ∧ S.heap[q]? = some ce ∧ s.vm.findClass "java/lang/NullPointerException" = some ce.cls ∧ ce.vm = .none := by
  have howns : e.platform.frameOwnsMonitors = true := by rw [X.admits.platform]
  have hfin : e.platform.finalization = false := by rw [X.admits.platform]
  have hpl : e.platform.magicAccessors = ({} : Platform).magicAccessors := by rw [X.admits.platform]
  have hpl2 : e.platform.arrayCloneIsPublic = true := by rw [X.admits.platform]
  have a' : ∀ x, x ∈ Bundle.npeArmAtoms n → x.holds args s none s [] = true := fun x hx => h x hx
  obtain ⟨T, Z, L, LZ, Y⟩ := ThrowableC.of_atoms (args := args) howns hfin hpl (fun x hx => h x (by simp [Bundle.npeArmAtoms, hx]))
  obtain ⟨N, LN, hcN, hnNF, hordN, hffS⟩ := NpeC.of_atoms (args := args) hpl hpl2 L Y (fun x hx => h x (by simp [Bundle.npeArmAtoms, hx]))
  obtain ⟨P1, L1, hP1m, hP1s⟩ := PassC.of_atoms (args := args) (s := s) hpl (X := Bundle.nN) (Y := Bundle.rN) (by decide) (by decide) LibCode.NullPointerException.Init0.at_0 LibCode.NullPointerException.Init0.at_1 LibCode.NullPointerException.Init0.at_4 (fun x hx => h x (by simp [Bundle.npeArmAtoms, hx]))
  obtain ⟨PR, LR, hPRm, hPRs⟩ := PassC.of_atoms (args := args) (s := s) hpl (X := Bundle.rN) (Y := Bundle.eN) (by decide) (by decide) LibCode.RuntimeException.Init0.at_0 LibCode.RuntimeException.Init0.at_1 LibCode.RuntimeException.Init0.at_4 (fun x hx => h x (by simp [Bundle.npeArmAtoms, hx]))
  obtain ⟨PE, LEx, hPEm, hPEs⟩ := PassC.of_atoms (args := args) (s := s) hpl (X := Bundle.eN) (Y := Bundle.tN) (by decide) (by decide) LibCode.Exception.Init0.at_0 LibCode.Exception.Init0.at_1 LibCode.Exception.Init0.at_4 (fun x hx => h x (by simp [Bundle.npeArmAtoms, hx]))
  have hfound : s.vm.findClass Bundle.nN = some P1.m.cls := findClass_of_methodNamed hP1m
  have ecls : N.cN = P1.m.cls := Option.some.inj (hcN.symm.trans hfound)
  have hk : s.vm.classes[P1.m.cls]? = some N.kN := by rw [← ecls]; exact LN.cls
  have hinit := Cond.initialized_spec hfound hk (a' (.initialized Bundle.nN) (by simp [Bundle.npeArmAtoms]))
  have hctor : N.kN.findMethod "<init>" "()V" = some P1.m.idx := findMethod_of_methodNamed hP1m hk
  obtain ⟨c1, k1, hc1, hk1, -, -, -, hn⟩ := Cond.instantiable_spec (a' (.instantiable Bundle.nN n) (by simp [Bundle.npeArmAtoms]))
  cases Option.some.inj (hc1.symm.trans hfound)
  cases Option.some.inj (hk1.symm.trans hk)
  have hfsz : (freshCell P1.m.cls N.kN).slots.size = n := by simp [hn]
  have hlink1 : P1.sup = PR.m := Option.some.inj (hP1s.symm.trans hPRm)
  have hlinkR : PR.sup = PE.m := Option.some.inj (hPRs.symm.trans hPEm)
  have hlinkE : PE.sup = Z.m T.toThrowableT := Option.some.inj (hPEs.symm.trans Y.init0)
  have hLs : ∀ P, P ∈ [PR, PE] → P.Links0 e.platform s := fun P hP => by
    simp only [List.mem_cons, List.not_mem_nil, or_false] at hP
    rcases hP with rfl | rfl
    · exact LR
    · exact LEx
  have hsel0 : selectMethod e.platform s.vm P1.m.cls T.fill0 = .method T.fill0 := by
    obtain ⟨c2, r2, m2, q1, q2, q3, q4, -⟩ := Cond.selects_spec (a' (.selects Bundle.nN Bundle.tFill0 Bundle.tFill0) (by simp [Bundle.npeArmAtoms]))
    cases Option.some.inj (q1.symm.trans hfound)
    cases Option.some.inj (q2.symm.trans (State.methodFound?_of_named Y.fill0 (by decide)))
    cases Option.some.inj (q3.symm.trans Y.fill0)
    rw [Launch.admits_selectMethod X.admits]; exact q4
  have hselF : selectMethod e.platform s.vm P1.m.cls T.fill = .method N.fill := by
    obtain ⟨c2, r2, m2, q1, q2, q3, q4, -⟩ := Cond.selects_spec (a' (.selects Bundle.nN Bundle.tFill Bundle.nFill) (by simp [Bundle.npeArmAtoms]))
    cases Option.some.inj (q1.symm.trans hfound)
    cases Option.some.inj (q2.symm.trans (State.methodFound?_of_named Y.fill (by decide)))
    cases Option.some.inj (q3.symm.trans hnNF)
    rw [Launch.admits_selectMethod X.admits]; exact q4
  obtain ⟨cellS0, hcS0, hiss⟩ := Y.statics
  obtain ⟨u0, hu0⟩ := Cond.staticRefV Y.unassigned L.unassignedStatic L.statics hcS0 hiss (a' (.isRef (.static Bundle.tN "UNASSIGNED_STACK" Bundle.steD)) (by simp [Bundle.npeArmAtoms]))
  obtain ⟨sen, hsen⟩ := Cond.staticRefV Y.sentinel L.sentinelStatic L.statics hcS0 hiss (a' (.isRef (.static Bundle.tN "SUPPRESSED_SENTINEL" Bundle.listD)) (by simp [Bundle.npeArmAtoms]))
  obtain ⟨ci198, i198, fB, hk198, hg198, ha198, hsB, -, hnB, htB, hffB⟩ := Cond.ownField (t := .object "java/lang/Object") Y.found L.cls (by decide +kernel) (a' (.fieldLink Bundle.tN 198 Bundle.tN "backtrace" Bundle.objD) (by simp [Bundle.npeArmAtoms])) (a' (.lays Bundle.tN Bundle.tN "backtrace" Bundle.objD) (by simp [Bundle.npeArmAtoms])) e.platform hpl
  obtain ⟨cellS, hcS', heS, -, hkeep⟩ := X.same.2.2.2.2.2 T.aS cellS0 hcS0
  have hcellS : W.heap[T.aS]? = some cellS := hcS'
  have hout' : ∀ i, (⟨T.aS, i⟩ : Loc) ∉ locs := fun i hmem => by
    have := hlocs _ hmem cellS0 hcS0
    rw [hiss] at this; cases this
  have hknownS : cellS.vm ≠ .unknown := by
    rw [heS]; intro hu
    rw [show cellS0.vm = .unknown from hu] at hiss
    cases hiss
  have hvU : cellS.slots[T.fUnassigned.slot]? = some u0.v := by rw [hkeep _ (hout' _)]; exact hu0
  have hvSen : cellS.slots[T.fSentinel.slot]? = some sen.v := by rw [hkeep _ (hout' _)]; exact hsen
  obtain ⟨tyC, dC, hdC, hdnC⟩ := Cond.laysAt hfound hk Y.cause (a' (.lays Bundle.nN Bundle.tN "cause" "Ljava/lang/Throwable;") (by simp [Bundle.npeArmAtoms]))
  obtain ⟨tyS, dS, hdS, hdnS⟩ := Cond.laysAt hfound hk Y.stack (a' (.lays Bundle.nN Bundle.tN "stackTrace" Bundle.steD) (by simp [Bundle.npeArmAtoms]))
  obtain ⟨tyP, dP, hdP, hdnP⟩ := Cond.laysAt hfound hk Y.supp (a' (.lays Bundle.nN Bundle.tN "suppressedExceptions" Bundle.listD) (by simp [Bundle.npeArmAtoms]))
  obtain ⟨tyX, dX, hdX, hdnX⟩ := Cond.laysAt hfound hk hffS (a' (.lays Bundle.nN Bundle.nN "extendedMessageState" "I") (by simp [Bundle.npeArmAtoms, Bundle.npeAtoms]))
  obtain ⟨hnX, htX⟩ := State.fieldFound?_type hffS (t := .int) (by decide +kernel)
  have xC := Cond.laysApart hdC hdX hdnC hdnX (by rw [hnX, Y.causeName]; decide)
  have xS := Cond.laysApart hdS hdX hdnS hdnX (by rw [hnX, Y.stackName]; decide)
  have xP := Cond.laysApart hdP hdX hdnP hdnX (by rw [hnX, Y.suppName]; decide)
  have hv0 : (freshCell P1.m.cls N.kN).slots[N.fState.slot]? = some (.int 0) := by
    have := fresh_default (c := P1.m.cls) tyX
    rw [htX] at this; exact this
  obtain ⟨tyB, dB, hdB, hdnB⟩ := Cond.laysAt hfound hk hffB (a' (.lays Bundle.nN Bundle.tN "backtrace" Bundle.objD) (by simp [Bundle.npeArmAtoms]))
  have bC := Cond.laysApart hdB hdC hdnB hdnC (by rw [hnB, Y.causeName]; decide)
  have bS := Cond.laysApart hdB hdS hdnB hdnS (by rw [hnB, Y.stackName]; decide)
  have bP := Cond.laysApart hdB hdP hdnB hdnP (by rw [hnB, Y.suppName]; decide)
  have bX := Cond.laysApart hdB hdX hdnB hdnX (by rw [hnB, hnX]; decide)
  have hbk : ((npeCell N.toNpeT (preparedCellV T.toThrowableT (freshCell P1.m.cls N.kN) W.heap.size u0 sen) W.cur).withEntry W.cur).slots[fB.slot]? = some .null := by
    have := fresh_default (c := P1.m.cls) tyB
    rw [htB] at this
    simpa [npeCell, preparedCellV, Cell.setSlot, Cell.withEntry, Array.getElem?_setIfInBounds, bC, bS, bP, bX, bC.symm, bS.symm, bP.symm, bX.symm, defaultValue] using this
  have tkC := Takes.of_laid (v := .ref W.heap.size) hk hordN tyC (by rw [Y.causeType]; rfl)
  have tkS := Takes.of_laid (v := u0.v) hk hordN tyS (by rw [Y.stackType]; exact fits_refV_array _ u0)
  have tkP := Takes.of_laid (v := sen.v) hk hordN tyP (by rw [Y.suppType]; exact fits_refV_object _ sen)
  have tkX := Takes.of_laid (v := .int 1) hk hordN tyX (by rw [htX]; rfl)
  have hskip : SkipFacts T e.platform s (fun u => u) u0 ((npeCell N.toNpeT (preparedCellV T.toThrowableT (freshCell P1.m.cls N.kN) W.heap.size u0 sen) W.cur).withEntry W.cur) := ⟨{ ci198 := ci198, i198 := i198, fBack := fB }, ⟨hk198, hg198, ha198, hsB⟩, hbk, fun _ _ => rfl⟩
  obtain ⟨vm', X3, st, -⟩ := X.throwsNpeColdBareVAt hexec hg hsize T L Z LZ N LN P1 L1 [PR, PE] hLs hlink1 ⟨hlinkR, hlinkE, trivial⟩ hfound hk hinit hordN hctor hsel0 hselF hcellS hknownS hvU hvSen
    hv0 xC xS xP tkC tkS tkP tkX Y.objLocals hskip (fun _ _ hA hW _ hroom _ hrest => L.nativeOff p htr hA hW hroom hrest) (by simpa using hRframes) hRlocals (by simp) hRcells (by rw [hn]; exact hRslots)
  have hlt : W.heap.size < ((W.pushCell (freshCell P1.m.cls N.kN)).setVm vm').heap.size := by
    show W.heap.size < (W.pushCell (freshCell P1.m.cls N.kN)).heap.size
    rw [State.heap_size_pushCell]; omega
  rw [hfsz] at X3
  obtain ⟨g₁, hfrM⟩ := X3.frames_eq
  have hU : ((((W.pushCell (freshCell P1.m.cls N.kN)).setVm vm').setCell W.heap.size (npeBareV T.toThrowableT N.toNpeT (freshCell P1.m.cls N.kN) W.heap.size u0 sen)).setTop g).pushFrame (.throwing W.heap.size) = (((W.pushCell (freshCell P1.m.cls N.kN)).setVm vm').setCell W.heap.size (npeBareV T.toThrowableT N.toNpeT (freshCell P1.m.cls N.kN) W.heap.size u0 sen)).setFrames (.throwing W.heap.size :: .java g :: below) := by
    rw [State.pushFrame, State.frames_setTop _ hfrM, State.setTop_of_frames _ hfrM, State.setFrames_setFrames]
  refine ⟨_, W.heap.size, _, fun target ht => st.trans (by rw [← hU]; exact ht), X3.forget (fun y hy => ?_), heapAt_setCell_self _ hlt, hfound, rfl⟩
  simp only [List.mem_cons, List.not_mem_nil, or_false] at hy
  have hge : s.heap.size ≤ W.heap.size := X.same.2.1
  rcases hy with rfl | rfl | rfl | rfl | rfl <;> exact hge
/-- the words of a machine's NullPointerException, but the four that speak of the heap -/
def vx_atN (n : Nat) : List Cond := (Bundle.npeArmAtoms n).filter vx_no
/-- the words of a machine's throw with a message, but the four that speak of the heap -/
def vx_atM (X : String) (names : List String) : List Cond := (Bundle.messageArmAtoms X names).filter vx_no
section
variable {p : Program} {l : Launch} {e : Env} {R : Room} {s : State} {m : MethodId} {args : Array Value} {below : List Frame} {meth : Method} {c : Code} {H : Heap} {locs : List Loc} {cells slots : Nat}
/-- a frame seen from a rebased start, seen from the first start again -/
theorem vx_back9 {T S : State} {R' : Room} {k n : Nat} (X : Stand p l e R s m args below meth c T locs cells slots) (Y : Stand p l e R' ((T.setVm s.vm).setFrames (.invoking m args :: below)) m args below meth c T [] 0 0) (Z : Stand p l e R' ((T.setVm s.vm).setFrames (.invoking m args :: below)) m args below meth c S [] k n) :
    Stand p l e R s m args below meth c S locs (cells + k) (slots + n) := by
  have hW0 : s.WarmedH ((T.setVm s.vm).setFrames (.invoking m args :: below)).vm := State.WarmedH.refl s
  refine { admits := X.admits, cas := X.cas, clock := X.clock, frames := X.frames, room := X.room, hears := X.hears, method := X.method, code := X.code, here := Z.here, tail := Z.tail, warmed := State.WarmedH.trans hW0 Z.warmed, limits := Z.limits.trans (Y.limits.symm.trans X.limits), bytes := Z.bytes.trans (Y.bytes.symm.trans X.bytes), same := ?_ }
  obtain ⟨e1, e2⟩ := Z.same
  rw [State.setFrames_setFrames] at e1
  have h2 : (T.setVm s.vm).sameButNew (S.setVm s.vm) [] k n := ⟨e1, e2⟩
  have h3 := X.same.trans h2
  rw [List.append_nil] at h3
  exact h3
/-- from the machine's note that E is thrown here with this text -/
def vx_Note (p : Program) (l : Launch) (e : Env) (R : Room) (s : State) (m : MethodId) (args : Array Value) (below : List Frame) (meth : Method) (c : Code) (H : Heap) (locs : List Loc) (cells slots : Nat) (Q : State → Prop) (g : JFrame) (E text : String) : Prop :=
  ∀ T : State, T.heap = H → Stand p l e R s m args below meth c T locs cells slots → ∃ t, Steps p.tables e below ((T.setTop g).pushFrame (.throwNew E (some text) none)) t ∧ Q t
theorem vx_vm {pc : Nat} {ls : Array Slot} {rest : List Value} {Q : State → Prop} (hexec : p.tables.exec = Jvm.exec) (hl : l.stackTraces = false) {cls text : String} {names : List String} {nb : Nat} {A : Nat → Prop}
    (hcls : Bundle.fit cls = true) (hnames : ∀ n ∈ names, Bundle.fit n = true) (hsoe : (cls == "java/lang/StackOverflowError") = false) (hoom : (cls == "java/lang/OutOfMemoryError") = false)
    (hat : ∀ w ∈ vx_atM cls names, w.before args s = true) (hgood : ∀ w ∈ vx_atM cls names, vx_ot w = true)
    (hU : vx_Zq Bundle.tN "UNASSIGNED_STACK" Bundle.steD A s s.heap) (hN : vx_Zq Bundle.tN "SUPPRESSED_SENTINEL" Bundle.listD A s s.heap) (hS : va_S A s.heap H locs) (hsize : ls.size = c.maxLocals)
    (htext : (text == notModelled) = false) (hnb : (stringBytes (stringToUtf16 text)).size ≤ nb) (hnb1 : nb ≤ 1000)
    (hRframes : names.length + 4 < R.frames) (hRlocals : (rest.map fun v => v.category).sum + 10240 ≤ R.locals) (hshort : 13 * names.length + 55 ≤ 10240) (hRcells : cells + 3 ≤ R.cells) (hRslots : slots + (nb + 10) ≤ R.slots) (hlocks : meth.locks = false)
    (k : ∀ (H1 : Heap) (q9 : Addr) (ce : Cell), H.size ≤ H1.size → (∀ q : Nat, q < H.size → H1[q]? = H[q]?) → va_S A s.heap H1 locs → H1[q9]? = some ce → ce.vm = .none → s.vm.findClass cls = some ce.cls → vx_W p l e R s m args below meth c H1 locs (cells + 3) (slots + (nb + 10)) Q (F0 m pc ls rest) q9) :
    vx_Note p l e R s m args below meth c H locs cells slots Q (F0 m pc ls rest) cls text := by
  intro T hT X
  have htr : e.platform.stackTraces = false := (show e.platform.stackTraces = l.stackTraces by rw [X.admits.platform]).trans hl
  have Y := vx_rebase X (R' := { frames := R.frames, locals := R.locals, cells := 3, slots := nb + 10 }) (Nat.le_refl _) (Nat.le_refl _) hRcells hRslots
  have hhp : ((T.setVm s.vm).setFrames (.invoking m args :: below)).heap = H := hT
  have hW0 : s.WarmedH ((T.setVm s.vm).setFrames (.invoking m args :: below)).vm := State.WarmedH.refl s
  have hat' : ∀ w ∈ vx_atM cls names, w.before args ((T.setVm s.vm).setFrames (.invoking m args :: below)) = true := fun w hw => vx_ot_at hW0 rfl (hgood w hw) (hat w hw)
  have hU' : vx_Zq Bundle.tN "UNASSIGNED_STACK" Bundle.steD A ((T.setVm s.vm).setFrames (.invoking m args :: below)) ((T.setVm s.vm).setFrames (.invoking m args :: below)).heap := by rw [hhp]; exact vx_Zq.moved hW0.alike (hU.kept hS.2.1)
  have hN' : vx_Zq Bundle.tN "SUPPRESSED_SENTINEL" Bundle.listD A ((T.setVm s.vm).setFrames (.invoking m args :: below)) ((T.setVm s.vm).setFrames (.invoking m args :: below)).heap := by rw [hhp]; exact vx_Zq.moved hW0.alike (hN.kept hS.2.1)
  obtain ⟨S, q, ce, st, Z, hce, hcl', hv⟩ := vx_vmAt Y hexec htr (cls := cls) (names := names) (text := text) hcls hnames hsoe hoom (vx_own hat' (vx_isRefq hU'.1) (vx_isRefq hN'.1) hU'.2.word hN'.2.word) (fun x hx => nomatch hx) htext
    (by rw [Launch.admits_arrayLengthLimit X.admits]; omega) (by rw [Launch.admits_maxHeapBytes X.admits]; simp only [componentBytes]; omega)
    (g := F0 m pc ls rest) rfl hsize hRframes (by show 2 * 0 + (rest.map fun v => v.category).sum + 10240 ≤ R.locals; omega) hshort (by show 0 + 3 ≤ 3; omega) (by show 0 + (_ + 4 + 6) ≤ nb + 10; omega) hlocks
  obtain ⟨f1, f2⟩ := vx_frame Z.same
  have f1' : H.size ≤ S.heap.size := by rw [← hT]; exact f1
  have f2' : ∀ q : Nat, q < H.size → S.heap[q]? = H[q]? := fun q hq => by
    rw [← hT]
    exact f2 q (by rw [← hT] at hq; exact hq) (fun z hz => nomatch hz)
  have X5 := vx_back9 X Y Z
  have X6 : Stand p l e R s m args below meth c S locs (cells + 3) (slots + (nb + 10)) := { X5 with same := X5.same.mono (by omega) (by omega) }
  obtain ⟨t, a1, b1⟩ := k S.heap q ce f1' f2' ⟨Nat.le_trans hS.1 f1', fun q h1 h2 => (f2' q (Nat.lt_of_lt_of_le h1 hS.1)).trans (hS.2.1 q h1 h2), hS.2.2⟩ hce hv hcl' S rfl X6
  exact ⟨t, st t a1, b1⟩
/-- from the machine's note that NullPointerException is thrown here -/
def vx_NoteN (p : Program) (l : Launch) (e : Env) (R : Room) (s : State) (m : MethodId) (args : Array Value) (below : List Frame) (meth : Method) (c : Code) (H : Heap) (locs : List Loc) (cells slots : Nat) (Q : State → Prop) (g : JFrame) : Prop :=
  ∀ T : State, T.heap = H → Stand p l e R s m args below meth c T locs cells slots → ∃ t, Steps p.tables e below ((T.setTop g).pushFrame (.throwNew "java/lang/NullPointerException" none none)) t ∧ Q t
theorem vx_npe {pc : Nat} {ls : Array Slot} {rest : List Value} {Q : State → Prop} (hexec : p.tables.exec = Jvm.exec) (hl : l.stackTraces = false) {nb : Nat} {A : Nat → Prop}
    (hat : ∀ w ∈ vx_atN nb, w.before args s = true) (hgood : ∀ w ∈ vx_atN nb, vx_ot w = true)
    (hU : vx_Zq Bundle.tN "UNASSIGNED_STACK" Bundle.steD A s s.heap) (hN : vx_Zq Bundle.tN "SUPPRESSED_SENTINEL" Bundle.listD A s s.heap) (hS : va_S A s.heap H locs) (hsize : ls.size = c.maxLocals)
    (hRframes : 7 < R.frames) (hRlocals : (rest.map fun v => v.category).sum + 10240 ≤ R.locals) (hRcells : cells + 1 ≤ R.cells) (hRslots : slots + nb ≤ R.slots) (hlocks : meth.locks = false)
    (k : ∀ (H1 : Heap) (q9 : Addr) (ce : Cell), H.size ≤ H1.size → (∀ q : Nat, q < H.size → H1[q]? = H[q]?) → va_S A s.heap H1 locs → H1[q9]? = some ce → ce.vm = .none → s.vm.findClass "java/lang/NullPointerException" = some ce.cls → vx_W p l e R s m args below meth c H1 locs (cells + 1) (slots + nb) Q (F0 m pc ls rest) q9) :
    vx_NoteN p l e R s m args below meth c H locs cells slots Q (F0 m pc ls rest) := by
  intro T hT X
  have htr : e.platform.stackTraces = false := (show e.platform.stackTraces = l.stackTraces by rw [X.admits.platform]).trans hl
  have Y := vx_rebase X (R' := { frames := R.frames, locals := R.locals, cells := 1, slots := nb }) (Nat.le_refl _) (Nat.le_refl _) hRcells hRslots
  have hhp : ((T.setVm s.vm).setFrames (.invoking m args :: below)).heap = H := hT
  have hW0 : s.WarmedH ((T.setVm s.vm).setFrames (.invoking m args :: below)).vm := State.WarmedH.refl s
  have hat' : ∀ w ∈ vx_atN nb, w.before args ((T.setVm s.vm).setFrames (.invoking m args :: below)) = true := fun w hw => vx_ot_at hW0 rfl (hgood w hw) (hat w hw)
  have hU' : vx_Zq Bundle.tN "UNASSIGNED_STACK" Bundle.steD A ((T.setVm s.vm).setFrames (.invoking m args :: below)) ((T.setVm s.vm).setFrames (.invoking m args :: below)).heap := by rw [hhp]; exact vx_Zq.moved hW0.alike (hU.kept hS.2.1)
  have hN' : vx_Zq Bundle.tN "SUPPRESSED_SENTINEL" Bundle.listD A ((T.setVm s.vm).setFrames (.invoking m args :: below)) ((T.setVm s.vm).setFrames (.invoking m args :: below)).heap := by rw [hhp]; exact vx_Zq.moved hW0.alike (hN.kept hS.2.1)
  obtain ⟨S, q, ce, st, Z, hce, hcl', hv⟩ := vx_npeAt Y hexec htr (n := nb) (vx_own hat' (vx_isRefq hU'.1) (vx_isRefq hN'.1) hU'.2.word hN'.2.word) (fun x hx => nomatch hx)
    (g := F0 m pc ls rest) rfl hsize hRframes (by show 2 * 0 + (rest.map fun v => v.category).sum + 10240 ≤ R.locals; omega) (by show 0 + 1 ≤ 1; omega) (by show 0 + nb ≤ nb; omega) hlocks
  obtain ⟨f1, f2⟩ := vx_frame Z.same
  have f1' : H.size ≤ S.heap.size := by rw [← hT]; exact f1
  have f2' : ∀ q : Nat, q < H.size → S.heap[q]? = H[q]? := fun q hq => by
    rw [← hT]
    exact f2 q (by rw [← hT] at hq; exact hq) (fun z hz => nomatch hz)
  have X5 := vx_back9 X Y Z
  have X6 : Stand p l e R s m args below meth c S locs (cells + 1) (slots + nb) := { X5 with same := X5.same.mono (by omega) (by omega) }
  obtain ⟨t, a1, b1⟩ := k S.heap q ce f1' f2' ⟨Nat.le_trans hS.1 f1', fun q h1 h2 => (f2' q (Nat.lt_of_lt_of_le h1 hS.1)).trans (hS.2.1 q h1 h2), hS.2.2⟩ hce hv hcl' S rfl X6
  exact ⟨t, st t a1, b1⟩
variable {Q : State → Prop} {cc : ByteArray} {pc : Nat} {ls : Array Slot} {rest : List Value}
theorem vx_idivZ (hexec : p.tables.exec = Jvm.exec) (hb : c.code = cc) {a b : Int32} (h0 : b = 0) (d : decode cc pc = .ok (.idiv, 1)) (k : vx_Note p l e R s m args below meth c H locs cells slots Q (F0 m pc ls rest) "java/lang/ArithmeticException" "/ by zero") :
    W p l e R s m args below meth c H locs cells slots Q (F0 m pc ls (.int b :: .int a :: rest)) := by
  intro T hT X
  obtain ⟨t, st, q⟩ := k T hT X
  exact ⟨t, X.idivZero hexec (g := F0 m pc ls (.int b :: .int a :: rest)) rfl (a := a) (rest := rest) (by rw [h0]) (by rw [hb]; exact d) t st, q⟩
theorem vx_iremZ (hexec : p.tables.exec = Jvm.exec) (hb : c.code = cc) {a b : Int32} (h0 : b = 0) (d : decode cc pc = .ok (.irem, 1)) (k : vx_Note p l e R s m args below meth c H locs cells slots Q (F0 m pc ls rest) "java/lang/ArithmeticException" "/ by zero") :
    W p l e R s m args below meth c H locs cells slots Q (F0 m pc ls (.int b :: .int a :: rest)) := by
  intro T hT X
  obtain ⟨t, st, q⟩ := k T hT X
  exact ⟨t, X.iremZero hexec (g := F0 m pc ls (.int b :: .int a :: rest)) rfl (a := a) (rest := rest) (by rw [h0]) (by rw [hb]; exact d) t st, q⟩
theorem vx_ldivZ (hexec : p.tables.exec = Jvm.exec) (hb : c.code = cc) {a b : Int64} (h0 : b = 0) (d : decode cc pc = .ok (.ldiv, 1)) (k : vx_Note p l e R s m args below meth c H locs cells slots Q (F0 m pc ls rest) "java/lang/ArithmeticException" "/ by zero") :
    W p l e R s m args below meth c H locs cells slots Q (F0 m pc ls (.long b :: .long a :: rest)) := by
  intro T hT X
  obtain ⟨t, st, q⟩ := k T hT X
  exact ⟨t, X.ldivZero hexec (g := F0 m pc ls (.long b :: .long a :: rest)) rfl (a := a) (rest := rest) (by rw [h0]) (by rw [hb]; exact d) t st, q⟩
theorem vx_lremZ (hexec : p.tables.exec = Jvm.exec) (hb : c.code = cc) {a b : Int64} (h0 : b = 0) (d : decode cc pc = .ok (.lrem, 1)) (k : vx_Note p l e R s m args below meth c H locs cells slots Q (F0 m pc ls rest) "java/lang/ArithmeticException" "/ by zero") :
    W p l e R s m args below meth c H locs cells slots Q (F0 m pc ls (.long b :: .long a :: rest)) := by
  intro T hT X
  obtain ⟨t, st, q⟩ := k T hT X
  exact ⟨t, X.lremZero hexec (g := F0 m pc ls (.long b :: .long a :: rest)) rfl (a := a) (rest := rest) (by rw [h0]) (by rw [hb]; exact d) t st, q⟩
theorem vx_ialdZ {D : va_G} {cl : List vw_C} {ws : va_W} {tys : List (ClassId × FieldType)} {a : Nat} (hexec : p.tables.exec = Jvm.exec) (hb : c.code = cc) (hK : va_K D cl tys s) (hP : va_P D cl ws H) (q0 t0 : Nat) {cA : ClassId} {n : Nat} {f : Nat → Int32} (ha : ws[q0]? = some (a, .inl (cA, n, .inl f))) (ht : tys[t0]? = some (cA, .int)) {i : Int32} (hout : ¬ vp_in i n) (hdg : decode cc pc = .ok (.iaload, 1))
    (k : ∀ tx : String, tx = (toString "Index " ++ toString i ++ toString " out of bounds for length " ++ toString n : String) → vx_Note p l e R s m args below meth c H locs cells slots Q (F0 m pc ls rest) "java/lang/ArrayIndexOutOfBoundsException" tx) : W p l e R s m args below meth c H locs cells slots Q (F0 m pc ls (.int i :: .ref a :: rest)) := by
  intro T hT X
  obtain ⟨t, st, q⟩ := k _ rfl T hT X
  refine ⟨t, ?_, q⟩
  have h1 := X.ialoadOut hexec (by rw [hT]; exact hP q0 _ ha) ((hK.2 t0 _ ht).1 n (fun j => .int (f j))) (j := i) (by show (i < 0 ∨ (arrV _ _ _).slots.size ≤ _); rw [arrV_size]; exact Classical.byContradiction hout) (g := F0 m pc ls (.int i :: .ref a :: rest)) rfl (rest := rest) rfl (by rw [hb]; exact hdg) t
  simp only [arrV_size] at h1
  exact h1 st
theorem vx_iastZ {D : va_G} {cl : List vw_C} {ws : va_W} {tys : List (ClassId × FieldType)} {a : Nat} (hexec : p.tables.exec = Jvm.exec) (hb : c.code = cc) (hK : va_K D cl tys s) (hP : va_P D cl ws H) (q0 t0 : Nat) {cA : ClassId} {n : Nat} {f : Nat → Int32} (ha : ws[q0]? = some (a, .inl (cA, n, .inl f))) (ht : tys[t0]? = some (cA, .int)) {i : Int32} {x : Int32} (hout : ¬ vp_in i n) (hdg : decode cc pc = .ok (.iastore, 1))
    (k : ∀ tx : String, tx = (toString "Index " ++ toString i ++ toString " out of bounds for length " ++ toString n : String) → vx_Note p l e R s m args below meth c H locs cells slots Q (F0 m pc ls rest) "java/lang/ArrayIndexOutOfBoundsException" tx) : W p l e R s m args below meth c H locs cells slots Q (F0 m pc ls (.int x :: .int i :: .ref a :: rest)) := by
  intro T hT X
  obtain ⟨t, st, q⟩ := k _ rfl T hT X
  refine ⟨t, ?_, q⟩
  have h1 := X.iastoreOut hexec (by rw [hT]; exact hP q0 _ ha) ((hK.2 t0 _ ht).1 n (fun j => .int (f j))) (j := i) (by show (i < 0 ∨ (arrV _ _ _).slots.size ≤ _); rw [arrV_size]; exact Classical.byContradiction hout) (g := F0 m pc ls (.int x :: .int i :: .ref a :: rest)) rfl (rest := rest) rfl (by rw [hb]; exact hdg) t
  simp only [arrV_size] at h1
  exact h1 st
theorem vx_baldZ {D : va_G} {cl : List vw_C} {ws : va_W} {tys : List (ClassId × FieldType)} {a : Nat} (hexec : p.tables.exec = Jvm.exec) (hb : c.code = cc) (hK : va_K D cl tys s) (hP : va_P D cl ws H) (q0 t0 : Nat) {cA : ClassId} {n : Nat} {f : Nat → Int32} (ha : ws[q0]? = some (a, .inl (cA, n, .inl f))) (ht : tys[t0]? = some (cA, .byte)) {i : Int32} (hout : ¬ vp_in i n) (hdg : decode cc pc = .ok (.baload, 1))
    (k : ∀ tx : String, tx = (toString "Index " ++ toString i ++ toString " out of bounds for length " ++ toString n : String) → vx_Note p l e R s m args below meth c H locs cells slots Q (F0 m pc ls rest) "java/lang/ArrayIndexOutOfBoundsException" tx) : W p l e R s m args below meth c H locs cells slots Q (F0 m pc ls (.int i :: .ref a :: rest)) := by
  intro T hT X
  obtain ⟨t, st, q⟩ := k _ rfl T hT X
  refine ⟨t, ?_, q⟩
  have h1 := X.baloadOut hexec (by rw [hT]; exact hP q0 _ ha) ((hK.2 t0 _ ht).1 n (fun j => .int (f j))) (j := i) (by show (i < 0 ∨ (arrV _ _ _).slots.size ≤ _); rw [arrV_size]; exact Classical.byContradiction hout) (g := F0 m pc ls (.int i :: .ref a :: rest)) rfl (rest := rest) rfl (by rw [hb]; exact hdg) t
  simp only [arrV_size] at h1
  exact h1 st
theorem vx_bastZ {D : va_G} {cl : List vw_C} {ws : va_W} {tys : List (ClassId × FieldType)} {a : Nat} (hexec : p.tables.exec = Jvm.exec) (hb : c.code = cc) (hK : va_K D cl tys s) (hP : va_P D cl ws H) (q0 t0 : Nat) {cA : ClassId} {n : Nat} {f : Nat → Int32} (ha : ws[q0]? = some (a, .inl (cA, n, .inl f))) (ht : tys[t0]? = some (cA, .byte)) {i : Int32} {x : Int32} (hout : ¬ vp_in i n) (hdg : decode cc pc = .ok (.bastore, 1))
    (k : ∀ tx : String, tx = (toString "Index " ++ toString i ++ toString " out of bounds for length " ++ toString n : String) → vx_Note p l e R s m args below meth c H locs cells slots Q (F0 m pc ls rest) "java/lang/ArrayIndexOutOfBoundsException" tx) : W p l e R s m args below meth c H locs cells slots Q (F0 m pc ls (.int x :: .int i :: .ref a :: rest)) := by
  intro T hT X
  obtain ⟨t, st, q⟩ := k _ rfl T hT X
  refine ⟨t, ?_, q⟩
  have h1 := X.bastoreOut hexec (by rw [hT]; exact hP q0 _ ha) ((hK.2 t0 _ ht).1 n (fun j => .int (f j))) (j := i) (by show (i < 0 ∨ (arrV _ _ _).slots.size ≤ _); rw [arrV_size]; exact Classical.byContradiction hout) (g := F0 m pc ls (.int x :: .int i :: .ref a :: rest)) rfl (rest := rest) rfl (by rw [hb]; exact hdg) t
  simp only [arrV_size] at h1
  exact h1 st
theorem vx_zaldZ {D : va_G} {cl : List vw_C} {ws : va_W} {tys : List (ClassId × FieldType)} {a : Nat} (hexec : p.tables.exec = Jvm.exec) (hb : c.code = cc) (hK : va_K D cl tys s) (hP : va_P D cl ws H) (q0 t0 : Nat) {cA : ClassId} {n : Nat} {f : Nat → Int32} (ha : ws[q0]? = some (a, .inl (cA, n, .inl f))) (ht : tys[t0]? = some (cA, .boolean)) {i : Int32} (hout : ¬ vp_in i n) (hdg : decode cc pc = .ok (.baload, 1))
    (k : ∀ tx : String, tx = (toString "Index " ++ toString i ++ toString " out of bounds for length " ++ toString n : String) → vx_Note p l e R s m args below meth c H locs cells slots Q (F0 m pc ls rest) "java/lang/ArrayIndexOutOfBoundsException" tx) : W p l e R s m args below meth c H locs cells slots Q (F0 m pc ls (.int i :: .ref a :: rest)) := by
  intro T hT X
  obtain ⟨t, st, q⟩ := k _ rfl T hT X
  refine ⟨t, ?_, q⟩
  have h1 := X.baloadOut hexec (by rw [hT]; exact hP q0 _ ha) ((hK.2 t0 _ ht).1 n (fun j => .int (f j))) (j := i) (by show (i < 0 ∨ (arrV _ _ _).slots.size ≤ _); rw [arrV_size]; exact Classical.byContradiction hout) (g := F0 m pc ls (.int i :: .ref a :: rest)) rfl (rest := rest) rfl (by rw [hb]; exact hdg) t
  simp only [arrV_size] at h1
  exact h1 st
theorem vx_zastZ {D : va_G} {cl : List vw_C} {ws : va_W} {tys : List (ClassId × FieldType)} {a : Nat} (hexec : p.tables.exec = Jvm.exec) (hb : c.code = cc) (hK : va_K D cl tys s) (hP : va_P D cl ws H) (q0 t0 : Nat) {cA : ClassId} {n : Nat} {f : Nat → Int32} (ha : ws[q0]? = some (a, .inl (cA, n, .inl f))) (ht : tys[t0]? = some (cA, .boolean)) {i : Int32} {x : Int32} (hout : ¬ vp_in i n) (hdg : decode cc pc = .ok (.bastore, 1))
    (k : ∀ tx : String, tx = (toString "Index " ++ toString i ++ toString " out of bounds for length " ++ toString n : String) → vx_Note p l e R s m args below meth c H locs cells slots Q (F0 m pc ls rest) "java/lang/ArrayIndexOutOfBoundsException" tx) : W p l e R s m args below meth c H locs cells slots Q (F0 m pc ls (.int x :: .int i :: .ref a :: rest)) := by
  intro T hT X
  obtain ⟨t, st, q⟩ := k _ rfl T hT X
  refine ⟨t, ?_, q⟩
  have h1 := X.bastoreOut hexec (by rw [hT]; exact hP q0 _ ha) ((hK.2 t0 _ ht).1 n (fun j => .int (f j))) (j := i) (by show (i < 0 ∨ (arrV _ _ _).slots.size ≤ _); rw [arrV_size]; exact Classical.byContradiction hout) (g := F0 m pc ls (.int x :: .int i :: .ref a :: rest)) rfl (rest := rest) rfl (by rw [hb]; exact hdg) t
  simp only [arrV_size] at h1
  exact h1 st
theorem vx_caldZ {D : va_G} {cl : List vw_C} {ws : va_W} {tys : List (ClassId × FieldType)} {a : Nat} (hexec : p.tables.exec = Jvm.exec) (hb : c.code = cc) (hK : va_K D cl tys s) (hP : va_P D cl ws H) (q0 t0 : Nat) {cA : ClassId} {n : Nat} {f : Nat → Int32} (ha : ws[q0]? = some (a, .inl (cA, n, .inl f))) (ht : tys[t0]? = some (cA, .char)) {i : Int32} (hout : ¬ vp_in i n) (hdg : decode cc pc = .ok (.caload, 1))
    (k : ∀ tx : String, tx = (toString "Index " ++ toString i ++ toString " out of bounds for length " ++ toString n : String) → vx_Note p l e R s m args below meth c H locs cells slots Q (F0 m pc ls rest) "java/lang/ArrayIndexOutOfBoundsException" tx) : W p l e R s m args below meth c H locs cells slots Q (F0 m pc ls (.int i :: .ref a :: rest)) := by
  intro T hT X
  obtain ⟨t, st, q⟩ := k _ rfl T hT X
  refine ⟨t, ?_, q⟩
  have h1 := X.caloadOut hexec (by rw [hT]; exact hP q0 _ ha) ((hK.2 t0 _ ht).1 n (fun j => .int (f j))) (j := i) (by show (i < 0 ∨ (arrV _ _ _).slots.size ≤ _); rw [arrV_size]; exact Classical.byContradiction hout) (g := F0 m pc ls (.int i :: .ref a :: rest)) rfl (rest := rest) rfl (by rw [hb]; exact hdg) t
  simp only [arrV_size] at h1
  exact h1 st
theorem vx_castZ {D : va_G} {cl : List vw_C} {ws : va_W} {tys : List (ClassId × FieldType)} {a : Nat} (hexec : p.tables.exec = Jvm.exec) (hb : c.code = cc) (hK : va_K D cl tys s) (hP : va_P D cl ws H) (q0 t0 : Nat) {cA : ClassId} {n : Nat} {f : Nat → Int32} (ha : ws[q0]? = some (a, .inl (cA, n, .inl f))) (ht : tys[t0]? = some (cA, .char)) {i : Int32} {x : Int32} (hout : ¬ vp_in i n) (hdg : decode cc pc = .ok (.castore, 1))
    (k : ∀ tx : String, tx = (toString "Index " ++ toString i ++ toString " out of bounds for length " ++ toString n : String) → vx_Note p l e R s m args below meth c H locs cells slots Q (F0 m pc ls rest) "java/lang/ArrayIndexOutOfBoundsException" tx) : W p l e R s m args below meth c H locs cells slots Q (F0 m pc ls (.int x :: .int i :: .ref a :: rest)) := by
  intro T hT X
  obtain ⟨t, st, q⟩ := k _ rfl T hT X
  refine ⟨t, ?_, q⟩
  have h1 := X.castoreOut hexec (by rw [hT]; exact hP q0 _ ha) ((hK.2 t0 _ ht).1 n (fun j => .int (f j))) (j := i) (by show (i < 0 ∨ (arrV _ _ _).slots.size ≤ _); rw [arrV_size]; exact Classical.byContradiction hout) (g := F0 m pc ls (.int x :: .int i :: .ref a :: rest)) rfl (rest := rest) rfl (by rw [hb]; exact hdg) t
  simp only [arrV_size] at h1
  exact h1 st
theorem vx_saldZ {D : va_G} {cl : List vw_C} {ws : va_W} {tys : List (ClassId × FieldType)} {a : Nat} (hexec : p.tables.exec = Jvm.exec) (hb : c.code = cc) (hK : va_K D cl tys s) (hP : va_P D cl ws H) (q0 t0 : Nat) {cA : ClassId} {n : Nat} {f : Nat → Int32} (ha : ws[q0]? = some (a, .inl (cA, n, .inl f))) (ht : tys[t0]? = some (cA, .short)) {i : Int32} (hout : ¬ vp_in i n) (hdg : decode cc pc = .ok (.saload, 1))
    (k : ∀ tx : String, tx = (toString "Index " ++ toString i ++ toString " out of bounds for length " ++ toString n : String) → vx_Note p l e R s m args below meth c H locs cells slots Q (F0 m pc ls rest) "java/lang/ArrayIndexOutOfBoundsException" tx) : W p l e R s m args below meth c H locs cells slots Q (F0 m pc ls (.int i :: .ref a :: rest)) := by
  intro T hT X
  obtain ⟨t, st, q⟩ := k _ rfl T hT X
  refine ⟨t, ?_, q⟩
  have h1 := X.saloadOut hexec (by rw [hT]; exact hP q0 _ ha) ((hK.2 t0 _ ht).1 n (fun j => .int (f j))) (j := i) (by show (i < 0 ∨ (arrV _ _ _).slots.size ≤ _); rw [arrV_size]; exact Classical.byContradiction hout) (g := F0 m pc ls (.int i :: .ref a :: rest)) rfl (rest := rest) rfl (by rw [hb]; exact hdg) t
  simp only [arrV_size] at h1
  exact h1 st
theorem vx_sastZ {D : va_G} {cl : List vw_C} {ws : va_W} {tys : List (ClassId × FieldType)} {a : Nat} (hexec : p.tables.exec = Jvm.exec) (hb : c.code = cc) (hK : va_K D cl tys s) (hP : va_P D cl ws H) (q0 t0 : Nat) {cA : ClassId} {n : Nat} {f : Nat → Int32} (ha : ws[q0]? = some (a, .inl (cA, n, .inl f))) (ht : tys[t0]? = some (cA, .short)) {i : Int32} {x : Int32} (hout : ¬ vp_in i n) (hdg : decode cc pc = .ok (.sastore, 1))
    (k : ∀ tx : String, tx = (toString "Index " ++ toString i ++ toString " out of bounds for length " ++ toString n : String) → vx_Note p l e R s m args below meth c H locs cells slots Q (F0 m pc ls rest) "java/lang/ArrayIndexOutOfBoundsException" tx) : W p l e R s m args below meth c H locs cells slots Q (F0 m pc ls (.int x :: .int i :: .ref a :: rest)) := by
  intro T hT X
  obtain ⟨t, st, q⟩ := k _ rfl T hT X
  refine ⟨t, ?_, q⟩
  have h1 := X.sastoreOut hexec (by rw [hT]; exact hP q0 _ ha) ((hK.2 t0 _ ht).1 n (fun j => .int (f j))) (j := i) (by show (i < 0 ∨ (arrV _ _ _).slots.size ≤ _); rw [arrV_size]; exact Classical.byContradiction hout) (g := F0 m pc ls (.int x :: .int i :: .ref a :: rest)) rfl (rest := rest) rfl (by rw [hb]; exact hdg) t
  simp only [arrV_size] at h1
  exact h1 st
theorem vx_laldZ {D : va_G} {cl : List vw_C} {ws : va_W} {tys : List (ClassId × FieldType)} {a : Nat} (hexec : p.tables.exec = Jvm.exec) (hb : c.code = cc) (hK : va_K D cl tys s) (hP : va_P D cl ws H) (q0 t0 : Nat) {cA : ClassId} {n : Nat} {f : Nat → Int64} (ha : ws[q0]? = some (a, .inl (cA, n, .inr (.inl f)))) (ht : tys[t0]? = some (cA, .long)) {i : Int32} (hout : ¬ vp_in i n) (hdg : decode cc pc = .ok (.laload, 1))
    (k : ∀ tx : String, tx = (toString "Index " ++ toString i ++ toString " out of bounds for length " ++ toString n : String) → vx_Note p l e R s m args below meth c H locs cells slots Q (F0 m pc ls rest) "java/lang/ArrayIndexOutOfBoundsException" tx) : W p l e R s m args below meth c H locs cells slots Q (F0 m pc ls (.int i :: .ref a :: rest)) := by
  intro T hT X
  obtain ⟨t, st, q⟩ := k _ rfl T hT X
  refine ⟨t, ?_, q⟩
  have h1 := X.laloadOut hexec (by rw [hT]; exact hP q0 _ ha) ((hK.2 t0 _ ht).1 n (fun j => .long (f j))) (j := i) (by show (i < 0 ∨ (arrV _ _ _).slots.size ≤ _); rw [arrV_size]; exact Classical.byContradiction hout) (g := F0 m pc ls (.int i :: .ref a :: rest)) rfl (rest := rest) rfl (by rw [hb]; exact hdg) t
  simp only [arrV_size] at h1
  exact h1 st
theorem vx_lastZ {D : va_G} {cl : List vw_C} {ws : va_W} {tys : List (ClassId × FieldType)} {a : Nat} (hexec : p.tables.exec = Jvm.exec) (hb : c.code = cc) (hK : va_K D cl tys s) (hP : va_P D cl ws H) (q0 t0 : Nat) {cA : ClassId} {n : Nat} {f : Nat → Int64} (ha : ws[q0]? = some (a, .inl (cA, n, .inr (.inl f)))) (ht : tys[t0]? = some (cA, .long)) {i : Int32} {x : Int64} (hout : ¬ vp_in i n) (hdg : decode cc pc = .ok (.lastore, 1))
    (k : ∀ tx : String, tx = (toString "Index " ++ toString i ++ toString " out of bounds for length " ++ toString n : String) → vx_Note p l e R s m args below meth c H locs cells slots Q (F0 m pc ls rest) "java/lang/ArrayIndexOutOfBoundsException" tx) : W p l e R s m args below meth c H locs cells slots Q (F0 m pc ls (.long x :: .int i :: .ref a :: rest)) := by
  intro T hT X
  obtain ⟨t, st, q⟩ := k _ rfl T hT X
  refine ⟨t, ?_, q⟩
  have h1 := X.lastoreOut hexec (by rw [hT]; exact hP q0 _ ha) ((hK.2 t0 _ ht).1 n (fun j => .long (f j))) (j := i) (by show (i < 0 ∨ (arrV _ _ _).slots.size ≤ _); rw [arrV_size]; exact Classical.byContradiction hout) (g := F0 m pc ls (.long x :: .int i :: .ref a :: rest)) rfl (rest := rest) rfl (by rw [hb]; exact hdg) t
  simp only [arrV_size] at h1
  exact h1 st
theorem vx_faldZ {D : va_G} {cl : List vw_C} {ws : va_W} {tys : List (ClassId × FieldType)} {a : Nat} (hexec : p.tables.exec = Jvm.exec) (hb : c.code = cc) (hK : va_K D cl tys s) (hP : va_P D cl ws H) (q0 t0 : Nat) {cA : ClassId} {n : Nat} {f : Nat → UInt32} (ha : ws[q0]? = some (a, .inl (cA, n, .inr (.inr (.inl f))))) (ht : tys[t0]? = some (cA, .float)) {i : Int32} (hout : ¬ vp_in i n) (hdg : decode cc pc = .ok (.faload, 1))
    (k : ∀ tx : String, tx = (toString "Index " ++ toString i ++ toString " out of bounds for length " ++ toString n : String) → vx_Note p l e R s m args below meth c H locs cells slots Q (F0 m pc ls rest) "java/lang/ArrayIndexOutOfBoundsException" tx) : W p l e R s m args below meth c H locs cells slots Q (F0 m pc ls (.int i :: .ref a :: rest)) := by
  intro T hT X
  obtain ⟨t, st, q⟩ := k _ rfl T hT X
  refine ⟨t, ?_, q⟩
  have h1 := X.faloadOut hexec (by rw [hT]; exact hP q0 _ ha) ((hK.2 t0 _ ht).1 n (fun j => .float (f j))) (j := i) (by show (i < 0 ∨ (arrV _ _ _).slots.size ≤ _); rw [arrV_size]; exact Classical.byContradiction hout) (g := F0 m pc ls (.int i :: .ref a :: rest)) rfl (rest := rest) rfl (by rw [hb]; exact hdg) t
  simp only [arrV_size] at h1
  exact h1 st
theorem vx_fastZ {D : va_G} {cl : List vw_C} {ws : va_W} {tys : List (ClassId × FieldType)} {a : Nat} (hexec : p.tables.exec = Jvm.exec) (hb : c.code = cc) (hK : va_K D cl tys s) (hP : va_P D cl ws H) (q0 t0 : Nat) {cA : ClassId} {n : Nat} {f : Nat → UInt32} (ha : ws[q0]? = some (a, .inl (cA, n, .inr (.inr (.inl f))))) (ht : tys[t0]? = some (cA, .float)) {i : Int32} {x : UInt32} (hout : ¬ vp_in i n) (hdg : decode cc pc = .ok (.fastore, 1))
    (k : ∀ tx : String, tx = (toString "Index " ++ toString i ++ toString " out of bounds for length " ++ toString n : String) → vx_Note p l e R s m args below meth c H locs cells slots Q (F0 m pc ls rest) "java/lang/ArrayIndexOutOfBoundsException" tx) : W p l e R s m args below meth c H locs cells slots Q (F0 m pc ls (.float x :: .int i :: .ref a :: rest)) := by
  intro T hT X
  obtain ⟨t, st, q⟩ := k _ rfl T hT X
  refine ⟨t, ?_, q⟩
  have h1 := X.fastoreOut hexec (by rw [hT]; exact hP q0 _ ha) ((hK.2 t0 _ ht).1 n (fun j => .float (f j))) (j := i) (by show (i < 0 ∨ (arrV _ _ _).slots.size ≤ _); rw [arrV_size]; exact Classical.byContradiction hout) (g := F0 m pc ls (.float x :: .int i :: .ref a :: rest)) rfl (rest := rest) rfl (by rw [hb]; exact hdg) t
  simp only [arrV_size] at h1
  exact h1 st
theorem vx_daldZ {D : va_G} {cl : List vw_C} {ws : va_W} {tys : List (ClassId × FieldType)} {a : Nat} (hexec : p.tables.exec = Jvm.exec) (hb : c.code = cc) (hK : va_K D cl tys s) (hP : va_P D cl ws H) (q0 t0 : Nat) {cA : ClassId} {n : Nat} {f : Nat → UInt64} (ha : ws[q0]? = some (a, .inl (cA, n, .inr (.inr (.inr (.inl f)))))) (ht : tys[t0]? = some (cA, .double)) {i : Int32} (hout : ¬ vp_in i n) (hdg : decode cc pc = .ok (.daload, 1))
    (k : ∀ tx : String, tx = (toString "Index " ++ toString i ++ toString " out of bounds for length " ++ toString n : String) → vx_Note p l e R s m args below meth c H locs cells slots Q (F0 m pc ls rest) "java/lang/ArrayIndexOutOfBoundsException" tx) : W p l e R s m args below meth c H locs cells slots Q (F0 m pc ls (.int i :: .ref a :: rest)) := by
  intro T hT X
  obtain ⟨t, st, q⟩ := k _ rfl T hT X
  refine ⟨t, ?_, q⟩
  have h1 := X.daloadOut hexec (by rw [hT]; exact hP q0 _ ha) ((hK.2 t0 _ ht).1 n (fun j => .double (f j))) (j := i) (by show (i < 0 ∨ (arrV _ _ _).slots.size ≤ _); rw [arrV_size]; exact Classical.byContradiction hout) (g := F0 m pc ls (.int i :: .ref a :: rest)) rfl (rest := rest) rfl (by rw [hb]; exact hdg) t
  simp only [arrV_size] at h1
  exact h1 st
theorem vx_dastZ {D : va_G} {cl : List vw_C} {ws : va_W} {tys : List (ClassId × FieldType)} {a : Nat} (hexec : p.tables.exec = Jvm.exec) (hb : c.code = cc) (hK : va_K D cl tys s) (hP : va_P D cl ws H) (q0 t0 : Nat) {cA : ClassId} {n : Nat} {f : Nat → UInt64} (ha : ws[q0]? = some (a, .inl (cA, n, .inr (.inr (.inr (.inl f)))))) (ht : tys[t0]? = some (cA, .double)) {i : Int32} {x : UInt64} (hout : ¬ vp_in i n) (hdg : decode cc pc = .ok (.dastore, 1))
    (k : ∀ tx : String, tx = (toString "Index " ++ toString i ++ toString " out of bounds for length " ++ toString n : String) → vx_Note p l e R s m args below meth c H locs cells slots Q (F0 m pc ls rest) "java/lang/ArrayIndexOutOfBoundsException" tx) : W p l e R s m args below meth c H locs cells slots Q (F0 m pc ls (.double x :: .int i :: .ref a :: rest)) := by
  intro T hT X
  obtain ⟨t, st, q⟩ := k _ rfl T hT X
  refine ⟨t, ?_, q⟩
  have h1 := X.dastoreOut hexec (by rw [hT]; exact hP q0 _ ha) ((hK.2 t0 _ ht).1 n (fun j => .double (f j))) (j := i) (by show (i < 0 ∨ (arrV _ _ _).slots.size ≤ _); rw [arrV_size]; exact Classical.byContradiction hout) (g := F0 m pc ls (.double x :: .int i :: .ref a :: rest)) rfl (rest := rest) rfl (by rw [hb]; exact hdg) t
  simp only [arrV_size] at h1
  exact h1 st
theorem vx_arraylengthN (hexec : p.tables.exec = Jvm.exec) (hb : c.code = cc) (hdg : decode cc pc = .ok (.arraylength, 1)) (k : vx_NoteN p l e R s m args below meth c H locs cells slots Q (F0 m pc ls rest)) : W p l e R s m args below meth c H locs cells slots Q (F0 m pc ls (.null :: rest)) := by
  intro T hT X
  obtain ⟨t, st, q⟩ := k T hT X
  exact ⟨t, X.arraylengthNull hexec (g := F0 m pc ls (.null :: rest)) rfl (rest := rest) rfl (by rw [hb]; exact hdg) t st, q⟩
theorem vx_ialoadN (hexec : p.tables.exec = Jvm.exec) (hb : c.code = cc) {i : Int32} (hdg : decode cc pc = .ok (.iaload, 1)) (k : vx_NoteN p l e R s m args below meth c H locs cells slots Q (F0 m pc ls rest)) : W p l e R s m args below meth c H locs cells slots Q (F0 m pc ls (.int i :: .null :: rest)) := by
  intro T hT X
  obtain ⟨t, st, q⟩ := k T hT X
  exact ⟨t, X.ialoadNull hexec (g := F0 m pc ls (.int i :: .null :: rest)) rfl (rest := rest) rfl (by rw [hb]; exact hdg) t st, q⟩
theorem vx_laloadN (hexec : p.tables.exec = Jvm.exec) (hb : c.code = cc) {i : Int32} (hdg : decode cc pc = .ok (.laload, 1)) (k : vx_NoteN p l e R s m args below meth c H locs cells slots Q (F0 m pc ls rest)) : W p l e R s m args below meth c H locs cells slots Q (F0 m pc ls (.int i :: .null :: rest)) := by
  intro T hT X
  obtain ⟨t, st, q⟩ := k T hT X
  exact ⟨t, X.laloadNull hexec (g := F0 m pc ls (.int i :: .null :: rest)) rfl (rest := rest) rfl (by rw [hb]; exact hdg) t st, q⟩
theorem vx_faloadN (hexec : p.tables.exec = Jvm.exec) (hb : c.code = cc) {i : Int32} (hdg : decode cc pc = .ok (.faload, 1)) (k : vx_NoteN p l e R s m args below meth c H locs cells slots Q (F0 m pc ls rest)) : W p l e R s m args below meth c H locs cells slots Q (F0 m pc ls (.int i :: .null :: rest)) := by
  intro T hT X
  obtain ⟨t, st, q⟩ := k T hT X
  exact ⟨t, X.faloadNull hexec (g := F0 m pc ls (.int i :: .null :: rest)) rfl (rest := rest) rfl (by rw [hb]; exact hdg) t st, q⟩
theorem vx_daloadN (hexec : p.tables.exec = Jvm.exec) (hb : c.code = cc) {i : Int32} (hdg : decode cc pc = .ok (.daload, 1)) (k : vx_NoteN p l e R s m args below meth c H locs cells slots Q (F0 m pc ls rest)) : W p l e R s m args below meth c H locs cells slots Q (F0 m pc ls (.int i :: .null :: rest)) := by
  intro T hT X
  obtain ⟨t, st, q⟩ := k T hT X
  exact ⟨t, X.daloadNull hexec (g := F0 m pc ls (.int i :: .null :: rest)) rfl (rest := rest) rfl (by rw [hb]; exact hdg) t st, q⟩
theorem vx_aaloadN (hexec : p.tables.exec = Jvm.exec) (hb : c.code = cc) {i : Int32} (hdg : decode cc pc = .ok (.aaload, 1)) (k : vx_NoteN p l e R s m args below meth c H locs cells slots Q (F0 m pc ls rest)) : W p l e R s m args below meth c H locs cells slots Q (F0 m pc ls (.int i :: .null :: rest)) := by
  intro T hT X
  obtain ⟨t, st, q⟩ := k T hT X
  exact ⟨t, X.aaloadNull hexec (g := F0 m pc ls (.int i :: .null :: rest)) rfl (rest := rest) rfl (by rw [hb]; exact hdg) t st, q⟩
theorem vx_baloadN (hexec : p.tables.exec = Jvm.exec) (hb : c.code = cc) {i : Int32} (hdg : decode cc pc = .ok (.baload, 1)) (k : vx_NoteN p l e R s m args below meth c H locs cells slots Q (F0 m pc ls rest)) : W p l e R s m args below meth c H locs cells slots Q (F0 m pc ls (.int i :: .null :: rest)) := by
  intro T hT X
  obtain ⟨t, st, q⟩ := k T hT X
  exact ⟨t, X.baloadNull hexec (g := F0 m pc ls (.int i :: .null :: rest)) rfl (rest := rest) rfl (by rw [hb]; exact hdg) t st, q⟩
theorem vx_caloadN (hexec : p.tables.exec = Jvm.exec) (hb : c.code = cc) {i : Int32} (hdg : decode cc pc = .ok (.caload, 1)) (k : vx_NoteN p l e R s m args below meth c H locs cells slots Q (F0 m pc ls rest)) : W p l e R s m args below meth c H locs cells slots Q (F0 m pc ls (.int i :: .null :: rest)) := by
  intro T hT X
  obtain ⟨t, st, q⟩ := k T hT X
  exact ⟨t, X.caloadNull hexec (g := F0 m pc ls (.int i :: .null :: rest)) rfl (rest := rest) rfl (by rw [hb]; exact hdg) t st, q⟩
theorem vx_saloadN (hexec : p.tables.exec = Jvm.exec) (hb : c.code = cc) {i : Int32} (hdg : decode cc pc = .ok (.saload, 1)) (k : vx_NoteN p l e R s m args below meth c H locs cells slots Q (F0 m pc ls rest)) : W p l e R s m args below meth c H locs cells slots Q (F0 m pc ls (.int i :: .null :: rest)) := by
  intro T hT X
  obtain ⟨t, st, q⟩ := k T hT X
  exact ⟨t, X.saloadNull hexec (g := F0 m pc ls (.int i :: .null :: rest)) rfl (rest := rest) rfl (by rw [hb]; exact hdg) t st, q⟩
theorem vx_iastoreN (hexec : p.tables.exec = Jvm.exec) (hb : c.code = cc) {x : Int32} {i : Int32} (hdg : decode cc pc = .ok (.iastore, 1)) (k : vx_NoteN p l e R s m args below meth c H locs cells slots Q (F0 m pc ls rest)) : W p l e R s m args below meth c H locs cells slots Q (F0 m pc ls (.int x :: .int i :: .null :: rest)) := by
  intro T hT X
  obtain ⟨t, st, q⟩ := k T hT X
  exact ⟨t, X.iastoreNull hexec (g := F0 m pc ls (.int x :: .int i :: .null :: rest)) rfl (rest := rest) rfl (by rw [hb]; exact hdg) t st, q⟩
theorem vx_lastoreN (hexec : p.tables.exec = Jvm.exec) (hb : c.code = cc) {x : Int64} {i : Int32} (hdg : decode cc pc = .ok (.lastore, 1)) (k : vx_NoteN p l e R s m args below meth c H locs cells slots Q (F0 m pc ls rest)) : W p l e R s m args below meth c H locs cells slots Q (F0 m pc ls (.long x :: .int i :: .null :: rest)) := by
  intro T hT X
  obtain ⟨t, st, q⟩ := k T hT X
  exact ⟨t, X.lastoreNull hexec (g := F0 m pc ls (.long x :: .int i :: .null :: rest)) rfl (rest := rest) rfl (by rw [hb]; exact hdg) t st, q⟩
theorem vx_fastoreN (hexec : p.tables.exec = Jvm.exec) (hb : c.code = cc) {x : UInt32} {i : Int32} (hdg : decode cc pc = .ok (.fastore, 1)) (k : vx_NoteN p l e R s m args below meth c H locs cells slots Q (F0 m pc ls rest)) : W p l e R s m args below meth c H locs cells slots Q (F0 m pc ls (.float x :: .int i :: .null :: rest)) := by
  intro T hT X
  obtain ⟨t, st, q⟩ := k T hT X
  exact ⟨t, X.fastoreNull hexec (g := F0 m pc ls (.float x :: .int i :: .null :: rest)) rfl (rest := rest) rfl (by rw [hb]; exact hdg) t st, q⟩
theorem vx_dastoreN (hexec : p.tables.exec = Jvm.exec) (hb : c.code = cc) {x : UInt64} {i : Int32} (hdg : decode cc pc = .ok (.dastore, 1)) (k : vx_NoteN p l e R s m args below meth c H locs cells slots Q (F0 m pc ls rest)) : W p l e R s m args below meth c H locs cells slots Q (F0 m pc ls (.double x :: .int i :: .null :: rest)) := by
  intro T hT X
  obtain ⟨t, st, q⟩ := k T hT X
  exact ⟨t, X.dastoreNull hexec (g := F0 m pc ls (.double x :: .int i :: .null :: rest)) rfl (rest := rest) rfl (by rw [hb]; exact hdg) t st, q⟩
theorem vx_bastoreN (hexec : p.tables.exec = Jvm.exec) (hb : c.code = cc) {x : Int32} {i : Int32} (hdg : decode cc pc = .ok (.bastore, 1)) (k : vx_NoteN p l e R s m args below meth c H locs cells slots Q (F0 m pc ls rest)) : W p l e R s m args below meth c H locs cells slots Q (F0 m pc ls (.int x :: .int i :: .null :: rest)) := by
  intro T hT X
  obtain ⟨t, st, q⟩ := k T hT X
  exact ⟨t, X.bastoreNull hexec (g := F0 m pc ls (.int x :: .int i :: .null :: rest)) rfl (rest := rest) rfl (by rw [hb]; exact hdg) t st, q⟩
theorem vx_castoreN (hexec : p.tables.exec = Jvm.exec) (hb : c.code = cc) {x : Int32} {i : Int32} (hdg : decode cc pc = .ok (.castore, 1)) (k : vx_NoteN p l e R s m args below meth c H locs cells slots Q (F0 m pc ls rest)) : W p l e R s m args below meth c H locs cells slots Q (F0 m pc ls (.int x :: .int i :: .null :: rest)) := by
  intro T hT X
  obtain ⟨t, st, q⟩ := k T hT X
  exact ⟨t, X.castoreNull hexec (g := F0 m pc ls (.int x :: .int i :: .null :: rest)) rfl (rest := rest) rfl (by rw [hb]; exact hdg) t st, q⟩
theorem vx_sastoreN (hexec : p.tables.exec = Jvm.exec) (hb : c.code = cc) {x : Int32} {i : Int32} (hdg : decode cc pc = .ok (.sastore, 1)) (k : vx_NoteN p l e R s m args below meth c H locs cells slots Q (F0 m pc ls rest)) : W p l e R s m args below meth c H locs cells slots Q (F0 m pc ls (.int x :: .int i :: .null :: rest)) := by
  intro T hT X
  obtain ⟨t, st, q⟩ := k T hT X
  exact ⟨t, X.sastoreNull hexec (g := F0 m pc ls (.int x :: .int i :: .null :: rest)) rfl (rest := rest) rfl (by rw [hb]; exact hdg) t st, q⟩
theorem vx_invokeN {own C : String} {index maxL : Nat} {y : MethodName} {bytes : ByteArray} {ret : Option FieldType} (hexec : p.tables.exec = Jvm.exec) (hb : c.code = cc) (hown : s.vm.findClass own = some m.cls) (hlink : (Cond.methodLink own index y).before args s = true) (hinst : (Cond.instanceMethod y).before args s = true) (hcode : (Cond.code y bytes maxL ret).before args s = true) (hsel : (Cond.selects C y y).before args s = true)
    (hx : y.cls ≠ "java/lang/invoke/MethodHandle" ∧ y.cls ≠ "java/lang/invoke/VarHandle") {As : List Value} (hlen : (parseMethodDescriptor y.desc).map (fun d => d.parameters.length) = some As.length) (hdg : decode cc pc = .ok (.invokevirtual index, 3))
    (k : vx_NoteN p l e R s m args below meth c H locs cells slots Q (F0 m pc ls rest)) {st0 : List Value} (hst : st0 = As.reverse ++ .null :: rest) : W p l e R s m args below meth c H locs cells slots Q (F0 m pc ls st0) := by
  intro T hT X
  obtain ⟨r0, r, hn, hrm, hstR, hsigR⟩ := va_Decl.of hinst hcode
  obtain ⟨c2, r2, m2, q1, q2, q3, q4, kP, hkP, hkPi⟩ := Cond.selects_spec hsel
  cases hn.symm.trans q3
  have hl9 : As.length = r.sig.parameters.length := by
    rw [hsigR] at hlen
    exact (Option.some.inj hlen).symm
  obtain ⟨vm', X1, st1⟩ := X.invokevirtualNull hexec hown hlink hn hrm hstR hkP hkPi hx (g := F0 m pc ls st0) rfl (argsL := As) (rest := rest) hl9 hst (by rw [hb]; exact hdg)
  obtain ⟨t, st, q⟩ := k (T.setVm vm') hT X1
  exact ⟨t, st1 t st, q⟩
theorem vx_newarrayZ {atype : ArrayType} (hexec : p.tables.exec = Jvm.exec) (hb : c.code = cc) {n : Int32} (h0 : n < 0) (hdg : decode cc pc = .ok (.newarray atype, 2)) (k : ∀ tx : String, tx = toString n → vx_Note p l e R s m args below meth c H locs cells slots Q (F0 m pc ls rest) "java/lang/NegativeArraySizeException" tx) : W p l e R s m args below meth c H locs cells slots Q (F0 m pc ls (.int n :: rest)) := by
  intro T hT X
  obtain ⟨t, st, q⟩ := k _ rfl T hT X
  exact ⟨t, X.newarrayNegative hexec (g := F0 m pc ls (.int n :: rest)) rfl h0 (rest := rest) rfl (by rw [hb]; exact hdg) t st, q⟩
end
end VXM
/-! ===== END ===== -/

/-! ===== BEGIN printed: names, fields, word lists, decode rows ===== -/
end
section
/-! ===== BEGIN printed: names, fields, word lists, decode rows ===== -/
def RX0 : String := "DecimalWords$Datum"
def TX0 : u_T := fun k => match k with
  | 0 => ("DecimalWords$Datum", "sort", "I", false)
  | 1 => ("DecimalWords$Datum", "minus", "Z", false)
  | 2 => ("DecimalWords$Datum", "coefficient", "J", false)
  | _ => ("DecimalWords$Datum", "exponent", "I", false)
def tyX0 : Nat → FieldType := fun k => match k with
  | 0 => .int
  | 1 => .boolean
  | 2 => .long
  | _ => .int
abbrev wsX00 : List Cond := u_ws RX0 TX0 4
theorem nmX0 : ∀ a, a < 4 → ∀ b, b < 4 → a ≠ b → (TX0 a).2.1 ≠ (TX0 b).2.1 := by decide +kernel
theorem tyX0_ok : ∀ k, k < 4 → parseFieldDescriptor (TX0 k).2.2.1 = some (tyX0 k) := by decide +kernel
abbrev cX0_init : ByteArray := prog_2_method_1_code
def yX0_init : MethodName := ⟨RX0, "<init>", "()V"⟩
abbrev cX0_setFinite : ByteArray := prog_2_method_2_code
def yX0_setFinite : MethodName := ⟨RX0, "setFinite", "(ZJI)V"⟩
abbrev cX0_setInfinity : ByteArray := prog_2_method_3_code
def yX0_setInfinity : MethodName := ⟨RX0, "setInfinity", "(Z)V"⟩
abbrev cX0_setNothing : ByteArray := prog_2_method_4_code
def yX0_setNothing : MethodName := ⟨RX0, "setNothing", "()V"⟩
abbrev cX0_take : ByteArray := prog_2_method_5_code
def yX0_take : MethodName := ⟨RX0, "take", "(LDecimalWords$Datum;)V"⟩
abbrev cX0_isZero : ByteArray := prog_2_method_6_code
def yX0_isZero : MethodName := ⟨RX0, "isZero", "()Z"⟩
abbrev cX0_side : ByteArray := prog_2_method_7_code
def yX0_side : MethodName := ⟨RX0, "side", "()I"⟩
def RX1 : String := "DecimalWords$Outcome"
def TX1 : u_T := fun k => match k with
  | 0 => ("DecimalWords$Outcome", "minus", "Z", false)
  | 1 => ("DecimalWords$Outcome", "high", "J", false)
  | 2 => ("DecimalWords$Outcome", "low", "J", false)
  | 3 => ("DecimalWords$Outcome", "power", "I", false)
  | 4 => ("DecimalWords$Outcome", "more", "Z", false)
  | 5 => ("DecimalWords$Outcome", "wish", "I", false)
  | 6 => ("DecimalWords$Outcome", "kept", "J", false)
  | _ => ("DecimalWords$Outcome", "rest", "I", false)
def tyX1 : Nat → FieldType := fun k => match k with
  | 0 => .boolean
  | 1 => .long
  | 2 => .long
  | 3 => .int
  | 4 => .boolean
  | 5 => .int
  | 6 => .long
  | _ => .int
abbrev wsX10 : List Cond := u_ws RX1 TX1 8
theorem nmX1 : ∀ a, a < 8 → ∀ b, b < 8 → a ≠ b → (TX1 a).2.1 ≠ (TX1 b).2.1 := by decide +kernel
theorem tyX1_ok : ∀ k, k < 8 → parseFieldDescriptor (TX1 k).2.2.1 = some (tyX1 k) := by decide +kernel
abbrev cX1_init : ByteArray := prog_3_method_1_code
def yX1_init : MethodName := ⟨RX1, "<init>", "()V"⟩
abbrev cX1_isZero : ByteArray := prog_3_method_2_code
def yX1_isZero : MethodName := ⟨RX1, "isZero", "()Z"⟩
abbrev cX1_digits : ByteArray := prog_3_method_3_code
def yX1_digits : MethodName := ⟨RX1, "digits", "()I"⟩
abbrev cX1_setWhole : ByteArray := prog_3_method_4_code
def yX1_setWhole : MethodName := ⟨RX1, "setWhole", "(LDecimalWords$Datum;)V"⟩
abbrev cX1_setSum : ByteArray := prog_3_method_5_code
def yX1_setSum : MethodName := ⟨RX1, "setSum", "(LDecimalWords$Datum;LDecimalWords$Datum;ZZ)V"⟩
abbrev cX1_join : ByteArray := prog_3_method_6_code
def yX1_join : MethodName := ⟨RX1, "join", "(LDecimalWords$Datum;LDecimalWords$Datum;Z)V"⟩
abbrev cX1_addToLow : ByteArray := prog_3_method_7_code
def yX1_addToLow : MethodName := ⟨RX1, "addToLow", "(J)V"⟩
abbrev cX1_setProduct : ByteArray := prog_3_method_8_code
def yX1_setProduct : MethodName := ⟨RX1, "setProduct", "(LDecimalWords$Datum;LDecimalWords$Datum;)V"⟩
abbrev cX1_setQuotient : ByteArray := prog_3_method_9_code
def yX1_setQuotient : MethodName := ⟨RX1, "setQuotient", "(LDecimalWords$Datum;LDecimalWords$Datum;)V"⟩
abbrev cX1_dropZeros : ByteArray := prog_3_method_10_code
def yX1_dropZeros : MethodName := ⟨RX1, "dropZeros", "()V"⟩
abbrev cX1_cut : ByteArray := prog_3_method_11_code
def yX1_cut : MethodName := ⟨RX1, "cut", "(I)V"⟩
abbrev cX1_restOf : ByteArray := prog_3_method_12_code
def yX1_restOf : MethodName := ⟨RX1, "restOf", "(JJZ)I"⟩
def RX2 : String := "DecimalWords$Packing"
def TX2 : u_T := fun k => match k with
  | _ => ("", "", "", false)
def tyX2 : Nat → FieldType := fun k => match k with
  | _ => .int
abbrev wsX20 : List Cond := u_ws RX2 TX2 0
theorem nmX2 : ∀ a, a < 0 → ∀ b, b < 0 → a ≠ b → (TX2 a).2.1 ≠ (TX2 b).2.1 := by decide +kernel
theorem tyX2_ok : ∀ k, k < 0 → parseFieldDescriptor (TX2 k).2.2.1 = some (tyX2 k) := by decide +kernel
abbrev cX2_wordOf : ByteArray := prog_4_method_2_code
def yX2_wordOf : MethodName := ⟨RX2, "wordOf", "(LDecimalWords$Datum;Z)J"⟩
abbrev cX2_binaryWord : ByteArray := prog_4_method_3_code
def yX2_binaryWord : MethodName := ⟨RX2, "binaryWord", "(JJ)J"⟩
abbrev cX2_digitWord : ByteArray := prog_4_method_4_code
def yX2_digitWord : MethodName := ⟨RX2, "digitWord", "(JJ)J"⟩
abbrev cX2_groupOf : ByteArray := prog_4_method_5_code
def yX2_groupOf : MethodName := ⟨RX2, "groupOf", "(III)I"⟩
abbrev cX2_read : ByteArray := prog_4_method_6_code
def yX2_read : MethodName := ⟨RX2, "read", "(LDecimalWords$Datum;ZJ)V"⟩
abbrev cX2_readBinary : ByteArray := prog_4_method_7_code
def yX2_readBinary : MethodName := ⟨RX2, "readBinary", "(LDecimalWords$Datum;ZJ)V"⟩
abbrev cX2_readDigits : ByteArray := prog_4_method_8_code
def yX2_readDigits : MethodName := ⟨RX2, "readDigits", "(LDecimalWords$Datum;ZJ)V"⟩
abbrev cX2_digitsOfGroup : ByteArray := prog_4_method_9_code
def yX2_digitsOfGroup : MethodName := ⟨RX2, "digitsOfGroup", "(I)I"⟩
abbrev cX2_digitsOfGreatGroup : ByteArray := prog_4_method_10_code
def yX2_digitsOfGreatGroup : MethodName := ⟨RX2, "digitsOfGreatGroup", "(III)I"⟩
abbrev cX2_three : ByteArray := prog_4_method_11_code
def yX2_three : MethodName := ⟨RX2, "three", "(III)I"⟩
def RX3 : String := "DecimalWords"
def TX3 : u_T := fun k => match k with
  | 0 => ("DecimalWords", "registers", "[LDecimalWords$Datum;", true)
  | 1 => ("DecimalWords", "result", "LDecimalWords$Datum;", true)
  | 2 => ("DecimalWords", "outcome", "LDecimalWords$Outcome;", true)
  | 3 => ("DecimalWords", "rounding", "I", false)
  | 4 => ("DecimalWords", "traps", "I", false)
  | 5 => ("DecimalWords", "standing", "I", false)
  | _ => ("DecimalWords", "raisedNow", "I", false)
def tyX3 : Nat → FieldType := fun k => match k with
  | 0 => .array (.object "DecimalWords$Datum")
  | 1 => .object "DecimalWords$Datum"
  | 2 => .object "DecimalWords$Outcome"
  | 3 => .int
  | 4 => .int
  | 5 => .int
  | _ => .int
abbrev wsX30 : List Cond := u_ws RX3 TX3 7
theorem nmX3 : ∀ a, a < 7 → ∀ b, b < 7 → a ≠ b → (TX3 a).2.1 ≠ (TX3 b).2.1 := by decide +kernel
theorem tyX3_ok : ∀ k, k < 7 → parseFieldDescriptor (TX3 k).2.2.1 = some (tyX3 k) := by decide +kernel
abbrev cX3_init : ByteArray := prog_1_method_1_code
def yX3_init : MethodName := ⟨RX3, "<init>", "()V"⟩
abbrev cX3_put : ByteArray := prog_1_method_2_code
def yX3_put : MethodName := ⟨RX3, "put", "(IZJI)V"⟩
abbrev cX3_apply : ByteArray := prog_1_method_3_code
def yX3_apply : MethodName := ⟨RX3, "apply", "(IIII)V"⟩
abbrev cX3_compare : ByteArray := prog_1_method_4_code
def yX3_compare : MethodName := ⟨RX3, "compare", "(II)I"⟩
abbrev cX3_kind : ByteArray := prog_1_method_5_code
def yX3_kind : MethodName := ⟨RX3, "kind", "(I)I"⟩
abbrev cX3_coefficient : ByteArray := prog_1_method_6_code
def yX3_coefficient : MethodName := ⟨RX3, "coefficient", "(I)J"⟩
abbrev cX3_exponent : ByteArray := prog_1_method_7_code
def yX3_exponent : MethodName := ⟨RX3, "exponent", "(I)I"⟩
abbrev cX3_pack : ByteArray := prog_1_method_8_code
def yX3_pack : MethodName := ⟨RX3, "pack", "(II)J"⟩
abbrev cX3_unpack : ByteArray := prog_1_method_9_code
def yX3_unpack : MethodName := ⟨RX3, "unpack", "(IIJ)V"⟩
abbrev cX3_mode : ByteArray := prog_1_method_10_code
def yX3_mode : MethodName := ⟨RX3, "mode", "(I)V"⟩
abbrev cX3_trap : ByteArray := prog_1_method_11_code
def yX3_trap : MethodName := ⟨RX3, "trap", "(I)V"⟩
abbrev cX3_flags : ByteArray := prog_1_method_12_code
def yX3_flags : MethodName := ⟨RX3, "flags", "()I"⟩
abbrev cX3_lower : ByteArray := prog_1_method_13_code
def yX3_lower : MethodName := ⟨RX3, "lower", "()V"⟩
abbrev cX3_sum : ByteArray := prog_1_method_14_code
def yX3_sum : MethodName := ⟨RX3, "sum", "(III)I"⟩
abbrev cX3_needRegister : ByteArray := prog_1_method_15_code
def yX3_needRegister : MethodName := ⟨RX3, "needRegister", "(I)V"⟩
abbrev cX3_needWay : ByteArray := prog_1_method_16_code
def yX3_needWay : MethodName := ⟨RX3, "needWay", "(I)V"⟩
abbrev cX3_operate : ByteArray := prog_1_method_17_code
def yX3_operate : MethodName := ⟨RX3, "operate", "(IIII)Z"⟩
abbrev cX3_setResult : ByteArray := prog_1_method_18_code
def yX3_setResult : MethodName := ⟨RX3, "setResult", "(ILDecimalWords$Datum;LDecimalWords$Datum;)V"⟩
abbrev cX3_setFromInfinity : ByteArray := prog_1_method_19_code
def yX3_setFromInfinity : MethodName := ⟨RX3, "setFromInfinity", "(ILDecimalWords$Datum;LDecimalWords$Datum;)V"⟩
abbrev cX3_addInfinity : ByteArray := prog_1_method_20_code
def yX3_addInfinity : MethodName := ⟨RX3, "addInfinity", "(LDecimalWords$Datum;LDecimalWords$Datum;Z)V"⟩
abbrev cX3_setFromFinite : ByteArray := prog_1_method_21_code
def yX3_setFromFinite : MethodName := ⟨RX3, "setFromFinite", "(ILDecimalWords$Datum;LDecimalWords$Datum;)V"⟩
abbrev cX3_divide : ByteArray := prog_1_method_22_code
def yX3_divide : MethodName := ⟨RX3, "divide", "(LDecimalWords$Datum;LDecimalWords$Datum;)V"⟩
abbrev cX3_quantize : ByteArray := prog_1_method_23_code
def yX3_quantize : MethodName := ⟨RX3, "quantize", "(LDecimalWords$Datum;I)V"⟩
abbrev cX3_setNext : ByteArray := prog_1_method_24_code
def yX3_setNext : MethodName := ⟨RX3, "setNext", "(LDecimalWords$Datum;)V"⟩
abbrev cX3_stepToZero : ByteArray := prog_1_method_25_code
def yX3_stepToZero : MethodName := ⟨RX3, "stepToZero", "(JI)V"⟩
abbrev cX3_stepFromZero : ByteArray := prog_1_method_26_code
def yX3_stepFromZero : MethodName := ⟨RX3, "stepFromZero", "(JI)V"⟩
abbrev cX3_raise : ByteArray := prog_1_method_27_code
def yX3_raise : MethodName := ⟨RX3, "raise", "(I)V"⟩
abbrev cX3_setInvalid : ByteArray := prog_1_method_28_code
def yX3_setInvalid : MethodName := ⟨RX3, "setInvalid", "()V"⟩
abbrev cX3_fit : ByteArray := prog_1_method_29_code
def yX3_fit : MethodName := ⟨RX3, "fit", "()V"⟩
abbrev cX3_fitWithoutRest : ByteArray := prog_1_method_30_code
def yX3_fitWithoutRest : MethodName := ⟨RX3, "fitWithoutRest", "()Z"⟩
abbrev cX3_fitRounded : ByteArray := prog_1_method_31_code
def yX3_fitRounded : MethodName := ⟨RX3, "fitRounded", "()V"⟩
abbrev cX3_setTooGreat : ByteArray := prog_1_method_32_code
def yX3_setTooGreat : MethodName := ⟨RX3, "setTooGreat", "()V"⟩
abbrev cX3_roundedKept : ByteArray := prog_1_method_33_code
def yX3_roundedKept : MethodName := ⟨RX3, "roundedKept", "(Z)J"⟩
abbrev cX3_order : ByteArray := prog_1_method_34_code
def yX3_order : MethodName := ⟨RX3, "order", "(LDecimalWords$Datum;LDecimalWords$Datum;)I"⟩
abbrev cX3_orderOfSizes : ByteArray := prog_1_method_35_code
def yX3_orderOfSizes : MethodName := ⟨RX3, "orderOfSizes", "(LDecimalWords$Datum;LDecimalWords$Datum;)I"⟩
abbrev cX3_orderOf : ByteArray := prog_1_method_36_code
def yX3_orderOf : MethodName := ⟨RX3, "orderOf", "(JJ)I"⟩
abbrev cX3_tenTo : ByteArray := prog_1_method_37_code
def yX3_tenTo : MethodName := ⟨RX3, "tenTo", "(I)J"⟩
abbrev cX3_digitsOf : ByteArray := prog_1_method_38_code
def yX3_digitsOf : MethodName := ⟨RX3, "digitsOf", "(J)I"⟩
def RX4 : String := "DecimalWordsModel"
def TX4 : u_T := fun k => match k with
  | 0 => ("DecimalWordsModel", "thrown", "I", false)
  | 1 => ("DecimalWordsModel", "kinds", "[I", false)
  | 2 => ("DecimalWordsModel", "minus", "[Z", false)
  | 3 => ("DecimalWordsModel", "coefficients", "[J", false)
  | 4 => ("DecimalWordsModel", "exponents", "[I", false)
  | 5 => ("DecimalWordsModel", "mode", "I", false)
  | 6 => ("DecimalWordsModel", "flags", "I", false)
  | 7 => ("DecimalWordsModel", "traps", "I", false)
  | 8 => ("DecimalWordsModel", "kind", "I", false)
  | 9 => ("DecimalWordsModel", "negative", "Z", false)
  | 10 => ("DecimalWordsModel", "c", "J", false)
  | 11 => ("DecimalWordsModel", "q", "I", false)
  | 12 => ("DecimalWordsModel", "raised", "I", false)
  | 13 => ("DecimalWordsModel", "count", "I", false)
  | 14 => ("DecimalWordsModel", "digits", "[I", false)
  | 15 => ("DecimalWordsModel", "others", "[I", false)
  | 16 => ("DecimalWordsModel", "unit", "I", false)
  | _ => ("DecimalWordsModel", "rest", "Z", false)
def tyX4 : Nat → FieldType := fun k => match k with
  | 0 => .int
  | 1 => .array .int
  | 2 => .array .boolean
  | 3 => .array .long
  | 4 => .array .int
  | 5 => .int
  | 6 => .int
  | 7 => .int
  | 8 => .int
  | 9 => .boolean
  | 10 => .long
  | 11 => .int
  | 12 => .int
  | 13 => .int
  | 14 => .array .int
  | 15 => .array .int
  | 16 => .int
  | _ => .boolean
abbrev wsX40 : List Cond := u_ws RX4 TX4 18
theorem nmX4 : ∀ a, a < 18 → ∀ b, b < 18 → a ≠ b → (TX4 a).2.1 ≠ (TX4 b).2.1 := by decide +kernel
theorem tyX4_ok : ∀ k, k < 18 → parseFieldDescriptor (TX4 k).2.2.1 = some (tyX4 k) := by decide +kernel
abbrev cX4_init : ByteArray := prog_6_method_1_code
def yX4_init : MethodName := ⟨RX4, "<init>", "()V"⟩
abbrev cX4_thrown : ByteArray := prog_6_method_2_code
def yX4_thrown : MethodName := ⟨RX4, "thrown", "()I"⟩
abbrev cX4_clear : ByteArray := prog_6_method_3_code
def yX4_clear : MethodName := ⟨RX4, "clear", "()V"⟩
abbrev cX4_lay : ByteArray := prog_6_method_4_code
def yX4_lay : MethodName := ⟨RX4, "lay", "(JI)V"⟩
abbrev cX4_layOther : ByteArray := prog_6_method_5_code
def yX4_layOther : MethodName := ⟨RX4, "layOther", "(JI)V"⟩
abbrev cX4_trim : ByteArray := prog_6_method_6_code
def yX4_trim : MethodName := ⟨RX4, "trim", "()V"⟩
abbrev cX4_whole : ByteArray := prog_6_method_7_code
def yX4_whole : MethodName := ⟨RX4, "whole", "(I)J"⟩
abbrev cX4_times : ByteArray := prog_6_method_8_code
def yX4_times : MethodName := ⟨RX4, "times", "(JI)J"⟩
abbrev cX4_be : ByteArray := prog_6_method_9_code
def yX4_be : MethodName := ⟨RX4, "be", "(IZJI)V"⟩
abbrev cX4_invalid : ByteArray := prog_6_method_10_code
def yX4_invalid : MethodName := ⟨RX4, "invalid", "()V"⟩
abbrev cX4_between : ByteArray := prog_6_method_11_code
def yX4_between : MethodName := ⟨RX4, "between", "(III)I"⟩
abbrev cX4_rounded : ByteArray := prog_6_method_12_code
def yX4_rounded : MethodName := ⟨RX4, "rounded", "(IZ)J"⟩
abbrev cX4_fit : ByteArray := prog_6_method_13_code
def yX4_fit : MethodName := ⟨RX4, "fit", "(ZI)V"⟩
abbrev cX4_great : ByteArray := prog_6_method_14_code
def yX4_great : MethodName := ⟨RX4, "great", "(Z)V"⟩
abbrev cX4_is : ByteArray := prog_6_method_15_code
def yX4_is : MethodName := ⟨RX4, "is", "(II)Z"⟩
abbrev cX4_less : ByteArray := prog_6_method_16_code
def yX4_less : MethodName := ⟨RX4, "less", "()Z"⟩
abbrev cX4_addDigits : ByteArray := prog_6_method_17_code
def yX4_addDigits : MethodName := ⟨RX4, "addDigits", "()V"⟩
abbrev cX4_subtractDigits : ByteArray := prog_6_method_18_code
def yX4_subtractDigits : MethodName := ⟨RX4, "subtractDigits", "()Z"⟩
abbrev cX4_add : ByteArray := prog_6_method_19_code
def yX4_add : MethodName := ⟨RX4, "add", "(IIZ)V"⟩
abbrev cX4_multiply : ByteArray := prog_6_method_20_code
def yX4_multiply : MethodName := ⟨RX4, "multiply", "(II)V"⟩
abbrev cX4_divide : ByteArray := prog_6_method_21_code
def yX4_divide : MethodName := ⟨RX4, "divide", "(II)V"⟩
abbrev cX4_quantize : ByteArray := prog_6_method_22_code
def yX4_quantize : MethodName := ⟨RX4, "quantize", "(II)V"⟩
abbrev cX4_lengthOf : ByteArray := prog_6_method_23_code
def yX4_lengthOf : MethodName := ⟨RX4, "lengthOf", "(J)I"⟩
abbrev cX4_compareSizes : ByteArray := prog_6_method_24_code
def yX4_compareSizes : MethodName := ⟨RX4, "compareSizes", "(II)I"⟩
abbrev cX4_signOf : ByteArray := prog_6_method_25_code
def yX4_signOf : MethodName := ⟨RX4, "signOf", "(I)I"⟩
abbrev cX4_order : ByteArray := prog_6_method_26_code
def yX4_order : MethodName := ⟨RX4, "order", "(II)I"⟩
abbrev cX4_next : ByteArray := prog_6_method_27_code
def yX4_next : MethodName := ⟨RX4, "next", "(I)V"⟩
abbrev cX4_copy : ByteArray := prog_6_method_28_code
def yX4_copy : MethodName := ⟨RX4, "copy", "(I)V"⟩
abbrev cX4_operate : ByteArray := prog_6_method_29_code
def yX4_operate : MethodName := ⟨RX4, "operate", "(III)V"⟩
abbrev cX4_noRegister : ByteArray := prog_6_method_30_code
def yX4_noRegister : MethodName := ⟨RX4, "noRegister", "(I)Z"⟩
abbrev cX4_store : ByteArray := prog_6_method_31_code
def yX4_store : MethodName := ⟨RX4, "store", "(I)V"⟩
abbrev cX4_apply : ByteArray := prog_6_method_32_code
def yX4_apply : MethodName := ⟨RX4, "apply", "(IIII)V"⟩
abbrev cX4_sum : ByteArray := prog_6_method_33_code
def yX4_sum : MethodName := ⟨RX4, "sum", "(III)I"⟩
abbrev cX4_put : ByteArray := prog_6_method_34_code
def yX4_put : MethodName := ⟨RX4, "put", "(IZJI)V"⟩
abbrev cX4_compare : ByteArray := prog_6_method_35_code
def yX4_compare : MethodName := ⟨RX4, "compare", "(II)I"⟩
abbrev cX4_kind : ByteArray := prog_6_method_36_code
def yX4_kind : MethodName := ⟨RX4, "kind", "(I)I"⟩
abbrev cX4_coefficient : ByteArray := prog_6_method_37_code
def yX4_coefficient : MethodName := ⟨RX4, "coefficient", "(I)J"⟩
abbrev cX4_exponent : ByteArray := prog_6_method_38_code
def yX4_exponent : MethodName := ⟨RX4, "exponent", "(I)I"⟩
abbrev cX4_ten : ByteArray := prog_6_method_39_code
def yX4_ten : MethodName := ⟨RX4, "ten", "(III)I"⟩
abbrev cX4_three : ByteArray := prog_6_method_40_code
def yX4_three : MethodName := ⟨RX4, "three", "(I)I"⟩
abbrev cX4_packDigits : ByteArray := prog_6_method_41_code
def yX4_packDigits : MethodName := ⟨RX4, "packDigits", "(I)J"⟩
abbrev cX4_pack : ByteArray := prog_6_method_42_code
def yX4_pack : MethodName := ⟨RX4, "pack", "(II)J"⟩
abbrev cX4_unpack : ByteArray := prog_6_method_43_code
def yX4_unpack : MethodName := ⟨RX4, "unpack", "(IIJ)V"⟩
abbrev cX4_mode : ByteArray := prog_6_method_44_code
def yX4_mode : MethodName := ⟨RX4, "mode", "(I)V"⟩
abbrev cX4_trap : ByteArray := prog_6_method_45_code
def yX4_trap : MethodName := ⟨RX4, "trap", "(I)V"⟩
abbrev cX4_flags : ByteArray := prog_6_method_46_code
def yX4_flags : MethodName := ⟨RX4, "flags", "()I"⟩
abbrev cX4_lower : ByteArray := prog_6_method_47_code
def yX4_lower : MethodName := ⟨RX4, "lower", "()V"⟩
def RJx00060 : String := "java/lang/ArrayIndexOutOfBoundsException"
def TJx00060 : u_T := fun k => match k with
  | 0 => ("java/lang/Throwable", "backtrace", "Ljava/lang/Object;", false)
  | 1 => ("java/lang/Throwable", "detailMessage", "Ljava/lang/String;", false)
  | 2 => ("java/lang/Throwable", "cause", "Ljava/lang/Throwable;", false)
  | 3 => ("java/lang/Throwable", "stackTrace", "[Ljava/lang/StackTraceElement;", false)
  | 4 => ("java/lang/Throwable", "depth", "I", false)
  | _ => ("java/lang/Throwable", "suppressedExceptions", "Ljava/util/List;", false)
def tyJx00060 : Nat → FieldType := fun k => match k with
  | 0 => .object "java/lang/Object"
  | 1 => .object "java/lang/String"
  | 2 => .object "java/lang/Throwable"
  | 3 => .array (.object "java/lang/StackTraceElement")
  | 4 => .int
  | _ => .object "java/util/List"
abbrev wsJx000600 : List Cond := u_ws RJx00060 TJx00060 6
theorem nmJx00060 : ∀ a, a < 6 → ∀ b, b < 6 → a ≠ b → (TJx00060 a).2.1 ≠ (TJx00060 b).2.1 := by decide +kernel
theorem tyJx00060_ok : ∀ k, k < 6 → parseFieldDescriptor (TJx00060 k).2.2.1 = some (tyJx00060 k) := by decide +kernel
abbrev cJx00060_init_a7421 : ByteArray := prog_8_method_2_code
def yJx00060_init_a7421 : MethodName := ⟨RJx00060, "<init>", "(Ljava/lang/String;)V"⟩
def RJ9 : String := "java/lang/Math"
def TJ9 : u_T := fun k => match k with
  | _ => ("", "", "", false)
def tyJ9 : Nat → FieldType := fun k => match k with
  | _ => .int
abbrev wsJ90 : List Cond := u_ws RJ9 TJ9 0
theorem nmJ9 : ∀ a, a < 0 → ∀ b, b < 0 → a ≠ b → (TJ9 a).2.1 ≠ (TJ9 b).2.1 := by decide +kernel
theorem tyJ9_ok : ∀ k, k < 0 → parseFieldDescriptor (TJ9 k).2.2.1 = some (tyJ9 k) := by decide +kernel
abbrev cJ9_max_7cf53 : ByteArray := prog_12_method_65_code
def yJ9_max_7cf53 : MethodName := ⟨RJ9, "max", "(II)I"⟩
abbrev cJ9_max_f86c9 : ByteArray := prog_12_method_66_code
def yJ9_max_f86c9 : MethodName := ⟨RJ9, "max", "(JJ)J"⟩
abbrev cJ9_min_7cf53 : ByteArray := prog_12_method_69_code
def yJ9_min_7cf53 : MethodName := ⟨RJ9, "min", "(II)I"⟩
def RJ0 : String := "java/lang/String"
def TJ0 : u_T := fun k => match k with
  | 0 => ("java/lang/String", "value", "[B", true)
  | _ => ("java/lang/String", "coder", "B", true)
def tyJ0 : Nat → FieldType := fun k => match k with
  | 0 => .array .byte
  | _ => .byte
abbrev wsJ00 : List Cond := u_ws RJ0 TJ0 2
theorem nmJ0 : ∀ a, a < 2 → ∀ b, b < 2 → a ≠ b → (TJ0 a).2.1 ≠ (TJ0 b).2.1 := by decide +kernel
theorem tyJ0_ok : ∀ k, k < 2 → parseFieldDescriptor (TJ0 k).2.2.1 = some (tyJ0 k) := by decide +kernel
def RL : String := "DecimalWordsLaw"
abbrev cL_put : ByteArray := method_3_code
def yL_put : MethodName := ⟨RL, "put", "(LDecimalWords;IZJI)I"⟩
abbrev cL_apply : ByteArray := method_4_code
def yL_apply : MethodName := ⟨RL, "apply", "(LDecimalWords;IIII)I"⟩
abbrev cL_compare : ByteArray := method_5_code
def yL_compare : MethodName := ⟨RL, "compare", "(LDecimalWords;II[J)I"⟩
abbrev cL_kind : ByteArray := method_6_code
def yL_kind : MethodName := ⟨RL, "kind", "(LDecimalWords;I[J)I"⟩
abbrev cL_coefficient : ByteArray := method_7_code
def yL_coefficient : MethodName := ⟨RL, "coefficient", "(LDecimalWords;I[J)I"⟩
abbrev cL_exponent : ByteArray := method_8_code
def yL_exponent : MethodName := ⟨RL, "exponent", "(LDecimalWords;I[J)I"⟩
abbrev cL_pack : ByteArray := method_9_code
def yL_pack : MethodName := ⟨RL, "pack", "(LDecimalWords;II[J)I"⟩
abbrev cL_unpack : ByteArray := method_10_code
def yL_unpack : MethodName := ⟨RL, "unpack", "(LDecimalWords;IIJ)I"⟩
abbrev cL_mode : ByteArray := method_11_code
def yL_mode : MethodName := ⟨RL, "mode", "(LDecimalWords;I)I"⟩
abbrev cL_trap : ByteArray := method_12_code
def yL_trap : MethodName := ⟨RL, "trap", "(LDecimalWords;I)I"⟩
abbrev cL_sum : ByteArray := method_13_code
def yL_sum : MethodName := ⟨RL, "sum", "(LDecimalWords;III[J)I"⟩
abbrev cL_law : ByteArray := code
def yL_law : MethodName := ⟨RL, "law", "([I)Z"⟩
theorem dJx00060_init_a7421_0 : decode cJx00060_init_a7421 0 = .ok (.aload_n 0, 1) := by decide +kernel
theorem dJx00060_init_a7421_1 : decode cJx00060_init_a7421 1 = .ok (.aload_n 1, 1) := by decide +kernel
theorem dJx00060_init_a7421_2 : decode cJx00060_init_a7421 2 = .ok (.invokespecial 7, 3) := by decide +kernel
theorem dJx00060_init_a7421_5 : decode cJx00060_init_a7421 5 = .ok (.return_, 1) := by decide +kernel
theorem dJ9_max_7cf53_0 : decode cJ9_max_7cf53 0 = .ok (.iload_n 0, 1) := by decide +kernel
theorem dJ9_max_7cf53_1 : decode cJ9_max_7cf53 1 = .ok (.iload_n 1, 1) := by decide +kernel
theorem dJ9_max_7cf53_2 : decode cJ9_max_7cf53 2 = .ok (.if_icmp .lt 7, 3) := by decide +kernel
theorem dJ9_max_7cf53_5 : decode cJ9_max_7cf53 5 = .ok (.iload_n 0, 1) := by decide +kernel
theorem dJ9_max_7cf53_6 : decode cJ9_max_7cf53 6 = .ok (.goto 4, 3) := by decide +kernel
theorem dJ9_max_7cf53_9 : decode cJ9_max_7cf53 9 = .ok (.iload_n 1, 1) := by decide +kernel
theorem dJ9_max_7cf53_10 : decode cJ9_max_7cf53 10 = .ok (.ireturn, 1) := by decide +kernel
theorem dJ9_max_f86c9_0 : decode cJ9_max_f86c9 0 = .ok (.lload_n 0, 1) := by decide +kernel
theorem dJ9_max_f86c9_1 : decode cJ9_max_f86c9 1 = .ok (.lload_n 2, 1) := by decide +kernel
theorem dJ9_max_f86c9_2 : decode cJ9_max_f86c9 2 = .ok (.lcmp, 1) := by decide +kernel
theorem dJ9_max_f86c9_3 : decode cJ9_max_f86c9 3 = .ok (.ifCond .lt 7, 3) := by decide +kernel
theorem dJ9_max_f86c9_6 : decode cJ9_max_f86c9 6 = .ok (.lload_n 0, 1) := by decide +kernel
theorem dJ9_max_f86c9_7 : decode cJ9_max_f86c9 7 = .ok (.goto 4, 3) := by decide +kernel
theorem dJ9_max_f86c9_10 : decode cJ9_max_f86c9 10 = .ok (.lload_n 2, 1) := by decide +kernel
theorem dJ9_max_f86c9_11 : decode cJ9_max_f86c9 11 = .ok (.lreturn, 1) := by decide +kernel
theorem dJ9_min_7cf53_0 : decode cJ9_min_7cf53 0 = .ok (.iload_n 0, 1) := by decide +kernel
theorem dJ9_min_7cf53_1 : decode cJ9_min_7cf53 1 = .ok (.iload_n 1, 1) := by decide +kernel
theorem dJ9_min_7cf53_2 : decode cJ9_min_7cf53 2 = .ok (.if_icmp .gt 7, 3) := by decide +kernel
theorem dJ9_min_7cf53_5 : decode cJ9_min_7cf53 5 = .ok (.iload_n 0, 1) := by decide +kernel
theorem dJ9_min_7cf53_6 : decode cJ9_min_7cf53 6 = .ok (.goto 4, 3) := by decide +kernel
theorem dJ9_min_7cf53_9 : decode cJ9_min_7cf53 9 = .ok (.iload_n 1, 1) := by decide +kernel
theorem dJ9_min_7cf53_10 : decode cJ9_min_7cf53 10 = .ok (.ireturn, 1) := by decide +kernel
abbrev vwCl : List vw_C := [(RJ0, TJ0, 2), (RJx00060, TJx00060, 6), (RX0, TX0, 4), (RX1, TX1, 8), (RX3, TX3, 7), (RX4, TX4, 18)]
end
section
/-! ===== the words of all methods, one list ===== -/
theorem inT_1 : ∀ w ∈ tables_1_1, w ∈ lw_tbl := fun _ h => List.mem_append_right _ (List.mem_append_left _ h)
theorem inT_2 : ∀ w ∈ tables_1_2, w ∈ lw_tbl := fun _ h => List.mem_append_right _ (List.mem_append_right _ (List.mem_append_left _ h))
theorem inT_3 : ∀ w ∈ tables_1_3, w ∈ lw_tbl := fun _ h => List.mem_append_right _ (List.mem_append_right _ (List.mem_append_right _ (List.mem_append_left _ h)))
theorem inT_4 : ∀ w ∈ tables_1_4, w ∈ lw_tbl := fun _ h => List.mem_append_right _ (List.mem_append_right _ (List.mem_append_right _ (List.mem_append_right _ (h))))
theorem inT_p : ∀ w ∈ k2_sels lw_privs, w ∈ lw_tbl := fun _ h => List.mem_append_left _ h
def gW_1 : List Cond := [.code yX0_init cX0_init 1 none, .methodLink RX0 3 objectInit, .instanceMethod objectInit, .code yX0_setFinite cX0_setFinite 5 none, .fieldLink RX0 9 "DecimalWords$Datum" "sort" "I", .fieldLink RX0 15 "DecimalWords$Datum" "minus" "Z", .fieldLink RX0 19 "DecimalWords$Datum" "coefficient" "J", .fieldLink RX0 23 "DecimalWords$Datum" "exponent" "I", .code yX0_setInfinity cX0_setInfinity 2 none, .code yX0_setNothing cX0_setNothing 1 none, .code yX0_take cX0_take 2 none, .code yX0_isZero cX0_isZero 1 (some .boolean), .code yX0_side cX0_side 1 (some .int), .methodLink RX0 26 yX0_isZero, .instanceMethod yX0_isZero, .selects RX0 yX0_isZero yX0_isZero, .initialized RX0, .code yX1_init cX1_init 1 none, .methodLink RX1 3 objectInit, .code yX1_isZero cX1_isZero 1 (some .boolean), .fieldLink RX1 9 "DecimalWords$Outcome" "high" "J", .fieldLink RX1 15 "DecimalWords$Outcome" "low" "J", .fieldLink RX1 18 "DecimalWords$Outcome" "more" "Z", .code yX1_digits cX1_digits 1 (some .int), .static yX3_digitsOf, .initialized RX3, .code yX3_digitsOf cX3_digitsOf 3 (some .int), .fieldLink RX3 260 "DecimalWords" "TENS" "[J", .code yX1_setWhole cX1_setWhole 2 none, .fieldLink RX1 26 "DecimalWords$Datum" "minus" "Z", .fieldLink RX1 31 "DecimalWords$Outcome" "minus" "Z", .fieldLink RX1 32 "DecimalWords$Datum" "coefficient" "J", .fieldLink RX1 35 "DecimalWords$Datum" "exponent" "I", .fieldLink RX1 39 "DecimalWords$Outcome" "power" "I", .code yX1_setSum cX1_setSum 6 none, .methodLink RX1 55 Lib.Math.min.name, .static Lib.Math.min.name, .initialized "java/lang/Math", .code Lib.Math.min.name Lib.Math.min.code 2 (some .int), .fieldLink RX1 61 "DecimalWords$Outcome" "wish" "I"]
def gW_2 : List Cond := [.methodLink RX1 42 yX0_isZero, .methodLink RX1 46 yX1_setWhole, .instanceMethod yX1_setWhole, .selects RX1 yX1_setWhole yX1_setWhole, .initialized RX1, .methodLink RX1 50 yX1_join, .instanceMethod yX1_join, .selects RX1 yX1_join yX1_join, .code yX1_join cX1_join 12 none, .static yX3_tenTo, .code yX3_tenTo cX3_tenTo 1 (some .long), .methodLink RX3 194 Lib.Math.min.name, .methodLink RX3 213 Lib.Math.max.name, .static Lib.Math.max.name, .code Lib.Math.max.name Lib.Math.max.code 2 (some .int), .methodLink RX1 68 yX1_addToLow, .instanceMethod yX1_addToLow, .selects RX1 yX1_addToLow yX1_addToLow, .code yX1_addToLow cX1_addToLow 3 none, .constantLong RX1 72 (10000000000000000), .methodLink RX1 54 yX1_isZero, .instanceMethod yX1_isZero, .selects RX1 yX1_isZero yX1_isZero, .code yX1_setProduct cX1_setProduct 13 none, .constantLong RX1 74 (100000000), .code yX1_setQuotient cX1_setQuotient 8 none, .methodLink RX1 76 Lib.MathLoose.max_long.x, .static Lib.MathLoose.max_long.x, .code Lib.MathLoose.max_long.x Lib.MathLoose.max_long.code 4 (some .long), .constantLong RX1 80 (10), .code yX1_dropZeros cX1_dropZeros 2 none, .constantLong RX1 82 (1000000000000000), .code yX1_cut cX1_cut 4 none, .fieldLink RX1 84 "DecimalWords$Outcome" "kept" "J", .fieldLink RX1 87 "DecimalWords$Outcome" "rest" "I", .methodLink RX1 90 yX1_restOf, .static yX1_restOf, .code yX1_restOf cX1_restOf 7 (some .int), .constantLong RX1 94 (2), .code yX2_wordOf cX2_wordOf 6 (some .long)]
def gW_3 : List Cond := [.fieldLink RX2 9 "DecimalWords$Datum" "minus" "Z", .constantLong RX2 15 (-9223372036854775808), .fieldLink RX2 17 "DecimalWords$Datum" "sort" "I", .constantLong RX2 23 (8646911284551352320), .constantLong RX2 25 (8935141660703064064), .fieldLink RX2 27 "DecimalWords$Datum" "exponent" "I", .fieldLink RX2 30 "DecimalWords$Datum" "coefficient" "J", .methodLink RX2 34 yX2_digitWord, .static yX2_digitWord, .initialized RX2, .code yX2_digitWord cX2_digitWord 12 (some .long), .constantLong RX2 45 (1000000000000000), .constantLong RX2 47 (256), .constantLong RX2 49 (8), .constantLong RX2 43 (6917529027641081856), .constantLong RX2 51 (255), .constantLong RX2 57 (1000), .methodLink RX2 59 yX2_groupOf, .static yX2_groupOf, .code yX2_groupOf cX2_groupOf 7 (some .int), .methodLink RX2 38 yX2_binaryWord, .static yX2_binaryWord, .code yX2_binaryWord cX2_binaryWord 4 (some .long), .constantLong RX2 41 (9007199254740992), .code yX2_read cX2_read 7 none, .constantLong RX2 63 (31), .constantLong RX2 65 (30), .methodLink RX2 67 yX0_setInfinity, .instanceMethod yX0_setInfinity, .selects RX0 yX0_setInfinity yX0_setInfinity, .methodLink RX2 71 yX0_setNothing, .instanceMethod yX0_setNothing, .selects RX0 yX0_setNothing yX0_setNothing, .methodLink RX2 74 yX2_readDigits, .static yX2_readDigits, .code yX2_readDigits cX2_readDigits 9 none, .constantLong RX2 93 (3), .constantLong RX2 95 (7), .constantLong RX2 81 (1023), .methodLink RX2 97 yX2_digitsOfGroup]
def gW_4 : List Cond := [.static yX2_digitsOfGroup, .code yX2_digitsOfGroup cX2_digitsOfGroup 4 (some .int), .methodLink RX2 101 yX2_three, .static yX2_three, .code yX2_three cX2_three 3 (some .int), .methodLink RX2 104 yX2_digitsOfGreatGroup, .static yX2_digitsOfGreatGroup, .code yX2_digitsOfGreatGroup cX2_digitsOfGreatGroup 3 (some .int), .methodLink RX2 89 yX0_setFinite, .instanceMethod yX0_setFinite, .selects RX0 yX0_setFinite yX0_setFinite, .methodLink RX2 78 yX2_readBinary, .static yX2_readBinary, .code yX2_readBinary cX2_readBinary 8 none, .constantLong RX2 83 (2251799813685247), .constantLong RX2 85 (9007199254740991), .constantLong RX2 87 (10000000000000000), .code yX3_init cX3_init 2 none, .methodLink RX3 1 objectInit, .classLink RX3 9 RX0, .fieldLink RX3 11 "DecimalWords" "registers" "[LDecimalWords$Datum;", .instantiable RX0 4, .fieldLink RX3 16 "DecimalWords" "result" "LDecimalWords$Datum;", .classLink RX3 20 RX1, .instantiable RX1 8, .fieldLink RX3 23 "DecimalWords" "outcome" "LDecimalWords$Outcome;", .fieldLink RX3 27 "DecimalWords" "rounding" "I", .fieldLink RX3 31 "DecimalWords" "traps" "I", .fieldLink RX3 34 "DecimalWords" "standing" "I", .fieldLink RX3 37 "DecimalWords" "raisedNow" "I", .instanceMethod yX0_init, .instanceMethod yX1_init, .code yX3_put cX3_put 6 none, .classLink RX3 46 "java/lang/IllegalArgumentException", .initialized "java/lang/IllegalArgumentException", .constantLong RX3 44 (10000000000000000), .methodLink RX3 40 yX3_needRegister, .static yX3_needRegister, .code yX3_needRegister cX3_needRegister 1 none, .classLink RX3 105 "java/lang/IndexOutOfBoundsException"]
def gW_5 : List Cond := [.initialized "java/lang/IndexOutOfBoundsException", .methodLink RX3 55 yX0_setFinite, .code yX3_apply cX3_apply 5 none, .classLink RX3 65 "java/lang/ArithmeticException", .initialized "java/lang/ArithmeticException", .methodLink RX3 61 yX3_operate, .instanceMethod yX3_operate, .selects RX3 yX3_operate yX3_operate, .code yX3_operate cX3_operate 5 (some .boolean), .methodLink RX3 112 yX3_setResult, .instanceMethod yX3_setResult, .selects RX3 yX3_setResult yX3_setResult, .code yX3_setResult cX3_setResult 4 none, .fieldLink RX3 70 "DecimalWords$Datum" "sort" "I", .methodLink RX3 120 yX3_setNext, .instanceMethod yX3_setNext, .selects RX3 yX3_setNext yX3_setNext, .code yX3_setNext cX3_setNext 5 none, .fieldLink RX3 77 "DecimalWords$Datum" "minus" "Z", .constantLong RX3 192 (9999999999999999), .fieldLink RX3 81 "DecimalWords$Datum" "coefficient" "J", .fieldLink RX3 85 "DecimalWords$Datum" "exponent" "I", .methodLink RX3 116 yX0_take, .instanceMethod yX0_take, .selects RX0 yX0_take yX0_take, .methodLink RX3 136 yX0_isZero, .methodLink RX3 184 yX3_digitsOf, .methodLink RX3 188 yX3_tenTo, .methodLink RX3 200 yX3_stepToZero, .instanceMethod yX3_stepToZero, .selects RX3 yX3_stepToZero yX3_stepToZero, .code yX3_stepToZero cX3_stepToZero 4 none, .constantLong RX3 207 (1000000000000000), .methodLink RX3 204 yX3_stepFromZero, .instanceMethod yX3_stepFromZero, .selects RX3 yX3_stepFromZero yX3_stepFromZero, .code yX3_stepFromZero cX3_stepFromZero 4 none, .methodLink RX3 143 yX0_setInfinity, .methodLink RX3 123 yX0_setNothing, .methodLink RX3 73 yX3_order]
def gW_6 : List Cond := [.static yX3_order, .code yX3_order cX3_order 3 (some .int), .methodLink RX3 250 yX0_side, .instanceMethod yX0_side, .selects RX0 yX0_side yX0_side, .methodLink RX3 253 yX3_orderOfSizes, .static yX3_orderOfSizes, .code yX3_orderOfSizes cX3_orderOfSizes 5 (some .int), .methodLink RX3 256 yX3_orderOf, .static yX3_orderOf, .code yX3_orderOf cX3_orderOf 4 (some .int), .methodLink RX3 126 yX3_setFromInfinity, .instanceMethod yX3_setFromInfinity, .selects RX3 yX3_setFromInfinity yX3_setFromInfinity, .code yX3_setFromInfinity cX3_setFromInfinity 6 none, .methodLink RX3 132 yX3_addInfinity, .instanceMethod yX3_addInfinity, .selects RX3 yX3_addInfinity yX3_addInfinity, .code yX3_addInfinity cX3_addInfinity 4 none, .methodLink RX3 140 yX3_setInvalid, .instanceMethod yX3_setInvalid, .selects RX3 yX3_setInvalid yX3_setInvalid, .code yX3_setInvalid cX3_setInvalid 1 none, .methodLink RX3 168 yX3_raise, .instanceMethod yX3_raise, .selects RX3 yX3_raise yX3_raise, .code yX3_raise cX3_raise 2 none, .methodLink RX3 129 yX3_setFromFinite, .instanceMethod yX3_setFromFinite, .selects RX3 yX3_setFromFinite yX3_setFromFinite, .code yX3_setFromFinite cX3_setFromFinite 4 none, .methodLink RX3 147 yX1_setSum, .instanceMethod yX1_setSum, .selects RX1 yX1_setSum yX1_setSum, .methodLink RX3 151 yX3_fit, .instanceMethod yX3_fit, .selects RX3 yX3_fit yX3_fit, .code yX3_fit cX3_fit 2 none, .fieldLink RX3 210 "DecimalWords$Outcome" "wish" "I", .fieldLink RX3 216 "DecimalWords$Outcome" "minus" "Z"]
def gW_7 : List Cond := [.methodLink RX3 209 yX1_isZero, .methodLink RX3 217 yX3_fitWithoutRest, .instanceMethod yX3_fitWithoutRest, .selects RX3 yX3_fitWithoutRest yX3_fitWithoutRest, .code yX3_fitWithoutRest cX3_fitWithoutRest 4 (some .boolean), .fieldLink RX3 223 "DecimalWords$Outcome" "more" "Z", .fieldLink RX3 229 "DecimalWords$Outcome" "high" "J", .fieldLink RX3 232 "DecimalWords$Outcome" "power" "I", .fieldLink RX3 235 "DecimalWords$Outcome" "low" "J", .methodLink RX3 226 yX1_dropZeros, .instanceMethod yX1_dropZeros, .selects RX1 yX1_dropZeros yX1_dropZeros, .methodLink RX3 220 yX3_fitRounded, .instanceMethod yX3_fitRounded, .selects RX3 yX3_fitRounded yX3_fitRounded, .code yX3_fitRounded cX3_fitRounded 5 none, .methodLink RX3 238 yX1_digits, .instanceMethod yX1_digits, .selects RX1 yX1_digits yX1_digits, .methodLink RX3 242 yX3_setTooGreat, .instanceMethod yX3_setTooGreat, .selects RX3 yX3_setTooGreat yX3_setTooGreat, .code yX3_setTooGreat cX3_setTooGreat 2 none, .methodLink RX3 174 yX1_cut, .instanceMethod yX1_cut, .selects RX1 yX1_cut yX1_cut, .methodLink RX3 180 yX3_roundedKept, .instanceMethod yX3_roundedKept, .selects RX3 yX3_roundedKept yX3_roundedKept, .code yX3_roundedKept cX3_roundedKept 3 (some .long), .fieldLink RX3 177 "DecimalWords$Outcome" "rest" "I", .fieldLink RX3 245 "DecimalWords$Outcome" "kept" "J", .constantLong RX3 248 (2), .methodLink RX3 154 yX1_setProduct, .instanceMethod yX1_setProduct, .selects RX1 yX1_setProduct yX1_setProduct, .methodLink RX3 158 yX3_divide, .instanceMethod yX3_divide, .selects RX3 yX3_divide yX3_divide, .code yX3_divide cX3_divide 3 none]
def gW_8 : List Cond := [.methodLink RX3 165 yX1_setQuotient, .instanceMethod yX1_setQuotient, .selects RX1 yX1_setQuotient yX1_setQuotient, .methodLink RX3 161 yX3_quantize, .instanceMethod yX3_quantize, .selects RX3 yX3_quantize yX3_quantize, .code yX3_quantize cX3_quantize 4 none, .methodLink RX3 171 yX1_setWhole, .code yX3_compare cX3_compare 3 (some .int), .code yX3_kind cX3_kind 2 (some .int), .code yX3_coefficient cX3_coefficient 2 (some .long), .code yX3_exponent cX3_exponent 2 (some .int), .code yX3_pack cX3_pack 3 (some .long), .methodLink RX3 88 yX3_needWay, .static yX3_needWay, .code yX3_needWay cX3_needWay 1 none, .methodLink RX3 91 yX2_wordOf, .static yX2_wordOf, .code yX3_unpack cX3_unpack 5 none, .methodLink RX3 97 yX2_read, .static yX2_read, .code yX3_mode cX3_mode 2 none, .code yX3_trap cX3_trap 2 none, .code yX3_flags cX3_flags 1 (some .int), .code yX3_lower cX3_lower 1 none, .code yX3_sum cX3_sum 6 (some .int), .code yX4_init cX4_init 1 none, .methodLink RX4 1 objectInit, .arrayClass .int, .fieldLink RX4 7 "DecimalWordsModel" "kinds" "[I", .arrayClass .boolean, .fieldLink RX4 13 "DecimalWordsModel" "minus" "[Z", .arrayClass .long, .fieldLink RX4 17 "DecimalWordsModel" "coefficients" "[J", .fieldLink RX4 21 "DecimalWordsModel" "exponents" "[I", .fieldLink RX4 24 "DecimalWordsModel" "digits" "[I", .fieldLink RX4 27 "DecimalWordsModel" "others" "[I", .code yX4_thrown cX4_thrown 1 (some .int), .fieldLink RX4 30 "DecimalWordsModel" "thrown" "I", .code yX4_clear cX4_clear 2 none]
def gW_9 : List Cond := [.code yX4_lay cX4_lay 7 none, .constantLong RX4 37 (10), .methodLink RX4 34 yX4_clear, .instanceMethod yX4_clear, .selects RX4 yX4_clear yX4_clear, .initialized RX4, .code yX4_layOther cX4_layOther 7 none, .code yX4_trim cX4_trim 1 none, .fieldLink RX4 39 "DecimalWordsModel" "count" "I", .code yX4_whole cX4_whole 5 (some .long), .code yX4_times cX4_times 7 (some .long), .code yX4_be cX4_be 6 none, .fieldLink RX4 42 "DecimalWordsModel" "kind" "I", .fieldLink RX4 45 "DecimalWordsModel" "negative" "Z", .fieldLink RX4 49 "DecimalWordsModel" "c" "J", .fieldLink RX4 53 "DecimalWordsModel" "q" "I", .code yX4_invalid cX4_invalid 1 none, .fieldLink RX4 56 "DecimalWordsModel" "raised" "I", .methodLink RX4 59 yX4_be, .instanceMethod yX4_be, .selects RX4 yX4_be yX4_be, .code yX4_between cX4_between 4 (some .int), .code yX4_rounded cX4_rounded 11 (some .long), .fieldLink RX4 71 "DecimalWordsModel" "rest" "Z", .fieldLink RX4 74 "DecimalWordsModel" "mode" "I", .constantLong RX4 77 (2), .methodLink RX4 63 yX4_whole, .instanceMethod yX4_whole, .selects RX4 yX4_whole yX4_whole, .methodLink RX4 67 yX4_times, .instanceMethod yX4_times, .selects RX4 yX4_times yX4_times, .code yX4_fit cX4_fit 10 none, .fieldLink RX4 86 "DecimalWordsModel" "unit" "I", .constantLong RX4 97 (10000000000000000), .constantLong RX4 99 (1000000000000000), .methodLink RX4 79 yX4_trim, .instanceMethod yX4_trim, .selects RX4 yX4_trim yX4_trim, .methodLink RX4 82 yX4_between]
def gW_10 : List Cond := [.instanceMethod yX4_between, .selects RX4 yX4_between yX4_between, .methodLink RX4 89 yX4_great, .instanceMethod yX4_great, .selects RX4 yX4_great yX4_great, .code yX4_great cX4_great 3 none, .constantLong RX4 101 (9999999999999999), .methodLink RX4 93 yX4_rounded, .instanceMethod yX4_rounded, .selects RX4 yX4_rounded yX4_rounded, .code yX4_is cX4_is 3 (some .boolean), .code yX4_less cX4_less 2 (some .boolean), .code yX4_addDigits cX4_addDigits 4 none, .code yX4_subtractDigits cX4_subtractDigits 5 (some .boolean), .methodLink RX4 103 yX4_less, .instanceMethod yX4_less, .selects RX4 yX4_less yX4_less, .code yX4_add cX4_add 6 none, .methodLink RX4 107 yX4_is, .instanceMethod yX4_is, .selects RX4 yX4_is yX4_is, .methodLink RX4 111 yX4_invalid, .instanceMethod yX4_invalid, .selects RX4 yX4_invalid yX4_invalid, .methodLink RX4 114 yX4_lay, .instanceMethod yX4_lay, .selects RX4 yX4_lay yX4_lay, .methodLink RX4 118 yX4_layOther, .instanceMethod yX4_layOther, .selects RX4 yX4_layOther yX4_layOther, .methodLink RX4 121 yX4_addDigits, .instanceMethod yX4_addDigits, .selects RX4 yX4_addDigits yX4_addDigits, .methodLink RX4 124 yX4_subtractDigits, .instanceMethod yX4_subtractDigits, .selects RX4 yX4_subtractDigits yX4_subtractDigits, .methodLink RX4 127 yX4_fit, .instanceMethod yX4_fit, .selects RX4 yX4_fit yX4_fit, .code yX4_multiply cX4_multiply 11 none]
def gW_11 : List Cond := [.code yX4_divide cX4_divide 9 none, .code yX4_quantize cX4_quantize 9 none, .code yX4_lengthOf cX4_lengthOf 6 (some .int), .code yX4_compareSizes cX4_compareSizes 13 (some .int), .methodLink RX4 131 yX4_lengthOf, .instanceMethod yX4_lengthOf, .selects RX4 yX4_lengthOf yX4_lengthOf, .code yX4_signOf cX4_signOf 2 (some .int), .code yX4_order cX4_order 4 (some .int), .methodLink RX4 135 yX4_signOf, .instanceMethod yX4_signOf, .selects RX4 yX4_signOf yX4_signOf, .methodLink RX4 139 yX4_compareSizes, .instanceMethod yX4_compareSizes, .selects RX4 yX4_compareSizes yX4_compareSizes, .code yX4_next cX4_next 5 none, .code yX4_copy cX4_copy 2 none, .code yX4_operate cX4_operate 4 none, .methodLink RX4 143 yX4_add, .instanceMethod yX4_add, .selects RX4 yX4_add yX4_add, .methodLink RX4 147 yX4_multiply, .instanceMethod yX4_multiply, .selects RX4 yX4_multiply yX4_multiply, .methodLink RX4 151 yX4_divide, .instanceMethod yX4_divide, .selects RX4 yX4_divide yX4_divide, .methodLink RX4 154 yX4_quantize, .instanceMethod yX4_quantize, .selects RX4 yX4_quantize yX4_quantize, .methodLink RX4 157 yX4_order, .instanceMethod yX4_order, .selects RX4 yX4_order yX4_order, .methodLink RX4 160 yX4_copy, .instanceMethod yX4_copy, .selects RX4 yX4_copy yX4_copy, .methodLink RX4 164 yX4_next, .instanceMethod yX4_next, .selects RX4 yX4_next yX4_next, .code yX4_noRegister cX4_noRegister 2 (some .boolean)]
def gW_12 : List Cond := [.code yX4_store cX4_store 2 none, .code yX4_apply cX4_apply 5 none, .fieldLink RX4 175 "DecimalWordsModel" "flags" "I", .fieldLink RX4 178 "DecimalWordsModel" "traps" "I", .methodLink RX4 167 yX4_noRegister, .instanceMethod yX4_noRegister, .selects RX4 yX4_noRegister yX4_noRegister, .methodLink RX4 171 yX4_operate, .instanceMethod yX4_operate, .selects RX4 yX4_operate yX4_operate, .methodLink RX4 181 yX4_store, .instanceMethod yX4_store, .selects RX4 yX4_store yX4_store, .code yX4_sum cX4_sum 6 (some .int), .code yX4_put cX4_put 6 none, .code yX4_compare cX4_compare 3 (some .int), .code yX4_kind cX4_kind 2 (some .int), .code yX4_coefficient cX4_coefficient 2 (some .long), .code yX4_exponent cX4_exponent 2 (some .int), .code yX4_ten cX4_ten 8 (some .int), .code yX4_three cX4_three 11 (some .int), .code yX4_packDigits cX4_packDigits 10 (some .long), .constantLong RX4 184 (1000), .constantLong RX4 189 (256), .constantLong RX4 191 (8), .constantLong RX4 193 (6917529027641081856), .methodLink RX4 186 yX4_ten, .instanceMethod yX4_ten, .selects RX4 yX4_ten yX4_ten, .code yX4_pack cX4_pack 9 (some .long), .constantLong RX4 195 (-9223372036854775808), .constantLong RX4 197 (30), .constantLong RX4 199 (31), .constantLong RX4 204 (9007199254740992), .methodLink RX4 201 yX4_packDigits, .instanceMethod yX4_packDigits, .selects RX4 yX4_packDigits yX4_packDigits, .code yX4_unpack cX4_unpack 12 none, .constantLong RX4 206 (2251799813685247), .constantLong RX4 208 (9007199254740991)]
def gW_13 : List Cond := [.constantLong RX4 210 (1023), .constantLong RX4 212 (255), .methodLink RX4 214 yX4_three, .instanceMethod yX4_three, .selects RX4 yX4_three yX4_three, .code yX4_mode cX4_mode 2 none, .code yX4_trap cX4_trap 2 none, .code yX4_flags cX4_flags 1 (some .int), .code yX4_lower cX4_lower 1 none, .codeWith yL_put cL_put 7 (some .int) [(0, 9, 12, 13), (0, 9, 16, 15)], .classLink RL 13 "java/lang/IndexOutOfBoundsException", .classLink RL 15 "java/lang/IllegalArgumentException", .methodLink RL 7 yX3_put, .instanceMethod yX3_put, .selects RX3 yX3_put yX3_put, .codeWith yL_apply cL_apply 6 (some .int) [(0, 9, 12, 13), (0, 9, 16, 15), (0, 9, 20, 21)], .classLink RL 21 "java/lang/ArithmeticException", .methodLink RL 17 yX3_apply, .instanceMethod yX3_apply, .selects RX3 yX3_apply yX3_apply, .codeWith yL_compare cL_compare 5 (some .int) [(0, 10, 13, 13)], .methodLink RL 23 yX3_compare, .instanceMethod yX3_compare, .selects RX3 yX3_compare yX3_compare, .codeWith yL_kind cL_kind 4 (some .int) [(0, 9, 12, 13)], .methodLink RL 27 yX3_kind, .instanceMethod yX3_kind, .selects RX3 yX3_kind yX3_kind, .codeWith yL_coefficient cL_coefficient 4 (some .int) [(0, 8, 11, 13)], .methodLink RL 31 yX3_coefficient, .instanceMethod yX3_coefficient, .selects RX3 yX3_coefficient yX3_coefficient, .codeWith yL_exponent cL_exponent 4 (some .int) [(0, 9, 12, 13)], .methodLink RL 35 yX3_exponent, .instanceMethod yX3_exponent, .selects RX3 yX3_exponent yX3_exponent, .codeWith yL_pack cL_pack 5 (some .int) [(0, 9, 12, 13), (0, 9, 16, 15)], .methodLink RL 38 yX3_pack, .instanceMethod yX3_pack, .selects RX3 yX3_pack yX3_pack]
def gW_14 : List Cond := [.codeWith yL_unpack cL_unpack 6 (some .int) [(0, 7, 10, 13), (0, 7, 14, 15)], .methodLink RL 42 yX3_unpack, .instanceMethod yX3_unpack, .selects RX3 yX3_unpack yX3_unpack, .codeWith yL_mode cL_mode 3 (some .int) [(0, 5, 8, 15)], .methodLink RL 46 yX3_mode, .instanceMethod yX3_mode, .selects RX3 yX3_mode yX3_mode, .codeWith yL_trap cL_trap 3 (some .int) [(0, 5, 8, 15)], .methodLink RL 50 yX3_trap, .instanceMethod yX3_trap, .selects RX3 yX3_trap yX3_trap, .codeWith yL_sum cL_sum 6 (some .int) [(0, 12, 15, 13)], .methodLink RL 53 yX3_sum, .instanceMethod yX3_sum, .selects RX3 yX3_sum yX3_sum, .classLink RL 8 RX3, .instantiable RX3 7, .classLink RL 58 RX4, .instantiable RX4 18, .constantLong RL 61 (4294967295), .methodLink RL 57 yX3_init, .instanceMethod yX3_init, .methodLink RL 60 yX4_init, .instanceMethod yX4_init, .methodLink RL 63 yL_put, .static yL_put, .initialized RL, .methodLink RL 68 yX4_put, .instanceMethod yX4_put, .selects RX4 yX4_put yX4_put, .methodLink RL 69 yX4_thrown, .instanceMethod yX4_thrown, .selects RX4 yX4_thrown yX4_thrown, .methodLink RL 73 yL_apply, .static yL_apply, .methodLink RL 76 yX4_apply, .instanceMethod yX4_apply, .selects RX4 yX4_apply yX4_apply, .methodLink RL 77 yL_compare]
def gW_15 : List Cond := [.static yL_compare, .methodLink RL 80 yX4_compare, .instanceMethod yX4_compare, .selects RX4 yX4_compare yX4_compare, .methodLink RL 81 yL_kind, .static yL_kind, .methodLink RL 84 yX4_kind, .instanceMethod yX4_kind, .selects RX4 yX4_kind yX4_kind, .methodLink RL 85 yL_coefficient, .static yL_coefficient, .methodLink RL 87 yX4_coefficient, .instanceMethod yX4_coefficient, .selects RX4 yX4_coefficient yX4_coefficient, .methodLink RL 88 yL_exponent, .static yL_exponent, .methodLink RL 90 yX4_exponent, .instanceMethod yX4_exponent, .selects RX4 yX4_exponent yX4_exponent, .methodLink RL 91 yL_pack, .static yL_pack, .methodLink RL 93 yX4_pack, .instanceMethod yX4_pack, .selects RX4 yX4_pack yX4_pack, .methodLink RL 94 yL_unpack, .static yL_unpack, .methodLink RL 97 yX4_unpack, .instanceMethod yX4_unpack, .selects RX4 yX4_unpack yX4_unpack, .methodLink RL 98 yL_mode, .static yL_mode, .methodLink RL 101 yX4_mode, .instanceMethod yX4_mode, .selects RX4 yX4_mode yX4_mode, .methodLink RL 102 yL_trap, .static yL_trap, .methodLink RL 104 yX4_trap, .instanceMethod yX4_trap, .selects RX4 yX4_trap yX4_trap, .methodLink RL 105 yX3_flags]
def gW_16 : List Cond := [.instanceMethod yX3_flags, .selects RX3 yX3_flags yX3_flags, .methodLink RL 108 yX4_flags, .instanceMethod yX4_flags, .selects RX4 yX4_flags yX4_flags, .methodLink RL 109 yX3_lower, .instanceMethod yX3_lower, .selects RX3 yX3_lower yX3_lower, .methodLink RL 112 yX4_lower, .instanceMethod yX4_lower, .selects RX4 yX4_lower yX4_lower, .methodLink RL 113 yL_sum, .static yL_sum, .methodLink RL 116 yX4_sum, .instanceMethod yX4_sum, .selects RX4 yX4_sum yX4_sum]
def gW : List Cond := wsX00 ++ (wsX10 ++ (wsX30 ++ (wsX40 ++ (gW_1 ++ (gW_2 ++ (gW_3 ++ (gW_4 ++ (gW_5 ++ (gW_6 ++ (gW_7 ++ (gW_8 ++ (gW_9 ++ (gW_10 ++ (gW_11 ++ (gW_12 ++ (gW_13 ++ (gW_14 ++ (gW_15 ++ (gW_16)))))))))))))))))))
theorem inW_X0 : ∀ w ∈ wsX00, w ∈ gW := fun _ h => List.mem_append_left _ h
theorem inW_X1 : ∀ w ∈ wsX10, w ∈ gW := fun _ h => List.mem_append_right _ (List.mem_append_left _ h)
theorem inW_X3 : ∀ w ∈ wsX30, w ∈ gW := fun _ h => List.mem_append_right _ (List.mem_append_right _ (List.mem_append_left _ h))
theorem inW_X4 : ∀ w ∈ wsX40, w ∈ gW := fun _ h => List.mem_append_right _ (List.mem_append_right _ (List.mem_append_right _ (List.mem_append_left _ h)))
theorem inW_1 : ∀ w ∈ gW_1, w ∈ gW := fun _ h => List.mem_append_right _ (List.mem_append_right _ (List.mem_append_right _ (List.mem_append_right _ (List.mem_append_left _ h))))
theorem inW_2 : ∀ w ∈ gW_2, w ∈ gW := fun _ h => List.mem_append_right _ (List.mem_append_right _ (List.mem_append_right _ (List.mem_append_right _ (List.mem_append_right _ (List.mem_append_left _ h)))))
theorem inW_3 : ∀ w ∈ gW_3, w ∈ gW := fun _ h => List.mem_append_right _ (List.mem_append_right _ (List.mem_append_right _ (List.mem_append_right _ (List.mem_append_right _ (List.mem_append_right _ (List.mem_append_left _ h))))))
theorem inW_4 : ∀ w ∈ gW_4, w ∈ gW := fun _ h => List.mem_append_right _ (List.mem_append_right _ (List.mem_append_right _ (List.mem_append_right _ (List.mem_append_right _ (List.mem_append_right _ (List.mem_append_right _ (List.mem_append_left _ h)))))))
theorem inW_5 : ∀ w ∈ gW_5, w ∈ gW := fun _ h => List.mem_append_right _ (List.mem_append_right _ (List.mem_append_right _ (List.mem_append_right _ (List.mem_append_right _ (List.mem_append_right _ (List.mem_append_right _ (List.mem_append_right _ (List.mem_append_left _ h))))))))
theorem inW_6 : ∀ w ∈ gW_6, w ∈ gW := fun _ h => List.mem_append_right _ (List.mem_append_right _ (List.mem_append_right _ (List.mem_append_right _ (List.mem_append_right _ (List.mem_append_right _ (List.mem_append_right _ (List.mem_append_right _ (List.mem_append_right _ (List.mem_append_left _ h)))))))))
theorem inW_7 : ∀ w ∈ gW_7, w ∈ gW := fun _ h => List.mem_append_right _ (List.mem_append_right _ (List.mem_append_right _ (List.mem_append_right _ (List.mem_append_right _ (List.mem_append_right _ (List.mem_append_right _ (List.mem_append_right _ (List.mem_append_right _ (List.mem_append_right _ (List.mem_append_left _ h))))))))))
theorem inW_8 : ∀ w ∈ gW_8, w ∈ gW := fun _ h => List.mem_append_right _ (List.mem_append_right _ (List.mem_append_right _ (List.mem_append_right _ (List.mem_append_right _ (List.mem_append_right _ (List.mem_append_right _ (List.mem_append_right _ (List.mem_append_right _ (List.mem_append_right _ (List.mem_append_right _ (List.mem_append_left _ h)))))))))))
theorem inW_9 : ∀ w ∈ gW_9, w ∈ gW := fun _ h => List.mem_append_right _ (List.mem_append_right _ (List.mem_append_right _ (List.mem_append_right _ (List.mem_append_right _ (List.mem_append_right _ (List.mem_append_right _ (List.mem_append_right _ (List.mem_append_right _ (List.mem_append_right _ (List.mem_append_right _ (List.mem_append_right _ (List.mem_append_left _ h))))))))))))
theorem inW_10 : ∀ w ∈ gW_10, w ∈ gW := fun _ h => List.mem_append_right _ (List.mem_append_right _ (List.mem_append_right _ (List.mem_append_right _ (List.mem_append_right _ (List.mem_append_right _ (List.mem_append_right _ (List.mem_append_right _ (List.mem_append_right _ (List.mem_append_right _ (List.mem_append_right _ (List.mem_append_right _ (List.mem_append_right _ (List.mem_append_left _ h)))))))))))))
theorem inW_11 : ∀ w ∈ gW_11, w ∈ gW := fun _ h => List.mem_append_right _ (List.mem_append_right _ (List.mem_append_right _ (List.mem_append_right _ (List.mem_append_right _ (List.mem_append_right _ (List.mem_append_right _ (List.mem_append_right _ (List.mem_append_right _ (List.mem_append_right _ (List.mem_append_right _ (List.mem_append_right _ (List.mem_append_right _ (List.mem_append_right _ (List.mem_append_left _ h))))))))))))))
theorem inW_12 : ∀ w ∈ gW_12, w ∈ gW := fun _ h => List.mem_append_right _ (List.mem_append_right _ (List.mem_append_right _ (List.mem_append_right _ (List.mem_append_right _ (List.mem_append_right _ (List.mem_append_right _ (List.mem_append_right _ (List.mem_append_right _ (List.mem_append_right _ (List.mem_append_right _ (List.mem_append_right _ (List.mem_append_right _ (List.mem_append_right _ (List.mem_append_right _ (List.mem_append_left _ h)))))))))))))))
theorem inW_13 : ∀ w ∈ gW_13, w ∈ gW := fun _ h => List.mem_append_right _ (List.mem_append_right _ (List.mem_append_right _ (List.mem_append_right _ (List.mem_append_right _ (List.mem_append_right _ (List.mem_append_right _ (List.mem_append_right _ (List.mem_append_right _ (List.mem_append_right _ (List.mem_append_right _ (List.mem_append_right _ (List.mem_append_right _ (List.mem_append_right _ (List.mem_append_right _ (List.mem_append_right _ (List.mem_append_left _ h))))))))))))))))
theorem inW_14 : ∀ w ∈ gW_14, w ∈ gW := fun _ h => List.mem_append_right _ (List.mem_append_right _ (List.mem_append_right _ (List.mem_append_right _ (List.mem_append_right _ (List.mem_append_right _ (List.mem_append_right _ (List.mem_append_right _ (List.mem_append_right _ (List.mem_append_right _ (List.mem_append_right _ (List.mem_append_right _ (List.mem_append_right _ (List.mem_append_right _ (List.mem_append_right _ (List.mem_append_right _ (List.mem_append_right _ (List.mem_append_left _ h)))))))))))))))))
theorem inW_15 : ∀ w ∈ gW_15, w ∈ gW := fun _ h => List.mem_append_right _ (List.mem_append_right _ (List.mem_append_right _ (List.mem_append_right _ (List.mem_append_right _ (List.mem_append_right _ (List.mem_append_right _ (List.mem_append_right _ (List.mem_append_right _ (List.mem_append_right _ (List.mem_append_right _ (List.mem_append_right _ (List.mem_append_right _ (List.mem_append_right _ (List.mem_append_right _ (List.mem_append_right _ (List.mem_append_right _ (List.mem_append_right _ (List.mem_append_left _ h))))))))))))))))))
theorem inW_16 : ∀ w ∈ gW_16, w ∈ gW := fun _ h => List.mem_append_right _ (List.mem_append_right _ (List.mem_append_right _ (List.mem_append_right _ (List.mem_append_right _ (List.mem_append_right _ (List.mem_append_right _ (List.mem_append_right _ (List.mem_append_right _ (List.mem_append_right _ (List.mem_append_right _ (List.mem_append_right _ (List.mem_append_right _ (List.mem_append_right _ (List.mem_append_right _ (List.mem_append_right _ (List.mem_append_right _ (List.mem_append_right _ (List.mem_append_right _ (h)))))))))))))))))))
theorem gd_wsX00 : wsX00.all goodWord = true := by decide +kernel
theorem gd_wsX10 : wsX10.all goodWord = true := by decide +kernel
theorem gd_wsX30 : wsX30.all goodWord = true := by decide +kernel
theorem gd_wsX40 : wsX40.all goodWord = true := by decide +kernel
theorem gd_gW_1 : gW_1.all goodWord = true := by decide +kernel
theorem gd_gW_2 : gW_2.all goodWord = true := by decide +kernel
theorem gd_gW_3 : gW_3.all goodWord = true := by decide +kernel
theorem gd_gW_4 : gW_4.all goodWord = true := by decide +kernel
theorem gd_gW_5 : gW_5.all goodWord = true := by decide +kernel
theorem gd_gW_6 : gW_6.all goodWord = true := by decide +kernel
theorem gd_gW_7 : gW_7.all goodWord = true := by decide +kernel
theorem gd_gW_8 : gW_8.all goodWord = true := by decide +kernel
theorem gd_gW_9 : gW_9.all goodWord = true := by decide +kernel
theorem gd_gW_10 : gW_10.all goodWord = true := by decide +kernel
theorem gd_gW_11 : gW_11.all goodWord = true := by decide +kernel
theorem gd_gW_12 : gW_12.all goodWord = true := by decide +kernel
theorem gd_gW_13 : gW_13.all goodWord = true := by decide +kernel
theorem gd_gW_14 : gW_14.all goodWord = true := by decide +kernel
theorem gd_gW_15 : gW_15.all goodWord = true := by decide +kernel
theorem gd_gW_16 : gW_16.all goodWord = true := by decide +kernel
theorem gW_good : ∀ w ∈ gW, goodWord w = true := fun w h => (List.mem_append.mp h).elim (fun h => List.all_eq_true.mp gd_wsX00 w h) (fun h => (List.mem_append.mp h).elim (fun h => List.all_eq_true.mp gd_wsX10 w h) (fun h => (List.mem_append.mp h).elim (fun h => List.all_eq_true.mp gd_wsX30 w h) (fun h => (List.mem_append.mp h).elim (fun h => List.all_eq_true.mp gd_wsX40 w h) (fun h => (List.mem_append.mp h).elim (fun h => List.all_eq_true.mp gd_gW_1 w h) (fun h => (List.mem_append.mp h).elim (fun h => List.all_eq_true.mp gd_gW_2 w h) (fun h => (List.mem_append.mp h).elim (fun h => List.all_eq_true.mp gd_gW_3 w h) (fun h => (List.mem_append.mp h).elim (fun h => List.all_eq_true.mp gd_gW_4 w h) (fun h => (List.mem_append.mp h).elim (fun h => List.all_eq_true.mp gd_gW_5 w h) (fun h => (List.mem_append.mp h).elim (fun h => List.all_eq_true.mp gd_gW_6 w h) (fun h => (List.mem_append.mp h).elim (fun h => List.all_eq_true.mp gd_gW_7 w h) (fun h => (List.mem_append.mp h).elim (fun h => List.all_eq_true.mp gd_gW_8 w h) (fun h => (List.mem_append.mp h).elim (fun h => List.all_eq_true.mp gd_gW_9 w h) (fun h => (List.mem_append.mp h).elim (fun h => List.all_eq_true.mp gd_gW_10 w h) (fun h => (List.mem_append.mp h).elim (fun h => List.all_eq_true.mp gd_gW_11 w h) (fun h => (List.mem_append.mp h).elim (fun h => List.all_eq_true.mp gd_gW_12 w h) (fun h => (List.mem_append.mp h).elim (fun h => List.all_eq_true.mp gd_gW_13 w h) (fun h => (List.mem_append.mp h).elim (fun h => List.all_eq_true.mp gd_gW_14 w h) (fun h => (List.mem_append.mp h).elim (fun h => List.all_eq_true.mp gd_gW_15 w h) (fun h => List.all_eq_true.mp gd_gW_16 w h)))))))))))))))))))
set_option maxRecDepth 20000 in
theorem tb_gW_1 : ∀ w ∈ gW_1, w ∈ lw_tbl := List.forall_mem_cons.mpr ⟨inT_1 _ (List.mem_of_getElem? (i := 28) rfl), List.forall_mem_cons.mpr ⟨inT_1 _ (List.mem_of_getElem? (i := 29) rfl), List.forall_mem_cons.mpr ⟨inT_1 _ (List.mem_of_getElem? (i := 21) rfl), List.forall_mem_cons.mpr ⟨inT_2 _ (List.mem_of_getElem? (i := 5) rfl), List.forall_mem_cons.mpr ⟨inT_1 _ (List.mem_of_getElem? (i := 30) rfl), List.forall_mem_cons.mpr ⟨inT_1 _ (List.mem_of_getElem? (i := 34) rfl), List.forall_mem_cons.mpr ⟨inT_1 _ (List.mem_of_getElem? (i := 37) rfl), List.forall_mem_cons.mpr ⟨inT_1 _ (List.mem_of_getElem? (i := 41) rfl), List.forall_mem_cons.mpr ⟨inT_2 _ (List.mem_of_getElem? (i := 75) rfl), List.forall_mem_cons.mpr ⟨inT_2 _ (List.mem_of_getElem? (i := 79) rfl), List.forall_mem_cons.mpr ⟨inT_2 _ (List.mem_of_getElem? (i := 43) rfl), List.forall_mem_cons.mpr ⟨inT_2 _ (List.mem_of_getElem? (i := 48) rfl), List.forall_mem_cons.mpr ⟨inT_2 _ (List.mem_of_getElem? (i := 86) rfl), List.forall_mem_cons.mpr ⟨inT_2 _ (List.mem_of_getElem? (i := 87) rfl), List.forall_mem_cons.mpr ⟨inT_2 _ (List.mem_of_getElem? (i := 46) rfl), List.forall_mem_cons.mpr ⟨inT_2 _ (List.mem_of_getElem? (i := 47) rfl), List.forall_mem_cons.mpr ⟨inT_1 _ (List.mem_of_getElem? (i := 2) rfl), List.forall_mem_cons.mpr ⟨inT_1 _ (List.mem_of_getElem? (i := 58) rfl), List.forall_mem_cons.mpr ⟨inT_1 _ (List.mem_of_getElem? (i := 59) rfl), List.forall_mem_cons.mpr ⟨inT_2 _ (List.mem_of_getElem? (i := 138) rfl), List.forall_mem_cons.mpr ⟨inT_1 _ (List.mem_of_getElem? (i := 62) rfl), List.forall_mem_cons.mpr ⟨inT_1 _ (List.mem_of_getElem? (i := 64) rfl), List.forall_mem_cons.mpr ⟨inT_1 _ (List.mem_of_getElem? (i := 68) rfl), List.forall_mem_cons.mpr ⟨inT_2 _ (List.mem_of_getElem? (i := 161) rfl), List.forall_mem_cons.mpr ⟨inT_2 _ (List.mem_of_getElem? (i := 50) rfl), List.forall_mem_cons.mpr ⟨inT_1 _ (List.mem_of_getElem? (i := 1) rfl), List.forall_mem_cons.mpr ⟨inT_2 _ (List.mem_of_getElem? (i := 51) rfl), List.forall_mem_cons.mpr ⟨inT_2 _ (List.mem_of_getElem? (i := 52) rfl), List.forall_mem_cons.mpr ⟨inT_2 _ (List.mem_of_getElem? (i := 122) rfl), List.forall_mem_cons.mpr ⟨inT_1 _ (List.mem_of_getElem? (i := 35) rfl), List.forall_mem_cons.mpr ⟨inT_1 _ (List.mem_of_getElem? (i := 60) rfl), List.forall_mem_cons.mpr ⟨inT_1 _ (List.mem_of_getElem? (i := 39) rfl), List.forall_mem_cons.mpr ⟨inT_1 _ (List.mem_of_getElem? (i := 43) rfl), List.forall_mem_cons.mpr ⟨inT_1 _ (List.mem_of_getElem? (i := 66) rfl), List.forall_mem_cons.mpr ⟨inT_2 _ (List.mem_of_getElem? (i := 117) rfl), List.forall_mem_cons.mpr ⟨inT_2 _ (List.mem_of_getElem? (i := 128) rfl), List.forall_mem_cons.mpr ⟨inT_2 _ (List.mem_of_getElem? (i := 55) rfl), List.forall_mem_cons.mpr ⟨inT_1 _ (List.mem_of_getElem? (i := 13) rfl), List.forall_mem_cons.mpr ⟨inT_2 _ (List.mem_of_getElem? (i := 56) rfl), List.forall_mem_cons.mpr ⟨inT_1 _ (List.mem_of_getElem? (i := 70) rfl), fun _ h => absurd h List.not_mem_nil⟩⟩⟩⟩⟩⟩⟩⟩⟩⟩⟩⟩⟩⟩⟩⟩⟩⟩⟩⟩⟩⟩⟩⟩⟩⟩⟩⟩⟩⟩⟩⟩⟩⟩⟩⟩⟩⟩⟩⟩
set_option maxRecDepth 20000 in
theorem tb_gW_2 : ∀ w ∈ gW_2, w ∈ lw_tbl := List.forall_mem_cons.mpr ⟨inT_2 _ (List.mem_of_getElem? (i := 118) rfl), List.forall_mem_cons.mpr ⟨inT_2 _ (List.mem_of_getElem? (i := 119) rfl), List.forall_mem_cons.mpr ⟨inT_2 _ (List.mem_of_getElem? (i := 120) rfl), List.forall_mem_cons.mpr ⟨inT_2 _ (List.mem_of_getElem? (i := 121) rfl), List.forall_mem_cons.mpr ⟨inT_1 _ (List.mem_of_getElem? (i := 3) rfl), List.forall_mem_cons.mpr ⟨inT_2 _ (List.mem_of_getElem? (i := 123) rfl), List.forall_mem_cons.mpr ⟨inT_2 _ (List.mem_of_getElem? (i := 125) rfl), List.forall_mem_cons.mpr ⟨inT_p _ (List.mem_of_getElem? (i := 11) rfl), List.forall_mem_cons.mpr ⟨inT_2 _ (List.mem_of_getElem? (i := 126) rfl), List.forall_mem_cons.mpr ⟨inT_2 _ (List.mem_of_getElem? (i := 58) rfl), List.forall_mem_cons.mpr ⟨inT_2 _ (List.mem_of_getElem? (i := 59) rfl), List.forall_mem_cons.mpr ⟨inT_2 _ (List.mem_of_getElem? (i := 54) rfl), List.forall_mem_cons.mpr ⟨inT_2 _ (List.mem_of_getElem? (i := 60) rfl), List.forall_mem_cons.mpr ⟨inT_2 _ (List.mem_of_getElem? (i := 61) rfl), List.forall_mem_cons.mpr ⟨inT_2 _ (List.mem_of_getElem? (i := 62) rfl), List.forall_mem_cons.mpr ⟨inT_2 _ (List.mem_of_getElem? (i := 130) rfl), List.forall_mem_cons.mpr ⟨inT_2 _ (List.mem_of_getElem? (i := 132) rfl), List.forall_mem_cons.mpr ⟨inT_p _ (List.mem_of_getElem? (i := 12) rfl), List.forall_mem_cons.mpr ⟨inT_2 _ (List.mem_of_getElem? (i := 133) rfl), List.forall_mem_cons.mpr ⟨inT_2 _ (List.mem_of_getElem? (i := 134) rfl), List.forall_mem_cons.mpr ⟨inT_2 _ (List.mem_of_getElem? (i := 135) rfl), List.forall_mem_cons.mpr ⟨inT_2 _ (List.mem_of_getElem? (i := 136) rfl), List.forall_mem_cons.mpr ⟨inT_2 _ (List.mem_of_getElem? (i := 137) rfl), List.forall_mem_cons.mpr ⟨inT_2 _ (List.mem_of_getElem? (i := 182) rfl), List.forall_mem_cons.mpr ⟨inT_2 _ (List.mem_of_getElem? (i := 183) rfl), List.forall_mem_cons.mpr ⟨inT_2 _ (List.mem_of_getElem? (i := 191) rfl), List.forall_mem_cons.mpr ⟨inT_2 _ (List.mem_of_getElem? (i := 192) rfl), List.forall_mem_cons.mpr ⟨inT_2 _ (List.mem_of_getElem? (i := 193) rfl), List.forall_mem_cons.mpr ⟨inT_2 _ (List.mem_of_getElem? (i := 194) rfl), List.forall_mem_cons.mpr ⟨inT_2 _ (List.mem_of_getElem? (i := 152) rfl), List.forall_mem_cons.mpr ⟨inT_2 _ (List.mem_of_getElem? (i := 151) rfl), List.forall_mem_cons.mpr ⟨inT_2 _ (List.mem_of_getElem? (i := 153) rfl), List.forall_mem_cons.mpr ⟨inT_2 _ (List.mem_of_getElem? (i := 169) rfl), List.forall_mem_cons.mpr ⟨inT_1 _ (List.mem_of_getElem? (i := 72) rfl), List.forall_mem_cons.mpr ⟨inT_1 _ (List.mem_of_getElem? (i := 74) rfl), List.forall_mem_cons.mpr ⟨inT_2 _ (List.mem_of_getElem? (i := 170) rfl), List.forall_mem_cons.mpr ⟨inT_2 _ (List.mem_of_getElem? (i := 171) rfl), List.forall_mem_cons.mpr ⟨inT_2 _ (List.mem_of_getElem? (i := 172) rfl), List.forall_mem_cons.mpr ⟨inT_2 _ (List.mem_of_getElem? (i := 173) rfl), List.forall_mem_cons.mpr ⟨inT_3 _ (List.mem_of_getElem? (i := 4) rfl), fun _ h => absurd h List.not_mem_nil⟩⟩⟩⟩⟩⟩⟩⟩⟩⟩⟩⟩⟩⟩⟩⟩⟩⟩⟩⟩⟩⟩⟩⟩⟩⟩⟩⟩⟩⟩⟩⟩⟩⟩⟩⟩⟩⟩⟩⟩
set_option maxRecDepth 20000 in
theorem tb_gW_3 : ∀ w ∈ gW_3, w ∈ lw_tbl := List.forall_mem_cons.mpr ⟨inT_1 _ (List.mem_of_getElem? (i := 33) rfl), List.forall_mem_cons.mpr ⟨inT_3 _ (List.mem_of_getElem? (i := 5) rfl), List.forall_mem_cons.mpr ⟨inT_1 _ (List.mem_of_getElem? (i := 31) rfl), List.forall_mem_cons.mpr ⟨inT_3 _ (List.mem_of_getElem? (i := 6) rfl), List.forall_mem_cons.mpr ⟨inT_3 _ (List.mem_of_getElem? (i := 7) rfl), List.forall_mem_cons.mpr ⟨inT_1 _ (List.mem_of_getElem? (i := 42) rfl), List.forall_mem_cons.mpr ⟨inT_1 _ (List.mem_of_getElem? (i := 38) rfl), List.forall_mem_cons.mpr ⟨inT_3 _ (List.mem_of_getElem? (i := 8) rfl), List.forall_mem_cons.mpr ⟨inT_3 _ (List.mem_of_getElem? (i := 9) rfl), List.forall_mem_cons.mpr ⟨inT_1 _ (List.mem_of_getElem? (i := 14) rfl), List.forall_mem_cons.mpr ⟨inT_3 _ (List.mem_of_getElem? (i := 10) rfl), List.forall_mem_cons.mpr ⟨inT_3 _ (List.mem_of_getElem? (i := 11) rfl), List.forall_mem_cons.mpr ⟨inT_3 _ (List.mem_of_getElem? (i := 12) rfl), List.forall_mem_cons.mpr ⟨inT_3 _ (List.mem_of_getElem? (i := 13) rfl), List.forall_mem_cons.mpr ⟨inT_3 _ (List.mem_of_getElem? (i := 14) rfl), List.forall_mem_cons.mpr ⟨inT_3 _ (List.mem_of_getElem? (i := 15) rfl), List.forall_mem_cons.mpr ⟨inT_3 _ (List.mem_of_getElem? (i := 17) rfl), List.forall_mem_cons.mpr ⟨inT_3 _ (List.mem_of_getElem? (i := 18) rfl), List.forall_mem_cons.mpr ⟨inT_3 _ (List.mem_of_getElem? (i := 19) rfl), List.forall_mem_cons.mpr ⟨inT_3 _ (List.mem_of_getElem? (i := 20) rfl), List.forall_mem_cons.mpr ⟨inT_3 _ (List.mem_of_getElem? (i := 21) rfl), List.forall_mem_cons.mpr ⟨inT_3 _ (List.mem_of_getElem? (i := 22) rfl), List.forall_mem_cons.mpr ⟨inT_3 _ (List.mem_of_getElem? (i := 23) rfl), List.forall_mem_cons.mpr ⟨inT_3 _ (List.mem_of_getElem? (i := 24) rfl), List.forall_mem_cons.mpr ⟨inT_3 _ (List.mem_of_getElem? (i := 34) rfl), List.forall_mem_cons.mpr ⟨inT_3 _ (List.mem_of_getElem? (i := 35) rfl), List.forall_mem_cons.mpr ⟨inT_3 _ (List.mem_of_getElem? (i := 36) rfl), List.forall_mem_cons.mpr ⟨inT_3 _ (List.mem_of_getElem? (i := 37) rfl), List.forall_mem_cons.mpr ⟨inT_2 _ (List.mem_of_getElem? (i := 73) rfl), List.forall_mem_cons.mpr ⟨inT_2 _ (List.mem_of_getElem? (i := 74) rfl), List.forall_mem_cons.mpr ⟨inT_3 _ (List.mem_of_getElem? (i := 38) rfl), List.forall_mem_cons.mpr ⟨inT_2 _ (List.mem_of_getElem? (i := 77) rfl), List.forall_mem_cons.mpr ⟨inT_2 _ (List.mem_of_getElem? (i := 78) rfl), List.forall_mem_cons.mpr ⟨inT_3 _ (List.mem_of_getElem? (i := 39) rfl), List.forall_mem_cons.mpr ⟨inT_3 _ (List.mem_of_getElem? (i := 40) rfl), List.forall_mem_cons.mpr ⟨inT_3 _ (List.mem_of_getElem? (i := 41) rfl), List.forall_mem_cons.mpr ⟨inT_3 _ (List.mem_of_getElem? (i := 42) rfl), List.forall_mem_cons.mpr ⟨inT_3 _ (List.mem_of_getElem? (i := 43) rfl), List.forall_mem_cons.mpr ⟨inT_3 _ (List.mem_of_getElem? (i := 44) rfl), List.forall_mem_cons.mpr ⟨inT_3 _ (List.mem_of_getElem? (i := 45) rfl), fun _ h => absurd h List.not_mem_nil⟩⟩⟩⟩⟩⟩⟩⟩⟩⟩⟩⟩⟩⟩⟩⟩⟩⟩⟩⟩⟩⟩⟩⟩⟩⟩⟩⟩⟩⟩⟩⟩⟩⟩⟩⟩⟩⟩⟩⟩
set_option maxRecDepth 20000 in
theorem tb_gW_4 : ∀ w ∈ gW_4, w ∈ lw_tbl := List.forall_mem_cons.mpr ⟨inT_3 _ (List.mem_of_getElem? (i := 46) rfl), List.forall_mem_cons.mpr ⟨inT_3 _ (List.mem_of_getElem? (i := 47) rfl), List.forall_mem_cons.mpr ⟨inT_3 _ (List.mem_of_getElem? (i := 48) rfl), List.forall_mem_cons.mpr ⟨inT_3 _ (List.mem_of_getElem? (i := 49) rfl), List.forall_mem_cons.mpr ⟨inT_3 _ (List.mem_of_getElem? (i := 50) rfl), List.forall_mem_cons.mpr ⟨inT_3 _ (List.mem_of_getElem? (i := 51) rfl), List.forall_mem_cons.mpr ⟨inT_3 _ (List.mem_of_getElem? (i := 52) rfl), List.forall_mem_cons.mpr ⟨inT_3 _ (List.mem_of_getElem? (i := 53) rfl), List.forall_mem_cons.mpr ⟨inT_3 _ (List.mem_of_getElem? (i := 54) rfl), List.forall_mem_cons.mpr ⟨inT_2 _ (List.mem_of_getElem? (i := 3) rfl), List.forall_mem_cons.mpr ⟨inT_2 _ (List.mem_of_getElem? (i := 4) rfl), List.forall_mem_cons.mpr ⟨inT_3 _ (List.mem_of_getElem? (i := 55) rfl), List.forall_mem_cons.mpr ⟨inT_3 _ (List.mem_of_getElem? (i := 56) rfl), List.forall_mem_cons.mpr ⟨inT_3 _ (List.mem_of_getElem? (i := 57) rfl), List.forall_mem_cons.mpr ⟨inT_3 _ (List.mem_of_getElem? (i := 58) rfl), List.forall_mem_cons.mpr ⟨inT_3 _ (List.mem_of_getElem? (i := 59) rfl), List.forall_mem_cons.mpr ⟨inT_3 _ (List.mem_of_getElem? (i := 60) rfl), List.forall_mem_cons.mpr ⟨inT_1 _ (List.mem_of_getElem? (i := 19) rfl), List.forall_mem_cons.mpr ⟨inT_1 _ (List.mem_of_getElem? (i := 20) rfl), List.forall_mem_cons.mpr ⟨inT_1 _ (List.mem_of_getElem? (i := 23) rfl), List.forall_mem_cons.mpr ⟨inT_1 _ (List.mem_of_getElem? (i := 93) rfl), List.forall_mem_cons.mpr ⟨inT_1 _ (List.mem_of_getElem? (i := 25) rfl), List.forall_mem_cons.mpr ⟨inT_1 _ (List.mem_of_getElem? (i := 94) rfl), List.forall_mem_cons.mpr ⟨inT_1 _ (List.mem_of_getElem? (i := 54) rfl), List.forall_mem_cons.mpr ⟨inT_1 _ (List.mem_of_getElem? (i := 55) rfl), List.forall_mem_cons.mpr ⟨inT_1 _ (List.mem_of_getElem? (i := 95) rfl), List.forall_mem_cons.mpr ⟨inT_1 _ (List.mem_of_getElem? (i := 96) rfl), List.forall_mem_cons.mpr ⟨inT_1 _ (List.mem_of_getElem? (i := 97) rfl), List.forall_mem_cons.mpr ⟨inT_1 _ (List.mem_of_getElem? (i := 98) rfl), List.forall_mem_cons.mpr ⟨inT_1 _ (List.mem_of_getElem? (i := 99) rfl), List.forall_mem_cons.mpr ⟨inT_1 _ (List.mem_of_getElem? (i := 27) rfl), List.forall_mem_cons.mpr ⟨inT_1 _ (List.mem_of_getElem? (i := 57) rfl), List.forall_mem_cons.mpr ⟨inT_1 _ (List.mem_of_getElem? (i := 207) rfl), List.forall_mem_cons.mpr ⟨inT_1 _ (List.mem_of_getElem? (i := 225) rfl), List.forall_mem_cons.mpr ⟨inT_1 _ (List.mem_of_getElem? (i := 11) rfl), List.forall_mem_cons.mpr ⟨inT_1 _ (List.mem_of_getElem? (i := 224) rfl), List.forall_mem_cons.mpr ⟨inT_1 _ (List.mem_of_getElem? (i := 208) rfl), List.forall_mem_cons.mpr ⟨inT_1 _ (List.mem_of_getElem? (i := 209) rfl), List.forall_mem_cons.mpr ⟨inT_1 _ (List.mem_of_getElem? (i := 210) rfl), List.forall_mem_cons.mpr ⟨inT_1 _ (List.mem_of_getElem? (i := 211) rfl), fun _ h => absurd h List.not_mem_nil⟩⟩⟩⟩⟩⟩⟩⟩⟩⟩⟩⟩⟩⟩⟩⟩⟩⟩⟩⟩⟩⟩⟩⟩⟩⟩⟩⟩⟩⟩⟩⟩⟩⟩⟩⟩⟩⟩⟩⟩
set_option maxRecDepth 20000 in
theorem tb_gW_5 : ∀ w ∈ gW_5, w ∈ lw_tbl := List.forall_mem_cons.mpr ⟨inT_1 _ (List.mem_of_getElem? (i := 8) rfl), List.forall_mem_cons.mpr ⟨inT_2 _ (List.mem_of_getElem? (i := 2) rfl), List.forall_mem_cons.mpr ⟨inT_2 _ (List.mem_of_getElem? (i := 26) rfl), List.forall_mem_cons.mpr ⟨inT_2 _ (List.mem_of_getElem? (i := 200) rfl), List.forall_mem_cons.mpr ⟨inT_1 _ (List.mem_of_getElem? (i := 12) rfl), List.forall_mem_cons.mpr ⟨inT_2 _ (List.mem_of_getElem? (i := 28) rfl), List.forall_mem_cons.mpr ⟨inT_2 _ (List.mem_of_getElem? (i := 30) rfl), List.forall_mem_cons.mpr ⟨inT_p _ (List.mem_of_getElem? (i := 1) rfl), List.forall_mem_cons.mpr ⟨inT_2 _ (List.mem_of_getElem? (i := 31) rfl), List.forall_mem_cons.mpr ⟨inT_2 _ (List.mem_of_getElem? (i := 32) rfl), List.forall_mem_cons.mpr ⟨inT_2 _ (List.mem_of_getElem? (i := 34) rfl), List.forall_mem_cons.mpr ⟨inT_p _ (List.mem_of_getElem? (i := 2) rfl), List.forall_mem_cons.mpr ⟨inT_2 _ (List.mem_of_getElem? (i := 35) rfl), List.forall_mem_cons.mpr ⟨inT_1 _ (List.mem_of_getElem? (i := 32) rfl), List.forall_mem_cons.mpr ⟨inT_2 _ (List.mem_of_getElem? (i := 36) rfl), List.forall_mem_cons.mpr ⟨inT_2 _ (List.mem_of_getElem? (i := 38) rfl), List.forall_mem_cons.mpr ⟨inT_p _ (List.mem_of_getElem? (i := 3) rfl), List.forall_mem_cons.mpr ⟨inT_2 _ (List.mem_of_getElem? (i := 39) rfl), List.forall_mem_cons.mpr ⟨inT_1 _ (List.mem_of_getElem? (i := 36) rfl), List.forall_mem_cons.mpr ⟨inT_2 _ (List.mem_of_getElem? (i := 44) rfl), List.forall_mem_cons.mpr ⟨inT_1 _ (List.mem_of_getElem? (i := 40) rfl), List.forall_mem_cons.mpr ⟨inT_1 _ (List.mem_of_getElem? (i := 44) rfl), List.forall_mem_cons.mpr ⟨inT_2 _ (List.mem_of_getElem? (i := 40) rfl), List.forall_mem_cons.mpr ⟨inT_2 _ (List.mem_of_getElem? (i := 41) rfl), List.forall_mem_cons.mpr ⟨inT_2 _ (List.mem_of_getElem? (i := 42) rfl), List.forall_mem_cons.mpr ⟨inT_2 _ (List.mem_of_getElem? (i := 45) rfl), List.forall_mem_cons.mpr ⟨inT_2 _ (List.mem_of_getElem? (i := 49) rfl), List.forall_mem_cons.mpr ⟨inT_2 _ (List.mem_of_getElem? (i := 57) rfl), List.forall_mem_cons.mpr ⟨inT_2 _ (List.mem_of_getElem? (i := 63) rfl), List.forall_mem_cons.mpr ⟨inT_2 _ (List.mem_of_getElem? (i := 65) rfl), List.forall_mem_cons.mpr ⟨inT_p _ (List.mem_of_getElem? (i := 4) rfl), List.forall_mem_cons.mpr ⟨inT_2 _ (List.mem_of_getElem? (i := 66) rfl), List.forall_mem_cons.mpr ⟨inT_2 _ (List.mem_of_getElem? (i := 67) rfl), List.forall_mem_cons.mpr ⟨inT_2 _ (List.mem_of_getElem? (i := 68) rfl), List.forall_mem_cons.mpr ⟨inT_2 _ (List.mem_of_getElem? (i := 70) rfl), List.forall_mem_cons.mpr ⟨inT_p _ (List.mem_of_getElem? (i := 5) rfl), List.forall_mem_cons.mpr ⟨inT_2 _ (List.mem_of_getElem? (i := 71) rfl), List.forall_mem_cons.mpr ⟨inT_2 _ (List.mem_of_getElem? (i := 72) rfl), List.forall_mem_cons.mpr ⟨inT_2 _ (List.mem_of_getElem? (i := 76) rfl), List.forall_mem_cons.mpr ⟨inT_2 _ (List.mem_of_getElem? (i := 80) rfl), fun _ h => absurd h List.not_mem_nil⟩⟩⟩⟩⟩⟩⟩⟩⟩⟩⟩⟩⟩⟩⟩⟩⟩⟩⟩⟩⟩⟩⟩⟩⟩⟩⟩⟩⟩⟩⟩⟩⟩⟩⟩⟩⟩⟩⟩⟩
set_option maxRecDepth 20000 in
theorem tb_gW_6 : ∀ w ∈ gW_6, w ∈ lw_tbl := List.forall_mem_cons.mpr ⟨inT_2 _ (List.mem_of_getElem? (i := 81) rfl), List.forall_mem_cons.mpr ⟨inT_2 _ (List.mem_of_getElem? (i := 82) rfl), List.forall_mem_cons.mpr ⟨inT_2 _ (List.mem_of_getElem? (i := 83) rfl), List.forall_mem_cons.mpr ⟨inT_2 _ (List.mem_of_getElem? (i := 84) rfl), List.forall_mem_cons.mpr ⟨inT_2 _ (List.mem_of_getElem? (i := 85) rfl), List.forall_mem_cons.mpr ⟨inT_2 _ (List.mem_of_getElem? (i := 88) rfl), List.forall_mem_cons.mpr ⟨inT_2 _ (List.mem_of_getElem? (i := 89) rfl), List.forall_mem_cons.mpr ⟨inT_2 _ (List.mem_of_getElem? (i := 90) rfl), List.forall_mem_cons.mpr ⟨inT_2 _ (List.mem_of_getElem? (i := 91) rfl), List.forall_mem_cons.mpr ⟨inT_2 _ (List.mem_of_getElem? (i := 92) rfl), List.forall_mem_cons.mpr ⟨inT_2 _ (List.mem_of_getElem? (i := 93) rfl), List.forall_mem_cons.mpr ⟨inT_2 _ (List.mem_of_getElem? (i := 94) rfl), List.forall_mem_cons.mpr ⟨inT_2 _ (List.mem_of_getElem? (i := 96) rfl), List.forall_mem_cons.mpr ⟨inT_p _ (List.mem_of_getElem? (i := 6) rfl), List.forall_mem_cons.mpr ⟨inT_2 _ (List.mem_of_getElem? (i := 97) rfl), List.forall_mem_cons.mpr ⟨inT_2 _ (List.mem_of_getElem? (i := 98) rfl), List.forall_mem_cons.mpr ⟨inT_2 _ (List.mem_of_getElem? (i := 100) rfl), List.forall_mem_cons.mpr ⟨inT_p _ (List.mem_of_getElem? (i := 7) rfl), List.forall_mem_cons.mpr ⟨inT_2 _ (List.mem_of_getElem? (i := 101) rfl), List.forall_mem_cons.mpr ⟨inT_2 _ (List.mem_of_getElem? (i := 102) rfl), List.forall_mem_cons.mpr ⟨inT_2 _ (List.mem_of_getElem? (i := 104) rfl), List.forall_mem_cons.mpr ⟨inT_p _ (List.mem_of_getElem? (i := 8) rfl), List.forall_mem_cons.mpr ⟨inT_2 _ (List.mem_of_getElem? (i := 105) rfl), List.forall_mem_cons.mpr ⟨inT_2 _ (List.mem_of_getElem? (i := 106) rfl), List.forall_mem_cons.mpr ⟨inT_2 _ (List.mem_of_getElem? (i := 108) rfl), List.forall_mem_cons.mpr ⟨inT_p _ (List.mem_of_getElem? (i := 9) rfl), List.forall_mem_cons.mpr ⟨inT_2 _ (List.mem_of_getElem? (i := 109) rfl), List.forall_mem_cons.mpr ⟨inT_2 _ (List.mem_of_getElem? (i := 110) rfl), List.forall_mem_cons.mpr ⟨inT_2 _ (List.mem_of_getElem? (i := 112) rfl), List.forall_mem_cons.mpr ⟨inT_p _ (List.mem_of_getElem? (i := 10) rfl), List.forall_mem_cons.mpr ⟨inT_2 _ (List.mem_of_getElem? (i := 113) rfl), List.forall_mem_cons.mpr ⟨inT_2 _ (List.mem_of_getElem? (i := 114) rfl), List.forall_mem_cons.mpr ⟨inT_2 _ (List.mem_of_getElem? (i := 115) rfl), List.forall_mem_cons.mpr ⟨inT_2 _ (List.mem_of_getElem? (i := 116) rfl), List.forall_mem_cons.mpr ⟨inT_2 _ (List.mem_of_getElem? (i := 139) rfl), List.forall_mem_cons.mpr ⟨inT_2 _ (List.mem_of_getElem? (i := 141) rfl), List.forall_mem_cons.mpr ⟨inT_p _ (List.mem_of_getElem? (i := 13) rfl), List.forall_mem_cons.mpr ⟨inT_2 _ (List.mem_of_getElem? (i := 142) rfl), List.forall_mem_cons.mpr ⟨inT_1 _ (List.mem_of_getElem? (i := 71) rfl), List.forall_mem_cons.mpr ⟨inT_1 _ (List.mem_of_getElem? (i := 61) rfl), fun _ h => absurd h List.not_mem_nil⟩⟩⟩⟩⟩⟩⟩⟩⟩⟩⟩⟩⟩⟩⟩⟩⟩⟩⟩⟩⟩⟩⟩⟩⟩⟩⟩⟩⟩⟩⟩⟩⟩⟩⟩⟩⟩⟩⟩⟩
set_option maxRecDepth 20000 in
theorem tb_gW_7 : ∀ w ∈ gW_7, w ∈ lw_tbl := List.forall_mem_cons.mpr ⟨inT_2 _ (List.mem_of_getElem? (i := 143) rfl), List.forall_mem_cons.mpr ⟨inT_2 _ (List.mem_of_getElem? (i := 144) rfl), List.forall_mem_cons.mpr ⟨inT_2 _ (List.mem_of_getElem? (i := 146) rfl), List.forall_mem_cons.mpr ⟨inT_p _ (List.mem_of_getElem? (i := 14) rfl), List.forall_mem_cons.mpr ⟨inT_2 _ (List.mem_of_getElem? (i := 147) rfl), List.forall_mem_cons.mpr ⟨inT_1 _ (List.mem_of_getElem? (i := 69) rfl), List.forall_mem_cons.mpr ⟨inT_1 _ (List.mem_of_getElem? (i := 63) rfl), List.forall_mem_cons.mpr ⟨inT_1 _ (List.mem_of_getElem? (i := 67) rfl), List.forall_mem_cons.mpr ⟨inT_1 _ (List.mem_of_getElem? (i := 65) rfl), List.forall_mem_cons.mpr ⟨inT_2 _ (List.mem_of_getElem? (i := 148) rfl), List.forall_mem_cons.mpr ⟨inT_2 _ (List.mem_of_getElem? (i := 149) rfl), List.forall_mem_cons.mpr ⟨inT_2 _ (List.mem_of_getElem? (i := 150) rfl), List.forall_mem_cons.mpr ⟨inT_2 _ (List.mem_of_getElem? (i := 154) rfl), List.forall_mem_cons.mpr ⟨inT_2 _ (List.mem_of_getElem? (i := 156) rfl), List.forall_mem_cons.mpr ⟨inT_p _ (List.mem_of_getElem? (i := 15) rfl), List.forall_mem_cons.mpr ⟨inT_2 _ (List.mem_of_getElem? (i := 157) rfl), List.forall_mem_cons.mpr ⟨inT_2 _ (List.mem_of_getElem? (i := 158) rfl), List.forall_mem_cons.mpr ⟨inT_2 _ (List.mem_of_getElem? (i := 159) rfl), List.forall_mem_cons.mpr ⟨inT_2 _ (List.mem_of_getElem? (i := 160) rfl), List.forall_mem_cons.mpr ⟨inT_2 _ (List.mem_of_getElem? (i := 162) rfl), List.forall_mem_cons.mpr ⟨inT_2 _ (List.mem_of_getElem? (i := 164) rfl), List.forall_mem_cons.mpr ⟨inT_p _ (List.mem_of_getElem? (i := 16) rfl), List.forall_mem_cons.mpr ⟨inT_2 _ (List.mem_of_getElem? (i := 165) rfl), List.forall_mem_cons.mpr ⟨inT_2 _ (List.mem_of_getElem? (i := 166) rfl), List.forall_mem_cons.mpr ⟨inT_2 _ (List.mem_of_getElem? (i := 167) rfl), List.forall_mem_cons.mpr ⟨inT_2 _ (List.mem_of_getElem? (i := 168) rfl), List.forall_mem_cons.mpr ⟨inT_2 _ (List.mem_of_getElem? (i := 174) rfl), List.forall_mem_cons.mpr ⟨inT_2 _ (List.mem_of_getElem? (i := 176) rfl), List.forall_mem_cons.mpr ⟨inT_p _ (List.mem_of_getElem? (i := 17) rfl), List.forall_mem_cons.mpr ⟨inT_2 _ (List.mem_of_getElem? (i := 177) rfl), List.forall_mem_cons.mpr ⟨inT_1 _ (List.mem_of_getElem? (i := 75) rfl), List.forall_mem_cons.mpr ⟨inT_1 _ (List.mem_of_getElem? (i := 73) rfl), List.forall_mem_cons.mpr ⟨inT_2 _ (List.mem_of_getElem? (i := 178) rfl), List.forall_mem_cons.mpr ⟨inT_2 _ (List.mem_of_getElem? (i := 179) rfl), List.forall_mem_cons.mpr ⟨inT_2 _ (List.mem_of_getElem? (i := 180) rfl), List.forall_mem_cons.mpr ⟨inT_2 _ (List.mem_of_getElem? (i := 181) rfl), List.forall_mem_cons.mpr ⟨inT_2 _ (List.mem_of_getElem? (i := 184) rfl), List.forall_mem_cons.mpr ⟨inT_2 _ (List.mem_of_getElem? (i := 186) rfl), List.forall_mem_cons.mpr ⟨inT_p _ (List.mem_of_getElem? (i := 18) rfl), List.forall_mem_cons.mpr ⟨inT_2 _ (List.mem_of_getElem? (i := 187) rfl), fun _ h => absurd h List.not_mem_nil⟩⟩⟩⟩⟩⟩⟩⟩⟩⟩⟩⟩⟩⟩⟩⟩⟩⟩⟩⟩⟩⟩⟩⟩⟩⟩⟩⟩⟩⟩⟩⟩⟩⟩⟩⟩⟩⟩⟩⟩
set_option maxRecDepth 20000 in
theorem tb_gW_8 : ∀ w ∈ gW_8, w ∈ lw_tbl := List.forall_mem_cons.mpr ⟨inT_2 _ (List.mem_of_getElem? (i := 188) rfl), List.forall_mem_cons.mpr ⟨inT_2 _ (List.mem_of_getElem? (i := 189) rfl), List.forall_mem_cons.mpr ⟨inT_2 _ (List.mem_of_getElem? (i := 190) rfl), List.forall_mem_cons.mpr ⟨inT_2 _ (List.mem_of_getElem? (i := 195) rfl), List.forall_mem_cons.mpr ⟨inT_2 _ (List.mem_of_getElem? (i := 197) rfl), List.forall_mem_cons.mpr ⟨inT_p _ (List.mem_of_getElem? (i := 19) rfl), List.forall_mem_cons.mpr ⟨inT_2 _ (List.mem_of_getElem? (i := 198) rfl), List.forall_mem_cons.mpr ⟨inT_2 _ (List.mem_of_getElem? (i := 199) rfl), List.forall_mem_cons.mpr ⟨inT_2 _ (List.mem_of_getElem? (i := 209) rfl), List.forall_mem_cons.mpr ⟨inT_2 _ (List.mem_of_getElem? (i := 216) rfl), List.forall_mem_cons.mpr ⟨inT_2 _ (List.mem_of_getElem? (i := 223) rfl), List.forall_mem_cons.mpr ⟨inT_2 _ (List.mem_of_getElem? (i := 230) rfl), List.forall_mem_cons.mpr ⟨inT_2 _ (List.mem_of_getElem? (i := 237) rfl), List.forall_mem_cons.mpr ⟨inT_2 _ (List.mem_of_getElem? (i := 238) rfl), List.forall_mem_cons.mpr ⟨inT_2 _ (List.mem_of_getElem? (i := 239) rfl), List.forall_mem_cons.mpr ⟨inT_3 _ (List.mem_of_getElem? (i := 0) rfl), List.forall_mem_cons.mpr ⟨inT_3 _ (List.mem_of_getElem? (i := 2) rfl), List.forall_mem_cons.mpr ⟨inT_3 _ (List.mem_of_getElem? (i := 3) rfl), List.forall_mem_cons.mpr ⟨inT_3 _ (List.mem_of_getElem? (i := 31) rfl), List.forall_mem_cons.mpr ⟨inT_3 _ (List.mem_of_getElem? (i := 32) rfl), List.forall_mem_cons.mpr ⟨inT_3 _ (List.mem_of_getElem? (i := 33) rfl), List.forall_mem_cons.mpr ⟨inT_3 _ (List.mem_of_getElem? (i := 67) rfl), List.forall_mem_cons.mpr ⟨inT_3 _ (List.mem_of_getElem? (i := 75) rfl), List.forall_mem_cons.mpr ⟨inT_1 _ (List.mem_of_getElem? (i := 118) rfl), List.forall_mem_cons.mpr ⟨inT_1 _ (List.mem_of_getElem? (i := 122) rfl), List.forall_mem_cons.mpr ⟨inT_3 _ (List.mem_of_getElem? (i := 83) rfl), List.forall_mem_cons.mpr ⟨inT_3 _ (List.mem_of_getElem? (i := 88) rfl), List.forall_mem_cons.mpr ⟨inT_3 _ (List.mem_of_getElem? (i := 89) rfl), List.forall_mem_cons.mpr ⟨inT_3 _ (List.mem_of_getElem? (i := 145) rfl), List.forall_mem_cons.mpr ⟨inT_3 _ (List.mem_of_getElem? (i := 91) rfl), List.forall_mem_cons.mpr ⟨inT_3 _ (List.mem_of_getElem? (i := 146) rfl), List.forall_mem_cons.mpr ⟨inT_3 _ (List.mem_of_getElem? (i := 92) rfl), List.forall_mem_cons.mpr ⟨inT_3 _ (List.mem_of_getElem? (i := 147) rfl), List.forall_mem_cons.mpr ⟨inT_3 _ (List.mem_of_getElem? (i := 93) rfl), List.forall_mem_cons.mpr ⟨inT_3 _ (List.mem_of_getElem? (i := 94) rfl), List.forall_mem_cons.mpr ⟨inT_3 _ (List.mem_of_getElem? (i := 104) rfl), List.forall_mem_cons.mpr ⟨inT_3 _ (List.mem_of_getElem? (i := 105) rfl), List.forall_mem_cons.mpr ⟨inT_3 _ (List.mem_of_getElem? (i := 151) rfl), List.forall_mem_cons.mpr ⟨inT_3 _ (List.mem_of_getElem? (i := 90) rfl), List.forall_mem_cons.mpr ⟨inT_3 _ (List.mem_of_getElem? (i := 187) rfl), fun _ h => absurd h List.not_mem_nil⟩⟩⟩⟩⟩⟩⟩⟩⟩⟩⟩⟩⟩⟩⟩⟩⟩⟩⟩⟩⟩⟩⟩⟩⟩⟩⟩⟩⟩⟩⟩⟩⟩⟩⟩⟩⟩⟩⟩⟩
set_option maxRecDepth 20000 in
theorem tb_gW_9 : ∀ w ∈ gW_9, w ∈ lw_tbl := List.forall_mem_cons.mpr ⟨inT_3 _ (List.mem_of_getElem? (i := 183) rfl), List.forall_mem_cons.mpr ⟨inT_3 _ (List.mem_of_getElem? (i := 188) rfl), List.forall_mem_cons.mpr ⟨inT_3 _ (List.mem_of_getElem? (i := 184) rfl), List.forall_mem_cons.mpr ⟨inT_3 _ (List.mem_of_getElem? (i := 186) rfl), List.forall_mem_cons.mpr ⟨inT_p _ (List.mem_of_getElem? (i := 27) rfl), List.forall_mem_cons.mpr ⟨inT_1 _ (List.mem_of_getElem? (i := 4) rfl), List.forall_mem_cons.mpr ⟨inT_3 _ (List.mem_of_getElem? (i := 192) rfl), List.forall_mem_cons.mpr ⟨inT_3 _ (List.mem_of_getElem? (i := 208) rfl), List.forall_mem_cons.mpr ⟨inT_3 _ (List.mem_of_getElem? (i := 103) rfl), List.forall_mem_cons.mpr ⟨inT_3 _ (List.mem_of_getElem? (i := 220) rfl), List.forall_mem_cons.mpr ⟨inT_3 _ (List.mem_of_getElem? (i := 224) rfl), List.forall_mem_cons.mpr ⟨inT_3 _ (List.mem_of_getElem? (i := 171) rfl), List.forall_mem_cons.mpr ⟨inT_3 _ (List.mem_of_getElem? (i := 98) rfl), List.forall_mem_cons.mpr ⟨inT_3 _ (List.mem_of_getElem? (i := 99) rfl), List.forall_mem_cons.mpr ⟨inT_3 _ (List.mem_of_getElem? (i := 100) rfl), List.forall_mem_cons.mpr ⟨inT_3 _ (List.mem_of_getElem? (i := 101) rfl), List.forall_mem_cons.mpr ⟨inT_3 _ (List.mem_of_getElem? (i := 179) rfl), List.forall_mem_cons.mpr ⟨inT_3 _ (List.mem_of_getElem? (i := 102) rfl), List.forall_mem_cons.mpr ⟨inT_3 _ (List.mem_of_getElem? (i := 168) rfl), List.forall_mem_cons.mpr ⟨inT_3 _ (List.mem_of_getElem? (i := 170) rfl), List.forall_mem_cons.mpr ⟨inT_p _ (List.mem_of_getElem? (i := 23) rfl), List.forall_mem_cons.mpr ⟨inT_3 _ (List.mem_of_getElem? (i := 216) rfl), List.forall_mem_cons.mpr ⟨inT_3 _ (List.mem_of_getElem? (i := 233) rfl), List.forall_mem_cons.mpr ⟨inT_3 _ (List.mem_of_getElem? (i := 107) rfl), List.forall_mem_cons.mpr ⟨inT_3 _ (List.mem_of_getElem? (i := 95) rfl), List.forall_mem_cons.mpr ⟨inT_3 _ (List.mem_of_getElem? (i := 234) rfl), List.forall_mem_cons.mpr ⟨inT_3 _ (List.mem_of_getElem? (i := 217) rfl), List.forall_mem_cons.mpr ⟨inT_3 _ (List.mem_of_getElem? (i := 219) rfl), List.forall_mem_cons.mpr ⟨inT_p _ (List.mem_of_getElem? (i := 35) rfl), List.forall_mem_cons.mpr ⟨inT_3 _ (List.mem_of_getElem? (i := 221) rfl), List.forall_mem_cons.mpr ⟨inT_3 _ (List.mem_of_getElem? (i := 223) rfl), List.forall_mem_cons.mpr ⟨inT_p _ (List.mem_of_getElem? (i := 36) rfl), List.forall_mem_cons.mpr ⟨inT_3 _ (List.mem_of_getElem? (i := 212) rfl), List.forall_mem_cons.mpr ⟨inT_3 _ (List.mem_of_getElem? (i := 106) rfl), List.forall_mem_cons.mpr ⟨inT_3 _ (List.mem_of_getElem? (i := 235) rfl), List.forall_mem_cons.mpr ⟨inT_3 _ (List.mem_of_getElem? (i := 236) rfl), List.forall_mem_cons.mpr ⟨inT_3 _ (List.mem_of_getElem? (i := 205) rfl), List.forall_mem_cons.mpr ⟨inT_3 _ (List.mem_of_getElem? (i := 207) rfl), List.forall_mem_cons.mpr ⟨inT_p _ (List.mem_of_getElem? (i := 32) rfl), List.forall_mem_cons.mpr ⟨inT_3 _ (List.mem_of_getElem? (i := 213) rfl), fun _ h => absurd h List.not_mem_nil⟩⟩⟩⟩⟩⟩⟩⟩⟩⟩⟩⟩⟩⟩⟩⟩⟩⟩⟩⟩⟩⟩⟩⟩⟩⟩⟩⟩⟩⟩⟩⟩⟩⟩⟩⟩⟩⟩⟩⟩
set_option maxRecDepth 20000 in
theorem tb_gW_10 : ∀ w ∈ gW_10, w ∈ lw_tbl := List.forall_mem_cons.mpr ⟨inT_3 _ (List.mem_of_getElem? (i := 215) rfl), List.forall_mem_cons.mpr ⟨inT_p _ (List.mem_of_getElem? (i := 34) rfl), List.forall_mem_cons.mpr ⟨inT_3 _ (List.mem_of_getElem? (i := 225) rfl), List.forall_mem_cons.mpr ⟨inT_3 _ (List.mem_of_getElem? (i := 227) rfl), List.forall_mem_cons.mpr ⟨inT_p _ (List.mem_of_getElem? (i := 37) rfl), List.forall_mem_cons.mpr ⟨inT_3 _ (List.mem_of_getElem? (i := 228) rfl), List.forall_mem_cons.mpr ⟨inT_3 _ (List.mem_of_getElem? (i := 229) rfl), List.forall_mem_cons.mpr ⟨inT_3 _ (List.mem_of_getElem? (i := 230) rfl), List.forall_mem_cons.mpr ⟨inT_3 _ (List.mem_of_getElem? (i := 232) rfl), List.forall_mem_cons.mpr ⟨inT_p _ (List.mem_of_getElem? (i := 38) rfl), List.forall_mem_cons.mpr ⟨inT_3 _ (List.mem_of_getElem? (i := 167) rfl), List.forall_mem_cons.mpr ⟨inT_3 _ (List.mem_of_getElem? (i := 204) rfl), List.forall_mem_cons.mpr ⟨inT_3 _ (List.mem_of_getElem? (i := 196) rfl), List.forall_mem_cons.mpr ⟨inT_3 _ (List.mem_of_getElem? (i := 200) rfl), List.forall_mem_cons.mpr ⟨inT_3 _ (List.mem_of_getElem? (i := 201) rfl), List.forall_mem_cons.mpr ⟨inT_3 _ (List.mem_of_getElem? (i := 203) rfl), List.forall_mem_cons.mpr ⟨inT_p _ (List.mem_of_getElem? (i := 31) rfl), List.forall_mem_cons.mpr ⟨inT_3 _ (List.mem_of_getElem? (i := 175) rfl), List.forall_mem_cons.mpr ⟨inT_3 _ (List.mem_of_getElem? (i := 164) rfl), List.forall_mem_cons.mpr ⟨inT_3 _ (List.mem_of_getElem? (i := 166) rfl), List.forall_mem_cons.mpr ⟨inT_p _ (List.mem_of_getElem? (i := 22) rfl), List.forall_mem_cons.mpr ⟨inT_3 _ (List.mem_of_getElem? (i := 176) rfl), List.forall_mem_cons.mpr ⟨inT_3 _ (List.mem_of_getElem? (i := 178) rfl), List.forall_mem_cons.mpr ⟨inT_p _ (List.mem_of_getElem? (i := 25) rfl), List.forall_mem_cons.mpr ⟨inT_3 _ (List.mem_of_getElem? (i := 180) rfl), List.forall_mem_cons.mpr ⟨inT_3 _ (List.mem_of_getElem? (i := 182) rfl), List.forall_mem_cons.mpr ⟨inT_p _ (List.mem_of_getElem? (i := 26) rfl), List.forall_mem_cons.mpr ⟨inT_3 _ (List.mem_of_getElem? (i := 189) rfl), List.forall_mem_cons.mpr ⟨inT_3 _ (List.mem_of_getElem? (i := 191) rfl), List.forall_mem_cons.mpr ⟨inT_p _ (List.mem_of_getElem? (i := 28) rfl), List.forall_mem_cons.mpr ⟨inT_3 _ (List.mem_of_getElem? (i := 193) rfl), List.forall_mem_cons.mpr ⟨inT_3 _ (List.mem_of_getElem? (i := 195) rfl), List.forall_mem_cons.mpr ⟨inT_p _ (List.mem_of_getElem? (i := 29) rfl), List.forall_mem_cons.mpr ⟨inT_3 _ (List.mem_of_getElem? (i := 197) rfl), List.forall_mem_cons.mpr ⟨inT_3 _ (List.mem_of_getElem? (i := 199) rfl), List.forall_mem_cons.mpr ⟨inT_p _ (List.mem_of_getElem? (i := 30) rfl), List.forall_mem_cons.mpr ⟨inT_3 _ (List.mem_of_getElem? (i := 209) rfl), List.forall_mem_cons.mpr ⟨inT_3 _ (List.mem_of_getElem? (i := 211) rfl), List.forall_mem_cons.mpr ⟨inT_p _ (List.mem_of_getElem? (i := 33) rfl), List.forall_mem_cons.mpr ⟨inT_4 _ (List.mem_of_getElem? (i := 0) rfl), fun _ h => absurd h List.not_mem_nil⟩⟩⟩⟩⟩⟩⟩⟩⟩⟩⟩⟩⟩⟩⟩⟩⟩⟩⟩⟩⟩⟩⟩⟩⟩⟩⟩⟩⟩⟩⟩⟩⟩⟩⟩⟩⟩⟩⟩⟩
set_option maxRecDepth 20000 in
theorem tb_gW_11 : ∀ w ∈ gW_11, w ∈ lw_tbl := List.forall_mem_cons.mpr ⟨inT_4 _ (List.mem_of_getElem? (i := 4) rfl), List.forall_mem_cons.mpr ⟨inT_4 _ (List.mem_of_getElem? (i := 8) rfl), List.forall_mem_cons.mpr ⟨inT_4 _ (List.mem_of_getElem? (i := 24) rfl), List.forall_mem_cons.mpr ⟨inT_4 _ (List.mem_of_getElem? (i := 20) rfl), List.forall_mem_cons.mpr ⟨inT_4 _ (List.mem_of_getElem? (i := 21) rfl), List.forall_mem_cons.mpr ⟨inT_4 _ (List.mem_of_getElem? (i := 23) rfl), List.forall_mem_cons.mpr ⟨inT_p _ (List.mem_of_getElem? (i := 45) rfl), List.forall_mem_cons.mpr ⟨inT_4 _ (List.mem_of_getElem? (i := 16) rfl), List.forall_mem_cons.mpr ⟨inT_4 _ (List.mem_of_getElem? (i := 12) rfl), List.forall_mem_cons.mpr ⟨inT_4 _ (List.mem_of_getElem? (i := 13) rfl), List.forall_mem_cons.mpr ⟨inT_4 _ (List.mem_of_getElem? (i := 15) rfl), List.forall_mem_cons.mpr ⟨inT_p _ (List.mem_of_getElem? (i := 43) rfl), List.forall_mem_cons.mpr ⟨inT_4 _ (List.mem_of_getElem? (i := 17) rfl), List.forall_mem_cons.mpr ⟨inT_4 _ (List.mem_of_getElem? (i := 19) rfl), List.forall_mem_cons.mpr ⟨inT_p _ (List.mem_of_getElem? (i := 44) rfl), List.forall_mem_cons.mpr ⟨inT_4 _ (List.mem_of_getElem? (i := 32) rfl), List.forall_mem_cons.mpr ⟨inT_4 _ (List.mem_of_getElem? (i := 28) rfl), List.forall_mem_cons.mpr ⟨inT_3 _ (List.mem_of_getElem? (i := 163) rfl), List.forall_mem_cons.mpr ⟨inT_3 _ (List.mem_of_getElem? (i := 172) rfl), List.forall_mem_cons.mpr ⟨inT_3 _ (List.mem_of_getElem? (i := 174) rfl), List.forall_mem_cons.mpr ⟨inT_p _ (List.mem_of_getElem? (i := 24) rfl), List.forall_mem_cons.mpr ⟨inT_3 _ (List.mem_of_getElem? (i := 237) rfl), List.forall_mem_cons.mpr ⟨inT_3 _ (List.mem_of_getElem? (i := 239) rfl), List.forall_mem_cons.mpr ⟨inT_p _ (List.mem_of_getElem? (i := 39) rfl), List.forall_mem_cons.mpr ⟨inT_4 _ (List.mem_of_getElem? (i := 1) rfl), List.forall_mem_cons.mpr ⟨inT_4 _ (List.mem_of_getElem? (i := 3) rfl), List.forall_mem_cons.mpr ⟨inT_p _ (List.mem_of_getElem? (i := 40) rfl), List.forall_mem_cons.mpr ⟨inT_4 _ (List.mem_of_getElem? (i := 5) rfl), List.forall_mem_cons.mpr ⟨inT_4 _ (List.mem_of_getElem? (i := 7) rfl), List.forall_mem_cons.mpr ⟨inT_p _ (List.mem_of_getElem? (i := 41) rfl), List.forall_mem_cons.mpr ⟨inT_4 _ (List.mem_of_getElem? (i := 9) rfl), List.forall_mem_cons.mpr ⟨inT_4 _ (List.mem_of_getElem? (i := 11) rfl), List.forall_mem_cons.mpr ⟨inT_p _ (List.mem_of_getElem? (i := 42) rfl), List.forall_mem_cons.mpr ⟨inT_4 _ (List.mem_of_getElem? (i := 25) rfl), List.forall_mem_cons.mpr ⟨inT_4 _ (List.mem_of_getElem? (i := 27) rfl), List.forall_mem_cons.mpr ⟨inT_p _ (List.mem_of_getElem? (i := 46) rfl), List.forall_mem_cons.mpr ⟨inT_4 _ (List.mem_of_getElem? (i := 29) rfl), List.forall_mem_cons.mpr ⟨inT_4 _ (List.mem_of_getElem? (i := 31) rfl), List.forall_mem_cons.mpr ⟨inT_p _ (List.mem_of_getElem? (i := 47) rfl), List.forall_mem_cons.mpr ⟨inT_3 _ (List.mem_of_getElem? (i := 159) rfl), fun _ h => absurd h List.not_mem_nil⟩⟩⟩⟩⟩⟩⟩⟩⟩⟩⟩⟩⟩⟩⟩⟩⟩⟩⟩⟩⟩⟩⟩⟩⟩⟩⟩⟩⟩⟩⟩⟩⟩⟩⟩⟩⟩⟩⟩⟩
set_option maxRecDepth 20000 in
theorem tb_gW_12 : ∀ w ∈ gW_12, w ∈ lw_tbl := List.forall_mem_cons.mpr ⟨inT_4 _ (List.mem_of_getElem? (i := 36) rfl), List.forall_mem_cons.mpr ⟨inT_3 _ (List.mem_of_getElem? (i := 155) rfl), List.forall_mem_cons.mpr ⟨inT_3 _ (List.mem_of_getElem? (i := 96) rfl), List.forall_mem_cons.mpr ⟨inT_3 _ (List.mem_of_getElem? (i := 97) rfl), List.forall_mem_cons.mpr ⟨inT_3 _ (List.mem_of_getElem? (i := 156) rfl), List.forall_mem_cons.mpr ⟨inT_3 _ (List.mem_of_getElem? (i := 158) rfl), List.forall_mem_cons.mpr ⟨inT_p _ (List.mem_of_getElem? (i := 20) rfl), List.forall_mem_cons.mpr ⟨inT_3 _ (List.mem_of_getElem? (i := 160) rfl), List.forall_mem_cons.mpr ⟨inT_3 _ (List.mem_of_getElem? (i := 162) rfl), List.forall_mem_cons.mpr ⟨inT_p _ (List.mem_of_getElem? (i := 21) rfl), List.forall_mem_cons.mpr ⟨inT_4 _ (List.mem_of_getElem? (i := 33) rfl), List.forall_mem_cons.mpr ⟨inT_4 _ (List.mem_of_getElem? (i := 35) rfl), List.forall_mem_cons.mpr ⟨inT_p _ (List.mem_of_getElem? (i := 48) rfl), List.forall_mem_cons.mpr ⟨inT_4 _ (List.mem_of_getElem? (i := 40) rfl), List.forall_mem_cons.mpr ⟨inT_4 _ (List.mem_of_getElem? (i := 44) rfl), List.forall_mem_cons.mpr ⟨inT_4 _ (List.mem_of_getElem? (i := 48) rfl), List.forall_mem_cons.mpr ⟨inT_4 _ (List.mem_of_getElem? (i := 52) rfl), List.forall_mem_cons.mpr ⟨inT_4 _ (List.mem_of_getElem? (i := 56) rfl), List.forall_mem_cons.mpr ⟨inT_4 _ (List.mem_of_getElem? (i := 60) rfl), List.forall_mem_cons.mpr ⟨inT_4 _ (List.mem_of_getElem? (i := 76) rfl), List.forall_mem_cons.mpr ⟨inT_4 _ (List.mem_of_getElem? (i := 92) rfl), List.forall_mem_cons.mpr ⟨inT_4 _ (List.mem_of_getElem? (i := 71) rfl), List.forall_mem_cons.mpr ⟨inT_4 _ (List.mem_of_getElem? (i := 72) rfl), List.forall_mem_cons.mpr ⟨inT_4 _ (List.mem_of_getElem? (i := 77) rfl), List.forall_mem_cons.mpr ⟨inT_4 _ (List.mem_of_getElem? (i := 78) rfl), List.forall_mem_cons.mpr ⟨inT_4 _ (List.mem_of_getElem? (i := 79) rfl), List.forall_mem_cons.mpr ⟨inT_4 _ (List.mem_of_getElem? (i := 73) rfl), List.forall_mem_cons.mpr ⟨inT_4 _ (List.mem_of_getElem? (i := 75) rfl), List.forall_mem_cons.mpr ⟨inT_p _ (List.mem_of_getElem? (i := 50) rfl), List.forall_mem_cons.mpr ⟨inT_4 _ (List.mem_of_getElem? (i := 64) rfl), List.forall_mem_cons.mpr ⟨inT_4 _ (List.mem_of_getElem? (i := 65) rfl), List.forall_mem_cons.mpr ⟨inT_4 _ (List.mem_of_getElem? (i := 66) rfl), List.forall_mem_cons.mpr ⟨inT_4 _ (List.mem_of_getElem? (i := 67) rfl), List.forall_mem_cons.mpr ⟨inT_4 _ (List.mem_of_getElem? (i := 80) rfl), List.forall_mem_cons.mpr ⟨inT_4 _ (List.mem_of_getElem? (i := 68) rfl), List.forall_mem_cons.mpr ⟨inT_4 _ (List.mem_of_getElem? (i := 70) rfl), List.forall_mem_cons.mpr ⟨inT_p _ (List.mem_of_getElem? (i := 49) rfl), List.forall_mem_cons.mpr ⟨inT_4 _ (List.mem_of_getElem? (i := 84) rfl), List.forall_mem_cons.mpr ⟨inT_4 _ (List.mem_of_getElem? (i := 85) rfl), List.forall_mem_cons.mpr ⟨inT_4 _ (List.mem_of_getElem? (i := 86) rfl), fun _ h => absurd h List.not_mem_nil⟩⟩⟩⟩⟩⟩⟩⟩⟩⟩⟩⟩⟩⟩⟩⟩⟩⟩⟩⟩⟩⟩⟩⟩⟩⟩⟩⟩⟩⟩⟩⟩⟩⟩⟩⟩⟩⟩⟩⟩
set_option maxRecDepth 20000 in
theorem tb_gW_13 : ∀ w ∈ gW_13, w ∈ lw_tbl := List.forall_mem_cons.mpr ⟨inT_4 _ (List.mem_of_getElem? (i := 87) rfl), List.forall_mem_cons.mpr ⟨inT_4 _ (List.mem_of_getElem? (i := 88) rfl), List.forall_mem_cons.mpr ⟨inT_4 _ (List.mem_of_getElem? (i := 89) rfl), List.forall_mem_cons.mpr ⟨inT_4 _ (List.mem_of_getElem? (i := 91) rfl), List.forall_mem_cons.mpr ⟨inT_p _ (List.mem_of_getElem? (i := 51) rfl), List.forall_mem_cons.mpr ⟨inT_4 _ (List.mem_of_getElem? (i := 96) rfl), List.forall_mem_cons.mpr ⟨inT_4 _ (List.mem_of_getElem? (i := 100) rfl), List.forall_mem_cons.mpr ⟨inT_4 _ (List.mem_of_getElem? (i := 104) rfl), List.forall_mem_cons.mpr ⟨inT_4 _ (List.mem_of_getElem? (i := 108) rfl), List.forall_mem_cons.mpr ⟨inT_1 _ (List.mem_of_getElem? (i := 125) rfl), List.forall_mem_cons.mpr ⟨inT_1 _ (List.mem_of_getElem? (i := 126) rfl), List.forall_mem_cons.mpr ⟨inT_1 _ (List.mem_of_getElem? (i := 203) rfl), List.forall_mem_cons.mpr ⟨inT_1 _ (List.mem_of_getElem? (i := 204) rfl), List.forall_mem_cons.mpr ⟨inT_1 _ (List.mem_of_getElem? (i := 205) rfl), List.forall_mem_cons.mpr ⟨inT_1 _ (List.mem_of_getElem? (i := 206) rfl), List.forall_mem_cons.mpr ⟨inT_2 _ (List.mem_of_getElem? (i := 8) rfl), List.forall_mem_cons.mpr ⟨inT_2 _ (List.mem_of_getElem? (i := 9) rfl), List.forall_mem_cons.mpr ⟨inT_2 _ (List.mem_of_getElem? (i := 23) rfl), List.forall_mem_cons.mpr ⟨inT_2 _ (List.mem_of_getElem? (i := 24) rfl), List.forall_mem_cons.mpr ⟨inT_2 _ (List.mem_of_getElem? (i := 25) rfl), List.forall_mem_cons.mpr ⟨inT_2 _ (List.mem_of_getElem? (i := 205) rfl), List.forall_mem_cons.mpr ⟨inT_2 _ (List.mem_of_getElem? (i := 206) rfl), List.forall_mem_cons.mpr ⟨inT_2 _ (List.mem_of_getElem? (i := 207) rfl), List.forall_mem_cons.mpr ⟨inT_2 _ (List.mem_of_getElem? (i := 208) rfl), List.forall_mem_cons.mpr ⟨inT_2 _ (List.mem_of_getElem? (i := 212) rfl), List.forall_mem_cons.mpr ⟨inT_2 _ (List.mem_of_getElem? (i := 213) rfl), List.forall_mem_cons.mpr ⟨inT_2 _ (List.mem_of_getElem? (i := 214) rfl), List.forall_mem_cons.mpr ⟨inT_2 _ (List.mem_of_getElem? (i := 215) rfl), List.forall_mem_cons.mpr ⟨inT_2 _ (List.mem_of_getElem? (i := 219) rfl), List.forall_mem_cons.mpr ⟨inT_2 _ (List.mem_of_getElem? (i := 220) rfl), List.forall_mem_cons.mpr ⟨inT_2 _ (List.mem_of_getElem? (i := 221) rfl), List.forall_mem_cons.mpr ⟨inT_2 _ (List.mem_of_getElem? (i := 222) rfl), List.forall_mem_cons.mpr ⟨inT_2 _ (List.mem_of_getElem? (i := 226) rfl), List.forall_mem_cons.mpr ⟨inT_2 _ (List.mem_of_getElem? (i := 227) rfl), List.forall_mem_cons.mpr ⟨inT_2 _ (List.mem_of_getElem? (i := 228) rfl), List.forall_mem_cons.mpr ⟨inT_2 _ (List.mem_of_getElem? (i := 229) rfl), List.forall_mem_cons.mpr ⟨inT_2 _ (List.mem_of_getElem? (i := 233) rfl), List.forall_mem_cons.mpr ⟨inT_2 _ (List.mem_of_getElem? (i := 234) rfl), List.forall_mem_cons.mpr ⟨inT_2 _ (List.mem_of_getElem? (i := 235) rfl), List.forall_mem_cons.mpr ⟨inT_2 _ (List.mem_of_getElem? (i := 236) rfl), fun _ h => absurd h List.not_mem_nil⟩⟩⟩⟩⟩⟩⟩⟩⟩⟩⟩⟩⟩⟩⟩⟩⟩⟩⟩⟩⟩⟩⟩⟩⟩⟩⟩⟩⟩⟩⟩⟩⟩⟩⟩⟩⟩⟩⟩⟩
set_option maxRecDepth 20000 in
theorem tb_gW_14 : ∀ w ∈ gW_14, w ∈ lw_tbl := List.forall_mem_cons.mpr ⟨inT_3 _ (List.mem_of_getElem? (i := 27) rfl), List.forall_mem_cons.mpr ⟨inT_3 _ (List.mem_of_getElem? (i := 28) rfl), List.forall_mem_cons.mpr ⟨inT_3 _ (List.mem_of_getElem? (i := 29) rfl), List.forall_mem_cons.mpr ⟨inT_3 _ (List.mem_of_getElem? (i := 30) rfl), List.forall_mem_cons.mpr ⟨inT_3 _ (List.mem_of_getElem? (i := 63) rfl), List.forall_mem_cons.mpr ⟨inT_3 _ (List.mem_of_getElem? (i := 64) rfl), List.forall_mem_cons.mpr ⟨inT_3 _ (List.mem_of_getElem? (i := 65) rfl), List.forall_mem_cons.mpr ⟨inT_3 _ (List.mem_of_getElem? (i := 66) rfl), List.forall_mem_cons.mpr ⟨inT_3 _ (List.mem_of_getElem? (i := 71) rfl), List.forall_mem_cons.mpr ⟨inT_3 _ (List.mem_of_getElem? (i := 72) rfl), List.forall_mem_cons.mpr ⟨inT_3 _ (List.mem_of_getElem? (i := 73) rfl), List.forall_mem_cons.mpr ⟨inT_3 _ (List.mem_of_getElem? (i := 74) rfl), List.forall_mem_cons.mpr ⟨inT_3 _ (List.mem_of_getElem? (i := 79) rfl), List.forall_mem_cons.mpr ⟨inT_3 _ (List.mem_of_getElem? (i := 80) rfl), List.forall_mem_cons.mpr ⟨inT_3 _ (List.mem_of_getElem? (i := 81) rfl), List.forall_mem_cons.mpr ⟨inT_3 _ (List.mem_of_getElem? (i := 82) rfl), List.forall_mem_cons.mpr ⟨inT_1 _ (List.mem_of_getElem? (i := 15) rfl), List.forall_mem_cons.mpr ⟨inT_1 _ (List.mem_of_getElem? (i := 16) rfl), List.forall_mem_cons.mpr ⟨inT_3 _ (List.mem_of_getElem? (i := 84) rfl), List.forall_mem_cons.mpr ⟨inT_3 _ (List.mem_of_getElem? (i := 85) rfl), List.forall_mem_cons.mpr ⟨inT_4 _ (List.mem_of_getElem? (i := 109) rfl), List.forall_mem_cons.mpr ⟨inT_1 _ (List.mem_of_getElem? (i := 17) rfl), List.forall_mem_cons.mpr ⟨inT_1 _ (List.mem_of_getElem? (i := 18) rfl), List.forall_mem_cons.mpr ⟨inT_3 _ (List.mem_of_getElem? (i := 86) rfl), List.forall_mem_cons.mpr ⟨inT_3 _ (List.mem_of_getElem? (i := 87) rfl), List.forall_mem_cons.mpr ⟨inT_1 _ (List.mem_of_getElem? (i := 123) rfl), List.forall_mem_cons.mpr ⟨inT_1 _ (List.mem_of_getElem? (i := 124) rfl), List.forall_mem_cons.mpr ⟨inT_1 _ (List.mem_of_getElem? (i := 0) rfl), List.forall_mem_cons.mpr ⟨inT_4 _ (List.mem_of_getElem? (i := 41) rfl), List.forall_mem_cons.mpr ⟨inT_4 _ (List.mem_of_getElem? (i := 42) rfl), List.forall_mem_cons.mpr ⟨inT_4 _ (List.mem_of_getElem? (i := 43) rfl), List.forall_mem_cons.mpr ⟨inT_3 _ (List.mem_of_getElem? (i := 148) rfl), List.forall_mem_cons.mpr ⟨inT_3 _ (List.mem_of_getElem? (i := 149) rfl), List.forall_mem_cons.mpr ⟨inT_3 _ (List.mem_of_getElem? (i := 150) rfl), List.forall_mem_cons.mpr ⟨inT_2 _ (List.mem_of_getElem? (i := 6) rfl), List.forall_mem_cons.mpr ⟨inT_2 _ (List.mem_of_getElem? (i := 7) rfl), List.forall_mem_cons.mpr ⟨inT_3 _ (List.mem_of_getElem? (i := 152) rfl), List.forall_mem_cons.mpr ⟨inT_3 _ (List.mem_of_getElem? (i := 153) rfl), List.forall_mem_cons.mpr ⟨inT_3 _ (List.mem_of_getElem? (i := 154) rfl), List.forall_mem_cons.mpr ⟨inT_2 _ (List.mem_of_getElem? (i := 203) rfl), fun _ h => absurd h List.not_mem_nil⟩⟩⟩⟩⟩⟩⟩⟩⟩⟩⟩⟩⟩⟩⟩⟩⟩⟩⟩⟩⟩⟩⟩⟩⟩⟩⟩⟩⟩⟩⟩⟩⟩⟩⟩⟩⟩⟩⟩⟩
set_option maxRecDepth 20000 in
theorem tb_gW_15 : ∀ w ∈ gW_15, w ∈ lw_tbl := List.forall_mem_cons.mpr ⟨inT_2 _ (List.mem_of_getElem? (i := 204) rfl), List.forall_mem_cons.mpr ⟨inT_4 _ (List.mem_of_getElem? (i := 45) rfl), List.forall_mem_cons.mpr ⟨inT_4 _ (List.mem_of_getElem? (i := 46) rfl), List.forall_mem_cons.mpr ⟨inT_4 _ (List.mem_of_getElem? (i := 47) rfl), List.forall_mem_cons.mpr ⟨inT_2 _ (List.mem_of_getElem? (i := 210) rfl), List.forall_mem_cons.mpr ⟨inT_2 _ (List.mem_of_getElem? (i := 211) rfl), List.forall_mem_cons.mpr ⟨inT_4 _ (List.mem_of_getElem? (i := 49) rfl), List.forall_mem_cons.mpr ⟨inT_4 _ (List.mem_of_getElem? (i := 50) rfl), List.forall_mem_cons.mpr ⟨inT_4 _ (List.mem_of_getElem? (i := 51) rfl), List.forall_mem_cons.mpr ⟨inT_2 _ (List.mem_of_getElem? (i := 217) rfl), List.forall_mem_cons.mpr ⟨inT_2 _ (List.mem_of_getElem? (i := 218) rfl), List.forall_mem_cons.mpr ⟨inT_4 _ (List.mem_of_getElem? (i := 53) rfl), List.forall_mem_cons.mpr ⟨inT_4 _ (List.mem_of_getElem? (i := 54) rfl), List.forall_mem_cons.mpr ⟨inT_4 _ (List.mem_of_getElem? (i := 55) rfl), List.forall_mem_cons.mpr ⟨inT_2 _ (List.mem_of_getElem? (i := 224) rfl), List.forall_mem_cons.mpr ⟨inT_2 _ (List.mem_of_getElem? (i := 225) rfl), List.forall_mem_cons.mpr ⟨inT_4 _ (List.mem_of_getElem? (i := 57) rfl), List.forall_mem_cons.mpr ⟨inT_4 _ (List.mem_of_getElem? (i := 58) rfl), List.forall_mem_cons.mpr ⟨inT_4 _ (List.mem_of_getElem? (i := 59) rfl), List.forall_mem_cons.mpr ⟨inT_2 _ (List.mem_of_getElem? (i := 231) rfl), List.forall_mem_cons.mpr ⟨inT_2 _ (List.mem_of_getElem? (i := 232) rfl), List.forall_mem_cons.mpr ⟨inT_4 _ (List.mem_of_getElem? (i := 61) rfl), List.forall_mem_cons.mpr ⟨inT_4 _ (List.mem_of_getElem? (i := 62) rfl), List.forall_mem_cons.mpr ⟨inT_4 _ (List.mem_of_getElem? (i := 63) rfl), List.forall_mem_cons.mpr ⟨inT_3 _ (List.mem_of_getElem? (i := 25) rfl), List.forall_mem_cons.mpr ⟨inT_3 _ (List.mem_of_getElem? (i := 26) rfl), List.forall_mem_cons.mpr ⟨inT_4 _ (List.mem_of_getElem? (i := 81) rfl), List.forall_mem_cons.mpr ⟨inT_4 _ (List.mem_of_getElem? (i := 82) rfl), List.forall_mem_cons.mpr ⟨inT_4 _ (List.mem_of_getElem? (i := 83) rfl), List.forall_mem_cons.mpr ⟨inT_3 _ (List.mem_of_getElem? (i := 61) rfl), List.forall_mem_cons.mpr ⟨inT_3 _ (List.mem_of_getElem? (i := 62) rfl), List.forall_mem_cons.mpr ⟨inT_4 _ (List.mem_of_getElem? (i := 93) rfl), List.forall_mem_cons.mpr ⟨inT_4 _ (List.mem_of_getElem? (i := 94) rfl), List.forall_mem_cons.mpr ⟨inT_4 _ (List.mem_of_getElem? (i := 95) rfl), List.forall_mem_cons.mpr ⟨inT_3 _ (List.mem_of_getElem? (i := 69) rfl), List.forall_mem_cons.mpr ⟨inT_3 _ (List.mem_of_getElem? (i := 70) rfl), List.forall_mem_cons.mpr ⟨inT_4 _ (List.mem_of_getElem? (i := 97) rfl), List.forall_mem_cons.mpr ⟨inT_4 _ (List.mem_of_getElem? (i := 98) rfl), List.forall_mem_cons.mpr ⟨inT_4 _ (List.mem_of_getElem? (i := 99) rfl), List.forall_mem_cons.mpr ⟨inT_1 _ (List.mem_of_getElem? (i := 115) rfl), fun _ h => absurd h List.not_mem_nil⟩⟩⟩⟩⟩⟩⟩⟩⟩⟩⟩⟩⟩⟩⟩⟩⟩⟩⟩⟩⟩⟩⟩⟩⟩⟩⟩⟩⟩⟩⟩⟩⟩⟩⟩⟩⟩⟩⟩⟩
set_option maxRecDepth 20000 in
theorem tb_gW_16 : ∀ w ∈ gW_16, w ∈ lw_tbl := List.forall_mem_cons.mpr ⟨inT_1 _ (List.mem_of_getElem? (i := 116) rfl), List.forall_mem_cons.mpr ⟨inT_1 _ (List.mem_of_getElem? (i := 117) rfl), List.forall_mem_cons.mpr ⟨inT_4 _ (List.mem_of_getElem? (i := 101) rfl), List.forall_mem_cons.mpr ⟨inT_4 _ (List.mem_of_getElem? (i := 102) rfl), List.forall_mem_cons.mpr ⟨inT_4 _ (List.mem_of_getElem? (i := 103) rfl), List.forall_mem_cons.mpr ⟨inT_1 _ (List.mem_of_getElem? (i := 119) rfl), List.forall_mem_cons.mpr ⟨inT_1 _ (List.mem_of_getElem? (i := 120) rfl), List.forall_mem_cons.mpr ⟨inT_1 _ (List.mem_of_getElem? (i := 121) rfl), List.forall_mem_cons.mpr ⟨inT_4 _ (List.mem_of_getElem? (i := 105) rfl), List.forall_mem_cons.mpr ⟨inT_4 _ (List.mem_of_getElem? (i := 106) rfl), List.forall_mem_cons.mpr ⟨inT_4 _ (List.mem_of_getElem? (i := 107) rfl), List.forall_mem_cons.mpr ⟨inT_3 _ (List.mem_of_getElem? (i := 77) rfl), List.forall_mem_cons.mpr ⟨inT_3 _ (List.mem_of_getElem? (i := 78) rfl), List.forall_mem_cons.mpr ⟨inT_4 _ (List.mem_of_getElem? (i := 37) rfl), List.forall_mem_cons.mpr ⟨inT_4 _ (List.mem_of_getElem? (i := 38) rfl), List.forall_mem_cons.mpr ⟨inT_4 _ (List.mem_of_getElem? (i := 39) rfl), fun _ h => absurd h List.not_mem_nil⟩⟩⟩⟩⟩⟩⟩⟩⟩⟩⟩⟩⟩⟩⟩⟩
theorem tb_wsX00 : ∀ w ∈ wsX00, w ∈ lw_tbl := by decide +kernel
theorem tb_wsX10 : ∀ w ∈ wsX10, w ∈ lw_tbl := by decide +kernel
theorem tb_wsX30 : ∀ w ∈ wsX30, w ∈ lw_tbl := by decide +kernel
theorem tb_wsX40 : ∀ w ∈ wsX40, w ∈ lw_tbl := by decide +kernel
theorem gW_tbl : ∀ w ∈ gW, w ∈ lw_tbl := fun w h => (List.mem_append.mp h).elim (fun h => tb_wsX00 w h) (fun h => (List.mem_append.mp h).elim (fun h => tb_wsX10 w h) (fun h => (List.mem_append.mp h).elim (fun h => tb_wsX30 w h) (fun h => (List.mem_append.mp h).elim (fun h => tb_wsX40 w h) (fun h => (List.mem_append.mp h).elim (fun h => tb_gW_1 w h) (fun h => (List.mem_append.mp h).elim (fun h => tb_gW_2 w h) (fun h => (List.mem_append.mp h).elim (fun h => tb_gW_3 w h) (fun h => (List.mem_append.mp h).elim (fun h => tb_gW_4 w h) (fun h => (List.mem_append.mp h).elim (fun h => tb_gW_5 w h) (fun h => (List.mem_append.mp h).elim (fun h => tb_gW_6 w h) (fun h => (List.mem_append.mp h).elim (fun h => tb_gW_7 w h) (fun h => (List.mem_append.mp h).elim (fun h => tb_gW_8 w h) (fun h => (List.mem_append.mp h).elim (fun h => tb_gW_9 w h) (fun h => (List.mem_append.mp h).elim (fun h => tb_gW_10 w h) (fun h => (List.mem_append.mp h).elim (fun h => tb_gW_11 w h) (fun h => (List.mem_append.mp h).elim (fun h => tb_gW_12 w h) (fun h => (List.mem_append.mp h).elim (fun h => tb_gW_13 w h) (fun h => (List.mem_append.mp h).elim (fun h => tb_gW_14 w h) (fun h => (List.mem_append.mp h).elim (fun h => tb_gW_15 w h) (fun h => tb_gW_16 w h)))))))))))))))))))
theorem gW_in {ws : List Cond} (h : ∀ w ∈ ws, w ∈ gW) : GoodIn gW ws := fun w hw => ⟨h w hw, good_of_word (gW_good w (h w hw))⟩
def xws (y : MethodName) (cc : ByteArray) (maxL : Nat) (ret : Option FieldType) : List Cond := .code y cc maxL ret :: gW
theorem xws_in {y : MethodName} {cc : ByteArray} {maxL : Nat} {ret : Option FieldType} (h : Cond.code y cc maxL ret ∈ gW) : ∀ w ∈ xws y cc maxL ret, w ∈ gW := fun w hw => (List.mem_cons.mp hw).elim (fun e => e ▸ h) id
section XCW
variable {R : Room} {s : State} {args : Array Value} {own C host : String} {index maxL : Nat} {y : MethodName} {bytes : ByteArray} {ret : Option FieldType} {rm : Room}
theorem x_cwV (n : Nat) (hts : ∀ w ∈ gW, w.before args s = true) (h1 : Cond.methodLink own index y ∈ gW) (h2 : Cond.instanceMethod y ∈ gW) (h3 : Cond.selects C y y ∈ gW) (h4 : Cond.initialized C ∈ gW) (h5 : Cond.code y bytes maxL ret ∈ gW) (hrc : rm.cells = 0) (hrs : rm.slots = 0)
    (hd : y.cls = C ∧ y.cls ≠ "java/lang/invoke/MethodHandle" ∧ y.cls ≠ "java/lang/invoke/VarHandle" ∧ (parseMethodDescriptor y.desc).map (fun d => d.parameters.length) = some n) (hR : rm.frames + 1 ≤ R.frames ∧ 8 + (maxL + 11) + rm.locals ≤ R.locals) : CallW R s args own C index y bytes maxL ret (xws y bytes maxL ret) rm 0 0 n :=
  cwV n (Ts := gW) hts (gW_in (fun w hw => by
    rcases List.mem_append.mp (show w ∈ ([.methodLink own index y, .instanceMethod y, .selects C y y, .initialized C] : List Cond) ++ xws y bytes maxL ret from hw) with h | h
    · simp only [List.mem_cons, List.not_mem_nil, or_false] at h
      rcases h with rfl | rfl | rfl | rfl
      · exact h1
      · exact h2
      · exact h3
      · exact h4
    · exact xws_in h5 w h)) rfl hrc hrs hd hR
theorem x_cwS (n : Nat) (hts : ∀ w ∈ gW, w.before args s = true) (h1 : Cond.methodLink own index y ∈ gW) (h2 : Cond.static y ∈ gW) (h4 : Cond.initialized y.cls ∈ gW) (h5 : Cond.code y bytes maxL ret ∈ gW) (hrc : rm.cells = 0) (hrs : rm.slots = 0)
    (hd : y.cls ≠ "java/lang/invoke/MethodHandle" ∧ y.cls ≠ "java/lang/invoke/VarHandle" ∧ (parseMethodDescriptor y.desc).map (fun d => d.parameters.length) = some n) (hR : rm.frames + 1 ≤ R.frames ∧ 8 + (maxL + 11) + rm.locals ≤ R.locals) : CallB R s args own index y bytes maxL ret (xws y bytes maxL ret) rm 0 0 n ∧ (Cond.static y).before args s = true :=
  va_cwS n (Ts := gW) hts (gW_in (fun w hw => by
    rcases List.mem_append.mp (show w ∈ ([.methodLink own index y, .static y, .initialized y.cls] : List Cond) ++ xws y bytes maxL ret from hw) with h | h
    · simp only [List.mem_cons, List.not_mem_nil, or_false] at h
      rcases h with rfl | rfl | rfl
      · exact h1
      · exact h2
      · exact h4
    · exact xws_in h5 w h)) rfl hrc hrs hd hR
theorem x_cwN (n : Nat) (hts : ∀ w ∈ gW, w.before args s = true) (hl : va_Nw (.methodLinkNest own index y host) s) (h2 : Cond.static y ∈ gW) (h4 : Cond.initialized y.cls ∈ gW) (h5 : Cond.code y bytes maxL ret ∈ gW) (hrc : rm.cells = 0) (hrs : rm.slots = 0)
    (hd : y.cls ≠ "java/lang/invoke/MethodHandle" ∧ y.cls ≠ "java/lang/invoke/VarHandle" ∧ (parseMethodDescriptor y.desc).map (fun d => d.parameters.length) = some n) (hR : rm.frames + 1 ≤ R.frames ∧ 8 + (maxL + 11) + rm.locals ≤ R.locals) : va_CN R s args own index y host bytes maxL ret (xws y bytes maxL ret) rm 0 0 n ∧ (Cond.static y).before args s = true ∧ True :=
  ⟨va_cnB n (Ts := gW) hts (gW_in (xws_in h5)) rfl hrc hrs hl (hts _ h4) hd hR, hts _ h2, trivial⟩
end XCW
end
section
/-! ===== the system's own words: worlds, contracts, rows over them ===== -/
def bI : Bool → Int32
  | true => 1
  | false => 0
theorem bI_0 (b : Bool) : bI b = 0 ↔ ¬ b = true := by cases b <;> decide
theorem bI_inj (a b : Bool) : bI a = bI b ↔ a = b := by cases a <;> cases b <;> decide
theorem bI_nar (b : Bool) : narrow .boolean (.int (bI b)) = .int (bI b) := by cases b <;> rfl
theorem bI_fit (b : Bool) : fits .boolean (.int (bI b)) = true := by cases b <;> rfl
theorem bI_vp (b : Bool) : vp_nar .boolean (bI b) = bI b := by cases b <;> rfl
def tensL (i : Nat) : Int64 := Int64.ofNat (10 ^ i)
/-- what a launch's start gives every method: the static row of powers, the links between nest mates -/
def xSt (t0 : Nat) (A : Nat → Prop) (U : State) (H : Heap) : Prop :=
  va_Z "DecimalWords" "TENS" "[J" (.ref t0) A U H ∧ va_T .long t0 17 (fun i => .long (tensL i)) A U H ∧
  va_Nw (.methodLinkNest RX1 22 yX3_digitsOf RX3) U ∧ va_Nw (.methodLinkNest RX1 64 yX3_tenTo RX3) U ∧ va_Nw (.methodLinkNest RX2 53 yX3_tenTo RX3) U
theorem xSt.at {t0 : Nat} {A B : Nat → Prop} {s U : State} {H : Heap} (h : xSt t0 A s s.heap) (hW : s.WarmedH U.vm)
    (hq : ∀ a : Nat, a < s.heap.size → ¬ A a → H[a]? = s.heap[a]?) (hAB : ∀ q, B q → A q) (hU : U.heap = H) : xSt t0 B U U.heap := by
  obtain ⟨h1, h2, h3, h4, h5⟩ := h
  rw [hU]
  exact ⟨((h1.kept hq).moved hW.alike).narrow hAB, ((h2.kept hq).moved hW.alike).narrow hAB, h3.warmM hW, h4.warmM hW, h5.warmM hW⟩
/-- a contract's start, in words of the cells -/
def XB (D : va_G) (tys : List (ClassId × FieldType)) (t0 : Nat) (w : va_W) (sz : Nat) (U : State) : Prop :=
  U.heap.size = sz ∧ va_P D vwCl w U.heap ∧ va_K D vwCl tys U ∧ va_D (fun _ => True) w ∧ xSt t0 (va_A w sz) U U.heap
def XQ (D : va_G) (tys : List (ClassId × FieldType)) (w1 : va_W) (A : Nat → Prop) (r : Option Value) : Array Value → State → Outcome → State → Prop := fun _ st oc t =>
  (oc = .returned r ∧ va_P D vwCl w1 t.heap ∧ va_K D vwCl tys t ∧ va_D A w1) ∧ va_F A st t
def XE (below : List Frame) (D : va_G) (tys : List (ClassId × FieldType)) (w1 : va_W) (A : Nat → Prop) (r : Option Value) (args : Array Value) (s : State) : State → Prop :=
  MQ below (XQ D tys w1 A r) args s 0 0 A
/-- a method's contract: from the cells w0 it answers r, and the cells are w1 -/
def XM (l : Launch) (D : va_G) (tys : List (ClassId × FieldType)) (t0 : Nat) (y : MethodName) (cc : ByteArray) (maxL : Nat) (ret : Option FieldType) (rm : Room) (av : List Value) (r : Option Value) (w0 w1 : va_W) : Prop :=
  ∀ sz : Nat, Met l y (xws y cc maxL ret) rm (va_Pc av (XB D tys t0 w0 sz)) (XQ D tys w1 (va_A w0 sz) r) 0 0 (va_A w0 sz)
/-- what a method's body may use of its start -/
abbrev XF (p : Program) (s : State) (m : MethodId) (args : Array Value) (meth : Method) (c : Code) (cc : ByteArray) (maxL : Nat) (ret : Option FieldType) (own : String) : Prop :=
  p.tables.exec = Jvm.exec ∧ c.code = cc ∧ meth.sig.returnType = ret ∧ (∀ w ∈ gW, w.before args s = true) ∧ s.vm.findClass own = some m.cls ∧ meth.locks = false ∧ c.maxLocals = maxL
theorem XM.of {l : Launch} {D : va_G} {tys : List (ClassId × FieldType)} {t0 : Nat} {y : MethodName} {rm : Room} {av : List Value} {r : Option Value} {w0 w1 : va_W} {cc : ByteArray} {maxL : Nat} {ret : Option FieldType}
    (hy : plainName y.cls = true) (hlen : (lg_sl av).length ≤ maxL)
    (body : ∀ (p : Program) (e : Env) (s : State) (m : MethodId) (args : Array Value) (below : List Frame) (meth : Method) (c : Code) (A : Nat → Prop) (Q : State → Prop),
      XF p s m args meth c cc maxL ret y.cls → va_K D vwCl tys s → va_P D vwCl w0 s.heap → va_D A w0 → (∀ q : Nat, s.heap.size ≤ q → A q) → xSt t0 A s s.heap → va_S A s.heap s.heap [] →
      Q = XE below D tys w1 A r args s → ∀ ls : Array Slot, lv_has ls maxL (lv_args 0 av) →
      W p l e rm s m args below meth c s.heap [] 0 0 Q (F0 m 0 ls [])) : XM l D tys t0 y cc maxL ret rm av r w0 w1 := by
  intro sz
  refine Met.ofW (cc := cc) (maxL := maxL) (ret := ret) (ws' := gW) hy rfl ?_
  intro p e s m args below meth c s₁ B hml hv
  obtain ⟨hav, hsz, hP, hK, hD0, hSt⟩ := hv
  have hfr : entryFrame m args maxL = F0 m 0 ((lg_sl av ++ List.replicate (maxL - (lg_sl av).length) Slot.unset).toArray) [] := by rw [hav, lg_entry_eq]
  rw [hfr]
  subst hsz
  exact body p e s m args below meth c (va_A w0 s.heap.size) _ ⟨B.exec, B.bytes, B.returns, fun w hw => atoms_spec (ws := xws y cc maxL ret) B.pre w (List.mem_cons_of_mem _ hw), findClass_of_methodNamed B.named, B.notSynchronized, hml⟩ hK hP hD0.self (fun q h => Or.inr h) hSt va_S.rf rfl _ (lv_entry av hlen)
theorem xB_blind (D : va_G) (tys : List (ClassId × FieldType)) (t0 : Nat) (w : va_W) (sz : Nat) (av : List Value) : FrameBlind (va_Pc av (XB D tys t0 w sz)) := by
  intro a U g mk q
  obtain ⟨q0, q1, qP, qK, qD, z1, z2, z3, z4, z5⟩ := q
  exact ⟨q0, q1, qP, va_K.moved (u := U) (U := U.calling g mk a) (Vm.Alike.refl U.vm) qK, qD, z1.moved (u := U) (U := U.calling g mk a) (Vm.Alike.refl U.vm), z2.moved (u := U) (U := U.calling g mk a) (Vm.Alike.refl U.vm), z3.same rfl rfl, z4.same rfl rfl, z5.same rfl rfl⟩
section XC
variable {p : Program} {l : Launch} {e : Env} {R : Room} {s : State} {m : MethodId} {args : Array Value} {below : List Frame} {meth : Method} {c : Code} {H : Heap} {locs : List Loc} {cells slots : Nat} {Q : State → Prop}
variable {pc : Nat} {ls : Array Slot} {rest st0 : List Value} {a : Array Value} {A : Nat → Prop} {D : va_G} {tys : List (ClassId × FieldType)} {t0 : Nat} {w0 w1 w : va_W} {r : Option Value}
variable {y : MethodName} {bytes cc : ByteArray} {maxL nL n index : Nat} {ret : Option FieldType} {ws : List Cond} {rm : Room} {Ts : List Cond} {own C host : String} {b : Addr} {As : List Value}
theorem xA_of (hD : va_D A w) (hS : va_S A s.heap H locs) (hA : ∀ q : Nat, s.heap.size ≤ q → A q) : ∀ q, va_A w H.size q → A q := by
  intro q h
  rcases h with ⟨k, e, h⟩ | h
  · exact hD.2 k (q, e) h
  · exact hA q (Nat.le_trans hS.1 h)
theorem xB_of (hK : va_K D vwCl tys s) (hP : va_P D vwCl w H) (hD : va_D A w) (hS : va_S A s.heap H locs) (hA : ∀ q : Nat, s.heap.size ≤ q → A q) (hSt : xSt t0 A s s.heap) (U : State) (hU : U.heap = H) (hW : s.WarmedH U.vm) : XB D tys t0 w H.size U :=
  ⟨by rw [hU], by rw [hU]; exact hP, va_K.moved hW.alike hK, hD.weaken (fun _ _ _ _ => trivial), hSt.at hW hS.2.1 (xA_of hD hS hA) hU⟩
/-- behind a call -/
theorem x_call (hr : va_Run p l e R s m args below meth c H locs cells slots 0 0 (F0 m pc ls st0) rest (XQ D tys w1 (va_A w H.size) r a) (va_A w H.size)) (hD : va_D A w) (hS : va_S A s.heap H locs) (hA : ∀ q : Nat, s.heap.size ≤ q → A q)
    (kk : ∀ (H1 : Heap) (locs1 : List Loc), va_P D vwCl w1 H1 → va_D A w1 → va_S A s.heap H1 locs1 → W p l e R s m args below meth c H1 locs1 cells slots Q (F0 m (pc + 3) ls (r.toList ++ rest))) : W p l e R s m args below meth c H locs cells slots Q (F0 m pc ls st0) := by
  have hF := xA_of hD hS hA
  intro T hT X
  obtain ⟨v, st₀, t, T', L, h0, X', hL, e1, e2, ⟨⟨hv, hP1, hK1, hD1⟩, hz, hk⟩, st⟩ := hr T hT X
  cases hv
  rw [h0] at hz hk
  obtain ⟨t2, a1, b1⟩ := kk T'.heap (locs ++ L) (by rw [e1]; exact hP1) (hD1.weaken (fun k q _ h => hF q.1 h))
    ⟨Nat.le_trans hS.1 (by rw [e1]; exact hz), fun q h1 h2 => by rw [e1, hk q (Nat.lt_of_lt_of_le h1 hS.1) (fun z => h2 (hF q z))]; exact hS.2.1 q h1 h2, fun q hq => by
      rcases List.mem_append.mp hq with h | h
      · exact hS.2.2 q h
      · exact hF _ (hL q h)⟩ T' rfl X'
  exact ⟨t2, st t2 a1, b1⟩
theorem x_S (S : CallFix p m c cc nL s args Ts own) (hM : XM l D tys t0 y bytes maxL ret rm As r w w1) (cw : CallB R s args own index y bytes maxL ret (xws y bytes maxL ret) rm 0 0 n ∧ (Cond.static y).before args s = true)
    (hK : va_K D vwCl tys s) (hP : va_P D vwCl w H) (hD : va_D A w) (hS : va_S A s.heap H locs) (hA : ∀ q : Nat, s.heap.size ≤ q → A q) (hSt : xSt t0 A s s.heap)
    (hn : As.length = n) (hsize : ls.size = nL) (hstack : st0 = As.reverse ++ rest) (hW : (rest.map fun v => v.category).sum ≤ 8) (hdg : decode cc pc = .ok (.invokestatic index, 3)) (hf : cells ≤ R.cells ∧ slots ≤ R.slots)
    (kk : ∀ (H1 : Heap) (locs1 : List Loc), va_P D vwCl w1 H1 → va_D A w1 → va_S A s.heap H1 locs1 → W p l e R s m args below meth c H1 locs1 cells slots Q (F0 m (pc + 3) ls (r.toList ++ rest))) : W p l e R s m args below meth c H locs cells slots Q (F0 m pc ls st0) :=
  x_call (va_runS S (hM H.size) cw ⟨xB_blind D tys t0 w H.size As, fun U hU hW => ⟨rfl, xB_of hK hP hD hS hA hSt U hU hW⟩⟩ rfl hn hsize hstack (lv_room hW) hdg hf) hD hS hA kk
theorem x_SN (S : CallFix p m c cc nL s args Ts own) (hM : XM l D tys t0 y bytes maxL ret rm As r w w1) (cw : va_CN R s args own index y host bytes maxL ret (xws y bytes maxL ret) rm 0 0 n ∧ (Cond.static y).before args s = true ∧ True)
    (hK : va_K D vwCl tys s) (hP : va_P D vwCl w H) (hD : va_D A w) (hS : va_S A s.heap H locs) (hA : ∀ q : Nat, s.heap.size ≤ q → A q) (hSt : xSt t0 A s s.heap)
    (hn : As.length = n) (hsize : ls.size = nL) (hstack : st0 = As.reverse ++ rest) (hW : (rest.map fun v => v.category).sum ≤ 8) (hdg : decode cc pc = .ok (.invokestatic index, 3)) (hf : cells ≤ R.cells ∧ slots ≤ R.slots)
    (kk : ∀ (H1 : Heap) (locs1 : List Loc), va_P D vwCl w1 H1 → va_D A w1 → va_S A s.heap H1 locs1 → W p l e R s m args below meth c H1 locs1 cells slots Q (F0 m (pc + 3) ls (r.toList ++ rest))) : W p l e R s m args below meth c H locs cells slots Q (F0 m pc ls st0) :=
  x_call (va_runSN S (hM H.size) cw ⟨xB_blind D tys t0 w H.size As, fun U hU hW => ⟨rfl, xB_of hK hP hD hS hA hSt U hU hW⟩⟩ rfl hn hsize hstack (lv_room hW) hdg hf) hD hS hA kk
theorem x_V (S : CallFix p m c cc nL s args Ts own) (hM : XM l D tys t0 y bytes maxL ret rm (.ref b :: As) r w w1) (cw : CallW R s args own C index y bytes maxL ret (xws y bytes maxL ret) rm 0 0 n)
    (hK : va_K D vwCl tys s) (hP : va_P D vwCl w H) (hD : va_D A w) (hS : va_S A s.heap H locs) (hA : ∀ q : Nat, s.heap.size ≤ q → A q) (hSt : xSt t0 A s s.heap) (q0 : Nat) {ci N : Nat} {T : u_T} {fs : List Value} (hb0 : w[q0]? = some (b, .inr (ci, fs))) (hc : vwCl[ci]? = some (C, T, N))
    (hn : As.length = n) (hsize : ls.size = nL) (hstack : st0 = As.reverse ++ .ref b :: rest) (hW : (rest.map fun v => v.category).sum ≤ 8) (hdg : decode cc pc = .ok (.invokevirtual index, 3)) (hf : cells ≤ R.cells ∧ slots ≤ R.slots)
    (kk : ∀ (H1 : Heap) (locs1 : List Loc), va_P D vwCl w1 H1 → va_D A w1 → va_S A s.heap H1 locs1 → W p l e R s m args below meth c H1 locs1 cells slots Q (F0 m (pc + 3) ls (r.toList ++ rest))) : W p l e R s m args below meth c H locs cells slots Q (F0 m pc ls st0) :=
  x_call (va_runV S (hM H.size) cw ⟨xB_blind D tys t0 w H.size (.ref b :: As), va_recv hK hP (q0 := q0) hc hb0, fun U hU hW => ⟨rfl, xB_of hK hP hD hS hA hSt U hU hW⟩⟩ rfl hn hsize hstack (lv_room hW) hdg hf) hD hS hA kk
/-! ends -/
theorem x_vret (hexec : p.tables.exec = Jvm.exec) (hb : c.code = cc) (hr : meth.sig.returnType = none) (hlocks : meth.locks = false) (hQ : Q = XE below D tys w1 A none args s) (hK : va_K D vwCl tys s) (hP : va_P D vwCl w H) (hD : va_D A w) (hS : va_S A s.heap H locs) (hw : w = w1)
    (hdg : decode cc pc = .ok (.return_, 1)) : W p l e R s m args below meth c H locs 0 0 Q (F0 m pc ls []) := by
  subst hQ; subst hw
  exact W.vret hexec hb hr (fun t ht hW => ⟨⟨rfl, by rw [ht]; exact hP, va_K.moved hW.alike hK, hD⟩, hS.F ht⟩) hS.2.2 hdg hlocks
theorem x_iret {v : Int32} (hexec : p.tables.exec = Jvm.exec) (hb : c.code = cc) (hr : meth.sig.returnType = some .int) (hlocks : meth.locks = false) (hQ : Q = XE below D tys w1 A r args s) (hK : va_K D vwCl tys s) (hP : va_P D vwCl w H) (hD : va_D A w) (hS : va_S A s.heap H locs) (hw : w = w1) (hv : r = some (.int v))
    (hdg : decode cc pc = .ok (.ireturn, 1)) : W p l e R s m args below meth c H locs 0 0 Q (F0 m pc ls [.int v]) := by
  subst hQ; subst hw; subst hv
  exact W.iret hexec hb hr (fun t ht hW => ⟨⟨rfl, by rw [ht]; exact hP, va_K.moved hW.alike hK, hD⟩, hS.F ht⟩) hS.2.2 hdg hlocks
theorem x_zret {v : Bool} (hexec : p.tables.exec = Jvm.exec) (hb : c.code = cc) (hr : meth.sig.returnType = some .boolean) (hlocks : meth.locks = false) (hQ : Q = XE below D tys w1 A r args s) (hK : va_K D vwCl tys s) (hP : va_P D vwCl w H) (hD : va_D A w) (hS : va_S A s.heap H locs) (hw : w = w1) (hv : r = some (.int (bI v)))
    (hdg : decode cc pc = .ok (.ireturn, 1)) : W p l e R s m args below meth c H locs 0 0 Q (F0 m pc ls [.int (bI v)]) := by
  subst hQ; subst hw; subst hv
  exact W.zret hexec hb hr (bI_nar v) (fun t ht hW => ⟨⟨rfl, by rw [ht]; exact hP, va_K.moved hW.alike hK, hD⟩, hS.F ht⟩) hS.2.2 hdg hlocks
theorem x_lret {v : Int64} (hexec : p.tables.exec = Jvm.exec) (hb : c.code = cc) (hr : meth.sig.returnType = some .long) (hlocks : meth.locks = false) (hQ : Q = XE below D tys w1 A r args s) (hK : va_K D vwCl tys s) (hP : va_P D vwCl w H) (hD : va_D A w) (hS : va_S A s.heap H locs) (hw : w = w1) (hv : r = some (.long v))
    (hdg : decode cc pc = .ok (.lreturn, 1)) : W p l e R s m args below meth c H locs 0 0 Q (F0 m pc ls [.long v]) := by
  subst hQ; subst hw; subst hv
  exact W.lret hexec hb hr (fun t ht hW => ⟨⟨rfl, by rw [ht]; exact hP, va_K.moved hW.alike hK, hD⟩, hS.F ht⟩) hS.2.2 hdg hlocks
/-! branches on a boolean, on two booleans, on two longs -/
theorem xb_eq (hexec : p.tables.exec = Jvm.exec) (hb : c.code = cc) {x : Bool} {off : Int} {tgt : Nat} (hdg : decode cc pc = .ok (.ifCond .eq off, 3)) (ht : (pc : Int) + off = (tgt : Int))
    (kt : ¬ x = true → W p l e R s m args below meth c H locs cells slots Q (F0 m tgt ls rest)) (kf : x = true → W p l e R s m args below meth c H locs cells slots Q (F0 m (pc + 3) ls rest)) : W p l e R s m args below meth c H locs cells slots Q (F0 m pc ls (.int (bI x) :: rest)) :=
  lv_if_eq hexec hb hdg ht (fun h => kt ((bI_0 x).mp h)) (fun h => kf (by cases x with | true => rfl | false => exact absurd rfl h))
theorem xb_ne (hexec : p.tables.exec = Jvm.exec) (hb : c.code = cc) {x : Bool} {off : Int} {tgt : Nat} (hdg : decode cc pc = .ok (.ifCond .ne off, 3)) (ht : (pc : Int) + off = (tgt : Int))
    (kt : x = true → W p l e R s m args below meth c H locs cells slots Q (F0 m tgt ls rest)) (kf : ¬ x = true → W p l e R s m args below meth c H locs cells slots Q (F0 m (pc + 3) ls rest)) : W p l e R s m args below meth c H locs cells slots Q (F0 m pc ls (.int (bI x) :: rest)) :=
  lv_if_ne hexec hb hdg ht (fun h => kt (by cases x with | true => rfl | false => exact absurd rfl h)) (fun h => kf ((bI_0 x).mp h))
theorem xbb_eq (hexec : p.tables.exec = Jvm.exec) (hb : c.code = cc) {x y : Bool} {off : Int} {tgt : Nat} (hdg : decode cc pc = .ok (.if_icmp .eq off, 3)) (ht : (pc : Int) + off = (tgt : Int))
    (kt : x = y → W p l e R s m args below meth c H locs cells slots Q (F0 m tgt ls rest)) (kf : ¬ x = y → W p l e R s m args below meth c H locs cells slots Q (F0 m (pc + 3) ls rest)) : W p l e R s m args below meth c H locs cells slots Q (F0 m pc ls (.int (bI y) :: .int (bI x) :: rest)) :=
  lv_icmp_eq hexec hb hdg ht (fun h => kt ((bI_inj x y).mp h)) (fun h => kf (fun q => h (by rw [q])))
theorem xbb_ne (hexec : p.tables.exec = Jvm.exec) (hb : c.code = cc) {x y : Bool} {off : Int} {tgt : Nat} (hdg : decode cc pc = .ok (.if_icmp .ne off, 3)) (ht : (pc : Int) + off = (tgt : Int))
    (kt : ¬ x = y → W p l e R s m args below meth c H locs cells slots Q (F0 m tgt ls rest)) (kf : x = y → W p l e R s m args below meth c H locs cells slots Q (F0 m (pc + 3) ls rest)) : W p l e R s m args below meth c H locs cells slots Q (F0 m pc ls (.int (bI y) :: .int (bI x) :: rest)) :=
  lv_icmp_ne hexec hb hdg ht (fun h => kt (fun q => h (by rw [q]))) (fun h => kf ((bI_inj x y).mp h))
theorem xl_eq (hexec : p.tables.exec = Jvm.exec) (hb : c.code = cc) {x y : Int64} {off : Int} {tgt : Nat} (h1 : decode cc pc = .ok (.lcmp, 1)) (hdg : decode cc (pc + 1) = .ok (.ifCond .eq off, 3)) (ht : ((pc + 1 : Nat) : Int) + off = (tgt : Int))
    (kt : x = y → W p l e R s m args below meth c H locs cells slots Q (F0 m tgt ls rest)) (kf : ¬ x = y → W p l e R s m args below meth c H locs cells slots Q (F0 m (pc + 4) ls rest)) : W p l e R s m args below meth c H locs cells slots Q (F0 m pc ls (.long y :: .long x :: rest)) :=
  W.lcmp hexec hb h1 (lv_if_eq hexec hb hdg ht (fun h => kt ((lg_cmp_eq x y).mp h)) (fun h => kf (fun q => h ((lg_cmp_eq x y).mpr q))))
theorem xl_ne (hexec : p.tables.exec = Jvm.exec) (hb : c.code = cc) {x y : Int64} {off : Int} {tgt : Nat} (h1 : decode cc pc = .ok (.lcmp, 1)) (hdg : decode cc (pc + 1) = .ok (.ifCond .ne off, 3)) (ht : ((pc + 1 : Nat) : Int) + off = (tgt : Int))
    (kt : ¬ x = y → W p l e R s m args below meth c H locs cells slots Q (F0 m tgt ls rest)) (kf : x = y → W p l e R s m args below meth c H locs cells slots Q (F0 m (pc + 4) ls rest)) : W p l e R s m args below meth c H locs cells slots Q (F0 m pc ls (.long y :: .long x :: rest)) :=
  W.lcmp hexec hb h1 (lv_if_ne hexec hb hdg ht (fun h => kt (fun q => h ((lg_cmp_eq x y).mpr q))) (fun h => kf ((lg_cmp_eq x y).mp h)))
theorem xl_lt (hexec : p.tables.exec = Jvm.exec) (hb : c.code = cc) {x y : Int64} {off : Int} {tgt : Nat} (h1 : decode cc pc = .ok (.lcmp, 1)) (hdg : decode cc (pc + 1) = .ok (.ifCond .lt off, 3)) (ht : ((pc + 1 : Nat) : Int) + off = (tgt : Int))
    (kt : x < y → W p l e R s m args below meth c H locs cells slots Q (F0 m tgt ls rest)) (kf : ¬ x < y → W p l e R s m args below meth c H locs cells slots Q (F0 m (pc + 4) ls rest)) : W p l e R s m args below meth c H locs cells slots Q (F0 m pc ls (.long y :: .long x :: rest)) :=
  W.lcmp hexec hb h1 (lv_if_lt hexec hb hdg ht (fun h => kt ((lg_cmp_lt x y).mp h)) (fun h => kf (fun q => h ((lg_cmp_lt x y).mpr q))))
theorem xl_ge (hexec : p.tables.exec = Jvm.exec) (hb : c.code = cc) {x y : Int64} {off : Int} {tgt : Nat} (h1 : decode cc pc = .ok (.lcmp, 1)) (hdg : decode cc (pc + 1) = .ok (.ifCond .ge off, 3)) (ht : ((pc + 1 : Nat) : Int) + off = (tgt : Int))
    (kt : y ≤ x → W p l e R s m args below meth c H locs cells slots Q (F0 m tgt ls rest)) (kf : ¬ y ≤ x → W p l e R s m args below meth c H locs cells slots Q (F0 m (pc + 4) ls rest)) : W p l e R s m args below meth c H locs cells slots Q (F0 m pc ls (.long y :: .long x :: rest)) :=
  W.lcmp hexec hb h1 (lv_if_ge hexec hb hdg ht (fun h => kt ((lg_cmp_ge x y).mp h)) (fun h => kf (fun q => h ((lg_cmp_ge x y).mpr q))))
theorem xl_gt (hexec : p.tables.exec = Jvm.exec) (hb : c.code = cc) {x y : Int64} {off : Int} {tgt : Nat} (h1 : decode cc pc = .ok (.lcmp, 1)) (hdg : decode cc (pc + 1) = .ok (.ifCond .gt off, 3)) (ht : ((pc + 1 : Nat) : Int) + off = (tgt : Int))
    (kt : y < x → W p l e R s m args below meth c H locs cells slots Q (F0 m tgt ls rest)) (kf : ¬ y < x → W p l e R s m args below meth c H locs cells slots Q (F0 m (pc + 4) ls rest)) : W p l e R s m args below meth c H locs cells slots Q (F0 m pc ls (.long y :: .long x :: rest)) :=
  W.lcmp hexec hb h1 (lv_if_gt hexec hb hdg ht (fun h => kt ((lg_cmp_gt x y).mp h)) (fun h => kf (fun q => h ((lg_cmp_gt x y).mpr q))))
theorem xl_le (hexec : p.tables.exec = Jvm.exec) (hb : c.code = cc) {x y : Int64} {off : Int} {tgt : Nat} (h1 : decode cc pc = .ok (.lcmp, 1)) (hdg : decode cc (pc + 1) = .ok (.ifCond .le off, 3)) (ht : ((pc + 1 : Nat) : Int) + off = (tgt : Int))
    (kt : x ≤ y → W p l e R s m args below meth c H locs cells slots Q (F0 m tgt ls rest)) (kf : ¬ x ≤ y → W p l e R s m args below meth c H locs cells slots Q (F0 m (pc + 4) ls rest)) : W p l e R s m args below meth c H locs cells slots Q (F0 m pc ls (.long y :: .long x :: rest)) :=
  W.lcmp hexec hb h1 (lv_if_le hexec hb hdg ht (fun h => kt ((lg_cmp_le x y).mp h)) (fun h => kf (fun q => h ((lg_cmp_le x y).mpr q))))
end XC
end
section
/-! ===== the two worlds ===== -/
def dcell (ad : Nat → Nat) (so : Nat → Int32) (mi : Nat → Bool) (co : Nat → Int64) (ex : Nat → Int32) (i : Nat) : Nat × va_E := (ad i, .inr (2, [.int (so i), .int (bI (mi i)), .long (co i), .int (ex i)]))
/-- the class' cells: itself, the row of registers, the outcome, the nine data (the last one is the result) -/
def xw (cR : ClassId) (hx hr ho : Nat) (ad : Nat → Nat) (rd tr sd rn : Int32) (om : Bool) (oh ol : Int64) (op : Int32) (oe : Bool) (ow : Int32) (ok : Int64) (os : Int32) (so : Nat → Int32) (mi : Nat → Bool) (co : Nat → Int64) (ex : Nat → Int32) : va_W :=
  [(hx, .inr (4, [.ref hr, .ref (ad 8), .ref ho, .int rd, .int tr, .int sd, .int rn])), (hr, .inl (cR, 8, .inr (.inr (.inr (.inr (fun k => some (ad k))))))), (ho, .inr (3, [.int (bI om), .long oh, .long ol, .int op, .int (bI oe), .int ow, .long ok, .int os]))] ++ (List.range 9).map (dcell ad so mi co ex)
/-- the reference's cells -/
def mw (cI cJ cZ : ClassId) (hm hk hn hc he hd hq : Nat) (th mo fg tp kd : Int32) (ng : Bool) (cc : Int64) (qq rs ct un : Int32) (re : Bool) (ks : Nat → Int32) (ms : Nat → Bool) (cs : Nat → Int64) (es dg og : Nat → Int32) : va_W :=
  [(hm, .inr (5, [.int th, .ref hk, .ref hn, .ref hc, .ref he, .int mo, .int fg, .int tp, .int kd, .int (bI ng), .long cc, .int qq, .int rs, .int ct, .ref hd, .ref hq, .int un, .int (bI re)])), (hk, .inl (cI, 8, .inl ks)), (hn, .inl (cZ, 8, .inl (fun k => bI (ms k)))), (hc, .inl (cJ, 8, .inr (.inl cs))), (he, .inl (cI, 8, .inl es)), (hd, .inl (cI, 900, .inl dg)), (hq, .inl (cI, 900, .inl og))]
def xty (cR cI cJ cZ : ClassId) : List (ClassId × FieldType) := [(cR, .object RX0), (cI, .int), (cJ, .long), (cZ, .boolean)]
theorem map_set {α : Type} {n i : Nat} {f g : Nat → α} {v : α} (h1 : g i = v) (h2 : ∀ j, j ≠ i → g j = f j) : ((List.range n).map f).set i v = (List.range n).map g := by
  apply List.ext_getElem?
  intro j
  rw [List.getElem?_set, List.getElem?_map, List.getElem?_map, List.length_map, List.length_range]
  by_cases hj : i = j
  · subst hj
    by_cases hn : i < n
    · simp [hn, h1]
    · simp [hn]
  · rw [if_neg hj]
    by_cases hn : j < n
    · simp [hn, h2 j (fun e => hj e.symm)]
    · simp [hn]
section XWD
variable {cR : ClassId} {hx hr ho : Nat} {ad : Nat → Nat} {rd tr sd rn : Int32} {om : Bool} {oh ol : Int64} {op : Int32} {oe : Bool} {ow : Int32} {ok : Int64} {os : Int32} {so : Nat → Int32} {mi : Nat → Bool} {co : Nat → Int64} {ex : Nat → Int32} {i : Nat}
theorem xw_dat (hi : i < 9) : (xw cR hx hr ho ad rd tr sd rn om oh ol op oe ow ok os so mi co ex)[3 + i]? = some (dcell ad so mi co ex i) := by
  unfold xw
  rw [List.getElem?_append_right (by simp)]
  simp [hi]
theorem xw_set {so' : Nat → Int32} {mi' : Nat → Bool} {co' : Nat → Int64} {ex' : Nat → Int32} {v : Nat × va_E} (h1 : dcell ad so' mi' co' ex' i = v) (h2 : ∀ j, j ≠ i → dcell ad so' mi' co' ex' j = dcell ad so mi co ex j) : (xw cR hx hr ho ad rd tr sd rn om oh ol op oe ow ok os so mi co ex).set (3 + i) v = xw cR hx hr ho ad rd tr sd rn om oh ol op oe ow ok os so' mi' co' ex' := by
  unfold xw
  rw [List.set_append_right _ _ (by simp)]
  congr 1
  rw [show 3 + i - [(hx, (Sum.inr (4, [Value.ref hr, .ref (ad 8), .ref ho, .int rd, .int tr, .int sd, .int rn]) : va_E)), (hr, .inl (cR, 8, .inr (.inr (.inr (.inr (fun k => some (ad k))))))), (ho, .inr (3, [.int (bI om), .long oh, .long ol, .int op, .int (bI oe), .int ow, .long ok, .int os]))].length = i from by simp]
  exact map_set h1 h2
theorem xw_so (v : Int32) : (xw cR hx hr ho ad rd tr sd rn om oh ol op oe ow ok os so mi co ex).set (3 + i) (ad i, .inr (2, [.int v, .int (bI (mi i)), .long (co i), .int (ex i)])) = xw cR hx hr ho ad rd tr sd rn om oh ol op oe ow ok os (va_up so i v) mi co ex :=
  xw_set (by simp [dcell, va_up]) (fun j hj => by simp [dcell, va_up, hj])
theorem xw_mi (v : Bool) : (xw cR hx hr ho ad rd tr sd rn om oh ol op oe ow ok os so mi co ex).set (3 + i) (ad i, .inr (2, [.int (so i), .int (bI v), .long (co i), .int (ex i)])) = xw cR hx hr ho ad rd tr sd rn om oh ol op oe ow ok os so (va_up mi i v) co ex :=
  xw_set (by simp [dcell, va_up]) (fun j hj => by simp [dcell, va_up, hj])
theorem xw_co (v : Int64) : (xw cR hx hr ho ad rd tr sd rn om oh ol op oe ow ok os so mi co ex).set (3 + i) (ad i, .inr (2, [.int (so i), .int (bI (mi i)), .long v, .int (ex i)])) = xw cR hx hr ho ad rd tr sd rn om oh ol op oe ow ok os so mi (va_up co i v) ex :=
  xw_set (by simp [dcell, va_up]) (fun j hj => by simp [dcell, va_up, hj])
theorem xw_ex (v : Int32) : (xw cR hx hr ho ad rd tr sd rn om oh ol op oe ow ok os so mi co ex).set (3 + i) (ad i, .inr (2, [.int (so i), .int (bI (mi i)), .long (co i), .int v])) = xw cR hx hr ho ad rd tr sd rn om oh ol op oe ow ok os so mi co (va_up ex i v) :=
  xw_set (by simp [dcell, va_up]) (fun j hj => by simp [dcell, va_up, hj])
end XWD
section XWR
variable {p : Program} {l : Launch} {e : Env} {R : Room} {s : State} {m : MethodId} {args : Array Value} {below : List Frame} {meth : Method} {c : Code} {H : Heap} {locs : List Loc} {cells slots : Nat} {Q : State → Prop}
variable {pc : Nat} {ls : Array Slot} {rest : List Value} {A : Nat → Prop} {D : va_G} {tys : List (ClassId × FieldType)} {H0 : Heap} {cc : ByteArray} {own : String} {index : Nat} {Ts : List Cond}
variable {cR : ClassId} {hx hr ho : Nat} {ad : Nat → Nat} {rd tr sd rn : Int32} {om : Bool} {oh ol : Int64} {op : Int32} {oe : Bool} {ow : Int32} {ok : Int64} {os : Int32} {so : Nat → Int32} {mi : Nat → Bool} {co : Nat → Int64} {ex : Nat → Int32} {i : Nat}
theorem g_so (hexec : p.tables.exec = Jvm.exec) (hb : c.code = cc) (hts : ∀ w ∈ Ts, w.before args s = true) (hin : ∀ w ∈ wsX00, w ∈ Ts) (hown : s.vm.findClass own = some m.cls) (hK : va_K D vwCl tys s) (hP : va_P D vwCl (xw cR hx hr ho ad rd tr sd rn om oh ol op oe ow ok os so mi co ex) H) (hi : i < 9) (hlink : (Cond.fieldLink own index RX0 "sort" "I").before args s = true) (hdg : decode cc pc = .ok (.getfield index, 3))
    (kk : W p l e R s m args below meth c H locs cells slots Q (F0 m (pc + 3) ls (.int (so i) :: rest))) : W p l e R s m args below meth c H locs cells slots Q (F0 m pc ls (.ref (ad i) :: rest)) :=
  va_get (D := D) (ci := 2) (v := .int (so i)) (C := RX0) (T := TX0) (N := 4) hexec hb hts hin hown hK hP (3 + i) (xw_dat hi) rfl 0 (by decide) hlink (fun _ h9 => h9) rfl hdg kk
theorem p_so (hexec : p.tables.exec = Jvm.exec) (hb : c.code = cc) (hts : ∀ w ∈ Ts, w.before args s = true) (hin : ∀ w ∈ wsX00, w ∈ Ts) (hown : s.vm.findClass own = some m.cls) (hK : va_K D vwCl tys s) (hP : va_P D vwCl (xw cR hx hr ho ad rd tr sd rn om oh ol op oe ow ok os so mi co ex) H) (hD : va_D A (xw cR hx hr ho ad rd tr sd rn om oh ol op oe ow ok os so mi co ex)) (hS : va_S A H0 H locs) (hi : i < 9) (hlink : (Cond.fieldLink own index RX0 "sort" "I").before args s = true) (v : Int32) (hdg : decode cc pc = .ok (.putfield index, 3))
    (kk : ∀ (H1 : Heap) (locs1 : List Loc), va_P D vwCl (xw cR hx hr ho ad rd tr sd rn om oh ol op oe ow ok os (va_up so i v) mi co ex) H1 → va_D A (xw cR hx hr ho ad rd tr sd rn om oh ol op oe ow ok os (va_up so i v) mi co ex) → va_S A H0 H1 locs1 → W p l e R s m args below meth c H1 locs1 cells slots Q (F0 m (pc + 3) ls rest)) : W p l e R s m args below meth c H locs cells slots Q (F0 m pc ls (.int v :: .ref (ad i) :: rest)) :=
  va_put (D := D) (ci := 2) (v := .int v) (ty := .int) (C := RX0) (T := TX0) (N := 4) hexec hb hts hin tyX0 tyX0_ok nmX0 hown hK hP hD hS (3 + i) (xw_dat hi) rfl 0 (by decide) hlink (fun _ h9 => h9) rfl (by decide +kernel) rfl rfl (Nat.le_of_ble_eq_true rfl) hdg
    (fun H1 locs1 h1 h2 h3 => kk H1 locs1 ((xw_so (cR := cR) (hx := hx) (hr := hr) (ho := ho) (i := i) v) ▸ h1) ((xw_so (cR := cR) (hx := hx) (hr := hr) (ho := ho) (i := i) v) ▸ h2) h3)
theorem g_mi (hexec : p.tables.exec = Jvm.exec) (hb : c.code = cc) (hts : ∀ w ∈ Ts, w.before args s = true) (hin : ∀ w ∈ wsX00, w ∈ Ts) (hown : s.vm.findClass own = some m.cls) (hK : va_K D vwCl tys s) (hP : va_P D vwCl (xw cR hx hr ho ad rd tr sd rn om oh ol op oe ow ok os so mi co ex) H) (hi : i < 9) (hlink : (Cond.fieldLink own index RX0 "minus" "Z").before args s = true) (hdg : decode cc pc = .ok (.getfield index, 3))
    (kk : W p l e R s m args below meth c H locs cells slots Q (F0 m (pc + 3) ls (.int (bI (mi i)) :: rest))) : W p l e R s m args below meth c H locs cells slots Q (F0 m pc ls (.ref (ad i) :: rest)) :=
  va_get (D := D) (ci := 2) (v := .int (bI (mi i))) (C := RX0) (T := TX0) (N := 4) hexec hb hts hin hown hK hP (3 + i) (xw_dat hi) rfl 1 (by decide) hlink (fun _ h9 => h9) rfl hdg kk
theorem p_mi (hexec : p.tables.exec = Jvm.exec) (hb : c.code = cc) (hts : ∀ w ∈ Ts, w.before args s = true) (hin : ∀ w ∈ wsX00, w ∈ Ts) (hown : s.vm.findClass own = some m.cls) (hK : va_K D vwCl tys s) (hP : va_P D vwCl (xw cR hx hr ho ad rd tr sd rn om oh ol op oe ow ok os so mi co ex) H) (hD : va_D A (xw cR hx hr ho ad rd tr sd rn om oh ol op oe ow ok os so mi co ex)) (hS : va_S A H0 H locs) (hi : i < 9) (hlink : (Cond.fieldLink own index RX0 "minus" "Z").before args s = true) (v : Bool) (hdg : decode cc pc = .ok (.putfield index, 3))
    (kk : ∀ (H1 : Heap) (locs1 : List Loc), va_P D vwCl (xw cR hx hr ho ad rd tr sd rn om oh ol op oe ow ok os so (va_up mi i v) co ex) H1 → va_D A (xw cR hx hr ho ad rd tr sd rn om oh ol op oe ow ok os so (va_up mi i v) co ex) → va_S A H0 H1 locs1 → W p l e R s m args below meth c H1 locs1 cells slots Q (F0 m (pc + 3) ls rest)) : W p l e R s m args below meth c H locs cells slots Q (F0 m pc ls (.int (bI v) :: .ref (ad i) :: rest)) :=
  va_put (D := D) (ci := 2) (v := .int (bI v)) (ty := .boolean) (C := RX0) (T := TX0) (N := 4) hexec hb hts hin tyX0 tyX0_ok nmX0 hown hK hP hD hS (3 + i) (xw_dat hi) rfl 1 (by decide) hlink (fun _ h9 => h9) rfl (by decide +kernel) (bI_nar v) (bI_fit v) (Nat.le_of_ble_eq_true rfl) hdg
    (fun H1 locs1 h1 h2 h3 => kk H1 locs1 ((xw_mi (cR := cR) (hx := hx) (hr := hr) (ho := ho) (i := i) v) ▸ h1) ((xw_mi (cR := cR) (hx := hx) (hr := hr) (ho := ho) (i := i) v) ▸ h2) h3)
theorem g_co (hexec : p.tables.exec = Jvm.exec) (hb : c.code = cc) (hts : ∀ w ∈ Ts, w.before args s = true) (hin : ∀ w ∈ wsX00, w ∈ Ts) (hown : s.vm.findClass own = some m.cls) (hK : va_K D vwCl tys s) (hP : va_P D vwCl (xw cR hx hr ho ad rd tr sd rn om oh ol op oe ow ok os so mi co ex) H) (hi : i < 9) (hlink : (Cond.fieldLink own index RX0 "coefficient" "J").before args s = true) (hdg : decode cc pc = .ok (.getfield index, 3))
    (kk : W p l e R s m args below meth c H locs cells slots Q (F0 m (pc + 3) ls (.long (co i) :: rest))) : W p l e R s m args below meth c H locs cells slots Q (F0 m pc ls (.ref (ad i) :: rest)) :=
  va_get (D := D) (ci := 2) (v := .long (co i)) (C := RX0) (T := TX0) (N := 4) hexec hb hts hin hown hK hP (3 + i) (xw_dat hi) rfl 2 (by decide) hlink (fun _ h9 => h9) rfl hdg kk
theorem p_co (hexec : p.tables.exec = Jvm.exec) (hb : c.code = cc) (hts : ∀ w ∈ Ts, w.before args s = true) (hin : ∀ w ∈ wsX00, w ∈ Ts) (hown : s.vm.findClass own = some m.cls) (hK : va_K D vwCl tys s) (hP : va_P D vwCl (xw cR hx hr ho ad rd tr sd rn om oh ol op oe ow ok os so mi co ex) H) (hD : va_D A (xw cR hx hr ho ad rd tr sd rn om oh ol op oe ow ok os so mi co ex)) (hS : va_S A H0 H locs) (hi : i < 9) (hlink : (Cond.fieldLink own index RX0 "coefficient" "J").before args s = true) (v : Int64) (hdg : decode cc pc = .ok (.putfield index, 3))
    (kk : ∀ (H1 : Heap) (locs1 : List Loc), va_P D vwCl (xw cR hx hr ho ad rd tr sd rn om oh ol op oe ow ok os so mi (va_up co i v) ex) H1 → va_D A (xw cR hx hr ho ad rd tr sd rn om oh ol op oe ow ok os so mi (va_up co i v) ex) → va_S A H0 H1 locs1 → W p l e R s m args below meth c H1 locs1 cells slots Q (F0 m (pc + 3) ls rest)) : W p l e R s m args below meth c H locs cells slots Q (F0 m pc ls (.long v :: .ref (ad i) :: rest)) :=
  va_put (D := D) (ci := 2) (v := .long v) (ty := .long) (C := RX0) (T := TX0) (N := 4) hexec hb hts hin tyX0 tyX0_ok nmX0 hown hK hP hD hS (3 + i) (xw_dat hi) rfl 2 (by decide) hlink (fun _ h9 => h9) rfl (by decide +kernel) rfl rfl (Nat.le_of_ble_eq_true rfl) hdg
    (fun H1 locs1 h1 h2 h3 => kk H1 locs1 ((xw_co (cR := cR) (hx := hx) (hr := hr) (ho := ho) (i := i) v) ▸ h1) ((xw_co (cR := cR) (hx := hx) (hr := hr) (ho := ho) (i := i) v) ▸ h2) h3)
theorem g_ex (hexec : p.tables.exec = Jvm.exec) (hb : c.code = cc) (hts : ∀ w ∈ Ts, w.before args s = true) (hin : ∀ w ∈ wsX00, w ∈ Ts) (hown : s.vm.findClass own = some m.cls) (hK : va_K D vwCl tys s) (hP : va_P D vwCl (xw cR hx hr ho ad rd tr sd rn om oh ol op oe ow ok os so mi co ex) H) (hi : i < 9) (hlink : (Cond.fieldLink own index RX0 "exponent" "I").before args s = true) (hdg : decode cc pc = .ok (.getfield index, 3))
    (kk : W p l e R s m args below meth c H locs cells slots Q (F0 m (pc + 3) ls (.int (ex i) :: rest))) : W p l e R s m args below meth c H locs cells slots Q (F0 m pc ls (.ref (ad i) :: rest)) :=
  va_get (D := D) (ci := 2) (v := .int (ex i)) (C := RX0) (T := TX0) (N := 4) hexec hb hts hin hown hK hP (3 + i) (xw_dat hi) rfl 3 (by decide) hlink (fun _ h9 => h9) rfl hdg kk
theorem p_ex (hexec : p.tables.exec = Jvm.exec) (hb : c.code = cc) (hts : ∀ w ∈ Ts, w.before args s = true) (hin : ∀ w ∈ wsX00, w ∈ Ts) (hown : s.vm.findClass own = some m.cls) (hK : va_K D vwCl tys s) (hP : va_P D vwCl (xw cR hx hr ho ad rd tr sd rn om oh ol op oe ow ok os so mi co ex) H) (hD : va_D A (xw cR hx hr ho ad rd tr sd rn om oh ol op oe ow ok os so mi co ex)) (hS : va_S A H0 H locs) (hi : i < 9) (hlink : (Cond.fieldLink own index RX0 "exponent" "I").before args s = true) (v : Int32) (hdg : decode cc pc = .ok (.putfield index, 3))
    (kk : ∀ (H1 : Heap) (locs1 : List Loc), va_P D vwCl (xw cR hx hr ho ad rd tr sd rn om oh ol op oe ow ok os so mi co (va_up ex i v)) H1 → va_D A (xw cR hx hr ho ad rd tr sd rn om oh ol op oe ow ok os so mi co (va_up ex i v)) → va_S A H0 H1 locs1 → W p l e R s m args below meth c H1 locs1 cells slots Q (F0 m (pc + 3) ls rest)) : W p l e R s m args below meth c H locs cells slots Q (F0 m pc ls (.int v :: .ref (ad i) :: rest)) :=
  va_put (D := D) (ci := 2) (v := .int v) (ty := .int) (C := RX0) (T := TX0) (N := 4) hexec hb hts hin tyX0 tyX0_ok nmX0 hown hK hP hD hS (3 + i) (xw_dat hi) rfl 3 (by decide) hlink (fun _ h9 => h9) rfl (by decide +kernel) rfl rfl (Nat.le_of_ble_eq_true rfl) hdg
    (fun H1 locs1 h1 h2 h3 => kk H1 locs1 ((xw_ex (cR := cR) (hx := hx) (hr := hr) (ho := ho) (i := i) v) ▸ h1) ((xw_ex (cR := cR) (hx := hx) (hr := hr) (ho := ho) (i := i) v) ▸ h2) h3)
end XWR
/-! rows of arithmetic, with names for what they answer -/
def jmax (x y : Int32) : Int32 := if x < y then y else x
def jmin (x y : Int32) : Int32 := if y < x then y else x
def jmaxL (x y : Int64) : Int64 := if y < x then x else y
def jrem (x y : Int32) : Int32 := x - x / y * y
def jremL (x y : Int64) : Int64 := x - x / y * y
def jshl (x y : Int32) : Int32 := x <<< (y &&& 31)
def jshr (x y : Int32) : Int32 := x >>> (y &&& 31)
def jshlL (x : Int64) (y : Int32) : Int64 := x <<< (y.toInt64 &&& 63)
def jshrL (x : Int64) (y : Int32) : Int64 := x >>> (y.toInt64 &&& 63)
def jushrL (x : Int64) (y : Int32) : Int64 := (x.toUInt64 >>> (y.toInt64.toUInt64 &&& Int64.toUInt64 63)).toInt64
section XOP
variable {p : Program} {l : Launch} {e : Env} {R : Room} {s : State} {m : MethodId} {args : Array Value} {below : List Frame} {meth : Method} {c : Code} {H : Heap} {locs : List Loc} {cells slots : Nat} {Q : State → Prop}
variable {pc : Nat} {ls : Array Slot} {rest : List Value} {cc : ByteArray}
theorem x_irem (hexec : p.tables.exec = Jvm.exec) (hb : c.code = cc) {x : Int32} {y : Int32} (hdg : decode cc pc = .ok (.irem, 1)) (hne : ¬ y = 0)
    (k : W p l e R s m args below meth c H locs cells slots Q (F0 m (pc + 1) ls (.int (jrem x y) :: rest))) : W p l e R s m args below meth c H locs cells slots Q (F0 m pc ls (.int y :: .int x :: rest)) := lv_irem hexec hb hdg hne k
theorem x_lrem (hexec : p.tables.exec = Jvm.exec) (hb : c.code = cc) {x : Int64} {y : Int64} (hdg : decode cc pc = .ok (.lrem, 1)) (hne : ¬ y = 0)
    (k : W p l e R s m args below meth c H locs cells slots Q (F0 m (pc + 1) ls (.long (jremL x y) :: rest))) : W p l e R s m args below meth c H locs cells slots Q (F0 m pc ls (.long y :: .long x :: rest)) := lv_lrem hexec hb hdg hne k
theorem x_ishl (hexec : p.tables.exec = Jvm.exec) (hb : c.code = cc) {x : Int32} {y : Int32} (hdg : decode cc pc = .ok (.ishl, 1))
    (k : W p l e R s m args below meth c H locs cells slots Q (F0 m (pc + 1) ls (.int (jshl x y) :: rest))) : W p l e R s m args below meth c H locs cells slots Q (F0 m pc ls (.int y :: .int x :: rest)) := lv_ishl hexec hb hdg k
theorem x_ishr (hexec : p.tables.exec = Jvm.exec) (hb : c.code = cc) {x : Int32} {y : Int32} (hdg : decode cc pc = .ok (.ishr, 1))
    (k : W p l e R s m args below meth c H locs cells slots Q (F0 m (pc + 1) ls (.int (jshr x y) :: rest))) : W p l e R s m args below meth c H locs cells slots Q (F0 m pc ls (.int y :: .int x :: rest)) := lv_ishr hexec hb hdg k
theorem x_lshl (hexec : p.tables.exec = Jvm.exec) (hb : c.code = cc) {x : Int64} {y : Int32} (hdg : decode cc pc = .ok (.lshl, 1))
    (k : W p l e R s m args below meth c H locs cells slots Q (F0 m (pc + 1) ls (.long (jshlL x y) :: rest))) : W p l e R s m args below meth c H locs cells slots Q (F0 m pc ls (.int y :: .long x :: rest)) := lv_lshl hexec hb hdg rfl k
theorem x_lshr (hexec : p.tables.exec = Jvm.exec) (hb : c.code = cc) {x : Int64} {y : Int32} (hdg : decode cc pc = .ok (.lshr, 1))
    (k : W p l e R s m args below meth c H locs cells slots Q (F0 m (pc + 1) ls (.long (jshrL x y) :: rest))) : W p l e R s m args below meth c H locs cells slots Q (F0 m pc ls (.int y :: .long x :: rest)) := lv_lshr hexec hb hdg rfl k
theorem x_lushr (hexec : p.tables.exec = Jvm.exec) (hb : c.code = cc) {x : Int64} {y : Int32} (hdg : decode cc pc = .ok (.lushr, 1))
    (k : W p l e R s m args below meth c H locs cells slots Q (F0 m (pc + 1) ls (.long (jushrL x y) :: rest))) : W p l e R s m args below meth c H locs cells slots Q (F0 m pc ls (.int y :: .long x :: rest)) := lv_lushr hexec hb hdg rfl k
theorem x_i2l (hexec : p.tables.exec = Jvm.exec) (hb : c.code = cc) {x : Int32} (hdg : decode cc pc = .ok (.i2l, 1)) (k : W p l e R s m args below meth c H locs cells slots Q (F0 m (pc + 1) ls (.long x.toInt64 :: rest))) : W p l e R s m args below meth c H locs cells slots Q (F0 m pc ls (.int x :: rest)) := lv_i2l hexec hb hdg rfl k
theorem x_l2i (hexec : p.tables.exec = Jvm.exec) (hb : c.code = cc) {x : Int64} (hdg : decode cc pc = .ok (.l2i, 1)) (k : W p l e R s m args below meth c H locs cells slots Q (F0 m (pc + 1) ls (.int x.toInt32 :: rest))) : W p l e R s m args below meth c H locs cells slots Q (F0 m pc ls (.long x :: rest)) := lv_l2i hexec hb hdg rfl k
theorem x_max {Ts : List Cond} {nL : Nat} (hexec : p.tables.exec = Jvm.exec) (hb : c.code = cc) (hml : c.maxLocals = nL) (hsz : ls.size = nL) (hts : ∀ w ∈ Ts, w.before args s = true) {own : String} {index : Nat} (hown : s.vm.findClass own = some m.cls) (hlink : Cond.methodLink own index Lib.Math.max.name ∈ Ts) (hstat : Cond.static Lib.Math.max.name ∈ Ts) (hini : Cond.initialized "java/lang/Math" ∈ Ts) (hcode : Cond.code Lib.Math.max.name Lib.Math.max.code 2 (some .int) ∈ Ts)
    (hframes : 1 ≤ R.frames) (hlocals : (rest.map fun v => v.category).sum + 13 ≤ R.locals) (hc : cells ≤ R.cells) (hs : slots ≤ R.slots) {x y : Int32} (hdg : decode cc pc = .ok (.invokestatic index, 3))
    (k : W p l e R s m args below meth c H locs cells slots Q (F0 m (pc + 3) ls (.int (jmax x y) :: rest))) : W p l e R s m args below meth c H locs cells slots Q (F0 m pc ls (.int y :: .int x :: rest)) :=
  va_mmax hexec hb (hml.trans hsz.symm) hown (hts _ hlink) (hts _ hstat) (hts _ hini) (hts _ hcode) hframes hlocals hc hs hdg k
theorem x_min {Ts : List Cond} {nL : Nat} (hexec : p.tables.exec = Jvm.exec) (hb : c.code = cc) (hml : c.maxLocals = nL) (hsz : ls.size = nL) (hts : ∀ w ∈ Ts, w.before args s = true) {own : String} {index : Nat} (hown : s.vm.findClass own = some m.cls) (hlink : Cond.methodLink own index Lib.Math.min.name ∈ Ts) (hstat : Cond.static Lib.Math.min.name ∈ Ts) (hini : Cond.initialized "java/lang/Math" ∈ Ts) (hcode : Cond.code Lib.Math.min.name Lib.Math.min.code 2 (some .int) ∈ Ts)
    (hframes : 1 ≤ R.frames) (hlocals : (rest.map fun v => v.category).sum + 13 ≤ R.locals) (hc : cells ≤ R.cells) (hs : slots ≤ R.slots) {x y : Int32} (hdg : decode cc pc = .ok (.invokestatic index, 3))
    (k : W p l e R s m args below meth c H locs cells slots Q (F0 m (pc + 3) ls (.int (jmin x y) :: rest))) : W p l e R s m args below meth c H locs cells slots Q (F0 m pc ls (.int y :: .int x :: rest)) :=
  va_mmin hexec hb (hml.trans hsz.symm) hown (hts _ hlink) (hts _ hstat) (hts _ hini) (hts _ hcode) hframes hlocals hc hs hdg k
theorem x_maxL {Ts : List Cond} {nL : Nat} (hexec : p.tables.exec = Jvm.exec) (hb : c.code = cc) (hml : c.maxLocals = nL) (hsz : ls.size = nL) (hts : ∀ w ∈ Ts, w.before args s = true) {own : String} {index : Nat} (hown : s.vm.findClass own = some m.cls) (hlink : Cond.methodLink own index Lib.MathLoose.max_long.x ∈ Ts) (hstat : Cond.static Lib.MathLoose.max_long.x ∈ Ts) (hini : Cond.initialized "java/lang/Math" ∈ Ts) (hcode : Cond.code Lib.MathLoose.max_long.x Lib.MathLoose.max_long.code 4 (some .long) ∈ Ts)
    (hframes : 1 ≤ R.frames) (hlocals : (rest.map fun v => v.category).sum + 15 ≤ R.locals) (hc : cells ≤ R.cells) (hs : slots ≤ R.slots) {x y : Int64} (hdg : decode cc pc = .ok (.invokestatic index, 3))
    (k : W p l e R s m args below meth c H locs cells slots Q (F0 m (pc + 3) ls (.long (jmaxL x y) :: rest))) : W p l e R s m args below meth c H locs cells slots Q (F0 m pc ls (.long y :: .long x :: rest)) :=
  va_mmax_long hexec hb (hml.trans hsz.symm) hown (hts _ hlink) (hts _ hstat) (hts _ hini) (hts _ hcode) hframes hlocals hc hs hdg k
end XOP
section XAA
variable {p : Program} {l : Launch} {e : Env} {R : Room} {s : State} {m : MethodId} {args : Array Value} {below : List Frame} {meth : Method} {c : Code} {H : Heap} {locs : List Loc} {cells slots : Nat} {Q : State → Prop}
variable {pc : Nat} {ls : Array Slot} {rest : List Value} {cc : ByteArray} {A : Nat → Prop} {D : va_G} {cI cJ cZ cR : ClassId} {H0 : Heap}
theorem vp_lt9 {i : Int32} (h : vp_in i 8) : i.toNatClampNeg < 9 := Nat.lt_succ_of_lt (Nat.not_le.mp fun q => h (Or.inr q))
theorem x_topb {x : Bool} (k : ∀ y : Bool, y = x → W p l e R s m args below meth c H locs cells slots Q (F0 m pc ls (.int (bI y) :: rest))) : W p l e R s m args below meth c H locs cells slots Q (F0 m pc ls (.int (bI x) :: rest)) := k x rfl
theorem x_aald {hx hr ho : Nat} {ad : Nat → Nat} {rd tr sd rn : Int32} {om : Bool} {oh ol : Int64} {op : Int32} {oe : Bool} {ow : Int32} {ok : Int64} {os : Int32} {so : Nat → Int32} {mi : Nat → Bool} {co : Nat → Int64} {ex : Nat → Int32} (hexec : p.tables.exec = Jvm.exec) (hb : c.code = cc) (hK : va_K D vwCl (xty cR cI cJ cZ) s) (hP : va_P D vwCl (xw cR hx hr ho ad rd tr sd rn om oh ol op oe ow ok os so mi co ex) H) {i : Int32} (hin : vp_in i 8) (hdg : decode cc pc = .ok (.aaload, 1))
    (kk : W p l e R s m args below meth c H locs cells slots Q (F0 m (pc + 1) ls (.ref (ad i.toNatClampNeg) :: rest))) : W p l e R s m args below meth c H locs cells slots Q (F0 m pc ls (.int i :: .ref hr :: rest)) :=
  va_aldq hexec hb hK hP 1 0 rfl rfl hin hdg kk
end XAA
/-! a row's end by its cells' update -/
theorem va_up_upd (f : Nat → Int32) (k : Nat) (x : Int32) : upd f k x = va_up f k x := rfl
theorem va_up_b (g : Nat → Bool) (k : Nat) (b : Bool) : upd (fun j => bI (g j)) k (vp_nar .boolean (bI b)) = fun j => bI (va_up g k b j) := by
  funext j
  simp only [upd, va_up, bI_vp]
  split <;> rfl
section XZA
variable {p : Program} {l : Launch} {e : Env} {R : Room} {s : State} {m : MethodId} {args : Array Value} {below : List Frame} {meth : Method} {c : Code} {H : Heap} {locs : List Loc} {cells slots : Nat} {Q : State → Prop}
variable {pc : Nat} {ls : Array Slot} {rest : List Value} {cc : ByteArray} {A : Nat → Prop} {D : va_G} {cl : List vw_C} {tys : List (ClassId × FieldType)} {a : Nat} {ws : va_W} {H0 : Heap}
theorem x_zast {b : Bool} (hexec : p.tables.exec = Jvm.exec) (hb : c.code = cc) (hK : va_K D cl tys s) (hP : va_P D cl ws H) (hD : va_D A ws) (hS : va_S A H0 H locs) (q0 t0 : Nat) {cA : ClassId} {n : Nat} {g : Nat → Bool} (ha : ws[q0]? = some (a, .inl (cA, n, .inl (fun k => bI (g k))))) (ht : tys[t0]? = some (cA, .boolean)) {i : Int32} (hin : vp_in i n) (hdg : decode cc pc = .ok (.bastore, 1))
    (kk : ∀ (H1 : Heap) (locs1 : List Loc), va_P D cl (ws.set q0 (a, .inl (cA, n, .inl (fun k => bI (va_up g i.toNatClampNeg b k))))) H1 → va_D A (ws.set q0 (a, .inl (cA, n, .inl (fun k => bI (va_up g i.toNatClampNeg b k))))) → va_S A H0 H1 locs1 → W p l e R s m args below meth c H1 locs1 cells slots Q (F0 m (pc + 1) ls rest)) : W p l e R s m args below meth c H locs cells slots Q (F0 m pc ls (.int (bI b) :: .int i :: .ref a :: rest)) := by
  have e1 := va_up_b g i.toNatClampNeg b
  refine va_zast hexec hb hK hP hD hS q0 t0 ha ht hin hdg (fun H1 l1 h1 h2 h3 => ?_)
  rw [e1] at h1 h2
  exact kk H1 l1 h1 h2 h3
end XZA
/-! loops -/
def itn {T : Type} (B : T → T) : Nat → T → T
  | 0, t => t
  | n + 1, t => itn B n (B t)
theorem itn_s {T : Type} (B : T → T) (n : Nat) (t : T) : itn B (n + 1) t = B (itn B n t) := by
  induction n generalizing t with
  | zero => rfl
  | succ n ih => exact ih (B t)
def nW {T : Type} (G : T → Bool) (B : T → T) : Nat → T → Nat
  | 0, _ => 0
  | b + 1, t => if G t = true then nW G B b (B t) + 1 else 0
theorem nW_lt {T : Type} (G : T → Bool) (B : T → T) : ∀ (b : Nat) (t : T) (j : Nat), j < nW G B b t → G (itn B j t) = true := by
  intro b
  induction b with
  | zero => intro t j h; exact absurd h (Nat.not_lt_zero j)
  | succ b ih =>
    intro t j h
    unfold nW at h
    by_cases hg : G t = true
    · rw [if_pos hg] at h
      cases j with
      | zero => exact hg
      | succ j => exact ih (B t) j (Nat.lt_of_succ_lt_succ h)
    · rw [if_neg hg] at h
      exact absurd h (Nat.not_lt_zero j)
/-- 'while G do B', at most b times -/
def wl {T : Type} (G : T → Bool) (B : T → T) (b : Nat) (t : T) : T := itn B (nW G B b t) t
theorem wl_0 {T : Type} (G : T → Bool) (B : T → T) (t : T) : wl G B 0 t = t := rfl
theorem wl_t {T : Type} (G : T → Bool) (B : T → T) (b : Nat) (t : T) (h : G t = true) : wl G B (b + 1) t = wl G B b (B t) := by
  show itn B (if G t = true then nW G B b (B t) + 1 else 0) t = itn B (nW G B b (B t)) (B t)
  rw [if_pos h]
  rfl
theorem wl_f {T : Type} (G : T → Bool) (B : T → T) (b : Nat) (t : T) (h : ¬ G t = true) : wl G B b t = t := by
  cases b with
  | zero => rfl
  | succ b =>
    show itn B (if G t = true then nW G B b (B t) + 1 else 0) t = t
    rw [if_neg h]
    rfl
theorem ite_P {c : Prop} {i : Decidable c} {A B : Prop} (h1 : c → A) (h2 : ¬ c → B) : @ite Prop c i A B := by
  by_cases h : c
  · rw [if_pos h]; exact h1 h
  · rw [if_neg h]; exact h2 h
def bnd {α β : Type} (e : α) (f : α → β) : β := f e
theorem bnd_n {α β : Type} {e n : α} {f : α → β} {u : β} (hu : u = bnd e f) (en : n = e) : u = f n := by rw [en]; exact hu
end
section
theorem dX0_init_0 : decode cX0_init 0 = .ok (.aload_n 0, 1) := by decide +kernel
theorem dX0_init_1 : decode cX0_init 1 = .ok (.invokespecial 3, 3) := by decide +kernel
theorem dX0_init_4 : decode cX0_init 4 = .ok (.return_, 1) := by decide +kernel
theorem dX0_setFinite_0 : decode cX0_setFinite 0 = .ok (.aload_n 0, 1) := by decide +kernel
theorem dX0_setFinite_1 : decode cX0_setFinite 1 = .ok (.iconst 0, 1) := by decide +kernel
theorem dX0_setFinite_2 : decode cX0_setFinite 2 = .ok (.putfield 9, 3) := by decide +kernel
theorem dX0_setFinite_5 : decode cX0_setFinite 5 = .ok (.aload_n 0, 1) := by decide +kernel
theorem dX0_setFinite_6 : decode cX0_setFinite 6 = .ok (.iload_n 1, 1) := by decide +kernel
theorem dX0_setFinite_7 : decode cX0_setFinite 7 = .ok (.putfield 15, 3) := by decide +kernel
theorem dX0_setFinite_10 : decode cX0_setFinite 10 = .ok (.aload_n 0, 1) := by decide +kernel
theorem dX0_setFinite_11 : decode cX0_setFinite 11 = .ok (.lload_n 2, 1) := by decide +kernel
theorem dX0_setFinite_12 : decode cX0_setFinite 12 = .ok (.putfield 19, 3) := by decide +kernel
theorem dX0_setFinite_15 : decode cX0_setFinite 15 = .ok (.aload_n 0, 1) := by decide +kernel
theorem dX0_setFinite_16 : decode cX0_setFinite 16 = .ok (.iload 4, 2) := by decide +kernel
theorem dX0_setFinite_18 : decode cX0_setFinite 18 = .ok (.putfield 23, 3) := by decide +kernel
theorem dX0_setFinite_21 : decode cX0_setFinite 21 = .ok (.return_, 1) := by decide +kernel
theorem dX0_setInfinity_0 : decode cX0_setInfinity 0 = .ok (.aload_n 0, 1) := by decide +kernel
theorem dX0_setInfinity_1 : decode cX0_setInfinity 1 = .ok (.iconst 1, 1) := by decide +kernel
theorem dX0_setInfinity_2 : decode cX0_setInfinity 2 = .ok (.putfield 9, 3) := by decide +kernel
theorem dX0_setInfinity_5 : decode cX0_setInfinity 5 = .ok (.aload_n 0, 1) := by decide +kernel
theorem dX0_setInfinity_6 : decode cX0_setInfinity 6 = .ok (.iload_n 1, 1) := by decide +kernel
theorem dX0_setInfinity_7 : decode cX0_setInfinity 7 = .ok (.putfield 15, 3) := by decide +kernel
theorem dX0_setInfinity_10 : decode cX0_setInfinity 10 = .ok (.aload_n 0, 1) := by decide +kernel
theorem dX0_setInfinity_11 : decode cX0_setInfinity 11 = .ok (.lconst 0, 1) := by decide +kernel
theorem dX0_setInfinity_12 : decode cX0_setInfinity 12 = .ok (.putfield 19, 3) := by decide +kernel
theorem dX0_setInfinity_15 : decode cX0_setInfinity 15 = .ok (.aload_n 0, 1) := by decide +kernel
theorem dX0_setInfinity_16 : decode cX0_setInfinity 16 = .ok (.iconst 0, 1) := by decide +kernel
theorem dX0_setInfinity_17 : decode cX0_setInfinity 17 = .ok (.putfield 23, 3) := by decide +kernel
theorem dX0_setInfinity_20 : decode cX0_setInfinity 20 = .ok (.return_, 1) := by decide +kernel
theorem dX0_setNothing_0 : decode cX0_setNothing 0 = .ok (.aload_n 0, 1) := by decide +kernel
theorem dX0_setNothing_1 : decode cX0_setNothing 1 = .ok (.iconst 2, 1) := by decide +kernel
theorem dX0_setNothing_2 : decode cX0_setNothing 2 = .ok (.putfield 9, 3) := by decide +kernel
theorem dX0_setNothing_5 : decode cX0_setNothing 5 = .ok (.aload_n 0, 1) := by decide +kernel
theorem dX0_setNothing_6 : decode cX0_setNothing 6 = .ok (.iconst 0, 1) := by decide +kernel
theorem dX0_setNothing_7 : decode cX0_setNothing 7 = .ok (.putfield 15, 3) := by decide +kernel
theorem dX0_setNothing_10 : decode cX0_setNothing 10 = .ok (.aload_n 0, 1) := by decide +kernel
theorem dX0_setNothing_11 : decode cX0_setNothing 11 = .ok (.lconst 0, 1) := by decide +kernel
theorem dX0_setNothing_12 : decode cX0_setNothing 12 = .ok (.putfield 19, 3) := by decide +kernel
theorem dX0_setNothing_15 : decode cX0_setNothing 15 = .ok (.aload_n 0, 1) := by decide +kernel
theorem dX0_setNothing_16 : decode cX0_setNothing 16 = .ok (.iconst 0, 1) := by decide +kernel
theorem dX0_setNothing_17 : decode cX0_setNothing 17 = .ok (.putfield 23, 3) := by decide +kernel
theorem dX0_setNothing_20 : decode cX0_setNothing 20 = .ok (.return_, 1) := by decide +kernel
theorem dX0_take_0 : decode cX0_take 0 = .ok (.aload_n 0, 1) := by decide +kernel
theorem dX0_take_1 : decode cX0_take 1 = .ok (.aload_n 1, 1) := by decide +kernel
theorem dX0_take_2 : decode cX0_take 2 = .ok (.getfield 9, 3) := by decide +kernel
theorem dX0_take_5 : decode cX0_take 5 = .ok (.putfield 9, 3) := by decide +kernel
theorem dX0_take_8 : decode cX0_take 8 = .ok (.aload_n 0, 1) := by decide +kernel
theorem dX0_take_9 : decode cX0_take 9 = .ok (.aload_n 1, 1) := by decide +kernel
theorem dX0_take_10 : decode cX0_take 10 = .ok (.getfield 15, 3) := by decide +kernel
theorem dX0_take_13 : decode cX0_take 13 = .ok (.putfield 15, 3) := by decide +kernel
theorem dX0_take_16 : decode cX0_take 16 = .ok (.aload_n 0, 1) := by decide +kernel
theorem dX0_take_17 : decode cX0_take 17 = .ok (.aload_n 1, 1) := by decide +kernel
theorem dX0_take_18 : decode cX0_take 18 = .ok (.getfield 19, 3) := by decide +kernel
theorem dX0_take_21 : decode cX0_take 21 = .ok (.putfield 19, 3) := by decide +kernel
theorem dX0_take_24 : decode cX0_take 24 = .ok (.aload_n 0, 1) := by decide +kernel
theorem dX0_take_25 : decode cX0_take 25 = .ok (.aload_n 1, 1) := by decide +kernel
theorem dX0_take_26 : decode cX0_take 26 = .ok (.getfield 23, 3) := by decide +kernel
theorem dX0_take_29 : decode cX0_take 29 = .ok (.putfield 23, 3) := by decide +kernel
theorem dX0_take_32 : decode cX0_take 32 = .ok (.return_, 1) := by decide +kernel
theorem dX0_isZero_0 : decode cX0_isZero 0 = .ok (.aload_n 0, 1) := by decide +kernel
theorem dX0_isZero_1 : decode cX0_isZero 1 = .ok (.getfield 9, 3) := by decide +kernel
theorem dX0_isZero_4 : decode cX0_isZero 4 = .ok (.ifCond .ne 16, 3) := by decide +kernel
theorem dX0_isZero_7 : decode cX0_isZero 7 = .ok (.aload_n 0, 1) := by decide +kernel
theorem dX0_isZero_8 : decode cX0_isZero 8 = .ok (.getfield 19, 3) := by decide +kernel
theorem dX0_isZero_11 : decode cX0_isZero 11 = .ok (.lconst 0, 1) := by decide +kernel
theorem dX0_isZero_12 : decode cX0_isZero 12 = .ok (.lcmp, 1) := by decide +kernel
theorem dX0_isZero_13 : decode cX0_isZero 13 = .ok (.ifCond .ne 7, 3) := by decide +kernel
theorem dX0_isZero_16 : decode cX0_isZero 16 = .ok (.iconst 1, 1) := by decide +kernel
theorem dX0_isZero_17 : decode cX0_isZero 17 = .ok (.goto 4, 3) := by decide +kernel
theorem dX0_isZero_20 : decode cX0_isZero 20 = .ok (.iconst 0, 1) := by decide +kernel
theorem dX0_isZero_21 : decode cX0_isZero 21 = .ok (.ireturn, 1) := by decide +kernel
theorem dX0_side_0 : decode cX0_side 0 = .ok (.aload_n 0, 1) := by decide +kernel
theorem dX0_side_1 : decode cX0_side 1 = .ok (.invokevirtual 26, 3) := by decide +kernel
theorem dX0_side_4 : decode cX0_side 4 = .ok (.ifCond .eq 5, 3) := by decide +kernel
theorem dX0_side_7 : decode cX0_side 7 = .ok (.iconst 0, 1) := by decide +kernel
theorem dX0_side_8 : decode cX0_side 8 = .ok (.ireturn, 1) := by decide +kernel
theorem dX0_side_9 : decode cX0_side 9 = .ok (.aload_n 0, 1) := by decide +kernel
theorem dX0_side_10 : decode cX0_side 10 = .ok (.getfield 15, 3) := by decide +kernel
theorem dX0_side_13 : decode cX0_side 13 = .ok (.ifCond .eq 7, 3) := by decide +kernel
theorem dX0_side_16 : decode cX0_side 16 = .ok (.iconst (-1), 1) := by decide +kernel
theorem dX0_side_17 : decode cX0_side 17 = .ok (.goto 4, 3) := by decide +kernel
theorem dX0_side_20 : decode cX0_side 20 = .ok (.iconst 1, 1) := by decide +kernel
theorem dX0_side_21 : decode cX0_side 21 = .ok (.ireturn, 1) := by decide +kernel
theorem dX1_init_0 : decode cX1_init 0 = .ok (.aload_n 0, 1) := by decide +kernel
theorem dX1_init_1 : decode cX1_init 1 = .ok (.invokespecial 3, 3) := by decide +kernel
theorem dX1_init_4 : decode cX1_init 4 = .ok (.return_, 1) := by decide +kernel
theorem dX1_isZero_0 : decode cX1_isZero 0 = .ok (.aload_n 0, 1) := by decide +kernel
theorem dX1_isZero_1 : decode cX1_isZero 1 = .ok (.getfield 9, 3) := by decide +kernel
theorem dX1_isZero_4 : decode cX1_isZero 4 = .ok (.lconst 0, 1) := by decide +kernel
theorem dX1_isZero_5 : decode cX1_isZero 5 = .ok (.lcmp, 1) := by decide +kernel
theorem dX1_isZero_6 : decode cX1_isZero 6 = .ok (.ifCond .ne 23, 3) := by decide +kernel
theorem dX1_isZero_9 : decode cX1_isZero 9 = .ok (.aload_n 0, 1) := by decide +kernel
theorem dX1_isZero_10 : decode cX1_isZero 10 = .ok (.getfield 15, 3) := by decide +kernel
theorem dX1_isZero_13 : decode cX1_isZero 13 = .ok (.lconst 0, 1) := by decide +kernel
theorem dX1_isZero_14 : decode cX1_isZero 14 = .ok (.lcmp, 1) := by decide +kernel
theorem dX1_isZero_15 : decode cX1_isZero 15 = .ok (.ifCond .ne 14, 3) := by decide +kernel
theorem dX1_isZero_18 : decode cX1_isZero 18 = .ok (.aload_n 0, 1) := by decide +kernel
theorem dX1_isZero_19 : decode cX1_isZero 19 = .ok (.getfield 18, 3) := by decide +kernel
theorem dX1_isZero_22 : decode cX1_isZero 22 = .ok (.ifCond .ne 7, 3) := by decide +kernel
theorem dX1_isZero_25 : decode cX1_isZero 25 = .ok (.iconst 1, 1) := by decide +kernel
theorem dX1_isZero_26 : decode cX1_isZero 26 = .ok (.goto 4, 3) := by decide +kernel
theorem dX1_isZero_29 : decode cX1_isZero 29 = .ok (.iconst 0, 1) := by decide +kernel
theorem dX1_isZero_30 : decode cX1_isZero 30 = .ok (.ireturn, 1) := by decide +kernel
theorem dX1_digits_0 : decode cX1_digits 0 = .ok (.aload_n 0, 1) := by decide +kernel
theorem dX1_digits_1 : decode cX1_digits 1 = .ok (.getfield 9, 3) := by decide +kernel
theorem dX1_digits_4 : decode cX1_digits 4 = .ok (.lconst 0, 1) := by decide +kernel
theorem dX1_digits_5 : decode cX1_digits 5 = .ok (.lcmp, 1) := by decide +kernel
theorem dX1_digits_6 : decode cX1_digits 6 = .ok (.ifCond .eq 16, 3) := by decide +kernel
theorem dX1_digits_9 : decode cX1_digits 9 = .ok (.bipush 16, 2) := by decide +kernel
theorem dX1_digits_11 : decode cX1_digits 11 = .ok (.aload_n 0, 1) := by decide +kernel
theorem dX1_digits_12 : decode cX1_digits 12 = .ok (.getfield 9, 3) := by decide +kernel
theorem dX1_digits_15 : decode cX1_digits 15 = .ok (.invokestatic 22, 3) := by decide +kernel
theorem dX1_digits_18 : decode cX1_digits 18 = .ok (.iadd, 1) := by decide +kernel
theorem dX1_digits_19 : decode cX1_digits 19 = .ok (.goto 10, 3) := by decide +kernel
theorem dX1_digits_22 : decode cX1_digits 22 = .ok (.aload_n 0, 1) := by decide +kernel
theorem dX1_digits_23 : decode cX1_digits 23 = .ok (.getfield 15, 3) := by decide +kernel
theorem dX1_digits_26 : decode cX1_digits 26 = .ok (.invokestatic 22, 3) := by decide +kernel
theorem dX1_digits_29 : decode cX1_digits 29 = .ok (.ireturn, 1) := by decide +kernel
theorem dX1_setWhole_0 : decode cX1_setWhole 0 = .ok (.aload_n 0, 1) := by decide +kernel
theorem dX1_setWhole_1 : decode cX1_setWhole 1 = .ok (.aload_n 1, 1) := by decide +kernel
theorem dX1_setWhole_2 : decode cX1_setWhole 2 = .ok (.getfield 26, 3) := by decide +kernel
theorem dX1_setWhole_5 : decode cX1_setWhole 5 = .ok (.putfield 31, 3) := by decide +kernel
theorem dX1_setWhole_8 : decode cX1_setWhole 8 = .ok (.aload_n 0, 1) := by decide +kernel
theorem dX1_setWhole_9 : decode cX1_setWhole 9 = .ok (.lconst 0, 1) := by decide +kernel
theorem dX1_setWhole_10 : decode cX1_setWhole 10 = .ok (.putfield 9, 3) := by decide +kernel
theorem dX1_setWhole_13 : decode cX1_setWhole 13 = .ok (.aload_n 0, 1) := by decide +kernel
theorem dX1_setWhole_14 : decode cX1_setWhole 14 = .ok (.aload_n 1, 1) := by decide +kernel
theorem dX1_setWhole_15 : decode cX1_setWhole 15 = .ok (.getfield 32, 3) := by decide +kernel
theorem dX1_setWhole_18 : decode cX1_setWhole 18 = .ok (.putfield 15, 3) := by decide +kernel
theorem dX1_setWhole_21 : decode cX1_setWhole 21 = .ok (.aload_n 0, 1) := by decide +kernel
theorem dX1_setWhole_22 : decode cX1_setWhole 22 = .ok (.aload_n 1, 1) := by decide +kernel
theorem dX1_setWhole_23 : decode cX1_setWhole 23 = .ok (.getfield 35, 3) := by decide +kernel
theorem dX1_setWhole_26 : decode cX1_setWhole 26 = .ok (.putfield 39, 3) := by decide +kernel
theorem dX1_setWhole_29 : decode cX1_setWhole 29 = .ok (.aload_n 0, 1) := by decide +kernel
theorem dX1_setWhole_30 : decode cX1_setWhole 30 = .ok (.iconst 0, 1) := by decide +kernel
theorem dX1_setWhole_31 : decode cX1_setWhole 31 = .ok (.putfield 18, 3) := by decide +kernel
theorem dX1_setWhole_34 : decode cX1_setWhole 34 = .ok (.return_, 1) := by decide +kernel
theorem dX1_setSum_0 : decode cX1_setSum 0 = .ok (.aload_n 1, 1) := by decide +kernel
theorem dX1_setSum_1 : decode cX1_setSum 1 = .ok (.getfield 26, 3) := by decide +kernel
theorem dX1_setSum_4 : decode cX1_setSum 4 = .ok (.iload_n 3, 1) := by decide +kernel
theorem dX1_setSum_5 : decode cX1_setSum 5 = .ok (.if_icmp .ne 7, 3) := by decide +kernel
theorem dX1_setSum_8 : decode cX1_setSum 8 = .ok (.iconst 1, 1) := by decide +kernel
theorem dX1_setSum_9 : decode cX1_setSum 9 = .ok (.goto 4, 3) := by decide +kernel
theorem dX1_setSum_12 : decode cX1_setSum 12 = .ok (.iconst 0, 1) := by decide +kernel
theorem dX1_setSum_13 : decode cX1_setSum 13 = .ok (.istore 5, 2) := by decide +kernel
theorem dX1_setSum_15 : decode cX1_setSum 15 = .ok (.aload_n 1, 1) := by decide +kernel
theorem dX1_setSum_16 : decode cX1_setSum 16 = .ok (.invokevirtual 42, 3) := by decide +kernel
theorem dX1_setSum_19 : decode cX1_setSum 19 = .ok (.ifCond .eq 16, 3) := by decide +kernel
theorem dX1_setSum_22 : decode cX1_setSum 22 = .ok (.aload_n 0, 1) := by decide +kernel
theorem dX1_setSum_23 : decode cX1_setSum 23 = .ok (.aload_n 2, 1) := by decide +kernel
theorem dX1_setSum_24 : decode cX1_setSum 24 = .ok (.invokevirtual 46, 3) := by decide +kernel
theorem dX1_setSum_27 : decode cX1_setSum 27 = .ok (.aload_n 0, 1) := by decide +kernel
theorem dX1_setSum_28 : decode cX1_setSum 28 = .ok (.iload_n 3, 1) := by decide +kernel
theorem dX1_setSum_29 : decode cX1_setSum 29 = .ok (.putfield 31, 3) := by decide +kernel
theorem dX1_setSum_32 : decode cX1_setSum 32 = .ok (.goto 85, 3) := by decide +kernel
theorem dX1_setSum_35 : decode cX1_setSum 35 = .ok (.aload_n 2, 1) := by decide +kernel
theorem dX1_setSum_36 : decode cX1_setSum 36 = .ok (.invokevirtual 42, 3) := by decide +kernel
theorem dX1_setSum_39 : decode cX1_setSum 39 = .ok (.ifCond .eq 11, 3) := by decide +kernel
theorem dX1_setSum_42 : decode cX1_setSum 42 = .ok (.aload_n 0, 1) := by decide +kernel
theorem dX1_setSum_43 : decode cX1_setSum 43 = .ok (.aload_n 1, 1) := by decide +kernel
theorem dX1_setSum_44 : decode cX1_setSum 44 = .ok (.invokevirtual 46, 3) := by decide +kernel
theorem dX1_setSum_47 : decode cX1_setSum 47 = .ok (.goto 70, 3) := by decide +kernel
theorem dX1_setSum_50 : decode cX1_setSum 50 = .ok (.aload_n 1, 1) := by decide +kernel
theorem dX1_setSum_51 : decode cX1_setSum 51 = .ok (.getfield 35, 3) := by decide +kernel
theorem dX1_setSum_54 : decode cX1_setSum 54 = .ok (.aload_n 2, 1) := by decide +kernel
theorem dX1_setSum_55 : decode cX1_setSum 55 = .ok (.getfield 35, 3) := by decide +kernel
theorem dX1_setSum_58 : decode cX1_setSum 58 = .ok (.if_icmp .lt 34, 3) := by decide +kernel
theorem dX1_setSum_61 : decode cX1_setSum 61 = .ok (.aload_n 0, 1) := by decide +kernel
theorem dX1_setSum_62 : decode cX1_setSum 62 = .ok (.aload_n 1, 1) := by decide +kernel
theorem dX1_setSum_63 : decode cX1_setSum 63 = .ok (.aload_n 2, 1) := by decide +kernel
theorem dX1_setSum_64 : decode cX1_setSum 64 = .ok (.iload 5, 2) := by decide +kernel
theorem dX1_setSum_66 : decode cX1_setSum 66 = .ok (.invokevirtual 50, 3) := by decide +kernel
theorem dX1_setSum_69 : decode cX1_setSum 69 = .ok (.aload_n 0, 1) := by decide +kernel
theorem dX1_setSum_70 : decode cX1_setSum 70 = .ok (.aload_n 1, 1) := by decide +kernel
theorem dX1_setSum_71 : decode cX1_setSum 71 = .ok (.getfield 26, 3) := by decide +kernel
theorem dX1_setSum_74 : decode cX1_setSum 74 = .ok (.aload_n 0, 1) := by decide +kernel
theorem dX1_setSum_75 : decode cX1_setSum 75 = .ok (.getfield 31, 3) := by decide +kernel
theorem dX1_setSum_78 : decode cX1_setSum 78 = .ok (.if_icmp .eq 7, 3) := by decide +kernel
theorem dX1_setSum_81 : decode cX1_setSum 81 = .ok (.iconst 1, 1) := by decide +kernel
theorem dX1_setSum_82 : decode cX1_setSum 82 = .ok (.goto 4, 3) := by decide +kernel
theorem dX1_setSum_85 : decode cX1_setSum 85 = .ok (.iconst 0, 1) := by decide +kernel
theorem dX1_setSum_86 : decode cX1_setSum 86 = .ok (.putfield 31, 3) := by decide +kernel
theorem dX1_setSum_89 : decode cX1_setSum 89 = .ok (.goto 28, 3) := by decide +kernel
theorem dX1_setSum_92 : decode cX1_setSum 92 = .ok (.aload_n 0, 1) := by decide +kernel
theorem dX1_setSum_93 : decode cX1_setSum 93 = .ok (.aload_n 2, 1) := by decide +kernel
theorem dX1_setSum_94 : decode cX1_setSum 94 = .ok (.aload_n 1, 1) := by decide +kernel
theorem dX1_setSum_95 : decode cX1_setSum 95 = .ok (.iload 5, 2) := by decide +kernel
theorem dX1_setSum_97 : decode cX1_setSum 97 = .ok (.invokevirtual 50, 3) := by decide +kernel
theorem dX1_setSum_100 : decode cX1_setSum 100 = .ok (.aload_n 0, 1) := by decide +kernel
theorem dX1_setSum_101 : decode cX1_setSum 101 = .ok (.iload_n 3, 1) := by decide +kernel
theorem dX1_setSum_102 : decode cX1_setSum 102 = .ok (.aload_n 0, 1) := by decide +kernel
theorem dX1_setSum_103 : decode cX1_setSum 103 = .ok (.getfield 31, 3) := by decide +kernel
theorem dX1_setSum_106 : decode cX1_setSum 106 = .ok (.if_icmp .eq 7, 3) := by decide +kernel
theorem dX1_setSum_109 : decode cX1_setSum 109 = .ok (.iconst 1, 1) := by decide +kernel
theorem dX1_setSum_110 : decode cX1_setSum 110 = .ok (.goto 4, 3) := by decide +kernel
theorem dX1_setSum_113 : decode cX1_setSum 113 = .ok (.iconst 0, 1) := by decide +kernel
theorem dX1_setSum_114 : decode cX1_setSum 114 = .ok (.putfield 31, 3) := by decide +kernel
theorem dX1_setSum_117 : decode cX1_setSum 117 = .ok (.aload_n 0, 1) := by decide +kernel
theorem dX1_setSum_118 : decode cX1_setSum 118 = .ok (.invokevirtual 54, 3) := by decide +kernel
theorem dX1_setSum_121 : decode cX1_setSum 121 = .ok (.ifCond .eq 18, 3) := by decide +kernel
theorem dX1_setSum_124 : decode cX1_setSum 124 = .ok (.aload_n 0, 1) := by decide +kernel
theorem dX1_setSum_125 : decode cX1_setSum 125 = .ok (.iload 5, 2) := by decide +kernel
theorem dX1_setSum_127 : decode cX1_setSum 127 = .ok (.ifCond .eq 7, 3) := by decide +kernel
theorem dX1_setSum_130 : decode cX1_setSum 130 = .ok (.iload_n 3, 1) := by decide +kernel
theorem dX1_setSum_131 : decode cX1_setSum 131 = .ok (.goto 5, 3) := by decide +kernel
theorem dX1_setSum_134 : decode cX1_setSum 134 = .ok (.iload 4, 2) := by decide +kernel
theorem dX1_setSum_136 : decode cX1_setSum 136 = .ok (.putfield 31, 3) := by decide +kernel
theorem dX1_setSum_139 : decode cX1_setSum 139 = .ok (.aload_n 0, 1) := by decide +kernel
theorem dX1_setSum_140 : decode cX1_setSum 140 = .ok (.aload_n 1, 1) := by decide +kernel
theorem dX1_setSum_141 : decode cX1_setSum 141 = .ok (.getfield 35, 3) := by decide +kernel
theorem dX1_setSum_144 : decode cX1_setSum 144 = .ok (.aload_n 2, 1) := by decide +kernel
theorem dX1_setSum_145 : decode cX1_setSum 145 = .ok (.getfield 35, 3) := by decide +kernel
theorem dX1_setSum_148 : decode cX1_setSum 148 = .ok (.invokestatic 55, 3) := by decide +kernel
theorem dX1_setSum_151 : decode cX1_setSum 151 = .ok (.putfield 61, 3) := by decide +kernel
theorem dX1_setSum_154 : decode cX1_setSum 154 = .ok (.return_, 1) := by decide +kernel
theorem dX1_join_0 : decode cX1_join 0 = .ok (.aload_n 1, 1) := by decide +kernel
theorem dX1_join_1 : decode cX1_join 1 = .ok (.getfield 35, 3) := by decide +kernel
theorem dX1_join_4 : decode cX1_join 4 = .ok (.aload_n 2, 1) := by decide +kernel
theorem dX1_join_5 : decode cX1_join 5 = .ok (.getfield 35, 3) := by decide +kernel
theorem dX1_join_8 : decode cX1_join 8 = .ok (.isub, 1) := by decide +kernel
theorem dX1_join_9 : decode cX1_join 9 = .ok (.istore 4, 2) := by decide +kernel
theorem dX1_join_11 : decode cX1_join 11 = .ok (.iload 4, 2) := by decide +kernel
theorem dX1_join_13 : decode cX1_join 13 = .ok (.bipush 16, 2) := by decide +kernel
theorem dX1_join_15 : decode cX1_join 15 = .ok (.aload_n 1, 1) := by decide +kernel
theorem dX1_join_16 : decode cX1_join 16 = .ok (.getfield 32, 3) := by decide +kernel
theorem dX1_join_19 : decode cX1_join 19 = .ok (.invokestatic 22, 3) := by decide +kernel
theorem dX1_join_22 : decode cX1_join 22 = .ok (.isub, 1) := by decide +kernel
theorem dX1_join_23 : decode cX1_join 23 = .ok (.invokestatic 55, 3) := by decide +kernel
theorem dX1_join_26 : decode cX1_join 26 = .ok (.istore 5, 2) := by decide +kernel
theorem dX1_join_28 : decode cX1_join 28 = .ok (.iload 4, 2) := by decide +kernel
theorem dX1_join_30 : decode cX1_join 30 = .ok (.iload 5, 2) := by decide +kernel
theorem dX1_join_32 : decode cX1_join 32 = .ok (.isub, 1) := by decide +kernel
theorem dX1_join_33 : decode cX1_join 33 = .ok (.bipush 16, 2) := by decide +kernel
theorem dX1_join_35 : decode cX1_join 35 = .ok (.invokestatic 55, 3) := by decide +kernel
theorem dX1_join_38 : decode cX1_join 38 = .ok (.istore 6, 2) := by decide +kernel
theorem dX1_join_40 : decode cX1_join 40 = .ok (.aload_n 1, 1) := by decide +kernel
theorem dX1_join_41 : decode cX1_join 41 = .ok (.getfield 32, 3) := by decide +kernel
theorem dX1_join_44 : decode cX1_join 44 = .ok (.iload 5, 2) := by decide +kernel
theorem dX1_join_46 : decode cX1_join 46 = .ok (.invokestatic 64, 3) := by decide +kernel
theorem dX1_join_49 : decode cX1_join 49 = .ok (.lmul, 1) := by decide +kernel
theorem dX1_join_50 : decode cX1_join 50 = .ok (.lstore 7, 2) := by decide +kernel
theorem dX1_join_52 : decode cX1_join 52 = .ok (.aload_n 0, 1) := by decide +kernel
theorem dX1_join_53 : decode cX1_join 53 = .ok (.lload 7, 2) := by decide +kernel
theorem dX1_join_55 : decode cX1_join 55 = .ok (.bipush 16, 2) := by decide +kernel
theorem dX1_join_57 : decode cX1_join 57 = .ok (.iload 6, 2) := by decide +kernel
theorem dX1_join_59 : decode cX1_join 59 = .ok (.isub, 1) := by decide +kernel
theorem dX1_join_60 : decode cX1_join 60 = .ok (.invokestatic 64, 3) := by decide +kernel
theorem dX1_join_63 : decode cX1_join 63 = .ok (.ldiv, 1) := by decide +kernel
theorem dX1_join_64 : decode cX1_join 64 = .ok (.putfield 9, 3) := by decide +kernel
theorem dX1_join_67 : decode cX1_join 67 = .ok (.aload_n 0, 1) := by decide +kernel
theorem dX1_join_68 : decode cX1_join 68 = .ok (.lload 7, 2) := by decide +kernel
theorem dX1_join_70 : decode cX1_join 70 = .ok (.bipush 16, 2) := by decide +kernel
theorem dX1_join_72 : decode cX1_join 72 = .ok (.iload 6, 2) := by decide +kernel
theorem dX1_join_74 : decode cX1_join 74 = .ok (.isub, 1) := by decide +kernel
theorem dX1_join_75 : decode cX1_join 75 = .ok (.invokestatic 64, 3) := by decide +kernel
theorem dX1_join_78 : decode cX1_join 78 = .ok (.lrem, 1) := by decide +kernel
theorem dX1_join_79 : decode cX1_join 79 = .ok (.iload 6, 2) := by decide +kernel
theorem dX1_join_81 : decode cX1_join 81 = .ok (.invokestatic 64, 3) := by decide +kernel
theorem dX1_join_84 : decode cX1_join 84 = .ok (.lmul, 1) := by decide +kernel
theorem dX1_join_85 : decode cX1_join 85 = .ok (.putfield 15, 3) := by decide +kernel
theorem dX1_join_88 : decode cX1_join 88 = .ok (.aload_n 0, 1) := by decide +kernel
theorem dX1_join_89 : decode cX1_join 89 = .ok (.aload_n 1, 1) := by decide +kernel
theorem dX1_join_90 : decode cX1_join 90 = .ok (.getfield 35, 3) := by decide +kernel
theorem dX1_join_93 : decode cX1_join 93 = .ok (.iload 5, 2) := by decide +kernel
theorem dX1_join_95 : decode cX1_join 95 = .ok (.isub, 1) := by decide +kernel
theorem dX1_join_96 : decode cX1_join 96 = .ok (.iload 6, 2) := by decide +kernel
theorem dX1_join_98 : decode cX1_join 98 = .ok (.isub, 1) := by decide +kernel
theorem dX1_join_99 : decode cX1_join 99 = .ok (.putfield 39, 3) := by decide +kernel
theorem dX1_join_102 : decode cX1_join 102 = .ok (.iload 4, 2) := by decide +kernel
theorem dX1_join_104 : decode cX1_join 104 = .ok (.iload 5, 2) := by decide +kernel
theorem dX1_join_106 : decode cX1_join 106 = .ok (.isub, 1) := by decide +kernel
theorem dX1_join_107 : decode cX1_join 107 = .ok (.iload 6, 2) := by decide +kernel
theorem dX1_join_109 : decode cX1_join 109 = .ok (.isub, 1) := by decide +kernel
theorem dX1_join_110 : decode cX1_join 110 = .ok (.istore 9, 2) := by decide +kernel
theorem dX1_join_112 : decode cX1_join 112 = .ok (.iload 9, 2) := by decide +kernel
theorem dX1_join_114 : decode cX1_join 114 = .ok (.bipush 16, 2) := by decide +kernel
theorem dX1_join_116 : decode cX1_join 116 = .ok (.if_icmp .le 7, 3) := by decide +kernel
theorem dX1_join_119 : decode cX1_join 119 = .ok (.lconst 0, 1) := by decide +kernel
theorem dX1_join_120 : decode cX1_join 120 = .ok (.goto 13, 3) := by decide +kernel
theorem dX1_join_123 : decode cX1_join 123 = .ok (.aload_n 2, 1) := by decide +kernel
theorem dX1_join_124 : decode cX1_join 124 = .ok (.getfield 32, 3) := by decide +kernel
theorem dX1_join_127 : decode cX1_join 127 = .ok (.iload 9, 2) := by decide +kernel
theorem dX1_join_129 : decode cX1_join 129 = .ok (.invokestatic 64, 3) := by decide +kernel
theorem dX1_join_132 : decode cX1_join 132 = .ok (.ldiv, 1) := by decide +kernel
theorem dX1_join_133 : decode cX1_join 133 = .ok (.lstore 10, 2) := by decide +kernel
theorem dX1_join_135 : decode cX1_join 135 = .ok (.aload_n 0, 1) := by decide +kernel
theorem dX1_join_136 : decode cX1_join 136 = .ok (.iload 9, 2) := by decide +kernel
theorem dX1_join_138 : decode cX1_join 138 = .ok (.bipush 16, 2) := by decide +kernel
theorem dX1_join_140 : decode cX1_join 140 = .ok (.if_icmp .gt 18, 3) := by decide +kernel
theorem dX1_join_143 : decode cX1_join 143 = .ok (.aload_n 2, 1) := by decide +kernel
theorem dX1_join_144 : decode cX1_join 144 = .ok (.getfield 32, 3) := by decide +kernel
theorem dX1_join_147 : decode cX1_join 147 = .ok (.iload 9, 2) := by decide +kernel
theorem dX1_join_149 : decode cX1_join 149 = .ok (.invokestatic 64, 3) := by decide +kernel
theorem dX1_join_152 : decode cX1_join 152 = .ok (.lrem, 1) := by decide +kernel
theorem dX1_join_153 : decode cX1_join 153 = .ok (.lconst 0, 1) := by decide +kernel
theorem dX1_join_154 : decode cX1_join 154 = .ok (.lcmp, 1) := by decide +kernel
theorem dX1_join_155 : decode cX1_join 155 = .ok (.ifCond .eq 7, 3) := by decide +kernel
theorem dX1_join_158 : decode cX1_join 158 = .ok (.iconst 1, 1) := by decide +kernel
theorem dX1_join_159 : decode cX1_join 159 = .ok (.goto 4, 3) := by decide +kernel
theorem dX1_join_162 : decode cX1_join 162 = .ok (.iconst 0, 1) := by decide +kernel
theorem dX1_join_163 : decode cX1_join 163 = .ok (.putfield 18, 3) := by decide +kernel
theorem dX1_join_166 : decode cX1_join 166 = .ok (.aload_n 0, 1) := by decide +kernel
theorem dX1_join_167 : decode cX1_join 167 = .ok (.iconst 0, 1) := by decide +kernel
theorem dX1_join_168 : decode cX1_join 168 = .ok (.putfield 31, 3) := by decide +kernel
theorem dX1_join_171 : decode cX1_join 171 = .ok (.iload_n 3, 1) := by decide +kernel
theorem dX1_join_172 : decode cX1_join 172 = .ok (.ifCond .eq 12, 3) := by decide +kernel
theorem dX1_join_175 : decode cX1_join 175 = .ok (.aload_n 0, 1) := by decide +kernel
theorem dX1_join_176 : decode cX1_join 176 = .ok (.lload 10, 2) := by decide +kernel
theorem dX1_join_178 : decode cX1_join 178 = .ok (.invokevirtual 68, 3) := by decide +kernel
theorem dX1_join_181 : decode cX1_join 181 = .ok (.goto 63, 3) := by decide +kernel
theorem dX1_join_184 : decode cX1_join 184 = .ok (.aload_n 0, 1) := by decide +kernel
theorem dX1_join_185 : decode cX1_join 185 = .ok (.getfield 9, 3) := by decide +kernel
theorem dX1_join_188 : decode cX1_join 188 = .ok (.lconst 0, 1) := by decide +kernel
theorem dX1_join_189 : decode cX1_join 189 = .ok (.lcmp, 1) := by decide +kernel
theorem dX1_join_190 : decode cX1_join 190 = .ok (.ifCond .ne 32, 3) := by decide +kernel
theorem dX1_join_193 : decode cX1_join 193 = .ok (.aload_n 0, 1) := by decide +kernel
theorem dX1_join_194 : decode cX1_join 194 = .ok (.getfield 15, 3) := by decide +kernel
theorem dX1_join_197 : decode cX1_join 197 = .ok (.lload 10, 2) := by decide +kernel
theorem dX1_join_199 : decode cX1_join 199 = .ok (.lcmp, 1) := by decide +kernel
theorem dX1_join_200 : decode cX1_join 200 = .ok (.ifCond .ge 22, 3) := by decide +kernel
theorem dX1_join_203 : decode cX1_join 203 = .ok (.aload_n 0, 1) := by decide +kernel
theorem dX1_join_204 : decode cX1_join 204 = .ok (.lload 10, 2) := by decide +kernel
theorem dX1_join_206 : decode cX1_join 206 = .ok (.aload_n 0, 1) := by decide +kernel
theorem dX1_join_207 : decode cX1_join 207 = .ok (.getfield 15, 3) := by decide +kernel
theorem dX1_join_210 : decode cX1_join 210 = .ok (.lsub, 1) := by decide +kernel
theorem dX1_join_211 : decode cX1_join 211 = .ok (.putfield 15, 3) := by decide +kernel
theorem dX1_join_214 : decode cX1_join 214 = .ok (.aload_n 0, 1) := by decide +kernel
theorem dX1_join_215 : decode cX1_join 215 = .ok (.iconst 1, 1) := by decide +kernel
theorem dX1_join_216 : decode cX1_join 216 = .ok (.putfield 31, 3) := by decide +kernel
theorem dX1_join_219 : decode cX1_join 219 = .ok (.goto 25, 3) := by decide +kernel
theorem dX1_join_222 : decode cX1_join 222 = .ok (.aload_n 0, 1) := by decide +kernel
theorem dX1_join_223 : decode cX1_join 223 = .ok (.aload_n 0, 1) := by decide +kernel
theorem dX1_join_224 : decode cX1_join 224 = .ok (.getfield 18, 3) := by decide +kernel
theorem dX1_join_227 : decode cX1_join 227 = .ok (.ifCond .eq 11, 3) := by decide +kernel
theorem dX1_join_230 : decode cX1_join 230 = .ok (.lload 10, 2) := by decide +kernel
theorem dX1_join_232 : decode cX1_join 232 = .ok (.lneg, 1) := by decide +kernel
theorem dX1_join_233 : decode cX1_join 233 = .ok (.lconst 1, 1) := by decide +kernel
theorem dX1_join_234 : decode cX1_join 234 = .ok (.lsub, 1) := by decide +kernel
theorem dX1_join_235 : decode cX1_join 235 = .ok (.goto 6, 3) := by decide +kernel
theorem dX1_join_238 : decode cX1_join 238 = .ok (.lload 10, 2) := by decide +kernel
theorem dX1_join_240 : decode cX1_join 240 = .ok (.lneg, 1) := by decide +kernel
theorem dX1_join_241 : decode cX1_join 241 = .ok (.invokevirtual 68, 3) := by decide +kernel
theorem dX1_join_244 : decode cX1_join 244 = .ok (.return_, 1) := by decide +kernel
theorem dX1_addToLow_0 : decode cX1_addToLow 0 = .ok (.aload_n 0, 1) := by decide +kernel
theorem dX1_addToLow_1 : decode cX1_addToLow 1 = .ok (.dup, 1) := by decide +kernel
theorem dX1_addToLow_2 : decode cX1_addToLow 2 = .ok (.getfield 15, 3) := by decide +kernel
theorem dX1_addToLow_5 : decode cX1_addToLow 5 = .ok (.lload_n 1, 1) := by decide +kernel
theorem dX1_addToLow_6 : decode cX1_addToLow 6 = .ok (.ladd, 1) := by decide +kernel
theorem dX1_addToLow_7 : decode cX1_addToLow 7 = .ok (.putfield 15, 3) := by decide +kernel
theorem dX1_addToLow_10 : decode cX1_addToLow 10 = .ok (.aload_n 0, 1) := by decide +kernel
theorem dX1_addToLow_11 : decode cX1_addToLow 11 = .ok (.getfield 15, 3) := by decide +kernel
theorem dX1_addToLow_14 : decode cX1_addToLow 14 = .ok (.ldc2_w 72, 3) := by decide +kernel
theorem dX1_addToLow_17 : decode cX1_addToLow 17 = .ok (.lcmp, 1) := by decide +kernel
theorem dX1_addToLow_18 : decode cX1_addToLow 18 = .ok (.ifCond .lt 28, 3) := by decide +kernel
theorem dX1_addToLow_21 : decode cX1_addToLow 21 = .ok (.aload_n 0, 1) := by decide +kernel
theorem dX1_addToLow_22 : decode cX1_addToLow 22 = .ok (.dup, 1) := by decide +kernel
theorem dX1_addToLow_23 : decode cX1_addToLow 23 = .ok (.getfield 15, 3) := by decide +kernel
theorem dX1_addToLow_26 : decode cX1_addToLow 26 = .ok (.ldc2_w 72, 3) := by decide +kernel
theorem dX1_addToLow_29 : decode cX1_addToLow 29 = .ok (.lsub, 1) := by decide +kernel
theorem dX1_addToLow_30 : decode cX1_addToLow 30 = .ok (.putfield 15, 3) := by decide +kernel
theorem dX1_addToLow_33 : decode cX1_addToLow 33 = .ok (.aload_n 0, 1) := by decide +kernel
theorem dX1_addToLow_34 : decode cX1_addToLow 34 = .ok (.dup, 1) := by decide +kernel
theorem dX1_addToLow_35 : decode cX1_addToLow 35 = .ok (.getfield 9, 3) := by decide +kernel
theorem dX1_addToLow_38 : decode cX1_addToLow 38 = .ok (.lconst 1, 1) := by decide +kernel
theorem dX1_addToLow_39 : decode cX1_addToLow 39 = .ok (.ladd, 1) := by decide +kernel
theorem dX1_addToLow_40 : decode cX1_addToLow 40 = .ok (.putfield 9, 3) := by decide +kernel
theorem dX1_addToLow_43 : decode cX1_addToLow 43 = .ok (.goto 34, 3) := by decide +kernel
theorem dX1_addToLow_46 : decode cX1_addToLow 46 = .ok (.aload_n 0, 1) := by decide +kernel
theorem dX1_addToLow_47 : decode cX1_addToLow 47 = .ok (.getfield 15, 3) := by decide +kernel
theorem dX1_addToLow_50 : decode cX1_addToLow 50 = .ok (.lconst 0, 1) := by decide +kernel
theorem dX1_addToLow_51 : decode cX1_addToLow 51 = .ok (.lcmp, 1) := by decide +kernel
theorem dX1_addToLow_52 : decode cX1_addToLow 52 = .ok (.ifCond .ge 25, 3) := by decide +kernel
theorem dX1_addToLow_55 : decode cX1_addToLow 55 = .ok (.aload_n 0, 1) := by decide +kernel
theorem dX1_addToLow_56 : decode cX1_addToLow 56 = .ok (.dup, 1) := by decide +kernel
theorem dX1_addToLow_57 : decode cX1_addToLow 57 = .ok (.getfield 15, 3) := by decide +kernel
theorem dX1_addToLow_60 : decode cX1_addToLow 60 = .ok (.ldc2_w 72, 3) := by decide +kernel
theorem dX1_addToLow_63 : decode cX1_addToLow 63 = .ok (.ladd, 1) := by decide +kernel
theorem dX1_addToLow_64 : decode cX1_addToLow 64 = .ok (.putfield 15, 3) := by decide +kernel
theorem dX1_addToLow_67 : decode cX1_addToLow 67 = .ok (.aload_n 0, 1) := by decide +kernel
theorem dX1_addToLow_68 : decode cX1_addToLow 68 = .ok (.dup, 1) := by decide +kernel
theorem dX1_addToLow_69 : decode cX1_addToLow 69 = .ok (.getfield 9, 3) := by decide +kernel
theorem dX1_addToLow_72 : decode cX1_addToLow 72 = .ok (.lconst 1, 1) := by decide +kernel
theorem dX1_addToLow_73 : decode cX1_addToLow 73 = .ok (.lsub, 1) := by decide +kernel
theorem dX1_addToLow_74 : decode cX1_addToLow 74 = .ok (.putfield 9, 3) := by decide +kernel
theorem dX1_addToLow_77 : decode cX1_addToLow 77 = .ok (.return_, 1) := by decide +kernel
theorem dX1_setProduct_0 : decode cX1_setProduct 0 = .ok (.aload_n 1, 1) := by decide +kernel
theorem dX1_setProduct_1 : decode cX1_setProduct 1 = .ok (.getfield 32, 3) := by decide +kernel
theorem dX1_setProduct_4 : decode cX1_setProduct 4 = .ok (.ldc2_w 74, 3) := by decide +kernel
theorem dX1_setProduct_7 : decode cX1_setProduct 7 = .ok (.ldiv, 1) := by decide +kernel
theorem dX1_setProduct_8 : decode cX1_setProduct 8 = .ok (.lstore_n 3, 1) := by decide +kernel
theorem dX1_setProduct_9 : decode cX1_setProduct 9 = .ok (.aload_n 1, 1) := by decide +kernel
theorem dX1_setProduct_10 : decode cX1_setProduct 10 = .ok (.getfield 32, 3) := by decide +kernel
theorem dX1_setProduct_13 : decode cX1_setProduct 13 = .ok (.ldc2_w 74, 3) := by decide +kernel
theorem dX1_setProduct_16 : decode cX1_setProduct 16 = .ok (.lrem, 1) := by decide +kernel
theorem dX1_setProduct_17 : decode cX1_setProduct 17 = .ok (.lstore 5, 2) := by decide +kernel
theorem dX1_setProduct_19 : decode cX1_setProduct 19 = .ok (.aload_n 2, 1) := by decide +kernel
theorem dX1_setProduct_20 : decode cX1_setProduct 20 = .ok (.getfield 32, 3) := by decide +kernel
theorem dX1_setProduct_23 : decode cX1_setProduct 23 = .ok (.ldc2_w 74, 3) := by decide +kernel
theorem dX1_setProduct_26 : decode cX1_setProduct 26 = .ok (.ldiv, 1) := by decide +kernel
theorem dX1_setProduct_27 : decode cX1_setProduct 27 = .ok (.lstore 7, 2) := by decide +kernel
theorem dX1_setProduct_29 : decode cX1_setProduct 29 = .ok (.aload_n 2, 1) := by decide +kernel
theorem dX1_setProduct_30 : decode cX1_setProduct 30 = .ok (.getfield 32, 3) := by decide +kernel
theorem dX1_setProduct_33 : decode cX1_setProduct 33 = .ok (.ldc2_w 74, 3) := by decide +kernel
theorem dX1_setProduct_36 : decode cX1_setProduct 36 = .ok (.lrem, 1) := by decide +kernel
theorem dX1_setProduct_37 : decode cX1_setProduct 37 = .ok (.lstore 9, 2) := by decide +kernel
theorem dX1_setProduct_39 : decode cX1_setProduct 39 = .ok (.lload_n 3, 1) := by decide +kernel
theorem dX1_setProduct_40 : decode cX1_setProduct 40 = .ok (.lload 9, 2) := by decide +kernel
theorem dX1_setProduct_42 : decode cX1_setProduct 42 = .ok (.lmul, 1) := by decide +kernel
theorem dX1_setProduct_43 : decode cX1_setProduct 43 = .ok (.lload 5, 2) := by decide +kernel
theorem dX1_setProduct_45 : decode cX1_setProduct 45 = .ok (.lload 7, 2) := by decide +kernel
theorem dX1_setProduct_47 : decode cX1_setProduct 47 = .ok (.lmul, 1) := by decide +kernel
theorem dX1_setProduct_48 : decode cX1_setProduct 48 = .ok (.ladd, 1) := by decide +kernel
theorem dX1_setProduct_49 : decode cX1_setProduct 49 = .ok (.lstore 11, 2) := by decide +kernel
theorem dX1_setProduct_51 : decode cX1_setProduct 51 = .ok (.aload_n 0, 1) := by decide +kernel
theorem dX1_setProduct_52 : decode cX1_setProduct 52 = .ok (.aload_n 1, 1) := by decide +kernel
theorem dX1_setProduct_53 : decode cX1_setProduct 53 = .ok (.getfield 26, 3) := by decide +kernel
theorem dX1_setProduct_56 : decode cX1_setProduct 56 = .ok (.aload_n 2, 1) := by decide +kernel
theorem dX1_setProduct_57 : decode cX1_setProduct 57 = .ok (.getfield 26, 3) := by decide +kernel
theorem dX1_setProduct_60 : decode cX1_setProduct 60 = .ok (.if_icmp .eq 7, 3) := by decide +kernel
theorem dX1_setProduct_63 : decode cX1_setProduct 63 = .ok (.iconst 1, 1) := by decide +kernel
theorem dX1_setProduct_64 : decode cX1_setProduct 64 = .ok (.goto 4, 3) := by decide +kernel
theorem dX1_setProduct_67 : decode cX1_setProduct 67 = .ok (.iconst 0, 1) := by decide +kernel
theorem dX1_setProduct_68 : decode cX1_setProduct 68 = .ok (.putfield 31, 3) := by decide +kernel
theorem dX1_setProduct_71 : decode cX1_setProduct 71 = .ok (.aload_n 0, 1) := by decide +kernel
theorem dX1_setProduct_72 : decode cX1_setProduct 72 = .ok (.lload_n 3, 1) := by decide +kernel
theorem dX1_setProduct_73 : decode cX1_setProduct 73 = .ok (.lload 7, 2) := by decide +kernel
theorem dX1_setProduct_75 : decode cX1_setProduct 75 = .ok (.lmul, 1) := by decide +kernel
theorem dX1_setProduct_76 : decode cX1_setProduct 76 = .ok (.lload 11, 2) := by decide +kernel
theorem dX1_setProduct_78 : decode cX1_setProduct 78 = .ok (.ldc2_w 74, 3) := by decide +kernel
theorem dX1_setProduct_81 : decode cX1_setProduct 81 = .ok (.ldiv, 1) := by decide +kernel
theorem dX1_setProduct_82 : decode cX1_setProduct 82 = .ok (.ladd, 1) := by decide +kernel
theorem dX1_setProduct_83 : decode cX1_setProduct 83 = .ok (.putfield 9, 3) := by decide +kernel
theorem dX1_setProduct_86 : decode cX1_setProduct 86 = .ok (.aload_n 0, 1) := by decide +kernel
theorem dX1_setProduct_87 : decode cX1_setProduct 87 = .ok (.lload 11, 2) := by decide +kernel
theorem dX1_setProduct_89 : decode cX1_setProduct 89 = .ok (.ldc2_w 74, 3) := by decide +kernel
theorem dX1_setProduct_92 : decode cX1_setProduct 92 = .ok (.lrem, 1) := by decide +kernel
theorem dX1_setProduct_93 : decode cX1_setProduct 93 = .ok (.ldc2_w 74, 3) := by decide +kernel
theorem dX1_setProduct_96 : decode cX1_setProduct 96 = .ok (.lmul, 1) := by decide +kernel
theorem dX1_setProduct_97 : decode cX1_setProduct 97 = .ok (.putfield 15, 3) := by decide +kernel
theorem dX1_setProduct_100 : decode cX1_setProduct 100 = .ok (.aload_n 0, 1) := by decide +kernel
theorem dX1_setProduct_101 : decode cX1_setProduct 101 = .ok (.lload 5, 2) := by decide +kernel
theorem dX1_setProduct_103 : decode cX1_setProduct 103 = .ok (.lload 9, 2) := by decide +kernel
theorem dX1_setProduct_105 : decode cX1_setProduct 105 = .ok (.lmul, 1) := by decide +kernel
theorem dX1_setProduct_106 : decode cX1_setProduct 106 = .ok (.invokevirtual 68, 3) := by decide +kernel
theorem dX1_setProduct_109 : decode cX1_setProduct 109 = .ok (.aload_n 0, 1) := by decide +kernel
theorem dX1_setProduct_110 : decode cX1_setProduct 110 = .ok (.aload_n 1, 1) := by decide +kernel
theorem dX1_setProduct_111 : decode cX1_setProduct 111 = .ok (.getfield 35, 3) := by decide +kernel
theorem dX1_setProduct_114 : decode cX1_setProduct 114 = .ok (.aload_n 2, 1) := by decide +kernel
theorem dX1_setProduct_115 : decode cX1_setProduct 115 = .ok (.getfield 35, 3) := by decide +kernel
theorem dX1_setProduct_118 : decode cX1_setProduct 118 = .ok (.iadd, 1) := by decide +kernel
theorem dX1_setProduct_119 : decode cX1_setProduct 119 = .ok (.putfield 39, 3) := by decide +kernel
theorem dX1_setProduct_122 : decode cX1_setProduct 122 = .ok (.aload_n 0, 1) := by decide +kernel
theorem dX1_setProduct_123 : decode cX1_setProduct 123 = .ok (.iconst 0, 1) := by decide +kernel
theorem dX1_setProduct_124 : decode cX1_setProduct 124 = .ok (.putfield 18, 3) := by decide +kernel
theorem dX1_setProduct_127 : decode cX1_setProduct 127 = .ok (.aload_n 0, 1) := by decide +kernel
theorem dX1_setProduct_128 : decode cX1_setProduct 128 = .ok (.aload_n 0, 1) := by decide +kernel
theorem dX1_setProduct_129 : decode cX1_setProduct 129 = .ok (.getfield 39, 3) := by decide +kernel
theorem dX1_setProduct_132 : decode cX1_setProduct 132 = .ok (.putfield 61, 3) := by decide +kernel
theorem dX1_setProduct_135 : decode cX1_setProduct 135 = .ok (.return_, 1) := by decide +kernel
theorem dX1_setQuotient_0 : decode cX1_setQuotient 0 = .ok (.lconst 1, 1) := by decide +kernel
theorem dX1_setQuotient_1 : decode cX1_setQuotient 1 = .ok (.aload_n 2, 1) := by decide +kernel
theorem dX1_setQuotient_2 : decode cX1_setQuotient 2 = .ok (.getfield 32, 3) := by decide +kernel
theorem dX1_setQuotient_5 : decode cX1_setQuotient 5 = .ok (.invokestatic 76, 3) := by decide +kernel
theorem dX1_setQuotient_8 : decode cX1_setQuotient 8 = .ok (.lstore_n 3, 1) := by decide +kernel
theorem dX1_setQuotient_9 : decode cX1_setQuotient 9 = .ok (.aload_n 1, 1) := by decide +kernel
theorem dX1_setQuotient_10 : decode cX1_setQuotient 10 = .ok (.getfield 32, 3) := by decide +kernel
theorem dX1_setQuotient_13 : decode cX1_setQuotient 13 = .ok (.lstore 5, 2) := by decide +kernel
theorem dX1_setQuotient_15 : decode cX1_setQuotient 15 = .ok (.aload_n 0, 1) := by decide +kernel
theorem dX1_setQuotient_16 : decode cX1_setQuotient 16 = .ok (.aload_n 1, 1) := by decide +kernel
theorem dX1_setQuotient_17 : decode cX1_setQuotient 17 = .ok (.getfield 26, 3) := by decide +kernel
theorem dX1_setQuotient_20 : decode cX1_setQuotient 20 = .ok (.aload_n 2, 1) := by decide +kernel
theorem dX1_setQuotient_21 : decode cX1_setQuotient 21 = .ok (.getfield 26, 3) := by decide +kernel
theorem dX1_setQuotient_24 : decode cX1_setQuotient 24 = .ok (.if_icmp .eq 7, 3) := by decide +kernel
theorem dX1_setQuotient_27 : decode cX1_setQuotient 27 = .ok (.iconst 1, 1) := by decide +kernel
theorem dX1_setQuotient_28 : decode cX1_setQuotient 28 = .ok (.goto 4, 3) := by decide +kernel
theorem dX1_setQuotient_31 : decode cX1_setQuotient 31 = .ok (.iconst 0, 1) := by decide +kernel
theorem dX1_setQuotient_32 : decode cX1_setQuotient 32 = .ok (.putfield 31, 3) := by decide +kernel
theorem dX1_setQuotient_35 : decode cX1_setQuotient 35 = .ok (.aload_n 0, 1) := by decide +kernel
theorem dX1_setQuotient_36 : decode cX1_setQuotient 36 = .ok (.aload_n 1, 1) := by decide +kernel
theorem dX1_setQuotient_37 : decode cX1_setQuotient 37 = .ok (.getfield 35, 3) := by decide +kernel
theorem dX1_setQuotient_40 : decode cX1_setQuotient 40 = .ok (.aload_n 2, 1) := by decide +kernel
theorem dX1_setQuotient_41 : decode cX1_setQuotient 41 = .ok (.getfield 35, 3) := by decide +kernel
theorem dX1_setQuotient_44 : decode cX1_setQuotient 44 = .ok (.isub, 1) := by decide +kernel
theorem dX1_setQuotient_45 : decode cX1_setQuotient 45 = .ok (.putfield 39, 3) := by decide +kernel
theorem dX1_setQuotient_48 : decode cX1_setQuotient 48 = .ok (.aload_n 0, 1) := by decide +kernel
theorem dX1_setQuotient_49 : decode cX1_setQuotient 49 = .ok (.aload_n 0, 1) := by decide +kernel
theorem dX1_setQuotient_50 : decode cX1_setQuotient 50 = .ok (.getfield 39, 3) := by decide +kernel
theorem dX1_setQuotient_53 : decode cX1_setQuotient 53 = .ok (.putfield 61, 3) := by decide +kernel
theorem dX1_setQuotient_56 : decode cX1_setQuotient 56 = .ok (.iconst 0, 1) := by decide +kernel
theorem dX1_setQuotient_57 : decode cX1_setQuotient 57 = .ok (.istore 7, 2) := by decide +kernel
theorem dX1_setQuotient_59 : decode cX1_setQuotient 59 = .ok (.iload 7, 2) := by decide +kernel
theorem dX1_setQuotient_61 : decode cX1_setQuotient 61 = .ok (.bipush 16, 2) := by decide +kernel
theorem dX1_setQuotient_63 : decode cX1_setQuotient 63 = .ok (.if_icmp .ge 34, 3) := by decide +kernel
theorem dX1_setQuotient_66 : decode cX1_setQuotient 66 = .ok (.lload 5, 2) := by decide +kernel
theorem dX1_setQuotient_68 : decode cX1_setQuotient 68 = .ok (.lload_n 3, 1) := by decide +kernel
theorem dX1_setQuotient_69 : decode cX1_setQuotient 69 = .ok (.lcmp, 1) := by decide +kernel
theorem dX1_setQuotient_70 : decode cX1_setQuotient 70 = .ok (.ifCond .ge 27, 3) := by decide +kernel
theorem dX1_setQuotient_73 : decode cX1_setQuotient 73 = .ok (.lload 5, 2) := by decide +kernel
theorem dX1_setQuotient_75 : decode cX1_setQuotient 75 = .ok (.ldc2_w 80, 3) := by decide +kernel
theorem dX1_setQuotient_78 : decode cX1_setQuotient 78 = .ok (.lmul, 1) := by decide +kernel
theorem dX1_setQuotient_79 : decode cX1_setQuotient 79 = .ok (.lstore 5, 2) := by decide +kernel
theorem dX1_setQuotient_81 : decode cX1_setQuotient 81 = .ok (.aload_n 0, 1) := by decide +kernel
theorem dX1_setQuotient_82 : decode cX1_setQuotient 82 = .ok (.dup, 1) := by decide +kernel
theorem dX1_setQuotient_83 : decode cX1_setQuotient 83 = .ok (.getfield 39, 3) := by decide +kernel
theorem dX1_setQuotient_86 : decode cX1_setQuotient 86 = .ok (.iconst 1, 1) := by decide +kernel
theorem dX1_setQuotient_87 : decode cX1_setQuotient 87 = .ok (.isub, 1) := by decide +kernel
theorem dX1_setQuotient_88 : decode cX1_setQuotient 88 = .ok (.putfield 39, 3) := by decide +kernel
theorem dX1_setQuotient_91 : decode cX1_setQuotient 91 = .ok (.iinc 7 1, 3) := by decide +kernel
theorem dX1_setQuotient_94 : decode cX1_setQuotient 94 = .ok (.goto (-35), 3) := by decide +kernel
theorem dX1_setQuotient_97 : decode cX1_setQuotient 97 = .ok (.aload_n 0, 1) := by decide +kernel
theorem dX1_setQuotient_98 : decode cX1_setQuotient 98 = .ok (.lload 5, 2) := by decide +kernel
theorem dX1_setQuotient_100 : decode cX1_setQuotient 100 = .ok (.lload_n 3, 1) := by decide +kernel
theorem dX1_setQuotient_101 : decode cX1_setQuotient 101 = .ok (.ldiv, 1) := by decide +kernel
theorem dX1_setQuotient_102 : decode cX1_setQuotient 102 = .ok (.putfield 9, 3) := by decide +kernel
theorem dX1_setQuotient_105 : decode cX1_setQuotient 105 = .ok (.lload 5, 2) := by decide +kernel
theorem dX1_setQuotient_107 : decode cX1_setQuotient 107 = .ok (.lload_n 3, 1) := by decide +kernel
theorem dX1_setQuotient_108 : decode cX1_setQuotient 108 = .ok (.lrem, 1) := by decide +kernel
theorem dX1_setQuotient_109 : decode cX1_setQuotient 109 = .ok (.lstore 5, 2) := by decide +kernel
theorem dX1_setQuotient_111 : decode cX1_setQuotient 111 = .ok (.aload_n 0, 1) := by decide +kernel
theorem dX1_setQuotient_112 : decode cX1_setQuotient 112 = .ok (.lconst 0, 1) := by decide +kernel
theorem dX1_setQuotient_113 : decode cX1_setQuotient 113 = .ok (.putfield 15, 3) := by decide +kernel
theorem dX1_setQuotient_116 : decode cX1_setQuotient 116 = .ok (.iconst 0, 1) := by decide +kernel
theorem dX1_setQuotient_117 : decode cX1_setQuotient 117 = .ok (.istore 7, 2) := by decide +kernel
theorem dX1_setQuotient_119 : decode cX1_setQuotient 119 = .ok (.iload 7, 2) := by decide +kernel
theorem dX1_setQuotient_121 : decode cX1_setQuotient 121 = .ok (.bipush 16, 2) := by decide +kernel
theorem dX1_setQuotient_123 : decode cX1_setQuotient 123 = .ok (.if_icmp .ge 50, 3) := by decide +kernel
theorem dX1_setQuotient_126 : decode cX1_setQuotient 126 = .ok (.lload 5, 2) := by decide +kernel
theorem dX1_setQuotient_128 : decode cX1_setQuotient 128 = .ok (.ldc2_w 80, 3) := by decide +kernel
theorem dX1_setQuotient_131 : decode cX1_setQuotient 131 = .ok (.lmul, 1) := by decide +kernel
theorem dX1_setQuotient_132 : decode cX1_setQuotient 132 = .ok (.lstore 5, 2) := by decide +kernel
theorem dX1_setQuotient_134 : decode cX1_setQuotient 134 = .ok (.aload_n 0, 1) := by decide +kernel
theorem dX1_setQuotient_135 : decode cX1_setQuotient 135 = .ok (.aload_n 0, 1) := by decide +kernel
theorem dX1_setQuotient_136 : decode cX1_setQuotient 136 = .ok (.getfield 15, 3) := by decide +kernel
theorem dX1_setQuotient_139 : decode cX1_setQuotient 139 = .ok (.ldc2_w 80, 3) := by decide +kernel
theorem dX1_setQuotient_142 : decode cX1_setQuotient 142 = .ok (.lmul, 1) := by decide +kernel
theorem dX1_setQuotient_143 : decode cX1_setQuotient 143 = .ok (.lload 5, 2) := by decide +kernel
theorem dX1_setQuotient_145 : decode cX1_setQuotient 145 = .ok (.lload_n 3, 1) := by decide +kernel
theorem dX1_setQuotient_146 : decode cX1_setQuotient 146 = .ok (.ldiv, 1) := by decide +kernel
theorem dX1_setQuotient_147 : decode cX1_setQuotient 147 = .ok (.ladd, 1) := by decide +kernel
theorem dX1_setQuotient_148 : decode cX1_setQuotient 148 = .ok (.putfield 15, 3) := by decide +kernel
theorem dX1_setQuotient_151 : decode cX1_setQuotient 151 = .ok (.lload 5, 2) := by decide +kernel
theorem dX1_setQuotient_153 : decode cX1_setQuotient 153 = .ok (.lload_n 3, 1) := by decide +kernel
theorem dX1_setQuotient_154 : decode cX1_setQuotient 154 = .ok (.lrem, 1) := by decide +kernel
theorem dX1_setQuotient_155 : decode cX1_setQuotient 155 = .ok (.lstore 5, 2) := by decide +kernel
theorem dX1_setQuotient_157 : decode cX1_setQuotient 157 = .ok (.aload_n 0, 1) := by decide +kernel
theorem dX1_setQuotient_158 : decode cX1_setQuotient 158 = .ok (.dup, 1) := by decide +kernel
theorem dX1_setQuotient_159 : decode cX1_setQuotient 159 = .ok (.getfield 39, 3) := by decide +kernel
theorem dX1_setQuotient_162 : decode cX1_setQuotient 162 = .ok (.iconst 1, 1) := by decide +kernel
theorem dX1_setQuotient_163 : decode cX1_setQuotient 163 = .ok (.isub, 1) := by decide +kernel
theorem dX1_setQuotient_164 : decode cX1_setQuotient 164 = .ok (.putfield 39, 3) := by decide +kernel
theorem dX1_setQuotient_167 : decode cX1_setQuotient 167 = .ok (.iinc 7 1, 3) := by decide +kernel
theorem dX1_setQuotient_170 : decode cX1_setQuotient 170 = .ok (.goto (-51), 3) := by decide +kernel
theorem dX1_setQuotient_173 : decode cX1_setQuotient 173 = .ok (.aload_n 0, 1) := by decide +kernel
theorem dX1_setQuotient_174 : decode cX1_setQuotient 174 = .ok (.lload 5, 2) := by decide +kernel
theorem dX1_setQuotient_176 : decode cX1_setQuotient 176 = .ok (.lconst 0, 1) := by decide +kernel
theorem dX1_setQuotient_177 : decode cX1_setQuotient 177 = .ok (.lcmp, 1) := by decide +kernel
theorem dX1_setQuotient_178 : decode cX1_setQuotient 178 = .ok (.ifCond .eq 7, 3) := by decide +kernel
theorem dX1_setQuotient_181 : decode cX1_setQuotient 181 = .ok (.iconst 1, 1) := by decide +kernel
theorem dX1_setQuotient_182 : decode cX1_setQuotient 182 = .ok (.goto 4, 3) := by decide +kernel
theorem dX1_setQuotient_185 : decode cX1_setQuotient 185 = .ok (.iconst 0, 1) := by decide +kernel
theorem dX1_setQuotient_186 : decode cX1_setQuotient 186 = .ok (.putfield 18, 3) := by decide +kernel
theorem dX1_setQuotient_189 : decode cX1_setQuotient 189 = .ok (.return_, 1) := by decide +kernel
theorem dX1_dropZeros_0 : decode cX1_dropZeros 0 = .ok (.aload_n 0, 1) := by decide +kernel
theorem dX1_dropZeros_1 : decode cX1_dropZeros 1 = .ok (.getfield 15, 3) := by decide +kernel
theorem dX1_dropZeros_4 : decode cX1_dropZeros 4 = .ok (.lconst 0, 1) := by decide +kernel
theorem dX1_dropZeros_5 : decode cX1_dropZeros 5 = .ok (.lcmp, 1) := by decide +kernel
theorem dX1_dropZeros_6 : decode cX1_dropZeros 6 = .ok (.ifCond .ne 27, 3) := by decide +kernel
theorem dX1_dropZeros_9 : decode cX1_dropZeros 9 = .ok (.aload_n 0, 1) := by decide +kernel
theorem dX1_dropZeros_10 : decode cX1_dropZeros 10 = .ok (.aload_n 0, 1) := by decide +kernel
theorem dX1_dropZeros_11 : decode cX1_dropZeros 11 = .ok (.getfield 9, 3) := by decide +kernel
theorem dX1_dropZeros_14 : decode cX1_dropZeros 14 = .ok (.putfield 15, 3) := by decide +kernel
theorem dX1_dropZeros_17 : decode cX1_dropZeros 17 = .ok (.aload_n 0, 1) := by decide +kernel
theorem dX1_dropZeros_18 : decode cX1_dropZeros 18 = .ok (.lconst 0, 1) := by decide +kernel
theorem dX1_dropZeros_19 : decode cX1_dropZeros 19 = .ok (.putfield 9, 3) := by decide +kernel
theorem dX1_dropZeros_22 : decode cX1_dropZeros 22 = .ok (.aload_n 0, 1) := by decide +kernel
theorem dX1_dropZeros_23 : decode cX1_dropZeros 23 = .ok (.dup, 1) := by decide +kernel
theorem dX1_dropZeros_24 : decode cX1_dropZeros 24 = .ok (.getfield 39, 3) := by decide +kernel
theorem dX1_dropZeros_27 : decode cX1_dropZeros 27 = .ok (.bipush 16, 2) := by decide +kernel
theorem dX1_dropZeros_29 : decode cX1_dropZeros 29 = .ok (.iadd, 1) := by decide +kernel
theorem dX1_dropZeros_30 : decode cX1_dropZeros 30 = .ok (.putfield 39, 3) := by decide +kernel
theorem dX1_dropZeros_33 : decode cX1_dropZeros 33 = .ok (.iconst 0, 1) := by decide +kernel
theorem dX1_dropZeros_34 : decode cX1_dropZeros 34 = .ok (.istore_n 1, 1) := by decide +kernel
theorem dX1_dropZeros_35 : decode cX1_dropZeros 35 = .ok (.iload_n 1, 1) := by decide +kernel
theorem dX1_dropZeros_36 : decode cX1_dropZeros 36 = .ok (.bipush 16, 2) := by decide +kernel
theorem dX1_dropZeros_38 : decode cX1_dropZeros 38 = .ok (.if_icmp .ge 78, 3) := by decide +kernel
theorem dX1_dropZeros_41 : decode cX1_dropZeros 41 = .ok (.aload_n 0, 1) := by decide +kernel
theorem dX1_dropZeros_42 : decode cX1_dropZeros 42 = .ok (.getfield 15, 3) := by decide +kernel
theorem dX1_dropZeros_45 : decode cX1_dropZeros 45 = .ok (.lconst 0, 1) := by decide +kernel
theorem dX1_dropZeros_46 : decode cX1_dropZeros 46 = .ok (.lcmp, 1) := by decide +kernel
theorem dX1_dropZeros_47 : decode cX1_dropZeros 47 = .ok (.ifCond .eq 69, 3) := by decide +kernel
theorem dX1_dropZeros_50 : decode cX1_dropZeros 50 = .ok (.aload_n 0, 1) := by decide +kernel
theorem dX1_dropZeros_51 : decode cX1_dropZeros 51 = .ok (.getfield 15, 3) := by decide +kernel
theorem dX1_dropZeros_54 : decode cX1_dropZeros 54 = .ok (.ldc2_w 80, 3) := by decide +kernel
theorem dX1_dropZeros_57 : decode cX1_dropZeros 57 = .ok (.lrem, 1) := by decide +kernel
theorem dX1_dropZeros_58 : decode cX1_dropZeros 58 = .ok (.lconst 0, 1) := by decide +kernel
theorem dX1_dropZeros_59 : decode cX1_dropZeros 59 = .ok (.lcmp, 1) := by decide +kernel
theorem dX1_dropZeros_60 : decode cX1_dropZeros 60 = .ok (.ifCond .ne 56, 3) := by decide +kernel
theorem dX1_dropZeros_63 : decode cX1_dropZeros 63 = .ok (.aload_n 0, 1) := by decide +kernel
theorem dX1_dropZeros_64 : decode cX1_dropZeros 64 = .ok (.aload_n 0, 1) := by decide +kernel
theorem dX1_dropZeros_65 : decode cX1_dropZeros 65 = .ok (.getfield 15, 3) := by decide +kernel
theorem dX1_dropZeros_68 : decode cX1_dropZeros 68 = .ok (.ldc2_w 80, 3) := by decide +kernel
theorem dX1_dropZeros_71 : decode cX1_dropZeros 71 = .ok (.ldiv, 1) := by decide +kernel
theorem dX1_dropZeros_72 : decode cX1_dropZeros 72 = .ok (.aload_n 0, 1) := by decide +kernel
theorem dX1_dropZeros_73 : decode cX1_dropZeros 73 = .ok (.getfield 9, 3) := by decide +kernel
theorem dX1_dropZeros_76 : decode cX1_dropZeros 76 = .ok (.ldc2_w 80, 3) := by decide +kernel
theorem dX1_dropZeros_79 : decode cX1_dropZeros 79 = .ok (.lrem, 1) := by decide +kernel
theorem dX1_dropZeros_80 : decode cX1_dropZeros 80 = .ok (.ldc2_w 82, 3) := by decide +kernel
theorem dX1_dropZeros_83 : decode cX1_dropZeros 83 = .ok (.lmul, 1) := by decide +kernel
theorem dX1_dropZeros_84 : decode cX1_dropZeros 84 = .ok (.ladd, 1) := by decide +kernel
theorem dX1_dropZeros_85 : decode cX1_dropZeros 85 = .ok (.putfield 15, 3) := by decide +kernel
theorem dX1_dropZeros_88 : decode cX1_dropZeros 88 = .ok (.aload_n 0, 1) := by decide +kernel
theorem dX1_dropZeros_89 : decode cX1_dropZeros 89 = .ok (.dup, 1) := by decide +kernel
theorem dX1_dropZeros_90 : decode cX1_dropZeros 90 = .ok (.getfield 9, 3) := by decide +kernel
theorem dX1_dropZeros_93 : decode cX1_dropZeros 93 = .ok (.ldc2_w 80, 3) := by decide +kernel
theorem dX1_dropZeros_96 : decode cX1_dropZeros 96 = .ok (.ldiv, 1) := by decide +kernel
theorem dX1_dropZeros_97 : decode cX1_dropZeros 97 = .ok (.putfield 9, 3) := by decide +kernel
theorem dX1_dropZeros_100 : decode cX1_dropZeros 100 = .ok (.aload_n 0, 1) := by decide +kernel
theorem dX1_dropZeros_101 : decode cX1_dropZeros 101 = .ok (.dup, 1) := by decide +kernel
theorem dX1_dropZeros_102 : decode cX1_dropZeros 102 = .ok (.getfield 39, 3) := by decide +kernel
theorem dX1_dropZeros_105 : decode cX1_dropZeros 105 = .ok (.iconst 1, 1) := by decide +kernel
theorem dX1_dropZeros_106 : decode cX1_dropZeros 106 = .ok (.iadd, 1) := by decide +kernel
theorem dX1_dropZeros_107 : decode cX1_dropZeros 107 = .ok (.putfield 39, 3) := by decide +kernel
theorem dX1_dropZeros_110 : decode cX1_dropZeros 110 = .ok (.iinc 1 1, 3) := by decide +kernel
theorem dX1_dropZeros_113 : decode cX1_dropZeros 113 = .ok (.goto (-78), 3) := by decide +kernel
theorem dX1_dropZeros_116 : decode cX1_dropZeros 116 = .ok (.return_, 1) := by decide +kernel
theorem dX1_cut_0 : decode cX1_cut 0 = .ok (.iload_n 1, 1) := by decide +kernel
theorem dX1_cut_1 : decode cX1_cut 1 = .ok (.bipush 32, 2) := by decide +kernel
theorem dX1_cut_3 : decode cX1_cut 3 = .ok (.if_icmp .le 27, 3) := by decide +kernel
theorem dX1_cut_6 : decode cX1_cut 6 = .ok (.aload_n 0, 1) := by decide +kernel
theorem dX1_cut_7 : decode cX1_cut 7 = .ok (.lconst 0, 1) := by decide +kernel
theorem dX1_cut_8 : decode cX1_cut 8 = .ok (.putfield 84, 3) := by decide +kernel
theorem dX1_cut_11 : decode cX1_cut 11 = .ok (.aload_n 0, 1) := by decide +kernel
theorem dX1_cut_12 : decode cX1_cut 12 = .ok (.aload_n 0, 1) := by decide +kernel
theorem dX1_cut_13 : decode cX1_cut 13 = .ok (.invokevirtual 54, 3) := by decide +kernel
theorem dX1_cut_16 : decode cX1_cut 16 = .ok (.ifCond .eq 7, 3) := by decide +kernel
theorem dX1_cut_19 : decode cX1_cut 19 = .ok (.iconst 0, 1) := by decide +kernel
theorem dX1_cut_20 : decode cX1_cut 20 = .ok (.goto 4, 3) := by decide +kernel
theorem dX1_cut_23 : decode cX1_cut 23 = .ok (.iconst 1, 1) := by decide +kernel
theorem dX1_cut_24 : decode cX1_cut 24 = .ok (.putfield 87, 3) := by decide +kernel
theorem dX1_cut_27 : decode cX1_cut 27 = .ok (.goto 111, 3) := by decide +kernel
theorem dX1_cut_30 : decode cX1_cut 30 = .ok (.iload_n 1, 1) := by decide +kernel
theorem dX1_cut_31 : decode cX1_cut 31 = .ok (.bipush 16, 2) := by decide +kernel
theorem dX1_cut_33 : decode cX1_cut 33 = .ok (.if_icmp .le 59, 3) := by decide +kernel
theorem dX1_cut_36 : decode cX1_cut 36 = .ok (.iload_n 1, 1) := by decide +kernel
theorem dX1_cut_37 : decode cX1_cut 37 = .ok (.bipush 16, 2) := by decide +kernel
theorem dX1_cut_39 : decode cX1_cut 39 = .ok (.isub, 1) := by decide +kernel
theorem dX1_cut_40 : decode cX1_cut 40 = .ok (.invokestatic 64, 3) := by decide +kernel
theorem dX1_cut_43 : decode cX1_cut 43 = .ok (.lstore_n 2, 1) := by decide +kernel
theorem dX1_cut_44 : decode cX1_cut 44 = .ok (.aload_n 0, 1) := by decide +kernel
theorem dX1_cut_45 : decode cX1_cut 45 = .ok (.aload_n 0, 1) := by decide +kernel
theorem dX1_cut_46 : decode cX1_cut 46 = .ok (.getfield 9, 3) := by decide +kernel
theorem dX1_cut_49 : decode cX1_cut 49 = .ok (.lload_n 2, 1) := by decide +kernel
theorem dX1_cut_50 : decode cX1_cut 50 = .ok (.ldiv, 1) := by decide +kernel
theorem dX1_cut_51 : decode cX1_cut 51 = .ok (.putfield 84, 3) := by decide +kernel
theorem dX1_cut_54 : decode cX1_cut 54 = .ok (.aload_n 0, 1) := by decide +kernel
theorem dX1_cut_55 : decode cX1_cut 55 = .ok (.aload_n 0, 1) := by decide +kernel
theorem dX1_cut_56 : decode cX1_cut 56 = .ok (.getfield 9, 3) := by decide +kernel
theorem dX1_cut_59 : decode cX1_cut 59 = .ok (.lload_n 2, 1) := by decide +kernel
theorem dX1_cut_60 : decode cX1_cut 60 = .ok (.lrem, 1) := by decide +kernel
theorem dX1_cut_61 : decode cX1_cut 61 = .ok (.lload_n 2, 1) := by decide +kernel
theorem dX1_cut_62 : decode cX1_cut 62 = .ok (.aload_n 0, 1) := by decide +kernel
theorem dX1_cut_63 : decode cX1_cut 63 = .ok (.getfield 15, 3) := by decide +kernel
theorem dX1_cut_66 : decode cX1_cut 66 = .ok (.lconst 0, 1) := by decide +kernel
theorem dX1_cut_67 : decode cX1_cut 67 = .ok (.lcmp, 1) := by decide +kernel
theorem dX1_cut_68 : decode cX1_cut 68 = .ok (.ifCond .ne 10, 3) := by decide +kernel
theorem dX1_cut_71 : decode cX1_cut 71 = .ok (.aload_n 0, 1) := by decide +kernel
theorem dX1_cut_72 : decode cX1_cut 72 = .ok (.getfield 18, 3) := by decide +kernel
theorem dX1_cut_75 : decode cX1_cut 75 = .ok (.ifCond .eq 7, 3) := by decide +kernel
theorem dX1_cut_78 : decode cX1_cut 78 = .ok (.iconst 1, 1) := by decide +kernel
theorem dX1_cut_79 : decode cX1_cut 79 = .ok (.goto 4, 3) := by decide +kernel
theorem dX1_cut_82 : decode cX1_cut 82 = .ok (.iconst 0, 1) := by decide +kernel
theorem dX1_cut_83 : decode cX1_cut 83 = .ok (.invokestatic 90, 3) := by decide +kernel
theorem dX1_cut_86 : decode cX1_cut 86 = .ok (.putfield 87, 3) := by decide +kernel
theorem dX1_cut_89 : decode cX1_cut 89 = .ok (.goto 49, 3) := by decide +kernel
theorem dX1_cut_92 : decode cX1_cut 92 = .ok (.iload_n 1, 1) := by decide +kernel
theorem dX1_cut_93 : decode cX1_cut 93 = .ok (.invokestatic 64, 3) := by decide +kernel
theorem dX1_cut_96 : decode cX1_cut 96 = .ok (.lstore_n 2, 1) := by decide +kernel
theorem dX1_cut_97 : decode cX1_cut 97 = .ok (.aload_n 0, 1) := by decide +kernel
theorem dX1_cut_98 : decode cX1_cut 98 = .ok (.aload_n 0, 1) := by decide +kernel
theorem dX1_cut_99 : decode cX1_cut 99 = .ok (.getfield 9, 3) := by decide +kernel
theorem dX1_cut_102 : decode cX1_cut 102 = .ok (.bipush 16, 2) := by decide +kernel
theorem dX1_cut_104 : decode cX1_cut 104 = .ok (.iload_n 1, 1) := by decide +kernel
theorem dX1_cut_105 : decode cX1_cut 105 = .ok (.isub, 1) := by decide +kernel
theorem dX1_cut_106 : decode cX1_cut 106 = .ok (.invokestatic 64, 3) := by decide +kernel
theorem dX1_cut_109 : decode cX1_cut 109 = .ok (.lmul, 1) := by decide +kernel
theorem dX1_cut_110 : decode cX1_cut 110 = .ok (.aload_n 0, 1) := by decide +kernel
theorem dX1_cut_111 : decode cX1_cut 111 = .ok (.getfield 15, 3) := by decide +kernel
theorem dX1_cut_114 : decode cX1_cut 114 = .ok (.lload_n 2, 1) := by decide +kernel
theorem dX1_cut_115 : decode cX1_cut 115 = .ok (.ldiv, 1) := by decide +kernel
theorem dX1_cut_116 : decode cX1_cut 116 = .ok (.ladd, 1) := by decide +kernel
theorem dX1_cut_117 : decode cX1_cut 117 = .ok (.putfield 84, 3) := by decide +kernel
theorem dX1_cut_120 : decode cX1_cut 120 = .ok (.aload_n 0, 1) := by decide +kernel
theorem dX1_cut_121 : decode cX1_cut 121 = .ok (.aload_n 0, 1) := by decide +kernel
theorem dX1_cut_122 : decode cX1_cut 122 = .ok (.getfield 15, 3) := by decide +kernel
theorem dX1_cut_125 : decode cX1_cut 125 = .ok (.lload_n 2, 1) := by decide +kernel
theorem dX1_cut_126 : decode cX1_cut 126 = .ok (.lrem, 1) := by decide +kernel
theorem dX1_cut_127 : decode cX1_cut 127 = .ok (.lload_n 2, 1) := by decide +kernel
theorem dX1_cut_128 : decode cX1_cut 128 = .ok (.aload_n 0, 1) := by decide +kernel
theorem dX1_cut_129 : decode cX1_cut 129 = .ok (.getfield 18, 3) := by decide +kernel
theorem dX1_cut_132 : decode cX1_cut 132 = .ok (.invokestatic 90, 3) := by decide +kernel
theorem dX1_cut_135 : decode cX1_cut 135 = .ok (.putfield 87, 3) := by decide +kernel
theorem dX1_cut_138 : decode cX1_cut 138 = .ok (.return_, 1) := by decide +kernel
theorem dX1_restOf_0 : decode cX1_restOf 0 = .ok (.lload_n 2, 1) := by decide +kernel
theorem dX1_restOf_1 : decode cX1_restOf 1 = .ok (.ldc2_w 94, 3) := by decide +kernel
theorem dX1_restOf_4 : decode cX1_restOf 4 = .ok (.ldiv, 1) := by decide +kernel
theorem dX1_restOf_5 : decode cX1_restOf 5 = .ok (.lstore 5, 2) := by decide +kernel
theorem dX1_restOf_7 : decode cX1_restOf 7 = .ok (.lload_n 0, 1) := by decide +kernel
theorem dX1_restOf_8 : decode cX1_restOf 8 = .ok (.lload 5, 2) := by decide +kernel
theorem dX1_restOf_10 : decode cX1_restOf 10 = .ok (.lcmp, 1) := by decide +kernel
theorem dX1_restOf_11 : decode cX1_restOf 11 = .ok (.ifCond .gt 15, 3) := by decide +kernel
theorem dX1_restOf_14 : decode cX1_restOf 14 = .ok (.lload_n 0, 1) := by decide +kernel
theorem dX1_restOf_15 : decode cX1_restOf 15 = .ok (.lload 5, 2) := by decide +kernel
theorem dX1_restOf_17 : decode cX1_restOf 17 = .ok (.lcmp, 1) := by decide +kernel
theorem dX1_restOf_18 : decode cX1_restOf 18 = .ok (.ifCond .ne 10, 3) := by decide +kernel
theorem dX1_restOf_21 : decode cX1_restOf 21 = .ok (.iload 4, 2) := by decide +kernel
theorem dX1_restOf_23 : decode cX1_restOf 23 = .ok (.ifCond .eq 5, 3) := by decide +kernel
theorem dX1_restOf_26 : decode cX1_restOf 26 = .ok (.iconst 3, 1) := by decide +kernel
theorem dX1_restOf_27 : decode cX1_restOf 27 = .ok (.ireturn, 1) := by decide +kernel
theorem dX1_restOf_28 : decode cX1_restOf 28 = .ok (.lload_n 0, 1) := by decide +kernel
theorem dX1_restOf_29 : decode cX1_restOf 29 = .ok (.lload 5, 2) := by decide +kernel
theorem dX1_restOf_31 : decode cX1_restOf 31 = .ok (.lcmp, 1) := by decide +kernel
theorem dX1_restOf_32 : decode cX1_restOf 32 = .ok (.ifCond .ne 5, 3) := by decide +kernel
theorem dX1_restOf_35 : decode cX1_restOf 35 = .ok (.iconst 2, 1) := by decide +kernel
theorem dX1_restOf_36 : decode cX1_restOf 36 = .ok (.ireturn, 1) := by decide +kernel
theorem dX1_restOf_37 : decode cX1_restOf 37 = .ok (.lload_n 0, 1) := by decide +kernel
theorem dX1_restOf_38 : decode cX1_restOf 38 = .ok (.lconst 0, 1) := by decide +kernel
theorem dX1_restOf_39 : decode cX1_restOf 39 = .ok (.lcmp, 1) := by decide +kernel
theorem dX1_restOf_40 : decode cX1_restOf 40 = .ok (.ifCond .ne 8, 3) := by decide +kernel
theorem dX1_restOf_43 : decode cX1_restOf 43 = .ok (.iload 4, 2) := by decide +kernel
theorem dX1_restOf_45 : decode cX1_restOf 45 = .ok (.ifCond .eq 7, 3) := by decide +kernel
theorem dX1_restOf_48 : decode cX1_restOf 48 = .ok (.iconst 1, 1) := by decide +kernel
theorem dX1_restOf_49 : decode cX1_restOf 49 = .ok (.goto 4, 3) := by decide +kernel
theorem dX1_restOf_52 : decode cX1_restOf 52 = .ok (.iconst 0, 1) := by decide +kernel
theorem dX1_restOf_53 : decode cX1_restOf 53 = .ok (.ireturn, 1) := by decide +kernel
theorem dX2_wordOf_0 : decode cX2_wordOf 0 = .ok (.aload_n 0, 1) := by decide +kernel
theorem dX2_wordOf_1 : decode cX2_wordOf 1 = .ok (.getfield 9, 3) := by decide +kernel
theorem dX2_wordOf_4 : decode cX2_wordOf 4 = .ok (.ifCond .eq 9, 3) := by decide +kernel
theorem dX2_wordOf_7 : decode cX2_wordOf 7 = .ok (.ldc2_w 15, 3) := by decide +kernel
theorem dX2_wordOf_10 : decode cX2_wordOf 10 = .ok (.goto 4, 3) := by decide +kernel
theorem dX2_wordOf_13 : decode cX2_wordOf 13 = .ok (.lconst 0, 1) := by decide +kernel
theorem dX2_wordOf_14 : decode cX2_wordOf 14 = .ok (.lstore_n 2, 1) := by decide +kernel
theorem dX2_wordOf_15 : decode cX2_wordOf 15 = .ok (.aload_n 0, 1) := by decide +kernel
theorem dX2_wordOf_16 : decode cX2_wordOf 16 = .ok (.getfield 17, 3) := by decide +kernel
theorem dX2_wordOf_19 : decode cX2_wordOf 19 = .ok (.iconst 1, 1) := by decide +kernel
theorem dX2_wordOf_20 : decode cX2_wordOf 20 = .ok (.if_icmp .ne 9, 3) := by decide +kernel
theorem dX2_wordOf_23 : decode cX2_wordOf 23 = .ok (.lload_n 2, 1) := by decide +kernel
theorem dX2_wordOf_24 : decode cX2_wordOf 24 = .ok (.ldc2_w 23, 3) := by decide +kernel
theorem dX2_wordOf_27 : decode cX2_wordOf 27 = .ok (.lor, 1) := by decide +kernel
theorem dX2_wordOf_28 : decode cX2_wordOf 28 = .ok (.lreturn, 1) := by decide +kernel
theorem dX2_wordOf_29 : decode cX2_wordOf 29 = .ok (.aload_n 0, 1) := by decide +kernel
theorem dX2_wordOf_30 : decode cX2_wordOf 30 = .ok (.getfield 17, 3) := by decide +kernel
theorem dX2_wordOf_33 : decode cX2_wordOf 33 = .ok (.iconst 2, 1) := by decide +kernel
theorem dX2_wordOf_34 : decode cX2_wordOf 34 = .ok (.if_icmp .ne 7, 3) := by decide +kernel
theorem dX2_wordOf_37 : decode cX2_wordOf 37 = .ok (.ldc2_w 25, 3) := by decide +kernel
theorem dX2_wordOf_40 : decode cX2_wordOf 40 = .ok (.lreturn, 1) := by decide +kernel
theorem dX2_wordOf_41 : decode cX2_wordOf 41 = .ok (.aload_n 0, 1) := by decide +kernel
theorem dX2_wordOf_42 : decode cX2_wordOf 42 = .ok (.getfield 27, 3) := by decide +kernel
theorem dX2_wordOf_45 : decode cX2_wordOf 45 = .ok (.sipush (-398), 3) := by decide +kernel
theorem dX2_wordOf_48 : decode cX2_wordOf 48 = .ok (.isub, 1) := by decide +kernel
theorem dX2_wordOf_49 : decode cX2_wordOf 49 = .ok (.i2l, 1) := by decide +kernel
theorem dX2_wordOf_50 : decode cX2_wordOf 50 = .ok (.lstore 4, 2) := by decide +kernel
theorem dX2_wordOf_52 : decode cX2_wordOf 52 = .ok (.lload_n 2, 1) := by decide +kernel
theorem dX2_wordOf_53 : decode cX2_wordOf 53 = .ok (.iload_n 1, 1) := by decide +kernel
theorem dX2_wordOf_54 : decode cX2_wordOf 54 = .ok (.ifCond .eq 15, 3) := by decide +kernel
theorem dX2_wordOf_57 : decode cX2_wordOf 57 = .ok (.aload_n 0, 1) := by decide +kernel
theorem dX2_wordOf_58 : decode cX2_wordOf 58 = .ok (.getfield 30, 3) := by decide +kernel
theorem dX2_wordOf_61 : decode cX2_wordOf 61 = .ok (.lload 4, 2) := by decide +kernel
theorem dX2_wordOf_63 : decode cX2_wordOf 63 = .ok (.invokestatic 34, 3) := by decide +kernel
theorem dX2_wordOf_66 : decode cX2_wordOf 66 = .ok (.goto 12, 3) := by decide +kernel
theorem dX2_wordOf_69 : decode cX2_wordOf 69 = .ok (.aload_n 0, 1) := by decide +kernel
theorem dX2_wordOf_70 : decode cX2_wordOf 70 = .ok (.getfield 30, 3) := by decide +kernel
theorem dX2_wordOf_73 : decode cX2_wordOf 73 = .ok (.lload 4, 2) := by decide +kernel
theorem dX2_wordOf_75 : decode cX2_wordOf 75 = .ok (.invokestatic 38, 3) := by decide +kernel
theorem dX2_wordOf_78 : decode cX2_wordOf 78 = .ok (.lor, 1) := by decide +kernel
theorem dX2_wordOf_79 : decode cX2_wordOf 79 = .ok (.lreturn, 1) := by decide +kernel
theorem dX2_binaryWord_0 : decode cX2_binaryWord 0 = .ok (.lload_n 0, 1) := by decide +kernel
theorem dX2_binaryWord_1 : decode cX2_binaryWord 1 = .ok (.ldc2_w 41, 3) := by decide +kernel
theorem dX2_binaryWord_4 : decode cX2_binaryWord 4 = .ok (.lcmp, 1) := by decide +kernel
theorem dX2_binaryWord_5 : decode cX2_binaryWord 5 = .ok (.ifCond .ge 10, 3) := by decide +kernel
theorem dX2_binaryWord_8 : decode cX2_binaryWord 8 = .ok (.lload_n 2, 1) := by decide +kernel
theorem dX2_binaryWord_9 : decode cX2_binaryWord 9 = .ok (.bipush 53, 2) := by decide +kernel
theorem dX2_binaryWord_11 : decode cX2_binaryWord 11 = .ok (.lshl, 1) := by decide +kernel
theorem dX2_binaryWord_12 : decode cX2_binaryWord 12 = .ok (.lload_n 0, 1) := by decide +kernel
theorem dX2_binaryWord_13 : decode cX2_binaryWord 13 = .ok (.lor, 1) := by decide +kernel
theorem dX2_binaryWord_14 : decode cX2_binaryWord 14 = .ok (.lreturn, 1) := by decide +kernel
theorem dX2_binaryWord_15 : decode cX2_binaryWord 15 = .ok (.ldc2_w 43, 3) := by decide +kernel
theorem dX2_binaryWord_18 : decode cX2_binaryWord 18 = .ok (.lload_n 2, 1) := by decide +kernel
theorem dX2_binaryWord_19 : decode cX2_binaryWord 19 = .ok (.bipush 51, 2) := by decide +kernel
theorem dX2_binaryWord_21 : decode cX2_binaryWord 21 = .ok (.lshl, 1) := by decide +kernel
theorem dX2_binaryWord_22 : decode cX2_binaryWord 22 = .ok (.lor, 1) := by decide +kernel
theorem dX2_binaryWord_23 : decode cX2_binaryWord 23 = .ok (.lload_n 0, 1) := by decide +kernel
theorem dX2_binaryWord_24 : decode cX2_binaryWord 24 = .ok (.ldc2_w 41, 3) := by decide +kernel
theorem dX2_binaryWord_27 : decode cX2_binaryWord 27 = .ok (.lsub, 1) := by decide +kernel
theorem dX2_binaryWord_28 : decode cX2_binaryWord 28 = .ok (.lor, 1) := by decide +kernel
theorem dX2_binaryWord_29 : decode cX2_binaryWord 29 = .ok (.lreturn, 1) := by decide +kernel
theorem dX2_digitWord_0 : decode cX2_digitWord 0 = .ok (.lload_n 0, 1) := by decide +kernel
theorem dX2_digitWord_1 : decode cX2_digitWord 1 = .ok (.ldc2_w 45, 3) := by decide +kernel
theorem dX2_digitWord_4 : decode cX2_digitWord 4 = .ok (.ldiv, 1) := by decide +kernel
theorem dX2_digitWord_5 : decode cX2_digitWord 5 = .ok (.lstore 4, 2) := by decide +kernel
theorem dX2_digitWord_7 : decode cX2_digitWord 7 = .ok (.lload_n 2, 1) := by decide +kernel
theorem dX2_digitWord_8 : decode cX2_digitWord 8 = .ok (.ldc2_w 47, 3) := by decide +kernel
theorem dX2_digitWord_11 : decode cX2_digitWord 11 = .ok (.ldiv, 1) := by decide +kernel
theorem dX2_digitWord_12 : decode cX2_digitWord 12 = .ok (.lstore 6, 2) := by decide +kernel
theorem dX2_digitWord_14 : decode cX2_digitWord 14 = .ok (.lload 4, 2) := by decide +kernel
theorem dX2_digitWord_16 : decode cX2_digitWord 16 = .ok (.ldc2_w 49, 3) := by decide +kernel
theorem dX2_digitWord_19 : decode cX2_digitWord 19 = .ok (.lcmp, 1) := by decide +kernel
theorem dX2_digitWord_20 : decode cX2_digitWord 20 = .ok (.ifCond .ge 17, 3) := by decide +kernel
theorem dX2_digitWord_23 : decode cX2_digitWord 23 = .ok (.lload 6, 2) := by decide +kernel
theorem dX2_digitWord_25 : decode cX2_digitWord 25 = .ok (.bipush 61, 2) := by decide +kernel
theorem dX2_digitWord_27 : decode cX2_digitWord 27 = .ok (.lshl, 1) := by decide +kernel
theorem dX2_digitWord_28 : decode cX2_digitWord 28 = .ok (.lload 4, 2) := by decide +kernel
theorem dX2_digitWord_30 : decode cX2_digitWord 30 = .ok (.bipush 58, 2) := by decide +kernel
theorem dX2_digitWord_32 : decode cX2_digitWord 32 = .ok (.lshl, 1) := by decide +kernel
theorem dX2_digitWord_33 : decode cX2_digitWord 33 = .ok (.lor, 1) := by decide +kernel
theorem dX2_digitWord_34 : decode cX2_digitWord 34 = .ok (.goto 22, 3) := by decide +kernel
theorem dX2_digitWord_37 : decode cX2_digitWord 37 = .ok (.ldc2_w 43, 3) := by decide +kernel
theorem dX2_digitWord_40 : decode cX2_digitWord 40 = .ok (.lload 6, 2) := by decide +kernel
theorem dX2_digitWord_42 : decode cX2_digitWord 42 = .ok (.bipush 59, 2) := by decide +kernel
theorem dX2_digitWord_44 : decode cX2_digitWord 44 = .ok (.lshl, 1) := by decide +kernel
theorem dX2_digitWord_45 : decode cX2_digitWord 45 = .ok (.lor, 1) := by decide +kernel
theorem dX2_digitWord_46 : decode cX2_digitWord 46 = .ok (.lload 4, 2) := by decide +kernel
theorem dX2_digitWord_48 : decode cX2_digitWord 48 = .ok (.ldc2_w 49, 3) := by decide +kernel
theorem dX2_digitWord_51 : decode cX2_digitWord 51 = .ok (.lsub, 1) := by decide +kernel
theorem dX2_digitWord_52 : decode cX2_digitWord 52 = .ok (.bipush 58, 2) := by decide +kernel
theorem dX2_digitWord_54 : decode cX2_digitWord 54 = .ok (.lshl, 1) := by decide +kernel
theorem dX2_digitWord_55 : decode cX2_digitWord 55 = .ok (.lor, 1) := by decide +kernel
theorem dX2_digitWord_56 : decode cX2_digitWord 56 = .ok (.lstore 8, 2) := by decide +kernel
theorem dX2_digitWord_58 : decode cX2_digitWord 58 = .ok (.lload 8, 2) := by decide +kernel
theorem dX2_digitWord_60 : decode cX2_digitWord 60 = .ok (.lload_n 2, 1) := by decide +kernel
theorem dX2_digitWord_61 : decode cX2_digitWord 61 = .ok (.ldc2_w 51, 3) := by decide +kernel
theorem dX2_digitWord_64 : decode cX2_digitWord 64 = .ok (.land, 1) := by decide +kernel
theorem dX2_digitWord_65 : decode cX2_digitWord 65 = .ok (.bipush 50, 2) := by decide +kernel
theorem dX2_digitWord_67 : decode cX2_digitWord 67 = .ok (.lshl, 1) := by decide +kernel
theorem dX2_digitWord_68 : decode cX2_digitWord 68 = .ok (.lor, 1) := by decide +kernel
theorem dX2_digitWord_69 : decode cX2_digitWord 69 = .ok (.lstore 8, 2) := by decide +kernel
theorem dX2_digitWord_71 : decode cX2_digitWord 71 = .ok (.iconst 0, 1) := by decide +kernel
theorem dX2_digitWord_72 : decode cX2_digitWord 72 = .ok (.istore 10, 2) := by decide +kernel
theorem dX2_digitWord_74 : decode cX2_digitWord 74 = .ok (.iload 10, 2) := by decide +kernel
theorem dX2_digitWord_76 : decode cX2_digitWord 76 = .ok (.iconst 5, 1) := by decide +kernel
theorem dX2_digitWord_77 : decode cX2_digitWord 77 = .ok (.if_icmp .ge 58, 3) := by decide +kernel
theorem dX2_digitWord_80 : decode cX2_digitWord 80 = .ok (.lload_n 0, 1) := by decide +kernel
theorem dX2_digitWord_81 : decode cX2_digitWord 81 = .ok (.iconst 3, 1) := by decide +kernel
theorem dX2_digitWord_82 : decode cX2_digitWord 82 = .ok (.iload 10, 2) := by decide +kernel
theorem dX2_digitWord_84 : decode cX2_digitWord 84 = .ok (.imul, 1) := by decide +kernel
theorem dX2_digitWord_85 : decode cX2_digitWord 85 = .ok (.invokestatic 53, 3) := by decide +kernel
theorem dX2_digitWord_88 : decode cX2_digitWord 88 = .ok (.ldiv, 1) := by decide +kernel
theorem dX2_digitWord_89 : decode cX2_digitWord 89 = .ok (.ldc2_w 57, 3) := by decide +kernel
theorem dX2_digitWord_92 : decode cX2_digitWord 92 = .ok (.lrem, 1) := by decide +kernel
theorem dX2_digitWord_93 : decode cX2_digitWord 93 = .ok (.l2i, 1) := by decide +kernel
theorem dX2_digitWord_94 : decode cX2_digitWord 94 = .ok (.istore 11, 2) := by decide +kernel
theorem dX2_digitWord_96 : decode cX2_digitWord 96 = .ok (.lload 8, 2) := by decide +kernel
theorem dX2_digitWord_98 : decode cX2_digitWord 98 = .ok (.iload 11, 2) := by decide +kernel
theorem dX2_digitWord_100 : decode cX2_digitWord 100 = .ok (.bipush 100, 2) := by decide +kernel
theorem dX2_digitWord_102 : decode cX2_digitWord 102 = .ok (.idiv, 1) := by decide +kernel
theorem dX2_digitWord_103 : decode cX2_digitWord 103 = .ok (.iload 11, 2) := by decide +kernel
theorem dX2_digitWord_105 : decode cX2_digitWord 105 = .ok (.bipush 10, 2) := by decide +kernel
theorem dX2_digitWord_107 : decode cX2_digitWord 107 = .ok (.idiv, 1) := by decide +kernel
theorem dX2_digitWord_108 : decode cX2_digitWord 108 = .ok (.bipush 10, 2) := by decide +kernel
theorem dX2_digitWord_110 : decode cX2_digitWord 110 = .ok (.irem, 1) := by decide +kernel
theorem dX2_digitWord_111 : decode cX2_digitWord 111 = .ok (.iload 11, 2) := by decide +kernel
theorem dX2_digitWord_113 : decode cX2_digitWord 113 = .ok (.bipush 10, 2) := by decide +kernel
theorem dX2_digitWord_115 : decode cX2_digitWord 115 = .ok (.irem, 1) := by decide +kernel
theorem dX2_digitWord_116 : decode cX2_digitWord 116 = .ok (.invokestatic 59, 3) := by decide +kernel
theorem dX2_digitWord_119 : decode cX2_digitWord 119 = .ok (.i2l, 1) := by decide +kernel
theorem dX2_digitWord_120 : decode cX2_digitWord 120 = .ok (.bipush 10, 2) := by decide +kernel
theorem dX2_digitWord_122 : decode cX2_digitWord 122 = .ok (.iload 10, 2) := by decide +kernel
theorem dX2_digitWord_124 : decode cX2_digitWord 124 = .ok (.imul, 1) := by decide +kernel
theorem dX2_digitWord_125 : decode cX2_digitWord 125 = .ok (.lshl, 1) := by decide +kernel
theorem dX2_digitWord_126 : decode cX2_digitWord 126 = .ok (.lor, 1) := by decide +kernel
theorem dX2_digitWord_127 : decode cX2_digitWord 127 = .ok (.lstore 8, 2) := by decide +kernel
theorem dX2_digitWord_129 : decode cX2_digitWord 129 = .ok (.iinc 10 1, 3) := by decide +kernel
theorem dX2_digitWord_132 : decode cX2_digitWord 132 = .ok (.goto (-58), 3) := by decide +kernel
theorem dX2_digitWord_135 : decode cX2_digitWord 135 = .ok (.lload 8, 2) := by decide +kernel
theorem dX2_digitWord_137 : decode cX2_digitWord 137 = .ok (.lreturn, 1) := by decide +kernel
theorem dX2_groupOf_0 : decode cX2_groupOf 0 = .ok (.iload_n 0, 1) := by decide +kernel
theorem dX2_groupOf_1 : decode cX2_groupOf 1 = .ok (.iconst 3, 1) := by decide +kernel
theorem dX2_groupOf_2 : decode cX2_groupOf 2 = .ok (.ishr, 1) := by decide +kernel
theorem dX2_groupOf_3 : decode cX2_groupOf 3 = .ok (.iconst 2, 1) := by decide +kernel
theorem dX2_groupOf_4 : decode cX2_groupOf 4 = .ok (.ishl, 1) := by decide +kernel
theorem dX2_groupOf_5 : decode cX2_groupOf 5 = .ok (.iload_n 1, 1) := by decide +kernel
theorem dX2_groupOf_6 : decode cX2_groupOf 6 = .ok (.iconst 3, 1) := by decide +kernel
theorem dX2_groupOf_7 : decode cX2_groupOf 7 = .ok (.ishr, 1) := by decide +kernel
theorem dX2_groupOf_8 : decode cX2_groupOf 8 = .ok (.iconst 1, 1) := by decide +kernel
theorem dX2_groupOf_9 : decode cX2_groupOf 9 = .ok (.ishl, 1) := by decide +kernel
theorem dX2_groupOf_10 : decode cX2_groupOf 10 = .ok (.ior, 1) := by decide +kernel
theorem dX2_groupOf_11 : decode cX2_groupOf 11 = .ok (.iload_n 2, 1) := by decide +kernel
theorem dX2_groupOf_12 : decode cX2_groupOf 12 = .ok (.iconst 3, 1) := by decide +kernel
theorem dX2_groupOf_13 : decode cX2_groupOf 13 = .ok (.ishr, 1) := by decide +kernel
theorem dX2_groupOf_14 : decode cX2_groupOf 14 = .ok (.ior, 1) := by decide +kernel
theorem dX2_groupOf_15 : decode cX2_groupOf 15 = .ok (.istore_n 3, 1) := by decide +kernel
theorem dX2_groupOf_16 : decode cX2_groupOf 16 = .ok (.iload_n 0, 1) := by decide +kernel
theorem dX2_groupOf_17 : decode cX2_groupOf 17 = .ok (.iconst 1, 1) := by decide +kernel
theorem dX2_groupOf_18 : decode cX2_groupOf 18 = .ok (.iand, 1) := by decide +kernel
theorem dX2_groupOf_19 : decode cX2_groupOf 19 = .ok (.bipush 7, 2) := by decide +kernel
theorem dX2_groupOf_21 : decode cX2_groupOf 21 = .ok (.ishl, 1) := by decide +kernel
theorem dX2_groupOf_22 : decode cX2_groupOf 22 = .ok (.istore 4, 2) := by decide +kernel
theorem dX2_groupOf_24 : decode cX2_groupOf 24 = .ok (.iload_n 1, 1) := by decide +kernel
theorem dX2_groupOf_25 : decode cX2_groupOf 25 = .ok (.iconst 1, 1) := by decide +kernel
theorem dX2_groupOf_26 : decode cX2_groupOf 26 = .ok (.iand, 1) := by decide +kernel
theorem dX2_groupOf_27 : decode cX2_groupOf 27 = .ok (.iconst 4, 1) := by decide +kernel
theorem dX2_groupOf_28 : decode cX2_groupOf 28 = .ok (.ishl, 1) := by decide +kernel
theorem dX2_groupOf_29 : decode cX2_groupOf 29 = .ok (.istore 5, 2) := by decide +kernel
theorem dX2_groupOf_31 : decode cX2_groupOf 31 = .ok (.iload_n 2, 1) := by decide +kernel
theorem dX2_groupOf_32 : decode cX2_groupOf 32 = .ok (.iconst 1, 1) := by decide +kernel
theorem dX2_groupOf_33 : decode cX2_groupOf 33 = .ok (.iand, 1) := by decide +kernel
theorem dX2_groupOf_34 : decode cX2_groupOf 34 = .ok (.istore 6, 2) := by decide +kernel
theorem dX2_groupOf_36 : decode cX2_groupOf 36 = .ok (.iload_n 3, 1) := by decide +kernel
theorem dX2_groupOf_37 : decode cX2_groupOf 37 = .ok (.tableswitch 167 0 6 #[43, 54, 69, 89, 106, 126, 148], 43) := by decide +kernel
theorem dX2_groupOf_80 : decode cX2_groupOf 80 = .ok (.iload_n 0, 1) := by decide +kernel
theorem dX2_groupOf_81 : decode cX2_groupOf 81 = .ok (.bipush 7, 2) := by decide +kernel
theorem dX2_groupOf_83 : decode cX2_groupOf 83 = .ok (.ishl, 1) := by decide +kernel
theorem dX2_groupOf_84 : decode cX2_groupOf 84 = .ok (.iload_n 1, 1) := by decide +kernel
theorem dX2_groupOf_85 : decode cX2_groupOf 85 = .ok (.iconst 4, 1) := by decide +kernel
theorem dX2_groupOf_86 : decode cX2_groupOf 86 = .ok (.ishl, 1) := by decide +kernel
theorem dX2_groupOf_87 : decode cX2_groupOf 87 = .ok (.ior, 1) := by decide +kernel
theorem dX2_groupOf_88 : decode cX2_groupOf 88 = .ok (.iload_n 2, 1) := by decide +kernel
theorem dX2_groupOf_89 : decode cX2_groupOf 89 = .ok (.ior, 1) := by decide +kernel
theorem dX2_groupOf_90 : decode cX2_groupOf 90 = .ok (.ireturn, 1) := by decide +kernel
theorem dX2_groupOf_91 : decode cX2_groupOf 91 = .ok (.iload_n 0, 1) := by decide +kernel
theorem dX2_groupOf_92 : decode cX2_groupOf 92 = .ok (.bipush 7, 2) := by decide +kernel
theorem dX2_groupOf_94 : decode cX2_groupOf 94 = .ok (.ishl, 1) := by decide +kernel
theorem dX2_groupOf_95 : decode cX2_groupOf 95 = .ok (.iload_n 1, 1) := by decide +kernel
theorem dX2_groupOf_96 : decode cX2_groupOf 96 = .ok (.iconst 4, 1) := by decide +kernel
theorem dX2_groupOf_97 : decode cX2_groupOf 97 = .ok (.ishl, 1) := by decide +kernel
theorem dX2_groupOf_98 : decode cX2_groupOf 98 = .ok (.ior, 1) := by decide +kernel
theorem dX2_groupOf_99 : decode cX2_groupOf 99 = .ok (.bipush 8, 2) := by decide +kernel
theorem dX2_groupOf_101 : decode cX2_groupOf 101 = .ok (.ior, 1) := by decide +kernel
theorem dX2_groupOf_102 : decode cX2_groupOf 102 = .ok (.iload 6, 2) := by decide +kernel
theorem dX2_groupOf_104 : decode cX2_groupOf 104 = .ok (.ior, 1) := by decide +kernel
theorem dX2_groupOf_105 : decode cX2_groupOf 105 = .ok (.ireturn, 1) := by decide +kernel
theorem dX2_groupOf_106 : decode cX2_groupOf 106 = .ok (.iload_n 0, 1) := by decide +kernel
theorem dX2_groupOf_107 : decode cX2_groupOf 107 = .ok (.bipush 7, 2) := by decide +kernel
theorem dX2_groupOf_109 : decode cX2_groupOf 109 = .ok (.ishl, 1) := by decide +kernel
theorem dX2_groupOf_110 : decode cX2_groupOf 110 = .ok (.iload_n 2, 1) := by decide +kernel
theorem dX2_groupOf_111 : decode cX2_groupOf 111 = .ok (.iconst 1, 1) := by decide +kernel
theorem dX2_groupOf_112 : decode cX2_groupOf 112 = .ok (.ishr, 1) := by decide +kernel
theorem dX2_groupOf_113 : decode cX2_groupOf 113 = .ok (.iconst 5, 1) := by decide +kernel
theorem dX2_groupOf_114 : decode cX2_groupOf 114 = .ok (.ishl, 1) := by decide +kernel
theorem dX2_groupOf_115 : decode cX2_groupOf 115 = .ok (.ior, 1) := by decide +kernel
theorem dX2_groupOf_116 : decode cX2_groupOf 116 = .ok (.iload 5, 2) := by decide +kernel
theorem dX2_groupOf_118 : decode cX2_groupOf 118 = .ok (.ior, 1) := by decide +kernel
theorem dX2_groupOf_119 : decode cX2_groupOf 119 = .ok (.bipush 10, 2) := by decide +kernel
theorem dX2_groupOf_121 : decode cX2_groupOf 121 = .ok (.ior, 1) := by decide +kernel
theorem dX2_groupOf_122 : decode cX2_groupOf 122 = .ok (.iload 6, 2) := by decide +kernel
theorem dX2_groupOf_124 : decode cX2_groupOf 124 = .ok (.ior, 1) := by decide +kernel
theorem dX2_groupOf_125 : decode cX2_groupOf 125 = .ok (.ireturn, 1) := by decide +kernel
theorem dX2_groupOf_126 : decode cX2_groupOf 126 = .ok (.iload_n 0, 1) := by decide +kernel
theorem dX2_groupOf_127 : decode cX2_groupOf 127 = .ok (.bipush 7, 2) := by decide +kernel
theorem dX2_groupOf_129 : decode cX2_groupOf 129 = .ok (.ishl, 1) := by decide +kernel
theorem dX2_groupOf_130 : decode cX2_groupOf 130 = .ok (.bipush 64, 2) := by decide +kernel
theorem dX2_groupOf_132 : decode cX2_groupOf 132 = .ok (.ior, 1) := by decide +kernel
theorem dX2_groupOf_133 : decode cX2_groupOf 133 = .ok (.iload 5, 2) := by decide +kernel
theorem dX2_groupOf_135 : decode cX2_groupOf 135 = .ok (.ior, 1) := by decide +kernel
theorem dX2_groupOf_136 : decode cX2_groupOf 136 = .ok (.bipush 14, 2) := by decide +kernel
theorem dX2_groupOf_138 : decode cX2_groupOf 138 = .ok (.ior, 1) := by decide +kernel
theorem dX2_groupOf_139 : decode cX2_groupOf 139 = .ok (.iload 6, 2) := by decide +kernel
theorem dX2_groupOf_141 : decode cX2_groupOf 141 = .ok (.ior, 1) := by decide +kernel
theorem dX2_groupOf_142 : decode cX2_groupOf 142 = .ok (.ireturn, 1) := by decide +kernel
theorem dX2_groupOf_143 : decode cX2_groupOf 143 = .ok (.iload_n 2, 1) := by decide +kernel
theorem dX2_groupOf_144 : decode cX2_groupOf 144 = .ok (.iconst 1, 1) := by decide +kernel
theorem dX2_groupOf_145 : decode cX2_groupOf 145 = .ok (.ishr, 1) := by decide +kernel
theorem dX2_groupOf_146 : decode cX2_groupOf 146 = .ok (.bipush 8, 2) := by decide +kernel
theorem dX2_groupOf_148 : decode cX2_groupOf 148 = .ok (.ishl, 1) := by decide +kernel
theorem dX2_groupOf_149 : decode cX2_groupOf 149 = .ok (.iload 4, 2) := by decide +kernel
theorem dX2_groupOf_151 : decode cX2_groupOf 151 = .ok (.ior, 1) := by decide +kernel
theorem dX2_groupOf_152 : decode cX2_groupOf 152 = .ok (.iload_n 1, 1) := by decide +kernel
theorem dX2_groupOf_153 : decode cX2_groupOf 153 = .ok (.iconst 4, 1) := by decide +kernel
theorem dX2_groupOf_154 : decode cX2_groupOf 154 = .ok (.ishl, 1) := by decide +kernel
theorem dX2_groupOf_155 : decode cX2_groupOf 155 = .ok (.ior, 1) := by decide +kernel
theorem dX2_groupOf_156 : decode cX2_groupOf 156 = .ok (.bipush 12, 2) := by decide +kernel
theorem dX2_groupOf_158 : decode cX2_groupOf 158 = .ok (.ior, 1) := by decide +kernel
theorem dX2_groupOf_159 : decode cX2_groupOf 159 = .ok (.iload 6, 2) := by decide +kernel
theorem dX2_groupOf_161 : decode cX2_groupOf 161 = .ok (.ior, 1) := by decide +kernel
theorem dX2_groupOf_162 : decode cX2_groupOf 162 = .ok (.ireturn, 1) := by decide +kernel
theorem dX2_groupOf_163 : decode cX2_groupOf 163 = .ok (.iload_n 1, 1) := by decide +kernel
theorem dX2_groupOf_164 : decode cX2_groupOf 164 = .ok (.iconst 1, 1) := by decide +kernel
theorem dX2_groupOf_165 : decode cX2_groupOf 165 = .ok (.ishr, 1) := by decide +kernel
theorem dX2_groupOf_166 : decode cX2_groupOf 166 = .ok (.bipush 8, 2) := by decide +kernel
theorem dX2_groupOf_168 : decode cX2_groupOf 168 = .ok (.ishl, 1) := by decide +kernel
theorem dX2_groupOf_169 : decode cX2_groupOf 169 = .ok (.iload 4, 2) := by decide +kernel
theorem dX2_groupOf_171 : decode cX2_groupOf 171 = .ok (.ior, 1) := by decide +kernel
theorem dX2_groupOf_172 : decode cX2_groupOf 172 = .ok (.bipush 32, 2) := by decide +kernel
theorem dX2_groupOf_174 : decode cX2_groupOf 174 = .ok (.ior, 1) := by decide +kernel
theorem dX2_groupOf_175 : decode cX2_groupOf 175 = .ok (.iload 5, 2) := by decide +kernel
theorem dX2_groupOf_177 : decode cX2_groupOf 177 = .ok (.ior, 1) := by decide +kernel
theorem dX2_groupOf_178 : decode cX2_groupOf 178 = .ok (.bipush 14, 2) := by decide +kernel
theorem dX2_groupOf_180 : decode cX2_groupOf 180 = .ok (.ior, 1) := by decide +kernel
theorem dX2_groupOf_181 : decode cX2_groupOf 181 = .ok (.iload 6, 2) := by decide +kernel
theorem dX2_groupOf_183 : decode cX2_groupOf 183 = .ok (.ior, 1) := by decide +kernel
theorem dX2_groupOf_184 : decode cX2_groupOf 184 = .ok (.ireturn, 1) := by decide +kernel
theorem dX2_groupOf_185 : decode cX2_groupOf 185 = .ok (.iload_n 2, 1) := by decide +kernel
theorem dX2_groupOf_186 : decode cX2_groupOf 186 = .ok (.iconst 1, 1) := by decide +kernel
theorem dX2_groupOf_187 : decode cX2_groupOf 187 = .ok (.ishr, 1) := by decide +kernel
theorem dX2_groupOf_188 : decode cX2_groupOf 188 = .ok (.bipush 8, 2) := by decide +kernel
theorem dX2_groupOf_190 : decode cX2_groupOf 190 = .ok (.ishl, 1) := by decide +kernel
theorem dX2_groupOf_191 : decode cX2_groupOf 191 = .ok (.iload 4, 2) := by decide +kernel
theorem dX2_groupOf_193 : decode cX2_groupOf 193 = .ok (.ior, 1) := by decide +kernel
theorem dX2_groupOf_194 : decode cX2_groupOf 194 = .ok (.iload 5, 2) := by decide +kernel
theorem dX2_groupOf_196 : decode cX2_groupOf 196 = .ok (.ior, 1) := by decide +kernel
theorem dX2_groupOf_197 : decode cX2_groupOf 197 = .ok (.bipush 14, 2) := by decide +kernel
theorem dX2_groupOf_199 : decode cX2_groupOf 199 = .ok (.ior, 1) := by decide +kernel
theorem dX2_groupOf_200 : decode cX2_groupOf 200 = .ok (.iload 6, 2) := by decide +kernel
theorem dX2_groupOf_202 : decode cX2_groupOf 202 = .ok (.ior, 1) := by decide +kernel
theorem dX2_groupOf_203 : decode cX2_groupOf 203 = .ok (.ireturn, 1) := by decide +kernel
theorem dX2_groupOf_204 : decode cX2_groupOf 204 = .ok (.iload 4, 2) := by decide +kernel
theorem dX2_groupOf_206 : decode cX2_groupOf 206 = .ok (.bipush 96, 2) := by decide +kernel
theorem dX2_groupOf_208 : decode cX2_groupOf 208 = .ok (.ior, 1) := by decide +kernel
theorem dX2_groupOf_209 : decode cX2_groupOf 209 = .ok (.iload 5, 2) := by decide +kernel
theorem dX2_groupOf_211 : decode cX2_groupOf 211 = .ok (.ior, 1) := by decide +kernel
theorem dX2_groupOf_212 : decode cX2_groupOf 212 = .ok (.bipush 14, 2) := by decide +kernel
theorem dX2_groupOf_214 : decode cX2_groupOf 214 = .ok (.ior, 1) := by decide +kernel
theorem dX2_groupOf_215 : decode cX2_groupOf 215 = .ok (.iload 6, 2) := by decide +kernel
theorem dX2_groupOf_217 : decode cX2_groupOf 217 = .ok (.ior, 1) := by decide +kernel
theorem dX2_groupOf_218 : decode cX2_groupOf 218 = .ok (.ireturn, 1) := by decide +kernel
theorem dX2_read_0 : decode cX2_read 0 = .ok (.lload_n 2, 1) := by decide +kernel
theorem dX2_read_1 : decode cX2_read 1 = .ok (.lconst 0, 1) := by decide +kernel
theorem dX2_read_2 : decode cX2_read 2 = .ok (.lcmp, 1) := by decide +kernel
theorem dX2_read_3 : decode cX2_read 3 = .ok (.ifCond .ge 7, 3) := by decide +kernel
theorem dX2_read_6 : decode cX2_read 6 = .ok (.iconst 1, 1) := by decide +kernel
theorem dX2_read_7 : decode cX2_read 7 = .ok (.goto 4, 3) := by decide +kernel
theorem dX2_read_10 : decode cX2_read 10 = .ok (.iconst 0, 1) := by decide +kernel
theorem dX2_read_11 : decode cX2_read 11 = .ok (.istore 4, 2) := by decide +kernel
theorem dX2_read_13 : decode cX2_read 13 = .ok (.lload_n 2, 1) := by decide +kernel
theorem dX2_read_14 : decode cX2_read 14 = .ok (.bipush 58, 2) := by decide +kernel
theorem dX2_read_16 : decode cX2_read 16 = .ok (.lushr, 1) := by decide +kernel
theorem dX2_read_17 : decode cX2_read 17 = .ok (.ldc2_w 63, 3) := by decide +kernel
theorem dX2_read_20 : decode cX2_read 20 = .ok (.land, 1) := by decide +kernel
theorem dX2_read_21 : decode cX2_read 21 = .ok (.lstore 5, 2) := by decide +kernel
theorem dX2_read_23 : decode cX2_read 23 = .ok (.lload 5, 2) := by decide +kernel
theorem dX2_read_25 : decode cX2_read 25 = .ok (.ldc2_w 65, 3) := by decide +kernel
theorem dX2_read_28 : decode cX2_read 28 = .ok (.lcmp, 1) := by decide +kernel
theorem dX2_read_29 : decode cX2_read 29 = .ok (.ifCond .ne 12, 3) := by decide +kernel
theorem dX2_read_32 : decode cX2_read 32 = .ok (.aload_n 0, 1) := by decide +kernel
theorem dX2_read_33 : decode cX2_read 33 = .ok (.iload 4, 2) := by decide +kernel
theorem dX2_read_35 : decode cX2_read 35 = .ok (.invokevirtual 67, 3) := by decide +kernel
theorem dX2_read_38 : decode cX2_read 38 = .ok (.goto 40, 3) := by decide +kernel
theorem dX2_read_41 : decode cX2_read 41 = .ok (.lload 5, 2) := by decide +kernel
theorem dX2_read_43 : decode cX2_read 43 = .ok (.ldc2_w 63, 3) := by decide +kernel
theorem dX2_read_46 : decode cX2_read 46 = .ok (.lcmp, 1) := by decide +kernel
theorem dX2_read_47 : decode cX2_read 47 = .ok (.ifCond .ne 10, 3) := by decide +kernel
theorem dX2_read_50 : decode cX2_read 50 = .ok (.aload_n 0, 1) := by decide +kernel
theorem dX2_read_51 : decode cX2_read 51 = .ok (.invokevirtual 71, 3) := by decide +kernel
theorem dX2_read_54 : decode cX2_read 54 = .ok (.goto 24, 3) := by decide +kernel
theorem dX2_read_57 : decode cX2_read 57 = .ok (.iload_n 1, 1) := by decide +kernel
theorem dX2_read_58 : decode cX2_read 58 = .ok (.ifCond .eq 13, 3) := by decide +kernel
theorem dX2_read_61 : decode cX2_read 61 = .ok (.aload_n 0, 1) := by decide +kernel
theorem dX2_read_62 : decode cX2_read 62 = .ok (.iload 4, 2) := by decide +kernel
theorem dX2_read_64 : decode cX2_read 64 = .ok (.lload_n 2, 1) := by decide +kernel
theorem dX2_read_65 : decode cX2_read 65 = .ok (.invokestatic 74, 3) := by decide +kernel
theorem dX2_read_68 : decode cX2_read 68 = .ok (.goto 10, 3) := by decide +kernel
theorem dX2_read_71 : decode cX2_read 71 = .ok (.aload_n 0, 1) := by decide +kernel
theorem dX2_read_72 : decode cX2_read 72 = .ok (.iload 4, 2) := by decide +kernel
theorem dX2_read_74 : decode cX2_read 74 = .ok (.lload_n 2, 1) := by decide +kernel
theorem dX2_read_75 : decode cX2_read 75 = .ok (.invokestatic 78, 3) := by decide +kernel
theorem dX2_read_78 : decode cX2_read 78 = .ok (.return_, 1) := by decide +kernel
theorem dX2_readBinary_0 : decode cX2_readBinary 0 = .ok (.lload_n 2, 1) := by decide +kernel
theorem dX2_readBinary_1 : decode cX2_readBinary 1 = .ok (.ldc2_w 43, 3) := by decide +kernel
theorem dX2_readBinary_4 : decode cX2_readBinary 4 = .ok (.land, 1) := by decide +kernel
theorem dX2_readBinary_5 : decode cX2_readBinary 5 = .ok (.ldc2_w 43, 3) := by decide +kernel
theorem dX2_readBinary_8 : decode cX2_readBinary 8 = .ok (.lcmp, 1) := by decide +kernel
theorem dX2_readBinary_9 : decode cX2_readBinary 9 = .ok (.ifCond .ne 7, 3) := by decide +kernel
theorem dX2_readBinary_12 : decode cX2_readBinary 12 = .ok (.iconst 1, 1) := by decide +kernel
theorem dX2_readBinary_13 : decode cX2_readBinary 13 = .ok (.goto 4, 3) := by decide +kernel
theorem dX2_readBinary_16 : decode cX2_readBinary 16 = .ok (.iconst 0, 1) := by decide +kernel
theorem dX2_readBinary_17 : decode cX2_readBinary 17 = .ok (.istore 4, 2) := by decide +kernel
theorem dX2_readBinary_19 : decode cX2_readBinary 19 = .ok (.lload_n 2, 1) := by decide +kernel
theorem dX2_readBinary_20 : decode cX2_readBinary 20 = .ok (.iload 4, 2) := by decide +kernel
theorem dX2_readBinary_22 : decode cX2_readBinary 22 = .ok (.ifCond .eq 8, 3) := by decide +kernel
theorem dX2_readBinary_25 : decode cX2_readBinary 25 = .ok (.bipush 51, 2) := by decide +kernel
theorem dX2_readBinary_27 : decode cX2_readBinary 27 = .ok (.goto 5, 3) := by decide +kernel
theorem dX2_readBinary_30 : decode cX2_readBinary 30 = .ok (.bipush 53, 2) := by decide +kernel
theorem dX2_readBinary_32 : decode cX2_readBinary 32 = .ok (.lushr, 1) := by decide +kernel
theorem dX2_readBinary_33 : decode cX2_readBinary 33 = .ok (.ldc2_w 81, 3) := by decide +kernel
theorem dX2_readBinary_36 : decode cX2_readBinary 36 = .ok (.land, 1) := by decide +kernel
theorem dX2_readBinary_37 : decode cX2_readBinary 37 = .ok (.l2i, 1) := by decide +kernel
theorem dX2_readBinary_38 : decode cX2_readBinary 38 = .ok (.istore 5, 2) := by decide +kernel
theorem dX2_readBinary_40 : decode cX2_readBinary 40 = .ok (.iload 4, 2) := by decide +kernel
theorem dX2_readBinary_42 : decode cX2_readBinary 42 = .ok (.ifCond .eq 15, 3) := by decide +kernel
theorem dX2_readBinary_45 : decode cX2_readBinary 45 = .ok (.ldc2_w 41, 3) := by decide +kernel
theorem dX2_readBinary_48 : decode cX2_readBinary 48 = .ok (.lload_n 2, 1) := by decide +kernel
theorem dX2_readBinary_49 : decode cX2_readBinary 49 = .ok (.ldc2_w 83, 3) := by decide +kernel
theorem dX2_readBinary_52 : decode cX2_readBinary 52 = .ok (.land, 1) := by decide +kernel
theorem dX2_readBinary_53 : decode cX2_readBinary 53 = .ok (.lor, 1) := by decide +kernel
theorem dX2_readBinary_54 : decode cX2_readBinary 54 = .ok (.goto 8, 3) := by decide +kernel
theorem dX2_readBinary_57 : decode cX2_readBinary 57 = .ok (.lload_n 2, 1) := by decide +kernel
theorem dX2_readBinary_58 : decode cX2_readBinary 58 = .ok (.ldc2_w 85, 3) := by decide +kernel
theorem dX2_readBinary_61 : decode cX2_readBinary 61 = .ok (.land, 1) := by decide +kernel
theorem dX2_readBinary_62 : decode cX2_readBinary 62 = .ok (.lstore 6, 2) := by decide +kernel
theorem dX2_readBinary_64 : decode cX2_readBinary 64 = .ok (.aload_n 0, 1) := by decide +kernel
theorem dX2_readBinary_65 : decode cX2_readBinary 65 = .ok (.iload_n 1, 1) := by decide +kernel
theorem dX2_readBinary_66 : decode cX2_readBinary 66 = .ok (.lload 6, 2) := by decide +kernel
theorem dX2_readBinary_68 : decode cX2_readBinary 68 = .ok (.ldc2_w 87, 3) := by decide +kernel
theorem dX2_readBinary_71 : decode cX2_readBinary 71 = .ok (.lcmp, 1) := by decide +kernel
theorem dX2_readBinary_72 : decode cX2_readBinary 72 = .ok (.ifCond .ge 8, 3) := by decide +kernel
theorem dX2_readBinary_75 : decode cX2_readBinary 75 = .ok (.lload 6, 2) := by decide +kernel
theorem dX2_readBinary_77 : decode cX2_readBinary 77 = .ok (.goto 4, 3) := by decide +kernel
theorem dX2_readBinary_80 : decode cX2_readBinary 80 = .ok (.lconst 0, 1) := by decide +kernel
theorem dX2_readBinary_81 : decode cX2_readBinary 81 = .ok (.iload 5, 2) := by decide +kernel
theorem dX2_readBinary_83 : decode cX2_readBinary 83 = .ok (.sipush (-398), 3) := by decide +kernel
theorem dX2_readBinary_86 : decode cX2_readBinary 86 = .ok (.iadd, 1) := by decide +kernel
theorem dX2_readBinary_87 : decode cX2_readBinary 87 = .ok (.invokevirtual 89, 3) := by decide +kernel
theorem dX2_readBinary_90 : decode cX2_readBinary 90 = .ok (.return_, 1) := by decide +kernel
theorem dX2_readDigits_0 : decode cX2_readDigits 0 = .ok (.lload_n 2, 1) := by decide +kernel
theorem dX2_readDigits_1 : decode cX2_readDigits 1 = .ok (.ldc2_w 43, 3) := by decide +kernel
theorem dX2_readDigits_4 : decode cX2_readDigits 4 = .ok (.land, 1) := by decide +kernel
theorem dX2_readDigits_5 : decode cX2_readDigits 5 = .ok (.ldc2_w 43, 3) := by decide +kernel
theorem dX2_readDigits_8 : decode cX2_readDigits 8 = .ok (.lcmp, 1) := by decide +kernel
theorem dX2_readDigits_9 : decode cX2_readDigits 9 = .ok (.ifCond .ne 7, 3) := by decide +kernel
theorem dX2_readDigits_12 : decode cX2_readDigits 12 = .ok (.iconst 1, 1) := by decide +kernel
theorem dX2_readDigits_13 : decode cX2_readDigits 13 = .ok (.goto 4, 3) := by decide +kernel
theorem dX2_readDigits_16 : decode cX2_readDigits 16 = .ok (.iconst 0, 1) := by decide +kernel
theorem dX2_readDigits_17 : decode cX2_readDigits 17 = .ok (.istore 4, 2) := by decide +kernel
theorem dX2_readDigits_19 : decode cX2_readDigits 19 = .ok (.lload_n 2, 1) := by decide +kernel
theorem dX2_readDigits_20 : decode cX2_readDigits 20 = .ok (.iload 4, 2) := by decide +kernel
theorem dX2_readDigits_22 : decode cX2_readDigits 22 = .ok (.ifCond .eq 8, 3) := by decide +kernel
theorem dX2_readDigits_25 : decode cX2_readDigits 25 = .ok (.bipush 59, 2) := by decide +kernel
theorem dX2_readDigits_27 : decode cX2_readDigits 27 = .ok (.goto 5, 3) := by decide +kernel
theorem dX2_readDigits_30 : decode cX2_readDigits 30 = .ok (.bipush 61, 2) := by decide +kernel
theorem dX2_readDigits_32 : decode cX2_readDigits 32 = .ok (.lushr, 1) := by decide +kernel
theorem dX2_readDigits_33 : decode cX2_readDigits 33 = .ok (.ldc2_w 93, 3) := by decide +kernel
theorem dX2_readDigits_36 : decode cX2_readDigits 36 = .ok (.land, 1) := by decide +kernel
theorem dX2_readDigits_37 : decode cX2_readDigits 37 = .ok (.l2i, 1) := by decide +kernel
theorem dX2_readDigits_38 : decode cX2_readDigits 38 = .ok (.istore 5, 2) := by decide +kernel
theorem dX2_readDigits_40 : decode cX2_readDigits 40 = .ok (.iload 4, 2) := by decide +kernel
theorem dX2_readDigits_42 : decode cX2_readDigits 42 = .ok (.ifCond .eq 16, 3) := by decide +kernel
theorem dX2_readDigits_45 : decode cX2_readDigits 45 = .ok (.ldc2_w 49, 3) := by decide +kernel
theorem dX2_readDigits_48 : decode cX2_readDigits 48 = .ok (.lload_n 2, 1) := by decide +kernel
theorem dX2_readDigits_49 : decode cX2_readDigits 49 = .ok (.bipush 58, 2) := by decide +kernel
theorem dX2_readDigits_51 : decode cX2_readDigits 51 = .ok (.lushr, 1) := by decide +kernel
theorem dX2_readDigits_52 : decode cX2_readDigits 52 = .ok (.lconst 1, 1) := by decide +kernel
theorem dX2_readDigits_53 : decode cX2_readDigits 53 = .ok (.land, 1) := by decide +kernel
theorem dX2_readDigits_54 : decode cX2_readDigits 54 = .ok (.lor, 1) := by decide +kernel
theorem dX2_readDigits_55 : decode cX2_readDigits 55 = .ok (.goto 11, 3) := by decide +kernel
theorem dX2_readDigits_58 : decode cX2_readDigits 58 = .ok (.lload_n 2, 1) := by decide +kernel
theorem dX2_readDigits_59 : decode cX2_readDigits 59 = .ok (.bipush 58, 2) := by decide +kernel
theorem dX2_readDigits_61 : decode cX2_readDigits 61 = .ok (.lushr, 1) := by decide +kernel
theorem dX2_readDigits_62 : decode cX2_readDigits 62 = .ok (.ldc2_w 95, 3) := by decide +kernel
theorem dX2_readDigits_65 : decode cX2_readDigits 65 = .ok (.land, 1) := by decide +kernel
theorem dX2_readDigits_66 : decode cX2_readDigits 66 = .ok (.lstore 6, 2) := by decide +kernel
theorem dX2_readDigits_68 : decode cX2_readDigits 68 = .ok (.iconst 4, 1) := by decide +kernel
theorem dX2_readDigits_69 : decode cX2_readDigits 69 = .ok (.istore 8, 2) := by decide +kernel
theorem dX2_readDigits_71 : decode cX2_readDigits 71 = .ok (.iload 8, 2) := by decide +kernel
theorem dX2_readDigits_73 : decode cX2_readDigits 73 = .ok (.ifCond .lt 34, 3) := by decide +kernel
theorem dX2_readDigits_76 : decode cX2_readDigits 76 = .ok (.lload 6, 2) := by decide +kernel
theorem dX2_readDigits_78 : decode cX2_readDigits 78 = .ok (.ldc2_w 57, 3) := by decide +kernel
theorem dX2_readDigits_81 : decode cX2_readDigits 81 = .ok (.lmul, 1) := by decide +kernel
theorem dX2_readDigits_82 : decode cX2_readDigits 82 = .ok (.lload_n 2, 1) := by decide +kernel
theorem dX2_readDigits_83 : decode cX2_readDigits 83 = .ok (.bipush 10, 2) := by decide +kernel
theorem dX2_readDigits_85 : decode cX2_readDigits 85 = .ok (.iload 8, 2) := by decide +kernel
theorem dX2_readDigits_87 : decode cX2_readDigits 87 = .ok (.imul, 1) := by decide +kernel
theorem dX2_readDigits_88 : decode cX2_readDigits 88 = .ok (.lushr, 1) := by decide +kernel
theorem dX2_readDigits_89 : decode cX2_readDigits 89 = .ok (.ldc2_w 81, 3) := by decide +kernel
theorem dX2_readDigits_92 : decode cX2_readDigits 92 = .ok (.land, 1) := by decide +kernel
theorem dX2_readDigits_93 : decode cX2_readDigits 93 = .ok (.l2i, 1) := by decide +kernel
theorem dX2_readDigits_94 : decode cX2_readDigits 94 = .ok (.invokestatic 97, 3) := by decide +kernel
theorem dX2_readDigits_97 : decode cX2_readDigits 97 = .ok (.i2l, 1) := by decide +kernel
theorem dX2_readDigits_98 : decode cX2_readDigits 98 = .ok (.ladd, 1) := by decide +kernel
theorem dX2_readDigits_99 : decode cX2_readDigits 99 = .ok (.lstore 6, 2) := by decide +kernel
theorem dX2_readDigits_101 : decode cX2_readDigits 101 = .ok (.iinc 8 (-1), 3) := by decide +kernel
theorem dX2_readDigits_104 : decode cX2_readDigits 104 = .ok (.goto (-33), 3) := by decide +kernel
theorem dX2_readDigits_107 : decode cX2_readDigits 107 = .ok (.iload 5, 2) := by decide +kernel
theorem dX2_readDigits_109 : decode cX2_readDigits 109 = .ok (.sipush 256, 3) := by decide +kernel
theorem dX2_readDigits_112 : decode cX2_readDigits 112 = .ok (.imul, 1) := by decide +kernel
theorem dX2_readDigits_113 : decode cX2_readDigits 113 = .ok (.lload_n 2, 1) := by decide +kernel
theorem dX2_readDigits_114 : decode cX2_readDigits 114 = .ok (.bipush 50, 2) := by decide +kernel
theorem dX2_readDigits_116 : decode cX2_readDigits 116 = .ok (.lushr, 1) := by decide +kernel
theorem dX2_readDigits_117 : decode cX2_readDigits 117 = .ok (.ldc2_w 51, 3) := by decide +kernel
theorem dX2_readDigits_120 : decode cX2_readDigits 120 = .ok (.land, 1) := by decide +kernel
theorem dX2_readDigits_121 : decode cX2_readDigits 121 = .ok (.l2i, 1) := by decide +kernel
theorem dX2_readDigits_122 : decode cX2_readDigits 122 = .ok (.iadd, 1) := by decide +kernel
theorem dX2_readDigits_123 : decode cX2_readDigits 123 = .ok (.istore 8, 2) := by decide +kernel
theorem dX2_readDigits_125 : decode cX2_readDigits 125 = .ok (.aload_n 0, 1) := by decide +kernel
theorem dX2_readDigits_126 : decode cX2_readDigits 126 = .ok (.iload_n 1, 1) := by decide +kernel
theorem dX2_readDigits_127 : decode cX2_readDigits 127 = .ok (.lload 6, 2) := by decide +kernel
theorem dX2_readDigits_129 : decode cX2_readDigits 129 = .ok (.iload 8, 2) := by decide +kernel
theorem dX2_readDigits_131 : decode cX2_readDigits 131 = .ok (.sipush (-398), 3) := by decide +kernel
theorem dX2_readDigits_134 : decode cX2_readDigits 134 = .ok (.iadd, 1) := by decide +kernel
theorem dX2_readDigits_135 : decode cX2_readDigits 135 = .ok (.invokevirtual 89, 3) := by decide +kernel
theorem dX2_readDigits_138 : decode cX2_readDigits 138 = .ok (.return_, 1) := by decide +kernel
theorem dX2_digitsOfGroup_0 : decode cX2_digitsOfGroup 0 = .ok (.iload_n 0, 1) := by decide +kernel
theorem dX2_digitsOfGroup_1 : decode cX2_digitsOfGroup 1 = .ok (.bipush 7, 2) := by decide +kernel
theorem dX2_digitsOfGroup_3 : decode cX2_digitsOfGroup 3 = .ok (.ishr, 1) := by decide +kernel
theorem dX2_digitsOfGroup_4 : decode cX2_digitsOfGroup 4 = .ok (.bipush 7, 2) := by decide +kernel
theorem dX2_digitsOfGroup_6 : decode cX2_digitsOfGroup 6 = .ok (.iand, 1) := by decide +kernel
theorem dX2_digitsOfGroup_7 : decode cX2_digitsOfGroup 7 = .ok (.istore_n 1, 1) := by decide +kernel
theorem dX2_digitsOfGroup_8 : decode cX2_digitsOfGroup 8 = .ok (.iload_n 0, 1) := by decide +kernel
theorem dX2_digitsOfGroup_9 : decode cX2_digitsOfGroup 9 = .ok (.iconst 4, 1) := by decide +kernel
theorem dX2_digitsOfGroup_10 : decode cX2_digitsOfGroup 10 = .ok (.ishr, 1) := by decide +kernel
theorem dX2_digitsOfGroup_11 : decode cX2_digitsOfGroup 11 = .ok (.bipush 7, 2) := by decide +kernel
theorem dX2_digitsOfGroup_13 : decode cX2_digitsOfGroup 13 = .ok (.iand, 1) := by decide +kernel
theorem dX2_digitsOfGroup_14 : decode cX2_digitsOfGroup 14 = .ok (.istore_n 2, 1) := by decide +kernel
theorem dX2_digitsOfGroup_15 : decode cX2_digitsOfGroup 15 = .ok (.iload_n 0, 1) := by decide +kernel
theorem dX2_digitsOfGroup_16 : decode cX2_digitsOfGroup 16 = .ok (.iconst 1, 1) := by decide +kernel
theorem dX2_digitsOfGroup_17 : decode cX2_digitsOfGroup 17 = .ok (.iand, 1) := by decide +kernel
theorem dX2_digitsOfGroup_18 : decode cX2_digitsOfGroup 18 = .ok (.istore_n 3, 1) := by decide +kernel
theorem dX2_digitsOfGroup_19 : decode cX2_digitsOfGroup 19 = .ok (.iload_n 0, 1) := by decide +kernel
theorem dX2_digitsOfGroup_20 : decode cX2_digitsOfGroup 20 = .ok (.bipush 8, 2) := by decide +kernel
theorem dX2_digitsOfGroup_22 : decode cX2_digitsOfGroup 22 = .ok (.iand, 1) := by decide +kernel
theorem dX2_digitsOfGroup_23 : decode cX2_digitsOfGroup 23 = .ok (.ifCond .ne 13, 3) := by decide +kernel
theorem dX2_digitsOfGroup_26 : decode cX2_digitsOfGroup 26 = .ok (.iload_n 1, 1) := by decide +kernel
theorem dX2_digitsOfGroup_27 : decode cX2_digitsOfGroup 27 = .ok (.iload_n 2, 1) := by decide +kernel
theorem dX2_digitsOfGroup_28 : decode cX2_digitsOfGroup 28 = .ok (.iload_n 0, 1) := by decide +kernel
theorem dX2_digitsOfGroup_29 : decode cX2_digitsOfGroup 29 = .ok (.bipush 7, 2) := by decide +kernel
theorem dX2_digitsOfGroup_31 : decode cX2_digitsOfGroup 31 = .ok (.iand, 1) := by decide +kernel
theorem dX2_digitsOfGroup_32 : decode cX2_digitsOfGroup 32 = .ok (.invokestatic 101, 3) := by decide +kernel
theorem dX2_digitsOfGroup_35 : decode cX2_digitsOfGroup 35 = .ok (.ireturn, 1) := by decide +kernel
theorem dX2_digitsOfGroup_36 : decode cX2_digitsOfGroup 36 = .ok (.iload_n 0, 1) := by decide +kernel
theorem dX2_digitsOfGroup_37 : decode cX2_digitsOfGroup 37 = .ok (.iconst 1, 1) := by decide +kernel
theorem dX2_digitsOfGroup_38 : decode cX2_digitsOfGroup 38 = .ok (.ishr, 1) := by decide +kernel
theorem dX2_digitsOfGroup_39 : decode cX2_digitsOfGroup 39 = .ok (.iconst 3, 1) := by decide +kernel
theorem dX2_digitsOfGroup_40 : decode cX2_digitsOfGroup 40 = .ok (.iand, 1) := by decide +kernel
theorem dX2_digitsOfGroup_41 : decode cX2_digitsOfGroup 41 = .ok (.tableswitch 71 0 2 #[27, 37, 54], 27) := by decide +kernel
theorem dX2_digitsOfGroup_68 : decode cX2_digitsOfGroup 68 = .ok (.iload_n 1, 1) := by decide +kernel
theorem dX2_digitsOfGroup_69 : decode cX2_digitsOfGroup 69 = .ok (.iload_n 2, 1) := by decide +kernel
theorem dX2_digitsOfGroup_70 : decode cX2_digitsOfGroup 70 = .ok (.bipush 8, 2) := by decide +kernel
theorem dX2_digitsOfGroup_72 : decode cX2_digitsOfGroup 72 = .ok (.iload_n 3, 1) := by decide +kernel
theorem dX2_digitsOfGroup_73 : decode cX2_digitsOfGroup 73 = .ok (.ior, 1) := by decide +kernel
theorem dX2_digitsOfGroup_74 : decode cX2_digitsOfGroup 74 = .ok (.invokestatic 101, 3) := by decide +kernel
theorem dX2_digitsOfGroup_77 : decode cX2_digitsOfGroup 77 = .ok (.ireturn, 1) := by decide +kernel
theorem dX2_digitsOfGroup_78 : decode cX2_digitsOfGroup 78 = .ok (.iload_n 1, 1) := by decide +kernel
theorem dX2_digitsOfGroup_79 : decode cX2_digitsOfGroup 79 = .ok (.bipush 8, 2) := by decide +kernel
theorem dX2_digitsOfGroup_81 : decode cX2_digitsOfGroup 81 = .ok (.iload_n 2, 1) := by decide +kernel
theorem dX2_digitsOfGroup_82 : decode cX2_digitsOfGroup 82 = .ok (.iconst 1, 1) := by decide +kernel
theorem dX2_digitsOfGroup_83 : decode cX2_digitsOfGroup 83 = .ok (.iand, 1) := by decide +kernel
theorem dX2_digitsOfGroup_84 : decode cX2_digitsOfGroup 84 = .ok (.ior, 1) := by decide +kernel
theorem dX2_digitsOfGroup_85 : decode cX2_digitsOfGroup 85 = .ok (.iload_n 2, 1) := by decide +kernel
theorem dX2_digitsOfGroup_86 : decode cX2_digitsOfGroup 86 = .ok (.bipush 6, 2) := by decide +kernel
theorem dX2_digitsOfGroup_88 : decode cX2_digitsOfGroup 88 = .ok (.iand, 1) := by decide +kernel
theorem dX2_digitsOfGroup_89 : decode cX2_digitsOfGroup 89 = .ok (.iload_n 3, 1) := by decide +kernel
theorem dX2_digitsOfGroup_90 : decode cX2_digitsOfGroup 90 = .ok (.ior, 1) := by decide +kernel
theorem dX2_digitsOfGroup_91 : decode cX2_digitsOfGroup 91 = .ok (.invokestatic 101, 3) := by decide +kernel
theorem dX2_digitsOfGroup_94 : decode cX2_digitsOfGroup 94 = .ok (.ireturn, 1) := by decide +kernel
theorem dX2_digitsOfGroup_95 : decode cX2_digitsOfGroup 95 = .ok (.bipush 8, 2) := by decide +kernel
theorem dX2_digitsOfGroup_97 : decode cX2_digitsOfGroup 97 = .ok (.iload_n 1, 1) := by decide +kernel
theorem dX2_digitsOfGroup_98 : decode cX2_digitsOfGroup 98 = .ok (.iconst 1, 1) := by decide +kernel
theorem dX2_digitsOfGroup_99 : decode cX2_digitsOfGroup 99 = .ok (.iand, 1) := by decide +kernel
theorem dX2_digitsOfGroup_100 : decode cX2_digitsOfGroup 100 = .ok (.ior, 1) := by decide +kernel
theorem dX2_digitsOfGroup_101 : decode cX2_digitsOfGroup 101 = .ok (.iload_n 2, 1) := by decide +kernel
theorem dX2_digitsOfGroup_102 : decode cX2_digitsOfGroup 102 = .ok (.iload_n 1, 1) := by decide +kernel
theorem dX2_digitsOfGroup_103 : decode cX2_digitsOfGroup 103 = .ok (.bipush 6, 2) := by decide +kernel
theorem dX2_digitsOfGroup_105 : decode cX2_digitsOfGroup 105 = .ok (.iand, 1) := by decide +kernel
theorem dX2_digitsOfGroup_106 : decode cX2_digitsOfGroup 106 = .ok (.iload_n 3, 1) := by decide +kernel
theorem dX2_digitsOfGroup_107 : decode cX2_digitsOfGroup 107 = .ok (.ior, 1) := by decide +kernel
theorem dX2_digitsOfGroup_108 : decode cX2_digitsOfGroup 108 = .ok (.invokestatic 101, 3) := by decide +kernel
theorem dX2_digitsOfGroup_111 : decode cX2_digitsOfGroup 111 = .ok (.ireturn, 1) := by decide +kernel
theorem dX2_digitsOfGroup_112 : decode cX2_digitsOfGroup 112 = .ok (.iload_n 1, 1) := by decide +kernel
theorem dX2_digitsOfGroup_113 : decode cX2_digitsOfGroup 113 = .ok (.iload_n 2, 1) := by decide +kernel
theorem dX2_digitsOfGroup_114 : decode cX2_digitsOfGroup 114 = .ok (.iload_n 3, 1) := by decide +kernel
theorem dX2_digitsOfGroup_115 : decode cX2_digitsOfGroup 115 = .ok (.invokestatic 104, 3) := by decide +kernel
theorem dX2_digitsOfGroup_118 : decode cX2_digitsOfGroup 118 = .ok (.ireturn, 1) := by decide +kernel
theorem dX2_digitsOfGreatGroup_0 : decode cX2_digitsOfGreatGroup 0 = .ok (.iload_n 1, 1) := by decide +kernel
theorem dX2_digitsOfGreatGroup_1 : decode cX2_digitsOfGreatGroup 1 = .ok (.iconst 1, 1) := by decide +kernel
theorem dX2_digitsOfGreatGroup_2 : decode cX2_digitsOfGreatGroup 2 = .ok (.ishr, 1) := by decide +kernel
theorem dX2_digitsOfGreatGroup_3 : decode cX2_digitsOfGreatGroup 3 = .ok (.tableswitch 84 0 2 #[25, 47, 69], 25) := by decide +kernel
theorem dX2_digitsOfGreatGroup_28 : decode cX2_digitsOfGreatGroup 28 = .ok (.bipush 8, 2) := by decide +kernel
theorem dX2_digitsOfGreatGroup_30 : decode cX2_digitsOfGreatGroup 30 = .ok (.iload_n 0, 1) := by decide +kernel
theorem dX2_digitsOfGreatGroup_31 : decode cX2_digitsOfGreatGroup 31 = .ok (.iconst 1, 1) := by decide +kernel
theorem dX2_digitsOfGreatGroup_32 : decode cX2_digitsOfGreatGroup 32 = .ok (.iand, 1) := by decide +kernel
theorem dX2_digitsOfGreatGroup_33 : decode cX2_digitsOfGreatGroup 33 = .ok (.ior, 1) := by decide +kernel
theorem dX2_digitsOfGreatGroup_34 : decode cX2_digitsOfGreatGroup 34 = .ok (.bipush 8, 2) := by decide +kernel
theorem dX2_digitsOfGreatGroup_36 : decode cX2_digitsOfGreatGroup 36 = .ok (.iload_n 1, 1) := by decide +kernel
theorem dX2_digitsOfGreatGroup_37 : decode cX2_digitsOfGreatGroup 37 = .ok (.iconst 1, 1) := by decide +kernel
theorem dX2_digitsOfGreatGroup_38 : decode cX2_digitsOfGreatGroup 38 = .ok (.iand, 1) := by decide +kernel
theorem dX2_digitsOfGreatGroup_39 : decode cX2_digitsOfGreatGroup 39 = .ok (.ior, 1) := by decide +kernel
theorem dX2_digitsOfGreatGroup_40 : decode cX2_digitsOfGreatGroup 40 = .ok (.iload_n 0, 1) := by decide +kernel
theorem dX2_digitsOfGreatGroup_41 : decode cX2_digitsOfGreatGroup 41 = .ok (.bipush 6, 2) := by decide +kernel
theorem dX2_digitsOfGreatGroup_43 : decode cX2_digitsOfGreatGroup 43 = .ok (.iand, 1) := by decide +kernel
theorem dX2_digitsOfGreatGroup_44 : decode cX2_digitsOfGreatGroup 44 = .ok (.iload_n 2, 1) := by decide +kernel
theorem dX2_digitsOfGreatGroup_45 : decode cX2_digitsOfGreatGroup 45 = .ok (.ior, 1) := by decide +kernel
theorem dX2_digitsOfGreatGroup_46 : decode cX2_digitsOfGreatGroup 46 = .ok (.invokestatic 101, 3) := by decide +kernel
theorem dX2_digitsOfGreatGroup_49 : decode cX2_digitsOfGreatGroup 49 = .ok (.ireturn, 1) := by decide +kernel
theorem dX2_digitsOfGreatGroup_50 : decode cX2_digitsOfGreatGroup 50 = .ok (.bipush 8, 2) := by decide +kernel
theorem dX2_digitsOfGreatGroup_52 : decode cX2_digitsOfGreatGroup 52 = .ok (.iload_n 0, 1) := by decide +kernel
theorem dX2_digitsOfGreatGroup_53 : decode cX2_digitsOfGreatGroup 53 = .ok (.iconst 1, 1) := by decide +kernel
theorem dX2_digitsOfGreatGroup_54 : decode cX2_digitsOfGreatGroup 54 = .ok (.iand, 1) := by decide +kernel
theorem dX2_digitsOfGreatGroup_55 : decode cX2_digitsOfGreatGroup 55 = .ok (.ior, 1) := by decide +kernel
theorem dX2_digitsOfGreatGroup_56 : decode cX2_digitsOfGreatGroup 56 = .ok (.iload_n 0, 1) := by decide +kernel
theorem dX2_digitsOfGreatGroup_57 : decode cX2_digitsOfGreatGroup 57 = .ok (.bipush 6, 2) := by decide +kernel
theorem dX2_digitsOfGreatGroup_59 : decode cX2_digitsOfGreatGroup 59 = .ok (.iand, 1) := by decide +kernel
theorem dX2_digitsOfGreatGroup_60 : decode cX2_digitsOfGreatGroup 60 = .ok (.iload_n 1, 1) := by decide +kernel
theorem dX2_digitsOfGreatGroup_61 : decode cX2_digitsOfGreatGroup 61 = .ok (.iconst 1, 1) := by decide +kernel
theorem dX2_digitsOfGreatGroup_62 : decode cX2_digitsOfGreatGroup 62 = .ok (.iand, 1) := by decide +kernel
theorem dX2_digitsOfGreatGroup_63 : decode cX2_digitsOfGreatGroup 63 = .ok (.ior, 1) := by decide +kernel
theorem dX2_digitsOfGreatGroup_64 : decode cX2_digitsOfGreatGroup 64 = .ok (.bipush 8, 2) := by decide +kernel
theorem dX2_digitsOfGreatGroup_66 : decode cX2_digitsOfGreatGroup 66 = .ok (.iload_n 2, 1) := by decide +kernel
theorem dX2_digitsOfGreatGroup_67 : decode cX2_digitsOfGreatGroup 67 = .ok (.ior, 1) := by decide +kernel
theorem dX2_digitsOfGreatGroup_68 : decode cX2_digitsOfGreatGroup 68 = .ok (.invokestatic 101, 3) := by decide +kernel
theorem dX2_digitsOfGreatGroup_71 : decode cX2_digitsOfGreatGroup 71 = .ok (.ireturn, 1) := by decide +kernel
theorem dX2_digitsOfGreatGroup_72 : decode cX2_digitsOfGreatGroup 72 = .ok (.iload_n 0, 1) := by decide +kernel
theorem dX2_digitsOfGreatGroup_73 : decode cX2_digitsOfGreatGroup 73 = .ok (.bipush 8, 2) := by decide +kernel
theorem dX2_digitsOfGreatGroup_75 : decode cX2_digitsOfGreatGroup 75 = .ok (.iload_n 1, 1) := by decide +kernel
theorem dX2_digitsOfGreatGroup_76 : decode cX2_digitsOfGreatGroup 76 = .ok (.iconst 1, 1) := by decide +kernel
theorem dX2_digitsOfGreatGroup_77 : decode cX2_digitsOfGreatGroup 77 = .ok (.iand, 1) := by decide +kernel
theorem dX2_digitsOfGreatGroup_78 : decode cX2_digitsOfGreatGroup 78 = .ok (.ior, 1) := by decide +kernel
theorem dX2_digitsOfGreatGroup_79 : decode cX2_digitsOfGreatGroup 79 = .ok (.bipush 8, 2) := by decide +kernel
theorem dX2_digitsOfGreatGroup_81 : decode cX2_digitsOfGreatGroup 81 = .ok (.iload_n 2, 1) := by decide +kernel
theorem dX2_digitsOfGreatGroup_82 : decode cX2_digitsOfGreatGroup 82 = .ok (.ior, 1) := by decide +kernel
theorem dX2_digitsOfGreatGroup_83 : decode cX2_digitsOfGreatGroup 83 = .ok (.invokestatic 101, 3) := by decide +kernel
theorem dX2_digitsOfGreatGroup_86 : decode cX2_digitsOfGreatGroup 86 = .ok (.ireturn, 1) := by decide +kernel
theorem dX2_digitsOfGreatGroup_87 : decode cX2_digitsOfGreatGroup 87 = .ok (.bipush 8, 2) := by decide +kernel
theorem dX2_digitsOfGreatGroup_89 : decode cX2_digitsOfGreatGroup 89 = .ok (.iload_n 0, 1) := by decide +kernel
theorem dX2_digitsOfGreatGroup_90 : decode cX2_digitsOfGreatGroup 90 = .ok (.iconst 1, 1) := by decide +kernel
theorem dX2_digitsOfGreatGroup_91 : decode cX2_digitsOfGreatGroup 91 = .ok (.iand, 1) := by decide +kernel
theorem dX2_digitsOfGreatGroup_92 : decode cX2_digitsOfGreatGroup 92 = .ok (.ior, 1) := by decide +kernel
theorem dX2_digitsOfGreatGroup_93 : decode cX2_digitsOfGreatGroup 93 = .ok (.bipush 8, 2) := by decide +kernel
theorem dX2_digitsOfGreatGroup_95 : decode cX2_digitsOfGreatGroup 95 = .ok (.iload_n 1, 1) := by decide +kernel
theorem dX2_digitsOfGreatGroup_96 : decode cX2_digitsOfGreatGroup 96 = .ok (.iconst 1, 1) := by decide +kernel
theorem dX2_digitsOfGreatGroup_97 : decode cX2_digitsOfGreatGroup 97 = .ok (.iand, 1) := by decide +kernel
theorem dX2_digitsOfGreatGroup_98 : decode cX2_digitsOfGreatGroup 98 = .ok (.ior, 1) := by decide +kernel
theorem dX2_digitsOfGreatGroup_99 : decode cX2_digitsOfGreatGroup 99 = .ok (.bipush 8, 2) := by decide +kernel
theorem dX2_digitsOfGreatGroup_101 : decode cX2_digitsOfGreatGroup 101 = .ok (.iload_n 2, 1) := by decide +kernel
theorem dX2_digitsOfGreatGroup_102 : decode cX2_digitsOfGreatGroup 102 = .ok (.ior, 1) := by decide +kernel
theorem dX2_digitsOfGreatGroup_103 : decode cX2_digitsOfGreatGroup 103 = .ok (.invokestatic 101, 3) := by decide +kernel
theorem dX2_digitsOfGreatGroup_106 : decode cX2_digitsOfGreatGroup 106 = .ok (.ireturn, 1) := by decide +kernel
theorem dX2_three_0 : decode cX2_three 0 = .ok (.iload_n 0, 1) := by decide +kernel
theorem dX2_three_1 : decode cX2_three 1 = .ok (.bipush 100, 2) := by decide +kernel
theorem dX2_three_3 : decode cX2_three 3 = .ok (.imul, 1) := by decide +kernel
theorem dX2_three_4 : decode cX2_three 4 = .ok (.iload_n 1, 1) := by decide +kernel
theorem dX2_three_5 : decode cX2_three 5 = .ok (.bipush 10, 2) := by decide +kernel
theorem dX2_three_7 : decode cX2_three 7 = .ok (.imul, 1) := by decide +kernel
theorem dX2_three_8 : decode cX2_three 8 = .ok (.iadd, 1) := by decide +kernel
theorem dX2_three_9 : decode cX2_three 9 = .ok (.iload_n 2, 1) := by decide +kernel
theorem dX2_three_10 : decode cX2_three 10 = .ok (.iadd, 1) := by decide +kernel
theorem dX2_three_11 : decode cX2_three 11 = .ok (.ireturn, 1) := by decide +kernel
theorem dX3_init_0 : decode cX3_init 0 = .ok (.aload_n 0, 1) := by decide +kernel
theorem dX3_init_1 : decode cX3_init 1 = .ok (.invokespecial 1, 3) := by decide +kernel
theorem dX3_init_4 : decode cX3_init 4 = .ok (.aload_n 0, 1) := by decide +kernel
theorem dX3_init_5 : decode cX3_init 5 = .ok (.bipush 8, 2) := by decide +kernel
theorem dX3_init_7 : decode cX3_init 7 = .ok (.anewarray 9, 3) := by decide +kernel
theorem dX3_init_10 : decode cX3_init 10 = .ok (.putfield 11, 3) := by decide +kernel
theorem dX3_init_13 : decode cX3_init 13 = .ok (.iconst 0, 1) := by decide +kernel
theorem dX3_init_14 : decode cX3_init 14 = .ok (.istore_n 1, 1) := by decide +kernel
theorem dX3_init_15 : decode cX3_init 15 = .ok (.iload_n 1, 1) := by decide +kernel
theorem dX3_init_16 : decode cX3_init 16 = .ok (.bipush 8, 2) := by decide +kernel
theorem dX3_init_18 : decode cX3_init 18 = .ok (.if_icmp .ge 22, 3) := by decide +kernel
theorem dX3_init_21 : decode cX3_init 21 = .ok (.aload_n 0, 1) := by decide +kernel
theorem dX3_init_22 : decode cX3_init 22 = .ok (.getfield 11, 3) := by decide +kernel
theorem dX3_init_25 : decode cX3_init 25 = .ok (.iload_n 1, 1) := by decide +kernel
theorem dX3_init_26 : decode cX3_init 26 = .ok (.new 9, 3) := by decide +kernel
theorem dX3_init_29 : decode cX3_init 29 = .ok (.dup, 1) := by decide +kernel
theorem dX3_init_30 : decode cX3_init 30 = .ok (.invokespecial 15, 3) := by decide +kernel
theorem dX3_init_33 : decode cX3_init 33 = .ok (.aastore, 1) := by decide +kernel
theorem dX3_init_34 : decode cX3_init 34 = .ok (.iinc 1 1, 3) := by decide +kernel
theorem dX3_init_37 : decode cX3_init 37 = .ok (.goto (-22), 3) := by decide +kernel
theorem dX3_init_40 : decode cX3_init 40 = .ok (.aload_n 0, 1) := by decide +kernel
theorem dX3_init_41 : decode cX3_init 41 = .ok (.new 9, 3) := by decide +kernel
theorem dX3_init_44 : decode cX3_init 44 = .ok (.dup, 1) := by decide +kernel
theorem dX3_init_45 : decode cX3_init 45 = .ok (.invokespecial 15, 3) := by decide +kernel
theorem dX3_init_48 : decode cX3_init 48 = .ok (.putfield 16, 3) := by decide +kernel
theorem dX3_init_51 : decode cX3_init 51 = .ok (.aload_n 0, 1) := by decide +kernel
theorem dX3_init_52 : decode cX3_init 52 = .ok (.new 20, 3) := by decide +kernel
theorem dX3_init_55 : decode cX3_init 55 = .ok (.dup, 1) := by decide +kernel
theorem dX3_init_56 : decode cX3_init 56 = .ok (.invokespecial 22, 3) := by decide +kernel
theorem dX3_init_59 : decode cX3_init 59 = .ok (.putfield 23, 3) := by decide +kernel
theorem dX3_init_62 : decode cX3_init 62 = .ok (.aload_n 0, 1) := by decide +kernel
theorem dX3_init_63 : decode cX3_init 63 = .ok (.iconst 0, 1) := by decide +kernel
theorem dX3_init_64 : decode cX3_init 64 = .ok (.putfield 27, 3) := by decide +kernel
theorem dX3_init_67 : decode cX3_init 67 = .ok (.aload_n 0, 1) := by decide +kernel
theorem dX3_init_68 : decode cX3_init 68 = .ok (.iconst 0, 1) := by decide +kernel
theorem dX3_init_69 : decode cX3_init 69 = .ok (.putfield 31, 3) := by decide +kernel
theorem dX3_init_72 : decode cX3_init 72 = .ok (.aload_n 0, 1) := by decide +kernel
theorem dX3_init_73 : decode cX3_init 73 = .ok (.iconst 0, 1) := by decide +kernel
theorem dX3_init_74 : decode cX3_init 74 = .ok (.putfield 34, 3) := by decide +kernel
theorem dX3_init_77 : decode cX3_init 77 = .ok (.aload_n 0, 1) := by decide +kernel
theorem dX3_init_78 : decode cX3_init 78 = .ok (.iconst 0, 1) := by decide +kernel
theorem dX3_init_79 : decode cX3_init 79 = .ok (.putfield 37, 3) := by decide +kernel
theorem dX3_init_82 : decode cX3_init 82 = .ok (.return_, 1) := by decide +kernel
theorem dX3_put_0 : decode cX3_put 0 = .ok (.iload_n 1, 1) := by decide +kernel
theorem dX3_put_1 : decode cX3_put 1 = .ok (.invokestatic 40, 3) := by decide +kernel
theorem dX3_put_4 : decode cX3_put 4 = .ok (.lload_n 3, 1) := by decide +kernel
theorem dX3_put_5 : decode cX3_put 5 = .ok (.lconst 0, 1) := by decide +kernel
theorem dX3_put_6 : decode cX3_put 6 = .ok (.lcmp, 1) := by decide +kernel
theorem dX3_put_7 : decode cX3_put 7 = .ok (.ifCond .lt 11, 3) := by decide +kernel
theorem dX3_put_10 : decode cX3_put 10 = .ok (.lload_n 3, 1) := by decide +kernel
theorem dX3_put_11 : decode cX3_put 11 = .ok (.ldc2_w 44, 3) := by decide +kernel
theorem dX3_put_14 : decode cX3_put 14 = .ok (.lcmp, 1) := by decide +kernel
theorem dX3_put_15 : decode cX3_put 15 = .ok (.ifCond .lt 13, 3) := by decide +kernel
theorem dX3_put_18 : decode cX3_put 18 = .ok (.new 46, 3) := by decide +kernel
theorem dX3_put_21 : decode cX3_put 21 = .ok (.dup, 1) := by decide +kernel
theorem dX3_put_22 : decode cX3_put 22 = .ok (.ldc 48, 2) := by decide +kernel
theorem dX3_put_24 : decode cX3_put 24 = .ok (.invokespecial 50, 3) := by decide +kernel
theorem dX3_put_27 : decode cX3_put 27 = .ok (.athrow, 1) := by decide +kernel
theorem dX3_put_28 : decode cX3_put 28 = .ok (.iload 5, 2) := by decide +kernel
theorem dX3_put_30 : decode cX3_put 30 = .ok (.sipush (-398), 3) := by decide +kernel
theorem dX3_put_33 : decode cX3_put 33 = .ok (.if_icmp .lt 11, 3) := by decide +kernel
theorem dX3_put_36 : decode cX3_put 36 = .ok (.iload 5, 2) := by decide +kernel
theorem dX3_put_38 : decode cX3_put 38 = .ok (.sipush 369, 3) := by decide +kernel
theorem dX3_put_41 : decode cX3_put 41 = .ok (.if_icmp .le 13, 3) := by decide +kernel
theorem dX3_put_44 : decode cX3_put 44 = .ok (.new 46, 3) := by decide +kernel
theorem dX3_put_47 : decode cX3_put 47 = .ok (.dup, 1) := by decide +kernel
theorem dX3_put_48 : decode cX3_put 48 = .ok (.ldc 53, 2) := by decide +kernel
theorem dX3_put_50 : decode cX3_put 50 = .ok (.invokespecial 50, 3) := by decide +kernel
theorem dX3_put_53 : decode cX3_put 53 = .ok (.athrow, 1) := by decide +kernel
theorem dX3_put_54 : decode cX3_put 54 = .ok (.aload_n 0, 1) := by decide +kernel
theorem dX3_put_55 : decode cX3_put 55 = .ok (.getfield 11, 3) := by decide +kernel
theorem dX3_put_58 : decode cX3_put 58 = .ok (.iload_n 1, 1) := by decide +kernel
theorem dX3_put_59 : decode cX3_put 59 = .ok (.aaload, 1) := by decide +kernel
theorem dX3_put_60 : decode cX3_put 60 = .ok (.iload_n 2, 1) := by decide +kernel
theorem dX3_put_61 : decode cX3_put 61 = .ok (.lload_n 3, 1) := by decide +kernel
theorem dX3_put_62 : decode cX3_put 62 = .ok (.iload 5, 2) := by decide +kernel
theorem dX3_put_64 : decode cX3_put 64 = .ok (.invokevirtual 55, 3) := by decide +kernel
theorem dX3_put_67 : decode cX3_put 67 = .ok (.return_, 1) := by decide +kernel
theorem dX3_apply_0 : decode cX3_apply 0 = .ok (.iload_n 2, 1) := by decide +kernel
theorem dX3_apply_1 : decode cX3_apply 1 = .ok (.invokestatic 40, 3) := by decide +kernel
theorem dX3_apply_4 : decode cX3_apply 4 = .ok (.iload_n 3, 1) := by decide +kernel
theorem dX3_apply_5 : decode cX3_apply 5 = .ok (.invokestatic 40, 3) := by decide +kernel
theorem dX3_apply_8 : decode cX3_apply 8 = .ok (.iload 4, 2) := by decide +kernel
theorem dX3_apply_10 : decode cX3_apply 10 = .ok (.invokestatic 40, 3) := by decide +kernel
theorem dX3_apply_13 : decode cX3_apply 13 = .ok (.iload_n 1, 1) := by decide +kernel
theorem dX3_apply_14 : decode cX3_apply 14 = .ok (.ifCond .lt 9, 3) := by decide +kernel
theorem dX3_apply_17 : decode cX3_apply 17 = .ok (.iload_n 1, 1) := by decide +kernel
theorem dX3_apply_18 : decode cX3_apply 18 = .ok (.bipush 6, 2) := by decide +kernel
theorem dX3_apply_20 : decode cX3_apply 20 = .ok (.if_icmp .le 13, 3) := by decide +kernel
theorem dX3_apply_23 : decode cX3_apply 23 = .ok (.new 46, 3) := by decide +kernel
theorem dX3_apply_26 : decode cX3_apply 26 = .ok (.dup, 1) := by decide +kernel
theorem dX3_apply_27 : decode cX3_apply 27 = .ok (.ldc 59, 2) := by decide +kernel
theorem dX3_apply_29 : decode cX3_apply 29 = .ok (.invokespecial 50, 3) := by decide +kernel
theorem dX3_apply_32 : decode cX3_apply 32 = .ok (.athrow, 1) := by decide +kernel
theorem dX3_apply_33 : decode cX3_apply 33 = .ok (.aload_n 0, 1) := by decide +kernel
theorem dX3_apply_34 : decode cX3_apply 34 = .ok (.iload_n 1, 1) := by decide +kernel
theorem dX3_apply_35 : decode cX3_apply 35 = .ok (.iload_n 2, 1) := by decide +kernel
theorem dX3_apply_36 : decode cX3_apply 36 = .ok (.iload_n 3, 1) := by decide +kernel
theorem dX3_apply_37 : decode cX3_apply 37 = .ok (.iload 4, 2) := by decide +kernel
theorem dX3_apply_39 : decode cX3_apply 39 = .ok (.invokevirtual 61, 3) := by decide +kernel
theorem dX3_apply_42 : decode cX3_apply 42 = .ok (.ifCond .ne 13, 3) := by decide +kernel
theorem dX3_apply_45 : decode cX3_apply 45 = .ok (.new 65, 3) := by decide +kernel
theorem dX3_apply_48 : decode cX3_apply 48 = .ok (.dup, 1) := by decide +kernel
theorem dX3_apply_49 : decode cX3_apply 49 = .ok (.ldc 67, 2) := by decide +kernel
theorem dX3_apply_51 : decode cX3_apply 51 = .ok (.invokespecial 69, 3) := by decide +kernel
theorem dX3_apply_54 : decode cX3_apply 54 = .ok (.athrow, 1) := by decide +kernel
theorem dX3_apply_55 : decode cX3_apply 55 = .ok (.return_, 1) := by decide +kernel
theorem dX3_compare_0 : decode cX3_compare 0 = .ok (.iload_n 1, 1) := by decide +kernel
theorem dX3_compare_1 : decode cX3_compare 1 = .ok (.invokestatic 40, 3) := by decide +kernel
theorem dX3_compare_4 : decode cX3_compare 4 = .ok (.iload_n 2, 1) := by decide +kernel
theorem dX3_compare_5 : decode cX3_compare 5 = .ok (.invokestatic 40, 3) := by decide +kernel
theorem dX3_compare_8 : decode cX3_compare 8 = .ok (.aload_n 0, 1) := by decide +kernel
theorem dX3_compare_9 : decode cX3_compare 9 = .ok (.getfield 11, 3) := by decide +kernel
theorem dX3_compare_12 : decode cX3_compare 12 = .ok (.iload_n 1, 1) := by decide +kernel
theorem dX3_compare_13 : decode cX3_compare 13 = .ok (.aaload, 1) := by decide +kernel
theorem dX3_compare_14 : decode cX3_compare 14 = .ok (.getfield 70, 3) := by decide +kernel
theorem dX3_compare_17 : decode cX3_compare 17 = .ok (.iconst 2, 1) := by decide +kernel
theorem dX3_compare_18 : decode cX3_compare 18 = .ok (.if_icmp .eq 16, 3) := by decide +kernel
theorem dX3_compare_21 : decode cX3_compare 21 = .ok (.aload_n 0, 1) := by decide +kernel
theorem dX3_compare_22 : decode cX3_compare 22 = .ok (.getfield 11, 3) := by decide +kernel
theorem dX3_compare_25 : decode cX3_compare 25 = .ok (.iload_n 2, 1) := by decide +kernel
theorem dX3_compare_26 : decode cX3_compare 26 = .ok (.aaload, 1) := by decide +kernel
theorem dX3_compare_27 : decode cX3_compare 27 = .ok (.getfield 70, 3) := by decide +kernel
theorem dX3_compare_30 : decode cX3_compare 30 = .ok (.iconst 2, 1) := by decide +kernel
theorem dX3_compare_31 : decode cX3_compare 31 = .ok (.if_icmp .ne 5, 3) := by decide +kernel
theorem dX3_compare_34 : decode cX3_compare 34 = .ok (.iconst 2, 1) := by decide +kernel
theorem dX3_compare_35 : decode cX3_compare 35 = .ok (.ireturn, 1) := by decide +kernel
theorem dX3_compare_36 : decode cX3_compare 36 = .ok (.aload_n 0, 1) := by decide +kernel
theorem dX3_compare_37 : decode cX3_compare 37 = .ok (.getfield 11, 3) := by decide +kernel
theorem dX3_compare_40 : decode cX3_compare 40 = .ok (.iload_n 1, 1) := by decide +kernel
theorem dX3_compare_41 : decode cX3_compare 41 = .ok (.aaload, 1) := by decide +kernel
theorem dX3_compare_42 : decode cX3_compare 42 = .ok (.aload_n 0, 1) := by decide +kernel
theorem dX3_compare_43 : decode cX3_compare 43 = .ok (.getfield 11, 3) := by decide +kernel
theorem dX3_compare_46 : decode cX3_compare 46 = .ok (.iload_n 2, 1) := by decide +kernel
theorem dX3_compare_47 : decode cX3_compare 47 = .ok (.aaload, 1) := by decide +kernel
theorem dX3_compare_48 : decode cX3_compare 48 = .ok (.invokestatic 73, 3) := by decide +kernel
theorem dX3_compare_51 : decode cX3_compare 51 = .ok (.ireturn, 1) := by decide +kernel
theorem dX3_kind_0 : decode cX3_kind 0 = .ok (.iload_n 1, 1) := by decide +kernel
theorem dX3_kind_1 : decode cX3_kind 1 = .ok (.invokestatic 40, 3) := by decide +kernel
theorem dX3_kind_4 : decode cX3_kind 4 = .ok (.aload_n 0, 1) := by decide +kernel
theorem dX3_kind_5 : decode cX3_kind 5 = .ok (.getfield 11, 3) := by decide +kernel
theorem dX3_kind_8 : decode cX3_kind 8 = .ok (.iload_n 1, 1) := by decide +kernel
theorem dX3_kind_9 : decode cX3_kind 9 = .ok (.aaload, 1) := by decide +kernel
theorem dX3_kind_10 : decode cX3_kind 10 = .ok (.getfield 70, 3) := by decide +kernel
theorem dX3_kind_13 : decode cX3_kind 13 = .ok (.aload_n 0, 1) := by decide +kernel
theorem dX3_kind_14 : decode cX3_kind 14 = .ok (.getfield 11, 3) := by decide +kernel
theorem dX3_kind_17 : decode cX3_kind 17 = .ok (.iload_n 1, 1) := by decide +kernel
theorem dX3_kind_18 : decode cX3_kind 18 = .ok (.aaload, 1) := by decide +kernel
theorem dX3_kind_19 : decode cX3_kind 19 = .ok (.getfield 77, 3) := by decide +kernel
theorem dX3_kind_22 : decode cX3_kind 22 = .ok (.ifCond .eq 7, 3) := by decide +kernel
theorem dX3_kind_25 : decode cX3_kind 25 = .ok (.iconst 4, 1) := by decide +kernel
theorem dX3_kind_26 : decode cX3_kind 26 = .ok (.goto 4, 3) := by decide +kernel
theorem dX3_kind_29 : decode cX3_kind 29 = .ok (.iconst 0, 1) := by decide +kernel
theorem dX3_kind_30 : decode cX3_kind 30 = .ok (.iadd, 1) := by decide +kernel
theorem dX3_kind_31 : decode cX3_kind 31 = .ok (.ireturn, 1) := by decide +kernel
theorem dX3_coefficient_0 : decode cX3_coefficient 0 = .ok (.iload_n 1, 1) := by decide +kernel
theorem dX3_coefficient_1 : decode cX3_coefficient 1 = .ok (.invokestatic 40, 3) := by decide +kernel
theorem dX3_coefficient_4 : decode cX3_coefficient 4 = .ok (.aload_n 0, 1) := by decide +kernel
theorem dX3_coefficient_5 : decode cX3_coefficient 5 = .ok (.getfield 11, 3) := by decide +kernel
theorem dX3_coefficient_8 : decode cX3_coefficient 8 = .ok (.iload_n 1, 1) := by decide +kernel
theorem dX3_coefficient_9 : decode cX3_coefficient 9 = .ok (.aaload, 1) := by decide +kernel
theorem dX3_coefficient_10 : decode cX3_coefficient 10 = .ok (.getfield 81, 3) := by decide +kernel
theorem dX3_coefficient_13 : decode cX3_coefficient 13 = .ok (.lreturn, 1) := by decide +kernel
theorem dX3_exponent_0 : decode cX3_exponent 0 = .ok (.iload_n 1, 1) := by decide +kernel
theorem dX3_exponent_1 : decode cX3_exponent 1 = .ok (.invokestatic 40, 3) := by decide +kernel
theorem dX3_exponent_4 : decode cX3_exponent 4 = .ok (.aload_n 0, 1) := by decide +kernel
theorem dX3_exponent_5 : decode cX3_exponent 5 = .ok (.getfield 11, 3) := by decide +kernel
theorem dX3_exponent_8 : decode cX3_exponent 8 = .ok (.iload_n 1, 1) := by decide +kernel
theorem dX3_exponent_9 : decode cX3_exponent 9 = .ok (.aaload, 1) := by decide +kernel
theorem dX3_exponent_10 : decode cX3_exponent 10 = .ok (.getfield 85, 3) := by decide +kernel
theorem dX3_exponent_13 : decode cX3_exponent 13 = .ok (.ireturn, 1) := by decide +kernel
theorem dX3_pack_0 : decode cX3_pack 0 = .ok (.iload_n 1, 1) := by decide +kernel
theorem dX3_pack_1 : decode cX3_pack 1 = .ok (.invokestatic 40, 3) := by decide +kernel
theorem dX3_pack_4 : decode cX3_pack 4 = .ok (.iload_n 2, 1) := by decide +kernel
theorem dX3_pack_5 : decode cX3_pack 5 = .ok (.invokestatic 88, 3) := by decide +kernel
theorem dX3_pack_8 : decode cX3_pack 8 = .ok (.aload_n 0, 1) := by decide +kernel
theorem dX3_pack_9 : decode cX3_pack 9 = .ok (.getfield 11, 3) := by decide +kernel
theorem dX3_pack_12 : decode cX3_pack 12 = .ok (.iload_n 1, 1) := by decide +kernel
theorem dX3_pack_13 : decode cX3_pack 13 = .ok (.aaload, 1) := by decide +kernel
theorem dX3_pack_14 : decode cX3_pack 14 = .ok (.iload_n 2, 1) := by decide +kernel
theorem dX3_pack_15 : decode cX3_pack 15 = .ok (.iconst 1, 1) := by decide +kernel
theorem dX3_pack_16 : decode cX3_pack 16 = .ok (.if_icmp .ne 7, 3) := by decide +kernel
theorem dX3_pack_19 : decode cX3_pack 19 = .ok (.iconst 1, 1) := by decide +kernel
theorem dX3_pack_20 : decode cX3_pack 20 = .ok (.goto 4, 3) := by decide +kernel
theorem dX3_pack_23 : decode cX3_pack 23 = .ok (.iconst 0, 1) := by decide +kernel
theorem dX3_pack_24 : decode cX3_pack 24 = .ok (.invokestatic 91, 3) := by decide +kernel
theorem dX3_pack_27 : decode cX3_pack 27 = .ok (.lreturn, 1) := by decide +kernel
theorem dX3_unpack_0 : decode cX3_unpack 0 = .ok (.iload_n 1, 1) := by decide +kernel
theorem dX3_unpack_1 : decode cX3_unpack 1 = .ok (.invokestatic 40, 3) := by decide +kernel
theorem dX3_unpack_4 : decode cX3_unpack 4 = .ok (.iload_n 2, 1) := by decide +kernel
theorem dX3_unpack_5 : decode cX3_unpack 5 = .ok (.invokestatic 88, 3) := by decide +kernel
theorem dX3_unpack_8 : decode cX3_unpack 8 = .ok (.aload_n 0, 1) := by decide +kernel
theorem dX3_unpack_9 : decode cX3_unpack 9 = .ok (.getfield 11, 3) := by decide +kernel
theorem dX3_unpack_12 : decode cX3_unpack 12 = .ok (.iload_n 1, 1) := by decide +kernel
theorem dX3_unpack_13 : decode cX3_unpack 13 = .ok (.aaload, 1) := by decide +kernel
theorem dX3_unpack_14 : decode cX3_unpack 14 = .ok (.iload_n 2, 1) := by decide +kernel
theorem dX3_unpack_15 : decode cX3_unpack 15 = .ok (.iconst 1, 1) := by decide +kernel
theorem dX3_unpack_16 : decode cX3_unpack 16 = .ok (.if_icmp .ne 7, 3) := by decide +kernel
theorem dX3_unpack_19 : decode cX3_unpack 19 = .ok (.iconst 1, 1) := by decide +kernel
theorem dX3_unpack_20 : decode cX3_unpack 20 = .ok (.goto 4, 3) := by decide +kernel
theorem dX3_unpack_23 : decode cX3_unpack 23 = .ok (.iconst 0, 1) := by decide +kernel
theorem dX3_unpack_24 : decode cX3_unpack 24 = .ok (.lload_n 3, 1) := by decide +kernel
theorem dX3_unpack_25 : decode cX3_unpack 25 = .ok (.invokestatic 97, 3) := by decide +kernel
theorem dX3_unpack_28 : decode cX3_unpack 28 = .ok (.return_, 1) := by decide +kernel
theorem dX3_mode_0 : decode cX3_mode 0 = .ok (.iload_n 1, 1) := by decide +kernel
theorem dX3_mode_1 : decode cX3_mode 1 = .ok (.ifCond .lt 8, 3) := by decide +kernel
theorem dX3_mode_4 : decode cX3_mode 4 = .ok (.iload_n 1, 1) := by decide +kernel
theorem dX3_mode_5 : decode cX3_mode 5 = .ok (.iconst 4, 1) := by decide +kernel
theorem dX3_mode_6 : decode cX3_mode 6 = .ok (.if_icmp .le 13, 3) := by decide +kernel
theorem dX3_mode_9 : decode cX3_mode 9 = .ok (.new 46, 3) := by decide +kernel
theorem dX3_mode_12 : decode cX3_mode 12 = .ok (.dup, 1) := by decide +kernel
theorem dX3_mode_13 : decode cX3_mode 13 = .ok (.ldc 101, 2) := by decide +kernel
theorem dX3_mode_15 : decode cX3_mode 15 = .ok (.invokespecial 50, 3) := by decide +kernel
theorem dX3_mode_18 : decode cX3_mode 18 = .ok (.athrow, 1) := by decide +kernel
theorem dX3_mode_19 : decode cX3_mode 19 = .ok (.aload_n 0, 1) := by decide +kernel
theorem dX3_mode_20 : decode cX3_mode 20 = .ok (.iload_n 1, 1) := by decide +kernel
theorem dX3_mode_21 : decode cX3_mode 21 = .ok (.putfield 27, 3) := by decide +kernel
theorem dX3_mode_24 : decode cX3_mode 24 = .ok (.return_, 1) := by decide +kernel
theorem dX3_trap_0 : decode cX3_trap 0 = .ok (.iload_n 1, 1) := by decide +kernel
theorem dX3_trap_1 : decode cX3_trap 1 = .ok (.ifCond .lt 9, 3) := by decide +kernel
theorem dX3_trap_4 : decode cX3_trap 4 = .ok (.iload_n 1, 1) := by decide +kernel
theorem dX3_trap_5 : decode cX3_trap 5 = .ok (.bipush 31, 2) := by decide +kernel
theorem dX3_trap_7 : decode cX3_trap 7 = .ok (.if_icmp .le 13, 3) := by decide +kernel
theorem dX3_trap_10 : decode cX3_trap 10 = .ok (.new 46, 3) := by decide +kernel
theorem dX3_trap_13 : decode cX3_trap 13 = .ok (.dup, 1) := by decide +kernel
theorem dX3_trap_14 : decode cX3_trap 14 = .ok (.ldc 103, 2) := by decide +kernel
theorem dX3_trap_16 : decode cX3_trap 16 = .ok (.invokespecial 50, 3) := by decide +kernel
theorem dX3_trap_19 : decode cX3_trap 19 = .ok (.athrow, 1) := by decide +kernel
theorem dX3_trap_20 : decode cX3_trap 20 = .ok (.aload_n 0, 1) := by decide +kernel
theorem dX3_trap_21 : decode cX3_trap 21 = .ok (.iload_n 1, 1) := by decide +kernel
theorem dX3_trap_22 : decode cX3_trap 22 = .ok (.putfield 31, 3) := by decide +kernel
theorem dX3_trap_25 : decode cX3_trap 25 = .ok (.return_, 1) := by decide +kernel
theorem dX3_flags_0 : decode cX3_flags 0 = .ok (.aload_n 0, 1) := by decide +kernel
theorem dX3_flags_1 : decode cX3_flags 1 = .ok (.getfield 34, 3) := by decide +kernel
theorem dX3_flags_4 : decode cX3_flags 4 = .ok (.ireturn, 1) := by decide +kernel
theorem dX3_lower_0 : decode cX3_lower 0 = .ok (.aload_n 0, 1) := by decide +kernel
theorem dX3_lower_1 : decode cX3_lower 1 = .ok (.iconst 0, 1) := by decide +kernel
theorem dX3_lower_2 : decode cX3_lower 2 = .ok (.putfield 34, 3) := by decide +kernel
theorem dX3_lower_5 : decode cX3_lower 5 = .ok (.return_, 1) := by decide +kernel
theorem dX3_sum_0 : decode cX3_sum 0 = .ok (.iload_n 1, 1) := by decide +kernel
theorem dX3_sum_1 : decode cX3_sum 1 = .ok (.invokestatic 40, 3) := by decide +kernel
theorem dX3_sum_4 : decode cX3_sum 4 = .ok (.iload_n 2, 1) := by decide +kernel
theorem dX3_sum_5 : decode cX3_sum 5 = .ok (.invokestatic 40, 3) := by decide +kernel
theorem dX3_sum_8 : decode cX3_sum 8 = .ok (.iload_n 3, 1) := by decide +kernel
theorem dX3_sum_9 : decode cX3_sum 9 = .ok (.invokestatic 40, 3) := by decide +kernel
theorem dX3_sum_12 : decode cX3_sum 12 = .ok (.iconst 0, 1) := by decide +kernel
theorem dX3_sum_13 : decode cX3_sum 13 = .ok (.istore 4, 2) := by decide +kernel
theorem dX3_sum_15 : decode cX3_sum 15 = .ok (.iload_n 2, 1) := by decide +kernel
theorem dX3_sum_16 : decode cX3_sum 16 = .ok (.istore 5, 2) := by decide +kernel
theorem dX3_sum_18 : decode cX3_sum 18 = .ok (.iload 5, 2) := by decide +kernel
theorem dX3_sum_20 : decode cX3_sum 20 = .ok (.iload_n 3, 1) := by decide +kernel
theorem dX3_sum_21 : decode cX3_sum 21 = .ok (.if_icmp .gt 24, 3) := by decide +kernel
theorem dX3_sum_24 : decode cX3_sum 24 = .ok (.aload_n 0, 1) := by decide +kernel
theorem dX3_sum_25 : decode cX3_sum 25 = .ok (.iconst 0, 1) := by decide +kernel
theorem dX3_sum_26 : decode cX3_sum 26 = .ok (.iload_n 1, 1) := by decide +kernel
theorem dX3_sum_27 : decode cX3_sum 27 = .ok (.iload_n 1, 1) := by decide +kernel
theorem dX3_sum_28 : decode cX3_sum 28 = .ok (.iload 5, 2) := by decide +kernel
theorem dX3_sum_30 : decode cX3_sum 30 = .ok (.invokevirtual 61, 3) := by decide +kernel
theorem dX3_sum_33 : decode cX3_sum 33 = .ok (.ifCond .ne 6, 3) := by decide +kernel
theorem dX3_sum_36 : decode cX3_sum 36 = .ok (.iinc 4 1, 3) := by decide +kernel
theorem dX3_sum_39 : decode cX3_sum 39 = .ok (.iinc 5 1, 3) := by decide +kernel
theorem dX3_sum_42 : decode cX3_sum 42 = .ok (.goto (-24), 3) := by decide +kernel
theorem dX3_sum_45 : decode cX3_sum 45 = .ok (.iload 4, 2) := by decide +kernel
theorem dX3_sum_47 : decode cX3_sum 47 = .ok (.ireturn, 1) := by decide +kernel
theorem dX3_needRegister_0 : decode cX3_needRegister 0 = .ok (.iload_n 0, 1) := by decide +kernel
theorem dX3_needRegister_1 : decode cX3_needRegister 1 = .ok (.ifCond .lt 9, 3) := by decide +kernel
theorem dX3_needRegister_4 : decode cX3_needRegister 4 = .ok (.iload_n 0, 1) := by decide +kernel
theorem dX3_needRegister_5 : decode cX3_needRegister 5 = .ok (.bipush 8, 2) := by decide +kernel
theorem dX3_needRegister_7 : decode cX3_needRegister 7 = .ok (.if_icmp .lt 13, 3) := by decide +kernel
theorem dX3_needRegister_10 : decode cX3_needRegister 10 = .ok (.new 105, 3) := by decide +kernel
theorem dX3_needRegister_13 : decode cX3_needRegister 13 = .ok (.dup, 1) := by decide +kernel
theorem dX3_needRegister_14 : decode cX3_needRegister 14 = .ok (.ldc 107, 2) := by decide +kernel
theorem dX3_needRegister_16 : decode cX3_needRegister 16 = .ok (.invokespecial 109, 3) := by decide +kernel
theorem dX3_needRegister_19 : decode cX3_needRegister 19 = .ok (.athrow, 1) := by decide +kernel
theorem dX3_needRegister_20 : decode cX3_needRegister 20 = .ok (.return_, 1) := by decide +kernel
theorem dX3_needWay_0 : decode cX3_needWay 0 = .ok (.iload_n 0, 1) := by decide +kernel
theorem dX3_needWay_1 : decode cX3_needWay 1 = .ok (.ifCond .eq 18, 3) := by decide +kernel
theorem dX3_needWay_4 : decode cX3_needWay 4 = .ok (.iload_n 0, 1) := by decide +kernel
theorem dX3_needWay_5 : decode cX3_needWay 5 = .ok (.iconst 1, 1) := by decide +kernel
theorem dX3_needWay_6 : decode cX3_needWay 6 = .ok (.if_icmp .eq 13, 3) := by decide +kernel
theorem dX3_needWay_9 : decode cX3_needWay 9 = .ok (.new 46, 3) := by decide +kernel
theorem dX3_needWay_12 : decode cX3_needWay 12 = .ok (.dup, 1) := by decide +kernel
theorem dX3_needWay_13 : decode cX3_needWay 13 = .ok (.ldc 110, 2) := by decide +kernel
theorem dX3_needWay_15 : decode cX3_needWay 15 = .ok (.invokespecial 50, 3) := by decide +kernel
theorem dX3_needWay_18 : decode cX3_needWay 18 = .ok (.athrow, 1) := by decide +kernel
theorem dX3_needWay_19 : decode cX3_needWay 19 = .ok (.return_, 1) := by decide +kernel
theorem dX3_operate_0 : decode cX3_operate 0 = .ok (.aload_n 0, 1) := by decide +kernel
theorem dX3_operate_1 : decode cX3_operate 1 = .ok (.iconst 0, 1) := by decide +kernel
theorem dX3_operate_2 : decode cX3_operate 2 = .ok (.putfield 37, 3) := by decide +kernel
theorem dX3_operate_5 : decode cX3_operate 5 = .ok (.aload_n 0, 1) := by decide +kernel
theorem dX3_operate_6 : decode cX3_operate 6 = .ok (.iload_n 1, 1) := by decide +kernel
theorem dX3_operate_7 : decode cX3_operate 7 = .ok (.aload_n 0, 1) := by decide +kernel
theorem dX3_operate_8 : decode cX3_operate 8 = .ok (.getfield 11, 3) := by decide +kernel
theorem dX3_operate_11 : decode cX3_operate 11 = .ok (.iload_n 3, 1) := by decide +kernel
theorem dX3_operate_12 : decode cX3_operate 12 = .ok (.aaload, 1) := by decide +kernel
theorem dX3_operate_13 : decode cX3_operate 13 = .ok (.aload_n 0, 1) := by decide +kernel
theorem dX3_operate_14 : decode cX3_operate 14 = .ok (.getfield 11, 3) := by decide +kernel
theorem dX3_operate_17 : decode cX3_operate 17 = .ok (.iload 4, 2) := by decide +kernel
theorem dX3_operate_19 : decode cX3_operate 19 = .ok (.aaload, 1) := by decide +kernel
theorem dX3_operate_20 : decode cX3_operate 20 = .ok (.invokevirtual 112, 3) := by decide +kernel
theorem dX3_operate_23 : decode cX3_operate 23 = .ok (.aload_n 0, 1) := by decide +kernel
theorem dX3_operate_24 : decode cX3_operate 24 = .ok (.dup, 1) := by decide +kernel
theorem dX3_operate_25 : decode cX3_operate 25 = .ok (.getfield 34, 3) := by decide +kernel
theorem dX3_operate_28 : decode cX3_operate 28 = .ok (.aload_n 0, 1) := by decide +kernel
theorem dX3_operate_29 : decode cX3_operate 29 = .ok (.getfield 37, 3) := by decide +kernel
theorem dX3_operate_32 : decode cX3_operate 32 = .ok (.ior, 1) := by decide +kernel
theorem dX3_operate_33 : decode cX3_operate 33 = .ok (.putfield 34, 3) := by decide +kernel
theorem dX3_operate_36 : decode cX3_operate 36 = .ok (.aload_n 0, 1) := by decide +kernel
theorem dX3_operate_37 : decode cX3_operate 37 = .ok (.getfield 37, 3) := by decide +kernel
theorem dX3_operate_40 : decode cX3_operate 40 = .ok (.aload_n 0, 1) := by decide +kernel
theorem dX3_operate_41 : decode cX3_operate 41 = .ok (.getfield 31, 3) := by decide +kernel
theorem dX3_operate_44 : decode cX3_operate 44 = .ok (.iand, 1) := by decide +kernel
theorem dX3_operate_45 : decode cX3_operate 45 = .ok (.ifCond .eq 5, 3) := by decide +kernel
theorem dX3_operate_48 : decode cX3_operate 48 = .ok (.iconst 0, 1) := by decide +kernel
theorem dX3_operate_49 : decode cX3_operate 49 = .ok (.ireturn, 1) := by decide +kernel
theorem dX3_operate_50 : decode cX3_operate 50 = .ok (.aload_n 0, 1) := by decide +kernel
theorem dX3_operate_51 : decode cX3_operate 51 = .ok (.getfield 11, 3) := by decide +kernel
theorem dX3_operate_54 : decode cX3_operate 54 = .ok (.iload_n 2, 1) := by decide +kernel
theorem dX3_operate_55 : decode cX3_operate 55 = .ok (.aaload, 1) := by decide +kernel
theorem dX3_operate_56 : decode cX3_operate 56 = .ok (.aload_n 0, 1) := by decide +kernel
theorem dX3_operate_57 : decode cX3_operate 57 = .ok (.getfield 16, 3) := by decide +kernel
theorem dX3_operate_60 : decode cX3_operate 60 = .ok (.invokevirtual 116, 3) := by decide +kernel
theorem dX3_operate_63 : decode cX3_operate 63 = .ok (.iconst 1, 1) := by decide +kernel
theorem dX3_operate_64 : decode cX3_operate 64 = .ok (.ireturn, 1) := by decide +kernel
theorem dX3_setResult_0 : decode cX3_setResult 0 = .ok (.iload_n 1, 1) := by decide +kernel
theorem dX3_setResult_1 : decode cX3_setResult 1 = .ok (.bipush 6, 2) := by decide +kernel
theorem dX3_setResult_3 : decode cX3_setResult 3 = .ok (.if_icmp .ne 11, 3) := by decide +kernel
theorem dX3_setResult_6 : decode cX3_setResult 6 = .ok (.aload_n 0, 1) := by decide +kernel
theorem dX3_setResult_7 : decode cX3_setResult 7 = .ok (.aload_n 2, 1) := by decide +kernel
theorem dX3_setResult_8 : decode cX3_setResult 8 = .ok (.invokevirtual 120, 3) := by decide +kernel
theorem dX3_setResult_11 : decode cX3_setResult 11 = .ok (.goto 90, 3) := by decide +kernel
theorem dX3_setResult_14 : decode cX3_setResult 14 = .ok (.aload_n 2, 1) := by decide +kernel
theorem dX3_setResult_15 : decode cX3_setResult 15 = .ok (.getfield 70, 3) := by decide +kernel
theorem dX3_setResult_18 : decode cX3_setResult 18 = .ok (.iconst 2, 1) := by decide +kernel
theorem dX3_setResult_19 : decode cX3_setResult 19 = .ok (.if_icmp .eq 11, 3) := by decide +kernel
theorem dX3_setResult_22 : decode cX3_setResult 22 = .ok (.aload_n 3, 1) := by decide +kernel
theorem dX3_setResult_23 : decode cX3_setResult 23 = .ok (.getfield 70, 3) := by decide +kernel
theorem dX3_setResult_26 : decode cX3_setResult 26 = .ok (.iconst 2, 1) := by decide +kernel
theorem dX3_setResult_27 : decode cX3_setResult 27 = .ok (.if_icmp .ne 13, 3) := by decide +kernel
theorem dX3_setResult_30 : decode cX3_setResult 30 = .ok (.aload_n 0, 1) := by decide +kernel
theorem dX3_setResult_31 : decode cX3_setResult 31 = .ok (.getfield 16, 3) := by decide +kernel
theorem dX3_setResult_34 : decode cX3_setResult 34 = .ok (.invokevirtual 123, 3) := by decide +kernel
theorem dX3_setResult_37 : decode cX3_setResult 37 = .ok (.goto 64, 3) := by decide +kernel
theorem dX3_setResult_40 : decode cX3_setResult 40 = .ok (.iload_n 1, 1) := by decide +kernel
theorem dX3_setResult_41 : decode cX3_setResult 41 = .ok (.iconst 5, 1) := by decide +kernel
theorem dX3_setResult_42 : decode cX3_setResult 42 = .ok (.if_icmp .ne 26, 3) := by decide +kernel
theorem dX3_setResult_45 : decode cX3_setResult 45 = .ok (.aload_n 0, 1) := by decide +kernel
theorem dX3_setResult_46 : decode cX3_setResult 46 = .ok (.getfield 16, 3) := by decide +kernel
theorem dX3_setResult_49 : decode cX3_setResult 49 = .ok (.aload_n 3, 1) := by decide +kernel
theorem dX3_setResult_50 : decode cX3_setResult 50 = .ok (.aload_n 2, 1) := by decide +kernel
theorem dX3_setResult_51 : decode cX3_setResult 51 = .ok (.invokestatic 73, 3) := by decide +kernel
theorem dX3_setResult_54 : decode cX3_setResult 54 = .ok (.ifCond .ge 7, 3) := by decide +kernel
theorem dX3_setResult_57 : decode cX3_setResult 57 = .ok (.aload_n 3, 1) := by decide +kernel
theorem dX3_setResult_58 : decode cX3_setResult 58 = .ok (.goto 4, 3) := by decide +kernel
theorem dX3_setResult_61 : decode cX3_setResult 61 = .ok (.aload_n 2, 1) := by decide +kernel
theorem dX3_setResult_62 : decode cX3_setResult 62 = .ok (.invokevirtual 116, 3) := by decide +kernel
theorem dX3_setResult_65 : decode cX3_setResult 65 = .ok (.goto 36, 3) := by decide +kernel
theorem dX3_setResult_68 : decode cX3_setResult 68 = .ok (.aload_n 2, 1) := by decide +kernel
theorem dX3_setResult_69 : decode cX3_setResult 69 = .ok (.getfield 70, 3) := by decide +kernel
theorem dX3_setResult_72 : decode cX3_setResult 72 = .ok (.iconst 1, 1) := by decide +kernel
theorem dX3_setResult_73 : decode cX3_setResult 73 = .ok (.if_icmp .eq 11, 3) := by decide +kernel
theorem dX3_setResult_76 : decode cX3_setResult 76 = .ok (.aload_n 3, 1) := by decide +kernel
theorem dX3_setResult_77 : decode cX3_setResult 77 = .ok (.getfield 70, 3) := by decide +kernel
theorem dX3_setResult_80 : decode cX3_setResult 80 = .ok (.iconst 1, 1) := by decide +kernel
theorem dX3_setResult_81 : decode cX3_setResult 81 = .ok (.if_icmp .ne 13, 3) := by decide +kernel
theorem dX3_setResult_84 : decode cX3_setResult 84 = .ok (.aload_n 0, 1) := by decide +kernel
theorem dX3_setResult_85 : decode cX3_setResult 85 = .ok (.iload_n 1, 1) := by decide +kernel
theorem dX3_setResult_86 : decode cX3_setResult 86 = .ok (.aload_n 2, 1) := by decide +kernel
theorem dX3_setResult_87 : decode cX3_setResult 87 = .ok (.aload_n 3, 1) := by decide +kernel
theorem dX3_setResult_88 : decode cX3_setResult 88 = .ok (.invokevirtual 126, 3) := by decide +kernel
theorem dX3_setResult_91 : decode cX3_setResult 91 = .ok (.goto 10, 3) := by decide +kernel
theorem dX3_setResult_94 : decode cX3_setResult 94 = .ok (.aload_n 0, 1) := by decide +kernel
theorem dX3_setResult_95 : decode cX3_setResult 95 = .ok (.iload_n 1, 1) := by decide +kernel
theorem dX3_setResult_96 : decode cX3_setResult 96 = .ok (.aload_n 2, 1) := by decide +kernel
theorem dX3_setResult_97 : decode cX3_setResult 97 = .ok (.aload_n 3, 1) := by decide +kernel
theorem dX3_setResult_98 : decode cX3_setResult 98 = .ok (.invokevirtual 129, 3) := by decide +kernel
theorem dX3_setResult_101 : decode cX3_setResult 101 = .ok (.return_, 1) := by decide +kernel
theorem dX3_setFromInfinity_0 : decode cX3_setFromInfinity 0 = .ok (.aload_n 2, 1) := by decide +kernel
theorem dX3_setFromInfinity_1 : decode cX3_setFromInfinity 1 = .ok (.getfield 77, 3) := by decide +kernel
theorem dX3_setFromInfinity_4 : decode cX3_setFromInfinity 4 = .ok (.aload_n 3, 1) := by decide +kernel
theorem dX3_setFromInfinity_5 : decode cX3_setFromInfinity 5 = .ok (.getfield 77, 3) := by decide +kernel
theorem dX3_setFromInfinity_8 : decode cX3_setFromInfinity 8 = .ok (.if_icmp .eq 7, 3) := by decide +kernel
theorem dX3_setFromInfinity_11 : decode cX3_setFromInfinity 11 = .ok (.iconst 1, 1) := by decide +kernel
theorem dX3_setFromInfinity_12 : decode cX3_setFromInfinity 12 = .ok (.goto 4, 3) := by decide +kernel
theorem dX3_setFromInfinity_15 : decode cX3_setFromInfinity 15 = .ok (.iconst 0, 1) := by decide +kernel
theorem dX3_setFromInfinity_16 : decode cX3_setFromInfinity 16 = .ok (.istore 4, 2) := by decide +kernel
theorem dX3_setFromInfinity_18 : decode cX3_setFromInfinity 18 = .ok (.aload_n 2, 1) := by decide +kernel
theorem dX3_setFromInfinity_19 : decode cX3_setFromInfinity 19 = .ok (.getfield 70, 3) := by decide +kernel
theorem dX3_setFromInfinity_22 : decode cX3_setFromInfinity 22 = .ok (.aload_n 3, 1) := by decide +kernel
theorem dX3_setFromInfinity_23 : decode cX3_setFromInfinity 23 = .ok (.getfield 70, 3) := by decide +kernel
theorem dX3_setFromInfinity_26 : decode cX3_setFromInfinity 26 = .ok (.if_icmp .ne 7, 3) := by decide +kernel
theorem dX3_setFromInfinity_29 : decode cX3_setFromInfinity 29 = .ok (.iconst 1, 1) := by decide +kernel
theorem dX3_setFromInfinity_30 : decode cX3_setFromInfinity 30 = .ok (.goto 4, 3) := by decide +kernel
theorem dX3_setFromInfinity_33 : decode cX3_setFromInfinity 33 = .ok (.iconst 0, 1) := by decide +kernel
theorem dX3_setFromInfinity_34 : decode cX3_setFromInfinity 34 = .ok (.istore 5, 2) := by decide +kernel
theorem dX3_setFromInfinity_36 : decode cX3_setFromInfinity 36 = .ok (.iload_n 1, 1) := by decide +kernel
theorem dX3_setFromInfinity_37 : decode cX3_setFromInfinity 37 = .ok (.tableswitch 150 0 4 #[35, 48, 69, 102, 150], 35) := by decide +kernel
theorem dX3_setFromInfinity_72 : decode cX3_setFromInfinity 72 = .ok (.aload_n 0, 1) := by decide +kernel
theorem dX3_setFromInfinity_73 : decode cX3_setFromInfinity 73 = .ok (.aload_n 2, 1) := by decide +kernel
theorem dX3_setFromInfinity_74 : decode cX3_setFromInfinity 74 = .ok (.aload_n 3, 1) := by decide +kernel
theorem dX3_setFromInfinity_75 : decode cX3_setFromInfinity 75 = .ok (.aload_n 3, 1) := by decide +kernel
theorem dX3_setFromInfinity_76 : decode cX3_setFromInfinity 76 = .ok (.getfield 77, 3) := by decide +kernel
theorem dX3_setFromInfinity_79 : decode cX3_setFromInfinity 79 = .ok (.invokevirtual 132, 3) := by decide +kernel
theorem dX3_setFromInfinity_82 : decode cX3_setFromInfinity 82 = .ok (.goto 125, 3) := by decide +kernel
theorem dX3_setFromInfinity_85 : decode cX3_setFromInfinity 85 = .ok (.aload_n 0, 1) := by decide +kernel
theorem dX3_setFromInfinity_86 : decode cX3_setFromInfinity 86 = .ok (.aload_n 2, 1) := by decide +kernel
theorem dX3_setFromInfinity_87 : decode cX3_setFromInfinity 87 = .ok (.aload_n 3, 1) := by decide +kernel
theorem dX3_setFromInfinity_88 : decode cX3_setFromInfinity 88 = .ok (.aload_n 3, 1) := by decide +kernel
theorem dX3_setFromInfinity_89 : decode cX3_setFromInfinity 89 = .ok (.getfield 77, 3) := by decide +kernel
theorem dX3_setFromInfinity_92 : decode cX3_setFromInfinity 92 = .ok (.ifCond .ne 7, 3) := by decide +kernel
theorem dX3_setFromInfinity_95 : decode cX3_setFromInfinity 95 = .ok (.iconst 1, 1) := by decide +kernel
theorem dX3_setFromInfinity_96 : decode cX3_setFromInfinity 96 = .ok (.goto 4, 3) := by decide +kernel
theorem dX3_setFromInfinity_99 : decode cX3_setFromInfinity 99 = .ok (.iconst 0, 1) := by decide +kernel
theorem dX3_setFromInfinity_100 : decode cX3_setFromInfinity 100 = .ok (.invokevirtual 132, 3) := by decide +kernel
theorem dX3_setFromInfinity_103 : decode cX3_setFromInfinity 103 = .ok (.goto 104, 3) := by decide +kernel
theorem dX3_setFromInfinity_106 : decode cX3_setFromInfinity 106 = .ok (.aload_n 2, 1) := by decide +kernel
theorem dX3_setFromInfinity_107 : decode cX3_setFromInfinity 107 = .ok (.invokevirtual 136, 3) := by decide +kernel
theorem dX3_setFromInfinity_110 : decode cX3_setFromInfinity 110 = .ok (.ifCond .ne 10, 3) := by decide +kernel
theorem dX3_setFromInfinity_113 : decode cX3_setFromInfinity 113 = .ok (.aload_n 3, 1) := by decide +kernel
theorem dX3_setFromInfinity_114 : decode cX3_setFromInfinity 114 = .ok (.invokevirtual 136, 3) := by decide +kernel
theorem dX3_setFromInfinity_117 : decode cX3_setFromInfinity 117 = .ok (.ifCond .eq 10, 3) := by decide +kernel
theorem dX3_setFromInfinity_120 : decode cX3_setFromInfinity 120 = .ok (.aload_n 0, 1) := by decide +kernel
theorem dX3_setFromInfinity_121 : decode cX3_setFromInfinity 121 = .ok (.invokevirtual 140, 3) := by decide +kernel
theorem dX3_setFromInfinity_124 : decode cX3_setFromInfinity 124 = .ok (.goto 83, 3) := by decide +kernel
theorem dX3_setFromInfinity_127 : decode cX3_setFromInfinity 127 = .ok (.aload_n 0, 1) := by decide +kernel
theorem dX3_setFromInfinity_128 : decode cX3_setFromInfinity 128 = .ok (.getfield 16, 3) := by decide +kernel
theorem dX3_setFromInfinity_131 : decode cX3_setFromInfinity 131 = .ok (.iload 4, 2) := by decide +kernel
theorem dX3_setFromInfinity_133 : decode cX3_setFromInfinity 133 = .ok (.invokevirtual 143, 3) := by decide +kernel
theorem dX3_setFromInfinity_136 : decode cX3_setFromInfinity 136 = .ok (.goto 71, 3) := by decide +kernel
theorem dX3_setFromInfinity_139 : decode cX3_setFromInfinity 139 = .ok (.iload 5, 2) := by decide +kernel
theorem dX3_setFromInfinity_141 : decode cX3_setFromInfinity 141 = .ok (.ifCond .eq 10, 3) := by decide +kernel
theorem dX3_setFromInfinity_144 : decode cX3_setFromInfinity 144 = .ok (.aload_n 0, 1) := by decide +kernel
theorem dX3_setFromInfinity_145 : decode cX3_setFromInfinity 145 = .ok (.invokevirtual 140, 3) := by decide +kernel
theorem dX3_setFromInfinity_148 : decode cX3_setFromInfinity 148 = .ok (.goto 59, 3) := by decide +kernel
theorem dX3_setFromInfinity_151 : decode cX3_setFromInfinity 151 = .ok (.aload_n 2, 1) := by decide +kernel
theorem dX3_setFromInfinity_152 : decode cX3_setFromInfinity 152 = .ok (.getfield 70, 3) := by decide +kernel
theorem dX3_setFromInfinity_155 : decode cX3_setFromInfinity 155 = .ok (.iconst 1, 1) := by decide +kernel
theorem dX3_setFromInfinity_156 : decode cX3_setFromInfinity 156 = .ok (.if_icmp .ne 15, 3) := by decide +kernel
theorem dX3_setFromInfinity_159 : decode cX3_setFromInfinity 159 = .ok (.aload_n 0, 1) := by decide +kernel
theorem dX3_setFromInfinity_160 : decode cX3_setFromInfinity 160 = .ok (.getfield 16, 3) := by decide +kernel
theorem dX3_setFromInfinity_163 : decode cX3_setFromInfinity 163 = .ok (.iload 4, 2) := by decide +kernel
theorem dX3_setFromInfinity_165 : decode cX3_setFromInfinity 165 = .ok (.invokevirtual 143, 3) := by decide +kernel
theorem dX3_setFromInfinity_168 : decode cX3_setFromInfinity 168 = .ok (.goto 39, 3) := by decide +kernel
theorem dX3_setFromInfinity_171 : decode cX3_setFromInfinity 171 = .ok (.aload_n 0, 1) := by decide +kernel
theorem dX3_setFromInfinity_172 : decode cX3_setFromInfinity 172 = .ok (.getfield 16, 3) := by decide +kernel
theorem dX3_setFromInfinity_175 : decode cX3_setFromInfinity 175 = .ok (.iload 4, 2) := by decide +kernel
theorem dX3_setFromInfinity_177 : decode cX3_setFromInfinity 177 = .ok (.lconst 0, 1) := by decide +kernel
theorem dX3_setFromInfinity_178 : decode cX3_setFromInfinity 178 = .ok (.sipush (-398), 3) := by decide +kernel
theorem dX3_setFromInfinity_181 : decode cX3_setFromInfinity 181 = .ok (.invokevirtual 55, 3) := by decide +kernel
theorem dX3_setFromInfinity_184 : decode cX3_setFromInfinity 184 = .ok (.goto 23, 3) := by decide +kernel
theorem dX3_setFromInfinity_187 : decode cX3_setFromInfinity 187 = .ok (.iload 5, 2) := by decide +kernel
theorem dX3_setFromInfinity_189 : decode cX3_setFromInfinity 189 = .ok (.ifCond .eq 14, 3) := by decide +kernel
theorem dX3_setFromInfinity_192 : decode cX3_setFromInfinity 192 = .ok (.aload_n 0, 1) := by decide +kernel
theorem dX3_setFromInfinity_193 : decode cX3_setFromInfinity 193 = .ok (.getfield 16, 3) := by decide +kernel
theorem dX3_setFromInfinity_196 : decode cX3_setFromInfinity 196 = .ok (.aload_n 2, 1) := by decide +kernel
theorem dX3_setFromInfinity_197 : decode cX3_setFromInfinity 197 = .ok (.invokevirtual 116, 3) := by decide +kernel
theorem dX3_setFromInfinity_200 : decode cX3_setFromInfinity 200 = .ok (.goto 7, 3) := by decide +kernel
theorem dX3_setFromInfinity_203 : decode cX3_setFromInfinity 203 = .ok (.aload_n 0, 1) := by decide +kernel
theorem dX3_setFromInfinity_204 : decode cX3_setFromInfinity 204 = .ok (.invokevirtual 140, 3) := by decide +kernel
theorem dX3_setFromInfinity_207 : decode cX3_setFromInfinity 207 = .ok (.return_, 1) := by decide +kernel
theorem dX3_addInfinity_0 : decode cX3_addInfinity 0 = .ok (.aload_n 1, 1) := by decide +kernel
theorem dX3_addInfinity_1 : decode cX3_addInfinity 1 = .ok (.getfield 70, 3) := by decide +kernel
theorem dX3_addInfinity_4 : decode cX3_addInfinity 4 = .ok (.aload_n 2, 1) := by decide +kernel
theorem dX3_addInfinity_5 : decode cX3_addInfinity 5 = .ok (.getfield 70, 3) := by decide +kernel
theorem dX3_addInfinity_8 : decode cX3_addInfinity 8 = .ok (.if_icmp .ne 18, 3) := by decide +kernel
theorem dX3_addInfinity_11 : decode cX3_addInfinity 11 = .ok (.aload_n 1, 1) := by decide +kernel
theorem dX3_addInfinity_12 : decode cX3_addInfinity 12 = .ok (.getfield 77, 3) := by decide +kernel
theorem dX3_addInfinity_15 : decode cX3_addInfinity 15 = .ok (.iload_n 3, 1) := by decide +kernel
theorem dX3_addInfinity_16 : decode cX3_addInfinity 16 = .ok (.if_icmp .eq 10, 3) := by decide +kernel
theorem dX3_addInfinity_19 : decode cX3_addInfinity 19 = .ok (.aload_n 0, 1) := by decide +kernel
theorem dX3_addInfinity_20 : decode cX3_addInfinity 20 = .ok (.invokevirtual 140, 3) := by decide +kernel
theorem dX3_addInfinity_23 : decode cX3_addInfinity 23 = .ok (.goto 26, 3) := by decide +kernel
theorem dX3_addInfinity_26 : decode cX3_addInfinity 26 = .ok (.aload_n 0, 1) := by decide +kernel
theorem dX3_addInfinity_27 : decode cX3_addInfinity 27 = .ok (.getfield 16, 3) := by decide +kernel
theorem dX3_addInfinity_30 : decode cX3_addInfinity 30 = .ok (.aload_n 1, 1) := by decide +kernel
theorem dX3_addInfinity_31 : decode cX3_addInfinity 31 = .ok (.getfield 70, 3) := by decide +kernel
theorem dX3_addInfinity_34 : decode cX3_addInfinity 34 = .ok (.iconst 1, 1) := by decide +kernel
theorem dX3_addInfinity_35 : decode cX3_addInfinity 35 = .ok (.if_icmp .ne 10, 3) := by decide +kernel
theorem dX3_addInfinity_38 : decode cX3_addInfinity 38 = .ok (.aload_n 1, 1) := by decide +kernel
theorem dX3_addInfinity_39 : decode cX3_addInfinity 39 = .ok (.getfield 77, 3) := by decide +kernel
theorem dX3_addInfinity_42 : decode cX3_addInfinity 42 = .ok (.goto 4, 3) := by decide +kernel
theorem dX3_addInfinity_45 : decode cX3_addInfinity 45 = .ok (.iload_n 3, 1) := by decide +kernel
theorem dX3_addInfinity_46 : decode cX3_addInfinity 46 = .ok (.invokevirtual 143, 3) := by decide +kernel
theorem dX3_addInfinity_49 : decode cX3_addInfinity 49 = .ok (.return_, 1) := by decide +kernel
theorem dX3_setFromFinite_0 : decode cX3_setFromFinite 0 = .ok (.iload_n 1, 1) := by decide +kernel
theorem dX3_setFromFinite_1 : decode cX3_setFromFinite 1 = .ok (.tableswitch 134 0 4 #[35, 68, 109, 125, 134], 35) := by decide +kernel
theorem dX3_setFromFinite_36 : decode cX3_setFromFinite 36 = .ok (.aload_n 0, 1) := by decide +kernel
theorem dX3_setFromFinite_37 : decode cX3_setFromFinite 37 = .ok (.getfield 23, 3) := by decide +kernel
theorem dX3_setFromFinite_40 : decode cX3_setFromFinite 40 = .ok (.aload_n 2, 1) := by decide +kernel
theorem dX3_setFromFinite_41 : decode cX3_setFromFinite 41 = .ok (.aload_n 3, 1) := by decide +kernel
theorem dX3_setFromFinite_42 : decode cX3_setFromFinite 42 = .ok (.aload_n 3, 1) := by decide +kernel
theorem dX3_setFromFinite_43 : decode cX3_setFromFinite 43 = .ok (.getfield 77, 3) := by decide +kernel
theorem dX3_setFromFinite_46 : decode cX3_setFromFinite 46 = .ok (.aload_n 0, 1) := by decide +kernel
theorem dX3_setFromFinite_47 : decode cX3_setFromFinite 47 = .ok (.getfield 27, 3) := by decide +kernel
theorem dX3_setFromFinite_50 : decode cX3_setFromFinite 50 = .ok (.iconst 4, 1) := by decide +kernel
theorem dX3_setFromFinite_51 : decode cX3_setFromFinite 51 = .ok (.if_icmp .ne 7, 3) := by decide +kernel
theorem dX3_setFromFinite_54 : decode cX3_setFromFinite 54 = .ok (.iconst 1, 1) := by decide +kernel
theorem dX3_setFromFinite_55 : decode cX3_setFromFinite 55 = .ok (.goto 4, 3) := by decide +kernel
theorem dX3_setFromFinite_58 : decode cX3_setFromFinite 58 = .ok (.iconst 0, 1) := by decide +kernel
theorem dX3_setFromFinite_59 : decode cX3_setFromFinite 59 = .ok (.invokevirtual 147, 3) := by decide +kernel
theorem dX3_setFromFinite_62 : decode cX3_setFromFinite 62 = .ok (.aload_n 0, 1) := by decide +kernel
theorem dX3_setFromFinite_63 : decode cX3_setFromFinite 63 = .ok (.invokevirtual 151, 3) := by decide +kernel
theorem dX3_setFromFinite_66 : decode cX3_setFromFinite 66 = .ok (.goto 78, 3) := by decide +kernel
theorem dX3_setFromFinite_69 : decode cX3_setFromFinite 69 = .ok (.aload_n 0, 1) := by decide +kernel
theorem dX3_setFromFinite_70 : decode cX3_setFromFinite 70 = .ok (.getfield 23, 3) := by decide +kernel
theorem dX3_setFromFinite_73 : decode cX3_setFromFinite 73 = .ok (.aload_n 2, 1) := by decide +kernel
theorem dX3_setFromFinite_74 : decode cX3_setFromFinite 74 = .ok (.aload_n 3, 1) := by decide +kernel
theorem dX3_setFromFinite_75 : decode cX3_setFromFinite 75 = .ok (.aload_n 3, 1) := by decide +kernel
theorem dX3_setFromFinite_76 : decode cX3_setFromFinite 76 = .ok (.getfield 77, 3) := by decide +kernel
theorem dX3_setFromFinite_79 : decode cX3_setFromFinite 79 = .ok (.ifCond .ne 7, 3) := by decide +kernel
theorem dX3_setFromFinite_82 : decode cX3_setFromFinite 82 = .ok (.iconst 1, 1) := by decide +kernel
theorem dX3_setFromFinite_83 : decode cX3_setFromFinite 83 = .ok (.goto 4, 3) := by decide +kernel
theorem dX3_setFromFinite_86 : decode cX3_setFromFinite 86 = .ok (.iconst 0, 1) := by decide +kernel
theorem dX3_setFromFinite_87 : decode cX3_setFromFinite 87 = .ok (.aload_n 0, 1) := by decide +kernel
theorem dX3_setFromFinite_88 : decode cX3_setFromFinite 88 = .ok (.getfield 27, 3) := by decide +kernel
theorem dX3_setFromFinite_91 : decode cX3_setFromFinite 91 = .ok (.iconst 4, 1) := by decide +kernel
theorem dX3_setFromFinite_92 : decode cX3_setFromFinite 92 = .ok (.if_icmp .ne 7, 3) := by decide +kernel
theorem dX3_setFromFinite_95 : decode cX3_setFromFinite 95 = .ok (.iconst 1, 1) := by decide +kernel
theorem dX3_setFromFinite_96 : decode cX3_setFromFinite 96 = .ok (.goto 4, 3) := by decide +kernel
theorem dX3_setFromFinite_99 : decode cX3_setFromFinite 99 = .ok (.iconst 0, 1) := by decide +kernel
theorem dX3_setFromFinite_100 : decode cX3_setFromFinite 100 = .ok (.invokevirtual 147, 3) := by decide +kernel
theorem dX3_setFromFinite_103 : decode cX3_setFromFinite 103 = .ok (.aload_n 0, 1) := by decide +kernel
theorem dX3_setFromFinite_104 : decode cX3_setFromFinite 104 = .ok (.invokevirtual 151, 3) := by decide +kernel
theorem dX3_setFromFinite_107 : decode cX3_setFromFinite 107 = .ok (.goto 37, 3) := by decide +kernel
theorem dX3_setFromFinite_110 : decode cX3_setFromFinite 110 = .ok (.aload_n 0, 1) := by decide +kernel
theorem dX3_setFromFinite_111 : decode cX3_setFromFinite 111 = .ok (.getfield 23, 3) := by decide +kernel
theorem dX3_setFromFinite_114 : decode cX3_setFromFinite 114 = .ok (.aload_n 2, 1) := by decide +kernel
theorem dX3_setFromFinite_115 : decode cX3_setFromFinite 115 = .ok (.aload_n 3, 1) := by decide +kernel
theorem dX3_setFromFinite_116 : decode cX3_setFromFinite 116 = .ok (.invokevirtual 154, 3) := by decide +kernel
theorem dX3_setFromFinite_119 : decode cX3_setFromFinite 119 = .ok (.aload_n 0, 1) := by decide +kernel
theorem dX3_setFromFinite_120 : decode cX3_setFromFinite 120 = .ok (.invokevirtual 151, 3) := by decide +kernel
theorem dX3_setFromFinite_123 : decode cX3_setFromFinite 123 = .ok (.goto 21, 3) := by decide +kernel
theorem dX3_setFromFinite_126 : decode cX3_setFromFinite 126 = .ok (.aload_n 0, 1) := by decide +kernel
theorem dX3_setFromFinite_127 : decode cX3_setFromFinite 127 = .ok (.aload_n 2, 1) := by decide +kernel
theorem dX3_setFromFinite_128 : decode cX3_setFromFinite 128 = .ok (.aload_n 3, 1) := by decide +kernel
theorem dX3_setFromFinite_129 : decode cX3_setFromFinite 129 = .ok (.invokevirtual 158, 3) := by decide +kernel
theorem dX3_setFromFinite_132 : decode cX3_setFromFinite 132 = .ok (.goto 12, 3) := by decide +kernel
theorem dX3_setFromFinite_135 : decode cX3_setFromFinite 135 = .ok (.aload_n 0, 1) := by decide +kernel
theorem dX3_setFromFinite_136 : decode cX3_setFromFinite 136 = .ok (.aload_n 2, 1) := by decide +kernel
theorem dX3_setFromFinite_137 : decode cX3_setFromFinite 137 = .ok (.aload_n 3, 1) := by decide +kernel
theorem dX3_setFromFinite_138 : decode cX3_setFromFinite 138 = .ok (.getfield 85, 3) := by decide +kernel
theorem dX3_setFromFinite_141 : decode cX3_setFromFinite 141 = .ok (.invokevirtual 161, 3) := by decide +kernel
theorem dX3_setFromFinite_144 : decode cX3_setFromFinite 144 = .ok (.return_, 1) := by decide +kernel
theorem dX3_divide_0 : decode cX3_divide 0 = .ok (.aload_n 2, 1) := by decide +kernel
theorem dX3_divide_1 : decode cX3_divide 1 = .ok (.invokevirtual 136, 3) := by decide +kernel
theorem dX3_divide_4 : decode cX3_divide 4 = .ok (.ifCond .ne 19, 3) := by decide +kernel
theorem dX3_divide_7 : decode cX3_divide 7 = .ok (.aload_n 0, 1) := by decide +kernel
theorem dX3_divide_8 : decode cX3_divide 8 = .ok (.getfield 23, 3) := by decide +kernel
theorem dX3_divide_11 : decode cX3_divide 11 = .ok (.aload_n 1, 1) := by decide +kernel
theorem dX3_divide_12 : decode cX3_divide 12 = .ok (.aload_n 2, 1) := by decide +kernel
theorem dX3_divide_13 : decode cX3_divide 13 = .ok (.invokevirtual 165, 3) := by decide +kernel
theorem dX3_divide_16 : decode cX3_divide 16 = .ok (.aload_n 0, 1) := by decide +kernel
theorem dX3_divide_17 : decode cX3_divide 17 = .ok (.invokevirtual 151, 3) := by decide +kernel
theorem dX3_divide_20 : decode cX3_divide 20 = .ok (.goto 45, 3) := by decide +kernel
theorem dX3_divide_23 : decode cX3_divide 23 = .ok (.aload_n 1, 1) := by decide +kernel
theorem dX3_divide_24 : decode cX3_divide 24 = .ok (.invokevirtual 136, 3) := by decide +kernel
theorem dX3_divide_27 : decode cX3_divide 27 = .ok (.ifCond .eq 10, 3) := by decide +kernel
theorem dX3_divide_30 : decode cX3_divide 30 = .ok (.aload_n 0, 1) := by decide +kernel
theorem dX3_divide_31 : decode cX3_divide 31 = .ok (.invokevirtual 140, 3) := by decide +kernel
theorem dX3_divide_34 : decode cX3_divide 34 = .ok (.goto 31, 3) := by decide +kernel
theorem dX3_divide_37 : decode cX3_divide 37 = .ok (.aload_n 0, 1) := by decide +kernel
theorem dX3_divide_38 : decode cX3_divide 38 = .ok (.iconst 2, 1) := by decide +kernel
theorem dX3_divide_39 : decode cX3_divide 39 = .ok (.invokevirtual 168, 3) := by decide +kernel
theorem dX3_divide_42 : decode cX3_divide 42 = .ok (.aload_n 0, 1) := by decide +kernel
theorem dX3_divide_43 : decode cX3_divide 43 = .ok (.getfield 16, 3) := by decide +kernel
theorem dX3_divide_46 : decode cX3_divide 46 = .ok (.aload_n 1, 1) := by decide +kernel
theorem dX3_divide_47 : decode cX3_divide 47 = .ok (.getfield 77, 3) := by decide +kernel
theorem dX3_divide_50 : decode cX3_divide 50 = .ok (.aload_n 2, 1) := by decide +kernel
theorem dX3_divide_51 : decode cX3_divide 51 = .ok (.getfield 77, 3) := by decide +kernel
theorem dX3_divide_54 : decode cX3_divide 54 = .ok (.if_icmp .eq 7, 3) := by decide +kernel
theorem dX3_divide_57 : decode cX3_divide 57 = .ok (.iconst 1, 1) := by decide +kernel
theorem dX3_divide_58 : decode cX3_divide 58 = .ok (.goto 4, 3) := by decide +kernel
theorem dX3_divide_61 : decode cX3_divide 61 = .ok (.iconst 0, 1) := by decide +kernel
theorem dX3_divide_62 : decode cX3_divide 62 = .ok (.invokevirtual 143, 3) := by decide +kernel
theorem dX3_divide_65 : decode cX3_divide 65 = .ok (.return_, 1) := by decide +kernel
theorem dX3_quantize_0 : decode cX3_quantize 0 = .ok (.iload_n 2, 1) := by decide +kernel
theorem dX3_quantize_1 : decode cX3_quantize 1 = .ok (.aload_n 1, 1) := by decide +kernel
theorem dX3_quantize_2 : decode cX3_quantize 2 = .ok (.getfield 85, 3) := by decide +kernel
theorem dX3_quantize_5 : decode cX3_quantize 5 = .ok (.isub, 1) := by decide +kernel
theorem dX3_quantize_6 : decode cX3_quantize 6 = .ok (.istore_n 3, 1) := by decide +kernel
theorem dX3_quantize_7 : decode cX3_quantize 7 = .ok (.iload_n 3, 1) := by decide +kernel
theorem dX3_quantize_8 : decode cX3_quantize 8 = .ok (.ifCond .le 58, 3) := by decide +kernel
theorem dX3_quantize_11 : decode cX3_quantize 11 = .ok (.aload_n 0, 1) := by decide +kernel
theorem dX3_quantize_12 : decode cX3_quantize 12 = .ok (.getfield 23, 3) := by decide +kernel
theorem dX3_quantize_15 : decode cX3_quantize 15 = .ok (.aload_n 1, 1) := by decide +kernel
theorem dX3_quantize_16 : decode cX3_quantize 16 = .ok (.invokevirtual 171, 3) := by decide +kernel
theorem dX3_quantize_19 : decode cX3_quantize 19 = .ok (.aload_n 0, 1) := by decide +kernel
theorem dX3_quantize_20 : decode cX3_quantize 20 = .ok (.getfield 23, 3) := by decide +kernel
theorem dX3_quantize_23 : decode cX3_quantize 23 = .ok (.iload_n 3, 1) := by decide +kernel
theorem dX3_quantize_24 : decode cX3_quantize 24 = .ok (.invokevirtual 174, 3) := by decide +kernel
theorem dX3_quantize_27 : decode cX3_quantize 27 = .ok (.aload_n 0, 1) := by decide +kernel
theorem dX3_quantize_28 : decode cX3_quantize 28 = .ok (.getfield 23, 3) := by decide +kernel
theorem dX3_quantize_31 : decode cX3_quantize 31 = .ok (.getfield 177, 3) := by decide +kernel
theorem dX3_quantize_34 : decode cX3_quantize 34 = .ok (.ifCond .eq 9, 3) := by decide +kernel
theorem dX3_quantize_37 : decode cX3_quantize 37 = .ok (.aload_n 0, 1) := by decide +kernel
theorem dX3_quantize_38 : decode cX3_quantize 38 = .ok (.bipush 16, 2) := by decide +kernel
theorem dX3_quantize_40 : decode cX3_quantize 40 = .ok (.invokevirtual 168, 3) := by decide +kernel
theorem dX3_quantize_43 : decode cX3_quantize 43 = .ok (.aload_n 0, 1) := by decide +kernel
theorem dX3_quantize_44 : decode cX3_quantize 44 = .ok (.getfield 16, 3) := by decide +kernel
theorem dX3_quantize_47 : decode cX3_quantize 47 = .ok (.aload_n 1, 1) := by decide +kernel
theorem dX3_quantize_48 : decode cX3_quantize 48 = .ok (.getfield 77, 3) := by decide +kernel
theorem dX3_quantize_51 : decode cX3_quantize 51 = .ok (.aload_n 0, 1) := by decide +kernel
theorem dX3_quantize_52 : decode cX3_quantize 52 = .ok (.aload_n 1, 1) := by decide +kernel
theorem dX3_quantize_53 : decode cX3_quantize 53 = .ok (.getfield 77, 3) := by decide +kernel
theorem dX3_quantize_56 : decode cX3_quantize 56 = .ok (.invokevirtual 180, 3) := by decide +kernel
theorem dX3_quantize_59 : decode cX3_quantize 59 = .ok (.iload_n 2, 1) := by decide +kernel
theorem dX3_quantize_60 : decode cX3_quantize 60 = .ok (.invokevirtual 55, 3) := by decide +kernel
theorem dX3_quantize_63 : decode cX3_quantize 63 = .ok (.goto 69, 3) := by decide +kernel
theorem dX3_quantize_66 : decode cX3_quantize 66 = .ok (.aload_n 1, 1) := by decide +kernel
theorem dX3_quantize_67 : decode cX3_quantize 67 = .ok (.invokevirtual 136, 3) := by decide +kernel
theorem dX3_quantize_70 : decode cX3_quantize 70 = .ok (.ifCond .eq 19, 3) := by decide +kernel
theorem dX3_quantize_73 : decode cX3_quantize 73 = .ok (.aload_n 0, 1) := by decide +kernel
theorem dX3_quantize_74 : decode cX3_quantize 74 = .ok (.getfield 16, 3) := by decide +kernel
theorem dX3_quantize_77 : decode cX3_quantize 77 = .ok (.aload_n 1, 1) := by decide +kernel
theorem dX3_quantize_78 : decode cX3_quantize 78 = .ok (.getfield 77, 3) := by decide +kernel
theorem dX3_quantize_81 : decode cX3_quantize 81 = .ok (.lconst 0, 1) := by decide +kernel
theorem dX3_quantize_82 : decode cX3_quantize 82 = .ok (.iload_n 2, 1) := by decide +kernel
theorem dX3_quantize_83 : decode cX3_quantize 83 = .ok (.invokevirtual 55, 3) := by decide +kernel
theorem dX3_quantize_86 : decode cX3_quantize 86 = .ok (.goto 46, 3) := by decide +kernel
theorem dX3_quantize_89 : decode cX3_quantize 89 = .ok (.aload_n 1, 1) := by decide +kernel
theorem dX3_quantize_90 : decode cX3_quantize 90 = .ok (.getfield 81, 3) := by decide +kernel
theorem dX3_quantize_93 : decode cX3_quantize 93 = .ok (.invokestatic 184, 3) := by decide +kernel
theorem dX3_quantize_96 : decode cX3_quantize 96 = .ok (.iload_n 3, 1) := by decide +kernel
theorem dX3_quantize_97 : decode cX3_quantize 97 = .ok (.isub, 1) := by decide +kernel
theorem dX3_quantize_98 : decode cX3_quantize 98 = .ok (.bipush 16, 2) := by decide +kernel
theorem dX3_quantize_100 : decode cX3_quantize 100 = .ok (.if_icmp .le 10, 3) := by decide +kernel
theorem dX3_quantize_103 : decode cX3_quantize 103 = .ok (.aload_n 0, 1) := by decide +kernel
theorem dX3_quantize_104 : decode cX3_quantize 104 = .ok (.invokevirtual 140, 3) := by decide +kernel
theorem dX3_quantize_107 : decode cX3_quantize 107 = .ok (.goto 25, 3) := by decide +kernel
theorem dX3_quantize_110 : decode cX3_quantize 110 = .ok (.aload_n 0, 1) := by decide +kernel
theorem dX3_quantize_111 : decode cX3_quantize 111 = .ok (.getfield 16, 3) := by decide +kernel
theorem dX3_quantize_114 : decode cX3_quantize 114 = .ok (.aload_n 1, 1) := by decide +kernel
theorem dX3_quantize_115 : decode cX3_quantize 115 = .ok (.getfield 77, 3) := by decide +kernel
theorem dX3_quantize_118 : decode cX3_quantize 118 = .ok (.aload_n 1, 1) := by decide +kernel
theorem dX3_quantize_119 : decode cX3_quantize 119 = .ok (.getfield 81, 3) := by decide +kernel
theorem dX3_quantize_122 : decode cX3_quantize 122 = .ok (.iload_n 3, 1) := by decide +kernel
theorem dX3_quantize_123 : decode cX3_quantize 123 = .ok (.ineg, 1) := by decide +kernel
theorem dX3_quantize_124 : decode cX3_quantize 124 = .ok (.invokestatic 188, 3) := by decide +kernel
theorem dX3_quantize_127 : decode cX3_quantize 127 = .ok (.lmul, 1) := by decide +kernel
theorem dX3_quantize_128 : decode cX3_quantize 128 = .ok (.iload_n 2, 1) := by decide +kernel
theorem dX3_quantize_129 : decode cX3_quantize 129 = .ok (.invokevirtual 55, 3) := by decide +kernel
theorem dX3_quantize_132 : decode cX3_quantize 132 = .ok (.return_, 1) := by decide +kernel
theorem dX3_setNext_0 : decode cX3_setNext 0 = .ok (.aload_n 1, 1) := by decide +kernel
theorem dX3_setNext_1 : decode cX3_setNext 1 = .ok (.getfield 70, 3) := by decide +kernel
theorem dX3_setNext_4 : decode cX3_setNext 4 = .ok (.iconst 2, 1) := by decide +kernel
theorem dX3_setNext_5 : decode cX3_setNext 5 = .ok (.if_icmp .eq 18, 3) := by decide +kernel
theorem dX3_setNext_8 : decode cX3_setNext 8 = .ok (.aload_n 1, 1) := by decide +kernel
theorem dX3_setNext_9 : decode cX3_setNext 9 = .ok (.getfield 70, 3) := by decide +kernel
theorem dX3_setNext_12 : decode cX3_setNext 12 = .ok (.iconst 1, 1) := by decide +kernel
theorem dX3_setNext_13 : decode cX3_setNext 13 = .ok (.if_icmp .ne 21, 3) := by decide +kernel
theorem dX3_setNext_16 : decode cX3_setNext 16 = .ok (.aload_n 1, 1) := by decide +kernel
theorem dX3_setNext_17 : decode cX3_setNext 17 = .ok (.getfield 77, 3) := by decide +kernel
theorem dX3_setNext_20 : decode cX3_setNext 20 = .ok (.ifCond .ne 14, 3) := by decide +kernel
theorem dX3_setNext_23 : decode cX3_setNext 23 = .ok (.aload_n 0, 1) := by decide +kernel
theorem dX3_setNext_24 : decode cX3_setNext 24 = .ok (.getfield 16, 3) := by decide +kernel
theorem dX3_setNext_27 : decode cX3_setNext 27 = .ok (.aload_n 1, 1) := by decide +kernel
theorem dX3_setNext_28 : decode cX3_setNext 28 = .ok (.invokevirtual 116, 3) := by decide +kernel
theorem dX3_setNext_31 : decode cX3_setNext 31 = .ok (.goto 114, 3) := by decide +kernel
theorem dX3_setNext_34 : decode cX3_setNext 34 = .ok (.aload_n 1, 1) := by decide +kernel
theorem dX3_setNext_35 : decode cX3_setNext 35 = .ok (.getfield 70, 3) := by decide +kernel
theorem dX3_setNext_38 : decode cX3_setNext 38 = .ok (.iconst 1, 1) := by decide +kernel
theorem dX3_setNext_39 : decode cX3_setNext 39 = .ok (.if_icmp .ne 20, 3) := by decide +kernel
theorem dX3_setNext_42 : decode cX3_setNext 42 = .ok (.aload_n 0, 1) := by decide +kernel
theorem dX3_setNext_43 : decode cX3_setNext 43 = .ok (.getfield 16, 3) := by decide +kernel
theorem dX3_setNext_46 : decode cX3_setNext 46 = .ok (.iconst 1, 1) := by decide +kernel
theorem dX3_setNext_47 : decode cX3_setNext 47 = .ok (.ldc2_w 192, 3) := by decide +kernel
theorem dX3_setNext_50 : decode cX3_setNext 50 = .ok (.sipush 369, 3) := by decide +kernel
theorem dX3_setNext_53 : decode cX3_setNext 53 = .ok (.invokevirtual 55, 3) := by decide +kernel
theorem dX3_setNext_56 : decode cX3_setNext 56 = .ok (.goto 89, 3) := by decide +kernel
theorem dX3_setNext_59 : decode cX3_setNext 59 = .ok (.aload_n 1, 1) := by decide +kernel
theorem dX3_setNext_60 : decode cX3_setNext 60 = .ok (.invokevirtual 136, 3) := by decide +kernel
theorem dX3_setNext_63 : decode cX3_setNext 63 = .ok (.ifCond .eq 18, 3) := by decide +kernel
theorem dX3_setNext_66 : decode cX3_setNext 66 = .ok (.aload_n 0, 1) := by decide +kernel
theorem dX3_setNext_67 : decode cX3_setNext 67 = .ok (.getfield 16, 3) := by decide +kernel
theorem dX3_setNext_70 : decode cX3_setNext 70 = .ok (.iconst 0, 1) := by decide +kernel
theorem dX3_setNext_71 : decode cX3_setNext 71 = .ok (.lconst 1, 1) := by decide +kernel
theorem dX3_setNext_72 : decode cX3_setNext 72 = .ok (.sipush (-398), 3) := by decide +kernel
theorem dX3_setNext_75 : decode cX3_setNext 75 = .ok (.invokevirtual 55, 3) := by decide +kernel
theorem dX3_setNext_78 : decode cX3_setNext 78 = .ok (.goto 67, 3) := by decide +kernel
theorem dX3_setNext_81 : decode cX3_setNext 81 = .ok (.bipush 16, 2) := by decide +kernel
theorem dX3_setNext_83 : decode cX3_setNext 83 = .ok (.aload_n 1, 1) := by decide +kernel
theorem dX3_setNext_84 : decode cX3_setNext 84 = .ok (.getfield 81, 3) := by decide +kernel
theorem dX3_setNext_87 : decode cX3_setNext 87 = .ok (.invokestatic 184, 3) := by decide +kernel
theorem dX3_setNext_90 : decode cX3_setNext 90 = .ok (.isub, 1) := by decide +kernel
theorem dX3_setNext_91 : decode cX3_setNext 91 = .ok (.aload_n 1, 1) := by decide +kernel
theorem dX3_setNext_92 : decode cX3_setNext 92 = .ok (.getfield 85, 3) := by decide +kernel
theorem dX3_setNext_95 : decode cX3_setNext 95 = .ok (.sipush (-398), 3) := by decide +kernel
theorem dX3_setNext_98 : decode cX3_setNext 98 = .ok (.isub, 1) := by decide +kernel
theorem dX3_setNext_99 : decode cX3_setNext 99 = .ok (.invokestatic 194, 3) := by decide +kernel
theorem dX3_setNext_102 : decode cX3_setNext 102 = .ok (.istore_n 2, 1) := by decide +kernel
theorem dX3_setNext_103 : decode cX3_setNext 103 = .ok (.aload_n 1, 1) := by decide +kernel
theorem dX3_setNext_104 : decode cX3_setNext 104 = .ok (.getfield 81, 3) := by decide +kernel
theorem dX3_setNext_107 : decode cX3_setNext 107 = .ok (.iload_n 2, 1) := by decide +kernel
theorem dX3_setNext_108 : decode cX3_setNext 108 = .ok (.invokestatic 188, 3) := by decide +kernel
theorem dX3_setNext_111 : decode cX3_setNext 111 = .ok (.lmul, 1) := by decide +kernel
theorem dX3_setNext_112 : decode cX3_setNext 112 = .ok (.lstore_n 3, 1) := by decide +kernel
theorem dX3_setNext_113 : decode cX3_setNext 113 = .ok (.aload_n 1, 1) := by decide +kernel
theorem dX3_setNext_114 : decode cX3_setNext 114 = .ok (.getfield 77, 3) := by decide +kernel
theorem dX3_setNext_117 : decode cX3_setNext 117 = .ok (.ifCond .eq 17, 3) := by decide +kernel
theorem dX3_setNext_120 : decode cX3_setNext 120 = .ok (.aload_n 0, 1) := by decide +kernel
theorem dX3_setNext_121 : decode cX3_setNext 121 = .ok (.lload_n 3, 1) := by decide +kernel
theorem dX3_setNext_122 : decode cX3_setNext 122 = .ok (.aload_n 1, 1) := by decide +kernel
theorem dX3_setNext_123 : decode cX3_setNext 123 = .ok (.getfield 85, 3) := by decide +kernel
theorem dX3_setNext_126 : decode cX3_setNext 126 = .ok (.iload_n 2, 1) := by decide +kernel
theorem dX3_setNext_127 : decode cX3_setNext 127 = .ok (.isub, 1) := by decide +kernel
theorem dX3_setNext_128 : decode cX3_setNext 128 = .ok (.invokevirtual 200, 3) := by decide +kernel
theorem dX3_setNext_131 : decode cX3_setNext 131 = .ok (.goto 14, 3) := by decide +kernel
theorem dX3_setNext_134 : decode cX3_setNext 134 = .ok (.aload_n 0, 1) := by decide +kernel
theorem dX3_setNext_135 : decode cX3_setNext 135 = .ok (.lload_n 3, 1) := by decide +kernel
theorem dX3_setNext_136 : decode cX3_setNext 136 = .ok (.aload_n 1, 1) := by decide +kernel
theorem dX3_setNext_137 : decode cX3_setNext 137 = .ok (.getfield 85, 3) := by decide +kernel
theorem dX3_setNext_140 : decode cX3_setNext 140 = .ok (.iload_n 2, 1) := by decide +kernel
theorem dX3_setNext_141 : decode cX3_setNext 141 = .ok (.isub, 1) := by decide +kernel
theorem dX3_setNext_142 : decode cX3_setNext 142 = .ok (.invokevirtual 204, 3) := by decide +kernel
theorem dX3_setNext_145 : decode cX3_setNext 145 = .ok (.return_, 1) := by decide +kernel
theorem dX3_stepToZero_0 : decode cX3_stepToZero 0 = .ok (.lload_n 1, 1) := by decide +kernel
theorem dX3_stepToZero_1 : decode cX3_stepToZero 1 = .ok (.ldc2_w 207, 3) := by decide +kernel
theorem dX3_stepToZero_4 : decode cX3_stepToZero 4 = .ok (.lcmp, 1) := by decide +kernel
theorem dX3_stepToZero_5 : decode cX3_stepToZero 5 = .ok (.ifCond .ne 27, 3) := by decide +kernel
theorem dX3_stepToZero_8 : decode cX3_stepToZero 8 = .ok (.iload_n 3, 1) := by decide +kernel
theorem dX3_stepToZero_9 : decode cX3_stepToZero 9 = .ok (.sipush (-398), 3) := by decide +kernel
theorem dX3_stepToZero_12 : decode cX3_stepToZero 12 = .ok (.if_icmp .le 20, 3) := by decide +kernel
theorem dX3_stepToZero_15 : decode cX3_stepToZero 15 = .ok (.aload_n 0, 1) := by decide +kernel
theorem dX3_stepToZero_16 : decode cX3_stepToZero 16 = .ok (.getfield 16, 3) := by decide +kernel
theorem dX3_stepToZero_19 : decode cX3_stepToZero 19 = .ok (.iconst 1, 1) := by decide +kernel
theorem dX3_stepToZero_20 : decode cX3_stepToZero 20 = .ok (.ldc2_w 192, 3) := by decide +kernel
theorem dX3_stepToZero_23 : decode cX3_stepToZero 23 = .ok (.iload_n 3, 1) := by decide +kernel
theorem dX3_stepToZero_24 : decode cX3_stepToZero 24 = .ok (.iconst 1, 1) := by decide +kernel
theorem dX3_stepToZero_25 : decode cX3_stepToZero 25 = .ok (.isub, 1) := by decide +kernel
theorem dX3_stepToZero_26 : decode cX3_stepToZero 26 = .ok (.invokevirtual 55, 3) := by decide +kernel
theorem dX3_stepToZero_29 : decode cX3_stepToZero 29 = .ok (.goto 15, 3) := by decide +kernel
theorem dX3_stepToZero_32 : decode cX3_stepToZero 32 = .ok (.aload_n 0, 1) := by decide +kernel
theorem dX3_stepToZero_33 : decode cX3_stepToZero 33 = .ok (.getfield 16, 3) := by decide +kernel
theorem dX3_stepToZero_36 : decode cX3_stepToZero 36 = .ok (.iconst 1, 1) := by decide +kernel
theorem dX3_stepToZero_37 : decode cX3_stepToZero 37 = .ok (.lload_n 1, 1) := by decide +kernel
theorem dX3_stepToZero_38 : decode cX3_stepToZero 38 = .ok (.lconst 1, 1) := by decide +kernel
theorem dX3_stepToZero_39 : decode cX3_stepToZero 39 = .ok (.lsub, 1) := by decide +kernel
theorem dX3_stepToZero_40 : decode cX3_stepToZero 40 = .ok (.iload_n 3, 1) := by decide +kernel
theorem dX3_stepToZero_41 : decode cX3_stepToZero 41 = .ok (.invokevirtual 55, 3) := by decide +kernel
theorem dX3_stepToZero_44 : decode cX3_stepToZero 44 = .ok (.return_, 1) := by decide +kernel
theorem dX3_stepFromZero_0 : decode cX3_stepFromZero 0 = .ok (.lload_n 1, 1) := by decide +kernel
theorem dX3_stepFromZero_1 : decode cX3_stepFromZero 1 = .ok (.ldc2_w 192, 3) := by decide +kernel
theorem dX3_stepFromZero_4 : decode cX3_stepFromZero 4 = .ok (.lcmp, 1) := by decide +kernel
theorem dX3_stepFromZero_5 : decode cX3_stepFromZero 5 = .ok (.ifCond .ge 18, 3) := by decide +kernel
theorem dX3_stepFromZero_8 : decode cX3_stepFromZero 8 = .ok (.aload_n 0, 1) := by decide +kernel
theorem dX3_stepFromZero_9 : decode cX3_stepFromZero 9 = .ok (.getfield 16, 3) := by decide +kernel
theorem dX3_stepFromZero_12 : decode cX3_stepFromZero 12 = .ok (.iconst 0, 1) := by decide +kernel
theorem dX3_stepFromZero_13 : decode cX3_stepFromZero 13 = .ok (.lload_n 1, 1) := by decide +kernel
theorem dX3_stepFromZero_14 : decode cX3_stepFromZero 14 = .ok (.lconst 1, 1) := by decide +kernel
theorem dX3_stepFromZero_15 : decode cX3_stepFromZero 15 = .ok (.ladd, 1) := by decide +kernel
theorem dX3_stepFromZero_16 : decode cX3_stepFromZero 16 = .ok (.iload_n 3, 1) := by decide +kernel
theorem dX3_stepFromZero_17 : decode cX3_stepFromZero 17 = .ok (.invokevirtual 55, 3) := by decide +kernel
theorem dX3_stepFromZero_20 : decode cX3_stepFromZero 20 = .ok (.goto 35, 3) := by decide +kernel
theorem dX3_stepFromZero_23 : decode cX3_stepFromZero 23 = .ok (.iload_n 3, 1) := by decide +kernel
theorem dX3_stepFromZero_24 : decode cX3_stepFromZero 24 = .ok (.sipush 369, 3) := by decide +kernel
theorem dX3_stepFromZero_27 : decode cX3_stepFromZero 27 = .ok (.if_icmp .ge 20, 3) := by decide +kernel
theorem dX3_stepFromZero_30 : decode cX3_stepFromZero 30 = .ok (.aload_n 0, 1) := by decide +kernel
theorem dX3_stepFromZero_31 : decode cX3_stepFromZero 31 = .ok (.getfield 16, 3) := by decide +kernel
theorem dX3_stepFromZero_34 : decode cX3_stepFromZero 34 = .ok (.iconst 0, 1) := by decide +kernel
theorem dX3_stepFromZero_35 : decode cX3_stepFromZero 35 = .ok (.ldc2_w 207, 3) := by decide +kernel
theorem dX3_stepFromZero_38 : decode cX3_stepFromZero 38 = .ok (.iload_n 3, 1) := by decide +kernel
theorem dX3_stepFromZero_39 : decode cX3_stepFromZero 39 = .ok (.iconst 1, 1) := by decide +kernel
theorem dX3_stepFromZero_40 : decode cX3_stepFromZero 40 = .ok (.iadd, 1) := by decide +kernel
theorem dX3_stepFromZero_41 : decode cX3_stepFromZero 41 = .ok (.invokevirtual 55, 3) := by decide +kernel
theorem dX3_stepFromZero_44 : decode cX3_stepFromZero 44 = .ok (.goto 11, 3) := by decide +kernel
theorem dX3_stepFromZero_47 : decode cX3_stepFromZero 47 = .ok (.aload_n 0, 1) := by decide +kernel
theorem dX3_stepFromZero_48 : decode cX3_stepFromZero 48 = .ok (.getfield 16, 3) := by decide +kernel
theorem dX3_stepFromZero_51 : decode cX3_stepFromZero 51 = .ok (.iconst 0, 1) := by decide +kernel
theorem dX3_stepFromZero_52 : decode cX3_stepFromZero 52 = .ok (.invokevirtual 143, 3) := by decide +kernel
theorem dX3_stepFromZero_55 : decode cX3_stepFromZero 55 = .ok (.return_, 1) := by decide +kernel
theorem dX3_raise_0 : decode cX3_raise 0 = .ok (.aload_n 0, 1) := by decide +kernel
theorem dX3_raise_1 : decode cX3_raise 1 = .ok (.dup, 1) := by decide +kernel
theorem dX3_raise_2 : decode cX3_raise 2 = .ok (.getfield 37, 3) := by decide +kernel
theorem dX3_raise_5 : decode cX3_raise 5 = .ok (.iload_n 1, 1) := by decide +kernel
theorem dX3_raise_6 : decode cX3_raise 6 = .ok (.ior, 1) := by decide +kernel
theorem dX3_raise_7 : decode cX3_raise 7 = .ok (.putfield 37, 3) := by decide +kernel
theorem dX3_raise_10 : decode cX3_raise 10 = .ok (.return_, 1) := by decide +kernel
theorem dX3_setInvalid_0 : decode cX3_setInvalid 0 = .ok (.aload_n 0, 1) := by decide +kernel
theorem dX3_setInvalid_1 : decode cX3_setInvalid 1 = .ok (.iconst 1, 1) := by decide +kernel
theorem dX3_setInvalid_2 : decode cX3_setInvalid 2 = .ok (.invokevirtual 168, 3) := by decide +kernel
theorem dX3_setInvalid_5 : decode cX3_setInvalid 5 = .ok (.aload_n 0, 1) := by decide +kernel
theorem dX3_setInvalid_6 : decode cX3_setInvalid 6 = .ok (.getfield 16, 3) := by decide +kernel
theorem dX3_setInvalid_9 : decode cX3_setInvalid 9 = .ok (.invokevirtual 123, 3) := by decide +kernel
theorem dX3_setInvalid_12 : decode cX3_setInvalid 12 = .ok (.return_, 1) := by decide +kernel
theorem dX3_fit_0 : decode cX3_fit 0 = .ok (.aload_n 0, 1) := by decide +kernel
theorem dX3_fit_1 : decode cX3_fit 1 = .ok (.getfield 23, 3) := by decide +kernel
theorem dX3_fit_4 : decode cX3_fit 4 = .ok (.invokevirtual 209, 3) := by decide +kernel
theorem dX3_fit_7 : decode cX3_fit 7 = .ok (.ifCond .eq 42, 3) := by decide +kernel
theorem dX3_fit_10 : decode cX3_fit 10 = .ok (.sipush (-398), 3) := by decide +kernel
theorem dX3_fit_13 : decode cX3_fit 13 = .ok (.aload_n 0, 1) := by decide +kernel
theorem dX3_fit_14 : decode cX3_fit 14 = .ok (.getfield 23, 3) := by decide +kernel
theorem dX3_fit_17 : decode cX3_fit 17 = .ok (.getfield 210, 3) := by decide +kernel
theorem dX3_fit_20 : decode cX3_fit 20 = .ok (.sipush 369, 3) := by decide +kernel
theorem dX3_fit_23 : decode cX3_fit 23 = .ok (.invokestatic 194, 3) := by decide +kernel
theorem dX3_fit_26 : decode cX3_fit 26 = .ok (.invokestatic 213, 3) := by decide +kernel
theorem dX3_fit_29 : decode cX3_fit 29 = .ok (.istore_n 1, 1) := by decide +kernel
theorem dX3_fit_30 : decode cX3_fit 30 = .ok (.aload_n 0, 1) := by decide +kernel
theorem dX3_fit_31 : decode cX3_fit 31 = .ok (.getfield 16, 3) := by decide +kernel
theorem dX3_fit_34 : decode cX3_fit 34 = .ok (.aload_n 0, 1) := by decide +kernel
theorem dX3_fit_35 : decode cX3_fit 35 = .ok (.getfield 23, 3) := by decide +kernel
theorem dX3_fit_38 : decode cX3_fit 38 = .ok (.getfield 216, 3) := by decide +kernel
theorem dX3_fit_41 : decode cX3_fit 41 = .ok (.lconst 0, 1) := by decide +kernel
theorem dX3_fit_42 : decode cX3_fit 42 = .ok (.iload_n 1, 1) := by decide +kernel
theorem dX3_fit_43 : decode cX3_fit 43 = .ok (.invokevirtual 55, 3) := by decide +kernel
theorem dX3_fit_46 : decode cX3_fit 46 = .ok (.goto 14, 3) := by decide +kernel
theorem dX3_fit_49 : decode cX3_fit 49 = .ok (.aload_n 0, 1) := by decide +kernel
theorem dX3_fit_50 : decode cX3_fit 50 = .ok (.invokevirtual 217, 3) := by decide +kernel
theorem dX3_fit_53 : decode cX3_fit 53 = .ok (.ifCond .ne 7, 3) := by decide +kernel
theorem dX3_fit_56 : decode cX3_fit 56 = .ok (.aload_n 0, 1) := by decide +kernel
theorem dX3_fit_57 : decode cX3_fit 57 = .ok (.invokevirtual 220, 3) := by decide +kernel
theorem dX3_fit_60 : decode cX3_fit 60 = .ok (.return_, 1) := by decide +kernel
theorem dX3_fitWithoutRest_0 : decode cX3_fitWithoutRest 0 = .ok (.aload_n 0, 1) := by decide +kernel
theorem dX3_fitWithoutRest_1 : decode cX3_fitWithoutRest 1 = .ok (.getfield 23, 3) := by decide +kernel
theorem dX3_fitWithoutRest_4 : decode cX3_fitWithoutRest 4 = .ok (.getfield 223, 3) := by decide +kernel
theorem dX3_fitWithoutRest_7 : decode cX3_fitWithoutRest 7 = .ok (.ifCond .eq 5, 3) := by decide +kernel
theorem dX3_fitWithoutRest_10 : decode cX3_fitWithoutRest 10 = .ok (.iconst 0, 1) := by decide +kernel
theorem dX3_fitWithoutRest_11 : decode cX3_fitWithoutRest 11 = .ok (.ireturn, 1) := by decide +kernel
theorem dX3_fitWithoutRest_12 : decode cX3_fitWithoutRest 12 = .ok (.aload_n 0, 1) := by decide +kernel
theorem dX3_fitWithoutRest_13 : decode cX3_fitWithoutRest 13 = .ok (.getfield 23, 3) := by decide +kernel
theorem dX3_fitWithoutRest_16 : decode cX3_fitWithoutRest 16 = .ok (.invokevirtual 226, 3) := by decide +kernel
theorem dX3_fitWithoutRest_19 : decode cX3_fitWithoutRest 19 = .ok (.aload_n 0, 1) := by decide +kernel
theorem dX3_fitWithoutRest_20 : decode cX3_fitWithoutRest 20 = .ok (.getfield 23, 3) := by decide +kernel
theorem dX3_fitWithoutRest_23 : decode cX3_fitWithoutRest 23 = .ok (.getfield 229, 3) := by decide +kernel
theorem dX3_fitWithoutRest_26 : decode cX3_fitWithoutRest 26 = .ok (.lconst 0, 1) := by decide +kernel
theorem dX3_fitWithoutRest_27 : decode cX3_fitWithoutRest 27 = .ok (.lcmp, 1) := by decide +kernel
theorem dX3_fitWithoutRest_28 : decode cX3_fitWithoutRest 28 = .ok (.ifCond .eq 5, 3) := by decide +kernel
theorem dX3_fitWithoutRest_31 : decode cX3_fitWithoutRest 31 = .ok (.iconst 0, 1) := by decide +kernel
theorem dX3_fitWithoutRest_32 : decode cX3_fitWithoutRest 32 = .ok (.ireturn, 1) := by decide +kernel
theorem dX3_fitWithoutRest_33 : decode cX3_fitWithoutRest 33 = .ok (.sipush (-398), 3) := by decide +kernel
theorem dX3_fitWithoutRest_36 : decode cX3_fitWithoutRest 36 = .ok (.aload_n 0, 1) := by decide +kernel
theorem dX3_fitWithoutRest_37 : decode cX3_fitWithoutRest 37 = .ok (.getfield 23, 3) := by decide +kernel
theorem dX3_fitWithoutRest_40 : decode cX3_fitWithoutRest 40 = .ok (.getfield 232, 3) := by decide +kernel
theorem dX3_fitWithoutRest_43 : decode cX3_fitWithoutRest 43 = .ok (.bipush 16, 2) := by decide +kernel
theorem dX3_fitWithoutRest_45 : decode cX3_fitWithoutRest 45 = .ok (.aload_n 0, 1) := by decide +kernel
theorem dX3_fitWithoutRest_46 : decode cX3_fitWithoutRest 46 = .ok (.getfield 23, 3) := by decide +kernel
theorem dX3_fitWithoutRest_49 : decode cX3_fitWithoutRest 49 = .ok (.getfield 235, 3) := by decide +kernel
theorem dX3_fitWithoutRest_52 : decode cX3_fitWithoutRest 52 = .ok (.invokestatic 184, 3) := by decide +kernel
theorem dX3_fitWithoutRest_55 : decode cX3_fitWithoutRest 55 = .ok (.isub, 1) := by decide +kernel
theorem dX3_fitWithoutRest_56 : decode cX3_fitWithoutRest 56 = .ok (.isub, 1) := by decide +kernel
theorem dX3_fitWithoutRest_57 : decode cX3_fitWithoutRest 57 = .ok (.invokestatic 213, 3) := by decide +kernel
theorem dX3_fitWithoutRest_60 : decode cX3_fitWithoutRest 60 = .ok (.istore_n 1, 1) := by decide +kernel
theorem dX3_fitWithoutRest_61 : decode cX3_fitWithoutRest 61 = .ok (.sipush 369, 3) := by decide +kernel
theorem dX3_fitWithoutRest_64 : decode cX3_fitWithoutRest 64 = .ok (.aload_n 0, 1) := by decide +kernel
theorem dX3_fitWithoutRest_65 : decode cX3_fitWithoutRest 65 = .ok (.getfield 23, 3) := by decide +kernel
theorem dX3_fitWithoutRest_68 : decode cX3_fitWithoutRest 68 = .ok (.getfield 232, 3) := by decide +kernel
theorem dX3_fitWithoutRest_71 : decode cX3_fitWithoutRest 71 = .ok (.invokestatic 194, 3) := by decide +kernel
theorem dX3_fitWithoutRest_74 : decode cX3_fitWithoutRest 74 = .ok (.istore_n 2, 1) := by decide +kernel
theorem dX3_fitWithoutRest_75 : decode cX3_fitWithoutRest 75 = .ok (.iload_n 1, 1) := by decide +kernel
theorem dX3_fitWithoutRest_76 : decode cX3_fitWithoutRest 76 = .ok (.iload_n 2, 1) := by decide +kernel
theorem dX3_fitWithoutRest_77 : decode cX3_fitWithoutRest 77 = .ok (.if_icmp .le 5, 3) := by decide +kernel
theorem dX3_fitWithoutRest_80 : decode cX3_fitWithoutRest 80 = .ok (.iconst 0, 1) := by decide +kernel
theorem dX3_fitWithoutRest_81 : decode cX3_fitWithoutRest 81 = .ok (.ireturn, 1) := by decide +kernel
theorem dX3_fitWithoutRest_82 : decode cX3_fitWithoutRest 82 = .ok (.iload_n 1, 1) := by decide +kernel
theorem dX3_fitWithoutRest_83 : decode cX3_fitWithoutRest 83 = .ok (.aload_n 0, 1) := by decide +kernel
theorem dX3_fitWithoutRest_84 : decode cX3_fitWithoutRest 84 = .ok (.getfield 23, 3) := by decide +kernel
theorem dX3_fitWithoutRest_87 : decode cX3_fitWithoutRest 87 = .ok (.getfield 210, 3) := by decide +kernel
theorem dX3_fitWithoutRest_90 : decode cX3_fitWithoutRest 90 = .ok (.iload_n 2, 1) := by decide +kernel
theorem dX3_fitWithoutRest_91 : decode cX3_fitWithoutRest 91 = .ok (.invokestatic 194, 3) := by decide +kernel
theorem dX3_fitWithoutRest_94 : decode cX3_fitWithoutRest 94 = .ok (.invokestatic 213, 3) := by decide +kernel
theorem dX3_fitWithoutRest_97 : decode cX3_fitWithoutRest 97 = .ok (.istore_n 3, 1) := by decide +kernel
theorem dX3_fitWithoutRest_98 : decode cX3_fitWithoutRest 98 = .ok (.aload_n 0, 1) := by decide +kernel
theorem dX3_fitWithoutRest_99 : decode cX3_fitWithoutRest 99 = .ok (.getfield 16, 3) := by decide +kernel
theorem dX3_fitWithoutRest_102 : decode cX3_fitWithoutRest 102 = .ok (.aload_n 0, 1) := by decide +kernel
theorem dX3_fitWithoutRest_103 : decode cX3_fitWithoutRest 103 = .ok (.getfield 23, 3) := by decide +kernel
theorem dX3_fitWithoutRest_106 : decode cX3_fitWithoutRest 106 = .ok (.getfield 216, 3) := by decide +kernel
theorem dX3_fitWithoutRest_109 : decode cX3_fitWithoutRest 109 = .ok (.aload_n 0, 1) := by decide +kernel
theorem dX3_fitWithoutRest_110 : decode cX3_fitWithoutRest 110 = .ok (.getfield 23, 3) := by decide +kernel
theorem dX3_fitWithoutRest_113 : decode cX3_fitWithoutRest 113 = .ok (.getfield 235, 3) := by decide +kernel
theorem dX3_fitWithoutRest_116 : decode cX3_fitWithoutRest 116 = .ok (.aload_n 0, 1) := by decide +kernel
theorem dX3_fitWithoutRest_117 : decode cX3_fitWithoutRest 117 = .ok (.getfield 23, 3) := by decide +kernel
theorem dX3_fitWithoutRest_120 : decode cX3_fitWithoutRest 120 = .ok (.getfield 232, 3) := by decide +kernel
theorem dX3_fitWithoutRest_123 : decode cX3_fitWithoutRest 123 = .ok (.iload_n 3, 1) := by decide +kernel
theorem dX3_fitWithoutRest_124 : decode cX3_fitWithoutRest 124 = .ok (.isub, 1) := by decide +kernel
theorem dX3_fitWithoutRest_125 : decode cX3_fitWithoutRest 125 = .ok (.invokestatic 188, 3) := by decide +kernel
theorem dX3_fitWithoutRest_128 : decode cX3_fitWithoutRest 128 = .ok (.lmul, 1) := by decide +kernel
theorem dX3_fitWithoutRest_129 : decode cX3_fitWithoutRest 129 = .ok (.iload_n 3, 1) := by decide +kernel
theorem dX3_fitWithoutRest_130 : decode cX3_fitWithoutRest 130 = .ok (.invokevirtual 55, 3) := by decide +kernel
theorem dX3_fitWithoutRest_133 : decode cX3_fitWithoutRest 133 = .ok (.iconst 1, 1) := by decide +kernel
theorem dX3_fitWithoutRest_134 : decode cX3_fitWithoutRest 134 = .ok (.ireturn, 1) := by decide +kernel
theorem dX3_fitRounded_0 : decode cX3_fitRounded 0 = .ok (.aload_n 0, 1) := by decide +kernel
theorem dX3_fitRounded_1 : decode cX3_fitRounded 1 = .ok (.bipush 16, 2) := by decide +kernel
theorem dX3_fitRounded_3 : decode cX3_fitRounded 3 = .ok (.invokevirtual 168, 3) := by decide +kernel
theorem dX3_fitRounded_6 : decode cX3_fitRounded 6 = .ok (.aload_n 0, 1) := by decide +kernel
theorem dX3_fitRounded_7 : decode cX3_fitRounded 7 = .ok (.getfield 23, 3) := by decide +kernel
theorem dX3_fitRounded_10 : decode cX3_fitRounded 10 = .ok (.getfield 232, 3) := by decide +kernel
theorem dX3_fitRounded_13 : decode cX3_fitRounded 13 = .ok (.aload_n 0, 1) := by decide +kernel
theorem dX3_fitRounded_14 : decode cX3_fitRounded 14 = .ok (.getfield 23, 3) := by decide +kernel
theorem dX3_fitRounded_17 : decode cX3_fitRounded 17 = .ok (.invokevirtual 238, 3) := by decide +kernel
theorem dX3_fitRounded_20 : decode cX3_fitRounded 20 = .ok (.iadd, 1) := by decide +kernel
theorem dX3_fitRounded_21 : decode cX3_fitRounded 21 = .ok (.istore_n 1, 1) := by decide +kernel
theorem dX3_fitRounded_22 : decode cX3_fitRounded 22 = .ok (.sipush (-398), 3) := by decide +kernel
theorem dX3_fitRounded_25 : decode cX3_fitRounded 25 = .ok (.iload_n 1, 1) := by decide +kernel
theorem dX3_fitRounded_26 : decode cX3_fitRounded 26 = .ok (.bipush 16, 2) := by decide +kernel
theorem dX3_fitRounded_28 : decode cX3_fitRounded 28 = .ok (.isub, 1) := by decide +kernel
theorem dX3_fitRounded_29 : decode cX3_fitRounded 29 = .ok (.invokestatic 213, 3) := by decide +kernel
theorem dX3_fitRounded_32 : decode cX3_fitRounded 32 = .ok (.istore_n 2, 1) := by decide +kernel
theorem dX3_fitRounded_33 : decode cX3_fitRounded 33 = .ok (.iload_n 2, 1) := by decide +kernel
theorem dX3_fitRounded_34 : decode cX3_fitRounded 34 = .ok (.sipush 369, 3) := by decide +kernel
theorem dX3_fitRounded_37 : decode cX3_fitRounded 37 = .ok (.if_icmp .le 8, 3) := by decide +kernel
theorem dX3_fitRounded_40 : decode cX3_fitRounded 40 = .ok (.aload_n 0, 1) := by decide +kernel
theorem dX3_fitRounded_41 : decode cX3_fitRounded 41 = .ok (.invokevirtual 242, 3) := by decide +kernel
theorem dX3_fitRounded_44 : decode cX3_fitRounded 44 = .ok (.return_, 1) := by decide +kernel
theorem dX3_fitRounded_45 : decode cX3_fitRounded 45 = .ok (.aload_n 0, 1) := by decide +kernel
theorem dX3_fitRounded_46 : decode cX3_fitRounded 46 = .ok (.getfield 23, 3) := by decide +kernel
theorem dX3_fitRounded_49 : decode cX3_fitRounded 49 = .ok (.iload_n 2, 1) := by decide +kernel
theorem dX3_fitRounded_50 : decode cX3_fitRounded 50 = .ok (.aload_n 0, 1) := by decide +kernel
theorem dX3_fitRounded_51 : decode cX3_fitRounded 51 = .ok (.getfield 23, 3) := by decide +kernel
theorem dX3_fitRounded_54 : decode cX3_fitRounded 54 = .ok (.getfield 232, 3) := by decide +kernel
theorem dX3_fitRounded_57 : decode cX3_fitRounded 57 = .ok (.isub, 1) := by decide +kernel
theorem dX3_fitRounded_58 : decode cX3_fitRounded 58 = .ok (.invokevirtual 174, 3) := by decide +kernel
theorem dX3_fitRounded_61 : decode cX3_fitRounded 61 = .ok (.aload_n 0, 1) := by decide +kernel
theorem dX3_fitRounded_62 : decode cX3_fitRounded 62 = .ok (.aload_n 0, 1) := by decide +kernel
theorem dX3_fitRounded_63 : decode cX3_fitRounded 63 = .ok (.getfield 23, 3) := by decide +kernel
theorem dX3_fitRounded_66 : decode cX3_fitRounded 66 = .ok (.getfield 216, 3) := by decide +kernel
theorem dX3_fitRounded_69 : decode cX3_fitRounded 69 = .ok (.invokevirtual 180, 3) := by decide +kernel
theorem dX3_fitRounded_72 : decode cX3_fitRounded 72 = .ok (.lstore_n 3, 1) := by decide +kernel
theorem dX3_fitRounded_73 : decode cX3_fitRounded 73 = .ok (.lload_n 3, 1) := by decide +kernel
theorem dX3_fitRounded_74 : decode cX3_fitRounded 74 = .ok (.ldc2_w 44, 3) := by decide +kernel
theorem dX3_fitRounded_77 : decode cX3_fitRounded 77 = .ok (.lcmp, 1) := by decide +kernel
theorem dX3_fitRounded_78 : decode cX3_fitRounded 78 = .ok (.ifCond .lt 10, 3) := by decide +kernel
theorem dX3_fitRounded_81 : decode cX3_fitRounded 81 = .ok (.ldc2_w 207, 3) := by decide +kernel
theorem dX3_fitRounded_84 : decode cX3_fitRounded 84 = .ok (.lstore_n 3, 1) := by decide +kernel
theorem dX3_fitRounded_85 : decode cX3_fitRounded 85 = .ok (.iinc 2 1, 3) := by decide +kernel
theorem dX3_fitRounded_88 : decode cX3_fitRounded 88 = .ok (.iload_n 2, 1) := by decide +kernel
theorem dX3_fitRounded_89 : decode cX3_fitRounded 89 = .ok (.sipush 369, 3) := by decide +kernel
theorem dX3_fitRounded_92 : decode cX3_fitRounded 92 = .ok (.if_icmp .le 8, 3) := by decide +kernel
theorem dX3_fitRounded_95 : decode cX3_fitRounded 95 = .ok (.aload_n 0, 1) := by decide +kernel
theorem dX3_fitRounded_96 : decode cX3_fitRounded 96 = .ok (.invokevirtual 242, 3) := by decide +kernel
theorem dX3_fitRounded_99 : decode cX3_fitRounded 99 = .ok (.return_, 1) := by decide +kernel
theorem dX3_fitRounded_100 : decode cX3_fitRounded 100 = .ok (.iload_n 1, 1) := by decide +kernel
theorem dX3_fitRounded_101 : decode cX3_fitRounded 101 = .ok (.sipush (-383), 3) := by decide +kernel
theorem dX3_fitRounded_104 : decode cX3_fitRounded 104 = .ok (.if_icmp .gt 9, 3) := by decide +kernel
theorem dX3_fitRounded_107 : decode cX3_fitRounded 107 = .ok (.aload_n 0, 1) := by decide +kernel
theorem dX3_fitRounded_108 : decode cX3_fitRounded 108 = .ok (.bipush 8, 2) := by decide +kernel
theorem dX3_fitRounded_110 : decode cX3_fitRounded 110 = .ok (.invokevirtual 168, 3) := by decide +kernel
theorem dX3_fitRounded_113 : decode cX3_fitRounded 113 = .ok (.aload_n 0, 1) := by decide +kernel
theorem dX3_fitRounded_114 : decode cX3_fitRounded 114 = .ok (.getfield 16, 3) := by decide +kernel
theorem dX3_fitRounded_117 : decode cX3_fitRounded 117 = .ok (.aload_n 0, 1) := by decide +kernel
theorem dX3_fitRounded_118 : decode cX3_fitRounded 118 = .ok (.getfield 23, 3) := by decide +kernel
theorem dX3_fitRounded_121 : decode cX3_fitRounded 121 = .ok (.getfield 216, 3) := by decide +kernel
theorem dX3_fitRounded_124 : decode cX3_fitRounded 124 = .ok (.lload_n 3, 1) := by decide +kernel
theorem dX3_fitRounded_125 : decode cX3_fitRounded 125 = .ok (.iload_n 2, 1) := by decide +kernel
theorem dX3_fitRounded_126 : decode cX3_fitRounded 126 = .ok (.invokevirtual 55, 3) := by decide +kernel
theorem dX3_fitRounded_129 : decode cX3_fitRounded 129 = .ok (.return_, 1) := by decide +kernel
theorem dX3_setTooGreat_0 : decode cX3_setTooGreat 0 = .ok (.aload_n 0, 1) := by decide +kernel
theorem dX3_setTooGreat_1 : decode cX3_setTooGreat 1 = .ok (.iconst 4, 1) := by decide +kernel
theorem dX3_setTooGreat_2 : decode cX3_setTooGreat 2 = .ok (.invokevirtual 168, 3) := by decide +kernel
theorem dX3_setTooGreat_5 : decode cX3_setTooGreat 5 = .ok (.aload_n 0, 1) := by decide +kernel
theorem dX3_setTooGreat_6 : decode cX3_setTooGreat 6 = .ok (.getfield 27, 3) := by decide +kernel
theorem dX3_setTooGreat_9 : decode cX3_setTooGreat 9 = .ok (.iconst 2, 1) := by decide +kernel
theorem dX3_setTooGreat_10 : decode cX3_setTooGreat 10 = .ok (.if_icmp .eq 39, 3) := by decide +kernel
theorem dX3_setTooGreat_13 : decode cX3_setTooGreat 13 = .ok (.aload_n 0, 1) := by decide +kernel
theorem dX3_setTooGreat_14 : decode cX3_setTooGreat 14 = .ok (.getfield 27, 3) := by decide +kernel
theorem dX3_setTooGreat_17 : decode cX3_setTooGreat 17 = .ok (.iconst 3, 1) := by decide +kernel
theorem dX3_setTooGreat_18 : decode cX3_setTooGreat 18 = .ok (.if_icmp .ne 13, 3) := by decide +kernel
theorem dX3_setTooGreat_21 : decode cX3_setTooGreat 21 = .ok (.aload_n 0, 1) := by decide +kernel
theorem dX3_setTooGreat_22 : decode cX3_setTooGreat 22 = .ok (.getfield 23, 3) := by decide +kernel
theorem dX3_setTooGreat_25 : decode cX3_setTooGreat 25 = .ok (.getfield 216, 3) := by decide +kernel
theorem dX3_setTooGreat_28 : decode cX3_setTooGreat 28 = .ok (.ifCond .ne 21, 3) := by decide +kernel
theorem dX3_setTooGreat_31 : decode cX3_setTooGreat 31 = .ok (.aload_n 0, 1) := by decide +kernel
theorem dX3_setTooGreat_32 : decode cX3_setTooGreat 32 = .ok (.getfield 27, 3) := by decide +kernel
theorem dX3_setTooGreat_35 : decode cX3_setTooGreat 35 = .ok (.iconst 4, 1) := by decide +kernel
theorem dX3_setTooGreat_36 : decode cX3_setTooGreat 36 = .ok (.if_icmp .ne 17, 3) := by decide +kernel
theorem dX3_setTooGreat_39 : decode cX3_setTooGreat 39 = .ok (.aload_n 0, 1) := by decide +kernel
theorem dX3_setTooGreat_40 : decode cX3_setTooGreat 40 = .ok (.getfield 23, 3) := by decide +kernel
theorem dX3_setTooGreat_43 : decode cX3_setTooGreat 43 = .ok (.getfield 216, 3) := by decide +kernel
theorem dX3_setTooGreat_46 : decode cX3_setTooGreat 46 = .ok (.ifCond .ne 7, 3) := by decide +kernel
theorem dX3_setTooGreat_49 : decode cX3_setTooGreat 49 = .ok (.iconst 1, 1) := by decide +kernel
theorem dX3_setTooGreat_50 : decode cX3_setTooGreat 50 = .ok (.goto 4, 3) := by decide +kernel
theorem dX3_setTooGreat_53 : decode cX3_setTooGreat 53 = .ok (.iconst 0, 1) := by decide +kernel
theorem dX3_setTooGreat_54 : decode cX3_setTooGreat 54 = .ok (.istore_n 1, 1) := by decide +kernel
theorem dX3_setTooGreat_55 : decode cX3_setTooGreat 55 = .ok (.iload_n 1, 1) := by decide +kernel
theorem dX3_setTooGreat_56 : decode cX3_setTooGreat 56 = .ok (.ifCond .eq 26, 3) := by decide +kernel
theorem dX3_setTooGreat_59 : decode cX3_setTooGreat 59 = .ok (.aload_n 0, 1) := by decide +kernel
theorem dX3_setTooGreat_60 : decode cX3_setTooGreat 60 = .ok (.getfield 16, 3) := by decide +kernel
theorem dX3_setTooGreat_63 : decode cX3_setTooGreat 63 = .ok (.aload_n 0, 1) := by decide +kernel
theorem dX3_setTooGreat_64 : decode cX3_setTooGreat 64 = .ok (.getfield 23, 3) := by decide +kernel
theorem dX3_setTooGreat_67 : decode cX3_setTooGreat 67 = .ok (.getfield 216, 3) := by decide +kernel
theorem dX3_setTooGreat_70 : decode cX3_setTooGreat 70 = .ok (.ldc2_w 192, 3) := by decide +kernel
theorem dX3_setTooGreat_73 : decode cX3_setTooGreat 73 = .ok (.sipush 369, 3) := by decide +kernel
theorem dX3_setTooGreat_76 : decode cX3_setTooGreat 76 = .ok (.invokevirtual 55, 3) := by decide +kernel
theorem dX3_setTooGreat_79 : decode cX3_setTooGreat 79 = .ok (.goto 17, 3) := by decide +kernel
theorem dX3_setTooGreat_82 : decode cX3_setTooGreat 82 = .ok (.aload_n 0, 1) := by decide +kernel
theorem dX3_setTooGreat_83 : decode cX3_setTooGreat 83 = .ok (.getfield 16, 3) := by decide +kernel
theorem dX3_setTooGreat_86 : decode cX3_setTooGreat 86 = .ok (.aload_n 0, 1) := by decide +kernel
theorem dX3_setTooGreat_87 : decode cX3_setTooGreat 87 = .ok (.getfield 23, 3) := by decide +kernel
theorem dX3_setTooGreat_90 : decode cX3_setTooGreat 90 = .ok (.getfield 216, 3) := by decide +kernel
theorem dX3_setTooGreat_93 : decode cX3_setTooGreat 93 = .ok (.invokevirtual 143, 3) := by decide +kernel
theorem dX3_setTooGreat_96 : decode cX3_setTooGreat 96 = .ok (.return_, 1) := by decide +kernel
theorem dX3_roundedKept_0 : decode cX3_roundedKept 0 = .ok (.aload_n 0, 1) := by decide +kernel
theorem dX3_roundedKept_1 : decode cX3_roundedKept 1 = .ok (.getfield 27, 3) := by decide +kernel
theorem dX3_roundedKept_4 : decode cX3_roundedKept 4 = .ok (.tableswitch 160 0 4 #[36, 83, 160, 114, 137], 36) := by decide +kernel
theorem dX3_roundedKept_40 : decode cX3_roundedKept 40 = .ok (.aload_n 0, 1) := by decide +kernel
theorem dX3_roundedKept_41 : decode cX3_roundedKept 41 = .ok (.getfield 23, 3) := by decide +kernel
theorem dX3_roundedKept_44 : decode cX3_roundedKept 44 = .ok (.getfield 177, 3) := by decide +kernel
theorem dX3_roundedKept_47 : decode cX3_roundedKept 47 = .ok (.iconst 3, 1) := by decide +kernel
theorem dX3_roundedKept_48 : decode cX3_roundedKept 48 = .ok (.if_icmp .eq 30, 3) := by decide +kernel
theorem dX3_roundedKept_51 : decode cX3_roundedKept 51 = .ok (.aload_n 0, 1) := by decide +kernel
theorem dX3_roundedKept_52 : decode cX3_roundedKept 52 = .ok (.getfield 23, 3) := by decide +kernel
theorem dX3_roundedKept_55 : decode cX3_roundedKept 55 = .ok (.getfield 177, 3) := by decide +kernel
theorem dX3_roundedKept_58 : decode cX3_roundedKept 58 = .ok (.iconst 2, 1) := by decide +kernel
theorem dX3_roundedKept_59 : decode cX3_roundedKept 59 = .ok (.if_icmp .ne 23, 3) := by decide +kernel
theorem dX3_roundedKept_62 : decode cX3_roundedKept 62 = .ok (.aload_n 0, 1) := by decide +kernel
theorem dX3_roundedKept_63 : decode cX3_roundedKept 63 = .ok (.getfield 23, 3) := by decide +kernel
theorem dX3_roundedKept_66 : decode cX3_roundedKept 66 = .ok (.getfield 245, 3) := by decide +kernel
theorem dX3_roundedKept_69 : decode cX3_roundedKept 69 = .ok (.ldc2_w 248, 3) := by decide +kernel
theorem dX3_roundedKept_72 : decode cX3_roundedKept 72 = .ok (.lrem, 1) := by decide +kernel
theorem dX3_roundedKept_73 : decode cX3_roundedKept 73 = .ok (.lconst 0, 1) := by decide +kernel
theorem dX3_roundedKept_74 : decode cX3_roundedKept 74 = .ok (.lcmp, 1) := by decide +kernel
theorem dX3_roundedKept_75 : decode cX3_roundedKept 75 = .ok (.ifCond .eq 7, 3) := by decide +kernel
theorem dX3_roundedKept_78 : decode cX3_roundedKept 78 = .ok (.iconst 1, 1) := by decide +kernel
theorem dX3_roundedKept_79 : decode cX3_roundedKept 79 = .ok (.goto 4, 3) := by decide +kernel
theorem dX3_roundedKept_82 : decode cX3_roundedKept 82 = .ok (.iconst 0, 1) := by decide +kernel
theorem dX3_roundedKept_83 : decode cX3_roundedKept 83 = .ok (.istore_n 2, 1) := by decide +kernel
theorem dX3_roundedKept_84 : decode cX3_roundedKept 84 = .ok (.goto 82, 3) := by decide +kernel
theorem dX3_roundedKept_87 : decode cX3_roundedKept 87 = .ok (.aload_n 0, 1) := by decide +kernel
theorem dX3_roundedKept_88 : decode cX3_roundedKept 88 = .ok (.getfield 23, 3) := by decide +kernel
theorem dX3_roundedKept_91 : decode cX3_roundedKept 91 = .ok (.getfield 177, 3) := by decide +kernel
theorem dX3_roundedKept_94 : decode cX3_roundedKept 94 = .ok (.iconst 2, 1) := by decide +kernel
theorem dX3_roundedKept_95 : decode cX3_roundedKept 95 = .ok (.if_icmp .eq 14, 3) := by decide +kernel
theorem dX3_roundedKept_98 : decode cX3_roundedKept 98 = .ok (.aload_n 0, 1) := by decide +kernel
theorem dX3_roundedKept_99 : decode cX3_roundedKept 99 = .ok (.getfield 23, 3) := by decide +kernel
theorem dX3_roundedKept_102 : decode cX3_roundedKept 102 = .ok (.getfield 177, 3) := by decide +kernel
theorem dX3_roundedKept_105 : decode cX3_roundedKept 105 = .ok (.iconst 3, 1) := by decide +kernel
theorem dX3_roundedKept_106 : decode cX3_roundedKept 106 = .ok (.if_icmp .ne 7, 3) := by decide +kernel
theorem dX3_roundedKept_109 : decode cX3_roundedKept 109 = .ok (.iconst 1, 1) := by decide +kernel
theorem dX3_roundedKept_110 : decode cX3_roundedKept 110 = .ok (.goto 4, 3) := by decide +kernel
theorem dX3_roundedKept_113 : decode cX3_roundedKept 113 = .ok (.iconst 0, 1) := by decide +kernel
theorem dX3_roundedKept_114 : decode cX3_roundedKept 114 = .ok (.istore_n 2, 1) := by decide +kernel
theorem dX3_roundedKept_115 : decode cX3_roundedKept 115 = .ok (.goto 51, 3) := by decide +kernel
theorem dX3_roundedKept_118 : decode cX3_roundedKept 118 = .ok (.aload_n 0, 1) := by decide +kernel
theorem dX3_roundedKept_119 : decode cX3_roundedKept 119 = .ok (.getfield 23, 3) := by decide +kernel
theorem dX3_roundedKept_122 : decode cX3_roundedKept 122 = .ok (.getfield 177, 3) := by decide +kernel
theorem dX3_roundedKept_125 : decode cX3_roundedKept 125 = .ok (.ifCond .eq 11, 3) := by decide +kernel
theorem dX3_roundedKept_128 : decode cX3_roundedKept 128 = .ok (.iload_n 1, 1) := by decide +kernel
theorem dX3_roundedKept_129 : decode cX3_roundedKept 129 = .ok (.ifCond .ne 7, 3) := by decide +kernel
theorem dX3_roundedKept_132 : decode cX3_roundedKept 132 = .ok (.iconst 1, 1) := by decide +kernel
theorem dX3_roundedKept_133 : decode cX3_roundedKept 133 = .ok (.goto 4, 3) := by decide +kernel
theorem dX3_roundedKept_136 : decode cX3_roundedKept 136 = .ok (.iconst 0, 1) := by decide +kernel
theorem dX3_roundedKept_137 : decode cX3_roundedKept 137 = .ok (.istore_n 2, 1) := by decide +kernel
theorem dX3_roundedKept_138 : decode cX3_roundedKept 138 = .ok (.goto 28, 3) := by decide +kernel
theorem dX3_roundedKept_141 : decode cX3_roundedKept 141 = .ok (.aload_n 0, 1) := by decide +kernel
theorem dX3_roundedKept_142 : decode cX3_roundedKept 142 = .ok (.getfield 23, 3) := by decide +kernel
theorem dX3_roundedKept_145 : decode cX3_roundedKept 145 = .ok (.getfield 177, 3) := by decide +kernel
theorem dX3_roundedKept_148 : decode cX3_roundedKept 148 = .ok (.ifCond .eq 11, 3) := by decide +kernel
theorem dX3_roundedKept_151 : decode cX3_roundedKept 151 = .ok (.iload_n 1, 1) := by decide +kernel
theorem dX3_roundedKept_152 : decode cX3_roundedKept 152 = .ok (.ifCond .eq 7, 3) := by decide +kernel
theorem dX3_roundedKept_155 : decode cX3_roundedKept 155 = .ok (.iconst 1, 1) := by decide +kernel
theorem dX3_roundedKept_156 : decode cX3_roundedKept 156 = .ok (.goto 4, 3) := by decide +kernel
theorem dX3_roundedKept_159 : decode cX3_roundedKept 159 = .ok (.iconst 0, 1) := by decide +kernel
theorem dX3_roundedKept_160 : decode cX3_roundedKept 160 = .ok (.istore_n 2, 1) := by decide +kernel
theorem dX3_roundedKept_161 : decode cX3_roundedKept 161 = .ok (.goto 5, 3) := by decide +kernel
theorem dX3_roundedKept_164 : decode cX3_roundedKept 164 = .ok (.iconst 0, 1) := by decide +kernel
theorem dX3_roundedKept_165 : decode cX3_roundedKept 165 = .ok (.istore_n 2, 1) := by decide +kernel
theorem dX3_roundedKept_166 : decode cX3_roundedKept 166 = .ok (.iload_n 2, 1) := by decide +kernel
theorem dX3_roundedKept_167 : decode cX3_roundedKept 167 = .ok (.ifCond .eq 15, 3) := by decide +kernel
theorem dX3_roundedKept_170 : decode cX3_roundedKept 170 = .ok (.aload_n 0, 1) := by decide +kernel
theorem dX3_roundedKept_171 : decode cX3_roundedKept 171 = .ok (.getfield 23, 3) := by decide +kernel
theorem dX3_roundedKept_174 : decode cX3_roundedKept 174 = .ok (.getfield 245, 3) := by decide +kernel
theorem dX3_roundedKept_177 : decode cX3_roundedKept 177 = .ok (.lconst 1, 1) := by decide +kernel
theorem dX3_roundedKept_178 : decode cX3_roundedKept 178 = .ok (.ladd, 1) := by decide +kernel
theorem dX3_roundedKept_179 : decode cX3_roundedKept 179 = .ok (.goto 10, 3) := by decide +kernel
theorem dX3_roundedKept_182 : decode cX3_roundedKept 182 = .ok (.aload_n 0, 1) := by decide +kernel
theorem dX3_roundedKept_183 : decode cX3_roundedKept 183 = .ok (.getfield 23, 3) := by decide +kernel
theorem dX3_roundedKept_186 : decode cX3_roundedKept 186 = .ok (.getfield 245, 3) := by decide +kernel
theorem dX3_roundedKept_189 : decode cX3_roundedKept 189 = .ok (.lreturn, 1) := by decide +kernel
theorem dX3_order_0 : decode cX3_order 0 = .ok (.aload_n 0, 1) := by decide +kernel
theorem dX3_order_1 : decode cX3_order 1 = .ok (.invokevirtual 250, 3) := by decide +kernel
theorem dX3_order_4 : decode cX3_order 4 = .ok (.istore_n 2, 1) := by decide +kernel
theorem dX3_order_5 : decode cX3_order 5 = .ok (.iload_n 2, 1) := by decide +kernel
theorem dX3_order_6 : decode cX3_order 6 = .ok (.aload_n 1, 1) := by decide +kernel
theorem dX3_order_7 : decode cX3_order 7 = .ok (.invokevirtual 250, 3) := by decide +kernel
theorem dX3_order_10 : decode cX3_order 10 = .ok (.if_icmp .eq 17, 3) := by decide +kernel
theorem dX3_order_13 : decode cX3_order 13 = .ok (.iload_n 2, 1) := by decide +kernel
theorem dX3_order_14 : decode cX3_order 14 = .ok (.aload_n 1, 1) := by decide +kernel
theorem dX3_order_15 : decode cX3_order 15 = .ok (.invokevirtual 250, 3) := by decide +kernel
theorem dX3_order_18 : decode cX3_order 18 = .ok (.if_icmp .ge 7, 3) := by decide +kernel
theorem dX3_order_21 : decode cX3_order 21 = .ok (.iconst (-1), 1) := by decide +kernel
theorem dX3_order_22 : decode cX3_order 22 = .ok (.goto 4, 3) := by decide +kernel
theorem dX3_order_25 : decode cX3_order 25 = .ok (.iconst 1, 1) := by decide +kernel
theorem dX3_order_26 : decode cX3_order 26 = .ok (.ireturn, 1) := by decide +kernel
theorem dX3_order_27 : decode cX3_order 27 = .ok (.iload_n 2, 1) := by decide +kernel
theorem dX3_order_28 : decode cX3_order 28 = .ok (.ifCond .ne 5, 3) := by decide +kernel
theorem dX3_order_31 : decode cX3_order 31 = .ok (.iconst 0, 1) := by decide +kernel
theorem dX3_order_32 : decode cX3_order 32 = .ok (.ireturn, 1) := by decide +kernel
theorem dX3_order_33 : decode cX3_order 33 = .ok (.iload_n 2, 1) := by decide +kernel
theorem dX3_order_34 : decode cX3_order 34 = .ok (.aload_n 0, 1) := by decide +kernel
theorem dX3_order_35 : decode cX3_order 35 = .ok (.aload_n 1, 1) := by decide +kernel
theorem dX3_order_36 : decode cX3_order 36 = .ok (.invokestatic 253, 3) := by decide +kernel
theorem dX3_order_39 : decode cX3_order 39 = .ok (.imul, 1) := by decide +kernel
theorem dX3_order_40 : decode cX3_order 40 = .ok (.ireturn, 1) := by decide +kernel
theorem dX3_orderOfSizes_0 : decode cX3_orderOfSizes 0 = .ok (.aload_n 0, 1) := by decide +kernel
theorem dX3_orderOfSizes_1 : decode cX3_orderOfSizes 1 = .ok (.getfield 70, 3) := by decide +kernel
theorem dX3_orderOfSizes_4 : decode cX3_orderOfSizes 4 = .ok (.iconst 1, 1) := by decide +kernel
theorem dX3_orderOfSizes_5 : decode cX3_orderOfSizes 5 = .ok (.if_icmp .eq 11, 3) := by decide +kernel
theorem dX3_orderOfSizes_8 : decode cX3_orderOfSizes 8 = .ok (.aload_n 1, 1) := by decide +kernel
theorem dX3_orderOfSizes_9 : decode cX3_orderOfSizes 9 = .ok (.getfield 70, 3) := by decide +kernel
theorem dX3_orderOfSizes_12 : decode cX3_orderOfSizes 12 = .ok (.iconst 1, 1) := by decide +kernel
theorem dX3_orderOfSizes_13 : decode cX3_orderOfSizes 13 = .ok (.if_icmp .ne 17, 3) := by decide +kernel
theorem dX3_orderOfSizes_16 : decode cX3_orderOfSizes 16 = .ok (.aload_n 0, 1) := by decide +kernel
theorem dX3_orderOfSizes_17 : decode cX3_orderOfSizes 17 = .ok (.getfield 70, 3) := by decide +kernel
theorem dX3_orderOfSizes_20 : decode cX3_orderOfSizes 20 = .ok (.i2l, 1) := by decide +kernel
theorem dX3_orderOfSizes_21 : decode cX3_orderOfSizes 21 = .ok (.aload_n 1, 1) := by decide +kernel
theorem dX3_orderOfSizes_22 : decode cX3_orderOfSizes 22 = .ok (.getfield 70, 3) := by decide +kernel
theorem dX3_orderOfSizes_25 : decode cX3_orderOfSizes 25 = .ok (.i2l, 1) := by decide +kernel
theorem dX3_orderOfSizes_26 : decode cX3_orderOfSizes 26 = .ok (.invokestatic 256, 3) := by decide +kernel
theorem dX3_orderOfSizes_29 : decode cX3_orderOfSizes 29 = .ok (.ireturn, 1) := by decide +kernel
theorem dX3_orderOfSizes_30 : decode cX3_orderOfSizes 30 = .ok (.aload_n 0, 1) := by decide +kernel
theorem dX3_orderOfSizes_31 : decode cX3_orderOfSizes 31 = .ok (.getfield 81, 3) := by decide +kernel
theorem dX3_orderOfSizes_34 : decode cX3_orderOfSizes 34 = .ok (.invokestatic 184, 3) := by decide +kernel
theorem dX3_orderOfSizes_37 : decode cX3_orderOfSizes 37 = .ok (.istore_n 2, 1) := by decide +kernel
theorem dX3_orderOfSizes_38 : decode cX3_orderOfSizes 38 = .ok (.aload_n 1, 1) := by decide +kernel
theorem dX3_orderOfSizes_39 : decode cX3_orderOfSizes 39 = .ok (.getfield 81, 3) := by decide +kernel
theorem dX3_orderOfSizes_42 : decode cX3_orderOfSizes 42 = .ok (.invokestatic 184, 3) := by decide +kernel
theorem dX3_orderOfSizes_45 : decode cX3_orderOfSizes 45 = .ok (.istore_n 3, 1) := by decide +kernel
theorem dX3_orderOfSizes_46 : decode cX3_orderOfSizes 46 = .ok (.aload_n 0, 1) := by decide +kernel
theorem dX3_orderOfSizes_47 : decode cX3_orderOfSizes 47 = .ok (.getfield 85, 3) := by decide +kernel
theorem dX3_orderOfSizes_50 : decode cX3_orderOfSizes 50 = .ok (.iload_n 2, 1) := by decide +kernel
theorem dX3_orderOfSizes_51 : decode cX3_orderOfSizes 51 = .ok (.iadd, 1) := by decide +kernel
theorem dX3_orderOfSizes_52 : decode cX3_orderOfSizes 52 = .ok (.i2l, 1) := by decide +kernel
theorem dX3_orderOfSizes_53 : decode cX3_orderOfSizes 53 = .ok (.aload_n 1, 1) := by decide +kernel
theorem dX3_orderOfSizes_54 : decode cX3_orderOfSizes 54 = .ok (.getfield 85, 3) := by decide +kernel
theorem dX3_orderOfSizes_57 : decode cX3_orderOfSizes 57 = .ok (.iload_n 3, 1) := by decide +kernel
theorem dX3_orderOfSizes_58 : decode cX3_orderOfSizes 58 = .ok (.iadd, 1) := by decide +kernel
theorem dX3_orderOfSizes_59 : decode cX3_orderOfSizes 59 = .ok (.i2l, 1) := by decide +kernel
theorem dX3_orderOfSizes_60 : decode cX3_orderOfSizes 60 = .ok (.invokestatic 256, 3) := by decide +kernel
theorem dX3_orderOfSizes_63 : decode cX3_orderOfSizes 63 = .ok (.istore 4, 2) := by decide +kernel
theorem dX3_orderOfSizes_65 : decode cX3_orderOfSizes 65 = .ok (.iload 4, 2) := by decide +kernel
theorem dX3_orderOfSizes_67 : decode cX3_orderOfSizes 67 = .ok (.ifCond .eq 6, 3) := by decide +kernel
theorem dX3_orderOfSizes_70 : decode cX3_orderOfSizes 70 = .ok (.iload 4, 2) := by decide +kernel
theorem dX3_orderOfSizes_72 : decode cX3_orderOfSizes 72 = .ok (.ireturn, 1) := by decide +kernel
theorem dX3_orderOfSizes_73 : decode cX3_orderOfSizes 73 = .ok (.aload_n 0, 1) := by decide +kernel
theorem dX3_orderOfSizes_74 : decode cX3_orderOfSizes 74 = .ok (.getfield 81, 3) := by decide +kernel
theorem dX3_orderOfSizes_77 : decode cX3_orderOfSizes 77 = .ok (.bipush 16, 2) := by decide +kernel
theorem dX3_orderOfSizes_79 : decode cX3_orderOfSizes 79 = .ok (.iload_n 2, 1) := by decide +kernel
theorem dX3_orderOfSizes_80 : decode cX3_orderOfSizes 80 = .ok (.isub, 1) := by decide +kernel
theorem dX3_orderOfSizes_81 : decode cX3_orderOfSizes 81 = .ok (.invokestatic 188, 3) := by decide +kernel
theorem dX3_orderOfSizes_84 : decode cX3_orderOfSizes 84 = .ok (.lmul, 1) := by decide +kernel
theorem dX3_orderOfSizes_85 : decode cX3_orderOfSizes 85 = .ok (.aload_n 1, 1) := by decide +kernel
theorem dX3_orderOfSizes_86 : decode cX3_orderOfSizes 86 = .ok (.getfield 81, 3) := by decide +kernel
theorem dX3_orderOfSizes_89 : decode cX3_orderOfSizes 89 = .ok (.bipush 16, 2) := by decide +kernel
theorem dX3_orderOfSizes_91 : decode cX3_orderOfSizes 91 = .ok (.iload_n 3, 1) := by decide +kernel
theorem dX3_orderOfSizes_92 : decode cX3_orderOfSizes 92 = .ok (.isub, 1) := by decide +kernel
theorem dX3_orderOfSizes_93 : decode cX3_orderOfSizes 93 = .ok (.invokestatic 188, 3) := by decide +kernel
theorem dX3_orderOfSizes_96 : decode cX3_orderOfSizes 96 = .ok (.lmul, 1) := by decide +kernel
theorem dX3_orderOfSizes_97 : decode cX3_orderOfSizes 97 = .ok (.invokestatic 256, 3) := by decide +kernel
theorem dX3_orderOfSizes_100 : decode cX3_orderOfSizes 100 = .ok (.ireturn, 1) := by decide +kernel
theorem dX3_orderOf_0 : decode cX3_orderOf 0 = .ok (.lload_n 0, 1) := by decide +kernel
theorem dX3_orderOf_1 : decode cX3_orderOf 1 = .ok (.lload_n 2, 1) := by decide +kernel
theorem dX3_orderOf_2 : decode cX3_orderOf 2 = .ok (.lcmp, 1) := by decide +kernel
theorem dX3_orderOf_3 : decode cX3_orderOf 3 = .ok (.ifCond .ne 5, 3) := by decide +kernel
theorem dX3_orderOf_6 : decode cX3_orderOf 6 = .ok (.iconst 0, 1) := by decide +kernel
theorem dX3_orderOf_7 : decode cX3_orderOf 7 = .ok (.ireturn, 1) := by decide +kernel
theorem dX3_orderOf_8 : decode cX3_orderOf 8 = .ok (.lload_n 0, 1) := by decide +kernel
theorem dX3_orderOf_9 : decode cX3_orderOf 9 = .ok (.lload_n 2, 1) := by decide +kernel
theorem dX3_orderOf_10 : decode cX3_orderOf 10 = .ok (.lcmp, 1) := by decide +kernel
theorem dX3_orderOf_11 : decode cX3_orderOf 11 = .ok (.ifCond .ge 7, 3) := by decide +kernel
theorem dX3_orderOf_14 : decode cX3_orderOf 14 = .ok (.iconst (-1), 1) := by decide +kernel
theorem dX3_orderOf_15 : decode cX3_orderOf 15 = .ok (.goto 4, 3) := by decide +kernel
theorem dX3_orderOf_18 : decode cX3_orderOf 18 = .ok (.iconst 1, 1) := by decide +kernel
theorem dX3_orderOf_19 : decode cX3_orderOf 19 = .ok (.ireturn, 1) := by decide +kernel
theorem dX3_tenTo_0 : decode cX3_tenTo 0 = .ok (.getstatic 260, 3) := by decide +kernel
theorem dX3_tenTo_3 : decode cX3_tenTo 3 = .ok (.iconst 0, 1) := by decide +kernel
theorem dX3_tenTo_4 : decode cX3_tenTo 4 = .ok (.iload_n 0, 1) := by decide +kernel
theorem dX3_tenTo_5 : decode cX3_tenTo 5 = .ok (.bipush 16, 2) := by decide +kernel
theorem dX3_tenTo_7 : decode cX3_tenTo 7 = .ok (.invokestatic 194, 3) := by decide +kernel
theorem dX3_tenTo_10 : decode cX3_tenTo 10 = .ok (.invokestatic 213, 3) := by decide +kernel
theorem dX3_tenTo_13 : decode cX3_tenTo 13 = .ok (.laload, 1) := by decide +kernel
theorem dX3_tenTo_14 : decode cX3_tenTo 14 = .ok (.lreturn, 1) := by decide +kernel
theorem dX3_digitsOf_0 : decode cX3_digitsOf 0 = .ok (.iconst 0, 1) := by decide +kernel
theorem dX3_digitsOf_1 : decode cX3_digitsOf 1 = .ok (.istore_n 2, 1) := by decide +kernel
theorem dX3_digitsOf_2 : decode cX3_digitsOf 2 = .ok (.iload_n 2, 1) := by decide +kernel
theorem dX3_digitsOf_3 : decode cX3_digitsOf 3 = .ok (.bipush 16, 2) := by decide +kernel
theorem dX3_digitsOf_5 : decode cX3_digitsOf 5 = .ok (.if_icmp .ge 19, 3) := by decide +kernel
theorem dX3_digitsOf_8 : decode cX3_digitsOf 8 = .ok (.lload_n 0, 1) := by decide +kernel
theorem dX3_digitsOf_9 : decode cX3_digitsOf 9 = .ok (.getstatic 260, 3) := by decide +kernel
theorem dX3_digitsOf_12 : decode cX3_digitsOf 12 = .ok (.iload_n 2, 1) := by decide +kernel
theorem dX3_digitsOf_13 : decode cX3_digitsOf 13 = .ok (.laload, 1) := by decide +kernel
theorem dX3_digitsOf_14 : decode cX3_digitsOf 14 = .ok (.lcmp, 1) := by decide +kernel
theorem dX3_digitsOf_15 : decode cX3_digitsOf 15 = .ok (.ifCond .lt 9, 3) := by decide +kernel
theorem dX3_digitsOf_18 : decode cX3_digitsOf 18 = .ok (.iinc 2 1, 3) := by decide +kernel
theorem dX3_digitsOf_21 : decode cX3_digitsOf 21 = .ok (.goto (-19), 3) := by decide +kernel
theorem dX3_digitsOf_24 : decode cX3_digitsOf 24 = .ok (.iload_n 2, 1) := by decide +kernel
theorem dX3_digitsOf_25 : decode cX3_digitsOf 25 = .ok (.ireturn, 1) := by decide +kernel
end
section
def F_X0_setFinite (vso : Nat → Int32) (vmi : Nat → Bool) (vco : Nat → Int64) (vex : Nat → Int32) (i0 : Nat) (p0 : Bool) (p1 : Int64) (p2 : Int32) : (Nat → Int32) × (Nat → Bool) × (Nat → Int64) × (Nat → Int32) := (bnd (va_up vso i0 0) (fun w1 : Nat → Int32 => (bnd (va_up vmi i0 p0) (fun w3 : Nat → Bool => (bnd (va_up vco i0 p1) (fun w5 : Nat → Int64 => (bnd (va_up vex i0 p2) (fun w7 : Nat → Int32 => (w1, w3, w5, w7)))))))))
def RF_X0_setFinite (vso : Nat → Int32) (vmi : Nat → Bool) (vco : Nat → Int64) (vex : Nat → Int32) (i0 : Nat) (p0 : Bool) (p1 : Int64) (p2 : Int32) (u9 : (Nat → Int32) × (Nat → Bool) × (Nat → Int64) × (Nat → Int32)) : Prop := (∀ w1 : Nat → Int32, w1 = va_up vso i0 0 → (∀ w3 : Nat → Bool, w3 = va_up vmi i0 p0 → (∀ w5 : Nat → Int64, w5 = va_up vco i0 p1 → (∀ w7 : Nat → Int32, w7 = va_up vex i0 p2 → u9 = (w1, w3, w5, w7)))))
theorem rF_X0_setFinite (vso : Nat → Int32) (vmi : Nat → Bool) (vco : Nat → Int64) (vex : Nat → Int32) (i0 : Nat) (p0 : Bool) (p1 : Int64) (p2 : Int32) {u9 : (Nat → Int32) × (Nat → Bool) × (Nat → Int64) × (Nat → Int32)} (hu : u9 = F_X0_setFinite vso vmi vco vex i0 p0 p1 p2) : RF_X0_setFinite vso vmi vco vex i0 p0 p1 p2 u9 := by
  unfold RF_X0_setFinite
  intro w1 ew1
  have hu := bnd_n hu ew1
  intro w3 ew3
  have hu := bnd_n hu ew3
  intro w5 ew5
  have hu := bnd_n hu ew5
  intro w7 ew7
  have hu := bnd_n hu ew7
  exact hu
def rm_X0_setFinite : Room := { frames := 0, cells := 0, slots := 0, locals := 0 }
set_option maxHeartbeats 4000000 in
set_option maxRecDepth 100000 in
theorem c_X0_setFinite (l : Launch) (D : va_G) (cR cI cJ cZ : ClassId) (t0 : Nat) (ax ar ao : Nat) (ad : Nat → Nat) (vrd : Int32) (vtr : Int32) (vsd : Int32) (vrn : Int32) (vom : Bool) (voh : Int64) (vol : Int64) (vop : Int32) (voe : Bool) (vow : Int32) (vok : Int64) (vos : Int32) (vso : Nat → Int32) (vmi : Nat → Bool) (vco : Nat → Int64) (vex : Nat → Int32) (i0 : Nat) (p0 : Bool) (p1 : Int64) (p2 : Int32) (u : (Nat → Int32) × (Nat → Bool) × (Nat → Int64) × (Nat → Int32)) (hu : u = F_X0_setFinite vso vmi vco vex i0 p0 p1 p2) (hb0 : i0 < 9) : XM l D (xty cR cI cJ cZ) t0 yX0_setFinite cX0_setFinite 5 none rm_X0_setFinite [.ref (ad i0), .int (bI p0), .long p1, .int p2] none (xw cR ax ar ao ad vrd vtr vsd vrn vom voh vol vop voe vow vok vos vso vmi vco vex) (xw cR ax ar ao ad vrd vtr vsd vrn vom voh vol vop voe vow vok vos u.1 u.2.1 u.2.2.1 u.2.2.2) := by
  refine XM.of (by decide) (Nat.le_of_ble_eq_true rfl) ?_
  intro p e s m args below meth c A Q F hK hP hD hA hSt hS hQ ls hl
  obtain ⟨hx, hb, hr, hts, hown, hlocks, hml⟩ := F
  have hCF : CallFix p m c cX0_setFinite 5 s args gW RX0 := ⟨hx, hb, hml, hown, hts⟩
  have hu := rF_X0_setFinite vso vmi vco vex i0 p0 p1 p2 hu
  unfold RF_X0_setFinite at hu
  obtain ⟨H, eH⟩ : ∃ y9 : Heap, y9 = s.heap := ⟨_, rfl⟩
  obtain ⟨locs, eL⟩ : ∃ y9 : List Loc, y9 = [] := ⟨_, rfl⟩
  rw [← eL] at hS ⊢
  have hP : va_P D vwCl (xw cR ax ar ao ad vrd vtr vsd vrn vom voh vol vop voe vow vok vos vso vmi vco vex) H := by rw [eH]; exact hP
  have hS : va_S A s.heap H locs := by rw [eH]; exact hS
  suffices goal9 : W p l e rm_X0_setFinite s m args below meth c H locs 0 0 Q (F0 m 0 ls []) from by rw [← eH]; exact goal9
  have hl : lv_has ls 5 [(0, .ref (ad i0)), (1, .int (bI p0)), (2, .long p1), (4, .int p2)] := hl
  have hi0 : ∀ w ∈ wsX00, w ∈ gW := inW_X0
  refine lv_aload_n hx hb dX0_setFinite_0 rfl (lv_at hl 0 rfl) ?_
  refine lv_iconst (v := 0) hx hb dX0_setFinite_1 (by decide) ?_
  refine p_so (i := i0) hx hb hts hi0 hown hK hP hD hS hb0 (hts (.fieldLink RX0 9 "DecimalWords$Datum" "sort" "I") (inW_1 _ (List.mem_of_getElem? (i := 4) rfl))) 0 dX0_setFinite_2 (fun H locs hP hD hS => ?_)
  obtain ⟨w1, ew1⟩ : ∃ y9 : Nat → Int32, y9 = va_up vso i0 0 := ⟨_, rfl⟩
  have hu := hu _ ew1
  have hP : va_P D vwCl (xw cR ax ar ao ad vrd vtr vsd vrn vom voh vol vop voe vow vok vos w1 vmi vco vex) H := by rw [ew1]; exact hP
  have hD : va_D A (xw cR ax ar ao ad vrd vtr vsd vrn vom voh vol vop voe vow vok vos w1 vmi vco vex) := by rw [ew1]; exact hD
  refine lv_aload_n hx hb dX0_setFinite_5 rfl (lv_at hl 0 rfl) ?_
  refine lv_iload_n hx hb dX0_setFinite_6 rfl (lv_at hl 1 rfl) ?_
  refine p_mi (i := i0) hx hb hts hi0 hown hK hP hD hS hb0 (hts (.fieldLink RX0 15 "DecimalWords$Datum" "minus" "Z") (inW_1 _ (List.mem_of_getElem? (i := 5) rfl))) p0 dX0_setFinite_7 (fun H locs hP hD hS => ?_)
  obtain ⟨w3, ew3⟩ : ∃ y9 : Nat → Bool, y9 = va_up vmi i0 p0 := ⟨_, rfl⟩
  have hu := hu _ ew3
  have hP : va_P D vwCl (xw cR ax ar ao ad vrd vtr vsd vrn vom voh vol vop voe vow vok vos w1 w3 vco vex) H := by rw [ew3]; exact hP
  have hD : va_D A (xw cR ax ar ao ad vrd vtr vsd vrn vom voh vol vop voe vow vok vos w1 w3 vco vex) := by rw [ew3]; exact hD
  refine lv_aload_n hx hb dX0_setFinite_10 rfl (lv_at hl 0 rfl) ?_
  refine lv_lload_n hx hb dX0_setFinite_11 rfl (lv_at hl 2 rfl) ?_
  refine p_co (i := i0) hx hb hts hi0 hown hK hP hD hS hb0 (hts (.fieldLink RX0 19 "DecimalWords$Datum" "coefficient" "J") (inW_1 _ (List.mem_of_getElem? (i := 6) rfl))) p1 dX0_setFinite_12 (fun H locs hP hD hS => ?_)
  obtain ⟨w5, ew5⟩ : ∃ y9 : Nat → Int64, y9 = va_up vco i0 p1 := ⟨_, rfl⟩
  have hu := hu _ ew5
  have hP : va_P D vwCl (xw cR ax ar ao ad vrd vtr vsd vrn vom voh vol vop voe vow vok vos w1 w3 w5 vex) H := by rw [ew5]; exact hP
  have hD : va_D A (xw cR ax ar ao ad vrd vtr vsd vrn vom voh vol vop voe vow vok vos w1 w3 w5 vex) := by rw [ew5]; exact hD
  refine lv_aload_n hx hb dX0_setFinite_15 rfl (lv_at hl 0 rfl) ?_
  refine lv_iload hx hb dX0_setFinite_16 (lv_at hl 3 rfl) ?_
  refine p_ex (i := i0) hx hb hts hi0 hown hK hP hD hS hb0 (hts (.fieldLink RX0 23 "DecimalWords$Datum" "exponent" "I") (inW_1 _ (List.mem_of_getElem? (i := 7) rfl))) p2 dX0_setFinite_18 (fun H locs hP hD hS => ?_)
  obtain ⟨w7, ew7⟩ : ∃ y9 : Nat → Int32, y9 = va_up vex i0 p2 := ⟨_, rfl⟩
  have hu := hu _ ew7
  have hP : va_P D vwCl (xw cR ax ar ao ad vrd vtr vsd vrn vom voh vol vop voe vow vok vos w1 w3 w5 w7) H := by rw [ew7]; exact hP
  have hD : va_D A (xw cR ax ar ao ad vrd vtr vsd vrn vom voh vol vop voe vow vok vos w1 w3 w5 w7) := by rw [ew7]; exact hD
  have e9 := Eq.symm hu; subst e9
  exact x_vret hx hb hr hlocks hQ hK hP hD hS rfl dX0_setFinite_21

def F_X0_setInfinity (vso : Nat → Int32) (vmi : Nat → Bool) (vco : Nat → Int64) (vex : Nat → Int32) (i0 : Nat) (p0 : Bool) : (Nat → Int32) × (Nat → Bool) × (Nat → Int64) × (Nat → Int32) := (bnd (va_up vso i0 1) (fun w1 : Nat → Int32 => (bnd (va_up vmi i0 p0) (fun w3 : Nat → Bool => (bnd (va_up vco i0 0) (fun w5 : Nat → Int64 => (bnd (va_up vex i0 0) (fun w7 : Nat → Int32 => (w1, w3, w5, w7)))))))))
def RF_X0_setInfinity (vso : Nat → Int32) (vmi : Nat → Bool) (vco : Nat → Int64) (vex : Nat → Int32) (i0 : Nat) (p0 : Bool) (u9 : (Nat → Int32) × (Nat → Bool) × (Nat → Int64) × (Nat → Int32)) : Prop := (∀ w1 : Nat → Int32, w1 = va_up vso i0 1 → (∀ w3 : Nat → Bool, w3 = va_up vmi i0 p0 → (∀ w5 : Nat → Int64, w5 = va_up vco i0 0 → (∀ w7 : Nat → Int32, w7 = va_up vex i0 0 → u9 = (w1, w3, w5, w7)))))
theorem rF_X0_setInfinity (vso : Nat → Int32) (vmi : Nat → Bool) (vco : Nat → Int64) (vex : Nat → Int32) (i0 : Nat) (p0 : Bool) {u9 : (Nat → Int32) × (Nat → Bool) × (Nat → Int64) × (Nat → Int32)} (hu : u9 = F_X0_setInfinity vso vmi vco vex i0 p0) : RF_X0_setInfinity vso vmi vco vex i0 p0 u9 := by
  unfold RF_X0_setInfinity
  intro w1 ew1
  have hu := bnd_n hu ew1
  intro w3 ew3
  have hu := bnd_n hu ew3
  intro w5 ew5
  have hu := bnd_n hu ew5
  intro w7 ew7
  have hu := bnd_n hu ew7
  exact hu
def rm_X0_setInfinity : Room := { frames := 0, cells := 0, slots := 0, locals := 0 }
set_option maxHeartbeats 4000000 in
set_option maxRecDepth 100000 in
theorem c_X0_setInfinity (l : Launch) (D : va_G) (cR cI cJ cZ : ClassId) (t0 : Nat) (ax ar ao : Nat) (ad : Nat → Nat) (vrd : Int32) (vtr : Int32) (vsd : Int32) (vrn : Int32) (vom : Bool) (voh : Int64) (vol : Int64) (vop : Int32) (voe : Bool) (vow : Int32) (vok : Int64) (vos : Int32) (vso : Nat → Int32) (vmi : Nat → Bool) (vco : Nat → Int64) (vex : Nat → Int32) (i0 : Nat) (p0 : Bool) (u : (Nat → Int32) × (Nat → Bool) × (Nat → Int64) × (Nat → Int32)) (hu : u = F_X0_setInfinity vso vmi vco vex i0 p0) (hb0 : i0 < 9) : XM l D (xty cR cI cJ cZ) t0 yX0_setInfinity cX0_setInfinity 2 none rm_X0_setInfinity [.ref (ad i0), .int (bI p0)] none (xw cR ax ar ao ad vrd vtr vsd vrn vom voh vol vop voe vow vok vos vso vmi vco vex) (xw cR ax ar ao ad vrd vtr vsd vrn vom voh vol vop voe vow vok vos u.1 u.2.1 u.2.2.1 u.2.2.2) := by
  refine XM.of (by decide) (Nat.le_of_ble_eq_true rfl) ?_
  intro p e s m args below meth c A Q F hK hP hD hA hSt hS hQ ls hl
  obtain ⟨hx, hb, hr, hts, hown, hlocks, hml⟩ := F
  have hCF : CallFix p m c cX0_setInfinity 2 s args gW RX0 := ⟨hx, hb, hml, hown, hts⟩
  have hu := rF_X0_setInfinity vso vmi vco vex i0 p0 hu
  unfold RF_X0_setInfinity at hu
  obtain ⟨H, eH⟩ : ∃ y9 : Heap, y9 = s.heap := ⟨_, rfl⟩
  obtain ⟨locs, eL⟩ : ∃ y9 : List Loc, y9 = [] := ⟨_, rfl⟩
  rw [← eL] at hS ⊢
  have hP : va_P D vwCl (xw cR ax ar ao ad vrd vtr vsd vrn vom voh vol vop voe vow vok vos vso vmi vco vex) H := by rw [eH]; exact hP
  have hS : va_S A s.heap H locs := by rw [eH]; exact hS
  suffices goal9 : W p l e rm_X0_setInfinity s m args below meth c H locs 0 0 Q (F0 m 0 ls []) from by rw [← eH]; exact goal9
  have hl : lv_has ls 2 [(0, .ref (ad i0)), (1, .int (bI p0))] := hl
  have hi0 : ∀ w ∈ wsX00, w ∈ gW := inW_X0
  refine lv_aload_n hx hb dX0_setInfinity_0 rfl (lv_at hl 0 rfl) ?_
  refine lv_iconst (v := 1) hx hb dX0_setInfinity_1 (by decide) ?_
  refine p_so (i := i0) hx hb hts hi0 hown hK hP hD hS hb0 (hts (.fieldLink RX0 9 "DecimalWords$Datum" "sort" "I") (inW_1 _ (List.mem_of_getElem? (i := 4) rfl))) 1 dX0_setInfinity_2 (fun H locs hP hD hS => ?_)
  obtain ⟨w1, ew1⟩ : ∃ y9 : Nat → Int32, y9 = va_up vso i0 1 := ⟨_, rfl⟩
  have hu := hu _ ew1
  have hP : va_P D vwCl (xw cR ax ar ao ad vrd vtr vsd vrn vom voh vol vop voe vow vok vos w1 vmi vco vex) H := by rw [ew1]; exact hP
  have hD : va_D A (xw cR ax ar ao ad vrd vtr vsd vrn vom voh vol vop voe vow vok vos w1 vmi vco vex) := by rw [ew1]; exact hD
  refine lv_aload_n hx hb dX0_setInfinity_5 rfl (lv_at hl 0 rfl) ?_
  refine lv_iload_n hx hb dX0_setInfinity_6 rfl (lv_at hl 1 rfl) ?_
  refine p_mi (i := i0) hx hb hts hi0 hown hK hP hD hS hb0 (hts (.fieldLink RX0 15 "DecimalWords$Datum" "minus" "Z") (inW_1 _ (List.mem_of_getElem? (i := 5) rfl))) p0 dX0_setInfinity_7 (fun H locs hP hD hS => ?_)
  obtain ⟨w3, ew3⟩ : ∃ y9 : Nat → Bool, y9 = va_up vmi i0 p0 := ⟨_, rfl⟩
  have hu := hu _ ew3
  have hP : va_P D vwCl (xw cR ax ar ao ad vrd vtr vsd vrn vom voh vol vop voe vow vok vos w1 w3 vco vex) H := by rw [ew3]; exact hP
  have hD : va_D A (xw cR ax ar ao ad vrd vtr vsd vrn vom voh vol vop voe vow vok vos w1 w3 vco vex) := by rw [ew3]; exact hD
  refine lv_aload_n hx hb dX0_setInfinity_10 rfl (lv_at hl 0 rfl) ?_
  refine lv_lconst (v := 0) hx hb dX0_setInfinity_11 (by decide) ?_
  refine p_co (i := i0) hx hb hts hi0 hown hK hP hD hS hb0 (hts (.fieldLink RX0 19 "DecimalWords$Datum" "coefficient" "J") (inW_1 _ (List.mem_of_getElem? (i := 6) rfl))) 0 dX0_setInfinity_12 (fun H locs hP hD hS => ?_)
  obtain ⟨w5, ew5⟩ : ∃ y9 : Nat → Int64, y9 = va_up vco i0 0 := ⟨_, rfl⟩
  have hu := hu _ ew5
  have hP : va_P D vwCl (xw cR ax ar ao ad vrd vtr vsd vrn vom voh vol vop voe vow vok vos w1 w3 w5 vex) H := by rw [ew5]; exact hP
  have hD : va_D A (xw cR ax ar ao ad vrd vtr vsd vrn vom voh vol vop voe vow vok vos w1 w3 w5 vex) := by rw [ew5]; exact hD
  refine lv_aload_n hx hb dX0_setInfinity_15 rfl (lv_at hl 0 rfl) ?_
  refine lv_iconst (v := 0) hx hb dX0_setInfinity_16 (by decide) ?_
  refine p_ex (i := i0) hx hb hts hi0 hown hK hP hD hS hb0 (hts (.fieldLink RX0 23 "DecimalWords$Datum" "exponent" "I") (inW_1 _ (List.mem_of_getElem? (i := 7) rfl))) 0 dX0_setInfinity_17 (fun H locs hP hD hS => ?_)
  obtain ⟨w7, ew7⟩ : ∃ y9 : Nat → Int32, y9 = va_up vex i0 0 := ⟨_, rfl⟩
  have hu := hu _ ew7
  have hP : va_P D vwCl (xw cR ax ar ao ad vrd vtr vsd vrn vom voh vol vop voe vow vok vos w1 w3 w5 w7) H := by rw [ew7]; exact hP
  have hD : va_D A (xw cR ax ar ao ad vrd vtr vsd vrn vom voh vol vop voe vow vok vos w1 w3 w5 w7) := by rw [ew7]; exact hD
  have e9 := Eq.symm hu; subst e9
  exact x_vret hx hb hr hlocks hQ hK hP hD hS rfl dX0_setInfinity_20

def F_X0_setNothing (vso : Nat → Int32) (vmi : Nat → Bool) (vco : Nat → Int64) (vex : Nat → Int32) (i0 : Nat) : (Nat → Int32) × (Nat → Bool) × (Nat → Int64) × (Nat → Int32) := (bnd (va_up vso i0 2) (fun w1 : Nat → Int32 => (bnd (va_up vmi i0 false) (fun w3 : Nat → Bool => (bnd (va_up vco i0 0) (fun w5 : Nat → Int64 => (bnd (va_up vex i0 0) (fun w7 : Nat → Int32 => (w1, w3, w5, w7)))))))))
def RF_X0_setNothing (vso : Nat → Int32) (vmi : Nat → Bool) (vco : Nat → Int64) (vex : Nat → Int32) (i0 : Nat) (u9 : (Nat → Int32) × (Nat → Bool) × (Nat → Int64) × (Nat → Int32)) : Prop := (∀ w1 : Nat → Int32, w1 = va_up vso i0 2 → (∀ w3 : Nat → Bool, w3 = va_up vmi i0 false → (∀ w5 : Nat → Int64, w5 = va_up vco i0 0 → (∀ w7 : Nat → Int32, w7 = va_up vex i0 0 → u9 = (w1, w3, w5, w7)))))
theorem rF_X0_setNothing (vso : Nat → Int32) (vmi : Nat → Bool) (vco : Nat → Int64) (vex : Nat → Int32) (i0 : Nat) {u9 : (Nat → Int32) × (Nat → Bool) × (Nat → Int64) × (Nat → Int32)} (hu : u9 = F_X0_setNothing vso vmi vco vex i0) : RF_X0_setNothing vso vmi vco vex i0 u9 := by
  unfold RF_X0_setNothing
  intro w1 ew1
  have hu := bnd_n hu ew1
  intro w3 ew3
  have hu := bnd_n hu ew3
  intro w5 ew5
  have hu := bnd_n hu ew5
  intro w7 ew7
  have hu := bnd_n hu ew7
  exact hu
def rm_X0_setNothing : Room := { frames := 0, cells := 0, slots := 0, locals := 0 }
set_option maxHeartbeats 4000000 in
set_option maxRecDepth 100000 in
theorem c_X0_setNothing (l : Launch) (D : va_G) (cR cI cJ cZ : ClassId) (t0 : Nat) (ax ar ao : Nat) (ad : Nat → Nat) (vrd : Int32) (vtr : Int32) (vsd : Int32) (vrn : Int32) (vom : Bool) (voh : Int64) (vol : Int64) (vop : Int32) (voe : Bool) (vow : Int32) (vok : Int64) (vos : Int32) (vso : Nat → Int32) (vmi : Nat → Bool) (vco : Nat → Int64) (vex : Nat → Int32) (i0 : Nat) (u : (Nat → Int32) × (Nat → Bool) × (Nat → Int64) × (Nat → Int32)) (hu : u = F_X0_setNothing vso vmi vco vex i0) (hb0 : i0 < 9) : XM l D (xty cR cI cJ cZ) t0 yX0_setNothing cX0_setNothing 1 none rm_X0_setNothing [.ref (ad i0)] none (xw cR ax ar ao ad vrd vtr vsd vrn vom voh vol vop voe vow vok vos vso vmi vco vex) (xw cR ax ar ao ad vrd vtr vsd vrn vom voh vol vop voe vow vok vos u.1 u.2.1 u.2.2.1 u.2.2.2) := by
  refine XM.of (by decide) (Nat.le_of_ble_eq_true rfl) ?_
  intro p e s m args below meth c A Q F hK hP hD hA hSt hS hQ ls hl
  obtain ⟨hx, hb, hr, hts, hown, hlocks, hml⟩ := F
  have hCF : CallFix p m c cX0_setNothing 1 s args gW RX0 := ⟨hx, hb, hml, hown, hts⟩
  have hu := rF_X0_setNothing vso vmi vco vex i0 hu
  unfold RF_X0_setNothing at hu
  obtain ⟨H, eH⟩ : ∃ y9 : Heap, y9 = s.heap := ⟨_, rfl⟩
  obtain ⟨locs, eL⟩ : ∃ y9 : List Loc, y9 = [] := ⟨_, rfl⟩
  rw [← eL] at hS ⊢
  have hP : va_P D vwCl (xw cR ax ar ao ad vrd vtr vsd vrn vom voh vol vop voe vow vok vos vso vmi vco vex) H := by rw [eH]; exact hP
  have hS : va_S A s.heap H locs := by rw [eH]; exact hS
  suffices goal9 : W p l e rm_X0_setNothing s m args below meth c H locs 0 0 Q (F0 m 0 ls []) from by rw [← eH]; exact goal9
  have hl : lv_has ls 1 [(0, .ref (ad i0))] := hl
  have hi0 : ∀ w ∈ wsX00, w ∈ gW := inW_X0
  refine lv_aload_n hx hb dX0_setNothing_0 rfl (lv_at hl 0 rfl) ?_
  refine lv_iconst (v := 2) hx hb dX0_setNothing_1 (by decide) ?_
  refine p_so (i := i0) hx hb hts hi0 hown hK hP hD hS hb0 (hts (.fieldLink RX0 9 "DecimalWords$Datum" "sort" "I") (inW_1 _ (List.mem_of_getElem? (i := 4) rfl))) 2 dX0_setNothing_2 (fun H locs hP hD hS => ?_)
  obtain ⟨w1, ew1⟩ : ∃ y9 : Nat → Int32, y9 = va_up vso i0 2 := ⟨_, rfl⟩
  have hu := hu _ ew1
  have hP : va_P D vwCl (xw cR ax ar ao ad vrd vtr vsd vrn vom voh vol vop voe vow vok vos w1 vmi vco vex) H := by rw [ew1]; exact hP
  have hD : va_D A (xw cR ax ar ao ad vrd vtr vsd vrn vom voh vol vop voe vow vok vos w1 vmi vco vex) := by rw [ew1]; exact hD
  refine lv_aload_n hx hb dX0_setNothing_5 rfl (lv_at hl 0 rfl) ?_
  refine lv_iconst (v := 0) hx hb dX0_setNothing_6 (by decide) ?_
  refine p_mi (i := i0) hx hb hts hi0 hown hK hP hD hS hb0 (hts (.fieldLink RX0 15 "DecimalWords$Datum" "minus" "Z") (inW_1 _ (List.mem_of_getElem? (i := 5) rfl))) false dX0_setNothing_7 (fun H locs hP hD hS => ?_)
  obtain ⟨w3, ew3⟩ : ∃ y9 : Nat → Bool, y9 = va_up vmi i0 false := ⟨_, rfl⟩
  have hu := hu _ ew3
  have hP : va_P D vwCl (xw cR ax ar ao ad vrd vtr vsd vrn vom voh vol vop voe vow vok vos w1 w3 vco vex) H := by rw [ew3]; exact hP
  have hD : va_D A (xw cR ax ar ao ad vrd vtr vsd vrn vom voh vol vop voe vow vok vos w1 w3 vco vex) := by rw [ew3]; exact hD
  refine lv_aload_n hx hb dX0_setNothing_10 rfl (lv_at hl 0 rfl) ?_
  refine lv_lconst (v := 0) hx hb dX0_setNothing_11 (by decide) ?_
  refine p_co (i := i0) hx hb hts hi0 hown hK hP hD hS hb0 (hts (.fieldLink RX0 19 "DecimalWords$Datum" "coefficient" "J") (inW_1 _ (List.mem_of_getElem? (i := 6) rfl))) 0 dX0_setNothing_12 (fun H locs hP hD hS => ?_)
  obtain ⟨w5, ew5⟩ : ∃ y9 : Nat → Int64, y9 = va_up vco i0 0 := ⟨_, rfl⟩
  have hu := hu _ ew5
  have hP : va_P D vwCl (xw cR ax ar ao ad vrd vtr vsd vrn vom voh vol vop voe vow vok vos w1 w3 w5 vex) H := by rw [ew5]; exact hP
  have hD : va_D A (xw cR ax ar ao ad vrd vtr vsd vrn vom voh vol vop voe vow vok vos w1 w3 w5 vex) := by rw [ew5]; exact hD
  refine lv_aload_n hx hb dX0_setNothing_15 rfl (lv_at hl 0 rfl) ?_
  refine lv_iconst (v := 0) hx hb dX0_setNothing_16 (by decide) ?_
  refine p_ex (i := i0) hx hb hts hi0 hown hK hP hD hS hb0 (hts (.fieldLink RX0 23 "DecimalWords$Datum" "exponent" "I") (inW_1 _ (List.mem_of_getElem? (i := 7) rfl))) 0 dX0_setNothing_17 (fun H locs hP hD hS => ?_)
  obtain ⟨w7, ew7⟩ : ∃ y9 : Nat → Int32, y9 = va_up vex i0 0 := ⟨_, rfl⟩
  have hu := hu _ ew7
  have hP : va_P D vwCl (xw cR ax ar ao ad vrd vtr vsd vrn vom voh vol vop voe vow vok vos w1 w3 w5 w7) H := by rw [ew7]; exact hP
  have hD : va_D A (xw cR ax ar ao ad vrd vtr vsd vrn vom voh vol vop voe vow vok vos w1 w3 w5 w7) := by rw [ew7]; exact hD
  have e9 := Eq.symm hu; subst e9
  exact x_vret hx hb hr hlocks hQ hK hP hD hS rfl dX0_setNothing_20

def F_X0_take (vso : Nat → Int32) (vmi : Nat → Bool) (vco : Nat → Int64) (vex : Nat → Int32) (i0 : Nat) (i1 : Nat) : (Nat → Int32) × (Nat → Bool) × (Nat → Int64) × (Nat → Int32) := (bnd (vso i1) (fun f1 : Int32 => (bnd (va_up vso i0 f1) (fun w2 : Nat → Int32 => (bnd (vmi i1) (fun f4 : Bool => (bnd (va_up vmi i0 f4) (fun w5 : Nat → Bool => (bnd (vco i1) (fun f7 : Int64 => (bnd (va_up vco i0 f7) (fun w8 : Nat → Int64 => (bnd (vex i1) (fun f10 : Int32 => (bnd (va_up vex i0 f10) (fun w11 : Nat → Int32 => (w2, w5, w8, w11)))))))))))))))))
def RF_X0_take (vso : Nat → Int32) (vmi : Nat → Bool) (vco : Nat → Int64) (vex : Nat → Int32) (i0 : Nat) (i1 : Nat) (u9 : (Nat → Int32) × (Nat → Bool) × (Nat → Int64) × (Nat → Int32)) : Prop := (∀ f1 : Int32, f1 = vso i1 → (∀ w2 : Nat → Int32, w2 = va_up vso i0 f1 → (∀ f4 : Bool, f4 = vmi i1 → (∀ w5 : Nat → Bool, w5 = va_up vmi i0 f4 → (∀ f7 : Int64, f7 = vco i1 → (∀ w8 : Nat → Int64, w8 = va_up vco i0 f7 → (∀ f10 : Int32, f10 = vex i1 → (∀ w11 : Nat → Int32, w11 = va_up vex i0 f10 → u9 = (w2, w5, w8, w11)))))))))
theorem rF_X0_take (vso : Nat → Int32) (vmi : Nat → Bool) (vco : Nat → Int64) (vex : Nat → Int32) (i0 : Nat) (i1 : Nat) {u9 : (Nat → Int32) × (Nat → Bool) × (Nat → Int64) × (Nat → Int32)} (hu : u9 = F_X0_take vso vmi vco vex i0 i1) : RF_X0_take vso vmi vco vex i0 i1 u9 := by
  unfold RF_X0_take
  intro f1 ef1
  have hu := bnd_n hu ef1
  intro w2 ew2
  have hu := bnd_n hu ew2
  intro f4 ef4
  have hu := bnd_n hu ef4
  intro w5 ew5
  have hu := bnd_n hu ew5
  intro f7 ef7
  have hu := bnd_n hu ef7
  intro w8 ew8
  have hu := bnd_n hu ew8
  intro f10 ef10
  have hu := bnd_n hu ef10
  intro w11 ew11
  have hu := bnd_n hu ew11
  exact hu
def rm_X0_take : Room := { frames := 0, cells := 0, slots := 0, locals := 0 }
set_option maxHeartbeats 4000000 in
set_option maxRecDepth 100000 in
theorem c_X0_take (l : Launch) (D : va_G) (cR cI cJ cZ : ClassId) (t0 : Nat) (ax ar ao : Nat) (ad : Nat → Nat) (vrd : Int32) (vtr : Int32) (vsd : Int32) (vrn : Int32) (vom : Bool) (voh : Int64) (vol : Int64) (vop : Int32) (voe : Bool) (vow : Int32) (vok : Int64) (vos : Int32) (vso : Nat → Int32) (vmi : Nat → Bool) (vco : Nat → Int64) (vex : Nat → Int32) (i0 : Nat) (i1 : Nat) (u : (Nat → Int32) × (Nat → Bool) × (Nat → Int64) × (Nat → Int32)) (hu : u = F_X0_take vso vmi vco vex i0 i1) (hb0 : i0 < 9) (hb1 : i1 < 9) : XM l D (xty cR cI cJ cZ) t0 yX0_take cX0_take 2 none rm_X0_take [.ref (ad i0), .ref (ad i1)] none (xw cR ax ar ao ad vrd vtr vsd vrn vom voh vol vop voe vow vok vos vso vmi vco vex) (xw cR ax ar ao ad vrd vtr vsd vrn vom voh vol vop voe vow vok vos u.1 u.2.1 u.2.2.1 u.2.2.2) := by
  refine XM.of (by decide) (Nat.le_of_ble_eq_true rfl) ?_
  intro p e s m args below meth c A Q F hK hP hD hA hSt hS hQ ls hl
  obtain ⟨hx, hb, hr, hts, hown, hlocks, hml⟩ := F
  have hCF : CallFix p m c cX0_take 2 s args gW RX0 := ⟨hx, hb, hml, hown, hts⟩
  have hu := rF_X0_take vso vmi vco vex i0 i1 hu
  unfold RF_X0_take at hu
  obtain ⟨H, eH⟩ : ∃ y9 : Heap, y9 = s.heap := ⟨_, rfl⟩
  obtain ⟨locs, eL⟩ : ∃ y9 : List Loc, y9 = [] := ⟨_, rfl⟩
  rw [← eL] at hS ⊢
  have hP : va_P D vwCl (xw cR ax ar ao ad vrd vtr vsd vrn vom voh vol vop voe vow vok vos vso vmi vco vex) H := by rw [eH]; exact hP
  have hS : va_S A s.heap H locs := by rw [eH]; exact hS
  suffices goal9 : W p l e rm_X0_take s m args below meth c H locs 0 0 Q (F0 m 0 ls []) from by rw [← eH]; exact goal9
  have hl : lv_has ls 2 [(0, .ref (ad i0)), (1, .ref (ad i1))] := hl
  have hi0 : ∀ w ∈ wsX00, w ∈ gW := inW_X0
  refine lv_aload_n hx hb dX0_take_0 rfl (lv_at hl 0 rfl) ?_
  refine lv_aload_n hx hb dX0_take_1 rfl (lv_at hl 1 rfl) ?_
  refine g_so (i := i1) hx hb hts hi0 hown hK hP hb1 (hts (.fieldLink RX0 9 "DecimalWords$Datum" "sort" "I") (inW_1 _ (List.mem_of_getElem? (i := 4) rfl))) dX0_take_2 ?_
  refine lv_topi (fun f1 ef1 => ?_)
  have hu := hu _ ef1
  refine p_so (i := i0) hx hb hts hi0 hown hK hP hD hS hb0 (hts (.fieldLink RX0 9 "DecimalWords$Datum" "sort" "I") (inW_1 _ (List.mem_of_getElem? (i := 4) rfl))) f1 dX0_take_5 (fun H locs hP hD hS => ?_)
  obtain ⟨w2, ew2⟩ : ∃ y9 : Nat → Int32, y9 = va_up vso i0 f1 := ⟨_, rfl⟩
  have hu := hu _ ew2
  have hP : va_P D vwCl (xw cR ax ar ao ad vrd vtr vsd vrn vom voh vol vop voe vow vok vos w2 vmi vco vex) H := by rw [ew2]; exact hP
  have hD : va_D A (xw cR ax ar ao ad vrd vtr vsd vrn vom voh vol vop voe vow vok vos w2 vmi vco vex) := by rw [ew2]; exact hD
  refine lv_aload_n hx hb dX0_take_8 rfl (lv_at hl 0 rfl) ?_
  refine lv_aload_n hx hb dX0_take_9 rfl (lv_at hl 1 rfl) ?_
  refine g_mi (i := i1) hx hb hts hi0 hown hK hP hb1 (hts (.fieldLink RX0 15 "DecimalWords$Datum" "minus" "Z") (inW_1 _ (List.mem_of_getElem? (i := 5) rfl))) dX0_take_10 ?_
  refine x_topb (fun f4 ef4 => ?_)
  have hu := hu _ ef4
  refine p_mi (i := i0) hx hb hts hi0 hown hK hP hD hS hb0 (hts (.fieldLink RX0 15 "DecimalWords$Datum" "minus" "Z") (inW_1 _ (List.mem_of_getElem? (i := 5) rfl))) f4 dX0_take_13 (fun H locs hP hD hS => ?_)
  obtain ⟨w5, ew5⟩ : ∃ y9 : Nat → Bool, y9 = va_up vmi i0 f4 := ⟨_, rfl⟩
  have hu := hu _ ew5
  have hP : va_P D vwCl (xw cR ax ar ao ad vrd vtr vsd vrn vom voh vol vop voe vow vok vos w2 w5 vco vex) H := by rw [ew5]; exact hP
  have hD : va_D A (xw cR ax ar ao ad vrd vtr vsd vrn vom voh vol vop voe vow vok vos w2 w5 vco vex) := by rw [ew5]; exact hD
  refine lv_aload_n hx hb dX0_take_16 rfl (lv_at hl 0 rfl) ?_
  refine lv_aload_n hx hb dX0_take_17 rfl (lv_at hl 1 rfl) ?_
  refine g_co (i := i1) hx hb hts hi0 hown hK hP hb1 (hts (.fieldLink RX0 19 "DecimalWords$Datum" "coefficient" "J") (inW_1 _ (List.mem_of_getElem? (i := 6) rfl))) dX0_take_18 ?_
  refine lv_topl (fun f7 ef7 => ?_)
  have hu := hu _ ef7
  refine p_co (i := i0) hx hb hts hi0 hown hK hP hD hS hb0 (hts (.fieldLink RX0 19 "DecimalWords$Datum" "coefficient" "J") (inW_1 _ (List.mem_of_getElem? (i := 6) rfl))) f7 dX0_take_21 (fun H locs hP hD hS => ?_)
  obtain ⟨w8, ew8⟩ : ∃ y9 : Nat → Int64, y9 = va_up vco i0 f7 := ⟨_, rfl⟩
  have hu := hu _ ew8
  have hP : va_P D vwCl (xw cR ax ar ao ad vrd vtr vsd vrn vom voh vol vop voe vow vok vos w2 w5 w8 vex) H := by rw [ew8]; exact hP
  have hD : va_D A (xw cR ax ar ao ad vrd vtr vsd vrn vom voh vol vop voe vow vok vos w2 w5 w8 vex) := by rw [ew8]; exact hD
  refine lv_aload_n hx hb dX0_take_24 rfl (lv_at hl 0 rfl) ?_
  refine lv_aload_n hx hb dX0_take_25 rfl (lv_at hl 1 rfl) ?_
  refine g_ex (i := i1) hx hb hts hi0 hown hK hP hb1 (hts (.fieldLink RX0 23 "DecimalWords$Datum" "exponent" "I") (inW_1 _ (List.mem_of_getElem? (i := 7) rfl))) dX0_take_26 ?_
  refine lv_topi (fun f10 ef10 => ?_)
  have hu := hu _ ef10
  refine p_ex (i := i0) hx hb hts hi0 hown hK hP hD hS hb0 (hts (.fieldLink RX0 23 "DecimalWords$Datum" "exponent" "I") (inW_1 _ (List.mem_of_getElem? (i := 7) rfl))) f10 dX0_take_29 (fun H locs hP hD hS => ?_)
  obtain ⟨w11, ew11⟩ : ∃ y9 : Nat → Int32, y9 = va_up vex i0 f10 := ⟨_, rfl⟩
  have hu := hu _ ew11
  have hP : va_P D vwCl (xw cR ax ar ao ad vrd vtr vsd vrn vom voh vol vop voe vow vok vos w2 w5 w8 w11) H := by rw [ew11]; exact hP
  have hD : va_D A (xw cR ax ar ao ad vrd vtr vsd vrn vom voh vol vop voe vow vok vos w2 w5 w8 w11) := by rw [ew11]; exact hD
  have e9 := Eq.symm hu; subst e9
  exact x_vret hx hb hr hlocks hQ hK hP hD hS rfl dX0_take_32

def F_X0_isZero (vso : Nat → Int32) (vco : Nat → Int64) (i0 : Nat) : Bool := (if vso i0 = 0 then (if vco i0 = 0 then true else false) else false)
def RF_X0_isZero (vso : Nat → Int32) (vco : Nat → Int64) (i0 : Nat) (u9 : Bool) : Prop := (if vso i0 = 0 then (if vco i0 = 0 then u9 = true else u9 = false) else u9 = false)
theorem rF_X0_isZero (vso : Nat → Int32) (vco : Nat → Int64) (i0 : Nat) {u9 : Bool} (hu : u9 = F_X0_isZero vso vco i0) : RF_X0_isZero vso vco i0 u9 := by
  unfold RF_X0_isZero
  refine ite_P (fun c_1 => ?_) (fun c_1 => ?_)
  · have hu := hu.trans (if_pos c_1)
    refine ite_P (fun c_2 => ?_) (fun c_2 => ?_)
    · have hu := hu.trans (if_pos c_2)
      exact hu
    · have hu := hu.trans (if_neg c_2)
      exact hu
  · have hu := hu.trans (if_neg c_1)
    exact hu
def rm_X0_isZero : Room := { frames := 0, cells := 0, slots := 0, locals := 0 }
set_option maxHeartbeats 4000000 in
set_option maxRecDepth 100000 in
theorem c_X0_isZero (l : Launch) (D : va_G) (cR cI cJ cZ : ClassId) (t0 : Nat) (ax ar ao : Nat) (ad : Nat → Nat) (vrd : Int32) (vtr : Int32) (vsd : Int32) (vrn : Int32) (vom : Bool) (voh : Int64) (vol : Int64) (vop : Int32) (voe : Bool) (vow : Int32) (vok : Int64) (vos : Int32) (vso : Nat → Int32) (vmi : Nat → Bool) (vco : Nat → Int64) (vex : Nat → Int32) (i0 : Nat) (u : Bool) (hu : u = F_X0_isZero vso vco i0) (hb0 : i0 < 9) : XM l D (xty cR cI cJ cZ) t0 yX0_isZero cX0_isZero 1 (some .boolean) rm_X0_isZero [.ref (ad i0)] (some (.int (bI u))) (xw cR ax ar ao ad vrd vtr vsd vrn vom voh vol vop voe vow vok vos vso vmi vco vex) (xw cR ax ar ao ad vrd vtr vsd vrn vom voh vol vop voe vow vok vos vso vmi vco vex) := by
  refine XM.of (by decide) (Nat.le_of_ble_eq_true rfl) ?_
  intro p e s m args below meth c A Q F hK hP hD hA hSt hS hQ ls hl
  obtain ⟨hx, hb, hr, hts, hown, hlocks, hml⟩ := F
  have hCF : CallFix p m c cX0_isZero 1 s args gW RX0 := ⟨hx, hb, hml, hown, hts⟩
  have hu := rF_X0_isZero vso vco i0 hu
  unfold RF_X0_isZero at hu
  obtain ⟨H, eH⟩ : ∃ y9 : Heap, y9 = s.heap := ⟨_, rfl⟩
  obtain ⟨locs, eL⟩ : ∃ y9 : List Loc, y9 = [] := ⟨_, rfl⟩
  rw [← eL] at hS ⊢
  have hP : va_P D vwCl (xw cR ax ar ao ad vrd vtr vsd vrn vom voh vol vop voe vow vok vos vso vmi vco vex) H := by rw [eH]; exact hP
  have hS : va_S A s.heap H locs := by rw [eH]; exact hS
  suffices goal9 : W p l e rm_X0_isZero s m args below meth c H locs 0 0 Q (F0 m 0 ls []) from by rw [← eH]; exact goal9
  have hl : lv_has ls 1 [(0, .ref (ad i0))] := hl
  have hi0 : ∀ w ∈ wsX00, w ∈ gW := inW_X0
  refine lv_aload_n hx hb dX0_isZero_0 rfl (lv_at hl 0 rfl) ?_
  refine g_so (i := i0) hx hb hts hi0 hown hK hP hb0 (hts (.fieldLink RX0 9 "DecimalWords$Datum" "sort" "I") (inW_1 _ (List.mem_of_getElem? (i := 4) rfl))) dX0_isZero_1 ?_
  refine lv_if_ne (tgt := 20) hx hb dX0_isZero_4 (by decide) (fun c_1 => ?_) (fun c_1 => ?_)
  · rw [if_neg c_1] at hu
    refine lv_iconst (v := 0) hx hb dX0_isZero_20 (by decide) ?_
    have e9 := Eq.symm hu; subst e9
    exact x_zret (v := false) hx hb hr hlocks hQ hK hP hD hS rfl rfl dX0_isZero_21
  · rw [if_pos c_1] at hu
    refine lv_aload_n hx hb dX0_isZero_7 rfl (lv_at hl 0 rfl) ?_
    refine g_co (i := i0) hx hb hts hi0 hown hK hP hb0 (hts (.fieldLink RX0 19 "DecimalWords$Datum" "coefficient" "J") (inW_1 _ (List.mem_of_getElem? (i := 6) rfl))) dX0_isZero_8 ?_
    refine lv_lconst (v := 0) hx hb dX0_isZero_11 (by decide) ?_
    refine xl_ne (tgt := 20) hx hb dX0_isZero_12 dX0_isZero_13 (by decide) (fun c_2 => ?_) (fun c_2 => ?_)
    · rw [if_neg c_2] at hu
      refine lv_iconst (v := 0) hx hb dX0_isZero_20 (by decide) ?_
      have e9 := Eq.symm hu; subst e9
      exact x_zret (v := false) hx hb hr hlocks hQ hK hP hD hS rfl rfl dX0_isZero_21
    · rw [if_pos c_2] at hu
      refine lv_iconst (v := 1) hx hb dX0_isZero_16 (by decide) ?_
      refine lv_goto (tgt := 21) hx hb dX0_isZero_17 (by decide) ?_
      have e9 := Eq.symm hu; subst e9
      exact x_zret (v := true) hx hb hr hlocks hQ hK hP hD hS rfl rfl dX0_isZero_21

def F_X0_side (vso : Nat → Int32) (vmi : Nat → Bool) (vco : Nat → Int64) (i0 : Nat) : Int32 := (if F_X0_isZero vso vco i0 = true then 0 else (if vmi i0 = true then (-1) else 1))
def RF_X0_side (vso : Nat → Int32) (vmi : Nat → Bool) (vco : Nat → Int64) (i0 : Nat) (u9 : Int32) : Prop := (if F_X0_isZero vso vco i0 = true then u9 = 0 else (if vmi i0 = true then u9 = (-1) else u9 = 1))
theorem rF_X0_side (vso : Nat → Int32) (vmi : Nat → Bool) (vco : Nat → Int64) (i0 : Nat) {u9 : Int32} (hu : u9 = F_X0_side vso vmi vco i0) : RF_X0_side vso vmi vco i0 u9 := by
  unfold RF_X0_side
  refine ite_P (fun c_2 => ?_) (fun c_2 => ?_)
  · have hu := hu.trans (if_pos c_2)
    exact hu
  · have hu := hu.trans (if_neg c_2)
    refine ite_P (fun c_3 => ?_) (fun c_3 => ?_)
    · have hu := hu.trans (if_pos c_3)
      exact hu
    · have hu := hu.trans (if_neg c_3)
      exact hu
def rm_X0_side : Room := { frames := 1, cells := 0, slots := 0, locals := 20 }
set_option maxHeartbeats 4000000 in
set_option maxRecDepth 100000 in
theorem c_X0_side (l : Launch) (D : va_G) (cR cI cJ cZ : ClassId) (t0 : Nat) (ax ar ao : Nat) (ad : Nat → Nat) (vrd : Int32) (vtr : Int32) (vsd : Int32) (vrn : Int32) (vom : Bool) (voh : Int64) (vol : Int64) (vop : Int32) (voe : Bool) (vow : Int32) (vok : Int64) (vos : Int32) (vso : Nat → Int32) (vmi : Nat → Bool) (vco : Nat → Int64) (vex : Nat → Int32) (i0 : Nat) (u : Int32) (hu : u = F_X0_side vso vmi vco i0) (hb0 : i0 < 9) : XM l D (xty cR cI cJ cZ) t0 yX0_side cX0_side 1 (some .int) rm_X0_side [.ref (ad i0)] (some (.int u)) (xw cR ax ar ao ad vrd vtr vsd vrn vom voh vol vop voe vow vok vos vso vmi vco vex) (xw cR ax ar ao ad vrd vtr vsd vrn vom voh vol vop voe vow vok vos vso vmi vco vex) := by
  refine XM.of (by decide) (Nat.le_of_ble_eq_true rfl) ?_
  intro p e s m args below meth c A Q F hK hP hD hA hSt hS hQ ls hl
  obtain ⟨hx, hb, hr, hts, hown, hlocks, hml⟩ := F
  have hCF : CallFix p m c cX0_side 1 s args gW RX0 := ⟨hx, hb, hml, hown, hts⟩
  have hu := rF_X0_side vso vmi vco i0 hu
  unfold RF_X0_side at hu
  obtain ⟨H, eH⟩ : ∃ y9 : Heap, y9 = s.heap := ⟨_, rfl⟩
  obtain ⟨locs, eL⟩ : ∃ y9 : List Loc, y9 = [] := ⟨_, rfl⟩
  rw [← eL] at hS ⊢
  have hP : va_P D vwCl (xw cR ax ar ao ad vrd vtr vsd vrn vom voh vol vop voe vow vok vos vso vmi vco vex) H := by rw [eH]; exact hP
  have hS : va_S A s.heap H locs := by rw [eH]; exact hS
  suffices goal9 : W p l e rm_X0_side s m args below meth c H locs 0 0 Q (F0 m 0 ls []) from by rw [← eH]; exact goal9
  have hl : lv_has ls 1 [(0, .ref (ad i0))] := hl
  have hi0 : ∀ w ∈ wsX00, w ∈ gW := inW_X0
  refine lv_aload_n hx hb dX0_side_0 rfl (lv_at hl 0 rfl) ?_
  refine x_V (As := []) (rest := []) hCF (c_X0_isZero l D cR cI cJ cZ t0 ax ar ao ad vrd vtr vsd vrn vom voh vol vop voe vow vok vos vso vmi vco vex i0 _ rfl hb0) (x_cwV 0 hts (inW_1 _ (List.mem_of_getElem? (i := 13) rfl)) (inW_1 _ (List.mem_of_getElem? (i := 14) rfl)) (inW_1 _ (List.mem_of_getElem? (i := 15) rfl)) (inW_1 _ (List.mem_of_getElem? (i := 16) rfl)) (inW_1 _ (List.mem_of_getElem? (i := 11) rfl)) rfl rfl (by decide +kernel) ⟨Nat.le_of_ble_eq_true rfl, Nat.le_of_ble_eq_true rfl⟩) hK hP hD hS hA hSt (3 + i0) (xw_dat hb0) rfl rfl hl.1 rfl (Nat.le_of_ble_eq_true rfl) dX0_side_1 ⟨Nat.le_of_ble_eq_true rfl, Nat.le_of_ble_eq_true rfl⟩ (fun H locs hP hD hS => ?_)
  show W p l e _ s m args below meth c H locs 0 0 Q (F0 m 4 ls (.int (bI (F_X0_isZero vso vco i0)) :: []))
  refine xb_eq (tgt := 9) hx hb dX0_side_4 (by decide) (fun c_2 => ?_) (fun c_2 => ?_)
  · rw [if_neg c_2] at hu
    refine lv_aload_n hx hb dX0_side_9 rfl (lv_at hl 0 rfl) ?_
    refine g_mi (i := i0) hx hb hts hi0 hown hK hP hb0 (hts (.fieldLink RX0 15 "DecimalWords$Datum" "minus" "Z") (inW_1 _ (List.mem_of_getElem? (i := 5) rfl))) dX0_side_10 ?_
    refine xb_eq (tgt := 20) hx hb dX0_side_13 (by decide) (fun c_3 => ?_) (fun c_3 => ?_)
    · rw [if_neg c_3] at hu
      refine lv_iconst (v := 1) hx hb dX0_side_20 (by decide) ?_
      have e9 := Eq.symm hu; subst e9
      exact x_iret hx hb hr hlocks hQ hK hP hD hS rfl rfl dX0_side_21
    · rw [if_pos c_3] at hu
      refine lv_iconst (v := (-1)) hx hb dX0_side_16 (by decide) ?_
      refine lv_goto (tgt := 21) hx hb dX0_side_17 (by decide) ?_
      have e9 := Eq.symm hu; subst e9
      exact x_iret hx hb hr hlocks hQ hK hP hD hS rfl rfl dX0_side_21
  · rw [if_pos c_2] at hu
    refine lv_iconst (v := 0) hx hb dX0_side_7 (by decide) ?_
    have e9 := Eq.symm hu; subst e9
    exact x_iret hx hb hr hlocks hQ hK hP hD hS rfl rfl dX0_side_8
end
section
def F_X3_tenTo  (p0 : Int32) : Int64 := tensL (jmax 0 (jmin p0 16)).toNatClampNeg
def RF_X3_tenTo  (p0 : Int32) (u9 : Int64) : Prop := u9 = tensL (jmax 0 (jmin p0 16)).toNatClampNeg
theorem rF_X3_tenTo  (p0 : Int32) {u9 : Int64} (hu : u9 = F_X3_tenTo p0) : RF_X3_tenTo p0 u9 := by
  unfold RF_X3_tenTo
  exact hu
def S_X3_tenTo  (p0 : Int32) : Prop := vp_in (jmax 0 (jmin p0 16)) 17
def rm_X3_tenTo : Room := { frames := 1, cells := 0, slots := 0, locals := 40 }
set_option maxHeartbeats 4000000 in
set_option maxRecDepth 100000 in
theorem c_X3_tenTo (l : Launch) (D : va_G) (cR cI cJ cZ : ClassId) (t0 : Nat) (w : va_W) (p0 : Int32) (u : Int64) (hu : u = F_X3_tenTo p0) (hs : S_X3_tenTo p0) : XM l D (xty cR cI cJ cZ) t0 yX3_tenTo cX3_tenTo 1 (some .long) rm_X3_tenTo [.int p0] (some (.long u)) (w) (w) := by
  refine XM.of (by decide) (Nat.le_of_ble_eq_true rfl) ?_
  intro p e s m args below meth c A Q F hK hP hD hA hSt hS hQ ls hl
  obtain ⟨hx, hb, hr, hts, hown, hlocks, hml⟩ := F
  have hCF : CallFix p m c cX3_tenTo 1 s args gW RX3 := ⟨hx, hb, hml, hown, hts⟩
  unfold S_X3_tenTo at hs
  have hu := rF_X3_tenTo p0 hu
  unfold RF_X3_tenTo at hu
  obtain ⟨H, eH⟩ : ∃ y9 : Heap, y9 = s.heap := ⟨_, rfl⟩
  obtain ⟨locs, eL⟩ : ∃ y9 : List Loc, y9 = [] := ⟨_, rfl⟩
  rw [← eL] at hS ⊢
  have hP : va_P D vwCl (w) H := by rw [eH]; exact hP
  have hS : va_S A s.heap H locs := by rw [eH]; exact hS
  suffices goal9 : W p l e rm_X3_tenTo s m args below meth c H locs 0 0 Q (F0 m 0 ls []) from by rw [← eH]; exact goal9
  have hl : lv_has ls 1 [(0, .int p0)] := hl
  refine va_gets hx hb hSt.1 hS hown (hts (.fieldLink RX3 260 "DecimalWords" "TENS" "[J") (inW_1 _ (List.mem_of_getElem? (i := 27) rfl))) (fun _ h9 => h9) dX3_tenTo_0 ?_
  refine lv_iconst (v := 0) hx hb dX3_tenTo_3 (by decide) ?_
  refine lv_iload_n hx hb dX3_tenTo_4 rfl (lv_at hl 0 rfl) ?_
  refine lv_bipush (v := 16) hx hb dX3_tenTo_5 (by decide) ?_
  refine x_min hx hb hml hl.1 hts hown (inW_2 _ (List.mem_of_getElem? (i := 11) rfl)) (inW_1 _ (List.mem_of_getElem? (i := 36) rfl)) (inW_1 _ (List.mem_of_getElem? (i := 37) rfl)) (inW_1 _ (List.mem_of_getElem? (i := 38) rfl)) (Nat.le_of_ble_eq_true rfl) (Nat.le_of_ble_eq_true rfl) (Nat.le_of_ble_eq_true rfl) (Nat.le_of_ble_eq_true rfl) dX3_tenTo_7 ?_
  refine x_max hx hb hml hl.1 hts hown (inW_2 _ (List.mem_of_getElem? (i := 12) rfl)) (inW_2 _ (List.mem_of_getElem? (i := 13) rfl)) (inW_1 _ (List.mem_of_getElem? (i := 37) rfl)) (inW_2 _ (List.mem_of_getElem? (i := 14) rfl)) (Nat.le_of_ble_eq_true rfl) (Nat.le_of_ble_eq_true rfl) (Nat.le_of_ble_eq_true rfl) (Nat.le_of_ble_eq_true rfl) dX3_tenTo_10 ?_
  have h_1 := hs
  refine va_tl hx hb hSt.2.1 hS h_1 rfl dX3_tenTo_13 ?_
  have e9 := Eq.symm hu; subst e9
  exact x_lret hx hb hr hlocks hQ hK hP hD hS rfl rfl dX3_tenTo_14

def F_X3_orderOf  (p0 : Int64) (p1 : Int64) : Int32 := (if p0 = p1 then 0 else (if p1 ≤ p0 then 1 else (-1)))
def RF_X3_orderOf  (p0 : Int64) (p1 : Int64) (u9 : Int32) : Prop := (if p0 = p1 then u9 = 0 else (if p1 ≤ p0 then u9 = 1 else u9 = (-1)))
theorem rF_X3_orderOf  (p0 : Int64) (p1 : Int64) {u9 : Int32} (hu : u9 = F_X3_orderOf p0 p1) : RF_X3_orderOf p0 p1 u9 := by
  unfold RF_X3_orderOf
  refine ite_P (fun c_1 => ?_) (fun c_1 => ?_)
  · have hu := hu.trans (if_pos c_1)
    exact hu
  · have hu := hu.trans (if_neg c_1)
    refine ite_P (fun c_2 => ?_) (fun c_2 => ?_)
    · have hu := hu.trans (if_pos c_2)
      exact hu
    · have hu := hu.trans (if_neg c_2)
      exact hu
def rm_X3_orderOf : Room := { frames := 0, cells := 0, slots := 0, locals := 0 }
set_option maxHeartbeats 4000000 in
set_option maxRecDepth 100000 in
theorem c_X3_orderOf (l : Launch) (D : va_G) (cR cI cJ cZ : ClassId) (t0 : Nat) (w : va_W) (p0 : Int64) (p1 : Int64) (u : Int32) (hu : u = F_X3_orderOf p0 p1) : XM l D (xty cR cI cJ cZ) t0 yX3_orderOf cX3_orderOf 4 (some .int) rm_X3_orderOf [.long p0, .long p1] (some (.int u)) (w) (w) := by
  refine XM.of (by decide) (Nat.le_of_ble_eq_true rfl) ?_
  intro p e s m args below meth c A Q F hK hP hD hA hSt hS hQ ls hl
  obtain ⟨hx, hb, hr, hts, hown, hlocks, hml⟩ := F
  have hCF : CallFix p m c cX3_orderOf 4 s args gW RX3 := ⟨hx, hb, hml, hown, hts⟩
  have hu := rF_X3_orderOf p0 p1 hu
  unfold RF_X3_orderOf at hu
  obtain ⟨H, eH⟩ : ∃ y9 : Heap, y9 = s.heap := ⟨_, rfl⟩
  obtain ⟨locs, eL⟩ : ∃ y9 : List Loc, y9 = [] := ⟨_, rfl⟩
  rw [← eL] at hS ⊢
  have hP : va_P D vwCl (w) H := by rw [eH]; exact hP
  have hS : va_S A s.heap H locs := by rw [eH]; exact hS
  suffices goal9 : W p l e rm_X3_orderOf s m args below meth c H locs 0 0 Q (F0 m 0 ls []) from by rw [← eH]; exact goal9
  have hl : lv_has ls 4 [(0, .long p0), (2, .long p1)] := hl
  refine lv_lload_n hx hb dX3_orderOf_0 rfl (lv_at hl 0 rfl) ?_
  refine lv_lload_n hx hb dX3_orderOf_1 rfl (lv_at hl 1 rfl) ?_
  refine xl_ne (tgt := 8) hx hb dX3_orderOf_2 dX3_orderOf_3 (by decide) (fun c_1 => ?_) (fun c_1 => ?_)
  · rw [if_neg c_1] at hu
    refine lv_lload_n hx hb dX3_orderOf_8 rfl (lv_at hl 0 rfl) ?_
    refine lv_lload_n hx hb dX3_orderOf_9 rfl (lv_at hl 1 rfl) ?_
    refine xl_ge (tgt := 18) hx hb dX3_orderOf_10 dX3_orderOf_11 (by decide) (fun c_2 => ?_) (fun c_2 => ?_)
    · rw [if_pos c_2] at hu
      refine lv_iconst (v := 1) hx hb dX3_orderOf_18 (by decide) ?_
      have e9 := Eq.symm hu; subst e9
      exact x_iret hx hb hr hlocks hQ hK hP hD hS rfl rfl dX3_orderOf_19
    · rw [if_neg c_2] at hu
      refine lv_iconst (v := (-1)) hx hb dX3_orderOf_14 (by decide) ?_
      refine lv_goto (tgt := 19) hx hb dX3_orderOf_15 (by decide) ?_
      have e9 := Eq.symm hu; subst e9
      exact x_iret hx hb hr hlocks hQ hK hP hD hS rfl rfl dX3_orderOf_19
  · rw [if_pos c_1] at hu
    refine lv_iconst (v := 0) hx hb dX3_orderOf_6 (by decide) ?_
    have e9 := Eq.symm hu; subst e9
    exact x_iret hx hb hr hlocks hQ hK hP hD hS rfl rfl dX3_orderOf_7

def B_X3_digitsOf_2 (p0 : Int64) (t_ : Int32) : Int32 := (if 16 ≤ t_ then t_ else (if p0 < tensL t_.toNatClampNeg then t_ else (bnd (t_ + 1) (fun n4 : Int32 => n4))))
def G_X3_digitsOf_2 (p0 : Int64) (t_ : Int32) : Bool := (if 16 ≤ t_ then false else (if p0 < tensL t_.toNatClampNeg then false else (bnd (t_ + 1) (fun n4 : Int32 => true))))
def RB_X3_digitsOf_2 (p0 : Int64) (t_ : Int32) (u9 : Int32) : Prop := (if 16 ≤ t_ then True else (if p0 < tensL t_.toNatClampNeg then True else (∀ n4 : Int32, n4 = t_ + 1 → u9 = n4)))
def RG_X3_digitsOf_2 (p0 : Int64) (t_ : Int32) (u9 : Bool) : Prop := (if 16 ≤ t_ then u9 = false else (if p0 < tensL t_.toNatClampNeg then u9 = false else u9 = true))
theorem rB_X3_digitsOf_2 (p0 : Int64) (t_ : Int32) {u9 : Int32} (hu : u9 = B_X3_digitsOf_2 p0 t_) : RB_X3_digitsOf_2 p0 t_ u9 := by
  unfold RB_X3_digitsOf_2
  refine ite_P (fun c_1 => ?_) (fun c_1 => ?_)
  · have hu := hu.trans (if_pos c_1)
    trivial
  · have hu := hu.trans (if_neg c_1)
    refine ite_P (fun c_3 => ?_) (fun c_3 => ?_)
    · have hu := hu.trans (if_pos c_3)
      trivial
    · have hu := hu.trans (if_neg c_3)
      intro n4 en4
      have hu := bnd_n hu en4
      exact hu
theorem rG_X3_digitsOf_2 (p0 : Int64) (t_ : Int32) {u9 : Bool} (hu : u9 = G_X3_digitsOf_2 p0 t_) : RG_X3_digitsOf_2 p0 t_ u9 := by
  unfold RG_X3_digitsOf_2
  refine ite_P (fun c_1 => ?_) (fun c_1 => ?_)
  · have hu := hu.trans (if_pos c_1)
    exact hu
  · have hu := hu.trans (if_neg c_1)
    refine ite_P (fun c_3 => ?_) (fun c_3 => ?_)
    · have hu := hu.trans (if_pos c_3)
      exact hu
    · have hu := hu.trans (if_neg c_3)
      exact hu
def SB_X3_digitsOf_2 (p0 : Int64) (t_ : Int32) : Prop := (if 16 ≤ t_ then True else vp_in t_ 17)
def F_X3_digitsOf  (p0 : Int64) : Int32 := (bnd (wl (G_X3_digitsOf_2 p0) (B_X3_digitsOf_2 p0) 17 0) (fun z5 : Int32 => z5))
def RF_X3_digitsOf  (p0 : Int64) (u9 : Int32) : Prop := (∀ z5 : Int32, z5 = wl (G_X3_digitsOf_2 p0) (B_X3_digitsOf_2 p0) 17 0 → u9 = z5)
theorem rF_X3_digitsOf  (p0 : Int64) {u9 : Int32} (hu : u9 = F_X3_digitsOf p0) : RF_X3_digitsOf p0 u9 := by
  unfold RF_X3_digitsOf
  intro z5 ez5
  have hu := bnd_n hu ez5
  exact hu
def S_X3_digitsOf  (p0 : Int64) : Prop := (∀ j : Nat, j < nW (G_X3_digitsOf_2 p0) (B_X3_digitsOf_2 p0) 17 0 → SB_X3_digitsOf_2 p0 (itn (B_X3_digitsOf_2 p0) j 0)) ∧ G_X3_digitsOf_2 p0 (wl (G_X3_digitsOf_2 p0) (B_X3_digitsOf_2 p0) 17 0) = false ∧ (∀ z5 : Int32, z5 = wl (G_X3_digitsOf_2 p0) (B_X3_digitsOf_2 p0) 17 0 → (if 16 ≤ z5 then True else vp_in z5 17))
def rm_X3_digitsOf : Room := { frames := 0, cells := 0, slots := 0, locals := 0 }
set_option maxHeartbeats 4000000 in
set_option maxRecDepth 100000 in
theorem c_X3_digitsOf (l : Launch) (D : va_G) (cR cI cJ cZ : ClassId) (t0 : Nat) (w : va_W) (p0 : Int64) (u : Int32) (hu : u = F_X3_digitsOf p0) (hs : S_X3_digitsOf p0) : XM l D (xty cR cI cJ cZ) t0 yX3_digitsOf cX3_digitsOf 3 (some .int) rm_X3_digitsOf [.long p0] (some (.int u)) (w) (w) := by
  refine XM.of (by decide) (Nat.le_of_ble_eq_true rfl) ?_
  intro p e s m args below meth c A Q F hK hP hD hA hSt hS hQ ls hl
  obtain ⟨hx, hb, hr, hts, hown, hlocks, hml⟩ := F
  have hCF : CallFix p m c cX3_digitsOf 3 s args gW RX3 := ⟨hx, hb, hml, hown, hts⟩
  unfold S_X3_digitsOf at hs
  have hu := rF_X3_digitsOf p0 hu
  unfold RF_X3_digitsOf at hu
  obtain ⟨H, eH⟩ : ∃ y9 : Heap, y9 = s.heap := ⟨_, rfl⟩
  obtain ⟨locs, eL⟩ : ∃ y9 : List Loc, y9 = [] := ⟨_, rfl⟩
  rw [← eL] at hS ⊢
  have hP : va_P D vwCl (w) H := by rw [eH]; exact hP
  have hS : va_S A s.heap H locs := by rw [eH]; exact hS
  suffices goal9 : W p l e rm_X3_digitsOf s m args below meth c H locs 0 0 Q (F0 m 0 ls []) from by rw [← eH]; exact goal9
  have hl : lv_has ls 3 [(0, .long p0)] := hl
  refine lv_iconst (v := 0) hx hb dX3_digitsOf_0 (by decide) ?_
  refine lv_istore_n (lv' := [(2, .int 0), (0, .long p0)]) hx hb dX3_digitsOf_1 rfl hl (by decide) rfl (fun ls hl => ?_)
  have L_12 : ∀ (n9 : Nat) (t_ : Int32), (∀ j : Nat, j < n9 → G_X3_digitsOf_2 p0 (itn (B_X3_digitsOf_2 p0) j t_) = true) → (∀ j : Nat, j < n9 → SB_X3_digitsOf_2 p0 (itn (B_X3_digitsOf_2 p0) j t_)) → (∀ (H : Heap) (locs : List Loc), va_P D vwCl (w) H → va_D A (w) → va_S A s.heap H locs → ∀ ls : Array Slot, lv_has ls 3 [(0, .long p0), (2, .int (itn (B_X3_digitsOf_2 p0) n9 t_))] → W p l e rm_X3_digitsOf s m args below meth c H locs 0 0 Q (F0 m 2 ls [])) → ∀ (H : Heap) (locs : List Loc), va_P D vwCl (w) H → va_D A (w) → va_S A s.heap H locs → ∀ ls : Array Slot, lv_has ls 3 [(0, .long p0), (2, .int t_)] → W p l e rm_X3_digitsOf s m args below meth c H locs 0 0 Q (F0 m 2 ls []) := by
    intro n9
    induction n9 with
    | zero => exact fun t_ _ _ k9 => k9
    | succ n9 ih9 =>
      intro t_ hG9 hs9 k9 H locs hP hD hS ls hl
      have hG0 : G_X3_digitsOf_2 p0 t_ = true := hG9 0 (Nat.succ_pos n9)
      have hg := rG_X3_digitsOf_2 p0 t_ (Eq.symm hG0)
      unfold RG_X3_digitsOf_2 at hg
      obtain ⟨t9, et9⟩ : ∃ y9 : Int32, y9 = (B_X3_digitsOf_2 p0) t_ := ⟨_, rfl⟩
      have hb9 := rB_X3_digitsOf_2 p0 t_ et9
      unfold RB_X3_digitsOf_2 at hb9
      have hs : SB_X3_digitsOf_2 p0 t_ := hs9 0 (Nat.succ_pos n9)
      unfold SB_X3_digitsOf_2 at hs
      refine lv_iload_n hx hb dX3_digitsOf_2 rfl (lv_at hl 1 rfl) ?_
      refine lv_bipush (v := 16) hx hb dX3_digitsOf_3 (by decide) ?_
      refine lv_icmp_ge (tgt := 24) hx hb dX3_digitsOf_5 (by decide) (fun c_1 => ?_) (fun c_1 => ?_)
      · rw [if_pos c_1] at hg
        exact absurd hg (by decide)
      · rw [if_neg c_1] at hs
        rw [if_neg c_1] at hg
        rw [if_neg c_1] at hb9
        refine lv_lload_n hx hb dX3_digitsOf_8 rfl (lv_at hl 0 rfl) ?_
        refine va_gets hx hb hSt.1 hS hown (hts (.fieldLink RX3 260 "DecimalWords" "TENS" "[J") (inW_1 _ (List.mem_of_getElem? (i := 27) rfl))) (fun _ h9 => h9) dX3_digitsOf_9 ?_
        refine lv_iload_n hx hb dX3_digitsOf_12 rfl (lv_at hl 1 rfl) ?_
        have h_2 := hs
        refine va_tl hx hb hSt.2.1 hS h_2 rfl dX3_digitsOf_13 ?_
        refine xl_lt (tgt := 24) hx hb dX3_digitsOf_14 dX3_digitsOf_15 (by decide) (fun c_3 => ?_) (fun c_3 => ?_)
        · rw [if_pos c_3] at hg
          exact absurd hg (by decide)
        · rw [if_neg c_3] at hg
          rw [if_neg c_3] at hb9
          obtain ⟨n4, en4⟩ : ∃ y9 : Int32, y9 = t_ + 1 := ⟨_, rfl⟩
          have hb9 := hb9 _ en4
          refine lv_iinc (v := n4) (lv' := [(2, .int n4), (0, .long p0)]) hx hb dX3_digitsOf_18 hl (k := 1) rfl (by rw [en4]; rfl) (by decide) rfl (fun ls hl => ?_)
          refine lv_goto (tgt := 2) hx hb dX3_digitsOf_21 (by decide) ?_
          have e9 := Eq.symm hb9; subst e9
          have key9 := ih9 ((B_X3_digitsOf_2 p0) t_) (fun j hj => hG9 (j + 1) (Nat.succ_lt_succ hj)) (fun j hj => hs9 (j + 1) (Nat.succ_lt_succ hj)) k9
          rw [← et9] at key9
          exact key9 H locs hP hD hS ls (lv_sub hl [1, 0] rfl)
  obtain ⟨hsL, hG1, hs⟩ := hs
  refine L_12 (nW (G_X3_digitsOf_2 p0) (B_X3_digitsOf_2 p0) 17 0) 0 (nW_lt _ _ _ _) hsL (fun H locs hP hD hS ls hl => ?_) H locs hP hD hS ls (lv_sub hl [1, 0] rfl)
  obtain ⟨z5, ez5⟩ : ∃ y9 : Int32, y9 = wl (G_X3_digitsOf_2 p0) (B_X3_digitsOf_2 p0) 17 0 := ⟨_, rfl⟩
  have e9 : z5 = itn (B_X3_digitsOf_2 p0) (nW (G_X3_digitsOf_2 p0) (B_X3_digitsOf_2 p0) 17 0) 0 := ez5
  try rw [← e9] at hP
  try rw [← e9] at hD
  try rw [← e9] at hl
  rw [← ez5] at hG1
  clear e9
  have hg := rG_X3_digitsOf_2 p0 z5 (Eq.symm hG1)
  unfold RG_X3_digitsOf_2 at hg
  have hs := hs _ ez5
  have hu := hu _ ez5
  refine lv_iload_n hx hb dX3_digitsOf_2 rfl (lv_at hl 1 rfl) ?_
  refine lv_bipush (v := 16) hx hb dX3_digitsOf_3 (by decide) ?_
  have J_11 : ∀ (H : Heap) (locs : List Loc), va_P D vwCl (w) H → va_D A (w) → va_S A s.heap H locs → ∀ ls : Array Slot, lv_has ls 3 [(2, .int z5)] → W p l e rm_X3_digitsOf s m args below meth c H locs 0 0 Q (F0 m 24 ls []) := by
    intro H locs hP hD hS ls hl
    refine lv_iload_n hx hb dX3_digitsOf_24 rfl (lv_at hl 0 rfl) ?_
    have e9 := Eq.symm hu; subst e9
    exact x_iret hx hb hr hlocks hQ hK hP hD hS rfl rfl dX3_digitsOf_25
  refine lv_icmp_ge (tgt := 24) hx hb dX3_digitsOf_5 (by decide) (fun c_7 => ?_) (fun c_7 => ?_)
  · rw [if_pos c_7] at hg
    exact J_11 H locs hP hD hS ls (lv_sub hl [1] rfl)
  · rw [if_neg c_7] at hs
    rw [if_neg c_7] at hg
    refine lv_lload_n hx hb dX3_digitsOf_8 rfl (lv_at hl 0 rfl) ?_
    refine va_gets hx hb hSt.1 hS hown (hts (.fieldLink RX3 260 "DecimalWords" "TENS" "[J") (inW_1 _ (List.mem_of_getElem? (i := 27) rfl))) (fun _ h9 => h9) dX3_digitsOf_9 ?_
    refine lv_iload_n hx hb dX3_digitsOf_12 rfl (lv_at hl 1 rfl) ?_
    have h_8 := hs
    refine va_tl hx hb hSt.2.1 hS h_8 rfl dX3_digitsOf_13 ?_
    refine xl_lt (tgt := 24) hx hb dX3_digitsOf_14 dX3_digitsOf_15 (by decide) (fun c_9 => ?_) (fun c_9 => ?_)
    · rw [if_pos c_9] at hg
      exact J_11 H locs hP hD hS ls (lv_sub hl [1] rfl)
    · rw [if_neg c_9] at hg
      exact absurd hg (by decide)
end
section
def F_X3_orderOfSizes (vso : Nat → Int32) (vco : Nat → Int64) (vex : Nat → Int32) (i1 : Nat) (i2 : Nat) : Int32 := (if vso i1 = 1 then F_X3_orderOf ((vso i1).toInt64) ((vso i2).toInt64) else (if vso i2 = 1 then F_X3_orderOf ((vso i1).toInt64) ((vso i2).toInt64) else (bnd (F_X3_digitsOf (vco i1)) (fun n6 : Int32 => (bnd (F_X3_digitsOf (vco i2)) (fun n9 : Int32 => (bnd (F_X3_orderOf (((vex i1) + n6).toInt64) (((vex i2) + n9).toInt64)) (fun n11 : Int32 => (if n11 = 0 then F_X3_orderOf ((vco i1) * (F_X3_tenTo (16 - n6))) ((vco i2) * (F_X3_tenTo (16 - n9))) else n11)))))))))
def RF_X3_orderOfSizes (vso : Nat → Int32) (vco : Nat → Int64) (vex : Nat → Int32) (i1 : Nat) (i2 : Nat) (u9 : Int32) : Prop := (if vso i1 = 1 then u9 = F_X3_orderOf ((vso i1).toInt64) ((vso i2).toInt64) else (if vso i2 = 1 then u9 = F_X3_orderOf ((vso i1).toInt64) ((vso i2).toInt64) else (∀ n6 : Int32, n6 = F_X3_digitsOf (vco i1) → (∀ n9 : Int32, n9 = F_X3_digitsOf (vco i2) → (∀ n11 : Int32, n11 = F_X3_orderOf (((vex i1) + n6).toInt64) (((vex i2) + n9).toInt64) → (if n11 = 0 then u9 = F_X3_orderOf ((vco i1) * (F_X3_tenTo (16 - n6))) ((vco i2) * (F_X3_tenTo (16 - n9))) else u9 = n11))))))
theorem rF_X3_orderOfSizes (vso : Nat → Int32) (vco : Nat → Int64) (vex : Nat → Int32) (i1 : Nat) (i2 : Nat) {u9 : Int32} (hu : u9 = F_X3_orderOfSizes vso vco vex i1 i2) : RF_X3_orderOfSizes vso vco vex i1 i2 u9 := by
  unfold RF_X3_orderOfSizes
  refine ite_P (fun c_1 => ?_) (fun c_1 => ?_)
  · have hu := hu.trans (if_pos c_1)
    exact hu
  · have hu := hu.trans (if_neg c_1)
    refine ite_P (fun c_3 => ?_) (fun c_3 => ?_)
    · have hu := hu.trans (if_pos c_3)
      exact hu
    · have hu := hu.trans (if_neg c_3)
      intro n6 en6
      have hu := bnd_n hu en6
      intro n9 en9
      have hu := bnd_n hu en9
      intro n11 en11
      have hu := bnd_n hu en11
      refine ite_P (fun c_12 => ?_) (fun c_12 => ?_)
      · have hu := hu.trans (if_pos c_12)
        exact hu
      · have hu := hu.trans (if_neg c_12)
        exact hu
def S_X3_orderOfSizes (vso : Nat → Int32) (vco : Nat → Int64) (vex : Nat → Int32) (i1 : Nat) (i2 : Nat) : Prop := (if vso i1 = 1 then True else (if vso i2 = 1 then True else (S_X3_digitsOf (vco i1)) ∧ (∀ n6 : Int32, n6 = F_X3_digitsOf (vco i1) → (S_X3_digitsOf (vco i2)) ∧ (∀ n9 : Int32, n9 = F_X3_digitsOf (vco i2) → (∀ n11 : Int32, n11 = F_X3_orderOf (((vex i1) + n6).toInt64) (((vex i2) + n9).toInt64) → (if n11 = 0 then (S_X3_tenTo (16 - n6)) ∧ S_X3_tenTo (16 - n9) else True))))))
def rm_X3_orderOfSizes : Room := { frames := 2, cells := 0, slots := 0, locals := 60 }
set_option maxHeartbeats 4000000 in
set_option maxRecDepth 100000 in
theorem c_X3_orderOfSizes (l : Launch) (D : va_G) (cR cI cJ cZ : ClassId) (t0 : Nat) (ax ar ao : Nat) (ad : Nat → Nat) (vrd : Int32) (vtr : Int32) (vsd : Int32) (vrn : Int32) (vom : Bool) (voh : Int64) (vol : Int64) (vop : Int32) (voe : Bool) (vow : Int32) (vok : Int64) (vos : Int32) (vso : Nat → Int32) (vmi : Nat → Bool) (vco : Nat → Int64) (vex : Nat → Int32) (i1 : Nat) (i2 : Nat) (u : Int32) (hu : u = F_X3_orderOfSizes vso vco vex i1 i2) (hs : S_X3_orderOfSizes vso vco vex i1 i2) (hb1 : i1 < 9) (hb2 : i2 < 9) : XM l D (xty cR cI cJ cZ) t0 yX3_orderOfSizes cX3_orderOfSizes 5 (some .int) rm_X3_orderOfSizes [.ref (ad i1), .ref (ad i2)] (some (.int u)) (xw cR ax ar ao ad vrd vtr vsd vrn vom voh vol vop voe vow vok vos vso vmi vco vex) (xw cR ax ar ao ad vrd vtr vsd vrn vom voh vol vop voe vow vok vos vso vmi vco vex) := by
  refine XM.of (by decide) (Nat.le_of_ble_eq_true rfl) ?_
  intro p e s m args below meth c A Q F hK hP hD hA hSt hS hQ ls hl
  obtain ⟨hx, hb, hr, hts, hown, hlocks, hml⟩ := F
  have hCF : CallFix p m c cX3_orderOfSizes 5 s args gW RX3 := ⟨hx, hb, hml, hown, hts⟩
  unfold S_X3_orderOfSizes at hs
  have hu := rF_X3_orderOfSizes vso vco vex i1 i2 hu
  unfold RF_X3_orderOfSizes at hu
  obtain ⟨H, eH⟩ : ∃ y9 : Heap, y9 = s.heap := ⟨_, rfl⟩
  obtain ⟨locs, eL⟩ : ∃ y9 : List Loc, y9 = [] := ⟨_, rfl⟩
  rw [← eL] at hS ⊢
  have hP : va_P D vwCl (xw cR ax ar ao ad vrd vtr vsd vrn vom voh vol vop voe vow vok vos vso vmi vco vex) H := by rw [eH]; exact hP
  have hS : va_S A s.heap H locs := by rw [eH]; exact hS
  suffices goal9 : W p l e rm_X3_orderOfSizes s m args below meth c H locs 0 0 Q (F0 m 0 ls []) from by rw [← eH]; exact goal9
  have hl : lv_has ls 5 [(0, .ref (ad i1)), (1, .ref (ad i2))] := hl
  have hi0 : ∀ w ∈ wsX00, w ∈ gW := inW_X0
  refine lv_aload_n hx hb dX3_orderOfSizes_0 rfl (lv_at hl 0 rfl) ?_
  refine g_so (i := i1) hx hb hts hi0 hown hK hP hb1 (hts (.fieldLink RX3 70 "DecimalWords$Datum" "sort" "I") (inW_5 _ (List.mem_of_getElem? (i := 13) rfl))) dX3_orderOfSizes_1 ?_
  refine lv_iconst (v := 1) hx hb dX3_orderOfSizes_4 (by decide) ?_
  refine lv_icmp_eq (tgt := 16) hx hb dX3_orderOfSizes_5 (by decide) (fun c_1 => ?_) (fun c_1 => ?_)
  · rw [if_pos c_1] at hu
    refine lv_aload_n hx hb dX3_orderOfSizes_16 rfl (lv_at hl 0 rfl) ?_
    refine g_so (i := i1) hx hb hts hi0 hown hK hP hb1 (hts (.fieldLink RX3 70 "DecimalWords$Datum" "sort" "I") (inW_5 _ (List.mem_of_getElem? (i := 13) rfl))) dX3_orderOfSizes_17 ?_
    refine x_i2l hx hb dX3_orderOfSizes_20 ?_
    refine lv_aload_n hx hb dX3_orderOfSizes_21 rfl (lv_at hl 1 rfl) ?_
    refine g_so (i := i2) hx hb hts hi0 hown hK hP hb2 (hts (.fieldLink RX3 70 "DecimalWords$Datum" "sort" "I") (inW_5 _ (List.mem_of_getElem? (i := 13) rfl))) dX3_orderOfSizes_22 ?_
    refine x_i2l hx hb dX3_orderOfSizes_25 ?_
    refine x_S (As := [.long ((vso i1).toInt64), .long ((vso i2).toInt64)]) (rest := []) hCF (c_X3_orderOf l D cR cI cJ cZ t0 (xw cR ax ar ao ad vrd vtr vsd vrn vom voh vol vop voe vow vok vos vso vmi vco vex) ((vso i1).toInt64) ((vso i2).toInt64) _ rfl) (x_cwS 2 hts (inW_6 _ (List.mem_of_getElem? (i := 8) rfl)) (inW_6 _ (List.mem_of_getElem? (i := 9) rfl)) (inW_1 _ (List.mem_of_getElem? (i := 25) rfl)) (inW_6 _ (List.mem_of_getElem? (i := 10) rfl)) rfl rfl (by decide +kernel) ⟨Nat.le_of_ble_eq_true rfl, Nat.le_of_ble_eq_true rfl⟩) hK hP hD hS hA hSt rfl hl.1 rfl (Nat.le_of_ble_eq_true rfl) dX3_orderOfSizes_26 ⟨Nat.le_of_ble_eq_true rfl, Nat.le_of_ble_eq_true rfl⟩ (fun H locs hP hD hS => ?_)
    show W p l e _ s m args below meth c H locs 0 0 Q (F0 m 29 ls (.int (F_X3_orderOf ((vso i1).toInt64) ((vso i2).toInt64)) :: []))
    have e9 := Eq.symm hu; subst e9
    exact x_iret hx hb hr hlocks hQ hK hP hD hS rfl rfl dX3_orderOfSizes_29
  · rw [if_neg c_1] at hs
    rw [if_neg c_1] at hu
    refine lv_aload_n hx hb dX3_orderOfSizes_8 rfl (lv_at hl 1 rfl) ?_
    refine g_so (i := i2) hx hb hts hi0 hown hK hP hb2 (hts (.fieldLink RX3 70 "DecimalWords$Datum" "sort" "I") (inW_5 _ (List.mem_of_getElem? (i := 13) rfl))) dX3_orderOfSizes_9 ?_
    refine lv_iconst (v := 1) hx hb dX3_orderOfSizes_12 (by decide) ?_
    refine lv_icmp_ne (tgt := 30) hx hb dX3_orderOfSizes_13 (by decide) (fun c_3 => ?_) (fun c_3 => ?_)
    · rw [if_neg c_3] at hs
      rw [if_neg c_3] at hu
      refine lv_aload_n hx hb dX3_orderOfSizes_30 rfl (lv_at hl 0 rfl) ?_
      refine g_co (i := i1) hx hb hts hi0 hown hK hP hb1 (hts (.fieldLink RX3 81 "DecimalWords$Datum" "coefficient" "J") (inW_5 _ (List.mem_of_getElem? (i := 20) rfl))) dX3_orderOfSizes_31 ?_
      obtain ⟨h_4, hs⟩ := hs
      refine x_S (As := [.long (vco i1)]) (rest := []) hCF (c_X3_digitsOf l D cR cI cJ cZ t0 (xw cR ax ar ao ad vrd vtr vsd vrn vom voh vol vop voe vow vok vos vso vmi vco vex) (vco i1) _ rfl h_4) (x_cwS 1 hts (inW_5 _ (List.mem_of_getElem? (i := 26) rfl)) (inW_1 _ (List.mem_of_getElem? (i := 24) rfl)) (inW_1 _ (List.mem_of_getElem? (i := 25) rfl)) (inW_1 _ (List.mem_of_getElem? (i := 26) rfl)) rfl rfl (by decide +kernel) ⟨Nat.le_of_ble_eq_true rfl, Nat.le_of_ble_eq_true rfl⟩) hK hP hD hS hA hSt rfl hl.1 rfl (Nat.le_of_ble_eq_true rfl) dX3_orderOfSizes_34 ⟨Nat.le_of_ble_eq_true rfl, Nat.le_of_ble_eq_true rfl⟩ (fun H locs hP hD hS => ?_)
      show W p l e _ s m args below meth c H locs 0 0 Q (F0 m 37 ls (.int (F_X3_digitsOf (vco i1)) :: []))
      refine lv_topi (fun n6 en6 => ?_)
      have hs := hs _ en6
      have hu := hu _ en6
      refine lv_istore_n (lv' := [(2, .int n6), (0, .ref (ad i1)), (1, .ref (ad i2))]) hx hb dX3_orderOfSizes_37 rfl hl (by decide) rfl (fun ls hl => ?_)
      refine lv_aload_n hx hb dX3_orderOfSizes_38 rfl (lv_at hl 2 rfl) ?_
      refine g_co (i := i2) hx hb hts hi0 hown hK hP hb2 (hts (.fieldLink RX3 81 "DecimalWords$Datum" "coefficient" "J") (inW_5 _ (List.mem_of_getElem? (i := 20) rfl))) dX3_orderOfSizes_39 ?_
      obtain ⟨h_7, hs⟩ := hs
      refine x_S (As := [.long (vco i2)]) (rest := []) hCF (c_X3_digitsOf l D cR cI cJ cZ t0 (xw cR ax ar ao ad vrd vtr vsd vrn vom voh vol vop voe vow vok vos vso vmi vco vex) (vco i2) _ rfl h_7) (x_cwS 1 hts (inW_5 _ (List.mem_of_getElem? (i := 26) rfl)) (inW_1 _ (List.mem_of_getElem? (i := 24) rfl)) (inW_1 _ (List.mem_of_getElem? (i := 25) rfl)) (inW_1 _ (List.mem_of_getElem? (i := 26) rfl)) rfl rfl (by decide +kernel) ⟨Nat.le_of_ble_eq_true rfl, Nat.le_of_ble_eq_true rfl⟩) hK hP hD hS hA hSt rfl hl.1 rfl (Nat.le_of_ble_eq_true rfl) dX3_orderOfSizes_42 ⟨Nat.le_of_ble_eq_true rfl, Nat.le_of_ble_eq_true rfl⟩ (fun H locs hP hD hS => ?_)
      show W p l e _ s m args below meth c H locs 0 0 Q (F0 m 45 ls (.int (F_X3_digitsOf (vco i2)) :: []))
      refine lv_topi (fun n9 en9 => ?_)
      have hs := hs _ en9
      have hu := hu _ en9
      refine lv_istore_n (lv' := [(3, .int n9), (2, .int n6), (0, .ref (ad i1)), (1, .ref (ad i2))]) hx hb dX3_orderOfSizes_45 rfl hl (by decide) rfl (fun ls hl => ?_)
      refine lv_aload_n hx hb dX3_orderOfSizes_46 rfl (lv_at hl 2 rfl) ?_
      refine g_ex (i := i1) hx hb hts hi0 hown hK hP hb1 (hts (.fieldLink RX3 85 "DecimalWords$Datum" "exponent" "I") (inW_5 _ (List.mem_of_getElem? (i := 21) rfl))) dX3_orderOfSizes_47 ?_
      refine lv_iload_n hx hb dX3_orderOfSizes_50 rfl (lv_at hl 1 rfl) ?_
      refine lv_iadd hx hb dX3_orderOfSizes_51 ?_
      refine x_i2l hx hb dX3_orderOfSizes_52 ?_
      refine lv_aload_n hx hb dX3_orderOfSizes_53 rfl (lv_at hl 3 rfl) ?_
      refine g_ex (i := i2) hx hb hts hi0 hown hK hP hb2 (hts (.fieldLink RX3 85 "DecimalWords$Datum" "exponent" "I") (inW_5 _ (List.mem_of_getElem? (i := 21) rfl))) dX3_orderOfSizes_54 ?_
      refine lv_iload_n hx hb dX3_orderOfSizes_57 rfl (lv_at hl 0 rfl) ?_
      refine lv_iadd hx hb dX3_orderOfSizes_58 ?_
      refine x_i2l hx hb dX3_orderOfSizes_59 ?_
      refine x_S (As := [.long (((vex i1) + n6).toInt64), .long (((vex i2) + n9).toInt64)]) (rest := []) hCF (c_X3_orderOf l D cR cI cJ cZ t0 (xw cR ax ar ao ad vrd vtr vsd vrn vom voh vol vop voe vow vok vos vso vmi vco vex) (((vex i1) + n6).toInt64) (((vex i2) + n9).toInt64) _ rfl) (x_cwS 2 hts (inW_6 _ (List.mem_of_getElem? (i := 8) rfl)) (inW_6 _ (List.mem_of_getElem? (i := 9) rfl)) (inW_1 _ (List.mem_of_getElem? (i := 25) rfl)) (inW_6 _ (List.mem_of_getElem? (i := 10) rfl)) rfl rfl (by decide +kernel) ⟨Nat.le_of_ble_eq_true rfl, Nat.le_of_ble_eq_true rfl⟩) hK hP hD hS hA hSt rfl hl.1 rfl (Nat.le_of_ble_eq_true rfl) dX3_orderOfSizes_60 ⟨Nat.le_of_ble_eq_true rfl, Nat.le_of_ble_eq_true rfl⟩ (fun H locs hP hD hS => ?_)
      show W p l e _ s m args below meth c H locs 0 0 Q (F0 m 63 ls (.int (F_X3_orderOf (((vex i1) + n6).toInt64) (((vex i2) + n9).toInt64)) :: []))
      refine lv_topi (fun n11 en11 => ?_)
      have hs := hs _ en11
      have hu := hu _ en11
      refine lv_istore (lv' := [(4, .int n11), (3, .int n9), (2, .int n6), (0, .ref (ad i1)), (1, .ref (ad i2))]) hx hb dX3_orderOfSizes_63 hl (by decide) rfl (fun ls hl => ?_)
      refine lv_iload hx hb dX3_orderOfSizes_65 (lv_at hl 0 rfl) ?_
      refine lv_if_eq (tgt := 73) hx hb dX3_orderOfSizes_67 (by decide) (fun c_12 => ?_) (fun c_12 => ?_)
      · rw [if_pos c_12] at hs
        rw [if_pos c_12] at hu
        refine lv_aload_n hx hb dX3_orderOfSizes_73 rfl (lv_at hl 3 rfl) ?_
        refine g_co (i := i1) hx hb hts hi0 hown hK hP hb1 (hts (.fieldLink RX3 81 "DecimalWords$Datum" "coefficient" "J") (inW_5 _ (List.mem_of_getElem? (i := 20) rfl))) dX3_orderOfSizes_74 ?_
        refine lv_bipush (v := 16) hx hb dX3_orderOfSizes_77 (by decide) ?_
        refine lv_iload_n hx hb dX3_orderOfSizes_79 rfl (lv_at hl 2 rfl) ?_
        refine lv_isub hx hb dX3_orderOfSizes_80 ?_
        obtain ⟨h_13, hs⟩ := hs
        refine x_S (As := [.int (16 - n6)]) (rest := [.long (vco i1)]) hCF (c_X3_tenTo l D cR cI cJ cZ t0 (xw cR ax ar ao ad vrd vtr vsd vrn vom voh vol vop voe vow vok vos vso vmi vco vex) (16 - n6) _ rfl h_13) (x_cwS 1 hts (inW_5 _ (List.mem_of_getElem? (i := 27) rfl)) (inW_2 _ (List.mem_of_getElem? (i := 9) rfl)) (inW_1 _ (List.mem_of_getElem? (i := 25) rfl)) (inW_2 _ (List.mem_of_getElem? (i := 10) rfl)) rfl rfl (by decide +kernel) ⟨Nat.le_of_ble_eq_true rfl, Nat.le_of_ble_eq_true rfl⟩) hK hP hD hS hA hSt rfl hl.1 rfl (Nat.le_of_ble_eq_true rfl) dX3_orderOfSizes_81 ⟨Nat.le_of_ble_eq_true rfl, Nat.le_of_ble_eq_true rfl⟩ (fun H locs hP hD hS => ?_)
        show W p l e _ s m args below meth c H locs 0 0 Q (F0 m 84 ls (.long (F_X3_tenTo (16 - n6)) :: [.long (vco i1)]))
        refine lv_lmul hx hb dX3_orderOfSizes_84 ?_
        refine lv_aload_n hx hb dX3_orderOfSizes_85 rfl (lv_at hl 4 rfl) ?_
        refine g_co (i := i2) hx hb hts hi0 hown hK hP hb2 (hts (.fieldLink RX3 81 "DecimalWords$Datum" "coefficient" "J") (inW_5 _ (List.mem_of_getElem? (i := 20) rfl))) dX3_orderOfSizes_86 ?_
        refine lv_bipush (v := 16) hx hb dX3_orderOfSizes_89 (by decide) ?_
        refine lv_iload_n hx hb dX3_orderOfSizes_91 rfl (lv_at hl 1 rfl) ?_
        refine lv_isub hx hb dX3_orderOfSizes_92 ?_
        have h_15 := hs
        refine x_S (As := [.int (16 - n9)]) (rest := [.long (vco i2), .long ((vco i1) * (F_X3_tenTo (16 - n6)))]) hCF (c_X3_tenTo l D cR cI cJ cZ t0 (xw cR ax ar ao ad vrd vtr vsd vrn vom voh vol vop voe vow vok vos vso vmi vco vex) (16 - n9) _ rfl h_15) (x_cwS 1 hts (inW_5 _ (List.mem_of_getElem? (i := 27) rfl)) (inW_2 _ (List.mem_of_getElem? (i := 9) rfl)) (inW_1 _ (List.mem_of_getElem? (i := 25) rfl)) (inW_2 _ (List.mem_of_getElem? (i := 10) rfl)) rfl rfl (by decide +kernel) ⟨Nat.le_of_ble_eq_true rfl, Nat.le_of_ble_eq_true rfl⟩) hK hP hD hS hA hSt rfl hl.1 rfl (Nat.le_of_ble_eq_true rfl) dX3_orderOfSizes_93 ⟨Nat.le_of_ble_eq_true rfl, Nat.le_of_ble_eq_true rfl⟩ (fun H locs hP hD hS => ?_)
        show W p l e _ s m args below meth c H locs 0 0 Q (F0 m 96 ls (.long (F_X3_tenTo (16 - n9)) :: [.long (vco i2), .long ((vco i1) * (F_X3_tenTo (16 - n6)))]))
        refine lv_lmul hx hb dX3_orderOfSizes_96 ?_
        refine x_S (As := [.long ((vco i1) * (F_X3_tenTo (16 - n6))), .long ((vco i2) * (F_X3_tenTo (16 - n9)))]) (rest := []) hCF (c_X3_orderOf l D cR cI cJ cZ t0 (xw cR ax ar ao ad vrd vtr vsd vrn vom voh vol vop voe vow vok vos vso vmi vco vex) ((vco i1) * (F_X3_tenTo (16 - n6))) ((vco i2) * (F_X3_tenTo (16 - n9))) _ rfl) (x_cwS 2 hts (inW_6 _ (List.mem_of_getElem? (i := 8) rfl)) (inW_6 _ (List.mem_of_getElem? (i := 9) rfl)) (inW_1 _ (List.mem_of_getElem? (i := 25) rfl)) (inW_6 _ (List.mem_of_getElem? (i := 10) rfl)) rfl rfl (by decide +kernel) ⟨Nat.le_of_ble_eq_true rfl, Nat.le_of_ble_eq_true rfl⟩) hK hP hD hS hA hSt rfl hl.1 rfl (Nat.le_of_ble_eq_true rfl) dX3_orderOfSizes_97 ⟨Nat.le_of_ble_eq_true rfl, Nat.le_of_ble_eq_true rfl⟩ (fun H locs hP hD hS => ?_)
        show W p l e _ s m args below meth c H locs 0 0 Q (F0 m 100 ls (.int (F_X3_orderOf ((vco i1) * (F_X3_tenTo (16 - n6))) ((vco i2) * (F_X3_tenTo (16 - n9)))) :: []))
        have e9 := Eq.symm hu; subst e9
        exact x_iret hx hb hr hlocks hQ hK hP hD hS rfl rfl dX3_orderOfSizes_100
      · rw [if_neg c_12] at hu
        refine lv_iload hx hb dX3_orderOfSizes_70 (lv_at hl 0 rfl) ?_
        have e9 := Eq.symm hu; subst e9
        exact x_iret hx hb hr hlocks hQ hK hP hD hS rfl rfl dX3_orderOfSizes_72
    · rw [if_pos c_3] at hu
      refine lv_aload_n hx hb dX3_orderOfSizes_16 rfl (lv_at hl 0 rfl) ?_
      refine g_so (i := i1) hx hb hts hi0 hown hK hP hb1 (hts (.fieldLink RX3 70 "DecimalWords$Datum" "sort" "I") (inW_5 _ (List.mem_of_getElem? (i := 13) rfl))) dX3_orderOfSizes_17 ?_
      refine x_i2l hx hb dX3_orderOfSizes_20 ?_
      refine lv_aload_n hx hb dX3_orderOfSizes_21 rfl (lv_at hl 1 rfl) ?_
      refine g_so (i := i2) hx hb hts hi0 hown hK hP hb2 (hts (.fieldLink RX3 70 "DecimalWords$Datum" "sort" "I") (inW_5 _ (List.mem_of_getElem? (i := 13) rfl))) dX3_orderOfSizes_22 ?_
      refine x_i2l hx hb dX3_orderOfSizes_25 ?_
      refine x_S (As := [.long ((vso i1).toInt64), .long ((vso i2).toInt64)]) (rest := []) hCF (c_X3_orderOf l D cR cI cJ cZ t0 (xw cR ax ar ao ad vrd vtr vsd vrn vom voh vol vop voe vow vok vos vso vmi vco vex) ((vso i1).toInt64) ((vso i2).toInt64) _ rfl) (x_cwS 2 hts (inW_6 _ (List.mem_of_getElem? (i := 8) rfl)) (inW_6 _ (List.mem_of_getElem? (i := 9) rfl)) (inW_1 _ (List.mem_of_getElem? (i := 25) rfl)) (inW_6 _ (List.mem_of_getElem? (i := 10) rfl)) rfl rfl (by decide +kernel) ⟨Nat.le_of_ble_eq_true rfl, Nat.le_of_ble_eq_true rfl⟩) hK hP hD hS hA hSt rfl hl.1 rfl (Nat.le_of_ble_eq_true rfl) dX3_orderOfSizes_26 ⟨Nat.le_of_ble_eq_true rfl, Nat.le_of_ble_eq_true rfl⟩ (fun H locs hP hD hS => ?_)
      show W p l e _ s m args below meth c H locs 0 0 Q (F0 m 29 ls (.int (F_X3_orderOf ((vso i1).toInt64) ((vso i2).toInt64)) :: []))
      have e9 := Eq.symm hu; subst e9
      exact x_iret hx hb hr hlocks hQ hK hP hD hS rfl rfl dX3_orderOfSizes_29
end
section
def F_X3_order (vso : Nat → Int32) (vmi : Nat → Bool) (vco : Nat → Int64) (vex : Nat → Int32) (i1 : Nat) (i2 : Nat) : Int32 := (bnd (F_X0_side vso vmi vco i1) (fun n2 : Int32 => (if n2 = F_X0_side vso vmi vco i2 then (if n2 = 0 then 0 else n2 * (F_X3_orderOfSizes vso vco vex i1 i2)) else (if F_X0_side vso vmi vco i2 ≤ n2 then 1 else (-1)))))
def RF_X3_order (vso : Nat → Int32) (vmi : Nat → Bool) (vco : Nat → Int64) (vex : Nat → Int32) (i1 : Nat) (i2 : Nat) (u9 : Int32) : Prop := (∀ n2 : Int32, n2 = F_X0_side vso vmi vco i1 → (if n2 = F_X0_side vso vmi vco i2 then (if n2 = 0 then u9 = 0 else u9 = n2 * (F_X3_orderOfSizes vso vco vex i1 i2)) else (if F_X0_side vso vmi vco i2 ≤ n2 then u9 = 1 else u9 = (-1))))
theorem rF_X3_order (vso : Nat → Int32) (vmi : Nat → Bool) (vco : Nat → Int64) (vex : Nat → Int32) (i1 : Nat) (i2 : Nat) {u9 : Int32} (hu : u9 = F_X3_order vso vmi vco vex i1 i2) : RF_X3_order vso vmi vco vex i1 i2 u9 := by
  unfold RF_X3_order
  intro n2 en2
  have hu := bnd_n hu en2
  refine ite_P (fun c_4 => ?_) (fun c_4 => ?_)
  · have hu := hu.trans (if_pos c_4)
    refine ite_P (fun c_5 => ?_) (fun c_5 => ?_)
    · have hu := hu.trans (if_pos c_5)
      exact hu
    · have hu := hu.trans (if_neg c_5)
      exact hu
  · have hu := hu.trans (if_neg c_4)
    refine ite_P (fun c_9 => ?_) (fun c_9 => ?_)
    · have hu := hu.trans (if_pos c_9)
      exact hu
    · have hu := hu.trans (if_neg c_9)
      exact hu
def S_X3_order (vso : Nat → Int32) (vmi : Nat → Bool) (vco : Nat → Int64) (vex : Nat → Int32) (i1 : Nat) (i2 : Nat) : Prop := (∀ n2 : Int32, n2 = F_X0_side vso vmi vco i1 → (if n2 = F_X0_side vso vmi vco i2 then (if n2 = 0 then True else S_X3_orderOfSizes vso vco vex i1 i2) else True))
def rm_X3_order : Room := { frames := 3, cells := 0, slots := 0, locals := 84 }
set_option maxHeartbeats 4000000 in
set_option maxRecDepth 100000 in
theorem c_X3_order (l : Launch) (D : va_G) (cR cI cJ cZ : ClassId) (t0 : Nat) (ax ar ao : Nat) (ad : Nat → Nat) (vrd : Int32) (vtr : Int32) (vsd : Int32) (vrn : Int32) (vom : Bool) (voh : Int64) (vol : Int64) (vop : Int32) (voe : Bool) (vow : Int32) (vok : Int64) (vos : Int32) (vso : Nat → Int32) (vmi : Nat → Bool) (vco : Nat → Int64) (vex : Nat → Int32) (i1 : Nat) (i2 : Nat) (u : Int32) (hu : u = F_X3_order vso vmi vco vex i1 i2) (hs : S_X3_order vso vmi vco vex i1 i2) (hb1 : i1 < 9) (hb2 : i2 < 9) : XM l D (xty cR cI cJ cZ) t0 yX3_order cX3_order 3 (some .int) rm_X3_order [.ref (ad i1), .ref (ad i2)] (some (.int u)) (xw cR ax ar ao ad vrd vtr vsd vrn vom voh vol vop voe vow vok vos vso vmi vco vex) (xw cR ax ar ao ad vrd vtr vsd vrn vom voh vol vop voe vow vok vos vso vmi vco vex) := by
  refine XM.of (by decide) (Nat.le_of_ble_eq_true rfl) ?_
  intro p e s m args below meth c A Q F hK hP hD hA hSt hS hQ ls hl
  obtain ⟨hx, hb, hr, hts, hown, hlocks, hml⟩ := F
  have hCF : CallFix p m c cX3_order 3 s args gW RX3 := ⟨hx, hb, hml, hown, hts⟩
  unfold S_X3_order at hs
  have hu := rF_X3_order vso vmi vco vex i1 i2 hu
  unfold RF_X3_order at hu
  obtain ⟨H, eH⟩ : ∃ y9 : Heap, y9 = s.heap := ⟨_, rfl⟩
  obtain ⟨locs, eL⟩ : ∃ y9 : List Loc, y9 = [] := ⟨_, rfl⟩
  rw [← eL] at hS ⊢
  have hP : va_P D vwCl (xw cR ax ar ao ad vrd vtr vsd vrn vom voh vol vop voe vow vok vos vso vmi vco vex) H := by rw [eH]; exact hP
  have hS : va_S A s.heap H locs := by rw [eH]; exact hS
  suffices goal9 : W p l e rm_X3_order s m args below meth c H locs 0 0 Q (F0 m 0 ls []) from by rw [← eH]; exact goal9
  have hl : lv_has ls 3 [(0, .ref (ad i1)), (1, .ref (ad i2))] := hl
  refine lv_aload_n hx hb dX3_order_0 rfl (lv_at hl 0 rfl) ?_
  refine x_V (As := []) (rest := []) hCF (c_X0_side l D cR cI cJ cZ t0 ax ar ao ad vrd vtr vsd vrn vom voh vol vop voe vow vok vos vso vmi vco vex i1 _ rfl hb1) (x_cwV 0 hts (inW_6 _ (List.mem_of_getElem? (i := 2) rfl)) (inW_6 _ (List.mem_of_getElem? (i := 3) rfl)) (inW_6 _ (List.mem_of_getElem? (i := 4) rfl)) (inW_1 _ (List.mem_of_getElem? (i := 16) rfl)) (inW_1 _ (List.mem_of_getElem? (i := 12) rfl)) rfl rfl (by decide +kernel) ⟨Nat.le_of_ble_eq_true rfl, Nat.le_of_ble_eq_true rfl⟩) hK hP hD hS hA hSt (3 + i1) (xw_dat hb1) rfl rfl hl.1 rfl (Nat.le_of_ble_eq_true rfl) dX3_order_1 ⟨Nat.le_of_ble_eq_true rfl, Nat.le_of_ble_eq_true rfl⟩ (fun H locs hP hD hS => ?_)
  show W p l e _ s m args below meth c H locs 0 0 Q (F0 m 4 ls (.int (F_X0_side vso vmi vco i1) :: []))
  refine lv_topi (fun n2 en2 => ?_)
  have hs := hs _ en2
  have hu := hu _ en2
  refine lv_istore_n (lv' := [(2, .int n2), (0, .ref (ad i1)), (1, .ref (ad i2))]) hx hb dX3_order_4 rfl hl (by decide) rfl (fun ls hl => ?_)
  refine lv_iload_n hx hb dX3_order_5 rfl (lv_at hl 0 rfl) ?_
  refine lv_aload_n hx hb dX3_order_6 rfl (lv_at hl 2 rfl) ?_
  refine x_V (As := []) (rest := [.int n2]) hCF (c_X0_side l D cR cI cJ cZ t0 ax ar ao ad vrd vtr vsd vrn vom voh vol vop voe vow vok vos vso vmi vco vex i2 _ rfl hb2) (x_cwV 0 hts (inW_6 _ (List.mem_of_getElem? (i := 2) rfl)) (inW_6 _ (List.mem_of_getElem? (i := 3) rfl)) (inW_6 _ (List.mem_of_getElem? (i := 4) rfl)) (inW_1 _ (List.mem_of_getElem? (i := 16) rfl)) (inW_1 _ (List.mem_of_getElem? (i := 12) rfl)) rfl rfl (by decide +kernel) ⟨Nat.le_of_ble_eq_true rfl, Nat.le_of_ble_eq_true rfl⟩) hK hP hD hS hA hSt (3 + i2) (xw_dat hb2) rfl rfl hl.1 rfl (Nat.le_of_ble_eq_true rfl) dX3_order_7 ⟨Nat.le_of_ble_eq_true rfl, Nat.le_of_ble_eq_true rfl⟩ (fun H locs hP hD hS => ?_)
  show W p l e _ s m args below meth c H locs 0 0 Q (F0 m 10 ls (.int (F_X0_side vso vmi vco i2) :: [.int n2]))
  refine lv_icmp_eq (tgt := 27) hx hb dX3_order_10 (by decide) (fun c_4 => ?_) (fun c_4 => ?_)
  · rw [if_pos c_4] at hs
    rw [if_pos c_4] at hu
    refine lv_iload_n hx hb dX3_order_27 rfl (lv_at hl 0 rfl) ?_
    refine lv_if_ne (tgt := 33) hx hb dX3_order_28 (by decide) (fun c_5 => ?_) (fun c_5 => ?_)
    · rw [if_neg c_5] at hs
      rw [if_neg c_5] at hu
      refine lv_iload_n hx hb dX3_order_33 rfl (lv_at hl 0 rfl) ?_
      refine lv_aload_n hx hb dX3_order_34 rfl (lv_at hl 1 rfl) ?_
      refine lv_aload_n hx hb dX3_order_35 rfl (lv_at hl 2 rfl) ?_
      have h_6 := hs
      refine x_S (As := [.ref (ad i1), .ref (ad i2)]) (rest := [.int n2]) hCF (c_X3_orderOfSizes l D cR cI cJ cZ t0 ax ar ao ad vrd vtr vsd vrn vom voh vol vop voe vow vok vos vso vmi vco vex i1 i2 _ rfl h_6 hb1 hb2) (x_cwS 2 hts (inW_6 _ (List.mem_of_getElem? (i := 5) rfl)) (inW_6 _ (List.mem_of_getElem? (i := 6) rfl)) (inW_1 _ (List.mem_of_getElem? (i := 25) rfl)) (inW_6 _ (List.mem_of_getElem? (i := 7) rfl)) rfl rfl (by decide +kernel) ⟨Nat.le_of_ble_eq_true rfl, Nat.le_of_ble_eq_true rfl⟩) hK hP hD hS hA hSt rfl hl.1 rfl (Nat.le_of_ble_eq_true rfl) dX3_order_36 ⟨Nat.le_of_ble_eq_true rfl, Nat.le_of_ble_eq_true rfl⟩ (fun H locs hP hD hS => ?_)
      show W p l e _ s m args below meth c H locs 0 0 Q (F0 m 39 ls (.int (F_X3_orderOfSizes vso vco vex i1 i2) :: [.int n2]))
      refine lv_imul hx hb dX3_order_39 ?_
      have e9 := Eq.symm hu; subst e9
      exact x_iret hx hb hr hlocks hQ hK hP hD hS rfl rfl dX3_order_40
    · rw [if_pos c_5] at hu
      refine lv_iconst (v := 0) hx hb dX3_order_31 (by decide) ?_
      have e9 := Eq.symm hu; subst e9
      exact x_iret hx hb hr hlocks hQ hK hP hD hS rfl rfl dX3_order_32
  · rw [if_neg c_4] at hu
    refine lv_iload_n hx hb dX3_order_13 rfl (lv_at hl 0 rfl) ?_
    refine lv_aload_n hx hb dX3_order_14 rfl (lv_at hl 2 rfl) ?_
    refine x_V (As := []) (rest := [.int n2]) hCF (c_X0_side l D cR cI cJ cZ t0 ax ar ao ad vrd vtr vsd vrn vom voh vol vop voe vow vok vos vso vmi vco vex i2 _ rfl hb2) (x_cwV 0 hts (inW_6 _ (List.mem_of_getElem? (i := 2) rfl)) (inW_6 _ (List.mem_of_getElem? (i := 3) rfl)) (inW_6 _ (List.mem_of_getElem? (i := 4) rfl)) (inW_1 _ (List.mem_of_getElem? (i := 16) rfl)) (inW_1 _ (List.mem_of_getElem? (i := 12) rfl)) rfl rfl (by decide +kernel) ⟨Nat.le_of_ble_eq_true rfl, Nat.le_of_ble_eq_true rfl⟩) hK hP hD hS hA hSt (3 + i2) (xw_dat hb2) rfl rfl hl.1 rfl (Nat.le_of_ble_eq_true rfl) dX3_order_15 ⟨Nat.le_of_ble_eq_true rfl, Nat.le_of_ble_eq_true rfl⟩ (fun H locs hP hD hS => ?_)
    show W p l e _ s m args below meth c H locs 0 0 Q (F0 m 18 ls (.int (F_X0_side vso vmi vco i2) :: [.int n2]))
    refine lv_icmp_ge (tgt := 25) hx hb dX3_order_18 (by decide) (fun c_9 => ?_) (fun c_9 => ?_)
    · rw [if_pos c_9] at hu
      refine lv_iconst (v := 1) hx hb dX3_order_25 (by decide) ?_
      have e9 := Eq.symm hu; subst e9
      exact x_iret hx hb hr hlocks hQ hK hP hD hS rfl rfl dX3_order_26
    · rw [if_neg c_9] at hu
      refine lv_iconst (v := (-1)) hx hb dX3_order_21 (by decide) ?_
      refine lv_goto (tgt := 26) hx hb dX3_order_22 (by decide) ?_
      have e9 := Eq.symm hu; subst e9
      exact x_iret hx hb hr hlocks hQ hK hP hD hS rfl rfl dX3_order_26
end
section
def F_X1_isZero (voh : Int64) (vol : Int64) (voe : Bool)  : Bool := (if voh = 0 then (if vol = 0 then (if voe = true then false else true) else false) else false)
def RF_X1_isZero (voh : Int64) (vol : Int64) (voe : Bool)  (u9 : Bool) : Prop := (if voh = 0 then (if vol = 0 then (if voe = true then u9 = false else u9 = true) else u9 = false) else u9 = false)
theorem rF_X1_isZero (voh : Int64) (vol : Int64) (voe : Bool)  {u9 : Bool} (hu : u9 = F_X1_isZero voh vol voe) : RF_X1_isZero voh vol voe u9 := by
  unfold RF_X1_isZero
  refine ite_P (fun c_1 => ?_) (fun c_1 => ?_)
  · have hu := hu.trans (if_pos c_1)
    refine ite_P (fun c_2 => ?_) (fun c_2 => ?_)
    · have hu := hu.trans (if_pos c_2)
      refine ite_P (fun c_3 => ?_) (fun c_3 => ?_)
      · have hu := hu.trans (if_pos c_3)
        exact hu
      · have hu := hu.trans (if_neg c_3)
        exact hu
    · have hu := hu.trans (if_neg c_2)
      exact hu
  · have hu := hu.trans (if_neg c_1)
    exact hu
def rm_X1_isZero : Room := { frames := 0, cells := 0, slots := 0, locals := 0 }
set_option maxHeartbeats 4000000 in
set_option maxRecDepth 100000 in
theorem c_X1_isZero (l : Launch) (D : va_G) (cR cI cJ cZ : ClassId) (t0 : Nat) (ax ar ao : Nat) (ad : Nat → Nat) (vrd : Int32) (vtr : Int32) (vsd : Int32) (vrn : Int32) (vom : Bool) (voh : Int64) (vol : Int64) (vop : Int32) (voe : Bool) (vow : Int32) (vok : Int64) (vos : Int32) (vso : Nat → Int32) (vmi : Nat → Bool) (vco : Nat → Int64) (vex : Nat → Int32)  (u : Bool) (hu : u = F_X1_isZero voh vol voe) : XM l D (xty cR cI cJ cZ) t0 yX1_isZero cX1_isZero 1 (some .boolean) rm_X1_isZero [.ref ao] (some (.int (bI u))) (xw cR ax ar ao ad vrd vtr vsd vrn vom voh vol vop voe vow vok vos vso vmi vco vex) (xw cR ax ar ao ad vrd vtr vsd vrn vom voh vol vop voe vow vok vos vso vmi vco vex) := by
  refine XM.of (by decide) (Nat.le_of_ble_eq_true rfl) ?_
  intro p e s m args below meth c A Q F hK hP hD hA hSt hS hQ ls hl
  obtain ⟨hx, hb, hr, hts, hown, hlocks, hml⟩ := F
  have hCF : CallFix p m c cX1_isZero 1 s args gW RX1 := ⟨hx, hb, hml, hown, hts⟩
  have hu := rF_X1_isZero voh vol voe hu
  unfold RF_X1_isZero at hu
  obtain ⟨H, eH⟩ : ∃ y9 : Heap, y9 = s.heap := ⟨_, rfl⟩
  obtain ⟨locs, eL⟩ : ∃ y9 : List Loc, y9 = [] := ⟨_, rfl⟩
  rw [← eL] at hS ⊢
  have hP : va_P D vwCl (xw cR ax ar ao ad vrd vtr vsd vrn vom voh vol vop voe vow vok vos vso vmi vco vex) H := by rw [eH]; exact hP
  have hS : va_S A s.heap H locs := by rw [eH]; exact hS
  suffices goal9 : W p l e rm_X1_isZero s m args below meth c H locs 0 0 Q (F0 m 0 ls []) from by rw [← eH]; exact goal9
  have hl : lv_has ls 1 [(0, .ref ao)] := hl
  have hi1 : ∀ w ∈ wsX10, w ∈ gW := inW_X1
  refine lv_aload_n hx hb dX1_isZero_0 rfl (lv_at hl 0 rfl) ?_
  refine va_get (D := D) (ci := 3) (v := .long voh) (C := RX1) (T := TX1) (N := 8) hx hb hts hi1 hown hK hP 2 rfl rfl 1 (by decide) (hts (.fieldLink RX1 9 "DecimalWords$Outcome" "high" "J") (inW_1 _ (List.mem_of_getElem? (i := 20) rfl))) (fun _ h9 => h9) rfl dX1_isZero_1 ?_
  refine lv_lconst (v := 0) hx hb dX1_isZero_4 (by decide) ?_
  refine xl_ne (tgt := 29) hx hb dX1_isZero_5 dX1_isZero_6 (by decide) (fun c_1 => ?_) (fun c_1 => ?_)
  · rw [if_neg c_1] at hu
    refine lv_iconst (v := 0) hx hb dX1_isZero_29 (by decide) ?_
    have e9 := Eq.symm hu; subst e9
    exact x_zret (v := false) hx hb hr hlocks hQ hK hP hD hS rfl rfl dX1_isZero_30
  · rw [if_pos c_1] at hu
    refine lv_aload_n hx hb dX1_isZero_9 rfl (lv_at hl 0 rfl) ?_
    refine va_get (D := D) (ci := 3) (v := .long vol) (C := RX1) (T := TX1) (N := 8) hx hb hts hi1 hown hK hP 2 rfl rfl 2 (by decide) (hts (.fieldLink RX1 15 "DecimalWords$Outcome" "low" "J") (inW_1 _ (List.mem_of_getElem? (i := 21) rfl))) (fun _ h9 => h9) rfl dX1_isZero_10 ?_
    refine lv_lconst (v := 0) hx hb dX1_isZero_13 (by decide) ?_
    refine xl_ne (tgt := 29) hx hb dX1_isZero_14 dX1_isZero_15 (by decide) (fun c_2 => ?_) (fun c_2 => ?_)
    · rw [if_neg c_2] at hu
      refine lv_iconst (v := 0) hx hb dX1_isZero_29 (by decide) ?_
      have e9 := Eq.symm hu; subst e9
      exact x_zret (v := false) hx hb hr hlocks hQ hK hP hD hS rfl rfl dX1_isZero_30
    · rw [if_pos c_2] at hu
      refine lv_aload_n hx hb dX1_isZero_18 rfl (lv_at hl 0 rfl) ?_
      refine va_get (D := D) (ci := 3) (v := .int (bI voe)) (C := RX1) (T := TX1) (N := 8) hx hb hts hi1 hown hK hP 2 rfl rfl 4 (by decide) (hts (.fieldLink RX1 18 "DecimalWords$Outcome" "more" "Z") (inW_1 _ (List.mem_of_getElem? (i := 22) rfl))) (fun _ h9 => h9) rfl dX1_isZero_19 ?_
      refine xb_ne (tgt := 29) hx hb dX1_isZero_22 (by decide) (fun c_3 => ?_) (fun c_3 => ?_)
      · rw [if_pos c_3] at hu
        refine lv_iconst (v := 0) hx hb dX1_isZero_29 (by decide) ?_
        have e9 := Eq.symm hu; subst e9
        exact x_zret (v := false) hx hb hr hlocks hQ hK hP hD hS rfl rfl dX1_isZero_30
      · rw [if_neg c_3] at hu
        refine lv_iconst (v := 1) hx hb dX1_isZero_25 (by decide) ?_
        refine lv_goto (tgt := 30) hx hb dX1_isZero_26 (by decide) ?_
        have e9 := Eq.symm hu; subst e9
        exact x_zret (v := true) hx hb hr hlocks hQ hK hP hD hS rfl rfl dX1_isZero_30

def F_X1_digits (voh : Int64) (vol : Int64)  : Int32 := (if voh = 0 then F_X3_digitsOf vol else 16 + (F_X3_digitsOf voh))
def RF_X1_digits (voh : Int64) (vol : Int64)  (u9 : Int32) : Prop := (if voh = 0 then u9 = F_X3_digitsOf vol else u9 = 16 + (F_X3_digitsOf voh))
theorem rF_X1_digits (voh : Int64) (vol : Int64)  {u9 : Int32} (hu : u9 = F_X1_digits voh vol) : RF_X1_digits voh vol u9 := by
  unfold RF_X1_digits
  refine ite_P (fun c_1 => ?_) (fun c_1 => ?_)
  · have hu := hu.trans (if_pos c_1)
    exact hu
  · have hu := hu.trans (if_neg c_1)
    exact hu
def S_X1_digits (voh : Int64) (vol : Int64)  : Prop := (if voh = 0 then S_X3_digitsOf vol else S_X3_digitsOf voh)
def rm_X1_digits : Room := { frames := 1, cells := 0, slots := 0, locals := 22 }
set_option maxHeartbeats 4000000 in
set_option maxRecDepth 100000 in
theorem c_X1_digits (l : Launch) (D : va_G) (cR cI cJ cZ : ClassId) (t0 : Nat) (ax ar ao : Nat) (ad : Nat → Nat) (vrd : Int32) (vtr : Int32) (vsd : Int32) (vrn : Int32) (vom : Bool) (voh : Int64) (vol : Int64) (vop : Int32) (voe : Bool) (vow : Int32) (vok : Int64) (vos : Int32) (vso : Nat → Int32) (vmi : Nat → Bool) (vco : Nat → Int64) (vex : Nat → Int32)  (u : Int32) (hu : u = F_X1_digits voh vol) (hs : S_X1_digits voh vol) : XM l D (xty cR cI cJ cZ) t0 yX1_digits cX1_digits 1 (some .int) rm_X1_digits [.ref ao] (some (.int u)) (xw cR ax ar ao ad vrd vtr vsd vrn vom voh vol vop voe vow vok vos vso vmi vco vex) (xw cR ax ar ao ad vrd vtr vsd vrn vom voh vol vop voe vow vok vos vso vmi vco vex) := by
  refine XM.of (by decide) (Nat.le_of_ble_eq_true rfl) ?_
  intro p e s m args below meth c A Q F hK hP hD hA hSt hS hQ ls hl
  obtain ⟨hx, hb, hr, hts, hown, hlocks, hml⟩ := F
  have hCF : CallFix p m c cX1_digits 1 s args gW RX1 := ⟨hx, hb, hml, hown, hts⟩
  unfold S_X1_digits at hs
  have hu := rF_X1_digits voh vol hu
  unfold RF_X1_digits at hu
  obtain ⟨H, eH⟩ : ∃ y9 : Heap, y9 = s.heap := ⟨_, rfl⟩
  obtain ⟨locs, eL⟩ : ∃ y9 : List Loc, y9 = [] := ⟨_, rfl⟩
  rw [← eL] at hS ⊢
  have hP : va_P D vwCl (xw cR ax ar ao ad vrd vtr vsd vrn vom voh vol vop voe vow vok vos vso vmi vco vex) H := by rw [eH]; exact hP
  have hS : va_S A s.heap H locs := by rw [eH]; exact hS
  suffices goal9 : W p l e rm_X1_digits s m args below meth c H locs 0 0 Q (F0 m 0 ls []) from by rw [← eH]; exact goal9
  have hl : lv_has ls 1 [(0, .ref ao)] := hl
  have hi1 : ∀ w ∈ wsX10, w ∈ gW := inW_X1
  refine lv_aload_n hx hb dX1_digits_0 rfl (lv_at hl 0 rfl) ?_
  refine va_get (D := D) (ci := 3) (v := .long voh) (C := RX1) (T := TX1) (N := 8) hx hb hts hi1 hown hK hP 2 rfl rfl 1 (by decide) (hts (.fieldLink RX1 9 "DecimalWords$Outcome" "high" "J") (inW_1 _ (List.mem_of_getElem? (i := 20) rfl))) (fun _ h9 => h9) rfl dX1_digits_1 ?_
  refine lv_lconst (v := 0) hx hb dX1_digits_4 (by decide) ?_
  refine xl_eq (tgt := 22) hx hb dX1_digits_5 dX1_digits_6 (by decide) (fun c_1 => ?_) (fun c_1 => ?_)
  · rw [if_pos c_1] at hs
    rw [if_pos c_1] at hu
    refine lv_aload_n hx hb dX1_digits_22 rfl (lv_at hl 0 rfl) ?_
    refine va_get (D := D) (ci := 3) (v := .long vol) (C := RX1) (T := TX1) (N := 8) hx hb hts hi1 hown hK hP 2 rfl rfl 2 (by decide) (hts (.fieldLink RX1 15 "DecimalWords$Outcome" "low" "J") (inW_1 _ (List.mem_of_getElem? (i := 21) rfl))) (fun _ h9 => h9) rfl dX1_digits_23 ?_
    have h_2 := hs
    refine x_SN (As := [.long vol]) (rest := []) hCF (c_X3_digitsOf l D cR cI cJ cZ t0 (xw cR ax ar ao ad vrd vtr vsd vrn vom voh vol vop voe vow vok vos vso vmi vco vex) vol _ rfl h_2) (x_cwN 1 hts hSt.2.2.1 (inW_1 _ (List.mem_of_getElem? (i := 24) rfl)) (inW_1 _ (List.mem_of_getElem? (i := 25) rfl)) (inW_1 _ (List.mem_of_getElem? (i := 26) rfl)) rfl rfl (by decide +kernel) ⟨Nat.le_of_ble_eq_true rfl, Nat.le_of_ble_eq_true rfl⟩) hK hP hD hS hA hSt rfl hl.1 rfl (Nat.le_of_ble_eq_true rfl) dX1_digits_26 ⟨Nat.le_of_ble_eq_true rfl, Nat.le_of_ble_eq_true rfl⟩ (fun H locs hP hD hS => ?_)
    show W p l e _ s m args below meth c H locs 0 0 Q (F0 m 29 ls (.int (F_X3_digitsOf vol) :: []))
    have e9 := Eq.symm hu; subst e9
    exact x_iret hx hb hr hlocks hQ hK hP hD hS rfl rfl dX1_digits_29
  · rw [if_neg c_1] at hs
    rw [if_neg c_1] at hu
    refine lv_bipush (v := 16) hx hb dX1_digits_9 (by decide) ?_
    refine lv_aload_n hx hb dX1_digits_11 rfl (lv_at hl 0 rfl) ?_
    refine va_get (D := D) (ci := 3) (v := .long voh) (C := RX1) (T := TX1) (N := 8) hx hb hts hi1 hown hK hP 2 rfl rfl 1 (by decide) (hts (.fieldLink RX1 9 "DecimalWords$Outcome" "high" "J") (inW_1 _ (List.mem_of_getElem? (i := 20) rfl))) (fun _ h9 => h9) rfl dX1_digits_12 ?_
    have h_4 := hs
    refine x_SN (As := [.long voh]) (rest := [.int 16]) hCF (c_X3_digitsOf l D cR cI cJ cZ t0 (xw cR ax ar ao ad vrd vtr vsd vrn vom voh vol vop voe vow vok vos vso vmi vco vex) voh _ rfl h_4) (x_cwN 1 hts hSt.2.2.1 (inW_1 _ (List.mem_of_getElem? (i := 24) rfl)) (inW_1 _ (List.mem_of_getElem? (i := 25) rfl)) (inW_1 _ (List.mem_of_getElem? (i := 26) rfl)) rfl rfl (by decide +kernel) ⟨Nat.le_of_ble_eq_true rfl, Nat.le_of_ble_eq_true rfl⟩) hK hP hD hS hA hSt rfl hl.1 rfl (Nat.le_of_ble_eq_true rfl) dX1_digits_15 ⟨Nat.le_of_ble_eq_true rfl, Nat.le_of_ble_eq_true rfl⟩ (fun H locs hP hD hS => ?_)
    show W p l e _ s m args below meth c H locs 0 0 Q (F0 m 18 ls (.int (F_X3_digitsOf voh) :: [.int 16]))
    refine lv_iadd hx hb dX1_digits_18 ?_
    refine lv_goto (tgt := 29) hx hb dX1_digits_19 (by decide) ?_
    have e9 := Eq.symm hu; subst e9
    exact x_iret hx hb hr hlocks hQ hK hP hD hS rfl rfl dX1_digits_29

def F_X1_setWhole (vmi : Nat → Bool) (vco : Nat → Int64) (vex : Nat → Int32) (i1 : Nat) : Bool × Int64 × Int64 × Int32 × Bool := (bnd (vmi i1) (fun f1 : Bool => (bnd (vco i1) (fun f4 : Int64 => (bnd (vex i1) (fun f6 : Int32 => (f1, 0, f4, f6, false)))))))
def RF_X1_setWhole (vmi : Nat → Bool) (vco : Nat → Int64) (vex : Nat → Int32) (i1 : Nat) (u9 : Bool × Int64 × Int64 × Int32 × Bool) : Prop := (∀ f1 : Bool, f1 = vmi i1 → (∀ f4 : Int64, f4 = vco i1 → (∀ f6 : Int32, f6 = vex i1 → u9 = (f1, 0, f4, f6, false))))
theorem rF_X1_setWhole (vmi : Nat → Bool) (vco : Nat → Int64) (vex : Nat → Int32) (i1 : Nat) {u9 : Bool × Int64 × Int64 × Int32 × Bool} (hu : u9 = F_X1_setWhole vmi vco vex i1) : RF_X1_setWhole vmi vco vex i1 u9 := by
  unfold RF_X1_setWhole
  intro f1 ef1
  have hu := bnd_n hu ef1
  intro f4 ef4
  have hu := bnd_n hu ef4
  intro f6 ef6
  have hu := bnd_n hu ef6
  exact hu
def rm_X1_setWhole : Room := { frames := 0, cells := 0, slots := 0, locals := 0 }
set_option maxHeartbeats 4000000 in
set_option maxRecDepth 100000 in
theorem c_X1_setWhole (l : Launch) (D : va_G) (cR cI cJ cZ : ClassId) (t0 : Nat) (ax ar ao : Nat) (ad : Nat → Nat) (vrd : Int32) (vtr : Int32) (vsd : Int32) (vrn : Int32) (vom : Bool) (voh : Int64) (vol : Int64) (vop : Int32) (voe : Bool) (vow : Int32) (vok : Int64) (vos : Int32) (vso : Nat → Int32) (vmi : Nat → Bool) (vco : Nat → Int64) (vex : Nat → Int32) (i1 : Nat) (u : Bool × Int64 × Int64 × Int32 × Bool) (hu : u = F_X1_setWhole vmi vco vex i1) (hb1 : i1 < 9) : XM l D (xty cR cI cJ cZ) t0 yX1_setWhole cX1_setWhole 2 none rm_X1_setWhole [.ref ao, .ref (ad i1)] none (xw cR ax ar ao ad vrd vtr vsd vrn vom voh vol vop voe vow vok vos vso vmi vco vex) (xw cR ax ar ao ad vrd vtr vsd vrn u.1 u.2.1 u.2.2.1 u.2.2.2.1 u.2.2.2.2 vow vok vos vso vmi vco vex) := by
  refine XM.of (by decide) (Nat.le_of_ble_eq_true rfl) ?_
  intro p e s m args below meth c A Q F hK hP hD hA hSt hS hQ ls hl
  obtain ⟨hx, hb, hr, hts, hown, hlocks, hml⟩ := F
  have hCF : CallFix p m c cX1_setWhole 2 s args gW RX1 := ⟨hx, hb, hml, hown, hts⟩
  have hu := rF_X1_setWhole vmi vco vex i1 hu
  unfold RF_X1_setWhole at hu
  obtain ⟨H, eH⟩ : ∃ y9 : Heap, y9 = s.heap := ⟨_, rfl⟩
  obtain ⟨locs, eL⟩ : ∃ y9 : List Loc, y9 = [] := ⟨_, rfl⟩
  rw [← eL] at hS ⊢
  have hP : va_P D vwCl (xw cR ax ar ao ad vrd vtr vsd vrn vom voh vol vop voe vow vok vos vso vmi vco vex) H := by rw [eH]; exact hP
  have hS : va_S A s.heap H locs := by rw [eH]; exact hS
  suffices goal9 : W p l e rm_X1_setWhole s m args below meth c H locs 0 0 Q (F0 m 0 ls []) from by rw [← eH]; exact goal9
  have hl : lv_has ls 2 [(0, .ref ao), (1, .ref (ad i1))] := hl
  have hi0 : ∀ w ∈ wsX00, w ∈ gW := inW_X0
  have hi1 : ∀ w ∈ wsX10, w ∈ gW := inW_X1
  refine lv_aload_n hx hb dX1_setWhole_0 rfl (lv_at hl 0 rfl) ?_
  refine lv_aload_n hx hb dX1_setWhole_1 rfl (lv_at hl 1 rfl) ?_
  refine g_mi (i := i1) hx hb hts hi0 hown hK hP hb1 (hts (.fieldLink RX1 26 "DecimalWords$Datum" "minus" "Z") (inW_1 _ (List.mem_of_getElem? (i := 29) rfl))) dX1_setWhole_2 ?_
  refine x_topb (fun f1 ef1 => ?_)
  have hu := hu _ ef1
  refine va_put (D := D) (ci := 3) (v := .int (bI f1)) (ty := .boolean) (C := RX1) (T := TX1) (N := 8) hx hb hts hi1 tyX1 tyX1_ok nmX1 hown hK hP hD hS 2 rfl rfl 0 (by decide) (hts (.fieldLink RX1 31 "DecimalWords$Outcome" "minus" "Z") (inW_1 _ (List.mem_of_getElem? (i := 30) rfl))) (fun _ h9 => h9) rfl (by decide +kernel) (bI_nar f1) (bI_fit f1) (Nat.le_of_ble_eq_true rfl) dX1_setWhole_5 (fun H locs hP hD hS => ?_)
  have hP : va_P D vwCl (xw cR ax ar ao ad vrd vtr vsd vrn f1 voh vol vop voe vow vok vos vso vmi vco vex) H := hP
  have hD : va_D A (xw cR ax ar ao ad vrd vtr vsd vrn f1 voh vol vop voe vow vok vos vso vmi vco vex) := hD
  refine lv_aload_n hx hb dX1_setWhole_8 rfl (lv_at hl 0 rfl) ?_
  refine lv_lconst (v := 0) hx hb dX1_setWhole_9 (by decide) ?_
  refine va_put (D := D) (ci := 3) (v := .long 0) (ty := .long) (C := RX1) (T := TX1) (N := 8) hx hb hts hi1 tyX1 tyX1_ok nmX1 hown hK hP hD hS 2 rfl rfl 1 (by decide) (hts (.fieldLink RX1 9 "DecimalWords$Outcome" "high" "J") (inW_1 _ (List.mem_of_getElem? (i := 20) rfl))) (fun _ h9 => h9) rfl (by decide +kernel) rfl rfl (Nat.le_of_ble_eq_true rfl) dX1_setWhole_10 (fun H locs hP hD hS => ?_)
  have hP : va_P D vwCl (xw cR ax ar ao ad vrd vtr vsd vrn f1 0 vol vop voe vow vok vos vso vmi vco vex) H := hP
  have hD : va_D A (xw cR ax ar ao ad vrd vtr vsd vrn f1 0 vol vop voe vow vok vos vso vmi vco vex) := hD
  refine lv_aload_n hx hb dX1_setWhole_13 rfl (lv_at hl 0 rfl) ?_
  refine lv_aload_n hx hb dX1_setWhole_14 rfl (lv_at hl 1 rfl) ?_
  refine g_co (i := i1) hx hb hts hi0 hown hK hP hb1 (hts (.fieldLink RX1 32 "DecimalWords$Datum" "coefficient" "J") (inW_1 _ (List.mem_of_getElem? (i := 31) rfl))) dX1_setWhole_15 ?_
  refine lv_topl (fun f4 ef4 => ?_)
  have hu := hu _ ef4
  refine va_put (D := D) (ci := 3) (v := .long f4) (ty := .long) (C := RX1) (T := TX1) (N := 8) hx hb hts hi1 tyX1 tyX1_ok nmX1 hown hK hP hD hS 2 rfl rfl 2 (by decide) (hts (.fieldLink RX1 15 "DecimalWords$Outcome" "low" "J") (inW_1 _ (List.mem_of_getElem? (i := 21) rfl))) (fun _ h9 => h9) rfl (by decide +kernel) rfl rfl (Nat.le_of_ble_eq_true rfl) dX1_setWhole_18 (fun H locs hP hD hS => ?_)
  have hP : va_P D vwCl (xw cR ax ar ao ad vrd vtr vsd vrn f1 0 f4 vop voe vow vok vos vso vmi vco vex) H := hP
  have hD : va_D A (xw cR ax ar ao ad vrd vtr vsd vrn f1 0 f4 vop voe vow vok vos vso vmi vco vex) := hD
  refine lv_aload_n hx hb dX1_setWhole_21 rfl (lv_at hl 0 rfl) ?_
  refine lv_aload_n hx hb dX1_setWhole_22 rfl (lv_at hl 1 rfl) ?_
  refine g_ex (i := i1) hx hb hts hi0 hown hK hP hb1 (hts (.fieldLink RX1 35 "DecimalWords$Datum" "exponent" "I") (inW_1 _ (List.mem_of_getElem? (i := 32) rfl))) dX1_setWhole_23 ?_
  refine lv_topi (fun f6 ef6 => ?_)
  have hu := hu _ ef6
  refine va_put (D := D) (ci := 3) (v := .int f6) (ty := .int) (C := RX1) (T := TX1) (N := 8) hx hb hts hi1 tyX1 tyX1_ok nmX1 hown hK hP hD hS 2 rfl rfl 3 (by decide) (hts (.fieldLink RX1 39 "DecimalWords$Outcome" "power" "I") (inW_1 _ (List.mem_of_getElem? (i := 33) rfl))) (fun _ h9 => h9) rfl (by decide +kernel) rfl rfl (Nat.le_of_ble_eq_true rfl) dX1_setWhole_26 (fun H locs hP hD hS => ?_)
  have hP : va_P D vwCl (xw cR ax ar ao ad vrd vtr vsd vrn f1 0 f4 f6 voe vow vok vos vso vmi vco vex) H := hP
  have hD : va_D A (xw cR ax ar ao ad vrd vtr vsd vrn f1 0 f4 f6 voe vow vok vos vso vmi vco vex) := hD
  refine lv_aload_n hx hb dX1_setWhole_29 rfl (lv_at hl 0 rfl) ?_
  refine lv_iconst (v := 0) hx hb dX1_setWhole_30 (by decide) ?_
  refine va_put (D := D) (ci := 3) (v := .int (bI false)) (ty := .boolean) (C := RX1) (T := TX1) (N := 8) hx hb hts hi1 tyX1 tyX1_ok nmX1 hown hK hP hD hS 2 rfl rfl 4 (by decide) (hts (.fieldLink RX1 18 "DecimalWords$Outcome" "more" "Z") (inW_1 _ (List.mem_of_getElem? (i := 22) rfl))) (fun _ h9 => h9) rfl (by decide +kernel) (bI_nar false) (bI_fit false) (Nat.le_of_ble_eq_true rfl) dX1_setWhole_31 (fun H locs hP hD hS => ?_)
  have hP : va_P D vwCl (xw cR ax ar ao ad vrd vtr vsd vrn f1 0 f4 f6 false vow vok vos vso vmi vco vex) H := hP
  have hD : va_D A (xw cR ax ar ao ad vrd vtr vsd vrn f1 0 f4 f6 false vow vok vos vso vmi vco vex) := hD
  have e9 := Eq.symm hu; subst e9
  exact x_vret hx hb hr hlocks hQ hK hP hD hS rfl dX1_setWhole_34

def F_X1_addToLow (voh : Int64) (vol : Int64) (p0 : Int64) : Int64 × Int64 := (bnd (vol + p0) (fun f1 : Int64 => (if f1 < 10000000000000000 then (if 0 ≤ f1 then (voh, f1) else (bnd (f1 + 10000000000000000) (fun f5 : Int64 => (bnd (voh - 1) (fun f7 : Int64 => (f7, f5)))))) else (bnd (f1 - 10000000000000000) (fun f9 : Int64 => (bnd (voh + 1) (fun f11 : Int64 => (f11, f9))))))))
def RF_X1_addToLow (voh : Int64) (vol : Int64) (p0 : Int64) (u9 : Int64 × Int64) : Prop := (∀ f1 : Int64, f1 = vol + p0 → (if f1 < 10000000000000000 then (if 0 ≤ f1 then u9 = (voh, f1) else (∀ f5 : Int64, f5 = f1 + 10000000000000000 → (∀ f7 : Int64, f7 = voh - 1 → u9 = (f7, f5)))) else (∀ f9 : Int64, f9 = f1 - 10000000000000000 → (∀ f11 : Int64, f11 = voh + 1 → u9 = (f11, f9)))))
theorem rF_X1_addToLow (voh : Int64) (vol : Int64) (p0 : Int64) {u9 : Int64 × Int64} (hu : u9 = F_X1_addToLow voh vol p0) : RF_X1_addToLow voh vol p0 u9 := by
  unfold RF_X1_addToLow
  intro f1 ef1
  have hu := bnd_n hu ef1
  refine ite_P (fun c_3 => ?_) (fun c_3 => ?_)
  · have hu := hu.trans (if_pos c_3)
    refine ite_P (fun c_4 => ?_) (fun c_4 => ?_)
    · have hu := hu.trans (if_pos c_4)
      exact hu
    · have hu := hu.trans (if_neg c_4)
      intro f5 ef5
      have hu := bnd_n hu ef5
      intro f7 ef7
      have hu := bnd_n hu ef7
      exact hu
  · have hu := hu.trans (if_neg c_3)
    intro f9 ef9
    have hu := bnd_n hu ef9
    intro f11 ef11
    have hu := bnd_n hu ef11
    exact hu
def rm_X1_addToLow : Room := { frames := 0, cells := 0, slots := 0, locals := 0 }
set_option maxHeartbeats 4000000 in
set_option maxRecDepth 100000 in
theorem c_X1_addToLow (l : Launch) (D : va_G) (cR cI cJ cZ : ClassId) (t0 : Nat) (ax ar ao : Nat) (ad : Nat → Nat) (vrd : Int32) (vtr : Int32) (vsd : Int32) (vrn : Int32) (vom : Bool) (voh : Int64) (vol : Int64) (vop : Int32) (voe : Bool) (vow : Int32) (vok : Int64) (vos : Int32) (vso : Nat → Int32) (vmi : Nat → Bool) (vco : Nat → Int64) (vex : Nat → Int32) (p0 : Int64) (u : Int64 × Int64) (hu : u = F_X1_addToLow voh vol p0) : XM l D (xty cR cI cJ cZ) t0 yX1_addToLow cX1_addToLow 3 none rm_X1_addToLow [.ref ao, .long p0] none (xw cR ax ar ao ad vrd vtr vsd vrn vom voh vol vop voe vow vok vos vso vmi vco vex) (xw cR ax ar ao ad vrd vtr vsd vrn vom u.1 u.2 vop voe vow vok vos vso vmi vco vex) := by
  refine XM.of (by decide) (Nat.le_of_ble_eq_true rfl) ?_
  intro p e s m args below meth c A Q F hK hP hD hA hSt hS hQ ls hl
  obtain ⟨hx, hb, hr, hts, hown, hlocks, hml⟩ := F
  have hCF : CallFix p m c cX1_addToLow 3 s args gW RX1 := ⟨hx, hb, hml, hown, hts⟩
  have hu := rF_X1_addToLow voh vol p0 hu
  unfold RF_X1_addToLow at hu
  obtain ⟨H, eH⟩ : ∃ y9 : Heap, y9 = s.heap := ⟨_, rfl⟩
  obtain ⟨locs, eL⟩ : ∃ y9 : List Loc, y9 = [] := ⟨_, rfl⟩
  rw [← eL] at hS ⊢
  have hP : va_P D vwCl (xw cR ax ar ao ad vrd vtr vsd vrn vom voh vol vop voe vow vok vos vso vmi vco vex) H := by rw [eH]; exact hP
  have hS : va_S A s.heap H locs := by rw [eH]; exact hS
  suffices goal9 : W p l e rm_X1_addToLow s m args below meth c H locs 0 0 Q (F0 m 0 ls []) from by rw [← eH]; exact goal9
  have hl : lv_has ls 3 [(0, .ref ao), (1, .long p0)] := hl
  have hi1 : ∀ w ∈ wsX10, w ∈ gW := inW_X1
  refine lv_aload_n hx hb dX1_addToLow_0 rfl (lv_at hl 0 rfl) ?_
  refine lv_dup hx hb dX1_addToLow_1 rfl ?_
  refine va_get (D := D) (ci := 3) (v := .long vol) (C := RX1) (T := TX1) (N := 8) hx hb hts hi1 hown hK hP 2 rfl rfl 2 (by decide) (hts (.fieldLink RX1 15 "DecimalWords$Outcome" "low" "J") (inW_1 _ (List.mem_of_getElem? (i := 21) rfl))) (fun _ h9 => h9) rfl dX1_addToLow_2 ?_
  refine lv_lload_n hx hb dX1_addToLow_5 rfl (lv_at hl 1 rfl) ?_
  refine lv_ladd hx hb dX1_addToLow_6 ?_
  refine lv_topl (fun f1 ef1 => ?_)
  have hu := hu _ ef1
  refine va_put (D := D) (ci := 3) (v := .long f1) (ty := .long) (C := RX1) (T := TX1) (N := 8) hx hb hts hi1 tyX1 tyX1_ok nmX1 hown hK hP hD hS 2 rfl rfl 2 (by decide) (hts (.fieldLink RX1 15 "DecimalWords$Outcome" "low" "J") (inW_1 _ (List.mem_of_getElem? (i := 21) rfl))) (fun _ h9 => h9) rfl (by decide +kernel) rfl rfl (Nat.le_of_ble_eq_true rfl) dX1_addToLow_7 (fun H locs hP hD hS => ?_)
  have hP : va_P D vwCl (xw cR ax ar ao ad vrd vtr vsd vrn vom voh f1 vop voe vow vok vos vso vmi vco vex) H := hP
  have hD : va_D A (xw cR ax ar ao ad vrd vtr vsd vrn vom voh f1 vop voe vow vok vos vso vmi vco vex) := hD
  refine lv_aload_n hx hb dX1_addToLow_10 rfl (lv_at hl 0 rfl) ?_
  refine va_get (D := D) (ci := 3) (v := .long f1) (C := RX1) (T := TX1) (N := 8) hx hb hts hi1 hown hK hP 2 rfl rfl 2 (by decide) (hts (.fieldLink RX1 15 "DecimalWords$Outcome" "low" "J") (inW_1 _ (List.mem_of_getElem? (i := 21) rfl))) (fun _ h9 => h9) rfl dX1_addToLow_11 ?_
  refine lv_ldc2 (v := 10000000000000000) hx hb hown (hts (.constantLong RX1 72 (10000000000000000)) (inW_2 _ (List.mem_of_getElem? (i := 19) rfl))) dX1_addToLow_14 ?_
  refine xl_lt (tgt := 46) hx hb dX1_addToLow_17 dX1_addToLow_18 (by decide) (fun c_3 => ?_) (fun c_3 => ?_)
  · rw [if_pos c_3] at hu
    refine lv_aload_n hx hb dX1_addToLow_46 rfl (lv_at hl 0 rfl) ?_
    refine va_get (D := D) (ci := 3) (v := .long f1) (C := RX1) (T := TX1) (N := 8) hx hb hts hi1 hown hK hP 2 rfl rfl 2 (by decide) (hts (.fieldLink RX1 15 "DecimalWords$Outcome" "low" "J") (inW_1 _ (List.mem_of_getElem? (i := 21) rfl))) (fun _ h9 => h9) rfl dX1_addToLow_47 ?_
    refine lv_lconst (v := 0) hx hb dX1_addToLow_50 (by decide) ?_
    refine xl_ge (tgt := 77) hx hb dX1_addToLow_51 dX1_addToLow_52 (by decide) (fun c_4 => ?_) (fun c_4 => ?_)
    · rw [if_pos c_4] at hu
      have e9 := Eq.symm hu; subst e9
      exact x_vret hx hb hr hlocks hQ hK hP hD hS rfl dX1_addToLow_77
    · rw [if_neg c_4] at hu
      refine lv_aload_n hx hb dX1_addToLow_55 rfl (lv_at hl 0 rfl) ?_
      refine lv_dup hx hb dX1_addToLow_56 rfl ?_
      refine va_get (D := D) (ci := 3) (v := .long f1) (C := RX1) (T := TX1) (N := 8) hx hb hts hi1 hown hK hP 2 rfl rfl 2 (by decide) (hts (.fieldLink RX1 15 "DecimalWords$Outcome" "low" "J") (inW_1 _ (List.mem_of_getElem? (i := 21) rfl))) (fun _ h9 => h9) rfl dX1_addToLow_57 ?_
      refine lv_ldc2 (v := 10000000000000000) hx hb hown (hts (.constantLong RX1 72 (10000000000000000)) (inW_2 _ (List.mem_of_getElem? (i := 19) rfl))) dX1_addToLow_60 ?_
      refine lv_ladd hx hb dX1_addToLow_63 ?_
      refine lv_topl (fun f5 ef5 => ?_)
      have hu := hu _ ef5
      refine va_put (D := D) (ci := 3) (v := .long f5) (ty := .long) (C := RX1) (T := TX1) (N := 8) hx hb hts hi1 tyX1 tyX1_ok nmX1 hown hK hP hD hS 2 rfl rfl 2 (by decide) (hts (.fieldLink RX1 15 "DecimalWords$Outcome" "low" "J") (inW_1 _ (List.mem_of_getElem? (i := 21) rfl))) (fun _ h9 => h9) rfl (by decide +kernel) rfl rfl (Nat.le_of_ble_eq_true rfl) dX1_addToLow_64 (fun H locs hP hD hS => ?_)
      have hP : va_P D vwCl (xw cR ax ar ao ad vrd vtr vsd vrn vom voh f5 vop voe vow vok vos vso vmi vco vex) H := hP
      have hD : va_D A (xw cR ax ar ao ad vrd vtr vsd vrn vom voh f5 vop voe vow vok vos vso vmi vco vex) := hD
      refine lv_aload_n hx hb dX1_addToLow_67 rfl (lv_at hl 0 rfl) ?_
      refine lv_dup hx hb dX1_addToLow_68 rfl ?_
      refine va_get (D := D) (ci := 3) (v := .long voh) (C := RX1) (T := TX1) (N := 8) hx hb hts hi1 hown hK hP 2 rfl rfl 1 (by decide) (hts (.fieldLink RX1 9 "DecimalWords$Outcome" "high" "J") (inW_1 _ (List.mem_of_getElem? (i := 20) rfl))) (fun _ h9 => h9) rfl dX1_addToLow_69 ?_
      refine lv_lconst (v := 1) hx hb dX1_addToLow_72 (by decide) ?_
      refine lv_lsub hx hb dX1_addToLow_73 ?_
      refine lv_topl (fun f7 ef7 => ?_)
      have hu := hu _ ef7
      refine va_put (D := D) (ci := 3) (v := .long f7) (ty := .long) (C := RX1) (T := TX1) (N := 8) hx hb hts hi1 tyX1 tyX1_ok nmX1 hown hK hP hD hS 2 rfl rfl 1 (by decide) (hts (.fieldLink RX1 9 "DecimalWords$Outcome" "high" "J") (inW_1 _ (List.mem_of_getElem? (i := 20) rfl))) (fun _ h9 => h9) rfl (by decide +kernel) rfl rfl (Nat.le_of_ble_eq_true rfl) dX1_addToLow_74 (fun H locs hP hD hS => ?_)
      have hP : va_P D vwCl (xw cR ax ar ao ad vrd vtr vsd vrn vom f7 f5 vop voe vow vok vos vso vmi vco vex) H := hP
      have hD : va_D A (xw cR ax ar ao ad vrd vtr vsd vrn vom f7 f5 vop voe vow vok vos vso vmi vco vex) := hD
      have e9 := Eq.symm hu; subst e9
      exact x_vret hx hb hr hlocks hQ hK hP hD hS rfl dX1_addToLow_77
  · rw [if_neg c_3] at hu
    refine lv_aload_n hx hb dX1_addToLow_21 rfl (lv_at hl 0 rfl) ?_
    refine lv_dup hx hb dX1_addToLow_22 rfl ?_
    refine va_get (D := D) (ci := 3) (v := .long f1) (C := RX1) (T := TX1) (N := 8) hx hb hts hi1 hown hK hP 2 rfl rfl 2 (by decide) (hts (.fieldLink RX1 15 "DecimalWords$Outcome" "low" "J") (inW_1 _ (List.mem_of_getElem? (i := 21) rfl))) (fun _ h9 => h9) rfl dX1_addToLow_23 ?_
    refine lv_ldc2 (v := 10000000000000000) hx hb hown (hts (.constantLong RX1 72 (10000000000000000)) (inW_2 _ (List.mem_of_getElem? (i := 19) rfl))) dX1_addToLow_26 ?_
    refine lv_lsub hx hb dX1_addToLow_29 ?_
    refine lv_topl (fun f9 ef9 => ?_)
    have hu := hu _ ef9
    refine va_put (D := D) (ci := 3) (v := .long f9) (ty := .long) (C := RX1) (T := TX1) (N := 8) hx hb hts hi1 tyX1 tyX1_ok nmX1 hown hK hP hD hS 2 rfl rfl 2 (by decide) (hts (.fieldLink RX1 15 "DecimalWords$Outcome" "low" "J") (inW_1 _ (List.mem_of_getElem? (i := 21) rfl))) (fun _ h9 => h9) rfl (by decide +kernel) rfl rfl (Nat.le_of_ble_eq_true rfl) dX1_addToLow_30 (fun H locs hP hD hS => ?_)
    have hP : va_P D vwCl (xw cR ax ar ao ad vrd vtr vsd vrn vom voh f9 vop voe vow vok vos vso vmi vco vex) H := hP
    have hD : va_D A (xw cR ax ar ao ad vrd vtr vsd vrn vom voh f9 vop voe vow vok vos vso vmi vco vex) := hD
    refine lv_aload_n hx hb dX1_addToLow_33 rfl (lv_at hl 0 rfl) ?_
    refine lv_dup hx hb dX1_addToLow_34 rfl ?_
    refine va_get (D := D) (ci := 3) (v := .long voh) (C := RX1) (T := TX1) (N := 8) hx hb hts hi1 hown hK hP 2 rfl rfl 1 (by decide) (hts (.fieldLink RX1 9 "DecimalWords$Outcome" "high" "J") (inW_1 _ (List.mem_of_getElem? (i := 20) rfl))) (fun _ h9 => h9) rfl dX1_addToLow_35 ?_
    refine lv_lconst (v := 1) hx hb dX1_addToLow_38 (by decide) ?_
    refine lv_ladd hx hb dX1_addToLow_39 ?_
    refine lv_topl (fun f11 ef11 => ?_)
    have hu := hu _ ef11
    refine va_put (D := D) (ci := 3) (v := .long f11) (ty := .long) (C := RX1) (T := TX1) (N := 8) hx hb hts hi1 tyX1 tyX1_ok nmX1 hown hK hP hD hS 2 rfl rfl 1 (by decide) (hts (.fieldLink RX1 9 "DecimalWords$Outcome" "high" "J") (inW_1 _ (List.mem_of_getElem? (i := 20) rfl))) (fun _ h9 => h9) rfl (by decide +kernel) rfl rfl (Nat.le_of_ble_eq_true rfl) dX1_addToLow_40 (fun H locs hP hD hS => ?_)
    have hP : va_P D vwCl (xw cR ax ar ao ad vrd vtr vsd vrn vom f11 f9 vop voe vow vok vos vso vmi vco vex) H := hP
    have hD : va_D A (xw cR ax ar ao ad vrd vtr vsd vrn vom f11 f9 vop voe vow vok vos vso vmi vco vex) := hD
    refine lv_goto (tgt := 77) hx hb dX1_addToLow_43 (by decide) ?_
    have e9 := Eq.symm hu; subst e9
    exact x_vret hx hb hr hlocks hQ hK hP hD hS rfl dX1_addToLow_77

def F_X1_restOf  (p0 : Int64) (p1 : Int64) (p2 : Bool) : Int32 := (bnd (p1 / 2) (fun n1 : Int64 => (if n1 < p0 then 3 else (if p0 = n1 then (if p2 = true then 3 else 2) else (if p0 = 0 then (if p2 = true then 1 else 0) else 1)))))
def RF_X1_restOf  (p0 : Int64) (p1 : Int64) (p2 : Bool) (u9 : Int32) : Prop := (∀ n1 : Int64, n1 = p1 / 2 → (if n1 < p0 then u9 = 3 else (if p0 = n1 then (if p2 = true then u9 = 3 else u9 = 2) else (if p0 = 0 then (if p2 = true then u9 = 1 else u9 = 0) else u9 = 1))))
theorem rF_X1_restOf  (p0 : Int64) (p1 : Int64) (p2 : Bool) {u9 : Int32} (hu : u9 = F_X1_restOf p0 p1 p2) : RF_X1_restOf p0 p1 p2 u9 := by
  unfold RF_X1_restOf
  intro n1 en1
  have hu := bnd_n hu en1
  refine ite_P (fun c_2 => ?_) (fun c_2 => ?_)
  · have hu := hu.trans (if_pos c_2)
    exact hu
  · have hu := hu.trans (if_neg c_2)
    refine ite_P (fun c_3 => ?_) (fun c_3 => ?_)
    · have hu := hu.trans (if_pos c_3)
      refine ite_P (fun c_6 => ?_) (fun c_6 => ?_)
      · have hu := hu.trans (if_pos c_6)
        exact hu
      · have hu := hu.trans (if_neg c_6)
        exact hu
    · have hu := hu.trans (if_neg c_3)
      refine ite_P (fun c_4 => ?_) (fun c_4 => ?_)
      · have hu := hu.trans (if_pos c_4)
        refine ite_P (fun c_5 => ?_) (fun c_5 => ?_)
        · have hu := hu.trans (if_pos c_5)
          exact hu
        · have hu := hu.trans (if_neg c_5)
          exact hu
      · have hu := hu.trans (if_neg c_4)
        exact hu
def rm_X1_restOf : Room := { frames := 0, cells := 0, slots := 0, locals := 0 }
set_option maxHeartbeats 4000000 in
set_option maxRecDepth 100000 in
theorem c_X1_restOf (l : Launch) (D : va_G) (cR cI cJ cZ : ClassId) (t0 : Nat) (w : va_W) (p0 : Int64) (p1 : Int64) (p2 : Bool) (u : Int32) (hu : u = F_X1_restOf p0 p1 p2) : XM l D (xty cR cI cJ cZ) t0 yX1_restOf cX1_restOf 7 (some .int) rm_X1_restOf [.long p0, .long p1, .int (bI p2)] (some (.int u)) (w) (w) := by
  refine XM.of (by decide) (Nat.le_of_ble_eq_true rfl) ?_
  intro p e s m args below meth c A Q F hK hP hD hA hSt hS hQ ls hl
  obtain ⟨hx, hb, hr, hts, hown, hlocks, hml⟩ := F
  have hCF : CallFix p m c cX1_restOf 7 s args gW RX1 := ⟨hx, hb, hml, hown, hts⟩
  have hu := rF_X1_restOf p0 p1 p2 hu
  unfold RF_X1_restOf at hu
  obtain ⟨H, eH⟩ : ∃ y9 : Heap, y9 = s.heap := ⟨_, rfl⟩
  obtain ⟨locs, eL⟩ : ∃ y9 : List Loc, y9 = [] := ⟨_, rfl⟩
  rw [← eL] at hS ⊢
  have hP : va_P D vwCl (w) H := by rw [eH]; exact hP
  have hS : va_S A s.heap H locs := by rw [eH]; exact hS
  suffices goal9 : W p l e rm_X1_restOf s m args below meth c H locs 0 0 Q (F0 m 0 ls []) from by rw [← eH]; exact goal9
  have hl : lv_has ls 7 [(0, .long p0), (2, .long p1), (4, .int (bI p2))] := hl
  refine lv_lload_n hx hb dX1_restOf_0 rfl (lv_at hl 1 rfl) ?_
  refine lv_ldc2 (v := 2) hx hb hown (hts (.constantLong RX1 94 (2)) (inW_2 _ (List.mem_of_getElem? (i := 38) rfl))) dX1_restOf_1 ?_
  refine lv_ldiv hx hb dX1_restOf_4 (by decide) ?_
  refine lv_topl (fun n1 en1 => ?_)
  have hu := hu _ en1
  refine lv_lstore (lv' := [(5, .long n1), (0, .long p0), (2, .long p1), (4, .int (bI p2))]) hx hb dX1_restOf_5 hl (by decide) rfl (fun ls hl => ?_)
  refine lv_lload_n hx hb dX1_restOf_7 rfl (lv_at hl 1 rfl) ?_
  refine lv_lload hx hb dX1_restOf_8 (lv_at hl 0 rfl) ?_
  refine xl_gt (tgt := 26) hx hb dX1_restOf_10 dX1_restOf_11 (by decide) (fun c_2 => ?_) (fun c_2 => ?_)
  · rw [if_pos c_2] at hu
    refine lv_iconst (v := 3) hx hb dX1_restOf_26 (by decide) ?_
    have e9 := Eq.symm hu; subst e9
    exact x_iret hx hb hr hlocks hQ hK hP hD hS rfl rfl dX1_restOf_27
  · rw [if_neg c_2] at hu
    refine lv_lload_n hx hb dX1_restOf_14 rfl (lv_at hl 1 rfl) ?_
    refine lv_lload hx hb dX1_restOf_15 (lv_at hl 0 rfl) ?_
    refine xl_ne (tgt := 28) hx hb dX1_restOf_17 dX1_restOf_18 (by decide) (fun c_3 => ?_) (fun c_3 => ?_)
    · rw [if_neg c_3] at hu
      refine lv_lload_n hx hb dX1_restOf_28 rfl (lv_at hl 1 rfl) ?_
      refine lv_lload hx hb dX1_restOf_29 (lv_at hl 0 rfl) ?_
      refine xl_ne (tgt := 37) hx hb dX1_restOf_31 dX1_restOf_32 (by decide) (fun _ => ?_) (fun c9 => absurd c9 c_3)
      refine lv_lload_n hx hb dX1_restOf_37 rfl (lv_at hl 1 rfl) ?_
      refine lv_lconst (v := 0) hx hb dX1_restOf_38 (by decide) ?_
      refine xl_ne (tgt := 48) hx hb dX1_restOf_39 dX1_restOf_40 (by decide) (fun c_4 => ?_) (fun c_4 => ?_)
      · rw [if_neg c_4] at hu
        refine lv_iconst (v := 1) hx hb dX1_restOf_48 (by decide) ?_
        refine lv_goto (tgt := 53) hx hb dX1_restOf_49 (by decide) ?_
        have e9 := Eq.symm hu; subst e9
        exact x_iret hx hb hr hlocks hQ hK hP hD hS rfl rfl dX1_restOf_53
      · rw [if_pos c_4] at hu
        refine lv_iload hx hb dX1_restOf_43 (lv_at hl 3 rfl) ?_
        refine xb_eq (tgt := 52) hx hb dX1_restOf_45 (by decide) (fun c_5 => ?_) (fun c_5 => ?_)
        · rw [if_neg c_5] at hu
          refine lv_iconst (v := 0) hx hb dX1_restOf_52 (by decide) ?_
          have e9 := Eq.symm hu; subst e9
          exact x_iret hx hb hr hlocks hQ hK hP hD hS rfl rfl dX1_restOf_53
        · rw [if_pos c_5] at hu
          refine lv_iconst (v := 1) hx hb dX1_restOf_48 (by decide) ?_
          refine lv_goto (tgt := 53) hx hb dX1_restOf_49 (by decide) ?_
          have e9 := Eq.symm hu; subst e9
          exact x_iret hx hb hr hlocks hQ hK hP hD hS rfl rfl dX1_restOf_53
    · rw [if_pos c_3] at hu
      refine lv_iload hx hb dX1_restOf_21 (lv_at hl 3 rfl) ?_
      refine xb_eq (tgt := 28) hx hb dX1_restOf_23 (by decide) (fun c_6 => ?_) (fun c_6 => ?_)
      · rw [if_neg c_6] at hu
        refine lv_lload_n hx hb dX1_restOf_28 rfl (lv_at hl 1 rfl) ?_
        refine lv_lload hx hb dX1_restOf_29 (lv_at hl 0 rfl) ?_
        refine xl_ne (tgt := 37) hx hb dX1_restOf_31 dX1_restOf_32 (by decide) (fun c9 => absurd c_3 c9) (fun _ => ?_)
        refine lv_iconst (v := 2) hx hb dX1_restOf_35 (by decide) ?_
        have e9 := Eq.symm hu; subst e9
        exact x_iret hx hb hr hlocks hQ hK hP hD hS rfl rfl dX1_restOf_36
      · rw [if_pos c_6] at hu
        refine lv_iconst (v := 3) hx hb dX1_restOf_26 (by decide) ?_
        have e9 := Eq.symm hu; subst e9
        exact x_iret hx hb hr hlocks hQ hK hP hD hS rfl rfl dX1_restOf_27

def Z_X1_setProduct_J_9 (vmi : Nat → Bool) (i1 : Nat) (i2 : Nat) : Bool := (if vmi i1 = vmi i2 then false else true)
def RZ_X1_setProduct_J_9 (vmi : Nat → Bool) (i1 : Nat) (i2 : Nat) (u9 : Bool) : Prop := (if vmi i1 = vmi i2 then u9 = false else u9 = true)
theorem rZ_X1_setProduct_J_9 (vmi : Nat → Bool) (i1 : Nat) (i2 : Nat) {u9 : Bool} (hu : u9 = Z_X1_setProduct_J_9 vmi i1 i2) : RZ_X1_setProduct_J_9 vmi i1 i2 u9 := by
  unfold RZ_X1_setProduct_J_9
  refine ite_P (fun c_6 => ?_) (fun c_6 => ?_)
  · have hu := hu.trans (if_pos c_6)
    exact hu
  · have hu := hu.trans (if_neg c_6)
    exact hu
def F_X1_setProduct (vmi : Nat → Bool) (vco : Nat → Int64) (vex : Nat → Int32) (i1 : Nat) (i2 : Nat) : Bool × Int64 × Int64 × Int32 × Bool × Int32 := (bnd ((vco i1) / 100000000) (fun n1 : Int64 => (bnd (jremL (vco i1) 100000000) (fun n2 : Int64 => (bnd ((vco i2) / 100000000) (fun n3 : Int64 => (bnd (jremL (vco i2) 100000000) (fun n4 : Int64 => (bnd ((n1 * n4) + (n2 * n3)) (fun n5 : Int64 => (bnd (Z_X1_setProduct_J_9 vmi i1 i2) (fun z8 : Bool => (bnd ((n1 * n3) + (n5 / 100000000)) (fun f11 : Int64 => (bnd ((jremL n5 100000000) * 100000000) (fun f13 : Int64 => (bnd (F_X1_addToLow f11 f13 (n2 * n4)) (fun u15 : Int64 × Int64 => (bnd ((vex i1) + (vex i2)) (fun f17 : Int32 => (z8, u15.1, u15.2, f17, false, f17)))))))))))))))))))))
def RF_X1_setProduct (vmi : Nat → Bool) (vco : Nat → Int64) (vex : Nat → Int32) (i1 : Nat) (i2 : Nat) (u9 : Bool × Int64 × Int64 × Int32 × Bool × Int32) : Prop := (∀ n1 : Int64, n1 = (vco i1) / 100000000 → (∀ n2 : Int64, n2 = jremL (vco i1) 100000000 → (∀ n3 : Int64, n3 = (vco i2) / 100000000 → (∀ n4 : Int64, n4 = jremL (vco i2) 100000000 → (∀ n5 : Int64, n5 = (n1 * n4) + (n2 * n3) → (∀ z8 : Bool, z8 = Z_X1_setProduct_J_9 vmi i1 i2 → (∀ f11 : Int64, f11 = (n1 * n3) + (n5 / 100000000) → (∀ f13 : Int64, f13 = (jremL n5 100000000) * 100000000 → (∀ u15 : Int64 × Int64, u15 = F_X1_addToLow f11 f13 (n2 * n4) → (∀ f17 : Int32, f17 = (vex i1) + (vex i2) → u9 = (z8, u15.1, u15.2, f17, false, f17)))))))))))
theorem rF_X1_setProduct (vmi : Nat → Bool) (vco : Nat → Int64) (vex : Nat → Int32) (i1 : Nat) (i2 : Nat) {u9 : Bool × Int64 × Int64 × Int32 × Bool × Int32} (hu : u9 = F_X1_setProduct vmi vco vex i1 i2) : RF_X1_setProduct vmi vco vex i1 i2 u9 := by
  unfold RF_X1_setProduct
  intro n1 en1
  have hu := bnd_n hu en1
  intro n2 en2
  have hu := bnd_n hu en2
  intro n3 en3
  have hu := bnd_n hu en3
  intro n4 en4
  have hu := bnd_n hu en4
  intro n5 en5
  have hu := bnd_n hu en5
  intro z8 ez8
  have hu := bnd_n hu ez8
  intro f11 ef11
  have hu := bnd_n hu ef11
  intro f13 ef13
  have hu := bnd_n hu ef13
  intro u15 eu15
  have hu := bnd_n hu eu15
  intro f17 ef17
  have hu := bnd_n hu ef17
  exact hu
def rm_X1_setProduct : Room := { frames := 1, cells := 0, slots := 0, locals := 22 }
set_option maxHeartbeats 4000000 in
set_option maxRecDepth 100000 in
theorem c_X1_setProduct (l : Launch) (D : va_G) (cR cI cJ cZ : ClassId) (t0 : Nat) (ax ar ao : Nat) (ad : Nat → Nat) (vrd : Int32) (vtr : Int32) (vsd : Int32) (vrn : Int32) (vom : Bool) (voh : Int64) (vol : Int64) (vop : Int32) (voe : Bool) (vow : Int32) (vok : Int64) (vos : Int32) (vso : Nat → Int32) (vmi : Nat → Bool) (vco : Nat → Int64) (vex : Nat → Int32) (i1 : Nat) (i2 : Nat) (u : Bool × Int64 × Int64 × Int32 × Bool × Int32) (hu : u = F_X1_setProduct vmi vco vex i1 i2) (hb1 : i1 < 9) (hb2 : i2 < 9) : XM l D (xty cR cI cJ cZ) t0 yX1_setProduct cX1_setProduct 13 none rm_X1_setProduct [.ref ao, .ref (ad i1), .ref (ad i2)] none (xw cR ax ar ao ad vrd vtr vsd vrn vom voh vol vop voe vow vok vos vso vmi vco vex) (xw cR ax ar ao ad vrd vtr vsd vrn u.1 u.2.1 u.2.2.1 u.2.2.2.1 u.2.2.2.2.1 u.2.2.2.2.2 vok vos vso vmi vco vex) := by
  refine XM.of (by decide) (Nat.le_of_ble_eq_true rfl) ?_
  intro p e s m args below meth c A Q F hK hP hD hA hSt hS hQ ls hl
  obtain ⟨hx, hb, hr, hts, hown, hlocks, hml⟩ := F
  have hCF : CallFix p m c cX1_setProduct 13 s args gW RX1 := ⟨hx, hb, hml, hown, hts⟩
  have hu := rF_X1_setProduct vmi vco vex i1 i2 hu
  unfold RF_X1_setProduct at hu
  obtain ⟨H, eH⟩ : ∃ y9 : Heap, y9 = s.heap := ⟨_, rfl⟩
  obtain ⟨locs, eL⟩ : ∃ y9 : List Loc, y9 = [] := ⟨_, rfl⟩
  rw [← eL] at hS ⊢
  have hP : va_P D vwCl (xw cR ax ar ao ad vrd vtr vsd vrn vom voh vol vop voe vow vok vos vso vmi vco vex) H := by rw [eH]; exact hP
  have hS : va_S A s.heap H locs := by rw [eH]; exact hS
  suffices goal9 : W p l e rm_X1_setProduct s m args below meth c H locs 0 0 Q (F0 m 0 ls []) from by rw [← eH]; exact goal9
  have hl : lv_has ls 13 [(0, .ref ao), (1, .ref (ad i1)), (2, .ref (ad i2))] := hl
  have hi0 : ∀ w ∈ wsX00, w ∈ gW := inW_X0
  have hi1 : ∀ w ∈ wsX10, w ∈ gW := inW_X1
  refine lv_aload_n hx hb dX1_setProduct_0 rfl (lv_at hl 1 rfl) ?_
  refine g_co (i := i1) hx hb hts hi0 hown hK hP hb1 (hts (.fieldLink RX1 32 "DecimalWords$Datum" "coefficient" "J") (inW_1 _ (List.mem_of_getElem? (i := 31) rfl))) dX1_setProduct_1 ?_
  refine lv_ldc2 (v := 100000000) hx hb hown (hts (.constantLong RX1 74 (100000000)) (inW_2 _ (List.mem_of_getElem? (i := 24) rfl))) dX1_setProduct_4 ?_
  refine lv_ldiv hx hb dX1_setProduct_7 (by decide) ?_
  refine lv_topl (fun n1 en1 => ?_)
  have hu := hu _ en1
  refine lv_lstore_n (lv' := [(3, .long n1), (0, .ref ao), (1, .ref (ad i1)), (2, .ref (ad i2))]) hx hb dX1_setProduct_8 rfl hl (by decide) rfl (fun ls hl => ?_)
  refine lv_aload_n hx hb dX1_setProduct_9 rfl (lv_at hl 2 rfl) ?_
  refine g_co (i := i1) hx hb hts hi0 hown hK hP hb1 (hts (.fieldLink RX1 32 "DecimalWords$Datum" "coefficient" "J") (inW_1 _ (List.mem_of_getElem? (i := 31) rfl))) dX1_setProduct_10 ?_
  refine lv_ldc2 (v := 100000000) hx hb hown (hts (.constantLong RX1 74 (100000000)) (inW_2 _ (List.mem_of_getElem? (i := 24) rfl))) dX1_setProduct_13 ?_
  refine x_lrem hx hb dX1_setProduct_16 (by decide) ?_
  refine lv_topl (fun n2 en2 => ?_)
  have hu := hu _ en2
  refine lv_lstore (lv' := [(5, .long n2), (3, .long n1), (0, .ref ao), (1, .ref (ad i1)), (2, .ref (ad i2))]) hx hb dX1_setProduct_17 hl (by decide) rfl (fun ls hl => ?_)
  refine lv_aload_n hx hb dX1_setProduct_19 rfl (lv_at hl 4 rfl) ?_
  refine g_co (i := i2) hx hb hts hi0 hown hK hP hb2 (hts (.fieldLink RX1 32 "DecimalWords$Datum" "coefficient" "J") (inW_1 _ (List.mem_of_getElem? (i := 31) rfl))) dX1_setProduct_20 ?_
  refine lv_ldc2 (v := 100000000) hx hb hown (hts (.constantLong RX1 74 (100000000)) (inW_2 _ (List.mem_of_getElem? (i := 24) rfl))) dX1_setProduct_23 ?_
  refine lv_ldiv hx hb dX1_setProduct_26 (by decide) ?_
  refine lv_topl (fun n3 en3 => ?_)
  have hu := hu _ en3
  refine lv_lstore (lv' := [(7, .long n3), (5, .long n2), (3, .long n1), (0, .ref ao), (1, .ref (ad i1)), (2, .ref (ad i2))]) hx hb dX1_setProduct_27 hl (by decide) rfl (fun ls hl => ?_)
  refine lv_aload_n hx hb dX1_setProduct_29 rfl (lv_at hl 5 rfl) ?_
  refine g_co (i := i2) hx hb hts hi0 hown hK hP hb2 (hts (.fieldLink RX1 32 "DecimalWords$Datum" "coefficient" "J") (inW_1 _ (List.mem_of_getElem? (i := 31) rfl))) dX1_setProduct_30 ?_
  refine lv_ldc2 (v := 100000000) hx hb hown (hts (.constantLong RX1 74 (100000000)) (inW_2 _ (List.mem_of_getElem? (i := 24) rfl))) dX1_setProduct_33 ?_
  refine x_lrem hx hb dX1_setProduct_36 (by decide) ?_
  refine lv_topl (fun n4 en4 => ?_)
  have hu := hu _ en4
  refine lv_lstore (lv' := [(9, .long n4), (7, .long n3), (5, .long n2), (3, .long n1), (0, .ref ao), (1, .ref (ad i1)), (2, .ref (ad i2))]) hx hb dX1_setProduct_37 hl (by decide) rfl (fun ls hl => ?_)
  refine lv_lload_n hx hb dX1_setProduct_39 rfl (lv_at hl 3 rfl) ?_
  refine lv_lload hx hb dX1_setProduct_40 (lv_at hl 0 rfl) ?_
  refine lv_lmul hx hb dX1_setProduct_42 ?_
  refine lv_lload hx hb dX1_setProduct_43 (lv_at hl 2 rfl) ?_
  refine lv_lload hx hb dX1_setProduct_45 (lv_at hl 1 rfl) ?_
  refine lv_lmul hx hb dX1_setProduct_47 ?_
  refine lv_ladd hx hb dX1_setProduct_48 ?_
  refine lv_topl (fun n5 en5 => ?_)
  have hu := hu _ en5
  refine lv_lstore (lv' := [(11, .long n5), (9, .long n4), (7, .long n3), (5, .long n2), (3, .long n1), (0, .ref ao), (1, .ref (ad i1)), (2, .ref (ad i2))]) hx hb dX1_setProduct_49 hl (by decide) rfl (fun ls hl => ?_)
  refine lv_aload_n hx hb dX1_setProduct_51 rfl (lv_at hl 5 rfl) ?_
  refine lv_aload_n hx hb dX1_setProduct_52 rfl (lv_at hl 6 rfl) ?_
  refine g_mi (i := i1) hx hb hts hi0 hown hK hP hb1 (hts (.fieldLink RX1 26 "DecimalWords$Datum" "minus" "Z") (inW_1 _ (List.mem_of_getElem? (i := 29) rfl))) dX1_setProduct_53 ?_
  refine lv_aload_n hx hb dX1_setProduct_56 rfl (lv_at hl 7 rfl) ?_
  refine g_mi (i := i2) hx hb hts hi0 hown hK hP hb2 (hts (.fieldLink RX1 26 "DecimalWords$Datum" "minus" "Z") (inW_1 _ (List.mem_of_getElem? (i := 29) rfl))) dX1_setProduct_57 ?_
  have J_9 : (∀ z8 : Bool, z8 = Z_X1_setProduct_J_9 vmi i1 i2 → ∀ (H : Heap) (locs : List Loc), va_P D vwCl (xw cR ax ar ao ad vrd vtr vsd vrn vom voh vol vop voe vow vok vos vso vmi vco vex) H → va_D A (xw cR ax ar ao ad vrd vtr vsd vrn vom voh vol vop voe vow vok vos vso vmi vco vex) → va_S A s.heap H locs → ∀ ls : Array Slot, lv_has ls 13 [(0, .ref ao), (1, .ref (ad i1)), (2, .ref (ad i2)), (3, .long n1), (5, .long n2), (7, .long n3), (9, .long n4), (11, .long n5)] → W p l e rm_X1_setProduct s m args below meth c H locs 0 0 Q (F0 m 68 ls [.int (bI z8), .ref ao])) := by
    intro z8 ez8 H locs hP hD hS ls hl
    have hu := hu _ ez8
    refine va_put (D := D) (ci := 3) (v := .int (bI z8)) (ty := .boolean) (C := RX1) (T := TX1) (N := 8) hx hb hts hi1 tyX1 tyX1_ok nmX1 hown hK hP hD hS 2 rfl rfl 0 (by decide) (hts (.fieldLink RX1 31 "DecimalWords$Outcome" "minus" "Z") (inW_1 _ (List.mem_of_getElem? (i := 30) rfl))) (fun _ h9 => h9) rfl (by decide +kernel) (bI_nar z8) (bI_fit z8) (Nat.le_of_ble_eq_true rfl) dX1_setProduct_68 (fun H locs hP hD hS => ?_)
    have hP : va_P D vwCl (xw cR ax ar ao ad vrd vtr vsd vrn z8 voh vol vop voe vow vok vos vso vmi vco vex) H := hP
    have hD : va_D A (xw cR ax ar ao ad vrd vtr vsd vrn z8 voh vol vop voe vow vok vos vso vmi vco vex) := hD
    refine lv_aload_n hx hb dX1_setProduct_71 rfl (lv_at hl 0 rfl) ?_
    refine lv_lload_n hx hb dX1_setProduct_72 rfl (lv_at hl 3 rfl) ?_
    refine lv_lload hx hb dX1_setProduct_73 (lv_at hl 5 rfl) ?_
    refine lv_lmul hx hb dX1_setProduct_75 ?_
    refine lv_lload hx hb dX1_setProduct_76 (lv_at hl 7 rfl) ?_
    refine lv_ldc2 (v := 100000000) hx hb hown (hts (.constantLong RX1 74 (100000000)) (inW_2 _ (List.mem_of_getElem? (i := 24) rfl))) dX1_setProduct_78 ?_
    refine lv_ldiv hx hb dX1_setProduct_81 (by decide) ?_
    refine lv_ladd hx hb dX1_setProduct_82 ?_
    refine lv_topl (fun f11 ef11 => ?_)
    have hu := hu _ ef11
    refine va_put (D := D) (ci := 3) (v := .long f11) (ty := .long) (C := RX1) (T := TX1) (N := 8) hx hb hts hi1 tyX1 tyX1_ok nmX1 hown hK hP hD hS 2 rfl rfl 1 (by decide) (hts (.fieldLink RX1 9 "DecimalWords$Outcome" "high" "J") (inW_1 _ (List.mem_of_getElem? (i := 20) rfl))) (fun _ h9 => h9) rfl (by decide +kernel) rfl rfl (Nat.le_of_ble_eq_true rfl) dX1_setProduct_83 (fun H locs hP hD hS => ?_)
    have hP : va_P D vwCl (xw cR ax ar ao ad vrd vtr vsd vrn z8 f11 vol vop voe vow vok vos vso vmi vco vex) H := hP
    have hD : va_D A (xw cR ax ar ao ad vrd vtr vsd vrn z8 f11 vol vop voe vow vok vos vso vmi vco vex) := hD
    refine lv_aload_n hx hb dX1_setProduct_86 rfl (lv_at hl 0 rfl) ?_
    refine lv_lload hx hb dX1_setProduct_87 (lv_at hl 7 rfl) ?_
    refine lv_ldc2 (v := 100000000) hx hb hown (hts (.constantLong RX1 74 (100000000)) (inW_2 _ (List.mem_of_getElem? (i := 24) rfl))) dX1_setProduct_89 ?_
    refine x_lrem hx hb dX1_setProduct_92 (by decide) ?_
    refine lv_ldc2 (v := 100000000) hx hb hown (hts (.constantLong RX1 74 (100000000)) (inW_2 _ (List.mem_of_getElem? (i := 24) rfl))) dX1_setProduct_93 ?_
    refine lv_lmul hx hb dX1_setProduct_96 ?_
    refine lv_topl (fun f13 ef13 => ?_)
    have hu := hu _ ef13
    refine va_put (D := D) (ci := 3) (v := .long f13) (ty := .long) (C := RX1) (T := TX1) (N := 8) hx hb hts hi1 tyX1 tyX1_ok nmX1 hown hK hP hD hS 2 rfl rfl 2 (by decide) (hts (.fieldLink RX1 15 "DecimalWords$Outcome" "low" "J") (inW_1 _ (List.mem_of_getElem? (i := 21) rfl))) (fun _ h9 => h9) rfl (by decide +kernel) rfl rfl (Nat.le_of_ble_eq_true rfl) dX1_setProduct_97 (fun H locs hP hD hS => ?_)
    have hP : va_P D vwCl (xw cR ax ar ao ad vrd vtr vsd vrn z8 f11 f13 vop voe vow vok vos vso vmi vco vex) H := hP
    have hD : va_D A (xw cR ax ar ao ad vrd vtr vsd vrn z8 f11 f13 vop voe vow vok vos vso vmi vco vex) := hD
    refine lv_aload_n hx hb dX1_setProduct_100 rfl (lv_at hl 0 rfl) ?_
    refine lv_lload hx hb dX1_setProduct_101 (lv_at hl 4 rfl) ?_
    refine lv_lload hx hb dX1_setProduct_103 (lv_at hl 6 rfl) ?_
    refine lv_lmul hx hb dX1_setProduct_105 ?_
    obtain ⟨u15, eu15⟩ : ∃ y9 : Int64 × Int64, y9 = F_X1_addToLow f11 f13 (n2 * n4) := ⟨_, rfl⟩
    have hu := hu _ eu15
    refine x_V (As := [.long (n2 * n4)]) (rest := []) hCF (c_X1_addToLow l D cR cI cJ cZ t0 ax ar ao ad vrd vtr vsd vrn z8 f11 f13 vop voe vow vok vos vso vmi vco vex (n2 * n4) u15 eu15) (x_cwV 1 hts (inW_2 _ (List.mem_of_getElem? (i := 15) rfl)) (inW_2 _ (List.mem_of_getElem? (i := 16) rfl)) (inW_2 _ (List.mem_of_getElem? (i := 17) rfl)) (inW_2 _ (List.mem_of_getElem? (i := 4) rfl)) (inW_2 _ (List.mem_of_getElem? (i := 18) rfl)) rfl rfl (by decide +kernel) ⟨Nat.le_of_ble_eq_true rfl, Nat.le_of_ble_eq_true rfl⟩) hK hP hD hS hA hSt 2 rfl rfl rfl hl.1 rfl (Nat.le_of_ble_eq_true rfl) dX1_setProduct_106 ⟨Nat.le_of_ble_eq_true rfl, Nat.le_of_ble_eq_true rfl⟩ (fun H locs hP hD hS => ?_)
    show W p l e _ s m args below meth c H locs 0 0 Q (F0 m 109 ls [])
    refine lv_aload_n hx hb dX1_setProduct_109 rfl (lv_at hl 0 rfl) ?_
    refine lv_aload_n hx hb dX1_setProduct_110 rfl (lv_at hl 1 rfl) ?_
    refine g_ex (i := i1) hx hb hts hi0 hown hK hP hb1 (hts (.fieldLink RX1 35 "DecimalWords$Datum" "exponent" "I") (inW_1 _ (List.mem_of_getElem? (i := 32) rfl))) dX1_setProduct_111 ?_
    refine lv_aload_n hx hb dX1_setProduct_114 rfl (lv_at hl 2 rfl) ?_
    refine g_ex (i := i2) hx hb hts hi0 hown hK hP hb2 (hts (.fieldLink RX1 35 "DecimalWords$Datum" "exponent" "I") (inW_1 _ (List.mem_of_getElem? (i := 32) rfl))) dX1_setProduct_115 ?_
    refine lv_iadd hx hb dX1_setProduct_118 ?_
    refine lv_topi (fun f17 ef17 => ?_)
    have hu := hu _ ef17
    refine va_put (D := D) (ci := 3) (v := .int f17) (ty := .int) (C := RX1) (T := TX1) (N := 8) hx hb hts hi1 tyX1 tyX1_ok nmX1 hown hK hP hD hS 2 rfl rfl 3 (by decide) (hts (.fieldLink RX1 39 "DecimalWords$Outcome" "power" "I") (inW_1 _ (List.mem_of_getElem? (i := 33) rfl))) (fun _ h9 => h9) rfl (by decide +kernel) rfl rfl (Nat.le_of_ble_eq_true rfl) dX1_setProduct_119 (fun H locs hP hD hS => ?_)
    have hP : va_P D vwCl (xw cR ax ar ao ad vrd vtr vsd vrn z8 u15.1 u15.2 f17 voe vow vok vos vso vmi vco vex) H := hP
    have hD : va_D A (xw cR ax ar ao ad vrd vtr vsd vrn z8 u15.1 u15.2 f17 voe vow vok vos vso vmi vco vex) := hD
    refine lv_aload_n hx hb dX1_setProduct_122 rfl (lv_at hl 0 rfl) ?_
    refine lv_iconst (v := 0) hx hb dX1_setProduct_123 (by decide) ?_
    refine va_put (D := D) (ci := 3) (v := .int (bI false)) (ty := .boolean) (C := RX1) (T := TX1) (N := 8) hx hb hts hi1 tyX1 tyX1_ok nmX1 hown hK hP hD hS 2 rfl rfl 4 (by decide) (hts (.fieldLink RX1 18 "DecimalWords$Outcome" "more" "Z") (inW_1 _ (List.mem_of_getElem? (i := 22) rfl))) (fun _ h9 => h9) rfl (by decide +kernel) (bI_nar false) (bI_fit false) (Nat.le_of_ble_eq_true rfl) dX1_setProduct_124 (fun H locs hP hD hS => ?_)
    have hP : va_P D vwCl (xw cR ax ar ao ad vrd vtr vsd vrn z8 u15.1 u15.2 f17 false vow vok vos vso vmi vco vex) H := hP
    have hD : va_D A (xw cR ax ar ao ad vrd vtr vsd vrn z8 u15.1 u15.2 f17 false vow vok vos vso vmi vco vex) := hD
    refine lv_aload_n hx hb dX1_setProduct_127 rfl (lv_at hl 0 rfl) ?_
    refine lv_aload_n hx hb dX1_setProduct_128 rfl (lv_at hl 0 rfl) ?_
    refine va_get (D := D) (ci := 3) (v := .int f17) (C := RX1) (T := TX1) (N := 8) hx hb hts hi1 hown hK hP 2 rfl rfl 3 (by decide) (hts (.fieldLink RX1 39 "DecimalWords$Outcome" "power" "I") (inW_1 _ (List.mem_of_getElem? (i := 33) rfl))) (fun _ h9 => h9) rfl dX1_setProduct_129 ?_
    refine va_put (D := D) (ci := 3) (v := .int f17) (ty := .int) (C := RX1) (T := TX1) (N := 8) hx hb hts hi1 tyX1 tyX1_ok nmX1 hown hK hP hD hS 2 rfl rfl 5 (by decide) (hts (.fieldLink RX1 61 "DecimalWords$Outcome" "wish" "I") (inW_1 _ (List.mem_of_getElem? (i := 39) rfl))) (fun _ h9 => h9) rfl (by decide +kernel) rfl rfl (Nat.le_of_ble_eq_true rfl) dX1_setProduct_132 (fun H locs hP hD hS => ?_)
    have hP : va_P D vwCl (xw cR ax ar ao ad vrd vtr vsd vrn z8 u15.1 u15.2 f17 false f17 vok vos vso vmi vco vex) H := hP
    have hD : va_D A (xw cR ax ar ao ad vrd vtr vsd vrn z8 u15.1 u15.2 f17 false f17 vok vos vso vmi vco vex) := hD
    have e9 := Eq.symm hu; subst e9
    exact x_vret hx hb hr hlocks hQ hK hP hD hS rfl dX1_setProduct_135
  obtain ⟨z9, ez9⟩ : ∃ y9 : Bool, y9 = Z_X1_setProduct_J_9 vmi i1 i2 := ⟨_, rfl⟩
  have hz := rZ_X1_setProduct_J_9 vmi i1 i2 ez9
  unfold RZ_X1_setProduct_J_9 at hz
  refine xbb_eq (tgt := 67) hx hb dX1_setProduct_60 (by decide) (fun c_6 => ?_) (fun c_6 => ?_)
  · rw [if_pos c_6] at hz
    refine lv_iconst (v := 0) hx hb dX1_setProduct_67 (by decide) ?_
    have e9 := Eq.symm hz; subst e9
    exact J_9 _ ez9 H locs hP hD hS ls (lv_sub hl [5, 6, 7, 4, 3, 2, 1, 0] rfl)
  · rw [if_neg c_6] at hz
    refine lv_iconst (v := 1) hx hb dX1_setProduct_63 (by decide) ?_
    refine lv_goto (tgt := 68) hx hb dX1_setProduct_64 (by decide) ?_
    have e9 := Eq.symm hz; subst e9
    exact J_9 _ ez9 H locs hP hD hS ls (lv_sub hl [5, 6, 7, 4, 3, 2, 1, 0] rfl)

def Z_X1_cut_J_24 (vol : Int64) (voe : Bool) : Bool := (if vol = 0 then (if voe = true then true else false) else true)
def RZ_X1_cut_J_24 (vol : Int64) (voe : Bool) (u9 : Bool) : Prop := (if vol = 0 then (if voe = true then u9 = true else u9 = false) else u9 = true)
theorem rZ_X1_cut_J_24 (vol : Int64) (voe : Bool) {u9 : Bool} (hu : u9 = Z_X1_cut_J_24 vol voe) : RZ_X1_cut_J_24 vol voe u9 := by
  unfold RZ_X1_cut_J_24
  refine ite_P (fun c_20 => ?_) (fun c_20 => ?_)
  · have hu := hu.trans (if_pos c_20)
    refine ite_P (fun c_21 => ?_) (fun c_21 => ?_)
    · have hu := hu.trans (if_pos c_21)
      exact hu
    · have hu := hu.trans (if_neg c_21)
      exact hu
  · have hu := hu.trans (if_neg c_20)
    exact hu
def Z_X1_cut_J_33 (voh : Int64) (vol : Int64) (voe : Bool) : Bool := (if F_X1_isZero voh vol voe = true then false else true)
def RZ_X1_cut_J_33 (voh : Int64) (vol : Int64) (voe : Bool) (u9 : Bool) : Prop := (if F_X1_isZero voh vol voe = true then u9 = false else u9 = true)
theorem rZ_X1_cut_J_33 (voh : Int64) (vol : Int64) (voe : Bool) {u9 : Bool} (hu : u9 = Z_X1_cut_J_33 voh vol voe) : RZ_X1_cut_J_33 voh vol voe u9 := by
  unfold RZ_X1_cut_J_33
  refine ite_P (fun c_30 => ?_) (fun c_30 => ?_)
  · have hu := hu.trans (if_pos c_30)
    exact hu
  · have hu := hu.trans (if_neg c_30)
    exact hu
def F_X1_cut (voh : Int64) (vol : Int64) (voe : Bool) (p0 : Int32) : Int64 × Int32 := (if p0 ≤ 32 then (if p0 ≤ 16 then (bnd (F_X3_tenTo p0) (fun n5 : Int64 => (bnd ((voh * (F_X3_tenTo (16 - p0))) + (vol / n5)) (fun f9 : Int64 => (bnd (F_X1_restOf (jremL vol n5) n5 voe) (fun f12 : Int32 => (f9, f12))))))) else (bnd (F_X3_tenTo (p0 - 16)) (fun n16 : Int64 => (bnd (voh / n16) (fun f18 : Int64 => (bnd (Z_X1_cut_J_24 vol voe) (fun z23 : Bool => (bnd (F_X1_restOf (jremL voh n16) n16 z23) (fun f26 : Int32 => (f18, f26)))))))))) else (bnd (Z_X1_cut_J_33 voh vol voe) (fun z32 : Bool => (0, (bI z32)))))
def RF_X1_cut (voh : Int64) (vol : Int64) (voe : Bool) (p0 : Int32) (u9 : Int64 × Int32) : Prop := (if p0 ≤ 32 then (if p0 ≤ 16 then (∀ n5 : Int64, n5 = F_X3_tenTo p0 → (∀ f9 : Int64, f9 = (voh * (F_X3_tenTo (16 - p0))) + (vol / n5) → (∀ f12 : Int32, f12 = F_X1_restOf (jremL vol n5) n5 voe → u9 = (f9, f12)))) else (∀ n16 : Int64, n16 = F_X3_tenTo (p0 - 16) → (∀ f18 : Int64, f18 = voh / n16 → (∀ z23 : Bool, z23 = Z_X1_cut_J_24 vol voe → (∀ f26 : Int32, f26 = F_X1_restOf (jremL voh n16) n16 z23 → u9 = (f18, f26)))))) else (∀ z32 : Bool, z32 = Z_X1_cut_J_33 voh vol voe → u9 = (0, (bI z32))))
theorem rF_X1_cut (voh : Int64) (vol : Int64) (voe : Bool) (p0 : Int32) {u9 : Int64 × Int32} (hu : u9 = F_X1_cut voh vol voe p0) : RF_X1_cut voh vol voe p0 u9 := by
  unfold RF_X1_cut
  refine ite_P (fun c_1 => ?_) (fun c_1 => ?_)
  · have hu := hu.trans (if_pos c_1)
    refine ite_P (fun c_2 => ?_) (fun c_2 => ?_)
    · have hu := hu.trans (if_pos c_2)
      intro n5 en5
      have hu := bnd_n hu en5
      intro f9 ef9
      have hu := bnd_n hu ef9
      intro f12 ef12
      have hu := bnd_n hu ef12
      exact hu
    · have hu := hu.trans (if_neg c_2)
      intro n16 en16
      have hu := bnd_n hu en16
      intro f18 ef18
      have hu := bnd_n hu ef18
      intro z23 ez23
      have hu := bnd_n hu ez23
      intro f26 ef26
      have hu := bnd_n hu ef26
      exact hu
  · have hu := hu.trans (if_neg c_1)
    intro z32 ez32
    have hu := bnd_n hu ez32
    exact hu
def S_X1_cut (voh : Int64) (vol : Int64) (voe : Bool) (p0 : Int32) : Prop := (if p0 ≤ 32 then (if p0 ≤ 16 then (S_X3_tenTo p0) ∧ (∀ n5 : Int64, n5 = F_X3_tenTo p0 → (S_X3_tenTo (16 - p0)) ∧ ¬ n5 = 0) else (S_X3_tenTo (p0 - 16)) ∧ (∀ n16 : Int64, n16 = F_X3_tenTo (p0 - 16) → ¬ n16 = 0)) else True)
def rm_X1_cut : Room := { frames := 2, cells := 0, slots := 0, locals := 60 }
set_option maxHeartbeats 4000000 in
set_option maxRecDepth 100000 in
theorem c_X1_cut (l : Launch) (D : va_G) (cR cI cJ cZ : ClassId) (t0 : Nat) (ax ar ao : Nat) (ad : Nat → Nat) (vrd : Int32) (vtr : Int32) (vsd : Int32) (vrn : Int32) (vom : Bool) (voh : Int64) (vol : Int64) (vop : Int32) (voe : Bool) (vow : Int32) (vok : Int64) (vos : Int32) (vso : Nat → Int32) (vmi : Nat → Bool) (vco : Nat → Int64) (vex : Nat → Int32) (p0 : Int32) (u : Int64 × Int32) (hu : u = F_X1_cut voh vol voe p0) (hs : S_X1_cut voh vol voe p0) : XM l D (xty cR cI cJ cZ) t0 yX1_cut cX1_cut 4 none rm_X1_cut [.ref ao, .int p0] none (xw cR ax ar ao ad vrd vtr vsd vrn vom voh vol vop voe vow vok vos vso vmi vco vex) (xw cR ax ar ao ad vrd vtr vsd vrn vom voh vol vop voe vow u.1 u.2 vso vmi vco vex) := by
  refine XM.of (by decide) (Nat.le_of_ble_eq_true rfl) ?_
  intro p e s m args below meth c A Q F hK hP hD hA hSt hS hQ ls hl
  obtain ⟨hx, hb, hr, hts, hown, hlocks, hml⟩ := F
  have hCF : CallFix p m c cX1_cut 4 s args gW RX1 := ⟨hx, hb, hml, hown, hts⟩
  unfold S_X1_cut at hs
  have hu := rF_X1_cut voh vol voe p0 hu
  unfold RF_X1_cut at hu
  obtain ⟨H, eH⟩ : ∃ y9 : Heap, y9 = s.heap := ⟨_, rfl⟩
  obtain ⟨locs, eL⟩ : ∃ y9 : List Loc, y9 = [] := ⟨_, rfl⟩
  rw [← eL] at hS ⊢
  have hP : va_P D vwCl (xw cR ax ar ao ad vrd vtr vsd vrn vom voh vol vop voe vow vok vos vso vmi vco vex) H := by rw [eH]; exact hP
  have hS : va_S A s.heap H locs := by rw [eH]; exact hS
  suffices goal9 : W p l e rm_X1_cut s m args below meth c H locs 0 0 Q (F0 m 0 ls []) from by rw [← eH]; exact goal9
  have hl : lv_has ls 4 [(0, .ref ao), (1, .int p0)] := hl
  have hi1 : ∀ w ∈ wsX10, w ∈ gW := inW_X1
  refine lv_iload_n hx hb dX1_cut_0 rfl (lv_at hl 1 rfl) ?_
  refine lv_bipush (v := 32) hx hb dX1_cut_1 (by decide) ?_
  refine lv_icmp_le (tgt := 30) hx hb dX1_cut_3 (by decide) (fun c_1 => ?_) (fun c_1 => ?_)
  · rw [if_pos c_1] at hs
    rw [if_pos c_1] at hu
    refine lv_iload_n hx hb dX1_cut_30 rfl (lv_at hl 1 rfl) ?_
    refine lv_bipush (v := 16) hx hb dX1_cut_31 (by decide) ?_
    refine lv_icmp_le (tgt := 92) hx hb dX1_cut_33 (by decide) (fun c_2 => ?_) (fun c_2 => ?_)
    · rw [if_pos c_2] at hs
      rw [if_pos c_2] at hu
      refine lv_iload_n hx hb dX1_cut_92 rfl (lv_at hl 1 rfl) ?_
      obtain ⟨h_3, hs⟩ := hs
      refine x_SN (As := [.int p0]) (rest := []) hCF (c_X3_tenTo l D cR cI cJ cZ t0 (xw cR ax ar ao ad vrd vtr vsd vrn vom voh vol vop voe vow vok vos vso vmi vco vex) p0 _ rfl h_3) (x_cwN 1 hts hSt.2.2.2.1 (inW_2 _ (List.mem_of_getElem? (i := 9) rfl)) (inW_1 _ (List.mem_of_getElem? (i := 25) rfl)) (inW_2 _ (List.mem_of_getElem? (i := 10) rfl)) rfl rfl (by decide +kernel) ⟨Nat.le_of_ble_eq_true rfl, Nat.le_of_ble_eq_true rfl⟩) hK hP hD hS hA hSt rfl hl.1 rfl (Nat.le_of_ble_eq_true rfl) dX1_cut_93 ⟨Nat.le_of_ble_eq_true rfl, Nat.le_of_ble_eq_true rfl⟩ (fun H locs hP hD hS => ?_)
      show W p l e _ s m args below meth c H locs 0 0 Q (F0 m 96 ls (.long (F_X3_tenTo p0) :: []))
      refine lv_topl (fun n5 en5 => ?_)
      have hs := hs _ en5
      have hu := hu _ en5
      refine lv_lstore_n (lv' := [(2, .long n5), (0, .ref ao), (1, .int p0)]) hx hb dX1_cut_96 rfl hl (by decide) rfl (fun ls hl => ?_)
      refine lv_aload_n hx hb dX1_cut_97 rfl (lv_at hl 1 rfl) ?_
      refine lv_aload_n hx hb dX1_cut_98 rfl (lv_at hl 1 rfl) ?_
      refine va_get (D := D) (ci := 3) (v := .long voh) (C := RX1) (T := TX1) (N := 8) hx hb hts hi1 hown hK hP 2 rfl rfl 1 (by decide) (hts (.fieldLink RX1 9 "DecimalWords$Outcome" "high" "J") (inW_1 _ (List.mem_of_getElem? (i := 20) rfl))) (fun _ h9 => h9) rfl dX1_cut_99 ?_
      refine lv_bipush (v := 16) hx hb dX1_cut_102 (by decide) ?_
      refine lv_iload_n hx hb dX1_cut_104 rfl (lv_at hl 2 rfl) ?_
      refine lv_isub hx hb dX1_cut_105 ?_
      obtain ⟨h_6, hs⟩ := hs
      refine x_SN (As := [.int (16 - p0)]) (rest := [.long voh, .ref ao]) hCF (c_X3_tenTo l D cR cI cJ cZ t0 (xw cR ax ar ao ad vrd vtr vsd vrn vom voh vol vop voe vow vok vos vso vmi vco vex) (16 - p0) _ rfl h_6) (x_cwN 1 hts hSt.2.2.2.1 (inW_2 _ (List.mem_of_getElem? (i := 9) rfl)) (inW_1 _ (List.mem_of_getElem? (i := 25) rfl)) (inW_2 _ (List.mem_of_getElem? (i := 10) rfl)) rfl rfl (by decide +kernel) ⟨Nat.le_of_ble_eq_true rfl, Nat.le_of_ble_eq_true rfl⟩) hK hP hD hS hA hSt rfl hl.1 rfl (Nat.le_of_ble_eq_true rfl) dX1_cut_106 ⟨Nat.le_of_ble_eq_true rfl, Nat.le_of_ble_eq_true rfl⟩ (fun H locs hP hD hS => ?_)
      show W p l e _ s m args below meth c H locs 0 0 Q (F0 m 109 ls (.long (F_X3_tenTo (16 - p0)) :: [.long voh, .ref ao]))
      refine lv_lmul hx hb dX1_cut_109 ?_
      refine lv_aload_n hx hb dX1_cut_110 rfl (lv_at hl 1 rfl) ?_
      refine va_get (D := D) (ci := 3) (v := .long vol) (C := RX1) (T := TX1) (N := 8) hx hb hts hi1 hown hK hP 2 rfl rfl 2 (by decide) (hts (.fieldLink RX1 15 "DecimalWords$Outcome" "low" "J") (inW_1 _ (List.mem_of_getElem? (i := 21) rfl))) (fun _ h9 => h9) rfl dX1_cut_111 ?_
      refine lv_lload_n hx hb dX1_cut_114 rfl (lv_at hl 0 rfl) ?_
      have h_8 := hs
      refine lv_ldiv hx hb dX1_cut_115 h_8 ?_
      refine lv_ladd hx hb dX1_cut_116 ?_
      refine lv_topl (fun f9 ef9 => ?_)
      have hu := hu _ ef9
      refine va_put (D := D) (ci := 3) (v := .long f9) (ty := .long) (C := RX1) (T := TX1) (N := 8) hx hb hts hi1 tyX1 tyX1_ok nmX1 hown hK hP hD hS 2 rfl rfl 6 (by decide) (hts (.fieldLink RX1 84 "DecimalWords$Outcome" "kept" "J") (inW_2 _ (List.mem_of_getElem? (i := 33) rfl))) (fun _ h9 => h9) rfl (by decide +kernel) rfl rfl (Nat.le_of_ble_eq_true rfl) dX1_cut_117 (fun H locs hP hD hS => ?_)
      have hP : va_P D vwCl (xw cR ax ar ao ad vrd vtr vsd vrn vom voh vol vop voe vow f9 vos vso vmi vco vex) H := hP
      have hD : va_D A (xw cR ax ar ao ad vrd vtr vsd vrn vom voh vol vop voe vow f9 vos vso vmi vco vex) := hD
      refine lv_aload_n hx hb dX1_cut_120 rfl (lv_at hl 1 rfl) ?_
      refine lv_aload_n hx hb dX1_cut_121 rfl (lv_at hl 1 rfl) ?_
      refine va_get (D := D) (ci := 3) (v := .long vol) (C := RX1) (T := TX1) (N := 8) hx hb hts hi1 hown hK hP 2 rfl rfl 2 (by decide) (hts (.fieldLink RX1 15 "DecimalWords$Outcome" "low" "J") (inW_1 _ (List.mem_of_getElem? (i := 21) rfl))) (fun _ h9 => h9) rfl dX1_cut_122 ?_
      refine lv_lload_n hx hb dX1_cut_125 rfl (lv_at hl 0 rfl) ?_
      refine x_lrem hx hb dX1_cut_126 h_8 ?_
      refine lv_lload_n hx hb dX1_cut_127 rfl (lv_at hl 0 rfl) ?_
      refine lv_aload_n hx hb dX1_cut_128 rfl (lv_at hl 1 rfl) ?_
      refine va_get (D := D) (ci := 3) (v := .int (bI voe)) (C := RX1) (T := TX1) (N := 8) hx hb hts hi1 hown hK hP 2 rfl rfl 4 (by decide) (hts (.fieldLink RX1 18 "DecimalWords$Outcome" "more" "Z") (inW_1 _ (List.mem_of_getElem? (i := 22) rfl))) (fun _ h9 => h9) rfl dX1_cut_129 ?_
      refine x_S (As := [.long (jremL vol n5), .long n5, .int (bI voe)]) (rest := [.ref ao]) hCF (c_X1_restOf l D cR cI cJ cZ t0 (xw cR ax ar ao ad vrd vtr vsd vrn vom voh vol vop voe vow f9 vos vso vmi vco vex) (jremL vol n5) n5 voe _ rfl) (x_cwS 3 hts (inW_2 _ (List.mem_of_getElem? (i := 35) rfl)) (inW_2 _ (List.mem_of_getElem? (i := 36) rfl)) (inW_2 _ (List.mem_of_getElem? (i := 4) rfl)) (inW_2 _ (List.mem_of_getElem? (i := 37) rfl)) rfl rfl (by decide +kernel) ⟨Nat.le_of_ble_eq_true rfl, Nat.le_of_ble_eq_true rfl⟩) hK hP hD hS hA hSt rfl hl.1 rfl (Nat.le_of_ble_eq_true rfl) dX1_cut_132 ⟨Nat.le_of_ble_eq_true rfl, Nat.le_of_ble_eq_true rfl⟩ (fun H locs hP hD hS => ?_)
      show W p l e _ s m args below meth c H locs 0 0 Q (F0 m 135 ls (.int (F_X1_restOf (jremL vol n5) n5 voe) :: [.ref ao]))
      refine lv_topi (fun f12 ef12 => ?_)
      have hu := hu _ ef12
      refine va_put (D := D) (ci := 3) (v := .int f12) (ty := .int) (C := RX1) (T := TX1) (N := 8) hx hb hts hi1 tyX1 tyX1_ok nmX1 hown hK hP hD hS 2 rfl rfl 7 (by decide) (hts (.fieldLink RX1 87 "DecimalWords$Outcome" "rest" "I") (inW_2 _ (List.mem_of_getElem? (i := 34) rfl))) (fun _ h9 => h9) rfl (by decide +kernel) rfl rfl (Nat.le_of_ble_eq_true rfl) dX1_cut_135 (fun H locs hP hD hS => ?_)
      have hP : va_P D vwCl (xw cR ax ar ao ad vrd vtr vsd vrn vom voh vol vop voe vow f9 f12 vso vmi vco vex) H := hP
      have hD : va_D A (xw cR ax ar ao ad vrd vtr vsd vrn vom voh vol vop voe vow f9 f12 vso vmi vco vex) := hD
      have e9 := Eq.symm hu; subst e9
      exact x_vret hx hb hr hlocks hQ hK hP hD hS rfl dX1_cut_138
    · rw [if_neg c_2] at hs
      rw [if_neg c_2] at hu
      refine lv_iload_n hx hb dX1_cut_36 rfl (lv_at hl 1 rfl) ?_
      refine lv_bipush (v := 16) hx hb dX1_cut_37 (by decide) ?_
      refine lv_isub hx hb dX1_cut_39 ?_
      obtain ⟨h_14, hs⟩ := hs
      refine x_SN (As := [.int (p0 - 16)]) (rest := []) hCF (c_X3_tenTo l D cR cI cJ cZ t0 (xw cR ax ar ao ad vrd vtr vsd vrn vom voh vol vop voe vow vok vos vso vmi vco vex) (p0 - 16) _ rfl h_14) (x_cwN 1 hts hSt.2.2.2.1 (inW_2 _ (List.mem_of_getElem? (i := 9) rfl)) (inW_1 _ (List.mem_of_getElem? (i := 25) rfl)) (inW_2 _ (List.mem_of_getElem? (i := 10) rfl)) rfl rfl (by decide +kernel) ⟨Nat.le_of_ble_eq_true rfl, Nat.le_of_ble_eq_true rfl⟩) hK hP hD hS hA hSt rfl hl.1 rfl (Nat.le_of_ble_eq_true rfl) dX1_cut_40 ⟨Nat.le_of_ble_eq_true rfl, Nat.le_of_ble_eq_true rfl⟩ (fun H locs hP hD hS => ?_)
      show W p l e _ s m args below meth c H locs 0 0 Q (F0 m 43 ls (.long (F_X3_tenTo (p0 - 16)) :: []))
      refine lv_topl (fun n16 en16 => ?_)
      have hs := hs _ en16
      have hu := hu _ en16
      refine lv_lstore_n (lv' := [(2, .long n16), (0, .ref ao), (1, .int p0)]) hx hb dX1_cut_43 rfl hl (by decide) rfl (fun ls hl => ?_)
      refine lv_aload_n hx hb dX1_cut_44 rfl (lv_at hl 1 rfl) ?_
      refine lv_aload_n hx hb dX1_cut_45 rfl (lv_at hl 1 rfl) ?_
      refine va_get (D := D) (ci := 3) (v := .long voh) (C := RX1) (T := TX1) (N := 8) hx hb hts hi1 hown hK hP 2 rfl rfl 1 (by decide) (hts (.fieldLink RX1 9 "DecimalWords$Outcome" "high" "J") (inW_1 _ (List.mem_of_getElem? (i := 20) rfl))) (fun _ h9 => h9) rfl dX1_cut_46 ?_
      refine lv_lload_n hx hb dX1_cut_49 rfl (lv_at hl 0 rfl) ?_
      have h_17 := hs
      refine lv_ldiv hx hb dX1_cut_50 h_17 ?_
      refine lv_topl (fun f18 ef18 => ?_)
      have hu := hu _ ef18
      refine va_put (D := D) (ci := 3) (v := .long f18) (ty := .long) (C := RX1) (T := TX1) (N := 8) hx hb hts hi1 tyX1 tyX1_ok nmX1 hown hK hP hD hS 2 rfl rfl 6 (by decide) (hts (.fieldLink RX1 84 "DecimalWords$Outcome" "kept" "J") (inW_2 _ (List.mem_of_getElem? (i := 33) rfl))) (fun _ h9 => h9) rfl (by decide +kernel) rfl rfl (Nat.le_of_ble_eq_true rfl) dX1_cut_51 (fun H locs hP hD hS => ?_)
      have hP : va_P D vwCl (xw cR ax ar ao ad vrd vtr vsd vrn vom voh vol vop voe vow f18 vos vso vmi vco vex) H := hP
      have hD : va_D A (xw cR ax ar ao ad vrd vtr vsd vrn vom voh vol vop voe vow f18 vos vso vmi vco vex) := hD
      refine lv_aload_n hx hb dX1_cut_54 rfl (lv_at hl 1 rfl) ?_
      refine lv_aload_n hx hb dX1_cut_55 rfl (lv_at hl 1 rfl) ?_
      refine va_get (D := D) (ci := 3) (v := .long voh) (C := RX1) (T := TX1) (N := 8) hx hb hts hi1 hown hK hP 2 rfl rfl 1 (by decide) (hts (.fieldLink RX1 9 "DecimalWords$Outcome" "high" "J") (inW_1 _ (List.mem_of_getElem? (i := 20) rfl))) (fun _ h9 => h9) rfl dX1_cut_56 ?_
      refine lv_lload_n hx hb dX1_cut_59 rfl (lv_at hl 0 rfl) ?_
      refine x_lrem hx hb dX1_cut_60 h_17 ?_
      refine lv_lload_n hx hb dX1_cut_61 rfl (lv_at hl 0 rfl) ?_
      refine lv_aload_n hx hb dX1_cut_62 rfl (lv_at hl 1 rfl) ?_
      refine va_get (D := D) (ci := 3) (v := .long vol) (C := RX1) (T := TX1) (N := 8) hx hb hts hi1 hown hK hP 2 rfl rfl 2 (by decide) (hts (.fieldLink RX1 15 "DecimalWords$Outcome" "low" "J") (inW_1 _ (List.mem_of_getElem? (i := 21) rfl))) (fun _ h9 => h9) rfl dX1_cut_63 ?_
      refine lv_lconst (v := 0) hx hb dX1_cut_66 (by decide) ?_
      have J_24 : (∀ z23 : Bool, z23 = Z_X1_cut_J_24 vol voe → ∀ (H : Heap) (locs : List Loc), va_P D vwCl (xw cR ax ar ao ad vrd vtr vsd vrn vom voh vol vop voe vow f18 vos vso vmi vco vex) H → va_D A (xw cR ax ar ao ad vrd vtr vsd vrn vom voh vol vop voe vow f18 vos vso vmi vco vex) → va_S A s.heap H locs → ∀ ls : Array Slot, lv_has ls 4 [] → W p l e rm_X1_cut s m args below meth c H locs 0 0 Q (F0 m 83 ls [.int (bI z23), .long n16, .long (jremL voh n16), .ref ao])) := by
        intro z23 ez23 H locs hP hD hS ls hl
        have hu := hu _ ez23
        refine x_S (As := [.long (jremL voh n16), .long n16, .int (bI z23)]) (rest := [.ref ao]) hCF (c_X1_restOf l D cR cI cJ cZ t0 (xw cR ax ar ao ad vrd vtr vsd vrn vom voh vol vop voe vow f18 vos vso vmi vco vex) (jremL voh n16) n16 z23 _ rfl) (x_cwS 3 hts (inW_2 _ (List.mem_of_getElem? (i := 35) rfl)) (inW_2 _ (List.mem_of_getElem? (i := 36) rfl)) (inW_2 _ (List.mem_of_getElem? (i := 4) rfl)) (inW_2 _ (List.mem_of_getElem? (i := 37) rfl)) rfl rfl (by decide +kernel) ⟨Nat.le_of_ble_eq_true rfl, Nat.le_of_ble_eq_true rfl⟩) hK hP hD hS hA hSt rfl hl.1 rfl (Nat.le_of_ble_eq_true rfl) dX1_cut_83 ⟨Nat.le_of_ble_eq_true rfl, Nat.le_of_ble_eq_true rfl⟩ (fun H locs hP hD hS => ?_)
        show W p l e _ s m args below meth c H locs 0 0 Q (F0 m 86 ls (.int (F_X1_restOf (jremL voh n16) n16 z23) :: [.ref ao]))
        refine lv_topi (fun f26 ef26 => ?_)
        have hu := hu _ ef26
        refine va_put (D := D) (ci := 3) (v := .int f26) (ty := .int) (C := RX1) (T := TX1) (N := 8) hx hb hts hi1 tyX1 tyX1_ok nmX1 hown hK hP hD hS 2 rfl rfl 7 (by decide) (hts (.fieldLink RX1 87 "DecimalWords$Outcome" "rest" "I") (inW_2 _ (List.mem_of_getElem? (i := 34) rfl))) (fun _ h9 => h9) rfl (by decide +kernel) rfl rfl (Nat.le_of_ble_eq_true rfl) dX1_cut_86 (fun H locs hP hD hS => ?_)
        have hP : va_P D vwCl (xw cR ax ar ao ad vrd vtr vsd vrn vom voh vol vop voe vow f18 f26 vso vmi vco vex) H := hP
        have hD : va_D A (xw cR ax ar ao ad vrd vtr vsd vrn vom voh vol vop voe vow f18 f26 vso vmi vco vex) := hD
        refine lv_goto (tgt := 138) hx hb dX1_cut_89 (by decide) ?_
        have e9 := Eq.symm hu; subst e9
        exact x_vret hx hb hr hlocks hQ hK hP hD hS rfl dX1_cut_138
      obtain ⟨z9, ez9⟩ : ∃ y9 : Bool, y9 = Z_X1_cut_J_24 vol voe := ⟨_, rfl⟩
      have hz := rZ_X1_cut_J_24 vol voe ez9
      unfold RZ_X1_cut_J_24 at hz
      refine xl_ne (tgt := 78) hx hb dX1_cut_67 dX1_cut_68 (by decide) (fun c_20 => ?_) (fun c_20 => ?_)
      · rw [if_neg c_20] at hz
        refine lv_iconst (v := 1) hx hb dX1_cut_78 (by decide) ?_
        refine lv_goto (tgt := 83) hx hb dX1_cut_79 (by decide) ?_
        have e9 := Eq.symm hz; subst e9
        exact J_24 _ ez9 H locs hP hD hS ls (lv_sub hl [] rfl)
      · rw [if_pos c_20] at hz
        refine lv_aload_n hx hb dX1_cut_71 rfl (lv_at hl 1 rfl) ?_
        refine va_get (D := D) (ci := 3) (v := .int (bI voe)) (C := RX1) (T := TX1) (N := 8) hx hb hts hi1 hown hK hP 2 rfl rfl 4 (by decide) (hts (.fieldLink RX1 18 "DecimalWords$Outcome" "more" "Z") (inW_1 _ (List.mem_of_getElem? (i := 22) rfl))) (fun _ h9 => h9) rfl dX1_cut_72 ?_
        refine xb_eq (tgt := 82) hx hb dX1_cut_75 (by decide) (fun c_21 => ?_) (fun c_21 => ?_)
        · rw [if_neg c_21] at hz
          refine lv_iconst (v := 0) hx hb dX1_cut_82 (by decide) ?_
          have e9 := Eq.symm hz; subst e9
          exact J_24 _ ez9 H locs hP hD hS ls (lv_sub hl [] rfl)
        · rw [if_pos c_21] at hz
          refine lv_iconst (v := 1) hx hb dX1_cut_78 (by decide) ?_
          refine lv_goto (tgt := 83) hx hb dX1_cut_79 (by decide) ?_
          have e9 := Eq.symm hz; subst e9
          exact J_24 _ ez9 H locs hP hD hS ls (lv_sub hl [] rfl)
  · rw [if_neg c_1] at hu
    refine lv_aload_n hx hb dX1_cut_6 rfl (lv_at hl 0 rfl) ?_
    refine lv_lconst (v := 0) hx hb dX1_cut_7 (by decide) ?_
    refine va_put (D := D) (ci := 3) (v := .long 0) (ty := .long) (C := RX1) (T := TX1) (N := 8) hx hb hts hi1 tyX1 tyX1_ok nmX1 hown hK hP hD hS 2 rfl rfl 6 (by decide) (hts (.fieldLink RX1 84 "DecimalWords$Outcome" "kept" "J") (inW_2 _ (List.mem_of_getElem? (i := 33) rfl))) (fun _ h9 => h9) rfl (by decide +kernel) rfl rfl (Nat.le_of_ble_eq_true rfl) dX1_cut_8 (fun H locs hP hD hS => ?_)
    have hP : va_P D vwCl (xw cR ax ar ao ad vrd vtr vsd vrn vom voh vol vop voe vow 0 vos vso vmi vco vex) H := hP
    have hD : va_D A (xw cR ax ar ao ad vrd vtr vsd vrn vom voh vol vop voe vow 0 vos vso vmi vco vex) := hD
    refine lv_aload_n hx hb dX1_cut_11 rfl (lv_at hl 0 rfl) ?_
    refine lv_aload_n hx hb dX1_cut_12 rfl (lv_at hl 0 rfl) ?_
    refine x_V (As := []) (rest := [.ref ao]) hCF (c_X1_isZero l D cR cI cJ cZ t0 ax ar ao ad vrd vtr vsd vrn vom voh vol vop voe vow 0 vos vso vmi vco vex _ rfl) (x_cwV 0 hts (inW_2 _ (List.mem_of_getElem? (i := 20) rfl)) (inW_2 _ (List.mem_of_getElem? (i := 21) rfl)) (inW_2 _ (List.mem_of_getElem? (i := 22) rfl)) (inW_2 _ (List.mem_of_getElem? (i := 4) rfl)) (inW_1 _ (List.mem_of_getElem? (i := 19) rfl)) rfl rfl (by decide +kernel) ⟨Nat.le_of_ble_eq_true rfl, Nat.le_of_ble_eq_true rfl⟩) hK hP hD hS hA hSt 2 rfl rfl rfl hl.1 rfl (Nat.le_of_ble_eq_true rfl) dX1_cut_13 ⟨Nat.le_of_ble_eq_true rfl, Nat.le_of_ble_eq_true rfl⟩ (fun H locs hP hD hS => ?_)
    show W p l e _ s m args below meth c H locs 0 0 Q (F0 m 16 ls (.int (bI (F_X1_isZero voh vol voe)) :: [.ref ao]))
    have J_33 : (∀ z32 : Bool, z32 = Z_X1_cut_J_33 voh vol voe → ∀ (H : Heap) (locs : List Loc), va_P D vwCl (xw cR ax ar ao ad vrd vtr vsd vrn vom voh vol vop voe vow 0 vos vso vmi vco vex) H → va_D A (xw cR ax ar ao ad vrd vtr vsd vrn vom voh vol vop voe vow 0 vos vso vmi vco vex) → va_S A s.heap H locs → ∀ ls : Array Slot, lv_has ls 4 [] → W p l e rm_X1_cut s m args below meth c H locs 0 0 Q (F0 m 24 ls [.int (bI z32), .ref ao])) := by
      intro z32 ez32 H locs hP hD hS ls hl
      have hu := hu _ ez32
      refine va_put (D := D) (ci := 3) (v := .int (bI z32)) (ty := .int) (C := RX1) (T := TX1) (N := 8) hx hb hts hi1 tyX1 tyX1_ok nmX1 hown hK hP hD hS 2 rfl rfl 7 (by decide) (hts (.fieldLink RX1 87 "DecimalWords$Outcome" "rest" "I") (inW_2 _ (List.mem_of_getElem? (i := 34) rfl))) (fun _ h9 => h9) rfl (by decide +kernel) rfl rfl (Nat.le_of_ble_eq_true rfl) dX1_cut_24 (fun H locs hP hD hS => ?_)
      have hP : va_P D vwCl (xw cR ax ar ao ad vrd vtr vsd vrn vom voh vol vop voe vow 0 (bI z32) vso vmi vco vex) H := hP
      have hD : va_D A (xw cR ax ar ao ad vrd vtr vsd vrn vom voh vol vop voe vow 0 (bI z32) vso vmi vco vex) := hD
      refine lv_goto (tgt := 138) hx hb dX1_cut_27 (by decide) ?_
      have e9 := Eq.symm hu; subst e9
      exact x_vret hx hb hr hlocks hQ hK hP hD hS rfl dX1_cut_138
    obtain ⟨z9, ez9⟩ : ∃ y9 : Bool, y9 = Z_X1_cut_J_33 voh vol voe := ⟨_, rfl⟩
    have hz := rZ_X1_cut_J_33 voh vol voe ez9
    unfold RZ_X1_cut_J_33 at hz
    refine xb_eq (tgt := 23) hx hb dX1_cut_16 (by decide) (fun c_30 => ?_) (fun c_30 => ?_)
    · rw [if_neg c_30] at hz
      refine lv_iconst (v := 1) hx hb dX1_cut_23 (by decide) ?_
      have e9 := Eq.symm hz; subst e9
      exact J_33 _ ez9 H locs hP hD hS ls (lv_sub hl [] rfl)
    · rw [if_pos c_30] at hz
      refine lv_iconst (v := 0) hx hb dX1_cut_19 (by decide) ?_
      refine lv_goto (tgt := 24) hx hb dX1_cut_20 (by decide) ?_
      have e9 := Eq.symm hz; subst e9
      exact J_33 _ ez9 H locs hP hD hS ls (lv_sub hl [] rfl)
end
section
def Z_X1_join_J_51 (z27 : Int64) (z35 : Bool) : Int64 := (if z35 = true then (-z27) - 1 else -z27)
def RZ_X1_join_J_51 (z27 : Int64) (z35 : Bool) (u9 : Int64) : Prop := (if z35 = true then u9 = (-z27) - 1 else u9 = -z27)
theorem rZ_X1_join_J_51 (z27 : Int64) (z35 : Bool) {u9 : Int64} (hu : u9 = Z_X1_join_J_51 z27 z35) : RZ_X1_join_J_51 z27 z35 u9 := by
  unfold RZ_X1_join_J_51
  refine ite_P (fun c_48 => ?_) (fun c_48 => ?_)
  · have hu := hu.trans (if_pos c_48)
    exact hu
  · have hu := hu.trans (if_neg c_48)
    exact hu
def Z_X1_join_J_44 (z27 : Int64) (z35 : Bool) : Int64 := (if z35 = true then (-z27) - 1 else -z27)
def RZ_X1_join_J_44 (z27 : Int64) (z35 : Bool) (u9 : Int64) : Prop := (if z35 = true then u9 = (-z27) - 1 else u9 = -z27)
theorem rZ_X1_join_J_44 (z27 : Int64) (z35 : Bool) {u9 : Int64} (hu : u9 = Z_X1_join_J_44 z27 z35) : RZ_X1_join_J_44 z27 z35 u9 := by
  unfold RZ_X1_join_J_44
  refine ite_P (fun c_41 => ?_) (fun c_41 => ?_)
  · have hu := hu.trans (if_pos c_41)
    exact hu
  · have hu := hu.trans (if_neg c_41)
    exact hu
def Z_X1_join_J_36 (vco : Nat → Int64) (i2 : Nat) (n21 : Int32) : Bool := (if 16 < n21 then true else (if jremL (vco i2) (F_X3_tenTo n21) = 0 then false else true))
def RZ_X1_join_J_36 (vco : Nat → Int64) (i2 : Nat) (n21 : Int32) (u9 : Bool) : Prop := (if 16 < n21 then u9 = true else (if jremL (vco i2) (F_X3_tenTo n21) = 0 then u9 = false else u9 = true))
theorem rZ_X1_join_J_36 (vco : Nat → Int64) (i2 : Nat) (n21 : Int32) {u9 : Bool} (hu : u9 = Z_X1_join_J_36 vco i2 n21) : RZ_X1_join_J_36 vco i2 n21 u9 := by
  unfold RZ_X1_join_J_36
  refine ite_P (fun c_29 => ?_) (fun c_29 => ?_)
  · have hu := hu.trans (if_pos c_29)
    exact hu
  · have hu := hu.trans (if_neg c_29)
    refine ite_P (fun c_33 => ?_) (fun c_33 => ?_)
    · have hu := hu.trans (if_pos c_33)
      exact hu
    · have hu := hu.trans (if_neg c_33)
      exact hu
def Z_X1_join_J_28 (vco : Nat → Int64) (i2 : Nat) (n21 : Int32) : Int64 := (if n21 ≤ 16 then (vco i2) / (F_X3_tenTo n21) else 0)
def RZ_X1_join_J_28 (vco : Nat → Int64) (i2 : Nat) (n21 : Int32) (u9 : Int64) : Prop := (if n21 ≤ 16 then u9 = (vco i2) / (F_X3_tenTo n21) else u9 = 0)
theorem rZ_X1_join_J_28 (vco : Nat → Int64) (i2 : Nat) (n21 : Int32) {u9 : Int64} (hu : u9 = Z_X1_join_J_28 vco i2 n21) : RZ_X1_join_J_28 vco i2 n21 u9 := by
  unfold RZ_X1_join_J_28
  refine ite_P (fun c_22 => ?_) (fun c_22 => ?_)
  · have hu := hu.trans (if_pos c_22)
    exact hu
  · have hu := hu.trans (if_neg c_22)
    exact hu
def F_X1_join (vco : Nat → Int64) (vex : Nat → Int32) (i1 : Nat) (i2 : Nat) (p2 : Bool) : Bool × Int64 × Int64 × Int32 × Bool := (bnd ((vex i1) - (vex i2)) (fun n1 : Int32 => (bnd (jmin n1 (16 - (F_X3_digitsOf (vco i1)))) (fun n4 : Int32 => (bnd (jmin (n1 - n4) 16) (fun n5 : Int32 => (bnd ((vco i1) * (F_X3_tenTo n4)) (fun n8 : Int64 => (bnd (n8 / (F_X3_tenTo (16 - n5))) (fun f12 : Int64 => (bnd ((jremL n8 (F_X3_tenTo (16 - n5))) * (F_X3_tenTo n5)) (fun f17 : Int64 => (bnd (((vex i1) - n4) - n5) (fun f19 : Int32 => (bnd ((n1 - n4) - n5) (fun n21 : Int32 => (bnd (Z_X1_join_J_28 vco i2 n21) (fun z27 : Int64 => (bnd (Z_X1_join_J_36 vco i2 n21) (fun z35 : Bool => (if p2 = true then (bnd (F_X1_addToLow f12 f17 z27) (fun u57 : Int64 × Int64 => (false, u57.1, u57.2, f19, z35))) else (if f12 = 0 then (if z27 ≤ f17 then (bnd (Z_X1_join_J_51 z27 z35) (fun z50 : Int64 => (bnd (F_X1_addToLow f12 f17 z50) (fun u52 : Int64 × Int64 => (false, u52.1, u52.2, f19, z35))))) else (bnd (z27 - f17) (fun f54 : Int64 => (true, f12, f54, f19, z35)))) else (bnd (Z_X1_join_J_44 z27 z35) (fun z43 : Int64 => (bnd (F_X1_addToLow f12 f17 z43) (fun u45 : Int64 × Int64 => (false, u45.1, u45.2, f19, z35)))))))))))))))))))))))))))
def RF_X1_join (vco : Nat → Int64) (vex : Nat → Int32) (i1 : Nat) (i2 : Nat) (p2 : Bool) (u9 : Bool × Int64 × Int64 × Int32 × Bool) : Prop := (∀ n1 : Int32, n1 = (vex i1) - (vex i2) → (∀ n4 : Int32, n4 = jmin n1 (16 - (F_X3_digitsOf (vco i1))) → (∀ n5 : Int32, n5 = jmin (n1 - n4) 16 → (∀ n8 : Int64, n8 = (vco i1) * (F_X3_tenTo n4) → (∀ f12 : Int64, f12 = n8 / (F_X3_tenTo (16 - n5)) → (∀ f17 : Int64, f17 = (jremL n8 (F_X3_tenTo (16 - n5))) * (F_X3_tenTo n5) → (∀ f19 : Int32, f19 = ((vex i1) - n4) - n5 → (∀ n21 : Int32, n21 = (n1 - n4) - n5 → (∀ z27 : Int64, z27 = Z_X1_join_J_28 vco i2 n21 → (∀ z35 : Bool, z35 = Z_X1_join_J_36 vco i2 n21 → (if p2 = true then (∀ u57 : Int64 × Int64, u57 = F_X1_addToLow f12 f17 z27 → u9 = (false, u57.1, u57.2, f19, z35)) else (if f12 = 0 then (if z27 ≤ f17 then (∀ z50 : Int64, z50 = Z_X1_join_J_51 z27 z35 → (∀ u52 : Int64 × Int64, u52 = F_X1_addToLow f12 f17 z50 → u9 = (false, u52.1, u52.2, f19, z35))) else (∀ f54 : Int64, f54 = z27 - f17 → u9 = (true, f12, f54, f19, z35))) else (∀ z43 : Int64, z43 = Z_X1_join_J_44 z27 z35 → (∀ u45 : Int64 × Int64, u45 = F_X1_addToLow f12 f17 z43 → u9 = (false, u45.1, u45.2, f19, z35)))))))))))))))
theorem rF_X1_join (vco : Nat → Int64) (vex : Nat → Int32) (i1 : Nat) (i2 : Nat) (p2 : Bool) {u9 : Bool × Int64 × Int64 × Int32 × Bool} (hu : u9 = F_X1_join vco vex i1 i2 p2) : RF_X1_join vco vex i1 i2 p2 u9 := by
  unfold RF_X1_join
  intro n1 en1
  have hu := bnd_n hu en1
  intro n4 en4
  have hu := bnd_n hu en4
  intro n5 en5
  have hu := bnd_n hu en5
  intro n8 en8
  have hu := bnd_n hu en8
  intro f12 ef12
  have hu := bnd_n hu ef12
  intro f17 ef17
  have hu := bnd_n hu ef17
  intro f19 ef19
  have hu := bnd_n hu ef19
  intro n21 en21
  have hu := bnd_n hu en21
  intro z27 ez27
  have hu := bnd_n hu ez27
  intro z35 ez35
  have hu := bnd_n hu ez35
  refine ite_P (fun c_39 => ?_) (fun c_39 => ?_)
  · have hu := hu.trans (if_pos c_39)
    intro u57 eu57
    have hu := bnd_n hu eu57
    exact hu
  · have hu := hu.trans (if_neg c_39)
    refine ite_P (fun c_40 => ?_) (fun c_40 => ?_)
    · have hu := hu.trans (if_pos c_40)
      refine ite_P (fun c_47 => ?_) (fun c_47 => ?_)
      · have hu := hu.trans (if_pos c_47)
        intro z50 ez50
        have hu := bnd_n hu ez50
        intro u52 eu52
        have hu := bnd_n hu eu52
        exact hu
      · have hu := hu.trans (if_neg c_47)
        intro f54 ef54
        have hu := bnd_n hu ef54
        exact hu
    · have hu := hu.trans (if_neg c_40)
      intro z43 ez43
      have hu := bnd_n hu ez43
      intro u45 eu45
      have hu := bnd_n hu eu45
      exact hu
def S_X1_join (vco : Nat → Int64) (vex : Nat → Int32) (i1 : Nat) (i2 : Nat) (p2 : Bool) : Prop := (∀ n1 : Int32, n1 = (vex i1) - (vex i2) → (S_X3_digitsOf (vco i1)) ∧ (∀ n4 : Int32, n4 = jmin n1 (16 - (F_X3_digitsOf (vco i1))) → (∀ n5 : Int32, n5 = jmin (n1 - n4) 16 → (S_X3_tenTo n4) ∧ (∀ n8 : Int64, n8 = (vco i1) * (F_X3_tenTo n4) → (S_X3_tenTo (16 - n5)) ∧ (¬ (F_X3_tenTo (16 - n5)) = 0) ∧ (∀ f12 : Int64, f12 = n8 / (F_X3_tenTo (16 - n5)) → (S_X3_tenTo n5) ∧ (∀ f17 : Int64, f17 = (jremL n8 (F_X3_tenTo (16 - n5))) * (F_X3_tenTo n5) → (∀ f19 : Int32, f19 = ((vex i1) - n4) - n5 → (∀ n21 : Int32, n21 = (n1 - n4) - n5 → ((if n21 ≤ 16 then (S_X3_tenTo n21) ∧ ¬ (F_X3_tenTo n21) = 0 else True)) ∧ (∀ z27 : Int64, z27 = Z_X1_join_J_28 vco i2 n21 → (if 16 < n21 then True else (S_X3_tenTo n21) ∧ ¬ (F_X3_tenTo n21) = 0))))))))))
def rm_X1_join : Room := { frames := 2, cells := 0, slots := 0, locals := 60 }
set_option maxHeartbeats 4000000 in
set_option maxRecDepth 100000 in
theorem c_X1_join (l : Launch) (D : va_G) (cR cI cJ cZ : ClassId) (t0 : Nat) (ax ar ao : Nat) (ad : Nat → Nat) (vrd : Int32) (vtr : Int32) (vsd : Int32) (vrn : Int32) (vom : Bool) (voh : Int64) (vol : Int64) (vop : Int32) (voe : Bool) (vow : Int32) (vok : Int64) (vos : Int32) (vso : Nat → Int32) (vmi : Nat → Bool) (vco : Nat → Int64) (vex : Nat → Int32) (i1 : Nat) (i2 : Nat) (p2 : Bool) (u : Bool × Int64 × Int64 × Int32 × Bool) (hu : u = F_X1_join vco vex i1 i2 p2) (hs : S_X1_join vco vex i1 i2 p2) (hb1 : i1 < 9) (hb2 : i2 < 9) : XM l D (xty cR cI cJ cZ) t0 yX1_join cX1_join 12 none rm_X1_join [.ref ao, .ref (ad i1), .ref (ad i2), .int (bI p2)] none (xw cR ax ar ao ad vrd vtr vsd vrn vom voh vol vop voe vow vok vos vso vmi vco vex) (xw cR ax ar ao ad vrd vtr vsd vrn u.1 u.2.1 u.2.2.1 u.2.2.2.1 u.2.2.2.2 vow vok vos vso vmi vco vex) := by
  refine XM.of (by decide) (Nat.le_of_ble_eq_true rfl) ?_
  intro p e s m args below meth c A Q F hK hP hD hA hSt hS hQ ls hl
  obtain ⟨hx, hb, hr, hts, hown, hlocks, hml⟩ := F
  have hCF : CallFix p m c cX1_join 12 s args gW RX1 := ⟨hx, hb, hml, hown, hts⟩
  unfold S_X1_join at hs
  have hu := rF_X1_join vco vex i1 i2 p2 hu
  unfold RF_X1_join at hu
  obtain ⟨H, eH⟩ : ∃ y9 : Heap, y9 = s.heap := ⟨_, rfl⟩
  obtain ⟨locs, eL⟩ : ∃ y9 : List Loc, y9 = [] := ⟨_, rfl⟩
  rw [← eL] at hS ⊢
  have hP : va_P D vwCl (xw cR ax ar ao ad vrd vtr vsd vrn vom voh vol vop voe vow vok vos vso vmi vco vex) H := by rw [eH]; exact hP
  have hS : va_S A s.heap H locs := by rw [eH]; exact hS
  suffices goal9 : W p l e rm_X1_join s m args below meth c H locs 0 0 Q (F0 m 0 ls []) from by rw [← eH]; exact goal9
  have hl : lv_has ls 12 [(0, .ref ao), (1, .ref (ad i1)), (2, .ref (ad i2)), (3, .int (bI p2))] := hl
  have hi0 : ∀ w ∈ wsX00, w ∈ gW := inW_X0
  have hi1 : ∀ w ∈ wsX10, w ∈ gW := inW_X1
  refine lv_aload_n hx hb dX1_join_0 rfl (lv_at hl 1 rfl) ?_
  refine g_ex (i := i1) hx hb hts hi0 hown hK hP hb1 (hts (.fieldLink RX1 35 "DecimalWords$Datum" "exponent" "I") (inW_1 _ (List.mem_of_getElem? (i := 32) rfl))) dX1_join_1 ?_
  refine lv_aload_n hx hb dX1_join_4 rfl (lv_at hl 2 rfl) ?_
  refine g_ex (i := i2) hx hb hts hi0 hown hK hP hb2 (hts (.fieldLink RX1 35 "DecimalWords$Datum" "exponent" "I") (inW_1 _ (List.mem_of_getElem? (i := 32) rfl))) dX1_join_5 ?_
  refine lv_isub hx hb dX1_join_8 ?_
  refine lv_topi (fun n1 en1 => ?_)
  have hs := hs _ en1
  have hu := hu _ en1
  refine lv_istore (lv' := [(4, .int n1), (0, .ref ao), (1, .ref (ad i1)), (2, .ref (ad i2)), (3, .int (bI p2))]) hx hb dX1_join_9 hl (by decide) rfl (fun ls hl => ?_)
  refine lv_iload hx hb dX1_join_11 (lv_at hl 0 rfl) ?_
  refine lv_bipush (v := 16) hx hb dX1_join_13 (by decide) ?_
  refine lv_aload_n hx hb dX1_join_15 rfl (lv_at hl 2 rfl) ?_
  refine g_co (i := i1) hx hb hts hi0 hown hK hP hb1 (hts (.fieldLink RX1 32 "DecimalWords$Datum" "coefficient" "J") (inW_1 _ (List.mem_of_getElem? (i := 31) rfl))) dX1_join_16 ?_
  obtain ⟨h_2, hs⟩ := hs
  refine x_SN (As := [.long (vco i1)]) (rest := [.int 16, .int n1]) hCF (c_X3_digitsOf l D cR cI cJ cZ t0 (xw cR ax ar ao ad vrd vtr vsd vrn vom voh vol vop voe vow vok vos vso vmi vco vex) (vco i1) _ rfl h_2) (x_cwN 1 hts hSt.2.2.1 (inW_1 _ (List.mem_of_getElem? (i := 24) rfl)) (inW_1 _ (List.mem_of_getElem? (i := 25) rfl)) (inW_1 _ (List.mem_of_getElem? (i := 26) rfl)) rfl rfl (by decide +kernel) ⟨Nat.le_of_ble_eq_true rfl, Nat.le_of_ble_eq_true rfl⟩) hK hP hD hS hA hSt rfl hl.1 rfl (Nat.le_of_ble_eq_true rfl) dX1_join_19 ⟨Nat.le_of_ble_eq_true rfl, Nat.le_of_ble_eq_true rfl⟩ (fun H locs hP hD hS => ?_)
  show W p l e _ s m args below meth c H locs 0 0 Q (F0 m 22 ls (.int (F_X3_digitsOf (vco i1)) :: [.int 16, .int n1]))
  refine lv_isub hx hb dX1_join_22 ?_
  refine x_min hx hb hml hl.1 hts hown (inW_1 _ (List.mem_of_getElem? (i := 35) rfl)) (inW_1 _ (List.mem_of_getElem? (i := 36) rfl)) (inW_1 _ (List.mem_of_getElem? (i := 37) rfl)) (inW_1 _ (List.mem_of_getElem? (i := 38) rfl)) (Nat.le_of_ble_eq_true rfl) (Nat.le_of_ble_eq_true rfl) (Nat.le_of_ble_eq_true rfl) (Nat.le_of_ble_eq_true rfl) dX1_join_23 ?_
  refine lv_topi (fun n4 en4 => ?_)
  have hs := hs _ en4
  have hu := hu _ en4
  refine lv_istore (lv' := [(5, .int n4), (4, .int n1), (0, .ref ao), (1, .ref (ad i1)), (2, .ref (ad i2)), (3, .int (bI p2))]) hx hb dX1_join_26 hl (by decide) rfl (fun ls hl => ?_)
  refine lv_iload hx hb dX1_join_28 (lv_at hl 1 rfl) ?_
  refine lv_iload hx hb dX1_join_30 (lv_at hl 0 rfl) ?_
  refine lv_isub hx hb dX1_join_32 ?_
  refine lv_bipush (v := 16) hx hb dX1_join_33 (by decide) ?_
  refine x_min hx hb hml hl.1 hts hown (inW_1 _ (List.mem_of_getElem? (i := 35) rfl)) (inW_1 _ (List.mem_of_getElem? (i := 36) rfl)) (inW_1 _ (List.mem_of_getElem? (i := 37) rfl)) (inW_1 _ (List.mem_of_getElem? (i := 38) rfl)) (Nat.le_of_ble_eq_true rfl) (Nat.le_of_ble_eq_true rfl) (Nat.le_of_ble_eq_true rfl) (Nat.le_of_ble_eq_true rfl) dX1_join_35 ?_
  refine lv_topi (fun n5 en5 => ?_)
  have hs := hs _ en5
  have hu := hu _ en5
  refine lv_istore (lv' := [(6, .int n5), (5, .int n4), (4, .int n1), (0, .ref ao), (1, .ref (ad i1)), (2, .ref (ad i2)), (3, .int (bI p2))]) hx hb dX1_join_38 hl (by decide) rfl (fun ls hl => ?_)
  refine lv_aload_n hx hb dX1_join_40 rfl (lv_at hl 4 rfl) ?_
  refine g_co (i := i1) hx hb hts hi0 hown hK hP hb1 (hts (.fieldLink RX1 32 "DecimalWords$Datum" "coefficient" "J") (inW_1 _ (List.mem_of_getElem? (i := 31) rfl))) dX1_join_41 ?_
  refine lv_iload hx hb dX1_join_44 (lv_at hl 1 rfl) ?_
  obtain ⟨h_6, hs⟩ := hs
  refine x_SN (As := [.int n4]) (rest := [.long (vco i1)]) hCF (c_X3_tenTo l D cR cI cJ cZ t0 (xw cR ax ar ao ad vrd vtr vsd vrn vom voh vol vop voe vow vok vos vso vmi vco vex) n4 _ rfl h_6) (x_cwN 1 hts hSt.2.2.2.1 (inW_2 _ (List.mem_of_getElem? (i := 9) rfl)) (inW_1 _ (List.mem_of_getElem? (i := 25) rfl)) (inW_2 _ (List.mem_of_getElem? (i := 10) rfl)) rfl rfl (by decide +kernel) ⟨Nat.le_of_ble_eq_true rfl, Nat.le_of_ble_eq_true rfl⟩) hK hP hD hS hA hSt rfl hl.1 rfl (Nat.le_of_ble_eq_true rfl) dX1_join_46 ⟨Nat.le_of_ble_eq_true rfl, Nat.le_of_ble_eq_true rfl⟩ (fun H locs hP hD hS => ?_)
  show W p l e _ s m args below meth c H locs 0 0 Q (F0 m 49 ls (.long (F_X3_tenTo n4) :: [.long (vco i1)]))
  refine lv_lmul hx hb dX1_join_49 ?_
  refine lv_topl (fun n8 en8 => ?_)
  have hs := hs _ en8
  have hu := hu _ en8
  refine lv_lstore (lv' := [(7, .long n8), (6, .int n5), (5, .int n4), (4, .int n1), (0, .ref ao), (1, .ref (ad i1)), (2, .ref (ad i2)), (3, .int (bI p2))]) hx hb dX1_join_50 hl (by decide) rfl (fun ls hl => ?_)
  refine lv_aload_n hx hb dX1_join_52 rfl (lv_at hl 4 rfl) ?_
  refine lv_lload hx hb dX1_join_53 (lv_at hl 0 rfl) ?_
  refine lv_bipush (v := 16) hx hb dX1_join_55 (by decide) ?_
  refine lv_iload hx hb dX1_join_57 (lv_at hl 1 rfl) ?_
  refine lv_isub hx hb dX1_join_59 ?_
  obtain ⟨h_9, hs⟩ := hs
  refine x_SN (As := [.int (16 - n5)]) (rest := [.long n8, .ref ao]) hCF (c_X3_tenTo l D cR cI cJ cZ t0 (xw cR ax ar ao ad vrd vtr vsd vrn vom voh vol vop voe vow vok vos vso vmi vco vex) (16 - n5) _ rfl h_9) (x_cwN 1 hts hSt.2.2.2.1 (inW_2 _ (List.mem_of_getElem? (i := 9) rfl)) (inW_1 _ (List.mem_of_getElem? (i := 25) rfl)) (inW_2 _ (List.mem_of_getElem? (i := 10) rfl)) rfl rfl (by decide +kernel) ⟨Nat.le_of_ble_eq_true rfl, Nat.le_of_ble_eq_true rfl⟩) hK hP hD hS hA hSt rfl hl.1 rfl (Nat.le_of_ble_eq_true rfl) dX1_join_60 ⟨Nat.le_of_ble_eq_true rfl, Nat.le_of_ble_eq_true rfl⟩ (fun H locs hP hD hS => ?_)
  show W p l e _ s m args below meth c H locs 0 0 Q (F0 m 63 ls (.long (F_X3_tenTo (16 - n5)) :: [.long n8, .ref ao]))
  obtain ⟨h_11, hs⟩ := hs
  refine lv_ldiv hx hb dX1_join_63 h_11 ?_
  refine lv_topl (fun f12 ef12 => ?_)
  have hs := hs _ ef12
  have hu := hu _ ef12
  refine va_put (D := D) (ci := 3) (v := .long f12) (ty := .long) (C := RX1) (T := TX1) (N := 8) hx hb hts hi1 tyX1 tyX1_ok nmX1 hown hK hP hD hS 2 rfl rfl 1 (by decide) (hts (.fieldLink RX1 9 "DecimalWords$Outcome" "high" "J") (inW_1 _ (List.mem_of_getElem? (i := 20) rfl))) (fun _ h9 => h9) rfl (by decide +kernel) rfl rfl (Nat.le_of_ble_eq_true rfl) dX1_join_64 (fun H locs hP hD hS => ?_)
  have hP : va_P D vwCl (xw cR ax ar ao ad vrd vtr vsd vrn vom f12 vol vop voe vow vok vos vso vmi vco vex) H := hP
  have hD : va_D A (xw cR ax ar ao ad vrd vtr vsd vrn vom f12 vol vop voe vow vok vos vso vmi vco vex) := hD
  refine lv_aload_n hx hb dX1_join_67 rfl (lv_at hl 4 rfl) ?_
  refine lv_lload hx hb dX1_join_68 (lv_at hl 0 rfl) ?_
  refine lv_bipush (v := 16) hx hb dX1_join_70 (by decide) ?_
  refine lv_iload hx hb dX1_join_72 (lv_at hl 1 rfl) ?_
  refine lv_isub hx hb dX1_join_74 ?_
  refine x_SN (As := [.int (16 - n5)]) (rest := [.long n8, .ref ao]) hCF (c_X3_tenTo l D cR cI cJ cZ t0 (xw cR ax ar ao ad vrd vtr vsd vrn vom f12 vol vop voe vow vok vos vso vmi vco vex) (16 - n5) _ rfl h_9) (x_cwN 1 hts hSt.2.2.2.1 (inW_2 _ (List.mem_of_getElem? (i := 9) rfl)) (inW_1 _ (List.mem_of_getElem? (i := 25) rfl)) (inW_2 _ (List.mem_of_getElem? (i := 10) rfl)) rfl rfl (by decide +kernel) ⟨Nat.le_of_ble_eq_true rfl, Nat.le_of_ble_eq_true rfl⟩) hK hP hD hS hA hSt rfl hl.1 rfl (Nat.le_of_ble_eq_true rfl) dX1_join_75 ⟨Nat.le_of_ble_eq_true rfl, Nat.le_of_ble_eq_true rfl⟩ (fun H locs hP hD hS => ?_)
  show W p l e _ s m args below meth c H locs 0 0 Q (F0 m 78 ls (.long (F_X3_tenTo (16 - n5)) :: [.long n8, .ref ao]))
  refine x_lrem hx hb dX1_join_78 h_11 ?_
  refine lv_iload hx hb dX1_join_79 (lv_at hl 1 rfl) ?_
  obtain ⟨h_15, hs⟩ := hs
  refine x_SN (As := [.int n5]) (rest := [.long (jremL n8 (F_X3_tenTo (16 - n5))), .ref ao]) hCF (c_X3_tenTo l D cR cI cJ cZ t0 (xw cR ax ar ao ad vrd vtr vsd vrn vom f12 vol vop voe vow vok vos vso vmi vco vex) n5 _ rfl h_15) (x_cwN 1 hts hSt.2.2.2.1 (inW_2 _ (List.mem_of_getElem? (i := 9) rfl)) (inW_1 _ (List.mem_of_getElem? (i := 25) rfl)) (inW_2 _ (List.mem_of_getElem? (i := 10) rfl)) rfl rfl (by decide +kernel) ⟨Nat.le_of_ble_eq_true rfl, Nat.le_of_ble_eq_true rfl⟩) hK hP hD hS hA hSt rfl hl.1 rfl (Nat.le_of_ble_eq_true rfl) dX1_join_81 ⟨Nat.le_of_ble_eq_true rfl, Nat.le_of_ble_eq_true rfl⟩ (fun H locs hP hD hS => ?_)
  show W p l e _ s m args below meth c H locs 0 0 Q (F0 m 84 ls (.long (F_X3_tenTo n5) :: [.long (jremL n8 (F_X3_tenTo (16 - n5))), .ref ao]))
  refine lv_lmul hx hb dX1_join_84 ?_
  refine lv_topl (fun f17 ef17 => ?_)
  have hs := hs _ ef17
  have hu := hu _ ef17
  refine va_put (D := D) (ci := 3) (v := .long f17) (ty := .long) (C := RX1) (T := TX1) (N := 8) hx hb hts hi1 tyX1 tyX1_ok nmX1 hown hK hP hD hS 2 rfl rfl 2 (by decide) (hts (.fieldLink RX1 15 "DecimalWords$Outcome" "low" "J") (inW_1 _ (List.mem_of_getElem? (i := 21) rfl))) (fun _ h9 => h9) rfl (by decide +kernel) rfl rfl (Nat.le_of_ble_eq_true rfl) dX1_join_85 (fun H locs hP hD hS => ?_)
  have hP : va_P D vwCl (xw cR ax ar ao ad vrd vtr vsd vrn vom f12 f17 vop voe vow vok vos vso vmi vco vex) H := hP
  have hD : va_D A (xw cR ax ar ao ad vrd vtr vsd vrn vom f12 f17 vop voe vow vok vos vso vmi vco vex) := hD
  refine lv_aload_n hx hb dX1_join_88 rfl (lv_at hl 4 rfl) ?_
  refine lv_aload_n hx hb dX1_join_89 rfl (lv_at hl 5 rfl) ?_
  refine g_ex (i := i1) hx hb hts hi0 hown hK hP hb1 (hts (.fieldLink RX1 35 "DecimalWords$Datum" "exponent" "I") (inW_1 _ (List.mem_of_getElem? (i := 32) rfl))) dX1_join_90 ?_
  refine lv_iload hx hb dX1_join_93 (lv_at hl 2 rfl) ?_
  refine lv_isub hx hb dX1_join_95 ?_
  refine lv_iload hx hb dX1_join_96 (lv_at hl 1 rfl) ?_
  refine lv_isub hx hb dX1_join_98 ?_
  refine lv_topi (fun f19 ef19 => ?_)
  have hs := hs _ ef19
  have hu := hu _ ef19
  refine va_put (D := D) (ci := 3) (v := .int f19) (ty := .int) (C := RX1) (T := TX1) (N := 8) hx hb hts hi1 tyX1 tyX1_ok nmX1 hown hK hP hD hS 2 rfl rfl 3 (by decide) (hts (.fieldLink RX1 39 "DecimalWords$Outcome" "power" "I") (inW_1 _ (List.mem_of_getElem? (i := 33) rfl))) (fun _ h9 => h9) rfl (by decide +kernel) rfl rfl (Nat.le_of_ble_eq_true rfl) dX1_join_99 (fun H locs hP hD hS => ?_)
  have hP : va_P D vwCl (xw cR ax ar ao ad vrd vtr vsd vrn vom f12 f17 f19 voe vow vok vos vso vmi vco vex) H := hP
  have hD : va_D A (xw cR ax ar ao ad vrd vtr vsd vrn vom f12 f17 f19 voe vow vok vos vso vmi vco vex) := hD
  refine lv_iload hx hb dX1_join_102 (lv_at hl 3 rfl) ?_
  refine lv_iload hx hb dX1_join_104 (lv_at hl 2 rfl) ?_
  refine lv_isub hx hb dX1_join_106 ?_
  refine lv_iload hx hb dX1_join_107 (lv_at hl 1 rfl) ?_
  refine lv_isub hx hb dX1_join_109 ?_
  refine lv_topi (fun n21 en21 => ?_)
  have hs := hs _ en21
  have hu := hu _ en21
  refine lv_istore (lv' := [(9, .int n21), (7, .long n8), (6, .int n5), (5, .int n4), (4, .int n1), (0, .ref ao), (1, .ref (ad i1)), (2, .ref (ad i2)), (3, .int (bI p2))]) hx hb dX1_join_110 hl (by decide) rfl (fun ls hl => ?_)
  refine lv_iload hx hb dX1_join_112 (lv_at hl 0 rfl) ?_
  refine lv_bipush (v := 16) hx hb dX1_join_114 (by decide) ?_
  have J_28 : (∀ z27 : Int64, z27 = Z_X1_join_J_28 vco i2 n21 → ∀ (H : Heap) (locs : List Loc), va_P D vwCl (xw cR ax ar ao ad vrd vtr vsd vrn vom f12 f17 f19 voe vow vok vos vso vmi vco vex) H → va_D A (xw cR ax ar ao ad vrd vtr vsd vrn vom f12 f17 f19 voe vow vok vos vso vmi vco vex) → va_S A s.heap H locs → ∀ ls : Array Slot, lv_has ls 12 [(0, .ref ao), (2, .ref (ad i2)), (3, .int (bI p2)), (9, .int n21)] → W p l e rm_X1_join s m args below meth c H locs 0 0 Q (F0 m 133 ls [.long z27])) := by
    intro z27 ez27 H locs hP hD hS ls hl
    have hs := hs.2
    have hs := hs _ ez27
    have hu := hu _ ez27
    refine lv_lstore (lv' := [(10, .long z27), (0, .ref ao), (2, .ref (ad i2)), (3, .int (bI p2)), (9, .int n21)]) hx hb dX1_join_133 hl (by decide) rfl (fun ls hl => ?_)
    refine lv_aload_n hx hb dX1_join_135 rfl (lv_at hl 1 rfl) ?_
    refine lv_iload hx hb dX1_join_136 (lv_at hl 4 rfl) ?_
    refine lv_bipush (v := 16) hx hb dX1_join_138 (by decide) ?_
    have J_36 : (∀ z35 : Bool, z35 = Z_X1_join_J_36 vco i2 n21 → ∀ (H : Heap) (locs : List Loc), va_P D vwCl (xw cR ax ar ao ad vrd vtr vsd vrn vom f12 f17 f19 voe vow vok vos vso vmi vco vex) H → va_D A (xw cR ax ar ao ad vrd vtr vsd vrn vom f12 f17 f19 voe vow vok vos vso vmi vco vex) → va_S A s.heap H locs → ∀ ls : Array Slot, lv_has ls 12 [(0, .ref ao), (3, .int (bI p2)), (10, .long z27)] → W p l e rm_X1_join s m args below meth c H locs 0 0 Q (F0 m 163 ls [.int (bI z35), .ref ao])) := by
      intro z35 ez35 H locs hP hD hS ls hl
      have hu := hu _ ez35
      refine va_put (D := D) (ci := 3) (v := .int (bI z35)) (ty := .boolean) (C := RX1) (T := TX1) (N := 8) hx hb hts hi1 tyX1 tyX1_ok nmX1 hown hK hP hD hS 2 rfl rfl 4 (by decide) (hts (.fieldLink RX1 18 "DecimalWords$Outcome" "more" "Z") (inW_1 _ (List.mem_of_getElem? (i := 22) rfl))) (fun _ h9 => h9) rfl (by decide +kernel) (bI_nar z35) (bI_fit z35) (Nat.le_of_ble_eq_true rfl) dX1_join_163 (fun H locs hP hD hS => ?_)
      have hP : va_P D vwCl (xw cR ax ar ao ad vrd vtr vsd vrn vom f12 f17 f19 z35 vow vok vos vso vmi vco vex) H := hP
      have hD : va_D A (xw cR ax ar ao ad vrd vtr vsd vrn vom f12 f17 f19 z35 vow vok vos vso vmi vco vex) := hD
      refine lv_aload_n hx hb dX1_join_166 rfl (lv_at hl 0 rfl) ?_
      refine lv_iconst (v := 0) hx hb dX1_join_167 (by decide) ?_
      refine va_put (D := D) (ci := 3) (v := .int (bI false)) (ty := .boolean) (C := RX1) (T := TX1) (N := 8) hx hb hts hi1 tyX1 tyX1_ok nmX1 hown hK hP hD hS 2 rfl rfl 0 (by decide) (hts (.fieldLink RX1 31 "DecimalWords$Outcome" "minus" "Z") (inW_1 _ (List.mem_of_getElem? (i := 30) rfl))) (fun _ h9 => h9) rfl (by decide +kernel) (bI_nar false) (bI_fit false) (Nat.le_of_ble_eq_true rfl) dX1_join_168 (fun H locs hP hD hS => ?_)
      have hP : va_P D vwCl (xw cR ax ar ao ad vrd vtr vsd vrn false f12 f17 f19 z35 vow vok vos vso vmi vco vex) H := hP
      have hD : va_D A (xw cR ax ar ao ad vrd vtr vsd vrn false f12 f17 f19 z35 vow vok vos vso vmi vco vex) := hD
      refine lv_iload_n hx hb dX1_join_171 rfl (lv_at hl 1 rfl) ?_
      refine xb_eq (tgt := 184) hx hb dX1_join_172 (by decide) (fun c_39 => ?_) (fun c_39 => ?_)
      · rw [if_neg c_39] at hu
        refine lv_aload_n hx hb dX1_join_184 rfl (lv_at hl 0 rfl) ?_
        refine va_get (D := D) (ci := 3) (v := .long f12) (C := RX1) (T := TX1) (N := 8) hx hb hts hi1 hown hK hP 2 rfl rfl 1 (by decide) (hts (.fieldLink RX1 9 "DecimalWords$Outcome" "high" "J") (inW_1 _ (List.mem_of_getElem? (i := 20) rfl))) (fun _ h9 => h9) rfl dX1_join_185 ?_
        refine lv_lconst (v := 0) hx hb dX1_join_188 (by decide) ?_
        refine xl_ne (tgt := 222) hx hb dX1_join_189 dX1_join_190 (by decide) (fun c_40 => ?_) (fun c_40 => ?_)
        · rw [if_neg c_40] at hu
          refine lv_aload_n hx hb dX1_join_222 rfl (lv_at hl 0 rfl) ?_
          refine lv_aload_n hx hb dX1_join_223 rfl (lv_at hl 0 rfl) ?_
          refine va_get (D := D) (ci := 3) (v := .int (bI z35)) (C := RX1) (T := TX1) (N := 8) hx hb hts hi1 hown hK hP 2 rfl rfl 4 (by decide) (hts (.fieldLink RX1 18 "DecimalWords$Outcome" "more" "Z") (inW_1 _ (List.mem_of_getElem? (i := 22) rfl))) (fun _ h9 => h9) rfl dX1_join_224 ?_
          have J_44 : (∀ z43 : Int64, z43 = Z_X1_join_J_44 z27 z35 → ∀ (H : Heap) (locs : List Loc), va_P D vwCl (xw cR ax ar ao ad vrd vtr vsd vrn false f12 f17 f19 z35 vow vok vos vso vmi vco vex) H → va_D A (xw cR ax ar ao ad vrd vtr vsd vrn false f12 f17 f19 z35 vow vok vos vso vmi vco vex) → va_S A s.heap H locs → ∀ ls : Array Slot, lv_has ls 12 [] → W p l e rm_X1_join s m args below meth c H locs 0 0 Q (F0 m 241 ls [.long z43, .ref ao])) := by
            intro z43 ez43 H locs hP hD hS ls hl
            have hu := hu _ ez43
            obtain ⟨u45, eu45⟩ : ∃ y9 : Int64 × Int64, y9 = F_X1_addToLow f12 f17 z43 := ⟨_, rfl⟩
            have hu := hu _ eu45
            refine x_V (As := [.long z43]) (rest := []) hCF (c_X1_addToLow l D cR cI cJ cZ t0 ax ar ao ad vrd vtr vsd vrn false f12 f17 f19 z35 vow vok vos vso vmi vco vex z43 u45 eu45) (x_cwV 1 hts (inW_2 _ (List.mem_of_getElem? (i := 15) rfl)) (inW_2 _ (List.mem_of_getElem? (i := 16) rfl)) (inW_2 _ (List.mem_of_getElem? (i := 17) rfl)) (inW_2 _ (List.mem_of_getElem? (i := 4) rfl)) (inW_2 _ (List.mem_of_getElem? (i := 18) rfl)) rfl rfl (by decide +kernel) ⟨Nat.le_of_ble_eq_true rfl, Nat.le_of_ble_eq_true rfl⟩) hK hP hD hS hA hSt 2 rfl rfl rfl hl.1 rfl (Nat.le_of_ble_eq_true rfl) dX1_join_241 ⟨Nat.le_of_ble_eq_true rfl, Nat.le_of_ble_eq_true rfl⟩ (fun H locs hP hD hS => ?_)
            show W p l e _ s m args below meth c H locs 0 0 Q (F0 m 244 ls [])
            have e9 := Eq.symm hu; subst e9
            exact x_vret hx hb hr hlocks hQ hK hP hD hS rfl dX1_join_244
          obtain ⟨z9, ez9⟩ : ∃ y9 : Int64, y9 = Z_X1_join_J_44 z27 z35 := ⟨_, rfl⟩
          have hz := rZ_X1_join_J_44 z27 z35 ez9
          unfold RZ_X1_join_J_44 at hz
          refine xb_eq (tgt := 238) hx hb dX1_join_227 (by decide) (fun c_41 => ?_) (fun c_41 => ?_)
          · rw [if_neg c_41] at hz
            refine lv_lload hx hb dX1_join_238 (lv_at hl 2 rfl) ?_
            refine lv_lneg hx hb dX1_join_240 ?_
            have e9 := Eq.symm hz; subst e9
            exact J_44 _ ez9 H locs hP hD hS ls (lv_sub hl [] rfl)
          · rw [if_pos c_41] at hz
            refine lv_lload hx hb dX1_join_230 (lv_at hl 2 rfl) ?_
            refine lv_lneg hx hb dX1_join_232 ?_
            refine lv_lconst (v := 1) hx hb dX1_join_233 (by decide) ?_
            refine lv_lsub hx hb dX1_join_234 ?_
            refine lv_goto (tgt := 241) hx hb dX1_join_235 (by decide) ?_
            have e9 := Eq.symm hz; subst e9
            exact J_44 _ ez9 H locs hP hD hS ls (lv_sub hl [] rfl)
        · rw [if_pos c_40] at hu
          refine lv_aload_n hx hb dX1_join_193 rfl (lv_at hl 0 rfl) ?_
          refine va_get (D := D) (ci := 3) (v := .long f17) (C := RX1) (T := TX1) (N := 8) hx hb hts hi1 hown hK hP 2 rfl rfl 2 (by decide) (hts (.fieldLink RX1 15 "DecimalWords$Outcome" "low" "J") (inW_1 _ (List.mem_of_getElem? (i := 21) rfl))) (fun _ h9 => h9) rfl dX1_join_194 ?_
          refine lv_lload hx hb dX1_join_197 (lv_at hl 2 rfl) ?_
          refine xl_ge (tgt := 222) hx hb dX1_join_199 dX1_join_200 (by decide) (fun c_47 => ?_) (fun c_47 => ?_)
          · rw [if_pos c_47] at hu
            refine lv_aload_n hx hb dX1_join_222 rfl (lv_at hl 0 rfl) ?_
            refine lv_aload_n hx hb dX1_join_223 rfl (lv_at hl 0 rfl) ?_
            refine va_get (D := D) (ci := 3) (v := .int (bI z35)) (C := RX1) (T := TX1) (N := 8) hx hb hts hi1 hown hK hP 2 rfl rfl 4 (by decide) (hts (.fieldLink RX1 18 "DecimalWords$Outcome" "more" "Z") (inW_1 _ (List.mem_of_getElem? (i := 22) rfl))) (fun _ h9 => h9) rfl dX1_join_224 ?_
            have J_51 : (∀ z50 : Int64, z50 = Z_X1_join_J_51 z27 z35 → ∀ (H : Heap) (locs : List Loc), va_P D vwCl (xw cR ax ar ao ad vrd vtr vsd vrn false f12 f17 f19 z35 vow vok vos vso vmi vco vex) H → va_D A (xw cR ax ar ao ad vrd vtr vsd vrn false f12 f17 f19 z35 vow vok vos vso vmi vco vex) → va_S A s.heap H locs → ∀ ls : Array Slot, lv_has ls 12 [] → W p l e rm_X1_join s m args below meth c H locs 0 0 Q (F0 m 241 ls [.long z50, .ref ao])) := by
              intro z50 ez50 H locs hP hD hS ls hl
              have hu := hu _ ez50
              obtain ⟨u52, eu52⟩ : ∃ y9 : Int64 × Int64, y9 = F_X1_addToLow f12 f17 z50 := ⟨_, rfl⟩
              have hu := hu _ eu52
              refine x_V (As := [.long z50]) (rest := []) hCF (c_X1_addToLow l D cR cI cJ cZ t0 ax ar ao ad vrd vtr vsd vrn false f12 f17 f19 z35 vow vok vos vso vmi vco vex z50 u52 eu52) (x_cwV 1 hts (inW_2 _ (List.mem_of_getElem? (i := 15) rfl)) (inW_2 _ (List.mem_of_getElem? (i := 16) rfl)) (inW_2 _ (List.mem_of_getElem? (i := 17) rfl)) (inW_2 _ (List.mem_of_getElem? (i := 4) rfl)) (inW_2 _ (List.mem_of_getElem? (i := 18) rfl)) rfl rfl (by decide +kernel) ⟨Nat.le_of_ble_eq_true rfl, Nat.le_of_ble_eq_true rfl⟩) hK hP hD hS hA hSt 2 rfl rfl rfl hl.1 rfl (Nat.le_of_ble_eq_true rfl) dX1_join_241 ⟨Nat.le_of_ble_eq_true rfl, Nat.le_of_ble_eq_true rfl⟩ (fun H locs hP hD hS => ?_)
              show W p l e _ s m args below meth c H locs 0 0 Q (F0 m 244 ls [])
              have e9 := Eq.symm hu; subst e9
              exact x_vret hx hb hr hlocks hQ hK hP hD hS rfl dX1_join_244
            obtain ⟨z9, ez9⟩ : ∃ y9 : Int64, y9 = Z_X1_join_J_51 z27 z35 := ⟨_, rfl⟩
            have hz := rZ_X1_join_J_51 z27 z35 ez9
            unfold RZ_X1_join_J_51 at hz
            refine xb_eq (tgt := 238) hx hb dX1_join_227 (by decide) (fun c_48 => ?_) (fun c_48 => ?_)
            · rw [if_neg c_48] at hz
              refine lv_lload hx hb dX1_join_238 (lv_at hl 2 rfl) ?_
              refine lv_lneg hx hb dX1_join_240 ?_
              have e9 := Eq.symm hz; subst e9
              exact J_51 _ ez9 H locs hP hD hS ls (lv_sub hl [] rfl)
            · rw [if_pos c_48] at hz
              refine lv_lload hx hb dX1_join_230 (lv_at hl 2 rfl) ?_
              refine lv_lneg hx hb dX1_join_232 ?_
              refine lv_lconst (v := 1) hx hb dX1_join_233 (by decide) ?_
              refine lv_lsub hx hb dX1_join_234 ?_
              refine lv_goto (tgt := 241) hx hb dX1_join_235 (by decide) ?_
              have e9 := Eq.symm hz; subst e9
              exact J_51 _ ez9 H locs hP hD hS ls (lv_sub hl [] rfl)
          · rw [if_neg c_47] at hu
            refine lv_aload_n hx hb dX1_join_203 rfl (lv_at hl 0 rfl) ?_
            refine lv_lload hx hb dX1_join_204 (lv_at hl 2 rfl) ?_
            refine lv_aload_n hx hb dX1_join_206 rfl (lv_at hl 0 rfl) ?_
            refine va_get (D := D) (ci := 3) (v := .long f17) (C := RX1) (T := TX1) (N := 8) hx hb hts hi1 hown hK hP 2 rfl rfl 2 (by decide) (hts (.fieldLink RX1 15 "DecimalWords$Outcome" "low" "J") (inW_1 _ (List.mem_of_getElem? (i := 21) rfl))) (fun _ h9 => h9) rfl dX1_join_207 ?_
            refine lv_lsub hx hb dX1_join_210 ?_
            refine lv_topl (fun f54 ef54 => ?_)
            have hu := hu _ ef54
            refine va_put (D := D) (ci := 3) (v := .long f54) (ty := .long) (C := RX1) (T := TX1) (N := 8) hx hb hts hi1 tyX1 tyX1_ok nmX1 hown hK hP hD hS 2 rfl rfl 2 (by decide) (hts (.fieldLink RX1 15 "DecimalWords$Outcome" "low" "J") (inW_1 _ (List.mem_of_getElem? (i := 21) rfl))) (fun _ h9 => h9) rfl (by decide +kernel) rfl rfl (Nat.le_of_ble_eq_true rfl) dX1_join_211 (fun H locs hP hD hS => ?_)
            have hP : va_P D vwCl (xw cR ax ar ao ad vrd vtr vsd vrn false f12 f54 f19 z35 vow vok vos vso vmi vco vex) H := hP
            have hD : va_D A (xw cR ax ar ao ad vrd vtr vsd vrn false f12 f54 f19 z35 vow vok vos vso vmi vco vex) := hD
            refine lv_aload_n hx hb dX1_join_214 rfl (lv_at hl 0 rfl) ?_
            refine lv_iconst (v := 1) hx hb dX1_join_215 (by decide) ?_
            refine va_put (D := D) (ci := 3) (v := .int (bI true)) (ty := .boolean) (C := RX1) (T := TX1) (N := 8) hx hb hts hi1 tyX1 tyX1_ok nmX1 hown hK hP hD hS 2 rfl rfl 0 (by decide) (hts (.fieldLink RX1 31 "DecimalWords$Outcome" "minus" "Z") (inW_1 _ (List.mem_of_getElem? (i := 30) rfl))) (fun _ h9 => h9) rfl (by decide +kernel) (bI_nar true) (bI_fit true) (Nat.le_of_ble_eq_true rfl) dX1_join_216 (fun H locs hP hD hS => ?_)
            have hP : va_P D vwCl (xw cR ax ar ao ad vrd vtr vsd vrn true f12 f54 f19 z35 vow vok vos vso vmi vco vex) H := hP
            have hD : va_D A (xw cR ax ar ao ad vrd vtr vsd vrn true f12 f54 f19 z35 vow vok vos vso vmi vco vex) := hD
            refine lv_goto (tgt := 244) hx hb dX1_join_219 (by decide) ?_
            have e9 := Eq.symm hu; subst e9
            exact x_vret hx hb hr hlocks hQ hK hP hD hS rfl dX1_join_244
      · rw [if_pos c_39] at hu
        refine lv_aload_n hx hb dX1_join_175 rfl (lv_at hl 0 rfl) ?_
        refine lv_lload hx hb dX1_join_176 (lv_at hl 2 rfl) ?_
        obtain ⟨u57, eu57⟩ : ∃ y9 : Int64 × Int64, y9 = F_X1_addToLow f12 f17 z27 := ⟨_, rfl⟩
        have hu := hu _ eu57
        refine x_V (As := [.long z27]) (rest := []) hCF (c_X1_addToLow l D cR cI cJ cZ t0 ax ar ao ad vrd vtr vsd vrn false f12 f17 f19 z35 vow vok vos vso vmi vco vex z27 u57 eu57) (x_cwV 1 hts (inW_2 _ (List.mem_of_getElem? (i := 15) rfl)) (inW_2 _ (List.mem_of_getElem? (i := 16) rfl)) (inW_2 _ (List.mem_of_getElem? (i := 17) rfl)) (inW_2 _ (List.mem_of_getElem? (i := 4) rfl)) (inW_2 _ (List.mem_of_getElem? (i := 18) rfl)) rfl rfl (by decide +kernel) ⟨Nat.le_of_ble_eq_true rfl, Nat.le_of_ble_eq_true rfl⟩) hK hP hD hS hA hSt 2 rfl rfl rfl hl.1 rfl (Nat.le_of_ble_eq_true rfl) dX1_join_178 ⟨Nat.le_of_ble_eq_true rfl, Nat.le_of_ble_eq_true rfl⟩ (fun H locs hP hD hS => ?_)
        show W p l e _ s m args below meth c H locs 0 0 Q (F0 m 181 ls [])
        refine lv_goto (tgt := 244) hx hb dX1_join_181 (by decide) ?_
        have e9 := Eq.symm hu; subst e9
        exact x_vret hx hb hr hlocks hQ hK hP hD hS rfl dX1_join_244
    obtain ⟨z9, ez9⟩ : ∃ y9 : Bool, y9 = Z_X1_join_J_36 vco i2 n21 := ⟨_, rfl⟩
    have hz := rZ_X1_join_J_36 vco i2 n21 ez9
    unfold RZ_X1_join_J_36 at hz
    refine lv_icmp_gt (tgt := 158) hx hb dX1_join_140 (by decide) (fun c_29 => ?_) (fun c_29 => ?_)
    · rw [if_pos c_29] at hz
      refine lv_iconst (v := 1) hx hb dX1_join_158 (by decide) ?_
      refine lv_goto (tgt := 163) hx hb dX1_join_159 (by decide) ?_
      have e9 := Eq.symm hz; subst e9
      exact J_36 _ ez9 H locs hP hD hS ls (lv_sub hl [1, 3, 0] rfl)
    · rw [if_neg c_29] at hs
      rw [if_neg c_29] at hz
      refine lv_aload_n hx hb dX1_join_143 rfl (lv_at hl 2 rfl) ?_
      refine g_co (i := i2) hx hb hts hi0 hown hK hP hb2 (hts (.fieldLink RX1 32 "DecimalWords$Datum" "coefficient" "J") (inW_1 _ (List.mem_of_getElem? (i := 31) rfl))) dX1_join_144 ?_
      refine lv_iload hx hb dX1_join_147 (lv_at hl 4 rfl) ?_
      obtain ⟨h_30, hs⟩ := hs
      refine x_SN (As := [.int n21]) (rest := [.long (vco i2), .ref ao]) hCF (c_X3_tenTo l D cR cI cJ cZ t0 (xw cR ax ar ao ad vrd vtr vsd vrn vom f12 f17 f19 voe vow vok vos vso vmi vco vex) n21 _ rfl h_30) (x_cwN 1 hts hSt.2.2.2.1 (inW_2 _ (List.mem_of_getElem? (i := 9) rfl)) (inW_1 _ (List.mem_of_getElem? (i := 25) rfl)) (inW_2 _ (List.mem_of_getElem? (i := 10) rfl)) rfl rfl (by decide +kernel) ⟨Nat.le_of_ble_eq_true rfl, Nat.le_of_ble_eq_true rfl⟩) hK hP hD hS hA hSt rfl hl.1 rfl (Nat.le_of_ble_eq_true rfl) dX1_join_149 ⟨Nat.le_of_ble_eq_true rfl, Nat.le_of_ble_eq_true rfl⟩ (fun H locs hP hD hS => ?_)
      show W p l e _ s m args below meth c H locs 0 0 Q (F0 m 152 ls (.long (F_X3_tenTo n21) :: [.long (vco i2), .ref ao]))
      have h_32 := hs
      refine x_lrem hx hb dX1_join_152 h_32 ?_
      refine lv_lconst (v := 0) hx hb dX1_join_153 (by decide) ?_
      refine xl_eq (tgt := 162) hx hb dX1_join_154 dX1_join_155 (by decide) (fun c_33 => ?_) (fun c_33 => ?_)
      · rw [if_pos c_33] at hz
        refine lv_iconst (v := 0) hx hb dX1_join_162 (by decide) ?_
        have e9 := Eq.symm hz; subst e9
        exact J_36 _ ez9 H locs hP hD hS ls (lv_sub hl [1, 3, 0] rfl)
      · rw [if_neg c_33] at hz
        refine lv_iconst (v := 1) hx hb dX1_join_158 (by decide) ?_
        refine lv_goto (tgt := 163) hx hb dX1_join_159 (by decide) ?_
        have e9 := Eq.symm hz; subst e9
        exact J_36 _ ez9 H locs hP hD hS ls (lv_sub hl [1, 3, 0] rfl)
  have hs := hs.1
  obtain ⟨z9, ez9⟩ : ∃ y9 : Int64, y9 = Z_X1_join_J_28 vco i2 n21 := ⟨_, rfl⟩
  have hz := rZ_X1_join_J_28 vco i2 n21 ez9
  unfold RZ_X1_join_J_28 at hz
  refine lv_icmp_le (tgt := 123) hx hb dX1_join_116 (by decide) (fun c_22 => ?_) (fun c_22 => ?_)
  · rw [if_pos c_22] at hs
    rw [if_pos c_22] at hz
    refine lv_aload_n hx hb dX1_join_123 rfl (lv_at hl 7 rfl) ?_
    refine g_co (i := i2) hx hb hts hi0 hown hK hP hb2 (hts (.fieldLink RX1 32 "DecimalWords$Datum" "coefficient" "J") (inW_1 _ (List.mem_of_getElem? (i := 31) rfl))) dX1_join_124 ?_
    refine lv_iload hx hb dX1_join_127 (lv_at hl 0 rfl) ?_
    obtain ⟨h_23, hs⟩ := hs
    refine x_SN (As := [.int n21]) (rest := [.long (vco i2)]) hCF (c_X3_tenTo l D cR cI cJ cZ t0 (xw cR ax ar ao ad vrd vtr vsd vrn vom f12 f17 f19 voe vow vok vos vso vmi vco vex) n21 _ rfl h_23) (x_cwN 1 hts hSt.2.2.2.1 (inW_2 _ (List.mem_of_getElem? (i := 9) rfl)) (inW_1 _ (List.mem_of_getElem? (i := 25) rfl)) (inW_2 _ (List.mem_of_getElem? (i := 10) rfl)) rfl rfl (by decide +kernel) ⟨Nat.le_of_ble_eq_true rfl, Nat.le_of_ble_eq_true rfl⟩) hK hP hD hS hA hSt rfl hl.1 rfl (Nat.le_of_ble_eq_true rfl) dX1_join_129 ⟨Nat.le_of_ble_eq_true rfl, Nat.le_of_ble_eq_true rfl⟩ (fun H locs hP hD hS => ?_)
    show W p l e _ s m args below meth c H locs 0 0 Q (F0 m 132 ls (.long (F_X3_tenTo n21) :: [.long (vco i2)]))
    have h_25 := hs
    refine lv_ldiv hx hb dX1_join_132 h_25 ?_
    have e9 := Eq.symm hz; subst e9
    exact J_28 _ ez9 H locs hP hD hS ls (lv_sub hl [5, 7, 8, 0] rfl)
  · rw [if_neg c_22] at hz
    refine lv_lconst (v := 0) hx hb dX1_join_119 (by decide) ?_
    refine lv_goto (tgt := 133) hx hb dX1_join_120 (by decide) ?_
    have e9 := Eq.symm hz; subst e9
    exact J_28 _ ez9 H locs hP hD hS ls (lv_sub hl [5, 7, 8, 0] rfl)

def Z_X1_setSum_J_39 (p2 : Bool) (p3 : Bool) (z3 : Bool) : Bool := (if z3 = true then p2 else p3)
def RZ_X1_setSum_J_39 (p2 : Bool) (p3 : Bool) (z3 : Bool) (u9 : Bool) : Prop := (if z3 = true then u9 = p2 else u9 = p3)
theorem rZ_X1_setSum_J_39 (p2 : Bool) (p3 : Bool) (z3 : Bool) {u9 : Bool} (hu : u9 = Z_X1_setSum_J_39 p2 p3 z3) : RZ_X1_setSum_J_39 p2 p3 z3 u9 := by
  unfold RZ_X1_setSum_J_39
  refine ite_P (fun c_36 => ?_) (fun c_36 => ?_)
  · have hu := hu.trans (if_pos c_36)
    exact hu
  · have hu := hu.trans (if_neg c_36)
    exact hu
def Z_X1_setSum_J_43 (p2 : Bool) (p3 : Bool) (z3 : Bool) (z32 : Bool × Int64 × Int64 × Int32 × Bool) : Bool := (if F_X1_isZero z32.2.1 z32.2.2.1 z32.2.2.2.2 = true then (bnd (Z_X1_setSum_J_39 p2 p3 z3) (fun z38 : Bool => z38)) else z32.1)
def RZ_X1_setSum_J_43 (p2 : Bool) (p3 : Bool) (z3 : Bool) (z32 : Bool × Int64 × Int64 × Int32 × Bool) (u9 : Bool) : Prop := (if F_X1_isZero z32.2.1 z32.2.2.1 z32.2.2.2.2 = true then (∀ z38 : Bool, z38 = Z_X1_setSum_J_39 p2 p3 z3 → u9 = z38) else u9 = z32.1)
theorem rZ_X1_setSum_J_43 (p2 : Bool) (p3 : Bool) (z3 : Bool) (z32 : Bool × Int64 × Int64 × Int32 × Bool) {u9 : Bool} (hu : u9 = Z_X1_setSum_J_43 p2 p3 z3 z32) : RZ_X1_setSum_J_43 p2 p3 z3 z32 u9 := by
  unfold RZ_X1_setSum_J_43
  refine ite_P (fun c_35 => ?_) (fun c_35 => ?_)
  · have hu := hu.trans (if_pos c_35)
    intro z38 ez38
    have hu := bnd_n hu ez38
    exact hu
  · have hu := hu.trans (if_neg c_35)
    exact hu
def Z_X1_setSum_J_16 (p2 : Bool) (u11 : Bool × Int64 × Int64 × Int32 × Bool) : Bool := (if p2 = u11.1 then false else true)
def RZ_X1_setSum_J_16 (p2 : Bool) (u11 : Bool × Int64 × Int64 × Int32 × Bool) (u9 : Bool) : Prop := (if p2 = u11.1 then u9 = false else u9 = true)
theorem rZ_X1_setSum_J_16 (p2 : Bool) (u11 : Bool × Int64 × Int64 × Int32 × Bool) {u9 : Bool} (hu : u9 = Z_X1_setSum_J_16 p2 u11) : RZ_X1_setSum_J_16 p2 u11 u9 := by
  unfold RZ_X1_setSum_J_16
  refine ite_P (fun c_13 => ?_) (fun c_13 => ?_)
  · have hu := hu.trans (if_pos c_13)
    exact hu
  · have hu := hu.trans (if_neg c_13)
    exact hu
def Z_X1_setSum_J_24 (vmi : Nat → Bool) (i1 : Nat) (u19 : Bool × Int64 × Int64 × Int32 × Bool) : Bool := (if vmi i1 = u19.1 then false else true)
def RZ_X1_setSum_J_24 (vmi : Nat → Bool) (i1 : Nat) (u19 : Bool × Int64 × Int64 × Int32 × Bool) (u9 : Bool) : Prop := (if vmi i1 = u19.1 then u9 = false else u9 = true)
theorem rZ_X1_setSum_J_24 (vmi : Nat → Bool) (i1 : Nat) (u19 : Bool × Int64 × Int64 × Int32 × Bool) {u9 : Bool} (hu : u9 = Z_X1_setSum_J_24 vmi i1 u19) : RZ_X1_setSum_J_24 vmi i1 u19 u9 := by
  unfold RZ_X1_setSum_J_24
  refine ite_P (fun c_21 => ?_) (fun c_21 => ?_)
  · have hu := hu.trans (if_pos c_21)
    exact hu
  · have hu := hu.trans (if_neg c_21)
    exact hu
def Z_X1_setSum_J_33 (vso : Nat → Int32) (vmi : Nat → Bool) (vco : Nat → Int64) (vex : Nat → Int32) (i1 : Nat) (i2 : Nat) (p2 : Bool) (z3 : Bool) : Bool × Int64 × Int64 × Int32 × Bool := (if F_X0_isZero vso vco i1 = true then (bnd (F_X1_setWhole vmi vco vex i2) (fun u28 : Bool × Int64 × Int64 × Int32 × Bool => (p2, u28.2.1, u28.2.2.1, u28.2.2.2.1, u28.2.2.2.2))) else (if F_X0_isZero vso vco i2 = true then (bnd (F_X1_setWhole vmi vco vex i1) (fun u26 : Bool × Int64 × Int64 × Int32 × Bool => (u26.1, u26.2.1, u26.2.2.1, u26.2.2.2.1, u26.2.2.2.2))) else (if vex i1 < vex i2 then (bnd (F_X1_join vco vex i2 i1 z3) (fun u11 : Bool × Int64 × Int64 × Int32 × Bool => (bnd (Z_X1_setSum_J_16 p2 u11) (fun z15 : Bool => (z15, u11.2.1, u11.2.2.1, u11.2.2.2.1, u11.2.2.2.2))))) else (bnd (F_X1_join vco vex i1 i2 z3) (fun u19 : Bool × Int64 × Int64 × Int32 × Bool => (bnd (Z_X1_setSum_J_24 vmi i1 u19) (fun z23 : Bool => (z23, u19.2.1, u19.2.2.1, u19.2.2.2.1, u19.2.2.2.2))))))))
def RZ_X1_setSum_J_33 (vso : Nat → Int32) (vmi : Nat → Bool) (vco : Nat → Int64) (vex : Nat → Int32) (i1 : Nat) (i2 : Nat) (p2 : Bool) (z3 : Bool) (u9 : Bool × Int64 × Int64 × Int32 × Bool) : Prop := (if F_X0_isZero vso vco i1 = true then (∀ u28 : Bool × Int64 × Int64 × Int32 × Bool, u28 = F_X1_setWhole vmi vco vex i2 → u9 = (p2, u28.2.1, u28.2.2.1, u28.2.2.2.1, u28.2.2.2.2)) else (if F_X0_isZero vso vco i2 = true then (∀ u26 : Bool × Int64 × Int64 × Int32 × Bool, u26 = F_X1_setWhole vmi vco vex i1 → u9 = (u26.1, u26.2.1, u26.2.2.1, u26.2.2.2.1, u26.2.2.2.2)) else (if vex i1 < vex i2 then (∀ u11 : Bool × Int64 × Int64 × Int32 × Bool, u11 = F_X1_join vco vex i2 i1 z3 → (∀ z15 : Bool, z15 = Z_X1_setSum_J_16 p2 u11 → u9 = (z15, u11.2.1, u11.2.2.1, u11.2.2.2.1, u11.2.2.2.2))) else (∀ u19 : Bool × Int64 × Int64 × Int32 × Bool, u19 = F_X1_join vco vex i1 i2 z3 → (∀ z23 : Bool, z23 = Z_X1_setSum_J_24 vmi i1 u19 → u9 = (z23, u19.2.1, u19.2.2.1, u19.2.2.2.1, u19.2.2.2.2))))))
theorem rZ_X1_setSum_J_33 (vso : Nat → Int32) (vmi : Nat → Bool) (vco : Nat → Int64) (vex : Nat → Int32) (i1 : Nat) (i2 : Nat) (p2 : Bool) (z3 : Bool) {u9 : Bool × Int64 × Int64 × Int32 × Bool} (hu : u9 = Z_X1_setSum_J_33 vso vmi vco vex i1 i2 p2 z3) : RZ_X1_setSum_J_33 vso vmi vco vex i1 i2 p2 z3 u9 := by
  unfold RZ_X1_setSum_J_33
  refine ite_P (fun c_6 => ?_) (fun c_6 => ?_)
  · have hu := hu.trans (if_pos c_6)
    intro u28 eu28
    have hu := bnd_n hu eu28
    exact hu
  · have hu := hu.trans (if_neg c_6)
    refine ite_P (fun c_8 => ?_) (fun c_8 => ?_)
    · have hu := hu.trans (if_pos c_8)
      intro u26 eu26
      have hu := bnd_n hu eu26
      exact hu
    · have hu := hu.trans (if_neg c_8)
      refine ite_P (fun c_9 => ?_) (fun c_9 => ?_)
      · have hu := hu.trans (if_pos c_9)
        intro u11 eu11
        have hu := bnd_n hu eu11
        intro z15 ez15
        have hu := bnd_n hu ez15
        exact hu
      · have hu := hu.trans (if_neg c_9)
        intro u19 eu19
        have hu := bnd_n hu eu19
        intro z23 ez23
        have hu := bnd_n hu ez23
        exact hu
def Z_X1_setSum_J_4 (vmi : Nat → Bool) (i1 : Nat) (p2 : Bool) : Bool := (if vmi i1 = p2 then true else false)
def RZ_X1_setSum_J_4 (vmi : Nat → Bool) (i1 : Nat) (p2 : Bool) (u9 : Bool) : Prop := (if vmi i1 = p2 then u9 = true else u9 = false)
theorem rZ_X1_setSum_J_4 (vmi : Nat → Bool) (i1 : Nat) (p2 : Bool) {u9 : Bool} (hu : u9 = Z_X1_setSum_J_4 vmi i1 p2) : RZ_X1_setSum_J_4 vmi i1 p2 u9 := by
  unfold RZ_X1_setSum_J_4
  refine ite_P (fun c_1 => ?_) (fun c_1 => ?_)
  · have hu := hu.trans (if_pos c_1)
    exact hu
  · have hu := hu.trans (if_neg c_1)
    exact hu
def F_X1_setSum (vso : Nat → Int32) (vmi : Nat → Bool) (vco : Nat → Int64) (vex : Nat → Int32) (i1 : Nat) (i2 : Nat) (p2 : Bool) (p3 : Bool) : Bool × Int64 × Int64 × Int32 × Bool × Int32 := (bnd (Z_X1_setSum_J_4 vmi i1 p2) (fun z3 : Bool => (bnd (Z_X1_setSum_J_33 vso vmi vco vex i1 i2 p2 z3) (fun z32 : Bool × Int64 × Int64 × Int32 × Bool => (bnd (Z_X1_setSum_J_43 p2 p3 z3 z32) (fun z42 : Bool => (bnd (jmin (vex i1) (vex i2)) (fun f44 : Int32 => (z42, z32.2.1, z32.2.2.1, z32.2.2.2.1, z32.2.2.2.2, f44)))))))))
def RF_X1_setSum (vso : Nat → Int32) (vmi : Nat → Bool) (vco : Nat → Int64) (vex : Nat → Int32) (i1 : Nat) (i2 : Nat) (p2 : Bool) (p3 : Bool) (u9 : Bool × Int64 × Int64 × Int32 × Bool × Int32) : Prop := (∀ z3 : Bool, z3 = Z_X1_setSum_J_4 vmi i1 p2 → (∀ z32 : Bool × Int64 × Int64 × Int32 × Bool, z32 = Z_X1_setSum_J_33 vso vmi vco vex i1 i2 p2 z3 → (∀ z42 : Bool, z42 = Z_X1_setSum_J_43 p2 p3 z3 z32 → (∀ f44 : Int32, f44 = jmin (vex i1) (vex i2) → u9 = (z42, z32.2.1, z32.2.2.1, z32.2.2.2.1, z32.2.2.2.2, f44)))))
theorem rF_X1_setSum (vso : Nat → Int32) (vmi : Nat → Bool) (vco : Nat → Int64) (vex : Nat → Int32) (i1 : Nat) (i2 : Nat) (p2 : Bool) (p3 : Bool) {u9 : Bool × Int64 × Int64 × Int32 × Bool × Int32} (hu : u9 = F_X1_setSum vso vmi vco vex i1 i2 p2 p3) : RF_X1_setSum vso vmi vco vex i1 i2 p2 p3 u9 := by
  unfold RF_X1_setSum
  intro z3 ez3
  have hu := bnd_n hu ez3
  intro z32 ez32
  have hu := bnd_n hu ez32
  intro z42 ez42
  have hu := bnd_n hu ez42
  intro f44 ef44
  have hu := bnd_n hu ef44
  exact hu
def S_X1_setSum (vso : Nat → Int32) (vmi : Nat → Bool) (vco : Nat → Int64) (vex : Nat → Int32) (i1 : Nat) (i2 : Nat) (p2 : Bool) (p3 : Bool) : Prop := (∀ z3 : Bool, z3 = Z_X1_setSum_J_4 vmi i1 p2 → (if F_X0_isZero vso vco i1 = true then True else (if F_X0_isZero vso vco i2 = true then True else (if vex i1 < vex i2 then S_X1_join vco vex i2 i1 z3 else S_X1_join vco vex i1 i2 z3))))
def rm_X1_setSum : Room := { frames := 3, cells := 0, slots := 0, locals := 91 }
set_option maxHeartbeats 4000000 in
set_option maxRecDepth 100000 in
theorem c_X1_setSum (l : Launch) (D : va_G) (cR cI cJ cZ : ClassId) (t0 : Nat) (ax ar ao : Nat) (ad : Nat → Nat) (vrd : Int32) (vtr : Int32) (vsd : Int32) (vrn : Int32) (vom : Bool) (voh : Int64) (vol : Int64) (vop : Int32) (voe : Bool) (vow : Int32) (vok : Int64) (vos : Int32) (vso : Nat → Int32) (vmi : Nat → Bool) (vco : Nat → Int64) (vex : Nat → Int32) (i1 : Nat) (i2 : Nat) (p2 : Bool) (p3 : Bool) (u : Bool × Int64 × Int64 × Int32 × Bool × Int32) (hu : u = F_X1_setSum vso vmi vco vex i1 i2 p2 p3) (hs : S_X1_setSum vso vmi vco vex i1 i2 p2 p3) (hb1 : i1 < 9) (hb2 : i2 < 9) : XM l D (xty cR cI cJ cZ) t0 yX1_setSum cX1_setSum 6 none rm_X1_setSum [.ref ao, .ref (ad i1), .ref (ad i2), .int (bI p2), .int (bI p3)] none (xw cR ax ar ao ad vrd vtr vsd vrn vom voh vol vop voe vow vok vos vso vmi vco vex) (xw cR ax ar ao ad vrd vtr vsd vrn u.1 u.2.1 u.2.2.1 u.2.2.2.1 u.2.2.2.2.1 u.2.2.2.2.2 vok vos vso vmi vco vex) := by
  refine XM.of (by decide) (Nat.le_of_ble_eq_true rfl) ?_
  intro p e s m args below meth c A Q F hK hP hD hA hSt hS hQ ls hl
  obtain ⟨hx, hb, hr, hts, hown, hlocks, hml⟩ := F
  have hCF : CallFix p m c cX1_setSum 6 s args gW RX1 := ⟨hx, hb, hml, hown, hts⟩
  unfold S_X1_setSum at hs
  have hu := rF_X1_setSum vso vmi vco vex i1 i2 p2 p3 hu
  unfold RF_X1_setSum at hu
  obtain ⟨H, eH⟩ : ∃ y9 : Heap, y9 = s.heap := ⟨_, rfl⟩
  obtain ⟨locs, eL⟩ : ∃ y9 : List Loc, y9 = [] := ⟨_, rfl⟩
  rw [← eL] at hS ⊢
  have hP : va_P D vwCl (xw cR ax ar ao ad vrd vtr vsd vrn vom voh vol vop voe vow vok vos vso vmi vco vex) H := by rw [eH]; exact hP
  have hS : va_S A s.heap H locs := by rw [eH]; exact hS
  suffices goal9 : W p l e rm_X1_setSum s m args below meth c H locs 0 0 Q (F0 m 0 ls []) from by rw [← eH]; exact goal9
  have hl : lv_has ls 6 [(0, .ref ao), (1, .ref (ad i1)), (2, .ref (ad i2)), (3, .int (bI p2)), (4, .int (bI p3))] := hl
  have hi0 : ∀ w ∈ wsX00, w ∈ gW := inW_X0
  have hi1 : ∀ w ∈ wsX10, w ∈ gW := inW_X1
  refine lv_aload_n hx hb dX1_setSum_0 rfl (lv_at hl 1 rfl) ?_
  refine g_mi (i := i1) hx hb hts hi0 hown hK hP hb1 (hts (.fieldLink RX1 26 "DecimalWords$Datum" "minus" "Z") (inW_1 _ (List.mem_of_getElem? (i := 29) rfl))) dX1_setSum_1 ?_
  refine lv_iload_n hx hb dX1_setSum_4 rfl (lv_at hl 3 rfl) ?_
  have J_4 : (∀ z3 : Bool, z3 = Z_X1_setSum_J_4 vmi i1 p2 → ∀ (H : Heap) (locs : List Loc), va_P D vwCl (xw cR ax ar ao ad vrd vtr vsd vrn vom voh vol vop voe vow vok vos vso vmi vco vex) H → va_D A (xw cR ax ar ao ad vrd vtr vsd vrn vom voh vol vop voe vow vok vos vso vmi vco vex) → va_S A s.heap H locs → ∀ ls : Array Slot, lv_has ls 6 [(0, .ref ao), (1, .ref (ad i1)), (2, .ref (ad i2)), (3, .int (bI p2)), (4, .int (bI p3))] → W p l e rm_X1_setSum s m args below meth c H locs 0 0 Q (F0 m 13 ls [.int (bI z3)])) := by
    intro z3 ez3 H locs hP hD hS ls hl
    have hs := hs _ ez3
    have hu := hu _ ez3
    refine lv_istore (lv' := [(5, .int (bI z3)), (0, .ref ao), (1, .ref (ad i1)), (2, .ref (ad i2)), (3, .int (bI p2)), (4, .int (bI p3))]) hx hb dX1_setSum_13 hl (by decide) rfl (fun ls hl => ?_)
    refine lv_aload_n hx hb dX1_setSum_15 rfl (lv_at hl 2 rfl) ?_
    refine x_V (As := []) (rest := []) hCF (c_X0_isZero l D cR cI cJ cZ t0 ax ar ao ad vrd vtr vsd vrn vom voh vol vop voe vow vok vos vso vmi vco vex i1 _ rfl hb1) (x_cwV 0 hts (inW_2 _ (List.mem_of_getElem? (i := 0) rfl)) (inW_1 _ (List.mem_of_getElem? (i := 14) rfl)) (inW_1 _ (List.mem_of_getElem? (i := 15) rfl)) (inW_1 _ (List.mem_of_getElem? (i := 16) rfl)) (inW_1 _ (List.mem_of_getElem? (i := 11) rfl)) rfl rfl (by decide +kernel) ⟨Nat.le_of_ble_eq_true rfl, Nat.le_of_ble_eq_true rfl⟩) hK hP hD hS hA hSt (3 + i1) (xw_dat hb1) rfl rfl hl.1 rfl (Nat.le_of_ble_eq_true rfl) dX1_setSum_16 ⟨Nat.le_of_ble_eq_true rfl, Nat.le_of_ble_eq_true rfl⟩ (fun H locs hP hD hS => ?_)
    show W p l e _ s m args below meth c H locs 0 0 Q (F0 m 19 ls (.int (bI (F_X0_isZero vso vco i1)) :: []))
    have J_33 : (∀ z32 : Bool × Int64 × Int64 × Int32 × Bool, z32 = Z_X1_setSum_J_33 vso vmi vco vex i1 i2 p2 z3 → ∀ (H : Heap) (locs : List Loc), va_P D vwCl (xw cR ax ar ao ad vrd vtr vsd vrn z32.1 z32.2.1 z32.2.2.1 z32.2.2.2.1 z32.2.2.2.2 vow vok vos vso vmi vco vex) H → va_D A (xw cR ax ar ao ad vrd vtr vsd vrn z32.1 z32.2.1 z32.2.2.1 z32.2.2.2.1 z32.2.2.2.2 vow vok vos vso vmi vco vex) → va_S A s.heap H locs → ∀ ls : Array Slot, lv_has ls 6 [(0, .ref ao), (1, .ref (ad i1)), (2, .ref (ad i2)), (3, .int (bI p2)), (4, .int (bI p3)), (5, .int (bI z3))] → W p l e rm_X1_setSum s m args below meth c H locs 0 0 Q (F0 m 117 ls [])) := by
      intro z32 ez32 H locs hP hD hS ls hl
      have hu := hu _ ez32
      refine lv_aload_n hx hb dX1_setSum_117 rfl (lv_at hl 0 rfl) ?_
      refine x_V (As := []) (rest := []) hCF (c_X1_isZero l D cR cI cJ cZ t0 ax ar ao ad vrd vtr vsd vrn z32.1 z32.2.1 z32.2.2.1 z32.2.2.2.1 z32.2.2.2.2 vow vok vos vso vmi vco vex _ rfl) (x_cwV 0 hts (inW_2 _ (List.mem_of_getElem? (i := 20) rfl)) (inW_2 _ (List.mem_of_getElem? (i := 21) rfl)) (inW_2 _ (List.mem_of_getElem? (i := 22) rfl)) (inW_2 _ (List.mem_of_getElem? (i := 4) rfl)) (inW_1 _ (List.mem_of_getElem? (i := 19) rfl)) rfl rfl (by decide +kernel) ⟨Nat.le_of_ble_eq_true rfl, Nat.le_of_ble_eq_true rfl⟩) hK hP hD hS hA hSt 2 rfl rfl rfl hl.1 rfl (Nat.le_of_ble_eq_true rfl) dX1_setSum_118 ⟨Nat.le_of_ble_eq_true rfl, Nat.le_of_ble_eq_true rfl⟩ (fun H locs hP hD hS => ?_)
      show W p l e _ s m args below meth c H locs 0 0 Q (F0 m 121 ls (.int (bI (F_X1_isZero z32.2.1 z32.2.2.1 z32.2.2.2.2)) :: []))
      have J_43 : (∀ z42 : Bool, z42 = Z_X1_setSum_J_43 p2 p3 z3 z32 → ∀ (H : Heap) (locs : List Loc), va_P D vwCl (xw cR ax ar ao ad vrd vtr vsd vrn z42 z32.2.1 z32.2.2.1 z32.2.2.2.1 z32.2.2.2.2 vow vok vos vso vmi vco vex) H → va_D A (xw cR ax ar ao ad vrd vtr vsd vrn z42 z32.2.1 z32.2.2.1 z32.2.2.2.1 z32.2.2.2.2 vow vok vos vso vmi vco vex) → va_S A s.heap H locs → ∀ ls : Array Slot, lv_has ls 6 [(0, .ref ao), (1, .ref (ad i1)), (2, .ref (ad i2))] → W p l e rm_X1_setSum s m args below meth c H locs 0 0 Q (F0 m 139 ls [])) := by
        intro z42 ez42 H locs hP hD hS ls hl
        have hu := hu _ ez42
        refine lv_aload_n hx hb dX1_setSum_139 rfl (lv_at hl 0 rfl) ?_
        refine lv_aload_n hx hb dX1_setSum_140 rfl (lv_at hl 1 rfl) ?_
        refine g_ex (i := i1) hx hb hts hi0 hown hK hP hb1 (hts (.fieldLink RX1 35 "DecimalWords$Datum" "exponent" "I") (inW_1 _ (List.mem_of_getElem? (i := 32) rfl))) dX1_setSum_141 ?_
        refine lv_aload_n hx hb dX1_setSum_144 rfl (lv_at hl 2 rfl) ?_
        refine g_ex (i := i2) hx hb hts hi0 hown hK hP hb2 (hts (.fieldLink RX1 35 "DecimalWords$Datum" "exponent" "I") (inW_1 _ (List.mem_of_getElem? (i := 32) rfl))) dX1_setSum_145 ?_
        refine x_min hx hb hml hl.1 hts hown (inW_1 _ (List.mem_of_getElem? (i := 35) rfl)) (inW_1 _ (List.mem_of_getElem? (i := 36) rfl)) (inW_1 _ (List.mem_of_getElem? (i := 37) rfl)) (inW_1 _ (List.mem_of_getElem? (i := 38) rfl)) (Nat.le_of_ble_eq_true rfl) (Nat.le_of_ble_eq_true rfl) (Nat.le_of_ble_eq_true rfl) (Nat.le_of_ble_eq_true rfl) dX1_setSum_148 ?_
        refine lv_topi (fun f44 ef44 => ?_)
        have hu := hu _ ef44
        refine va_put (D := D) (ci := 3) (v := .int f44) (ty := .int) (C := RX1) (T := TX1) (N := 8) hx hb hts hi1 tyX1 tyX1_ok nmX1 hown hK hP hD hS 2 rfl rfl 5 (by decide) (hts (.fieldLink RX1 61 "DecimalWords$Outcome" "wish" "I") (inW_1 _ (List.mem_of_getElem? (i := 39) rfl))) (fun _ h9 => h9) rfl (by decide +kernel) rfl rfl (Nat.le_of_ble_eq_true rfl) dX1_setSum_151 (fun H locs hP hD hS => ?_)
        have hP : va_P D vwCl (xw cR ax ar ao ad vrd vtr vsd vrn z42 z32.2.1 z32.2.2.1 z32.2.2.2.1 z32.2.2.2.2 f44 vok vos vso vmi vco vex) H := hP
        have hD : va_D A (xw cR ax ar ao ad vrd vtr vsd vrn z42 z32.2.1 z32.2.2.1 z32.2.2.2.1 z32.2.2.2.2 f44 vok vos vso vmi vco vex) := hD
        have e9 := Eq.symm hu; subst e9
        exact x_vret hx hb hr hlocks hQ hK hP hD hS rfl dX1_setSum_154
      obtain ⟨z9, ez9⟩ : ∃ y9 : Bool, y9 = Z_X1_setSum_J_43 p2 p3 z3 z32 := ⟨_, rfl⟩
      have hz := rZ_X1_setSum_J_43 p2 p3 z3 z32 ez9
      unfold RZ_X1_setSum_J_43 at hz
      refine xb_eq (tgt := 139) hx hb dX1_setSum_121 (by decide) (fun c_35 => ?_) (fun c_35 => ?_)
      · rw [if_neg c_35] at hz
        have e9 := Eq.symm hz; subst e9
        exact J_43 _ ez9 H locs hP hD hS ls (lv_sub hl [0, 1, 2] rfl)
      · rw [if_pos c_35] at hz
        refine lv_aload_n hx hb dX1_setSum_124 rfl (lv_at hl 0 rfl) ?_
        refine lv_iload hx hb dX1_setSum_125 (lv_at hl 5 rfl) ?_
        have J_39 : (∀ z38 : Bool, z38 = Z_X1_setSum_J_39 p2 p3 z3 → ∀ (H : Heap) (locs : List Loc), va_P D vwCl (xw cR ax ar ao ad vrd vtr vsd vrn z32.1 z32.2.1 z32.2.2.1 z32.2.2.2.1 z32.2.2.2.2 vow vok vos vso vmi vco vex) H → va_D A (xw cR ax ar ao ad vrd vtr vsd vrn z32.1 z32.2.1 z32.2.2.1 z32.2.2.2.1 z32.2.2.2.2 vow vok vos vso vmi vco vex) → va_S A s.heap H locs → ∀ ls : Array Slot, lv_has ls 6 [(0, .ref ao), (1, .ref (ad i1)), (2, .ref (ad i2))] → W p l e rm_X1_setSum s m args below meth c H locs 0 0 Q (F0 m 136 ls [.int (bI z38), .ref ao])) := by
          intro z38 ez38 H locs hP hD hS ls hl
          have hz := hz _ ez38
          refine va_put (D := D) (ci := 3) (v := .int (bI z38)) (ty := .boolean) (C := RX1) (T := TX1) (N := 8) hx hb hts hi1 tyX1 tyX1_ok nmX1 hown hK hP hD hS 2 rfl rfl 0 (by decide) (hts (.fieldLink RX1 31 "DecimalWords$Outcome" "minus" "Z") (inW_1 _ (List.mem_of_getElem? (i := 30) rfl))) (fun _ h9 => h9) rfl (by decide +kernel) (bI_nar z38) (bI_fit z38) (Nat.le_of_ble_eq_true rfl) dX1_setSum_136 (fun H locs hP hD hS => ?_)
          have hP : va_P D vwCl (xw cR ax ar ao ad vrd vtr vsd vrn z38 z32.2.1 z32.2.2.1 z32.2.2.2.1 z32.2.2.2.2 vow vok vos vso vmi vco vex) H := hP
          have hD : va_D A (xw cR ax ar ao ad vrd vtr vsd vrn z38 z32.2.1 z32.2.2.1 z32.2.2.2.1 z32.2.2.2.2 vow vok vos vso vmi vco vex) := hD
          have e9 := Eq.symm hz; subst e9
          exact J_43 _ ez9 H locs hP hD hS ls (lv_sub hl [0, 1, 2] rfl)
        obtain ⟨z9, ez9⟩ : ∃ y9 : Bool, y9 = Z_X1_setSum_J_39 p2 p3 z3 := ⟨_, rfl⟩
        have hz := rZ_X1_setSum_J_39 p2 p3 z3 ez9
        unfold RZ_X1_setSum_J_39 at hz
        refine xb_eq (tgt := 134) hx hb dX1_setSum_127 (by decide) (fun c_36 => ?_) (fun c_36 => ?_)
        · rw [if_neg c_36] at hz
          refine lv_iload hx hb dX1_setSum_134 (lv_at hl 4 rfl) ?_
          have e9 := Eq.symm hz; subst e9
          exact J_39 _ ez9 H locs hP hD hS ls (lv_sub hl [0, 1, 2] rfl)
        · rw [if_pos c_36] at hz
          refine lv_iload_n hx hb dX1_setSum_130 rfl (lv_at hl 3 rfl) ?_
          refine lv_goto (tgt := 136) hx hb dX1_setSum_131 (by decide) ?_
          have e9 := Eq.symm hz; subst e9
          exact J_39 _ ez9 H locs hP hD hS ls (lv_sub hl [0, 1, 2] rfl)
    obtain ⟨z9, ez9⟩ : ∃ y9 : Bool × Int64 × Int64 × Int32 × Bool, y9 = Z_X1_setSum_J_33 vso vmi vco vex i1 i2 p2 z3 := ⟨_, rfl⟩
    have hz := rZ_X1_setSum_J_33 vso vmi vco vex i1 i2 p2 z3 ez9
    unfold RZ_X1_setSum_J_33 at hz
    refine xb_eq (tgt := 35) hx hb dX1_setSum_19 (by decide) (fun c_6 => ?_) (fun c_6 => ?_)
    · rw [if_neg c_6] at hs
      rw [if_neg c_6] at hz
      refine lv_aload_n hx hb dX1_setSum_35 rfl (lv_at hl 3 rfl) ?_
      refine x_V (As := []) (rest := []) hCF (c_X0_isZero l D cR cI cJ cZ t0 ax ar ao ad vrd vtr vsd vrn vom voh vol vop voe vow vok vos vso vmi vco vex i2 _ rfl hb2) (x_cwV 0 hts (inW_2 _ (List.mem_of_getElem? (i := 0) rfl)) (inW_1 _ (List.mem_of_getElem? (i := 14) rfl)) (inW_1 _ (List.mem_of_getElem? (i := 15) rfl)) (inW_1 _ (List.mem_of_getElem? (i := 16) rfl)) (inW_1 _ (List.mem_of_getElem? (i := 11) rfl)) rfl rfl (by decide +kernel) ⟨Nat.le_of_ble_eq_true rfl, Nat.le_of_ble_eq_true rfl⟩) hK hP hD hS hA hSt (3 + i2) (xw_dat hb2) rfl rfl hl.1 rfl (Nat.le_of_ble_eq_true rfl) dX1_setSum_36 ⟨Nat.le_of_ble_eq_true rfl, Nat.le_of_ble_eq_true rfl⟩ (fun H locs hP hD hS => ?_)
      show W p l e _ s m args below meth c H locs 0 0 Q (F0 m 39 ls (.int (bI (F_X0_isZero vso vco i2)) :: []))
      refine xb_eq (tgt := 50) hx hb dX1_setSum_39 (by decide) (fun c_8 => ?_) (fun c_8 => ?_)
      · rw [if_neg c_8] at hs
        rw [if_neg c_8] at hz
        refine lv_aload_n hx hb dX1_setSum_50 rfl (lv_at hl 2 rfl) ?_
        refine g_ex (i := i1) hx hb hts hi0 hown hK hP hb1 (hts (.fieldLink RX1 35 "DecimalWords$Datum" "exponent" "I") (inW_1 _ (List.mem_of_getElem? (i := 32) rfl))) dX1_setSum_51 ?_
        refine lv_aload_n hx hb dX1_setSum_54 rfl (lv_at hl 3 rfl) ?_
        refine g_ex (i := i2) hx hb hts hi0 hown hK hP hb2 (hts (.fieldLink RX1 35 "DecimalWords$Datum" "exponent" "I") (inW_1 _ (List.mem_of_getElem? (i := 32) rfl))) dX1_setSum_55 ?_
        refine lv_icmp_lt (tgt := 92) hx hb dX1_setSum_58 (by decide) (fun c_9 => ?_) (fun c_9 => ?_)
        · rw [if_pos c_9] at hs
          rw [if_pos c_9] at hz
          refine lv_aload_n hx hb dX1_setSum_92 rfl (lv_at hl 1 rfl) ?_
          refine lv_aload_n hx hb dX1_setSum_93 rfl (lv_at hl 3 rfl) ?_
          refine lv_aload_n hx hb dX1_setSum_94 rfl (lv_at hl 2 rfl) ?_
          refine lv_iload hx hb dX1_setSum_95 (lv_at hl 0 rfl) ?_
          have h_10 := hs
          obtain ⟨u11, eu11⟩ : ∃ y9 : Bool × Int64 × Int64 × Int32 × Bool, y9 = F_X1_join vco vex i2 i1 z3 := ⟨_, rfl⟩
          have hz := hz _ eu11
          refine x_V (As := [.ref (ad i2), .ref (ad i1), .int (bI z3)]) (rest := []) hCF (c_X1_join l D cR cI cJ cZ t0 ax ar ao ad vrd vtr vsd vrn vom voh vol vop voe vow vok vos vso vmi vco vex i2 i1 z3 u11 eu11 h_10 hb2 hb1) (x_cwV 3 hts (inW_2 _ (List.mem_of_getElem? (i := 5) rfl)) (inW_2 _ (List.mem_of_getElem? (i := 6) rfl)) (inW_2 _ (List.mem_of_getElem? (i := 7) rfl)) (inW_2 _ (List.mem_of_getElem? (i := 4) rfl)) (inW_2 _ (List.mem_of_getElem? (i := 8) rfl)) rfl rfl (by decide +kernel) ⟨Nat.le_of_ble_eq_true rfl, Nat.le_of_ble_eq_true rfl⟩) hK hP hD hS hA hSt 2 rfl rfl rfl hl.1 rfl (Nat.le_of_ble_eq_true rfl) dX1_setSum_97 ⟨Nat.le_of_ble_eq_true rfl, Nat.le_of_ble_eq_true rfl⟩ (fun H locs hP hD hS => ?_)
          show W p l e _ s m args below meth c H locs 0 0 Q (F0 m 100 ls [])
          refine lv_aload_n hx hb dX1_setSum_100 rfl (lv_at hl 1 rfl) ?_
          refine lv_iload_n hx hb dX1_setSum_101 rfl (lv_at hl 4 rfl) ?_
          refine lv_aload_n hx hb dX1_setSum_102 rfl (lv_at hl 1 rfl) ?_
          refine va_get (D := D) (ci := 3) (v := .int (bI u11.1)) (C := RX1) (T := TX1) (N := 8) hx hb hts hi1 hown hK hP 2 rfl rfl 0 (by decide) (hts (.fieldLink RX1 31 "DecimalWords$Outcome" "minus" "Z") (inW_1 _ (List.mem_of_getElem? (i := 30) rfl))) (fun _ h9 => h9) rfl dX1_setSum_103 ?_
          have J_16 : (∀ z15 : Bool, z15 = Z_X1_setSum_J_16 p2 u11 → ∀ (H : Heap) (locs : List Loc), va_P D vwCl (xw cR ax ar ao ad vrd vtr vsd vrn u11.1 u11.2.1 u11.2.2.1 u11.2.2.2.1 u11.2.2.2.2 vow vok vos vso vmi vco vex) H → va_D A (xw cR ax ar ao ad vrd vtr vsd vrn u11.1 u11.2.1 u11.2.2.1 u11.2.2.2.1 u11.2.2.2.2 vow vok vos vso vmi vco vex) → va_S A s.heap H locs → ∀ ls : Array Slot, lv_has ls 6 [(0, .ref ao), (1, .ref (ad i1)), (2, .ref (ad i2)), (3, .int (bI p2)), (4, .int (bI p3)), (5, .int (bI z3))] → W p l e rm_X1_setSum s m args below meth c H locs 0 0 Q (F0 m 114 ls [.int (bI z15), .ref ao])) := by
            intro z15 ez15 H locs hP hD hS ls hl
            have hz := hz _ ez15
            refine va_put (D := D) (ci := 3) (v := .int (bI z15)) (ty := .boolean) (C := RX1) (T := TX1) (N := 8) hx hb hts hi1 tyX1 tyX1_ok nmX1 hown hK hP hD hS 2 rfl rfl 0 (by decide) (hts (.fieldLink RX1 31 "DecimalWords$Outcome" "minus" "Z") (inW_1 _ (List.mem_of_getElem? (i := 30) rfl))) (fun _ h9 => h9) rfl (by decide +kernel) (bI_nar z15) (bI_fit z15) (Nat.le_of_ble_eq_true rfl) dX1_setSum_114 (fun H locs hP hD hS => ?_)
            have hP : va_P D vwCl (xw cR ax ar ao ad vrd vtr vsd vrn z15 u11.2.1 u11.2.2.1 u11.2.2.2.1 u11.2.2.2.2 vow vok vos vso vmi vco vex) H := hP
            have hD : va_D A (xw cR ax ar ao ad vrd vtr vsd vrn z15 u11.2.1 u11.2.2.1 u11.2.2.2.1 u11.2.2.2.2 vow vok vos vso vmi vco vex) := hD
            have e9 := Eq.symm hz; subst e9
            exact J_33 _ ez9 H locs hP hD hS ls (lv_sub hl [0, 1, 2, 3, 4, 5] rfl)
          obtain ⟨z9, ez9⟩ : ∃ y9 : Bool, y9 = Z_X1_setSum_J_16 p2 u11 := ⟨_, rfl⟩
          have hz := rZ_X1_setSum_J_16 p2 u11 ez9
          unfold RZ_X1_setSum_J_16 at hz
          refine xbb_eq (tgt := 113) hx hb dX1_setSum_106 (by decide) (fun c_13 => ?_) (fun c_13 => ?_)
          · rw [if_pos c_13] at hz
            refine lv_iconst (v := 0) hx hb dX1_setSum_113 (by decide) ?_
            have e9 := Eq.symm hz; subst e9
            exact J_16 _ ez9 H locs hP hD hS ls (lv_sub hl [1, 2, 3, 4, 5, 0] rfl)
          · rw [if_neg c_13] at hz
            refine lv_iconst (v := 1) hx hb dX1_setSum_109 (by decide) ?_
            refine lv_goto (tgt := 114) hx hb dX1_setSum_110 (by decide) ?_
            have e9 := Eq.symm hz; subst e9
            exact J_16 _ ez9 H locs hP hD hS ls (lv_sub hl [1, 2, 3, 4, 5, 0] rfl)
        · rw [if_neg c_9] at hs
          rw [if_neg c_9] at hz
          refine lv_aload_n hx hb dX1_setSum_61 rfl (lv_at hl 1 rfl) ?_
          refine lv_aload_n hx hb dX1_setSum_62 rfl (lv_at hl 2 rfl) ?_
          refine lv_aload_n hx hb dX1_setSum_63 rfl (lv_at hl 3 rfl) ?_
          refine lv_iload hx hb dX1_setSum_64 (lv_at hl 0 rfl) ?_
          have h_18 := hs
          obtain ⟨u19, eu19⟩ : ∃ y9 : Bool × Int64 × Int64 × Int32 × Bool, y9 = F_X1_join vco vex i1 i2 z3 := ⟨_, rfl⟩
          have hz := hz _ eu19
          refine x_V (As := [.ref (ad i1), .ref (ad i2), .int (bI z3)]) (rest := []) hCF (c_X1_join l D cR cI cJ cZ t0 ax ar ao ad vrd vtr vsd vrn vom voh vol vop voe vow vok vos vso vmi vco vex i1 i2 z3 u19 eu19 h_18 hb1 hb2) (x_cwV 3 hts (inW_2 _ (List.mem_of_getElem? (i := 5) rfl)) (inW_2 _ (List.mem_of_getElem? (i := 6) rfl)) (inW_2 _ (List.mem_of_getElem? (i := 7) rfl)) (inW_2 _ (List.mem_of_getElem? (i := 4) rfl)) (inW_2 _ (List.mem_of_getElem? (i := 8) rfl)) rfl rfl (by decide +kernel) ⟨Nat.le_of_ble_eq_true rfl, Nat.le_of_ble_eq_true rfl⟩) hK hP hD hS hA hSt 2 rfl rfl rfl hl.1 rfl (Nat.le_of_ble_eq_true rfl) dX1_setSum_66 ⟨Nat.le_of_ble_eq_true rfl, Nat.le_of_ble_eq_true rfl⟩ (fun H locs hP hD hS => ?_)
          show W p l e _ s m args below meth c H locs 0 0 Q (F0 m 69 ls [])
          refine lv_aload_n hx hb dX1_setSum_69 rfl (lv_at hl 1 rfl) ?_
          refine lv_aload_n hx hb dX1_setSum_70 rfl (lv_at hl 2 rfl) ?_
          refine g_mi (i := i1) hx hb hts hi0 hown hK hP hb1 (hts (.fieldLink RX1 26 "DecimalWords$Datum" "minus" "Z") (inW_1 _ (List.mem_of_getElem? (i := 29) rfl))) dX1_setSum_71 ?_
          refine lv_aload_n hx hb dX1_setSum_74 rfl (lv_at hl 1 rfl) ?_
          refine va_get (D := D) (ci := 3) (v := .int (bI u19.1)) (C := RX1) (T := TX1) (N := 8) hx hb hts hi1 hown hK hP 2 rfl rfl 0 (by decide) (hts (.fieldLink RX1 31 "DecimalWords$Outcome" "minus" "Z") (inW_1 _ (List.mem_of_getElem? (i := 30) rfl))) (fun _ h9 => h9) rfl dX1_setSum_75 ?_
          have J_24 : (∀ z23 : Bool, z23 = Z_X1_setSum_J_24 vmi i1 u19 → ∀ (H : Heap) (locs : List Loc), va_P D vwCl (xw cR ax ar ao ad vrd vtr vsd vrn u19.1 u19.2.1 u19.2.2.1 u19.2.2.2.1 u19.2.2.2.2 vow vok vos vso vmi vco vex) H → va_D A (xw cR ax ar ao ad vrd vtr vsd vrn u19.1 u19.2.1 u19.2.2.1 u19.2.2.2.1 u19.2.2.2.2 vow vok vos vso vmi vco vex) → va_S A s.heap H locs → ∀ ls : Array Slot, lv_has ls 6 [(0, .ref ao), (1, .ref (ad i1)), (2, .ref (ad i2)), (3, .int (bI p2)), (4, .int (bI p3)), (5, .int (bI z3))] → W p l e rm_X1_setSum s m args below meth c H locs 0 0 Q (F0 m 86 ls [.int (bI z23), .ref ao])) := by
            intro z23 ez23 H locs hP hD hS ls hl
            have hz := hz _ ez23
            refine va_put (D := D) (ci := 3) (v := .int (bI z23)) (ty := .boolean) (C := RX1) (T := TX1) (N := 8) hx hb hts hi1 tyX1 tyX1_ok nmX1 hown hK hP hD hS 2 rfl rfl 0 (by decide) (hts (.fieldLink RX1 31 "DecimalWords$Outcome" "minus" "Z") (inW_1 _ (List.mem_of_getElem? (i := 30) rfl))) (fun _ h9 => h9) rfl (by decide +kernel) (bI_nar z23) (bI_fit z23) (Nat.le_of_ble_eq_true rfl) dX1_setSum_86 (fun H locs hP hD hS => ?_)
            have hP : va_P D vwCl (xw cR ax ar ao ad vrd vtr vsd vrn z23 u19.2.1 u19.2.2.1 u19.2.2.2.1 u19.2.2.2.2 vow vok vos vso vmi vco vex) H := hP
            have hD : va_D A (xw cR ax ar ao ad vrd vtr vsd vrn z23 u19.2.1 u19.2.2.1 u19.2.2.2.1 u19.2.2.2.2 vow vok vos vso vmi vco vex) := hD
            refine lv_goto (tgt := 117) hx hb dX1_setSum_89 (by decide) ?_
            have e9 := Eq.symm hz; subst e9
            exact J_33 _ ez9 H locs hP hD hS ls (lv_sub hl [0, 1, 2, 3, 4, 5] rfl)
          obtain ⟨z9, ez9⟩ : ∃ y9 : Bool, y9 = Z_X1_setSum_J_24 vmi i1 u19 := ⟨_, rfl⟩
          have hz := rZ_X1_setSum_J_24 vmi i1 u19 ez9
          unfold RZ_X1_setSum_J_24 at hz
          refine xbb_eq (tgt := 85) hx hb dX1_setSum_78 (by decide) (fun c_21 => ?_) (fun c_21 => ?_)
          · rw [if_pos c_21] at hz
            refine lv_iconst (v := 0) hx hb dX1_setSum_85 (by decide) ?_
            have e9 := Eq.symm hz; subst e9
            exact J_24 _ ez9 H locs hP hD hS ls (lv_sub hl [1, 2, 3, 4, 5, 0] rfl)
          · rw [if_neg c_21] at hz
            refine lv_iconst (v := 1) hx hb dX1_setSum_81 (by decide) ?_
            refine lv_goto (tgt := 86) hx hb dX1_setSum_82 (by decide) ?_
            have e9 := Eq.symm hz; subst e9
            exact J_24 _ ez9 H locs hP hD hS ls (lv_sub hl [1, 2, 3, 4, 5, 0] rfl)
      · rw [if_pos c_8] at hz
        refine lv_aload_n hx hb dX1_setSum_42 rfl (lv_at hl 1 rfl) ?_
        refine lv_aload_n hx hb dX1_setSum_43 rfl (lv_at hl 2 rfl) ?_
        obtain ⟨u26, eu26⟩ : ∃ y9 : Bool × Int64 × Int64 × Int32 × Bool, y9 = F_X1_setWhole vmi vco vex i1 := ⟨_, rfl⟩
        have hz := hz _ eu26
        refine x_V (As := [.ref (ad i1)]) (rest := []) hCF (c_X1_setWhole l D cR cI cJ cZ t0 ax ar ao ad vrd vtr vsd vrn vom voh vol vop voe vow vok vos vso vmi vco vex i1 u26 eu26 hb1) (x_cwV 1 hts (inW_2 _ (List.mem_of_getElem? (i := 1) rfl)) (inW_2 _ (List.mem_of_getElem? (i := 2) rfl)) (inW_2 _ (List.mem_of_getElem? (i := 3) rfl)) (inW_2 _ (List.mem_of_getElem? (i := 4) rfl)) (inW_1 _ (List.mem_of_getElem? (i := 28) rfl)) rfl rfl (by decide +kernel) ⟨Nat.le_of_ble_eq_true rfl, Nat.le_of_ble_eq_true rfl⟩) hK hP hD hS hA hSt 2 rfl rfl rfl hl.1 rfl (Nat.le_of_ble_eq_true rfl) dX1_setSum_44 ⟨Nat.le_of_ble_eq_true rfl, Nat.le_of_ble_eq_true rfl⟩ (fun H locs hP hD hS => ?_)
        show W p l e _ s m args below meth c H locs 0 0 Q (F0 m 47 ls [])
        refine lv_goto (tgt := 117) hx hb dX1_setSum_47 (by decide) ?_
        have e9 := Eq.symm hz; subst e9
        exact J_33 _ ez9 H locs hP hD hS ls (lv_sub hl [1, 2, 3, 4, 5, 0] rfl)
    · rw [if_pos c_6] at hz
      refine lv_aload_n hx hb dX1_setSum_22 rfl (lv_at hl 1 rfl) ?_
      refine lv_aload_n hx hb dX1_setSum_23 rfl (lv_at hl 3 rfl) ?_
      obtain ⟨u28, eu28⟩ : ∃ y9 : Bool × Int64 × Int64 × Int32 × Bool, y9 = F_X1_setWhole vmi vco vex i2 := ⟨_, rfl⟩
      have hz := hz _ eu28
      refine x_V (As := [.ref (ad i2)]) (rest := []) hCF (c_X1_setWhole l D cR cI cJ cZ t0 ax ar ao ad vrd vtr vsd vrn vom voh vol vop voe vow vok vos vso vmi vco vex i2 u28 eu28 hb2) (x_cwV 1 hts (inW_2 _ (List.mem_of_getElem? (i := 1) rfl)) (inW_2 _ (List.mem_of_getElem? (i := 2) rfl)) (inW_2 _ (List.mem_of_getElem? (i := 3) rfl)) (inW_2 _ (List.mem_of_getElem? (i := 4) rfl)) (inW_1 _ (List.mem_of_getElem? (i := 28) rfl)) rfl rfl (by decide +kernel) ⟨Nat.le_of_ble_eq_true rfl, Nat.le_of_ble_eq_true rfl⟩) hK hP hD hS hA hSt 2 rfl rfl rfl hl.1 rfl (Nat.le_of_ble_eq_true rfl) dX1_setSum_24 ⟨Nat.le_of_ble_eq_true rfl, Nat.le_of_ble_eq_true rfl⟩ (fun H locs hP hD hS => ?_)
      show W p l e _ s m args below meth c H locs 0 0 Q (F0 m 27 ls [])
      refine lv_aload_n hx hb dX1_setSum_27 rfl (lv_at hl 1 rfl) ?_
      refine lv_iload_n hx hb dX1_setSum_28 rfl (lv_at hl 4 rfl) ?_
      refine va_put (D := D) (ci := 3) (v := .int (bI p2)) (ty := .boolean) (C := RX1) (T := TX1) (N := 8) hx hb hts hi1 tyX1 tyX1_ok nmX1 hown hK hP hD hS 2 rfl rfl 0 (by decide) (hts (.fieldLink RX1 31 "DecimalWords$Outcome" "minus" "Z") (inW_1 _ (List.mem_of_getElem? (i := 30) rfl))) (fun _ h9 => h9) rfl (by decide +kernel) (bI_nar p2) (bI_fit p2) (Nat.le_of_ble_eq_true rfl) dX1_setSum_29 (fun H locs hP hD hS => ?_)
      have hP : va_P D vwCl (xw cR ax ar ao ad vrd vtr vsd vrn p2 u28.2.1 u28.2.2.1 u28.2.2.2.1 u28.2.2.2.2 vow vok vos vso vmi vco vex) H := hP
      have hD : va_D A (xw cR ax ar ao ad vrd vtr vsd vrn p2 u28.2.1 u28.2.2.1 u28.2.2.2.1 u28.2.2.2.2 vow vok vos vso vmi vco vex) := hD
      refine lv_goto (tgt := 117) hx hb dX1_setSum_32 (by decide) ?_
      have e9 := Eq.symm hz; subst e9
      exact J_33 _ ez9 H locs hP hD hS ls (lv_sub hl [1, 2, 3, 4, 5, 0] rfl)
  obtain ⟨z9, ez9⟩ : ∃ y9 : Bool, y9 = Z_X1_setSum_J_4 vmi i1 p2 := ⟨_, rfl⟩
  have hz := rZ_X1_setSum_J_4 vmi i1 p2 ez9
  unfold RZ_X1_setSum_J_4 at hz
  refine xbb_ne (tgt := 12) hx hb dX1_setSum_5 (by decide) (fun c_1 => ?_) (fun c_1 => ?_)
  · rw [if_neg c_1] at hz
    refine lv_iconst (v := 0) hx hb dX1_setSum_12 (by decide) ?_
    have e9 := Eq.symm hz; subst e9
    exact J_4 _ ez9 H locs hP hD hS ls (lv_sub hl [0, 1, 2, 3, 4] rfl)
  · rw [if_pos c_1] at hz
    refine lv_iconst (v := 1) hx hb dX1_setSum_8 (by decide) ?_
    refine lv_goto (tgt := 13) hx hb dX1_setSum_9 (by decide) ?_
    have e9 := Eq.symm hz; subst e9
    exact J_4 _ ez9 H locs hP hD hS ls (lv_sub hl [0, 1, 2, 3, 4] rfl)

def B_X1_setQuotient_59 (n1 : Int64) (t_ : Int64 × Int32 × Int32) : Int64 × Int32 × Int32 := (if 16 ≤ t_.2.1 then t_ else (if n1 ≤ t_.1 then t_ else (bnd (t_.1 * 10) (fun n13 : Int64 => (bnd (t_.2.2 - 1) (fun f14 : Int32 => (bnd (t_.2.1 + 1) (fun n16 : Int32 => (n13, n16, f14)))))))))
def G_X1_setQuotient_59 (n1 : Int64) (t_ : Int64 × Int32 × Int32) : Bool := (if 16 ≤ t_.2.1 then false else (if n1 ≤ t_.1 then false else (bnd (t_.1 * 10) (fun n13 : Int64 => (bnd (t_.2.2 - 1) (fun f14 : Int32 => (bnd (t_.2.1 + 1) (fun n16 : Int32 => true))))))))
def RB_X1_setQuotient_59 (n1 : Int64) (t_ : Int64 × Int32 × Int32) (u9 : Int64 × Int32 × Int32) : Prop := (if 16 ≤ t_.2.1 then True else (if n1 ≤ t_.1 then True else (∀ n13 : Int64, n13 = t_.1 * 10 → (∀ f14 : Int32, f14 = t_.2.2 - 1 → (∀ n16 : Int32, n16 = t_.2.1 + 1 → u9 = (n13, n16, f14))))))
def RG_X1_setQuotient_59 (n1 : Int64) (t_ : Int64 × Int32 × Int32) (u9 : Bool) : Prop := (if 16 ≤ t_.2.1 then u9 = false else (if n1 ≤ t_.1 then u9 = false else u9 = true))
theorem rB_X1_setQuotient_59 (n1 : Int64) (t_ : Int64 × Int32 × Int32) {u9 : Int64 × Int32 × Int32} (hu : u9 = B_X1_setQuotient_59 n1 t_) : RB_X1_setQuotient_59 n1 t_ u9 := by
  unfold RB_X1_setQuotient_59
  refine ite_P (fun c_11 => ?_) (fun c_11 => ?_)
  · have hu := hu.trans (if_pos c_11)
    trivial
  · have hu := hu.trans (if_neg c_11)
    refine ite_P (fun c_12 => ?_) (fun c_12 => ?_)
    · have hu := hu.trans (if_pos c_12)
      trivial
    · have hu := hu.trans (if_neg c_12)
      intro n13 en13
      have hu := bnd_n hu en13
      intro f14 ef14
      have hu := bnd_n hu ef14
      intro n16 en16
      have hu := bnd_n hu en16
      exact hu
theorem rG_X1_setQuotient_59 (n1 : Int64) (t_ : Int64 × Int32 × Int32) {u9 : Bool} (hu : u9 = G_X1_setQuotient_59 n1 t_) : RG_X1_setQuotient_59 n1 t_ u9 := by
  unfold RG_X1_setQuotient_59
  refine ite_P (fun c_11 => ?_) (fun c_11 => ?_)
  · have hu := hu.trans (if_pos c_11)
    exact hu
  · have hu := hu.trans (if_neg c_11)
    refine ite_P (fun c_12 => ?_) (fun c_12 => ?_)
    · have hu := hu.trans (if_pos c_12)
      exact hu
    · have hu := hu.trans (if_neg c_12)
      exact hu
def B_X1_setQuotient_119 (n1 : Int64) (t_ : Int64 × Int32 × Int64 × Int32) : Int64 × Int32 × Int64 × Int32 := (if 16 ≤ t_.2.1 then t_ else (bnd (t_.1 * 10) (fun n29 : Int64 => (bnd ((t_.2.2.1 * 10) + (n29 / n1)) (fun f31 : Int64 => (bnd (jremL n29 n1) (fun n33 : Int64 => (bnd (t_.2.2.2 - 1) (fun f34 : Int32 => (bnd (t_.2.1 + 1) (fun n36 : Int32 => (n33, n36, f31, f34))))))))))))
def G_X1_setQuotient_119 (n1 : Int64) (t_ : Int64 × Int32 × Int64 × Int32) : Bool := (if 16 ≤ t_.2.1 then false else (bnd (t_.1 * 10) (fun n29 : Int64 => (bnd ((t_.2.2.1 * 10) + (n29 / n1)) (fun f31 : Int64 => (bnd (jremL n29 n1) (fun n33 : Int64 => (bnd (t_.2.2.2 - 1) (fun f34 : Int32 => (bnd (t_.2.1 + 1) (fun n36 : Int32 => true)))))))))))
def RB_X1_setQuotient_119 (n1 : Int64) (t_ : Int64 × Int32 × Int64 × Int32) (u9 : Int64 × Int32 × Int64 × Int32) : Prop := (if 16 ≤ t_.2.1 then True else (∀ n29 : Int64, n29 = t_.1 * 10 → (∀ f31 : Int64, f31 = (t_.2.2.1 * 10) + (n29 / n1) → (∀ n33 : Int64, n33 = jremL n29 n1 → (∀ f34 : Int32, f34 = t_.2.2.2 - 1 → (∀ n36 : Int32, n36 = t_.2.1 + 1 → u9 = (n33, n36, f31, f34)))))))
def RG_X1_setQuotient_119 (n1 : Int64) (t_ : Int64 × Int32 × Int64 × Int32) (u9 : Bool) : Prop := (if 16 ≤ t_.2.1 then u9 = false else u9 = true)
theorem rB_X1_setQuotient_119 (n1 : Int64) (t_ : Int64 × Int32 × Int64 × Int32) {u9 : Int64 × Int32 × Int64 × Int32} (hu : u9 = B_X1_setQuotient_119 n1 t_) : RB_X1_setQuotient_119 n1 t_ u9 := by
  unfold RB_X1_setQuotient_119
  refine ite_P (fun c_28 => ?_) (fun c_28 => ?_)
  · have hu := hu.trans (if_pos c_28)
    trivial
  · have hu := hu.trans (if_neg c_28)
    intro n29 en29
    have hu := bnd_n hu en29
    intro f31 ef31
    have hu := bnd_n hu ef31
    intro n33 en33
    have hu := bnd_n hu en33
    intro f34 ef34
    have hu := bnd_n hu ef34
    intro n36 en36
    have hu := bnd_n hu en36
    exact hu
theorem rG_X1_setQuotient_119 (n1 : Int64) (t_ : Int64 × Int32 × Int64 × Int32) {u9 : Bool} (hu : u9 = G_X1_setQuotient_119 n1 t_) : RG_X1_setQuotient_119 n1 t_ u9 := by
  unfold RG_X1_setQuotient_119
  refine ite_P (fun c_28 => ?_) (fun c_28 => ?_)
  · have hu := hu.trans (if_pos c_28)
    exact hu
  · have hu := hu.trans (if_neg c_28)
    exact hu
def SB_X1_setQuotient_119 (n1 : Int64) (t_ : Int64 × Int32 × Int64 × Int32) : Prop := (if 16 ≤ t_.2.1 then True else (∀ n29 : Int64, n29 = t_.1 * 10 → ¬ n1 = 0))
def Z_X1_setQuotient_J_45 (z37 : Int64 × Int32 × Int64 × Int32) : Bool := (if z37.1 = 0 then false else true)
def RZ_X1_setQuotient_J_45 (z37 : Int64 × Int32 × Int64 × Int32) (u9 : Bool) : Prop := (if z37.1 = 0 then u9 = false else u9 = true)
theorem rZ_X1_setQuotient_J_45 (z37 : Int64 × Int32 × Int64 × Int32) {u9 : Bool} (hu : u9 = Z_X1_setQuotient_J_45 z37) : RZ_X1_setQuotient_J_45 z37 u9 := by
  unfold RZ_X1_setQuotient_J_45
  refine ite_P (fun c_42 => ?_) (fun c_42 => ?_)
  · have hu := hu.trans (if_pos c_42)
    exact hu
  · have hu := hu.trans (if_neg c_42)
    exact hu
def Z_X1_setQuotient_J_6 (vmi : Nat → Bool) (i1 : Nat) (i2 : Nat) : Bool := (if vmi i1 = vmi i2 then false else true)
def RZ_X1_setQuotient_J_6 (vmi : Nat → Bool) (i1 : Nat) (i2 : Nat) (u9 : Bool) : Prop := (if vmi i1 = vmi i2 then u9 = false else u9 = true)
theorem rZ_X1_setQuotient_J_6 (vmi : Nat → Bool) (i1 : Nat) (i2 : Nat) {u9 : Bool} (hu : u9 = Z_X1_setQuotient_J_6 vmi i1 i2) : RZ_X1_setQuotient_J_6 vmi i1 i2 u9 := by
  unfold RZ_X1_setQuotient_J_6
  refine ite_P (fun c_3 => ?_) (fun c_3 => ?_)
  · have hu := hu.trans (if_pos c_3)
    exact hu
  · have hu := hu.trans (if_neg c_3)
    exact hu
def F_X1_setQuotient (vmi : Nat → Bool) (vco : Nat → Int64) (vex : Nat → Int32) (i1 : Nat) (i2 : Nat) : Bool × Int64 × Int64 × Int32 × Bool × Int32 := (bnd (jmaxL 1 (vco i2)) (fun n1 : Int64 => (bnd (vco i1) (fun n2 : Int64 => (bnd (Z_X1_setQuotient_J_6 vmi i1 i2) (fun z5 : Bool => (bnd ((vex i1) - (vex i2)) (fun f8 : Int32 => (bnd (wl (G_X1_setQuotient_59 n1) (B_X1_setQuotient_59 n1) 17 (n2, 0, f8)) (fun z17 : Int64 × Int32 × Int32 => (bnd (z17.1 / n1) (fun f24 : Int64 => (bnd (jremL z17.1 n1) (fun n26 : Int64 => (bnd (wl (G_X1_setQuotient_119 n1) (B_X1_setQuotient_119 n1) 17 (n26, 0, 0, z17.2.2)) (fun z37 : Int64 × Int32 × Int64 × Int32 => (bnd (Z_X1_setQuotient_J_45 z37) (fun z44 : Bool => (z5, f24, z37.2.2.1, z37.2.2.2, z44, f8)))))))))))))))))))
def RF_X1_setQuotient (vmi : Nat → Bool) (vco : Nat → Int64) (vex : Nat → Int32) (i1 : Nat) (i2 : Nat) (u9 : Bool × Int64 × Int64 × Int32 × Bool × Int32) : Prop := (∀ n1 : Int64, n1 = jmaxL 1 (vco i2) → (∀ n2 : Int64, n2 = vco i1 → (∀ z5 : Bool, z5 = Z_X1_setQuotient_J_6 vmi i1 i2 → (∀ f8 : Int32, f8 = (vex i1) - (vex i2) → (∀ z17 : Int64 × Int32 × Int32, z17 = wl (G_X1_setQuotient_59 n1) (B_X1_setQuotient_59 n1) 17 (n2, 0, f8) → (∀ f24 : Int64, f24 = z17.1 / n1 → (∀ n26 : Int64, n26 = jremL z17.1 n1 → (∀ z37 : Int64 × Int32 × Int64 × Int32, z37 = wl (G_X1_setQuotient_119 n1) (B_X1_setQuotient_119 n1) 17 (n26, 0, 0, z17.2.2) → (∀ z44 : Bool, z44 = Z_X1_setQuotient_J_45 z37 → u9 = (z5, f24, z37.2.2.1, z37.2.2.2, z44, f8))))))))))
theorem rF_X1_setQuotient (vmi : Nat → Bool) (vco : Nat → Int64) (vex : Nat → Int32) (i1 : Nat) (i2 : Nat) {u9 : Bool × Int64 × Int64 × Int32 × Bool × Int32} (hu : u9 = F_X1_setQuotient vmi vco vex i1 i2) : RF_X1_setQuotient vmi vco vex i1 i2 u9 := by
  unfold RF_X1_setQuotient
  intro n1 en1
  have hu := bnd_n hu en1
  intro n2 en2
  have hu := bnd_n hu en2
  intro z5 ez5
  have hu := bnd_n hu ez5
  intro f8 ef8
  have hu := bnd_n hu ef8
  intro z17 ez17
  have hu := bnd_n hu ez17
  intro f24 ef24
  have hu := bnd_n hu ef24
  intro n26 en26
  have hu := bnd_n hu en26
  intro z37 ez37
  have hu := bnd_n hu ez37
  intro z44 ez44
  have hu := bnd_n hu ez44
  exact hu
def S_X1_setQuotient (vmi : Nat → Bool) (vco : Nat → Int64) (vex : Nat → Int32) (i1 : Nat) (i2 : Nat) : Prop := (∀ n1 : Int64, n1 = jmaxL 1 (vco i2) → (∀ n2 : Int64, n2 = vco i1 → (∀ z5 : Bool, z5 = Z_X1_setQuotient_J_6 vmi i1 i2 → (∀ f8 : Int32, f8 = (vex i1) - (vex i2) → G_X1_setQuotient_59 n1 (wl (G_X1_setQuotient_59 n1) (B_X1_setQuotient_59 n1) 17 (n2, 0, f8)) = false ∧ (∀ z17 : Int64 × Int32 × Int32, z17 = wl (G_X1_setQuotient_59 n1) (B_X1_setQuotient_59 n1) 17 (n2, 0, f8) → (¬ n1 = 0) ∧ (∀ f24 : Int64, f24 = z17.1 / n1 → (∀ n26 : Int64, n26 = jremL z17.1 n1 → (∀ j : Nat, j < nW (G_X1_setQuotient_119 n1) (B_X1_setQuotient_119 n1) 17 (n26, 0, 0, z17.2.2) → SB_X1_setQuotient_119 n1 (itn (B_X1_setQuotient_119 n1) j (n26, 0, 0, z17.2.2))) ∧ G_X1_setQuotient_119 n1 (wl (G_X1_setQuotient_119 n1) (B_X1_setQuotient_119 n1) 17 (n26, 0, 0, z17.2.2)) = false)))))))
def rm_X1_setQuotient : Room := { frames := 1, cells := 0, slots := 0, locals := 40 }
set_option maxHeartbeats 4000000 in
set_option maxRecDepth 100000 in
theorem c_X1_setQuotient (l : Launch) (D : va_G) (cR cI cJ cZ : ClassId) (t0 : Nat) (ax ar ao : Nat) (ad : Nat → Nat) (vrd : Int32) (vtr : Int32) (vsd : Int32) (vrn : Int32) (vom : Bool) (voh : Int64) (vol : Int64) (vop : Int32) (voe : Bool) (vow : Int32) (vok : Int64) (vos : Int32) (vso : Nat → Int32) (vmi : Nat → Bool) (vco : Nat → Int64) (vex : Nat → Int32) (i1 : Nat) (i2 : Nat) (u : Bool × Int64 × Int64 × Int32 × Bool × Int32) (hu : u = F_X1_setQuotient vmi vco vex i1 i2) (hs : S_X1_setQuotient vmi vco vex i1 i2) (hb1 : i1 < 9) (hb2 : i2 < 9) : XM l D (xty cR cI cJ cZ) t0 yX1_setQuotient cX1_setQuotient 8 none rm_X1_setQuotient [.ref ao, .ref (ad i1), .ref (ad i2)] none (xw cR ax ar ao ad vrd vtr vsd vrn vom voh vol vop voe vow vok vos vso vmi vco vex) (xw cR ax ar ao ad vrd vtr vsd vrn u.1 u.2.1 u.2.2.1 u.2.2.2.1 u.2.2.2.2.1 u.2.2.2.2.2 vok vos vso vmi vco vex) := by
  refine XM.of (by decide) (Nat.le_of_ble_eq_true rfl) ?_
  intro p e s m args below meth c A Q F hK hP hD hA hSt hS hQ ls hl
  obtain ⟨hx, hb, hr, hts, hown, hlocks, hml⟩ := F
  have hCF : CallFix p m c cX1_setQuotient 8 s args gW RX1 := ⟨hx, hb, hml, hown, hts⟩
  unfold S_X1_setQuotient at hs
  have hu := rF_X1_setQuotient vmi vco vex i1 i2 hu
  unfold RF_X1_setQuotient at hu
  obtain ⟨H, eH⟩ : ∃ y9 : Heap, y9 = s.heap := ⟨_, rfl⟩
  obtain ⟨locs, eL⟩ : ∃ y9 : List Loc, y9 = [] := ⟨_, rfl⟩
  rw [← eL] at hS ⊢
  have hP : va_P D vwCl (xw cR ax ar ao ad vrd vtr vsd vrn vom voh vol vop voe vow vok vos vso vmi vco vex) H := by rw [eH]; exact hP
  have hS : va_S A s.heap H locs := by rw [eH]; exact hS
  suffices goal9 : W p l e rm_X1_setQuotient s m args below meth c H locs 0 0 Q (F0 m 0 ls []) from by rw [← eH]; exact goal9
  have hl : lv_has ls 8 [(0, .ref ao), (1, .ref (ad i1)), (2, .ref (ad i2))] := hl
  have hi0 : ∀ w ∈ wsX00, w ∈ gW := inW_X0
  have hi1 : ∀ w ∈ wsX10, w ∈ gW := inW_X1
  refine lv_lconst (v := 1) hx hb dX1_setQuotient_0 (by decide) ?_
  refine lv_aload_n hx hb dX1_setQuotient_1 rfl (lv_at hl 2 rfl) ?_
  refine g_co (i := i2) hx hb hts hi0 hown hK hP hb2 (hts (.fieldLink RX1 32 "DecimalWords$Datum" "coefficient" "J") (inW_1 _ (List.mem_of_getElem? (i := 31) rfl))) dX1_setQuotient_2 ?_
  refine x_maxL hx hb hml hl.1 hts hown (inW_2 _ (List.mem_of_getElem? (i := 26) rfl)) (inW_2 _ (List.mem_of_getElem? (i := 27) rfl)) (inW_1 _ (List.mem_of_getElem? (i := 37) rfl)) (inW_2 _ (List.mem_of_getElem? (i := 28) rfl)) (Nat.le_of_ble_eq_true rfl) (Nat.le_of_ble_eq_true rfl) (Nat.le_of_ble_eq_true rfl) (Nat.le_of_ble_eq_true rfl) dX1_setQuotient_5 ?_
  refine lv_topl (fun n1 en1 => ?_)
  have hs := hs _ en1
  have hu := hu _ en1
  refine lv_lstore_n (lv' := [(3, .long n1), (0, .ref ao), (1, .ref (ad i1)), (2, .ref (ad i2))]) hx hb dX1_setQuotient_8 rfl hl (by decide) rfl (fun ls hl => ?_)
  refine lv_aload_n hx hb dX1_setQuotient_9 rfl (lv_at hl 2 rfl) ?_
  refine g_co (i := i1) hx hb hts hi0 hown hK hP hb1 (hts (.fieldLink RX1 32 "DecimalWords$Datum" "coefficient" "J") (inW_1 _ (List.mem_of_getElem? (i := 31) rfl))) dX1_setQuotient_10 ?_
  refine lv_topl (fun n2 en2 => ?_)
  have hs := hs _ en2
  have hu := hu _ en2
  refine lv_lstore (lv' := [(5, .long n2), (3, .long n1), (0, .ref ao), (1, .ref (ad i1)), (2, .ref (ad i2))]) hx hb dX1_setQuotient_13 hl (by decide) rfl (fun ls hl => ?_)
  refine lv_aload_n hx hb dX1_setQuotient_15 rfl (lv_at hl 2 rfl) ?_
  refine lv_aload_n hx hb dX1_setQuotient_16 rfl (lv_at hl 3 rfl) ?_
  refine g_mi (i := i1) hx hb hts hi0 hown hK hP hb1 (hts (.fieldLink RX1 26 "DecimalWords$Datum" "minus" "Z") (inW_1 _ (List.mem_of_getElem? (i := 29) rfl))) dX1_setQuotient_17 ?_
  refine lv_aload_n hx hb dX1_setQuotient_20 rfl (lv_at hl 4 rfl) ?_
  refine g_mi (i := i2) hx hb hts hi0 hown hK hP hb2 (hts (.fieldLink RX1 26 "DecimalWords$Datum" "minus" "Z") (inW_1 _ (List.mem_of_getElem? (i := 29) rfl))) dX1_setQuotient_21 ?_
  have J_6 : (∀ z5 : Bool, z5 = Z_X1_setQuotient_J_6 vmi i1 i2 → ∀ (H : Heap) (locs : List Loc), va_P D vwCl (xw cR ax ar ao ad vrd vtr vsd vrn vom voh vol vop voe vow vok vos vso vmi vco vex) H → va_D A (xw cR ax ar ao ad vrd vtr vsd vrn vom voh vol vop voe vow vok vos vso vmi vco vex) → va_S A s.heap H locs → ∀ ls : Array Slot, lv_has ls 8 [(0, .ref ao), (1, .ref (ad i1)), (2, .ref (ad i2)), (3, .long n1), (5, .long n2)] → W p l e rm_X1_setQuotient s m args below meth c H locs 0 0 Q (F0 m 32 ls [.int (bI z5), .ref ao])) := by
    intro z5 ez5 H locs hP hD hS ls hl
    have hs := hs _ ez5
    have hu := hu _ ez5
    refine va_put (D := D) (ci := 3) (v := .int (bI z5)) (ty := .boolean) (C := RX1) (T := TX1) (N := 8) hx hb hts hi1 tyX1 tyX1_ok nmX1 hown hK hP hD hS 2 rfl rfl 0 (by decide) (hts (.fieldLink RX1 31 "DecimalWords$Outcome" "minus" "Z") (inW_1 _ (List.mem_of_getElem? (i := 30) rfl))) (fun _ h9 => h9) rfl (by decide +kernel) (bI_nar z5) (bI_fit z5) (Nat.le_of_ble_eq_true rfl) dX1_setQuotient_32 (fun H locs hP hD hS => ?_)
    have hP : va_P D vwCl (xw cR ax ar ao ad vrd vtr vsd vrn z5 voh vol vop voe vow vok vos vso vmi vco vex) H := hP
    have hD : va_D A (xw cR ax ar ao ad vrd vtr vsd vrn z5 voh vol vop voe vow vok vos vso vmi vco vex) := hD
    refine lv_aload_n hx hb dX1_setQuotient_35 rfl (lv_at hl 0 rfl) ?_
    refine lv_aload_n hx hb dX1_setQuotient_36 rfl (lv_at hl 1 rfl) ?_
    refine g_ex (i := i1) hx hb hts hi0 hown hK hP hb1 (hts (.fieldLink RX1 35 "DecimalWords$Datum" "exponent" "I") (inW_1 _ (List.mem_of_getElem? (i := 32) rfl))) dX1_setQuotient_37 ?_
    refine lv_aload_n hx hb dX1_setQuotient_40 rfl (lv_at hl 2 rfl) ?_
    refine g_ex (i := i2) hx hb hts hi0 hown hK hP hb2 (hts (.fieldLink RX1 35 "DecimalWords$Datum" "exponent" "I") (inW_1 _ (List.mem_of_getElem? (i := 32) rfl))) dX1_setQuotient_41 ?_
    refine lv_isub hx hb dX1_setQuotient_44 ?_
    refine lv_topi (fun f8 ef8 => ?_)
    have hs := hs _ ef8
    have hu := hu _ ef8
    refine va_put (D := D) (ci := 3) (v := .int f8) (ty := .int) (C := RX1) (T := TX1) (N := 8) hx hb hts hi1 tyX1 tyX1_ok nmX1 hown hK hP hD hS 2 rfl rfl 3 (by decide) (hts (.fieldLink RX1 39 "DecimalWords$Outcome" "power" "I") (inW_1 _ (List.mem_of_getElem? (i := 33) rfl))) (fun _ h9 => h9) rfl (by decide +kernel) rfl rfl (Nat.le_of_ble_eq_true rfl) dX1_setQuotient_45 (fun H locs hP hD hS => ?_)
    have hP : va_P D vwCl (xw cR ax ar ao ad vrd vtr vsd vrn z5 voh vol f8 voe vow vok vos vso vmi vco vex) H := hP
    have hD : va_D A (xw cR ax ar ao ad vrd vtr vsd vrn z5 voh vol f8 voe vow vok vos vso vmi vco vex) := hD
    refine lv_aload_n hx hb dX1_setQuotient_48 rfl (lv_at hl 0 rfl) ?_
    refine lv_aload_n hx hb dX1_setQuotient_49 rfl (lv_at hl 0 rfl) ?_
    refine va_get (D := D) (ci := 3) (v := .int f8) (C := RX1) (T := TX1) (N := 8) hx hb hts hi1 hown hK hP 2 rfl rfl 3 (by decide) (hts (.fieldLink RX1 39 "DecimalWords$Outcome" "power" "I") (inW_1 _ (List.mem_of_getElem? (i := 33) rfl))) (fun _ h9 => h9) rfl dX1_setQuotient_50 ?_
    refine va_put (D := D) (ci := 3) (v := .int f8) (ty := .int) (C := RX1) (T := TX1) (N := 8) hx hb hts hi1 tyX1 tyX1_ok nmX1 hown hK hP hD hS 2 rfl rfl 5 (by decide) (hts (.fieldLink RX1 61 "DecimalWords$Outcome" "wish" "I") (inW_1 _ (List.mem_of_getElem? (i := 39) rfl))) (fun _ h9 => h9) rfl (by decide +kernel) rfl rfl (Nat.le_of_ble_eq_true rfl) dX1_setQuotient_53 (fun H locs hP hD hS => ?_)
    have hP : va_P D vwCl (xw cR ax ar ao ad vrd vtr vsd vrn z5 voh vol f8 voe f8 vok vos vso vmi vco vex) H := hP
    have hD : va_D A (xw cR ax ar ao ad vrd vtr vsd vrn z5 voh vol f8 voe f8 vok vos vso vmi vco vex) := hD
    refine lv_iconst (v := 0) hx hb dX1_setQuotient_56 (by decide) ?_
    refine lv_istore (lv' := [(7, .int 0), (0, .ref ao), (1, .ref (ad i1)), (2, .ref (ad i2)), (3, .long n1), (5, .long n2)]) hx hb dX1_setQuotient_57 hl (by decide) rfl (fun ls hl => ?_)
    have L_47 : ∀ (n9 : Nat) (t_ : Int64 × Int32 × Int32), (∀ j : Nat, j < n9 → G_X1_setQuotient_59 n1 (itn (B_X1_setQuotient_59 n1) j t_) = true) → (∀ (H : Heap) (locs : List Loc), va_P D vwCl (xw cR ax ar ao ad vrd vtr vsd vrn z5 voh vol ((itn (B_X1_setQuotient_59 n1) n9 t_).2.2) voe f8 vok vos vso vmi vco vex) H → va_D A (xw cR ax ar ao ad vrd vtr vsd vrn z5 voh vol ((itn (B_X1_setQuotient_59 n1) n9 t_).2.2) voe f8 vok vos vso vmi vco vex) → va_S A s.heap H locs → ∀ ls : Array Slot, lv_has ls 8 [(0, .ref ao), (3, .long n1), (5, .long ((itn (B_X1_setQuotient_59 n1) n9 t_).1)), (7, .int ((itn (B_X1_setQuotient_59 n1) n9 t_).2.1))] → W p l e rm_X1_setQuotient s m args below meth c H locs 0 0 Q (F0 m 59 ls [])) → ∀ (H : Heap) (locs : List Loc), va_P D vwCl (xw cR ax ar ao ad vrd vtr vsd vrn z5 voh vol t_.2.2 voe f8 vok vos vso vmi vco vex) H → va_D A (xw cR ax ar ao ad vrd vtr vsd vrn z5 voh vol t_.2.2 voe f8 vok vos vso vmi vco vex) → va_S A s.heap H locs → ∀ ls : Array Slot, lv_has ls 8 [(0, .ref ao), (3, .long n1), (5, .long t_.1), (7, .int t_.2.1)] → W p l e rm_X1_setQuotient s m args below meth c H locs 0 0 Q (F0 m 59 ls []) := by
      intro n9
      induction n9 with
      | zero => exact fun t_ _ k9 => k9
      | succ n9 ih9 =>
        intro t_ hG9 k9 H locs hP hD hS ls hl
        have hG0 : G_X1_setQuotient_59 n1 t_ = true := hG9 0 (Nat.succ_pos n9)
        have hg := rG_X1_setQuotient_59 n1 t_ (Eq.symm hG0)
        unfold RG_X1_setQuotient_59 at hg
        obtain ⟨t9, et9⟩ : ∃ y9 : Int64 × Int32 × Int32, y9 = (B_X1_setQuotient_59 n1) t_ := ⟨_, rfl⟩
        have hb9 := rB_X1_setQuotient_59 n1 t_ et9
        unfold RB_X1_setQuotient_59 at hb9
        refine lv_iload hx hb dX1_setQuotient_59 (lv_at hl 3 rfl) ?_
        refine lv_bipush (v := 16) hx hb dX1_setQuotient_61 (by decide) ?_
        refine lv_icmp_ge (tgt := 97) hx hb dX1_setQuotient_63 (by decide) (fun c_11 => ?_) (fun c_11 => ?_)
        · rw [if_pos c_11] at hg
          exact absurd hg (by decide)
        · rw [if_neg c_11] at hg
          rw [if_neg c_11] at hb9
          refine lv_lload hx hb dX1_setQuotient_66 (lv_at hl 2 rfl) ?_
          refine lv_lload_n hx hb dX1_setQuotient_68 rfl (lv_at hl 1 rfl) ?_
          refine xl_ge (tgt := 97) hx hb dX1_setQuotient_69 dX1_setQuotient_70 (by decide) (fun c_12 => ?_) (fun c_12 => ?_)
          · rw [if_pos c_12] at hg
            exact absurd hg (by decide)
          · rw [if_neg c_12] at hg
            rw [if_neg c_12] at hb9
            refine lv_lload hx hb dX1_setQuotient_73 (lv_at hl 2 rfl) ?_
            refine lv_ldc2 (v := 10) hx hb hown (hts (.constantLong RX1 80 (10)) (inW_2 _ (List.mem_of_getElem? (i := 29) rfl))) dX1_setQuotient_75 ?_
            refine lv_lmul hx hb dX1_setQuotient_78 ?_
            refine lv_topl (fun n13 en13 => ?_)
            have hb9 := hb9 _ en13
            refine lv_lstore (lv' := [(5, .long n13), (0, .ref ao), (3, .long n1), (7, .int t_.2.1)]) hx hb dX1_setQuotient_79 hl (by decide) rfl (fun ls hl => ?_)
            refine lv_aload_n hx hb dX1_setQuotient_81 rfl (lv_at hl 1 rfl) ?_
            refine lv_dup hx hb dX1_setQuotient_82 rfl ?_
            refine va_get (D := D) (ci := 3) (v := .int t_.2.2) (C := RX1) (T := TX1) (N := 8) hx hb hts hi1 hown hK hP 2 rfl rfl 3 (by decide) (hts (.fieldLink RX1 39 "DecimalWords$Outcome" "power" "I") (inW_1 _ (List.mem_of_getElem? (i := 33) rfl))) (fun _ h9 => h9) rfl dX1_setQuotient_83 ?_
            refine lv_iconst (v := 1) hx hb dX1_setQuotient_86 (by decide) ?_
            refine lv_isub hx hb dX1_setQuotient_87 ?_
            refine lv_topi (fun f14 ef14 => ?_)
            have hb9 := hb9 _ ef14
            refine va_put (D := D) (ci := 3) (v := .int f14) (ty := .int) (C := RX1) (T := TX1) (N := 8) hx hb hts hi1 tyX1 tyX1_ok nmX1 hown hK hP hD hS 2 rfl rfl 3 (by decide) (hts (.fieldLink RX1 39 "DecimalWords$Outcome" "power" "I") (inW_1 _ (List.mem_of_getElem? (i := 33) rfl))) (fun _ h9 => h9) rfl (by decide +kernel) rfl rfl (Nat.le_of_ble_eq_true rfl) dX1_setQuotient_88 (fun H locs hP hD hS => ?_)
            have hP : va_P D vwCl (xw cR ax ar ao ad vrd vtr vsd vrn z5 voh vol f14 voe f8 vok vos vso vmi vco vex) H := hP
            have hD : va_D A (xw cR ax ar ao ad vrd vtr vsd vrn z5 voh vol f14 voe f8 vok vos vso vmi vco vex) := hD
            obtain ⟨n16, en16⟩ : ∃ y9 : Int32, y9 = t_.2.1 + 1 := ⟨_, rfl⟩
            have hb9 := hb9 _ en16
            refine lv_iinc (v := n16) (lv' := [(7, .int n16), (5, .long n13), (0, .ref ao), (3, .long n1)]) hx hb dX1_setQuotient_91 hl (k := 3) rfl (by rw [en16]; rfl) (by decide) rfl (fun ls hl => ?_)
            refine lv_goto (tgt := 59) hx hb dX1_setQuotient_94 (by decide) ?_
            have e9 := Eq.symm hb9; subst e9
            have key9 := ih9 ((B_X1_setQuotient_59 n1) t_) (fun j hj => hG9 (j + 1) (Nat.succ_lt_succ hj)) k9
            rw [← et9] at key9
            exact key9 H locs hP hD hS ls (lv_sub hl [2, 3, 1, 0] rfl)
    obtain ⟨hG1, hs⟩ := hs
    refine L_47 (nW (G_X1_setQuotient_59 n1) (B_X1_setQuotient_59 n1) 17 (n2, 0, f8)) (n2, 0, f8) (nW_lt _ _ _ _) (fun H locs hP hD hS ls hl => ?_) H locs hP hD hS ls (lv_sub hl [1, 4, 5, 0] rfl)
    obtain ⟨z17, ez17⟩ : ∃ y9 : Int64 × Int32 × Int32, y9 = wl (G_X1_setQuotient_59 n1) (B_X1_setQuotient_59 n1) 17 (n2, 0, f8) := ⟨_, rfl⟩
    have e9 : z17 = itn (B_X1_setQuotient_59 n1) (nW (G_X1_setQuotient_59 n1) (B_X1_setQuotient_59 n1) 17 (n2, 0, f8)) (n2, 0, f8) := ez17
    try rw [← e9] at hP
    try rw [← e9] at hD
    try rw [← e9] at hl
    rw [← ez17] at hG1
    clear e9
    have hg := rG_X1_setQuotient_59 n1 z17 (Eq.symm hG1)
    unfold RG_X1_setQuotient_59 at hg
    have hs := hs _ ez17
    have hu := hu _ ez17
    refine lv_iload hx hb dX1_setQuotient_59 (lv_at hl 3 rfl) ?_
    refine lv_bipush (v := 16) hx hb dX1_setQuotient_61 (by decide) ?_
    have J_22 : ∀ (H : Heap) (locs : List Loc), va_P D vwCl (xw cR ax ar ao ad vrd vtr vsd vrn z5 voh vol z17.2.2 voe f8 vok vos vso vmi vco vex) H → va_D A (xw cR ax ar ao ad vrd vtr vsd vrn z5 voh vol z17.2.2 voe f8 vok vos vso vmi vco vex) → va_S A s.heap H locs → ∀ ls : Array Slot, lv_has ls 8 [(0, .ref ao), (3, .long n1), (5, .long z17.1)] → W p l e rm_X1_setQuotient s m args below meth c H locs 0 0 Q (F0 m 97 ls []) := by
      intro H locs hP hD hS ls hl
      refine lv_aload_n hx hb dX1_setQuotient_97 rfl (lv_at hl 0 rfl) ?_
      refine lv_lload hx hb dX1_setQuotient_98 (lv_at hl 2 rfl) ?_
      refine lv_lload_n hx hb dX1_setQuotient_100 rfl (lv_at hl 1 rfl) ?_
      obtain ⟨h_23, hs⟩ := hs
      refine lv_ldiv hx hb dX1_setQuotient_101 h_23 ?_
      refine lv_topl (fun f24 ef24 => ?_)
      have hs := hs _ ef24
      have hu := hu _ ef24
      refine va_put (D := D) (ci := 3) (v := .long f24) (ty := .long) (C := RX1) (T := TX1) (N := 8) hx hb hts hi1 tyX1 tyX1_ok nmX1 hown hK hP hD hS 2 rfl rfl 1 (by decide) (hts (.fieldLink RX1 9 "DecimalWords$Outcome" "high" "J") (inW_1 _ (List.mem_of_getElem? (i := 20) rfl))) (fun _ h9 => h9) rfl (by decide +kernel) rfl rfl (Nat.le_of_ble_eq_true rfl) dX1_setQuotient_102 (fun H locs hP hD hS => ?_)
      have hP : va_P D vwCl (xw cR ax ar ao ad vrd vtr vsd vrn z5 f24 vol z17.2.2 voe f8 vok vos vso vmi vco vex) H := hP
      have hD : va_D A (xw cR ax ar ao ad vrd vtr vsd vrn z5 f24 vol z17.2.2 voe f8 vok vos vso vmi vco vex) := hD
      refine lv_lload hx hb dX1_setQuotient_105 (lv_at hl 2 rfl) ?_
      refine lv_lload_n hx hb dX1_setQuotient_107 rfl (lv_at hl 1 rfl) ?_
      refine x_lrem hx hb dX1_setQuotient_108 h_23 ?_
      refine lv_topl (fun n26 en26 => ?_)
      have hs := hs _ en26
      have hu := hu _ en26
      refine lv_lstore (lv' := [(5, .long n26), (0, .ref ao), (3, .long n1)]) hx hb dX1_setQuotient_109 hl (by decide) rfl (fun ls hl => ?_)
      refine lv_aload_n hx hb dX1_setQuotient_111 rfl (lv_at hl 1 rfl) ?_
      refine lv_lconst (v := 0) hx hb dX1_setQuotient_112 (by decide) ?_
      refine va_put (D := D) (ci := 3) (v := .long 0) (ty := .long) (C := RX1) (T := TX1) (N := 8) hx hb hts hi1 tyX1 tyX1_ok nmX1 hown hK hP hD hS 2 rfl rfl 2 (by decide) (hts (.fieldLink RX1 15 "DecimalWords$Outcome" "low" "J") (inW_1 _ (List.mem_of_getElem? (i := 21) rfl))) (fun _ h9 => h9) rfl (by decide +kernel) rfl rfl (Nat.le_of_ble_eq_true rfl) dX1_setQuotient_113 (fun H locs hP hD hS => ?_)
      have hP : va_P D vwCl (xw cR ax ar ao ad vrd vtr vsd vrn z5 f24 0 z17.2.2 voe f8 vok vos vso vmi vco vex) H := hP
      have hD : va_D A (xw cR ax ar ao ad vrd vtr vsd vrn z5 f24 0 z17.2.2 voe f8 vok vos vso vmi vco vex) := hD
      refine lv_iconst (v := 0) hx hb dX1_setQuotient_116 (by decide) ?_
      refine lv_istore (lv' := [(7, .int 0), (5, .long n26), (0, .ref ao), (3, .long n1)]) hx hb dX1_setQuotient_117 hl (by decide) rfl (fun ls hl => ?_)
      have L_48 : ∀ (n9 : Nat) (t_ : Int64 × Int32 × Int64 × Int32), (∀ j : Nat, j < n9 → G_X1_setQuotient_119 n1 (itn (B_X1_setQuotient_119 n1) j t_) = true) → (∀ j : Nat, j < n9 → SB_X1_setQuotient_119 n1 (itn (B_X1_setQuotient_119 n1) j t_)) → (∀ (H : Heap) (locs : List Loc), va_P D vwCl (xw cR ax ar ao ad vrd vtr vsd vrn z5 f24 ((itn (B_X1_setQuotient_119 n1) n9 t_).2.2.1) ((itn (B_X1_setQuotient_119 n1) n9 t_).2.2.2) voe f8 vok vos vso vmi vco vex) H → va_D A (xw cR ax ar ao ad vrd vtr vsd vrn z5 f24 ((itn (B_X1_setQuotient_119 n1) n9 t_).2.2.1) ((itn (B_X1_setQuotient_119 n1) n9 t_).2.2.2) voe f8 vok vos vso vmi vco vex) → va_S A s.heap H locs → ∀ ls : Array Slot, lv_has ls 8 [(0, .ref ao), (3, .long n1), (5, .long ((itn (B_X1_setQuotient_119 n1) n9 t_).1)), (7, .int ((itn (B_X1_setQuotient_119 n1) n9 t_).2.1))] → W p l e rm_X1_setQuotient s m args below meth c H locs 0 0 Q (F0 m 119 ls [])) → ∀ (H : Heap) (locs : List Loc), va_P D vwCl (xw cR ax ar ao ad vrd vtr vsd vrn z5 f24 t_.2.2.1 t_.2.2.2 voe f8 vok vos vso vmi vco vex) H → va_D A (xw cR ax ar ao ad vrd vtr vsd vrn z5 f24 t_.2.2.1 t_.2.2.2 voe f8 vok vos vso vmi vco vex) → va_S A s.heap H locs → ∀ ls : Array Slot, lv_has ls 8 [(0, .ref ao), (3, .long n1), (5, .long t_.1), (7, .int t_.2.1)] → W p l e rm_X1_setQuotient s m args below meth c H locs 0 0 Q (F0 m 119 ls []) := by
        intro n9
        induction n9 with
        | zero => exact fun t_ _ _ k9 => k9
        | succ n9 ih9 =>
          intro t_ hG9 hs9 k9 H locs hP hD hS ls hl
          have hG0 : G_X1_setQuotient_119 n1 t_ = true := hG9 0 (Nat.succ_pos n9)
          have hg := rG_X1_setQuotient_119 n1 t_ (Eq.symm hG0)
          unfold RG_X1_setQuotient_119 at hg
          obtain ⟨t9, et9⟩ : ∃ y9 : Int64 × Int32 × Int64 × Int32, y9 = (B_X1_setQuotient_119 n1) t_ := ⟨_, rfl⟩
          have hb9 := rB_X1_setQuotient_119 n1 t_ et9
          unfold RB_X1_setQuotient_119 at hb9
          have hs : SB_X1_setQuotient_119 n1 t_ := hs9 0 (Nat.succ_pos n9)
          unfold SB_X1_setQuotient_119 at hs
          refine lv_iload hx hb dX1_setQuotient_119 (lv_at hl 3 rfl) ?_
          refine lv_bipush (v := 16) hx hb dX1_setQuotient_121 (by decide) ?_
          refine lv_icmp_ge (tgt := 173) hx hb dX1_setQuotient_123 (by decide) (fun c_28 => ?_) (fun c_28 => ?_)
          · rw [if_pos c_28] at hg
            exact absurd hg (by decide)
          · rw [if_neg c_28] at hs
            rw [if_neg c_28] at hg
            rw [if_neg c_28] at hb9
            refine lv_lload hx hb dX1_setQuotient_126 (lv_at hl 2 rfl) ?_
            refine lv_ldc2 (v := 10) hx hb hown (hts (.constantLong RX1 80 (10)) (inW_2 _ (List.mem_of_getElem? (i := 29) rfl))) dX1_setQuotient_128 ?_
            refine lv_lmul hx hb dX1_setQuotient_131 ?_
            refine lv_topl (fun n29 en29 => ?_)
            have hs := hs _ en29
            have hb9 := hb9 _ en29
            refine lv_lstore (lv' := [(5, .long n29), (0, .ref ao), (3, .long n1), (7, .int t_.2.1)]) hx hb dX1_setQuotient_132 hl (by decide) rfl (fun ls hl => ?_)
            refine lv_aload_n hx hb dX1_setQuotient_134 rfl (lv_at hl 1 rfl) ?_
            refine lv_aload_n hx hb dX1_setQuotient_135 rfl (lv_at hl 1 rfl) ?_
            refine va_get (D := D) (ci := 3) (v := .long t_.2.2.1) (C := RX1) (T := TX1) (N := 8) hx hb hts hi1 hown hK hP 2 rfl rfl 2 (by decide) (hts (.fieldLink RX1 15 "DecimalWords$Outcome" "low" "J") (inW_1 _ (List.mem_of_getElem? (i := 21) rfl))) (fun _ h9 => h9) rfl dX1_setQuotient_136 ?_
            refine lv_ldc2 (v := 10) hx hb hown (hts (.constantLong RX1 80 (10)) (inW_2 _ (List.mem_of_getElem? (i := 29) rfl))) dX1_setQuotient_139 ?_
            refine lv_lmul hx hb dX1_setQuotient_142 ?_
            refine lv_lload hx hb dX1_setQuotient_143 (lv_at hl 0 rfl) ?_
            refine lv_lload_n hx hb dX1_setQuotient_145 rfl (lv_at hl 2 rfl) ?_
            have h_30 := hs
            refine lv_ldiv hx hb dX1_setQuotient_146 h_30 ?_
            refine lv_ladd hx hb dX1_setQuotient_147 ?_
            refine lv_topl (fun f31 ef31 => ?_)
            have hb9 := hb9 _ ef31
            refine va_put (D := D) (ci := 3) (v := .long f31) (ty := .long) (C := RX1) (T := TX1) (N := 8) hx hb hts hi1 tyX1 tyX1_ok nmX1 hown hK hP hD hS 2 rfl rfl 2 (by decide) (hts (.fieldLink RX1 15 "DecimalWords$Outcome" "low" "J") (inW_1 _ (List.mem_of_getElem? (i := 21) rfl))) (fun _ h9 => h9) rfl (by decide +kernel) rfl rfl (Nat.le_of_ble_eq_true rfl) dX1_setQuotient_148 (fun H locs hP hD hS => ?_)
            have hP : va_P D vwCl (xw cR ax ar ao ad vrd vtr vsd vrn z5 f24 f31 t_.2.2.2 voe f8 vok vos vso vmi vco vex) H := hP
            have hD : va_D A (xw cR ax ar ao ad vrd vtr vsd vrn z5 f24 f31 t_.2.2.2 voe f8 vok vos vso vmi vco vex) := hD
            refine lv_lload hx hb dX1_setQuotient_151 (lv_at hl 0 rfl) ?_
            refine lv_lload_n hx hb dX1_setQuotient_153 rfl (lv_at hl 2 rfl) ?_
            refine x_lrem hx hb dX1_setQuotient_154 h_30 ?_
            refine lv_topl (fun n33 en33 => ?_)
            have hb9 := hb9 _ en33
            refine lv_lstore (lv' := [(5, .long n33), (0, .ref ao), (3, .long n1), (7, .int t_.2.1)]) hx hb dX1_setQuotient_155 hl (by decide) rfl (fun ls hl => ?_)
            refine lv_aload_n hx hb dX1_setQuotient_157 rfl (lv_at hl 1 rfl) ?_
            refine lv_dup hx hb dX1_setQuotient_158 rfl ?_
            refine va_get (D := D) (ci := 3) (v := .int t_.2.2.2) (C := RX1) (T := TX1) (N := 8) hx hb hts hi1 hown hK hP 2 rfl rfl 3 (by decide) (hts (.fieldLink RX1 39 "DecimalWords$Outcome" "power" "I") (inW_1 _ (List.mem_of_getElem? (i := 33) rfl))) (fun _ h9 => h9) rfl dX1_setQuotient_159 ?_
            refine lv_iconst (v := 1) hx hb dX1_setQuotient_162 (by decide) ?_
            refine lv_isub hx hb dX1_setQuotient_163 ?_
            refine lv_topi (fun f34 ef34 => ?_)
            have hb9 := hb9 _ ef34
            refine va_put (D := D) (ci := 3) (v := .int f34) (ty := .int) (C := RX1) (T := TX1) (N := 8) hx hb hts hi1 tyX1 tyX1_ok nmX1 hown hK hP hD hS 2 rfl rfl 3 (by decide) (hts (.fieldLink RX1 39 "DecimalWords$Outcome" "power" "I") (inW_1 _ (List.mem_of_getElem? (i := 33) rfl))) (fun _ h9 => h9) rfl (by decide +kernel) rfl rfl (Nat.le_of_ble_eq_true rfl) dX1_setQuotient_164 (fun H locs hP hD hS => ?_)
            have hP : va_P D vwCl (xw cR ax ar ao ad vrd vtr vsd vrn z5 f24 f31 f34 voe f8 vok vos vso vmi vco vex) H := hP
            have hD : va_D A (xw cR ax ar ao ad vrd vtr vsd vrn z5 f24 f31 f34 voe f8 vok vos vso vmi vco vex) := hD
            obtain ⟨n36, en36⟩ : ∃ y9 : Int32, y9 = t_.2.1 + 1 := ⟨_, rfl⟩
            have hb9 := hb9 _ en36
            refine lv_iinc (v := n36) (lv' := [(7, .int n36), (5, .long n33), (0, .ref ao), (3, .long n1)]) hx hb dX1_setQuotient_167 hl (k := 3) rfl (by rw [en36]; rfl) (by decide) rfl (fun ls hl => ?_)
            refine lv_goto (tgt := 119) hx hb dX1_setQuotient_170 (by decide) ?_
            have e9 := Eq.symm hb9; subst e9
            have key9 := ih9 ((B_X1_setQuotient_119 n1) t_) (fun j hj => hG9 (j + 1) (Nat.succ_lt_succ hj)) (fun j hj => hs9 (j + 1) (Nat.succ_lt_succ hj)) k9
            rw [← et9] at key9
            exact key9 H locs hP hD hS ls (lv_sub hl [2, 3, 1, 0] rfl)
      obtain ⟨hsL, hG1⟩ := hs
      refine L_48 (nW (G_X1_setQuotient_119 n1) (B_X1_setQuotient_119 n1) 17 (n26, 0, 0, z17.2.2)) (n26, 0, 0, z17.2.2) (nW_lt _ _ _ _) hsL (fun H locs hP hD hS ls hl => ?_) H locs hP hD hS ls (lv_sub hl [2, 3, 1, 0] rfl)
      obtain ⟨z37, ez37⟩ : ∃ y9 : Int64 × Int32 × Int64 × Int32, y9 = wl (G_X1_setQuotient_119 n1) (B_X1_setQuotient_119 n1) 17 (n26, 0, 0, z17.2.2) := ⟨_, rfl⟩
      have e9 : z37 = itn (B_X1_setQuotient_119 n1) (nW (G_X1_setQuotient_119 n1) (B_X1_setQuotient_119 n1) 17 (n26, 0, 0, z17.2.2)) (n26, 0, 0, z17.2.2) := ez37
      try rw [← e9] at hP
      try rw [← e9] at hD
      try rw [← e9] at hl
      rw [← ez37] at hG1
      clear e9
      have hg := rG_X1_setQuotient_119 n1 z37 (Eq.symm hG1)
      unfold RG_X1_setQuotient_119 at hg
      have hu := hu _ ez37
      refine lv_iload hx hb dX1_setQuotient_119 (lv_at hl 3 rfl) ?_
      refine lv_bipush (v := 16) hx hb dX1_setQuotient_121 (by decide) ?_
      have J_41 : ∀ (H : Heap) (locs : List Loc), va_P D vwCl (xw cR ax ar ao ad vrd vtr vsd vrn z5 f24 z37.2.2.1 z37.2.2.2 voe f8 vok vos vso vmi vco vex) H → va_D A (xw cR ax ar ao ad vrd vtr vsd vrn z5 f24 z37.2.2.1 z37.2.2.2 voe f8 vok vos vso vmi vco vex) → va_S A s.heap H locs → ∀ ls : Array Slot, lv_has ls 8 [(0, .ref ao), (5, .long z37.1)] → W p l e rm_X1_setQuotient s m args below meth c H locs 0 0 Q (F0 m 173 ls []) := by
        intro H locs hP hD hS ls hl
        refine lv_aload_n hx hb dX1_setQuotient_173 rfl (lv_at hl 0 rfl) ?_
        refine lv_lload hx hb dX1_setQuotient_174 (lv_at hl 1 rfl) ?_
        refine lv_lconst (v := 0) hx hb dX1_setQuotient_176 (by decide) ?_
        have J_45 : (∀ z44 : Bool, z44 = Z_X1_setQuotient_J_45 z37 → ∀ (H : Heap) (locs : List Loc), va_P D vwCl (xw cR ax ar ao ad vrd vtr vsd vrn z5 f24 z37.2.2.1 z37.2.2.2 voe f8 vok vos vso vmi vco vex) H → va_D A (xw cR ax ar ao ad vrd vtr vsd vrn z5 f24 z37.2.2.1 z37.2.2.2 voe f8 vok vos vso vmi vco vex) → va_S A s.heap H locs → ∀ ls : Array Slot, lv_has ls 8 [] → W p l e rm_X1_setQuotient s m args below meth c H locs 0 0 Q (F0 m 186 ls [.int (bI z44), .ref ao])) := by
          intro z44 ez44 H locs hP hD hS ls hl
          have hu := hu _ ez44
          refine va_put (D := D) (ci := 3) (v := .int (bI z44)) (ty := .boolean) (C := RX1) (T := TX1) (N := 8) hx hb hts hi1 tyX1 tyX1_ok nmX1 hown hK hP hD hS 2 rfl rfl 4 (by decide) (hts (.fieldLink RX1 18 "DecimalWords$Outcome" "more" "Z") (inW_1 _ (List.mem_of_getElem? (i := 22) rfl))) (fun _ h9 => h9) rfl (by decide +kernel) (bI_nar z44) (bI_fit z44) (Nat.le_of_ble_eq_true rfl) dX1_setQuotient_186 (fun H locs hP hD hS => ?_)
          have hP : va_P D vwCl (xw cR ax ar ao ad vrd vtr vsd vrn z5 f24 z37.2.2.1 z37.2.2.2 z44 f8 vok vos vso vmi vco vex) H := hP
          have hD : va_D A (xw cR ax ar ao ad vrd vtr vsd vrn z5 f24 z37.2.2.1 z37.2.2.2 z44 f8 vok vos vso vmi vco vex) := hD
          have e9 := Eq.symm hu; subst e9
          exact x_vret hx hb hr hlocks hQ hK hP hD hS rfl dX1_setQuotient_189
        obtain ⟨z9, ez9⟩ : ∃ y9 : Bool, y9 = Z_X1_setQuotient_J_45 z37 := ⟨_, rfl⟩
        have hz := rZ_X1_setQuotient_J_45 z37 ez9
        unfold RZ_X1_setQuotient_J_45 at hz
        refine xl_eq (tgt := 185) hx hb dX1_setQuotient_177 dX1_setQuotient_178 (by decide) (fun c_42 => ?_) (fun c_42 => ?_)
        · rw [if_pos c_42] at hz
          refine lv_iconst (v := 0) hx hb dX1_setQuotient_185 (by decide) ?_
          have e9 := Eq.symm hz; subst e9
          exact J_45 _ ez9 H locs hP hD hS ls (lv_sub hl [] rfl)
        · rw [if_neg c_42] at hz
          refine lv_iconst (v := 1) hx hb dX1_setQuotient_181 (by decide) ?_
          refine lv_goto (tgt := 186) hx hb dX1_setQuotient_182 (by decide) ?_
          have e9 := Eq.symm hz; subst e9
          exact J_45 _ ez9 H locs hP hD hS ls (lv_sub hl [] rfl)
      refine lv_icmp_ge (tgt := 173) hx hb dX1_setQuotient_123 (by decide) (fun c_39 => ?_) (fun c_39 => ?_)
      · rw [if_pos c_39] at hg
        exact J_41 H locs hP hD hS ls (lv_sub hl [0, 2] rfl)
      · rw [if_neg c_39] at hg
        exact absurd hg (by decide)
    refine lv_icmp_ge (tgt := 97) hx hb dX1_setQuotient_63 (by decide) (fun c_19 => ?_) (fun c_19 => ?_)
    · rw [if_pos c_19] at hg
      exact J_22 H locs hP hD hS ls (lv_sub hl [0, 1, 2] rfl)
    · rw [if_neg c_19] at hg
      refine lv_lload hx hb dX1_setQuotient_66 (lv_at hl 2 rfl) ?_
      refine lv_lload_n hx hb dX1_setQuotient_68 rfl (lv_at hl 1 rfl) ?_
      refine xl_ge (tgt := 97) hx hb dX1_setQuotient_69 dX1_setQuotient_70 (by decide) (fun c_20 => ?_) (fun c_20 => ?_)
      · rw [if_pos c_20] at hg
        exact J_22 H locs hP hD hS ls (lv_sub hl [0, 1, 2] rfl)
      · rw [if_neg c_20] at hg
        exact absurd hg (by decide)
  obtain ⟨z9, ez9⟩ : ∃ y9 : Bool, y9 = Z_X1_setQuotient_J_6 vmi i1 i2 := ⟨_, rfl⟩
  have hz := rZ_X1_setQuotient_J_6 vmi i1 i2 ez9
  unfold RZ_X1_setQuotient_J_6 at hz
  refine xbb_eq (tgt := 31) hx hb dX1_setQuotient_24 (by decide) (fun c_3 => ?_) (fun c_3 => ?_)
  · rw [if_pos c_3] at hz
    refine lv_iconst (v := 0) hx hb dX1_setQuotient_31 (by decide) ?_
    have e9 := Eq.symm hz; subst e9
    exact J_6 _ ez9 H locs hP hD hS ls (lv_sub hl [2, 3, 4, 1, 0] rfl)
  · rw [if_neg c_3] at hz
    refine lv_iconst (v := 1) hx hb dX1_setQuotient_27 (by decide) ?_
    refine lv_goto (tgt := 32) hx hb dX1_setQuotient_28 (by decide) ?_
    have e9 := Eq.symm hz; subst e9
    exact J_6 _ ez9 H locs hP hD hS ls (lv_sub hl [2, 3, 4, 1, 0] rfl)

def B_X1_dropZeros_35  (t_ : Int32 × Int64 × Int64 × Int32) : Int32 × Int64 × Int64 × Int32 := (if 16 ≤ t_.1 then t_ else (if t_.2.2.1 = 0 then t_ else (if jremL t_.2.2.1 10 = 0 then (bnd ((t_.2.2.1 / 10) + ((jremL t_.2.1 10) * 1000000000000000)) (fun f12 : Int64 => (bnd (t_.2.1 / 10) (fun f14 : Int64 => (bnd (t_.2.2.2 + 1) (fun f16 : Int32 => (bnd (t_.1 + 1) (fun n18 : Int32 => (n18, f14, f12, f16))))))))) else t_)))
def G_X1_dropZeros_35  (t_ : Int32 × Int64 × Int64 × Int32) : Bool := (if 16 ≤ t_.1 then false else (if t_.2.2.1 = 0 then false else (if jremL t_.2.2.1 10 = 0 then (bnd ((t_.2.2.1 / 10) + ((jremL t_.2.1 10) * 1000000000000000)) (fun f12 : Int64 => (bnd (t_.2.1 / 10) (fun f14 : Int64 => (bnd (t_.2.2.2 + 1) (fun f16 : Int32 => (bnd (t_.1 + 1) (fun n18 : Int32 => true)))))))) else false)))
def RB_X1_dropZeros_35  (t_ : Int32 × Int64 × Int64 × Int32) (u9 : Int32 × Int64 × Int64 × Int32) : Prop := (if 16 ≤ t_.1 then True else (if t_.2.2.1 = 0 then True else (if jremL t_.2.2.1 10 = 0 then (∀ f12 : Int64, f12 = (t_.2.2.1 / 10) + ((jremL t_.2.1 10) * 1000000000000000) → (∀ f14 : Int64, f14 = t_.2.1 / 10 → (∀ f16 : Int32, f16 = t_.2.2.2 + 1 → (∀ n18 : Int32, n18 = t_.1 + 1 → u9 = (n18, f14, f12, f16))))) else True)))
def RG_X1_dropZeros_35  (t_ : Int32 × Int64 × Int64 × Int32) (u9 : Bool) : Prop := (if 16 ≤ t_.1 then u9 = false else (if t_.2.2.1 = 0 then u9 = false else (if jremL t_.2.2.1 10 = 0 then u9 = true else u9 = false)))
theorem rB_X1_dropZeros_35  (t_ : Int32 × Int64 × Int64 × Int32) {u9 : Int32 × Int64 × Int64 × Int32} (hu : u9 = B_X1_dropZeros_35  t_) : RB_X1_dropZeros_35  t_ u9 := by
  unfold RB_X1_dropZeros_35
  refine ite_P (fun c_9 => ?_) (fun c_9 => ?_)
  · have hu := hu.trans (if_pos c_9)
    trivial
  · have hu := hu.trans (if_neg c_9)
    refine ite_P (fun c_10 => ?_) (fun c_10 => ?_)
    · have hu := hu.trans (if_pos c_10)
      trivial
    · have hu := hu.trans (if_neg c_10)
      refine ite_P (fun c_11 => ?_) (fun c_11 => ?_)
      · have hu := hu.trans (if_pos c_11)
        intro f12 ef12
        have hu := bnd_n hu ef12
        intro f14 ef14
        have hu := bnd_n hu ef14
        intro f16 ef16
        have hu := bnd_n hu ef16
        intro n18 en18
        have hu := bnd_n hu en18
        exact hu
      · have hu := hu.trans (if_neg c_11)
        trivial
theorem rG_X1_dropZeros_35  (t_ : Int32 × Int64 × Int64 × Int32) {u9 : Bool} (hu : u9 = G_X1_dropZeros_35  t_) : RG_X1_dropZeros_35  t_ u9 := by
  unfold RG_X1_dropZeros_35
  refine ite_P (fun c_9 => ?_) (fun c_9 => ?_)
  · have hu := hu.trans (if_pos c_9)
    exact hu
  · have hu := hu.trans (if_neg c_9)
    refine ite_P (fun c_10 => ?_) (fun c_10 => ?_)
    · have hu := hu.trans (if_pos c_10)
      exact hu
    · have hu := hu.trans (if_neg c_10)
      refine ite_P (fun c_11 => ?_) (fun c_11 => ?_)
      · have hu := hu.trans (if_pos c_11)
        exact hu
      · have hu := hu.trans (if_neg c_11)
        exact hu
def Z_X1_dropZeros_J_8 (voh : Int64) (vol : Int64) (vop : Int32) : Int64 × Int64 × Int32 := (if vol = 0 then (bnd (vop + 16) (fun f4 : Int32 => (0, voh, f4))) else (voh, vol, vop))
def RZ_X1_dropZeros_J_8 (voh : Int64) (vol : Int64) (vop : Int32) (u9 : Int64 × Int64 × Int32) : Prop := (if vol = 0 then (∀ f4 : Int32, f4 = vop + 16 → u9 = (0, voh, f4)) else u9 = (voh, vol, vop))
theorem rZ_X1_dropZeros_J_8 (voh : Int64) (vol : Int64) (vop : Int32) {u9 : Int64 × Int64 × Int32} (hu : u9 = Z_X1_dropZeros_J_8 voh vol vop) : RZ_X1_dropZeros_J_8 voh vol vop u9 := by
  unfold RZ_X1_dropZeros_J_8
  refine ite_P (fun c_1 => ?_) (fun c_1 => ?_)
  · have hu := hu.trans (if_pos c_1)
    intro f4 ef4
    have hu := bnd_n hu ef4
    exact hu
  · have hu := hu.trans (if_neg c_1)
    exact hu
def F_X1_dropZeros (voh : Int64) (vol : Int64) (vop : Int32)  : Int64 × Int64 × Int32 := (bnd (Z_X1_dropZeros_J_8 voh vol vop) (fun z7 : Int64 × Int64 × Int32 => (bnd (wl (G_X1_dropZeros_35) (B_X1_dropZeros_35) 17 (0, z7.1, z7.2.1, z7.2.2)) (fun z19 : Int32 × Int64 × Int64 × Int32 => (if 16 ≤ z19.1 then (z19.2.1, z19.2.2.1, z19.2.2.2) else (if z19.2.2.1 = 0 then (z19.2.1, z19.2.2.1, z19.2.2.2) else (if jremL z19.2.2.1 10 = 0 then default else (z19.2.1, z19.2.2.1, z19.2.2.2))))))))
def RF_X1_dropZeros (voh : Int64) (vol : Int64) (vop : Int32)  (u9 : Int64 × Int64 × Int32) : Prop := (∀ z7 : Int64 × Int64 × Int32, z7 = Z_X1_dropZeros_J_8 voh vol vop → (∀ z19 : Int32 × Int64 × Int64 × Int32, z19 = wl (G_X1_dropZeros_35) (B_X1_dropZeros_35) 17 (0, z7.1, z7.2.1, z7.2.2) → (if 16 ≤ z19.1 then u9 = (z19.2.1, z19.2.2.1, z19.2.2.2) else (if z19.2.2.1 = 0 then u9 = (z19.2.1, z19.2.2.1, z19.2.2.2) else (if jremL z19.2.2.1 10 = 0 then True else u9 = (z19.2.1, z19.2.2.1, z19.2.2.2))))))
theorem rF_X1_dropZeros (voh : Int64) (vol : Int64) (vop : Int32)  {u9 : Int64 × Int64 × Int32} (hu : u9 = F_X1_dropZeros voh vol vop) : RF_X1_dropZeros voh vol vop u9 := by
  unfold RF_X1_dropZeros
  intro z7 ez7
  have hu := bnd_n hu ez7
  intro z19 ez19
  have hu := bnd_n hu ez19
  refine ite_P (fun c_21 => ?_) (fun c_21 => ?_)
  · have hu := hu.trans (if_pos c_21)
    exact hu
  · have hu := hu.trans (if_neg c_21)
    refine ite_P (fun c_22 => ?_) (fun c_22 => ?_)
    · have hu := hu.trans (if_pos c_22)
      exact hu
    · have hu := hu.trans (if_neg c_22)
      refine ite_P (fun c_23 => ?_) (fun c_23 => ?_)
      · have hu := hu.trans (if_pos c_23)
        trivial
      · have hu := hu.trans (if_neg c_23)
        exact hu
def S_X1_dropZeros (voh : Int64) (vol : Int64) (vop : Int32)  : Prop := (∀ z7 : Int64 × Int64 × Int32, z7 = Z_X1_dropZeros_J_8 voh vol vop → G_X1_dropZeros_35  (wl (G_X1_dropZeros_35) (B_X1_dropZeros_35) 17 (0, z7.1, z7.2.1, z7.2.2)) = false)
def rm_X1_dropZeros : Room := { frames := 0, cells := 0, slots := 0, locals := 0 }
set_option maxHeartbeats 4000000 in
set_option maxRecDepth 100000 in
theorem c_X1_dropZeros (l : Launch) (D : va_G) (cR cI cJ cZ : ClassId) (t0 : Nat) (ax ar ao : Nat) (ad : Nat → Nat) (vrd : Int32) (vtr : Int32) (vsd : Int32) (vrn : Int32) (vom : Bool) (voh : Int64) (vol : Int64) (vop : Int32) (voe : Bool) (vow : Int32) (vok : Int64) (vos : Int32) (vso : Nat → Int32) (vmi : Nat → Bool) (vco : Nat → Int64) (vex : Nat → Int32)  (u : Int64 × Int64 × Int32) (hu : u = F_X1_dropZeros voh vol vop) (hs : S_X1_dropZeros voh vol vop) : XM l D (xty cR cI cJ cZ) t0 yX1_dropZeros cX1_dropZeros 2 none rm_X1_dropZeros [.ref ao] none (xw cR ax ar ao ad vrd vtr vsd vrn vom voh vol vop voe vow vok vos vso vmi vco vex) (xw cR ax ar ao ad vrd vtr vsd vrn vom u.1 u.2.1 u.2.2 voe vow vok vos vso vmi vco vex) := by
  refine XM.of (by decide) (Nat.le_of_ble_eq_true rfl) ?_
  intro p e s m args below meth c A Q F hK hP hD hA hSt hS hQ ls hl
  obtain ⟨hx, hb, hr, hts, hown, hlocks, hml⟩ := F
  have hCF : CallFix p m c cX1_dropZeros 2 s args gW RX1 := ⟨hx, hb, hml, hown, hts⟩
  unfold S_X1_dropZeros at hs
  have hu := rF_X1_dropZeros voh vol vop hu
  unfold RF_X1_dropZeros at hu
  obtain ⟨H, eH⟩ : ∃ y9 : Heap, y9 = s.heap := ⟨_, rfl⟩
  obtain ⟨locs, eL⟩ : ∃ y9 : List Loc, y9 = [] := ⟨_, rfl⟩
  rw [← eL] at hS ⊢
  have hP : va_P D vwCl (xw cR ax ar ao ad vrd vtr vsd vrn vom voh vol vop voe vow vok vos vso vmi vco vex) H := by rw [eH]; exact hP
  have hS : va_S A s.heap H locs := by rw [eH]; exact hS
  suffices goal9 : W p l e rm_X1_dropZeros s m args below meth c H locs 0 0 Q (F0 m 0 ls []) from by rw [← eH]; exact goal9
  have hl : lv_has ls 2 [(0, .ref ao)] := hl
  have hi1 : ∀ w ∈ wsX10, w ∈ gW := inW_X1
  refine lv_aload_n hx hb dX1_dropZeros_0 rfl (lv_at hl 0 rfl) ?_
  refine va_get (D := D) (ci := 3) (v := .long vol) (C := RX1) (T := TX1) (N := 8) hx hb hts hi1 hown hK hP 2 rfl rfl 2 (by decide) (hts (.fieldLink RX1 15 "DecimalWords$Outcome" "low" "J") (inW_1 _ (List.mem_of_getElem? (i := 21) rfl))) (fun _ h9 => h9) rfl dX1_dropZeros_1 ?_
  refine lv_lconst (v := 0) hx hb dX1_dropZeros_4 (by decide) ?_
  have J_8 : (∀ z7 : Int64 × Int64 × Int32, z7 = Z_X1_dropZeros_J_8 voh vol vop → ∀ (H : Heap) (locs : List Loc), va_P D vwCl (xw cR ax ar ao ad vrd vtr vsd vrn vom z7.1 z7.2.1 z7.2.2 voe vow vok vos vso vmi vco vex) H → va_D A (xw cR ax ar ao ad vrd vtr vsd vrn vom z7.1 z7.2.1 z7.2.2 voe vow vok vos vso vmi vco vex) → va_S A s.heap H locs → ∀ ls : Array Slot, lv_has ls 2 [(0, .ref ao)] → W p l e rm_X1_dropZeros s m args below meth c H locs 0 0 Q (F0 m 33 ls [])) := by
    intro z7 ez7 H locs hP hD hS ls hl
    have hs := hs _ ez7
    have hu := hu _ ez7
    refine lv_iconst (v := 0) hx hb dX1_dropZeros_33 (by decide) ?_
    refine lv_istore_n (lv' := [(1, .int 0), (0, .ref ao)]) hx hb dX1_dropZeros_34 rfl hl (by decide) rfl (fun ls hl => ?_)
    have L_24 : ∀ (n9 : Nat) (t_ : Int32 × Int64 × Int64 × Int32), (∀ j : Nat, j < n9 → G_X1_dropZeros_35  (itn (B_X1_dropZeros_35) j t_) = true) → (∀ (H : Heap) (locs : List Loc), va_P D vwCl (xw cR ax ar ao ad vrd vtr vsd vrn vom ((itn (B_X1_dropZeros_35) n9 t_).2.1) ((itn (B_X1_dropZeros_35) n9 t_).2.2.1) ((itn (B_X1_dropZeros_35) n9 t_).2.2.2) voe vow vok vos vso vmi vco vex) H → va_D A (xw cR ax ar ao ad vrd vtr vsd vrn vom ((itn (B_X1_dropZeros_35) n9 t_).2.1) ((itn (B_X1_dropZeros_35) n9 t_).2.2.1) ((itn (B_X1_dropZeros_35) n9 t_).2.2.2) voe vow vok vos vso vmi vco vex) → va_S A s.heap H locs → ∀ ls : Array Slot, lv_has ls 2 [(0, .ref ao), (1, .int ((itn (B_X1_dropZeros_35) n9 t_).1))] → W p l e rm_X1_dropZeros s m args below meth c H locs 0 0 Q (F0 m 35 ls [])) → ∀ (H : Heap) (locs : List Loc), va_P D vwCl (xw cR ax ar ao ad vrd vtr vsd vrn vom t_.2.1 t_.2.2.1 t_.2.2.2 voe vow vok vos vso vmi vco vex) H → va_D A (xw cR ax ar ao ad vrd vtr vsd vrn vom t_.2.1 t_.2.2.1 t_.2.2.2 voe vow vok vos vso vmi vco vex) → va_S A s.heap H locs → ∀ ls : Array Slot, lv_has ls 2 [(0, .ref ao), (1, .int t_.1)] → W p l e rm_X1_dropZeros s m args below meth c H locs 0 0 Q (F0 m 35 ls []) := by
      intro n9
      induction n9 with
      | zero => exact fun t_ _ k9 => k9
      | succ n9 ih9 =>
        intro t_ hG9 k9 H locs hP hD hS ls hl
        have hG0 : G_X1_dropZeros_35  t_ = true := hG9 0 (Nat.succ_pos n9)
        have hg := rG_X1_dropZeros_35  t_ (Eq.symm hG0)
        unfold RG_X1_dropZeros_35 at hg
        obtain ⟨t9, et9⟩ : ∃ y9 : Int32 × Int64 × Int64 × Int32, y9 = (B_X1_dropZeros_35) t_ := ⟨_, rfl⟩
        have hb9 := rB_X1_dropZeros_35  t_ et9
        unfold RB_X1_dropZeros_35 at hb9
        refine lv_iload_n hx hb dX1_dropZeros_35 rfl (lv_at hl 1 rfl) ?_
        refine lv_bipush (v := 16) hx hb dX1_dropZeros_36 (by decide) ?_
        refine lv_icmp_ge (tgt := 116) hx hb dX1_dropZeros_38 (by decide) (fun c_9 => ?_) (fun c_9 => ?_)
        · rw [if_pos c_9] at hg
          exact absurd hg (by decide)
        · rw [if_neg c_9] at hg
          rw [if_neg c_9] at hb9
          refine lv_aload_n hx hb dX1_dropZeros_41 rfl (lv_at hl 0 rfl) ?_
          refine va_get (D := D) (ci := 3) (v := .long t_.2.2.1) (C := RX1) (T := TX1) (N := 8) hx hb hts hi1 hown hK hP 2 rfl rfl 2 (by decide) (hts (.fieldLink RX1 15 "DecimalWords$Outcome" "low" "J") (inW_1 _ (List.mem_of_getElem? (i := 21) rfl))) (fun _ h9 => h9) rfl dX1_dropZeros_42 ?_
          refine lv_lconst (v := 0) hx hb dX1_dropZeros_45 (by decide) ?_
          refine xl_eq (tgt := 116) hx hb dX1_dropZeros_46 dX1_dropZeros_47 (by decide) (fun c_10 => ?_) (fun c_10 => ?_)
          · rw [if_pos c_10] at hg
            exact absurd hg (by decide)
          · rw [if_neg c_10] at hg
            rw [if_neg c_10] at hb9
            refine lv_aload_n hx hb dX1_dropZeros_50 rfl (lv_at hl 0 rfl) ?_
            refine va_get (D := D) (ci := 3) (v := .long t_.2.2.1) (C := RX1) (T := TX1) (N := 8) hx hb hts hi1 hown hK hP 2 rfl rfl 2 (by decide) (hts (.fieldLink RX1 15 "DecimalWords$Outcome" "low" "J") (inW_1 _ (List.mem_of_getElem? (i := 21) rfl))) (fun _ h9 => h9) rfl dX1_dropZeros_51 ?_
            refine lv_ldc2 (v := 10) hx hb hown (hts (.constantLong RX1 80 (10)) (inW_2 _ (List.mem_of_getElem? (i := 29) rfl))) dX1_dropZeros_54 ?_
            refine x_lrem hx hb dX1_dropZeros_57 (by decide) ?_
            refine lv_lconst (v := 0) hx hb dX1_dropZeros_58 (by decide) ?_
            refine xl_ne (tgt := 116) hx hb dX1_dropZeros_59 dX1_dropZeros_60 (by decide) (fun c_11 => ?_) (fun c_11 => ?_)
            · rw [if_neg c_11] at hg
              exact absurd hg (by decide)
            · rw [if_pos c_11] at hg
              rw [if_pos c_11] at hb9
              refine lv_aload_n hx hb dX1_dropZeros_63 rfl (lv_at hl 0 rfl) ?_
              refine lv_aload_n hx hb dX1_dropZeros_64 rfl (lv_at hl 0 rfl) ?_
              refine va_get (D := D) (ci := 3) (v := .long t_.2.2.1) (C := RX1) (T := TX1) (N := 8) hx hb hts hi1 hown hK hP 2 rfl rfl 2 (by decide) (hts (.fieldLink RX1 15 "DecimalWords$Outcome" "low" "J") (inW_1 _ (List.mem_of_getElem? (i := 21) rfl))) (fun _ h9 => h9) rfl dX1_dropZeros_65 ?_
              refine lv_ldc2 (v := 10) hx hb hown (hts (.constantLong RX1 80 (10)) (inW_2 _ (List.mem_of_getElem? (i := 29) rfl))) dX1_dropZeros_68 ?_
              refine lv_ldiv hx hb dX1_dropZeros_71 (by decide) ?_
              refine lv_aload_n hx hb dX1_dropZeros_72 rfl (lv_at hl 0 rfl) ?_
              refine va_get (D := D) (ci := 3) (v := .long t_.2.1) (C := RX1) (T := TX1) (N := 8) hx hb hts hi1 hown hK hP 2 rfl rfl 1 (by decide) (hts (.fieldLink RX1 9 "DecimalWords$Outcome" "high" "J") (inW_1 _ (List.mem_of_getElem? (i := 20) rfl))) (fun _ h9 => h9) rfl dX1_dropZeros_73 ?_
              refine lv_ldc2 (v := 10) hx hb hown (hts (.constantLong RX1 80 (10)) (inW_2 _ (List.mem_of_getElem? (i := 29) rfl))) dX1_dropZeros_76 ?_
              refine x_lrem hx hb dX1_dropZeros_79 (by decide) ?_
              refine lv_ldc2 (v := 1000000000000000) hx hb hown (hts (.constantLong RX1 82 (1000000000000000)) (inW_2 _ (List.mem_of_getElem? (i := 31) rfl))) dX1_dropZeros_80 ?_
              refine lv_lmul hx hb dX1_dropZeros_83 ?_
              refine lv_ladd hx hb dX1_dropZeros_84 ?_
              refine lv_topl (fun f12 ef12 => ?_)
              have hb9 := hb9 _ ef12
              refine va_put (D := D) (ci := 3) (v := .long f12) (ty := .long) (C := RX1) (T := TX1) (N := 8) hx hb hts hi1 tyX1 tyX1_ok nmX1 hown hK hP hD hS 2 rfl rfl 2 (by decide) (hts (.fieldLink RX1 15 "DecimalWords$Outcome" "low" "J") (inW_1 _ (List.mem_of_getElem? (i := 21) rfl))) (fun _ h9 => h9) rfl (by decide +kernel) rfl rfl (Nat.le_of_ble_eq_true rfl) dX1_dropZeros_85 (fun H locs hP hD hS => ?_)
              have hP : va_P D vwCl (xw cR ax ar ao ad vrd vtr vsd vrn vom t_.2.1 f12 t_.2.2.2 voe vow vok vos vso vmi vco vex) H := hP
              have hD : va_D A (xw cR ax ar ao ad vrd vtr vsd vrn vom t_.2.1 f12 t_.2.2.2 voe vow vok vos vso vmi vco vex) := hD
              refine lv_aload_n hx hb dX1_dropZeros_88 rfl (lv_at hl 0 rfl) ?_
              refine lv_dup hx hb dX1_dropZeros_89 rfl ?_
              refine va_get (D := D) (ci := 3) (v := .long t_.2.1) (C := RX1) (T := TX1) (N := 8) hx hb hts hi1 hown hK hP 2 rfl rfl 1 (by decide) (hts (.fieldLink RX1 9 "DecimalWords$Outcome" "high" "J") (inW_1 _ (List.mem_of_getElem? (i := 20) rfl))) (fun _ h9 => h9) rfl dX1_dropZeros_90 ?_
              refine lv_ldc2 (v := 10) hx hb hown (hts (.constantLong RX1 80 (10)) (inW_2 _ (List.mem_of_getElem? (i := 29) rfl))) dX1_dropZeros_93 ?_
              refine lv_ldiv hx hb dX1_dropZeros_96 (by decide) ?_
              refine lv_topl (fun f14 ef14 => ?_)
              have hb9 := hb9 _ ef14
              refine va_put (D := D) (ci := 3) (v := .long f14) (ty := .long) (C := RX1) (T := TX1) (N := 8) hx hb hts hi1 tyX1 tyX1_ok nmX1 hown hK hP hD hS 2 rfl rfl 1 (by decide) (hts (.fieldLink RX1 9 "DecimalWords$Outcome" "high" "J") (inW_1 _ (List.mem_of_getElem? (i := 20) rfl))) (fun _ h9 => h9) rfl (by decide +kernel) rfl rfl (Nat.le_of_ble_eq_true rfl) dX1_dropZeros_97 (fun H locs hP hD hS => ?_)
              have hP : va_P D vwCl (xw cR ax ar ao ad vrd vtr vsd vrn vom f14 f12 t_.2.2.2 voe vow vok vos vso vmi vco vex) H := hP
              have hD : va_D A (xw cR ax ar ao ad vrd vtr vsd vrn vom f14 f12 t_.2.2.2 voe vow vok vos vso vmi vco vex) := hD
              refine lv_aload_n hx hb dX1_dropZeros_100 rfl (lv_at hl 0 rfl) ?_
              refine lv_dup hx hb dX1_dropZeros_101 rfl ?_
              refine va_get (D := D) (ci := 3) (v := .int t_.2.2.2) (C := RX1) (T := TX1) (N := 8) hx hb hts hi1 hown hK hP 2 rfl rfl 3 (by decide) (hts (.fieldLink RX1 39 "DecimalWords$Outcome" "power" "I") (inW_1 _ (List.mem_of_getElem? (i := 33) rfl))) (fun _ h9 => h9) rfl dX1_dropZeros_102 ?_
              refine lv_iconst (v := 1) hx hb dX1_dropZeros_105 (by decide) ?_
              refine lv_iadd hx hb dX1_dropZeros_106 ?_
              refine lv_topi (fun f16 ef16 => ?_)
              have hb9 := hb9 _ ef16
              refine va_put (D := D) (ci := 3) (v := .int f16) (ty := .int) (C := RX1) (T := TX1) (N := 8) hx hb hts hi1 tyX1 tyX1_ok nmX1 hown hK hP hD hS 2 rfl rfl 3 (by decide) (hts (.fieldLink RX1 39 "DecimalWords$Outcome" "power" "I") (inW_1 _ (List.mem_of_getElem? (i := 33) rfl))) (fun _ h9 => h9) rfl (by decide +kernel) rfl rfl (Nat.le_of_ble_eq_true rfl) dX1_dropZeros_107 (fun H locs hP hD hS => ?_)
              have hP : va_P D vwCl (xw cR ax ar ao ad vrd vtr vsd vrn vom f14 f12 f16 voe vow vok vos vso vmi vco vex) H := hP
              have hD : va_D A (xw cR ax ar ao ad vrd vtr vsd vrn vom f14 f12 f16 voe vow vok vos vso vmi vco vex) := hD
              obtain ⟨n18, en18⟩ : ∃ y9 : Int32, y9 = t_.1 + 1 := ⟨_, rfl⟩
              have hb9 := hb9 _ en18
              refine lv_iinc (v := n18) (lv' := [(1, .int n18), (0, .ref ao)]) hx hb dX1_dropZeros_110 hl (k := 1) rfl (by rw [en18]; rfl) (by decide) rfl (fun ls hl => ?_)
              refine lv_goto (tgt := 35) hx hb dX1_dropZeros_113 (by decide) ?_
              have e9 := Eq.symm hb9; subst e9
              have key9 := ih9 ((B_X1_dropZeros_35) t_) (fun j hj => hG9 (j + 1) (Nat.succ_lt_succ hj)) k9
              rw [← et9] at key9
              exact key9 H locs hP hD hS ls (lv_sub hl [1, 0] rfl)
    have hG1 := hs
    refine L_24 (nW (G_X1_dropZeros_35) (B_X1_dropZeros_35) 17 (0, z7.1, z7.2.1, z7.2.2)) (0, z7.1, z7.2.1, z7.2.2) (nW_lt _ _ _ _) (fun H locs hP hD hS ls hl => ?_) H locs hP hD hS ls (lv_sub hl [1, 0] rfl)
    obtain ⟨z19, ez19⟩ : ∃ y9 : Int32 × Int64 × Int64 × Int32, y9 = wl (G_X1_dropZeros_35) (B_X1_dropZeros_35) 17 (0, z7.1, z7.2.1, z7.2.2) := ⟨_, rfl⟩
    have e9 : z19 = itn (B_X1_dropZeros_35) (nW (G_X1_dropZeros_35) (B_X1_dropZeros_35) 17 (0, z7.1, z7.2.1, z7.2.2)) (0, z7.1, z7.2.1, z7.2.2) := ez19
    try rw [← e9] at hP
    try rw [← e9] at hD
    try rw [← e9] at hl
    rw [← ez19] at hG1
    clear e9
    have hg := rG_X1_dropZeros_35  z19 (Eq.symm hG1)
    unfold RG_X1_dropZeros_35 at hg
    have hu := hu _ ez19
    refine lv_iload_n hx hb dX1_dropZeros_35 rfl (lv_at hl 1 rfl) ?_
    refine lv_bipush (v := 16) hx hb dX1_dropZeros_36 (by decide) ?_
    refine lv_icmp_ge (tgt := 116) hx hb dX1_dropZeros_38 (by decide) (fun c_21 => ?_) (fun c_21 => ?_)
    · rw [if_pos c_21] at hu
      rw [if_pos c_21] at hg
      have e9 := Eq.symm hu; subst e9
      exact x_vret hx hb hr hlocks hQ hK hP hD hS rfl dX1_dropZeros_116
    · rw [if_neg c_21] at hu
      rw [if_neg c_21] at hg
      refine lv_aload_n hx hb dX1_dropZeros_41 rfl (lv_at hl 0 rfl) ?_
      refine va_get (D := D) (ci := 3) (v := .long z19.2.2.1) (C := RX1) (T := TX1) (N := 8) hx hb hts hi1 hown hK hP 2 rfl rfl 2 (by decide) (hts (.fieldLink RX1 15 "DecimalWords$Outcome" "low" "J") (inW_1 _ (List.mem_of_getElem? (i := 21) rfl))) (fun _ h9 => h9) rfl dX1_dropZeros_42 ?_
      refine lv_lconst (v := 0) hx hb dX1_dropZeros_45 (by decide) ?_
      refine xl_eq (tgt := 116) hx hb dX1_dropZeros_46 dX1_dropZeros_47 (by decide) (fun c_22 => ?_) (fun c_22 => ?_)
      · rw [if_pos c_22] at hu
        rw [if_pos c_22] at hg
        have e9 := Eq.symm hu; subst e9
        exact x_vret hx hb hr hlocks hQ hK hP hD hS rfl dX1_dropZeros_116
      · rw [if_neg c_22] at hu
        rw [if_neg c_22] at hg
        refine lv_aload_n hx hb dX1_dropZeros_50 rfl (lv_at hl 0 rfl) ?_
        refine va_get (D := D) (ci := 3) (v := .long z19.2.2.1) (C := RX1) (T := TX1) (N := 8) hx hb hts hi1 hown hK hP 2 rfl rfl 2 (by decide) (hts (.fieldLink RX1 15 "DecimalWords$Outcome" "low" "J") (inW_1 _ (List.mem_of_getElem? (i := 21) rfl))) (fun _ h9 => h9) rfl dX1_dropZeros_51 ?_
        refine lv_ldc2 (v := 10) hx hb hown (hts (.constantLong RX1 80 (10)) (inW_2 _ (List.mem_of_getElem? (i := 29) rfl))) dX1_dropZeros_54 ?_
        refine x_lrem hx hb dX1_dropZeros_57 (by decide) ?_
        refine lv_lconst (v := 0) hx hb dX1_dropZeros_58 (by decide) ?_
        refine xl_ne (tgt := 116) hx hb dX1_dropZeros_59 dX1_dropZeros_60 (by decide) (fun c_23 => ?_) (fun c_23 => ?_)
        · rw [if_neg c_23] at hu
          rw [if_neg c_23] at hg
          have e9 := Eq.symm hu; subst e9
          exact x_vret hx hb hr hlocks hQ hK hP hD hS rfl dX1_dropZeros_116
        · rw [if_pos c_23] at hg
          exact absurd hg (by decide)
  obtain ⟨z9, ez9⟩ : ∃ y9 : Int64 × Int64 × Int32, y9 = Z_X1_dropZeros_J_8 voh vol vop := ⟨_, rfl⟩
  have hz := rZ_X1_dropZeros_J_8 voh vol vop ez9
  unfold RZ_X1_dropZeros_J_8 at hz
  refine xl_ne (tgt := 33) hx hb dX1_dropZeros_5 dX1_dropZeros_6 (by decide) (fun c_1 => ?_) (fun c_1 => ?_)
  · rw [if_neg c_1] at hz
    have e9 := Eq.symm hz; subst e9
    exact J_8 _ ez9 H locs hP hD hS ls (lv_sub hl [0] rfl)
  · rw [if_pos c_1] at hz
    refine lv_aload_n hx hb dX1_dropZeros_9 rfl (lv_at hl 0 rfl) ?_
    refine lv_aload_n hx hb dX1_dropZeros_10 rfl (lv_at hl 0 rfl) ?_
    refine va_get (D := D) (ci := 3) (v := .long voh) (C := RX1) (T := TX1) (N := 8) hx hb hts hi1 hown hK hP 2 rfl rfl 1 (by decide) (hts (.fieldLink RX1 9 "DecimalWords$Outcome" "high" "J") (inW_1 _ (List.mem_of_getElem? (i := 20) rfl))) (fun _ h9 => h9) rfl dX1_dropZeros_11 ?_
    refine va_put (D := D) (ci := 3) (v := .long voh) (ty := .long) (C := RX1) (T := TX1) (N := 8) hx hb hts hi1 tyX1 tyX1_ok nmX1 hown hK hP hD hS 2 rfl rfl 2 (by decide) (hts (.fieldLink RX1 15 "DecimalWords$Outcome" "low" "J") (inW_1 _ (List.mem_of_getElem? (i := 21) rfl))) (fun _ h9 => h9) rfl (by decide +kernel) rfl rfl (Nat.le_of_ble_eq_true rfl) dX1_dropZeros_14 (fun H locs hP hD hS => ?_)
    have hP : va_P D vwCl (xw cR ax ar ao ad vrd vtr vsd vrn vom voh voh vop voe vow vok vos vso vmi vco vex) H := hP
    have hD : va_D A (xw cR ax ar ao ad vrd vtr vsd vrn vom voh voh vop voe vow vok vos vso vmi vco vex) := hD
    refine lv_aload_n hx hb dX1_dropZeros_17 rfl (lv_at hl 0 rfl) ?_
    refine lv_lconst (v := 0) hx hb dX1_dropZeros_18 (by decide) ?_
    refine va_put (D := D) (ci := 3) (v := .long 0) (ty := .long) (C := RX1) (T := TX1) (N := 8) hx hb hts hi1 tyX1 tyX1_ok nmX1 hown hK hP hD hS 2 rfl rfl 1 (by decide) (hts (.fieldLink RX1 9 "DecimalWords$Outcome" "high" "J") (inW_1 _ (List.mem_of_getElem? (i := 20) rfl))) (fun _ h9 => h9) rfl (by decide +kernel) rfl rfl (Nat.le_of_ble_eq_true rfl) dX1_dropZeros_19 (fun H locs hP hD hS => ?_)
    have hP : va_P D vwCl (xw cR ax ar ao ad vrd vtr vsd vrn vom 0 voh vop voe vow vok vos vso vmi vco vex) H := hP
    have hD : va_D A (xw cR ax ar ao ad vrd vtr vsd vrn vom 0 voh vop voe vow vok vos vso vmi vco vex) := hD
    refine lv_aload_n hx hb dX1_dropZeros_22 rfl (lv_at hl 0 rfl) ?_
    refine lv_dup hx hb dX1_dropZeros_23 rfl ?_
    refine va_get (D := D) (ci := 3) (v := .int vop) (C := RX1) (T := TX1) (N := 8) hx hb hts hi1 hown hK hP 2 rfl rfl 3 (by decide) (hts (.fieldLink RX1 39 "DecimalWords$Outcome" "power" "I") (inW_1 _ (List.mem_of_getElem? (i := 33) rfl))) (fun _ h9 => h9) rfl dX1_dropZeros_24 ?_
    refine lv_bipush (v := 16) hx hb dX1_dropZeros_27 (by decide) ?_
    refine lv_iadd hx hb dX1_dropZeros_29 ?_
    refine lv_topi (fun f4 ef4 => ?_)
    have hz := hz _ ef4
    refine va_put (D := D) (ci := 3) (v := .int f4) (ty := .int) (C := RX1) (T := TX1) (N := 8) hx hb hts hi1 tyX1 tyX1_ok nmX1 hown hK hP hD hS 2 rfl rfl 3 (by decide) (hts (.fieldLink RX1 39 "DecimalWords$Outcome" "power" "I") (inW_1 _ (List.mem_of_getElem? (i := 33) rfl))) (fun _ h9 => h9) rfl (by decide +kernel) rfl rfl (Nat.le_of_ble_eq_true rfl) dX1_dropZeros_30 (fun H locs hP hD hS => ?_)
    have hP : va_P D vwCl (xw cR ax ar ao ad vrd vtr vsd vrn vom 0 voh f4 voe vow vok vos vso vmi vco vex) H := hP
    have hD : va_D A (xw cR ax ar ao ad vrd vtr vsd vrn vom 0 voh f4 voe vow vok vos vso vmi vco vex) := hD
    have e9 := Eq.symm hz; subst e9
    exact J_8 _ ez9 H locs hP hD hS ls (lv_sub hl [0] rfl)
end
