section
-- ===== PART A: goes FIRST, ahead of the names: the tables' words, and 'selects' of the private methods out of them =====
/-- a private method of a class that the tables say can be made, by its rows of tables_1 -/
def lw_okq (q : MethodName × Nat) : Prop := (q.1.cls ≠ "java/lang/invoke/MethodHandle" ∧ q.1.cls ≠ "java/lang/invoke/VarHandle") ∧ Cond.instantiable q.1.cls q.2 ∈ tables_1 ∧ Cond.privateMethod q.1 ∈ tables_1 ∧ Cond.instanceMethod q.1 ∈ tables_1
theorem lw_p0 : lw_okq (⟨"java/lang/Throwable", "fillInStackTrace", "(I)Ljava/lang/Throwable;"⟩, 6) := ⟨⟨by decide +kernel, by decide +kernel⟩, List.mem_of_getElem? (i := 481) (by decide +kernel), List.mem_of_getElem? (i := 479) (by decide +kernel), List.mem_of_getElem? (i := 480) (by decide +kernel)⟩
theorem lw_p1 : lw_okq (⟨"MacroPress", "beginRun", "(I)V"⟩, 8) := ⟨⟨by decide +kernel, by decide +kernel⟩, List.mem_of_getElem? (i := 26) (by decide +kernel), List.mem_of_getElem? (i := 510) (by decide +kernel), List.mem_of_getElem? (i := 511) (by decide +kernel)⟩
theorem lw_p2 : lw_okq (⟨"MacroPress$Source", "dropLine", "()V"⟩, 13) := ⟨⟨by decide +kernel, by decide +kernel⟩, List.mem_of_getElem? (i := 194) (by decide +kernel), List.mem_of_getElem? (i := 534) (by decide +kernel), List.mem_of_getElem? (i := 535) (by decide +kernel)⟩
theorem lw_p3 : lw_okq (⟨"MacroPress$Source", "beginLine", "()Z"⟩, 13) := ⟨⟨by decide +kernel, by decide +kernel⟩, List.mem_of_getElem? (i := 194) (by decide +kernel), List.mem_of_getElem? (i := 550) (by decide +kernel), List.mem_of_getElem? (i := 551) (by decide +kernel)⟩
theorem lw_p4 : lw_okq (⟨"MacroPress$Source", "scanName", "()I"⟩, 13) := ⟨⟨by decide +kernel, by decide +kernel⟩, List.mem_of_getElem? (i := 194) (by decide +kernel), List.mem_of_getElem? (i := 554) (by decide +kernel), List.mem_of_getElem? (i := 555) (by decide +kernel)⟩
theorem lw_p5 : lw_okq (⟨"MacroPress$Expander", "isExpandable", "(I)Z"⟩, 9) := ⟨⟨by decide +kernel, by decide +kernel⟩, List.mem_of_getElem? (i := 297) (by decide +kernel), List.mem_of_getElem? (i := 581) (by decide +kernel), List.mem_of_getElem? (i := 582) (by decide +kernel)⟩
theorem lw_p6 : lw_okq (⟨"MacroPress$Expander", "expand", "(I)V"⟩, 9) := ⟨⟨by decide +kernel, by decide +kernel⟩, List.mem_of_getElem? (i := 297) (by decide +kernel), List.mem_of_getElem? (i := 611) (by decide +kernel), List.mem_of_getElem? (i := 612) (by decide +kernel)⟩
theorem lw_p7 : lw_okq (⟨"MacroPress$Arguments", "collectUndelimited", "(I)V"⟩, 7) := ⟨⟨by decide +kernel, by decide +kernel⟩, List.mem_of_getElem? (i := 303) (by decide +kernel), List.mem_of_getElem? (i := 648) (by decide +kernel), List.mem_of_getElem? (i := 649) (by decide +kernel)⟩
theorem lw_p8 : lw_okq (⟨"MacroPress$Arguments", "add", "(I)V"⟩, 7) := ⟨⟨by decide +kernel, by decide +kernel⟩, List.mem_of_getElem? (i := 303) (by decide +kernel), List.mem_of_getElem? (i := 660) (by decide +kernel), List.mem_of_getElem? (i := 661) (by decide +kernel)⟩
theorem lw_p9 : lw_okq (⟨"MacroPress$Arguments", "collectDelimited", "(III)V"⟩, 7) := ⟨⟨by decide +kernel, by decide +kernel⟩, List.mem_of_getElem? (i := 303) (by decide +kernel), List.mem_of_getElem? (i := 664) (by decide +kernel), List.mem_of_getElem? (i := 665) (by decide +kernel)⟩
theorem lw_p10 : lw_okq (⟨"MacroPress$Arguments", "endsWith", "(III)Z"⟩, 7) := ⟨⟨by decide +kernel, by decide +kernel⟩, List.mem_of_getElem? (i := 303) (by decide +kernel), List.mem_of_getElem? (i := 668) (by decide +kernel), List.mem_of_getElem? (i := 669) (by decide +kernel)⟩
theorem lw_p11 : lw_okq (⟨"MacroPress$Arguments", "putArgument", "(I)V"⟩, 7) := ⟨⟨by decide +kernel, by decide +kernel⟩, List.mem_of_getElem? (i := 303) (by decide +kernel), List.mem_of_getElem? (i := 680) (by decide +kernel), List.mem_of_getElem? (i := 681) (by decide +kernel)⟩
theorem lw_p12 : lw_okq (⟨"MacroPress$Expander", "expandPrimitive", "(II)V"⟩, 9) := ⟨⟨by decide +kernel, by decide +kernel⟩, List.mem_of_getElem? (i := 297) (by decide +kernel), List.mem_of_getElem? (i := 688) (by decide +kernel), List.mem_of_getElem? (i := 689) (by decide +kernel)⟩
theorem lw_p13 : lw_okq (⟨"MacroPress$Expander", "expandAfter", "()V"⟩, 9) := ⟨⟨by decide +kernel, by decide +kernel⟩, List.mem_of_getElem? (i := 297) (by decide +kernel), List.mem_of_getElem? (i := 692) (by decide +kernel), List.mem_of_getElem? (i := 693) (by decide +kernel)⟩
theorem lw_p14 : lw_okq (⟨"MacroPress$Expander", "makeName", "()V"⟩, 9) := ⟨⟨by decide +kernel, by decide +kernel⟩, List.mem_of_getElem? (i := 297) (by decide +kernel), List.mem_of_getElem? (i := 698) (by decide +kernel), List.mem_of_getElem? (i := 699) (by decide +kernel)⟩
theorem lw_p15 : lw_okq (⟨"MacroPress$Expander", "putString", "(I)V"⟩, 9) := ⟨⟨by decide +kernel, by decide +kernel⟩, List.mem_of_getElem? (i := 297) (by decide +kernel), List.mem_of_getElem? (i := 718) (by decide +kernel), List.mem_of_getElem? (i := 719) (by decide +kernel)⟩
def lw_privs_1 : List (MethodName × Nat) := [(⟨"java/lang/Throwable", "fillInStackTrace", "(I)Ljava/lang/Throwable;"⟩, 6), (⟨"MacroPress", "beginRun", "(I)V"⟩, 8), (⟨"MacroPress$Source", "dropLine", "()V"⟩, 13), (⟨"MacroPress$Source", "beginLine", "()Z"⟩, 13), (⟨"MacroPress$Source", "scanName", "()I"⟩, 13), (⟨"MacroPress$Expander", "isExpandable", "(I)Z"⟩, 9), (⟨"MacroPress$Expander", "expand", "(I)V"⟩, 9), (⟨"MacroPress$Arguments", "collectUndelimited", "(I)V"⟩, 7), (⟨"MacroPress$Arguments", "add", "(I)V"⟩, 7), (⟨"MacroPress$Arguments", "collectDelimited", "(III)V"⟩, 7), (⟨"MacroPress$Arguments", "endsWith", "(III)Z"⟩, 7), (⟨"MacroPress$Arguments", "putArgument", "(I)V"⟩, 7), (⟨"MacroPress$Expander", "expandPrimitive", "(II)V"⟩, 9), (⟨"MacroPress$Expander", "expandAfter", "()V"⟩, 9), (⟨"MacroPress$Expander", "makeName", "()V"⟩, 9), (⟨"MacroPress$Expander", "putString", "(I)V"⟩, 9)]
theorem lw_r1 : ∀ q ∈ lw_privs_1, lw_okq q := List.forall_mem_cons.mpr ⟨lw_p0, List.forall_mem_cons.mpr ⟨lw_p1, List.forall_mem_cons.mpr ⟨lw_p2, List.forall_mem_cons.mpr ⟨lw_p3, List.forall_mem_cons.mpr ⟨lw_p4, List.forall_mem_cons.mpr ⟨lw_p5, List.forall_mem_cons.mpr ⟨lw_p6, List.forall_mem_cons.mpr ⟨lw_p7, List.forall_mem_cons.mpr ⟨lw_p8, List.forall_mem_cons.mpr ⟨lw_p9, List.forall_mem_cons.mpr ⟨lw_p10, List.forall_mem_cons.mpr ⟨lw_p11, List.forall_mem_cons.mpr ⟨lw_p12, List.forall_mem_cons.mpr ⟨lw_p13, List.forall_mem_cons.mpr ⟨lw_p14, List.forall_mem_cons.mpr ⟨lw_p15, fun _ h => absurd h List.not_mem_nil⟩⟩⟩⟩⟩⟩⟩⟩⟩⟩⟩⟩⟩⟩⟩⟩
theorem lw_p16 : lw_okq (⟨"MacroPress$Expander", "putCharacter", "(I)V"⟩, 9) := ⟨⟨by decide +kernel, by decide +kernel⟩, List.mem_of_getElem? (i := 297) (by decide +kernel), List.mem_of_getElem? (i := 725) (by decide +kernel), List.mem_of_getElem? (i := 726) (by decide +kernel)⟩
theorem lw_p17 : lw_okq (⟨"MacroPress$Expander", "digits", "(I)I"⟩, 9) := ⟨⟨by decide +kernel, by decide +kernel⟩, List.mem_of_getElem? (i := 297) (by decide +kernel), List.mem_of_getElem? (i := 742) (by decide +kernel), List.mem_of_getElem? (i := 743) (by decide +kernel)⟩
theorem lw_p18 : lw_okq (⟨"MacroPress$Expander", "dropSpace", "(I)V"⟩, 9) := ⟨⟨by decide +kernel, by decide +kernel⟩, List.mem_of_getElem? (i := 297) (by decide +kernel), List.mem_of_getElem? (i := 748) (by decide +kernel), List.mem_of_getElem? (i := 749) (by decide +kernel)⟩
theorem lw_p19 : lw_okq (⟨"MacroPress$Expander", "characterNumber", "(I)I"⟩, 9) := ⟨⟨by decide +kernel, by decide +kernel⟩, List.mem_of_getElem? (i := 297) (by decide +kernel), List.mem_of_getElem? (i := 752) (by decide +kernel), List.mem_of_getElem? (i := 753) (by decide +kernel)⟩
theorem lw_p20 : lw_okq (⟨"MacroPress$Expander", "putNumber", "(I)V"⟩, 9) := ⟨⟨by decide +kernel, by decide +kernel⟩, List.mem_of_getElem? (i := 297) (by decide +kernel), List.mem_of_getElem? (i := 772) (by decide +kernel), List.mem_of_getElem? (i := 773) (by decide +kernel)⟩
theorem lw_p21 : lw_okq (⟨"MacroPress$Expander", "putRoman", "(I)V"⟩, 9) := ⟨⟨by decide +kernel, by decide +kernel⟩, List.mem_of_getElem? (i := 297) (by decide +kernel), List.mem_of_getElem? (i := 779) (by decide +kernel), List.mem_of_getElem? (i := 780) (by decide +kernel)⟩
theorem lw_p22 : lw_okq (⟨"MacroPress$Expander", "putRomanDigit", "(II)V"⟩, 9) := ⟨⟨by decide +kernel, by decide +kernel⟩, List.mem_of_getElem? (i := 297) (by decide +kernel), List.mem_of_getElem? (i := 786) (by decide +kernel), List.mem_of_getElem? (i := 787) (by decide +kernel)⟩
theorem lw_p23 : lw_okq (⟨"MacroPress$Expander", "holds", "(I)Z"⟩, 9) := ⟨⟨by decide +kernel, by decide +kernel⟩, List.mem_of_getElem? (i := 297) (by decide +kernel), List.mem_of_getElem? (i := 806) (by decide +kernel), List.mem_of_getElem? (i := 807) (by decide +kernel)⟩
theorem lw_p24 : lw_okq (⟨"MacroPress$Expander", "characterOf", "(I)I"⟩, 9) := ⟨⟨by decide +kernel, by decide +kernel⟩, List.mem_of_getElem? (i := 297) (by decide +kernel), List.mem_of_getElem? (i := 810) (by decide +kernel), List.mem_of_getElem? (i := 811) (by decide +kernel)⟩
theorem lw_p25 : lw_okq (⟨"MacroPress$Expander", "categoryOf", "(I)I"⟩, 9) := ⟨⟨by decide +kernel, by decide +kernel⟩, List.mem_of_getElem? (i := 297) (by decide +kernel), List.mem_of_getElem? (i := 814) (by decide +kernel), List.mem_of_getElem? (i := 815) (by decide +kernel)⟩
theorem lw_p26 : lw_okq (⟨"MacroPress$Expander", "meansSame", "(II)Z"⟩, 9) := ⟨⟨by decide +kernel, by decide +kernel⟩, List.mem_of_getElem? (i := 297) (by decide +kernel), List.mem_of_getElem? (i := 818) (by decide +kernel), List.mem_of_getElem? (i := 819) (by decide +kernel)⟩
theorem lw_p27 : lw_okq (⟨"MacroPress$Performer", "performCharacter", "(II)V"⟩, 7) := ⟨⟨by decide +kernel, by decide +kernel⟩, List.mem_of_getElem? (i := 360) (by decide +kernel), List.mem_of_getElem? (i := 843) (by decide +kernel), List.mem_of_getElem? (i := 844) (by decide +kernel)⟩
theorem lw_p28 : lw_okq (⟨"MacroPress$Store", "bringBack", "()V"⟩, 10) := ⟨⟨by decide +kernel, by decide +kernel⟩, List.mem_of_getElem? (i := 146) (by decide +kernel), List.mem_of_getElem? (i := 855) (by decide +kernel), List.mem_of_getElem? (i := 856) (by decide +kernel)⟩
theorem lw_p29 : lw_okq (⟨"MacroPress$Performer", "emit", "(I)V"⟩, 7) := ⟨⟨by decide +kernel, by decide +kernel⟩, List.mem_of_getElem? (i := 360) (by decide +kernel), List.mem_of_getElem? (i := 860) (by decide +kernel), List.mem_of_getElem? (i := 861) (by decide +kernel)⟩
theorem lw_p30 : lw_okq (⟨"MacroPress$Performer", "performPrimitive", "(I)I"⟩, 7) := ⟨⟨by decide +kernel, by decide +kernel⟩, List.mem_of_getElem? (i := 360) (by decide +kernel), List.mem_of_getElem? (i := 864) (by decide +kernel), List.mem_of_getElem? (i := 865) (by decide +kernel)⟩
theorem lw_p31 : lw_okq (⟨"MacroPress$Performer", "prefixed", "()I"⟩, 7) := ⟨⟨by decide +kernel, by decide +kernel⟩, List.mem_of_getElem? (i := 360) (by decide +kernel), List.mem_of_getElem? (i := 872) (by decide +kernel), List.mem_of_getElem? (i := 873) (by decide +kernel)⟩
def lw_privs_2 : List (MethodName × Nat) := [(⟨"MacroPress$Expander", "putCharacter", "(I)V"⟩, 9), (⟨"MacroPress$Expander", "digits", "(I)I"⟩, 9), (⟨"MacroPress$Expander", "dropSpace", "(I)V"⟩, 9), (⟨"MacroPress$Expander", "characterNumber", "(I)I"⟩, 9), (⟨"MacroPress$Expander", "putNumber", "(I)V"⟩, 9), (⟨"MacroPress$Expander", "putRoman", "(I)V"⟩, 9), (⟨"MacroPress$Expander", "putRomanDigit", "(II)V"⟩, 9), (⟨"MacroPress$Expander", "holds", "(I)Z"⟩, 9), (⟨"MacroPress$Expander", "characterOf", "(I)I"⟩, 9), (⟨"MacroPress$Expander", "categoryOf", "(I)I"⟩, 9), (⟨"MacroPress$Expander", "meansSame", "(II)Z"⟩, 9), (⟨"MacroPress$Performer", "performCharacter", "(II)V"⟩, 7), (⟨"MacroPress$Store", "bringBack", "()V"⟩, 10), (⟨"MacroPress$Performer", "emit", "(I)V"⟩, 7), (⟨"MacroPress$Performer", "performPrimitive", "(I)I"⟩, 7), (⟨"MacroPress$Performer", "prefixed", "()I"⟩, 7)]
theorem lw_r2 : ∀ q ∈ lw_privs_2, lw_okq q := List.forall_mem_cons.mpr ⟨lw_p16, List.forall_mem_cons.mpr ⟨lw_p17, List.forall_mem_cons.mpr ⟨lw_p18, List.forall_mem_cons.mpr ⟨lw_p19, List.forall_mem_cons.mpr ⟨lw_p20, List.forall_mem_cons.mpr ⟨lw_p21, List.forall_mem_cons.mpr ⟨lw_p22, List.forall_mem_cons.mpr ⟨lw_p23, List.forall_mem_cons.mpr ⟨lw_p24, List.forall_mem_cons.mpr ⟨lw_p25, List.forall_mem_cons.mpr ⟨lw_p26, List.forall_mem_cons.mpr ⟨lw_p27, List.forall_mem_cons.mpr ⟨lw_p28, List.forall_mem_cons.mpr ⟨lw_p29, List.forall_mem_cons.mpr ⟨lw_p30, List.forall_mem_cons.mpr ⟨lw_p31, fun _ h => absurd h List.not_mem_nil⟩⟩⟩⟩⟩⟩⟩⟩⟩⟩⟩⟩⟩⟩⟩⟩
theorem lw_p32 : lw_okq (⟨"MacroPress$Performer", "define", "(ZZ)V"⟩, 7) := ⟨⟨by decide +kernel, by decide +kernel⟩, List.mem_of_getElem? (i := 360) (by decide +kernel), List.mem_of_getElem? (i := 879) (by decide +kernel), List.mem_of_getElem? (i := 880) (by decide +kernel)⟩
theorem lw_p33 : lw_okq (⟨"MacroPress$Performer", "target", "()I"⟩, 7) := ⟨⟨by decide +kernel, by decide +kernel⟩, List.mem_of_getElem? (i := 360) (by decide +kernel), List.mem_of_getElem? (i := 883) (by decide +kernel), List.mem_of_getElem? (i := 884) (by decide +kernel)⟩
theorem lw_p34 : lw_okq (⟨"MacroPress$Performer", "defineParameters", "()I"⟩, 7) := ⟨⟨by decide +kernel, by decide +kernel⟩, List.mem_of_getElem? (i := 360) (by decide +kernel), List.mem_of_getElem? (i := 894) (by decide +kernel), List.mem_of_getElem? (i := 895) (by decide +kernel)⟩
theorem lw_p35 : lw_okq (⟨"MacroPress$Performer", "placeOrSign", "(II)I"⟩, 7) := ⟨⟨by decide +kernel, by decide +kernel⟩, List.mem_of_getElem? (i := 360) (by decide +kernel), List.mem_of_getElem? (i := 912) (by decide +kernel), List.mem_of_getElem? (i := 913) (by decide +kernel)⟩
theorem lw_p36 : lw_okq (⟨"MacroPress$Performer", "letToken", "()I"⟩, 7) := ⟨⟨by decide +kernel, by decide +kernel⟩, List.mem_of_getElem? (i := 360) (by decide +kernel), List.mem_of_getElem? (i := 922) (by decide +kernel), List.mem_of_getElem? (i := 923) (by decide +kernel)⟩
theorem lw_p37 : lw_okq (⟨"MacroPress$Performer", "dropEquals", "()V"⟩, 7) := ⟨⟨by decide +kernel, by decide +kernel⟩, List.mem_of_getElem? (i := 360) (by decide +kernel), List.mem_of_getElem? (i := 926) (by decide +kernel), List.mem_of_getElem? (i := 927) (by decide +kernel)⟩
theorem lw_p38 : lw_okq (⟨"MacroPress$Performer", "counter", "()I"⟩, 7) := ⟨⟨by decide +kernel, by decide +kernel⟩, List.mem_of_getElem? (i := 360) (by decide +kernel), List.mem_of_getElem? (i := 933) (by decide +kernel), List.mem_of_getElem? (i := 934) (by decide +kernel)⟩
theorem lw_p39 : lw_okq (⟨"MacroPress$Performer", "dropBy", "()V"⟩, 7) := ⟨⟨by decide +kernel, by decide +kernel⟩, List.mem_of_getElem? (i := 360) (by decide +kernel), List.mem_of_getElem? (i := 937) (by decide +kernel), List.mem_of_getElem? (i := 938) (by decide +kernel)⟩
theorem lw_p40 : lw_okq (⟨"MacroPress$Performer", "result", "(IJJ)I"⟩, 7) := ⟨⟨by decide +kernel, by decide +kernel⟩, List.mem_of_getElem? (i := 360) (by decide +kernel), List.mem_of_getElem? (i := 945) (by decide +kernel), List.mem_of_getElem? (i := 946) (by decide +kernel)⟩
theorem lw_p41 : lw_okq (⟨"MacroPressModel", "clear", "()V"⟩, 41) := ⟨⟨by decide +kernel, by decide +kernel⟩, List.mem_of_getElem? (i := 988) (by decide +kernel), List.mem_of_getElem? (i := 997) (by decide +kernel), List.mem_of_getElem? (i := 998) (by decide +kernel)⟩
theorem lw_p42 : lw_okq (⟨"MacroPressModel", "primitives", "(Ljava/lang/String;)V"⟩, 41) := ⟨⟨by decide +kernel, by decide +kernel⟩, List.mem_of_getElem? (i := 988) (by decide +kernel), List.mem_of_getElem? (i := 1002) (by decide +kernel), List.mem_of_getElem? (i := 1003) (by decide +kernel)⟩
theorem lw_p43 : lw_okq (⟨"MacroPressModel", "addName", "()I"⟩, 41) := ⟨⟨by decide +kernel, by decide +kernel⟩, List.mem_of_getElem? (i := 988) (by decide +kernel), List.mem_of_getElem? (i := 1008) (by decide +kernel), List.mem_of_getElem? (i := 1009) (by decide +kernel)⟩
theorem lw_p44 : lw_okq (⟨"MacroPressModel", "getExpanded", "()I"⟩, 41) := ⟨⟨by decide +kernel, by decide +kernel⟩, List.mem_of_getElem? (i := 988) (by decide +kernel), List.mem_of_getElem? (i := 1148) (by decide +kernel), List.mem_of_getElem? (i := 1149) (by decide +kernel)⟩
theorem lw_p45 : lw_okq (⟨"MacroPressModel", "get", "()I"⟩, 41) := ⟨⟨by decide +kernel, by decide +kernel⟩, List.mem_of_getElem? (i := 988) (by decide +kernel), List.mem_of_getElem? (i := 1152) (by decide +kernel), List.mem_of_getElem? (i := 1153) (by decide +kernel)⟩
theorem lw_p46 : lw_okq (⟨"MacroPressModel", "read", "()I"⟩, 41) := ⟨⟨by decide +kernel, by decide +kernel⟩, List.mem_of_getElem? (i := 988) (by decide +kernel), List.mem_of_getElem? (i := 1156) (by decide +kernel), List.mem_of_getElem? (i := 1157) (by decide +kernel)⟩
theorem lw_p47 : lw_okq (⟨"MacroPressModel", "beginLine", "()Z"⟩, 41) := ⟨⟨by decide +kernel, by decide +kernel⟩, List.mem_of_getElem? (i := 988) (by decide +kernel), List.mem_of_getElem? (i := 1160) (by decide +kernel), List.mem_of_getElem? (i := 1161) (by decide +kernel)⟩
def lw_privs_3 : List (MethodName × Nat) := [(⟨"MacroPress$Performer", "define", "(ZZ)V"⟩, 7), (⟨"MacroPress$Performer", "target", "()I"⟩, 7), (⟨"MacroPress$Performer", "defineParameters", "()I"⟩, 7), (⟨"MacroPress$Performer", "placeOrSign", "(II)I"⟩, 7), (⟨"MacroPress$Performer", "letToken", "()I"⟩, 7), (⟨"MacroPress$Performer", "dropEquals", "()V"⟩, 7), (⟨"MacroPress$Performer", "counter", "()I"⟩, 7), (⟨"MacroPress$Performer", "dropBy", "()V"⟩, 7), (⟨"MacroPress$Performer", "result", "(IJJ)I"⟩, 7), (⟨"MacroPressModel", "clear", "()V"⟩, 41), (⟨"MacroPressModel", "primitives", "(Ljava/lang/String;)V"⟩, 41), (⟨"MacroPressModel", "addName", "()I"⟩, 41), (⟨"MacroPressModel", "getExpanded", "()I"⟩, 41), (⟨"MacroPressModel", "get", "()I"⟩, 41), (⟨"MacroPressModel", "read", "()I"⟩, 41), (⟨"MacroPressModel", "beginLine", "()Z"⟩, 41)]
theorem lw_r3 : ∀ q ∈ lw_privs_3, lw_okq q := List.forall_mem_cons.mpr ⟨lw_p32, List.forall_mem_cons.mpr ⟨lw_p33, List.forall_mem_cons.mpr ⟨lw_p34, List.forall_mem_cons.mpr ⟨lw_p35, List.forall_mem_cons.mpr ⟨lw_p36, List.forall_mem_cons.mpr ⟨lw_p37, List.forall_mem_cons.mpr ⟨lw_p38, List.forall_mem_cons.mpr ⟨lw_p39, List.forall_mem_cons.mpr ⟨lw_p40, List.forall_mem_cons.mpr ⟨lw_p41, List.forall_mem_cons.mpr ⟨lw_p42, List.forall_mem_cons.mpr ⟨lw_p43, List.forall_mem_cons.mpr ⟨lw_p44, List.forall_mem_cons.mpr ⟨lw_p45, List.forall_mem_cons.mpr ⟨lw_p46, List.forall_mem_cons.mpr ⟨lw_p47, fun _ h => absurd h List.not_mem_nil⟩⟩⟩⟩⟩⟩⟩⟩⟩⟩⟩⟩⟩⟩⟩⟩
theorem lw_p48 : lw_okq (⟨"MacroPressModel", "category", "(I)I"⟩, 41) := ⟨⟨by decide +kernel, by decide +kernel⟩, List.mem_of_getElem? (i := 988) (by decide +kernel), List.mem_of_getElem? (i := 1164) (by decide +kernel), List.mem_of_getElem? (i := 1165) (by decide +kernel)⟩
theorem lw_p49 : lw_okq (⟨"MacroPressModel", "readName", "()I"⟩, 41) := ⟨⟨by decide +kernel, by decide +kernel⟩, List.mem_of_getElem? (i := 988) (by decide +kernel), List.mem_of_getElem? (i := 1168) (by decide +kernel), List.mem_of_getElem? (i := 1169) (by decide +kernel)⟩
theorem lw_p50 : lw_okq (⟨"MacroPressModel", "spell", "(I)V"⟩, 41) := ⟨⟨by decide +kernel, by decide +kernel⟩, List.mem_of_getElem? (i := 988) (by decide +kernel), List.mem_of_getElem? (i := 1172) (by decide +kernel), List.mem_of_getElem? (i := 1173) (by decide +kernel)⟩
theorem lw_p51 : lw_okq (⟨"MacroPressModel", "fail", "(I)V"⟩, 41) := ⟨⟨by decide +kernel, by decide +kernel⟩, List.mem_of_getElem? (i := 988) (by decide +kernel), List.mem_of_getElem? (i := 1176) (by decide +kernel), List.mem_of_getElem? (i := 1177) (by decide +kernel)⟩
theorem lw_p52 : lw_okq (⟨"MacroPressModel", "nameToken", "()I"⟩, 41) := ⟨⟨by decide +kernel, by decide +kernel⟩, List.mem_of_getElem? (i := 988) (by decide +kernel), List.mem_of_getElem? (i := 1180) (by decide +kernel), List.mem_of_getElem? (i := 1181) (by decide +kernel)⟩
theorem lw_p53 : lw_okq (⟨"MacroPressModel", "isExpandable", "(I)Z"⟩, 41) := ⟨⟨by decide +kernel, by decide +kernel⟩, List.mem_of_getElem? (i := 988) (by decide +kernel), List.mem_of_getElem? (i := 1187) (by decide +kernel), List.mem_of_getElem? (i := 1188) (by decide +kernel)⟩
theorem lw_p54 : lw_okq (⟨"MacroPressModel", "meaning", "(I)I"⟩, 41) := ⟨⟨by decide +kernel, by decide +kernel⟩, List.mem_of_getElem? (i := 988) (by decide +kernel), List.mem_of_getElem? (i := 1198) (by decide +kernel), List.mem_of_getElem? (i := 1199) (by decide +kernel)⟩
theorem lw_p55 : lw_okq (⟨"MacroPressModel", "idOf", "(I)I"⟩, 41) := ⟨⟨by decide +kernel, by decide +kernel⟩, List.mem_of_getElem? (i := 988) (by decide +kernel), List.mem_of_getElem? (i := 1203) (by decide +kernel), List.mem_of_getElem? (i := 1204) (by decide +kernel)⟩
theorem lw_p56 : lw_okq (⟨"MacroPressModel", "expand", "(I)V"⟩, 41) := ⟨⟨by decide +kernel, by decide +kernel⟩, List.mem_of_getElem? (i := 988) (by decide +kernel), List.mem_of_getElem? (i := 1211) (by decide +kernel), List.mem_of_getElem? (i := 1212) (by decide +kernel)⟩
theorem lw_p57 : lw_okq (⟨"MacroPressModel", "tick", "()V"⟩, 41) := ⟨⟨by decide +kernel, by decide +kernel⟩, List.mem_of_getElem? (i := 988) (by decide +kernel), List.mem_of_getElem? (i := 1215) (by decide +kernel), List.mem_of_getElem? (i := 1216) (by decide +kernel)⟩
theorem lw_p58 : lw_okq (⟨"MacroPressModel", "call", "(I)V"⟩, 41) := ⟨⟨by decide +kernel, by decide +kernel⟩, List.mem_of_getElem? (i := 988) (by decide +kernel), List.mem_of_getElem? (i := 1219) (by decide +kernel), List.mem_of_getElem? (i := 1220) (by decide +kernel)⟩
theorem lw_p59 : lw_okq (⟨"MacroPressModel", "need", "()I"⟩, 41) := ⟨⟨by decide +kernel, by decide +kernel⟩, List.mem_of_getElem? (i := 988) (by decide +kernel), List.mem_of_getElem? (i := 1224) (by decide +kernel), List.mem_of_getElem? (i := 1225) (by decide +kernel)⟩
theorem lw_p60 : lw_okq (⟨"MacroPressModel", "isSame", "(II)Z"⟩, 41) := ⟨⟨by decide +kernel, by decide +kernel⟩, List.mem_of_getElem? (i := 988) (by decide +kernel), List.mem_of_getElem? (i := 1228) (by decide +kernel), List.mem_of_getElem? (i := 1229) (by decide +kernel)⟩
theorem lw_p61 : lw_okq (⟨"MacroPressModel", "takeOne", "(I)V"⟩, 41) := ⟨⟨by decide +kernel, by decide +kernel⟩, List.mem_of_getElem? (i := 988) (by decide +kernel), List.mem_of_getElem? (i := 1232) (by decide +kernel), List.mem_of_getElem? (i := 1233) (by decide +kernel)⟩
theorem lw_p62 : lw_okq (⟨"MacroPressModel", "takeUpTo", "(III)V"⟩, 41) := ⟨⟨by decide +kernel, by decide +kernel⟩, List.mem_of_getElem? (i := 988) (by decide +kernel), List.mem_of_getElem? (i := 1239) (by decide +kernel), List.mem_of_getElem? (i := 1240) (by decide +kernel)⟩
theorem lw_p63 : lw_okq (⟨"MacroPressModel", "bareOf", "(I)V"⟩, 41) := ⟨⟨by decide +kernel, by decide +kernel⟩, List.mem_of_getElem? (i := 988) (by decide +kernel), List.mem_of_getElem? (i := 1243) (by decide +kernel), List.mem_of_getElem? (i := 1244) (by decide +kernel)⟩
def lw_privs_4 : List (MethodName × Nat) := [(⟨"MacroPressModel", "category", "(I)I"⟩, 41), (⟨"MacroPressModel", "readName", "()I"⟩, 41), (⟨"MacroPressModel", "spell", "(I)V"⟩, 41), (⟨"MacroPressModel", "fail", "(I)V"⟩, 41), (⟨"MacroPressModel", "nameToken", "()I"⟩, 41), (⟨"MacroPressModel", "isExpandable", "(I)Z"⟩, 41), (⟨"MacroPressModel", "meaning", "(I)I"⟩, 41), (⟨"MacroPressModel", "idOf", "(I)I"⟩, 41), (⟨"MacroPressModel", "expand", "(I)V"⟩, 41), (⟨"MacroPressModel", "tick", "()V"⟩, 41), (⟨"MacroPressModel", "call", "(I)V"⟩, 41), (⟨"MacroPressModel", "need", "()I"⟩, 41), (⟨"MacroPressModel", "isSame", "(II)Z"⟩, 41), (⟨"MacroPressModel", "takeOne", "(I)V"⟩, 41), (⟨"MacroPressModel", "takeUpTo", "(III)V"⟩, 41), (⟨"MacroPressModel", "bareOf", "(I)V"⟩, 41)]
theorem lw_r4 : ∀ q ∈ lw_privs_4, lw_okq q := List.forall_mem_cons.mpr ⟨lw_p48, List.forall_mem_cons.mpr ⟨lw_p49, List.forall_mem_cons.mpr ⟨lw_p50, List.forall_mem_cons.mpr ⟨lw_p51, List.forall_mem_cons.mpr ⟨lw_p52, List.forall_mem_cons.mpr ⟨lw_p53, List.forall_mem_cons.mpr ⟨lw_p54, List.forall_mem_cons.mpr ⟨lw_p55, List.forall_mem_cons.mpr ⟨lw_p56, List.forall_mem_cons.mpr ⟨lw_p57, List.forall_mem_cons.mpr ⟨lw_p58, List.forall_mem_cons.mpr ⟨lw_p59, List.forall_mem_cons.mpr ⟨lw_p60, List.forall_mem_cons.mpr ⟨lw_p61, List.forall_mem_cons.mpr ⟨lw_p62, List.forall_mem_cons.mpr ⟨lw_p63, fun _ h => absurd h List.not_mem_nil⟩⟩⟩⟩⟩⟩⟩⟩⟩⟩⟩⟩⟩⟩⟩⟩
theorem lw_p64 : lw_okq (⟨"MacroPressModel", "putOfBody", "(I)V"⟩, 41) := ⟨⟨by decide +kernel, by decide +kernel⟩, List.mem_of_getElem? (i := 988) (by decide +kernel), List.mem_of_getElem? (i := 1247) (by decide +kernel), List.mem_of_getElem? (i := 1248) (by decide +kernel)⟩
theorem lw_p65 : lw_okq (⟨"MacroPressModel", "put", "(I)V"⟩, 41) := ⟨⟨by decide +kernel, by decide +kernel⟩, List.mem_of_getElem? (i := 988) (by decide +kernel), List.mem_of_getElem? (i := 1251) (by decide +kernel), List.mem_of_getElem? (i := 1252) (by decide +kernel)⟩
theorem lw_p66 : lw_okq (⟨"MacroPressModel", "primitive", "(II)V"⟩, 41) := ⟨⟨by decide +kernel, by decide +kernel⟩, List.mem_of_getElem? (i := 988) (by decide +kernel), List.mem_of_getElem? (i := 1255) (by decide +kernel), List.mem_of_getElem? (i := 1256) (by decide +kernel)⟩
theorem lw_p67 : lw_okq (⟨"MacroPressModel", "makeName", "()V"⟩, 41) := ⟨⟨by decide +kernel, by decide +kernel⟩, List.mem_of_getElem? (i := 988) (by decide +kernel), List.mem_of_getElem? (i := 1259) (by decide +kernel), List.mem_of_getElem? (i := 1260) (by decide +kernel)⟩
theorem lw_p68 : lw_okq (⟨"MacroPressModel", "needExpanded", "()I"⟩, 41) := ⟨⟨by decide +kernel, by decide +kernel⟩, List.mem_of_getElem? (i := 988) (by decide +kernel), List.mem_of_getElem? (i := 1263) (by decide +kernel), List.mem_of_getElem? (i := 1264) (by decide +kernel)⟩
theorem lw_p69 : lw_okq (⟨"MacroPressModel", "means", "(II)Z"⟩, 41) := ⟨⟨by decide +kernel, by decide +kernel⟩, List.mem_of_getElem? (i := 988) (by decide +kernel), List.mem_of_getElem? (i := 1267) (by decide +kernel), List.mem_of_getElem? (i := 1268) (by decide +kernel)⟩
theorem lw_p70 : lw_okq (⟨"MacroPressModel", "mean", "(IIZ)V"⟩, 41) := ⟨⟨by decide +kernel, by decide +kernel⟩, List.mem_of_getElem? (i := 988) (by decide +kernel), List.mem_of_getElem? (i := 1271) (by decide +kernel), List.mem_of_getElem? (i := 1272) (by decide +kernel)⟩
theorem lw_p71 : lw_okq (⟨"MacroPressModel", "spellOut", "(I)V"⟩, 41) := ⟨⟨by decide +kernel, by decide +kernel⟩, List.mem_of_getElem? (i := 988) (by decide +kernel), List.mem_of_getElem? (i := 1275) (by decide +kernel), List.mem_of_getElem? (i := 1276) (by decide +kernel)⟩
theorem lw_p72 : lw_okq (⟨"MacroPressModel", "putOther", "(I)V"⟩, 41) := ⟨⟨by decide +kernel, by decide +kernel⟩, List.mem_of_getElem? (i := 988) (by decide +kernel), List.mem_of_getElem? (i := 1279) (by decide +kernel), List.mem_of_getElem? (i := 1280) (by decide +kernel)⟩
theorem lw_p73 : lw_okq (⟨"MacroPressModel", "number", "()I"⟩, 41) := ⟨⟨by decide +kernel, by decide +kernel⟩, List.mem_of_getElem? (i := 988) (by decide +kernel), List.mem_of_getElem? (i := 1283) (by decide +kernel), List.mem_of_getElem? (i := 1284) (by decide +kernel)⟩
theorem lw_p74 : lw_okq (⟨"MacroPressModel", "primary", "()I"⟩, 41) := ⟨⟨by decide +kernel, by decide +kernel⟩, List.mem_of_getElem? (i := 988) (by decide +kernel), List.mem_of_getElem? (i := 1287) (by decide +kernel), List.mem_of_getElem? (i := 1288) (by decide +kernel)⟩
theorem lw_p75 : lw_okq (⟨"MacroPressModel", "digits", "(I)I"⟩, 41) := ⟨⟨by decide +kernel, by decide +kernel⟩, List.mem_of_getElem? (i := 988) (by decide +kernel), List.mem_of_getElem? (i := 1297) (by decide +kernel), List.mem_of_getElem? (i := 1298) (by decide +kernel)⟩
theorem lw_p76 : lw_okq (⟨"MacroPressModel", "quoted", "()I"⟩, 41) := ⟨⟨by decide +kernel, by decide +kernel⟩, List.mem_of_getElem? (i := 988) (by decide +kernel), List.mem_of_getElem? (i := 1304) (by decide +kernel), List.mem_of_getElem? (i := 1305) (by decide +kernel)⟩
theorem lw_p77 : lw_okq (⟨"MacroPressModel", "dropSpace", "()V"⟩, 41) := ⟨⟨by decide +kernel, by decide +kernel⟩, List.mem_of_getElem? (i := 988) (by decide +kernel), List.mem_of_getElem? (i := 1308) (by decide +kernel), List.mem_of_getElem? (i := 1309) (by decide +kernel)⟩
theorem lw_p78 : lw_okq (⟨"MacroPressModel", "hasValue", "(I)Z"⟩, 41) := ⟨⟨by decide +kernel, by decide +kernel⟩, List.mem_of_getElem? (i := 988) (by decide +kernel), List.mem_of_getElem? (i := 1312) (by decide +kernel), List.mem_of_getElem? (i := 1313) (by decide +kernel)⟩
theorem lw_p79 : lw_okq (⟨"MacroPressModel", "value", "(I)I"⟩, 41) := ⟨⟨by decide +kernel, by decide +kernel⟩, List.mem_of_getElem? (i := 988) (by decide +kernel), List.mem_of_getElem? (i := 1317) (by decide +kernel), List.mem_of_getElem? (i := 1318) (by decide +kernel)⟩
def lw_privs_5 : List (MethodName × Nat) := [(⟨"MacroPressModel", "putOfBody", "(I)V"⟩, 41), (⟨"MacroPressModel", "put", "(I)V"⟩, 41), (⟨"MacroPressModel", "primitive", "(II)V"⟩, 41), (⟨"MacroPressModel", "makeName", "()V"⟩, 41), (⟨"MacroPressModel", "needExpanded", "()I"⟩, 41), (⟨"MacroPressModel", "means", "(II)Z"⟩, 41), (⟨"MacroPressModel", "mean", "(IIZ)V"⟩, 41), (⟨"MacroPressModel", "spellOut", "(I)V"⟩, 41), (⟨"MacroPressModel", "putOther", "(I)V"⟩, 41), (⟨"MacroPressModel", "number", "()I"⟩, 41), (⟨"MacroPressModel", "primary", "()I"⟩, 41), (⟨"MacroPressModel", "digits", "(I)I"⟩, 41), (⟨"MacroPressModel", "quoted", "()I"⟩, 41), (⟨"MacroPressModel", "dropSpace", "()V"⟩, 41), (⟨"MacroPressModel", "hasValue", "(I)Z"⟩, 41), (⟨"MacroPressModel", "value", "(I)I"⟩, 41)]
theorem lw_r5 : ∀ q ∈ lw_privs_5, lw_okq q := List.forall_mem_cons.mpr ⟨lw_p64, List.forall_mem_cons.mpr ⟨lw_p65, List.forall_mem_cons.mpr ⟨lw_p66, List.forall_mem_cons.mpr ⟨lw_p67, List.forall_mem_cons.mpr ⟨lw_p68, List.forall_mem_cons.mpr ⟨lw_p69, List.forall_mem_cons.mpr ⟨lw_p70, List.forall_mem_cons.mpr ⟨lw_p71, List.forall_mem_cons.mpr ⟨lw_p72, List.forall_mem_cons.mpr ⟨lw_p73, List.forall_mem_cons.mpr ⟨lw_p74, List.forall_mem_cons.mpr ⟨lw_p75, List.forall_mem_cons.mpr ⟨lw_p76, List.forall_mem_cons.mpr ⟨lw_p77, List.forall_mem_cons.mpr ⟨lw_p78, List.forall_mem_cons.mpr ⟨lw_p79, fun _ h => absurd h List.not_mem_nil⟩⟩⟩⟩⟩⟩⟩⟩⟩⟩⟩⟩⟩⟩⟩⟩
theorem lw_p80 : lw_okq (⟨"MacroPressModel", "small", "(I)I"⟩, 41) := ⟨⟨by decide +kernel, by decide +kernel⟩, List.mem_of_getElem? (i := 988) (by decide +kernel), List.mem_of_getElem? (i := 1321) (by decide +kernel), List.mem_of_getElem? (i := 1322) (by decide +kernel)⟩
theorem lw_p81 : lw_okq (⟨"MacroPressModel", "putDigits", "(I)V"⟩, 41) := ⟨⟨by decide +kernel, by decide +kernel⟩, List.mem_of_getElem? (i := 988) (by decide +kernel), List.mem_of_getElem? (i := 1325) (by decide +kernel), List.mem_of_getElem? (i := 1326) (by decide +kernel)⟩
theorem lw_p82 : lw_okq (⟨"MacroPressModel", "roman", "(I)V"⟩, 41) := ⟨⟨by decide +kernel, by decide +kernel⟩, List.mem_of_getElem? (i := 988) (by decide +kernel), List.mem_of_getElem? (i := 1329) (by decide +kernel), List.mem_of_getElem? (i := 1330) (by decide +kernel)⟩
theorem lw_p83 : lw_okq (⟨"MacroPressModel", "romanDigit", "(IIII)V"⟩, 41) := ⟨⟨by decide +kernel, by decide +kernel⟩, List.mem_of_getElem? (i := 988) (by decide +kernel), List.mem_of_getElem? (i := 1333) (by decide +kernel), List.mem_of_getElem? (i := 1334) (by decide +kernel)⟩
theorem lw_p84 : lw_okq (⟨"MacroPressModel", "branch", "(II)V"⟩, 41) := ⟨⟨by decide +kernel, by decide +kernel⟩, List.mem_of_getElem? (i := 988) (by decide +kernel), List.mem_of_getElem? (i := 1337) (by decide +kernel), List.mem_of_getElem? (i := 1338) (by decide +kernel)⟩
theorem lw_p85 : lw_okq (⟨"MacroPressModel", "isCondition", "(I)Z"⟩, 41) := ⟨⟨by decide +kernel, by decide +kernel⟩, List.mem_of_getElem? (i := 988) (by decide +kernel), List.mem_of_getElem? (i := 1342) (by decide +kernel), List.mem_of_getElem? (i := 1343) (by decide +kernel)⟩
theorem lw_p86 : lw_okq (⟨"MacroPressModel", "condition", "(I)V"⟩, 41) := ⟨⟨by decide +kernel, by decide +kernel⟩, List.mem_of_getElem? (i := 988) (by decide +kernel), List.mem_of_getElem? (i := 1346) (by decide +kernel), List.mem_of_getElem? (i := 1347) (by decide +kernel)⟩
theorem lw_p87 : lw_okq (⟨"MacroPressModel", "shape", "(IZ)I"⟩, 41) := ⟨⟨by decide +kernel, by decide +kernel⟩, List.mem_of_getElem? (i := 988) (by decide +kernel), List.mem_of_getElem? (i := 1350) (by decide +kernel), List.mem_of_getElem? (i := 1351) (by decide +kernel)⟩
theorem lw_p88 : lw_okq (⟨"MacroPressModel", "meanSame", "(II)Z"⟩, 41) := ⟨⟨by decide +kernel, by decide +kernel⟩, List.mem_of_getElem? (i := 988) (by decide +kernel), List.mem_of_getElem? (i := 1354) (by decide +kernel), List.mem_of_getElem? (i := 1355) (by decide +kernel)⟩
theorem lw_p89 : lw_okq (⟨"MacroPressModel", "compare", "()Z"⟩, 41) := ⟨⟨by decide +kernel, by decide +kernel⟩, List.mem_of_getElem? (i := 988) (by decide +kernel), List.mem_of_getElem? (i := 1358) (by decide +kernel), List.mem_of_getElem? (i := 1359) (by decide +kernel)⟩
theorem lw_p90 : lw_okq (⟨"MacroPressModel", "needExpandedNoSpace", "()I"⟩, 41) := ⟨⟨by decide +kernel, by decide +kernel⟩, List.mem_of_getElem? (i := 988) (by decide +kernel), List.mem_of_getElem? (i := 1362) (by decide +kernel), List.mem_of_getElem? (i := 1363) (by decide +kernel)⟩
theorem lw_p91 : lw_okq (⟨"MacroPressModel", "drop", "(II)V"⟩, 41) := ⟨⟨by decide +kernel, by decide +kernel⟩, List.mem_of_getElem? (i := 988) (by decide +kernel), List.mem_of_getElem? (i := 1366) (by decide +kernel), List.mem_of_getElem? (i := 1367) (by decide +kernel)⟩
theorem lw_p92 : lw_okq (⟨"MacroPressModel", "done", "(I)V"⟩, 41) := ⟨⟨by decide +kernel, by decide +kernel⟩, List.mem_of_getElem? (i := 988) (by decide +kernel), List.mem_of_getElem? (i := 1370) (by decide +kernel), List.mem_of_getElem? (i := 1371) (by decide +kernel)⟩
theorem lw_p93 : lw_okq (⟨"MacroPressModel", "write", "(I)V"⟩, 41) := ⟨⟨by decide +kernel, by decide +kernel⟩, List.mem_of_getElem? (i := 988) (by decide +kernel), List.mem_of_getElem? (i := 1374) (by decide +kernel), List.mem_of_getElem? (i := 1375) (by decide +kernel)⟩
theorem lw_p94 : lw_okq (⟨"MacroPressModel", "doCharacter", "(I)V"⟩, 41) := ⟨⟨by decide +kernel, by decide +kernel⟩, List.mem_of_getElem? (i := 988) (by decide +kernel), List.mem_of_getElem? (i := 1378) (by decide +kernel), List.mem_of_getElem? (i := 1379) (by decide +kernel)⟩
theorem lw_p95 : lw_okq (⟨"MacroPressModel", "openGroup", "(Z)V"⟩, 41) := ⟨⟨by decide +kernel, by decide +kernel⟩, List.mem_of_getElem? (i := 988) (by decide +kernel), List.mem_of_getElem? (i := 1382) (by decide +kernel), List.mem_of_getElem? (i := 1383) (by decide +kernel)⟩
def lw_privs_6 : List (MethodName × Nat) := [(⟨"MacroPressModel", "small", "(I)I"⟩, 41), (⟨"MacroPressModel", "putDigits", "(I)V"⟩, 41), (⟨"MacroPressModel", "roman", "(I)V"⟩, 41), (⟨"MacroPressModel", "romanDigit", "(IIII)V"⟩, 41), (⟨"MacroPressModel", "branch", "(II)V"⟩, 41), (⟨"MacroPressModel", "isCondition", "(I)Z"⟩, 41), (⟨"MacroPressModel", "condition", "(I)V"⟩, 41), (⟨"MacroPressModel", "shape", "(IZ)I"⟩, 41), (⟨"MacroPressModel", "meanSame", "(II)Z"⟩, 41), (⟨"MacroPressModel", "compare", "()Z"⟩, 41), (⟨"MacroPressModel", "needExpandedNoSpace", "()I"⟩, 41), (⟨"MacroPressModel", "drop", "(II)V"⟩, 41), (⟨"MacroPressModel", "done", "(I)V"⟩, 41), (⟨"MacroPressModel", "write", "(I)V"⟩, 41), (⟨"MacroPressModel", "doCharacter", "(I)V"⟩, 41), (⟨"MacroPressModel", "openGroup", "(Z)V"⟩, 41)]
theorem lw_r6 : ∀ q ∈ lw_privs_6, lw_okq q := List.forall_mem_cons.mpr ⟨lw_p80, List.forall_mem_cons.mpr ⟨lw_p81, List.forall_mem_cons.mpr ⟨lw_p82, List.forall_mem_cons.mpr ⟨lw_p83, List.forall_mem_cons.mpr ⟨lw_p84, List.forall_mem_cons.mpr ⟨lw_p85, List.forall_mem_cons.mpr ⟨lw_p86, List.forall_mem_cons.mpr ⟨lw_p87, List.forall_mem_cons.mpr ⟨lw_p88, List.forall_mem_cons.mpr ⟨lw_p89, List.forall_mem_cons.mpr ⟨lw_p90, List.forall_mem_cons.mpr ⟨lw_p91, List.forall_mem_cons.mpr ⟨lw_p92, List.forall_mem_cons.mpr ⟨lw_p93, List.forall_mem_cons.mpr ⟨lw_p94, List.forall_mem_cons.mpr ⟨lw_p95, fun _ h => absurd h List.not_mem_nil⟩⟩⟩⟩⟩⟩⟩⟩⟩⟩⟩⟩⟩⟩⟩⟩
theorem lw_p96 : lw_okq (⟨"MacroPressModel", "closeGroup", "(Z)V"⟩, 41) := ⟨⟨by decide +kernel, by decide +kernel⟩, List.mem_of_getElem? (i := 988) (by decide +kernel), List.mem_of_getElem? (i := 1386) (by decide +kernel), List.mem_of_getElem? (i := 1387) (by decide +kernel)⟩
theorem lw_p97 : lw_okq (⟨"MacroPressModel", "doPrimitive", "(IZ)V"⟩, 41) := ⟨⟨by decide +kernel, by decide +kernel⟩, List.mem_of_getElem? (i := 988) (by decide +kernel), List.mem_of_getElem? (i := 1390) (by decide +kernel), List.mem_of_getElem? (i := 1391) (by decide +kernel)⟩
theorem lw_p98 : lw_okq (⟨"MacroPressModel", "define", "(ZZ)V"⟩, 41) := ⟨⟨by decide +kernel, by decide +kernel⟩, List.mem_of_getElem? (i := 988) (by decide +kernel), List.mem_of_getElem? (i := 1394) (by decide +kernel), List.mem_of_getElem? (i := 1395) (by decide +kernel)⟩
theorem lw_p99 : lw_okq (⟨"MacroPressModel", "target", "()I"⟩, 41) := ⟨⟨by decide +kernel, by decide +kernel⟩, List.mem_of_getElem? (i := 988) (by decide +kernel), List.mem_of_getElem? (i := 1398) (by decide +kernel), List.mem_of_getElem? (i := 1399) (by decide +kernel)⟩
theorem lw_p100 : lw_okq (⟨"MacroPressModel", "keep", "(I)V"⟩, 41) := ⟨⟨by decide +kernel, by decide +kernel⟩, List.mem_of_getElem? (i := 988) (by decide +kernel), List.mem_of_getElem? (i := 1402) (by decide +kernel), List.mem_of_getElem? (i := 1403) (by decide +kernel)⟩
theorem lw_p101 : lw_okq (⟨"MacroPressModel", "let", "(Z)V"⟩, 41) := ⟨⟨by decide +kernel, by decide +kernel⟩, List.mem_of_getElem? (i := 988) (by decide +kernel), List.mem_of_getElem? (i := 1406) (by decide +kernel), List.mem_of_getElem? (i := 1407) (by decide +kernel)⟩
theorem lw_p102 : lw_okq (⟨"MacroPressModel", "equals", "()V"⟩, 41) := ⟨⟨by decide +kernel, by decide +kernel⟩, List.mem_of_getElem? (i := 988) (by decide +kernel), List.mem_of_getElem? (i := 1410) (by decide +kernel), List.mem_of_getElem? (i := 1411) (by decide +kernel)⟩
theorem lw_p103 : lw_okq (⟨"MacroPressModel", "setAt", "([IIIZ)V"⟩, 41) := ⟨⟨by decide +kernel, by decide +kernel⟩, List.mem_of_getElem? (i := 988) (by decide +kernel), List.mem_of_getElem? (i := 1414) (by decide +kernel), List.mem_of_getElem? (i := 1415) (by decide +kernel)⟩
theorem lw_p104 : lw_okq (⟨"MacroPressModel", "prefixed", "()V"⟩, 41) := ⟨⟨by decide +kernel, by decide +kernel⟩, List.mem_of_getElem? (i := 988) (by decide +kernel), List.mem_of_getElem? (i := 1418) (by decide +kernel), List.mem_of_getElem? (i := 1419) (by decide +kernel)⟩
theorem lw_p105 : lw_okq (⟨"MacroPressModel", "reckon", "(IZ)V"⟩, 41) := ⟨⟨by decide +kernel, by decide +kernel⟩, List.mem_of_getElem? (i := 988) (by decide +kernel), List.mem_of_getElem? (i := 1422) (by decide +kernel), List.mem_of_getElem? (i := 1423) (by decide +kernel)⟩
theorem lw_p106 : lw_okq (⟨"MacroPressModel", "isLetter", "(II)Z"⟩, 41) := ⟨⟨by decide +kernel, by decide +kernel⟩, List.mem_of_getElem? (i := 988) (by decide +kernel), List.mem_of_getElem? (i := 1426) (by decide +kernel), List.mem_of_getElem? (i := 1427) (by decide +kernel)⟩
def lw_privs_7 : List (MethodName × Nat) := [(⟨"MacroPressModel", "closeGroup", "(Z)V"⟩, 41), (⟨"MacroPressModel", "doPrimitive", "(IZ)V"⟩, 41), (⟨"MacroPressModel", "define", "(ZZ)V"⟩, 41), (⟨"MacroPressModel", "target", "()I"⟩, 41), (⟨"MacroPressModel", "keep", "(I)V"⟩, 41), (⟨"MacroPressModel", "let", "(Z)V"⟩, 41), (⟨"MacroPressModel", "equals", "()V"⟩, 41), (⟨"MacroPressModel", "setAt", "([IIIZ)V"⟩, 41), (⟨"MacroPressModel", "prefixed", "()V"⟩, 41), (⟨"MacroPressModel", "reckon", "(IZ)V"⟩, 41), (⟨"MacroPressModel", "isLetter", "(II)Z"⟩, 41)]
theorem lw_r7 : ∀ q ∈ lw_privs_7, lw_okq q := List.forall_mem_cons.mpr ⟨lw_p96, List.forall_mem_cons.mpr ⟨lw_p97, List.forall_mem_cons.mpr ⟨lw_p98, List.forall_mem_cons.mpr ⟨lw_p99, List.forall_mem_cons.mpr ⟨lw_p100, List.forall_mem_cons.mpr ⟨lw_p101, List.forall_mem_cons.mpr ⟨lw_p102, List.forall_mem_cons.mpr ⟨lw_p103, List.forall_mem_cons.mpr ⟨lw_p104, List.forall_mem_cons.mpr ⟨lw_p105, List.forall_mem_cons.mpr ⟨lw_p106, fun _ h => absurd h List.not_mem_nil⟩⟩⟩⟩⟩⟩⟩⟩⟩⟩⟩
def lw_privs : List (MethodName × Nat) := lw_privs_1 ++ (lw_privs_2 ++ (lw_privs_3 ++ (lw_privs_4 ++ (lw_privs_5 ++ (lw_privs_6 ++ (lw_privs_7))))))
def lw_tbl : List Cond := k2_sels lw_privs ++ tables_1
theorem lw_privs_ok : ∀ q ∈ lw_privs, lw_okq q := by
  show ∀ q ∈ lw_privs_1 ++ (lw_privs_2 ++ (lw_privs_3 ++ (lw_privs_4 ++ (lw_privs_5 ++ (lw_privs_6 ++ (lw_privs_7)))))), lw_okq q
  exact List.forall_mem_append.mpr ⟨lw_r1, List.forall_mem_append.mpr ⟨lw_r2, List.forall_mem_append.mpr ⟨lw_r3, List.forall_mem_append.mpr ⟨lw_r4, List.forall_mem_append.mpr ⟨lw_r5, List.forall_mem_append.mpr ⟨lw_r6, lw_r7⟩⟩⟩⟩⟩⟩
-- ===== end of PART A; then your names; then what follows =====
end
section
/-! MINI MACHINE: a weakest-precondition reading of the bytecode over a small typed store. -/
/-- the store: kinds of the cells (k, n): k below 1000 an object of class k with n fields, 1000 + t an array of n elements; ints, longs, references by cell and place; cells and slots made so far -/
abbrev mj_S : Type := List (Nat × Nat) × (Nat → Nat → Int32) × (Nat → Nat → Int64) × (Nat → Nat → Option Nat) × Nat × Nat
/-- how a call ends: it returns (a value or none), or throws an exception of the class with this number -/
abbrev mj_O : Type := Option Value ⊕ Nat
abbrev mj_LV : Type := List (Option Value)
/-- pc, instruction, length, resolved numbers a b t, an int constant, a long constant, a switch's cases -/
abbrev mj_I : Type := Nat × Instr × Nat × (Nat × Nat × Nat) × Int32 × Int64 × List (Int32 × Nat)
abbrev mj_Q : Type := mj_O → mj_S → Prop
abbrev mj_N : Type := Nat → mj_LV → List Value → mj_S → mj_Q → Prop
abbrev mj_C : Type := Nat → List Value → mj_S → mj_Q → Prop
abbrev mj_K : Type := mj_LV → List Value → mj_S → Prop
/-- the script: its length and contents; the texts of the string constants; the most cells and slots -/
abbrev mj_X : Type := (Nat × (Nat → Int32)) × List (List Int32) × Nat × Nat
def mj_up {α : Type} (f : Nat → Nat → α) (a j : Nat) (v : α) : Nat → Nat → α := fun b k => if b = a then (if k = j then v else f b k) else f b k
def mj_row {α : Type} (f : Nat → Nat → α) (a : Nat) (g : Nat → α) : Nat → Nat → α := fun b k => if b = a then g k else f b k
/-- the object o is of class c and has a place b; the kind and length of the array o -/
def mj_ob (sh : List (Nat × Nat)) (o c b : Nat) : Bool := match sh[o]? with
  | some (k, n) => (k == c) && Nat.blt b n
  | none => false
def mj_ar (sh : List (Nat × Nat)) (o t : Nat) : Option Nat := match sh[o]? with
  | some (k, n) => if k = 1000 + t then some n else none
  | none => none
def mj_cmp (c : ClassFile.Cond) (x y : Int32) : Prop := match c with
  | .eq => x = y
  | .ne => ¬ x = y
  | .lt => x < y
  | .ge => y ≤ x
  | .gt => y < x
  | .le => x ≤ y
-- what stands on top; what a local holds; a test; an option
def mj_pI (f : Int32 → List Value → Prop) : List Value → Prop
  | .int x :: r => f x r
  | _ => False
def mj_pL (f : Int64 → List Value → Prop) : List Value → Prop
  | .long x :: r => f x r
  | _ => False
def mj_pR (f : Nat → List Value → Prop) : List Value → Prop
  | .ref x :: r => f x r
  | _ => False
def mj_pN (f : List Value → Prop) (g : Nat → List Value → Prop) : List Value → Prop
  | .null :: r => f r
  | .ref x :: r => g x r
  | _ => False
def mj_p0 (f : Prop) : List Value → Prop
  | [] => f
  | _ => False
def mj_pV (f : Value → List Value → Prop) : List Value → Prop
  | v :: r => v.category = 1 ∧ f v r
  | [] => False
def mj_gI (f : Int32 → Prop) : Option Value → Prop
  | some (.int x) => f x
  | _ => False
def mj_gL (f : Int64 → Prop) : Option Value → Prop
  | some (.long x) => f x
  | _ => False
def mj_gA (f : Value → Prop) : Option Value → Prop
  | some (.ref x) => f (.ref x)
  | some .null => f .null
  | _ => False
def mj_tt (f : Prop) : Bool → Prop
  | true => f
  | false => False
def mj_so {α : Type} (f : α → Prop) : Option α → Prop
  | some x => f x
  | none => False
/-- the receiver is an object of class c -/
def mj_rc (f : Prop) (sh : List (Nat × Nat)) (c : Nat) : List Value → Prop
  | .ref o :: _ => mj_tt f (match sh[o]? with
    | some (k, _) => k == c
    | none => false)
  | _ => False
/-- the receiver is a reference -/
def mj_hr (f : Prop) : List Value → Prop
  | .ref _ :: _ => f
  | _ => False
def mj_br (c : Prop) (f g : Prop) : Prop := (c → f) ∧ (¬ c → g)
def mj_sw (nx : Nat → Prop) (d : Nat) (x : Int32) : List (Int32 × Nat) → Prop
  | [] => nx d
  | (k, t) :: r => mj_br (x = k) (nx t) (mj_sw nx d x r)
/-- the uppermost n values, the deepest first, and the rest -/
def mj_tk : Nat → List Value → List Value → Option (List Value × List Value)
  | 0, acc, st => some (acc, st)
  | _ + 1, _, [] => none
  | n + 1, acc, v :: st => mj_tk n (v :: acc) st
def mj_c2 : Option Value → Bool
  | some (.long _) => true
  | some (.double _) => true
  | _ => false
/-- a store to a local: a long that stood at i - 1 is gone; behind a long nothing stands -/
def mj_st (lv : mj_LV) (i : Nat) (v : Value) : mj_LV := match i with
  | 0 => lv.set 0 (some v)
  | j + 1 => if mj_c2 (lv.getD j none) then (lv.set j none).set (j + 1) (some v) else lv.set (j + 1) (some v)
def mj_st2 (lv : mj_LV) (i : Nat) (v : Int64) : mj_LV := (mj_st lv i (.long v)).set (i + 1) none
/-- where an exception thrown at pc goes: the class that is caught there, the local that takes it, the pc behind that store -/
abbrev mj_H : Type := Nat → Option (Nat × Nat × Nat)
/-- a local that is no longer known -/
def mj_er (lv : mj_LV) (i : Nat) : mj_LV := (mj_st lv i .null).set i none
/-- what comes behind a call -/
def mj_ret (hd : mj_H) (nx : mj_N) (pc : Nat) (K : mj_K) (lv : mj_LV) (rest : List Value) (Q : mj_Q) : mj_O → mj_S → Prop
  | .inl none, S => K lv rest S
  | .inl (some v), S => K lv (v :: rest) S
  | .inr x, S => match hd pc with
    | some (k, i, h) => x = k ∧ nx h (mj_er lv i) [] S Q
    | none => Q (.inr x) S
/-- a new cell of kind k with n places -/
def mj_new (X : mj_X) (K : Nat → mj_S → Prop) (k n : Nat) (S : mj_S) : Prop :=
  (S.2.2.2.2.1 + 1 ≤ X.2.2.1 ∧ S.2.2.2.2.2 + n ≤ X.2.2.2) ∧
  K S.1.length (S.1 ++ [(k, n)], mj_row S.2.1 S.1.length (fun _ => 0), mj_row S.2.2.1 S.1.length (fun _ => 0), mj_row S.2.2.2.1 S.1.length (fun _ => none), S.2.2.2.2.1 + 1, S.2.2.2.2.2 + n)
def mj_ald (K : mj_K) (t : Nat) (lv : mj_LV) (st : List Value) (S : mj_S) : Prop :=
  mj_pI (fun k r => mj_pR (fun o r => mj_so (fun n => vp_in k n ∧ K lv (.int (S.2.1 o k.toNatClampNeg) :: r) S) (mj_ar S.1 o t)) r) st
def mj_ast (K : mj_K) (nar : Int32 → Int32) (t : Nat) (lv : mj_LV) (st : List Value) (S : mj_S) : Prop :=
  mj_pI (fun v r => mj_pI (fun k r => mj_pR (fun o r => mj_so (fun n => vp_in k n ∧ K lv r (S.1, mj_up S.2.1 o k.toNatClampNeg (nar v), S.2.2)) (mj_ar S.1 o t)) r) r) st
/-- what an operand stack weighs -/
def mj_wg : List Value → Nat
  | [] => 0
  | v :: r => v.category + mj_wg r
/-- a call; of a receiver of class t -/
def mj_iv (hd : mj_H) (cl : mj_C) (nx : mj_N) (Q : mj_Q) (pc a n : Nat) (K : mj_K) (lv : mj_LV) (st : List Value) (S : mj_S) : Prop :=
  mj_so (fun z => mj_tt (cl a z.1 S (mj_ret hd nx pc K lv z.2 Q)) (Nat.ble (mj_wg z.2) 8)) (mj_tk n [] st)
def mj_ir (hd : mj_H) (cl : mj_C) (nx : mj_N) (Q : mj_Q) (pc a n t : Nat) (K : mj_K) (lv : mj_LV) (st : List Value) (S : mj_S) : Prop :=
  mj_so (fun z => mj_tt (mj_rc (cl a z.1 S (mj_ret hd nx pc K lv z.2 Q)) S.1 t z.1) (Nat.ble (mj_wg z.2) 8)) (mj_tk n [] st)
def mj_ip (hd : mj_H) (cl : mj_C) (nx : mj_N) (Q : mj_Q) (pc a n : Nat) (K : mj_K) (lv : mj_LV) (st : List Value) (S : mj_S) : Prop :=
  mj_so (fun z => mj_tt (mj_hr (cl a z.1 S (mj_ret hd nx pc K lv z.2 Q)) z.1) (Nat.ble (mj_wg z.2) 8)) (mj_tk n [] st)
/-- one instruction; K: what must hold behind it -/
def mj_in (X : mj_X) (hd : mj_H) (cl : mj_C) (nx : mj_N) (Q : mj_Q) (x : mj_I) (K : mj_K) (lv : mj_LV) (st : List Value) (S : mj_S) : Prop :=
  match x.2.1 with
  | .iconst _ => K lv (.int x.2.2.2.2.1 :: st) S
  | .bipush _ => K lv (.int x.2.2.2.2.1 :: st) S
  | .sipush _ => K lv (.int x.2.2.2.2.1 :: st) S
  | .ldc _ => match x.2.2.2.1.2.2 with
    | 0 => K lv (.int x.2.2.2.2.1 :: st) S
    | _ => K lv (.ref x.2.2.2.1.1 :: st) S
  | .ldc_w _ => K lv (.int x.2.2.2.2.1 :: st) S
  | .lconst _ => K lv (.long x.2.2.2.2.2.1 :: st) S
  | .ldc2_w _ => K lv (.long x.2.2.2.2.2.1 :: st) S
  | .iload _ => mj_gI (fun v => K lv (.int v :: st) S) (lv.getD x.2.2.2.1.1 none)
  | .iload_n _ => mj_gI (fun v => K lv (.int v :: st) S) (lv.getD x.2.2.2.1.1 none)
  | .lload _ => mj_gL (fun v => K lv (.long v :: st) S) (lv.getD x.2.2.2.1.1 none)
  | .lload_n _ => mj_gL (fun v => K lv (.long v :: st) S) (lv.getD x.2.2.2.1.1 none)
  | .aload _ => mj_gA (fun v => K lv (v :: st) S) (lv.getD x.2.2.2.1.1 none)
  | .aload_n _ => mj_gA (fun v => K lv (v :: st) S) (lv.getD x.2.2.2.1.1 none)
  | .istore _ => mj_pI (fun v r => K (mj_st lv x.2.2.2.1.1 (.int v)) r S) st
  | .istore_n _ => mj_pI (fun v r => K (mj_st lv x.2.2.2.1.1 (.int v)) r S) st
  | .lstore _ => mj_pL (fun v r => K (mj_st2 lv x.2.2.2.1.1 v) r S) st
  | .lstore_n _ => mj_pL (fun v r => K (mj_st2 lv x.2.2.2.1.1 v) r S) st
  | .astore _ => mj_pR (fun v r => K (mj_st lv x.2.2.2.1.1 (.ref v)) r S) st
  | .astore_n _ => mj_pR (fun v r => K (mj_st lv x.2.2.2.1.1 (.ref v)) r S) st
  | .iinc _ _ => mj_gI (fun v => K (mj_st lv x.2.2.2.1.1 (.int (v + x.2.2.2.2.1))) st S) (lv.getD x.2.2.2.1.1 none)
  | .iadd => mj_pI (fun b r => mj_pI (fun a r => K lv (.int (a + b) :: r) S) r) st
  | .isub => mj_pI (fun b r => mj_pI (fun a r => K lv (.int (a - b) :: r) S) r) st
  | .imul => mj_pI (fun b r => mj_pI (fun a r => K lv (.int (a * b) :: r) S) r) st
  | .iand => mj_pI (fun b r => mj_pI (fun a r => K lv (.int (a &&& b) :: r) S) r) st
  | .ior => mj_pI (fun b r => mj_pI (fun a r => K lv (.int (a ||| b) :: r) S) r) st
  | .ixor => mj_pI (fun b r => mj_pI (fun a r => K lv (.int (a ^^^ b) :: r) S) r) st
  | .ishl => mj_pI (fun b r => mj_pI (fun a r => K lv (.int (a <<< (b &&& 31)) :: r) S) r) st
  | .ishr => mj_pI (fun b r => mj_pI (fun a r => K lv (.int (a >>> (b &&& 31)) :: r) S) r) st
  | .ineg => mj_pI (fun a r => K lv (.int (-a) :: r) S) st
  | .i2c => mj_pI (fun a r => K lv (.int (a.toUInt32 % 65536).toInt32 :: r) S) st
  | .i2b => mj_pI (fun a r => K lv (.int a.toInt8.toInt32 :: r) S) st
  | .idiv => mj_pI (fun b r => mj_pI (fun a r => ¬ b = 0 ∧ K lv (.int (a / b) :: r) S) r) st
  | .irem => mj_pI (fun b r => mj_pI (fun a r => ¬ b = 0 ∧ K lv (.int (a - a / b * b) :: r) S) r) st
  | .ladd => mj_pL (fun b r => mj_pL (fun a r => K lv (.long (a + b) :: r) S) r) st
  | .lsub => mj_pL (fun b r => mj_pL (fun a r => K lv (.long (a - b) :: r) S) r) st
  | .lmul => mj_pL (fun b r => mj_pL (fun a r => K lv (.long (a * b) :: r) S) r) st
  | .land => mj_pL (fun b r => mj_pL (fun a r => K lv (.long (a &&& b) :: r) S) r) st
  | .lor => mj_pL (fun b r => mj_pL (fun a r => K lv (.long (a ||| b) :: r) S) r) st
  | .lneg => mj_pL (fun a r => K lv (.long (-a) :: r) S) st
  | .ldiv => mj_pL (fun b r => mj_pL (fun a r => ¬ b = 0 ∧ K lv (.long (a / b) :: r) S) r) st
  | .lrem => mj_pL (fun b r => mj_pL (fun a r => ¬ b = 0 ∧ K lv (.long (a - a / b * b) :: r) S) r) st
  | .lushr => mj_pI (fun b r => mj_pL (fun a r => K lv (.long (a.toUInt64 >>> (b.toInt64.toUInt64 &&& Int64.toUInt64 63)).toInt64 :: r) S) r) st
  | .lshl => mj_pI (fun b r => mj_pL (fun a r => K lv (.long (a <<< (b.toInt64 &&& 63)) :: r) S) r) st
  | .lshr => mj_pI (fun b r => mj_pL (fun a r => K lv (.long (a >>> (b.toInt64 &&& 63)) :: r) S) r) st
  | .lcmp => mj_pL (fun b r => mj_pL (fun a r => K lv (.int (lg_cmp a b) :: r) S) r) st
  | .i2l => mj_pI (fun a r => K lv (.long a.toInt64 :: r) S) st
  | .l2i => mj_pL (fun a r => K lv (.int a.toInt32 :: r) S) st
  | .dup => mj_pV (fun v r => K lv (v :: v :: r) S) st
  | .pop => mj_pV (fun _ r => K lv r S) st
  | .ifCond c _ => mj_pI (fun a r => mj_br (mj_cmp c a 0) (nx x.2.2.2.1.1 lv r S Q) (K lv r S)) st
  | .if_icmp c _ => mj_pI (fun b r => mj_pI (fun a r => mj_br (mj_cmp c a b) (nx x.2.2.2.1.1 lv r S Q) (K lv r S)) r) st
  | .goto _ => nx x.2.2.2.1.1 lv st S Q
  | .tableswitch _ _ _ _ => mj_pI (fun a r => mj_sw (fun t => nx t lv r S Q) x.2.2.2.1.1 a x.2.2.2.2.2.2) st
  | .lookupswitch _ _ => mj_pI (fun a r => mj_sw (fun t => nx t lv r S Q) x.2.2.2.1.1 a x.2.2.2.2.2.2) st
  | .iaload => match x.2.2.2.1.2.2 with
    | 0 => mj_ald K 0 lv st S
    | _ => mj_pI (fun k r => mj_pR (fun o r => o = 900000 ∧ vp_in k X.1.1 ∧ K lv (.int (X.1.2 k.toNatClampNeg) :: r) S) r) st
  | .caload => mj_ald K 2 lv st S
  | .baload => match x.2.2.2.1.2.2 with
    | 3 => mj_ald K 3 lv st S
    | _ => mj_ald K 4 lv st S
  | .laload => mj_pI (fun k r => mj_pR (fun o r => mj_so (fun n => vp_in k n ∧ K lv (.long (S.2.2.1 o k.toNatClampNeg) :: r) S) (mj_ar S.1 o 1)) r) st
  | .iastore => mj_ast K (fun v => v) 0 lv st S
  | .castore => mj_ast K (fun v => vp_nar .char v) 2 lv st S
  | .bastore => match x.2.2.2.1.2.2 with
    | 3 => mj_ast K (fun v => vp_nar .boolean v) 3 lv st S
    | _ => mj_ast K (fun v => vp_nar .byte v) 4 lv st S
  | .lastore => mj_pL (fun v r => mj_pI (fun k r => mj_pR (fun o r => mj_so (fun n => vp_in k n ∧ K lv r (S.1, S.2.1, mj_up S.2.2.1 o k.toNatClampNeg v, S.2.2.2)) (mj_ar S.1 o 1)) r) r) st
  | .arraylength => match x.2.2.2.1.2.2 with
    | 0 => mj_pR (fun o r => mj_so (fun n => K lv (.int (Int32.ofNat n) :: r) S) (mj_ar S.1 o 0)) st
    | _ => mj_pR (fun o r => o = 900000 ∧ K lv (.int (Int32.ofNat X.1.1) :: r) S) st
  | .getfield _ => mj_pR (fun o r => mj_tt (match x.2.2.2.1.2.2 with
    | 0 => K lv (.int (S.2.1 o x.2.2.2.1.2.1) :: r) S
    | _ => mj_so (fun q => K lv (.ref q :: r) S) (S.2.2.2.1 o x.2.2.2.1.2.1)) (mj_ob S.1 o x.2.2.2.1.1 x.2.2.2.1.2.1)) st
  | .putfield _ => match x.2.2.2.1.2.2 with
    | 0 => mj_pI (fun v r => mj_pR (fun o r => mj_tt (K lv r (S.1, mj_up S.2.1 o x.2.2.2.1.2.1 v, S.2.2)) (mj_ob S.1 o x.2.2.2.1.1 x.2.2.2.1.2.1)) r) st
    | 2 => mj_pR (fun v r => mj_pR (fun o r => mj_tt (K lv r (S.1, S.2.1, S.2.2.1, mj_up S.2.2.2.1 o x.2.2.2.1.2.1 (some v), S.2.2.2.2)) (mj_ob S.1 o x.2.2.2.1.1 x.2.2.2.1.2.1)) r) st
    | _ => mj_pI (fun v r => mj_pR (fun o r => mj_tt ((v = 0 ∨ v = 1) ∧ K lv r (S.1, mj_up S.2.1 o x.2.2.2.1.2.1 v, S.2.2)) (mj_ob S.1 o x.2.2.2.1.1 x.2.2.2.1.2.1)) r) st
  | .new _ => match x.2.2.2.1.2.2 with
    | 0 => mj_new X (fun q S' => K lv (.ref q :: st) S') x.2.2.2.1.1 x.2.2.2.1.2.1 S
    | _ => mj_p0 ((S.2.2.2.2.1 + 1 ≤ X.2.2.1 ∧ S.2.2.2.2.2 + 6 ≤ X.2.2.2) ∧ Q (.inr x.2.2.2.1.1) (S.1, S.2.1, S.2.2.1, S.2.2.2.1, S.2.2.2.2.1 + 1, S.2.2.2.2.2 + 6)) st
  | .newarray _ => mj_pI (fun n r => ¬ n < 0 ∧ mj_new X (fun q S' => K lv (.ref q :: r) S') (1000 + x.2.2.2.1.2.2) n.toNatClampNeg S) st
  | .invokestatic _ => mj_iv hd cl nx Q x.1 x.2.2.2.1.1 x.2.2.2.1.2.1 K lv st S
  | .invokevirtual _ => match x.2.2.2.1.2.2 with
    | 999 => mj_iv hd cl nx Q x.1 x.2.2.2.1.1 x.2.2.2.1.2.1 K lv st S
    | t => mj_ir hd cl nx Q x.1 x.2.2.2.1.1 x.2.2.2.1.2.1 t K lv st S
  | .invokespecial _ => match x.2.2.2.1.2.2 with
    | 0 => mj_ip hd cl nx Q x.1 x.2.2.2.1.1 x.2.2.2.1.2.1 K lv st S
    | _ => mj_pR (fun _ r => mj_p0 (K lv [] S) r) st
  | .checkcast _ => mj_pR (fun o r => mj_so (fun _ => K lv (.ref o :: r) S) (mj_ar S.1 o 0)) st
  | .ireturn => mj_pI (fun v r => mj_p0 (match x.2.2.2.1.2.2 with
    | 0 => Q (.inl (some (.int v))) S
    | _ => (v = 0 ∨ v = 1) ∧ Q (.inl (some (.int v))) S) r) st
  | .return_ => mj_p0 (Q (.inl none) S) st
  | _ => False
/-- a row of instructions; it goes on at e behind the last one -/
def mj_rb (X : mj_X) (hd : mj_H) (cl : mj_C) (nx : mj_N) (Q : mj_Q) (e : Nat) : List mj_I → mj_K
  | [] => fun lv st S => nx e lv st S Q
  | x :: is => mj_in X hd cl nx Q x (mj_rb X hd cl nx Q e is)
/-- the locals that are still read -/
def mj_mk : List Bool → mj_LV → mj_LV
  | b :: bs, v :: vs => (if b then v else none) :: mj_mk bs vs
  | _, _ => []
/-- a block: its pc, the locals that are live there, its instructions, the pc behind them -/
abbrev mj_B : Type := Nat × List Bool × List mj_I × Nat
def mj_bk : List mj_B → Nat → Option mj_B
  | [], _ => none
  | b :: r, pc => if b.1 = pc then some b else mj_bk r pc
def mj_at (X : mj_X) (hd : mj_H) (cl : mj_C) (T : List mj_B) (nx : mj_N) (pc : Nat) (lv : mj_LV) (st : List Value) (S : mj_S) (Q : mj_Q) : Prop :=
  mj_so (fun b => mj_rb X hd cl nx Q b.2.2.2 b.2.2.1 (mj_mk b.2.1 lv) st S) (mj_bk T pc)
/-- from this pc on the method ends, with Q: the least such -/
def mj_rn (X : mj_X) (hd : mj_H) (cl : mj_C) (T : List mj_B) : mj_N := fun pc lv st S Q => ∀ P : mj_N, (∀ pc lv st S Q, mj_at X hd cl T P pc lv st S Q → P pc lv st S Q) → P pc lv st S Q
def mj_en : List Value → mj_LV
  | [] => []
  | .long x :: r => some (.long x) :: none :: mj_en r
  | .double x :: r => some (.double x) :: none :: mj_en r
  | v :: r => some v :: mj_en r
/-- a method: how many locals, its handlers (from, to, handler, class, the local, the pc behind the store), its blocks -/
abbrev mj_M : Type := Nat × List (Nat × Nat × Nat × Nat × Nat × Nat) × List mj_B
def mj_hd : List (Nat × Nat × Nat × Nat × Nat × Nat) → mj_H
  | [], _ => none
  | (f, t, _, c, i, h) :: r, pc => if f ≤ pc ∧ pc < t then some (c, i, h) else mj_hd r pc
def mj_call (X : mj_X) (P : List mj_M) (bi : mj_C) : Nat → mj_C
  | 0, _, _, _, _ => False
  | d + 1, M, as, S, Q => if 900 ≤ M then bi M as S Q else
    mj_so (fun z => mj_tt (mj_rn X (mj_hd z.2.1) (mj_call X P bi d) z.2.2 0 (mj_en as ++ List.replicate (z.1 - (mj_en as).length) none) [] S Q) (Nat.ble (mj_en as).length z.1)) P[M]?
end
section
/-! MINI MACHINE: every reading ends in one way; what it says may be weakened -/
def mj_Mono (cl : mj_C) : Prop := ∀ (M : Nat) (as : List Value) (S : mj_S) (Q Q' : mj_Q), (∀ o S', Q o S' → Q' o S') → cl M as S Q → cl M as S Q'
def mj_Ex (cl : mj_C) : Prop := ∀ (M : Nat) (as : List Value) (S : mj_S) (Q : mj_Q), cl M as S Q → ∃ (o : mj_O) (S' : mj_S), cl M as S (fun a b => a = o ∧ b = S') ∧ Q o S'
section MJEX
variable {Z : Type} {P : Z → Prop}
theorem mj_pI_ex {f : Int32 → List Value → Prop} {g : Z → Int32 → List Value → Prop} (h : ∀ x r, f x r → ∃ z, g z x r ∧ P z) : ∀ {st : List Value}, mj_pI f st → ∃ z, mj_pI (g z) st ∧ P z
  | .int x :: r, q => h x r q
theorem mj_pL_ex {f : Int64 → List Value → Prop} {g : Z → Int64 → List Value → Prop} (h : ∀ x r, f x r → ∃ z, g z x r ∧ P z) : ∀ {st : List Value}, mj_pL f st → ∃ z, mj_pL (g z) st ∧ P z
  | .long x :: r, q => h x r q
theorem mj_pR_ex {f : Nat → List Value → Prop} {g : Z → Nat → List Value → Prop} (h : ∀ x r, f x r → ∃ z, g z x r ∧ P z) : ∀ {st : List Value}, mj_pR f st → ∃ z, mj_pR (g z) st ∧ P z
  | .ref x :: r, q => h x r q
theorem mj_pV_ex {f : Value → List Value → Prop} {g : Z → Value → List Value → Prop} (h : ∀ x r, f x r → ∃ z, g z x r ∧ P z) : ∀ {st : List Value}, mj_pV f st → ∃ z, mj_pV (g z) st ∧ P z
  | v :: r, q => (h v r q.2).imp fun _ w => ⟨⟨q.1, w.1⟩, w.2⟩
theorem mj_p0_ex {f : Prop} {g : Z → Prop} (h : f → ∃ z, g z ∧ P z) : ∀ {st : List Value}, mj_p0 f st → ∃ z, mj_p0 (g z) st ∧ P z
  | [], q => h q
theorem mj_gI_ex {f : Int32 → Prop} {g : Z → Int32 → Prop} (h : ∀ x, f x → ∃ z, g z x ∧ P z) : ∀ {v : Option Value}, mj_gI f v → ∃ z, mj_gI (g z) v ∧ P z
  | some (.int x), q => h x q
theorem mj_gL_ex {f : Int64 → Prop} {g : Z → Int64 → Prop} (h : ∀ x, f x → ∃ z, g z x ∧ P z) : ∀ {v : Option Value}, mj_gL f v → ∃ z, mj_gL (g z) v ∧ P z
  | some (.long x), q => h x q
theorem mj_gA_ex {f : Value → Prop} {g : Z → Value → Prop} (h : ∀ x, f x → ∃ z, g z x ∧ P z) : ∀ {v : Option Value}, mj_gA f v → ∃ z, mj_gA (g z) v ∧ P z
  | some (.ref x), q => h _ q
  | some .null, q => h _ q
theorem mj_tt_ex {f : Prop} {g : Z → Prop} (h : f → ∃ z, g z ∧ P z) : ∀ {b : Bool}, mj_tt f b → ∃ z, mj_tt (g z) b ∧ P z
  | true, q => h q
theorem mj_rc_ex {f : Prop} {g : Z → Prop} (h : f → ∃ z, g z ∧ P z) {sh : List (Nat × Nat)} {c : Nat} : ∀ {as : List Value}, mj_rc f sh c as → ∃ z, mj_rc (g z) sh c as ∧ P z
  | .ref _ :: _, q => mj_tt_ex h q
theorem mj_hr_ex {f : Prop} {g : Z → Prop} (h : f → ∃ z, g z ∧ P z) : ∀ {as : List Value}, mj_hr f as → ∃ z, mj_hr (g z) as ∧ P z
  | .ref _ :: _, q => h q
theorem mj_so_ex {α : Type} {f : α → Prop} {g : Z → α → Prop} (h : ∀ x, f x → ∃ z, g z x ∧ P z) : ∀ {b : Option α}, mj_so f b → ∃ z, mj_so (g z) b ∧ P z
  | some x, q => h x q
theorem mj_an_ex {c f : Prop} {g : Z → Prop} (h : f → ∃ z, g z ∧ P z) (q : c ∧ f) : ∃ z, (c ∧ g z) ∧ P z := (h q.2).imp fun _ w => ⟨⟨q.1, w.1⟩, w.2⟩
theorem mj_br_ex {c f1 f2 : Prop} {g1 g2 : Z → Prop} (h1 : f1 → ∃ z, g1 z ∧ P z) (h2 : f2 → ∃ z, g2 z ∧ P z) (q : mj_br c f1 f2) : ∃ z, mj_br c (g1 z) (g2 z) ∧ P z := by
  by_cases hc : c
  · obtain ⟨z, w1, w2⟩ := h1 (q.1 hc)
    exact ⟨z, ⟨fun _ => w1, fun n => absurd hc n⟩, w2⟩
  · obtain ⟨z, w1, w2⟩ := h2 (q.2 hc)
    exact ⟨z, ⟨fun n => absurd n hc, fun _ => w1⟩, w2⟩
theorem mj_sw_ex {nx : Nat → Prop} {nx' : Z → Nat → Prop} (h : ∀ t, nx t → ∃ z, nx' z t ∧ P z) (d : Nat) (x : Int32) : ∀ sw : List (Int32 × Nat), mj_sw nx d x sw → ∃ z, mj_sw (nx' z) d x sw ∧ P z
  | [], q => h _ q
  | (_, _) :: r, q => mj_br_ex (h _) (mj_sw_ex h d x r) q
theorem mj_new_ex {X : mj_X} {K : Nat → mj_S → Prop} {K' : Z → Nat → mj_S → Prop} (h : ∀ q S, K q S → ∃ z, K' z q S ∧ P z) {k n : Nat} {S : mj_S} (q : mj_new X K k n S) : ∃ z, mj_new X (K' z) k n S ∧ P z := mj_an_ex (h _ _) q
theorem mj_ald_ex {K : mj_K} {K' : Z → mj_K} (h : ∀ lv st S, K lv st S → ∃ z, K' z lv st S ∧ P z) {t : Nat} {lv : mj_LV} {st : List Value} {S : mj_S} (q : mj_ald K t lv st S) : ∃ z, mj_ald (K' z) t lv st S ∧ P z :=
  mj_pI_ex (fun _ _ => mj_pR_ex fun _ _ => mj_so_ex fun _ => mj_an_ex (h _ _ _)) q
theorem mj_ast_ex {K : mj_K} {K' : Z → mj_K} (h : ∀ lv st S, K lv st S → ∃ z, K' z lv st S ∧ P z) {nar : Int32 → Int32} {t : Nat} {lv : mj_LV} {st : List Value} {S : mj_S} (q : mj_ast K nar t lv st S) : ∃ z, mj_ast (K' z) nar t lv st S ∧ P z :=
  mj_pI_ex (fun _ _ => mj_pI_ex fun _ _ => mj_pR_ex fun _ _ => mj_so_ex fun _ => mj_an_ex (h _ _ _)) q
theorem mj_ret_ex {hd : mj_H} {nx nx' : mj_N} {Q : mj_Q} {Q' : Z → mj_Q} {K : mj_K} {K' : Z → mj_K} (hn : ∀ pc lv st S, nx pc lv st S Q → ∃ z, nx' pc lv st S (Q' z) ∧ P z) (hQ : ∀ o S, Q o S → ∃ z, Q' z o S ∧ P z) (hK : ∀ lv st S, K lv st S → ∃ z, K' z lv st S ∧ P z)
    {pc : Nat} {lv : mj_LV} {rest : List Value} : ∀ {o : mj_O} {S : mj_S}, mj_ret hd nx pc K lv rest Q o S → ∃ z, mj_ret hd nx' pc (K' z) lv rest (Q' z) o S ∧ P z
  | .inl none, S, q => hK _ _ _ q
  | .inl (some v), S, q => hK _ _ _ q
  | .inr x, S, q => by
    cases hx : hd pc with
    | none =>
      simp only [mj_ret, hx] at q ⊢
      exact hQ _ _ q
    | some z =>
      simp only [mj_ret, hx] at q ⊢
      exact mj_an_ex (hn _ _ _ _) q
theorem mj_cl_ex {cl : mj_C} (hm : mj_Mono cl) (he : mj_Ex cl) {M : Nat} {as : List Value} {S : mj_S} {R : mj_Q} {R' : Z → mj_Q} (h : ∀ o S', R o S' → ∃ z, R' z o S' ∧ P z) (q : cl M as S R) : ∃ z, cl M as S (R' z) ∧ P z := by
  obtain ⟨o, S', h1, h2⟩ := he M as S R q
  obtain ⟨z, w1, w2⟩ := h o S' h2
  exact ⟨z, hm M as S _ _ (fun a b e => by rw [e.1, e.2]; exact w1) h1, w2⟩
theorem mj_iv_ex {hd : mj_H} {cl : mj_C} (hm : mj_Mono cl) (he : mj_Ex cl) {nx nx' : mj_N} {Q : mj_Q} {Q' : Z → mj_Q} {K : mj_K} {K' : Z → mj_K} (hn : ∀ pc lv st S, nx pc lv st S Q → ∃ z, nx' pc lv st S (Q' z) ∧ P z) (hQ : ∀ o S, Q o S → ∃ z, Q' z o S ∧ P z) (hK : ∀ lv st S, K lv st S → ∃ z, K' z lv st S ∧ P z)
    {pc a n : Nat} {lv : mj_LV} {st : List Value} {S : mj_S} (h : mj_iv hd cl nx Q pc a n K lv st S) : ∃ z, mj_iv hd cl nx' (Q' z) pc a n (K' z) lv st S ∧ P z :=
  mj_so_ex (fun _ => mj_tt_ex (mj_cl_ex hm he (fun _ _ => mj_ret_ex hn hQ hK))) h
theorem mj_ir_ex {hd : mj_H} {cl : mj_C} (hm : mj_Mono cl) (he : mj_Ex cl) {nx nx' : mj_N} {Q : mj_Q} {Q' : Z → mj_Q} {K : mj_K} {K' : Z → mj_K} (hn : ∀ pc lv st S, nx pc lv st S Q → ∃ z, nx' pc lv st S (Q' z) ∧ P z) (hQ : ∀ o S, Q o S → ∃ z, Q' z o S ∧ P z) (hK : ∀ lv st S, K lv st S → ∃ z, K' z lv st S ∧ P z)
    {pc a n t : Nat} {lv : mj_LV} {st : List Value} {S : mj_S} (h : mj_ir hd cl nx Q pc a n t K lv st S) : ∃ z, mj_ir hd cl nx' (Q' z) pc a n t (K' z) lv st S ∧ P z :=
  mj_so_ex (fun _ => mj_tt_ex (mj_rc_ex (mj_cl_ex hm he (fun _ _ => mj_ret_ex hn hQ hK)))) h
theorem mj_ip_ex {hd : mj_H} {cl : mj_C} (hm : mj_Mono cl) (he : mj_Ex cl) {nx nx' : mj_N} {Q : mj_Q} {Q' : Z → mj_Q} {K : mj_K} {K' : Z → mj_K} (hn : ∀ pc lv st S, nx pc lv st S Q → ∃ z, nx' pc lv st S (Q' z) ∧ P z) (hQ : ∀ o S, Q o S → ∃ z, Q' z o S ∧ P z) (hK : ∀ lv st S, K lv st S → ∃ z, K' z lv st S ∧ P z)
    {pc a n : Nat} {lv : mj_LV} {st : List Value} {S : mj_S} (h : mj_ip hd cl nx Q pc a n K lv st S) : ∃ z, mj_ip hd cl nx' (Q' z) pc a n (K' z) lv st S ∧ P z :=
  mj_so_ex (fun _ => mj_tt_ex (mj_hr_ex (mj_cl_ex hm he (fun _ _ => mj_ret_ex hn hQ hK)))) h
set_option maxHeartbeats 4000000 in
theorem mj_in_ex {X : mj_X} {hd : mj_H} {cl : mj_C} (hm : mj_Mono cl) (he : mj_Ex cl) {nx nx' : mj_N} {Q : mj_Q} {Q' : Z → mj_Q} {K : mj_K} {K' : Z → mj_K} (hn : ∀ pc lv st S, nx pc lv st S Q → ∃ z, nx' pc lv st S (Q' z) ∧ P z) (hQ : ∀ o S, Q o S → ∃ z, Q' z o S ∧ P z) (hK : ∀ lv st S, K lv st S → ∃ z, K' z lv st S ∧ P z)
    (x : mj_I) (lv : mj_LV) (st : List Value) (S : mj_S) (h : mj_in X hd cl nx Q x K lv st S) : ∃ z, mj_in X hd cl nx' (Q' z) x (K' z) lv st S ∧ P z := by
  obtain ⟨pc, i, len, ⟨a, b, t⟩, k, kl, sw⟩ := x
  unfold mj_in at h ⊢
  cases i
  all_goals dsimp only at h ⊢
  all_goals try exact h.elim
  all_goals try exact hK _ _ _ h
  all_goals try exact hn _ _ _ _ h
  all_goals try exact mj_pI_ex (fun _ _ => hK _ _ _) h
  all_goals try exact mj_pI_ex (fun _ _ => mj_pI_ex fun _ _ => hK _ _ _) h
  all_goals try exact mj_pI_ex (fun _ _ => mj_pI_ex fun _ _ => mj_an_ex (hK _ _ _)) h
  all_goals try exact mj_pI_ex (fun _ _ => mj_pL_ex fun _ _ => hK _ _ _) h
  all_goals try exact mj_pL_ex (fun _ _ => hK _ _ _) h
  all_goals try exact mj_pL_ex (fun _ _ => mj_pL_ex fun _ _ => hK _ _ _) h
  all_goals try exact mj_pL_ex (fun _ _ => mj_pL_ex fun _ _ => mj_an_ex (hK _ _ _)) h
  all_goals try exact mj_pR_ex (fun _ _ => hK _ _ _) h
  all_goals try exact mj_pV_ex (fun _ _ => hK _ _ _) h
  all_goals try exact mj_gI_ex (fun _ => hK _ _ _) h
  all_goals try exact mj_gL_ex (fun _ => hK _ _ _) h
  all_goals try exact mj_gA_ex (fun _ => hK _ _ _) h
  all_goals try exact mj_ald_ex hK h
  all_goals try exact mj_ast_ex hK h
  all_goals try exact mj_pI_ex (fun _ _ => mj_pI_ex fun _ _ => mj_br_ex (hn _ _ _ _) (hK _ _ _)) h
  all_goals try exact mj_pI_ex (fun _ _ => mj_br_ex (hn _ _ _ _) (hK _ _ _)) h
  all_goals try exact mj_pI_ex (fun _ _ => mj_sw_ex (fun _ => hn _ _ _ _) _ _ _) h
  all_goals try exact mj_iv_ex hm he hn hQ hK h
  all_goals try exact mj_ir_ex hm he hn hQ hK h
  all_goals try exact mj_ip_ex hm he hn hQ hK h
  all_goals try exact mj_pR_ex (fun _ _ => mj_so_ex fun _ => hK _ _ _) h
  all_goals try exact mj_pI_ex (fun _ _ => mj_pR_ex fun _ _ => mj_so_ex fun _ => mj_an_ex (hK _ _ _)) h
  all_goals try exact mj_pL_ex (fun _ _ => mj_pI_ex fun _ _ => mj_pR_ex fun _ _ => mj_so_ex fun _ => mj_an_ex (hK _ _ _)) h
  all_goals try exact mj_p0_ex (hQ _ _) h
  all_goals try exact mj_pI_ex (fun _ _ => mj_an_ex (mj_new_ex fun _ _ => hK _ _ _)) h
  all_goals try (split at h)
  all_goals try exact hK _ _ _ h
  all_goals try exact mj_ald_ex hK h
  all_goals try exact mj_ast_ex hK h
  all_goals try exact mj_pI_ex (fun _ _ => mj_pR_ex fun _ _ => mj_an_ex (mj_an_ex (hK _ _ _))) h
  all_goals try exact mj_pR_ex (fun _ _ => mj_so_ex fun _ => hK _ _ _) h
  all_goals try exact mj_pR_ex (fun _ _ => mj_an_ex (hK _ _ _)) h
  all_goals try exact mj_pR_ex (fun _ _ => mj_tt_ex (hK _ _ _)) h
  all_goals try exact mj_pR_ex (fun _ _ => mj_tt_ex (mj_so_ex fun _ => hK _ _ _)) h
  all_goals try exact mj_pI_ex (fun _ _ => mj_pR_ex fun _ _ => mj_tt_ex (hK _ _ _)) h
  all_goals try exact mj_pR_ex (fun _ _ => mj_pR_ex fun _ _ => mj_tt_ex (hK _ _ _)) h
  all_goals try exact mj_pI_ex (fun _ _ => mj_pR_ex fun _ _ => mj_tt_ex (mj_an_ex (hK _ _ _))) h
  all_goals try exact mj_new_ex (fun _ _ => hK _ _ _) h
  all_goals try exact mj_p0_ex (mj_an_ex (hQ _ _)) h
  all_goals try exact mj_iv_ex hm he hn hQ hK h
  all_goals try exact mj_ir_ex hm he hn hQ hK h
  all_goals try exact mj_ip_ex hm he hn hQ hK h
  all_goals try exact mj_pR_ex (fun _ _ => mj_so_ex fun _ => hK _ _ _) h
  all_goals try exact mj_pR_ex (fun _ _ => hK _ _ _) h
  all_goals try exact mj_pR_ex (fun _ _ => mj_p0_ex (hK _ _ _)) h
  all_goals try exact mj_pI_ex (fun _ _ => mj_p0_ex (hQ _ _)) h
  all_goals try exact mj_pI_ex (fun _ _ => mj_p0_ex (mj_an_ex (hQ _ _))) h
end MJEX
end
section
/-! MINI MACHINE: the fixed point, and calls -/
section MJFX
variable {X : mj_X} {hd : mj_H} {cl : mj_C} {T : List mj_B}
theorem mj_rb_ex {Z : Type} {P : Z → Prop} (hm : mj_Mono cl) (he : mj_Ex cl) {nx nx' : mj_N} {Q : mj_Q} {Q' : Z → mj_Q} (hn : ∀ pc lv st S, nx pc lv st S Q → ∃ z, nx' pc lv st S (Q' z) ∧ P z) (hQ : ∀ o S, Q o S → ∃ z, Q' z o S ∧ P z) (e : Nat) :
    ∀ (is : List mj_I) (lv : mj_LV) (st : List Value) (S : mj_S), mj_rb X hd cl nx Q e is lv st S → ∃ z, mj_rb X hd cl nx' (Q' z) e is lv st S ∧ P z
  | [], _, _, _, h => hn _ _ _ _ h
  | x :: is, lv, st, S, h => mj_in_ex (K' := fun z => mj_rb X hd cl nx' (Q' z) e is) hm he hn hQ (mj_rb_ex hm he hn hQ e is) x lv st S h
theorem mj_at_ex {Z : Type} {P : Z → Prop} (hm : mj_Mono cl) (he : mj_Ex cl) {nx nx' : mj_N} {Q : mj_Q} {Q' : Z → mj_Q} (hn : ∀ pc lv st S, nx pc lv st S Q → ∃ z, nx' pc lv st S (Q' z) ∧ P z) (hQ : ∀ o S, Q o S → ∃ z, Q' z o S ∧ P z) {pc : Nat} {lv : mj_LV} {st : List Value} {S : mj_S} (h : mj_at X hd cl T nx pc lv st S Q) : ∃ z, mj_at X hd cl T nx' pc lv st S (Q' z) ∧ P z := by
  unfold mj_at at h ⊢
  exact mj_so_ex (g := fun z (b : mj_B) => mj_rb X hd cl nx' (Q' z) b.2.2.2 b.2.2.1 (mj_mk b.2.1 lv) st S) (fun b q => mj_rb_ex hm he hn hQ b.2.2.2 b.2.2.1 _ _ _ q) h
/-- the fixed point, unfolded once -/
theorem mj_rn_in (hm : mj_Mono cl) (he : mj_Ex cl) {pc : Nat} {lv : mj_LV} {st : List Value} {S : mj_S} {Q : mj_Q} (h : mj_at X hd cl T (mj_rn X hd cl T) pc lv st S Q) : mj_rn X hd cl T pc lv st S Q := by
  intro P hP
  refine hP _ _ _ _ _ ?_
  obtain ⟨-, w, -⟩ := mj_at_ex (Z := Unit) (P := fun _ => True) (nx' := P) (Q' := fun _ => Q) hm he (fun pc lv st S q => ⟨(), q P hP, trivial⟩) (fun _ _ q => ⟨(), q, trivial⟩) h
  exact w
theorem mj_rn_ex (hm : mj_Mono cl) (he : mj_Ex cl) {pc : Nat} {lv : mj_LV} {st : List Value} {S : mj_S} {Q : mj_Q} (h : mj_rn X hd cl T pc lv st S Q) : ∃ (o : mj_O) (S' : mj_S), mj_rn X hd cl T pc lv st S (fun a b => a = o ∧ b = S') ∧ Q o S' := by
  refine h (fun pc lv st S Q => ∃ (o : mj_O) (S' : mj_S), mj_rn X hd cl T pc lv st S (fun a b => a = o ∧ b = S') ∧ Q o S') ?_
  intro pc lv st S Q q
  obtain ⟨⟨o, S'⟩, w1, w2⟩ := mj_at_ex (Z := mj_O × mj_S) (P := fun z => Q z.1 z.2) (nx' := mj_rn X hd cl T) (Q' := fun z a b => a = z.1 ∧ b = z.2) hm he (fun pc lv st S q => by obtain ⟨o, S', q1, q2⟩ := q; exact ⟨(o, S'), q1, q2⟩) (fun o S q => ⟨(o, S), ⟨rfl, rfl⟩, q⟩) q
  exact ⟨o, S', mj_rn_in hm he w1, w2⟩
theorem mj_rn_mono (hm : mj_Mono cl) (he : mj_Ex cl) {pc : Nat} {lv : mj_LV} {st : List Value} {S : mj_S} {Q Q' : mj_Q} (hQ : ∀ o S, Q o S → Q' o S) (h : mj_rn X hd cl T pc lv st S Q) : mj_rn X hd cl T pc lv st S Q' := by
  refine h (fun pc lv st S Q => ∀ Q' : mj_Q, (∀ o S, Q o S → Q' o S) → mj_rn X hd cl T pc lv st S Q') ?_ Q' hQ
  intro pc lv st S Q q Q' hQ
  obtain ⟨-, w, -⟩ := mj_at_ex (Z := Unit) (P := fun _ => True) (nx' := mj_rn X hd cl T) (Q' := fun _ => Q') hm he (fun pc lv st S q => ⟨(), q Q' hQ, trivial⟩) (fun _ _ q => ⟨(), hQ _ _ q, trivial⟩) q
  exact mj_rn_in hm he w
end MJFX
section MJCL
variable {X : mj_X} {P : List mj_M} {bi : mj_C}
theorem mj_call_ok (hm : mj_Mono bi) (he : mj_Ex bi) : ∀ d : Nat, mj_Mono (mj_call X P bi d) ∧ mj_Ex (mj_call X P bi d)
  | 0 => ⟨fun _ _ _ _ _ _ h => h.elim, fun _ _ _ _ h => h.elim⟩
  | d + 1 => by
    obtain ⟨hm1, he1⟩ := mj_call_ok hm he d
    refine ⟨fun M as S Q Q' hQ h => ?_, fun M as S Q h => ?_⟩
    · unfold mj_call at h ⊢
      by_cases hM : 900 ≤ M
      · rw [if_pos hM] at h ⊢
        exact hm M as S Q Q' hQ h
      · rw [if_neg hM] at h ⊢
        obtain ⟨-, w, -⟩ := mj_so_ex (Z := Unit) (P := fun _ => True) (g := fun _ (z : mj_M) => mj_tt (mj_rn X (mj_hd z.2.1) (mj_call X P bi d) z.2.2 0 (mj_en as ++ List.replicate (z.1 - (mj_en as).length) none) [] S Q') (Nat.ble (mj_en as).length z.1)) (fun z => mj_tt_ex fun q => ⟨(), mj_rn_mono hm1 he1 hQ q, trivial⟩) h
        exact w
    · unfold mj_call at h
      by_cases hM : 900 ≤ M
      · rw [if_pos hM] at h
        obtain ⟨o, S', h1, h2⟩ := he M as S Q h
        exact ⟨o, S', by unfold mj_call; rw [if_pos hM]; exact h1, h2⟩
      · rw [if_neg hM] at h
        obtain ⟨⟨o, S'⟩, h1, h2⟩ := mj_so_ex (Z := mj_O × mj_S) (P := fun z => Q z.1 z.2) (g := fun w (z : mj_M) => mj_tt (mj_rn X (mj_hd z.2.1) (mj_call X P bi d) z.2.2 0 (mj_en as ++ List.replicate (z.1 - (mj_en as).length) none) [] S (fun a b => a = w.1 ∧ b = w.2)) (Nat.ble (mj_en as).length z.1)) (fun z => mj_tt_ex fun q => by obtain ⟨o, S', q1, q2⟩ := mj_rn_ex hm1 he1 q; exact ⟨(o, S'), q1, q2⟩) h
        exact ⟨o, S', by unfold mj_call; rw [if_neg hM]; exact h1, h2⟩
end MJCL
end
section
/-! CALLS THAT RETURN OR THROW, by a callee's free contract -/
section MJB
variable {p : Program} {l : Launch} {e : Env} {R : Room} {s : State} {m : MethodId} {args : Array Value} {below : List Frame} {meth : Method} {c : Code} {U : State} {locs : List Loc} {cells slots : Nat}
/-- where the caller stands behind a callee that has ended: in its frame, the value pushed; or under the note of what was thrown -/
def mj_Back (p : Program) (e : Env) (below : List Frame) (g : JFrame) (len : Nat) (A B : State) : Outcome → Prop
  | .returned v => Steps p.tables e below A (B.setTop { g with pc := g.pc + len, stack := v.toList ++ g.stack })
  | .threw x => Steps p.tables e below A ((B.setTop g).pushFrame (.throwing x))
theorem mj_back {ws : List Cond} {rm : Room} {Pc : Array Value → State → Prop} {Qc : Array Value → State → Outcome → State → Prop} {y : MethodName} {maxL W len : Nat}
    (hM : MetFree l y (headSpec ws rm) Pc (fun _ _ _ _ _ => True) Qc)
    (hQ : ∀ a st o t, Qc a st o t → st.WarmedH t.vm ∧ ∃ (L : List Loc) (k n : Nat), st.sameButNew ({ t with vm := st.vm } : State) L k n)
    (X : Stand p l e R s m args below meth c U locs cells slots) {g : JFrame} {ig : Instr} {mk : MethodId} {a : Array Value} (hg : g.method = m) (hsize : g.locals.size = c.maxLocals) (hdg : decode c.code g.pc = .ok (ig, len))
    (hW : 2 * g.monitorRoom + (g.stack.map fun v => v.category).sum ≤ W) (hn : U.methodNamed? y = some mk) {methY : Method} {cY : Code} {kY : Class} (hmY : U.vm.method? mk = some methY) (hcY : methY.code = some cY) (hlY : cY.maxLocals = maxL)
    (hkY : U.vm.classes[mk.cls]? = some kY) (hinitY : kY.init = .initialized) (hframes : rm.frames + 1 ≤ R.frames) (hlocals : W + (maxL + 11) + rm.locals ≤ R.locals) (hcells : cells + rm.cells ≤ R.cells) (hslots : slots + rm.slots ≤ R.slots)
    (hws : (allAtoms ws).before a U = true) (hP : Pc a (U.calling g mk a)) :
    ∃ (o : Outcome) (t : State), Qc a (U.calling g mk a) o t ∧ U.WarmedH t.vm ∧
      (∀ (L : List Loc) (k n : Nat), (U.calling g mk a).sameButNew ({ t with vm := (U.calling g mk a).vm } : State) L k n → Stand p l e R s m args below meth c (({ U with heap := t.heap, slotsUsed := t.slotsUsed } : State).setVm t.vm) (locs ++ L) (cells + k) (slots + n)) ∧
      mj_Back p e below g len (doInvoke e (U.setTop g) [] mk a).1 (({ U with heap := t.heap, slotsUsed := t.slotsUsed } : State).setVm t.vm) o := by
  have h : At U g.method c below := by rw [hg]; exact X.here
  have happ : (headSpec ws rm).appliesLoose y e.platform (U.calling g mk a) = true :=
    Spec.appliesLoose_calling (g := g) h hdg hn hkY hinitY
      (X.room_calling (g := g) (R' := (headSpec ws rm).room) hsize hmY hcY hframes (by rw [hlY]; show _ + _ + rm.locals ≤ _; omega) hcells hslots) hws
  obtain ⟨mid, hmid⟩ := h.above
  have hfr : (U.setTop g).frames = (.java g :: mid) ++ below := by rw [State.frames_setTop' g h.top, hmid]; rfl
  obtain ⟨o, s₂, hsteps, -, hend, hq⟩ := Steps.callFree hM p X.admits X.cas X.clock (acts := []) hfr happ hP trivial
  have hq' : Qc a (U.calling g mk a) o s₂ := hq
  rw [State.frames_setTop' g h.top] at hend
  obtain ⟨hW₂, L0, k0, n0, hs0⟩ := hQ _ _ _ _ hq'
  have e2 := hs0.1
  have e3 : s₂ = ({ (U.calling g mk a).setFrames s₂.frames with heap := s₂.heap, slotsUsed := s₂.slotsUsed } : State).setVm s₂.vm := by
    have : s₂ = ({ s₂ with vm := (U.calling g mk a).vm } : State).setVm s₂.vm := rfl
    rw [e2] at this
    exact this
  have hW' : U.WarmedH s₂.vm := hW₂
  obtain ⟨g₀, hg0⟩ := Option.isSome_iff_exists.mp h.top
  obtain ⟨r, hr⟩ := State.topJava?_eq_some.mp hg0
  have hr' : (({ U with heap := s₂.heap, slotsUsed := s₂.slotsUsed } : State).setVm s₂.vm).frames = .java g₀ :: r := hr
  refine ⟨o, s₂, hq', hW', fun L k n hs => ?_, ?_⟩
  · obtain ⟨-, q2, q3, q4, q5, q6⟩ := hs
    have hsame : U.sameButNew ({ U with heap := s₂.heap, slotsUsed := s₂.slotsUsed } : State) L k n := by
      refine ⟨?_, q2, q3, q4, q5, q6⟩
      obtain ⟨t, ht, -⟩ := State.frames_cons hr
      show ({ U with heap := s₂.heap, slotsUsed := s₂.slotsUsed } : State) = { U.setFrames U.frames with heap := s₂.heap, slotsUsed := s₂.slotsUsed }
      rw [State.setFrames_self ht]
    subst hg
    exact ⟨X.admits, X.cas, X.clock, X.frames, X.room, X.hears, X.method, X.code, (X.here.setHeapUsed s₂.heap s₂.slotsUsed).setVm hW'.alike, X.tail, State.WarmedH.trans X.warmed hW', X.limits, X.bytes, X.same.trans (hsame.setVm s.vm)⟩
  · cases o with
    | returned v =>
      obtain ⟨c₂, i₂, len₂, hc₂, hd₂, hf₂⟩ := hend
      have hcc : c₂ = c := by
        have h1 : s₂.code? g.method = U.code? g.method := by
          rw [State.code?_eq, State.code?_eq, hW'.alike.method?]
        exact Option.some.inj (hc₂.symm.trans (h1.trans h.code))
      subst hcc
      have hlen : len₂ = len := by rw [hdg] at hd₂; cases hd₂; rfl
      subst hlen
      have hs₂ : s₂ = (({ U with heap := s₂.heap, slotsUsed := s₂.slotsUsed } : State).setVm s₂.vm).setTop { g with pc := g.pc + len₂, stack := v.toList ++ g.stack } := by
        refine e3.trans ?_
        rw [hf₂, State.calling_eq h.top, State.setFrames_setFrames, State.setTop_of_frames _ hr', hr]
        rfl
      show Steps p.tables e below _ ((({ U with heap := s₂.heap, slotsUsed := s₂.slotsUsed } : State).setVm s₂.vm).setTop { g with pc := g.pc + len₂, stack := v.toList ++ g.stack })
      rw [← hs₂]
      exact hsteps
    | threw x =>
      have hf₂ : s₂.frames = .throwing x :: .java g :: U.frames.tail := hend
      have hs₂ : s₂ = ((({ U with heap := s₂.heap, slotsUsed := s₂.slotsUsed } : State).setVm s₂.vm).setTop g).pushFrame (.throwing x) := by
        refine e3.trans ?_
        rw [hf₂, State.calling_eq h.top, State.setFrames_setFrames, State.pushFrame, State.frames_setTop _ hr', State.setTop_of_frames _ hr', State.setFrames_setFrames, hr]
        rfl
      show Steps p.tables e below _ (((({ U with heap := s₂.heap, slotsUsed := s₂.slotsUsed } : State).setVm s₂.vm).setTop g).pushFrame (.throwing x))
      rw [← hs₂]
      exact hsteps
end MJB
end
section
/-! THE STEP OF AN INVOKING INSTRUCTION, up to the callee's entry -/
section MJE
variable {p : Program} {l : Launch} {e : Env} {R : Room} {s : State} {m : MethodId} {args : Array Value} {below : List Frame} {meth : Method} {c : Code} {T : State} {locs : List Loc} {cells slots : Nat}
def mj_Ent (p : Program) (l : Launch) (e : Env) (R : Room) (s : State) (m : MethodId) (args : Array Value) (below : List Frame) (meth : Method) (c : Code) (T : State) (locs : List Loc) (cells slots : Nat) (y : MethodName) (g : JFrame) (rest : List Value) (a : Array Value) : Prop :=
  ∃ (vm₁ : Vm) (mk : MethodId), Stand p l e R s m args below meth c (T.setVm vm₁) locs cells slots ∧ s.methodNamed? y = some mk ∧
    ∀ target, Steps p.tables e below (doInvoke e ((T.setVm vm₁).setTop { g with stack := rest }) [] mk a).1 target → Steps p.tables e below (T.setTop g) target
theorem mj_entV (X : Stand p l e R s m args below meth c T locs cells slots) (hexec : p.tables.exec = Jvm.exec) {own C : String} {index : Nat} {y : MethodName} {bytes : ByteArray} {maxL : Nat} {ret : Option FieldType} {hh : List (Nat × Nat × Nat × Nat)}
    (hown : s.vm.findClass own = some m.cls) (hlink : (Cond.methodLink own index y).before args s = true) (hinst : (Cond.instanceMethod y).before args s = true) (hsel : (Cond.selects C y y).before args s = true)
    (hcode : (Cond.codeWith y bytes maxL ret hh).before args s = true) (hy : y.cls ≠ "java/lang/invoke/MethodHandle" ∧ y.cls ≠ "java/lang/invoke/VarHandle")
    {b : Addr} {cellB : Cell} (hcell : T.heap[b]? = some cellB) (hobj : cellB.vm.isStatics = false) (hcls : s.vm.findClass C = some cellB.cls)
    {g : JFrame} (hg : g.method = m) {argsL rest : List Value} (hlen : ∀ sig, parseMethodDescriptor y.desc = some sig → argsL.length = sig.parameters.length)
    (hstack : g.stack = argsL.reverse ++ .ref b :: rest) (hdg : decode c.code g.pc = .ok (.invokevirtual index, 3)) : mj_Ent p l e R s m args below meth c T locs cells slots y g rest (Value.ref b :: argsL).toArray := by
  obtain ⟨mk, methM, hnamed, hmethM, hstM, habM⟩ := Cond.instanceMethod_spec hinst
  obtain ⟨m9, methM', cM, hn9, hmethM', -, -, -, -, -, -, hsigM⟩ := Cond.codeWith_spec hcode
  cases hnamed.symm.trans hn9
  cases hmethM.symm.trans hmethM'
  obtain ⟨c2, r2, m2, q1, q2, q3, q4, kP, hkP, hkPi⟩ := Cond.selects_spec hsel
  cases hcls.symm.trans q1
  cases (State.methodFound?_of_named hnamed hy).symm.trans q2
  cases hnamed.symm.trans q3
  have hselP : selectMethod e.platform s.vm cellB.cls mk = .method mk := by rw [Launch.admits_selectMethod X.admits]; exact q4
  obtain ⟨vm₁, X₁, hstep₁⟩ := X.invokevirtual hexec hown hlink hnamed hmethM hstM hkP hkPi hy (a := b) (cell := cellB) hcell
    (fun z h => by rw [h] at hobj; cases hobj) hselP hmethM habM hkP hkPi (g := g) hg (argsL := argsL) (rest := rest) (hlen _ hsigM) hstack hdg
  exact ⟨vm₁, mk, X₁, hnamed, fun target h => hstep₁ _ fun acts => by rw [doInvoke_state]; exact h⟩
theorem mj_entS (X : Stand p l e R s m args below meth c T locs cells slots) (hexec : p.tables.exec = Jvm.exec) {own : String} {index : Nat} {y : MethodName} {bytes : ByteArray} {maxL : Nat} {ret : Option FieldType} {hh : List (Nat × Nat × Nat × Nat)}
    (hown : s.vm.findClass own = some m.cls) (hlink : (Cond.methodLink own index y).before args s = true) (hstat : (Cond.static y).before args s = true) (hinit : (Cond.initialized y.cls).before args s = true)
    (hcode : (Cond.codeWith y bytes maxL ret hh).before args s = true) (hy : y.cls ≠ "java/lang/invoke/MethodHandle" ∧ y.cls ≠ "java/lang/invoke/VarHandle")
    {g : JFrame} (hg : g.method = m) {argsL rest : List Value} (hlen : ∀ sig, parseMethodDescriptor y.desc = some sig → argsL.length = sig.parameters.length)
    (hstack : g.stack = argsL.reverse ++ rest) (hdg : decode c.code g.pc = .ok (.invokestatic index, 3)) : mj_Ent p l e R s m args below meth c T locs cells slots y g rest argsL.toArray := by
  obtain ⟨mk, methM, cM, hnamed, hmethM, -, -, -, -, -, -, hsigM⟩ := Cond.codeWith_spec hcode
  have hstatic : methM.isStatic = true := Cond.static_spec hnamed hmethM hstat
  obtain ⟨kP, hkP, -⟩ := className_of_methodNamed hnamed
  have hinitP : kP.init = .initialized := Cond.initialized_spec (findClass_of_methodNamed hnamed) hkP hinit
  obtain ⟨vm₁, X₁, hstep₁⟩ := X.invokestatic hexec hown hlink hnamed hmethM hstatic hkP hinitP hy (g := g) hg (argsL := argsL) (rest := rest) (hlen _ hsigM) hstack hdg
  exact ⟨vm₁, mk, X₁, hnamed, fun target h => hstep₁ _ fun acts => by rw [doInvoke_state]; exact h⟩
theorem mj_entI (X : Stand p l e R s m args below meth c T locs cells slots) (hexec : p.tables.exec = Jvm.exec) {own : String} {index : Nat} {y : MethodName} {bytes : ByteArray} {maxL : Nat}
    (hown : s.vm.findClass own = some m.cls) (hy1 : y.name = "<init>") (hlink : (Cond.methodLink own index y).before args s = true) (hinst : (Cond.instanceMethod y).before args s = true)
    (hcode : (Cond.code y bytes maxL none).before args s = true) (hy : y.cls ≠ "java/lang/invoke/MethodHandle" ∧ y.cls ≠ "java/lang/invoke/VarHandle")
    {g : JFrame} (hg : g.method = m) {a : Addr} {argsL rest : List Value} (hlen : ∀ sig, parseMethodDescriptor y.desc = some sig → argsL.length = sig.parameters.length)
    (hstack : g.stack = argsL.reverse ++ .ref a :: rest) (hdg : decode c.code g.pc = .ok (.invokespecial index, 3)) : mj_Ent p l e R s m args below meth c T locs cells slots y g rest (Value.ref a :: argsL).toArray := by
  subst hg
  have hpl : e.platform.magicAccessors = ({} : Platform).magicAccessors := by rw [X.admits.platform]
  obtain ⟨mk, methM, cM, kP, vm₁, hnamed, hmethM, hcodeM, -, hlocalsM, -, hkP, -, hW₁, hstep₁⟩ := Steps.initColdArgs (e := e) X.here hexec X.warmed hpl hown hy1 hy hlink hinst hcode (f := g) rfl hlen hstack hdg
  exact ⟨vm₁, mk, X.noted hW₁, hnamed, fun target h => hstep₁ _ fun acts => by rw [doInvoke_state]; exact h⟩
theorem mj_entSN (X : Stand p l e R s m args below meth c T locs cells slots) (hexec : p.tables.exec = Jvm.exec) {own : String} {index : Nat} {host : String} {y : MethodName} {bytes : ByteArray} {maxL : Nat} {ret : Option FieldType} {hh : List (Nat × Nat × Nat × Nat)}
    (hown : s.vm.findClass own = some m.cls) (hlink : (Cond.methodLinkNest own index y host).before args s = true) (hstat : (Cond.static y).before args s = true) (hinit : (Cond.initialized y.cls).before args s = true)
    (hcode : (Cond.codeWith y bytes maxL ret hh).before args s = true) (hy : y.cls ≠ "java/lang/invoke/MethodHandle" ∧ y.cls ≠ "java/lang/invoke/VarHandle")
    {g : JFrame} (hg : g.method = m) {argsL rest : List Value} (hlen : ∀ sig, parseMethodDescriptor y.desc = some sig → argsL.length = sig.parameters.length)
    (hstack : g.stack = argsL.reverse ++ rest) (hdg : decode c.code g.pc = .ok (.invokestatic index, 3)) : mj_Ent p l e R s m args below meth c T locs cells slots y g rest argsL.toArray := by
  obtain ⟨mk, methM, cM, hnamed, hmethM, -, -, -, -, -, -, hsigM⟩ := Cond.codeWith_spec hcode
  have hstatic : methM.isStatic = true := Cond.static_spec hnamed hmethM hstat
  obtain ⟨kP, hkP, -⟩ := className_of_methodNamed hnamed
  have hinitP : kP.init = .initialized := Cond.initialized_spec (findClass_of_methodNamed hnamed) hkP hinit
  obtain ⟨vm₁, X₁, hstep₁⟩ := X.invokestaticNest hexec hown hlink hnamed hmethM hstatic hkP hinitP hy (g := g) hg (argsL := argsL) (rest := rest) (hlen _ hsigM) hstack hdg
  exact ⟨vm₁, mk, X₁, hnamed, fun target h => hstep₁ _ fun acts => by rw [doInvoke_state]; exact h⟩
end MJE
end
section
/-! WHAT IS THROWN: caught by a handler of the frame's own; made and thrown by 'new E(text); athrow' -/
section MJT
variable {p : Program} {l : Launch} {e : Env} {R : Room} {s : State} {m : MethodId} {args : Array Value} {below : List Frame} {meth : Method} {c : Code} {T : State} {locs : List Loc} {cells slots : Nat}
/-- the same walk, told from the heap as it is now -/
theorem mj_rebase (X : Stand p l e R s m args below meth c T locs cells slots) {R' : Room} (h1 : R'.frames = R.frames) (h2 : R'.locals = R.locals) (h3 : cells + R'.cells ≤ R.cells) (h4 : slots + R'.slots ≤ R.slots) :
    Stand p l e R' ({ s with heap := T.heap, slotsUsed := T.slotsUsed } : State) m args below meth c T [] 0 0 := by
  have hh := X.same
  have hT := hh.1
  have hsz := X.heapSize
  have hus := X.used
  have hbk := X.book
  have hroom := X.room
  refine ⟨X.admits, X.cas, X.clock, X.frames, ?_, X.hears, X.method, X.code, X.here, X.tail, X.warmed, X.limits, X.bytes, ?_⟩
  · simp only [State.hasRoom, Bool.and_eq_true, decide_eq_true_eq] at hroom ⊢
    obtain ⟨⟨⟨⟨a1, a2⟩, a3⟩, a4⟩, a5⟩ := hroom
    refine ⟨⟨⟨⟨?_, ?_⟩, ?_⟩, ?_⟩, ?_⟩
    · rw [h2]; exact a1
    · rw [h1, h2]; exact a2
    · show T.heap.size + R'.cells ≤ _
      omega
    · show T.slotsUsed + R'.slots ≤ _
      omega
    · exact hbk
  · refine ⟨?_, Nat.le_refl _, Nat.le_refl _, ?_, ?_, ?_⟩
    · exact hT
    · show T.slotsUsed = T.slotsUsed + ((T.heap.toList.drop T.heap.size).map (·.slots.size)).sum
      rw [List.drop_eq_nil_of_le (by simp)]
      rfl
    · show ((T.heap.toList.drop T.heap.size).map (·.slots.size)).sum ≤ 0
      rw [List.drop_eq_nil_of_le (by simp)]
      exact Nat.le_refl _
    · intro a c hc
      exact ⟨c, hc, rfl, rfl, fun _ _ => rfl⟩
theorem mj_stepCatch {S : State} {f : JFrame} {r : List Frame} {a : Addr} {pc : Nat} {vm' : Vm} (hfind : ∀ (Q : Handler → Pre) (E : CtlPost) (d : Bool) (acts : List Action), wp (findHandler f a) Q E e d acts S ↔ Q (.found pc) d acts (S.setVm vm')) :
    (stepThrowing e S a (.java f :: r)).1 = (S.setVm vm').setFrames (.java { f with pc := pc, stack := [.ref a] } :: r) := by
  simp only [stepThrowing, searchFrame, vmDo]
  generalize hr : Sem.go _ e false [] S = res
  obtain ⟨as, rfl, ha⟩ := Sem.eq_ok_of hr (a := Handler.found pc) (s' := S.setVm vm') (acts' := []) (by simp [hfind _ _ _ _])
  rfl
/-- a handler that takes it: its class's entry links -/
theorem mj_caught1 {g : JFrame} {a : Addr} {x : ExceptionTableEntry} {own nm : String} (X : Stand p l e R s m args below meth c T locs cells slots) (hg : g.method = m) (htab : c.exceptionTable.toList = [x]) (hx : covers x g.pc = true) (h0 : x.catchType ≠ 0)
    (hown : s.vm.findClass own = some m.cls) (hlink : (Cond.classLink own x.catchType nm).before args s = true) {cell : Cell} (hcell : T.heap[a]? = some cell) (hobj : cell.vm.isStatics = false) {cN : ClassId} (hN : s.vm.findClass nm = some cN) (hcls : s.vm.assignable cell.cls cN = true) :
    ∃ vm', Stand p l e R s m args below meth c (T.setVm vm') locs cells slots ∧ ∀ target, Steps p.tables e below ((T.setVm vm').setTop { g with pc := x.handlerPc, stack := [.ref a] }) target → Steps p.tables e below ((T.setTop g).pushFrame (.throwing a)) target := by
  have hpl : e.platform.magicAccessors = ({} : Platform).magicAccessors := by rw [X.admits.platform]
  obtain ⟨cN', hN', hl⟩ := Cond.classLink_spec hown hlink e.platform hpl
  cases hN.symm.trans hN'
  obtain ⟨hgv, hwm, hrd⟩ := State.classEntry (e := e) X.warmed hl
  generalize hvm : T.vm.noted m.cls x.catchType (.cls cN) = vm' at hgv hwm hrd
  refine ⟨vm', X.noted hwm, fun target hrest => ?_⟩
  have h : At T g.method c below := by rw [hg]; exact X.here
  obtain ⟨hgo, hw⟩ := h.throwing a
  refine Steps.head hgo hw ?_
  rw [stepThread_throwing (frames_entered h.top _)]
  have hsz : vm'.classes.size ≤ ((T.setTop g).pushFrame (.throwing a)).vm.classes.size := by
    have h1 := hwm.alike.2.1
    have h2 := X.warmed.alike.2.1
    show vm'.classes.size ≤ T.vm.classes.size
    omega
  have hgv : (Jvm.resolveClass m.cls x.catchType).Gives e.toSetting ((T.setTop g).pushFrame (.throwing a)).vm (.ok cN) vm' := hgv
  have hcell : ((T.setTop g).pushFrame (.throwing a)).heap[a]? = some cell := hcell
  have hal : s.vm.Alike vm' := hwm.alike
  have hfind : ∀ (Q : Handler → Pre) (E : CtlPost) (d : Bool) (acts : List Action), wp (findHandler g a) Q E e d acts ((T.setTop g).pushFrame (.throwing a)) ↔ Q (.found x.handlerPc) d acts (((T.setTop g).pushFrame (.throwing a)).setVm vm') := by
    intro Q E d acts
    rw [W.findHandler_eq (s := (T.setTop g).pushFrame (.throwing a)) (meth := meth) (code := c) (by rw [hg]; exact X.method') X.code, htab]
    obtain ⟨ha, ht⟩ := hgv.op (op := VmOp.resolveClass m.cls x.catchType) rfl
    have hfit : vm'.assignable cell.cls cN = true := by rw [hal.assignable]; exact hcls
    have hk2 := Vm.classAt_of_findClass (vm := vm') (name := nm) (c := cN) (by rw [hal.findClass]; exact hN)
    have hk1 := Vm.classAt_of_assignable hfit hk2
    have hobj' := VmData.ne_statics_of hobj
    simp only [covers] at hx
    simp [findHandler.go, hx, h0, hg, ha, ht, hsz, hcell, hobj', hk1, hk2, hfit, VmOp.dirties, VmOp.acts]
  rw [mj_stepCatch hfind]
  obtain ⟨g₀, hg0⟩ := Option.isSome_iff_exists.mp h.top
  obtain ⟨r, hr⟩ := State.topJava?_eq_some.mp hg0
  rw [State.setTop_of_frames _ (show (T.setVm vm').frames = .java g₀ :: r from hr)] at hrest
  rw [State.pushFrame, State.setTop_of_frames _ hr, State.setFrames_setFrames, State.setFrames_setVm, State.setFrames_setFrames, hr]
  exact hrest
end MJT
end
section
/-! WORDS THAT HOLD AT THE START HOLD LATER: the tables are warmer, no old cell has changed -/
/-- since the start s0: the tables warmer, every old cell as it was -/
def mj_Cst (s0 U : State) : Prop := s0.WarmedH U.vm ∧ s0.heap.size ≤ U.heap.size ∧ ∀ q : Nat, q < s0.heap.size → U.heap[q]? = s0.heap[q]?
theorem mj_Cst.at {s0 U : State} (h : mj_Cst s0 U) {q : Nat} {cell : Cell} (hc : s0.heap[q]? = some cell) : U.heap[q]? = some cell := by
  rw [h.2.2 q (Array.getElem?_eq_some_iff.mp hc).1]; exact hc
theorem mj_keepG {s0 U : State} {A A' : Array Value} {w : Cond} (h : mj_Cst s0 U) (hw : goodWord w = true) (hb : w.before A s0 = true) : w.before A' U = true := word_at h.1 (good_of_word hw) hb
theorem mj_keepT {s0 U : State} {A A' : Array Value} {w : Cond} (h : mj_Cst s0 U) (hw : w.keepsFace = true) (ht : w.onTables = true) (hb : w.before A s0 = true) : w.before A' U = true := by
  have h1 : w.before A (s0.setVm U.vm) = true := Cond.before_shiftedFace (State.Shifted.of_warmed h.1) _ hw hb
  exact va_tabs ht (rfl : (s0.setVm U.vm).vm = U.vm) h1
theorem mj_keepN {s0 U : State} {A A' : Array Value} {a : String} {i : Nat} {x : MethodName} {ho : String} (h : mj_Cst s0 U) (hb : (Cond.methodLinkNest a i x ho).before A s0 = true) : (Cond.methodLinkNest a i x ho).before A' U = true :=
  va_Nw.use rfl (va_Nw.warmM h.1 (va_Nw.of rfl hb))
theorem mj_keepL {s0 U : State} {A A' : Array Value} {o n d : String} (h : mj_Cst s0 U) (hb : (Cond.laysStatic o n d).before A s0 = true) : (Cond.laysStatic o n d).before A' U = true := by
  obtain ⟨c, k, i, f, a, cell, h1, h2, h3, h4, h5, h6, h7, h8, h9⟩ := Cond.laysStatic_spec hb
  obtain ⟨k', hi', he⟩ := State.fieldFound?_setVm h.1.alike h2
  have e1 : U.vm.findClass o = some c := by rw [h.1.alike.findClass]; exact h1
  have e4 : k'.statics = some a := by rw [he]; exact h4
  have e9 : k'.staticTypes[f.slot]? = some f.type := by rw [he]; exact h9
  have hi' : U.fieldFound? o n d = some (c, k', i, f) := hi'
  simp only [Cond.before, Cond.holds, Cond.value, e1, hi', e4, h.at h5, h3, h6, h7, h8, e9]
  simp
  exact ⟨cell, h.at h5, ⟨h6, h7⟩, h8⟩
theorem mj_keepR {s0 U : State} {A A' : Array Value} {o n d : String} (h : mj_Cst s0 U) (hl : (Cond.laysStatic o n d).before A s0 = true) (hb : (Cond.isRef (.static o n d)).before A s0 = true) : (Cond.isRef (.static o n d)).before A' U = true := by
  obtain ⟨c, k, i, f, a, cell, h1, h2, h3, h4, h5, h6, h7, h8, h9⟩ := Cond.laysStatic_spec hl
  obtain ⟨k', hi', he⟩ := State.fieldFound?_setVm h.1.alike h2
  have e4 : k'.statics = some a := by rw [he]; exact h4
  have hi' : U.fieldFound? o n d = some (c, k', i, f) := hi'
  have ev : (Term.static o n d).eval A' U none [] U = (Term.static o n d).eval A s0 none [] s0 := by
    simp [Term.eval, State.fieldNamed?, hi', h2, h3, e4, h4, h.at h5, h5]
  simp only [Cond.before, Cond.holds, Cond.value] at hb ⊢
  rw [ev]
  exact hb
end
section
/-! 'new E; dup; ldc text; invokespecial E.<init>(String); athrow', in a method without handlers there -/
/-- all words of a throw hold at the start -/
def mj_Thr (A : Array Value) (s0 : State) (own : String) (ic : Nat) (cls : String) (names : List String) : Prop :=
  (∀ w ∈ Bundle.ownAtoms own ic cls names, w.before A s0 = true ∧ (goodWord w = true ∨ (w.keepsFace = true ∧ w.onTables = true) ∨ (∃ o n d, w = .laysStatic o n d) ∨ ∃ o n d, w = .isRef (.static o n d) ∧ (Cond.laysStatic o n d).before A s0 = true))
theorem mj_Thr.at {A A' : Array Value} {s0 U : State} {own : String} {ic : Nat} {cls : String} {names : List String} (h : mj_Thr A s0 own ic cls names) (hC : mj_Cst s0 U) : ∀ w ∈ Bundle.ownAtoms own ic cls names, w.before A' U = true := by
  intro w hw
  obtain ⟨hb, h1 | ⟨h1, h2⟩ | ⟨o, n, d, rfl⟩ | ⟨o, n, d, rfl, h1⟩⟩ := h w hw
  · exact mj_keepG hC h1 hb
  · exact mj_keepT hC h1 h2 hb
  · exact mj_keepL hC hb
  · exact mj_keepR hC h1 hb
section MJW
variable {p : Program} {l : Launch} {e : Env} {R : Room} {s s0 : State} {m : MethodId} {args : Array Value} {below : List Frame} {meth : Method} {c : Code} {T : State} {locs : List Loc} {cells slots : Nat}
set_option maxHeartbeats 1000000 in
theorem mj_throw (X : Stand p l e R s m args below meth c T locs cells slots) (hexec : p.tables.exec = Jvm.exec) (htr : e.platform.stackTraces = false) {A : Array Value} {own cls : String} {names : List String} {ic iN iL : Nat} {tx : String} {q0 : Nat}
    (hC : mj_Cst s0 s) (hCT : mj_Cst s0 T) (hown : s.vm.findClass own = some m.cls) (hcls : Bundle.fit cls = true) (hnames : ∀ n ∈ names, Bundle.fit n = true) (hth : mj_Thr A s0 own ic cls names)
    (hclink : (Cond.classLink own iN cls).before args s = true) (hins : (Cond.instantiable cls 6).before args s = true) (hinit : (Cond.initialized cls).before args s = true) (hstr : vk_R own iL tx q0 s)
    {pc : Nat} {ls : Array Slot} {rest : List Value} (hsize : ls.size = c.maxLocals)
    (hd0 : decode c.code pc = .ok (.new iN, 3)) (hd3 : decode c.code (pc + 3) = .ok (.dup, 1)) (hd4 : decode c.code (pc + 4) = .ok (.ldc iL, 2)) (hd6 : decode c.code (pc + 6) = .ok (.invokespecial ic, 3)) (hd9 : decode c.code (pc + 9) = .ok (.athrow, 1)) (hout : ∀ x ∈ c.exceptionTable.toList, covers x (pc + 9) = false)
    (hRframes : names.length + 3 < R.frames) (hRlocals : (rest.map fun v => v.category).sum + (13 * (names.length + 1) + 43) ≤ R.locals) (hcells : cells + 1 ≤ R.cells) (hslots : slots + 6 ≤ R.slots) (hlocks : meth.locks = false) :
    ∃ (U : State) (a : Addr) (ce : Cell), Steps p.tables e below (T.setTop (F0 m pc ls rest)) U ∧ U.status = .running ∧ Ended U below (.threw a) ∧ s.WarmedH U.vm ∧ s.sameButNew ({ U with vm := s.vm } : State) locs (cells + 1) (slots + 6) ∧
      T.heap.size ≤ U.heap.size ∧ (∀ q : Nat, q < T.heap.size → U.heap[q]? = T.heap[q]?) ∧ U.heap[a]? = some ce ∧ s.vm.findClass cls = some ce.cls ∧ ce.vm.isStatics = false := by
  have X0 : Stand p l e { frames := R.frames, cells := 1, slots := 6, locals := R.locals } ({ s with heap := T.heap, slotsUsed := T.slotsUsed } : State) m args below meth c T [] 0 0 := mj_rebase X rfl rfl hcells hslots
  generalize hs' : ({ s with heap := T.heap, slotsUsed := T.slotsUsed } : State) = s' at X0
  have hvm' : s'.vm = s.vm := by rw [← hs']
  have hhp' : s'.heap = T.heap := by rw [← hs']
  have hC' : mj_Cst s0 s' := ⟨by rw [hvm']; exact hC.1, by rw [hhp']; exact hCT.2.1, fun q hq => by rw [hhp']; exact hCT.2.2 q hq⟩
  have tb : ∀ {w : Cond}, w.onTables = true → w.before args s = true → w.before args s' = true := fun hw hb => va_tabs hw hvm'.symm hb
  have hown' : s'.vm.findClass own = some m.cls := by rw [hvm']; exact hown
  have K : W p l e { frames := R.frames, cells := 1, slots := 6, locals := R.locals } s' m args below meth c T.heap [] 0 0 (fun U => ∃ (a : Addr) (ce : Cell), U.status = .running ∧ Ended U below (.threw a) ∧ s'.WarmedH U.vm ∧ s'.sameButNew ({ U with vm := s'.vm } : State) [] 1 6 ∧ U.heap[a]? = some ce ∧ s'.vm.findClass cls = some ce.cls ∧ ce.vm.isStatics = false) (F0 m pc ls rest) := by
    refine W.newc hexec rfl hown' (tb rfl hclink) (tb rfl hins) (tb rfl hinit) rfl hd0 (Nat.le_refl _) (Nat.le_refl _) (fun cC kC h1 h2 h3 h4 => ?_)
    refine lv_dup hexec rfl hd3 rfl ?_
    refine va_ldcS hexec rfl hown' (hstr.same hvm') hd4 ?_
    intro T1 hT1 X1
    obtain ⟨U, u1, u2, u3, u4, u5, ce, u6, u7⟩ := X1.ctorThrowS hexec htr (own := own) (cls := cls) (names := names) (ic := ic) hown' hcls hnames (hth.at hC') (fun x hx => by cases hx) (a := T.heap.size) h1 h2
      (by rw [hT1]; simp) (by rw [hhp']; exact Nat.le_refl _) (msg := .ref q0) rfl (g := F0 m (pc + 6) ls (.ref q0 :: .ref T.heap.size :: .ref T.heap.size :: rest)) rfl hsize rfl rfl rfl hd6 hd9 hout hRframes
      (by show 2 * 0 + (1 + (rest.map fun v => v.category).sum) + _ ≤ R.locals; omega) hlocks
    exact ⟨U, u1, T.heap.size, ce, u2, u3, u4, u5, u6, u7.cls, by rw [u7.vm]; rfl⟩
  obtain ⟨U, u1, a, ce, u2, u3, u4, u5, u6, u7, u8⟩ := K T rfl X0
  have hsm : (T.setVm s.vm).sameButNew ({ U with vm := s.vm } : State) [] 1 6 := by
    obtain ⟨e1, e2, e3, e4, e5, e6⟩ := u5
    subst hs'
    refine ⟨?_, e2, e3, e4, e5, e6⟩
    have e7 := X.same.1
    rw [e7]
    refine e1.trans ?_
    simp [State.setFrames]
    exact (congrArg State.threads (State.setFrames_setFrames s T.frames ({ U with vm := s.vm } : State).frames)).symm
  have h9 := X.same.trans hsm
  rw [List.append_nil] at h9
  refine ⟨U, a, ce, u1, u2, u3, by subst hs'; exact u4, h9, ?_, ?_, u6, by rw [← hvm']; exact u7, u8⟩
  · exact hsm.2.1
  · intro q hq
    have hc : (T.setVm s.vm).heap[q]? = some (T.heap[q]) := Array.getElem?_eq_getElem hq
    obtain ⟨c', h1, h2, h3, h4⟩ := hsm.2.2.2.2.2 q _ hc
    have hsl : c'.slots = T.heap[q].slots := by
      apply Array.ext_getElem?
      intro i
      exact h4 i (by simp)
    have hcc : c' = T.heap[q] := by rw [h2, hsl]
    show U.heap[q]? = T.heap[q]?
    rw [Array.getElem?_eq_getElem hq, ← hcc]
    exact h1
end MJW
end
section
/-! THE STORE AND THE HEAP: cell a of the store lies at the address ad a -/
theorem mj_row_ne {α : Type} {f : Nat → Nat → α} {a b : Nat} {g : Nat → α} (h : b ≠ a) : mj_row f a g b = f b := by funext k; simp [mj_row, h]
theorem mj_row_eq {α : Type} {f : Nat → Nat → α} {a : Nat} {g : Nat → α} : mj_row f a g a = g := by funext k; simp [mj_row]
theorem mj_up_ne {α : Type} {f : Nat → Nat → α} {a b j : Nat} {v : α} (h : b ≠ a) : mj_up f a j v b = f b := by funext k; simp [mj_up, h]
theorem mj_up_eq {f : Nat → Nat → Int32} {a j : Nat} {v : Int32} : mj_up f a j v a = upd (f a) j v := by funext k; simp [mj_up, upd]
theorem mj_up_eqL {f : Nat → Nat → Int64} {a j : Nat} {v : Int64} : mj_up f a j v a = vp_updL (f a) j v := by funext k; simp [mj_up, vp_updL]
def mj_tr (ad : Nat → Nat) : Value → Value
  | .ref a => .ref (ad a)
  | v => v
theorem mj_tr_cat (ad : Nat → Nat) (v : Value) : (mj_tr ad v).category = v.category := by cases v <;> rfl
def mj_fv (ad : Nat → Nat) (S : mj_S) (a j t : Nat) : Value := match t with
  | 2 => match S.2.2.2.1 a j with
    | some q => .ref (ad q)
    | none => .null
  | _ => .int (S.2.1 a j)
def mj_ent (ft : Nat → Nat → Nat) (ka : Nat → ClassId) (ad : Nat → Nat) (S : mj_S) (a : Nat) (kn : Nat × Nat) : va_E :=
  if kn.1 < 1000 then .inr (kn.1, (List.range kn.2).map fun j => mj_fv ad S a j (ft kn.1 j))
  else .inl (ka (kn.1 - 1000), kn.2, if kn.1 = 1001 then .inr (.inl (S.2.2.1 a)) else .inl (S.2.1 a))
def mj_ws (ft : Nat → Nat → Nat) (ka : Nat → ClassId) (ad : Nat → Nat) (S : mj_S) : va_W := (List.range S.1.length).map fun a => (ad a, mj_ent ft ka ad S a (S.1.getD a (0, 0)))
/-- references name cells that are there, or constants -/
def mj_wr (n q : Nat) : Prop := q < n ∨ 900000 ≤ q
def mj_wv (n : Nat) : Value → Prop
  | .ref q => mj_wr n q
  | _ => True
def mj_wS (S : mj_S) : Prop := (S.1.length < 900000 ∧ S.1.length ≤ S.2.2.2.2.1 ∧ S.2.2.2.2.1 ≤ 601024 ∧ S.2.2.2.2.2 ≤ 7293034) ∧ ∀ a j q, S.2.2.2.1 a j = some q → mj_wr S.1.length q
def mj_wL (n : Nat) (lv : mj_LV) : Prop := ∀ i v, lv.getD i none = some v → mj_wv n v
def mj_wT (n : Nat) (st : List Value) : Prop := ∀ v ∈ st, mj_wv n v
section MJWS
variable {ft : Nat → Nat → Nat} {ka : Nat → ClassId} {ad : Nat → Nat} {S : mj_S}
theorem mj_ws_at {a : Nat} {kn : Nat × Nat} (h : S.1[a]? = some kn) : (mj_ws ft ka ad S)[a]? = some (ad a, mj_ent ft ka ad S a kn) := by
  have hl := (List.getElem?_eq_some_iff.mp h).1
  unfold mj_ws
  rw [List.getElem?_map, List.getElem?_range hl]
  simp only [Option.map_some, List.getD_eq_getElem?_getD, h, Option.getD_some]
theorem mj_ws_len : (mj_ws ft ka ad S).length = S.1.length := by simp [mj_ws]
/-- two stores of the same kinds, told apart at one cell -/
theorem mj_ws_set {S' : mj_S} {a : Nat} {kn : Nat × Nat} (h : S.1[a]? = some kn) (hs : S'.1 = S.1) (ho : ∀ b, b ≠ a → S'.2.1 b = S.2.1 b ∧ S'.2.2.1 b = S.2.2.1 b ∧ S'.2.2.2.1 b = S.2.2.2.1 b) :
    mj_ws ft ka ad S' = (mj_ws ft ka ad S).set a (ad a, mj_ent ft ka ad S' a kn) := by
  apply List.ext_getElem?
  intro b
  have hl := (List.getElem?_eq_some_iff.mp h).1
  by_cases hb : b = a
  · subst hb
    rw [mj_ws_at (by rw [hs]; exact h), List.getElem?_set_self (by rw [mj_ws_len]; exact hl)]
  · rw [List.getElem?_set_ne (Ne.symm hb)]
    cases hk : S.1[b]? with
    | none =>
      have h1 : S.1.length ≤ b := List.getElem?_eq_none_iff.mp hk
      rw [List.getElem?_eq_none_iff.mpr (by rw [mj_ws_len, hs]; exact h1), List.getElem?_eq_none_iff.mpr (by rw [mj_ws_len]; exact h1)]
    | some kb =>
      rw [mj_ws_at (by rw [hs]; exact hk), mj_ws_at hk]
      obtain ⟨e1, e2, e3⟩ := ho b hb
      simp only [mj_ent, mj_fv, e1, e2, e3]
/-- the addresses of cells that are there alone matter -/
theorem mj_ws_ad {ad' : Nat → Nat} (hw : mj_wS S) (h : ∀ q, mj_wr S.1.length q → ad' q = ad q) : mj_ws ft ka ad' S = mj_ws ft ka ad S := by
  apply List.ext_getElem?
  intro b
  cases hk : S.1[b]? with
  | none =>
    have h1 : S.1.length ≤ b := List.getElem?_eq_none_iff.mp hk
    rw [List.getElem?_eq_none_iff.mpr (by rw [mj_ws_len]; exact h1), List.getElem?_eq_none_iff.mpr (by rw [mj_ws_len]; exact h1)]
  | some kb =>
    have hl := (List.getElem?_eq_some_iff.mp hk).1
    have key : ∀ j t, mj_fv ad' S b j t = mj_fv ad S b j t := by
      intro j t
      unfold mj_fv
      split
      · split
        · rename_i q hq
          rw [h q (hw.2 _ _ _ hq)]
        · rfl
      · rfl
    rw [mj_ws_at hk, mj_ws_at hk, h b (Or.inl hl)]
    simp only [mj_ent, key]
/-- a new cell -/
theorem mj_ws_new {k n q : Nat} (hw : mj_wS S) (hn : S.2.2.2.2.1 + 1 ≤ 601024 ∧ S.2.2.2.2.2 + n ≤ 7293034) :
    let S' : mj_S := (S.1 ++ [(k, n)], mj_row S.2.1 S.1.length (fun _ => 0), mj_row S.2.2.1 S.1.length (fun _ => 0), mj_row S.2.2.2.1 S.1.length (fun _ => none), S.2.2.2.2.1 + 1, S.2.2.2.2.2 + n)
    let ad' : Nat → Nat := fun i => if i = S.1.length then q else ad i
    mj_ws ft ka ad' S' = mj_ws ft ka ad S ++ [(q, mj_ent ft ka ad' S' S.1.length (k, n))] ∧ mj_wS S' ∧ ∀ i, mj_wr S.1.length i → ad' i = ad i := by
  intro S' ad'
  have hlen : S'.1.length = S.1.length + 1 := by simp [S']
  have had : ∀ i, mj_wr S.1.length i → ad' i = ad i := by
    intro i hi
    have : i ≠ S.1.length := by rcases hi with h | h <;> have := hw.1.1 <;> omega
    simp only [ad', if_neg this]
  refine ⟨?_, ⟨⟨by rw [hlen]; have := hw.1.2.1; omega, by rw [hlen]; have := hw.1.2.1; show S.1.length + 1 ≤ S.2.2.2.2.1 + 1; omega, hn.1, hn.2⟩, ?_⟩, had⟩
  · apply List.ext_getElem?
    intro b
    by_cases hb : b < S.1.length
    · rw [List.getElem?_append_left (by rw [mj_ws_len]; exact hb)]
      have hk : S.1[b]? = some S.1[b] := List.getElem?_eq_getElem hb
      have hk' : S'.1[b]? = some S.1[b] := by simp only [S', List.getElem?_append_left hb]; exact hk
      rw [mj_ws_at hk', mj_ws_at hk, had b (Or.inl hb)]
      have hne : b ≠ S.1.length := by omega
      have key : ∀ j t, mj_fv ad' S' b j t = mj_fv ad S b j t := by
        intro j t
        simp only [mj_fv, S', mj_row, if_neg hne]
        split
        · split
          · rename_i q hq
            rw [had q (hw.2 _ _ _ hq)]
          · rfl
        · rfl
      simp only [mj_ent, key]
      simp only [S', mj_row_ne hne]
    · by_cases hb2 : b = S.1.length
      · subst hb2
        have hk' : S'.1[S.1.length]? = some (k, n) := by simp [S']
        rw [mj_ws_at hk', List.getElem?_append_right (by rw [mj_ws_len]; exact Nat.le_refl _), mj_ws_len, Nat.sub_self]
        simp [ad']
      · rw [List.getElem?_eq_none_iff.mpr (by rw [mj_ws_len, hlen]; omega), List.getElem?_eq_none_iff.mpr (by simp [mj_ws_len]; omega)]
  · intro a j q hq
    simp only [S', mj_row] at hq
    split at hq
    · cases hq
    · rcases hw.2 _ _ _ hq with h | h
      · exact Or.inl (by rw [hlen]; omega)
      · exact Or.inr h
end MJWS
end
section
/-! THE LOCALS -/
def mj_lr (ad : Nat → Nat) (nL : Nat) (lv : mj_LV) (ls : Array Slot) : Prop := ls.size = nL ∧ lv_wf ls ∧ ∀ i v, lv.getD i none = some v → ls[i]? = some (.val (mj_tr ad v))
def mj_ps (ad : Nat → Nat) (lv : mj_LV) : List (Nat × Value) := (List.range lv.length).filterMap fun i => (lv.getD i none).map fun v => (i, mj_tr ad v)
theorem mj_getD_lt {lv : mj_LV} {i : Nat} {v : Value} (h : lv.getD i none = some v) : i < lv.length := by
  by_cases hl : i < lv.length
  · exact hl
  · rw [List.getD_eq_getElem?_getD, List.getElem?_eq_none_iff.mpr (by omega)] at h
    cases h
theorem mj_ps_mem {ad : Nat → Nat} {lv : mj_LV} {q : Nat × Value} : q ∈ mj_ps ad lv ↔ ∃ v, lv.getD q.1 none = some v ∧ q.2 = mj_tr ad v := by
  unfold mj_ps
  rw [List.mem_filterMap]
  constructor
  · rintro ⟨i, -, h⟩
    obtain ⟨v, h1, h2⟩ := Option.map_eq_some_iff.mp h
    subst h2
    exact ⟨v, h1, rfl⟩
  · rintro ⟨v, h1, h2⟩
    refine ⟨q.1, List.mem_range.mpr (mj_getD_lt h1), ?_⟩
    rw [h1]
    simp [← h2]
theorem mj_lr.has {ad : Nat → Nat} {nL : Nat} {lv : mj_LV} {ls : Array Slot} (h : mj_lr ad nL lv ls) : lv_has ls nL (mj_ps ad lv) := by
  refine ⟨h.1, h.2.1, fun q hq => ?_⟩
  obtain ⟨v, h1, h2⟩ := mj_ps_mem.mp hq
  rw [h2]
  exact h.2.2 _ _ h1
theorem mj_set_get {lv : mj_LV} {i j : Nat} {x : Option Value} {w : Value} (h : (lv.set i x).getD j none = some w) : (j = i ∧ x = some w) ∨ (j ≠ i ∧ lv.getD j none = some w) := by
  rw [List.getD_eq_getElem?_getD] at h
  by_cases hj : j = i
  · subst hj
    by_cases hl : j < lv.length
    · rw [List.getElem?_set_self hl] at h
      exact Or.inl ⟨rfl, h⟩
    · rw [List.getElem?_eq_none_iff.mpr (by simp; omega)] at h
      cases h
  · rw [List.getElem?_set_ne (Ne.symm hj)] at h
    exact Or.inr ⟨hj, by rw [List.getD_eq_getElem?_getD]; exact h⟩
theorem mj_c2_cat {w : Value} (h : w.category = 2) : mj_c2 (some w) = true := by cases w <;> simp_all [Value.category, mj_c2]
theorem mj_st_get {lv : mj_LV} {i j : Nat} {v w : Value} (h : (mj_st lv i v).getD j none = some w) : (j = i ∧ w = v) ∨ (j ≠ i ∧ lv.getD j none = some w ∧ ¬ (j + 1 = i ∧ w.category = 2)) := by
  unfold mj_st at h
  split at h
  · rcases mj_set_get h with ⟨h1, h2⟩ | ⟨h1, h2⟩
    · cases h2; exact Or.inl ⟨h1, rfl⟩
    · exact Or.inr ⟨h1, h2, fun q => by omega⟩
  · rename_i k
    split at h
    · rcases mj_set_get h with ⟨h1, h2⟩ | ⟨h1, h2⟩
      · cases h2; exact Or.inl ⟨h1, rfl⟩
      · rcases mj_set_get h2 with ⟨h3, h4⟩ | ⟨h3, h4⟩
        · cases h4
        · exact Or.inr ⟨h1, h4, fun q => by omega⟩
    · rename_i hc
      rcases mj_set_get h with ⟨h1, h2⟩ | ⟨h1, h2⟩
      · cases h2; exact Or.inl ⟨h1, rfl⟩
      · refine Or.inr ⟨h1, h2, fun q => hc ?_⟩
        have : j = k := by omega
        subst this
        rw [h2]
        exact mj_c2_cat q.2
theorem mj_lr.store1 {ad : Nat → Nat} {nL : Nat} {lv : mj_LV} {ls' : Array Slot} {i : Nat} {v : Value} (h : lv_has ls' nL ((i, mj_tr ad v) :: (mj_ps ad lv).filter (fun q => !(q.1 == i) && !(q.1 + 1 == i && q.2.category == 2)))) : mj_lr ad nL (mj_st lv i v) ls' := by
  refine ⟨h.1, h.2.1, fun j w hj => ?_⟩
  rcases mj_st_get hj with ⟨h1, h2⟩ | ⟨h1, h2, h3⟩
  · subst h1; subst h2
    exact h.2.2 _ List.mem_cons_self
  · refine h.2.2 (j, mj_tr ad w) (List.mem_cons_of_mem _ (List.mem_filter.mpr ⟨mj_ps_mem.mpr ⟨w, h2, rfl⟩, ?_⟩))
    simp only [Bool.and_eq_true, Bool.not_eq_true', beq_eq_false_iff_ne, ne_eq, Bool.and_eq_false_iff, mj_tr_cat]
    refine ⟨h1, ?_⟩
    by_cases hq : j + 1 = i
    · exact Or.inr (fun q => h3 ⟨hq, q⟩)
    · exact Or.inl hq
theorem mj_lr.store2 {ad : Nat → Nat} {nL : Nat} {lv : mj_LV} {ls' : Array Slot} {i : Nat} {v : Int64} (h : lv_has ls' nL ((i, .long v) :: (mj_ps ad lv).filter (fun q => !(q.1 == i) && (!(q.1 == i + 1) && !(q.1 + 1 == i && q.2.category == 2))))) : mj_lr ad nL (mj_st2 lv i v) ls' := by
  refine ⟨h.1, h.2.1, fun j w hj => ?_⟩
  unfold mj_st2 at hj
  rcases mj_set_get hj with ⟨-, h2⟩ | ⟨h0, h2⟩
  · cases h2
  · rcases mj_st_get h2 with ⟨h1, h4⟩ | ⟨h1, h2, h3⟩
    · subst h1
      rw [h4]
      exact h.2.2 (j, .long v) List.mem_cons_self
    · refine h.2.2 (j, mj_tr ad w) (List.mem_cons_of_mem _ (List.mem_filter.mpr ⟨mj_ps_mem.mpr ⟨w, h2, rfl⟩, ?_⟩))
      simp only [Bool.and_eq_true, Bool.not_eq_true', beq_eq_false_iff_ne, ne_eq, Bool.and_eq_false_iff, mj_tr_cat]
      refine ⟨h1, h0, ?_⟩
      by_cases hq : j + 1 = i
      · exact Or.inr (fun q => h3 ⟨hq, q⟩)
      · exact Or.inl hq
theorem mj_lr.less {ad : Nat → Nat} {nL : Nat} {lv lv' : mj_LV} {ls : Array Slot} (h : mj_lr ad nL lv ls) (hl : ∀ i v, lv'.getD i none = some v → lv.getD i none = some v) : mj_lr ad nL lv' ls := ⟨h.1, h.2.1, fun i v q => h.2.2 i v (hl i v q)⟩
theorem mj_lr.ad {ad ad' : Nat → Nat} {nL n : Nat} {lv : mj_LV} {ls : Array Slot} (h : mj_lr ad nL lv ls) (hw : mj_wL n lv) (ha : ∀ q, mj_wr n q → ad' q = ad q) : mj_lr ad' nL lv ls := by
  refine ⟨h.1, h.2.1, fun i v q => ?_⟩
  rw [h.2.2 i v q]
  have := hw i v q
  cases v <;> simp_all [mj_tr, mj_wv]
theorem mj_mk_get : ∀ (mk : List Bool) (lv : mj_LV) (i : Nat) (v : Value), (mj_mk mk lv).getD i none = some v → lv.getD i none = some v
  | [], _, i, v, h => by simp [mj_mk] at h
  | _ :: _, [], i, v, h => by simp [mj_mk] at h
  | b :: bs, x :: xs, 0, v, h => by
    simp only [mj_mk, List.getD_cons_zero] at h ⊢
    split at h
    · exact h
    · cases h
  | b :: bs, x :: xs, i + 1, v, h => by
    simp only [mj_mk, List.getD_cons_succ] at h ⊢
    exact mj_mk_get bs xs i v h
theorem mj_wL.less {n : Nat} {lv lv' : mj_LV} (h : mj_wL n lv) (hl : ∀ i v, lv'.getD i none = some v → lv.getD i none = some v) : mj_wL n lv' := fun i v q => h i v (hl i v q)
theorem mj_wL.store {n : Nat} {lv : mj_LV} {i : Nat} {v : Value} (h : mj_wL n lv) (hv : mj_wv n v) : mj_wL n (mj_st lv i v) := by
  intro j w hj
  rcases mj_st_get hj with ⟨-, h2⟩ | ⟨-, h2, -⟩
  · rw [h2]; exact hv
  · exact h j w h2
theorem mj_wL.store2 {n : Nat} {lv : mj_LV} {i : Nat} {v : Int64} (h : mj_wL n lv) : mj_wL n (mj_st2 lv i v) := by
  intro j w hj
  unfold mj_st2 at hj
  rcases mj_set_get hj with ⟨-, h2⟩ | ⟨-, h2⟩
  · cases h2
  · exact h.store (v := .long v) trivial j w h2
theorem mj_none_get {lv : mj_LV} {k i : Nat} {v : Value} (h : (lv.set k none).getD i none = some v) : lv.getD i none = some v := by
  rcases mj_set_get h with ⟨-, h2⟩ | ⟨-, h2⟩
  · cases h2
  · exact h2
theorem mj_er_get {lv : mj_LV} {i j : Nat} {v : Value} (h : (mj_er lv i).getD j none = some v) : j ≠ i ∧ lv.getD j none = some v ∧ ¬ (j + 1 = i ∧ v.category = 2) := by
  unfold mj_er at h
  rcases mj_set_get h with ⟨-, h2⟩ | ⟨h0, h2⟩
  · cases h2
  · rcases mj_st_get h2 with ⟨h1, -⟩ | h3
    · exact absurd h1 h0
    · exact h3
/-- the locals with which a method begins -/
theorem mj_en_args (ad : Nat → Nat) : ∀ (as : List Value) (k i : Nat) (v : Value), (mj_en as).getD i none = some v → (k + i, mj_tr ad v) ∈ lv_args k (as.map (mj_tr ad))
  | [], k, i, v, h => by simp [mj_en] at h
  | x :: r, k, i, v, h => by
    have one : ∀ (h1 : mj_en (x :: r) = some x :: mj_en r) (h2 : (mj_tr ad x).category = 1), (k + i, mj_tr ad v) ∈ lv_args k ((x :: r).map (mj_tr ad)) := by
      intro h1 h2
      rw [h1] at h
      simp only [List.map_cons, lv_args, h2, List.mem_cons]
      cases i with
      | zero =>
        simp only [List.getD_cons_zero, Option.some.injEq] at h
        subst h
        exact Or.inl rfl
      | succ i =>
        simp only [List.getD_cons_succ] at h
        exact Or.inr (by rw [show k + (i + 1) = k + 1 + i by omega]; exact mj_en_args ad r (k + 1) i v h)
    have two : ∀ (h1 : mj_en (x :: r) = some x :: none :: mj_en r) (h2 : (mj_tr ad x).category = 2), (k + i, mj_tr ad v) ∈ lv_args k ((x :: r).map (mj_tr ad)) := by
      intro h1 h2
      rw [h1] at h
      simp only [List.map_cons, lv_args, h2, List.mem_cons]
      match i, h with
      | 0, h =>
        simp only [List.getD_cons_zero, Option.some.injEq] at h
        subst h
        exact Or.inl rfl
      | 1, h => simp at h
      | i + 2, h =>
        simp only [List.getD_cons_succ] at h
        exact Or.inr (by rw [show k + (i + 2) = k + 2 + i by omega]; exact mj_en_args ad r (k + 2) i v h)
    cases x with
    | long y => exact two rfl rfl
    | double y => exact two rfl rfl
    | int y => exact one rfl rfl
    | float y => exact one rfl rfl
    | null => exact one rfl rfl
    | ref y => exact one rfl rfl
    | retAddr y => exact one rfl rfl
theorem mj_lr_entry (ad : Nat → Nat) (as : List Value) {n k : Nat} (h : (lg_sl (as.map (mj_tr ad))).length ≤ n) : mj_lr ad n (mj_en as ++ List.replicate k none) ((lg_sl (as.map (mj_tr ad)) ++ List.replicate (n - (lg_sl (as.map (mj_tr ad))).length) Slot.unset).toArray) := by
  have he := lv_entry (as.map (mj_tr ad)) h
  refine ⟨he.1, he.2.1, fun i v hi => ?_⟩
  have : (mj_en as).getD i none = some v := by
    rw [List.getD_eq_getElem?_getD] at hi ⊢
    by_cases hl : i < (mj_en as).length
    · rw [List.getElem?_append_left hl] at hi
      exact hi
    · rw [List.getElem?_append_right (by omega)] at hi
      exfalso
      cases hr : (List.replicate k (none : Option Value))[i - (mj_en as).length]? with
      | none => rw [hr] at hi; cases hi
      | some w =>
        have := List.eq_of_mem_replicate (List.mem_of_getElem? hr)
        rw [hr, this] at hi
        cases hi
  have := mj_en_args ad as 0 i v this
  rw [Nat.zero_add] at this
  exact he.2.2 _ this
theorem mj_wL_entry {n k : Nat} : ∀ {as : List Value}, mj_wT n as → mj_wL n (mj_en as ++ List.replicate k none) := by
  intro as h i v hi
  have key : ∀ (as : List Value), mj_wT n as → ∀ i v, (mj_en as).getD i none = some v → mj_wv n v := by
    intro as
    induction as with
    | nil => intro _ i v h; simp [mj_en] at h
    | cons x r ih =>
      intro hw i v h
      have hx := hw x List.mem_cons_self
      have hr : mj_wT n r := fun y hy => hw y (List.mem_cons_of_mem _ hy)
      cases x <;> simp only [mj_en] at h <;> (match i, h with
        | 0, h => simp only [List.getD_cons_zero, Option.some.injEq] at h; subst h; exact hx
        | 1, h => first | (simp at h; done) | (simp only [List.getD_cons_succ] at h; exact ih hr _ v h)
        | i + 2, h => simp only [List.getD_cons_succ] at h; exact ih hr _ v h)
  refine key as h i v ?_
  rw [List.getD_eq_getElem?_getD] at hi ⊢
  by_cases hl : i < (mj_en as).length
  · rw [List.getElem?_append_left hl] at hi
    exact hi
  · rw [List.getElem?_append_right (by omega)] at hi
    exfalso
    cases hr : (List.replicate k (none : Option Value))[i - (mj_en as).length]? with
    | none => rw [hr] at hi; cases hi
    | some w =>
      have := List.eq_of_mem_replicate (List.mem_of_getElem? hr)
      rw [hr, this] at hi
      cases hi
end
section
/-! GROUND: what holds all through a method's body -/
theorem mj_pI_sp {f : Int32 → List Value → Prop} : ∀ {st : List Value}, mj_pI f st → ∃ x r, st = .int x :: r ∧ f x r
  | .int x :: r, q => ⟨x, r, rfl, q⟩
theorem mj_pL_sp {f : Int64 → List Value → Prop} : ∀ {st : List Value}, mj_pL f st → ∃ x r, st = .long x :: r ∧ f x r
  | .long x :: r, q => ⟨x, r, rfl, q⟩
theorem mj_pR_sp {f : Nat → List Value → Prop} : ∀ {st : List Value}, mj_pR f st → ∃ x r, st = .ref x :: r ∧ f x r
  | .ref x :: r, q => ⟨x, r, rfl, q⟩
theorem mj_pV_sp {f : Value → List Value → Prop} : ∀ {st : List Value}, mj_pV f st → ∃ v r, st = v :: r ∧ v.category = 1 ∧ f v r
  | v :: r, q => ⟨v, r, rfl, q.1, q.2⟩
theorem mj_p0_sp {f : Prop} : ∀ {st : List Value}, mj_p0 f st → st = [] ∧ f
  | [], q => ⟨rfl, q⟩
theorem mj_gI_sp {f : Int32 → Prop} : ∀ {v : Option Value}, mj_gI f v → ∃ x, v = some (.int x) ∧ f x
  | some (.int x), q => ⟨x, rfl, q⟩
theorem mj_gL_sp {f : Int64 → Prop} : ∀ {v : Option Value}, mj_gL f v → ∃ x, v = some (.long x) ∧ f x
  | some (.long x), q => ⟨x, rfl, q⟩
theorem mj_gA_sp {f : Value → Prop} : ∀ {v : Option Value}, mj_gA f v → (∃ x, v = some (.ref x) ∧ f (.ref x)) ∨ (v = some .null ∧ f .null)
  | some (.ref x), q => Or.inl ⟨x, rfl, q⟩
  | some .null, q => Or.inr ⟨rfl, q⟩
theorem mj_tt_sp {f : Prop} : ∀ {b : Bool}, mj_tt f b → b = true ∧ f
  | true, q => ⟨rfl, q⟩
theorem mj_so_sp {α : Type} {f : α → Prop} : ∀ {b : Option α}, mj_so f b → ∃ x, b = some x ∧ f x
  | some x, q => ⟨x, rfl, q⟩
theorem mj_ob_sp {sh : List (Nat × Nat)} {o c b : Nat} (h : mj_ob sh o c b = true) : ∃ n, sh[o]? = some (c, n) ∧ b < n := by
  unfold mj_ob at h
  split at h
  · rename_i k n hk
    rw [Bool.and_eq_true, beq_iff_eq] at h
    exact ⟨n, by rw [hk, h.1], Nat.blt_eq.mp h.2⟩
  · cases h
theorem mj_rc_sp {f : Prop} {sh : List (Nat × Nat)} {c : Nat} : ∀ {as : List Value}, mj_rc f sh c as → ∃ o r n, as = .ref o :: r ∧ sh[o]? = some (c, n) ∧ f
  | .ref o :: r, q => by
    obtain ⟨h1, h2⟩ := mj_tt_sp q
    split at h1
    · rename_i k n hk
      exact ⟨o, r, n, rfl, by rw [hk, beq_iff_eq.mp h1], h2⟩
    · cases h1
theorem mj_ar_sp {sh : List (Nat × Nat)} {o t n : Nat} (h : mj_ar sh o t = some n) : sh[o]? = some (1000 + t, n) := by
  unfold mj_ar at h
  split at h
  · rename_i k n' hk
    split at h
    · rename_i hk2
      cases h
      rw [hk, hk2]
    · cases h
  · cases h
theorem mj_tk_sp : ∀ (n : Nat) (acc st : List Value) (as r : List Value), mj_tk n acc st = some (as, r) → ∃ bs, st = bs ++ r ∧ bs.length = n ∧ as = bs.reverse ++ acc
  | 0, acc, st, as, r, h => by
    simp only [mj_tk, Option.some.injEq, Prod.mk.injEq] at h
    exact ⟨[], by rw [h.2]; rfl, rfl, by rw [← h.1]; rfl⟩
  | n + 1, acc, [], as, r, h => by simp [mj_tk] at h
  | n + 1, acc, v :: st, as, r, h => by
    obtain ⟨bs, h1, h2, h3⟩ := mj_tk_sp n (v :: acc) st as r h
    exact ⟨v :: bs, by rw [h1]; rfl, by rw [List.length_cons, h2], by rw [h3]; simp⟩
theorem mj_wT.head {n : Nat} {v : Value} {r : List Value} (h : mj_wT n (v :: r)) : mj_wv n v := h v List.mem_cons_self
theorem mj_wT.tail {n : Nat} {v : Value} {r : List Value} (h : mj_wT n (v :: r)) : mj_wT n r := fun w hw => h w (List.mem_cons_of_mem _ hw)
theorem mj_wT.push {n : Nat} {v : Value} {r : List Value} (h : mj_wT n r) (hv : mj_wv n v) : mj_wT n (v :: r) := fun w hw => by
  rcases List.mem_cons.mp hw with rfl | hw
  · exact hv
  · exact h w hw
theorem mj_wr.up {n n' q : Nat} (h : mj_wr n q) (hn : n ≤ n') : mj_wr n' q := h.imp (fun h => Nat.lt_of_lt_of_le h hn) id
theorem mj_wv.up {n n' : Nat} {v : Value} (h : mj_wv n v) (hn : n ≤ n') : mj_wv n' v := by
  cases v <;> first | exact mj_wr.up h hn | trivial
theorem mj_wT.up {n n' : Nat} {st : List Value} (h : mj_wT n st) (hn : n ≤ n') : mj_wT n' st := fun v hv => (h v hv).up hn
theorem mj_wL.up {n n' : Nat} {lv : mj_LV} (h : mj_wL n lv) (hn : n ≤ n') : mj_wL n' lv := fun i v hv => (h i v hv).up hn
theorem mj_tr_ad {n : Nat} {ad ad' : Nat → Nat} {v : Value} (h : mj_wv n v) (ha : ∀ q, mj_wr n q → ad' q = ad q) : mj_tr ad' v = mj_tr ad v := by
  cases v <;> simp_all [mj_tr, mj_wv]
theorem mj_map_ad {n : Nat} {ad ad' : Nat → Nat} {st : List Value} (h : mj_wT n st) (ha : ∀ q, mj_wr n q → ad' q = ad q) : st.map (mj_tr ad') = st.map (mj_tr ad) := List.map_congr_left fun v hv => mj_tr_ad (h v hv) ha
/-- the kinds of arrays, by their places -/
def mj_tys (ka : Nat → ClassId) : List (ClassId × FieldType) := [(ka 0, .int), (ka 1, .long), (ka 2, .char), (ka 3, .boolean), (ka 4, .byte)]
/-- the heap holds the store: D cl ft ka B are of the whole claim; s is the method's start, E its store, aE its addresses -/
def mj_Rh (D : va_G) (cl : List vw_C) (ft : Nat → Nat → Nat) (ka : Nat → ClassId) (B : Nat) (s : State) (E : mj_S) (aE : Nat → Nat) (ad : Nat → Nat) (S : mj_S) (H : Heap) (locs : List Loc) (cells slots : Nat) : Prop :=
  va_P D cl (mj_ws ft ka ad S) H ∧ va_D (fun q => B ≤ q) (mj_ws ft ka ad S) ∧ va_S (fun q => B ≤ q) s.heap H locs ∧ mj_wS S ∧ (E.1.length ≤ S.1.length ∧ ∀ q, mj_wr E.1.length q → ad q = aE q) ∧ S.2.2.2.2.1 = E.2.2.2.2.1 + cells ∧ S.2.2.2.2.2 = E.2.2.2.2.2 + slots
theorem mj_wcons {p : Program} {l : Launch} {e : Env} {R : Room} {s : State} {m : MethodId} {args : Array Value} {below : List Frame} {meth : Method} {c : Code} {H : Heap} {locs : List Loc} {cells slots : Nat} {Q Q' : State → Prop} {g : JFrame}
    (k : W p l e R s m args below meth c H locs cells slots Q g) (h : ∀ t, Q t → Q' t) : W p l e R s m args below meth c H locs cells slots Q' g := by
  intro T hT X
  obtain ⟨t, a, b⟩ := k T hT X
  exact ⟨t, a, h t b⟩
/-- a throw's own words: class, chain, the String's entry -/
def mj_ex : Nat → String
  | 500 => "java/lang/IllegalStateException"
  | 501 => "java/lang/IllegalArgumentException"
  | _ => "java/lang/IndexOutOfBoundsException"
/-- what an instruction's numbers must be; Wd: the words that hold; own: the class; nL: the locals; ini: a constructor -/
def mj_iok (Wd : Cond → Prop) (cl : List vw_C) (ft : Nat → Nat → Nat) (own : String) (nL : Nat) (ini : Prop) (rt : Option FieldType) (x : mj_I) : Prop :=
  match x.2.1 with
  | .iconst n => x.2.2.1 = 1 ∧ Int32.ofInt n = x.2.2.2.2.1
  | .bipush n => x.2.2.1 = 2 ∧ (Int8.ofInt n).toInt32 = x.2.2.2.2.1
  | .sipush n => x.2.2.1 = 3 ∧ (Int16.ofInt n).toInt32 = x.2.2.2.2.1
  | .ldc i => x.2.2.1 = 2 ∧ ((x.2.2.2.1.2.2 = 0 ∧ Wd (.constant own i x.2.2.2.2.1)) ∨ (x.2.2.2.1.2.2 ≠ 0 ∧ 900000 ≤ x.2.2.2.1.1))
  | .ldc_w i => x.2.2.1 = 3 ∧ Wd (.constant own i x.2.2.2.2.1)
  | .lconst n => x.2.2.1 = 1 ∧ Int64.ofNat (n : Nat) = x.2.2.2.2.2.1
  | .ldc2_w i => x.2.2.1 = 3 ∧ Wd (.constantLong own i x.2.2.2.2.2.1)
  | .iload i => x.2.2.1 = 2 ∧ x.2.2.2.1.1 = i
  | .iload_n i => x.2.2.1 = 1 ∧ x.2.2.2.1.1 = (i : Nat)
  | .lload i => x.2.2.1 = 2 ∧ x.2.2.2.1.1 = i
  | .lload_n i => x.2.2.1 = 1 ∧ x.2.2.2.1.1 = (i : Nat)
  | .aload i => x.2.2.1 = 2 ∧ x.2.2.2.1.1 = i
  | .aload_n i => x.2.2.1 = 1 ∧ x.2.2.2.1.1 = (i : Nat)
  | .istore i => (x.2.2.1 = 2 ∧ x.2.2.2.1.1 = i) ∧ i < nL
  | .istore_n i => (x.2.2.1 = 1 ∧ x.2.2.2.1.1 = (i : Nat)) ∧ (i : Nat) < nL
  | .lstore i => (x.2.2.1 = 2 ∧ x.2.2.2.1.1 = i) ∧ i + 1 < nL
  | .lstore_n i => (x.2.2.1 = 1 ∧ x.2.2.2.1.1 = (i : Nat)) ∧ (i : Nat) + 1 < nL
  | .astore i => (x.2.2.1 = 2 ∧ x.2.2.2.1.1 = i) ∧ i < nL
  | .astore_n i => (x.2.2.1 = 1 ∧ x.2.2.2.1.1 = (i : Nat)) ∧ (i : Nat) < nL
  | .iinc i n => (x.2.2.1 = 3 ∧ x.2.2.2.1.1 = i ∧ Int32.ofInt n = x.2.2.2.2.1) ∧ i < nL
  | .ifCond _ off => x.2.2.1 = 3 ∧ (x.1 : Int) + off = (x.2.2.2.1.1 : Int)
  | .if_icmp _ off => x.2.2.1 = 3 ∧ (x.1 : Int) + off = (x.2.2.2.1.1 : Int)
  | .goto off => x.2.2.1 = 3 ∧ (x.1 : Int) + off = (x.2.2.2.1.1 : Int)
  | .tableswitch d lo hi offs => (x.1 : Int) + d = (x.2.2.2.1.1 : Int) ∧ offs.size = x.2.2.2.2.2.2.length ∧ hi = lo + offs.size - 1 ∧ ∀ j, j < offs.size → (∃ o k t, offs[j]? = some o ∧ x.2.2.2.2.2.2[j]? = some (k, t) ∧ k.toInt = lo + j ∧ (x.1 : Int) + o = (t : Int))
  | .lookupswitch d ps => (x.1 : Int) + d = (x.2.2.2.1.1 : Int) ∧ (ps.toList.zip (ps.toList.drop 1)).all (fun (a, next) => a.1 < next.1) = true ∧ ps.toList = x.2.2.2.2.2.2.map fun q => (q.1.toInt, (q.2 : Int) - (x.1 : Int))
  | .getfield i => x.2.2.1 = 3 ∧ ∃ C T N, cl[x.2.2.2.1.1]? = some (C, T, N) ∧ x.2.2.2.1.2.1 < N ∧ Wd (.fieldLink own i (T x.2.2.2.1.2.1).1 (T x.2.2.2.1.2.1).2.1 (T x.2.2.2.1.2.1).2.2.1) ∧ ((x.2.2.2.1.2.2 = 0 ∧ ft x.2.2.2.1.1 x.2.2.2.1.2.1 ≠ 2) ∨ (x.2.2.2.1.2.2 ≠ 0 ∧ ft x.2.2.2.1.1 x.2.2.2.1.2.1 = 2))
  | .putfield i => x.2.2.1 = 3 ∧ ∃ C T N ty, cl[x.2.2.2.1.1]? = some (C, T, N) ∧ x.2.2.2.1.2.1 < N ∧ Wd (.fieldLink own i (T x.2.2.2.1.2.1).1 (T x.2.2.2.1.2.1).2.1 (T x.2.2.2.1.2.1).2.2.1) ∧ ((T x.2.2.2.1.2.1).2.2.2 = false ∨ ((T x.2.2.2.1.2.1).2.2.2 = true ∧ ini ∧ (T x.2.2.2.1.2.1).1 = own)) ∧ parseFieldDescriptor (T x.2.2.2.1.2.1).2.2.1 = some ty ∧
      ((x.2.2.2.1.2.2 = 0 ∧ ty = .int ∧ ft x.2.2.2.1.1 x.2.2.2.1.2.1 ≠ 2) ∨ (x.2.2.2.1.2.2 = 2 ∧ ((∃ n, ty = .object n) ∨ ∃ t, ty = .array t) ∧ ft x.2.2.2.1.1 x.2.2.2.1.2.1 = 2) ∨ (x.2.2.2.1.2.2 = 3 ∧ ty = .boolean ∧ ft x.2.2.2.1.1 x.2.2.2.1.2.1 ≠ 2))
  | .new i => x.2.2.1 = 3 ∧ (x.2.2.2.1.2.2 ≠ 0 ∨ (x.2.2.2.1.2.2 = 0 ∧ ∃ C T, cl[x.2.2.2.1.1]? = some (C, T, x.2.2.2.1.2.1) ∧ Wd (.classLink own i C) ∧ Wd (.instantiable C x.2.2.2.1.2.1) ∧ Wd (.initialized C)))
  | .newarray ty => x.2.2.1 = 2 ∧ ((x.2.2.2.1.2.2 = 0 ∧ ty = .int) ∨ (x.2.2.2.1.2.2 = 1 ∧ ty = .long) ∨ (x.2.2.2.1.2.2 = 2 ∧ ty = .char) ∨ (x.2.2.2.1.2.2 = 3 ∧ ty = .boolean) ∨ (x.2.2.2.1.2.2 = 4 ∧ ty = .byte)) ∧ Wd (.arrayClass (newarray.typeOf ty))
  | .checkcast i => x.2.2.1 = 3 ∧ Wd (.classLink own i "[I")
  | .invokestatic _ => x.2.2.1 = 3
  | .invokevirtual _ => x.2.2.1 = 3
  | .invokespecial i => x.2.2.1 = 3 ∧ (x.2.2.2.1.2.2 = 0 ∨ (x.2.2.2.1.2.2 ≠ 0 ∧ Wd (.methodLink own i objectInit) ∧ Wd (.instanceMethod objectInit) ∧ Wd (.code objectInit ⟨#[0xb1]⟩ 1 none)))
  | .ireturn => x.2.2.1 = 1 ∧ ((x.2.2.2.1.2.2 = 0 ∧ rt = some .int) ∨ (x.2.2.2.1.2.2 ≠ 0 ∧ rt = some .boolean))
  | .return_ => x.2.2.1 = 1 ∧ rt = none
  | _ => x.2.2.1 = 1
end
section
/-! INSTRUCTIONS THAT READ OR WRITE THE HEAP -/
theorem mj_ent_arr {ft : Nat → Nat → Nat} {ka : Nat → ClassId} {ad : Nat → Nat} {S : mj_S} {o t n : Nat} (ht : t ≠ 1) : mj_ent ft ka ad S o (1000 + t, n) = .inl (ka t, n, .inl (S.2.1 o)) := by
  unfold mj_ent
  rw [if_neg (show ¬ (1000 + t) < 1000 by omega), if_neg (show ¬ (1000 + t = 1001) by omega), show 1000 + t - 1000 = t by omega]
theorem mj_ent_larr {ft : Nat → Nat → Nat} {ka : Nat → ClassId} {ad : Nat → Nat} {S : mj_S} {o n : Nat} : mj_ent ft ka ad S o (1001, n) = .inl (ka 1, n, .inr (.inl (S.2.2.1 o))) := by
  unfold mj_ent
  simp
theorem mj_ent_obj {ft : Nat → Nat → Nat} {ka : Nat → ClassId} {ad : Nat → Nat} {S : mj_S} {o k n : Nat} (hk : k < 1000) : mj_ent ft ka ad S o (k, n) = .inr (k, (List.range n).map fun j => mj_fv ad S o j (ft k j)) := by
  unfold mj_ent
  rw [if_pos hk]
/-- what the tables say of the classes -/
def mj_cok (Wd : Cond → Prop) (cl : List vw_C) (ft : Nat → Nat → Nat) : Prop := ∀ (k : Nat) (C : String) (T : u_T) (N : Nat), cl[k]? = some (C, T, N) →
  k < 1000 ∧ (∀ w ∈ u_ws C T N, Wd w) ∧ (∃ ty : Nat → FieldType, (∀ j, j < N → parseFieldDescriptor (T j).2.2.1 = some (ty j)) ∧ (∀ j, j < N → defaultValue (ty j) = if ft k j = 2 then .null else .int 0)) ∧ (∀ a, a < N → ∀ b, b < N → a ≠ b → (T a).2.1 ≠ (T b).2.1)
section MJHP
variable {p : Program} {l : Launch} {e : Env} {R : Room} {s : State} {m : MethodId} {args : Array Value} {below : List Frame} {meth : Method} {c : Code} {Z : State → Prop}
variable {D : va_G} {cl : List vw_C} {ft : Nat → Nat → Nat} {ka : Nat → ClassId} {B : Nat} {E : mj_S} {aE : Nat → Nat} {cc : ByteArray} {own : String} {Wd : Cond → Prop}
variable {ad : Nat → Nat} {S : mj_S} {H : Heap} {locs : List Loc} {cells slots : Nat} {ls : Array Slot} {pc : Nat} {r : List Value}
/-- behind a store to the cell o -/
theorem mj_Rh.set {S' : mj_S} {o : Nat} {kn : Nat × Nat} {H' : Heap} {locs' : List Loc} (hR : mj_Rh D cl ft ka B s E aE ad S H locs cells slots) (ho : S.1[o]? = some kn) (hs : S'.1 = S.1) (hb : ∀ b, b ≠ o → S'.2.1 b = S.2.1 b ∧ S'.2.2.1 b = S.2.2.1 b ∧ S'.2.2.2.1 b = S.2.2.2.1 b) (hr : ∀ j q, S'.2.2.2.1 o j = some q → mj_wr S.1.length q) (hc : S'.2.2.2.2 = S.2.2.2.2)
    (hP : va_P D cl ((mj_ws ft ka ad S).set o (ad o, mj_ent ft ka ad S' o kn)) H') (hD : va_D (fun q => B ≤ q) ((mj_ws ft ka ad S).set o (ad o, mj_ent ft ka ad S' o kn))) (hS : va_S (fun q => B ≤ q) s.heap H' locs') : mj_Rh D cl ft ka B s E aE ad S' H' locs' cells slots := by
  obtain ⟨-, -, -, h4, h5, h6, h7⟩ := hR
  have e := mj_ws_set (ft := ft) (ka := ka) (ad := ad) (S' := S') ho hs hb
  refine ⟨by rw [e]; exact hP, by rw [e]; exact hD, hS, ⟨by rw [hs, hc]; exact h4.1, fun a j q hq => ?_⟩, ⟨by rw [hs]; exact h5.1, h5.2⟩, by rw [hc]; exact h6, by rw [hc]; exact h7⟩
  rw [hs]
  by_cases ha : a = o
  · subst ha; exact hr j q hq
  · rw [(hb a ha).2.2] at hq; exact h4.2 a j q hq
theorem mj_h_ald (hx : p.tables.exec = Jvm.exec) (hb : c.code = cc) (hKt : va_K D cl (mj_tys ka) s) (hR : mj_Rh D cl ft ka B s E aE ad S H locs cells slots) {o n t : Nat} {k : Int32} (ho : S.1[o]? = some (1000 + t, n)) (hin : vp_in k n) {i : Instr} (hdec : decode cc pc = .ok (i, 1)) (hi : (t = 0 ∧ i = .iaload) ∨ (t = 2 ∧ i = .caload) ∨ (t = 3 ∧ i = .baload) ∨ (t = 4 ∧ i = .baload))
    (kk : W p l e R s m args below meth c H locs cells slots Z (F0 m (pc + 1) ls (.int (S.2.1 o k.toNatClampNeg) :: r))) : W p l e R s m args below meth c H locs cells slots Z (F0 m pc ls (.int k :: .ref (ad o) :: r)) := by
  have ha := mj_ws_at (ft := ft) (ka := ka) (ad := ad) ho
  rcases hi with ⟨rfl, rfl⟩ | ⟨rfl, rfl⟩ | ⟨rfl, rfl⟩ | ⟨rfl, rfl⟩ <;> rw [mj_ent_arr (by decide)] at ha
  · exact va_iald hx hb hKt hR.1 o 0 ha rfl hin hdec kk
  · exact va_cald hx hb hKt hR.1 o 2 ha rfl hin hdec kk
  · exact va_zald hx hb hKt hR.1 o 3 ha rfl hin hdec kk
  · exact va_bald hx hb hKt hR.1 o 4 ha rfl hin hdec kk
theorem mj_h_ast (hx : p.tables.exec = Jvm.exec) (hb : c.code = cc) (hKt : va_K D cl (mj_tys ka) s) (hR : mj_Rh D cl ft ka B s E aE ad S H locs cells slots) {o n t : Nat} {k v : Int32} {nar : Int32 → Int32} (ho : S.1[o]? = some (1000 + t, n)) (hin : vp_in k n) {i : Instr} (hdec : decode cc pc = .ok (i, 1)) (hi : (t = 0 ∧ i = .iastore ∧ nar = fun v => v) ∨ (t = 2 ∧ i = .castore ∧ nar = fun v => vp_nar .char v) ∨ (t = 3 ∧ i = .bastore ∧ nar = fun v => vp_nar .boolean v) ∨ (t = 4 ∧ i = .bastore ∧ nar = fun v => vp_nar .byte v))
    (kk : ∀ (H' : Heap) (locs' : List Loc), mj_Rh D cl ft ka B s E aE ad (S.1, mj_up S.2.1 o k.toNatClampNeg (nar v), S.2.2) H' locs' cells slots → W p l e R s m args below meth c H' locs' cells slots Z (F0 m (pc + 1) ls r)) : W p l e R s m args below meth c H locs cells slots Z (F0 m pc ls (.int v :: .int k :: .ref (ad o) :: r)) := by
  have ha := mj_ws_at (ft := ft) (ka := ka) (ad := ad) ho
  have fin : ∀ (H' : Heap) (locs' : List Loc), t ≠ 1 → va_P D cl ((mj_ws ft ka ad S).set o (ad o, .inl (ka t, n, .inl (upd (S.2.1 o) k.toNatClampNeg (nar v))))) H' → va_D (fun q => B ≤ q) ((mj_ws ft ka ad S).set o (ad o, .inl (ka t, n, .inl (upd (S.2.1 o) k.toNatClampNeg (nar v))))) → va_S (fun q => B ≤ q) s.heap H' locs' → mj_Rh D cl ft ka B s E aE ad (S.1, mj_up S.2.1 o k.toNatClampNeg (nar v), S.2.2) H' locs' cells slots := by
    intro H' locs' ht hP hD hS
    have e : mj_ent ft ka ad (S.1, mj_up S.2.1 o k.toNatClampNeg (nar v), S.2.2) o (1000 + t, n) = .inl (ka t, n, .inl (upd (S.2.1 o) k.toNatClampNeg (nar v))) := by
      rw [mj_ent_arr ht]; show Sum.inl (_, _, Sum.inl (mj_up S.2.1 o _ _ o)) = _; rw [mj_up_eq]
    refine hR.set ho rfl (fun b hb => ⟨mj_up_ne hb, rfl, rfl⟩) (fun j q hq => hR.2.2.2.1.2 o j q hq) rfl (by rw [e]; exact hP) (by rw [e]; exact hD) hS
  rcases hi with ⟨rfl, rfl, rfl⟩ | ⟨rfl, rfl, rfl⟩ | ⟨rfl, rfl, rfl⟩ | ⟨rfl, rfl, rfl⟩ <;> rw [mj_ent_arr (by decide)] at ha
  · exact va_iast hx hb hKt hR.1 hR.2.1 hR.2.2.1 o 0 ha rfl hin hdec (fun H' locs' h1 h2 h3 => kk H' locs' (fin H' locs' (by decide) h1 h2 h3))
  · exact va_cast hx hb hKt hR.1 hR.2.1 hR.2.2.1 o 2 ha rfl hin hdec (fun H' locs' h1 h2 h3 => kk H' locs' (fin H' locs' (by decide) h1 h2 h3))
  · exact va_zast hx hb hKt hR.1 hR.2.1 hR.2.2.1 o 3 ha rfl hin hdec (fun H' locs' h1 h2 h3 => kk H' locs' (fin H' locs' (by decide) h1 h2 h3))
  · exact va_bast hx hb hKt hR.1 hR.2.1 hR.2.2.1 o 4 ha rfl hin hdec (fun H' locs' h1 h2 h3 => kk H' locs' (fin H' locs' (by decide) h1 h2 h3))
theorem mj_h_lald (hx : p.tables.exec = Jvm.exec) (hb : c.code = cc) (hKt : va_K D cl (mj_tys ka) s) (hR : mj_Rh D cl ft ka B s E aE ad S H locs cells slots) {o n : Nat} {k : Int32} (ho : S.1[o]? = some (1001, n)) (hin : vp_in k n) (hdec : decode cc pc = .ok (.laload, 1))
    (kk : W p l e R s m args below meth c H locs cells slots Z (F0 m (pc + 1) ls (.long (S.2.2.1 o k.toNatClampNeg) :: r))) : W p l e R s m args below meth c H locs cells slots Z (F0 m pc ls (.int k :: .ref (ad o) :: r)) := by
  have ha := mj_ws_at (ft := ft) (ka := ka) (ad := ad) ho
  rw [mj_ent_larr] at ha
  exact va_lald hx hb hKt hR.1 o 1 ha rfl hin hdec kk
theorem mj_h_last (hx : p.tables.exec = Jvm.exec) (hb : c.code = cc) (hKt : va_K D cl (mj_tys ka) s) (hR : mj_Rh D cl ft ka B s E aE ad S H locs cells slots) {o n : Nat} {k : Int32} {v : Int64} (ho : S.1[o]? = some (1001, n)) (hin : vp_in k n) (hdec : decode cc pc = .ok (.lastore, 1))
    (kk : ∀ (H' : Heap) (locs' : List Loc), mj_Rh D cl ft ka B s E aE ad (S.1, S.2.1, mj_up S.2.2.1 o k.toNatClampNeg v, S.2.2.2) H' locs' cells slots → W p l e R s m args below meth c H' locs' cells slots Z (F0 m (pc + 1) ls r)) : W p l e R s m args below meth c H locs cells slots Z (F0 m pc ls (.long v :: .int k :: .ref (ad o) :: r)) := by
  have ha := mj_ws_at (ft := ft) (ka := ka) (ad := ad) ho
  rw [mj_ent_larr] at ha
  refine va_last hx hb hKt hR.1 hR.2.1 hR.2.2.1 o 1 ha rfl hin hdec (fun H' locs' hP hD hS => kk H' locs' ?_)
  have e : mj_ent ft ka ad (S.1, S.2.1, mj_up S.2.2.1 o k.toNatClampNeg v, S.2.2.2) o (1001, n) = .inl (ka 1, n, .inr (.inl (vp_updL (S.2.2.1 o) k.toNatClampNeg v))) := by
    rw [mj_ent_larr]; show Sum.inl (_, _, Sum.inr (Sum.inl (mj_up S.2.2.1 o _ _ o))) = _; rw [mj_up_eqL]
  exact hR.set ho rfl (fun b hb => ⟨rfl, mj_up_ne hb, rfl⟩) (fun j q hq => hR.2.2.2.1.2 o j q hq) rfl (by rw [e]; exact hP) (by rw [e]; exact hD) hS
theorem mj_fs_at {o k n b : Nat} (hbn : b < n) : ((List.range n).map fun j => mj_fv ad S o j (ft k j))[b]? = some (mj_fv ad S o b (ft k b)) := by
  rw [List.getElem?_map, List.getElem?_range hbn]; rfl
theorem mj_h_get (hx : p.tables.exec = Jvm.exec) (hb : c.code = cc) (hown : s.vm.findClass own = some m.cls) (hKt : va_K D cl (mj_tys ka) s) (hwd : ∀ w, Wd w → w.before args s = true) (hco : mj_cok Wd cl ft) (hR : mj_Rh D cl ft ka B s E aE ad S H locs cells slots) {o k n b i N : Nat} {C : String} {T : u_T} (ho : S.1[o]? = some (k, n)) (hbn : b < n) (hc : cl[k]? = some (C, T, N)) (hbN : b < N) (hlink : Wd (.fieldLink own i (T b).1 (T b).2.1 (T b).2.2.1)) (hdec : decode cc pc = .ok (.getfield i, 3))
    (kk : W p l e R s m args below meth c H locs cells slots Z (F0 m (pc + 3) ls (mj_fv ad S o b (ft k b) :: r))) : W p l e R s m args below meth c H locs cells slots Z (F0 m pc ls (.ref (ad o) :: r)) := by
  have ha := mj_ws_at (ft := ft) (ka := ka) (ad := ad) ho
  obtain ⟨hk, hws, -, -⟩ := hco k C T N hc
  rw [mj_ent_obj hk] at ha
  exact va_get (D := D) (Ts := u_ws C T N) hx hb (fun w hw => hwd w (hws w hw)) (fun w hw => hw) hown hKt hR.1 o ha hc b hbN (hwd _ hlink) (fun _ h => h) (mj_fs_at hbn) hdec kk
theorem mj_fs_set {S' : mj_S} {o k n b : Nat} {v : Value} (hbn : b < n) (hv : mj_fv ad S' o b (ft k b) = v) (ho : ∀ j, j ≠ b → mj_fv ad S' o j (ft k j) = mj_fv ad S o j (ft k j)) : ((List.range n).map fun j => mj_fv ad S o j (ft k j)).set b v = (List.range n).map fun j => mj_fv ad S' o j (ft k j) := by
  apply List.ext_getElem?
  intro j
  by_cases hj : j = b
  · subst hj
    rw [List.getElem?_set_self (by simp; exact hbn), mj_fs_at (S := S') hbn, hv]
  · rw [List.getElem?_set_ne (Ne.symm hj)]
    by_cases hl : j < n
    · rw [mj_fs_at (S := S) hl, mj_fs_at (S := S') hl, ho j hj]
    · rw [List.getElem?_eq_none_iff.mpr (by simp; omega), List.getElem?_eq_none_iff.mpr (by simp; omega)]
theorem mj_h_put (hx : p.tables.exec = Jvm.exec) (hb : c.code = cc) (hown : s.vm.findClass own = some m.cls) (hKt : va_K D cl (mj_tys ka) s) (hwd : ∀ w, Wd w → w.before args s = true) (hco : mj_cok Wd cl ft) (hR : mj_Rh D cl ft ka B s E aE ad S H locs cells slots) {o k n b i N : Nat} {C : String} {T : u_T} {S' : mj_S} {v : Value} {ty : FieldType} (ho : S.1[o]? = some (k, n)) (hbn : b < n) (hc : cl[k]? = some (C, T, N)) (hbN : b < N) (hlink : Wd (.fieldLink own i (T b).1 (T b).2.1 (T b).2.2.1)) (hdec : decode cc pc = .ok (.putfield i, 3))
    (hfin : (T b).2.2.2 = false ∨ ((T b).2.2.2 = true ∧ meth.name = "<init>" ∧ (T b).1 = own)) (hty : parseFieldDescriptor (T b).2.2.1 = some ty) (hn : narrow ty v = v) (hf : fits ty v = true)
    (hs : S'.1 = S.1) (hot : ∀ b, b ≠ o → S'.2.1 b = S.2.1 b ∧ S'.2.2.1 b = S.2.2.1 b ∧ S'.2.2.2.1 b = S.2.2.2.1 b) (hr : ∀ j q, S'.2.2.2.1 o j = some q → mj_wr S.1.length q) (hcn : S'.2.2.2.2 = S.2.2.2.2) (hv : mj_fv ad S' o b (ft k b) = v) (hvo : ∀ j, j ≠ b → mj_fv ad S' o j (ft k j) = mj_fv ad S o j (ft k j))
    (kk : ∀ (H' : Heap) (locs' : List Loc), mj_Rh D cl ft ka B s E aE ad S' H' locs' cells slots → W p l e R s m args below meth c H' locs' cells slots Z (F0 m (pc + 3) ls r)) : W p l e R s m args below meth c H locs cells slots Z (F0 m pc ls (v :: .ref (ad o) :: r)) := by
  have ha := mj_ws_at (ft := ft) (ka := ka) (ad := ad) ho
  obtain ⟨hk, hws, ⟨tys, hty0, -⟩, hnm⟩ := hco k C T N hc
  rw [mj_ent_obj hk] at ha
  have fin : ∀ (H' : Heap) (locs' : List Loc), va_P D cl ((mj_ws ft ka ad S).set o (ad o, .inr (k, ((List.range n).map fun j => mj_fv ad S o j (ft k j)).set b v))) H' → va_D (fun q => B ≤ q) ((mj_ws ft ka ad S).set o (ad o, .inr (k, ((List.range n).map fun j => mj_fv ad S o j (ft k j)).set b v))) → va_S (fun q => B ≤ q) s.heap H' locs' → mj_Rh D cl ft ka B s E aE ad S' H' locs' cells slots := by
    intro H' locs' hP hD hS
    have e : mj_ent ft ka ad S' o (k, n) = .inr (k, ((List.range n).map fun j => mj_fv ad S o j (ft k j)).set b v) := by
      rw [mj_ent_obj hk, mj_fs_set (ft := ft) hbn hv hvo]
    exact hR.set ho hs hot hr hcn (by rw [e]; exact hP) (by rw [e]; exact hD) hS
  have hl : b < ((List.range n).map fun j => mj_fv ad S o j (ft k j)).length := by simp; exact hbn
  rcases hfin with hfin | ⟨hfin, hin, hdecl⟩
  · exact va_put (D := D) (Ts := u_ws C T N) hx hb (fun w hw => hwd w (hws w hw)) (fun w hw => hw) tys hty0 hnm hown hKt hR.1 hR.2.1 hR.2.2.1 o ha hc b hbN (hwd _ hlink) (fun _ h => h) hfin hty hn hf hl hdec (fun H' locs' h1 h2 h3 => kk H' locs' (fin H' locs' h1 h2 h3))
  · exact va_putF (D := D) (Ts := u_ws C T N) hx hb (fun w hw => hwd w (hws w hw)) (fun w hw => hw) tys hty0 hnm hown hKt hR.1 hR.2.1 hR.2.2.1 o ha hc b hbN (hwd _ hlink) (fun _ h => h) hfin hin hdecl hty hn hf hl hdec (fun H' locs' h1 h2 h3 => kk H' locs' (fin H' locs' h1 h2 h3))
/-- the store with a new cell, and its address -/
def mj_nS (S : mj_S) (k n : Nat) : mj_S := (S.1 ++ [(k, n)], mj_row S.2.1 S.1.length (fun _ => 0), mj_row S.2.2.1 S.1.length (fun _ => 0), mj_row S.2.2.2.1 S.1.length (fun _ => none), S.2.2.2.2.1 + 1, S.2.2.2.2.2 + n)
def mj_nA (S : mj_S) (ad : Nat → Nat) (q : Nat) : Nat → Nat := fun i => if i = S.1.length then q else ad i
theorem mj_nA_old (hw : mj_wS S) {q i : Nat} (hi : mj_wr S.1.length i) : mj_nA S ad q i = ad i := by
  have : i ≠ S.1.length := by rcases hi with h | h <;> have := hw.1.1 <;> omega
  simp only [mj_nA, if_neg this]
theorem mj_nA_new {q : Nat} : mj_nA S ad q S.1.length = q := by simp [mj_nA]
theorem mj_fv_new {k n q j t : Nat} : mj_fv (mj_nA S ad q) (mj_nS S k n) S.1.length j t = if t = 2 then .null else .int 0 := by
  unfold mj_fv mj_nS
  split
  · simp [mj_row]
  · rename_i ht
    rw [if_neg ht]
    simp [mj_row]
theorem mj_Rh.new {k n q : Nat} {H' : Heap} {en : va_E} (hR : mj_Rh D cl ft ka B s E aE ad S H locs cells slots) (hn : S.2.2.2.2.1 + 1 ≤ 601024 ∧ S.2.2.2.2.2 + n ≤ 7293034) (he : mj_ent ft ka (mj_nA S ad q) (mj_nS S k n) S.1.length (k, n) = en)
    (hP : va_P D cl (mj_ws ft ka ad S ++ [(q, en)]) H') (hD : va_D (fun q => B ≤ q) (mj_ws ft ka ad S ++ [(q, en)])) (hS : va_S (fun q => B ≤ q) s.heap H' locs) : mj_Rh D cl ft ka B s E aE (mj_nA S ad q) (mj_nS S k n) H' locs (cells + 1) (slots + n) := by
  obtain ⟨-, -, -, h4, h5, h6, h7⟩ := hR
  have e : mj_ws ft ka (mj_nA S ad q) (mj_nS S k n) = mj_ws ft ka ad S ++ [(q, mj_ent ft ka (mj_nA S ad q) (mj_nS S k n) S.1.length (k, n))] := (mj_ws_new (ft := ft) (ka := ka) (ad := ad) (k := k) (n := n) (q := q) h4 hn).1
  have w : mj_wS (mj_nS S k n) := (mj_ws_new (ft := ft) (ka := ka) (ad := ad) (k := k) (n := n) (q := q) h4 hn).2.1
  rw [he] at e
  refine ⟨by rw [e]; exact hP, by rw [e]; exact hD, hS, w, ⟨?_, fun i hi => ?_⟩, ?_, ?_⟩
  · have : (mj_nS S k n).1.length = S.1.length + 1 := by simp [mj_nS]
    have := h5.1
    omega
  · rw [mj_nA_old h4 (hi.up h5.1)]
    exact h5.2 i hi
  · show S.2.2.2.2.1 + 1 = _
    omega
  · show S.2.2.2.2.2 + n = _
    omega
theorem mj_h_new (hx : p.tables.exec = Jvm.exec) (hb : c.code = cc) (hown : s.vm.findClass own = some m.cls) (hKt : va_K D cl (mj_tys ka) s) (hwd : ∀ w, Wd w → w.before args s = true) (hco : mj_cok Wd cl ft) (hA : ∀ q, s.heap.size ≤ q → B ≤ q) (hR : mj_Rh D cl ft ka B s E aE ad S H locs cells slots) {k i N : Nat} {C : String} {T : u_T} (hc : cl[k]? = some (C, T, N)) (hl : Wd (.classLink own i C)) (hi : Wd (.instantiable C N)) (hini : Wd (.initialized C)) (hn : S.2.2.2.2.1 + 1 ≤ 601024 ∧ S.2.2.2.2.2 + N ≤ 7293034) (h1 : cells + 1 ≤ R.cells) (h2 : slots + N ≤ R.slots) (hdec : decode cc pc = .ok (.new i, 3))
    (kk : ∀ (q : Nat) (H' : Heap), mj_Rh D cl ft ka B s E aE (mj_nA S ad q) (mj_nS S k N) H' locs (cells + 1) (slots + N) → W p l e R s m args below meth c H' locs (cells + 1) (slots + N) Z (F0 m (pc + 3) ls (.ref q :: r))) : W p l e R s m args below meth c H locs cells slots Z (F0 m pc ls r) := by
  obtain ⟨hk, hws, ⟨tys, hty0, hdf⟩, hnm⟩ := hco k C T N hc
  refine va_new (D := D) (Ts := u_ws C T N) (ci := k) (fs := (List.range N).map fun j => if ft k j = 2 then .null else .int 0) hx hb (fun w hw => hwd w (hws w hw)) (fun w hw => hw) tys hty0 hown (hwd _ hl) (hwd _ hi) (hwd _ hini) hKt hR.1 hR.2.1 hR.2.2.1 (fun q h => hA q h) hc ?_ h1 h2 hdec (fun q H' hP hD hS => kk q H' (hR.new hn ?_ hP hD hS))
  · intro j hj
    rw [hdf j hj]
    unfold vp_V
    rw [List.getD_eq_getElem?_getD, List.getElem?_map, List.getElem?_range hj]
    rfl
  · rw [mj_ent_obj hk]
    simp only [mj_fv_new]
theorem mj_h_newa (hx : p.tables.exec = Jvm.exec) (hb : c.code = cc) (hKt : va_K D cl (mj_tys ka) s) (hwd : ∀ w, Wd w → w.before args s = true) (hA : ∀ q, s.heap.size ≤ q → B ≤ q) (hR : mj_Rh D cl ft ka B s E aE ad S H locs cells slots) {t : Nat} {n : Int32} {ty : ArrayType} (hty : (t = 0 ∧ ty = .int) ∨ (t = 1 ∧ ty = .long) ∨ (t = 2 ∧ ty = .char) ∨ (t = 3 ∧ ty = .boolean) ∨ (t = 4 ∧ ty = .byte)) (hw : Wd (.arrayClass (newarray.typeOf ty))) (hn0 : ¬ n < 0) (hcap : n.toNatClampNeg ≤ 8000000) (hn : S.2.2.2.2.1 + 1 ≤ 601024 ∧ S.2.2.2.2.2 + n.toNatClampNeg ≤ 7293034) (h1 : cells + 1 ≤ R.cells) (h2 : slots + n.toNatClampNeg ≤ R.slots) (hdec : decode cc pc = .ok (.newarray ty, 2))
    (kk : ∀ (q : Nat) (H' : Heap), mj_Rh D cl ft ka B s E aE (mj_nA S ad q) (mj_nS S (1000 + t) n.toNatClampNeg) H' locs (cells + 1) (slots + n.toNatClampNeg) → W p l e R s m args below meth c H' locs (cells + 1) (slots + n.toNatClampNeg) Z (F0 m (pc + 2) ls (.ref q :: r))) : W p l e R s m args below meth c H locs cells slots Z (F0 m pc ls (.int n :: r)) := by
  have hlast : ∀ {cA : ClassId} {ft' : FieldType}, va_K D cl (mj_tys ka ++ [(cA, ft')]) s → va_RA s cA ft' := fun h => (h.2 5 _ rfl).2
  rcases hty with ⟨rfl, rfl⟩ | ⟨rfl, rfl⟩ | ⟨rfl, rfl⟩ | ⟨rfl, rfl⟩ | ⟨rfl, rfl⟩
  · refine va_newa (a0 := (n.toNatClampNeg, .inl fun _ => 0)) hx hb (hwd _ hw) rfl hKt hR.1 hR.2.1 hR.2.2.1 (fun q h => hA q h) (fun cA => rfl) hn0 rfl (by show _ * 4 ≤ _; omega) h1 h2 hdec (fun q cA H' hK' hP hD hS => kk q H' (hR.new hn ?_ hP hD hS))
    rw [mj_ent_arr (by decide)]
    have e : ka 0 = cA := Option.some.inj (((hKt.2 0 _ rfl).2 : s.vm.findClass _ = some _).symm.trans (hlast hK' : s.vm.findClass _ = some _))
    rw [e]; show Sum.inl (cA, _, Sum.inl (mj_row S.2.1 S.1.length _ S.1.length)) = _; rw [mj_row_eq]
  · refine va_newa (a0 := (n.toNatClampNeg, .inr (.inl fun _ => 0))) hx hb (hwd _ hw) rfl hKt hR.1 hR.2.1 hR.2.2.1 (fun q h => hA q h) (fun cA => rfl) hn0 rfl (by show _ * 8 ≤ _; omega) h1 h2 hdec (fun q cA H' hK' hP hD hS => kk q H' (hR.new hn ?_ hP hD hS))
    rw [show (1000 + 1) = 1001 from rfl, mj_ent_larr]
    have e : ka 1 = cA := Option.some.inj (((hKt.2 1 _ rfl).2 : s.vm.findClass _ = some _).symm.trans (hlast hK' : s.vm.findClass _ = some _))
    rw [e]; show Sum.inl (cA, _, Sum.inr (Sum.inl (mj_row S.2.2.1 S.1.length _ S.1.length))) = _; rw [mj_row_eq]
  · refine va_newa (a0 := (n.toNatClampNeg, .inl fun _ => 0)) hx hb (hwd _ hw) rfl hKt hR.1 hR.2.1 hR.2.2.1 (fun q h => hA q h) (fun cA => rfl) hn0 rfl (by show _ * 2 ≤ _; omega) h1 h2 hdec (fun q cA H' hK' hP hD hS => kk q H' (hR.new hn ?_ hP hD hS))
    rw [mj_ent_arr (by decide)]
    have e : ka 2 = cA := Option.some.inj (((hKt.2 2 _ rfl).2 : s.vm.findClass _ = some _).symm.trans (hlast hK' : s.vm.findClass _ = some _))
    rw [e]; show Sum.inl (cA, _, Sum.inl (mj_row S.2.1 S.1.length _ S.1.length)) = _; rw [mj_row_eq]
  · refine va_newa (a0 := (n.toNatClampNeg, .inl fun _ => 0)) hx hb (hwd _ hw) rfl hKt hR.1 hR.2.1 hR.2.2.1 (fun q h => hA q h) (fun cA => rfl) hn0 rfl (by show _ * 1 ≤ _; omega) h1 h2 hdec (fun q cA H' hK' hP hD hS => kk q H' (hR.new hn ?_ hP hD hS))
    rw [mj_ent_arr (by decide)]
    have e : ka 3 = cA := Option.some.inj (((hKt.2 3 _ rfl).2 : s.vm.findClass _ = some _).symm.trans (hlast hK' : s.vm.findClass _ = some _))
    rw [e]; show Sum.inl (cA, _, Sum.inl (mj_row S.2.1 S.1.length _ S.1.length)) = _; rw [mj_row_eq]
  · refine va_newa (a0 := (n.toNatClampNeg, .inl fun _ => 0)) hx hb (hwd _ hw) rfl hKt hR.1 hR.2.1 hR.2.2.1 (fun q h => hA q h) (fun cA => rfl) hn0 rfl (by show _ * 1 ≤ _; omega) h1 h2 hdec (fun q cA H' hK' hP hD hS => kk q H' (hR.new hn ?_ hP hD hS))
    rw [mj_ent_arr (by decide)]
    have e : ka 4 = cA := Option.some.inj (((hKt.2 4 _ rfl).2 : s.vm.findClass _ = some _).symm.trans (hlast hK' : s.vm.findClass _ = some _))
    rw [e]; show Sum.inl (cA, _, Sum.inl (mj_row S.2.1 S.1.length _ S.1.length)) = _; rw [mj_row_eq]
end MJHP
end
section
/-! ONE INSTRUCTION, against the machine -/
theorem mj_wT.pushI {n : Nat} {x : Int32} {r : List Value} (h : mj_wT n r) : mj_wT n (.int x :: r) := h.push trivial
theorem mj_wT.pushL {n : Nat} {x : Int64} {r : List Value} (h : mj_wT n r) : mj_wT n (.long x :: r) := h.push trivial
theorem mj_wT.pushN {n : Nat} {r : List Value} (h : mj_wT n r) : mj_wT n (.null :: r) := h.push trivial
theorem mj_sw_look {nx : Nat → Prop} {d pc : Nat} {dd : Int} {x : Int32} (hd : (pc : Int) + dd = (d : Int)) : ∀ sw : List (Int32 × Nat), mj_sw nx d x sw → ∃ tgt : Nat, nx tgt ∧ (pc : Int) + Op.lookupswitch.offset (sw.map fun q => (q.1.toInt, (q.2 : Int) - (pc : Int))) dd x.toInt = (tgt : Int)
  | [], h => ⟨d, h, hd⟩
  | (k, t) :: r, h => by
    by_cases hk : x = k
    · refine ⟨t, h.1 hk, ?_⟩
      rw [List.map_cons, Op.lookupswitch.offset_cons, if_pos (by rw [hk])]
      show (pc : Int) + ((t : Int) - (pc : Int)) = t
      omega
    · obtain ⟨tgt, h1, h2⟩ := mj_sw_look hd r (h.2 hk)
      refine ⟨tgt, h1, ?_⟩
      rw [List.map_cons, lv_osw hk rfl]
      exact h2
theorem mj_sw_tab {nx : Nat → Prop} {d : Nat} {x : Int32} : ∀ sw : List (Int32 × Nat), mj_sw nx d x sw → (∃ (j : Nat) (k : Int32) (t : Nat), sw[j]? = some (k, t) ∧ x = k ∧ nx t) ∨ ((∀ (j : Nat) (k : Int32) (t : Nat), sw[j]? = some (k, t) → ¬ x = k) ∧ nx d)
  | [], h => Or.inr ⟨fun j k t q => by simp at q, h⟩
  | (k, t) :: r, h => by
    by_cases hk : x = k
    · exact Or.inl ⟨0, k, t, rfl, hk, h.1 hk⟩
    · rcases mj_sw_tab r (h.2 hk) with ⟨j, k', t', h1, h2, h3⟩ | ⟨h1, h2⟩
      · exact Or.inl ⟨j + 1, k', t', h1, h2, h3⟩
      · refine Or.inr ⟨fun j k' t' q => ?_, h2⟩
        cases j with
        | zero => simp at q; rw [← q.1]; exact hk
        | succ j => exact h1 j k' t' q
section MJI
variable {p : Program} {l : Launch} {e : Env} {R : Room} {s : State} {m : MethodId} {args : Array Value} {below : List Frame} {meth : Method} {c : Code} {Z : State → Prop}
variable {D : va_G} {cl : List vw_C} {ft : Nat → Nat → Nat} {ka : Nat → ClassId} {B : Nat} {E : mj_S} {aE : Nat → Nat} {cc : ByteArray} {nL : Nat} {own : String} {Wd : Cond → Prop} {ini : Prop} {rt : Option FieldType} {X : mj_X} {hd : mj_H} {cls : mj_C} {nx : mj_N} {Q : mj_Q}
/-- what holds behind an instruction brings the machine on -/
def mj_Kok (p : Program) (l : Launch) (e : Env) (R : Room) (s : State) (m : MethodId) (args : Array Value) (below : List Frame) (meth : Method) (c : Code) (Z : State → Prop) (D : va_G) (cl : List vw_C) (ft : Nat → Nat → Nat) (ka : Nat → ClassId) (B : Nat) (E : mj_S) (aE : Nat → Nat) (nL : Nat) (K : mj_K) (pc : Nat) : Prop :=
  ∀ (ad : Nat → Nat) (lv : mj_LV) (st : List Value) (S : mj_S) (H : Heap) (locs : List Loc) (cells slots : Nat) (ls : Array Slot), mj_Rh D cl ft ka B s E aE ad S H locs cells slots → mj_lr ad nL lv ls → mj_wL S.1.length lv → mj_wT S.1.length st → K lv st S → W p l e R s m args below meth c H locs cells slots Z (F0 m pc ls (st.map (mj_tr ad)))
/-- a return's end -/
def mj_Qok (s : State) (below : List Frame) (Z : State → Prop) (D : va_G) (cl : List vw_C) (ft : Nat → Nat → Nat) (ka : Nat → ClassId) (B : Nat) (E : mj_S) (aE : Nat → Nat) (Q : mj_Q) : Prop :=
  ∀ (ad : Nat → Nat) (v : Option Value) (S : mj_S) (H : Heap) (locs : List Loc) (cells slots : Nat) (t : State), mj_Rh D cl ft ka B s E aE ad S H locs cells slots → Q (.inl v) S → (∀ w, v = some w → mj_wv S.1.length w) → t.heap = H → t.status = .running → Ended t below (.returned (v.map (mj_tr ad))) → s.WarmedH t.vm → (∃ L : List Loc, (∀ q ∈ L, B ≤ q.base) ∧ s.sameButNew ({ t with vm := s.vm } : State) L cells slots) → Z t
/-- what holds of a method's body all through, beside its code -/
def mj_Gr (R : Room) (s : State) (meth : Method) (B : Nat) (E : mj_S) (aE : Nat → Nat) (X : mj_X) (ini : Prop) : Prop :=
  (ini → meth.name = "<init>") ∧ B ≤ s.heap.size ∧ (X.2.2.1 ≤ E.2.2.2.2.1 + R.cells ∧ X.2.2.2 ≤ E.2.2.2.2.2 + R.slots) ∧ (X.2.2.1 = 601024 ∧ X.2.2.2 = 7293034) ∧ (8 ≤ R.frames ∧ 300 ≤ R.locals) ∧ (va_X (aE 900000) X.1.1 X.1.2 s s.heap ∧ aE 900000 < s.heap.size ∧ ¬ B ≤ aE 900000)
set_option maxHeartbeats 4000000 in
theorem mj_in_snd (hx : p.tables.exec = Jvm.exec) (hb : c.code = cc) (hml : c.maxLocals = nL) (hown : s.vm.findClass own = some m.cls) (hlk : meth.locks = false) (hrt : meth.sig.returnType = rt) (hwd : ∀ w, Wd w → w.before args s = true) (hKt : va_K D cl (mj_tys ka) s) (hco : mj_cok Wd cl ft) (hG : mj_Gr R s meth B E aE X ini)
    {x : mj_I} (hdec : decode cc x.1 = .ok (x.2.1, x.2.2.1)) (hok : mj_iok Wd cl ft own nL ini rt x) {K : mj_K} (hK : mj_Kok p l e R s m args below meth c Z D cl ft ka B E aE nL K (x.1 + x.2.2.1)) (hN : ∀ pc, mj_Kok p l e R s m args below meth c Z D cl ft ka B E aE nL (fun lv st S => nx pc lv st S Q) pc) (hQ : mj_Qok s below Z D cl ft ka B E aE Q)
    (hls : ∀ i, x.2.1 = .ldc i → x.2.2.2.1.2.2 ≠ 0 → ∃ tx, vk_R own i tx (aE x.2.2.2.1.1) s)
    (hC : ∀ n, (x.2.1 = .invokestatic n ∨ x.2.1 = .invokevirtual n ∨ (x.2.1 = .invokespecial n ∧ x.2.2.2.1.2.2 = 0)) → mj_Kok p l e R s m args below meth c Z D cl ft ka B E aE nL (fun lv st S => mj_in X hd cls nx Q x K lv st S) x.1)
    (hT : ∀ n, x.2.1 = .new n → x.2.2.2.1.2.2 ≠ 0 → mj_Kok p l e R s m args below meth c Z D cl ft ka B E aE nL (fun lv st S => mj_in X hd cls nx Q x K lv st S) x.1)
    {ad : Nat → Nat} {lv : mj_LV} {st : List Value} {S : mj_S} {H : Heap} {locs : List Loc} {cells slots : Nat} {ls : Array Slot} (hR : mj_Rh D cl ft ka B s E aE ad S H locs cells slots) (hl : mj_lr ad nL lv ls) (hwl : mj_wL S.1.length lv) (hwt : mj_wT S.1.length st) (h : mj_in X hd cls nx Q x K lv st S) :
    W p l e R s m args below meth c H locs cells slots Z (F0 m x.1 ls (st.map (mj_tr ad))) := by
  obtain ⟨pc, i, len, ⟨a, b, t⟩, k, kl, sw⟩ := x
  have h' := h
  unfold mj_in at h
  unfold mj_iok at hok
  have hP0 := hR.1
  obtain ⟨g1, g2, g3, g4, g5, g6⟩ := hG
  have hA : ∀ q, s.heap.size ≤ q → B ≤ q := fun q hq => Nat.le_trans g2 hq
  cases i <;> dsimp only at h hok hdec hK hls hC hT ⊢
  case iconst n =>
    obtain ⟨rfl, hk⟩ := hok
    exact lv_iconst hx hb hdec hk (hK ad lv _ S H locs cells slots ls hR hl hwl (hwt.pushI) h)
  case bipush n =>
    obtain ⟨rfl, hk⟩ := hok
    exact lv_bipush hx hb hdec hk (hK ad lv _ S H locs cells slots ls hR hl hwl (hwt.pushI) h)
  case sipush n =>
    obtain ⟨rfl, hk⟩ := hok
    exact lv_sipush hx hb hdec hk (hK ad lv _ S H locs cells slots ls hR hl hwl (hwt.pushI) h)
  case ldc_w n =>
    obtain ⟨rfl, hk⟩ := hok
    exact lv_ldcw hx hb hown (hwd _ hk) hdec (hK ad lv _ S H locs cells slots ls hR hl hwl hwt.pushI h)
  case lconst n =>
    obtain ⟨rfl, hk⟩ := hok
    exact lv_lconst hx hb hdec hk (hK ad lv _ S H locs cells slots ls hR hl hwl (hwt.pushL) h)
  case ldc2_w n =>
    obtain ⟨rfl, hk⟩ := hok
    exact lv_ldc2 hx hb hown (hwd _ hk) hdec (hK ad lv _ S H locs cells slots ls hR hl hwl (hwt.pushL) h)
  case iload n =>
    obtain ⟨rfl, rfl⟩ := hok
    obtain ⟨v, h1, h2⟩ := mj_gI_sp h
    exact lv_iload hx hb hdec (hl.2.2 _ _ h1) (hK ad lv _ S H locs cells slots ls hR hl hwl (hwt.pushI) h2)
  case iload_n n =>
    obtain ⟨rfl, rfl⟩ := hok
    obtain ⟨v, h1, h2⟩ := mj_gI_sp h
    exact lv_iload_n hx hb hdec rfl (hl.2.2 _ _ h1) (hK ad lv _ S H locs cells slots ls hR hl hwl (hwt.pushI) h2)
  case lload n =>
    obtain ⟨rfl, rfl⟩ := hok
    obtain ⟨v, h1, h2⟩ := mj_gL_sp h
    exact lv_lload hx hb hdec (hl.2.2 _ _ h1) (hK ad lv _ S H locs cells slots ls hR hl hwl (hwt.pushL) h2)
  case lload_n n =>
    obtain ⟨rfl, rfl⟩ := hok
    obtain ⟨v, h1, h2⟩ := mj_gL_sp h
    exact lv_lload_n hx hb hdec rfl (hl.2.2 _ _ h1) (hK ad lv _ S H locs cells slots ls hR hl hwl (hwt.pushL) h2)
  case aload n =>
    obtain ⟨rfl, rfl⟩ := hok
    rcases mj_gA_sp h with ⟨v, h1, h2⟩ | ⟨h1, h2⟩
    · exact lv_aload hx hb hdec (hl.2.2 _ _ h1) (hK ad lv _ S H locs cells slots ls hR hl hwl (hwt.push (hwl _ _ h1)) h2)
    · exact lv_aloadN hx hb hdec (hl.2.2 _ _ h1) (hK ad lv _ S H locs cells slots ls hR hl hwl (hwt.pushN) h2)
  case aload_n n =>
    obtain ⟨rfl, rfl⟩ := hok
    rcases mj_gA_sp h with ⟨v, h1, h2⟩ | ⟨h1, h2⟩
    · exact lv_aload_n hx hb hdec rfl (hl.2.2 _ _ h1) (hK ad lv _ S H locs cells slots ls hR hl hwl (hwt.push (hwl _ _ h1)) h2)
    · exact lv_aload_nN hx hb hdec rfl (hl.2.2 _ _ h1) (hK ad lv _ S H locs cells slots ls hR hl hwl (hwt.pushN) h2)
  case istore n =>
    obtain ⟨⟨rfl, rfl⟩, hn⟩ := hok
    obtain ⟨v, r, rfl, h2⟩ := mj_pI_sp h
    exact lv_istore hx hb hdec hl.has hn rfl (fun ls' hl' => hK ad _ r S H locs cells slots ls' hR (mj_lr.store1 (v := .int v) hl') (hwl.store trivial) hwt.tail h2)
  case istore_n n =>
    obtain ⟨⟨rfl, rfl⟩, hn⟩ := hok
    obtain ⟨v, r, rfl, h2⟩ := mj_pI_sp h
    exact lv_istore_n hx hb hdec rfl hl.has hn rfl (fun ls' hl' => hK ad _ r S H locs cells slots ls' hR (mj_lr.store1 (v := .int v) hl') (hwl.store trivial) hwt.tail h2)
  case lstore n =>
    obtain ⟨⟨rfl, rfl⟩, hn⟩ := hok
    obtain ⟨v, r, rfl, h2⟩ := mj_pL_sp h
    exact lv_lstore hx hb hdec hl.has hn rfl (fun ls' hl' => hK ad _ r S H locs cells slots ls' hR (mj_lr.store2 (v := v) hl') hwl.store2 hwt.tail h2)
  case lstore_n n =>
    obtain ⟨⟨rfl, rfl⟩, hn⟩ := hok
    obtain ⟨v, r, rfl, h2⟩ := mj_pL_sp h
    exact lv_lstore_n hx hb hdec rfl hl.has hn rfl (fun ls' hl' => hK ad _ r S H locs cells slots ls' hR (mj_lr.store2 (v := v) hl') hwl.store2 hwt.tail h2)
  case astore n =>
    obtain ⟨⟨rfl, rfl⟩, hn⟩ := hok
    obtain ⟨v, r, rfl, h2⟩ := mj_pR_sp h
    exact lv_astore hx hb hdec hl.has hn rfl (fun ls' hl' => hK ad _ r S H locs cells slots ls' hR (mj_lr.store1 (v := .ref v) hl') (hwl.store hwt.head) hwt.tail h2)
  case astore_n n =>
    obtain ⟨⟨rfl, rfl⟩, hn⟩ := hok
    obtain ⟨v, r, rfl, h2⟩ := mj_pR_sp h
    exact lv_astore_n hx hb hdec rfl hl.has hn rfl (fun ls' hl' => hK ad _ r S H locs cells slots ls' hR (mj_lr.store1 (v := .ref v) hl') (hwl.store hwt.head) hwt.tail h2)
  case iinc n z =>
    obtain ⟨⟨rfl, rfl, hk⟩, hn⟩ := hok
    obtain ⟨v, h1, h2⟩ := mj_gI_sp h
    obtain ⟨j, hj⟩ := List.getElem?_of_mem (mj_ps_mem (ad := ad) (q := (a, .int v)) |>.mpr ⟨_, h1, rfl⟩)
    exact lv_iinc (v := v + k) hx hb hdec hl.has hj (by rw [hk]) hn rfl (fun ls' hl' => hK ad _ st S H locs cells slots ls' hR (mj_lr.store1 (v := .int (v + k)) hl') (hwl.store trivial) hwt h2)
  case iadd =>
    subst hok
    obtain ⟨y, r, rfl, h1⟩ := mj_pI_sp h
    obtain ⟨z, r, rfl, h2⟩ := mj_pI_sp h1
    exact lv_iadd hx hb hdec (hK ad lv _ S H locs cells slots ls hR hl hwl hwt.tail.tail.pushI h2)
  case isub =>
    subst hok
    obtain ⟨y, r, rfl, h1⟩ := mj_pI_sp h
    obtain ⟨z, r, rfl, h2⟩ := mj_pI_sp h1
    exact lv_isub hx hb hdec (hK ad lv _ S H locs cells slots ls hR hl hwl hwt.tail.tail.pushI h2)
  case imul =>
    subst hok
    obtain ⟨y, r, rfl, h1⟩ := mj_pI_sp h
    obtain ⟨z, r, rfl, h2⟩ := mj_pI_sp h1
    exact lv_imul hx hb hdec (hK ad lv _ S H locs cells slots ls hR hl hwl hwt.tail.tail.pushI h2)
  case iand =>
    subst hok
    obtain ⟨y, r, rfl, h1⟩ := mj_pI_sp h
    obtain ⟨z, r, rfl, h2⟩ := mj_pI_sp h1
    exact lv_iand hx hb hdec (hK ad lv _ S H locs cells slots ls hR hl hwl hwt.tail.tail.pushI h2)
  case ior =>
    subst hok
    obtain ⟨y, r, rfl, h1⟩ := mj_pI_sp h
    obtain ⟨z, r, rfl, h2⟩ := mj_pI_sp h1
    exact lv_ior hx hb hdec (hK ad lv _ S H locs cells slots ls hR hl hwl hwt.tail.tail.pushI h2)
  case ixor =>
    subst hok
    obtain ⟨y, r, rfl, h1⟩ := mj_pI_sp h
    obtain ⟨z, r, rfl, h2⟩ := mj_pI_sp h1
    exact lv_ixor hx hb hdec (hK ad lv _ S H locs cells slots ls hR hl hwl hwt.tail.tail.pushI h2)
  case ishl =>
    subst hok
    obtain ⟨y, r, rfl, h1⟩ := mj_pI_sp h
    obtain ⟨z, r, rfl, h2⟩ := mj_pI_sp h1
    exact lv_ishl hx hb hdec (hK ad lv _ S H locs cells slots ls hR hl hwl hwt.tail.tail.pushI h2)
  case ishr =>
    subst hok
    obtain ⟨y, r, rfl, h1⟩ := mj_pI_sp h
    obtain ⟨z, r, rfl, h2⟩ := mj_pI_sp h1
    exact lv_ishr hx hb hdec (hK ad lv _ S H locs cells slots ls hR hl hwl hwt.tail.tail.pushI h2)
  case ladd =>
    subst hok
    obtain ⟨y, r, rfl, h1⟩ := mj_pL_sp h
    obtain ⟨z, r, rfl, h2⟩ := mj_pL_sp h1
    exact lv_ladd hx hb hdec (hK ad lv _ S H locs cells slots ls hR hl hwl hwt.tail.tail.pushL h2)
  case lsub =>
    subst hok
    obtain ⟨y, r, rfl, h1⟩ := mj_pL_sp h
    obtain ⟨z, r, rfl, h2⟩ := mj_pL_sp h1
    exact lv_lsub hx hb hdec (hK ad lv _ S H locs cells slots ls hR hl hwl hwt.tail.tail.pushL h2)
  case lmul =>
    subst hok
    obtain ⟨y, r, rfl, h1⟩ := mj_pL_sp h
    obtain ⟨z, r, rfl, h2⟩ := mj_pL_sp h1
    exact lv_lmul hx hb hdec (hK ad lv _ S H locs cells slots ls hR hl hwl hwt.tail.tail.pushL h2)
  case land =>
    subst hok
    obtain ⟨y, r, rfl, h1⟩ := mj_pL_sp h
    obtain ⟨z, r, rfl, h2⟩ := mj_pL_sp h1
    exact lv_land hx hb hdec (hK ad lv _ S H locs cells slots ls hR hl hwl hwt.tail.tail.pushL h2)
  case lor =>
    subst hok
    obtain ⟨y, r, rfl, h1⟩ := mj_pL_sp h
    obtain ⟨z, r, rfl, h2⟩ := mj_pL_sp h1
    exact lv_lor hx hb hdec (hK ad lv _ S H locs cells slots ls hR hl hwl hwt.tail.tail.pushL h2)
  case lushr =>
    subst hok
    obtain ⟨y, r, rfl, h1⟩ := mj_pI_sp h
    obtain ⟨z, r, rfl, h2⟩ := mj_pL_sp h1
    exact lv_lushr hx hb hdec rfl (hK ad lv _ S H locs cells slots ls hR hl hwl hwt.tail.tail.pushL h2)
  case lshl =>
    subst hok
    obtain ⟨y, r, rfl, h1⟩ := mj_pI_sp h
    obtain ⟨z, r, rfl, h2⟩ := mj_pL_sp h1
    exact lv_lshl hx hb hdec rfl (hK ad lv _ S H locs cells slots ls hR hl hwl hwt.tail.tail.pushL h2)
  case lshr =>
    subst hok
    obtain ⟨y, r, rfl, h1⟩ := mj_pI_sp h
    obtain ⟨z, r, rfl, h2⟩ := mj_pL_sp h1
    exact lv_lshr hx hb hdec rfl (hK ad lv _ S H locs cells slots ls hR hl hwl hwt.tail.tail.pushL h2)
  case idiv =>
    subst hok
    obtain ⟨y, r, rfl, h1⟩ := mj_pI_sp h
    obtain ⟨z, r, rfl, hne, h2⟩ := mj_pI_sp h1
    exact lv_idiv hx hb hdec hne (hK ad lv _ S H locs cells slots ls hR hl hwl hwt.tail.tail.pushI h2)
  case irem =>
    subst hok
    obtain ⟨y, r, rfl, h1⟩ := mj_pI_sp h
    obtain ⟨z, r, rfl, hne, h2⟩ := mj_pI_sp h1
    exact lv_irem hx hb hdec hne (hK ad lv _ S H locs cells slots ls hR hl hwl hwt.tail.tail.pushI h2)
  case ldiv =>
    subst hok
    obtain ⟨y, r, rfl, h1⟩ := mj_pL_sp h
    obtain ⟨z, r, rfl, hne, h2⟩ := mj_pL_sp h1
    exact lv_ldiv hx hb hdec hne (hK ad lv _ S H locs cells slots ls hR hl hwl hwt.tail.tail.pushL h2)
  case lrem =>
    subst hok
    obtain ⟨y, r, rfl, h1⟩ := mj_pL_sp h
    obtain ⟨z, r, rfl, hne, h2⟩ := mj_pL_sp h1
    exact lv_lrem hx hb hdec hne (hK ad lv _ S H locs cells slots ls hR hl hwl hwt.tail.tail.pushL h2)
  case ineg =>
    subst hok
    obtain ⟨y, r, rfl, h1⟩ := mj_pI_sp h
    exact lv_ineg hx hb hdec (hK ad lv _ S H locs cells slots ls hR hl hwl hwt.tail.pushI h1)
  case lneg =>
    subst hok
    obtain ⟨y, r, rfl, h1⟩ := mj_pL_sp h
    exact lv_lneg hx hb hdec (hK ad lv _ S H locs cells slots ls hR hl hwl hwt.tail.pushL h1)
  case i2c =>
    subst hok
    obtain ⟨y, r, rfl, h1⟩ := mj_pI_sp h
    exact lv_i2c hx hb hdec rfl (hK ad lv _ S H locs cells slots ls hR hl hwl hwt.tail.pushI h1)
  case i2b =>
    subst hok
    obtain ⟨y, r, rfl, h1⟩ := mj_pI_sp h
    exact lv_i2b hx hb hdec rfl (hK ad lv _ S H locs cells slots ls hR hl hwl hwt.tail.pushI h1)
  case i2l =>
    subst hok
    obtain ⟨y, r, rfl, h1⟩ := mj_pI_sp h
    exact lv_i2l hx hb hdec rfl (hK ad lv _ S H locs cells slots ls hR hl hwl hwt.tail.pushL h1)
  case l2i =>
    subst hok
    obtain ⟨y, r, rfl, h1⟩ := mj_pL_sp h
    exact lv_l2i hx hb hdec rfl (hK ad lv _ S H locs cells slots ls hR hl hwl hwt.tail.pushI h1)
  case lcmp =>
    subst hok
    obtain ⟨y, r, rfl, h1⟩ := mj_pL_sp h
    obtain ⟨z, r, rfl, h2⟩ := mj_pL_sp h1
    exact W.lcmp hx hb hdec (hK ad lv _ S H locs cells slots ls hR hl hwl hwt.tail.tail.pushI h2)
  case dup =>
    subst hok
    obtain ⟨v, r, rfl, hv, h1⟩ := mj_pV_sp h
    exact lv_dup hx hb hdec (by rw [mj_tr_cat]; exact hv) (hK ad lv _ S H locs cells slots ls hR hl hwl (hwt.push hwt.head) h1)
  case pop =>
    subst hok
    obtain ⟨v, r, rfl, hv, h1⟩ := mj_pV_sp h
    exact lv_pop hx hb hdec (by rw [mj_tr_cat]; exact hv) (hK ad lv _ S H locs cells slots ls hR hl hwl hwt.tail h1)
  case goto off =>
    obtain ⟨rfl, hk⟩ := hok
    exact lv_goto hx hb hdec hk (hN a ad lv st S H locs cells slots ls hR hl hwl hwt h)
  case ifCond cd off =>
    obtain ⟨rfl, hk⟩ := hok
    obtain ⟨y, r, rfl, h1⟩ := mj_pI_sp h
    have kt := fun q => hN a ad lv r S H locs cells slots ls hR hl hwl hwt.tail (h1.1 q)
    have kf := fun q => hK ad lv r S H locs cells slots ls hR hl hwl hwt.tail (h1.2 q)
    cases cd
    · exact lv_if_eq hx hb hdec hk kt kf
    · exact lv_if_ne hx hb hdec hk kt (fun q => kf (fun n => n q))
    · exact lv_if_lt hx hb hdec hk kt kf
    · exact lv_if_ge hx hb hdec hk kt kf
    · exact lv_if_gt hx hb hdec hk kt kf
    · exact lv_if_le hx hb hdec hk kt kf
  case if_icmp cd off =>
    obtain ⟨rfl, hk⟩ := hok
    obtain ⟨y, r, rfl, h1⟩ := mj_pI_sp h
    obtain ⟨z, r, rfl, h1⟩ := mj_pI_sp h1
    have kt := fun q => hN a ad lv r S H locs cells slots ls hR hl hwl hwt.tail.tail (h1.1 q)
    have kf := fun q => hK ad lv r S H locs cells slots ls hR hl hwl hwt.tail.tail (h1.2 q)
    cases cd
    · exact lv_icmp_eq hx hb hdec hk kt kf
    · exact lv_icmp_ne hx hb hdec hk kt (fun q => kf (fun n => n q))
    · exact lv_icmp_lt hx hb hdec hk kt kf
    · exact lv_icmp_ge hx hb hdec hk kt kf
    · exact lv_icmp_gt hx hb hdec hk kt kf
    · exact lv_icmp_le hx hb hdec hk kt kf
  case ldc n =>
    obtain ⟨rfl, hk⟩ := hok
    rcases hk with ⟨rfl, hk⟩ | ⟨hk, hk2⟩
    · exact lv_ldc hx hb hown (hwd _ hk) hdec (hK ad lv _ S H locs cells slots ls hR hl hwl hwt.pushI h)
    · obtain ⟨tx, hz⟩ := hls n rfl hk
      split at h
      · exact absurd rfl hk
      · have e : ad a = aE a := hR.2.2.2.2.1.2 a (Or.inr hk2)
        refine va_ldcS hx hb hown hz hdec ?_
        rw [← e]
        exact hK ad lv (.ref a :: st) S H locs cells slots ls hR hl hwl (hwt.push (Or.inr hk2)) h
  case tableswitch dd lo hi offs =>
    obtain ⟨hk, hsz, hhi, hj⟩ := hok
    obtain ⟨y, r, rfl, h1⟩ := mj_pI_sp h
    rcases mj_sw_tab sw h1 with ⟨j, k', t', q1, q2, q3⟩ | ⟨q1, q2⟩
    · have hjl : j < offs.size := by rw [hsz]; exact (List.getElem?_eq_some_iff.mp q1).1
      obtain ⟨o, k2, t2, w1, w2, w3, w4⟩ := hj j hjl
      rw [w2] at q1
      cases q1
      subst q2
      have e : (y.toInt - lo).toNat = j := by omega
      exact lv_tableIn hx hb hdec (by omega) (by omega) (by rw [e]; exact w1) w4 (hN t' ad lv r S H locs cells slots ls hR hl hwl hwt.tail q3)
    · refine lv_tableOut hx hb hdec ?_ hk (hN a ad lv r S H locs cells slots ls hR hl hwl hwt.tail q2)
      by_cases hlo : y.toInt < lo
      · exact Or.inl hlo
      · by_cases hhi2 : hi < y.toInt
        · exact Or.inr hhi2
        · exfalso
          obtain ⟨o, k2, t2, w1, w2, w3, w4⟩ := hj (y.toInt - lo).toNat (by omega)
          exact q1 _ _ _ w2 (Int32.toInt_inj.mp (by omega))
  case lookupswitch dd ps =>
    obtain ⟨hk, hp, hps⟩ := hok
    obtain ⟨y, r, rfl, h1⟩ := mj_pI_sp h
    obtain ⟨tgt, q1, q2⟩ := mj_sw_look hk sw h1
    exact lv_lookup hx hb hdec hp (by rw [hps]) q2 (hN tgt ad lv r S H locs cells slots ls hR hl hwl hwt.tail q1)
  case getfield n =>
    obtain ⟨rfl, C, T, N, hc, hbN, hlk2, htg⟩ := hok
    obtain ⟨o, r, rfl, h1⟩ := mj_pR_sp h
    obtain ⟨h2, h3⟩ := mj_tt_sp h1
    obtain ⟨n', ho, hbn⟩ := mj_ob_sp h2
    refine mj_h_get hx hb hown hKt hwd hco hR ho hbn hc hbN hlk2 hdec ?_
    rcases htg with ⟨rfl, hft⟩ | ⟨ht, hft⟩
    · have e : mj_fv ad S o b (ft a b) = .int (S.2.1 o b) := by
        unfold mj_fv
        split
        · rename_i q; exact absurd q hft
        · rfl
      rw [e]
      exact hK ad lv (.int _ :: r) S H locs cells slots ls hR hl hwl hwt.tail.pushI h3
    · split at h3
      · exact absurd rfl ht
      · obtain ⟨q, q1, q2⟩ := mj_so_sp h3
        have e : mj_fv ad S o b (ft a b) = .ref (ad q) := by
          rw [hft]
          unfold mj_fv
          simp only [q1]
        rw [e]
        exact hK ad lv (.ref q :: r) S H locs cells slots ls hR hl hwl (hwt.tail.push (hR.2.2.2.1.2 _ _ _ q1)) q2
  case putfield n =>
    obtain ⟨rfl, C, T, N, ty, hc, hbN, hlk2, hfin, hty, htg⟩ := hok
    have hfin' : (T b).2.2.2 = false ∨ ((T b).2.2.2 = true ∧ meth.name = "<init>" ∧ (T b).1 = own) := hfin.imp id fun q => ⟨q.1, g1 q.2.1, q.2.2⟩
    have notr : ∀ {S' : mj_S} {j : Nat} {v : Int32} {o : Nat}, S' = (S.1, mj_up S.2.1 o b v, S.2.2) → j ≠ b → mj_fv ad S' o j (ft a j) = mj_fv ad S o j (ft a j) := by
      intro S' j v o hS hj
      subst hS
      simp [mj_fv, mj_up, hj]
    have noti : ∀ {v : Int32} {o : Nat}, ft a b ≠ 2 → mj_fv ad (S.1, mj_up S.2.1 o b v, S.2.2) o b (ft a b) = .int v := by
      intro v o hft
      unfold mj_fv
      split
      · rename_i q; exact absurd q hft
      · simp [mj_up]
    rcases htg with ⟨rfl, rfl, hft⟩ | ⟨rfl, hrt2, hft⟩ | ⟨rfl, rfl, hft⟩
    · obtain ⟨v, r, rfl, h1⟩ := mj_pI_sp h
      obtain ⟨o, r, rfl, h1⟩ := mj_pR_sp h1
      obtain ⟨h2, h3⟩ := mj_tt_sp h1
      obtain ⟨n', ho, hbn⟩ := mj_ob_sp h2
      exact mj_h_put hx hb hown hKt hwd hco hR (v := .int v) (S' := (S.1, mj_up S.2.1 o b v, S.2.2)) ho hbn hc hbN hlk2 hdec hfin' hty rfl rfl rfl (fun b' hb' => ⟨mj_up_ne hb', rfl, rfl⟩) (fun j q hq => hR.2.2.2.1.2 o j q hq) rfl (noti hft) (fun j hj => notr rfl hj)
        (fun H' locs' hR' => hK ad lv r _ H' locs' cells slots ls hR' hl hwl hwt.tail.tail h3)
    · obtain ⟨v, r, rfl, h1⟩ := mj_pR_sp h
      obtain ⟨o, r, rfl, h1⟩ := mj_pR_sp h1
      obtain ⟨h2, h3⟩ := mj_tt_sp h1
      obtain ⟨n', ho, hbn⟩ := mj_ob_sp h2
      refine mj_h_put hx hb hown hKt hwd hco hR (v := .ref (ad v)) (S' := (S.1, S.2.1, S.2.2.1, mj_up S.2.2.2.1 o b (some v), S.2.2.2.2)) ho hbn hc hbN hlk2 hdec hfin' hty ?_ ?_ rfl (fun b' hb' => ⟨rfl, rfl, mj_up_ne hb'⟩) ?_ rfl ?_ ?_
        (fun H' locs' hR' => hK ad lv r _ H' locs' cells slots ls hR' hl hwl hwt.tail.tail h3)
      · rcases hrt2 with ⟨n, rfl⟩ | ⟨t, rfl⟩ <;> rfl
      · rcases hrt2 with ⟨n, rfl⟩ | ⟨t, rfl⟩ <;> rfl
      · intro j q hq
        simp only [mj_up] at hq
        split at hq
        · split at hq
          · cases hq; exact hwt.head
          · exact hR.2.2.2.1.2 o j q hq
        · exact hR.2.2.2.1.2 o j q hq
      · rw [hft]
        simp [mj_fv, mj_up]
      · intro j hj
        simp [mj_fv, mj_up, hj]
    · obtain ⟨v, r, rfl, h1⟩ := mj_pI_sp h
      obtain ⟨o, r, rfl, h1⟩ := mj_pR_sp h1
      obtain ⟨h2, hv, h3⟩ := mj_tt_sp h1
      obtain ⟨n', ho, hbn⟩ := mj_ob_sp h2
      refine mj_h_put hx hb hown hKt hwd hco hR (v := .int v) (S' := (S.1, mj_up S.2.1 o b v, S.2.2)) ho hbn hc hbN hlk2 hdec hfin' hty ?_ ?_ rfl (fun b' hb' => ⟨mj_up_ne hb', rfl, rfl⟩) (fun j q hq => hR.2.2.2.1.2 o j q hq) rfl (noti hft) (fun j hj => notr rfl hj)
        (fun H' locs' hR' => hK ad lv r _ H' locs' cells slots ls hR' hl hwl hwt.tail.tail h3)
      · rcases hv with rfl | rfl <;> rfl
      · rcases hv with rfl | rfl <;> rfl
  case iaload =>
    subst hok
    split at h
    · unfold mj_ald at h
      obtain ⟨y, r, rfl, h1⟩ := mj_pI_sp h
      obtain ⟨o, r, rfl, h1⟩ := mj_pR_sp h1
      obtain ⟨n, h2, h3, h4⟩ := mj_so_sp h1
      exact mj_h_ald hx hb hKt hR (mj_ar_sp h2) h3 hdec (Or.inl ⟨rfl, rfl⟩) (hK ad lv (.int _ :: r) S H locs cells slots ls hR hl hwl hwt.tail.tail.pushI h4)
    · obtain ⟨y, r, rfl, h1⟩ := mj_pI_sp h
      obtain ⟨o, r, rfl, rfl, h3, h4⟩ := mj_pR_sp h1
      have e9 : ad 900000 = aE 900000 := hR.2.2.2.2.1.2 _ (Or.inr (Nat.le_refl _))
      show W p l e R s m args below meth c H locs cells slots Z (F0 m pc ls (.int y :: .ref (ad 900000) :: r.map (mj_tr ad)))
      rw [e9]
      exact va_sld hx hb g6.1 g6.2.1 (A := fun q => B ≤ q) g6.2.2 hR.2.2.1 h3 hdec (hK ad lv (.int _ :: r) S H locs cells slots ls hR hl hwl hwt.tail.tail.pushI h4)
  case caload =>
    subst hok
    unfold mj_ald at h
    obtain ⟨y, r, rfl, h1⟩ := mj_pI_sp h
    obtain ⟨o, r, rfl, h1⟩ := mj_pR_sp h1
    obtain ⟨n, h2, h3, h4⟩ := mj_so_sp h1
    exact mj_h_ald hx hb hKt hR (mj_ar_sp h2) h3 hdec (Or.inr (Or.inl ⟨rfl, rfl⟩)) (hK ad lv (.int _ :: r) S H locs cells slots ls hR hl hwl hwt.tail.tail.pushI h4)
  case baload =>
    subst hok
    split at h <;> unfold mj_ald at h
    · obtain ⟨y, r, rfl, h1⟩ := mj_pI_sp h
      obtain ⟨o, r, rfl, h1⟩ := mj_pR_sp h1
      obtain ⟨n, h2, h3, h4⟩ := mj_so_sp h1
      exact mj_h_ald hx hb hKt hR (mj_ar_sp h2) h3 hdec (Or.inr (Or.inr (Or.inl ⟨rfl, rfl⟩))) (hK ad lv (.int _ :: r) S H locs cells slots ls hR hl hwl hwt.tail.tail.pushI h4)
    · obtain ⟨y, r, rfl, h1⟩ := mj_pI_sp h
      obtain ⟨o, r, rfl, h1⟩ := mj_pR_sp h1
      obtain ⟨n, h2, h3, h4⟩ := mj_so_sp h1
      exact mj_h_ald hx hb hKt hR (mj_ar_sp h2) h3 hdec (Or.inr (Or.inr (Or.inr ⟨rfl, rfl⟩))) (hK ad lv (.int _ :: r) S H locs cells slots ls hR hl hwl hwt.tail.tail.pushI h4)
  case laload =>
    subst hok
    obtain ⟨y, r, rfl, h1⟩ := mj_pI_sp h
    obtain ⟨o, r, rfl, h1⟩ := mj_pR_sp h1
    obtain ⟨n, h2, h3, h4⟩ := mj_so_sp h1
    exact mj_h_lald hx hb hKt hR (mj_ar_sp h2) h3 hdec (hK ad lv (.long _ :: r) S H locs cells slots ls hR hl hwl hwt.tail.tail.pushL h4)
  case iastore =>
    subst hok
    unfold mj_ast at h
    obtain ⟨v, r, rfl, h1⟩ := mj_pI_sp h
    obtain ⟨y, r, rfl, h1⟩ := mj_pI_sp h1
    obtain ⟨o, r, rfl, h1⟩ := mj_pR_sp h1
    obtain ⟨n, h2, h3, h4⟩ := mj_so_sp h1
    exact mj_h_ast (nar := fun v => v) hx hb hKt hR (mj_ar_sp h2) h3 hdec (Or.inl ⟨rfl, rfl, rfl⟩) (fun H' locs' hR' => hK ad lv r _ H' locs' cells slots ls hR' hl hwl hwt.tail.tail.tail h4)
  case castore =>
    subst hok
    unfold mj_ast at h
    obtain ⟨v, r, rfl, h1⟩ := mj_pI_sp h
    obtain ⟨y, r, rfl, h1⟩ := mj_pI_sp h1
    obtain ⟨o, r, rfl, h1⟩ := mj_pR_sp h1
    obtain ⟨n, h2, h3, h4⟩ := mj_so_sp h1
    exact mj_h_ast (nar := fun v => vp_nar .char v) hx hb hKt hR (mj_ar_sp h2) h3 hdec (Or.inr (Or.inl ⟨rfl, rfl, rfl⟩)) (fun H' locs' hR' => hK ad lv r _ H' locs' cells slots ls hR' hl hwl hwt.tail.tail.tail h4)
  case bastore =>
    subst hok
    split at h <;> unfold mj_ast at h
    · obtain ⟨v, r, rfl, h1⟩ := mj_pI_sp h
      obtain ⟨y, r, rfl, h1⟩ := mj_pI_sp h1
      obtain ⟨o, r, rfl, h1⟩ := mj_pR_sp h1
      obtain ⟨n, h2, h3, h4⟩ := mj_so_sp h1
      exact mj_h_ast (nar := fun v => vp_nar .boolean v) hx hb hKt hR (mj_ar_sp h2) h3 hdec (Or.inr (Or.inr (Or.inl ⟨rfl, rfl, rfl⟩))) (fun H' locs' hR' => hK ad lv r _ H' locs' cells slots ls hR' hl hwl hwt.tail.tail.tail h4)
    · obtain ⟨v, r, rfl, h1⟩ := mj_pI_sp h
      obtain ⟨y, r, rfl, h1⟩ := mj_pI_sp h1
      obtain ⟨o, r, rfl, h1⟩ := mj_pR_sp h1
      obtain ⟨n, h2, h3, h4⟩ := mj_so_sp h1
      exact mj_h_ast (nar := fun v => vp_nar .byte v) hx hb hKt hR (mj_ar_sp h2) h3 hdec (Or.inr (Or.inr (Or.inr ⟨rfl, rfl, rfl⟩))) (fun H' locs' hR' => hK ad lv r _ H' locs' cells slots ls hR' hl hwl hwt.tail.tail.tail h4)
  case lastore =>
    subst hok
    obtain ⟨v, r, rfl, h1⟩ := mj_pL_sp h
    obtain ⟨y, r, rfl, h1⟩ := mj_pI_sp h1
    obtain ⟨o, r, rfl, h1⟩ := mj_pR_sp h1
    obtain ⟨n, h2, h3, h4⟩ := mj_so_sp h1
    exact mj_h_last hx hb hKt hR (mj_ar_sp h2) h3 hdec (fun H' locs' hR' => hK ad lv r _ H' locs' cells slots ls hR' hl hwl hwt.tail.tail.tail h4)
  case arraylength =>
    subst hok
    split at h
    · obtain ⟨o, r, rfl, h1⟩ := mj_pR_sp h
      obtain ⟨n, h2, h4⟩ := mj_so_sp h1
      have ha := mj_ws_at (ft := ft) (ka := ka) (ad := ad) (mj_ar_sp h2)
      rw [mj_ent_arr (by decide)] at ha
      exact va_alen hx hb hKt hR.1 o 0 ha rfl rfl hdec (hK ad lv (.int _ :: r) S H locs cells slots ls hR hl hwl hwt.tail.pushI h4)
    · obtain ⟨o, r, rfl, rfl, h4⟩ := mj_pR_sp h
      have e9 : ad 900000 = aE 900000 := hR.2.2.2.2.1.2 _ (Or.inr (Nat.le_refl _))
      show W p l e R s m args below meth c H locs cells slots Z (F0 m pc ls (.ref (ad 900000) :: r.map (mj_tr ad)))
      rw [e9]
      exact va_slen hx hb g6.1 g6.2.1 (A := fun q => B ≤ q) g6.2.2 hR.2.2.1 hdec (hK ad lv (.int _ :: r) S H locs cells slots ls hR hl hwl hwt.tail.pushI h4)
  case new n =>
    obtain ⟨rfl, hk⟩ := hok
    rcases hk with hk | ⟨rfl, C, T, hc, w1, w2, w3⟩
    · exact hT n rfl hk ad lv st S H locs cells slots ls hR hl hwl hwt h'
    · obtain ⟨⟨c1, c2⟩, h1⟩ := h
      have hw := hR.2.2.2.1
      have hlen : S.2.2.2.2.1 + 1 ≤ 601024 ∧ S.2.2.2.2.2 + b ≤ 7293034 := by omega
      have q6 := hR.2.2.2.2.2.1
      have q7 := hR.2.2.2.2.2.2
      refine mj_h_new hx hb hown hKt hwd hco hA hR hc w1 w2 w3 hlen (by omega) (by omega) hdec (fun q H' hR' => ?_)
      have hu : S.1.length ≤ (mj_nS S a b).1.length := by simp [mj_nS]
      rw [← mj_map_ad (ad' := mj_nA S ad q) hwt (fun i hi => mj_nA_old hw hi), show Value.ref q = mj_tr (mj_nA S ad q) (.ref S.1.length) by simp [mj_tr, mj_nA_new]]
      exact hK (mj_nA S ad q) lv (.ref S.1.length :: st) (mj_nS S a b) H' locs _ _ ls hR' (hl.ad hwl (fun i hi => mj_nA_old hw hi)) (hwl.up hu) ((hwt.up hu).push (Or.inl (by simp [mj_nS]))) h1
  case newarray ty =>
    obtain ⟨rfl, hty, hwd2⟩ := hok
    obtain ⟨y, r, rfl, h0, ⟨c1, c2⟩, h1⟩ := mj_pI_sp h
    have hw := hR.2.2.2.1
    have hlen : S.2.2.2.2.1 + 1 ≤ 601024 ∧ S.2.2.2.2.2 + y.toNatClampNeg ≤ 7293034 := by omega
    have q6 := hR.2.2.2.2.2.1
    have q7 := hR.2.2.2.2.2.2
    refine mj_h_newa hx hb hKt hwd hA hR hty hwd2 h0 (by omega) hlen (by omega) (by omega) hdec (fun q H' hR' => ?_)
    have hu : S.1.length ≤ (mj_nS S (1000 + t) y.toNatClampNeg).1.length := by simp [mj_nS]
    rw [← mj_map_ad (ad' := mj_nA S ad q) hwt.tail (fun i hi => mj_nA_old hw hi), show Value.ref q = mj_tr (mj_nA S ad q) (.ref S.1.length) by simp [mj_tr, mj_nA_new]]
    exact hK (mj_nA S ad q) lv (.ref S.1.length :: r) (mj_nS S (1000 + t) y.toNatClampNeg) H' locs _ _ ls hR' (hl.ad hwl (fun i hi => mj_nA_old hw hi)) (hwl.up hu) ((hwt.tail.up hu).push (Or.inl (by simp [mj_nS]))) h1
  case invokestatic n => exact hC n (Or.inl rfl) ad lv st S H locs cells slots ls hR hl hwl hwt h'
  case invokevirtual n => exact hC n (Or.inr (Or.inl rfl)) ad lv st S H locs cells slots ls hR hl hwl hwt h'
  case invokespecial n =>
    obtain ⟨rfl, hk⟩ := hok
    rcases hk with rfl | ⟨hk, w1, w2, w3⟩
    · exact hC n (Or.inr (Or.inr ⟨rfl, rfl⟩)) ad lv st S H locs cells slots ls hR hl hwl hwt h'
    · split at h
      · exact absurd rfl hk
      · obtain ⟨o, r, rfl, h1⟩ := mj_pR_sp h
        obtain ⟨rfl, h2⟩ := mj_p0_sp h1
        exact W.objInit hx hb hown (hwd _ w1) (hwd _ w2) (hwd _ w3) rfl (by rw [hml]; exact hl.1) rfl hdec (by omega) (by show 2 * 0 + 0 + 12 ≤ _; omega) (hK ad lv [] S H locs cells slots ls hR hl hwl hwt.tail h2)
  case checkcast n =>
    obtain ⟨rfl, hk⟩ := hok
    obtain ⟨o, r, rfl, h1⟩ := mj_pR_sp h
    obtain ⟨n', h2, h4⟩ := mj_so_sp h1
    have ha := mj_ws_at (ft := ft) (ka := ka) (ad := ad) (mj_ar_sp h2)
    rw [mj_ent_arr (by decide)] at ha
    exact va_castA hx hb hown (hwd _ hk) hR.1 o ha (va_nm_int (hKt.2 0 _ rfl).2) hdec (hK ad lv (.ref o :: r) S H locs cells slots ls hR hl hwl hwt h4)
  case ireturn =>
    obtain ⟨rfl, hk⟩ := hok
    obtain ⟨v, r, rfl, h1⟩ := mj_pI_sp h
    obtain ⟨rfl, h2⟩ := mj_p0_sp h1
    have fin : Q (.inl (some (.int v))) S → ∀ t : State, MQ below (fun _ _ o t => o = .returned (some (.int v)) ∧ t.heap = H) args s cells slots (fun q => B ≤ q) t → Z t := by
      rintro q t ⟨o, w1, w2, ⟨rfl, w4⟩, L, ⟨-, w5, w6⟩, w7⟩
      exact hQ ad (some (.int v)) S H locs cells slots t hR q (fun w hw => by cases hw; trivial) w4 w1 w2 w5 ⟨L, w7, w6⟩
    rcases hk with ⟨rfl, hk⟩ | ⟨hk, hk2⟩
    · exact mj_wcons (W.iret hx hb (hrt.trans hk) (fun t ht _ => ⟨rfl, ht⟩) hR.2.2.1.2.2 hdec hlk) (fin h2)
    · split at h2
      · exact absurd rfl hk
      · exact mj_wcons (W.zret hx hb (hrt.trans hk2) (by rcases h2.1 with rfl | rfl <;> rfl) (fun t ht _ => ⟨rfl, ht⟩) hR.2.2.1.2.2 hdec hlk) (fin h2.2)
  case return_ =>
    obtain ⟨rfl, hk⟩ := hok
    obtain ⟨rfl, h2⟩ := mj_p0_sp h
    refine mj_wcons (W.vret (Qc := fun _ _ o t => o = .returned none ∧ t.heap = H) (free := fun q => B ≤ q) hx hb (hrt.trans hk) (fun t ht _ => ⟨rfl, ht⟩) hR.2.2.1.2.2 hdec hlk) ?_
    rintro t ⟨o, w1, w2, ⟨rfl, w4⟩, L, ⟨-, w5, w6⟩, w7⟩
    exact hQ ad none S H locs cells slots t hR h2 (fun w hw => by cases hw) w4 w1 w2 w5 ⟨L, w7, w6⟩
  all_goals exact h.elim
end MJI
end
section
/-! A METHOD'S BODY, against the machine -/
section MJY
variable {p : Program} {l : Launch} {e : Env} {R : Room} {s : State} {m : MethodId} {args : Array Value} {below : List Frame} {meth : Method} {c : Code} {Z : State → Prop}
variable {D : va_G} {cl : List vw_C} {ft : Nat → Nat → Nat} {ka : Nat → ClassId} {B : Nat} {E : mj_S} {aE : Nat → Nat} {cc : ByteArray} {nL : Nat} {own : String} {Wd : Cond → Prop} {ini : Prop} {rt : Option FieldType} {X : mj_X} {hd : mj_H} {cls : mj_C}
/-- an end by a throw -/
def mj_Xok (s : State) (below : List Frame) (Z : State → Prop) (D : va_G) (cl : List vw_C) (ft : Nat → Nat → Nat) (ka : Nat → ClassId) (B : Nat) (E : mj_S) (aE : Nat → Nat) (Q : mj_Q) : Prop :=
  ∀ (ad : Nat → Nat) (k : Nat) (S : mj_S) (H : Heap) (locs : List Loc) (cells slots : Nat) (a : Addr) (ce : Cell) (t : State), mj_Rh D cl ft ka B s E aE ad S H locs cells slots → Q (.inr k) S → H[a]? = some ce → s.vm.findClass (mj_ex k) = some ce.cls → ce.vm.isStatics = false → t.heap = H → t.status = .running → Ended t below (.threw a) → s.WarmedH t.vm → (∃ L : List Loc, (∀ q ∈ L, B ≤ q.base) ∧ s.sameButNew ({ t with vm := s.vm } : State) L cells slots) → Z t
/-- an instruction is sound in this body, whatever comes behind it -/
def mj_Iok (p : Program) (l : Launch) (e : Env) (R : Room) (s : State) (m : MethodId) (args : Array Value) (below : List Frame) (meth : Method) (c : Code) (D : va_G) (cl : List vw_C) (ft : Nat → Nat → Nat) (ka : Nat → ClassId) (B : Nat) (E : mj_S) (aE : Nat → Nat) (nL : Nat) (X : mj_X) (hd : mj_H) (cls : mj_C) (x : mj_I) : Prop :=
  ∀ (nx : mj_N) (K : mj_K) (Q : mj_Q) (Z : State → Prop), (∀ pc, mj_Kok p l e R s m args below meth c Z D cl ft ka B E aE nL (fun lv st S => nx pc lv st S Q) pc) → mj_Kok p l e R s m args below meth c Z D cl ft ka B E aE nL K (x.1 + x.2.2.1) → mj_Qok s below Z D cl ft ka B E aE Q → mj_Xok s below Z D cl ft ka B E aE Q →
    mj_Kok p l e R s m args below meth c Z D cl ft ka B E aE nL (fun lv st S => mj_in X hd cls nx Q x K lv st S) x.1
/-- a block's instructions lie one behind the other -/
def mj_bok (Ok : mj_I → Prop) : Nat → List mj_I → Nat → Prop
  | pc, [], e => e = pc
  | pc, x :: is, e => x.1 = pc ∧ Ok x ∧ mj_bok Ok (pc + x.2.2.1) is e
theorem mj_rb_snd {nx : mj_N} {Q : mj_Q} (hN : ∀ pc, mj_Kok p l e R s m args below meth c Z D cl ft ka B E aE nL (fun lv st S => nx pc lv st S Q) pc) (hQ : mj_Qok s below Z D cl ft ka B E aE Q) (hX : mj_Xok s below Z D cl ft ka B E aE Q) :
    ∀ (is : List mj_I) (pc en : Nat), mj_bok (mj_Iok p l e R s m args below meth c D cl ft ka B E aE nL X hd cls) pc is en → mj_Kok p l e R s m args below meth c Z D cl ft ka B E aE nL (mj_rb X hd cls nx Q en is) pc
  | [], pc, en, h => by
    have h : en = pc := h
    subst h
    exact hN en
  | x :: is, pc, en, h => by
    obtain ⟨h1, h2, h3⟩ := h
    subst h1
    exact h2 nx (mj_rb X hd cls nx Q en is) Q Z hN (mj_rb_snd hN hQ hX is _ en h3) hQ hX
theorem mj_bk_mem : ∀ {T : List mj_B} {pc : Nat} {b : mj_B}, mj_bk T pc = some b → b ∈ T ∧ b.1 = pc
  | b' :: r, pc, b, h => by
    unfold mj_bk at h
    split at h
    · rename_i hb
      cases h
      exact ⟨List.mem_cons_self, hb⟩
    · obtain ⟨h1, h2⟩ := mj_bk_mem h
      exact ⟨List.mem_cons_of_mem _ h1, h2⟩
def mj_PN (p : Program) (l : Launch) (e : Env) (R : Room) (s : State) (m : MethodId) (args : Array Value) (below : List Frame) (meth : Method) (c : Code) (Z : State → Prop) (D : va_G) (cl : List vw_C) (ft : Nat → Nat → Nat) (ka : Nat → ClassId) (B : Nat) (E : mj_S) (aE : Nat → Nat) (nL : Nat) : mj_N := fun pc lv st S Q =>
  mj_Qok s below Z D cl ft ka B E aE Q → mj_Xok s below Z D cl ft ka B E aE Q → ∀ (ad : Nat → Nat) (H : Heap) (locs : List Loc) (cells slots : Nat) (ls : Array Slot), mj_Rh D cl ft ka B s E aE ad S H locs cells slots → mj_lr ad nL lv ls → mj_wL S.1.length lv → mj_wT S.1.length st → W p l e R s m args below meth c H locs cells slots Z (F0 m pc ls (st.map (mj_tr ad)))
theorem mj_rn_snd {T : List mj_B} (hT : ∀ b ∈ T, mj_bok (mj_Iok p l e R s m args below meth c D cl ft ka B E aE nL X hd cls) b.1 b.2.2.1 b.2.2.2) {Q : mj_Q} (hQ : mj_Qok s below Z D cl ft ka B E aE Q) (hX : mj_Xok s below Z D cl ft ka B E aE Q) (pc : Nat) :
    mj_Kok p l e R s m args below meth c Z D cl ft ka B E aE nL (fun lv st S => mj_rn X hd cls T pc lv st S Q) pc := by
  intro ad lv st S H locs cells slots ls hR hl hwl hwt h
  refine h (mj_PN p l e R s m args below meth c Z D cl ft ka B E aE nL) ?_ hQ hX ad H locs cells slots ls hR hl hwl hwt
  intro pc lv st S Q q hQ hX ad H locs cells slots ls hR hl hwl hwt
  unfold mj_at at q
  obtain ⟨b, hb, q2⟩ := mj_so_sp q
  obtain ⟨hb1, hb2⟩ := mj_bk_mem hb
  subst hb2
  exact mj_rb_snd (nx := mj_PN p l e R s m args below meth c Z D cl ft ka B E aE nL) (fun pc ad lv st S H locs cells slots ls hR hl hwl hwt k => k hQ hX ad H locs cells slots ls hR hl hwl hwt) hQ hX b.2.2.1 b.1 b.2.2.2 (hT b hb1) ad _ st S H locs cells slots ls hR (hl.less (mj_mk_get _ _)) (hwl.less (mj_mk_get _ _)) hwt q2
/-- the plain instructions -/
theorem mj_Iok_in (hx : p.tables.exec = Jvm.exec) (hb : c.code = cc) (hml : c.maxLocals = nL) (hown : s.vm.findClass own = some m.cls) (hlk : meth.locks = false) (hrt : meth.sig.returnType = rt) (hwd : ∀ w, Wd w → w.before args s = true) (hKt : va_K D cl (mj_tys ka) s) (hco : mj_cok Wd cl ft) (hG : mj_Gr R s meth B E aE X ini)
    {x : mj_I} (hdec : decode cc x.1 = .ok (x.2.1, x.2.2.1)) (hok : mj_iok Wd cl ft own nL ini rt x) (hls : ∀ i, x.2.1 = .ldc i → x.2.2.2.1.2.2 ≠ 0 → ∃ tx, vk_R own i tx (aE x.2.2.2.1.1) s)
    (hC : ∀ n, (x.2.1 = .invokestatic n ∨ x.2.1 = .invokevirtual n ∨ (x.2.1 = .invokespecial n ∧ x.2.2.2.1.2.2 = 0)) → mj_Iok p l e R s m args below meth c D cl ft ka B E aE nL X hd cls x)
    (hT : ∀ n, x.2.1 = .new n → x.2.2.2.1.2.2 ≠ 0 → mj_Iok p l e R s m args below meth c D cl ft ka B E aE nL X hd cls x) : mj_Iok p l e R s m args below meth c D cl ft ka B E aE nL X hd cls x := by
  intro nx K Q Z hN hK hQ hX ad lv st S H locs cells slots ls hR hl hwl hwt h
  exact mj_in_snd hx hb hml hown hlk hrt hwd hKt hco hG hdec hok hK hN hQ hls (fun n hn => hC n hn nx K Q Z hN hK hQ hX) (fun n hn ht => hT n hn ht nx K Q Z hN hK hQ hX) hR hl hwl hwt h
end MJY
end
section
/-! A THROW IN A BODY -/
section MJU
variable {p : Program} {l : Launch} {e : Env} {R : Room} {s s0 : State} {m : MethodId} {args : Array Value} {below : List Frame} {meth : Method} {c : Code} {Z : State → Prop}
variable {D : va_G} {cl : List vw_C} {ft : Nat → Nat → Nat} {ka : Nat → ClassId} {B : Nat} {E : mj_S} {aE : Nat → Nat} {cc : ByteArray} {nL : Nat} {own : String} {Wd : Cond → Prop} {ini : Prop} {rt : Option FieldType} {X : mj_X} {hd : mj_H} {cls : mj_C}
theorem mj_Cst.on {T : State} {H : Heap} {locs : List Loc} (hC : mj_Cst s0 s) (hB : B = s0.heap.size) (hS : va_S (fun q => B ≤ q) s.heap H locs) (hH : T.heap = H) (hW : s.WarmedH T.vm) : mj_Cst s0 T := by
  refine ⟨hC.1.trans hW, by rw [hH]; exact Nat.le_trans hC.2.1 hS.1, fun q hq => ?_⟩
  rw [hH, hS.2.1 q (Nat.lt_of_lt_of_le hq hC.2.1) (by omega)]
  exact hC.2.2 q hq
theorem mj_Iok_throw (hx : p.tables.exec = Jvm.exec) (hb : c.code = cc) (hml : c.maxLocals = nL) (hown : s.vm.findClass own = some m.cls) (hlk : meth.locks = false) (hwd : ∀ w, Wd w → w.before args s = true) (hG : mj_Gr R s meth B E aE X ini) (hfl : l.flags = pinnedFlags ++ [noTraceFlag]) (hC : mj_Cst s0 s) (hB : B = s0.heap.size)
    {x : mj_I} {n iL ic : Nat} {A : Array Value} {tx : String} {q0 : Nat} (hi : x.2.1 = .new n) (ht : x.2.2.2.1.2.2 ≠ 0) (hth : mj_Thr A s0 own ic (mj_ex x.2.2.2.1.1) ["java/lang/RuntimeException", "java/lang/Exception"]) (hcls : Bundle.fit (mj_ex x.2.2.2.1.1) = true)
    (w1 : Wd (.classLink own n (mj_ex x.2.2.2.1.1))) (w2 : Wd (.instantiable (mj_ex x.2.2.2.1.1) 6)) (w3 : Wd (.initialized (mj_ex x.2.2.2.1.1))) (hstr : vk_R own iL tx q0 s)
    (hd0 : decode cc x.1 = .ok (.new n, 3)) (hd3 : decode cc (x.1 + 3) = .ok (.dup, 1)) (hd4 : decode cc (x.1 + 4) = .ok (.ldc iL, 2)) (hd6 : decode cc (x.1 + 6) = .ok (.invokespecial ic, 3)) (hd9 : decode cc (x.1 + 9) = .ok (.athrow, 1)) (hout : c.exceptionTable.toList = []) :
    mj_Iok p l e R s m args below meth c D cl ft ka B E aE nL X hd cls x := by
  intro nx K Q Z hN hK hQ hX ad lv st S H locs cells slots ls hR hl hwl hwt h
  obtain ⟨pc, i, len, ⟨a, b, t⟩, k, kl, sw⟩ := x
  dsimp only at hi ht hth hcls w1 w2 w3 hd0 hd3 hd4 hd6 hd9 ⊢
  subst hi
  subst hb
  simp only [mj_in] at h
  obtain ⟨rfl, ⟨c1, c2⟩, h1⟩ := mj_p0_sp h
  obtain ⟨g1, g2, g3, g4, g5, g6⟩ := hG
  have q6 := hR.2.2.2.2.2.1
  have q7 := hR.2.2.2.2.2.2
  intro T hT XT
  have hCT : mj_Cst s0 T := hC.on hB hR.2.2.1 hT XT.warmed
  obtain ⟨U, ax, ce, u1, u2, u3, u4, u5, u6, u7, u8, u9, u10⟩ := mj_throw XT hx (Launch.traces_off hfl XT.admits) (s0 := s0) hC hCT hown hcls (by decide) hth (hwd _ w1) (hwd _ w2) (hwd _ w3) hstr (ls := ls) (rest := []) (by rw [hl.1]; exact hml.symm) hd0 hd3 hd4 hd6 hd9 (fun y hy => by rw [hout] at hy; cases hy) (by show 2 + 3 < _; omega) (by show 0 + (13 * 3 + 43) ≤ _; omega) (by omega) (by omega) hlk
  refine ⟨U, u1, hX ad a _ U.heap locs (cells + 1) (slots + 6) ax ce U ?_ h1 u8 u9 u10 rfl u2 u3 u4 ⟨locs, hR.2.2.1.2.2, u5⟩⟩
  obtain ⟨r1, r2, r3, r4, r5, r6, r7⟩ := hR
  rw [hT] at u6 u7
  refine ⟨?_, r2, ⟨Nat.le_trans r3.1 u6, fun q hq hA => ?_, r3.2.2⟩, ?_, r5, ?_, ?_⟩
  · exact r1.kept (fun k q hq => u7 q.1 (r1 k q hq).lt)
  · rw [u7 q (Nat.lt_of_lt_of_le hq r3.1)]
    exact r3.2.1 q hq hA
  · exact ⟨⟨r4.1.1, Nat.le_succ_of_le r4.1.2.1, by show S.2.2.2.2.1 + 1 ≤ _; omega, by show S.2.2.2.2.2 + 6 ≤ _; omega⟩, r4.2⟩
  · show S.2.2.2.2.1 + 1 = _
    omega
  · show S.2.2.2.2.2 + 6 = _
    omega
end MJU
end
section
/-! A CALL IN A BODY, by the callee's contract -/
def mj_or (ad : Nat → Nat) (S : mj_S) (t : State) : mj_O → Outcome → Prop
  | .inl v, .returned w => w = v.map (mj_tr ad) ∧ ∀ z, v = some z → mj_wv S.1.length z
  | .inr k, .threw a => ∃ ce, t.heap[a]? = some ce ∧ t.vm.findClass (mj_ex k) = some ce.cls ∧ ce.vm.isStatics = false
  | _, _ => False
def mj_Pc (s0 : State) (D : va_G) (cl : List vw_C) (ft : Nat → Nat → Nat) (ka : Nat → ClassId) (ad : Nat → Nat) (as : List Value) (S : mj_S) : Array Value → State → Prop := fun a U =>
  a = (as.map (mj_tr ad)).toArray ∧ va_P D cl (mj_ws ft ka ad S) U.heap ∧ va_D (fun q => s0.heap.size ≤ q) (mj_ws ft ka ad S) ∧ mj_Cst s0 U
def mj_Qc (s0 : State) (D : va_G) (cl : List vw_C) (ft : Nat → Nat → Nat) (ka : Nat → ClassId) (ad : Nat → Nat) (S : mj_S) (Q : mj_Q) : Array Value → State → Outcome → State → Prop := fun _ st o t =>
  st.WarmedH t.vm ∧ ∃ (o' : mj_O) (S' : mj_S) (ad' : Nat → Nat) (L : List Loc), Q o' S' ∧ mj_or ad' S' t o' o ∧ va_P D cl (mj_ws ft ka ad' S') t.heap ∧ va_D (fun q => s0.heap.size ≤ q) (mj_ws ft ka ad' S') ∧ mj_wS S' ∧ (S.1.length ≤ S'.1.length ∧ ∀ q, mj_wr S.1.length q → ad' q = ad q) ∧
    (S.2.2.2.2.1 ≤ S'.2.2.2.2.1 ∧ S.2.2.2.2.2 ≤ S'.2.2.2.2.2) ∧ (st.heap.size ≤ t.heap.size ∧ ∀ q, q < st.heap.size → ¬ s0.heap.size ≤ q → t.heap[q]? = st.heap[q]?) ∧ (∀ q ∈ L, s0.heap.size ≤ q.base) ∧ st.sameButNew ({ t with vm := st.vm } : State) L (S'.2.2.2.2.1 - S.2.2.2.2.1) (S'.2.2.2.2.2 - S.2.2.2.2.2)
def mj_rm (X : mj_X) (d : Nat) (S : mj_S) : Room := { frames := d + 8, cells := X.2.2.1 - S.2.2.2.2.1, slots := X.2.2.2 - S.2.2.2.2.2, locals := 40 * d + 300 }
/-- a method: its name, bytes, locals, answer, handlers -/
abbrev mj_D : Type := MethodName × ByteArray × Nat × Option FieldType × List (Nat × Nat × Nat × Nat)
def mj_cw (y : mj_D) : Cond := .codeWith y.1 y.2.1 y.2.2.1 y.2.2.2.1 y.2.2.2.2
/-- the callee's contract at depth d -/
def mj_Con (l : Launch) (s0 : State) (D : va_G) (cl : List vw_C) (ft : Nat → Nat → Nat) (ka : Nat → ClassId) (a0 : Nat → Nat) (X : mj_X) (d : Nat) (y : mj_D) (as : List Value) (S : mj_S) (Q : mj_Q) : Prop :=
  ∀ ad : Nat → Nat, (∀ i, 900000 ≤ i → ad i = a0 i) → mj_wS S → mj_wT S.1.length as → MetFree l y.1 (headSpec [mj_cw y] (mj_rm X d S)) (mj_Pc s0 D cl ft ka ad as S) (fun _ _ _ _ _ => True) (mj_Qc s0 D cl ft ka ad S Q)
set_option maxRecDepth 20000 in
theorem mj_loc {z d r : Nat} (h1 : z ≤ 21) (h2 : 40 * d + 340 ≤ r) : 8 + (z + 11) + (40 * d + 300) ≤ r := by omega
theorem mj_wg_sum (ad : Nat → Nat) : ∀ r : List Value, ((r.map (mj_tr ad)).map fun v => v.category).sum = mj_wg r
  | [] => rfl
  | v :: r => by
    rw [List.map_cons, List.map_cons, List.sum_cons, mj_wg_sum ad r, mj_tr_cat]
    rfl
section MJK
variable {p : Program} {l : Launch} {e : Env} {R : Room} {s s0 : State} {m : MethodId} {args : Array Value} {below : List Frame} {meth : Method} {c : Code}
variable {D : va_G} {cl : List vw_C} {ft : Nat → Nat → Nat} {ka : Nat → ClassId} {E : mj_S} {aE a0 : Nat → Nat} {cc : ByteArray} {nL : Nat} {own : String} {Wd : Cond → Prop} {ini : Prop} {X : mj_X} {hd : mj_H} {cls : mj_C}
/-- the handlers of a body -/
def mj_Hok (Wd : Cond → Prop) (own : String) (cc : ByteArray) (c : Code) (nL : Nat) (hd : mj_H) : Prop := ∀ pc, match hd pc with
  | none => ∀ x ∈ c.exceptionTable.toList, covers x pc = false
  | some (k, i, h) => ∃ x : ExceptionTableEntry, c.exceptionTable.toList = [x] ∧ covers x pc = true ∧ x.catchType ≠ 0 ∧ Wd (.classLink own x.catchType (mj_ex k)) ∧ i < nL ∧ ((∃ j : Fin 4, decode cc x.handlerPc = .ok (.astore_n j, 1) ∧ (j : Nat) = i ∧ h = x.handlerPc + 1) ∨ (decode cc x.handlerPc = .ok (.astore i, 2) ∧ h = x.handlerPc + 2))
/-- under the note of what was thrown -/
theorem mj_thrown {Z : State → Prop} {nx : mj_N} {Q : mj_Q} {ad : Nat → Nat} {lv : mj_LV} {S : mj_S} {locs : List Loc} {cells slots : Nat} {ls : Array Slot} {pc k : Nat} {rest : List Value} {a : Addr} {ce : Cell} {T : State} (hx : p.tables.exec = Jvm.exec) (hb : c.code = cc) (hown : s.vm.findClass own = some m.cls) (hlk : meth.locks = false) (hwd : ∀ w, Wd w → w.before args s = true) (hself : ∀ (k : Nat) (cN : ClassId), s.vm.findClass (mj_ex k) = some cN → s.vm.assignable cN cN = true) (hH : mj_Hok Wd own cc c nL hd)
    (hN : ∀ pc, mj_Kok p l e R s m args below meth c Z D cl ft ka s0.heap.size E aE nL (fun lv st S => nx pc lv st S Q) pc) (hX : mj_Xok s below Z D cl ft ka s0.heap.size E aE Q)
    (hR : mj_Rh D cl ft ka s0.heap.size s E aE ad S T.heap locs cells slots) (hl : mj_lr ad nL lv ls) (hwl : mj_wL S.1.length lv) (XT : Stand p l e R s m args below meth c T locs cells slots) (hce : T.heap[a]? = some ce) (hcl : s.vm.findClass (mj_ex k) = some ce.cls) (hst : ce.vm.isStatics = false)
    (h : match hd pc with
      | some (k', i, hp) => k = k' ∧ nx hp (mj_er lv i) [] S Q
      | none => Q (.inr k) S) :
    ∃ t, Steps p.tables e below ((T.setTop (F0 m pc ls rest)).pushFrame (.throwing a)) t ∧ Z t := by
  have hh := hH pc
  cases hp : hd pc with
  | none =>
    rw [hp] at h hh
    dsimp only at h hh
    obtain ⟨u1, u2, u3, u4, u5⟩ := XT.leaveThrown a (g := F0 m pc ls rest) rfl rfl rfl hh hlk
    exact ⟨_, u1, hX ad k S T.heap locs cells slots a ce _ hR h hce hcl hst rfl u2 u3 u4 ⟨locs, hR.2.2.1.2.2, u5⟩⟩
  | some z =>
    obtain ⟨k', i, hpc⟩ := z
    rw [hp] at h hh
    dsimp only at h hh
    obtain ⟨rfl, h⟩ := h
    obtain ⟨x, h1, h2, h3, h4, h5, h6⟩ := hh
    obtain ⟨vm', X', st⟩ := mj_caught1 XT (g := F0 m pc ls rest) rfl h1 h2 h3 hown (hwd _ h4) hce hst hcl (hself k _ hcl)
    have K : W p l e R s m args below meth c T.heap locs cells slots Z (F0 m x.handlerPc ls [.ref a]) := by
      have fin : ∀ ls', lv_has ls' nL ((i, .ref a) :: (mj_ps ad lv).filter (fun q => !(q.1 == i) && !(q.1 + 1 == i && q.2.category == 2))) → mj_lr ad nL (mj_er lv i) ls' := by
        intro ls' hl'
        refine ⟨hl'.1, hl'.2.1, fun j v hj => ?_⟩
        obtain ⟨e1, e2, e3⟩ := mj_er_get hj
        refine hl'.2.2 (j, mj_tr ad v) (List.mem_cons_of_mem _ (List.mem_filter.mpr ⟨mj_ps_mem.mpr ⟨v, e2, rfl⟩, ?_⟩))
        simp only [Bool.and_eq_true, Bool.not_eq_true', beq_eq_false_iff_ne, ne_eq, Bool.and_eq_false_iff, mj_tr_cat]
        refine ⟨e1, ?_⟩
        by_cases hq : j + 1 = i
        · exact Or.inr (fun q => e3 ⟨hq, q⟩)
        · exact Or.inl hq
      rcases h6 with ⟨j, h7, h8, rfl⟩ | ⟨h7, rfl⟩
      · exact lv_astore_n hx hb h7 h8 hl.has h5 rfl (fun ls' hl' => hN _ ad _ [] S T.heap locs cells slots ls' hR (fin ls' hl') (hwl.less (fun _ _ q => (mj_er_get q).2.1)) (fun v hv => by cases hv) h)
      · exact lv_astore hx hb h7 hl.has h5 rfl (fun ls' hl' => hN _ ad _ [] S T.heap locs cells slots ls' hR (fin ls' hl') (hwl.less (fun _ _ q => (mj_er_get q).2.1)) (fun v hv => by cases hv) h)
    obtain ⟨t, s1, s2⟩ := K (T.setVm vm') rfl X'
    exact ⟨t, st t s1, s2⟩
set_option maxHeartbeats 1000000 in
theorem mj_Iok_call {d b : Nat} {y : mj_D} {Rc : mj_S → List Value → Prop} (hx : p.tables.exec = Jvm.exec) (hb : c.code = cc) (hml : c.maxLocals = nL) (hown : s.vm.findClass own = some m.cls) (hlk : meth.locks = false) (hwd : ∀ w, Wd w → w.before args s = true) (hself : ∀ (k : Nat) (cN : ClassId), s.vm.findClass (mj_ex k) = some cN → s.vm.assignable cN cN = true) (hH : mj_Hok Wd own cc c nL hd) (hG : mj_Gr R s meth s0.heap.size E aE X ini) (hC : mj_Cst s0 s) (ha0 : ∀ i, 900000 ≤ i → aE i = a0 i) (hg : ∀ w, Wd w → goodWord w = true)
    {x : mj_I} (hlen3 : x.2.2.1 = 3) (hdec : decode cc x.1 = .ok (x.2.1, 3)) (hin : ∀ (nx : mj_N) (Q : mj_Q) (K : mj_K) (lv : mj_LV) (st : List Value) (S : mj_S), mj_in X hd cls nx Q x K lv st S → ∃ as r, mj_tk b [] st = some (as, r) ∧ mj_wg r ≤ 8 ∧ Rc S as ∧ cls x.2.2.2.1.1 as S (mj_ret hd nx x.1 K lv r Q))
    (hcon : ∀ (as : List Value) (S : mj_S) (Q : mj_Q), cls x.2.2.2.1.1 as S Q → mj_Con l s0 D cl ft ka a0 X d y as S Q) (hRf : d + 9 ≤ R.frames) (hRl : 40 * d + 340 ≤ R.locals) (hmx : y.2.2.1 ≤ 21) (hcw : Wd (mj_cw y)) (hini : Wd (.initialized y.1.cls)) (hR1 : R.cells = X.2.2.1 - E.2.2.2.2.1 ∧ R.slots = X.2.2.2 - E.2.2.2.2.2) (hR2 : E.2.2.2.2.1 ≤ X.2.2.1 ∧ E.2.2.2.2.2 ≤ X.2.2.2)
    (hE : ∀ (T : State) (locs : List Loc) (cells slots : Nat) (ls : Array Slot) (ad : Nat → Nat) (S : mj_S) (as rest : List Value), mj_Rh D cl ft ka s0.heap.size s E aE ad S T.heap locs cells slots → Stand p l e R s m args below meth c T locs cells slots → as.length = b → Rc S as → mj_Ent p l e R s m args below meth c T locs cells slots y.1 (F0 m x.1 ls ((as.map (mj_tr ad)).reverse ++ rest)) rest (as.map (mj_tr ad)).toArray) :
    mj_Iok p l e R s m args below meth c D cl ft ka s0.heap.size E aE nL X hd cls x := by
  intro nx K Q Z hN hK hQ hX ad lv st S H locs cells slots ls hR hl hwl hwt h
  obtain ⟨as, r, htk, hwg, hrc, hcl⟩ := hin nx Q K lv st S h
  obtain ⟨bs, rfl, hbl, has⟩ := mj_tk_sp _ _ _ _ _ htk
  rw [List.append_nil] at has
  have hasl : as.length = b := by rw [has, List.length_reverse]; exact hbl
  have hstk : (bs ++ r).map (mj_tr ad) = (as.map (mj_tr ad)).reverse ++ r.map (mj_tr ad) := by
    rw [has, List.map_append, ← List.map_reverse, List.reverse_reverse]
  have hwr : mj_wT S.1.length r := fun v hv => hwt v (List.mem_append_right _ hv)
  have hwa : mj_wT S.1.length as := fun v hv => hwt v (List.mem_append_left _ (by rw [has] at hv; exact List.mem_reverse.mp hv))
  obtain ⟨g1, g2, g3, g4, g5, g6⟩ := hG
  obtain ⟨r1, r2, r3, r4, r5, r6, r7⟩ := hR
  intro T hT XT
  subst hT
  rw [hstk]
  obtain ⟨vm₁, mk, X1, hnamed, hstep⟩ := hE T locs cells slots ls ad S as (r.map (mj_tr ad)) ⟨r1, r2, r3, r4, r5, r6, r7⟩ XT hasl hrc
  have hM := hcon as S _ hcl ad (fun i hi => (r5.2 i (Or.inr hi)).trans (ha0 i hi)) r4 hwa
  have hCT : mj_Cst s0 (T.setVm vm₁) := hC.on rfl r3 rfl X1.warmed
  have hcwU : (mj_cw y).before (as.map (mj_tr ad)).toArray (T.setVm vm₁) = true := word_at X1.warmed (good_of_word (hg _ hcw)) (hwd _ hcw)
  obtain ⟨m9, methY, cY, hn9, hmY, hcY, -, hlY, -⟩ := Cond.codeWith_spec hcwU
  have hn := X1.named hnamed
  cases hn.symm.trans hn9
  obtain ⟨kY, hkY, -⟩ := className_of_methodNamed hn
  have hiniU : (Cond.initialized y.1.cls).before (as.map (mj_tr ad)).toArray (T.setVm vm₁) = true := word_at X1.warmed (good_of_word (hg _ hini)) (hwd _ hini)
  have hinitY : kY.init = .initialized := Cond.initialized_spec (findClass_of_methodNamed hn) hkY hiniU
  have hm1 : (mj_rm X d S).frames = d + 8 := rfl
  have hm2 : (mj_rm X d S).locals = 40 * d + 300 := rfl
  have hm3 : (mj_rm X d S).cells = X.2.2.1 - S.2.2.2.2.1 := rfl
  have hm4 : (mj_rm X d S).slots = X.2.2.2 - S.2.2.2.2.2 := rfl
  have hc4 := r4.1.2.2
  have hloc : 8 + (y.2.2.1 + 11) + (mj_rm X d S).locals ≤ R.locals := by
    rw [hm2]
    exact mj_loc hmx hRl
  obtain ⟨o, t, hq, hWt, hstand, hback⟩ := mj_back (W := 8) (maxL := y.2.2.1) hM (fun a st o t q => by obtain ⟨q1, o', S', ad', L, -, -, -, -, -, -, -, -, -, q2⟩ := q; exact ⟨q1, L, _, _, q2⟩) X1 (g := F0 m x.1 ls (r.map (mj_tr ad))) (ig := x.2.1) (len := 3) rfl (by rw [hml]; exact hl.1) (by rw [hb]; exact hdec)
    (by show 2 * 0 + _ ≤ 8; rw [mj_wg_sum]; omega) hn hmY hcY hlY hkY hinitY (by rw [hm1]; omega) hloc (by rw [hm3]; omega) (by rw [hm4]; omega)
    (atoms_intro (fun w hw => by rw [List.mem_singleton.mp hw]; exact hcwU)) ⟨rfl, r1, r2, hCT⟩
  obtain ⟨-, o', S', ad', L, hQ', hor, p1, p2, p3, p4, p5, p6, p7, p8⟩ := hq
  have X2 := hstand L _ _ p8
  have hR' : mj_Rh D cl ft ka s0.heap.size s E aE ad' S' t.heap (locs ++ L) (cells + (S'.2.2.2.2.1 - S.2.2.2.2.1)) (slots + (S'.2.2.2.2.2 - S.2.2.2.2.2)) := by
    refine ⟨p1, p2, ⟨Nat.le_trans r3.1 p6.1, fun q hq hA => ?_, fun q hq => ?_⟩, p3, ⟨Nat.le_trans r5.1 p4.1, fun q hq => ?_⟩, by omega, by omega⟩
    · exact (p6.2 q (Nat.lt_of_lt_of_le hq r3.1) hA).trans (r3.2.1 q hq hA)
    · rcases List.mem_append.mp hq with hq | hq
      · exact r3.2.2 q hq
      · exact p7 q hq
    · rw [p4.2 q (hq.up r5.1)]
      exact r5.2 q hq
  have hl' : mj_lr ad' nL lv ls := hl.ad hwl p4.2
  have hwl' := hwl.up p4.1
  have hwr' := hwr.up p4.1
  have hrm : r.map (mj_tr ad') = r.map (mj_tr ad) := mj_map_ad hwr p4.2
  rw [hlen3] at hK
  cases o with
  | returned w =>
    cases o' with
    | inr k => exact hor.elim
    | inl v =>
      obtain ⟨rfl, hv⟩ := hor
      have hb2 : Steps p.tables e below _ ((({ T.setVm vm₁ with heap := t.heap, slotsUsed := t.slotsUsed } : State).setVm t.vm).setTop (F0 m (x.1 + 3) ls ((v.map (mj_tr ad')).toList ++ r.map (mj_tr ad)))) := hback
      cases v with
      | none =>
        have hQ2 : K lv r S' := hQ'
        obtain ⟨tz, z1, z2⟩ := hK ad' lv r S' t.heap _ _ _ ls hR' hl' hwl' hwr' hQ2 (({ T.setVm vm₁ with heap := t.heap, slotsUsed := t.slotsUsed } : State).setVm t.vm) rfl X2
        rw [hrm] at z1
        exact ⟨tz, hstep _ (hb2.trans z1), z2⟩
      | some v =>
        have hQ2 : K lv (v :: r) S' := hQ'
        obtain ⟨tz, z1, z2⟩ := hK ad' lv (v :: r) S' t.heap _ _ _ ls hR' hl' hwl' (hwr'.push (hv v rfl)) hQ2 (({ T.setVm vm₁ with heap := t.heap, slotsUsed := t.slotsUsed } : State).setVm t.vm) rfl X2
        rw [List.map_cons, hrm] at z1
        exact ⟨tz, hstep _ (hb2.trans z1), z2⟩
  | threw a =>
    cases o' with
    | inl v => cases v <;> exact hor.elim
    | inr k =>
      obtain ⟨ce, e1, e2, e3⟩ := hor
      have hcls : s.vm.findClass (mj_ex k) = some ce.cls := by
        have := (X1.warmed.trans (show (T.setVm vm₁).WarmedH t.vm from hWt)).alike.findClass (name := mj_ex k)
        rw [← this]; exact e2
      obtain ⟨tz, z1, z2⟩ := mj_thrown (rest := r.map (mj_tr ad)) (pc := x.1) (k := k) (T := ({ T.setVm vm₁ with heap := t.heap, slotsUsed := t.slotsUsed } : State).setVm t.vm) hx hb hown hlk hwd hself hH hN hX hR' hl' hwl' X2 e1 hcls e3 hQ'
      exact ⟨tz, hstep _ (Steps.trans hback z1), z2⟩
end MJK
end
section
/-! THE PROGRAM'S TABLES, printed by wip/whole/prog/emit.py: classes and fields -/
def mt_0 : u_T := fun k => match k with
  | 0 => ("MacroPress", "progress", "LMacroPress$Progress;", true)
  | 1 => ("MacroPress", "names", "LMacroPress$Names;", true)
  | 2 => ("MacroPress", "store", "LMacroPress$Store;", true)
  | 3 => ("MacroPress", "source", "LMacroPress$Source;", true)
  | 4 => ("MacroPress", "macros", "LMacroPress$Macros;", true)
  | 5 => ("MacroPress", "conditions", "LMacroPress$Conditions;", true)
  | 6 => ("MacroPress", "expander", "LMacroPress$Expander;", true)
  | _ => ("MacroPress", "performer", "LMacroPress$Performer;", true)
def mt_1 : u_T := fun k => match k with
  | 0 => ("MacroPress$Arguments", "tokens", "[I", true)
  | 1 => ("MacroPress$Arguments", "from", "[I", true)
  | 2 => ("MacroPress$Arguments", "to", "[I", true)
  | 3 => ("MacroPress$Arguments", "filled", "I", false)
  | 4 => ("MacroPress$Arguments", "source", "LMacroPress$Source;", true)
  | 5 => ("MacroPress$Arguments", "macros", "LMacroPress$Macros;", true)
  | _ => ("MacroPress$Arguments", "progress", "LMacroPress$Progress;", true)
def mt_2 : u_T := fun k => match k with
  | 0 => ("MacroPress$Conditions", "state", "[I", true)
  | 1 => ("MacroPress$Conditions", "hasCases", "[Z", true)
  | 2 => ("MacroPress$Conditions", "open", "I", false)
  | 3 => ("MacroPress$Conditions", "source", "LMacroPress$Source;", true)
  | 4 => ("MacroPress$Conditions", "store", "LMacroPress$Store;", true)
  | _ => ("MacroPress$Conditions", "progress", "LMacroPress$Progress;", true)
def mt_3 : u_T := fun k => match k with
  | 0 => ("MacroPress$Expander", "made", "[I", true)
  | 1 => ("MacroPress$Expander", "madeLength", "I", false)
  | 2 => ("MacroPress$Expander", "source", "LMacroPress$Source;", true)
  | 3 => ("MacroPress$Expander", "names", "LMacroPress$Names;", true)
  | 4 => ("MacroPress$Expander", "store", "LMacroPress$Store;", true)
  | 5 => ("MacroPress$Expander", "macros", "LMacroPress$Macros;", true)
  | 6 => ("MacroPress$Expander", "conditions", "LMacroPress$Conditions;", true)
  | 7 => ("MacroPress$Expander", "progress", "LMacroPress$Progress;", true)
  | _ => ("MacroPress$Expander", "arguments", "LMacroPress$Arguments;", true)
def mt_4 : u_T := fun k => match k with
  | 0 => ("MacroPress$Macros", "pool", "[I", true)
  | 1 => ("MacroPress$Macros", "start", "[I", true)
  | 2 => ("MacroPress$Macros", "body", "[I", true)
  | 3 => ("MacroPress$Macros", "used", "I", false)
  | 4 => ("MacroPress$Macros", "made", "I", false)
  | _ => ("MacroPress$Macros", "progress", "LMacroPress$Progress;", true)
def mt_5 : u_T := fun k => match k with
  | 0 => ("MacroPress$Names", "letters", "[C", true)
  | 1 => ("MacroPress$Names", "start", "[I", true)
  | 2 => ("MacroPress$Names", "first", "[I", true)
  | 3 => ("MacroPress$Names", "firstAtBegin", "[I", true)
  | 4 => ("MacroPress$Names", "next", "[I", true)
  | _ => ("MacroPress$Names", "known", "I", false)
def mt_6 : u_T := fun k => match k with
  | 0 => ("MacroPress$Performer", "out", "[I", true)
  | 1 => ("MacroPress$Performer", "outLength", "I", false)
  | 2 => ("MacroPress$Performer", "expander", "LMacroPress$Expander;", true)
  | 3 => ("MacroPress$Performer", "source", "LMacroPress$Source;", true)
  | 4 => ("MacroPress$Performer", "store", "LMacroPress$Store;", true)
  | 5 => ("MacroPress$Performer", "macros", "LMacroPress$Macros;", true)
  | _ => ("MacroPress$Performer", "progress", "LMacroPress$Progress;", true)
def mt_7 : u_T := fun k => match k with
  | 0 => ("MacroPress$Progress", "fault", "I", false)
  | 1 => ("MacroPress$Progress", "ticks", "I", false)
  | 2 => ("MacroPress$Progress", "allowed", "I", false)
  | _ => ("MacroPress$Progress", "depth", "I", false)
def mt_8 : u_T := fun k => match k with
  | 0 => ("MacroPress$Source", "text", "[I", true)
  | 1 => ("MacroPress$Source", "textLength", "I", false)
  | 2 => ("MacroPress$Source", "nextLine", "I", false)
  | 3 => ("MacroPress$Source", "at", "I", false)
  | 4 => ("MacroPress$Source", "lineEnd", "I", false)
  | 5 => ("MacroPress$Source", "state", "I", false)
  | 6 => ("MacroPress$Source", "line", "I", false)
  | 7 => ("MacroPress$Source", "pending", "[I", true)
  | 8 => ("MacroPress$Source", "waiting", "I", false)
  | 9 => ("MacroPress$Source", "name", "[I", true)
  | 10 => ("MacroPress$Source", "names", "LMacroPress$Names;", true)
  | 11 => ("MacroPress$Source", "store", "LMacroPress$Store;", true)
  | _ => ("MacroPress$Source", "progress", "LMacroPress$Progress;", true)
def mt_9 : u_T := fun k => match k with
  | 0 => ("MacroPress$Store", "value", "[I", true)
  | 1 => ("MacroPress$Store", "valueAtBegin", "[I", true)
  | 2 => ("MacroPress$Store", "level", "[I", true)
  | 3 => ("MacroPress$Store", "savedSlot", "[I", true)
  | 4 => ("MacroPress$Store", "savedValue", "[I", true)
  | 5 => ("MacroPress$Store", "saved", "I", false)
  | 6 => ("MacroPress$Store", "groupKind", "[I", true)
  | 7 => ("MacroPress$Store", "groupStart", "[I", true)
  | 8 => ("MacroPress$Store", "groups", "I", false)
  | _ => ("MacroPress$Store", "progress", "LMacroPress$Progress;", true)
def mt_10 : u_T := fun k => match k with
  | 0 => ("MacroPressModel", "thrown", "I", false)
  | 1 => ("MacroPressModel", "typed", "I", false)
  | 2 => ("MacroPressModel", "text", "[B", true)
  | 3 => ("MacroPressModel", "told", "I", false)
  | 4 => ("MacroPressModel", "out", "[B", true)
  | 5 => ("MacroPressModel", "nextLine", "I", false)
  | 6 => ("MacroPressModel", "lines", "I", false)
  | 7 => ("MacroPressModel", "line", "[I", true)
  | 8 => ("MacroPressModel", "lineSize", "I", false)
  | 9 => ("MacroPressModel", "linePlace", "I", false)
  | 10 => ("MacroPressModel", "state", "I", false)
  | 11 => ("MacroPressModel", "names", "I", false)
  | 12 => ("MacroPressModel", "nameChars", "[B", true)
  | 13 => ("MacroPressModel", "nameSize", "[I", true)
  | 14 => ("MacroPressModel", "spelled", "[I", true)
  | 15 => ("MacroPressModel", "spelledSize", "I", false)
  | 16 => ("MacroPressModel", "madeNames", "[I", true)
  | 17 => ("MacroPressModel", "level", "I", false)
  | 18 => ("MacroPressModel", "braced", "[Z", true)
  | 19 => ("MacroPressModel", "meanings", "[I", true)
  | 20 => ("MacroPressModel", "counters", "[I", true)
  | 21 => ("MacroPressModel", "categories", "[I", true)
  | 22 => ("MacroPressModel", "macros", "I", false)
  | 23 => ("MacroPressModel", "parameters", "[I", true)
  | 24 => ("MacroPressModel", "heads", "[I", true)
  | 25 => ("MacroPressModel", "bodies", "[I", true)
  | 26 => ("MacroPressModel", "ends", "[I", true)
  | 27 => ("MacroPressModel", "stored", "I", false)
  | 28 => ("MacroPressModel", "store", "[I", true)
  | 29 => ("MacroPressModel", "pending", "I", false)
  | 30 => ("MacroPressModel", "row", "[I", true)
  | 31 => ("MacroPressModel", "argument", "[I", true)
  | 32 => ("MacroPressModel", "argumentSize", "[I", true)
  | 33 => ("MacroPressModel", "conditions", "I", false)
  | 34 => ("MacroPressModel", "isCase", "[Z", true)
  | 35 => ("MacroPressModel", "decided", "[I", true)
  | 36 => ("MacroPressModel", "ticks", "I", false)
  | 37 => ("MacroPressModel", "most", "I", false)
  | 38 => ("MacroPressModel", "open", "I", false)
  | 39 => ("MacroPressModel", "fault", "I", false)
  | _ => ("MacroPressModel", "over", "Z", false)
def mj_cn : List String := ["MacroPress", "MacroPress$Arguments", "MacroPress$Conditions", "MacroPress$Expander", "MacroPress$Macros", "MacroPress$Names", "MacroPress$Performer", "MacroPress$Progress", "MacroPress$Source", "MacroPress$Store", "MacroPressModel", "MacroPress$Token", "MacroPressLaw"]
abbrev mj_cl : List vw_C := [("MacroPress", mt_0, 8), ("MacroPress$Arguments", mt_1, 7), ("MacroPress$Conditions", mt_2, 6), ("MacroPress$Expander", mt_3, 9), ("MacroPress$Macros", mt_4, 6), ("MacroPress$Names", mt_5, 6), ("MacroPress$Performer", mt_6, 7), ("MacroPress$Progress", mt_7, 4), ("MacroPress$Source", mt_8, 13), ("MacroPress$Store", mt_9, 10), ("MacroPressModel", mt_10, 41)]
def mj_fl : List (List Nat) := [[2, 2, 2, 2, 2, 2, 2, 2], [2, 2, 2, 0, 2, 2, 2], [2, 2, 0, 2, 2, 2], [2, 0, 2, 2, 2, 2, 2, 2, 2], [2, 2, 2, 0, 0, 2], [2, 2, 2, 2, 2, 0], [2, 0, 2, 2, 2, 2, 2], [0, 0, 0, 0], [2, 0, 0, 0, 0, 0, 0, 2, 0, 2, 2, 2, 2], [2, 2, 2, 2, 2, 0, 2, 2, 0, 2], [0, 0, 2, 0, 2, 0, 0, 2, 0, 0, 0, 0, 2, 2, 2, 0, 2, 0, 2, 2, 2, 2, 0, 2, 2, 2, 2, 0, 2, 0, 2, 2, 2, 0, 2, 2, 0, 0, 0, 0, 3]]
def mj_ft (k j : Nat) : Nat := (mj_fl.getD k []).getD j 0
end
section
/-! THE PROGRAM'S TABLES, printed: methods 0 to 49 -/
-- MacroPress.<init>()V
def mb_0 : List mj_B := [(0, [true], [(0, .aload_n 0, 1, (0, 0, 0), 0, 0, []), (1, .invokespecial 3, 3, (0, 0, 1), 0, 0, []), (4, .aload_n 0, 1, (0, 0, 0), 0, 0, []), (5, .new 9, 3, (7, 4, 0), 0, 0, []), (8, .dup, 1, (0, 0, 0), 0, 0, []), (9, .invokespecial 11, 3, (75, 1, 0), 0, 0, []), (12, .putfield 12, 3, (0, 0, 2), 0, 0, []), (15, .aload_n 0, 1, (0, 0, 0), 0, 0, []), (16, .new 16, 3, (5, 6, 0), 0, 0, []), (19, .dup, 1, (0, 0, 0), 0, 0, []), (20, .invokespecial 18, 3, (54, 1, 0), 0, 0, []), (23, .putfield 19, 3, (0, 1, 2), 0, 0, []), (26, .aload_n 0, 1, (0, 0, 0), 0, 0, []), (27, .new 23, 3, (9, 10, 0), 0, 0, []), (30, .dup, 1, (0, 0, 0), 0, 0, []), (31, .aload_n 0, 1, (0, 0, 0), 0, 0, []), (32, .getfield 12, 3, (0, 0, 2), 0, 0, []), (35, .invokespecial 25, 3, (89, 2, 0), 0, 0, []), (38, .putfield 28, 3, (0, 2, 2), 0, 0, []), (41, .aload_n 0, 1, (0, 0, 0), 0, 0, []), (42, .new 32, 3, (8, 13, 0), 0, 0, []), (45, .dup, 1, (0, 0, 0), 0, 0, []), (46, .aload_n 0, 1, (0, 0, 0), 0, 0, []), (47, .getfield 19, 3, (0, 1, 2), 0, 0, []), (50, .aload_n 0, 1, (0, 0, 0), 0, 0, []), (51, .getfield 28, 3, (0, 2, 2), 0, 0, []), (54, .aload_n 0, 1, (0, 0, 0), 0, 0, []), (55, .getfield 12, 3, (0, 0, 2), 0, 0, []), (58, .invokespecial 34, 3, (81, 4, 0), 0, 0, []), (61, .putfield 37, 3, (0, 3, 2), 0, 0, []), (64, .aload_n 0, 1, (0, 0, 0), 0, 0, []), (65, .new 41, 3, (4, 6, 0), 0, 0, []), (68, .dup, 1, (0, 0, 0), 0, 0, []), (69, .aload_n 0, 1, (0, 0, 0), 0, 0, []), (70, .getfield 12, 3, (0, 0, 2), 0, 0, []), (73, .invokespecial 43, 3, (45, 2, 0), 0, 0, []), (76, .putfield 44, 3, (0, 4, 2), 0, 0, []), (79, .aload_n 0, 1, (0, 0, 0), 0, 0, []), (80, .new 48, 3, (2, 6, 0), 0, 0, []), (83, .dup, 1, (0, 0, 0), 0, 0, []), (84, .aload_n 0, 1, (0, 0, 0), 0, 0, []), (85, .getfield 37, 3, (0, 3, 2), 0, 0, []), (88, .aload_n 0, 1, (0, 0, 0), 0, 0, []), (89, .getfield 28, 3, (0, 2, 2), 0, 0, []), (92, .aload_n 0, 1, (0, 0, 0), 0, 0, []), (93, .getfield 12, 3, (0, 0, 2), 0, 0, []), (96, .invokespecial 50, 3, (17, 4, 0), 0, 0, []), (99, .putfield 53, 3, (0, 5, 2), 0, 0, []), (102, .aload_n 0, 1, (0, 0, 0), 0, 0, []), (103, .new 57, 3, (3, 9, 0), 0, 0, []), (106, .dup, 1, (0, 0, 0), 0, 0, []), (107, .aload_n 0, 1, (0, 0, 0), 0, 0, []), (108, .getfield 37, 3, (0, 3, 2), 0, 0, []), (111, .aload_n 0, 1, (0, 0, 0), 0, 0, []), (112, .getfield 19, 3, (0, 1, 2), 0, 0, []), (115, .aload_n 0, 1, (0, 0, 0), 0, 0, []), (116, .getfield 28, 3, (0, 2, 2), 0, 0, []), (119, .aload_n 0, 1, (0, 0, 0), 0, 0, []), (120, .getfield 44, 3, (0, 4, 2), 0, 0, []), (123, .aload_n 0, 1, (0, 0, 0), 0, 0, []), (124, .getfield 53, 3, (0, 5, 2), 0, 0, []), (127, .aload_n 0, 1, (0, 0, 0), 0, 0, []), (128, .getfield 12, 3, (0, 0, 2), 0, 0, []), (131, .invokespecial 59, 3, (21, 7, 0), 0, 0, []), (134, .putfield 62, 3, (0, 6, 2), 0, 0, []), (137, .aload_n 0, 1, (0, 0, 0), 0, 0, []), (138, .new 66, 3, (6, 7, 0), 0, 0, []), (141, .dup, 1, (0, 0, 0), 0, 0, []), (142, .aload_n 0, 1, (0, 0, 0), 0, 0, []), (143, .getfield 62, 3, (0, 6, 2), 0, 0, []), (146, .aload_n 0, 1, (0, 0, 0), 0, 0, []), (147, .getfield 37, 3, (0, 3, 2), 0, 0, []), (150, .aload_n 0, 1, (0, 0, 0), 0, 0, []), (151, .getfield 28, 3, (0, 2, 2), 0, 0, []), (154, .aload_n 0, 1, (0, 0, 0), 0, 0, []), (155, .getfield 44, 3, (0, 4, 2), 0, 0, []), (158, .aload_n 0, 1, (0, 0, 0), 0, 0, []), (159, .getfield 12, 3, (0, 0, 2), 0, 0, []), (162, .invokespecial 68, 3, (58, 6, 0), 0, 0, []), (165, .putfield 71, 3, (0, 7, 2), 0, 0, []), (168, .return_, 1, (0, 0, 0), 0, 0, [])], 169)]
def mp_0 : mj_M := (1, [], mb_0)
-- MacroPress.type(JI)Z
def mb_1 : List mj_B := [(0, [true, true, false, true, false], [(0, .iload_n 3, 1, (3, 0, 0), 0, 0, []), (1, .iconst (1), 1, (0, 0, 0), 1, 0, []), (2, .if_icmp .lt (24), 3, (26, 0, 0), 0, 0, [])], 5),
  (5, [true, true, false, true, false], [(5, .iload_n 3, 1, (3, 0, 0), 0, 0, []), (6, .bipush (8), 2, (0, 0, 0), 8, 0, []), (8, .if_icmp .gt (18), 3, (26, 0, 0), 0, 0, [])], 11),
  (11, [true, true, false, true, false], [(11, .iload_n 3, 1, (3, 0, 0), 0, 0, []), (12, .sipush (4000), 3, (0, 0, 0), 4000, 0, []), (15, .aload_n 0, 1, (0, 0, 0), 0, 0, []), (16, .getfield 37, 3, (0, 3, 2), 0, 0, []), (19, .getfield 75, 3, (8, 1, 0), 0, 0, []), (22, .isub, 1, (0, 0, 0), 0, 0, []), (23, .if_icmp .le (5), 3, (28, 0, 0), 0, 0, [])], 26),
  (26, [false, false, false, false, false], [(26, .iconst (0), 1, (0, 0, 0), 0, 0, []), (27, .ireturn, 1, (0, 0, 1), 0, 0, [])], 28),
  (28, [true, true, false, true, false], [(28, .iconst (0), 1, (0, 0, 0), 0, 0, []), (29, .istore 4, 2, (4, 0, 0), 0, 0, [])], 31),
  (31, [true, true, false, true, true], [(31, .iload 4, 2, (4, 0, 0), 0, 0, []), (33, .iload_n 3, 1, (3, 0, 0), 0, 0, []), (34, .if_icmp .ge (28), 3, (62, 0, 0), 0, 0, [])], 37),
  (37, [true, true, false, true, true], [(37, .aload_n 0, 1, (0, 0, 0), 0, 0, []), (38, .getfield 37, 3, (0, 3, 2), 0, 0, []), (41, .lload_n 1, 1, (1, 0, 0), 0, 0, []), (42, .bipush (8), 2, (0, 0, 0), 8, 0, []), (44, .iload 4, 2, (4, 0, 0), 0, 0, []), (46, .imul, 1, (0, 0, 0), 0, 0, []), (47, .lushr, 1, (0, 0, 0), 0, 0, []), (48, .l2i, 1, (0, 0, 0), 0, 0, []), (49, .sipush (255), 3, (0, 0, 0), 255, 0, []), (52, .iand, 1, (0, 0, 0), 0, 0, []), (53, .invokevirtual 79, 3, (82, 2, 8), 0, 0, []), (56, .iinc 4 (1), 3, (4, 0, 0), 1, 0, []), (59, .goto (-28), 3, (31, 0, 0), 0, 0, [])], 62),
  (62, [false, false, false, false, false], [(62, .iconst (1), 1, (0, 0, 0), 1, 0, []), (63, .ireturn, 1, (0, 0, 1), 0, 0, [])], 64)]
def mp_1 : mj_M := (5, [], mb_1)
-- MacroPress.run(I)I
def mb_2 : List mj_B := [(0, [true, true, false, false, false, false], [(0, .iload_n 1, 1, (1, 0, 0), 0, 0, []), (1, .invokestatic 83, 3, (7, 1, 0), 0, 0, []), (4, .aload_n 0, 1, (0, 0, 0), 0, 0, []), (5, .iload_n 1, 1, (1, 0, 0), 0, 0, []), (6, .invokevirtual 86, 3, (8, 2, 0), 0, 0, []), (9, .iconst (0), 1, (0, 0, 0), 0, 0, []), (10, .istore_n 2, 1, (2, 0, 0), 0, 0, []), (11, .iconst (0), 1, (0, 0, 0), 0, 0, []), (12, .istore_n 3, 1, (3, 0, 0), 0, 0, [])], 13),
  (13, [true, false, true, true, false, false], [(13, .iload_n 3, 1, (3, 0, 0), 0, 0, []), (14, .sipush (30000), 3, (0, 0, 0), 30000, 0, []), (17, .if_icmp .gt (70), 3, (87, 0, 0), 0, 0, [])], 20),
  (20, [true, false, true, true, false, false], [(20, .aload_n 0, 1, (0, 0, 0), 0, 0, []), (21, .getfield 62, 3, (0, 6, 2), 0, 0, []), (24, .iconst (1), 1, (0, 0, 0), 1, 0, []), (25, .invokevirtual 89, 3, (22, 2, 3), 0, 0, []), (28, .istore 4, 2, (4, 0, 0), 0, 0, []), (30, .iload 4, 2, (4, 0, 0), 0, 0, []), (32, .iconst (-1), 1, (0, 0, 0), -1, 0, []), (33, .if_icmp .ne (6), 3, (39, 0, 0), 0, 0, [])], 36),
  (36, [true, false, true, false, false, false], [(36, .goto (51), 3, (87, 0, 0), 0, 0, [])], 39),
  (39, [true, false, true, true, true, false], [(39, .aload_n 0, 1, (0, 0, 0), 0, 0, []), (40, .getfield 12, 3, (0, 0, 2), 0, 0, []), (43, .invokevirtual 95, 3, (77, 1, 7), 0, 0, []), (46, .aload_n 0, 1, (0, 0, 0), 0, 0, []), (47, .getfield 71, 3, (0, 7, 2), 0, 0, []), (50, .iload 4, 2, (4, 0, 0), 0, 0, []), (52, .invokevirtual 98, 3, (59, 2, 6), 0, 0, []), (55, .istore 5, 2, (5, 0, 0), 0, 0, []), (57, .iload 5, 2, (5, 0, 0), 0, 0, []), (59, .bipush (24), 2, (0, 0, 0), 24, 0, []), (61, .if_icmp .ne (6), 3, (67, 0, 0), 0, 0, [])], 64),
  (64, [true, false, true, false, false, false], [(64, .goto (23), 3, (87, 0, 0), 0, 0, [])], 67),
  (67, [true, false, true, true, false, true], [(67, .iload 5, 2, (5, 0, 0), 0, 0, []), (69, .ifCond .eq (12), 3, (81, 0, 0), 0, 0, [])], 72),
  (72, [true, false, true, true, false, true], [(72, .aload_n 0, 1, (0, 0, 0), 0, 0, []), (73, .getfield 71, 3, (0, 7, 2), 0, 0, []), (76, .iload 5, 2, (5, 0, 0), 0, 0, []), (78, .invokevirtual 102, 3, (64, 2, 6), 0, 0, [])], 81),
  (81, [true, false, true, true, false, false], [(81, .iinc 3 (1), 3, (3, 0, 0), 1, 0, []), (84, .goto (-71), 3, (13, 0, 0), 0, 0, [])], 87),
  (87, [true, false, true, false, false, false], [(87, .aload_n 0, 1, (0, 0, 0), 0, 0, []), (88, .getfield 28, 3, (0, 2, 2), 0, 0, []), (91, .getfield 105, 3, (9, 8, 0), 0, 0, []), (94, .ifCond .gt (13), 3, (107, 0, 0), 0, 0, [])], 97),
  (97, [true, false, true, false, false, false], [(97, .aload_n 0, 1, (0, 0, 0), 0, 0, []), (98, .getfield 53, 3, (0, 5, 2), 0, 0, []), (101, .getfield 108, 3, (2, 2, 0), 0, 0, []), (104, .ifCond .le (13), 3, (117, 0, 0), 0, 0, [])], 107),
  (107, [true, false, true, false, false, false], [(107, .aload_n 0, 1, (0, 0, 0), 0, 0, []), (108, .getfield 12, 3, (0, 0, 2), 0, 0, []), (111, .bipush (9), 2, (0, 0, 0), 9, 0, []), (113, .invokevirtual 111, 3, (80, 2, 7), 0, 0, []), (116, .pop, 1, (0, 0, 0), 0, 0, [])], 117),
  (117, [true, false, true, false, false, false], [(117, .goto (12), 3, (129, 0, 0), 0, 0, [])], 120),
  (121, [true, false, false, false, false, false], [(121, .aload_n 0, 1, (0, 0, 0), 0, 0, []), (122, .getfield 12, 3, (0, 0, 2), 0, 0, []), (125, .getfield 116, 3, (7, 0, 0), 0, 0, []), (128, .istore_n 2, 1, (2, 0, 0), 0, 0, [])], 129),
  (129, [true, false, true, false, false, false], [(129, .aload_n 0, 1, (0, 0, 0), 0, 0, []), (130, .getfield 28, 3, (0, 2, 2), 0, 0, []), (133, .invokevirtual 119, 3, (101, 1, 9), 0, 0, []), (136, .aload_n 0, 1, (0, 0, 0), 0, 0, []), (137, .getfield 37, 3, (0, 3, 2), 0, 0, []), (140, .iconst (0), 1, (0, 0, 0), 0, 0, []), (141, .putfield 75, 3, (8, 1, 0), 0, 0, []), (144, .iload_n 2, 1, (2, 0, 0), 0, 0, []), (145, .ifCond .ne (7), 3, (152, 0, 0), 0, 0, [])], 148),
  (148, [false, false, false, false, false, false], [(148, .iconst (0), 1, (0, 0, 0), 0, 0, []), (149, .goto (16), 3, (165, 0, 0), 0, 0, [])], 152),
  (152, [true, false, true, false, false, false], [(152, .sipush (10000), 3, (0, 0, 0), 10000, 0, []), (155, .iload_n 2, 1, (2, 0, 0), 0, 0, []), (156, .imul, 1, (0, 0, 0), 0, 0, []), (157, .aload_n 0, 1, (0, 0, 0), 0, 0, []), (158, .getfield 37, 3, (0, 3, 2), 0, 0, []), (161, .getfield 122, 3, (8, 6, 0), 0, 0, []), (164, .iadd, 1, (0, 0, 0), 0, 0, [])], 165),
  (165, [false, false, false, false, false, false], [(165, .ireturn, 1, (0, 0, 0), 0, 0, [])], 166)]
def mp_2 : mj_M := (6, [(11, 117, 120, 500, 3, 121)], mb_2)
-- MacroPress.ticks()I
def mb_3 : List mj_B := [(0, [true], [(0, .aload_n 0, 1, (0, 0, 0), 0, 0, []), (1, .getfield 12, 3, (0, 0, 2), 0, 0, []), (4, .getfield 125, 3, (7, 1, 0), 0, 0, []), (7, .ireturn, 1, (0, 0, 0), 0, 0, [])], 8)]
def mp_3 : mj_M := (1, [], mb_3)
-- MacroPress.size()I
def mb_4 : List mj_B := [(0, [true], [(0, .aload_n 0, 1, (0, 0, 0), 0, 0, []), (1, .getfield 71, 3, (0, 7, 2), 0, 0, []), (4, .getfield 128, 3, (6, 1, 0), 0, 0, []), (7, .ireturn, 1, (0, 0, 0), 0, 0, [])], 8)]
def mp_4 : mj_M := (1, [], mb_4)
-- MacroPress.out(I)I
def mb_5 : List mj_B := [(0, [true, true], [(0, .iload_n 1, 1, (1, 0, 0), 0, 0, []), (1, .ifCond .lt (14), 3, (15, 0, 0), 0, 0, [])], 4),
  (4, [true, true], [(4, .iload_n 1, 1, (1, 0, 0), 0, 0, []), (5, .aload_n 0, 1, (0, 0, 0), 0, 0, []), (6, .getfield 71, 3, (0, 7, 2), 0, 0, []), (9, .getfield 128, 3, (6, 1, 0), 0, 0, []), (12, .if_icmp .lt (13), 3, (25, 0, 0), 0, 0, [])], 15),
  (15, [false, false], [(15, .new 131, 3, (502, 0, 1), 0, 0, [])], 18),
  (25, [true, true], [(25, .aload_n 0, 1, (0, 0, 0), 0, 0, []), (26, .getfield 71, 3, (0, 7, 2), 0, 0, []), (29, .getfield 138, 3, (6, 0, 2), 0, 0, []), (32, .iload_n 1, 1, (1, 0, 0), 0, 0, []), (33, .iaload, 1, (0, 0, 0), 0, 0, []), (34, .ireturn, 1, (0, 0, 0), 0, 0, [])], 35)]
def mp_5 : mj_M := (2, [], mb_5)
-- MacroPress.count(I)I
def mb_6 : List mj_B := [(0, [true, true], [(0, .iload_n 1, 1, (1, 0, 0), 0, 0, []), (1, .ifCond .lt (10), 3, (11, 0, 0), 0, 0, [])], 4),
  (4, [true, true], [(4, .iload_n 1, 1, (1, 0, 0), 0, 0, []), (5, .sipush (255), 3, (0, 0, 0), 255, 0, []), (8, .if_icmp .le (13), 3, (21, 0, 0), 0, 0, [])], 11),
  (11, [false, false], [(11, .new 131, 3, (502, 0, 1), 0, 0, [])], 14),
  (21, [true, true], [(21, .aload_n 0, 1, (0, 0, 0), 0, 0, []), (22, .getfield 28, 3, (0, 2, 2), 0, 0, []), (25, .getfield 144, 3, (9, 0, 2), 0, 0, []), (28, .iconst (0), 1, (0, 0, 0), 0, 0, []), (29, .iload_n 1, 1, (1, 0, 0), 0, 0, []), (30, .iadd, 1, (0, 0, 0), 0, 0, []), (31, .iaload, 1, (0, 0, 0), 0, 0, []), (32, .ireturn, 1, (0, 0, 0), 0, 0, [])], 33)]
def mp_6 : mj_M := (2, [], mb_6)
-- MacroPress.refuseTicks(I)V
def mb_7 : List mj_B := [(0, [true], [(0, .iload_n 0, 1, (0, 0, 0), 0, 0, []), (1, .ifCond .lt (10), 3, (11, 0, 0), 0, 0, [])], 4),
  (4, [true], [(4, .iload_n 0, 1, (0, 0, 0), 0, 0, []), (5, .sipush (30000), 3, (0, 0, 0), 30000, 0, []), (8, .if_icmp .le (13), 3, (21, 0, 0), 0, 0, [])], 11),
  (11, [false], [(11, .new 147, 3, (501, 0, 1), 0, 0, [])], 14),
  (21, [false], [(21, .return_, 1, (0, 0, 0), 0, 0, [])], 22)]
def mp_7 : mj_M := (1, [], mb_7)
-- MacroPress.beginRun(I)V
def mb_8 : List mj_B := [(0, [true, true], [(0, .aload_n 0, 1, (0, 0, 0), 0, 0, []), (1, .getfield 12, 3, (0, 0, 2), 0, 0, []), (4, .iload_n 1, 1, (1, 0, 0), 0, 0, []), (5, .invokevirtual 152, 3, (76, 2, 7), 0, 0, []), (8, .aload_n 0, 1, (0, 0, 0), 0, 0, []), (9, .getfield 19, 3, (0, 1, 2), 0, 0, []), (12, .invokevirtual 155, 3, (55, 1, 5), 0, 0, []), (15, .aload_n 0, 1, (0, 0, 0), 0, 0, []), (16, .getfield 28, 3, (0, 2, 2), 0, 0, []), (19, .invokevirtual 157, 3, (90, 1, 9), 0, 0, []), (22, .aload_n 0, 1, (0, 0, 0), 0, 0, []), (23, .getfield 37, 3, (0, 3, 2), 0, 0, []), (26, .invokevirtual 158, 3, (83, 1, 8), 0, 0, []), (29, .aload_n 0, 1, (0, 0, 0), 0, 0, []), (30, .getfield 44, 3, (0, 4, 2), 0, 0, []), (33, .invokevirtual 159, 3, (46, 1, 4), 0, 0, []), (36, .aload_n 0, 1, (0, 0, 0), 0, 0, []), (37, .getfield 53, 3, (0, 5, 2), 0, 0, []), (40, .iconst (0), 1, (0, 0, 0), 0, 0, []), (41, .putfield 108, 3, (2, 2, 0), 0, 0, []), (44, .aload_n 0, 1, (0, 0, 0), 0, 0, []), (45, .getfield 62, 3, (0, 6, 2), 0, 0, []), (48, .iconst (0), 1, (0, 0, 0), 0, 0, []), (49, .putfield 160, 3, (3, 1, 0), 0, 0, []), (52, .aload_n 0, 1, (0, 0, 0), 0, 0, []), (53, .getfield 71, 3, (0, 7, 2), 0, 0, []), (56, .iconst (0), 1, (0, 0, 0), 0, 0, []), (57, .putfield 128, 3, (6, 1, 0), 0, 0, []), (60, .return_, 1, (0, 0, 0), 0, 0, [])], 61)]
def mp_8 : mj_M := (2, [], mb_8)
-- MacroPress$Arguments.<init>(LMacroPress$Source;LMacroPress$Macros;LMacroPress$Progress;)V
def mb_9 : List mj_B := [(0, [true, true, true, true], [(0, .aload_n 0, 1, (0, 0, 0), 0, 0, []), (1, .invokespecial 3, 3, (0, 0, 1), 0, 0, []), (4, .aload_n 0, 1, (0, 0, 0), 0, 0, []), (5, .sipush (14101), 3, (0, 0, 0), 14101, 0, []), (8, .newarray .int, 2, (0, 0, 0), 0, 0, []), (10, .putfield 11, 3, (1, 0, 2), 0, 0, []), (13, .aload_n 0, 1, (0, 0, 0), 0, 0, []), (14, .bipush (16), 2, (0, 0, 0), 16, 0, []), (16, .newarray .int, 2, (0, 0, 0), 0, 0, []), (18, .putfield 15, 3, (1, 1, 2), 0, 0, []), (21, .aload_n 0, 1, (0, 0, 0), 0, 0, []), (22, .bipush (16), 2, (0, 0, 0), 16, 0, []), (24, .newarray .int, 2, (0, 0, 0), 0, 0, []), (26, .putfield 18, 3, (1, 2, 2), 0, 0, []), (29, .aload_n 0, 1, (0, 0, 0), 0, 0, []), (30, .aload_n 1, 1, (1, 0, 0), 0, 0, []), (31, .putfield 21, 3, (1, 4, 2), 0, 0, []), (34, .aload_n 0, 1, (0, 0, 0), 0, 0, []), (35, .aload_n 2, 1, (2, 0, 0), 0, 0, []), (36, .putfield 25, 3, (1, 5, 2), 0, 0, []), (39, .aload_n 0, 1, (0, 0, 0), 0, 0, []), (40, .aload_n 3, 1, (3, 0, 0), 0, 0, []), (41, .putfield 29, 3, (1, 6, 2), 0, 0, []), (44, .return_, 1, (0, 0, 0), 0, 0, [])], 45)]
def mp_9 : mj_M := (4, [], mb_9)
-- MacroPress$Arguments.collect(I)V
def mb_10 : List mj_B := [(0, [true, true, false, false, false, false], [(0, .aload_n 0, 1, (0, 0, 0), 0, 0, []), (1, .iconst (0), 1, (0, 0, 0), 0, 0, []), (2, .putfield 33, 3, (1, 3, 0), 0, 0, []), (5, .aload_n 0, 1, (0, 0, 0), 0, 0, []), (6, .getfield 25, 3, (1, 5, 2), 0, 0, []), (9, .iload_n 1, 1, (1, 0, 0), 0, 0, []), (10, .invokevirtual 37, 3, (48, 2, 4), 0, 0, []), (13, .istore_n 2, 1, (2, 0, 0), 0, 0, []), (14, .aload_n 0, 1, (0, 0, 0), 0, 0, []), (15, .getfield 25, 3, (1, 5, 2), 0, 0, []), (18, .iload_n 1, 1, (1, 0, 0), 0, 0, []), (19, .invokevirtual 43, 3, (47, 2, 4), 0, 0, []), (22, .istore_n 3, 1, (3, 0, 0), 0, 0, [])], 23),
  (23, [true, false, true, true, false, false], [(23, .iload_n 3, 1, (3, 0, 0), 0, 0, []), (24, .iload_n 2, 1, (2, 0, 0), 0, 0, []), (25, .if_icmp .ge (56), 3, (81, 0, 0), 0, 0, [])], 28),
  (28, [true, false, true, true, false, false], [(28, .aload_n 0, 1, (0, 0, 0), 0, 0, []), (29, .getfield 25, 3, (1, 5, 2), 0, 0, []), (32, .getfield 46, 3, (4, 0, 2), 0, 0, []), (35, .iload_n 3, 1, (3, 0, 0), 0, 0, []), (36, .iaload, 1, (0, 0, 0), 0, 0, []), (37, .invokestatic 49, 3, (185, 1, 0), 0, 0, []), (40, .ifCond .ne (41), 3, (81, 0, 0), 0, 0, [])], 43),
  (43, [true, false, true, true, false, false], [(43, .aload_n 0, 1, (0, 0, 0), 0, 0, []), (44, .getfield 21, 3, (1, 4, 2), 0, 0, []), (47, .iconst (0), 1, (0, 0, 0), 0, 0, []), (48, .invokevirtual 55, 3, (85, 2, 8), 0, 0, []), (51, .invokestatic 61, 3, (183, 1, 0), 0, 0, []), (54, .aload_n 0, 1, (0, 0, 0), 0, 0, []), (55, .getfield 25, 3, (1, 5, 2), 0, 0, []), (58, .getfield 46, 3, (4, 0, 2), 0, 0, []), (61, .iload_n 3, 1, (3, 0, 0), 0, 0, []), (62, .iaload, 1, (0, 0, 0), 0, 0, []), (63, .if_icmp .eq (12), 3, (75, 0, 0), 0, 0, [])], 66),
  (66, [true, false, true, true, false, false], [(66, .aload_n 0, 1, (0, 0, 0), 0, 0, []), (67, .getfield 29, 3, (1, 6, 2), 0, 0, []), (70, .iconst (4), 1, (0, 0, 0), 4, 0, []), (71, .invokevirtual 64, 3, (80, 2, 7), 0, 0, []), (74, .pop, 1, (0, 0, 0), 0, 0, [])], 75),
  (75, [true, false, true, true, false, false], [(75, .iinc 3 (1), 3, (3, 0, 0), 1, 0, []), (78, .goto (-55), 3, (23, 0, 0), 0, 0, [])], 81),
  (81, [true, false, true, true, false, false], [(81, .iload_n 3, 1, (3, 0, 0), 0, 0, []), (82, .iload_n 2, 1, (2, 0, 0), 0, 0, []), (83, .if_icmp .ge (78), 3, (161, 0, 0), 0, 0, [])], 86),
  (86, [true, false, true, true, false, false], [(86, .aload_n 0, 1, (0, 0, 0), 0, 0, []), (87, .getfield 25, 3, (1, 5, 2), 0, 0, []), (90, .getfield 46, 3, (4, 0, 2), 0, 0, []), (93, .iload_n 3, 1, (3, 0, 0), 0, 0, []), (94, .iaload, 1, (0, 0, 0), 0, 0, []), (95, .bipush (15), 2, (0, 0, 0), 15, 0, []), (97, .iand, 1, (0, 0, 0), 0, 0, []), (98, .istore 4, 2, (4, 0, 0), 0, 0, []), (100, .iload_n 3, 1, (3, 0, 0), 0, 0, []), (101, .iconst (1), 1, (0, 0, 0), 1, 0, []), (102, .iadd, 1, (0, 0, 0), 0, 0, []), (103, .istore 5, 2, (5, 0, 0), 0, 0, []), (105, .iload 5, 2, (5, 0, 0), 0, 0, []), (107, .istore_n 3, 1, (3, 0, 0), 0, 0, [])], 108),
  (108, [true, false, true, true, true, true], [(108, .iload_n 3, 1, (3, 0, 0), 0, 0, []), (109, .iload_n 2, 1, (2, 0, 0), 0, 0, []), (110, .if_icmp .ge (24), 3, (134, 0, 0), 0, 0, [])], 113),
  (113, [true, false, true, true, true, true], [(113, .aload_n 0, 1, (0, 0, 0), 0, 0, []), (114, .getfield 25, 3, (1, 5, 2), 0, 0, []), (117, .getfield 46, 3, (4, 0, 2), 0, 0, []), (120, .iload_n 3, 1, (3, 0, 0), 0, 0, []), (121, .iaload, 1, (0, 0, 0), 0, 0, []), (122, .invokestatic 49, 3, (185, 1, 0), 0, 0, []), (125, .ifCond .ne (9), 3, (134, 0, 0), 0, 0, [])], 128),
  (128, [true, false, true, true, true, true], [(128, .iinc 3 (1), 3, (3, 0, 0), 1, 0, []), (131, .goto (-23), 3, (108, 0, 0), 0, 0, [])], 134),
  (134, [true, false, true, true, true, true], [(134, .iload 5, 2, (5, 0, 0), 0, 0, []), (136, .iload_n 3, 1, (3, 0, 0), 0, 0, []), (137, .if_icmp .ne (12), 3, (149, 0, 0), 0, 0, [])], 140),
  (140, [true, false, true, true, true, false], [(140, .aload_n 0, 1, (0, 0, 0), 0, 0, []), (141, .iload 4, 2, (4, 0, 0), 0, 0, []), (143, .invokevirtual 69, 3, (11, 2, 1), 0, 0, []), (146, .goto (12), 3, (158, 0, 0), 0, 0, [])], 149),
  (149, [true, false, true, true, true, true], [(149, .aload_n 0, 1, (0, 0, 0), 0, 0, []), (150, .iload 4, 2, (4, 0, 0), 0, 0, []), (152, .iload 5, 2, (5, 0, 0), 0, 0, []), (154, .iload_n 3, 1, (3, 0, 0), 0, 0, []), (155, .invokevirtual 73, 3, (12, 4, 1), 0, 0, [])], 158),
  (158, [true, false, true, true, false, false], [(158, .goto (-77), 3, (81, 0, 0), 0, 0, [])], 161),
  (161, [false, false, false, false, false, false], [(161, .return_, 1, (0, 0, 0), 0, 0, [])], 162)]
def mp_10 : mj_M := (6, [], mb_10)
-- MacroPress$Arguments.collectUndelimited(I)V
def mb_11 : List mj_B := [(0, [true, true, false, false, false, false], [(0, .aload_n 0, 1, (0, 0, 0), 0, 0, []), (1, .getfield 21, 3, (1, 4, 2), 0, 0, []), (4, .iconst (0), 1, (0, 0, 0), 0, 0, []), (5, .invokevirtual 55, 3, (85, 2, 8), 0, 0, []), (8, .istore_n 2, 1, (2, 0, 0), 0, 0, []), (9, .iconst (0), 1, (0, 0, 0), 0, 0, []), (10, .istore_n 3, 1, (3, 0, 0), 0, 0, [])], 11),
  (11, [true, true, true, true, false, false], [(11, .iload_n 3, 1, (3, 0, 0), 0, 0, []), (12, .ldc 77, 2, (0, 0, 0), 1000000000, 0, []), (14, .if_icmp .ge (25), 3, (39, 0, 0), 0, 0, [])], 17),
  (17, [true, true, true, true, false, false], [(17, .iload_n 2, 1, (2, 0, 0), 0, 0, []), (18, .invokestatic 78, 3, (190, 1, 0), 0, 0, []), (21, .ifCond .eq (18), 3, (39, 0, 0), 0, 0, [])], 24),
  (24, [true, true, false, true, false, false], [(24, .aload_n 0, 1, (0, 0, 0), 0, 0, []), (25, .getfield 21, 3, (1, 4, 2), 0, 0, []), (28, .iconst (0), 1, (0, 0, 0), 0, 0, []), (29, .invokevirtual 55, 3, (85, 2, 8), 0, 0, []), (32, .istore_n 2, 1, (2, 0, 0), 0, 0, []), (33, .iinc 3 (1), 3, (3, 0, 0), 1, 0, []), (36, .goto (-25), 3, (11, 0, 0), 0, 0, [])], 39),
  (39, [true, true, true, false, false, false], [(39, .aload_n 0, 1, (0, 0, 0), 0, 0, []), (40, .getfield 15, 3, (1, 1, 2), 0, 0, []), (43, .iload_n 1, 1, (1, 0, 0), 0, 0, []), (44, .aload_n 0, 1, (0, 0, 0), 0, 0, []), (45, .getfield 33, 3, (1, 3, 0), 0, 0, []), (48, .iastore, 1, (0, 0, 0), 0, 0, []), (49, .iload_n 2, 1, (2, 0, 0), 0, 0, []), (50, .invokestatic 81, 3, (189, 1, 0), 0, 0, []), (53, .istore_n 3, 1, (3, 0, 0), 0, 0, []), (54, .iload_n 3, 1, (3, 0, 0), 0, 0, []), (55, .iconst (2), 1, (0, 0, 0), 2, 0, []), (56, .if_icmp .ne (12), 3, (68, 0, 0), 0, 0, [])], 59),
  (59, [true, true, true, true, false, false], [(59, .aload_n 0, 1, (0, 0, 0), 0, 0, []), (60, .getfield 29, 3, (1, 6, 2), 0, 0, []), (63, .iconst (5), 1, (0, 0, 0), 5, 0, []), (64, .invokevirtual 64, 3, (80, 2, 7), 0, 0, []), (67, .pop, 1, (0, 0, 0), 0, 0, [])], 68),
  (68, [true, true, true, true, false, false], [(68, .iload_n 3, 1, (3, 0, 0), 0, 0, []), (69, .iconst (1), 1, (0, 0, 0), 1, 0, []), (70, .if_icmp .ne (7), 3, (77, 0, 0), 0, 0, [])], 73),
  (73, [true, true, true, false, false, false], [(73, .iconst (1), 1, (0, 0, 0), 1, 0, []), (74, .goto (4), 3, (78, 0, 0), 0, 0, [])], 77),
  (77, [true, true, true, false, false, false], [(77, .iconst (0), 1, (0, 0, 0), 0, 0, [])], 78),
  (78, [true, true, true, false, false, false], [(78, .istore 4, 2, (4, 0, 0), 0, 0, []), (80, .iload 4, 2, (4, 0, 0), 0, 0, []), (82, .ifCond .ne (8), 3, (90, 0, 0), 0, 0, [])], 85),
  (85, [true, true, true, false, true, false], [(85, .aload_n 0, 1, (0, 0, 0), 0, 0, []), (86, .iload_n 2, 1, (2, 0, 0), 0, 0, []), (87, .invokevirtual 84, 3, (14, 2, 1), 0, 0, [])], 90),
  (90, [true, true, false, false, true, false], [(90, .iconst (2), 1, (0, 0, 0), 2, 0, []), (91, .istore 5, 2, (5, 0, 0), 0, 0, [])], 93),
  (93, [true, true, false, false, true, true], [(93, .iload 4, 2, (4, 0, 0), 0, 0, []), (95, .ifCond .le (81), 3, (176, 0, 0), 0, 0, [])], 98),
  (98, [true, true, false, false, true, true], [(98, .iload 5, 2, (5, 0, 0), 0, 0, []), (100, .ldc 77, 2, (0, 0, 0), 1000000000, 0, []), (102, .if_icmp .ge (74), 3, (176, 0, 0), 0, 0, [])], 105),
  (105, [true, true, false, false, true, true], [(105, .aload_n 0, 1, (0, 0, 0), 0, 0, []), (106, .getfield 21, 3, (1, 4, 2), 0, 0, []), (109, .iconst (0), 1, (0, 0, 0), 0, 0, []), (110, .invokevirtual 55, 3, (85, 2, 8), 0, 0, []), (113, .istore_n 2, 1, (2, 0, 0), 0, 0, []), (114, .iload_n 2, 1, (2, 0, 0), 0, 0, []), (115, .invokestatic 81, 3, (189, 1, 0), 0, 0, []), (118, .istore_n 3, 1, (3, 0, 0), 0, 0, []), (119, .iload 5, 2, (5, 0, 0), 0, 0, []), (121, .sipush (10000), 3, (0, 0, 0), 10000, 0, []), (124, .if_icmp .le (12), 3, (136, 0, 0), 0, 0, [])], 127),
  (127, [true, true, true, true, true, true], [(127, .aload_n 0, 1, (0, 0, 0), 0, 0, []), (128, .getfield 29, 3, (1, 6, 2), 0, 0, []), (131, .iconst (2), 1, (0, 0, 0), 2, 0, []), (132, .invokevirtual 64, 3, (80, 2, 7), 0, 0, []), (135, .pop, 1, (0, 0, 0), 0, 0, [])], 136),
  (136, [true, true, true, true, true, true], [(136, .iload 4, 2, (4, 0, 0), 0, 0, []), (138, .iload_n 3, 1, (3, 0, 0), 0, 0, []), (139, .iconst (1), 1, (0, 0, 0), 1, 0, []), (140, .if_icmp .ne (7), 3, (147, 0, 0), 0, 0, [])], 143),
  (143, [true, true, true, false, false, true], [(143, .iconst (1), 1, (0, 0, 0), 1, 0, []), (144, .goto (13), 3, (157, 0, 0), 0, 0, [])], 147),
  (147, [true, true, true, true, false, true], [(147, .iload_n 3, 1, (3, 0, 0), 0, 0, []), (148, .iconst (2), 1, (0, 0, 0), 2, 0, []), (149, .if_icmp .ne (7), 3, (156, 0, 0), 0, 0, [])], 152),
  (152, [true, true, true, false, false, true], [(152, .iconst (-1), 1, (0, 0, 0), -1, 0, []), (153, .goto (4), 3, (157, 0, 0), 0, 0, [])], 156),
  (156, [true, true, true, false, false, true], [(156, .iconst (0), 1, (0, 0, 0), 0, 0, [])], 157),
  (157, [true, true, true, false, false, true], [(157, .iadd, 1, (0, 0, 0), 0, 0, []), (158, .istore 4, 2, (4, 0, 0), 0, 0, []), (160, .iload 4, 2, (4, 0, 0), 0, 0, []), (162, .ifCond .le (8), 3, (170, 0, 0), 0, 0, [])], 165),
  (165, [true, true, true, false, true, true], [(165, .aload_n 0, 1, (0, 0, 0), 0, 0, []), (166, .iload_n 2, 1, (2, 0, 0), 0, 0, []), (167, .invokevirtual 84, 3, (14, 2, 1), 0, 0, [])], 170),
  (170, [true, true, false, false, true, true], [(170, .iinc 5 (1), 3, (5, 0, 0), 1, 0, []), (173, .goto (-80), 3, (93, 0, 0), 0, 0, [])], 176),
  (176, [true, true, false, false, false, false], [(176, .aload_n 0, 1, (0, 0, 0), 0, 0, []), (177, .getfield 18, 3, (1, 2, 2), 0, 0, []), (180, .iload_n 1, 1, (1, 0, 0), 0, 0, []), (181, .aload_n 0, 1, (0, 0, 0), 0, 0, []), (182, .getfield 33, 3, (1, 3, 0), 0, 0, []), (185, .iastore, 1, (0, 0, 0), 0, 0, []), (186, .return_, 1, (0, 0, 0), 0, 0, [])], 187)]
def mp_11 : mj_M := (6, [], mb_11)
-- MacroPress$Arguments.collectDelimited(III)V
def mb_12 : List mj_B := [(0, [true, true, true, true, false, false, false, false, false, false, false], [(0, .aload_n 0, 1, (0, 0, 0), 0, 0, []), (1, .getfield 33, 3, (1, 3, 0), 0, 0, []), (4, .istore 4, 2, (4, 0, 0), 0, 0, []), (6, .iconst (0), 1, (0, 0, 0), 0, 0, []), (7, .istore 5, 2, (5, 0, 0), 0, 0, []), (9, .iconst (-1), 1, (0, 0, 0), -1, 0, []), (10, .istore 6, 2, (6, 0, 0), 0, 0, []), (12, .iconst (0), 1, (0, 0, 0), 0, 0, []), (13, .istore 7, 2, (7, 0, 0), 0, 0, []), (15, .iconst (1), 1, (0, 0, 0), 1, 0, []), (16, .istore 8, 2, (8, 0, 0), 0, 0, [])], 18),
  (18, [true, true, true, true, true, true, true, true, true, false, false], [(18, .iload 7, 2, (7, 0, 0), 0, 0, []), (20, .ifCond .ne (141), 3, (161, 0, 0), 0, 0, [])], 23),
  (23, [true, true, true, true, true, true, true, false, true, false, false], [(23, .iload 8, 2, (8, 0, 0), 0, 0, []), (25, .ldc 77, 2, (0, 0, 0), 1000000000, 0, []), (27, .if_icmp .ge (134), 3, (161, 0, 0), 0, 0, [])], 30),
  (30, [true, true, true, true, true, true, true, false, true, false, false], [(30, .aload_n 0, 1, (0, 0, 0), 0, 0, []), (31, .getfield 21, 3, (1, 4, 2), 0, 0, []), (34, .iconst (0), 1, (0, 0, 0), 0, 0, []), (35, .invokevirtual 55, 3, (85, 2, 8), 0, 0, []), (38, .istore 9, 2, (9, 0, 0), 0, 0, []), (40, .iload 9, 2, (9, 0, 0), 0, 0, []), (42, .invokestatic 81, 3, (189, 1, 0), 0, 0, []), (45, .istore 10, 2, (10, 0, 0), 0, 0, []), (47, .iload 8, 2, (8, 0, 0), 0, 0, []), (49, .sipush (10000), 3, (0, 0, 0), 10000, 0, []), (52, .if_icmp .le (12), 3, (64, 0, 0), 0, 0, [])], 55),
  (55, [true, true, true, true, true, true, true, false, true, true, true], [(55, .aload_n 0, 1, (0, 0, 0), 0, 0, []), (56, .getfield 29, 3, (1, 6, 2), 0, 0, []), (59, .iconst (2), 1, (0, 0, 0), 2, 0, []), (60, .invokevirtual 64, 3, (80, 2, 7), 0, 0, []), (63, .pop, 1, (0, 0, 0), 0, 0, [])], 64),
  (64, [true, true, true, true, true, true, true, false, true, true, true], [(64, .aload_n 0, 1, (0, 0, 0), 0, 0, []), (65, .iload 9, 2, (9, 0, 0), 0, 0, []), (67, .invokevirtual 84, 3, (14, 2, 1), 0, 0, []), (70, .iload 5, 2, (5, 0, 0), 0, 0, []), (72, .iload 10, 2, (10, 0, 0), 0, 0, []), (74, .iconst (1), 1, (0, 0, 0), 1, 0, []), (75, .if_icmp .ne (7), 3, (82, 0, 0), 0, 0, [])], 78),
  (78, [true, true, true, true, true, false, true, false, true, false, true], [(78, .iconst (1), 1, (0, 0, 0), 1, 0, []), (79, .goto (14), 3, (93, 0, 0), 0, 0, [])], 82),
  (82, [true, true, true, true, true, false, true, false, true, false, true], [(82, .iload 10, 2, (10, 0, 0), 0, 0, []), (84, .iconst (2), 1, (0, 0, 0), 2, 0, []), (85, .if_icmp .ne (7), 3, (92, 0, 0), 0, 0, [])], 88),
  (88, [true, true, true, true, true, false, true, false, true, false, true], [(88, .iconst (-1), 1, (0, 0, 0), -1, 0, []), (89, .goto (4), 3, (93, 0, 0), 0, 0, [])], 92),
  (92, [true, true, true, true, true, false, true, false, true, false, true], [(92, .iconst (0), 1, (0, 0, 0), 0, 0, [])], 93),
  (93, [true, true, true, true, true, false, true, false, true, false, true], [(93, .iadd, 1, (0, 0, 0), 0, 0, []), (94, .istore 5, 2, (5, 0, 0), 0, 0, []), (96, .iload 5, 2, (5, 0, 0), 0, 0, []), (98, .ifCond .ge (12), 3, (110, 0, 0), 0, 0, [])], 101),
  (101, [true, true, true, true, true, true, true, false, true, false, true], [(101, .aload_n 0, 1, (0, 0, 0), 0, 0, []), (102, .getfield 29, 3, (1, 6, 2), 0, 0, []), (105, .iconst (5), 1, (0, 0, 0), 5, 0, []), (106, .invokevirtual 64, 3, (80, 2, 7), 0, 0, []), (109, .pop, 1, (0, 0, 0), 0, 0, [])], 110),
  (110, [true, true, true, true, true, true, true, false, true, false, true], [(110, .iload 5, 2, (5, 0, 0), 0, 0, []), (112, .ifCond .ne (20), 3, (132, 0, 0), 0, 0, [])], 115),
  (115, [true, true, true, true, true, true, true, false, true, false, true], [(115, .iload 10, 2, (10, 0, 0), 0, 0, []), (117, .iconst (2), 1, (0, 0, 0), 2, 0, []), (118, .if_icmp .ne (14), 3, (132, 0, 0), 0, 0, [])], 121),
  (121, [true, true, true, true, true, true, true, false, true, false, false], [(121, .iload 6, 2, (6, 0, 0), 0, 0, []), (123, .ifCond .ge (9), 3, (132, 0, 0), 0, 0, [])], 126),
  (126, [true, true, true, true, true, true, false, false, true, false, false], [(126, .aload_n 0, 1, (0, 0, 0), 0, 0, []), (127, .getfield 33, 3, (1, 3, 0), 0, 0, []), (130, .istore 6, 2, (6, 0, 0), 0, 0, [])], 132),
  (132, [true, true, true, true, true, true, true, false, true, false, false], [(132, .iload 5, 2, (5, 0, 0), 0, 0, []), (134, .ifCond .ne (18), 3, (152, 0, 0), 0, 0, [])], 137),
  (137, [true, true, true, true, true, true, true, false, true, false, false], [(137, .aload_n 0, 1, (0, 0, 0), 0, 0, []), (138, .iload 4, 2, (4, 0, 0), 0, 0, []), (140, .iload_n 2, 1, (2, 0, 0), 0, 0, []), (141, .iload_n 3, 1, (3, 0, 0), 0, 0, []), (142, .invokevirtual 87, 3, (13, 4, 1), 0, 0, []), (145, .ifCond .eq (7), 3, (152, 0, 0), 0, 0, [])], 148),
  (148, [true, true, true, true, true, true, true, false, true, false, false], [(148, .iconst (1), 1, (0, 0, 0), 1, 0, []), (149, .goto (4), 3, (153, 0, 0), 0, 0, [])], 152),
  (152, [true, true, true, true, true, true, true, false, true, false, false], [(152, .iconst (0), 1, (0, 0, 0), 0, 0, [])], 153),
  (153, [true, true, true, true, true, true, true, false, true, false, false], [(153, .istore 7, 2, (7, 0, 0), 0, 0, []), (155, .iinc 8 (1), 3, (8, 0, 0), 1, 0, []), (158, .goto (-140), 3, (18, 0, 0), 0, 0, [])], 161),
  (161, [true, true, true, true, true, false, true, false, false, false, false], [(161, .aload_n 0, 1, (0, 0, 0), 0, 0, []), (162, .getfield 33, 3, (1, 3, 0), 0, 0, []), (165, .iload_n 3, 1, (3, 0, 0), 0, 0, []), (166, .iload_n 2, 1, (2, 0, 0), 0, 0, []), (167, .isub, 1, (0, 0, 0), 0, 0, []), (168, .isub, 1, (0, 0, 0), 0, 0, []), (169, .istore 8, 2, (8, 0, 0), 0, 0, []), (171, .iload 6, 2, (6, 0, 0), 0, 0, []), (173, .iload 8, 2, (8, 0, 0), 0, 0, []), (175, .if_icmp .ne (21), 3, (196, 0, 0), 0, 0, [])], 178),
  (178, [true, true, false, false, true, false, false, false, true, false, false], [(178, .aload_n 0, 1, (0, 0, 0), 0, 0, []), (179, .getfield 11, 3, (1, 0, 2), 0, 0, []), (182, .iload 4, 2, (4, 0, 0), 0, 0, []), (184, .iaload, 1, (0, 0, 0), 0, 0, []), (185, .invokestatic 81, 3, (189, 1, 0), 0, 0, []), (188, .iconst (1), 1, (0, 0, 0), 1, 0, []), (189, .if_icmp .ne (7), 3, (196, 0, 0), 0, 0, [])], 192),
  (192, [true, true, false, false, true, false, false, false, true, false, false], [(192, .iconst (1), 1, (0, 0, 0), 1, 0, []), (193, .goto (4), 3, (197, 0, 0), 0, 0, [])], 196),
  (196, [true, true, false, false, true, false, false, false, true, false, false], [(196, .iconst (0), 1, (0, 0, 0), 0, 0, [])], 197),
  (197, [true, true, false, false, true, false, false, false, true, false, false], [(197, .istore 9, 2, (9, 0, 0), 0, 0, []), (199, .aload_n 0, 1, (0, 0, 0), 0, 0, []), (200, .getfield 15, 3, (1, 1, 2), 0, 0, []), (203, .iload_n 1, 1, (1, 0, 0), 0, 0, []), (204, .iload 9, 2, (9, 0, 0), 0, 0, []), (206, .ifCond .eq (10), 3, (216, 0, 0), 0, 0, [])], 209),
  (209, [true, true, false, false, true, false, false, false, true, true, false], [(209, .iload 4, 2, (4, 0, 0), 0, 0, []), (211, .iconst (1), 1, (0, 0, 0), 1, 0, []), (212, .iadd, 1, (0, 0, 0), 0, 0, []), (213, .goto (5), 3, (218, 0, 0), 0, 0, [])], 216),
  (216, [true, true, false, false, true, false, false, false, true, true, false], [(216, .iload 4, 2, (4, 0, 0), 0, 0, [])], 218),
  (218, [true, true, false, false, false, false, false, false, true, true, false], [(218, .iastore, 1, (0, 0, 0), 0, 0, []), (219, .aload_n 0, 1, (0, 0, 0), 0, 0, []), (220, .getfield 18, 3, (1, 2, 2), 0, 0, []), (223, .iload_n 1, 1, (1, 0, 0), 0, 0, []), (224, .iload 9, 2, (9, 0, 0), 0, 0, []), (226, .ifCond .eq (10), 3, (236, 0, 0), 0, 0, [])], 229),
  (229, [false, false, false, false, false, false, false, false, true, false, false], [(229, .iload 8, 2, (8, 0, 0), 0, 0, []), (231, .iconst (1), 1, (0, 0, 0), 1, 0, []), (232, .isub, 1, (0, 0, 0), 0, 0, []), (233, .goto (5), 3, (238, 0, 0), 0, 0, [])], 236),
  (236, [false, false, false, false, false, false, false, false, true, false, false], [(236, .iload 8, 2, (8, 0, 0), 0, 0, [])], 238),
  (238, [false, false, false, false, false, false, false, false, false, false, false], [(238, .iastore, 1, (0, 0, 0), 0, 0, []), (239, .return_, 1, (0, 0, 0), 0, 0, [])], 240)]
def mp_12 : mj_M := (11, [], mb_12)
-- MacroPress$Arguments.endsWith(III)Z
def mb_13 : List mj_B := [(0, [true, true, true, true, false, false], [(0, .aload_n 0, 1, (0, 0, 0), 0, 0, []), (1, .getfield 33, 3, (1, 3, 0), 0, 0, []), (4, .iload_n 3, 1, (3, 0, 0), 0, 0, []), (5, .iload_n 2, 1, (2, 0, 0), 0, 0, []), (6, .isub, 1, (0, 0, 0), 0, 0, []), (7, .isub, 1, (0, 0, 0), 0, 0, []), (8, .istore 4, 2, (4, 0, 0), 0, 0, []), (10, .iload 4, 2, (4, 0, 0), 0, 0, []), (12, .iload_n 1, 1, (1, 0, 0), 0, 0, []), (13, .if_icmp .ge (5), 3, (18, 0, 0), 0, 0, [])], 16),
  (16, [false, false, false, false, false, false], [(16, .iconst (0), 1, (0, 0, 0), 0, 0, []), (17, .ireturn, 1, (0, 0, 1), 0, 0, [])], 18),
  (18, [true, false, true, true, true, false], [(18, .iload_n 3, 1, (3, 0, 0), 0, 0, []), (19, .iload_n 2, 1, (2, 0, 0), 0, 0, []), (20, .isub, 1, (0, 0, 0), 0, 0, []), (21, .iconst (1), 1, (0, 0, 0), 1, 0, []), (22, .isub, 1, (0, 0, 0), 0, 0, []), (23, .istore 5, 2, (5, 0, 0), 0, 0, [])], 25),
  (25, [true, false, true, false, true, true], [(25, .iload 5, 2, (5, 0, 0), 0, 0, []), (27, .ifCond .lt (39), 3, (66, 0, 0), 0, 0, [])], 30),
  (30, [true, false, true, false, true, true], [(30, .aload_n 0, 1, (0, 0, 0), 0, 0, []), (31, .getfield 11, 3, (1, 0, 2), 0, 0, []), (34, .iload 4, 2, (4, 0, 0), 0, 0, []), (36, .iload 5, 2, (5, 0, 0), 0, 0, []), (38, .iadd, 1, (0, 0, 0), 0, 0, []), (39, .iaload, 1, (0, 0, 0), 0, 0, []), (40, .invokestatic 61, 3, (183, 1, 0), 0, 0, []), (43, .aload_n 0, 1, (0, 0, 0), 0, 0, []), (44, .getfield 25, 3, (1, 5, 2), 0, 0, []), (47, .getfield 46, 3, (4, 0, 2), 0, 0, []), (50, .iload_n 2, 1, (2, 0, 0), 0, 0, []), (51, .iload 5, 2, (5, 0, 0), 0, 0, []), (53, .iadd, 1, (0, 0, 0), 0, 0, []), (54, .iaload, 1, (0, 0, 0), 0, 0, []), (55, .if_icmp .eq (5), 3, (60, 0, 0), 0, 0, [])], 58),
  (58, [false, false, false, false, false, false], [(58, .iconst (0), 1, (0, 0, 0), 0, 0, []), (59, .ireturn, 1, (0, 0, 1), 0, 0, [])], 60),
  (60, [true, false, true, false, true, true], [(60, .iinc 5 (-1), 3, (5, 0, 0), -1, 0, []), (63, .goto (-38), 3, (25, 0, 0), 0, 0, [])], 66),
  (66, [false, false, false, false, false, false], [(66, .iconst (1), 1, (0, 0, 0), 1, 0, []), (67, .ireturn, 1, (0, 0, 1), 0, 0, [])], 68)]
def mp_13 : mj_M := (6, [], mb_13)
-- MacroPress$Arguments.add(I)V
def mb_14 : List mj_B := [(0, [true, true], [(0, .aload_n 0, 1, (0, 0, 0), 0, 0, []), (1, .getfield 33, 3, (1, 3, 0), 0, 0, []), (4, .sipush (14101), 3, (0, 0, 0), 14101, 0, []), (7, .if_icmp .lt (12), 3, (19, 0, 0), 0, 0, [])], 10),
  (10, [true, true], [(10, .aload_n 0, 1, (0, 0, 0), 0, 0, []), (11, .getfield 29, 3, (1, 6, 2), 0, 0, []), (14, .iconst (2), 1, (0, 0, 0), 2, 0, []), (15, .invokevirtual 64, 3, (80, 2, 7), 0, 0, []), (18, .pop, 1, (0, 0, 0), 0, 0, [])], 19),
  (19, [true, true], [(19, .aload_n 0, 1, (0, 0, 0), 0, 0, []), (20, .getfield 11, 3, (1, 0, 2), 0, 0, []), (23, .aload_n 0, 1, (0, 0, 0), 0, 0, []), (24, .getfield 33, 3, (1, 3, 0), 0, 0, []), (27, .iload_n 1, 1, (1, 0, 0), 0, 0, []), (28, .iastore, 1, (0, 0, 0), 0, 0, []), (29, .aload_n 0, 1, (0, 0, 0), 0, 0, []), (30, .dup, 1, (0, 0, 0), 0, 0, []), (31, .getfield 33, 3, (1, 3, 0), 0, 0, []), (34, .iconst (1), 1, (0, 0, 0), 1, 0, []), (35, .iadd, 1, (0, 0, 0), 0, 0, []), (36, .putfield 33, 3, (1, 3, 0), 0, 0, []), (39, .return_, 1, (0, 0, 0), 0, 0, [])], 40)]
def mp_14 : mj_M := (2, [], mb_14)
-- MacroPress$Arguments.putBody(I)V
def mb_15 : List mj_B := [(0, [true, true, false, false, false, false, false], [(0, .aload_n 0, 1, (0, 0, 0), 0, 0, []), (1, .getfield 25, 3, (1, 5, 2), 0, 0, []), (4, .iload_n 1, 1, (1, 0, 0), 0, 0, []), (5, .invokevirtual 37, 3, (48, 2, 4), 0, 0, []), (8, .istore_n 2, 1, (2, 0, 0), 0, 0, []), (9, .aload_n 0, 1, (0, 0, 0), 0, 0, []), (10, .getfield 25, 3, (1, 5, 2), 0, 0, []), (13, .iload_n 1, 1, (1, 0, 0), 0, 0, []), (14, .invokevirtual 91, 3, (49, 2, 4), 0, 0, []), (17, .istore_n 3, 1, (3, 0, 0), 0, 0, []), (18, .iconst (0), 1, (0, 0, 0), 0, 0, []), (19, .istore 4, 2, (4, 0, 0), 0, 0, []), (21, .iload_n 2, 1, (2, 0, 0), 0, 0, []), (22, .istore 5, 2, (5, 0, 0), 0, 0, [])], 24),
  (24, [true, false, true, true, true, true, false], [(24, .iload 5, 2, (5, 0, 0), 0, 0, []), (26, .iload_n 3, 1, (3, 0, 0), 0, 0, []), (27, .if_icmp .ge (59), 3, (86, 0, 0), 0, 0, [])], 30),
  (30, [true, false, true, true, true, true, false], [(30, .aload_n 0, 1, (0, 0, 0), 0, 0, []), (31, .getfield 25, 3, (1, 5, 2), 0, 0, []), (34, .getfield 46, 3, (4, 0, 2), 0, 0, []), (37, .iload 5, 2, (5, 0, 0), 0, 0, []), (39, .iaload, 1, (0, 0, 0), 0, 0, []), (40, .istore 6, 2, (6, 0, 0), 0, 0, []), (42, .iload 4, 2, (4, 0, 0), 0, 0, []), (44, .iload 6, 2, (6, 0, 0), 0, 0, []), (46, .invokestatic 49, 3, (185, 1, 0), 0, 0, []), (49, .ifCond .eq (27), 3, (76, 0, 0), 0, 0, [])], 52),
  (52, [true, false, true, true, false, true, true], [(52, .aload_n 0, 1, (0, 0, 0), 0, 0, []), (53, .getfield 18, 3, (1, 2, 2), 0, 0, []), (56, .iload 6, 2, (6, 0, 0), 0, 0, []), (58, .bipush (15), 2, (0, 0, 0), 15, 0, []), (60, .iand, 1, (0, 0, 0), 0, 0, []), (61, .iaload, 1, (0, 0, 0), 0, 0, []), (62, .aload_n 0, 1, (0, 0, 0), 0, 0, []), (63, .getfield 15, 3, (1, 1, 2), 0, 0, []), (66, .iload 6, 2, (6, 0, 0), 0, 0, []), (68, .bipush (15), 2, (0, 0, 0), 15, 0, []), (70, .iand, 1, (0, 0, 0), 0, 0, []), (71, .iaload, 1, (0, 0, 0), 0, 0, []), (72, .isub, 1, (0, 0, 0), 0, 0, []), (73, .goto (4), 3, (77, 0, 0), 0, 0, [])], 76),
  (76, [true, false, true, true, false, true, false], [(76, .iconst (1), 1, (0, 0, 0), 1, 0, [])], 77),
  (77, [true, false, true, true, false, true, false], [(77, .iadd, 1, (0, 0, 0), 0, 0, []), (78, .istore 4, 2, (4, 0, 0), 0, 0, []), (80, .iinc 5 (1), 3, (5, 0, 0), 1, 0, []), (83, .goto (-59), 3, (24, 0, 0), 0, 0, [])], 86),
  (86, [true, false, true, true, true, false, false], [(86, .aload_n 0, 1, (0, 0, 0), 0, 0, []), (87, .getfield 21, 3, (1, 4, 2), 0, 0, []), (90, .getfield 94, 3, (8, 8, 0), 0, 0, []), (93, .iload 4, 2, (4, 0, 0), 0, 0, []), (95, .iadd, 1, (0, 0, 0), 0, 0, []), (96, .sipush (10000), 3, (0, 0, 0), 10000, 0, []), (99, .if_icmp .le (12), 3, (111, 0, 0), 0, 0, [])], 102),
  (102, [true, false, true, true, false, false, false], [(102, .aload_n 0, 1, (0, 0, 0), 0, 0, []), (103, .getfield 29, 3, (1, 6, 2), 0, 0, []), (106, .iconst (2), 1, (0, 0, 0), 2, 0, []), (107, .invokevirtual 64, 3, (80, 2, 7), 0, 0, []), (110, .pop, 1, (0, 0, 0), 0, 0, [])], 111),
  (111, [true, false, true, true, false, false, false], [(111, .iload_n 3, 1, (3, 0, 0), 0, 0, []), (112, .iconst (1), 1, (0, 0, 0), 1, 0, []), (113, .isub, 1, (0, 0, 0), 0, 0, []), (114, .istore 5, 2, (5, 0, 0), 0, 0, [])], 116),
  (116, [true, false, true, false, false, true, false], [(116, .iload 5, 2, (5, 0, 0), 0, 0, []), (118, .iload_n 2, 1, (2, 0, 0), 0, 0, []), (119, .if_icmp .lt (50), 3, (169, 0, 0), 0, 0, [])], 122),
  (122, [true, false, true, false, false, true, false], [(122, .aload_n 0, 1, (0, 0, 0), 0, 0, []), (123, .getfield 25, 3, (1, 5, 2), 0, 0, []), (126, .getfield 46, 3, (4, 0, 2), 0, 0, []), (129, .iload 5, 2, (5, 0, 0), 0, 0, []), (131, .iaload, 1, (0, 0, 0), 0, 0, []), (132, .istore 6, 2, (6, 0, 0), 0, 0, []), (134, .iload 6, 2, (6, 0, 0), 0, 0, []), (136, .invokestatic 49, 3, (185, 1, 0), 0, 0, []), (139, .ifCond .eq (15), 3, (154, 0, 0), 0, 0, [])], 142),
  (142, [true, false, true, false, false, true, true], [(142, .aload_n 0, 1, (0, 0, 0), 0, 0, []), (143, .iload 6, 2, (6, 0, 0), 0, 0, []), (145, .bipush (15), 2, (0, 0, 0), 15, 0, []), (147, .iand, 1, (0, 0, 0), 0, 0, []), (148, .invokevirtual 97, 3, (16, 2, 1), 0, 0, []), (151, .goto (12), 3, (163, 0, 0), 0, 0, [])], 154),
  (154, [true, false, true, false, false, true, true], [(154, .aload_n 0, 1, (0, 0, 0), 0, 0, []), (155, .getfield 21, 3, (1, 4, 2), 0, 0, []), (158, .iload 6, 2, (6, 0, 0), 0, 0, []), (160, .invokevirtual 100, 3, (84, 2, 8), 0, 0, [])], 163),
  (163, [true, false, true, false, false, true, false], [(163, .iinc 5 (-1), 3, (5, 0, 0), -1, 0, []), (166, .goto (-50), 3, (116, 0, 0), 0, 0, [])], 169),
  (169, [false, false, false, false, false, false, false], [(169, .return_, 1, (0, 0, 0), 0, 0, [])], 170)]
def mp_15 : mj_M := (7, [], mb_15)
-- MacroPress$Arguments.putArgument(I)V
def mb_16 : List mj_B := [(0, [true, true, false], [(0, .aload_n 0, 1, (0, 0, 0), 0, 0, []), (1, .getfield 18, 3, (1, 2, 2), 0, 0, []), (4, .iload_n 1, 1, (1, 0, 0), 0, 0, []), (5, .iaload, 1, (0, 0, 0), 0, 0, []), (6, .iconst (1), 1, (0, 0, 0), 1, 0, []), (7, .isub, 1, (0, 0, 0), 0, 0, []), (8, .istore_n 2, 1, (2, 0, 0), 0, 0, [])], 9),
  (9, [true, true, true], [(9, .iload_n 2, 1, (2, 0, 0), 0, 0, []), (10, .aload_n 0, 1, (0, 0, 0), 0, 0, []), (11, .getfield 15, 3, (1, 1, 2), 0, 0, []), (14, .iload_n 1, 1, (1, 0, 0), 0, 0, []), (15, .iaload, 1, (0, 0, 0), 0, 0, []), (16, .if_icmp .lt (22), 3, (38, 0, 0), 0, 0, [])], 19),
  (19, [true, true, true], [(19, .aload_n 0, 1, (0, 0, 0), 0, 0, []), (20, .getfield 21, 3, (1, 4, 2), 0, 0, []), (23, .aload_n 0, 1, (0, 0, 0), 0, 0, []), (24, .getfield 11, 3, (1, 0, 2), 0, 0, []), (27, .iload_n 2, 1, (2, 0, 0), 0, 0, []), (28, .iaload, 1, (0, 0, 0), 0, 0, []), (29, .invokevirtual 100, 3, (84, 2, 8), 0, 0, []), (32, .iinc 2 (-1), 3, (2, 0, 0), -1, 0, []), (35, .goto (-26), 3, (9, 0, 0), 0, 0, [])], 38),
  (38, [false, false, false], [(38, .return_, 1, (0, 0, 0), 0, 0, [])], 39)]
def mp_16 : mj_M := (3, [], mb_16)
-- MacroPress$Conditions.<init>(LMacroPress$Source;LMacroPress$Store;LMacroPress$Progress;)V
def mb_17 : List mj_B := [(0, [true, true, true, true], [(0, .aload_n 0, 1, (0, 0, 0), 0, 0, []), (1, .invokespecial 3, 3, (0, 0, 1), 0, 0, []), (4, .aload_n 0, 1, (0, 0, 0), 0, 0, []), (5, .bipush (100), 2, (0, 0, 0), 100, 0, []), (7, .newarray .int, 2, (0, 0, 0), 0, 0, []), (9, .putfield 9, 3, (2, 0, 2), 0, 0, []), (12, .aload_n 0, 1, (0, 0, 0), 0, 0, []), (13, .bipush (100), 2, (0, 0, 0), 100, 0, []), (15, .newarray .boolean, 2, (0, 0, 3), 0, 0, []), (17, .putfield 15, 3, (2, 1, 2), 0, 0, []), (20, .aload_n 0, 1, (0, 0, 0), 0, 0, []), (21, .aload_n 1, 1, (1, 0, 0), 0, 0, []), (22, .putfield 19, 3, (2, 3, 2), 0, 0, []), (25, .aload_n 0, 1, (0, 0, 0), 0, 0, []), (26, .aload_n 2, 1, (2, 0, 0), 0, 0, []), (27, .putfield 23, 3, (2, 4, 2), 0, 0, []), (30, .aload_n 0, 1, (0, 0, 0), 0, 0, []), (31, .aload_n 3, 1, (3, 0, 0), 0, 0, []), (32, .putfield 27, 3, (2, 5, 2), 0, 0, []), (35, .return_, 1, (0, 0, 0), 0, 0, [])], 36)]
def mp_17 : mj_M := (4, [], mb_17)
-- MacroPress$Conditions.begin(Z)I
def mb_18 : List mj_B := [(0, [true, true], [(0, .aload_n 0, 1, (0, 0, 0), 0, 0, []), (1, .getfield 31, 3, (2, 2, 0), 0, 0, []), (4, .bipush (100), 2, (0, 0, 0), 100, 0, []), (6, .if_icmp .lt (12), 3, (18, 0, 0), 0, 0, [])], 9),
  (9, [true, true], [(9, .aload_n 0, 1, (0, 0, 0), 0, 0, []), (10, .getfield 27, 3, (2, 5, 2), 0, 0, []), (13, .iconst (2), 1, (0, 0, 0), 2, 0, []), (14, .invokevirtual 35, 3, (80, 2, 7), 0, 0, []), (17, .pop, 1, (0, 0, 0), 0, 0, [])], 18),
  (18, [true, true], [(18, .aload_n 0, 1, (0, 0, 0), 0, 0, []), (19, .getfield 9, 3, (2, 0, 2), 0, 0, []), (22, .aload_n 0, 1, (0, 0, 0), 0, 0, []), (23, .getfield 31, 3, (2, 2, 0), 0, 0, []), (26, .iconst (0), 1, (0, 0, 0), 0, 0, []), (27, .iastore, 1, (0, 0, 0), 0, 0, []), (28, .aload_n 0, 1, (0, 0, 0), 0, 0, []), (29, .getfield 15, 3, (2, 1, 2), 0, 0, []), (32, .aload_n 0, 1, (0, 0, 0), 0, 0, []), (33, .getfield 31, 3, (2, 2, 0), 0, 0, []), (36, .iload_n 1, 1, (1, 0, 0), 0, 0, []), (37, .bastore, 1, (0, 0, 3), 0, 0, []), (38, .aload_n 0, 1, (0, 0, 0), 0, 0, []), (39, .dup, 1, (0, 0, 0), 0, 0, []), (40, .getfield 31, 3, (2, 2, 0), 0, 0, []), (43, .iconst (1), 1, (0, 0, 0), 1, 0, []), (44, .iadd, 1, (0, 0, 0), 0, 0, []), (45, .putfield 31, 3, (2, 2, 0), 0, 0, []), (48, .aload_n 0, 1, (0, 0, 0), 0, 0, []), (49, .getfield 31, 3, (2, 2, 0), 0, 0, []), (52, .iconst (1), 1, (0, 0, 0), 1, 0, []), (53, .isub, 1, (0, 0, 0), 0, 0, []), (54, .ireturn, 1, (0, 0, 0), 0, 0, [])], 55)]
def mp_18 : mj_M := (2, [], mb_18)
-- MacroPress$Conditions.decide(II)V
def mb_19 : List mj_B := [(0, [true, true, true, false, false, false, false], [(0, .aload_n 0, 1, (0, 0, 0), 0, 0, []), (1, .getfield 9, 3, (2, 0, 2), 0, 0, []), (4, .iload_n 1, 1, (1, 0, 0), 0, 0, []), (5, .iconst (1), 1, (0, 0, 0), 1, 0, []), (6, .iastore, 1, (0, 0, 0), 0, 0, []), (7, .iload_n 2, 1, (2, 0, 0), 0, 0, []), (8, .istore_n 3, 1, (3, 0, 0), 0, 0, []), (9, .aload_n 0, 1, (0, 0, 0), 0, 0, []), (10, .getfield 31, 3, (2, 2, 0), 0, 0, []), (13, .iconst (1), 1, (0, 0, 0), 1, 0, []), (14, .isub, 1, (0, 0, 0), 0, 0, []), (15, .iload_n 1, 1, (1, 0, 0), 0, 0, []), (16, .isub, 1, (0, 0, 0), 0, 0, []), (17, .istore 4, 2, (4, 0, 0), 0, 0, []), (19, .iconst (0), 1, (0, 0, 0), 0, 0, []), (20, .istore 5, 2, (5, 0, 0), 0, 0, [])], 22),
  (22, [true, true, true, true, true, true, false], [(22, .iload 5, 2, (5, 0, 0), 0, 0, []), (24, .ldc 41, 2, (0, 0, 0), 1000000000, 0, []), (26, .if_icmp .ge (145), 3, (171, 0, 0), 0, 0, [])], 29),
  (29, [true, true, true, true, true, true, false], [(29, .iload_n 3, 1, (3, 0, 0), 0, 0, []), (30, .ifCond .eq (141), 3, (171, 0, 0), 0, 0, [])], 33),
  (33, [true, true, true, true, true, true, false], [(33, .aload_n 0, 1, (0, 0, 0), 0, 0, []), (34, .getfield 23, 3, (2, 4, 2), 0, 0, []), (37, .aload_n 0, 1, (0, 0, 0), 0, 0, []), (38, .getfield 19, 3, (2, 3, 2), 0, 0, []), (41, .iconst (0), 1, (0, 0, 0), 0, 0, []), (42, .invokevirtual 42, 3, (85, 2, 8), 0, 0, []), (45, .invokevirtual 48, 3, (97, 2, 9), 0, 0, []), (48, .istore 6, 2, (6, 0, 0), 0, 0, []), (50, .iload 6, 2, (6, 0, 0), 0, 0, []), (52, .bipush (8), 2, (0, 0, 0), 8, 0, []), (54, .if_icmp .lt (16), 3, (70, 0, 0), 0, 0, [])], 57),
  (57, [true, true, true, true, true, true, true], [(57, .iload 6, 2, (6, 0, 0), 0, 0, []), (59, .bipush (15), 2, (0, 0, 0), 15, 0, []), (61, .if_icmp .gt (9), 3, (70, 0, 0), 0, 0, [])], 64),
  (64, [true, true, true, true, true, true, false], [(64, .iinc 4 (1), 3, (4, 0, 0), 1, 0, []), (67, .goto (98), 3, (165, 0, 0), 0, 0, [])], 70),
  (70, [true, true, true, true, true, true, true], [(70, .iload 4, 2, (4, 0, 0), 0, 0, []), (72, .ifCond .le (23), 3, (95, 0, 0), 0, 0, [])], 75),
  (75, [true, true, true, true, true, true, true], [(75, .iload 4, 2, (4, 0, 0), 0, 0, []), (77, .iload 6, 2, (6, 0, 0), 0, 0, []), (79, .bipush (18), 2, (0, 0, 0), 18, 0, []), (81, .if_icmp .ne (7), 3, (88, 0, 0), 0, 0, [])], 84),
  (84, [true, true, true, true, false, true, false], [(84, .iconst (1), 1, (0, 0, 0), 1, 0, []), (85, .goto (4), 3, (89, 0, 0), 0, 0, [])], 88),
  (88, [true, true, true, true, false, true, false], [(88, .iconst (0), 1, (0, 0, 0), 0, 0, [])], 89),
  (89, [true, true, true, true, false, true, false], [(89, .isub, 1, (0, 0, 0), 0, 0, []), (90, .istore 4, 2, (4, 0, 0), 0, 0, []), (92, .goto (73), 3, (165, 0, 0), 0, 0, [])], 95),
  (95, [true, true, true, true, true, true, true], [(95, .iload 6, 2, (6, 0, 0), 0, 0, []), (97, .bipush (18), 2, (0, 0, 0), 18, 0, []), (99, .if_icmp .ne (9), 3, (108, 0, 0), 0, 0, [])], 102),
  (102, [true, true, false, false, false, false, false], [(102, .aload_n 0, 1, (0, 0, 0), 0, 0, []), (103, .iload_n 1, 1, (1, 0, 0), 0, 0, []), (104, .putfield 31, 3, (2, 2, 0), 0, 0, []), (107, .return_, 1, (0, 0, 0), 0, 0, [])], 108),
  (108, [true, true, true, true, true, true, true], [(108, .iload 6, 2, (6, 0, 0), 0, 0, []), (110, .bipush (16), 2, (0, 0, 0), 16, 0, []), (112, .if_icmp .ne (15), 3, (127, 0, 0), 0, 0, [])], 115),
  (115, [true, true, true, false, true, true, false], [(115, .aload_n 0, 1, (0, 0, 0), 0, 0, []), (116, .getfield 9, 3, (2, 0, 2), 0, 0, []), (119, .iload_n 1, 1, (1, 0, 0), 0, 0, []), (120, .iconst (2), 1, (0, 0, 0), 2, 0, []), (121, .iastore, 1, (0, 0, 0), 0, 0, []), (122, .iconst (0), 1, (0, 0, 0), 0, 0, []), (123, .istore_n 3, 1, (3, 0, 0), 0, 0, []), (124, .goto (41), 3, (165, 0, 0), 0, 0, [])], 127),
  (127, [true, true, true, true, true, true, true], [(127, .iload 6, 2, (6, 0, 0), 0, 0, []), (129, .bipush (17), 2, (0, 0, 0), 17, 0, []), (131, .if_icmp .ne (34), 3, (165, 0, 0), 0, 0, [])], 134),
  (134, [true, true, true, true, true, true, false], [(134, .aload_n 0, 1, (0, 0, 0), 0, 0, []), (135, .getfield 15, 3, (2, 1, 2), 0, 0, []), (138, .iload_n 1, 1, (1, 0, 0), 0, 0, []), (139, .baload, 1, (0, 0, 3), 0, 0, []), (140, .ifCond .ne (13), 3, (153, 0, 0), 0, 0, [])], 143),
  (143, [true, true, true, true, true, true, false], [(143, .aload_n 0, 1, (0, 0, 0), 0, 0, []), (144, .getfield 27, 3, (2, 5, 2), 0, 0, []), (147, .bipush (8), 2, (0, 0, 0), 8, 0, []), (149, .invokevirtual 35, 3, (80, 2, 7), 0, 0, []), (152, .pop, 1, (0, 0, 0), 0, 0, [])], 153),
  (153, [true, true, true, true, true, true, false], [(153, .iload_n 3, 1, (3, 0, 0), 0, 0, []), (154, .iload_n 3, 1, (3, 0, 0), 0, 0, []), (155, .ifCond .le (7), 3, (162, 0, 0), 0, 0, [])], 158),
  (158, [true, true, true, false, true, true, false], [(158, .iconst (1), 1, (0, 0, 0), 1, 0, []), (159, .goto (4), 3, (163, 0, 0), 0, 0, [])], 162),
  (162, [true, true, true, false, true, true, false], [(162, .iconst (0), 1, (0, 0, 0), 0, 0, [])], 163),
  (163, [true, true, true, false, true, true, false], [(163, .isub, 1, (0, 0, 0), 0, 0, []), (164, .istore_n 3, 1, (3, 0, 0), 0, 0, [])], 165),
  (165, [true, true, true, true, true, true, false], [(165, .iinc 5 (1), 3, (5, 0, 0), 1, 0, []), (168, .goto (-146), 3, (22, 0, 0), 0, 0, [])], 171),
  (171, [true, true, true, false, false, false, false], [(171, .aload_n 0, 1, (0, 0, 0), 0, 0, []), (172, .iload_n 2, 1, (2, 0, 0), 0, 0, []), (173, .ifCond .ne (10), 3, (183, 0, 0), 0, 0, [])], 176),
  (176, [true, false, false, false, false, false, false], [(176, .aload_n 0, 1, (0, 0, 0), 0, 0, []), (177, .getfield 31, 3, (2, 2, 0), 0, 0, []), (180, .goto (6), 3, (186, 0, 0), 0, 0, [])], 183),
  (183, [false, true, false, false, false, false, false], [(183, .iload_n 1, 1, (1, 0, 0), 0, 0, []), (184, .iconst (1), 1, (0, 0, 0), 1, 0, []), (185, .iadd, 1, (0, 0, 0), 0, 0, [])], 186),
  (186, [false, false, false, false, false, false, false], [(186, .putfield 31, 3, (2, 2, 0), 0, 0, []), (189, .return_, 1, (0, 0, 0), 0, 0, [])], 190)]
def mp_19 : mj_M := (7, [], mb_19)
-- MacroPress$Conditions.meet(II)V
def mb_20 : List mj_B := [(0, [true, true, true, false, false, false, false, false], [(0, .aload_n 0, 1, (0, 0, 0), 0, 0, []), (1, .getfield 31, 3, (2, 2, 0), 0, 0, []), (4, .ifCond .ne (13), 3, (17, 0, 0), 0, 0, [])], 7),
  (7, [true, true, true, false, false, false, false, false], [(7, .aload_n 0, 1, (0, 0, 0), 0, 0, []), (8, .getfield 27, 3, (2, 5, 2), 0, 0, []), (11, .bipush (8), 2, (0, 0, 0), 8, 0, []), (13, .invokevirtual 35, 3, (80, 2, 7), 0, 0, []), (16, .pop, 1, (0, 0, 0), 0, 0, [])], 17),
  (17, [true, true, true, false, false, false, false, false], [(17, .aload_n 0, 1, (0, 0, 0), 0, 0, []), (18, .getfield 31, 3, (2, 2, 0), 0, 0, []), (21, .iconst (1), 1, (0, 0, 0), 1, 0, []), (22, .isub, 1, (0, 0, 0), 0, 0, []), (23, .istore_n 3, 1, (3, 0, 0), 0, 0, []), (24, .aload_n 0, 1, (0, 0, 0), 0, 0, []), (25, .getfield 9, 3, (2, 0, 2), 0, 0, []), (28, .iload_n 3, 1, (3, 0, 0), 0, 0, []), (29, .iaload, 1, (0, 0, 0), 0, 0, []), (30, .ifCond .ne (21), 3, (51, 0, 0), 0, 0, [])], 33),
  (33, [true, false, true, false, false, false, false, false], [(33, .aload_n 0, 1, (0, 0, 0), 0, 0, []), (34, .getfield 19, 3, (2, 3, 2), 0, 0, []), (37, .iload_n 2, 1, (2, 0, 0), 0, 0, []), (38, .invokevirtual 53, 3, (84, 2, 8), 0, 0, []), (41, .aload_n 0, 1, (0, 0, 0), 0, 0, []), (42, .getfield 19, 3, (2, 3, 2), 0, 0, []), (45, .ldc 59, 2, (0, 0, 0), 1114130, 0, []), (47, .invokevirtual 53, 3, (84, 2, 8), 0, 0, []), (50, .return_, 1, (0, 0, 0), 0, 0, [])], 51),
  (51, [true, true, false, true, false, false, false, false], [(51, .iload_n 1, 1, (1, 0, 0), 0, 0, []), (52, .bipush (18), 2, (0, 0, 0), 18, 0, []), (54, .if_icmp .eq (17), 3, (71, 0, 0), 0, 0, [])], 57),
  (57, [true, true, false, true, false, false, false, false], [(57, .aload_n 0, 1, (0, 0, 0), 0, 0, []), (58, .getfield 9, 3, (2, 0, 2), 0, 0, []), (61, .iload_n 3, 1, (3, 0, 0), 0, 0, []), (62, .iaload, 1, (0, 0, 0), 0, 0, []), (63, .iconst (2), 1, (0, 0, 0), 2, 0, []), (64, .if_icmp .ne (7), 3, (71, 0, 0), 0, 0, [])], 67),
  (67, [true, true, false, true, false, false, false, false], [(67, .iconst (1), 1, (0, 0, 0), 1, 0, []), (68, .goto (4), 3, (72, 0, 0), 0, 0, [])], 71),
  (71, [true, true, false, true, false, false, false, false], [(71, .iconst (0), 1, (0, 0, 0), 0, 0, [])], 72),
  (72, [true, true, false, true, false, false, false, false], [(72, .istore 4, 2, (4, 0, 0), 0, 0, []), (74, .iload 4, 2, (4, 0, 0), 0, 0, []), (76, .ifCond .ne (18), 3, (94, 0, 0), 0, 0, [])], 79),
  (79, [true, true, false, true, false, false, false, false], [(79, .iload_n 1, 1, (1, 0, 0), 0, 0, []), (80, .bipush (17), 2, (0, 0, 0), 17, 0, []), (82, .if_icmp .ne (22), 3, (104, 0, 0), 0, 0, [])], 85),
  (85, [true, true, false, true, false, false, false, false], [(85, .aload_n 0, 1, (0, 0, 0), 0, 0, []), (86, .getfield 15, 3, (2, 1, 2), 0, 0, []), (89, .iload_n 3, 1, (3, 0, 0), 0, 0, []), (90, .baload, 1, (0, 0, 3), 0, 0, []), (91, .ifCond .ne (13), 3, (104, 0, 0), 0, 0, [])], 94),
  (94, [true, true, false, true, false, false, false, false], [(94, .aload_n 0, 1, (0, 0, 0), 0, 0, []), (95, .getfield 27, 3, (2, 5, 2), 0, 0, []), (98, .bipush (8), 2, (0, 0, 0), 8, 0, []), (100, .invokevirtual 35, 3, (80, 2, 7), 0, 0, []), (103, .pop, 1, (0, 0, 0), 0, 0, [])], 104),
  (104, [true, true, false, true, false, false, false, false], [(104, .iload_n 1, 1, (1, 0, 0), 0, 0, []), (105, .bipush (18), 2, (0, 0, 0), 18, 0, []), (107, .if_icmp .ne (7), 3, (114, 0, 0), 0, 0, [])], 110),
  (110, [true, false, false, true, false, false, false, false], [(110, .iconst (0), 1, (0, 0, 0), 0, 0, []), (111, .goto (4), 3, (115, 0, 0), 0, 0, [])], 114),
  (114, [true, false, false, true, false, false, false, false], [(114, .iconst (1), 1, (0, 0, 0), 1, 0, [])], 115),
  (115, [true, false, false, true, false, false, false, false], [(115, .istore 5, 2, (5, 0, 0), 0, 0, []), (117, .iconst (0), 1, (0, 0, 0), 0, 0, []), (118, .istore 6, 2, (6, 0, 0), 0, 0, [])], 120),
  (120, [true, false, false, true, false, true, true, false], [(120, .iload 6, 2, (6, 0, 0), 0, 0, []), (122, .ldc 41, 2, (0, 0, 0), 1000000000, 0, []), (124, .if_icmp .ge (61), 3, (185, 0, 0), 0, 0, [])], 127),
  (127, [true, false, false, true, false, true, true, false], [(127, .iload 5, 2, (5, 0, 0), 0, 0, []), (129, .ifCond .le (56), 3, (185, 0, 0), 0, 0, [])], 132),
  (132, [true, false, false, true, false, true, true, false], [(132, .aload_n 0, 1, (0, 0, 0), 0, 0, []), (133, .getfield 23, 3, (2, 4, 2), 0, 0, []), (136, .aload_n 0, 1, (0, 0, 0), 0, 0, []), (137, .getfield 19, 3, (2, 3, 2), 0, 0, []), (140, .iconst (0), 1, (0, 0, 0), 0, 0, []), (141, .invokevirtual 42, 3, (85, 2, 8), 0, 0, []), (144, .invokevirtual 48, 3, (97, 2, 9), 0, 0, []), (147, .istore 7, 2, (7, 0, 0), 0, 0, []), (149, .iload 7, 2, (7, 0, 0), 0, 0, []), (151, .bipush (8), 2, (0, 0, 0), 8, 0, []), (153, .if_icmp .lt (16), 3, (169, 0, 0), 0, 0, [])], 156),
  (156, [true, false, false, true, false, true, true, true], [(156, .iload 7, 2, (7, 0, 0), 0, 0, []), (158, .bipush (15), 2, (0, 0, 0), 15, 0, []), (160, .if_icmp .gt (9), 3, (169, 0, 0), 0, 0, [])], 163),
  (163, [true, false, false, true, false, true, true, false], [(163, .iinc 5 (1), 3, (5, 0, 0), 1, 0, []), (166, .goto (13), 3, (179, 0, 0), 0, 0, [])], 169),
  (169, [true, false, false, true, false, true, true, true], [(169, .iload 7, 2, (7, 0, 0), 0, 0, []), (171, .bipush (18), 2, (0, 0, 0), 18, 0, []), (173, .if_icmp .ne (6), 3, (179, 0, 0), 0, 0, [])], 176),
  (176, [true, false, false, true, false, true, true, false], [(176, .iinc 5 (-1), 3, (5, 0, 0), -1, 0, [])], 179),
  (179, [true, false, false, true, false, true, true, false], [(179, .iinc 6 (1), 3, (6, 0, 0), 1, 0, []), (182, .goto (-62), 3, (120, 0, 0), 0, 0, [])], 185),
  (185, [true, false, false, true, false, false, false, false], [(185, .aload_n 0, 1, (0, 0, 0), 0, 0, []), (186, .iload_n 3, 1, (3, 0, 0), 0, 0, []), (187, .putfield 31, 3, (2, 2, 0), 0, 0, []), (190, .return_, 1, (0, 0, 0), 0, 0, [])], 191)]
def mp_20 : mj_M := (8, [], mb_20)
-- MacroPress$Expander.<init>(LMacroPress$Source;LMacroPress$Names;LMacroPress$Store;LMacroPress$Macros;LMacroPress$Conditions;LMacroPress$Progress;)V
def mb_21 : List mj_B := [(0, [true, true, true, true, true, true, true], [(0, .aload_n 0, 1, (0, 0, 0), 0, 0, []), (1, .invokespecial 3, 3, (0, 0, 1), 0, 0, []), (4, .aload_n 0, 1, (0, 0, 0), 0, 0, []), (5, .sipush (1600), 3, (0, 0, 0), 1600, 0, []), (8, .newarray .int, 2, (0, 0, 0), 0, 0, []), (10, .putfield 9, 3, (3, 0, 2), 0, 0, []), (13, .aload_n 0, 1, (0, 0, 0), 0, 0, []), (14, .aload_n 1, 1, (1, 0, 0), 0, 0, []), (15, .putfield 15, 3, (3, 2, 2), 0, 0, []), (18, .aload_n 0, 1, (0, 0, 0), 0, 0, []), (19, .aload_n 2, 1, (2, 0, 0), 0, 0, []), (20, .putfield 19, 3, (3, 3, 2), 0, 0, []), (23, .aload_n 0, 1, (0, 0, 0), 0, 0, []), (24, .aload_n 3, 1, (3, 0, 0), 0, 0, []), (25, .putfield 23, 3, (3, 4, 2), 0, 0, []), (28, .aload_n 0, 1, (0, 0, 0), 0, 0, []), (29, .aload 4, 2, (4, 0, 0), 0, 0, []), (31, .putfield 27, 3, (3, 5, 2), 0, 0, []), (34, .aload_n 0, 1, (0, 0, 0), 0, 0, []), (35, .aload 5, 2, (5, 0, 0), 0, 0, []), (37, .putfield 31, 3, (3, 6, 2), 0, 0, []), (40, .aload_n 0, 1, (0, 0, 0), 0, 0, []), (41, .aload 6, 2, (6, 0, 0), 0, 0, []), (43, .putfield 35, 3, (3, 7, 2), 0, 0, []), (46, .aload_n 0, 1, (0, 0, 0), 0, 0, []), (47, .new 39, 3, (1, 7, 0), 0, 0, []), (50, .dup, 1, (0, 0, 0), 0, 0, []), (51, .aload_n 1, 1, (1, 0, 0), 0, 0, []), (52, .aload 4, 2, (4, 0, 0), 0, 0, []), (54, .aload 6, 2, (6, 0, 0), 0, 0, []), (56, .invokespecial 41, 3, (9, 4, 0), 0, 0, []), (59, .putfield 44, 3, (3, 8, 2), 0, 0, []), (62, .return_, 1, (0, 0, 0), 0, 0, [])], 63)]
def mp_21 : mj_M := (7, [], mb_21)
-- MacroPress$Expander.expanded(Z)I
def mb_22 : List mj_B := [(0, [true, true, false, false], [(0, .aload_n 0, 1, (0, 0, 0), 0, 0, []), (1, .getfield 15, 3, (3, 2, 2), 0, 0, []), (4, .iload_n 1, 1, (1, 0, 0), 0, 0, []), (5, .invokevirtual 48, 3, (85, 2, 8), 0, 0, []), (8, .istore_n 2, 1, (2, 0, 0), 0, 0, []), (9, .iconst (0), 1, (0, 0, 0), 0, 0, []), (10, .istore_n 3, 1, (3, 0, 0), 0, 0, [])], 11),
  (11, [true, true, true, true], [(11, .iload_n 3, 1, (3, 0, 0), 0, 0, []), (12, .sipush (30000), 3, (0, 0, 0), 30000, 0, []), (15, .if_icmp .gt (31), 3, (46, 0, 0), 0, 0, [])], 18),
  (18, [true, true, true, true], [(18, .aload_n 0, 1, (0, 0, 0), 0, 0, []), (19, .iload_n 2, 1, (2, 0, 0), 0, 0, []), (20, .invokevirtual 54, 3, (24, 2, 3), 0, 0, []), (23, .ifCond .eq (23), 3, (46, 0, 0), 0, 0, [])], 26),
  (26, [true, true, true, true], [(26, .aload_n 0, 1, (0, 0, 0), 0, 0, []), (27, .iload_n 2, 1, (2, 0, 0), 0, 0, []), (28, .invokevirtual 58, 3, (25, 2, 3), 0, 0, []), (31, .aload_n 0, 1, (0, 0, 0), 0, 0, []), (32, .getfield 15, 3, (3, 2, 2), 0, 0, []), (35, .iload_n 1, 1, (1, 0, 0), 0, 0, []), (36, .invokevirtual 48, 3, (85, 2, 8), 0, 0, []), (39, .istore_n 2, 1, (2, 0, 0), 0, 0, []), (40, .iinc 3 (1), 3, (3, 0, 0), 1, 0, []), (43, .goto (-32), 3, (11, 0, 0), 0, 0, [])], 46),
  (46, [false, false, true, false], [(46, .iload_n 2, 1, (2, 0, 0), 0, 0, []), (47, .ireturn, 1, (0, 0, 0), 0, 0, [])], 48)]
def mp_22 : mj_M := (4, [], mb_22)
-- MacroPress$Expander.expandedBehindSpaces()I
def mb_23 : List mj_B := [(0, [true, false, false], [(0, .aload_n 0, 1, (0, 0, 0), 0, 0, []), (1, .iconst (0), 1, (0, 0, 0), 0, 0, []), (2, .invokevirtual 62, 3, (22, 2, 3), 0, 0, []), (5, .istore_n 1, 1, (1, 0, 0), 0, 0, []), (6, .iconst (0), 1, (0, 0, 0), 0, 0, []), (7, .istore_n 2, 1, (2, 0, 0), 0, 0, [])], 8),
  (8, [true, true, true], [(8, .iload_n 2, 1, (2, 0, 0), 0, 0, []), (9, .ldc 65, 2, (0, 0, 0), 1000000000, 0, []), (11, .if_icmp .ge (22), 3, (33, 0, 0), 0, 0, [])], 14),
  (14, [true, true, true], [(14, .iload_n 1, 1, (1, 0, 0), 0, 0, []), (15, .invokestatic 66, 3, (190, 1, 0), 0, 0, []), (18, .ifCond .eq (15), 3, (33, 0, 0), 0, 0, [])], 21),
  (21, [true, false, true], [(21, .aload_n 0, 1, (0, 0, 0), 0, 0, []), (22, .iconst (0), 1, (0, 0, 0), 0, 0, []), (23, .invokevirtual 62, 3, (22, 2, 3), 0, 0, []), (26, .istore_n 1, 1, (1, 0, 0), 0, 0, []), (27, .iinc 2 (1), 3, (2, 0, 0), 1, 0, []), (30, .goto (-22), 3, (8, 0, 0), 0, 0, [])], 33),
  (33, [false, true, false], [(33, .iload_n 1, 1, (1, 0, 0), 0, 0, []), (34, .ireturn, 1, (0, 0, 0), 0, 0, [])], 35)]
def mp_23 : mj_M := (3, [], mb_23)
-- MacroPress$Expander.isExpandable(I)Z
def mb_24 : List mj_B := [(0, [true, true], [(0, .iload_n 1, 1, (1, 0, 0), 0, 0, []), (1, .iconst (-1), 1, (0, 0, 0), -1, 0, []), (2, .if_icmp .eq (21), 3, (23, 0, 0), 0, 0, [])], 5),
  (5, [true, true], [(5, .aload_n 0, 1, (0, 0, 0), 0, 0, []), (6, .getfield 23, 3, (3, 4, 2), 0, 0, []), (9, .iload_n 1, 1, (1, 0, 0), 0, 0, []), (10, .invokevirtual 71, 3, (96, 2, 9), 0, 0, []), (13, .invokestatic 77, 3, (95, 1, 0), 0, 0, []), (16, .ifCond .eq (7), 3, (23, 0, 0), 0, 0, [])], 19),
  (19, [false, false], [(19, .iconst (1), 1, (0, 0, 0), 1, 0, []), (20, .goto (4), 3, (24, 0, 0), 0, 0, [])], 23),
  (23, [false, false], [(23, .iconst (0), 1, (0, 0, 0), 0, 0, [])], 24),
  (24, [false, false], [(24, .ireturn, 1, (0, 0, 1), 0, 0, [])], 25)]
def mp_24 : mj_M := (2, [], mb_24)
-- MacroPress$Expander.expand(I)V
def mb_25 : List mj_B := [(0, [true, true, false], [(0, .aload_n 0, 1, (0, 0, 0), 0, 0, []), (1, .getfield 35, 3, (3, 7, 2), 0, 0, []), (4, .invokevirtual 78, 3, (77, 1, 7), 0, 0, []), (7, .aload_n 0, 1, (0, 0, 0), 0, 0, []), (8, .getfield 35, 3, (3, 7, 2), 0, 0, []), (11, .invokevirtual 83, 3, (78, 1, 7), 0, 0, []), (14, .aload_n 0, 1, (0, 0, 0), 0, 0, []), (15, .getfield 23, 3, (3, 4, 2), 0, 0, []), (18, .iload_n 1, 1, (1, 0, 0), 0, 0, []), (19, .invokevirtual 71, 3, (96, 2, 9), 0, 0, []), (22, .istore_n 2, 1, (2, 0, 0), 0, 0, []), (23, .iload_n 2, 1, (2, 0, 0), 0, 0, []), (24, .invokestatic 86, 3, (93, 1, 0), 0, 0, []), (27, .iconst (2), 1, (0, 0, 0), 2, 0, []), (28, .if_icmp .ne (28), 3, (56, 0, 0), 0, 0, [])], 31),
  (31, [true, false, true], [(31, .aload_n 0, 1, (0, 0, 0), 0, 0, []), (32, .getfield 44, 3, (3, 8, 2), 0, 0, []), (35, .iload_n 2, 1, (2, 0, 0), 0, 0, []), (36, .invokestatic 89, 3, (94, 1, 0), 0, 0, []), (39, .invokevirtual 92, 3, (10, 2, 1), 0, 0, []), (42, .aload_n 0, 1, (0, 0, 0), 0, 0, []), (43, .getfield 44, 3, (3, 8, 2), 0, 0, []), (46, .iload_n 2, 1, (2, 0, 0), 0, 0, []), (47, .invokestatic 89, 3, (94, 1, 0), 0, 0, []), (50, .invokevirtual 95, 3, (15, 2, 1), 0, 0, []), (53, .goto (12), 3, (65, 0, 0), 0, 0, [])], 56),
  (56, [true, true, true], [(56, .aload_n 0, 1, (0, 0, 0), 0, 0, []), (57, .iload_n 2, 1, (2, 0, 0), 0, 0, []), (58, .invokestatic 89, 3, (94, 1, 0), 0, 0, []), (61, .iload_n 1, 1, (1, 0, 0), 0, 0, []), (62, .invokevirtual 98, 3, (26, 3, 3), 0, 0, [])], 65),
  (65, [true, false, false], [(65, .aload_n 0, 1, (0, 0, 0), 0, 0, []), (66, .getfield 35, 3, (3, 7, 2), 0, 0, []), (69, .invokevirtual 102, 3, (79, 1, 7), 0, 0, []), (72, .aload_n 0, 1, (0, 0, 0), 0, 0, []), (73, .getfield 15, 3, (3, 2, 2), 0, 0, []), (76, .getfield 105, 3, (8, 8, 0), 0, 0, []), (79, .sipush (10000), 3, (0, 0, 0), 10000, 0, []), (82, .if_icmp .le (12), 3, (94, 0, 0), 0, 0, [])], 85),
  (85, [true, false, false], [(85, .aload_n 0, 1, (0, 0, 0), 0, 0, []), (86, .getfield 35, 3, (3, 7, 2), 0, 0, []), (89, .iconst (2), 1, (0, 0, 0), 2, 0, []), (90, .invokevirtual 109, 3, (80, 2, 7), 0, 0, []), (93, .pop, 1, (0, 0, 0), 0, 0, [])], 94),
  (94, [false, false, false], [(94, .return_, 1, (0, 0, 0), 0, 0, [])], 95)]
def mp_25 : mj_M := (3, [], mb_25)
-- MacroPress$Expander.expandPrimitive(II)V
def mb_26 : List mj_B := [(0, [true, true, true, false, false], [(0, .iload_n 1, 1, (1, 0, 0), 0, 0, []), (1, .tableswitch (201) (1) (18) #[87, 94, 129, 136, 151, 162, 173, 201, 201, 201, 201, 201, 201, 201, 201, 189, 189, 189], 87, (202, 0, 0), 0, 0, [(1, 88), (2, 95), (3, 130), (4, 137), (5, 152), (6, 163), (7, 174), (8, 202), (9, 202), (10, 202), (11, 202), (12, 202), (13, 202), (14, 202), (15, 202), (16, 190), (17, 190), (18, 190)])], 88),
  (88, [true, false, false, false, false], [(88, .aload_n 0, 1, (0, 0, 0), 0, 0, []), (89, .invokevirtual 112, 3, (27, 1, 3), 0, 0, []), (92, .goto (165), 3, (257, 0, 0), 0, 0, [])], 95),
  (95, [true, false, false, false, false], [(95, .aload_n 0, 1, (0, 0, 0), 0, 0, []), (96, .getfield 15, 3, (3, 2, 2), 0, 0, []), (99, .iconst (0), 1, (0, 0, 0), 0, 0, []), (100, .invokevirtual 48, 3, (85, 2, 8), 0, 0, []), (103, .istore_n 3, 1, (3, 0, 0), 0, 0, []), (104, .aload_n 0, 1, (0, 0, 0), 0, 0, []), (105, .getfield 15, 3, (3, 2, 2), 0, 0, []), (108, .aload_n 0, 1, (0, 0, 0), 0, 0, []), (109, .iload_n 3, 1, (3, 0, 0), 0, 0, []), (110, .invokevirtual 54, 3, (24, 2, 3), 0, 0, []), (113, .ifCond .eq (10), 3, (123, 0, 0), 0, 0, [])], 116),
  (116, [false, false, false, true, false], [(116, .iload_n 3, 1, (3, 0, 0), 0, 0, []), (117, .ldc 115, 2, (0, 0, 0), 1048576, 0, []), (119, .ior, 1, (0, 0, 0), 0, 0, []), (120, .goto (4), 3, (124, 0, 0), 0, 0, [])], 123),
  (123, [false, false, false, true, false], [(123, .iload_n 3, 1, (3, 0, 0), 0, 0, [])], 124),
  (124, [false, false, false, false, false], [(124, .invokevirtual 116, 3, (84, 2, 8), 0, 0, []), (127, .goto (130), 3, (257, 0, 0), 0, 0, [])], 130),
  (130, [true, false, false, false, false], [(130, .aload_n 0, 1, (0, 0, 0), 0, 0, []), (131, .invokevirtual 119, 3, (28, 1, 3), 0, 0, []), (134, .goto (123), 3, (257, 0, 0), 0, 0, [])], 137),
  (137, [true, false, false, false, false], [(137, .aload_n 0, 1, (0, 0, 0), 0, 0, []), (138, .aload_n 0, 1, (0, 0, 0), 0, 0, []), (139, .getfield 15, 3, (3, 2, 2), 0, 0, []), (142, .iconst (0), 1, (0, 0, 0), 0, 0, []), (143, .invokevirtual 48, 3, (85, 2, 8), 0, 0, []), (146, .invokevirtual 122, 3, (29, 2, 3), 0, 0, []), (149, .goto (108), 3, (257, 0, 0), 0, 0, [])], 152),
  (152, [true, false, false, false, false], [(152, .aload_n 0, 1, (0, 0, 0), 0, 0, []), (153, .aload_n 0, 1, (0, 0, 0), 0, 0, []), (154, .invokevirtual 125, 3, (38, 1, 3), 0, 0, []), (157, .invokevirtual 129, 3, (31, 2, 3), 0, 0, []), (160, .goto (97), 3, (257, 0, 0), 0, 0, [])], 163),
  (163, [true, false, false, false, false], [(163, .aload_n 0, 1, (0, 0, 0), 0, 0, []), (164, .aload_n 0, 1, (0, 0, 0), 0, 0, []), (165, .invokevirtual 125, 3, (38, 1, 3), 0, 0, []), (168, .invokevirtual 132, 3, (32, 2, 3), 0, 0, []), (171, .goto (86), 3, (257, 0, 0), 0, 0, [])], 174),
  (174, [true, false, false, false, false], [(174, .aload_n 0, 1, (0, 0, 0), 0, 0, []), (175, .aload_n 0, 1, (0, 0, 0), 0, 0, []), (176, .aload_n 0, 1, (0, 0, 0), 0, 0, []), (177, .iconst (0), 1, (0, 0, 0), 0, 0, []), (178, .invokevirtual 62, 3, (22, 2, 3), 0, 0, []), (181, .invokevirtual 135, 3, (43, 2, 3), 0, 0, []), (184, .invokevirtual 129, 3, (31, 2, 3), 0, 0, []), (187, .goto (70), 3, (257, 0, 0), 0, 0, [])], 190),
  (190, [true, true, true, false, false], [(190, .aload_n 0, 1, (0, 0, 0), 0, 0, []), (191, .getfield 31, 3, (3, 6, 2), 0, 0, []), (194, .iload_n 1, 1, (1, 0, 0), 0, 0, []), (195, .iload_n 2, 1, (2, 0, 0), 0, 0, []), (196, .invokevirtual 138, 3, (20, 3, 2), 0, 0, []), (199, .goto (58), 3, (257, 0, 0), 0, 0, [])], 202),
  (202, [true, true, false, false, false], [(202, .aload_n 0, 1, (0, 0, 0), 0, 0, []), (203, .getfield 31, 3, (3, 6, 2), 0, 0, []), (206, .iload_n 1, 1, (1, 0, 0), 0, 0, []), (207, .bipush (15), 2, (0, 0, 0), 15, 0, []), (209, .if_icmp .ne (7), 3, (216, 0, 0), 0, 0, [])], 212),
  (212, [true, true, false, false, false], [(212, .iconst (1), 1, (0, 0, 0), 1, 0, []), (213, .goto (4), 3, (217, 0, 0), 0, 0, [])], 216),
  (216, [true, true, false, false, false], [(216, .iconst (0), 1, (0, 0, 0), 0, 0, [])], 217),
  (217, [true, true, false, false, false], [(217, .invokevirtual 143, 3, (18, 2, 2), 0, 0, []), (220, .istore 4, 2, (4, 0, 0), 0, 0, []), (222, .aload_n 0, 1, (0, 0, 0), 0, 0, []), (223, .getfield 31, 3, (3, 6, 2), 0, 0, []), (226, .iload 4, 2, (4, 0, 0), 0, 0, []), (228, .iload_n 1, 1, (1, 0, 0), 0, 0, []), (229, .bipush (15), 2, (0, 0, 0), 15, 0, []), (231, .if_icmp .ne (10), 3, (241, 0, 0), 0, 0, [])], 234),
  (234, [true, false, false, false, false], [(234, .aload_n 0, 1, (0, 0, 0), 0, 0, []), (235, .invokevirtual 125, 3, (38, 1, 3), 0, 0, []), (238, .goto (16), 3, (254, 0, 0), 0, 0, [])], 241),
  (241, [true, true, false, false, false], [(241, .aload_n 0, 1, (0, 0, 0), 0, 0, []), (242, .iload_n 1, 1, (1, 0, 0), 0, 0, []), (243, .invokevirtual 146, 3, (34, 2, 3), 0, 0, []), (246, .ifCond .eq (7), 3, (253, 0, 0), 0, 0, [])], 249),
  (249, [false, false, false, false, false], [(249, .iconst (0), 1, (0, 0, 0), 0, 0, []), (250, .goto (4), 3, (254, 0, 0), 0, 0, [])], 253),
  (253, [false, false, false, false, false], [(253, .iconst (-1), 1, (0, 0, 0), -1, 0, [])], 254),
  (254, [false, false, false, false, false], [(254, .invokevirtual 149, 3, (19, 3, 2), 0, 0, [])], 257),
  (257, [false, false, false, false, false], [(257, .return_, 1, (0, 0, 0), 0, 0, [])], 258)]
def mp_26 : mj_M := (5, [], mb_26)
-- MacroPress$Expander.expandAfter()V
def mb_27 : List mj_B := [(0, [true, false, false], [(0, .aload_n 0, 1, (0, 0, 0), 0, 0, []), (1, .getfield 15, 3, (3, 2, 2), 0, 0, []), (4, .iconst (0), 1, (0, 0, 0), 0, 0, []), (5, .invokevirtual 48, 3, (85, 2, 8), 0, 0, []), (8, .istore_n 1, 1, (1, 0, 0), 0, 0, []), (9, .aload_n 0, 1, (0, 0, 0), 0, 0, []), (10, .getfield 15, 3, (3, 2, 2), 0, 0, []), (13, .iconst (0), 1, (0, 0, 0), 0, 0, []), (14, .invokevirtual 48, 3, (85, 2, 8), 0, 0, []), (17, .istore_n 2, 1, (2, 0, 0), 0, 0, []), (18, .aload_n 0, 1, (0, 0, 0), 0, 0, []), (19, .iload_n 2, 1, (2, 0, 0), 0, 0, []), (20, .invokevirtual 54, 3, (24, 2, 3), 0, 0, []), (23, .ifCond .eq (11), 3, (34, 0, 0), 0, 0, [])], 26),
  (26, [true, true, true], [(26, .aload_n 0, 1, (0, 0, 0), 0, 0, []), (27, .iload_n 2, 1, (2, 0, 0), 0, 0, []), (28, .invokevirtual 58, 3, (25, 2, 3), 0, 0, []), (31, .goto (11), 3, (42, 0, 0), 0, 0, [])], 34),
  (34, [true, true, true], [(34, .aload_n 0, 1, (0, 0, 0), 0, 0, []), (35, .getfield 15, 3, (3, 2, 2), 0, 0, []), (38, .iload_n 2, 1, (2, 0, 0), 0, 0, []), (39, .invokevirtual 116, 3, (84, 2, 8), 0, 0, [])], 42),
  (42, [true, true, false], [(42, .aload_n 0, 1, (0, 0, 0), 0, 0, []), (43, .getfield 15, 3, (3, 2, 2), 0, 0, []), (46, .iload_n 1, 1, (1, 0, 0), 0, 0, []), (47, .invokevirtual 116, 3, (84, 2, 8), 0, 0, []), (50, .return_, 1, (0, 0, 0), 0, 0, [])], 51)]
def mp_27 : mj_M := (3, [], mb_27)
-- MacroPress$Expander.makeName()V
def mb_28 : List mj_B := [(0, [true, false, false, false], [(0, .aload_n 0, 1, (0, 0, 0), 0, 0, []), (1, .getfield 152, 3, (3, 1, 0), 0, 0, []), (4, .istore_n 1, 1, (1, 0, 0), 0, 0, []), (5, .aload_n 0, 1, (0, 0, 0), 0, 0, []), (6, .iconst (0), 1, (0, 0, 0), 0, 0, []), (7, .invokevirtual 62, 3, (22, 2, 3), 0, 0, []), (10, .istore_n 2, 1, (2, 0, 0), 0, 0, []), (11, .iconst (0), 1, (0, 0, 0), 0, 0, []), (12, .istore_n 3, 1, (3, 0, 0), 0, 0, [])], 13),
  (13, [true, true, true, true], [(13, .iload_n 3, 1, (3, 0, 0), 0, 0, []), (14, .bipush (40), 2, (0, 0, 0), 40, 0, []), (16, .if_icmp .gt (96), 3, (112, 0, 0), 0, 0, [])], 19),
  (19, [true, true, true, true], [(19, .aload_n 0, 1, (0, 0, 0), 0, 0, []), (20, .getfield 23, 3, (3, 4, 2), 0, 0, []), (23, .iload_n 2, 1, (2, 0, 0), 0, 0, []), (24, .invokevirtual 155, 3, (97, 2, 9), 0, 0, []), (27, .bipush (23), 2, (0, 0, 0), 23, 0, []), (29, .if_icmp .eq (83), 3, (112, 0, 0), 0, 0, [])], 32),
  (32, [true, true, true, true], [(32, .iload_n 2, 1, (2, 0, 0), 0, 0, []), (33, .invokestatic 158, 3, (188, 1, 0), 0, 0, []), (36, .ifCond .ne (13), 3, (49, 0, 0), 0, 0, [])], 39),
  (39, [true, true, true, true], [(39, .aload_n 0, 1, (0, 0, 0), 0, 0, []), (40, .getfield 35, 3, (3, 7, 2), 0, 0, []), (43, .bipush (6), 2, (0, 0, 0), 6, 0, []), (45, .invokevirtual 109, 3, (80, 2, 7), 0, 0, []), (48, .pop, 1, (0, 0, 0), 0, 0, [])], 49),
  (49, [true, true, true, true], [(49, .iload_n 3, 1, (3, 0, 0), 0, 0, []), (50, .bipush (40), 2, (0, 0, 0), 40, 0, []), (52, .if_icmp .eq (15), 3, (67, 0, 0), 0, 0, [])], 55),
  (55, [true, true, true, true], [(55, .aload_n 0, 1, (0, 0, 0), 0, 0, []), (56, .getfield 152, 3, (3, 1, 0), 0, 0, []), (59, .aload_n 0, 1, (0, 0, 0), 0, 0, []), (60, .getfield 9, 3, (3, 0, 2), 0, 0, []), (63, .arraylength, 1, (0, 0, 0), 0, 0, []), (64, .if_icmp .lt (12), 3, (76, 0, 0), 0, 0, [])], 67),
  (67, [true, true, true, true], [(67, .aload_n 0, 1, (0, 0, 0), 0, 0, []), (68, .getfield 35, 3, (3, 7, 2), 0, 0, []), (71, .iconst (2), 1, (0, 0, 0), 2, 0, []), (72, .invokevirtual 109, 3, (80, 2, 7), 0, 0, []), (75, .pop, 1, (0, 0, 0), 0, 0, [])], 76),
  (76, [true, true, true, true], [(76, .aload_n 0, 1, (0, 0, 0), 0, 0, []), (77, .getfield 9, 3, (3, 0, 2), 0, 0, []), (80, .aload_n 0, 1, (0, 0, 0), 0, 0, []), (81, .getfield 152, 3, (3, 1, 0), 0, 0, []), (84, .iload_n 2, 1, (2, 0, 0), 0, 0, []), (85, .sipush (255), 3, (0, 0, 0), 255, 0, []), (88, .iand, 1, (0, 0, 0), 0, 0, []), (89, .iastore, 1, (0, 0, 0), 0, 0, []), (90, .aload_n 0, 1, (0, 0, 0), 0, 0, []), (91, .dup, 1, (0, 0, 0), 0, 0, []), (92, .getfield 152, 3, (3, 1, 0), 0, 0, []), (95, .iconst (1), 1, (0, 0, 0), 1, 0, []), (96, .iadd, 1, (0, 0, 0), 0, 0, []), (97, .putfield 152, 3, (3, 1, 0), 0, 0, []), (100, .aload_n 0, 1, (0, 0, 0), 0, 0, []), (101, .iconst (0), 1, (0, 0, 0), 0, 0, []), (102, .invokevirtual 62, 3, (22, 2, 3), 0, 0, []), (105, .istore_n 2, 1, (2, 0, 0), 0, 0, []), (106, .iinc 3 (1), 3, (3, 0, 0), 1, 0, []), (109, .goto (-96), 3, (13, 0, 0), 0, 0, [])], 112),
  (112, [true, true, false, false], [(112, .aload_n 0, 1, (0, 0, 0), 0, 0, []), (113, .getfield 19, 3, (3, 3, 2), 0, 0, []), (116, .aload_n 0, 1, (0, 0, 0), 0, 0, []), (117, .getfield 9, 3, (3, 0, 2), 0, 0, []), (120, .iload_n 1, 1, (1, 0, 0), 0, 0, []), (121, .aload_n 0, 1, (0, 0, 0), 0, 0, []), (122, .getfield 152, 3, (3, 1, 0), 0, 0, []), (125, .iload_n 1, 1, (1, 0, 0), 0, 0, []), (126, .isub, 1, (0, 0, 0), 0, 0, []), (127, .invokevirtual 161, 3, (57, 4, 5), 0, 0, []), (130, .istore_n 3, 1, (3, 0, 0), 0, 0, []), (131, .aload_n 0, 1, (0, 0, 0), 0, 0, []), (132, .iload_n 1, 1, (1, 0, 0), 0, 0, []), (133, .putfield 152, 3, (3, 1, 0), 0, 0, []), (136, .iload_n 3, 1, (3, 0, 0), 0, 0, []), (137, .ifCond .ge (12), 3, (149, 0, 0), 0, 0, [])], 140),
  (140, [true, false, false, true], [(140, .aload_n 0, 1, (0, 0, 0), 0, 0, []), (141, .getfield 35, 3, (3, 7, 2), 0, 0, []), (144, .iconst (2), 1, (0, 0, 0), 2, 0, []), (145, .invokevirtual 109, 3, (80, 2, 7), 0, 0, []), (148, .pop, 1, (0, 0, 0), 0, 0, [])], 149),
  (149, [true, false, false, true], [(149, .aload_n 0, 1, (0, 0, 0), 0, 0, []), (150, .getfield 23, 3, (3, 4, 2), 0, 0, []), (153, .getfield 167, 3, (9, 0, 2), 0, 0, []), (156, .sipush (768), 3, (0, 0, 0), 768, 0, []), (159, .iload_n 3, 1, (3, 0, 0), 0, 0, []), (160, .iadd, 1, (0, 0, 0), 0, 0, []), (161, .iaload, 1, (0, 0, 0), 0, 0, []), (162, .ifCond .ne (22), 3, (184, 0, 0), 0, 0, [])], 165),
  (165, [true, false, false, true], [(165, .aload_n 0, 1, (0, 0, 0), 0, 0, []), (166, .getfield 23, 3, (3, 4, 2), 0, 0, []), (169, .sipush (768), 3, (0, 0, 0), 768, 0, []), (172, .iload_n 3, 1, (3, 0, 0), 0, 0, []), (173, .iadd, 1, (0, 0, 0), 0, 0, []), (174, .iconst (1), 1, (0, 0, 0), 1, 0, []), (175, .bipush (19), 2, (0, 0, 0), 19, 0, []), (177, .invokestatic 170, 3, (92, 2, 0), 0, 0, []), (180, .iconst (0), 1, (0, 0, 0), 0, 0, []), (181, .invokevirtual 174, 3, (98, 4, 9), 0, 0, [])], 184),
  (184, [true, false, false, true], [(184, .aload_n 0, 1, (0, 0, 0), 0, 0, []), (185, .getfield 15, 3, (3, 2, 2), 0, 0, []), (188, .ldc 178, 2, (0, 0, 0), 65536, 0, []), (190, .iload_n 3, 1, (3, 0, 0), 0, 0, []), (191, .iadd, 1, (0, 0, 0), 0, 0, []), (192, .invokevirtual 116, 3, (84, 2, 8), 0, 0, []), (195, .return_, 1, (0, 0, 0), 0, 0, [])], 196)]
def mp_28 : mj_M := (4, [], mb_28)
-- MacroPress$Expander.putString(I)V
def mb_29 : List mj_B := [(0, [true, true, false, false], [(0, .iload_n 1, 1, (1, 0, 0), 0, 0, []), (1, .invokestatic 179, 3, (186, 1, 0), 0, 0, []), (4, .ifCond .ne (13), 3, (17, 0, 0), 0, 0, [])], 7),
  (7, [true, true, false, false], [(7, .aload_n 0, 1, (0, 0, 0), 0, 0, []), (8, .iload_n 1, 1, (1, 0, 0), 0, 0, []), (9, .sipush (255), 3, (0, 0, 0), 255, 0, []), (12, .iand, 1, (0, 0, 0), 0, 0, []), (13, .invokevirtual 182, 3, (30, 2, 3), 0, 0, []), (16, .return_, 1, (0, 0, 0), 0, 0, [])], 17),
  (17, [true, true, false, false], [(17, .iload_n 1, 1, (1, 0, 0), 0, 0, []), (18, .ldc 185, 2, (0, 0, 0), 65535, 0, []), (20, .iand, 1, (0, 0, 0), 0, 0, []), (21, .istore_n 2, 1, (2, 0, 0), 0, 0, []), (22, .aload_n 0, 1, (0, 0, 0), 0, 0, []), (23, .getfield 19, 3, (3, 3, 2), 0, 0, []), (26, .getfield 186, 3, (5, 1, 2), 0, 0, []), (29, .iload_n 2, 1, (2, 0, 0), 0, 0, []), (30, .iconst (1), 1, (0, 0, 0), 1, 0, []), (31, .iadd, 1, (0, 0, 0), 0, 0, []), (32, .iaload, 1, (0, 0, 0), 0, 0, []), (33, .iconst (1), 1, (0, 0, 0), 1, 0, []), (34, .isub, 1, (0, 0, 0), 0, 0, []), (35, .istore_n 3, 1, (3, 0, 0), 0, 0, [])], 36),
  (36, [true, false, true, true], [(36, .iload_n 3, 1, (3, 0, 0), 0, 0, []), (37, .aload_n 0, 1, (0, 0, 0), 0, 0, []), (38, .getfield 19, 3, (3, 3, 2), 0, 0, []), (41, .getfield 186, 3, (5, 1, 2), 0, 0, []), (44, .iload_n 2, 1, (2, 0, 0), 0, 0, []), (45, .iaload, 1, (0, 0, 0), 0, 0, []), (46, .if_icmp .lt (22), 3, (68, 0, 0), 0, 0, [])], 49),
  (49, [true, false, true, true], [(49, .aload_n 0, 1, (0, 0, 0), 0, 0, []), (50, .aload_n 0, 1, (0, 0, 0), 0, 0, []), (51, .getfield 19, 3, (3, 3, 2), 0, 0, []), (54, .getfield 189, 3, (5, 0, 2), 0, 0, []), (57, .iload_n 3, 1, (3, 0, 0), 0, 0, []), (58, .caload, 1, (0, 0, 0), 0, 0, []), (59, .invokevirtual 182, 3, (30, 2, 3), 0, 0, []), (62, .iinc 3 (-1), 3, (3, 0, 0), -1, 0, []), (65, .goto (-29), 3, (36, 0, 0), 0, 0, [])], 68),
  (68, [true, false, false, false], [(68, .aload_n 0, 1, (0, 0, 0), 0, 0, []), (69, .bipush (92), 2, (0, 0, 0), 92, 0, []), (71, .invokevirtual 182, 3, (30, 2, 3), 0, 0, []), (74, .return_, 1, (0, 0, 0), 0, 0, [])], 75)]
def mp_29 : mj_M := (4, [], mb_29)
-- MacroPress$Expander.putCharacter(I)V
def mb_30 : List mj_B := [(0, [true, true], [(0, .aload_n 0, 1, (0, 0, 0), 0, 0, []), (1, .getfield 15, 3, (3, 2, 2), 0, 0, []), (4, .iload_n 1, 1, (1, 0, 0), 0, 0, []), (5, .bipush (32), 2, (0, 0, 0), 32, 0, []), (7, .if_icmp .ne (9), 3, (16, 0, 0), 0, 0, [])], 10),
  (10, [false, false], [(10, .sipush (2592), 3, (0, 0, 0), 2592, 0, []), (13, .goto (8), 3, (21, 0, 0), 0, 0, [])], 16),
  (16, [false, true], [(16, .sipush (3072), 3, (0, 0, 0), 3072, 0, []), (19, .iload_n 1, 1, (1, 0, 0), 0, 0, []), (20, .iadd, 1, (0, 0, 0), 0, 0, [])], 21),
  (21, [false, false], [(21, .invokevirtual 116, 3, (84, 2, 8), 0, 0, []), (24, .return_, 1, (0, 0, 0), 0, 0, [])], 25)]
def mp_30 : mj_M := (2, [], mb_30)
-- MacroPress$Expander.putNumber(I)V
def mb_31 : List mj_B := [(0, [true, true, false, false], [(0, .iload_n 1, 1, (1, 0, 0), 0, 0, []), (1, .invokestatic 193, 3, (900, 1, 0), 0, 0, []), (4, .istore_n 2, 1, (2, 0, 0), 0, 0, []), (5, .iconst (0), 1, (0, 0, 0), 0, 0, []), (6, .istore_n 3, 1, (3, 0, 0), 0, 0, [])], 7),
  (7, [true, true, true, true], [(7, .iload_n 3, 1, (3, 0, 0), 0, 0, []), (8, .bipush (10), 2, (0, 0, 0), 10, 0, []), (10, .if_icmp .ge (33), 3, (43, 0, 0), 0, 0, [])], 13),
  (13, [true, true, true, true], [(13, .iload_n 3, 1, (3, 0, 0), 0, 0, []), (14, .ifCond .eq (7), 3, (21, 0, 0), 0, 0, [])], 17),
  (17, [true, true, true, true], [(17, .iload_n 2, 1, (2, 0, 0), 0, 0, []), (18, .ifCond .le (25), 3, (43, 0, 0), 0, 0, [])], 21),
  (21, [true, true, true, true], [(21, .aload_n 0, 1, (0, 0, 0), 0, 0, []), (22, .bipush (48), 2, (0, 0, 0), 48, 0, []), (24, .iload_n 2, 1, (2, 0, 0), 0, 0, []), (25, .bipush (10), 2, (0, 0, 0), 10, 0, []), (27, .irem, 1, (0, 0, 0), 0, 0, []), (28, .iadd, 1, (0, 0, 0), 0, 0, []), (29, .invokevirtual 182, 3, (30, 2, 3), 0, 0, []), (32, .iload_n 2, 1, (2, 0, 0), 0, 0, []), (33, .bipush (10), 2, (0, 0, 0), 10, 0, []), (35, .idiv, 1, (0, 0, 0), 0, 0, []), (36, .istore_n 2, 1, (2, 0, 0), 0, 0, []), (37, .iinc 3 (1), 3, (3, 0, 0), 1, 0, []), (40, .goto (-33), 3, (7, 0, 0), 0, 0, [])], 43),
  (43, [true, true, false, false], [(43, .iload_n 1, 1, (1, 0, 0), 0, 0, []), (44, .ifCond .ge (9), 3, (53, 0, 0), 0, 0, [])], 47),
  (47, [true, false, false, false], [(47, .aload_n 0, 1, (0, 0, 0), 0, 0, []), (48, .bipush (45), 2, (0, 0, 0), 45, 0, []), (50, .invokevirtual 182, 3, (30, 2, 3), 0, 0, [])], 53),
  (53, [false, false, false, false], [(53, .return_, 1, (0, 0, 0), 0, 0, [])], 54)]
def mp_31 : mj_M := (4, [], mb_31)
-- MacroPress$Expander.putRoman(I)V
def mb_32 : List mj_B := [(0, [true, true, false, false], [(0, .iload_n 1, 1, (1, 0, 0), 0, 0, []), (1, .sipush (9999), 3, (0, 0, 0), 9999, 0, []), (4, .if_icmp .le (13), 3, (17, 0, 0), 0, 0, [])], 7),
  (7, [true, true, false, false], [(7, .aload_n 0, 1, (0, 0, 0), 0, 0, []), (8, .getfield 35, 3, (3, 7, 2), 0, 0, []), (11, .bipush (7), 2, (0, 0, 0), 7, 0, []), (13, .invokevirtual 109, 3, (80, 2, 7), 0, 0, []), (16, .pop, 1, (0, 0, 0), 0, 0, [])], 17),
  (17, [true, true, false, false], [(17, .iload_n 1, 1, (1, 0, 0), 0, 0, []), (18, .iconst (0), 1, (0, 0, 0), 0, 0, []), (19, .invokestatic 198, 3, (901, 2, 0), 0, 0, []), (22, .istore_n 2, 1, (2, 0, 0), 0, 0, []), (23, .iconst (0), 1, (0, 0, 0), 0, 0, []), (24, .istore_n 3, 1, (3, 0, 0), 0, 0, [])], 25),
  (25, [true, false, true, true], [(25, .iload_n 3, 1, (3, 0, 0), 0, 0, []), (26, .iconst (3), 1, (0, 0, 0), 3, 0, []), (27, .if_icmp .ge (25), 3, (52, 0, 0), 0, 0, [])], 30),
  (30, [true, false, true, true], [(30, .aload_n 0, 1, (0, 0, 0), 0, 0, []), (31, .iload_n 2, 1, (2, 0, 0), 0, 0, []), (32, .bipush (10), 2, (0, 0, 0), 10, 0, []), (34, .irem, 1, (0, 0, 0), 0, 0, []), (35, .iconst (2), 1, (0, 0, 0), 2, 0, []), (36, .iload_n 3, 1, (3, 0, 0), 0, 0, []), (37, .imul, 1, (0, 0, 0), 0, 0, []), (38, .invokevirtual 201, 3, (33, 3, 3), 0, 0, []), (41, .iload_n 2, 1, (2, 0, 0), 0, 0, []), (42, .bipush (10), 2, (0, 0, 0), 10, 0, []), (44, .idiv, 1, (0, 0, 0), 0, 0, []), (45, .istore_n 2, 1, (2, 0, 0), 0, 0, []), (46, .iinc 3 (1), 3, (3, 0, 0), 1, 0, []), (49, .goto (-24), 3, (25, 0, 0), 0, 0, [])], 52),
  (52, [true, false, true, false], [(52, .iconst (0), 1, (0, 0, 0), 0, 0, []), (53, .istore_n 3, 1, (3, 0, 0), 0, 0, [])], 54),
  (54, [true, false, true, true], [(54, .iload_n 3, 1, (3, 0, 0), 0, 0, []), (55, .iload_n 2, 1, (2, 0, 0), 0, 0, []), (56, .if_icmp .ge (19), 3, (75, 0, 0), 0, 0, [])], 59),
  (59, [true, false, true, true], [(59, .aload_n 0, 1, (0, 0, 0), 0, 0, []), (60, .getfield 15, 3, (3, 2, 2), 0, 0, []), (63, .sipush (3181), 3, (0, 0, 0), 3181, 0, []), (66, .invokevirtual 116, 3, (84, 2, 8), 0, 0, []), (69, .iinc 3 (1), 3, (3, 0, 0), 1, 0, []), (72, .goto (-18), 3, (54, 0, 0), 0, 0, [])], 75),
  (75, [false, false, false, false], [(75, .return_, 1, (0, 0, 0), 0, 0, [])], 76)]
def mp_32 : mj_M := (4, [], mb_32)
-- MacroPress$Expander.putRomanDigit(II)V
def mb_33 : List mj_B := [(0, [true, true, true, false, false], [(0, .iload_n 1, 1, (1, 0, 0), 0, 0, []), (1, .iconst (5), 1, (0, 0, 0), 5, 0, []), (2, .irem, 1, (0, 0, 0), 0, 0, []), (3, .istore_n 3, 1, (3, 0, 0), 0, 0, []), (4, .iload_n 3, 1, (3, 0, 0), 0, 0, []), (5, .iconst (4), 1, (0, 0, 0), 4, 0, []), (6, .if_icmp .ne (52), 3, (58, 0, 0), 0, 0, [])], 9),
  (9, [true, true, true, false, false], [(9, .aload_n 0, 1, (0, 0, 0), 0, 0, []), (10, .getfield 15, 3, (3, 2, 2), 0, 0, []), (13, .sipush (3072), 3, (0, 0, 0), 3072, 0, []), (16, .ldc 204, 2, (900001, 0, 1), 0, 0, []), (18, .iload_n 1, 1, (1, 0, 0), 0, 0, []), (19, .bipush (9), 2, (0, 0, 0), 9, 0, []), (21, .if_icmp .ne (9), 3, (30, 0, 0), 0, 0, [])], 24),
  (24, [true, false, true, false, false], [(24, .iload_n 2, 1, (2, 0, 0), 0, 0, []), (25, .iconst (2), 1, (0, 0, 0), 2, 0, []), (26, .iadd, 1, (0, 0, 0), 0, 0, []), (27, .goto (6), 3, (33, 0, 0), 0, 0, [])], 30),
  (30, [true, false, true, false, false], [(30, .iload_n 2, 1, (2, 0, 0), 0, 0, []), (31, .iconst (1), 1, (0, 0, 0), 1, 0, []), (32, .iadd, 1, (0, 0, 0), 0, 0, [])], 33),
  (33, [true, false, true, false, false], [(33, .invokevirtual 206, 3, (905, 2, 999), 0, 0, []), (36, .iadd, 1, (0, 0, 0), 0, 0, []), (37, .invokevirtual 116, 3, (84, 2, 8), 0, 0, []), (40, .aload_n 0, 1, (0, 0, 0), 0, 0, []), (41, .getfield 15, 3, (3, 2, 2), 0, 0, []), (44, .sipush (3072), 3, (0, 0, 0), 3072, 0, []), (47, .ldc 204, 2, (900001, 0, 1), 0, 0, []), (49, .iload_n 2, 1, (2, 0, 0), 0, 0, []), (50, .invokevirtual 206, 3, (905, 2, 999), 0, 0, []), (53, .iadd, 1, (0, 0, 0), 0, 0, []), (54, .invokevirtual 116, 3, (84, 2, 8), 0, 0, []), (57, .return_, 1, (0, 0, 0), 0, 0, [])], 58),
  (58, [true, true, true, true, false], [(58, .iconst (0), 1, (0, 0, 0), 0, 0, []), (59, .istore 4, 2, (4, 0, 0), 0, 0, [])], 61),
  (61, [true, true, true, true, true], [(61, .iload 4, 2, (4, 0, 0), 0, 0, []), (63, .iload_n 3, 1, (3, 0, 0), 0, 0, []), (64, .if_icmp .ge (26), 3, (90, 0, 0), 0, 0, [])], 67),
  (67, [true, true, true, true, true], [(67, .aload_n 0, 1, (0, 0, 0), 0, 0, []), (68, .getfield 15, 3, (3, 2, 2), 0, 0, []), (71, .sipush (3072), 3, (0, 0, 0), 3072, 0, []), (74, .ldc 204, 2, (900001, 0, 1), 0, 0, []), (76, .iload_n 2, 1, (2, 0, 0), 0, 0, []), (77, .invokevirtual 206, 3, (905, 2, 999), 0, 0, []), (80, .iadd, 1, (0, 0, 0), 0, 0, []), (81, .invokevirtual 116, 3, (84, 2, 8), 0, 0, []), (84, .iinc 4 (1), 3, (4, 0, 0), 1, 0, []), (87, .goto (-26), 3, (61, 0, 0), 0, 0, [])], 90),
  (90, [true, true, true, false, false], [(90, .iload_n 1, 1, (1, 0, 0), 0, 0, []), (91, .iconst (5), 1, (0, 0, 0), 5, 0, []), (92, .if_icmp .lt (22), 3, (114, 0, 0), 0, 0, [])], 95),
  (95, [true, false, true, false, false], [(95, .aload_n 0, 1, (0, 0, 0), 0, 0, []), (96, .getfield 15, 3, (3, 2, 2), 0, 0, []), (99, .sipush (3072), 3, (0, 0, 0), 3072, 0, []), (102, .ldc 204, 2, (900001, 0, 1), 0, 0, []), (104, .iload_n 2, 1, (2, 0, 0), 0, 0, []), (105, .iconst (1), 1, (0, 0, 0), 1, 0, []), (106, .iadd, 1, (0, 0, 0), 0, 0, []), (107, .invokevirtual 206, 3, (905, 2, 999), 0, 0, []), (110, .iadd, 1, (0, 0, 0), 0, 0, []), (111, .invokevirtual 116, 3, (84, 2, 8), 0, 0, [])], 114),
  (114, [false, false, false, false, false], [(114, .return_, 1, (0, 0, 0), 0, 0, [])], 115)]
def mp_33 : mj_M := (5, [], mb_33)
-- MacroPress$Expander.holds(I)Z
def mb_34 : List mj_B := [(0, [true, true, false, false, false], [(0, .iload_n 1, 1, (1, 0, 0), 0, 0, []), (1, .tableswitch (219) (8) (12) #[35, 62, 89, 110, 203], 35, (220, 0, 0), 0, 0, [(8, 36), (9, 63), (10, 90), (11, 111), (12, 204)])], 36),
  (36, [true, false, false, false, false], [(36, .aload_n 0, 1, (0, 0, 0), 0, 0, []), (37, .aload_n 0, 1, (0, 0, 0), 0, 0, []), (38, .iconst (0), 1, (0, 0, 0), 0, 0, []), (39, .invokevirtual 62, 3, (22, 2, 3), 0, 0, []), (42, .invokevirtual 212, 3, (35, 2, 3), 0, 0, []), (45, .aload_n 0, 1, (0, 0, 0), 0, 0, []), (46, .aload_n 0, 1, (0, 0, 0), 0, 0, []), (47, .iconst (0), 1, (0, 0, 0), 0, 0, []), (48, .invokevirtual 62, 3, (22, 2, 3), 0, 0, []), (51, .invokevirtual 212, 3, (35, 2, 3), 0, 0, []), (54, .if_icmp .ne (7), 3, (61, 0, 0), 0, 0, [])], 57),
  (57, [false, false, false, false, false], [(57, .iconst (1), 1, (0, 0, 0), 1, 0, []), (58, .goto (4), 3, (62, 0, 0), 0, 0, [])], 61),
  (61, [false, false, false, false, false], [(61, .iconst (0), 1, (0, 0, 0), 0, 0, [])], 62),
  (62, [false, false, false, false, false], [(62, .ireturn, 1, (0, 0, 1), 0, 0, [])], 63),
  (63, [true, false, false, false, false], [(63, .aload_n 0, 1, (0, 0, 0), 0, 0, []), (64, .aload_n 0, 1, (0, 0, 0), 0, 0, []), (65, .iconst (0), 1, (0, 0, 0), 0, 0, []), (66, .invokevirtual 62, 3, (22, 2, 3), 0, 0, []), (69, .invokevirtual 215, 3, (36, 2, 3), 0, 0, []), (72, .aload_n 0, 1, (0, 0, 0), 0, 0, []), (73, .aload_n 0, 1, (0, 0, 0), 0, 0, []), (74, .iconst (0), 1, (0, 0, 0), 0, 0, []), (75, .invokevirtual 62, 3, (22, 2, 3), 0, 0, []), (78, .invokevirtual 215, 3, (36, 2, 3), 0, 0, []), (81, .if_icmp .ne (7), 3, (88, 0, 0), 0, 0, [])], 84),
  (84, [false, false, false, false, false], [(84, .iconst (1), 1, (0, 0, 0), 1, 0, []), (85, .goto (4), 3, (89, 0, 0), 0, 0, [])], 88),
  (88, [false, false, false, false, false], [(88, .iconst (0), 1, (0, 0, 0), 0, 0, [])], 89),
  (89, [false, false, false, false, false], [(89, .ireturn, 1, (0, 0, 1), 0, 0, [])], 90),
  (90, [true, false, false, false, false], [(90, .aload_n 0, 1, (0, 0, 0), 0, 0, []), (91, .aload_n 0, 1, (0, 0, 0), 0, 0, []), (92, .getfield 15, 3, (3, 2, 2), 0, 0, []), (95, .iconst (0), 1, (0, 0, 0), 0, 0, []), (96, .invokevirtual 48, 3, (85, 2, 8), 0, 0, []), (99, .aload_n 0, 1, (0, 0, 0), 0, 0, []), (100, .getfield 15, 3, (3, 2, 2), 0, 0, []), (103, .iconst (0), 1, (0, 0, 0), 0, 0, []), (104, .invokevirtual 48, 3, (85, 2, 8), 0, 0, []), (107, .invokevirtual 218, 3, (37, 3, 3), 0, 0, []), (110, .ireturn, 1, (0, 0, 1), 0, 0, [])], 111),
  (111, [true, false, false, false, false], [(111, .aload_n 0, 1, (0, 0, 0), 0, 0, []), (112, .invokevirtual 125, 3, (38, 1, 3), 0, 0, []), (115, .istore_n 2, 1, (2, 0, 0), 0, 0, []), (116, .aload_n 0, 1, (0, 0, 0), 0, 0, []), (117, .invokevirtual 222, 3, (23, 1, 3), 0, 0, []), (120, .istore_n 3, 1, (3, 0, 0), 0, 0, []), (121, .iload_n 3, 1, (3, 0, 0), 0, 0, []), (122, .sipush (3132), 3, (0, 0, 0), 3132, 0, []), (125, .if_icmp .eq (27), 3, (152, 0, 0), 0, 0, [])], 128),
  (128, [true, false, true, true, false], [(128, .iload_n 3, 1, (3, 0, 0), 0, 0, []), (129, .sipush (3133), 3, (0, 0, 0), 3133, 0, []), (132, .if_icmp .eq (20), 3, (152, 0, 0), 0, 0, [])], 135),
  (135, [true, false, true, true, false], [(135, .iload_n 3, 1, (3, 0, 0), 0, 0, []), (136, .sipush (3134), 3, (0, 0, 0), 3134, 0, []), (139, .if_icmp .eq (13), 3, (152, 0, 0), 0, 0, [])], 142),
  (142, [true, false, true, true, false], [(142, .aload_n 0, 1, (0, 0, 0), 0, 0, []), (143, .getfield 35, 3, (3, 7, 2), 0, 0, []), (146, .bipush (6), 2, (0, 0, 0), 6, 0, []), (148, .invokevirtual 109, 3, (80, 2, 7), 0, 0, []), (151, .pop, 1, (0, 0, 0), 0, 0, [])], 152),
  (152, [true, false, true, true, false], [(152, .aload_n 0, 1, (0, 0, 0), 0, 0, []), (153, .invokevirtual 125, 3, (38, 1, 3), 0, 0, []), (156, .istore 4, 2, (4, 0, 0), 0, 0, []), (158, .iload_n 2, 1, (2, 0, 0), 0, 0, []), (159, .iload 4, 2, (4, 0, 0), 0, 0, []), (161, .if_icmp .ge (18), 3, (179, 0, 0), 0, 0, [])], 164),
  (164, [false, false, false, true, false], [(164, .iload_n 3, 1, (3, 0, 0), 0, 0, []), (165, .sipush (3132), 3, (0, 0, 0), 3132, 0, []), (168, .if_icmp .ne (7), 3, (175, 0, 0), 0, 0, [])], 171),
  (171, [false, false, false, false, false], [(171, .iconst (1), 1, (0, 0, 0), 1, 0, []), (172, .goto (31), 3, (203, 0, 0), 0, 0, [])], 175),
  (175, [false, false, false, false, false], [(175, .iconst (0), 1, (0, 0, 0), 0, 0, []), (176, .goto (27), 3, (203, 0, 0), 0, 0, [])], 179),
  (179, [false, false, true, true, true], [(179, .iload_n 3, 1, (3, 0, 0), 0, 0, []), (180, .iload_n 2, 1, (2, 0, 0), 0, 0, []), (181, .iload 4, 2, (4, 0, 0), 0, 0, []), (183, .if_icmp .ne (9), 3, (192, 0, 0), 0, 0, [])], 186),
  (186, [false, false, false, false, false], [(186, .sipush (3133), 3, (0, 0, 0), 3133, 0, []), (189, .goto (6), 3, (195, 0, 0), 0, 0, [])], 192),
  (192, [false, false, false, false, false], [(192, .sipush (3134), 3, (0, 0, 0), 3134, 0, [])], 195),
  (195, [false, false, false, false, false], [(195, .if_icmp .ne (7), 3, (202, 0, 0), 0, 0, [])], 198),
  (198, [false, false, false, false, false], [(198, .iconst (1), 1, (0, 0, 0), 1, 0, []), (199, .goto (4), 3, (203, 0, 0), 0, 0, [])], 202),
  (202, [false, false, false, false, false], [(202, .iconst (0), 1, (0, 0, 0), 0, 0, [])], 203),
  (203, [false, false, false, false, false], [(203, .ireturn, 1, (0, 0, 1), 0, 0, [])], 204),
  (204, [true, false, false, false, false], [(204, .aload_n 0, 1, (0, 0, 0), 0, 0, []), (205, .invokevirtual 125, 3, (38, 1, 3), 0, 0, []), (208, .iconst (1), 1, (0, 0, 0), 1, 0, []), (209, .iand, 1, (0, 0, 0), 0, 0, []), (210, .iconst (1), 1, (0, 0, 0), 1, 0, []), (211, .if_icmp .ne (7), 3, (218, 0, 0), 0, 0, [])], 214),
  (214, [false, false, false, false, false], [(214, .iconst (1), 1, (0, 0, 0), 1, 0, []), (215, .goto (4), 3, (219, 0, 0), 0, 0, [])], 218),
  (218, [false, false, false, false, false], [(218, .iconst (0), 1, (0, 0, 0), 0, 0, [])], 219),
  (219, [false, false, false, false, false], [(219, .ireturn, 1, (0, 0, 1), 0, 0, [])], 220),
  (220, [false, true, false, false, false], [(220, .iload_n 1, 1, (1, 0, 0), 0, 0, []), (221, .bipush (13), 2, (0, 0, 0), 13, 0, []), (223, .if_icmp .ne (7), 3, (230, 0, 0), 0, 0, [])], 226),
  (226, [false, false, false, false, false], [(226, .iconst (1), 1, (0, 0, 0), 1, 0, []), (227, .goto (4), 3, (231, 0, 0), 0, 0, [])], 230),
  (230, [false, false, false, false, false], [(230, .iconst (0), 1, (0, 0, 0), 0, 0, [])], 231),
  (231, [false, false, false, false, false], [(231, .ireturn, 1, (0, 0, 1), 0, 0, [])], 232)]
def mp_34 : mj_M := (5, [], mb_34)
-- MacroPress$Expander.characterOf(I)I
def mb_35 : List mj_B := [(0, [true, true, false], [(0, .aload_n 0, 1, (0, 0, 0), 0, 0, []), (1, .getfield 23, 3, (3, 4, 2), 0, 0, []), (4, .iload_n 1, 1, (1, 0, 0), 0, 0, []), (5, .invokevirtual 71, 3, (96, 2, 9), 0, 0, []), (8, .istore_n 2, 1, (2, 0, 0), 0, 0, []), (9, .iload_n 2, 1, (2, 0, 0), 0, 0, []), (10, .invokestatic 86, 3, (93, 1, 0), 0, 0, []), (13, .iconst (3), 1, (0, 0, 0), 3, 0, []), (14, .if_icmp .ne (14), 3, (28, 0, 0), 0, 0, [])], 17),
  (17, [false, false, true], [(17, .iload_n 2, 1, (2, 0, 0), 0, 0, []), (18, .invokestatic 89, 3, (94, 1, 0), 0, 0, []), (21, .sipush (255), 3, (0, 0, 0), 255, 0, []), (24, .iand, 1, (0, 0, 0), 0, 0, []), (25, .goto (6), 3, (31, 0, 0), 0, 0, [])], 28),
  (28, [false, false, false], [(28, .sipush (256), 3, (0, 0, 0), 256, 0, [])], 31),
  (31, [false, false, false], [(31, .ireturn, 1, (0, 0, 0), 0, 0, [])], 32)]
def mp_35 : mj_M := (3, [], mb_35)
-- MacroPress$Expander.categoryOf(I)I
def mb_36 : List mj_B := [(0, [true, true, false], [(0, .aload_n 0, 1, (0, 0, 0), 0, 0, []), (1, .getfield 23, 3, (3, 4, 2), 0, 0, []), (4, .iload_n 1, 1, (1, 0, 0), 0, 0, []), (5, .invokevirtual 71, 3, (96, 2, 9), 0, 0, []), (8, .istore_n 2, 1, (2, 0, 0), 0, 0, []), (9, .iload_n 2, 1, (2, 0, 0), 0, 0, []), (10, .invokestatic 86, 3, (93, 1, 0), 0, 0, []), (13, .iconst (3), 1, (0, 0, 0), 3, 0, []), (14, .if_icmp .ne (13), 3, (27, 0, 0), 0, 0, [])], 17),
  (17, [false, false, true], [(17, .iload_n 2, 1, (2, 0, 0), 0, 0, []), (18, .invokestatic 89, 3, (94, 1, 0), 0, 0, []), (21, .bipush (8), 2, (0, 0, 0), 8, 0, []), (23, .ishr, 1, (0, 0, 0), 0, 0, []), (24, .goto (5), 3, (29, 0, 0), 0, 0, [])], 27),
  (27, [false, false, false], [(27, .bipush (16), 2, (0, 0, 0), 16, 0, [])], 29),
  (29, [false, false, false], [(29, .ireturn, 1, (0, 0, 0), 0, 0, [])], 30)]
def mp_36 : mj_M := (3, [], mb_36)
-- MacroPress$Expander.meansSame(II)Z
def mb_37 : List mj_B := [(0, [true, true, true, false, false], [(0, .aload_n 0, 1, (0, 0, 0), 0, 0, []), (1, .getfield 23, 3, (3, 4, 2), 0, 0, []), (4, .iload_n 1, 1, (1, 0, 0), 0, 0, []), (5, .invokevirtual 71, 3, (96, 2, 9), 0, 0, []), (8, .istore_n 3, 1, (3, 0, 0), 0, 0, []), (9, .aload_n 0, 1, (0, 0, 0), 0, 0, []), (10, .getfield 23, 3, (3, 4, 2), 0, 0, []), (13, .iload_n 2, 1, (2, 0, 0), 0, 0, []), (14, .invokevirtual 71, 3, (96, 2, 9), 0, 0, []), (17, .istore 4, 2, (4, 0, 0), 0, 0, []), (19, .iload_n 3, 1, (3, 0, 0), 0, 0, []), (20, .invokestatic 86, 3, (93, 1, 0), 0, 0, []), (23, .iconst (2), 1, (0, 0, 0), 2, 0, []), (24, .if_icmp .ne (29), 3, (53, 0, 0), 0, 0, [])], 27),
  (27, [true, false, false, true, true], [(27, .iload 4, 2, (4, 0, 0), 0, 0, []), (29, .invokestatic 86, 3, (93, 1, 0), 0, 0, []), (32, .iconst (2), 1, (0, 0, 0), 2, 0, []), (33, .if_icmp .ne (20), 3, (53, 0, 0), 0, 0, [])], 36),
  (36, [true, false, false, true, true], [(36, .aload_n 0, 1, (0, 0, 0), 0, 0, []), (37, .getfield 27, 3, (3, 5, 2), 0, 0, []), (40, .iload_n 3, 1, (3, 0, 0), 0, 0, []), (41, .invokestatic 89, 3, (94, 1, 0), 0, 0, []), (44, .iload 4, 2, (4, 0, 0), 0, 0, []), (46, .invokestatic 89, 3, (94, 1, 0), 0, 0, []), (49, .invokevirtual 225, 3, (53, 3, 4), 0, 0, []), (52, .ireturn, 1, (0, 0, 1), 0, 0, [])], 53),
  (53, [false, false, false, true, true], [(53, .iload_n 3, 1, (3, 0, 0), 0, 0, []), (54, .iload 4, 2, (4, 0, 0), 0, 0, []), (56, .if_icmp .ne (7), 3, (63, 0, 0), 0, 0, [])], 59),
  (59, [false, false, false, false, false], [(59, .iconst (1), 1, (0, 0, 0), 1, 0, []), (60, .goto (4), 3, (64, 0, 0), 0, 0, [])], 63),
  (63, [false, false, false, false, false], [(63, .iconst (0), 1, (0, 0, 0), 0, 0, [])], 64),
  (64, [false, false, false, false, false], [(64, .ireturn, 1, (0, 0, 1), 0, 0, [])], 65)]
def mp_37 : mj_M := (5, [], mb_37)
-- MacroPress$Expander.number()I
def mb_38 : List mj_B := [(0, [true, false, false, false], [(0, .aload_n 0, 1, (0, 0, 0), 0, 0, []), (1, .getfield 35, 3, (3, 7, 2), 0, 0, []), (4, .invokevirtual 83, 3, (78, 1, 7), 0, 0, []), (7, .iconst (0), 1, (0, 0, 0), 0, 0, []), (8, .istore_n 1, 1, (1, 0, 0), 0, 0, []), (9, .aload_n 0, 1, (0, 0, 0), 0, 0, []), (10, .iconst (0), 1, (0, 0, 0), 0, 0, []), (11, .invokevirtual 62, 3, (22, 2, 3), 0, 0, []), (14, .istore_n 2, 1, (2, 0, 0), 0, 0, []), (15, .iconst (0), 1, (0, 0, 0), 0, 0, []), (16, .istore_n 3, 1, (3, 0, 0), 0, 0, [])], 17),
  (17, [true, true, true, true], [(17, .iload_n 3, 1, (3, 0, 0), 0, 0, []), (18, .ldc 65, 2, (0, 0, 0), 1000000000, 0, []), (20, .if_icmp .ge (37), 3, (57, 0, 0), 0, 0, [])], 23),
  (23, [true, true, true, true], [(23, .iload_n 2, 1, (2, 0, 0), 0, 0, []), (24, .invokestatic 230, 3, (39, 1, 0), 0, 0, []), (27, .ifCond .eq (30), 3, (57, 0, 0), 0, 0, [])], 30),
  (30, [true, true, true, true], [(30, .iload_n 1, 1, (1, 0, 0), 0, 0, []), (31, .iload_n 2, 1, (2, 0, 0), 0, 0, []), (32, .sipush (3117), 3, (0, 0, 0), 3117, 0, []), (35, .if_icmp .ne (7), 3, (42, 0, 0), 0, 0, [])], 38),
  (38, [true, false, false, true], [(38, .iconst (1), 1, (0, 0, 0), 1, 0, []), (39, .goto (4), 3, (43, 0, 0), 0, 0, [])], 42),
  (42, [true, false, false, true], [(42, .iconst (0), 1, (0, 0, 0), 0, 0, [])], 43),
  (43, [true, false, false, true], [(43, .ixor, 1, (0, 0, 0), 0, 0, []), (44, .istore_n 1, 1, (1, 0, 0), 0, 0, []), (45, .aload_n 0, 1, (0, 0, 0), 0, 0, []), (46, .iconst (0), 1, (0, 0, 0), 0, 0, []), (47, .invokevirtual 62, 3, (22, 2, 3), 0, 0, []), (50, .istore_n 2, 1, (2, 0, 0), 0, 0, []), (51, .iinc 3 (1), 3, (3, 0, 0), 1, 0, []), (54, .goto (-37), 3, (17, 0, 0), 0, 0, [])], 57),
  (57, [true, true, true, false], [(57, .iload_n 2, 1, (2, 0, 0), 0, 0, []), (58, .invokestatic 233, 3, (191, 1, 0), 0, 0, []), (61, .ifCond .lt (12), 3, (73, 0, 0), 0, 0, [])], 64),
  (64, [true, true, true, false], [(64, .aload_n 0, 1, (0, 0, 0), 0, 0, []), (65, .iload_n 2, 1, (2, 0, 0), 0, 0, []), (66, .invokevirtual 236, 3, (40, 2, 3), 0, 0, []), (69, .istore_n 3, 1, (3, 0, 0), 0, 0, []), (70, .goto (41), 3, (111, 0, 0), 0, 0, [])], 73),
  (73, [true, true, true, false], [(73, .iload_n 2, 1, (2, 0, 0), 0, 0, []), (74, .sipush (3168), 3, (0, 0, 0), 3168, 0, []), (77, .if_icmp .ne (28), 3, (105, 0, 0), 0, 0, [])], 80),
  (80, [true, true, false, false], [(80, .aload_n 0, 1, (0, 0, 0), 0, 0, []), (81, .aload_n 0, 1, (0, 0, 0), 0, 0, []), (82, .getfield 15, 3, (3, 2, 2), 0, 0, []), (85, .iconst (0), 1, (0, 0, 0), 0, 0, []), (86, .invokevirtual 48, 3, (85, 2, 8), 0, 0, []), (89, .invokevirtual 239, 3, (42, 2, 3), 0, 0, []), (92, .istore_n 3, 1, (3, 0, 0), 0, 0, []), (93, .aload_n 0, 1, (0, 0, 0), 0, 0, []), (94, .aload_n 0, 1, (0, 0, 0), 0, 0, []), (95, .iconst (1), 1, (0, 0, 0), 1, 0, []), (96, .invokevirtual 62, 3, (22, 2, 3), 0, 0, []), (99, .invokevirtual 242, 3, (41, 2, 3), 0, 0, []), (102, .goto (9), 3, (111, 0, 0), 0, 0, [])], 105),
  (105, [true, true, true, false], [(105, .aload_n 0, 1, (0, 0, 0), 0, 0, []), (106, .iload_n 2, 1, (2, 0, 0), 0, 0, []), (107, .invokevirtual 135, 3, (43, 2, 3), 0, 0, []), (110, .istore_n 3, 1, (3, 0, 0), 0, 0, [])], 111),
  (111, [true, true, false, true], [(111, .aload_n 0, 1, (0, 0, 0), 0, 0, []), (112, .getfield 35, 3, (3, 7, 2), 0, 0, []), (115, .invokevirtual 102, 3, (79, 1, 7), 0, 0, []), (118, .iload_n 1, 1, (1, 0, 0), 0, 0, []), (119, .ifCond .eq (8), 3, (127, 0, 0), 0, 0, [])], 122),
  (122, [false, false, false, true], [(122, .iload_n 3, 1, (3, 0, 0), 0, 0, []), (123, .ineg, 1, (0, 0, 0), 0, 0, []), (124, .goto (4), 3, (128, 0, 0), 0, 0, [])], 127),
  (127, [false, false, false, true], [(127, .iload_n 3, 1, (3, 0, 0), 0, 0, [])], 128),
  (128, [false, false, false, false], [(128, .ireturn, 1, (0, 0, 0), 0, 0, [])], 129)]
def mp_38 : mj_M := (4, [], mb_38)
-- MacroPress$Expander.isSpaceOrSign(I)Z
def mb_39 : List mj_B := [(0, [true], [(0, .iload_n 0, 1, (0, 0, 0), 0, 0, []), (1, .sipush (3115), 3, (0, 0, 0), 3115, 0, []), (4, .if_icmp .eq (17), 3, (21, 0, 0), 0, 0, [])], 7),
  (7, [true], [(7, .iload_n 0, 1, (0, 0, 0), 0, 0, []), (8, .sipush (3117), 3, (0, 0, 0), 3117, 0, []), (11, .if_icmp .eq (10), 3, (21, 0, 0), 0, 0, [])], 14),
  (14, [true], [(14, .iload_n 0, 1, (0, 0, 0), 0, 0, []), (15, .invokestatic 66, 3, (190, 1, 0), 0, 0, []), (18, .ifCond .eq (7), 3, (25, 0, 0), 0, 0, [])], 21),
  (21, [false], [(21, .iconst (1), 1, (0, 0, 0), 1, 0, []), (22, .goto (4), 3, (26, 0, 0), 0, 0, [])], 25),
  (25, [false], [(25, .iconst (0), 1, (0, 0, 0), 0, 0, [])], 26),
  (26, [false], [(26, .ireturn, 1, (0, 0, 1), 0, 0, [])], 27)]
def mp_39 : mj_M := (1, [], mb_39)
-- MacroPress$Expander.digits(I)I
def mb_40 : List mj_B := [(0, [true, true, false, false, false, false, false], [(0, .iload_n 1, 1, (1, 0, 0), 0, 0, []), (1, .istore_n 2, 1, (2, 0, 0), 0, 0, []), (2, .iload_n 2, 1, (2, 0, 0), 0, 0, []), (3, .invokestatic 233, 3, (191, 1, 0), 0, 0, []), (6, .istore_n 3, 1, (3, 0, 0), 0, 0, []), (7, .lconst 0, 1, (0, 0, 0), 0, 0, []), (8, .lstore 4, 2, (4, 0, 0), 0, 0, []), (10, .iconst (0), 1, (0, 0, 0), 0, 0, []), (11, .istore 6, 2, (6, 0, 0), 0, 0, [])], 13),
  (13, [true, false, true, true, true, false, true], [(13, .iload 6, 2, (6, 0, 0), 0, 0, []), (15, .ldc 65, 2, (0, 0, 0), 1000000000, 0, []), (17, .if_icmp .ge (54), 3, (71, 0, 0), 0, 0, [])], 20),
  (20, [true, false, true, true, true, false, true], [(20, .iload_n 3, 1, (3, 0, 0), 0, 0, []), (21, .ifCond .lt (50), 3, (71, 0, 0), 0, 0, [])], 24),
  (24, [true, false, false, true, true, false, true], [(24, .ldc2_w 245, 3, (0, 0, 0), 0, 10, []), (27, .lload 4, 2, (4, 0, 0), 0, 0, []), (29, .lmul, 1, (0, 0, 0), 0, 0, []), (30, .iload_n 3, 1, (3, 0, 0), 0, 0, []), (31, .i2l, 1, (0, 0, 0), 0, 0, []), (32, .ladd, 1, (0, 0, 0), 0, 0, []), (33, .lstore 4, 2, (4, 0, 0), 0, 0, []), (35, .lload 4, 2, (4, 0, 0), 0, 0, []), (37, .ldc2_w 247, 3, (0, 0, 0), 0, 2147483647, []), (40, .lcmp, 1, (0, 0, 0), 0, 0, []), (41, .ifCond .le (13), 3, (54, 0, 0), 0, 0, [])], 44),
  (44, [true, false, false, false, true, false, true], [(44, .aload_n 0, 1, (0, 0, 0), 0, 0, []), (45, .getfield 35, 3, (3, 7, 2), 0, 0, []), (48, .bipush (7), 2, (0, 0, 0), 7, 0, []), (50, .invokevirtual 109, 3, (80, 2, 7), 0, 0, []), (53, .pop, 1, (0, 0, 0), 0, 0, [])], 54),
  (54, [true, false, false, false, true, false, true], [(54, .aload_n 0, 1, (0, 0, 0), 0, 0, []), (55, .iconst (1), 1, (0, 0, 0), 1, 0, []), (56, .invokevirtual 62, 3, (22, 2, 3), 0, 0, []), (59, .istore_n 2, 1, (2, 0, 0), 0, 0, []), (60, .iload_n 2, 1, (2, 0, 0), 0, 0, []), (61, .invokestatic 233, 3, (191, 1, 0), 0, 0, []), (64, .istore_n 3, 1, (3, 0, 0), 0, 0, []), (65, .iinc 6 (1), 3, (6, 0, 0), 1, 0, []), (68, .goto (-55), 3, (13, 0, 0), 0, 0, [])], 71),
  (71, [true, false, true, false, true, false, false], [(71, .aload_n 0, 1, (0, 0, 0), 0, 0, []), (72, .iload_n 2, 1, (2, 0, 0), 0, 0, []), (73, .invokevirtual 242, 3, (41, 2, 3), 0, 0, []), (76, .lload 4, 2, (4, 0, 0), 0, 0, []), (78, .l2i, 1, (0, 0, 0), 0, 0, []), (79, .ireturn, 1, (0, 0, 0), 0, 0, [])], 80)]
def mp_40 : mj_M := (7, [], mb_40)
-- MacroPress$Expander.dropSpace(I)V
def mb_41 : List mj_B := [(0, [true, true], [(0, .iload_n 1, 1, (1, 0, 0), 0, 0, []), (1, .iconst (-1), 1, (0, 0, 0), -1, 0, []), (2, .if_icmp .eq (18), 3, (20, 0, 0), 0, 0, [])], 5),
  (5, [true, true], [(5, .iload_n 1, 1, (1, 0, 0), 0, 0, []), (6, .invokestatic 66, 3, (190, 1, 0), 0, 0, []), (9, .ifCond .ne (11), 3, (20, 0, 0), 0, 0, [])], 12),
  (12, [true, true], [(12, .aload_n 0, 1, (0, 0, 0), 0, 0, []), (13, .getfield 15, 3, (3, 2, 2), 0, 0, []), (16, .iload_n 1, 1, (1, 0, 0), 0, 0, []), (17, .invokevirtual 116, 3, (84, 2, 8), 0, 0, [])], 20),
  (20, [false, false], [(20, .return_, 1, (0, 0, 0), 0, 0, [])], 21)]
def mp_41 : mj_M := (2, [], mb_41)
-- MacroPress$Expander.characterNumber(I)I
def mb_42 : List mj_B := [(0, [true, true, false], [(0, .iload_n 1, 1, (1, 0, 0), 0, 0, []), (1, .invokestatic 179, 3, (186, 1, 0), 0, 0, []), (4, .ifCond .ne (9), 3, (13, 0, 0), 0, 0, [])], 7),
  (7, [false, true, false], [(7, .iload_n 1, 1, (1, 0, 0), 0, 0, []), (8, .sipush (255), 3, (0, 0, 0), 255, 0, []), (11, .iand, 1, (0, 0, 0), 0, 0, []), (12, .ireturn, 1, (0, 0, 0), 0, 0, [])], 13),
  (13, [true, true, false], [(13, .iload_n 1, 1, (1, 0, 0), 0, 0, []), (14, .ldc 185, 2, (0, 0, 0), 65535, 0, []), (16, .iand, 1, (0, 0, 0), 0, 0, []), (17, .istore_n 2, 1, (2, 0, 0), 0, 0, []), (18, .aload_n 0, 1, (0, 0, 0), 0, 0, []), (19, .getfield 19, 3, (3, 3, 2), 0, 0, []), (22, .iload_n 2, 1, (2, 0, 0), 0, 0, []), (23, .invokevirtual 249, 3, (56, 2, 5), 0, 0, []), (26, .iconst (1), 1, (0, 0, 0), 1, 0, []), (27, .if_icmp .ne (23), 3, (50, 0, 0), 0, 0, [])], 30),
  (30, [true, false, true], [(30, .aload_n 0, 1, (0, 0, 0), 0, 0, []), (31, .getfield 19, 3, (3, 3, 2), 0, 0, []), (34, .getfield 189, 3, (5, 0, 2), 0, 0, []), (37, .aload_n 0, 1, (0, 0, 0), 0, 0, []), (38, .getfield 19, 3, (3, 3, 2), 0, 0, []), (41, .getfield 186, 3, (5, 1, 2), 0, 0, []), (44, .iload_n 2, 1, (2, 0, 0), 0, 0, []), (45, .iaload, 1, (0, 0, 0), 0, 0, []), (46, .caload, 1, (0, 0, 0), 0, 0, []), (47, .goto (12), 3, (59, 0, 0), 0, 0, [])], 50),
  (50, [true, false, false], [(50, .aload_n 0, 1, (0, 0, 0), 0, 0, []), (51, .getfield 35, 3, (3, 7, 2), 0, 0, []), (54, .bipush (6), 2, (0, 0, 0), 6, 0, []), (56, .invokevirtual 109, 3, (80, 2, 7), 0, 0, [])], 59),
  (59, [false, false, false], [(59, .ireturn, 1, (0, 0, 0), 0, 0, [])], 60)]
def mp_42 : mj_M := (3, [], mb_42)
-- MacroPress$Expander.valueOf(I)I
def mb_43 : List mj_B := [(0, [true, true, false, false], [(0, .aload_n 0, 1, (0, 0, 0), 0, 0, []), (1, .getfield 23, 3, (3, 4, 2), 0, 0, []), (4, .iload_n 1, 1, (1, 0, 0), 0, 0, []), (5, .invokevirtual 71, 3, (96, 2, 9), 0, 0, []), (8, .istore_n 2, 1, (2, 0, 0), 0, 0, []), (9, .iload_n 2, 1, (2, 0, 0), 0, 0, []), (10, .invokestatic 86, 3, (93, 1, 0), 0, 0, []), (13, .iconst (4), 1, (0, 0, 0), 4, 0, []), (14, .if_icmp .ne (8), 3, (22, 0, 0), 0, 0, [])], 17),
  (17, [false, false, true, false], [(17, .iload_n 2, 1, (2, 0, 0), 0, 0, []), (18, .invokestatic 89, 3, (94, 1, 0), 0, 0, []), (21, .ireturn, 1, (0, 0, 0), 0, 0, [])], 22),
  (22, [true, true, false, false], [(22, .aload_n 0, 1, (0, 0, 0), 0, 0, []), (23, .getfield 23, 3, (3, 4, 2), 0, 0, []), (26, .iload_n 1, 1, (1, 0, 0), 0, 0, []), (27, .invokevirtual 155, 3, (97, 2, 9), 0, 0, []), (30, .istore_n 3, 1, (3, 0, 0), 0, 0, []), (31, .iload_n 3, 1, (3, 0, 0), 0, 0, []), (32, .bipush (31), 2, (0, 0, 0), 31, 0, []), (34, .if_icmp .eq (19), 3, (53, 0, 0), 0, 0, [])], 37),
  (37, [true, false, false, true], [(37, .iload_n 3, 1, (3, 0, 0), 0, 0, []), (38, .bipush (32), 2, (0, 0, 0), 32, 0, []), (40, .if_icmp .eq (13), 3, (53, 0, 0), 0, 0, [])], 43),
  (43, [true, false, false, true], [(43, .aload_n 0, 1, (0, 0, 0), 0, 0, []), (44, .getfield 35, 3, (3, 7, 2), 0, 0, []), (47, .bipush (6), 2, (0, 0, 0), 6, 0, []), (49, .invokevirtual 109, 3, (80, 2, 7), 0, 0, []), (52, .pop, 1, (0, 0, 0), 0, 0, [])], 53),
  (53, [true, false, false, true], [(53, .aload_n 0, 1, (0, 0, 0), 0, 0, []), (54, .getfield 23, 3, (3, 4, 2), 0, 0, []), (57, .getfield 167, 3, (9, 0, 2), 0, 0, []), (60, .iload_n 3, 1, (3, 0, 0), 0, 0, []), (61, .bipush (31), 2, (0, 0, 0), 31, 0, []), (63, .if_icmp .ne (7), 3, (70, 0, 0), 0, 0, [])], 66),
  (66, [true, false, false, false], [(66, .iconst (0), 1, (0, 0, 0), 0, 0, []), (67, .goto (6), 3, (73, 0, 0), 0, 0, [])], 70),
  (70, [true, false, false, false], [(70, .sipush (256), 3, (0, 0, 0), 256, 0, [])], 73),
  (73, [true, false, false, false], [(73, .aload_n 0, 1, (0, 0, 0), 0, 0, []), (74, .sipush (255), 3, (0, 0, 0), 255, 0, []), (77, .invokevirtual 252, 3, (44, 2, 3), 0, 0, []), (80, .iadd, 1, (0, 0, 0), 0, 0, []), (81, .iaload, 1, (0, 0, 0), 0, 0, []), (82, .ireturn, 1, (0, 0, 0), 0, 0, [])], 83)]
def mp_43 : mj_M := (4, [], mb_43)
-- MacroPress$Expander.numberUpTo(I)I
def mb_44 : List mj_B := [(0, [true, true, false], [(0, .aload_n 0, 1, (0, 0, 0), 0, 0, []), (1, .invokevirtual 125, 3, (38, 1, 3), 0, 0, []), (4, .istore_n 2, 1, (2, 0, 0), 0, 0, []), (5, .iload_n 2, 1, (2, 0, 0), 0, 0, []), (6, .ifCond .lt (8), 3, (14, 0, 0), 0, 0, [])], 9),
  (9, [true, true, true], [(9, .iload_n 2, 1, (2, 0, 0), 0, 0, []), (10, .iload_n 1, 1, (1, 0, 0), 0, 0, []), (11, .if_icmp .le (15), 3, (26, 0, 0), 0, 0, [])], 14),
  (14, [true, false, false], [(14, .aload_n 0, 1, (0, 0, 0), 0, 0, []), (15, .getfield 35, 3, (3, 7, 2), 0, 0, []), (18, .bipush (7), 2, (0, 0, 0), 7, 0, []), (20, .invokevirtual 109, 3, (80, 2, 7), 0, 0, []), (23, .goto (4), 3, (27, 0, 0), 0, 0, [])], 26),
  (26, [false, false, true], [(26, .iload_n 2, 1, (2, 0, 0), 0, 0, [])], 27),
  (27, [false, false, false], [(27, .ireturn, 1, (0, 0, 0), 0, 0, [])], 28)]
def mp_44 : mj_M := (3, [], mb_44)
-- MacroPress$Macros.<init>(LMacroPress$Progress;)V
def mb_45 : List mj_B := [(0, [true, true], [(0, .aload_n 0, 1, (0, 0, 0), 0, 0, []), (1, .invokespecial 3, 3, (0, 0, 1), 0, 0, []), (4, .aload_n 0, 1, (0, 0, 0), 0, 0, []), (5, .sipush (10000), 3, (0, 0, 0), 10000, 0, []), (8, .newarray .int, 2, (0, 0, 0), 0, 0, []), (10, .putfield 9, 3, (4, 0, 2), 0, 0, []), (13, .aload_n 0, 1, (0, 0, 0), 0, 0, []), (14, .sipush (10002), 3, (0, 0, 0), 10002, 0, []), (17, .newarray .int, 2, (0, 0, 0), 0, 0, []), (19, .putfield 15, 3, (4, 1, 2), 0, 0, []), (22, .aload_n 0, 1, (0, 0, 0), 0, 0, []), (23, .sipush (10002), 3, (0, 0, 0), 10002, 0, []), (26, .newarray .int, 2, (0, 0, 0), 0, 0, []), (28, .putfield 18, 3, (4, 2, 2), 0, 0, []), (31, .aload_n 0, 1, (0, 0, 0), 0, 0, []), (32, .aload_n 1, 1, (1, 0, 0), 0, 0, []), (33, .putfield 21, 3, (4, 5, 2), 0, 0, []), (36, .return_, 1, (0, 0, 0), 0, 0, [])], 37)]
def mp_45 : mj_M := (2, [], mb_45)
-- MacroPress$Macros.begin()V
def mb_46 : List mj_B := [(0, [true], [(0, .aload_n 0, 1, (0, 0, 0), 0, 0, []), (1, .iconst (0), 1, (0, 0, 0), 0, 0, []), (2, .putfield 25, 3, (4, 3, 0), 0, 0, []), (5, .aload_n 0, 1, (0, 0, 0), 0, 0, []), (6, .iconst (1), 1, (0, 0, 0), 1, 0, []), (7, .putfield 29, 3, (4, 4, 0), 0, 0, []), (10, .return_, 1, (0, 0, 0), 0, 0, [])], 11)]
def mp_46 : mj_M := (1, [], mb_46)
-- MacroPress$Macros.startOf(I)I
def mb_47 : List mj_B := [(0, [true, true], [(0, .aload_n 0, 1, (0, 0, 0), 0, 0, []), (1, .getfield 15, 3, (4, 1, 2), 0, 0, []), (4, .iload_n 1, 1, (1, 0, 0), 0, 0, []), (5, .iaload, 1, (0, 0, 0), 0, 0, []), (6, .ireturn, 1, (0, 0, 0), 0, 0, [])], 7)]
def mp_47 : mj_M := (2, [], mb_47)
-- MacroPress$Macros.bodyOf(I)I
def mb_48 : List mj_B := [(0, [true, true], [(0, .aload_n 0, 1, (0, 0, 0), 0, 0, []), (1, .getfield 18, 3, (4, 2, 2), 0, 0, []), (4, .iload_n 1, 1, (1, 0, 0), 0, 0, []), (5, .iaload, 1, (0, 0, 0), 0, 0, []), (6, .ireturn, 1, (0, 0, 0), 0, 0, [])], 7)]
def mp_48 : mj_M := (2, [], mb_48)
-- MacroPress$Macros.endOf(I)I
def mb_49 : List mj_B := [(0, [true, true], [(0, .aload_n 0, 1, (0, 0, 0), 0, 0, []), (1, .getfield 15, 3, (4, 1, 2), 0, 0, []), (4, .iload_n 1, 1, (1, 0, 0), 0, 0, []), (5, .iconst (1), 1, (0, 0, 0), 1, 0, []), (6, .iadd, 1, (0, 0, 0), 0, 0, []), (7, .iaload, 1, (0, 0, 0), 0, 0, []), (8, .ireturn, 1, (0, 0, 0), 0, 0, [])], 9)]
def mp_49 : mj_M := (2, [], mb_49)
end
section
/-! THE PROGRAM'S TABLES, printed: methods 50 to 99 -/
-- MacroPress$Macros.add(I)V
def mb_50 : List mj_B := [(0, [true, true], [(0, .aload_n 0, 1, (0, 0, 0), 0, 0, []), (1, .getfield 25, 3, (4, 3, 0), 0, 0, []), (4, .sipush (10000), 3, (0, 0, 0), 10000, 0, []), (7, .if_icmp .lt (12), 3, (19, 0, 0), 0, 0, [])], 10),
  (10, [true, true], [(10, .aload_n 0, 1, (0, 0, 0), 0, 0, []), (11, .getfield 21, 3, (4, 5, 2), 0, 0, []), (14, .iconst (2), 1, (0, 0, 0), 2, 0, []), (15, .invokevirtual 32, 3, (80, 2, 7), 0, 0, []), (18, .pop, 1, (0, 0, 0), 0, 0, [])], 19),
  (19, [true, true], [(19, .aload_n 0, 1, (0, 0, 0), 0, 0, []), (20, .getfield 9, 3, (4, 0, 2), 0, 0, []), (23, .aload_n 0, 1, (0, 0, 0), 0, 0, []), (24, .getfield 25, 3, (4, 3, 0), 0, 0, []), (27, .iload_n 1, 1, (1, 0, 0), 0, 0, []), (28, .iastore, 1, (0, 0, 0), 0, 0, []), (29, .aload_n 0, 1, (0, 0, 0), 0, 0, []), (30, .dup, 1, (0, 0, 0), 0, 0, []), (31, .getfield 25, 3, (4, 3, 0), 0, 0, []), (34, .iconst (1), 1, (0, 0, 0), 1, 0, []), (35, .iadd, 1, (0, 0, 0), 0, 0, []), (36, .putfield 25, 3, (4, 3, 0), 0, 0, []), (39, .return_, 1, (0, 0, 0), 0, 0, [])], 40)]
def mp_50 : mj_M := (2, [], mb_50)
-- MacroPress$Macros.beginBody()V
def mb_51 : List mj_B := [(0, [true], [(0, .aload_n 0, 1, (0, 0, 0), 0, 0, []), (1, .getfield 18, 3, (4, 2, 2), 0, 0, []), (4, .aload_n 0, 1, (0, 0, 0), 0, 0, []), (5, .getfield 29, 3, (4, 4, 0), 0, 0, []), (8, .aload_n 0, 1, (0, 0, 0), 0, 0, []), (9, .getfield 25, 3, (4, 3, 0), 0, 0, []), (12, .iastore, 1, (0, 0, 0), 0, 0, []), (13, .return_, 1, (0, 0, 0), 0, 0, [])], 14)]
def mp_51 : mj_M := (1, [], mb_51)
-- MacroPress$Macros.make()I
def mb_52 : List mj_B := [(0, [true], [(0, .aload_n 0, 1, (0, 0, 0), 0, 0, []), (1, .getfield 25, 3, (4, 3, 0), 0, 0, []), (4, .aload_n 0, 1, (0, 0, 0), 0, 0, []), (5, .getfield 15, 3, (4, 1, 2), 0, 0, []), (8, .aload_n 0, 1, (0, 0, 0), 0, 0, []), (9, .getfield 29, 3, (4, 4, 0), 0, 0, []), (12, .iaload, 1, (0, 0, 0), 0, 0, []), (13, .if_icmp .ne (5), 3, (18, 0, 0), 0, 0, [])], 16),
  (16, [false], [(16, .iconst (0), 1, (0, 0, 0), 0, 0, []), (17, .ireturn, 1, (0, 0, 0), 0, 0, [])], 18),
  (18, [true], [(18, .aload_n 0, 1, (0, 0, 0), 0, 0, []), (19, .getfield 15, 3, (4, 1, 2), 0, 0, []), (22, .aload_n 0, 1, (0, 0, 0), 0, 0, []), (23, .getfield 29, 3, (4, 4, 0), 0, 0, []), (26, .iconst (1), 1, (0, 0, 0), 1, 0, []), (27, .iadd, 1, (0, 0, 0), 0, 0, []), (28, .aload_n 0, 1, (0, 0, 0), 0, 0, []), (29, .getfield 25, 3, (4, 3, 0), 0, 0, []), (32, .iastore, 1, (0, 0, 0), 0, 0, []), (33, .aload_n 0, 1, (0, 0, 0), 0, 0, []), (34, .dup, 1, (0, 0, 0), 0, 0, []), (35, .getfield 29, 3, (4, 4, 0), 0, 0, []), (38, .iconst (1), 1, (0, 0, 0), 1, 0, []), (39, .iadd, 1, (0, 0, 0), 0, 0, []), (40, .putfield 29, 3, (4, 4, 0), 0, 0, []), (43, .aload_n 0, 1, (0, 0, 0), 0, 0, []), (44, .getfield 29, 3, (4, 4, 0), 0, 0, []), (47, .iconst (1), 1, (0, 0, 0), 1, 0, []), (48, .isub, 1, (0, 0, 0), 0, 0, []), (49, .ireturn, 1, (0, 0, 0), 0, 0, [])], 50)]
def mp_52 : mj_M := (1, [], mb_52)
-- MacroPress$Macros.isSame(II)Z
def mb_53 : List mj_B := [(0, [true, true, true, false, false], [(0, .aload_n 0, 1, (0, 0, 0), 0, 0, []), (1, .iload_n 1, 1, (1, 0, 0), 0, 0, []), (2, .invokevirtual 38, 3, (49, 2, 4), 0, 0, []), (5, .aload_n 0, 1, (0, 0, 0), 0, 0, []), (6, .getfield 15, 3, (4, 1, 2), 0, 0, []), (9, .iload_n 1, 1, (1, 0, 0), 0, 0, []), (10, .iaload, 1, (0, 0, 0), 0, 0, []), (11, .isub, 1, (0, 0, 0), 0, 0, []), (12, .istore_n 3, 1, (3, 0, 0), 0, 0, []), (13, .iload_n 3, 1, (3, 0, 0), 0, 0, []), (14, .aload_n 0, 1, (0, 0, 0), 0, 0, []), (15, .iload_n 2, 1, (2, 0, 0), 0, 0, []), (16, .invokevirtual 38, 3, (49, 2, 4), 0, 0, []), (19, .aload_n 0, 1, (0, 0, 0), 0, 0, []), (20, .getfield 15, 3, (4, 1, 2), 0, 0, []), (23, .iload_n 2, 1, (2, 0, 0), 0, 0, []), (24, .iaload, 1, (0, 0, 0), 0, 0, []), (25, .isub, 1, (0, 0, 0), 0, 0, []), (26, .if_icmp .ne (32), 3, (58, 0, 0), 0, 0, [])], 29),
  (29, [true, true, true, true, false], [(29, .aload_n 0, 1, (0, 0, 0), 0, 0, []), (30, .getfield 18, 3, (4, 2, 2), 0, 0, []), (33, .iload_n 1, 1, (1, 0, 0), 0, 0, []), (34, .iaload, 1, (0, 0, 0), 0, 0, []), (35, .aload_n 0, 1, (0, 0, 0), 0, 0, []), (36, .getfield 15, 3, (4, 1, 2), 0, 0, []), (39, .iload_n 1, 1, (1, 0, 0), 0, 0, []), (40, .iaload, 1, (0, 0, 0), 0, 0, []), (41, .isub, 1, (0, 0, 0), 0, 0, []), (42, .aload_n 0, 1, (0, 0, 0), 0, 0, []), (43, .getfield 18, 3, (4, 2, 2), 0, 0, []), (46, .iload_n 2, 1, (2, 0, 0), 0, 0, []), (47, .iaload, 1, (0, 0, 0), 0, 0, []), (48, .aload_n 0, 1, (0, 0, 0), 0, 0, []), (49, .getfield 15, 3, (4, 1, 2), 0, 0, []), (52, .iload_n 2, 1, (2, 0, 0), 0, 0, []), (53, .iaload, 1, (0, 0, 0), 0, 0, []), (54, .isub, 1, (0, 0, 0), 0, 0, []), (55, .if_icmp .eq (5), 3, (60, 0, 0), 0, 0, [])], 58),
  (58, [false, false, false, false, false], [(58, .iconst (0), 1, (0, 0, 0), 0, 0, []), (59, .ireturn, 1, (0, 0, 1), 0, 0, [])], 60),
  (60, [true, true, true, true, false], [(60, .iconst (0), 1, (0, 0, 0), 0, 0, []), (61, .istore 4, 2, (4, 0, 0), 0, 0, [])], 63),
  (63, [true, true, true, true, true], [(63, .iload 4, 2, (4, 0, 0), 0, 0, []), (65, .iload_n 3, 1, (3, 0, 0), 0, 0, []), (66, .if_icmp .ge (42), 3, (108, 0, 0), 0, 0, [])], 69),
  (69, [true, true, true, true, true], [(69, .aload_n 0, 1, (0, 0, 0), 0, 0, []), (70, .getfield 9, 3, (4, 0, 2), 0, 0, []), (73, .aload_n 0, 1, (0, 0, 0), 0, 0, []), (74, .getfield 15, 3, (4, 1, 2), 0, 0, []), (77, .iload_n 1, 1, (1, 0, 0), 0, 0, []), (78, .iaload, 1, (0, 0, 0), 0, 0, []), (79, .iload 4, 2, (4, 0, 0), 0, 0, []), (81, .iadd, 1, (0, 0, 0), 0, 0, []), (82, .iaload, 1, (0, 0, 0), 0, 0, []), (83, .aload_n 0, 1, (0, 0, 0), 0, 0, []), (84, .getfield 9, 3, (4, 0, 2), 0, 0, []), (87, .aload_n 0, 1, (0, 0, 0), 0, 0, []), (88, .getfield 15, 3, (4, 1, 2), 0, 0, []), (91, .iload_n 2, 1, (2, 0, 0), 0, 0, []), (92, .iaload, 1, (0, 0, 0), 0, 0, []), (93, .iload 4, 2, (4, 0, 0), 0, 0, []), (95, .iadd, 1, (0, 0, 0), 0, 0, []), (96, .iaload, 1, (0, 0, 0), 0, 0, []), (97, .if_icmp .eq (5), 3, (102, 0, 0), 0, 0, [])], 100),
  (100, [false, false, false, false, false], [(100, .iconst (0), 1, (0, 0, 0), 0, 0, []), (101, .ireturn, 1, (0, 0, 1), 0, 0, [])], 102),
  (102, [true, true, true, true, true], [(102, .iinc 4 (1), 3, (4, 0, 0), 1, 0, []), (105, .goto (-42), 3, (63, 0, 0), 0, 0, [])], 108),
  (108, [false, false, false, false, false], [(108, .iconst (1), 1, (0, 0, 0), 1, 0, []), (109, .ireturn, 1, (0, 0, 1), 0, 0, [])], 110)]
def mp_53 : mj_M := (5, [], mb_53)
-- MacroPress$Names.<init>()V
def mb_54 : List mj_B := [(0, [true, false, false, false, false], [(0, .aload_n 0, 1, (0, 0, 0), 0, 0, []), (1, .invokespecial 3, 3, (0, 0, 1), 0, 0, []), (4, .aload_n 0, 1, (0, 0, 0), 0, 0, []), (5, .ldc 9, 2, (0, 0, 0), 40000, 0, []), (7, .ldc 10, 2, (900002, 0, 1), 0, 0, []), (9, .invokevirtual 12, 3, (904, 1, 999), 0, 0, []), (12, .iadd, 1, (0, 0, 0), 0, 0, []), (13, .newarray .char, 2, (0, 0, 2), 0, 0, []), (15, .putfield 18, 3, (5, 0, 2), 0, 0, []), (18, .aload_n 0, 1, (0, 0, 0), 0, 0, []), (19, .sipush (1037), 3, (0, 0, 0), 1037, 0, []), (22, .newarray .int, 2, (0, 0, 0), 0, 0, []), (24, .putfield 24, 3, (5, 1, 2), 0, 0, []), (27, .aload_n 0, 1, (0, 0, 0), 0, 0, []), (28, .sipush (256), 3, (0, 0, 0), 256, 0, []), (31, .newarray .int, 2, (0, 0, 0), 0, 0, []), (33, .putfield 28, 3, (5, 2, 2), 0, 0, []), (36, .aload_n 0, 1, (0, 0, 0), 0, 0, []), (37, .sipush (1036), 3, (0, 0, 0), 1036, 0, []), (40, .newarray .int, 2, (0, 0, 0), 0, 0, []), (42, .putfield 31, 3, (5, 4, 2), 0, 0, []), (45, .iconst (0), 1, (0, 0, 0), 0, 0, []), (46, .istore_n 1, 1, (1, 0, 0), 0, 0, [])], 47),
  (47, [true, true, false, false, false], [(47, .iload_n 1, 1, (1, 0, 0), 0, 0, []), (48, .sipush (256), 3, (0, 0, 0), 256, 0, []), (51, .if_icmp .ge (16), 3, (67, 0, 0), 0, 0, [])], 54),
  (54, [true, true, false, false, false], [(54, .aload_n 0, 1, (0, 0, 0), 0, 0, []), (55, .getfield 28, 3, (5, 2, 2), 0, 0, []), (58, .iload_n 1, 1, (1, 0, 0), 0, 0, []), (59, .iconst (-1), 1, (0, 0, 0), -1, 0, []), (60, .iastore, 1, (0, 0, 0), 0, 0, []), (61, .iinc 1 (1), 3, (1, 0, 0), 1, 0, []), (64, .goto (-17), 3, (47, 0, 0), 0, 0, [])], 67),
  (67, [true, false, false, false, false], [(67, .bipush (40), 2, (0, 0, 0), 40, 0, []), (69, .newarray .int, 2, (0, 0, 0), 0, 0, []), (71, .astore_n 1, 1, (1, 0, 0), 0, 0, []), (72, .iconst (0), 1, (0, 0, 0), 0, 0, []), (73, .istore_n 2, 1, (2, 0, 0), 0, 0, []), (74, .iconst (0), 1, (0, 0, 0), 0, 0, []), (75, .istore_n 3, 1, (3, 0, 0), 0, 0, [])], 76),
  (76, [true, true, true, true, false], [(76, .iload_n 3, 1, (3, 0, 0), 0, 0, []), (77, .ldc 10, 2, (900002, 0, 1), 0, 0, []), (79, .invokevirtual 12, 3, (904, 1, 999), 0, 0, []), (82, .if_icmp .ge (51), 3, (133, 0, 0), 0, 0, [])], 85),
  (85, [true, true, true, true, false], [(85, .ldc 10, 2, (900002, 0, 1), 0, 0, []), (87, .iload_n 3, 1, (3, 0, 0), 0, 0, []), (88, .invokevirtual 34, 3, (905, 2, 999), 0, 0, []), (91, .istore 4, 2, (4, 0, 0), 0, 0, []), (93, .iload 4, 2, (4, 0, 0), 0, 0, []), (95, .bipush (32), 2, (0, 0, 0), 32, 0, []), (97, .if_icmp .ne (16), 3, (113, 0, 0), 0, 0, [])], 100),
  (100, [true, true, true, true, false], [(100, .aload_n 0, 1, (0, 0, 0), 0, 0, []), (101, .aload_n 1, 1, (1, 0, 0), 0, 0, []), (102, .iconst (0), 1, (0, 0, 0), 0, 0, []), (103, .iload_n 2, 1, (2, 0, 0), 0, 0, []), (104, .invokevirtual 38, 3, (57, 4, 5), 0, 0, []), (107, .pop, 1, (0, 0, 0), 0, 0, []), (108, .iconst (0), 1, (0, 0, 0), 0, 0, []), (109, .istore_n 2, 1, (2, 0, 0), 0, 0, []), (110, .goto (17), 3, (127, 0, 0), 0, 0, [])], 113),
  (113, [true, true, true, true, true], [(113, .iload_n 2, 1, (2, 0, 0), 0, 0, []), (114, .bipush (40), 2, (0, 0, 0), 40, 0, []), (116, .if_icmp .ge (11), 3, (127, 0, 0), 0, 0, [])], 119),
  (119, [true, true, true, true, true], [(119, .aload_n 1, 1, (1, 0, 0), 0, 0, []), (120, .iload_n 2, 1, (2, 0, 0), 0, 0, []), (121, .iload 4, 2, (4, 0, 0), 0, 0, []), (123, .iastore, 1, (0, 0, 0), 0, 0, []), (124, .iinc 2 (1), 3, (2, 0, 0), 1, 0, [])], 127),
  (127, [true, true, true, true, false], [(127, .iinc 3 (1), 3, (3, 0, 0), 1, 0, []), (130, .goto (-54), 3, (76, 0, 0), 0, 0, [])], 133),
  (133, [true, false, false, false, false], [(133, .aload_n 0, 1, (0, 0, 0), 0, 0, []), (134, .aload_n 0, 1, (0, 0, 0), 0, 0, []), (135, .getfield 28, 3, (5, 2, 2), 0, 0, []), (138, .invokevirtual 42, 3, (903, 1, 999), 0, 0, []), (141, .checkcast 43, 3, (0, 0, 0), 0, 0, []), (144, .putfield 47, 3, (5, 3, 2), 0, 0, []), (147, .return_, 1, (0, 0, 0), 0, 0, [])], 148)]
def mp_54 : mj_M := (5, [], mb_54)
-- MacroPress$Names.begin()V
def mb_55 : List mj_B := [(0, [true], [(0, .aload_n 0, 1, (0, 0, 0), 0, 0, []), (1, .getfield 47, 3, (5, 3, 2), 0, 0, []), (4, .iconst (0), 1, (0, 0, 0), 0, 0, []), (5, .aload_n 0, 1, (0, 0, 0), 0, 0, []), (6, .getfield 28, 3, (5, 2, 2), 0, 0, []), (9, .iconst (0), 1, (0, 0, 0), 0, 0, []), (10, .sipush (256), 3, (0, 0, 0), 256, 0, []), (13, .invokestatic 50, 3, (902, 5, 0), 0, 0, []), (16, .aload_n 0, 1, (0, 0, 0), 0, 0, []), (17, .bipush (36), 2, (0, 0, 0), 36, 0, []), (19, .putfield 56, 3, (5, 5, 0), 0, 0, []), (22, .return_, 1, (0, 0, 0), 0, 0, [])], 23)]
def mp_55 : mj_M := (1, [], mb_55)
-- MacroPress$Names.lengthOf(I)I
def mb_56 : List mj_B := [(0, [true, true], [(0, .aload_n 0, 1, (0, 0, 0), 0, 0, []), (1, .getfield 24, 3, (5, 1, 2), 0, 0, []), (4, .iload_n 1, 1, (1, 0, 0), 0, 0, []), (5, .iconst (1), 1, (0, 0, 0), 1, 0, []), (6, .iadd, 1, (0, 0, 0), 0, 0, []), (7, .iaload, 1, (0, 0, 0), 0, 0, []), (8, .aload_n 0, 1, (0, 0, 0), 0, 0, []), (9, .getfield 24, 3, (5, 1, 2), 0, 0, []), (12, .iload_n 1, 1, (1, 0, 0), 0, 0, []), (13, .iaload, 1, (0, 0, 0), 0, 0, []), (14, .isub, 1, (0, 0, 0), 0, 0, []), (15, .ireturn, 1, (0, 0, 0), 0, 0, [])], 16)]
def mp_56 : mj_M := (2, [], mb_56)
-- MacroPress$Names.find([III)I
def mb_57 : List mj_B := [(0, [true, true, true, true, false, false, false, false, false], [(0, .iload_n 3, 1, (3, 0, 0), 0, 0, []), (1, .istore 4, 2, (4, 0, 0), 0, 0, []), (3, .iconst (0), 1, (0, 0, 0), 0, 0, []), (4, .istore 5, 2, (5, 0, 0), 0, 0, [])], 6),
  (6, [true, true, true, true, true, true, false, false, false], [(6, .iload 5, 2, (5, 0, 0), 0, 0, []), (8, .iload_n 3, 1, (3, 0, 0), 0, 0, []), (9, .if_icmp .ge (23), 3, (32, 0, 0), 0, 0, [])], 12),
  (12, [true, true, true, true, true, true, false, false, false], [(12, .bipush (31), 2, (0, 0, 0), 31, 0, []), (14, .iload 4, 2, (4, 0, 0), 0, 0, []), (16, .imul, 1, (0, 0, 0), 0, 0, []), (17, .aload_n 1, 1, (1, 0, 0), 0, 0, []), (18, .iload_n 2, 1, (2, 0, 0), 0, 0, []), (19, .iload 5, 2, (5, 0, 0), 0, 0, []), (21, .iadd, 1, (0, 0, 0), 0, 0, []), (22, .iaload, 1, (0, 0, 0), 0, 0, []), (23, .iadd, 1, (0, 0, 0), 0, 0, []), (24, .istore 4, 2, (4, 0, 0), 0, 0, []), (26, .iinc 5 (1), 3, (5, 0, 0), 1, 0, []), (29, .goto (-23), 3, (6, 0, 0), 0, 0, [])], 32),
  (32, [true, true, true, true, true, false, false, false, false], [(32, .iload 4, 2, (4, 0, 0), 0, 0, []), (34, .sipush (255), 3, (0, 0, 0), 255, 0, []), (37, .iand, 1, (0, 0, 0), 0, 0, []), (38, .istore 5, 2, (5, 0, 0), 0, 0, []), (40, .aload_n 0, 1, (0, 0, 0), 0, 0, []), (41, .getfield 28, 3, (5, 2, 2), 0, 0, []), (44, .iload 5, 2, (5, 0, 0), 0, 0, []), (46, .iaload, 1, (0, 0, 0), 0, 0, []), (47, .istore 6, 2, (6, 0, 0), 0, 0, []), (49, .iconst (0), 1, (0, 0, 0), 0, 0, []), (50, .istore 7, 2, (7, 0, 0), 0, 0, [])], 52),
  (52, [true, true, true, true, false, true, true, true, false], [(52, .iload 7, 2, (7, 0, 0), 0, 0, []), (54, .aload_n 0, 1, (0, 0, 0), 0, 0, []), (55, .getfield 56, 3, (5, 5, 0), 0, 0, []), (58, .if_icmp .ge (108), 3, (166, 0, 0), 0, 0, [])], 61),
  (61, [true, true, true, true, false, true, true, true, false], [(61, .iload 6, 2, (6, 0, 0), 0, 0, []), (63, .ifCond .lt (103), 3, (166, 0, 0), 0, 0, [])], 66),
  (66, [true, true, true, true, false, true, true, true, false], [(66, .aload_n 0, 1, (0, 0, 0), 0, 0, []), (67, .getfield 24, 3, (5, 1, 2), 0, 0, []), (70, .iload 6, 2, (6, 0, 0), 0, 0, []), (72, .iconst (1), 1, (0, 0, 0), 1, 0, []), (73, .iadd, 1, (0, 0, 0), 0, 0, []), (74, .iaload, 1, (0, 0, 0), 0, 0, []), (75, .aload_n 0, 1, (0, 0, 0), 0, 0, []), (76, .getfield 24, 3, (5, 1, 2), 0, 0, []), (79, .iload 6, 2, (6, 0, 0), 0, 0, []), (81, .iaload, 1, (0, 0, 0), 0, 0, []), (82, .isub, 1, (0, 0, 0), 0, 0, []), (83, .iload_n 3, 1, (3, 0, 0), 0, 0, []), (84, .if_icmp .ne (7), 3, (91, 0, 0), 0, 0, [])], 87),
  (87, [true, true, true, true, false, true, true, true, false], [(87, .iconst (0), 1, (0, 0, 0), 0, 0, []), (88, .goto (4), 3, (92, 0, 0), 0, 0, [])], 91),
  (91, [true, true, true, true, false, true, true, true, false], [(91, .iconst (-1), 1, (0, 0, 0), -1, 0, [])], 92),
  (92, [true, true, true, true, false, true, true, true, false], [(92, .istore 8, 2, (8, 0, 0), 0, 0, [])], 94),
  (94, [true, true, true, true, false, true, true, true, true], [(94, .iload 8, 2, (8, 0, 0), 0, 0, []), (96, .ifCond .lt (46), 3, (142, 0, 0), 0, 0, [])], 99),
  (99, [true, true, true, true, false, true, true, true, true], [(99, .iload 8, 2, (8, 0, 0), 0, 0, []), (101, .iload_n 3, 1, (3, 0, 0), 0, 0, []), (102, .if_icmp .ge (40), 3, (142, 0, 0), 0, 0, [])], 105),
  (105, [true, true, true, true, false, true, true, true, true], [(105, .aload_n 0, 1, (0, 0, 0), 0, 0, []), (106, .getfield 18, 3, (5, 0, 2), 0, 0, []), (109, .aload_n 0, 1, (0, 0, 0), 0, 0, []), (110, .getfield 24, 3, (5, 1, 2), 0, 0, []), (113, .iload 6, 2, (6, 0, 0), 0, 0, []), (115, .iaload, 1, (0, 0, 0), 0, 0, []), (116, .iload 8, 2, (8, 0, 0), 0, 0, []), (118, .iadd, 1, (0, 0, 0), 0, 0, []), (119, .caload, 1, (0, 0, 0), 0, 0, []), (120, .aload_n 1, 1, (1, 0, 0), 0, 0, []), (121, .iload_n 2, 1, (2, 0, 0), 0, 0, []), (122, .iload 8, 2, (8, 0, 0), 0, 0, []), (124, .iadd, 1, (0, 0, 0), 0, 0, []), (125, .iaload, 1, (0, 0, 0), 0, 0, []), (126, .if_icmp .ne (10), 3, (136, 0, 0), 0, 0, [])], 129),
  (129, [true, true, true, true, false, true, true, true, true], [(129, .iload 8, 2, (8, 0, 0), 0, 0, []), (131, .iconst (1), 1, (0, 0, 0), 1, 0, []), (132, .iadd, 1, (0, 0, 0), 0, 0, []), (133, .goto (4), 3, (137, 0, 0), 0, 0, [])], 136),
  (136, [true, true, true, true, false, true, true, true, false], [(136, .iconst (-1), 1, (0, 0, 0), -1, 0, [])], 137),
  (137, [true, true, true, true, false, true, true, true, false], [(137, .istore 8, 2, (8, 0, 0), 0, 0, []), (139, .goto (-45), 3, (94, 0, 0), 0, 0, [])], 142),
  (142, [true, true, true, true, false, true, true, true, true], [(142, .iload 8, 2, (8, 0, 0), 0, 0, []), (144, .iload_n 3, 1, (3, 0, 0), 0, 0, []), (145, .if_icmp .ne (6), 3, (151, 0, 0), 0, 0, [])], 148),
  (148, [false, false, false, false, false, false, true, false, false], [(148, .iload 6, 2, (6, 0, 0), 0, 0, []), (150, .ireturn, 1, (0, 0, 0), 0, 0, [])], 151),
  (151, [true, true, true, true, false, true, true, true, false], [(151, .aload_n 0, 1, (0, 0, 0), 0, 0, []), (152, .getfield 31, 3, (5, 4, 2), 0, 0, []), (155, .iload 6, 2, (6, 0, 0), 0, 0, []), (157, .iaload, 1, (0, 0, 0), 0, 0, []), (158, .istore 6, 2, (6, 0, 0), 0, 0, []), (160, .iinc 7 (1), 3, (7, 0, 0), 1, 0, []), (163, .goto (-111), 3, (52, 0, 0), 0, 0, [])], 166),
  (166, [true, true, true, true, false, true, false, false, false], [(166, .aload_n 0, 1, (0, 0, 0), 0, 0, []), (167, .getfield 56, 3, (5, 5, 0), 0, 0, []), (170, .sipush (1036), 3, (0, 0, 0), 1036, 0, []), (173, .if_icmp .lt (5), 3, (178, 0, 0), 0, 0, [])], 176),
  (176, [false, false, false, false, false, false, false, false, false], [(176, .iconst (-1), 1, (0, 0, 0), -1, 0, []), (177, .ireturn, 1, (0, 0, 0), 0, 0, [])], 178),
  (178, [true, true, true, true, false, true, false, false, false], [(178, .aload_n 0, 1, (0, 0, 0), 0, 0, []), (179, .getfield 24, 3, (5, 1, 2), 0, 0, []), (182, .aload_n 0, 1, (0, 0, 0), 0, 0, []), (183, .getfield 56, 3, (5, 5, 0), 0, 0, []), (186, .iaload, 1, (0, 0, 0), 0, 0, []), (187, .istore 7, 2, (7, 0, 0), 0, 0, []), (189, .iconst (0), 1, (0, 0, 0), 0, 0, []), (190, .istore 8, 2, (8, 0, 0), 0, 0, [])], 192),
  (192, [true, true, true, true, false, true, false, true, true], [(192, .iload 8, 2, (8, 0, 0), 0, 0, []), (194, .iload_n 3, 1, (3, 0, 0), 0, 0, []), (195, .if_icmp .ge (26), 3, (221, 0, 0), 0, 0, [])], 198),
  (198, [true, true, true, true, false, true, false, true, true], [(198, .aload_n 0, 1, (0, 0, 0), 0, 0, []), (199, .getfield 18, 3, (5, 0, 2), 0, 0, []), (202, .iload 7, 2, (7, 0, 0), 0, 0, []), (204, .iload 8, 2, (8, 0, 0), 0, 0, []), (206, .iadd, 1, (0, 0, 0), 0, 0, []), (207, .aload_n 1, 1, (1, 0, 0), 0, 0, []), (208, .iload_n 2, 1, (2, 0, 0), 0, 0, []), (209, .iload 8, 2, (8, 0, 0), 0, 0, []), (211, .iadd, 1, (0, 0, 0), 0, 0, []), (212, .iaload, 1, (0, 0, 0), 0, 0, []), (213, .i2c, 1, (0, 0, 0), 0, 0, []), (214, .castore, 1, (0, 0, 0), 0, 0, []), (215, .iinc 8 (1), 3, (8, 0, 0), 1, 0, []), (218, .goto (-26), 3, (192, 0, 0), 0, 0, [])], 221),
  (221, [true, false, false, true, false, true, false, true, false], [(221, .aload_n 0, 1, (0, 0, 0), 0, 0, []), (222, .getfield 24, 3, (5, 1, 2), 0, 0, []), (225, .aload_n 0, 1, (0, 0, 0), 0, 0, []), (226, .getfield 56, 3, (5, 5, 0), 0, 0, []), (229, .iconst (1), 1, (0, 0, 0), 1, 0, []), (230, .iadd, 1, (0, 0, 0), 0, 0, []), (231, .iload 7, 2, (7, 0, 0), 0, 0, []), (233, .iload_n 3, 1, (3, 0, 0), 0, 0, []), (234, .iadd, 1, (0, 0, 0), 0, 0, []), (235, .iastore, 1, (0, 0, 0), 0, 0, []), (236, .aload_n 0, 1, (0, 0, 0), 0, 0, []), (237, .getfield 31, 3, (5, 4, 2), 0, 0, []), (240, .aload_n 0, 1, (0, 0, 0), 0, 0, []), (241, .getfield 56, 3, (5, 5, 0), 0, 0, []), (244, .aload_n 0, 1, (0, 0, 0), 0, 0, []), (245, .getfield 28, 3, (5, 2, 2), 0, 0, []), (248, .iload 5, 2, (5, 0, 0), 0, 0, []), (250, .iaload, 1, (0, 0, 0), 0, 0, []), (251, .iastore, 1, (0, 0, 0), 0, 0, []), (252, .aload_n 0, 1, (0, 0, 0), 0, 0, []), (253, .getfield 28, 3, (5, 2, 2), 0, 0, []), (256, .iload 5, 2, (5, 0, 0), 0, 0, []), (258, .aload_n 0, 1, (0, 0, 0), 0, 0, []), (259, .getfield 56, 3, (5, 5, 0), 0, 0, []), (262, .iastore, 1, (0, 0, 0), 0, 0, []), (263, .aload_n 0, 1, (0, 0, 0), 0, 0, []), (264, .dup, 1, (0, 0, 0), 0, 0, []), (265, .getfield 56, 3, (5, 5, 0), 0, 0, []), (268, .iconst (1), 1, (0, 0, 0), 1, 0, []), (269, .iadd, 1, (0, 0, 0), 0, 0, []), (270, .putfield 56, 3, (5, 5, 0), 0, 0, []), (273, .aload_n 0, 1, (0, 0, 0), 0, 0, []), (274, .getfield 56, 3, (5, 5, 0), 0, 0, []), (277, .iconst (1), 1, (0, 0, 0), 1, 0, []), (278, .isub, 1, (0, 0, 0), 0, 0, []), (279, .ireturn, 1, (0, 0, 0), 0, 0, [])], 280)]
def mp_57 : mj_M := (9, [], mb_57)
-- MacroPress$Performer.<init>(LMacroPress$Expander;LMacroPress$Source;LMacroPress$Store;LMacroPress$Macros;LMacroPress$Progress;)V
def mb_58 : List mj_B := [(0, [true, true, true, true, true, true], [(0, .aload_n 0, 1, (0, 0, 0), 0, 0, []), (1, .invokespecial 3, 3, (0, 0, 1), 0, 0, []), (4, .aload_n 0, 1, (0, 0, 0), 0, 0, []), (5, .sipush (8000), 3, (0, 0, 0), 8000, 0, []), (8, .newarray .int, 2, (0, 0, 0), 0, 0, []), (10, .putfield 9, 3, (6, 0, 2), 0, 0, []), (13, .aload_n 0, 1, (0, 0, 0), 0, 0, []), (14, .aload_n 1, 1, (1, 0, 0), 0, 0, []), (15, .putfield 15, 3, (6, 2, 2), 0, 0, []), (18, .aload_n 0, 1, (0, 0, 0), 0, 0, []), (19, .aload_n 2, 1, (2, 0, 0), 0, 0, []), (20, .putfield 19, 3, (6, 3, 2), 0, 0, []), (23, .aload_n 0, 1, (0, 0, 0), 0, 0, []), (24, .aload_n 3, 1, (3, 0, 0), 0, 0, []), (25, .putfield 23, 3, (6, 4, 2), 0, 0, []), (28, .aload_n 0, 1, (0, 0, 0), 0, 0, []), (29, .aload 4, 2, (4, 0, 0), 0, 0, []), (31, .putfield 27, 3, (6, 5, 2), 0, 0, []), (34, .aload_n 0, 1, (0, 0, 0), 0, 0, []), (35, .aload 5, 2, (5, 0, 0), 0, 0, []), (37, .putfield 31, 3, (6, 6, 2), 0, 0, []), (40, .return_, 1, (0, 0, 0), 0, 0, [])], 41)]
def mp_58 : mj_M := (6, [], mb_58)
-- MacroPress$Performer.perform(I)I
def mb_59 : List mj_B := [(0, [true, true, false, false], [(0, .aload_n 0, 1, (0, 0, 0), 0, 0, []), (1, .getfield 23, 3, (6, 4, 2), 0, 0, []), (4, .iload_n 1, 1, (1, 0, 0), 0, 0, []), (5, .invokevirtual 35, 3, (96, 2, 9), 0, 0, []), (8, .istore_n 2, 1, (2, 0, 0), 0, 0, []), (9, .iload_n 2, 1, (2, 0, 0), 0, 0, []), (10, .invokestatic 41, 3, (94, 1, 0), 0, 0, []), (13, .istore_n 3, 1, (3, 0, 0), 0, 0, []), (14, .iload_n 2, 1, (2, 0, 0), 0, 0, []), (15, .invokestatic 44, 3, (93, 1, 0), 0, 0, []), (18, .tableswitch (58) (1) (4) #[52, 58, 30, 45], 30, (76, 0, 0), 0, 0, [(1, 70), (2, 76), (3, 48), (4, 63)])], 48),
  (48, [true, false, false, true], [(48, .aload_n 0, 1, (0, 0, 0), 0, 0, []), (49, .iload_n 3, 1, (3, 0, 0), 0, 0, []), (50, .bipush (8), 2, (0, 0, 0), 8, 0, []), (52, .ishr, 1, (0, 0, 0), 0, 0, []), (53, .iload_n 3, 1, (3, 0, 0), 0, 0, []), (54, .sipush (255), 3, (0, 0, 0), 255, 0, []), (57, .iand, 1, (0, 0, 0), 0, 0, []), (58, .invokevirtual 47, 3, (60, 3, 6), 0, 0, []), (61, .iconst (0), 1, (0, 0, 0), 0, 0, []), (62, .ireturn, 1, (0, 0, 0), 0, 0, [])], 63),
  (63, [true, false, false, true], [(63, .aload_n 0, 1, (0, 0, 0), 0, 0, []), (64, .iload_n 3, 1, (3, 0, 0), 0, 0, []), (65, .invokevirtual 51, 3, (61, 2, 6), 0, 0, []), (68, .iconst (0), 1, (0, 0, 0), 0, 0, []), (69, .ireturn, 1, (0, 0, 0), 0, 0, [])], 70),
  (70, [true, false, false, true], [(70, .aload_n 0, 1, (0, 0, 0), 0, 0, []), (71, .iload_n 3, 1, (3, 0, 0), 0, 0, []), (72, .invokevirtual 55, 3, (62, 2, 6), 0, 0, []), (75, .ireturn, 1, (0, 0, 0), 0, 0, [])], 76),
  (76, [true, false, false, false], [(76, .aload_n 0, 1, (0, 0, 0), 0, 0, []), (77, .getfield 31, 3, (6, 6, 2), 0, 0, []), (80, .bipush (11), 2, (0, 0, 0), 11, 0, []), (82, .invokevirtual 58, 3, (80, 2, 7), 0, 0, []), (85, .ireturn, 1, (0, 0, 0), 0, 0, [])], 86)]
def mp_59 : mj_M := (4, [], mb_59)
-- MacroPress$Performer.performCharacter(II)V
def mb_60 : List mj_B := [(0, [true, true, true], [(0, .iload_n 1, 1, (1, 0, 0), 0, 0, []), (1, .lookupswitch (70) #[(1, 35), (2, 46), (6, 57)], 35, (71, 0, 0), 0, 0, [(1, 36), (2, 47), (6, 58)])], 36),
  (36, [true, false, false], [(36, .aload_n 0, 1, (0, 0, 0), 0, 0, []), (37, .getfield 23, 3, (6, 4, 2), 0, 0, []), (40, .iconst (0), 1, (0, 0, 0), 0, 0, []), (41, .invokevirtual 63, 3, (99, 2, 9), 0, 0, []), (44, .goto (32), 3, (76, 0, 0), 0, 0, [])], 47),
  (47, [true, false, false], [(47, .aload_n 0, 1, (0, 0, 0), 0, 0, []), (48, .getfield 23, 3, (6, 4, 2), 0, 0, []), (51, .iconst (0), 1, (0, 0, 0), 0, 0, []), (52, .invokevirtual 66, 3, (100, 2, 9), 0, 0, []), (55, .goto (21), 3, (76, 0, 0), 0, 0, [])], 58),
  (58, [true, false, false], [(58, .aload_n 0, 1, (0, 0, 0), 0, 0, []), (59, .getfield 31, 3, (6, 6, 2), 0, 0, []), (62, .bipush (12), 2, (0, 0, 0), 12, 0, []), (64, .invokevirtual 58, 3, (80, 2, 7), 0, 0, []), (67, .pop, 1, (0, 0, 0), 0, 0, []), (68, .goto (8), 3, (76, 0, 0), 0, 0, [])], 71),
  (71, [true, false, true], [(71, .aload_n 0, 1, (0, 0, 0), 0, 0, []), (72, .iload_n 2, 1, (2, 0, 0), 0, 0, []), (73, .invokevirtual 51, 3, (61, 2, 6), 0, 0, [])], 76),
  (76, [false, false, false], [(76, .return_, 1, (0, 0, 0), 0, 0, [])], 77)]
def mp_60 : mj_M := (3, [], mb_60)
-- MacroPress$Performer.emit(I)V
def mb_61 : List mj_B := [(0, [true, true], [(0, .aload_n 0, 1, (0, 0, 0), 0, 0, []), (1, .getfield 69, 3, (6, 1, 0), 0, 0, []), (4, .sipush (8000), 3, (0, 0, 0), 8000, 0, []), (7, .if_icmp .lt (12), 3, (19, 0, 0), 0, 0, [])], 10),
  (10, [true, true], [(10, .aload_n 0, 1, (0, 0, 0), 0, 0, []), (11, .getfield 31, 3, (6, 6, 2), 0, 0, []), (14, .iconst (2), 1, (0, 0, 0), 2, 0, []), (15, .invokevirtual 58, 3, (80, 2, 7), 0, 0, []), (18, .pop, 1, (0, 0, 0), 0, 0, [])], 19),
  (19, [true, true], [(19, .aload_n 0, 1, (0, 0, 0), 0, 0, []), (20, .getfield 9, 3, (6, 0, 2), 0, 0, []), (23, .aload_n 0, 1, (0, 0, 0), 0, 0, []), (24, .getfield 69, 3, (6, 1, 0), 0, 0, []), (27, .iload_n 1, 1, (1, 0, 0), 0, 0, []), (28, .iastore, 1, (0, 0, 0), 0, 0, []), (29, .aload_n 0, 1, (0, 0, 0), 0, 0, []), (30, .dup, 1, (0, 0, 0), 0, 0, []), (31, .getfield 69, 3, (6, 1, 0), 0, 0, []), (34, .iconst (1), 1, (0, 0, 0), 1, 0, []), (35, .iadd, 1, (0, 0, 0), 0, 0, []), (36, .putfield 69, 3, (6, 1, 0), 0, 0, []), (39, .return_, 1, (0, 0, 0), 0, 0, [])], 40)]
def mp_61 : mj_M := (2, [], mb_61)
-- MacroPress$Performer.performPrimitive(I)I
def mb_62 : List mj_B := [(0, [true, true], [(0, .iload_n 1, 1, (1, 0, 0), 0, 0, []), (1, .tableswitch (75) (19) (23) #[35, 37, 45, 55, 65], 35, (76, 0, 0), 0, 0, [(19, 36), (20, 38), (21, 46), (22, 56), (23, 66)])], 36),
  (36, [false, false], [(36, .iconst (0), 1, (0, 0, 0), 0, 0, []), (37, .ireturn, 1, (0, 0, 0), 0, 0, [])], 38),
  (38, [true, false], [(38, .aload_n 0, 1, (0, 0, 0), 0, 0, []), (39, .bipush (10), 2, (0, 0, 0), 10, 0, []), (41, .invokevirtual 51, 3, (61, 2, 6), 0, 0, []), (44, .iconst (0), 1, (0, 0, 0), 0, 0, []), (45, .ireturn, 1, (0, 0, 0), 0, 0, [])], 46),
  (46, [true, false], [(46, .aload_n 0, 1, (0, 0, 0), 0, 0, []), (47, .getfield 23, 3, (6, 4, 2), 0, 0, []), (50, .iconst (1), 1, (0, 0, 0), 1, 0, []), (51, .invokevirtual 63, 3, (99, 2, 9), 0, 0, []), (54, .iconst (0), 1, (0, 0, 0), 0, 0, []), (55, .ireturn, 1, (0, 0, 0), 0, 0, [])], 56),
  (56, [true, false], [(56, .aload_n 0, 1, (0, 0, 0), 0, 0, []), (57, .getfield 23, 3, (6, 4, 2), 0, 0, []), (60, .iconst (1), 1, (0, 0, 0), 1, 0, []), (61, .invokevirtual 66, 3, (100, 2, 9), 0, 0, []), (64, .iconst (0), 1, (0, 0, 0), 0, 0, []), (65, .ireturn, 1, (0, 0, 0), 0, 0, [])], 66),
  (66, [true, false], [(66, .aload_n 0, 1, (0, 0, 0), 0, 0, []), (67, .getfield 31, 3, (6, 6, 2), 0, 0, []), (70, .bipush (6), 2, (0, 0, 0), 6, 0, []), (72, .invokevirtual 58, 3, (80, 2, 7), 0, 0, []), (75, .ireturn, 1, (0, 0, 0), 0, 0, [])], 76),
  (76, [false, true], [(76, .iload_n 1, 1, (1, 0, 0), 0, 0, []), (77, .ireturn, 1, (0, 0, 0), 0, 0, [])], 78)]
def mp_62 : mj_M := (2, [], mb_62)
-- MacroPress$Performer.prefixed()I
def mb_63 : List mj_B := [(0, [true, false, false], [(0, .bipush (36), 2, (0, 0, 0), 36, 0, []), (2, .istore_n 1, 1, (1, 0, 0), 0, 0, []), (3, .iconst (0), 1, (0, 0, 0), 0, 0, []), (4, .istore_n 2, 1, (2, 0, 0), 0, 0, [])], 5),
  (5, [true, true, true], [(5, .iload_n 2, 1, (2, 0, 0), 0, 0, []), (6, .ldc 73, 2, (0, 0, 0), 1000000000, 0, []), (8, .if_icmp .ge (36), 3, (44, 0, 0), 0, 0, [])], 11),
  (11, [true, true, true], [(11, .iload_n 1, 1, (1, 0, 0), 0, 0, []), (12, .bipush (36), 2, (0, 0, 0), 36, 0, []), (14, .if_icmp .eq (9), 3, (23, 0, 0), 0, 0, [])], 17),
  (17, [true, true, true], [(17, .iload_n 1, 1, (1, 0, 0), 0, 0, []), (18, .bipush (19), 2, (0, 0, 0), 19, 0, []), (20, .if_icmp .ne (24), 3, (44, 0, 0), 0, 0, [])], 23),
  (23, [true, false, true], [(23, .aload_n 0, 1, (0, 0, 0), 0, 0, []), (24, .getfield 23, 3, (6, 4, 2), 0, 0, []), (27, .aload_n 0, 1, (0, 0, 0), 0, 0, []), (28, .getfield 15, 3, (6, 2, 2), 0, 0, []), (31, .invokevirtual 74, 3, (23, 1, 3), 0, 0, []), (34, .invokevirtual 80, 3, (97, 2, 9), 0, 0, []), (37, .istore_n 1, 1, (1, 0, 0), 0, 0, []), (38, .iinc 2 (1), 3, (2, 0, 0), 1, 0, []), (41, .goto (-36), 3, (5, 0, 0), 0, 0, [])], 44),
  (44, [true, true, false], [(44, .iload_n 1, 1, (1, 0, 0), 0, 0, []), (45, .bipush (25), 2, (0, 0, 0), 25, 0, []), (47, .if_icmp .lt (13), 3, (60, 0, 0), 0, 0, [])], 50),
  (50, [true, true, false], [(50, .iload_n 1, 1, (1, 0, 0), 0, 0, []), (51, .bipush (35), 2, (0, 0, 0), 35, 0, []), (53, .if_icmp .gt (7), 3, (60, 0, 0), 0, 0, [])], 56),
  (56, [false, true, false], [(56, .iload_n 1, 1, (1, 0, 0), 0, 0, []), (57, .goto (12), 3, (69, 0, 0), 0, 0, [])], 60),
  (60, [true, false, false], [(60, .aload_n 0, 1, (0, 0, 0), 0, 0, []), (61, .getfield 31, 3, (6, 6, 2), 0, 0, []), (64, .bipush (6), 2, (0, 0, 0), 6, 0, []), (66, .invokevirtual 58, 3, (80, 2, 7), 0, 0, [])], 69),
  (69, [false, false, false], [(69, .ireturn, 1, (0, 0, 0), 0, 0, [])], 70)]
def mp_63 : mj_M := (3, [], mb_63)
-- MacroPress$Performer.assign(I)V
def mb_64 : List mj_B := [(0, [true, true, false, false, false], [(0, .iload_n 1, 1, (1, 0, 0), 0, 0, []), (1, .bipush (36), 2, (0, 0, 0), 36, 0, []), (3, .if_icmp .ne (7), 3, (10, 0, 0), 0, 0, [])], 6),
  (6, [true, true, false, false, false], [(6, .iconst (1), 1, (0, 0, 0), 1, 0, []), (7, .goto (4), 3, (11, 0, 0), 0, 0, [])], 10),
  (10, [true, true, false, false, false], [(10, .iconst (0), 1, (0, 0, 0), 0, 0, [])], 11),
  (11, [true, true, false, false, false], [(11, .istore_n 2, 1, (2, 0, 0), 0, 0, []), (12, .iload_n 2, 1, (2, 0, 0), 0, 0, []), (13, .ifCond .eq (10), 3, (23, 0, 0), 0, 0, [])], 16),
  (16, [true, false, true, false, false], [(16, .aload_n 0, 1, (0, 0, 0), 0, 0, []), (17, .invokevirtual 83, 3, (63, 1, 6), 0, 0, []), (20, .goto (4), 3, (24, 0, 0), 0, 0, [])], 23),
  (23, [true, true, true, false, false], [(23, .iload_n 1, 1, (1, 0, 0), 0, 0, [])], 24),
  (24, [true, false, true, false, false], [(24, .istore_n 3, 1, (3, 0, 0), 0, 0, []), (25, .iload_n 3, 1, (3, 0, 0), 0, 0, []), (26, .tableswitch (238) (25) (32) #[46, 46, 46, 46, 91, 121, 158, 196], 46, (264, 0, 0), 0, 0, [(25, 72), (26, 72), (27, 72), (28, 72), (29, 117), (30, 147), (31, 184), (32, 222)])], 72),
  (72, [true, false, true, true, false], [(72, .aload_n 0, 1, (0, 0, 0), 0, 0, []), (73, .iload_n 3, 1, (3, 0, 0), 0, 0, []), (74, .bipush (26), 2, (0, 0, 0), 26, 0, []), (76, .if_icmp .eq (9), 3, (85, 0, 0), 0, 0, [])], 79),
  (79, [false, false, true, true, false], [(79, .iload_n 3, 1, (3, 0, 0), 0, 0, []), (80, .bipush (28), 2, (0, 0, 0), 28, 0, []), (82, .if_icmp .ne (7), 3, (89, 0, 0), 0, 0, [])], 85),
  (85, [false, false, true, true, false], [(85, .iconst (1), 1, (0, 0, 0), 1, 0, []), (86, .goto (4), 3, (90, 0, 0), 0, 0, [])], 89),
  (89, [false, false, true, true, false], [(89, .iconst (0), 1, (0, 0, 0), 0, 0, [])], 90),
  (90, [false, false, true, true, false], [(90, .iload_n 2, 1, (2, 0, 0), 0, 0, []), (91, .ifCond .ne (15), 3, (106, 0, 0), 0, 0, [])], 94),
  (94, [false, false, false, true, false], [(94, .iload_n 3, 1, (3, 0, 0), 0, 0, []), (95, .bipush (27), 2, (0, 0, 0), 27, 0, []), (97, .if_icmp .eq (9), 3, (106, 0, 0), 0, 0, [])], 100),
  (100, [false, false, false, true, false], [(100, .iload_n 3, 1, (3, 0, 0), 0, 0, []), (101, .bipush (28), 2, (0, 0, 0), 28, 0, []), (103, .if_icmp .ne (7), 3, (110, 0, 0), 0, 0, [])], 106),
  (106, [false, false, false, false, false], [(106, .iconst (1), 1, (0, 0, 0), 1, 0, []), (107, .goto (4), 3, (111, 0, 0), 0, 0, [])], 110),
  (110, [false, false, false, false, false], [(110, .iconst (0), 1, (0, 0, 0), 0, 0, [])], 111),
  (111, [false, false, false, false, false], [(111, .invokevirtual 86, 3, (66, 3, 6), 0, 0, []), (114, .goto (194), 3, (308, 0, 0), 0, 0, [])], 117),
  (117, [true, false, true, false, false], [(117, .aload_n 0, 1, (0, 0, 0), 0, 0, []), (118, .invokevirtual 90, 3, (65, 1, 6), 0, 0, []), (121, .istore 4, 2, (4, 0, 0), 0, 0, []), (123, .aload_n 0, 1, (0, 0, 0), 0, 0, []), (124, .getfield 23, 3, (6, 4, 2), 0, 0, []), (127, .iload 4, 2, (4, 0, 0), 0, 0, []), (129, .aload_n 0, 1, (0, 0, 0), 0, 0, []), (130, .getfield 23, 3, (6, 4, 2), 0, 0, []), (133, .aload_n 0, 1, (0, 0, 0), 0, 0, []), (134, .invokevirtual 93, 3, (69, 1, 6), 0, 0, []), (137, .invokevirtual 35, 3, (96, 2, 9), 0, 0, []), (140, .iload_n 2, 1, (2, 0, 0), 0, 0, []), (141, .invokevirtual 96, 3, (98, 4, 9), 0, 0, []), (144, .goto (164), 3, (308, 0, 0), 0, 0, [])], 147),
  (147, [true, false, true, false, false], [(147, .aload_n 0, 1, (0, 0, 0), 0, 0, []), (148, .invokevirtual 90, 3, (65, 1, 6), 0, 0, []), (151, .istore 4, 2, (4, 0, 0), 0, 0, []), (153, .aload_n 0, 1, (0, 0, 0), 0, 0, []), (154, .invokevirtual 100, 3, (70, 1, 6), 0, 0, []), (157, .aload_n 0, 1, (0, 0, 0), 0, 0, []), (158, .getfield 23, 3, (6, 4, 2), 0, 0, []), (161, .iload 4, 2, (4, 0, 0), 0, 0, []), (163, .iconst (4), 1, (0, 0, 0), 4, 0, []), (164, .aload_n 0, 1, (0, 0, 0), 0, 0, []), (165, .getfield 15, 3, (6, 2, 2), 0, 0, []), (168, .sipush (255), 3, (0, 0, 0), 255, 0, []), (171, .invokevirtual 103, 3, (44, 2, 3), 0, 0, []), (174, .invokestatic 106, 3, (92, 2, 0), 0, 0, []), (177, .iload_n 2, 1, (2, 0, 0), 0, 0, []), (178, .invokevirtual 96, 3, (98, 4, 9), 0, 0, []), (181, .goto (127), 3, (308, 0, 0), 0, 0, [])], 184),
  (184, [true, false, true, false, false], [(184, .iconst (0), 1, (0, 0, 0), 0, 0, []), (185, .aload_n 0, 1, (0, 0, 0), 0, 0, []), (186, .getfield 15, 3, (6, 2, 2), 0, 0, []), (189, .sipush (255), 3, (0, 0, 0), 255, 0, []), (192, .invokevirtual 103, 3, (44, 2, 3), 0, 0, []), (195, .iadd, 1, (0, 0, 0), 0, 0, []), (196, .istore 4, 2, (4, 0, 0), 0, 0, []), (198, .aload_n 0, 1, (0, 0, 0), 0, 0, []), (199, .invokevirtual 100, 3, (70, 1, 6), 0, 0, []), (202, .aload_n 0, 1, (0, 0, 0), 0, 0, []), (203, .getfield 23, 3, (6, 4, 2), 0, 0, []), (206, .iload 4, 2, (4, 0, 0), 0, 0, []), (208, .aload_n 0, 1, (0, 0, 0), 0, 0, []), (209, .getfield 15, 3, (6, 2, 2), 0, 0, []), (212, .invokevirtual 110, 3, (38, 1, 3), 0, 0, []), (215, .iload_n 2, 1, (2, 0, 0), 0, 0, []), (216, .invokevirtual 96, 3, (98, 4, 9), 0, 0, []), (219, .goto (89), 3, (308, 0, 0), 0, 0, [])], 222),
  (222, [true, false, true, false, false], [(222, .sipush (256), 3, (0, 0, 0), 256, 0, []), (225, .aload_n 0, 1, (0, 0, 0), 0, 0, []), (226, .getfield 15, 3, (6, 2, 2), 0, 0, []), (229, .sipush (255), 3, (0, 0, 0), 255, 0, []), (232, .invokevirtual 103, 3, (44, 2, 3), 0, 0, []), (235, .iadd, 1, (0, 0, 0), 0, 0, []), (236, .istore 4, 2, (4, 0, 0), 0, 0, []), (238, .aload_n 0, 1, (0, 0, 0), 0, 0, []), (239, .invokevirtual 100, 3, (70, 1, 6), 0, 0, []), (242, .aload_n 0, 1, (0, 0, 0), 0, 0, []), (243, .getfield 23, 3, (6, 4, 2), 0, 0, []), (246, .iload 4, 2, (4, 0, 0), 0, 0, []), (248, .aload_n 0, 1, (0, 0, 0), 0, 0, []), (249, .getfield 15, 3, (6, 2, 2), 0, 0, []), (252, .bipush (15), 2, (0, 0, 0), 15, 0, []), (254, .invokevirtual 103, 3, (44, 2, 3), 0, 0, []), (257, .iload_n 2, 1, (2, 0, 0), 0, 0, []), (258, .invokevirtual 96, 3, (98, 4, 9), 0, 0, []), (261, .goto (47), 3, (308, 0, 0), 0, 0, [])], 264),
  (264, [true, false, true, true, false], [(264, .aload_n 0, 1, (0, 0, 0), 0, 0, []), (265, .invokevirtual 113, 3, (71, 1, 6), 0, 0, []), (268, .istore 4, 2, (4, 0, 0), 0, 0, []), (270, .aload_n 0, 1, (0, 0, 0), 0, 0, []), (271, .invokevirtual 116, 3, (72, 1, 6), 0, 0, []), (274, .aload_n 0, 1, (0, 0, 0), 0, 0, []), (275, .getfield 23, 3, (6, 4, 2), 0, 0, []), (278, .iload 4, 2, (4, 0, 0), 0, 0, []), (280, .aload_n 0, 1, (0, 0, 0), 0, 0, []), (281, .iload_n 3, 1, (3, 0, 0), 0, 0, []), (282, .aload_n 0, 1, (0, 0, 0), 0, 0, []), (283, .getfield 23, 3, (6, 4, 2), 0, 0, []), (286, .getfield 119, 3, (9, 0, 2), 0, 0, []), (289, .iload 4, 2, (4, 0, 0), 0, 0, []), (291, .iaload, 1, (0, 0, 0), 0, 0, []), (292, .i2l, 1, (0, 0, 0), 0, 0, []), (293, .aload_n 0, 1, (0, 0, 0), 0, 0, []), (294, .getfield 15, 3, (6, 2, 2), 0, 0, []), (297, .invokevirtual 110, 3, (38, 1, 3), 0, 0, []), (300, .i2l, 1, (0, 0, 0), 0, 0, []), (301, .invokevirtual 122, 3, (74, 4, 6), 0, 0, []), (304, .iload_n 2, 1, (2, 0, 0), 0, 0, []), (305, .invokevirtual 96, 3, (98, 4, 9), 0, 0, [])], 308),
  (308, [false, false, false, false, false], [(308, .return_, 1, (0, 0, 0), 0, 0, [])], 309)]
def mp_64 : mj_M := (5, [], mb_64)
-- MacroPress$Performer.target()I
def mb_65 : List mj_B := [(0, [true, false, false], [(0, .aload_n 0, 1, (0, 0, 0), 0, 0, []), (1, .getfield 19, 3, (6, 3, 2), 0, 0, []), (4, .iconst (0), 1, (0, 0, 0), 0, 0, []), (5, .invokevirtual 126, 3, (85, 2, 8), 0, 0, []), (8, .istore_n 1, 1, (1, 0, 0), 0, 0, []), (9, .iconst (0), 1, (0, 0, 0), 0, 0, []), (10, .istore_n 2, 1, (2, 0, 0), 0, 0, [])], 11),
  (11, [true, true, true], [(11, .iload_n 2, 1, (2, 0, 0), 0, 0, []), (12, .ldc 73, 2, (0, 0, 0), 1000000000, 0, []), (14, .if_icmp .ge (25), 3, (39, 0, 0), 0, 0, [])], 17),
  (17, [true, true, true], [(17, .iload_n 1, 1, (1, 0, 0), 0, 0, []), (18, .invokestatic 132, 3, (190, 1, 0), 0, 0, []), (21, .ifCond .eq (18), 3, (39, 0, 0), 0, 0, [])], 24),
  (24, [true, false, true], [(24, .aload_n 0, 1, (0, 0, 0), 0, 0, []), (25, .getfield 19, 3, (6, 3, 2), 0, 0, []), (28, .iconst (0), 1, (0, 0, 0), 0, 0, []), (29, .invokevirtual 126, 3, (85, 2, 8), 0, 0, []), (32, .istore_n 1, 1, (1, 0, 0), 0, 0, []), (33, .iinc 2 (1), 3, (2, 0, 0), 1, 0, []), (36, .goto (-25), 3, (11, 0, 0), 0, 0, [])], 39),
  (39, [true, true, false], [(39, .iload_n 1, 1, (1, 0, 0), 0, 0, []), (40, .invokestatic 138, 3, (186, 1, 0), 0, 0, []), (43, .ifCond .ne (20), 3, (63, 0, 0), 0, 0, [])], 46),
  (46, [true, true, false], [(46, .iload_n 1, 1, (1, 0, 0), 0, 0, []), (47, .invokestatic 141, 3, (187, 1, 0), 0, 0, []), (50, .ifCond .ne (13), 3, (63, 0, 0), 0, 0, [])], 53),
  (53, [true, true, false], [(53, .aload_n 0, 1, (0, 0, 0), 0, 0, []), (54, .getfield 31, 3, (6, 6, 2), 0, 0, []), (57, .bipush (6), 2, (0, 0, 0), 6, 0, []), (59, .invokevirtual 58, 3, (80, 2, 7), 0, 0, []), (62, .pop, 1, (0, 0, 0), 0, 0, [])], 63),
  (63, [false, true, false], [(63, .iload_n 1, 1, (1, 0, 0), 0, 0, []), (64, .invokestatic 144, 3, (192, 1, 0), 0, 0, []), (67, .ireturn, 1, (0, 0, 0), 0, 0, [])], 68)]
def mp_65 : mj_M := (3, [], mb_65)
-- MacroPress$Performer.define(ZZ)V
def mb_66 : List mj_B := [(0, [true, true, true, false, false, false, false, false, false, false], [(0, .aload_n 0, 1, (0, 0, 0), 0, 0, []), (1, .invokevirtual 90, 3, (65, 1, 6), 0, 0, []), (4, .istore_n 3, 1, (3, 0, 0), 0, 0, []), (5, .aload_n 0, 1, (0, 0, 0), 0, 0, []), (6, .invokevirtual 147, 3, (67, 1, 6), 0, 0, []), (9, .istore 4, 2, (4, 0, 0), 0, 0, []), (11, .aload_n 0, 1, (0, 0, 0), 0, 0, []), (12, .getfield 27, 3, (6, 5, 2), 0, 0, []), (15, .invokevirtual 150, 3, (51, 1, 4), 0, 0, []), (18, .iconst (0), 1, (0, 0, 0), 0, 0, []), (19, .istore 5, 2, (5, 0, 0), 0, 0, []), (21, .iconst (0), 1, (0, 0, 0), 0, 0, []), (22, .istore 6, 2, (6, 0, 0), 0, 0, []), (24, .iconst (0), 1, (0, 0, 0), 0, 0, []), (25, .istore 7, 2, (7, 0, 0), 0, 0, [])], 27),
  (27, [true, true, true, true, true, true, true, true, false, false], [(27, .iload 7, 2, (7, 0, 0), 0, 0, []), (29, .ldc 73, 2, (0, 0, 0), 1000000000, 0, []), (31, .if_icmp .ge (128), 3, (159, 0, 0), 0, 0, [])], 34),
  (34, [true, true, true, true, true, true, true, true, false, false], [(34, .iload 5, 2, (5, 0, 0), 0, 0, []), (36, .ifCond .lt (123), 3, (159, 0, 0), 0, 0, [])], 39),
  (39, [true, true, true, true, true, true, true, true, false, false], [(39, .iload_n 1, 1, (1, 0, 0), 0, 0, []), (40, .ifCond .eq (14), 3, (54, 0, 0), 0, 0, [])], 43),
  (43, [true, true, true, true, true, true, true, true, false, false], [(43, .aload_n 0, 1, (0, 0, 0), 0, 0, []), (44, .getfield 15, 3, (6, 2, 2), 0, 0, []), (47, .iconst (0), 1, (0, 0, 0), 0, 0, []), (48, .invokevirtual 155, 3, (22, 2, 3), 0, 0, []), (51, .goto (11), 3, (62, 0, 0), 0, 0, [])], 54),
  (54, [true, true, true, true, true, true, true, true, false, false], [(54, .aload_n 0, 1, (0, 0, 0), 0, 0, []), (55, .getfield 19, 3, (6, 3, 2), 0, 0, []), (58, .iconst (0), 1, (0, 0, 0), 0, 0, []), (59, .invokevirtual 126, 3, (85, 2, 8), 0, 0, [])], 62),
  (62, [true, true, true, true, true, true, true, true, false, false], [(62, .istore 8, 2, (8, 0, 0), 0, 0, []), (64, .iload 8, 2, (8, 0, 0), 0, 0, []), (66, .invokestatic 158, 3, (189, 1, 0), 0, 0, []), (69, .istore 9, 2, (9, 0, 0), 0, 0, []), (71, .iload 6, 2, (6, 0, 0), 0, 0, []), (73, .ifCond .eq (24), 3, (97, 0, 0), 0, 0, [])], 76),
  (76, [true, true, true, true, true, true, false, true, true, false], [(76, .aload_n 0, 1, (0, 0, 0), 0, 0, []), (77, .getfield 27, 3, (6, 5, 2), 0, 0, []), (80, .aload_n 0, 1, (0, 0, 0), 0, 0, []), (81, .iload 8, 2, (8, 0, 0), 0, 0, []), (83, .iload 4, 2, (4, 0, 0), 0, 0, []), (85, .invokevirtual 161, 3, (68, 3, 6), 0, 0, []), (88, .invokevirtual 164, 3, (50, 2, 4), 0, 0, []), (91, .iconst (0), 1, (0, 0, 0), 0, 0, []), (92, .istore 6, 2, (6, 0, 0), 0, 0, []), (94, .goto (59), 3, (153, 0, 0), 0, 0, [])], 97),
  (97, [true, true, true, true, true, true, true, true, true, true], [(97, .iload 9, 2, (9, 0, 0), 0, 0, []), (99, .bipush (6), 2, (0, 0, 0), 6, 0, []), (101, .if_icmp .ne (9), 3, (110, 0, 0), 0, 0, [])], 104),
  (104, [true, true, true, true, true, true, false, true, false, false], [(104, .iconst (1), 1, (0, 0, 0), 1, 0, []), (105, .istore 6, 2, (6, 0, 0), 0, 0, []), (107, .goto (46), 3, (153, 0, 0), 0, 0, [])], 110),
  (110, [true, true, true, true, true, true, true, true, true, true], [(110, .iload 5, 2, (5, 0, 0), 0, 0, []), (112, .iload 9, 2, (9, 0, 0), 0, 0, []), (114, .iconst (1), 1, (0, 0, 0), 1, 0, []), (115, .if_icmp .ne (7), 3, (122, 0, 0), 0, 0, [])], 118),
  (118, [true, true, true, true, true, false, true, true, true, false], [(118, .iconst (1), 1, (0, 0, 0), 1, 0, []), (119, .goto (14), 3, (133, 0, 0), 0, 0, [])], 122),
  (122, [true, true, true, true, true, false, true, true, true, true], [(122, .iload 9, 2, (9, 0, 0), 0, 0, []), (124, .iconst (2), 1, (0, 0, 0), 2, 0, []), (125, .if_icmp .ne (7), 3, (132, 0, 0), 0, 0, [])], 128),
  (128, [true, true, true, true, true, false, true, true, true, false], [(128, .iconst (-1), 1, (0, 0, 0), -1, 0, []), (129, .goto (4), 3, (133, 0, 0), 0, 0, [])], 132),
  (132, [true, true, true, true, true, false, true, true, true, false], [(132, .iconst (0), 1, (0, 0, 0), 0, 0, [])], 133),
  (133, [true, true, true, true, true, false, true, true, true, false], [(133, .iadd, 1, (0, 0, 0), 0, 0, []), (134, .istore 5, 2, (5, 0, 0), 0, 0, []), (136, .iload 5, 2, (5, 0, 0), 0, 0, []), (138, .ifCond .lt (15), 3, (153, 0, 0), 0, 0, [])], 141),
  (141, [true, true, true, true, true, true, true, true, true, false], [(141, .aload_n 0, 1, (0, 0, 0), 0, 0, []), (142, .getfield 27, 3, (6, 5, 2), 0, 0, []), (145, .iload 8, 2, (8, 0, 0), 0, 0, []), (147, .invokestatic 167, 3, (183, 1, 0), 0, 0, []), (150, .invokevirtual 164, 3, (50, 2, 4), 0, 0, [])], 153),
  (153, [true, true, true, true, true, true, true, true, false, false], [(153, .iinc 7 (1), 3, (7, 0, 0), 1, 0, []), (156, .goto (-129), 3, (27, 0, 0), 0, 0, [])], 159),
  (159, [true, false, true, true, false, false, false, false, false, false], [(159, .aload_n 0, 1, (0, 0, 0), 0, 0, []), (160, .getfield 23, 3, (6, 4, 2), 0, 0, []), (163, .iload_n 3, 1, (3, 0, 0), 0, 0, []), (164, .iconst (2), 1, (0, 0, 0), 2, 0, []), (165, .aload_n 0, 1, (0, 0, 0), 0, 0, []), (166, .getfield 27, 3, (6, 5, 2), 0, 0, []), (169, .invokevirtual 170, 3, (52, 1, 4), 0, 0, []), (172, .invokestatic 106, 3, (92, 2, 0), 0, 0, []), (175, .iload_n 2, 1, (2, 0, 0), 0, 0, []), (176, .invokevirtual 96, 3, (98, 4, 9), 0, 0, []), (179, .return_, 1, (0, 0, 0), 0, 0, [])], 180)]
def mp_66 : mj_M := (10, [], mb_66)
-- MacroPress$Performer.defineParameters()I
def mb_67 : List mj_B := [(0, [true, false, false, false, false], [(0, .iconst (0), 1, (0, 0, 0), 0, 0, []), (1, .istore_n 1, 1, (1, 0, 0), 0, 0, []), (2, .aload_n 0, 1, (0, 0, 0), 0, 0, []), (3, .getfield 19, 3, (6, 3, 2), 0, 0, []), (6, .iconst (0), 1, (0, 0, 0), 0, 0, []), (7, .invokevirtual 126, 3, (85, 2, 8), 0, 0, []), (10, .istore_n 2, 1, (2, 0, 0), 0, 0, []), (11, .iconst (0), 1, (0, 0, 0), 0, 0, []), (12, .istore_n 3, 1, (3, 0, 0), 0, 0, [])], 13),
  (13, [true, true, true, true, false], [(13, .iload_n 3, 1, (3, 0, 0), 0, 0, []), (14, .ldc 73, 2, (0, 0, 0), 1000000000, 0, []), (16, .if_icmp .ge (107), 3, (123, 0, 0), 0, 0, [])], 19),
  (19, [true, true, true, true, false], [(19, .iload_n 2, 1, (2, 0, 0), 0, 0, []), (20, .invokestatic 158, 3, (189, 1, 0), 0, 0, []), (23, .iconst (1), 1, (0, 0, 0), 1, 0, []), (24, .if_icmp .eq (99), 3, (123, 0, 0), 0, 0, [])], 27),
  (27, [true, true, true, true, false], [(27, .iload_n 2, 1, (2, 0, 0), 0, 0, []), (28, .invokestatic 158, 3, (189, 1, 0), 0, 0, []), (31, .istore 4, 2, (4, 0, 0), 0, 0, []), (33, .iload 4, 2, (4, 0, 0), 0, 0, []), (35, .iconst (2), 1, (0, 0, 0), 2, 0, []), (36, .if_icmp .ne (12), 3, (48, 0, 0), 0, 0, [])], 39),
  (39, [true, true, true, true, true], [(39, .aload_n 0, 1, (0, 0, 0), 0, 0, []), (40, .getfield 31, 3, (6, 6, 2), 0, 0, []), (43, .iconst (5), 1, (0, 0, 0), 5, 0, []), (44, .invokevirtual 58, 3, (80, 2, 7), 0, 0, []), (47, .pop, 1, (0, 0, 0), 0, 0, [])], 48),
  (48, [true, true, true, true, true], [(48, .iload 4, 2, (4, 0, 0), 0, 0, []), (50, .bipush (6), 2, (0, 0, 0), 6, 0, []), (52, .if_icmp .ne (45), 3, (97, 0, 0), 0, 0, [])], 55),
  (55, [true, true, false, true, false], [(55, .iinc 1 (1), 3, (1, 0, 0), 1, 0, []), (58, .aload_n 0, 1, (0, 0, 0), 0, 0, []), (59, .getfield 19, 3, (6, 3, 2), 0, 0, []), (62, .iconst (0), 1, (0, 0, 0), 0, 0, []), (63, .invokevirtual 126, 3, (85, 2, 8), 0, 0, []), (66, .invokestatic 173, 3, (191, 1, 0), 0, 0, []), (69, .iload_n 1, 1, (1, 0, 0), 0, 0, []), (70, .if_icmp .eq (13), 3, (83, 0, 0), 0, 0, [])], 73),
  (73, [true, true, false, true, false], [(73, .aload_n 0, 1, (0, 0, 0), 0, 0, []), (74, .getfield 31, 3, (6, 6, 2), 0, 0, []), (77, .bipush (12), 2, (0, 0, 0), 12, 0, []), (79, .invokevirtual 58, 3, (80, 2, 7), 0, 0, []), (82, .pop, 1, (0, 0, 0), 0, 0, [])], 83),
  (83, [true, true, false, true, false], [(83, .aload_n 0, 1, (0, 0, 0), 0, 0, []), (84, .getfield 27, 3, (6, 5, 2), 0, 0, []), (87, .ldc 176, 2, (0, 0, 0), 2097152, 0, []), (89, .iload_n 1, 1, (1, 0, 0), 0, 0, []), (90, .iadd, 1, (0, 0, 0), 0, 0, []), (91, .invokevirtual 164, 3, (50, 2, 4), 0, 0, []), (94, .goto (14), 3, (108, 0, 0), 0, 0, [])], 97),
  (97, [true, true, true, true, false], [(97, .aload_n 0, 1, (0, 0, 0), 0, 0, []), (98, .getfield 27, 3, (6, 5, 2), 0, 0, []), (101, .iload_n 2, 1, (2, 0, 0), 0, 0, []), (102, .invokestatic 167, 3, (183, 1, 0), 0, 0, []), (105, .invokevirtual 164, 3, (50, 2, 4), 0, 0, [])], 108),
  (108, [true, true, false, true, false], [(108, .aload_n 0, 1, (0, 0, 0), 0, 0, []), (109, .getfield 19, 3, (6, 3, 2), 0, 0, []), (112, .iconst (0), 1, (0, 0, 0), 0, 0, []), (113, .invokevirtual 126, 3, (85, 2, 8), 0, 0, []), (116, .istore_n 2, 1, (2, 0, 0), 0, 0, []), (117, .iinc 3 (1), 3, (3, 0, 0), 1, 0, []), (120, .goto (-107), 3, (13, 0, 0), 0, 0, [])], 123),
  (123, [false, true, false, false, false], [(123, .iload_n 1, 1, (1, 0, 0), 0, 0, []), (124, .ireturn, 1, (0, 0, 0), 0, 0, [])], 125)]
def mp_67 : mj_M := (5, [], mb_67)
-- MacroPress$Performer.placeOrSign(II)I
def mb_68 : List mj_B := [(0, [true, true, true, false], [(0, .iload_n 1, 1, (1, 0, 0), 0, 0, []), (1, .invokestatic 173, 3, (191, 1, 0), 0, 0, []), (4, .istore_n 3, 1, (3, 0, 0), 0, 0, []), (5, .iload_n 3, 1, (3, 0, 0), 0, 0, []), (6, .iconst (1), 1, (0, 0, 0), 1, 0, []), (7, .if_icmp .lt (13), 3, (20, 0, 0), 0, 0, [])], 10),
  (10, [true, true, true, true], [(10, .iload_n 3, 1, (3, 0, 0), 0, 0, []), (11, .iload_n 2, 1, (2, 0, 0), 0, 0, []), (12, .if_icmp .gt (8), 3, (20, 0, 0), 0, 0, [])], 15),
  (15, [false, false, false, true], [(15, .ldc 176, 2, (0, 0, 0), 2097152, 0, []), (17, .iload_n 3, 1, (3, 0, 0), 0, 0, []), (18, .iadd, 1, (0, 0, 0), 0, 0, []), (19, .ireturn, 1, (0, 0, 0), 0, 0, [])], 20),
  (20, [true, true, false, false], [(20, .iload_n 1, 1, (1, 0, 0), 0, 0, []), (21, .invokestatic 158, 3, (189, 1, 0), 0, 0, []), (24, .bipush (6), 2, (0, 0, 0), 6, 0, []), (26, .if_icmp .ne (7), 3, (33, 0, 0), 0, 0, [])], 29),
  (29, [false, true, false, false], [(29, .iload_n 1, 1, (1, 0, 0), 0, 0, []), (30, .goto (12), 3, (42, 0, 0), 0, 0, [])], 33),
  (33, [true, false, false, false], [(33, .aload_n 0, 1, (0, 0, 0), 0, 0, []), (34, .getfield 31, 3, (6, 6, 2), 0, 0, []), (37, .bipush (12), 2, (0, 0, 0), 12, 0, []), (39, .invokevirtual 58, 3, (80, 2, 7), 0, 0, [])], 42),
  (42, [false, false, false, false], [(42, .ireturn, 1, (0, 0, 0), 0, 0, [])], 43)]
def mp_68 : mj_M := (4, [], mb_68)
-- MacroPress$Performer.letToken()I
def mb_69 : List mj_B := [(0, [true, false, false], [(0, .aload_n 0, 1, (0, 0, 0), 0, 0, []), (1, .getfield 19, 3, (6, 3, 2), 0, 0, []), (4, .iconst (0), 1, (0, 0, 0), 0, 0, []), (5, .invokevirtual 126, 3, (85, 2, 8), 0, 0, []), (8, .istore_n 1, 1, (1, 0, 0), 0, 0, []), (9, .iconst (0), 1, (0, 0, 0), 0, 0, []), (10, .istore_n 2, 1, (2, 0, 0), 0, 0, [])], 11),
  (11, [true, true, true], [(11, .iload_n 2, 1, (2, 0, 0), 0, 0, []), (12, .ldc 73, 2, (0, 0, 0), 1000000000, 0, []), (14, .if_icmp .ge (25), 3, (39, 0, 0), 0, 0, [])], 17),
  (17, [true, true, true], [(17, .iload_n 1, 1, (1, 0, 0), 0, 0, []), (18, .invokestatic 132, 3, (190, 1, 0), 0, 0, []), (21, .ifCond .eq (18), 3, (39, 0, 0), 0, 0, [])], 24),
  (24, [true, false, true], [(24, .aload_n 0, 1, (0, 0, 0), 0, 0, []), (25, .getfield 19, 3, (6, 3, 2), 0, 0, []), (28, .iconst (0), 1, (0, 0, 0), 0, 0, []), (29, .invokevirtual 126, 3, (85, 2, 8), 0, 0, []), (32, .istore_n 1, 1, (1, 0, 0), 0, 0, []), (33, .iinc 2 (1), 3, (2, 0, 0), 1, 0, []), (36, .goto (-25), 3, (11, 0, 0), 0, 0, [])], 39),
  (39, [true, true, false], [(39, .iload_n 1, 1, (1, 0, 0), 0, 0, []), (40, .sipush (3133), 3, (0, 0, 0), 3133, 0, []), (43, .if_icmp .ne (28), 3, (71, 0, 0), 0, 0, [])], 46),
  (46, [true, false, false], [(46, .aload_n 0, 1, (0, 0, 0), 0, 0, []), (47, .getfield 19, 3, (6, 3, 2), 0, 0, []), (50, .iconst (0), 1, (0, 0, 0), 0, 0, []), (51, .invokevirtual 126, 3, (85, 2, 8), 0, 0, []), (54, .istore_n 1, 1, (1, 0, 0), 0, 0, []), (55, .iload_n 1, 1, (1, 0, 0), 0, 0, []), (56, .invokestatic 132, 3, (190, 1, 0), 0, 0, []), (59, .ifCond .eq (12), 3, (71, 0, 0), 0, 0, [])], 62),
  (62, [true, false, false], [(62, .aload_n 0, 1, (0, 0, 0), 0, 0, []), (63, .getfield 19, 3, (6, 3, 2), 0, 0, []), (66, .iconst (0), 1, (0, 0, 0), 0, 0, []), (67, .invokevirtual 126, 3, (85, 2, 8), 0, 0, []), (70, .istore_n 1, 1, (1, 0, 0), 0, 0, [])], 71),
  (71, [false, true, false], [(71, .iload_n 1, 1, (1, 0, 0), 0, 0, []), (72, .ireturn, 1, (0, 0, 0), 0, 0, [])], 73)]
def mp_69 : mj_M := (3, [], mb_69)
-- MacroPress$Performer.dropEquals()V
def mb_70 : List mj_B := [(0, [true, false], [(0, .aload_n 0, 1, (0, 0, 0), 0, 0, []), (1, .getfield 15, 3, (6, 2, 2), 0, 0, []), (4, .invokevirtual 74, 3, (23, 1, 3), 0, 0, []), (7, .istore_n 1, 1, (1, 0, 0), 0, 0, []), (8, .iload_n 1, 1, (1, 0, 0), 0, 0, []), (9, .sipush (3133), 3, (0, 0, 0), 3133, 0, []), (12, .if_icmp .eq (11), 3, (23, 0, 0), 0, 0, [])], 15),
  (15, [true, true], [(15, .aload_n 0, 1, (0, 0, 0), 0, 0, []), (16, .getfield 19, 3, (6, 3, 2), 0, 0, []), (19, .iload_n 1, 1, (1, 0, 0), 0, 0, []), (20, .invokevirtual 177, 3, (84, 2, 8), 0, 0, [])], 23),
  (23, [false, false], [(23, .return_, 1, (0, 0, 0), 0, 0, [])], 24)]
def mp_70 : mj_M := (2, [], mb_70)
-- MacroPress$Performer.counter()I
def mb_71 : List mj_B := [(0, [true], [(0, .aload_n 0, 1, (0, 0, 0), 0, 0, []), (1, .getfield 23, 3, (6, 4, 2), 0, 0, []), (4, .aload_n 0, 1, (0, 0, 0), 0, 0, []), (5, .getfield 15, 3, (6, 2, 2), 0, 0, []), (8, .invokevirtual 74, 3, (23, 1, 3), 0, 0, []), (11, .invokevirtual 80, 3, (97, 2, 9), 0, 0, []), (14, .bipush (31), 2, (0, 0, 0), 31, 0, []), (16, .if_icmp .eq (13), 3, (29, 0, 0), 0, 0, [])], 19),
  (19, [true], [(19, .aload_n 0, 1, (0, 0, 0), 0, 0, []), (20, .getfield 31, 3, (6, 6, 2), 0, 0, []), (23, .bipush (6), 2, (0, 0, 0), 6, 0, []), (25, .invokevirtual 58, 3, (80, 2, 7), 0, 0, []), (28, .pop, 1, (0, 0, 0), 0, 0, [])], 29),
  (29, [true], [(29, .iconst (0), 1, (0, 0, 0), 0, 0, []), (30, .aload_n 0, 1, (0, 0, 0), 0, 0, []), (31, .getfield 15, 3, (6, 2, 2), 0, 0, []), (34, .sipush (255), 3, (0, 0, 0), 255, 0, []), (37, .invokevirtual 103, 3, (44, 2, 3), 0, 0, []), (40, .iadd, 1, (0, 0, 0), 0, 0, []), (41, .ireturn, 1, (0, 0, 0), 0, 0, [])], 42)]
def mp_71 : mj_M := (1, [], mb_71)
-- MacroPress$Performer.dropBy()V
def mb_72 : List mj_B := [(0, [true, false, false], [(0, .aload_n 0, 1, (0, 0, 0), 0, 0, []), (1, .getfield 15, 3, (6, 2, 2), 0, 0, []), (4, .invokevirtual 74, 3, (23, 1, 3), 0, 0, []), (7, .istore_n 1, 1, (1, 0, 0), 0, 0, []), (8, .iload_n 1, 1, (1, 0, 0), 0, 0, []), (9, .bipush (98), 2, (0, 0, 0), 98, 0, []), (11, .bipush (66), 2, (0, 0, 0), 66, 0, []), (13, .invokestatic 180, 3, (73, 3, 0), 0, 0, []), (16, .ifCond .ne (12), 3, (28, 0, 0), 0, 0, [])], 19),
  (19, [true, true, false], [(19, .aload_n 0, 1, (0, 0, 0), 0, 0, []), (20, .getfield 19, 3, (6, 3, 2), 0, 0, []), (23, .iload_n 1, 1, (1, 0, 0), 0, 0, []), (24, .invokevirtual 177, 3, (84, 2, 8), 0, 0, []), (27, .return_, 1, (0, 0, 0), 0, 0, [])], 28),
  (28, [true, true, false], [(28, .aload_n 0, 1, (0, 0, 0), 0, 0, []), (29, .getfield 15, 3, (6, 2, 2), 0, 0, []), (32, .iconst (0), 1, (0, 0, 0), 0, 0, []), (33, .invokevirtual 155, 3, (22, 2, 3), 0, 0, []), (36, .istore_n 2, 1, (2, 0, 0), 0, 0, []), (37, .iload_n 2, 1, (2, 0, 0), 0, 0, []), (38, .bipush (121), 2, (0, 0, 0), 121, 0, []), (40, .bipush (89), 2, (0, 0, 0), 89, 0, []), (42, .invokestatic 180, 3, (73, 3, 0), 0, 0, []), (45, .ifCond .ne (19), 3, (64, 0, 0), 0, 0, [])], 48),
  (48, [true, true, true], [(48, .aload_n 0, 1, (0, 0, 0), 0, 0, []), (49, .getfield 19, 3, (6, 3, 2), 0, 0, []), (52, .iload_n 2, 1, (2, 0, 0), 0, 0, []), (53, .invokevirtual 177, 3, (84, 2, 8), 0, 0, []), (56, .aload_n 0, 1, (0, 0, 0), 0, 0, []), (57, .getfield 19, 3, (6, 3, 2), 0, 0, []), (60, .iload_n 1, 1, (1, 0, 0), 0, 0, []), (61, .invokevirtual 177, 3, (84, 2, 8), 0, 0, [])], 64),
  (64, [false, false, false], [(64, .return_, 1, (0, 0, 0), 0, 0, [])], 65)]
def mp_72 : mj_M := (3, [], mb_72)
-- MacroPress$Performer.isLetter(III)Z
def mb_73 : List mj_B := [(0, [true, true, true, false], [(0, .iload_n 0, 1, (0, 0, 0), 0, 0, []), (1, .sipush (255), 3, (0, 0, 0), 255, 0, []), (4, .iand, 1, (0, 0, 0), 0, 0, []), (5, .istore_n 3, 1, (3, 0, 0), 0, 0, []), (6, .iload_n 0, 1, (0, 0, 0), 0, 0, []), (7, .invokestatic 184, 3, (188, 1, 0), 0, 0, []), (10, .ifCond .eq (17), 3, (27, 0, 0), 0, 0, [])], 13),
  (13, [false, true, true, true], [(13, .iload_n 3, 1, (3, 0, 0), 0, 0, []), (14, .iload_n 1, 1, (1, 0, 0), 0, 0, []), (15, .if_icmp .eq (8), 3, (23, 0, 0), 0, 0, [])], 18),
  (18, [false, false, true, true], [(18, .iload_n 3, 1, (3, 0, 0), 0, 0, []), (19, .iload_n 2, 1, (2, 0, 0), 0, 0, []), (20, .if_icmp .ne (7), 3, (27, 0, 0), 0, 0, [])], 23),
  (23, [false, false, false, false], [(23, .iconst (1), 1, (0, 0, 0), 1, 0, []), (24, .goto (4), 3, (28, 0, 0), 0, 0, [])], 27),
  (27, [false, false, false, false], [(27, .iconst (0), 1, (0, 0, 0), 0, 0, [])], 28),
  (28, [false, false, false, false], [(28, .ireturn, 1, (0, 0, 1), 0, 0, [])], 29)]
def mp_73 : mj_M := (4, [], mb_73)
-- MacroPress$Performer.result(IJJ)I
def mb_74 : List mj_B := [(0, [true, true, true, false, true, false, false, false], [(0, .iload_n 1, 1, (1, 0, 0), 0, 0, []), (1, .bipush (35), 2, (0, 0, 0), 35, 0, []), (3, .if_icmp .ne (20), 3, (23, 0, 0), 0, 0, [])], 6),
  (6, [true, true, true, false, true, false, false, false], [(6, .lload 4, 2, (4, 0, 0), 0, 0, []), (8, .lconst 0, 1, (0, 0, 0), 0, 0, []), (9, .lcmp, 1, (0, 0, 0), 0, 0, []), (10, .ifCond .ne (13), 3, (23, 0, 0), 0, 0, [])], 13),
  (13, [true, false, false, false, false, false, false, false], [(13, .aload_n 0, 1, (0, 0, 0), 0, 0, []), (14, .getfield 31, 3, (6, 6, 2), 0, 0, []), (17, .bipush (7), 2, (0, 0, 0), 7, 0, []), (19, .invokevirtual 58, 3, (80, 2, 7), 0, 0, []), (22, .ireturn, 1, (0, 0, 0), 0, 0, [])], 23),
  (23, [true, true, true, false, true, false, false, false], [(23, .iload_n 1, 1, (1, 0, 0), 0, 0, []), (24, .bipush (33), 2, (0, 0, 0), 33, 0, []), (26, .if_icmp .ne (10), 3, (36, 0, 0), 0, 0, [])], 29),
  (29, [true, false, true, false, true, false, false, false], [(29, .lload_n 2, 1, (2, 0, 0), 0, 0, []), (30, .lload 4, 2, (4, 0, 0), 0, 0, []), (32, .ladd, 1, (0, 0, 0), 0, 0, []), (33, .goto (20), 3, (53, 0, 0), 0, 0, [])], 36),
  (36, [true, true, true, false, true, false, false, false], [(36, .iload_n 1, 1, (1, 0, 0), 0, 0, []), (37, .bipush (34), 2, (0, 0, 0), 34, 0, []), (39, .if_icmp .ne (10), 3, (49, 0, 0), 0, 0, [])], 42),
  (42, [true, false, true, false, true, false, false, false], [(42, .lload_n 2, 1, (2, 0, 0), 0, 0, []), (43, .lload 4, 2, (4, 0, 0), 0, 0, []), (45, .lmul, 1, (0, 0, 0), 0, 0, []), (46, .goto (7), 3, (53, 0, 0), 0, 0, [])], 49),
  (49, [true, false, true, false, true, false, false, false], [(49, .lload_n 2, 1, (2, 0, 0), 0, 0, []), (50, .lload 4, 2, (4, 0, 0), 0, 0, []), (52, .ldiv, 1, (0, 0, 0), 0, 0, [])], 53),
  (53, [true, false, false, false, false, false, false, false], [(53, .lstore 6, 2, (6, 0, 0), 0, 0, []), (55, .lload 6, 2, (6, 0, 0), 0, 0, []), (57, .ldc2_w 187, 3, (0, 0, 0), 0, 2147483647, []), (60, .lcmp, 1, (0, 0, 0), 0, 0, []), (61, .ifCond .gt (12), 3, (73, 0, 0), 0, 0, [])], 64),
  (64, [true, false, false, false, false, false, true, false], [(64, .lload 6, 2, (6, 0, 0), 0, 0, []), (66, .ldc2_w 189, 3, (0, 0, 0), 0, -2147483647, []), (69, .lcmp, 1, (0, 0, 0), 0, 0, []), (70, .ifCond .ge (15), 3, (85, 0, 0), 0, 0, [])], 73),
  (73, [true, false, false, false, false, false, false, false], [(73, .aload_n 0, 1, (0, 0, 0), 0, 0, []), (74, .getfield 31, 3, (6, 6, 2), 0, 0, []), (77, .bipush (7), 2, (0, 0, 0), 7, 0, []), (79, .invokevirtual 58, 3, (80, 2, 7), 0, 0, []), (82, .goto (6), 3, (88, 0, 0), 0, 0, [])], 85),
  (85, [false, false, false, false, false, false, true, false], [(85, .lload 6, 2, (6, 0, 0), 0, 0, []), (87, .l2i, 1, (0, 0, 0), 0, 0, [])], 88),
  (88, [false, false, false, false, false, false, false, false], [(88, .ireturn, 1, (0, 0, 0), 0, 0, [])], 89)]
def mp_74 : mj_M := (8, [], mb_74)
-- MacroPress$Progress.<init>()V
def mb_75 : List mj_B := [(0, [true], [(0, .aload_n 0, 1, (0, 0, 0), 0, 0, []), (1, .invokespecial 3, 3, (0, 0, 1), 0, 0, []), (4, .return_, 1, (0, 0, 0), 0, 0, [])], 5)]
def mp_75 : mj_M := (1, [], mb_75)
-- MacroPress$Progress.begin(I)V
def mb_76 : List mj_B := [(0, [true, true], [(0, .aload_n 0, 1, (0, 0, 0), 0, 0, []), (1, .iconst (0), 1, (0, 0, 0), 0, 0, []), (2, .putfield 9, 3, (7, 0, 0), 0, 0, []), (5, .aload_n 0, 1, (0, 0, 0), 0, 0, []), (6, .iconst (0), 1, (0, 0, 0), 0, 0, []), (7, .putfield 15, 3, (7, 1, 0), 0, 0, []), (10, .aload_n 0, 1, (0, 0, 0), 0, 0, []), (11, .iload_n 1, 1, (1, 0, 0), 0, 0, []), (12, .putfield 18, 3, (7, 2, 0), 0, 0, []), (15, .aload_n 0, 1, (0, 0, 0), 0, 0, []), (16, .iconst (0), 1, (0, 0, 0), 0, 0, []), (17, .putfield 21, 3, (7, 3, 0), 0, 0, []), (20, .return_, 1, (0, 0, 0), 0, 0, [])], 21)]
def mp_76 : mj_M := (2, [], mb_76)
-- MacroPress$Progress.tick()V
def mb_77 : List mj_B := [(0, [true], [(0, .aload_n 0, 1, (0, 0, 0), 0, 0, []), (1, .dup, 1, (0, 0, 0), 0, 0, []), (2, .getfield 15, 3, (7, 1, 0), 0, 0, []), (5, .iconst (1), 1, (0, 0, 0), 1, 0, []), (6, .iadd, 1, (0, 0, 0), 0, 0, []), (7, .putfield 15, 3, (7, 1, 0), 0, 0, []), (10, .aload_n 0, 1, (0, 0, 0), 0, 0, []), (11, .getfield 15, 3, (7, 1, 0), 0, 0, []), (14, .aload_n 0, 1, (0, 0, 0), 0, 0, []), (15, .getfield 18, 3, (7, 2, 0), 0, 0, []), (18, .if_icmp .le (10), 3, (28, 0, 0), 0, 0, [])], 21),
  (21, [true], [(21, .aload_n 0, 1, (0, 0, 0), 0, 0, []), (22, .bipush (10), 2, (0, 0, 0), 10, 0, []), (24, .invokevirtual 24, 3, (80, 2, 7), 0, 0, []), (27, .pop, 1, (0, 0, 0), 0, 0, [])], 28),
  (28, [false], [(28, .return_, 1, (0, 0, 0), 0, 0, [])], 29)]
def mp_77 : mj_M := (1, [], mb_77)
-- MacroPress$Progress.enter()V
def mb_78 : List mj_B := [(0, [true], [(0, .aload_n 0, 1, (0, 0, 0), 0, 0, []), (1, .getfield 21, 3, (7, 3, 0), 0, 0, []), (4, .bipush (40), 2, (0, 0, 0), 40, 0, []), (6, .if_icmp .lt (9), 3, (15, 0, 0), 0, 0, [])], 9),
  (9, [true], [(9, .aload_n 0, 1, (0, 0, 0), 0, 0, []), (10, .iconst (3), 1, (0, 0, 0), 3, 0, []), (11, .invokevirtual 24, 3, (80, 2, 7), 0, 0, []), (14, .pop, 1, (0, 0, 0), 0, 0, [])], 15),
  (15, [true], [(15, .aload_n 0, 1, (0, 0, 0), 0, 0, []), (16, .dup, 1, (0, 0, 0), 0, 0, []), (17, .getfield 21, 3, (7, 3, 0), 0, 0, []), (20, .iconst (1), 1, (0, 0, 0), 1, 0, []), (21, .iadd, 1, (0, 0, 0), 0, 0, []), (22, .putfield 21, 3, (7, 3, 0), 0, 0, []), (25, .return_, 1, (0, 0, 0), 0, 0, [])], 26)]
def mp_78 : mj_M := (1, [], mb_78)
-- MacroPress$Progress.leave()V
def mb_79 : List mj_B := [(0, [true], [(0, .aload_n 0, 1, (0, 0, 0), 0, 0, []), (1, .dup, 1, (0, 0, 0), 0, 0, []), (2, .getfield 21, 3, (7, 3, 0), 0, 0, []), (5, .iconst (1), 1, (0, 0, 0), 1, 0, []), (6, .isub, 1, (0, 0, 0), 0, 0, []), (7, .putfield 21, 3, (7, 3, 0), 0, 0, []), (10, .return_, 1, (0, 0, 0), 0, 0, [])], 11)]
def mp_79 : mj_M := (1, [], mb_79)
-- MacroPress$Progress.fail(I)I
def mb_80 : List mj_B := [(0, [true, true], [(0, .aload_n 0, 1, (0, 0, 0), 0, 0, []), (1, .iload_n 1, 1, (1, 0, 0), 0, 0, []), (2, .putfield 9, 3, (7, 0, 0), 0, 0, []), (5, .new 28, 3, (500, 0, 1), 0, 0, [])], 8)]
def mp_80 : mj_M := (2, [], mb_80)
-- MacroPress$Source.<init>(LMacroPress$Names;LMacroPress$Store;LMacroPress$Progress;)V
def mb_81 : List mj_B := [(0, [true, true, true, true], [(0, .aload_n 0, 1, (0, 0, 0), 0, 0, []), (1, .invokespecial 3, 3, (0, 0, 1), 0, 0, []), (4, .aload_n 0, 1, (0, 0, 0), 0, 0, []), (5, .sipush (4001), 3, (0, 0, 0), 4001, 0, []), (8, .newarray .int, 2, (0, 0, 0), 0, 0, []), (10, .putfield 9, 3, (8, 0, 2), 0, 0, []), (13, .aload_n 0, 1, (0, 0, 0), 0, 0, []), (14, .sipush (10100), 3, (0, 0, 0), 10100, 0, []), (17, .newarray .int, 2, (0, 0, 0), 0, 0, []), (19, .putfield 15, 3, (8, 7, 2), 0, 0, []), (22, .aload_n 0, 1, (0, 0, 0), 0, 0, []), (23, .bipush (41), 2, (0, 0, 0), 41, 0, []), (25, .newarray .int, 2, (0, 0, 0), 0, 0, []), (27, .putfield 18, 3, (8, 9, 2), 0, 0, []), (30, .aload_n 0, 1, (0, 0, 0), 0, 0, []), (31, .aload_n 1, 1, (1, 0, 0), 0, 0, []), (32, .putfield 21, 3, (8, 10, 2), 0, 0, []), (35, .aload_n 0, 1, (0, 0, 0), 0, 0, []), (36, .aload_n 2, 1, (2, 0, 0), 0, 0, []), (37, .putfield 25, 3, (8, 11, 2), 0, 0, []), (40, .aload_n 0, 1, (0, 0, 0), 0, 0, []), (41, .aload_n 3, 1, (3, 0, 0), 0, 0, []), (42, .putfield 29, 3, (8, 12, 2), 0, 0, []), (45, .return_, 1, (0, 0, 0), 0, 0, [])], 46)]
def mp_81 : mj_M := (4, [], mb_81)
-- MacroPress$Source.append(I)V
def mb_82 : List mj_B := [(0, [true, true], [(0, .aload_n 0, 1, (0, 0, 0), 0, 0, []), (1, .getfield 33, 3, (8, 1, 0), 0, 0, []), (4, .sipush (4000), 3, (0, 0, 0), 4000, 0, []), (7, .if_icmp .ge (23), 3, (30, 0, 0), 0, 0, [])], 10),
  (10, [true, true], [(10, .aload_n 0, 1, (0, 0, 0), 0, 0, []), (11, .getfield 9, 3, (8, 0, 2), 0, 0, []), (14, .aload_n 0, 1, (0, 0, 0), 0, 0, []), (15, .getfield 33, 3, (8, 1, 0), 0, 0, []), (18, .iload_n 1, 1, (1, 0, 0), 0, 0, []), (19, .iastore, 1, (0, 0, 0), 0, 0, []), (20, .aload_n 0, 1, (0, 0, 0), 0, 0, []), (21, .dup, 1, (0, 0, 0), 0, 0, []), (22, .getfield 33, 3, (8, 1, 0), 0, 0, []), (25, .iconst (1), 1, (0, 0, 0), 1, 0, []), (26, .iadd, 1, (0, 0, 0), 0, 0, []), (27, .putfield 33, 3, (8, 1, 0), 0, 0, [])], 30),
  (30, [false, false], [(30, .return_, 1, (0, 0, 0), 0, 0, [])], 31)]
def mp_82 : mj_M := (2, [], mb_82)
-- MacroPress$Source.begin()V
def mb_83 : List mj_B := [(0, [true], [(0, .aload_n 0, 1, (0, 0, 0), 0, 0, []), (1, .iconst (0), 1, (0, 0, 0), 0, 0, []), (2, .putfield 37, 3, (8, 2, 0), 0, 0, []), (5, .aload_n 0, 1, (0, 0, 0), 0, 0, []), (6, .iconst (0), 1, (0, 0, 0), 0, 0, []), (7, .putfield 40, 3, (8, 6, 0), 0, 0, []), (10, .aload_n 0, 1, (0, 0, 0), 0, 0, []), (11, .iconst (0), 1, (0, 0, 0), 0, 0, []), (12, .putfield 43, 3, (8, 8, 0), 0, 0, []), (15, .aload_n 0, 1, (0, 0, 0), 0, 0, []), (16, .iconst (0), 1, (0, 0, 0), 0, 0, []), (17, .putfield 46, 3, (8, 4, 0), 0, 0, []), (20, .aload_n 0, 1, (0, 0, 0), 0, 0, []), (21, .invokevirtual 49, 3, (86, 1, 8), 0, 0, []), (24, .return_, 1, (0, 0, 0), 0, 0, [])], 25)]
def mp_83 : mj_M := (1, [], mb_83)
-- MacroPress$Source.put(I)V
def mb_84 : List mj_B := [(0, [true, true], [(0, .aload_n 0, 1, (0, 0, 0), 0, 0, []), (1, .getfield 43, 3, (8, 8, 0), 0, 0, []), (4, .sipush (10100), 3, (0, 0, 0), 10100, 0, []), (7, .if_icmp .lt (12), 3, (19, 0, 0), 0, 0, [])], 10),
  (10, [true, true], [(10, .aload_n 0, 1, (0, 0, 0), 0, 0, []), (11, .getfield 29, 3, (8, 12, 2), 0, 0, []), (14, .iconst (2), 1, (0, 0, 0), 2, 0, []), (15, .invokevirtual 52, 3, (80, 2, 7), 0, 0, []), (18, .pop, 1, (0, 0, 0), 0, 0, [])], 19),
  (19, [true, true], [(19, .aload_n 0, 1, (0, 0, 0), 0, 0, []), (20, .getfield 15, 3, (8, 7, 2), 0, 0, []), (23, .aload_n 0, 1, (0, 0, 0), 0, 0, []), (24, .getfield 43, 3, (8, 8, 0), 0, 0, []), (27, .iload_n 1, 1, (1, 0, 0), 0, 0, []), (28, .iastore, 1, (0, 0, 0), 0, 0, []), (29, .aload_n 0, 1, (0, 0, 0), 0, 0, []), (30, .dup, 1, (0, 0, 0), 0, 0, []), (31, .getfield 43, 3, (8, 8, 0), 0, 0, []), (34, .iconst (1), 1, (0, 0, 0), 1, 0, []), (35, .iadd, 1, (0, 0, 0), 0, 0, []), (36, .putfield 43, 3, (8, 8, 0), 0, 0, []), (39, .return_, 1, (0, 0, 0), 0, 0, [])], 40)]
def mp_84 : mj_M := (2, [], mb_84)
-- MacroPress$Source.get(Z)I
def mb_85 : List mj_B := [(0, [true, true, false, false, false, false, false], [(0, .aload_n 0, 1, (0, 0, 0), 0, 0, []), (1, .getfield 43, 3, (8, 8, 0), 0, 0, []), (4, .ifCond .le (23), 3, (27, 0, 0), 0, 0, [])], 7),
  (7, [true, false, false, false, false, false, false], [(7, .aload_n 0, 1, (0, 0, 0), 0, 0, []), (8, .dup, 1, (0, 0, 0), 0, 0, []), (9, .getfield 43, 3, (8, 8, 0), 0, 0, []), (12, .iconst (1), 1, (0, 0, 0), 1, 0, []), (13, .isub, 1, (0, 0, 0), 0, 0, []), (14, .putfield 43, 3, (8, 8, 0), 0, 0, []), (17, .aload_n 0, 1, (0, 0, 0), 0, 0, []), (18, .getfield 15, 3, (8, 7, 2), 0, 0, []), (21, .aload_n 0, 1, (0, 0, 0), 0, 0, []), (22, .getfield 43, 3, (8, 8, 0), 0, 0, []), (25, .iaload, 1, (0, 0, 0), 0, 0, []), (26, .ireturn, 1, (0, 0, 0), 0, 0, [])], 27),
  (27, [true, true, false, false, false, false, false], [(27, .iconst (0), 1, (0, 0, 0), 0, 0, []), (28, .istore_n 2, 1, (2, 0, 0), 0, 0, [])], 29),
  (29, [true, true, true, false, false, false, false], [(29, .iload_n 2, 1, (2, 0, 0), 0, 0, []), (30, .sipush (8000), 3, (0, 0, 0), 8000, 0, []), (33, .if_icmp .gt (229), 3, (262, 0, 0), 0, 0, [])], 36),
  (36, [true, true, true, false, false, false, false], [(36, .aload_n 0, 1, (0, 0, 0), 0, 0, []), (37, .getfield 58, 3, (8, 3, 0), 0, 0, []), (40, .aload_n 0, 1, (0, 0, 0), 0, 0, []), (41, .getfield 46, 3, (8, 4, 0), 0, 0, []), (44, .if_icmp .le (10), 3, (54, 0, 0), 0, 0, [])], 47),
  (47, [true, true, true, false, false, false, false], [(47, .aload_n 0, 1, (0, 0, 0), 0, 0, []), (48, .invokevirtual 61, 3, (87, 1, 8), 0, 0, []), (51, .ifCond .eq (211), 3, (262, 0, 0), 0, 0, [])], 54),
  (54, [true, true, true, false, false, false, false], [(54, .aload_n 0, 1, (0, 0, 0), 0, 0, []), (55, .getfield 9, 3, (8, 0, 2), 0, 0, []), (58, .aload_n 0, 1, (0, 0, 0), 0, 0, []), (59, .getfield 58, 3, (8, 3, 0), 0, 0, []), (62, .iaload, 1, (0, 0, 0), 0, 0, []), (63, .istore_n 3, 1, (3, 0, 0), 0, 0, []), (64, .aload_n 0, 1, (0, 0, 0), 0, 0, []), (65, .getfield 25, 3, (8, 11, 2), 0, 0, []), (68, .getfield 65, 3, (9, 0, 2), 0, 0, []), (71, .sipush (256), 3, (0, 0, 0), 256, 0, []), (74, .iload_n 3, 1, (3, 0, 0), 0, 0, []), (75, .iadd, 1, (0, 0, 0), 0, 0, []), (76, .iaload, 1, (0, 0, 0), 0, 0, []), (77, .istore 4, 2, (4, 0, 0), 0, 0, []), (79, .aload_n 0, 1, (0, 0, 0), 0, 0, []), (80, .dup, 1, (0, 0, 0), 0, 0, []), (81, .getfield 58, 3, (8, 3, 0), 0, 0, []), (84, .iconst (1), 1, (0, 0, 0), 1, 0, []), (85, .iadd, 1, (0, 0, 0), 0, 0, []), (86, .putfield 58, 3, (8, 3, 0), 0, 0, []), (89, .iload 4, 2, (4, 0, 0), 0, 0, []), (91, .ifCond .ne (58), 3, (149, 0, 0), 0, 0, [])], 94),
  (94, [true, false, false, false, false, false, false], [(94, .aload_n 0, 1, (0, 0, 0), 0, 0, []), (95, .invokevirtual 70, 3, (88, 1, 8), 0, 0, []), (98, .istore 5, 2, (5, 0, 0), 0, 0, []), (100, .iload 5, 2, (5, 0, 0), 0, 0, []), (102, .bipush (40), 2, (0, 0, 0), 40, 0, []), (104, .if_icmp .le (7), 3, (111, 0, 0), 0, 0, [])], 107),
  (107, [true, false, false, false, false, false, false], [(107, .iconst (-1), 1, (0, 0, 0), -1, 0, []), (108, .goto (17), 3, (125, 0, 0), 0, 0, [])], 111),
  (111, [true, false, false, false, false, true, false], [(111, .aload_n 0, 1, (0, 0, 0), 0, 0, []), (112, .getfield 21, 3, (8, 10, 2), 0, 0, []), (115, .aload_n 0, 1, (0, 0, 0), 0, 0, []), (116, .getfield 18, 3, (8, 9, 2), 0, 0, []), (119, .iconst (0), 1, (0, 0, 0), 0, 0, []), (120, .iload 5, 2, (5, 0, 0), 0, 0, []), (122, .invokevirtual 74, 3, (57, 4, 5), 0, 0, [])], 125),
  (125, [true, false, false, false, false, false, false], [(125, .istore 6, 2, (6, 0, 0), 0, 0, []), (127, .iload 6, 2, (6, 0, 0), 0, 0, []), (129, .ifCond .ge (14), 3, (143, 0, 0), 0, 0, [])], 132),
  (132, [true, false, false, false, false, false, false], [(132, .aload_n 0, 1, (0, 0, 0), 0, 0, []), (133, .getfield 29, 3, (8, 12, 2), 0, 0, []), (136, .iconst (2), 1, (0, 0, 0), 2, 0, []), (137, .invokevirtual 52, 3, (80, 2, 7), 0, 0, []), (140, .goto (8), 3, (148, 0, 0), 0, 0, [])], 143),
  (143, [false, false, false, false, false, false, true], [(143, .ldc 82, 2, (0, 0, 0), 65536, 0, []), (145, .iload 6, 2, (6, 0, 0), 0, 0, []), (147, .iadd, 1, (0, 0, 0), 0, 0, [])], 148),
  (148, [false, false, false, false, false, false, false], [(148, .ireturn, 1, (0, 0, 0), 0, 0, [])], 149),
  (149, [true, true, true, true, true, false, false], [(149, .iload 4, 2, (4, 0, 0), 0, 0, []), (151, .bipush (15), 2, (0, 0, 0), 15, 0, []), (153, .if_icmp .ne (12), 3, (165, 0, 0), 0, 0, [])], 156),
  (156, [true, false, false, false, false, false, false], [(156, .aload_n 0, 1, (0, 0, 0), 0, 0, []), (157, .getfield 29, 3, (8, 12, 2), 0, 0, []), (160, .iconst (1), 1, (0, 0, 0), 1, 0, []), (161, .invokevirtual 52, 3, (80, 2, 7), 0, 0, []), (164, .ireturn, 1, (0, 0, 0), 0, 0, [])], 165),
  (165, [true, true, true, true, true, false, false], [(165, .iload 4, 2, (4, 0, 0), 0, 0, []), (167, .iconst (5), 1, (0, 0, 0), 5, 0, []), (168, .if_icmp .eq (10), 3, (178, 0, 0), 0, 0, [])], 171),
  (171, [true, true, true, true, true, false, false], [(171, .iload 4, 2, (4, 0, 0), 0, 0, []), (173, .bipush (14), 2, (0, 0, 0), 14, 0, []), (175, .if_icmp .ne (7), 3, (182, 0, 0), 0, 0, [])], 178),
  (178, [true, true, true, true, true, false, false], [(178, .aload_n 0, 1, (0, 0, 0), 0, 0, []), (179, .invokevirtual 49, 3, (86, 1, 8), 0, 0, [])], 182),
  (182, [true, true, true, true, true, false, false], [(182, .iload 4, 2, (4, 0, 0), 0, 0, []), (184, .iconst (5), 1, (0, 0, 0), 5, 0, []), (185, .if_icmp .ne (13), 3, (198, 0, 0), 0, 0, [])], 188),
  (188, [true, true, true, true, true, false, false], [(188, .aload_n 0, 1, (0, 0, 0), 0, 0, []), (189, .getfield 83, 3, (8, 5, 0), 0, 0, []), (192, .ifCond .ne (6), 3, (198, 0, 0), 0, 0, [])], 195),
  (195, [false, false, false, false, false, false, false], [(195, .ldc 86, 2, (0, 0, 0), 65555, 0, []), (197, .ireturn, 1, (0, 0, 0), 0, 0, [])], 198),
  (198, [true, true, true, true, true, false, false], [(198, .iload 4, 2, (4, 0, 0), 0, 0, []), (200, .bipush (10), 2, (0, 0, 0), 10, 0, []), (202, .if_icmp .eq (9), 3, (211, 0, 0), 0, 0, [])], 205),
  (205, [true, true, true, true, true, false, false], [(205, .iload 4, 2, (4, 0, 0), 0, 0, []), (207, .iconst (5), 1, (0, 0, 0), 5, 0, []), (208, .if_icmp .ne (20), 3, (228, 0, 0), 0, 0, [])], 211),
  (211, [true, true, true, false, false, false, false], [(211, .aload_n 0, 1, (0, 0, 0), 0, 0, []), (212, .getfield 83, 3, (8, 5, 0), 0, 0, []), (215, .iconst (1), 1, (0, 0, 0), 1, 0, []), (216, .if_icmp .ne (40), 3, (256, 0, 0), 0, 0, [])], 219),
  (219, [true, false, false, false, false, false, false], [(219, .aload_n 0, 1, (0, 0, 0), 0, 0, []), (220, .iconst (2), 1, (0, 0, 0), 2, 0, []), (221, .putfield 83, 3, (8, 5, 0), 0, 0, []), (224, .sipush (2592), 3, (0, 0, 0), 2592, 0, []), (227, .ireturn, 1, (0, 0, 0), 0, 0, [])], 228),
  (228, [true, true, true, true, true, false, false], [(228, .iload 4, 2, (4, 0, 0), 0, 0, []), (230, .bipush (9), 2, (0, 0, 0), 9, 0, []), (232, .if_icmp .eq (24), 3, (256, 0, 0), 0, 0, [])], 235),
  (235, [true, true, true, true, true, false, false], [(235, .iload 4, 2, (4, 0, 0), 0, 0, []), (237, .bipush (14), 2, (0, 0, 0), 14, 0, []), (239, .if_icmp .eq (17), 3, (256, 0, 0), 0, 0, [])], 242),
  (242, [true, false, false, true, true, false, false], [(242, .aload_n 0, 1, (0, 0, 0), 0, 0, []), (243, .iconst (1), 1, (0, 0, 0), 1, 0, []), (244, .putfield 83, 3, (8, 5, 0), 0, 0, []), (247, .sipush (256), 3, (0, 0, 0), 256, 0, []), (250, .iload 4, 2, (4, 0, 0), 0, 0, []), (252, .imul, 1, (0, 0, 0), 0, 0, []), (253, .iload_n 3, 1, (3, 0, 0), 0, 0, []), (254, .iadd, 1, (0, 0, 0), 0, 0, []), (255, .ireturn, 1, (0, 0, 0), 0, 0, [])], 256),
  (256, [true, true, true, false, false, false, false], [(256, .iinc 2 (1), 3, (2, 0, 0), 1, 0, []), (259, .goto (-230), 3, (29, 0, 0), 0, 0, [])], 262),
  (262, [true, true, false, false, false, false, false], [(262, .iload_n 1, 1, (1, 0, 0), 0, 0, []), (263, .ifCond .eq (7), 3, (270, 0, 0), 0, 0, [])], 266),
  (266, [false, false, false, false, false, false, false], [(266, .iconst (-1), 1, (0, 0, 0), -1, 0, []), (267, .goto (12), 3, (279, 0, 0), 0, 0, [])], 270),
  (270, [true, false, false, false, false, false, false], [(270, .aload_n 0, 1, (0, 0, 0), 0, 0, []), (271, .getfield 29, 3, (8, 12, 2), 0, 0, []), (274, .bipush (9), 2, (0, 0, 0), 9, 0, []), (276, .invokevirtual 52, 3, (80, 2, 7), 0, 0, [])], 279),
  (279, [false, false, false, false, false, false, false], [(279, .ireturn, 1, (0, 0, 0), 0, 0, [])], 280)]
def mp_85 : mj_M := (7, [], mb_85)
-- MacroPress$Source.dropLine()V
def mb_86 : List mj_B := [(0, [true], [(0, .aload_n 0, 1, (0, 0, 0), 0, 0, []), (1, .aload_n 0, 1, (0, 0, 0), 0, 0, []), (2, .getfield 46, 3, (8, 4, 0), 0, 0, []), (5, .iconst (1), 1, (0, 0, 0), 1, 0, []), (6, .iadd, 1, (0, 0, 0), 0, 0, []), (7, .putfield 58, 3, (8, 3, 0), 0, 0, []), (10, .return_, 1, (0, 0, 0), 0, 0, [])], 11)]
def mp_86 : mj_M := (1, [], mb_86)
-- MacroPress$Source.beginLine()Z
def mb_87 : List mj_B := [(0, [true, false], [(0, .aload_n 0, 1, (0, 0, 0), 0, 0, []), (1, .getfield 37, 3, (8, 2, 0), 0, 0, []), (4, .aload_n 0, 1, (0, 0, 0), 0, 0, []), (5, .getfield 33, 3, (8, 1, 0), 0, 0, []), (8, .if_icmp .lt (5), 3, (13, 0, 0), 0, 0, [])], 11),
  (11, [false, false], [(11, .iconst (0), 1, (0, 0, 0), 0, 0, []), (12, .ireturn, 1, (0, 0, 1), 0, 0, [])], 13),
  (13, [true, false], [(13, .aload_n 0, 1, (0, 0, 0), 0, 0, []), (14, .getfield 37, 3, (8, 2, 0), 0, 0, []), (17, .istore_n 1, 1, (1, 0, 0), 0, 0, [])], 18),
  (18, [true, true], [(18, .iload_n 1, 1, (1, 0, 0), 0, 0, []), (19, .aload_n 0, 1, (0, 0, 0), 0, 0, []), (20, .getfield 33, 3, (8, 1, 0), 0, 0, []), (23, .if_icmp .ge (20), 3, (43, 0, 0), 0, 0, [])], 26),
  (26, [true, true], [(26, .aload_n 0, 1, (0, 0, 0), 0, 0, []), (27, .getfield 9, 3, (8, 0, 2), 0, 0, []), (30, .iload_n 1, 1, (1, 0, 0), 0, 0, []), (31, .iaload, 1, (0, 0, 0), 0, 0, []), (32, .bipush (10), 2, (0, 0, 0), 10, 0, []), (34, .if_icmp .eq (9), 3, (43, 0, 0), 0, 0, [])], 37),
  (37, [true, true], [(37, .iinc 1 (1), 3, (1, 0, 0), 1, 0, []), (40, .goto (-22), 3, (18, 0, 0), 0, 0, [])], 43),
  (43, [true, true], [(43, .aload_n 0, 1, (0, 0, 0), 0, 0, []), (44, .aload_n 0, 1, (0, 0, 0), 0, 0, []), (45, .getfield 37, 3, (8, 2, 0), 0, 0, []), (48, .putfield 58, 3, (8, 3, 0), 0, 0, []), (51, .aload_n 0, 1, (0, 0, 0), 0, 0, []), (52, .iload_n 1, 1, (1, 0, 0), 0, 0, []), (53, .iconst (1), 1, (0, 0, 0), 1, 0, []), (54, .iadd, 1, (0, 0, 0), 0, 0, []), (55, .putfield 37, 3, (8, 2, 0), 0, 0, [])], 58),
  (58, [true, true], [(58, .iload_n 1, 1, (1, 0, 0), 0, 0, []), (59, .aload_n 0, 1, (0, 0, 0), 0, 0, []), (60, .getfield 58, 3, (8, 3, 0), 0, 0, []), (63, .if_icmp .le (22), 3, (85, 0, 0), 0, 0, [])], 66),
  (66, [true, true], [(66, .aload_n 0, 1, (0, 0, 0), 0, 0, []), (67, .getfield 9, 3, (8, 0, 2), 0, 0, []), (70, .iload_n 1, 1, (1, 0, 0), 0, 0, []), (71, .iconst (1), 1, (0, 0, 0), 1, 0, []), (72, .isub, 1, (0, 0, 0), 0, 0, []), (73, .iaload, 1, (0, 0, 0), 0, 0, []), (74, .bipush (32), 2, (0, 0, 0), 32, 0, []), (76, .if_icmp .ne (9), 3, (85, 0, 0), 0, 0, [])], 79),
  (79, [true, true], [(79, .iinc 1 (-1), 3, (1, 0, 0), -1, 0, []), (82, .goto (-24), 3, (58, 0, 0), 0, 0, [])], 85),
  (85, [true, true], [(85, .aload_n 0, 1, (0, 0, 0), 0, 0, []), (86, .getfield 9, 3, (8, 0, 2), 0, 0, []), (89, .iload_n 1, 1, (1, 0, 0), 0, 0, []), (90, .bipush (13), 2, (0, 0, 0), 13, 0, []), (92, .iastore, 1, (0, 0, 0), 0, 0, []), (93, .aload_n 0, 1, (0, 0, 0), 0, 0, []), (94, .iload_n 1, 1, (1, 0, 0), 0, 0, []), (95, .putfield 46, 3, (8, 4, 0), 0, 0, []), (98, .aload_n 0, 1, (0, 0, 0), 0, 0, []), (99, .iconst (0), 1, (0, 0, 0), 0, 0, []), (100, .putfield 83, 3, (8, 5, 0), 0, 0, []), (103, .aload_n 0, 1, (0, 0, 0), 0, 0, []), (104, .dup, 1, (0, 0, 0), 0, 0, []), (105, .getfield 40, 3, (8, 6, 0), 0, 0, []), (108, .iconst (1), 1, (0, 0, 0), 1, 0, []), (109, .iadd, 1, (0, 0, 0), 0, 0, []), (110, .putfield 40, 3, (8, 6, 0), 0, 0, []), (113, .iconst (1), 1, (0, 0, 0), 1, 0, []), (114, .ireturn, 1, (0, 0, 1), 0, 0, [])], 115)]
def mp_87 : mj_M := (2, [], mb_87)
-- MacroPress$Source.scanName()I
def mb_88 : List mj_B := [(0, [true, false], [(0, .iconst (0), 1, (0, 0, 0), 0, 0, []), (1, .istore_n 1, 1, (1, 0, 0), 0, 0, []), (2, .aload_n 0, 1, (0, 0, 0), 0, 0, []), (3, .iconst (1), 1, (0, 0, 0), 1, 0, []), (4, .putfield 83, 3, (8, 5, 0), 0, 0, [])], 7),
  (7, [true, true], [(7, .aload_n 0, 1, (0, 0, 0), 0, 0, []), (8, .getfield 58, 3, (8, 3, 0), 0, 0, []), (11, .aload_n 0, 1, (0, 0, 0), 0, 0, []), (12, .getfield 46, 3, (8, 4, 0), 0, 0, []), (15, .if_icmp .gt (71), 3, (86, 0, 0), 0, 0, [])], 18),
  (18, [true, true], [(18, .aload_n 0, 1, (0, 0, 0), 0, 0, []), (19, .getfield 25, 3, (8, 11, 2), 0, 0, []), (22, .getfield 65, 3, (9, 0, 2), 0, 0, []), (25, .sipush (256), 3, (0, 0, 0), 256, 0, []), (28, .aload_n 0, 1, (0, 0, 0), 0, 0, []), (29, .getfield 9, 3, (8, 0, 2), 0, 0, []), (32, .aload_n 0, 1, (0, 0, 0), 0, 0, []), (33, .getfield 58, 3, (8, 3, 0), 0, 0, []), (36, .iaload, 1, (0, 0, 0), 0, 0, []), (37, .iadd, 1, (0, 0, 0), 0, 0, []), (38, .iaload, 1, (0, 0, 0), 0, 0, []), (39, .bipush (11), 2, (0, 0, 0), 11, 0, []), (41, .if_icmp .ne (45), 3, (86, 0, 0), 0, 0, [])], 44),
  (44, [true, true], [(44, .iload_n 1, 1, (1, 0, 0), 0, 0, []), (45, .bipush (40), 2, (0, 0, 0), 40, 0, []), (47, .if_icmp .gt (21), 3, (68, 0, 0), 0, 0, [])], 50),
  (50, [true, true], [(50, .aload_n 0, 1, (0, 0, 0), 0, 0, []), (51, .getfield 18, 3, (8, 9, 2), 0, 0, []), (54, .iload_n 1, 1, (1, 0, 0), 0, 0, []), (55, .aload_n 0, 1, (0, 0, 0), 0, 0, []), (56, .getfield 9, 3, (8, 0, 2), 0, 0, []), (59, .aload_n 0, 1, (0, 0, 0), 0, 0, []), (60, .getfield 58, 3, (8, 3, 0), 0, 0, []), (63, .iaload, 1, (0, 0, 0), 0, 0, []), (64, .iastore, 1, (0, 0, 0), 0, 0, []), (65, .iinc 1 (1), 3, (1, 0, 0), 1, 0, [])], 68),
  (68, [true, true], [(68, .aload_n 0, 1, (0, 0, 0), 0, 0, []), (69, .iconst (2), 1, (0, 0, 0), 2, 0, []), (70, .putfield 83, 3, (8, 5, 0), 0, 0, []), (73, .aload_n 0, 1, (0, 0, 0), 0, 0, []), (74, .dup, 1, (0, 0, 0), 0, 0, []), (75, .getfield 58, 3, (8, 3, 0), 0, 0, []), (78, .iconst (1), 1, (0, 0, 0), 1, 0, []), (79, .iadd, 1, (0, 0, 0), 0, 0, []), (80, .putfield 58, 3, (8, 3, 0), 0, 0, []), (83, .goto (-76), 3, (7, 0, 0), 0, 0, [])], 86),
  (86, [true, true], [(86, .iload_n 1, 1, (1, 0, 0), 0, 0, []), (87, .ifCond .ne (76), 3, (163, 0, 0), 0, 0, [])], 90),
  (90, [true, true], [(90, .aload_n 0, 1, (0, 0, 0), 0, 0, []), (91, .getfield 58, 3, (8, 3, 0), 0, 0, []), (94, .aload_n 0, 1, (0, 0, 0), 0, 0, []), (95, .getfield 46, 3, (8, 4, 0), 0, 0, []), (98, .if_icmp .gt (65), 3, (163, 0, 0), 0, 0, [])], 101),
  (101, [true, false], [(101, .aload_n 0, 1, (0, 0, 0), 0, 0, []), (102, .getfield 18, 3, (8, 9, 2), 0, 0, []), (105, .iconst (0), 1, (0, 0, 0), 0, 0, []), (106, .aload_n 0, 1, (0, 0, 0), 0, 0, []), (107, .getfield 9, 3, (8, 0, 2), 0, 0, []), (110, .aload_n 0, 1, (0, 0, 0), 0, 0, []), (111, .getfield 58, 3, (8, 3, 0), 0, 0, []), (114, .iaload, 1, (0, 0, 0), 0, 0, []), (115, .iastore, 1, (0, 0, 0), 0, 0, []), (116, .iconst (1), 1, (0, 0, 0), 1, 0, []), (117, .istore_n 1, 1, (1, 0, 0), 0, 0, []), (118, .aload_n 0, 1, (0, 0, 0), 0, 0, []), (119, .aload_n 0, 1, (0, 0, 0), 0, 0, []), (120, .getfield 25, 3, (8, 11, 2), 0, 0, []), (123, .getfield 65, 3, (9, 0, 2), 0, 0, []), (126, .sipush (256), 3, (0, 0, 0), 256, 0, []), (129, .aload_n 0, 1, (0, 0, 0), 0, 0, []), (130, .getfield 9, 3, (8, 0, 2), 0, 0, []), (133, .aload_n 0, 1, (0, 0, 0), 0, 0, []), (134, .getfield 58, 3, (8, 3, 0), 0, 0, []), (137, .iaload, 1, (0, 0, 0), 0, 0, []), (138, .iadd, 1, (0, 0, 0), 0, 0, []), (139, .iaload, 1, (0, 0, 0), 0, 0, []), (140, .bipush (10), 2, (0, 0, 0), 10, 0, []), (142, .if_icmp .ne (7), 3, (149, 0, 0), 0, 0, [])], 145),
  (145, [true, true], [(145, .iconst (2), 1, (0, 0, 0), 2, 0, []), (146, .goto (4), 3, (150, 0, 0), 0, 0, [])], 149),
  (149, [true, true], [(149, .iconst (1), 1, (0, 0, 0), 1, 0, [])], 150),
  (150, [true, true], [(150, .putfield 83, 3, (8, 5, 0), 0, 0, []), (153, .aload_n 0, 1, (0, 0, 0), 0, 0, []), (154, .dup, 1, (0, 0, 0), 0, 0, []), (155, .getfield 58, 3, (8, 3, 0), 0, 0, []), (158, .iconst (1), 1, (0, 0, 0), 1, 0, []), (159, .iadd, 1, (0, 0, 0), 0, 0, []), (160, .putfield 58, 3, (8, 3, 0), 0, 0, [])], 163),
  (163, [false, true], [(163, .iload_n 1, 1, (1, 0, 0), 0, 0, []), (164, .ireturn, 1, (0, 0, 0), 0, 0, [])], 165)]
def mp_88 : mj_M := (2, [], mb_88)
-- MacroPress$Store.<init>(LMacroPress$Progress;)V
def mb_89 : List mj_B := [(0, [true, true, false], [(0, .aload_n 0, 1, (0, 0, 0), 0, 0, []), (1, .invokespecial 3, 3, (0, 0, 1), 0, 0, []), (4, .aload_n 0, 1, (0, 0, 0), 0, 0, []), (5, .sipush (1804), 3, (0, 0, 0), 1804, 0, []), (8, .newarray .int, 2, (0, 0, 0), 0, 0, []), (10, .putfield 9, 3, (9, 0, 2), 0, 0, []), (13, .aload_n 0, 1, (0, 0, 0), 0, 0, []), (14, .sipush (1804), 3, (0, 0, 0), 1804, 0, []), (17, .newarray .int, 2, (0, 0, 0), 0, 0, []), (19, .putfield 15, 3, (9, 1, 2), 0, 0, []), (22, .aload_n 0, 1, (0, 0, 0), 0, 0, []), (23, .sipush (1804), 3, (0, 0, 0), 1804, 0, []), (26, .newarray .int, 2, (0, 0, 0), 0, 0, []), (28, .putfield 18, 3, (9, 2, 2), 0, 0, []), (31, .aload_n 0, 1, (0, 0, 0), 0, 0, []), (32, .sipush (30001), 3, (0, 0, 0), 30001, 0, []), (35, .newarray .int, 2, (0, 0, 0), 0, 0, []), (37, .putfield 21, 3, (9, 3, 2), 0, 0, []), (40, .aload_n 0, 1, (0, 0, 0), 0, 0, []), (41, .sipush (30001), 3, (0, 0, 0), 30001, 0, []), (44, .newarray .int, 2, (0, 0, 0), 0, 0, []), (46, .putfield 24, 3, (9, 4, 2), 0, 0, []), (49, .aload_n 0, 1, (0, 0, 0), 0, 0, []), (50, .bipush (100), 2, (0, 0, 0), 100, 0, []), (52, .newarray .int, 2, (0, 0, 0), 0, 0, []), (54, .putfield 27, 3, (9, 6, 2), 0, 0, []), (57, .aload_n 0, 1, (0, 0, 0), 0, 0, []), (58, .bipush (100), 2, (0, 0, 0), 100, 0, []), (60, .newarray .int, 2, (0, 0, 0), 0, 0, []), (62, .putfield 30, 3, (9, 7, 2), 0, 0, []), (65, .aload_n 0, 1, (0, 0, 0), 0, 0, []), (66, .aload_n 1, 1, (1, 0, 0), 0, 0, []), (67, .putfield 33, 3, (9, 9, 2), 0, 0, []), (70, .iconst (0), 1, (0, 0, 0), 0, 0, []), (71, .istore_n 2, 1, (2, 0, 0), 0, 0, [])], 72),
  (72, [true, false, true], [(72, .iload_n 2, 1, (2, 0, 0), 0, 0, []), (73, .sipush (256), 3, (0, 0, 0), 256, 0, []), (76, .if_icmp .ge (23), 3, (99, 0, 0), 0, 0, [])], 79),
  (79, [true, false, true], [(79, .aload_n 0, 1, (0, 0, 0), 0, 0, []), (80, .getfield 15, 3, (9, 1, 2), 0, 0, []), (83, .sipush (256), 3, (0, 0, 0), 256, 0, []), (86, .iload_n 2, 1, (2, 0, 0), 0, 0, []), (87, .iadd, 1, (0, 0, 0), 0, 0, []), (88, .iload_n 2, 1, (2, 0, 0), 0, 0, []), (89, .invokestatic 37, 3, (91, 1, 0), 0, 0, []), (92, .iastore, 1, (0, 0, 0), 0, 0, []), (93, .iinc 2 (1), 3, (2, 0, 0), 1, 0, []), (96, .goto (-24), 3, (72, 0, 0), 0, 0, [])], 99),
  (99, [true, false, false], [(99, .iconst (0), 1, (0, 0, 0), 0, 0, []), (100, .istore_n 2, 1, (2, 0, 0), 0, 0, [])], 101),
  (101, [true, false, true], [(101, .iload_n 2, 1, (2, 0, 0), 0, 0, []), (102, .bipush (36), 2, (0, 0, 0), 36, 0, []), (104, .if_icmp .ge (26), 3, (130, 0, 0), 0, 0, [])], 107),
  (107, [true, false, true], [(107, .aload_n 0, 1, (0, 0, 0), 0, 0, []), (108, .getfield 15, 3, (9, 1, 2), 0, 0, []), (111, .sipush (768), 3, (0, 0, 0), 768, 0, []), (114, .iload_n 2, 1, (2, 0, 0), 0, 0, []), (115, .iadd, 1, (0, 0, 0), 0, 0, []), (116, .iconst (1), 1, (0, 0, 0), 1, 0, []), (117, .iload_n 2, 1, (2, 0, 0), 0, 0, []), (118, .iconst (1), 1, (0, 0, 0), 1, 0, []), (119, .iadd, 1, (0, 0, 0), 0, 0, []), (120, .invokestatic 41, 3, (92, 2, 0), 0, 0, []), (123, .iastore, 1, (0, 0, 0), 0, 0, []), (124, .iinc 2 (1), 3, (2, 0, 0), 1, 0, []), (127, .goto (-26), 3, (101, 0, 0), 0, 0, [])], 130),
  (130, [false, false, false], [(130, .return_, 1, (0, 0, 0), 0, 0, [])], 131)]
def mp_89 : mj_M := (3, [], mb_89)
-- MacroPress$Store.begin()V
def mb_90 : List mj_B := [(0, [true], [(0, .aload_n 0, 1, (0, 0, 0), 0, 0, []), (1, .getfield 15, 3, (9, 1, 2), 0, 0, []), (4, .iconst (0), 1, (0, 0, 0), 0, 0, []), (5, .aload_n 0, 1, (0, 0, 0), 0, 0, []), (6, .getfield 9, 3, (9, 0, 2), 0, 0, []), (9, .iconst (0), 1, (0, 0, 0), 0, 0, []), (10, .sipush (1804), 3, (0, 0, 0), 1804, 0, []), (13, .invokestatic 45, 3, (902, 5, 0), 0, 0, []), (16, .return_, 1, (0, 0, 0), 0, 0, [])], 17)]
def mp_90 : mj_M := (1, [], mb_90)
-- MacroPress$Store.firstCategory(I)I
def mb_91 : List mj_B := [(0, [true], [(0, .iload_n 0, 1, (0, 0, 0), 0, 0, []), (1, .bipush (97), 2, (0, 0, 0), 97, 0, []), (3, .if_icmp .lt (9), 3, (12, 0, 0), 0, 0, [])], 6),
  (6, [true], [(6, .iload_n 0, 1, (0, 0, 0), 0, 0, []), (7, .bipush (122), 2, (0, 0, 0), 122, 0, []), (9, .if_icmp .le (15), 3, (24, 0, 0), 0, 0, [])], 12),
  (12, [true], [(12, .iload_n 0, 1, (0, 0, 0), 0, 0, []), (13, .bipush (65), 2, (0, 0, 0), 65, 0, []), (15, .if_icmp .lt (12), 3, (27, 0, 0), 0, 0, [])], 18),
  (18, [true], [(18, .iload_n 0, 1, (0, 0, 0), 0, 0, []), (19, .bipush (90), 2, (0, 0, 0), 90, 0, []), (21, .if_icmp .gt (6), 3, (27, 0, 0), 0, 0, [])], 24),
  (24, [false], [(24, .bipush (11), 2, (0, 0, 0), 11, 0, []), (26, .ireturn, 1, (0, 0, 0), 0, 0, [])], 27),
  (27, [true], [(27, .iload_n 0, 1, (0, 0, 0), 0, 0, []), (28, .lookupswitch (168) #[(0, 153), (9, 156), (13, 142), (32, 156), (35, 144), (36, 138), (37, 162), (38, 140), (92, 132), (94, 147), (95, 150), (123, 134), (125, 136), (126, 159), (127, 165)], 132, (196, 0, 0), 0, 0, [(0, 181), (9, 184), (13, 170), (32, 184), (35, 172), (36, 166), (37, 190), (38, 168), (92, 160), (94, 175), (95, 178), (123, 162), (125, 164), (126, 187), (127, 193)])], 160),
  (160, [false], [(160, .iconst (0), 1, (0, 0, 0), 0, 0, []), (161, .ireturn, 1, (0, 0, 0), 0, 0, [])], 162),
  (162, [false], [(162, .iconst (1), 1, (0, 0, 0), 1, 0, []), (163, .ireturn, 1, (0, 0, 0), 0, 0, [])], 164),
  (164, [false], [(164, .iconst (2), 1, (0, 0, 0), 2, 0, []), (165, .ireturn, 1, (0, 0, 0), 0, 0, [])], 166),
  (166, [false], [(166, .iconst (3), 1, (0, 0, 0), 3, 0, []), (167, .ireturn, 1, (0, 0, 0), 0, 0, [])], 168),
  (168, [false], [(168, .iconst (4), 1, (0, 0, 0), 4, 0, []), (169, .ireturn, 1, (0, 0, 0), 0, 0, [])], 170),
  (170, [false], [(170, .iconst (5), 1, (0, 0, 0), 5, 0, []), (171, .ireturn, 1, (0, 0, 0), 0, 0, [])], 172),
  (172, [false], [(172, .bipush (6), 2, (0, 0, 0), 6, 0, []), (174, .ireturn, 1, (0, 0, 0), 0, 0, [])], 175),
  (175, [false], [(175, .bipush (7), 2, (0, 0, 0), 7, 0, []), (177, .ireturn, 1, (0, 0, 0), 0, 0, [])], 178),
  (178, [false], [(178, .bipush (8), 2, (0, 0, 0), 8, 0, []), (180, .ireturn, 1, (0, 0, 0), 0, 0, [])], 181),
  (181, [false], [(181, .bipush (9), 2, (0, 0, 0), 9, 0, []), (183, .ireturn, 1, (0, 0, 0), 0, 0, [])], 184),
  (184, [false], [(184, .bipush (10), 2, (0, 0, 0), 10, 0, []), (186, .ireturn, 1, (0, 0, 0), 0, 0, [])], 187),
  (187, [false], [(187, .bipush (13), 2, (0, 0, 0), 13, 0, []), (189, .ireturn, 1, (0, 0, 0), 0, 0, [])], 190),
  (190, [false], [(190, .bipush (14), 2, (0, 0, 0), 14, 0, []), (192, .ireturn, 1, (0, 0, 0), 0, 0, [])], 193),
  (193, [false], [(193, .bipush (15), 2, (0, 0, 0), 15, 0, []), (195, .ireturn, 1, (0, 0, 0), 0, 0, [])], 196),
  (196, [false], [(196, .bipush (12), 2, (0, 0, 0), 12, 0, []), (198, .ireturn, 1, (0, 0, 0), 0, 0, [])], 199)]
def mp_91 : mj_M := (1, [], mb_91)
-- MacroPress$Store.meaningOf(II)I
def mb_92 : List mj_B := [(0, [true, true], [(0, .iload_n 0, 1, (0, 0, 0), 0, 0, []), (1, .bipush (16), 2, (0, 0, 0), 16, 0, []), (3, .ishl, 1, (0, 0, 0), 0, 0, []), (4, .iload_n 1, 1, (1, 0, 0), 0, 0, []), (5, .iadd, 1, (0, 0, 0), 0, 0, []), (6, .ireturn, 1, (0, 0, 0), 0, 0, [])], 7)]
def mp_92 : mj_M := (2, [], mb_92)
-- MacroPress$Store.kindOf(I)I
def mb_93 : List mj_B := [(0, [true], [(0, .iload_n 0, 1, (0, 0, 0), 0, 0, []), (1, .bipush (16), 2, (0, 0, 0), 16, 0, []), (3, .ishr, 1, (0, 0, 0), 0, 0, []), (4, .ireturn, 1, (0, 0, 0), 0, 0, [])], 5)]
def mp_93 : mj_M := (1, [], mb_93)
-- MacroPress$Store.dataOf(I)I
def mb_94 : List mj_B := [(0, [true], [(0, .iload_n 0, 1, (0, 0, 0), 0, 0, []), (1, .ldc 51, 2, (0, 0, 0), 65535, 0, []), (3, .iand, 1, (0, 0, 0), 0, 0, []), (4, .ireturn, 1, (0, 0, 0), 0, 0, [])], 5)]
def mp_94 : mj_M := (1, [], mb_94)
-- MacroPress$Store.isExpandable(I)Z
def mb_95 : List mj_B := [(0, [true, false], [(0, .iload_n 0, 1, (0, 0, 0), 0, 0, []), (1, .invokestatic 52, 3, (93, 1, 0), 0, 0, []), (4, .istore_n 1, 1, (1, 0, 0), 0, 0, []), (5, .iload_n 1, 1, (1, 0, 0), 0, 0, []), (6, .iconst (2), 1, (0, 0, 0), 2, 0, []), (7, .if_icmp .eq (17), 3, (24, 0, 0), 0, 0, [])], 10),
  (10, [true, true], [(10, .iload_n 1, 1, (1, 0, 0), 0, 0, []), (11, .iconst (1), 1, (0, 0, 0), 1, 0, []), (12, .if_icmp .ne (16), 3, (28, 0, 0), 0, 0, [])], 15),
  (15, [true, false], [(15, .iload_n 0, 1, (0, 0, 0), 0, 0, []), (16, .invokestatic 55, 3, (94, 1, 0), 0, 0, []), (19, .bipush (18), 2, (0, 0, 0), 18, 0, []), (21, .if_icmp .gt (7), 3, (28, 0, 0), 0, 0, [])], 24),
  (24, [false, false], [(24, .iconst (1), 1, (0, 0, 0), 1, 0, []), (25, .goto (4), 3, (29, 0, 0), 0, 0, [])], 28),
  (28, [false, false], [(28, .iconst (0), 1, (0, 0, 0), 0, 0, [])], 29),
  (29, [false, false], [(29, .ireturn, 1, (0, 0, 1), 0, 0, [])], 30)]
def mp_95 : mj_M := (2, [], mb_95)
-- MacroPress$Store.meaning(I)I
def mb_96 : List mj_B := [(0, [true, true], [(0, .iload_n 1, 1, (1, 0, 0), 0, 0, []), (1, .invokestatic 58, 3, (184, 1, 0), 0, 0, []), (4, .ifCond .eq (10), 3, (14, 0, 0), 0, 0, [])], 7),
  (7, [false, false], [(7, .iconst (1), 1, (0, 0, 0), 1, 0, []), (8, .bipush (19), 2, (0, 0, 0), 19, 0, []), (10, .invokestatic 41, 3, (92, 2, 0), 0, 0, []), (13, .ireturn, 1, (0, 0, 0), 0, 0, [])], 14),
  (14, [true, true], [(14, .iload_n 1, 1, (1, 0, 0), 0, 0, []), (15, .invokestatic 64, 3, (188, 1, 0), 0, 0, []), (18, .ifCond .eq (11), 3, (29, 0, 0), 0, 0, [])], 21),
  (21, [false, true], [(21, .iconst (3), 1, (0, 0, 0), 3, 0, []), (22, .iload_n 1, 1, (1, 0, 0), 0, 0, []), (23, .invokestatic 41, 3, (92, 2, 0), 0, 0, []), (26, .goto (12), 3, (38, 0, 0), 0, 0, [])], 29),
  (29, [true, true], [(29, .aload_n 0, 1, (0, 0, 0), 0, 0, []), (30, .getfield 9, 3, (9, 0, 2), 0, 0, []), (33, .iload_n 1, 1, (1, 0, 0), 0, 0, []), (34, .invokestatic 67, 3, (192, 1, 0), 0, 0, []), (37, .iaload, 1, (0, 0, 0), 0, 0, [])], 38),
  (38, [false, false], [(38, .ireturn, 1, (0, 0, 0), 0, 0, [])], 39)]
def mp_96 : mj_M := (2, [], mb_96)
-- MacroPress$Store.primitive(I)I
def mb_97 : List mj_B := [(0, [true, true, false], [(0, .aload_n 0, 1, (0, 0, 0), 0, 0, []), (1, .iload_n 1, 1, (1, 0, 0), 0, 0, []), (2, .invokevirtual 70, 3, (96, 2, 9), 0, 0, []), (5, .istore_n 2, 1, (2, 0, 0), 0, 0, []), (6, .iload_n 2, 1, (2, 0, 0), 0, 0, []), (7, .invokestatic 52, 3, (93, 1, 0), 0, 0, []), (10, .iconst (1), 1, (0, 0, 0), 1, 0, []), (11, .if_icmp .ne (10), 3, (21, 0, 0), 0, 0, [])], 14),
  (14, [false, false, true], [(14, .iload_n 2, 1, (2, 0, 0), 0, 0, []), (15, .invokestatic 55, 3, (94, 1, 0), 0, 0, []), (18, .goto (4), 3, (22, 0, 0), 0, 0, [])], 21),
  (21, [false, false, false], [(21, .iconst (0), 1, (0, 0, 0), 0, 0, [])], 22),
  (22, [false, false, false], [(22, .ireturn, 1, (0, 0, 0), 0, 0, [])], 23)]
def mp_97 : mj_M := (3, [], mb_97)
-- MacroPress$Store.set(IIZ)V
def mb_98 : List mj_B := [(0, [true, true, true, true], [(0, .iload_n 3, 1, (3, 0, 0), 0, 0, []), (1, .ifCond .eq (13), 3, (14, 0, 0), 0, 0, [])], 4),
  (4, [true, true, true, false], [(4, .aload_n 0, 1, (0, 0, 0), 0, 0, []), (5, .getfield 18, 3, (9, 2, 2), 0, 0, []), (8, .iload_n 1, 1, (1, 0, 0), 0, 0, []), (9, .iconst (0), 1, (0, 0, 0), 0, 0, []), (10, .iastore, 1, (0, 0, 0), 0, 0, []), (11, .goto (91), 3, (102, 0, 0), 0, 0, [])], 14),
  (14, [true, true, true, false], [(14, .aload_n 0, 1, (0, 0, 0), 0, 0, []), (15, .getfield 18, 3, (9, 2, 2), 0, 0, []), (18, .iload_n 1, 1, (1, 0, 0), 0, 0, []), (19, .iaload, 1, (0, 0, 0), 0, 0, []), (20, .aload_n 0, 1, (0, 0, 0), 0, 0, []), (21, .getfield 73, 3, (9, 8, 0), 0, 0, []), (24, .if_icmp .eq (78), 3, (102, 0, 0), 0, 0, [])], 27),
  (27, [true, true, true, false], [(27, .aload_n 0, 1, (0, 0, 0), 0, 0, []), (28, .getfield 77, 3, (9, 5, 0), 0, 0, []), (31, .sipush (30001), 3, (0, 0, 0), 30001, 0, []), (34, .if_icmp .lt (12), 3, (46, 0, 0), 0, 0, [])], 37),
  (37, [true, true, true, false], [(37, .aload_n 0, 1, (0, 0, 0), 0, 0, []), (38, .getfield 33, 3, (9, 9, 2), 0, 0, []), (41, .iconst (2), 1, (0, 0, 0), 2, 0, []), (42, .invokevirtual 80, 3, (80, 2, 7), 0, 0, []), (45, .pop, 1, (0, 0, 0), 0, 0, [])], 46),
  (46, [true, true, true, false], [(46, .aload_n 0, 1, (0, 0, 0), 0, 0, []), (47, .getfield 21, 3, (9, 3, 2), 0, 0, []), (50, .aload_n 0, 1, (0, 0, 0), 0, 0, []), (51, .getfield 77, 3, (9, 5, 0), 0, 0, []), (54, .sipush (1804), 3, (0, 0, 0), 1804, 0, []), (57, .aload_n 0, 1, (0, 0, 0), 0, 0, []), (58, .getfield 18, 3, (9, 2, 2), 0, 0, []), (61, .iload_n 1, 1, (1, 0, 0), 0, 0, []), (62, .iaload, 1, (0, 0, 0), 0, 0, []), (63, .imul, 1, (0, 0, 0), 0, 0, []), (64, .iload_n 1, 1, (1, 0, 0), 0, 0, []), (65, .iadd, 1, (0, 0, 0), 0, 0, []), (66, .iastore, 1, (0, 0, 0), 0, 0, []), (67, .aload_n 0, 1, (0, 0, 0), 0, 0, []), (68, .getfield 24, 3, (9, 4, 2), 0, 0, []), (71, .aload_n 0, 1, (0, 0, 0), 0, 0, []), (72, .getfield 77, 3, (9, 5, 0), 0, 0, []), (75, .aload_n 0, 1, (0, 0, 0), 0, 0, []), (76, .getfield 9, 3, (9, 0, 2), 0, 0, []), (79, .iload_n 1, 1, (1, 0, 0), 0, 0, []), (80, .iaload, 1, (0, 0, 0), 0, 0, []), (81, .iastore, 1, (0, 0, 0), 0, 0, []), (82, .aload_n 0, 1, (0, 0, 0), 0, 0, []), (83, .dup, 1, (0, 0, 0), 0, 0, []), (84, .getfield 77, 3, (9, 5, 0), 0, 0, []), (87, .iconst (1), 1, (0, 0, 0), 1, 0, []), (88, .iadd, 1, (0, 0, 0), 0, 0, []), (89, .putfield 77, 3, (9, 5, 0), 0, 0, []), (92, .aload_n 0, 1, (0, 0, 0), 0, 0, []), (93, .getfield 18, 3, (9, 2, 2), 0, 0, []), (96, .iload_n 1, 1, (1, 0, 0), 0, 0, []), (97, .aload_n 0, 1, (0, 0, 0), 0, 0, []), (98, .getfield 73, 3, (9, 8, 0), 0, 0, []), (101, .iastore, 1, (0, 0, 0), 0, 0, [])], 102),
  (102, [true, true, true, false], [(102, .aload_n 0, 1, (0, 0, 0), 0, 0, []), (103, .getfield 9, 3, (9, 0, 2), 0, 0, []), (106, .iload_n 1, 1, (1, 0, 0), 0, 0, []), (107, .iload_n 2, 1, (2, 0, 0), 0, 0, []), (108, .iastore, 1, (0, 0, 0), 0, 0, []), (109, .return_, 1, (0, 0, 0), 0, 0, [])], 110)]
def mp_98 : mj_M := (4, [], mb_98)
-- MacroPress$Store.openGroup(I)V
def mb_99 : List mj_B := [(0, [true, true], [(0, .aload_n 0, 1, (0, 0, 0), 0, 0, []), (1, .getfield 73, 3, (9, 8, 0), 0, 0, []), (4, .bipush (100), 2, (0, 0, 0), 100, 0, []), (6, .if_icmp .lt (12), 3, (18, 0, 0), 0, 0, [])], 9),
  (9, [true, true], [(9, .aload_n 0, 1, (0, 0, 0), 0, 0, []), (10, .getfield 33, 3, (9, 9, 2), 0, 0, []), (13, .iconst (2), 1, (0, 0, 0), 2, 0, []), (14, .invokevirtual 80, 3, (80, 2, 7), 0, 0, []), (17, .pop, 1, (0, 0, 0), 0, 0, [])], 18),
  (18, [true, true], [(18, .aload_n 0, 1, (0, 0, 0), 0, 0, []), (19, .getfield 27, 3, (9, 6, 2), 0, 0, []), (22, .aload_n 0, 1, (0, 0, 0), 0, 0, []), (23, .getfield 73, 3, (9, 8, 0), 0, 0, []), (26, .iload_n 1, 1, (1, 0, 0), 0, 0, []), (27, .iastore, 1, (0, 0, 0), 0, 0, []), (28, .aload_n 0, 1, (0, 0, 0), 0, 0, []), (29, .getfield 30, 3, (9, 7, 2), 0, 0, []), (32, .aload_n 0, 1, (0, 0, 0), 0, 0, []), (33, .getfield 73, 3, (9, 8, 0), 0, 0, []), (36, .aload_n 0, 1, (0, 0, 0), 0, 0, []), (37, .getfield 77, 3, (9, 5, 0), 0, 0, []), (40, .iastore, 1, (0, 0, 0), 0, 0, []), (41, .aload_n 0, 1, (0, 0, 0), 0, 0, []), (42, .dup, 1, (0, 0, 0), 0, 0, []), (43, .getfield 73, 3, (9, 8, 0), 0, 0, []), (46, .iconst (1), 1, (0, 0, 0), 1, 0, []), (47, .iadd, 1, (0, 0, 0), 0, 0, []), (48, .putfield 73, 3, (9, 8, 0), 0, 0, []), (51, .return_, 1, (0, 0, 0), 0, 0, [])], 52)]
def mp_99 : mj_M := (2, [], mb_99)
end
section
/-! THE PROGRAM'S TABLES, printed: methods 100 to 149 -/
-- MacroPress$Store.closeGroup(I)V
def mb_100 : List mj_B := [(0, [true, true], [(0, .aload_n 0, 1, (0, 0, 0), 0, 0, []), (1, .getfield 73, 3, (9, 8, 0), 0, 0, []), (4, .ifCond .eq (18), 3, (22, 0, 0), 0, 0, [])], 7),
  (7, [true, true], [(7, .aload_n 0, 1, (0, 0, 0), 0, 0, []), (8, .getfield 27, 3, (9, 6, 2), 0, 0, []), (11, .aload_n 0, 1, (0, 0, 0), 0, 0, []), (12, .getfield 73, 3, (9, 8, 0), 0, 0, []), (15, .iconst (1), 1, (0, 0, 0), 1, 0, []), (16, .isub, 1, (0, 0, 0), 0, 0, []), (17, .iaload, 1, (0, 0, 0), 0, 0, []), (18, .iload_n 1, 1, (1, 0, 0), 0, 0, []), (19, .if_icmp .eq (13), 3, (32, 0, 0), 0, 0, [])], 22),
  (22, [true, false], [(22, .aload_n 0, 1, (0, 0, 0), 0, 0, []), (23, .getfield 33, 3, (9, 9, 2), 0, 0, []), (26, .bipush (13), 2, (0, 0, 0), 13, 0, []), (28, .invokevirtual 80, 3, (80, 2, 7), 0, 0, []), (31, .pop, 1, (0, 0, 0), 0, 0, [])], 32),
  (32, [true, false], [(32, .aload_n 0, 1, (0, 0, 0), 0, 0, []), (33, .invokevirtual 85, 3, (102, 1, 9), 0, 0, []), (36, .return_, 1, (0, 0, 0), 0, 0, [])], 37)]
def mp_100 : mj_M := (2, [], mb_100)
-- MacroPress$Store.closeAll()V
def mb_101 : List mj_B := [(0, [true, false], [(0, .iconst (0), 1, (0, 0, 0), 0, 0, []), (1, .istore_n 1, 1, (1, 0, 0), 0, 0, [])], 2),
  (2, [true, true], [(2, .iload_n 1, 1, (1, 0, 0), 0, 0, []), (3, .bipush (100), 2, (0, 0, 0), 100, 0, []), (5, .if_icmp .ge (20), 3, (25, 0, 0), 0, 0, [])], 8),
  (8, [true, true], [(8, .aload_n 0, 1, (0, 0, 0), 0, 0, []), (9, .getfield 73, 3, (9, 8, 0), 0, 0, []), (12, .ifCond .le (13), 3, (25, 0, 0), 0, 0, [])], 15),
  (15, [true, true], [(15, .aload_n 0, 1, (0, 0, 0), 0, 0, []), (16, .invokevirtual 85, 3, (102, 1, 9), 0, 0, []), (19, .iinc 1 (1), 3, (1, 0, 0), 1, 0, []), (22, .goto (-20), 3, (2, 0, 0), 0, 0, [])], 25),
  (25, [false, false], [(25, .return_, 1, (0, 0, 0), 0, 0, [])], 26)]
def mp_101 : mj_M := (2, [], mb_101)
-- MacroPress$Store.bringBack()V
def mb_102 : List mj_B := [(0, [true, false, false, false], [(0, .aload_n 0, 1, (0, 0, 0), 0, 0, []), (1, .dup, 1, (0, 0, 0), 0, 0, []), (2, .getfield 73, 3, (9, 8, 0), 0, 0, []), (5, .iconst (1), 1, (0, 0, 0), 1, 0, []), (6, .isub, 1, (0, 0, 0), 0, 0, []), (7, .putfield 73, 3, (9, 8, 0), 0, 0, []), (10, .aload_n 0, 1, (0, 0, 0), 0, 0, []), (11, .getfield 30, 3, (9, 7, 2), 0, 0, []), (14, .aload_n 0, 1, (0, 0, 0), 0, 0, []), (15, .getfield 73, 3, (9, 8, 0), 0, 0, []), (18, .iaload, 1, (0, 0, 0), 0, 0, []), (19, .istore_n 1, 1, (1, 0, 0), 0, 0, []), (20, .aload_n 0, 1, (0, 0, 0), 0, 0, []), (21, .getfield 77, 3, (9, 5, 0), 0, 0, []), (24, .iconst (1), 1, (0, 0, 0), 1, 0, []), (25, .isub, 1, (0, 0, 0), 0, 0, []), (26, .istore_n 2, 1, (2, 0, 0), 0, 0, [])], 27),
  (27, [true, true, true, false], [(27, .iload_n 2, 1, (2, 0, 0), 0, 0, []), (28, .iload_n 1, 1, (1, 0, 0), 0, 0, []), (29, .if_icmp .lt (57), 3, (86, 0, 0), 0, 0, [])], 32),
  (32, [true, true, true, false], [(32, .aload_n 0, 1, (0, 0, 0), 0, 0, []), (33, .getfield 21, 3, (9, 3, 2), 0, 0, []), (36, .iload_n 2, 1, (2, 0, 0), 0, 0, []), (37, .iaload, 1, (0, 0, 0), 0, 0, []), (38, .sipush (1804), 3, (0, 0, 0), 1804, 0, []), (41, .irem, 1, (0, 0, 0), 0, 0, []), (42, .istore_n 3, 1, (3, 0, 0), 0, 0, []), (43, .aload_n 0, 1, (0, 0, 0), 0, 0, []), (44, .getfield 18, 3, (9, 2, 2), 0, 0, []), (47, .iload_n 3, 1, (3, 0, 0), 0, 0, []), (48, .iaload, 1, (0, 0, 0), 0, 0, []), (49, .ifCond .eq (31), 3, (80, 0, 0), 0, 0, [])], 52),
  (52, [true, true, true, true], [(52, .aload_n 0, 1, (0, 0, 0), 0, 0, []), (53, .getfield 9, 3, (9, 0, 2), 0, 0, []), (56, .iload_n 3, 1, (3, 0, 0), 0, 0, []), (57, .aload_n 0, 1, (0, 0, 0), 0, 0, []), (58, .getfield 24, 3, (9, 4, 2), 0, 0, []), (61, .iload_n 2, 1, (2, 0, 0), 0, 0, []), (62, .iaload, 1, (0, 0, 0), 0, 0, []), (63, .iastore, 1, (0, 0, 0), 0, 0, []), (64, .aload_n 0, 1, (0, 0, 0), 0, 0, []), (65, .getfield 18, 3, (9, 2, 2), 0, 0, []), (68, .iload_n 3, 1, (3, 0, 0), 0, 0, []), (69, .aload_n 0, 1, (0, 0, 0), 0, 0, []), (70, .getfield 21, 3, (9, 3, 2), 0, 0, []), (73, .iload_n 2, 1, (2, 0, 0), 0, 0, []), (74, .iaload, 1, (0, 0, 0), 0, 0, []), (75, .sipush (1804), 3, (0, 0, 0), 1804, 0, []), (78, .idiv, 1, (0, 0, 0), 0, 0, []), (79, .iastore, 1, (0, 0, 0), 0, 0, [])], 80),
  (80, [true, true, true, false], [(80, .iinc 2 (-1), 3, (2, 0, 0), -1, 0, []), (83, .goto (-56), 3, (27, 0, 0), 0, 0, [])], 86),
  (86, [true, true, false, false], [(86, .aload_n 0, 1, (0, 0, 0), 0, 0, []), (87, .iload_n 1, 1, (1, 0, 0), 0, 0, []), (88, .putfield 77, 3, (9, 5, 0), 0, 0, []), (91, .return_, 1, (0, 0, 0), 0, 0, [])], 92)]
def mp_102 : mj_M := (4, [], mb_102)
-- MacroPressModel.<init>()V
def mb_103 : List mj_B := [(0, [true], [(0, .aload_n 0, 1, (0, 0, 0), 0, 0, []), (1, .invokespecial 1, 3, (0, 0, 1), 0, 0, []), (4, .aload_n 0, 1, (0, 0, 0), 0, 0, []), (5, .sipush (4000), 3, (0, 0, 0), 4000, 0, []), (8, .newarray .byte, 2, (0, 0, 4), 0, 0, []), (10, .putfield 7, 3, (10, 2, 2), 0, 0, []), (13, .aload_n 0, 1, (0, 0, 0), 0, 0, []), (14, .sipush (8000), 3, (0, 0, 0), 8000, 0, []), (17, .newarray .byte, 2, (0, 0, 4), 0, 0, []), (19, .putfield 13, 3, (10, 4, 2), 0, 0, []), (22, .aload_n 0, 1, (0, 0, 0), 0, 0, []), (23, .sipush (4001), 3, (0, 0, 0), 4001, 0, []), (26, .newarray .int, 2, (0, 0, 0), 0, 0, []), (28, .putfield 16, 3, (10, 7, 2), 0, 0, []), (31, .aload_n 0, 1, (0, 0, 0), 0, 0, []), (32, .ldc 20, 2, (0, 0, 0), 44000, 0, []), (34, .newarray .byte, 2, (0, 0, 4), 0, 0, []), (36, .putfield 21, 3, (10, 12, 2), 0, 0, []), (39, .aload_n 0, 1, (0, 0, 0), 0, 0, []), (40, .sipush (1100), 3, (0, 0, 0), 1100, 0, []), (43, .newarray .int, 2, (0, 0, 0), 0, 0, []), (45, .putfield 24, 3, (10, 13, 2), 0, 0, []), (48, .aload_n 0, 1, (0, 0, 0), 0, 0, []), (49, .bipush (41), 2, (0, 0, 0), 41, 0, []), (51, .newarray .int, 2, (0, 0, 0), 0, 0, []), (53, .putfield 27, 3, (10, 14, 2), 0, 0, []), (56, .aload_n 0, 1, (0, 0, 0), 0, 0, []), (57, .sipush (1722), 3, (0, 0, 0), 1722, 0, []), (60, .newarray .int, 2, (0, 0, 0), 0, 0, []), (62, .putfield 30, 3, (10, 16, 2), 0, 0, []), (65, .aload_n 0, 1, (0, 0, 0), 0, 0, []), (66, .bipush (102), 2, (0, 0, 0), 102, 0, []), (68, .newarray .boolean, 2, (0, 0, 3), 0, 0, []), (70, .putfield 33, 3, (10, 18, 2), 0, 0, []), (73, .aload_n 0, 1, (0, 0, 0), 0, 0, []), (74, .ldc 37, 2, (0, 0, 0), 141400, 0, []), (76, .newarray .int, 2, (0, 0, 0), 0, 0, []), (78, .putfield 38, 3, (10, 19, 2), 0, 0, []), (81, .aload_n 0, 1, (0, 0, 0), 0, 0, []), (82, .sipush (25856), 3, (0, 0, 0), 25856, 0, []), (85, .newarray .int, 2, (0, 0, 0), 0, 0, []), (87, .putfield 41, 3, (10, 20, 2), 0, 0, []), (90, .aload_n 0, 1, (0, 0, 0), 0, 0, []), (91, .sipush (25856), 3, (0, 0, 0), 25856, 0, []), (94, .newarray .int, 2, (0, 0, 0), 0, 0, []), (96, .putfield 44, 3, (10, 21, 2), 0, 0, []), (99, .aload_n 0, 1, (0, 0, 0), 0, 0, []), (100, .sipush (30002), 3, (0, 0, 0), 30002, 0, []), (103, .newarray .int, 2, (0, 0, 0), 0, 0, []), (105, .putfield 47, 3, (10, 23, 2), 0, 0, []), (108, .aload_n 0, 1, (0, 0, 0), 0, 0, []), (109, .sipush (30002), 3, (0, 0, 0), 30002, 0, []), (112, .newarray .int, 2, (0, 0, 0), 0, 0, []), (114, .putfield 50, 3, (10, 24, 2), 0, 0, []), (117, .aload_n 0, 1, (0, 0, 0), 0, 0, []), (118, .sipush (30002), 3, (0, 0, 0), 30002, 0, []), (121, .newarray .int, 2, (0, 0, 0), 0, 0, []), (123, .putfield 53, 3, (10, 25, 2), 0, 0, []), (126, .aload_n 0, 1, (0, 0, 0), 0, 0, []), (127, .sipush (30002), 3, (0, 0, 0), 30002, 0, []), (130, .newarray .int, 2, (0, 0, 0), 0, 0, []), (132, .putfield 56, 3, (10, 26, 2), 0, 0, []), (135, .aload_n 0, 1, (0, 0, 0), 0, 0, []), (136, .sipush (10001), 3, (0, 0, 0), 10001, 0, []), (139, .newarray .int, 2, (0, 0, 0), 0, 0, []), (141, .putfield 59, 3, (10, 28, 2), 0, 0, []), (144, .aload_n 0, 1, (0, 0, 0), 0, 0, []), (145, .sipush (10600), 3, (0, 0, 0), 10600, 0, []), (148, .newarray .int, 2, (0, 0, 0), 0, 0, []), (150, .putfield 62, 3, (10, 30, 2), 0, 0, []), (153, .aload_n 0, 1, (0, 0, 0), 0, 0, []), (154, .ldc 65, 2, (0, 0, 0), 99000, 0, []), (156, .newarray .int, 2, (0, 0, 0), 0, 0, []), (158, .putfield 66, 3, (10, 31, 2), 0, 0, []), (161, .aload_n 0, 1, (0, 0, 0), 0, 0, []), (162, .bipush (9), 2, (0, 0, 0), 9, 0, []), (164, .newarray .int, 2, (0, 0, 0), 0, 0, []), (166, .putfield 69, 3, (10, 32, 2), 0, 0, []), (169, .aload_n 0, 1, (0, 0, 0), 0, 0, []), (170, .bipush (101), 2, (0, 0, 0), 101, 0, []), (172, .newarray .boolean, 2, (0, 0, 3), 0, 0, []), (174, .putfield 72, 3, (10, 34, 2), 0, 0, []), (177, .aload_n 0, 1, (0, 0, 0), 0, 0, []), (178, .bipush (101), 2, (0, 0, 0), 101, 0, []), (180, .newarray .int, 2, (0, 0, 0), 0, 0, []), (182, .putfield 75, 3, (10, 35, 2), 0, 0, []), (185, .aload_n 0, 1, (0, 0, 0), 0, 0, []), (186, .invokevirtual 78, 3, (107, 1, 10), 0, 0, []), (189, .aload_n 0, 1, (0, 0, 0), 0, 0, []), (190, .iconst (0), 1, (0, 0, 0), 0, 0, []), (191, .putfield 81, 3, (10, 36, 0), 0, 0, []), (194, .return_, 1, (0, 0, 0), 0, 0, [])], 195)]
def mp_103 : mj_M := (1, [], mb_103)
-- MacroPressModel.thrown()I
def mb_104 : List mj_B := [(0, [true], [(0, .aload_n 0, 1, (0, 0, 0), 0, 0, []), (1, .getfield 85, 3, (10, 0, 0), 0, 0, []), (4, .ireturn, 1, (0, 0, 0), 0, 0, [])], 5)]
def mp_104 : mj_M := (1, [], mb_104)
-- MacroPressModel.type(JI)Z
def mb_105 : List mj_B := [(0, [true, true, false, true, false], [(0, .aload_n 0, 1, (0, 0, 0), 0, 0, []), (1, .iconst (0), 1, (0, 0, 0), 0, 0, []), (2, .putfield 85, 3, (10, 0, 0), 0, 0, []), (5, .iload_n 3, 1, (3, 0, 0), 0, 0, []), (6, .iconst (1), 1, (0, 0, 0), 1, 0, []), (7, .if_icmp .lt (21), 3, (28, 0, 0), 0, 0, [])], 10),
  (10, [true, true, false, true, false], [(10, .iload_n 3, 1, (3, 0, 0), 0, 0, []), (11, .bipush (8), 2, (0, 0, 0), 8, 0, []), (13, .if_icmp .gt (15), 3, (28, 0, 0), 0, 0, [])], 16),
  (16, [true, true, false, true, false], [(16, .aload_n 0, 1, (0, 0, 0), 0, 0, []), (17, .getfield 88, 3, (10, 1, 0), 0, 0, []), (20, .iload_n 3, 1, (3, 0, 0), 0, 0, []), (21, .iadd, 1, (0, 0, 0), 0, 0, []), (22, .sipush (4000), 3, (0, 0, 0), 4000, 0, []), (25, .if_icmp .le (5), 3, (30, 0, 0), 0, 0, [])], 28),
  (28, [false, false, false, false, false], [(28, .iconst (0), 1, (0, 0, 0), 0, 0, []), (29, .ireturn, 1, (0, 0, 1), 0, 0, [])], 30),
  (30, [true, true, false, true, false], [(30, .iconst (0), 1, (0, 0, 0), 0, 0, []), (31, .istore 4, 2, (4, 0, 0), 0, 0, [])], 33),
  (33, [true, true, false, true, true], [(33, .iload 4, 2, (4, 0, 0), 0, 0, []), (35, .iload_n 3, 1, (3, 0, 0), 0, 0, []), (36, .if_icmp .ge (37), 3, (73, 0, 0), 0, 0, [])], 39),
  (39, [true, true, false, true, true], [(39, .aload_n 0, 1, (0, 0, 0), 0, 0, []), (40, .getfield 7, 3, (10, 2, 2), 0, 0, []), (43, .aload_n 0, 1, (0, 0, 0), 0, 0, []), (44, .getfield 88, 3, (10, 1, 0), 0, 0, []), (47, .lload_n 1, 1, (1, 0, 0), 0, 0, []), (48, .bipush (8), 2, (0, 0, 0), 8, 0, []), (50, .iload 4, 2, (4, 0, 0), 0, 0, []), (52, .imul, 1, (0, 0, 0), 0, 0, []), (53, .lshr, 1, (0, 0, 0), 0, 0, []), (54, .l2i, 1, (0, 0, 0), 0, 0, []), (55, .i2b, 1, (0, 0, 0), 0, 0, []), (56, .bastore, 1, (0, 0, 4), 0, 0, []), (57, .aload_n 0, 1, (0, 0, 0), 0, 0, []), (58, .dup, 1, (0, 0, 0), 0, 0, []), (59, .getfield 88, 3, (10, 1, 0), 0, 0, []), (62, .iconst (1), 1, (0, 0, 0), 1, 0, []), (63, .iadd, 1, (0, 0, 0), 0, 0, []), (64, .putfield 88, 3, (10, 1, 0), 0, 0, []), (67, .iinc 4 (1), 3, (4, 0, 0), 1, 0, []), (70, .goto (-37), 3, (33, 0, 0), 0, 0, [])], 73),
  (73, [false, false, false, false, false], [(73, .iconst (1), 1, (0, 0, 0), 1, 0, []), (74, .ireturn, 1, (0, 0, 1), 0, 0, [])], 75)]
def mp_105 : mj_M := (5, [], mb_105)
-- MacroPressModel.fail(I)V
def mb_106 : List mj_B := [(0, [true, true], [(0, .aload_n 0, 1, (0, 0, 0), 0, 0, []), (1, .aload_n 0, 1, (0, 0, 0), 0, 0, []), (2, .getfield 91, 3, (10, 39, 0), 0, 0, []), (5, .ifCond .ne (7), 3, (12, 0, 0), 0, 0, [])], 8),
  (8, [false, true], [(8, .iload_n 1, 1, (1, 0, 0), 0, 0, []), (9, .goto (7), 3, (16, 0, 0), 0, 0, [])], 12),
  (12, [true, false], [(12, .aload_n 0, 1, (0, 0, 0), 0, 0, []), (13, .getfield 91, 3, (10, 39, 0), 0, 0, [])], 16),
  (16, [false, false], [(16, .putfield 91, 3, (10, 39, 0), 0, 0, []), (19, .return_, 1, (0, 0, 0), 0, 0, [])], 20)]
def mp_106 : mj_M := (2, [], mb_106)
-- MacroPressModel.clear()V
def mb_107 : List mj_B := [(0, [true, false, false], [(0, .aload_n 0, 1, (0, 0, 0), 0, 0, []), (1, .iconst (0), 1, (0, 0, 0), 0, 0, []), (2, .putfield 94, 3, (10, 5, 0), 0, 0, []), (5, .aload_n 0, 1, (0, 0, 0), 0, 0, []), (6, .iconst (0), 1, (0, 0, 0), 0, 0, []), (7, .putfield 97, 3, (10, 6, 0), 0, 0, []), (10, .aload_n 0, 1, (0, 0, 0), 0, 0, []), (11, .iconst (0), 1, (0, 0, 0), 0, 0, []), (12, .putfield 100, 3, (10, 8, 0), 0, 0, []), (15, .aload_n 0, 1, (0, 0, 0), 0, 0, []), (16, .iconst (0), 1, (0, 0, 0), 0, 0, []), (17, .putfield 103, 3, (10, 9, 0), 0, 0, []), (20, .aload_n 0, 1, (0, 0, 0), 0, 0, []), (21, .iconst (0), 1, (0, 0, 0), 0, 0, []), (22, .putfield 106, 3, (10, 10, 0), 0, 0, []), (25, .aload_n 0, 1, (0, 0, 0), 0, 0, []), (26, .iconst (0), 1, (0, 0, 0), 0, 0, []), (27, .putfield 109, 3, (10, 17, 0), 0, 0, []), (30, .aload_n 0, 1, (0, 0, 0), 0, 0, []), (31, .iconst (0), 1, (0, 0, 0), 0, 0, []), (32, .putfield 112, 3, (10, 22, 0), 0, 0, []), (35, .aload_n 0, 1, (0, 0, 0), 0, 0, []), (36, .iconst (0), 1, (0, 0, 0), 0, 0, []), (37, .putfield 115, 3, (10, 27, 0), 0, 0, []), (40, .aload_n 0, 1, (0, 0, 0), 0, 0, []), (41, .iconst (0), 1, (0, 0, 0), 0, 0, []), (42, .putfield 118, 3, (10, 29, 0), 0, 0, []), (45, .aload_n 0, 1, (0, 0, 0), 0, 0, []), (46, .iconst (0), 1, (0, 0, 0), 0, 0, []), (47, .putfield 121, 3, (10, 33, 0), 0, 0, []), (50, .aload_n 0, 1, (0, 0, 0), 0, 0, []), (51, .iconst (0), 1, (0, 0, 0), 0, 0, []), (52, .putfield 81, 3, (10, 36, 0), 0, 0, []), (55, .aload_n 0, 1, (0, 0, 0), 0, 0, []), (56, .iconst (0), 1, (0, 0, 0), 0, 0, []), (57, .putfield 124, 3, (10, 38, 0), 0, 0, []), (60, .aload_n 0, 1, (0, 0, 0), 0, 0, []), (61, .iconst (0), 1, (0, 0, 0), 0, 0, []), (62, .putfield 91, 3, (10, 39, 0), 0, 0, []), (65, .aload_n 0, 1, (0, 0, 0), 0, 0, []), (66, .iconst (0), 1, (0, 0, 0), 0, 0, []), (67, .putfield 127, 3, (10, 40, 3), 0, 0, []), (70, .aload_n 0, 1, (0, 0, 0), 0, 0, []), (71, .iconst (0), 1, (0, 0, 0), 0, 0, []), (72, .putfield 131, 3, (10, 11, 0), 0, 0, []), (75, .aload_n 0, 1, (0, 0, 0), 0, 0, []), (76, .iconst (0), 1, (0, 0, 0), 0, 0, []), (77, .putfield 134, 3, (10, 3, 0), 0, 0, []), (80, .iconst (0), 1, (0, 0, 0), 0, 0, []), (81, .istore_n 1, 1, (1, 0, 0), 0, 0, [])], 82),
  (82, [true, true, false], [(82, .iload_n 1, 1, (1, 0, 0), 0, 0, []), (83, .sipush (1400), 3, (0, 0, 0), 1400, 0, []), (86, .if_icmp .ge (16), 3, (102, 0, 0), 0, 0, [])], 89),
  (89, [true, true, false], [(89, .aload_n 0, 1, (0, 0, 0), 0, 0, []), (90, .getfield 38, 3, (10, 19, 2), 0, 0, []), (93, .iload_n 1, 1, (1, 0, 0), 0, 0, []), (94, .iconst (0), 1, (0, 0, 0), 0, 0, []), (95, .iastore, 1, (0, 0, 0), 0, 0, []), (96, .iinc 1 (1), 3, (1, 0, 0), 1, 0, []), (99, .goto (-17), 3, (82, 0, 0), 0, 0, [])], 102),
  (102, [true, false, false], [(102, .iconst (0), 1, (0, 0, 0), 0, 0, []), (103, .istore_n 1, 1, (1, 0, 0), 0, 0, [])], 104),
  (104, [true, true, false], [(104, .iload_n 1, 1, (1, 0, 0), 0, 0, []), (105, .sipush (256), 3, (0, 0, 0), 256, 0, []), (108, .if_icmp .ge (63), 3, (171, 0, 0), 0, 0, [])], 111),
  (111, [true, true, false], [(111, .aload_n 0, 1, (0, 0, 0), 0, 0, []), (112, .getfield 41, 3, (10, 20, 2), 0, 0, []), (115, .iload_n 1, 1, (1, 0, 0), 0, 0, []), (116, .iconst (0), 1, (0, 0, 0), 0, 0, []), (117, .iastore, 1, (0, 0, 0), 0, 0, []), (118, .iload_n 1, 1, (1, 0, 0), 0, 0, []), (119, .bipush (97), 2, (0, 0, 0), 97, 0, []), (121, .if_icmp .lt (9), 3, (130, 0, 0), 0, 0, [])], 124),
  (124, [true, true, false], [(124, .iload_n 1, 1, (1, 0, 0), 0, 0, []), (125, .bipush (122), 2, (0, 0, 0), 122, 0, []), (127, .if_icmp .le (15), 3, (142, 0, 0), 0, 0, [])], 130),
  (130, [true, true, false], [(130, .iload_n 1, 1, (1, 0, 0), 0, 0, []), (131, .bipush (65), 2, (0, 0, 0), 65, 0, []), (133, .if_icmp .lt (13), 3, (146, 0, 0), 0, 0, [])], 136),
  (136, [true, true, false], [(136, .iload_n 1, 1, (1, 0, 0), 0, 0, []), (137, .bipush (90), 2, (0, 0, 0), 90, 0, []), (139, .if_icmp .gt (7), 3, (146, 0, 0), 0, 0, [])], 142),
  (142, [true, true, false], [(142, .iconst (1), 1, (0, 0, 0), 1, 0, []), (143, .goto (4), 3, (147, 0, 0), 0, 0, [])], 146),
  (146, [true, true, false], [(146, .iconst (0), 1, (0, 0, 0), 0, 0, [])], 147),
  (147, [true, true, false], [(147, .istore_n 2, 1, (2, 0, 0), 0, 0, []), (148, .aload_n 0, 1, (0, 0, 0), 0, 0, []), (149, .getfield 44, 3, (10, 21, 2), 0, 0, []), (152, .iload_n 1, 1, (1, 0, 0), 0, 0, []), (153, .iload_n 2, 1, (2, 0, 0), 0, 0, []), (154, .ifCond .eq (8), 3, (162, 0, 0), 0, 0, [])], 157),
  (157, [true, true, false], [(157, .bipush (11), 2, (0, 0, 0), 11, 0, []), (159, .goto (5), 3, (164, 0, 0), 0, 0, [])], 162),
  (162, [true, true, false], [(162, .bipush (12), 2, (0, 0, 0), 12, 0, [])], 164),
  (164, [true, true, false], [(164, .iastore, 1, (0, 0, 0), 0, 0, []), (165, .iinc 1 (1), 3, (1, 0, 0), 1, 0, []), (168, .goto (-64), 3, (104, 0, 0), 0, 0, [])], 171),
  (171, [true, false, false], [(171, .aload_n 0, 1, (0, 0, 0), 0, 0, []), (172, .getfield 44, 3, (10, 21, 2), 0, 0, []), (175, .bipush (92), 2, (0, 0, 0), 92, 0, []), (177, .iconst (0), 1, (0, 0, 0), 0, 0, []), (178, .iastore, 1, (0, 0, 0), 0, 0, []), (179, .aload_n 0, 1, (0, 0, 0), 0, 0, []), (180, .getfield 44, 3, (10, 21, 2), 0, 0, []), (183, .bipush (123), 2, (0, 0, 0), 123, 0, []), (185, .iconst (1), 1, (0, 0, 0), 1, 0, []), (186, .iastore, 1, (0, 0, 0), 0, 0, []), (187, .aload_n 0, 1, (0, 0, 0), 0, 0, []), (188, .getfield 44, 3, (10, 21, 2), 0, 0, []), (191, .bipush (125), 2, (0, 0, 0), 125, 0, []), (193, .iconst (2), 1, (0, 0, 0), 2, 0, []), (194, .iastore, 1, (0, 0, 0), 0, 0, []), (195, .aload_n 0, 1, (0, 0, 0), 0, 0, []), (196, .getfield 44, 3, (10, 21, 2), 0, 0, []), (199, .bipush (36), 2, (0, 0, 0), 36, 0, []), (201, .iconst (3), 1, (0, 0, 0), 3, 0, []), (202, .iastore, 1, (0, 0, 0), 0, 0, []), (203, .aload_n 0, 1, (0, 0, 0), 0, 0, []), (204, .getfield 44, 3, (10, 21, 2), 0, 0, []), (207, .bipush (38), 2, (0, 0, 0), 38, 0, []), (209, .iconst (4), 1, (0, 0, 0), 4, 0, []), (210, .iastore, 1, (0, 0, 0), 0, 0, []), (211, .aload_n 0, 1, (0, 0, 0), 0, 0, []), (212, .getfield 44, 3, (10, 21, 2), 0, 0, []), (215, .bipush (13), 2, (0, 0, 0), 13, 0, []), (217, .iconst (5), 1, (0, 0, 0), 5, 0, []), (218, .iastore, 1, (0, 0, 0), 0, 0, []), (219, .aload_n 0, 1, (0, 0, 0), 0, 0, []), (220, .getfield 44, 3, (10, 21, 2), 0, 0, []), (223, .bipush (35), 2, (0, 0, 0), 35, 0, []), (225, .bipush (6), 2, (0, 0, 0), 6, 0, []), (227, .iastore, 1, (0, 0, 0), 0, 0, []), (228, .aload_n 0, 1, (0, 0, 0), 0, 0, []), (229, .getfield 44, 3, (10, 21, 2), 0, 0, []), (232, .bipush (94), 2, (0, 0, 0), 94, 0, []), (234, .bipush (7), 2, (0, 0, 0), 7, 0, []), (236, .iastore, 1, (0, 0, 0), 0, 0, []), (237, .aload_n 0, 1, (0, 0, 0), 0, 0, []), (238, .getfield 44, 3, (10, 21, 2), 0, 0, []), (241, .bipush (95), 2, (0, 0, 0), 95, 0, []), (243, .bipush (8), 2, (0, 0, 0), 8, 0, []), (245, .iastore, 1, (0, 0, 0), 0, 0, []), (246, .aload_n 0, 1, (0, 0, 0), 0, 0, []), (247, .getfield 44, 3, (10, 21, 2), 0, 0, []), (250, .iconst (0), 1, (0, 0, 0), 0, 0, []), (251, .bipush (9), 2, (0, 0, 0), 9, 0, []), (253, .iastore, 1, (0, 0, 0), 0, 0, []), (254, .aload_n 0, 1, (0, 0, 0), 0, 0, []), (255, .getfield 44, 3, (10, 21, 2), 0, 0, []), (258, .bipush (32), 2, (0, 0, 0), 32, 0, []), (260, .bipush (10), 2, (0, 0, 0), 10, 0, []), (262, .iastore, 1, (0, 0, 0), 0, 0, []), (263, .aload_n 0, 1, (0, 0, 0), 0, 0, []), (264, .getfield 44, 3, (10, 21, 2), 0, 0, []), (267, .bipush (9), 2, (0, 0, 0), 9, 0, []), (269, .bipush (10), 2, (0, 0, 0), 10, 0, []), (271, .iastore, 1, (0, 0, 0), 0, 0, []), (272, .aload_n 0, 1, (0, 0, 0), 0, 0, []), (273, .getfield 44, 3, (10, 21, 2), 0, 0, []), (276, .bipush (126), 2, (0, 0, 0), 126, 0, []), (278, .bipush (13), 2, (0, 0, 0), 13, 0, []), (280, .iastore, 1, (0, 0, 0), 0, 0, []), (281, .aload_n 0, 1, (0, 0, 0), 0, 0, []), (282, .getfield 44, 3, (10, 21, 2), 0, 0, []), (285, .bipush (37), 2, (0, 0, 0), 37, 0, []), (287, .bipush (14), 2, (0, 0, 0), 14, 0, []), (289, .iastore, 1, (0, 0, 0), 0, 0, []), (290, .aload_n 0, 1, (0, 0, 0), 0, 0, []), (291, .getfield 44, 3, (10, 21, 2), 0, 0, []), (294, .bipush (127), 2, (0, 0, 0), 127, 0, []), (296, .bipush (15), 2, (0, 0, 0), 15, 0, []), (298, .iastore, 1, (0, 0, 0), 0, 0, []), (299, .aload_n 0, 1, (0, 0, 0), 0, 0, []), (300, .ldc 137, 2, (900003, 0, 1), 0, 0, []), (302, .invokevirtual 139, 3, (108, 2, 10), 0, 0, []), (305, .return_, 1, (0, 0, 0), 0, 0, [])], 306)]
def mp_107 : mj_M := (3, [], mb_107)
-- MacroPressModel.primitives(Ljava/lang/String;)V
def mb_108 : List mj_B := [(0, [true, true, false, false], [(0, .aload_n 0, 1, (0, 0, 0), 0, 0, []), (1, .iconst (0), 1, (0, 0, 0), 0, 0, []), (2, .putfield 143, 3, (10, 15, 0), 0, 0, []), (5, .iconst (0), 1, (0, 0, 0), 0, 0, []), (6, .istore_n 2, 1, (2, 0, 0), 0, 0, [])], 7),
  (7, [true, true, true, false], [(7, .iload_n 2, 1, (2, 0, 0), 0, 0, []), (8, .aload_n 1, 1, (1, 0, 0), 0, 0, []), (9, .invokevirtual 146, 3, (904, 1, 999), 0, 0, []), (12, .if_icmp .ge (67), 3, (79, 0, 0), 0, 0, [])], 15),
  (15, [true, true, true, false], [(15, .aload_n 1, 1, (1, 0, 0), 0, 0, []), (16, .iload_n 2, 1, (2, 0, 0), 0, 0, []), (17, .invokevirtual 152, 3, (905, 2, 999), 0, 0, []), (20, .bipush (32), 2, (0, 0, 0), 32, 0, []), (22, .if_icmp .ne (27), 3, (49, 0, 0), 0, 0, [])], 25),
  (25, [true, true, true, false], [(25, .aload_n 0, 1, (0, 0, 0), 0, 0, []), (26, .invokevirtual 156, 3, (109, 1, 10), 0, 0, []), (29, .istore_n 3, 1, (3, 0, 0), 0, 0, []), (30, .aload_n 0, 1, (0, 0, 0), 0, 0, []), (31, .getfield 38, 3, (10, 19, 2), 0, 0, []), (34, .iload_n 3, 1, (3, 0, 0), 0, 0, []), (35, .sipush (1000), 3, (0, 0, 0), 1000, 0, []), (38, .iload_n 3, 1, (3, 0, 0), 0, 0, []), (39, .iadd, 1, (0, 0, 0), 0, 0, []), (40, .iastore, 1, (0, 0, 0), 0, 0, []), (41, .aload_n 0, 1, (0, 0, 0), 0, 0, []), (42, .iconst (0), 1, (0, 0, 0), 0, 0, []), (43, .putfield 143, 3, (10, 15, 0), 0, 0, []), (46, .goto (27), 3, (73, 0, 0), 0, 0, [])], 49),
  (49, [true, true, true, false], [(49, .aload_n 0, 1, (0, 0, 0), 0, 0, []), (50, .getfield 27, 3, (10, 14, 2), 0, 0, []), (53, .aload_n 0, 1, (0, 0, 0), 0, 0, []), (54, .getfield 143, 3, (10, 15, 0), 0, 0, []), (57, .aload_n 1, 1, (1, 0, 0), 0, 0, []), (58, .iload_n 2, 1, (2, 0, 0), 0, 0, []), (59, .invokevirtual 152, 3, (905, 2, 999), 0, 0, []), (62, .iastore, 1, (0, 0, 0), 0, 0, []), (63, .aload_n 0, 1, (0, 0, 0), 0, 0, []), (64, .dup, 1, (0, 0, 0), 0, 0, []), (65, .getfield 143, 3, (10, 15, 0), 0, 0, []), (68, .iconst (1), 1, (0, 0, 0), 1, 0, []), (69, .iadd, 1, (0, 0, 0), 0, 0, []), (70, .putfield 143, 3, (10, 15, 0), 0, 0, [])], 73),
  (73, [true, true, true, false], [(73, .iinc 2 (1), 3, (2, 0, 0), 1, 0, []), (76, .goto (-69), 3, (7, 0, 0), 0, 0, [])], 79),
  (79, [false, false, false, false], [(79, .return_, 1, (0, 0, 0), 0, 0, [])], 80)]
def mp_108 : mj_M := (4, [], mb_108)
-- MacroPressModel.addName()I
def mb_109 : List mj_B := [(0, [true, false], [(0, .iconst (0), 1, (0, 0, 0), 0, 0, []), (1, .istore_n 1, 1, (1, 0, 0), 0, 0, [])], 2),
  (2, [true, true], [(2, .iload_n 1, 1, (1, 0, 0), 0, 0, []), (3, .aload_n 0, 1, (0, 0, 0), 0, 0, []), (4, .getfield 143, 3, (10, 15, 0), 0, 0, []), (7, .if_icmp .ge (30), 3, (37, 0, 0), 0, 0, [])], 10),
  (10, [true, true], [(10, .aload_n 0, 1, (0, 0, 0), 0, 0, []), (11, .getfield 21, 3, (10, 12, 2), 0, 0, []), (14, .bipush (40), 2, (0, 0, 0), 40, 0, []), (16, .aload_n 0, 1, (0, 0, 0), 0, 0, []), (17, .getfield 131, 3, (10, 11, 0), 0, 0, []), (20, .imul, 1, (0, 0, 0), 0, 0, []), (21, .iload_n 1, 1, (1, 0, 0), 0, 0, []), (22, .iadd, 1, (0, 0, 0), 0, 0, []), (23, .aload_n 0, 1, (0, 0, 0), 0, 0, []), (24, .getfield 27, 3, (10, 14, 2), 0, 0, []), (27, .iload_n 1, 1, (1, 0, 0), 0, 0, []), (28, .iaload, 1, (0, 0, 0), 0, 0, []), (29, .i2b, 1, (0, 0, 0), 0, 0, []), (30, .bastore, 1, (0, 0, 4), 0, 0, []), (31, .iinc 1 (1), 3, (1, 0, 0), 1, 0, []), (34, .goto (-32), 3, (2, 0, 0), 0, 0, [])], 37),
  (37, [true, false], [(37, .aload_n 0, 1, (0, 0, 0), 0, 0, []), (38, .getfield 24, 3, (10, 13, 2), 0, 0, []), (41, .aload_n 0, 1, (0, 0, 0), 0, 0, []), (42, .getfield 131, 3, (10, 11, 0), 0, 0, []), (45, .aload_n 0, 1, (0, 0, 0), 0, 0, []), (46, .getfield 143, 3, (10, 15, 0), 0, 0, []), (49, .iastore, 1, (0, 0, 0), 0, 0, []), (50, .aload_n 0, 1, (0, 0, 0), 0, 0, []), (51, .dup, 1, (0, 0, 0), 0, 0, []), (52, .getfield 131, 3, (10, 11, 0), 0, 0, []), (55, .iconst (1), 1, (0, 0, 0), 1, 0, []), (56, .iadd, 1, (0, 0, 0), 0, 0, []), (57, .putfield 131, 3, (10, 11, 0), 0, 0, []), (60, .aload_n 0, 1, (0, 0, 0), 0, 0, []), (61, .getfield 131, 3, (10, 11, 0), 0, 0, []), (64, .iconst (1), 1, (0, 0, 0), 1, 0, []), (65, .isub, 1, (0, 0, 0), 0, 0, []), (66, .ireturn, 1, (0, 0, 0), 0, 0, [])], 67)]
def mp_109 : mj_M := (2, [], mb_109)
-- MacroPressModel.nameToken()I
def mb_110 : List mj_B := [(0, [true, false, false, false], [(0, .iconst (0), 1, (0, 0, 0), 0, 0, []), (1, .istore_n 1, 1, (1, 0, 0), 0, 0, [])], 2),
  (2, [true, true, false, false], [(2, .iload_n 1, 1, (1, 0, 0), 0, 0, []), (3, .aload_n 0, 1, (0, 0, 0), 0, 0, []), (4, .getfield 131, 3, (10, 11, 0), 0, 0, []), (7, .if_icmp .ge (87), 3, (94, 0, 0), 0, 0, [])], 10),
  (10, [true, true, false, false], [(10, .aload_n 0, 1, (0, 0, 0), 0, 0, []), (11, .getfield 24, 3, (10, 13, 2), 0, 0, []), (14, .iload_n 1, 1, (1, 0, 0), 0, 0, []), (15, .iaload, 1, (0, 0, 0), 0, 0, []), (16, .aload_n 0, 1, (0, 0, 0), 0, 0, []), (17, .getfield 143, 3, (10, 15, 0), 0, 0, []), (20, .if_icmp .ne (7), 3, (27, 0, 0), 0, 0, [])], 23),
  (23, [true, true, false, false], [(23, .iconst (1), 1, (0, 0, 0), 1, 0, []), (24, .goto (4), 3, (28, 0, 0), 0, 0, [])], 27),
  (27, [true, true, false, false], [(27, .iconst (0), 1, (0, 0, 0), 0, 0, [])], 28),
  (28, [true, true, false, false], [(28, .istore_n 2, 1, (2, 0, 0), 0, 0, []), (29, .iconst (0), 1, (0, 0, 0), 0, 0, []), (30, .istore_n 3, 1, (3, 0, 0), 0, 0, [])], 31),
  (31, [true, true, true, true], [(31, .iload_n 3, 1, (3, 0, 0), 0, 0, []), (32, .aload_n 0, 1, (0, 0, 0), 0, 0, []), (33, .getfield 143, 3, (10, 15, 0), 0, 0, []), (36, .if_icmp .ge (43), 3, (79, 0, 0), 0, 0, [])], 39),
  (39, [true, true, true, true], [(39, .iload_n 2, 1, (2, 0, 0), 0, 0, []), (40, .ifCond .eq (39), 3, (79, 0, 0), 0, 0, [])], 43),
  (43, [true, true, false, true], [(43, .aload_n 0, 1, (0, 0, 0), 0, 0, []), (44, .getfield 21, 3, (10, 12, 2), 0, 0, []), (47, .bipush (40), 2, (0, 0, 0), 40, 0, []), (49, .iload_n 1, 1, (1, 0, 0), 0, 0, []), (50, .imul, 1, (0, 0, 0), 0, 0, []), (51, .iload_n 3, 1, (3, 0, 0), 0, 0, []), (52, .iadd, 1, (0, 0, 0), 0, 0, []), (53, .baload, 1, (0, 0, 4), 0, 0, []), (54, .sipush (255), 3, (0, 0, 0), 255, 0, []), (57, .iand, 1, (0, 0, 0), 0, 0, []), (58, .aload_n 0, 1, (0, 0, 0), 0, 0, []), (59, .getfield 27, 3, (10, 14, 2), 0, 0, []), (62, .iload_n 3, 1, (3, 0, 0), 0, 0, []), (63, .iaload, 1, (0, 0, 0), 0, 0, []), (64, .if_icmp .ne (7), 3, (71, 0, 0), 0, 0, [])], 67),
  (67, [true, true, false, true], [(67, .iconst (1), 1, (0, 0, 0), 1, 0, []), (68, .goto (4), 3, (72, 0, 0), 0, 0, [])], 71),
  (71, [true, true, false, true], [(71, .iconst (0), 1, (0, 0, 0), 0, 0, [])], 72),
  (72, [true, true, false, true], [(72, .istore_n 2, 1, (2, 0, 0), 0, 0, []), (73, .iinc 3 (1), 3, (3, 0, 0), 1, 0, []), (76, .goto (-45), 3, (31, 0, 0), 0, 0, [])], 79),
  (79, [true, true, true, false], [(79, .iload_n 2, 1, (2, 0, 0), 0, 0, []), (80, .ifCond .eq (8), 3, (88, 0, 0), 0, 0, [])], 83),
  (83, [false, true, false, false], [(83, .ldc 159, 2, (0, 0, 0), 65536, 0, []), (85, .iload_n 1, 1, (1, 0, 0), 0, 0, []), (86, .iadd, 1, (0, 0, 0), 0, 0, []), (87, .ireturn, 1, (0, 0, 0), 0, 0, [])], 88),
  (88, [true, true, false, false], [(88, .iinc 1 (1), 3, (1, 0, 0), 1, 0, []), (91, .goto (-89), 3, (2, 0, 0), 0, 0, [])], 94),
  (94, [true, false, false, false], [(94, .aload_n 0, 1, (0, 0, 0), 0, 0, []), (95, .getfield 131, 3, (10, 11, 0), 0, 0, []), (98, .bipush (36), 2, (0, 0, 0), 36, 0, []), (100, .isub, 1, (0, 0, 0), 0, 0, []), (101, .sipush (1000), 3, (0, 0, 0), 1000, 0, []), (104, .if_icmp .ne (10), 3, (114, 0, 0), 0, 0, [])], 107),
  (107, [true, false, false, false], [(107, .aload_n 0, 1, (0, 0, 0), 0, 0, []), (108, .iconst (2), 1, (0, 0, 0), 2, 0, []), (109, .invokevirtual 160, 3, (106, 2, 10), 0, 0, []), (112, .iconst (-1), 1, (0, 0, 0), -1, 0, []), (113, .ireturn, 1, (0, 0, 0), 0, 0, [])], 114),
  (114, [true, false, false, false], [(114, .aload_n 0, 1, (0, 0, 0), 0, 0, []), (115, .invokevirtual 156, 3, (109, 1, 10), 0, 0, []), (118, .istore_n 1, 1, (1, 0, 0), 0, 0, []), (119, .iconst (0), 1, (0, 0, 0), 0, 0, []), (120, .istore_n 2, 1, (2, 0, 0), 0, 0, [])], 121),
  (121, [true, true, true, false], [(121, .iload_n 2, 1, (2, 0, 0), 0, 0, []), (122, .aload_n 0, 1, (0, 0, 0), 0, 0, []), (123, .getfield 109, 3, (10, 17, 0), 0, 0, []), (126, .if_icmp .gt (22), 3, (148, 0, 0), 0, 0, [])], 129),
  (129, [true, true, true, false], [(129, .aload_n 0, 1, (0, 0, 0), 0, 0, []), (130, .getfield 38, 3, (10, 19, 2), 0, 0, []), (133, .sipush (1400), 3, (0, 0, 0), 1400, 0, []), (136, .iload_n 2, 1, (2, 0, 0), 0, 0, []), (137, .imul, 1, (0, 0, 0), 0, 0, []), (138, .iload_n 1, 1, (1, 0, 0), 0, 0, []), (139, .iadd, 1, (0, 0, 0), 0, 0, []), (140, .iconst (0), 1, (0, 0, 0), 0, 0, []), (141, .iastore, 1, (0, 0, 0), 0, 0, []), (142, .iinc 2 (1), 3, (2, 0, 0), 1, 0, []), (145, .goto (-24), 3, (121, 0, 0), 0, 0, [])], 148),
  (148, [false, true, false, false], [(148, .ldc 159, 2, (0, 0, 0), 65536, 0, []), (150, .iload_n 1, 1, (1, 0, 0), 0, 0, []), (151, .iadd, 1, (0, 0, 0), 0, 0, []), (152, .ireturn, 1, (0, 0, 0), 0, 0, [])], 153)]
def mp_110 : mj_M := (4, [], mb_110)
-- MacroPressModel.spell(I)V
def mb_111 : List mj_B := [(0, [true, true], [(0, .aload_n 0, 1, (0, 0, 0), 0, 0, []), (1, .getfield 143, 3, (10, 15, 0), 0, 0, []), (4, .bipush (40), 2, (0, 0, 0), 40, 0, []), (6, .if_icmp .ne (11), 3, (17, 0, 0), 0, 0, [])], 9),
  (9, [true, false], [(9, .aload_n 0, 1, (0, 0, 0), 0, 0, []), (10, .iconst (2), 1, (0, 0, 0), 2, 0, []), (11, .invokevirtual 160, 3, (106, 2, 10), 0, 0, []), (14, .goto (23), 3, (37, 0, 0), 0, 0, [])], 17),
  (17, [true, true], [(17, .aload_n 0, 1, (0, 0, 0), 0, 0, []), (18, .getfield 27, 3, (10, 14, 2), 0, 0, []), (21, .aload_n 0, 1, (0, 0, 0), 0, 0, []), (22, .getfield 143, 3, (10, 15, 0), 0, 0, []), (25, .iload_n 1, 1, (1, 0, 0), 0, 0, []), (26, .iastore, 1, (0, 0, 0), 0, 0, []), (27, .aload_n 0, 1, (0, 0, 0), 0, 0, []), (28, .dup, 1, (0, 0, 0), 0, 0, []), (29, .getfield 143, 3, (10, 15, 0), 0, 0, []), (32, .iconst (1), 1, (0, 0, 0), 1, 0, []), (33, .iadd, 1, (0, 0, 0), 0, 0, []), (34, .putfield 143, 3, (10, 15, 0), 0, 0, [])], 37),
  (37, [false, false], [(37, .return_, 1, (0, 0, 0), 0, 0, [])], 38)]
def mp_111 : mj_M := (2, [], mb_111)
-- MacroPressModel.category(I)I
def mb_112 : List mj_B := [(0, [true, true], [(0, .aload_n 0, 1, (0, 0, 0), 0, 0, []), (1, .getfield 44, 3, (10, 21, 2), 0, 0, []), (4, .sipush (256), 3, (0, 0, 0), 256, 0, []), (7, .aload_n 0, 1, (0, 0, 0), 0, 0, []), (8, .getfield 109, 3, (10, 17, 0), 0, 0, []), (11, .imul, 1, (0, 0, 0), 0, 0, []), (12, .iload_n 1, 1, (1, 0, 0), 0, 0, []), (13, .iadd, 1, (0, 0, 0), 0, 0, []), (14, .iaload, 1, (0, 0, 0), 0, 0, []), (15, .ireturn, 1, (0, 0, 0), 0, 0, [])], 16)]
def mp_112 : mj_M := (2, [], mb_112)
-- MacroPressModel.beginLine()Z
def mb_113 : List mj_B := [(0, [true, false, false, false], [(0, .aload_n 0, 1, (0, 0, 0), 0, 0, []), (1, .getfield 94, 3, (10, 5, 0), 0, 0, []), (4, .aload_n 0, 1, (0, 0, 0), 0, 0, []), (5, .getfield 88, 3, (10, 1, 0), 0, 0, []), (8, .if_icmp .lt (5), 3, (13, 0, 0), 0, 0, [])], 11),
  (11, [false, false, false, false], [(11, .iconst (0), 1, (0, 0, 0), 0, 0, []), (12, .ireturn, 1, (0, 0, 1), 0, 0, [])], 13),
  (13, [true, false, false, false], [(13, .aload_n 0, 1, (0, 0, 0), 0, 0, []), (14, .getfield 94, 3, (10, 5, 0), 0, 0, []), (17, .istore_n 1, 1, (1, 0, 0), 0, 0, [])], 18),
  (18, [true, true, false, false], [(18, .iload_n 1, 1, (1, 0, 0), 0, 0, []), (19, .aload_n 0, 1, (0, 0, 0), 0, 0, []), (20, .getfield 88, 3, (10, 1, 0), 0, 0, []), (23, .if_icmp .ge (20), 3, (43, 0, 0), 0, 0, [])], 26),
  (26, [true, true, false, false], [(26, .aload_n 0, 1, (0, 0, 0), 0, 0, []), (27, .getfield 7, 3, (10, 2, 2), 0, 0, []), (30, .iload_n 1, 1, (1, 0, 0), 0, 0, []), (31, .baload, 1, (0, 0, 4), 0, 0, []), (32, .bipush (10), 2, (0, 0, 0), 10, 0, []), (34, .if_icmp .eq (9), 3, (43, 0, 0), 0, 0, [])], 37),
  (37, [true, true, false, false], [(37, .iinc 1 (1), 3, (1, 0, 0), 1, 0, []), (40, .goto (-22), 3, (18, 0, 0), 0, 0, [])], 43),
  (43, [true, true, false, false], [(43, .iload_n 1, 1, (1, 0, 0), 0, 0, []), (44, .istore_n 2, 1, (2, 0, 0), 0, 0, [])], 45),
  (45, [true, true, true, false], [(45, .iload_n 2, 1, (2, 0, 0), 0, 0, []), (46, .aload_n 0, 1, (0, 0, 0), 0, 0, []), (47, .getfield 94, 3, (10, 5, 0), 0, 0, []), (50, .if_icmp .le (22), 3, (72, 0, 0), 0, 0, [])], 53),
  (53, [true, true, true, false], [(53, .aload_n 0, 1, (0, 0, 0), 0, 0, []), (54, .getfield 7, 3, (10, 2, 2), 0, 0, []), (57, .iload_n 2, 1, (2, 0, 0), 0, 0, []), (58, .iconst (1), 1, (0, 0, 0), 1, 0, []), (59, .isub, 1, (0, 0, 0), 0, 0, []), (60, .baload, 1, (0, 0, 4), 0, 0, []), (61, .bipush (32), 2, (0, 0, 0), 32, 0, []), (63, .if_icmp .ne (9), 3, (72, 0, 0), 0, 0, [])], 66),
  (66, [true, true, true, false], [(66, .iinc 2 (-1), 3, (2, 0, 0), -1, 0, []), (69, .goto (-24), 3, (45, 0, 0), 0, 0, [])], 72),
  (72, [true, true, true, false], [(72, .aload_n 0, 1, (0, 0, 0), 0, 0, []), (73, .iconst (0), 1, (0, 0, 0), 0, 0, []), (74, .putfield 100, 3, (10, 8, 0), 0, 0, []), (77, .aload_n 0, 1, (0, 0, 0), 0, 0, []), (78, .getfield 94, 3, (10, 5, 0), 0, 0, []), (81, .istore_n 3, 1, (3, 0, 0), 0, 0, [])], 82),
  (82, [true, true, true, true], [(82, .iload_n 3, 1, (3, 0, 0), 0, 0, []), (83, .iload_n 2, 1, (2, 0, 0), 0, 0, []), (84, .if_icmp .ge (38), 3, (122, 0, 0), 0, 0, [])], 87),
  (87, [true, true, true, true], [(87, .aload_n 0, 1, (0, 0, 0), 0, 0, []), (88, .getfield 16, 3, (10, 7, 2), 0, 0, []), (91, .aload_n 0, 1, (0, 0, 0), 0, 0, []), (92, .getfield 100, 3, (10, 8, 0), 0, 0, []), (95, .aload_n 0, 1, (0, 0, 0), 0, 0, []), (96, .getfield 7, 3, (10, 2, 2), 0, 0, []), (99, .iload_n 3, 1, (3, 0, 0), 0, 0, []), (100, .baload, 1, (0, 0, 4), 0, 0, []), (101, .sipush (255), 3, (0, 0, 0), 255, 0, []), (104, .iand, 1, (0, 0, 0), 0, 0, []), (105, .iastore, 1, (0, 0, 0), 0, 0, []), (106, .aload_n 0, 1, (0, 0, 0), 0, 0, []), (107, .dup, 1, (0, 0, 0), 0, 0, []), (108, .getfield 100, 3, (10, 8, 0), 0, 0, []), (111, .iconst (1), 1, (0, 0, 0), 1, 0, []), (112, .iadd, 1, (0, 0, 0), 0, 0, []), (113, .putfield 100, 3, (10, 8, 0), 0, 0, []), (116, .iinc 3 (1), 3, (3, 0, 0), 1, 0, []), (119, .goto (-37), 3, (82, 0, 0), 0, 0, [])], 122),
  (122, [true, true, false, false], [(122, .aload_n 0, 1, (0, 0, 0), 0, 0, []), (123, .getfield 16, 3, (10, 7, 2), 0, 0, []), (126, .aload_n 0, 1, (0, 0, 0), 0, 0, []), (127, .getfield 100, 3, (10, 8, 0), 0, 0, []), (130, .bipush (13), 2, (0, 0, 0), 13, 0, []), (132, .iastore, 1, (0, 0, 0), 0, 0, []), (133, .aload_n 0, 1, (0, 0, 0), 0, 0, []), (134, .dup, 1, (0, 0, 0), 0, 0, []), (135, .getfield 100, 3, (10, 8, 0), 0, 0, []), (138, .iconst (1), 1, (0, 0, 0), 1, 0, []), (139, .iadd, 1, (0, 0, 0), 0, 0, []), (140, .putfield 100, 3, (10, 8, 0), 0, 0, []), (143, .aload_n 0, 1, (0, 0, 0), 0, 0, []), (144, .iconst (0), 1, (0, 0, 0), 0, 0, []), (145, .putfield 103, 3, (10, 9, 0), 0, 0, []), (148, .aload_n 0, 1, (0, 0, 0), 0, 0, []), (149, .iload_n 1, 1, (1, 0, 0), 0, 0, []), (150, .iconst (1), 1, (0, 0, 0), 1, 0, []), (151, .iadd, 1, (0, 0, 0), 0, 0, []), (152, .putfield 94, 3, (10, 5, 0), 0, 0, []), (155, .aload_n 0, 1, (0, 0, 0), 0, 0, []), (156, .dup, 1, (0, 0, 0), 0, 0, []), (157, .getfield 97, 3, (10, 6, 0), 0, 0, []), (160, .iconst (1), 1, (0, 0, 0), 1, 0, []), (161, .iadd, 1, (0, 0, 0), 0, 0, []), (162, .putfield 97, 3, (10, 6, 0), 0, 0, []), (165, .aload_n 0, 1, (0, 0, 0), 0, 0, []), (166, .iconst (0), 1, (0, 0, 0), 0, 0, []), (167, .putfield 106, 3, (10, 10, 0), 0, 0, []), (170, .iconst (1), 1, (0, 0, 0), 1, 0, []), (171, .ireturn, 1, (0, 0, 1), 0, 0, [])], 172)]
def mp_113 : mj_M := (4, [], mb_113)
-- MacroPressModel.readName()I
def mb_114 : List mj_B := [(0, [true], [(0, .aload_n 0, 1, (0, 0, 0), 0, 0, []), (1, .iconst (0), 1, (0, 0, 0), 0, 0, []), (2, .putfield 143, 3, (10, 15, 0), 0, 0, []), (5, .aload_n 0, 1, (0, 0, 0), 0, 0, []), (6, .iconst (1), 1, (0, 0, 0), 1, 0, []), (7, .putfield 106, 3, (10, 10, 0), 0, 0, []), (10, .aload_n 0, 1, (0, 0, 0), 0, 0, []), (11, .getfield 103, 3, (10, 9, 0), 0, 0, []), (14, .aload_n 0, 1, (0, 0, 0), 0, 0, []), (15, .getfield 100, 3, (10, 8, 0), 0, 0, []), (18, .if_icmp .ge (88), 3, (106, 0, 0), 0, 0, [])], 21),
  (21, [true], [(21, .aload_n 0, 1, (0, 0, 0), 0, 0, []), (22, .aload_n 0, 1, (0, 0, 0), 0, 0, []), (23, .getfield 16, 3, (10, 7, 2), 0, 0, []), (26, .aload_n 0, 1, (0, 0, 0), 0, 0, []), (27, .getfield 103, 3, (10, 9, 0), 0, 0, []), (30, .iaload, 1, (0, 0, 0), 0, 0, []), (31, .invokevirtual 164, 3, (112, 2, 10), 0, 0, []), (34, .bipush (11), 2, (0, 0, 0), 11, 0, []), (36, .if_icmp .ne (70), 3, (106, 0, 0), 0, 0, [])], 39),
  (39, [true], [(39, .aload_n 0, 1, (0, 0, 0), 0, 0, []), (40, .iconst (2), 1, (0, 0, 0), 2, 0, []), (41, .putfield 106, 3, (10, 10, 0), 0, 0, [])], 44),
  (44, [true], [(44, .aload_n 0, 1, (0, 0, 0), 0, 0, []), (45, .getfield 91, 3, (10, 39, 0), 0, 0, []), (48, .ifCond .ne (119), 3, (167, 0, 0), 0, 0, [])], 51),
  (51, [true], [(51, .aload_n 0, 1, (0, 0, 0), 0, 0, []), (52, .getfield 103, 3, (10, 9, 0), 0, 0, []), (55, .aload_n 0, 1, (0, 0, 0), 0, 0, []), (56, .getfield 100, 3, (10, 8, 0), 0, 0, []), (59, .if_icmp .ge (108), 3, (167, 0, 0), 0, 0, [])], 62),
  (62, [true], [(62, .aload_n 0, 1, (0, 0, 0), 0, 0, []), (63, .aload_n 0, 1, (0, 0, 0), 0, 0, []), (64, .getfield 16, 3, (10, 7, 2), 0, 0, []), (67, .aload_n 0, 1, (0, 0, 0), 0, 0, []), (68, .getfield 103, 3, (10, 9, 0), 0, 0, []), (71, .iaload, 1, (0, 0, 0), 0, 0, []), (72, .invokevirtual 164, 3, (112, 2, 10), 0, 0, []), (75, .bipush (11), 2, (0, 0, 0), 11, 0, []), (77, .if_icmp .ne (90), 3, (167, 0, 0), 0, 0, [])], 80),
  (80, [true], [(80, .aload_n 0, 1, (0, 0, 0), 0, 0, []), (81, .aload_n 0, 1, (0, 0, 0), 0, 0, []), (82, .getfield 16, 3, (10, 7, 2), 0, 0, []), (85, .aload_n 0, 1, (0, 0, 0), 0, 0, []), (86, .getfield 103, 3, (10, 9, 0), 0, 0, []), (89, .iaload, 1, (0, 0, 0), 0, 0, []), (90, .invokevirtual 168, 3, (111, 2, 10), 0, 0, []), (93, .aload_n 0, 1, (0, 0, 0), 0, 0, []), (94, .dup, 1, (0, 0, 0), 0, 0, []), (95, .getfield 103, 3, (10, 9, 0), 0, 0, []), (98, .iconst (1), 1, (0, 0, 0), 1, 0, []), (99, .iadd, 1, (0, 0, 0), 0, 0, []), (100, .putfield 103, 3, (10, 9, 0), 0, 0, []), (103, .goto (-59), 3, (44, 0, 0), 0, 0, [])], 106),
  (106, [true], [(106, .aload_n 0, 1, (0, 0, 0), 0, 0, []), (107, .getfield 103, 3, (10, 9, 0), 0, 0, []), (110, .aload_n 0, 1, (0, 0, 0), 0, 0, []), (111, .getfield 100, 3, (10, 8, 0), 0, 0, []), (114, .if_icmp .ge (53), 3, (167, 0, 0), 0, 0, [])], 117),
  (117, [true], [(117, .aload_n 0, 1, (0, 0, 0), 0, 0, []), (118, .aload_n 0, 1, (0, 0, 0), 0, 0, []), (119, .aload_n 0, 1, (0, 0, 0), 0, 0, []), (120, .getfield 16, 3, (10, 7, 2), 0, 0, []), (123, .aload_n 0, 1, (0, 0, 0), 0, 0, []), (124, .getfield 103, 3, (10, 9, 0), 0, 0, []), (127, .iaload, 1, (0, 0, 0), 0, 0, []), (128, .invokevirtual 164, 3, (112, 2, 10), 0, 0, []), (131, .bipush (10), 2, (0, 0, 0), 10, 0, []), (133, .if_icmp .ne (7), 3, (140, 0, 0), 0, 0, [])], 136),
  (136, [true], [(136, .iconst (2), 1, (0, 0, 0), 2, 0, []), (137, .goto (4), 3, (141, 0, 0), 0, 0, [])], 140),
  (140, [true], [(140, .iconst (1), 1, (0, 0, 0), 1, 0, [])], 141),
  (141, [true], [(141, .putfield 106, 3, (10, 10, 0), 0, 0, []), (144, .aload_n 0, 1, (0, 0, 0), 0, 0, []), (145, .aload_n 0, 1, (0, 0, 0), 0, 0, []), (146, .getfield 16, 3, (10, 7, 2), 0, 0, []), (149, .aload_n 0, 1, (0, 0, 0), 0, 0, []), (150, .getfield 103, 3, (10, 9, 0), 0, 0, []), (153, .iaload, 1, (0, 0, 0), 0, 0, []), (154, .invokevirtual 168, 3, (111, 2, 10), 0, 0, []), (157, .aload_n 0, 1, (0, 0, 0), 0, 0, []), (158, .dup, 1, (0, 0, 0), 0, 0, []), (159, .getfield 103, 3, (10, 9, 0), 0, 0, []), (162, .iconst (1), 1, (0, 0, 0), 1, 0, []), (163, .iadd, 1, (0, 0, 0), 0, 0, []), (164, .putfield 103, 3, (10, 9, 0), 0, 0, [])], 167),
  (167, [true], [(167, .aload_n 0, 1, (0, 0, 0), 0, 0, []), (168, .getfield 91, 3, (10, 39, 0), 0, 0, []), (171, .ifCond .le (7), 3, (178, 0, 0), 0, 0, [])], 174),
  (174, [false], [(174, .iconst (-1), 1, (0, 0, 0), -1, 0, []), (175, .goto (7), 3, (182, 0, 0), 0, 0, [])], 178),
  (178, [true], [(178, .aload_n 0, 1, (0, 0, 0), 0, 0, []), (179, .invokevirtual 171, 3, (110, 1, 10), 0, 0, [])], 182),
  (182, [false], [(182, .ireturn, 1, (0, 0, 0), 0, 0, [])], 183)]
def mp_114 : mj_M := (1, [], mb_114)
-- MacroPressModel.read()I
def mb_115 : List mj_B := [(0, [true, false, false], [(0, .aload_n 0, 1, (0, 0, 0), 0, 0, []), (1, .getfield 103, 3, (10, 9, 0), 0, 0, []), (4, .aload_n 0, 1, (0, 0, 0), 0, 0, []), (5, .getfield 100, 3, (10, 8, 0), 0, 0, []), (8, .if_icmp .ne (12), 3, (20, 0, 0), 0, 0, [])], 11),
  (11, [true, false, false], [(11, .aload_n 0, 1, (0, 0, 0), 0, 0, []), (12, .invokevirtual 174, 3, (113, 1, 10), 0, 0, []), (15, .ifCond .ne (5), 3, (20, 0, 0), 0, 0, [])], 18),
  (18, [false, false, false], [(18, .iconst (-1), 1, (0, 0, 0), -1, 0, []), (19, .ireturn, 1, (0, 0, 0), 0, 0, [])], 20),
  (20, [true, false, false], [(20, .aload_n 0, 1, (0, 0, 0), 0, 0, []), (21, .getfield 16, 3, (10, 7, 2), 0, 0, []), (24, .aload_n 0, 1, (0, 0, 0), 0, 0, []), (25, .getfield 103, 3, (10, 9, 0), 0, 0, []), (28, .iaload, 1, (0, 0, 0), 0, 0, []), (29, .istore_n 1, 1, (1, 0, 0), 0, 0, []), (30, .aload_n 0, 1, (0, 0, 0), 0, 0, []), (31, .dup, 1, (0, 0, 0), 0, 0, []), (32, .getfield 103, 3, (10, 9, 0), 0, 0, []), (35, .iconst (1), 1, (0, 0, 0), 1, 0, []), (36, .iadd, 1, (0, 0, 0), 0, 0, []), (37, .putfield 103, 3, (10, 9, 0), 0, 0, []), (40, .aload_n 0, 1, (0, 0, 0), 0, 0, []), (41, .iload_n 1, 1, (1, 0, 0), 0, 0, []), (42, .invokevirtual 164, 3, (112, 2, 10), 0, 0, []), (45, .istore_n 2, 1, (2, 0, 0), 0, 0, []), (46, .iload_n 2, 1, (2, 0, 0), 0, 0, []), (47, .ifCond .ne (8), 3, (55, 0, 0), 0, 0, [])], 50),
  (50, [true, false, false], [(50, .aload_n 0, 1, (0, 0, 0), 0, 0, []), (51, .invokevirtual 178, 3, (114, 1, 10), 0, 0, []), (54, .ireturn, 1, (0, 0, 0), 0, 0, [])], 55),
  (55, [true, true, true], [(55, .iload_n 2, 1, (2, 0, 0), 0, 0, []), (56, .iconst (5), 1, (0, 0, 0), 5, 0, []), (57, .if_icmp .ne (35), 3, (92, 0, 0), 0, 0, [])], 60),
  (60, [true, false, false], [(60, .aload_n 0, 1, (0, 0, 0), 0, 0, []), (61, .aload_n 0, 1, (0, 0, 0), 0, 0, []), (62, .getfield 100, 3, (10, 8, 0), 0, 0, []), (65, .putfield 103, 3, (10, 9, 0), 0, 0, []), (68, .aload_n 0, 1, (0, 0, 0), 0, 0, []), (69, .getfield 106, 3, (10, 10, 0), 0, 0, []), (72, .iconst (2), 1, (0, 0, 0), 2, 0, []), (73, .if_icmp .ge (107), 3, (180, 0, 0), 0, 0, [])], 76),
  (76, [true, false, false], [(76, .aload_n 0, 1, (0, 0, 0), 0, 0, []), (77, .getfield 106, 3, (10, 10, 0), 0, 0, []), (80, .ifCond .ne (8), 3, (88, 0, 0), 0, 0, [])], 83),
  (83, [false, false, false], [(83, .ldc 181, 2, (0, 0, 0), 65555, 0, []), (85, .goto (6), 3, (91, 0, 0), 0, 0, [])], 88),
  (88, [false, false, false], [(88, .sipush (2592), 3, (0, 0, 0), 2592, 0, [])], 91),
  (91, [false, false, false], [(91, .ireturn, 1, (0, 0, 0), 0, 0, [])], 92),
  (92, [true, true, true], [(92, .iload_n 2, 1, (2, 0, 0), 0, 0, []), (93, .bipush (10), 2, (0, 0, 0), 10, 0, []), (95, .if_icmp .ne (20), 3, (115, 0, 0), 0, 0, [])], 98),
  (98, [true, false, false], [(98, .aload_n 0, 1, (0, 0, 0), 0, 0, []), (99, .getfield 106, 3, (10, 10, 0), 0, 0, []), (102, .iconst (1), 1, (0, 0, 0), 1, 0, []), (103, .if_icmp .ne (77), 3, (180, 0, 0), 0, 0, [])], 106),
  (106, [true, false, false], [(106, .aload_n 0, 1, (0, 0, 0), 0, 0, []), (107, .iconst (2), 1, (0, 0, 0), 2, 0, []), (108, .putfield 106, 3, (10, 10, 0), 0, 0, []), (111, .sipush (2592), 3, (0, 0, 0), 2592, 0, []), (114, .ireturn, 1, (0, 0, 0), 0, 0, [])], 115),
  (115, [true, true, true], [(115, .iload_n 2, 1, (2, 0, 0), 0, 0, []), (116, .bipush (13), 2, (0, 0, 0), 13, 0, []), (118, .if_icmp .ne (13), 3, (131, 0, 0), 0, 0, [])], 121),
  (121, [true, true, false], [(121, .aload_n 0, 1, (0, 0, 0), 0, 0, []), (122, .iconst (1), 1, (0, 0, 0), 1, 0, []), (123, .putfield 106, 3, (10, 10, 0), 0, 0, []), (126, .ldc 182, 2, (0, 0, 0), 131072, 0, []), (128, .iload_n 1, 1, (1, 0, 0), 0, 0, []), (129, .iadd, 1, (0, 0, 0), 0, 0, []), (130, .ireturn, 1, (0, 0, 0), 0, 0, [])], 131),
  (131, [true, true, true], [(131, .iload_n 2, 1, (2, 0, 0), 0, 0, []), (132, .bipush (14), 2, (0, 0, 0), 14, 0, []), (134, .if_icmp .ne (14), 3, (148, 0, 0), 0, 0, [])], 137),
  (137, [true, false, false], [(137, .aload_n 0, 1, (0, 0, 0), 0, 0, []), (138, .aload_n 0, 1, (0, 0, 0), 0, 0, []), (139, .getfield 100, 3, (10, 8, 0), 0, 0, []), (142, .putfield 103, 3, (10, 9, 0), 0, 0, []), (145, .goto (35), 3, (180, 0, 0), 0, 0, [])], 148),
  (148, [true, true, true], [(148, .iload_n 2, 1, (2, 0, 0), 0, 0, []), (149, .bipush (15), 2, (0, 0, 0), 15, 0, []), (151, .if_icmp .ne (10), 3, (161, 0, 0), 0, 0, [])], 154),
  (154, [true, false, false], [(154, .aload_n 0, 1, (0, 0, 0), 0, 0, []), (155, .iconst (1), 1, (0, 0, 0), 1, 0, []), (156, .invokevirtual 160, 3, (106, 2, 10), 0, 0, []), (159, .iconst (-1), 1, (0, 0, 0), -1, 0, []), (160, .ireturn, 1, (0, 0, 0), 0, 0, [])], 161),
  (161, [true, true, true], [(161, .iload_n 2, 1, (2, 0, 0), 0, 0, []), (162, .bipush (9), 2, (0, 0, 0), 9, 0, []), (164, .if_icmp .eq (16), 3, (180, 0, 0), 0, 0, [])], 167),
  (167, [true, true, true], [(167, .aload_n 0, 1, (0, 0, 0), 0, 0, []), (168, .iconst (1), 1, (0, 0, 0), 1, 0, []), (169, .putfield 106, 3, (10, 10, 0), 0, 0, []), (172, .sipush (256), 3, (0, 0, 0), 256, 0, []), (175, .iload_n 2, 1, (2, 0, 0), 0, 0, []), (176, .imul, 1, (0, 0, 0), 0, 0, []), (177, .iload_n 1, 1, (1, 0, 0), 0, 0, []), (178, .iadd, 1, (0, 0, 0), 0, 0, []), (179, .ireturn, 1, (0, 0, 0), 0, 0, [])], 180),
  (180, [true, false, false], [(180, .goto (-180), 3, (0, 0, 0), 0, 0, [])], 183)]
def mp_115 : mj_M := (3, [], mb_115)
-- MacroPressModel.get()I
def mb_116 : List mj_B := [(0, [true], [(0, .aload_n 0, 1, (0, 0, 0), 0, 0, []), (1, .getfield 91, 3, (10, 39, 0), 0, 0, []), (4, .ifCond .le (5), 3, (9, 0, 0), 0, 0, [])], 7),
  (7, [false], [(7, .iconst (-1), 1, (0, 0, 0), -1, 0, []), (8, .ireturn, 1, (0, 0, 0), 0, 0, [])], 9),
  (9, [true], [(9, .aload_n 0, 1, (0, 0, 0), 0, 0, []), (10, .getfield 118, 3, (10, 29, 0), 0, 0, []), (13, .ifCond .le (23), 3, (36, 0, 0), 0, 0, [])], 16),
  (16, [true], [(16, .aload_n 0, 1, (0, 0, 0), 0, 0, []), (17, .dup, 1, (0, 0, 0), 0, 0, []), (18, .getfield 118, 3, (10, 29, 0), 0, 0, []), (21, .iconst (1), 1, (0, 0, 0), 1, 0, []), (22, .isub, 1, (0, 0, 0), 0, 0, []), (23, .putfield 118, 3, (10, 29, 0), 0, 0, []), (26, .aload_n 0, 1, (0, 0, 0), 0, 0, []), (27, .getfield 62, 3, (10, 30, 2), 0, 0, []), (30, .aload_n 0, 1, (0, 0, 0), 0, 0, []), (31, .getfield 118, 3, (10, 29, 0), 0, 0, []), (34, .iaload, 1, (0, 0, 0), 0, 0, []), (35, .ireturn, 1, (0, 0, 0), 0, 0, [])], 36),
  (36, [true], [(36, .aload_n 0, 1, (0, 0, 0), 0, 0, []), (37, .invokevirtual 183, 3, (115, 1, 10), 0, 0, []), (40, .ireturn, 1, (0, 0, 0), 0, 0, [])], 41)]
def mp_116 : mj_M := (1, [], mb_116)
-- MacroPressModel.need()I
def mb_117 : List mj_B := [(0, [true, false], [(0, .aload_n 0, 1, (0, 0, 0), 0, 0, []), (1, .invokevirtual 186, 3, (116, 1, 10), 0, 0, []), (4, .istore_n 1, 1, (1, 0, 0), 0, 0, []), (5, .iload_n 1, 1, (1, 0, 0), 0, 0, []), (6, .iconst (-1), 1, (0, 0, 0), -1, 0, []), (7, .if_icmp .ne (9), 3, (16, 0, 0), 0, 0, [])], 10),
  (10, [true, true], [(10, .aload_n 0, 1, (0, 0, 0), 0, 0, []), (11, .bipush (9), 2, (0, 0, 0), 9, 0, []), (13, .invokevirtual 160, 3, (106, 2, 10), 0, 0, [])], 16),
  (16, [false, true], [(16, .iload_n 1, 1, (1, 0, 0), 0, 0, []), (17, .ireturn, 1, (0, 0, 0), 0, 0, [])], 18)]
def mp_117 : mj_M := (2, [], mb_117)
-- MacroPressModel.put(I)V
def mb_118 : List mj_B := [(0, [true, true], [(0, .iload_n 1, 1, (1, 0, 0), 0, 0, []), (1, .iconst (-1), 1, (0, 0, 0), -1, 0, []), (2, .if_icmp .eq (30), 3, (32, 0, 0), 0, 0, [])], 5),
  (5, [true, true], [(5, .aload_n 0, 1, (0, 0, 0), 0, 0, []), (6, .getfield 91, 3, (10, 39, 0), 0, 0, []), (9, .ifCond .ne (23), 3, (32, 0, 0), 0, 0, [])], 12),
  (12, [true, true], [(12, .aload_n 0, 1, (0, 0, 0), 0, 0, []), (13, .getfield 62, 3, (10, 30, 2), 0, 0, []), (16, .aload_n 0, 1, (0, 0, 0), 0, 0, []), (17, .getfield 118, 3, (10, 29, 0), 0, 0, []), (20, .iload_n 1, 1, (1, 0, 0), 0, 0, []), (21, .iastore, 1, (0, 0, 0), 0, 0, []), (22, .aload_n 0, 1, (0, 0, 0), 0, 0, []), (23, .dup, 1, (0, 0, 0), 0, 0, []), (24, .getfield 118, 3, (10, 29, 0), 0, 0, []), (27, .iconst (1), 1, (0, 0, 0), 1, 0, []), (28, .iadd, 1, (0, 0, 0), 0, 0, []), (29, .putfield 118, 3, (10, 29, 0), 0, 0, [])], 32),
  (32, [false, false], [(32, .return_, 1, (0, 0, 0), 0, 0, [])], 33)]
def mp_118 : mj_M := (2, [], mb_118)
-- MacroPressModel.isCharacter(I)Z
def mb_119 : List mj_B := [(0, [true], [(0, .iload_n 0, 1, (0, 0, 0), 0, 0, []), (1, .ifCond .lt (13), 3, (14, 0, 0), 0, 0, [])], 4),
  (4, [true], [(4, .iload_n 0, 1, (0, 0, 0), 0, 0, []), (5, .ldc 159, 2, (0, 0, 0), 65536, 0, []), (7, .if_icmp .ge (7), 3, (14, 0, 0), 0, 0, [])], 10),
  (10, [false], [(10, .iconst (1), 1, (0, 0, 0), 1, 0, []), (11, .goto (4), 3, (15, 0, 0), 0, 0, [])], 14),
  (14, [false], [(14, .iconst (0), 1, (0, 0, 0), 0, 0, [])], 15),
  (15, [false], [(15, .ireturn, 1, (0, 0, 1), 0, 0, [])], 16)]
def mp_119 : mj_M := (1, [], mb_119)
-- MacroPressModel.is(III)Z
def mb_120 : List mj_B := [(0, [true, true, true], [(0, .iload_n 0, 1, (0, 0, 0), 0, 0, []), (1, .sipush (256), 3, (0, 0, 0), 256, 0, []), (4, .iload_n 1, 1, (1, 0, 0), 0, 0, []), (5, .imul, 1, (0, 0, 0), 0, 0, []), (6, .iload_n 2, 1, (2, 0, 0), 0, 0, []), (7, .iadd, 1, (0, 0, 0), 0, 0, []), (8, .if_icmp .ne (7), 3, (15, 0, 0), 0, 0, [])], 11),
  (11, [false, false, false], [(11, .iconst (1), 1, (0, 0, 0), 1, 0, []), (12, .goto (4), 3, (16, 0, 0), 0, 0, [])], 15),
  (15, [false, false, false], [(15, .iconst (0), 1, (0, 0, 0), 0, 0, [])], 16),
  (16, [false, false, false], [(16, .ireturn, 1, (0, 0, 1), 0, 0, [])], 17)]
def mp_120 : mj_M := (3, [], mb_120)
-- MacroPressModel.isOf(II)Z
def mb_121 : List mj_B := [(0, [true, true], [(0, .iload_n 0, 1, (0, 0, 0), 0, 0, []), (1, .invokestatic 189, 3, (119, 1, 0), 0, 0, []), (4, .ifCond .eq (16), 3, (20, 0, 0), 0, 0, [])], 7),
  (7, [true, true], [(7, .iload_n 0, 1, (0, 0, 0), 0, 0, []), (8, .sipush (256), 3, (0, 0, 0), 256, 0, []), (11, .idiv, 1, (0, 0, 0), 0, 0, []), (12, .iload_n 1, 1, (1, 0, 0), 0, 0, []), (13, .if_icmp .ne (7), 3, (20, 0, 0), 0, 0, [])], 16),
  (16, [false, false], [(16, .iconst (1), 1, (0, 0, 0), 1, 0, []), (17, .goto (4), 3, (21, 0, 0), 0, 0, [])], 20),
  (20, [false, false], [(20, .iconst (0), 1, (0, 0, 0), 0, 0, [])], 21),
  (21, [false, false], [(21, .ireturn, 1, (0, 0, 1), 0, 0, [])], 22)]
def mp_121 : mj_M := (2, [], mb_121)
-- MacroPressModel.isMarked(I)Z
def mb_122 : List mj_B := [(0, [true], [(0, .iload_n 0, 1, (0, 0, 0), 0, 0, []), (1, .ldc 193, 2, (0, 0, 0), 524288, 0, []), (3, .if_icmp .lt (7), 3, (10, 0, 0), 0, 0, [])], 6),
  (6, [false], [(6, .iconst (1), 1, (0, 0, 0), 1, 0, []), (7, .goto (4), 3, (11, 0, 0), 0, 0, [])], 10),
  (10, [false], [(10, .iconst (0), 1, (0, 0, 0), 0, 0, [])], 11),
  (11, [false], [(11, .ireturn, 1, (0, 0, 1), 0, 0, [])], 12)]
def mp_122 : mj_M := (1, [], mb_122)
-- MacroPressModel.bare(I)I
def mb_123 : List mj_B := [(0, [true], [(0, .iload_n 0, 1, (0, 0, 0), 0, 0, []), (1, .ldc 193, 2, (0, 0, 0), 524288, 0, []), (3, .if_icmp .lt (10), 3, (13, 0, 0), 0, 0, [])], 6),
  (6, [true], [(6, .iload_n 0, 1, (0, 0, 0), 0, 0, []), (7, .ldc 193, 2, (0, 0, 0), 524288, 0, []), (9, .isub, 1, (0, 0, 0), 0, 0, []), (10, .goto (4), 3, (14, 0, 0), 0, 0, [])], 13),
  (13, [true], [(13, .iload_n 0, 1, (0, 0, 0), 0, 0, [])], 14),
  (14, [false], [(14, .ireturn, 1, (0, 0, 0), 0, 0, [])], 15)]
def mp_123 : mj_M := (1, [], mb_123)
-- MacroPressModel.idOf(I)I
def mb_124 : List mj_B := [(0, [false, true, false], [(0, .iload_n 1, 1, (1, 0, 0), 0, 0, []), (1, .invokestatic 194, 3, (123, 1, 0), 0, 0, []), (4, .istore_n 2, 1, (2, 0, 0), 0, 0, []), (5, .iload_n 2, 1, (2, 0, 0), 0, 0, []), (6, .ldc 182, 2, (0, 0, 0), 131072, 0, []), (8, .if_icmp .lt (14), 3, (22, 0, 0), 0, 0, [])], 11),
  (11, [false, false, true], [(11, .sipush (1100), 3, (0, 0, 0), 1100, 0, []), (14, .iload_n 2, 1, (2, 0, 0), 0, 0, []), (15, .iadd, 1, (0, 0, 0), 0, 0, []), (16, .ldc 182, 2, (0, 0, 0), 131072, 0, []), (18, .isub, 1, (0, 0, 0), 0, 0, []), (19, .goto (7), 3, (26, 0, 0), 0, 0, [])], 22),
  (22, [false, false, true], [(22, .iload_n 2, 1, (2, 0, 0), 0, 0, []), (23, .ldc 159, 2, (0, 0, 0), 65536, 0, []), (25, .isub, 1, (0, 0, 0), 0, 0, [])], 26),
  (26, [false, false, false], [(26, .ireturn, 1, (0, 0, 0), 0, 0, [])], 27)]
def mp_124 : mj_M := (3, [], mb_124)
-- MacroPressModel.meaning(I)I
def mb_125 : List mj_B := [(0, [true, true], [(0, .iload_n 1, 1, (1, 0, 0), 0, 0, []), (1, .invokestatic 197, 3, (122, 1, 0), 0, 0, []), (4, .ifCond .eq (7), 3, (11, 0, 0), 0, 0, [])], 7),
  (7, [false, false], [(7, .sipush (1018), 3, (0, 0, 0), 1018, 0, []), (10, .ireturn, 1, (0, 0, 0), 0, 0, [])], 11),
  (11, [true, true], [(11, .iload_n 1, 1, (1, 0, 0), 0, 0, []), (12, .invokestatic 189, 3, (119, 1, 0), 0, 0, []), (15, .ifCond .eq (10), 3, (25, 0, 0), 0, 0, [])], 18),
  (18, [false, true], [(18, .ldc 200, 2, (0, 0, 0), 2000000, 0, []), (20, .iload_n 1, 1, (1, 0, 0), 0, 0, []), (21, .iadd, 1, (0, 0, 0), 0, 0, []), (22, .goto (22), 3, (44, 0, 0), 0, 0, [])], 25),
  (25, [true, true], [(25, .aload_n 0, 1, (0, 0, 0), 0, 0, []), (26, .getfield 38, 3, (10, 19, 2), 0, 0, []), (29, .sipush (1400), 3, (0, 0, 0), 1400, 0, []), (32, .aload_n 0, 1, (0, 0, 0), 0, 0, []), (33, .getfield 109, 3, (10, 17, 0), 0, 0, []), (36, .imul, 1, (0, 0, 0), 0, 0, []), (37, .aload_n 0, 1, (0, 0, 0), 0, 0, []), (38, .iload_n 1, 1, (1, 0, 0), 0, 0, []), (39, .invokevirtual 201, 3, (124, 2, 10), 0, 0, []), (42, .iadd, 1, (0, 0, 0), 0, 0, []), (43, .iaload, 1, (0, 0, 0), 0, 0, [])], 44),
  (44, [false, false], [(44, .ireturn, 1, (0, 0, 0), 0, 0, [])], 45)]
def mp_125 : mj_M := (2, [], mb_125)
-- MacroPressModel.means(II)Z
def mb_126 : List mj_B := [(0, [true, true, true], [(0, .iload_n 1, 1, (1, 0, 0), 0, 0, []), (1, .iconst (-1), 1, (0, 0, 0), -1, 0, []), (2, .if_icmp .eq (20), 3, (22, 0, 0), 0, 0, [])], 5),
  (5, [true, true, true], [(5, .aload_n 0, 1, (0, 0, 0), 0, 0, []), (6, .iload_n 1, 1, (1, 0, 0), 0, 0, []), (7, .invokevirtual 204, 3, (125, 2, 10), 0, 0, []), (10, .sipush (1000), 3, (0, 0, 0), 1000, 0, []), (13, .iload_n 2, 1, (2, 0, 0), 0, 0, []), (14, .iadd, 1, (0, 0, 0), 0, 0, []), (15, .if_icmp .ne (7), 3, (22, 0, 0), 0, 0, [])], 18),
  (18, [false, false, false], [(18, .iconst (1), 1, (0, 0, 0), 1, 0, []), (19, .goto (4), 3, (23, 0, 0), 0, 0, [])], 22),
  (22, [false, false, false], [(22, .iconst (0), 1, (0, 0, 0), 0, 0, [])], 23),
  (23, [false, false, false], [(23, .ireturn, 1, (0, 0, 1), 0, 0, [])], 24)]
def mp_126 : mj_M := (3, [], mb_126)
-- MacroPressModel.isExpandable(I)Z
def mb_127 : List mj_B := [(0, [true, true, false], [(0, .iload_n 1, 1, (1, 0, 0), 0, 0, []), (1, .iconst (-1), 1, (0, 0, 0), -1, 0, []), (2, .if_icmp .eq (17), 3, (19, 0, 0), 0, 0, [])], 5),
  (5, [true, true, false], [(5, .iload_n 1, 1, (1, 0, 0), 0, 0, []), (6, .invokestatic 197, 3, (122, 1, 0), 0, 0, []), (9, .ifCond .ne (10), 3, (19, 0, 0), 0, 0, [])], 12),
  (12, [true, true, false], [(12, .iload_n 1, 1, (1, 0, 0), 0, 0, []), (13, .invokestatic 189, 3, (119, 1, 0), 0, 0, []), (16, .ifCond .eq (5), 3, (21, 0, 0), 0, 0, [])], 19),
  (19, [false, false, false], [(19, .iconst (0), 1, (0, 0, 0), 0, 0, []), (20, .ireturn, 1, (0, 0, 1), 0, 0, [])], 21),
  (21, [true, true, false], [(21, .aload_n 0, 1, (0, 0, 0), 0, 0, []), (22, .iload_n 1, 1, (1, 0, 0), 0, 0, []), (23, .invokevirtual 204, 3, (125, 2, 10), 0, 0, []), (26, .istore_n 2, 1, (2, 0, 0), 0, 0, []), (27, .iload_n 2, 1, (2, 0, 0), 0, 0, []), (28, .sipush (1000), 3, (0, 0, 0), 1000, 0, []), (31, .if_icmp .lt (10), 3, (41, 0, 0), 0, 0, [])], 34),
  (34, [false, false, true], [(34, .iload_n 2, 1, (2, 0, 0), 0, 0, []), (35, .sipush (1017), 3, (0, 0, 0), 1017, 0, []), (38, .if_icmp .le (15), 3, (53, 0, 0), 0, 0, [])], 41),
  (41, [false, false, true], [(41, .iload_n 2, 1, (2, 0, 0), 0, 0, []), (42, .ldc 207, 2, (0, 0, 0), 100000, 0, []), (44, .if_icmp .lt (13), 3, (57, 0, 0), 0, 0, [])], 47),
  (47, [false, false, true], [(47, .iload_n 2, 1, (2, 0, 0), 0, 0, []), (48, .ldc 200, 2, (0, 0, 0), 2000000, 0, []), (50, .if_icmp .ge (7), 3, (57, 0, 0), 0, 0, [])], 53),
  (53, [false, false, false], [(53, .iconst (1), 1, (0, 0, 0), 1, 0, []), (54, .goto (4), 3, (58, 0, 0), 0, 0, [])], 57),
  (57, [false, false, false], [(57, .iconst (0), 1, (0, 0, 0), 0, 0, [])], 58),
  (58, [false, false, false], [(58, .ireturn, 1, (0, 0, 1), 0, 0, [])], 59)]
def mp_127 : mj_M := (3, [], mb_127)
-- MacroPressModel.mean(IIZ)V
def mb_128 : List mj_B := [(0, [true, true, true, true, false], [(0, .iload_n 3, 1, (3, 0, 0), 0, 0, []), (1, .ifCond .eq (7), 3, (8, 0, 0), 0, 0, [])], 4),
  (4, [true, true, true, false, false], [(4, .iconst (0), 1, (0, 0, 0), 0, 0, []), (5, .goto (7), 3, (12, 0, 0), 0, 0, [])], 8),
  (8, [true, true, true, false, false], [(8, .aload_n 0, 1, (0, 0, 0), 0, 0, []), (9, .getfield 109, 3, (10, 17, 0), 0, 0, [])], 12),
  (12, [true, true, true, false, false], [(12, .istore 4, 2, (4, 0, 0), 0, 0, [])], 14),
  (14, [true, true, true, false, true], [(14, .iload 4, 2, (4, 0, 0), 0, 0, []), (16, .aload_n 0, 1, (0, 0, 0), 0, 0, []), (17, .getfield 109, 3, (10, 17, 0), 0, 0, []), (20, .if_icmp .gt (27), 3, (47, 0, 0), 0, 0, [])], 23),
  (23, [true, true, true, false, true], [(23, .aload_n 0, 1, (0, 0, 0), 0, 0, []), (24, .getfield 38, 3, (10, 19, 2), 0, 0, []), (27, .sipush (1400), 3, (0, 0, 0), 1400, 0, []), (30, .iload 4, 2, (4, 0, 0), 0, 0, []), (32, .imul, 1, (0, 0, 0), 0, 0, []), (33, .aload_n 0, 1, (0, 0, 0), 0, 0, []), (34, .iload_n 1, 1, (1, 0, 0), 0, 0, []), (35, .invokevirtual 201, 3, (124, 2, 10), 0, 0, []), (38, .iadd, 1, (0, 0, 0), 0, 0, []), (39, .iload_n 2, 1, (2, 0, 0), 0, 0, []), (40, .iastore, 1, (0, 0, 0), 0, 0, []), (41, .iinc 4 (1), 3, (4, 0, 0), 1, 0, []), (44, .goto (-30), 3, (14, 0, 0), 0, 0, [])], 47),
  (47, [false, false, false, false, false], [(47, .return_, 1, (0, 0, 0), 0, 0, [])], 48)]
def mp_128 : mj_M := (5, [], mb_128)
-- MacroPressModel.getExpanded()I
def mb_129 : List mj_B := [(0, [true, false], [(0, .aload_n 0, 1, (0, 0, 0), 0, 0, []), (1, .invokevirtual 186, 3, (116, 1, 10), 0, 0, []), (4, .istore_n 1, 1, (1, 0, 0), 0, 0, [])], 5),
  (5, [true, true], [(5, .aload_n 0, 1, (0, 0, 0), 0, 0, []), (6, .iload_n 1, 1, (1, 0, 0), 0, 0, []), (7, .invokevirtual 208, 3, (127, 2, 10), 0, 0, []), (10, .ifCond .eq (16), 3, (26, 0, 0), 0, 0, [])], 13),
  (13, [true, true], [(13, .aload_n 0, 1, (0, 0, 0), 0, 0, []), (14, .iload_n 1, 1, (1, 0, 0), 0, 0, []), (15, .invokevirtual 211, 3, (133, 2, 10), 0, 0, []), (18, .aload_n 0, 1, (0, 0, 0), 0, 0, []), (19, .invokevirtual 186, 3, (116, 1, 10), 0, 0, []), (22, .istore_n 1, 1, (1, 0, 0), 0, 0, []), (23, .goto (-18), 3, (5, 0, 0), 0, 0, [])], 26),
  (26, [false, true], [(26, .iload_n 1, 1, (1, 0, 0), 0, 0, []), (27, .ireturn, 1, (0, 0, 0), 0, 0, [])], 28)]
def mp_129 : mj_M := (2, [], mb_129)
-- MacroPressModel.needExpanded()I
def mb_130 : List mj_B := [(0, [true, false], [(0, .aload_n 0, 1, (0, 0, 0), 0, 0, []), (1, .invokevirtual 214, 3, (129, 1, 10), 0, 0, []), (4, .istore_n 1, 1, (1, 0, 0), 0, 0, []), (5, .iload_n 1, 1, (1, 0, 0), 0, 0, []), (6, .iconst (-1), 1, (0, 0, 0), -1, 0, []), (7, .if_icmp .ne (9), 3, (16, 0, 0), 0, 0, [])], 10),
  (10, [true, true], [(10, .aload_n 0, 1, (0, 0, 0), 0, 0, []), (11, .bipush (9), 2, (0, 0, 0), 9, 0, []), (13, .invokevirtual 160, 3, (106, 2, 10), 0, 0, [])], 16),
  (16, [false, true], [(16, .iload_n 1, 1, (1, 0, 0), 0, 0, []), (17, .ireturn, 1, (0, 0, 0), 0, 0, [])], 18)]
def mp_130 : mj_M := (2, [], mb_130)
-- MacroPressModel.needExpandedNoSpace()I
def mb_131 : List mj_B := [(0, [true, false], [(0, .aload_n 0, 1, (0, 0, 0), 0, 0, []), (1, .invokevirtual 217, 3, (130, 1, 10), 0, 0, []), (4, .istore_n 1, 1, (1, 0, 0), 0, 0, [])], 5),
  (5, [true, true], [(5, .iload_n 1, 1, (1, 0, 0), 0, 0, []), (6, .bipush (10), 2, (0, 0, 0), 10, 0, []), (8, .invokestatic 220, 3, (121, 2, 0), 0, 0, []), (11, .ifCond .eq (11), 3, (22, 0, 0), 0, 0, [])], 14),
  (14, [true, false], [(14, .aload_n 0, 1, (0, 0, 0), 0, 0, []), (15, .invokevirtual 217, 3, (130, 1, 10), 0, 0, []), (18, .istore_n 1, 1, (1, 0, 0), 0, 0, []), (19, .goto (-14), 3, (5, 0, 0), 0, 0, [])], 22),
  (22, [false, true], [(22, .iload_n 1, 1, (1, 0, 0), 0, 0, []), (23, .ireturn, 1, (0, 0, 0), 0, 0, [])], 24)]
def mp_131 : mj_M := (2, [], mb_131)
-- MacroPressModel.tick()V
def mb_132 : List mj_B := [(0, [true], [(0, .aload_n 0, 1, (0, 0, 0), 0, 0, []), (1, .dup, 1, (0, 0, 0), 0, 0, []), (2, .getfield 81, 3, (10, 36, 0), 0, 0, []), (5, .iconst (1), 1, (0, 0, 0), 1, 0, []), (6, .iadd, 1, (0, 0, 0), 0, 0, []), (7, .putfield 81, 3, (10, 36, 0), 0, 0, []), (10, .aload_n 0, 1, (0, 0, 0), 0, 0, []), (11, .getfield 81, 3, (10, 36, 0), 0, 0, []), (14, .aload_n 0, 1, (0, 0, 0), 0, 0, []), (15, .getfield 224, 3, (10, 37, 0), 0, 0, []), (18, .if_icmp .le (9), 3, (27, 0, 0), 0, 0, [])], 21),
  (21, [true], [(21, .aload_n 0, 1, (0, 0, 0), 0, 0, []), (22, .bipush (10), 2, (0, 0, 0), 10, 0, []), (24, .invokevirtual 160, 3, (106, 2, 10), 0, 0, [])], 27),
  (27, [false], [(27, .return_, 1, (0, 0, 0), 0, 0, [])], 28)]
def mp_132 : mj_M := (1, [], mb_132)
-- MacroPressModel.expand(I)V
def mb_133 : List mj_B := [(0, [true, true, false], [(0, .aload_n 0, 1, (0, 0, 0), 0, 0, []), (1, .invokevirtual 227, 3, (132, 1, 10), 0, 0, []), (4, .aload_n 0, 1, (0, 0, 0), 0, 0, []), (5, .getfield 124, 3, (10, 38, 0), 0, 0, []), (8, .bipush (40), 2, (0, 0, 0), 40, 0, []), (10, .if_icmp .ne (8), 3, (18, 0, 0), 0, 0, [])], 13),
  (13, [true, true, false], [(13, .aload_n 0, 1, (0, 0, 0), 0, 0, []), (14, .iconst (3), 1, (0, 0, 0), 3, 0, []), (15, .invokevirtual 160, 3, (106, 2, 10), 0, 0, [])], 18),
  (18, [true, true, false], [(18, .aload_n 0, 1, (0, 0, 0), 0, 0, []), (19, .getfield 91, 3, (10, 39, 0), 0, 0, []), (22, .ifCond .le (4), 3, (26, 0, 0), 0, 0, [])], 25),
  (25, [false, false, false], [(25, .return_, 1, (0, 0, 0), 0, 0, [])], 26),
  (26, [true, true, false], [(26, .aload_n 0, 1, (0, 0, 0), 0, 0, []), (27, .dup, 1, (0, 0, 0), 0, 0, []), (28, .getfield 124, 3, (10, 38, 0), 0, 0, []), (31, .iconst (1), 1, (0, 0, 0), 1, 0, []), (32, .iadd, 1, (0, 0, 0), 0, 0, []), (33, .putfield 124, 3, (10, 38, 0), 0, 0, []), (36, .aload_n 0, 1, (0, 0, 0), 0, 0, []), (37, .iload_n 1, 1, (1, 0, 0), 0, 0, []), (38, .invokevirtual 204, 3, (125, 2, 10), 0, 0, []), (41, .istore_n 2, 1, (2, 0, 0), 0, 0, []), (42, .iload_n 2, 1, (2, 0, 0), 0, 0, []), (43, .ldc 207, 2, (0, 0, 0), 100000, 0, []), (45, .if_icmp .lt (14), 3, (59, 0, 0), 0, 0, [])], 48),
  (48, [true, false, true], [(48, .aload_n 0, 1, (0, 0, 0), 0, 0, []), (49, .iload_n 2, 1, (2, 0, 0), 0, 0, []), (50, .ldc 207, 2, (0, 0, 0), 100000, 0, []), (52, .isub, 1, (0, 0, 0), 0, 0, []), (53, .invokevirtual 230, 3, (142, 2, 10), 0, 0, []), (56, .goto (13), 3, (69, 0, 0), 0, 0, [])], 59),
  (59, [true, true, true], [(59, .aload_n 0, 1, (0, 0, 0), 0, 0, []), (60, .iload_n 1, 1, (1, 0, 0), 0, 0, []), (61, .iload_n 2, 1, (2, 0, 0), 0, 0, []), (62, .sipush (1000), 3, (0, 0, 0), 1000, 0, []), (65, .isub, 1, (0, 0, 0), 0, 0, []), (66, .invokevirtual 233, 3, (134, 3, 10), 0, 0, [])], 69),
  (69, [true, false, false], [(69, .aload_n 0, 1, (0, 0, 0), 0, 0, []), (70, .dup, 1, (0, 0, 0), 0, 0, []), (71, .getfield 124, 3, (10, 38, 0), 0, 0, []), (74, .iconst (1), 1, (0, 0, 0), 1, 0, []), (75, .isub, 1, (0, 0, 0), 0, 0, []), (76, .putfield 124, 3, (10, 38, 0), 0, 0, []), (79, .aload_n 0, 1, (0, 0, 0), 0, 0, []), (80, .getfield 118, 3, (10, 29, 0), 0, 0, []), (83, .sipush (10000), 3, (0, 0, 0), 10000, 0, []), (86, .if_icmp .le (8), 3, (94, 0, 0), 0, 0, [])], 89),
  (89, [true, false, false], [(89, .aload_n 0, 1, (0, 0, 0), 0, 0, []), (90, .iconst (2), 1, (0, 0, 0), 2, 0, []), (91, .invokevirtual 160, 3, (106, 2, 10), 0, 0, [])], 94),
  (94, [false, false, false], [(94, .return_, 1, (0, 0, 0), 0, 0, [])], 95)]
def mp_133 : mj_M := (3, [], mb_133)
-- MacroPressModel.primitive(II)V
def mb_134 : List mj_B := [(0, [true, true, true, false, false, false, false], [(0, .iload_n 2, 1, (2, 0, 0), 0, 0, []), (1, .tableswitch (259) (0) (17) #[87, 130, 162, 169, 180, 191, 202, 259, 259, 259, 259, 259, 259, 259, 259, 250, 250, 250], 87, (260, 0, 0), 0, 0, [(0, 88), (1, 131), (2, 163), (3, 170), (4, 181), (5, 192), (6, 203), (7, 260), (8, 260), (9, 260), (10, 260), (11, 260), (12, 260), (13, 260), (14, 260), (15, 251), (16, 251), (17, 251)])], 88),
  (88, [true, false, false, false, false, false, false], [(88, .aload_n 0, 1, (0, 0, 0), 0, 0, []), (89, .invokevirtual 237, 3, (117, 1, 10), 0, 0, []), (92, .istore_n 3, 1, (3, 0, 0), 0, 0, []), (93, .aload_n 0, 1, (0, 0, 0), 0, 0, []), (94, .invokevirtual 237, 3, (117, 1, 10), 0, 0, []), (97, .istore 4, 2, (4, 0, 0), 0, 0, []), (99, .aload_n 0, 1, (0, 0, 0), 0, 0, []), (100, .iload 4, 2, (4, 0, 0), 0, 0, []), (102, .invokevirtual 208, 3, (127, 2, 10), 0, 0, []), (105, .ifCond .eq (12), 3, (117, 0, 0), 0, 0, [])], 108),
  (108, [true, false, false, true, true, false, false], [(108, .aload_n 0, 1, (0, 0, 0), 0, 0, []), (109, .iload 4, 2, (4, 0, 0), 0, 0, []), (111, .invokevirtual 211, 3, (133, 2, 10), 0, 0, []), (114, .goto (9), 3, (123, 0, 0), 0, 0, [])], 117),
  (117, [true, false, false, true, true, false, false], [(117, .aload_n 0, 1, (0, 0, 0), 0, 0, []), (118, .iload 4, 2, (4, 0, 0), 0, 0, []), (120, .invokevirtual 240, 3, (118, 2, 10), 0, 0, [])], 123),
  (123, [true, false, false, true, false, false, false], [(123, .aload_n 0, 1, (0, 0, 0), 0, 0, []), (124, .iload_n 3, 1, (3, 0, 0), 0, 0, []), (125, .invokevirtual 240, 3, (118, 2, 10), 0, 0, []), (128, .goto (137), 3, (265, 0, 0), 0, 0, [])], 131),
  (131, [true, false, false, false, false, false, false], [(131, .aload_n 0, 1, (0, 0, 0), 0, 0, []), (132, .invokevirtual 237, 3, (117, 1, 10), 0, 0, []), (135, .istore 5, 2, (5, 0, 0), 0, 0, []), (137, .aload_n 0, 1, (0, 0, 0), 0, 0, []), (138, .aload_n 0, 1, (0, 0, 0), 0, 0, []), (139, .iload 5, 2, (5, 0, 0), 0, 0, []), (141, .invokevirtual 208, 3, (127, 2, 10), 0, 0, []), (144, .ifCond .eq (11), 3, (155, 0, 0), 0, 0, [])], 147),
  (147, [false, false, false, false, false, true, false], [(147, .iload 5, 2, (5, 0, 0), 0, 0, []), (149, .ldc 193, 2, (0, 0, 0), 524288, 0, []), (151, .iadd, 1, (0, 0, 0), 0, 0, []), (152, .goto (5), 3, (157, 0, 0), 0, 0, [])], 155),
  (155, [false, false, false, false, false, true, false], [(155, .iload 5, 2, (5, 0, 0), 0, 0, [])], 157),
  (157, [false, false, false, false, false, false, false], [(157, .invokevirtual 240, 3, (118, 2, 10), 0, 0, []), (160, .goto (105), 3, (265, 0, 0), 0, 0, [])], 163),
  (163, [true, false, false, false, false, false, false], [(163, .aload_n 0, 1, (0, 0, 0), 0, 0, []), (164, .invokevirtual 243, 3, (135, 1, 10), 0, 0, []), (167, .goto (98), 3, (265, 0, 0), 0, 0, [])], 170),
  (170, [true, false, false, false, false, false, false], [(170, .aload_n 0, 1, (0, 0, 0), 0, 0, []), (171, .aload_n 0, 1, (0, 0, 0), 0, 0, []), (172, .invokevirtual 237, 3, (117, 1, 10), 0, 0, []), (175, .invokevirtual 246, 3, (137, 2, 10), 0, 0, []), (178, .goto (87), 3, (265, 0, 0), 0, 0, [])], 181),
  (181, [true, false, false, false, false, false, false], [(181, .aload_n 0, 1, (0, 0, 0), 0, 0, []), (182, .aload_n 0, 1, (0, 0, 0), 0, 0, []), (183, .invokevirtual 249, 3, (161, 1, 10), 0, 0, []), (186, .invokevirtual 252, 3, (138, 2, 10), 0, 0, []), (189, .goto (76), 3, (265, 0, 0), 0, 0, [])], 192),
  (192, [true, false, false, false, false, false, false], [(192, .aload_n 0, 1, (0, 0, 0), 0, 0, []), (193, .aload_n 0, 1, (0, 0, 0), 0, 0, []), (194, .invokevirtual 249, 3, (161, 1, 10), 0, 0, []), (197, .invokevirtual 255, 3, (140, 2, 10), 0, 0, []), (200, .goto (65), 3, (265, 0, 0), 0, 0, [])], 203),
  (203, [true, false, false, false, false, false, false], [(203, .aload_n 0, 1, (0, 0, 0), 0, 0, []), (204, .invokevirtual 217, 3, (130, 1, 10), 0, 0, []), (207, .istore 6, 2, (6, 0, 0), 0, 0, []), (209, .aload_n 0, 1, (0, 0, 0), 0, 0, []), (210, .getfield 91, 3, (10, 39, 0), 0, 0, []), (213, .ifCond .ne (18), 3, (231, 0, 0), 0, 0, [])], 216),
  (216, [true, false, false, false, false, false, true], [(216, .aload_n 0, 1, (0, 0, 0), 0, 0, []), (217, .iload 6, 2, (6, 0, 0), 0, 0, []), (219, .invokevirtual 258, 3, (154, 2, 10), 0, 0, []), (222, .ifCond .ne (9), 3, (231, 0, 0), 0, 0, [])], 225),
  (225, [true, false, false, false, false, false, true], [(225, .aload_n 0, 1, (0, 0, 0), 0, 0, []), (226, .bipush (6), 2, (0, 0, 0), 6, 0, []), (228, .invokevirtual 160, 3, (106, 2, 10), 0, 0, [])], 231),
  (231, [true, false, false, false, false, false, true], [(231, .aload_n 0, 1, (0, 0, 0), 0, 0, []), (232, .getfield 91, 3, (10, 39, 0), 0, 0, []), (235, .ifCond .ne (30), 3, (265, 0, 0), 0, 0, [])], 238),
  (238, [true, false, false, false, false, false, true], [(238, .aload_n 0, 1, (0, 0, 0), 0, 0, []), (239, .aload_n 0, 1, (0, 0, 0), 0, 0, []), (240, .iload 6, 2, (6, 0, 0), 0, 0, []), (242, .invokevirtual 261, 3, (156, 2, 10), 0, 0, []), (245, .invokevirtual 252, 3, (138, 2, 10), 0, 0, []), (248, .goto (17), 3, (265, 0, 0), 0, 0, [])], 251),
  (251, [true, true, true, false, false, false, false], [(251, .aload_n 0, 1, (0, 0, 0), 0, 0, []), (252, .iload_n 1, 1, (1, 0, 0), 0, 0, []), (253, .iload_n 2, 1, (2, 0, 0), 0, 0, []), (254, .invokevirtual 264, 3, (153, 3, 10), 0, 0, []), (257, .goto (8), 3, (265, 0, 0), 0, 0, [])], 260),
  (260, [true, false, true, false, false, false, false], [(260, .aload_n 0, 1, (0, 0, 0), 0, 0, []), (261, .iload_n 2, 1, (2, 0, 0), 0, 0, []), (262, .invokevirtual 267, 3, (147, 2, 10), 0, 0, [])], 265),
  (265, [false, false, false, false, false, false, false], [(265, .return_, 1, (0, 0, 0), 0, 0, [])], 266)]
def mp_134 : mj_M := (7, [], mb_134)
-- MacroPressModel.makeName()V
def mb_135 : List mj_B := [(0, [true, false, false, false], [(0, .iconst (0), 1, (0, 0, 0), 0, 0, []), (1, .istore_n 1, 1, (1, 0, 0), 0, 0, []), (2, .aload_n 0, 1, (0, 0, 0), 0, 0, []), (3, .invokevirtual 217, 3, (130, 1, 10), 0, 0, []), (6, .istore_n 2, 1, (2, 0, 0), 0, 0, [])], 7),
  (7, [true, true, true, false], [(7, .aload_n 0, 1, (0, 0, 0), 0, 0, []), (8, .getfield 91, 3, (10, 39, 0), 0, 0, []), (11, .ifCond .ne (73), 3, (84, 0, 0), 0, 0, [])], 14),
  (14, [true, true, true, false], [(14, .aload_n 0, 1, (0, 0, 0), 0, 0, []), (15, .iload_n 2, 1, (2, 0, 0), 0, 0, []), (16, .bipush (22), 2, (0, 0, 0), 22, 0, []), (18, .invokevirtual 270, 3, (126, 3, 10), 0, 0, []), (21, .ifCond .ne (63), 3, (84, 0, 0), 0, 0, [])], 24),
  (24, [true, true, true, false], [(24, .iload_n 2, 1, (2, 0, 0), 0, 0, []), (25, .invokestatic 189, 3, (119, 1, 0), 0, 0, []), (28, .ifCond .ne (12), 3, (40, 0, 0), 0, 0, [])], 31),
  (31, [true, true, false, false], [(31, .aload_n 0, 1, (0, 0, 0), 0, 0, []), (32, .bipush (6), 2, (0, 0, 0), 6, 0, []), (34, .invokevirtual 160, 3, (106, 2, 10), 0, 0, []), (37, .goto (39), 3, (76, 0, 0), 0, 0, [])], 40),
  (40, [true, true, true, false], [(40, .iload_n 1, 1, (1, 0, 0), 0, 0, []), (41, .bipush (40), 2, (0, 0, 0), 40, 0, []), (43, .if_icmp .ne (11), 3, (54, 0, 0), 0, 0, [])], 46),
  (46, [true, true, false, false], [(46, .aload_n 0, 1, (0, 0, 0), 0, 0, []), (47, .iconst (2), 1, (0, 0, 0), 2, 0, []), (48, .invokevirtual 160, 3, (106, 2, 10), 0, 0, []), (51, .goto (25), 3, (76, 0, 0), 0, 0, [])], 54),
  (54, [true, true, true, false], [(54, .aload_n 0, 1, (0, 0, 0), 0, 0, []), (55, .getfield 30, 3, (10, 16, 2), 0, 0, []), (58, .bipush (41), 2, (0, 0, 0), 41, 0, []), (60, .aload_n 0, 1, (0, 0, 0), 0, 0, []), (61, .getfield 124, 3, (10, 38, 0), 0, 0, []), (64, .imul, 1, (0, 0, 0), 0, 0, []), (65, .iload_n 1, 1, (1, 0, 0), 0, 0, []), (66, .iadd, 1, (0, 0, 0), 0, 0, []), (67, .iload_n 2, 1, (2, 0, 0), 0, 0, []), (68, .sipush (256), 3, (0, 0, 0), 256, 0, []), (71, .irem, 1, (0, 0, 0), 0, 0, []), (72, .iastore, 1, (0, 0, 0), 0, 0, []), (73, .iinc 1 (1), 3, (1, 0, 0), 1, 0, [])], 76),
  (76, [true, true, false, false], [(76, .aload_n 0, 1, (0, 0, 0), 0, 0, []), (77, .invokevirtual 217, 3, (130, 1, 10), 0, 0, []), (80, .istore_n 2, 1, (2, 0, 0), 0, 0, []), (81, .goto (-74), 3, (7, 0, 0), 0, 0, [])], 84),
  (84, [true, true, false, false], [(84, .aload_n 0, 1, (0, 0, 0), 0, 0, []), (85, .getfield 91, 3, (10, 39, 0), 0, 0, []), (88, .ifCond .le (4), 3, (92, 0, 0), 0, 0, [])], 91),
  (91, [false, false, false, false], [(91, .return_, 1, (0, 0, 0), 0, 0, [])], 92),
  (92, [true, true, false, false], [(92, .aload_n 0, 1, (0, 0, 0), 0, 0, []), (93, .iconst (0), 1, (0, 0, 0), 0, 0, []), (94, .putfield 143, 3, (10, 15, 0), 0, 0, []), (97, .iconst (0), 1, (0, 0, 0), 0, 0, []), (98, .istore_n 3, 1, (3, 0, 0), 0, 0, [])], 99),
  (99, [true, true, false, true], [(99, .iload_n 3, 1, (3, 0, 0), 0, 0, []), (100, .iload_n 1, 1, (1, 0, 0), 0, 0, []), (101, .if_icmp .ge (27), 3, (128, 0, 0), 0, 0, [])], 104),
  (104, [true, true, false, true], [(104, .aload_n 0, 1, (0, 0, 0), 0, 0, []), (105, .aload_n 0, 1, (0, 0, 0), 0, 0, []), (106, .getfield 30, 3, (10, 16, 2), 0, 0, []), (109, .bipush (41), 2, (0, 0, 0), 41, 0, []), (111, .aload_n 0, 1, (0, 0, 0), 0, 0, []), (112, .getfield 124, 3, (10, 38, 0), 0, 0, []), (115, .imul, 1, (0, 0, 0), 0, 0, []), (116, .iload_n 3, 1, (3, 0, 0), 0, 0, []), (117, .iadd, 1, (0, 0, 0), 0, 0, []), (118, .iaload, 1, (0, 0, 0), 0, 0, []), (119, .invokevirtual 168, 3, (111, 2, 10), 0, 0, []), (122, .iinc 3 (1), 3, (3, 0, 0), 1, 0, []), (125, .goto (-26), 3, (99, 0, 0), 0, 0, [])], 128),
  (128, [true, false, false, false], [(128, .aload_n 0, 1, (0, 0, 0), 0, 0, []), (129, .invokevirtual 171, 3, (110, 1, 10), 0, 0, []), (132, .istore_n 3, 1, (3, 0, 0), 0, 0, []), (133, .aload_n 0, 1, (0, 0, 0), 0, 0, []), (134, .getfield 91, 3, (10, 39, 0), 0, 0, []), (137, .ifCond .ne (20), 3, (157, 0, 0), 0, 0, [])], 140),
  (140, [true, false, false, true], [(140, .aload_n 0, 1, (0, 0, 0), 0, 0, []), (141, .iload_n 3, 1, (3, 0, 0), 0, 0, []), (142, .invokevirtual 204, 3, (125, 2, 10), 0, 0, []), (145, .ifCond .ne (12), 3, (157, 0, 0), 0, 0, [])], 148),
  (148, [true, false, false, true], [(148, .aload_n 0, 1, (0, 0, 0), 0, 0, []), (149, .iload_n 3, 1, (3, 0, 0), 0, 0, []), (150, .sipush (1018), 3, (0, 0, 0), 1018, 0, []), (153, .iconst (0), 1, (0, 0, 0), 0, 0, []), (154, .invokevirtual 273, 3, (128, 4, 10), 0, 0, [])], 157),
  (157, [true, false, false, true], [(157, .aload_n 0, 1, (0, 0, 0), 0, 0, []), (158, .iload_n 3, 1, (3, 0, 0), 0, 0, []), (159, .invokevirtual 240, 3, (118, 2, 10), 0, 0, []), (162, .return_, 1, (0, 0, 0), 0, 0, [])], 163)]
def mp_135 : mj_M := (4, [], mb_135)
-- MacroPressModel.putOther(I)V
def mb_136 : List mj_B := [(0, [true, true], [(0, .aload_n 0, 1, (0, 0, 0), 0, 0, []), (1, .iload_n 1, 1, (1, 0, 0), 0, 0, []), (2, .bipush (32), 2, (0, 0, 0), 32, 0, []), (4, .if_icmp .ne (9), 3, (13, 0, 0), 0, 0, [])], 7),
  (7, [false, false], [(7, .sipush (2592), 3, (0, 0, 0), 2592, 0, []), (10, .goto (8), 3, (18, 0, 0), 0, 0, [])], 13),
  (13, [false, true], [(13, .sipush (3072), 3, (0, 0, 0), 3072, 0, []), (16, .iload_n 1, 1, (1, 0, 0), 0, 0, []), (17, .iadd, 1, (0, 0, 0), 0, 0, [])], 18),
  (18, [false, false], [(18, .invokevirtual 240, 3, (118, 2, 10), 0, 0, []), (21, .return_, 1, (0, 0, 0), 0, 0, [])], 22)]
def mp_136 : mj_M := (2, [], mb_136)
-- MacroPressModel.spellOut(I)V
def mb_137 : List mj_B := [(0, [true, true, false, false, false], [(0, .aload_n 0, 1, (0, 0, 0), 0, 0, []), (1, .getfield 91, 3, (10, 39, 0), 0, 0, []), (4, .ifCond .le (4), 3, (8, 0, 0), 0, 0, [])], 7),
  (7, [false, false, false, false, false], [(7, .return_, 1, (0, 0, 0), 0, 0, [])], 8),
  (8, [true, true, false, false, false], [(8, .iload_n 1, 1, (1, 0, 0), 0, 0, []), (9, .invokestatic 194, 3, (123, 1, 0), 0, 0, []), (12, .istore_n 2, 1, (2, 0, 0), 0, 0, []), (13, .iload_n 2, 1, (2, 0, 0), 0, 0, []), (14, .ldc 159, 2, (0, 0, 0), 65536, 0, []), (16, .if_icmp .lt (9), 3, (25, 0, 0), 0, 0, [])], 19),
  (19, [true, false, true, false, false], [(19, .iload_n 2, 1, (2, 0, 0), 0, 0, []), (20, .ldc 182, 2, (0, 0, 0), 131072, 0, []), (22, .if_icmp .lt (13), 3, (35, 0, 0), 0, 0, [])], 25),
  (25, [true, false, true, false, false], [(25, .aload_n 0, 1, (0, 0, 0), 0, 0, []), (26, .iload_n 2, 1, (2, 0, 0), 0, 0, []), (27, .sipush (256), 3, (0, 0, 0), 256, 0, []), (30, .irem, 1, (0, 0, 0), 0, 0, []), (31, .invokevirtual 277, 3, (136, 2, 10), 0, 0, []), (34, .return_, 1, (0, 0, 0), 0, 0, [])], 35),
  (35, [true, false, true, false, false], [(35, .iload_n 2, 1, (2, 0, 0), 0, 0, []), (36, .ldc 159, 2, (0, 0, 0), 65536, 0, []), (38, .isub, 1, (0, 0, 0), 0, 0, []), (39, .istore_n 3, 1, (3, 0, 0), 0, 0, []), (40, .aload_n 0, 1, (0, 0, 0), 0, 0, []), (41, .getfield 24, 3, (10, 13, 2), 0, 0, []), (44, .iload_n 3, 1, (3, 0, 0), 0, 0, []), (45, .iaload, 1, (0, 0, 0), 0, 0, []), (46, .iconst (1), 1, (0, 0, 0), 1, 0, []), (47, .isub, 1, (0, 0, 0), 0, 0, []), (48, .istore 4, 2, (4, 0, 0), 0, 0, [])], 50),
  (50, [true, false, false, true, true], [(50, .iload 4, 2, (4, 0, 0), 0, 0, []), (52, .ifCond .lt (29), 3, (81, 0, 0), 0, 0, [])], 55),
  (55, [true, false, false, true, true], [(55, .aload_n 0, 1, (0, 0, 0), 0, 0, []), (56, .aload_n 0, 1, (0, 0, 0), 0, 0, []), (57, .getfield 21, 3, (10, 12, 2), 0, 0, []), (60, .bipush (40), 2, (0, 0, 0), 40, 0, []), (62, .iload_n 3, 1, (3, 0, 0), 0, 0, []), (63, .imul, 1, (0, 0, 0), 0, 0, []), (64, .iload 4, 2, (4, 0, 0), 0, 0, []), (66, .iadd, 1, (0, 0, 0), 0, 0, []), (67, .baload, 1, (0, 0, 4), 0, 0, []), (68, .sipush (255), 3, (0, 0, 0), 255, 0, []), (71, .iand, 1, (0, 0, 0), 0, 0, []), (72, .invokevirtual 277, 3, (136, 2, 10), 0, 0, []), (75, .iinc 4 (-1), 3, (4, 0, 0), -1, 0, []), (78, .goto (-28), 3, (50, 0, 0), 0, 0, [])], 81),
  (81, [true, false, false, false, false], [(81, .aload_n 0, 1, (0, 0, 0), 0, 0, []), (82, .bipush (92), 2, (0, 0, 0), 92, 0, []), (84, .invokevirtual 277, 3, (136, 2, 10), 0, 0, []), (87, .return_, 1, (0, 0, 0), 0, 0, [])], 88)]
def mp_137 : mj_M := (5, [], mb_137)
-- MacroPressModel.putDigits(I)V
def mb_138 : List mj_B := [(0, [true, true, false, false], [(0, .iload_n 1, 1, (1, 0, 0), 0, 0, []), (1, .ifCond .ge (9), 3, (10, 0, 0), 0, 0, [])], 4),
  (4, [true, true, false, false], [(4, .iload_n 1, 1, (1, 0, 0), 0, 0, []), (5, .i2l, 1, (0, 0, 0), 0, 0, []), (6, .lneg, 1, (0, 0, 0), 0, 0, []), (7, .goto (5), 3, (12, 0, 0), 0, 0, [])], 10),
  (10, [true, true, false, false], [(10, .iload_n 1, 1, (1, 0, 0), 0, 0, []), (11, .i2l, 1, (0, 0, 0), 0, 0, [])], 12),
  (12, [true, true, false, false], [(12, .lstore_n 2, 1, (2, 0, 0), 0, 0, []), (13, .aload_n 0, 1, (0, 0, 0), 0, 0, []), (14, .ldc2_w 280, 3, (0, 0, 0), 0, 48, []), (17, .lload_n 2, 1, (2, 0, 0), 0, 0, []), (18, .ldc2_w 282, 3, (0, 0, 0), 0, 10, []), (21, .lrem, 1, (0, 0, 0), 0, 0, []), (22, .ladd, 1, (0, 0, 0), 0, 0, []), (23, .l2i, 1, (0, 0, 0), 0, 0, []), (24, .invokevirtual 277, 3, (136, 2, 10), 0, 0, []), (27, .lload_n 2, 1, (2, 0, 0), 0, 0, []), (28, .ldc2_w 282, 3, (0, 0, 0), 0, 10, []), (31, .ldiv, 1, (0, 0, 0), 0, 0, []), (32, .lstore_n 2, 1, (2, 0, 0), 0, 0, [])], 33),
  (33, [true, true, true, false], [(33, .lload_n 2, 1, (2, 0, 0), 0, 0, []), (34, .lconst 0, 1, (0, 0, 0), 0, 0, []), (35, .lcmp, 1, (0, 0, 0), 0, 0, []), (36, .ifCond .le (26), 3, (62, 0, 0), 0, 0, [])], 39),
  (39, [true, true, true, false], [(39, .aload_n 0, 1, (0, 0, 0), 0, 0, []), (40, .ldc2_w 280, 3, (0, 0, 0), 0, 48, []), (43, .lload_n 2, 1, (2, 0, 0), 0, 0, []), (44, .ldc2_w 282, 3, (0, 0, 0), 0, 10, []), (47, .lrem, 1, (0, 0, 0), 0, 0, []), (48, .ladd, 1, (0, 0, 0), 0, 0, []), (49, .l2i, 1, (0, 0, 0), 0, 0, []), (50, .invokevirtual 277, 3, (136, 2, 10), 0, 0, []), (53, .lload_n 2, 1, (2, 0, 0), 0, 0, []), (54, .ldc2_w 282, 3, (0, 0, 0), 0, 10, []), (57, .ldiv, 1, (0, 0, 0), 0, 0, []), (58, .lstore_n 2, 1, (2, 0, 0), 0, 0, []), (59, .goto (-26), 3, (33, 0, 0), 0, 0, [])], 62),
  (62, [true, true, false, false], [(62, .iload_n 1, 1, (1, 0, 0), 0, 0, []), (63, .ifCond .ge (9), 3, (72, 0, 0), 0, 0, [])], 66),
  (66, [true, false, false, false], [(66, .aload_n 0, 1, (0, 0, 0), 0, 0, []), (67, .bipush (45), 2, (0, 0, 0), 45, 0, []), (69, .invokevirtual 277, 3, (136, 2, 10), 0, 0, [])], 72),
  (72, [false, false, false, false], [(72, .return_, 1, (0, 0, 0), 0, 0, [])], 73)]
def mp_138 : mj_M := (4, [], mb_138)
-- MacroPressModel.romanDigit(IIII)V
def mb_139 : List mj_B := [(0, [true, true, true, true, true, false], [(0, .iload_n 1, 1, (1, 0, 0), 0, 0, []), (1, .iconst (4), 1, (0, 0, 0), 4, 0, []), (2, .if_icmp .eq (9), 3, (11, 0, 0), 0, 0, [])], 5),
  (5, [true, true, true, true, true, false], [(5, .iload_n 1, 1, (1, 0, 0), 0, 0, []), (6, .bipush (9), 2, (0, 0, 0), 9, 0, []), (8, .if_icmp .ne (24), 3, (32, 0, 0), 0, 0, [])], 11),
  (11, [true, true, true, true, true, false], [(11, .aload_n 0, 1, (0, 0, 0), 0, 0, []), (12, .iload_n 1, 1, (1, 0, 0), 0, 0, []), (13, .iconst (4), 1, (0, 0, 0), 4, 0, []), (14, .if_icmp .ne (7), 3, (21, 0, 0), 0, 0, [])], 17),
  (17, [true, false, true, true, false, false], [(17, .iload_n 3, 1, (3, 0, 0), 0, 0, []), (18, .goto (5), 3, (23, 0, 0), 0, 0, [])], 21),
  (21, [true, false, true, false, true, false], [(21, .iload 4, 2, (4, 0, 0), 0, 0, [])], 23),
  (23, [true, false, true, false, false, false], [(23, .invokevirtual 277, 3, (136, 2, 10), 0, 0, []), (26, .aload_n 0, 1, (0, 0, 0), 0, 0, []), (27, .iload_n 2, 1, (2, 0, 0), 0, 0, []), (28, .invokevirtual 277, 3, (136, 2, 10), 0, 0, []), (31, .return_, 1, (0, 0, 0), 0, 0, [])], 32),
  (32, [true, true, true, true, false, false], [(32, .iconst (0), 1, (0, 0, 0), 0, 0, []), (33, .istore 5, 2, (5, 0, 0), 0, 0, [])], 35),
  (35, [true, true, true, true, false, true], [(35, .iload 5, 2, (5, 0, 0), 0, 0, []), (37, .iload_n 1, 1, (1, 0, 0), 0, 0, []), (38, .iconst (5), 1, (0, 0, 0), 5, 0, []), (39, .irem, 1, (0, 0, 0), 0, 0, []), (40, .if_icmp .ge (14), 3, (54, 0, 0), 0, 0, [])], 43),
  (43, [true, true, true, true, false, true], [(43, .aload_n 0, 1, (0, 0, 0), 0, 0, []), (44, .iload_n 2, 1, (2, 0, 0), 0, 0, []), (45, .invokevirtual 277, 3, (136, 2, 10), 0, 0, []), (48, .iinc 5 (1), 3, (5, 0, 0), 1, 0, []), (51, .goto (-16), 3, (35, 0, 0), 0, 0, [])], 54),
  (54, [true, true, false, true, false, false], [(54, .iload_n 1, 1, (1, 0, 0), 0, 0, []), (55, .iconst (4), 1, (0, 0, 0), 4, 0, []), (56, .if_icmp .le (8), 3, (64, 0, 0), 0, 0, [])], 59),
  (59, [true, false, false, true, false, false], [(59, .aload_n 0, 1, (0, 0, 0), 0, 0, []), (60, .iload_n 3, 1, (3, 0, 0), 0, 0, []), (61, .invokevirtual 277, 3, (136, 2, 10), 0, 0, [])], 64),
  (64, [false, false, false, false, false, false], [(64, .return_, 1, (0, 0, 0), 0, 0, [])], 65)]
def mp_139 : mj_M := (6, [], mb_139)
-- MacroPressModel.roman(I)V
def mb_140 : List mj_B := [(0, [true, true, false], [(0, .aload_n 0, 1, (0, 0, 0), 0, 0, []), (1, .getfield 91, 3, (10, 39, 0), 0, 0, []), (4, .ifCond .gt (7), 3, (11, 0, 0), 0, 0, [])], 7),
  (7, [true, true, false], [(7, .iload_n 1, 1, (1, 0, 0), 0, 0, []), (8, .ifCond .gt (4), 3, (12, 0, 0), 0, 0, [])], 11),
  (11, [false, false, false], [(11, .return_, 1, (0, 0, 0), 0, 0, [])], 12),
  (12, [true, true, false], [(12, .iload_n 1, 1, (1, 0, 0), 0, 0, []), (13, .sipush (9999), 3, (0, 0, 0), 9999, 0, []), (16, .if_icmp .le (10), 3, (26, 0, 0), 0, 0, [])], 19),
  (19, [true, false, false], [(19, .aload_n 0, 1, (0, 0, 0), 0, 0, []), (20, .bipush (7), 2, (0, 0, 0), 7, 0, []), (22, .invokevirtual 160, 3, (106, 2, 10), 0, 0, []), (25, .return_, 1, (0, 0, 0), 0, 0, [])], 26),
  (26, [true, true, false], [(26, .aload_n 0, 1, (0, 0, 0), 0, 0, []), (27, .iload_n 1, 1, (1, 0, 0), 0, 0, []), (28, .bipush (10), 2, (0, 0, 0), 10, 0, []), (30, .irem, 1, (0, 0, 0), 0, 0, []), (31, .bipush (105), 2, (0, 0, 0), 105, 0, []), (33, .bipush (118), 2, (0, 0, 0), 118, 0, []), (35, .bipush (120), 2, (0, 0, 0), 120, 0, []), (37, .invokevirtual 284, 3, (139, 5, 10), 0, 0, []), (40, .aload_n 0, 1, (0, 0, 0), 0, 0, []), (41, .iload_n 1, 1, (1, 0, 0), 0, 0, []), (42, .bipush (10), 2, (0, 0, 0), 10, 0, []), (44, .idiv, 1, (0, 0, 0), 0, 0, []), (45, .bipush (10), 2, (0, 0, 0), 10, 0, []), (47, .irem, 1, (0, 0, 0), 0, 0, []), (48, .bipush (120), 2, (0, 0, 0), 120, 0, []), (50, .bipush (108), 2, (0, 0, 0), 108, 0, []), (52, .bipush (99), 2, (0, 0, 0), 99, 0, []), (54, .invokevirtual 284, 3, (139, 5, 10), 0, 0, []), (57, .aload_n 0, 1, (0, 0, 0), 0, 0, []), (58, .iload_n 1, 1, (1, 0, 0), 0, 0, []), (59, .bipush (100), 2, (0, 0, 0), 100, 0, []), (61, .idiv, 1, (0, 0, 0), 0, 0, []), (62, .bipush (10), 2, (0, 0, 0), 10, 0, []), (64, .irem, 1, (0, 0, 0), 0, 0, []), (65, .bipush (99), 2, (0, 0, 0), 99, 0, []), (67, .bipush (100), 2, (0, 0, 0), 100, 0, []), (69, .bipush (109), 2, (0, 0, 0), 109, 0, []), (71, .invokevirtual 284, 3, (139, 5, 10), 0, 0, []), (74, .iconst (0), 1, (0, 0, 0), 0, 0, []), (75, .istore_n 2, 1, (2, 0, 0), 0, 0, [])], 76),
  (76, [true, true, true], [(76, .iload_n 2, 1, (2, 0, 0), 0, 0, []), (77, .iload_n 1, 1, (1, 0, 0), 0, 0, []), (78, .sipush (1000), 3, (0, 0, 0), 1000, 0, []), (81, .idiv, 1, (0, 0, 0), 0, 0, []), (82, .if_icmp .ge (15), 3, (97, 0, 0), 0, 0, [])], 85),
  (85, [true, true, true], [(85, .aload_n 0, 1, (0, 0, 0), 0, 0, []), (86, .bipush (109), 2, (0, 0, 0), 109, 0, []), (88, .invokevirtual 277, 3, (136, 2, 10), 0, 0, []), (91, .iinc 2 (1), 3, (2, 0, 0), 1, 0, []), (94, .goto (-18), 3, (76, 0, 0), 0, 0, [])], 97),
  (97, [false, false, false], [(97, .return_, 1, (0, 0, 0), 0, 0, [])], 98)]
def mp_140 : mj_M := (3, [], mb_140)
-- MacroPressModel.isSame(II)Z
def mb_141 : List mj_B := [(0, [false, true, true], [(0, .iload_n 1, 1, (1, 0, 0), 0, 0, []), (1, .invokestatic 194, 3, (123, 1, 0), 0, 0, []), (4, .iload_n 2, 1, (2, 0, 0), 0, 0, []), (5, .invokestatic 194, 3, (123, 1, 0), 0, 0, []), (8, .if_icmp .ne (7), 3, (15, 0, 0), 0, 0, [])], 11),
  (11, [false, false, false], [(11, .iconst (1), 1, (0, 0, 0), 1, 0, []), (12, .goto (4), 3, (16, 0, 0), 0, 0, [])], 15),
  (15, [false, false, false], [(15, .iconst (0), 1, (0, 0, 0), 0, 0, [])], 16),
  (16, [false, false, false], [(16, .ireturn, 1, (0, 0, 1), 0, 0, [])], 17)]
def mp_141 : mj_M := (3, [], mb_141)
-- MacroPressModel.call(I)V
def mb_142 : List mj_B := [(0, [true, true, false, false, false, false], [(0, .aload_n 0, 1, (0, 0, 0), 0, 0, []), (1, .getfield 50, 3, (10, 24, 2), 0, 0, []), (4, .iload_n 1, 1, (1, 0, 0), 0, 0, []), (5, .iaload, 1, (0, 0, 0), 0, 0, []), (6, .istore_n 2, 1, (2, 0, 0), 0, 0, [])], 7),
  (7, [true, true, true, false, false, false], [(7, .aload_n 0, 1, (0, 0, 0), 0, 0, []), (8, .getfield 91, 3, (10, 39, 0), 0, 0, []), (11, .ifCond .ne (62), 3, (73, 0, 0), 0, 0, [])], 14),
  (14, [true, true, true, false, false, false], [(14, .iload_n 2, 1, (2, 0, 0), 0, 0, []), (15, .aload_n 0, 1, (0, 0, 0), 0, 0, []), (16, .getfield 53, 3, (10, 25, 2), 0, 0, []), (19, .iload_n 1, 1, (1, 0, 0), 0, 0, []), (20, .iaload, 1, (0, 0, 0), 0, 0, []), (21, .if_icmp .ge (52), 3, (73, 0, 0), 0, 0, [])], 24),
  (24, [true, true, true, false, false, false], [(24, .aload_n 0, 1, (0, 0, 0), 0, 0, []), (25, .getfield 59, 3, (10, 28, 2), 0, 0, []), (28, .iload_n 2, 1, (2, 0, 0), 0, 0, []), (29, .iaload, 1, (0, 0, 0), 0, 0, []), (30, .ldc_w 288, 3, (0, 0, 0), 262144, 0, []), (33, .if_icmp .ge (40), 3, (73, 0, 0), 0, 0, [])], 36),
  (36, [true, true, true, false, false, false], [(36, .aload_n 0, 1, (0, 0, 0), 0, 0, []), (37, .invokevirtual 237, 3, (117, 1, 10), 0, 0, []), (40, .istore_n 3, 1, (3, 0, 0), 0, 0, []), (41, .aload_n 0, 1, (0, 0, 0), 0, 0, []), (42, .getfield 91, 3, (10, 39, 0), 0, 0, []), (45, .ifCond .ne (22), 3, (67, 0, 0), 0, 0, [])], 48),
  (48, [true, true, true, true, false, false], [(48, .aload_n 0, 1, (0, 0, 0), 0, 0, []), (49, .iload_n 3, 1, (3, 0, 0), 0, 0, []), (50, .aload_n 0, 1, (0, 0, 0), 0, 0, []), (51, .getfield 59, 3, (10, 28, 2), 0, 0, []), (54, .iload_n 2, 1, (2, 0, 0), 0, 0, []), (55, .iaload, 1, (0, 0, 0), 0, 0, []), (56, .invokevirtual 289, 3, (141, 3, 10), 0, 0, []), (59, .ifCond .ne (8), 3, (67, 0, 0), 0, 0, [])], 62),
  (62, [true, true, true, false, false, false], [(62, .aload_n 0, 1, (0, 0, 0), 0, 0, []), (63, .iconst (4), 1, (0, 0, 0), 4, 0, []), (64, .invokevirtual 160, 3, (106, 2, 10), 0, 0, [])], 67),
  (67, [true, true, true, false, false, false], [(67, .iinc 2 (1), 3, (2, 0, 0), 1, 0, []), (70, .goto (-63), 3, (7, 0, 0), 0, 0, [])], 73),
  (73, [true, true, true, false, false, false], [(73, .iconst (0), 1, (0, 0, 0), 0, 0, []), (74, .istore_n 3, 1, (3, 0, 0), 0, 0, [])], 75),
  (75, [true, true, true, true, false, false], [(75, .iload_n 3, 1, (3, 0, 0), 0, 0, []), (76, .aload_n 0, 1, (0, 0, 0), 0, 0, []), (77, .getfield 47, 3, (10, 23, 2), 0, 0, []), (80, .iload_n 1, 1, (1, 0, 0), 0, 0, []), (81, .iaload, 1, (0, 0, 0), 0, 0, []), (82, .if_icmp .ge (82), 3, (164, 0, 0), 0, 0, [])], 85),
  (85, [true, true, true, true, false, false], [(85, .aload_n 0, 1, (0, 0, 0), 0, 0, []), (86, .getfield 91, 3, (10, 39, 0), 0, 0, []), (89, .ifCond .ne (75), 3, (164, 0, 0), 0, 0, [])], 92),
  (92, [true, true, true, true, false, false], [(92, .iload_n 2, 1, (2, 0, 0), 0, 0, []), (93, .iconst (1), 1, (0, 0, 0), 1, 0, []), (94, .iadd, 1, (0, 0, 0), 0, 0, []), (95, .istore 4, 2, (4, 0, 0), 0, 0, []), (97, .iload 4, 2, (4, 0, 0), 0, 0, []), (99, .istore 5, 2, (5, 0, 0), 0, 0, [])], 101),
  (101, [true, true, false, true, true, true], [(101, .iload 5, 2, (5, 0, 0), 0, 0, []), (103, .aload_n 0, 1, (0, 0, 0), 0, 0, []), (104, .getfield 53, 3, (10, 25, 2), 0, 0, []), (107, .iload_n 1, 1, (1, 0, 0), 0, 0, []), (108, .iaload, 1, (0, 0, 0), 0, 0, []), (109, .if_icmp .ge (22), 3, (131, 0, 0), 0, 0, [])], 112),
  (112, [true, true, false, true, true, true], [(112, .aload_n 0, 1, (0, 0, 0), 0, 0, []), (113, .getfield 59, 3, (10, 28, 2), 0, 0, []), (116, .iload 5, 2, (5, 0, 0), 0, 0, []), (118, .iaload, 1, (0, 0, 0), 0, 0, []), (119, .ldc_w 288, 3, (0, 0, 0), 262144, 0, []), (122, .if_icmp .ge (9), 3, (131, 0, 0), 0, 0, [])], 125),
  (125, [true, true, false, true, true, true], [(125, .iinc 5 (1), 3, (5, 0, 0), 1, 0, []), (128, .goto (-27), 3, (101, 0, 0), 0, 0, [])], 131),
  (131, [true, true, false, true, true, true], [(131, .iload 4, 2, (4, 0, 0), 0, 0, []), (133, .iload 5, 2, (5, 0, 0), 0, 0, []), (135, .if_icmp .ne (11), 3, (146, 0, 0), 0, 0, [])], 138),
  (138, [true, true, false, true, false, true], [(138, .aload_n 0, 1, (0, 0, 0), 0, 0, []), (139, .iload_n 3, 1, (3, 0, 0), 0, 0, []), (140, .invokevirtual 292, 3, (144, 2, 10), 0, 0, []), (143, .goto (12), 3, (155, 0, 0), 0, 0, [])], 146),
  (146, [true, true, false, true, true, true], [(146, .aload_n 0, 1, (0, 0, 0), 0, 0, []), (147, .iload_n 3, 1, (3, 0, 0), 0, 0, []), (148, .iload 4, 2, (4, 0, 0), 0, 0, []), (150, .iload 5, 2, (5, 0, 0), 0, 0, []), (152, .invokevirtual 295, 3, (145, 4, 10), 0, 0, [])], 155),
  (155, [true, true, false, true, false, true], [(155, .iload 5, 2, (5, 0, 0), 0, 0, []), (157, .istore_n 2, 1, (2, 0, 0), 0, 0, []), (158, .iinc 3 (1), 3, (3, 0, 0), 1, 0, []), (161, .goto (-86), 3, (75, 0, 0), 0, 0, [])], 164),
  (164, [true, true, false, false, false, false], [(164, .aload_n 0, 1, (0, 0, 0), 0, 0, []), (165, .getfield 56, 3, (10, 26, 2), 0, 0, []), (168, .iload_n 1, 1, (1, 0, 0), 0, 0, []), (169, .iaload, 1, (0, 0, 0), 0, 0, []), (170, .iconst (1), 1, (0, 0, 0), 1, 0, []), (171, .isub, 1, (0, 0, 0), 0, 0, []), (172, .istore_n 3, 1, (3, 0, 0), 0, 0, [])], 173),
  (173, [true, true, false, true, false, false], [(173, .iload_n 3, 1, (3, 0, 0), 0, 0, []), (174, .aload_n 0, 1, (0, 0, 0), 0, 0, []), (175, .getfield 53, 3, (10, 25, 2), 0, 0, []), (178, .iload_n 1, 1, (1, 0, 0), 0, 0, []), (179, .iaload, 1, (0, 0, 0), 0, 0, []), (180, .if_icmp .lt (102), 3, (282, 0, 0), 0, 0, [])], 183),
  (183, [true, true, false, true, false, false], [(183, .aload_n 0, 1, (0, 0, 0), 0, 0, []), (184, .getfield 91, 3, (10, 39, 0), 0, 0, []), (187, .ifCond .ne (95), 3, (282, 0, 0), 0, 0, [])], 190),
  (190, [true, true, false, true, false, false], [(190, .aload_n 0, 1, (0, 0, 0), 0, 0, []), (191, .getfield 59, 3, (10, 28, 2), 0, 0, []), (194, .iload_n 3, 1, (3, 0, 0), 0, 0, []), (195, .iaload, 1, (0, 0, 0), 0, 0, []), (196, .ldc_w 288, 3, (0, 0, 0), 262144, 0, []), (199, .if_icmp .ge (16), 3, (215, 0, 0), 0, 0, [])], 202),
  (202, [true, true, false, true, false, false], [(202, .aload_n 0, 1, (0, 0, 0), 0, 0, []), (203, .aload_n 0, 1, (0, 0, 0), 0, 0, []), (204, .getfield 59, 3, (10, 28, 2), 0, 0, []), (207, .iload_n 3, 1, (3, 0, 0), 0, 0, []), (208, .iaload, 1, (0, 0, 0), 0, 0, []), (209, .invokevirtual 299, 3, (143, 2, 10), 0, 0, []), (212, .goto (64), 3, (276, 0, 0), 0, 0, [])], 215),
  (215, [true, true, false, true, false, false], [(215, .aload_n 0, 1, (0, 0, 0), 0, 0, []), (216, .getfield 59, 3, (10, 28, 2), 0, 0, []), (219, .iload_n 3, 1, (3, 0, 0), 0, 0, []), (220, .iaload, 1, (0, 0, 0), 0, 0, []), (221, .ldc_w 288, 3, (0, 0, 0), 262144, 0, []), (224, .isub, 1, (0, 0, 0), 0, 0, []), (225, .iconst (1), 1, (0, 0, 0), 1, 0, []), (226, .isub, 1, (0, 0, 0), 0, 0, []), (227, .istore 4, 2, (4, 0, 0), 0, 0, []), (229, .aload_n 0, 1, (0, 0, 0), 0, 0, []), (230, .getfield 69, 3, (10, 32, 2), 0, 0, []), (233, .iload 4, 2, (4, 0, 0), 0, 0, []), (235, .iaload, 1, (0, 0, 0), 0, 0, []), (236, .iconst (1), 1, (0, 0, 0), 1, 0, []), (237, .isub, 1, (0, 0, 0), 0, 0, []), (238, .istore 5, 2, (5, 0, 0), 0, 0, [])], 240),
  (240, [true, true, false, true, true, true], [(240, .iload 5, 2, (5, 0, 0), 0, 0, []), (242, .ifCond .lt (34), 3, (276, 0, 0), 0, 0, [])], 245),
  (245, [true, true, false, true, true, true], [(245, .aload_n 0, 1, (0, 0, 0), 0, 0, []), (246, .getfield 91, 3, (10, 39, 0), 0, 0, []), (249, .ifCond .ne (27), 3, (276, 0, 0), 0, 0, [])], 252),
  (252, [true, true, false, true, true, true], [(252, .aload_n 0, 1, (0, 0, 0), 0, 0, []), (253, .aload_n 0, 1, (0, 0, 0), 0, 0, []), (254, .getfield 66, 3, (10, 31, 2), 0, 0, []), (257, .sipush (11000), 3, (0, 0, 0), 11000, 0, []), (260, .iload 4, 2, (4, 0, 0), 0, 0, []), (262, .imul, 1, (0, 0, 0), 0, 0, []), (263, .iload 5, 2, (5, 0, 0), 0, 0, []), (265, .iadd, 1, (0, 0, 0), 0, 0, []), (266, .iaload, 1, (0, 0, 0), 0, 0, []), (267, .invokevirtual 299, 3, (143, 2, 10), 0, 0, []), (270, .iinc 5 (-1), 3, (5, 0, 0), -1, 0, []), (273, .goto (-33), 3, (240, 0, 0), 0, 0, [])], 276),
  (276, [true, true, false, true, false, false], [(276, .iinc 3 (-1), 3, (3, 0, 0), -1, 0, []), (279, .goto (-106), 3, (173, 0, 0), 0, 0, [])], 282),
  (282, [false, false, false, false, false, false], [(282, .return_, 1, (0, 0, 0), 0, 0, [])], 283)]
def mp_142 : mj_M := (6, [], mb_142)
-- MacroPressModel.putOfBody(I)V
def mb_143 : List mj_B := [(0, [true, true], [(0, .aload_n 0, 1, (0, 0, 0), 0, 0, []), (1, .getfield 118, 3, (10, 29, 0), 0, 0, []), (4, .sipush (10000), 3, (0, 0, 0), 10000, 0, []), (7, .if_icmp .le (8), 3, (15, 0, 0), 0, 0, [])], 10),
  (10, [true, true], [(10, .aload_n 0, 1, (0, 0, 0), 0, 0, []), (11, .iconst (2), 1, (0, 0, 0), 2, 0, []), (12, .invokevirtual 160, 3, (106, 2, 10), 0, 0, [])], 15),
  (15, [true, true], [(15, .aload_n 0, 1, (0, 0, 0), 0, 0, []), (16, .iload_n 1, 1, (1, 0, 0), 0, 0, []), (17, .invokevirtual 240, 3, (118, 2, 10), 0, 0, []), (20, .return_, 1, (0, 0, 0), 0, 0, [])], 21)]
def mp_143 : mj_M := (2, [], mb_143)
-- MacroPressModel.takeOne(I)V
def mb_144 : List mj_B := [(0, [true, true, false, false, false, false], [(0, .aload_n 0, 1, (0, 0, 0), 0, 0, []), (1, .invokevirtual 237, 3, (117, 1, 10), 0, 0, []), (4, .istore_n 2, 1, (2, 0, 0), 0, 0, [])], 5),
  (5, [true, true, true, false, false, false], [(5, .iload_n 2, 1, (2, 0, 0), 0, 0, []), (6, .bipush (10), 2, (0, 0, 0), 10, 0, []), (8, .invokestatic 220, 3, (121, 2, 0), 0, 0, []), (11, .ifCond .eq (11), 3, (22, 0, 0), 0, 0, [])], 14),
  (14, [true, true, false, false, false, false], [(14, .aload_n 0, 1, (0, 0, 0), 0, 0, []), (15, .invokevirtual 237, 3, (117, 1, 10), 0, 0, []), (18, .istore_n 2, 1, (2, 0, 0), 0, 0, []), (19, .goto (-14), 3, (5, 0, 0), 0, 0, [])], 22),
  (22, [true, true, true, false, false, false], [(22, .aload_n 0, 1, (0, 0, 0), 0, 0, []), (23, .getfield 69, 3, (10, 32, 2), 0, 0, []), (26, .iload_n 1, 1, (1, 0, 0), 0, 0, []), (27, .iconst (0), 1, (0, 0, 0), 0, 0, []), (28, .iastore, 1, (0, 0, 0), 0, 0, []), (29, .aload_n 0, 1, (0, 0, 0), 0, 0, []), (30, .getfield 91, 3, (10, 39, 0), 0, 0, []), (33, .ifCond .le (4), 3, (37, 0, 0), 0, 0, [])], 36),
  (36, [false, false, false, false, false, false], [(36, .return_, 1, (0, 0, 0), 0, 0, [])], 37),
  (37, [true, true, true, false, false, false], [(37, .iload_n 2, 1, (2, 0, 0), 0, 0, []), (38, .iconst (2), 1, (0, 0, 0), 2, 0, []), (39, .invokestatic 220, 3, (121, 2, 0), 0, 0, []), (42, .ifCond .eq (9), 3, (51, 0, 0), 0, 0, [])], 45),
  (45, [true, false, false, false, false, false], [(45, .aload_n 0, 1, (0, 0, 0), 0, 0, []), (46, .iconst (5), 1, (0, 0, 0), 5, 0, []), (47, .invokevirtual 160, 3, (106, 2, 10), 0, 0, []), (50, .return_, 1, (0, 0, 0), 0, 0, [])], 51),
  (51, [true, true, true, false, false, false], [(51, .iload_n 2, 1, (2, 0, 0), 0, 0, []), (52, .iconst (1), 1, (0, 0, 0), 1, 0, []), (53, .invokestatic 220, 3, (121, 2, 0), 0, 0, []), (56, .ifCond .ne (22), 3, (78, 0, 0), 0, 0, [])], 59),
  (59, [true, true, true, false, false, false], [(59, .aload_n 0, 1, (0, 0, 0), 0, 0, []), (60, .getfield 66, 3, (10, 31, 2), 0, 0, []), (63, .sipush (11000), 3, (0, 0, 0), 11000, 0, []), (66, .iload_n 1, 1, (1, 0, 0), 0, 0, []), (67, .imul, 1, (0, 0, 0), 0, 0, []), (68, .iload_n 2, 1, (2, 0, 0), 0, 0, []), (69, .iastore, 1, (0, 0, 0), 0, 0, []), (70, .aload_n 0, 1, (0, 0, 0), 0, 0, []), (71, .getfield 69, 3, (10, 32, 2), 0, 0, []), (74, .iload_n 1, 1, (1, 0, 0), 0, 0, []), (75, .iconst (1), 1, (0, 0, 0), 1, 0, []), (76, .iastore, 1, (0, 0, 0), 0, 0, []), (77, .return_, 1, (0, 0, 0), 0, 0, [])], 78),
  (78, [true, true, false, false, false, false], [(78, .iconst (1), 1, (0, 0, 0), 1, 0, []), (79, .istore_n 3, 1, (3, 0, 0), 0, 0, []), (80, .iconst (1), 1, (0, 0, 0), 1, 0, []), (81, .istore 4, 2, (4, 0, 0), 0, 0, []), (83, .iconst (0), 1, (0, 0, 0), 0, 0, []), (84, .istore 5, 2, (5, 0, 0), 0, 0, [])], 86),
  (86, [true, true, false, true, true, true], [(86, .iload 4, 2, (4, 0, 0), 0, 0, []), (88, .ifCond .le (97), 3, (185, 0, 0), 0, 0, [])], 91),
  (91, [true, true, false, true, true, true], [(91, .aload_n 0, 1, (0, 0, 0), 0, 0, []), (92, .invokevirtual 237, 3, (117, 1, 10), 0, 0, []), (95, .istore_n 2, 1, (2, 0, 0), 0, 0, []), (96, .iinc 3 (1), 3, (3, 0, 0), 1, 0, []), (99, .aload_n 0, 1, (0, 0, 0), 0, 0, []), (100, .getfield 91, 3, (10, 39, 0), 0, 0, []), (103, .ifCond .ne (15), 3, (118, 0, 0), 0, 0, [])], 106),
  (106, [true, true, true, true, true, true], [(106, .iload_n 3, 1, (3, 0, 0), 0, 0, []), (107, .sipush (10000), 3, (0, 0, 0), 10000, 0, []), (110, .if_icmp .le (8), 3, (118, 0, 0), 0, 0, [])], 113),
  (113, [true, true, true, true, true, true], [(113, .aload_n 0, 1, (0, 0, 0), 0, 0, []), (114, .iconst (2), 1, (0, 0, 0), 2, 0, []), (115, .invokevirtual 160, 3, (106, 2, 10), 0, 0, [])], 118),
  (118, [true, true, true, true, true, true], [(118, .aload_n 0, 1, (0, 0, 0), 0, 0, []), (119, .getfield 91, 3, (10, 39, 0), 0, 0, []), (122, .ifCond .le (4), 3, (126, 0, 0), 0, 0, [])], 125),
  (125, [false, false, false, false, false, false], [(125, .return_, 1, (0, 0, 0), 0, 0, [])], 126),
  (126, [true, true, true, true, true, true], [(126, .iload_n 2, 1, (2, 0, 0), 0, 0, []), (127, .iconst (1), 1, (0, 0, 0), 1, 0, []), (128, .invokestatic 220, 3, (121, 2, 0), 0, 0, []), (131, .ifCond .eq (10), 3, (141, 0, 0), 0, 0, [])], 134),
  (134, [true, true, true, true, true, true], [(134, .iload 4, 2, (4, 0, 0), 0, 0, []), (136, .iconst (1), 1, (0, 0, 0), 1, 0, []), (137, .iadd, 1, (0, 0, 0), 0, 0, []), (138, .goto (20), 3, (158, 0, 0), 0, 0, [])], 141),
  (141, [true, true, true, true, true, true], [(141, .iload_n 2, 1, (2, 0, 0), 0, 0, []), (142, .iconst (2), 1, (0, 0, 0), 2, 0, []), (143, .invokestatic 220, 3, (121, 2, 0), 0, 0, []), (146, .ifCond .eq (10), 3, (156, 0, 0), 0, 0, [])], 149),
  (149, [true, true, true, true, true, true], [(149, .iload 4, 2, (4, 0, 0), 0, 0, []), (151, .iconst (1), 1, (0, 0, 0), 1, 0, []), (152, .isub, 1, (0, 0, 0), 0, 0, []), (153, .goto (5), 3, (158, 0, 0), 0, 0, [])], 156),
  (156, [true, true, true, true, true, true], [(156, .iload 4, 2, (4, 0, 0), 0, 0, [])], 158),
  (158, [true, true, true, true, false, true], [(158, .istore 4, 2, (4, 0, 0), 0, 0, []), (160, .iload 4, 2, (4, 0, 0), 0, 0, []), (162, .ifCond .le (-76), 3, (86, 0, 0), 0, 0, [])], 165),
  (165, [true, true, true, true, true, true], [(165, .aload_n 0, 1, (0, 0, 0), 0, 0, []), (166, .getfield 66, 3, (10, 31, 2), 0, 0, []), (169, .sipush (11000), 3, (0, 0, 0), 11000, 0, []), (172, .iload_n 1, 1, (1, 0, 0), 0, 0, []), (173, .imul, 1, (0, 0, 0), 0, 0, []), (174, .iload 5, 2, (5, 0, 0), 0, 0, []), (176, .iadd, 1, (0, 0, 0), 0, 0, []), (177, .iload_n 2, 1, (2, 0, 0), 0, 0, []), (178, .iastore, 1, (0, 0, 0), 0, 0, []), (179, .iinc 5 (1), 3, (5, 0, 0), 1, 0, []), (182, .goto (-96), 3, (86, 0, 0), 0, 0, [])], 185),
  (185, [true, true, false, false, false, true], [(185, .aload_n 0, 1, (0, 0, 0), 0, 0, []), (186, .getfield 69, 3, (10, 32, 2), 0, 0, []), (189, .iload_n 1, 1, (1, 0, 0), 0, 0, []), (190, .iload 5, 2, (5, 0, 0), 0, 0, []), (192, .iastore, 1, (0, 0, 0), 0, 0, []), (193, .return_, 1, (0, 0, 0), 0, 0, [])], 194)]
def mp_144 : mj_M := (6, [], mb_144)
-- MacroPressModel.takeUpTo(III)V
def mb_145 : List mj_B := [(0, [true, true, true, true, false, false, false, false, false, false], [(0, .iload_n 3, 1, (3, 0, 0), 0, 0, []), (1, .iload_n 2, 1, (2, 0, 0), 0, 0, []), (2, .isub, 1, (0, 0, 0), 0, 0, []), (3, .istore 4, 2, (4, 0, 0), 0, 0, []), (5, .iconst (0), 1, (0, 0, 0), 0, 0, []), (6, .istore 5, 2, (5, 0, 0), 0, 0, []), (8, .iconst (0), 1, (0, 0, 0), 0, 0, []), (9, .istore 6, 2, (6, 0, 0), 0, 0, []), (11, .iconst (0), 1, (0, 0, 0), 0, 0, []), (12, .istore 7, 2, (7, 0, 0), 0, 0, [])], 14),
  (14, [true, true, true, false, true, true, true, true, false, false], [(14, .iload 7, 2, (7, 0, 0), 0, 0, []), (16, .ifCond .ne (194), 3, (210, 0, 0), 0, 0, [])], 19),
  (19, [true, true, true, false, true, true, true, false, false, false], [(19, .aload_n 0, 1, (0, 0, 0), 0, 0, []), (20, .invokevirtual 237, 3, (117, 1, 10), 0, 0, []), (23, .istore 8, 2, (8, 0, 0), 0, 0, []), (25, .aload_n 0, 1, (0, 0, 0), 0, 0, []), (26, .getfield 91, 3, (10, 39, 0), 0, 0, []), (29, .ifCond .ne (16), 3, (45, 0, 0), 0, 0, [])], 32),
  (32, [true, true, true, false, true, true, true, false, true, false], [(32, .iload 5, 2, (5, 0, 0), 0, 0, []), (34, .sipush (10000), 3, (0, 0, 0), 10000, 0, []), (37, .if_icmp .ne (8), 3, (45, 0, 0), 0, 0, [])], 40),
  (40, [true, true, true, false, true, true, true, false, true, false], [(40, .aload_n 0, 1, (0, 0, 0), 0, 0, []), (41, .iconst (2), 1, (0, 0, 0), 2, 0, []), (42, .invokevirtual 160, 3, (106, 2, 10), 0, 0, [])], 45),
  (45, [true, true, true, false, true, true, true, false, true, false], [(45, .aload_n 0, 1, (0, 0, 0), 0, 0, []), (46, .getfield 91, 3, (10, 39, 0), 0, 0, []), (49, .ifCond .ne (22), 3, (71, 0, 0), 0, 0, [])], 52),
  (52, [true, true, true, false, true, true, true, false, true, false], [(52, .iload 8, 2, (8, 0, 0), 0, 0, []), (54, .iconst (2), 1, (0, 0, 0), 2, 0, []), (55, .invokestatic 220, 3, (121, 2, 0), 0, 0, []), (58, .ifCond .eq (13), 3, (71, 0, 0), 0, 0, [])], 61),
  (61, [true, true, true, false, true, true, true, false, true, false], [(61, .iload 6, 2, (6, 0, 0), 0, 0, []), (63, .ifCond .ne (8), 3, (71, 0, 0), 0, 0, [])], 66),
  (66, [true, true, true, false, true, true, true, false, true, false], [(66, .aload_n 0, 1, (0, 0, 0), 0, 0, []), (67, .iconst (5), 1, (0, 0, 0), 5, 0, []), (68, .invokevirtual 160, 3, (106, 2, 10), 0, 0, [])], 71),
  (71, [true, true, true, false, true, true, true, false, true, false], [(71, .aload_n 0, 1, (0, 0, 0), 0, 0, []), (72, .getfield 91, 3, (10, 39, 0), 0, 0, []), (75, .ifCond .le (4), 3, (79, 0, 0), 0, 0, [])], 78),
  (78, [false, false, false, false, false, false, false, false, false, false], [(78, .return_, 1, (0, 0, 0), 0, 0, [])], 79),
  (79, [true, true, true, false, true, true, true, false, true, false], [(79, .iload 8, 2, (8, 0, 0), 0, 0, []), (81, .iconst (1), 1, (0, 0, 0), 1, 0, []), (82, .invokestatic 220, 3, (121, 2, 0), 0, 0, []), (85, .ifCond .eq (10), 3, (95, 0, 0), 0, 0, [])], 88),
  (88, [true, true, true, false, true, true, true, false, true, false], [(88, .iload 6, 2, (6, 0, 0), 0, 0, []), (90, .iconst (1), 1, (0, 0, 0), 1, 0, []), (91, .iadd, 1, (0, 0, 0), 0, 0, []), (92, .goto (21), 3, (113, 0, 0), 0, 0, [])], 95),
  (95, [true, true, true, false, true, true, true, false, true, false], [(95, .iload 8, 2, (8, 0, 0), 0, 0, []), (97, .iconst (2), 1, (0, 0, 0), 2, 0, []), (98, .invokestatic 220, 3, (121, 2, 0), 0, 0, []), (101, .ifCond .eq (10), 3, (111, 0, 0), 0, 0, [])], 104),
  (104, [true, true, true, false, true, true, true, false, true, false], [(104, .iload 6, 2, (6, 0, 0), 0, 0, []), (106, .iconst (1), 1, (0, 0, 0), 1, 0, []), (107, .isub, 1, (0, 0, 0), 0, 0, []), (108, .goto (5), 3, (113, 0, 0), 0, 0, [])], 111),
  (111, [true, true, true, false, true, true, true, false, true, false], [(111, .iload 6, 2, (6, 0, 0), 0, 0, [])], 113),
  (113, [true, true, true, false, true, true, false, false, true, false], [(113, .istore 6, 2, (6, 0, 0), 0, 0, []), (115, .aload_n 0, 1, (0, 0, 0), 0, 0, []), (116, .getfield 66, 3, (10, 31, 2), 0, 0, []), (119, .sipush (11000), 3, (0, 0, 0), 11000, 0, []), (122, .iload_n 1, 1, (1, 0, 0), 0, 0, []), (123, .imul, 1, (0, 0, 0), 0, 0, []), (124, .iload 5, 2, (5, 0, 0), 0, 0, []), (126, .iadd, 1, (0, 0, 0), 0, 0, []), (127, .iload 8, 2, (8, 0, 0), 0, 0, []), (129, .iastore, 1, (0, 0, 0), 0, 0, []), (130, .iinc 5 (1), 3, (5, 0, 0), 1, 0, []), (133, .iload 6, 2, (6, 0, 0), 0, 0, []), (135, .ifCond .ne (14), 3, (149, 0, 0), 0, 0, [])], 138),
  (138, [true, true, true, false, true, true, true, false, false, false], [(138, .iload 5, 2, (5, 0, 0), 0, 0, []), (140, .iload 4, 2, (4, 0, 0), 0, 0, []), (142, .if_icmp .lt (7), 3, (149, 0, 0), 0, 0, [])], 145),
  (145, [true, true, true, false, true, true, true, false, false, false], [(145, .iconst (1), 1, (0, 0, 0), 1, 0, []), (146, .goto (4), 3, (150, 0, 0), 0, 0, [])], 149),
  (149, [true, true, true, false, true, true, true, false, false, false], [(149, .iconst (0), 1, (0, 0, 0), 0, 0, [])], 150),
  (150, [true, true, true, false, true, true, true, false, false, false], [(150, .istore 7, 2, (7, 0, 0), 0, 0, []), (152, .iconst (0), 1, (0, 0, 0), 0, 0, []), (153, .istore 9, 2, (9, 0, 0), 0, 0, [])], 155),
  (155, [true, true, true, false, true, true, true, true, false, true], [(155, .iload 9, 2, (9, 0, 0), 0, 0, []), (157, .iload 4, 2, (4, 0, 0), 0, 0, []), (159, .if_icmp .ge (48), 3, (207, 0, 0), 0, 0, [])], 162),
  (162, [true, true, true, false, true, true, true, true, false, true], [(162, .iload 7, 2, (7, 0, 0), 0, 0, []), (164, .ifCond .eq (43), 3, (207, 0, 0), 0, 0, [])], 167),
  (167, [true, true, true, false, true, true, true, false, false, true], [(167, .aload_n 0, 1, (0, 0, 0), 0, 0, []), (168, .aload_n 0, 1, (0, 0, 0), 0, 0, []), (169, .getfield 66, 3, (10, 31, 2), 0, 0, []), (172, .sipush (11000), 3, (0, 0, 0), 11000, 0, []), (175, .iload_n 1, 1, (1, 0, 0), 0, 0, []), (176, .imul, 1, (0, 0, 0), 0, 0, []), (177, .iload 5, 2, (5, 0, 0), 0, 0, []), (179, .iadd, 1, (0, 0, 0), 0, 0, []), (180, .iload 4, 2, (4, 0, 0), 0, 0, []), (182, .isub, 1, (0, 0, 0), 0, 0, []), (183, .iload 9, 2, (9, 0, 0), 0, 0, []), (185, .iadd, 1, (0, 0, 0), 0, 0, []), (186, .iaload, 1, (0, 0, 0), 0, 0, []), (187, .aload_n 0, 1, (0, 0, 0), 0, 0, []), (188, .getfield 59, 3, (10, 28, 2), 0, 0, []), (191, .iload_n 2, 1, (2, 0, 0), 0, 0, []), (192, .iload 9, 2, (9, 0, 0), 0, 0, []), (194, .iadd, 1, (0, 0, 0), 0, 0, []), (195, .iaload, 1, (0, 0, 0), 0, 0, []), (196, .invokevirtual 289, 3, (141, 3, 10), 0, 0, []), (199, .istore 7, 2, (7, 0, 0), 0, 0, []), (201, .iinc 9 (1), 3, (9, 0, 0), 1, 0, []), (204, .goto (-49), 3, (155, 0, 0), 0, 0, [])], 207),
  (207, [true, true, true, false, true, true, true, true, false, false], [(207, .goto (-193), 3, (14, 0, 0), 0, 0, [])], 210),
  (210, [true, true, false, false, true, true, false, false, false, false], [(210, .aload_n 0, 1, (0, 0, 0), 0, 0, []), (211, .getfield 69, 3, (10, 32, 2), 0, 0, []), (214, .iload_n 1, 1, (1, 0, 0), 0, 0, []), (215, .iload 5, 2, (5, 0, 0), 0, 0, []), (217, .iload 4, 2, (4, 0, 0), 0, 0, []), (219, .isub, 1, (0, 0, 0), 0, 0, []), (220, .iastore, 1, (0, 0, 0), 0, 0, []), (221, .aload_n 0, 1, (0, 0, 0), 0, 0, []), (222, .iload_n 1, 1, (1, 0, 0), 0, 0, []), (223, .invokevirtual 302, 3, (146, 2, 10), 0, 0, []), (226, .return_, 1, (0, 0, 0), 0, 0, [])], 227)]
def mp_145 : mj_M := (10, [], mb_145)
-- MacroPressModel.bareOf(I)V
def mb_146 : List mj_B := [(0, [true, true, false, false, false, false], [(0, .aload_n 0, 1, (0, 0, 0), 0, 0, []), (1, .getfield 69, 3, (10, 32, 2), 0, 0, []), (4, .iload_n 1, 1, (1, 0, 0), 0, 0, []), (5, .iaload, 1, (0, 0, 0), 0, 0, []), (6, .istore_n 2, 1, (2, 0, 0), 0, 0, []), (7, .iload_n 2, 1, (2, 0, 0), 0, 0, []), (8, .iconst (2), 1, (0, 0, 0), 2, 0, []), (9, .if_icmp .lt (20), 3, (29, 0, 0), 0, 0, [])], 12),
  (12, [true, true, true, false, false, false], [(12, .aload_n 0, 1, (0, 0, 0), 0, 0, []), (13, .getfield 66, 3, (10, 31, 2), 0, 0, []), (16, .sipush (11000), 3, (0, 0, 0), 11000, 0, []), (19, .iload_n 1, 1, (1, 0, 0), 0, 0, []), (20, .imul, 1, (0, 0, 0), 0, 0, []), (21, .iaload, 1, (0, 0, 0), 0, 0, []), (22, .iconst (1), 1, (0, 0, 0), 1, 0, []), (23, .invokestatic 220, 3, (121, 2, 0), 0, 0, []), (26, .ifCond .ne (4), 3, (30, 0, 0), 0, 0, [])], 29),
  (29, [false, false, false, false, false, false], [(29, .return_, 1, (0, 0, 0), 0, 0, [])], 30),
  (30, [true, true, true, false, false, false], [(30, .iconst (0), 1, (0, 0, 0), 0, 0, []), (31, .istore_n 3, 1, (3, 0, 0), 0, 0, []), (32, .iconst (0), 1, (0, 0, 0), 0, 0, []), (33, .istore 4, 2, (4, 0, 0), 0, 0, [])], 35),
  (35, [true, true, true, true, true, false], [(35, .iload 4, 2, (4, 0, 0), 0, 0, []), (37, .iload_n 2, 1, (2, 0, 0), 0, 0, []), (38, .if_icmp .ge (69), 3, (107, 0, 0), 0, 0, [])], 41),
  (41, [true, true, true, true, true, false], [(41, .aload_n 0, 1, (0, 0, 0), 0, 0, []), (42, .getfield 66, 3, (10, 31, 2), 0, 0, []), (45, .sipush (11000), 3, (0, 0, 0), 11000, 0, []), (48, .iload_n 1, 1, (1, 0, 0), 0, 0, []), (49, .imul, 1, (0, 0, 0), 0, 0, []), (50, .iload 4, 2, (4, 0, 0), 0, 0, []), (52, .iadd, 1, (0, 0, 0), 0, 0, []), (53, .iaload, 1, (0, 0, 0), 0, 0, []), (54, .istore 5, 2, (5, 0, 0), 0, 0, []), (56, .iload 5, 2, (5, 0, 0), 0, 0, []), (58, .iconst (1), 1, (0, 0, 0), 1, 0, []), (59, .invokestatic 220, 3, (121, 2, 0), 0, 0, []), (62, .ifCond .eq (9), 3, (71, 0, 0), 0, 0, [])], 65),
  (65, [true, true, true, true, true, false], [(65, .iload_n 3, 1, (3, 0, 0), 0, 0, []), (66, .iconst (1), 1, (0, 0, 0), 1, 0, []), (67, .iadd, 1, (0, 0, 0), 0, 0, []), (68, .goto (19), 3, (87, 0, 0), 0, 0, [])], 71),
  (71, [true, true, true, true, true, true], [(71, .iload 5, 2, (5, 0, 0), 0, 0, []), (73, .iconst (2), 1, (0, 0, 0), 2, 0, []), (74, .invokestatic 220, 3, (121, 2, 0), 0, 0, []), (77, .ifCond .eq (9), 3, (86, 0, 0), 0, 0, [])], 80),
  (80, [true, true, true, true, true, false], [(80, .iload_n 3, 1, (3, 0, 0), 0, 0, []), (81, .iconst (1), 1, (0, 0, 0), 1, 0, []), (82, .isub, 1, (0, 0, 0), 0, 0, []), (83, .goto (4), 3, (87, 0, 0), 0, 0, [])], 86),
  (86, [true, true, true, true, true, false], [(86, .iload_n 3, 1, (3, 0, 0), 0, 0, [])], 87),
  (87, [true, true, true, false, true, false], [(87, .istore_n 3, 1, (3, 0, 0), 0, 0, []), (88, .iload_n 3, 1, (3, 0, 0), 0, 0, []), (89, .ifCond .ne (12), 3, (101, 0, 0), 0, 0, [])], 92),
  (92, [true, true, true, true, true, false], [(92, .iload 4, 2, (4, 0, 0), 0, 0, []), (94, .iload_n 2, 1, (2, 0, 0), 0, 0, []), (95, .iconst (1), 1, (0, 0, 0), 1, 0, []), (96, .isub, 1, (0, 0, 0), 0, 0, []), (97, .if_icmp .ge (4), 3, (101, 0, 0), 0, 0, [])], 100),
  (100, [false, false, false, false, false, false], [(100, .return_, 1, (0, 0, 0), 0, 0, [])], 101),
  (101, [true, true, true, true, true, false], [(101, .iinc 4 (1), 3, (4, 0, 0), 1, 0, []), (104, .goto (-69), 3, (35, 0, 0), 0, 0, [])], 107),
  (107, [true, true, true, false, false, false], [(107, .iconst (0), 1, (0, 0, 0), 0, 0, []), (108, .istore 4, 2, (4, 0, 0), 0, 0, [])], 110),
  (110, [true, true, true, false, true, false], [(110, .iload 4, 2, (4, 0, 0), 0, 0, []), (112, .iload_n 2, 1, (2, 0, 0), 0, 0, []), (113, .iconst (2), 1, (0, 0, 0), 2, 0, []), (114, .isub, 1, (0, 0, 0), 0, 0, []), (115, .if_icmp .ge (37), 3, (152, 0, 0), 0, 0, [])], 118),
  (118, [true, true, true, false, true, false], [(118, .aload_n 0, 1, (0, 0, 0), 0, 0, []), (119, .getfield 66, 3, (10, 31, 2), 0, 0, []), (122, .sipush (11000), 3, (0, 0, 0), 11000, 0, []), (125, .iload_n 1, 1, (1, 0, 0), 0, 0, []), (126, .imul, 1, (0, 0, 0), 0, 0, []), (127, .iload 4, 2, (4, 0, 0), 0, 0, []), (129, .iadd, 1, (0, 0, 0), 0, 0, []), (130, .aload_n 0, 1, (0, 0, 0), 0, 0, []), (131, .getfield 66, 3, (10, 31, 2), 0, 0, []), (134, .sipush (11000), 3, (0, 0, 0), 11000, 0, []), (137, .iload_n 1, 1, (1, 0, 0), 0, 0, []), (138, .imul, 1, (0, 0, 0), 0, 0, []), (139, .iload 4, 2, (4, 0, 0), 0, 0, []), (141, .iadd, 1, (0, 0, 0), 0, 0, []), (142, .iconst (1), 1, (0, 0, 0), 1, 0, []), (143, .iadd, 1, (0, 0, 0), 0, 0, []), (144, .iaload, 1, (0, 0, 0), 0, 0, []), (145, .iastore, 1, (0, 0, 0), 0, 0, []), (146, .iinc 4 (1), 3, (4, 0, 0), 1, 0, []), (149, .goto (-39), 3, (110, 0, 0), 0, 0, [])], 152),
  (152, [true, true, true, false, false, false], [(152, .aload_n 0, 1, (0, 0, 0), 0, 0, []), (153, .getfield 69, 3, (10, 32, 2), 0, 0, []), (156, .iload_n 1, 1, (1, 0, 0), 0, 0, []), (157, .iload_n 2, 1, (2, 0, 0), 0, 0, []), (158, .iconst (2), 1, (0, 0, 0), 2, 0, []), (159, .isub, 1, (0, 0, 0), 0, 0, []), (160, .iastore, 1, (0, 0, 0), 0, 0, []), (161, .return_, 1, (0, 0, 0), 0, 0, [])], 162)]
def mp_146 : mj_M := (6, [], mb_146)
-- MacroPressModel.condition(I)V
def mb_147 : List mj_B := [(0, [true, true, false, false, false, false, false, false, false], [(0, .aload_n 0, 1, (0, 0, 0), 0, 0, []), (1, .getfield 121, 3, (10, 33, 0), 0, 0, []), (4, .bipush (100), 2, (0, 0, 0), 100, 0, []), (6, .if_icmp .ne (9), 3, (15, 0, 0), 0, 0, [])], 9),
  (9, [true, false, false, false, false, false, false, false, false], [(9, .aload_n 0, 1, (0, 0, 0), 0, 0, []), (10, .iconst (2), 1, (0, 0, 0), 2, 0, []), (11, .invokevirtual 160, 3, (106, 2, 10), 0, 0, []), (14, .return_, 1, (0, 0, 0), 0, 0, [])], 15),
  (15, [true, true, false, false, false, false, false, false, false], [(15, .aload_n 0, 1, (0, 0, 0), 0, 0, []), (16, .getfield 121, 3, (10, 33, 0), 0, 0, []), (19, .istore_n 2, 1, (2, 0, 0), 0, 0, []), (20, .aload_n 0, 1, (0, 0, 0), 0, 0, []), (21, .getfield 72, 3, (10, 34, 2), 0, 0, []), (24, .iload_n 2, 1, (2, 0, 0), 0, 0, []), (25, .iload_n 1, 1, (1, 0, 0), 0, 0, []), (26, .bipush (14), 2, (0, 0, 0), 14, 0, []), (28, .if_icmp .ne (7), 3, (35, 0, 0), 0, 0, [])], 31),
  (31, [true, true, true, false, false, false, false, false, false], [(31, .iconst (1), 1, (0, 0, 0), 1, 0, []), (32, .goto (4), 3, (36, 0, 0), 0, 0, [])], 35),
  (35, [true, true, true, false, false, false, false, false, false], [(35, .iconst (0), 1, (0, 0, 0), 0, 0, [])], 36),
  (36, [true, true, true, false, false, false, false, false, false], [(36, .bastore, 1, (0, 0, 3), 0, 0, []), (37, .aload_n 0, 1, (0, 0, 0), 0, 0, []), (38, .getfield 75, 3, (10, 35, 2), 0, 0, []), (41, .iload_n 2, 1, (2, 0, 0), 0, 0, []), (42, .iconst (0), 1, (0, 0, 0), 0, 0, []), (43, .iastore, 1, (0, 0, 0), 0, 0, []), (44, .aload_n 0, 1, (0, 0, 0), 0, 0, []), (45, .dup, 1, (0, 0, 0), 0, 0, []), (46, .getfield 121, 3, (10, 33, 0), 0, 0, []), (49, .iconst (1), 1, (0, 0, 0), 1, 0, []), (50, .iadd, 1, (0, 0, 0), 0, 0, []), (51, .putfield 121, 3, (10, 33, 0), 0, 0, []), (54, .iconst (0), 1, (0, 0, 0), 0, 0, []), (55, .istore_n 3, 1, (3, 0, 0), 0, 0, []), (56, .iconst (0), 1, (0, 0, 0), 0, 0, []), (57, .istore 4, 2, (4, 0, 0), 0, 0, []), (59, .iload_n 1, 1, (1, 0, 0), 0, 0, []), (60, .tableswitch (206) (7) (14) #[48, 48, 113, 160, 168, 206, 206, 186], 48, (266, 0, 0), 0, 0, [(7, 108), (8, 108), (9, 173), (10, 220), (11, 228), (12, 266), (13, 266), (14, 246)])], 108),
  (108, [true, true, true, false, true, false, false, false, false], [(108, .aload_n 0, 1, (0, 0, 0), 0, 0, []), (109, .invokevirtual 217, 3, (130, 1, 10), 0, 0, []), (112, .istore 5, 2, (5, 0, 0), 0, 0, []), (114, .aload_n 0, 1, (0, 0, 0), 0, 0, []), (115, .invokevirtual 217, 3, (130, 1, 10), 0, 0, []), (118, .istore 6, 2, (6, 0, 0), 0, 0, []), (120, .aload_n 0, 1, (0, 0, 0), 0, 0, []), (121, .getfield 91, 3, (10, 39, 0), 0, 0, []), (124, .ifCond .ne (44), 3, (168, 0, 0), 0, 0, [])], 127),
  (127, [true, true, true, false, true, true, true, false, false], [(127, .aload_n 0, 1, (0, 0, 0), 0, 0, []), (128, .iload 5, 2, (5, 0, 0), 0, 0, []), (130, .iload_n 1, 1, (1, 0, 0), 0, 0, []), (131, .bipush (8), 2, (0, 0, 0), 8, 0, []), (133, .if_icmp .ne (7), 3, (140, 0, 0), 0, 0, [])], 136),
  (136, [true, true, true, false, true, false, true, false, false], [(136, .iconst (1), 1, (0, 0, 0), 1, 0, []), (137, .goto (4), 3, (141, 0, 0), 0, 0, [])], 140),
  (140, [true, true, true, false, true, false, true, false, false], [(140, .iconst (0), 1, (0, 0, 0), 0, 0, [])], 141),
  (141, [true, true, true, false, true, false, true, false, false], [(141, .invokevirtual 305, 3, (148, 3, 10), 0, 0, []), (144, .aload_n 0, 1, (0, 0, 0), 0, 0, []), (145, .iload 6, 2, (6, 0, 0), 0, 0, []), (147, .iload_n 1, 1, (1, 0, 0), 0, 0, []), (148, .bipush (8), 2, (0, 0, 0), 8, 0, []), (150, .if_icmp .ne (7), 3, (157, 0, 0), 0, 0, [])], 153),
  (153, [true, true, true, false, true, false, false, false, false], [(153, .iconst (1), 1, (0, 0, 0), 1, 0, []), (154, .goto (4), 3, (158, 0, 0), 0, 0, [])], 157),
  (157, [true, true, true, false, true, false, false, false, false], [(157, .iconst (0), 1, (0, 0, 0), 0, 0, [])], 158),
  (158, [true, true, true, false, true, false, false, false, false], [(158, .invokevirtual 305, 3, (148, 3, 10), 0, 0, []), (161, .if_icmp .ne (7), 3, (168, 0, 0), 0, 0, [])], 164),
  (164, [true, true, true, false, true, false, false, false, false], [(164, .iconst (1), 1, (0, 0, 0), 1, 0, []), (165, .goto (4), 3, (169, 0, 0), 0, 0, [])], 168),
  (168, [true, true, true, false, true, false, false, false, false], [(168, .iconst (0), 1, (0, 0, 0), 0, 0, [])], 169),
  (169, [true, true, true, false, true, false, false, false, false], [(169, .istore_n 3, 1, (3, 0, 0), 0, 0, []), (170, .goto (108), 3, (278, 0, 0), 0, 0, [])], 173),
  (173, [true, true, true, false, true, false, false, false, false], [(173, .aload_n 0, 1, (0, 0, 0), 0, 0, []), (174, .invokevirtual 237, 3, (117, 1, 10), 0, 0, []), (177, .istore 7, 2, (7, 0, 0), 0, 0, []), (179, .aload_n 0, 1, (0, 0, 0), 0, 0, []), (180, .invokevirtual 237, 3, (117, 1, 10), 0, 0, []), (183, .istore 8, 2, (8, 0, 0), 0, 0, []), (185, .aload_n 0, 1, (0, 0, 0), 0, 0, []), (186, .getfield 91, 3, (10, 39, 0), 0, 0, []), (189, .ifCond .ne (26), 3, (215, 0, 0), 0, 0, [])], 192),
  (192, [true, true, true, false, true, false, false, true, true], [(192, .aload_n 0, 1, (0, 0, 0), 0, 0, []), (193, .aload_n 0, 1, (0, 0, 0), 0, 0, []), (194, .iload 7, 2, (7, 0, 0), 0, 0, []), (196, .invokevirtual 204, 3, (125, 2, 10), 0, 0, []), (199, .aload_n 0, 1, (0, 0, 0), 0, 0, []), (200, .iload 8, 2, (8, 0, 0), 0, 0, []), (202, .invokevirtual 204, 3, (125, 2, 10), 0, 0, []), (205, .invokevirtual 309, 3, (149, 3, 10), 0, 0, []), (208, .ifCond .eq (7), 3, (215, 0, 0), 0, 0, [])], 211),
  (211, [true, true, true, false, true, false, false, false, false], [(211, .iconst (1), 1, (0, 0, 0), 1, 0, []), (212, .goto (4), 3, (216, 0, 0), 0, 0, [])], 215),
  (215, [true, true, true, false, true, false, false, false, false], [(215, .iconst (0), 1, (0, 0, 0), 0, 0, [])], 216),
  (216, [true, true, true, false, true, false, false, false, false], [(216, .istore_n 3, 1, (3, 0, 0), 0, 0, []), (217, .goto (61), 3, (278, 0, 0), 0, 0, [])], 220),
  (220, [true, true, true, false, true, false, false, false, false], [(220, .aload_n 0, 1, (0, 0, 0), 0, 0, []), (221, .invokevirtual 312, 3, (150, 1, 10), 0, 0, []), (224, .istore_n 3, 1, (3, 0, 0), 0, 0, []), (225, .goto (53), 3, (278, 0, 0), 0, 0, [])], 228),
  (228, [true, true, true, false, true, false, false, false, false], [(228, .aload_n 0, 1, (0, 0, 0), 0, 0, []), (229, .invokevirtual 249, 3, (161, 1, 10), 0, 0, []), (232, .iconst (2), 1, (0, 0, 0), 2, 0, []), (233, .irem, 1, (0, 0, 0), 0, 0, []), (234, .ifCond .eq (7), 3, (241, 0, 0), 0, 0, [])], 237),
  (237, [true, true, true, false, true, false, false, false, false], [(237, .iconst (1), 1, (0, 0, 0), 1, 0, []), (238, .goto (4), 3, (242, 0, 0), 0, 0, [])], 241),
  (241, [true, true, true, false, true, false, false, false, false], [(241, .iconst (0), 1, (0, 0, 0), 0, 0, [])], 242),
  (242, [true, true, true, false, true, false, false, false, false], [(242, .istore_n 3, 1, (3, 0, 0), 0, 0, []), (243, .goto (35), 3, (278, 0, 0), 0, 0, [])], 246),
  (246, [true, true, true, false, false, false, false, false, false], [(246, .aload_n 0, 1, (0, 0, 0), 0, 0, []), (247, .invokevirtual 249, 3, (161, 1, 10), 0, 0, []), (250, .istore 4, 2, (4, 0, 0), 0, 0, []), (252, .iload 4, 2, (4, 0, 0), 0, 0, []), (254, .ifCond .ne (7), 3, (261, 0, 0), 0, 0, [])], 257),
  (257, [true, true, true, false, true, false, false, false, false], [(257, .iconst (1), 1, (0, 0, 0), 1, 0, []), (258, .goto (4), 3, (262, 0, 0), 0, 0, [])], 261),
  (261, [true, true, true, false, true, false, false, false, false], [(261, .iconst (0), 1, (0, 0, 0), 0, 0, [])], 262),
  (262, [true, true, true, false, true, false, false, false, false], [(262, .istore_n 3, 1, (3, 0, 0), 0, 0, []), (263, .goto (15), 3, (278, 0, 0), 0, 0, [])], 266),
  (266, [true, true, true, false, true, false, false, false, false], [(266, .iload_n 1, 1, (1, 0, 0), 0, 0, []), (267, .bipush (12), 2, (0, 0, 0), 12, 0, []), (269, .if_icmp .ne (7), 3, (276, 0, 0), 0, 0, [])], 272),
  (272, [true, true, true, false, true, false, false, false, false], [(272, .iconst (1), 1, (0, 0, 0), 1, 0, []), (273, .goto (4), 3, (277, 0, 0), 0, 0, [])], 276),
  (276, [true, true, true, false, true, false, false, false, false], [(276, .iconst (0), 1, (0, 0, 0), 0, 0, [])], 277),
  (277, [true, true, true, false, true, false, false, false, false], [(277, .istore_n 3, 1, (3, 0, 0), 0, 0, [])], 278),
  (278, [true, true, true, true, true, false, false, false, false], [(278, .aload_n 0, 1, (0, 0, 0), 0, 0, []), (279, .getfield 91, 3, (10, 39, 0), 0, 0, []), (282, .ifCond .le (4), 3, (286, 0, 0), 0, 0, [])], 285),
  (285, [false, false, false, false, false, false, false, false, false], [(285, .return_, 1, (0, 0, 0), 0, 0, [])], 286),
  (286, [true, true, true, true, true, false, false, false, false], [(286, .aload_n 0, 1, (0, 0, 0), 0, 0, []), (287, .getfield 75, 3, (10, 35, 2), 0, 0, []), (290, .iload_n 2, 1, (2, 0, 0), 0, 0, []), (291, .iconst (1), 1, (0, 0, 0), 1, 0, []), (292, .iastore, 1, (0, 0, 0), 0, 0, []), (293, .iload_n 3, 1, (3, 0, 0), 0, 0, []), (294, .ifCond .ne (20), 3, (314, 0, 0), 0, 0, [])], 297),
  (297, [true, true, true, false, true, false, false, false, false], [(297, .aload_n 0, 1, (0, 0, 0), 0, 0, []), (298, .iload_n 2, 1, (2, 0, 0), 0, 0, []), (299, .iload_n 1, 1, (1, 0, 0), 0, 0, []), (300, .bipush (14), 2, (0, 0, 0), 14, 0, []), (302, .if_icmp .ne (8), 3, (310, 0, 0), 0, 0, [])], 305),
  (305, [false, false, false, false, true, false, false, false, false], [(305, .iload 4, 2, (4, 0, 0), 0, 0, []), (307, .goto (4), 3, (311, 0, 0), 0, 0, [])], 310),
  (310, [false, false, false, false, false, false, false, false, false], [(310, .iconst (-1), 1, (0, 0, 0), -1, 0, [])], 311),
  (311, [false, false, false, false, false, false, false, false, false], [(311, .invokevirtual 315, 3, (152, 3, 10), 0, 0, [])], 314),
  (314, [false, false, false, false, false, false, false, false, false], [(314, .return_, 1, (0, 0, 0), 0, 0, [])], 315)]
def mp_147 : mj_M := (9, [], mb_147)
-- MacroPressModel.shape(IZ)I
def mb_148 : List mj_B := [(0, [true, true, true, false], [(0, .aload_n 0, 1, (0, 0, 0), 0, 0, []), (1, .iload_n 1, 1, (1, 0, 0), 0, 0, []), (2, .invokevirtual 204, 3, (125, 2, 10), 0, 0, []), (5, .istore_n 3, 1, (3, 0, 0), 0, 0, []), (6, .iload_n 3, 1, (3, 0, 0), 0, 0, []), (7, .ldc 200, 2, (0, 0, 0), 2000000, 0, []), (9, .if_icmp .lt (10), 3, (19, 0, 0), 0, 0, [])], 12),
  (12, [false, false, true, true], [(12, .iload_n 3, 1, (3, 0, 0), 0, 0, []), (13, .ldc_w 318, 3, (0, 0, 0), 3000000, 0, []), (16, .if_icmp .lt (16), 3, (32, 0, 0), 0, 0, [])], 19),
  (19, [false, false, true, false], [(19, .iload_n 2, 1, (2, 0, 0), 0, 0, []), (20, .ifCond .eq (8), 3, (28, 0, 0), 0, 0, [])], 23),
  (23, [false, false, false, false], [(23, .bipush (16), 2, (0, 0, 0), 16, 0, []), (25, .goto (6), 3, (31, 0, 0), 0, 0, [])], 28),
  (28, [false, false, false, false], [(28, .sipush (256), 3, (0, 0, 0), 256, 0, [])], 31),
  (31, [false, false, false, false], [(31, .ireturn, 1, (0, 0, 0), 0, 0, [])], 32),
  (32, [false, false, true, true], [(32, .iload_n 2, 1, (2, 0, 0), 0, 0, []), (33, .ifCond .eq (14), 3, (47, 0, 0), 0, 0, [])], 36),
  (36, [false, false, false, true], [(36, .iload_n 3, 1, (3, 0, 0), 0, 0, []), (37, .ldc 200, 2, (0, 0, 0), 2000000, 0, []), (39, .isub, 1, (0, 0, 0), 0, 0, []), (40, .sipush (256), 3, (0, 0, 0), 256, 0, []), (43, .idiv, 1, (0, 0, 0), 0, 0, []), (44, .goto (11), 3, (55, 0, 0), 0, 0, [])], 47),
  (47, [false, false, false, true], [(47, .iload_n 3, 1, (3, 0, 0), 0, 0, []), (48, .ldc 200, 2, (0, 0, 0), 2000000, 0, []), (50, .isub, 1, (0, 0, 0), 0, 0, []), (51, .sipush (256), 3, (0, 0, 0), 256, 0, []), (54, .irem, 1, (0, 0, 0), 0, 0, [])], 55),
  (55, [false, false, false, false], [(55, .ireturn, 1, (0, 0, 0), 0, 0, [])], 56)]
def mp_148 : mj_M := (4, [], mb_148)
-- MacroPressModel.meanSame(II)Z
def mb_149 : List mj_B := [(0, [true, true, true, false, false, false, false], [(0, .iload_n 1, 1, (1, 0, 0), 0, 0, []), (1, .iload_n 2, 1, (2, 0, 0), 0, 0, []), (2, .if_icmp .ne (5), 3, (7, 0, 0), 0, 0, [])], 5),
  (5, [false, false, false, false, false, false, false], [(5, .iconst (1), 1, (0, 0, 0), 1, 0, []), (6, .ireturn, 1, (0, 0, 1), 0, 0, [])], 7),
  (7, [true, true, true, false, false, false, false], [(7, .iload_n 1, 1, (1, 0, 0), 0, 0, []), (8, .ldc 207, 2, (0, 0, 0), 100000, 0, []), (10, .if_icmp .lt (21), 3, (31, 0, 0), 0, 0, [])], 13),
  (13, [true, true, true, false, false, false, false], [(13, .iload_n 1, 1, (1, 0, 0), 0, 0, []), (14, .ldc 200, 2, (0, 0, 0), 2000000, 0, []), (16, .if_icmp .ge (15), 3, (31, 0, 0), 0, 0, [])], 19),
  (19, [true, true, true, false, false, false, false], [(19, .iload_n 2, 1, (2, 0, 0), 0, 0, []), (20, .ldc 207, 2, (0, 0, 0), 100000, 0, []), (22, .if_icmp .lt (9), 3, (31, 0, 0), 0, 0, [])], 25),
  (25, [true, true, true, false, false, false, false], [(25, .iload_n 2, 1, (2, 0, 0), 0, 0, []), (26, .ldc 200, 2, (0, 0, 0), 2000000, 0, []), (28, .if_icmp .lt (5), 3, (33, 0, 0), 0, 0, [])], 31),
  (31, [false, false, false, false, false, false, false], [(31, .iconst (0), 1, (0, 0, 0), 0, 0, []), (32, .ireturn, 1, (0, 0, 1), 0, 0, [])], 33),
  (33, [true, true, true, false, false, false, false], [(33, .iload_n 1, 1, (1, 0, 0), 0, 0, []), (34, .ldc 207, 2, (0, 0, 0), 100000, 0, []), (36, .isub, 1, (0, 0, 0), 0, 0, []), (37, .istore_n 3, 1, (3, 0, 0), 0, 0, []), (38, .iload_n 2, 1, (2, 0, 0), 0, 0, []), (39, .ldc 207, 2, (0, 0, 0), 100000, 0, []), (41, .isub, 1, (0, 0, 0), 0, 0, []), (42, .istore 4, 2, (4, 0, 0), 0, 0, []), (44, .aload_n 0, 1, (0, 0, 0), 0, 0, []), (45, .getfield 53, 3, (10, 25, 2), 0, 0, []), (48, .iload_n 3, 1, (3, 0, 0), 0, 0, []), (49, .iaload, 1, (0, 0, 0), 0, 0, []), (50, .aload_n 0, 1, (0, 0, 0), 0, 0, []), (51, .getfield 50, 3, (10, 24, 2), 0, 0, []), (54, .iload_n 3, 1, (3, 0, 0), 0, 0, []), (55, .iaload, 1, (0, 0, 0), 0, 0, []), (56, .isub, 1, (0, 0, 0), 0, 0, []), (57, .aload_n 0, 1, (0, 0, 0), 0, 0, []), (58, .getfield 53, 3, (10, 25, 2), 0, 0, []), (61, .iload 4, 2, (4, 0, 0), 0, 0, []), (63, .iaload, 1, (0, 0, 0), 0, 0, []), (64, .aload_n 0, 1, (0, 0, 0), 0, 0, []), (65, .getfield 50, 3, (10, 24, 2), 0, 0, []), (68, .iload 4, 2, (4, 0, 0), 0, 0, []), (70, .iaload, 1, (0, 0, 0), 0, 0, []), (71, .isub, 1, (0, 0, 0), 0, 0, []), (72, .if_icmp .ne (38), 3, (110, 0, 0), 0, 0, [])], 75),
  (75, [true, false, false, true, true, false, false], [(75, .aload_n 0, 1, (0, 0, 0), 0, 0, []), (76, .getfield 56, 3, (10, 26, 2), 0, 0, []), (79, .iload_n 3, 1, (3, 0, 0), 0, 0, []), (80, .iaload, 1, (0, 0, 0), 0, 0, []), (81, .aload_n 0, 1, (0, 0, 0), 0, 0, []), (82, .getfield 50, 3, (10, 24, 2), 0, 0, []), (85, .iload_n 3, 1, (3, 0, 0), 0, 0, []), (86, .iaload, 1, (0, 0, 0), 0, 0, []), (87, .isub, 1, (0, 0, 0), 0, 0, []), (88, .aload_n 0, 1, (0, 0, 0), 0, 0, []), (89, .getfield 56, 3, (10, 26, 2), 0, 0, []), (92, .iload 4, 2, (4, 0, 0), 0, 0, []), (94, .iaload, 1, (0, 0, 0), 0, 0, []), (95, .aload_n 0, 1, (0, 0, 0), 0, 0, []), (96, .getfield 50, 3, (10, 24, 2), 0, 0, []), (99, .iload 4, 2, (4, 0, 0), 0, 0, []), (101, .iaload, 1, (0, 0, 0), 0, 0, []), (102, .isub, 1, (0, 0, 0), 0, 0, []), (103, .if_icmp .ne (7), 3, (110, 0, 0), 0, 0, [])], 106),
  (106, [true, false, false, true, true, false, false], [(106, .iconst (1), 1, (0, 0, 0), 1, 0, []), (107, .goto (4), 3, (111, 0, 0), 0, 0, [])], 110),
  (110, [true, false, false, true, true, false, false], [(110, .iconst (0), 1, (0, 0, 0), 0, 0, [])], 111),
  (111, [true, false, false, true, true, false, false], [(111, .istore 5, 2, (5, 0, 0), 0, 0, []), (113, .iconst (0), 1, (0, 0, 0), 0, 0, []), (114, .istore 6, 2, (6, 0, 0), 0, 0, [])], 116),
  (116, [true, false, false, true, true, true, true], [(116, .iload 5, 2, (5, 0, 0), 0, 0, []), (118, .ifCond .eq (66), 3, (184, 0, 0), 0, 0, [])], 121),
  (121, [true, false, false, true, true, true, true], [(121, .iload 6, 2, (6, 0, 0), 0, 0, []), (123, .aload_n 0, 1, (0, 0, 0), 0, 0, []), (124, .getfield 56, 3, (10, 26, 2), 0, 0, []), (127, .iload_n 3, 1, (3, 0, 0), 0, 0, []), (128, .iaload, 1, (0, 0, 0), 0, 0, []), (129, .aload_n 0, 1, (0, 0, 0), 0, 0, []), (130, .getfield 50, 3, (10, 24, 2), 0, 0, []), (133, .iload_n 3, 1, (3, 0, 0), 0, 0, []), (134, .iaload, 1, (0, 0, 0), 0, 0, []), (135, .isub, 1, (0, 0, 0), 0, 0, []), (136, .if_icmp .ge (48), 3, (184, 0, 0), 0, 0, [])], 139),
  (139, [true, false, false, true, true, false, true], [(139, .aload_n 0, 1, (0, 0, 0), 0, 0, []), (140, .getfield 59, 3, (10, 28, 2), 0, 0, []), (143, .aload_n 0, 1, (0, 0, 0), 0, 0, []), (144, .getfield 50, 3, (10, 24, 2), 0, 0, []), (147, .iload_n 3, 1, (3, 0, 0), 0, 0, []), (148, .iaload, 1, (0, 0, 0), 0, 0, []), (149, .iload 6, 2, (6, 0, 0), 0, 0, []), (151, .iadd, 1, (0, 0, 0), 0, 0, []), (152, .iaload, 1, (0, 0, 0), 0, 0, []), (153, .aload_n 0, 1, (0, 0, 0), 0, 0, []), (154, .getfield 59, 3, (10, 28, 2), 0, 0, []), (157, .aload_n 0, 1, (0, 0, 0), 0, 0, []), (158, .getfield 50, 3, (10, 24, 2), 0, 0, []), (161, .iload 4, 2, (4, 0, 0), 0, 0, []), (163, .iaload, 1, (0, 0, 0), 0, 0, []), (164, .iload 6, 2, (6, 0, 0), 0, 0, []), (166, .iadd, 1, (0, 0, 0), 0, 0, []), (167, .iaload, 1, (0, 0, 0), 0, 0, []), (168, .if_icmp .ne (7), 3, (175, 0, 0), 0, 0, [])], 171),
  (171, [true, false, false, true, true, false, true], [(171, .iconst (1), 1, (0, 0, 0), 1, 0, []), (172, .goto (4), 3, (176, 0, 0), 0, 0, [])], 175),
  (175, [true, false, false, true, true, false, true], [(175, .iconst (0), 1, (0, 0, 0), 0, 0, [])], 176),
  (176, [true, false, false, true, true, false, true], [(176, .istore 5, 2, (5, 0, 0), 0, 0, []), (178, .iinc 6 (1), 3, (6, 0, 0), 1, 0, []), (181, .goto (-65), 3, (116, 0, 0), 0, 0, [])], 184),
  (184, [false, false, false, false, false, true, false], [(184, .iload 5, 2, (5, 0, 0), 0, 0, []), (186, .ireturn, 1, (0, 0, 1), 0, 0, [])], 187)]
def mp_149 : mj_M := (7, [], mb_149)
end
section
/-! THE PROGRAM'S TABLES, printed: methods 150 to 196 -/
-- MacroPressModel.compare()Z
def mb_150 : List mj_B := [(0, [true, false, false, false, false, false], [(0, .aload_n 0, 1, (0, 0, 0), 0, 0, []), (1, .invokevirtual 249, 3, (161, 1, 10), 0, 0, []), (4, .istore_n 1, 1, (1, 0, 0), 0, 0, []), (5, .aload_n 0, 1, (0, 0, 0), 0, 0, []), (6, .invokevirtual 319, 3, (131, 1, 10), 0, 0, []), (9, .istore_n 2, 1, (2, 0, 0), 0, 0, []), (10, .iload_n 2, 1, (2, 0, 0), 0, 0, []), (11, .bipush (12), 2, (0, 0, 0), 12, 0, []), (13, .bipush (60), 2, (0, 0, 0), 60, 0, []), (15, .invokestatic 322, 3, (120, 3, 0), 0, 0, []), (18, .istore_n 3, 1, (3, 0, 0), 0, 0, []), (19, .iload_n 2, 1, (2, 0, 0), 0, 0, []), (20, .bipush (12), 2, (0, 0, 0), 12, 0, []), (22, .bipush (62), 2, (0, 0, 0), 62, 0, []), (24, .invokestatic 322, 3, (120, 3, 0), 0, 0, []), (27, .istore 4, 2, (4, 0, 0), 0, 0, []), (29, .aload_n 0, 1, (0, 0, 0), 0, 0, []), (30, .getfield 91, 3, (10, 39, 0), 0, 0, []), (33, .ifCond .ne (29), 3, (62, 0, 0), 0, 0, [])], 36),
  (36, [true, true, true, true, true, false], [(36, .iload_n 3, 1, (3, 0, 0), 0, 0, []), (37, .ifCond .ne (25), 3, (62, 0, 0), 0, 0, [])], 40),
  (40, [true, true, true, true, true, false], [(40, .iload 4, 2, (4, 0, 0), 0, 0, []), (42, .ifCond .ne (20), 3, (62, 0, 0), 0, 0, [])], 45),
  (45, [true, true, true, true, true, false], [(45, .iload_n 2, 1, (2, 0, 0), 0, 0, []), (46, .bipush (12), 2, (0, 0, 0), 12, 0, []), (48, .bipush (61), 2, (0, 0, 0), 61, 0, []), (50, .invokestatic 322, 3, (120, 3, 0), 0, 0, []), (53, .ifCond .ne (9), 3, (62, 0, 0), 0, 0, [])], 56),
  (56, [true, true, false, true, true, false], [(56, .aload_n 0, 1, (0, 0, 0), 0, 0, []), (57, .bipush (6), 2, (0, 0, 0), 6, 0, []), (59, .invokevirtual 160, 3, (106, 2, 10), 0, 0, [])], 62),
  (62, [true, true, false, true, true, false], [(62, .aload_n 0, 1, (0, 0, 0), 0, 0, []), (63, .invokevirtual 249, 3, (161, 1, 10), 0, 0, []), (66, .istore 5, 2, (5, 0, 0), 0, 0, []), (68, .aload_n 0, 1, (0, 0, 0), 0, 0, []), (69, .getfield 91, 3, (10, 39, 0), 0, 0, []), (72, .ifCond .ne (40), 3, (112, 0, 0), 0, 0, [])], 75),
  (75, [false, true, false, true, true, true], [(75, .iload_n 3, 1, (3, 0, 0), 0, 0, []), (76, .ifCond .eq (12), 3, (88, 0, 0), 0, 0, [])], 79),
  (79, [false, true, false, false, false, true], [(79, .iload_n 1, 1, (1, 0, 0), 0, 0, []), (80, .iload 5, 2, (5, 0, 0), 0, 0, []), (82, .if_icmp .ge (30), 3, (112, 0, 0), 0, 0, [])], 85),
  (85, [false, false, false, false, false, false], [(85, .goto (23), 3, (108, 0, 0), 0, 0, [])], 88),
  (88, [false, true, false, false, true, true], [(88, .iload 4, 2, (4, 0, 0), 0, 0, []), (90, .ifCond .eq (12), 3, (102, 0, 0), 0, 0, [])], 93),
  (93, [false, true, false, false, false, true], [(93, .iload_n 1, 1, (1, 0, 0), 0, 0, []), (94, .iload 5, 2, (5, 0, 0), 0, 0, []), (96, .if_icmp .le (16), 3, (112, 0, 0), 0, 0, [])], 99),
  (99, [false, false, false, false, false, false], [(99, .goto (9), 3, (108, 0, 0), 0, 0, [])], 102),
  (102, [false, true, false, false, false, true], [(102, .iload_n 1, 1, (1, 0, 0), 0, 0, []), (103, .iload 5, 2, (5, 0, 0), 0, 0, []), (105, .if_icmp .ne (7), 3, (112, 0, 0), 0, 0, [])], 108),
  (108, [false, false, false, false, false, false], [(108, .iconst (1), 1, (0, 0, 0), 1, 0, []), (109, .goto (4), 3, (113, 0, 0), 0, 0, [])], 112),
  (112, [false, false, false, false, false, false], [(112, .iconst (0), 1, (0, 0, 0), 0, 0, [])], 113),
  (113, [false, false, false, false, false, false], [(113, .ireturn, 1, (0, 0, 1), 0, 0, [])], 114)]
def mp_150 : mj_M := (6, [], mb_150)
-- MacroPressModel.isCondition(I)Z
def mb_151 : List mj_B := [(0, [true, true, false], [(0, .aload_n 0, 1, (0, 0, 0), 0, 0, []), (1, .iload_n 1, 1, (1, 0, 0), 0, 0, []), (2, .invokevirtual 204, 3, (125, 2, 10), 0, 0, []), (5, .istore_n 2, 1, (2, 0, 0), 0, 0, []), (6, .iload_n 2, 1, (2, 0, 0), 0, 0, []), (7, .sipush (1007), 3, (0, 0, 0), 1007, 0, []), (10, .if_icmp .lt (14), 3, (24, 0, 0), 0, 0, [])], 13),
  (13, [false, false, true], [(13, .iload_n 2, 1, (2, 0, 0), 0, 0, []), (14, .sipush (1014), 3, (0, 0, 0), 1014, 0, []), (17, .if_icmp .gt (7), 3, (24, 0, 0), 0, 0, [])], 20),
  (20, [false, false, false], [(20, .iconst (1), 1, (0, 0, 0), 1, 0, []), (21, .goto (4), 3, (25, 0, 0), 0, 0, [])], 24),
  (24, [false, false, false], [(24, .iconst (0), 1, (0, 0, 0), 0, 0, [])], 25),
  (25, [false, false, false], [(25, .ireturn, 1, (0, 0, 1), 0, 0, [])], 26)]
def mp_151 : mj_M := (3, [], mb_151)
-- MacroPressModel.drop(II)V
def mb_152 : List mj_B := [(0, [true, true, true, false, false, false, false], [(0, .aload_n 0, 1, (0, 0, 0), 0, 0, []), (1, .getfield 121, 3, (10, 33, 0), 0, 0, []), (4, .iconst (1), 1, (0, 0, 0), 1, 0, []), (5, .isub, 1, (0, 0, 0), 0, 0, []), (6, .iload_n 1, 1, (1, 0, 0), 0, 0, []), (7, .isub, 1, (0, 0, 0), 0, 0, []), (8, .istore_n 3, 1, (3, 0, 0), 0, 0, []), (9, .iconst (0), 1, (0, 0, 0), 0, 0, []), (10, .istore 4, 2, (4, 0, 0), 0, 0, []), (12, .iconst (1), 1, (0, 0, 0), 1, 0, []), (13, .istore 5, 2, (5, 0, 0), 0, 0, [])], 15),
  (15, [true, true, true, true, true, true, false], [(15, .iload 5, 2, (5, 0, 0), 0, 0, []), (17, .ifCond .eq (184), 3, (201, 0, 0), 0, 0, [])], 20),
  (20, [true, true, true, true, true, true, false], [(20, .aload_n 0, 1, (0, 0, 0), 0, 0, []), (21, .invokevirtual 237, 3, (117, 1, 10), 0, 0, []), (24, .istore 6, 2, (6, 0, 0), 0, 0, []), (26, .aload_n 0, 1, (0, 0, 0), 0, 0, []), (27, .getfield 91, 3, (10, 39, 0), 0, 0, []), (30, .ifCond .le (4), 3, (34, 0, 0), 0, 0, [])], 33),
  (33, [false, false, false, false, false, false, false], [(33, .return_, 1, (0, 0, 0), 0, 0, [])], 34),
  (34, [true, true, true, true, true, true, true], [(34, .aload_n 0, 1, (0, 0, 0), 0, 0, []), (35, .iload 6, 2, (6, 0, 0), 0, 0, []), (37, .invokevirtual 326, 3, (151, 2, 10), 0, 0, []), (40, .ifCond .eq (9), 3, (49, 0, 0), 0, 0, [])], 43),
  (43, [true, true, true, true, true, true, false], [(43, .iinc 3 (1), 3, (3, 0, 0), 1, 0, []), (46, .goto (152), 3, (198, 0, 0), 0, 0, [])], 49),
  (49, [true, true, true, true, true, true, true], [(49, .aload_n 0, 1, (0, 0, 0), 0, 0, []), (50, .iload 6, 2, (6, 0, 0), 0, 0, []), (52, .bipush (17), 2, (0, 0, 0), 17, 0, []), (54, .invokevirtual 270, 3, (126, 3, 10), 0, 0, []), (57, .ifCond .eq (37), 3, (94, 0, 0), 0, 0, [])], 60),
  (60, [true, true, true, true, true, false, false], [(60, .iload_n 3, 1, (3, 0, 0), 0, 0, []), (61, .ifCond .le (7), 3, (68, 0, 0), 0, 0, [])], 64),
  (64, [true, true, true, true, true, false, false], [(64, .iconst (1), 1, (0, 0, 0), 1, 0, []), (65, .goto (4), 3, (69, 0, 0), 0, 0, [])], 68),
  (68, [true, true, true, true, true, false, false], [(68, .iconst (0), 1, (0, 0, 0), 0, 0, [])], 69),
  (69, [true, true, true, true, true, false, false], [(69, .istore 5, 2, (5, 0, 0), 0, 0, []), (71, .aload_n 0, 1, (0, 0, 0), 0, 0, []), (72, .iload 5, 2, (5, 0, 0), 0, 0, []), (74, .ifCond .eq (10), 3, (84, 0, 0), 0, 0, [])], 77),
  (77, [true, true, true, true, true, true, false], [(77, .aload_n 0, 1, (0, 0, 0), 0, 0, []), (78, .getfield 121, 3, (10, 33, 0), 0, 0, []), (81, .goto (4), 3, (85, 0, 0), 0, 0, [])], 84),
  (84, [true, true, true, true, true, true, false], [(84, .iload_n 1, 1, (1, 0, 0), 0, 0, [])], 85),
  (85, [true, true, true, true, true, true, false], [(85, .putfield 121, 3, (10, 33, 0), 0, 0, []), (88, .iinc 3 (-1), 3, (3, 0, 0), -1, 0, []), (91, .goto (107), 3, (198, 0, 0), 0, 0, [])], 94),
  (94, [true, true, true, true, true, true, true], [(94, .iload_n 3, 1, (3, 0, 0), 0, 0, []), (95, .ifCond .ne (34), 3, (129, 0, 0), 0, 0, [])], 98),
  (98, [true, true, true, true, true, true, true], [(98, .aload_n 0, 1, (0, 0, 0), 0, 0, []), (99, .iload 6, 2, (6, 0, 0), 0, 0, []), (101, .bipush (15), 2, (0, 0, 0), 15, 0, []), (103, .invokevirtual 270, 3, (126, 3, 10), 0, 0, []), (106, .ifCond .eq (23), 3, (129, 0, 0), 0, 0, [])], 109),
  (109, [true, true, true, true, true, false, false], [(109, .aload_n 0, 1, (0, 0, 0), 0, 0, []), (110, .getfield 75, 3, (10, 35, 2), 0, 0, []), (113, .iload_n 1, 1, (1, 0, 0), 0, 0, []), (114, .iconst (2), 1, (0, 0, 0), 2, 0, []), (115, .iastore, 1, (0, 0, 0), 0, 0, []), (116, .aload_n 0, 1, (0, 0, 0), 0, 0, []), (117, .iload_n 1, 1, (1, 0, 0), 0, 0, []), (118, .iconst (1), 1, (0, 0, 0), 1, 0, []), (119, .iadd, 1, (0, 0, 0), 0, 0, []), (120, .putfield 121, 3, (10, 33, 0), 0, 0, []), (123, .iconst (0), 1, (0, 0, 0), 0, 0, []), (124, .istore 5, 2, (5, 0, 0), 0, 0, []), (126, .goto (72), 3, (198, 0, 0), 0, 0, [])], 129),
  (129, [true, true, true, true, true, true, true], [(129, .iload_n 3, 1, (3, 0, 0), 0, 0, []), (130, .ifCond .ne (68), 3, (198, 0, 0), 0, 0, [])], 133),
  (133, [true, true, true, true, true, true, true], [(133, .aload_n 0, 1, (0, 0, 0), 0, 0, []), (134, .iload 6, 2, (6, 0, 0), 0, 0, []), (136, .bipush (16), 2, (0, 0, 0), 16, 0, []), (138, .invokevirtual 270, 3, (126, 3, 10), 0, 0, []), (141, .ifCond .eq (57), 3, (198, 0, 0), 0, 0, [])], 144),
  (144, [true, true, true, true, true, false, false], [(144, .aload_n 0, 1, (0, 0, 0), 0, 0, []), (145, .getfield 72, 3, (10, 34, 2), 0, 0, []), (148, .iload_n 1, 1, (1, 0, 0), 0, 0, []), (149, .baload, 1, (0, 0, 3), 0, 0, []), (150, .ifCond .ne (9), 3, (159, 0, 0), 0, 0, [])], 153),
  (153, [true, true, true, true, true, false, false], [(153, .aload_n 0, 1, (0, 0, 0), 0, 0, []), (154, .bipush (8), 2, (0, 0, 0), 8, 0, []), (156, .invokevirtual 160, 3, (106, 2, 10), 0, 0, [])], 159),
  (159, [true, true, true, true, true, false, false], [(159, .iinc 4 (1), 3, (4, 0, 0), 1, 0, []), (162, .iload_n 2, 1, (2, 0, 0), 0, 0, []), (163, .ifCond .lt (9), 3, (172, 0, 0), 0, 0, [])], 166),
  (166, [true, true, true, true, true, false, false], [(166, .iload 4, 2, (4, 0, 0), 0, 0, []), (168, .iload_n 2, 1, (2, 0, 0), 0, 0, []), (169, .if_icmp .eq (7), 3, (176, 0, 0), 0, 0, [])], 172),
  (172, [true, true, true, true, true, false, false], [(172, .iconst (1), 1, (0, 0, 0), 1, 0, []), (173, .goto (4), 3, (177, 0, 0), 0, 0, [])], 176),
  (176, [true, true, true, true, true, false, false], [(176, .iconst (0), 1, (0, 0, 0), 0, 0, [])], 177),
  (177, [true, true, true, true, true, false, false], [(177, .istore 5, 2, (5, 0, 0), 0, 0, []), (179, .aload_n 0, 1, (0, 0, 0), 0, 0, []), (180, .iload 5, 2, (5, 0, 0), 0, 0, []), (182, .ifCond .eq (10), 3, (192, 0, 0), 0, 0, [])], 185),
  (185, [true, true, true, true, true, true, false], [(185, .aload_n 0, 1, (0, 0, 0), 0, 0, []), (186, .getfield 121, 3, (10, 33, 0), 0, 0, []), (189, .goto (6), 3, (195, 0, 0), 0, 0, [])], 192),
  (192, [true, true, true, true, true, true, false], [(192, .iload_n 1, 1, (1, 0, 0), 0, 0, []), (193, .iconst (1), 1, (0, 0, 0), 1, 0, []), (194, .iadd, 1, (0, 0, 0), 0, 0, [])], 195),
  (195, [true, true, true, true, true, true, false], [(195, .putfield 121, 3, (10, 33, 0), 0, 0, [])], 198),
  (198, [true, true, true, true, true, true, false], [(198, .goto (-183), 3, (15, 0, 0), 0, 0, [])], 201),
  (201, [false, false, false, false, false, false, false], [(201, .return_, 1, (0, 0, 0), 0, 0, [])], 202)]
def mp_152 : mj_M := (7, [], mb_152)
-- MacroPressModel.branch(II)V
def mb_153 : List mj_B := [(0, [true, true, true, false, false, false], [(0, .aload_n 0, 1, (0, 0, 0), 0, 0, []), (1, .getfield 121, 3, (10, 33, 0), 0, 0, []), (4, .ifCond .le (30), 3, (34, 0, 0), 0, 0, [])], 7),
  (7, [true, true, true, false, false, false], [(7, .aload_n 0, 1, (0, 0, 0), 0, 0, []), (8, .getfield 75, 3, (10, 35, 2), 0, 0, []), (11, .aload_n 0, 1, (0, 0, 0), 0, 0, []), (12, .getfield 121, 3, (10, 33, 0), 0, 0, []), (15, .iconst (1), 1, (0, 0, 0), 1, 0, []), (16, .isub, 1, (0, 0, 0), 0, 0, []), (17, .iaload, 1, (0, 0, 0), 0, 0, []), (18, .ifCond .ne (16), 3, (34, 0, 0), 0, 0, [])], 21),
  (21, [true, true, false, false, false, false], [(21, .aload_n 0, 1, (0, 0, 0), 0, 0, []), (22, .iload_n 1, 1, (1, 0, 0), 0, 0, []), (23, .invokevirtual 240, 3, (118, 2, 10), 0, 0, []), (26, .aload_n 0, 1, (0, 0, 0), 0, 0, []), (27, .ldc_w 329, 3, (0, 0, 0), 589842, 0, []), (30, .invokevirtual 240, 3, (118, 2, 10), 0, 0, []), (33, .return_, 1, (0, 0, 0), 0, 0, [])], 34),
  (34, [true, false, true, false, false, false], [(34, .aload_n 0, 1, (0, 0, 0), 0, 0, []), (35, .getfield 121, 3, (10, 33, 0), 0, 0, []), (38, .iconst (1), 1, (0, 0, 0), 1, 0, []), (39, .isub, 1, (0, 0, 0), 0, 0, []), (40, .istore_n 3, 1, (3, 0, 0), 0, 0, []), (41, .iload_n 3, 1, (3, 0, 0), 0, 0, []), (42, .ifCond .lt (34), 3, (76, 0, 0), 0, 0, [])], 45),
  (45, [true, false, true, true, false, false], [(45, .iload_n 2, 1, (2, 0, 0), 0, 0, []), (46, .bipush (17), 2, (0, 0, 0), 17, 0, []), (48, .if_icmp .eq (13), 3, (61, 0, 0), 0, 0, [])], 51),
  (51, [true, false, true, true, false, false], [(51, .aload_n 0, 1, (0, 0, 0), 0, 0, []), (52, .getfield 75, 3, (10, 35, 2), 0, 0, []), (55, .iload_n 3, 1, (3, 0, 0), 0, 0, []), (56, .iaload, 1, (0, 0, 0), 0, 0, []), (57, .iconst (2), 1, (0, 0, 0), 2, 0, []), (58, .if_icmp .eq (18), 3, (76, 0, 0), 0, 0, [])], 61),
  (61, [true, false, true, true, false, false], [(61, .iload_n 2, 1, (2, 0, 0), 0, 0, []), (62, .bipush (16), 2, (0, 0, 0), 16, 0, []), (64, .if_icmp .ne (19), 3, (83, 0, 0), 0, 0, [])], 67),
  (67, [true, false, true, true, false, false], [(67, .aload_n 0, 1, (0, 0, 0), 0, 0, []), (68, .getfield 72, 3, (10, 34, 2), 0, 0, []), (71, .iload_n 3, 1, (3, 0, 0), 0, 0, []), (72, .baload, 1, (0, 0, 3), 0, 0, []), (73, .ifCond .ne (10), 3, (83, 0, 0), 0, 0, [])], 76),
  (76, [true, false, false, false, false, false], [(76, .aload_n 0, 1, (0, 0, 0), 0, 0, []), (77, .bipush (8), 2, (0, 0, 0), 8, 0, []), (79, .invokevirtual 160, 3, (106, 2, 10), 0, 0, []), (82, .return_, 1, (0, 0, 0), 0, 0, [])], 83),
  (83, [true, false, true, false, false, false], [(83, .iconst (0), 1, (0, 0, 0), 0, 0, []), (84, .istore 4, 2, (4, 0, 0), 0, 0, [])], 86),
  (86, [true, false, true, false, true, false], [(86, .iload_n 2, 1, (2, 0, 0), 0, 0, []), (87, .bipush (17), 2, (0, 0, 0), 17, 0, []), (89, .if_icmp .eq (63), 3, (152, 0, 0), 0, 0, [])], 92),
  (92, [true, false, true, false, true, false], [(92, .iload 4, 2, (4, 0, 0), 0, 0, []), (94, .ifCond .lt (58), 3, (152, 0, 0), 0, 0, [])], 97),
  (97, [true, false, true, false, true, false], [(97, .aload_n 0, 1, (0, 0, 0), 0, 0, []), (98, .invokevirtual 237, 3, (117, 1, 10), 0, 0, []), (101, .istore 5, 2, (5, 0, 0), 0, 0, []), (103, .aload_n 0, 1, (0, 0, 0), 0, 0, []), (104, .getfield 91, 3, (10, 39, 0), 0, 0, []), (107, .ifCond .le (4), 3, (111, 0, 0), 0, 0, [])], 110),
  (110, [false, false, false, false, false, false], [(110, .return_, 1, (0, 0, 0), 0, 0, [])], 111),
  (111, [true, false, true, false, true, true], [(111, .aload_n 0, 1, (0, 0, 0), 0, 0, []), (112, .iload 5, 2, (5, 0, 0), 0, 0, []), (114, .invokevirtual 326, 3, (151, 2, 10), 0, 0, []), (117, .ifCond .eq (10), 3, (127, 0, 0), 0, 0, [])], 120),
  (120, [true, false, true, false, true, false], [(120, .iload 4, 2, (4, 0, 0), 0, 0, []), (122, .iconst (1), 1, (0, 0, 0), 1, 0, []), (123, .iadd, 1, (0, 0, 0), 0, 0, []), (124, .goto (23), 3, (147, 0, 0), 0, 0, [])], 127),
  (127, [true, false, true, false, true, true], [(127, .aload_n 0, 1, (0, 0, 0), 0, 0, []), (128, .iload 5, 2, (5, 0, 0), 0, 0, []), (130, .bipush (17), 2, (0, 0, 0), 17, 0, []), (132, .invokevirtual 270, 3, (126, 3, 10), 0, 0, []), (135, .ifCond .eq (10), 3, (145, 0, 0), 0, 0, [])], 138),
  (138, [true, false, true, false, true, false], [(138, .iload 4, 2, (4, 0, 0), 0, 0, []), (140, .iconst (1), 1, (0, 0, 0), 1, 0, []), (141, .isub, 1, (0, 0, 0), 0, 0, []), (142, .goto (5), 3, (147, 0, 0), 0, 0, [])], 145),
  (145, [true, false, true, false, true, false], [(145, .iload 4, 2, (4, 0, 0), 0, 0, [])], 147),
  (147, [true, false, true, false, false, false], [(147, .istore 4, 2, (4, 0, 0), 0, 0, []), (149, .goto (-63), 3, (86, 0, 0), 0, 0, [])], 152),
  (152, [true, false, false, false, false, false], [(152, .aload_n 0, 1, (0, 0, 0), 0, 0, []), (153, .dup, 1, (0, 0, 0), 0, 0, []), (154, .getfield 121, 3, (10, 33, 0), 0, 0, []), (157, .iconst (1), 1, (0, 0, 0), 1, 0, []), (158, .isub, 1, (0, 0, 0), 0, 0, []), (159, .putfield 121, 3, (10, 33, 0), 0, 0, []), (162, .return_, 1, (0, 0, 0), 0, 0, [])], 163)]
def mp_153 : mj_M := (6, [], mb_153)
-- MacroPressModel.hasValue(I)Z
def mb_154 : List mj_B := [(0, [true, true], [(0, .aload_n 0, 1, (0, 0, 0), 0, 0, []), (1, .iload_n 1, 1, (1, 0, 0), 0, 0, []), (2, .bipush (29), 2, (0, 0, 0), 29, 0, []), (4, .invokevirtual 270, 3, (126, 3, 10), 0, 0, []), (7, .ifCond .ne (29), 3, (36, 0, 0), 0, 0, [])], 10),
  (10, [true, true], [(10, .aload_n 0, 1, (0, 0, 0), 0, 0, []), (11, .iload_n 1, 1, (1, 0, 0), 0, 0, []), (12, .bipush (30), 2, (0, 0, 0), 30, 0, []), (14, .invokevirtual 270, 3, (126, 3, 10), 0, 0, []), (17, .ifCond .ne (19), 3, (36, 0, 0), 0, 0, [])], 20),
  (20, [true, true], [(20, .iload_n 1, 1, (1, 0, 0), 0, 0, []), (21, .iconst (-1), 1, (0, 0, 0), -1, 0, []), (22, .if_icmp .eq (18), 3, (40, 0, 0), 0, 0, [])], 25),
  (25, [true, true], [(25, .aload_n 0, 1, (0, 0, 0), 0, 0, []), (26, .iload_n 1, 1, (1, 0, 0), 0, 0, []), (27, .invokevirtual 204, 3, (125, 2, 10), 0, 0, []), (30, .ldc_w 318, 3, (0, 0, 0), 3000000, 0, []), (33, .if_icmp .lt (7), 3, (40, 0, 0), 0, 0, [])], 36),
  (36, [false, false], [(36, .iconst (1), 1, (0, 0, 0), 1, 0, []), (37, .goto (4), 3, (41, 0, 0), 0, 0, [])], 40),
  (40, [false, false], [(40, .iconst (0), 1, (0, 0, 0), 0, 0, [])], 41),
  (41, [false, false], [(41, .ireturn, 1, (0, 0, 1), 0, 0, [])], 42)]
def mp_154 : mj_M := (2, [], mb_154)
-- MacroPressModel.small(I)I
def mb_155 : List mj_B := [(0, [true, true, false], [(0, .aload_n 0, 1, (0, 0, 0), 0, 0, []), (1, .invokevirtual 249, 3, (161, 1, 10), 0, 0, []), (4, .istore_n 2, 1, (2, 0, 0), 0, 0, []), (5, .aload_n 0, 1, (0, 0, 0), 0, 0, []), (6, .getfield 91, 3, (10, 39, 0), 0, 0, []), (9, .ifCond .ne (18), 3, (27, 0, 0), 0, 0, [])], 12),
  (12, [true, true, true], [(12, .iload_n 2, 1, (2, 0, 0), 0, 0, []), (13, .ifCond .lt (8), 3, (21, 0, 0), 0, 0, [])], 16),
  (16, [true, true, true], [(16, .iload_n 2, 1, (2, 0, 0), 0, 0, []), (17, .iload_n 1, 1, (1, 0, 0), 0, 0, []), (18, .if_icmp .le (9), 3, (27, 0, 0), 0, 0, [])], 21),
  (21, [true, false, true], [(21, .aload_n 0, 1, (0, 0, 0), 0, 0, []), (22, .bipush (7), 2, (0, 0, 0), 7, 0, []), (24, .invokevirtual 160, 3, (106, 2, 10), 0, 0, [])], 27),
  (27, [true, false, true], [(27, .aload_n 0, 1, (0, 0, 0), 0, 0, []), (28, .getfield 91, 3, (10, 39, 0), 0, 0, []), (31, .ifCond .le (7), 3, (38, 0, 0), 0, 0, [])], 34),
  (34, [false, false, false], [(34, .iconst (0), 1, (0, 0, 0), 0, 0, []), (35, .goto (4), 3, (39, 0, 0), 0, 0, [])], 38),
  (38, [false, false, true], [(38, .iload_n 2, 1, (2, 0, 0), 0, 0, [])], 39),
  (39, [false, false, false], [(39, .ireturn, 1, (0, 0, 0), 0, 0, [])], 40)]
def mp_155 : mj_M := (3, [], mb_155)
-- MacroPressModel.value(I)I
def mb_156 : List mj_B := [(0, [true, true, false, false], [(0, .aload_n 0, 1, (0, 0, 0), 0, 0, []), (1, .iload_n 1, 1, (1, 0, 0), 0, 0, []), (2, .invokevirtual 204, 3, (125, 2, 10), 0, 0, []), (5, .istore_n 2, 1, (2, 0, 0), 0, 0, []), (6, .iload_n 2, 1, (2, 0, 0), 0, 0, []), (7, .ldc_w 318, 3, (0, 0, 0), 3000000, 0, []), (10, .if_icmp .lt (9), 3, (19, 0, 0), 0, 0, [])], 13),
  (13, [false, false, true, false], [(13, .iload_n 2, 1, (2, 0, 0), 0, 0, []), (14, .ldc_w 318, 3, (0, 0, 0), 3000000, 0, []), (17, .isub, 1, (0, 0, 0), 0, 0, []), (18, .ireturn, 1, (0, 0, 0), 0, 0, [])], 19),
  (19, [true, false, true, false], [(19, .aload_n 0, 1, (0, 0, 0), 0, 0, []), (20, .sipush (255), 3, (0, 0, 0), 255, 0, []), (23, .invokevirtual 330, 3, (155, 2, 10), 0, 0, []), (26, .istore_n 3, 1, (3, 0, 0), 0, 0, []), (27, .iload_n 2, 1, (2, 0, 0), 0, 0, []), (28, .sipush (1029), 3, (0, 0, 0), 1029, 0, []), (31, .if_icmp .ne (21), 3, (52, 0, 0), 0, 0, [])], 34),
  (34, [true, false, false, true], [(34, .aload_n 0, 1, (0, 0, 0), 0, 0, []), (35, .getfield 41, 3, (10, 20, 2), 0, 0, []), (38, .sipush (256), 3, (0, 0, 0), 256, 0, []), (41, .aload_n 0, 1, (0, 0, 0), 0, 0, []), (42, .getfield 109, 3, (10, 17, 0), 0, 0, []), (45, .imul, 1, (0, 0, 0), 0, 0, []), (46, .iload_n 3, 1, (3, 0, 0), 0, 0, []), (47, .iadd, 1, (0, 0, 0), 0, 0, []), (48, .iaload, 1, (0, 0, 0), 0, 0, []), (49, .goto (18), 3, (67, 0, 0), 0, 0, [])], 52),
  (52, [true, false, false, true], [(52, .aload_n 0, 1, (0, 0, 0), 0, 0, []), (53, .getfield 44, 3, (10, 21, 2), 0, 0, []), (56, .sipush (256), 3, (0, 0, 0), 256, 0, []), (59, .aload_n 0, 1, (0, 0, 0), 0, 0, []), (60, .getfield 109, 3, (10, 17, 0), 0, 0, []), (63, .imul, 1, (0, 0, 0), 0, 0, []), (64, .iload_n 3, 1, (3, 0, 0), 0, 0, []), (65, .iadd, 1, (0, 0, 0), 0, 0, []), (66, .iaload, 1, (0, 0, 0), 0, 0, [])], 67),
  (67, [false, false, false, false], [(67, .ireturn, 1, (0, 0, 0), 0, 0, [])], 68)]
def mp_156 : mj_M := (4, [], mb_156)
-- MacroPressModel.isDigit(I)Z
def mb_157 : List mj_B := [(0, [true], [(0, .iload_n 0, 1, (0, 0, 0), 0, 0, []), (1, .sipush (3120), 3, (0, 0, 0), 3120, 0, []), (4, .if_icmp .lt (14), 3, (18, 0, 0), 0, 0, [])], 7),
  (7, [true], [(7, .iload_n 0, 1, (0, 0, 0), 0, 0, []), (8, .sipush (3129), 3, (0, 0, 0), 3129, 0, []), (11, .if_icmp .gt (7), 3, (18, 0, 0), 0, 0, [])], 14),
  (14, [false], [(14, .iconst (1), 1, (0, 0, 0), 1, 0, []), (15, .goto (4), 3, (19, 0, 0), 0, 0, [])], 18),
  (18, [false], [(18, .iconst (0), 1, (0, 0, 0), 0, 0, [])], 19),
  (19, [false], [(19, .ireturn, 1, (0, 0, 1), 0, 0, [])], 20)]
def mp_157 : mj_M := (1, [], mb_157)
-- MacroPressModel.dropSpace()V
def mb_158 : List mj_B := [(0, [true, false], [(0, .aload_n 0, 1, (0, 0, 0), 0, 0, []), (1, .invokevirtual 214, 3, (129, 1, 10), 0, 0, []), (4, .istore_n 1, 1, (1, 0, 0), 0, 0, []), (5, .iload_n 1, 1, (1, 0, 0), 0, 0, []), (6, .bipush (10), 2, (0, 0, 0), 10, 0, []), (8, .invokestatic 220, 3, (121, 2, 0), 0, 0, []), (11, .ifCond .ne (8), 3, (19, 0, 0), 0, 0, [])], 14),
  (14, [true, true], [(14, .aload_n 0, 1, (0, 0, 0), 0, 0, []), (15, .iload_n 1, 1, (1, 0, 0), 0, 0, []), (16, .invokevirtual 240, 3, (118, 2, 10), 0, 0, [])], 19),
  (19, [false, false], [(19, .return_, 1, (0, 0, 0), 0, 0, [])], 20)]
def mp_158 : mj_M := (2, [], mb_158)
-- MacroPressModel.digits(I)I
def mb_159 : List mj_B := [(0, [true, true, false, false, false], [(0, .lconst 0, 1, (0, 0, 0), 0, 0, []), (1, .lstore_n 2, 1, (2, 0, 0), 0, 0, []), (2, .iload_n 1, 1, (1, 0, 0), 0, 0, []), (3, .istore 4, 2, (4, 0, 0), 0, 0, [])], 5),
  (5, [true, false, true, false, true], [(5, .iload 4, 2, (4, 0, 0), 0, 0, []), (7, .invokestatic 333, 3, (157, 1, 0), 0, 0, []), (10, .ifCond .eq (51), 3, (61, 0, 0), 0, 0, [])], 13),
  (13, [true, false, true, false, true], [(13, .aload_n 0, 1, (0, 0, 0), 0, 0, []), (14, .getfield 91, 3, (10, 39, 0), 0, 0, []), (17, .ifCond .ne (44), 3, (61, 0, 0), 0, 0, [])], 20),
  (20, [true, false, true, false, true], [(20, .ldc2_w 282, 3, (0, 0, 0), 0, 10, []), (23, .lload_n 2, 1, (2, 0, 0), 0, 0, []), (24, .lmul, 1, (0, 0, 0), 0, 0, []), (25, .iload 4, 2, (4, 0, 0), 0, 0, []), (27, .sipush (256), 3, (0, 0, 0), 256, 0, []), (30, .irem, 1, (0, 0, 0), 0, 0, []), (31, .i2l, 1, (0, 0, 0), 0, 0, []), (32, .ladd, 1, (0, 0, 0), 0, 0, []), (33, .ldc2_w 280, 3, (0, 0, 0), 0, 48, []), (36, .lsub, 1, (0, 0, 0), 0, 0, []), (37, .lstore_n 2, 1, (2, 0, 0), 0, 0, []), (38, .lload_n 2, 1, (2, 0, 0), 0, 0, []), (39, .ldc2_w 336, 3, (0, 0, 0), 0, 2147483647, []), (42, .lcmp, 1, (0, 0, 0), 0, 0, []), (43, .ifCond .le (9), 3, (52, 0, 0), 0, 0, [])], 46),
  (46, [true, false, true, false, false], [(46, .aload_n 0, 1, (0, 0, 0), 0, 0, []), (47, .bipush (7), 2, (0, 0, 0), 7, 0, []), (49, .invokevirtual 160, 3, (106, 2, 10), 0, 0, [])], 52),
  (52, [true, false, true, false, false], [(52, .aload_n 0, 1, (0, 0, 0), 0, 0, []), (53, .invokevirtual 214, 3, (129, 1, 10), 0, 0, []), (56, .istore 4, 2, (4, 0, 0), 0, 0, []), (58, .goto (-53), 3, (5, 0, 0), 0, 0, [])], 61),
  (61, [true, false, true, false, true], [(61, .aload_n 0, 1, (0, 0, 0), 0, 0, []), (62, .getfield 91, 3, (10, 39, 0), 0, 0, []), (65, .ifCond .ne (19), 3, (84, 0, 0), 0, 0, [])], 68),
  (68, [true, false, true, false, true], [(68, .iload 4, 2, (4, 0, 0), 0, 0, []), (70, .bipush (10), 2, (0, 0, 0), 10, 0, []), (72, .invokestatic 220, 3, (121, 2, 0), 0, 0, []), (75, .ifCond .ne (9), 3, (84, 0, 0), 0, 0, [])], 78),
  (78, [true, false, true, false, true], [(78, .aload_n 0, 1, (0, 0, 0), 0, 0, []), (79, .iload 4, 2, (4, 0, 0), 0, 0, []), (81, .invokevirtual 240, 3, (118, 2, 10), 0, 0, [])], 84),
  (84, [true, false, true, false, false], [(84, .aload_n 0, 1, (0, 0, 0), 0, 0, []), (85, .getfield 91, 3, (10, 39, 0), 0, 0, []), (88, .ifCond .le (7), 3, (95, 0, 0), 0, 0, [])], 91),
  (91, [false, false, false, false, false], [(91, .iconst (0), 1, (0, 0, 0), 0, 0, []), (92, .goto (5), 3, (97, 0, 0), 0, 0, [])], 95),
  (95, [false, false, true, false, false], [(95, .lload_n 2, 1, (2, 0, 0), 0, 0, []), (96, .l2i, 1, (0, 0, 0), 0, 0, [])], 97),
  (97, [false, false, false, false, false], [(97, .ireturn, 1, (0, 0, 0), 0, 0, [])], 98)]
def mp_159 : mj_M := (5, [], mb_159)
-- MacroPressModel.quoted()I
def mb_160 : List mj_B := [(0, [true, false, false, false, false], [(0, .aload_n 0, 1, (0, 0, 0), 0, 0, []), (1, .invokevirtual 237, 3, (117, 1, 10), 0, 0, []), (4, .istore_n 1, 1, (1, 0, 0), 0, 0, []), (5, .aload_n 0, 1, (0, 0, 0), 0, 0, []), (6, .getfield 91, 3, (10, 39, 0), 0, 0, []), (9, .ifCond .le (5), 3, (14, 0, 0), 0, 0, [])], 12),
  (12, [false, false, false, false, false], [(12, .iconst (0), 1, (0, 0, 0), 0, 0, []), (13, .ireturn, 1, (0, 0, 0), 0, 0, [])], 14),
  (14, [true, true, false, false, false], [(14, .iload_n 1, 1, (1, 0, 0), 0, 0, []), (15, .invokestatic 194, 3, (123, 1, 0), 0, 0, []), (18, .istore_n 2, 1, (2, 0, 0), 0, 0, []), (19, .iload_n 2, 1, (2, 0, 0), 0, 0, []), (20, .sipush (256), 3, (0, 0, 0), 256, 0, []), (23, .irem, 1, (0, 0, 0), 0, 0, []), (24, .istore_n 3, 1, (3, 0, 0), 0, 0, []), (25, .iload_n 2, 1, (2, 0, 0), 0, 0, []), (26, .ldc 159, 2, (0, 0, 0), 65536, 0, []), (28, .if_icmp .lt (49), 3, (77, 0, 0), 0, 0, [])], 31),
  (31, [true, false, true, true, false], [(31, .iload_n 2, 1, (2, 0, 0), 0, 0, []), (32, .ldc 182, 2, (0, 0, 0), 131072, 0, []), (34, .if_icmp .ge (43), 3, (77, 0, 0), 0, 0, [])], 37),
  (37, [true, false, true, false, false], [(37, .iload_n 2, 1, (2, 0, 0), 0, 0, []), (38, .ldc 159, 2, (0, 0, 0), 65536, 0, []), (40, .isub, 1, (0, 0, 0), 0, 0, []), (41, .istore 4, 2, (4, 0, 0), 0, 0, []), (43, .aload_n 0, 1, (0, 0, 0), 0, 0, []), (44, .getfield 24, 3, (10, 13, 2), 0, 0, []), (47, .iload 4, 2, (4, 0, 0), 0, 0, []), (49, .iaload, 1, (0, 0, 0), 0, 0, []), (50, .iconst (1), 1, (0, 0, 0), 1, 0, []), (51, .if_icmp .eq (11), 3, (62, 0, 0), 0, 0, [])], 54),
  (54, [true, false, false, false, false], [(54, .aload_n 0, 1, (0, 0, 0), 0, 0, []), (55, .bipush (6), 2, (0, 0, 0), 6, 0, []), (57, .invokevirtual 160, 3, (106, 2, 10), 0, 0, []), (60, .iconst (0), 1, (0, 0, 0), 0, 0, []), (61, .ireturn, 1, (0, 0, 0), 0, 0, [])], 62),
  (62, [true, false, false, false, true], [(62, .aload_n 0, 1, (0, 0, 0), 0, 0, []), (63, .getfield 21, 3, (10, 12, 2), 0, 0, []), (66, .bipush (40), 2, (0, 0, 0), 40, 0, []), (68, .iload 4, 2, (4, 0, 0), 0, 0, []), (70, .imul, 1, (0, 0, 0), 0, 0, []), (71, .baload, 1, (0, 0, 4), 0, 0, []), (72, .sipush (255), 3, (0, 0, 0), 255, 0, []), (75, .iand, 1, (0, 0, 0), 0, 0, []), (76, .istore_n 3, 1, (3, 0, 0), 0, 0, [])], 77),
  (77, [true, false, false, true, false], [(77, .aload_n 0, 1, (0, 0, 0), 0, 0, []), (78, .invokevirtual 338, 3, (158, 1, 10), 0, 0, []), (81, .iload_n 3, 1, (3, 0, 0), 0, 0, []), (82, .ireturn, 1, (0, 0, 0), 0, 0, [])], 83)]
def mp_160 : mj_M := (5, [], mb_160)
-- MacroPressModel.number()I
def mb_161 : List mj_B := [(0, [true, false], [(0, .aload_n 0, 1, (0, 0, 0), 0, 0, []), (1, .getfield 124, 3, (10, 38, 0), 0, 0, []), (4, .bipush (40), 2, (0, 0, 0), 40, 0, []), (6, .if_icmp .ne (8), 3, (14, 0, 0), 0, 0, [])], 9),
  (9, [true, false], [(9, .aload_n 0, 1, (0, 0, 0), 0, 0, []), (10, .iconst (3), 1, (0, 0, 0), 3, 0, []), (11, .invokevirtual 160, 3, (106, 2, 10), 0, 0, [])], 14),
  (14, [true, false], [(14, .aload_n 0, 1, (0, 0, 0), 0, 0, []), (15, .getfield 91, 3, (10, 39, 0), 0, 0, []), (18, .ifCond .le (5), 3, (23, 0, 0), 0, 0, [])], 21),
  (21, [false, false], [(21, .iconst (0), 1, (0, 0, 0), 0, 0, []), (22, .ireturn, 1, (0, 0, 0), 0, 0, [])], 23),
  (23, [true, false], [(23, .aload_n 0, 1, (0, 0, 0), 0, 0, []), (24, .dup, 1, (0, 0, 0), 0, 0, []), (25, .getfield 124, 3, (10, 38, 0), 0, 0, []), (28, .iconst (1), 1, (0, 0, 0), 1, 0, []), (29, .iadd, 1, (0, 0, 0), 0, 0, []), (30, .putfield 124, 3, (10, 38, 0), 0, 0, []), (33, .aload_n 0, 1, (0, 0, 0), 0, 0, []), (34, .invokevirtual 341, 3, (162, 1, 10), 0, 0, []), (37, .istore_n 1, 1, (1, 0, 0), 0, 0, []), (38, .aload_n 0, 1, (0, 0, 0), 0, 0, []), (39, .dup, 1, (0, 0, 0), 0, 0, []), (40, .getfield 124, 3, (10, 38, 0), 0, 0, []), (43, .iconst (1), 1, (0, 0, 0), 1, 0, []), (44, .isub, 1, (0, 0, 0), 0, 0, []), (45, .putfield 124, 3, (10, 38, 0), 0, 0, []), (48, .iload_n 1, 1, (1, 0, 0), 0, 0, []), (49, .ireturn, 1, (0, 0, 0), 0, 0, [])], 50)]
def mp_161 : mj_M := (2, [], mb_161)
-- MacroPressModel.primary()I
def mb_162 : List mj_B := [(0, [true, false, false, false], [(0, .iconst (0), 1, (0, 0, 0), 0, 0, []), (1, .istore_n 1, 1, (1, 0, 0), 0, 0, []), (2, .aload_n 0, 1, (0, 0, 0), 0, 0, []), (3, .invokevirtual 217, 3, (130, 1, 10), 0, 0, []), (6, .istore_n 2, 1, (2, 0, 0), 0, 0, [])], 7),
  (7, [true, true, true, false], [(7, .iload_n 2, 1, (2, 0, 0), 0, 0, []), (8, .bipush (10), 2, (0, 0, 0), 10, 0, []), (10, .invokestatic 220, 3, (121, 2, 0), 0, 0, []), (13, .ifCond .ne (25), 3, (38, 0, 0), 0, 0, [])], 16),
  (16, [true, true, true, false], [(16, .iload_n 2, 1, (2, 0, 0), 0, 0, []), (17, .bipush (12), 2, (0, 0, 0), 12, 0, []), (19, .bipush (43), 2, (0, 0, 0), 43, 0, []), (21, .invokestatic 322, 3, (120, 3, 0), 0, 0, []), (24, .ifCond .ne (14), 3, (38, 0, 0), 0, 0, [])], 27),
  (27, [true, true, true, false], [(27, .iload_n 2, 1, (2, 0, 0), 0, 0, []), (28, .bipush (12), 2, (0, 0, 0), 12, 0, []), (30, .bipush (45), 2, (0, 0, 0), 45, 0, []), (32, .invokestatic 322, 3, (120, 3, 0), 0, 0, []), (35, .ifCond .eq (29), 3, (64, 0, 0), 0, 0, [])], 38),
  (38, [true, true, true, false], [(38, .iload_n 2, 1, (2, 0, 0), 0, 0, []), (39, .bipush (12), 2, (0, 0, 0), 12, 0, []), (41, .bipush (45), 2, (0, 0, 0), 45, 0, []), (43, .invokestatic 322, 3, (120, 3, 0), 0, 0, []), (46, .iload_n 1, 1, (1, 0, 0), 0, 0, []), (47, .if_icmp .eq (7), 3, (54, 0, 0), 0, 0, [])], 50),
  (50, [true, false, false, false], [(50, .iconst (1), 1, (0, 0, 0), 1, 0, []), (51, .goto (4), 3, (55, 0, 0), 0, 0, [])], 54),
  (54, [true, false, false, false], [(54, .iconst (0), 1, (0, 0, 0), 0, 0, [])], 55),
  (55, [true, false, false, false], [(55, .istore_n 1, 1, (1, 0, 0), 0, 0, []), (56, .aload_n 0, 1, (0, 0, 0), 0, 0, []), (57, .invokevirtual 217, 3, (130, 1, 10), 0, 0, []), (60, .istore_n 2, 1, (2, 0, 0), 0, 0, []), (61, .goto (-54), 3, (7, 0, 0), 0, 0, [])], 64),
  (64, [true, true, true, false], [(64, .aload_n 0, 1, (0, 0, 0), 0, 0, []), (65, .getfield 91, 3, (10, 39, 0), 0, 0, []), (68, .ifCond .le (5), 3, (73, 0, 0), 0, 0, [])], 71),
  (71, [false, false, false, false], [(71, .iconst (0), 1, (0, 0, 0), 0, 0, []), (72, .ireturn, 1, (0, 0, 0), 0, 0, [])], 73),
  (73, [true, true, true, false], [(73, .iconst (0), 1, (0, 0, 0), 0, 0, []), (74, .istore_n 3, 1, (3, 0, 0), 0, 0, []), (75, .iload_n 2, 1, (2, 0, 0), 0, 0, []), (76, .invokestatic 333, 3, (157, 1, 0), 0, 0, []), (79, .ifCond .eq (12), 3, (91, 0, 0), 0, 0, [])], 82),
  (82, [true, true, true, false], [(82, .aload_n 0, 1, (0, 0, 0), 0, 0, []), (83, .iload_n 2, 1, (2, 0, 0), 0, 0, []), (84, .invokevirtual 344, 3, (159, 2, 10), 0, 0, []), (87, .istore_n 3, 1, (3, 0, 0), 0, 0, []), (88, .goto (45), 3, (133, 0, 0), 0, 0, [])], 91),
  (91, [true, true, true, true], [(91, .iload_n 2, 1, (2, 0, 0), 0, 0, []), (92, .bipush (12), 2, (0, 0, 0), 12, 0, []), (94, .bipush (96), 2, (0, 0, 0), 96, 0, []), (96, .invokestatic 322, 3, (120, 3, 0), 0, 0, []), (99, .ifCond .eq (11), 3, (110, 0, 0), 0, 0, [])], 102),
  (102, [true, true, false, false], [(102, .aload_n 0, 1, (0, 0, 0), 0, 0, []), (103, .invokevirtual 347, 3, (160, 1, 10), 0, 0, []), (106, .istore_n 3, 1, (3, 0, 0), 0, 0, []), (107, .goto (26), 3, (133, 0, 0), 0, 0, [])], 110),
  (110, [true, true, true, true], [(110, .aload_n 0, 1, (0, 0, 0), 0, 0, []), (111, .iload_n 2, 1, (2, 0, 0), 0, 0, []), (112, .invokevirtual 258, 3, (154, 2, 10), 0, 0, []), (115, .ifCond .eq (12), 3, (127, 0, 0), 0, 0, [])], 118),
  (118, [true, true, true, false], [(118, .aload_n 0, 1, (0, 0, 0), 0, 0, []), (119, .iload_n 2, 1, (2, 0, 0), 0, 0, []), (120, .invokevirtual 261, 3, (156, 2, 10), 0, 0, []), (123, .istore_n 3, 1, (3, 0, 0), 0, 0, []), (124, .goto (9), 3, (133, 0, 0), 0, 0, [])], 127),
  (127, [true, true, false, true], [(127, .aload_n 0, 1, (0, 0, 0), 0, 0, []), (128, .bipush (6), 2, (0, 0, 0), 6, 0, []), (130, .invokevirtual 160, 3, (106, 2, 10), 0, 0, [])], 133),
  (133, [true, true, false, true], [(133, .aload_n 0, 1, (0, 0, 0), 0, 0, []), (134, .getfield 91, 3, (10, 39, 0), 0, 0, []), (137, .ifCond .le (7), 3, (144, 0, 0), 0, 0, [])], 140),
  (140, [false, false, false, false], [(140, .iconst (0), 1, (0, 0, 0), 0, 0, []), (141, .goto (13), 3, (154, 0, 0), 0, 0, [])], 144),
  (144, [false, true, false, true], [(144, .iload_n 1, 1, (1, 0, 0), 0, 0, []), (145, .ifCond .eq (8), 3, (153, 0, 0), 0, 0, [])], 148),
  (148, [false, false, false, true], [(148, .iload_n 3, 1, (3, 0, 0), 0, 0, []), (149, .ineg, 1, (0, 0, 0), 0, 0, []), (150, .goto (4), 3, (154, 0, 0), 0, 0, [])], 153),
  (153, [false, false, false, true], [(153, .iload_n 3, 1, (3, 0, 0), 0, 0, [])], 154),
  (154, [false, false, false, false], [(154, .ireturn, 1, (0, 0, 0), 0, 0, [])], 155)]
def mp_162 : mj_M := (4, [], mb_162)
-- MacroPressModel.write(I)V
def mb_163 : List mj_B := [(0, [true, true], [(0, .aload_n 0, 1, (0, 0, 0), 0, 0, []), (1, .getfield 134, 3, (10, 3, 0), 0, 0, []), (4, .sipush (8000), 3, (0, 0, 0), 8000, 0, []), (7, .if_icmp .ne (11), 3, (18, 0, 0), 0, 0, [])], 10),
  (10, [true, false], [(10, .aload_n 0, 1, (0, 0, 0), 0, 0, []), (11, .iconst (2), 1, (0, 0, 0), 2, 0, []), (12, .invokevirtual 160, 3, (106, 2, 10), 0, 0, []), (15, .goto (24), 3, (39, 0, 0), 0, 0, [])], 18),
  (18, [true, true], [(18, .aload_n 0, 1, (0, 0, 0), 0, 0, []), (19, .getfield 13, 3, (10, 4, 2), 0, 0, []), (22, .aload_n 0, 1, (0, 0, 0), 0, 0, []), (23, .getfield 134, 3, (10, 3, 0), 0, 0, []), (26, .iload_n 1, 1, (1, 0, 0), 0, 0, []), (27, .i2b, 1, (0, 0, 0), 0, 0, []), (28, .bastore, 1, (0, 0, 4), 0, 0, []), (29, .aload_n 0, 1, (0, 0, 0), 0, 0, []), (30, .dup, 1, (0, 0, 0), 0, 0, []), (31, .getfield 134, 3, (10, 3, 0), 0, 0, []), (34, .iconst (1), 1, (0, 0, 0), 1, 0, []), (35, .iadd, 1, (0, 0, 0), 0, 0, []), (36, .putfield 134, 3, (10, 3, 0), 0, 0, [])], 39),
  (39, [false, false], [(39, .return_, 1, (0, 0, 0), 0, 0, [])], 40)]
def mp_163 : mj_M := (2, [], mb_163)
-- MacroPressModel.openGroup(Z)V
def mb_164 : List mj_B := [(0, [true, true, false], [(0, .aload_n 0, 1, (0, 0, 0), 0, 0, []), (1, .getfield 109, 3, (10, 17, 0), 0, 0, []), (4, .bipush (100), 2, (0, 0, 0), 100, 0, []), (6, .if_icmp .ne (9), 3, (15, 0, 0), 0, 0, [])], 9),
  (9, [true, false, false], [(9, .aload_n 0, 1, (0, 0, 0), 0, 0, []), (10, .iconst (2), 1, (0, 0, 0), 2, 0, []), (11, .invokevirtual 160, 3, (106, 2, 10), 0, 0, []), (14, .return_, 1, (0, 0, 0), 0, 0, [])], 15),
  (15, [true, true, false], [(15, .iconst (0), 1, (0, 0, 0), 0, 0, []), (16, .istore_n 2, 1, (2, 0, 0), 0, 0, [])], 17),
  (17, [true, true, true], [(17, .iload_n 2, 1, (2, 0, 0), 0, 0, []), (18, .sipush (1400), 3, (0, 0, 0), 1400, 0, []), (21, .if_icmp .ge (41), 3, (62, 0, 0), 0, 0, [])], 24),
  (24, [true, true, true], [(24, .aload_n 0, 1, (0, 0, 0), 0, 0, []), (25, .getfield 38, 3, (10, 19, 2), 0, 0, []), (28, .sipush (1400), 3, (0, 0, 0), 1400, 0, []), (31, .aload_n 0, 1, (0, 0, 0), 0, 0, []), (32, .getfield 109, 3, (10, 17, 0), 0, 0, []), (35, .iconst (1), 1, (0, 0, 0), 1, 0, []), (36, .iadd, 1, (0, 0, 0), 0, 0, []), (37, .imul, 1, (0, 0, 0), 0, 0, []), (38, .iload_n 2, 1, (2, 0, 0), 0, 0, []), (39, .iadd, 1, (0, 0, 0), 0, 0, []), (40, .aload_n 0, 1, (0, 0, 0), 0, 0, []), (41, .getfield 38, 3, (10, 19, 2), 0, 0, []), (44, .sipush (1400), 3, (0, 0, 0), 1400, 0, []), (47, .aload_n 0, 1, (0, 0, 0), 0, 0, []), (48, .getfield 109, 3, (10, 17, 0), 0, 0, []), (51, .imul, 1, (0, 0, 0), 0, 0, []), (52, .iload_n 2, 1, (2, 0, 0), 0, 0, []), (53, .iadd, 1, (0, 0, 0), 0, 0, []), (54, .iaload, 1, (0, 0, 0), 0, 0, []), (55, .iastore, 1, (0, 0, 0), 0, 0, []), (56, .iinc 2 (1), 3, (2, 0, 0), 1, 0, []), (59, .goto (-42), 3, (17, 0, 0), 0, 0, [])], 62),
  (62, [true, true, false], [(62, .iconst (0), 1, (0, 0, 0), 0, 0, []), (63, .istore_n 2, 1, (2, 0, 0), 0, 0, [])], 64),
  (64, [true, true, true], [(64, .iload_n 2, 1, (2, 0, 0), 0, 0, []), (65, .sipush (256), 3, (0, 0, 0), 256, 0, []), (68, .if_icmp .ge (73), 3, (141, 0, 0), 0, 0, [])], 71),
  (71, [true, true, true], [(71, .aload_n 0, 1, (0, 0, 0), 0, 0, []), (72, .getfield 41, 3, (10, 20, 2), 0, 0, []), (75, .sipush (256), 3, (0, 0, 0), 256, 0, []), (78, .aload_n 0, 1, (0, 0, 0), 0, 0, []), (79, .getfield 109, 3, (10, 17, 0), 0, 0, []), (82, .iconst (1), 1, (0, 0, 0), 1, 0, []), (83, .iadd, 1, (0, 0, 0), 0, 0, []), (84, .imul, 1, (0, 0, 0), 0, 0, []), (85, .iload_n 2, 1, (2, 0, 0), 0, 0, []), (86, .iadd, 1, (0, 0, 0), 0, 0, []), (87, .aload_n 0, 1, (0, 0, 0), 0, 0, []), (88, .getfield 41, 3, (10, 20, 2), 0, 0, []), (91, .sipush (256), 3, (0, 0, 0), 256, 0, []), (94, .aload_n 0, 1, (0, 0, 0), 0, 0, []), (95, .getfield 109, 3, (10, 17, 0), 0, 0, []), (98, .imul, 1, (0, 0, 0), 0, 0, []), (99, .iload_n 2, 1, (2, 0, 0), 0, 0, []), (100, .iadd, 1, (0, 0, 0), 0, 0, []), (101, .iaload, 1, (0, 0, 0), 0, 0, []), (102, .iastore, 1, (0, 0, 0), 0, 0, []), (103, .aload_n 0, 1, (0, 0, 0), 0, 0, []), (104, .getfield 44, 3, (10, 21, 2), 0, 0, []), (107, .sipush (256), 3, (0, 0, 0), 256, 0, []), (110, .aload_n 0, 1, (0, 0, 0), 0, 0, []), (111, .getfield 109, 3, (10, 17, 0), 0, 0, []), (114, .iconst (1), 1, (0, 0, 0), 1, 0, []), (115, .iadd, 1, (0, 0, 0), 0, 0, []), (116, .imul, 1, (0, 0, 0), 0, 0, []), (117, .iload_n 2, 1, (2, 0, 0), 0, 0, []), (118, .iadd, 1, (0, 0, 0), 0, 0, []), (119, .aload_n 0, 1, (0, 0, 0), 0, 0, []), (120, .getfield 44, 3, (10, 21, 2), 0, 0, []), (123, .sipush (256), 3, (0, 0, 0), 256, 0, []), (126, .aload_n 0, 1, (0, 0, 0), 0, 0, []), (127, .getfield 109, 3, (10, 17, 0), 0, 0, []), (130, .imul, 1, (0, 0, 0), 0, 0, []), (131, .iload_n 2, 1, (2, 0, 0), 0, 0, []), (132, .iadd, 1, (0, 0, 0), 0, 0, []), (133, .iaload, 1, (0, 0, 0), 0, 0, []), (134, .iastore, 1, (0, 0, 0), 0, 0, []), (135, .iinc 2 (1), 3, (2, 0, 0), 1, 0, []), (138, .goto (-74), 3, (64, 0, 0), 0, 0, [])], 141),
  (141, [true, true, false], [(141, .aload_n 0, 1, (0, 0, 0), 0, 0, []), (142, .dup, 1, (0, 0, 0), 0, 0, []), (143, .getfield 109, 3, (10, 17, 0), 0, 0, []), (146, .iconst (1), 1, (0, 0, 0), 1, 0, []), (147, .iadd, 1, (0, 0, 0), 0, 0, []), (148, .putfield 109, 3, (10, 17, 0), 0, 0, []), (151, .aload_n 0, 1, (0, 0, 0), 0, 0, []), (152, .getfield 33, 3, (10, 18, 2), 0, 0, []), (155, .aload_n 0, 1, (0, 0, 0), 0, 0, []), (156, .getfield 109, 3, (10, 17, 0), 0, 0, []), (159, .iload_n 1, 1, (1, 0, 0), 0, 0, []), (160, .bastore, 1, (0, 0, 3), 0, 0, []), (161, .return_, 1, (0, 0, 0), 0, 0, [])], 162)]
def mp_164 : mj_M := (3, [], mb_164)
-- MacroPressModel.closeGroup(Z)V
def mb_165 : List mj_B := [(0, [true, true], [(0, .aload_n 0, 1, (0, 0, 0), 0, 0, []), (1, .getfield 109, 3, (10, 17, 0), 0, 0, []), (4, .ifCond .eq (16), 3, (20, 0, 0), 0, 0, [])], 7),
  (7, [true, true], [(7, .aload_n 0, 1, (0, 0, 0), 0, 0, []), (8, .getfield 33, 3, (10, 18, 2), 0, 0, []), (11, .aload_n 0, 1, (0, 0, 0), 0, 0, []), (12, .getfield 109, 3, (10, 17, 0), 0, 0, []), (15, .baload, 1, (0, 0, 3), 0, 0, []), (16, .iload_n 1, 1, (1, 0, 0), 0, 0, []), (17, .if_icmp .eq (12), 3, (29, 0, 0), 0, 0, [])], 20),
  (20, [true, false], [(20, .aload_n 0, 1, (0, 0, 0), 0, 0, []), (21, .bipush (13), 2, (0, 0, 0), 13, 0, []), (23, .invokevirtual 160, 3, (106, 2, 10), 0, 0, []), (26, .goto (13), 3, (39, 0, 0), 0, 0, [])], 29),
  (29, [true, false], [(29, .aload_n 0, 1, (0, 0, 0), 0, 0, []), (30, .dup, 1, (0, 0, 0), 0, 0, []), (31, .getfield 109, 3, (10, 17, 0), 0, 0, []), (34, .iconst (1), 1, (0, 0, 0), 1, 0, []), (35, .isub, 1, (0, 0, 0), 0, 0, []), (36, .putfield 109, 3, (10, 17, 0), 0, 0, [])], 39),
  (39, [false, false], [(39, .return_, 1, (0, 0, 0), 0, 0, [])], 40)]
def mp_165 : mj_M := (2, [], mb_165)
-- MacroPressModel.doCharacter(I)V
def mb_166 : List mj_B := [(0, [true, true, false], [(0, .iload_n 1, 1, (1, 0, 0), 0, 0, []), (1, .sipush (256), 3, (0, 0, 0), 256, 0, []), (4, .idiv, 1, (0, 0, 0), 0, 0, []), (5, .istore_n 2, 1, (2, 0, 0), 0, 0, []), (6, .iload_n 2, 1, (2, 0, 0), 0, 0, []), (7, .iconst (1), 1, (0, 0, 0), 1, 0, []), (8, .if_icmp .ne (11), 3, (19, 0, 0), 0, 0, [])], 11),
  (11, [true, false, false], [(11, .aload_n 0, 1, (0, 0, 0), 0, 0, []), (12, .iconst (1), 1, (0, 0, 0), 1, 0, []), (13, .invokevirtual 350, 3, (164, 2, 10), 0, 0, []), (16, .goto (40), 3, (56, 0, 0), 0, 0, [])], 19),
  (19, [true, true, true], [(19, .iload_n 2, 1, (2, 0, 0), 0, 0, []), (20, .iconst (2), 1, (0, 0, 0), 2, 0, []), (21, .if_icmp .ne (11), 3, (32, 0, 0), 0, 0, [])], 24),
  (24, [true, false, false], [(24, .aload_n 0, 1, (0, 0, 0), 0, 0, []), (25, .iconst (1), 1, (0, 0, 0), 1, 0, []), (26, .invokevirtual 354, 3, (165, 2, 10), 0, 0, []), (29, .goto (27), 3, (56, 0, 0), 0, 0, [])], 32),
  (32, [true, true, true], [(32, .iload_n 2, 1, (2, 0, 0), 0, 0, []), (33, .bipush (6), 2, (0, 0, 0), 6, 0, []), (35, .if_icmp .ne (12), 3, (47, 0, 0), 0, 0, [])], 38),
  (38, [true, false, false], [(38, .aload_n 0, 1, (0, 0, 0), 0, 0, []), (39, .bipush (12), 2, (0, 0, 0), 12, 0, []), (41, .invokevirtual 160, 3, (106, 2, 10), 0, 0, []), (44, .goto (12), 3, (56, 0, 0), 0, 0, [])], 47),
  (47, [true, true, false], [(47, .aload_n 0, 1, (0, 0, 0), 0, 0, []), (48, .iload_n 1, 1, (1, 0, 0), 0, 0, []), (49, .sipush (256), 3, (0, 0, 0), 256, 0, []), (52, .irem, 1, (0, 0, 0), 0, 0, []), (53, .invokevirtual 357, 3, (163, 2, 10), 0, 0, [])], 56),
  (56, [false, false, false], [(56, .return_, 1, (0, 0, 0), 0, 0, [])], 57)]
def mp_166 : mj_M := (3, [], mb_166)
-- MacroPressModel.done(I)V
def mb_167 : List mj_B := [(0, [true, true, false], [(0, .aload_n 0, 1, (0, 0, 0), 0, 0, []), (1, .iload_n 1, 1, (1, 0, 0), 0, 0, []), (2, .invokevirtual 204, 3, (125, 2, 10), 0, 0, []), (5, .istore_n 2, 1, (2, 0, 0), 0, 0, []), (6, .iload_n 2, 1, (2, 0, 0), 0, 0, []), (7, .ifCond .ne (12), 3, (19, 0, 0), 0, 0, [])], 10),
  (10, [true, false, false], [(10, .aload_n 0, 1, (0, 0, 0), 0, 0, []), (11, .bipush (11), 2, (0, 0, 0), 11, 0, []), (13, .invokevirtual 160, 3, (106, 2, 10), 0, 0, []), (16, .goto (49), 3, (65, 0, 0), 0, 0, [])], 19),
  (19, [true, false, true], [(19, .iload_n 2, 1, (2, 0, 0), 0, 0, []), (20, .ldc_w 318, 3, (0, 0, 0), 3000000, 0, []), (23, .if_icmp .lt (15), 3, (38, 0, 0), 0, 0, [])], 26),
  (26, [true, false, true], [(26, .aload_n 0, 1, (0, 0, 0), 0, 0, []), (27, .iload_n 2, 1, (2, 0, 0), 0, 0, []), (28, .ldc_w 318, 3, (0, 0, 0), 3000000, 0, []), (31, .isub, 1, (0, 0, 0), 0, 0, []), (32, .invokevirtual 357, 3, (163, 2, 10), 0, 0, []), (35, .goto (30), 3, (65, 0, 0), 0, 0, [])], 38),
  (38, [true, false, true], [(38, .iload_n 2, 1, (2, 0, 0), 0, 0, []), (39, .ldc 200, 2, (0, 0, 0), 2000000, 0, []), (41, .if_icmp .lt (14), 3, (55, 0, 0), 0, 0, [])], 44),
  (44, [true, false, true], [(44, .aload_n 0, 1, (0, 0, 0), 0, 0, []), (45, .iload_n 2, 1, (2, 0, 0), 0, 0, []), (46, .ldc 200, 2, (0, 0, 0), 2000000, 0, []), (48, .isub, 1, (0, 0, 0), 0, 0, []), (49, .invokevirtual 360, 3, (166, 2, 10), 0, 0, []), (52, .goto (13), 3, (65, 0, 0), 0, 0, [])], 55),
  (55, [true, false, true], [(55, .aload_n 0, 1, (0, 0, 0), 0, 0, []), (56, .iload_n 2, 1, (2, 0, 0), 0, 0, []), (57, .sipush (1000), 3, (0, 0, 0), 1000, 0, []), (60, .isub, 1, (0, 0, 0), 0, 0, []), (61, .iconst (0), 1, (0, 0, 0), 0, 0, []), (62, .invokevirtual 363, 3, (168, 3, 10), 0, 0, [])], 65),
  (65, [false, false, false], [(65, .return_, 1, (0, 0, 0), 0, 0, [])], 66)]
def mp_167 : mj_M := (3, [], mb_167)
-- MacroPressModel.doPrimitive(IZ)V
def mb_168 : List mj_B := [(0, [true, true, true, false, false, false], [(0, .iload_n 1, 1, (1, 0, 0), 0, 0, []), (1, .tableswitch (291) (18) (35) #[87, 90, 99, 107, 115, 132, 132, 132, 132, 177, 185, 225, 225, 291, 291, 291, 284, 124], 87, (292, 0, 0), 0, 0, [(18, 88), (19, 91), (20, 100), (21, 108), (22, 116), (23, 133), (24, 133), (25, 133), (26, 133), (27, 178), (28, 186), (29, 226), (30, 226), (31, 292), (32, 292), (33, 292), (34, 285), (35, 125)])], 88),
  (88, [false, false, false, false, false, false], [(88, .goto (210), 3, (298, 0, 0), 0, 0, [])], 91),
  (91, [true, false, false, false, false, false], [(91, .aload_n 0, 1, (0, 0, 0), 0, 0, []), (92, .bipush (10), 2, (0, 0, 0), 10, 0, []), (94, .invokevirtual 357, 3, (163, 2, 10), 0, 0, []), (97, .goto (201), 3, (298, 0, 0), 0, 0, [])], 100),
  (100, [true, false, false, false, false, false], [(100, .aload_n 0, 1, (0, 0, 0), 0, 0, []), (101, .iconst (0), 1, (0, 0, 0), 0, 0, []), (102, .invokevirtual 350, 3, (164, 2, 10), 0, 0, []), (105, .goto (193), 3, (298, 0, 0), 0, 0, [])], 108),
  (108, [true, false, false, false, false, false], [(108, .aload_n 0, 1, (0, 0, 0), 0, 0, []), (109, .iconst (0), 1, (0, 0, 0), 0, 0, []), (110, .invokevirtual 354, 3, (165, 2, 10), 0, 0, []), (113, .goto (185), 3, (298, 0, 0), 0, 0, [])], 116),
  (116, [true, false, false, false, false, false], [(116, .aload_n 0, 1, (0, 0, 0), 0, 0, []), (117, .bipush (6), 2, (0, 0, 0), 6, 0, []), (119, .invokevirtual 160, 3, (106, 2, 10), 0, 0, []), (122, .goto (176), 3, (298, 0, 0), 0, 0, [])], 125),
  (125, [true, false, false, false, false, false], [(125, .aload_n 0, 1, (0, 0, 0), 0, 0, []), (126, .iconst (1), 1, (0, 0, 0), 1, 0, []), (127, .putfield 127, 3, (10, 40, 3), 0, 0, []), (130, .goto (168), 3, (298, 0, 0), 0, 0, [])], 133),
  (133, [true, true, true, false, false, false], [(133, .aload_n 0, 1, (0, 0, 0), 0, 0, []), (134, .iload_n 1, 1, (1, 0, 0), 0, 0, []), (135, .bipush (24), 2, (0, 0, 0), 24, 0, []), (137, .if_icmp .eq (9), 3, (146, 0, 0), 0, 0, [])], 140),
  (140, [false, true, true, false, false, false], [(140, .iload_n 1, 1, (1, 0, 0), 0, 0, []), (141, .bipush (26), 2, (0, 0, 0), 26, 0, []), (143, .if_icmp .ne (7), 3, (150, 0, 0), 0, 0, [])], 146),
  (146, [false, true, true, false, false, false], [(146, .iconst (1), 1, (0, 0, 0), 1, 0, []), (147, .goto (4), 3, (151, 0, 0), 0, 0, [])], 150),
  (150, [false, true, true, false, false, false], [(150, .iconst (0), 1, (0, 0, 0), 0, 0, [])], 151),
  (151, [false, true, true, false, false, false], [(151, .iload_n 2, 1, (2, 0, 0), 0, 0, []), (152, .ifCond .ne (15), 3, (167, 0, 0), 0, 0, [])], 155),
  (155, [false, true, false, false, false, false], [(155, .iload_n 1, 1, (1, 0, 0), 0, 0, []), (156, .bipush (25), 2, (0, 0, 0), 25, 0, []), (158, .if_icmp .eq (9), 3, (167, 0, 0), 0, 0, [])], 161),
  (161, [false, true, false, false, false, false], [(161, .iload_n 1, 1, (1, 0, 0), 0, 0, []), (162, .bipush (26), 2, (0, 0, 0), 26, 0, []), (164, .if_icmp .ne (7), 3, (171, 0, 0), 0, 0, [])], 167),
  (167, [false, false, false, false, false, false], [(167, .iconst (1), 1, (0, 0, 0), 1, 0, []), (168, .goto (4), 3, (172, 0, 0), 0, 0, [])], 171),
  (171, [false, false, false, false, false, false], [(171, .iconst (0), 1, (0, 0, 0), 0, 0, [])], 172),
  (172, [false, false, false, false, false, false], [(172, .invokevirtual 367, 3, (177, 3, 10), 0, 0, []), (175, .goto (123), 3, (298, 0, 0), 0, 0, [])], 178),
  (178, [true, false, true, false, false, false], [(178, .aload_n 0, 1, (0, 0, 0), 0, 0, []), (179, .iload_n 2, 1, (2, 0, 0), 0, 0, []), (180, .invokevirtual 371, 3, (173, 2, 10), 0, 0, []), (183, .goto (115), 3, (298, 0, 0), 0, 0, [])], 186),
  (186, [true, false, true, false, false, false], [(186, .aload_n 0, 1, (0, 0, 0), 0, 0, []), (187, .invokevirtual 374, 3, (171, 1, 10), 0, 0, []), (190, .istore_n 3, 1, (3, 0, 0), 0, 0, []), (191, .aload_n 0, 1, (0, 0, 0), 0, 0, []), (192, .invokevirtual 377, 3, (172, 1, 10), 0, 0, []), (195, .aload_n 0, 1, (0, 0, 0), 0, 0, []), (196, .sipush (255), 3, (0, 0, 0), 255, 0, []), (199, .invokevirtual 330, 3, (155, 2, 10), 0, 0, []), (202, .istore 4, 2, (4, 0, 0), 0, 0, []), (204, .aload_n 0, 1, (0, 0, 0), 0, 0, []), (205, .getfield 91, 3, (10, 39, 0), 0, 0, []), (208, .ifCond .ne (90), 3, (298, 0, 0), 0, 0, [])], 211),
  (211, [true, false, true, true, true, false], [(211, .aload_n 0, 1, (0, 0, 0), 0, 0, []), (212, .iload_n 3, 1, (3, 0, 0), 0, 0, []), (213, .ldc_w 318, 3, (0, 0, 0), 3000000, 0, []), (216, .iload 4, 2, (4, 0, 0), 0, 0, []), (218, .iadd, 1, (0, 0, 0), 0, 0, []), (219, .iload_n 2, 1, (2, 0, 0), 0, 0, []), (220, .invokevirtual 273, 3, (128, 4, 10), 0, 0, []), (223, .goto (75), 3, (298, 0, 0), 0, 0, [])], 226),
  (226, [true, true, true, false, false, false], [(226, .aload_n 0, 1, (0, 0, 0), 0, 0, []), (227, .sipush (255), 3, (0, 0, 0), 255, 0, []), (230, .invokevirtual 330, 3, (155, 2, 10), 0, 0, []), (233, .istore 5, 2, (5, 0, 0), 0, 0, []), (235, .aload_n 0, 1, (0, 0, 0), 0, 0, []), (236, .invokevirtual 377, 3, (172, 1, 10), 0, 0, []), (239, .aload_n 0, 1, (0, 0, 0), 0, 0, []), (240, .iload_n 1, 1, (1, 0, 0), 0, 0, []), (241, .bipush (29), 2, (0, 0, 0), 29, 0, []), (243, .if_icmp .ne (10), 3, (253, 0, 0), 0, 0, [])], 246),
  (246, [true, true, true, false, false, true], [(246, .aload_n 0, 1, (0, 0, 0), 0, 0, []), (247, .getfield 41, 3, (10, 20, 2), 0, 0, []), (250, .goto (7), 3, (257, 0, 0), 0, 0, [])], 253),
  (253, [true, true, true, false, false, true], [(253, .aload_n 0, 1, (0, 0, 0), 0, 0, []), (254, .getfield 44, 3, (10, 21, 2), 0, 0, [])], 257),
  (257, [true, true, true, false, false, true], [(257, .iload 5, 2, (5, 0, 0), 0, 0, []), (259, .iload_n 1, 1, (1, 0, 0), 0, 0, []), (260, .bipush (29), 2, (0, 0, 0), 29, 0, []), (262, .if_icmp .ne (10), 3, (272, 0, 0), 0, 0, [])], 265),
  (265, [true, false, true, false, false, false], [(265, .aload_n 0, 1, (0, 0, 0), 0, 0, []), (266, .invokevirtual 249, 3, (161, 1, 10), 0, 0, []), (269, .goto (9), 3, (278, 0, 0), 0, 0, [])], 272),
  (272, [true, false, true, false, false, false], [(272, .aload_n 0, 1, (0, 0, 0), 0, 0, []), (273, .bipush (15), 2, (0, 0, 0), 15, 0, []), (275, .invokevirtual 330, 3, (155, 2, 10), 0, 0, [])], 278),
  (278, [false, false, true, false, false, false], [(278, .iload_n 2, 1, (2, 0, 0), 0, 0, []), (279, .invokevirtual 380, 3, (169, 5, 10), 0, 0, []), (282, .goto (16), 3, (298, 0, 0), 0, 0, [])], 285),
  (285, [true, false, false, false, false, false], [(285, .aload_n 0, 1, (0, 0, 0), 0, 0, []), (286, .invokevirtual 384, 3, (170, 1, 10), 0, 0, []), (289, .goto (9), 3, (298, 0, 0), 0, 0, [])], 292),
  (292, [true, true, true, false, false, false], [(292, .aload_n 0, 1, (0, 0, 0), 0, 0, []), (293, .iload_n 1, 1, (1, 0, 0), 0, 0, []), (294, .iload_n 2, 1, (2, 0, 0), 0, 0, []), (295, .invokevirtual 387, 3, (175, 3, 10), 0, 0, [])], 298),
  (298, [false, false, false, false, false, false], [(298, .return_, 1, (0, 0, 0), 0, 0, [])], 299)]
def mp_168 : mj_M := (6, [], mb_168)
-- MacroPressModel.setAt([IIIZ)V
def mb_169 : List mj_B := [(0, [true, true, true, true, true, false], [(0, .iload 4, 2, (4, 0, 0), 0, 0, []), (2, .ifCond .eq (7), 3, (9, 0, 0), 0, 0, [])], 5),
  (5, [true, true, true, true, false, false], [(5, .iconst (0), 1, (0, 0, 0), 0, 0, []), (6, .goto (7), 3, (13, 0, 0), 0, 0, [])], 9),
  (9, [true, true, true, true, false, false], [(9, .aload_n 0, 1, (0, 0, 0), 0, 0, []), (10, .getfield 109, 3, (10, 17, 0), 0, 0, [])], 13),
  (13, [true, true, true, true, false, false], [(13, .istore 5, 2, (5, 0, 0), 0, 0, [])], 15),
  (15, [true, true, true, true, false, true], [(15, .iload 5, 2, (5, 0, 0), 0, 0, []), (17, .aload_n 0, 1, (0, 0, 0), 0, 0, []), (18, .getfield 109, 3, (10, 17, 0), 0, 0, []), (21, .if_icmp .gt (27), 3, (48, 0, 0), 0, 0, [])], 24),
  (24, [true, true, true, true, false, true], [(24, .aload_n 0, 1, (0, 0, 0), 0, 0, []), (25, .getfield 91, 3, (10, 39, 0), 0, 0, []), (28, .ifCond .ne (20), 3, (48, 0, 0), 0, 0, [])], 31),
  (31, [true, true, true, true, false, true], [(31, .aload_n 1, 1, (1, 0, 0), 0, 0, []), (32, .sipush (256), 3, (0, 0, 0), 256, 0, []), (35, .iload 5, 2, (5, 0, 0), 0, 0, []), (37, .imul, 1, (0, 0, 0), 0, 0, []), (38, .iload_n 2, 1, (2, 0, 0), 0, 0, []), (39, .iadd, 1, (0, 0, 0), 0, 0, []), (40, .iload_n 3, 1, (3, 0, 0), 0, 0, []), (41, .iastore, 1, (0, 0, 0), 0, 0, []), (42, .iinc 5 (1), 3, (5, 0, 0), 1, 0, []), (45, .goto (-30), 3, (15, 0, 0), 0, 0, [])], 48),
  (48, [false, false, false, false, false, false], [(48, .return_, 1, (0, 0, 0), 0, 0, [])], 49)]
def mp_169 : mj_M := (6, [], mb_169)
-- MacroPressModel.prefixed()V
def mb_170 : List mj_B := [(0, [true, false, false], [(0, .bipush (34), 2, (0, 0, 0), 34, 0, []), (2, .istore_n 1, 1, (1, 0, 0), 0, 0, [])], 3),
  (3, [true, true, false], [(3, .iload_n 1, 1, (1, 0, 0), 0, 0, []), (4, .bipush (34), 2, (0, 0, 0), 34, 0, []), (6, .if_icmp .ne (66), 3, (72, 0, 0), 0, 0, [])], 9),
  (9, [true, true, false], [(9, .aload_n 0, 1, (0, 0, 0), 0, 0, []), (10, .getfield 91, 3, (10, 39, 0), 0, 0, []), (13, .ifCond .ne (59), 3, (72, 0, 0), 0, 0, [])], 16),
  (16, [true, false, false], [(16, .aload_n 0, 1, (0, 0, 0), 0, 0, []), (17, .invokevirtual 217, 3, (130, 1, 10), 0, 0, []), (20, .istore_n 2, 1, (2, 0, 0), 0, 0, [])], 21),
  (21, [true, false, true], [(21, .iload_n 2, 1, (2, 0, 0), 0, 0, []), (22, .bipush (10), 2, (0, 0, 0), 10, 0, []), (24, .invokestatic 220, 3, (121, 2, 0), 0, 0, []), (27, .ifCond .ne (13), 3, (40, 0, 0), 0, 0, [])], 30),
  (30, [true, false, true], [(30, .aload_n 0, 1, (0, 0, 0), 0, 0, []), (31, .iload_n 2, 1, (2, 0, 0), 0, 0, []), (32, .bipush (18), 2, (0, 0, 0), 18, 0, []), (34, .invokevirtual 270, 3, (126, 3, 10), 0, 0, []), (37, .ifCond .eq (11), 3, (48, 0, 0), 0, 0, [])], 40),
  (40, [true, false, false], [(40, .aload_n 0, 1, (0, 0, 0), 0, 0, []), (41, .invokevirtual 217, 3, (130, 1, 10), 0, 0, []), (44, .istore_n 2, 1, (2, 0, 0), 0, 0, []), (45, .goto (-24), 3, (21, 0, 0), 0, 0, [])], 48),
  (48, [true, false, true], [(48, .aload_n 0, 1, (0, 0, 0), 0, 0, []), (49, .getfield 91, 3, (10, 39, 0), 0, 0, []), (52, .ifCond .le (7), 3, (59, 0, 0), 0, 0, [])], 55),
  (55, [true, false, false], [(55, .iconst (0), 1, (0, 0, 0), 0, 0, []), (56, .goto (12), 3, (68, 0, 0), 0, 0, [])], 59),
  (59, [true, false, true], [(59, .aload_n 0, 1, (0, 0, 0), 0, 0, []), (60, .iload_n 2, 1, (2, 0, 0), 0, 0, []), (61, .invokevirtual 204, 3, (125, 2, 10), 0, 0, []), (64, .sipush (1000), 3, (0, 0, 0), 1000, 0, []), (67, .isub, 1, (0, 0, 0), 0, 0, [])], 68),
  (68, [true, false, false], [(68, .istore_n 1, 1, (1, 0, 0), 0, 0, []), (69, .goto (-66), 3, (3, 0, 0), 0, 0, [])], 72),
  (72, [true, true, false], [(72, .aload_n 0, 1, (0, 0, 0), 0, 0, []), (73, .getfield 91, 3, (10, 39, 0), 0, 0, []), (76, .ifCond .le (4), 3, (80, 0, 0), 0, 0, [])], 79),
  (79, [false, false, false], [(79, .return_, 1, (0, 0, 0), 0, 0, [])], 80),
  (80, [true, true, false], [(80, .iload_n 1, 1, (1, 0, 0), 0, 0, []), (81, .bipush (23), 2, (0, 0, 0), 23, 0, []), (83, .if_icmp .lt (9), 3, (92, 0, 0), 0, 0, [])], 86),
  (86, [true, true, false], [(86, .iload_n 1, 1, (1, 0, 0), 0, 0, []), (87, .bipush (33), 2, (0, 0, 0), 33, 0, []), (89, .if_icmp .le (12), 3, (101, 0, 0), 0, 0, [])], 92),
  (92, [true, false, false], [(92, .aload_n 0, 1, (0, 0, 0), 0, 0, []), (93, .bipush (6), 2, (0, 0, 0), 6, 0, []), (95, .invokevirtual 160, 3, (106, 2, 10), 0, 0, []), (98, .goto (9), 3, (107, 0, 0), 0, 0, [])], 101),
  (101, [true, true, false], [(101, .aload_n 0, 1, (0, 0, 0), 0, 0, []), (102, .iload_n 1, 1, (1, 0, 0), 0, 0, []), (103, .iconst (1), 1, (0, 0, 0), 1, 0, []), (104, .invokevirtual 363, 3, (168, 3, 10), 0, 0, [])], 107),
  (107, [false, false, false], [(107, .return_, 1, (0, 0, 0), 0, 0, [])], 108)]
def mp_170 : mj_M := (3, [], mb_170)
-- MacroPressModel.target()I
def mb_171 : List mj_B := [(0, [true, false], [(0, .aload_n 0, 1, (0, 0, 0), 0, 0, []), (1, .invokevirtual 237, 3, (117, 1, 10), 0, 0, []), (4, .istore_n 1, 1, (1, 0, 0), 0, 0, [])], 5),
  (5, [true, true], [(5, .iload_n 1, 1, (1, 0, 0), 0, 0, []), (6, .bipush (10), 2, (0, 0, 0), 10, 0, []), (8, .invokestatic 220, 3, (121, 2, 0), 0, 0, []), (11, .ifCond .eq (11), 3, (22, 0, 0), 0, 0, [])], 14),
  (14, [true, false], [(14, .aload_n 0, 1, (0, 0, 0), 0, 0, []), (15, .invokevirtual 237, 3, (117, 1, 10), 0, 0, []), (18, .istore_n 1, 1, (1, 0, 0), 0, 0, []), (19, .goto (-14), 3, (5, 0, 0), 0, 0, [])], 22),
  (22, [true, true], [(22, .aload_n 0, 1, (0, 0, 0), 0, 0, []), (23, .getfield 91, 3, (10, 39, 0), 0, 0, []), (26, .ifCond .ne (16), 3, (42, 0, 0), 0, 0, [])], 29),
  (29, [true, true], [(29, .iload_n 1, 1, (1, 0, 0), 0, 0, []), (30, .invokestatic 189, 3, (119, 1, 0), 0, 0, []), (33, .ifCond .eq (9), 3, (42, 0, 0), 0, 0, [])], 36),
  (36, [true, true], [(36, .aload_n 0, 1, (0, 0, 0), 0, 0, []), (37, .bipush (6), 2, (0, 0, 0), 6, 0, []), (39, .invokevirtual 160, 3, (106, 2, 10), 0, 0, [])], 42),
  (42, [true, true], [(42, .aload_n 0, 1, (0, 0, 0), 0, 0, []), (43, .getfield 91, 3, (10, 39, 0), 0, 0, []), (46, .ifCond .le (8), 3, (54, 0, 0), 0, 0, [])], 49),
  (49, [false, false], [(49, .ldc 159, 2, (0, 0, 0), 65536, 0, []), (51, .goto (7), 3, (58, 0, 0), 0, 0, [])], 54),
  (54, [false, true], [(54, .iload_n 1, 1, (1, 0, 0), 0, 0, []), (55, .invokestatic 194, 3, (123, 1, 0), 0, 0, [])], 58),
  (58, [false, false], [(58, .ireturn, 1, (0, 0, 0), 0, 0, [])], 59)]
def mp_171 : mj_M := (2, [], mb_171)
-- MacroPressModel.equals()V
def mb_172 : List mj_B := [(0, [true, false], [(0, .aload_n 0, 1, (0, 0, 0), 0, 0, []), (1, .invokevirtual 214, 3, (129, 1, 10), 0, 0, []), (4, .istore_n 1, 1, (1, 0, 0), 0, 0, [])], 5),
  (5, [true, true], [(5, .iload_n 1, 1, (1, 0, 0), 0, 0, []), (6, .bipush (10), 2, (0, 0, 0), 10, 0, []), (8, .invokestatic 220, 3, (121, 2, 0), 0, 0, []), (11, .ifCond .eq (11), 3, (22, 0, 0), 0, 0, [])], 14),
  (14, [true, false], [(14, .aload_n 0, 1, (0, 0, 0), 0, 0, []), (15, .invokevirtual 214, 3, (129, 1, 10), 0, 0, []), (18, .istore_n 1, 1, (1, 0, 0), 0, 0, []), (19, .goto (-14), 3, (5, 0, 0), 0, 0, [])], 22),
  (22, [true, true], [(22, .iload_n 1, 1, (1, 0, 0), 0, 0, []), (23, .bipush (12), 2, (0, 0, 0), 12, 0, []), (25, .bipush (61), 2, (0, 0, 0), 61, 0, []), (27, .invokestatic 322, 3, (120, 3, 0), 0, 0, []), (30, .ifCond .ne (8), 3, (38, 0, 0), 0, 0, [])], 33),
  (33, [true, true], [(33, .aload_n 0, 1, (0, 0, 0), 0, 0, []), (34, .iload_n 1, 1, (1, 0, 0), 0, 0, []), (35, .invokevirtual 240, 3, (118, 2, 10), 0, 0, [])], 38),
  (38, [false, false], [(38, .return_, 1, (0, 0, 0), 0, 0, [])], 39)]
def mp_172 : mj_M := (2, [], mb_172)
-- MacroPressModel.let(Z)V
def mb_173 : List mj_B := [(0, [true, true, false, false], [(0, .aload_n 0, 1, (0, 0, 0), 0, 0, []), (1, .invokevirtual 374, 3, (171, 1, 10), 0, 0, []), (4, .istore_n 2, 1, (2, 0, 0), 0, 0, []), (5, .aload_n 0, 1, (0, 0, 0), 0, 0, []), (6, .invokevirtual 237, 3, (117, 1, 10), 0, 0, []), (9, .istore_n 3, 1, (3, 0, 0), 0, 0, [])], 10),
  (10, [true, true, true, true], [(10, .iload_n 3, 1, (3, 0, 0), 0, 0, []), (11, .bipush (10), 2, (0, 0, 0), 10, 0, []), (13, .invokestatic 220, 3, (121, 2, 0), 0, 0, []), (16, .ifCond .eq (11), 3, (27, 0, 0), 0, 0, [])], 19),
  (19, [true, true, true, false], [(19, .aload_n 0, 1, (0, 0, 0), 0, 0, []), (20, .invokevirtual 237, 3, (117, 1, 10), 0, 0, []), (23, .istore_n 3, 1, (3, 0, 0), 0, 0, []), (24, .goto (-14), 3, (10, 0, 0), 0, 0, [])], 27),
  (27, [true, true, true, true], [(27, .iload_n 3, 1, (3, 0, 0), 0, 0, []), (28, .bipush (12), 2, (0, 0, 0), 12, 0, []), (30, .bipush (61), 2, (0, 0, 0), 61, 0, []), (32, .invokestatic 322, 3, (120, 3, 0), 0, 0, []), (35, .ifCond .eq (26), 3, (61, 0, 0), 0, 0, [])], 38),
  (38, [true, true, true, false], [(38, .aload_n 0, 1, (0, 0, 0), 0, 0, []), (39, .invokevirtual 237, 3, (117, 1, 10), 0, 0, []), (42, .istore_n 3, 1, (3, 0, 0), 0, 0, []), (43, .iload_n 3, 1, (3, 0, 0), 0, 0, []), (44, .bipush (10), 2, (0, 0, 0), 10, 0, []), (46, .invokestatic 220, 3, (121, 2, 0), 0, 0, []), (49, .ifCond .eq (10), 3, (59, 0, 0), 0, 0, [])], 52),
  (52, [true, true, true, false], [(52, .aload_n 0, 1, (0, 0, 0), 0, 0, []), (53, .invokevirtual 237, 3, (117, 1, 10), 0, 0, []), (56, .goto (4), 3, (60, 0, 0), 0, 0, [])], 59),
  (59, [true, true, true, true], [(59, .iload_n 3, 1, (3, 0, 0), 0, 0, [])], 60),
  (60, [true, true, true, false], [(60, .istore_n 3, 1, (3, 0, 0), 0, 0, [])], 61),
  (61, [true, true, true, true], [(61, .aload_n 0, 1, (0, 0, 0), 0, 0, []), (62, .getfield 91, 3, (10, 39, 0), 0, 0, []), (65, .ifCond .ne (14), 3, (79, 0, 0), 0, 0, [])], 68),
  (68, [true, true, true, true], [(68, .aload_n 0, 1, (0, 0, 0), 0, 0, []), (69, .iload_n 2, 1, (2, 0, 0), 0, 0, []), (70, .aload_n 0, 1, (0, 0, 0), 0, 0, []), (71, .iload_n 3, 1, (3, 0, 0), 0, 0, []), (72, .invokevirtual 204, 3, (125, 2, 10), 0, 0, []), (75, .iload_n 1, 1, (1, 0, 0), 0, 0, []), (76, .invokevirtual 273, 3, (128, 4, 10), 0, 0, [])], 79),
  (79, [false, false, false, false], [(79, .return_, 1, (0, 0, 0), 0, 0, [])], 80)]
def mp_173 : mj_M := (4, [], mb_173)
-- MacroPressModel.isLetter(II)Z
def mb_174 : List mj_B := [(0, [false, true, true], [(0, .iload_n 1, 1, (1, 0, 0), 0, 0, []), (1, .invokestatic 189, 3, (119, 1, 0), 0, 0, []), (4, .ifCond .eq (28), 3, (32, 0, 0), 0, 0, [])], 7),
  (7, [false, true, true], [(7, .iload_n 1, 1, (1, 0, 0), 0, 0, []), (8, .sipush (256), 3, (0, 0, 0), 256, 0, []), (11, .irem, 1, (0, 0, 0), 0, 0, []), (12, .iload_n 2, 1, (2, 0, 0), 0, 0, []), (13, .if_icmp .eq (15), 3, (28, 0, 0), 0, 0, [])], 16),
  (16, [false, true, true], [(16, .iload_n 1, 1, (1, 0, 0), 0, 0, []), (17, .sipush (256), 3, (0, 0, 0), 256, 0, []), (20, .irem, 1, (0, 0, 0), 0, 0, []), (21, .iload_n 2, 1, (2, 0, 0), 0, 0, []), (22, .bipush (32), 2, (0, 0, 0), 32, 0, []), (24, .isub, 1, (0, 0, 0), 0, 0, []), (25, .if_icmp .ne (7), 3, (32, 0, 0), 0, 0, [])], 28),
  (28, [false, false, false], [(28, .iconst (1), 1, (0, 0, 0), 1, 0, []), (29, .goto (4), 3, (33, 0, 0), 0, 0, [])], 32),
  (32, [false, false, false], [(32, .iconst (0), 1, (0, 0, 0), 0, 0, [])], 33),
  (33, [false, false, false], [(33, .ireturn, 1, (0, 0, 1), 0, 0, [])], 34)]
def mp_174 : mj_M := (3, [], mb_174)
-- MacroPressModel.reckon(IZ)V
def mb_175 : List mj_B := [(0, [true, true, true, false, false, false, false, false, false, false, false, false], [(0, .aload_n 0, 1, (0, 0, 0), 0, 0, []), (1, .invokevirtual 319, 3, (131, 1, 10), 0, 0, []), (4, .istore_n 3, 1, (3, 0, 0), 0, 0, []), (5, .aload_n 0, 1, (0, 0, 0), 0, 0, []), (6, .getfield 91, 3, (10, 39, 0), 0, 0, []), (9, .ifCond .ne (19), 3, (28, 0, 0), 0, 0, [])], 12),
  (12, [true, true, true, true, false, false, false, false, false, false, false, false], [(12, .aload_n 0, 1, (0, 0, 0), 0, 0, []), (13, .iload_n 3, 1, (3, 0, 0), 0, 0, []), (14, .bipush (29), 2, (0, 0, 0), 29, 0, []), (16, .invokevirtual 270, 3, (126, 3, 10), 0, 0, []), (19, .ifCond .ne (9), 3, (28, 0, 0), 0, 0, [])], 22),
  (22, [true, true, true, false, false, false, false, false, false, false, false, false], [(22, .aload_n 0, 1, (0, 0, 0), 0, 0, []), (23, .bipush (6), 2, (0, 0, 0), 6, 0, []), (25, .invokevirtual 160, 3, (106, 2, 10), 0, 0, [])], 28),
  (28, [true, true, true, false, false, false, false, false, false, false, false, false], [(28, .aload_n 0, 1, (0, 0, 0), 0, 0, []), (29, .sipush (255), 3, (0, 0, 0), 255, 0, []), (32, .invokevirtual 330, 3, (155, 2, 10), 0, 0, []), (35, .istore 4, 2, (4, 0, 0), 0, 0, []), (37, .aload_n 0, 1, (0, 0, 0), 0, 0, []), (38, .invokevirtual 214, 3, (129, 1, 10), 0, 0, []), (41, .istore 5, 2, (5, 0, 0), 0, 0, [])], 43),
  (43, [true, true, true, false, true, true, false, false, false, false, false, false], [(43, .iload 5, 2, (5, 0, 0), 0, 0, []), (45, .bipush (10), 2, (0, 0, 0), 10, 0, []), (47, .invokestatic 220, 3, (121, 2, 0), 0, 0, []), (50, .ifCond .eq (12), 3, (62, 0, 0), 0, 0, [])], 53),
  (53, [true, true, true, false, true, false, false, false, false, false, false, false], [(53, .aload_n 0, 1, (0, 0, 0), 0, 0, []), (54, .invokevirtual 214, 3, (129, 1, 10), 0, 0, []), (57, .istore 5, 2, (5, 0, 0), 0, 0, []), (59, .goto (-16), 3, (43, 0, 0), 0, 0, [])], 62),
  (62, [true, true, true, false, true, true, false, false, false, false, false, false], [(62, .aload_n 0, 1, (0, 0, 0), 0, 0, []), (63, .iload 5, 2, (5, 0, 0), 0, 0, []), (65, .bipush (98), 2, (0, 0, 0), 98, 0, []), (67, .invokevirtual 390, 3, (174, 3, 10), 0, 0, []), (70, .ifCond .eq (35), 3, (105, 0, 0), 0, 0, [])], 73),
  (73, [true, true, true, false, true, true, false, false, false, false, false, false], [(73, .aload_n 0, 1, (0, 0, 0), 0, 0, []), (74, .invokevirtual 214, 3, (129, 1, 10), 0, 0, []), (77, .istore 6, 2, (6, 0, 0), 0, 0, []), (79, .aload_n 0, 1, (0, 0, 0), 0, 0, []), (80, .iload 6, 2, (6, 0, 0), 0, 0, []), (82, .bipush (121), 2, (0, 0, 0), 121, 0, []), (84, .invokevirtual 390, 3, (174, 3, 10), 0, 0, []), (87, .ifCond .ne (15), 3, (102, 0, 0), 0, 0, [])], 90),
  (90, [true, true, true, false, true, true, true, false, false, false, false, false], [(90, .aload_n 0, 1, (0, 0, 0), 0, 0, []), (91, .iload 6, 2, (6, 0, 0), 0, 0, []), (93, .invokevirtual 240, 3, (118, 2, 10), 0, 0, []), (96, .aload_n 0, 1, (0, 0, 0), 0, 0, []), (97, .iload 5, 2, (5, 0, 0), 0, 0, []), (99, .invokevirtual 240, 3, (118, 2, 10), 0, 0, [])], 102),
  (102, [true, true, true, false, true, false, false, false, false, false, false, false], [(102, .goto (9), 3, (111, 0, 0), 0, 0, [])], 105),
  (105, [true, true, true, false, true, true, false, false, false, false, false, false], [(105, .aload_n 0, 1, (0, 0, 0), 0, 0, []), (106, .iload 5, 2, (5, 0, 0), 0, 0, []), (108, .invokevirtual 240, 3, (118, 2, 10), 0, 0, [])], 111),
  (111, [true, true, true, false, true, false, false, false, false, false, false, false], [(111, .aload_n 0, 1, (0, 0, 0), 0, 0, []), (112, .invokevirtual 249, 3, (161, 1, 10), 0, 0, []), (115, .i2l, 1, (0, 0, 0), 0, 0, []), (116, .lstore 6, 2, (6, 0, 0), 0, 0, []), (118, .aload_n 0, 1, (0, 0, 0), 0, 0, []), (119, .getfield 91, 3, (10, 39, 0), 0, 0, []), (122, .ifCond .le (4), 3, (126, 0, 0), 0, 0, [])], 125),
  (125, [false, false, false, false, false, false, false, false, false, false, false, false], [(125, .return_, 1, (0, 0, 0), 0, 0, [])], 126),
  (126, [true, true, true, false, true, false, true, false, false, false, false, false], [(126, .aload_n 0, 1, (0, 0, 0), 0, 0, []), (127, .getfield 41, 3, (10, 20, 2), 0, 0, []), (130, .sipush (256), 3, (0, 0, 0), 256, 0, []), (133, .aload_n 0, 1, (0, 0, 0), 0, 0, []), (134, .getfield 109, 3, (10, 17, 0), 0, 0, []), (137, .imul, 1, (0, 0, 0), 0, 0, []), (138, .iload 4, 2, (4, 0, 0), 0, 0, []), (140, .iadd, 1, (0, 0, 0), 0, 0, []), (141, .iaload, 1, (0, 0, 0), 0, 0, []), (142, .i2l, 1, (0, 0, 0), 0, 0, []), (143, .lstore 8, 2, (8, 0, 0), 0, 0, []), (145, .iload_n 1, 1, (1, 0, 0), 0, 0, []), (146, .bipush (33), 2, (0, 0, 0), 33, 0, []), (148, .if_icmp .ne (17), 3, (165, 0, 0), 0, 0, [])], 151),
  (151, [true, true, true, false, true, false, true, false, true, false, false, false], [(151, .lload 6, 2, (6, 0, 0), 0, 0, []), (153, .lconst 0, 1, (0, 0, 0), 0, 0, []), (154, .lcmp, 1, (0, 0, 0), 0, 0, []), (155, .ifCond .ne (10), 3, (165, 0, 0), 0, 0, [])], 158),
  (158, [true, false, false, false, false, false, false, false, false, false, false, false], [(158, .aload_n 0, 1, (0, 0, 0), 0, 0, []), (159, .bipush (7), 2, (0, 0, 0), 7, 0, []), (161, .invokevirtual 160, 3, (106, 2, 10), 0, 0, []), (164, .return_, 1, (0, 0, 0), 0, 0, [])], 165),
  (165, [true, true, true, false, true, false, true, false, true, false, false, false], [(165, .iload_n 1, 1, (1, 0, 0), 0, 0, []), (166, .bipush (31), 2, (0, 0, 0), 31, 0, []), (168, .if_icmp .ne (11), 3, (179, 0, 0), 0, 0, [])], 171),
  (171, [true, false, true, false, true, false, true, false, true, false, false, false], [(171, .lload 8, 2, (8, 0, 0), 0, 0, []), (173, .lload 6, 2, (6, 0, 0), 0, 0, []), (175, .ladd, 1, (0, 0, 0), 0, 0, []), (176, .goto (22), 3, (198, 0, 0), 0, 0, [])], 179),
  (179, [true, true, true, false, true, false, true, false, true, false, false, false], [(179, .iload_n 1, 1, (1, 0, 0), 0, 0, []), (180, .bipush (32), 2, (0, 0, 0), 32, 0, []), (182, .if_icmp .ne (11), 3, (193, 0, 0), 0, 0, [])], 185),
  (185, [true, false, true, false, true, false, true, false, true, false, false, false], [(185, .lload 8, 2, (8, 0, 0), 0, 0, []), (187, .lload 6, 2, (6, 0, 0), 0, 0, []), (189, .lmul, 1, (0, 0, 0), 0, 0, []), (190, .goto (8), 3, (198, 0, 0), 0, 0, [])], 193),
  (193, [true, false, true, false, true, false, true, false, true, false, false, false], [(193, .lload 8, 2, (8, 0, 0), 0, 0, []), (195, .lload 6, 2, (6, 0, 0), 0, 0, []), (197, .ldiv, 1, (0, 0, 0), 0, 0, [])], 198),
  (198, [true, false, true, false, true, false, false, false, false, false, false, false], [(198, .lstore 10, 2, (10, 0, 0), 0, 0, []), (200, .lload 10, 2, (10, 0, 0), 0, 0, []), (202, .ldc2_w 336, 3, (0, 0, 0), 0, 2147483647, []), (205, .lcmp, 1, (0, 0, 0), 0, 0, []), (206, .ifCond .gt (12), 3, (218, 0, 0), 0, 0, [])], 209),
  (209, [true, false, true, false, true, false, false, false, false, false, true, false], [(209, .lload 10, 2, (10, 0, 0), 0, 0, []), (211, .ldc2_w 393, 3, (0, 0, 0), 0, -2147483647, []), (214, .lcmp, 1, (0, 0, 0), 0, 0, []), (215, .ifCond .ge (9), 3, (224, 0, 0), 0, 0, [])], 218),
  (218, [true, false, true, false, true, false, false, false, false, false, true, false], [(218, .aload_n 0, 1, (0, 0, 0), 0, 0, []), (219, .bipush (7), 2, (0, 0, 0), 7, 0, []), (221, .invokevirtual 160, 3, (106, 2, 10), 0, 0, [])], 224),
  (224, [true, false, true, false, true, false, false, false, false, false, true, false], [(224, .aload_n 0, 1, (0, 0, 0), 0, 0, []), (225, .aload_n 0, 1, (0, 0, 0), 0, 0, []), (226, .getfield 41, 3, (10, 20, 2), 0, 0, []), (229, .iload 4, 2, (4, 0, 0), 0, 0, []), (231, .lload 10, 2, (10, 0, 0), 0, 0, []), (233, .l2i, 1, (0, 0, 0), 0, 0, []), (234, .iload_n 2, 1, (2, 0, 0), 0, 0, []), (235, .invokevirtual 380, 3, (169, 5, 10), 0, 0, []), (238, .return_, 1, (0, 0, 0), 0, 0, [])], 239)]
def mp_175 : mj_M := (12, [], mb_175)
-- MacroPressModel.keep(I)V
def mb_176 : List mj_B := [(0, [true, true], [(0, .aload_n 0, 1, (0, 0, 0), 0, 0, []), (1, .getfield 115, 3, (10, 27, 0), 0, 0, []), (4, .sipush (10000), 3, (0, 0, 0), 10000, 0, []), (7, .if_icmp .ne (11), 3, (18, 0, 0), 0, 0, [])], 10),
  (10, [true, false], [(10, .aload_n 0, 1, (0, 0, 0), 0, 0, []), (11, .iconst (2), 1, (0, 0, 0), 2, 0, []), (12, .invokevirtual 160, 3, (106, 2, 10), 0, 0, []), (15, .goto (33), 3, (48, 0, 0), 0, 0, [])], 18),
  (18, [true, true], [(18, .aload_n 0, 1, (0, 0, 0), 0, 0, []), (19, .getfield 91, 3, (10, 39, 0), 0, 0, []), (22, .ifCond .ne (26), 3, (48, 0, 0), 0, 0, [])], 25),
  (25, [true, true], [(25, .aload_n 0, 1, (0, 0, 0), 0, 0, []), (26, .getfield 59, 3, (10, 28, 2), 0, 0, []), (29, .aload_n 0, 1, (0, 0, 0), 0, 0, []), (30, .getfield 115, 3, (10, 27, 0), 0, 0, []), (33, .iload_n 1, 1, (1, 0, 0), 0, 0, []), (34, .invokestatic 194, 3, (123, 1, 0), 0, 0, []), (37, .iastore, 1, (0, 0, 0), 0, 0, []), (38, .aload_n 0, 1, (0, 0, 0), 0, 0, []), (39, .dup, 1, (0, 0, 0), 0, 0, []), (40, .getfield 115, 3, (10, 27, 0), 0, 0, []), (43, .iconst (1), 1, (0, 0, 0), 1, 0, []), (44, .iadd, 1, (0, 0, 0), 0, 0, []), (45, .putfield 115, 3, (10, 27, 0), 0, 0, [])], 48),
  (48, [false, false], [(48, .return_, 1, (0, 0, 0), 0, 0, [])], 49)]
def mp_176 : mj_M := (2, [], mb_176)
-- MacroPressModel.define(ZZ)V
def mb_177 : List mj_B := [(0, [true, true, true, false, false, false, false, false, false, false], [(0, .aload_n 0, 1, (0, 0, 0), 0, 0, []), (1, .invokevirtual 374, 3, (171, 1, 10), 0, 0, []), (4, .istore_n 3, 1, (3, 0, 0), 0, 0, []), (5, .aload_n 0, 1, (0, 0, 0), 0, 0, []), (6, .getfield 115, 3, (10, 27, 0), 0, 0, []), (9, .istore 4, 2, (4, 0, 0), 0, 0, []), (11, .iconst (0), 1, (0, 0, 0), 0, 0, []), (12, .istore 5, 2, (5, 0, 0), 0, 0, []), (14, .aload_n 0, 1, (0, 0, 0), 0, 0, []), (15, .invokevirtual 237, 3, (117, 1, 10), 0, 0, []), (18, .istore 6, 2, (6, 0, 0), 0, 0, [])], 20),
  (20, [true, true, true, true, true, true, true, false, false, false], [(20, .aload_n 0, 1, (0, 0, 0), 0, 0, []), (21, .getfield 91, 3, (10, 39, 0), 0, 0, []), (24, .ifCond .ne (111), 3, (135, 0, 0), 0, 0, [])], 27),
  (27, [true, true, true, true, true, true, true, false, false, false], [(27, .iload 6, 2, (6, 0, 0), 0, 0, []), (29, .iconst (1), 1, (0, 0, 0), 1, 0, []), (30, .invokestatic 220, 3, (121, 2, 0), 0, 0, []), (33, .ifCond .ne (102), 3, (135, 0, 0), 0, 0, [])], 36),
  (36, [true, true, true, true, true, true, true, false, false, false], [(36, .iload 6, 2, (6, 0, 0), 0, 0, []), (38, .iconst (2), 1, (0, 0, 0), 2, 0, []), (39, .invokestatic 220, 3, (121, 2, 0), 0, 0, []), (42, .ifCond .eq (11), 3, (53, 0, 0), 0, 0, [])], 45),
  (45, [true, true, true, true, true, true, false, false, false, false], [(45, .aload_n 0, 1, (0, 0, 0), 0, 0, []), (46, .iconst (5), 1, (0, 0, 0), 5, 0, []), (47, .invokevirtual 160, 3, (106, 2, 10), 0, 0, []), (50, .goto (76), 3, (126, 0, 0), 0, 0, [])], 53),
  (53, [true, true, true, true, true, true, true, false, false, false], [(53, .iload 6, 2, (6, 0, 0), 0, 0, []), (55, .bipush (6), 2, (0, 0, 0), 6, 0, []), (57, .invokestatic 220, 3, (121, 2, 0), 0, 0, []), (60, .ifCond .eq (60), 3, (120, 0, 0), 0, 0, [])], 63),
  (63, [true, true, true, true, true, true, false, false, false, false], [(63, .aload_n 0, 1, (0, 0, 0), 0, 0, []), (64, .invokevirtual 237, 3, (117, 1, 10), 0, 0, []), (67, .istore 7, 2, (7, 0, 0), 0, 0, []), (69, .iinc 5 (1), 3, (5, 0, 0), 1, 0, []), (72, .aload_n 0, 1, (0, 0, 0), 0, 0, []), (73, .getfield 91, 3, (10, 39, 0), 0, 0, []), (76, .ifCond .ne (31), 3, (107, 0, 0), 0, 0, [])], 79),
  (79, [true, true, true, true, true, true, false, true, false, false], [(79, .iload 7, 2, (7, 0, 0), 0, 0, []), (81, .invokestatic 333, 3, (157, 1, 0), 0, 0, []), (84, .ifCond .eq (17), 3, (101, 0, 0), 0, 0, [])], 87),
  (87, [true, true, true, true, true, true, false, true, false, false], [(87, .iload 7, 2, (7, 0, 0), 0, 0, []), (89, .sipush (256), 3, (0, 0, 0), 256, 0, []), (92, .irem, 1, (0, 0, 0), 0, 0, []), (93, .bipush (48), 2, (0, 0, 0), 48, 0, []), (95, .iload 5, 2, (5, 0, 0), 0, 0, []), (97, .iadd, 1, (0, 0, 0), 0, 0, []), (98, .if_icmp .eq (9), 3, (107, 0, 0), 0, 0, [])], 101),
  (101, [true, true, true, true, true, true, false, false, false, false], [(101, .aload_n 0, 1, (0, 0, 0), 0, 0, []), (102, .bipush (12), 2, (0, 0, 0), 12, 0, []), (104, .invokevirtual 160, 3, (106, 2, 10), 0, 0, [])], 107),
  (107, [true, true, true, true, true, true, false, false, false, false], [(107, .aload_n 0, 1, (0, 0, 0), 0, 0, []), (108, .ldc_w 288, 3, (0, 0, 0), 262144, 0, []), (111, .iload 5, 2, (5, 0, 0), 0, 0, []), (113, .iadd, 1, (0, 0, 0), 0, 0, []), (114, .invokevirtual 395, 3, (176, 2, 10), 0, 0, []), (117, .goto (9), 3, (126, 0, 0), 0, 0, [])], 120),
  (120, [true, true, true, true, true, true, true, false, false, false], [(120, .aload_n 0, 1, (0, 0, 0), 0, 0, []), (121, .iload 6, 2, (6, 0, 0), 0, 0, []), (123, .invokevirtual 395, 3, (176, 2, 10), 0, 0, [])], 126),
  (126, [true, true, true, true, true, true, false, false, false, false], [(126, .aload_n 0, 1, (0, 0, 0), 0, 0, []), (127, .invokevirtual 237, 3, (117, 1, 10), 0, 0, []), (130, .istore 6, 2, (6, 0, 0), 0, 0, []), (132, .goto (-112), 3, (20, 0, 0), 0, 0, [])], 135),
  (135, [true, true, true, true, true, true, false, false, false, false], [(135, .aload_n 0, 1, (0, 0, 0), 0, 0, []), (136, .getfield 115, 3, (10, 27, 0), 0, 0, []), (139, .istore 7, 2, (7, 0, 0), 0, 0, []), (141, .iconst (1), 1, (0, 0, 0), 1, 0, []), (142, .istore 8, 2, (8, 0, 0), 0, 0, [])], 144),
  (144, [true, true, true, true, true, true, false, true, true, false], [(144, .aload_n 0, 1, (0, 0, 0), 0, 0, []), (145, .getfield 91, 3, (10, 39, 0), 0, 0, []), (148, .ifCond .ne (186), 3, (334, 0, 0), 0, 0, [])], 151),
  (151, [true, true, true, true, true, true, false, true, true, false], [(151, .iload 8, 2, (8, 0, 0), 0, 0, []), (153, .ifCond .le (181), 3, (334, 0, 0), 0, 0, [])], 156),
  (156, [true, true, true, true, true, true, false, true, true, false], [(156, .iload_n 1, 1, (1, 0, 0), 0, 0, []), (157, .ifCond .eq (10), 3, (167, 0, 0), 0, 0, [])], 160),
  (160, [true, true, true, true, true, true, false, true, true, false], [(160, .aload_n 0, 1, (0, 0, 0), 0, 0, []), (161, .invokevirtual 217, 3, (130, 1, 10), 0, 0, []), (164, .goto (7), 3, (171, 0, 0), 0, 0, [])], 167),
  (167, [true, true, true, true, true, true, false, true, true, false], [(167, .aload_n 0, 1, (0, 0, 0), 0, 0, []), (168, .invokevirtual 237, 3, (117, 1, 10), 0, 0, [])], 171),
  (171, [true, true, true, true, true, true, false, true, true, false], [(171, .istore 6, 2, (6, 0, 0), 0, 0, []), (173, .aload_n 0, 1, (0, 0, 0), 0, 0, []), (174, .getfield 91, 3, (10, 39, 0), 0, 0, []), (177, .ifCond .le (4), 3, (181, 0, 0), 0, 0, [])], 180),
  (180, [false, false, false, false, false, false, false, false, false, false], [(180, .return_, 1, (0, 0, 0), 0, 0, [])], 181),
  (181, [true, true, true, true, true, true, true, true, true, false], [(181, .iload 6, 2, (6, 0, 0), 0, 0, []), (183, .iconst (1), 1, (0, 0, 0), 1, 0, []), (184, .invokestatic 220, 3, (121, 2, 0), 0, 0, []), (187, .ifCond .eq (10), 3, (197, 0, 0), 0, 0, [])], 190),
  (190, [true, true, true, true, true, true, true, true, true, false], [(190, .iload 8, 2, (8, 0, 0), 0, 0, []), (192, .iconst (1), 1, (0, 0, 0), 1, 0, []), (193, .iadd, 1, (0, 0, 0), 0, 0, []), (194, .goto (21), 3, (215, 0, 0), 0, 0, [])], 197),
  (197, [true, true, true, true, true, true, true, true, true, false], [(197, .iload 6, 2, (6, 0, 0), 0, 0, []), (199, .iconst (2), 1, (0, 0, 0), 2, 0, []), (200, .invokestatic 220, 3, (121, 2, 0), 0, 0, []), (203, .ifCond .eq (10), 3, (213, 0, 0), 0, 0, [])], 206),
  (206, [true, true, true, true, true, true, true, true, true, false], [(206, .iload 8, 2, (8, 0, 0), 0, 0, []), (208, .iconst (1), 1, (0, 0, 0), 1, 0, []), (209, .isub, 1, (0, 0, 0), 0, 0, []), (210, .goto (5), 3, (215, 0, 0), 0, 0, [])], 213),
  (213, [true, true, true, true, true, true, true, true, true, false], [(213, .iload 8, 2, (8, 0, 0), 0, 0, [])], 215),
  (215, [true, true, true, true, true, true, true, true, false, false], [(215, .istore 8, 2, (8, 0, 0), 0, 0, []), (217, .iload 6, 2, (6, 0, 0), 0, 0, []), (219, .bipush (6), 2, (0, 0, 0), 6, 0, []), (221, .invokestatic 220, 3, (121, 2, 0), 0, 0, []), (224, .ifCond .eq (96), 3, (320, 0, 0), 0, 0, [])], 227),
  (227, [true, true, true, true, true, true, false, true, true, false], [(227, .iload_n 1, 1, (1, 0, 0), 0, 0, []), (228, .ifCond .eq (10), 3, (238, 0, 0), 0, 0, [])], 231),
  (231, [true, true, true, true, true, true, false, true, true, false], [(231, .aload_n 0, 1, (0, 0, 0), 0, 0, []), (232, .invokevirtual 217, 3, (130, 1, 10), 0, 0, []), (235, .goto (7), 3, (242, 0, 0), 0, 0, [])], 238),
  (238, [true, true, true, true, true, true, false, true, true, false], [(238, .aload_n 0, 1, (0, 0, 0), 0, 0, []), (239, .invokevirtual 237, 3, (117, 1, 10), 0, 0, [])], 242),
  (242, [true, true, true, true, true, true, false, true, true, false], [(242, .istore 6, 2, (6, 0, 0), 0, 0, []), (244, .iload 6, 2, (6, 0, 0), 0, 0, []), (246, .invokestatic 333, 3, (157, 1, 0), 0, 0, []), (249, .ifCond .eq (15), 3, (264, 0, 0), 0, 0, [])], 252),
  (252, [true, true, true, true, true, true, true, true, true, false], [(252, .iload 6, 2, (6, 0, 0), 0, 0, []), (254, .sipush (256), 3, (0, 0, 0), 256, 0, []), (257, .irem, 1, (0, 0, 0), 0, 0, []), (258, .bipush (48), 2, (0, 0, 0), 48, 0, []), (260, .isub, 1, (0, 0, 0), 0, 0, []), (261, .goto (4), 3, (265, 0, 0), 0, 0, [])], 264),
  (264, [true, true, true, true, true, true, true, true, true, false], [(264, .iconst (0), 1, (0, 0, 0), 0, 0, [])], 265),
  (265, [true, true, true, true, true, true, true, true, true, false], [(265, .istore 9, 2, (9, 0, 0), 0, 0, []), (267, .aload_n 0, 1, (0, 0, 0), 0, 0, []), (268, .getfield 91, 3, (10, 39, 0), 0, 0, []), (271, .ifCond .ne (31), 3, (302, 0, 0), 0, 0, [])], 274),
  (274, [true, true, true, true, true, true, true, true, true, true], [(274, .iload 6, 2, (6, 0, 0), 0, 0, []), (276, .bipush (6), 2, (0, 0, 0), 6, 0, []), (278, .invokestatic 220, 3, (121, 2, 0), 0, 0, []), (281, .ifCond .ne (21), 3, (302, 0, 0), 0, 0, [])], 284),
  (284, [true, true, true, true, true, true, true, true, true, true], [(284, .iload 9, 2, (9, 0, 0), 0, 0, []), (286, .ifCond .eq (10), 3, (296, 0, 0), 0, 0, [])], 289),
  (289, [true, true, true, true, true, true, true, true, true, true], [(289, .iload 9, 2, (9, 0, 0), 0, 0, []), (291, .iload 5, 2, (5, 0, 0), 0, 0, []), (293, .if_icmp .le (9), 3, (302, 0, 0), 0, 0, [])], 296),
  (296, [true, true, true, true, true, true, true, true, true, true], [(296, .aload_n 0, 1, (0, 0, 0), 0, 0, []), (297, .bipush (12), 2, (0, 0, 0), 12, 0, []), (299, .invokevirtual 160, 3, (106, 2, 10), 0, 0, [])], 302),
  (302, [true, true, true, true, true, true, true, true, true, true], [(302, .iload 9, 2, (9, 0, 0), 0, 0, []), (304, .ifCond .le (12), 3, (316, 0, 0), 0, 0, [])], 307),
  (307, [true, true, true, true, true, true, false, true, true, true], [(307, .ldc_w 288, 3, (0, 0, 0), 262144, 0, []), (310, .iload 9, 2, (9, 0, 0), 0, 0, []), (312, .iadd, 1, (0, 0, 0), 0, 0, []), (313, .goto (5), 3, (318, 0, 0), 0, 0, [])], 316),
  (316, [true, true, true, true, true, true, true, true, true, false], [(316, .iload 6, 2, (6, 0, 0), 0, 0, [])], 318),
  (318, [true, true, true, true, true, true, false, true, true, false], [(318, .istore 6, 2, (6, 0, 0), 0, 0, [])], 320),
  (320, [true, true, true, true, true, true, true, true, true, false], [(320, .iload 8, 2, (8, 0, 0), 0, 0, []), (322, .ifCond .le (-178), 3, (144, 0, 0), 0, 0, [])], 325),
  (325, [true, true, true, true, true, true, true, true, true, false], [(325, .aload_n 0, 1, (0, 0, 0), 0, 0, []), (326, .iload 6, 2, (6, 0, 0), 0, 0, []), (328, .invokevirtual 395, 3, (176, 2, 10), 0, 0, []), (331, .goto (-187), 3, (144, 0, 0), 0, 0, [])], 334),
  (334, [true, false, true, true, true, true, false, true, false, false], [(334, .aload_n 0, 1, (0, 0, 0), 0, 0, []), (335, .getfield 91, 3, (10, 39, 0), 0, 0, []), (338, .ifCond .ne (72), 3, (410, 0, 0), 0, 0, [])], 341),
  (341, [true, false, true, true, true, true, false, true, false, false], [(341, .aload_n 0, 1, (0, 0, 0), 0, 0, []), (342, .getfield 47, 3, (10, 23, 2), 0, 0, []), (345, .aload_n 0, 1, (0, 0, 0), 0, 0, []), (346, .getfield 112, 3, (10, 22, 0), 0, 0, []), (349, .iload 5, 2, (5, 0, 0), 0, 0, []), (351, .iastore, 1, (0, 0, 0), 0, 0, []), (352, .aload_n 0, 1, (0, 0, 0), 0, 0, []), (353, .getfield 50, 3, (10, 24, 2), 0, 0, []), (356, .aload_n 0, 1, (0, 0, 0), 0, 0, []), (357, .getfield 112, 3, (10, 22, 0), 0, 0, []), (360, .iload 4, 2, (4, 0, 0), 0, 0, []), (362, .iastore, 1, (0, 0, 0), 0, 0, []), (363, .aload_n 0, 1, (0, 0, 0), 0, 0, []), (364, .getfield 53, 3, (10, 25, 2), 0, 0, []), (367, .aload_n 0, 1, (0, 0, 0), 0, 0, []), (368, .getfield 112, 3, (10, 22, 0), 0, 0, []), (371, .iload 7, 2, (7, 0, 0), 0, 0, []), (373, .iastore, 1, (0, 0, 0), 0, 0, []), (374, .aload_n 0, 1, (0, 0, 0), 0, 0, []), (375, .getfield 56, 3, (10, 26, 2), 0, 0, []), (378, .aload_n 0, 1, (0, 0, 0), 0, 0, []), (379, .getfield 112, 3, (10, 22, 0), 0, 0, []), (382, .aload_n 0, 1, (0, 0, 0), 0, 0, []), (383, .getfield 115, 3, (10, 27, 0), 0, 0, []), (386, .iastore, 1, (0, 0, 0), 0, 0, []), (387, .aload_n 0, 1, (0, 0, 0), 0, 0, []), (388, .iload_n 3, 1, (3, 0, 0), 0, 0, []), (389, .ldc 207, 2, (0, 0, 0), 100000, 0, []), (391, .aload_n 0, 1, (0, 0, 0), 0, 0, []), (392, .getfield 112, 3, (10, 22, 0), 0, 0, []), (395, .iadd, 1, (0, 0, 0), 0, 0, []), (396, .iload_n 2, 1, (2, 0, 0), 0, 0, []), (397, .invokevirtual 273, 3, (128, 4, 10), 0, 0, []), (400, .aload_n 0, 1, (0, 0, 0), 0, 0, []), (401, .dup, 1, (0, 0, 0), 0, 0, []), (402, .getfield 112, 3, (10, 22, 0), 0, 0, []), (405, .iconst (1), 1, (0, 0, 0), 1, 0, []), (406, .iadd, 1, (0, 0, 0), 0, 0, []), (407, .putfield 112, 3, (10, 22, 0), 0, 0, [])], 410),
  (410, [false, false, false, false, false, false, false, false, false, false], [(410, .return_, 1, (0, 0, 0), 0, 0, [])], 411)]
def mp_177 : mj_M := (10, [], mb_177)
-- MacroPressModel.run(I)I
def mb_178 : List mj_B := [(0, [true, true, false], [(0, .aload_n 0, 1, (0, 0, 0), 0, 0, []), (1, .iload_n 1, 1, (1, 0, 0), 0, 0, []), (2, .ifCond .lt (10), 3, (12, 0, 0), 0, 0, [])], 5),
  (5, [true, true, false], [(5, .iload_n 1, 1, (1, 0, 0), 0, 0, []), (6, .sipush (30000), 3, (0, 0, 0), 30000, 0, []), (9, .if_icmp .le (7), 3, (16, 0, 0), 0, 0, [])], 12),
  (12, [true, true, false], [(12, .iconst (1), 1, (0, 0, 0), 1, 0, []), (13, .goto (4), 3, (17, 0, 0), 0, 0, [])], 16),
  (16, [true, true, false], [(16, .iconst (0), 1, (0, 0, 0), 0, 0, [])], 17),
  (17, [true, true, false], [(17, .putfield 85, 3, (10, 0, 0), 0, 0, []), (20, .aload_n 0, 1, (0, 0, 0), 0, 0, []), (21, .getfield 85, 3, (10, 0, 0), 0, 0, []), (24, .ifCond .le (5), 3, (29, 0, 0), 0, 0, [])], 27),
  (27, [false, false, false], [(27, .iconst (0), 1, (0, 0, 0), 0, 0, []), (28, .ireturn, 1, (0, 0, 0), 0, 0, [])], 29),
  (29, [true, true, false], [(29, .aload_n 0, 1, (0, 0, 0), 0, 0, []), (30, .invokevirtual 78, 3, (107, 1, 10), 0, 0, []), (33, .aload_n 0, 1, (0, 0, 0), 0, 0, []), (34, .iload_n 1, 1, (1, 0, 0), 0, 0, []), (35, .putfield 224, 3, (10, 37, 0), 0, 0, [])], 38),
  (38, [true, false, false], [(38, .aload_n 0, 1, (0, 0, 0), 0, 0, []), (39, .getfield 91, 3, (10, 39, 0), 0, 0, []), (42, .ifCond .ne (47), 3, (89, 0, 0), 0, 0, [])], 45),
  (45, [true, false, false], [(45, .aload_n 0, 1, (0, 0, 0), 0, 0, []), (46, .getfield 127, 3, (10, 40, 0), 0, 0, []), (49, .ifCond .ne (40), 3, (89, 0, 0), 0, 0, [])], 52),
  (52, [true, false, false], [(52, .aload_n 0, 1, (0, 0, 0), 0, 0, []), (53, .invokevirtual 214, 3, (129, 1, 10), 0, 0, []), (56, .istore_n 2, 1, (2, 0, 0), 0, 0, []), (57, .iload_n 2, 1, (2, 0, 0), 0, 0, []), (58, .iconst (-1), 1, (0, 0, 0), -1, 0, []), (59, .if_icmp .ne (11), 3, (70, 0, 0), 0, 0, [])], 62),
  (62, [true, false, false], [(62, .aload_n 0, 1, (0, 0, 0), 0, 0, []), (63, .iconst (1), 1, (0, 0, 0), 1, 0, []), (64, .putfield 127, 3, (10, 40, 3), 0, 0, []), (67, .goto (19), 3, (86, 0, 0), 0, 0, [])], 70),
  (70, [true, false, true], [(70, .aload_n 0, 1, (0, 0, 0), 0, 0, []), (71, .invokevirtual 227, 3, (132, 1, 10), 0, 0, []), (74, .aload_n 0, 1, (0, 0, 0), 0, 0, []), (75, .getfield 91, 3, (10, 39, 0), 0, 0, []), (78, .ifCond .ne (8), 3, (86, 0, 0), 0, 0, [])], 81),
  (81, [true, false, true], [(81, .aload_n 0, 1, (0, 0, 0), 0, 0, []), (82, .iload_n 2, 1, (2, 0, 0), 0, 0, []), (83, .invokevirtual 398, 3, (167, 2, 10), 0, 0, [])], 86),
  (86, [true, false, false], [(86, .goto (-48), 3, (38, 0, 0), 0, 0, [])], 89),
  (89, [true, false, false], [(89, .aload_n 0, 1, (0, 0, 0), 0, 0, []), (90, .getfield 91, 3, (10, 39, 0), 0, 0, []), (93, .ifCond .ne (23), 3, (116, 0, 0), 0, 0, [])], 96),
  (96, [true, false, false], [(96, .aload_n 0, 1, (0, 0, 0), 0, 0, []), (97, .getfield 109, 3, (10, 17, 0), 0, 0, []), (100, .ifCond .gt (10), 3, (110, 0, 0), 0, 0, [])], 103),
  (103, [true, false, false], [(103, .aload_n 0, 1, (0, 0, 0), 0, 0, []), (104, .getfield 121, 3, (10, 33, 0), 0, 0, []), (107, .ifCond .le (9), 3, (116, 0, 0), 0, 0, [])], 110),
  (110, [true, false, false], [(110, .aload_n 0, 1, (0, 0, 0), 0, 0, []), (111, .bipush (9), 2, (0, 0, 0), 9, 0, []), (113, .invokevirtual 160, 3, (106, 2, 10), 0, 0, [])], 116),
  (116, [true, false, false], [(116, .aload_n 0, 1, (0, 0, 0), 0, 0, []), (117, .iconst (0), 1, (0, 0, 0), 0, 0, []), (118, .putfield 88, 3, (10, 1, 0), 0, 0, []), (121, .aload_n 0, 1, (0, 0, 0), 0, 0, []), (122, .getfield 91, 3, (10, 39, 0), 0, 0, []), (125, .ifCond .ne (7), 3, (132, 0, 0), 0, 0, [])], 128),
  (128, [false, false, false], [(128, .iconst (0), 1, (0, 0, 0), 0, 0, []), (129, .goto (16), 3, (145, 0, 0), 0, 0, [])], 132),
  (132, [true, false, false], [(132, .sipush (10000), 3, (0, 0, 0), 10000, 0, []), (135, .aload_n 0, 1, (0, 0, 0), 0, 0, []), (136, .getfield 91, 3, (10, 39, 0), 0, 0, []), (139, .imul, 1, (0, 0, 0), 0, 0, []), (140, .aload_n 0, 1, (0, 0, 0), 0, 0, []), (141, .getfield 97, 3, (10, 6, 0), 0, 0, []), (144, .iadd, 1, (0, 0, 0), 0, 0, [])], 145),
  (145, [false, false, false], [(145, .ireturn, 1, (0, 0, 0), 0, 0, [])], 146)]
def mp_178 : mj_M := (3, [], mb_178)
-- MacroPressModel.ticks()I
def mb_179 : List mj_B := [(0, [true], [(0, .aload_n 0, 1, (0, 0, 0), 0, 0, []), (1, .iconst (0), 1, (0, 0, 0), 0, 0, []), (2, .putfield 85, 3, (10, 0, 0), 0, 0, []), (5, .aload_n 0, 1, (0, 0, 0), 0, 0, []), (6, .getfield 81, 3, (10, 36, 0), 0, 0, []), (9, .ireturn, 1, (0, 0, 0), 0, 0, [])], 10)]
def mp_179 : mj_M := (1, [], mb_179)
-- MacroPressModel.size()I
def mb_180 : List mj_B := [(0, [true], [(0, .aload_n 0, 1, (0, 0, 0), 0, 0, []), (1, .iconst (0), 1, (0, 0, 0), 0, 0, []), (2, .putfield 85, 3, (10, 0, 0), 0, 0, []), (5, .aload_n 0, 1, (0, 0, 0), 0, 0, []), (6, .getfield 134, 3, (10, 3, 0), 0, 0, []), (9, .ireturn, 1, (0, 0, 0), 0, 0, [])], 10)]
def mp_180 : mj_M := (1, [], mb_180)
-- MacroPressModel.out(I)I
def mb_181 : List mj_B := [(0, [true, true], [(0, .aload_n 0, 1, (0, 0, 0), 0, 0, []), (1, .iload_n 1, 1, (1, 0, 0), 0, 0, []), (2, .ifCond .lt (11), 3, (13, 0, 0), 0, 0, [])], 5),
  (5, [true, true], [(5, .iload_n 1, 1, (1, 0, 0), 0, 0, []), (6, .aload_n 0, 1, (0, 0, 0), 0, 0, []), (7, .getfield 134, 3, (10, 3, 0), 0, 0, []), (10, .if_icmp .lt (7), 3, (17, 0, 0), 0, 0, [])], 13),
  (13, [true, true], [(13, .iconst (1), 1, (0, 0, 0), 1, 0, []), (14, .goto (4), 3, (18, 0, 0), 0, 0, [])], 17),
  (17, [true, true], [(17, .iconst (0), 1, (0, 0, 0), 0, 0, [])], 18),
  (18, [true, true], [(18, .putfield 85, 3, (10, 0, 0), 0, 0, []), (21, .aload_n 0, 1, (0, 0, 0), 0, 0, []), (22, .getfield 85, 3, (10, 0, 0), 0, 0, []), (25, .ifCond .le (7), 3, (32, 0, 0), 0, 0, [])], 28),
  (28, [false, false], [(28, .iconst (0), 1, (0, 0, 0), 0, 0, []), (29, .goto (13), 3, (42, 0, 0), 0, 0, [])], 32),
  (32, [true, true], [(32, .aload_n 0, 1, (0, 0, 0), 0, 0, []), (33, .getfield 13, 3, (10, 4, 2), 0, 0, []), (36, .iload_n 1, 1, (1, 0, 0), 0, 0, []), (37, .baload, 1, (0, 0, 4), 0, 0, []), (38, .sipush (255), 3, (0, 0, 0), 255, 0, []), (41, .iand, 1, (0, 0, 0), 0, 0, [])], 42),
  (42, [false, false], [(42, .ireturn, 1, (0, 0, 0), 0, 0, [])], 43)]
def mp_181 : mj_M := (2, [], mb_181)
-- MacroPressModel.count(I)I
def mb_182 : List mj_B := [(0, [true, true], [(0, .aload_n 0, 1, (0, 0, 0), 0, 0, []), (1, .iload_n 1, 1, (1, 0, 0), 0, 0, []), (2, .ifCond .lt (10), 3, (12, 0, 0), 0, 0, [])], 5),
  (5, [true, true], [(5, .iload_n 1, 1, (1, 0, 0), 0, 0, []), (6, .sipush (255), 3, (0, 0, 0), 255, 0, []), (9, .if_icmp .le (7), 3, (16, 0, 0), 0, 0, [])], 12),
  (12, [true, true], [(12, .iconst (1), 1, (0, 0, 0), 1, 0, []), (13, .goto (4), 3, (17, 0, 0), 0, 0, [])], 16),
  (16, [true, true], [(16, .iconst (0), 1, (0, 0, 0), 0, 0, [])], 17),
  (17, [true, true], [(17, .putfield 85, 3, (10, 0, 0), 0, 0, []), (20, .aload_n 0, 1, (0, 0, 0), 0, 0, []), (21, .getfield 85, 3, (10, 0, 0), 0, 0, []), (24, .ifCond .le (7), 3, (31, 0, 0), 0, 0, [])], 27),
  (27, [false, false], [(27, .iconst (0), 1, (0, 0, 0), 0, 0, []), (28, .goto (9), 3, (37, 0, 0), 0, 0, [])], 31),
  (31, [true, true], [(31, .aload_n 0, 1, (0, 0, 0), 0, 0, []), (32, .getfield 41, 3, (10, 20, 2), 0, 0, []), (35, .iload_n 1, 1, (1, 0, 0), 0, 0, []), (36, .iaload, 1, (0, 0, 0), 0, 0, [])], 37),
  (37, [false, false], [(37, .ireturn, 1, (0, 0, 0), 0, 0, [])], 38)]
def mp_182 : mj_M := (2, [], mb_182)
-- MacroPress$Token.plain(I)I
def mb_183 : List mj_B := [(0, [true], [(0, .iload_n 0, 1, (0, 0, 0), 0, 0, []), (1, .ldc 11, 2, (0, 0, 0), -1048577, 0, []), (3, .iand, 1, (0, 0, 0), 0, 0, []), (4, .ireturn, 1, (0, 0, 0), 0, 0, [])], 5)]
def mp_183 : mj_M := (1, [], mb_183)
-- MacroPress$Token.isMarked(I)Z
def mb_184 : List mj_B := [(0, [true], [(0, .iload_n 0, 1, (0, 0, 0), 0, 0, []), (1, .ldc 12, 2, (0, 0, 0), 1048576, 0, []), (3, .iand, 1, (0, 0, 0), 0, 0, []), (4, .ifCond .eq (7), 3, (11, 0, 0), 0, 0, [])], 7),
  (7, [false], [(7, .iconst (1), 1, (0, 0, 0), 1, 0, []), (8, .goto (4), 3, (12, 0, 0), 0, 0, [])], 11),
  (11, [false], [(11, .iconst (0), 1, (0, 0, 0), 0, 0, [])], 12),
  (12, [false], [(12, .ireturn, 1, (0, 0, 1), 0, 0, [])], 13)]
def mp_184 : mj_M := (1, [], mb_184)
-- MacroPress$Token.isPlace(I)Z
def mb_185 : List mj_B := [(0, [true], [(0, .iload_n 0, 1, (0, 0, 0), 0, 0, []), (1, .ldc 13, 2, (0, 0, 0), 2097152, 0, []), (3, .iand, 1, (0, 0, 0), 0, 0, []), (4, .ifCond .eq (7), 3, (11, 0, 0), 0, 0, [])], 7),
  (7, [false], [(7, .iconst (1), 1, (0, 0, 0), 1, 0, []), (8, .goto (4), 3, (12, 0, 0), 0, 0, [])], 11),
  (11, [false], [(11, .iconst (0), 1, (0, 0, 0), 0, 0, [])], 12),
  (12, [false], [(12, .ireturn, 1, (0, 0, 1), 0, 0, [])], 13)]
def mp_185 : mj_M := (1, [], mb_185)
-- MacroPress$Token.isName(I)Z
def mb_186 : List mj_B := [(0, [true], [(0, .iload_n 0, 1, (0, 0, 0), 0, 0, []), (1, .ifCond .lt (14), 3, (15, 0, 0), 0, 0, [])], 4),
  (4, [true], [(4, .iload_n 0, 1, (0, 0, 0), 0, 0, []), (5, .ldc 14, 2, (0, 0, 0), 65536, 0, []), (7, .iand, 1, (0, 0, 0), 0, 0, []), (8, .ifCond .eq (7), 3, (15, 0, 0), 0, 0, [])], 11),
  (11, [false], [(11, .iconst (1), 1, (0, 0, 0), 1, 0, []), (12, .goto (4), 3, (16, 0, 0), 0, 0, [])], 15),
  (15, [false], [(15, .iconst (0), 1, (0, 0, 0), 0, 0, [])], 16),
  (16, [false], [(16, .ireturn, 1, (0, 0, 1), 0, 0, [])], 17)]
def mp_186 : mj_M := (1, [], mb_186)
-- MacroPress$Token.isActive(I)Z
def mb_187 : List mj_B := [(0, [true], [(0, .iload_n 0, 1, (0, 0, 0), 0, 0, []), (1, .ldc 11, 2, (0, 0, 0), -1048577, 0, []), (3, .iand, 1, (0, 0, 0), 0, 0, []), (4, .bipush (8), 2, (0, 0, 0), 8, 0, []), (6, .ishr, 1, (0, 0, 0), 0, 0, []), (7, .bipush (13), 2, (0, 0, 0), 13, 0, []), (9, .if_icmp .ne (7), 3, (16, 0, 0), 0, 0, [])], 12),
  (12, [false], [(12, .iconst (1), 1, (0, 0, 0), 1, 0, []), (13, .goto (4), 3, (17, 0, 0), 0, 0, [])], 16),
  (16, [false], [(16, .iconst (0), 1, (0, 0, 0), 0, 0, [])], 17),
  (17, [false], [(17, .ireturn, 1, (0, 0, 1), 0, 0, [])], 18)]
def mp_187 : mj_M := (1, [], mb_187)
-- MacroPress$Token.isCharacter(I)Z
def mb_188 : List mj_B := [(0, [true], [(0, .iload_n 0, 1, (0, 0, 0), 0, 0, []), (1, .ifCond .lt (14), 3, (15, 0, 0), 0, 0, [])], 4),
  (4, [true], [(4, .iload_n 0, 1, (0, 0, 0), 0, 0, []), (5, .sipush (3328), 3, (0, 0, 0), 3328, 0, []), (8, .if_icmp .ge (7), 3, (15, 0, 0), 0, 0, [])], 11),
  (11, [false], [(11, .iconst (1), 1, (0, 0, 0), 1, 0, []), (12, .goto (4), 3, (16, 0, 0), 0, 0, [])], 15),
  (15, [false], [(15, .iconst (0), 1, (0, 0, 0), 0, 0, [])], 16),
  (16, [false], [(16, .ireturn, 1, (0, 0, 1), 0, 0, [])], 17)]
def mp_188 : mj_M := (1, [], mb_188)
-- MacroPress$Token.category(I)I
def mb_189 : List mj_B := [(0, [true], [(0, .iload_n 0, 1, (0, 0, 0), 0, 0, []), (1, .ifCond .lt (17), 3, (18, 0, 0), 0, 0, [])], 4),
  (4, [true], [(4, .iload_n 0, 1, (0, 0, 0), 0, 0, []), (5, .sipush (3328), 3, (0, 0, 0), 3328, 0, []), (8, .if_icmp .ge (10), 3, (18, 0, 0), 0, 0, [])], 11),
  (11, [true], [(11, .iload_n 0, 1, (0, 0, 0), 0, 0, []), (12, .bipush (8), 2, (0, 0, 0), 8, 0, []), (14, .ishr, 1, (0, 0, 0), 0, 0, []), (15, .goto (5), 3, (20, 0, 0), 0, 0, [])], 18),
  (18, [false], [(18, .bipush (16), 2, (0, 0, 0), 16, 0, [])], 20),
  (20, [false], [(20, .ireturn, 1, (0, 0, 0), 0, 0, [])], 21)]
def mp_189 : mj_M := (1, [], mb_189)
-- MacroPress$Token.isSpace(I)Z
def mb_190 : List mj_B := [(0, [true], [(0, .iload_n 0, 1, (0, 0, 0), 0, 0, []), (1, .invokestatic 15, 3, (189, 1, 0), 0, 0, []), (4, .bipush (10), 2, (0, 0, 0), 10, 0, []), (6, .if_icmp .ne (7), 3, (13, 0, 0), 0, 0, [])], 9),
  (9, [false], [(9, .iconst (1), 1, (0, 0, 0), 1, 0, []), (10, .goto (4), 3, (14, 0, 0), 0, 0, [])], 13),
  (13, [false], [(13, .iconst (0), 1, (0, 0, 0), 0, 0, [])], 14),
  (14, [false], [(14, .ireturn, 1, (0, 0, 1), 0, 0, [])], 15)]
def mp_190 : mj_M := (1, [], mb_190)
-- MacroPress$Token.digit(I)I
def mb_191 : List mj_B := [(0, [true, false], [(0, .iload_n 0, 1, (0, 0, 0), 0, 0, []), (1, .sipush (3072), 3, (0, 0, 0), 3072, 0, []), (4, .isub, 1, (0, 0, 0), 0, 0, []), (5, .istore_n 1, 1, (1, 0, 0), 0, 0, []), (6, .iload_n 1, 1, (1, 0, 0), 0, 0, []), (7, .bipush (48), 2, (0, 0, 0), 48, 0, []), (9, .if_icmp .lt (16), 3, (25, 0, 0), 0, 0, [])], 12),
  (12, [false, true], [(12, .iload_n 1, 1, (1, 0, 0), 0, 0, []), (13, .bipush (57), 2, (0, 0, 0), 57, 0, []), (15, .if_icmp .gt (10), 3, (25, 0, 0), 0, 0, [])], 18),
  (18, [false, true], [(18, .iload_n 1, 1, (1, 0, 0), 0, 0, []), (19, .bipush (48), 2, (0, 0, 0), 48, 0, []), (21, .isub, 1, (0, 0, 0), 0, 0, []), (22, .goto (4), 3, (26, 0, 0), 0, 0, [])], 25),
  (25, [false, false], [(25, .iconst (-1), 1, (0, 0, 0), -1, 0, [])], 26),
  (26, [false, false], [(26, .ireturn, 1, (0, 0, 0), 0, 0, [])], 27)]
def mp_191 : mj_M := (2, [], mb_191)
-- MacroPress$Token.slot(I)I
def mb_192 : List mj_B := [(0, [true], [(0, .iload_n 0, 1, (0, 0, 0), 0, 0, []), (1, .ldc 14, 2, (0, 0, 0), 65536, 0, []), (3, .iand, 1, (0, 0, 0), 0, 0, []), (4, .ifCond .eq (14), 3, (18, 0, 0), 0, 0, [])], 7),
  (7, [true], [(7, .sipush (768), 3, (0, 0, 0), 768, 0, []), (10, .iload_n 0, 1, (0, 0, 0), 0, 0, []), (11, .ldc 19, 2, (0, 0, 0), 65535, 0, []), (13, .iand, 1, (0, 0, 0), 0, 0, []), (14, .iadd, 1, (0, 0, 0), 0, 0, []), (15, .goto (12), 3, (27, 0, 0), 0, 0, [])], 18),
  (18, [true], [(18, .sipush (512), 3, (0, 0, 0), 512, 0, []), (21, .iload_n 0, 1, (0, 0, 0), 0, 0, []), (22, .sipush (255), 3, (0, 0, 0), 255, 0, []), (25, .iand, 1, (0, 0, 0), 0, 0, []), (26, .iadd, 1, (0, 0, 0), 0, 0, [])], 27),
  (27, [false], [(27, .ireturn, 1, (0, 0, 0), 0, 0, [])], 28)]
def mp_192 : mj_M := (1, [], mb_192)
-- MacroPressLaw.run(LMacroPress;I[J)I
def mb_193 : List mj_B := [(0, [true, true, true, false], [(0, .aload_n 2, 1, (2, 0, 0), 0, 0, []), (1, .iconst (0), 1, (0, 0, 0), 0, 0, []), (2, .aload_n 0, 1, (0, 0, 0), 0, 0, []), (3, .iload_n 1, 1, (1, 0, 0), 0, 0, []), (4, .invokevirtual 7, 3, (2, 2, 0), 0, 0, []), (7, .i2l, 1, (0, 0, 0), 0, 0, []), (8, .lastore, 1, (0, 0, 0), 0, 0, []), (9, .goto (6), 3, (15, 0, 0), 0, 0, [])], 12),
  (13, [false, false, false, false], [(13, .iconst (1), 1, (0, 0, 0), 1, 0, []), (14, .ireturn, 1, (0, 0, 0), 0, 0, [])], 15),
  (15, [false, false, false, false], [(15, .iconst (0), 1, (0, 0, 0), 0, 0, []), (16, .ireturn, 1, (0, 0, 0), 0, 0, [])], 17)]
def mp_193 : mj_M := (4, [(0, 9, 12, 501, 3, 13)], mb_193)
-- MacroPressLaw.out(LMacroPress;I[J)I
def mb_194 : List mj_B := [(0, [true, true, true, false], [(0, .aload_n 2, 1, (2, 0, 0), 0, 0, []), (1, .iconst (0), 1, (0, 0, 0), 0, 0, []), (2, .aload_n 0, 1, (0, 0, 0), 0, 0, []), (3, .iload_n 1, 1, (1, 0, 0), 0, 0, []), (4, .invokevirtual 15, 3, (5, 2, 0), 0, 0, []), (7, .i2l, 1, (0, 0, 0), 0, 0, []), (8, .lastore, 1, (0, 0, 0), 0, 0, []), (9, .goto (6), 3, (15, 0, 0), 0, 0, [])], 12),
  (13, [false, false, false, false], [(13, .iconst (1), 1, (0, 0, 0), 1, 0, []), (14, .ireturn, 1, (0, 0, 0), 0, 0, [])], 15),
  (15, [false, false, false, false], [(15, .iconst (0), 1, (0, 0, 0), 0, 0, []), (16, .ireturn, 1, (0, 0, 0), 0, 0, [])], 17)]
def mp_194 : mj_M := (4, [(0, 9, 12, 502, 3, 13)], mb_194)
-- MacroPressLaw.count(LMacroPress;I[J)I
def mb_195 : List mj_B := [(0, [true, true, true, false], [(0, .aload_n 2, 1, (2, 0, 0), 0, 0, []), (1, .iconst (0), 1, (0, 0, 0), 0, 0, []), (2, .aload_n 0, 1, (0, 0, 0), 0, 0, []), (3, .iload_n 1, 1, (1, 0, 0), 0, 0, []), (4, .invokevirtual 20, 3, (6, 2, 0), 0, 0, []), (7, .i2l, 1, (0, 0, 0), 0, 0, []), (8, .lastore, 1, (0, 0, 0), 0, 0, []), (9, .goto (6), 3, (15, 0, 0), 0, 0, [])], 12),
  (13, [false, false, false, false], [(13, .iconst (1), 1, (0, 0, 0), 1, 0, []), (14, .ireturn, 1, (0, 0, 0), 0, 0, [])], 15),
  (15, [false, false, false, false], [(15, .iconst (0), 1, (0, 0, 0), 0, 0, []), (16, .ireturn, 1, (0, 0, 0), 0, 0, [])], 17)]
def mp_195 : mj_M := (4, [(0, 9, 12, 502, 3, 13)], mb_195)
-- MacroPressLaw.law([I)Z
def mb_196 : List mj_B := [(0, [true, false, false, false, false, false, false], [(0, .new 8, 3, (0, 8, 0), 0, 0, []), (3, .dup, 1, (0, 0, 0), 0, 0, []), (4, .invokespecial 23, 3, (0, 1, 0), 0, 0, []), (7, .astore_n 1, 1, (1, 0, 0), 0, 0, []), (8, .new 24, 3, (10, 41, 0), 0, 0, []), (11, .dup, 1, (0, 0, 0), 0, 0, []), (12, .invokespecial 26, 3, (103, 1, 0), 0, 0, []), (15, .astore_n 2, 1, (2, 0, 0), 0, 0, []), (16, .iconst (1), 1, (0, 0, 0), 1, 0, []), (17, .newarray .long, 2, (0, 0, 1), 0, 0, []), (19, .astore_n 3, 1, (3, 0, 0), 0, 0, []), (20, .iconst (0), 1, (0, 0, 0), 0, 0, []), (21, .istore 4, 2, (4, 0, 0), 0, 0, [])], 23),
  (23, [true, true, true, true, true, false, false], [(23, .iload 4, 2, (4, 0, 0), 0, 0, []), (25, .aload_n 0, 1, (0, 0, 0), 0, 0, []), (26, .arraylength, 1, (0, 0, 1), 0, 0, []), (27, .iconst (4), 1, (0, 0, 0), 4, 0, []), (28, .isub, 1, (0, 0, 0), 0, 0, []), (29, .if_icmp .gt (316), 3, (345, 0, 0), 0, 0, [])], 32),
  (32, [true, true, true, true, true, false, false], [(32, .aload_n 0, 1, (0, 0, 0), 0, 0, []), (33, .iload 4, 2, (4, 0, 0), 0, 0, []), (35, .iaload, 1, (0, 0, 1), 0, 0, []), (36, .bipush (7), 2, (0, 0, 0), 7, 0, []), (38, .iand, 1, (0, 0, 0), 0, 0, []), (39, .tableswitch (300) (0) (5) #[37, 106, 162, 175, 188, 244], 37, (339, 0, 0), 0, 0, [(0, 76), (1, 145), (2, 201), (3, 214), (4, 227), (5, 283)])], 76),
  (76, [true, true, true, true, true, false, false], [(76, .aload_n 1, 1, (1, 0, 0), 0, 0, []), (77, .aload_n 0, 1, (0, 0, 0), 0, 0, []), (78, .iload 4, 2, (4, 0, 0), 0, 0, []), (80, .iconst (1), 1, (0, 0, 0), 1, 0, []), (81, .iadd, 1, (0, 0, 0), 0, 0, []), (82, .iaload, 1, (0, 0, 1), 0, 0, []), (83, .i2l, 1, (0, 0, 0), 0, 0, []), (84, .bipush (32), 2, (0, 0, 0), 32, 0, []), (86, .lshl, 1, (0, 0, 0), 0, 0, []), (87, .aload_n 0, 1, (0, 0, 0), 0, 0, []), (88, .iload 4, 2, (4, 0, 0), 0, 0, []), (90, .iconst (2), 1, (0, 0, 0), 2, 0, []), (91, .iadd, 1, (0, 0, 0), 0, 0, []), (92, .iaload, 1, (0, 0, 1), 0, 0, []), (93, .i2l, 1, (0, 0, 0), 0, 0, []), (94, .ldc2_w 27, 3, (0, 0, 0), 0, 4294967295, []), (97, .land, 1, (0, 0, 0), 0, 0, []), (98, .lor, 1, (0, 0, 0), 0, 0, []), (99, .aload_n 0, 1, (0, 0, 0), 0, 0, []), (100, .iload 4, 2, (4, 0, 0), 0, 0, []), (102, .iconst (3), 1, (0, 0, 0), 3, 0, []), (103, .iadd, 1, (0, 0, 0), 0, 0, []), (104, .iaload, 1, (0, 0, 1), 0, 0, []), (105, .invokevirtual 29, 3, (1, 3, 0), 0, 0, []), (108, .aload_n 2, 1, (2, 0, 0), 0, 0, []), (109, .aload_n 0, 1, (0, 0, 0), 0, 0, []), (110, .iload 4, 2, (4, 0, 0), 0, 0, []), (112, .iconst (1), 1, (0, 0, 0), 1, 0, []), (113, .iadd, 1, (0, 0, 0), 0, 0, []), (114, .iaload, 1, (0, 0, 1), 0, 0, []), (115, .i2l, 1, (0, 0, 0), 0, 0, []), (116, .bipush (32), 2, (0, 0, 0), 32, 0, []), (118, .lshl, 1, (0, 0, 0), 0, 0, []), (119, .aload_n 0, 1, (0, 0, 0), 0, 0, []), (120, .iload 4, 2, (4, 0, 0), 0, 0, []), (122, .iconst (2), 1, (0, 0, 0), 2, 0, []), (123, .iadd, 1, (0, 0, 0), 0, 0, []), (124, .iaload, 1, (0, 0, 1), 0, 0, []), (125, .i2l, 1, (0, 0, 0), 0, 0, []), (126, .ldc2_w 27, 3, (0, 0, 0), 0, 4294967295, []), (129, .land, 1, (0, 0, 0), 0, 0, []), (130, .lor, 1, (0, 0, 0), 0, 0, []), (131, .aload_n 0, 1, (0, 0, 0), 0, 0, []), (132, .iload 4, 2, (4, 0, 0), 0, 0, []), (134, .iconst (3), 1, (0, 0, 0), 3, 0, []), (135, .iadd, 1, (0, 0, 0), 0, 0, []), (136, .iaload, 1, (0, 0, 1), 0, 0, []), (137, .invokevirtual 33, 3, (105, 3, 10), 0, 0, []), (140, .if_icmp .eq (199), 3, (339, 0, 0), 0, 0, [])], 143),
  (143, [false, false, false, false, false, false, false], [(143, .iconst (0), 1, (0, 0, 0), 0, 0, []), (144, .ireturn, 1, (0, 0, 1), 0, 0, [])], 145),
  (145, [true, true, true, true, true, false, false], [(145, .aload_n 1, 1, (1, 0, 0), 0, 0, []), (146, .aload_n 0, 1, (0, 0, 0), 0, 0, []), (147, .iload 4, 2, (4, 0, 0), 0, 0, []), (149, .iconst (1), 1, (0, 0, 0), 1, 0, []), (150, .iadd, 1, (0, 0, 0), 0, 0, []), (151, .iaload, 1, (0, 0, 1), 0, 0, []), (152, .aload_n 3, 1, (3, 0, 0), 0, 0, []), (153, .invokestatic 34, 3, (193, 3, 0), 0, 0, []), (156, .istore 5, 2, (5, 0, 0), 0, 0, []), (158, .aload_n 2, 1, (2, 0, 0), 0, 0, []), (159, .aload_n 0, 1, (0, 0, 0), 0, 0, []), (160, .iload 4, 2, (4, 0, 0), 0, 0, []), (162, .iconst (1), 1, (0, 0, 0), 1, 0, []), (163, .iadd, 1, (0, 0, 0), 0, 0, []), (164, .iaload, 1, (0, 0, 1), 0, 0, []), (165, .invokevirtual 39, 3, (178, 2, 10), 0, 0, []), (168, .istore 6, 2, (6, 0, 0), 0, 0, []), (170, .aload_n 2, 1, (2, 0, 0), 0, 0, []), (171, .invokevirtual 40, 3, (104, 1, 10), 0, 0, []), (174, .iload 5, 2, (5, 0, 0), 0, 0, []), (176, .if_icmp .eq (5), 3, (181, 0, 0), 0, 0, [])], 179),
  (179, [false, false, false, false, false, false, false], [(179, .iconst (0), 1, (0, 0, 0), 0, 0, []), (180, .ireturn, 1, (0, 0, 1), 0, 0, [])], 181),
  (181, [true, true, true, true, true, true, true], [(181, .iload 5, 2, (5, 0, 0), 0, 0, []), (183, .ifCond .ne (15), 3, (198, 0, 0), 0, 0, [])], 186),
  (186, [true, true, true, true, true, false, true], [(186, .aload_n 3, 1, (3, 0, 0), 0, 0, []), (187, .iconst (0), 1, (0, 0, 0), 0, 0, []), (188, .laload, 1, (0, 0, 0), 0, 0, []), (189, .iload 6, 2, (6, 0, 0), 0, 0, []), (191, .i2l, 1, (0, 0, 0), 0, 0, []), (192, .lcmp, 1, (0, 0, 0), 0, 0, []), (193, .ifCond .eq (5), 3, (198, 0, 0), 0, 0, [])], 196),
  (196, [false, false, false, false, false, false, false], [(196, .iconst (0), 1, (0, 0, 0), 0, 0, []), (197, .ireturn, 1, (0, 0, 1), 0, 0, [])], 198),
  (198, [true, true, true, true, true, false, false], [(198, .goto (141), 3, (339, 0, 0), 0, 0, [])], 201),
  (201, [true, true, true, true, true, false, false], [(201, .aload_n 1, 1, (1, 0, 0), 0, 0, []), (202, .invokevirtual 44, 3, (3, 1, 0), 0, 0, []), (205, .aload_n 2, 1, (2, 0, 0), 0, 0, []), (206, .invokevirtual 47, 3, (179, 1, 10), 0, 0, []), (209, .if_icmp .eq (130), 3, (339, 0, 0), 0, 0, [])], 212),
  (212, [false, false, false, false, false, false, false], [(212, .iconst (0), 1, (0, 0, 0), 0, 0, []), (213, .ireturn, 1, (0, 0, 1), 0, 0, [])], 214),
  (214, [true, true, true, true, true, false, false], [(214, .aload_n 1, 1, (1, 0, 0), 0, 0, []), (215, .invokevirtual 48, 3, (4, 1, 0), 0, 0, []), (218, .aload_n 2, 1, (2, 0, 0), 0, 0, []), (219, .invokevirtual 51, 3, (180, 1, 10), 0, 0, []), (222, .if_icmp .eq (117), 3, (339, 0, 0), 0, 0, [])], 225),
  (225, [false, false, false, false, false, false, false], [(225, .iconst (0), 1, (0, 0, 0), 0, 0, []), (226, .ireturn, 1, (0, 0, 1), 0, 0, [])], 227),
  (227, [true, true, true, true, true, false, false], [(227, .aload_n 1, 1, (1, 0, 0), 0, 0, []), (228, .aload_n 0, 1, (0, 0, 0), 0, 0, []), (229, .iload 4, 2, (4, 0, 0), 0, 0, []), (231, .iconst (1), 1, (0, 0, 0), 1, 0, []), (232, .iadd, 1, (0, 0, 0), 0, 0, []), (233, .iaload, 1, (0, 0, 1), 0, 0, []), (234, .aload_n 3, 1, (3, 0, 0), 0, 0, []), (235, .invokestatic 52, 3, (194, 3, 0), 0, 0, []), (238, .istore 5, 2, (5, 0, 0), 0, 0, []), (240, .aload_n 2, 1, (2, 0, 0), 0, 0, []), (241, .aload_n 0, 1, (0, 0, 0), 0, 0, []), (242, .iload 4, 2, (4, 0, 0), 0, 0, []), (244, .iconst (1), 1, (0, 0, 0), 1, 0, []), (245, .iadd, 1, (0, 0, 0), 0, 0, []), (246, .iaload, 1, (0, 0, 1), 0, 0, []), (247, .invokevirtual 54, 3, (181, 2, 10), 0, 0, []), (250, .istore 6, 2, (6, 0, 0), 0, 0, []), (252, .aload_n 2, 1, (2, 0, 0), 0, 0, []), (253, .invokevirtual 40, 3, (104, 1, 10), 0, 0, []), (256, .iload 5, 2, (5, 0, 0), 0, 0, []), (258, .if_icmp .eq (5), 3, (263, 0, 0), 0, 0, [])], 261),
  (261, [false, false, false, false, false, false, false], [(261, .iconst (0), 1, (0, 0, 0), 0, 0, []), (262, .ireturn, 1, (0, 0, 1), 0, 0, [])], 263),
  (263, [true, true, true, true, true, true, true], [(263, .iload 5, 2, (5, 0, 0), 0, 0, []), (265, .ifCond .ne (15), 3, (280, 0, 0), 0, 0, [])], 268),
  (268, [true, true, true, true, true, false, true], [(268, .aload_n 3, 1, (3, 0, 0), 0, 0, []), (269, .iconst (0), 1, (0, 0, 0), 0, 0, []), (270, .laload, 1, (0, 0, 0), 0, 0, []), (271, .iload 6, 2, (6, 0, 0), 0, 0, []), (273, .i2l, 1, (0, 0, 0), 0, 0, []), (274, .lcmp, 1, (0, 0, 0), 0, 0, []), (275, .ifCond .eq (5), 3, (280, 0, 0), 0, 0, [])], 278),
  (278, [false, false, false, false, false, false, false], [(278, .iconst (0), 1, (0, 0, 0), 0, 0, []), (279, .ireturn, 1, (0, 0, 1), 0, 0, [])], 280),
  (280, [true, true, true, true, true, false, false], [(280, .goto (59), 3, (339, 0, 0), 0, 0, [])], 283),
  (283, [true, true, true, true, true, false, false], [(283, .aload_n 1, 1, (1, 0, 0), 0, 0, []), (284, .aload_n 0, 1, (0, 0, 0), 0, 0, []), (285, .iload 4, 2, (4, 0, 0), 0, 0, []), (287, .iconst (1), 1, (0, 0, 0), 1, 0, []), (288, .iadd, 1, (0, 0, 0), 0, 0, []), (289, .iaload, 1, (0, 0, 1), 0, 0, []), (290, .aload_n 3, 1, (3, 0, 0), 0, 0, []), (291, .invokestatic 55, 3, (195, 3, 0), 0, 0, []), (294, .istore 5, 2, (5, 0, 0), 0, 0, []), (296, .aload_n 2, 1, (2, 0, 0), 0, 0, []), (297, .aload_n 0, 1, (0, 0, 0), 0, 0, []), (298, .iload 4, 2, (4, 0, 0), 0, 0, []), (300, .iconst (1), 1, (0, 0, 0), 1, 0, []), (301, .iadd, 1, (0, 0, 0), 0, 0, []), (302, .iaload, 1, (0, 0, 1), 0, 0, []), (303, .invokevirtual 57, 3, (182, 2, 10), 0, 0, []), (306, .istore 6, 2, (6, 0, 0), 0, 0, []), (308, .aload_n 2, 1, (2, 0, 0), 0, 0, []), (309, .invokevirtual 40, 3, (104, 1, 10), 0, 0, []), (312, .iload 5, 2, (5, 0, 0), 0, 0, []), (314, .if_icmp .eq (5), 3, (319, 0, 0), 0, 0, [])], 317),
  (317, [false, false, false, false, false, false, false], [(317, .iconst (0), 1, (0, 0, 0), 0, 0, []), (318, .ireturn, 1, (0, 0, 1), 0, 0, [])], 319),
  (319, [true, true, true, true, true, true, true], [(319, .iload 5, 2, (5, 0, 0), 0, 0, []), (321, .ifCond .ne (15), 3, (336, 0, 0), 0, 0, [])], 324),
  (324, [true, true, true, true, true, false, true], [(324, .aload_n 3, 1, (3, 0, 0), 0, 0, []), (325, .iconst (0), 1, (0, 0, 0), 0, 0, []), (326, .laload, 1, (0, 0, 0), 0, 0, []), (327, .iload 6, 2, (6, 0, 0), 0, 0, []), (329, .i2l, 1, (0, 0, 0), 0, 0, []), (330, .lcmp, 1, (0, 0, 0), 0, 0, []), (331, .ifCond .eq (5), 3, (336, 0, 0), 0, 0, [])], 334),
  (334, [false, false, false, false, false, false, false], [(334, .iconst (0), 1, (0, 0, 0), 0, 0, []), (335, .ireturn, 1, (0, 0, 1), 0, 0, [])], 336),
  (336, [true, true, true, true, true, false, false], [(336, .goto (3), 3, (339, 0, 0), 0, 0, [])], 339),
  (339, [true, true, true, true, true, false, false], [(339, .iinc 4 (4), 3, (4, 0, 0), 4, 0, []), (342, .goto (-319), 3, (23, 0, 0), 0, 0, [])], 345),
  (345, [false, false, false, false, false, false, false], [(345, .iconst (1), 1, (0, 0, 0), 1, 0, []), (346, .ireturn, 1, (0, 0, 1), 0, 0, [])], 347)]
def mp_196 : mj_M := (7, [], mb_196)
end
section
/-! THE PROGRAM'S TABLES, printed: all methods -/
def mj_P : List mj_M := [mp_0, mp_1, mp_2, mp_3, mp_4, mp_5, mp_6, mp_7, mp_8, mp_9, mp_10, mp_11, mp_12, mp_13, mp_14, mp_15, mp_16, mp_17, mp_18, mp_19, mp_20, mp_21, mp_22, mp_23, mp_24, mp_25, mp_26, mp_27, mp_28, mp_29, mp_30, mp_31, mp_32, mp_33, mp_34, mp_35, mp_36, mp_37, mp_38, mp_39, mp_40, mp_41, mp_42, mp_43, mp_44, mp_45, mp_46, mp_47, mp_48, mp_49, mp_50, mp_51, mp_52, mp_53, mp_54, mp_55, mp_56, mp_57, mp_58, mp_59, mp_60, mp_61, mp_62, mp_63, mp_64, mp_65, mp_66, mp_67, mp_68, mp_69, mp_70, mp_71, mp_72, mp_73, mp_74, mp_75, mp_76, mp_77, mp_78, mp_79, mp_80, mp_81, mp_82, mp_83, mp_84, mp_85, mp_86, mp_87, mp_88, mp_89, mp_90, mp_91, mp_92, mp_93, mp_94, mp_95, mp_96, mp_97, mp_98, mp_99, mp_100, mp_101, mp_102, mp_103, mp_104, mp_105, mp_106, mp_107, mp_108, mp_109, mp_110, mp_111, mp_112, mp_113, mp_114, mp_115, mp_116, mp_117, mp_118, mp_119, mp_120, mp_121, mp_122, mp_123, mp_124, mp_125, mp_126, mp_127, mp_128, mp_129, mp_130, mp_131, mp_132, mp_133, mp_134, mp_135, mp_136, mp_137, mp_138, mp_139, mp_140, mp_141, mp_142, mp_143, mp_144, mp_145, mp_146, mp_147, mp_148, mp_149, mp_150, mp_151, mp_152, mp_153, mp_154, mp_155, mp_156, mp_157, mp_158, mp_159, mp_160, mp_161, mp_162, mp_163, mp_164, mp_165, mp_166, mp_167, mp_168, mp_169, mp_170, mp_171, mp_172, mp_173, mp_174, mp_175, mp_176, mp_177, mp_178, mp_179, mp_180, mp_181, mp_182, mp_183, mp_184, mp_185, mp_186, mp_187, mp_188, mp_189, mp_190, mp_191, mp_192, mp_193, mp_194, mp_195, mp_196]
def mj_PD : List mj_D := [(⟨"MacroPress", "<init>", "()V"⟩, prog_1_method_1_code, 1, (Option.none : Option Jvm.ClassFile.FieldType), []),
  (⟨"MacroPress", "type", "(JI)Z"⟩, prog_1_method_2_code, 5, (Option.some Jvm.ClassFile.FieldType.boolean), []),
  (⟨"MacroPress", "run", "(I)I"⟩, prog_1_method_3_code, 6, (Option.some Jvm.ClassFile.FieldType.int), [((11 : Nat), (117 : Nat), (120 : Nat), (114 : Nat))]),
  (⟨"MacroPress", "ticks", "()I"⟩, prog_1_method_4_code, 1, (Option.some Jvm.ClassFile.FieldType.int), []),
  (⟨"MacroPress", "size", "()I"⟩, prog_1_method_5_code, 1, (Option.some Jvm.ClassFile.FieldType.int), []),
  (⟨"MacroPress", "out", "(I)I"⟩, prog_1_method_6_code, 2, (Option.some Jvm.ClassFile.FieldType.int), []),
  (⟨"MacroPress", "count", "(I)I"⟩, prog_1_method_7_code, 2, (Option.some Jvm.ClassFile.FieldType.int), []),
  (⟨"MacroPress", "refuseTicks", "(I)V"⟩, prog_1_method_8_code, 1, (Option.none : Option Jvm.ClassFile.FieldType), []),
  (⟨"MacroPress", "beginRun", "(I)V"⟩, prog_1_method_9_code, 2, (Option.none : Option Jvm.ClassFile.FieldType), []),
  (⟨"MacroPress$Arguments", "<init>", "(LMacroPress$Source;LMacroPress$Macros;LMacroPress$Progress;)V"⟩, prog_2_method_1_code, 4, (Option.none : Option Jvm.ClassFile.FieldType), []),
  (⟨"MacroPress$Arguments", "collect", "(I)V"⟩, prog_2_method_2_code, 6, (Option.none : Option Jvm.ClassFile.FieldType), []),
  (⟨"MacroPress$Arguments", "collectUndelimited", "(I)V"⟩, prog_2_method_3_code, 6, (Option.none : Option Jvm.ClassFile.FieldType), []),
  (⟨"MacroPress$Arguments", "collectDelimited", "(III)V"⟩, prog_2_method_4_code, 11, (Option.none : Option Jvm.ClassFile.FieldType), []),
  (⟨"MacroPress$Arguments", "endsWith", "(III)Z"⟩, prog_2_method_5_code, 6, (Option.some Jvm.ClassFile.FieldType.boolean), []),
  (⟨"MacroPress$Arguments", "add", "(I)V"⟩, prog_2_method_6_code, 2, (Option.none : Option Jvm.ClassFile.FieldType), []),
  (⟨"MacroPress$Arguments", "putBody", "(I)V"⟩, prog_2_method_7_code, 7, (Option.none : Option Jvm.ClassFile.FieldType), []),
  (⟨"MacroPress$Arguments", "putArgument", "(I)V"⟩, prog_2_method_8_code, 3, (Option.none : Option Jvm.ClassFile.FieldType), []),
  (⟨"MacroPress$Conditions", "<init>", "(LMacroPress$Source;LMacroPress$Store;LMacroPress$Progress;)V"⟩, prog_3_method_1_code, 4, (Option.none : Option Jvm.ClassFile.FieldType), []),
  (⟨"MacroPress$Conditions", "begin", "(Z)I"⟩, prog_3_method_2_code, 2, (Option.some Jvm.ClassFile.FieldType.int), []),
  (⟨"MacroPress$Conditions", "decide", "(II)V"⟩, prog_3_method_3_code, 7, (Option.none : Option Jvm.ClassFile.FieldType), []),
  (⟨"MacroPress$Conditions", "meet", "(II)V"⟩, prog_3_method_4_code, 8, (Option.none : Option Jvm.ClassFile.FieldType), []),
  (⟨"MacroPress$Expander", "<init>", "(LMacroPress$Source;LMacroPress$Names;LMacroPress$Store;LMacroPress$Macros;LMacroPress$Conditions;LMacroPress$Progress;)V"⟩, prog_4_method_1_code, 7, (Option.none : Option Jvm.ClassFile.FieldType), []),
  (⟨"MacroPress$Expander", "expanded", "(Z)I"⟩, prog_4_method_2_code, 4, (Option.some Jvm.ClassFile.FieldType.int), []),
  (⟨"MacroPress$Expander", "expandedBehindSpaces", "()I"⟩, prog_4_method_3_code, 3, (Option.some Jvm.ClassFile.FieldType.int), []),
  (⟨"MacroPress$Expander", "isExpandable", "(I)Z"⟩, prog_4_method_4_code, 2, (Option.some Jvm.ClassFile.FieldType.boolean), []),
  (⟨"MacroPress$Expander", "expand", "(I)V"⟩, prog_4_method_5_code, 3, (Option.none : Option Jvm.ClassFile.FieldType), []),
  (⟨"MacroPress$Expander", "expandPrimitive", "(II)V"⟩, prog_4_method_6_code, 5, (Option.none : Option Jvm.ClassFile.FieldType), []),
  (⟨"MacroPress$Expander", "expandAfter", "()V"⟩, prog_4_method_7_code, 3, (Option.none : Option Jvm.ClassFile.FieldType), []),
  (⟨"MacroPress$Expander", "makeName", "()V"⟩, prog_4_method_8_code, 4, (Option.none : Option Jvm.ClassFile.FieldType), []),
  (⟨"MacroPress$Expander", "putString", "(I)V"⟩, prog_4_method_9_code, 4, (Option.none : Option Jvm.ClassFile.FieldType), []),
  (⟨"MacroPress$Expander", "putCharacter", "(I)V"⟩, prog_4_method_10_code, 2, (Option.none : Option Jvm.ClassFile.FieldType), []),
  (⟨"MacroPress$Expander", "putNumber", "(I)V"⟩, prog_4_method_11_code, 4, (Option.none : Option Jvm.ClassFile.FieldType), []),
  (⟨"MacroPress$Expander", "putRoman", "(I)V"⟩, prog_4_method_12_code, 4, (Option.none : Option Jvm.ClassFile.FieldType), []),
  (⟨"MacroPress$Expander", "putRomanDigit", "(II)V"⟩, prog_4_method_13_code, 5, (Option.none : Option Jvm.ClassFile.FieldType), []),
  (⟨"MacroPress$Expander", "holds", "(I)Z"⟩, prog_4_method_14_code, 5, (Option.some Jvm.ClassFile.FieldType.boolean), []),
  (⟨"MacroPress$Expander", "characterOf", "(I)I"⟩, prog_4_method_15_code, 3, (Option.some Jvm.ClassFile.FieldType.int), []),
  (⟨"MacroPress$Expander", "categoryOf", "(I)I"⟩, prog_4_method_16_code, 3, (Option.some Jvm.ClassFile.FieldType.int), []),
  (⟨"MacroPress$Expander", "meansSame", "(II)Z"⟩, prog_4_method_17_code, 5, (Option.some Jvm.ClassFile.FieldType.boolean), []),
  (⟨"MacroPress$Expander", "number", "()I"⟩, prog_4_method_18_code, 4, (Option.some Jvm.ClassFile.FieldType.int), []),
  (⟨"MacroPress$Expander", "isSpaceOrSign", "(I)Z"⟩, prog_4_method_19_code, 1, (Option.some Jvm.ClassFile.FieldType.boolean), []),
  (⟨"MacroPress$Expander", "digits", "(I)I"⟩, prog_4_method_20_code, 7, (Option.some Jvm.ClassFile.FieldType.int), []),
  (⟨"MacroPress$Expander", "dropSpace", "(I)V"⟩, prog_4_method_21_code, 2, (Option.none : Option Jvm.ClassFile.FieldType), []),
  (⟨"MacroPress$Expander", "characterNumber", "(I)I"⟩, prog_4_method_22_code, 3, (Option.some Jvm.ClassFile.FieldType.int), []),
  (⟨"MacroPress$Expander", "valueOf", "(I)I"⟩, prog_4_method_23_code, 4, (Option.some Jvm.ClassFile.FieldType.int), []),
  (⟨"MacroPress$Expander", "numberUpTo", "(I)I"⟩, prog_4_method_24_code, 3, (Option.some Jvm.ClassFile.FieldType.int), []),
  (⟨"MacroPress$Macros", "<init>", "(LMacroPress$Progress;)V"⟩, prog_5_method_1_code, 2, (Option.none : Option Jvm.ClassFile.FieldType), []),
  (⟨"MacroPress$Macros", "begin", "()V"⟩, prog_5_method_2_code, 1, (Option.none : Option Jvm.ClassFile.FieldType), []),
  (⟨"MacroPress$Macros", "startOf", "(I)I"⟩, prog_5_method_3_code, 2, (Option.some Jvm.ClassFile.FieldType.int), []),
  (⟨"MacroPress$Macros", "bodyOf", "(I)I"⟩, prog_5_method_4_code, 2, (Option.some Jvm.ClassFile.FieldType.int), []),
  (⟨"MacroPress$Macros", "endOf", "(I)I"⟩, prog_5_method_5_code, 2, (Option.some Jvm.ClassFile.FieldType.int), []),
  (⟨"MacroPress$Macros", "add", "(I)V"⟩, prog_5_method_6_code, 2, (Option.none : Option Jvm.ClassFile.FieldType), []),
  (⟨"MacroPress$Macros", "beginBody", "()V"⟩, prog_5_method_7_code, 1, (Option.none : Option Jvm.ClassFile.FieldType), []),
  (⟨"MacroPress$Macros", "make", "()I"⟩, prog_5_method_8_code, 1, (Option.some Jvm.ClassFile.FieldType.int), []),
  (⟨"MacroPress$Macros", "isSame", "(II)Z"⟩, prog_5_method_9_code, 5, (Option.some Jvm.ClassFile.FieldType.boolean), []),
  (⟨"MacroPress$Names", "<init>", "()V"⟩, prog_6_method_1_code, 5, (Option.none : Option Jvm.ClassFile.FieldType), []),
  (⟨"MacroPress$Names", "begin", "()V"⟩, prog_6_method_2_code, 1, (Option.none : Option Jvm.ClassFile.FieldType), []),
  (⟨"MacroPress$Names", "lengthOf", "(I)I"⟩, prog_6_method_3_code, 2, (Option.some Jvm.ClassFile.FieldType.int), []),
  (⟨"MacroPress$Names", "find", "([III)I"⟩, prog_6_method_4_code, 9, (Option.some Jvm.ClassFile.FieldType.int), []),
  (⟨"MacroPress$Performer", "<init>", "(LMacroPress$Expander;LMacroPress$Source;LMacroPress$Store;LMacroPress$Macros;LMacroPress$Progress;)V"⟩, prog_7_method_1_code, 6, (Option.none : Option Jvm.ClassFile.FieldType), []),
  (⟨"MacroPress$Performer", "perform", "(I)I"⟩, prog_7_method_2_code, 4, (Option.some Jvm.ClassFile.FieldType.int), []),
  (⟨"MacroPress$Performer", "performCharacter", "(II)V"⟩, prog_7_method_3_code, 3, (Option.none : Option Jvm.ClassFile.FieldType), []),
  (⟨"MacroPress$Performer", "emit", "(I)V"⟩, prog_7_method_4_code, 2, (Option.none : Option Jvm.ClassFile.FieldType), []),
  (⟨"MacroPress$Performer", "performPrimitive", "(I)I"⟩, prog_7_method_5_code, 2, (Option.some Jvm.ClassFile.FieldType.int), []),
  (⟨"MacroPress$Performer", "prefixed", "()I"⟩, prog_7_method_6_code, 3, (Option.some Jvm.ClassFile.FieldType.int), []),
  (⟨"MacroPress$Performer", "assign", "(I)V"⟩, prog_7_method_7_code, 5, (Option.none : Option Jvm.ClassFile.FieldType), []),
  (⟨"MacroPress$Performer", "target", "()I"⟩, prog_7_method_8_code, 3, (Option.some Jvm.ClassFile.FieldType.int), []),
  (⟨"MacroPress$Performer", "define", "(ZZ)V"⟩, prog_7_method_9_code, 10, (Option.none : Option Jvm.ClassFile.FieldType), []),
  (⟨"MacroPress$Performer", "defineParameters", "()I"⟩, prog_7_method_10_code, 5, (Option.some Jvm.ClassFile.FieldType.int), []),
  (⟨"MacroPress$Performer", "placeOrSign", "(II)I"⟩, prog_7_method_11_code, 4, (Option.some Jvm.ClassFile.FieldType.int), []),
  (⟨"MacroPress$Performer", "letToken", "()I"⟩, prog_7_method_12_code, 3, (Option.some Jvm.ClassFile.FieldType.int), []),
  (⟨"MacroPress$Performer", "dropEquals", "()V"⟩, prog_7_method_13_code, 2, (Option.none : Option Jvm.ClassFile.FieldType), []),
  (⟨"MacroPress$Performer", "counter", "()I"⟩, prog_7_method_14_code, 1, (Option.some Jvm.ClassFile.FieldType.int), []),
  (⟨"MacroPress$Performer", "dropBy", "()V"⟩, prog_7_method_15_code, 3, (Option.none : Option Jvm.ClassFile.FieldType), []),
  (⟨"MacroPress$Performer", "isLetter", "(III)Z"⟩, prog_7_method_16_code, 4, (Option.some Jvm.ClassFile.FieldType.boolean), []),
  (⟨"MacroPress$Performer", "result", "(IJJ)I"⟩, prog_7_method_17_code, 8, (Option.some Jvm.ClassFile.FieldType.int), []),
  (⟨"MacroPress$Progress", "<init>", "()V"⟩, prog_8_method_1_code, 1, (Option.none : Option Jvm.ClassFile.FieldType), []),
  (⟨"MacroPress$Progress", "begin", "(I)V"⟩, prog_8_method_2_code, 2, (Option.none : Option Jvm.ClassFile.FieldType), []),
  (⟨"MacroPress$Progress", "tick", "()V"⟩, prog_8_method_3_code, 1, (Option.none : Option Jvm.ClassFile.FieldType), []),
  (⟨"MacroPress$Progress", "enter", "()V"⟩, prog_8_method_4_code, 1, (Option.none : Option Jvm.ClassFile.FieldType), []),
  (⟨"MacroPress$Progress", "leave", "()V"⟩, prog_8_method_5_code, 1, (Option.none : Option Jvm.ClassFile.FieldType), []),
  (⟨"MacroPress$Progress", "fail", "(I)I"⟩, prog_8_method_6_code, 2, (Option.some Jvm.ClassFile.FieldType.int), []),
  (⟨"MacroPress$Source", "<init>", "(LMacroPress$Names;LMacroPress$Store;LMacroPress$Progress;)V"⟩, prog_9_method_1_code, 4, (Option.none : Option Jvm.ClassFile.FieldType), []),
  (⟨"MacroPress$Source", "append", "(I)V"⟩, prog_9_method_2_code, 2, (Option.none : Option Jvm.ClassFile.FieldType), []),
  (⟨"MacroPress$Source", "begin", "()V"⟩, prog_9_method_3_code, 1, (Option.none : Option Jvm.ClassFile.FieldType), []),
  (⟨"MacroPress$Source", "put", "(I)V"⟩, prog_9_method_4_code, 2, (Option.none : Option Jvm.ClassFile.FieldType), []),
  (⟨"MacroPress$Source", "get", "(Z)I"⟩, prog_9_method_5_code, 7, (Option.some Jvm.ClassFile.FieldType.int), []),
  (⟨"MacroPress$Source", "dropLine", "()V"⟩, prog_9_method_6_code, 1, (Option.none : Option Jvm.ClassFile.FieldType), []),
  (⟨"MacroPress$Source", "beginLine", "()Z"⟩, prog_9_method_7_code, 2, (Option.some Jvm.ClassFile.FieldType.boolean), []),
  (⟨"MacroPress$Source", "scanName", "()I"⟩, prog_9_method_8_code, 2, (Option.some Jvm.ClassFile.FieldType.int), []),
  (⟨"MacroPress$Store", "<init>", "(LMacroPress$Progress;)V"⟩, prog_10_method_1_code, 3, (Option.none : Option Jvm.ClassFile.FieldType), []),
  (⟨"MacroPress$Store", "begin", "()V"⟩, prog_10_method_2_code, 1, (Option.none : Option Jvm.ClassFile.FieldType), []),
  (⟨"MacroPress$Store", "firstCategory", "(I)I"⟩, prog_10_method_3_code, 1, (Option.some Jvm.ClassFile.FieldType.int), []),
  (⟨"MacroPress$Store", "meaningOf", "(II)I"⟩, prog_10_method_4_code, 2, (Option.some Jvm.ClassFile.FieldType.int), []),
  (⟨"MacroPress$Store", "kindOf", "(I)I"⟩, prog_10_method_5_code, 1, (Option.some Jvm.ClassFile.FieldType.int), []),
  (⟨"MacroPress$Store", "dataOf", "(I)I"⟩, prog_10_method_6_code, 1, (Option.some Jvm.ClassFile.FieldType.int), []),
  (⟨"MacroPress$Store", "isExpandable", "(I)Z"⟩, prog_10_method_7_code, 2, (Option.some Jvm.ClassFile.FieldType.boolean), []),
  (⟨"MacroPress$Store", "meaning", "(I)I"⟩, prog_10_method_8_code, 2, (Option.some Jvm.ClassFile.FieldType.int), []),
  (⟨"MacroPress$Store", "primitive", "(I)I"⟩, prog_10_method_9_code, 3, (Option.some Jvm.ClassFile.FieldType.int), []),
  (⟨"MacroPress$Store", "set", "(IIZ)V"⟩, prog_10_method_10_code, 4, (Option.none : Option Jvm.ClassFile.FieldType), []),
  (⟨"MacroPress$Store", "openGroup", "(I)V"⟩, prog_10_method_11_code, 2, (Option.none : Option Jvm.ClassFile.FieldType), []),
  (⟨"MacroPress$Store", "closeGroup", "(I)V"⟩, prog_10_method_12_code, 2, (Option.none : Option Jvm.ClassFile.FieldType), []),
  (⟨"MacroPress$Store", "closeAll", "()V"⟩, prog_10_method_13_code, 2, (Option.none : Option Jvm.ClassFile.FieldType), []),
  (⟨"MacroPress$Store", "bringBack", "()V"⟩, prog_10_method_14_code, 4, (Option.none : Option Jvm.ClassFile.FieldType), []),
  (⟨"MacroPressModel", "<init>", "()V"⟩, prog_13_method_1_code, 1, (Option.none : Option Jvm.ClassFile.FieldType), []),
  (⟨"MacroPressModel", "thrown", "()I"⟩, prog_13_method_2_code, 1, (Option.some Jvm.ClassFile.FieldType.int), []),
  (⟨"MacroPressModel", "type", "(JI)Z"⟩, prog_13_method_3_code, 5, (Option.some Jvm.ClassFile.FieldType.boolean), []),
  (⟨"MacroPressModel", "fail", "(I)V"⟩, prog_13_method_4_code, 2, (Option.none : Option Jvm.ClassFile.FieldType), []),
  (⟨"MacroPressModel", "clear", "()V"⟩, prog_13_method_5_code, 3, (Option.none : Option Jvm.ClassFile.FieldType), []),
  (⟨"MacroPressModel", "primitives", "(Ljava/lang/String;)V"⟩, prog_13_method_6_code, 4, (Option.none : Option Jvm.ClassFile.FieldType), []),
  (⟨"MacroPressModel", "addName", "()I"⟩, prog_13_method_7_code, 2, (Option.some Jvm.ClassFile.FieldType.int), []),
  (⟨"MacroPressModel", "nameToken", "()I"⟩, prog_13_method_8_code, 4, (Option.some Jvm.ClassFile.FieldType.int), []),
  (⟨"MacroPressModel", "spell", "(I)V"⟩, prog_13_method_9_code, 2, (Option.none : Option Jvm.ClassFile.FieldType), []),
  (⟨"MacroPressModel", "category", "(I)I"⟩, prog_13_method_10_code, 2, (Option.some Jvm.ClassFile.FieldType.int), []),
  (⟨"MacroPressModel", "beginLine", "()Z"⟩, prog_13_method_11_code, 4, (Option.some Jvm.ClassFile.FieldType.boolean), []),
  (⟨"MacroPressModel", "readName", "()I"⟩, prog_13_method_12_code, 1, (Option.some Jvm.ClassFile.FieldType.int), []),
  (⟨"MacroPressModel", "read", "()I"⟩, prog_13_method_13_code, 3, (Option.some Jvm.ClassFile.FieldType.int), []),
  (⟨"MacroPressModel", "get", "()I"⟩, prog_13_method_14_code, 1, (Option.some Jvm.ClassFile.FieldType.int), []),
  (⟨"MacroPressModel", "need", "()I"⟩, prog_13_method_15_code, 2, (Option.some Jvm.ClassFile.FieldType.int), []),
  (⟨"MacroPressModel", "put", "(I)V"⟩, prog_13_method_16_code, 2, (Option.none : Option Jvm.ClassFile.FieldType), []),
  (⟨"MacroPressModel", "isCharacter", "(I)Z"⟩, prog_13_method_17_code, 1, (Option.some Jvm.ClassFile.FieldType.boolean), []),
  (⟨"MacroPressModel", "is", "(III)Z"⟩, prog_13_method_18_code, 3, (Option.some Jvm.ClassFile.FieldType.boolean), []),
  (⟨"MacroPressModel", "isOf", "(II)Z"⟩, prog_13_method_19_code, 2, (Option.some Jvm.ClassFile.FieldType.boolean), []),
  (⟨"MacroPressModel", "isMarked", "(I)Z"⟩, prog_13_method_20_code, 1, (Option.some Jvm.ClassFile.FieldType.boolean), []),
  (⟨"MacroPressModel", "bare", "(I)I"⟩, prog_13_method_21_code, 1, (Option.some Jvm.ClassFile.FieldType.int), []),
  (⟨"MacroPressModel", "idOf", "(I)I"⟩, prog_13_method_22_code, 3, (Option.some Jvm.ClassFile.FieldType.int), []),
  (⟨"MacroPressModel", "meaning", "(I)I"⟩, prog_13_method_23_code, 2, (Option.some Jvm.ClassFile.FieldType.int), []),
  (⟨"MacroPressModel", "means", "(II)Z"⟩, prog_13_method_24_code, 3, (Option.some Jvm.ClassFile.FieldType.boolean), []),
  (⟨"MacroPressModel", "isExpandable", "(I)Z"⟩, prog_13_method_25_code, 3, (Option.some Jvm.ClassFile.FieldType.boolean), []),
  (⟨"MacroPressModel", "mean", "(IIZ)V"⟩, prog_13_method_26_code, 5, (Option.none : Option Jvm.ClassFile.FieldType), []),
  (⟨"MacroPressModel", "getExpanded", "()I"⟩, prog_13_method_27_code, 2, (Option.some Jvm.ClassFile.FieldType.int), []),
  (⟨"MacroPressModel", "needExpanded", "()I"⟩, prog_13_method_28_code, 2, (Option.some Jvm.ClassFile.FieldType.int), []),
  (⟨"MacroPressModel", "needExpandedNoSpace", "()I"⟩, prog_13_method_29_code, 2, (Option.some Jvm.ClassFile.FieldType.int), []),
  (⟨"MacroPressModel", "tick", "()V"⟩, prog_13_method_30_code, 1, (Option.none : Option Jvm.ClassFile.FieldType), []),
  (⟨"MacroPressModel", "expand", "(I)V"⟩, prog_13_method_31_code, 3, (Option.none : Option Jvm.ClassFile.FieldType), []),
  (⟨"MacroPressModel", "primitive", "(II)V"⟩, prog_13_method_32_code, 7, (Option.none : Option Jvm.ClassFile.FieldType), []),
  (⟨"MacroPressModel", "makeName", "()V"⟩, prog_13_method_33_code, 4, (Option.none : Option Jvm.ClassFile.FieldType), []),
  (⟨"MacroPressModel", "putOther", "(I)V"⟩, prog_13_method_34_code, 2, (Option.none : Option Jvm.ClassFile.FieldType), []),
  (⟨"MacroPressModel", "spellOut", "(I)V"⟩, prog_13_method_35_code, 5, (Option.none : Option Jvm.ClassFile.FieldType), []),
  (⟨"MacroPressModel", "putDigits", "(I)V"⟩, prog_13_method_36_code, 4, (Option.none : Option Jvm.ClassFile.FieldType), []),
  (⟨"MacroPressModel", "romanDigit", "(IIII)V"⟩, prog_13_method_37_code, 6, (Option.none : Option Jvm.ClassFile.FieldType), []),
  (⟨"MacroPressModel", "roman", "(I)V"⟩, prog_13_method_38_code, 3, (Option.none : Option Jvm.ClassFile.FieldType), []),
  (⟨"MacroPressModel", "isSame", "(II)Z"⟩, prog_13_method_39_code, 3, (Option.some Jvm.ClassFile.FieldType.boolean), []),
  (⟨"MacroPressModel", "call", "(I)V"⟩, prog_13_method_40_code, 6, (Option.none : Option Jvm.ClassFile.FieldType), []),
  (⟨"MacroPressModel", "putOfBody", "(I)V"⟩, prog_13_method_41_code, 2, (Option.none : Option Jvm.ClassFile.FieldType), []),
  (⟨"MacroPressModel", "takeOne", "(I)V"⟩, prog_13_method_42_code, 6, (Option.none : Option Jvm.ClassFile.FieldType), []),
  (⟨"MacroPressModel", "takeUpTo", "(III)V"⟩, prog_13_method_43_code, 10, (Option.none : Option Jvm.ClassFile.FieldType), []),
  (⟨"MacroPressModel", "bareOf", "(I)V"⟩, prog_13_method_44_code, 6, (Option.none : Option Jvm.ClassFile.FieldType), []),
  (⟨"MacroPressModel", "condition", "(I)V"⟩, prog_13_method_45_code, 9, (Option.none : Option Jvm.ClassFile.FieldType), []),
  (⟨"MacroPressModel", "shape", "(IZ)I"⟩, prog_13_method_46_code, 4, (Option.some Jvm.ClassFile.FieldType.int), []),
  (⟨"MacroPressModel", "meanSame", "(II)Z"⟩, prog_13_method_47_code, 7, (Option.some Jvm.ClassFile.FieldType.boolean), []),
  (⟨"MacroPressModel", "compare", "()Z"⟩, prog_13_method_48_code, 6, (Option.some Jvm.ClassFile.FieldType.boolean), []),
  (⟨"MacroPressModel", "isCondition", "(I)Z"⟩, prog_13_method_49_code, 3, (Option.some Jvm.ClassFile.FieldType.boolean), []),
  (⟨"MacroPressModel", "drop", "(II)V"⟩, prog_13_method_50_code, 7, (Option.none : Option Jvm.ClassFile.FieldType), []),
  (⟨"MacroPressModel", "branch", "(II)V"⟩, prog_13_method_51_code, 6, (Option.none : Option Jvm.ClassFile.FieldType), []),
  (⟨"MacroPressModel", "hasValue", "(I)Z"⟩, prog_13_method_52_code, 2, (Option.some Jvm.ClassFile.FieldType.boolean), []),
  (⟨"MacroPressModel", "small", "(I)I"⟩, prog_13_method_53_code, 3, (Option.some Jvm.ClassFile.FieldType.int), []),
  (⟨"MacroPressModel", "value", "(I)I"⟩, prog_13_method_54_code, 4, (Option.some Jvm.ClassFile.FieldType.int), []),
  (⟨"MacroPressModel", "isDigit", "(I)Z"⟩, prog_13_method_55_code, 1, (Option.some Jvm.ClassFile.FieldType.boolean), []),
  (⟨"MacroPressModel", "dropSpace", "()V"⟩, prog_13_method_56_code, 2, (Option.none : Option Jvm.ClassFile.FieldType), []),
  (⟨"MacroPressModel", "digits", "(I)I"⟩, prog_13_method_57_code, 5, (Option.some Jvm.ClassFile.FieldType.int), []),
  (⟨"MacroPressModel", "quoted", "()I"⟩, prog_13_method_58_code, 5, (Option.some Jvm.ClassFile.FieldType.int), []),
  (⟨"MacroPressModel", "number", "()I"⟩, prog_13_method_59_code, 2, (Option.some Jvm.ClassFile.FieldType.int), []),
  (⟨"MacroPressModel", "primary", "()I"⟩, prog_13_method_60_code, 4, (Option.some Jvm.ClassFile.FieldType.int), []),
  (⟨"MacroPressModel", "write", "(I)V"⟩, prog_13_method_61_code, 2, (Option.none : Option Jvm.ClassFile.FieldType), []),
  (⟨"MacroPressModel", "openGroup", "(Z)V"⟩, prog_13_method_62_code, 3, (Option.none : Option Jvm.ClassFile.FieldType), []),
  (⟨"MacroPressModel", "closeGroup", "(Z)V"⟩, prog_13_method_63_code, 2, (Option.none : Option Jvm.ClassFile.FieldType), []),
  (⟨"MacroPressModel", "doCharacter", "(I)V"⟩, prog_13_method_64_code, 3, (Option.none : Option Jvm.ClassFile.FieldType), []),
  (⟨"MacroPressModel", "done", "(I)V"⟩, prog_13_method_65_code, 3, (Option.none : Option Jvm.ClassFile.FieldType), []),
  (⟨"MacroPressModel", "doPrimitive", "(IZ)V"⟩, prog_13_method_66_code, 6, (Option.none : Option Jvm.ClassFile.FieldType), []),
  (⟨"MacroPressModel", "setAt", "([IIIZ)V"⟩, prog_13_method_67_code, 6, (Option.none : Option Jvm.ClassFile.FieldType), []),
  (⟨"MacroPressModel", "prefixed", "()V"⟩, prog_13_method_68_code, 3, (Option.none : Option Jvm.ClassFile.FieldType), []),
  (⟨"MacroPressModel", "target", "()I"⟩, prog_13_method_69_code, 2, (Option.some Jvm.ClassFile.FieldType.int), []),
  (⟨"MacroPressModel", "equals", "()V"⟩, prog_13_method_70_code, 2, (Option.none : Option Jvm.ClassFile.FieldType), []),
  (⟨"MacroPressModel", "let", "(Z)V"⟩, prog_13_method_71_code, 4, (Option.none : Option Jvm.ClassFile.FieldType), []),
  (⟨"MacroPressModel", "isLetter", "(II)Z"⟩, prog_13_method_72_code, 3, (Option.some Jvm.ClassFile.FieldType.boolean), []),
  (⟨"MacroPressModel", "reckon", "(IZ)V"⟩, prog_13_method_73_code, 12, (Option.none : Option Jvm.ClassFile.FieldType), []),
  (⟨"MacroPressModel", "keep", "(I)V"⟩, prog_13_method_74_code, 2, (Option.none : Option Jvm.ClassFile.FieldType), []),
  (⟨"MacroPressModel", "define", "(ZZ)V"⟩, prog_13_method_75_code, 10, (Option.none : Option Jvm.ClassFile.FieldType), []),
  (⟨"MacroPressModel", "run", "(I)I"⟩, prog_13_method_76_code, 3, (Option.some Jvm.ClassFile.FieldType.int), []),
  (⟨"MacroPressModel", "ticks", "()I"⟩, prog_13_method_77_code, 1, (Option.some Jvm.ClassFile.FieldType.int), []),
  (⟨"MacroPressModel", "size", "()I"⟩, prog_13_method_78_code, 1, (Option.some Jvm.ClassFile.FieldType.int), []),
  (⟨"MacroPressModel", "out", "(I)I"⟩, prog_13_method_79_code, 2, (Option.some Jvm.ClassFile.FieldType.int), []),
  (⟨"MacroPressModel", "count", "(I)I"⟩, prog_13_method_80_code, 2, (Option.some Jvm.ClassFile.FieldType.int), []),
  (⟨"MacroPress$Token", "plain", "(I)I"⟩, prog_11_method_2_code, 1, (Option.some Jvm.ClassFile.FieldType.int), []),
  (⟨"MacroPress$Token", "isMarked", "(I)Z"⟩, prog_11_method_3_code, 1, (Option.some Jvm.ClassFile.FieldType.boolean), []),
  (⟨"MacroPress$Token", "isPlace", "(I)Z"⟩, prog_11_method_4_code, 1, (Option.some Jvm.ClassFile.FieldType.boolean), []),
  (⟨"MacroPress$Token", "isName", "(I)Z"⟩, prog_11_method_5_code, 1, (Option.some Jvm.ClassFile.FieldType.boolean), []),
  (⟨"MacroPress$Token", "isActive", "(I)Z"⟩, prog_11_method_6_code, 1, (Option.some Jvm.ClassFile.FieldType.boolean), []),
  (⟨"MacroPress$Token", "isCharacter", "(I)Z"⟩, prog_11_method_7_code, 1, (Option.some Jvm.ClassFile.FieldType.boolean), []),
  (⟨"MacroPress$Token", "category", "(I)I"⟩, prog_11_method_8_code, 1, (Option.some Jvm.ClassFile.FieldType.int), []),
  (⟨"MacroPress$Token", "isSpace", "(I)Z"⟩, prog_11_method_9_code, 1, (Option.some Jvm.ClassFile.FieldType.boolean), []),
  (⟨"MacroPress$Token", "digit", "(I)I"⟩, prog_11_method_10_code, 2, (Option.some Jvm.ClassFile.FieldType.int), []),
  (⟨"MacroPress$Token", "slot", "(I)I"⟩, prog_11_method_11_code, 1, (Option.some Jvm.ClassFile.FieldType.int), []),
  (⟨"MacroPressLaw", "run", "(LMacroPress;I[J)I"⟩, method_3_code, 4, (Option.some Jvm.ClassFile.FieldType.int), [((0 : Nat), (9 : Nat), (12 : Nat), (13 : Nat))]),
  (⟨"MacroPressLaw", "out", "(LMacroPress;I[J)I"⟩, method_4_code, 4, (Option.some Jvm.ClassFile.FieldType.int), [((0 : Nat), (9 : Nat), (12 : Nat), (18 : Nat))]),
  (⟨"MacroPressLaw", "count", "(LMacroPress;I[J)I"⟩, method_5_code, 4, (Option.some Jvm.ClassFile.FieldType.int), [((0 : Nat), (9 : Nat), (12 : Nat), (18 : Nat))]),
  (⟨"MacroPressLaw", "law", "([I)Z"⟩, code, 7, (Option.some Jvm.ClassFile.FieldType.boolean), [])]
end
section
/-! THE PROGRAM'S LINKS, printed: (class, entry, ..) and where the word stands among the tables' words -/
def mj_FL : List (Nat × Nat × Nat × Nat) := [(0, 12, 0, 0), (0, 19, 0, 1), (0, 28, 0, 2), (0, 37, 0, 3), (0, 44, 0, 4), (0, 53, 0, 5), (0, 62, 0, 6), (0, 71, 0, 7), (0, 75, 8, 1), (0, 105, 9, 8), (0, 108, 2, 2), (0, 116, 7, 0), (0, 122, 8, 6), (0, 125, 7, 1), (0, 128, 6, 1), (0, 138, 6, 0), (0, 144, 9, 0), (0, 160, 3, 1), (1, 11, 1, 0), (1, 15, 1, 1), (1, 18, 1, 2), (1, 21, 1, 4), (1, 25, 1, 5), (1, 29, 1, 6), (1, 33, 1, 3), (1, 46, 4, 0), (1, 94, 8, 8), (2, 9, 2, 0), (2, 15, 2, 1), (2, 19, 2, 3), (2, 23, 2, 4), (2, 27, 2, 5), (2, 31, 2, 2), (3, 9, 3, 0), (3, 15, 3, 2), (3, 19, 3, 3), (3, 23, 3, 4), (3, 27, 3, 5), (3, 31, 3, 6), (3, 35, 3, 7), (3, 44, 3, 8), (3, 105, 8, 8), (3, 152, 3, 1), (3, 167, 9, 0), (3, 186, 5, 1), (3, 189, 5, 0), (4, 9, 4, 0), (4, 15, 4, 1), (4, 18, 4, 2), (4, 21, 4, 5), (4, 25, 4, 3), (4, 29, 4, 4), (5, 18, 5, 0), (5, 24, 5, 1), (5, 28, 5, 2), (5, 31, 5, 4), (5, 47, 5, 3), (5, 56, 5, 5), (6, 9, 6, 0), (6, 15, 6, 2), (6, 19, 6, 3), (6, 23, 6, 4), (6, 27, 6, 5), (6, 31, 6, 6), (6, 69, 6, 1), (6, 119, 9, 0), (7, 9, 7, 0), (7, 15, 7, 1), (7, 18, 7, 2), (7, 21, 7, 3), (8, 9, 8, 0), (8, 15, 8, 7), (8, 18, 8, 9), (8, 21, 8, 10), (8, 25, 8, 11), (8, 29, 8, 12), (8, 33, 8, 1), (8, 37, 8, 2), (8, 40, 8, 6), (8, 43, 8, 8), (8, 46, 8, 4), (8, 58, 8, 3), (8, 65, 9, 0), (8, 83, 8, 5), (9, 9, 9, 0), (9, 15, 9, 1), (9, 18, 9, 2), (9, 21, 9, 3), (9, 24, 9, 4), (9, 27, 9, 6), (9, 30, 9, 7), (9, 33, 9, 9), (9, 73, 9, 8), (9, 77, 9, 5), (10, 7, 10, 2), (10, 13, 10, 4), (10, 16, 10, 7), (10, 21, 10, 12), (10, 24, 10, 13), (10, 27, 10, 14), (10, 30, 10, 16), (10, 33, 10, 18), (10, 38, 10, 19), (10, 41, 10, 20), (10, 44, 10, 21), (10, 47, 10, 23), (10, 50, 10, 24), (10, 53, 10, 25), (10, 56, 10, 26), (10, 59, 10, 28), (10, 62, 10, 30), (10, 66, 10, 31), (10, 69, 10, 32), (10, 72, 10, 34), (10, 75, 10, 35), (10, 81, 10, 36), (10, 85, 10, 0), (10, 88, 10, 1), (10, 91, 10, 39), (10, 94, 10, 5), (10, 97, 10, 6), (10, 100, 10, 8), (10, 103, 10, 9), (10, 106, 10, 10), (10, 109, 10, 17), (10, 112, 10, 22), (10, 115, 10, 27), (10, 118, 10, 29), (10, 121, 10, 33), (10, 124, 10, 38), (10, 127, 10, 40), (10, 131, 10, 11), (10, 134, 10, 3), (10, 143, 10, 15), (10, 224, 10, 37)]
def mj_FLh : List Nat := [496, 497, 498, 499, 500, 501, 502, 503, 308, 276, 385, 147, 314, 149, 475, 473, 266, 439, 415, 416, 417, 419, 420, 421, 418, 357, 318, 382, 383, 386, 387, 388, 384, 437, 440, 441, 442, 443, 444, 445, 446, 317, 438, 268, 231, 229, 356, 358, 359, 362, 360, 361, 228, 230, 232, 234, 233, 235, 472, 476, 477, 478, 479, 480, 474, 267, 146, 148, 150, 151, 306, 315, 319, 320, 321, 322, 307, 309, 313, 316, 311, 310, 265, 312, 264, 269, 270, 271, 272, 274, 275, 278, 277, 273, 1120, 1122, 1125, 1130, 1131, 1132, 1134, 1136, 1137, 1138, 1139, 1141, 1142, 1143, 1144, 1146, 1148, 1149, 1150, 1152, 1153, 1154, 1118, 1119, 1157, 1123, 1124, 1126, 1127, 1128, 1135, 1140, 1145, 1147, 1151, 1156, 1158, 1129, 1121, 1133, 1155]
def mj_ML : List (Nat × Nat × Nat) := [(0, 18, 54), (0, 25, 89), (0, 34, 81), (0, 43, 45), (0, 50, 17), (0, 59, 21), (0, 68, 58), (0, 79, 82), (0, 83, 7), (0, 86, 8), (0, 89, 22), (0, 95, 77), (0, 98, 59), (0, 102, 64), (0, 111, 80), (0, 119, 101), (0, 152, 76), (0, 155, 55), (0, 157, 90), (0, 158, 83), (0, 159, 46), (1, 37, 48), (1, 43, 47), (1, 49, 185), (1, 55, 85), (1, 61, 183), (1, 64, 80), (1, 69, 11), (1, 73, 12), (1, 78, 190), (1, 81, 189), (1, 84, 14), (1, 87, 13), (1, 91, 49), (1, 97, 16), (1, 100, 84), (2, 35, 80), (2, 42, 85), (2, 48, 97), (2, 53, 84), (3, 41, 9), (3, 48, 85), (3, 54, 24), (3, 58, 25), (3, 62, 22), (3, 66, 190), (3, 71, 96), (3, 77, 95), (3, 78, 77), (3, 83, 78), (3, 86, 93), (3, 89, 94), (3, 92, 10), (3, 95, 15), (3, 98, 26), (3, 102, 79), (3, 109, 80), (3, 112, 27), (3, 116, 84), (3, 119, 28), (3, 122, 29), (3, 125, 38), (3, 129, 31), (3, 132, 32), (3, 135, 43), (3, 138, 20), (3, 143, 18), (3, 146, 34), (3, 149, 19), (3, 155, 97), (3, 158, 188), (3, 161, 57), (3, 170, 92), (3, 174, 98), (3, 179, 186), (3, 182, 30), (3, 193, 900), (3, 198, 901), (3, 201, 33), (3, 206, 905), (3, 212, 35), (3, 215, 36), (3, 218, 37), (3, 222, 23), (3, 225, 53), (3, 230, 39), (3, 233, 191), (3, 236, 40), (3, 239, 42), (3, 242, 41), (3, 249, 56), (3, 252, 44), (4, 32, 80), (4, 38, 49), (5, 12, 904), (5, 34, 905), (5, 38, 57), (5, 42, 903), (5, 50, 902), (6, 35, 96), (6, 41, 94), (6, 44, 93), (6, 47, 60), (6, 51, 61), (6, 55, 62), (6, 58, 80), (6, 63, 99), (6, 66, 100), (6, 74, 23), (6, 80, 97), (6, 83, 63), (6, 86, 66), (6, 90, 65), (6, 93, 69), (6, 96, 98), (6, 100, 70), (6, 103, 44), (6, 106, 92), (6, 110, 38), (6, 113, 71), (6, 116, 72), (6, 122, 74), (6, 126, 85), (6, 132, 190), (6, 138, 186), (6, 141, 187), (6, 144, 192), (6, 147, 67), (6, 150, 51), (6, 155, 22), (6, 158, 189), (6, 161, 68), (6, 164, 50), (6, 167, 183), (6, 170, 52), (6, 173, 191), (6, 177, 84), (6, 180, 73), (6, 184, 188), (7, 24, 80), (8, 49, 86), (8, 52, 80), (8, 61, 87), (8, 70, 88), (8, 74, 57), (9, 37, 91), (9, 41, 92), (9, 45, 902), (9, 52, 93), (9, 55, 94), (9, 58, 184), (9, 64, 188), (9, 67, 192), (9, 70, 96), (9, 80, 80), (9, 85, 102), (10, 78, 107), (10, 139, 108), (10, 146, 904), (10, 152, 905), (10, 156, 109), (10, 160, 106), (10, 164, 112), (10, 168, 111), (10, 171, 110), (10, 174, 113), (10, 178, 114), (10, 183, 115), (10, 186, 116), (10, 189, 119), (10, 194, 123), (10, 197, 122), (10, 201, 124), (10, 204, 125), (10, 208, 127), (10, 211, 133), (10, 214, 129), (10, 217, 130), (10, 220, 121), (10, 227, 132), (10, 230, 142), (10, 233, 134), (10, 237, 117), (10, 240, 118), (10, 243, 135), (10, 246, 137), (10, 249, 161), (10, 252, 138), (10, 255, 140), (10, 258, 154), (10, 261, 156), (10, 264, 153), (10, 267, 147), (10, 270, 126), (10, 273, 128), (10, 277, 136), (10, 284, 139), (10, 289, 141), (10, 292, 144), (10, 295, 145), (10, 299, 143), (10, 302, 146), (10, 305, 148), (10, 309, 149), (10, 312, 150), (10, 315, 152), (10, 319, 131), (10, 322, 120), (10, 326, 151), (10, 330, 155), (10, 333, 157), (10, 338, 158), (10, 341, 162), (10, 344, 159), (10, 347, 160), (10, 350, 164), (10, 354, 165), (10, 357, 163), (10, 360, 166), (10, 363, 168), (10, 367, 177), (10, 371, 173), (10, 374, 171), (10, 377, 172), (10, 380, 169), (10, 384, 170), (10, 387, 175), (10, 390, 174), (10, 395, 176), (10, 398, 167), (11, 15, 189), (12, 7, 2), (12, 15, 5), (12, 20, 6), (12, 23, 0), (12, 26, 103), (12, 29, 1), (12, 33, 105), (12, 34, 193), (12, 39, 178), (12, 40, 104), (12, 44, 3), (12, 47, 179), (12, 48, 4), (12, 51, 180), (12, 52, 194), (12, 54, 181), (12, 55, 195), (12, 57, 182)]
def mj_MLh : List Nat := [163, 254, 302, 352, 378, 405, 468, 525, 546, 616, 648, 941, 942, 974, 1057, 1058, 620, 624, 631, 636, 644, 736, 740, 744, 748, 749, 753, 754, 770, 759, 765, 766, 774, 782, 786, 790, 902, 906, 907, 903, 411, 652, 687, 717, 808, 844, 691, 707, 721, 726, 730, 731, 732, 778, 794, 874, 815, 798, 802, 804, 824, 836, 878, 885, 866, 898, 908, 912, 937, 809, 814, 816, 817, 818, 828, 831, 882, 889, 892, 897, 916, 920, 924, 933, 928, 841, 845, 848, 858, 854, 862, 870, 1011, 932, 169, 179, 217, 221, 628, 946, 947, 948, 949, 966, 970, 965, 953, 957, 983, 984, 978, 985, 989, 1028, 1027, 1032, 1037, 1026, 1038, 1039, 1043, 1051, 993, 994, 995, 996, 999, 1000, 1013, 1017, 1004, 1018, 1007, 1012, 1022, 1005, 1036, 1047, 1050, 725, 640, 665, 656, 660, 664, 258, 261, 635, 710, 713, 695, 699, 702, 813, 822, 961, 1103, 1108, 1112, 1113, 1114, 1282, 1270, 1278, 1286, 1266, 1274, 1262, 1258, 1301, 1313, 1297, 1309, 1304, 1293, 1317, 1254, 1369, 1342, 1321, 1325, 1361, 1330, 1357, 1365, 1381, 1389, 1431, 1435, 1418, 1423, 1443, 1452, 1373, 1377, 1385, 1439, 1334, 1338, 1345, 1353, 1349, 1456, 1460, 1464, 1472, 1468, 1397, 1448, 1427, 1400, 1414, 1393, 1403, 1410, 1488, 1492, 1480, 1484, 1496, 1500, 1512, 1504, 1516, 1520, 1524, 1528, 1532, 1508, 1476, 762, 541, 1066, 1089, 134, 1096, 521, 1246, 537, 1250, 1242, 529, 1537, 533, 1541, 1062, 1545, 1086, 1549]
def mj_CL : List (Nat × Nat × Nat) := [(0, 9, 7), (0, 16, 5), (0, 23, 9), (0, 32, 8), (0, 41, 4), (0, 48, 2), (0, 57, 3), (0, 66, 6), (3, 39, 1), (12, 8, 0), (12, 24, 10)]
def mj_CLh : List Nat := [140, 161, 252, 300, 350, 376, 403, 466, 409, 132, 1094]
def mj_KI : List (Nat × Nat × Int32) := [(1, 77, 1000000000), (2, 41, 1000000000), (2, 59, 1114130), (3, 65, 1000000000), (3, 115, 1048576), (3, 178, 65536), (3, 185, 65535), (5, 9, 40000), (6, 73, 1000000000), (6, 176, 2097152), (8, 82, 65536), (8, 86, 65555), (9, 51, 65535), (10, 20, 44000), (10, 37, 141400), (10, 65, 99000), (10, 159, 65536), (10, 181, 65555), (10, 182, 131072), (10, 193, 524288), (10, 200, 2000000), (10, 207, 100000), (10, 288, 262144), (10, 318, 3000000), (10, 329, 589842), (11, 11, -1048577), (11, 12, 1048576), (11, 13, 2097152), (11, 14, 65536), (11, 19, 65535)]
def mj_KIh : List Nat := [758, 905, 904, 840, 803, 823, 835, 167, 982, 1006, 685, 686, 716, 1100, 1101, 1102, 1290, 1291, 1292, 1300, 1308, 1316, 1329, 1422, 1447, 752, 698, 747, 705, 706]
def mj_KL : List (Nat × Nat × Int64) := [(3, 245, 10), (3, 247, 2147483647), (6, 187, 2147483647), (6, 189, -2147483647), (10, 280, 48), (10, 282, 10), (10, 336, 2147483647), (10, 393, -2147483647), (12, 27, 4294967295)]
def mj_KLh : List Nat := [852, 853, 1055, 1056, 1408, 1407, 1409, 1536, 1553]
def mj_OI : List (Nat × Nat) := [(0, 3), (1, 3), (2, 3), (3, 3), (4, 3), (5, 3), (6, 3), (7, 3), (8, 3), (9, 3), (10, 1)]
def mj_OIh : List Nat := [137, 414, 381, 408, 355, 166, 471, 145, 305, 257, 1099]
def mj_MH : List (Nat × Nat × Nat × Nat × Nat) := [(136, 108, 0, 135, 0), (524, 108, 0, 522, 523), (544, 108, 0, 542, 543), (532, 108, 0, 530, 531), (536, 108, 0, 534, 535), (1069, 108, 0, 1067, 1068), (1092, 108, 0, 1090, 1091), (548, 108, 1, 547, 0), (619, 108, 0, 618, 1), (413, 120, 0, 412, 0), (735, 120, 0, 733, 734), (757, 120, 0, 756, 7), (773, 120, 0, 772, 9), (777, 120, 0, 776, 10), (769, 120, 0, 768, 8), (781, 120, 0, 779, 780), (789, 120, 0, 788, 11), (380, 118, 0, 379, 0), (911, 118, 0, 909, 910), (940, 118, 0, 938, 939), (901, 118, 0, 899, 900), (407, 119, 0, 406, 0), (651, 119, 0, 649, 650), (936, 119, 0, 934, 935), (690, 119, 0, 689, 5), (720, 119, 0, 719, 6), (797, 119, 0, 796, 12), (801, 119, 0, 800, 13), (807, 119, 0, 806, 14), (827, 119, 0, 826, 15), (834, 119, 0, 833, 16), (881, 119, 0, 880, 20), (888, 119, 0, 887, 21), (895, 119, 0, 894, 22), (915, 119, 0, 914, 23), (919, 119, 0, 918, 24), (923, 119, 0, 922, 25), (927, 119, 0, 926, 26), (839, 119, 0, 837, 838), (843, 119, 1, 842, 0), (851, 119, 0, 850, 17), (857, 119, 0, 856, 18), (861, 119, 0, 860, 19), (869, 119, 0, 867, 868), (873, 119, 0, 871, 872), (354, 117, 0, 353, 0), (647, 117, 0, 645, 646), (743, 117, 0, 741, 742), (739, 117, 0, 737, 738), (785, 117, 0, 783, 784), (1010, 117, 0, 1008, 1009), (1016, 117, 0, 1014, 1015), (1025, 117, 0, 1023, 1024), (931, 117, 0, 929, 930), (165, 110, 0, 164, 0), (627, 110, 0, 625, 626), (865, 110, 0, 863, 864), (220, 110, 0, 218, 219), (470, 121, 0, 469, 0), (945, 121, 0, 943, 944), (952, 121, 0, 951, 27), (969, 121, 0, 968, 29), (973, 121, 0, 972, 30), (981, 121, 0, 980, 31), (977, 121, 0, 975, 976), (992, 121, 0, 991, 33), (988, 121, 0, 987, 32), (1003, 121, 0, 1002, 34), (1021, 121, 0, 1020, 35), (1031, 121, 0, 1030, 36), (1035, 121, 0, 1034, 37), (1042, 121, 0, 1041, 38), (1046, 121, 0, 1045, 39), (1049, 121, 1, 1048, 0), (1054, 121, 0, 1053, 40), (144, 109, 0, 143, 0), (623, 109, 0, 621, 622), (724, 109, 0, 722, 723), (729, 109, 0, 727, 728), (877, 109, 0, 875, 876), (668, 109, 0, 666, 667), (304, 116, 0, 303, 0), (528, 116, 0, 526, 527), (639, 116, 0, 637, 638), (793, 116, 0, 791, 792), (655, 116, 0, 653, 654), (643, 116, 0, 642, 2), (659, 116, 0, 658, 3), (663, 116, 0, 662, 4), (256, 115, 0, 255, 0), (634, 115, 0, 632, 633), (260, 115, 1, 259, 0), (263, 115, 1, 262, 0), (712, 115, 1, 711, 0), (715, 115, 1, 714, 0), (709, 115, 1, 708, 0), (694, 115, 0, 692, 693), (812, 115, 0, 810, 811), (821, 115, 0, 819, 820), (956, 115, 0, 954, 955), (960, 115, 0, 958, 959), (1061, 115, 0, 1059, 1060), (964, 115, 0, 963, 28), (1098, 122, 0, 1097, 0), (1245, 122, 0, 1243, 1244), (1249, 122, 0, 1247, 1248), (1285, 122, 0, 1284, 51), (1106, 122, 0, 1105, 41), (1111, 122, 0, 1110, 42), (1117, 122, 0, 1116, 43), (1289, 122, 0, 1288, 52), (1281, 122, 0, 1280, 50), (1273, 122, 0, 1272, 48), (1269, 122, 0, 1268, 47), (1277, 122, 0, 1276, 49), (1265, 122, 0, 1264, 46), (1261, 122, 0, 1260, 45), (1333, 122, 0, 1332, 59), (1360, 122, 0, 1359, 65), (1303, 122, 1, 1302, 0), (1399, 122, 1, 1398, 0), (1344, 122, 1, 1343, 0), (1299, 122, 1, 1298, 0), (1315, 122, 1, 1314, 0), (1312, 122, 0, 1311, 55), (1307, 122, 0, 1306, 54), (1376, 122, 0, 1375, 69), (1296, 122, 0, 1295, 53), (1380, 122, 0, 1379, 70), (1257, 122, 0, 1256, 44), (1372, 122, 0, 1371, 68), (1471, 122, 0, 1470, 90), (1324, 122, 0, 1323, 57), (1320, 122, 0, 1319, 56), (1364, 122, 0, 1363, 66), (1368, 122, 0, 1367, 67), (1388, 122, 0, 1387, 72), (1384, 122, 0, 1383, 71), (1434, 122, 0, 1433, 81), (1442, 122, 0, 1441, 83), (1438, 122, 0, 1437, 82), (1337, 122, 0, 1336, 60), (1328, 122, 0, 1327, 58), (1356, 122, 0, 1355, 64), (1341, 122, 0, 1340, 61), (1348, 122, 0, 1347, 62), (1352, 122, 0, 1351, 63), (1455, 122, 0, 1454, 86), (1459, 122, 0, 1458, 87), (1463, 122, 0, 1462, 88), (1467, 122, 0, 1466, 89), (1451, 122, 0, 1450, 85), (1475, 122, 0, 1474, 91), (1446, 122, 0, 1445, 84), (1421, 122, 0, 1420, 78), (1430, 122, 0, 1429, 80), (1426, 122, 0, 1425, 79), (1402, 122, 1, 1401, 0), (1417, 122, 0, 1416, 77), (1406, 122, 0, 1405, 75), (1413, 122, 0, 1412, 76), (1392, 122, 0, 1391, 73), (1396, 122, 0, 1395, 74), (1483, 122, 0, 1482, 93), (1491, 122, 0, 1490, 95), (1495, 122, 0, 1494, 96), (1487, 122, 0, 1486, 94), (1479, 122, 0, 1478, 92), (1499, 122, 0, 1498, 97), (1523, 122, 0, 1522, 103), (1527, 122, 0, 1526, 104), (1507, 122, 0, 1506, 99), (1519, 122, 0, 1518, 102), (1515, 122, 0, 1514, 101), (1535, 122, 0, 1534, 106), (1531, 122, 0, 1530, 105), (1511, 122, 0, 1510, 100), (1503, 122, 0, 1502, 98), (1253, 122, 0, 1251, 1252), (1540, 122, 0, 1538, 1539), (1544, 122, 0, 1542, 1543), (1548, 122, 0, 1546, 1547), (1552, 122, 0, 1550, 1551), (751, 129, 1, 750, 0), (697, 129, 1, 696, 0), (746, 129, 1, 745, 0), (830, 129, 1, 829, 0), (998, 129, 1, 997, 0), (701, 129, 1, 700, 0), (764, 129, 1, 763, 0), (761, 129, 1, 760, 0), (847, 129, 1, 846, 0), (704, 129, 1, 703, 0), (539, 107, 1, 538, 0), (1064, 107, 1, 1063, 0), (1088, 107, 1, 1087, 0), (0, 0, 0, 0, 0)]
def mj_CH : List (Nat × Nat × List Nat) := [(133, 108, [504, 506, 508, 510, 512, 514, 516, 518]), (410, 120, [422, 424, 426, 428, 430, 432, 434]), (377, 118, [389, 391, 393, 395, 397, 399]), (404, 119, [447, 449, 451, 453, 455, 457, 459, 461, 463]), (351, 117, [363, 365, 367, 369, 371, 373]), (162, 110, [236, 238, 240, 242, 244, 246]), (467, 121, [481, 483, 485, 487, 489, 491, 493]), (141, 109, [152, 154, 156, 158]), (301, 116, [323, 325, 327, 329, 331, 333, 335, 337, 339, 341, 343, 345, 347]), (253, 115, [279, 281, 283, 285, 287, 289, 291, 293, 295, 297]), (1095, 122, [1159, 1161, 1163, 1165, 1167, 1169, 1171, 1173, 1175, 1177, 1179, 1181, 1183, 1185, 1187, 1189, 1191, 1193, 1195, 1197, 1199, 1201, 1203, 1205, 1207, 1209, 1211, 1213, 1215, 1217, 1219, 1221, 1223, 1225, 1227, 1229, 1231, 1233, 1235, 1237, 1239])]
end
section
/-! THE LINKS ARE AMONG THE TABLES' WORDS -/
def mj_Wd (w : Cond) : Prop := w ∈ lw_tbl ∧ goodWord w = true
def mj_nm (o : Nat) : String := mj_cn.getD o ""
def mj_tb (c j : Nat) : String × String × String × Bool := match mj_cl[c]? with
  | some q => q.2.1 j
  | none => ("", "", "", false)
def mj_ch (w : Cond) (h : Nat) : Bool := decide (lw_tbl[h]? = some w) && goodWord w
theorem mj_ch_wd {w : Cond} {h : Nat} (q : mj_ch w h = true) : mj_Wd w := by
  unfold mj_ch at q
  rw [Bool.and_eq_true, decide_eq_true_eq] at q
  exact ⟨List.mem_of_getElem? q.1, q.2⟩
def mj_zc {α : Type} (f : α → Cond) : List α → List Nat → Bool
  | q :: qs, h :: hs => mj_ch (f q) h && mj_zc f qs hs
  | [], [] => true
  | _, _ => false
theorem mj_zc_wd {α : Type} {f : α → Cond} : ∀ {qs : List α} {hs : List Nat}, mj_zc f qs hs = true → ∀ q ∈ qs, mj_Wd (f q)
  | q :: qs, h :: hs, z, x, hx => by
    unfold mj_zc at z
    rw [Bool.and_eq_true] at z
    rcases List.mem_cons.mp hx with rfl | hx
    · exact mj_ch_wd z.1
    · exact mj_zc_wd z.2 x hx
def mj_flc (q : Nat × Nat × Nat × Nat) : Cond := .fieldLink (mj_nm q.1) q.2.1 (mj_tb q.2.2.1 q.2.2.2).1 (mj_tb q.2.2.1 q.2.2.2).2.1 (mj_tb q.2.2.1 q.2.2.2).2.2.1
theorem mj_FLok : mj_zc mj_flc mj_FL mj_FLh = true := by decide +kernel
/-- a method's name; the JDK's own behind 900 -/
def mj_mn (n : Nat) : MethodName := match n with
  | 900 => ⟨"java/lang/Math", "abs", "(I)I"⟩
  | 901 => ⟨"java/lang/Math", "max", "(II)I"⟩
  | 902 => ⟨"java/lang/System", "arraycopy", "(Ljava/lang/Object;ILjava/lang/Object;II)V"⟩
  | 903 => ⟨"[I", "clone", "()Ljava/lang/Object;"⟩
  | 904 => ⟨"java/lang/String", "length", "()I"⟩
  | 905 => ⟨"java/lang/String", "charAt", "(I)C"⟩
  | n => match mj_PD[n]? with
    | some y => y.1
    | none => ⟨"", "", ""⟩
def mj_mlc (q : Nat × Nat × Nat) : Cond := .methodLink (mj_nm q.1) q.2.1 (mj_mn q.2.2)
theorem mj_MLok : mj_zc mj_mlc mj_ML mj_MLh = true := by decide +kernel
def mj_clc (q : Nat × Nat × Nat) : Cond := .classLink (mj_nm q.1) q.2.1 (mj_nm q.2.2)
theorem mj_CLok : mj_zc mj_clc mj_CL mj_CLh = true := by decide +kernel
def mj_kic (q : Nat × Nat × Int32) : Cond := .constant (mj_nm q.1) q.2.1 q.2.2
theorem mj_KIok : mj_zc mj_kic mj_KI mj_KIh = true := by decide +kernel
def mj_klc (q : Nat × Nat × Int64) : Cond := .constantLong (mj_nm q.1) q.2.1 q.2.2
theorem mj_KLok : mj_zc mj_klc mj_KL mj_KLh = true := by decide +kernel
def mj_oic (q : Nat × Nat) : Cond := .methodLink (mj_nm q.1) q.2 objectInit
theorem mj_OIok : mj_zc mj_oic mj_OI mj_OIh = true := by decide +kernel
theorem mj_OB1 : mj_Wd (.instanceMethod objectInit) := ⟨by decide +kernel, by decide +kernel⟩
theorem mj_OB2 : mj_Wd (.code objectInit ⟨#[0xb1]⟩ 1 none) := ⟨by decide +kernel, by decide +kernel⟩
theorem mj_AC (t : ArrayType) (h : t = .int ∨ t = .long ∨ t = .char ∨ t = .boolean ∨ t = .byte) : mj_Wd (.arrayClass (newarray.typeOf t)) := by
  rcases h with rfl | rfl | rfl | rfl | rfl <;> exact ⟨by decide +kernel, by decide +kernel⟩
end
section
/-! INSTRUCTIONS, checked by a program -/
def mj_ck (o : Nat) (y : mj_D) (x : mj_I) : Bool :=
  decide (decode y.2.1 x.1 = .ok (x.2.1, x.2.2.1)) && match x.2.1 with
  | .iconst n => (x.2.2.1 == 1) && (Int32.ofInt n == x.2.2.2.2.1)
  | .bipush n => (x.2.2.1 == 2) && ((Int8.ofInt n).toInt32 == x.2.2.2.2.1)
  | .sipush n => (x.2.2.1 == 3) && ((Int16.ofInt n).toInt32 == x.2.2.2.2.1)
  | .ldc i => (x.2.2.1 == 2) && ((x.2.2.2.1.2.2 == 0 && mj_KI.contains (o, i, x.2.2.2.2.1)) || (x.2.2.2.1.2.2 == 1 && Nat.ble 900000 x.2.2.2.1.1))
  | .ldc_w i => (x.2.2.1 == 3) && mj_KI.contains (o, i, x.2.2.2.2.1)
  | .lconst n => (x.2.2.1 == 1) && (Int64.ofNat (n : Nat) == x.2.2.2.2.2.1)
  | .ldc2_w i => (x.2.2.1 == 3) && mj_KL.contains (o, i, x.2.2.2.2.2.1)
  | .iload i => (x.2.2.1 == 2) && (x.2.2.2.1.1 == i)
  | .iload_n i => (x.2.2.1 == 1) && (x.2.2.2.1.1 == (i : Nat))
  | .lload i => (x.2.2.1 == 2) && (x.2.2.2.1.1 == i)
  | .lload_n i => (x.2.2.1 == 1) && (x.2.2.2.1.1 == (i : Nat))
  | .aload i => (x.2.2.1 == 2) && (x.2.2.2.1.1 == i)
  | .aload_n i => (x.2.2.1 == 1) && (x.2.2.2.1.1 == (i : Nat))
  | .istore i => ((x.2.2.1 == 2) && (x.2.2.2.1.1 == i)) && Nat.blt i y.2.2.1
  | .istore_n i => ((x.2.2.1 == 1) && (x.2.2.2.1.1 == (i : Nat))) && Nat.blt (i : Nat) y.2.2.1
  | .lstore i => ((x.2.2.1 == 2) && (x.2.2.2.1.1 == i)) && Nat.blt (i + 1) y.2.2.1
  | .lstore_n i => ((x.2.2.1 == 1) && (x.2.2.2.1.1 == (i : Nat))) && Nat.blt ((i : Nat) + 1) y.2.2.1
  | .astore i => ((x.2.2.1 == 2) && (x.2.2.2.1.1 == i)) && Nat.blt i y.2.2.1
  | .astore_n i => ((x.2.2.1 == 1) && (x.2.2.2.1.1 == (i : Nat))) && Nat.blt (i : Nat) y.2.2.1
  | .iinc i n => ((x.2.2.1 == 3) && (x.2.2.2.1.1 == i) && (Int32.ofInt n == x.2.2.2.2.1)) && Nat.blt i y.2.2.1
  | .ifCond _ off => (x.2.2.1 == 3) && ((x.1 : Int) + off == (x.2.2.2.1.1 : Int))
  | .if_icmp _ off => (x.2.2.1 == 3) && ((x.1 : Int) + off == (x.2.2.2.1.1 : Int))
  | .goto off => (x.2.2.1 == 3) && ((x.1 : Int) + off == (x.2.2.2.1.1 : Int))
  | .tableswitch d lo hi offs => ((x.1 : Int) + d == (x.2.2.2.1.1 : Int)) && (offs.size == x.2.2.2.2.2.2.length) && (hi == lo + (offs.size : Int) - 1) && (List.range offs.size).all fun j => match offs[j]?, x.2.2.2.2.2.2[j]? with
    | some q, some (k, t) => (k.toInt == lo + (j : Int)) && ((x.1 : Int) + q == (t : Int))
    | _, _ => false
  | .lookupswitch d ps => ((x.1 : Int) + d == (x.2.2.2.1.1 : Int)) && ((ps.toList.zip (ps.toList.drop 1)).all (fun (a, next) => decide (a.1 < next.1))) && decide (ps.toList = x.2.2.2.2.2.2.map fun q => (q.1.toInt, (q.2 : Int) - (x.1 : Int)))
  | .getfield i => (x.2.2.1 == 3) && mj_FL.contains (o, i, x.2.2.2.1.1, x.2.2.2.1.2.1) && (match mj_cl[x.2.2.2.1.1]? with
    | some q => Nat.blt x.2.2.2.1.2.1 q.2.2
    | none => false) && ((x.2.2.2.1.2.2 == 0) == (mj_ft x.2.2.2.1.1 x.2.2.2.1.2.1 != 2))
  | .putfield i => (x.2.2.1 == 3) && mj_FL.contains (o, i, x.2.2.2.1.1, x.2.2.2.1.2.1) && (match mj_cl[x.2.2.2.1.1]? with
    | some q => Nat.blt x.2.2.2.1.2.1 q.2.2
    | none => false) && (!(mj_tb x.2.2.2.1.1 x.2.2.2.1.2.1).2.2.2 || ((y.1.name == "<init>") && ((mj_tb x.2.2.2.1.1 x.2.2.2.1.2.1).1 == mj_nm o))) && (match parseFieldDescriptor (mj_tb x.2.2.2.1.1 x.2.2.2.1.2.1).2.2.1 with
    | some .int => (x.2.2.2.1.2.2 == 0) && (mj_ft x.2.2.2.1.1 x.2.2.2.1.2.1 != 2)
    | some (.object _) => (x.2.2.2.1.2.2 == 2) && (mj_ft x.2.2.2.1.1 x.2.2.2.1.2.1 == 2)
    | some (.array _) => (x.2.2.2.1.2.2 == 2) && (mj_ft x.2.2.2.1.1 x.2.2.2.1.2.1 == 2)
    | some .boolean => (x.2.2.2.1.2.2 == 3) && (mj_ft x.2.2.2.1.1 x.2.2.2.1.2.1 != 2)
    | _ => false)
  | .new i => (x.2.2.1 == 3) && (x.2.2.2.1.2.2 != 0 || (mj_CL.contains (o, i, x.2.2.2.1.1) && (match mj_cl[x.2.2.2.1.1]? with
    | some q => (q.2.2 == x.2.2.2.1.2.1) && (q.1 == mj_nm x.2.2.2.1.1)
    | none => false)))
  | .newarray ty => (x.2.2.1 == 2) && decide ((x.2.2.2.1.2.2 = 0 ∧ ty = .int) ∨ (x.2.2.2.1.2.2 = 1 ∧ ty = .long) ∨ (x.2.2.2.1.2.2 = 2 ∧ ty = .char) ∨ (x.2.2.2.1.2.2 = 3 ∧ ty = .boolean) ∨ (x.2.2.2.1.2.2 = 4 ∧ ty = .byte))
  | .checkcast i => (x.2.2.1 == 3) && (o == 5) && (i == 43)
  | .invokestatic _ => x.2.2.1 == 3
  | .invokevirtual _ => x.2.2.1 == 3
  | .invokespecial i => (x.2.2.1 == 3) && (x.2.2.2.1.2.2 == 0 || mj_OI.contains (o, i))
  | .ireturn => (x.2.2.1 == 1) && ((x.2.2.2.1.2.2 == 0 && decide (y.2.2.2.1 = some .int)) || (x.2.2.2.1.2.2 != 0 && decide (y.2.2.2.1 = some .boolean)))
  | .return_ => (x.2.2.1 == 1) && decide (y.2.2.2.1 = none)
  | _ => x.2.2.1 == 1
def mj_bc (o : Nat) (y : mj_D) : Nat → List mj_I → Nat → Bool
  | pc, [], e => e == pc
  | pc, x :: is, e => (x.1 == pc) && mj_ck o y x && mj_bc o y (pc + x.2.2.1) is e
def mj_mc (o n : Nat) : Bool := match mj_P[n]?, mj_PD[n]? with
  | some mm, some y => (mm.1 == y.2.2.1) && (y.1.cls == mj_nm o) && mm.2.2.all fun b => mj_bc o y b.1 b.2.2.1 b.2.2.2
  | _, _ => false
theorem mj_CCok : mj_Wd (.classLink "MacroPress$Names" 43 "[I") := ⟨by decide +kernel, by decide +kernel⟩
def mj_chc (k : Nat) (q : Nat × Nat × List Nat) : Bool := match mj_cl[k]? with
  | some z => mj_ch (.instantiable z.1 z.2.2) q.1 && mj_ch (.initialized z.1) q.2.1 && mj_zc (u_lay z.1 z.2.1) (List.range z.2.2) q.2.2
  | none => false
theorem mj_CHok : ((List.range 11).all fun k => mj_chc k (mj_CH.getD k (0, 0, []))) = true := by decide +kernel
theorem mj_cl_wd {k : Nat} {C : String} {T : u_T} {N : Nat} (h : mj_cl[k]? = some (C, T, N)) : mj_Wd (.instantiable C N) ∧ mj_Wd (.initialized C) ∧ ∀ w ∈ u_ws C T N, mj_Wd w := by
  have hk : k < 11 := (List.getElem?_eq_some_iff.mp h).1
  have := List.all_eq_true.mp mj_CHok k (List.mem_range.mpr hk)
  unfold mj_chc at this
  rw [h] at this
  simp only [Bool.and_eq_true] at this
  refine ⟨mj_ch_wd this.1.1, mj_ch_wd this.1.2, fun w hw => ?_⟩
  unfold u_ws at hw
  obtain ⟨j, hj, rfl⟩ := List.mem_map.mp hw
  exact mj_zc_wd this.2 j hj
theorem mj_tb_eq {c j : Nat} {C : String} {T : u_T} {N : Nat} (h : mj_cl[c]? = some (C, T, N)) : mj_tb c j = T j := by unfold mj_tb; rw [h]
set_option maxHeartbeats 4000000 in
theorem mj_ck_ok {o : Nat} {y : mj_D} {x : mj_I} (h : mj_ck o y x = true) : decode y.2.1 x.1 = .ok (x.2.1, x.2.2.1) ∧ mj_iok mj_Wd mj_cl mj_ft (mj_nm o) y.2.2.1 (y.1.name = "<init>") y.2.2.2.1 x := by
  unfold mj_ck at h
  rw [Bool.and_eq_true, decide_eq_true_eq] at h
  refine ⟨h.1, ?_⟩
  replace h := h.2
  obtain ⟨pc, i, len, ⟨a, b, t⟩, k, kl, sw⟩ := x
  unfold mj_iok
  cases i <;> dsimp only at h ⊢
  all_goals try exact beq_iff_eq.mp h
  all_goals simp only [Bool.and_eq_true, Bool.or_eq_true, beq_iff_eq, decide_eq_true_eq, bne_iff_ne, Nat.blt_eq] at h
  all_goals try exact h
  all_goals try exact ⟨h.1.1, h.1.2, h.2⟩
  case ldc n =>
    refine ⟨h.1, ?_⟩
    rcases h.2 with q | q
    · exact Or.inl ⟨q.1, mj_zc_wd mj_KIok _ (List.contains_iff_mem.mp q.2)⟩
    · exact Or.inr ⟨by rw [q.1]; decide, Nat.le_of_ble_eq_true q.2⟩
  case ldc_w n => exact ⟨h.1, mj_zc_wd mj_KIok _ (List.contains_iff_mem.mp h.2)⟩
  case ldc2_w n => exact ⟨h.1, mj_zc_wd mj_KLok _ (List.contains_iff_mem.mp h.2)⟩
  case iinc n z => exact ⟨⟨h.1.1.1, h.1.1.2, h.1.2⟩, h.2⟩
  case tableswitch d lo hi offs =>
    refine ⟨h.1.1.1, h.1.1.2, h.1.2, fun j hj => ?_⟩
    have := List.all_eq_true.mp h.2 j (List.mem_range.mpr hj)
    split at this
    · rename_i q k t h1 h2
      simp only [Bool.and_eq_true, beq_iff_eq] at this
      exact ⟨q, k, t, h1, h2, this.1, this.2⟩
    · cases this
  case getfield n =>
    obtain ⟨⟨⟨h1, h2⟩, h3⟩, h4⟩ := h
    refine ⟨h1, ?_⟩
    split at h3
    · rename_i q hq
      obtain ⟨C, T, N⟩ := q
      have w := mj_zc_wd mj_FLok _ (List.contains_iff_mem.mp h2)
      unfold mj_flc at w
      dsimp only at w
      rw [mj_tb_eq hq] at w
      refine ⟨C, T, N, hq, by simpa using h3, w, ?_⟩
      by_cases ht : t = 0
      · exact Or.inl ⟨ht, by simpa [ht] using h4⟩
      · refine Or.inr ⟨ht, ?_⟩
        rw [beq_eq_false_iff_ne.mpr ht] at h4
        simpa using h4.symm
    · cases h3
  case putfield n =>
    obtain ⟨⟨⟨⟨h1, h2⟩, h3⟩, h4⟩, h5⟩ := h
    refine ⟨h1, ?_⟩
    split at h3
    · rename_i q hq
      obtain ⟨C, T, N⟩ := q
      have w := mj_zc_wd mj_FLok _ (List.contains_iff_mem.mp h2)
      unfold mj_flc at w
      dsimp only at w
      rw [mj_tb_eq hq] at w h4 h5
      have h4' : (T b).2.2.2 = false ∨ ((T b).2.2.2 = true ∧ y.1.name = "<init>" ∧ (T b).1 = mj_nm o) := by
        cases hf : (T b).2.2.2 with
        | false => exact Or.inl rfl
        | true =>
          rw [hf] at h4
          simp only [Bool.not_true, Bool.false_eq_true, false_or] at h4
          exact Or.inr ⟨rfl, h4.1, h4.2⟩
      split at h5
      · rename_i hp
        simp only [Bool.and_eq_true, beq_iff_eq, bne_iff_ne] at h5
        exact ⟨C, T, N, .int, hq, by simpa using h3, w, h4', hp, Or.inl ⟨h5.1, rfl, h5.2⟩⟩
      · rename_i nn hp
        simp only [Bool.and_eq_true, beq_iff_eq] at h5
        exact ⟨C, T, N, _, hq, by simpa using h3, w, h4', hp, Or.inr (Or.inl ⟨h5.1, Or.inl ⟨_, rfl⟩, h5.2⟩)⟩
      · rename_i nn hp
        simp only [Bool.and_eq_true, beq_iff_eq] at h5
        exact ⟨C, T, N, _, hq, by simpa using h3, w, h4', hp, Or.inr (Or.inl ⟨h5.1, Or.inr ⟨_, rfl⟩, h5.2⟩)⟩
      · rename_i hp
        simp only [Bool.and_eq_true, beq_iff_eq, bne_iff_ne] at h5
        exact ⟨C, T, N, .boolean, hq, by simpa using h3, w, h4', hp, Or.inr (Or.inr ⟨h5.1, rfl, h5.2⟩)⟩
      · cases h5
    · cases h3
  case new n =>
    refine ⟨h.1, ?_⟩
    by_cases ht : t = 0
    · rcases h.2 with q | ⟨q1, q2⟩
      · exact absurd ht q
      · split at q2
        · rename_i z hq
          obtain ⟨C, T, N⟩ := z
          simp only [Bool.and_eq_true, beq_iff_eq] at q2
          obtain ⟨rfl, e2⟩ := q2
          have w := mj_zc_wd mj_CLok _ (List.contains_iff_mem.mp q1)
          unfold mj_clc at w
          dsimp only at w
          rw [← e2] at w
          obtain ⟨w1, w2, -⟩ := mj_cl_wd hq
          exact Or.inr ⟨ht, C, T, hq, w, w1, w2⟩
        · cases q2
    · exact Or.inl ht
  case newarray ty => exact ⟨h.1, h.2, mj_AC ty (by rcases h.2 with q | q | q | q | q <;> simp [q.2])⟩
  case checkcast n =>
    obtain ⟨⟨h1, rfl⟩, rfl⟩ := h
    exact ⟨h1, mj_CCok⟩
  case invokespecial n =>
    refine ⟨h.1, ?_⟩
    by_cases ht : t = 0
    · exact Or.inl ht
    · rcases h.2 with q | q
      · exact absurd q ht
      · exact Or.inr ⟨ht, mj_zc_wd mj_OIok _ (List.contains_iff_mem.mp q), mj_OB1, mj_OB2⟩
end
section
/-! EVERY METHOD'S INSTRUCTIONS, checked -/
theorem mj_mc_0 : ([(0, 0), (0, 1), (0, 2), (0, 3), (0, 4), (0, 5)].all fun q => mj_mc q.1 q.2) = true := by decide +kernel
theorem mj_mc_1 : ([(0, 6), (0, 7), (0, 8), (1, 9), (1, 10), (1, 11)].all fun q => mj_mc q.1 q.2) = true := by decide +kernel
theorem mj_mc_2 : ([(1, 12), (1, 13), (1, 14), (1, 15), (1, 16), (2, 17)].all fun q => mj_mc q.1 q.2) = true := by decide +kernel
theorem mj_mc_3 : ([(2, 18), (2, 19), (2, 20), (3, 21), (3, 22), (3, 23)].all fun q => mj_mc q.1 q.2) = true := by decide +kernel
theorem mj_mc_4 : ([(3, 24), (3, 25), (3, 26), (3, 27), (3, 28), (3, 29)].all fun q => mj_mc q.1 q.2) = true := by decide +kernel
theorem mj_mc_5 : ([(3, 30), (3, 31), (3, 32), (3, 33), (3, 34), (3, 35)].all fun q => mj_mc q.1 q.2) = true := by decide +kernel
theorem mj_mc_6 : ([(3, 36), (3, 37), (3, 38), (3, 39), (3, 40), (3, 41)].all fun q => mj_mc q.1 q.2) = true := by decide +kernel
theorem mj_mc_7 : ([(3, 42), (3, 43), (3, 44), (4, 45), (4, 46), (4, 47)].all fun q => mj_mc q.1 q.2) = true := by decide +kernel
theorem mj_mc_8 : ([(4, 48), (4, 49), (4, 50), (4, 51), (4, 52), (4, 53)].all fun q => mj_mc q.1 q.2) = true := by decide +kernel
end
section
/-! EVERY METHOD'S INSTRUCTIONS, checked -/
theorem mj_mc_9 : ([(5, 54), (5, 55), (5, 56), (5, 57), (6, 58), (6, 59)].all fun q => mj_mc q.1 q.2) = true := by decide +kernel
theorem mj_mc_10 : ([(6, 60), (6, 61), (6, 62), (6, 63), (6, 64), (6, 65)].all fun q => mj_mc q.1 q.2) = true := by decide +kernel
theorem mj_mc_11 : ([(6, 66), (6, 67), (6, 68), (6, 69), (6, 70), (6, 71)].all fun q => mj_mc q.1 q.2) = true := by decide +kernel
theorem mj_mc_12 : ([(6, 72), (6, 73), (6, 74), (7, 75), (7, 76), (7, 77)].all fun q => mj_mc q.1 q.2) = true := by decide +kernel
theorem mj_mc_13 : ([(7, 78), (7, 79), (7, 80), (8, 81), (8, 82), (8, 83)].all fun q => mj_mc q.1 q.2) = true := by decide +kernel
theorem mj_mc_14 : ([(8, 84), (8, 85), (8, 86), (8, 87), (8, 88), (9, 89)].all fun q => mj_mc q.1 q.2) = true := by decide +kernel
theorem mj_mc_15 : ([(9, 90), (9, 91), (9, 92), (9, 93), (9, 94), (9, 95)].all fun q => mj_mc q.1 q.2) = true := by decide +kernel
theorem mj_mc_16 : ([(9, 96), (9, 97), (9, 98), (9, 99), (9, 100), (9, 101)].all fun q => mj_mc q.1 q.2) = true := by decide +kernel
theorem mj_mc_17 : ([(9, 102), (10, 103), (10, 104), (10, 105), (10, 106), (10, 107)].all fun q => mj_mc q.1 q.2) = true := by decide +kernel
end
section
/-! EVERY METHOD'S INSTRUCTIONS, checked -/
theorem mj_mc_18 : ([(10, 108), (10, 109), (10, 110), (10, 111), (10, 112), (10, 113)].all fun q => mj_mc q.1 q.2) = true := by decide +kernel
theorem mj_mc_19 : ([(10, 114), (10, 115), (10, 116), (10, 117), (10, 118), (10, 119)].all fun q => mj_mc q.1 q.2) = true := by decide +kernel
theorem mj_mc_20 : ([(10, 120), (10, 121), (10, 122), (10, 123), (10, 124), (10, 125)].all fun q => mj_mc q.1 q.2) = true := by decide +kernel
theorem mj_mc_21 : ([(10, 126), (10, 127), (10, 128), (10, 129), (10, 130), (10, 131)].all fun q => mj_mc q.1 q.2) = true := by decide +kernel
theorem mj_mc_22 : ([(10, 132), (10, 133), (10, 134), (10, 135), (10, 136), (10, 137)].all fun q => mj_mc q.1 q.2) = true := by decide +kernel
theorem mj_mc_23 : ([(10, 138), (10, 139), (10, 140), (10, 141), (10, 142), (10, 143)].all fun q => mj_mc q.1 q.2) = true := by decide +kernel
theorem mj_mc_24 : ([(10, 144), (10, 145), (10, 146), (10, 147), (10, 148), (10, 149)].all fun q => mj_mc q.1 q.2) = true := by decide +kernel
theorem mj_mc_25 : ([(10, 150), (10, 151), (10, 152), (10, 153), (10, 154), (10, 155)].all fun q => mj_mc q.1 q.2) = true := by decide +kernel
theorem mj_mc_26 : ([(10, 156), (10, 157), (10, 158), (10, 159), (10, 160), (10, 161)].all fun q => mj_mc q.1 q.2) = true := by decide +kernel
end
section
/-! EVERY METHOD'S INSTRUCTIONS, checked -/
theorem mj_mc_27 : ([(10, 162), (10, 163), (10, 164), (10, 165), (10, 166), (10, 167)].all fun q => mj_mc q.1 q.2) = true := by decide +kernel
theorem mj_mc_28 : ([(10, 168), (10, 169), (10, 170), (10, 171), (10, 172), (10, 173)].all fun q => mj_mc q.1 q.2) = true := by decide +kernel
theorem mj_mc_29 : ([(10, 174), (10, 175), (10, 176), (10, 177), (10, 178), (10, 179)].all fun q => mj_mc q.1 q.2) = true := by decide +kernel
theorem mj_mc_30 : ([(10, 180), (10, 181), (10, 182), (11, 183), (11, 184), (11, 185)].all fun q => mj_mc q.1 q.2) = true := by decide +kernel
theorem mj_mc_31 : ([(11, 186), (11, 187), (11, 188), (11, 189), (11, 190), (11, 191)].all fun q => mj_mc q.1 q.2) = true := by decide +kernel
theorem mj_mc_32 : ([(11, 192), (12, 193), (12, 194), (12, 195), (12, 196)].all fun q => mj_mc q.1 q.2) = true := by decide +kernel
def mj_ow : List Nat := [0, 0, 0, 0, 0, 0, 0, 0, 0, 1, 1, 1, 1, 1, 1, 1, 1, 2, 2, 2, 2, 3, 3, 3, 3, 3, 3, 3, 3, 3, 3, 3, 3, 3, 3, 3, 3, 3, 3, 3, 3, 3, 3, 3, 3, 4, 4, 4, 4, 4, 4, 4, 4, 4, 5, 5, 5, 5, 6, 6, 6, 6, 6, 6, 6, 6, 6, 6, 6, 6, 6, 6, 6, 6, 6, 7, 7, 7, 7, 7, 7, 8, 8, 8, 8, 8, 8, 8, 8, 9, 9, 9, 9, 9, 9, 9, 9, 9, 9, 9, 9, 9, 9, 10, 10, 10, 10, 10, 10, 10, 10, 10, 10, 10, 10, 10, 10, 10, 10, 10, 10, 10, 10, 10, 10, 10, 10, 10, 10, 10, 10, 10, 10, 10, 10, 10, 10, 10, 10, 10, 10, 10, 10, 10, 10, 10, 10, 10, 10, 10, 10, 10, 10, 10, 10, 10, 10, 10, 10, 10, 10, 10, 10, 10, 10, 10, 10, 10, 10, 10, 10, 10, 10, 10, 10, 10, 10, 10, 10, 10, 10, 10, 10, 11, 11, 11, 11, 11, 11, 11, 11, 11, 11, 12, 12, 12, 12]
end
section
/-! A METHOD'S CONTRACT out of its body -/
theorem mj_en_len (ad : Nat → Nat) : ∀ as : List Value, (lg_sl (as.map (mj_tr ad))).length = (mj_en as).length
  | [] => rfl
  | x :: r => by
    have ih := mj_en_len ad r
    unfold lg_sl at ih ⊢
    rw [List.map_cons, List.flatMap_cons, List.length_append, ih]
    cases x <;> simp [mj_tr, mj_en, Value.category] <;> omega
section MJN
variable {l : Launch} {s0 : State} {D : va_G} {cl : List vw_C} {ft : Nat → Nat → Nat} {ka : Nat → ClassId} {X : mj_X}
/-- what a body may lean on, at its entry -/
def mj_Ent0 (l : Launch) (s0 : State) (D : va_G) (cl : List vw_C) (ft : Nat → Nat → Nat) (ka : Nat → ClassId) (X : mj_X) (d : Nat) (y : mj_D) (ad : Nat → Nat) (S : mj_S) (p : Program) (e : Env) (s : State) (m : MethodId) (args : Array Value) (below : List Frame) (meth : Method) (c : Code) : Prop :=
  p.tables.exec = Jvm.exec ∧ c.code = y.2.1 ∧ c.maxLocals = y.2.2.1 ∧ s.vm.findClass y.1.cls = some m.cls ∧ meth.locks = false ∧ meth.sig.returnType = y.2.2.2.1 ∧ mj_Cst s0 s ∧ meth.name = y.1.name ∧ c.exceptionTable.toList.map (fun h => (h.startPc, h.endPc, h.handlerPc, h.catchType)) = y.2.2.2.2
theorem mj_con_body {d : Nat} {y : mj_D} {hd : mj_H} {T : List mj_B} {cls : mj_C} {as : List Value} {S : mj_S} {Q : mj_Q} {k : Nat} {ad : Nat → Nat} (hy : plainName y.1.cls = true) (hwS : mj_wS S) (hwT : mj_wT S.1.length as) (hlen : (mj_en as).length ≤ y.2.2.1) (hrn : mj_rn X hd cls T 0 (mj_en as ++ List.replicate k none) [] S Q)
    (hT : ∀ (p : Program) (e : Env) (s : State) (m : MethodId) (args : Array Value) (below : List Frame) (meth : Method) (c : Code), mj_Ent0 l s0 D cl ft ka X d y ad S p e s m args below meth c → ∀ b ∈ T, mj_bok (mj_Iok p l e (mj_rm X d S) s m args below meth c D cl ft ka s0.heap.size S ad y.2.2.1 X hd cls) b.1 b.2.2.1 b.2.2.2) :
    MetFree l y.1 (headSpec [mj_cw y] (mj_rm X d S)) (mj_Pc s0 D cl ft ka ad as S) (fun _ _ _ _ _ => True) (mj_Qc s0 D cl ft ka ad S Q) := by
  refine MetFree.of_bodyS (code := y.2.1) (maxLocals := y.2.2.1) (ret := y.2.2.2.1) hy ?_ ?_
  · intro args s m h hn
    obtain ⟨m9, meth, c, hn9, h1, h2, h3, h4, -, h5, h6, -⟩ := Cond.codeWith_spec (atoms_spec (ws := [mj_cw y]) h (mj_cw y) List.mem_cons_self)
    cases hn.symm.trans hn9
    exact ⟨meth, c, h1, h2, h3, h4, h5, h6⟩
  · intro p e s m args below meth c s₁ B hml hP _
    obtain ⟨rfl, hP1, hP2, hC⟩ := hP
    have hh0 : s₁.heap = s.heap := by rw [B.state]; rfl
    have X0 := Stand.of_body B
    obtain ⟨m9, meth9, c9, hn9, h1, h2, -, -, h5, -⟩ := Cond.codeWith_spec (atoms_spec (ws := [mj_cw y]) B.pre (mj_cw y) List.mem_cons_self)
    cases B.named.symm.trans hn9
    cases B.method.symm.trans h1
    cases X0.code.symm.trans h2
    have hE : mj_Ent0 l s0 D cl ft ka X d y ad S p e s m (as.map (mj_tr ad)).toArray below meth c := ⟨B.exec, B.bytes, hml, findClass_of_methodNamed B.named, B.notSynchronized, B.returns, hC, (name_of_methodNamed B.named B.method).1, h5⟩
    have hR : mj_Rh D cl ft ka s0.heap.size s S ad ad S s.heap [] 0 0 := ⟨hP1, hP2, va_S.rf, hwS, ⟨Nat.le_refl _, fun _ _ => rfl⟩, rfl, rfl⟩
    have K := mj_rn_snd (Z := fun t => ∃ o, t.status = .running ∧ Ended t below o ∧ mj_Qc s0 D cl ft ka ad S Q (as.map (mj_tr ad)).toArray s o t) (hT p e s m _ below meth c hE) (Q := Q) ?_ ?_ 0 ad _ [] S s.heap [] 0 0 _ hR (mj_lr_entry ad as (n := y.2.2.1) (k := k) (by rw [mj_en_len]; exact hlen)) (mj_wL_entry hwT) (fun v hv => by cases hv) hrn
    · rw [List.map_nil, ← lg_entry_eq] at K
      obtain ⟨t, a1, o, b1, b2, b3⟩ := K s₁ hh0 X0
      exact ⟨t, o, a1, b1, b2, b3⟩
    · intro ad' v S' H locs cells slots t hR' hQ hv ht h1 h2 h3 h4
      obtain ⟨L, hL1, hL2⟩ := h4
      obtain ⟨r1, r2, r3, r4, r5, r6, r7⟩ := hR'
      refine ⟨_, h1, h2, h3, .inl v, S', ad', L, hQ, ⟨rfl, hv⟩, by rw [ht]; exact r1, r2, r4, r5, by omega, ⟨by rw [ht]; exact r3.1, fun q hq hA => by rw [ht]; exact r3.2.1 q hq hA⟩, hL1, ?_⟩
      rw [show S'.2.2.2.2.1 - S.2.2.2.2.1 = cells by omega, show S'.2.2.2.2.2 - S.2.2.2.2.2 = slots by omega]
      exact hL2
    · intro ad' k' S' H locs cells slots a ce t hR' hQ hce hcl hst ht h1 h2 h3 h4
      obtain ⟨L, hL1, hL2⟩ := h4
      obtain ⟨r1, r2, r3, r4, r5, r6, r7⟩ := hR'
      refine ⟨_, h1, h2, h3, .inr k', S', ad', L, hQ, ⟨ce, by rw [ht]; exact hce, by rw [h3.alike.findClass]; exact hcl, hst⟩, by rw [ht]; exact r1, r2, r4, r5, by omega, ⟨by rw [ht]; exact r3.1, fun q hq hA => by rw [ht]; exact r3.2.1 q hq hA⟩, hL1, ?_⟩
      rw [show S'.2.2.2.2.1 - S.2.2.2.2.1 = cells by omega, show S'.2.2.2.2.2 - S.2.2.2.2.2 = slots by omega]
      exact hL2
end MJN
end
section
/-! METHODS AND CALL SITES -/
def mj_Wd2 (w : Cond) : Prop := mj_Wd w ∨ ∃ y b n r, w = .codeWith y b n r [] ∧ Cond.code y b n r ∈ lw_tbl
theorem mj_Wd2_good {w : Cond} (h : mj_Wd2 w) : goodWord w = true := by
  rcases h with h | ⟨y, b, n, r, rfl, -⟩
  · exact h.2
  · rfl
theorem mj_Wd2_at {A : Array Value} {s0 : State} (hts : ∀ w ∈ lw_tbl, w.before A s0 = true) {w : Cond} (h : mj_Wd2 w) : w.before A s0 = true := by
  rcases h with h | ⟨y, b, n, r, rfl, h⟩
  · exact hts _ h.1
  · have := hts _ h
    simp only [Cond.before, Cond.holds] at this ⊢
    rw [← Cond.code_iff_codeWith_nil]
    exact this
def mj_cdw (y : mj_D) : Cond := match y.2.2.2.2 with
  | [] => .code y.1 y.2.1 y.2.2.1 y.2.2.2.1
  | _ => mj_cw y
def mj_mhc (n : Nat) : Bool := match mj_PD[n]?, mj_MH[n]? with
  | some y, some h => decide (lw_tbl[h.1]? = some (mj_cdw y)) && mj_ch (.initialized y.1.cls) h.2.1 && (match h.2.2.1 with
    | 1 => mj_ch (.static y.1) h.2.2.2.1
    | _ => mj_ch (.instanceMethod y.1) h.2.2.2.1 && ((y.1.name == "<init>") || mj_ch (.selects y.1.cls y.1 y.1) h.2.2.2.2)) && Nat.ble y.2.2.1 21 && plainName y.1.cls && (y.1.cls != "java/lang/invoke/MethodHandle") && (y.1.cls != "java/lang/invoke/VarHandle")
  | _, _ => false
theorem mj_mhc_ok {n : Nat} {y : mj_D} (h : mj_mhc n = true) (hy : mj_PD[n]? = some y) : mj_Wd2 (mj_cw y) ∧ mj_Wd (.initialized y.1.cls) ∧ y.2.2.1 ≤ 21 ∧ plainName y.1.cls = true ∧ (y.1.cls ≠ "java/lang/invoke/MethodHandle" ∧ y.1.cls ≠ "java/lang/invoke/VarHandle") ∧
    ∃ q : Nat × Nat × Nat × Nat × Nat, mj_MH[n]? = some q ∧ ((q.2.2.1 = 1 ∧ mj_Wd (.static y.1)) ∨ (q.2.2.1 ≠ 1 ∧ mj_Wd (.instanceMethod y.1) ∧ (y.1.name = "<init>" ∨ mj_Wd (.selects y.1.cls y.1 y.1)))) := by
  unfold mj_mhc at h
  rw [hy] at h
  split at h
  · rename_i y' q hy' hq
    cases hy'
    simp only [Bool.and_eq_true, decide_eq_true_eq, bne_iff_ne] at h
    obtain ⟨⟨⟨⟨⟨⟨h1, h2⟩, h3⟩, h4⟩, h5⟩, h6⟩, h7⟩ := h
    refine ⟨?_, mj_ch_wd h2, Nat.le_of_ble_eq_true h4, h5, ⟨h6, h7⟩, q, hq, ?_⟩
    · have hm := List.mem_of_getElem? h1
      unfold mj_cdw at hm
      split at hm
      · rename_i he
        refine Or.inr ⟨_, _, _, _, ?_, hm⟩
        unfold mj_cw
        rw [he]
      · exact Or.inl ⟨hm, rfl⟩
    · split at h3
      · rename_i e
        exact Or.inl ⟨e, mj_ch_wd h3⟩
      · rename_i e
        simp only [Bool.and_eq_true, Bool.or_eq_true, beq_iff_eq] at h3
        exact Or.inr ⟨e, mj_ch_wd h3.1, h3.2.imp id mj_ch_wd⟩
  · cases h
def mj_pn (y : MethodName) : Option Nat := (parseMethodDescriptor y.desc).map fun d => d.parameters.length
theorem mj_pn_ok {y : MethodName} {n : Nat} (h : mj_pn y = some n) : ∀ sig, parseMethodDescriptor y.desc = some sig → n = sig.parameters.length := by
  intro sig hs
  unfold mj_pn at h
  rw [hs] at h
  exact (Option.some.inj h).symm
/-- a call site -/
def mj_vk (o : Nat) (x : mj_I) : Bool := match x.2.1 with
  | .invokestatic i => Nat.ble 900 x.2.2.2.1.1 || (mj_ML.contains (o, i, x.2.2.2.1.1) && (match mj_PD[x.2.2.2.1.1]?, mj_MH[x.2.2.2.1.1]? with
    | some y, some h => (h.2.2.1 == 1) && (mj_pn y.1 == some x.2.2.2.1.2.1)
    | _, _ => false))
  | .invokevirtual i => ((x.2.2.2.1.2.2 == 999) && Nat.ble 900 x.2.2.2.1.1) || ((x.2.2.2.1.2.2 != 999) && Nat.blt x.2.2.2.1.1 900 && mj_ML.contains (o, i, x.2.2.2.1.1) && (match mj_PD[x.2.2.2.1.1]?, mj_MH[x.2.2.2.1.1]? with
    | some y, some h => (h.2.2.1 != 1) && (y.1.name != "<init>") && (mj_pn y.1 == some (x.2.2.2.1.2.1 - 1)) && (x.2.2.2.1.2.1 != 0) && (match mj_cl[x.2.2.2.1.2.2]? with
      | some q => q.1 == y.1.cls
      | none => false)
    | _, _ => false))
  | .invokespecial i => (x.2.2.2.1.2.2 != 0) || (Nat.blt x.2.2.2.1.1 900 && (mj_ML.contains (o, i, x.2.2.2.1.1) || ((o == 0) && (i == 11) && (x.2.2.2.1.1 == 75))) && (match mj_PD[x.2.2.2.1.1]?, mj_MH[x.2.2.2.1.1]? with
    | some y, some h => (h.2.2.1 != 1) && (y.1.name == "<init>") && (mj_pn y.1 == some (x.2.2.2.1.2.1 - 1)) && (x.2.2.2.1.2.1 != 0) && decide (y.2.2.2.1 = none) && decide (y.2.2.2.2 = [])
    | _, _ => false))
  | _ => true
section MJSI
variable {p : Program} {l : Launch} {e : Env} {R : Room} {s s0 : State} {m : MethodId} {args : Array Value} {below : List Frame} {meth : Method} {c : Code}
variable {D : va_G} {ka : Nat → ClassId} {E : mj_S} {aE a0 : Nat → Nat} {cc : ByteArray} {nL : Nat} {ini : Prop} {X : mj_X} {hd : mj_H} {cls : mj_C} {o d : Nat}
/-- what a call needs of the body that it stands in -/
def mj_Cal (p : Program) (l : Launch) (R : Room) (s s0 : State) (m : MethodId) (args : Array Value) (meth : Method) (c : Code) (D : va_G) (ka : Nat → ClassId) (E : mj_S) (aE a0 : Nat → Nat) (cc : ByteArray) (nL : Nat) (ini : Prop) (X : mj_X) (hd : mj_H) (cls : mj_C) (o d : Nat) : Prop :=
  p.tables.exec = Jvm.exec ∧ c.code = cc ∧ c.maxLocals = nL ∧ s.vm.findClass (mj_nm o) = some m.cls ∧ meth.locks = false ∧ (∀ w, mj_Wd2 w → w.before args s = true) ∧ (∀ (k : Nat) (cN : ClassId), s.vm.findClass (mj_ex k) = some cN → s.vm.assignable cN cN = true) ∧ mj_Hok mj_Wd2 (mj_nm o) cc c nL hd ∧ mj_Gr R s meth s0.heap.size E aE X ini ∧ mj_Cst s0 s ∧ (∀ i, 900000 ≤ i → aE i = a0 i) ∧
  (∀ (M : Nat) (y : mj_D) (as : List Value) (S : mj_S) (Q : mj_Q), M < 900 → mj_PD[M]? = some y → cls M as S Q → mj_Con l s0 D mj_cl mj_ft ka a0 X d y as S Q) ∧ d + 9 ≤ R.frames ∧ 40 * d + 340 ≤ R.locals ∧ (R.cells = X.2.2.1 - E.2.2.2.2.1 ∧ R.slots = X.2.2.2 - E.2.2.2.2.2) ∧ (E.2.2.2.2.1 ≤ X.2.2.1 ∧ E.2.2.2.2.2 ≤ X.2.2.2) ∧ va_K D mj_cl (mj_tys ka) s ∧ (∀ (n : Nat) (y : mj_D), mj_PD[n]? = some y → mj_mhc n = true ∨ y.1 = ⟨"MacroPressLaw", "law", "([I)Z"⟩)
theorem mj_iv_sp {nx : mj_N} {Q : mj_Q} {pc a n : Nat} {K : mj_K} {lv : mj_LV} {st : List Value} {S : mj_S} (h : mj_iv hd cls nx Q pc a n K lv st S) : ∃ as r, mj_tk n [] st = some (as, r) ∧ mj_wg r ≤ 8 ∧ cls a as S (mj_ret hd nx pc K lv r Q) := by
  obtain ⟨z, h1, h2⟩ := mj_so_sp h
  obtain ⟨h3, h4⟩ := mj_tt_sp h2
  exact ⟨z.1, z.2, h1, Nat.le_of_ble_eq_true h3, h4⟩
theorem mj_ir_sp {nx : mj_N} {Q : mj_Q} {pc a n t : Nat} {K : mj_K} {lv : mj_LV} {st : List Value} {S : mj_S} (h : mj_ir hd cls nx Q pc a n t K lv st S) : ∃ as r, mj_tk n [] st = some (as, r) ∧ mj_wg r ≤ 8 ∧ (∃ o r' k, as = .ref o :: r' ∧ S.1[o]? = some (t, k)) ∧ cls a as S (mj_ret hd nx pc K lv r Q) := by
  obtain ⟨z, h1, h2⟩ := mj_so_sp h
  obtain ⟨h3, h4⟩ := mj_tt_sp h2
  obtain ⟨o, r', k, e1, e2, h5⟩ := mj_rc_sp h4
  exact ⟨z.1, z.2, h1, Nat.le_of_ble_eq_true h3, ⟨o, r', k, e1, e2⟩, h5⟩
theorem mj_Iok_static (hB : mj_Cal p l R s s0 m args meth c D ka E aE a0 cc nL ini X hd cls o d) {pc n len a b t : Nat} {k : Int32} {kl : Int64} {sw : List (Int32 × Nat)} (hdec : decode cc pc = .ok (.invokestatic n, len)) (h3 : len = 3) (hv : mj_vk o (pc, .invokestatic n, len, (a, b, t), k, kl, sw) = true) (ha : a < 900) (hnl : ∀ y, mj_PD[a]? = some y → y.1 ≠ ⟨"MacroPressLaw", "law", "([I)Z"⟩) :
    mj_Iok p l e R s m args below meth c D mj_cl mj_ft ka s0.heap.size E aE nL X hd cls (pc, .invokestatic n, len, (a, b, t), k, kl, sw) := by
  subst h3
  obtain ⟨hx, hb, hml, hown, hlk, hwd, hself, hH, hG, hC, ha0, hcon, hf, hlo, hR1, hR2, hKt, hmh⟩ := hB
  unfold mj_vk at hv
  dsimp only at hv
  rw [Bool.or_eq_true, Bool.and_eq_true] at hv
  rcases hv with hv | ⟨h1, h2⟩
  · exact absurd (Nat.le_of_ble_eq_true hv) (by omega)
  · split at h2
    · rename_i y q hy hq
      simp only [Bool.and_eq_true, beq_iff_eq] at h2
      rcases hmh a y hy with hm | hm
      · obtain ⟨w1, w2, w3, w4, w5, q', hq', w6⟩ := mj_mhc_ok hm hy
        cases hq.symm.trans hq'
        have w7 : mj_Wd (.static y.1) := by
          rcases w6 with w6 | w6
          · exact w6.2
          · exact absurd h2.1 w6.1
        have ml := mj_zc_wd mj_MLok _ (List.contains_iff_mem.mp h1)
        have hmn : mj_mn a = y.1 := by
          unfold mj_mn
          split <;> first | omega | (rw [hy])
        unfold mj_mlc at ml
        dsimp only at ml
        rw [hmn] at ml
        refine mj_Iok_call (d := d) (b := b) (y := y) (Rc := fun _ _ => True) (Wd := mj_Wd2) (a0 := a0) (ini := ini) hx hb hml hown hlk hwd hself hH hG hC ha0 (fun w hw => mj_Wd2_good hw) rfl hdec (fun nx Q K lv st S h => ?_) (fun as S Q h => hcon a y as S Q ha hy h) hf hlo w3 w1 (Or.inl w2) hR1 hR2 (fun T locs cells slots ls ad S as rest hR XT hl _ => ?_)
        · obtain ⟨as, r, e1, e2, e3⟩ := mj_iv_sp (show mj_iv hd cls nx Q pc a b K lv st S from h)
          exact ⟨as, r, e1, e2, trivial, e3⟩
        · exact mj_entS XT hx hown (hwd _ (Or.inl ml)) (hwd _ (Or.inl w7)) (hwd _ (Or.inl w2)) (hwd _ w1) w5 (g := F0 m pc ls ((as.map (mj_tr ad)).reverse ++ rest)) rfl (fun sig hs => by rw [List.length_map, hl]; exact mj_pn_ok h2.2 sig hs) rfl (by rw [hb]; exact hdec)
      · exact absurd hm (hnl y hy)
    · cases h2
end MJSI
end
section
/-! CALL SITES, LITERALS, THROWS, HANDLERS, checked -/
def mj_lits : List (Nat × Nat × Nat) := [(3, 204, 900001), (5, 10, 900002), (10, 137, 900003)]
/-- method, place, class, entry of the exception's class, of the text, of the constructor, the exception -/
def mj_thrs : List (Nat × Nat × Nat × Nat × Nat × Nat × Nat) := [(5, 15, 0, 131, 133, 135, 502), (6, 11, 0, 131, 142, 135, 502), (7, 11, 0, 147, 149, 151, 501), (80, 5, 7, 28, 30, 32, 500)]
def mj_vx (o n : Nat) (x : mj_I) : Bool := match x.2.1 with
  | .invokestatic i => mj_vk o x && (x.2.2.2.1.1 != 196) && (Nat.blt x.2.2.2.1.1 900 || ((x.2.2.2.1.1 == 900 || x.2.2.2.1.1 == 901 || x.2.2.2.1.1 == 902) && mj_ML.contains (o, i, x.2.2.2.1.1)))
  | .invokevirtual i => mj_vk o x && (x.2.2.2.1.1 != 196) && (Nat.blt x.2.2.2.1.1 900 || ((x.2.2.2.1.1 == 903 || x.2.2.2.1.1 == 904 || x.2.2.2.1.1 == 905) && mj_ML.contains (o, i, x.2.2.2.1.1)))
  | .invokespecial _ => mj_vk o x && (x.2.2.2.1.1 != 196)
  | .ldc i => (x.2.2.2.1.2.2 == 0) || mj_lits.contains (o, i, x.2.2.2.1.1)
  | .new i => (x.2.2.2.1.2.2 == 0) || mj_thrs.any (fun q => (q.1 == n) && (q.2.1 == x.1) && (q.2.2.1 == o) && (q.2.2.2.1 == i) && (q.2.2.2.2.2.2 == x.2.2.2.1.1))
  | _ => true
def mj_hc (o : Nat) (y : mj_D) (hs : List (Nat × Nat × Nat × Nat × Nat × Nat)) : Bool := match hs, y.2.2.2.2 with
  | [], [] => true
  | [(f, t, hp, k, i, h)], [(sp, ep, hpc, ct)] => (f == sp) && (t == ep) && (hp == hpc) && (ct != 0) && decide (Cond.classLink (mj_nm o) ct (mj_ex k) ∈ lw_tbl) && Nat.blt i y.2.2.1 && (i == 3) && decide (decode y.2.1 hpc = .ok (.astore_n 3, 1)) && (h == hpc + 1)
  | _, _ => false
def mj_ma (o n : Nat) : Bool := match mj_P[n]?, mj_PD[n]? with
  | some mm, some y => (n == 196 || mj_mhc n) && mj_hc o y mm.2.1 && plainName y.1.cls && mm.2.2.all fun b => b.2.2.1.all fun x => mj_vx o n x
  | _, _ => false
def mj_g_0 : List (Nat × Nat) := [(0, 0), (0, 1), (0, 2), (0, 3), (0, 4), (0, 5)]
def mj_g_1 : List (Nat × Nat) := [(0, 6), (0, 7), (0, 8), (1, 9), (1, 10), (1, 11)]
def mj_g_2 : List (Nat × Nat) := [(1, 12), (1, 13), (1, 14), (1, 15), (1, 16), (2, 17)]
def mj_g_3 : List (Nat × Nat) := [(2, 18), (2, 19), (2, 20), (3, 21), (3, 22), (3, 23)]
def mj_g_4 : List (Nat × Nat) := [(3, 24), (3, 25), (3, 26), (3, 27), (3, 28), (3, 29)]
def mj_g_5 : List (Nat × Nat) := [(3, 30), (3, 31), (3, 32), (3, 33), (3, 34), (3, 35)]
def mj_g_6 : List (Nat × Nat) := [(3, 36), (3, 37), (3, 38), (3, 39), (3, 40), (3, 41)]
def mj_g_7 : List (Nat × Nat) := [(3, 42), (3, 43), (3, 44), (4, 45), (4, 46), (4, 47)]
def mj_g_8 : List (Nat × Nat) := [(4, 48), (4, 49), (4, 50), (4, 51), (4, 52), (4, 53)]
def mj_g_9 : List (Nat × Nat) := [(5, 54), (5, 55), (5, 56), (5, 57), (6, 58), (6, 59)]
def mj_g_10 : List (Nat × Nat) := [(6, 60), (6, 61), (6, 62), (6, 63), (6, 64), (6, 65)]
def mj_g_11 : List (Nat × Nat) := [(6, 66), (6, 67), (6, 68), (6, 69), (6, 70), (6, 71)]
def mj_g_12 : List (Nat × Nat) := [(6, 72), (6, 73), (6, 74), (7, 75), (7, 76), (7, 77)]
def mj_g_13 : List (Nat × Nat) := [(7, 78), (7, 79), (7, 80), (8, 81), (8, 82), (8, 83)]
def mj_g_14 : List (Nat × Nat) := [(8, 84), (8, 85), (8, 86), (8, 87), (8, 88), (9, 89)]
def mj_g_15 : List (Nat × Nat) := [(9, 90), (9, 91), (9, 92), (9, 93), (9, 94), (9, 95)]
def mj_g_16 : List (Nat × Nat) := [(9, 96), (9, 97), (9, 98), (9, 99), (9, 100), (9, 101)]
def mj_g_17 : List (Nat × Nat) := [(9, 102), (10, 103), (10, 104), (10, 105), (10, 106), (10, 107)]
def mj_g_18 : List (Nat × Nat) := [(10, 108), (10, 109), (10, 110), (10, 111), (10, 112), (10, 113)]
def mj_g_19 : List (Nat × Nat) := [(10, 114), (10, 115), (10, 116), (10, 117), (10, 118), (10, 119)]
def mj_g_20 : List (Nat × Nat) := [(10, 120), (10, 121), (10, 122), (10, 123), (10, 124), (10, 125)]
def mj_g_21 : List (Nat × Nat) := [(10, 126), (10, 127), (10, 128), (10, 129), (10, 130), (10, 131)]
def mj_g_22 : List (Nat × Nat) := [(10, 132), (10, 133), (10, 134), (10, 135), (10, 136), (10, 137)]
def mj_g_23 : List (Nat × Nat) := [(10, 138), (10, 139), (10, 140), (10, 141), (10, 142), (10, 143)]
def mj_g_24 : List (Nat × Nat) := [(10, 144), (10, 145), (10, 146), (10, 147), (10, 148), (10, 149)]
def mj_g_25 : List (Nat × Nat) := [(10, 150), (10, 151), (10, 152), (10, 153), (10, 154), (10, 155)]
def mj_g_26 : List (Nat × Nat) := [(10, 156), (10, 157), (10, 158), (10, 159), (10, 160), (10, 161)]
def mj_g_27 : List (Nat × Nat) := [(10, 162), (10, 163), (10, 164), (10, 165), (10, 166), (10, 167)]
def mj_g_28 : List (Nat × Nat) := [(10, 168), (10, 169), (10, 170), (10, 171), (10, 172), (10, 173)]
def mj_g_29 : List (Nat × Nat) := [(10, 174), (10, 175), (10, 176), (10, 177), (10, 178), (10, 179)]
def mj_g_30 : List (Nat × Nat) := [(10, 180), (10, 181), (10, 182), (11, 183), (11, 184), (11, 185)]
def mj_g_31 : List (Nat × Nat) := [(11, 186), (11, 187), (11, 188), (11, 189), (11, 190), (11, 191)]
def mj_g_32 : List (Nat × Nat) := [(11, 192), (12, 193), (12, 194), (12, 195), (12, 196)]
theorem mj_ma_0 : (mj_g_0.all fun q => mj_ma q.1 q.2) = true := by decide +kernel
theorem mj_ma_1 : (mj_g_1.all fun q => mj_ma q.1 q.2) = true := by decide +kernel
theorem mj_ma_2 : (mj_g_2.all fun q => mj_ma q.1 q.2) = true := by decide +kernel
theorem mj_ma_3 : (mj_g_3.all fun q => mj_ma q.1 q.2) = true := by decide +kernel
theorem mj_ma_4 : (mj_g_4.all fun q => mj_ma q.1 q.2) = true := by decide +kernel
theorem mj_ma_5 : (mj_g_5.all fun q => mj_ma q.1 q.2) = true := by decide +kernel
theorem mj_ma_6 : (mj_g_6.all fun q => mj_ma q.1 q.2) = true := by decide +kernel
theorem mj_ma_7 : (mj_g_7.all fun q => mj_ma q.1 q.2) = true := by decide +kernel
theorem mj_ma_8 : (mj_g_8.all fun q => mj_ma q.1 q.2) = true := by decide +kernel
theorem mj_ma_9 : (mj_g_9.all fun q => mj_ma q.1 q.2) = true := by decide +kernel
theorem mj_ma_10 : (mj_g_10.all fun q => mj_ma q.1 q.2) = true := by decide +kernel
theorem mj_ma_11 : (mj_g_11.all fun q => mj_ma q.1 q.2) = true := by decide +kernel
theorem mj_ma_12 : (mj_g_12.all fun q => mj_ma q.1 q.2) = true := by decide +kernel
theorem mj_ma_13 : (mj_g_13.all fun q => mj_ma q.1 q.2) = true := by decide +kernel
theorem mj_ma_14 : (mj_g_14.all fun q => mj_ma q.1 q.2) = true := by decide +kernel
theorem mj_ma_15 : (mj_g_15.all fun q => mj_ma q.1 q.2) = true := by decide +kernel
theorem mj_ma_16 : (mj_g_16.all fun q => mj_ma q.1 q.2) = true := by decide +kernel
theorem mj_ma_17 : (mj_g_17.all fun q => mj_ma q.1 q.2) = true := by decide +kernel
theorem mj_ma_18 : (mj_g_18.all fun q => mj_ma q.1 q.2) = true := by decide +kernel
theorem mj_ma_19 : (mj_g_19.all fun q => mj_ma q.1 q.2) = true := by decide +kernel
theorem mj_ma_20 : (mj_g_20.all fun q => mj_ma q.1 q.2) = true := by decide +kernel
theorem mj_ma_21 : (mj_g_21.all fun q => mj_ma q.1 q.2) = true := by decide +kernel
theorem mj_ma_22 : (mj_g_22.all fun q => mj_ma q.1 q.2) = true := by decide +kernel
theorem mj_ma_23 : (mj_g_23.all fun q => mj_ma q.1 q.2) = true := by decide +kernel
theorem mj_ma_24 : (mj_g_24.all fun q => mj_ma q.1 q.2) = true := by decide +kernel
theorem mj_ma_25 : (mj_g_25.all fun q => mj_ma q.1 q.2) = true := by decide +kernel
theorem mj_ma_26 : (mj_g_26.all fun q => mj_ma q.1 q.2) = true := by decide +kernel
theorem mj_ma_27 : (mj_g_27.all fun q => mj_ma q.1 q.2) = true := by decide +kernel
theorem mj_ma_28 : (mj_g_28.all fun q => mj_ma q.1 q.2) = true := by decide +kernel
theorem mj_ma_29 : (mj_g_29.all fun q => mj_ma q.1 q.2) = true := by decide +kernel
theorem mj_ma_30 : (mj_g_30.all fun q => mj_ma q.1 q.2) = true := by decide +kernel
theorem mj_ma_31 : (mj_g_31.all fun q => mj_ma q.1 q.2) = true := by decide +kernel
theorem mj_ma_32 : (mj_g_32.all fun q => mj_ma q.1 q.2) = true := by decide +kernel
def mj_on : List (Nat × Nat) := mj_g_0 ++ (mj_g_1 ++ (mj_g_2 ++ (mj_g_3 ++ (mj_g_4 ++ (mj_g_5 ++ (mj_g_6 ++ (mj_g_7 ++ (mj_g_8 ++ (mj_g_9 ++ (mj_g_10 ++ (mj_g_11 ++ (mj_g_12 ++ (mj_g_13 ++ (mj_g_14 ++ (mj_g_15 ++ (mj_g_16 ++ (mj_g_17 ++ (mj_g_18 ++ (mj_g_19 ++ (mj_g_20 ++ (mj_g_21 ++ (mj_g_22 ++ (mj_g_23 ++ (mj_g_24 ++ (mj_g_25 ++ (mj_g_26 ++ (mj_g_27 ++ (mj_g_28 ++ (mj_g_29 ++ (mj_g_30 ++ (mj_g_31 ++ (mj_g_32))))))))))))))))))))))))))))))))
theorem mj_aa {α : Type} {f : α → Bool} {a b : List α} (h : a.all f = true) (k : b.all f = true) : (a ++ b).all f = true := by rw [List.all_append, h, k]; rfl
theorem mj_mas : (mj_on.all fun q => mj_ma q.1 q.2) = true := mj_aa mj_ma_0 (mj_aa mj_ma_1 (mj_aa mj_ma_2 (mj_aa mj_ma_3 (mj_aa mj_ma_4 (mj_aa mj_ma_5 (mj_aa mj_ma_6 (mj_aa mj_ma_7 (mj_aa mj_ma_8 (mj_aa mj_ma_9 (mj_aa mj_ma_10 (mj_aa mj_ma_11 (mj_aa mj_ma_12 (mj_aa mj_ma_13 (mj_aa mj_ma_14 (mj_aa mj_ma_15 (mj_aa mj_ma_16 (mj_aa mj_ma_17 (mj_aa mj_ma_18 (mj_aa mj_ma_19 (mj_aa mj_ma_20 (mj_aa mj_ma_21 (mj_aa mj_ma_22 (mj_aa mj_ma_23 (mj_aa mj_ma_24 (mj_aa mj_ma_25 (mj_aa mj_ma_26 (mj_aa mj_ma_27 (mj_aa mj_ma_28 (mj_aa mj_ma_29 (mj_aa mj_ma_30 (mj_aa mj_ma_31 (mj_ma_32))))))))))))))))))))))))))))))))
theorem mj_mcs : (mj_on.all fun q => mj_mc q.1 q.2) = true := mj_aa mj_mc_0 (mj_aa mj_mc_1 (mj_aa mj_mc_2 (mj_aa mj_mc_3 (mj_aa mj_mc_4 (mj_aa mj_mc_5 (mj_aa mj_mc_6 (mj_aa mj_mc_7 (mj_aa mj_mc_8 (mj_aa mj_mc_9 (mj_aa mj_mc_10 (mj_aa mj_mc_11 (mj_aa mj_mc_12 (mj_aa mj_mc_13 (mj_aa mj_mc_14 (mj_aa mj_mc_15 (mj_aa mj_mc_16 (mj_aa mj_mc_17 (mj_aa mj_mc_18 (mj_aa mj_mc_19 (mj_aa mj_mc_20 (mj_aa mj_mc_21 (mj_aa mj_mc_22 (mj_aa mj_mc_23 (mj_aa mj_mc_24 (mj_aa mj_mc_25 (mj_aa mj_mc_26 (mj_aa mj_mc_27 (mj_aa mj_mc_28 (mj_aa mj_mc_29 (mj_aa mj_mc_30 (mj_aa mj_mc_31 (mj_mc_32))))))))))))))))))))))))))))))))
theorem mj_on_all : ((List.range 197).all fun n => mj_on.contains (mj_ow.getD n 0, n)) = true := by decide +kernel
theorem mj_chk {n : Nat} {z : mj_M} (h : mj_P[n]? = some z) : mj_mc (mj_ow.getD n 0) n = true ∧ mj_ma (mj_ow.getD n 0) n = true := by
  have hn : n < 197 := (List.getElem?_eq_some_iff.mp h).1
  have hm := List.contains_iff_mem.mp (List.all_eq_true.mp mj_on_all n (List.mem_range.mpr hn))
  exact ⟨List.all_eq_true.mp mj_mcs _ hm, List.all_eq_true.mp mj_mas _ hm⟩
end
section
/-! CALL SITES: objects' methods, constructors -/
theorem mj_mn_eq {a : Nat} {y : mj_D} (ha : a < 900) (hy : mj_PD[a]? = some y) : mj_mn a = y.1 := by
  unfold mj_mn
  split <;> first | omega | (rw [hy])
section MJSV
variable {p : Program} {l : Launch} {e : Env} {R : Room} {s s0 : State} {m : MethodId} {args : Array Value} {below : List Frame} {meth : Method} {c : Code} {T : State} {locs : List Loc} {cells slots : Nat}
theorem mj_entIN (X : Stand p l e R s m args below meth c T locs cells slots) (hexec : p.tables.exec = Jvm.exec) {own : String} {index : Nat} {host : String} {y : MethodName} {bytes : ByteArray} {maxL : Nat}
    (hown : s.vm.findClass own = some m.cls) (hy1 : y.name = "<init>") (hlink : (Cond.methodLinkNest own index y host).before args s = true) (hinst : (Cond.instanceMethod y).before args s = true)
    (hcode : (Cond.code y bytes maxL none).before args s = true) (hy : y.cls ≠ "java/lang/invoke/MethodHandle" ∧ y.cls ≠ "java/lang/invoke/VarHandle")
    {g : JFrame} (hg : g.method = m) {a : Addr} {argsL rest : List Value} (hlen : ∀ sig, parseMethodDescriptor y.desc = some sig → argsL.length = sig.parameters.length)
    (hstack : g.stack = argsL.reverse ++ .ref a :: rest) (hdg : decode c.code g.pc = .ok (.invokespecial index, 3)) : mj_Ent p l e R s m args below meth c T locs cells slots y g rest (Value.ref a :: argsL).toArray := by
  subst hg
  have hpl : e.platform.magicAccessors = ({} : Platform).magicAccessors := by rw [X.admits.platform]
  obtain ⟨mk, methM, cM, kP, vm₁, hnamed, hmethM, hcodeM, -, hlocalsM, -, hkP, -, hW₁, hstep₁⟩ := Steps.initColdArgsNest (e := e) X.here hexec X.warmed hpl hown hy1 hy hlink hinst hcode (f := g) rfl hlen hstack hdg
  exact ⟨vm₁, mk, X.noted hW₁, hnamed, fun target h => hstep₁ _ fun acts => by rw [doInvoke_state]; exact h⟩
variable {D : va_G} {ka : Nat → ClassId} {E : mj_S} {aE a0 : Nat → Nat} {cc : ByteArray} {nL : Nat} {ini : Prop} {X : mj_X} {hd : mj_H} {cls : mj_C} {o d : Nat}
theorem mj_Iok_virtual (hB : mj_Cal p l R s s0 m args meth c D ka E aE a0 cc nL ini X hd cls o d) {pc n len a b t : Nat} {k : Int32} {kl : Int64} {sw : List (Int32 × Nat)} (hdec : decode cc pc = .ok (.invokevirtual n, len)) (h3 : len = 3) (hv : mj_vk o (pc, .invokevirtual n, len, (a, b, t), k, kl, sw) = true) (ha : a < 900) (hnl : ∀ y, mj_PD[a]? = some y → y.1 ≠ ⟨"MacroPressLaw", "law", "([I)Z"⟩) :
    mj_Iok p l e R s m args below meth c D mj_cl mj_ft ka s0.heap.size E aE nL X hd cls (pc, .invokevirtual n, len, (a, b, t), k, kl, sw) := by
  subst h3
  obtain ⟨hx, hb, hml, hown, hlk, hwd, hself, hH, hG, hC, ha0, hcon, hf, hlo, hR1, hR2, hKt, hmh⟩ := hB
  unfold mj_vk at hv
  dsimp only at hv
  simp only [Bool.or_eq_true, Bool.and_eq_true, beq_iff_eq, bne_iff_ne] at hv
  rcases hv with hv | ⟨⟨⟨ht, -⟩, h1⟩, h2⟩
  · exact absurd (Nat.le_of_ble_eq_true hv.2) (by omega)
  · split at h2
    · rename_i y q hy hq
      simp only [Bool.and_eq_true, beq_iff_eq, bne_iff_ne] at h2
      obtain ⟨⟨⟨⟨z1, z2⟩, z3⟩, z4⟩, z5⟩ := h2
      rcases hmh a y hy with hm | hm
      · obtain ⟨w1, w2, w3, w4, w5, q', hq', w6⟩ := mj_mhc_ok hm hy
        cases hq.symm.trans hq'
        obtain ⟨w7, w8⟩ : mj_Wd (.instanceMethod y.1) ∧ mj_Wd (.selects y.1.cls y.1 y.1) := by
          rcases w6 with w6 | w6
          · exact absurd w6.1 z1
          · refine ⟨w6.2.1, ?_⟩
            rcases w6.2.2 with w | w
            · exact absurd w z2
            · exact w
        have ml := mj_zc_wd mj_MLok _ (List.contains_iff_mem.mp h1)
        unfold mj_mlc at ml
        dsimp only at ml
        rw [mj_mn_eq ha hy] at ml
        split at z5
        · rename_i cq hcq
          have hcq1 : cq.1 = y.1.cls := by simpa using z5
          refine mj_Iok_call (d := d) (b := b) (y := y) (Rc := fun S as => ∃ o r' k, as = .ref o :: r' ∧ S.1[o]? = some (t, k)) (Wd := mj_Wd2) (a0 := a0) (ini := ini) hx hb hml hown hlk hwd hself hH hG hC ha0 (fun w hw => mj_Wd2_good hw) rfl hdec (fun nx Q K lv st S h => ?_) (fun as S Q h => hcon a y as S Q ha hy h) hf hlo w3 w1 (Or.inl w2) hR1 hR2 (fun T locs cells slots ls ad S as rest hR XT hl hrc => ?_)
          · simp only [mj_in] at h
            exact mj_ir_sp h
          · obtain ⟨ob, r', k', rfl, hob⟩ := hrc
            have hk : t < 1000 := by
              have := (List.getElem?_eq_some_iff.mp hcq).1
              have : mj_cl.length = 11 := rfl
              omega
            have hat := mj_ws_at (ft := mj_ft) (ka := ka) (ad := ad) hob
            rw [mj_ent_obj hk] at hat
            obtain ⟨cell, e1, e2, e3⟩ := va_recv hKt hR.1 hcq hat
            have := mj_entV XT hx hown (C := y.1.cls) (hwd _ (Or.inl ml)) (hwd _ (Or.inl w7)) (hwd _ (Or.inl w8)) (hwd _ w1) w5 (b := ad ob) e1 e2 (by rw [← hcq1]; exact e3) (g := F0 m pc ls (((Value.ref ob :: r').map (mj_tr ad)).reverse ++ rest)) rfl (argsL := r'.map (mj_tr ad)) (rest := rest) (fun sig hs => by
              rw [List.length_map]
              have := mj_pn_ok z3 sig hs
              rw [List.length_cons] at hl
              omega) (by simp [mj_tr]) (by rw [hb]; exact hdec)
            exact this
        · cases z5
      · exact absurd hm (hnl y hy)
    · cases h2
theorem mj_Iok_special (hB : mj_Cal p l R s s0 m args meth c D ka E aE a0 cc nL ini X hd cls o d) (hN1 : (Cond.methodLinkNest "MacroPress" 11 ⟨"MacroPress$Progress", "<init>", "()V"⟩ "MacroPress").before args s = true) {pc n len a b : Nat} {k : Int32} {kl : Int64} {sw : List (Int32 × Nat)} (hdec : decode cc pc = .ok (.invokespecial n, len)) (h3 : len = 3) (hv : mj_vk o (pc, .invokespecial n, len, (a, b, 0), k, kl, sw) = true) (hnl : ∀ y, mj_PD[a]? = some y → y.1 ≠ ⟨"MacroPressLaw", "law", "([I)Z"⟩) :
    mj_Iok p l e R s m args below meth c D mj_cl mj_ft ka s0.heap.size E aE nL X hd cls (pc, .invokespecial n, len, (a, b, 0), k, kl, sw) := by
  subst h3
  obtain ⟨hx, hb, hml, hown, hlk, hwd, hself, hH, hG, hC, ha0, hcon, hf, hlo, hR1, hR2, hKt, hmh⟩ := hB
  unfold mj_vk at hv
  dsimp only at hv
  simp only [Bool.or_eq_true, Bool.and_eq_true, beq_iff_eq, bne_iff_ne, ne_eq, not_true_eq_false, false_or] at hv
  obtain ⟨⟨ha, h1⟩, h2⟩ := hv
  have ha : a < 900 := by simpa using ha
  split at h2
  · rename_i y q hy hq
    simp only [Bool.and_eq_true, beq_iff_eq, bne_iff_ne, decide_eq_true_eq] at h2
    obtain ⟨⟨⟨⟨⟨z1, z2⟩, z3⟩, z4⟩, z5⟩, z6⟩ := h2
    rcases hmh a y hy with hm | hm
    · obtain ⟨w1, w2, w3, w4, w5, q', hq', w6⟩ := mj_mhc_ok hm hy
      cases hq.symm.trans hq'
      have w7 : mj_Wd (.instanceMethod y.1) := by
        rcases w6 with w6 | w6
        · exact absurd w6.1 z1
        · exact w6.2.1
      have hcd : (Cond.code y.1 y.2.1 y.2.2.1 none).before args s = true := by
        have := hwd _ w1
        unfold mj_cw at this
        rw [z5, z6] at this
        simp only [Cond.before, Cond.holds] at this ⊢
        rw [Cond.code_iff_codeWith_nil]
        exact this
      refine mj_Iok_call (d := d) (b := b) (y := y) (Rc := fun S as => ∃ o r', as = .ref o :: r') (Wd := mj_Wd2) (a0 := a0) (ini := ini) hx hb hml hown hlk hwd hself hH hG hC ha0 (fun w hw => mj_Wd2_good hw) rfl hdec (fun nx Q K lv st S h => ?_) (fun as S Q h => hcon a y as S Q ha hy h) hf hlo w3 w1 (Or.inl w2) hR1 hR2 (fun T locs cells slots ls ad S as rest hR XT hl hrc => ?_)
      · obtain ⟨z, e1, e2⟩ := mj_so_sp (show mj_ip hd cls nx Q pc a b K lv st S from h)
        obtain ⟨e3, e4⟩ := mj_tt_sp e2
        obtain ⟨as, r⟩ := z
        dsimp only at e3 e4
        unfold mj_hr at e4
        split at e4
        · exact ⟨_, r, e1, Nat.le_of_ble_eq_true e3, ⟨_, _, rfl⟩, e4⟩
        · exact e4.elim
      · obtain ⟨ob, r', rfl⟩ := hrc
        have hln : ∀ sig, parseMethodDescriptor y.1.desc = some sig → (r'.map (mj_tr ad)).length = sig.parameters.length := fun sig hs => by
          rw [List.length_map]
          have := mj_pn_ok z3 sig hs
          rw [List.length_cons] at hl
          omega
        have hstk : (F0 m pc ls (((Value.ref ob :: r').map (mj_tr ad)).reverse ++ rest)).stack = (r'.map (mj_tr ad)).reverse ++ .ref (ad ob) :: rest := by simp [mj_tr]
        rcases h1 with h1 | ⟨⟨rfl, rfl⟩, rfl⟩
        · have ml := mj_zc_wd mj_MLok _ (List.contains_iff_mem.mp h1)
          unfold mj_mlc at ml
          dsimp only at ml
          rw [mj_mn_eq ha hy] at ml
          exact mj_entI XT hx hown z2 (hwd _ (Or.inl ml)) (hwd _ (Or.inl w7)) hcd w5 (g := F0 m pc ls (((Value.ref ob :: r').map (mj_tr ad)).reverse ++ rest)) rfl hln hstk (by rw [hb]; exact hdec)
        · have hy75 : y.1 = ⟨"MacroPress$Progress", "<init>", "()V"⟩ := by
            have : mj_PD[75]? = some y := hy
            have h75 : (mj_PD[75]?).map (fun y => y.1) = some ⟨"MacroPress$Progress", "<init>", "()V"⟩ := by decide +kernel
            rw [this] at h75
            exact Option.some.inj h75
          exact mj_entIN XT hx hown z2 (host := "MacroPress") (by rw [hy75]; exact hN1) (hwd _ (Or.inl w7)) hcd w5 (g := F0 m pc ls (((Value.ref ob :: r').map (mj_tr ad)).reverse ++ rest)) rfl hln hstk (by rw [hb]; exact hdec)
    · exact absurd hm (hnl y hy)
  · cases h2
end MJSV
end
section
/-! THE JDK's OWN METHODS, as the mini machine has them -/
def mj_bi (X : mj_X) : mj_C := fun M as S Q => match M, as with
  | 900, [.int x] => Q (.inl (some (.int (if 0 ≤ x then x else 0 - x)))) S
  | 901, [.int x, .int y] => Q (.inl (some (.int (if x < y then y else x)))) S
  | 902, [.ref o, .int sp, .ref q, .int dp, .int n] => mj_so (fun n0 => mj_so (fun n1 => (¬ sp < 0 ∧ ¬ dp < 0 ∧ ¬ n < 0 ∧ sp.toNatClampNeg + n.toNatClampNeg ≤ n0 ∧ dp.toNatClampNeg + n.toNatClampNeg ≤ n1) ∧ Q (.inl none) (S.1, mj_row S.2.1 q (va_cpy (S.2.1 o) (S.2.1 q) sp.toNatClampNeg dp.toNatClampNeg n.toNatClampNeg), S.2.2)) (mj_ar S.1 q 0)) (mj_ar S.1 o 0)
  | 903, [.ref o] => mj_so (fun n => (S.2.2.2.2.1 + 1 ≤ X.2.2.1 ∧ S.2.2.2.2.2 + n ≤ X.2.2.2) ∧ Q (.inl (some (.ref S.1.length))) (S.1 ++ [(1000, n)], mj_row S.2.1 S.1.length (S.2.1 o), mj_row S.2.2.1 S.1.length (fun _ => 0), mj_row S.2.2.2.1 S.1.length (fun _ => none), S.2.2.2.2.1 + 1, S.2.2.2.2.2 + n)) (mj_ar S.1 o 0)
  | 904, [.ref o] => mj_so (fun tx => 900001 ≤ o ∧ Q (.inl (some (.int (Int32.ofNat tx.length)))) S) (X.2.1[o - 900001]?)
  | 905, [.ref o, .int k] => mj_so (fun tx => (900001 ≤ o ∧ vp_in k tx.length) ∧ Q (.inl (some (.int (tx.getD k.toNatClampNeg 0)))) S) (X.2.1[o - 900001]?)
  | _, _ => False
theorem mj_bi_ex {X : mj_X} {Z : Type} {P : Z → Prop} {M : Nat} {as : List Value} {S : mj_S} {Q : mj_Q} {Q' : Z → mj_Q} (h : ∀ o S, Q o S → ∃ z, Q' z o S ∧ P z) (q : mj_bi X M as S Q) : ∃ z, mj_bi X M as S (Q' z) ∧ P z := by
  unfold mj_bi at q ⊢
  split at q
  · exact h _ _ q
  · exact h _ _ q
  · exact mj_so_ex (fun _ => mj_so_ex fun _ => mj_an_ex (h _ _)) q
  · exact mj_so_ex (fun _ => mj_an_ex (h _ _)) q
  · exact mj_so_ex (fun _ => mj_an_ex (h _ _)) q
  · exact mj_so_ex (fun _ => mj_an_ex (h _ _)) q
  · exact q.elim
theorem mj_bi_mono (X : mj_X) : mj_Mono (mj_bi X) := fun M as S Q Q' hQ q => by
  obtain ⟨-, w, -⟩ := mj_bi_ex (Z := Unit) (P := fun _ => True) (Q' := fun _ => Q') (fun o S h => ⟨(), hQ o S h, trivial⟩) q
  exact w
theorem mj_bi_one (X : mj_X) : mj_Ex (mj_bi X) := fun M as S Q q => by
  obtain ⟨⟨o, S'⟩, w1, w2⟩ := mj_bi_ex (Z := mj_O × mj_S) (P := fun z => Q z.1 z.2) (Q' := fun z a b => a = z.1 ∧ b = z.2) (fun o S h => ⟨(o, S), ⟨rfl, rfl⟩, h⟩) q
  exact ⟨o, S', w1, w2⟩
section MJBI
variable {p : Program} {l : Launch} {e : Env} {R : Room} {s s0 : State} {m : MethodId} {args : Array Value} {below : List Frame} {meth : Method} {c : Code}
variable {D : va_G} {ka : Nat → ClassId} {E : mj_S} {aE a0 : Nat → Nat} {cc : ByteArray} {nL : Nat} {ini : Prop} {X : mj_X} {hd : mj_H} {cls : mj_C} {o d : Nat}
theorem mj_iv_st {nx : mj_N} {Q : mj_Q} {pc a n : Nat} {K : mj_K} {lv : mj_LV} {st : List Value} {S : mj_S} (h : mj_iv hd cls nx Q pc a n K lv st S) : ∃ as r, st = as.reverse ++ r ∧ mj_wg r ≤ 8 ∧ cls a as S (mj_ret hd nx pc K lv r Q) := by
  obtain ⟨as, r, h1, h2, h3⟩ := mj_iv_sp h
  obtain ⟨bs, rfl, -, h4⟩ := mj_tk_sp _ _ _ _ _ h1
  rw [List.append_nil] at h4
  exact ⟨as, r, by rw [h4, List.reverse_reverse], h2, h3⟩
theorem mj_Iok_abs (hB : mj_Cal p l R s s0 m args meth c D ka E aE a0 cc nL ini X hd cls o d) (hbi : ∀ M as S Q, 900 ≤ M → cls M as S Q → mj_bi X M as S Q) {pc n b t : Nat} {k : Int32} {kl : Int64} {sw : List (Int32 × Nat)} (hdec : decode cc pc = .ok (.invokestatic n, 3)) (w1 : mj_Wd (.methodLink (mj_nm o) n Lib.Math.abs.name)) (w2 : mj_Wd (.static Lib.Math.abs.name)) (w3 : mj_Wd (.initialized "java/lang/Math")) (w4 : mj_Wd (.code Lib.Math.abs.name Lib.Math.abs.code 1 (some .int))) :
    mj_Iok p l e R s m args below meth c D mj_cl mj_ft ka s0.heap.size E aE nL X hd cls (pc, .invokestatic n, 3, (900, b, t), k, kl, sw) := by
  intro nx K Q Z hN hK hQ hX ad lv st S H locs cells slots ls hR hl hwl hwt h
  obtain ⟨hx, hb, hml, hown, hlk, hwd, hself, hH, hG, hC, ha0, hcon, hf, hlo, hR1, hR2, hKt, hmh⟩ := hB
  obtain ⟨as, r, rfl, hwg, hcl⟩ := mj_iv_st (show mj_iv hd cls nx Q pc 900 b K lv st S from h)
  have q := hbi 900 as S _ (Nat.le_refl _) hcl
  have r6 := hR.2.2.2.2.2
  have r4 := hR.2.2.2.1.1
  have g4 := hG.2.2.2.1
  unfold mj_bi at q
  split at q <;> first | omega | skip
  · rename_i x
    refine va_mabs hx hb (by rw [hml]; exact hl.1.symm) hown (hwd _ (Or.inl w1)) (hwd _ (Or.inl w2)) (hwd _ (Or.inl w3)) (hwd _ (Or.inl w4)) (by omega) ?_ (by omega) (by omega) hdec (hK ad lv _ S H locs cells slots ls hR hl hwl ?_ q)
    · show ((r.map (mj_tr ad)).map fun v => v.category).sum + 13 ≤ R.locals
      rw [mj_wg_sum]
      have := hG.2.2.2.2.1.2
      omega
    · exact (mj_wT.tail hwt).pushI
  · exact q.elim
theorem mj_Iok_max (hB : mj_Cal p l R s s0 m args meth c D ka E aE a0 cc nL ini X hd cls o d) (hbi : ∀ M as S Q, 900 ≤ M → cls M as S Q → mj_bi X M as S Q) {pc n b t : Nat} {k : Int32} {kl : Int64} {sw : List (Int32 × Nat)} (hdec : decode cc pc = .ok (.invokestatic n, 3)) (w1 : mj_Wd (.methodLink (mj_nm o) n Lib.Math.max.name)) (w2 : mj_Wd (.static Lib.Math.max.name)) (w3 : mj_Wd (.initialized "java/lang/Math")) (w4 : mj_Wd (.code Lib.Math.max.name Lib.Math.max.code 2 (some .int))) :
    mj_Iok p l e R s m args below meth c D mj_cl mj_ft ka s0.heap.size E aE nL X hd cls (pc, .invokestatic n, 3, (901, b, t), k, kl, sw) := by
  intro nx K Q Z hN hK hQ hX ad lv st S H locs cells slots ls hR hl hwl hwt h
  obtain ⟨hx, hb, hml, hown, hlk, hwd, hself, hH, hG, hC, ha0, hcon, hf, hlo, hR1, hR2, hKt, hmh⟩ := hB
  obtain ⟨as, r, rfl, hwg, hcl⟩ := mj_iv_st (show mj_iv hd cls nx Q pc 901 b K lv st S from h)
  have q := hbi 901 as S _ (by decide) hcl
  have r6 := hR.2.2.2.2.2
  have r4 := hR.2.2.2.1.1
  have g4 := hG.2.2.2.1
  unfold mj_bi at q
  split at q <;> first | omega | skip
  · rename_i x y
    refine va_mmax hx hb (by rw [hml]; exact hl.1.symm) hown (hwd _ (Or.inl w1)) (hwd _ (Or.inl w2)) (hwd _ (Or.inl w3)) (hwd _ (Or.inl w4)) (by omega) ?_ (by omega) (by omega) hdec (hK ad lv _ S H locs cells slots ls hR hl hwl ?_ q)
    · show ((r.map (mj_tr ad)).map fun v => v.category).sum + 13 ≤ R.locals
      rw [mj_wg_sum]
      have := hG.2.2.2.2.1.2
      omega
    · exact (mj_wT.tail (mj_wT.tail hwt)).pushI
  · exact q.elim
theorem mj_Iok_copy (hB : mj_Cal p l R s s0 m args meth c D ka E aE a0 cc nL ini X hd cls o d) (hbi : ∀ M as S Q, 900 ≤ M → cls M as S Q → mj_bi X M as S Q) {pc n b t : Nat} {k : Int32} {kl : Int64} {sw : List (Int32 × Nat)} (hdec : decode cc pc = .ok (.invokestatic n, 3)) (w1 : mj_Wd (.methodLink (mj_nm o) n arraycopyName)) (w2 : mj_Wd (.native arraycopyName)) (w3 : mj_Wd (.static arraycopyName)) (w4 : mj_Wd (.initialized "java/lang/System")) :
    mj_Iok p l e R s m args below meth c D mj_cl mj_ft ka s0.heap.size E aE nL X hd cls (pc, .invokestatic n, 3, (902, b, t), k, kl, sw) := by
  intro nx K Q Z hN hK hQ hX ad lv st S H locs cells slots ls hR hl hwl hwt h
  obtain ⟨hx, hb, hml, hown, hlk, hwd, hself, hH, hG, hC, ha0, hcon, hf, hlo, hR1, hR2, hKt, hmh⟩ := hB
  obtain ⟨as, r, rfl, hwg, hcl⟩ := mj_iv_st (show mj_iv hd cls nx Q pc 902 b K lv st S from h)
  have q := hbi 902 as S _ (by decide) hcl
  unfold mj_bi at q
  split at q <;> first | omega | skip
  · rename_i ob sp qb dp n' hz
    obtain ⟨n0, e0, q⟩ := mj_so_sp q
    obtain ⟨n1, e1, ⟨h1, h2, h3, h4, h5⟩, q⟩ := mj_so_sp q
    have o0 := mj_ar_sp e0
    have o1 := mj_ar_sp e1
    have a0' := mj_ws_at (ft := mj_ft) (ka := ka) (ad := ad) o0
    have a1' := mj_ws_at (ft := mj_ft) (ka := ka) (ad := ad) o1
    rw [mj_ent_arr (by decide)] at a0' a1'
    refine va_copyi hx hb (by rw [hml]; exact hl.1.symm) hown (hwd _ (Or.inl w1)) (hwd _ (Or.inl w2)) (hwd _ (Or.inl w3)) (hwd _ (Or.inl w4)) hKt hR.1 hR.2.1 hR.2.2.1 ob qb 0 0 a0' a1' rfl rfl rfl h1 h2 h3 h4 h5 (fun i hi => rfl) (by omega) ?_ hdec (fun H' locs' hP hD hS => hK ad lv r (S.1, mj_row S.2.1 qb (va_cpy (S.2.1 ob) (S.2.1 qb) sp.toNatClampNeg dp.toNatClampNeg n'.toNatClampNeg), S.2.2) H' locs' cells slots ls ?_ hl hwl ?_ q)
    · show ((r.map (mj_tr ad)).map fun v => v.category).sum + _ ≤ R.locals
      rw [mj_wg_sum]
      have := hG.2.2.2.2.1.2
      have : nativeFrameWords "java/lang/System" "arraycopy" 5 ≤ 200 := by decide +kernel
      omega
    · have e : mj_ent mj_ft ka ad (S.1, mj_row S.2.1 qb (va_cpy (S.2.1 ob) (S.2.1 qb) sp.toNatClampNeg dp.toNatClampNeg n'.toNatClampNeg), S.2.2) qb (1000 + 0, n1) = .inl (ka 0, n1, .inl (va_cpy (S.2.1 ob) (S.2.1 qb) sp.toNatClampNeg dp.toNatClampNeg n'.toNatClampNeg)) := by
        rw [mj_ent_arr (by decide)]
        show Sum.inl (_, _, Sum.inl (mj_row S.2.1 qb _ qb)) = _
        rw [mj_row_eq]
      exact hR.set o1 rfl (fun b hb => ⟨mj_row_ne hb, rfl, rfl⟩) (fun j q hq => hR.2.2.2.1.2 qb j q hq) rfl (by rw [e]; exact hP) (by rw [e]; exact hD) hS
    · exact fun v hv => hwt v (List.mem_append_right _ hv)
  · exact q.elim
end MJBI
end
section
/-! THE JDK's METHODS: their words -/
def mj_JD : List mj_D := [(⟨"java/lang/String", "length", "()I"⟩, prog_21_method_54_code, 1, some .int, []),
  (⟨"java/lang/String", "charAt", "(I)C"⟩, prog_21_method_56_code, 2, some .char, []),
  (⟨"java/lang/String", "coder", "()B"⟩, prog_21_method_152_code, 1, some .byte, []),
  (⟨"java/lang/String", "isLatin1", "()Z"⟩, prog_21_method_154_code, 1, some .boolean, []),
  (⟨"java/lang/String", "checkIndex", "(II)V"⟩, prog_21_method_155_code, 2, none, []),
  (⟨"java/lang/StringLatin1", "charAt", "([BI)C"⟩, prog_22_method_2_code, 2, some .char, []),
  (⟨"jdk/internal/util/Preconditions", "checkIndex", "(IILjava/util/function/BiFunction;)I"⟩, prog_26_method_11_code, 3, some .int, [])]
def mj_JDh : List Nat := [172, 182, 176, 186, 192, 189, 197]
def mj_JW : List Cond := [.fieldLink "java/lang/String" 9 "java/lang/String" "value" "[B",
  .fieldLink "java/lang/String" 15 "java/lang/String" "coder" "B",
  .fieldLink "java/lang/String" 38 "java/lang/String" "COMPACT_STRINGS" "Z",
  .fieldLink "java/lang/String" 1053 "jdk/internal/util/Preconditions" "SIOOBE_FORMATTER" "Ljava/util/function/BiFunction;",
  .methodLink "java/lang/String" 335 ⟨"java/lang/String", "coder", "()B"⟩,
  .methodLink "java/lang/String" 492 ⟨"java/lang/String", "isLatin1", "()Z"⟩,
  .methodLink "java/lang/String" 495 ⟨"java/lang/StringLatin1", "charAt", "([BI)C"⟩,
  .methodLink "java/lang/StringLatin1" 9 ⟨"java/lang/String", "checkIndex", "(II)V"⟩,
  .methodLink "java/lang/String" 1059 ⟨"jdk/internal/util/Preconditions", "checkIndex", "(IILjava/util/function/BiFunction;)I"⟩,
  .instanceMethod ⟨"java/lang/String", "coder", "()B"⟩,
  .instanceMethod ⟨"java/lang/String", "isLatin1", "()Z"⟩,
  .instanceMethod ⟨"java/lang/String", "length", "()I"⟩,
  .instanceMethod ⟨"java/lang/String", "charAt", "(I)C"⟩,
  .instanceMethod ⟨"java/lang/Object", "clone", "()Ljava/lang/Object;"⟩,
  .selects "java/lang/String" ⟨"java/lang/String", "coder", "()B"⟩ ⟨"java/lang/String", "coder", "()B"⟩,
  .selects "java/lang/String" ⟨"java/lang/String", "isLatin1", "()Z"⟩ ⟨"java/lang/String", "isLatin1", "()Z"⟩,
  .selects "java/lang/String" ⟨"java/lang/String", "length", "()I"⟩ ⟨"java/lang/String", "length", "()I"⟩,
  .selects "java/lang/String" ⟨"java/lang/String", "charAt", "(I)C"⟩ ⟨"java/lang/String", "charAt", "(I)C"⟩,
  .static ⟨"java/lang/StringLatin1", "charAt", "([BI)C"⟩,
  .static ⟨"java/lang/String", "checkIndex", "(II)V"⟩,
  .static ⟨"jdk/internal/util/Preconditions", "checkIndex", "(IILjava/util/function/BiFunction;)I"⟩,
  .static ⟨"java/lang/Math", "abs", "(I)I"⟩,
  .static ⟨"java/lang/Math", "max", "(II)I"⟩,
  .static ⟨"java/lang/System", "arraycopy", "(Ljava/lang/Object;ILjava/lang/Object;II)V"⟩,
  .initialized "java/lang/String",
  .initialized "java/lang/StringLatin1",
  .initialized "jdk/internal/util/Preconditions",
  .initialized "java/lang/Math",
  .initialized "java/lang/System",
  .sameMethod "[I" "java/lang/Object" "clone" "()Ljava/lang/Object;",
  .native ⟨"java/lang/Object", "clone", "()Ljava/lang/Object;"⟩,
  .native ⟨"java/lang/System", "arraycopy", "(Ljava/lang/Object;ILjava/lang/Object;II)V"⟩,
  .selects "[I" ⟨"[I", "clone", "()Ljava/lang/Object;"⟩ ⟨"java/lang/Object", "clone", "()Ljava/lang/Object;"⟩]
def mj_JWh : List Nat := [1556, 1557, 177, 193, 173, 183, 187, 190, 195, 174, 184, 170, 180, 224, 175, 185, 171, 181, 188, 191, 196, 883, 890, 629, 111, 112, 113, 130, 127, 222, 223, 630, 225]
theorem mj_JWok : mj_zc id mj_JW mj_JWh = true := by decide +kernel
theorem mj_jw {w : Cond} (k : Nat) (h : mj_JW[k]? = some w) : mj_Wd w := mj_zc_wd (f := id) mj_JWok w (List.mem_of_getElem? h)
def mj_jc : List mj_D → List Nat → Bool
  | y :: ys, h :: hs => decide (lw_tbl[h]? = some (.code y.1 y.2.1 y.2.2.1 y.2.2.2.1)) && decide (y.2.2.2.2 = []) && mj_jc ys hs
  | [], [] => true
  | _, _ => false
theorem mj_JDok : mj_jc mj_JD mj_JDh = true := by decide +kernel
theorem mj_jc_wd : ∀ {ys : List mj_D} {hs : List Nat}, mj_jc ys hs = true → ∀ y ∈ ys, mj_Wd2 (mj_cw y)
  | y :: ys, h :: hs, z, x, hx => by
    unfold mj_jc at z
    simp only [Bool.and_eq_true, decide_eq_true_eq] at z
    rcases List.mem_cons.mp hx with rfl | hx
    · refine Or.inr ⟨_, _, _, _, ?_, List.mem_of_getElem? z.1.1⟩
      unfold mj_cw
      rw [z.1.2]
    · exact mj_jc_wd z.2 x hx
theorem mj_jd {y : mj_D} (k : Nat) (h : mj_JD[k]? = some y) : mj_Wd2 (mj_cw y) := mj_jc_wd mj_JDok y (List.mem_of_getElem? h)
/-! METHODS THAT ONLY READ -/
def mj_PuQ (v : Option Value) (st : State) (o : Outcome) (t : State) : Prop := o = .returned v ∧ st.WarmedH t.vm ∧ t.heap = st.heap ∧ st.sameButNew ({ t with vm := st.vm } : State) [] 0 0
def mj_PuZ (below : List Frame) (s : State) (v : Option Value) (t : State) : Prop := ∃ o, t.status = .running ∧ Ended t below o ∧ mj_PuQ v s o t
def mj_pr (fr lo : Nat) : Room := { frames := fr, cells := 0, slots := 0, locals := lo }
def mj_Pu (l : Launch) (s0 : State) (y : mj_D) (fr lo : Nat) (as : List Value) (v : Option Value) : Prop :=
  MetFree l y.1 (headSpec [mj_cw y] (mj_pr fr lo)) (fun a U => a = as.toArray ∧ mj_Cst s0 U) (fun _ _ _ _ _ => True) (fun _ st o t => mj_PuQ v st o t)
theorem mj_pu_body {l : Launch} {s0 : State} {y : mj_D} {fr lo : Nat} {as : List Value} {v : Option Value} (hy : plainName y.1.cls = true)
    (hT : ∀ (p : Program) (e : Env) (s : State) (m : MethodId) (below : List Frame) (meth : Method) (c : Code), p.tables.exec = Jvm.exec → c.code = y.2.1 → c.maxLocals = y.2.2.1 → s.vm.findClass y.1.cls = some m.cls → meth.locks = false → meth.sig.returnType = y.2.2.2.1 → mj_Cst s0 s →
      W p l e (mj_pr fr lo) s m as.toArray below meth c s.heap [] 0 0 (mj_PuZ below s v) (F0 m 0 ((lg_sl as ++ List.replicate (y.2.2.1 - (lg_sl as).length) Slot.unset).toArray) [])) : mj_Pu l s0 y fr lo as v := by
  refine MetFree.of_bodyS (code := y.2.1) (maxLocals := y.2.2.1) (ret := y.2.2.2.1) hy ?_ ?_
  · intro args s m h hn
    obtain ⟨m9, meth, c, hn9, h1, h2, h3, h4, -, h5, h6, -⟩ := Cond.codeWith_spec (atoms_spec (ws := [mj_cw y]) h (mj_cw y) List.mem_cons_self)
    cases hn.symm.trans hn9
    exact ⟨meth, c, h1, h2, h3, h4, h5, h6⟩
  · intro p e s m args below meth c s₁ B hml hP _
    obtain ⟨rfl, hC⟩ := hP
    have hh0 : s₁.heap = s.heap := by rw [B.state]; rfl
    have X0 := Stand.of_body B
    have K := hT p e s m below meth c B.exec B.bytes hml (findClass_of_methodNamed B.named) B.notSynchronized B.returns hC
    rw [← lg_entry_eq] at K
    obtain ⟨t, a1, o, b1, b2, b3⟩ := K s₁ hh0 X0
    exact ⟨t, o, a1, b1, b2, b3⟩
section MJPU
variable {p : Program} {l : Launch} {e : Env} {R : Room} {s s0 : State} {m : MethodId} {args : Array Value} {below : List Frame} {meth : Method} {c : Code} {H : Heap} {locs : List Loc} {cells slots : Nat} {Z : State → Prop}
variable {cc : ByteArray} {pc : Nat} {ls : Array Slot} {st rest : List Value}
theorem mj_pu_ret {v : Int32} {ty : FieldType} (hx : p.tables.exec = Jvm.exec) (hb : c.code = cc) (hr : meth.sig.returnType = some ty) (hn : narrow ty (.int v) = .int v) (hlk : meth.locks = false) (hdec : decode cc pc = .ok (.ireturn, 1)) : W p l e R s m args below meth c s.heap [] 0 0 (mj_PuZ below s (some (.int v))) (F0 m pc ls [.int v]) := by
  refine mj_wcons (W.zret (Qc := fun _ st o t => o = .returned (some (.int v)) ∧ t.heap = s.heap) (free := fun _ => False) hx hb hr hn (fun t ht _ => ⟨rfl, ht⟩) (fun _ h => by cases h) hdec hlk) ?_
  rintro t ⟨o, w1, w2, ⟨rfl, w4⟩, L, ⟨-, w5, w6⟩, w7⟩
  have : L = [] := by
    cases L with
    | nil => rfl
    | cons a b => exact (w7 a List.mem_cons_self).elim
  subst this
  exact ⟨_, w1, w2, rfl, w5, w4, w6⟩
theorem mj_pu_vret (hx : p.tables.exec = Jvm.exec) (hb : c.code = cc) (hr : meth.sig.returnType = none) (hlk : meth.locks = false) (hdec : decode cc pc = .ok (.return_, 1)) : W p l e R s m args below meth c s.heap [] 0 0 (mj_PuZ below s none) (F0 m pc ls []) := by
  refine mj_wcons (W.vret (Qc := fun _ _ o t => o = .returned none ∧ t.heap = s.heap) (free := fun _ => False) hx hb hr (fun t ht _ => ⟨rfl, ht⟩) (fun _ h => by cases h) hdec hlk) ?_
  rintro t ⟨o, w1, w2, ⟨rfl, w4⟩, L, ⟨-, w5, w6⟩, w7⟩
  have : L = [] := by
    cases L with
    | nil => rfl
    | cons a b => exact (w7 a List.mem_cons_self).elim
  subst this
  exact ⟨_, w1, w2, rfl, w5, w4, w6⟩
theorem mj_pu_call {y : mj_D} {fr lo : Nat} {as : List Value} {v : Option Value} {ig : Instr} (hM : mj_Pu l s0 y fr lo as v) (hb : c.code = cc) (hml : c.maxLocals = ls.size) (hC : mj_Cst s0 s) (hS : va_S (fun q => s0.heap.size ≤ q) s.heap H locs) (hdec : decode cc pc = .ok (ig, 3))
    (hcw : (mj_cw y).before args s = true) (hini : (Cond.initialized y.1.cls).before args s = true) (hwg : (rest.map fun v => v.category).sum ≤ 8) (hfr : fr + 1 ≤ R.frames) (hlo : 8 + (y.2.2.1 + 11) + lo ≤ R.locals) (hce : cells ≤ R.cells) (hsl : slots ≤ R.slots)
    (hE : ∀ T : State, T.heap = H → Stand p l e R s m args below meth c T locs cells slots → mj_Ent p l e R s m args below meth c T locs cells slots y.1 (F0 m pc ls st) rest as.toArray)
    (kk : W p l e R s m args below meth c H locs cells slots Z (F0 m (pc + 3) ls (v.toList ++ rest))) : W p l e R s m args below meth c H locs cells slots Z (F0 m pc ls st) := by
  intro T hT XT
  obtain ⟨vm₁, mk, X1, hnamed, hstep⟩ := hE T hT XT
  have hCT : mj_Cst s0 (T.setVm vm₁) := hC.on rfl hS hT X1.warmed
  have hcwU : (mj_cw y).before as.toArray (T.setVm vm₁) = true := word_at X1.warmed (good_of_word rfl) hcw
  obtain ⟨m9, methY, cY, hn9, hmY, hcY, -, hlY, -⟩ := Cond.codeWith_spec hcwU
  have hn := X1.named hnamed
  cases hn.symm.trans hn9
  obtain ⟨kY, hkY, -⟩ := className_of_methodNamed hn
  have hiniU : (Cond.initialized y.1.cls).before as.toArray (T.setVm vm₁) = true := word_at X1.warmed (good_of_word rfl) hini
  have hinitY : kY.init = .initialized := Cond.initialized_spec (findClass_of_methodNamed hn) hkY hiniU
  obtain ⟨o, t, hq, hWt, hstand, hback⟩ := mj_back (W := 8) (maxL := y.2.2.1) hM (fun a st o t q => ⟨q.2.1, [], 0, 0, q.2.2.2⟩) X1 (g := F0 m pc ls rest) (ig := ig) (len := 3) rfl (by rw [hml]) (by rw [hb]; exact hdec)
    (by show 2 * 0 + (rest.map fun v => v.category).sum ≤ 8; omega) hn hmY hcY hlY hkY hinitY hfr hlo (by show cells + 0 ≤ _; omega) (by show slots + 0 ≤ _; omega)
    (atoms_intro (fun w hw => by rw [List.mem_singleton.mp hw]; exact hcwU)) ⟨rfl, hCT⟩
  obtain ⟨rfl, q2, q3, q4⟩ := hq
  have X2 := hstand [] 0 0 q4
  rw [List.append_nil] at X2
  have hh : t.heap = H := q3.trans hT
  obtain ⟨tz, z1, z2⟩ := kk (({ T.setVm vm₁ with heap := t.heap, slotsUsed := t.slotsUsed } : State).setVm t.vm) hh X2
  exact ⟨tz, hstep _ (Steps.trans hback z1), z2⟩
end MJPU
end
section
/-! String.length AND String.charAt of a literal -/
theorem mj_JA {s0 s : State} {A A' : Array Value} {w : Cond} (hts : ∀ w, mj_Wd2 w → w.before A s0 = true) (hC : mj_Cst s0 s) (h : mj_Wd2 w) : w.before A' s = true := mj_keepG hC (mj_Wd2_good h) (hts w h)
def mj_dl : mj_D := (⟨"java/lang/String", "length", "()I"⟩, prog_21_method_54_code, 1, some .int, [])
def mj_dc : mj_D := (⟨"java/lang/String", "charAt", "(I)C"⟩, prog_21_method_56_code, 2, some .char, [])
def mj_do : mj_D := (⟨"java/lang/String", "coder", "()B"⟩, prog_21_method_152_code, 1, some .byte, [])
def mj_di : mj_D := (⟨"java/lang/String", "isLatin1", "()Z"⟩, prog_21_method_154_code, 1, some .boolean, [])
def mj_dk : mj_D := (⟨"java/lang/String", "checkIndex", "(II)V"⟩, prog_21_method_155_code, 2, none, [])
def mj_d1 : mj_D := (⟨"java/lang/StringLatin1", "charAt", "([BI)C"⟩, prog_22_method_2_code, 2, some .char, [])
def mj_dp : mj_D := (⟨"jdk/internal/util/Preconditions", "checkIndex", "(IILjava/util/function/BiFunction;)I"⟩, prog_26_method_11_code, 3, some .int, [])
/-- what is known of the literals at the start -/
def mj_Txt (s0 : State) (ad : Nat) (tx : List Int32) : Prop := ∃ v, va_O "java/lang/String" ad (fun q => s0.heap.size ≤ q) s0 s0.heap ∧ va_OF "java/lang/String" "coder" "B" (.int 0) ad (fun q => s0.heap.size ≤ q) s0 s0.heap ∧ va_OF "java/lang/String" "value" "[B" (.ref v) ad (fun q => s0.heap.size ≤ q) s0 s0.heap ∧ va_T .byte v tx.length (fun j => .int (tx.getD j 0)) (fun q => s0.heap.size ≤ q) s0 s0.heap
def mj_Str (s0 : State) : Prop := va_Z "java/lang/String" "COMPACT_STRINGS" "Z" (.int 1) (fun q => s0.heap.size ≤ q) s0 s0.heap ∧ ∃ f : Value, (f = .null ∨ ∃ t, f = .ref t) ∧ va_Z "jdk/internal/util/Preconditions" "SIOOBE_FORMATTER" "Ljava/util/function/BiFunction;" f (fun q => s0.heap.size ≤ q) s0 s0.heap
section MJST
variable {l : Launch} {s0 : State} {A : Array Value}
theorem mj_c_pre {i n : Int32} {f : Value} (hf : f = .null ∨ ∃ t, f = .ref t) (h1 : ¬ i < 0) (h2 : i < n) : mj_Pu l s0 mj_dp 0 0 [.int i, .int n, f] (some (.int i)) := by
  rcases hf with rfl | ⟨f, rfl⟩
  all_goals
    refine mj_pu_body (by decide +kernel) fun p e s m below meth c hx hb hml hown hlk hrt hC => ?_
    refine lv_iload_n (k := 0) (i := 0) hx hb (by decide +kernel) rfl rfl ?_
    refine lv_if_lt (off := 8) (tgt := 9) hx hb (by decide +kernel) (by decide) (fun q => absurd q h1) (fun _ => ?_)
    refine lv_iload_n (k := 0) (i := 0) hx hb (by decide +kernel) rfl rfl ?_
    refine lv_iload_n (k := 1) (i := 1) hx hb (by decide +kernel) rfl rfl ?_
    refine lv_icmp_lt (off := 10) (tgt := 16) hx hb (by decide +kernel) (by decide) (fun _ => ?_) (fun q => absurd h2 q)
    refine lv_iload_n (k := 0) (i := 0) hx hb (by decide +kernel) rfl rfl ?_
    exact mj_pu_ret hx hb hrt rfl hlk (by decide +kernel)
theorem mj_c_chk {i n : Int32} (hts : ∀ w, mj_Wd2 w → w.before A s0 = true) (hZ : mj_Str s0) (h1 : ¬ i < 0) (h2 : i < n) : mj_Pu l s0 mj_dk 1 22 [.int i, .int n] none := by
  refine mj_pu_body (by decide +kernel) fun p e s m below meth c hx hb hml hown hlk hrt hC => ?_
  obtain ⟨-, f, hf, hZf⟩ := hZ
  have hZs := (hZf.moved hC.1.alike).kept (fun a ha _ => hC.2.2 a ha)
  have J := fun (w : Cond) (h : mj_Wd2 w) => mj_JA (A' := ([.int i, .int n] : List Value).toArray) hts hC h
  refine lv_iload_n (k := 0) (i := 0) hx hb (by decide +kernel) rfl rfl ?_
  refine lv_iload_n (k := 1) (i := 1) hx hb (by decide +kernel) rfl rfl ?_
  refine va_gets (index := 1053) hx hb hZs va_S.rf hown (J _ (Or.inl (mj_jw 3 rfl))) (fun _ h => h) (by decide +kernel) ?_
  refine mj_pu_call (rest := []) (mj_c_pre (f := f) hf h1 h2) hb hml hC va_S.rf (ig := .invokestatic 1059) (by decide +kernel) (J _ (mj_jd 6 rfl)) (J _ (Or.inl (mj_jw 26 rfl))) (by decide) (by decide) (by decide) (Nat.le_refl 0) (Nat.le_refl 0) (fun T hT XT => ?_) ?_
  · exact mj_entS XT hx hown (J _ (Or.inl (mj_jw 8 rfl))) (J _ (Or.inl (mj_jw 20 rfl))) (J _ (Or.inl (mj_jw 26 rfl))) (J _ (mj_jd 6 rfl)) ⟨by decide, by decide⟩ (argsL := [.int i, .int n, f]) rfl (fun sig hs => mj_pn_ok (y := mj_dp.1) (n := 3) (by decide +kernel) sig hs) rfl (by rw [hb]; exact (by decide +kernel : decode mj_dk.2.1 5 = .ok (.invokestatic 1059, 3)))
  · refine lv_pop hx hb (by decide +kernel) rfl ?_
    exact mj_pu_vret hx hb hrt hlk (by decide +kernel)
theorem mj_c_lat {a : Nat} {tx : List Int32} (hts : ∀ w, mj_Wd2 w → w.before A s0 = true) (hZ : mj_Str s0) (hT : mj_Txt s0 a tx) : mj_Pu l s0 mj_di 0 0 [.ref a] (some (.int 1)) := by
  refine mj_pu_body (by decide +kernel) fun p e s m below meth c hx hb hml hown hlk hrt hC => ?_
  obtain ⟨hZf, -⟩ := hZ
  obtain ⟨v, -, hco, -⟩ := hT
  have hZs := (hZf.moved hC.1.alike).kept (fun a ha _ => hC.2.2 a ha)
  have hcs := (hco.moved hC.1.alike).kept (fun a ha _ => hC.2.2 a ha)
  have J := fun (w : Cond) (h : mj_Wd2 w) => mj_JA (A' := ([.ref a] : List Value).toArray) hts hC h
  refine va_gets (index := 38) hx hb hZs va_S.rf hown (J _ (Or.inl (mj_jw 2 rfl))) (fun _ h => h) (by decide +kernel) ?_
  refine lv_if_eq (off := 14) (tgt := 17) hx hb (by decide +kernel) (by decide) (fun q => absurd q (by decide)) (fun _ => ?_)
  refine lv_aload_n (k := 0) (i := 0) hx hb (by decide +kernel) rfl rfl ?_
  refine vk_getf (index := 15) hx hb hcs va_S.rf hown (J _ (Or.inl (mj_jw 1 rfl))) (fun _ h => h) (by decide +kernel) ?_
  refine lv_if_ne (off := 7) (tgt := 17) hx hb (by decide +kernel) (by decide) (fun q => absurd rfl q) (fun _ => ?_)
  refine lv_iconst (n := 1) hx hb (by decide +kernel) rfl ?_
  refine lv_goto (off := 4) (tgt := 18) hx hb (by decide +kernel) (by decide) ?_
  exact mj_pu_ret hx hb hrt rfl hlk (by decide +kernel)
theorem mj_c_cod {a : Nat} {tx : List Int32} (hts : ∀ w, mj_Wd2 w → w.before A s0 = true) (hZ : mj_Str s0) (hT : mj_Txt s0 a tx) : mj_Pu l s0 mj_do 0 0 [.ref a] (some (.int 0)) := by
  refine mj_pu_body (by decide +kernel) fun p e s m below meth c hx hb hml hown hlk hrt hC => ?_
  obtain ⟨hZf, -⟩ := hZ
  obtain ⟨v, -, hco, -⟩ := hT
  have hZs := (hZf.moved hC.1.alike).kept (fun a ha _ => hC.2.2 a ha)
  have hcs := (hco.moved hC.1.alike).kept (fun a ha _ => hC.2.2 a ha)
  have J := fun (w : Cond) (h : mj_Wd2 w) => mj_JA (A' := ([.ref a] : List Value).toArray) hts hC h
  refine va_gets (index := 38) hx hb hZs va_S.rf hown (J _ (Or.inl (mj_jw 2 rfl))) (fun _ h => h) (by decide +kernel) ?_
  refine lv_if_eq (off := 10) (tgt := 13) hx hb (by decide +kernel) (by decide) (fun q => absurd q (by decide)) (fun _ => ?_)
  refine lv_aload_n (k := 0) (i := 0) hx hb (by decide +kernel) rfl rfl ?_
  refine vk_getf (index := 15) hx hb hcs va_S.rf hown (J _ (Or.inl (mj_jw 1 rfl))) (fun _ h => h) (by decide +kernel) ?_
  refine lv_goto (off := 4) (tgt := 14) hx hb (by decide +kernel) (by decide) ?_
  exact mj_pu_ret hx hb hrt rfl hlk (by decide +kernel)
theorem mj_c_len {a : Nat} {tx : List Int32} (hts : ∀ w, mj_Wd2 w → w.before A s0 = true) (hZ : mj_Str s0) (hT : mj_Txt s0 a tx) : mj_Pu l s0 mj_dl 1 20 [.ref a] (some (.int (Int32.ofNat tx.length))) := by
  refine mj_pu_body (by decide +kernel) fun p e s m below meth c hx hb hml hown hlk hrt hC => ?_
  have hT' := hT
  obtain ⟨v, ho, hco, hva, hby⟩ := hT
  have hvs := (hva.moved hC.1.alike).kept (fun a ha _ => hC.2.2 a ha)
  have hbs := (hby.moved hC.1.alike).kept (fun a ha _ => hC.2.2 a ha)
  have hos := (ho.moved hC.1.alike).kept (fun a ha _ => hC.2.2 a ha)
  have J := fun (w : Cond) (h : mj_Wd2 w) => mj_JA (A' := ([.ref a] : List Value).toArray) hts hC h
  refine lv_aload_n (k := 0) (i := 0) hx hb (by decide +kernel) rfl rfl ?_
  refine vk_getf (index := 9) hx hb hvs va_S.rf hown (J _ (Or.inl (mj_jw 0 rfl))) (fun _ h => h) (by decide +kernel) ?_
  refine va_tlen hx hb hbs va_S.rf rfl (by decide +kernel) ?_
  refine lv_aload_n (k := 0) (i := 0) hx hb (by decide +kernel) rfl rfl ?_
  refine mj_pu_call (rest := [.int (Int32.ofNat tx.length)]) (mj_c_cod hts hZ hT') hb hml hC va_S.rf (ig := .invokevirtual 335) (by decide +kernel) (J _ (mj_jd 2 rfl)) (J _ (Or.inl (mj_jw 24 rfl))) (by simp [Value.category]) (by decide) (by decide) (Nat.le_refl 0) (Nat.le_refl 0) (fun T hT XT => ?_) ?_
  · obtain ⟨ce, e1, e2, e3, -⟩ := hos
    exact mj_entV XT hx hown (J _ (Or.inl (mj_jw 4 rfl))) (J _ (Or.inl (mj_jw 9 rfl))) (J _ (Or.inl (mj_jw 14 rfl))) (J _ (mj_jd 2 rfl)) ⟨by decide, by decide⟩ (b := a) (by rw [hT]; exact e1) e2 e3 (argsL := []) rfl (fun sig hs => mj_pn_ok (y := mj_do.1) (n := 0) (by decide +kernel) sig hs) rfl (by rw [hb]; exact (by decide +kernel : decode mj_dl.2.1 6 = .ok (.invokevirtual 335, 3)))
  · refine lv_ishr hx hb (by decide +kernel) ?_
    have e : (Int32.ofNat tx.length) >>> ((0 : Int32) &&& 31) = Int32.ofNat tx.length := by
      rw [show (0 : Int32) &&& 31 = 0 from rfl, Int32.shiftRight_zero]
    rw [e]
    exact mj_pu_ret hx hb hrt rfl hlk (by decide +kernel)
theorem mj_c_lch {t : Nat} {tx : List Int32} {k : Int32} (hts : ∀ w, mj_Wd2 w → w.before A s0 = true) (hZ : mj_Str s0) (hby : va_T .byte t tx.length (fun j => .int (tx.getD j 0)) (fun q => s0.heap.size ≤ q) s0 s0.heap) (hl : tx.length < 2 ^ 31) (hk : vp_in k tx.length) (hc : (((tx.getD k.toNatClampNeg 0) &&& 255).toUInt32 % 65536).toInt32 = tx.getD k.toNatClampNeg 0) (hn : narrow .char (.int (tx.getD k.toNatClampNeg 0)) = .int (tx.getD k.toNatClampNeg 0)) :
    mj_Pu l s0 mj_d1 2 43 [.ref t, .int k] (some (.int (tx.getD k.toNatClampNeg 0))) := by
  refine mj_pu_body (by decide +kernel) fun p e s m below meth c hx hb hml hown hlk hrt hC => ?_
  have hbs := (hby.moved hC.1.alike).kept (fun a ha _ => hC.2.2 a ha)
  have J := fun (w : Cond) (h : mj_Wd2 w) => mj_JA (A' := ([.ref t, .int k] : List Value).toArray) hts hC h
  have h1 : ¬ k < 0 := fun q => hk (Or.inl q)
  have h2 : k < Int32.ofNat tx.length := by
    have h3 : k.toNatClampNeg < tx.length := Nat.not_le.mp fun q => hk (Or.inr q)
    rw [Int32.lt_iff_toInt_lt] at h1 ⊢
    rw [Int32.toInt_ofNat_of_lt hl]
    have e0 : (0 : Int32).toInt = 0 := rfl
    have : k.toNatClampNeg = k.toInt.toNat := rfl
    omega
  refine lv_iload_n (k := 1) (i := 1) hx hb (by decide +kernel) rfl rfl ?_
  refine lv_aload_n (k := 0) (i := 0) hx hb (by decide +kernel) rfl rfl ?_
  refine va_tlen hx hb hbs va_S.rf rfl (by decide +kernel) ?_
  refine mj_pu_call (rest := []) (mj_c_chk hts hZ h1 h2) hb hml hC va_S.rf (ig := .invokestatic 9) (by decide +kernel) (J _ (mj_jd 4 rfl)) (J _ (Or.inl (mj_jw 24 rfl))) (by decide) (by decide) (by decide) (Nat.le_refl 0) (Nat.le_refl 0) (fun T hT XT => ?_) ?_
  · exact mj_entS XT hx hown (J _ (Or.inl (mj_jw 7 rfl))) (J _ (Or.inl (mj_jw 19 rfl))) (J _ (Or.inl (mj_jw 24 rfl))) (J _ (mj_jd 4 rfl)) ⟨by decide, by decide⟩ (argsL := [.int k, .int (Int32.ofNat tx.length)]) rfl (fun sig hs => mj_pn_ok (y := mj_dk.1) (n := 2) (by decide +kernel) sig hs) rfl (by rw [hb]; exact (by decide +kernel : decode mj_d1.2.1 3 = .ok (.invokestatic 9, 3)))
  · refine lv_aload_n (k := 0) (i := 0) hx hb (by decide +kernel) rfl rfl ?_
    refine lv_iload_n (k := 1) (i := 1) hx hb (by decide +kernel) rfl rfl ?_
    refine va_tb hx hb hbs va_S.rf hk rfl (by decide +kernel) ?_
    refine lv_sipush (n := 255) hx hb (by decide +kernel) rfl ?_
    refine lv_iand hx hb (by decide +kernel) ?_
    refine lv_i2c hx hb (by decide +kernel) hc ?_
    exact mj_pu_ret hx hb hrt hn hlk (by decide +kernel)
theorem mj_c_cha {a : Nat} {tx : List Int32} {k : Int32} (hts : ∀ w, mj_Wd2 w → w.before A s0 = true) (hZ : mj_Str s0) (hT : mj_Txt s0 a tx) (hl : tx.length < 2 ^ 31) (hk : vp_in k tx.length) (hc : (((tx.getD k.toNatClampNeg 0) &&& 255).toUInt32 % 65536).toInt32 = tx.getD k.toNatClampNeg 0) (hn : narrow .char (.int (tx.getD k.toNatClampNeg 0)) = .int (tx.getD k.toNatClampNeg 0)) :
    mj_Pu l s0 mj_dc 3 64 [.ref a, .int k] (some (.int (tx.getD k.toNatClampNeg 0))) := by
  refine mj_pu_body (by decide +kernel) fun p e s m below meth c hx hb hml hown hlk hrt hC => ?_
  have hT' := hT
  obtain ⟨v, ho, hco, hva, hby⟩ := hT
  have hvs := (hva.moved hC.1.alike).kept (fun a ha _ => hC.2.2 a ha)
  have hos := (ho.moved hC.1.alike).kept (fun a ha _ => hC.2.2 a ha)
  have J := fun (w : Cond) (h : mj_Wd2 w) => mj_JA (A' := ([.ref a, .int k] : List Value).toArray) hts hC h
  refine lv_aload_n (k := 0) (i := 0) hx hb (by decide +kernel) rfl rfl ?_
  refine mj_pu_call (rest := []) (mj_c_lat hts hZ hT') hb hml hC va_S.rf (ig := .invokevirtual 492) (by decide +kernel) (J _ (mj_jd 3 rfl)) (J _ (Or.inl (mj_jw 24 rfl))) (by decide) (by decide) (by decide) (Nat.le_refl 0) (Nat.le_refl 0) (fun T hT XT => ?_) ?_
  · obtain ⟨ce, e1, e2, e3, -⟩ := hos
    exact mj_entV XT hx hown (J _ (Or.inl (mj_jw 5 rfl))) (J _ (Or.inl (mj_jw 10 rfl))) (J _ (Or.inl (mj_jw 15 rfl))) (J _ (mj_jd 3 rfl)) ⟨by decide, by decide⟩ (b := a) (by rw [hT]; exact e1) e2 e3 (argsL := []) rfl (fun sig hs => mj_pn_ok (y := mj_di.1) (n := 0) (by decide +kernel) sig hs) rfl (by rw [hb]; exact (by decide +kernel : decode mj_dc.2.1 1 = .ok (.invokevirtual 492, 3)))
  · refine lv_if_eq (off := 12) (tgt := 16) hx hb (by decide +kernel) (by decide) (fun q => absurd q (by decide)) (fun _ => ?_)
    refine lv_aload_n (k := 0) (i := 0) hx hb (by decide +kernel) rfl rfl ?_
    refine vk_getf (index := 9) hx hb hvs va_S.rf hown (J _ (Or.inl (mj_jw 0 rfl))) (fun _ h => h) (by decide +kernel) ?_
    refine lv_iload_n (k := 1) (i := 1) hx hb (by decide +kernel) rfl rfl ?_
    refine mj_pu_call (rest := []) (mj_c_lch hts hZ hby hl hk hc hn) hb hml hC va_S.rf (ig := .invokestatic 495) (by decide +kernel) (J _ (mj_jd 5 rfl)) (J _ (Or.inl (mj_jw 25 rfl))) (by decide) (by decide) (by decide) (Nat.le_refl 0) (Nat.le_refl 0) (fun T hT XT => ?_) ?_
    · exact mj_entS XT hx hown (J _ (Or.inl (mj_jw 6 rfl))) (J _ (Or.inl (mj_jw 18 rfl))) (J _ (Or.inl (mj_jw 25 rfl))) (J _ (mj_jd 5 rfl)) ⟨by decide, by decide⟩ (argsL := [.ref v, .int k]) rfl (fun sig hs => mj_pn_ok (y := mj_d1.1) (n := 2) (by decide +kernel) sig hs) rfl (by rw [hb]; exact (by decide +kernel : decode mj_dc.2.1 12 = .ok (.invokestatic 495, 3)))
    · exact mj_pu_ret hx hb hrt hn hlk (by decide +kernel)
end MJST
end
section
/-! CALLS OF length, charAt, clone -/
section MJB2
variable {p : Program} {l : Launch} {e : Env} {R : Room} {s s0 : State} {m : MethodId} {args A : Array Value} {below : List Frame} {meth : Method} {c : Code}
variable {D : va_G} {ka : Nat → ClassId} {E : mj_S} {aE a0 : Nat → Nat} {cc : ByteArray} {nL : Nat} {ini : Prop} {X : mj_X} {hd : mj_H} {cls : mj_C} {o d : Nat}
/-- the texts of the literals -/
def mj_Lit (s0 : State) (a0 : Nat → Nat) (X : mj_X) : Prop := mj_Str s0 ∧ ∀ i tx, X.2.1[i]? = some tx → mj_Txt s0 (a0 (900001 + i)) tx ∧ tx.length < 2 ^ 31 ∧ ∀ j, ((tx.getD j 0 &&& 255).toUInt32 % 65536).toInt32 = tx.getD j 0 ∧ narrow .char (.int (tx.getD j 0)) = .int (tx.getD j 0)
theorem mj_Iok_len (hB : mj_Cal p l R s s0 m args meth c D ka E aE a0 cc nL ini X hd cls o d) (hbi : ∀ M as S Q, 900 ≤ M → cls M as S Q → mj_bi X M as S Q) (hts : ∀ w, mj_Wd2 w → w.before A s0 = true) (hL : mj_Lit s0 a0 X) {pc n b t : Nat} {k : Int32} {kl : Int64} {sw : List (Int32 × Nat)} (hdec : decode cc pc = .ok (.invokevirtual n, 3)) (ht : t = 999) (w1 : mj_Wd (.methodLink (mj_nm o) n mj_dl.1)) :
    mj_Iok p l e R s m args below meth c D mj_cl mj_ft ka s0.heap.size E aE nL X hd cls (pc, .invokevirtual n, 3, (904, b, t), k, kl, sw) := by
  intro nx K Q Z hN hK hQ hX ad lv st S H locs cells slots ls hR hl hwl hwt h
  subst ht
  obtain ⟨hx, hb, hml, hown, hlk, hwd, hself, hH, hG, hC, ha0, hcon, hf, hlo, hR1, hR2, hKt, hmh⟩ := hB
  obtain ⟨as, r, rfl, hwg, hcl⟩ := mj_iv_st (show mj_iv hd cls nx Q pc 904 b K lv st S from h)
  have q := hbi 904 as S _ (by decide) hcl
  have r6 := hR.2.2.2.2.2
  have r4 := hR.2.2.2.1.1
  have g4 := hG.2.2.2.1
  have g5 := hG.2.2.2.2.1
  unfold mj_bi at q
  split at q <;> first | omega | skip
  · rename_i ob hz
    obtain ⟨tx, e0, h0, q⟩ := mj_so_sp q
    obtain ⟨hT, -, -⟩ := hL.2 _ _ e0
    have h0 : (900001 : Nat) ≤ ob := h0
    have ea : ad ob = a0 (900001 + (ob - 900001)) := by
      rw [show 900001 + (ob - 900001) = ob from Nat.add_sub_cancel' h0, hR.2.2.2.2.1.2 ob (Or.inr (by omega)), ha0 ob (by omega)]
    rw [← ea] at hT
    have hos := (hT.choose_spec.1.moved hC.1.alike).kept (fun a ha _ => hC.2.2 a ha)
    obtain ⟨ce, e1, e2, e3, -⟩ := hos.kept hR.2.2.1.2.1
    have J := fun (w : Cond) (h : mj_Wd2 w) => mj_JA (A' := args) hts hC h
    show W p l e R s m args below meth c H locs cells slots Z (F0 m pc ls (.ref (ad ob) :: r.map (mj_tr ad)))
    refine mj_pu_call (rest := r.map (mj_tr ad)) (mj_c_len hts hL.1 hT) hb (by rw [hml]; exact hl.1.symm) hC hR.2.2.1 (ig := .invokevirtual n) hdec (J _ (mj_jd 0 rfl)) (J _ (Or.inl (mj_jw 24 rfl))) (by rw [mj_wg_sum]; exact hwg) (by omega) (by show 8 + (1 + 11) + 20 ≤ R.locals; omega) (by omega) (by omega) (fun T hT XT => ?_) ?_
    · exact mj_entV XT hx hown (hwd _ (Or.inl w1)) (J _ (Or.inl (mj_jw 11 rfl))) (J _ (Or.inl (mj_jw 16 rfl))) (J _ (mj_jd 0 rfl)) ⟨by decide, by decide⟩ (b := ad ob) (by rw [hT]; exact e1) e2 e3 (argsL := []) rfl (fun sig hs => mj_pn_ok (y := mj_dl.1) (n := 0) (by decide +kernel) sig hs) rfl (by rw [hb]; exact hdec)
    · exact hK ad lv (.int (Int32.ofNat tx.length) :: r) S H locs cells slots ls hR hl hwl (mj_wT.tail hwt).pushI q
  · exact q.elim
theorem mj_Iok_chat (hB : mj_Cal p l R s s0 m args meth c D ka E aE a0 cc nL ini X hd cls o d) (hbi : ∀ M as S Q, 900 ≤ M → cls M as S Q → mj_bi X M as S Q) (hts : ∀ w, mj_Wd2 w → w.before A s0 = true) (hL : mj_Lit s0 a0 X) {pc n b t : Nat} {k : Int32} {kl : Int64} {sw : List (Int32 × Nat)} (hdec : decode cc pc = .ok (.invokevirtual n, 3)) (ht : t = 999) (w1 : mj_Wd (.methodLink (mj_nm o) n mj_dc.1)) :
    mj_Iok p l e R s m args below meth c D mj_cl mj_ft ka s0.heap.size E aE nL X hd cls (pc, .invokevirtual n, 3, (905, b, t), k, kl, sw) := by
  intro nx K Q Z hN hK hQ hX ad lv st S H locs cells slots ls hR hl hwl hwt h
  subst ht
  obtain ⟨hx, hb, hml, hown, hlk, hwd, hself, hH, hG, hC, ha0, hcon, hf, hlo, hR1, hR2, hKt, hmh⟩ := hB
  obtain ⟨as, r, rfl, hwg, hcl⟩ := mj_iv_st (show mj_iv hd cls nx Q pc 905 b K lv st S from h)
  have q := hbi 905 as S _ (by decide) hcl
  have r6 := hR.2.2.2.2.2
  have r4 := hR.2.2.2.1.1
  have g4 := hG.2.2.2.1
  have g5 := hG.2.2.2.2.1
  unfold mj_bi at q
  split at q <;> first | omega | skip
  · rename_i ob kk hz
    obtain ⟨tx, e0, ⟨h0, h1⟩, q⟩ := mj_so_sp q
    obtain ⟨hT, hl31, hch⟩ := hL.2 _ _ e0
    have h0 : (900001 : Nat) ≤ ob := h0
    have ea : ad ob = a0 (900001 + (ob - 900001)) := by
      rw [show 900001 + (ob - 900001) = ob from Nat.add_sub_cancel' h0, hR.2.2.2.2.1.2 ob (Or.inr (by omega)), ha0 ob (by omega)]
    rw [← ea] at hT
    have hos := (hT.choose_spec.1.moved hC.1.alike).kept (fun a ha _ => hC.2.2 a ha)
    obtain ⟨ce, e1, e2, e3, -⟩ := hos.kept hR.2.2.1.2.1
    have J := fun (w : Cond) (h : mj_Wd2 w) => mj_JA (A' := args) hts hC h
    show W p l e R s m args below meth c H locs cells slots Z (F0 m pc ls (.int kk :: .ref (ad ob) :: r.map (mj_tr ad)))
    refine mj_pu_call (rest := r.map (mj_tr ad)) (mj_c_cha hts hL.1 hT hl31 h1 (hch _).1 (hch _).2) hb (by rw [hml]; exact hl.1.symm) hC hR.2.2.1 (ig := .invokevirtual n) hdec (J _ (mj_jd 1 rfl)) (J _ (Or.inl (mj_jw 24 rfl))) (by rw [mj_wg_sum]; exact hwg) (by omega) (by show 8 + (2 + 11) + 64 ≤ R.locals; omega) (by omega) (by omega) (fun T hT XT => ?_) ?_
    · exact mj_entV XT hx hown (hwd _ (Or.inl w1)) (J _ (Or.inl (mj_jw 12 rfl))) (J _ (Or.inl (mj_jw 17 rfl))) (J _ (mj_jd 1 rfl)) ⟨by decide, by decide⟩ (b := ad ob) (by rw [hT]; exact e1) e2 e3 (argsL := [.int kk]) rfl (fun sig hs => mj_pn_ok (y := mj_dc.1) (n := 1) (by decide +kernel) sig hs) rfl (by rw [hb]; exact hdec)
    · exact hK ad lv (.int (tx.getD kk.toNatClampNeg 0) :: r) S H locs cells slots ls hR hl hwl (mj_wT.tail (mj_wT.tail hwt)).pushI q
  · exact q.elim
theorem mj_Iok_clone (hB : mj_Cal p l R s s0 m args meth c D ka E aE a0 cc nL ini X hd cls o d) (hbi : ∀ M as S Q, 900 ≤ M → cls M as S Q → mj_bi X M as S Q) (hts : ∀ w, mj_Wd2 w → w.before A s0 = true) (hcl : va_Nw (.castable "[I" "java/lang/Cloneable") s0) {pc n b t : Nat} {k : Int32} {kl : Int64} {sw : List (Int32 × Nat)} (hdec : decode cc pc = .ok (.invokevirtual n, 3)) (ht : t = 999) (w1 : mj_Wd (.methodLink (mj_nm o) n ⟨"[I", "clone", "()Ljava/lang/Object;"⟩)) :
    mj_Iok p l e R s m args below meth c D mj_cl mj_ft ka s0.heap.size E aE nL X hd cls (pc, .invokevirtual n, 3, (903, b, t), k, kl, sw) := by
  intro nx K Q Z hN hK hQ hX ad lv st S H locs cells slots ls hR hl hwl hwt h
  subst ht
  obtain ⟨hx, hb, hml, hown, hlk, hwd, hself, hH, hG, hC, ha0, hcon, hf, hlo, hR1, hR2, hKt, hmh⟩ := hB
  obtain ⟨as, r, rfl, hwg, hcl'⟩ := mj_iv_st (show mj_iv hd cls nx Q pc 903 b K lv st S from h)
  have q := hbi 903 as S _ (by decide) hcl'
  have r6 := hR.2.2.2.2.2
  have r4 := hR.2.2.2.1
  have g4 := hG.2.2.2.1
  have g5 := hG.2.2.2.2.1
  have g2 := hG.2.1
  have g3 := hG.2.2.1
  unfold mj_bi at q
  split at q <;> first | omega | skip
  · rename_i ob hz
    obtain ⟨n0, e0, ⟨h0, h1⟩, q⟩ := mj_so_sp q
    have o0 := mj_ar_sp e0
    have a0' := mj_ws_at (ft := mj_ft) (ka := ka) (ad := ad) o0
    rw [mj_ent_arr (by decide)] at a0'
    have J := fun (w : Cond) (h : mj_Wd2 w) => mj_JA (A' := args) hts hC h
    have hb1 : S.2.2.2.2.1 + 1 ≤ 601024 ∧ S.2.2.2.2.2 + n0 ≤ 7293034 := by omega
    show W p l e R s m args below meth c H locs cells slots Z (F0 m pc ls (.ref (ad ob) :: r.map (mj_tr ad)))
    refine va_clone hx hb (by rw [hml]; exact hl.1.symm) hown (hwd _ (Or.inl w1)) (J _ (Or.inl (mj_jw 29 rfl))) (J _ (Or.inl (mj_jw 30 rfl))) (J _ (Or.inl (mj_jw 13 rfl))) (J _ (Or.inl (mj_jw 32 rfl))) (va_Nw.warmC hC.1 hcl) hKt hR.1 hR.2.1 hR.2.2.1 (fun q hq => Nat.le_trans g2 hq) ob 0 a0' rfl (va_nm_int (hKt.2 0 _ rfl).2) (fun i v hv => va_fit (F := fun i => .int (S.2.1 ob i)) (fun i _ => rfl) i v hv) (by omega) (by rw [mj_wg_sum]; omega) (by omega) (by show slots + n0 ≤ _; omega) hdec (fun q' H1 _ hP hD hS => ?_)
    have hu : S.1.length ≤ (S.1 ++ [(1000, n0)]).length := by simp
    have hwr : mj_wT S.1.length r := mj_wT.tail hwt
    rw [← mj_map_ad (ad' := mj_nA S ad q') hwr (fun i hi => mj_nA_old r4 hi), show Value.ref q' = mj_tr (mj_nA S ad q') (.ref S.1.length) by simp [mj_tr, mj_nA_new]]
    refine hK (mj_nA S ad q') lv (.ref S.1.length :: r) (S.1 ++ [(1000, n0)], mj_row S.2.1 S.1.length (S.2.1 ob), mj_row S.2.2.1 S.1.length (fun _ => 0), mj_row S.2.2.2.1 S.1.length (fun _ => none), S.2.2.2.2.1 + 1, S.2.2.2.2.2 + n0) H1 locs (cells + 1) (slots + n0) ls ?_ (hl.ad hwl (fun i hi => mj_nA_old r4 hi)) (hwl.up hu) ((hwr.up hu).push (Or.inl (by simp))) q
    obtain ⟨n1, n2, n3⟩ := mj_ws_new (ft := mj_ft) (ka := ka) (ad := ad) (k := 1000) (n := n0) (q := q') r4 hb1
    have e2 := mj_ws_set (ft := mj_ft) (ka := ka) (ad := mj_nA S ad q') (S := mj_nS S 1000 n0) (S' := (S.1 ++ [(1000, n0)], mj_row S.2.1 S.1.length (S.2.1 ob), mj_row S.2.2.1 S.1.length (fun _ => 0), mj_row S.2.2.2.1 S.1.length (fun _ => none), S.2.2.2.2.1 + 1, S.2.2.2.2.2 + n0)) (a := S.1.length) (kn := (1000, n0)) (by simp [mj_nS]) rfl (fun b hb => ⟨by simp [mj_nS, mj_row_ne hb], rfl, rfl⟩)
    rw [show mj_ws mj_ft ka (mj_nA S ad q') (mj_nS S 1000 n0) = _ from n1, List.set_append_right _ _ (by rw [mj_ws_len]; exact Nat.le_refl _), mj_ws_len, Nat.sub_self, List.set_cons_zero, mj_nA_new, mj_ent_arr (t := 0) (by decide)] at e2
    dsimp only at e2
    rw [show (mj_row S.2.1 S.1.length (S.2.1 ob)) S.1.length = S.2.1 ob from mj_row_eq] at e2
    refine ⟨by rw [e2]; exact hP, by rw [e2]; exact hD, hS, ⟨n2.1, fun a j q hq => n2.2 a j q hq⟩, ⟨?_, fun i hi => ?_⟩, ?_, ?_⟩
    · exact Nat.le_trans hR.2.2.2.2.1.1 hu
    · rw [mj_nA_old r4 (hi.up hR.2.2.2.2.1.1)]
      exact hR.2.2.2.2.1.2 i hi
    · show S.2.2.2.2.1 + 1 = E.2.2.2.2.1 + (cells + 1)
      omega
    · show S.2.2.2.2.2 + n0 = E.2.2.2.2.2 + (slots + n0)
      omega
  · exact q.elim
end MJB2
end
section
/-! THE CONTRACTS OF ALL METHODS, by depth -/
def mj_cokb (k : Nat) : Bool := match mj_cl[k]? with
  | some (_, T, N) => (List.range N).all (fun j => match parseFieldDescriptor (T j).2.2.1 with
    | some ty => decide (defaultValue ty = if mj_ft k j = 2 then .null else .int 0)
    | none => false) && (List.range N).all (fun a => (List.range N).all fun b => (a == b) || ((T a).2.1 != (T b).2.1))
  | none => false
theorem mj_cokA : ((List.range 11).all mj_cokb) = true := by decide +kernel
theorem mj_cokW : mj_cok mj_Wd mj_cl mj_ft := by
  intro k C T N h
  have hk : k < 11 := (List.getElem?_eq_some_iff.mp h).1
  have q := List.all_eq_true.mp mj_cokA k (List.mem_range.mpr hk)
  unfold mj_cokb at q
  rw [h] at q
  dsimp only at q
  rw [Bool.and_eq_true] at q
  refine ⟨by omega, (mj_cl_wd h).2.2, ⟨fun j => (parseFieldDescriptor (T j).2.2.1).getD .int, fun j hj => ?_, fun j hj => ?_⟩, fun a ha b hb hab => ?_⟩
  · have := List.all_eq_true.mp q.1 j (List.mem_range.mpr hj)
    split at this
    · rename_i ty hty
      show parseFieldDescriptor (T j).2.2.1 = some ((parseFieldDescriptor (T j).2.2.1).getD .int)
      rw [hty]
      rfl
    · cases this
  · have := List.all_eq_true.mp q.1 j (List.mem_range.mpr hj)
    split at this
    · rename_i ty hty
      show defaultValue ((parseFieldDescriptor (T j).2.2.1).getD .int) = _
      rw [hty]
      exact of_decide_eq_true this
    · cases this
  · have := List.all_eq_true.mp (List.all_eq_true.mp q.2 a (List.mem_range.mpr ha)) b (List.mem_range.mpr hb)
    simp only [Bool.or_eq_true, beq_iff_eq, bne_iff_ne] at this
    exact this.resolve_left hab
/-- only the last method is the law itself -/
theorem mj_lawA : ((List.range 196).all fun n => match mj_PD[n]? with
  | some y => decide (y.1 ≠ ⟨"MacroPressLaw", "law", "([I)Z"⟩)
  | none => false) = true := by decide +kernel
theorem mj_law196 {a : Nat} (ha : a ≠ 196) {y : mj_D} (h : mj_PD[a]? = some y) : y.1 ≠ ⟨"MacroPressLaw", "law", "([I)Z"⟩ := by
  have hl : a < 197 := (List.getElem?_eq_some_iff.mp h).1
  have := List.all_eq_true.mp mj_lawA a (List.mem_range.mpr (by omega))
  rw [h] at this
  exact of_decide_eq_true this
/-- the places of the four throws -/
def mj_thk (q : Nat × Nat × Nat × Nat × Nat × Nat × Nat) : Bool := match mj_PD[q.1]? with
  | some y => decide (decode y.2.1 q.2.1 = .ok (.new q.2.2.2.1, 3)) && decide (decode y.2.1 (q.2.1 + 3) = .ok (.dup, 1)) && decide (decode y.2.1 (q.2.1 + 4) = .ok (.ldc q.2.2.2.2.1, 2)) && decide (decode y.2.1 (q.2.1 + 6) = .ok (.invokespecial q.2.2.2.2.2.1, 3)) && decide (decode y.2.1 (q.2.1 + 9) = .ok (.athrow, 1)) && decide (y.2.2.2.2 = []) &&
    Bundle.fit (mj_ex q.2.2.2.2.2.2) && decide (Cond.classLink (mj_nm q.2.2.1) q.2.2.2.1 (mj_ex q.2.2.2.2.2.2) ∈ lw_tbl) && decide (Cond.instantiable (mj_ex q.2.2.2.2.2.2) 6 ∈ lw_tbl) && decide (Cond.initialized (mj_ex q.2.2.2.2.2.2) ∈ lw_tbl)
  | none => false
theorem mj_thkA : mj_thrs.all mj_thk = true := by decide +kernel
/-- what must hold at the start -/
def mj_Beg (l : Launch) (s0 : State) (A : Array Value) (D : va_G) (ka : Nat → ClassId) (a0 : Nat → Nat) (X : mj_X) : Prop :=
  l.flags = pinnedFlags ++ [noTraceFlag] ∧ (∀ w ∈ lw_tbl, w.before A s0 = true) ∧ va_K D mj_cl (mj_tys ka) s0 ∧ mj_Lit s0 a0 X ∧ (va_X (a0 900000) X.1.1 X.1.2 s0 s0.heap ∧ a0 900000 < s0.heap.size) ∧ va_Nw (.castable "[I" "java/lang/Cloneable") s0 ∧ (X.2.2.1 = 601024 ∧ X.2.2.2 = 7293034) ∧
  (∀ q ∈ mj_lits, ∃ tx, vk_R (mj_nm q.1) q.2.1 tx (a0 q.2.2) s0) ∧ (∀ q ∈ mj_thrs, mj_Thr A s0 (mj_nm q.2.2.1) q.2.2.2.2.2.1 (mj_ex q.2.2.2.2.2.2) ["java/lang/RuntimeException", "java/lang/Exception"] ∧ ∃ tx q0, vk_R (mj_nm q.2.2.1) q.2.2.2.2.1 tx q0 s0) ∧ (Cond.methodLinkNest "MacroPress" 11 ⟨"MacroPress$Progress", "<init>", "()V"⟩ "MacroPress").before A s0 = true
section MJA
variable {p : Program} {l : Launch} {e : Env} {R : Room} {s s0 : State} {m : MethodId} {args A : Array Value} {below : List Frame} {meth : Method} {c : Code}
variable {D : va_G} {ka : Nat → ClassId} {E : mj_S} {aE a0 : Nat → Nat} {ini : Prop} {X : mj_X} {hd : mj_H} {cls : mj_C} {o d M : Nat} {y : mj_D}
set_option maxHeartbeats 2000000 in
theorem mj_ins (hg : mj_Beg l s0 A D ka a0 X) (hB : mj_Cal p l R s s0 m args meth c D ka E aE a0 y.2.1 y.2.2.1 (y.1.name = "<init>") X hd cls o d) (hrt : meth.sig.returnType = y.2.2.2.1) (hbi : ∀ M as S Q, 900 ≤ M → cls M as S Q → mj_bi X M as S Q) (hM : mj_PD[M]? = some y) (hex : y.2.2.2.2 = [] → c.exceptionTable.toList = [])
    {x : mj_I} (h1 : mj_ck o y x = true) (h2 : mj_vx o M x = true) : mj_Iok p l e R s m args below meth c D mj_cl mj_ft ka s0.heap.size E aE y.2.2.1 X hd cls x := by
  obtain ⟨hfl, htb, hK0, hlit, -, hcst, hnum, hls, hthr, hnest⟩ := hg
  obtain ⟨hdec, hok⟩ := mj_ck_ok h1
  have hB' := hB
  obtain ⟨hx, hb, hml, hown, hlk, hwd, hself, hH, hG, hC, ha0, hcon, hf, hlo, hR1, hR2, hKt, hmh⟩ := hB
  have hts : ∀ w, mj_Wd2 w → w.before A s0 = true := fun w hw => mj_Wd2_at htb hw
  refine mj_Iok_in (Wd := mj_Wd) hx hb hml hown hlk hrt (fun w hw => hwd w (Or.inl hw)) hKt mj_cokW hG hdec hok ?_ ?_ ?_
  · intro i hi ht
    unfold mj_vx at h2
    rw [hi] at h2
    simp only [Bool.or_eq_true, beq_iff_eq] at h2
    have h3 := h2.resolve_left ht
    obtain ⟨tx, htx⟩ := hls _ (List.contains_iff_mem.mp h3)
    have h900 : 900000 ≤ x.2.2.2.1.1 := by
      unfold mj_iok at hok
      rw [hi] at hok
      rcases hok.2 with q | q
      · exact absurd q.1 ht
      · exact q.2
    refine ⟨tx, ?_⟩
    rw [ha0 _ h900]
    exact htx.warm hC.1
  · intro n hn
    obtain ⟨pc, i, len, ⟨a, b, t⟩, k, kl, sw⟩ := x
    dsimp only at hn hdec
    unfold mj_iok at hok
    unfold mj_vx at h2
    rcases hn with rfl | rfl | ⟨rfl, ht⟩
    · dsimp only at hok h2
      subst hok
      simp only [Bool.and_eq_true, Bool.or_eq_true, beq_iff_eq, bne_iff_ne, Nat.blt_eq] at h2
      obtain ⟨⟨h3, h4⟩, h5⟩ := h2
      rcases h5 with h5 | ⟨h5, h6⟩
      · exact mj_Iok_static hB' hdec rfl h3 h5 (fun y hy => mj_law196 h4 hy)
      · have w := mj_zc_wd mj_MLok _ (List.contains_iff_mem.mp h6)
        rcases h5 with (rfl | rfl) | rfl
        · exact mj_Iok_abs hB' hbi hdec w (mj_jw 21 rfl) (mj_jw 27 rfl) ⟨by decide +kernel, rfl⟩
        · exact mj_Iok_max hB' hbi hdec w (mj_jw 22 rfl) (mj_jw 27 rfl) ⟨by decide +kernel, rfl⟩
        · exact mj_Iok_copy hB' hbi hdec w (mj_jw 31 rfl) (mj_jw 23 rfl) (mj_jw 28 rfl)
    · dsimp only at hok h2
      subst hok
      simp only [Bool.and_eq_true, Bool.or_eq_true, beq_iff_eq, bne_iff_ne, Nat.blt_eq] at h2
      obtain ⟨⟨h3, h4⟩, h5⟩ := h2
      rcases h5 with h5 | ⟨h5, h6⟩
      · exact mj_Iok_virtual hB' hdec rfl h3 h5 (fun y hy => mj_law196 h4 hy)
      · have w := mj_zc_wd mj_MLok _ (List.contains_iff_mem.mp h6)
        have ht : t = 999 := by
          unfold mj_vk at h3
          dsimp only at h3
          simp only [Bool.and_eq_true, Bool.or_eq_true, beq_iff_eq, bne_iff_ne, Nat.blt_eq] at h3
          rcases h3 with h3 | h3
          · exact h3.1
          · exact absurd h3.1.1.2 (by omega)
        rcases h5 with (rfl | rfl) | rfl
        · exact mj_Iok_clone hB' hbi hts hcst hdec ht w
        · exact mj_Iok_len hB' hbi hts hlit hdec ht w
        · exact mj_Iok_chat hB' hbi hts hlit hdec ht w
    · dsimp only at hok h2 ht
      obtain ⟨rfl, -⟩ := hok
      subst ht
      simp only [Bool.and_eq_true, bne_iff_ne] at h2
      exact mj_Iok_special hB' (mj_keepN hC hnest) hdec rfl h2.1 (fun y hy => mj_law196 h2.2 hy)
  · intro n hn ht
    unfold mj_vx at h2
    rw [hn] at h2
    simp only [Bool.or_eq_true, beq_iff_eq] at h2
    obtain ⟨q, hq, h3⟩ := List.any_eq_true.mp (h2.resolve_left ht)
    simp only [Bool.and_eq_true, beq_iff_eq] at h3
    obtain ⟨⟨⟨⟨e1, e2⟩, e3⟩, e4⟩, e5⟩ := h3
    have h4 := List.all_eq_true.mp mj_thkA q hq
    obtain ⟨t1, tx, q0, t2⟩ := hthr q hq
    unfold mj_thk at h4
    rw [e1, hM] at h4
    simp only [Bool.and_eq_true, decide_eq_true_eq] at h4
    obtain ⟨⟨⟨⟨⟨⟨⟨⟨⟨k1, k2⟩, k3⟩, k4⟩, k5⟩, k6⟩, k7⟩, k8⟩, k9⟩, k10⟩ := h4
    rw [e2] at k1 k2 k3 k4 k5
    rw [e5] at k7 k8 k9 k10 t1
    rw [e3] at k8 t1 t2
    rw [e4] at k1 k8
    exact mj_Iok_throw (Wd := mj_Wd) (A := A) hx hb hml hown hlk (fun w hw => hwd w (Or.inl hw)) hG hfl hC rfl hn ht t1 k7 ⟨k8, rfl⟩ ⟨k9, rfl⟩ ⟨k10, rfl⟩ (t2.warm hC.1) k1 k2 k3 k4 k5 (hex k6)
end MJA
end
section
/-! EVERY METHOD'S CONTRACT, at every depth -/
theorem mj_bok_of {Ok : mj_I → Prop} {o n : Nat} {y : mj_D} (hOk : ∀ x, mj_ck o y x = true → mj_vx o n x = true → Ok x) : ∀ (is : List mj_I) (pc e : Nat), mj_bc o y pc is e = true → (is.all fun x => mj_vx o n x) = true → mj_bok Ok pc is e
  | [], pc, e, h, _ => by
    unfold mj_bc at h
    exact beq_iff_eq.mp h
  | x :: is, pc, e, h, h2 => by
    unfold mj_bc at h
    rw [Bool.and_eq_true, Bool.and_eq_true, beq_iff_eq] at h
    rw [List.all_cons, Bool.and_eq_true] at h2
    exact ⟨h.1.1, hOk x h.1.2 h2.1, mj_bok_of hOk is _ e h.2 h2.2⟩
theorem mj_hc_ok {o : Nat} {y : mj_D} {hs : List (Nat × Nat × Nat × Nat × Nat × Nat)} {c : Code} (h : mj_hc o y hs = true) (hext : c.exceptionTable.toList.map (fun h => (h.startPc, h.endPc, h.handlerPc, h.catchType)) = y.2.2.2.2) : mj_Hok mj_Wd2 (mj_nm o) y.2.1 c y.2.2.1 (mj_hd hs) := by
  unfold mj_hc at h
  rw [← hext] at h
  generalize hL : c.exceptionTable.toList = L at h
  intro pc
  match hs, L, h, hL with
  | [], [], _, hL =>
    intro x hx
    rw [hL] at hx
    cases hx
  | [(f, t, hp, k, i, h')], [x], h, hL =>
    simp only [List.map_cons, List.map_nil, Bool.and_eq_true, beq_iff_eq, bne_iff_ne, decide_eq_true_eq] at h
    obtain ⟨⟨⟨⟨⟨⟨⟨⟨h1, h2⟩, h3⟩, h4⟩, h5⟩, h6⟩, h7⟩, h8⟩, h9⟩ := h
    by_cases hc : f ≤ pc ∧ pc < t
    · have e : mj_hd [(f, t, hp, k, i, h')] pc = some (k, i, h') := by
        unfold mj_hd
        rw [if_pos hc]
      rw [e]
      refine ⟨x, hL, ?_, h4, Or.inl ⟨h5, rfl⟩, by simpa using h6, Or.inl ⟨3, h8, h7.symm, h9⟩⟩
      show (decide (x.startPc ≤ pc) && decide (pc < x.endPc)) = true
      rw [← h1, ← h2, Bool.and_eq_true, decide_eq_true_eq, decide_eq_true_eq]
      exact hc
    · have e : mj_hd [(f, t, hp, k, i, h')] pc = none := by
        unfold mj_hd
        rw [if_neg hc]
        rfl
      rw [e]
      intro z hz
      rw [hL] at hz
      cases List.mem_singleton.mp hz
      show (decide (x.startPc ≤ pc) && decide (pc < x.endPc)) = false
      rw [← h1, ← h2, Bool.and_eq_false_iff, decide_eq_false_iff_not, decide_eq_false_iff_not]
      omega
  | [], x :: L, h, _ => simp at h
  | [a], [], h, _ => simp at h
  | [a], x :: z :: L, h, _ => simp at h
  | a :: b :: hs, L, h, _ => simp at h
theorem mj_PDlen : mj_P.length = mj_PD.length := by decide +kernel
theorem mj_law_at : (mj_PD[196]?).map (fun y => y.1) = some ⟨"MacroPressLaw", "law", "([I)Z"⟩ := by decide +kernel
theorem mj_hmh (n : Nat) (y : mj_D) (h : mj_PD[n]? = some y) : mj_mhc n = true ∨ y.1 = ⟨"MacroPressLaw", "law", "([I)Z"⟩ := by
  have hl : n < mj_PD.length := (List.getElem?_eq_some_iff.mp h).1
  rw [← mj_PDlen] at hl
  obtain ⟨z, hz⟩ : ∃ z, mj_P[n]? = some z := ⟨_, List.getElem?_eq_getElem hl⟩
  have hma := (mj_chk hz).2
  unfold mj_ma at hma
  rw [hz, h] at hma
  simp only [Bool.and_eq_true, Bool.or_eq_true, beq_iff_eq] at hma
  rcases hma.1.1.1 with rfl | q
  · have := mj_law_at
    rw [h] at this
    exact Or.inr (Option.some.inj this)
  · exact Or.inl q
theorem mj_bi_of {X : mj_X} {d M : Nat} {as : List Value} {S : mj_S} {Q : mj_Q} (hM : 900 ≤ M) (h : mj_call X mj_P (mj_bi X) d M as S Q) : mj_bi X M as S Q := by
  cases d with
  | zero => exact h.elim
  | succ d =>
    unfold mj_call at h
    rw [if_pos hM] at h
    exact h
section MJCA
variable {l : Launch} {s0 : State} {A : Array Value} {D : va_G} {ka : Nat → ClassId} {a0 : Nat → Nat} {X : mj_X}
theorem mj_Gr_of (hg : mj_Beg l s0 A D ka a0 X) {s : State} (hC : mj_Cst s0 s) {meth : Method} {d : Nat} {S : mj_S} {ad : Nat → Nat} {nm : String} (had : ∀ i, 900000 ≤ i → ad i = a0 i) (hnm : meth.name = nm) : mj_Gr (mj_rm X d S) s meth s0.heap.size S ad X (nm = "<init>") := by
  obtain ⟨hfl, htb, hK0, hlit, hscr, hcst, hnum, hls, hthr, hnest⟩ := hg
  have e0 : ad 900000 = a0 900000 := had _ (Nat.le_refl _)
  refine ⟨fun q => hnm.trans q, hC.2.1, ⟨?_, ?_⟩, hnum, ⟨?_, ?_⟩, ?_, ?_, ?_⟩
  · show X.2.2.1 ≤ S.2.2.2.2.1 + (X.2.2.1 - S.2.2.2.2.1)
    omega
  · show X.2.2.2 ≤ S.2.2.2.2.2 + (X.2.2.2 - S.2.2.2.2.2)
    omega
  · show 8 ≤ d + 8
    omega
  · exact Nat.le_add_left 300 (40 * d)
  · rw [e0]
    exact (va_X.moved hC.1.alike hscr.1).kept (hC.2.2 _ hscr.2)
  · rw [e0]
    exact Nat.lt_of_lt_of_le hscr.2 hC.2.1
  · rw [e0]
    exact Nat.not_le.mpr hscr.2
theorem mj_con_all (hg : mj_Beg l s0 A D ka a0 X) : ∀ (d M : Nat) (y : mj_D) (as : List Value) (S : mj_S) (Q : mj_Q), M < 900 → mj_PD[M]? = some y → mj_call X mj_P (mj_bi X) d M as S Q → mj_Con l s0 D mj_cl mj_ft ka a0 X d y as S Q
  | 0, _, _, _, _, _, _, _, h => h.elim
  | d + 1, M, y, as, S, Q, hM, hy, h => by
    unfold mj_call at h
    rw [if_neg (Nat.not_le.mpr hM)] at h
    obtain ⟨z, hz, h⟩ := mj_so_sp h
    obtain ⟨hble, hrn⟩ := mj_tt_sp h
    intro ad had hwS hwT
    obtain ⟨hmc, hma⟩ := mj_chk hz
    generalize mj_ow.getD M 0 = o at hmc hma
    unfold mj_mc at hmc
    rw [hz, hy] at hmc
    simp only [Bool.and_eq_true, beq_iff_eq] at hmc
    obtain ⟨⟨e1, e2⟩, hbc⟩ := hmc
    unfold mj_ma at hma
    rw [hz, hy] at hma
    simp only [Bool.and_eq_true] at hma
    obtain ⟨⟨⟨-, hhc⟩, hpl⟩, hvx⟩ := hma
    refine mj_con_body (d := d + 1) (k := z.1 - (mj_en as).length) hpl hwS hwT (by rw [← e1]; exact Nat.le_of_ble_eq_true hble) hrn ?_
    intro p e s m args below meth c hE b hb
    obtain ⟨hx, hbt, hml, hown, hlk, hrt, hC, hnm, hext⟩ := hE
    have hnum := hg.2.2.2.2.2.2.1
    have hB : mj_Cal p l (mj_rm X (d + 1) S) s s0 m args meth c D ka S ad a0 y.2.1 y.2.2.1 (y.1.name = "<init>") X (mj_hd z.2.1) (mj_call X mj_P (mj_bi X) d) o d :=
      ⟨hx, hbt, hml, by rw [← e2]; exact hown, hlk, fun w hw => mj_keepG hC (mj_Wd2_good hw) (mj_Wd2_at hg.2.1 hw), fun k cN _ => va_asg _ _, mj_hc_ok hhc hext, mj_Gr_of hg hC had hnm, hC, had, fun M y as S Q hM hy h => mj_con_all hg d M y as S Q hM hy h, by show d + 9 ≤ d + 1 + 8; omega, by show 40 * d + 340 ≤ 40 * (d + 1) + 300; rw [Nat.mul_succ, Nat.add_assoc]; exact Nat.le_refl _, ⟨rfl, rfl⟩, ⟨by rw [hnum.1]; exact hwS.1.2.2.1, by rw [hnum.2]; exact hwS.1.2.2.2⟩, hg.2.2.1.moved hC.1.alike, mj_hmh⟩
    exact mj_bok_of (fun x h1 h2 => mj_ins hg hB hrt (fun M as S Q hM h => mj_bi_of hM h) hy (fun he => by rw [he] at hext; exact List.map_eq_nil_iff.mp hext) h1 h2) b.2.2.1 b.1 b.2.2.2 (List.all_eq_true.mp hbc b hb) (List.all_eq_true.mp hvx b hb)
end MJCA
end
section
/-! THE START: what holds where the law is entered -/
def mj_fc : List Cond := flatC (.and given_1 narrow_1)
def mj_vb (own : String) (k : Nat) : Term := .field (.string own k) "java/lang/String" "value" "[B"
def mj_le (own : String) (k : Nat) : List Int32 → Nat → List Cond → Bool
  | [], _, _ => true
  | _ :: _, _, [] => false
  | t :: ts, j, c :: cs => decide (c = .eq (.elem (mj_vb own k) (.int (Int32.ofNat j))) (.int t)) && mj_le own k ts (j + 1) cs
theorem mj_le_ok {own : String} {k : Nat} : ∀ (ts : List Int32) (j : Nat) (cs : List Cond), mj_le own k ts j cs = true → ∀ i, i < ts.length → Cond.eq (.elem (mj_vb own k) (.int (Int32.ofNat (j + i)))) (.int (ts.getD i 0)) ∈ cs
  | [], _, _, _, i, hi => absurd hi (Nat.not_lt_zero i)
  | _ :: _, _, [], h, _, _ => by
    unfold mj_le at h
    cases h
  | t :: ts, j, c :: cs, h, i, hi => by
    unfold mj_le at h
    rw [Bool.and_eq_true, decide_eq_true_eq] at h
    cases i with
    | zero =>
      rw [h.1]
      exact List.mem_cons_self
    | succ i =>
      have := mj_le_ok ts (j + 1) cs h.2 i (Nat.lt_of_succ_lt_succ hi)
      rw [show j + 1 + i = j + (i + 1) by omega] at this
      exact List.mem_cons_of_mem _ this
def mj_lt (own : String) (k p : Nat) (tx : List Int32) : Bool := decide (mj_fc[p]? = some (.exactly (.string own k) "java/lang/String")) && decide (mj_fc[p + 1]? = some (.eq (.field (.string own k) "java/lang/String" "coder" "B") (.int 0))) && decide (mj_fc[p + 2]? = some (.arrayOf (mj_vb own k) .byte)) && decide (mj_fc[p + 3]? = some (.eq (.length (mj_vb own k)) (.int (Int32.ofNat tx.length)))) && mj_le own k tx 0 (mj_fc.drop (p + 4))
theorem mj_txt_of {s : State} {args : Array Value} (hfl : ∀ w ∈ mj_fc, w.before args s = true) {own : String} {k p : Nat} {tx : List Int32} (h : mj_lt own k p tx = true) (hn : tx.length < 2 ^ 31) : ∃ ad : Nat, (Term.string own k).eval args s none [] s = some (.ref ad) ∧ mj_Txt s ad tx := by
  unfold mj_lt at h
  simp only [Bool.and_eq_true, decide_eq_true_eq] at h
  obtain ⟨⟨⟨⟨h1, h2⟩, h3⟩, h4⟩, h5⟩ := h
  obtain ⟨adK, adV, q, he⟩ := vk_Sof (args := args) (s := s) (N := 1) (tm := fun _ => .string own k) (len := [tx.length]) (byt := [tx]) (A := fun q => s.heap.size ≤ q)
    (fun i hi => by obtain rfl : i = 0 := by omega
                    exact hn)
    (fun i _ => hfl _ (List.mem_of_getElem? h1)) (fun i _ => hfl _ (List.mem_of_getElem? h2)) (fun i _ => hfl _ (List.mem_of_getElem? h3))
    (fun i hi => by obtain rfl : i = 0 := by omega
                    exact hfl _ (List.mem_of_getElem? h4))
    (fun i hi j hj => by obtain rfl : i = 0 := by omega
                         have := mj_le_ok tx 0 _ h5 j hj
                         rw [Nat.zero_add] at this
                         exact hfl _ (List.mem_of_mem_drop this))
    (fun i j hi hj hij => absurd (show i = j by omega) hij) (fun a ha => Nat.not_le.mpr ha)
  have q0 := q.1 0 (by decide)
  exact ⟨adK 0, he 0 (by decide), adV 0, q0.1, q0.2.1, q0.2.2.1, q0.2.2.2⟩
def mj_t1 : List Int32 := [105, 118, 120, 108, 99, 100, 109]
def mj_t2 : List Int32 := [101, 120, 112, 97, 110, 100, 97, 102, 116, 101, 114, 32, 110, 111, 101, 120, 112, 97, 110, 100, 32, 99, 115, 110, 97, 109, 101, 32, 115, 116, 114, 105, 110, 103, 32, 110, 117, 109, 98, 101, 114, 32, 114, 111, 109, 97, 110, 110, 117, 109, 101, 114, 97, 108, 32, 116, 104, 101, 32, 105, 102, 32, 105, 102, 99, 97, 116, 32, 105, 102, 120, 32, 105, 102, 110, 117, 109, 32, 105, 102, 111, 100, 100, 32, 105, 102, 116, 114, 117, 101, 32, 105, 102, 102, 97, 108, 115, 101, 32, 105, 102, 99, 97, 115, 101, 32, 101, 108, 115, 101, 32, 111, 114, 32, 102, 105, 32, 114, 101, 108, 97, 120, 32, 112, 97, 114, 32, 98, 101, 103, 105, 110, 103, 114, 111, 117, 112, 32, 101, 110, 100, 103, 114, 111, 117, 112, 32, 101, 110, 100, 99, 115, 110, 97, 109, 101, 32, 101, 110, 100, 32, 100, 101, 102, 32, 101, 100, 101, 102, 32, 103, 100, 101, 102, 32, 120, 100, 101, 102, 32, 108, 101, 116, 32, 99, 104, 97, 114, 100, 101, 102, 32, 99, 111, 117, 110, 116, 32, 99, 97, 116, 99, 111, 100, 101, 32, 97, 100, 118, 97, 110, 99, 101, 32, 109, 117, 108, 116, 105, 112, 108, 121, 32, 100, 105, 118, 105, 100, 101, 32, 103, 108, 111, 98, 97, 108, 32]
def mj_t3 : List Int32 := [101, 120, 112, 97, 110, 100, 97, 102, 116, 101, 114, 32, 110, 111, 101, 120, 112, 97, 110, 100, 32, 99, 115, 110, 97, 109, 101, 32, 115, 116, 114, 105, 110, 103, 32, 110, 117, 109, 98, 101, 114, 32, 114, 111, 109, 97, 110, 110, 117, 109, 101, 114, 97, 108, 32, 116, 104, 101, 32, 105, 102, 32, 105, 102, 99, 97, 116, 32, 105, 102, 120, 32, 105, 102, 110, 117, 109, 32, 105, 102, 111, 100, 100, 32, 105, 102, 116, 114, 117, 101, 32, 105, 102, 102, 97, 108, 115, 101, 32, 105, 102, 99, 97, 115, 101, 32, 101, 108, 115, 101, 32, 111, 114, 32, 102, 105, 32, 114, 101, 108, 97, 120, 32, 112, 97, 114, 32, 98, 101, 103, 105, 110, 103, 114, 111, 117, 112, 32, 101, 110, 100, 103, 114, 111, 117, 112, 32, 101, 110, 100, 99, 115, 110, 97, 109, 101, 32, 100, 101, 102, 32, 101, 100, 101, 102, 32, 103, 100, 101, 102, 32, 120, 100, 101, 102, 32, 108, 101, 116, 32, 99, 104, 97, 114, 100, 101, 102, 32, 99, 111, 117, 110, 116, 32, 99, 97, 116, 99, 111, 100, 101, 32, 97, 100, 118, 97, 110, 99, 101, 32, 109, 117, 108, 116, 105, 112, 108, 121, 32, 100, 105, 118, 105, 100, 101, 32, 103, 108, 111, 98, 97, 108, 32, 101, 110, 100, 32]
theorem mj_l1 : mj_lt "MacroPress$Expander" 204 342 mj_t1 = true := by decide +kernel
theorem mj_l2 : mj_lt "MacroPress$Names" 10 50 mj_t2 = true := by decide +kernel
theorem mj_l3 : mj_lt "MacroPressModel" 137 400 mj_t3 = true := by decide +kernel
def mj_tok (tx : List Int32) : Bool := Nat.blt tx.length 1000 && (0 :: tx).all fun x => decide (((x &&& 255).toUInt32 % 65536).toInt32 = x) && decide (x.toUInt32.toUInt16.toUInt32.toInt32 = x)
theorem mj_toks : [mj_t1, mj_t2, mj_t3].all mj_tok = true := by decide +kernel
theorem mj_getD0 {tx : List Int32} (j : Nat) : tx.getD j 0 ∈ (0 : Int32) :: tx := by
  rw [List.getD_eq_getElem?_getD]
  cases h : tx[j]? with
  | none => exact List.mem_cons_self
  | some x => exact List.mem_cons_of_mem _ (List.mem_of_getElem? h)
theorem mj_tok_ok {tx : List Int32} (h : mj_tok tx = true) : tx.length < 2 ^ 31 ∧ ∀ j, ((tx.getD j 0 &&& 255).toUInt32 % 65536).toInt32 = tx.getD j 0 ∧ narrow .char (.int (tx.getD j 0)) = .int (tx.getD j 0) := by
  unfold mj_tok at h
  rw [Bool.and_eq_true, Nat.blt_eq] at h
  refine ⟨Nat.lt_trans h.1 (by decide), fun j => ?_⟩
  have := List.all_eq_true.mp h.2 _ (mj_getD0 j)
  rw [Bool.and_eq_true, decide_eq_true_eq, decide_eq_true_eq] at this
  exact ⟨this.1, congrArg Value.int this.2⟩
/-- what an exception's words stand on -/
def mj_aw (w : Cond) : Bool := (decide (w ∈ lw_tbl) && (goodWord w || (w.keepsFace && w.onTables))) || match w with
  | .laysStatic _ _ _ => decide (w ∈ lw_tbl)
  | .isRef (.static o n d) => decide (w ∈ mj_fc) && decide (Cond.laysStatic o n d ∈ lw_tbl)
  | _ => false
theorem mj_aw_ok {s : State} {A : Array Value} (hts : ∀ w ∈ lw_tbl, w.before A s = true) (hfl : ∀ w ∈ mj_fc, w.before A s = true) {w : Cond} (h : mj_aw w = true) : w.before A s = true ∧ (goodWord w = true ∨ (w.keepsFace = true ∧ w.onTables = true) ∨ (∃ o n d, w = .laysStatic o n d) ∨ ∃ o n d, w = .isRef (.static o n d) ∧ (Cond.laysStatic o n d).before A s = true) := by
  unfold mj_aw at h
  rw [Bool.or_eq_true] at h
  rcases h with h | h
  · rw [Bool.and_eq_true, decide_eq_true_eq, Bool.or_eq_true, Bool.and_eq_true] at h
    refine ⟨hts _ h.1, ?_⟩
    rcases h.2 with q | q
    · exact Or.inl q
    · exact Or.inr (Or.inl q)
  · split at h
    · rename_i o n d
      exact ⟨hts _ (of_decide_eq_true h), Or.inr (Or.inr (Or.inl ⟨_, _, _, rfl⟩))⟩
    · rename_i o n d
      rw [Bool.and_eq_true, decide_eq_true_eq, decide_eq_true_eq] at h
      exact ⟨hfl _ h.1, Or.inr (Or.inr (Or.inr ⟨_, _, _, rfl, hts _ h.2⟩))⟩
    · cases h
end
section
/-! THE START, put together -/
theorem mj_aw0 : (Bundle.ownAtoms "MacroPress" 135 (mj_ex 502) ["java/lang/RuntimeException", "java/lang/Exception"]).all mj_aw = true := by decide +kernel
theorem mj_aw1 : (Bundle.ownAtoms "MacroPress" 151 (mj_ex 501) ["java/lang/RuntimeException", "java/lang/Exception"]).all mj_aw = true := by decide +kernel
theorem mj_aw2 : (Bundle.ownAtoms "MacroPress$Progress" 32 (mj_ex 500) ["java/lang/RuntimeException", "java/lang/Exception"]).all mj_aw = true := by decide +kernel
theorem mj_sw0 : Cond.stringRef "MacroPress" 133 "no such byte" ∈ lw_tbl := by decide +kernel
theorem mj_sw1 : Cond.stringRef "MacroPress" 142 "no such counter" ∈ lw_tbl := by decide +kernel
theorem mj_sw2 : Cond.stringRef "MacroPress" 149 "ticks are 0 .. 30000" ∈ lw_tbl := by decide +kernel
theorem mj_sw3 : Cond.stringRef "MacroPress$Progress" 30 "a fault ends the run" ∈ lw_tbl := by decide +kernel
theorem mj_sw4 : Cond.stringRef "MacroPress$Expander" 204 "ivxlcdm" ∈ lw_tbl := by decide +kernel
theorem mj_sw5 : Cond.stringRef "MacroPress$Names" 10 "expandafter noexpand csname string number romannumeral the if ifcat ifx ifnum ifodd iftrue iffalse ifcase else or fi relax par begingroup endgroup endcsname end def edef gdef xdef let chardef count catcode advance multiply divide global " ∈ lw_tbl := by decide +kernel
theorem mj_sw6 : Cond.stringRef "MacroPressModel" 137 "expandafter noexpand csname string number romannumeral the if ifcat ifx ifnum ifodd iftrue iffalse ifcase else or fi relax par begingroup endgroup endcsname def edef gdef xdef let chardef count catcode advance multiply divide global end " ∈ lw_tbl := by decide +kernel
theorem mj_bw0 : Cond.castable "[I" "java/lang/Cloneable" ∈ lw_tbl := by decide +kernel
theorem mj_bw1 : Cond.methodLinkNest "MacroPress" 11 ⟨"MacroPress$Progress", "<init>", "()V"⟩ "MacroPress" ∈ lw_tbl := by decide +kernel
theorem mj_bw2 : Cond.laysStatic "java/lang/String" "COMPACT_STRINGS" "Z" ∈ lw_tbl := by decide +kernel
theorem mj_bw3 : Cond.laysStatic "jdk/internal/util/Preconditions" "SIOOBE_FORMATTER" "Ljava/util/function/BiFunction;" ∈ lw_tbl := by decide +kernel
theorem mj_bw4 : Cond.initialized "java/lang/String" ∈ lw_tbl := by decide +kernel
theorem mj_bw5 : Cond.initialized "jdk/internal/util/Preconditions" ∈ lw_tbl := by decide +kernel
theorem mj_fw4 : mj_fc[4]? = some (.eq (.static "java/lang/String" "COMPACT_STRINGS" "Z") (.int 1)) := by decide +kernel
theorem mj_fw5 : mj_fc[5]? = some (.isRef (.static "jdk/internal/util/Preconditions" "SIOOBE_FORMATTER" "Ljava/util/function/BiFunction;")) := by decide +kernel
theorem mj_fx0 : mj_fc[356]? = some (.exactly (.string "MacroPress" 133) "java/lang/String") := by decide +kernel
theorem mj_fx1 : mj_fc[376]? = some (.exactly (.string "MacroPress" 142) "java/lang/String") := by decide +kernel
theorem mj_fx2 : mj_fc[291]? = some (.exactly (.string "MacroPress" 149) "java/lang/String") := by decide +kernel
theorem mj_fx3 : mj_fc[316]? = some (.exactly (.string "MacroPress$Progress" 30) "java/lang/String") := by decide +kernel
section MJBEG
variable {l : Launch} {s : State} {A : Array Value}
theorem mj_str_of (hts : ∀ w ∈ lw_tbl, w.before A s = true) (hfl : ∀ w ∈ mj_fc, w.before A s = true) {own tx : String} {k p : Nat} (h1 : mj_fc[p]? = some (.exactly (.string own k) "java/lang/String")) (h2 : Cond.stringRef own k tx ∈ lw_tbl) : ∃ (tx : String) (q0 : Nat), vk_R own k tx q0 s := by
  obtain ⟨a, c, cA, kA, q1, -⟩ := Cond.exactly_spec (args := A) (first := s) (o := none) (s := s) (idx := []) (t := .string own k) (cls := "java/lang/String") (hfl _ (List.mem_of_getElem? h1))
  exact ⟨tx, a, vk_R.of (hts _ h2) q1⟩
theorem mj_Str_of (hts : ∀ w ∈ lw_tbl, w.before A s = true) (hfl : ∀ w ∈ mj_fc, w.before A s = true) : mj_Str s := by
  refine ⟨va_Zof (hts _ mj_bw2) (hts _ mj_bw4) (va_eqt (hfl _ (List.mem_of_getElem? mj_fw4))) (fun a ha => Nat.not_le.mpr ha), ?_⟩
  obtain ⟨v, hv, hr⟩ := Cond.isRef_spec (args := A) (first := s) (o := none) (s := s) (idx := []) (hfl _ (List.mem_of_getElem? mj_fw5))
  refine ⟨v, ?_, va_Zof (hts _ mj_bw3) (hts _ mj_bw5) hv (fun a ha => Nat.not_le.mpr ha)⟩
  cases v with
  | null => exact Or.inl rfl
  | ref t => exact Or.inr ⟨t, rfl⟩
  | _ => cases hr
theorem mj_arr_of (hts : ∀ w ∈ lw_tbl, w.before A s = true) (t : ArrayType) (ht : t = .int ∨ t = .long ∨ t = .char ∨ t = .boolean ∨ t = .byte) : ∃ cA : ClassId, ArrOfT s cA (newarray.typeOf t) ∧ s.vm.findClass ("[" ++ (newarray.typeOf t).toString) = some cA := by
  obtain ⟨c, k, comp, h1, h2, h3⟩ := Cond.arrayClass_spec (args := A) (first := s) (o := none) (s := s) (idx := []) (hts _ (mj_AC t ht).1)
  exact ⟨c, fun n z => ⟨fun k h => (by cases h), k, h2, comp, h3⟩, h1⟩
theorem mj_K_of (hts : ∀ w ∈ lw_tbl, w.before A s = true) : ∃ (D : va_G) (ka : Nat → ClassId), va_K D mj_cl (mj_tys ka) s := by
  have hc : ∀ k : Nat, ∃ q : ClassId × (Nat → Nat), ∀ r, mj_cl[k]? = some r → u_Kn s r.1 r.2.1 r.2.2 q.1 q.2 := by
    intro k
    cases h : mj_cl[k]? with
    | none => exact ⟨(0, fun _ => 0), fun r hr => by cases hr⟩
    | some r =>
      obtain ⟨C, T, N⟩ := r
      obtain ⟨w1, w2, w3⟩ := mj_cl_wd h
      obtain ⟨cC, iS, hk⟩ := u_known (C := C) (T := T) (N := N) (n := N) hts (fun w hw => (w3 w hw).1) (hts _ w1.1)
      exact ⟨(cC, iS), fun r hr => by cases hr; exact hk⟩
  obtain ⟨f, hf⟩ := Classical.axiomOfChoice hc
  obtain ⟨c0, p0, q0⟩ := mj_arr_of hts .int (by simp)
  obtain ⟨c1, p1, q1⟩ := mj_arr_of hts .long (by simp)
  obtain ⟨c2, p2, q2⟩ := mj_arr_of hts .char (by simp)
  obtain ⟨c3, p3, q3⟩ := mj_arr_of hts .boolean (by simp)
  obtain ⟨c4, p4, q4⟩ := mj_arr_of hts .byte (by simp)
  refine ⟨(fun k => (f k).1, fun k => (f k).2), fun i => match i with
    | 0 => c0
    | 1 => c1
    | 2 => c2
    | 3 => c3
    | _ => c4, fun c q hq => hf c q hq, fun k q hk => ?_⟩
  match k, hk with
  | 0, hk => cases hk; exact ⟨p0, q0⟩
  | 1, hk => cases hk; exact ⟨p1, q1⟩
  | 2, hk => cases hk; exact ⟨p2, q2⟩
  | 3, hk => cases hk; exact ⟨p3, q3⟩
  | 4, hk => cases hk; exact ⟨p4, q4⟩
  | k + 5, hk => cases hk
theorem mj_beg {b L : Nat} {xs : Nat → Int32} (hfl0 : l.flags = pinnedFlags ++ [noTraceFlag]) (hts : ∀ w ∈ lw_tbl, w.before A s = true) (hgv : (Cond.and given_1 narrow_1).before A s = true) (hX : va_X b L xs s s.heap) (hb : b < s.heap.size) :
    ∃ (D : va_G) (ka : Nat → ClassId) (a0 : Nat → Nat), a0 900000 = b ∧ mj_Beg l s A D ka a0 ((L, xs), [mj_t1, mj_t2, mj_t3], 601024, 7293034) := by
  have hfl : ∀ w ∈ mj_fc, w.before A s = true := flat_of_before _ hgv
  obtain ⟨D, ka, hK⟩ := mj_K_of hts
  have tk : ∀ t ∈ [mj_t1, mj_t2, mj_t3], mj_tok t = true := fun t ht => List.all_eq_true.mp mj_toks t ht
  have k1 := mj_tok_ok (tk mj_t1 (by simp))
  have k2 := mj_tok_ok (tk mj_t2 (by simp))
  have k3 := mj_tok_ok (tk mj_t3 (by simp))
  obtain ⟨d1, e1, x1⟩ := mj_txt_of hfl mj_l1 k1.1
  obtain ⟨d2, e2, x2⟩ := mj_txt_of hfl mj_l2 k2.1
  obtain ⟨d3, e3, x3⟩ := mj_txt_of hfl mj_l3 k3.1
  have h0 : ∀ i : Nat, ∃ a : Nat, (i = 900000 → a = b) ∧ (i = 900001 → a = d1) ∧ (i = 900002 → a = d2) ∧ (i = 900003 → a = d3) := by
    intro i
    by_cases i0 : i = 900000
    · exact ⟨b, fun _ => rfl, fun h => absurd (i0.symm.trans h) (by decide), fun h => absurd (i0.symm.trans h) (by decide), fun h => absurd (i0.symm.trans h) (by decide)⟩
    by_cases i1 : i = 900001
    · exact ⟨d1, fun h => absurd h i0, fun _ => rfl, fun h => absurd (i1.symm.trans h) (by decide), fun h => absurd (i1.symm.trans h) (by decide)⟩
    by_cases i2 : i = 900002
    · exact ⟨d2, fun h => absurd h i0, fun h => absurd h i1, fun _ => rfl, fun h => absurd (i2.symm.trans h) (by decide)⟩
    exact ⟨d3, fun h => absurd h i0, fun h => absurd h i1, fun h => absurd h i2, fun _ => rfl⟩
  obtain ⟨a0, ha⟩ := Classical.axiomOfChoice h0
  have a00 : a0 900000 = b := (ha _).1 rfl
  have a01 : a0 900001 = d1 := (ha _).2.1 rfl
  have a02 : a0 900002 = d2 := (ha _).2.2.1 rfl
  have a03 : a0 900003 = d3 := (ha _).2.2.2 rfl
  refine ⟨D, ka, a0, a00, hfl0, hts, hK, ⟨mj_Str_of hts hfl, ?_⟩, ?_, va_Nw.of rfl (hts _ mj_bw0), ⟨rfl, rfl⟩, ?_, ?_, hts _ mj_bw1⟩
  · intro i tx h
    match i, h with
    | 0, h =>
      cases h
      exact ⟨by show mj_Txt s (a0 900001) mj_t1; rw [a01]; exact x1, k1⟩
    | 1, h =>
      cases h
      exact ⟨by show mj_Txt s (a0 900002) mj_t2; rw [a02]; exact x2, k2⟩
    | 2, h =>
      cases h
      exact ⟨by show mj_Txt s (a0 900003) mj_t3; rw [a03]; exact x3, k3⟩
    | i + 3, h => cases h
  · rw [a00]
    exact ⟨hX, hb⟩
  · intro q hq
    unfold mj_lits at hq
    simp only [List.mem_cons, List.not_mem_nil, or_false] at hq
    rcases hq with rfl | rfl | rfl
    · exact ⟨_, by show vk_R "MacroPress$Expander" 204 _ (a0 900001) s; rw [a01]; exact vk_R.of (hts _ mj_sw4) e1⟩
    · exact ⟨_, by show vk_R "MacroPress$Names" 10 _ (a0 900002) s; rw [a02]; exact vk_R.of (hts _ mj_sw5) e2⟩
    · exact ⟨_, by show vk_R "MacroPressModel" 137 _ (a0 900003) s; rw [a03]; exact vk_R.of (hts _ mj_sw6) e3⟩
  · intro q hq
    unfold mj_thrs at hq
    simp only [List.mem_cons, List.not_mem_nil, or_false] at hq
    rcases hq with rfl | rfl | rfl | rfl
    · exact ⟨fun w hw => mj_aw_ok hts hfl (List.all_eq_true.mp mj_aw0 w hw), mj_str_of hts hfl mj_fx0 mj_sw0⟩
    · exact ⟨fun w hw => mj_aw_ok hts hfl (List.all_eq_true.mp mj_aw0 w hw), mj_str_of hts hfl mj_fx1 mj_sw1⟩
    · exact ⟨fun w hw => mj_aw_ok hts hfl (List.all_eq_true.mp mj_aw1 w hw), mj_str_of hts hfl mj_fx2 mj_sw2⟩
    · exact ⟨fun w hw => mj_aw_ok hts hfl (List.all_eq_true.mp mj_aw2 w hw), mj_str_of hts hfl mj_fx3 mj_sw3⟩
end MJBEG
end
section
/-! THE LAW'S WALK, out of the mini machine's (R_law to lw_At are the skeleton's) -/
def R_law : String := "MacroPressLaw"
def lw_P (b : Addr) (xs : List Int32) (args : Array Value) (s : State) : Prop := args = #[.ref b] ∧ s.IntsAt b xs ∧ xs.length ≤ 2048 ∧ (Jvm.Cond.and given_1 narrow_1).before args s = true
def lw_Q (_ : Array Value) (s : State) (o : Outcome) (t : State) : Prop := o = .returned (some (.int 1)) ∧ Framed s o t [] 601024 7293034
def lw_Z (below : List Frame) (a : Array Value) (s : State) : State → Prop := fun t => ∃ o, t.status = .running ∧ Ended t below o ∧ lw_Q a s o t
/-- what holds at the law's entry: the machine, the code, the tables' words (any of lw_tbl by 'hts w (by decide +kernel)'), the script of L ints xs at the cell b, what the Statement gives of the start (any of its parts by flat_of_before) -/
def lw_At (p : Program) (s : State) (m : MethodId) (meth : Method) (c : Code) (b L : Nat) (xs : Nat → Int32) : Prop :=
  p.tables.exec = Jvm.exec ∧ c.code = code ∧ meth.sig.returnType = ret ∧ c.maxLocals = 7 ∧ s.vm.findClass R_law = some m.cls ∧ (∀ w ∈ lw_tbl, w.before #[Value.ref b] s = true) ∧ va_X b L xs s s.heap ∧ b < s.heap.size ∧ meth.locks = false ∧ (Jvm.Cond.and given_1 narrow_1).before #[Value.ref b] s = true
def mj_S0 : mj_S := ([], fun _ _ => 0, fun _ _ => 0, fun _ _ => none, 0, 0)
theorem mj_wS0 : mj_wS mj_S0 := ⟨⟨Nat.le_of_ble_eq_true rfl, Nat.le_refl 0, Nat.zero_le _, Nat.zero_le _⟩, fun a j q h => by cases h⟩
section MJWALK
variable {p : Program} {l : Launch} {e : Env} {s : State} {m : MethodId} {A : Array Value} {below : List Frame} {meth : Method} {c : Code} {D : va_G} {ka : Nat → ClassId} {a0 : Nat → Nat}
theorem mj_walk {R : Room} {d M k : Nat} {X : mj_X} {y : mj_D} {z : mj_M} (hg : mj_Beg l s A D ka a0 X) (hz : mj_P[M]? = some z) (hy : mj_PD[M]? = some y) (hx : p.tables.exec = Jvm.exec) (hb : c.code = y.2.1) (hml : c.maxLocals = y.2.2.1) (hown : s.vm.findClass y.1.cls = some m.cls) (hlk : meth.locks = false) (hrt : meth.sig.returnType = y.2.2.2.1)
    (hext : c.exceptionTable.toList.map (fun h => (h.startPc, h.endPc, h.handlerPc, h.catchType)) = y.2.2.2.2) (hnm : y.1.name = "<init>" → meth.name = "<init>") (hf : d + 9 ≤ R.frames) (hlo : 40 * d + 340 ≤ R.locals) (hr8 : 8 ≤ R.frames ∧ 300 ≤ R.locals) (hRc : R.cells = X.2.2.1 ∧ R.slots = X.2.2.2) {as : List Value} (hwT : mj_wT 0 as) (hlen : (mj_en as).length ≤ y.2.2.1) {Q : mj_Q} {Z : State → Prop}
    (hQ : mj_Qok s below Z D mj_cl mj_ft ka s.heap.size mj_S0 a0 Q) (hX : mj_Xok s below Z D mj_cl mj_ft ka s.heap.size mj_S0 a0 Q)
    (hrn : mj_rn X (mj_hd z.2.1) (mj_call X mj_P (mj_bi X) d) z.2.2 0 (mj_en as ++ List.replicate k none) [] mj_S0 Q) :
    W p l e R s m A below meth c s.heap [] 0 0 Z (entryFrame m (as.map (mj_tr a0)).toArray y.2.2.1) := by
  have hC : mj_Cst s s := ⟨State.WarmedH.refl s, Nat.le_refl _, fun _ _ => rfl⟩
  obtain ⟨hmc, hma⟩ := mj_chk hz
  generalize mj_ow.getD M 0 = o at hmc hma
  unfold mj_mc at hmc
  rw [hz, hy] at hmc
  simp only [Bool.and_eq_true, beq_iff_eq] at hmc
  obtain ⟨⟨-, e2⟩, hbc⟩ := hmc
  unfold mj_ma at hma
  rw [hz, hy] at hma
  simp only [Bool.and_eq_true] at hma
  obtain ⟨⟨⟨-, hhc⟩, -⟩, hvx⟩ := hma
  have hscr := hg.2.2.2.2.1
  have hG : mj_Gr R s meth s.heap.size mj_S0 a0 X (y.1.name = "<init>") := ⟨hnm, Nat.le_refl _, ⟨by rw [hRc.1]; exact Nat.le_add_left _ _, by rw [hRc.2]; exact Nat.le_add_left _ _⟩, hg.2.2.2.2.2.2.1, hr8, hscr.1, hscr.2, Nat.not_le.mpr hscr.2⟩
  have hB : mj_Cal p l R s s m A meth c D ka mj_S0 a0 a0 y.2.1 y.2.2.1 (y.1.name = "<init>") X (mj_hd z.2.1) (mj_call X mj_P (mj_bi X) d) o d :=
    ⟨hx, hb, hml, by rw [← e2]; exact hown, hlk, fun w hw => mj_Wd2_at hg.2.1 hw, fun k cN _ => va_asg _ _, mj_hc_ok hhc hext, hG,
      hC, fun _ _ => rfl, fun M y as S Q hM hy h => mj_con_all hg d M y as S Q hM hy h, hf, hlo, ⟨hRc.1, hRc.2⟩, ⟨Nat.zero_le _, Nat.zero_le _⟩, hg.2.2.1, mj_hmh⟩
  have hT : ∀ q ∈ z.2.2, mj_bok (mj_Iok p l e R s m A below meth c D mj_cl mj_ft ka s.heap.size mj_S0 a0 y.2.2.1 X (mj_hd z.2.1) (mj_call X mj_P (mj_bi X) d)) q.1 q.2.2.1 q.2.2.2 := fun q hq =>
    mj_bok_of (fun x h1 h2 => mj_ins hg hB hrt (fun M as S Q hM h => mj_bi_of hM h) hy (fun he => by rw [he] at hext; exact List.map_eq_nil_iff.mp hext) h1 h2) q.2.2.1 q.1 q.2.2.2 (List.all_eq_true.mp hbc q hq) (List.all_eq_true.mp hvx q hq)
  have hP0 : va_P D mj_cl (mj_ws mj_ft ka a0 mj_S0) s.heap := fun k q h => by cases h
  have hD0 : va_D (fun q => s.heap.size ≤ q) (mj_ws mj_ft ka a0 mj_S0) := ⟨fun i j p q h => (by cases h), fun k q h => (by cases h)⟩
  have hR : mj_Rh D mj_cl mj_ft ka s.heap.size s mj_S0 a0 a0 mj_S0 s.heap [] 0 0 := ⟨hP0, hD0, va_S.rf, mj_wS0, ⟨Nat.le_refl _, fun _ _ => rfl⟩, rfl, rfl⟩
  have K := mj_rn_snd hT hQ hX 0 a0 _ [] mj_S0 s.heap [] 0 0 _ hR (mj_lr_entry a0 as (n := y.2.2.1) (k := k) (by rw [mj_en_len]; exact hlen)) (mj_wL_entry hwT) (fun v hv => by cases hv) hrn
  rw [List.map_nil, ← lg_entry_eq] at K
  exact K
theorem mj_Q1 {b : Nat} : mj_Qok s below (lw_Z below #[Value.ref b] s) D mj_cl mj_ft ka s.heap.size mj_S0 a0 (fun o _ => o = .inl (some (.int 1))) := by
  intro ad v S H locs cells slots t hR' hQ hv ht h1 h2 h3 h4
  obtain ⟨J, hJ1, hJ2⟩ := h4
  obtain ⟨r1, r2, r3, r4, r5, r6, r7⟩ := hR'
  have hv1 : v = some (.int 1) := Sum.inl.inj hQ
  subst hv1
  refine ⟨_, h1, h2, rfl, ⟨_, rfl⟩, h3, ?_⟩
  have := State.sameButNew.drop_fresh (L := []) (J := J) hJ2 hJ1
  have z1 : S.2.2.2.2.1 = cells := r6.trans (Nat.zero_add cells)
  have z2 : S.2.2.2.2.2 = slots := r7.trans (Nat.zero_add slots)
  have y1 := r4.1.2.2.1
  have y2 := r4.1.2.2.2
  rw [z1] at y1
  rw [z2] at y2
  exact this.mono y1 y2
theorem mj_X1 {Z : State → Prop} : mj_Xok s below Z D mj_cl mj_ft ka s.heap.size mj_S0 a0 (fun o _ => o = .inl (some (.int 1))) := by
  intro ad k S H locs cells slots a ce t hR' hQ
  cases hQ
end MJWALK
end
section
/-! THE LAW'S WALK, with its numbers -/
def mj_X0 (L : Nat) (xs : Nat → Int32) : mj_X := ((L, xs), [mj_t1, mj_t2, mj_t3], 601024, 7293034)
theorem mj_y196 : mj_PD[196]? = some (⟨"MacroPressLaw", "law", "([I)Z"⟩, code, 7, ret, []) := rfl
theorem mj_z196 : mj_P[196]? = some (7, [], mb_196) := rfl
theorem mj_rf : 2039 + 9 ≤ room_1.frames := by decide
theorem mj_rl : 40 * 2039 + 340 ≤ room_1.locals := by decide
theorem mj_r8 : 8 ≤ room_1.frames ∧ 300 ≤ room_1.locals := by decide
theorem mj_whole {p : Program} {l : Launch} {e : Env} {s : State} {m : MethodId} {below : List Frame} {meth : Method} {c : Code} {b L : Nat} {xs : Nat → Int32} (hfl0 : l.flags = pinnedFlags ++ [noTraceFlag]) (C0 : lw_At p s m meth c b L xs) (hex : c.exceptionTable.toList = [])
    (hrn : mj_rn (mj_X0 L xs) (mj_hd []) (mj_call (mj_X0 L xs) mj_P (mj_bi (mj_X0 L xs)) 2039) mb_196 0 (mj_en [.ref 900000] ++ List.replicate 6 none) [] mj_S0 (fun o _ => o = .inl (some (.int 1)))) :
    W p l e room_1 s m #[Value.ref b] below meth c s.heap [] 0 0 (lw_Z below #[Value.ref b] s) (entryFrame m ([Value.ref b] : List Value).toArray 7) := by
  obtain ⟨hx, hb, hr, hml, hown, hts, hX, hbl, hlk, hgv⟩ := C0
  obtain ⟨D, ka, a0, ha0, hg⟩ := mj_beg (L := L) (xs := xs) hfl0 hts hgv hX hbl
  have K := mj_walk (p := p) (e := e) (m := m) (below := below) (meth := meth) (c := c) (R := room_1) (Z := lw_Z below #[Value.ref b] s) (X := mj_X0 L xs) (k := 6) (as := [.ref 900000]) hg mj_z196 mj_y196 hx hb hml hown hlk hr (by rw [hex]; rfl) (fun q => absurd q (by decide)) mj_rf mj_rl mj_r8 ⟨rfl, rfl⟩ (fun v hv => by rw [List.mem_singleton.mp hv]; exact Or.inr (Nat.le_refl _)) (Nat.le_of_ble_eq_true rfl) mj_Q1 mj_X1 hrn
  have e0 : ([Value.ref 900000].map (mj_tr a0)) = [Value.ref b] := by
    show [Value.ref (a0 900000)] = _
    rw [ha0]
  rw [e0] at K
  exact K
end
section
/-! STEPS of the mini machine: one equation an instruction, printed by step.py -/
theorem mjs_0 : (∀ (X : mj_X) (hd : mj_H) (cl : mj_C) (nx : mj_N) (Q : mj_Q) (e pc len a b t : Nat) (k : Int32) (kl : Int64) (sw : List (Int32 × Nat)) (is : List mj_I) (lv : mj_LV) (st : List Value) (S : mj_S) (z : _), mj_rb X hd cl nx Q e ((pc, .iconst z, len, (a, b, t), k, kl, sw) :: is) lv st S = mj_rb X hd cl nx Q e is lv (.int k :: st) S) ∧
  (∀ (X : mj_X) (hd : mj_H) (cl : mj_C) (nx : mj_N) (Q : mj_Q) (e pc len a b t : Nat) (k : Int32) (kl : Int64) (sw : List (Int32 × Nat)) (is : List mj_I) (lv : mj_LV) (st : List Value) (S : mj_S) (z : _), mj_rb X hd cl nx Q e ((pc, .bipush z, len, (a, b, t), k, kl, sw) :: is) lv st S = mj_rb X hd cl nx Q e is lv (.int k :: st) S) ∧
  (∀ (X : mj_X) (hd : mj_H) (cl : mj_C) (nx : mj_N) (Q : mj_Q) (e pc len a b t : Nat) (k : Int32) (kl : Int64) (sw : List (Int32 × Nat)) (is : List mj_I) (lv : mj_LV) (st : List Value) (S : mj_S) (z : _), mj_rb X hd cl nx Q e ((pc, .sipush z, len, (a, b, t), k, kl, sw) :: is) lv st S = mj_rb X hd cl nx Q e is lv (.int k :: st) S) ∧
  (∀ (X : mj_X) (hd : mj_H) (cl : mj_C) (nx : mj_N) (Q : mj_Q) (e pc len a b t : Nat) (k : Int32) (kl : Int64) (sw : List (Int32 × Nat)) (is : List mj_I) (lv : mj_LV) (st : List Value) (S : mj_S) (z : _), mj_rb X hd cl nx Q e ((pc, .ldc_w z, len, (a, b, t), k, kl, sw) :: is) lv st S = mj_rb X hd cl nx Q e is lv (.int k :: st) S) ∧
  (∀ (X : mj_X) (hd : mj_H) (cl : mj_C) (nx : mj_N) (Q : mj_Q) (e pc len a b : Nat) (k : Int32) (kl : Int64) (sw : List (Int32 × Nat)) (is : List mj_I) (lv : mj_LV) (st : List Value) (S : mj_S) (z : _), mj_rb X hd cl nx Q e ((pc, .ldc z, len, (a, b, 0), k, kl, sw) :: is) lv st S = mj_rb X hd cl nx Q e is lv (.int k :: st) S) ∧
  (∀ (X : mj_X) (hd : mj_H) (cl : mj_C) (nx : mj_N) (Q : mj_Q) (e pc len a b : Nat) (k : Int32) (kl : Int64) (sw : List (Int32 × Nat)) (is : List mj_I) (lv : mj_LV) (st : List Value) (S : mj_S) (z : _), mj_rb X hd cl nx Q e ((pc, .ldc z, len, (a, b, 1), k, kl, sw) :: is) lv st S = mj_rb X hd cl nx Q e is lv (.ref a :: st) S) ∧
  (∀ (X : mj_X) (hd : mj_H) (cl : mj_C) (nx : mj_N) (Q : mj_Q) (e pc len a b t : Nat) (k : Int32) (kl : Int64) (sw : List (Int32 × Nat)) (is : List mj_I) (lv : mj_LV) (st : List Value) (S : mj_S) (z : _), mj_rb X hd cl nx Q e ((pc, .lconst z, len, (a, b, t), k, kl, sw) :: is) lv st S = mj_rb X hd cl nx Q e is lv (.long kl :: st) S) ∧
  (∀ (X : mj_X) (hd : mj_H) (cl : mj_C) (nx : mj_N) (Q : mj_Q) (e pc len a b t : Nat) (k : Int32) (kl : Int64) (sw : List (Int32 × Nat)) (is : List mj_I) (lv : mj_LV) (st : List Value) (S : mj_S) (z : _), mj_rb X hd cl nx Q e ((pc, .ldc2_w z, len, (a, b, t), k, kl, sw) :: is) lv st S = mj_rb X hd cl nx Q e is lv (.long kl :: st) S) ∧
  (∀ (X : mj_X) (hd : mj_H) (cl : mj_C) (nx : mj_N) (Q : mj_Q) (e pc len a b t : Nat) (k : Int32) (kl : Int64) (sw : List (Int32 × Nat)) (is : List mj_I) (lv : mj_LV) (st : List Value) (S : mj_S) (z : _), mj_rb X hd cl nx Q e ((pc, .iload z, len, (a, b, t), k, kl, sw) :: is) lv st S = mj_gI (fun v => mj_rb X hd cl nx Q e is lv (.int v :: st) S) (lv.getD a none)) ∧
  (∀ (X : mj_X) (hd : mj_H) (cl : mj_C) (nx : mj_N) (Q : mj_Q) (e pc len a b t : Nat) (k : Int32) (kl : Int64) (sw : List (Int32 × Nat)) (is : List mj_I) (lv : mj_LV) (st : List Value) (S : mj_S) (z : _), mj_rb X hd cl nx Q e ((pc, .iload_n z, len, (a, b, t), k, kl, sw) :: is) lv st S = mj_gI (fun v => mj_rb X hd cl nx Q e is lv (.int v :: st) S) (lv.getD a none)) ∧
  (∀ (X : mj_X) (hd : mj_H) (cl : mj_C) (nx : mj_N) (Q : mj_Q) (e pc len a b t : Nat) (k : Int32) (kl : Int64) (sw : List (Int32 × Nat)) (is : List mj_I) (lv : mj_LV) (st : List Value) (S : mj_S) (z : _), mj_rb X hd cl nx Q e ((pc, .lload z, len, (a, b, t), k, kl, sw) :: is) lv st S = mj_gL (fun v => mj_rb X hd cl nx Q e is lv (.long v :: st) S) (lv.getD a none)) ∧
  (∀ (X : mj_X) (hd : mj_H) (cl : mj_C) (nx : mj_N) (Q : mj_Q) (e pc len a b t : Nat) (k : Int32) (kl : Int64) (sw : List (Int32 × Nat)) (is : List mj_I) (lv : mj_LV) (st : List Value) (S : mj_S) (z : _), mj_rb X hd cl nx Q e ((pc, .lload_n z, len, (a, b, t), k, kl, sw) :: is) lv st S = mj_gL (fun v => mj_rb X hd cl nx Q e is lv (.long v :: st) S) (lv.getD a none)) ∧
  (∀ (X : mj_X) (hd : mj_H) (cl : mj_C) (nx : mj_N) (Q : mj_Q) (e pc len a b t : Nat) (k : Int32) (kl : Int64) (sw : List (Int32 × Nat)) (is : List mj_I) (lv : mj_LV) (st : List Value) (S : mj_S) (z : _), mj_rb X hd cl nx Q e ((pc, .aload z, len, (a, b, t), k, kl, sw) :: is) lv st S = mj_gA (fun v => mj_rb X hd cl nx Q e is lv (v :: st) S) (lv.getD a none)) ∧
  (∀ (X : mj_X) (hd : mj_H) (cl : mj_C) (nx : mj_N) (Q : mj_Q) (e pc len a b t : Nat) (k : Int32) (kl : Int64) (sw : List (Int32 × Nat)) (is : List mj_I) (lv : mj_LV) (st : List Value) (S : mj_S) (z : _), mj_rb X hd cl nx Q e ((pc, .aload_n z, len, (a, b, t), k, kl, sw) :: is) lv st S = mj_gA (fun v => mj_rb X hd cl nx Q e is lv (v :: st) S) (lv.getD a none)) ∧
  (∀ (X : mj_X) (hd : mj_H) (cl : mj_C) (nx : mj_N) (Q : mj_Q) (e pc len a b t : Nat) (k : Int32) (kl : Int64) (sw : List (Int32 × Nat)) (is : List mj_I) (lv : mj_LV) (st : List Value) (S : mj_S) (z : _), mj_rb X hd cl nx Q e ((pc, .istore z, len, (a, b, t), k, kl, sw) :: is) lv st S = mj_pI (fun v r => mj_rb X hd cl nx Q e is (mj_st lv a (.int v)) r S) st) ∧
  (∀ (X : mj_X) (hd : mj_H) (cl : mj_C) (nx : mj_N) (Q : mj_Q) (e pc len a b t : Nat) (k : Int32) (kl : Int64) (sw : List (Int32 × Nat)) (is : List mj_I) (lv : mj_LV) (st : List Value) (S : mj_S) (z : _), mj_rb X hd cl nx Q e ((pc, .istore_n z, len, (a, b, t), k, kl, sw) :: is) lv st S = mj_pI (fun v r => mj_rb X hd cl nx Q e is (mj_st lv a (.int v)) r S) st) ∧
  (∀ (X : mj_X) (hd : mj_H) (cl : mj_C) (nx : mj_N) (Q : mj_Q) (e pc len a b t : Nat) (k : Int32) (kl : Int64) (sw : List (Int32 × Nat)) (is : List mj_I) (lv : mj_LV) (st : List Value) (S : mj_S) (z : _), mj_rb X hd cl nx Q e ((pc, .lstore z, len, (a, b, t), k, kl, sw) :: is) lv st S = mj_pL (fun v r => mj_rb X hd cl nx Q e is (mj_st2 lv a v) r S) st) ∧
  (∀ (X : mj_X) (hd : mj_H) (cl : mj_C) (nx : mj_N) (Q : mj_Q) (e pc len a b t : Nat) (k : Int32) (kl : Int64) (sw : List (Int32 × Nat)) (is : List mj_I) (lv : mj_LV) (st : List Value) (S : mj_S) (z : _), mj_rb X hd cl nx Q e ((pc, .lstore_n z, len, (a, b, t), k, kl, sw) :: is) lv st S = mj_pL (fun v r => mj_rb X hd cl nx Q e is (mj_st2 lv a v) r S) st) ∧
  (∀ (X : mj_X) (hd : mj_H) (cl : mj_C) (nx : mj_N) (Q : mj_Q) (e pc len a b t : Nat) (k : Int32) (kl : Int64) (sw : List (Int32 × Nat)) (is : List mj_I) (lv : mj_LV) (st : List Value) (S : mj_S) (z : _), mj_rb X hd cl nx Q e ((pc, .astore z, len, (a, b, t), k, kl, sw) :: is) lv st S = mj_pR (fun v r => mj_rb X hd cl nx Q e is (mj_st lv a (.ref v)) r S) st) ∧
  (∀ (X : mj_X) (hd : mj_H) (cl : mj_C) (nx : mj_N) (Q : mj_Q) (e pc len a b t : Nat) (k : Int32) (kl : Int64) (sw : List (Int32 × Nat)) (is : List mj_I) (lv : mj_LV) (st : List Value) (S : mj_S) (z : _), mj_rb X hd cl nx Q e ((pc, .astore_n z, len, (a, b, t), k, kl, sw) :: is) lv st S = mj_pR (fun v r => mj_rb X hd cl nx Q e is (mj_st lv a (.ref v)) r S) st) ∧
  (∀ (X : mj_X) (hd : mj_H) (cl : mj_C) (nx : mj_N) (Q : mj_Q) (e pc len a b t : Nat) (k : Int32) (kl : Int64) (sw : List (Int32 × Nat)) (is : List mj_I) (lv : mj_LV) (st : List Value) (S : mj_S) (z : _) (z' : _), mj_rb X hd cl nx Q e ((pc, .iinc z z', len, (a, b, t), k, kl, sw) :: is) lv st S = mj_gI (fun v => mj_rb X hd cl nx Q e is (mj_st lv a (.int (v + k))) st S) (lv.getD a none)) ∧
  (∀ (X : mj_X) (hd : mj_H) (cl : mj_C) (nx : mj_N) (Q : mj_Q) (e pc len a b t : Nat) (k : Int32) (kl : Int64) (sw : List (Int32 × Nat)) (is : List mj_I) (lv : mj_LV) (st : List Value) (S : mj_S), mj_rb X hd cl nx Q e ((pc, .iadd, len, (a, b, t), k, kl, sw) :: is) lv st S = mj_pI (fun y r => mj_pI (fun x r => mj_rb X hd cl nx Q e is lv (.int (x + y) :: r) S) r) st) ∧
  (∀ (X : mj_X) (hd : mj_H) (cl : mj_C) (nx : mj_N) (Q : mj_Q) (e pc len a b t : Nat) (k : Int32) (kl : Int64) (sw : List (Int32 × Nat)) (is : List mj_I) (lv : mj_LV) (st : List Value) (S : mj_S), mj_rb X hd cl nx Q e ((pc, .isub, len, (a, b, t), k, kl, sw) :: is) lv st S = mj_pI (fun y r => mj_pI (fun x r => mj_rb X hd cl nx Q e is lv (.int (x - y) :: r) S) r) st) ∧
  (∀ (X : mj_X) (hd : mj_H) (cl : mj_C) (nx : mj_N) (Q : mj_Q) (e pc len a b t : Nat) (k : Int32) (kl : Int64) (sw : List (Int32 × Nat)) (is : List mj_I) (lv : mj_LV) (st : List Value) (S : mj_S), mj_rb X hd cl nx Q e ((pc, .imul, len, (a, b, t), k, kl, sw) :: is) lv st S = mj_pI (fun y r => mj_pI (fun x r => mj_rb X hd cl nx Q e is lv (.int (x * y) :: r) S) r) st) ∧
  (∀ (X : mj_X) (hd : mj_H) (cl : mj_C) (nx : mj_N) (Q : mj_Q) (e pc len a b t : Nat) (k : Int32) (kl : Int64) (sw : List (Int32 × Nat)) (is : List mj_I) (lv : mj_LV) (st : List Value) (S : mj_S), mj_rb X hd cl nx Q e ((pc, .iand, len, (a, b, t), k, kl, sw) :: is) lv st S = mj_pI (fun y r => mj_pI (fun x r => mj_rb X hd cl nx Q e is lv (.int (x &&& y) :: r) S) r) st) ∧
  (∀ (X : mj_X) (hd : mj_H) (cl : mj_C) (nx : mj_N) (Q : mj_Q) (e pc len a b t : Nat) (k : Int32) (kl : Int64) (sw : List (Int32 × Nat)) (is : List mj_I) (lv : mj_LV) (st : List Value) (S : mj_S), mj_rb X hd cl nx Q e ((pc, .ior, len, (a, b, t), k, kl, sw) :: is) lv st S = mj_pI (fun y r => mj_pI (fun x r => mj_rb X hd cl nx Q e is lv (.int (x ||| y) :: r) S) r) st) ∧
  (∀ (X : mj_X) (hd : mj_H) (cl : mj_C) (nx : mj_N) (Q : mj_Q) (e pc len a b t : Nat) (k : Int32) (kl : Int64) (sw : List (Int32 × Nat)) (is : List mj_I) (lv : mj_LV) (st : List Value) (S : mj_S), mj_rb X hd cl nx Q e ((pc, .ixor, len, (a, b, t), k, kl, sw) :: is) lv st S = mj_pI (fun y r => mj_pI (fun x r => mj_rb X hd cl nx Q e is lv (.int (x ^^^ y) :: r) S) r) st) ∧
  (∀ (X : mj_X) (hd : mj_H) (cl : mj_C) (nx : mj_N) (Q : mj_Q) (e pc len a b t : Nat) (k : Int32) (kl : Int64) (sw : List (Int32 × Nat)) (is : List mj_I) (lv : mj_LV) (st : List Value) (S : mj_S), mj_rb X hd cl nx Q e ((pc, .ishl, len, (a, b, t), k, kl, sw) :: is) lv st S = mj_pI (fun y r => mj_pI (fun x r => mj_rb X hd cl nx Q e is lv (.int (x <<< (y &&& 31)) :: r) S) r) st) ∧
  (∀ (X : mj_X) (hd : mj_H) (cl : mj_C) (nx : mj_N) (Q : mj_Q) (e pc len a b t : Nat) (k : Int32) (kl : Int64) (sw : List (Int32 × Nat)) (is : List mj_I) (lv : mj_LV) (st : List Value) (S : mj_S), mj_rb X hd cl nx Q e ((pc, .ishr, len, (a, b, t), k, kl, sw) :: is) lv st S = mj_pI (fun y r => mj_pI (fun x r => mj_rb X hd cl nx Q e is lv (.int (x >>> (y &&& 31)) :: r) S) r) st) ∧
  (∀ (X : mj_X) (hd : mj_H) (cl : mj_C) (nx : mj_N) (Q : mj_Q) (e pc len a b t : Nat) (k : Int32) (kl : Int64) (sw : List (Int32 × Nat)) (is : List mj_I) (lv : mj_LV) (st : List Value) (S : mj_S), mj_rb X hd cl nx Q e ((pc, .ineg, len, (a, b, t), k, kl, sw) :: is) lv st S = mj_pI (fun x r => mj_rb X hd cl nx Q e is lv (.int (-x) :: r) S) st) ∧
  (∀ (X : mj_X) (hd : mj_H) (cl : mj_C) (nx : mj_N) (Q : mj_Q) (e pc len a b t : Nat) (k : Int32) (kl : Int64) (sw : List (Int32 × Nat)) (is : List mj_I) (lv : mj_LV) (st : List Value) (S : mj_S), mj_rb X hd cl nx Q e ((pc, .i2c, len, (a, b, t), k, kl, sw) :: is) lv st S = mj_pI (fun x r => mj_rb X hd cl nx Q e is lv (.int (x.toUInt32 % 65536).toInt32 :: r) S) st) ∧
  (∀ (X : mj_X) (hd : mj_H) (cl : mj_C) (nx : mj_N) (Q : mj_Q) (e pc len a b t : Nat) (k : Int32) (kl : Int64) (sw : List (Int32 × Nat)) (is : List mj_I) (lv : mj_LV) (st : List Value) (S : mj_S), mj_rb X hd cl nx Q e ((pc, .i2b, len, (a, b, t), k, kl, sw) :: is) lv st S = mj_pI (fun x r => mj_rb X hd cl nx Q e is lv (.int x.toInt8.toInt32 :: r) S) st) ∧
  (∀ (X : mj_X) (hd : mj_H) (cl : mj_C) (nx : mj_N) (Q : mj_Q) (e pc len a b t : Nat) (k : Int32) (kl : Int64) (sw : List (Int32 × Nat)) (is : List mj_I) (lv : mj_LV) (st : List Value) (S : mj_S), mj_rb X hd cl nx Q e ((pc, .idiv, len, (a, b, t), k, kl, sw) :: is) lv st S = mj_pI (fun y r => mj_pI (fun x r => ¬ y = 0 ∧ mj_rb X hd cl nx Q e is lv (.int (x / y) :: r) S) r) st) ∧
  (∀ (X : mj_X) (hd : mj_H) (cl : mj_C) (nx : mj_N) (Q : mj_Q) (e pc len a b t : Nat) (k : Int32) (kl : Int64) (sw : List (Int32 × Nat)) (is : List mj_I) (lv : mj_LV) (st : List Value) (S : mj_S), mj_rb X hd cl nx Q e ((pc, .irem, len, (a, b, t), k, kl, sw) :: is) lv st S = mj_pI (fun y r => mj_pI (fun x r => ¬ y = 0 ∧ mj_rb X hd cl nx Q e is lv (.int (x - x / y * y) :: r) S) r) st) ∧
  (∀ (X : mj_X) (hd : mj_H) (cl : mj_C) (nx : mj_N) (Q : mj_Q) (e pc len a b t : Nat) (k : Int32) (kl : Int64) (sw : List (Int32 × Nat)) (is : List mj_I) (lv : mj_LV) (st : List Value) (S : mj_S), mj_rb X hd cl nx Q e ((pc, .ladd, len, (a, b, t), k, kl, sw) :: is) lv st S = mj_pL (fun y r => mj_pL (fun x r => mj_rb X hd cl nx Q e is lv (.long (x + y) :: r) S) r) st) ∧
  (∀ (X : mj_X) (hd : mj_H) (cl : mj_C) (nx : mj_N) (Q : mj_Q) (e pc len a b t : Nat) (k : Int32) (kl : Int64) (sw : List (Int32 × Nat)) (is : List mj_I) (lv : mj_LV) (st : List Value) (S : mj_S), mj_rb X hd cl nx Q e ((pc, .lsub, len, (a, b, t), k, kl, sw) :: is) lv st S = mj_pL (fun y r => mj_pL (fun x r => mj_rb X hd cl nx Q e is lv (.long (x - y) :: r) S) r) st) ∧
  (∀ (X : mj_X) (hd : mj_H) (cl : mj_C) (nx : mj_N) (Q : mj_Q) (e pc len a b t : Nat) (k : Int32) (kl : Int64) (sw : List (Int32 × Nat)) (is : List mj_I) (lv : mj_LV) (st : List Value) (S : mj_S), mj_rb X hd cl nx Q e ((pc, .lmul, len, (a, b, t), k, kl, sw) :: is) lv st S = mj_pL (fun y r => mj_pL (fun x r => mj_rb X hd cl nx Q e is lv (.long (x * y) :: r) S) r) st) ∧
  (∀ (X : mj_X) (hd : mj_H) (cl : mj_C) (nx : mj_N) (Q : mj_Q) (e pc len a b t : Nat) (k : Int32) (kl : Int64) (sw : List (Int32 × Nat)) (is : List mj_I) (lv : mj_LV) (st : List Value) (S : mj_S), mj_rb X hd cl nx Q e ((pc, .land, len, (a, b, t), k, kl, sw) :: is) lv st S = mj_pL (fun y r => mj_pL (fun x r => mj_rb X hd cl nx Q e is lv (.long (x &&& y) :: r) S) r) st) ∧
  (∀ (X : mj_X) (hd : mj_H) (cl : mj_C) (nx : mj_N) (Q : mj_Q) (e pc len a b t : Nat) (k : Int32) (kl : Int64) (sw : List (Int32 × Nat)) (is : List mj_I) (lv : mj_LV) (st : List Value) (S : mj_S), mj_rb X hd cl nx Q e ((pc, .lor, len, (a, b, t), k, kl, sw) :: is) lv st S = mj_pL (fun y r => mj_pL (fun x r => mj_rb X hd cl nx Q e is lv (.long (x ||| y) :: r) S) r) st) ∧
  (∀ (X : mj_X) (hd : mj_H) (cl : mj_C) (nx : mj_N) (Q : mj_Q) (e pc len a b t : Nat) (k : Int32) (kl : Int64) (sw : List (Int32 × Nat)) (is : List mj_I) (lv : mj_LV) (st : List Value) (S : mj_S), mj_rb X hd cl nx Q e ((pc, .lneg, len, (a, b, t), k, kl, sw) :: is) lv st S = mj_pL (fun x r => mj_rb X hd cl nx Q e is lv (.long (-x) :: r) S) st) := ⟨by intros; rfl, by intros; rfl, by intros; rfl, by intros; rfl, by intros; rfl, by intros; rfl, by intros; rfl, by intros; rfl, by intros; rfl, by intros; rfl, by intros; rfl, by intros; rfl, by intros; rfl, by intros; rfl, by intros; rfl, by intros; rfl, by intros; rfl, by intros; rfl, by intros; rfl, by intros; rfl, by intros; rfl, by intros; rfl, by intros; rfl, by intros; rfl, by intros; rfl, by intros; rfl, by intros; rfl, by intros; rfl, by intros; rfl, by intros; rfl, by intros; rfl, by intros; rfl, by intros; rfl, by intros; rfl, by intros; rfl, by intros; rfl, by intros; rfl, by intros; rfl, by intros; rfl, by intros; rfl⟩
theorem mjs_1 : (∀ (X : mj_X) (hd : mj_H) (cl : mj_C) (nx : mj_N) (Q : mj_Q) (e pc len a b t : Nat) (k : Int32) (kl : Int64) (sw : List (Int32 × Nat)) (is : List mj_I) (lv : mj_LV) (st : List Value) (S : mj_S), mj_rb X hd cl nx Q e ((pc, .ldiv, len, (a, b, t), k, kl, sw) :: is) lv st S = mj_pL (fun y r => mj_pL (fun x r => ¬ y = 0 ∧ mj_rb X hd cl nx Q e is lv (.long (x / y) :: r) S) r) st) ∧
  (∀ (X : mj_X) (hd : mj_H) (cl : mj_C) (nx : mj_N) (Q : mj_Q) (e pc len a b t : Nat) (k : Int32) (kl : Int64) (sw : List (Int32 × Nat)) (is : List mj_I) (lv : mj_LV) (st : List Value) (S : mj_S), mj_rb X hd cl nx Q e ((pc, .lrem, len, (a, b, t), k, kl, sw) :: is) lv st S = mj_pL (fun y r => mj_pL (fun x r => ¬ y = 0 ∧ mj_rb X hd cl nx Q e is lv (.long (x - x / y * y) :: r) S) r) st) ∧
  (∀ (X : mj_X) (hd : mj_H) (cl : mj_C) (nx : mj_N) (Q : mj_Q) (e pc len a b t : Nat) (k : Int32) (kl : Int64) (sw : List (Int32 × Nat)) (is : List mj_I) (lv : mj_LV) (st : List Value) (S : mj_S), mj_rb X hd cl nx Q e ((pc, .lushr, len, (a, b, t), k, kl, sw) :: is) lv st S = mj_pI (fun y r => mj_pL (fun x r => mj_rb X hd cl nx Q e is lv (.long (x.toUInt64 >>> (y.toInt64.toUInt64 &&& Int64.toUInt64 63)).toInt64 :: r) S) r) st) ∧
  (∀ (X : mj_X) (hd : mj_H) (cl : mj_C) (nx : mj_N) (Q : mj_Q) (e pc len a b t : Nat) (k : Int32) (kl : Int64) (sw : List (Int32 × Nat)) (is : List mj_I) (lv : mj_LV) (st : List Value) (S : mj_S), mj_rb X hd cl nx Q e ((pc, .lshl, len, (a, b, t), k, kl, sw) :: is) lv st S = mj_pI (fun y r => mj_pL (fun x r => mj_rb X hd cl nx Q e is lv (.long (x <<< (y.toInt64 &&& 63)) :: r) S) r) st) ∧
  (∀ (X : mj_X) (hd : mj_H) (cl : mj_C) (nx : mj_N) (Q : mj_Q) (e pc len a b t : Nat) (k : Int32) (kl : Int64) (sw : List (Int32 × Nat)) (is : List mj_I) (lv : mj_LV) (st : List Value) (S : mj_S), mj_rb X hd cl nx Q e ((pc, .lshr, len, (a, b, t), k, kl, sw) :: is) lv st S = mj_pI (fun y r => mj_pL (fun x r => mj_rb X hd cl nx Q e is lv (.long (x >>> (y.toInt64 &&& 63)) :: r) S) r) st) ∧
  (∀ (X : mj_X) (hd : mj_H) (cl : mj_C) (nx : mj_N) (Q : mj_Q) (e pc len a b t : Nat) (k : Int32) (kl : Int64) (sw : List (Int32 × Nat)) (is : List mj_I) (lv : mj_LV) (st : List Value) (S : mj_S), mj_rb X hd cl nx Q e ((pc, .lcmp, len, (a, b, t), k, kl, sw) :: is) lv st S = mj_pL (fun y r => mj_pL (fun x r => mj_rb X hd cl nx Q e is lv (.int (lg_cmp x y) :: r) S) r) st) ∧
  (∀ (X : mj_X) (hd : mj_H) (cl : mj_C) (nx : mj_N) (Q : mj_Q) (e pc len a b t : Nat) (k : Int32) (kl : Int64) (sw : List (Int32 × Nat)) (is : List mj_I) (lv : mj_LV) (st : List Value) (S : mj_S), mj_rb X hd cl nx Q e ((pc, .i2l, len, (a, b, t), k, kl, sw) :: is) lv st S = mj_pI (fun x r => mj_rb X hd cl nx Q e is lv (.long x.toInt64 :: r) S) st) ∧
  (∀ (X : mj_X) (hd : mj_H) (cl : mj_C) (nx : mj_N) (Q : mj_Q) (e pc len a b t : Nat) (k : Int32) (kl : Int64) (sw : List (Int32 × Nat)) (is : List mj_I) (lv : mj_LV) (st : List Value) (S : mj_S), mj_rb X hd cl nx Q e ((pc, .l2i, len, (a, b, t), k, kl, sw) :: is) lv st S = mj_pL (fun x r => mj_rb X hd cl nx Q e is lv (.int x.toInt32 :: r) S) st) ∧
  (∀ (X : mj_X) (hd : mj_H) (cl : mj_C) (nx : mj_N) (Q : mj_Q) (e pc len a b t : Nat) (k : Int32) (kl : Int64) (sw : List (Int32 × Nat)) (is : List mj_I) (lv : mj_LV) (st : List Value) (S : mj_S), mj_rb X hd cl nx Q e ((pc, .dup, len, (a, b, t), k, kl, sw) :: is) lv st S = mj_pV (fun v r => mj_rb X hd cl nx Q e is lv (v :: v :: r) S) st) ∧
  (∀ (X : mj_X) (hd : mj_H) (cl : mj_C) (nx : mj_N) (Q : mj_Q) (e pc len a b t : Nat) (k : Int32) (kl : Int64) (sw : List (Int32 × Nat)) (is : List mj_I) (lv : mj_LV) (st : List Value) (S : mj_S), mj_rb X hd cl nx Q e ((pc, .pop, len, (a, b, t), k, kl, sw) :: is) lv st S = mj_pV (fun _ r => mj_rb X hd cl nx Q e is lv r S) st) ∧
  (∀ (X : mj_X) (hd : mj_H) (cl : mj_C) (nx : mj_N) (Q : mj_Q) (e pc len a b t : Nat) (k : Int32) (kl : Int64) (sw : List (Int32 × Nat)) (is : List mj_I) (lv : mj_LV) (st : List Value) (S : mj_S) (z : _), mj_rb X hd cl nx Q e ((pc, .ifCond .eq z, len, (a, b, t), k, kl, sw) :: is) lv st S = mj_pI (fun x r => (x = 0 → nx a lv r S Q) ∧ (¬ (x = 0) → mj_rb X hd cl nx Q e is lv r S)) st) ∧
  (∀ (X : mj_X) (hd : mj_H) (cl : mj_C) (nx : mj_N) (Q : mj_Q) (e pc len a b t : Nat) (k : Int32) (kl : Int64) (sw : List (Int32 × Nat)) (is : List mj_I) (lv : mj_LV) (st : List Value) (S : mj_S) (z : _), mj_rb X hd cl nx Q e ((pc, .if_icmp .eq z, len, (a, b, t), k, kl, sw) :: is) lv st S = mj_pI (fun y r => mj_pI (fun x r => (x = y → nx a lv r S Q) ∧ (¬ (x = y) → mj_rb X hd cl nx Q e is lv r S)) r) st) ∧
  (∀ (X : mj_X) (hd : mj_H) (cl : mj_C) (nx : mj_N) (Q : mj_Q) (e pc len a b t : Nat) (k : Int32) (kl : Int64) (sw : List (Int32 × Nat)) (is : List mj_I) (lv : mj_LV) (st : List Value) (S : mj_S) (z : _), mj_rb X hd cl nx Q e ((pc, .ifCond .ne z, len, (a, b, t), k, kl, sw) :: is) lv st S = mj_pI (fun x r => (¬ x = 0 → nx a lv r S Q) ∧ (¬ (¬ x = 0) → mj_rb X hd cl nx Q e is lv r S)) st) ∧
  (∀ (X : mj_X) (hd : mj_H) (cl : mj_C) (nx : mj_N) (Q : mj_Q) (e pc len a b t : Nat) (k : Int32) (kl : Int64) (sw : List (Int32 × Nat)) (is : List mj_I) (lv : mj_LV) (st : List Value) (S : mj_S) (z : _), mj_rb X hd cl nx Q e ((pc, .if_icmp .ne z, len, (a, b, t), k, kl, sw) :: is) lv st S = mj_pI (fun y r => mj_pI (fun x r => (¬ x = y → nx a lv r S Q) ∧ (¬ (¬ x = y) → mj_rb X hd cl nx Q e is lv r S)) r) st) ∧
  (∀ (X : mj_X) (hd : mj_H) (cl : mj_C) (nx : mj_N) (Q : mj_Q) (e pc len a b t : Nat) (k : Int32) (kl : Int64) (sw : List (Int32 × Nat)) (is : List mj_I) (lv : mj_LV) (st : List Value) (S : mj_S) (z : _), mj_rb X hd cl nx Q e ((pc, .ifCond .lt z, len, (a, b, t), k, kl, sw) :: is) lv st S = mj_pI (fun x r => (x < 0 → nx a lv r S Q) ∧ (¬ (x < 0) → mj_rb X hd cl nx Q e is lv r S)) st) ∧
  (∀ (X : mj_X) (hd : mj_H) (cl : mj_C) (nx : mj_N) (Q : mj_Q) (e pc len a b t : Nat) (k : Int32) (kl : Int64) (sw : List (Int32 × Nat)) (is : List mj_I) (lv : mj_LV) (st : List Value) (S : mj_S) (z : _), mj_rb X hd cl nx Q e ((pc, .if_icmp .lt z, len, (a, b, t), k, kl, sw) :: is) lv st S = mj_pI (fun y r => mj_pI (fun x r => (x < y → nx a lv r S Q) ∧ (¬ (x < y) → mj_rb X hd cl nx Q e is lv r S)) r) st) ∧
  (∀ (X : mj_X) (hd : mj_H) (cl : mj_C) (nx : mj_N) (Q : mj_Q) (e pc len a b t : Nat) (k : Int32) (kl : Int64) (sw : List (Int32 × Nat)) (is : List mj_I) (lv : mj_LV) (st : List Value) (S : mj_S) (z : _), mj_rb X hd cl nx Q e ((pc, .ifCond .ge z, len, (a, b, t), k, kl, sw) :: is) lv st S = mj_pI (fun x r => (0 ≤ x → nx a lv r S Q) ∧ (¬ (0 ≤ x) → mj_rb X hd cl nx Q e is lv r S)) st) ∧
  (∀ (X : mj_X) (hd : mj_H) (cl : mj_C) (nx : mj_N) (Q : mj_Q) (e pc len a b t : Nat) (k : Int32) (kl : Int64) (sw : List (Int32 × Nat)) (is : List mj_I) (lv : mj_LV) (st : List Value) (S : mj_S) (z : _), mj_rb X hd cl nx Q e ((pc, .if_icmp .ge z, len, (a, b, t), k, kl, sw) :: is) lv st S = mj_pI (fun y r => mj_pI (fun x r => (y ≤ x → nx a lv r S Q) ∧ (¬ (y ≤ x) → mj_rb X hd cl nx Q e is lv r S)) r) st) ∧
  (∀ (X : mj_X) (hd : mj_H) (cl : mj_C) (nx : mj_N) (Q : mj_Q) (e pc len a b t : Nat) (k : Int32) (kl : Int64) (sw : List (Int32 × Nat)) (is : List mj_I) (lv : mj_LV) (st : List Value) (S : mj_S) (z : _), mj_rb X hd cl nx Q e ((pc, .ifCond .gt z, len, (a, b, t), k, kl, sw) :: is) lv st S = mj_pI (fun x r => (0 < x → nx a lv r S Q) ∧ (¬ (0 < x) → mj_rb X hd cl nx Q e is lv r S)) st) ∧
  (∀ (X : mj_X) (hd : mj_H) (cl : mj_C) (nx : mj_N) (Q : mj_Q) (e pc len a b t : Nat) (k : Int32) (kl : Int64) (sw : List (Int32 × Nat)) (is : List mj_I) (lv : mj_LV) (st : List Value) (S : mj_S) (z : _), mj_rb X hd cl nx Q e ((pc, .if_icmp .gt z, len, (a, b, t), k, kl, sw) :: is) lv st S = mj_pI (fun y r => mj_pI (fun x r => (y < x → nx a lv r S Q) ∧ (¬ (y < x) → mj_rb X hd cl nx Q e is lv r S)) r) st) ∧
  (∀ (X : mj_X) (hd : mj_H) (cl : mj_C) (nx : mj_N) (Q : mj_Q) (e pc len a b t : Nat) (k : Int32) (kl : Int64) (sw : List (Int32 × Nat)) (is : List mj_I) (lv : mj_LV) (st : List Value) (S : mj_S) (z : _), mj_rb X hd cl nx Q e ((pc, .ifCond .le z, len, (a, b, t), k, kl, sw) :: is) lv st S = mj_pI (fun x r => (x ≤ 0 → nx a lv r S Q) ∧ (¬ (x ≤ 0) → mj_rb X hd cl nx Q e is lv r S)) st) ∧
  (∀ (X : mj_X) (hd : mj_H) (cl : mj_C) (nx : mj_N) (Q : mj_Q) (e pc len a b t : Nat) (k : Int32) (kl : Int64) (sw : List (Int32 × Nat)) (is : List mj_I) (lv : mj_LV) (st : List Value) (S : mj_S) (z : _), mj_rb X hd cl nx Q e ((pc, .if_icmp .le z, len, (a, b, t), k, kl, sw) :: is) lv st S = mj_pI (fun y r => mj_pI (fun x r => (x ≤ y → nx a lv r S Q) ∧ (¬ (x ≤ y) → mj_rb X hd cl nx Q e is lv r S)) r) st) ∧
  (∀ (X : mj_X) (hd : mj_H) (cl : mj_C) (nx : mj_N) (Q : mj_Q) (e pc len a b t : Nat) (k : Int32) (kl : Int64) (sw : List (Int32 × Nat)) (is : List mj_I) (lv : mj_LV) (st : List Value) (S : mj_S) (z : _), mj_rb X hd cl nx Q e ((pc, .goto z, len, (a, b, t), k, kl, sw) :: is) lv st S = nx a lv st S Q) ∧
  (∀ (X : mj_X) (hd : mj_H) (cl : mj_C) (nx : mj_N) (Q : mj_Q) (e pc len a b t : Nat) (k : Int32) (kl : Int64) (sw : List (Int32 × Nat)) (is : List mj_I) (lv : mj_LV) (st : List Value) (S : mj_S) (z1 : _) (z2 : _) (z3 : _) (z4 : _), mj_rb X hd cl nx Q e ((pc, .tableswitch z1 z2 z3 z4, len, (a, b, t), k, kl, sw) :: is) lv st S = mj_pI (fun x r => mj_sw (fun t => nx t lv r S Q) a x sw) st) ∧
  (∀ (X : mj_X) (hd : mj_H) (cl : mj_C) (nx : mj_N) (Q : mj_Q) (e pc len a b t : Nat) (k : Int32) (kl : Int64) (sw : List (Int32 × Nat)) (is : List mj_I) (lv : mj_LV) (st : List Value) (S : mj_S) (z1 : _) (z2 : _), mj_rb X hd cl nx Q e ((pc, .lookupswitch z1 z2, len, (a, b, t), k, kl, sw) :: is) lv st S = mj_pI (fun x r => mj_sw (fun t => nx t lv r S Q) a x sw) st) ∧
  (∀ (X : mj_X) (hd : mj_H) (cl : mj_C) (nx : mj_N) (Q : mj_Q) (e pc len a b : Nat) (k : Int32) (kl : Int64) (sw : List (Int32 × Nat)) (is : List mj_I) (lv : mj_LV) (st : List Value) (S : mj_S), mj_rb X hd cl nx Q e ((pc, .iaload, len, (a, b, 0), k, kl, sw) :: is) lv st S = mj_ald (mj_rb X hd cl nx Q e is) 0 lv st S) ∧
  (∀ (X : mj_X) (hd : mj_H) (cl : mj_C) (nx : mj_N) (Q : mj_Q) (e pc len a b : Nat) (k : Int32) (kl : Int64) (sw : List (Int32 × Nat)) (is : List mj_I) (lv : mj_LV) (st : List Value) (S : mj_S), mj_rb X hd cl nx Q e ((pc, .iaload, len, (a, b, 1), k, kl, sw) :: is) lv st S = mj_pI (fun k r => mj_pR (fun o r => o = 900000 ∧ vp_in k X.1.1 ∧ mj_rb X hd cl nx Q e is lv (.int (X.1.2 k.toNatClampNeg) :: r) S) r) st) ∧
  (∀ (X : mj_X) (hd : mj_H) (cl : mj_C) (nx : mj_N) (Q : mj_Q) (e pc len a b t : Nat) (k : Int32) (kl : Int64) (sw : List (Int32 × Nat)) (is : List mj_I) (lv : mj_LV) (st : List Value) (S : mj_S), mj_rb X hd cl nx Q e ((pc, .caload, len, (a, b, t), k, kl, sw) :: is) lv st S = mj_ald (mj_rb X hd cl nx Q e is) 2 lv st S) ∧
  (∀ (X : mj_X) (hd : mj_H) (cl : mj_C) (nx : mj_N) (Q : mj_Q) (e pc len a b : Nat) (k : Int32) (kl : Int64) (sw : List (Int32 × Nat)) (is : List mj_I) (lv : mj_LV) (st : List Value) (S : mj_S), mj_rb X hd cl nx Q e ((pc, .baload, len, (a, b, 3), k, kl, sw) :: is) lv st S = mj_ald (mj_rb X hd cl nx Q e is) 3 lv st S) ∧
  (∀ (X : mj_X) (hd : mj_H) (cl : mj_C) (nx : mj_N) (Q : mj_Q) (e pc len a b : Nat) (k : Int32) (kl : Int64) (sw : List (Int32 × Nat)) (is : List mj_I) (lv : mj_LV) (st : List Value) (S : mj_S), mj_rb X hd cl nx Q e ((pc, .baload, len, (a, b, 4), k, kl, sw) :: is) lv st S = mj_ald (mj_rb X hd cl nx Q e is) 4 lv st S) ∧
  (∀ (X : mj_X) (hd : mj_H) (cl : mj_C) (nx : mj_N) (Q : mj_Q) (e pc len a b t : Nat) (k : Int32) (kl : Int64) (sw : List (Int32 × Nat)) (is : List mj_I) (lv : mj_LV) (st : List Value) (S : mj_S), mj_rb X hd cl nx Q e ((pc, .iastore, len, (a, b, t), k, kl, sw) :: is) lv st S = mj_ast (mj_rb X hd cl nx Q e is) (fun v => v) 0 lv st S) ∧
  (∀ (X : mj_X) (hd : mj_H) (cl : mj_C) (nx : mj_N) (Q : mj_Q) (e pc len a b t : Nat) (k : Int32) (kl : Int64) (sw : List (Int32 × Nat)) (is : List mj_I) (lv : mj_LV) (st : List Value) (S : mj_S), mj_rb X hd cl nx Q e ((pc, .castore, len, (a, b, t), k, kl, sw) :: is) lv st S = mj_ast (mj_rb X hd cl nx Q e is) (fun v => vp_nar .char v) 2 lv st S) ∧
  (∀ (X : mj_X) (hd : mj_H) (cl : mj_C) (nx : mj_N) (Q : mj_Q) (e pc len a b : Nat) (k : Int32) (kl : Int64) (sw : List (Int32 × Nat)) (is : List mj_I) (lv : mj_LV) (st : List Value) (S : mj_S), mj_rb X hd cl nx Q e ((pc, .bastore, len, (a, b, 3), k, kl, sw) :: is) lv st S = mj_ast (mj_rb X hd cl nx Q e is) (fun v => vp_nar .boolean v) 3 lv st S) ∧
  (∀ (X : mj_X) (hd : mj_H) (cl : mj_C) (nx : mj_N) (Q : mj_Q) (e pc len a b : Nat) (k : Int32) (kl : Int64) (sw : List (Int32 × Nat)) (is : List mj_I) (lv : mj_LV) (st : List Value) (S : mj_S), mj_rb X hd cl nx Q e ((pc, .bastore, len, (a, b, 4), k, kl, sw) :: is) lv st S = mj_ast (mj_rb X hd cl nx Q e is) (fun v => vp_nar .byte v) 4 lv st S) ∧
  (∀ (X : mj_X) (hd : mj_H) (cl : mj_C) (nx : mj_N) (Q : mj_Q) (e pc len a b t : Nat) (k : Int32) (kl : Int64) (sw : List (Int32 × Nat)) (is : List mj_I) (lv : mj_LV) (st : List Value) (S : mj_S), mj_rb X hd cl nx Q e ((pc, .laload, len, (a, b, t), k, kl, sw) :: is) lv st S = mj_pI (fun k r => mj_pR (fun o r => mj_so (fun n => vp_in k n ∧ mj_rb X hd cl nx Q e is lv (.long (S.2.2.1 o k.toNatClampNeg) :: r) S) (mj_ar S.1 o 1)) r) st) ∧
  (∀ (X : mj_X) (hd : mj_H) (cl : mj_C) (nx : mj_N) (Q : mj_Q) (e pc len a b t : Nat) (k : Int32) (kl : Int64) (sw : List (Int32 × Nat)) (is : List mj_I) (lv : mj_LV) (st : List Value) (S : mj_S), mj_rb X hd cl nx Q e ((pc, .lastore, len, (a, b, t), k, kl, sw) :: is) lv st S = mj_pL (fun v r => mj_pI (fun k r => mj_pR (fun o r => mj_so (fun n => vp_in k n ∧ mj_rb X hd cl nx Q e is lv r (S.1, S.2.1, mj_up S.2.2.1 o k.toNatClampNeg v, S.2.2.2)) (mj_ar S.1 o 1)) r) r) st) ∧
  (∀ (X : mj_X) (hd : mj_H) (cl : mj_C) (nx : mj_N) (Q : mj_Q) (e pc len a b : Nat) (k : Int32) (kl : Int64) (sw : List (Int32 × Nat)) (is : List mj_I) (lv : mj_LV) (st : List Value) (S : mj_S), mj_rb X hd cl nx Q e ((pc, .arraylength, len, (a, b, 0), k, kl, sw) :: is) lv st S = mj_pR (fun o r => mj_so (fun n => mj_rb X hd cl nx Q e is lv (.int (Int32.ofNat n) :: r) S) (mj_ar S.1 o 0)) st) ∧
  (∀ (X : mj_X) (hd : mj_H) (cl : mj_C) (nx : mj_N) (Q : mj_Q) (e pc len a b : Nat) (k : Int32) (kl : Int64) (sw : List (Int32 × Nat)) (is : List mj_I) (lv : mj_LV) (st : List Value) (S : mj_S), mj_rb X hd cl nx Q e ((pc, .arraylength, len, (a, b, 1), k, kl, sw) :: is) lv st S = mj_pR (fun o r => o = 900000 ∧ mj_rb X hd cl nx Q e is lv (.int (Int32.ofNat X.1.1) :: r) S) st) ∧
  (∀ (X : mj_X) (hd : mj_H) (cl : mj_C) (nx : mj_N) (Q : mj_Q) (e pc len a b : Nat) (k : Int32) (kl : Int64) (sw : List (Int32 × Nat)) (is : List mj_I) (lv : mj_LV) (st : List Value) (S : mj_S) (z : _), mj_rb X hd cl nx Q e ((pc, .getfield z, len, (a, b, 0), k, kl, sw) :: is) lv st S = mj_pR (fun o r => mj_tt (mj_rb X hd cl nx Q e is lv (.int (S.2.1 o b) :: r) S) (mj_ob S.1 o a b)) st) ∧
  (∀ (X : mj_X) (hd : mj_H) (cl : mj_C) (nx : mj_N) (Q : mj_Q) (e pc len a b : Nat) (k : Int32) (kl : Int64) (sw : List (Int32 × Nat)) (is : List mj_I) (lv : mj_LV) (st : List Value) (S : mj_S) (z : _), mj_rb X hd cl nx Q e ((pc, .getfield z, len, (a, b, 2), k, kl, sw) :: is) lv st S = mj_pR (fun o r => mj_tt (mj_so (fun q => mj_rb X hd cl nx Q e is lv (.ref q :: r) S) (S.2.2.2.1 o b)) (mj_ob S.1 o a b)) st) := ⟨by intros; rfl, by intros; rfl, by intros; rfl, by intros; rfl, by intros; rfl, by intros; rfl, by intros; rfl, by intros; rfl, by intros; rfl, by intros; rfl, by intros; rfl, by intros; rfl, by intros; rfl, by intros; rfl, by intros; rfl, by intros; rfl, by intros; rfl, by intros; rfl, by intros; rfl, by intros; rfl, by intros; rfl, by intros; rfl, by intros; rfl, by intros; rfl, by intros; rfl, by intros; rfl, by intros; rfl, by intros; rfl, by intros; rfl, by intros; rfl, by intros; rfl, by intros; rfl, by intros; rfl, by intros; rfl, by intros; rfl, by intros; rfl, by intros; rfl, by intros; rfl, by intros; rfl, by intros; rfl⟩
theorem mjs_2 : (∀ (X : mj_X) (hd : mj_H) (cl : mj_C) (nx : mj_N) (Q : mj_Q) (e pc len a b : Nat) (k : Int32) (kl : Int64) (sw : List (Int32 × Nat)) (is : List mj_I) (lv : mj_LV) (st : List Value) (S : mj_S) (z : _), mj_rb X hd cl nx Q e ((pc, .putfield z, len, (a, b, 0), k, kl, sw) :: is) lv st S = mj_pI (fun v r => mj_pR (fun o r => mj_tt (mj_rb X hd cl nx Q e is lv r (S.1, mj_up S.2.1 o b v, S.2.2)) (mj_ob S.1 o a b)) r) st) ∧
  (∀ (X : mj_X) (hd : mj_H) (cl : mj_C) (nx : mj_N) (Q : mj_Q) (e pc len a b : Nat) (k : Int32) (kl : Int64) (sw : List (Int32 × Nat)) (is : List mj_I) (lv : mj_LV) (st : List Value) (S : mj_S) (z : _), mj_rb X hd cl nx Q e ((pc, .putfield z, len, (a, b, 2), k, kl, sw) :: is) lv st S = mj_pR (fun v r => mj_pR (fun o r => mj_tt (mj_rb X hd cl nx Q e is lv r (S.1, S.2.1, S.2.2.1, mj_up S.2.2.2.1 o b (some v), S.2.2.2.2)) (mj_ob S.1 o a b)) r) st) ∧
  (∀ (X : mj_X) (hd : mj_H) (cl : mj_C) (nx : mj_N) (Q : mj_Q) (e pc len a b : Nat) (k : Int32) (kl : Int64) (sw : List (Int32 × Nat)) (is : List mj_I) (lv : mj_LV) (st : List Value) (S : mj_S) (z : _), mj_rb X hd cl nx Q e ((pc, .putfield z, len, (a, b, 3), k, kl, sw) :: is) lv st S = mj_pI (fun v r => mj_pR (fun o r => mj_tt ((v = 0 ∨ v = 1) ∧ mj_rb X hd cl nx Q e is lv r (S.1, mj_up S.2.1 o b v, S.2.2)) (mj_ob S.1 o a b)) r) st) ∧
  (∀ (X : mj_X) (hd : mj_H) (cl : mj_C) (nx : mj_N) (Q : mj_Q) (e pc len a b : Nat) (k : Int32) (kl : Int64) (sw : List (Int32 × Nat)) (is : List mj_I) (lv : mj_LV) (st : List Value) (S : mj_S) (z : _), mj_rb X hd cl nx Q e ((pc, .new z, len, (a, b, 0), k, kl, sw) :: is) lv st S = mj_new X (fun q S' => mj_rb X hd cl nx Q e is lv (.ref q :: st) S') a b S) ∧
  (∀ (X : mj_X) (hd : mj_H) (cl : mj_C) (nx : mj_N) (Q : mj_Q) (e pc len a b : Nat) (k : Int32) (kl : Int64) (sw : List (Int32 × Nat)) (is : List mj_I) (lv : mj_LV) (st : List Value) (S : mj_S) (z : _), mj_rb X hd cl nx Q e ((pc, .new z, len, (a, b, 1), k, kl, sw) :: is) lv st S = mj_p0 ((S.2.2.2.2.1 + 1 ≤ X.2.2.1 ∧ S.2.2.2.2.2 + 6 ≤ X.2.2.2) ∧ Q (.inr a) (S.1, S.2.1, S.2.2.1, S.2.2.2.1, S.2.2.2.2.1 + 1, S.2.2.2.2.2 + 6)) st) ∧
  (∀ (X : mj_X) (hd : mj_H) (cl : mj_C) (nx : mj_N) (Q : mj_Q) (e pc len a b t : Nat) (k : Int32) (kl : Int64) (sw : List (Int32 × Nat)) (is : List mj_I) (lv : mj_LV) (st : List Value) (S : mj_S) (z : _), mj_rb X hd cl nx Q e ((pc, .newarray z, len, (a, b, t), k, kl, sw) :: is) lv st S = mj_pI (fun n r => ¬ n < 0 ∧ mj_new X (fun q S' => mj_rb X hd cl nx Q e is lv (.ref q :: r) S') (1000 + t) n.toNatClampNeg S) st) ∧
  (∀ (X : mj_X) (hd : mj_H) (cl : mj_C) (nx : mj_N) (Q : mj_Q) (e pc len a b t : Nat) (k : Int32) (kl : Int64) (sw : List (Int32 × Nat)) (is : List mj_I) (lv : mj_LV) (st : List Value) (S : mj_S) (z : _), mj_rb X hd cl nx Q e ((pc, .invokestatic z, len, (a, b, t), k, kl, sw) :: is) lv st S = mj_iv hd cl nx Q pc a b (mj_rb X hd cl nx Q e is) lv st S) ∧
  (∀ (X : mj_X) (hd : mj_H) (cl : mj_C) (nx : mj_N) (Q : mj_Q) (e pc len a b : Nat) (k : Int32) (kl : Int64) (sw : List (Int32 × Nat)) (is : List mj_I) (lv : mj_LV) (st : List Value) (S : mj_S) (z : _), mj_rb X hd cl nx Q e ((pc, .invokespecial z, len, (a, b, 0), k, kl, sw) :: is) lv st S = mj_ip hd cl nx Q pc a b (mj_rb X hd cl nx Q e is) lv st S) ∧
  (∀ (X : mj_X) (hd : mj_H) (cl : mj_C) (nx : mj_N) (Q : mj_Q) (e pc len a b : Nat) (k : Int32) (kl : Int64) (sw : List (Int32 × Nat)) (is : List mj_I) (lv : mj_LV) (st : List Value) (S : mj_S) (z : _), mj_rb X hd cl nx Q e ((pc, .invokespecial z, len, (a, b, 1), k, kl, sw) :: is) lv st S = mj_pR (fun _ r => mj_p0 (mj_rb X hd cl nx Q e is lv [] S) r) st) ∧
  (∀ (X : mj_X) (hd : mj_H) (cl : mj_C) (nx : mj_N) (Q : mj_Q) (e pc len a b : Nat) (k : Int32) (kl : Int64) (sw : List (Int32 × Nat)) (is : List mj_I) (lv : mj_LV) (st : List Value) (S : mj_S) (z : _), mj_rb X hd cl nx Q e ((pc, .invokevirtual z, len, (a, b, 999), k, kl, sw) :: is) lv st S = mj_iv hd cl nx Q pc a b (mj_rb X hd cl nx Q e is) lv st S) ∧
  (∀ (X : mj_X) (hd : mj_H) (cl : mj_C) (nx : mj_N) (Q : mj_Q) (e pc len a b : Nat) (k : Int32) (kl : Int64) (sw : List (Int32 × Nat)) (is : List mj_I) (lv : mj_LV) (st : List Value) (S : mj_S) (z : _), mj_rb X hd cl nx Q e ((pc, .invokevirtual z, len, (a, b, 0), k, kl, sw) :: is) lv st S = mj_ir hd cl nx Q pc a b 0 (mj_rb X hd cl nx Q e is) lv st S) ∧
  (∀ (X : mj_X) (hd : mj_H) (cl : mj_C) (nx : mj_N) (Q : mj_Q) (e pc len a b : Nat) (k : Int32) (kl : Int64) (sw : List (Int32 × Nat)) (is : List mj_I) (lv : mj_LV) (st : List Value) (S : mj_S) (z : _), mj_rb X hd cl nx Q e ((pc, .invokevirtual z, len, (a, b, 1), k, kl, sw) :: is) lv st S = mj_ir hd cl nx Q pc a b 1 (mj_rb X hd cl nx Q e is) lv st S) ∧
  (∀ (X : mj_X) (hd : mj_H) (cl : mj_C) (nx : mj_N) (Q : mj_Q) (e pc len a b : Nat) (k : Int32) (kl : Int64) (sw : List (Int32 × Nat)) (is : List mj_I) (lv : mj_LV) (st : List Value) (S : mj_S) (z : _), mj_rb X hd cl nx Q e ((pc, .invokevirtual z, len, (a, b, 2), k, kl, sw) :: is) lv st S = mj_ir hd cl nx Q pc a b 2 (mj_rb X hd cl nx Q e is) lv st S) ∧
  (∀ (X : mj_X) (hd : mj_H) (cl : mj_C) (nx : mj_N) (Q : mj_Q) (e pc len a b : Nat) (k : Int32) (kl : Int64) (sw : List (Int32 × Nat)) (is : List mj_I) (lv : mj_LV) (st : List Value) (S : mj_S) (z : _), mj_rb X hd cl nx Q e ((pc, .invokevirtual z, len, (a, b, 3), k, kl, sw) :: is) lv st S = mj_ir hd cl nx Q pc a b 3 (mj_rb X hd cl nx Q e is) lv st S) ∧
  (∀ (X : mj_X) (hd : mj_H) (cl : mj_C) (nx : mj_N) (Q : mj_Q) (e pc len a b : Nat) (k : Int32) (kl : Int64) (sw : List (Int32 × Nat)) (is : List mj_I) (lv : mj_LV) (st : List Value) (S : mj_S) (z : _), mj_rb X hd cl nx Q e ((pc, .invokevirtual z, len, (a, b, 4), k, kl, sw) :: is) lv st S = mj_ir hd cl nx Q pc a b 4 (mj_rb X hd cl nx Q e is) lv st S) ∧
  (∀ (X : mj_X) (hd : mj_H) (cl : mj_C) (nx : mj_N) (Q : mj_Q) (e pc len a b : Nat) (k : Int32) (kl : Int64) (sw : List (Int32 × Nat)) (is : List mj_I) (lv : mj_LV) (st : List Value) (S : mj_S) (z : _), mj_rb X hd cl nx Q e ((pc, .invokevirtual z, len, (a, b, 5), k, kl, sw) :: is) lv st S = mj_ir hd cl nx Q pc a b 5 (mj_rb X hd cl nx Q e is) lv st S) ∧
  (∀ (X : mj_X) (hd : mj_H) (cl : mj_C) (nx : mj_N) (Q : mj_Q) (e pc len a b : Nat) (k : Int32) (kl : Int64) (sw : List (Int32 × Nat)) (is : List mj_I) (lv : mj_LV) (st : List Value) (S : mj_S) (z : _), mj_rb X hd cl nx Q e ((pc, .invokevirtual z, len, (a, b, 6), k, kl, sw) :: is) lv st S = mj_ir hd cl nx Q pc a b 6 (mj_rb X hd cl nx Q e is) lv st S) ∧
  (∀ (X : mj_X) (hd : mj_H) (cl : mj_C) (nx : mj_N) (Q : mj_Q) (e pc len a b : Nat) (k : Int32) (kl : Int64) (sw : List (Int32 × Nat)) (is : List mj_I) (lv : mj_LV) (st : List Value) (S : mj_S) (z : _), mj_rb X hd cl nx Q e ((pc, .invokevirtual z, len, (a, b, 7), k, kl, sw) :: is) lv st S = mj_ir hd cl nx Q pc a b 7 (mj_rb X hd cl nx Q e is) lv st S) ∧
  (∀ (X : mj_X) (hd : mj_H) (cl : mj_C) (nx : mj_N) (Q : mj_Q) (e pc len a b : Nat) (k : Int32) (kl : Int64) (sw : List (Int32 × Nat)) (is : List mj_I) (lv : mj_LV) (st : List Value) (S : mj_S) (z : _), mj_rb X hd cl nx Q e ((pc, .invokevirtual z, len, (a, b, 8), k, kl, sw) :: is) lv st S = mj_ir hd cl nx Q pc a b 8 (mj_rb X hd cl nx Q e is) lv st S) ∧
  (∀ (X : mj_X) (hd : mj_H) (cl : mj_C) (nx : mj_N) (Q : mj_Q) (e pc len a b : Nat) (k : Int32) (kl : Int64) (sw : List (Int32 × Nat)) (is : List mj_I) (lv : mj_LV) (st : List Value) (S : mj_S) (z : _), mj_rb X hd cl nx Q e ((pc, .invokevirtual z, len, (a, b, 9), k, kl, sw) :: is) lv st S = mj_ir hd cl nx Q pc a b 9 (mj_rb X hd cl nx Q e is) lv st S) ∧
  (∀ (X : mj_X) (hd : mj_H) (cl : mj_C) (nx : mj_N) (Q : mj_Q) (e pc len a b : Nat) (k : Int32) (kl : Int64) (sw : List (Int32 × Nat)) (is : List mj_I) (lv : mj_LV) (st : List Value) (S : mj_S) (z : _), mj_rb X hd cl nx Q e ((pc, .invokevirtual z, len, (a, b, 10), k, kl, sw) :: is) lv st S = mj_ir hd cl nx Q pc a b 10 (mj_rb X hd cl nx Q e is) lv st S) ∧
  (∀ (X : mj_X) (hd : mj_H) (cl : mj_C) (nx : mj_N) (Q : mj_Q) (e pc len a b t : Nat) (k : Int32) (kl : Int64) (sw : List (Int32 × Nat)) (is : List mj_I) (lv : mj_LV) (st : List Value) (S : mj_S) (z : _), mj_rb X hd cl nx Q e ((pc, .checkcast z, len, (a, b, t), k, kl, sw) :: is) lv st S = mj_pR (fun o r => mj_so (fun _ => mj_rb X hd cl nx Q e is lv (.ref o :: r) S) (mj_ar S.1 o 0)) st) ∧
  (∀ (X : mj_X) (hd : mj_H) (cl : mj_C) (nx : mj_N) (Q : mj_Q) (e pc len a b : Nat) (k : Int32) (kl : Int64) (sw : List (Int32 × Nat)) (is : List mj_I) (lv : mj_LV) (st : List Value) (S : mj_S), mj_rb X hd cl nx Q e ((pc, .ireturn, len, (a, b, 0), k, kl, sw) :: is) lv st S = mj_pI (fun v r => mj_p0 (Q (.inl (some (.int v))) S) r) st) ∧
  (∀ (X : mj_X) (hd : mj_H) (cl : mj_C) (nx : mj_N) (Q : mj_Q) (e pc len a b : Nat) (k : Int32) (kl : Int64) (sw : List (Int32 × Nat)) (is : List mj_I) (lv : mj_LV) (st : List Value) (S : mj_S), mj_rb X hd cl nx Q e ((pc, .ireturn, len, (a, b, 1), k, kl, sw) :: is) lv st S = mj_pI (fun v r => mj_p0 ((v = 0 ∨ v = 1) ∧ Q (.inl (some (.int v))) S) r) st) ∧
  (∀ (X : mj_X) (hd : mj_H) (cl : mj_C) (nx : mj_N) (Q : mj_Q) (e pc len a b t : Nat) (k : Int32) (kl : Int64) (sw : List (Int32 × Nat)) (is : List mj_I) (lv : mj_LV) (st : List Value) (S : mj_S), mj_rb X hd cl nx Q e ((pc, .return_, len, (a, b, t), k, kl, sw) :: is) lv st S = mj_p0 (Q (.inl none) S) st) ∧
  (∀ (X : mj_X) (hd : mj_H) (cl : mj_C) (nx : mj_N) (Q : mj_Q) (e : Nat) (lv : mj_LV) (st : List Value) (S : mj_S), mj_rb X hd cl nx Q e [] lv st S = nx e lv st S Q) ∧
  (∀ (f : Int32 → List Value → Prop) (x : Int32) (r : List Value), mj_pI f (.int x :: r) = f x r) ∧
  (∀ (f : Int64 → List Value → Prop) (x : Int64) (r : List Value), mj_pL f (.long x :: r) = f x r) ∧
  (∀ (f : Nat → List Value → Prop) (x : Nat) (r : List Value), mj_pR f (.ref x :: r) = f x r) ∧
  (∀ (f : Prop), mj_p0 f [] = f) ∧
  (∀ (f : Value → List Value → Prop) (x : Int32) (r : List Value), mj_pV f (.int x :: r) = (1 = 1 ∧ f (.int x) r)) ∧
  (∀ (f : Value → List Value → Prop) (x : Nat) (r : List Value), mj_pV f (.ref x :: r) = (1 = 1 ∧ f (.ref x) r)) ∧
  (∀ (f : Int32 → Prop) (x : Int32), mj_gI f (some (.int x)) = f x) ∧
  (∀ (f : Int64 → Prop) (x : Int64), mj_gL f (some (.long x)) = f x) ∧
  (∀ (f : Value → Prop) (x : Nat), mj_gA f (some (.ref x)) = f (.ref x)) ∧
  (∀ (f : Prop), mj_tt f true = f) ∧
  (∀ (α : Type) (f : α → Prop) (x : α), mj_so f (some x) = f x) ∧
  (∀ (hd : mj_H) (cl : mj_C) (nx : mj_N) (Q : mj_Q) (pc a n : Nat) (K : mj_K) (lv : mj_LV) (st : List Value) (S : mj_S), mj_iv hd cl nx Q pc a n K lv st S = mj_so (fun z => mj_tt (cl a z.1 S (mj_ret hd nx pc K lv z.2 Q)) (Nat.ble (mj_wg z.2) 8)) (mj_tk n [] st)) ∧
  (∀ (hd : mj_H) (cl : mj_C) (nx : mj_N) (Q : mj_Q) (pc a n t : Nat) (K : mj_K) (lv : mj_LV) (st : List Value) (S : mj_S), mj_ir hd cl nx Q pc a n t K lv st S = mj_so (fun z => mj_tt (mj_rc (cl a z.1 S (mj_ret hd nx pc K lv z.2 Q)) S.1 t z.1) (Nat.ble (mj_wg z.2) 8)) (mj_tk n [] st)) ∧
  (∀ (hd : mj_H) (cl : mj_C) (nx : mj_N) (Q : mj_Q) (pc a n : Nat) (K : mj_K) (lv : mj_LV) (st : List Value) (S : mj_S), mj_ip hd cl nx Q pc a n K lv st S = mj_so (fun z => mj_tt (mj_hr (cl a z.1 S (mj_ret hd nx pc K lv z.2 Q)) z.1) (Nat.ble (mj_wg z.2) 8)) (mj_tk n [] st)) := ⟨by intros; rfl, by intros; rfl, by intros; rfl, by intros; rfl, by intros; rfl, by intros; rfl, by intros; rfl, by intros; rfl, by intros; rfl, by intros; rfl, by intros; rfl, by intros; rfl, by intros; rfl, by intros; rfl, by intros; rfl, by intros; rfl, by intros; rfl, by intros; rfl, by intros; rfl, by intros; rfl, by intros; rfl, by intros; rfl, by intros; rfl, by intros; rfl, by intros; rfl, by intros; rfl, by intros; rfl, by intros; rfl, by intros; rfl, by intros; rfl, by intros; rfl, by intros; rfl, by intros; rfl, by intros; rfl, by intros; rfl, by intros; rfl, by intros; rfl, by intros; rfl, by intros; rfl, by intros; rfl⟩
theorem mjs_3 : (∀ (f : Prop) (o : Nat) (r : List Value), mj_hr f (.ref o :: r) = f) ∧
  (∀ (acc st : List Value), mj_tk 0 acc st = some (acc, st)) ∧
  (∀ (n : Nat) (acc st : List Value) (v : Value), mj_tk (n + 1) acc (v :: st) = mj_tk n (v :: acc) st) ∧
  (mj_wg [] = 0) ∧
  (∀ (x : Int32) (r : List Value), mj_wg (.int x :: r) = 1 + mj_wg r) ∧
  (∀ (x : Nat) (r : List Value), mj_wg (.ref x :: r) = 1 + mj_wg r) ∧
  (∀ (x : Int64) (r : List Value), mj_wg (.long x :: r) = 2 + mj_wg r) ∧
  (∀ (K : mj_K) (t : Nat) (lv : mj_LV) (k : Int32) (o : Nat) (r : List Value) (S : mj_S), mj_ald K t lv (.int k :: .ref o :: r) S = mj_so (fun n => vp_in k n ∧ K lv (.int (S.2.1 o k.toNatClampNeg) :: r) S) (mj_ar S.1 o t)) ∧
  (∀ (K : mj_K) (nar : Int32 → Int32) (t : Nat) (lv : mj_LV) (v k : Int32) (o : Nat) (r : List Value) (S : mj_S), mj_ast K nar t lv (.int v :: .int k :: .ref o :: r) S = mj_so (fun n => vp_in k n ∧ K lv r (S.1, mj_up S.2.1 o k.toNatClampNeg (nar v), S.2.2)) (mj_ar S.1 o t)) ∧
  (∀ (lv : mj_LV) (v : Value), mj_st lv 0 v = lv.set 0 (some v)) ∧
  (∀ (lv : mj_LV) (j : Nat) (v : Value), mj_st lv (j + 1) v = if mj_c2 (lv.getD j none) then (lv.set j none).set (j + 1) (some v) else lv.set (j + 1) (some v)) ∧
  (∀ (lv : mj_LV) (i : Nat) (v : Int64), mj_st2 lv i v = (mj_st lv i (.long v)).set (i + 1) none) ∧
  (mj_c2 none = false) ∧
  (∀ (x : Int32), mj_c2 (some (.int x)) = false) ∧
  (∀ (x : Nat), mj_c2 (some (.ref x)) = false) ∧
  (∀ (x : Int64), mj_c2 (some (.long x)) = true) ∧
  (∀ (vs : mj_LV), mj_mk [] vs = []) ∧
  (∀ (bs : List Bool) (v : Option Value) (vs : mj_LV), mj_mk (true :: bs) (v :: vs) = v :: mj_mk bs vs) ∧
  (∀ (bs : List Bool) (v : Option Value) (vs : mj_LV), mj_mk (false :: bs) (v :: vs) = none :: mj_mk bs vs) ∧
  (∀ (nx : Nat → Prop) (d : Nat) (x : Int32), mj_sw nx d x [] = nx d) ∧
  (∀ (nx : Nat → Prop) (d : Nat) (x k : Int32) (t : Nat) (r : List (Int32 × Nat)), mj_sw nx d x ((k, t) :: r) = ((x = k → nx t) ∧ (¬ x = k → mj_sw nx d x r))) ∧
  (∀ (hd : mj_H) (nx : mj_N) (pc : Nat) (K : mj_K) (lv : mj_LV) (r : List Value) (Q : mj_Q) (S : mj_S), mj_ret hd nx pc K lv r Q (.inl none) S = K lv r S) ∧
  (∀ (hd : mj_H) (nx : mj_N) (pc : Nat) (K : mj_K) (lv : mj_LV) (r : List Value) (Q : mj_Q) (S : mj_S) (v : Value), mj_ret hd nx pc K lv r Q (.inl (some v)) S = K lv (v :: r) S) ∧
  (∀ (nx : mj_N) (pc : Nat) (K : mj_K) (lv : mj_LV) (r : List Value) (Q : mj_Q) (S : mj_S) (x : Nat), mj_ret (mj_hd []) nx pc K lv r Q (.inr x) S = Q (.inr x) S) ∧
  (mj_en [] = []) ∧
  (∀ (x : Int32) (r : List Value), mj_en (.int x :: r) = some (.int x) :: mj_en r) ∧
  (∀ (x : Nat) (r : List Value), mj_en (.ref x :: r) = some (.ref x) :: mj_en r) ∧
  (∀ (x : Int64) (r : List Value), mj_en (.long x :: r) = some (.long x) :: none :: mj_en r) ∧
  (∀ (α : Type) (x d : α) (r : List α), (x :: r).getD 0 d = x) ∧
  (∀ (α : Type) (x d : α) (r : List α) (n : Nat), (x :: r).getD (n + 1) d = r.getD n d) ∧
  (∀ (α : Type) (x y : α) (r : List α), (x :: r).set 0 y = y :: r) ∧
  (∀ (α : Type) (x y : α) (r : List α) (n : Nat), (x :: r).set (n + 1) y = x :: r.set n y) ∧
  (∀ (α : Type) (x : α) (r s : List α), (x :: r) ++ s = x :: (r ++ s)) ∧
  (∀ (α : Type) (s : List α), [] ++ s = s) ∧
  (∀ (α : Type) (x : α), List.replicate 0 x = []) ∧
  (∀ (α : Type) (x : α) (n : Nat), List.replicate (n + 1) x = x :: List.replicate n x) ∧
  (∀ (α : Type) (x : α) (r : List α), (x :: r).length = r.length + 1) ∧
  (∀ (α : Type), ([] : List α).length = 0) := ⟨by intros; rfl, by intros; rfl, by intros; rfl, by intros; rfl, by intros; rfl, by intros; rfl, by intros; rfl, by intros; rfl, by intros; rfl, by intros; rfl, by intros; rfl, by intros; rfl, by intros; rfl, by intros; rfl, by intros; rfl, by intros; rfl, by intros; rfl, by intros; rfl, by intros; rfl, by intros; rfl, by intros; rfl, by intros; rfl, by intros; rfl, by intros; rfl, by intros; rfl, by intros; rfl, by intros; rfl, by intros; rfl, by intros; rfl, by intros; rfl, by intros; rfl, by intros; rfl, by intros; rfl, by intros; rfl, by intros; rfl, by intros; rfl, by intros; rfl, by intros; rfl⟩
theorem mjs_ble {f : Prop} {n m : Nat} (h : n ≤ m) : mj_tt f (Nat.ble n m) = f := by rw [Nat.ble_eq_true_of_le h]; rfl
theorem mjs_rc {f : Prop} {sh : List (Nat × Nat)} {c o n : Nat} {r : List Value} (h : sh[o]? = some (c, n)) : mj_rc f sh c (.ref o :: r) = f := by
  show mj_tt f (match sh[o]? with
    | some (k, _) => k == c
    | none => false) = f
  rw [h]
  show mj_tt f (c == c) = f
  rw [beq_self_eq_true]
  rfl
theorem mjs_ob {f : Prop} {sh : List (Nat × Nat)} {c o n b : Nat} (h : sh[o]? = some (c, n)) (hb : b < n) : mj_tt f (mj_ob sh o c b) = f := by
  unfold mj_ob
  rw [h]
  show mj_tt f ((c == c) && Nat.blt b n) = f
  rw [beq_self_eq_true, Nat.blt_eq.mpr hb]
  rfl
theorem mjs_ar {sh : List (Nat × Nat)} {o t n : Nat} (h : sh[o]? = some (1000 + t, n)) : mj_ar sh o t = some n := by
  unfold mj_ar
  rw [h]
  show (if 1000 + t = 1000 + t then some n else none) = some n
  rw [if_pos rfl]
section MJENT
variable {X : mj_X} {d : Nat} {Q : mj_Q} {S : mj_S} {as : List Value} {lv : mj_LV} {st : List Value}
/-- a method's body is entered -/
theorem mj_enter {M : Nat} {z : mj_M} (hM : M < 900) (hP : mj_P[M]? = some z) (hl : Nat.ble (mj_en as).length z.1 = true) (h : mj_rn X (mj_hd z.2.1) (mj_call X mj_P (mj_bi X) d) z.2.2 0 (mj_en as ++ List.replicate (z.1 - (mj_en as).length) none) [] S Q) : mj_call X mj_P (mj_bi X) (d + 1) M as S Q := by
  unfold mj_call
  rw [if_neg (Nat.not_le.mpr hM), hP]
  show mj_tt _ _
  rw [hl]
  exact h
/-- a block is entered -/
theorem mj_blk {hd : mj_H} {T : List mj_B} {pc : Nat} {b : mj_B} (hb : mj_bk T pc = some b) (h : mj_rb X hd (mj_call X mj_P (mj_bi X) d) (mj_rn X hd (mj_call X mj_P (mj_bi X) d) T) Q b.2.2.2 b.2.2.1 (mj_mk b.2.1 lv) st S) : mj_rn X hd (mj_call X mj_P (mj_bi X) d) T pc lv st S Q := by
  refine mj_rn_in (mj_call_ok (mj_bi_mono X) (mj_bi_one X) d).1 (mj_call_ok (mj_bi_mono X) (mj_bi_one X) d).2 ?_
  unfold mj_at
  rw [hb]
  exact h
theorem mj_mono {M : Nat} {Q' : mj_Q} (h : mj_call X mj_P (mj_bi X) d M as S Q) (hQ : ∀ o S', Q o S' → Q' o S') : mj_call X mj_P (mj_bi X) d M as S Q' := (mj_call_ok (mj_bi_mono X) (mj_bi_one X) d).1 M as S Q Q' hQ h
theorem mjs_up_at {α : Type} {f : Nat → Nat → α} {a j : Nat} {v : α} : mj_up f a j v a j = v := by unfold mj_up; rw [if_pos rfl, if_pos rfl]
theorem mjs_up_ne {α : Type} {f : Nat → Nat → α} {a j b k : Nat} {v : α} (h : b ≠ a ∨ k ≠ j) : mj_up f a j v b k = f b k := by
  unfold mj_up
  split
  · split
    · rename_i h1 h2
      rcases h with h | h
      · exact absurd h1 h
      · exact absurd h2 h
    · rfl
  · rfl
end MJENT
end
section
/-! LEAVES, walked -/
section MJLEAF
variable {X : mj_X} {d o : Nat} {S : mj_S} {Q : mj_Q}
theorem c_75 (hQ : Q (.inl none) S) : mj_call X mj_P (mj_bi X) (d + 1) 75 [.ref o] S Q := by
  refine mj_enter (z := (1, [], mb_75)) (by decide) rfl rfl ?_
  refine mj_blk rfl ?_
  simp +decide only [mjs_0, mjs_1, mjs_2, mjs_3, mjs_ble, true_and, Bool.false_eq_true, if_false, if_true, Nat.reduceAdd, Nat.reduceSub, Nat.reduceLeDiff]
  exact hQ
theorem c_76 {n : Int32} (h : S.1[o]? = some (7, 4)) (hQ : Q (.inl none) (S.1, mj_up (mj_up (mj_up (mj_up S.2.1 o 0 0) o 1 0) o 2 n) o 3 0, S.2.2)) : mj_call X mj_P (mj_bi X) (d + 1) 76 [.ref o, .int n] S Q := by
  refine mj_enter (z := (2, [], mb_76)) (by decide) rfl rfl ?_
  refine mj_blk rfl ?_
  simp +decide only [mjs_0, mjs_1, mjs_2, mjs_3, mjs_ble, true_and, Bool.false_eq_true, if_false, if_true, Nat.reduceAdd, Nat.reduceSub, Nat.reduceLeDiff, mjs_ob h]
  exact hQ
theorem c_46 (h : S.1[o]? = some (4, 6)) (hQ : Q (.inl none) (S.1, mj_up (mj_up S.2.1 o 3 0) o 4 1, S.2.2)) : mj_call X mj_P (mj_bi X) (d + 1) 46 [.ref o] S Q := by
  refine mj_enter (z := (1, [], mb_46)) (by decide) rfl rfl ?_
  refine mj_blk rfl ?_
  simp +decide only [mjs_0, mjs_1, mjs_2, mjs_3, mjs_ble, true_and, Bool.false_eq_true, if_false, if_true, Nat.reduceAdd, Nat.reduceSub, Nat.reduceLeDiff, mjs_ob h]
  exact hQ
theorem c_86 (h : S.1[o]? = some (8, 13)) (hQ : Q (.inl none) (S.1, mj_up S.2.1 o 3 (S.2.1 o 4 + 1), S.2.2)) : mj_call X mj_P (mj_bi X) (d + 1) 86 [.ref o] S Q := by
  refine mj_enter (z := (1, [], mb_86)) (by decide) rfl rfl ?_
  refine mj_blk rfl ?_
  simp +decide only [mjs_0, mjs_1, mjs_2, mjs_3, mjs_ble, true_and, Bool.false_eq_true, if_false, if_true, Nat.reduceAdd, Nat.reduceSub, Nat.reduceLeDiff, mjs_ob h]
  exact hQ
theorem c_83 (h : S.1[o]? = some (8, 13)) (hQ : Q (.inl none) (S.1, mj_up (mj_up (mj_up (mj_up (mj_up S.2.1 o 2 0) o 6 0) o 8 0) o 4 0) o 3 1, S.2.2)) : mj_call X mj_P (mj_bi X) (d + 2) 83 [.ref o] S Q := by
  refine mj_enter (z := (1, [], mb_83)) (by decide) rfl rfl ?_
  refine mj_blk rfl ?_
  simp +decide only [mjs_0, mjs_1, mjs_2, mjs_3, mjs_ble, true_and, Bool.false_eq_true, if_false, if_true, Nat.reduceAdd, Nat.reduceSub, Nat.reduceLeDiff, mjs_ob h, mjs_rc h]
  refine c_86 h ?_
  simp +decide only [mjs_0, mjs_1, mjs_2, mjs_3, mjs_ble, true_and, Bool.false_eq_true, if_false, if_true, Nat.reduceAdd, Nat.reduceSub, Nat.reduceLeDiff, mjs_up_at]
  exact hQ
theorem c_80 {n : Int32} (h : S.1[o]? = some (7, 4)) (hr : S.2.2.2.2.1 + 1 ≤ X.2.2.1 ∧ S.2.2.2.2.2 + 6 ≤ X.2.2.2) (hQ : Q (.inr 500) (S.1, mj_up S.2.1 o 0 n, S.2.2.1, S.2.2.2.1, S.2.2.2.2.1 + 1, S.2.2.2.2.2 + 6)) : mj_call X mj_P (mj_bi X) (d + 1) 80 [.ref o, .int n] S Q := by
  refine mj_enter (z := (2, [], mb_80)) (by decide) rfl rfl ?_
  refine mj_blk rfl ?_
  simp +decide only [mjs_0, mjs_1, mjs_2, mjs_3, mjs_ble, true_and, Bool.false_eq_true, if_false, if_true, Nat.reduceAdd, Nat.reduceSub, Nat.reduceLeDiff, mjs_ob h]
  exact ⟨hr, hQ⟩
theorem c_77 (h : S.1[o]? = some (7, 4)) (hr : S.2.2.2.2.1 + 1 ≤ X.2.2.1 ∧ S.2.2.2.2.2 + 6 ≤ X.2.2.2)
    (hQ1 : S.2.1 o 1 + 1 ≤ S.2.1 o 2 → Q (.inl none) (S.1, mj_up S.2.1 o 1 (S.2.1 o 1 + 1), S.2.2))
    (hQ2 : ¬ S.2.1 o 1 + 1 ≤ S.2.1 o 2 → Q (.inr 500) (S.1, mj_up (mj_up S.2.1 o 1 (S.2.1 o 1 + 1)) o 0 10, S.2.2.1, S.2.2.2.1, S.2.2.2.2.1 + 1, S.2.2.2.2.2 + 6)) : mj_call X mj_P (mj_bi X) (d + 2) 77 [.ref o] S Q := by
  refine mj_enter (z := (1, [], mb_77)) (by decide) rfl rfl ?_
  refine mj_blk rfl ?_
  have e1 : ∀ v : Int32, mj_up S.2.1 o 1 v o 1 = v := fun v => mjs_up_at
  have e2 : ∀ v : Int32, mj_up S.2.1 o 1 v o 2 = S.2.1 o 2 := fun v => mjs_up_ne (Or.inr (by decide))
  simp +decide only [mjs_0, mjs_1, mjs_2, mjs_3, mjs_ble, true_and, Bool.false_eq_true, if_false, if_true, Nat.reduceAdd, Nat.reduceSub, Nat.reduceLeDiff, mjs_ob h, e1, e2]
  refine ⟨fun q => mj_blk rfl ?_, fun q => mj_blk rfl ?_⟩
  · simp +decide only [mjs_0, mjs_1, mjs_2, mjs_3, mjs_ble, true_and, Bool.false_eq_true, if_false, if_true, Nat.reduceAdd, Nat.reduceSub, Nat.reduceLeDiff]
    exact hQ1 q
  · simp +decide only [mjs_0, mjs_1, mjs_2, mjs_3, mjs_ble, true_and, Bool.false_eq_true, if_false, if_true, Nat.reduceAdd, Nat.reduceSub, Nat.reduceLeDiff, mjs_rc h]
    refine c_80 h hr ?_
    simp +decide only [mjs_0, mjs_1, mjs_2, mjs_3, mjs_ble, true_and, Bool.false_eq_true, if_false, if_true, Nat.reduceAdd, Nat.reduceSub, Nat.reduceLeDiff]
    exact hQ2 q
end MJLEAF
end
section
/-! NAMES: find keeps to its rows -/
def nm_C (sh : List (Nat × Nat)) (Rf : Nat → Nat → Option Nat) (o l s f n : Nat) : Prop := sh[o]? = some (5, 6) ∧ sh[l]? = some (1002, 40237) ∧ sh[s]? = some (1000, 1037) ∧ sh[f]? = some (1000, 256) ∧ sh[n]? = some (1000, 1036) ∧ Rf o 0 = some l ∧ Rf o 1 = some s ∧ Rf o 2 = some f ∧ Rf o 4 = some n
def nm_id (k : Nat) (x : Int32) : Prop := x = -1 ∨ ∃ i : Nat, i < k ∧ x = nI i
def nm_I (I : Nat → Nat → Int32) (o s f n k M : Nat) : Prop := I o 5 = nI k ∧ k ≤ M ∧ M ≤ 1036 ∧ (∀ j, j < 256 → nm_id k (I f j)) ∧ (∀ j, j < k → nm_id k (I n j)) ∧ ∀ j, j ≤ k → ∃ v : Nat, I s j = nI v ∧ v + 40 * (M - j) ≤ 40237
section MJNAMES
variable {X : mj_X} {d : Nat} {Q : mj_Q} {sh : List (Nat × Nat)} {I : Nat → Nat → Int32} {Lg : Nat → Nat → Int64} {Rf : Nat → Nat → Option Nat} {nc ns o l s f n r rn a len k M : Nat}
theorem f57_hash (hr : sh[r]? = some (1000, rn)) (hrn : rn < 2 ^ 31) (hal : a + len ≤ rn)
    (hk : ∀ h : Int32, mj_rn X (mj_hd []) (mj_call X mj_P (mj_bi X) d) mb_57 32 [some (.ref o), some (.ref r), some (.int (nI a)), some (.int (nI len)), some (.int h), some (.int (nI len)), none, none, none] [] (sh, I, Lg, Rf, nc, ns) Q) :
    ∀ (m j : Nat) (h : Int32), j + m = len → mj_rn X (mj_hd []) (mj_call X mj_P (mj_bi X) d) mb_57 6 [some (.ref o), some (.ref r), some (.int (nI a)), some (.int (nI len)), some (.int h), some (.int (nI j)), none, none, none] [] (sh, I, Lg, Rf, nc, ns) Q
  | 0, j, h, hj => by
    obtain rfl : j = len := by omega
    refine mj_blk rfl ?_
    simp +decide only [mjs_0, mjs_1, mjs_2, mjs_3, mjs_ble, true_and, Bool.false_eq_true, if_false, if_true, Nat.reduceAdd, Nat.reduceSub, Nat.reduceLeDiff]
    exact ⟨fun _ => hk h, fun q => absurd (nI_le (Nat.le_refl j) (by omega)) q⟩
  | m + 1, j, h, hj => by
    refine mj_blk rfl ?_
    simp +decide only [mjs_0, mjs_1, mjs_2, mjs_3, mjs_ble, true_and, Bool.false_eq_true, if_false, if_true, Nat.reduceAdd, Nat.reduceSub, Nat.reduceLeDiff]
    refine ⟨fun q => absurd q (nI_ge (by omega) (by omega)), fun _ => mj_blk rfl ?_⟩
    simp +decide only [mjs_0, mjs_1, mjs_2, mjs_3, mjs_ble, true_and, Bool.false_eq_true, if_false, if_true, Nat.reduceAdd, Nat.reduceSub, Nat.reduceLeDiff, mjs_ar (t := 0) hr, nI_add, nI_1]
    exact ⟨nI_in (by omega) hrn, f57_hash hr hrn hal hk m (j + 1) _ (by omega)⟩
theorem nm_st (hI : nm_I I o s f n k M) {j : Nat} (hj : j ≤ k) : ∃ v : Nat, I s j = nI v ∧ v + 40 * (M - j) ≤ 40237 := hI.2.2.2.2.2 j hj
/-- the letters of one name against the row's -/
theorem f57_same (hC : nm_C sh Rf o l s f n) (hr : sh[r]? = some (1000, rn)) (hrn : rn < 2 ^ 31) (hal : a + len ≤ rn) (hlen : len ≤ 40) {x v B : Nat} (hx : x < 1036) (hv : I s x = nI v) (hvb : v + 40 ≤ 40237) {i bk : Int32}
    (hk : ∀ c : Int32, (c = -1 ∨ c = nI len) → mj_rn X (mj_hd []) (mj_call X mj_P (mj_bi X) d) mb_57 142 [some (.ref o), some (.ref r), some (.int (nI a)), some (.int (nI len)), none, some (.int bk), some (.int (nI x)), some (.int i), some (.int c)] [] (sh, I, Lg, Rf, nc, ns) Q) :
    (∀ (m y : Nat), y + m = len → mj_rn X (mj_hd []) (mj_call X mj_P (mj_bi X) d) mb_57 94 [some (.ref o), some (.ref r), some (.int (nI a)), some (.int (nI len)), none, some (.int bk), some (.int (nI x)), some (.int i), some (.int (nI y))] [] (sh, I, Lg, Rf, nc, ns) Q) ∧
    mj_rn X (mj_hd []) (mj_call X mj_P (mj_bi X) d) mb_57 94 [some (.ref o), some (.ref r), some (.int (nI a)), some (.int (nI len)), none, some (.int bk), some (.int (nI x)), some (.int i), some (.int (-1))] [] (sh, I, Lg, Rf, nc, ns) Q := by
  obtain ⟨c1, c2, c3, c4, c5, r0, r1, r2, r4⟩ := hC
  have h1 : mj_rn X (mj_hd []) (mj_call X mj_P (mj_bi X) d) mb_57 94 [some (.ref o), some (.ref r), some (.int (nI a)), some (.int (nI len)), none, some (.int bk), some (.int (nI x)), some (.int i), some (.int (-1))] [] (sh, I, Lg, Rf, nc, ns) Q := by
    refine mj_blk rfl ?_
    simp +decide only [mjs_0, mjs_1, mjs_2, mjs_3, mjs_ble, true_and, Bool.false_eq_true, if_false, if_true, Nat.reduceAdd, Nat.reduceSub, Nat.reduceLeDiff]
    exact ⟨fun _ => hk _ (Or.inl rfl), fun q => q.elim⟩
  refine ⟨fun m => ?_, h1⟩
  induction m with
  | zero =>
    intro y hy
    obtain rfl : y = len := by omega
    refine mj_blk rfl ?_
    simp +decide only [mjs_0, mjs_1, mjs_2, mjs_3, mjs_ble, true_and, Bool.false_eq_true, if_false, if_true, Nat.reduceAdd, Nat.reduceSub, Nat.reduceLeDiff]
    refine ⟨fun q => absurd q (nI_pos (by omega)), fun _ => mj_blk rfl ?_⟩
    simp +decide only [mjs_0, mjs_1, mjs_2, mjs_3, mjs_ble, true_and, Bool.false_eq_true, if_false, if_true, Nat.reduceAdd, Nat.reduceSub, Nat.reduceLeDiff]
    exact ⟨fun _ => hk _ (Or.inr rfl), fun q => absurd (nI_le (Nat.le_refl y) (by omega)) q⟩
  | succ m ih =>
    intro y hy
    refine mj_blk rfl ?_
    simp +decide only [mjs_0, mjs_1, mjs_2, mjs_3, mjs_ble, true_and, Bool.false_eq_true, if_false, if_true, Nat.reduceAdd, Nat.reduceSub, Nat.reduceLeDiff]
    refine ⟨fun q => absurd q (nI_pos (by omega)), fun _ => mj_blk rfl ?_⟩
    simp +decide only [mjs_0, mjs_1, mjs_2, mjs_3, mjs_ble, true_and, Bool.false_eq_true, if_false, if_true, Nat.reduceAdd, Nat.reduceSub, Nat.reduceLeDiff]
    refine ⟨fun q => absurd q (nI_ge (by omega) (by omega)), fun _ => mj_blk rfl ?_⟩
    have e1 : (nI x).toNatClampNeg = x := nI_clamp (by omega)
    simp +decide only [mjs_0, mjs_1, mjs_2, mjs_3, mjs_ble, true_and, Bool.false_eq_true, if_false, if_true, Nat.reduceAdd, Nat.reduceSub, Nat.reduceLeDiff, mjs_ob c1, r0, r1, mjs_ar (t := 0) c3, mjs_ar (t := 2) c2, mjs_ar (t := 0) hr, e1, hv, nI_add]
    refine ⟨nI_in (by omega) (by omega), nI_in (by omega) (by omega), nI_in (by omega) hrn, fun _ => mj_blk rfl ?_, fun _ => mj_blk rfl ?_⟩
    · simp +decide only [mjs_0, mjs_1, mjs_2, mjs_3, mjs_ble, true_and, Bool.false_eq_true, if_false, if_true, Nat.reduceAdd, Nat.reduceSub, Nat.reduceLeDiff]
      refine mj_blk rfl ?_
      simp +decide only [mjs_0, mjs_1, mjs_2, mjs_3, mjs_ble, true_and, Bool.false_eq_true, if_false, if_true, Nat.reduceAdd, Nat.reduceSub, Nat.reduceLeDiff]
      exact h1
    · simp +decide only [mjs_0, mjs_1, mjs_2, mjs_3, mjs_ble, true_and, Bool.false_eq_true, if_false, if_true, Nat.reduceAdd, Nat.reduceSub, Nat.reduceLeDiff, nI_1]
      refine mj_blk rfl ?_
      simp +decide only [mjs_0, mjs_1, mjs_2, mjs_3, mjs_ble, true_and, Bool.false_eq_true, if_false, if_true, Nat.reduceAdd, Nat.reduceSub, Nat.reduceLeDiff]
      exact ih (y + 1) (by omega)
theorem nm_len_ne {len : Nat} (h : len < 2 ^ 31) : ¬ (-1 : Int32) = nI len := by
  intro q
  have := nI_pos h
  rw [← q] at this
  exact this (by decide)
theorem f57_chain (hC : nm_C sh Rf o l s f n) (hr : sh[r]? = some (1000, rn)) (hrn : rn < 2 ^ 31) (hal : a + len ≤ rn) (hlen : len ≤ 40) (hI : nm_I I o s f n k M) {bk : Int32}
    (h166 : ∀ x i : Int32, mj_rn X (mj_hd []) (mj_call X mj_P (mj_bi X) d) mb_57 166 [some (.ref o), some (.ref r), some (.int (nI a)), some (.int (nI len)), none, some (.int bk), some (.int x), some (.int i), none] [] (sh, I, Lg, Rf, nc, ns) Q)
    (hret : ∀ x : Nat, x < k → Q (.inl (some (.int (nI x)))) (sh, I, Lg, Rf, nc, ns)) :
    ∀ (m i : Nat) (x : Int32) (w : Option Value), i + m = k → nm_id k x → mj_rn X (mj_hd []) (mj_call X mj_P (mj_bi X) d) mb_57 52 [some (.ref o), some (.ref r), some (.int (nI a)), some (.int (nI len)), w, some (.int bk), some (.int x), some (.int (nI i)), none] [] (sh, I, Lg, Rf, nc, ns) Q := by
  have hC' := hC
  obtain ⟨c1, c2, c3, c4, c5, r0, r1, r2, r4⟩ := hC
  obtain ⟨i1, i2, i3, i4, i5, i6⟩ := hI
  intro m
  induction m with
  | zero =>
    intro i x w hi hx
    obtain rfl : i = k := by omega
    refine mj_blk rfl ?_
    simp +decide only [mjs_0, mjs_1, mjs_2, mjs_3, mjs_ble, true_and, Bool.false_eq_true, if_false, if_true, Nat.reduceAdd, Nat.reduceSub, Nat.reduceLeDiff, mjs_ob c1, i1]
    exact ⟨fun _ => h166 x _, fun q => absurd (nI_le (Nat.le_refl i) (by omega)) q⟩
  | succ m ih =>
    intro i x w hi hx
    refine mj_blk rfl ?_
    simp +decide only [mjs_0, mjs_1, mjs_2, mjs_3, mjs_ble, true_and, Bool.false_eq_true, if_false, if_true, Nat.reduceAdd, Nat.reduceSub, Nat.reduceLeDiff, mjs_ob c1, i1]
    refine ⟨fun q => absurd q (nI_ge (by omega) (by omega)), fun _ => mj_blk rfl ?_⟩
    simp +decide only [mjs_0, mjs_1, mjs_2, mjs_3, mjs_ble, true_and, Bool.false_eq_true, if_false, if_true, Nat.reduceAdd, Nat.reduceSub, Nat.reduceLeDiff]
    refine ⟨fun _ => h166 x _, fun q => mj_blk rfl ?_⟩
    rcases hx with rfl | ⟨y, hy, rfl⟩
    · exact absurd (by decide) q
    obtain ⟨v0, hv0, b0⟩ := i6 y (by omega)
    obtain ⟨v1, hv1, b1⟩ := i6 (y + 1) (by omega)
    have e0 : (nI y).toNatClampNeg = y := nI_clamp (by omega)
    have e1 : (nI (y + 1)).toNatClampNeg = y + 1 := nI_clamp (by omega)
    have hs := f57_same (X := X) (d := d) (Q := Q) (Lg := Lg) (nc := nc) (ns := ns) (B := 0) (i := nI i) (bk := bk) hC' hr hrn hal hlen (x := y) (v := v0) (by omega) hv0 (by omega) (fun c hc => by
      refine mj_blk rfl ?_
      simp +decide only [mjs_0, mjs_1, mjs_2, mjs_3, mjs_ble, true_and, Bool.false_eq_true, if_false, if_true, Nat.reduceAdd, Nat.reduceSub, Nat.reduceLeDiff]
      refine ⟨fun _ => mj_blk rfl ?_, fun _ => mj_blk rfl ?_⟩
      · simp +decide only [mjs_0, mjs_1, mjs_2, mjs_3, mjs_ble, true_and, Bool.false_eq_true, if_false, if_true, Nat.reduceAdd, Nat.reduceSub, Nat.reduceLeDiff, mjs_ob c1, r4, mjs_ar (t := 0) c5, e0, nI_1]
        exact ⟨nI_in (by omega) (by omega), ih (i + 1) _ _ (by omega) (i5 y hy)⟩
      · simp +decide only [mjs_0, mjs_1, mjs_2, mjs_3, mjs_ble, true_and, Bool.false_eq_true, if_false, if_true, Nat.reduceAdd, Nat.reduceSub, Nat.reduceLeDiff]
        exact hret y hy)
    simp +decide only [mjs_0, mjs_1, mjs_2, mjs_3, mjs_ble, true_and, Bool.false_eq_true, if_false, if_true, Nat.reduceAdd, Nat.reduceSub, Nat.reduceLeDiff, mjs_ob c1, r1, mjs_ar (t := 0) c3, nI_1, e0, e1, hv0, hv1]
    refine ⟨nI_in (by omega) (by omega), nI_in (by omega) (by omega), fun _ => mj_blk rfl ?_, fun _ => mj_blk rfl ?_⟩
    · simp +decide only [mjs_0, mjs_1, mjs_2, mjs_3, mjs_ble, true_and, Bool.false_eq_true, if_false, if_true, Nat.reduceAdd, Nat.reduceSub, Nat.reduceLeDiff]
      refine mj_blk rfl ?_
      simp +decide only [mjs_0, mjs_1, mjs_2, mjs_3, mjs_ble, true_and, Bool.false_eq_true, if_false, if_true, Nat.reduceAdd, Nat.reduceSub, Nat.reduceLeDiff]
      exact hs.2
    · simp +decide only [mjs_0, mjs_1, mjs_2, mjs_3, mjs_ble, true_and, Bool.false_eq_true, if_false, if_true, Nat.reduceAdd, Nat.reduceSub, Nat.reduceLeDiff]
      refine mj_blk rfl ?_
      simp +decide only [mjs_0, mjs_1, mjs_2, mjs_3, mjs_ble, true_and, Bool.false_eq_true, if_false, if_true, Nat.reduceAdd, Nat.reduceSub, Nat.reduceLeDiff]
      exact hs.1 len 0 (Nat.zero_add _)
theorem f57_copy (hC : nm_C sh Rf o l s f n) (hr : sh[r]? = some (1000, rn)) (hrn : rn < 2 ^ 31) (hal : a + len ≤ rn) {v : Nat} (hv : v + len ≤ 40237) {bk : Int32}
    (hk : ∀ I' : Nat → Nat → Int32, (∀ b q, b ≠ l → I' b q = I b q) → mj_rn X (mj_hd []) (mj_call X mj_P (mj_bi X) d) mb_57 221 [some (.ref o), some (.ref r), some (.int (nI a)), some (.int (nI len)), none, some (.int bk), none, some (.int (nI v)), some (.int (nI len))] [] (sh, I', Lg, Rf, nc, ns) Q) :
    ∀ (m j : Nat) (I' : Nat → Nat → Int32), (∀ b q, b ≠ l → I' b q = I b q) → j + m = len → mj_rn X (mj_hd []) (mj_call X mj_P (mj_bi X) d) mb_57 192 [some (.ref o), some (.ref r), some (.int (nI a)), some (.int (nI len)), none, some (.int bk), none, some (.int (nI v)), some (.int (nI j))] [] (sh, I', Lg, Rf, nc, ns) Q := by
  obtain ⟨c1, c2, c3, c4, c5, r0, r1, r2, r4⟩ := hC
  intro m
  induction m with
  | zero =>
    intro j I' hI' hj
    obtain rfl : j = len := by omega
    refine mj_blk rfl ?_
    simp +decide only [mjs_0, mjs_1, mjs_2, mjs_3, mjs_ble, true_and, Bool.false_eq_true, if_false, if_true, Nat.reduceAdd, Nat.reduceSub, Nat.reduceLeDiff]
    exact ⟨fun _ => hk I' hI', fun q => absurd (nI_le (Nat.le_refl j) (by omega)) q⟩
  | succ m ih =>
    intro j I' hI' hj
    refine mj_blk rfl ?_
    simp +decide only [mjs_0, mjs_1, mjs_2, mjs_3, mjs_ble, true_and, Bool.false_eq_true, if_false, if_true, Nat.reduceAdd, Nat.reduceSub, Nat.reduceLeDiff]
    refine ⟨fun q => absurd q (nI_ge (by omega) (by omega)), fun _ => mj_blk rfl ?_⟩
    simp +decide only [mjs_0, mjs_1, mjs_2, mjs_3, mjs_ble, true_and, Bool.false_eq_true, if_false, if_true, Nat.reduceAdd, Nat.reduceSub, Nat.reduceLeDiff, mjs_ob c1, r0, mjs_ar (t := 2) c2, mjs_ar (t := 0) hr, nI_add, nI_1]
    refine ⟨nI_in (by omega) hrn, nI_in (by omega) (by omega), ih (j + 1) _ (fun b q hb => ?_) (by omega)⟩
    rw [mjs_up_ne (Or.inl hb)]
    exact hI' b q hb
theorem nm_id.up {k : Nat} {x : Int32} (h : nm_id k x) : nm_id (k + 1) x := by
  rcases h with h | ⟨i, hi, h⟩
  · exact Or.inl h
  · exact Or.inr ⟨i, by omega, h⟩
theorem nm_ne {a b x y : Nat} (ha : sh[a]? = some (x, y)) {x' y' : Nat} (hb : sh[b]? = some (x', y')) (h : (x, y) ≠ (x', y')) : a ≠ b := by
  rintro rfl
  rw [ha] at hb
  exact h (Option.some.inj hb)
/-- find: a name's number or -1; at most one name more; all rows else as they were -/
theorem c_57 (hC : nm_C sh Rf o l s f n) (hr : sh[r]? = some (1000, rn)) (hrn : rn < 2 ^ 31) (hal : a + len ≤ rn) (hlen : len ≤ 40) (hI : nm_I I o s f n k M) (hkM : k < M ∨ M = 1036)
    (hQ : ∀ (I' : Nat → Nat → Int32) (k' : Nat) (v : Int32), nm_I I' o s f n k' M → k ≤ k' → k' ≤ k + 1 → nm_id k' v → (∀ b q, b ≠ o → b ≠ l → b ≠ s → b ≠ f → b ≠ n → I' b q = I b q) → (∀ q, q ≠ 5 → I' o q = I o q) → Q (.inl (some (.int v))) (sh, I', Lg, Rf, nc, ns)) :
    mj_call X mj_P (mj_bi X) (d + 1) 57 [.ref o, .ref r, .int (nI a), .int (nI len)] (sh, I, Lg, Rf, nc, ns) Q := by
  have hC' := hC
  have hI' := hI
  obtain ⟨c1, c2, c3, c4, c5, r0, r1, r2, r4⟩ := hC
  obtain ⟨i1, i2, i3, i4, i5, i6⟩ := hI
  have n1 : o ≠ l := nm_ne c1 c2 (by decide)
  have n2 : o ≠ s := nm_ne c1 c3 (by decide)
  have n3 : o ≠ f := nm_ne c1 c4 (by decide)
  have n4 : o ≠ n := nm_ne c1 c5 (by decide)
  have n5 : f ≠ l := nm_ne c4 c2 (by decide)
  have n6 : f ≠ s := nm_ne c4 c3 (by decide)
  have n7 : f ≠ n := nm_ne c4 c5 (by decide)
  have n8 : n ≠ l := nm_ne c5 c2 (by decide)
  have n9 : n ≠ s := nm_ne c5 c3 (by decide)
  have n10 : s ≠ l := nm_ne c3 c2 (by decide)
  refine mj_enter (z := (9, [], mb_57)) (by decide) rfl rfl ?_
  refine mj_blk rfl ?_
  simp +decide only [mjs_0, mjs_1, mjs_2, mjs_3, mjs_ble, true_and, Bool.false_eq_true, if_false, if_true, Nat.reduceAdd, Nat.reduceSub, Nat.reduceLeDiff]
  refine f57_hash hr hrn hal (fun h => ?_) len 0 _ (Nat.zero_add _)
  refine mj_blk rfl ?_
  obtain ⟨bk, hbk, eb⟩ := pk_andE h (m := 255) 8 (by decide)
  have e0 : (nI bk).toNatClampNeg = bk := nI_clamp (by omega)
  simp +decide only [mjs_0, mjs_1, mjs_2, mjs_3, mjs_ble, true_and, Bool.false_eq_true, if_false, if_true, Nat.reduceAdd, Nat.reduceSub, Nat.reduceLeDiff, eb, mjs_ob c1, r2, mjs_ar (t := 0) c4, e0]
  refine ⟨nI_in (by omega) (by omega), ?_⟩
  refine f57_chain hC' hr hrn hal hlen hI' (fun x i => ?_) (fun x hx => hQ I k _ hI' (Nat.le_refl _) (by omega) (Or.inr ⟨x, hx, rfl⟩) (fun _ _ _ _ _ _ _ => rfl) (fun _ _ => rfl)) k 0 _ _ (Nat.zero_add _) (i4 bk hbk)
  refine mj_blk rfl ?_
  simp +decide only [mjs_0, mjs_1, mjs_2, mjs_3, mjs_ble, true_and, Bool.false_eq_true, if_false, if_true, Nat.reduceAdd, Nat.reduceSub, Nat.reduceLeDiff, mjs_ob c1, i1]
  refine ⟨fun q => mj_blk rfl ?_, fun q => mj_blk rfl ?_⟩
  · have hk : k < 1036 := (nI_ltI (by omega) (by omega)).mp (show nI k < nI 1036 from q)
    obtain ⟨v, hv, b0⟩ := i6 k (Nat.le_refl _)
    have ek : (nI k).toNatClampNeg = k := nI_clamp (by omega)
    have ek1 : (nI (k + 1)).toNatClampNeg = k + 1 := nI_clamp (by omega)
    simp +decide only [mjs_0, mjs_1, mjs_2, mjs_3, mjs_ble, true_and, Bool.false_eq_true, if_false, if_true, Nat.reduceAdd, Nat.reduceSub, Nat.reduceLeDiff, mjs_ob c1, r1, mjs_ar (t := 0) c3, i1, ek, hv]
    refine ⟨nI_in (by omega) (by omega), ?_⟩
    refine f57_copy hC' hr hrn hal (by omega) (fun I1 h1 => ?_) len 0 I (fun _ _ _ => rfl) (Nat.zero_add _)
    refine mj_blk rfl ?_
    have a1 : I1 o 5 = nI k := (h1 o 5 n1).trans i1
    have u1 : ∀ (J : Nat → Nat → Int32) (j : Nat) (w : Int32) (q : Nat), mj_up J s j w o q = J o q := fun J j w q => mjs_up_ne (Or.inl n2)
    have u2 : ∀ (J : Nat → Nat → Int32) (j : Nat) (w : Int32) (q : Nat), mj_up J s j w f q = J f q := fun J j w q => mjs_up_ne (Or.inl n6)
    have u3 : ∀ (J : Nat → Nat → Int32) (j : Nat) (w : Int32) (q : Nat), mj_up J n j w o q = J o q := fun J j w q => mjs_up_ne (Or.inl n4)
    have u4 : ∀ (J : Nat → Nat → Int32) (j : Nat) (w : Int32) (q : Nat), mj_up J f j w o q = J o q := fun J j w q => mjs_up_ne (Or.inl n3)
    simp +decide only [mjs_0, mjs_1, mjs_2, mjs_3, mjs_ble, true_and, Bool.false_eq_true, if_false, if_true, Nat.reduceAdd, Nat.reduceSub, Nat.reduceLeDiff, mjs_ob c1, r1, r2, r4, mjs_ar (t := 0) c3, mjs_ar (t := 0) c4, mjs_ar (t := 0) c5, a1, u1, u2, u3, u4, nI_1, nI_add, ek, ek1, e0, mjs_up_at, nI_pred]
    refine ⟨nI_in (by omega) (by omega), nI_in (by omega) (by omega), nI_in (by omega) (by omega), nI_in (by omega) (by omega), ?_⟩
    refine hQ _ (k + 1) _ ⟨mjs_up_at, by omega, i3, fun j hj => ?_, fun j hj => ?_, fun j hj => ?_⟩ (by omega) (Nat.le_refl _) (Or.inr ⟨k, by omega, rfl⟩) (fun b q hb1 hb2 hb3 hb4 hb5 => ?_) (fun q hq => ?_)
    · rw [mjs_up_ne (Or.inl n3.symm)]
      by_cases hjb : j = bk
      · subst hjb
        rw [mjs_up_at]
        exact Or.inr ⟨k, by omega, rfl⟩
      · rw [mjs_up_ne (Or.inr hjb), mjs_up_ne (Or.inl n7), mjs_up_ne (Or.inl n6), h1 f j n5]
        exact (i4 j hj).up
    · rw [mjs_up_ne (Or.inl n4.symm), mjs_up_ne (Or.inl n7.symm)]
      by_cases hjk : j = k
      · subst hjk
        rw [mjs_up_at, h1 f bk n5]
        exact (i4 bk hbk).up
      · rw [mjs_up_ne (Or.inr hjk), mjs_up_ne (Or.inl n9), h1 n j n8]
        exact (i5 j (by omega)).up
    · rw [mjs_up_ne (Or.inl n2.symm), mjs_up_ne (Or.inl n6.symm), mjs_up_ne (Or.inl n9.symm)]
      by_cases hjk : j = k + 1
      · subst hjk
        rw [mjs_up_at]
        exact ⟨v + len, rfl, by omega⟩
      · rw [mjs_up_ne (Or.inr hjk), h1 s j n10]
        obtain ⟨w, hw, bw⟩ := i6 j (by omega)
        exact ⟨w, hw, bw⟩
    · rw [mjs_up_ne (Or.inl hb1), mjs_up_ne (Or.inl hb4), mjs_up_ne (Or.inl hb5), mjs_up_ne (Or.inl hb3), h1 b q hb2]
    · rw [mjs_up_ne (Or.inr hq), mjs_up_ne (Or.inl n3), mjs_up_ne (Or.inl n4), mjs_up_ne (Or.inl n2), h1 o q n1]
  · simp +decide only [mjs_0, mjs_1, mjs_2, mjs_3, mjs_ble, true_and, Bool.false_eq_true, if_false, if_true, Nat.reduceAdd, Nat.reduceSub, Nat.reduceLeDiff]
    exact hQ I k _ hI' (Nat.le_refl _) (by omega) (Or.inl rfl) (fun _ _ _ _ _ _ _ => rfl) (fun _ _ => rfl)
end MJNAMES
end
section
/-! LITERAL SHAPES, and the JDK's few methods in the mini machine -/
def mj_kc (sh : List (Nat × Nat)) (o c : Nat) : Bool := match sh[o]? with
  | some (k, _) => k == c
  | none => false
theorem mjs_lit : (∀ (f : Prop) (sh : List (Nat × Nat)) (c o : Nat) (r : List Value), mj_rc f sh c (.ref o :: r) = mj_tt f (mj_kc sh o c)) ∧
  (∀ (x : Nat × Nat) (r : List (Nat × Nat)) (n c : Nat), mj_kc (x :: r) (n + 1) c = mj_kc r n c) ∧
  (∀ (k m : Nat) (r : List (Nat × Nat)) (c : Nat), mj_kc ((k, m) :: r) 0 c = (k == c)) ∧
  (∀ (x : Nat × Nat) (r : List (Nat × Nat)) (n c b : Nat), mj_ob (x :: r) (n + 1) c b = mj_ob r n c b) ∧
  (∀ (k m : Nat) (r : List (Nat × Nat)) (c b : Nat), mj_ob ((k, m) :: r) 0 c b = ((k == c) && Nat.blt b m)) ∧
  (∀ (x : Nat × Nat) (r : List (Nat × Nat)) (n t : Nat), mj_ar (x :: r) (n + 1) t = mj_ar r n t) ∧
  (∀ (k m : Nat) (r : List (Nat × Nat)) (t : Nat), mj_ar ((k, m) :: r) 0 t = if k = 1000 + t then some m else none) ∧
  (∀ (α : Type) (f : Nat → Nat → α) (a j : Nat) (v : α) (b k : Nat), mj_up f a j v b k = if b = a then (if k = j then v else f b k) else f b k) ∧
  (∀ (α : Type) (f : Nat → Nat → α) (a : Nat) (g : Nat → α) (b k : Nat), mj_row f a g b k = if b = a then g k else f b k) ∧
  (∀ (X : mj_X) (K : Nat → mj_S → Prop) (k n : Nat) (sh : List (Nat × Nat)) (I : Nat → Nat → Int32) (Lg : Nat → Nat → Int64) (Rf : Nat → Nat → Option Nat) (nc ns : Nat), mj_new X K k n (sh, I, Lg, Rf, nc, ns) = ((nc + 1 ≤ X.2.2.1 ∧ ns + n ≤ X.2.2.2) ∧ K sh.length (sh ++ [(k, n)], mj_row I sh.length (fun _ => 0), mj_row Lg sh.length (fun _ => 0), mj_row Rf sh.length (fun _ => none), nc + 1, ns + n))) ∧
  (∀ (L : Nat) (xs : Nat → Int32), (mj_X0 L xs).2.2.1 = 601024) ∧ (∀ (L : Nat) (xs : Nat → Int32), (mj_X0 L xs).2.2.2 = 7293034) :=
  ⟨by intros; rfl, by intros; rfl, by intros; rfl, by intros; rfl, by intros; rfl, by intros; rfl, by intros; rfl, by intros; rfl, by intros; rfl, by intros; rfl, by intros; rfl, by intros; rfl⟩
theorem mjs_ttb {f : Prop} {b : Bool} (h : b = true) : mj_tt f b = f := by rw [h]; rfl
theorem mjs_up_c {α : Type} {f : Nat → Nat → α} {a j b k : Nat} {v : α} (h : b ≠ a) : mj_up f a j v b k = f b k := mjs_up_ne (Or.inl h)
section MJJDK
variable {L d o nc ns : Nat} {xs : Nat → Int32} {S : mj_S} {Q : mj_Q} {tx : List Int32} {k : Int32} {sh : List (Nat × Nat)} {I : Nat → Nat → Int32} {Lg : Nat → Nat → Int64} {Rf : Nat → Nat → Option Nat} {X : mj_X}
theorem c_900 {x : Int32} (hQ : Q (.inl (some (.int (if 0 ≤ x then x else 0 - x)))) S) : mj_call X mj_P (mj_bi X) (d + 1) 900 [.int x] S Q := by
  unfold mj_call
  rw [if_pos (by decide)]
  exact hQ
theorem c_901 {x y : Int32} (hQ : Q (.inl (some (.int (if x < y then y else x)))) S) : mj_call X mj_P (mj_bi X) (d + 1) 901 [.int x, .int y] S Q := by
  unfold mj_call
  rw [if_pos (by decide)]
  exact hQ
theorem c_902 {q : Nat} {sp dp n : Int32} {n0 n1 : Nat} (h0 : mj_ar S.1 o 0 = some n0) (h1 : mj_ar S.1 q 0 = some n1) (h : ¬ sp < 0 ∧ ¬ dp < 0 ∧ ¬ n < 0 ∧ sp.toNatClampNeg + n.toNatClampNeg ≤ n0 ∧ dp.toNatClampNeg + n.toNatClampNeg ≤ n1)
    (hQ : Q (.inl none) (S.1, mj_row S.2.1 q (va_cpy (S.2.1 o) (S.2.1 q) sp.toNatClampNeg dp.toNatClampNeg n.toNatClampNeg), S.2.2)) : mj_call X mj_P (mj_bi X) (d + 1) 902 [.ref o, .int sp, .ref q, .int dp, .int n] S Q := by
  unfold mj_call
  rw [if_pos (by decide)]
  show mj_so _ _
  rw [h0]
  show mj_so _ _
  rw [h1]
  exact ⟨h, hQ⟩
theorem c_903 {n : Nat} (h0 : mj_ar S.1 o 0 = some n) (hr : S.2.2.2.2.1 + 1 ≤ X.2.2.1 ∧ S.2.2.2.2.2 + n ≤ X.2.2.2)
    (hQ : Q (.inl (some (.ref S.1.length))) (S.1 ++ [(1000, n)], mj_row S.2.1 S.1.length (S.2.1 o), mj_row S.2.2.1 S.1.length (fun _ => 0), mj_row S.2.2.2.1 S.1.length (fun _ => none), S.2.2.2.2.1 + 1, S.2.2.2.2.2 + n)) : mj_call X mj_P (mj_bi X) (d + 1) 903 [.ref o] S Q := by
  unfold mj_call
  rw [if_pos (by decide)]
  show mj_so _ _
  rw [h0]
  exact ⟨hr, hQ⟩
theorem c_904 (ho : 900001 ≤ o) (h : X.2.1[o - 900001]? = some tx) (hQ : Q (.inl (some (.int (nI tx.length)))) S) : mj_call X mj_P (mj_bi X) (d + 1) 904 [.ref o] S Q := by
  unfold mj_call
  rw [if_pos (by decide)]
  show mj_so _ _
  rw [h]
  exact ⟨ho, hQ⟩
theorem c_905 (ho : 900001 ≤ o) (h : X.2.1[o - 900001]? = some tx) (hk : vp_in k tx.length) (hQ : Q (.inl (some (.int (tx.getD k.toNatClampNeg 0)))) S) : mj_call X mj_P (mj_bi X) (d + 1) 905 [.ref o, .int k] S Q := by
  unfold mj_call
  rw [if_pos (by decide)]
  show mj_so _ _
  rw [h]
  exact ⟨⟨ho, hk⟩, hQ⟩
end MJJDK
end
section
/-! NAMES: made -/
theorem mj_t2l : mj_t2.length = 237 := by decide +kernel
theorem mj_t2c : (40000 + nI 237 : Int32).toNatClampNeg = 40237 := by decide
theorem mj_n1037 : (1037 : Int32).toNatClampNeg = 1037 := by decide
theorem mj_n256 : (256 : Int32).toNatClampNeg = 256 := by decide
theorem mj_n1036 : (1036 : Int32).toNatClampNeg = 1036 := by decide
theorem mj_n40 : (40 : Int32).toNatClampNeg = 40 := by decide
def sh7 : List (Nat × Nat) := [(0, 8), (7, 4), (5, 6), (1002, 40237), (1000, 1037), (1000, 256), (1000, 1036)]
def sh8 : List (Nat × Nat) := [(0, 8), (7, 4), (5, 6), (1002, 40237), (1000, 1037), (1000, 256), (1000, 1036), (1000, 40)]
def sh9 : List (Nat × Nat) := [(0, 8), (7, 4), (5, 6), (1002, 40237), (1000, 1037), (1000, 256), (1000, 1036), (1000, 40), (1000, 256)]
theorem mjs_row_c {α : Type} {f : Nat → Nat → α} {a b k : Nat} {g : Nat → α} (h : b ≠ a) : mj_row f a g b k = f b k := if_neg h
theorem nm_I.to {I I' : Nat → Nat → Int32} {o s f n k M : Nat} (h : nm_I I o s f n k M) (h1 : ∀ b q, b = o ∨ b = s ∨ b = f ∨ b = n → I' b q = I b q) : nm_I I' o s f n k M := by
  obtain ⟨i1, i2, i3, i4, i5, i6⟩ := h
  exact ⟨(h1 o 5 (Or.inl rfl)).trans i1, i2, i3, fun j hj => by rw [h1 f j (Or.inr (Or.inr (Or.inl rfl)))]; exact i4 j hj, fun j hj => by rw [h1 n j (Or.inr (Or.inr (Or.inr rfl)))]; exact i5 j hj, fun j hj => by rw [h1 s j (Or.inr (Or.inl rfl))]; exact i6 j hj⟩
section MJN0
variable {L d nc ns : Nat} {xs : Nat → Int32} {Q : mj_Q} {I : Nat → Nat → Int32} {Lg : Nat → Nat → Int64} {Rf : Nat → Nat → Option Nat}
theorem f54_A (hr : Rf 2 2 = some 5) (hk : ∀ I' : Nat → Nat → Int32, (∀ q, q < 256 → I' 5 q = -1) → (∀ b q, b ≠ 5 → I' b q = I b q) → mj_rn (mj_X0 L xs) (mj_hd []) (mj_call (mj_X0 L xs) mj_P (mj_bi (mj_X0 L xs)) d) mb_54 67 [some (.ref 2), some (.int (nI 256)), none, none, none] [] (sh7, I', Lg, Rf, nc, ns) Q) :
    ∀ (m j : Nat) (I' : Nat → Nat → Int32), j + m = 256 → (∀ q, q < j → I' 5 q = -1) → (∀ b q, b ≠ 5 → I' b q = I b q) → mj_rn (mj_X0 L xs) (mj_hd []) (mj_call (mj_X0 L xs) mj_P (mj_bi (mj_X0 L xs)) d) mb_54 47 [some (.ref 2), some (.int (nI j)), none, none, none] [] (sh7, I', Lg, Rf, nc, ns) Q := by
  intro m
  induction m with
  | zero =>
    intro j I' hj h1 h2
    obtain rfl : j = 256 := by omega
    refine mj_blk rfl ?_
    simp +decide only [mjs_0, mjs_1, mjs_2, mjs_3, mjs_ble, true_and, Bool.false_eq_true, if_false, if_true, Nat.reduceAdd, Nat.reduceSub, Nat.reduceLeDiff]
    exact ⟨fun _ => hk I' h1 h2, fun q => q.elim⟩
  | succ m ih =>
    intro j I' hj h1 h2
    refine mj_blk rfl ?_
    simp +decide only [mjs_0, mjs_1, mjs_2, mjs_3, mjs_ble, true_and, Bool.false_eq_true, if_false, if_true, Nat.reduceAdd, Nat.reduceSub, Nat.reduceLeDiff]
    refine ⟨fun q => absurd q (nI_ge (a := j) (b := 256) (by omega) (by decide)), fun _ => mj_blk rfl ?_⟩
    have e0 : (nI j).toNatClampNeg = j := nI_clamp (by omega)
    simp +decide only [mjs_0, mjs_1, mjs_2, mjs_3, mjs_ble, true_and, Bool.false_eq_true, if_false, if_true, Nat.reduceAdd, Nat.reduceSub, Nat.reduceLeDiff, mjs_lit, mjs_ttb, Nat.reduceEqDiff, sh7, hr, e0, nI_1]
    refine ⟨nI_in (by omega) (by decide), ih (j + 1) _ (by omega) (fun q hq => ?_) (fun b q hb => ?_)⟩
    · by_cases hqj : q = j
      · rw [hqj, mjs_up_at]
      · rw [mjs_up_ne (Or.inr hqj)]
        exact h1 q (by omega)
    · rw [mjs_up_c hb]
      exact h2 b q hb
theorem nm_C8 (r0 : Rf 2 0 = some 3) (r1 : Rf 2 1 = some 4) (r2 : Rf 2 2 = some 5) (r4 : Rf 2 4 = some 6) : nm_C sh8 Rf 2 3 4 5 6 := ⟨rfl, rfl, rfl, rfl, rfl, r0, r1, r2, r4⟩
theorem f54_B (r0 : Rf 2 0 = some 3) (r1 : Rf 2 1 = some 4) (r2 : Rf 2 2 = some 5) (r4 : Rf 2 4 = some 6)
    (hk : ∀ (I' : Nat → Nat → Int32) (k : Nat) (x : Int32), nm_I I' 2 4 5 6 k 237 → (∀ b q, b < 2 → I' b q = I b q) → mj_rn (mj_X0 L xs) (mj_hd []) (mj_call (mj_X0 L xs) mj_P (mj_bi (mj_X0 L xs)) (d + 1)) mb_54 133 [some (.ref 2), some (.ref 7), some (.int x), some (.int (nI 237)), none] [] (sh8, I', Lg, Rf, nc, ns) Q) :
    ∀ (m i len k : Nat) (I' : Nat → Nat → Int32) (w : Option Value), i + m = 237 → len ≤ 40 → k ≤ i → nm_I I' 2 4 5 6 k 237 → (∀ b q, b < 2 → I' b q = I b q) → mj_rn (mj_X0 L xs) (mj_hd []) (mj_call (mj_X0 L xs) mj_P (mj_bi (mj_X0 L xs)) (d + 1)) mb_54 76 [some (.ref 2), some (.ref 7), some (.int (nI len)), some (.int (nI i)), w] [] (sh8, I', Lg, Rf, nc, ns) Q := by
  intro m
  induction m with
  | zero =>
    intro i len k I' w hi hlen hki hI h2
    obtain rfl : i = 237 := by omega
    refine mj_blk rfl ?_
    simp +decide only [mjs_0, mjs_1, mjs_2, mjs_3, mjs_ble, true_and, Bool.false_eq_true, if_false, if_true, Nat.reduceAdd, Nat.reduceSub, Nat.reduceLeDiff]
    refine c_904 (tx := mj_t2) (by decide) rfl ?_
    simp +decide only [mjs_0, mjs_1, mjs_2, mjs_3, mjs_ble, true_and, Bool.false_eq_true, if_false, if_true, Nat.reduceAdd, Nat.reduceSub, Nat.reduceLeDiff, mj_t2l]
    exact ⟨fun _ => hk I' k _ hI h2, fun q => q.elim⟩
  | succ m ih =>
    intro i len k I' w hi hlen hki hI h2
    refine mj_blk rfl ?_
    simp +decide only [mjs_0, mjs_1, mjs_2, mjs_3, mjs_ble, true_and, Bool.false_eq_true, if_false, if_true, Nat.reduceAdd, Nat.reduceSub, Nat.reduceLeDiff]
    refine c_904 (tx := mj_t2) (by decide) rfl ?_
    simp +decide only [mjs_0, mjs_1, mjs_2, mjs_3, mjs_ble, true_and, Bool.false_eq_true, if_false, if_true, Nat.reduceAdd, Nat.reduceSub, Nat.reduceLeDiff, mj_t2l]
    refine ⟨fun q => absurd q (nI_ge (by omega) (by decide)), fun _ => mj_blk rfl ?_⟩
    simp +decide only [mjs_0, mjs_1, mjs_2, mjs_3, mjs_ble, true_and, Bool.false_eq_true, if_false, if_true, Nat.reduceAdd, Nat.reduceSub, Nat.reduceLeDiff]
    refine c_905 (tx := mj_t2) (by decide) rfl (nI_in (by rw [mj_t2l]; omega) (by rw [mj_t2l]; decide)) ?_
    simp +decide only [mjs_0, mjs_1, mjs_2, mjs_3, mjs_ble, true_and, Bool.false_eq_true, if_false, if_true, Nat.reduceAdd, Nat.reduceSub, Nat.reduceLeDiff]
    have K127 : ∀ (len' k' : Nat) (I2 : Nat → Nat → Int32) (w : Option Value), len' ≤ 40 → k' ≤ i + 1 → nm_I I2 2 4 5 6 k' 237 → (∀ b q, b < 2 → I2 b q = I b q) → mj_rn (mj_X0 L xs) (mj_hd []) (mj_call (mj_X0 L xs) mj_P (mj_bi (mj_X0 L xs)) (d + 1)) mb_54 127 [some (.ref 2), some (.ref 7), some (.int (nI len')), some (.int (nI i)), w] [] (sh8, I2, Lg, Rf, nc, ns) Q := by
      intro len' k' I2 w hl' hk' hI2 h22
      refine mj_blk rfl ?_
      simp +decide only [mjs_0, mjs_1, mjs_2, mjs_3, mjs_ble, true_and, Bool.false_eq_true, if_false, if_true, Nat.reduceAdd, Nat.reduceSub, Nat.reduceLeDiff, nI_1]
      exact ih (i + 1) len' k' I2 _ (by omega) hl' hk' hI2 h22
    refine ⟨fun _ => mj_blk rfl ?_, fun _ => mj_blk rfl ?_⟩
    · simp +decide only [mjs_0, mjs_1, mjs_2, mjs_3, mjs_ble, true_and, Bool.false_eq_true, if_false, if_true, Nat.reduceAdd, Nat.reduceSub, Nat.reduceLeDiff]
      refine ⟨fun _ => K127 len k I' _ hlen (by omega) hI h2, fun q => mj_blk rfl ?_⟩
      have hl40 : len < 40 := by
        by_cases h : len < 40
        · exact h
        · exact absurd (show nI 40 ≤ nI len from nI_le (by omega) (by omega)) q
      have e0 : (nI len).toNatClampNeg = len := nI_clamp (by omega)
      simp +decide only [mjs_0, mjs_1, mjs_2, mjs_3, mjs_ble, true_and, Bool.false_eq_true, if_false, if_true, Nat.reduceAdd, Nat.reduceSub, Nat.reduceLeDiff, mjs_lit, mjs_ttb, Nat.reduceEqDiff, sh8, nI_1, e0]
      refine ⟨nI_in (by omega) (by decide), K127 (len + 1) k _ _ (by omega) (by omega) ?_ (fun b q hb => ?_)⟩
      · obtain ⟨i1, i2, i3, i4, i5, i6⟩ := hI
        refine ⟨by rw [mjs_up_c (by decide)]; exact i1, i2, i3, fun j hj => by rw [mjs_up_c (by decide)]; exact i4 j hj, fun j hj => by rw [mjs_up_c (by decide)]; exact i5 j hj, fun j hj => by rw [mjs_up_c (by decide)]; exact i6 j hj⟩
      · rw [mjs_up_c (by omega)]
        exact h2 b q hb
    · simp +decide only [mjs_0, mjs_1, mjs_2, mjs_3, mjs_ble, true_and, Bool.false_eq_true, if_false, if_true, Nat.reduceAdd, Nat.reduceSub, Nat.reduceLeDiff, mjs_lit, mjs_ttb, Nat.reduceEqDiff, sh8]
      refine c_57 (l := 3) (s := 4) (f := 5) (n := 6) (a := 0) (M := 237) (k := k) (rn := 40) (nm_C8 r0 r1 r2 r4) rfl (by decide) (by omega) hlen hI (Or.inl (by omega)) (fun I2 k2 v hI2 hk2 hk3 hv hf1 hf2 => ?_)
      simp +decide only [mjs_0, mjs_1, mjs_2, mjs_3, mjs_ble, true_and, Bool.false_eq_true, if_false, if_true, Nat.reduceAdd, Nat.reduceSub, Nat.reduceLeDiff]
      refine K127 0 k2 I2 _ (by omega) (by omega) hI2 (fun b q hb => ?_)
      rw [hf1 b q (by omega) (by omega) (by omega) (by omega) (by omega)]
      exact h2 b q hb
theorem c_54 (h5 : I 2 5 = 0) (hQ : ∀ (I' : Nat → Nat → Int32) (Lg' : Nat → Nat → Int64) (Rf' : Nat → Nat → Option Nat) (k : Nat), nm_I I' 2 4 5 6 k 237 → (∀ b q, b < 2 → I' b q = I b q) → (∀ b q, b < 2 → Rf' b q = Rf b q) → Rf' 2 0 = some 3 → Rf' 2 1 = some 4 → Rf' 2 2 = some 5 → Rf' 2 3 = some 8 → Rf' 2 4 = some 6 → Q (.inl none) (sh9, I', Lg', Rf', 9, 42880)) :
    mj_call (mj_X0 L xs) mj_P (mj_bi (mj_X0 L xs)) (d + 2) 54 [.ref 2] ([(0, 8), (7, 4), (5, 6)], I, Lg, Rf, 3, 18) Q := by
  refine mj_enter (z := (5, [], mb_54)) (by decide) rfl rfl ?_
  refine mj_blk rfl ?_
  simp +decide only [mjs_0, mjs_1, mjs_2, mjs_3, mjs_ble, true_and, Bool.false_eq_true, if_false, if_true, Nat.reduceAdd, Nat.reduceSub, Nat.reduceLeDiff, mjs_lit, mjs_ttb, Nat.reduceEqDiff]
  refine c_904 (tx := mj_t2) (by decide) rfl ?_
  simp +decide only [mjs_0, mjs_1, mjs_2, mjs_3, mjs_ble, true_and, Bool.false_eq_true, if_false, if_true, Nat.reduceAdd, Nat.reduceSub, Nat.reduceLeDiff, mjs_lit, mjs_ttb, Nat.reduceEqDiff, mj_t2l, mj_t2c, mj_n1037, mj_n256, mj_n1036]
  refine f54_A (by simp +decide only [mjs_0, mjs_1, mjs_2, mjs_3, mjs_ble, true_and, Bool.false_eq_true, if_false, if_true, Nat.reduceAdd, Nat.reduceSub, Nat.reduceLeDiff, mjs_lit, mjs_ttb, Nat.reduceEqDiff]) (fun I1 h1 h2 => ?_) 256 0 _ rfl (fun q hq => absurd hq (Nat.not_lt_zero q)) (fun _ _ _ => rfl)
  refine mj_blk rfl ?_
  simp +decide only [mjs_0, mjs_1, mjs_2, mjs_3, mjs_ble, true_and, Bool.false_eq_true, if_false, if_true, Nat.reduceAdd, Nat.reduceSub, Nat.reduceLeDiff, mjs_lit, mjs_ttb, Nat.reduceEqDiff, sh7, mj_n40]
  refine f54_B (I := I) (by simp +decide only [mjs_0, mjs_1, mjs_2, mjs_3, mjs_ble, true_and, Bool.false_eq_true, if_false, if_true, Nat.reduceAdd, Nat.reduceSub, Nat.reduceLeDiff, mjs_lit, mjs_ttb, Nat.reduceEqDiff]) (by simp +decide only [mjs_0, mjs_1, mjs_2, mjs_3, mjs_ble, true_and, Bool.false_eq_true, if_false, if_true, Nat.reduceAdd, Nat.reduceSub, Nat.reduceLeDiff, mjs_lit, mjs_ttb, Nat.reduceEqDiff]) (by simp +decide only [mjs_0, mjs_1, mjs_2, mjs_3, mjs_ble, true_and, Bool.false_eq_true, if_false, if_true, Nat.reduceAdd, Nat.reduceSub, Nat.reduceLeDiff, mjs_lit, mjs_ttb, Nat.reduceEqDiff]) (by simp +decide only [mjs_0, mjs_1, mjs_2, mjs_3, mjs_ble, true_and, Bool.false_eq_true, if_false, if_true, Nat.reduceAdd, Nat.reduceSub, Nat.reduceLeDiff, mjs_lit, mjs_ttb, Nat.reduceEqDiff]) (fun I2 k x hI2 h22 => ?_) 237 0 0 0 _ _ rfl (by decide) (Nat.le_refl _) ?_ ?_
  · refine mj_blk rfl ?_
    simp +decide only [mjs_0, mjs_1, mjs_2, mjs_3, mjs_ble, true_and, Bool.false_eq_true, if_false, if_true, Nat.reduceAdd, Nat.reduceSub, Nat.reduceLeDiff, mjs_lit, mjs_ttb, Nat.reduceEqDiff, sh8]
    refine c_903 (n := 256) rfl ⟨Nat.le_of_ble_eq_true rfl, Nat.le_of_ble_eq_true rfl⟩ ?_
    simp +decide only [mjs_0, mjs_1, mjs_2, mjs_3, mjs_ble, true_and, Bool.false_eq_true, if_false, if_true, Nat.reduceAdd, Nat.reduceSub, Nat.reduceLeDiff, mjs_lit, mjs_ttb, Nat.reduceEqDiff]
    refine hQ _ _ _ k (hI2.to fun b q hb => mjs_row_c (by omega)) (fun b q hb => ?_) (fun b q hb => ?_) ?_ ?_ ?_ ?_ ?_
    · rw [mjs_row_c (by omega)]
      exact h22 b q hb
    · rcases (show b = 0 ∨ b = 1 by omega) with rfl | rfl <;> simp +decide only [mjs_0, mjs_1, mjs_2, mjs_3, mjs_ble, true_and, Bool.false_eq_true, if_false, if_true, Nat.reduceAdd, Nat.reduceSub, Nat.reduceLeDiff, mjs_lit, mjs_ttb, Nat.reduceEqDiff]
    all_goals simp +decide only [mjs_0, mjs_1, mjs_2, mjs_3, mjs_ble, true_and, Bool.false_eq_true, if_false, if_true, Nat.reduceAdd, Nat.reduceSub, Nat.reduceLeDiff, mjs_lit, mjs_ttb, Nat.reduceEqDiff]
  · refine ⟨?_, by decide, by decide, fun j hj => ?_, fun j hj => absurd hj (Nat.not_lt_zero j), fun j hj => ⟨0, ?_, by omega⟩⟩
    · rw [mjs_row_c (by decide), h2 2 5 (by decide)]
      simp +decide only [mjs_0, mjs_1, mjs_2, mjs_3, mjs_ble, true_and, Bool.false_eq_true, if_false, if_true, Nat.reduceAdd, Nat.reduceSub, Nat.reduceLeDiff, mjs_lit, mjs_ttb, Nat.reduceEqDiff]
      exact h5
    · rw [mjs_row_c (by decide), h1 j hj]
      exact Or.inl rfl
    · obtain rfl : j = 0 := by omega
      rw [mjs_row_c (by decide), h2 4 0 (by decide)]
      simp +decide only [mjs_0, mjs_1, mjs_2, mjs_3, mjs_ble, true_and, Bool.false_eq_true, if_false, if_true, Nat.reduceAdd, Nat.reduceSub, Nat.reduceLeDiff, mjs_lit, mjs_ttb, Nat.reduceEqDiff]
  · intro b q hb
    rw [mjs_row_c (by omega), h2 b q (by omega)]
    rcases (show b = 0 ∨ b = 1 by omega) with rfl | rfl <;> simp +decide only [mjs_0, mjs_1, mjs_2, mjs_3, mjs_ble, true_and, Bool.false_eq_true, if_false, if_true, Nat.reduceAdd, Nat.reduceSub, Nat.reduceLeDiff, mjs_lit, mjs_ttb, Nat.reduceEqDiff]
end MJN0
end
section
/-! STORE: made -/
def sh10 : List (Nat × Nat) := [(0, 8), (7, 4), (5, 6), (1002, 40237), (1000, 1037), (1000, 256), (1000, 1036), (1000, 40), (1000, 256), (9, 10)]
def sh17 : List (Nat × Nat) := [(0, 8), (7, 4), (5, 6), (1002, 40237), (1000, 1037), (1000, 256), (1000, 1036), (1000, 40), (1000, 256), (9, 10), (1000, 1804), (1000, 1804), (1000, 1804), (1000, 30001), (1000, 30001), (1000, 100), (1000, 100)]
theorem mj_n1804 : (1804 : Int32).toNatClampNeg = 1804 := by decide
theorem mj_n30001 : (30001 : Int32).toNatClampNeg = 30001 := by decide
theorem mj_n100 : (100 : Int32).toNatClampNeg = 100 := by decide
section MJS0
variable {L d nc ns p : Nat} {xs : Nat → Int32} {Q : mj_Q} {I : Nat → Nat → Int32} {Lg : Nat → Nat → Int64} {Rf : Nat → Nat → Option Nat} {X : mj_X} {S : mj_S}
theorem c_91 {c : Int32} (hQ : ∀ v : Int32, Q (.inl (some (.int v))) S) : mj_call X mj_P (mj_bi X) (d + 1) 91 [.int c] S Q := by
  refine mj_enter (z := (1, [], mb_91)) (by decide) rfl rfl ?_
  have r24 : mj_rn X (mj_hd []) (mj_call X mj_P (mj_bi X) d) mb_91 24 [some (.int c)] [] S Q := by
    refine mj_blk rfl ?_
    simp +decide only [mjs_0, mjs_1, mjs_2, mjs_3, mjs_ble, true_and, Bool.false_eq_true, if_false, if_true, Nat.reduceAdd, Nat.reduceSub, Nat.reduceLeDiff]
    exact hQ _
  have r27 : mj_rn X (mj_hd []) (mj_call X mj_P (mj_bi X) d) mb_91 27 [some (.int c)] [] S Q := by
    refine mj_blk rfl ?_
    simp +decide only [mjs_0, mjs_1, mjs_2, mjs_3, mjs_ble, true_and, Bool.false_eq_true, if_false, if_true, Nat.reduceAdd, Nat.reduceSub, Nat.reduceLeDiff]
    repeat' refine And.intro (fun _ => ?_) (fun _ => ?_)
    all_goals
      refine mj_blk rfl ?_
      simp +decide only [mjs_0, mjs_1, mjs_2, mjs_3, mjs_ble, true_and, Bool.false_eq_true, if_false, if_true, Nat.reduceAdd, Nat.reduceSub, Nat.reduceLeDiff]
      exact hQ _
  have r12 : mj_rn X (mj_hd []) (mj_call X mj_P (mj_bi X) d) mb_91 12 [some (.int c)] [] S Q := by
    refine mj_blk rfl ?_
    simp +decide only [mjs_0, mjs_1, mjs_2, mjs_3, mjs_ble, true_and, Bool.false_eq_true, if_false, if_true, Nat.reduceAdd, Nat.reduceSub, Nat.reduceLeDiff]
    refine ⟨fun _ => r27, fun _ => mj_blk rfl ?_⟩
    simp +decide only [mjs_0, mjs_1, mjs_2, mjs_3, mjs_ble, true_and, Bool.false_eq_true, if_false, if_true, Nat.reduceAdd, Nat.reduceSub, Nat.reduceLeDiff]
    exact ⟨fun _ => r27, fun _ => r24⟩
  refine mj_blk rfl ?_
  simp +decide only [mjs_0, mjs_1, mjs_2, mjs_3, mjs_ble, true_and, Bool.false_eq_true, if_false, if_true, Nat.reduceAdd, Nat.reduceSub, Nat.reduceLeDiff]
  refine ⟨fun _ => r12, fun _ => mj_blk rfl ?_⟩
  simp +decide only [mjs_0, mjs_1, mjs_2, mjs_3, mjs_ble, true_and, Bool.false_eq_true, if_false, if_true, Nat.reduceAdd, Nat.reduceSub, Nat.reduceLeDiff]
  exact ⟨fun _ => r24, fun _ => r12⟩
theorem c_92 {a b : Int32} (hQ : Q (.inl (some (.int (a <<< (16 &&& 31) + b)))) S) : mj_call X mj_P (mj_bi X) (d + 1) 92 [.int a, .int b] S Q := by
  refine mj_enter (z := (2, [], mb_92)) (by decide) rfl rfl ?_
  refine mj_blk rfl ?_
  simp +decide only [mjs_0, mjs_1, mjs_2, mjs_3, mjs_ble, true_and, Bool.false_eq_true, if_false, if_true, Nat.reduceAdd, Nat.reduceSub, Nat.reduceLeDiff]
  exact hQ
theorem f89_A (hr : Rf 9 1 = some 11) (hk : ∀ I' : Nat → Nat → Int32, (∀ b q, b ≠ 11 → I' b q = I b q) → mj_rn X (mj_hd []) (mj_call X mj_P (mj_bi X) (d + 1)) mb_89 99 [some (.ref 9), none, some (.int (nI 256))] [] (sh17, I', Lg, Rf, nc, ns) Q) :
    ∀ (m j : Nat) (I' : Nat → Nat → Int32) (w : Option Value), j + m = 256 → (∀ b q, b ≠ 11 → I' b q = I b q) → mj_rn X (mj_hd []) (mj_call X mj_P (mj_bi X) (d + 1)) mb_89 72 [some (.ref 9), w, some (.int (nI j))] [] (sh17, I', Lg, Rf, nc, ns) Q := by
  intro m
  induction m with
  | zero =>
    intro j I' w hj h2
    obtain rfl : j = 256 := by omega
    refine mj_blk rfl ?_
    simp +decide only [mjs_0, mjs_1, mjs_2, mjs_3, mjs_ble, true_and, Bool.false_eq_true, if_false, if_true, Nat.reduceAdd, Nat.reduceSub, Nat.reduceLeDiff]
    exact ⟨fun _ => hk I' h2, fun q => q.elim⟩
  | succ m ih =>
    intro j I' w hj h2
    refine mj_blk rfl ?_
    simp +decide only [mjs_0, mjs_1, mjs_2, mjs_3, mjs_ble, true_and, Bool.false_eq_true, if_false, if_true, Nat.reduceAdd, Nat.reduceSub, Nat.reduceLeDiff]
    refine ⟨fun q => absurd q (nI_ge (a := j) (b := 256) (by omega) (by decide)), fun _ => mj_blk rfl ?_⟩
    simp +decide only [mjs_0, mjs_1, mjs_2, mjs_3, mjs_ble, true_and, Bool.false_eq_true, if_false, if_true, Nat.reduceAdd, Nat.reduceSub, Nat.reduceLeDiff, mjs_lit, mjs_ttb, Nat.reduceEqDiff, sh17, hr]
    refine c_91 (fun v => ?_)
    simp +decide only [mjs_0, mjs_1, mjs_2, mjs_3, mjs_ble, true_and, Bool.false_eq_true, if_false, if_true, Nat.reduceAdd, Nat.reduceSub, Nat.reduceLeDiff, mjs_lit, mjs_ttb, Nat.reduceEqDiff, nI_1]
    have e0 : (256 : Int32) + nI j = nI (256 + j) := nI_add 256 j
    rw [e0]
    refine ⟨nI_in (by omega) (by decide), ih (j + 1) _ _ (by omega) (fun b q hb => ?_)⟩
    rw [mjs_up_c hb]
    exact h2 b q hb
theorem f89_B (hr : Rf 9 1 = some 11) (hk : ∀ I' : Nat → Nat → Int32, (∀ b q, b ≠ 11 → I' b q = I b q) → Q (.inl none) (sh17, I', Lg, Rf, nc, ns)) :
    ∀ (m j : Nat) (I' : Nat → Nat → Int32), j + m = 36 → (∀ b q, b ≠ 11 → I' b q = I b q) → mj_rn X (mj_hd []) (mj_call X mj_P (mj_bi X) (d + 1)) mb_89 101 [some (.ref 9), none, some (.int (nI j))] [] (sh17, I', Lg, Rf, nc, ns) Q := by
  intro m
  induction m with
  | zero =>
    intro j I' hj h2
    obtain rfl : j = 36 := by omega
    refine mj_blk rfl ?_
    simp +decide only [mjs_0, mjs_1, mjs_2, mjs_3, mjs_ble, true_and, Bool.false_eq_true, if_false, if_true, Nat.reduceAdd, Nat.reduceSub, Nat.reduceLeDiff]
    refine ⟨fun _ => mj_blk rfl ?_, fun q => q.elim⟩
    simp +decide only [mjs_0, mjs_1, mjs_2, mjs_3, mjs_ble, true_and, Bool.false_eq_true, if_false, if_true, Nat.reduceAdd, Nat.reduceSub, Nat.reduceLeDiff]
    exact hk I' h2
  | succ m ih =>
    intro j I' hj h2
    refine mj_blk rfl ?_
    simp +decide only [mjs_0, mjs_1, mjs_2, mjs_3, mjs_ble, true_and, Bool.false_eq_true, if_false, if_true, Nat.reduceAdd, Nat.reduceSub, Nat.reduceLeDiff]
    refine ⟨fun q => absurd q (nI_ge (a := j) (b := 36) (by omega) (by decide)), fun _ => mj_blk rfl ?_⟩
    simp +decide only [mjs_0, mjs_1, mjs_2, mjs_3, mjs_ble, true_and, Bool.false_eq_true, if_false, if_true, Nat.reduceAdd, Nat.reduceSub, Nat.reduceLeDiff, mjs_lit, mjs_ttb, Nat.reduceEqDiff, sh17, hr]
    refine c_92 ?_
    simp +decide only [mjs_0, mjs_1, mjs_2, mjs_3, mjs_ble, true_and, Bool.false_eq_true, if_false, if_true, Nat.reduceAdd, Nat.reduceSub, Nat.reduceLeDiff, mjs_lit, mjs_ttb, Nat.reduceEqDiff, nI_1]
    have e0 : (768 : Int32) + nI j = nI (768 + j) := nI_add 768 j
    rw [e0]
    refine ⟨nI_in (by omega) (by decide), ih (j + 1) _ (by omega) (fun b q hb => ?_)⟩
    rw [mjs_up_c hb]
    exact h2 b q hb
set_option maxRecDepth 20000 in
theorem c_89 (hQ : ∀ (I' : Nat → Nat → Int32) (Lg' : Nat → Nat → Int64) (Rf' : Nat → Nat → Option Nat), (∀ b q, b < 10 → I' b q = I b q) → (∀ b q, 10 ≤ b → b < 17 → b ≠ 11 → I' b q = 0) → (∀ b q, b < 9 → Rf' b q = Rf b q) → Rf' 9 0 = some 10 → Rf' 9 1 = some 11 → Rf' 9 2 = some 12 → Rf' 9 3 = some 13 → Rf' 9 4 = some 14 → Rf' 9 6 = some 15 → Rf' 9 7 = some 16 → Rf' 9 9 = some p → Q (.inl none) (sh17, I', Lg', Rf', 17, 108504)) :
    mj_call (mj_X0 L xs) mj_P (mj_bi (mj_X0 L xs)) (d + 2) 89 [.ref 9, .ref p] (sh10, I, Lg, Rf, 10, 42890) Q := by
  refine mj_enter (z := (3, [], mb_89)) (by decide) rfl rfl ?_
  refine mj_blk rfl ?_
  simp +decide only [mjs_0, mjs_1, mjs_2, mjs_3, mjs_ble, true_and, Bool.false_eq_true, if_false, if_true, Nat.reduceAdd, Nat.reduceSub, Nat.reduceLeDiff, mjs_lit, mjs_ttb, Nat.reduceEqDiff, sh10, mj_n1804, mj_n30001, mj_n100]
  refine f89_A (by simp +decide only [mjs_0, mjs_1, mjs_2, mjs_3, mjs_ble, true_and, Bool.false_eq_true, if_false, if_true, Nat.reduceAdd, Nat.reduceSub, Nat.reduceLeDiff, mjs_lit, mjs_ttb, Nat.reduceEqDiff]) (fun I1 h1 => ?_) 256 0 _ _ rfl (fun _ _ _ => rfl)
  refine mj_blk rfl ?_
  simp +decide only [mjs_0, mjs_1, mjs_2, mjs_3, mjs_ble, true_and, Bool.false_eq_true, if_false, if_true, Nat.reduceAdd, Nat.reduceSub, Nat.reduceLeDiff]
  refine f89_B (by simp +decide only [mjs_0, mjs_1, mjs_2, mjs_3, mjs_ble, true_and, Bool.false_eq_true, if_false, if_true, Nat.reduceAdd, Nat.reduceSub, Nat.reduceLeDiff, mjs_lit, mjs_ttb, Nat.reduceEqDiff]) (fun I2 h2 => ?_) 36 0 _ rfl (fun _ _ _ => rfl)
  refine hQ _ _ _ (fun b q hb => ?_) (fun b q h10 h17 h11 => ?_) (fun b q hb => ?_) ?_ ?_ ?_ ?_ ?_ ?_ ?_ ?_
  · rw [h2 b q (by omega), h1 b q (by omega), mjs_row_c (by omega), mjs_row_c (by omega), mjs_row_c (by omega), mjs_row_c (by omega), mjs_row_c (by omega), mjs_row_c (by omega), mjs_row_c (by omega)]
  · rw [h2 b q h11, h1 b q h11]
    rcases (show b = 10 ∨ b = 12 ∨ b = 13 ∨ b = 14 ∨ b = 15 ∨ b = 16 by omega) with rfl | rfl | rfl | rfl | rfl | rfl <;> simp +decide only [mjs_0, mjs_1, mjs_2, mjs_3, mjs_ble, true_and, Bool.false_eq_true, if_false, if_true, Nat.reduceAdd, Nat.reduceSub, Nat.reduceLeDiff, mjs_lit, mjs_ttb, Nat.reduceEqDiff]
  · have n9 : b ≠ 9 := by omega
    simp only [mjs_row_c (show b ≠ 16 by omega), mjs_row_c (show b ≠ 15 by omega), mjs_row_c (show b ≠ 14 by omega), mjs_row_c (show b ≠ 13 by omega), mjs_row_c (show b ≠ 12 by omega), mjs_row_c (show b ≠ 11 by omega), mjs_row_c (show b ≠ 10 by omega), mjs_up_c n9]
  all_goals simp +decide only [mjs_0, mjs_1, mjs_2, mjs_3, mjs_ble, true_and, Bool.false_eq_true, if_false, if_true, Nat.reduceAdd, Nat.reduceSub, Nat.reduceLeDiff, mjs_lit, mjs_ttb, Nat.reduceEqDiff]
end MJS0
end
section
/-! STRAIGHT CONSTRUCTORS, printed by ctor.py -/
theorem mj_n4001 : (4001 : Int32).toNatClampNeg = 4001 := by decide
theorem mj_n10100 : (10100 : Int32).toNatClampNeg = 10100 := by decide
theorem mj_n41 : (41 : Int32).toNatClampNeg = 41 := by decide
theorem mj_n10000 : (10000 : Int32).toNatClampNeg = 10000 := by decide
theorem mj_n10002 : (10002 : Int32).toNatClampNeg = 10002 := by decide
theorem mj_n14101 : (14101 : Int32).toNatClampNeg = 14101 := by decide
theorem mj_n16 : (16 : Int32).toNatClampNeg = 16 := by decide
theorem mj_n1600 : (1600 : Int32).toNatClampNeg = 1600 := by decide
theorem mj_n8000 : (8000 : Int32).toNatClampNeg = 8000 := by decide
/-- the cells that stay all zero while the class is made -/
def mz (b : Nat) : Prop := b < 2 ∨ 9 ≤ b ∧ b ≠ 11
def sh18 : List (Nat × Nat) := [(0, 8), (7, 4), (5, 6), (1002, 40237), (1000, 1037), (1000, 256), (1000, 1036), (1000, 40), (1000, 256), (9, 10), (1000, 1804), (1000, 1804), (1000, 1804), (1000, 30001), (1000, 30001), (1000, 100), (1000, 100), (8, 13)]
def sh21 : List (Nat × Nat) := [(0, 8), (7, 4), (5, 6), (1002, 40237), (1000, 1037), (1000, 256), (1000, 1036), (1000, 40), (1000, 256), (9, 10), (1000, 1804), (1000, 1804), (1000, 1804), (1000, 30001), (1000, 30001), (1000, 100), (1000, 100), (8, 13), (1000, 4001), (1000, 10100), (1000, 41)]
def sh22 : List (Nat × Nat) := [(0, 8), (7, 4), (5, 6), (1002, 40237), (1000, 1037), (1000, 256), (1000, 1036), (1000, 40), (1000, 256), (9, 10), (1000, 1804), (1000, 1804), (1000, 1804), (1000, 30001), (1000, 30001), (1000, 100), (1000, 100), (8, 13), (1000, 4001), (1000, 10100), (1000, 41), (4, 6)]
def sh25 : List (Nat × Nat) := [(0, 8), (7, 4), (5, 6), (1002, 40237), (1000, 1037), (1000, 256), (1000, 1036), (1000, 40), (1000, 256), (9, 10), (1000, 1804), (1000, 1804), (1000, 1804), (1000, 30001), (1000, 30001), (1000, 100), (1000, 100), (8, 13), (1000, 4001), (1000, 10100), (1000, 41), (4, 6), (1000, 10000), (1000, 10002), (1000, 10002)]
def sh26 : List (Nat × Nat) := [(0, 8), (7, 4), (5, 6), (1002, 40237), (1000, 1037), (1000, 256), (1000, 1036), (1000, 40), (1000, 256), (9, 10), (1000, 1804), (1000, 1804), (1000, 1804), (1000, 30001), (1000, 30001), (1000, 100), (1000, 100), (8, 13), (1000, 4001), (1000, 10100), (1000, 41), (4, 6), (1000, 10000), (1000, 10002), (1000, 10002), (2, 6)]
def sh28 : List (Nat × Nat) := [(0, 8), (7, 4), (5, 6), (1002, 40237), (1000, 1037), (1000, 256), (1000, 1036), (1000, 40), (1000, 256), (9, 10), (1000, 1804), (1000, 1804), (1000, 1804), (1000, 30001), (1000, 30001), (1000, 100), (1000, 100), (8, 13), (1000, 4001), (1000, 10100), (1000, 41), (4, 6), (1000, 10000), (1000, 10002), (1000, 10002), (2, 6), (1000, 100), (1003, 100)]
def sh29 : List (Nat × Nat) := [(0, 8), (7, 4), (5, 6), (1002, 40237), (1000, 1037), (1000, 256), (1000, 1036), (1000, 40), (1000, 256), (9, 10), (1000, 1804), (1000, 1804), (1000, 1804), (1000, 30001), (1000, 30001), (1000, 100), (1000, 100), (8, 13), (1000, 4001), (1000, 10100), (1000, 41), (4, 6), (1000, 10000), (1000, 10002), (1000, 10002), (2, 6), (1000, 100), (1003, 100), (3, 9)]
def sh30 : List (Nat × Nat) := [(0, 8), (7, 4), (5, 6), (1002, 40237), (1000, 1037), (1000, 256), (1000, 1036), (1000, 40), (1000, 256), (9, 10), (1000, 1804), (1000, 1804), (1000, 1804), (1000, 30001), (1000, 30001), (1000, 100), (1000, 100), (8, 13), (1000, 4001), (1000, 10100), (1000, 41), (4, 6), (1000, 10000), (1000, 10002), (1000, 10002), (2, 6), (1000, 100), (1003, 100), (3, 9), (1000, 1600)]
def sh31 : List (Nat × Nat) := [(0, 8), (7, 4), (5, 6), (1002, 40237), (1000, 1037), (1000, 256), (1000, 1036), (1000, 40), (1000, 256), (9, 10), (1000, 1804), (1000, 1804), (1000, 1804), (1000, 30001), (1000, 30001), (1000, 100), (1000, 100), (8, 13), (1000, 4001), (1000, 10100), (1000, 41), (4, 6), (1000, 10000), (1000, 10002), (1000, 10002), (2, 6), (1000, 100), (1003, 100), (3, 9), (1000, 1600), (1, 7)]
def sh34 : List (Nat × Nat) := [(0, 8), (7, 4), (5, 6), (1002, 40237), (1000, 1037), (1000, 256), (1000, 1036), (1000, 40), (1000, 256), (9, 10), (1000, 1804), (1000, 1804), (1000, 1804), (1000, 30001), (1000, 30001), (1000, 100), (1000, 100), (8, 13), (1000, 4001), (1000, 10100), (1000, 41), (4, 6), (1000, 10000), (1000, 10002), (1000, 10002), (2, 6), (1000, 100), (1003, 100), (3, 9), (1000, 1600), (1, 7), (1000, 14101), (1000, 16), (1000, 16)]
def sh35 : List (Nat × Nat) := [(0, 8), (7, 4), (5, 6), (1002, 40237), (1000, 1037), (1000, 256), (1000, 1036), (1000, 40), (1000, 256), (9, 10), (1000, 1804), (1000, 1804), (1000, 1804), (1000, 30001), (1000, 30001), (1000, 100), (1000, 100), (8, 13), (1000, 4001), (1000, 10100), (1000, 41), (4, 6), (1000, 10000), (1000, 10002), (1000, 10002), (2, 6), (1000, 100), (1003, 100), (3, 9), (1000, 1600), (1, 7), (1000, 14101), (1000, 16), (1000, 16), (6, 7)]
def sh36 : List (Nat × Nat) := [(0, 8), (7, 4), (5, 6), (1002, 40237), (1000, 1037), (1000, 256), (1000, 1036), (1000, 40), (1000, 256), (9, 10), (1000, 1804), (1000, 1804), (1000, 1804), (1000, 30001), (1000, 30001), (1000, 100), (1000, 100), (8, 13), (1000, 4001), (1000, 10100), (1000, 41), (4, 6), (1000, 10000), (1000, 10002), (1000, 10002), (2, 6), (1000, 100), (1003, 100), (3, 9), (1000, 1600), (1, 7), (1000, 14101), (1000, 16), (1000, 16), (6, 7), (1000, 8000)]
section MJMADE
variable {L d : Nat} {xs : Nat → Int32} {Q : mj_Q} {I : Nat → Nat → Int32} {Lg : Nat → Nat → Int64} {Rf : Nat → Nat → Option Nat}
set_option maxRecDepth 20000 in
theorem c_81 {a1 a2 a3 : Nat} (hz : ∀ b q, b < 18 → mz b → I b q = 0) (hQ : ∀ (I' : Nat → Nat → Int32) (Lg' : Nat → Nat → Int64) (Rf' : Nat → Nat → Option Nat), (∀ b q, b < 21 → mz b → I' b q = 0) → (∀ b q, b < 21 → ¬ mz b → I' b q = I b q) → (∀ b q, b < 17 → Rf' b q = Rf b q) → Rf' 17 0 = some 18 → Rf' 17 7 = some 19 → Rf' 17 9 = some 20 → Rf' 17 10 = some a1 → Rf' 17 11 = some a2 → Rf' 17 12 = some a3 → Q (.inl none) (sh21, I', Lg', Rf', 21, 122659)) :
    mj_call (mj_X0 L xs) mj_P (mj_bi (mj_X0 L xs)) (d + 1) 81 [.ref 17, .ref a1, .ref a2, .ref a3] (sh18, I, Lg, Rf, 18, 108517) Q := by
  refine mj_enter (z := (4, [], mb_81)) (by decide) rfl rfl ?_
  refine mj_blk rfl ?_
  simp +decide only [mjs_0, mjs_1, mjs_2, mjs_3, mjs_ble, true_and, Bool.false_eq_true, if_false, if_true, Nat.reduceAdd, Nat.reduceSub, Nat.reduceLeDiff, mjs_lit, mjs_ttb, Nat.reduceEqDiff, sh18, mj_n4001, mj_n10100, mj_n41, mj_n10000, mj_n10002, mj_n14101, mj_n16, mj_n1600, mj_n8000, mj_n100]
  refine hQ _ _ _ (fun b q hb hm => ?_) (fun b q hb hm => ?_) (fun b q hb => ?_) ?_ ?_ ?_ ?_ ?_ ?_
  · rcases (show b < 18 ∨ b = 18 ∨ b = 19 ∨ b = 20 by omega) with h | rfl | rfl | rfl
    · rw [mjs_row_c (by omega), mjs_row_c (by omega), mjs_row_c (by omega)]
      exact hz b q h hm
    all_goals simp +decide only [mjs_0, mjs_1, mjs_2, mjs_3, mjs_ble, true_and, Bool.false_eq_true, if_false, if_true, Nat.reduceAdd, Nat.reduceSub, Nat.reduceLeDiff, mjs_lit, mjs_ttb, Nat.reduceEqDiff]
  · have h : b < 9 ∨ b = 11 := by unfold mz at hm; omega
    rw [mjs_row_c (by omega), mjs_row_c (by omega), mjs_row_c (by omega)]
  · simp only [mjs_row_c (show b ≠ 18 by omega), mjs_row_c (show b ≠ 19 by omega), mjs_row_c (show b ≠ 20 by omega), mjs_up_c (show b ≠ 17 by omega)]
  all_goals simp +decide only [mjs_0, mjs_1, mjs_2, mjs_3, mjs_ble, true_and, Bool.false_eq_true, if_false, if_true, Nat.reduceAdd, Nat.reduceSub, Nat.reduceLeDiff, mjs_lit, mjs_ttb, Nat.reduceEqDiff]
set_option maxRecDepth 20000 in
theorem c_45 {a1 : Nat} (hz : ∀ b q, b < 22 → mz b → I b q = 0) (hQ : ∀ (I' : Nat → Nat → Int32) (Lg' : Nat → Nat → Int64) (Rf' : Nat → Nat → Option Nat), (∀ b q, b < 25 → mz b → I' b q = 0) → (∀ b q, b < 25 → ¬ mz b → I' b q = I b q) → (∀ b q, b < 21 → Rf' b q = Rf b q) → Rf' 21 0 = some 22 → Rf' 21 1 = some 23 → Rf' 21 2 = some 24 → Rf' 21 5 = some a1 → Q (.inl none) (sh25, I', Lg', Rf', 25, 152669)) :
    mj_call (mj_X0 L xs) mj_P (mj_bi (mj_X0 L xs)) (d + 1) 45 [.ref 21, .ref a1] (sh22, I, Lg, Rf, 22, 122665) Q := by
  refine mj_enter (z := (2, [], mb_45)) (by decide) rfl rfl ?_
  refine mj_blk rfl ?_
  simp +decide only [mjs_0, mjs_1, mjs_2, mjs_3, mjs_ble, true_and, Bool.false_eq_true, if_false, if_true, Nat.reduceAdd, Nat.reduceSub, Nat.reduceLeDiff, mjs_lit, mjs_ttb, Nat.reduceEqDiff, sh22, mj_n4001, mj_n10100, mj_n41, mj_n10000, mj_n10002, mj_n14101, mj_n16, mj_n1600, mj_n8000, mj_n100]
  refine hQ _ _ _ (fun b q hb hm => ?_) (fun b q hb hm => ?_) (fun b q hb => ?_) ?_ ?_ ?_ ?_
  · rcases (show b < 22 ∨ b = 22 ∨ b = 23 ∨ b = 24 by omega) with h | rfl | rfl | rfl
    · rw [mjs_row_c (by omega), mjs_row_c (by omega), mjs_row_c (by omega)]
      exact hz b q h hm
    all_goals simp +decide only [mjs_0, mjs_1, mjs_2, mjs_3, mjs_ble, true_and, Bool.false_eq_true, if_false, if_true, Nat.reduceAdd, Nat.reduceSub, Nat.reduceLeDiff, mjs_lit, mjs_ttb, Nat.reduceEqDiff]
  · have h : b < 9 ∨ b = 11 := by unfold mz at hm; omega
    rw [mjs_row_c (by omega), mjs_row_c (by omega), mjs_row_c (by omega)]
  · simp only [mjs_row_c (show b ≠ 22 by omega), mjs_row_c (show b ≠ 23 by omega), mjs_row_c (show b ≠ 24 by omega), mjs_up_c (show b ≠ 21 by omega)]
  all_goals simp +decide only [mjs_0, mjs_1, mjs_2, mjs_3, mjs_ble, true_and, Bool.false_eq_true, if_false, if_true, Nat.reduceAdd, Nat.reduceSub, Nat.reduceLeDiff, mjs_lit, mjs_ttb, Nat.reduceEqDiff]
set_option maxRecDepth 20000 in
theorem c_17 {a1 a2 a3 : Nat} (hz : ∀ b q, b < 26 → mz b → I b q = 0) (hQ : ∀ (I' : Nat → Nat → Int32) (Lg' : Nat → Nat → Int64) (Rf' : Nat → Nat → Option Nat), (∀ b q, b < 28 → mz b → I' b q = 0) → (∀ b q, b < 28 → ¬ mz b → I' b q = I b q) → (∀ b q, b < 25 → Rf' b q = Rf b q) → Rf' 25 0 = some 26 → Rf' 25 1 = some 27 → Rf' 25 3 = some a1 → Rf' 25 4 = some a2 → Rf' 25 5 = some a3 → Q (.inl none) (sh28, I', Lg', Rf', 28, 152875)) :
    mj_call (mj_X0 L xs) mj_P (mj_bi (mj_X0 L xs)) (d + 1) 17 [.ref 25, .ref a1, .ref a2, .ref a3] (sh26, I, Lg, Rf, 26, 152675) Q := by
  refine mj_enter (z := (4, [], mb_17)) (by decide) rfl rfl ?_
  refine mj_blk rfl ?_
  simp +decide only [mjs_0, mjs_1, mjs_2, mjs_3, mjs_ble, true_and, Bool.false_eq_true, if_false, if_true, Nat.reduceAdd, Nat.reduceSub, Nat.reduceLeDiff, mjs_lit, mjs_ttb, Nat.reduceEqDiff, sh26, mj_n4001, mj_n10100, mj_n41, mj_n10000, mj_n10002, mj_n14101, mj_n16, mj_n1600, mj_n8000, mj_n100]
  refine hQ _ _ _ (fun b q hb hm => ?_) (fun b q hb hm => ?_) (fun b q hb => ?_) ?_ ?_ ?_ ?_ ?_
  · rcases (show b < 26 ∨ b = 26 ∨ b = 27 by omega) with h | rfl | rfl
    · rw [mjs_row_c (by omega), mjs_row_c (by omega)]
      exact hz b q h hm
    all_goals simp +decide only [mjs_0, mjs_1, mjs_2, mjs_3, mjs_ble, true_and, Bool.false_eq_true, if_false, if_true, Nat.reduceAdd, Nat.reduceSub, Nat.reduceLeDiff, mjs_lit, mjs_ttb, Nat.reduceEqDiff]
  · have h : b < 9 ∨ b = 11 := by unfold mz at hm; omega
    rw [mjs_row_c (by omega), mjs_row_c (by omega)]
  · simp only [mjs_row_c (show b ≠ 26 by omega), mjs_row_c (show b ≠ 27 by omega), mjs_up_c (show b ≠ 25 by omega)]
  all_goals simp +decide only [mjs_0, mjs_1, mjs_2, mjs_3, mjs_ble, true_and, Bool.false_eq_true, if_false, if_true, Nat.reduceAdd, Nat.reduceSub, Nat.reduceLeDiff, mjs_lit, mjs_ttb, Nat.reduceEqDiff]
set_option maxRecDepth 20000 in
theorem c_9 {a1 a2 a3 : Nat} (hz : ∀ b q, b < 31 → mz b → I b q = 0) (hQ : ∀ (I' : Nat → Nat → Int32) (Lg' : Nat → Nat → Int64) (Rf' : Nat → Nat → Option Nat), (∀ b q, b < 34 → mz b → I' b q = 0) → (∀ b q, b < 34 → ¬ mz b → I' b q = I b q) → (∀ b q, b < 30 → Rf' b q = Rf b q) → Rf' 30 0 = some 31 → Rf' 30 1 = some 32 → Rf' 30 2 = some 33 → Rf' 30 4 = some a1 → Rf' 30 5 = some a2 → Rf' 30 6 = some a3 → Q (.inl none) (sh34, I', Lg', Rf', 34, 168624)) :
    mj_call (mj_X0 L xs) mj_P (mj_bi (mj_X0 L xs)) (d + 1) 9 [.ref 30, .ref a1, .ref a2, .ref a3] (sh31, I, Lg, Rf, 31, 154491) Q := by
  refine mj_enter (z := (4, [], mb_9)) (by decide) rfl rfl ?_
  refine mj_blk rfl ?_
  simp +decide only [mjs_0, mjs_1, mjs_2, mjs_3, mjs_ble, true_and, Bool.false_eq_true, if_false, if_true, Nat.reduceAdd, Nat.reduceSub, Nat.reduceLeDiff, mjs_lit, mjs_ttb, Nat.reduceEqDiff, sh31, mj_n4001, mj_n10100, mj_n41, mj_n10000, mj_n10002, mj_n14101, mj_n16, mj_n1600, mj_n8000, mj_n100]
  refine hQ _ _ _ (fun b q hb hm => ?_) (fun b q hb hm => ?_) (fun b q hb => ?_) ?_ ?_ ?_ ?_ ?_ ?_
  · rcases (show b < 31 ∨ b = 31 ∨ b = 32 ∨ b = 33 by omega) with h | rfl | rfl | rfl
    · rw [mjs_row_c (by omega), mjs_row_c (by omega), mjs_row_c (by omega)]
      exact hz b q h hm
    all_goals simp +decide only [mjs_0, mjs_1, mjs_2, mjs_3, mjs_ble, true_and, Bool.false_eq_true, if_false, if_true, Nat.reduceAdd, Nat.reduceSub, Nat.reduceLeDiff, mjs_lit, mjs_ttb, Nat.reduceEqDiff]
  · have h : b < 9 ∨ b = 11 := by unfold mz at hm; omega
    rw [mjs_row_c (by omega), mjs_row_c (by omega), mjs_row_c (by omega)]
  · simp only [mjs_row_c (show b ≠ 31 by omega), mjs_row_c (show b ≠ 32 by omega), mjs_row_c (show b ≠ 33 by omega), mjs_up_c (show b ≠ 30 by omega)]
  all_goals simp +decide only [mjs_0, mjs_1, mjs_2, mjs_3, mjs_ble, true_and, Bool.false_eq_true, if_false, if_true, Nat.reduceAdd, Nat.reduceSub, Nat.reduceLeDiff, mjs_lit, mjs_ttb, Nat.reduceEqDiff]
set_option maxRecDepth 20000 in
theorem c_21 {a1 a2 a3 a4 a5 a6 : Nat} (hz : ∀ b q, b < 29 → mz b → I b q = 0) (hQ : ∀ (I' : Nat → Nat → Int32) (Lg' : Nat → Nat → Int64) (Rf' : Nat → Nat → Option Nat), (∀ b q, b < 34 → mz b → I' b q = 0) → (∀ b q, b < 34 → ¬ mz b → I' b q = I b q) → (∀ b q, b < 28 → Rf' b q = Rf b q) → Rf' 28 0 = some 29 → Rf' 28 2 = some a1 → Rf' 28 3 = some a2 → Rf' 28 4 = some a3 → Rf' 28 5 = some a4 → Rf' 28 6 = some a5 → Rf' 28 7 = some a6 → Rf' 28 8 = some 30 → Rf' 30 0 = some 31 → Rf' 30 1 = some 32 → Rf' 30 2 = some 33 → Rf' 30 4 = some a1 → Rf' 30 5 = some a4 → Rf' 30 6 = some a6 → Q (.inl none) (sh34, I', Lg', Rf', 34, 168624)) :
    mj_call (mj_X0 L xs) mj_P (mj_bi (mj_X0 L xs)) (d + 2) 21 [.ref 28, .ref a1, .ref a2, .ref a3, .ref a4, .ref a5, .ref a6] (sh29, I, Lg, Rf, 29, 152884) Q := by
  refine mj_enter (z := (7, [], mb_21)) (by decide) rfl rfl ?_
  refine mj_blk rfl ?_
  simp +decide only [mjs_0, mjs_1, mjs_2, mjs_3, mjs_ble, true_and, Bool.false_eq_true, if_false, if_true, Nat.reduceAdd, Nat.reduceSub, Nat.reduceLeDiff, mjs_lit, mjs_ttb, Nat.reduceEqDiff, sh29, mj_n4001, mj_n10100, mj_n41, mj_n10000, mj_n10002, mj_n14101, mj_n16, mj_n1600, mj_n8000, mj_n100]
  refine c_9 (fun b q hb hm => ?_) (fun I1 Lg1 Rf1 z1 z2 f1 g1 g2 g3 g4 g5 g6 => ?_)
  · rcases (show b < 29 ∨ b = 29 ∨ b = 30 by omega) with h | rfl | rfl
    · rw [mjs_row_c (by omega), mjs_row_c (by omega)]
      exact hz b q h hm
    all_goals simp +decide only [mjs_0, mjs_1, mjs_2, mjs_3, mjs_ble, true_and, Bool.false_eq_true, if_false, if_true, Nat.reduceAdd, Nat.reduceSub, Nat.reduceLeDiff, mjs_lit, mjs_ttb, Nat.reduceEqDiff]
  · simp +decide only [mjs_0, mjs_1, mjs_2, mjs_3, mjs_ble, true_and, Bool.false_eq_true, if_false, if_true, Nat.reduceAdd, Nat.reduceSub, Nat.reduceLeDiff, mjs_lit, mjs_ttb, Nat.reduceEqDiff, sh34]
    refine hQ _ _ _ z1 (fun b q hb hm => ?_) (fun b q hb => ?_) ?_ ?_ ?_ ?_ ?_ ?_ ?_ ?_ ?_ ?_ ?_ ?_ ?_ ?_
    · have h : b < 9 ∨ b = 11 := by unfold mz at hm; omega
      rw [z2 b q hb hm, mjs_row_c (by omega), mjs_row_c (by omega)]
    · rw [mjs_up_c (by omega), f1 b q (by omega)]
      simp only [mjs_row_c (show b ≠ 29 by omega), mjs_row_c (show b ≠ 30 by omega), mjs_up_c (show b ≠ 28 by omega)]
    all_goals simp +decide only [mjs_0, mjs_1, mjs_2, mjs_3, mjs_ble, true_and, Bool.false_eq_true, if_false, if_true, Nat.reduceAdd, Nat.reduceSub, Nat.reduceLeDiff, mjs_lit, mjs_ttb, Nat.reduceEqDiff, f1, g1, g2, g3, g4, g5, g6]
set_option maxRecDepth 20000 in
theorem c_58 {a1 a2 a3 a4 a5 : Nat} (hz : ∀ b q, b < 35 → mz b → I b q = 0) (hQ : ∀ (I' : Nat → Nat → Int32) (Lg' : Nat → Nat → Int64) (Rf' : Nat → Nat → Option Nat), (∀ b q, b < 36 → mz b → I' b q = 0) → (∀ b q, b < 36 → ¬ mz b → I' b q = I b q) → (∀ b q, b < 34 → Rf' b q = Rf b q) → Rf' 34 0 = some 35 → Rf' 34 2 = some a1 → Rf' 34 3 = some a2 → Rf' 34 4 = some a3 → Rf' 34 5 = some a4 → Rf' 34 6 = some a5 → Q (.inl none) (sh36, I', Lg', Rf', 36, 176631)) :
    mj_call (mj_X0 L xs) mj_P (mj_bi (mj_X0 L xs)) (d + 1) 58 [.ref 34, .ref a1, .ref a2, .ref a3, .ref a4, .ref a5] (sh35, I, Lg, Rf, 35, 168631) Q := by
  refine mj_enter (z := (6, [], mb_58)) (by decide) rfl rfl ?_
  refine mj_blk rfl ?_
  simp +decide only [mjs_0, mjs_1, mjs_2, mjs_3, mjs_ble, true_and, Bool.false_eq_true, if_false, if_true, Nat.reduceAdd, Nat.reduceSub, Nat.reduceLeDiff, mjs_lit, mjs_ttb, Nat.reduceEqDiff, sh35, mj_n4001, mj_n10100, mj_n41, mj_n10000, mj_n10002, mj_n14101, mj_n16, mj_n1600, mj_n8000, mj_n100]
  refine hQ _ _ _ (fun b q hb hm => ?_) (fun b q hb hm => ?_) (fun b q hb => ?_) ?_ ?_ ?_ ?_ ?_ ?_
  · rcases (show b < 35 ∨ b = 35 by omega) with h | rfl
    · rw [mjs_row_c (by omega)]
      exact hz b q h hm
    all_goals simp +decide only [mjs_0, mjs_1, mjs_2, mjs_3, mjs_ble, true_and, Bool.false_eq_true, if_false, if_true, Nat.reduceAdd, Nat.reduceSub, Nat.reduceLeDiff, mjs_lit, mjs_ttb, Nat.reduceEqDiff]
  · have h : b < 9 ∨ b = 11 := by unfold mz at hm; omega
    rw [mjs_row_c (by omega)]
  · simp only [mjs_row_c (show b ≠ 35 by omega), mjs_up_c (show b ≠ 34 by omega)]
  all_goals simp +decide only [mjs_0, mjs_1, mjs_2, mjs_3, mjs_ble, true_and, Bool.false_eq_true, if_false, if_true, Nat.reduceAdd, Nat.reduceSub, Nat.reduceLeDiff, mjs_lit, mjs_ttb, Nat.reduceEqDiff]
end MJMADE
end
section
/-! A NEW MacroPress -/
def mj_Rt : List (Nat × Nat × Nat) → (Nat → Nat → Option Nat) → Prop
  | [], _ => True
  | t :: r, Rf => Rf t.1 t.2.1 = some t.2.2 ∧ mj_Rt r Rf
theorem mj_Rt.at {Rf : Nat → Nat → Option Nat} : ∀ {T : List (Nat × Nat × Nat)}, mj_Rt T Rf → ∀ {a b c : Nat}, (a, b, c) ∈ T → Rf a b = some c
  | t :: r, h, a, b, c, ht => by
    rcases List.mem_cons.mp ht with rfl | ht
    · exact h.1
    · exact mj_Rt.at h.2 ht
def mp_R : List (Nat × Nat × Nat) := [(0, 0, 1), (0, 1, 2), (0, 2, 9), (0, 3, 17), (0, 4, 21), (0, 5, 25), (0, 6, 28), (0, 7, 34), (2, 0, 3), (2, 1, 4), (2, 2, 5), (2, 3, 8), (2, 4, 6), (9, 0, 10), (9, 1, 11), (9, 2, 12), (9, 3, 13), (9, 4, 14), (9, 6, 15), (9, 7, 16), (9, 9, 1),
  (17, 0, 18), (17, 7, 19), (17, 9, 20), (17, 10, 2), (17, 11, 9), (17, 12, 1), (21, 0, 22), (21, 1, 23), (21, 2, 24), (21, 5, 1), (25, 0, 26), (25, 1, 27), (25, 3, 17), (25, 4, 9), (25, 5, 1), (28, 0, 29), (28, 2, 17), (28, 3, 2), (28, 4, 9), (28, 5, 21), (28, 6, 25), (28, 7, 1), (28, 8, 30),
  (30, 0, 31), (30, 1, 32), (30, 2, 33), (30, 4, 17), (30, 5, 21), (30, 6, 1), (34, 0, 35), (34, 2, 28), (34, 3, 17), (34, 4, 9), (34, 5, 21), (34, 6, 1)]
theorem mz_row {I : Nat → Nat → Int32} {n : Nat} (h : ∀ b q, b < n → mz b → I b q = 0) {b q : Nat} (hb : b < n + 1) (hm : mz b) : mj_row I n (fun _ => 0) b q = 0 := by
  by_cases hn : b = n
  · subst hn
    exact if_pos rfl
  · rw [mjs_row_c hn]
    exact h b q (by omega) hm
section MJP0
variable {L d : Nat} {xs : Nat → Int32} {Q : mj_Q} {I : Nat → Nat → Int32} {Lg : Nat → Nat → Int64} {Rf : Nat → Nat → Option Nat}
set_option maxRecDepth 20000 in
set_option maxHeartbeats 1000000 in
theorem c_0 (hz : ∀ q, I 0 q = 0) (hQ : ∀ (I' : Nat → Nat → Int32) (Lg' : Nat → Nat → Int64) (Rf' : Nat → Nat → Option Nat) (k : Nat), (∀ b q, b < 36 → mz b → I' b q = 0) → nm_I I' 2 4 5 6 k 237 → mj_Rt mp_R Rf' → Q (.inl none) (sh36, I', Lg', Rf', 36, 176631)) :
    mj_call (mj_X0 L xs) mj_P (mj_bi (mj_X0 L xs)) (d + 3) 0 [.ref 0] ([(0, 8)], I, Lg, Rf, 1, 8) Q := by
  refine mj_enter (z := (1, [], mb_0)) (by decide) rfl rfl ?_
  refine mj_blk rfl ?_
  simp +decide only [mjs_0, mjs_1, mjs_2, mjs_3, mjs_ble, true_and, Bool.false_eq_true, if_false, if_true, Nat.reduceAdd, Nat.reduceSub, Nat.reduceLeDiff, mjs_lit, mjs_ttb, Nat.reduceEqDiff]
  refine c_75 ?_
  simp +decide only [mjs_0, mjs_1, mjs_2, mjs_3, mjs_ble, true_and, Bool.false_eq_true, if_false, if_true, Nat.reduceAdd, Nat.reduceSub, Nat.reduceLeDiff, mjs_lit, mjs_ttb, Nat.reduceEqDiff]
  refine c_54 (by simp +decide only [mjs_0, mjs_1, mjs_2, mjs_3, mjs_ble, true_and, Bool.false_eq_true, if_false, if_true, Nat.reduceAdd, Nat.reduceSub, Nat.reduceLeDiff, mjs_lit, mjs_ttb, Nat.reduceEqDiff]) (fun I1 Lg1 Rf1 k hn hi1 hr1 n0 n1 n2 n3 n4 => ?_)
  simp +decide only [mjs_0, mjs_1, mjs_2, mjs_3, mjs_ble, true_and, Bool.false_eq_true, if_false, if_true, Nat.reduceAdd, Nat.reduceSub, Nat.reduceLeDiff, mjs_lit, mjs_ttb, Nat.reduceEqDiff, sh9, hr1]
  refine c_89 (p := 1) (fun I2 Lg2 Rf2 hi2 hv2 hr2 s0 s1 s2 s3 s4 s6 s7 s9 => ?_)
  simp +decide only [mjs_0, mjs_1, mjs_2, mjs_3, mjs_ble, true_and, Bool.false_eq_true, if_false, if_true, Nat.reduceAdd, Nat.reduceSub, Nat.reduceLeDiff, mjs_lit, mjs_ttb, Nat.reduceEqDiff, sh17, hr2, hr1]
  have z18 : ∀ b q, b < 18 → mz b → mj_row I2 17 (fun _ => 0) b q = 0 := by
    intro b q hb hm
    unfold mz at hm
    by_cases h17 : b = 17
    · subst h17
      simp +decide only [mjs_0, mjs_1, mjs_2, mjs_3, mjs_ble, true_and, Bool.false_eq_true, if_false, if_true, Nat.reduceAdd, Nat.reduceSub, Nat.reduceLeDiff, mjs_lit, mjs_ttb, Nat.reduceEqDiff]
    rw [mjs_row_c h17]
    by_cases h10 : b < 10
    · rw [hi2 b q h10]
      by_cases h9 : b = 9
      · subst h9
        simp +decide only [mjs_0, mjs_1, mjs_2, mjs_3, mjs_ble, true_and, Bool.false_eq_true, if_false, if_true, Nat.reduceAdd, Nat.reduceSub, Nat.reduceLeDiff, mjs_lit, mjs_ttb, Nat.reduceEqDiff]
      rw [mjs_row_c h9, hi1 b q (by omega)]
      rcases (show b = 0 ∨ b = 1 by omega) with rfl | rfl <;> simp +decide only [mjs_0, mjs_1, mjs_2, mjs_3, mjs_ble, true_and, Bool.false_eq_true, if_false, if_true, Nat.reduceAdd, Nat.reduceSub, Nat.reduceLeDiff, mjs_lit, mjs_ttb, Nat.reduceEqDiff, hz]
    · exact hv2 b q (by omega) (by omega) (by omega)
  have nm18 : nm_I (mj_row I2 17 fun _ => 0) 2 4 5 6 k 237 := hn.to fun b q hb => by
    rw [mjs_row_c (by omega), hi2 b q (by omega), mjs_row_c (by omega)]
  refine c_81 (a1 := 2) (a2 := 9) (a3 := 1) z18 (fun I3 Lg3 Rf3 z3 y3 hr3 g0 g1 g2 g3 g4 g5 => ?_)
  simp +decide only [mjs_0, mjs_1, mjs_2, mjs_3, mjs_ble, true_and, Bool.false_eq_true, if_false, if_true, Nat.reduceAdd, Nat.reduceSub, Nat.reduceLeDiff, mjs_lit, mjs_ttb, Nat.reduceEqDiff, sh21, hr3, hr2, hr1]
  refine c_45 (a1 := 1) (fun b q hb hm => mz_row z3 hb hm) (fun I4 Lg4 Rf4 z4 y4 hr4 k0 k1 k2 k3 => ?_)
  simp +decide only [mjs_0, mjs_1, mjs_2, mjs_3, mjs_ble, true_and, Bool.false_eq_true, if_false, if_true, Nat.reduceAdd, Nat.reduceSub, Nat.reduceLeDiff, mjs_lit, mjs_ttb, Nat.reduceEqDiff, sh25, hr4, hr3, hr2, hr1]
  refine c_17 (a1 := 17) (a2 := 9) (a3 := 1) (fun b q hb hm => mz_row z4 hb hm) (fun I5 Lg5 Rf5 z5 y5 hr5 q0 q1 q2 q3 q4 => ?_)
  simp +decide only [mjs_0, mjs_1, mjs_2, mjs_3, mjs_ble, true_and, Bool.false_eq_true, if_false, if_true, Nat.reduceAdd, Nat.reduceSub, Nat.reduceLeDiff, mjs_lit, mjs_ttb, Nat.reduceEqDiff, sh28, hr5, hr4, hr3, hr2, hr1]
  refine c_21 (a1 := 17) (a2 := 2) (a3 := 9) (a4 := 21) (a5 := 25) (a6 := 1) (fun b q hb hm => mz_row z5 hb hm) (fun I6 Lg6 Rf6 z6 y6 hr6 e0 e1 e2 e3 e4 e5 e6 e7 m0 m1 m2 m3 m4 m5 => ?_)
  simp +decide only [mjs_0, mjs_1, mjs_2, mjs_3, mjs_ble, true_and, Bool.false_eq_true, if_false, if_true, Nat.reduceAdd, Nat.reduceSub, Nat.reduceLeDiff, mjs_lit, mjs_ttb, Nat.reduceEqDiff, sh34, hr6, hr5, hr4, hr3, hr2, hr1]
  refine c_58 (a1 := 28) (a2 := 17) (a3 := 9) (a4 := 21) (a5 := 1) (fun b q hb hm => mz_row z6 hb hm) (fun I7 Lg7 Rf7 z7 y7 hr7 w0 w1 w2 w3 w4 w5 => ?_)
  simp +decide only [mjs_0, mjs_1, mjs_2, mjs_3, mjs_ble, true_and, Bool.false_eq_true, if_false, if_true, Nat.reduceAdd, Nat.reduceSub, Nat.reduceLeDiff, mjs_lit, mjs_ttb, Nat.reduceEqDiff, sh36]
  have nmz : ∀ b, b = 2 ∨ b = 4 ∨ b = 5 ∨ b = 6 → ¬ mz b := fun b hb => by unfold mz; omega
  refine hQ _ _ _ k z7 (nm18.to fun b q hb => ?_) ?_
  · rw [y7 b q (by omega) (nmz b hb), mjs_row_c (by omega), y6 b q (by omega) (nmz b hb), mjs_row_c (by omega), y5 b q (by omega) (nmz b hb), mjs_row_c (by omega), y4 b q (by omega) (nmz b hb), mjs_row_c (by omega), y3 b q (by omega) (nmz b hb)]
  · simp +decide only [mp_R, mj_Rt, mjs_0, mjs_1, mjs_2, mjs_3, mjs_ble, true_and, Bool.false_eq_true, if_false, if_true, Nat.reduceAdd, Nat.reduceSub, Nat.reduceLeDiff, mjs_lit, mjs_ttb, Nat.reduceEqDiff, hr7, hr6, hr5, hr4, hr3, hr2, hr1, n0, n1, n2, n3, n4, s0, s1, s2, s3, s4, s6, s7, s9, g0, g1, g2, g3, g4, g5, k0, k1, k2, k3, q0, q1, q2, q3, q4, e0, e1, e2, e3, e4, e5, e6, e7, m0, m1, m2, m3, m4, m5, w0, w1, w2, w3, w4, w5, and_self]
end MJP0
end
section
/-! THE REFERENCE: names added, all cleared, made -/
def mm_C (sh : List (Nat × Nat)) : Prop := sh[36]? = some (10, 41) ∧ sh[40]? = some (1004, 44000) ∧ sh[41]? = some (1000, 1100) ∧ sh[42]? = some (1000, 41) ∧ sh[45]? = some (1000, 141400) ∧ sh[46]? = some (1000, 25856) ∧ sh[47]? = some (1000, 25856)
def mm_R : List (Nat × Nat × Nat) := [(36, 2, 37), (36, 4, 38), (36, 7, 39), (36, 12, 40), (36, 13, 41), (36, 14, 42), (36, 16, 43), (36, 18, 44), (36, 19, 45), (36, 20, 46), (36, 21, 47), (36, 23, 48), (36, 24, 49), (36, 25, 50), (36, 26, 51), (36, 28, 52), (36, 30, 53), (36, 31, 54), (36, 32, 55), (36, 34, 56), (36, 35, 57)]
def mj_rls : List Int32 → Nat → Bool
  | [], _ => true
  | t :: ts, n => Nat.ble n 40 && mj_rls ts (if t = 32 then 0 else n + 1)
theorem mj_t3l : mj_t3.length = 237 := by decide +kernel
theorem mj_t3r : mj_rls mj_t3 0 = true := by decide +kernel
section MJM0
variable {X : mj_X} {L d nc ns : Nat} {xs : Nat → Int32} {Q : mj_Q} {sh : List (Nat × Nat)} {I : Nat → Nat → Int32} {Lg : Nat → Nat → Int64} {Rf : Nat → Nat → Option Nat}
theorem f109 (hC : mm_C sh) (hR : mj_Rt mm_R Rf) {nm sz : Nat} (hnm : nm < 1000) (hsz : sz ≤ 40) (h11 : I 36 11 = nI nm) (h15 : I 36 15 = nI sz)
    (hk : ∀ I' : Nat → Nat → Int32, (∀ b q, b ≠ 40 → I' b q = I b q) → mj_rn X (mj_hd []) (mj_call X mj_P (mj_bi X) d) mb_109 37 [some (.ref 36), some (.int (nI sz))] [] (sh, I', Lg, Rf, nc, ns) Q) :
    ∀ (m j : Nat) (I' : Nat → Nat → Int32), j + m = sz → (∀ b q, b ≠ 40 → I' b q = I b q) → mj_rn X (mj_hd []) (mj_call X mj_P (mj_bi X) d) mb_109 2 [some (.ref 36), some (.int (nI j))] [] (sh, I', Lg, Rf, nc, ns) Q := by
  obtain ⟨c1, c2, c3, c4, c5, c6, c7⟩ := hC
  have r12 := hR.at (a := 36) (b := 12) (c := 40) (by decide)
  have r14 := hR.at (a := 36) (b := 14) (c := 42) (by decide)
  intro m
  induction m with
  | zero =>
    intro j I' hj h2
    obtain rfl : j = sz := by omega
    have g15 : I' 36 15 = nI j := (h2 36 15 (by decide)).trans h15
    refine mj_blk rfl ?_
    simp +decide only [mjs_0, mjs_1, mjs_2, mjs_3, mjs_ble, true_and, Bool.false_eq_true, if_false, if_true, Nat.reduceAdd, Nat.reduceSub, Nat.reduceLeDiff, mjs_ob c1, g15]
    exact ⟨fun _ => hk I' h2, fun q => absurd (nI_le (Nat.le_refl j) (by omega)) q⟩
  | succ m ih =>
    intro j I' hj h2
    have g15 : I' 36 15 = nI sz := (h2 36 15 (by decide)).trans h15
    have g11 : I' 36 11 = nI nm := (h2 36 11 (by decide)).trans h11
    refine mj_blk rfl ?_
    simp +decide only [mjs_0, mjs_1, mjs_2, mjs_3, mjs_ble, true_and, Bool.false_eq_true, if_false, if_true, Nat.reduceAdd, Nat.reduceSub, Nat.reduceLeDiff, mjs_ob c1, g15]
    refine ⟨fun q => absurd q (nI_ge (by omega) (by omega)), fun _ => mj_blk rfl ?_⟩
    have e0 : (40 : Int32) * nI nm = nI (40 * nm) := pk_mul 40 nm
    simp +decide only [mjs_0, mjs_1, mjs_2, mjs_3, mjs_ble, true_and, Bool.false_eq_true, if_false, if_true, Nat.reduceAdd, Nat.reduceSub, Nat.reduceLeDiff, mjs_ob c1, g11, r12, r14, e0, mjs_ar (t := 0) c4, mjs_ar (t := 4) c2, nI_add, nI_1]
    refine ⟨nI_in (by omega) (by decide), nI_in (by omega) (by decide), ih (j + 1) _ (by omega) (fun b q hb => ?_)⟩
    rw [mjs_up_c hb]
    exact h2 b q hb
theorem c_109 (hC : mm_C sh) (hR : mj_Rt mm_R Rf) {nm sz : Nat} (hnm : nm < 1000) (hsz : sz ≤ 40) (h11 : I 36 11 = nI nm) (h15 : I 36 15 = nI sz)
    (hQ : ∀ I' : Nat → Nat → Int32, (∀ b q, b ≠ 36 → b ≠ 40 → b ≠ 41 → I' b q = I b q) → (∀ q, q ≠ 11 → I' 36 q = I 36 q) → I' 36 11 = nI (nm + 1) → Q (.inl (some (.int (nI nm)))) (sh, I', Lg, Rf, nc, ns)) :
    mj_call X mj_P (mj_bi X) (d + 1) 109 [.ref 36] (sh, I, Lg, Rf, nc, ns) Q := by
  have hC' := hC
  obtain ⟨c1, c2, c3, c4, c5, c6, c7⟩ := hC
  have r13 := hR.at (a := 36) (b := 13) (c := 41) (by decide)
  refine mj_enter (z := (2, [], mb_109)) (by decide) rfl rfl ?_
  refine mj_blk rfl ?_
  simp +decide only [mjs_0, mjs_1, mjs_2, mjs_3, mjs_ble, true_and, Bool.false_eq_true, if_false, if_true, Nat.reduceAdd, Nat.reduceSub, Nat.reduceLeDiff]
  refine f109 hC' hR hnm hsz h11 h15 (fun I1 h1 => ?_) sz 0 I (Nat.zero_add _) (fun _ _ _ => rfl)
  have g15 : I1 36 15 = nI sz := (h1 36 15 (by decide)).trans h15
  have g11 : I1 36 11 = nI nm := (h1 36 11 (by decide)).trans h11
  have e0 : (nI nm).toNatClampNeg = nm := nI_clamp (by omega)
  have u1 : ∀ (J : Nat → Nat → Int32) (j : Nat) (w : Int32) (q : Nat), mj_up J 41 j w 36 q = J 36 q := fun J j w q => mjs_up_c (by decide)
  refine mj_blk rfl ?_
  simp +decide only [mjs_0, mjs_1, mjs_2, mjs_3, mjs_ble, true_and, Bool.false_eq_true, if_false, if_true, Nat.reduceAdd, Nat.reduceSub, Nat.reduceLeDiff, mjs_ob c1, g11, g15, r13, mjs_ar (t := 0) c3, u1, nI_1, mjs_up_at, nI_pred]
  refine ⟨nI_in (by omega) (by decide), hQ _ (fun b q hb1 hb2 hb3 => ?_) (fun q hq => ?_) mjs_up_at⟩
  · rw [mjs_up_c hb1, mjs_up_c hb3, h1 b q hb2]
  · rw [mjs_up_ne (Or.inr hq), mjs_up_c (by decide), h1 36 q (by decide)]
end MJM0
end
section
/-! THE REFERENCE: its primitives, all cleared -/
section MJM1
variable {L d nc ns : Nat} {xs : Nat → Int32} {Q : mj_Q} {sh : List (Nat × Nat)} {I : Nat → Nat → Int32} {Lg : Nat → Nat → Int64} {Rf : Nat → Nat → Option Nat}
/-- what 'primitives' may change -/
def mm_P (I I' : Nat → Nat → Int32) : Prop := (∀ b q, b ≠ 36 → b ≠ 40 → b ≠ 41 → b ≠ 42 → b ≠ 45 → I' b q = I b q) ∧ ∀ q, q ≠ 11 → q ≠ 15 → I' 36 q = I 36 q
theorem f108 (hC : mm_C sh) (hR : mj_Rt mm_R Rf) (hQ : ∀ I' : Nat → Nat → Int32, mm_P I I' → Q (.inl none) (sh, I', Lg, Rf, nc, ns)) :
    ∀ (ts : List Int32) (i n nm : Nat) (I' : Nat → Nat → Int32) (w : Option Value), mj_t3.drop i = ts → mj_rls ts n = true → nm ≤ i → i ≤ 237 → I' 36 11 = nI nm → I' 36 15 = nI n → mm_P I I' →
      mj_rn (mj_X0 L xs) (mj_hd []) (mj_call (mj_X0 L xs) mj_P (mj_bi (mj_X0 L xs)) (d + 1)) mb_108 7 [some (.ref 36), some (.ref 900003), some (.int (nI i)), w] [] (sh, I', Lg, Rf, nc, ns) Q := by
  have hC' := hC
  obtain ⟨c1, c2, c3, c4, c5, c6, c7⟩ := hC
  have r14 := hR.at (a := 36) (b := 14) (c := 42) (by decide)
  have r19 := hR.at (a := 36) (b := 19) (c := 45) (by decide)
  intro ts
  induction ts with
  | nil =>
    intro i n nm I' w hd hrl hni hi h11 h15 hP
    have hl : 237 ≤ i := by
      have := List.drop_eq_nil_iff.mp hd
      rw [mj_t3l] at this
      exact this
    obtain rfl : i = 237 := by omega
    refine mj_blk rfl ?_
    simp +decide only [mjs_0, mjs_1, mjs_2, mjs_3, mjs_ble, true_and, Bool.false_eq_true, if_false, if_true, Nat.reduceAdd, Nat.reduceSub, Nat.reduceLeDiff]
    refine c_904 (tx := mj_t3) (by decide) rfl ?_
    simp +decide only [mjs_0, mjs_1, mjs_2, mjs_3, mjs_ble, true_and, Bool.false_eq_true, if_false, if_true, Nat.reduceAdd, Nat.reduceSub, Nat.reduceLeDiff, mj_t3l]
    refine ⟨fun _ => mj_blk rfl ?_, fun q => q.elim⟩
    simp +decide only [mjs_0, mjs_1, mjs_2, mjs_3, mjs_ble, true_and, Bool.false_eq_true, if_false, if_true, Nat.reduceAdd, Nat.reduceSub, Nat.reduceLeDiff]
    exact hQ I' hP
  | cons t ts ih =>
    intro i n nm I' w hd hrl hni hi h11 h15 hP
    have hlt : i < mj_t3.length := by
      by_cases h : i < mj_t3.length
      · exact h
      · rw [List.drop_eq_nil_iff.mpr (by omega)] at hd
        cases hd
    have hlt' : i < 237 := by rw [mj_t3l] at hlt; exact hlt
    rw [List.drop_eq_getElem_cons hlt] at hd
    have ht : mj_t3.getD i 0 = t := by
      rw [List.getD_eq_getElem?_getD, List.getElem?_eq_getElem hlt]
      exact (List.cons.inj hd).1
    have hd' : mj_t3.drop (i + 1) = ts := (List.cons.inj hd).2
    unfold mj_rls at hrl
    rw [Bool.and_eq_true] at hrl
    have hn40 : n ≤ 40 := Nat.le_of_ble_eq_true hrl.1
    have e0 : (nI i).toNatClampNeg = i := nI_clamp (by omega)
    have K73 : ∀ (n' nm' : Nat) (I2 : Nat → Nat → Int32) (w : Option Value), mj_rls ts n' = true → nm' ≤ i + 1 → I2 36 11 = nI nm' → I2 36 15 = nI n' → mm_P I I2 → mj_rn (mj_X0 L xs) (mj_hd []) (mj_call (mj_X0 L xs) mj_P (mj_bi (mj_X0 L xs)) (d + 1)) mb_108 73 [some (.ref 36), some (.ref 900003), some (.int (nI i)), w] [] (sh, I2, Lg, Rf, nc, ns) Q := by
      intro n' nm' I2 w a1 a2 a3 a4 a5
      refine mj_blk rfl ?_
      simp +decide only [mjs_0, mjs_1, mjs_2, mjs_3, mjs_ble, true_and, Bool.false_eq_true, if_false, if_true, Nat.reduceAdd, Nat.reduceSub, Nat.reduceLeDiff, nI_1]
      exact ih (i + 1) n' nm' I2 _ hd' a1 a2 (by omega) a3 a4 a5
    refine mj_blk rfl ?_
    simp +decide only [mjs_0, mjs_1, mjs_2, mjs_3, mjs_ble, true_and, Bool.false_eq_true, if_false, if_true, Nat.reduceAdd, Nat.reduceSub, Nat.reduceLeDiff]
    refine c_904 (tx := mj_t3) (by decide) rfl ?_
    simp +decide only [mjs_0, mjs_1, mjs_2, mjs_3, mjs_ble, true_and, Bool.false_eq_true, if_false, if_true, Nat.reduceAdd, Nat.reduceSub, Nat.reduceLeDiff, mj_t3l]
    refine ⟨fun q => absurd q (nI_ge (by omega) (by decide)), fun _ => mj_blk rfl ?_⟩
    simp +decide only [mjs_0, mjs_1, mjs_2, mjs_3, mjs_ble, true_and, Bool.false_eq_true, if_false, if_true, Nat.reduceAdd, Nat.reduceSub, Nat.reduceLeDiff]
    refine c_905 (tx := mj_t3) (by decide) rfl (nI_in (by omega) (by rw [mj_t3l]; decide)) ?_
    simp +decide only [mjs_0, mjs_1, mjs_2, mjs_3, mjs_ble, true_and, Bool.false_eq_true, if_false, if_true, Nat.reduceAdd, Nat.reduceSub, Nat.reduceLeDiff, e0, ht]
    refine ⟨fun q => mj_blk rfl ?_, fun q => mj_blk rfl ?_⟩
    · rw [if_neg q] at hrl
      simp +decide only [mjs_0, mjs_1, mjs_2, mjs_3, mjs_ble, true_and, Bool.false_eq_true, if_false, if_true, Nat.reduceAdd, Nat.reduceSub, Nat.reduceLeDiff, mjs_ob c1, r14, h15]
      refine c_905 (tx := mj_t3) (by decide) rfl (nI_in (by omega) (by rw [mj_t3l]; decide)) ?_
      have u1 : ∀ (J : Nat → Nat → Int32) (j : Nat) (w : Int32) (q : Nat), mj_up J 42 j w 36 q = J 36 q := fun J j w q => mjs_up_c (by decide)
      simp +decide only [mjs_0, mjs_1, mjs_2, mjs_3, mjs_ble, true_and, Bool.false_eq_true, if_false, if_true, Nat.reduceAdd, Nat.reduceSub, Nat.reduceLeDiff, mjs_ob c1, mjs_ar (t := 0) c4, u1, h15, nI_1]
      refine ⟨nI_in (by omega) (by decide), K73 (n + 1) nm _ _ hrl.2 (by omega) ?_ mjs_up_at ⟨fun b q h1 h2 h3 h4 h5 => ?_, fun q h1 h2 => ?_⟩⟩
      · rw [mjs_up_ne (Or.inr (by decide)), mjs_up_c (by decide)]
        exact h11
      · rw [mjs_up_c h1, mjs_up_c h4]
        exact hP.1 b q h1 h2 h3 h4 h5
      · rw [mjs_up_ne (Or.inr h2), mjs_up_c (by decide)]
        exact hP.2 q h1 h2
    · rw [if_pos (Decidable.not_not.mp q)] at hrl
      simp +decide only [mjs_0, mjs_1, mjs_2, mjs_3, mjs_ble, true_and, Bool.false_eq_true, if_false, if_true, Nat.reduceAdd, Nat.reduceSub, Nat.reduceLeDiff, mjs_rc c1]
      refine c_109 hC' hR (nm := nm) (sz := n) (by omega) hn40 h11 h15 (fun I2 hf1 hf2 hf3 => ?_)
      have e1 : (1000 : Int32) + nI nm = nI (1000 + nm) := nI_add 1000 nm
      simp +decide only [mjs_0, mjs_1, mjs_2, mjs_3, mjs_ble, true_and, Bool.false_eq_true, if_false, if_true, Nat.reduceAdd, Nat.reduceSub, Nat.reduceLeDiff, mjs_ob c1, r19, mjs_ar (t := 0) c5]
      refine ⟨nI_in (by omega) (by decide), K73 0 (nm + 1) _ _ hrl.2 (by omega) ?_ mjs_up_at ⟨fun b q h1 h2 h3 h4 h5 => ?_, fun q h1 h2 => ?_⟩⟩
      · rw [mjs_up_ne (Or.inr (by decide)), mjs_up_c (by decide)]
        exact hf3
      · rw [mjs_up_c h1, mjs_up_c h5, hf1 b q h1 h2 h3]
        exact hP.1 b q h1 h2 h3 h4 h5
      · rw [mjs_up_ne (Or.inr h2), mjs_up_c (by decide), hf2 q h1]
        exact hP.2 q h1 h2
theorem c_108 (hC : mm_C sh) (hR : mj_Rt mm_R Rf) (h11 : I 36 11 = 0) (hQ : ∀ I' : Nat → Nat → Int32, mm_P I I' → Q (.inl none) (sh, I', Lg, Rf, nc, ns)) :
    mj_call (mj_X0 L xs) mj_P (mj_bi (mj_X0 L xs)) (d + 2) 108 [.ref 36, .ref 900003] (sh, I, Lg, Rf, nc, ns) Q := by
  have c1 := hC.1
  refine mj_enter (z := (4, [], mb_108)) (by decide) rfl rfl ?_
  refine mj_blk rfl ?_
  simp +decide only [mjs_0, mjs_1, mjs_2, mjs_3, mjs_ble, true_and, Bool.false_eq_true, if_false, if_true, Nat.reduceAdd, Nat.reduceSub, Nat.reduceLeDiff, mjs_ob c1]
  refine f108 hC hR hQ mj_t3 0 0 0 _ _ rfl mj_t3r (Nat.le_refl _) (by decide) ?_ mjs_up_at ⟨fun b q h1 h2 h3 h4 h5 => mjs_up_c h1, fun q h1 h2 => mjs_up_ne (Or.inr h2)⟩
  rw [mjs_up_ne (Or.inr (by decide))]
  exact h11
end MJM1
end
section
/-! THE REFERENCE: cleared, and made -/
section MJM2
variable {L d nc ns : Nat} {xs : Nat → Int32} {Q : mj_Q} {sh : List (Nat × Nat)} {I : Nat → Nat → Int32} {Lg : Nat → Nat → Int64} {Rf : Nat → Nat → Option Nat}
def mm_cf : List Nat := [3, 5, 6, 8, 9, 10, 17, 22, 27, 29, 33, 36, 38, 39, 40]
def mm_Cl (I I' : Nat → Nat → Int32) : Prop := (∀ b q, b ≠ 36 → b ≠ 40 → b ≠ 41 → b ≠ 42 → b ≠ 45 → b ≠ 46 → b ≠ 47 → I' b q = I b q) ∧ (∀ q, q ∈ mm_cf → I' 36 q = 0) ∧ (I' 36 0 = I 36 0 ∧ I' 36 1 = I 36 1 ∧ I' 36 37 = I 36 37) ∧ ∀ q, q < 256 → I' 46 q = 0
theorem f107_A (hC : mm_C sh) (hR : mj_Rt mm_R Rf) (hk : ∀ (I' : Nat → Nat → Int32), (∀ b q, b ≠ 45 → I' b q = I b q) → mj_rn (mj_X0 L xs) (mj_hd []) (mj_call (mj_X0 L xs) mj_P (mj_bi (mj_X0 L xs)) d) mb_107 102 [some (.ref 36), some (.int (nI 1400)), none] [] (sh, I', Lg, Rf, nc, ns) Q) :
    ∀ (m j : Nat) (I' : Nat → Nat → Int32), j + m = 1400 → (∀ b q, b ≠ 45 → I' b q = I b q) → mj_rn (mj_X0 L xs) (mj_hd []) (mj_call (mj_X0 L xs) mj_P (mj_bi (mj_X0 L xs)) d) mb_107 82 [some (.ref 36), some (.int (nI j)), none] [] (sh, I', Lg, Rf, nc, ns) Q := by
  obtain ⟨c1, c2, c3, c4, c5, c6, c7⟩ := hC
  have r19 := hR.at (a := 36) (b := 19) (c := 45) (by decide)
  intro m
  induction m with
  | zero =>
    intro j I' hj h2
    obtain rfl : j = 1400 := by omega
    refine mj_blk rfl ?_
    simp +decide only [mjs_0, mjs_1, mjs_2, mjs_3, mjs_ble, true_and, Bool.false_eq_true, if_false, if_true, Nat.reduceAdd, Nat.reduceSub, Nat.reduceLeDiff]
    exact ⟨fun _ => hk I' h2, fun q => q.elim⟩
  | succ m ih =>
    intro j I' hj h2
    refine mj_blk rfl ?_
    simp +decide only [mjs_0, mjs_1, mjs_2, mjs_3, mjs_ble, true_and, Bool.false_eq_true, if_false, if_true, Nat.reduceAdd, Nat.reduceSub, Nat.reduceLeDiff]
    refine ⟨fun q => absurd q (nI_ge (a := j) (b := 1400) (by omega) (by decide)), fun _ => mj_blk rfl ?_⟩
    simp +decide only [mjs_0, mjs_1, mjs_2, mjs_3, mjs_ble, true_and, Bool.false_eq_true, if_false, if_true, Nat.reduceAdd, Nat.reduceSub, Nat.reduceLeDiff, mjs_ob c1, r19, mjs_ar (t := 0) c5, nI_1]
    refine ⟨nI_in (by omega) (by decide), ih (j + 1) _ (by omega) (fun b q hb => ?_)⟩
    rw [mjs_up_c hb]
    exact h2 b q hb
theorem f107_B (hC : mm_C sh) (hR : mj_Rt mm_R Rf) (hk : ∀ (I' : Nat → Nat → Int32), (∀ b q, b ≠ 46 → b ≠ 47 → I' b q = I b q) → (∀ q, q < 256 → I' 46 q = 0) → mj_rn (mj_X0 L xs) (mj_hd []) (mj_call (mj_X0 L xs) mj_P (mj_bi (mj_X0 L xs)) d) mb_107 171 [some (.ref 36), some (.int (nI 256)), none] [] (sh, I', Lg, Rf, nc, ns) Q) :
    ∀ (m j : Nat) (I' : Nat → Nat → Int32) (w : Option Value), j + m = 256 → (∀ b q, b ≠ 46 → b ≠ 47 → I' b q = I b q) → (∀ q, q < j → I' 46 q = 0) → mj_rn (mj_X0 L xs) (mj_hd []) (mj_call (mj_X0 L xs) mj_P (mj_bi (mj_X0 L xs)) d) mb_107 104 [some (.ref 36), some (.int (nI j)), w] [] (sh, I', Lg, Rf, nc, ns) Q := by
  obtain ⟨c1, c2, c3, c4, c5, c6, c7⟩ := hC
  have r20 := hR.at (a := 36) (b := 20) (c := 46) (by decide)
  have r21 := hR.at (a := 36) (b := 21) (c := 47) (by decide)
  intro m
  induction m with
  | zero =>
    intro j I' w hj h2 h3
    obtain rfl : j = 256 := by omega
    refine mj_blk rfl ?_
    simp +decide only [mjs_0, mjs_1, mjs_2, mjs_3, mjs_ble, true_and, Bool.false_eq_true, if_false, if_true, Nat.reduceAdd, Nat.reduceSub, Nat.reduceLeDiff]
    exact ⟨fun _ => hk I' h2 h3, fun q => q.elim⟩
  | succ m ih =>
    intro j I' w hj h2 h3
    have e0 : (nI j).toNatClampNeg = j := nI_clamp (by omega)
    refine mj_blk rfl ?_
    simp +decide only [mjs_0, mjs_1, mjs_2, mjs_3, mjs_ble, true_and, Bool.false_eq_true, if_false, if_true, Nat.reduceAdd, Nat.reduceSub, Nat.reduceLeDiff]
    refine ⟨fun q => absurd q (nI_ge (a := j) (b := 256) (by omega) (by decide)), fun _ => mj_blk rfl ?_⟩
    simp +decide only [mjs_0, mjs_1, mjs_2, mjs_3, mjs_ble, true_and, Bool.false_eq_true, if_false, if_true, Nat.reduceAdd, Nat.reduceSub, Nat.reduceLeDiff, mjs_ob c1, r20, mjs_ar (t := 0) c6, e0]
    have h2' : ∀ b q, b ≠ 46 → b ≠ 47 → mj_up I' 46 j 0 b q = I b q := fun b q h46 h47 => by
      rw [mjs_up_c h46]
      exact h2 b q h46 h47
    have h3' : ∀ q, q < j + 1 → mj_up I' 46 j 0 46 q = 0 := fun q hq => by
      by_cases h : q = j
      · rw [h, mjs_up_at]
      · rw [mjs_up_ne (Or.inr h)]
        exact h3 q (by omega)
    have K164 : ∀ (v : Int32) (w : Option Value), mj_rn (mj_X0 L xs) (mj_hd []) (mj_call (mj_X0 L xs) mj_P (mj_bi (mj_X0 L xs)) d) mb_107 164 [some (.ref 36), some (.int (nI j)), w] [.int v, .int (nI j), .ref 47] (sh, mj_up I' 46 j 0, Lg, Rf, nc, ns) Q := by
      intro v w
      refine mj_blk rfl ?_
      simp +decide only [mjs_0, mjs_1, mjs_2, mjs_3, mjs_ble, true_and, Bool.false_eq_true, if_false, if_true, Nat.reduceAdd, Nat.reduceSub, Nat.reduceLeDiff, mjs_ar (t := 0) c7, nI_1]
      refine ⟨nI_in (by omega) (by decide), ih (j + 1) _ _ (by omega) (fun b q h46 h47 => ?_) (fun q hq => ?_)⟩
      · rw [mjs_up_c h47]
        exact h2' b q h46 h47
      · rw [mjs_up_c (by decide)]
        exact h3' q hq
    have K147 : ∀ (v : Int32) (w : Option Value), mj_rn (mj_X0 L xs) (mj_hd []) (mj_call (mj_X0 L xs) mj_P (mj_bi (mj_X0 L xs)) d) mb_107 147 [some (.ref 36), some (.int (nI j)), w] [.int v] (sh, mj_up I' 46 j 0, Lg, Rf, nc, ns) Q := by
      intro v w
      refine mj_blk rfl ?_
      simp +decide only [mjs_0, mjs_1, mjs_2, mjs_3, mjs_ble, true_and, Bool.false_eq_true, if_false, if_true, Nat.reduceAdd, Nat.reduceSub, Nat.reduceLeDiff, mjs_ob c1, r21]
      refine ⟨fun _ => mj_blk rfl ?_, fun _ => mj_blk rfl ?_⟩
      · simp +decide only [mjs_0, mjs_1, mjs_2, mjs_3, mjs_ble, true_and, Bool.false_eq_true, if_false, if_true, Nat.reduceAdd, Nat.reduceSub, Nat.reduceLeDiff]
        exact K164 _ _
      · simp +decide only [mjs_0, mjs_1, mjs_2, mjs_3, mjs_ble, true_and, Bool.false_eq_true, if_false, if_true, Nat.reduceAdd, Nat.reduceSub, Nat.reduceLeDiff]
        exact K164 _ _
    have K146 : ∀ (w : Option Value), mj_rn (mj_X0 L xs) (mj_hd []) (mj_call (mj_X0 L xs) mj_P (mj_bi (mj_X0 L xs)) d) mb_107 146 [some (.ref 36), some (.int (nI j)), w] [] (sh, mj_up I' 46 j 0, Lg, Rf, nc, ns) Q := by
      intro w
      refine mj_blk rfl ?_
      simp +decide only [mjs_0, mjs_1, mjs_2, mjs_3, mjs_ble, true_and, Bool.false_eq_true, if_false, if_true, Nat.reduceAdd, Nat.reduceSub, Nat.reduceLeDiff]
      exact K147 _ _
    have K142 : ∀ (w : Option Value), mj_rn (mj_X0 L xs) (mj_hd []) (mj_call (mj_X0 L xs) mj_P (mj_bi (mj_X0 L xs)) d) mb_107 142 [some (.ref 36), some (.int (nI j)), w] [] (sh, mj_up I' 46 j 0, Lg, Rf, nc, ns) Q := by
      intro w
      refine mj_blk rfl ?_
      simp +decide only [mjs_0, mjs_1, mjs_2, mjs_3, mjs_ble, true_and, Bool.false_eq_true, if_false, if_true, Nat.reduceAdd, Nat.reduceSub, Nat.reduceLeDiff]
      exact K147 _ _
    have K130 : ∀ (w : Option Value), mj_rn (mj_X0 L xs) (mj_hd []) (mj_call (mj_X0 L xs) mj_P (mj_bi (mj_X0 L xs)) d) mb_107 130 [some (.ref 36), some (.int (nI j)), w] [] (sh, mj_up I' 46 j 0, Lg, Rf, nc, ns) Q := by
      intro w
      refine mj_blk rfl ?_
      simp +decide only [mjs_0, mjs_1, mjs_2, mjs_3, mjs_ble, true_and, Bool.false_eq_true, if_false, if_true, Nat.reduceAdd, Nat.reduceSub, Nat.reduceLeDiff]
      refine ⟨fun _ => K146 _, fun _ => mj_blk rfl ?_⟩
      simp +decide only [mjs_0, mjs_1, mjs_2, mjs_3, mjs_ble, true_and, Bool.false_eq_true, if_false, if_true, Nat.reduceAdd, Nat.reduceSub, Nat.reduceLeDiff]
      exact ⟨fun _ => K146 _, fun _ => K142 _⟩
    refine ⟨nI_in (by omega) (by decide), fun _ => K130 _, fun _ => mj_blk rfl ?_⟩
    simp +decide only [mjs_0, mjs_1, mjs_2, mjs_3, mjs_ble, true_and, Bool.false_eq_true, if_false, if_true, Nat.reduceAdd, Nat.reduceSub, Nat.reduceLeDiff]
    exact ⟨fun _ => K142 _, fun _ => K130 _⟩
theorem c_107 (hC : mm_C sh) (hR : mj_Rt mm_R Rf) (hQ : ∀ I' : Nat → Nat → Int32, mm_Cl I I' → Q (.inl none) (sh, I', Lg, Rf, nc, ns)) :
    mj_call (mj_X0 L xs) mj_P (mj_bi (mj_X0 L xs)) (d + 3) 107 [.ref 36] (sh, I, Lg, Rf, nc, ns) Q := by
  have hC' := hC
  obtain ⟨c1, c2, c3, c4, c5, c6, c7⟩ := hC
  have r21 := hR.at (a := 36) (b := 21) (c := 47) (by decide)
  refine mj_enter (z := (3, [], mb_107)) (by decide) rfl rfl ?_
  refine mj_blk rfl ?_
  simp +decide only [mjs_0, mjs_1, mjs_2, mjs_3, mjs_ble, true_and, Bool.false_eq_true, if_false, if_true, Nat.reduceAdd, Nat.reduceSub, Nat.reduceLeDiff, mjs_ob c1]
  refine f107_A hC' hR (fun I1 h1 => ?_) 1400 0 _ rfl (fun _ _ _ => rfl)
  refine mj_blk rfl ?_
  simp +decide only [mjs_0, mjs_1, mjs_2, mjs_3, mjs_ble, true_and, Bool.false_eq_true, if_false, if_true, Nat.reduceAdd, Nat.reduceSub, Nat.reduceLeDiff]
  refine f107_B hC' hR (fun I2 h2 h3 => ?_) 256 0 I1 _ rfl (fun _ _ _ _ => rfl) (fun q hq => absurd hq (Nat.not_lt_zero q))
  refine mj_blk rfl ?_
  simp +decide only [mjs_0, mjs_1, mjs_2, mjs_3, mjs_ble, true_and, Bool.false_eq_true, if_false, if_true, Nat.reduceAdd, Nat.reduceSub, Nat.reduceLeDiff, mjs_ob c1, r21, mjs_ar (t := 0) c7, mjs_rc c1]
  refine ⟨by unfold vp_in; decide, by unfold vp_in; decide, by unfold vp_in; decide, by unfold vp_in; decide, by unfold vp_in; decide, by unfold vp_in; decide, by unfold vp_in; decide, by unfold vp_in; decide, by unfold vp_in; decide, by unfold vp_in; decide, by unfold vp_in; decide, by unfold vp_in; decide, by unfold vp_in; decide, by unfold vp_in; decide, by unfold vp_in; decide, ?_⟩
  refine c_108 hC' hR ?_ (fun I3 hP => hQ I3 ⟨fun b q b1 b2 b3 b4 b5 b6 b7 => ?_, fun q hq => ?_, ⟨?_, ?_, ?_⟩, fun q hq => ?_⟩)
  · simp only [mjs_up_c (show (36 : Nat) ≠ 47 by decide)]
    rw [h2 36 11 (by decide) (by decide), h1 36 11 (by decide)]
    simp +decide only [mjs_0, mjs_1, mjs_2, mjs_3, mjs_ble, true_and, Bool.false_eq_true, if_false, if_true, Nat.reduceAdd, Nat.reduceSub, Nat.reduceLeDiff, mjs_lit, mjs_ttb, Nat.reduceEqDiff]
  · rw [hP.1 b q b1 b2 b3 b4 b5]
    simp only [mjs_up_c b7]
    rw [h2 b q b6 b7, h1 b q b5]
    simp only [mjs_up_c b1]
  · have hq' : q ≠ 11 ∧ q ≠ 15 := by
      constructor <;> (rintro rfl; revert hq; decide)
    rw [hP.2 q hq'.1 hq'.2]
    simp only [mjs_up_c (show (36 : Nat) ≠ 47 by decide)]
    rw [h2 36 q (by decide) (by decide), h1 36 q (by decide)]
    unfold mm_cf at hq
    simp only [List.mem_cons, List.not_mem_nil, or_false] at hq
    rcases hq with rfl | rfl | rfl | rfl | rfl | rfl | rfl | rfl | rfl | rfl | rfl | rfl | rfl | rfl | rfl <;> simp +decide only [mjs_0, mjs_1, mjs_2, mjs_3, mjs_ble, true_and, Bool.false_eq_true, if_false, if_true, Nat.reduceAdd, Nat.reduceSub, Nat.reduceLeDiff, mjs_lit, mjs_ttb, Nat.reduceEqDiff]
  · rw [hP.2 0 (by decide) (by decide)]
    simp only [mjs_up_c (show (36 : Nat) ≠ 47 by decide)]
    rw [h2 36 0 (by decide) (by decide), h1 36 0 (by decide)]
    simp +decide only [mjs_0, mjs_1, mjs_2, mjs_3, mjs_ble, true_and, Bool.false_eq_true, if_false, if_true, Nat.reduceAdd, Nat.reduceSub, Nat.reduceLeDiff, mjs_lit, mjs_ttb, Nat.reduceEqDiff]
  · rw [hP.2 1 (by decide) (by decide)]
    simp only [mjs_up_c (show (36 : Nat) ≠ 47 by decide)]
    rw [h2 36 1 (by decide) (by decide), h1 36 1 (by decide)]
    simp +decide only [mjs_0, mjs_1, mjs_2, mjs_3, mjs_ble, true_and, Bool.false_eq_true, if_false, if_true, Nat.reduceAdd, Nat.reduceSub, Nat.reduceLeDiff, mjs_lit, mjs_ttb, Nat.reduceEqDiff]
  · rw [hP.2 37 (by decide) (by decide)]
    simp only [mjs_up_c (show (36 : Nat) ≠ 47 by decide)]
    rw [h2 36 37 (by decide) (by decide), h1 36 37 (by decide)]
    simp +decide only [mjs_0, mjs_1, mjs_2, mjs_3, mjs_ble, true_and, Bool.false_eq_true, if_false, if_true, Nat.reduceAdd, Nat.reduceSub, Nat.reduceLeDiff, mjs_lit, mjs_ttb, Nat.reduceEqDiff]
  · rw [hP.1 46 q (by decide) (by decide) (by decide) (by decide) (by decide)]
    simp only [mjs_up_c (show (46 : Nat) ≠ 47 by decide)]
    exact h3 q hq
end MJM2
end
section
/-! THE REFERENCE: made -/
theorem mj_n9 : (9 : Int32).toNatClampNeg = 9 := by decide
theorem mj_n101 : (101 : Int32).toNatClampNeg = 101 := by decide
theorem mj_n102 : (102 : Int32).toNatClampNeg = 102 := by decide
theorem mj_n1100 : (1100 : Int32).toNatClampNeg = 1100 := by decide
theorem mj_n1722 : (1722 : Int32).toNatClampNeg = 1722 := by decide
theorem mj_n4000 : (4000 : Int32).toNatClampNeg = 4000 := by decide
theorem mj_n10001 : (10001 : Int32).toNatClampNeg = 10001 := by decide
theorem mj_n10600 : (10600 : Int32).toNatClampNeg = 10600 := by decide
theorem mj_n25856 : (25856 : Int32).toNatClampNeg = 25856 := by decide
theorem mj_n30002 : (30002 : Int32).toNatClampNeg = 30002 := by decide
theorem mj_n44000 : (44000 : Int32).toNatClampNeg = 44000 := by decide
theorem mj_n99000 : (99000 : Int32).toNatClampNeg = 99000 := by decide
theorem mj_n141400 : (141400 : Int32).toNatClampNeg = 141400 := by decide
def sh37 : List (Nat × Nat) := [(0, 8), (7, 4), (5, 6), (1002, 40237), (1000, 1037), (1000, 256), (1000, 1036), (1000, 40), (1000, 256), (9, 10), (1000, 1804), (1000, 1804), (1000, 1804), (1000, 30001), (1000, 30001), (1000, 100), (1000, 100), (8, 13), (1000, 4001), (1000, 10100), (1000, 41), (4, 6), (1000, 10000), (1000, 10002), (1000, 10002), (2, 6), (1000, 100), (1003, 100), (3, 9), (1000, 1600), (1, 7), (1000, 14101), (1000, 16), (1000, 16), (6, 7), (1000, 8000), (10, 41)]
def sh58 : List (Nat × Nat) := [(0, 8), (7, 4), (5, 6), (1002, 40237), (1000, 1037), (1000, 256), (1000, 1036), (1000, 40), (1000, 256), (9, 10), (1000, 1804), (1000, 1804), (1000, 1804), (1000, 30001), (1000, 30001), (1000, 100), (1000, 100), (8, 13), (1000, 4001), (1000, 10100), (1000, 41), (4, 6), (1000, 10000), (1000, 10002), (1000, 10002), (2, 6), (1000, 100), (1003, 100), (3, 9), (1000, 1600), (1, 7), (1000, 14101), (1000, 16), (1000, 16), (6, 7), (1000, 8000), (10, 41), (1004, 4000), (1004, 8000), (1000, 4001), (1004, 44000), (1000, 1100), (1000, 41), (1000, 1722), (1003, 102), (1000, 141400), (1000, 25856), (1000, 25856), (1000, 30002), (1000, 30002), (1000, 30002), (1000, 30002), (1000, 10001), (1000, 10600), (1000, 99000), (1000, 9), (1003, 101), (1000, 101)]
def sh59 : List (Nat × Nat) := [(0, 8), (7, 4), (5, 6), (1002, 40237), (1000, 1037), (1000, 256), (1000, 1036), (1000, 40), (1000, 256), (9, 10), (1000, 1804), (1000, 1804), (1000, 1804), (1000, 30001), (1000, 30001), (1000, 100), (1000, 100), (8, 13), (1000, 4001), (1000, 10100), (1000, 41), (4, 6), (1000, 10000), (1000, 10002), (1000, 10002), (2, 6), (1000, 100), (1003, 100), (3, 9), (1000, 1600), (1, 7), (1000, 14101), (1000, 16), (1000, 16), (6, 7), (1000, 8000), (10, 41), (1004, 4000), (1004, 8000), (1000, 4001), (1004, 44000), (1000, 1100), (1000, 41), (1000, 1722), (1003, 102), (1000, 141400), (1000, 25856), (1000, 25856), (1000, 30002), (1000, 30002), (1000, 30002), (1000, 30002), (1000, 10001), (1000, 10600), (1000, 99000), (1000, 9), (1003, 101), (1000, 101), (1001, 1)]
section MJM3
variable {L d : Nat} {xs : Nat → Int32} {Q : mj_Q} {I : Nat → Nat → Int32} {Lg : Nat → Nat → Int64} {Rf : Nat → Nat → Option Nat}
theorem mm_C58 : mm_C sh58 := ⟨rfl, rfl, rfl, rfl, rfl, rfl, rfl⟩
theorem mm_C59 : mm_C sh59 := ⟨rfl, rfl, rfl, rfl, rfl, rfl, rfl⟩
set_option maxRecDepth 400000 in
set_option maxHeartbeats 1000000 in
theorem c_103 (hz : ∀ q, I 36 q = 0) (hQ : ∀ (I' : Nat → Nat → Int32) (Lg' : Nat → Nat → Int64) (Rf' : Nat → Nat → Option Nat), (∀ b q, b < 36 → I' b q = I b q) → (∀ q, q ∈ mm_cf → I' 36 q = 0) → (I' 36 0 = 0 ∧ I' 36 1 = 0) → (∀ q, q < 256 → I' 46 q = 0) → (∀ b q, b < 36 → Rf' b q = Rf b q) → mj_Rt mm_R Rf' → Q (.inl none) (sh58, I', Lg', Rf', 58, 672570)) :
    mj_call (mj_X0 L xs) mj_P (mj_bi (mj_X0 L xs)) (d + 4) 103 [.ref 36] (sh37, I, Lg, Rf, 37, 176672) Q := by
  refine mj_enter (z := (1, [], mb_103)) (by decide) rfl rfl ?_
  refine mj_blk rfl ?_
  simp +decide only [mjs_0, mjs_1, mjs_2, mjs_3, mjs_ble, true_and, Bool.false_eq_true, if_false, if_true, Nat.reduceAdd, Nat.reduceSub, Nat.reduceLeDiff, mjs_lit, mjs_ttb, Nat.reduceEqDiff, sh37, mj_n9, mj_n101, mj_n102, mj_n1100, mj_n1722, mj_n4000, mj_n10001, mj_n10600, mj_n25856, mj_n30002, mj_n44000, mj_n99000, mj_n141400, mj_n41, mj_n8000, mj_n4001]
  refine c_107 (sh := sh58) mm_C58 ?_ (fun I1 hI1 => ?_)
  · simp +decide only [mm_R, mj_Rt, mjs_0, mjs_1, mjs_2, mjs_3, mjs_ble, true_and, Bool.false_eq_true, if_false, if_true, Nat.reduceAdd, Nat.reduceSub, Nat.reduceLeDiff, mjs_lit, mjs_ttb, Nat.reduceEqDiff, and_self]
  · simp +decide only [mjs_0, mjs_1, mjs_2, mjs_3, mjs_ble, true_and, Bool.false_eq_true, if_false, if_true, Nat.reduceAdd, Nat.reduceSub, Nat.reduceLeDiff, mjs_lit, mjs_ttb, Nat.reduceEqDiff, sh58]
    obtain ⟨h1, h2, h3, h4⟩ := hI1
    refine hQ _ _ _ (fun b q hb => ?_) (fun q hq => ?_) ⟨?_, ?_⟩ (fun q hq => ?_) (fun b q hb => ?_) ?_
    · rw [mjs_up_c (by omega), h1 b q (by omega) (by omega) (by omega) (by omega) (by omega) (by omega) (by omega)]
      simp only [mjs_row_c (show b ≠ 37 by omega), mjs_row_c (show b ≠ 38 by omega), mjs_row_c (show b ≠ 39 by omega), mjs_row_c (show b ≠ 40 by omega), mjs_row_c (show b ≠ 41 by omega), mjs_row_c (show b ≠ 42 by omega), mjs_row_c (show b ≠ 43 by omega), mjs_row_c (show b ≠ 44 by omega), mjs_row_c (show b ≠ 45 by omega), mjs_row_c (show b ≠ 46 by omega), mjs_row_c (show b ≠ 47 by omega), mjs_row_c (show b ≠ 48 by omega), mjs_row_c (show b ≠ 49 by omega), mjs_row_c (show b ≠ 50 by omega), mjs_row_c (show b ≠ 51 by omega), mjs_row_c (show b ≠ 52 by omega), mjs_row_c (show b ≠ 53 by omega), mjs_row_c (show b ≠ 54 by omega), mjs_row_c (show b ≠ 55 by omega), mjs_row_c (show b ≠ 56 by omega), mjs_row_c (show b ≠ 57 by omega)]
    · by_cases h36 : q = 36
      · rw [h36, mjs_up_at]
      · rw [mjs_up_ne (Or.inr h36)]
        exact h2 q hq
    · rw [mjs_up_ne (Or.inr (by decide)), h3.1]
      simp +decide only [mjs_0, mjs_1, mjs_2, mjs_3, mjs_ble, true_and, Bool.false_eq_true, if_false, if_true, Nat.reduceAdd, Nat.reduceSub, Nat.reduceLeDiff, mjs_lit, mjs_ttb, Nat.reduceEqDiff, hz]
    · rw [mjs_up_ne (Or.inr (by decide)), h3.2.1]
      simp +decide only [mjs_0, mjs_1, mjs_2, mjs_3, mjs_ble, true_and, Bool.false_eq_true, if_false, if_true, Nat.reduceAdd, Nat.reduceSub, Nat.reduceLeDiff, mjs_lit, mjs_ttb, Nat.reduceEqDiff, hz]
    · rw [mjs_up_c (by decide)]
      exact h4 q hq
    · simp only [mjs_row_c (show b ≠ 37 by omega), mjs_row_c (show b ≠ 38 by omega), mjs_row_c (show b ≠ 39 by omega), mjs_row_c (show b ≠ 40 by omega), mjs_row_c (show b ≠ 41 by omega), mjs_row_c (show b ≠ 42 by omega), mjs_row_c (show b ≠ 43 by omega), mjs_row_c (show b ≠ 44 by omega), mjs_row_c (show b ≠ 45 by omega), mjs_row_c (show b ≠ 46 by omega), mjs_row_c (show b ≠ 47 by omega), mjs_row_c (show b ≠ 48 by omega), mjs_row_c (show b ≠ 49 by omega), mjs_row_c (show b ≠ 50 by omega), mjs_row_c (show b ≠ 51 by omega), mjs_row_c (show b ≠ 52 by omega), mjs_row_c (show b ≠ 53 by omega), mjs_row_c (show b ≠ 54 by omega), mjs_row_c (show b ≠ 55 by omega), mjs_row_c (show b ≠ 56 by omega), mjs_row_c (show b ≠ 57 by omega), mjs_up_c (show b ≠ 36 by omega)]
    · simp +decide only [mm_R, mj_Rt, mjs_0, mjs_1, mjs_2, mjs_3, mjs_ble, true_and, Bool.false_eq_true, if_false, if_true, Nat.reduceAdd, Nat.reduceSub, Nat.reduceLeDiff, mjs_lit, mjs_ttb, Nat.reduceEqDiff, and_self]
end MJM3
end
