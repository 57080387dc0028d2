section
-- ===== PART A: goes FIRST, ahead of the names: the tables' words, and 'selects' of the private methods out of them =====
/-- a private method of a class that the tables say can be made, by its rows of tables_1 -/
def lw_okq (q : MethodName × Nat) : Prop := (q.1.cls ≠ "java/lang/invoke/MethodHandle" ∧ q.1.cls ≠ "java/lang/invoke/VarHandle") ∧ Cond.instantiable q.1.cls q.2 ∈ tables_1 ∧ Cond.privateMethod q.1 ∈ tables_1 ∧ Cond.instanceMethod q.1 ∈ tables_1
theorem lw_p0 : lw_okq (⟨"java/lang/Throwable", "fillInStackTrace", "(I)Ljava/lang/Throwable;"⟩, 6) := ⟨⟨by decide +kernel, by decide +kernel⟩, List.mem_of_getElem? (i := 481) (by decide +kernel), List.mem_of_getElem? (i := 479) (by decide +kernel), List.mem_of_getElem? (i := 480) (by decide +kernel)⟩
theorem lw_p1 : lw_okq (⟨"MacroPress", "beginRun", "(I)V"⟩, 8) := ⟨⟨by decide +kernel, by decide +kernel⟩, List.mem_of_getElem? (i := 26) (by decide +kernel), List.mem_of_getElem? (i := 510) (by decide +kernel), List.mem_of_getElem? (i := 511) (by decide +kernel)⟩
theorem lw_p2 : lw_okq (⟨"MacroPress$Source", "dropLine", "()V"⟩, 13) := ⟨⟨by decide +kernel, by decide +kernel⟩, List.mem_of_getElem? (i := 194) (by decide +kernel), List.mem_of_getElem? (i := 534) (by decide +kernel), List.mem_of_getElem? (i := 535) (by decide +kernel)⟩
theorem lw_p3 : lw_okq (⟨"MacroPress$Source", "beginLine", "()Z"⟩, 13) := ⟨⟨by decide +kernel, by decide +kernel⟩, List.mem_of_getElem? (i := 194) (by decide +kernel), List.mem_of_getElem? (i := 550) (by decide +kernel), List.mem_of_getElem? (i := 551) (by decide +kernel)⟩
theorem lw_p4 : lw_okq (⟨"MacroPress$Source", "scanName", "()I"⟩, 13) := ⟨⟨by decide +kernel, by decide +kernel⟩, List.mem_of_getElem? (i := 194) (by decide +kernel), List.mem_of_getElem? (i := 554) (by decide +kernel), List.mem_of_getElem? (i := 555) (by decide +kernel)⟩
theorem lw_p5 : lw_okq (⟨"MacroPress$Expander", "isExpandable", "(I)Z"⟩, 9) := ⟨⟨by decide +kernel, by decide +kernel⟩, List.mem_of_getElem? (i := 297) (by decide +kernel), List.mem_of_getElem? (i := 581) (by decide +kernel), List.mem_of_getElem? (i := 582) (by decide +kernel)⟩
theorem lw_p6 : lw_okq (⟨"MacroPress$Expander", "expand", "(I)V"⟩, 9) := ⟨⟨by decide +kernel, by decide +kernel⟩, List.mem_of_getElem? (i := 297) (by decide +kernel), List.mem_of_getElem? (i := 611) (by decide +kernel), List.mem_of_getElem? (i := 612) (by decide +kernel)⟩
theorem lw_p7 : lw_okq (⟨"MacroPress$Arguments", "collectUndelimited", "(I)V"⟩, 7) := ⟨⟨by decide +kernel, by decide +kernel⟩, List.mem_of_getElem? (i := 303) (by decide +kernel), List.mem_of_getElem? (i := 648) (by decide +kernel), List.mem_of_getElem? (i := 649) (by decide +kernel)⟩
theorem lw_p8 : lw_okq (⟨"MacroPress$Arguments", "add", "(I)V"⟩, 7) := ⟨⟨by decide +kernel, by decide +kernel⟩, List.mem_of_getElem? (i := 303) (by decide +kernel), List.mem_of_getElem? (i := 660) (by decide +kernel), List.mem_of_getElem? (i := 661) (by decide +kernel)⟩
theorem lw_p9 : lw_okq (⟨"MacroPress$Arguments", "collectDelimited", "(III)V"⟩, 7) := ⟨⟨by decide +kernel, by decide +kernel⟩, List.mem_of_getElem? (i := 303) (by decide +kernel), List.mem_of_getElem? (i := 664) (by decide +kernel), List.mem_of_getElem? (i := 665) (by decide +kernel)⟩
theorem lw_p10 : lw_okq (⟨"MacroPress$Arguments", "endsWith", "(III)Z"⟩, 7) := ⟨⟨by decide +kernel, by decide +kernel⟩, List.mem_of_getElem? (i := 303) (by decide +kernel), List.mem_of_getElem? (i := 668) (by decide +kernel), List.mem_of_getElem? (i := 669) (by decide +kernel)⟩
theorem lw_p11 : lw_okq (⟨"MacroPress$Arguments", "putArgument", "(I)V"⟩, 7) := ⟨⟨by decide +kernel, by decide +kernel⟩, List.mem_of_getElem? (i := 303) (by decide +kernel), List.mem_of_getElem? (i := 680) (by decide +kernel), List.mem_of_getElem? (i := 681) (by decide +kernel)⟩
theorem lw_p12 : lw_okq (⟨"MacroPress$Expander", "expandPrimitive", "(II)V"⟩, 9) := ⟨⟨by decide +kernel, by decide +kernel⟩, List.mem_of_getElem? (i := 297) (by decide +kernel), List.mem_of_getElem? (i := 688) (by decide +kernel), List.mem_of_getElem? (i := 689) (by decide +kernel)⟩
theorem lw_p13 : lw_okq (⟨"MacroPress$Expander", "expandAfter", "()V"⟩, 9) := ⟨⟨by decide +kernel, by decide +kernel⟩, List.mem_of_getElem? (i := 297) (by decide +kernel), List.mem_of_getElem? (i := 692) (by decide +kernel), List.mem_of_getElem? (i := 693) (by decide +kernel)⟩
theorem lw_p14 : lw_okq (⟨"MacroPress$Expander", "makeName", "()V"⟩, 9) := ⟨⟨by decide +kernel, by decide +kernel⟩, List.mem_of_getElem? (i := 297) (by decide +kernel), List.mem_of_getElem? (i := 698) (by decide +kernel), List.mem_of_getElem? (i := 699) (by decide +kernel)⟩
theorem lw_p15 : lw_okq (⟨"MacroPress$Expander", "putString", "(I)V"⟩, 9) := ⟨⟨by decide +kernel, by decide +kernel⟩, List.mem_of_getElem? (i := 297) (by decide +kernel), List.mem_of_getElem? (i := 718) (by decide +kernel), List.mem_of_getElem? (i := 719) (by decide +kernel)⟩
def lw_privs_1 : List (MethodName × Nat) := [(⟨"java/lang/Throwable", "fillInStackTrace", "(I)Ljava/lang/Throwable;"⟩, 6), (⟨"MacroPress", "beginRun", "(I)V"⟩, 8), (⟨"MacroPress$Source", "dropLine", "()V"⟩, 13), (⟨"MacroPress$Source", "beginLine", "()Z"⟩, 13), (⟨"MacroPress$Source", "scanName", "()I"⟩, 13), (⟨"MacroPress$Expander", "isExpandable", "(I)Z"⟩, 9), (⟨"MacroPress$Expander", "expand", "(I)V"⟩, 9), (⟨"MacroPress$Arguments", "collectUndelimited", "(I)V"⟩, 7), (⟨"MacroPress$Arguments", "add", "(I)V"⟩, 7), (⟨"MacroPress$Arguments", "collectDelimited", "(III)V"⟩, 7), (⟨"MacroPress$Arguments", "endsWith", "(III)Z"⟩, 7), (⟨"MacroPress$Arguments", "putArgument", "(I)V"⟩, 7), (⟨"MacroPress$Expander", "expandPrimitive", "(II)V"⟩, 9), (⟨"MacroPress$Expander", "expandAfter", "()V"⟩, 9), (⟨"MacroPress$Expander", "makeName", "()V"⟩, 9), (⟨"MacroPress$Expander", "putString", "(I)V"⟩, 9)]
theorem lw_r1 : ∀ q ∈ lw_privs_1, lw_okq q := List.forall_mem_cons.mpr ⟨lw_p0, List.forall_mem_cons.mpr ⟨lw_p1, List.forall_mem_cons.mpr ⟨lw_p2, List.forall_mem_cons.mpr ⟨lw_p3, List.forall_mem_cons.mpr ⟨lw_p4, List.forall_mem_cons.mpr ⟨lw_p5, List.forall_mem_cons.mpr ⟨lw_p6, List.forall_mem_cons.mpr ⟨lw_p7, List.forall_mem_cons.mpr ⟨lw_p8, List.forall_mem_cons.mpr ⟨lw_p9, List.forall_mem_cons.mpr ⟨lw_p10, List.forall_mem_cons.mpr ⟨lw_p11, List.forall_mem_cons.mpr ⟨lw_p12, List.forall_mem_cons.mpr ⟨lw_p13, List.forall_mem_cons.mpr ⟨lw_p14, List.forall_mem_cons.mpr ⟨lw_p15, fun _ h => absurd h List.not_mem_nil⟩⟩⟩⟩⟩⟩⟩⟩⟩⟩⟩⟩⟩⟩⟩⟩
theorem lw_p16 : lw_okq (⟨"MacroPress$Expander", "putCharacter", "(I)V"⟩, 9) := ⟨⟨by decide +kernel, by decide +kernel⟩, List.mem_of_getElem? (i := 297) (by decide +kernel), List.mem_of_getElem? (i := 725) (by decide +kernel), List.mem_of_getElem? (i := 726) (by decide +kernel)⟩
theorem lw_p17 : lw_okq (⟨"MacroPress$Expander", "digits", "(I)I"⟩, 9) := ⟨⟨by decide +kernel, by decide +kernel⟩, List.mem_of_getElem? (i := 297) (by decide +kernel), List.mem_of_getElem? (i := 742) (by decide +kernel), List.mem_of_getElem? (i := 743) (by decide +kernel)⟩
theorem lw_p18 : lw_okq (⟨"MacroPress$Expander", "dropSpace", "(I)V"⟩, 9) := ⟨⟨by decide +kernel, by decide +kernel⟩, List.mem_of_getElem? (i := 297) (by decide +kernel), List.mem_of_getElem? (i := 748) (by decide +kernel), List.mem_of_getElem? (i := 749) (by decide +kernel)⟩
theorem lw_p19 : lw_okq (⟨"MacroPress$Expander", "characterNumber", "(I)I"⟩, 9) := ⟨⟨by decide +kernel, by decide +kernel⟩, List.mem_of_getElem? (i := 297) (by decide +kernel), List.mem_of_getElem? (i := 752) (by decide +kernel), List.mem_of_getElem? (i := 753) (by decide +kernel)⟩
theorem lw_p20 : lw_okq (⟨"MacroPress$Expander", "putNumber", "(I)V"⟩, 9) := ⟨⟨by decide +kernel, by decide +kernel⟩, List.mem_of_getElem? (i := 297) (by decide +kernel), List.mem_of_getElem? (i := 772) (by decide +kernel), List.mem_of_getElem? (i := 773) (by decide +kernel)⟩
theorem lw_p21 : lw_okq (⟨"MacroPress$Expander", "putRoman", "(I)V"⟩, 9) := ⟨⟨by decide +kernel, by decide +kernel⟩, List.mem_of_getElem? (i := 297) (by decide +kernel), List.mem_of_getElem? (i := 779) (by decide +kernel), List.mem_of_getElem? (i := 780) (by decide +kernel)⟩
theorem lw_p22 : lw_okq (⟨"MacroPress$Expander", "putRomanDigit", "(II)V"⟩, 9) := ⟨⟨by decide +kernel, by decide +kernel⟩, List.mem_of_getElem? (i := 297) (by decide +kernel), List.mem_of_getElem? (i := 786) (by decide +kernel), List.mem_of_getElem? (i := 787) (by decide +kernel)⟩
theorem lw_p23 : lw_okq (⟨"MacroPress$Expander", "holds", "(I)Z"⟩, 9) := ⟨⟨by decide +kernel, by decide +kernel⟩, List.mem_of_getElem? (i := 297) (by decide +kernel), List.mem_of_getElem? (i := 806) (by decide +kernel), List.mem_of_getElem? (i := 807) (by decide +kernel)⟩
theorem lw_p24 : lw_okq (⟨"MacroPress$Expander", "characterOf", "(I)I"⟩, 9) := ⟨⟨by decide +kernel, by decide +kernel⟩, List.mem_of_getElem? (i := 297) (by decide +kernel), List.mem_of_getElem? (i := 810) (by decide +kernel), List.mem_of_getElem? (i := 811) (by decide +kernel)⟩
theorem lw_p25 : lw_okq (⟨"MacroPress$Expander", "categoryOf", "(I)I"⟩, 9) := ⟨⟨by decide +kernel, by decide +kernel⟩, List.mem_of_getElem? (i := 297) (by decide +kernel), List.mem_of_getElem? (i := 814) (by decide +kernel), List.mem_of_getElem? (i := 815) (by decide +kernel)⟩
theorem lw_p26 : lw_okq (⟨"MacroPress$Expander", "meansSame", "(II)Z"⟩, 9) := ⟨⟨by decide +kernel, by decide +kernel⟩, List.mem_of_getElem? (i := 297) (by decide +kernel), List.mem_of_getElem? (i := 818) (by decide +kernel), List.mem_of_getElem? (i := 819) (by decide +kernel)⟩
theorem lw_p27 : lw_okq (⟨"MacroPress$Performer", "performCharacter", "(II)V"⟩, 7) := ⟨⟨by decide +kernel, by decide +kernel⟩, List.mem_of_getElem? (i := 360) (by decide +kernel), List.mem_of_getElem? (i := 843) (by decide +kernel), List.mem_of_getElem? (i := 844) (by decide +kernel)⟩
theorem lw_p28 : lw_okq (⟨"MacroPress$Store", "bringBack", "()V"⟩, 10) := ⟨⟨by decide +kernel, by decide +kernel⟩, List.mem_of_getElem? (i := 146) (by decide +kernel), List.mem_of_getElem? (i := 855) (by decide +kernel), List.mem_of_getElem? (i := 856) (by decide +kernel)⟩
theorem lw_p29 : lw_okq (⟨"MacroPress$Performer", "emit", "(I)V"⟩, 7) := ⟨⟨by decide +kernel, by decide +kernel⟩, List.mem_of_getElem? (i := 360) (by decide +kernel), List.mem_of_getElem? (i := 860) (by decide +kernel), List.mem_of_getElem? (i := 861) (by decide +kernel)⟩
theorem lw_p30 : lw_okq (⟨"MacroPress$Performer", "performPrimitive", "(I)I"⟩, 7) := ⟨⟨by decide +kernel, by decide +kernel⟩, List.mem_of_getElem? (i := 360) (by decide +kernel), List.mem_of_getElem? (i := 864) (by decide +kernel), List.mem_of_getElem? (i := 865) (by decide +kernel)⟩
theorem lw_p31 : lw_okq (⟨"MacroPress$Performer", "prefixed", "()I"⟩, 7) := ⟨⟨by decide +kernel, by decide +kernel⟩, List.mem_of_getElem? (i := 360) (by decide +kernel), List.mem_of_getElem? (i := 872) (by decide +kernel), List.mem_of_getElem? (i := 873) (by decide +kernel)⟩
def lw_privs_2 : List (MethodName × Nat) := [(⟨"MacroPress$Expander", "putCharacter", "(I)V"⟩, 9), (⟨"MacroPress$Expander", "digits", "(I)I"⟩, 9), (⟨"MacroPress$Expander", "dropSpace", "(I)V"⟩, 9), (⟨"MacroPress$Expander", "characterNumber", "(I)I"⟩, 9), (⟨"MacroPress$Expander", "putNumber", "(I)V"⟩, 9), (⟨"MacroPress$Expander", "putRoman", "(I)V"⟩, 9), (⟨"MacroPress$Expander", "putRomanDigit", "(II)V"⟩, 9), (⟨"MacroPress$Expander", "holds", "(I)Z"⟩, 9), (⟨"MacroPress$Expander", "characterOf", "(I)I"⟩, 9), (⟨"MacroPress$Expander", "categoryOf", "(I)I"⟩, 9), (⟨"MacroPress$Expander", "meansSame", "(II)Z"⟩, 9), (⟨"MacroPress$Performer", "performCharacter", "(II)V"⟩, 7), (⟨"MacroPress$Store", "bringBack", "()V"⟩, 10), (⟨"MacroPress$Performer", "emit", "(I)V"⟩, 7), (⟨"MacroPress$Performer", "performPrimitive", "(I)I"⟩, 7), (⟨"MacroPress$Performer", "prefixed", "()I"⟩, 7)]
theorem lw_r2 : ∀ q ∈ lw_privs_2, lw_okq q := List.forall_mem_cons.mpr ⟨lw_p16, List.forall_mem_cons.mpr ⟨lw_p17, List.forall_mem_cons.mpr ⟨lw_p18, List.forall_mem_cons.mpr ⟨lw_p19, List.forall_mem_cons.mpr ⟨lw_p20, List.forall_mem_cons.mpr ⟨lw_p21, List.forall_mem_cons.mpr ⟨lw_p22, List.forall_mem_cons.mpr ⟨lw_p23, List.forall_mem_cons.mpr ⟨lw_p24, List.forall_mem_cons.mpr ⟨lw_p25, List.forall_mem_cons.mpr ⟨lw_p26, List.forall_mem_cons.mpr ⟨lw_p27, List.forall_mem_cons.mpr ⟨lw_p28, List.forall_mem_cons.mpr ⟨lw_p29, List.forall_mem_cons.mpr ⟨lw_p30, List.forall_mem_cons.mpr ⟨lw_p31, fun _ h => absurd h List.not_mem_nil⟩⟩⟩⟩⟩⟩⟩⟩⟩⟩⟩⟩⟩⟩⟩⟩
theorem lw_p32 : lw_okq (⟨"MacroPress$Performer", "define", "(ZZ)V"⟩, 7) := ⟨⟨by decide +kernel, by decide +kernel⟩, List.mem_of_getElem? (i := 360) (by decide +kernel), List.mem_of_getElem? (i := 879) (by decide +kernel), List.mem_of_getElem? (i := 880) (by decide +kernel)⟩
theorem lw_p33 : lw_okq (⟨"MacroPress$Performer", "target", "()I"⟩, 7) := ⟨⟨by decide +kernel, by decide +kernel⟩, List.mem_of_getElem? (i := 360) (by decide +kernel), List.mem_of_getElem? (i := 883) (by decide +kernel), List.mem_of_getElem? (i := 884) (by decide +kernel)⟩
theorem lw_p34 : lw_okq (⟨"MacroPress$Performer", "defineParameters", "()I"⟩, 7) := ⟨⟨by decide +kernel, by decide +kernel⟩, List.mem_of_getElem? (i := 360) (by decide +kernel), List.mem_of_getElem? (i := 894) (by decide +kernel), List.mem_of_getElem? (i := 895) (by decide +kernel)⟩
theorem lw_p35 : lw_okq (⟨"MacroPress$Performer", "placeOrSign", "(II)I"⟩, 7) := ⟨⟨by decide +kernel, by decide +kernel⟩, List.mem_of_getElem? (i := 360) (by decide +kernel), List.mem_of_getElem? (i := 912) (by decide +kernel), List.mem_of_getElem? (i := 913) (by decide +kernel)⟩
theorem lw_p36 : lw_okq (⟨"MacroPress$Performer", "letToken", "()I"⟩, 7) := ⟨⟨by decide +kernel, by decide +kernel⟩, List.mem_of_getElem? (i := 360) (by decide +kernel), List.mem_of_getElem? (i := 922) (by decide +kernel), List.mem_of_getElem? (i := 923) (by decide +kernel)⟩
theorem lw_p37 : lw_okq (⟨"MacroPress$Performer", "dropEquals", "()V"⟩, 7) := ⟨⟨by decide +kernel, by decide +kernel⟩, List.mem_of_getElem? (i := 360) (by decide +kernel), List.mem_of_getElem? (i := 926) (by decide +kernel), List.mem_of_getElem? (i := 927) (by decide +kernel)⟩
theorem lw_p38 : lw_okq (⟨"MacroPress$Performer", "counter", "()I"⟩, 7) := ⟨⟨by decide +kernel, by decide +kernel⟩, List.mem_of_getElem? (i := 360) (by decide +kernel), List.mem_of_getElem? (i := 933) (by decide +kernel), List.mem_of_getElem? (i := 934) (by decide +kernel)⟩
theorem lw_p39 : lw_okq (⟨"MacroPress$Performer", "dropBy", "()V"⟩, 7) := ⟨⟨by decide +kernel, by decide +kernel⟩, List.mem_of_getElem? (i := 360) (by decide +kernel), List.mem_of_getElem? (i := 937) (by decide +kernel), List.mem_of_getElem? (i := 938) (by decide +kernel)⟩
theorem lw_p40 : lw_okq (⟨"MacroPress$Performer", "result", "(IJJ)I"⟩, 7) := ⟨⟨by decide +kernel, by decide +kernel⟩, List.mem_of_getElem? (i := 360) (by decide +kernel), List.mem_of_getElem? (i := 945) (by decide +kernel), List.mem_of_getElem? (i := 946) (by decide +kernel)⟩
theorem lw_p41 : lw_okq (⟨"MacroPressModel", "clear", "()V"⟩, 41) := ⟨⟨by decide +kernel, by decide +kernel⟩, List.mem_of_getElem? (i := 988) (by decide +kernel), List.mem_of_getElem? (i := 997) (by decide +kernel), List.mem_of_getElem? (i := 998) (by decide +kernel)⟩
theorem lw_p42 : lw_okq (⟨"MacroPressModel", "primitives", "(Ljava/lang/String;)V"⟩, 41) := ⟨⟨by decide +kernel, by decide +kernel⟩, List.mem_of_getElem? (i := 988) (by decide +kernel), List.mem_of_getElem? (i := 1002) (by decide +kernel), List.mem_of_getElem? (i := 1003) (by decide +kernel)⟩
theorem lw_p43 : lw_okq (⟨"MacroPressModel", "addName", "()I"⟩, 41) := ⟨⟨by decide +kernel, by decide +kernel⟩, List.mem_of_getElem? (i := 988) (by decide +kernel), List.mem_of_getElem? (i := 1008) (by decide +kernel), List.mem_of_getElem? (i := 1009) (by decide +kernel)⟩
theorem lw_p44 : lw_okq (⟨"MacroPressModel", "getExpanded", "()I"⟩, 41) := ⟨⟨by decide +kernel, by decide +kernel⟩, List.mem_of_getElem? (i := 988) (by decide +kernel), List.mem_of_getElem? (i := 1148) (by decide +kernel), List.mem_of_getElem? (i := 1149) (by decide +kernel)⟩
theorem lw_p45 : lw_okq (⟨"MacroPressModel", "get", "()I"⟩, 41) := ⟨⟨by decide +kernel, by decide +kernel⟩, List.mem_of_getElem? (i := 988) (by decide +kernel), List.mem_of_getElem? (i := 1152) (by decide +kernel), List.mem_of_getElem? (i := 1153) (by decide +kernel)⟩
theorem lw_p46 : lw_okq (⟨"MacroPressModel", "read", "()I"⟩, 41) := ⟨⟨by decide +kernel, by decide +kernel⟩, List.mem_of_getElem? (i := 988) (by decide +kernel), List.mem_of_getElem? (i := 1156) (by decide +kernel), List.mem_of_getElem? (i := 1157) (by decide +kernel)⟩
theorem lw_p47 : lw_okq (⟨"MacroPressModel", "beginLine", "()Z"⟩, 41) := ⟨⟨by decide +kernel, by decide +kernel⟩, List.mem_of_getElem? (i := 988) (by decide +kernel), List.mem_of_getElem? (i := 1160) (by decide +kernel), List.mem_of_getElem? (i := 1161) (by decide +kernel)⟩
def lw_privs_3 : List (MethodName × Nat) := [(⟨"MacroPress$Performer", "define", "(ZZ)V"⟩, 7), (⟨"MacroPress$Performer", "target", "()I"⟩, 7), (⟨"MacroPress$Performer", "defineParameters", "()I"⟩, 7), (⟨"MacroPress$Performer", "placeOrSign", "(II)I"⟩, 7), (⟨"MacroPress$Performer", "letToken", "()I"⟩, 7), (⟨"MacroPress$Performer", "dropEquals", "()V"⟩, 7), (⟨"MacroPress$Performer", "counter", "()I"⟩, 7), (⟨"MacroPress$Performer", "dropBy", "()V"⟩, 7), (⟨"MacroPress$Performer", "result", "(IJJ)I"⟩, 7), (⟨"MacroPressModel", "clear", "()V"⟩, 41), (⟨"MacroPressModel", "primitives", "(Ljava/lang/String;)V"⟩, 41), (⟨"MacroPressModel", "addName", "()I"⟩, 41), (⟨"MacroPressModel", "getExpanded", "()I"⟩, 41), (⟨"MacroPressModel", "get", "()I"⟩, 41), (⟨"MacroPressModel", "read", "()I"⟩, 41), (⟨"MacroPressModel", "beginLine", "()Z"⟩, 41)]
theorem lw_r3 : ∀ q ∈ lw_privs_3, lw_okq q := List.forall_mem_cons.mpr ⟨lw_p32, List.forall_mem_cons.mpr ⟨lw_p33, List.forall_mem_cons.mpr ⟨lw_p34, List.forall_mem_cons.mpr ⟨lw_p35, List.forall_mem_cons.mpr ⟨lw_p36, List.forall_mem_cons.mpr ⟨lw_p37, List.forall_mem_cons.mpr ⟨lw_p38, List.forall_mem_cons.mpr ⟨lw_p39, List.forall_mem_cons.mpr ⟨lw_p40, List.forall_mem_cons.mpr ⟨lw_p41, List.forall_mem_cons.mpr ⟨lw_p42, List.forall_mem_cons.mpr ⟨lw_p43, List.forall_mem_cons.mpr ⟨lw_p44, List.forall_mem_cons.mpr ⟨lw_p45, List.forall_mem_cons.mpr ⟨lw_p46, List.forall_mem_cons.mpr ⟨lw_p47, fun _ h => absurd h List.not_mem_nil⟩⟩⟩⟩⟩⟩⟩⟩⟩⟩⟩⟩⟩⟩⟩⟩
theorem lw_p48 : lw_okq (⟨"MacroPressModel", "category", "(I)I"⟩, 41) := ⟨⟨by decide +kernel, by decide +kernel⟩, List.mem_of_getElem? (i := 988) (by decide +kernel), List.mem_of_getElem? (i := 1164) (by decide +kernel), List.mem_of_getElem? (i := 1165) (by decide +kernel)⟩
theorem lw_p49 : lw_okq (⟨"MacroPressModel", "readName", "()I"⟩, 41) := ⟨⟨by decide +kernel, by decide +kernel⟩, List.mem_of_getElem? (i := 988) (by decide +kernel), List.mem_of_getElem? (i := 1168) (by decide +kernel), List.mem_of_getElem? (i := 1169) (by decide +kernel)⟩
theorem lw_p50 : lw_okq (⟨"MacroPressModel", "spell", "(I)V"⟩, 41) := ⟨⟨by decide +kernel, by decide +kernel⟩, List.mem_of_getElem? (i := 988) (by decide +kernel), List.mem_of_getElem? (i := 1172) (by decide +kernel), List.mem_of_getElem? (i := 1173) (by decide +kernel)⟩
theorem lw_p51 : lw_okq (⟨"MacroPressModel", "fail", "(I)V"⟩, 41) := ⟨⟨by decide +kernel, by decide +kernel⟩, List.mem_of_getElem? (i := 988) (by decide +kernel), List.mem_of_getElem? (i := 1176) (by decide +kernel), List.mem_of_getElem? (i := 1177) (by decide +kernel)⟩
theorem lw_p52 : lw_okq (⟨"MacroPressModel", "nameToken", "()I"⟩, 41) := ⟨⟨by decide +kernel, by decide +kernel⟩, List.mem_of_getElem? (i := 988) (by decide +kernel), List.mem_of_getElem? (i := 1180) (by decide +kernel), List.mem_of_getElem? (i := 1181) (by decide +kernel)⟩
theorem lw_p53 : lw_okq (⟨"MacroPressModel", "isExpandable", "(I)Z"⟩, 41) := ⟨⟨by decide +kernel, by decide +kernel⟩, List.mem_of_getElem? (i := 988) (by decide +kernel), List.mem_of_getElem? (i := 1187) (by decide +kernel), List.mem_of_getElem? (i := 1188) (by decide +kernel)⟩
theorem lw_p54 : lw_okq (⟨"MacroPressModel", "meaning", "(I)I"⟩, 41) := ⟨⟨by decide +kernel, by decide +kernel⟩, List.mem_of_getElem? (i := 988) (by decide +kernel), List.mem_of_getElem? (i := 1198) (by decide +kernel), List.mem_of_getElem? (i := 1199) (by decide +kernel)⟩
theorem lw_p55 : lw_okq (⟨"MacroPressModel", "idOf", "(I)I"⟩, 41) := ⟨⟨by decide +kernel, by decide +kernel⟩, List.mem_of_getElem? (i := 988) (by decide +kernel), List.mem_of_getElem? (i := 1203) (by decide +kernel), List.mem_of_getElem? (i := 1204) (by decide +kernel)⟩
theorem lw_p56 : lw_okq (⟨"MacroPressModel", "expand", "(I)V"⟩, 41) := ⟨⟨by decide +kernel, by decide +kernel⟩, List.mem_of_getElem? (i := 988) (by decide +kernel), List.mem_of_getElem? (i := 1211) (by decide +kernel), List.mem_of_getElem? (i := 1212) (by decide +kernel)⟩
theorem lw_p57 : lw_okq (⟨"MacroPressModel", "tick", "()V"⟩, 41) := ⟨⟨by decide +kernel, by decide +kernel⟩, List.mem_of_getElem? (i := 988) (by decide +kernel), List.mem_of_getElem? (i := 1215) (by decide +kernel), List.mem_of_getElem? (i := 1216) (by decide +kernel)⟩
theorem lw_p58 : lw_okq (⟨"MacroPressModel", "call", "(I)V"⟩, 41) := ⟨⟨by decide +kernel, by decide +kernel⟩, List.mem_of_getElem? (i := 988) (by decide +kernel), List.mem_of_getElem? (i := 1219) (by decide +kernel), List.mem_of_getElem? (i := 1220) (by decide +kernel)⟩
theorem lw_p59 : lw_okq (⟨"MacroPressModel", "need", "()I"⟩, 41) := ⟨⟨by decide +kernel, by decide +kernel⟩, List.mem_of_getElem? (i := 988) (by decide +kernel), List.mem_of_getElem? (i := 1224) (by decide +kernel), List.mem_of_getElem? (i := 1225) (by decide +kernel)⟩
theorem lw_p60 : lw_okq (⟨"MacroPressModel", "isSame", "(II)Z"⟩, 41) := ⟨⟨by decide +kernel, by decide +kernel⟩, List.mem_of_getElem? (i := 988) (by decide +kernel), List.mem_of_getElem? (i := 1228) (by decide +kernel), List.mem_of_getElem? (i := 1229) (by decide +kernel)⟩
theorem lw_p61 : lw_okq (⟨"MacroPressModel", "takeOne", "(I)V"⟩, 41) := ⟨⟨by decide +kernel, by decide +kernel⟩, List.mem_of_getElem? (i := 988) (by decide +kernel), List.mem_of_getElem? (i := 1232) (by decide +kernel), List.mem_of_getElem? (i := 1233) (by decide +kernel)⟩
theorem lw_p62 : lw_okq (⟨"MacroPressModel", "takeUpTo", "(III)V"⟩, 41) := ⟨⟨by decide +kernel, by decide +kernel⟩, List.mem_of_getElem? (i := 988) (by decide +kernel), List.mem_of_getElem? (i := 1239) (by decide +kernel), List.mem_of_getElem? (i := 1240) (by decide +kernel)⟩
theorem lw_p63 : lw_okq (⟨"MacroPressModel", "bareOf", "(I)V"⟩, 41) := ⟨⟨by decide +kernel, by decide +kernel⟩, List.mem_of_getElem? (i := 988) (by decide +kernel), List.mem_of_getElem? (i := 1243) (by decide +kernel), List.mem_of_getElem? (i := 1244) (by decide +kernel)⟩
def lw_privs_4 : List (MethodName × Nat) := [(⟨"MacroPressModel", "category", "(I)I"⟩, 41), (⟨"MacroPressModel", "readName", "()I"⟩, 41), (⟨"MacroPressModel", "spell", "(I)V"⟩, 41), (⟨"MacroPressModel", "fail", "(I)V"⟩, 41), (⟨"MacroPressModel", "nameToken", "()I"⟩, 41), (⟨"MacroPressModel", "isExpandable", "(I)Z"⟩, 41), (⟨"MacroPressModel", "meaning", "(I)I"⟩, 41), (⟨"MacroPressModel", "idOf", "(I)I"⟩, 41), (⟨"MacroPressModel", "expand", "(I)V"⟩, 41), (⟨"MacroPressModel", "tick", "()V"⟩, 41), (⟨"MacroPressModel", "call", "(I)V"⟩, 41), (⟨"MacroPressModel", "need", "()I"⟩, 41), (⟨"MacroPressModel", "isSame", "(II)Z"⟩, 41), (⟨"MacroPressModel", "takeOne", "(I)V"⟩, 41), (⟨"MacroPressModel", "takeUpTo", "(III)V"⟩, 41), (⟨"MacroPressModel", "bareOf", "(I)V"⟩, 41)]
theorem lw_r4 : ∀ q ∈ lw_privs_4, lw_okq q := List.forall_mem_cons.mpr ⟨lw_p48, List.forall_mem_cons.mpr ⟨lw_p49, List.forall_mem_cons.mpr ⟨lw_p50, List.forall_mem_cons.mpr ⟨lw_p51, List.forall_mem_cons.mpr ⟨lw_p52, List.forall_mem_cons.mpr ⟨lw_p53, List.forall_mem_cons.mpr ⟨lw_p54, List.forall_mem_cons.mpr ⟨lw_p55, List.forall_mem_cons.mpr ⟨lw_p56, List.forall_mem_cons.mpr ⟨lw_p57, List.forall_mem_cons.mpr ⟨lw_p58, List.forall_mem_cons.mpr ⟨lw_p59, List.forall_mem_cons.mpr ⟨lw_p60, List.forall_mem_cons.mpr ⟨lw_p61, List.forall_mem_cons.mpr ⟨lw_p62, List.forall_mem_cons.mpr ⟨lw_p63, fun _ h => absurd h List.not_mem_nil⟩⟩⟩⟩⟩⟩⟩⟩⟩⟩⟩⟩⟩⟩⟩⟩
theorem lw_p64 : lw_okq (⟨"MacroPressModel", "putOfBody", "(I)V"⟩, 41) := ⟨⟨by decide +kernel, by decide +kernel⟩, List.mem_of_getElem? (i := 988) (by decide +kernel), List.mem_of_getElem? (i := 1247) (by decide +kernel), List.mem_of_getElem? (i := 1248) (by decide +kernel)⟩
theorem lw_p65 : lw_okq (⟨"MacroPressModel", "put", "(I)V"⟩, 41) := ⟨⟨by decide +kernel, by decide +kernel⟩, List.mem_of_getElem? (i := 988) (by decide +kernel), List.mem_of_getElem? (i := 1251) (by decide +kernel), List.mem_of_getElem? (i := 1252) (by decide +kernel)⟩
theorem lw_p66 : lw_okq (⟨"MacroPressModel", "primitive", "(II)V"⟩, 41) := ⟨⟨by decide +kernel, by decide +kernel⟩, List.mem_of_getElem? (i := 988) (by decide +kernel), List.mem_of_getElem? (i := 1255) (by decide +kernel), List.mem_of_getElem? (i := 1256) (by decide +kernel)⟩
theorem lw_p67 : lw_okq (⟨"MacroPressModel", "makeName", "()V"⟩, 41) := ⟨⟨by decide +kernel, by decide +kernel⟩, List.mem_of_getElem? (i := 988) (by decide +kernel), List.mem_of_getElem? (i := 1259) (by decide +kernel), List.mem_of_getElem? (i := 1260) (by decide +kernel)⟩
theorem lw_p68 : lw_okq (⟨"MacroPressModel", "needExpanded", "()I"⟩, 41) := ⟨⟨by decide +kernel, by decide +kernel⟩, List.mem_of_getElem? (i := 988) (by decide +kernel), List.mem_of_getElem? (i := 1263) (by decide +kernel), List.mem_of_getElem? (i := 1264) (by decide +kernel)⟩
theorem lw_p69 : lw_okq (⟨"MacroPressModel", "means", "(II)Z"⟩, 41) := ⟨⟨by decide +kernel, by decide +kernel⟩, List.mem_of_getElem? (i := 988) (by decide +kernel), List.mem_of_getElem? (i := 1267) (by decide +kernel), List.mem_of_getElem? (i := 1268) (by decide +kernel)⟩
theorem lw_p70 : lw_okq (⟨"MacroPressModel", "mean", "(IIZ)V"⟩, 41) := ⟨⟨by decide +kernel, by decide +kernel⟩, List.mem_of_getElem? (i := 988) (by decide +kernel), List.mem_of_getElem? (i := 1271) (by decide +kernel), List.mem_of_getElem? (i := 1272) (by decide +kernel)⟩
theorem lw_p71 : lw_okq (⟨"MacroPressModel", "spellOut", "(I)V"⟩, 41) := ⟨⟨by decide +kernel, by decide +kernel⟩, List.mem_of_getElem? (i := 988) (by decide +kernel), List.mem_of_getElem? (i := 1275) (by decide +kernel), List.mem_of_getElem? (i := 1276) (by decide +kernel)⟩
theorem lw_p72 : lw_okq (⟨"MacroPressModel", "putOther", "(I)V"⟩, 41) := ⟨⟨by decide +kernel, by decide +kernel⟩, List.mem_of_getElem? (i := 988) (by decide +kernel), List.mem_of_getElem? (i := 1279) (by decide +kernel), List.mem_of_getElem? (i := 1280) (by decide +kernel)⟩
theorem lw_p73 : lw_okq (⟨"MacroPressModel", "number", "()I"⟩, 41) := ⟨⟨by decide +kernel, by decide +kernel⟩, List.mem_of_getElem? (i := 988) (by decide +kernel), List.mem_of_getElem? (i := 1283) (by decide +kernel), List.mem_of_getElem? (i := 1284) (by decide +kernel)⟩
theorem lw_p74 : lw_okq (⟨"MacroPressModel", "primary", "()I"⟩, 41) := ⟨⟨by decide +kernel, by decide +kernel⟩, List.mem_of_getElem? (i := 988) (by decide +kernel), List.mem_of_getElem? (i := 1287) (by decide +kernel), List.mem_of_getElem? (i := 1288) (by decide +kernel)⟩
theorem lw_p75 : lw_okq (⟨"MacroPressModel", "digits", "(I)I"⟩, 41) := ⟨⟨by decide +kernel, by decide +kernel⟩, List.mem_of_getElem? (i := 988) (by decide +kernel), List.mem_of_getElem? (i := 1297) (by decide +kernel), List.mem_of_getElem? (i := 1298) (by decide +kernel)⟩
theorem lw_p76 : lw_okq (⟨"MacroPressModel", "quoted", "()I"⟩, 41) := ⟨⟨by decide +kernel, by decide +kernel⟩, List.mem_of_getElem? (i := 988) (by decide +kernel), List.mem_of_getElem? (i := 1304) (by decide +kernel), List.mem_of_getElem? (i := 1305) (by decide +kernel)⟩
theorem lw_p77 : lw_okq (⟨"MacroPressModel", "dropSpace", "()V"⟩, 41) := ⟨⟨by decide +kernel, by decide +kernel⟩, List.mem_of_getElem? (i := 988) (by decide +kernel), List.mem_of_getElem? (i := 1308) (by decide +kernel), List.mem_of_getElem? (i := 1309) (by decide +kernel)⟩
theorem lw_p78 : lw_okq (⟨"MacroPressModel", "hasValue", "(I)Z"⟩, 41) := ⟨⟨by decide +kernel, by decide +kernel⟩, List.mem_of_getElem? (i := 988) (by decide +kernel), List.mem_of_getElem? (i := 1312) (by decide +kernel), List.mem_of_getElem? (i := 1313) (by decide +kernel)⟩
theorem lw_p79 : lw_okq (⟨"MacroPressModel", "value", "(I)I"⟩, 41) := ⟨⟨by decide +kernel, by decide +kernel⟩, List.mem_of_getElem? (i := 988) (by decide +kernel), List.mem_of_getElem? (i := 1317) (by decide +kernel), List.mem_of_getElem? (i := 1318) (by decide +kernel)⟩
def lw_privs_5 : List (MethodName × Nat) := [(⟨"MacroPressModel", "putOfBody", "(I)V"⟩, 41), (⟨"MacroPressModel", "put", "(I)V"⟩, 41), (⟨"MacroPressModel", "primitive", "(II)V"⟩, 41), (⟨"MacroPressModel", "makeName", "()V"⟩, 41), (⟨"MacroPressModel", "needExpanded", "()I"⟩, 41), (⟨"MacroPressModel", "means", "(II)Z"⟩, 41), (⟨"MacroPressModel", "mean", "(IIZ)V"⟩, 41), (⟨"MacroPressModel", "spellOut", "(I)V"⟩, 41), (⟨"MacroPressModel", "putOther", "(I)V"⟩, 41), (⟨"MacroPressModel", "number", "()I"⟩, 41), (⟨"MacroPressModel", "primary", "()I"⟩, 41), (⟨"MacroPressModel", "digits", "(I)I"⟩, 41), (⟨"MacroPressModel", "quoted", "()I"⟩, 41), (⟨"MacroPressModel", "dropSpace", "()V"⟩, 41), (⟨"MacroPressModel", "hasValue", "(I)Z"⟩, 41), (⟨"MacroPressModel", "value", "(I)I"⟩, 41)]
theorem lw_r5 : ∀ q ∈ lw_privs_5, lw_okq q := List.forall_mem_cons.mpr ⟨lw_p64, List.forall_mem_cons.mpr ⟨lw_p65, List.forall_mem_cons.mpr ⟨lw_p66, List.forall_mem_cons.mpr ⟨lw_p67, List.forall_mem_cons.mpr ⟨lw_p68, List.forall_mem_cons.mpr ⟨lw_p69, List.forall_mem_cons.mpr ⟨lw_p70, List.forall_mem_cons.mpr ⟨lw_p71, List.forall_mem_cons.mpr ⟨lw_p72, List.forall_mem_cons.mpr ⟨lw_p73, List.forall_mem_cons.mpr ⟨lw_p74, List.forall_mem_cons.mpr ⟨lw_p75, List.forall_mem_cons.mpr ⟨lw_p76, List.forall_mem_cons.mpr ⟨lw_p77, List.forall_mem_cons.mpr ⟨lw_p78, List.forall_mem_cons.mpr ⟨lw_p79, fun _ h => absurd h List.not_mem_nil⟩⟩⟩⟩⟩⟩⟩⟩⟩⟩⟩⟩⟩⟩⟩⟩
theorem lw_p80 : lw_okq (⟨"MacroPressModel", "small", "(I)I"⟩, 41) := ⟨⟨by decide +kernel, by decide +kernel⟩, List.mem_of_getElem? (i := 988) (by decide +kernel), List.mem_of_getElem? (i := 1321) (by decide +kernel), List.mem_of_getElem? (i := 1322) (by decide +kernel)⟩
theorem lw_p81 : lw_okq (⟨"MacroPressModel", "putDigits", "(I)V"⟩, 41) := ⟨⟨by decide +kernel, by decide +kernel⟩, List.mem_of_getElem? (i := 988) (by decide +kernel), List.mem_of_getElem? (i := 1325) (by decide +kernel), List.mem_of_getElem? (i := 1326) (by decide +kernel)⟩
theorem lw_p82 : lw_okq (⟨"MacroPressModel", "roman", "(I)V"⟩, 41) := ⟨⟨by decide +kernel, by decide +kernel⟩, List.mem_of_getElem? (i := 988) (by decide +kernel), List.mem_of_getElem? (i := 1329) (by decide +kernel), List.mem_of_getElem? (i := 1330) (by decide +kernel)⟩
theorem lw_p83 : lw_okq (⟨"MacroPressModel", "romanDigit", "(IIII)V"⟩, 41) := ⟨⟨by decide +kernel, by decide +kernel⟩, List.mem_of_getElem? (i := 988) (by decide +kernel), List.mem_of_getElem? (i := 1333) (by decide +kernel), List.mem_of_getElem? (i := 1334) (by decide +kernel)⟩
theorem lw_p84 : lw_okq (⟨"MacroPressModel", "branch", "(II)V"⟩, 41) := ⟨⟨by decide +kernel, by decide +kernel⟩, List.mem_of_getElem? (i := 988) (by decide +kernel), List.mem_of_getElem? (i := 1337) (by decide +kernel), List.mem_of_getElem? (i := 1338) (by decide +kernel)⟩
theorem lw_p85 : lw_okq (⟨"MacroPressModel", "isCondition", "(I)Z"⟩, 41) := ⟨⟨by decide +kernel, by decide +kernel⟩, List.mem_of_getElem? (i := 988) (by decide +kernel), List.mem_of_getElem? (i := 1342) (by decide +kernel), List.mem_of_getElem? (i := 1343) (by decide +kernel)⟩
theorem lw_p86 : lw_okq (⟨"MacroPressModel", "condition", "(I)V"⟩, 41) := ⟨⟨by decide +kernel, by decide +kernel⟩, List.mem_of_getElem? (i := 988) (by decide +kernel), List.mem_of_getElem? (i := 1346) (by decide +kernel), List.mem_of_getElem? (i := 1347) (by decide +kernel)⟩
theorem lw_p87 : lw_okq (⟨"MacroPressModel", "shape", "(IZ)I"⟩, 41) := ⟨⟨by decide +kernel, by decide +kernel⟩, List.mem_of_getElem? (i := 988) (by decide +kernel), List.mem_of_getElem? (i := 1350) (by decide +kernel), List.mem_of_getElem? (i := 1351) (by decide +kernel)⟩
theorem lw_p88 : lw_okq (⟨"MacroPressModel", "meanSame", "(II)Z"⟩, 41) := ⟨⟨by decide +kernel, by decide +kernel⟩, List.mem_of_getElem? (i := 988) (by decide +kernel), List.mem_of_getElem? (i := 1354) (by decide +kernel), List.mem_of_getElem? (i := 1355) (by decide +kernel)⟩
theorem lw_p89 : lw_okq (⟨"MacroPressModel", "compare", "()Z"⟩, 41) := ⟨⟨by decide +kernel, by decide +kernel⟩, List.mem_of_getElem? (i := 988) (by decide +kernel), List.mem_of_getElem? (i := 1358) (by decide +kernel), List.mem_of_getElem? (i := 1359) (by decide +kernel)⟩
theorem lw_p90 : lw_okq (⟨"MacroPressModel", "needExpandedNoSpace", "()I"⟩, 41) := ⟨⟨by decide +kernel, by decide +kernel⟩, List.mem_of_getElem? (i := 988) (by decide +kernel), List.mem_of_getElem? (i := 1362) (by decide +kernel), List.mem_of_getElem? (i := 1363) (by decide +kernel)⟩
theorem lw_p91 : lw_okq (⟨"MacroPressModel", "drop", "(II)V"⟩, 41) := ⟨⟨by decide +kernel, by decide +kernel⟩, List.mem_of_getElem? (i := 988) (by decide +kernel), List.mem_of_getElem? (i := 1366) (by decide +kernel), List.mem_of_getElem? (i := 1367) (by decide +kernel)⟩
theorem lw_p92 : lw_okq (⟨"MacroPressModel", "done", "(I)V"⟩, 41) := ⟨⟨by decide +kernel, by decide +kernel⟩, List.mem_of_getElem? (i := 988) (by decide +kernel), List.mem_of_getElem? (i := 1370) (by decide +kernel), List.mem_of_getElem? (i := 1371) (by decide +kernel)⟩
theorem lw_p93 : lw_okq (⟨"MacroPressModel", "write", "(I)V"⟩, 41) := ⟨⟨by decide +kernel, by decide +kernel⟩, List.mem_of_getElem? (i := 988) (by decide +kernel), List.mem_of_getElem? (i := 1374) (by decide +kernel), List.mem_of_getElem? (i := 1375) (by decide +kernel)⟩
theorem lw_p94 : lw_okq (⟨"MacroPressModel", "doCharacter", "(I)V"⟩, 41) := ⟨⟨by decide +kernel, by decide +kernel⟩, List.mem_of_getElem? (i := 988) (by decide +kernel), List.mem_of_getElem? (i := 1378) (by decide +kernel), List.mem_of_getElem? (i := 1379) (by decide +kernel)⟩
theorem lw_p95 : lw_okq (⟨"MacroPressModel", "openGroup", "(Z)V"⟩, 41) := ⟨⟨by decide +kernel, by decide +kernel⟩, List.mem_of_getElem? (i := 988) (by decide +kernel), List.mem_of_getElem? (i := 1382) (by decide +kernel), List.mem_of_getElem? (i := 1383) (by decide +kernel)⟩
def lw_privs_6 : List (MethodName × Nat) := [(⟨"MacroPressModel", "small", "(I)I"⟩, 41), (⟨"MacroPressModel", "putDigits", "(I)V"⟩, 41), (⟨"MacroPressModel", "roman", "(I)V"⟩, 41), (⟨"MacroPressModel", "romanDigit", "(IIII)V"⟩, 41), (⟨"MacroPressModel", "branch", "(II)V"⟩, 41), (⟨"MacroPressModel", "isCondition", "(I)Z"⟩, 41), (⟨"MacroPressModel", "condition", "(I)V"⟩, 41), (⟨"MacroPressModel", "shape", "(IZ)I"⟩, 41), (⟨"MacroPressModel", "meanSame", "(II)Z"⟩, 41), (⟨"MacroPressModel", "compare", "()Z"⟩, 41), (⟨"MacroPressModel", "needExpandedNoSpace", "()I"⟩, 41), (⟨"MacroPressModel", "drop", "(II)V"⟩, 41), (⟨"MacroPressModel", "done", "(I)V"⟩, 41), (⟨"MacroPressModel", "write", "(I)V"⟩, 41), (⟨"MacroPressModel", "doCharacter", "(I)V"⟩, 41), (⟨"MacroPressModel", "openGroup", "(Z)V"⟩, 41)]
theorem lw_r6 : ∀ q ∈ lw_privs_6, lw_okq q := List.forall_mem_cons.mpr ⟨lw_p80, List.forall_mem_cons.mpr ⟨lw_p81, List.forall_mem_cons.mpr ⟨lw_p82, List.forall_mem_cons.mpr ⟨lw_p83, List.forall_mem_cons.mpr ⟨lw_p84, List.forall_mem_cons.mpr ⟨lw_p85, List.forall_mem_cons.mpr ⟨lw_p86, List.forall_mem_cons.mpr ⟨lw_p87, List.forall_mem_cons.mpr ⟨lw_p88, List.forall_mem_cons.mpr ⟨lw_p89, List.forall_mem_cons.mpr ⟨lw_p90, List.forall_mem_cons.mpr ⟨lw_p91, List.forall_mem_cons.mpr ⟨lw_p92, List.forall_mem_cons.mpr ⟨lw_p93, List.forall_mem_cons.mpr ⟨lw_p94, List.forall_mem_cons.mpr ⟨lw_p95, fun _ h => absurd h List.not_mem_nil⟩⟩⟩⟩⟩⟩⟩⟩⟩⟩⟩⟩⟩⟩⟩⟩
theorem lw_p96 : lw_okq (⟨"MacroPressModel", "closeGroup", "(Z)V"⟩, 41) := ⟨⟨by decide +kernel, by decide +kernel⟩, List.mem_of_getElem? (i := 988) (by decide +kernel), List.mem_of_getElem? (i := 1386) (by decide +kernel), List.mem_of_getElem? (i := 1387) (by decide +kernel)⟩
theorem lw_p97 : lw_okq (⟨"MacroPressModel", "doPrimitive", "(IZ)V"⟩, 41) := ⟨⟨by decide +kernel, by decide +kernel⟩, List.mem_of_getElem? (i := 988) (by decide +kernel), List.mem_of_getElem? (i := 1390) (by decide +kernel), List.mem_of_getElem? (i := 1391) (by decide +kernel)⟩
theorem lw_p98 : lw_okq (⟨"MacroPressModel", "define", "(ZZ)V"⟩, 41) := ⟨⟨by decide +kernel, by decide +kernel⟩, List.mem_of_getElem? (i := 988) (by decide +kernel), List.mem_of_getElem? (i := 1394) (by decide +kernel), List.mem_of_getElem? (i := 1395) (by decide +kernel)⟩
theorem lw_p99 : lw_okq (⟨"MacroPressModel", "target", "()I"⟩, 41) := ⟨⟨by decide +kernel, by decide +kernel⟩, List.mem_of_getElem? (i := 988) (by decide +kernel), List.mem_of_getElem? (i := 1398) (by decide +kernel), List.mem_of_getElem? (i := 1399) (by decide +kernel)⟩
theorem lw_p100 : lw_okq (⟨"MacroPressModel", "keep", "(I)V"⟩, 41) := ⟨⟨by decide +kernel, by decide +kernel⟩, List.mem_of_getElem? (i := 988) (by decide +kernel), List.mem_of_getElem? (i := 1402) (by decide +kernel), List.mem_of_getElem? (i := 1403) (by decide +kernel)⟩
theorem lw_p101 : lw_okq (⟨"MacroPressModel", "let", "(Z)V"⟩, 41) := ⟨⟨by decide +kernel, by decide +kernel⟩, List.mem_of_getElem? (i := 988) (by decide +kernel), List.mem_of_getElem? (i := 1406) (by decide +kernel), List.mem_of_getElem? (i := 1407) (by decide +kernel)⟩
theorem lw_p102 : lw_okq (⟨"MacroPressModel", "equals", "()V"⟩, 41) := ⟨⟨by decide +kernel, by decide +kernel⟩, List.mem_of_getElem? (i := 988) (by decide +kernel), List.mem_of_getElem? (i := 1410) (by decide +kernel), List.mem_of_getElem? (i := 1411) (by decide +kernel)⟩
theorem lw_p103 : lw_okq (⟨"MacroPressModel", "setAt", "([IIIZ)V"⟩, 41) := ⟨⟨by decide +kernel, by decide +kernel⟩, List.mem_of_getElem? (i := 988) (by decide +kernel), List.mem_of_getElem? (i := 1414) (by decide +kernel), List.mem_of_getElem? (i := 1415) (by decide +kernel)⟩
theorem lw_p104 : lw_okq (⟨"MacroPressModel", "prefixed", "()V"⟩, 41) := ⟨⟨by decide +kernel, by decide +kernel⟩, List.mem_of_getElem? (i := 988) (by decide +kernel), List.mem_of_getElem? (i := 1418) (by decide +kernel), List.mem_of_getElem? (i := 1419) (by decide +kernel)⟩
theorem lw_p105 : lw_okq (⟨"MacroPressModel", "reckon", "(IZ)V"⟩, 41) := ⟨⟨by decide +kernel, by decide +kernel⟩, List.mem_of_getElem? (i := 988) (by decide +kernel), List.mem_of_getElem? (i := 1422) (by decide +kernel), List.mem_of_getElem? (i := 1423) (by decide +kernel)⟩
theorem lw_p106 : lw_okq (⟨"MacroPressModel", "isLetter", "(II)Z"⟩, 41) := ⟨⟨by decide +kernel, by decide +kernel⟩, List.mem_of_getElem? (i := 988) (by decide +kernel), List.mem_of_getElem? (i := 1426) (by decide +kernel), List.mem_of_getElem? (i := 1427) (by decide +kernel)⟩
def lw_privs_7 : List (MethodName × Nat) := [(⟨"MacroPressModel", "closeGroup", "(Z)V"⟩, 41), (⟨"MacroPressModel", "doPrimitive", "(IZ)V"⟩, 41), (⟨"MacroPressModel", "define", "(ZZ)V"⟩, 41), (⟨"MacroPressModel", "target", "()I"⟩, 41), (⟨"MacroPressModel", "keep", "(I)V"⟩, 41), (⟨"MacroPressModel", "let", "(Z)V"⟩, 41), (⟨"MacroPressModel", "equals", "()V"⟩, 41), (⟨"MacroPressModel", "setAt", "([IIIZ)V"⟩, 41), (⟨"MacroPressModel", "prefixed", "()V"⟩, 41), (⟨"MacroPressModel", "reckon", "(IZ)V"⟩, 41), (⟨"MacroPressModel", "isLetter", "(II)Z"⟩, 41)]
theorem lw_r7 : ∀ q ∈ lw_privs_7, lw_okq q := List.forall_mem_cons.mpr ⟨lw_p96, List.forall_mem_cons.mpr ⟨lw_p97, List.forall_mem_cons.mpr ⟨lw_p98, List.forall_mem_cons.mpr ⟨lw_p99, List.forall_mem_cons.mpr ⟨lw_p100, List.forall_mem_cons.mpr ⟨lw_p101, List.forall_mem_cons.mpr ⟨lw_p102, List.forall_mem_cons.mpr ⟨lw_p103, List.forall_mem_cons.mpr ⟨lw_p104, List.forall_mem_cons.mpr ⟨lw_p105, List.forall_mem_cons.mpr ⟨lw_p106, fun _ h => absurd h List.not_mem_nil⟩⟩⟩⟩⟩⟩⟩⟩⟩⟩⟩
def lw_privs : List (MethodName × Nat) := lw_privs_1 ++ (lw_privs_2 ++ (lw_privs_3 ++ (lw_privs_4 ++ (lw_privs_5 ++ (lw_privs_6 ++ (lw_privs_7))))))
def lw_tbl : List Cond := k2_sels lw_privs ++ tables_1
theorem lw_privs_ok : ∀ q ∈ lw_privs, lw_okq q := by
  show ∀ q ∈ lw_privs_1 ++ (lw_privs_2 ++ (lw_privs_3 ++ (lw_privs_4 ++ (lw_privs_5 ++ (lw_privs_6 ++ (lw_privs_7)))))), lw_okq q
  exact List.forall_mem_append.mpr ⟨lw_r1, List.forall_mem_append.mpr ⟨lw_r2, List.forall_mem_append.mpr ⟨lw_r3, List.forall_mem_append.mpr ⟨lw_r4, List.forall_mem_append.mpr ⟨lw_r5, List.forall_mem_append.mpr ⟨lw_r6, lw_r7⟩⟩⟩⟩⟩⟩
-- ===== end of PART A; then your names; then what follows =====
end
section
/-! MINI MACHINE: a weakest-precondition reading of the bytecode over a small typed store. -/
/-- the store: kinds of the cells (k, n): k below 1000 an object of class k with n fields, 1000 + t an array of n elements; ints, longs, references by cell and place; cells and slots made so far -/
abbrev mj_S : Type := List (Nat × Nat) × (Nat → Nat → Int32) × (Nat → Nat → Int64) × (Nat → Nat → Option Nat) × Nat × Nat
/-- how a call ends: it returns (a value or none), or throws an exception of the class with this number -/
abbrev mj_O : Type := Option Value ⊕ Nat
abbrev mj_LV : Type := List (Option Value)
/-- pc, instruction, length, resolved numbers a b t, an int constant, a long constant, a switch's cases -/
abbrev mj_I : Type := Nat × Instr × Nat × (Nat × Nat × Nat) × Int32 × Int64 × List (Int32 × Nat)
abbrev mj_Q : Type := mj_O → mj_S → Prop
abbrev mj_N : Type := Nat → mj_LV → List Value → mj_S → mj_Q → Prop
abbrev mj_C : Type := Nat → List Value → mj_S → mj_Q → Prop
abbrev mj_K : Type := mj_LV → List Value → mj_S → Prop
/-- the script: its length and contents; the texts of the string constants; the most cells and slots -/
abbrev mj_X : Type := (Nat × (Nat → Int32)) × List (List Int32) × Nat × Nat
def mj_up {α : Type} (f : Nat → Nat → α) (a j : Nat) (v : α) : Nat → Nat → α := fun b k => if b = a then (if k = j then v else f b k) else f b k
def mj_row {α : Type} (f : Nat → Nat → α) (a : Nat) (g : Nat → α) : Nat → Nat → α := fun b k => if b = a then g k else f b k
/-- the object o is of class c and has a place b; the kind and length of the array o -/
def mj_ob (sh : List (Nat × Nat)) (o c b : Nat) : Bool := match sh[o]? with
  | some (k, n) => (k == c) && Nat.blt b n
  | none => false
def mj_ar (sh : List (Nat × Nat)) (o t : Nat) : Option Nat := match sh[o]? with
  | some (k, n) => if k = 1000 + t then some n else none
  | none => none
def mj_cmp (c : ClassFile.Cond) (x y : Int32) : Prop := match c with
  | .eq => x = y
  | .ne => ¬ x = y
  | .lt => x < y
  | .ge => y ≤ x
  | .gt => y < x
  | .le => x ≤ y
-- what stands on top; what a local holds; a test; an option
def mj_pI (f : Int32 → List Value → Prop) : List Value → Prop
  | .int x :: r => f x r
  | _ => False
def mj_pL (f : Int64 → List Value → Prop) : List Value → Prop
  | .long x :: r => f x r
  | _ => False
def mj_pR (f : Nat → List Value → Prop) : List Value → Prop
  | .ref x :: r => f x r
  | _ => False
def mj_pN (f : List Value → Prop) (g : Nat → List Value → Prop) : List Value → Prop
  | .null :: r => f r
  | .ref x :: r => g x r
  | _ => False
def mj_p0 (f : Prop) : List Value → Prop
  | [] => f
  | _ => False
def mj_pV (f : Value → List Value → Prop) : List Value → Prop
  | v :: r => v.category = 1 ∧ f v r
  | [] => False
def mj_gI (f : Int32 → Prop) : Option Value → Prop
  | some (.int x) => f x
  | _ => False
def mj_gL (f : Int64 → Prop) : Option Value → Prop
  | some (.long x) => f x
  | _ => False
def mj_gA (f : Value → Prop) : Option Value → Prop
  | some (.ref x) => f (.ref x)
  | some .null => f .null
  | _ => False
def mj_tt (f : Prop) : Bool → Prop
  | true => f
  | false => False
def mj_so {α : Type} (f : α → Prop) : Option α → Prop
  | some x => f x
  | none => False
/-- the receiver is an object of class c -/
def mj_rc (f : Prop) (sh : List (Nat × Nat)) (c : Nat) : List Value → Prop
  | .ref o :: _ => mj_tt f (match sh[o]? with
    | some (k, _) => k == c
    | none => false)
  | _ => False
def mj_br (c : Prop) (f g : Prop) : Prop := (c → f) ∧ (¬ c → g)
def mj_sw (nx : Nat → Prop) (d : Nat) (x : Int32) : List (Int32 × Nat) → Prop
  | [] => nx d
  | (k, t) :: r => mj_br (x = k) (nx t) (mj_sw nx d x r)
/-- the uppermost n values, the deepest first, and the rest -/
def mj_tk : Nat → List Value → List Value → Option (List Value × List Value)
  | 0, acc, st => some (acc, st)
  | _ + 1, _, [] => none
  | n + 1, acc, v :: st => mj_tk n (v :: acc) st
def mj_c2 : Option Value → Bool
  | some (.long _) => true
  | some (.double _) => true
  | _ => false
/-- a store to a local: a long that stood at i - 1 is gone; behind a long nothing stands -/
def mj_st (lv : mj_LV) (i : Nat) (v : Value) : mj_LV := match i with
  | 0 => lv.set 0 (some v)
  | j + 1 => if mj_c2 (lv.getD j none) then (lv.set j none).set (j + 1) (some v) else lv.set (j + 1) (some v)
def mj_st2 (lv : mj_LV) (i : Nat) (v : Int64) : mj_LV := (mj_st lv i (.long v)).set (i + 1) none
/-- where an exception thrown at pc goes: the class that is caught there, the local that takes it, the pc behind that store -/
abbrev mj_H : Type := Nat → Option (Nat × Nat × Nat)
/-- a local that is no longer known -/
def mj_er (lv : mj_LV) (i : Nat) : mj_LV := (mj_st lv i .null).set i none
/-- what comes behind a call -/
def mj_ret (hd : mj_H) (nx : mj_N) (pc : Nat) (K : mj_K) (lv : mj_LV) (rest : List Value) (Q : mj_Q) : mj_O → mj_S → Prop
  | .inl none, S => K lv rest S
  | .inl (some v), S => K lv (v :: rest) S
  | .inr x, S => match hd pc with
    | some (k, i, h) => x = k ∧ nx h (mj_er lv i) [] S Q
    | none => Q (.inr x) S
/-- a new cell of kind k with n places -/
def mj_new (X : mj_X) (K : Nat → mj_S → Prop) (k n : Nat) (S : mj_S) : Prop :=
  (S.2.2.2.2.1 + 1 ≤ X.2.2.1 ∧ S.2.2.2.2.2 + n ≤ X.2.2.2) ∧
  K S.1.length (S.1 ++ [(k, n)], mj_row S.2.1 S.1.length (fun _ => 0), mj_row S.2.2.1 S.1.length (fun _ => 0), mj_row S.2.2.2.1 S.1.length (fun _ => none), S.2.2.2.2.1 + 1, S.2.2.2.2.2 + n)
def mj_ald (K : mj_K) (t : Nat) (lv : mj_LV) (st : List Value) (S : mj_S) : Prop :=
  mj_pI (fun k r => mj_pR (fun o r => mj_so (fun n => vp_in k n ∧ K lv (.int (S.2.1 o k.toNatClampNeg) :: r) S) (mj_ar S.1 o t)) r) st
def mj_ast (K : mj_K) (nar : Int32 → Int32) (t : Nat) (lv : mj_LV) (st : List Value) (S : mj_S) : Prop :=
  mj_pI (fun v r => mj_pI (fun k r => mj_pR (fun o r => mj_so (fun n => vp_in k n ∧ K lv r (S.1, mj_up S.2.1 o k.toNatClampNeg (nar v), S.2.2)) (mj_ar S.1 o t)) r) r) st
/-- what an operand stack weighs -/
def mj_wg : List Value → Nat
  | [] => 0
  | v :: r => v.category + mj_wg r
/-- a call; of a receiver of class t -/
def mj_iv (hd : mj_H) (cl : mj_C) (nx : mj_N) (Q : mj_Q) (pc a n : Nat) (K : mj_K) (lv : mj_LV) (st : List Value) (S : mj_S) : Prop :=
  mj_so (fun z => mj_tt (cl a z.1 S (mj_ret hd nx pc K lv z.2 Q)) (Nat.ble (mj_wg z.2) 8)) (mj_tk n [] st)
def mj_ir (hd : mj_H) (cl : mj_C) (nx : mj_N) (Q : mj_Q) (pc a n t : Nat) (K : mj_K) (lv : mj_LV) (st : List Value) (S : mj_S) : Prop :=
  mj_so (fun z => mj_tt (mj_rc (cl a z.1 S (mj_ret hd nx pc K lv z.2 Q)) S.1 t z.1) (Nat.ble (mj_wg z.2) 8)) (mj_tk n [] st)
/-- one instruction; K: what must hold behind it -/
def mj_in (X : mj_X) (hd : mj_H) (cl : mj_C) (nx : mj_N) (Q : mj_Q) (x : mj_I) (K : mj_K) (lv : mj_LV) (st : List Value) (S : mj_S) : Prop :=
  match x.2.1 with
  | .iconst _ => K lv (.int x.2.2.2.2.1 :: st) S
  | .bipush _ => K lv (.int x.2.2.2.2.1 :: st) S
  | .sipush _ => K lv (.int x.2.2.2.2.1 :: st) S
  | .ldc _ => match x.2.2.2.1.2.2 with
    | 0 => K lv (.int x.2.2.2.2.1 :: st) S
    | _ => K lv (.ref x.2.2.2.1.1 :: st) S
  | .lconst _ => K lv (.long x.2.2.2.2.2.1 :: st) S
  | .ldc2_w _ => K lv (.long x.2.2.2.2.2.1 :: st) S
  | .iload _ => mj_gI (fun v => K lv (.int v :: st) S) (lv.getD x.2.2.2.1.1 none)
  | .iload_n _ => mj_gI (fun v => K lv (.int v :: st) S) (lv.getD x.2.2.2.1.1 none)
  | .lload _ => mj_gL (fun v => K lv (.long v :: st) S) (lv.getD x.2.2.2.1.1 none)
  | .lload_n _ => mj_gL (fun v => K lv (.long v :: st) S) (lv.getD x.2.2.2.1.1 none)
  | .aload _ => mj_gA (fun v => K lv (v :: st) S) (lv.getD x.2.2.2.1.1 none)
  | .aload_n _ => mj_gA (fun v => K lv (v :: st) S) (lv.getD x.2.2.2.1.1 none)
  | .istore _ => mj_pI (fun v r => K (mj_st lv x.2.2.2.1.1 (.int v)) r S) st
  | .istore_n _ => mj_pI (fun v r => K (mj_st lv x.2.2.2.1.1 (.int v)) r S) st
  | .lstore _ => mj_pL (fun v r => K (mj_st2 lv x.2.2.2.1.1 v) r S) st
  | .lstore_n _ => mj_pL (fun v r => K (mj_st2 lv x.2.2.2.1.1 v) r S) st
  | .astore _ => mj_pR (fun v r => K (mj_st lv x.2.2.2.1.1 (.ref v)) r S) st
  | .astore_n _ => mj_pR (fun v r => K (mj_st lv x.2.2.2.1.1 (.ref v)) r S) st
  | .iinc _ _ => mj_gI (fun v => K (mj_st lv x.2.2.2.1.1 (.int (v + x.2.2.2.2.1))) st S) (lv.getD x.2.2.2.1.1 none)
  | .iadd => mj_pI (fun b r => mj_pI (fun a r => K lv (.int (a + b) :: r) S) r) st
  | .isub => mj_pI (fun b r => mj_pI (fun a r => K lv (.int (a - b) :: r) S) r) st
  | .imul => mj_pI (fun b r => mj_pI (fun a r => K lv (.int (a * b) :: r) S) r) st
  | .iand => mj_pI (fun b r => mj_pI (fun a r => K lv (.int (a &&& b) :: r) S) r) st
  | .ior => mj_pI (fun b r => mj_pI (fun a r => K lv (.int (a ||| b) :: r) S) r) st
  | .ixor => mj_pI (fun b r => mj_pI (fun a r => K lv (.int (a ^^^ b) :: r) S) r) st
  | .ishl => mj_pI (fun b r => mj_pI (fun a r => K lv (.int (a <<< (b &&& 31)) :: r) S) r) st
  | .ishr => mj_pI (fun b r => mj_pI (fun a r => K lv (.int (a >>> (b &&& 31)) :: r) S) r) st
  | .ineg => mj_pI (fun a r => K lv (.int (-a) :: r) S) st
  | .i2c => mj_pI (fun a r => K lv (.int (a.toUInt32 % 65536).toInt32 :: r) S) st
  | .i2b => mj_pI (fun a r => K lv (.int a.toInt8.toInt32 :: r) S) st
  | .idiv => mj_pI (fun b r => mj_pI (fun a r => ¬ b = 0 ∧ K lv (.int (a / b) :: r) S) r) st
  | .irem => mj_pI (fun b r => mj_pI (fun a r => ¬ b = 0 ∧ K lv (.int (a - a / b * b) :: r) S) r) st
  | .ladd => mj_pL (fun b r => mj_pL (fun a r => K lv (.long (a + b) :: r) S) r) st
  | .lsub => mj_pL (fun b r => mj_pL (fun a r => K lv (.long (a - b) :: r) S) r) st
  | .lmul => mj_pL (fun b r => mj_pL (fun a r => K lv (.long (a * b) :: r) S) r) st
  | .land => mj_pL (fun b r => mj_pL (fun a r => K lv (.long (a &&& b) :: r) S) r) st
  | .lor => mj_pL (fun b r => mj_pL (fun a r => K lv (.long (a ||| b) :: r) S) r) st
  | .lneg => mj_pL (fun a r => K lv (.long (-a) :: r) S) st
  | .ldiv => mj_pL (fun b r => mj_pL (fun a r => ¬ b = 0 ∧ K lv (.long (a / b) :: r) S) r) st
  | .lrem => mj_pL (fun b r => mj_pL (fun a r => ¬ b = 0 ∧ K lv (.long (a - a / b * b) :: r) S) r) st
  | .lushr => mj_pI (fun b r => mj_pL (fun a r => K lv (.long (a.toUInt64 >>> (b.toInt64.toUInt64 &&& Int64.toUInt64 63)).toInt64 :: r) S) r) st
  | .lshl => mj_pI (fun b r => mj_pL (fun a r => K lv (.long (a <<< (b.toInt64 &&& 63)) :: r) S) r) st
  | .lshr => mj_pI (fun b r => mj_pL (fun a r => K lv (.long (a >>> (b.toInt64 &&& 63)) :: r) S) r) st
  | .lcmp => mj_pL (fun b r => mj_pL (fun a r => K lv (.int (lg_cmp a b) :: r) S) r) st
  | .i2l => mj_pI (fun a r => K lv (.long a.toInt64 :: r) S) st
  | .l2i => mj_pL (fun a r => K lv (.int a.toInt32 :: r) S) st
  | .dup => mj_pV (fun v r => K lv (v :: v :: r) S) st
  | .pop => mj_pV (fun _ r => K lv r S) st
  | .ifCond c _ => mj_pI (fun a r => mj_br (mj_cmp c a 0) (nx x.2.2.2.1.1 lv r S Q) (K lv r S)) st
  | .if_icmp c _ => mj_pI (fun b r => mj_pI (fun a r => mj_br (mj_cmp c a b) (nx x.2.2.2.1.1 lv r S Q) (K lv r S)) r) st
  | .goto _ => nx x.2.2.2.1.1 lv st S Q
  | .tableswitch _ _ _ _ => mj_pI (fun a r => mj_sw (fun t => nx t lv r S Q) x.2.2.2.1.1 a x.2.2.2.2.2.2) st
  | .lookupswitch _ _ => mj_pI (fun a r => mj_sw (fun t => nx t lv r S Q) x.2.2.2.1.1 a x.2.2.2.2.2.2) st
  | .iaload => match x.2.2.2.1.2.2 with
    | 0 => mj_ald K 0 lv st S
    | _ => mj_pI (fun k r => mj_pR (fun o r => o = 900000 ∧ vp_in k X.1.1 ∧ K lv (.int (X.1.2 k.toNatClampNeg) :: r) S) r) st
  | .caload => mj_ald K 2 lv st S
  | .baload => match x.2.2.2.1.2.2 with
    | 3 => mj_ald K 3 lv st S
    | _ => mj_ald K 4 lv st S
  | .laload => mj_pI (fun k r => mj_pR (fun o r => mj_so (fun n => vp_in k n ∧ K lv (.long (S.2.2.1 o k.toNatClampNeg) :: r) S) (mj_ar S.1 o 1)) r) st
  | .iastore => mj_ast K (fun v => v) 0 lv st S
  | .castore => mj_ast K (fun v => vp_nar .char v) 2 lv st S
  | .bastore => match x.2.2.2.1.2.2 with
    | 3 => mj_ast K (fun v => vp_nar .boolean v) 3 lv st S
    | _ => mj_ast K (fun v => vp_nar .byte v) 4 lv st S
  | .lastore => mj_pL (fun v r => mj_pI (fun k r => mj_pR (fun o r => mj_so (fun n => vp_in k n ∧ K lv r (S.1, S.2.1, mj_up S.2.2.1 o k.toNatClampNeg v, S.2.2.2)) (mj_ar S.1 o 1)) r) r) st
  | .arraylength => match x.2.2.2.1.2.2 with
    | 0 => mj_pR (fun o r => mj_so (fun n => K lv (.int (Int32.ofNat n) :: r) S) (mj_ar S.1 o 0)) st
    | _ => mj_pR (fun o r => o = 900000 ∧ K lv (.int (Int32.ofNat X.1.1) :: r) S) st
  | .getfield _ => mj_pR (fun o r => mj_tt (match x.2.2.2.1.2.2 with
    | 0 => K lv (.int (S.2.1 o x.2.2.2.1.2.1) :: r) S
    | _ => mj_so (fun q => K lv (.ref q :: r) S) (S.2.2.2.1 o x.2.2.2.1.2.1)) (mj_ob S.1 o x.2.2.2.1.1 x.2.2.2.1.2.1)) st
  | .putfield _ => match x.2.2.2.1.2.2 with
    | 0 => mj_pI (fun v r => mj_pR (fun o r => mj_tt (K lv r (S.1, mj_up S.2.1 o x.2.2.2.1.2.1 v, S.2.2)) (mj_ob S.1 o x.2.2.2.1.1 x.2.2.2.1.2.1)) r) st
    | 2 => mj_pR (fun v r => mj_pR (fun o r => mj_tt (K lv r (S.1, S.2.1, S.2.2.1, mj_up S.2.2.2.1 o x.2.2.2.1.2.1 (some v), S.2.2.2.2)) (mj_ob S.1 o x.2.2.2.1.1 x.2.2.2.1.2.1)) r) st
    | _ => mj_pI (fun v r => mj_pR (fun o r => mj_tt ((v = 0 ∨ v = 1) ∧ K lv r (S.1, mj_up S.2.1 o x.2.2.2.1.2.1 v, S.2.2)) (mj_ob S.1 o x.2.2.2.1.1 x.2.2.2.1.2.1)) r) st
  | .new _ => match x.2.2.2.1.2.2 with
    | 0 => mj_new X (fun q S' => K lv (.ref q :: st) S') x.2.2.2.1.1 x.2.2.2.1.2.1 S
    | _ => mj_p0 ((S.2.2.2.2.1 + 1 ≤ X.2.2.1 ∧ S.2.2.2.2.2 + 6 ≤ X.2.2.2) ∧ Q (.inr x.2.2.2.1.1) (S.1, S.2.1, S.2.2.1, S.2.2.2.1, S.2.2.2.2.1 + 1, S.2.2.2.2.2 + 6)) st
  | .newarray _ => mj_pI (fun n r => ¬ n < 0 ∧ mj_new X (fun q S' => K lv (.ref q :: r) S') (1000 + x.2.2.2.1.2.2) n.toNatClampNeg S) st
  | .invokestatic _ => mj_iv hd cl nx Q x.1 x.2.2.2.1.1 x.2.2.2.1.2.1 K lv st S
  | .invokevirtual _ => match x.2.2.2.1.2.2 with
    | 999 => mj_iv hd cl nx Q x.1 x.2.2.2.1.1 x.2.2.2.1.2.1 K lv st S
    | t => mj_ir hd cl nx Q x.1 x.2.2.2.1.1 x.2.2.2.1.2.1 t K lv st S
  | .invokespecial _ => match x.2.2.2.1.2.2 with
    | 0 => mj_iv hd cl nx Q x.1 x.2.2.2.1.1 x.2.2.2.1.2.1 K lv st S
    | _ => mj_pR (fun _ r => mj_p0 (K lv [] S) r) st
  | .checkcast _ => mj_pR (fun o r => mj_so (fun _ => K lv (.ref o :: r) S) (mj_ar S.1 o 0)) st
  | .ireturn => mj_pI (fun v r => mj_p0 (match x.2.2.2.1.2.2 with
    | 0 => Q (.inl (some (.int v))) S
    | _ => (v = 0 ∨ v = 1) ∧ Q (.inl (some (.int v))) S) r) st
  | .return_ => mj_p0 (Q (.inl none) S) st
  | _ => False
/-- a row of instructions; it goes on at e behind the last one -/
def mj_rb (X : mj_X) (hd : mj_H) (cl : mj_C) (nx : mj_N) (Q : mj_Q) (e : Nat) : List mj_I → mj_K
  | [] => fun lv st S => nx e lv st S Q
  | x :: is => mj_in X hd cl nx Q x (mj_rb X hd cl nx Q e is)
/-- the locals that are still read -/
def mj_mk : List Bool → mj_LV → mj_LV
  | b :: bs, v :: vs => (if b then v else none) :: mj_mk bs vs
  | _, _ => []
/-- a block: its pc, the locals that are live there, its instructions, the pc behind them -/
abbrev mj_B : Type := Nat × List Bool × List mj_I × Nat
def mj_bk : List mj_B → Nat → Option mj_B
  | [], _ => none
  | b :: r, pc => if b.1 = pc then some b else mj_bk r pc
def mj_at (X : mj_X) (hd : mj_H) (cl : mj_C) (T : List mj_B) (nx : mj_N) (pc : Nat) (lv : mj_LV) (st : List Value) (S : mj_S) (Q : mj_Q) : Prop :=
  mj_so (fun b => mj_rb X hd cl nx Q b.2.2.2 b.2.2.1 (mj_mk b.2.1 lv) st S) (mj_bk T pc)
/-- from this pc on the method ends, with Q: the least such -/
def mj_rn (X : mj_X) (hd : mj_H) (cl : mj_C) (T : List mj_B) : mj_N := fun pc lv st S Q => ∀ P : mj_N, (∀ pc lv st S Q, mj_at X hd cl T P pc lv st S Q → P pc lv st S Q) → P pc lv st S Q
def mj_en : List Value → mj_LV
  | [] => []
  | .long x :: r => some (.long x) :: none :: mj_en r
  | .double x :: r => some (.double x) :: none :: mj_en r
  | v :: r => some v :: mj_en r
/-- a method: how many locals, its handlers (from, to, handler, class, the local, the pc behind the store), its blocks -/
abbrev mj_M : Type := Nat × List (Nat × Nat × Nat × Nat × Nat × Nat) × List mj_B
def mj_hd : List (Nat × Nat × Nat × Nat × Nat × Nat) → mj_H
  | [], _ => none
  | (f, t, _, c, i, h) :: r, pc => if f ≤ pc ∧ pc < t then some (c, i, h) else mj_hd r pc
def mj_call (X : mj_X) (P : List mj_M) (bi : mj_C) : Nat → mj_C
  | 0, _, _, _, _ => False
  | d + 1, M, as, S, Q => if 900 ≤ M then bi M as S Q else
    mj_so (fun z => mj_rn X (mj_hd z.2.1) (mj_call X P bi d) z.2.2 0 (mj_en as ++ List.replicate (z.1 - (mj_en as).length) none) [] S Q) P[M]?
end
section
/-! MINI MACHINE: every reading ends in one way; what it says may be weakened -/
def mj_Mono (cl : mj_C) : Prop := ∀ (M : Nat) (as : List Value) (S : mj_S) (Q Q' : mj_Q), (∀ o S', Q o S' → Q' o S') → cl M as S Q → cl M as S Q'
def mj_Ex (cl : mj_C) : Prop := ∀ (M : Nat) (as : List Value) (S : mj_S) (Q : mj_Q), cl M as S Q → ∃ (o : mj_O) (S' : mj_S), cl M as S (fun a b => a = o ∧ b = S') ∧ Q o S'
section MJEX
variable {Z : Type} {P : Z → Prop}
theorem mj_pI_ex {f : Int32 → List Value → Prop} {g : Z → Int32 → List Value → Prop} (h : ∀ x r, f x r → ∃ z, g z x r ∧ P z) : ∀ {st : List Value}, mj_pI f st → ∃ z, mj_pI (g z) st ∧ P z
  | .int x :: r, q => h x r q
theorem mj_pL_ex {f : Int64 → List Value → Prop} {g : Z → Int64 → List Value → Prop} (h : ∀ x r, f x r → ∃ z, g z x r ∧ P z) : ∀ {st : List Value}, mj_pL f st → ∃ z, mj_pL (g z) st ∧ P z
  | .long x :: r, q => h x r q
theorem mj_pR_ex {f : Nat → List Value → Prop} {g : Z → Nat → List Value → Prop} (h : ∀ x r, f x r → ∃ z, g z x r ∧ P z) : ∀ {st : List Value}, mj_pR f st → ∃ z, mj_pR (g z) st ∧ P z
  | .ref x :: r, q => h x r q
theorem mj_pV_ex {f : Value → List Value → Prop} {g : Z → Value → List Value → Prop} (h : ∀ x r, f x r → ∃ z, g z x r ∧ P z) : ∀ {st : List Value}, mj_pV f st → ∃ z, mj_pV (g z) st ∧ P z
  | v :: r, q => (h v r q.2).imp fun _ w => ⟨⟨q.1, w.1⟩, w.2⟩
theorem mj_p0_ex {f : Prop} {g : Z → Prop} (h : f → ∃ z, g z ∧ P z) : ∀ {st : List Value}, mj_p0 f st → ∃ z, mj_p0 (g z) st ∧ P z
  | [], q => h q
theorem mj_gI_ex {f : Int32 → Prop} {g : Z → Int32 → Prop} (h : ∀ x, f x → ∃ z, g z x ∧ P z) : ∀ {v : Option Value}, mj_gI f v → ∃ z, mj_gI (g z) v ∧ P z
  | some (.int x), q => h x q
theorem mj_gL_ex {f : Int64 → Prop} {g : Z → Int64 → Prop} (h : ∀ x, f x → ∃ z, g z x ∧ P z) : ∀ {v : Option Value}, mj_gL f v → ∃ z, mj_gL (g z) v ∧ P z
  | some (.long x), q => h x q
theorem mj_gA_ex {f : Value → Prop} {g : Z → Value → Prop} (h : ∀ x, f x → ∃ z, g z x ∧ P z) : ∀ {v : Option Value}, mj_gA f v → ∃ z, mj_gA (g z) v ∧ P z
  | some (.ref x), q => h _ q
  | some .null, q => h _ q
theorem mj_tt_ex {f : Prop} {g : Z → Prop} (h : f → ∃ z, g z ∧ P z) : ∀ {b : Bool}, mj_tt f b → ∃ z, mj_tt (g z) b ∧ P z
  | true, q => h q
theorem mj_rc_ex {f : Prop} {g : Z → Prop} (h : f → ∃ z, g z ∧ P z) {sh : List (Nat × Nat)} {c : Nat} : ∀ {as : List Value}, mj_rc f sh c as → ∃ z, mj_rc (g z) sh c as ∧ P z
  | .ref _ :: _, q => mj_tt_ex h q
theorem mj_so_ex {α : Type} {f : α → Prop} {g : Z → α → Prop} (h : ∀ x, f x → ∃ z, g z x ∧ P z) : ∀ {b : Option α}, mj_so f b → ∃ z, mj_so (g z) b ∧ P z
  | some x, q => h x q
theorem mj_an_ex {c f : Prop} {g : Z → Prop} (h : f → ∃ z, g z ∧ P z) (q : c ∧ f) : ∃ z, (c ∧ g z) ∧ P z := (h q.2).imp fun _ w => ⟨⟨q.1, w.1⟩, w.2⟩
theorem mj_br_ex {c f1 f2 : Prop} {g1 g2 : Z → Prop} (h1 : f1 → ∃ z, g1 z ∧ P z) (h2 : f2 → ∃ z, g2 z ∧ P z) (q : mj_br c f1 f2) : ∃ z, mj_br c (g1 z) (g2 z) ∧ P z := by
  by_cases hc : c
  · obtain ⟨z, w1, w2⟩ := h1 (q.1 hc)
    exact ⟨z, ⟨fun _ => w1, fun n => absurd hc n⟩, w2⟩
  · obtain ⟨z, w1, w2⟩ := h2 (q.2 hc)
    exact ⟨z, ⟨fun n => absurd n hc, fun _ => w1⟩, w2⟩
theorem mj_sw_ex {nx : Nat → Prop} {nx' : Z → Nat → Prop} (h : ∀ t, nx t → ∃ z, nx' z t ∧ P z) (d : Nat) (x : Int32) : ∀ sw : List (Int32 × Nat), mj_sw nx d x sw → ∃ z, mj_sw (nx' z) d x sw ∧ P z
  | [], q => h _ q
  | (_, _) :: r, q => mj_br_ex (h _) (mj_sw_ex h d x r) q
theorem mj_new_ex {X : mj_X} {K : Nat → mj_S → Prop} {K' : Z → Nat → mj_S → Prop} (h : ∀ q S, K q S → ∃ z, K' z q S ∧ P z) {k n : Nat} {S : mj_S} (q : mj_new X K k n S) : ∃ z, mj_new X (K' z) k n S ∧ P z := mj_an_ex (h _ _) q
theorem mj_ald_ex {K : mj_K} {K' : Z → mj_K} (h : ∀ lv st S, K lv st S → ∃ z, K' z lv st S ∧ P z) {t : Nat} {lv : mj_LV} {st : List Value} {S : mj_S} (q : mj_ald K t lv st S) : ∃ z, mj_ald (K' z) t lv st S ∧ P z :=
  mj_pI_ex (fun _ _ => mj_pR_ex fun _ _ => mj_so_ex fun _ => mj_an_ex (h _ _ _)) q
theorem mj_ast_ex {K : mj_K} {K' : Z → mj_K} (h : ∀ lv st S, K lv st S → ∃ z, K' z lv st S ∧ P z) {nar : Int32 → Int32} {t : Nat} {lv : mj_LV} {st : List Value} {S : mj_S} (q : mj_ast K nar t lv st S) : ∃ z, mj_ast (K' z) nar t lv st S ∧ P z :=
  mj_pI_ex (fun _ _ => mj_pI_ex fun _ _ => mj_pR_ex fun _ _ => mj_so_ex fun _ => mj_an_ex (h _ _ _)) q
theorem mj_ret_ex {hd : mj_H} {nx nx' : mj_N} {Q : mj_Q} {Q' : Z → mj_Q} {K : mj_K} {K' : Z → mj_K} (hn : ∀ pc lv st S, nx pc lv st S Q → ∃ z, nx' pc lv st S (Q' z) ∧ P z) (hQ : ∀ o S, Q o S → ∃ z, Q' z o S ∧ P z) (hK : ∀ lv st S, K lv st S → ∃ z, K' z lv st S ∧ P z)
    {pc : Nat} {lv : mj_LV} {rest : List Value} : ∀ {o : mj_O} {S : mj_S}, mj_ret hd nx pc K lv rest Q o S → ∃ z, mj_ret hd nx' pc (K' z) lv rest (Q' z) o S ∧ P z
  | .inl none, S, q => hK _ _ _ q
  | .inl (some v), S, q => hK _ _ _ q
  | .inr x, S, q => by
    cases hx : hd pc with
    | none =>
      simp only [mj_ret, hx] at q ⊢
      exact hQ _ _ q
    | some z =>
      simp only [mj_ret, hx] at q ⊢
      exact mj_an_ex (hn _ _ _ _) q
theorem mj_cl_ex {cl : mj_C} (hm : mj_Mono cl) (he : mj_Ex cl) {M : Nat} {as : List Value} {S : mj_S} {R : mj_Q} {R' : Z → mj_Q} (h : ∀ o S', R o S' → ∃ z, R' z o S' ∧ P z) (q : cl M as S R) : ∃ z, cl M as S (R' z) ∧ P z := by
  obtain ⟨o, S', h1, h2⟩ := he M as S R q
  obtain ⟨z, w1, w2⟩ := h o S' h2
  exact ⟨z, hm M as S _ _ (fun a b e => by rw [e.1, e.2]; exact w1) h1, w2⟩
theorem mj_iv_ex {hd : mj_H} {cl : mj_C} (hm : mj_Mono cl) (he : mj_Ex cl) {nx nx' : mj_N} {Q : mj_Q} {Q' : Z → mj_Q} {K : mj_K} {K' : Z → mj_K} (hn : ∀ pc lv st S, nx pc lv st S Q → ∃ z, nx' pc lv st S (Q' z) ∧ P z) (hQ : ∀ o S, Q o S → ∃ z, Q' z o S ∧ P z) (hK : ∀ lv st S, K lv st S → ∃ z, K' z lv st S ∧ P z)
    {pc a n : Nat} {lv : mj_LV} {st : List Value} {S : mj_S} (h : mj_iv hd cl nx Q pc a n K lv st S) : ∃ z, mj_iv hd cl nx' (Q' z) pc a n (K' z) lv st S ∧ P z :=
  mj_so_ex (fun _ => mj_tt_ex (mj_cl_ex hm he (fun _ _ => mj_ret_ex hn hQ hK))) h
theorem mj_ir_ex {hd : mj_H} {cl : mj_C} (hm : mj_Mono cl) (he : mj_Ex cl) {nx nx' : mj_N} {Q : mj_Q} {Q' : Z → mj_Q} {K : mj_K} {K' : Z → mj_K} (hn : ∀ pc lv st S, nx pc lv st S Q → ∃ z, nx' pc lv st S (Q' z) ∧ P z) (hQ : ∀ o S, Q o S → ∃ z, Q' z o S ∧ P z) (hK : ∀ lv st S, K lv st S → ∃ z, K' z lv st S ∧ P z)
    {pc a n t : Nat} {lv : mj_LV} {st : List Value} {S : mj_S} (h : mj_ir hd cl nx Q pc a n t K lv st S) : ∃ z, mj_ir hd cl nx' (Q' z) pc a n t (K' z) lv st S ∧ P z :=
  mj_so_ex (fun _ => mj_tt_ex (mj_rc_ex (mj_cl_ex hm he (fun _ _ => mj_ret_ex hn hQ hK)))) h
set_option maxHeartbeats 4000000 in
theorem mj_in_ex {X : mj_X} {hd : mj_H} {cl : mj_C} (hm : mj_Mono cl) (he : mj_Ex cl) {nx nx' : mj_N} {Q : mj_Q} {Q' : Z → mj_Q} {K : mj_K} {K' : Z → mj_K} (hn : ∀ pc lv st S, nx pc lv st S Q → ∃ z, nx' pc lv st S (Q' z) ∧ P z) (hQ : ∀ o S, Q o S → ∃ z, Q' z o S ∧ P z) (hK : ∀ lv st S, K lv st S → ∃ z, K' z lv st S ∧ P z)
    (x : mj_I) (lv : mj_LV) (st : List Value) (S : mj_S) (h : mj_in X hd cl nx Q x K lv st S) : ∃ z, mj_in X hd cl nx' (Q' z) x (K' z) lv st S ∧ P z := by
  obtain ⟨pc, i, len, ⟨a, b, t⟩, k, kl, sw⟩ := x
  unfold mj_in at h ⊢
  cases i
  all_goals dsimp only at h ⊢
  all_goals try exact h.elim
  all_goals try exact hK _ _ _ h
  all_goals try exact hn _ _ _ _ h
  all_goals try exact mj_pI_ex (fun _ _ => hK _ _ _) h
  all_goals try exact mj_pI_ex (fun _ _ => mj_pI_ex fun _ _ => hK _ _ _) h
  all_goals try exact mj_pI_ex (fun _ _ => mj_pI_ex fun _ _ => mj_an_ex (hK _ _ _)) h
  all_goals try exact mj_pI_ex (fun _ _ => mj_pL_ex fun _ _ => hK _ _ _) h
  all_goals try exact mj_pL_ex (fun _ _ => hK _ _ _) h
  all_goals try exact mj_pL_ex (fun _ _ => mj_pL_ex fun _ _ => hK _ _ _) h
  all_goals try exact mj_pL_ex (fun _ _ => mj_pL_ex fun _ _ => mj_an_ex (hK _ _ _)) h
  all_goals try exact mj_pR_ex (fun _ _ => hK _ _ _) h
  all_goals try exact mj_pV_ex (fun _ _ => hK _ _ _) h
  all_goals try exact mj_gI_ex (fun _ => hK _ _ _) h
  all_goals try exact mj_gL_ex (fun _ => hK _ _ _) h
  all_goals try exact mj_gA_ex (fun _ => hK _ _ _) h
  all_goals try exact mj_ald_ex hK h
  all_goals try exact mj_ast_ex hK h
  all_goals try exact mj_pI_ex (fun _ _ => mj_pI_ex fun _ _ => mj_br_ex (hn _ _ _ _) (hK _ _ _)) h
  all_goals try exact mj_pI_ex (fun _ _ => mj_br_ex (hn _ _ _ _) (hK _ _ _)) h
  all_goals try exact mj_pI_ex (fun _ _ => mj_sw_ex (fun _ => hn _ _ _ _) _ _ _) h
  all_goals try exact mj_iv_ex hm he hn hQ hK h
  all_goals try exact mj_ir_ex hm he hn hQ hK h
  all_goals try exact mj_pR_ex (fun _ _ => mj_so_ex fun _ => hK _ _ _) h
  all_goals try exact mj_pI_ex (fun _ _ => mj_pR_ex fun _ _ => mj_so_ex fun _ => mj_an_ex (hK _ _ _)) h
  all_goals try exact mj_pL_ex (fun _ _ => mj_pI_ex fun _ _ => mj_pR_ex fun _ _ => mj_so_ex fun _ => mj_an_ex (hK _ _ _)) h
  all_goals try exact mj_p0_ex (hQ _ _) h
  all_goals try exact mj_pI_ex (fun _ _ => mj_an_ex (mj_new_ex fun _ _ => hK _ _ _)) h
  all_goals try (split at h)
  all_goals try exact hK _ _ _ h
  all_goals try exact mj_ald_ex hK h
  all_goals try exact mj_ast_ex hK h
  all_goals try exact mj_pI_ex (fun _ _ => mj_pR_ex fun _ _ => mj_an_ex (mj_an_ex (hK _ _ _))) h
  all_goals try exact mj_pR_ex (fun _ _ => mj_so_ex fun _ => hK _ _ _) h
  all_goals try exact mj_pR_ex (fun _ _ => mj_an_ex (hK _ _ _)) h
  all_goals try exact mj_pR_ex (fun _ _ => mj_tt_ex (hK _ _ _)) h
  all_goals try exact mj_pR_ex (fun _ _ => mj_tt_ex (mj_so_ex fun _ => hK _ _ _)) h
  all_goals try exact mj_pI_ex (fun _ _ => mj_pR_ex fun _ _ => mj_tt_ex (hK _ _ _)) h
  all_goals try exact mj_pR_ex (fun _ _ => mj_pR_ex fun _ _ => mj_tt_ex (hK _ _ _)) h
  all_goals try exact mj_pI_ex (fun _ _ => mj_pR_ex fun _ _ => mj_tt_ex (mj_an_ex (hK _ _ _))) h
  all_goals try exact mj_new_ex (fun _ _ => hK _ _ _) h
  all_goals try exact mj_p0_ex (mj_an_ex (hQ _ _)) h
  all_goals try exact mj_iv_ex hm he hn hQ hK h
  all_goals try exact mj_ir_ex hm he hn hQ hK h
  all_goals try exact mj_pR_ex (fun _ _ => mj_so_ex fun _ => hK _ _ _) h
  all_goals try exact mj_pR_ex (fun _ _ => hK _ _ _) h
  all_goals try exact mj_pR_ex (fun _ _ => mj_p0_ex (hK _ _ _)) h
  all_goals try exact mj_pI_ex (fun _ _ => mj_p0_ex (hQ _ _)) h
  all_goals try exact mj_pI_ex (fun _ _ => mj_p0_ex (mj_an_ex (hQ _ _))) h
end MJEX
end
section
/-! MINI MACHINE: the fixed point, and calls -/
section MJFX
variable {X : mj_X} {hd : mj_H} {cl : mj_C} {T : List mj_B}
theorem mj_rb_ex {Z : Type} {P : Z → Prop} (hm : mj_Mono cl) (he : mj_Ex cl) {nx nx' : mj_N} {Q : mj_Q} {Q' : Z → mj_Q} (hn : ∀ pc lv st S, nx pc lv st S Q → ∃ z, nx' pc lv st S (Q' z) ∧ P z) (hQ : ∀ o S, Q o S → ∃ z, Q' z o S ∧ P z) (e : Nat) :
    ∀ (is : List mj_I) (lv : mj_LV) (st : List Value) (S : mj_S), mj_rb X hd cl nx Q e is lv st S → ∃ z, mj_rb X hd cl nx' (Q' z) e is lv st S ∧ P z
  | [], _, _, _, h => hn _ _ _ _ h
  | x :: is, lv, st, S, h => mj_in_ex (K' := fun z => mj_rb X hd cl nx' (Q' z) e is) hm he hn hQ (mj_rb_ex hm he hn hQ e is) x lv st S h
theorem mj_at_ex {Z : Type} {P : Z → Prop} (hm : mj_Mono cl) (he : mj_Ex cl) {nx nx' : mj_N} {Q : mj_Q} {Q' : Z → mj_Q} (hn : ∀ pc lv st S, nx pc lv st S Q → ∃ z, nx' pc lv st S (Q' z) ∧ P z) (hQ : ∀ o S, Q o S → ∃ z, Q' z o S ∧ P z) {pc : Nat} {lv : mj_LV} {st : List Value} {S : mj_S} (h : mj_at X hd cl T nx pc lv st S Q) : ∃ z, mj_at X hd cl T nx' pc lv st S (Q' z) ∧ P z := by
  unfold mj_at at h ⊢
  exact mj_so_ex (g := fun z (b : mj_B) => mj_rb X hd cl nx' (Q' z) b.2.2.2 b.2.2.1 (mj_mk b.2.1 lv) st S) (fun b q => mj_rb_ex hm he hn hQ b.2.2.2 b.2.2.1 _ _ _ q) h
/-- the fixed point, unfolded once -/
theorem mj_rn_in (hm : mj_Mono cl) (he : mj_Ex cl) {pc : Nat} {lv : mj_LV} {st : List Value} {S : mj_S} {Q : mj_Q} (h : mj_at X hd cl T (mj_rn X hd cl T) pc lv st S Q) : mj_rn X hd cl T pc lv st S Q := by
  intro P hP
  refine hP _ _ _ _ _ ?_
  obtain ⟨-, w, -⟩ := mj_at_ex (Z := Unit) (P := fun _ => True) (nx' := P) (Q' := fun _ => Q) hm he (fun pc lv st S q => ⟨(), q P hP, trivial⟩) (fun _ _ q => ⟨(), q, trivial⟩) h
  exact w
theorem mj_rn_ex (hm : mj_Mono cl) (he : mj_Ex cl) {pc : Nat} {lv : mj_LV} {st : List Value} {S : mj_S} {Q : mj_Q} (h : mj_rn X hd cl T pc lv st S Q) : ∃ (o : mj_O) (S' : mj_S), mj_rn X hd cl T pc lv st S (fun a b => a = o ∧ b = S') ∧ Q o S' := by
  refine h (fun pc lv st S Q => ∃ (o : mj_O) (S' : mj_S), mj_rn X hd cl T pc lv st S (fun a b => a = o ∧ b = S') ∧ Q o S') ?_
  intro pc lv st S Q q
  obtain ⟨⟨o, S'⟩, w1, w2⟩ := mj_at_ex (Z := mj_O × mj_S) (P := fun z => Q z.1 z.2) (nx' := mj_rn X hd cl T) (Q' := fun z a b => a = z.1 ∧ b = z.2) hm he (fun pc lv st S q => by obtain ⟨o, S', q1, q2⟩ := q; exact ⟨(o, S'), q1, q2⟩) (fun o S q => ⟨(o, S), ⟨rfl, rfl⟩, q⟩) q
  exact ⟨o, S', mj_rn_in hm he w1, w2⟩
theorem mj_rn_mono (hm : mj_Mono cl) (he : mj_Ex cl) {pc : Nat} {lv : mj_LV} {st : List Value} {S : mj_S} {Q Q' : mj_Q} (hQ : ∀ o S, Q o S → Q' o S) (h : mj_rn X hd cl T pc lv st S Q) : mj_rn X hd cl T pc lv st S Q' := by
  refine h (fun pc lv st S Q => ∀ Q' : mj_Q, (∀ o S, Q o S → Q' o S) → mj_rn X hd cl T pc lv st S Q') ?_ Q' hQ
  intro pc lv st S Q q Q' hQ
  obtain ⟨-, w, -⟩ := mj_at_ex (Z := Unit) (P := fun _ => True) (nx' := mj_rn X hd cl T) (Q' := fun _ => Q') hm he (fun pc lv st S q => ⟨(), q Q' hQ, trivial⟩) (fun _ _ q => ⟨(), hQ _ _ q, trivial⟩) q
  exact mj_rn_in hm he w
end MJFX
section MJCL
variable {X : mj_X} {P : List mj_M} {bi : mj_C}
theorem mj_call_ok (hm : mj_Mono bi) (he : mj_Ex bi) : ∀ d : Nat, mj_Mono (mj_call X P bi d) ∧ mj_Ex (mj_call X P bi d)
  | 0 => ⟨fun _ _ _ _ _ _ h => h.elim, fun _ _ _ _ h => h.elim⟩
  | d + 1 => by
    obtain ⟨hm1, he1⟩ := mj_call_ok hm he d
    refine ⟨fun M as S Q Q' hQ h => ?_, fun M as S Q h => ?_⟩
    · unfold mj_call at h ⊢
      by_cases hM : 900 ≤ M
      · rw [if_pos hM] at h ⊢
        exact hm M as S Q Q' hQ h
      · rw [if_neg hM] at h ⊢
        obtain ⟨-, w, -⟩ := mj_so_ex (Z := Unit) (P := fun _ => True) (g := fun _ (z : mj_M) => mj_rn X (mj_hd z.2.1) (mj_call X P bi d) z.2.2 0 (mj_en as ++ List.replicate (z.1 - (mj_en as).length) none) [] S Q') (fun z q => ⟨(), mj_rn_mono hm1 he1 hQ q, trivial⟩) h
        exact w
    · unfold mj_call at h
      by_cases hM : 900 ≤ M
      · rw [if_pos hM] at h
        obtain ⟨o, S', h1, h2⟩ := he M as S Q h
        exact ⟨o, S', by unfold mj_call; rw [if_pos hM]; exact h1, h2⟩
      · rw [if_neg hM] at h
        obtain ⟨⟨o, S'⟩, h1, h2⟩ := mj_so_ex (Z := mj_O × mj_S) (P := fun z => Q z.1 z.2) (g := fun w (z : mj_M) => mj_rn X (mj_hd z.2.1) (mj_call X P bi d) z.2.2 0 (mj_en as ++ List.replicate (z.1 - (mj_en as).length) none) [] S (fun a b => a = w.1 ∧ b = w.2)) (fun z q => by obtain ⟨o, S', q1, q2⟩ := mj_rn_ex hm1 he1 q; exact ⟨(o, S'), q1, q2⟩) h
        exact ⟨o, S', by unfold mj_call; rw [if_neg hM]; exact h1, h2⟩
end MJCL
end
section
/-! CALLS THAT RETURN OR THROW, by a callee's free contract -/
section MJB
variable {p : Program} {l : Launch} {e : Env} {R : Room} {s : State} {m : MethodId} {args : Array Value} {below : List Frame} {meth : Method} {c : Code} {U : State} {locs : List Loc} {cells slots : Nat}
/-- where the caller stands behind a callee that has ended: in its frame, the value pushed; or under the note of what was thrown -/
def mj_Back (p : Program) (e : Env) (below : List Frame) (g : JFrame) (len : Nat) (A B : State) : Outcome → Prop
  | .returned v => Steps p.tables e below A (B.setTop { g with pc := g.pc + len, stack := v.toList ++ g.stack })
  | .threw x => Steps p.tables e below A ((B.setTop g).pushFrame (.throwing x))
theorem mj_back {ws : List Cond} {rm : Room} {Pc : Array Value → State → Prop} {Qc : Array Value → State → Outcome → State → Prop} {y : MethodName} {maxL W len : Nat}
    (hM : MetFree l y (headSpec ws rm) Pc (fun _ _ _ _ _ => True) Qc)
    (hQ : ∀ a st o t, Qc a st o t → st.WarmedH t.vm ∧ ∃ (L : List Loc) (k n : Nat), st.sameButNew ({ t with vm := st.vm } : State) L k n)
    (X : Stand p l e R s m args below meth c U locs cells slots) {g : JFrame} {ig : Instr} {mk : MethodId} {a : Array Value} (hg : g.method = m) (hsize : g.locals.size = c.maxLocals) (hdg : decode c.code g.pc = .ok (ig, len))
    (hW : 2 * g.monitorRoom + (g.stack.map fun v => v.category).sum ≤ W) (hn : U.methodNamed? y = some mk) {methY : Method} {cY : Code} {kY : Class} (hmY : U.vm.method? mk = some methY) (hcY : methY.code = some cY) (hlY : cY.maxLocals = maxL)
    (hkY : U.vm.classes[mk.cls]? = some kY) (hinitY : kY.init = .initialized) (hframes : rm.frames + 1 ≤ R.frames) (hlocals : W + (maxL + 11) + rm.locals ≤ R.locals) (hcells : cells + rm.cells ≤ R.cells) (hslots : slots + rm.slots ≤ R.slots)
    (hws : (allAtoms ws).before a U = true) (hP : Pc a (U.calling g mk a)) :
    ∃ (o : Outcome) (t : State), Qc a (U.calling g mk a) o t ∧ U.WarmedH t.vm ∧
      (∀ (L : List Loc) (k n : Nat), (U.calling g mk a).sameButNew ({ t with vm := (U.calling g mk a).vm } : State) L k n → Stand p l e R s m args below meth c (({ U with heap := t.heap, slotsUsed := t.slotsUsed } : State).setVm t.vm) (locs ++ L) (cells + k) (slots + n)) ∧
      mj_Back p e below g len (doInvoke e (U.setTop g) [] mk a).1 (({ U with heap := t.heap, slotsUsed := t.slotsUsed } : State).setVm t.vm) o := by
  have h : At U g.method c below := by rw [hg]; exact X.here
  have happ : (headSpec ws rm).appliesLoose y e.platform (U.calling g mk a) = true :=
    Spec.appliesLoose_calling (g := g) h hdg hn hkY hinitY
      (X.room_calling (g := g) (R' := (headSpec ws rm).room) hsize hmY hcY hframes (by rw [hlY]; show _ + _ + rm.locals ≤ _; omega) hcells hslots) hws
  obtain ⟨mid, hmid⟩ := h.above
  have hfr : (U.setTop g).frames = (.java g :: mid) ++ below := by rw [State.frames_setTop' g h.top, hmid]; rfl
  obtain ⟨o, s₂, hsteps, -, hend, hq⟩ := Steps.callFree hM p X.admits X.cas X.clock (acts := []) hfr happ hP trivial
  have hq' : Qc a (U.calling g mk a) o s₂ := hq
  rw [State.frames_setTop' g h.top] at hend
  obtain ⟨hW₂, L0, k0, n0, hs0⟩ := hQ _ _ _ _ hq'
  have e2 := hs0.1
  have e3 : s₂ = ({ (U.calling g mk a).setFrames s₂.frames with heap := s₂.heap, slotsUsed := s₂.slotsUsed } : State).setVm s₂.vm := by
    have : s₂ = ({ s₂ with vm := (U.calling g mk a).vm } : State).setVm s₂.vm := rfl
    rw [e2] at this
    exact this
  have hW' : U.WarmedH s₂.vm := hW₂
  obtain ⟨g₀, hg0⟩ := Option.isSome_iff_exists.mp h.top
  obtain ⟨r, hr⟩ := State.topJava?_eq_some.mp hg0
  have hr' : (({ U with heap := s₂.heap, slotsUsed := s₂.slotsUsed } : State).setVm s₂.vm).frames = .java g₀ :: r := hr
  refine ⟨o, s₂, hq', hW', fun L k n hs => ?_, ?_⟩
  · obtain ⟨-, q2, q3, q4, q5, q6⟩ := hs
    have hsame : U.sameButNew ({ U with heap := s₂.heap, slotsUsed := s₂.slotsUsed } : State) L k n := by
      refine ⟨?_, q2, q3, q4, q5, q6⟩
      obtain ⟨t, ht, -⟩ := State.frames_cons hr
      show ({ U with heap := s₂.heap, slotsUsed := s₂.slotsUsed } : State) = { U.setFrames U.frames with heap := s₂.heap, slotsUsed := s₂.slotsUsed }
      rw [State.setFrames_self ht]
    subst hg
    exact ⟨X.admits, X.cas, X.clock, X.frames, X.room, X.hears, X.method, X.code, (X.here.setHeapUsed s₂.heap s₂.slotsUsed).setVm hW'.alike, X.tail, State.WarmedH.trans X.warmed hW', X.limits, X.bytes, X.same.trans (hsame.setVm s.vm)⟩
  · cases o with
    | returned v =>
      obtain ⟨c₂, i₂, len₂, hc₂, hd₂, hf₂⟩ := hend
      have hcc : c₂ = c := by
        have h1 : s₂.code? g.method = U.code? g.method := by
          rw [State.code?_eq, State.code?_eq, hW'.alike.method?]
        exact Option.some.inj (hc₂.symm.trans (h1.trans h.code))
      subst hcc
      have hlen : len₂ = len := by rw [hdg] at hd₂; cases hd₂; rfl
      subst hlen
      have hs₂ : s₂ = (({ U with heap := s₂.heap, slotsUsed := s₂.slotsUsed } : State).setVm s₂.vm).setTop { g with pc := g.pc + len₂, stack := v.toList ++ g.stack } := by
        refine e3.trans ?_
        rw [hf₂, State.calling_eq h.top, State.setFrames_setFrames, State.setTop_of_frames _ hr', hr]
        rfl
      show Steps p.tables e below _ ((({ U with heap := s₂.heap, slotsUsed := s₂.slotsUsed } : State).setVm s₂.vm).setTop { g with pc := g.pc + len₂, stack := v.toList ++ g.stack })
      rw [← hs₂]
      exact hsteps
    | threw x =>
      have hf₂ : s₂.frames = .throwing x :: .java g :: U.frames.tail := hend
      have hs₂ : s₂ = ((({ U with heap := s₂.heap, slotsUsed := s₂.slotsUsed } : State).setVm s₂.vm).setTop g).pushFrame (.throwing x) := by
        refine e3.trans ?_
        rw [hf₂, State.calling_eq h.top, State.setFrames_setFrames, State.pushFrame, State.frames_setTop _ hr', State.setTop_of_frames _ hr', State.setFrames_setFrames, hr]
        rfl
      show Steps p.tables e below _ (((({ U with heap := s₂.heap, slotsUsed := s₂.slotsUsed } : State).setVm s₂.vm).setTop g).pushFrame (.throwing x))
      rw [← hs₂]
      exact hsteps
end MJB
end
section
/-! THE STEP OF AN INVOKING INSTRUCTION, up to the callee's entry -/
section MJE
variable {p : Program} {l : Launch} {e : Env} {R : Room} {s : State} {m : MethodId} {args : Array Value} {below : List Frame} {meth : Method} {c : Code} {T : State} {locs : List Loc} {cells slots : Nat}
def mj_Ent (p : Program) (l : Launch) (e : Env) (R : Room) (s : State) (m : MethodId) (args : Array Value) (below : List Frame) (meth : Method) (c : Code) (T : State) (locs : List Loc) (cells slots : Nat) (y : MethodName) (g : JFrame) (rest : List Value) (a : Array Value) : Prop :=
  ∃ (vm₁ : Vm) (mk : MethodId), Stand p l e R s m args below meth c (T.setVm vm₁) locs cells slots ∧ s.methodNamed? y = some mk ∧
    ∀ target, Steps p.tables e below (doInvoke e ((T.setVm vm₁).setTop { g with stack := rest }) [] mk a).1 target → Steps p.tables e below (T.setTop g) target
theorem mj_entV (X : Stand p l e R s m args below meth c T locs cells slots) (hexec : p.tables.exec = Jvm.exec) {own C : String} {index : Nat} {y : MethodName} {bytes : ByteArray} {maxL : Nat} {ret : Option FieldType} {hh : List (Nat × Nat × Nat × Nat)}
    (hown : s.vm.findClass own = some m.cls) (hlink : (Cond.methodLink own index y).before args s = true) (hinst : (Cond.instanceMethod y).before args s = true) (hsel : (Cond.selects C y y).before args s = true)
    (hcode : (Cond.codeWith y bytes maxL ret hh).before args s = true) (hy : y.cls ≠ "java/lang/invoke/MethodHandle" ∧ y.cls ≠ "java/lang/invoke/VarHandle")
    {b : Addr} {cellB : Cell} (hcell : T.heap[b]? = some cellB) (hobj : cellB.vm.isStatics = false) (hcls : s.vm.findClass C = some cellB.cls)
    {g : JFrame} (hg : g.method = m) {argsL rest : List Value} (hlen : ∀ sig, parseMethodDescriptor y.desc = some sig → argsL.length = sig.parameters.length)
    (hstack : g.stack = argsL.reverse ++ .ref b :: rest) (hdg : decode c.code g.pc = .ok (.invokevirtual index, 3)) : mj_Ent p l e R s m args below meth c T locs cells slots y g rest (Value.ref b :: argsL).toArray := by
  obtain ⟨mk, methM, hnamed, hmethM, hstM, habM⟩ := Cond.instanceMethod_spec hinst
  obtain ⟨m9, methM', cM, hn9, hmethM', -, -, -, -, -, -, hsigM⟩ := Cond.codeWith_spec hcode
  cases hnamed.symm.trans hn9
  cases hmethM.symm.trans hmethM'
  obtain ⟨c2, r2, m2, q1, q2, q3, q4, kP, hkP, hkPi⟩ := Cond.selects_spec hsel
  cases hcls.symm.trans q1
  cases (State.methodFound?_of_named hnamed hy).symm.trans q2
  cases hnamed.symm.trans q3
  have hselP : selectMethod e.platform s.vm cellB.cls mk = .method mk := by rw [Launch.admits_selectMethod X.admits]; exact q4
  obtain ⟨vm₁, X₁, hstep₁⟩ := X.invokevirtual hexec hown hlink hnamed hmethM hstM hkP hkPi hy (a := b) (cell := cellB) hcell
    (fun z h => by rw [h] at hobj; cases hobj) hselP hmethM habM hkP hkPi (g := g) hg (argsL := argsL) (rest := rest) (hlen _ hsigM) hstack hdg
  exact ⟨vm₁, mk, X₁, hnamed, fun target h => hstep₁ _ fun acts => by rw [doInvoke_state]; exact h⟩
theorem mj_entS (X : Stand p l e R s m args below meth c T locs cells slots) (hexec : p.tables.exec = Jvm.exec) {own : String} {index : Nat} {y : MethodName} {bytes : ByteArray} {maxL : Nat} {ret : Option FieldType} {hh : List (Nat × Nat × Nat × Nat)}
    (hown : s.vm.findClass own = some m.cls) (hlink : (Cond.methodLink own index y).before args s = true) (hstat : (Cond.static y).before args s = true) (hinit : (Cond.initialized y.cls).before args s = true)
    (hcode : (Cond.codeWith y bytes maxL ret hh).before args s = true) (hy : y.cls ≠ "java/lang/invoke/MethodHandle" ∧ y.cls ≠ "java/lang/invoke/VarHandle")
    {g : JFrame} (hg : g.method = m) {argsL rest : List Value} (hlen : ∀ sig, parseMethodDescriptor y.desc = some sig → argsL.length = sig.parameters.length)
    (hstack : g.stack = argsL.reverse ++ rest) (hdg : decode c.code g.pc = .ok (.invokestatic index, 3)) : mj_Ent p l e R s m args below meth c T locs cells slots y g rest argsL.toArray := by
  obtain ⟨mk, methM, cM, hnamed, hmethM, -, -, -, -, -, -, hsigM⟩ := Cond.codeWith_spec hcode
  have hstatic : methM.isStatic = true := Cond.static_spec hnamed hmethM hstat
  obtain ⟨kP, hkP, -⟩ := className_of_methodNamed hnamed
  have hinitP : kP.init = .initialized := Cond.initialized_spec (findClass_of_methodNamed hnamed) hkP hinit
  obtain ⟨vm₁, X₁, hstep₁⟩ := X.invokestatic hexec hown hlink hnamed hmethM hstatic hkP hinitP hy (g := g) hg (argsL := argsL) (rest := rest) (hlen _ hsigM) hstack hdg
  exact ⟨vm₁, mk, X₁, hnamed, fun target h => hstep₁ _ fun acts => by rw [doInvoke_state]; exact h⟩
theorem mj_entI (X : Stand p l e R s m args below meth c T locs cells slots) (hexec : p.tables.exec = Jvm.exec) {own : String} {index : Nat} {y : MethodName} {bytes : ByteArray} {maxL : Nat}
    (hown : s.vm.findClass own = some m.cls) (hy1 : y.name = "<init>") (hlink : (Cond.methodLink own index y).before args s = true) (hinst : (Cond.instanceMethod y).before args s = true)
    (hcode : (Cond.code y bytes maxL none).before args s = true) (hy : y.cls ≠ "java/lang/invoke/MethodHandle" ∧ y.cls ≠ "java/lang/invoke/VarHandle")
    {g : JFrame} (hg : g.method = m) {a : Addr} {argsL rest : List Value} (hlen : ∀ sig, parseMethodDescriptor y.desc = some sig → argsL.length = sig.parameters.length)
    (hstack : g.stack = argsL.reverse ++ .ref a :: rest) (hdg : decode c.code g.pc = .ok (.invokespecial index, 3)) : mj_Ent p l e R s m args below meth c T locs cells slots y g rest (Value.ref a :: argsL).toArray := by
  subst hg
  have hpl : e.platform.magicAccessors = ({} : Platform).magicAccessors := by rw [X.admits.platform]
  obtain ⟨mk, methM, cM, kP, vm₁, hnamed, hmethM, hcodeM, -, hlocalsM, -, hkP, -, hW₁, hstep₁⟩ := Steps.initColdArgs (e := e) X.here hexec X.warmed hpl hown hy1 hy hlink hinst hcode (f := g) rfl hlen hstack hdg
  exact ⟨vm₁, mk, X.noted hW₁, hnamed, fun target h => hstep₁ _ fun acts => by rw [doInvoke_state]; exact h⟩
theorem mj_entSN (X : Stand p l e R s m args below meth c T locs cells slots) (hexec : p.tables.exec = Jvm.exec) {own : String} {index : Nat} {host : String} {y : MethodName} {bytes : ByteArray} {maxL : Nat} {ret : Option FieldType} {hh : List (Nat × Nat × Nat × Nat)}
    (hown : s.vm.findClass own = some m.cls) (hlink : (Cond.methodLinkNest own index y host).before args s = true) (hstat : (Cond.static y).before args s = true) (hinit : (Cond.initialized y.cls).before args s = true)
    (hcode : (Cond.codeWith y bytes maxL ret hh).before args s = true) (hy : y.cls ≠ "java/lang/invoke/MethodHandle" ∧ y.cls ≠ "java/lang/invoke/VarHandle")
    {g : JFrame} (hg : g.method = m) {argsL rest : List Value} (hlen : ∀ sig, parseMethodDescriptor y.desc = some sig → argsL.length = sig.parameters.length)
    (hstack : g.stack = argsL.reverse ++ rest) (hdg : decode c.code g.pc = .ok (.invokestatic index, 3)) : mj_Ent p l e R s m args below meth c T locs cells slots y g rest argsL.toArray := by
  obtain ⟨mk, methM, cM, hnamed, hmethM, -, -, -, -, -, -, hsigM⟩ := Cond.codeWith_spec hcode
  have hstatic : methM.isStatic = true := Cond.static_spec hnamed hmethM hstat
  obtain ⟨kP, hkP, -⟩ := className_of_methodNamed hnamed
  have hinitP : kP.init = .initialized := Cond.initialized_spec (findClass_of_methodNamed hnamed) hkP hinit
  obtain ⟨vm₁, X₁, hstep₁⟩ := X.invokestaticNest hexec hown hlink hnamed hmethM hstatic hkP hinitP hy (g := g) hg (argsL := argsL) (rest := rest) (hlen _ hsigM) hstack hdg
  exact ⟨vm₁, mk, X₁, hnamed, fun target h => hstep₁ _ fun acts => by rw [doInvoke_state]; exact h⟩
end MJE
end
section
/-! WHAT IS THROWN: caught by a handler of the frame's own; made and thrown by 'new E(text); athrow' -/
section MJT
variable {p : Program} {l : Launch} {e : Env} {R : Room} {s : State} {m : MethodId} {args : Array Value} {below : List Frame} {meth : Method} {c : Code} {T : State} {locs : List Loc} {cells slots : Nat}
/-- the same walk, told from the heap as it is now -/
theorem mj_rebase (X : Stand p l e R s m args below meth c T locs cells slots) {R' : Room} (h1 : R'.frames = R.frames) (h2 : R'.locals = R.locals) (h3 : cells + R'.cells ≤ R.cells) (h4 : slots + R'.slots ≤ R.slots) :
    Stand p l e R' ({ s with heap := T.heap, slotsUsed := T.slotsUsed } : State) m args below meth c T [] 0 0 := by
  have hh := X.same
  have hT := hh.1
  have hsz := X.heapSize
  have hus := X.used
  have hbk := X.book
  have hroom := X.room
  refine ⟨X.admits, X.cas, X.clock, X.frames, ?_, X.hears, X.method, X.code, X.here, X.tail, X.warmed, X.limits, X.bytes, ?_⟩
  · simp only [State.hasRoom, Bool.and_eq_true, decide_eq_true_eq] at hroom ⊢
    obtain ⟨⟨⟨⟨a1, a2⟩, a3⟩, a4⟩, a5⟩ := hroom
    refine ⟨⟨⟨⟨?_, ?_⟩, ?_⟩, ?_⟩, ?_⟩
    · rw [h2]; exact a1
    · rw [h1, h2]; exact a2
    · show T.heap.size + R'.cells ≤ _
      omega
    · show T.slotsUsed + R'.slots ≤ _
      omega
    · exact hbk
  · refine ⟨?_, Nat.le_refl _, Nat.le_refl _, ?_, ?_, ?_⟩
    · exact hT
    · show T.slotsUsed = T.slotsUsed + ((T.heap.toList.drop T.heap.size).map (·.slots.size)).sum
      rw [List.drop_eq_nil_of_le (by simp)]
      rfl
    · show ((T.heap.toList.drop T.heap.size).map (·.slots.size)).sum ≤ 0
      rw [List.drop_eq_nil_of_le (by simp)]
      exact Nat.le_refl _
    · intro a c hc
      exact ⟨c, hc, rfl, rfl, fun _ _ => rfl⟩
theorem mj_stepCatch {S : State} {f : JFrame} {r : List Frame} {a : Addr} {pc : Nat} {vm' : Vm} (hfind : ∀ (Q : Handler → Pre) (E : CtlPost) (d : Bool) (acts : List Action), wp (findHandler f a) Q E e d acts S ↔ Q (.found pc) d acts (S.setVm vm')) :
    (stepThrowing e S a (.java f :: r)).1 = (S.setVm vm').setFrames (.java { f with pc := pc, stack := [.ref a] } :: r) := by
  simp only [stepThrowing, searchFrame, vmDo]
  generalize hr : Sem.go _ e false [] S = res
  obtain ⟨as, rfl, ha⟩ := Sem.eq_ok_of hr (a := Handler.found pc) (s' := S.setVm vm') (acts' := []) (by simp [hfind _ _ _ _])
  rfl
/-- a handler that takes it: its class's entry links -/
theorem mj_caught1 {g : JFrame} {a : Addr} {x : ExceptionTableEntry} {own nm : String} (X : Stand p l e R s m args below meth c T locs cells slots) (hg : g.method = m) (htab : c.exceptionTable.toList = [x]) (hx : covers x g.pc = true) (h0 : x.catchType ≠ 0)
    (hown : s.vm.findClass own = some m.cls) (hlink : (Cond.classLink own x.catchType nm).before args s = true) {cell : Cell} (hcell : T.heap[a]? = some cell) (hobj : cell.vm.isStatics = false) {cN : ClassId} (hN : s.vm.findClass nm = some cN) (hcls : s.vm.assignable cell.cls cN = true) :
    ∃ vm', Stand p l e R s m args below meth c (T.setVm vm') locs cells slots ∧ ∀ target, Steps p.tables e below ((T.setVm vm').setTop { g with pc := x.handlerPc, stack := [.ref a] }) target → Steps p.tables e below ((T.setTop g).pushFrame (.throwing a)) target := by
  have hpl : e.platform.magicAccessors = ({} : Platform).magicAccessors := by rw [X.admits.platform]
  obtain ⟨cN', hN', hl⟩ := Cond.classLink_spec hown hlink e.platform hpl
  cases hN.symm.trans hN'
  obtain ⟨hgv, hwm, hrd⟩ := State.classEntry (e := e) X.warmed hl
  generalize hvm : T.vm.noted m.cls x.catchType (.cls cN) = vm' at hgv hwm hrd
  refine ⟨vm', X.noted hwm, fun target hrest => ?_⟩
  have h : At T g.method c below := by rw [hg]; exact X.here
  obtain ⟨hgo, hw⟩ := h.throwing a
  refine Steps.head hgo hw ?_
  rw [stepThread_throwing (frames_entered h.top _)]
  have hsz : vm'.classes.size ≤ ((T.setTop g).pushFrame (.throwing a)).vm.classes.size := by
    have h1 := hwm.alike.2.1
    have h2 := X.warmed.alike.2.1
    show vm'.classes.size ≤ T.vm.classes.size
    omega
  have hgv : (Jvm.resolveClass m.cls x.catchType).Gives e.toSetting ((T.setTop g).pushFrame (.throwing a)).vm (.ok cN) vm' := hgv
  have hcell : ((T.setTop g).pushFrame (.throwing a)).heap[a]? = some cell := hcell
  have hal : s.vm.Alike vm' := hwm.alike
  have hfind : ∀ (Q : Handler → Pre) (E : CtlPost) (d : Bool) (acts : List Action), wp (findHandler g a) Q E e d acts ((T.setTop g).pushFrame (.throwing a)) ↔ Q (.found x.handlerPc) d acts (((T.setTop g).pushFrame (.throwing a)).setVm vm') := by
    intro Q E d acts
    rw [W.findHandler_eq (s := (T.setTop g).pushFrame (.throwing a)) (meth := meth) (code := c) (by rw [hg]; exact X.method') X.code, htab]
    obtain ⟨ha, ht⟩ := hgv.op (op := VmOp.resolveClass m.cls x.catchType) rfl
    have hfit : vm'.assignable cell.cls cN = true := by rw [hal.assignable]; exact hcls
    have hk2 := Vm.classAt_of_findClass (vm := vm') (name := nm) (c := cN) (by rw [hal.findClass]; exact hN)
    have hk1 := Vm.classAt_of_assignable hfit hk2
    have hobj' := VmData.ne_statics_of hobj
    simp only [covers] at hx
    simp [findHandler.go, hx, h0, hg, ha, ht, hsz, hcell, hobj', hk1, hk2, hfit, VmOp.dirties, VmOp.acts]
  rw [mj_stepCatch hfind]
  obtain ⟨g₀, hg0⟩ := Option.isSome_iff_exists.mp h.top
  obtain ⟨r, hr⟩ := State.topJava?_eq_some.mp hg0
  rw [State.setTop_of_frames _ (show (T.setVm vm').frames = .java g₀ :: r from hr)] at hrest
  rw [State.pushFrame, State.setTop_of_frames _ hr, State.setFrames_setFrames, State.setFrames_setVm, State.setFrames_setFrames, hr]
  exact hrest
end MJT
end
section
/-! WORDS THAT HOLD AT THE START HOLD LATER: the tables are warmer, no old cell has changed -/
/-- since the start s0: the tables warmer, every old cell as it was -/
def mj_Cst (s0 U : State) : Prop := s0.WarmedH U.vm ∧ s0.heap.size ≤ U.heap.size ∧ ∀ q : Nat, q < s0.heap.size → U.heap[q]? = s0.heap[q]?
theorem mj_Cst.at {s0 U : State} (h : mj_Cst s0 U) {q : Nat} {cell : Cell} (hc : s0.heap[q]? = some cell) : U.heap[q]? = some cell := by
  rw [h.2.2 q (Array.getElem?_eq_some_iff.mp hc).1]; exact hc
theorem mj_keepG {s0 U : State} {A A' : Array Value} {w : Cond} (h : mj_Cst s0 U) (hw : goodWord w = true) (hb : w.before A s0 = true) : w.before A' U = true := word_at h.1 (good_of_word hw) hb
theorem mj_keepT {s0 U : State} {A A' : Array Value} {w : Cond} (h : mj_Cst s0 U) (hw : w.keepsFace = true) (ht : w.onTables = true) (hb : w.before A s0 = true) : w.before A' U = true := by
  have h1 : w.before A (s0.setVm U.vm) = true := Cond.before_shiftedFace (State.Shifted.of_warmed h.1) _ hw hb
  exact va_tabs ht (rfl : (s0.setVm U.vm).vm = U.vm) h1
theorem mj_keepN {s0 U : State} {A A' : Array Value} {a : String} {i : Nat} {x : MethodName} {ho : String} (h : mj_Cst s0 U) (hb : (Cond.methodLinkNest a i x ho).before A s0 = true) : (Cond.methodLinkNest a i x ho).before A' U = true :=
  va_Nw.use rfl (va_Nw.warmM h.1 (va_Nw.of rfl hb))
theorem mj_keepL {s0 U : State} {A A' : Array Value} {o n d : String} (h : mj_Cst s0 U) (hb : (Cond.laysStatic o n d).before A s0 = true) : (Cond.laysStatic o n d).before A' U = true := by
  obtain ⟨c, k, i, f, a, cell, h1, h2, h3, h4, h5, h6, h7, h8, h9⟩ := Cond.laysStatic_spec hb
  obtain ⟨k', hi', he⟩ := State.fieldFound?_setVm h.1.alike h2
  have e1 : U.vm.findClass o = some c := by rw [h.1.alike.findClass]; exact h1
  have e4 : k'.statics = some a := by rw [he]; exact h4
  have e9 : k'.staticTypes[f.slot]? = some f.type := by rw [he]; exact h9
  have hi' : U.fieldFound? o n d = some (c, k', i, f) := hi'
  simp only [Cond.before, Cond.holds, Cond.value, e1, hi', e4, h.at h5, h3, h6, h7, h8, e9]
  simp
  exact ⟨cell, h.at h5, ⟨h6, h7⟩, h8⟩
theorem mj_keepR {s0 U : State} {A A' : Array Value} {o n d : String} (h : mj_Cst s0 U) (hl : (Cond.laysStatic o n d).before A s0 = true) (hb : (Cond.isRef (.static o n d)).before A s0 = true) : (Cond.isRef (.static o n d)).before A' U = true := by
  obtain ⟨c, k, i, f, a, cell, h1, h2, h3, h4, h5, h6, h7, h8, h9⟩ := Cond.laysStatic_spec hl
  obtain ⟨k', hi', he⟩ := State.fieldFound?_setVm h.1.alike h2
  have e4 : k'.statics = some a := by rw [he]; exact h4
  have hi' : U.fieldFound? o n d = some (c, k', i, f) := hi'
  have ev : (Term.static o n d).eval A' U none [] U = (Term.static o n d).eval A s0 none [] s0 := by
    simp [Term.eval, State.fieldNamed?, hi', h2, h3, e4, h4, h.at h5, h5]
  simp only [Cond.before, Cond.holds, Cond.value] at hb ⊢
  rw [ev]
  exact hb
end
section
/-! 'new E; dup; ldc text; invokespecial E.<init>(String); athrow', in a method without handlers there -/
/-- all words of a throw hold at the start -/
def mj_Thr (A : Array Value) (s0 : State) (own : String) (ic : Nat) (cls : String) (names : List String) : Prop :=
  (∀ w ∈ Bundle.ownAtoms own ic cls names, w.before A s0 = true ∧ (goodWord w = true ∨ (w.keepsFace = true ∧ w.onTables = true) ∨ (∃ o n d, w = .laysStatic o n d) ∨ ∃ o n d, w = .isRef (.static o n d) ∧ (Cond.laysStatic o n d).before A s0 = true))
theorem mj_Thr.at {A A' : Array Value} {s0 U : State} {own : String} {ic : Nat} {cls : String} {names : List String} (h : mj_Thr A s0 own ic cls names) (hC : mj_Cst s0 U) : ∀ w ∈ Bundle.ownAtoms own ic cls names, w.before A' U = true := by
  intro w hw
  obtain ⟨hb, h1 | ⟨h1, h2⟩ | ⟨o, n, d, rfl⟩ | ⟨o, n, d, rfl, h1⟩⟩ := h w hw
  · exact mj_keepG hC h1 hb
  · exact mj_keepT hC h1 h2 hb
  · exact mj_keepL hC hb
  · exact mj_keepR hC h1 hb
section MJW
variable {p : Program} {l : Launch} {e : Env} {R : Room} {s s0 : State} {m : MethodId} {args : Array Value} {below : List Frame} {meth : Method} {c : Code} {T : State} {locs : List Loc} {cells slots : Nat}
set_option maxHeartbeats 1000000 in
theorem mj_throw (X : Stand p l e R s m args below meth c T locs cells slots) (hexec : p.tables.exec = Jvm.exec) (htr : e.platform.stackTraces = false) {A : Array Value} {own cls : String} {names : List String} {ic iN iL : Nat} {tx : String} {q0 : Nat}
    (hC : mj_Cst s0 s) (hCT : mj_Cst s0 T) (hown : s.vm.findClass own = some m.cls) (hcls : Bundle.fit cls = true) (hnames : ∀ n ∈ names, Bundle.fit n = true) (hth : mj_Thr A s0 own ic cls names)
    (hclink : (Cond.classLink own iN cls).before args s = true) (hins : (Cond.instantiable cls 6).before args s = true) (hinit : (Cond.initialized cls).before args s = true) (hstr : vk_R own iL tx q0 s)
    {pc : Nat} {ls : Array Slot} {rest : List Value} (hsize : ls.size = c.maxLocals)
    (hd0 : decode c.code pc = .ok (.new iN, 3)) (hd3 : decode c.code (pc + 3) = .ok (.dup, 1)) (hd4 : decode c.code (pc + 4) = .ok (.ldc iL, 2)) (hd6 : decode c.code (pc + 6) = .ok (.invokespecial ic, 3)) (hd9 : decode c.code (pc + 9) = .ok (.athrow, 1)) (hout : ∀ x ∈ c.exceptionTable.toList, covers x (pc + 9) = false)
    (hRframes : names.length + 3 < R.frames) (hRlocals : (rest.map fun v => v.category).sum + (13 * (names.length + 1) + 43) ≤ R.locals) (hcells : cells + 1 ≤ R.cells) (hslots : slots + 6 ≤ R.slots) (hlocks : meth.locks = false) :
    ∃ (U : State) (a : Addr) (ce : Cell), Steps p.tables e below (T.setTop (F0 m pc ls rest)) U ∧ U.status = .running ∧ Ended U below (.threw a) ∧ s.WarmedH U.vm ∧ s.sameButNew ({ U with vm := s.vm } : State) locs (cells + 1) (slots + 6) ∧
      T.heap.size ≤ U.heap.size ∧ (∀ q : Nat, q < T.heap.size → U.heap[q]? = T.heap[q]?) ∧ U.heap[a]? = some ce ∧ s.vm.findClass cls = some ce.cls ∧ ce.vm.isStatics = false := by
  have X0 : Stand p l e { frames := R.frames, cells := 1, slots := 6, locals := R.locals } ({ s with heap := T.heap, slotsUsed := T.slotsUsed } : State) m args below meth c T [] 0 0 := mj_rebase X rfl rfl hcells hslots
  generalize hs' : ({ s with heap := T.heap, slotsUsed := T.slotsUsed } : State) = s' at X0
  have hvm' : s'.vm = s.vm := by rw [← hs']
  have hhp' : s'.heap = T.heap := by rw [← hs']
  have hC' : mj_Cst s0 s' := ⟨by rw [hvm']; exact hC.1, by rw [hhp']; exact hCT.2.1, fun q hq => by rw [hhp']; exact hCT.2.2 q hq⟩
  have tb : ∀ {w : Cond}, w.onTables = true → w.before args s = true → w.before args s' = true := fun hw hb => va_tabs hw hvm'.symm hb
  have hown' : s'.vm.findClass own = some m.cls := by rw [hvm']; exact hown
  have K : W p l e { frames := R.frames, cells := 1, slots := 6, locals := R.locals } s' m args below meth c T.heap [] 0 0 (fun U => ∃ (a : Addr) (ce : Cell), U.status = .running ∧ Ended U below (.threw a) ∧ s'.WarmedH U.vm ∧ s'.sameButNew ({ U with vm := s'.vm } : State) [] 1 6 ∧ U.heap[a]? = some ce ∧ s'.vm.findClass cls = some ce.cls ∧ ce.vm.isStatics = false) (F0 m pc ls rest) := by
    refine W.newc hexec rfl hown' (tb rfl hclink) (tb rfl hins) (tb rfl hinit) rfl hd0 (Nat.le_refl _) (Nat.le_refl _) (fun cC kC h1 h2 h3 h4 => ?_)
    refine lv_dup hexec rfl hd3 rfl ?_
    refine va_ldcS hexec rfl hown' (hstr.same hvm') hd4 ?_
    intro T1 hT1 X1
    obtain ⟨U, u1, u2, u3, u4, u5, ce, u6, u7⟩ := X1.ctorThrowS hexec htr (own := own) (cls := cls) (names := names) (ic := ic) hown' hcls hnames (hth.at hC') (fun x hx => by cases hx) (a := T.heap.size) h1 h2
      (by rw [hT1]; simp) (by rw [hhp']; exact Nat.le_refl _) (msg := .ref q0) rfl (g := F0 m (pc + 6) ls (.ref q0 :: .ref T.heap.size :: .ref T.heap.size :: rest)) rfl hsize rfl rfl rfl hd6 hd9 hout hRframes
      (by show 2 * 0 + (1 + (rest.map fun v => v.category).sum) + _ ≤ R.locals; omega) hlocks
    exact ⟨U, u1, T.heap.size, ce, u2, u3, u4, u5, u6, u7.cls, by rw [u7.vm]; rfl⟩
  obtain ⟨U, u1, a, ce, u2, u3, u4, u5, u6, u7, u8⟩ := K T rfl X0
  have hsm : (T.setVm s.vm).sameButNew ({ U with vm := s.vm } : State) [] 1 6 := by
    obtain ⟨e1, e2, e3, e4, e5, e6⟩ := u5
    subst hs'
    refine ⟨?_, e2, e3, e4, e5, e6⟩
    have e7 := X.same.1
    rw [e7]
    refine e1.trans ?_
    simp [State.setFrames]
    exact (congrArg State.threads (State.setFrames_setFrames s T.frames ({ U with vm := s.vm } : State).frames)).symm
  have h9 := X.same.trans hsm
  rw [List.append_nil] at h9
  refine ⟨U, a, ce, u1, u2, u3, by subst hs'; exact u4, h9, ?_, ?_, u6, by rw [← hvm']; exact u7, u8⟩
  · exact hsm.2.1
  · intro q hq
    have hc : (T.setVm s.vm).heap[q]? = some (T.heap[q]) := Array.getElem?_eq_getElem hq
    obtain ⟨c', h1, h2, h3, h4⟩ := hsm.2.2.2.2.2 q _ hc
    have hsl : c'.slots = T.heap[q].slots := by
      apply Array.ext_getElem?
      intro i
      exact h4 i (by simp)
    have hcc : c' = T.heap[q] := by rw [h2, hsl]
    show U.heap[q]? = T.heap[q]?
    rw [Array.getElem?_eq_getElem hq, ← hcc]
    exact h1
end MJW
end
section
/-! THE STORE AND THE HEAP: cell a of the store lies at the address ad a -/
theorem mj_row_ne {α : Type} {f : Nat → Nat → α} {a b : Nat} {g : Nat → α} (h : b ≠ a) : mj_row f a g b = f b := by funext k; simp [mj_row, h]
theorem mj_row_eq {α : Type} {f : Nat → Nat → α} {a : Nat} {g : Nat → α} : mj_row f a g a = g := by funext k; simp [mj_row]
theorem mj_up_ne {α : Type} {f : Nat → Nat → α} {a b j : Nat} {v : α} (h : b ≠ a) : mj_up f a j v b = f b := by funext k; simp [mj_up, h]
theorem mj_up_eq {f : Nat → Nat → Int32} {a j : Nat} {v : Int32} : mj_up f a j v a = upd (f a) j v := by funext k; simp [mj_up, upd]
theorem mj_up_eqL {f : Nat → Nat → Int64} {a j : Nat} {v : Int64} : mj_up f a j v a = vp_updL (f a) j v := by funext k; simp [mj_up, vp_updL]
def mj_tr (ad : Nat → Nat) : Value → Value
  | .ref a => .ref (ad a)
  | v => v
theorem mj_tr_cat (ad : Nat → Nat) (v : Value) : (mj_tr ad v).category = v.category := by cases v <;> rfl
def mj_fv (ad : Nat → Nat) (S : mj_S) (a j t : Nat) : Value := match t with
  | 2 => match S.2.2.2.1 a j with
    | some q => .ref (ad q)
    | none => .null
  | _ => .int (S.2.1 a j)
def mj_ent (ft : Nat → Nat → Nat) (ka : Nat → ClassId) (ad : Nat → Nat) (S : mj_S) (a : Nat) (kn : Nat × Nat) : va_E :=
  if kn.1 < 1000 then .inr (kn.1, (List.range kn.2).map fun j => mj_fv ad S a j (ft kn.1 j))
  else .inl (ka (kn.1 - 1000), kn.2, if kn.1 = 1001 then .inr (.inl (S.2.2.1 a)) else .inl (S.2.1 a))
def mj_ws (ft : Nat → Nat → Nat) (ka : Nat → ClassId) (ad : Nat → Nat) (S : mj_S) : va_W := (List.range S.1.length).map fun a => (ad a, mj_ent ft ka ad S a (S.1.getD a (0, 0)))
/-- references name cells that are there, or constants -/
def mj_wr (n q : Nat) : Prop := q < n ∨ 900000 ≤ q
def mj_wv (n : Nat) : Value → Prop
  | .ref q => mj_wr n q
  | _ => True
def mj_wS (S : mj_S) : Prop := (S.1.length < 900000 ∧ S.1.length ≤ S.2.2.2.2.1 ∧ S.2.2.2.2.1 ≤ 601024 ∧ S.2.2.2.2.2 ≤ 7293034) ∧ ∀ a j q, S.2.2.2.1 a j = some q → mj_wr S.1.length q
def mj_wL (n : Nat) (lv : mj_LV) : Prop := ∀ i v, lv.getD i none = some v → mj_wv n v
def mj_wT (n : Nat) (st : List Value) : Prop := ∀ v ∈ st, mj_wv n v
section MJWS
variable {ft : Nat → Nat → Nat} {ka : Nat → ClassId} {ad : Nat → Nat} {S : mj_S}
theorem mj_ws_at {a : Nat} {kn : Nat × Nat} (h : S.1[a]? = some kn) : (mj_ws ft ka ad S)[a]? = some (ad a, mj_ent ft ka ad S a kn) := by
  have hl := (List.getElem?_eq_some_iff.mp h).1
  unfold mj_ws
  rw [List.getElem?_map, List.getElem?_range hl]
  simp only [Option.map_some, List.getD_eq_getElem?_getD, h, Option.getD_some]
theorem mj_ws_len : (mj_ws ft ka ad S).length = S.1.length := by simp [mj_ws]
/-- two stores of the same kinds, told apart at one cell -/
theorem mj_ws_set {S' : mj_S} {a : Nat} {kn : Nat × Nat} (h : S.1[a]? = some kn) (hs : S'.1 = S.1) (ho : ∀ b, b ≠ a → S'.2.1 b = S.2.1 b ∧ S'.2.2.1 b = S.2.2.1 b ∧ S'.2.2.2.1 b = S.2.2.2.1 b) :
    mj_ws ft ka ad S' = (mj_ws ft ka ad S).set a (ad a, mj_ent ft ka ad S' a kn) := by
  apply List.ext_getElem?
  intro b
  have hl := (List.getElem?_eq_some_iff.mp h).1
  by_cases hb : b = a
  · subst hb
    rw [mj_ws_at (by rw [hs]; exact h), List.getElem?_set_self (by rw [mj_ws_len]; exact hl)]
  · rw [List.getElem?_set_ne (Ne.symm hb)]
    cases hk : S.1[b]? with
    | none =>
      have h1 : S.1.length ≤ b := List.getElem?_eq_none_iff.mp hk
      rw [List.getElem?_eq_none_iff.mpr (by rw [mj_ws_len, hs]; exact h1), List.getElem?_eq_none_iff.mpr (by rw [mj_ws_len]; exact h1)]
    | some kb =>
      rw [mj_ws_at (by rw [hs]; exact hk), mj_ws_at hk]
      obtain ⟨e1, e2, e3⟩ := ho b hb
      simp only [mj_ent, mj_fv, e1, e2, e3]
/-- the addresses of cells that are there alone matter -/
theorem mj_ws_ad {ad' : Nat → Nat} (hw : mj_wS S) (h : ∀ q, mj_wr S.1.length q → ad' q = ad q) : mj_ws ft ka ad' S = mj_ws ft ka ad S := by
  apply List.ext_getElem?
  intro b
  cases hk : S.1[b]? with
  | none =>
    have h1 : S.1.length ≤ b := List.getElem?_eq_none_iff.mp hk
    rw [List.getElem?_eq_none_iff.mpr (by rw [mj_ws_len]; exact h1), List.getElem?_eq_none_iff.mpr (by rw [mj_ws_len]; exact h1)]
  | some kb =>
    have hl := (List.getElem?_eq_some_iff.mp hk).1
    have key : ∀ j t, mj_fv ad' S b j t = mj_fv ad S b j t := by
      intro j t
      unfold mj_fv
      split
      · split
        · rename_i q hq
          rw [h q (hw.2 _ _ _ hq)]
        · rfl
      · rfl
    rw [mj_ws_at hk, mj_ws_at hk, h b (Or.inl hl)]
    simp only [mj_ent, key]
/-- a new cell -/
theorem mj_ws_new {k n q : Nat} (hw : mj_wS S) (hn : S.2.2.2.2.1 + 1 ≤ 601024 ∧ S.2.2.2.2.2 + n ≤ 7293034) :
    let S' : mj_S := (S.1 ++ [(k, n)], mj_row S.2.1 S.1.length (fun _ => 0), mj_row S.2.2.1 S.1.length (fun _ => 0), mj_row S.2.2.2.1 S.1.length (fun _ => none), S.2.2.2.2.1 + 1, S.2.2.2.2.2 + n)
    let ad' : Nat → Nat := fun i => if i = S.1.length then q else ad i
    mj_ws ft ka ad' S' = mj_ws ft ka ad S ++ [(q, mj_ent ft ka ad' S' S.1.length (k, n))] ∧ mj_wS S' ∧ ∀ i, mj_wr S.1.length i → ad' i = ad i := by
  intro S' ad'
  have hlen : S'.1.length = S.1.length + 1 := by simp [S']
  have had : ∀ i, mj_wr S.1.length i → ad' i = ad i := by
    intro i hi
    have : i ≠ S.1.length := by rcases hi with h | h <;> have := hw.1.1 <;> omega
    simp only [ad', if_neg this]
  refine ⟨?_, ⟨⟨by rw [hlen]; have := hw.1.2.1; omega, by rw [hlen]; have := hw.1.2.1; show S.1.length + 1 ≤ S.2.2.2.2.1 + 1; omega, hn.1, hn.2⟩, ?_⟩, had⟩
  · apply List.ext_getElem?
    intro b
    by_cases hb : b < S.1.length
    · rw [List.getElem?_append_left (by rw [mj_ws_len]; exact hb)]
      have hk : S.1[b]? = some S.1[b] := List.getElem?_eq_getElem hb
      have hk' : S'.1[b]? = some S.1[b] := by simp only [S', List.getElem?_append_left hb]; exact hk
      rw [mj_ws_at hk', mj_ws_at hk, had b (Or.inl hb)]
      have hne : b ≠ S.1.length := by omega
      have key : ∀ j t, mj_fv ad' S' b j t = mj_fv ad S b j t := by
        intro j t
        simp only [mj_fv, S', mj_row, if_neg hne]
        split
        · split
          · rename_i q hq
            rw [had q (hw.2 _ _ _ hq)]
          · rfl
        · rfl
      simp only [mj_ent, key]
      simp only [S', mj_row_ne hne]
    · by_cases hb2 : b = S.1.length
      · subst hb2
        have hk' : S'.1[S.1.length]? = some (k, n) := by simp [S']
        rw [mj_ws_at hk', List.getElem?_append_right (by rw [mj_ws_len]; exact Nat.le_refl _), mj_ws_len, Nat.sub_self]
        simp [ad']
      · rw [List.getElem?_eq_none_iff.mpr (by rw [mj_ws_len, hlen]; omega), List.getElem?_eq_none_iff.mpr (by simp [mj_ws_len]; omega)]
  · intro a j q hq
    simp only [S', mj_row] at hq
    split at hq
    · cases hq
    · rcases hw.2 _ _ _ hq with h | h
      · exact Or.inl (by rw [hlen]; omega)
      · exact Or.inr h
end MJWS
end
section
/-! THE LOCALS -/
def mj_lr (ad : Nat → Nat) (nL : Nat) (lv : mj_LV) (ls : Array Slot) : Prop := ls.size = nL ∧ lv_wf ls ∧ ∀ i v, lv.getD i none = some v → ls[i]? = some (.val (mj_tr ad v))
def mj_ps (ad : Nat → Nat) (lv : mj_LV) : List (Nat × Value) := (List.range lv.length).filterMap fun i => (lv.getD i none).map fun v => (i, mj_tr ad v)
theorem mj_getD_lt {lv : mj_LV} {i : Nat} {v : Value} (h : lv.getD i none = some v) : i < lv.length := by
  by_cases hl : i < lv.length
  · exact hl
  · rw [List.getD_eq_getElem?_getD, List.getElem?_eq_none_iff.mpr (by omega)] at h
    cases h
theorem mj_ps_mem {ad : Nat → Nat} {lv : mj_LV} {q : Nat × Value} : q ∈ mj_ps ad lv ↔ ∃ v, lv.getD q.1 none = some v ∧ q.2 = mj_tr ad v := by
  unfold mj_ps
  rw [List.mem_filterMap]
  constructor
  · rintro ⟨i, -, h⟩
    obtain ⟨v, h1, h2⟩ := Option.map_eq_some_iff.mp h
    subst h2
    exact ⟨v, h1, rfl⟩
  · rintro ⟨v, h1, h2⟩
    refine ⟨q.1, List.mem_range.mpr (mj_getD_lt h1), ?_⟩
    rw [h1]
    simp [← h2]
theorem mj_lr.has {ad : Nat → Nat} {nL : Nat} {lv : mj_LV} {ls : Array Slot} (h : mj_lr ad nL lv ls) : lv_has ls nL (mj_ps ad lv) := by
  refine ⟨h.1, h.2.1, fun q hq => ?_⟩
  obtain ⟨v, h1, h2⟩ := mj_ps_mem.mp hq
  rw [h2]
  exact h.2.2 _ _ h1
theorem mj_set_get {lv : mj_LV} {i j : Nat} {x : Option Value} {w : Value} (h : (lv.set i x).getD j none = some w) : (j = i ∧ x = some w) ∨ (j ≠ i ∧ lv.getD j none = some w) := by
  rw [List.getD_eq_getElem?_getD] at h
  by_cases hj : j = i
  · subst hj
    by_cases hl : j < lv.length
    · rw [List.getElem?_set_self hl] at h
      exact Or.inl ⟨rfl, h⟩
    · rw [List.getElem?_eq_none_iff.mpr (by simp; omega)] at h
      cases h
  · rw [List.getElem?_set_ne (Ne.symm hj)] at h
    exact Or.inr ⟨hj, by rw [List.getD_eq_getElem?_getD]; exact h⟩
theorem mj_c2_cat {w : Value} (h : w.category = 2) : mj_c2 (some w) = true := by cases w <;> simp_all [Value.category, mj_c2]
theorem mj_st_get {lv : mj_LV} {i j : Nat} {v w : Value} (h : (mj_st lv i v).getD j none = some w) : (j = i ∧ w = v) ∨ (j ≠ i ∧ lv.getD j none = some w ∧ ¬ (j + 1 = i ∧ w.category = 2)) := by
  unfold mj_st at h
  split at h
  · rcases mj_set_get h with ⟨h1, h2⟩ | ⟨h1, h2⟩
    · cases h2; exact Or.inl ⟨h1, rfl⟩
    · exact Or.inr ⟨h1, h2, fun q => by omega⟩
  · rename_i k
    split at h
    · rcases mj_set_get h with ⟨h1, h2⟩ | ⟨h1, h2⟩
      · cases h2; exact Or.inl ⟨h1, rfl⟩
      · rcases mj_set_get h2 with ⟨h3, h4⟩ | ⟨h3, h4⟩
        · cases h4
        · exact Or.inr ⟨h1, h4, fun q => by omega⟩
    · rename_i hc
      rcases mj_set_get h with ⟨h1, h2⟩ | ⟨h1, h2⟩
      · cases h2; exact Or.inl ⟨h1, rfl⟩
      · refine Or.inr ⟨h1, h2, fun q => hc ?_⟩
        have : j = k := by omega
        subst this
        rw [h2]
        exact mj_c2_cat q.2
theorem mj_lr.store1 {ad : Nat → Nat} {nL : Nat} {lv : mj_LV} {ls' : Array Slot} {i : Nat} {v : Value} (h : lv_has ls' nL ((i, mj_tr ad v) :: (mj_ps ad lv).filter (fun q => !(q.1 == i) && !(q.1 + 1 == i && q.2.category == 2)))) : mj_lr ad nL (mj_st lv i v) ls' := by
  refine ⟨h.1, h.2.1, fun j w hj => ?_⟩
  rcases mj_st_get hj with ⟨h1, h2⟩ | ⟨h1, h2, h3⟩
  · subst h1; subst h2
    exact h.2.2 _ List.mem_cons_self
  · refine h.2.2 (j, mj_tr ad w) (List.mem_cons_of_mem _ (List.mem_filter.mpr ⟨mj_ps_mem.mpr ⟨w, h2, rfl⟩, ?_⟩))
    simp only [Bool.and_eq_true, Bool.not_eq_true', beq_eq_false_iff_ne, ne_eq, Bool.and_eq_false_iff, mj_tr_cat]
    refine ⟨h1, ?_⟩
    by_cases hq : j + 1 = i
    · exact Or.inr (fun q => h3 ⟨hq, q⟩)
    · exact Or.inl hq
theorem mj_lr.store2 {ad : Nat → Nat} {nL : Nat} {lv : mj_LV} {ls' : Array Slot} {i : Nat} {v : Int64} (h : lv_has ls' nL ((i, .long v) :: (mj_ps ad lv).filter (fun q => !(q.1 == i) && (!(q.1 == i + 1) && !(q.1 + 1 == i && q.2.category == 2))))) : mj_lr ad nL (mj_st2 lv i v) ls' := by
  refine ⟨h.1, h.2.1, fun j w hj => ?_⟩
  unfold mj_st2 at hj
  rcases mj_set_get hj with ⟨-, h2⟩ | ⟨h0, h2⟩
  · cases h2
  · rcases mj_st_get h2 with ⟨h1, h4⟩ | ⟨h1, h2, h3⟩
    · subst h1
      rw [h4]
      exact h.2.2 (j, .long v) List.mem_cons_self
    · refine h.2.2 (j, mj_tr ad w) (List.mem_cons_of_mem _ (List.mem_filter.mpr ⟨mj_ps_mem.mpr ⟨w, h2, rfl⟩, ?_⟩))
      simp only [Bool.and_eq_true, Bool.not_eq_true', beq_eq_false_iff_ne, ne_eq, Bool.and_eq_false_iff, mj_tr_cat]
      refine ⟨h1, h0, ?_⟩
      by_cases hq : j + 1 = i
      · exact Or.inr (fun q => h3 ⟨hq, q⟩)
      · exact Or.inl hq
theorem mj_lr.less {ad : Nat → Nat} {nL : Nat} {lv lv' : mj_LV} {ls : Array Slot} (h : mj_lr ad nL lv ls) (hl : ∀ i v, lv'.getD i none = some v → lv.getD i none = some v) : mj_lr ad nL lv' ls := ⟨h.1, h.2.1, fun i v q => h.2.2 i v (hl i v q)⟩
theorem mj_lr.ad {ad ad' : Nat → Nat} {nL n : Nat} {lv : mj_LV} {ls : Array Slot} (h : mj_lr ad nL lv ls) (hw : mj_wL n lv) (ha : ∀ q, mj_wr n q → ad' q = ad q) : mj_lr ad' nL lv ls := by
  refine ⟨h.1, h.2.1, fun i v q => ?_⟩
  rw [h.2.2 i v q]
  have := hw i v q
  cases v <;> simp_all [mj_tr, mj_wv]
theorem mj_mk_get : ∀ (mk : List Bool) (lv : mj_LV) (i : Nat) (v : Value), (mj_mk mk lv).getD i none = some v → lv.getD i none = some v
  | [], _, i, v, h => by simp [mj_mk] at h
  | _ :: _, [], i, v, h => by simp [mj_mk] at h
  | b :: bs, x :: xs, 0, v, h => by
    simp only [mj_mk, List.getD_cons_zero] at h ⊢
    split at h
    · exact h
    · cases h
  | b :: bs, x :: xs, i + 1, v, h => by
    simp only [mj_mk, List.getD_cons_succ] at h ⊢
    exact mj_mk_get bs xs i v h
theorem mj_wL.less {n : Nat} {lv lv' : mj_LV} (h : mj_wL n lv) (hl : ∀ i v, lv'.getD i none = some v → lv.getD i none = some v) : mj_wL n lv' := fun i v q => h i v (hl i v q)
theorem mj_wL.store {n : Nat} {lv : mj_LV} {i : Nat} {v : Value} (h : mj_wL n lv) (hv : mj_wv n v) : mj_wL n (mj_st lv i v) := by
  intro j w hj
  rcases mj_st_get hj with ⟨-, h2⟩ | ⟨-, h2, -⟩
  · rw [h2]; exact hv
  · exact h j w h2
theorem mj_wL.store2 {n : Nat} {lv : mj_LV} {i : Nat} {v : Int64} (h : mj_wL n lv) : mj_wL n (mj_st2 lv i v) := by
  intro j w hj
  unfold mj_st2 at hj
  rcases mj_set_get hj with ⟨-, h2⟩ | ⟨-, h2⟩
  · cases h2
  · exact h.store (v := .long v) trivial j w h2
theorem mj_none_get {lv : mj_LV} {k i : Nat} {v : Value} (h : (lv.set k none).getD i none = some v) : lv.getD i none = some v := by
  rcases mj_set_get h with ⟨-, h2⟩ | ⟨-, h2⟩
  · cases h2
  · exact h2
theorem mj_er_get {lv : mj_LV} {i j : Nat} {v : Value} (h : (mj_er lv i).getD j none = some v) : j ≠ i ∧ lv.getD j none = some v ∧ ¬ (j + 1 = i ∧ v.category = 2) := by
  unfold mj_er at h
  rcases mj_set_get h with ⟨-, h2⟩ | ⟨h0, h2⟩
  · cases h2
  · rcases mj_st_get h2 with ⟨h1, -⟩ | h3
    · exact absurd h1 h0
    · exact h3
/-- the locals with which a method begins -/
theorem mj_en_args (ad : Nat → Nat) : ∀ (as : List Value) (k i : Nat) (v : Value), (mj_en as).getD i none = some v → (k + i, mj_tr ad v) ∈ lv_args k (as.map (mj_tr ad))
  | [], k, i, v, h => by simp [mj_en] at h
  | x :: r, k, i, v, h => by
    have one : ∀ (h1 : mj_en (x :: r) = some x :: mj_en r) (h2 : (mj_tr ad x).category = 1), (k + i, mj_tr ad v) ∈ lv_args k ((x :: r).map (mj_tr ad)) := by
      intro h1 h2
      rw [h1] at h
      simp only [List.map_cons, lv_args, h2, List.mem_cons]
      cases i with
      | zero =>
        simp only [List.getD_cons_zero, Option.some.injEq] at h
        subst h
        exact Or.inl rfl
      | succ i =>
        simp only [List.getD_cons_succ] at h
        exact Or.inr (by rw [show k + (i + 1) = k + 1 + i by omega]; exact mj_en_args ad r (k + 1) i v h)
    have two : ∀ (h1 : mj_en (x :: r) = some x :: none :: mj_en r) (h2 : (mj_tr ad x).category = 2), (k + i, mj_tr ad v) ∈ lv_args k ((x :: r).map (mj_tr ad)) := by
      intro h1 h2
      rw [h1] at h
      simp only [List.map_cons, lv_args, h2, List.mem_cons]
      match i, h with
      | 0, h =>
        simp only [List.getD_cons_zero, Option.some.injEq] at h
        subst h
        exact Or.inl rfl
      | 1, h => simp at h
      | i + 2, h =>
        simp only [List.getD_cons_succ] at h
        exact Or.inr (by rw [show k + (i + 2) = k + 2 + i by omega]; exact mj_en_args ad r (k + 2) i v h)
    cases x with
    | long y => exact two rfl rfl
    | double y => exact two rfl rfl
    | int y => exact one rfl rfl
    | float y => exact one rfl rfl
    | null => exact one rfl rfl
    | ref y => exact one rfl rfl
    | retAddr y => exact one rfl rfl
theorem mj_lr_entry (ad : Nat → Nat) (as : List Value) {n k : Nat} (h : (lg_sl (as.map (mj_tr ad))).length ≤ n) : mj_lr ad n (mj_en as ++ List.replicate k none) ((lg_sl (as.map (mj_tr ad)) ++ List.replicate (n - (lg_sl (as.map (mj_tr ad))).length) Slot.unset).toArray) := by
  have he := lv_entry (as.map (mj_tr ad)) h
  refine ⟨he.1, he.2.1, fun i v hi => ?_⟩
  have : (mj_en as).getD i none = some v := by
    rw [List.getD_eq_getElem?_getD] at hi ⊢
    by_cases hl : i < (mj_en as).length
    · rw [List.getElem?_append_left hl] at hi
      exact hi
    · rw [List.getElem?_append_right (by omega)] at hi
      exfalso
      cases hr : (List.replicate k (none : Option Value))[i - (mj_en as).length]? with
      | none => rw [hr] at hi; cases hi
      | some w =>
        have := List.eq_of_mem_replicate (List.mem_of_getElem? hr)
        rw [hr, this] at hi
        cases hi
  have := mj_en_args ad as 0 i v this
  rw [Nat.zero_add] at this
  exact he.2.2 _ this
theorem mj_wL_entry {n k : Nat} : ∀ {as : List Value}, mj_wT n as → mj_wL n (mj_en as ++ List.replicate k none) := by
  intro as h i v hi
  have key : ∀ (as : List Value), mj_wT n as → ∀ i v, (mj_en as).getD i none = some v → mj_wv n v := by
    intro as
    induction as with
    | nil => intro _ i v h; simp [mj_en] at h
    | cons x r ih =>
      intro hw i v h
      have hx := hw x List.mem_cons_self
      have hr : mj_wT n r := fun y hy => hw y (List.mem_cons_of_mem _ hy)
      cases x <;> simp only [mj_en] at h <;> (match i, h with
        | 0, h => simp only [List.getD_cons_zero, Option.some.injEq] at h; subst h; exact hx
        | 1, h => first | (simp at h; done) | (simp only [List.getD_cons_succ] at h; exact ih hr _ v h)
        | i + 2, h => simp only [List.getD_cons_succ] at h; exact ih hr _ v h)
  refine key as h i v ?_
  rw [List.getD_eq_getElem?_getD] at hi ⊢
  by_cases hl : i < (mj_en as).length
  · rw [List.getElem?_append_left hl] at hi
    exact hi
  · rw [List.getElem?_append_right (by omega)] at hi
    exfalso
    cases hr : (List.replicate k (none : Option Value))[i - (mj_en as).length]? with
    | none => rw [hr] at hi; cases hi
    | some w =>
      have := List.eq_of_mem_replicate (List.mem_of_getElem? hr)
      rw [hr, this] at hi
      cases hi
end
section
/-! GROUND: what holds all through a method's body -/
theorem mj_pI_sp {f : Int32 → List Value → Prop} : ∀ {st : List Value}, mj_pI f st → ∃ x r, st = .int x :: r ∧ f x r
  | .int x :: r, q => ⟨x, r, rfl, q⟩
theorem mj_pL_sp {f : Int64 → List Value → Prop} : ∀ {st : List Value}, mj_pL f st → ∃ x r, st = .long x :: r ∧ f x r
  | .long x :: r, q => ⟨x, r, rfl, q⟩
theorem mj_pR_sp {f : Nat → List Value → Prop} : ∀ {st : List Value}, mj_pR f st → ∃ x r, st = .ref x :: r ∧ f x r
  | .ref x :: r, q => ⟨x, r, rfl, q⟩
theorem mj_pV_sp {f : Value → List Value → Prop} : ∀ {st : List Value}, mj_pV f st → ∃ v r, st = v :: r ∧ v.category = 1 ∧ f v r
  | v :: r, q => ⟨v, r, rfl, q.1, q.2⟩
theorem mj_p0_sp {f : Prop} : ∀ {st : List Value}, mj_p0 f st → st = [] ∧ f
  | [], q => ⟨rfl, q⟩
theorem mj_gI_sp {f : Int32 → Prop} : ∀ {v : Option Value}, mj_gI f v → ∃ x, v = some (.int x) ∧ f x
  | some (.int x), q => ⟨x, rfl, q⟩
theorem mj_gL_sp {f : Int64 → Prop} : ∀ {v : Option Value}, mj_gL f v → ∃ x, v = some (.long x) ∧ f x
  | some (.long x), q => ⟨x, rfl, q⟩
theorem mj_gA_sp {f : Value → Prop} : ∀ {v : Option Value}, mj_gA f v → (∃ x, v = some (.ref x) ∧ f (.ref x)) ∨ (v = some .null ∧ f .null)
  | some (.ref x), q => Or.inl ⟨x, rfl, q⟩
  | some .null, q => Or.inr ⟨rfl, q⟩
theorem mj_tt_sp {f : Prop} : ∀ {b : Bool}, mj_tt f b → b = true ∧ f
  | true, q => ⟨rfl, q⟩
theorem mj_so_sp {α : Type} {f : α → Prop} : ∀ {b : Option α}, mj_so f b → ∃ x, b = some x ∧ f x
  | some x, q => ⟨x, rfl, q⟩
theorem mj_ob_sp {sh : List (Nat × Nat)} {o c b : Nat} (h : mj_ob sh o c b = true) : ∃ n, sh[o]? = some (c, n) ∧ b < n := by
  unfold mj_ob at h
  split at h
  · rename_i k n hk
    rw [Bool.and_eq_true, beq_iff_eq] at h
    exact ⟨n, by rw [hk, h.1], Nat.blt_eq.mp h.2⟩
  · cases h
theorem mj_rc_sp {f : Prop} {sh : List (Nat × Nat)} {c : Nat} : ∀ {as : List Value}, mj_rc f sh c as → ∃ o r n, as = .ref o :: r ∧ sh[o]? = some (c, n) ∧ f
  | .ref o :: r, q => by
    obtain ⟨h1, h2⟩ := mj_tt_sp q
    split at h1
    · rename_i k n hk
      exact ⟨o, r, n, rfl, by rw [hk, beq_iff_eq.mp h1], h2⟩
    · cases h1
theorem mj_ar_sp {sh : List (Nat × Nat)} {o t n : Nat} (h : mj_ar sh o t = some n) : sh[o]? = some (1000 + t, n) := by
  unfold mj_ar at h
  split at h
  · rename_i k n' hk
    split at h
    · rename_i hk2
      cases h
      rw [hk, hk2]
    · cases h
  · cases h
theorem mj_tk_sp : ∀ (n : Nat) (acc st : List Value) (as r : List Value), mj_tk n acc st = some (as, r) → ∃ bs, st = bs ++ r ∧ bs.length = n ∧ as = bs.reverse ++ acc
  | 0, acc, st, as, r, h => by
    simp only [mj_tk, Option.some.injEq, Prod.mk.injEq] at h
    exact ⟨[], by rw [h.2]; rfl, rfl, by rw [← h.1]; rfl⟩
  | n + 1, acc, [], as, r, h => by simp [mj_tk] at h
  | n + 1, acc, v :: st, as, r, h => by
    obtain ⟨bs, h1, h2, h3⟩ := mj_tk_sp n (v :: acc) st as r h
    exact ⟨v :: bs, by rw [h1]; rfl, by rw [List.length_cons, h2], by rw [h3]; simp⟩
theorem mj_wT.head {n : Nat} {v : Value} {r : List Value} (h : mj_wT n (v :: r)) : mj_wv n v := h v List.mem_cons_self
theorem mj_wT.tail {n : Nat} {v : Value} {r : List Value} (h : mj_wT n (v :: r)) : mj_wT n r := fun w hw => h w (List.mem_cons_of_mem _ hw)
theorem mj_wT.push {n : Nat} {v : Value} {r : List Value} (h : mj_wT n r) (hv : mj_wv n v) : mj_wT n (v :: r) := fun w hw => by
  rcases List.mem_cons.mp hw with rfl | hw
  · exact hv
  · exact h w hw
theorem mj_wr.up {n n' q : Nat} (h : mj_wr n q) (hn : n ≤ n') : mj_wr n' q := h.imp (fun h => Nat.lt_of_lt_of_le h hn) id
theorem mj_wv.up {n n' : Nat} {v : Value} (h : mj_wv n v) (hn : n ≤ n') : mj_wv n' v := by
  cases v <;> first | exact mj_wr.up h hn | trivial
theorem mj_wT.up {n n' : Nat} {st : List Value} (h : mj_wT n st) (hn : n ≤ n') : mj_wT n' st := fun v hv => (h v hv).up hn
theorem mj_wL.up {n n' : Nat} {lv : mj_LV} (h : mj_wL n lv) (hn : n ≤ n') : mj_wL n' lv := fun i v hv => (h i v hv).up hn
theorem mj_tr_ad {n : Nat} {ad ad' : Nat → Nat} {v : Value} (h : mj_wv n v) (ha : ∀ q, mj_wr n q → ad' q = ad q) : mj_tr ad' v = mj_tr ad v := by
  cases v <;> simp_all [mj_tr, mj_wv]
theorem mj_map_ad {n : Nat} {ad ad' : Nat → Nat} {st : List Value} (h : mj_wT n st) (ha : ∀ q, mj_wr n q → ad' q = ad q) : st.map (mj_tr ad') = st.map (mj_tr ad) := List.map_congr_left fun v hv => mj_tr_ad (h v hv) ha
/-- the kinds of arrays, by their places -/
def mj_tys (ka : Nat → ClassId) : List (ClassId × FieldType) := [(ka 0, .int), (ka 1, .long), (ka 2, .char), (ka 3, .boolean), (ka 4, .byte)]
/-- the heap holds the store: D cl ft ka B are of the whole claim; s is the method's start, E its store, aE its addresses -/
def mj_Rh (D : va_G) (cl : List vw_C) (ft : Nat → Nat → Nat) (ka : Nat → ClassId) (B : Nat) (s : State) (E : mj_S) (aE : Nat → Nat) (ad : Nat → Nat) (S : mj_S) (H : Heap) (locs : List Loc) (cells slots : Nat) : Prop :=
  va_P D cl (mj_ws ft ka ad S) H ∧ va_D (fun q => B ≤ q) (mj_ws ft ka ad S) ∧ va_S (fun q => B ≤ q) s.heap H locs ∧ mj_wS S ∧ (E.1.length ≤ S.1.length ∧ ∀ q, mj_wr E.1.length q → ad q = aE q) ∧ S.2.2.2.2.1 = E.2.2.2.2.1 + cells ∧ S.2.2.2.2.2 = E.2.2.2.2.2 + slots
theorem mj_wcons {p : Program} {l : Launch} {e : Env} {R : Room} {s : State} {m : MethodId} {args : Array Value} {below : List Frame} {meth : Method} {c : Code} {H : Heap} {locs : List Loc} {cells slots : Nat} {Q Q' : State → Prop} {g : JFrame}
    (k : W p l e R s m args below meth c H locs cells slots Q g) (h : ∀ t, Q t → Q' t) : W p l e R s m args below meth c H locs cells slots Q' g := by
  intro T hT X
  obtain ⟨t, a, b⟩ := k T hT X
  exact ⟨t, a, h t b⟩
/-- a throw's own words: class, chain, the String's entry -/
def mj_ex : Nat → String
  | 500 => "java/lang/IllegalStateException"
  | 501 => "java/lang/IllegalArgumentException"
  | _ => "java/lang/IndexOutOfBoundsException"
/-- what an instruction's numbers must be; Wd: the words that hold; own: the class; nL: the locals; ini: a constructor -/
def mj_iok (Wd : Cond → Prop) (cl : List vw_C) (ft : Nat → Nat → Nat) (own : String) (nL : Nat) (ini : Prop) (rt : Option FieldType) (x : mj_I) : Prop :=
  match x.2.1 with
  | .iconst n => x.2.2.1 = 1 ∧ Int32.ofInt n = x.2.2.2.2.1
  | .bipush n => x.2.2.1 = 2 ∧ (Int8.ofInt n).toInt32 = x.2.2.2.2.1
  | .sipush n => x.2.2.1 = 3 ∧ (Int16.ofInt n).toInt32 = x.2.2.2.2.1
  | .ldc i => x.2.2.1 = 2 ∧ ((x.2.2.2.1.2.2 = 0 ∧ Wd (.constant own i x.2.2.2.2.1)) ∨ (x.2.2.2.1.2.2 ≠ 0 ∧ 900000 ≤ x.2.2.2.1.1))
  | .lconst n => x.2.2.1 = 1 ∧ Int64.ofNat (n : Nat) = x.2.2.2.2.2.1
  | .ldc2_w i => x.2.2.1 = 3 ∧ Wd (.constantLong own i x.2.2.2.2.2.1)
  | .iload i => x.2.2.1 = 2 ∧ x.2.2.2.1.1 = i
  | .iload_n i => x.2.2.1 = 1 ∧ x.2.2.2.1.1 = (i : Nat)
  | .lload i => x.2.2.1 = 2 ∧ x.2.2.2.1.1 = i
  | .lload_n i => x.2.2.1 = 1 ∧ x.2.2.2.1.1 = (i : Nat)
  | .aload i => x.2.2.1 = 2 ∧ x.2.2.2.1.1 = i
  | .aload_n i => x.2.2.1 = 1 ∧ x.2.2.2.1.1 = (i : Nat)
  | .istore i => (x.2.2.1 = 2 ∧ x.2.2.2.1.1 = i) ∧ i < nL
  | .istore_n i => (x.2.2.1 = 1 ∧ x.2.2.2.1.1 = (i : Nat)) ∧ (i : Nat) < nL
  | .lstore i => (x.2.2.1 = 2 ∧ x.2.2.2.1.1 = i) ∧ i + 1 < nL
  | .lstore_n i => (x.2.2.1 = 1 ∧ x.2.2.2.1.1 = (i : Nat)) ∧ (i : Nat) + 1 < nL
  | .astore i => (x.2.2.1 = 2 ∧ x.2.2.2.1.1 = i) ∧ i < nL
  | .astore_n i => (x.2.2.1 = 1 ∧ x.2.2.2.1.1 = (i : Nat)) ∧ (i : Nat) < nL
  | .iinc i n => (x.2.2.1 = 3 ∧ x.2.2.2.1.1 = i ∧ Int32.ofInt n = x.2.2.2.2.1) ∧ i < nL
  | .ifCond _ off => x.2.2.1 = 3 ∧ (x.1 : Int) + off = (x.2.2.2.1.1 : Int)
  | .if_icmp _ off => x.2.2.1 = 3 ∧ (x.1 : Int) + off = (x.2.2.2.1.1 : Int)
  | .goto off => x.2.2.1 = 3 ∧ (x.1 : Int) + off = (x.2.2.2.1.1 : Int)
  | .tableswitch d lo hi offs => (x.1 : Int) + d = (x.2.2.2.1.1 : Int) ∧ offs.size = x.2.2.2.2.2.2.length ∧ hi = lo + offs.size - 1 ∧ ∀ j, j < offs.size → (∃ o k t, offs[j]? = some o ∧ x.2.2.2.2.2.2[j]? = some (k, t) ∧ k.toInt = lo + j ∧ (x.1 : Int) + o = (t : Int))
  | .lookupswitch d ps => (x.1 : Int) + d = (x.2.2.2.1.1 : Int) ∧ (ps.toList.zip (ps.toList.drop 1)).all (fun (a, next) => a.1 < next.1) = true ∧ ps.toList = x.2.2.2.2.2.2.map fun q => (q.1.toInt, (q.2 : Int) - (x.1 : Int))
  | .getfield i => x.2.2.1 = 3 ∧ ∃ C T N, cl[x.2.2.2.1.1]? = some (C, T, N) ∧ x.2.2.2.1.2.1 < N ∧ Wd (.fieldLink own i (T x.2.2.2.1.2.1).1 (T x.2.2.2.1.2.1).2.1 (T x.2.2.2.1.2.1).2.2.1) ∧ ((x.2.2.2.1.2.2 = 0 ∧ ft x.2.2.2.1.1 x.2.2.2.1.2.1 ≠ 2) ∨ (x.2.2.2.1.2.2 ≠ 0 ∧ ft x.2.2.2.1.1 x.2.2.2.1.2.1 = 2))
  | .putfield i => x.2.2.1 = 3 ∧ ∃ C T N ty, cl[x.2.2.2.1.1]? = some (C, T, N) ∧ x.2.2.2.1.2.1 < N ∧ Wd (.fieldLink own i (T x.2.2.2.1.2.1).1 (T x.2.2.2.1.2.1).2.1 (T x.2.2.2.1.2.1).2.2.1) ∧ ((T x.2.2.2.1.2.1).2.2.2 = false ∨ ((T x.2.2.2.1.2.1).2.2.2 = true ∧ ini ∧ (T x.2.2.2.1.2.1).1 = own)) ∧ parseFieldDescriptor (T x.2.2.2.1.2.1).2.2.1 = some ty ∧
      ((x.2.2.2.1.2.2 = 0 ∧ ty = .int ∧ ft x.2.2.2.1.1 x.2.2.2.1.2.1 ≠ 2) ∨ (x.2.2.2.1.2.2 = 2 ∧ ((∃ n, ty = .object n) ∨ ∃ t, ty = .array t) ∧ ft x.2.2.2.1.1 x.2.2.2.1.2.1 = 2) ∨ (x.2.2.2.1.2.2 = 3 ∧ ty = .boolean ∧ ft x.2.2.2.1.1 x.2.2.2.1.2.1 ≠ 2))
  | .new i => x.2.2.1 = 3 ∧ (x.2.2.2.1.2.2 ≠ 0 ∨ (x.2.2.2.1.2.2 = 0 ∧ ∃ C T, cl[x.2.2.2.1.1]? = some (C, T, x.2.2.2.1.2.1) ∧ Wd (.classLink own i C) ∧ Wd (.instantiable C x.2.2.2.1.2.1) ∧ Wd (.initialized C)))
  | .newarray ty => x.2.2.1 = 2 ∧ ((x.2.2.2.1.2.2 = 0 ∧ ty = .int) ∨ (x.2.2.2.1.2.2 = 1 ∧ ty = .long) ∨ (x.2.2.2.1.2.2 = 2 ∧ ty = .char) ∨ (x.2.2.2.1.2.2 = 3 ∧ ty = .boolean) ∨ (x.2.2.2.1.2.2 = 4 ∧ ty = .byte)) ∧ Wd (.arrayClass (newarray.typeOf ty))
  | .checkcast i => x.2.2.1 = 3 ∧ Wd (.classLink own i "[I")
  | .invokestatic _ => x.2.2.1 = 3
  | .invokevirtual _ => x.2.2.1 = 3
  | .invokespecial i => x.2.2.1 = 3 ∧ (x.2.2.2.1.2.2 = 0 ∨ (x.2.2.2.1.2.2 ≠ 0 ∧ Wd (.methodLink own i objectInit) ∧ Wd (.instanceMethod objectInit) ∧ Wd (.code objectInit ⟨#[0xb1]⟩ 1 none)))
  | .ireturn => x.2.2.1 = 1 ∧ ((x.2.2.2.1.2.2 = 0 ∧ rt = some .int) ∨ (x.2.2.2.1.2.2 ≠ 0 ∧ rt = some .boolean))
  | .return_ => x.2.2.1 = 1 ∧ rt = none
  | _ => x.2.2.1 = 1
end
section
/-! INSTRUCTIONS THAT READ OR WRITE THE HEAP -/
theorem mj_ent_arr {ft : Nat → Nat → Nat} {ka : Nat → ClassId} {ad : Nat → Nat} {S : mj_S} {o t n : Nat} (ht : t ≠ 1) : mj_ent ft ka ad S o (1000 + t, n) = .inl (ka t, n, .inl (S.2.1 o)) := by
  unfold mj_ent
  rw [if_neg (show ¬ (1000 + t) < 1000 by omega), if_neg (show ¬ (1000 + t = 1001) by omega), show 1000 + t - 1000 = t by omega]
theorem mj_ent_larr {ft : Nat → Nat → Nat} {ka : Nat → ClassId} {ad : Nat → Nat} {S : mj_S} {o n : Nat} : mj_ent ft ka ad S o (1001, n) = .inl (ka 1, n, .inr (.inl (S.2.2.1 o))) := by
  unfold mj_ent
  simp
theorem mj_ent_obj {ft : Nat → Nat → Nat} {ka : Nat → ClassId} {ad : Nat → Nat} {S : mj_S} {o k n : Nat} (hk : k < 1000) : mj_ent ft ka ad S o (k, n) = .inr (k, (List.range n).map fun j => mj_fv ad S o j (ft k j)) := by
  unfold mj_ent
  rw [if_pos hk]
/-- what the tables say of the classes -/
def mj_cok (Wd : Cond → Prop) (cl : List vw_C) (ft : Nat → Nat → Nat) : Prop := ∀ (k : Nat) (C : String) (T : u_T) (N : Nat), cl[k]? = some (C, T, N) →
  k < 1000 ∧ (∀ w ∈ u_ws C T N, Wd w) ∧ (∃ ty : Nat → FieldType, (∀ j, j < N → parseFieldDescriptor (T j).2.2.1 = some (ty j)) ∧ (∀ j, j < N → defaultValue (ty j) = if ft k j = 2 then .null else .int 0)) ∧ (∀ a, a < N → ∀ b, b < N → a ≠ b → (T a).2.1 ≠ (T b).2.1)
section MJHP
variable {p : Program} {l : Launch} {e : Env} {R : Room} {s : State} {m : MethodId} {args : Array Value} {below : List Frame} {meth : Method} {c : Code} {Z : State → Prop}
variable {D : va_G} {cl : List vw_C} {ft : Nat → Nat → Nat} {ka : Nat → ClassId} {B : Nat} {E : mj_S} {aE : Nat → Nat} {cc : ByteArray} {own : String} {Wd : Cond → Prop}
variable {ad : Nat → Nat} {S : mj_S} {H : Heap} {locs : List Loc} {cells slots : Nat} {ls : Array Slot} {pc : Nat} {r : List Value}
/-- behind a store to the cell o -/
theorem mj_Rh.set {S' : mj_S} {o : Nat} {kn : Nat × Nat} {H' : Heap} {locs' : List Loc} (hR : mj_Rh D cl ft ka B s E aE ad S H locs cells slots) (ho : S.1[o]? = some kn) (hs : S'.1 = S.1) (hb : ∀ b, b ≠ o → S'.2.1 b = S.2.1 b ∧ S'.2.2.1 b = S.2.2.1 b ∧ S'.2.2.2.1 b = S.2.2.2.1 b) (hr : ∀ j q, S'.2.2.2.1 o j = some q → mj_wr S.1.length q) (hc : S'.2.2.2.2 = S.2.2.2.2)
    (hP : va_P D cl ((mj_ws ft ka ad S).set o (ad o, mj_ent ft ka ad S' o kn)) H') (hD : va_D (fun q => B ≤ q) ((mj_ws ft ka ad S).set o (ad o, mj_ent ft ka ad S' o kn))) (hS : va_S (fun q => B ≤ q) s.heap H' locs') : mj_Rh D cl ft ka B s E aE ad S' H' locs' cells slots := by
  obtain ⟨-, -, -, h4, h5, h6, h7⟩ := hR
  have e := mj_ws_set (ft := ft) (ka := ka) (ad := ad) (S' := S') ho hs hb
  refine ⟨by rw [e]; exact hP, by rw [e]; exact hD, hS, ⟨by rw [hs, hc]; exact h4.1, fun a j q hq => ?_⟩, ⟨by rw [hs]; exact h5.1, h5.2⟩, by rw [hc]; exact h6, by rw [hc]; exact h7⟩
  rw [hs]
  by_cases ha : a = o
  · subst ha; exact hr j q hq
  · rw [(hb a ha).2.2] at hq; exact h4.2 a j q hq
theorem mj_h_ald (hx : p.tables.exec = Jvm.exec) (hb : c.code = cc) (hKt : va_K D cl (mj_tys ka) s) (hR : mj_Rh D cl ft ka B s E aE ad S H locs cells slots) {o n t : Nat} {k : Int32} (ho : S.1[o]? = some (1000 + t, n)) (hin : vp_in k n) {i : Instr} (hdec : decode cc pc = .ok (i, 1)) (hi : (t = 0 ∧ i = .iaload) ∨ (t = 2 ∧ i = .caload) ∨ (t = 3 ∧ i = .baload) ∨ (t = 4 ∧ i = .baload))
    (kk : W p l e R s m args below meth c H locs cells slots Z (F0 m (pc + 1) ls (.int (S.2.1 o k.toNatClampNeg) :: r))) : W p l e R s m args below meth c H locs cells slots Z (F0 m pc ls (.int k :: .ref (ad o) :: r)) := by
  have ha := mj_ws_at (ft := ft) (ka := ka) (ad := ad) ho
  rcases hi with ⟨rfl, rfl⟩ | ⟨rfl, rfl⟩ | ⟨rfl, rfl⟩ | ⟨rfl, rfl⟩ <;> rw [mj_ent_arr (by decide)] at ha
  · exact va_iald hx hb hKt hR.1 o 0 ha rfl hin hdec kk
  · exact va_cald hx hb hKt hR.1 o 2 ha rfl hin hdec kk
  · exact va_zald hx hb hKt hR.1 o 3 ha rfl hin hdec kk
  · exact va_bald hx hb hKt hR.1 o 4 ha rfl hin hdec kk
theorem mj_h_ast (hx : p.tables.exec = Jvm.exec) (hb : c.code = cc) (hKt : va_K D cl (mj_tys ka) s) (hR : mj_Rh D cl ft ka B s E aE ad S H locs cells slots) {o n t : Nat} {k v : Int32} {nar : Int32 → Int32} (ho : S.1[o]? = some (1000 + t, n)) (hin : vp_in k n) {i : Instr} (hdec : decode cc pc = .ok (i, 1)) (hi : (t = 0 ∧ i = .iastore ∧ nar = fun v => v) ∨ (t = 2 ∧ i = .castore ∧ nar = fun v => vp_nar .char v) ∨ (t = 3 ∧ i = .bastore ∧ nar = fun v => vp_nar .boolean v) ∨ (t = 4 ∧ i = .bastore ∧ nar = fun v => vp_nar .byte v))
    (kk : ∀ (H' : Heap) (locs' : List Loc), mj_Rh D cl ft ka B s E aE ad (S.1, mj_up S.2.1 o k.toNatClampNeg (nar v), S.2.2) H' locs' cells slots → W p l e R s m args below meth c H' locs' cells slots Z (F0 m (pc + 1) ls r)) : W p l e R s m args below meth c H locs cells slots Z (F0 m pc ls (.int v :: .int k :: .ref (ad o) :: r)) := by
  have ha := mj_ws_at (ft := ft) (ka := ka) (ad := ad) ho
  have fin : ∀ (H' : Heap) (locs' : List Loc), t ≠ 1 → va_P D cl ((mj_ws ft ka ad S).set o (ad o, .inl (ka t, n, .inl (upd (S.2.1 o) k.toNatClampNeg (nar v))))) H' → va_D (fun q => B ≤ q) ((mj_ws ft ka ad S).set o (ad o, .inl (ka t, n, .inl (upd (S.2.1 o) k.toNatClampNeg (nar v))))) → va_S (fun q => B ≤ q) s.heap H' locs' → mj_Rh D cl ft ka B s E aE ad (S.1, mj_up S.2.1 o k.toNatClampNeg (nar v), S.2.2) H' locs' cells slots := by
    intro H' locs' ht hP hD hS
    have e : mj_ent ft ka ad (S.1, mj_up S.2.1 o k.toNatClampNeg (nar v), S.2.2) o (1000 + t, n) = .inl (ka t, n, .inl (upd (S.2.1 o) k.toNatClampNeg (nar v))) := by
      rw [mj_ent_arr ht]; show Sum.inl (_, _, Sum.inl (mj_up S.2.1 o _ _ o)) = _; rw [mj_up_eq]
    refine hR.set ho rfl (fun b hb => ⟨mj_up_ne hb, rfl, rfl⟩) (fun j q hq => hR.2.2.2.1.2 o j q hq) rfl (by rw [e]; exact hP) (by rw [e]; exact hD) hS
  rcases hi with ⟨rfl, rfl, rfl⟩ | ⟨rfl, rfl, rfl⟩ | ⟨rfl, rfl, rfl⟩ | ⟨rfl, rfl, rfl⟩ <;> rw [mj_ent_arr (by decide)] at ha
  · exact va_iast hx hb hKt hR.1 hR.2.1 hR.2.2.1 o 0 ha rfl hin hdec (fun H' locs' h1 h2 h3 => kk H' locs' (fin H' locs' (by decide) h1 h2 h3))
  · exact va_cast hx hb hKt hR.1 hR.2.1 hR.2.2.1 o 2 ha rfl hin hdec (fun H' locs' h1 h2 h3 => kk H' locs' (fin H' locs' (by decide) h1 h2 h3))
  · exact va_zast hx hb hKt hR.1 hR.2.1 hR.2.2.1 o 3 ha rfl hin hdec (fun H' locs' h1 h2 h3 => kk H' locs' (fin H' locs' (by decide) h1 h2 h3))
  · exact va_bast hx hb hKt hR.1 hR.2.1 hR.2.2.1 o 4 ha rfl hin hdec (fun H' locs' h1 h2 h3 => kk H' locs' (fin H' locs' (by decide) h1 h2 h3))
theorem mj_h_lald (hx : p.tables.exec = Jvm.exec) (hb : c.code = cc) (hKt : va_K D cl (mj_tys ka) s) (hR : mj_Rh D cl ft ka B s E aE ad S H locs cells slots) {o n : Nat} {k : Int32} (ho : S.1[o]? = some (1001, n)) (hin : vp_in k n) (hdec : decode cc pc = .ok (.laload, 1))
    (kk : W p l e R s m args below meth c H locs cells slots Z (F0 m (pc + 1) ls (.long (S.2.2.1 o k.toNatClampNeg) :: r))) : W p l e R s m args below meth c H locs cells slots Z (F0 m pc ls (.int k :: .ref (ad o) :: r)) := by
  have ha := mj_ws_at (ft := ft) (ka := ka) (ad := ad) ho
  rw [mj_ent_larr] at ha
  exact va_lald hx hb hKt hR.1 o 1 ha rfl hin hdec kk
theorem mj_h_last (hx : p.tables.exec = Jvm.exec) (hb : c.code = cc) (hKt : va_K D cl (mj_tys ka) s) (hR : mj_Rh D cl ft ka B s E aE ad S H locs cells slots) {o n : Nat} {k : Int32} {v : Int64} (ho : S.1[o]? = some (1001, n)) (hin : vp_in k n) (hdec : decode cc pc = .ok (.lastore, 1))
    (kk : ∀ (H' : Heap) (locs' : List Loc), mj_Rh D cl ft ka B s E aE ad (S.1, S.2.1, mj_up S.2.2.1 o k.toNatClampNeg v, S.2.2.2) H' locs' cells slots → W p l e R s m args below meth c H' locs' cells slots Z (F0 m (pc + 1) ls r)) : W p l e R s m args below meth c H locs cells slots Z (F0 m pc ls (.long v :: .int k :: .ref (ad o) :: r)) := by
  have ha := mj_ws_at (ft := ft) (ka := ka) (ad := ad) ho
  rw [mj_ent_larr] at ha
  refine va_last hx hb hKt hR.1 hR.2.1 hR.2.2.1 o 1 ha rfl hin hdec (fun H' locs' hP hD hS => kk H' locs' ?_)
  have e : mj_ent ft ka ad (S.1, S.2.1, mj_up S.2.2.1 o k.toNatClampNeg v, S.2.2.2) o (1001, n) = .inl (ka 1, n, .inr (.inl (vp_updL (S.2.2.1 o) k.toNatClampNeg v))) := by
    rw [mj_ent_larr]; show Sum.inl (_, _, Sum.inr (Sum.inl (mj_up S.2.2.1 o _ _ o))) = _; rw [mj_up_eqL]
  exact hR.set ho rfl (fun b hb => ⟨rfl, mj_up_ne hb, rfl⟩) (fun j q hq => hR.2.2.2.1.2 o j q hq) rfl (by rw [e]; exact hP) (by rw [e]; exact hD) hS
theorem mj_fs_at {o k n b : Nat} (hbn : b < n) : ((List.range n).map fun j => mj_fv ad S o j (ft k j))[b]? = some (mj_fv ad S o b (ft k b)) := by
  rw [List.getElem?_map, List.getElem?_range hbn]; rfl
theorem mj_h_get (hx : p.tables.exec = Jvm.exec) (hb : c.code = cc) (hown : s.vm.findClass own = some m.cls) (hKt : va_K D cl (mj_tys ka) s) (hwd : ∀ w, Wd w → w.before args s = true) (hco : mj_cok Wd cl ft) (hR : mj_Rh D cl ft ka B s E aE ad S H locs cells slots) {o k n b i N : Nat} {C : String} {T : u_T} (ho : S.1[o]? = some (k, n)) (hbn : b < n) (hc : cl[k]? = some (C, T, N)) (hbN : b < N) (hlink : Wd (.fieldLink own i (T b).1 (T b).2.1 (T b).2.2.1)) (hdec : decode cc pc = .ok (.getfield i, 3))
    (kk : W p l e R s m args below meth c H locs cells slots Z (F0 m (pc + 3) ls (mj_fv ad S o b (ft k b) :: r))) : W p l e R s m args below meth c H locs cells slots Z (F0 m pc ls (.ref (ad o) :: r)) := by
  have ha := mj_ws_at (ft := ft) (ka := ka) (ad := ad) ho
  obtain ⟨hk, hws, -, -⟩ := hco k C T N hc
  rw [mj_ent_obj hk] at ha
  exact va_get (D := D) (Ts := u_ws C T N) hx hb (fun w hw => hwd w (hws w hw)) (fun w hw => hw) hown hKt hR.1 o ha hc b hbN (hwd _ hlink) (fun _ h => h) (mj_fs_at hbn) hdec kk
theorem mj_fs_set {S' : mj_S} {o k n b : Nat} {v : Value} (hbn : b < n) (hv : mj_fv ad S' o b (ft k b) = v) (ho : ∀ j, j ≠ b → mj_fv ad S' o j (ft k j) = mj_fv ad S o j (ft k j)) : ((List.range n).map fun j => mj_fv ad S o j (ft k j)).set b v = (List.range n).map fun j => mj_fv ad S' o j (ft k j) := by
  apply List.ext_getElem?
  intro j
  by_cases hj : j = b
  · subst hj
    rw [List.getElem?_set_self (by simp; exact hbn), mj_fs_at (S := S') hbn, hv]
  · rw [List.getElem?_set_ne (Ne.symm hj)]
    by_cases hl : j < n
    · rw [mj_fs_at (S := S) hl, mj_fs_at (S := S') hl, ho j hj]
    · rw [List.getElem?_eq_none_iff.mpr (by simp; omega), List.getElem?_eq_none_iff.mpr (by simp; omega)]
theorem mj_h_put (hx : p.tables.exec = Jvm.exec) (hb : c.code = cc) (hown : s.vm.findClass own = some m.cls) (hKt : va_K D cl (mj_tys ka) s) (hwd : ∀ w, Wd w → w.before args s = true) (hco : mj_cok Wd cl ft) (hR : mj_Rh D cl ft ka B s E aE ad S H locs cells slots) {o k n b i N : Nat} {C : String} {T : u_T} {S' : mj_S} {v : Value} {ty : FieldType} (ho : S.1[o]? = some (k, n)) (hbn : b < n) (hc : cl[k]? = some (C, T, N)) (hbN : b < N) (hlink : Wd (.fieldLink own i (T b).1 (T b).2.1 (T b).2.2.1)) (hdec : decode cc pc = .ok (.putfield i, 3))
    (hfin : (T b).2.2.2 = false ∨ ((T b).2.2.2 = true ∧ meth.name = "<init>" ∧ (T b).1 = own)) (hty : parseFieldDescriptor (T b).2.2.1 = some ty) (hn : narrow ty v = v) (hf : fits ty v = true)
    (hs : S'.1 = S.1) (hot : ∀ b, b ≠ o → S'.2.1 b = S.2.1 b ∧ S'.2.2.1 b = S.2.2.1 b ∧ S'.2.2.2.1 b = S.2.2.2.1 b) (hr : ∀ j q, S'.2.2.2.1 o j = some q → mj_wr S.1.length q) (hcn : S'.2.2.2.2 = S.2.2.2.2) (hv : mj_fv ad S' o b (ft k b) = v) (hvo : ∀ j, j ≠ b → mj_fv ad S' o j (ft k j) = mj_fv ad S o j (ft k j))
    (kk : ∀ (H' : Heap) (locs' : List Loc), mj_Rh D cl ft ka B s E aE ad S' H' locs' cells slots → W p l e R s m args below meth c H' locs' cells slots Z (F0 m (pc + 3) ls r)) : W p l e R s m args below meth c H locs cells slots Z (F0 m pc ls (v :: .ref (ad o) :: r)) := by
  have ha := mj_ws_at (ft := ft) (ka := ka) (ad := ad) ho
  obtain ⟨hk, hws, ⟨tys, hty0, -⟩, hnm⟩ := hco k C T N hc
  rw [mj_ent_obj hk] at ha
  have fin : ∀ (H' : Heap) (locs' : List Loc), va_P D cl ((mj_ws ft ka ad S).set o (ad o, .inr (k, ((List.range n).map fun j => mj_fv ad S o j (ft k j)).set b v))) H' → va_D (fun q => B ≤ q) ((mj_ws ft ka ad S).set o (ad o, .inr (k, ((List.range n).map fun j => mj_fv ad S o j (ft k j)).set b v))) → va_S (fun q => B ≤ q) s.heap H' locs' → mj_Rh D cl ft ka B s E aE ad S' H' locs' cells slots := by
    intro H' locs' hP hD hS
    have e : mj_ent ft ka ad S' o (k, n) = .inr (k, ((List.range n).map fun j => mj_fv ad S o j (ft k j)).set b v) := by
      rw [mj_ent_obj hk, mj_fs_set (ft := ft) hbn hv hvo]
    exact hR.set ho hs hot hr hcn (by rw [e]; exact hP) (by rw [e]; exact hD) hS
  have hl : b < ((List.range n).map fun j => mj_fv ad S o j (ft k j)).length := by simp; exact hbn
  rcases hfin with hfin | ⟨hfin, hin, hdecl⟩
  · exact va_put (D := D) (Ts := u_ws C T N) hx hb (fun w hw => hwd w (hws w hw)) (fun w hw => hw) tys hty0 hnm hown hKt hR.1 hR.2.1 hR.2.2.1 o ha hc b hbN (hwd _ hlink) (fun _ h => h) hfin hty hn hf hl hdec (fun H' locs' h1 h2 h3 => kk H' locs' (fin H' locs' h1 h2 h3))
  · exact va_putF (D := D) (Ts := u_ws C T N) hx hb (fun w hw => hwd w (hws w hw)) (fun w hw => hw) tys hty0 hnm hown hKt hR.1 hR.2.1 hR.2.2.1 o ha hc b hbN (hwd _ hlink) (fun _ h => h) hfin hin hdecl hty hn hf hl hdec (fun H' locs' h1 h2 h3 => kk H' locs' (fin H' locs' h1 h2 h3))
/-- the store with a new cell, and its address -/
def mj_nS (S : mj_S) (k n : Nat) : mj_S := (S.1 ++ [(k, n)], mj_row S.2.1 S.1.length (fun _ => 0), mj_row S.2.2.1 S.1.length (fun _ => 0), mj_row S.2.2.2.1 S.1.length (fun _ => none), S.2.2.2.2.1 + 1, S.2.2.2.2.2 + n)
def mj_nA (S : mj_S) (ad : Nat → Nat) (q : Nat) : Nat → Nat := fun i => if i = S.1.length then q else ad i
theorem mj_nA_old (hw : mj_wS S) {q i : Nat} (hi : mj_wr S.1.length i) : mj_nA S ad q i = ad i := by
  have : i ≠ S.1.length := by rcases hi with h | h <;> have := hw.1.1 <;> omega
  simp only [mj_nA, if_neg this]
theorem mj_nA_new {q : Nat} : mj_nA S ad q S.1.length = q := by simp [mj_nA]
theorem mj_fv_new {k n q j t : Nat} : mj_fv (mj_nA S ad q) (mj_nS S k n) S.1.length j t = if t = 2 then .null else .int 0 := by
  unfold mj_fv mj_nS
  split
  · simp [mj_row]
  · rename_i ht
    rw [if_neg ht]
    simp [mj_row]
theorem mj_Rh.new {k n q : Nat} {H' : Heap} {en : va_E} (hR : mj_Rh D cl ft ka B s E aE ad S H locs cells slots) (hn : S.2.2.2.2.1 + 1 ≤ 601024 ∧ S.2.2.2.2.2 + n ≤ 7293034) (he : mj_ent ft ka (mj_nA S ad q) (mj_nS S k n) S.1.length (k, n) = en)
    (hP : va_P D cl (mj_ws ft ka ad S ++ [(q, en)]) H') (hD : va_D (fun q => B ≤ q) (mj_ws ft ka ad S ++ [(q, en)])) (hS : va_S (fun q => B ≤ q) s.heap H' locs) : mj_Rh D cl ft ka B s E aE (mj_nA S ad q) (mj_nS S k n) H' locs (cells + 1) (slots + n) := by
  obtain ⟨-, -, -, h4, h5, h6, h7⟩ := hR
  have e : mj_ws ft ka (mj_nA S ad q) (mj_nS S k n) = mj_ws ft ka ad S ++ [(q, mj_ent ft ka (mj_nA S ad q) (mj_nS S k n) S.1.length (k, n))] := (mj_ws_new (ft := ft) (ka := ka) (ad := ad) (k := k) (n := n) (q := q) h4 hn).1
  have w : mj_wS (mj_nS S k n) := (mj_ws_new (ft := ft) (ka := ka) (ad := ad) (k := k) (n := n) (q := q) h4 hn).2.1
  rw [he] at e
  refine ⟨by rw [e]; exact hP, by rw [e]; exact hD, hS, w, ⟨?_, fun i hi => ?_⟩, ?_, ?_⟩
  · have : (mj_nS S k n).1.length = S.1.length + 1 := by simp [mj_nS]
    have := h5.1
    omega
  · rw [mj_nA_old h4 (hi.up h5.1)]
    exact h5.2 i hi
  · show S.2.2.2.2.1 + 1 = _
    omega
  · show S.2.2.2.2.2 + n = _
    omega
theorem mj_h_new (hx : p.tables.exec = Jvm.exec) (hb : c.code = cc) (hown : s.vm.findClass own = some m.cls) (hKt : va_K D cl (mj_tys ka) s) (hwd : ∀ w, Wd w → w.before args s = true) (hco : mj_cok Wd cl ft) (hA : ∀ q, s.heap.size ≤ q → B ≤ q) (hR : mj_Rh D cl ft ka B s E aE ad S H locs cells slots) {k i N : Nat} {C : String} {T : u_T} (hc : cl[k]? = some (C, T, N)) (hl : Wd (.classLink own i C)) (hi : Wd (.instantiable C N)) (hini : Wd (.initialized C)) (hn : S.2.2.2.2.1 + 1 ≤ 601024 ∧ S.2.2.2.2.2 + N ≤ 7293034) (h1 : cells + 1 ≤ R.cells) (h2 : slots + N ≤ R.slots) (hdec : decode cc pc = .ok (.new i, 3))
    (kk : ∀ (q : Nat) (H' : Heap), mj_Rh D cl ft ka B s E aE (mj_nA S ad q) (mj_nS S k N) H' locs (cells + 1) (slots + N) → W p l e R s m args below meth c H' locs (cells + 1) (slots + N) Z (F0 m (pc + 3) ls (.ref q :: r))) : W p l e R s m args below meth c H locs cells slots Z (F0 m pc ls r) := by
  obtain ⟨hk, hws, ⟨tys, hty0, hdf⟩, hnm⟩ := hco k C T N hc
  refine va_new (D := D) (Ts := u_ws C T N) (ci := k) (fs := (List.range N).map fun j => if ft k j = 2 then .null else .int 0) hx hb (fun w hw => hwd w (hws w hw)) (fun w hw => hw) tys hty0 hown (hwd _ hl) (hwd _ hi) (hwd _ hini) hKt hR.1 hR.2.1 hR.2.2.1 (fun q h => hA q h) hc ?_ h1 h2 hdec (fun q H' hP hD hS => kk q H' (hR.new hn ?_ hP hD hS))
  · intro j hj
    rw [hdf j hj]
    unfold vp_V
    rw [List.getD_eq_getElem?_getD, List.getElem?_map, List.getElem?_range hj]
    rfl
  · rw [mj_ent_obj hk]
    simp only [mj_fv_new]
theorem mj_h_newa (hx : p.tables.exec = Jvm.exec) (hb : c.code = cc) (hKt : va_K D cl (mj_tys ka) s) (hwd : ∀ w, Wd w → w.before args s = true) (hA : ∀ q, s.heap.size ≤ q → B ≤ q) (hR : mj_Rh D cl ft ka B s E aE ad S H locs cells slots) {t : Nat} {n : Int32} {ty : ArrayType} (hty : (t = 0 ∧ ty = .int) ∨ (t = 1 ∧ ty = .long) ∨ (t = 2 ∧ ty = .char) ∨ (t = 3 ∧ ty = .boolean) ∨ (t = 4 ∧ ty = .byte)) (hw : Wd (.arrayClass (newarray.typeOf ty))) (hn0 : ¬ n < 0) (hcap : n.toNatClampNeg ≤ 8000000) (hn : S.2.2.2.2.1 + 1 ≤ 601024 ∧ S.2.2.2.2.2 + n.toNatClampNeg ≤ 7293034) (h1 : cells + 1 ≤ R.cells) (h2 : slots + n.toNatClampNeg ≤ R.slots) (hdec : decode cc pc = .ok (.newarray ty, 2))
    (kk : ∀ (q : Nat) (H' : Heap), mj_Rh D cl ft ka B s E aE (mj_nA S ad q) (mj_nS S (1000 + t) n.toNatClampNeg) H' locs (cells + 1) (slots + n.toNatClampNeg) → W p l e R s m args below meth c H' locs (cells + 1) (slots + n.toNatClampNeg) Z (F0 m (pc + 2) ls (.ref q :: r))) : W p l e R s m args below meth c H locs cells slots Z (F0 m pc ls (.int n :: r)) := by
  have hlast : ∀ {cA : ClassId} {ft' : FieldType}, va_K D cl (mj_tys ka ++ [(cA, ft')]) s → va_RA s cA ft' := fun h => (h.2 5 _ rfl).2
  rcases hty with ⟨rfl, rfl⟩ | ⟨rfl, rfl⟩ | ⟨rfl, rfl⟩ | ⟨rfl, rfl⟩ | ⟨rfl, rfl⟩
  · refine va_newa (a0 := (n.toNatClampNeg, .inl fun _ => 0)) hx hb (hwd _ hw) rfl hKt hR.1 hR.2.1 hR.2.2.1 (fun q h => hA q h) (fun cA => rfl) hn0 rfl (by show _ * 4 ≤ _; omega) h1 h2 hdec (fun q cA H' hK' hP hD hS => kk q H' (hR.new hn ?_ hP hD hS))
    rw [mj_ent_arr (by decide)]
    have e : ka 0 = cA := Option.some.inj (((hKt.2 0 _ rfl).2 : s.vm.findClass _ = some _).symm.trans (hlast hK' : s.vm.findClass _ = some _))
    rw [e]; show Sum.inl (cA, _, Sum.inl (mj_row S.2.1 S.1.length _ S.1.length)) = _; rw [mj_row_eq]
  · refine va_newa (a0 := (n.toNatClampNeg, .inr (.inl fun _ => 0))) hx hb (hwd _ hw) rfl hKt hR.1 hR.2.1 hR.2.2.1 (fun q h => hA q h) (fun cA => rfl) hn0 rfl (by show _ * 8 ≤ _; omega) h1 h2 hdec (fun q cA H' hK' hP hD hS => kk q H' (hR.new hn ?_ hP hD hS))
    rw [show (1000 + 1) = 1001 from rfl, mj_ent_larr]
    have e : ka 1 = cA := Option.some.inj (((hKt.2 1 _ rfl).2 : s.vm.findClass _ = some _).symm.trans (hlast hK' : s.vm.findClass _ = some _))
    rw [e]; show Sum.inl (cA, _, Sum.inr (Sum.inl (mj_row S.2.2.1 S.1.length _ S.1.length))) = _; rw [mj_row_eq]
  · refine va_newa (a0 := (n.toNatClampNeg, .inl fun _ => 0)) hx hb (hwd _ hw) rfl hKt hR.1 hR.2.1 hR.2.2.1 (fun q h => hA q h) (fun cA => rfl) hn0 rfl (by show _ * 2 ≤ _; omega) h1 h2 hdec (fun q cA H' hK' hP hD hS => kk q H' (hR.new hn ?_ hP hD hS))
    rw [mj_ent_arr (by decide)]
    have e : ka 2 = cA := Option.some.inj (((hKt.2 2 _ rfl).2 : s.vm.findClass _ = some _).symm.trans (hlast hK' : s.vm.findClass _ = some _))
    rw [e]; show Sum.inl (cA, _, Sum.inl (mj_row S.2.1 S.1.length _ S.1.length)) = _; rw [mj_row_eq]
  · refine va_newa (a0 := (n.toNatClampNeg, .inl fun _ => 0)) hx hb (hwd _ hw) rfl hKt hR.1 hR.2.1 hR.2.2.1 (fun q h => hA q h) (fun cA => rfl) hn0 rfl (by show _ * 1 ≤ _; omega) h1 h2 hdec (fun q cA H' hK' hP hD hS => kk q H' (hR.new hn ?_ hP hD hS))
    rw [mj_ent_arr (by decide)]
    have e : ka 3 = cA := Option.some.inj (((hKt.2 3 _ rfl).2 : s.vm.findClass _ = some _).symm.trans (hlast hK' : s.vm.findClass _ = some _))
    rw [e]; show Sum.inl (cA, _, Sum.inl (mj_row S.2.1 S.1.length _ S.1.length)) = _; rw [mj_row_eq]
  · refine va_newa (a0 := (n.toNatClampNeg, .inl fun _ => 0)) hx hb (hwd _ hw) rfl hKt hR.1 hR.2.1 hR.2.2.1 (fun q h => hA q h) (fun cA => rfl) hn0 rfl (by show _ * 1 ≤ _; omega) h1 h2 hdec (fun q cA H' hK' hP hD hS => kk q H' (hR.new hn ?_ hP hD hS))
    rw [mj_ent_arr (by decide)]
    have e : ka 4 = cA := Option.some.inj (((hKt.2 4 _ rfl).2 : s.vm.findClass _ = some _).symm.trans (hlast hK' : s.vm.findClass _ = some _))
    rw [e]; show Sum.inl (cA, _, Sum.inl (mj_row S.2.1 S.1.length _ S.1.length)) = _; rw [mj_row_eq]
end MJHP
end
section
/-! ONE INSTRUCTION, against the machine -/
theorem mj_wT.pushI {n : Nat} {x : Int32} {r : List Value} (h : mj_wT n r) : mj_wT n (.int x :: r) := h.push trivial
theorem mj_wT.pushL {n : Nat} {x : Int64} {r : List Value} (h : mj_wT n r) : mj_wT n (.long x :: r) := h.push trivial
theorem mj_wT.pushN {n : Nat} {r : List Value} (h : mj_wT n r) : mj_wT n (.null :: r) := h.push trivial
theorem mj_sw_look {nx : Nat → Prop} {d pc : Nat} {dd : Int} {x : Int32} (hd : (pc : Int) + dd = (d : Int)) : ∀ sw : List (Int32 × Nat), mj_sw nx d x sw → ∃ tgt : Nat, nx tgt ∧ (pc : Int) + Op.lookupswitch.offset (sw.map fun q => (q.1.toInt, (q.2 : Int) - (pc : Int))) dd x.toInt = (tgt : Int)
  | [], h => ⟨d, h, hd⟩
  | (k, t) :: r, h => by
    by_cases hk : x = k
    · refine ⟨t, h.1 hk, ?_⟩
      rw [List.map_cons, Op.lookupswitch.offset_cons, if_pos (by rw [hk])]
      show (pc : Int) + ((t : Int) - (pc : Int)) = t
      omega
    · obtain ⟨tgt, h1, h2⟩ := mj_sw_look hd r (h.2 hk)
      refine ⟨tgt, h1, ?_⟩
      rw [List.map_cons, lv_osw hk rfl]
      exact h2
theorem mj_sw_tab {nx : Nat → Prop} {d : Nat} {x : Int32} : ∀ sw : List (Int32 × Nat), mj_sw nx d x sw → (∃ (j : Nat) (k : Int32) (t : Nat), sw[j]? = some (k, t) ∧ x = k ∧ nx t) ∨ ((∀ (j : Nat) (k : Int32) (t : Nat), sw[j]? = some (k, t) → ¬ x = k) ∧ nx d)
  | [], h => Or.inr ⟨fun j k t q => by simp at q, h⟩
  | (k, t) :: r, h => by
    by_cases hk : x = k
    · exact Or.inl ⟨0, k, t, rfl, hk, h.1 hk⟩
    · rcases mj_sw_tab r (h.2 hk) with ⟨j, k', t', h1, h2, h3⟩ | ⟨h1, h2⟩
      · exact Or.inl ⟨j + 1, k', t', h1, h2, h3⟩
      · refine Or.inr ⟨fun j k' t' q => ?_, h2⟩
        cases j with
        | zero => simp at q; rw [← q.1]; exact hk
        | succ j => exact h1 j k' t' q
section MJI
variable {p : Program} {l : Launch} {e : Env} {R : Room} {s : State} {m : MethodId} {args : Array Value} {below : List Frame} {meth : Method} {c : Code} {Z : State → Prop}
variable {D : va_G} {cl : List vw_C} {ft : Nat → Nat → Nat} {ka : Nat → ClassId} {B : Nat} {E : mj_S} {aE : Nat → Nat} {cc : ByteArray} {nL : Nat} {own : String} {Wd : Cond → Prop} {ini : Prop} {rt : Option FieldType} {X : mj_X} {hd : mj_H} {cls : mj_C} {nx : mj_N} {Q : mj_Q}
/-- what holds behind an instruction brings the machine on -/
def mj_Kok (p : Program) (l : Launch) (e : Env) (R : Room) (s : State) (m : MethodId) (args : Array Value) (below : List Frame) (meth : Method) (c : Code) (Z : State → Prop) (D : va_G) (cl : List vw_C) (ft : Nat → Nat → Nat) (ka : Nat → ClassId) (B : Nat) (E : mj_S) (aE : Nat → Nat) (nL : Nat) (K : mj_K) (pc : Nat) : Prop :=
  ∀ (ad : Nat → Nat) (lv : mj_LV) (st : List Value) (S : mj_S) (H : Heap) (locs : List Loc) (cells slots : Nat) (ls : Array Slot), mj_Rh D cl ft ka B s E aE ad S H locs cells slots → mj_lr ad nL lv ls → mj_wL S.1.length lv → mj_wT S.1.length st → K lv st S → W p l e R s m args below meth c H locs cells slots Z (F0 m pc ls (st.map (mj_tr ad)))
/-- a return's end -/
def mj_Qok (s : State) (below : List Frame) (Z : State → Prop) (D : va_G) (cl : List vw_C) (ft : Nat → Nat → Nat) (ka : Nat → ClassId) (B : Nat) (E : mj_S) (aE : Nat → Nat) (Q : mj_Q) : Prop :=
  ∀ (ad : Nat → Nat) (v : Option Value) (S : mj_S) (H : Heap) (locs : List Loc) (cells slots : Nat) (t : State), mj_Rh D cl ft ka B s E aE ad S H locs cells slots → Q (.inl v) S → (∀ w, v = some w → mj_wv S.1.length w) → t.heap = H → t.status = .running → Ended t below (.returned (v.map (mj_tr ad))) → s.WarmedH t.vm → (∃ L : List Loc, (∀ q ∈ L, B ≤ q.base) ∧ s.sameButNew ({ t with vm := s.vm } : State) L cells slots) → Z t
/-- what holds of a method's body all through, beside its code -/
def mj_Gr (R : Room) (s : State) (meth : Method) (B : Nat) (E : mj_S) (aE : Nat → Nat) (X : mj_X) (ini : Prop) : Prop :=
  (ini → meth.name = "<init>") ∧ B ≤ s.heap.size ∧ (X.2.2.1 ≤ E.2.2.2.2.1 + R.cells ∧ X.2.2.2 ≤ E.2.2.2.2.2 + R.slots) ∧ (X.2.2.1 = 601024 ∧ X.2.2.2 = 7293034) ∧ (8 ≤ R.frames ∧ 300 ≤ R.locals) ∧ (va_X (aE 900000) X.1.1 X.1.2 s s.heap ∧ aE 900000 < s.heap.size ∧ ¬ B ≤ aE 900000)
set_option maxHeartbeats 4000000 in
theorem mj_in_snd (hx : p.tables.exec = Jvm.exec) (hb : c.code = cc) (hml : c.maxLocals = nL) (hown : s.vm.findClass own = some m.cls) (hlk : meth.locks = false) (hrt : meth.sig.returnType = rt) (hwd : ∀ w, Wd w → w.before args s = true) (hKt : va_K D cl (mj_tys ka) s) (hco : mj_cok Wd cl ft) (hG : mj_Gr R s meth B E aE X ini)
    {x : mj_I} (hdec : decode cc x.1 = .ok (x.2.1, x.2.2.1)) (hok : mj_iok Wd cl ft own nL ini rt x) {K : mj_K} (hK : mj_Kok p l e R s m args below meth c Z D cl ft ka B E aE nL K (x.1 + x.2.2.1)) (hN : ∀ pc, mj_Kok p l e R s m args below meth c Z D cl ft ka B E aE nL (fun lv st S => nx pc lv st S Q) pc) (hQ : mj_Qok s below Z D cl ft ka B E aE Q)
    (hls : ∀ i, x.2.1 = .ldc i → x.2.2.2.1.2.2 ≠ 0 → ∃ tx, vk_R own i tx (aE x.2.2.2.1.1) s)
    (hC : ∀ n, (x.2.1 = .invokestatic n ∨ x.2.1 = .invokevirtual n ∨ (x.2.1 = .invokespecial n ∧ x.2.2.2.1.2.2 = 0)) → mj_Kok p l e R s m args below meth c Z D cl ft ka B E aE nL (fun lv st S => mj_in X hd cls nx Q x K lv st S) x.1)
    (hT : ∀ n, x.2.1 = .new n → x.2.2.2.1.2.2 ≠ 0 → mj_Kok p l e R s m args below meth c Z D cl ft ka B E aE nL (fun lv st S => mj_in X hd cls nx Q x K lv st S) x.1)
    {ad : Nat → Nat} {lv : mj_LV} {st : List Value} {S : mj_S} {H : Heap} {locs : List Loc} {cells slots : Nat} {ls : Array Slot} (hR : mj_Rh D cl ft ka B s E aE ad S H locs cells slots) (hl : mj_lr ad nL lv ls) (hwl : mj_wL S.1.length lv) (hwt : mj_wT S.1.length st) (h : mj_in X hd cls nx Q x K lv st S) :
    W p l e R s m args below meth c H locs cells slots Z (F0 m x.1 ls (st.map (mj_tr ad))) := by
  obtain ⟨pc, i, len, ⟨a, b, t⟩, k, kl, sw⟩ := x
  have h' := h
  unfold mj_in at h
  unfold mj_iok at hok
  have hP0 := hR.1
  obtain ⟨g1, g2, g3, g4, g5, g6⟩ := hG
  have hA : ∀ q, s.heap.size ≤ q → B ≤ q := fun q hq => Nat.le_trans g2 hq
  cases i <;> dsimp only at h hok hdec hK hls hC hT ⊢
  case iconst n =>
    obtain ⟨rfl, hk⟩ := hok
    exact lv_iconst hx hb hdec hk (hK ad lv _ S H locs cells slots ls hR hl hwl (hwt.pushI) h)
  case bipush n =>
    obtain ⟨rfl, hk⟩ := hok
    exact lv_bipush hx hb hdec hk (hK ad lv _ S H locs cells slots ls hR hl hwl (hwt.pushI) h)
  case sipush n =>
    obtain ⟨rfl, hk⟩ := hok
    exact lv_sipush hx hb hdec hk (hK ad lv _ S H locs cells slots ls hR hl hwl (hwt.pushI) h)
  case lconst n =>
    obtain ⟨rfl, hk⟩ := hok
    exact lv_lconst hx hb hdec hk (hK ad lv _ S H locs cells slots ls hR hl hwl (hwt.pushL) h)
  case ldc2_w n =>
    obtain ⟨rfl, hk⟩ := hok
    exact lv_ldc2 hx hb hown (hwd _ hk) hdec (hK ad lv _ S H locs cells slots ls hR hl hwl (hwt.pushL) h)
  case iload n =>
    obtain ⟨rfl, rfl⟩ := hok
    obtain ⟨v, h1, h2⟩ := mj_gI_sp h
    exact lv_iload hx hb hdec (hl.2.2 _ _ h1) (hK ad lv _ S H locs cells slots ls hR hl hwl (hwt.pushI) h2)
  case iload_n n =>
    obtain ⟨rfl, rfl⟩ := hok
    obtain ⟨v, h1, h2⟩ := mj_gI_sp h
    exact lv_iload_n hx hb hdec rfl (hl.2.2 _ _ h1) (hK ad lv _ S H locs cells slots ls hR hl hwl (hwt.pushI) h2)
  case lload n =>
    obtain ⟨rfl, rfl⟩ := hok
    obtain ⟨v, h1, h2⟩ := mj_gL_sp h
    exact lv_lload hx hb hdec (hl.2.2 _ _ h1) (hK ad lv _ S H locs cells slots ls hR hl hwl (hwt.pushL) h2)
  case lload_n n =>
    obtain ⟨rfl, rfl⟩ := hok
    obtain ⟨v, h1, h2⟩ := mj_gL_sp h
    exact lv_lload_n hx hb hdec rfl (hl.2.2 _ _ h1) (hK ad lv _ S H locs cells slots ls hR hl hwl (hwt.pushL) h2)
  case aload n =>
    obtain ⟨rfl, rfl⟩ := hok
    rcases mj_gA_sp h with ⟨v, h1, h2⟩ | ⟨h1, h2⟩
    · exact lv_aload hx hb hdec (hl.2.2 _ _ h1) (hK ad lv _ S H locs cells slots ls hR hl hwl (hwt.push (hwl _ _ h1)) h2)
    · exact lv_aloadN hx hb hdec (hl.2.2 _ _ h1) (hK ad lv _ S H locs cells slots ls hR hl hwl (hwt.pushN) h2)
  case aload_n n =>
    obtain ⟨rfl, rfl⟩ := hok
    rcases mj_gA_sp h with ⟨v, h1, h2⟩ | ⟨h1, h2⟩
    · exact lv_aload_n hx hb hdec rfl (hl.2.2 _ _ h1) (hK ad lv _ S H locs cells slots ls hR hl hwl (hwt.push (hwl _ _ h1)) h2)
    · exact lv_aload_nN hx hb hdec rfl (hl.2.2 _ _ h1) (hK ad lv _ S H locs cells slots ls hR hl hwl (hwt.pushN) h2)
  case istore n =>
    obtain ⟨⟨rfl, rfl⟩, hn⟩ := hok
    obtain ⟨v, r, rfl, h2⟩ := mj_pI_sp h
    exact lv_istore hx hb hdec hl.has hn rfl (fun ls' hl' => hK ad _ r S H locs cells slots ls' hR (mj_lr.store1 (v := .int v) hl') (hwl.store trivial) hwt.tail h2)
  case istore_n n =>
    obtain ⟨⟨rfl, rfl⟩, hn⟩ := hok
    obtain ⟨v, r, rfl, h2⟩ := mj_pI_sp h
    exact lv_istore_n hx hb hdec rfl hl.has hn rfl (fun ls' hl' => hK ad _ r S H locs cells slots ls' hR (mj_lr.store1 (v := .int v) hl') (hwl.store trivial) hwt.tail h2)
  case lstore n =>
    obtain ⟨⟨rfl, rfl⟩, hn⟩ := hok
    obtain ⟨v, r, rfl, h2⟩ := mj_pL_sp h
    exact lv_lstore hx hb hdec hl.has hn rfl (fun ls' hl' => hK ad _ r S H locs cells slots ls' hR (mj_lr.store2 (v := v) hl') hwl.store2 hwt.tail h2)
  case lstore_n n =>
    obtain ⟨⟨rfl, rfl⟩, hn⟩ := hok
    obtain ⟨v, r, rfl, h2⟩ := mj_pL_sp h
    exact lv_lstore_n hx hb hdec rfl hl.has hn rfl (fun ls' hl' => hK ad _ r S H locs cells slots ls' hR (mj_lr.store2 (v := v) hl') hwl.store2 hwt.tail h2)
  case astore n =>
    obtain ⟨⟨rfl, rfl⟩, hn⟩ := hok
    obtain ⟨v, r, rfl, h2⟩ := mj_pR_sp h
    exact lv_astore hx hb hdec hl.has hn rfl (fun ls' hl' => hK ad _ r S H locs cells slots ls' hR (mj_lr.store1 (v := .ref v) hl') (hwl.store hwt.head) hwt.tail h2)
  case astore_n n =>
    obtain ⟨⟨rfl, rfl⟩, hn⟩ := hok
    obtain ⟨v, r, rfl, h2⟩ := mj_pR_sp h
    exact lv_astore_n hx hb hdec rfl hl.has hn rfl (fun ls' hl' => hK ad _ r S H locs cells slots ls' hR (mj_lr.store1 (v := .ref v) hl') (hwl.store hwt.head) hwt.tail h2)
  case iinc n z =>
    obtain ⟨⟨rfl, rfl, hk⟩, hn⟩ := hok
    obtain ⟨v, h1, h2⟩ := mj_gI_sp h
    obtain ⟨j, hj⟩ := List.getElem?_of_mem (mj_ps_mem (ad := ad) (q := (a, .int v)) |>.mpr ⟨_, h1, rfl⟩)
    exact lv_iinc (v := v + k) hx hb hdec hl.has hj (by rw [hk]) hn rfl (fun ls' hl' => hK ad _ st S H locs cells slots ls' hR (mj_lr.store1 (v := .int (v + k)) hl') (hwl.store trivial) hwt h2)
  case iadd =>
    subst hok
    obtain ⟨y, r, rfl, h1⟩ := mj_pI_sp h
    obtain ⟨z, r, rfl, h2⟩ := mj_pI_sp h1
    exact lv_iadd hx hb hdec (hK ad lv _ S H locs cells slots ls hR hl hwl hwt.tail.tail.pushI h2)
  case isub =>
    subst hok
    obtain ⟨y, r, rfl, h1⟩ := mj_pI_sp h
    obtain ⟨z, r, rfl, h2⟩ := mj_pI_sp h1
    exact lv_isub hx hb hdec (hK ad lv _ S H locs cells slots ls hR hl hwl hwt.tail.tail.pushI h2)
  case imul =>
    subst hok
    obtain ⟨y, r, rfl, h1⟩ := mj_pI_sp h
    obtain ⟨z, r, rfl, h2⟩ := mj_pI_sp h1
    exact lv_imul hx hb hdec (hK ad lv _ S H locs cells slots ls hR hl hwl hwt.tail.tail.pushI h2)
  case iand =>
    subst hok
    obtain ⟨y, r, rfl, h1⟩ := mj_pI_sp h
    obtain ⟨z, r, rfl, h2⟩ := mj_pI_sp h1
    exact lv_iand hx hb hdec (hK ad lv _ S H locs cells slots ls hR hl hwl hwt.tail.tail.pushI h2)
  case ior =>
    subst hok
    obtain ⟨y, r, rfl, h1⟩ := mj_pI_sp h
    obtain ⟨z, r, rfl, h2⟩ := mj_pI_sp h1
    exact lv_ior hx hb hdec (hK ad lv _ S H locs cells slots ls hR hl hwl hwt.tail.tail.pushI h2)
  case ixor =>
    subst hok
    obtain ⟨y, r, rfl, h1⟩ := mj_pI_sp h
    obtain ⟨z, r, rfl, h2⟩ := mj_pI_sp h1
    exact lv_ixor hx hb hdec (hK ad lv _ S H locs cells slots ls hR hl hwl hwt.tail.tail.pushI h2)
  case ishl =>
    subst hok
    obtain ⟨y, r, rfl, h1⟩ := mj_pI_sp h
    obtain ⟨z, r, rfl, h2⟩ := mj_pI_sp h1
    exact lv_ishl hx hb hdec (hK ad lv _ S H locs cells slots ls hR hl hwl hwt.tail.tail.pushI h2)
  case ishr =>
    subst hok
    obtain ⟨y, r, rfl, h1⟩ := mj_pI_sp h
    obtain ⟨z, r, rfl, h2⟩ := mj_pI_sp h1
    exact lv_ishr hx hb hdec (hK ad lv _ S H locs cells slots ls hR hl hwl hwt.tail.tail.pushI h2)
  case ladd =>
    subst hok
    obtain ⟨y, r, rfl, h1⟩ := mj_pL_sp h
    obtain ⟨z, r, rfl, h2⟩ := mj_pL_sp h1
    exact lv_ladd hx hb hdec (hK ad lv _ S H locs cells slots ls hR hl hwl hwt.tail.tail.pushL h2)
  case lsub =>
    subst hok
    obtain ⟨y, r, rfl, h1⟩ := mj_pL_sp h
    obtain ⟨z, r, rfl, h2⟩ := mj_pL_sp h1
    exact lv_lsub hx hb hdec (hK ad lv _ S H locs cells slots ls hR hl hwl hwt.tail.tail.pushL h2)
  case lmul =>
    subst hok
    obtain ⟨y, r, rfl, h1⟩ := mj_pL_sp h
    obtain ⟨z, r, rfl, h2⟩ := mj_pL_sp h1
    exact lv_lmul hx hb hdec (hK ad lv _ S H locs cells slots ls hR hl hwl hwt.tail.tail.pushL h2)
  case land =>
    subst hok
    obtain ⟨y, r, rfl, h1⟩ := mj_pL_sp h
    obtain ⟨z, r, rfl, h2⟩ := mj_pL_sp h1
    exact lv_land hx hb hdec (hK ad lv _ S H locs cells slots ls hR hl hwl hwt.tail.tail.pushL h2)
  case lor =>
    subst hok
    obtain ⟨y, r, rfl, h1⟩ := mj_pL_sp h
    obtain ⟨z, r, rfl, h2⟩ := mj_pL_sp h1
    exact lv_lor hx hb hdec (hK ad lv _ S H locs cells slots ls hR hl hwl hwt.tail.tail.pushL h2)
  case lushr =>
    subst hok
    obtain ⟨y, r, rfl, h1⟩ := mj_pI_sp h
    obtain ⟨z, r, rfl, h2⟩ := mj_pL_sp h1
    exact lv_lushr hx hb hdec rfl (hK ad lv _ S H locs cells slots ls hR hl hwl hwt.tail.tail.pushL h2)
  case lshl =>
    subst hok
    obtain ⟨y, r, rfl, h1⟩ := mj_pI_sp h
    obtain ⟨z, r, rfl, h2⟩ := mj_pL_sp h1
    exact lv_lshl hx hb hdec rfl (hK ad lv _ S H locs cells slots ls hR hl hwl hwt.tail.tail.pushL h2)
  case lshr =>
    subst hok
    obtain ⟨y, r, rfl, h1⟩ := mj_pI_sp h
    obtain ⟨z, r, rfl, h2⟩ := mj_pL_sp h1
    exact lv_lshr hx hb hdec rfl (hK ad lv _ S H locs cells slots ls hR hl hwl hwt.tail.tail.pushL h2)
  case idiv =>
    subst hok
    obtain ⟨y, r, rfl, h1⟩ := mj_pI_sp h
    obtain ⟨z, r, rfl, hne, h2⟩ := mj_pI_sp h1
    exact lv_idiv hx hb hdec hne (hK ad lv _ S H locs cells slots ls hR hl hwl hwt.tail.tail.pushI h2)
  case irem =>
    subst hok
    obtain ⟨y, r, rfl, h1⟩ := mj_pI_sp h
    obtain ⟨z, r, rfl, hne, h2⟩ := mj_pI_sp h1
    exact lv_irem hx hb hdec hne (hK ad lv _ S H locs cells slots ls hR hl hwl hwt.tail.tail.pushI h2)
  case ldiv =>
    subst hok
    obtain ⟨y, r, rfl, h1⟩ := mj_pL_sp h
    obtain ⟨z, r, rfl, hne, h2⟩ := mj_pL_sp h1
    exact lv_ldiv hx hb hdec hne (hK ad lv _ S H locs cells slots ls hR hl hwl hwt.tail.tail.pushL h2)
  case lrem =>
    subst hok
    obtain ⟨y, r, rfl, h1⟩ := mj_pL_sp h
    obtain ⟨z, r, rfl, hne, h2⟩ := mj_pL_sp h1
    exact lv_lrem hx hb hdec hne (hK ad lv _ S H locs cells slots ls hR hl hwl hwt.tail.tail.pushL h2)
  case ineg =>
    subst hok
    obtain ⟨y, r, rfl, h1⟩ := mj_pI_sp h
    exact lv_ineg hx hb hdec (hK ad lv _ S H locs cells slots ls hR hl hwl hwt.tail.pushI h1)
  case lneg =>
    subst hok
    obtain ⟨y, r, rfl, h1⟩ := mj_pL_sp h
    exact lv_lneg hx hb hdec (hK ad lv _ S H locs cells slots ls hR hl hwl hwt.tail.pushL h1)
  case i2c =>
    subst hok
    obtain ⟨y, r, rfl, h1⟩ := mj_pI_sp h
    exact lv_i2c hx hb hdec rfl (hK ad lv _ S H locs cells slots ls hR hl hwl hwt.tail.pushI h1)
  case i2b =>
    subst hok
    obtain ⟨y, r, rfl, h1⟩ := mj_pI_sp h
    exact lv_i2b hx hb hdec rfl (hK ad lv _ S H locs cells slots ls hR hl hwl hwt.tail.pushI h1)
  case i2l =>
    subst hok
    obtain ⟨y, r, rfl, h1⟩ := mj_pI_sp h
    exact lv_i2l hx hb hdec rfl (hK ad lv _ S H locs cells slots ls hR hl hwl hwt.tail.pushL h1)
  case l2i =>
    subst hok
    obtain ⟨y, r, rfl, h1⟩ := mj_pL_sp h
    exact lv_l2i hx hb hdec rfl (hK ad lv _ S H locs cells slots ls hR hl hwl hwt.tail.pushI h1)
  case lcmp =>
    subst hok
    obtain ⟨y, r, rfl, h1⟩ := mj_pL_sp h
    obtain ⟨z, r, rfl, h2⟩ := mj_pL_sp h1
    exact W.lcmp hx hb hdec (hK ad lv _ S H locs cells slots ls hR hl hwl hwt.tail.tail.pushI h2)
  case dup =>
    subst hok
    obtain ⟨v, r, rfl, hv, h1⟩ := mj_pV_sp h
    exact lv_dup hx hb hdec (by rw [mj_tr_cat]; exact hv) (hK ad lv _ S H locs cells slots ls hR hl hwl (hwt.push hwt.head) h1)
  case pop =>
    subst hok
    obtain ⟨v, r, rfl, hv, h1⟩ := mj_pV_sp h
    exact lv_pop hx hb hdec (by rw [mj_tr_cat]; exact hv) (hK ad lv _ S H locs cells slots ls hR hl hwl hwt.tail h1)
  case goto off =>
    obtain ⟨rfl, hk⟩ := hok
    exact lv_goto hx hb hdec hk (hN a ad lv st S H locs cells slots ls hR hl hwl hwt h)
  case ifCond cd off =>
    obtain ⟨rfl, hk⟩ := hok
    obtain ⟨y, r, rfl, h1⟩ := mj_pI_sp h
    have kt := fun q => hN a ad lv r S H locs cells slots ls hR hl hwl hwt.tail (h1.1 q)
    have kf := fun q => hK ad lv r S H locs cells slots ls hR hl hwl hwt.tail (h1.2 q)
    cases cd
    · exact lv_if_eq hx hb hdec hk kt kf
    · exact lv_if_ne hx hb hdec hk kt (fun q => kf (fun n => n q))
    · exact lv_if_lt hx hb hdec hk kt kf
    · exact lv_if_ge hx hb hdec hk kt kf
    · exact lv_if_gt hx hb hdec hk kt kf
    · exact lv_if_le hx hb hdec hk kt kf
  case if_icmp cd off =>
    obtain ⟨rfl, hk⟩ := hok
    obtain ⟨y, r, rfl, h1⟩ := mj_pI_sp h
    obtain ⟨z, r, rfl, h1⟩ := mj_pI_sp h1
    have kt := fun q => hN a ad lv r S H locs cells slots ls hR hl hwl hwt.tail.tail (h1.1 q)
    have kf := fun q => hK ad lv r S H locs cells slots ls hR hl hwl hwt.tail.tail (h1.2 q)
    cases cd
    · exact lv_icmp_eq hx hb hdec hk kt kf
    · exact lv_icmp_ne hx hb hdec hk kt (fun q => kf (fun n => n q))
    · exact lv_icmp_lt hx hb hdec hk kt kf
    · exact lv_icmp_ge hx hb hdec hk kt kf
    · exact lv_icmp_gt hx hb hdec hk kt kf
    · exact lv_icmp_le hx hb hdec hk kt kf
  case ldc n =>
    obtain ⟨rfl, hk⟩ := hok
    rcases hk with ⟨rfl, hk⟩ | ⟨hk, hk2⟩
    · exact lv_ldc hx hb hown (hwd _ hk) hdec (hK ad lv _ S H locs cells slots ls hR hl hwl hwt.pushI h)
    · obtain ⟨tx, hz⟩ := hls n rfl hk
      split at h
      · exact absurd rfl hk
      · have e : ad a = aE a := hR.2.2.2.2.1.2 a (Or.inr hk2)
        refine va_ldcS hx hb hown hz hdec ?_
        rw [← e]
        exact hK ad lv (.ref a :: st) S H locs cells slots ls hR hl hwl (hwt.push (Or.inr hk2)) h
  case tableswitch dd lo hi offs =>
    obtain ⟨hk, hsz, hhi, hj⟩ := hok
    obtain ⟨y, r, rfl, h1⟩ := mj_pI_sp h
    rcases mj_sw_tab sw h1 with ⟨j, k', t', q1, q2, q3⟩ | ⟨q1, q2⟩
    · have hjl : j < offs.size := by rw [hsz]; exact (List.getElem?_eq_some_iff.mp q1).1
      obtain ⟨o, k2, t2, w1, w2, w3, w4⟩ := hj j hjl
      rw [w2] at q1
      cases q1
      subst q2
      have e : (y.toInt - lo).toNat = j := by omega
      exact lv_tableIn hx hb hdec (by omega) (by omega) (by rw [e]; exact w1) w4 (hN t' ad lv r S H locs cells slots ls hR hl hwl hwt.tail q3)
    · refine lv_tableOut hx hb hdec ?_ hk (hN a ad lv r S H locs cells slots ls hR hl hwl hwt.tail q2)
      by_cases hlo : y.toInt < lo
      · exact Or.inl hlo
      · by_cases hhi2 : hi < y.toInt
        · exact Or.inr hhi2
        · exfalso
          obtain ⟨o, k2, t2, w1, w2, w3, w4⟩ := hj (y.toInt - lo).toNat (by omega)
          exact q1 _ _ _ w2 (Int32.toInt_inj.mp (by omega))
  case lookupswitch dd ps =>
    obtain ⟨hk, hp, hps⟩ := hok
    obtain ⟨y, r, rfl, h1⟩ := mj_pI_sp h
    obtain ⟨tgt, q1, q2⟩ := mj_sw_look hk sw h1
    exact lv_lookup hx hb hdec hp (by rw [hps]) q2 (hN tgt ad lv r S H locs cells slots ls hR hl hwl hwt.tail q1)
  case getfield n =>
    obtain ⟨rfl, C, T, N, hc, hbN, hlk2, htg⟩ := hok
    obtain ⟨o, r, rfl, h1⟩ := mj_pR_sp h
    obtain ⟨h2, h3⟩ := mj_tt_sp h1
    obtain ⟨n', ho, hbn⟩ := mj_ob_sp h2
    refine mj_h_get hx hb hown hKt hwd hco hR ho hbn hc hbN hlk2 hdec ?_
    rcases htg with ⟨rfl, hft⟩ | ⟨ht, hft⟩
    · have e : mj_fv ad S o b (ft a b) = .int (S.2.1 o b) := by
        unfold mj_fv
        split
        · rename_i q; exact absurd q hft
        · rfl
      rw [e]
      exact hK ad lv (.int _ :: r) S H locs cells slots ls hR hl hwl hwt.tail.pushI h3
    · split at h3
      · exact absurd rfl ht
      · obtain ⟨q, q1, q2⟩ := mj_so_sp h3
        have e : mj_fv ad S o b (ft a b) = .ref (ad q) := by
          rw [hft]
          unfold mj_fv
          simp only [q1]
        rw [e]
        exact hK ad lv (.ref q :: r) S H locs cells slots ls hR hl hwl (hwt.tail.push (hR.2.2.2.1.2 _ _ _ q1)) q2
  case putfield n =>
    obtain ⟨rfl, C, T, N, ty, hc, hbN, hlk2, hfin, hty, htg⟩ := hok
    have hfin' : (T b).2.2.2 = false ∨ ((T b).2.2.2 = true ∧ meth.name = "<init>" ∧ (T b).1 = own) := hfin.imp id fun q => ⟨q.1, g1 q.2.1, q.2.2⟩
    have notr : ∀ {S' : mj_S} {j : Nat} {v : Int32} {o : Nat}, S' = (S.1, mj_up S.2.1 o b v, S.2.2) → j ≠ b → mj_fv ad S' o j (ft a j) = mj_fv ad S o j (ft a j) := by
      intro S' j v o hS hj
      subst hS
      simp [mj_fv, mj_up, hj]
    have noti : ∀ {v : Int32} {o : Nat}, ft a b ≠ 2 → mj_fv ad (S.1, mj_up S.2.1 o b v, S.2.2) o b (ft a b) = .int v := by
      intro v o hft
      unfold mj_fv
      split
      · rename_i q; exact absurd q hft
      · simp [mj_up]
    rcases htg with ⟨rfl, rfl, hft⟩ | ⟨rfl, hrt2, hft⟩ | ⟨rfl, rfl, hft⟩
    · obtain ⟨v, r, rfl, h1⟩ := mj_pI_sp h
      obtain ⟨o, r, rfl, h1⟩ := mj_pR_sp h1
      obtain ⟨h2, h3⟩ := mj_tt_sp h1
      obtain ⟨n', ho, hbn⟩ := mj_ob_sp h2
      exact mj_h_put hx hb hown hKt hwd hco hR (v := .int v) (S' := (S.1, mj_up S.2.1 o b v, S.2.2)) ho hbn hc hbN hlk2 hdec hfin' hty rfl rfl rfl (fun b' hb' => ⟨mj_up_ne hb', rfl, rfl⟩) (fun j q hq => hR.2.2.2.1.2 o j q hq) rfl (noti hft) (fun j hj => notr rfl hj)
        (fun H' locs' hR' => hK ad lv r _ H' locs' cells slots ls hR' hl hwl hwt.tail.tail h3)
    · obtain ⟨v, r, rfl, h1⟩ := mj_pR_sp h
      obtain ⟨o, r, rfl, h1⟩ := mj_pR_sp h1
      obtain ⟨h2, h3⟩ := mj_tt_sp h1
      obtain ⟨n', ho, hbn⟩ := mj_ob_sp h2
      refine mj_h_put hx hb hown hKt hwd hco hR (v := .ref (ad v)) (S' := (S.1, S.2.1, S.2.2.1, mj_up S.2.2.2.1 o b (some v), S.2.2.2.2)) ho hbn hc hbN hlk2 hdec hfin' hty ?_ ?_ rfl (fun b' hb' => ⟨rfl, rfl, mj_up_ne hb'⟩) ?_ rfl ?_ ?_
        (fun H' locs' hR' => hK ad lv r _ H' locs' cells slots ls hR' hl hwl hwt.tail.tail h3)
      · rcases hrt2 with ⟨n, rfl⟩ | ⟨t, rfl⟩ <;> rfl
      · rcases hrt2 with ⟨n, rfl⟩ | ⟨t, rfl⟩ <;> rfl
      · intro j q hq
        simp only [mj_up] at hq
        split at hq
        · split at hq
          · cases hq; exact hwt.head
          · exact hR.2.2.2.1.2 o j q hq
        · exact hR.2.2.2.1.2 o j q hq
      · rw [hft]
        simp [mj_fv, mj_up]
      · intro j hj
        simp [mj_fv, mj_up, hj]
    · obtain ⟨v, r, rfl, h1⟩ := mj_pI_sp h
      obtain ⟨o, r, rfl, h1⟩ := mj_pR_sp h1
      obtain ⟨h2, hv, h3⟩ := mj_tt_sp h1
      obtain ⟨n', ho, hbn⟩ := mj_ob_sp h2
      refine mj_h_put hx hb hown hKt hwd hco hR (v := .int v) (S' := (S.1, mj_up S.2.1 o b v, S.2.2)) ho hbn hc hbN hlk2 hdec hfin' hty ?_ ?_ rfl (fun b' hb' => ⟨mj_up_ne hb', rfl, rfl⟩) (fun j q hq => hR.2.2.2.1.2 o j q hq) rfl (noti hft) (fun j hj => notr rfl hj)
        (fun H' locs' hR' => hK ad lv r _ H' locs' cells slots ls hR' hl hwl hwt.tail.tail h3)
      · rcases hv with rfl | rfl <;> rfl
      · rcases hv with rfl | rfl <;> rfl
  case iaload =>
    subst hok
    split at h
    · unfold mj_ald at h
      obtain ⟨y, r, rfl, h1⟩ := mj_pI_sp h
      obtain ⟨o, r, rfl, h1⟩ := mj_pR_sp h1
      obtain ⟨n, h2, h3, h4⟩ := mj_so_sp h1
      exact mj_h_ald hx hb hKt hR (mj_ar_sp h2) h3 hdec (Or.inl ⟨rfl, rfl⟩) (hK ad lv (.int _ :: r) S H locs cells slots ls hR hl hwl hwt.tail.tail.pushI h4)
    · obtain ⟨y, r, rfl, h1⟩ := mj_pI_sp h
      obtain ⟨o, r, rfl, rfl, h3, h4⟩ := mj_pR_sp h1
      have e9 : ad 900000 = aE 900000 := hR.2.2.2.2.1.2 _ (Or.inr (Nat.le_refl _))
      show W p l e R s m args below meth c H locs cells slots Z (F0 m pc ls (.int y :: .ref (ad 900000) :: r.map (mj_tr ad)))
      rw [e9]
      exact va_sld hx hb g6.1 g6.2.1 (A := fun q => B ≤ q) g6.2.2 hR.2.2.1 h3 hdec (hK ad lv (.int _ :: r) S H locs cells slots ls hR hl hwl hwt.tail.tail.pushI h4)
  case caload =>
    subst hok
    unfold mj_ald at h
    obtain ⟨y, r, rfl, h1⟩ := mj_pI_sp h
    obtain ⟨o, r, rfl, h1⟩ := mj_pR_sp h1
    obtain ⟨n, h2, h3, h4⟩ := mj_so_sp h1
    exact mj_h_ald hx hb hKt hR (mj_ar_sp h2) h3 hdec (Or.inr (Or.inl ⟨rfl, rfl⟩)) (hK ad lv (.int _ :: r) S H locs cells slots ls hR hl hwl hwt.tail.tail.pushI h4)
  case baload =>
    subst hok
    split at h <;> unfold mj_ald at h
    · obtain ⟨y, r, rfl, h1⟩ := mj_pI_sp h
      obtain ⟨o, r, rfl, h1⟩ := mj_pR_sp h1
      obtain ⟨n, h2, h3, h4⟩ := mj_so_sp h1
      exact mj_h_ald hx hb hKt hR (mj_ar_sp h2) h3 hdec (Or.inr (Or.inr (Or.inl ⟨rfl, rfl⟩))) (hK ad lv (.int _ :: r) S H locs cells slots ls hR hl hwl hwt.tail.tail.pushI h4)
    · obtain ⟨y, r, rfl, h1⟩ := mj_pI_sp h
      obtain ⟨o, r, rfl, h1⟩ := mj_pR_sp h1
      obtain ⟨n, h2, h3, h4⟩ := mj_so_sp h1
      exact mj_h_ald hx hb hKt hR (mj_ar_sp h2) h3 hdec (Or.inr (Or.inr (Or.inr ⟨rfl, rfl⟩))) (hK ad lv (.int _ :: r) S H locs cells slots ls hR hl hwl hwt.tail.tail.pushI h4)
  case laload =>
    subst hok
    obtain ⟨y, r, rfl, h1⟩ := mj_pI_sp h
    obtain ⟨o, r, rfl, h1⟩ := mj_pR_sp h1
    obtain ⟨n, h2, h3, h4⟩ := mj_so_sp h1
    exact mj_h_lald hx hb hKt hR (mj_ar_sp h2) h3 hdec (hK ad lv (.long _ :: r) S H locs cells slots ls hR hl hwl hwt.tail.tail.pushL h4)
  case iastore =>
    subst hok
    unfold mj_ast at h
    obtain ⟨v, r, rfl, h1⟩ := mj_pI_sp h
    obtain ⟨y, r, rfl, h1⟩ := mj_pI_sp h1
    obtain ⟨o, r, rfl, h1⟩ := mj_pR_sp h1
    obtain ⟨n, h2, h3, h4⟩ := mj_so_sp h1
    exact mj_h_ast (nar := fun v => v) hx hb hKt hR (mj_ar_sp h2) h3 hdec (Or.inl ⟨rfl, rfl, rfl⟩) (fun H' locs' hR' => hK ad lv r _ H' locs' cells slots ls hR' hl hwl hwt.tail.tail.tail h4)
  case castore =>
    subst hok
    unfold mj_ast at h
    obtain ⟨v, r, rfl, h1⟩ := mj_pI_sp h
    obtain ⟨y, r, rfl, h1⟩ := mj_pI_sp h1
    obtain ⟨o, r, rfl, h1⟩ := mj_pR_sp h1
    obtain ⟨n, h2, h3, h4⟩ := mj_so_sp h1
    exact mj_h_ast (nar := fun v => vp_nar .char v) hx hb hKt hR (mj_ar_sp h2) h3 hdec (Or.inr (Or.inl ⟨rfl, rfl, rfl⟩)) (fun H' locs' hR' => hK ad lv r _ H' locs' cells slots ls hR' hl hwl hwt.tail.tail.tail h4)
  case bastore =>
    subst hok
    split at h <;> unfold mj_ast at h
    · obtain ⟨v, r, rfl, h1⟩ := mj_pI_sp h
      obtain ⟨y, r, rfl, h1⟩ := mj_pI_sp h1
      obtain ⟨o, r, rfl, h1⟩ := mj_pR_sp h1
      obtain ⟨n, h2, h3, h4⟩ := mj_so_sp h1
      exact mj_h_ast (nar := fun v => vp_nar .boolean v) hx hb hKt hR (mj_ar_sp h2) h3 hdec (Or.inr (Or.inr (Or.inl ⟨rfl, rfl, rfl⟩))) (fun H' locs' hR' => hK ad lv r _ H' locs' cells slots ls hR' hl hwl hwt.tail.tail.tail h4)
    · obtain ⟨v, r, rfl, h1⟩ := mj_pI_sp h
      obtain ⟨y, r, rfl, h1⟩ := mj_pI_sp h1
      obtain ⟨o, r, rfl, h1⟩ := mj_pR_sp h1
      obtain ⟨n, h2, h3, h4⟩ := mj_so_sp h1
      exact mj_h_ast (nar := fun v => vp_nar .byte v) hx hb hKt hR (mj_ar_sp h2) h3 hdec (Or.inr (Or.inr (Or.inr ⟨rfl, rfl, rfl⟩))) (fun H' locs' hR' => hK ad lv r _ H' locs' cells slots ls hR' hl hwl hwt.tail.tail.tail h4)
  case lastore =>
    subst hok
    obtain ⟨v, r, rfl, h1⟩ := mj_pL_sp h
    obtain ⟨y, r, rfl, h1⟩ := mj_pI_sp h1
    obtain ⟨o, r, rfl, h1⟩ := mj_pR_sp h1
    obtain ⟨n, h2, h3, h4⟩ := mj_so_sp h1
    exact mj_h_last hx hb hKt hR (mj_ar_sp h2) h3 hdec (fun H' locs' hR' => hK ad lv r _ H' locs' cells slots ls hR' hl hwl hwt.tail.tail.tail h4)
  case arraylength =>
    subst hok
    split at h
    · obtain ⟨o, r, rfl, h1⟩ := mj_pR_sp h
      obtain ⟨n, h2, h4⟩ := mj_so_sp h1
      have ha := mj_ws_at (ft := ft) (ka := ka) (ad := ad) (mj_ar_sp h2)
      rw [mj_ent_arr (by decide)] at ha
      exact va_alen hx hb hKt hR.1 o 0 ha rfl rfl hdec (hK ad lv (.int _ :: r) S H locs cells slots ls hR hl hwl hwt.tail.pushI h4)
    · obtain ⟨o, r, rfl, rfl, h4⟩ := mj_pR_sp h
      have e9 : ad 900000 = aE 900000 := hR.2.2.2.2.1.2 _ (Or.inr (Nat.le_refl _))
      show W p l e R s m args below meth c H locs cells slots Z (F0 m pc ls (.ref (ad 900000) :: r.map (mj_tr ad)))
      rw [e9]
      exact va_slen hx hb g6.1 g6.2.1 (A := fun q => B ≤ q) g6.2.2 hR.2.2.1 hdec (hK ad lv (.int _ :: r) S H locs cells slots ls hR hl hwl hwt.tail.pushI h4)
  case new n =>
    obtain ⟨rfl, hk⟩ := hok
    rcases hk with hk | ⟨rfl, C, T, hc, w1, w2, w3⟩
    · exact hT n rfl hk ad lv st S H locs cells slots ls hR hl hwl hwt h'
    · obtain ⟨⟨c1, c2⟩, h1⟩ := h
      have hw := hR.2.2.2.1
      have hlen : S.2.2.2.2.1 + 1 ≤ 601024 ∧ S.2.2.2.2.2 + b ≤ 7293034 := by omega
      have q6 := hR.2.2.2.2.2.1
      have q7 := hR.2.2.2.2.2.2
      refine mj_h_new hx hb hown hKt hwd hco hA hR hc w1 w2 w3 hlen (by omega) (by omega) hdec (fun q H' hR' => ?_)
      have hu : S.1.length ≤ (mj_nS S a b).1.length := by simp [mj_nS]
      rw [← mj_map_ad (ad' := mj_nA S ad q) hwt (fun i hi => mj_nA_old hw hi), show Value.ref q = mj_tr (mj_nA S ad q) (.ref S.1.length) by simp [mj_tr, mj_nA_new]]
      exact hK (mj_nA S ad q) lv (.ref S.1.length :: st) (mj_nS S a b) H' locs _ _ ls hR' (hl.ad hwl (fun i hi => mj_nA_old hw hi)) (hwl.up hu) ((hwt.up hu).push (Or.inl (by simp [mj_nS]))) h1
  case newarray ty =>
    obtain ⟨rfl, hty, hwd2⟩ := hok
    obtain ⟨y, r, rfl, h0, ⟨c1, c2⟩, h1⟩ := mj_pI_sp h
    have hw := hR.2.2.2.1
    have hlen : S.2.2.2.2.1 + 1 ≤ 601024 ∧ S.2.2.2.2.2 + y.toNatClampNeg ≤ 7293034 := by omega
    have q6 := hR.2.2.2.2.2.1
    have q7 := hR.2.2.2.2.2.2
    refine mj_h_newa hx hb hKt hwd hA hR hty hwd2 h0 (by omega) hlen (by omega) (by omega) hdec (fun q H' hR' => ?_)
    have hu : S.1.length ≤ (mj_nS S (1000 + t) y.toNatClampNeg).1.length := by simp [mj_nS]
    rw [← mj_map_ad (ad' := mj_nA S ad q) hwt.tail (fun i hi => mj_nA_old hw hi), show Value.ref q = mj_tr (mj_nA S ad q) (.ref S.1.length) by simp [mj_tr, mj_nA_new]]
    exact hK (mj_nA S ad q) lv (.ref S.1.length :: r) (mj_nS S (1000 + t) y.toNatClampNeg) H' locs _ _ ls hR' (hl.ad hwl (fun i hi => mj_nA_old hw hi)) (hwl.up hu) ((hwt.tail.up hu).push (Or.inl (by simp [mj_nS]))) h1
  case invokestatic n => exact hC n (Or.inl rfl) ad lv st S H locs cells slots ls hR hl hwl hwt h'
  case invokevirtual n => exact hC n (Or.inr (Or.inl rfl)) ad lv st S H locs cells slots ls hR hl hwl hwt h'
  case invokespecial n =>
    obtain ⟨rfl, hk⟩ := hok
    rcases hk with rfl | ⟨hk, w1, w2, w3⟩
    · exact hC n (Or.inr (Or.inr ⟨rfl, rfl⟩)) ad lv st S H locs cells slots ls hR hl hwl hwt h'
    · split at h
      · exact absurd rfl hk
      · obtain ⟨o, r, rfl, h1⟩ := mj_pR_sp h
        obtain ⟨rfl, h2⟩ := mj_p0_sp h1
        exact W.objInit hx hb hown (hwd _ w1) (hwd _ w2) (hwd _ w3) rfl (by rw [hml]; exact hl.1) rfl hdec (by omega) (by show 2 * 0 + 0 + 12 ≤ _; omega) (hK ad lv [] S H locs cells slots ls hR hl hwl hwt.tail h2)
  case checkcast n =>
    obtain ⟨rfl, hk⟩ := hok
    obtain ⟨o, r, rfl, h1⟩ := mj_pR_sp h
    obtain ⟨n', h2, h4⟩ := mj_so_sp h1
    have ha := mj_ws_at (ft := ft) (ka := ka) (ad := ad) (mj_ar_sp h2)
    rw [mj_ent_arr (by decide)] at ha
    exact va_castA hx hb hown (hwd _ hk) hR.1 o ha (va_nm_int (hKt.2 0 _ rfl).2) hdec (hK ad lv (.ref o :: r) S H locs cells slots ls hR hl hwl hwt h4)
  case ireturn =>
    obtain ⟨rfl, hk⟩ := hok
    obtain ⟨v, r, rfl, h1⟩ := mj_pI_sp h
    obtain ⟨rfl, h2⟩ := mj_p0_sp h1
    have fin : Q (.inl (some (.int v))) S → ∀ t : State, MQ below (fun _ _ o t => o = .returned (some (.int v)) ∧ t.heap = H) args s cells slots (fun q => B ≤ q) t → Z t := by
      rintro q t ⟨o, w1, w2, ⟨rfl, w4⟩, L, ⟨-, w5, w6⟩, w7⟩
      exact hQ ad (some (.int v)) S H locs cells slots t hR q (fun w hw => by cases hw; trivial) w4 w1 w2 w5 ⟨L, w7, w6⟩
    rcases hk with ⟨rfl, hk⟩ | ⟨hk, hk2⟩
    · exact mj_wcons (W.iret hx hb (hrt.trans hk) (fun t ht _ => ⟨rfl, ht⟩) hR.2.2.1.2.2 hdec hlk) (fin h2)
    · split at h2
      · exact absurd rfl hk
      · exact mj_wcons (W.zret hx hb (hrt.trans hk2) (by rcases h2.1 with rfl | rfl <;> rfl) (fun t ht _ => ⟨rfl, ht⟩) hR.2.2.1.2.2 hdec hlk) (fin h2.2)
  case return_ =>
    obtain ⟨rfl, hk⟩ := hok
    obtain ⟨rfl, h2⟩ := mj_p0_sp h
    refine mj_wcons (W.vret (Qc := fun _ _ o t => o = .returned none ∧ t.heap = H) (free := fun q => B ≤ q) hx hb (hrt.trans hk) (fun t ht _ => ⟨rfl, ht⟩) hR.2.2.1.2.2 hdec hlk) ?_
    rintro t ⟨o, w1, w2, ⟨rfl, w4⟩, L, ⟨-, w5, w6⟩, w7⟩
    exact hQ ad none S H locs cells slots t hR h2 (fun w hw => by cases hw) w4 w1 w2 w5 ⟨L, w7, w6⟩
  all_goals exact h.elim
end MJI
end
section
/-! A METHOD'S BODY, against the machine -/
section MJY
variable {p : Program} {l : Launch} {e : Env} {R : Room} {s : State} {m : MethodId} {args : Array Value} {below : List Frame} {meth : Method} {c : Code} {Z : State → Prop}
variable {D : va_G} {cl : List vw_C} {ft : Nat → Nat → Nat} {ka : Nat → ClassId} {B : Nat} {E : mj_S} {aE : Nat → Nat} {cc : ByteArray} {nL : Nat} {own : String} {Wd : Cond → Prop} {ini : Prop} {rt : Option FieldType} {X : mj_X} {hd : mj_H} {cls : mj_C}
/-- an end by a throw -/
def mj_Xok (s : State) (below : List Frame) (Z : State → Prop) (D : va_G) (cl : List vw_C) (ft : Nat → Nat → Nat) (ka : Nat → ClassId) (B : Nat) (E : mj_S) (aE : Nat → Nat) (Q : mj_Q) : Prop :=
  ∀ (ad : Nat → Nat) (k : Nat) (S : mj_S) (H : Heap) (locs : List Loc) (cells slots : Nat) (a : Addr) (ce : Cell) (t : State), mj_Rh D cl ft ka B s E aE ad S H locs cells slots → Q (.inr k) S → H[a]? = some ce → s.vm.findClass (mj_ex k) = some ce.cls → ce.vm.isStatics = false → t.heap = H → t.status = .running → Ended t below (.threw a) → s.WarmedH t.vm → (∃ L : List Loc, (∀ q ∈ L, B ≤ q.base) ∧ s.sameButNew ({ t with vm := s.vm } : State) L cells slots) → Z t
/-- an instruction is sound in this body, whatever comes behind it -/
def mj_Iok (p : Program) (l : Launch) (e : Env) (R : Room) (s : State) (m : MethodId) (args : Array Value) (below : List Frame) (meth : Method) (c : Code) (D : va_G) (cl : List vw_C) (ft : Nat → Nat → Nat) (ka : Nat → ClassId) (B : Nat) (E : mj_S) (aE : Nat → Nat) (nL : Nat) (X : mj_X) (hd : mj_H) (cls : mj_C) (x : mj_I) : Prop :=
  ∀ (nx : mj_N) (K : mj_K) (Q : mj_Q) (Z : State → Prop), (∀ pc, mj_Kok p l e R s m args below meth c Z D cl ft ka B E aE nL (fun lv st S => nx pc lv st S Q) pc) → mj_Kok p l e R s m args below meth c Z D cl ft ka B E aE nL K (x.1 + x.2.2.1) → mj_Qok s below Z D cl ft ka B E aE Q → mj_Xok s below Z D cl ft ka B E aE Q →
    mj_Kok p l e R s m args below meth c Z D cl ft ka B E aE nL (fun lv st S => mj_in X hd cls nx Q x K lv st S) x.1
/-- a block's instructions lie one behind the other -/
def mj_bok (Ok : mj_I → Prop) : Nat → List mj_I → Nat → Prop
  | pc, [], e => e = pc
  | pc, x :: is, e => x.1 = pc ∧ Ok x ∧ mj_bok Ok (pc + x.2.2.1) is e
theorem mj_rb_snd {nx : mj_N} {Q : mj_Q} (hN : ∀ pc, mj_Kok p l e R s m args below meth c Z D cl ft ka B E aE nL (fun lv st S => nx pc lv st S Q) pc) (hQ : mj_Qok s below Z D cl ft ka B E aE Q) (hX : mj_Xok s below Z D cl ft ka B E aE Q) :
    ∀ (is : List mj_I) (pc en : Nat), mj_bok (mj_Iok p l e R s m args below meth c D cl ft ka B E aE nL X hd cls) pc is en → mj_Kok p l e R s m args below meth c Z D cl ft ka B E aE nL (mj_rb X hd cls nx Q en is) pc
  | [], pc, en, h => by
    have h : en = pc := h
    subst h
    exact hN en
  | x :: is, pc, en, h => by
    obtain ⟨h1, h2, h3⟩ := h
    subst h1
    exact h2 nx (mj_rb X hd cls nx Q en is) Q Z hN (mj_rb_snd hN hQ hX is _ en h3) hQ hX
theorem mj_bk_mem : ∀ {T : List mj_B} {pc : Nat} {b : mj_B}, mj_bk T pc = some b → b ∈ T ∧ b.1 = pc
  | b' :: r, pc, b, h => by
    unfold mj_bk at h
    split at h
    · rename_i hb
      cases h
      exact ⟨List.mem_cons_self, hb⟩
    · obtain ⟨h1, h2⟩ := mj_bk_mem h
      exact ⟨List.mem_cons_of_mem _ h1, h2⟩
def mj_PN (p : Program) (l : Launch) (e : Env) (R : Room) (s : State) (m : MethodId) (args : Array Value) (below : List Frame) (meth : Method) (c : Code) (Z : State → Prop) (D : va_G) (cl : List vw_C) (ft : Nat → Nat → Nat) (ka : Nat → ClassId) (B : Nat) (E : mj_S) (aE : Nat → Nat) (nL : Nat) : mj_N := fun pc lv st S Q =>
  mj_Qok s below Z D cl ft ka B E aE Q → mj_Xok s below Z D cl ft ka B E aE Q → ∀ (ad : Nat → Nat) (H : Heap) (locs : List Loc) (cells slots : Nat) (ls : Array Slot), mj_Rh D cl ft ka B s E aE ad S H locs cells slots → mj_lr ad nL lv ls → mj_wL S.1.length lv → mj_wT S.1.length st → W p l e R s m args below meth c H locs cells slots Z (F0 m pc ls (st.map (mj_tr ad)))
theorem mj_rn_snd {T : List mj_B} (hT : ∀ b ∈ T, mj_bok (mj_Iok p l e R s m args below meth c D cl ft ka B E aE nL X hd cls) b.1 b.2.2.1 b.2.2.2) {Q : mj_Q} (hQ : mj_Qok s below Z D cl ft ka B E aE Q) (hX : mj_Xok s below Z D cl ft ka B E aE Q) (pc : Nat) :
    mj_Kok p l e R s m args below meth c Z D cl ft ka B E aE nL (fun lv st S => mj_rn X hd cls T pc lv st S Q) pc := by
  intro ad lv st S H locs cells slots ls hR hl hwl hwt h
  refine h (mj_PN p l e R s m args below meth c Z D cl ft ka B E aE nL) ?_ hQ hX ad H locs cells slots ls hR hl hwl hwt
  intro pc lv st S Q q hQ hX ad H locs cells slots ls hR hl hwl hwt
  unfold mj_at at q
  obtain ⟨b, hb, q2⟩ := mj_so_sp q
  obtain ⟨hb1, hb2⟩ := mj_bk_mem hb
  subst hb2
  exact mj_rb_snd (nx := mj_PN p l e R s m args below meth c Z D cl ft ka B E aE nL) (fun pc ad lv st S H locs cells slots ls hR hl hwl hwt k => k hQ hX ad H locs cells slots ls hR hl hwl hwt) hQ hX b.2.2.1 b.1 b.2.2.2 (hT b hb1) ad _ st S H locs cells slots ls hR (hl.less (mj_mk_get _ _)) (hwl.less (mj_mk_get _ _)) hwt q2
/-- the plain instructions -/
theorem mj_Iok_in (hx : p.tables.exec = Jvm.exec) (hb : c.code = cc) (hml : c.maxLocals = nL) (hown : s.vm.findClass own = some m.cls) (hlk : meth.locks = false) (hrt : meth.sig.returnType = rt) (hwd : ∀ w, Wd w → w.before args s = true) (hKt : va_K D cl (mj_tys ka) s) (hco : mj_cok Wd cl ft) (hG : mj_Gr R s meth B E aE X ini)
    {x : mj_I} (hdec : decode cc x.1 = .ok (x.2.1, x.2.2.1)) (hok : mj_iok Wd cl ft own nL ini rt x) (hls : ∀ i, x.2.1 = .ldc i → x.2.2.2.1.2.2 ≠ 0 → ∃ tx, vk_R own i tx (aE x.2.2.2.1.1) s)
    (hC : ∀ n, (x.2.1 = .invokestatic n ∨ x.2.1 = .invokevirtual n ∨ (x.2.1 = .invokespecial n ∧ x.2.2.2.1.2.2 = 0)) → mj_Iok p l e R s m args below meth c D cl ft ka B E aE nL X hd cls x)
    (hT : ∀ n, x.2.1 = .new n → x.2.2.2.1.2.2 ≠ 0 → mj_Iok p l e R s m args below meth c D cl ft ka B E aE nL X hd cls x) : mj_Iok p l e R s m args below meth c D cl ft ka B E aE nL X hd cls x := by
  intro nx K Q Z hN hK hQ hX ad lv st S H locs cells slots ls hR hl hwl hwt h
  exact mj_in_snd hx hb hml hown hlk hrt hwd hKt hco hG hdec hok hK hN hQ hls (fun n hn => hC n hn nx K Q Z hN hK hQ hX) (fun n hn ht => hT n hn ht nx K Q Z hN hK hQ hX) hR hl hwl hwt h
end MJY
end
section
/-! A THROW IN A BODY -/
section MJU
variable {p : Program} {l : Launch} {e : Env} {R : Room} {s s0 : State} {m : MethodId} {args : Array Value} {below : List Frame} {meth : Method} {c : Code} {Z : State → Prop}
variable {D : va_G} {cl : List vw_C} {ft : Nat → Nat → Nat} {ka : Nat → ClassId} {B : Nat} {E : mj_S} {aE : Nat → Nat} {cc : ByteArray} {nL : Nat} {own : String} {Wd : Cond → Prop} {ini : Prop} {rt : Option FieldType} {X : mj_X} {hd : mj_H} {cls : mj_C}
theorem mj_Cst.on {T : State} {H : Heap} {locs : List Loc} (hC : mj_Cst s0 s) (hB : B = s0.heap.size) (hS : va_S (fun q => B ≤ q) s.heap H locs) (hH : T.heap = H) (hW : s.WarmedH T.vm) : mj_Cst s0 T := by
  refine ⟨hC.1.trans hW, by rw [hH]; exact Nat.le_trans hC.2.1 hS.1, fun q hq => ?_⟩
  rw [hH, hS.2.1 q (Nat.lt_of_lt_of_le hq hC.2.1) (by omega)]
  exact hC.2.2 q hq
theorem mj_Iok_throw (hx : p.tables.exec = Jvm.exec) (hb : c.code = cc) (hml : c.maxLocals = nL) (hown : s.vm.findClass own = some m.cls) (hlk : meth.locks = false) (hwd : ∀ w, Wd w → w.before args s = true) (hG : mj_Gr R s meth B E aE X ini) (hfl : l.flags = pinnedFlags ++ [noTraceFlag]) (hC : mj_Cst s0 s) (hB : B = s0.heap.size)
    {x : mj_I} {n iL ic : Nat} {A : Array Value} {tx : String} {q0 : Nat} (hi : x.2.1 = .new n) (ht : x.2.2.2.1.2.2 ≠ 0) (hth : mj_Thr A s0 own ic (mj_ex x.2.2.2.1.1) ["java/lang/RuntimeException", "java/lang/Exception"]) (hcls : Bundle.fit (mj_ex x.2.2.2.1.1) = true)
    (w1 : Wd (.classLink own n (mj_ex x.2.2.2.1.1))) (w2 : Wd (.instantiable (mj_ex x.2.2.2.1.1) 6)) (w3 : Wd (.initialized (mj_ex x.2.2.2.1.1))) (hstr : vk_R own iL tx q0 s)
    (hd0 : decode cc x.1 = .ok (.new n, 3)) (hd3 : decode cc (x.1 + 3) = .ok (.dup, 1)) (hd4 : decode cc (x.1 + 4) = .ok (.ldc iL, 2)) (hd6 : decode cc (x.1 + 6) = .ok (.invokespecial ic, 3)) (hd9 : decode cc (x.1 + 9) = .ok (.athrow, 1)) (hout : c.exceptionTable.toList = []) :
    mj_Iok p l e R s m args below meth c D cl ft ka B E aE nL X hd cls x := by
  intro nx K Q Z hN hK hQ hX ad lv st S H locs cells slots ls hR hl hwl hwt h
  obtain ⟨pc, i, len, ⟨a, b, t⟩, k, kl, sw⟩ := x
  dsimp only at hi ht hth hcls w1 w2 w3 hd0 hd3 hd4 hd6 hd9 ⊢
  subst hi
  subst hb
  simp only [mj_in] at h
  obtain ⟨rfl, ⟨c1, c2⟩, h1⟩ := mj_p0_sp h
  obtain ⟨g1, g2, g3, g4, g5, g6⟩ := hG
  have q6 := hR.2.2.2.2.2.1
  have q7 := hR.2.2.2.2.2.2
  intro T hT XT
  have hCT : mj_Cst s0 T := hC.on hB hR.2.2.1 hT XT.warmed
  obtain ⟨U, ax, ce, u1, u2, u3, u4, u5, u6, u7, u8, u9, u10⟩ := mj_throw XT hx (Launch.traces_off hfl XT.admits) (s0 := s0) hC hCT hown hcls (by decide) hth (hwd _ w1) (hwd _ w2) (hwd _ w3) hstr (ls := ls) (rest := []) (by rw [hl.1]; exact hml.symm) hd0 hd3 hd4 hd6 hd9 (fun y hy => by rw [hout] at hy; cases hy) (by show 2 + 3 < _; omega) (by show 0 + (13 * 3 + 43) ≤ _; omega) (by omega) (by omega) hlk
  refine ⟨U, u1, hX ad a _ U.heap locs (cells + 1) (slots + 6) ax ce U ?_ h1 u8 u9 u10 rfl u2 u3 u4 ⟨locs, hR.2.2.1.2.2, u5⟩⟩
  obtain ⟨r1, r2, r3, r4, r5, r6, r7⟩ := hR
  rw [hT] at u6 u7
  refine ⟨?_, r2, ⟨Nat.le_trans r3.1 u6, fun q hq hA => ?_, r3.2.2⟩, ?_, r5, ?_, ?_⟩
  · exact r1.kept (fun k q hq => u7 q.1 (r1 k q hq).lt)
  · rw [u7 q (Nat.lt_of_lt_of_le hq r3.1)]
    exact r3.2.1 q hq hA
  · exact ⟨⟨r4.1.1, Nat.le_succ_of_le r4.1.2.1, by show S.2.2.2.2.1 + 1 ≤ _; omega, by show S.2.2.2.2.2 + 6 ≤ _; omega⟩, r4.2⟩
  · show S.2.2.2.2.1 + 1 = _
    omega
  · show S.2.2.2.2.2 + 6 = _
    omega
end MJU
end
section
/-! A CALL IN A BODY, by the callee's contract -/
def mj_or (ad : Nat → Nat) (S : mj_S) (t : State) : mj_O → Outcome → Prop
  | .inl v, .returned w => w = v.map (mj_tr ad) ∧ ∀ z, v = some z → mj_wv S.1.length z
  | .inr k, .threw a => ∃ ce, t.heap[a]? = some ce ∧ t.vm.findClass (mj_ex k) = some ce.cls ∧ ce.vm.isStatics = false
  | _, _ => False
def mj_Pc (s0 : State) (D : va_G) (cl : List vw_C) (ft : Nat → Nat → Nat) (ka : Nat → ClassId) (ad : Nat → Nat) (as : List Value) (S : mj_S) : Array Value → State → Prop := fun a U =>
  a = (as.map (mj_tr ad)).toArray ∧ va_P D cl (mj_ws ft ka ad S) U.heap ∧ va_D (fun q => s0.heap.size ≤ q) (mj_ws ft ka ad S) ∧ mj_Cst s0 U
def mj_Qc (s0 : State) (D : va_G) (cl : List vw_C) (ft : Nat → Nat → Nat) (ka : Nat → ClassId) (ad : Nat → Nat) (S : mj_S) (Q : mj_Q) : Array Value → State → Outcome → State → Prop := fun _ st o t =>
  st.WarmedH t.vm ∧ ∃ (o' : mj_O) (S' : mj_S) (ad' : Nat → Nat) (L : List Loc), Q o' S' ∧ mj_or ad' S' t o' o ∧ va_P D cl (mj_ws ft ka ad' S') t.heap ∧ va_D (fun q => s0.heap.size ≤ q) (mj_ws ft ka ad' S') ∧ mj_wS S' ∧ (S.1.length ≤ S'.1.length ∧ ∀ q, mj_wr S.1.length q → ad' q = ad q) ∧
    (S.2.2.2.2.1 ≤ S'.2.2.2.2.1 ∧ S.2.2.2.2.2 ≤ S'.2.2.2.2.2) ∧ (st.heap.size ≤ t.heap.size ∧ ∀ q, q < st.heap.size → ¬ s0.heap.size ≤ q → t.heap[q]? = st.heap[q]?) ∧ (∀ q ∈ L, s0.heap.size ≤ q.base) ∧ st.sameButNew ({ t with vm := st.vm } : State) L (S'.2.2.2.2.1 - S.2.2.2.2.1) (S'.2.2.2.2.2 - S.2.2.2.2.2)
def mj_rm (X : mj_X) (d : Nat) (S : mj_S) : Room := { frames := d + 8, cells := X.2.2.1 - S.2.2.2.2.1, slots := X.2.2.2 - S.2.2.2.2.2, locals := 40 * d + 300 }
/-- a method: its name, bytes, locals, answer, handlers -/
abbrev mj_D : Type := MethodName × ByteArray × Nat × Option FieldType × List (Nat × Nat × Nat × Nat)
def mj_cw (y : mj_D) : Cond := .codeWith y.1 y.2.1 y.2.2.1 y.2.2.2.1 y.2.2.2.2
/-- the callee's contract at depth d -/
def mj_Con (l : Launch) (s0 : State) (D : va_G) (cl : List vw_C) (ft : Nat → Nat → Nat) (ka : Nat → ClassId) (a0 : Nat → Nat) (X : mj_X) (d : Nat) (y : mj_D) (as : List Value) (S : mj_S) (Q : mj_Q) : Prop :=
  ∀ ad : Nat → Nat, (∀ i, 900000 ≤ i → ad i = a0 i) → mj_wS S → mj_wT S.1.length as → MetFree l y.1 (headSpec [mj_cw y] (mj_rm X d S)) (mj_Pc s0 D cl ft ka ad as S) (fun _ _ _ _ _ => True) (mj_Qc s0 D cl ft ka ad S Q)
set_option maxRecDepth 20000 in
theorem mj_loc {z d r : Nat} (h1 : z ≤ 21) (h2 : 40 * d + 340 ≤ r) : 8 + (z + 11) + (40 * d + 300) ≤ r := by omega
theorem mj_wg_sum (ad : Nat → Nat) : ∀ r : List Value, ((r.map (mj_tr ad)).map fun v => v.category).sum = mj_wg r
  | [] => rfl
  | v :: r => by
    rw [List.map_cons, List.map_cons, List.sum_cons, mj_wg_sum ad r, mj_tr_cat]
    rfl
section MJK
variable {p : Program} {l : Launch} {e : Env} {R : Room} {s s0 : State} {m : MethodId} {args : Array Value} {below : List Frame} {meth : Method} {c : Code}
variable {D : va_G} {cl : List vw_C} {ft : Nat → Nat → Nat} {ka : Nat → ClassId} {E : mj_S} {aE a0 : Nat → Nat} {cc : ByteArray} {nL : Nat} {own : String} {Wd : Cond → Prop} {ini : Prop} {X : mj_X} {hd : mj_H} {cls : mj_C}
/-- the handlers of a body -/
def mj_Hok (Wd : Cond → Prop) (own : String) (cc : ByteArray) (c : Code) (nL : Nat) (hd : mj_H) : Prop := ∀ pc, match hd pc with
  | none => ∀ x ∈ c.exceptionTable.toList, covers x pc = false
  | some (k, i, h) => ∃ x : ExceptionTableEntry, c.exceptionTable.toList = [x] ∧ covers x pc = true ∧ x.catchType ≠ 0 ∧ Wd (.classLink own x.catchType (mj_ex k)) ∧ i < nL ∧ ((∃ j : Fin 4, decode cc x.handlerPc = .ok (.astore_n j, 1) ∧ (j : Nat) = i ∧ h = x.handlerPc + 1) ∨ (decode cc x.handlerPc = .ok (.astore i, 2) ∧ h = x.handlerPc + 2))
/-- under the note of what was thrown -/
theorem mj_thrown {Z : State → Prop} {nx : mj_N} {Q : mj_Q} {ad : Nat → Nat} {lv : mj_LV} {S : mj_S} {locs : List Loc} {cells slots : Nat} {ls : Array Slot} {pc k : Nat} {rest : List Value} {a : Addr} {ce : Cell} {T : State} (hx : p.tables.exec = Jvm.exec) (hb : c.code = cc) (hown : s.vm.findClass own = some m.cls) (hlk : meth.locks = false) (hwd : ∀ w, Wd w → w.before args s = true) (hself : ∀ (k : Nat) (cN : ClassId), s.vm.findClass (mj_ex k) = some cN → s.vm.assignable cN cN = true) (hH : mj_Hok Wd own cc c nL hd)
    (hN : ∀ pc, mj_Kok p l e R s m args below meth c Z D cl ft ka s0.heap.size E aE nL (fun lv st S => nx pc lv st S Q) pc) (hX : mj_Xok s below Z D cl ft ka s0.heap.size E aE Q)
    (hR : mj_Rh D cl ft ka s0.heap.size s E aE ad S T.heap locs cells slots) (hl : mj_lr ad nL lv ls) (hwl : mj_wL S.1.length lv) (XT : Stand p l e R s m args below meth c T locs cells slots) (hce : T.heap[a]? = some ce) (hcl : s.vm.findClass (mj_ex k) = some ce.cls) (hst : ce.vm.isStatics = false)
    (h : match hd pc with
      | some (k', i, hp) => k = k' ∧ nx hp (mj_er lv i) [] S Q
      | none => Q (.inr k) S) :
    ∃ t, Steps p.tables e below ((T.setTop (F0 m pc ls rest)).pushFrame (.throwing a)) t ∧ Z t := by
  have hh := hH pc
  cases hp : hd pc with
  | none =>
    rw [hp] at h hh
    dsimp only at h hh
    obtain ⟨u1, u2, u3, u4, u5⟩ := XT.leaveThrown a (g := F0 m pc ls rest) rfl rfl rfl hh hlk
    exact ⟨_, u1, hX ad k S T.heap locs cells slots a ce _ hR h hce hcl hst rfl u2 u3 u4 ⟨locs, hR.2.2.1.2.2, u5⟩⟩
  | some z =>
    obtain ⟨k', i, hpc⟩ := z
    rw [hp] at h hh
    dsimp only at h hh
    obtain ⟨rfl, h⟩ := h
    obtain ⟨x, h1, h2, h3, h4, h5, h6⟩ := hh
    obtain ⟨vm', X', st⟩ := mj_caught1 XT (g := F0 m pc ls rest) rfl h1 h2 h3 hown (hwd _ h4) hce hst hcl (hself k _ hcl)
    have K : W p l e R s m args below meth c T.heap locs cells slots Z (F0 m x.handlerPc ls [.ref a]) := by
      have fin : ∀ ls', lv_has ls' nL ((i, .ref a) :: (mj_ps ad lv).filter (fun q => !(q.1 == i) && !(q.1 + 1 == i && q.2.category == 2))) → mj_lr ad nL (mj_er lv i) ls' := by
        intro ls' hl'
        refine ⟨hl'.1, hl'.2.1, fun j v hj => ?_⟩
        obtain ⟨e1, e2, e3⟩ := mj_er_get hj
        refine hl'.2.2 (j, mj_tr ad v) (List.mem_cons_of_mem _ (List.mem_filter.mpr ⟨mj_ps_mem.mpr ⟨v, e2, rfl⟩, ?_⟩))
        simp only [Bool.and_eq_true, Bool.not_eq_true', beq_eq_false_iff_ne, ne_eq, Bool.and_eq_false_iff, mj_tr_cat]
        refine ⟨e1, ?_⟩
        by_cases hq : j + 1 = i
        · exact Or.inr (fun q => e3 ⟨hq, q⟩)
        · exact Or.inl hq
      rcases h6 with ⟨j, h7, h8, rfl⟩ | ⟨h7, rfl⟩
      · exact lv_astore_n hx hb h7 h8 hl.has h5 rfl (fun ls' hl' => hN _ ad _ [] S T.heap locs cells slots ls' hR (fin ls' hl') (hwl.less (fun _ _ q => (mj_er_get q).2.1)) (fun v hv => by cases hv) h)
      · exact lv_astore hx hb h7 hl.has h5 rfl (fun ls' hl' => hN _ ad _ [] S T.heap locs cells slots ls' hR (fin ls' hl') (hwl.less (fun _ _ q => (mj_er_get q).2.1)) (fun v hv => by cases hv) h)
    obtain ⟨t, s1, s2⟩ := K (T.setVm vm') rfl X'
    exact ⟨t, st t s1, s2⟩
set_option maxHeartbeats 1000000 in
theorem mj_Iok_call {d b : Nat} {y : mj_D} {Rc : mj_S → List Value → Prop} (hx : p.tables.exec = Jvm.exec) (hb : c.code = cc) (hml : c.maxLocals = nL) (hown : s.vm.findClass own = some m.cls) (hlk : meth.locks = false) (hwd : ∀ w, Wd w → w.before args s = true) (hself : ∀ (k : Nat) (cN : ClassId), s.vm.findClass (mj_ex k) = some cN → s.vm.assignable cN cN = true) (hH : mj_Hok Wd own cc c nL hd) (hG : mj_Gr R s meth s0.heap.size E aE X ini) (hC : mj_Cst s0 s) (ha0 : ∀ i, 900000 ≤ i → aE i = a0 i) (hg : ∀ w, Wd w → goodWord w = true)
    {x : mj_I} (hlen3 : x.2.2.1 = 3) (hdec : decode cc x.1 = .ok (x.2.1, 3)) (hin : ∀ (nx : mj_N) (Q : mj_Q) (K : mj_K) (lv : mj_LV) (st : List Value) (S : mj_S), mj_in X hd cls nx Q x K lv st S → ∃ as r, mj_tk b [] st = some (as, r) ∧ mj_wg r ≤ 8 ∧ Rc S as ∧ cls x.2.2.2.1.1 as S (mj_ret hd nx x.1 K lv r Q))
    (hcon : ∀ (as : List Value) (S : mj_S) (Q : mj_Q), cls x.2.2.2.1.1 as S Q → mj_Con l s0 D cl ft ka a0 X d y as S Q) (hRf : d + 9 ≤ R.frames) (hRl : 40 * d + 340 ≤ R.locals) (hmx : y.2.2.1 ≤ 21) (hcw : Wd (mj_cw y)) (hini : Wd (.initialized y.1.cls)) (hR1 : R.cells = X.2.2.1 - E.2.2.2.2.1 ∧ R.slots = X.2.2.2 - E.2.2.2.2.2) (hR2 : E.2.2.2.2.1 ≤ X.2.2.1 ∧ E.2.2.2.2.2 ≤ X.2.2.2)
    (hE : ∀ (T : State) (locs : List Loc) (cells slots : Nat) (ls : Array Slot) (ad : Nat → Nat) (S : mj_S) (as rest : List Value), mj_Rh D cl ft ka s0.heap.size s E aE ad S T.heap locs cells slots → Stand p l e R s m args below meth c T locs cells slots → as.length = b → Rc S as → mj_Ent p l e R s m args below meth c T locs cells slots y.1 (F0 m x.1 ls ((as.map (mj_tr ad)).reverse ++ rest)) rest (as.map (mj_tr ad)).toArray) :
    mj_Iok p l e R s m args below meth c D cl ft ka s0.heap.size E aE nL X hd cls x := by
  intro nx K Q Z hN hK hQ hX ad lv st S H locs cells slots ls hR hl hwl hwt h
  obtain ⟨as, r, htk, hwg, hrc, hcl⟩ := hin nx Q K lv st S h
  obtain ⟨bs, rfl, hbl, has⟩ := mj_tk_sp _ _ _ _ _ htk
  rw [List.append_nil] at has
  have hasl : as.length = b := by rw [has, List.length_reverse]; exact hbl
  have hstk : (bs ++ r).map (mj_tr ad) = (as.map (mj_tr ad)).reverse ++ r.map (mj_tr ad) := by
    rw [has, List.map_append, ← List.map_reverse, List.reverse_reverse]
  have hwr : mj_wT S.1.length r := fun v hv => hwt v (List.mem_append_right _ hv)
  have hwa : mj_wT S.1.length as := fun v hv => hwt v (List.mem_append_left _ (by rw [has] at hv; exact List.mem_reverse.mp hv))
  obtain ⟨g1, g2, g3, g4, g5, g6⟩ := hG
  obtain ⟨r1, r2, r3, r4, r5, r6, r7⟩ := hR
  intro T hT XT
  subst hT
  rw [hstk]
  obtain ⟨vm₁, mk, X1, hnamed, hstep⟩ := hE T locs cells slots ls ad S as (r.map (mj_tr ad)) ⟨r1, r2, r3, r4, r5, r6, r7⟩ XT hasl hrc
  have hM := hcon as S _ hcl ad (fun i hi => (r5.2 i (Or.inr hi)).trans (ha0 i hi)) r4 hwa
  have hCT : mj_Cst s0 (T.setVm vm₁) := hC.on rfl r3 rfl X1.warmed
  have hcwU : (mj_cw y).before (as.map (mj_tr ad)).toArray (T.setVm vm₁) = true := word_at X1.warmed (good_of_word (hg _ hcw)) (hwd _ hcw)
  obtain ⟨m9, methY, cY, hn9, hmY, hcY, -, hlY, -⟩ := Cond.codeWith_spec hcwU
  have hn := X1.named hnamed
  cases hn.symm.trans hn9
  obtain ⟨kY, hkY, -⟩ := className_of_methodNamed hn
  have hiniU : (Cond.initialized y.1.cls).before (as.map (mj_tr ad)).toArray (T.setVm vm₁) = true := word_at X1.warmed (good_of_word (hg _ hini)) (hwd _ hini)
  have hinitY : kY.init = .initialized := Cond.initialized_spec (findClass_of_methodNamed hn) hkY hiniU
  have hm1 : (mj_rm X d S).frames = d + 8 := rfl
  have hm2 : (mj_rm X d S).locals = 40 * d + 300 := rfl
  have hm3 : (mj_rm X d S).cells = X.2.2.1 - S.2.2.2.2.1 := rfl
  have hm4 : (mj_rm X d S).slots = X.2.2.2 - S.2.2.2.2.2 := rfl
  have hc4 := r4.1.2.2
  have hloc : 8 + (y.2.2.1 + 11) + (mj_rm X d S).locals ≤ R.locals := by
    rw [hm2]
    exact mj_loc hmx hRl
  obtain ⟨o, t, hq, hWt, hstand, hback⟩ := mj_back (W := 8) (maxL := y.2.2.1) hM (fun a st o t q => by obtain ⟨q1, o', S', ad', L, -, -, -, -, -, -, -, -, -, q2⟩ := q; exact ⟨q1, L, _, _, q2⟩) X1 (g := F0 m x.1 ls (r.map (mj_tr ad))) (ig := x.2.1) (len := 3) rfl (by rw [hml]; exact hl.1) (by rw [hb]; exact hdec)
    (by show 2 * 0 + _ ≤ 8; rw [mj_wg_sum]; omega) hn hmY hcY hlY hkY hinitY (by rw [hm1]; omega) hloc (by rw [hm3]; omega) (by rw [hm4]; omega)
    (atoms_intro (fun w hw => by rw [List.mem_singleton.mp hw]; exact hcwU)) ⟨rfl, r1, r2, hCT⟩
  obtain ⟨-, o', S', ad', L, hQ', hor, p1, p2, p3, p4, p5, p6, p7, p8⟩ := hq
  have X2 := hstand L _ _ p8
  have hR' : mj_Rh D cl ft ka s0.heap.size s E aE ad' S' t.heap (locs ++ L) (cells + (S'.2.2.2.2.1 - S.2.2.2.2.1)) (slots + (S'.2.2.2.2.2 - S.2.2.2.2.2)) := by
    refine ⟨p1, p2, ⟨Nat.le_trans r3.1 p6.1, fun q hq hA => ?_, fun q hq => ?_⟩, p3, ⟨Nat.le_trans r5.1 p4.1, fun q hq => ?_⟩, by omega, by omega⟩
    · exact (p6.2 q (Nat.lt_of_lt_of_le hq r3.1) hA).trans (r3.2.1 q hq hA)
    · rcases List.mem_append.mp hq with hq | hq
      · exact r3.2.2 q hq
      · exact p7 q hq
    · rw [p4.2 q (hq.up r5.1)]
      exact r5.2 q hq
  have hl' : mj_lr ad' nL lv ls := hl.ad hwl p4.2
  have hwl' := hwl.up p4.1
  have hwr' := hwr.up p4.1
  have hrm : r.map (mj_tr ad') = r.map (mj_tr ad) := mj_map_ad hwr p4.2
  rw [hlen3] at hK
  cases o with
  | returned w =>
    cases o' with
    | inr k => exact hor.elim
    | inl v =>
      obtain ⟨rfl, hv⟩ := hor
      have hb2 : Steps p.tables e below _ ((({ T.setVm vm₁ with heap := t.heap, slotsUsed := t.slotsUsed } : State).setVm t.vm).setTop (F0 m (x.1 + 3) ls ((v.map (mj_tr ad')).toList ++ r.map (mj_tr ad)))) := hback
      cases v with
      | none =>
        have hQ2 : K lv r S' := hQ'
        obtain ⟨tz, z1, z2⟩ := hK ad' lv r S' t.heap _ _ _ ls hR' hl' hwl' hwr' hQ2 (({ T.setVm vm₁ with heap := t.heap, slotsUsed := t.slotsUsed } : State).setVm t.vm) rfl X2
        rw [hrm] at z1
        exact ⟨tz, hstep _ (hb2.trans z1), z2⟩
      | some v =>
        have hQ2 : K lv (v :: r) S' := hQ'
        obtain ⟨tz, z1, z2⟩ := hK ad' lv (v :: r) S' t.heap _ _ _ ls hR' hl' hwl' (hwr'.push (hv v rfl)) hQ2 (({ T.setVm vm₁ with heap := t.heap, slotsUsed := t.slotsUsed } : State).setVm t.vm) rfl X2
        rw [List.map_cons, hrm] at z1
        exact ⟨tz, hstep _ (hb2.trans z1), z2⟩
  | threw a =>
    cases o' with
    | inl v => cases v <;> exact hor.elim
    | inr k =>
      obtain ⟨ce, e1, e2, e3⟩ := hor
      have hcls : s.vm.findClass (mj_ex k) = some ce.cls := by
        have := (X1.warmed.trans (show (T.setVm vm₁).WarmedH t.vm from hWt)).alike.findClass (name := mj_ex k)
        rw [← this]; exact e2
      obtain ⟨tz, z1, z2⟩ := mj_thrown (rest := r.map (mj_tr ad)) (pc := x.1) (k := k) (T := ({ T.setVm vm₁ with heap := t.heap, slotsUsed := t.slotsUsed } : State).setVm t.vm) hx hb hown hlk hwd hself hH hN hX hR' hl' hwl' X2 e1 hcls e3 hQ'
      exact ⟨tz, hstep _ (Steps.trans hback z1), z2⟩
end MJK
end
