-- ===== PART A: goes FIRST, ahead of the names: the tables' words, and 'selects' of the private methods out of them =====
/-- a private method of a class that the tables say can be made, by its rows of tables_1 -/
def lw_okq (q : MethodName × Nat) : Prop := (q.1.cls ≠ "java/lang/invoke/MethodHandle" ∧ q.1.cls ≠ "java/lang/invoke/VarHandle") ∧ Cond.instantiable q.1.cls q.2 ∈ tables_1 ∧ Cond.privateMethod q.1 ∈ tables_1 ∧ Cond.instanceMethod q.1 ∈ tables_1
theorem lw_p0 : lw_okq (⟨"InputrowConsole$Screen", "setFirstTabs", "(I)V"⟩, 14) := ⟨⟨by decide +kernel, by decide +kernel⟩, List.mem_of_getElem? (i := 105) (by decide +kernel), List.mem_of_getElem? (i := 298) (by decide +kernel), List.mem_of_getElem? (i := 299) (by decide +kernel)⟩
theorem lw_p1 : lw_okq (⟨"InputrowConsole", "addBracket", "(I)V"⟩, 7) := ⟨⟨by decide +kernel, by decide +kernel⟩, List.mem_of_getElem? (i := 34) (by decide +kernel), List.mem_of_getElem? (i := 415) (by decide +kernel), List.mem_of_getElem? (i := 416) (by decide +kernel)⟩
theorem lw_p2 : lw_okq (⟨"InputrowConsole$Bytes", "placeOf", "(I)I"⟩, 3) := ⟨⟨by decide +kernel, by decide +kernel⟩, List.mem_of_getElem? (i := 42) (by decide +kernel), List.mem_of_getElem? (i := 423) (by decide +kernel), List.mem_of_getElem? (i := 424) (by decide +kernel)⟩
theorem lw_p3 : lw_okq (⟨"InputrowConsole", "settle", "()V"⟩, 7) := ⟨⟨by decide +kernel, by decide +kernel⟩, List.mem_of_getElem? (i := 34) (by decide +kernel), List.mem_of_getElem? (i := 435) (by decide +kernel), List.mem_of_getElem? (i := 436) (by decide +kernel)⟩
theorem lw_p4 : lw_okq (⟨"InputrowConsole$Tape", "note", "(I)V"⟩, 3) := ⟨⟨by decide +kernel, by decide +kernel⟩, List.mem_of_getElem? (i := 354) (by decide +kernel), List.mem_of_getElem? (i := 444) (by decide +kernel), List.mem_of_getElem? (i := 445) (by decide +kernel)⟩
theorem lw_p5 : lw_okq (⟨"InputrowConsole$Reader", "readTitle", "(I)V"⟩, 8) := ⟨⟨by decide +kernel, by decide +kernel⟩, List.mem_of_getElem? (i := 258) (by decide +kernel), List.mem_of_getElem? (i := 473) (by decide +kernel), List.mem_of_getElem? (i := 474) (by decide +kernel)⟩
theorem lw_p6 : lw_okq (⟨"InputrowConsole$Reader", "readControl", "(I)I"⟩, 8) := ⟨⟨by decide +kernel, by decide +kernel⟩, List.mem_of_getElem? (i := 258) (by decide +kernel), List.mem_of_getElem? (i := 489) (by decide +kernel), List.mem_of_getElem? (i := 490) (by decide +kernel)⟩
theorem lw_p7 : lw_okq (⟨"InputrowConsole$Reader", "readEscape", "(I)I"⟩, 8) := ⟨⟨by decide +kernel, by decide +kernel⟩, List.mem_of_getElem? (i := 258) (by decide +kernel), List.mem_of_getElem? (i := 493) (by decide +kernel), List.mem_of_getElem? (i := 494) (by decide +kernel)⟩
theorem lw_p8 : lw_okq (⟨"InputrowConsole$Reader", "beginCode", "()V"⟩, 8) := ⟨⟨by decide +kernel, by decide +kernel⟩, List.mem_of_getElem? (i := 258) (by decide +kernel), List.mem_of_getElem? (i := 497) (by decide +kernel), List.mem_of_getElem? (i := 498) (by decide +kernel)⟩
theorem lw_p9 : lw_okq (⟨"InputrowConsole$Reader", "readCode", "(I)I"⟩, 8) := ⟨⟨by decide +kernel, by decide +kernel⟩, List.mem_of_getElem? (i := 258) (by decide +kernel), List.mem_of_getElem? (i := 501) (by decide +kernel), List.mem_of_getElem? (i := 502) (by decide +kernel)⟩
theorem lw_p10 : lw_okq (⟨"InputrowConsole$Reader", "addDigit", "(I)V"⟩, 8) := ⟨⟨by decide +kernel, by decide +kernel⟩, List.mem_of_getElem? (i := 258) (by decide +kernel), List.mem_of_getElem? (i := 506) (by decide +kernel), List.mem_of_getElem? (i := 507) (by decide +kernel)⟩
theorem lw_p11 : lw_okq (⟨"InputrowConsole$Screen", "drawSign", "(I)V"⟩, 14) := ⟨⟨by decide +kernel, by decide +kernel⟩, List.mem_of_getElem? (i := 105) (by decide +kernel), List.mem_of_getElem? (i := 510) (by decide +kernel), List.mem_of_getElem? (i := 511) (by decide +kernel)⟩
theorem lw_p12 : lw_okq (⟨"InputrowConsole$Picture", "part", "(II)V"⟩, 4) := ⟨⟨by decide +kernel, by decide +kernel⟩, List.mem_of_getElem? (i := 117) (by decide +kernel), List.mem_of_getElem? (i := 525) (by decide +kernel), List.mem_of_getElem? (i := 526) (by decide +kernel)⟩
theorem lw_p13 : lw_okq (⟨"InputrowConsole$Screen", "feed", "()V"⟩, 14) := ⟨⟨by decide +kernel, by decide +kernel⟩, List.mem_of_getElem? (i := 105) (by decide +kernel), List.mem_of_getElem? (i := 543) (by decide +kernel), List.mem_of_getElem? (i := 544) (by decide +kernel)⟩
theorem lw_p14 : lw_okq (⟨"InputrowConsole$Screen", "scrollUp", "(IIZ)V"⟩, 14) := ⟨⟨by decide +kernel, by decide +kernel⟩, List.mem_of_getElem? (i := 105) (by decide +kernel), List.mem_of_getElem? (i := 547) (by decide +kernel), List.mem_of_getElem? (i := 548) (by decide +kernel)⟩
theorem lw_p15 : lw_okq (⟨"java/lang/Throwable", "fillInStackTrace", "(I)Ljava/lang/Throwable;"⟩, 6) := ⟨⟨by decide +kernel, by decide +kernel⟩, List.mem_of_getElem? (i := 605) (by decide +kernel), List.mem_of_getElem? (i := 603) (by decide +kernel), List.mem_of_getElem? (i := 604) (by decide +kernel)⟩
def lw_privs_1 : List (MethodName × Nat) := [(⟨"InputrowConsole$Screen", "setFirstTabs", "(I)V"⟩, 14), (⟨"InputrowConsole", "addBracket", "(I)V"⟩, 7), (⟨"InputrowConsole$Bytes", "placeOf", "(I)I"⟩, 3), (⟨"InputrowConsole", "settle", "()V"⟩, 7), (⟨"InputrowConsole$Tape", "note", "(I)V"⟩, 3), (⟨"InputrowConsole$Reader", "readTitle", "(I)V"⟩, 8), (⟨"InputrowConsole$Reader", "readControl", "(I)I"⟩, 8), (⟨"InputrowConsole$Reader", "readEscape", "(I)I"⟩, 8), (⟨"InputrowConsole$Reader", "beginCode", "()V"⟩, 8), (⟨"InputrowConsole$Reader", "readCode", "(I)I"⟩, 8), (⟨"InputrowConsole$Reader", "addDigit", "(I)V"⟩, 8), (⟨"InputrowConsole$Screen", "drawSign", "(I)V"⟩, 14), (⟨"InputrowConsole$Picture", "part", "(II)V"⟩, 4), (⟨"InputrowConsole$Screen", "feed", "()V"⟩, 14), (⟨"InputrowConsole$Screen", "scrollUp", "(IIZ)V"⟩, 14), (⟨"java/lang/Throwable", "fillInStackTrace", "(I)Ljava/lang/Throwable;"⟩, 6)]
theorem lw_r1 : ∀ q ∈ lw_privs_1, lw_okq q := List.forall_mem_cons.mpr ⟨lw_p0, List.forall_mem_cons.mpr ⟨lw_p1, List.forall_mem_cons.mpr ⟨lw_p2, List.forall_mem_cons.mpr ⟨lw_p3, List.forall_mem_cons.mpr ⟨lw_p4, List.forall_mem_cons.mpr ⟨lw_p5, List.forall_mem_cons.mpr ⟨lw_p6, List.forall_mem_cons.mpr ⟨lw_p7, List.forall_mem_cons.mpr ⟨lw_p8, List.forall_mem_cons.mpr ⟨lw_p9, List.forall_mem_cons.mpr ⟨lw_p10, List.forall_mem_cons.mpr ⟨lw_p11, List.forall_mem_cons.mpr ⟨lw_p12, List.forall_mem_cons.mpr ⟨lw_p13, List.forall_mem_cons.mpr ⟨lw_p14, List.forall_mem_cons.mpr ⟨lw_p15, fun _ h => absurd h List.not_mem_nil⟩⟩⟩⟩⟩⟩⟩⟩⟩⟩⟩⟩⟩⟩⟩⟩
theorem lw_p16 : lw_okq (⟨"InputrowConsole$Screen", "endAbove", "(I)V"⟩, 14) := ⟨⟨by decide +kernel, by decide +kernel⟩, List.mem_of_getElem? (i := 105) (by decide +kernel), List.mem_of_getElem? (i := 905) (by decide +kernel), List.mem_of_getElem? (i := 906) (by decide +kernel)⟩
theorem lw_p17 : lw_okq (⟨"InputrowConsole$Screen", "addMark", "()V"⟩, 14) := ⟨⟨by decide +kernel, by decide +kernel⟩, List.mem_of_getElem? (i := 105) (by decide +kernel), List.mem_of_getElem? (i := 919) (by decide +kernel), List.mem_of_getElem? (i := 920) (by decide +kernel)⟩
theorem lw_p18 : lw_okq (⟨"InputrowConsole$Screen", "control", "(I)V"⟩, 14) := ⟨⟨by decide +kernel, by decide +kernel⟩, List.mem_of_getElem? (i := 105) (by decide +kernel), List.mem_of_getElem? (i := 928) (by decide +kernel), List.mem_of_getElem? (i := 929) (by decide +kernel)⟩
theorem lw_p19 : lw_okq (⟨"InputrowConsole$Screen", "escaped", "(I)V"⟩, 14) := ⟨⟨by decide +kernel, by decide +kernel⟩, List.mem_of_getElem? (i := 105) (by decide +kernel), List.mem_of_getElem? (i := 936) (by decide +kernel), List.mem_of_getElem? (i := 937) (by decide +kernel)⟩
theorem lw_p20 : lw_okq (⟨"InputrowConsole$Screen", "bringBack", "()V"⟩, 14) := ⟨⟨by decide +kernel, by decide +kernel⟩, List.mem_of_getElem? (i := 105) (by decide +kernel), List.mem_of_getElem? (i := 944) (by decide +kernel), List.mem_of_getElem? (i := 945) (by decide +kernel)⟩
theorem lw_p21 : lw_okq (⟨"InputrowConsole$Screen", "feedBack", "()V"⟩, 14) := ⟨⟨by decide +kernel, by decide +kernel⟩, List.mem_of_getElem? (i := 105) (by decide +kernel), List.mem_of_getElem? (i := 948) (by decide +kernel), List.mem_of_getElem? (i := 949) (by decide +kernel)⟩
theorem lw_p22 : lw_okq (⟨"InputrowConsole$Screen", "scrollDown", "(II)V"⟩, 14) := ⟨⟨by decide +kernel, by decide +kernel⟩, List.mem_of_getElem? (i := 105) (by decide +kernel), List.mem_of_getElem? (i := 952) (by decide +kernel), List.mem_of_getElem? (i := 953) (by decide +kernel)⟩
theorem lw_p23 : lw_okq (⟨"InputrowConsole$Screen", "setTab", "(IZ)V"⟩, 14) := ⟨⟨by decide +kernel, by decide +kernel⟩, List.mem_of_getElem? (i := 105) (by decide +kernel), List.mem_of_getElem? (i := 960) (by decide +kernel), List.mem_of_getElem? (i := 961) (by decide +kernel)⟩
theorem lw_p24 : lw_okq (⟨"InputrowConsole$Screen", "reset", "()V"⟩, 14) := ⟨⟨by decide +kernel, by decide +kernel⟩, List.mem_of_getElem? (i := 105) (by decide +kernel), List.mem_of_getElem? (i := 964) (by decide +kernel), List.mem_of_getElem? (i := 965) (by decide +kernel)⟩
theorem lw_p25 : lw_okq (⟨"InputrowConsole$Screen", "coded", "(I)V"⟩, 14) := ⟨⟨by decide +kernel, by decide +kernel⟩, List.mem_of_getElem? (i := 105) (by decide +kernel), List.mem_of_getElem? (i := 984) (by decide +kernel), List.mem_of_getElem? (i := 985) (by decide +kernel)⟩
theorem lw_p26 : lw_okq (⟨"InputrowConsole$Screen", "goTo", "(II)V"⟩, 14) := ⟨⟨by decide +kernel, by decide +kernel⟩, List.mem_of_getElem? (i := 105) (by decide +kernel), List.mem_of_getElem? (i := 995) (by decide +kernel), List.mem_of_getElem? (i := 996) (by decide +kernel)⟩
theorem lw_p27 : lw_okq (⟨"InputrowConsole$Screen", "eraseOtherRows", "(I)V"⟩, 14) := ⟨⟨by decide +kernel, by decide +kernel⟩, List.mem_of_getElem? (i := 105) (by decide +kernel), List.mem_of_getElem? (i := 1000) (by decide +kernel), List.mem_of_getElem? (i := 1001) (by decide +kernel)⟩
theorem lw_p28 : lw_okq (⟨"InputrowConsole$Screen", "eraseRow", "(I)V"⟩, 14) := ⟨⟨by decide +kernel, by decide +kernel⟩, List.mem_of_getElem? (i := 105) (by decide +kernel), List.mem_of_getElem? (i := 1009) (by decide +kernel), List.mem_of_getElem? (i := 1010) (by decide +kernel)⟩
theorem lw_p29 : lw_okq (⟨"InputrowConsole$Screen", "moveLines", "(IZ)V"⟩, 14) := ⟨⟨by decide +kernel, by decide +kernel⟩, List.mem_of_getElem? (i := 105) (by decide +kernel), List.mem_of_getElem? (i := 1013) (by decide +kernel), List.mem_of_getElem? (i := 1014) (by decide +kernel)⟩
theorem lw_p30 : lw_okq (⟨"InputrowConsole$Screen", "scroll", "(IZ)V"⟩, 14) := ⟨⟨by decide +kernel, by decide +kernel⟩, List.mem_of_getElem? (i := 105) (by decide +kernel), List.mem_of_getElem? (i := 1017) (by decide +kernel), List.mem_of_getElem? (i := 1018) (by decide +kernel)⟩
theorem lw_p31 : lw_okq (⟨"InputrowConsole$Screen", "setRegion", "()V"⟩, 14) := ⟨⟨by decide +kernel, by decide +kernel⟩, List.mem_of_getElem? (i := 105) (by decide +kernel), List.mem_of_getElem? (i := 1025) (by decide +kernel), List.mem_of_getElem? (i := 1026) (by decide +kernel)⟩
def lw_privs_2 : List (MethodName × Nat) := [(⟨"InputrowConsole$Screen", "endAbove", "(I)V"⟩, 14), (⟨"InputrowConsole$Screen", "addMark", "()V"⟩, 14), (⟨"InputrowConsole$Screen", "control", "(I)V"⟩, 14), (⟨"InputrowConsole$Screen", "escaped", "(I)V"⟩, 14), (⟨"InputrowConsole$Screen", "bringBack", "()V"⟩, 14), (⟨"InputrowConsole$Screen", "feedBack", "()V"⟩, 14), (⟨"InputrowConsole$Screen", "scrollDown", "(II)V"⟩, 14), (⟨"InputrowConsole$Screen", "setTab", "(IZ)V"⟩, 14), (⟨"InputrowConsole$Screen", "reset", "()V"⟩, 14), (⟨"InputrowConsole$Screen", "coded", "(I)V"⟩, 14), (⟨"InputrowConsole$Screen", "goTo", "(II)V"⟩, 14), (⟨"InputrowConsole$Screen", "eraseOtherRows", "(I)V"⟩, 14), (⟨"InputrowConsole$Screen", "eraseRow", "(I)V"⟩, 14), (⟨"InputrowConsole$Screen", "moveLines", "(IZ)V"⟩, 14), (⟨"InputrowConsole$Screen", "scroll", "(IZ)V"⟩, 14), (⟨"InputrowConsole$Screen", "setRegion", "()V"⟩, 14)]
theorem lw_r2 : ∀ q ∈ lw_privs_2, lw_okq q := List.forall_mem_cons.mpr ⟨lw_p16, List.forall_mem_cons.mpr ⟨lw_p17, List.forall_mem_cons.mpr ⟨lw_p18, List.forall_mem_cons.mpr ⟨lw_p19, List.forall_mem_cons.mpr ⟨lw_p20, List.forall_mem_cons.mpr ⟨lw_p21, List.forall_mem_cons.mpr ⟨lw_p22, List.forall_mem_cons.mpr ⟨lw_p23, List.forall_mem_cons.mpr ⟨lw_p24, List.forall_mem_cons.mpr ⟨lw_p25, List.forall_mem_cons.mpr ⟨lw_p26, List.forall_mem_cons.mpr ⟨lw_p27, List.forall_mem_cons.mpr ⟨lw_p28, List.forall_mem_cons.mpr ⟨lw_p29, List.forall_mem_cons.mpr ⟨lw_p30, List.forall_mem_cons.mpr ⟨lw_p31, fun _ h => absurd h List.not_mem_nil⟩⟩⟩⟩⟩⟩⟩⟩⟩⟩⟩⟩⟩⟩⟩⟩
theorem lw_p32 : lw_okq (⟨"InputrowConsole$Screen", "setAttribute", "()V"⟩, 14) := ⟨⟨by decide +kernel, by decide +kernel⟩, List.mem_of_getElem? (i := 105) (by decide +kernel), List.mem_of_getElem? (i := 1029) (by decide +kernel), List.mem_of_getElem? (i := 1030) (by decide +kernel)⟩
theorem lw_p33 : lw_okq (⟨"InputrowConsole$Screen", "clearTabs", "(I)V"⟩, 14) := ⟨⟨by decide +kernel, by decide +kernel⟩, List.mem_of_getElem? (i := 105) (by decide +kernel), List.mem_of_getElem? (i := 1033) (by decide +kernel), List.mem_of_getElem? (i := 1034) (by decide +kernel)⟩
theorem lw_p34 : lw_okq (⟨"InputrowConsole$Screen", "answer", "(I)V"⟩, 14) := ⟨⟨by decide +kernel, by decide +kernel⟩, List.mem_of_getElem? (i := 105) (by decide +kernel), List.mem_of_getElem? (i := 1037) (by decide +kernel), List.mem_of_getElem? (i := 1038) (by decide +kernel)⟩
theorem lw_p35 : lw_okq (⟨"InputrowConsole$Screen", "setInsert", "(Z)V"⟩, 14) := ⟨⟨by decide +kernel, by decide +kernel⟩, List.mem_of_getElem? (i := 105) (by decide +kernel), List.mem_of_getElem? (i := 1046) (by decide +kernel), List.mem_of_getElem? (i := 1047) (by decide +kernel)⟩
theorem lw_p36 : lw_okq (⟨"InputrowConsole$Screen", "codedWithMark", "(I)V"⟩, 14) := ⟨⟨by decide +kernel, by decide +kernel⟩, List.mem_of_getElem? (i := 105) (by decide +kernel), List.mem_of_getElem? (i := 1050) (by decide +kernel), List.mem_of_getElem? (i := 1051) (by decide +kernel)⟩
theorem lw_p37 : lw_okq (⟨"InputrowConsole$Screen", "setMarkedMode", "(IZ)V"⟩, 14) := ⟨⟨by decide +kernel, by decide +kernel⟩, List.mem_of_getElem? (i := 105) (by decide +kernel), List.mem_of_getElem? (i := 1054) (by decide +kernel), List.mem_of_getElem? (i := 1055) (by decide +kernel)⟩
theorem lw_p38 : lw_okq (⟨"InputrowConsole$Screen", "showOther", "(Z)V"⟩, 14) := ⟨⟨by decide +kernel, by decide +kernel⟩, List.mem_of_getElem? (i := 105) (by decide +kernel), List.mem_of_getElem? (i := 1058) (by decide +kernel), List.mem_of_getElem? (i := 1059) (by decide +kernel)⟩
theorem lw_p39 : lw_okq (⟨"InputrowConsole$LineRule", "echo", "(I)V"⟩, 9) := ⟨⟨by decide +kernel, by decide +kernel⟩, List.mem_of_getElem? (i := 62) (by decide +kernel), List.mem_of_getElem? (i := 1068) (by decide +kernel), List.mem_of_getElem? (i := 1069) (by decide +kernel)⟩
theorem lw_p40 : lw_okq (⟨"InputrowConsole$LineRule", "takeAway", "()V"⟩, 9) := ⟨⟨by decide +kernel, by decide +kernel⟩, List.mem_of_getElem? (i := 62) (by decide +kernel), List.mem_of_getElem? (i := 1072) (by decide +kernel), List.mem_of_getElem? (i := 1073) (by decide +kernel)⟩
theorem lw_p41 : lw_okq (⟨"InputrowConsole$LineRule", "takeWordAway", "()V"⟩, 9) := ⟨⟨by decide +kernel, by decide +kernel⟩, List.mem_of_getElem? (i := 62) (by decide +kernel), List.mem_of_getElem? (i := 1085) (by decide +kernel), List.mem_of_getElem? (i := 1086) (by decide +kernel)⟩
theorem lw_p42 : lw_okq (⟨"InputrowConsole$LineRule", "takeLineAway", "()V"⟩, 9) := ⟨⟨by decide +kernel, by decide +kernel⟩, List.mem_of_getElem? (i := 62) (by decide +kernel), List.mem_of_getElem? (i := 1093) (by decide +kernel), List.mem_of_getElem? (i := 1094) (by decide +kernel)⟩
theorem lw_p43 : lw_okq (⟨"InputrowConsole$LineRule", "endLine", "()V"⟩, 9) := ⟨⟨by decide +kernel, by decide +kernel⟩, List.mem_of_getElem? (i := 62) (by decide +kernel), List.mem_of_getElem? (i := 1097) (by decide +kernel), List.mem_of_getElem? (i := 1098) (by decide +kernel)⟩
theorem lw_p44 : lw_okq (⟨"InputrowConsole$LineRule", "sendLine", "()V"⟩, 9) := ⟨⟨by decide +kernel, by decide +kernel⟩, List.mem_of_getElem? (i := 62) (by decide +kernel), List.mem_of_getElem? (i := 1101) (by decide +kernel), List.mem_of_getElem? (i := 1102) (by decide +kernel)⟩
theorem lw_p45 : lw_okq (⟨"InputrowConsole$LineRule", "endInput", "()V"⟩, 9) := ⟨⟨by decide +kernel, by decide +kernel⟩, List.mem_of_getElem? (i := 62) (by decide +kernel), List.mem_of_getElem? (i := 1106) (by decide +kernel), List.mem_of_getElem? (i := 1107) (by decide +kernel)⟩
theorem lw_p46 : lw_okq (⟨"InputrowConsole$LineRule", "start", "()V"⟩, 9) := ⟨⟨by decide +kernel, by decide +kernel⟩, List.mem_of_getElem? (i := 62) (by decide +kernel), List.mem_of_getElem? (i := 1111) (by decide +kernel), List.mem_of_getElem? (i := 1112) (by decide +kernel)⟩
theorem lw_p47 : lw_okq (⟨"InputrowConsole$LineRule", "addToLine", "(I)V"⟩, 9) := ⟨⟨by decide +kernel, by decide +kernel⟩, List.mem_of_getElem? (i := 62) (by decide +kernel), List.mem_of_getElem? (i := 1115) (by decide +kernel), List.mem_of_getElem? (i := 1116) (by decide +kernel)⟩
def lw_privs_3 : List (MethodName × Nat) := [(⟨"InputrowConsole$Screen", "setAttribute", "()V"⟩, 14), (⟨"InputrowConsole$Screen", "clearTabs", "(I)V"⟩, 14), (⟨"InputrowConsole$Screen", "answer", "(I)V"⟩, 14), (⟨"InputrowConsole$Screen", "setInsert", "(Z)V"⟩, 14), (⟨"InputrowConsole$Screen", "codedWithMark", "(I)V"⟩, 14), (⟨"InputrowConsole$Screen", "setMarkedMode", "(IZ)V"⟩, 14), (⟨"InputrowConsole$Screen", "showOther", "(Z)V"⟩, 14), (⟨"InputrowConsole$LineRule", "echo", "(I)V"⟩, 9), (⟨"InputrowConsole$LineRule", "takeAway", "()V"⟩, 9), (⟨"InputrowConsole$LineRule", "takeWordAway", "()V"⟩, 9), (⟨"InputrowConsole$LineRule", "takeLineAway", "()V"⟩, 9), (⟨"InputrowConsole$LineRule", "endLine", "()V"⟩, 9), (⟨"InputrowConsole$LineRule", "sendLine", "()V"⟩, 9), (⟨"InputrowConsole$LineRule", "endInput", "()V"⟩, 9), (⟨"InputrowConsole$LineRule", "start", "()V"⟩, 9), (⟨"InputrowConsole$LineRule", "addToLine", "(I)V"⟩, 9)]
theorem lw_r3 : ∀ q ∈ lw_privs_3, lw_okq q := List.forall_mem_cons.mpr ⟨lw_p32, List.forall_mem_cons.mpr ⟨lw_p33, List.forall_mem_cons.mpr ⟨lw_p34, List.forall_mem_cons.mpr ⟨lw_p35, List.forall_mem_cons.mpr ⟨lw_p36, List.forall_mem_cons.mpr ⟨lw_p37, List.forall_mem_cons.mpr ⟨lw_p38, List.forall_mem_cons.mpr ⟨lw_p39, List.forall_mem_cons.mpr ⟨lw_p40, List.forall_mem_cons.mpr ⟨lw_p41, List.forall_mem_cons.mpr ⟨lw_p42, List.forall_mem_cons.mpr ⟨lw_p43, List.forall_mem_cons.mpr ⟨lw_p44, List.forall_mem_cons.mpr ⟨lw_p45, List.forall_mem_cons.mpr ⟨lw_p46, List.forall_mem_cons.mpr ⟨lw_p47, fun _ h => absurd h List.not_mem_nil⟩⟩⟩⟩⟩⟩⟩⟩⟩⟩⟩⟩⟩⟩⟩⟩
theorem lw_p48 : lw_okq (⟨"InputrowConsole$SlowLine", "compare", "(LInputrowConsole$Picture;I)I"⟩, 3) := ⟨⟨by decide +kernel, by decide +kernel⟩, List.mem_of_getElem? (i := 370) (by decide +kernel), List.mem_of_getElem? (i := 1148) (by decide +kernel), List.mem_of_getElem? (i := 1149) (by decide +kernel)⟩
theorem lw_p49 : lw_okq (⟨"InputrowConsole$SlowLine", "writing", "(III)I"⟩, 3) := ⟨⟨by decide +kernel, by decide +kernel⟩, List.mem_of_getElem? (i := 370) (by decide +kernel), List.mem_of_getElem? (i := 1158) (by decide +kernel), List.mem_of_getElem? (i := 1159) (by decide +kernel)⟩
theorem lw_p50 : lw_okq (⟨"InputrowConsole$SlowLine", "costsFrom", "(II)I"⟩, 3) := ⟨⟨by decide +kernel, by decide +kernel⟩, List.mem_of_getElem? (i := 370) (by decide +kernel), List.mem_of_getElem? (i := 1167) (by decide +kernel), List.mem_of_getElem? (i := 1168) (by decide +kernel)⟩
theorem lw_p51 : lw_okq (⟨"InputrowConsole$SlowLine", "passing", "(LInputrowConsole$Picture;III)I"⟩, 3) := ⟨⟨by decide +kernel, by decide +kernel⟩, List.mem_of_getElem? (i := 370) (by decide +kernel), List.mem_of_getElem? (i := 1171) (by decide +kernel), List.mem_of_getElem? (i := 1172) (by decide +kernel)⟩
theorem lw_p52 : lw_okq (⟨"InputrowConsole$SlowLine", "isLikeAt", "(I)Z"⟩, 3) := ⟨⟨by decide +kernel, by decide +kernel⟩, List.mem_of_getElem? (i := 370) (by decide +kernel), List.mem_of_getElem? (i := 1175) (by decide +kernel), List.mem_of_getElem? (i := 1176) (by decide +kernel)⟩
theorem lw_p53 : lw_okq (⟨"InputrowConsole$SlowLine", "keepCosts", "(III)V"⟩, 3) := ⟨⟨by decide +kernel, by decide +kernel⟩, List.mem_of_getElem? (i := 370) (by decide +kernel), List.mem_of_getElem? (i := 1180) (by decide +kernel), List.mem_of_getElem? (i := 1181) (by decide +kernel)⟩
theorem lw_p54 : lw_okq (⟨"InputrowConsole$SlowLine", "beginning", "(I)I"⟩, 3) := ⟨⟨by decide +kernel, by decide +kernel⟩, List.mem_of_getElem? (i := 370) (by decide +kernel), List.mem_of_getElem? (i := 1184) (by decide +kernel), List.mem_of_getElem? (i := 1185) (by decide +kernel)⟩
theorem lw_p55 : lw_okq (⟨"InputrowConsole$Main", "keptRows", "(I)I"⟩, 12) := ⟨⟨by decide +kernel, by decide +kernel⟩, List.mem_of_getElem? (i := 111) (by decide +kernel), List.mem_of_getElem? (i := 1326) (by decide +kernel), List.mem_of_getElem? (i := 1327) (by decide +kernel)⟩
theorem lw_p56 : lw_okq (⟨"InputrowConsole$Main", "beginRow", "()V"⟩, 12) := ⟨⟨by decide +kernel, by decide +kernel⟩, List.mem_of_getElem? (i := 111) (by decide +kernel), List.mem_of_getElem? (i := 1332) (by decide +kernel), List.mem_of_getElem? (i := 1333) (by decide +kernel)⟩
theorem lw_p57 : lw_okq (⟨"InputrowConsole$Main", "isGoing", "(I)Z"⟩, 12) := ⟨⟨by decide +kernel, by decide +kernel⟩, List.mem_of_getElem? (i := 111) (by decide +kernel), List.mem_of_getElem? (i := 1336) (by decide +kernel), List.mem_of_getElem? (i := 1337) (by decide +kernel)⟩
theorem lw_p58 : lw_okq (⟨"InputrowConsole$Main", "layRow", "(IZI)V"⟩, 12) := ⟨⟨by decide +kernel, by decide +kernel⟩, List.mem_of_getElem? (i := 111) (by decide +kernel), List.mem_of_getElem? (i := 1345) (by decide +kernel), List.mem_of_getElem? (i := 1346) (by decide +kernel)⟩
theorem lw_p59 : lw_okq (⟨"InputrowConsole$Main", "cellsOf", "(IZ)I"⟩, 12) := ⟨⟨by decide +kernel, by decide +kernel⟩, List.mem_of_getElem? (i := 111) (by decide +kernel), List.mem_of_getElem? (i := 1349) (by decide +kernel), List.mem_of_getElem? (i := 1350) (by decide +kernel)⟩
theorem lw_p60 : lw_okq (⟨"InputrowConsole$Main", "at", "(II)I"⟩, 12) := ⟨⟨by decide +kernel, by decide +kernel⟩, List.mem_of_getElem? (i := 111) (by decide +kernel), List.mem_of_getElem? (i := 1354) (by decide +kernel), List.mem_of_getElem? (i := 1355) (by decide +kernel)⟩
theorem lw_p61 : lw_okq (⟨"InputrowConsole$Main", "lengthOfLast", "()I"⟩, 12) := ⟨⟨by decide +kernel, by decide +kernel⟩, List.mem_of_getElem? (i := 111) (by decide +kernel), List.mem_of_getElem? (i := 1364) (by decide +kernel), List.mem_of_getElem? (i := 1365) (by decide +kernel)⟩
theorem lw_p62 : lw_okq (⟨"InputrowConsole$Main", "goOn", "()V"⟩, 12) := ⟨⟨by decide +kernel, by decide +kernel⟩, List.mem_of_getElem? (i := 111) (by decide +kernel), List.mem_of_getElem? (i := 1368) (by decide +kernel), List.mem_of_getElem? (i := 1369) (by decide +kernel)⟩
theorem lw_p63 : lw_okq (⟨"InputrowConsole$Main", "lay", "(I)V"⟩, 12) := ⟨⟨by decide +kernel, by decide +kernel⟩, List.mem_of_getElem? (i := 111) (by decide +kernel), List.mem_of_getElem? (i := 1372) (by decide +kernel), List.mem_of_getElem? (i := 1373) (by decide +kernel)⟩
def lw_privs_4 : List (MethodName × Nat) := [(⟨"InputrowConsole$SlowLine", "compare", "(LInputrowConsole$Picture;I)I"⟩, 3), (⟨"InputrowConsole$SlowLine", "writing", "(III)I"⟩, 3), (⟨"InputrowConsole$SlowLine", "costsFrom", "(II)I"⟩, 3), (⟨"InputrowConsole$SlowLine", "passing", "(LInputrowConsole$Picture;III)I"⟩, 3), (⟨"InputrowConsole$SlowLine", "isLikeAt", "(I)Z"⟩, 3), (⟨"InputrowConsole$SlowLine", "keepCosts", "(III)V"⟩, 3), (⟨"InputrowConsole$SlowLine", "beginning", "(I)I"⟩, 3), (⟨"InputrowConsole$Main", "keptRows", "(I)I"⟩, 12), (⟨"InputrowConsole$Main", "beginRow", "()V"⟩, 12), (⟨"InputrowConsole$Main", "isGoing", "(I)Z"⟩, 12), (⟨"InputrowConsole$Main", "layRow", "(IZI)V"⟩, 12), (⟨"InputrowConsole$Main", "cellsOf", "(IZ)I"⟩, 12), (⟨"InputrowConsole$Main", "at", "(II)I"⟩, 12), (⟨"InputrowConsole$Main", "lengthOfLast", "()I"⟩, 12), (⟨"InputrowConsole$Main", "goOn", "()V"⟩, 12), (⟨"InputrowConsole$Main", "lay", "(I)V"⟩, 12)]
theorem lw_r4 : ∀ q ∈ lw_privs_4, lw_okq q := List.forall_mem_cons.mpr ⟨lw_p48, List.forall_mem_cons.mpr ⟨lw_p49, List.forall_mem_cons.mpr ⟨lw_p50, List.forall_mem_cons.mpr ⟨lw_p51, List.forall_mem_cons.mpr ⟨lw_p52, List.forall_mem_cons.mpr ⟨lw_p53, List.forall_mem_cons.mpr ⟨lw_p54, List.forall_mem_cons.mpr ⟨lw_p55, List.forall_mem_cons.mpr ⟨lw_p56, List.forall_mem_cons.mpr ⟨lw_p57, List.forall_mem_cons.mpr ⟨lw_p58, List.forall_mem_cons.mpr ⟨lw_p59, List.forall_mem_cons.mpr ⟨lw_p60, List.forall_mem_cons.mpr ⟨lw_p61, List.forall_mem_cons.mpr ⟨lw_p62, List.forall_mem_cons.mpr ⟨lw_p63, fun _ h => absurd h List.not_mem_nil⟩⟩⟩⟩⟩⟩⟩⟩⟩⟩⟩⟩⟩⟩⟩⟩
theorem lw_p64 : lw_okq (⟨"InputrowConsole$Main", "putBack", "(III)V"⟩, 12) := ⟨⟨by decide +kernel, by decide +kernel⟩, List.mem_of_getElem? (i := 111) (by decide +kernel), List.mem_of_getElem? (i := 1378) (by decide +kernel), List.mem_of_getElem? (i := 1379) (by decide +kernel)⟩
theorem lw_p65 : lw_okq (⟨"InputrowConsoleModel", "laysTabs", "(I)V"⟩, 59) := ⟨⟨by decide +kernel, by decide +kernel⟩, List.mem_of_getElem? (i := 1473) (by decide +kernel), List.mem_of_getElem? (i := 1479) (by decide +kernel), List.mem_of_getElem? (i := 1480) (by decide +kernel)⟩
theorem lw_p66 : lw_okq (⟨"InputrowConsoleModel", "puts", "(I)V"⟩, 59) := ⟨⟨by decide +kernel, by decide +kernel⟩, List.mem_of_getElem? (i := 1473) (by decide +kernel), List.mem_of_getElem? (i := 1672) (by decide +kernel), List.mem_of_getElem? (i := 1673) (by decide +kernel)⟩
theorem lw_p67 : lw_okq (⟨"InputrowConsoleModel", "comes", "(I)V"⟩, 59) := ⟨⟨by decide +kernel, by decide +kernel⟩, List.mem_of_getElem? (i := 1473) (by decide +kernel), List.mem_of_getElem? (i := 1676) (by decide +kernel), List.mem_of_getElem? (i := 1677) (by decide +kernel)⟩
theorem lw_p68 : lw_okq (⟨"InputrowConsoleModel", "titles", "(I)V"⟩, 59) := ⟨⟨by decide +kernel, by decide +kernel⟩, List.mem_of_getElem? (i := 1473) (by decide +kernel), List.mem_of_getElem? (i := 1680) (by decide +kernel), List.mem_of_getElem? (i := 1681) (by decide +kernel)⟩
theorem lw_p69 : lw_okq (⟨"InputrowConsoleModel", "controls", "(I)V"⟩, 59) := ⟨⟨by decide +kernel, by decide +kernel⟩, List.mem_of_getElem? (i := 1473) (by decide +kernel), List.mem_of_getElem? (i := 1684) (by decide +kernel), List.mem_of_getElem? (i := 1685) (by decide +kernel)⟩
theorem lw_p70 : lw_okq (⟨"InputrowConsoleModel", "nextTab", "()I"⟩, 59) := ⟨⟨by decide +kernel, by decide +kernel⟩, List.mem_of_getElem? (i := 1473) (by decide +kernel), List.mem_of_getElem? (i := 1688) (by decide +kernel), List.mem_of_getElem? (i := 1689) (by decide +kernel)⟩
theorem lw_p71 : lw_okq (⟨"InputrowConsoleModel", "feeds", "()V"⟩, 59) := ⟨⟨by decide +kernel, by decide +kernel⟩, List.mem_of_getElem? (i := 1473) (by decide +kernel), List.mem_of_getElem? (i := 1692) (by decide +kernel), List.mem_of_getElem? (i := 1693) (by decide +kernel)⟩
theorem lw_p72 : lw_okq (⟨"InputrowConsoleModel", "scrollsUp", "(IIZ)V"⟩, 59) := ⟨⟨by decide +kernel, by decide +kernel⟩, List.mem_of_getElem? (i := 1473) (by decide +kernel), List.mem_of_getElem? (i := 1696) (by decide +kernel), List.mem_of_getElem? (i := 1697) (by decide +kernel)⟩
theorem lw_p73 : lw_okq (⟨"InputrowConsoleModel", "keepsRow", "()V"⟩, 59) := ⟨⟨by decide +kernel, by decide +kernel⟩, List.mem_of_getElem? (i := 1473) (by decide +kernel), List.mem_of_getElem? (i := 1700) (by decide +kernel), List.mem_of_getElem? (i := 1701) (by decide +kernel)⟩
theorem lw_p74 : lw_okq (⟨"InputrowConsoleModel", "copiesRow", "(II)V"⟩, 59) := ⟨⟨by decide +kernel, by decide +kernel⟩, List.mem_of_getElem? (i := 1473) (by decide +kernel), List.mem_of_getElem? (i := 1704) (by decide +kernel), List.mem_of_getElem? (i := 1705) (by decide +kernel)⟩
theorem lw_p75 : lw_okq (⟨"InputrowConsoleModel", "at", "(II)I"⟩, 59) := ⟨⟨by decide +kernel, by decide +kernel⟩, List.mem_of_getElem? (i := 1473) (by decide +kernel), List.mem_of_getElem? (i := 1708) (by decide +kernel), List.mem_of_getElem? (i := 1709) (by decide +kernel)⟩
theorem lw_p76 : lw_okq (⟨"InputrowConsoleModel", "emptiesRow", "(I)V"⟩, 59) := ⟨⟨by decide +kernel, by decide +kernel⟩, List.mem_of_getElem? (i := 1473) (by decide +kernel), List.mem_of_getElem? (i := 1712) (by decide +kernel), List.mem_of_getElem? (i := 1713) (by decide +kernel)⟩
theorem lw_p77 : lw_okq (⟨"InputrowConsoleModel", "stopsAbove", "(I)V"⟩, 59) := ⟨⟨by decide +kernel, by decide +kernel⟩, List.mem_of_getElem? (i := 1473) (by decide +kernel), List.mem_of_getElem? (i := 1716) (by decide +kernel), List.mem_of_getElem? (i := 1717) (by decide +kernel)⟩
theorem lw_p78 : lw_okq (⟨"InputrowConsoleModel", "escapes", "(I)V"⟩, 59) := ⟨⟨by decide +kernel, by decide +kernel⟩, List.mem_of_getElem? (i := 1473) (by decide +kernel), List.mem_of_getElem? (i := 1720) (by decide +kernel), List.mem_of_getElem? (i := 1721) (by decide +kernel)⟩
theorem lw_p79 : lw_okq (⟨"InputrowConsoleModel", "saves", "()V"⟩, 59) := ⟨⟨by decide +kernel, by decide +kernel⟩, List.mem_of_getElem? (i := 1473) (by decide +kernel), List.mem_of_getElem? (i := 1724) (by decide +kernel), List.mem_of_getElem? (i := 1725) (by decide +kernel)⟩
def lw_privs_5 : List (MethodName × Nat) := [(⟨"InputrowConsole$Main", "putBack", "(III)V"⟩, 12), (⟨"InputrowConsoleModel", "laysTabs", "(I)V"⟩, 59), (⟨"InputrowConsoleModel", "puts", "(I)V"⟩, 59), (⟨"InputrowConsoleModel", "comes", "(I)V"⟩, 59), (⟨"InputrowConsoleModel", "titles", "(I)V"⟩, 59), (⟨"InputrowConsoleModel", "controls", "(I)V"⟩, 59), (⟨"InputrowConsoleModel", "nextTab", "()I"⟩, 59), (⟨"InputrowConsoleModel", "feeds", "()V"⟩, 59), (⟨"InputrowConsoleModel", "scrollsUp", "(IIZ)V"⟩, 59), (⟨"InputrowConsoleModel", "keepsRow", "()V"⟩, 59), (⟨"InputrowConsoleModel", "copiesRow", "(II)V"⟩, 59), (⟨"InputrowConsoleModel", "at", "(II)I"⟩, 59), (⟨"InputrowConsoleModel", "emptiesRow", "(I)V"⟩, 59), (⟨"InputrowConsoleModel", "stopsAbove", "(I)V"⟩, 59), (⟨"InputrowConsoleModel", "escapes", "(I)V"⟩, 59), (⟨"InputrowConsoleModel", "saves", "()V"⟩, 59)]
theorem lw_r5 : ∀ q ∈ lw_privs_5, lw_okq q := List.forall_mem_cons.mpr ⟨lw_p64, List.forall_mem_cons.mpr ⟨lw_p65, List.forall_mem_cons.mpr ⟨lw_p66, List.forall_mem_cons.mpr ⟨lw_p67, List.forall_mem_cons.mpr ⟨lw_p68, List.forall_mem_cons.mpr ⟨lw_p69, List.forall_mem_cons.mpr ⟨lw_p70, List.forall_mem_cons.mpr ⟨lw_p71, List.forall_mem_cons.mpr ⟨lw_p72, List.forall_mem_cons.mpr ⟨lw_p73, List.forall_mem_cons.mpr ⟨lw_p74, List.forall_mem_cons.mpr ⟨lw_p75, List.forall_mem_cons.mpr ⟨lw_p76, List.forall_mem_cons.mpr ⟨lw_p77, List.forall_mem_cons.mpr ⟨lw_p78, List.forall_mem_cons.mpr ⟨lw_p79, fun _ h => absurd h List.not_mem_nil⟩⟩⟩⟩⟩⟩⟩⟩⟩⟩⟩⟩⟩⟩⟩⟩
theorem lw_p80 : lw_okq (⟨"InputrowConsoleModel", "bringsBack", "()V"⟩, 59) := ⟨⟨by decide +kernel, by decide +kernel⟩, List.mem_of_getElem? (i := 1473) (by decide +kernel), List.mem_of_getElem? (i := 1728) (by decide +kernel), List.mem_of_getElem? (i := 1729) (by decide +kernel)⟩
theorem lw_p81 : lw_okq (⟨"InputrowConsoleModel", "scrollsDown", "(II)V"⟩, 59) := ⟨⟨by decide +kernel, by decide +kernel⟩, List.mem_of_getElem? (i := 1473) (by decide +kernel), List.mem_of_getElem? (i := 1735) (by decide +kernel), List.mem_of_getElem? (i := 1736) (by decide +kernel)⟩
theorem lw_p82 : lw_okq (⟨"InputrowConsoleModel", "resets", "()V"⟩, 59) := ⟨⟨by decide +kernel, by decide +kernel⟩, List.mem_of_getElem? (i := 1473) (by decide +kernel), List.mem_of_getElem? (i := 1739) (by decide +kernel), List.mem_of_getElem? (i := 1740) (by decide +kernel)⟩
theorem lw_p83 : lw_okq (⟨"InputrowConsoleModel", "empties", "(I)V"⟩, 59) := ⟨⟨by decide +kernel, by decide +kernel⟩, List.mem_of_getElem? (i := 1473) (by decide +kernel), List.mem_of_getElem? (i := 1743) (by decide +kernel), List.mem_of_getElem? (i := 1744) (by decide +kernel)⟩
theorem lw_p84 : lw_okq (⟨"InputrowConsoleModel", "codes", "(I)V"⟩, 59) := ⟨⟨by decide +kernel, by decide +kernel⟩, List.mem_of_getElem? (i := 1473) (by decide +kernel), List.mem_of_getElem? (i := 1747) (by decide +kernel), List.mem_of_getElem? (i := 1748) (by decide +kernel)⟩
theorem lw_p85 : lw_okq (⟨"InputrowConsoleModel", "modes", "(IZ)V"⟩, 59) := ⟨⟨by decide +kernel, by decide +kernel⟩, List.mem_of_getElem? (i := 1473) (by decide +kernel), List.mem_of_getElem? (i := 1751) (by decide +kernel), List.mem_of_getElem? (i := 1752) (by decide +kernel)⟩
theorem lw_p86 : lw_okq (⟨"InputrowConsoleModel", "setsMode", "(IZ)V"⟩, 59) := ⟨⟨by decide +kernel, by decide +kernel⟩, List.mem_of_getElem? (i := 1473) (by decide +kernel), List.mem_of_getElem? (i := 1755) (by decide +kernel), List.mem_of_getElem? (i := 1756) (by decide +kernel)⟩
theorem lw_p87 : lw_okq (⟨"InputrowConsoleModel", "means", "(I)V"⟩, 59) := ⟨⟨by decide +kernel, by decide +kernel⟩, List.mem_of_getElem? (i := 1473) (by decide +kernel), List.mem_of_getElem? (i := 1759) (by decide +kernel), List.mem_of_getElem? (i := 1760) (by decide +kernel)⟩
theorem lw_p88 : lw_okq (⟨"InputrowConsoleModel", "first", "()I"⟩, 59) := ⟨⟨by decide +kernel, by decide +kernel⟩, List.mem_of_getElem? (i := 1473) (by decide +kernel), List.mem_of_getElem? (i := 1763) (by decide +kernel), List.mem_of_getElem? (i := 1764) (by decide +kernel)⟩
theorem lw_p89 : lw_okq (⟨"InputrowConsoleModel", "second", "()I"⟩, 59) := ⟨⟨by decide +kernel, by decide +kernel⟩, List.mem_of_getElem? (i := 1473) (by decide +kernel), List.mem_of_getElem? (i := 1767) (by decide +kernel), List.mem_of_getElem? (i := 1768) (by decide +kernel)⟩
theorem lw_p90 : lw_okq (⟨"InputrowConsoleModel", "erasesAll", "(I)V"⟩, 59) := ⟨⟨by decide +kernel, by decide +kernel⟩, List.mem_of_getElem? (i := 1473) (by decide +kernel), List.mem_of_getElem? (i := 1771) (by decide +kernel), List.mem_of_getElem? (i := 1772) (by decide +kernel)⟩
theorem lw_p91 : lw_okq (⟨"InputrowConsoleModel", "erasesRow", "(II)V"⟩, 59) := ⟨⟨by decide +kernel, by decide +kernel⟩, List.mem_of_getElem? (i := 1473) (by decide +kernel), List.mem_of_getElem? (i := 1775) (by decide +kernel), List.mem_of_getElem? (i := 1776) (by decide +kernel)⟩
theorem lw_p92 : lw_okq (⟨"InputrowConsoleModel", "erases", "(III)V"⟩, 59) := ⟨⟨by decide +kernel, by decide +kernel⟩, List.mem_of_getElem? (i := 1473) (by decide +kernel), List.mem_of_getElem? (i := 1779) (by decide +kernel), List.mem_of_getElem? (i := 1780) (by decide +kernel)⟩
theorem lw_p93 : lw_okq (⟨"InputrowConsoleModel", "parts", "(II)V"⟩, 59) := ⟨⟨by decide +kernel, by decide +kernel⟩, List.mem_of_getElem? (i := 1473) (by decide +kernel), List.mem_of_getElem? (i := 1783) (by decide +kernel), List.mem_of_getElem? (i := 1784) (by decide +kernel)⟩
theorem lw_p94 : lw_okq (⟨"InputrowConsoleModel", "linesMove", "(Z)V"⟩, 59) := ⟨⟨by decide +kernel, by decide +kernel⟩, List.mem_of_getElem? (i := 1473) (by decide +kernel), List.mem_of_getElem? (i := 1787) (by decide +kernel), List.mem_of_getElem? (i := 1788) (by decide +kernel)⟩
theorem lw_p95 : lw_okq (⟨"InputrowConsoleModel", "movesRight", "(III)V"⟩, 59) := ⟨⟨by decide +kernel, by decide +kernel⟩, List.mem_of_getElem? (i := 1473) (by decide +kernel), List.mem_of_getElem? (i := 1791) (by decide +kernel), List.mem_of_getElem? (i := 1792) (by decide +kernel)⟩
def lw_privs_6 : List (MethodName × Nat) := [(⟨"InputrowConsoleModel", "bringsBack", "()V"⟩, 59), (⟨"InputrowConsoleModel", "scrollsDown", "(II)V"⟩, 59), (⟨"InputrowConsoleModel", "resets", "()V"⟩, 59), (⟨"InputrowConsoleModel", "empties", "(I)V"⟩, 59), (⟨"InputrowConsoleModel", "codes", "(I)V"⟩, 59), (⟨"InputrowConsoleModel", "modes", "(IZ)V"⟩, 59), (⟨"InputrowConsoleModel", "setsMode", "(IZ)V"⟩, 59), (⟨"InputrowConsoleModel", "means", "(I)V"⟩, 59), (⟨"InputrowConsoleModel", "first", "()I"⟩, 59), (⟨"InputrowConsoleModel", "second", "()I"⟩, 59), (⟨"InputrowConsoleModel", "erasesAll", "(I)V"⟩, 59), (⟨"InputrowConsoleModel", "erasesRow", "(II)V"⟩, 59), (⟨"InputrowConsoleModel", "erases", "(III)V"⟩, 59), (⟨"InputrowConsoleModel", "parts", "(II)V"⟩, 59), (⟨"InputrowConsoleModel", "linesMove", "(Z)V"⟩, 59), (⟨"InputrowConsoleModel", "movesRight", "(III)V"⟩, 59)]
theorem lw_r6 : ∀ q ∈ lw_privs_6, lw_okq q := List.forall_mem_cons.mpr ⟨lw_p80, List.forall_mem_cons.mpr ⟨lw_p81, List.forall_mem_cons.mpr ⟨lw_p82, List.forall_mem_cons.mpr ⟨lw_p83, List.forall_mem_cons.mpr ⟨lw_p84, List.forall_mem_cons.mpr ⟨lw_p85, List.forall_mem_cons.mpr ⟨lw_p86, List.forall_mem_cons.mpr ⟨lw_p87, List.forall_mem_cons.mpr ⟨lw_p88, List.forall_mem_cons.mpr ⟨lw_p89, List.forall_mem_cons.mpr ⟨lw_p90, List.forall_mem_cons.mpr ⟨lw_p91, List.forall_mem_cons.mpr ⟨lw_p92, List.forall_mem_cons.mpr ⟨lw_p93, List.forall_mem_cons.mpr ⟨lw_p94, List.forall_mem_cons.mpr ⟨lw_p95, fun _ h => absurd h List.not_mem_nil⟩⟩⟩⟩⟩⟩⟩⟩⟩⟩⟩⟩⟩⟩⟩⟩
theorem lw_p96 : lw_okq (⟨"InputrowConsoleModel", "movesLeft", "(III)V"⟩, 59) := ⟨⟨by decide +kernel, by decide +kernel⟩, List.mem_of_getElem? (i := 1473) (by decide +kernel), List.mem_of_getElem? (i := 1795) (by decide +kernel), List.mem_of_getElem? (i := 1796) (by decide +kernel)⟩
theorem lw_p97 : lw_okq (⟨"InputrowConsoleModel", "meansMore", "(II)V"⟩, 59) := ⟨⟨by decide +kernel, by decide +kernel⟩, List.mem_of_getElem? (i := 1473) (by decide +kernel), List.mem_of_getElem? (i := 1799) (by decide +kernel), List.mem_of_getElem? (i := 1800) (by decide +kernel)⟩
theorem lw_p98 : lw_okq (⟨"InputrowConsoleModel", "setsRegion", "()V"⟩, 59) := ⟨⟨by decide +kernel, by decide +kernel⟩, List.mem_of_getElem? (i := 1473) (by decide +kernel), List.mem_of_getElem? (i := 1803) (by decide +kernel), List.mem_of_getElem? (i := 1804) (by decide +kernel)⟩
theorem lw_p99 : lw_okq (⟨"InputrowConsoleModel", "colours", "()V"⟩, 59) := ⟨⟨by decide +kernel, by decide +kernel⟩, List.mem_of_getElem? (i := 1473) (by decide +kernel), List.mem_of_getElem? (i := 1807) (by decide +kernel), List.mem_of_getElem? (i := 1808) (by decide +kernel)⟩
theorem lw_p100 : lw_okq (⟨"InputrowConsoleModel", "tells", "()V"⟩, 59) := ⟨⟨by decide +kernel, by decide +kernel⟩, List.mem_of_getElem? (i := 1473) (by decide +kernel), List.mem_of_getElem? (i := 1811) (by decide +kernel), List.mem_of_getElem? (i := 1812) (by decide +kernel)⟩
theorem lw_p101 : lw_okq (⟨"InputrowConsoleModel", "sends", "(I)V"⟩, 59) := ⟨⟨by decide +kernel, by decide +kernel⟩, List.mem_of_getElem? (i := 1473) (by decide +kernel), List.mem_of_getElem? (i := 1815) (by decide +kernel), List.mem_of_getElem? (i := 1816) (by decide +kernel)⟩
theorem lw_p102 : lw_okq (⟨"InputrowConsoleModel", "sendsNumber", "(I)V"⟩, 59) := ⟨⟨by decide +kernel, by decide +kernel⟩, List.mem_of_getElem? (i := 1473) (by decide +kernel), List.mem_of_getElem? (i := 1819) (by decide +kernel), List.mem_of_getElem? (i := 1820) (by decide +kernel)⟩
theorem lw_p103 : lw_okq (⟨"InputrowConsoleModel", "marks", "()V"⟩, 59) := ⟨⟨by decide +kernel, by decide +kernel⟩, List.mem_of_getElem? (i := 1473) (by decide +kernel), List.mem_of_getElem? (i := 1823) (by decide +kernel), List.mem_of_getElem? (i := 1824) (by decide +kernel)⟩
theorem lw_p104 : lw_okq (⟨"InputrowConsoleModel", "draws", "(I)V"⟩, 59) := ⟨⟨by decide +kernel, by decide +kernel⟩, List.mem_of_getElem? (i := 1473) (by decide +kernel), List.mem_of_getElem? (i := 1828) (by decide +kernel), List.mem_of_getElem? (i := 1829) (by decide +kernel)⟩
theorem lw_p105 : lw_okq (⟨"InputrowConsoleModel", "putsNumber", "(I)V"⟩, 59) := ⟨⟨by decide +kernel, by decide +kernel⟩, List.mem_of_getElem? (i := 1473) (by decide +kernel), List.mem_of_getElem? (i := 1839) (by decide +kernel), List.mem_of_getElem? (i := 1840) (by decide +kernel)⟩
theorem lw_p106 : lw_okq (⟨"InputrowConsoleModel", "types", "(I)V"⟩, 59) := ⟨⟨by decide +kernel, by decide +kernel⟩, List.mem_of_getElem? (i := 1473) (by decide +kernel), List.mem_of_getElem? (i := 1847) (by decide +kernel), List.mem_of_getElem? (i := 1848) (by decide +kernel)⟩
theorem lw_p107 : lw_okq (⟨"InputrowConsoleModel", "echo", "(I)V"⟩, 59) := ⟨⟨by decide +kernel, by decide +kernel⟩, List.mem_of_getElem? (i := 1473) (by decide +kernel), List.mem_of_getElem? (i := 1851) (by decide +kernel), List.mem_of_getElem? (i := 1852) (by decide +kernel)⟩
theorem lw_p108 : lw_okq (⟨"InputrowConsoleModel", "edits", "(I)V"⟩, 59) := ⟨⟨by decide +kernel, by decide +kernel⟩, List.mem_of_getElem? (i := 1473) (by decide +kernel), List.mem_of_getElem? (i := 1855) (by decide +kernel), List.mem_of_getElem? (i := 1856) (by decide +kernel)⟩
theorem lw_p109 : lw_okq (⟨"InputrowConsoleModel", "takesLast", "()V"⟩, 59) := ⟨⟨by decide +kernel, by decide +kernel⟩, List.mem_of_getElem? (i := 1473) (by decide +kernel), List.mem_of_getElem? (i := 1859) (by decide +kernel), List.mem_of_getElem? (i := 1860) (by decide +kernel)⟩
theorem lw_p110 : lw_okq (⟨"InputrowConsoleModel", "givesLine", "()V"⟩, 59) := ⟨⟨by decide +kernel, by decide +kernel⟩, List.mem_of_getElem? (i := 1473) (by decide +kernel), List.mem_of_getElem? (i := 1863) (by decide +kernel), List.mem_of_getElem? (i := 1864) (by decide +kernel)⟩
theorem lw_p111 : lw_okq (⟨"InputrowConsoleModel", "starts", "()V"⟩, 59) := ⟨⟨by decide +kernel, by decide +kernel⟩, List.mem_of_getElem? (i := 1473) (by decide +kernel), List.mem_of_getElem? (i := 1867) (by decide +kernel), List.mem_of_getElem? (i := 1868) (by decide +kernel)⟩
def lw_privs_7 : List (MethodName × Nat) := [(⟨"InputrowConsoleModel", "movesLeft", "(III)V"⟩, 59), (⟨"InputrowConsoleModel", "meansMore", "(II)V"⟩, 59), (⟨"InputrowConsoleModel", "setsRegion", "()V"⟩, 59), (⟨"InputrowConsoleModel", "colours", "()V"⟩, 59), (⟨"InputrowConsoleModel", "tells", "()V"⟩, 59), (⟨"InputrowConsoleModel", "sends", "(I)V"⟩, 59), (⟨"InputrowConsoleModel", "sendsNumber", "(I)V"⟩, 59), (⟨"InputrowConsoleModel", "marks", "()V"⟩, 59), (⟨"InputrowConsoleModel", "draws", "(I)V"⟩, 59), (⟨"InputrowConsoleModel", "putsNumber", "(I)V"⟩, 59), (⟨"InputrowConsoleModel", "types", "(I)V"⟩, 59), (⟨"InputrowConsoleModel", "echo", "(I)V"⟩, 59), (⟨"InputrowConsoleModel", "edits", "(I)V"⟩, 59), (⟨"InputrowConsoleModel", "takesLast", "()V"⟩, 59), (⟨"InputrowConsoleModel", "givesLine", "()V"⟩, 59), (⟨"InputrowConsoleModel", "starts", "()V"⟩, 59)]
theorem lw_r7 : ∀ q ∈ lw_privs_7, lw_okq q := List.forall_mem_cons.mpr ⟨lw_p96, List.forall_mem_cons.mpr ⟨lw_p97, List.forall_mem_cons.mpr ⟨lw_p98, List.forall_mem_cons.mpr ⟨lw_p99, List.forall_mem_cons.mpr ⟨lw_p100, List.forall_mem_cons.mpr ⟨lw_p101, List.forall_mem_cons.mpr ⟨lw_p102, List.forall_mem_cons.mpr ⟨lw_p103, List.forall_mem_cons.mpr ⟨lw_p104, List.forall_mem_cons.mpr ⟨lw_p105, List.forall_mem_cons.mpr ⟨lw_p106, List.forall_mem_cons.mpr ⟨lw_p107, List.forall_mem_cons.mpr ⟨lw_p108, List.forall_mem_cons.mpr ⟨lw_p109, List.forall_mem_cons.mpr ⟨lw_p110, List.forall_mem_cons.mpr ⟨lw_p111, fun _ h => absurd h List.not_mem_nil⟩⟩⟩⟩⟩⟩⟩⟩⟩⟩⟩⟩⟩⟩⟩⟩
theorem lw_p112 : lw_okq (⟨"InputrowConsoleModel", "adds", "(I)V"⟩, 59) := ⟨⟨by decide +kernel, by decide +kernel⟩, List.mem_of_getElem? (i := 1473) (by decide +kernel), List.mem_of_getElem? (i := 1871) (by decide +kernel), List.mem_of_getElem? (i := 1872) (by decide +kernel)⟩
theorem lw_p113 : lw_okq (⟨"InputrowConsoleModel", "typesAround", "(I)V"⟩, 59) := ⟨⟨by decide +kernel, by decide +kernel⟩, List.mem_of_getElem? (i := 1473) (by decide +kernel), List.mem_of_getElem? (i := 1890) (by decide +kernel), List.mem_of_getElem? (i := 1891) (by decide +kernel)⟩
theorem lw_p114 : lw_okq (⟨"InputrowConsoleModel", "isCell", "(II)Z"⟩, 59) := ⟨⟨by decide +kernel, by decide +kernel⟩, List.mem_of_getElem? (i := 1473) (by decide +kernel), List.mem_of_getElem? (i := 1898) (by decide +kernel), List.mem_of_getElem? (i := 1899) (by decide +kernel)⟩
theorem lw_p115 : lw_okq (⟨"InputrowConsoleModel", "typesNumber", "(I)V"⟩, 59) := ⟨⟨by decide +kernel, by decide +kernel⟩, List.mem_of_getElem? (i := 1473) (by decide +kernel), List.mem_of_getElem? (i := 1902) (by decide +kernel), List.mem_of_getElem? (i := 1903) (by decide +kernel)⟩
theorem lw_p116 : lw_okq (⟨"InputrowConsoleModel", "lays", "(III)I"⟩, 59) := ⟨⟨by decide +kernel, by decide +kernel⟩, List.mem_of_getElem? (i := 1473) (by decide +kernel), List.mem_of_getElem? (i := 1918) (by decide +kernel), List.mem_of_getElem? (i := 1919) (by decide +kernel)⟩
theorem lw_p117 : lw_okq (⟨"InputrowConsoleModel", "fullOf", "(I)I"⟩, 59) := ⟨⟨by decide +kernel, by decide +kernel⟩, List.mem_of_getElem? (i := 1473) (by decide +kernel), List.mem_of_getElem? (i := 1922) (by decide +kernel), List.mem_of_getElem? (i := 1923) (by decide +kernel)⟩
theorem lw_p118 : lw_okq (⟨"InputrowConsoleModel", "old", "(II)I"⟩, 59) := ⟨⟨by decide +kernel, by decide +kernel⟩, List.mem_of_getElem? (i := 1473) (by decide +kernel), List.mem_of_getElem? (i := 1926) (by decide +kernel), List.mem_of_getElem? (i := 1927) (by decide +kernel)⟩
theorem lw_p119 : lw_okq (⟨"InputrowConsoleModel", "emptiesLaid", "(I)V"⟩, 59) := ⟨⟨by decide +kernel, by decide +kernel⟩, List.mem_of_getElem? (i := 1473) (by decide +kernel), List.mem_of_getElem? (i := 1930) (by decide +kernel), List.mem_of_getElem? (i := 1931) (by decide +kernel)⟩
theorem lw_p120 : lw_okq (⟨"InputrowConsoleModel", "oldGoes", "(I)Z"⟩, 59) := ⟨⟨by decide +kernel, by decide +kernel⟩, List.mem_of_getElem? (i := 1473) (by decide +kernel), List.mem_of_getElem? (i := 1934) (by decide +kernel), List.mem_of_getElem? (i := 1935) (by decide +kernel)⟩
theorem lw_p121 : lw_okq (⟨"InputrowConsoleModel", "cutsOther", "(II)V"⟩, 59) := ⟨⟨by decide +kernel, by decide +kernel⟩, List.mem_of_getElem? (i := 1473) (by decide +kernel), List.mem_of_getElem? (i := 1941) (by decide +kernel), List.mem_of_getElem? (i := 1942) (by decide +kernel)⟩
theorem lw_p122 : lw_okq (⟨"InputrowConsoleModel", "costOf", "(I)I"⟩, 59) := ⟨⟨by decide +kernel, by decide +kernel⟩, List.mem_of_getElem? (i := 1473) (by decide +kernel), List.mem_of_getElem? (i := 1949) (by decide +kernel), List.mem_of_getElem? (i := 1950) (by decide +kernel)⟩
theorem lw_p123 : lw_okq (⟨"InputrowConsoleModel", "isLike", "(II)Z"⟩, 59) := ⟨⟨by decide +kernel, by decide +kernel⟩, List.mem_of_getElem? (i := 1473) (by decide +kernel), List.mem_of_getElem? (i := 1953) (by decide +kernel), List.mem_of_getElem? (i := 1954) (by decide +kernel)⟩
theorem lw_p124 : lw_okq (⟨"InputrowConsoleModel", "wide", "(II)I"⟩, 59) := ⟨⟨by decide +kernel, by decide +kernel⟩, List.mem_of_getElem? (i := 1473) (by decide +kernel), List.mem_of_getElem? (i := 1957) (by decide +kernel), List.mem_of_getElem? (i := 1958) (by decide +kernel)⟩
theorem lw_p125 : lw_okq (⟨"InputrowConsoleModel", "toldMore", "(I)I"⟩, 59) := ⟨⟨by decide +kernel, by decide +kernel⟩, List.mem_of_getElem? (i := 1473) (by decide +kernel), List.mem_of_getElem? (i := 1991) (by decide +kernel), List.mem_of_getElem? (i := 1992) (by decide +kernel)⟩
def lw_privs_8 : List (MethodName × Nat) := [(⟨"InputrowConsoleModel", "adds", "(I)V"⟩, 59), (⟨"InputrowConsoleModel", "typesAround", "(I)V"⟩, 59), (⟨"InputrowConsoleModel", "isCell", "(II)Z"⟩, 59), (⟨"InputrowConsoleModel", "typesNumber", "(I)V"⟩, 59), (⟨"InputrowConsoleModel", "lays", "(III)I"⟩, 59), (⟨"InputrowConsoleModel", "fullOf", "(I)I"⟩, 59), (⟨"InputrowConsoleModel", "old", "(II)I"⟩, 59), (⟨"InputrowConsoleModel", "emptiesLaid", "(I)V"⟩, 59), (⟨"InputrowConsoleModel", "oldGoes", "(I)Z"⟩, 59), (⟨"InputrowConsoleModel", "cutsOther", "(II)V"⟩, 59), (⟨"InputrowConsoleModel", "costOf", "(I)I"⟩, 59), (⟨"InputrowConsoleModel", "isLike", "(II)Z"⟩, 59), (⟨"InputrowConsoleModel", "wide", "(II)I"⟩, 59), (⟨"InputrowConsoleModel", "toldMore", "(I)I"⟩, 59)]
theorem lw_r8 : ∀ q ∈ lw_privs_8, lw_okq q := List.forall_mem_cons.mpr ⟨lw_p112, List.forall_mem_cons.mpr ⟨lw_p113, List.forall_mem_cons.mpr ⟨lw_p114, List.forall_mem_cons.mpr ⟨lw_p115, List.forall_mem_cons.mpr ⟨lw_p116, List.forall_mem_cons.mpr ⟨lw_p117, List.forall_mem_cons.mpr ⟨lw_p118, List.forall_mem_cons.mpr ⟨lw_p119, List.forall_mem_cons.mpr ⟨lw_p120, List.forall_mem_cons.mpr ⟨lw_p121, List.forall_mem_cons.mpr ⟨lw_p122, List.forall_mem_cons.mpr ⟨lw_p123, List.forall_mem_cons.mpr ⟨lw_p124, List.forall_mem_cons.mpr ⟨lw_p125, fun _ h => absurd h List.not_mem_nil⟩⟩⟩⟩⟩⟩⟩⟩⟩⟩⟩⟩⟩⟩
def lw_privs : List (MethodName × Nat) := lw_privs_1 ++ (lw_privs_2 ++ (lw_privs_3 ++ (lw_privs_4 ++ (lw_privs_5 ++ (lw_privs_6 ++ (lw_privs_7 ++ (lw_privs_8)))))))
def lw_tbl : List Cond := k2_sels lw_privs ++ tables_1
theorem lw_privs_ok : ∀ q ∈ lw_privs, lw_okq q := by
  show ∀ q ∈ lw_privs_1 ++ (lw_privs_2 ++ (lw_privs_3 ++ (lw_privs_4 ++ (lw_privs_5 ++ (lw_privs_6 ++ (lw_privs_7 ++ (lw_privs_8))))))), lw_okq q
  exact List.forall_mem_append.mpr ⟨lw_r1, List.forall_mem_append.mpr ⟨lw_r2, List.forall_mem_append.mpr ⟨lw_r3, List.forall_mem_append.mpr ⟨lw_r4, List.forall_mem_append.mpr ⟨lw_r5, List.forall_mem_append.mpr ⟨lw_r6, List.forall_mem_append.mpr ⟨lw_r7, lw_r8⟩⟩⟩⟩⟩⟩⟩

/-! ===== BEGIN words of one list among another's, by their places ===== -/
theorem goodIn_r {big : List Cond} (ws : List Cond) (ps : List Nat) (hp : ws = ps.filterMap (fun i => big[i]?)) (h : ws.all goodWord = true) : GoodIn big ws := by
  intro w hw
  have h1 := List.all_eq_true.mp h w hw
  rw [hp] at hw
  obtain ⟨i, -, hi⟩ := List.mem_filterMap.mp hw
  have hm : w ∈ big := by first | exact List.mem_of_getElem? hi | exact List.getElem?_mem hi
  exact ⟨hm, good_of_word h1⟩
theorem goodIn_app {big a b : List Cond} (ha : GoodIn big a) (hb : GoodIn big b) : GoodIn big (a ++ b) := fun w h => (List.mem_append.mp h).elim (ha w) (hb w)
theorem goodIn_ca {big a b : List Cond} {c : Cond} (ha : GoodIn big (c :: a)) (hb : GoodIn big b) : GoodIn big (c :: (a ++ b)) := fun w h => (List.mem_cons.mp h).elim (fun e => ha w (List.mem_cons.mpr (Or.inl e))) (fun h => (List.mem_append.mp h).elim (fun h => ha w (List.mem_cons.mpr (Or.inr h))) (hb w))
theorem goodIn_sub {big ws : List Cond} (hm : ∀ w ∈ ws, w ∈ big) (h : ws.all goodWord = true) : GoodIn big ws := fun w hw => ⟨hm w hw, good_of_word (List.all_eq_true.mp h w hw)⟩
/-! ===== END ===== -/
def RX0 : String := "InputrowConsole$Bytes"
def TX0 : u_T := fun k => match k with
  | 0 => ("InputrowConsole$Bytes", "bytes", "[I", true)
  | 1 => ("InputrowConsole$Bytes", "first", "I", false)
  | _ => ("InputrowConsole$Bytes", "count", "I", false)
def tyX0 : Nat → FieldType := fun k => match k with
  | 0 => .array .int
  | 1 => .int
  | _ => .int
abbrev wsX00 : List Cond := u_ws RX0 TX0 3
theorem nmX0 : ∀ a, a < 3 → ∀ b, b < 3 → a ≠ b → (TX0 a).2.1 ≠ (TX0 b).2.1 := by decide +kernel
theorem tyX0_ok : ∀ k, k < 3 → parseFieldDescriptor (TX0 k).2.2.1 = some (tyX0 k) := by decide +kernel
abbrev cX0_init : ByteArray := prog_2_method_1_code
def yX0_init : MethodName := ⟨RX0, "<init>", "(I)V"⟩
abbrev cX0_count : ByteArray := prog_2_method_2_code
def yX0_count : MethodName := ⟨RX0, "count", "()I"⟩
abbrev cX0_room : ByteArray := prog_2_method_3_code
def yX0_room : MethodName := ⟨RX0, "room", "()I"⟩
abbrev cX0_placeOf : ByteArray := prog_2_method_4_code
def yX0_placeOf : MethodName := ⟨RX0, "placeOf", "(I)I"⟩
abbrev cX0_add : ByteArray := prog_2_method_5_code
def yX0_add : MethodName := ⟨RX0, "add", "(I)Z"⟩
abbrev cX0_addNumber : ByteArray := prog_2_method_6_code
def yX0_addNumber : MethodName := ⟨RX0, "addNumber", "(I)V"⟩
abbrev cX0_at : ByteArray := prog_2_method_7_code
def yX0_at : MethodName := ⟨RX0, "at", "(I)I"⟩
abbrev cX0_last : ByteArray := prog_2_method_8_code
def yX0_last : MethodName := ⟨RX0, "last", "()I"⟩
abbrev cX0_removeFirst : ByteArray := prog_2_method_9_code
def yX0_removeFirst : MethodName := ⟨RX0, "removeFirst", "()I"⟩
abbrev cX0_removeLast : ByteArray := prog_2_method_10_code
def yX0_removeLast : MethodName := ⟨RX0, "removeLast", "()I"⟩
abbrev cX0_clear : ByteArray := prog_2_method_11_code
def yX0_clear : MethodName := ⟨RX0, "clear", "()V"⟩
abbrev cX0_addAll : ByteArray := prog_2_method_12_code
def yX0_addAll : MethodName := ⟨RX0, "addAll", "(LInputrowConsole$Bytes;)V"⟩
def RX1 : String := "InputrowConsole$Cursor"
def TX1 : u_T := fun k => match k with
  | 0 => ("InputrowConsole$Cursor", "row", "I", false)
  | 1 => ("InputrowConsole$Cursor", "column", "I", false)
  | 2 => ("InputrowConsole$Cursor", "isLate", "Z", false)
  | 3 => ("InputrowConsole$Cursor", "attribute", "I", false)
  | _ => ("InputrowConsole$Cursor", "isOrigin", "Z", false)
def tyX1 : Nat → FieldType := fun k => match k with
  | 0 => .int
  | 1 => .int
  | 2 => .boolean
  | 3 => .int
  | _ => .boolean
abbrev wsX10 : List Cond := u_ws RX1 TX1 5
theorem nmX1 : ∀ a, a < 5 → ∀ b, b < 5 → a ≠ b → (TX1 a).2.1 ≠ (TX1 b).2.1 := by decide +kernel
theorem tyX1_ok : ∀ k, k < 5 → parseFieldDescriptor (TX1 k).2.2.1 = some (tyX1 k) := by decide +kernel
abbrev cX1_init : ByteArray := prog_3_method_1_code
def yX1_init : MethodName := ⟨RX1, "<init>", "()V"⟩
abbrev cX1_copy : ByteArray := prog_3_method_2_code
def yX1_copy : MethodName := ⟨RX1, "copy", "(LInputrowConsole$Cursor;)V"⟩
abbrev cX1_reset : ByteArray := prog_3_method_3_code
def yX1_reset : MethodName := ⟨RX1, "reset", "()V"⟩
abbrev cX1_goTo : ByteArray := prog_3_method_4_code
def yX1_goTo : MethodName := ⟨RX1, "goTo", "(II)V"⟩
def RX2 : String := "InputrowConsole$History"
def TX2 : u_T := fun k => match k with
  | 0 => ("InputrowConsole$History", "cells", "[I", true)
  | 1 => ("InputrowConsole$History", "going", "[Z", true)
  | _ => ("InputrowConsole$History", "count", "I", false)
def tyX2 : Nat → FieldType := fun k => match k with
  | 0 => .array .int
  | 1 => .array .boolean
  | _ => .int
abbrev wsX20 : List Cond := u_ws RX2 TX2 3
theorem nmX2 : ∀ a, a < 3 → ∀ b, b < 3 → a ≠ b → (TX2 a).2.1 ≠ (TX2 b).2.1 := by decide +kernel
theorem tyX2_ok : ∀ k, k < 3 → parseFieldDescriptor (TX2 k).2.2.1 = some (tyX2 k) := by decide +kernel
abbrev cX2_init : ByteArray := prog_4_method_1_code
def yX2_init : MethodName := ⟨RX2, "<init>", "()V"⟩
abbrev cX2_count : ByteArray := prog_4_method_2_code
def yX2_count : MethodName := ⟨RX2, "count", "()I"⟩
abbrev cX2_add : ByteArray := prog_4_method_3_code
def yX2_add : MethodName := ⟨RX2, "add", "(Z)V"⟩
abbrev cX2_putLatest : ByteArray := prog_4_method_4_code
def yX2_putLatest : MethodName := ⟨RX2, "putLatest", "(II)V"⟩
abbrev cX2_at : ByteArray := prog_4_method_5_code
def yX2_at : MethodName := ⟨RX2, "at", "(II)I"⟩
abbrev cX2_isGoing : ByteArray := prog_4_method_6_code
def yX2_isGoing : MethodName := ⟨RX2, "isGoing", "(I)Z"⟩
abbrev cX2_endLatest : ByteArray := prog_4_method_7_code
def yX2_endLatest : MethodName := ⟨RX2, "endLatest", "()V"⟩
abbrev cX2_clear : ByteArray := prog_4_method_8_code
def yX2_clear : MethodName := ⟨RX2, "clear", "()V"⟩
def RX3 : String := "InputrowConsole$LineRule"
def TX3 : u_T := fun k => match k with
  | 0 => ("InputrowConsole$LineRule", "line", "LInputrowConsole$Bytes;", true)
  | 1 => ("InputrowConsole$LineRule", "held", "LInputrowConsole$Bytes;", true)
  | 2 => ("InputrowConsole$LineRule", "program", "LInputrowConsole$Bytes;", true)
  | 3 => ("InputrowConsole$LineRule", "arriving", "LInputrowConsole$Bytes;", true)
  | 4 => ("InputrowConsole$LineRule", "isRaw", "Z", false)
  | 5 => ("InputrowConsole$LineRule", "echoes", "Z", false)
  | 6 => ("InputrowConsole$LineRule", "isStopped", "Z", false)
  | 7 => ("InputrowConsole$LineRule", "ends", "I", false)
  | _ => ("InputrowConsole$LineRule", "interrupts", "I", false)
def tyX3 : Nat → FieldType := fun k => match k with
  | 0 => .object "InputrowConsole$Bytes"
  | 1 => .object "InputrowConsole$Bytes"
  | 2 => .object "InputrowConsole$Bytes"
  | 3 => .object "InputrowConsole$Bytes"
  | 4 => .boolean
  | 5 => .boolean
  | 6 => .boolean
  | 7 => .int
  | _ => .int
abbrev wsX30 : List Cond := u_ws RX3 TX3 9
theorem nmX3 : ∀ a, a < 9 → ∀ b, b < 9 → a ≠ b → (TX3 a).2.1 ≠ (TX3 b).2.1 := by decide +kernel
theorem tyX3_ok : ∀ k, k < 9 → parseFieldDescriptor (TX3 k).2.2.1 = some (tyX3 k) := by decide +kernel
abbrev cX3_init : ByteArray := prog_5_method_1_code
def yX3_init : MethodName := ⟨RX3, "<init>", "()V"⟩
abbrev cX3_hasRoomFor : ByteArray := prog_5_method_2_code
def yX3_hasRoomFor : MethodName := ⟨RX3, "hasRoomFor", "(I)Z"⟩
abbrev cX3_bring : ByteArray := prog_5_method_3_code
def yX3_bring : MethodName := ⟨RX3, "bring", "(I)V"⟩
abbrev cX3_bringNumber : ByteArray := prog_5_method_4_code
def yX3_bringNumber : MethodName := ⟨RX3, "bringNumber", "(I)V"⟩
abbrev cX3_change : ByteArray := prog_5_method_5_code
def yX3_change : MethodName := ⟨RX3, "change", "(ZZ)Z"⟩
abbrev cX3_accept : ByteArray := prog_5_method_6_code
def yX3_accept : MethodName := ⟨RX3, "accept", "(I)V"⟩
abbrev cX3_echo : ByteArray := prog_5_method_7_code
def yX3_echo : MethodName := ⟨RX3, "echo", "(I)V"⟩
abbrev cX3_takeAway : ByteArray := prog_5_method_8_code
def yX3_takeAway : MethodName := ⟨RX3, "takeAway", "()V"⟩
abbrev cX3_takeWordAway : ByteArray := prog_5_method_9_code
def yX3_takeWordAway : MethodName := ⟨RX3, "takeWordAway", "()V"⟩
abbrev cX3_takeLineAway : ByteArray := prog_5_method_10_code
def yX3_takeLineAway : MethodName := ⟨RX3, "takeLineAway", "()V"⟩
abbrev cX3_sendLine : ByteArray := prog_5_method_11_code
def yX3_sendLine : MethodName := ⟨RX3, "sendLine", "()V"⟩
abbrev cX3_endLine : ByteArray := prog_5_method_12_code
def yX3_endLine : MethodName := ⟨RX3, "endLine", "()V"⟩
abbrev cX3_endInput : ByteArray := prog_5_method_13_code
def yX3_endInput : MethodName := ⟨RX3, "endInput", "()V"⟩
abbrev cX3_start : ByteArray := prog_5_method_14_code
def yX3_start : MethodName := ⟨RX3, "start", "()V"⟩
abbrev cX3_addToLine : ByteArray := prog_5_method_15_code
def yX3_addToLine : MethodName := ⟨RX3, "addToLine", "(I)V"⟩
def RX4 : String := "InputrowConsole$Main"
def TX4 : u_T := fun k => match k with
  | 0 => ("InputrowConsole$Main", "picture", "LInputrowConsole$Picture;", true)
  | 1 => ("InputrowConsole$Main", "history", "LInputrowConsole$History;", true)
  | 2 => ("InputrowConsole$Main", "cells", "[I", true)
  | 3 => ("InputrowConsole$Main", "starts", "[I", true)
  | 4 => ("InputrowConsole$Main", "lengths", "[I", true)
  | 5 => ("InputrowConsole$Main", "going", "[Z", true)
  | 6 => ("InputrowConsole$Main", "width", "I", false)
  | 7 => ("InputrowConsole$Main", "used", "I", false)
  | 8 => ("InputrowConsole$Main", "laid", "I", false)
  | 9 => ("InputrowConsole$Main", "cursorRow", "I", false)
  | 10 => ("InputrowConsole$Main", "cursorColumn", "I", false)
  | _ => ("InputrowConsole$Main", "isDue", "Z", false)
def tyX4 : Nat → FieldType := fun k => match k with
  | 0 => .object "InputrowConsole$Picture"
  | 1 => .object "InputrowConsole$History"
  | 2 => .array .int
  | 3 => .array .int
  | 4 => .array .int
  | 5 => .array .boolean
  | 6 => .int
  | 7 => .int
  | 8 => .int
  | 9 => .int
  | 10 => .int
  | _ => .boolean
abbrev wsX40 : List Cond := u_ws RX4 TX4 12
theorem nmX4 : ∀ a, a < 12 → ∀ b, b < 12 → a ≠ b → (TX4 a).2.1 ≠ (TX4 b).2.1 := by decide +kernel
theorem tyX4_ok : ∀ k, k < 12 → parseFieldDescriptor (TX4 k).2.2.1 = some (tyX4 k) := by decide +kernel
abbrev cX4_init : ByteArray := prog_6_method_1_code
def yX4_init : MethodName := ⟨RX4, "<init>", "()V"⟩
abbrev cX4_wrap : ByteArray := prog_6_method_2_code
def yX4_wrap : MethodName := ⟨RX4, "wrap", "(LInputrowConsole$Cursor;II)V"⟩
abbrev cX4_keptRows : ByteArray := prog_6_method_3_code
def yX4_keptRows : MethodName := ⟨RX4, "keptRows", "(I)I"⟩
abbrev cX4_isGoing : ByteArray := prog_6_method_4_code
def yX4_isGoing : MethodName := ⟨RX4, "isGoing", "(I)Z"⟩
abbrev cX4_at : ByteArray := prog_6_method_5_code
def yX4_at : MethodName := ⟨RX4, "at", "(II)I"⟩
abbrev cX4_cellsOf : ByteArray := prog_6_method_6_code
def yX4_cellsOf : MethodName := ⟨RX4, "cellsOf", "(IZ)I"⟩
abbrev cX4_layRow : ByteArray := prog_6_method_7_code
def yX4_layRow : MethodName := ⟨RX4, "layRow", "(IZI)V"⟩
abbrev cX4_lengthOfLast : ByteArray := prog_6_method_8_code
def yX4_lengthOfLast : MethodName := ⟨RX4, "lengthOfLast", "()I"⟩
abbrev cX4_goOn : ByteArray := prog_6_method_9_code
def yX4_goOn : MethodName := ⟨RX4, "goOn", "()V"⟩
abbrev cX4_beginRow : ByteArray := prog_6_method_10_code
def yX4_beginRow : MethodName := ⟨RX4, "beginRow", "()V"⟩
abbrev cX4_lay : ByteArray := prog_6_method_11_code
def yX4_lay : MethodName := ⟨RX4, "lay", "(I)V"⟩
abbrev cX4_putBack : ByteArray := prog_6_method_12_code
def yX4_putBack : MethodName := ⟨RX4, "putBack", "(III)V"⟩
def RX5 : String := "InputrowConsole$Modes"
def TX5 : u_T := fun k => match k with
  | 0 => ("InputrowConsole$Modes", "isKeys", "Z", false)
  | 1 => ("InputrowConsole$Modes", "isWrap", "Z", false)
  | 2 => ("InputrowConsole$Modes", "isShown", "Z", false)
  | 3 => ("InputrowConsole$Modes", "isMouse", "Z", false)
  | 4 => ("InputrowConsole$Modes", "isPaste", "Z", false)
  | _ => ("InputrowConsole$Modes", "isInsert", "Z", false)
def tyX5 : Nat → FieldType := fun k => match k with
  | 0 => .boolean
  | 1 => .boolean
  | 2 => .boolean
  | 3 => .boolean
  | 4 => .boolean
  | _ => .boolean
abbrev wsX50 : List Cond := u_ws RX5 TX5 6
theorem nmX5 : ∀ a, a < 6 → ∀ b, b < 6 → a ≠ b → (TX5 a).2.1 ≠ (TX5 b).2.1 := by decide +kernel
theorem tyX5_ok : ∀ k, k < 6 → parseFieldDescriptor (TX5 k).2.2.1 = some (tyX5 k) := by decide +kernel
abbrev cX5_init : ByteArray := prog_7_method_1_code
def yX5_init : MethodName := ⟨RX5, "<init>", "()V"⟩
abbrev cX5_reset : ByteArray := prog_7_method_2_code
def yX5_reset : MethodName := ⟨RX5, "reset", "()V"⟩
def RX6 : String := "InputrowConsole$Picture"
def TX6 : u_T := fun k => match k with
  | 0 => ("InputrowConsole$Picture", "cells", "[I", true)
  | 1 => ("InputrowConsole$Picture", "going", "[Z", true)
  | 2 => ("InputrowConsole$Picture", "rows", "I", false)
  | _ => ("InputrowConsole$Picture", "columns", "I", false)
def tyX6 : Nat → FieldType := fun k => match k with
  | 0 => .array .int
  | 1 => .array .boolean
  | 2 => .int
  | _ => .int
abbrev wsX60 : List Cond := u_ws RX6 TX6 4
theorem nmX6 : ∀ a, a < 4 → ∀ b, b < 4 → a ≠ b → (TX6 a).2.1 ≠ (TX6 b).2.1 := by decide +kernel
theorem tyX6_ok : ∀ k, k < 4 → parseFieldDescriptor (TX6 k).2.2.1 = some (tyX6 k) := by decide +kernel
abbrev cX6_init : ByteArray := prog_8_method_1_code
def yX6_init : MethodName := ⟨RX6, "<init>", "()V"⟩
abbrev cX6_rows : ByteArray := prog_8_method_2_code
def yX6_rows : MethodName := ⟨RX6, "rows", "()I"⟩
abbrev cX6_columns : ByteArray := prog_8_method_3_code
def yX6_columns : MethodName := ⟨RX6, "columns", "()I"⟩
abbrev cX6_at : ByteArray := prog_8_method_4_code
def yX6_at : MethodName := ⟨RX6, "at", "(II)I"⟩
abbrev cX6_put : ByteArray := prog_8_method_5_code
def yX6_put : MethodName := ⟨RX6, "put", "(III)V"⟩
abbrev cX6_isGoing : ByteArray := prog_8_method_6_code
def yX6_isGoing : MethodName := ⟨RX6, "isGoing", "(I)Z"⟩
abbrev cX6_setGoing : ByteArray := prog_8_method_7_code
def yX6_setGoing : MethodName := ⟨RX6, "setGoing", "(IZ)V"⟩
abbrev cX6_filled : ByteArray := prog_8_method_8_code
def yX6_filled : MethodName := ⟨RX6, "filled", "(I)I"⟩
abbrev cX6_part : ByteArray := prog_8_method_9_code
def yX6_part : MethodName := ⟨RX6, "part", "(II)V"⟩
abbrev cX6_erase : ByteArray := prog_8_method_10_code
def yX6_erase : MethodName := ⟨RX6, "erase", "(III)V"⟩
abbrev cX6_insert : ByteArray := prog_8_method_11_code
def yX6_insert : MethodName := ⟨RX6, "insert", "(III)V"⟩
abbrev cX6_delete : ByteArray := prog_8_method_12_code
def yX6_delete : MethodName := ⟨RX6, "delete", "(III)V"⟩
abbrev cX6_moveUp : ByteArray := prog_8_method_13_code
def yX6_moveUp : MethodName := ⟨RX6, "moveUp", "(II)V"⟩
abbrev cX6_moveDown : ByteArray := prog_8_method_14_code
def yX6_moveDown : MethodName := ⟨RX6, "moveDown", "(II)V"⟩
abbrev cX6_clearRow : ByteArray := prog_8_method_15_code
def yX6_clearRow : MethodName := ⟨RX6, "clearRow", "(I)V"⟩
abbrev cX6_clear : ByteArray := prog_8_method_16_code
def yX6_clear : MethodName := ⟨RX6, "clear", "()V"⟩
abbrev cX6_begin : ByteArray := prog_8_method_17_code
def yX6_begin : MethodName := ⟨RX6, "begin", "(II)V"⟩
abbrev cX6_cut : ByteArray := prog_8_method_18_code
def yX6_cut : MethodName := ⟨RX6, "cut", "(II)V"⟩
abbrev cX6_copyCells : ByteArray := prog_8_method_19_code
def yX6_copyCells : MethodName := ⟨RX6, "copyCells", "(LInputrowConsole$Picture;)V"⟩
def RX7 : String := "InputrowConsole$Reader"
def TX7 : u_T := fun k => match k with
  | 0 => ("InputrowConsole$Reader", "title", "LInputrowConsole$Bytes;", true)
  | 1 => ("InputrowConsole$Reader", "titleToBe", "LInputrowConsole$Bytes;", true)
  | 2 => ("InputrowConsole$Reader", "numbers", "[I", true)
  | 3 => ("InputrowConsole$Reader", "state", "I", false)
  | 4 => ("InputrowConsole$Reader", "count", "I", false)
  | 5 => ("InputrowConsole$Reader", "isMarked", "Z", false)
  | 6 => ("InputrowConsole$Reader", "isWrong", "Z", false)
  | _ => ("InputrowConsole$Reader", "isBegun", "Z", false)
def tyX7 : Nat → FieldType := fun k => match k with
  | 0 => .object "InputrowConsole$Bytes"
  | 1 => .object "InputrowConsole$Bytes"
  | 2 => .array .int
  | 3 => .int
  | 4 => .int
  | 5 => .boolean
  | 6 => .boolean
  | _ => .boolean
abbrev wsX70 : List Cond := u_ws RX7 TX7 8
theorem nmX7 : ∀ a, a < 8 → ∀ b, b < 8 → a ≠ b → (TX7 a).2.1 ≠ (TX7 b).2.1 := by decide +kernel
theorem tyX7_ok : ∀ k, k < 8 → parseFieldDescriptor (TX7 k).2.2.1 = some (tyX7 k) := by decide +kernel
abbrev cX7_init : ByteArray := prog_9_method_1_code
def yX7_init : MethodName := ⟨RX7, "<init>", "()V"⟩
abbrev cX7_number : ByteArray := prog_9_method_2_code
def yX7_number : MethodName := ⟨RX7, "number", "(I)I"⟩
abbrev cX7_read : ByteArray := prog_9_method_3_code
def yX7_read : MethodName := ⟨RX7, "read", "(I)I"⟩
abbrev cX7_readControl : ByteArray := prog_9_method_4_code
def yX7_readControl : MethodName := ⟨RX7, "readControl", "(I)I"⟩
abbrev cX7_readEscape : ByteArray := prog_9_method_5_code
def yX7_readEscape : MethodName := ⟨RX7, "readEscape", "(I)I"⟩
abbrev cX7_beginCode : ByteArray := prog_9_method_6_code
def yX7_beginCode : MethodName := ⟨RX7, "beginCode", "()V"⟩
abbrev cX7_readCode : ByteArray := prog_9_method_7_code
def yX7_readCode : MethodName := ⟨RX7, "readCode", "(I)I"⟩
abbrev cX7_addDigit : ByteArray := prog_9_method_8_code
def yX7_addDigit : MethodName := ⟨RX7, "addDigit", "(I)V"⟩
abbrev cX7_readTitle : ByteArray := prog_9_method_9_code
def yX7_readTitle : MethodName := ⟨RX7, "readTitle", "(I)V"⟩
def RX8 : String := "InputrowConsole$Screen"
def TX8 : u_T := fun k => match k with
  | 0 => ("InputrowConsole$Screen", "main", "LInputrowConsole$Main;", true)
  | 1 => ("InputrowConsole$Screen", "cursor", "LInputrowConsole$Cursor;", true)
  | 2 => ("InputrowConsole$Screen", "modes", "LInputrowConsole$Modes;", true)
  | 3 => ("InputrowConsole$Screen", "reader", "LInputrowConsole$Reader;", true)
  | 4 => ("InputrowConsole$Screen", "answers", "LInputrowConsole$Bytes;", true)
  | 5 => ("InputrowConsole$Screen", "other", "LInputrowConsole$Picture;", true)
  | 6 => ("InputrowConsole$Screen", "saved", "LInputrowConsole$Cursor;", true)
  | 7 => ("InputrowConsole$Screen", "tabs", "[Z", true)
  | 8 => ("InputrowConsole$Screen", "isOther", "Z", false)
  | 9 => ("InputrowConsole$Screen", "rows", "I", false)
  | 10 => ("InputrowConsole$Screen", "columns", "I", false)
  | 11 => ("InputrowConsole$Screen", "rings", "I", false)
  | 12 => ("InputrowConsole$Screen", "top", "I", false)
  | _ => ("InputrowConsole$Screen", "bottom", "I", false)
def tyX8 : Nat → FieldType := fun k => match k with
  | 0 => .object "InputrowConsole$Main"
  | 1 => .object "InputrowConsole$Cursor"
  | 2 => .object "InputrowConsole$Modes"
  | 3 => .object "InputrowConsole$Reader"
  | 4 => .object "InputrowConsole$Bytes"
  | 5 => .object "InputrowConsole$Picture"
  | 6 => .object "InputrowConsole$Cursor"
  | 7 => .array .boolean
  | 8 => .boolean
  | 9 => .int
  | 10 => .int
  | 11 => .int
  | 12 => .int
  | _ => .int
abbrev wsX80 : List Cond := u_ws RX8 TX8 14
theorem nmX8 : ∀ a, a < 14 → ∀ b, b < 14 → a ≠ b → (TX8 a).2.1 ≠ (TX8 b).2.1 := by decide +kernel
theorem tyX8_ok : ∀ k, k < 14 → parseFieldDescriptor (TX8 k).2.2.1 = some (tyX8 k) := by decide +kernel
abbrev cX8_init : ByteArray := prog_10_method_1_code
def yX8_init : MethodName := ⟨RX8, "<init>", "()V"⟩
abbrev cX8_shown : ByteArray := prog_10_method_2_code
def yX8_shown : MethodName := ⟨RX8, "shown", "()LInputrowConsole$Picture;"⟩
abbrev cX8_has : ByteArray := prog_10_method_3_code
def yX8_has : MethodName := ⟨RX8, "has", "(II)Z"⟩
abbrev cX8_tellPlaces : ByteArray := prog_10_method_4_code
def yX8_tellPlaces : MethodName := ⟨RX8, "tellPlaces", "(I)I"⟩
abbrev cX8_setFirstTabs : ByteArray := prog_10_method_5_code
def yX8_setFirstTabs : MethodName := ⟨RX8, "setFirstTabs", "(I)V"⟩
abbrev cX8_nextTab : ByteArray := prog_10_method_6_code
def yX8_nextTab : MethodName := ⟨RX8, "nextTab", "()I"⟩
abbrev cX8_receive : ByteArray := prog_10_method_7_code
def yX8_receive : MethodName := ⟨RX8, "receive", "(I)V"⟩
abbrev cX8_drawSign : ByteArray := prog_10_method_8_code
def yX8_drawSign : MethodName := ⟨RX8, "drawSign", "(I)V"⟩
abbrev cX8_addMark : ByteArray := prog_10_method_9_code
def yX8_addMark : MethodName := ⟨RX8, "addMark", "()V"⟩
abbrev cX8_control : ByteArray := prog_10_method_10_code
def yX8_control : MethodName := ⟨RX8, "control", "(I)V"⟩
abbrev cX8_feed : ByteArray := prog_10_method_11_code
def yX8_feed : MethodName := ⟨RX8, "feed", "()V"⟩
abbrev cX8_scrollUp : ByteArray := prog_10_method_12_code
def yX8_scrollUp : MethodName := ⟨RX8, "scrollUp", "(IIZ)V"⟩
abbrev cX8_scrollDown : ByteArray := prog_10_method_13_code
def yX8_scrollDown : MethodName := ⟨RX8, "scrollDown", "(II)V"⟩
abbrev cX8_endAbove : ByteArray := prog_10_method_14_code
def yX8_endAbove : MethodName := ⟨RX8, "endAbove", "(I)V"⟩
abbrev cX8_escaped : ByteArray := prog_10_method_15_code
def yX8_escaped : MethodName := ⟨RX8, "escaped", "(I)V"⟩
abbrev cX8_bringBack : ByteArray := prog_10_method_16_code
def yX8_bringBack : MethodName := ⟨RX8, "bringBack", "()V"⟩
abbrev cX8_feedBack : ByteArray := prog_10_method_17_code
def yX8_feedBack : MethodName := ⟨RX8, "feedBack", "()V"⟩
abbrev cX8_setTab : ByteArray := prog_10_method_18_code
def yX8_setTab : MethodName := ⟨RX8, "setTab", "(IZ)V"⟩
abbrev cX8_reset : ByteArray := prog_10_method_19_code
def yX8_reset : MethodName := ⟨RX8, "reset", "()V"⟩
abbrev cX8_coded : ByteArray := prog_10_method_20_code
def yX8_coded : MethodName := ⟨RX8, "coded", "(I)V"⟩
abbrev cX8_endsLate : ByteArray := prog_10_method_21_code
def yX8_endsLate : MethodName := ⟨RX8, "endsLate", "(I)Z"⟩
abbrev cX8_goTo : ByteArray := prog_10_method_22_code
def yX8_goTo : MethodName := ⟨RX8, "goTo", "(II)V"⟩
abbrev cX8_eraseOtherRows : ByteArray := prog_10_method_23_code
def yX8_eraseOtherRows : MethodName := ⟨RX8, "eraseOtherRows", "(I)V"⟩
abbrev cX8_eraseRow : ByteArray := prog_10_method_24_code
def yX8_eraseRow : MethodName := ⟨RX8, "eraseRow", "(I)V"⟩
abbrev cX8_moveLines : ByteArray := prog_10_method_25_code
def yX8_moveLines : MethodName := ⟨RX8, "moveLines", "(IZ)V"⟩
abbrev cX8_scroll : ByteArray := prog_10_method_26_code
def yX8_scroll : MethodName := ⟨RX8, "scroll", "(IZ)V"⟩
abbrev cX8_setRegion : ByteArray := prog_10_method_27_code
def yX8_setRegion : MethodName := ⟨RX8, "setRegion", "()V"⟩
abbrev cX8_setAttribute : ByteArray := prog_10_method_28_code
def yX8_setAttribute : MethodName := ⟨RX8, "setAttribute", "()V"⟩
abbrev cX8_clearTabs : ByteArray := prog_10_method_29_code
def yX8_clearTabs : MethodName := ⟨RX8, "clearTabs", "(I)V"⟩
abbrev cX8_answer : ByteArray := prog_10_method_30_code
def yX8_answer : MethodName := ⟨RX8, "answer", "(I)V"⟩
abbrev cX8_setInsert : ByteArray := prog_10_method_31_code
def yX8_setInsert : MethodName := ⟨RX8, "setInsert", "(Z)V"⟩
abbrev cX8_codedWithMark : ByteArray := prog_10_method_32_code
def yX8_codedWithMark : MethodName := ⟨RX8, "codedWithMark", "(I)V"⟩
abbrev cX8_setMarkedMode : ByteArray := prog_10_method_33_code
def yX8_setMarkedMode : MethodName := ⟨RX8, "setMarkedMode", "(IZ)V"⟩
abbrev cX8_showOther : ByteArray := prog_10_method_34_code
def yX8_showOther : MethodName := ⟨RX8, "showOther", "(Z)V"⟩
abbrev cX8_resize : ByteArray := prog_10_method_35_code
def yX8_resize : MethodName := ⟨RX8, "resize", "(II)V"⟩
def RX9 : String := "InputrowConsole$SlowLine"
def TX9 : u_T := fun k => match k with
  | 0 => ("InputrowConsole$SlowLine", "drawn", "LInputrowConsole$Picture;", true)
  | 1 => ("InputrowConsole$SlowLine", "costs", "[I", true)
  | _ => ("InputrowConsole$SlowLine", "isLike", "[Z", true)
def tyX9 : Nat → FieldType := fun k => match k with
  | 0 => .object "InputrowConsole$Picture"
  | 1 => .array .int
  | _ => .array .boolean
abbrev wsX90 : List Cond := u_ws RX9 TX9 3
theorem nmX9 : ∀ a, a < 3 → ∀ b, b < 3 → a ≠ b → (TX9 a).2.1 ≠ (TX9 b).2.1 := by decide +kernel
theorem tyX9_ok : ∀ k, k < 3 → parseFieldDescriptor (TX9 k).2.2.1 = some (tyX9 k) := by decide +kernel
abbrev cX9_init : ByteArray := prog_11_method_1_code
def yX9_init : MethodName := ⟨RX9, "<init>", "()V"⟩
abbrev cX9_begin : ByteArray := prog_11_method_2_code
def yX9_begin : MethodName := ⟨RX9, "begin", "(II)V"⟩
abbrev cX9_costsOf : ByteArray := prog_11_method_3_code
def yX9_costsOf : MethodName := ⟨RX9, "costsOf", "(LInputrowConsole$Picture;I)I"⟩
abbrev cX9_compare : ByteArray := prog_11_method_4_code
def yX9_compare : MethodName := ⟨RX9, "compare", "(LInputrowConsole$Picture;I)I"⟩
abbrev cX9_isLikeAt : ByteArray := prog_11_method_5_code
def yX9_isLikeAt : MethodName := ⟨RX9, "isLikeAt", "(I)Z"⟩
abbrev cX9_keepCosts : ByteArray := prog_11_method_6_code
def yX9_keepCosts : MethodName := ⟨RX9, "keepCosts", "(III)V"⟩
abbrev cX9_costsFrom : ByteArray := prog_11_method_7_code
def yX9_costsFrom : MethodName := ⟨RX9, "costsFrom", "(II)I"⟩
abbrev cX9_writing : ByteArray := prog_11_method_8_code
def yX9_writing : MethodName := ⟨RX9, "writing", "(III)I"⟩
abbrev cX9_passing : ByteArray := prog_11_method_9_code
def yX9_passing : MethodName := ⟨RX9, "passing", "(LInputrowConsole$Picture;III)I"⟩
abbrev cX9_beginning : ByteArray := prog_11_method_10_code
def yX9_beginning : MethodName := ⟨RX9, "beginning", "(I)I"⟩
def RX10 : String := "InputrowConsole$Tape"
def TX10 : u_T := fun k => match k with
  | 0 => ("InputrowConsole$Tape", "notes", "[I", false)
  | 1 => ("InputrowConsole$Tape", "count", "I", false)
  | _ => ("InputrowConsole$Tape", "played", "I", false)
def tyX10 : Nat → FieldType := fun k => match k with
  | 0 => .array .int
  | 1 => .int
  | _ => .int
abbrev wsX100 : List Cond := u_ws RX10 TX10 3
theorem nmX10 : ∀ a, a < 3 → ∀ b, b < 3 → a ≠ b → (TX10 a).2.1 ≠ (TX10 b).2.1 := by decide +kernel
theorem tyX10_ok : ∀ k, k < 3 → parseFieldDescriptor (TX10 k).2.2.1 = some (tyX10 k) := by decide +kernel
abbrev cX10_init : ByteArray := prog_12_method_1_code
def yX10_init : MethodName := ⟨RX10, "<init>", "()V"⟩
abbrev cX10_noteByte : ByteArray := prog_12_method_2_code
def yX10_noteByte : MethodName := ⟨RX10, "noteByte", "(I)V"⟩
abbrev cX10_noteSize : ByteArray := prog_12_method_3_code
def yX10_noteSize : MethodName := ⟨RX10, "noteSize", "(II)V"⟩
abbrev cX10_note : ByteArray := prog_12_method_4_code
def yX10_note : MethodName := ⟨RX10, "note", "(I)V"⟩
abbrev cX10_playOn : ByteArray := prog_12_method_5_code
def yX10_playOn : MethodName := ⟨RX10, "playOn", "(LInputrowConsole$Screen;)V"⟩
def RX11 : String := "InputrowConsole"
def TX11 : u_T := fun k => match k with
  | 0 => ("InputrowConsole", "typed", "LInputrowConsole$Bytes;", true)
  | 1 => ("InputrowConsole", "toPaste", "LInputrowConsole$Bytes;", true)
  | 2 => ("InputrowConsole", "lineRule", "LInputrowConsole$LineRule;", true)
  | 3 => ("InputrowConsole", "screen", "LInputrowConsole$Screen;", true)
  | 4 => ("InputrowConsole", "tape", "LInputrowConsole$Tape;", true)
  | 5 => ("InputrowConsole", "screenAnew", "LInputrowConsole$Screen;", true)
  | _ => ("InputrowConsole", "slowLine", "LInputrowConsole$SlowLine;", true)
def tyX11 : Nat → FieldType := fun k => match k with
  | 0 => .object "InputrowConsole$Bytes"
  | 1 => .object "InputrowConsole$Bytes"
  | 2 => .object "InputrowConsole$LineRule"
  | 3 => .object "InputrowConsole$Screen"
  | 4 => .object "InputrowConsole$Tape"
  | 5 => .object "InputrowConsole$Screen"
  | _ => .object "InputrowConsole$SlowLine"
abbrev wsX110 : List Cond := u_ws RX11 TX11 7
theorem nmX11 : ∀ a, a < 7 → ∀ b, b < 7 → a ≠ b → (TX11 a).2.1 ≠ (TX11 b).2.1 := by decide +kernel
theorem tyX11_ok : ∀ k, k < 7 → parseFieldDescriptor (TX11 k).2.2.1 = some (tyX11 k) := by decide +kernel
abbrev cX11_init : ByteArray := prog_1_method_1_code
def yX11_init : MethodName := ⟨RX11, "<init>", "()V"⟩
abbrev cX11_write : ByteArray := prog_1_method_2_code
def yX11_write : MethodName := ⟨RX11, "write", "(I)I"⟩
abbrev cX11_code : ByteArray := prog_1_method_3_code
def yX11_code : MethodName := ⟨RX11, "code", "(ZIII)I"⟩
abbrev cX11_type : ByteArray := prog_1_method_4_code
def yX11_type : MethodName := ⟨RX11, "type", "(I)I"⟩
abbrev cX11_key : ByteArray := prog_1_method_5_code
def yX11_key : MethodName := ⟨RX11, "key", "(II)I"⟩
abbrev cX11_draft : ByteArray := prog_1_method_6_code
def yX11_draft : MethodName := ⟨RX11, "draft", "(I)I"⟩
abbrev cX11_paste : ByteArray := prog_1_method_7_code
def yX11_paste : MethodName := ⟨RX11, "paste", "()I"⟩
abbrev cX11_mouse : ByteArray := prog_1_method_8_code
def yX11_mouse : MethodName := ⟨RX11, "mouse", "(III)I"⟩
abbrev cX11_rule : ByteArray := prog_1_method_9_code
def yX11_rule : MethodName := ⟨RX11, "rule", "(ZZ)Z"⟩
abbrev cX11_take : ByteArray := prog_1_method_10_code
def yX11_take : MethodName := ⟨RX11, "take", "()I"⟩
abbrev cX11_size : ByteArray := prog_1_method_11_code
def yX11_size : MethodName := ⟨RX11, "size", "(II)I"⟩
abbrev cX11_draw : ByteArray := prog_1_method_12_code
def yX11_draw : MethodName := ⟨RX11, "draw", "()I"⟩
abbrev cX11_cell : ByteArray := prog_1_method_13_code
def yX11_cell : MethodName := ⟨RX11, "cell", "(II)I"⟩
abbrev cX11_cellAnew : ByteArray := prog_1_method_14_code
def yX11_cellAnew : MethodName := ⟨RX11, "cellAnew", "(II)I"⟩
abbrev cX11_past : ByteArray := prog_1_method_15_code
def yX11_past : MethodName := ⟨RX11, "past", "(II)I"⟩
abbrev cX11_goesOn : ByteArray := prog_1_method_16_code
def yX11_goesOn : MethodName := ⟨RX11, "goesOn", "(I)Z"⟩
abbrev cX11_title : ByteArray := prog_1_method_17_code
def yX11_title : MethodName := ⟨RX11, "title", "(I)I"⟩
abbrev cX11_least : ByteArray := prog_1_method_18_code
def yX11_least : MethodName := ⟨RX11, "least", "(I)I"⟩
abbrev cX11_told : ByteArray := prog_1_method_19_code
def yX11_told : MethodName := ⟨RX11, "told", "(I)I"⟩
abbrev cX11_settle : ByteArray := prog_1_method_20_code
def yX11_settle : MethodName := ⟨RX11, "settle", "()V"⟩
abbrev cX11_addBracket : ByteArray := prog_1_method_21_code
def yX11_addBracket : MethodName := ⟨RX11, "addBracket", "(I)V"⟩
abbrev cX11_digitsOf : ByteArray := prog_1_method_22_code
def yX11_digitsOf : MethodName := ⟨RX11, "digitsOf", "(I)I"⟩
abbrev cX11_isWide : ByteArray := prog_1_method_23_code
def yX11_isWide : MethodName := ⟨RX11, "isWide", "(I)Z"⟩
abbrev cX11_attributeOf : ByteArray := prog_1_method_24_code
def yX11_attributeOf : MethodName := ⟨RX11, "attributeOf", "(I)I"⟩
abbrev cX11_marksOf : ByteArray := prog_1_method_25_code
def yX11_marksOf : MethodName := ⟨RX11, "marksOf", "(I)I"⟩
def RX12 : String := "InputrowConsoleModel"
def TX12 : u_T := fun k => match k with
  | 0 => ("InputrowConsoleModel", "thrown", "I", false)
  | 1 => ("InputrowConsoleModel", "rows", "I", false)
  | 2 => ("InputrowConsoleModel", "columns", "I", false)
  | 3 => ("InputrowConsoleModel", "cells", "[I", true)
  | 4 => ("InputrowConsoleModel", "goes", "[Z", true)
  | 5 => ("InputrowConsoleModel", "past", "[I", true)
  | 6 => ("InputrowConsoleModel", "pastGoes", "[Z", true)
  | 7 => ("InputrowConsoleModel", "pasts", "I", false)
  | 8 => ("InputrowConsoleModel", "shown", "I", false)
  | 9 => ("InputrowConsoleModel", "row", "I", false)
  | 10 => ("InputrowConsoleModel", "column", "I", false)
  | 11 => ("InputrowConsoleModel", "late", "Z", false)
  | 12 => ("InputrowConsoleModel", "attribute", "I", false)
  | 13 => ("InputrowConsoleModel", "top", "I", false)
  | 14 => ("InputrowConsoleModel", "bottom", "I", false)
  | 15 => ("InputrowConsoleModel", "tabs", "I", false)
  | 16 => ("InputrowConsoleModel", "keys", "Z", false)
  | 17 => ("InputrowConsoleModel", "origin", "Z", false)
  | 18 => ("InputrowConsoleModel", "wrap", "Z", false)
  | 19 => ("InputrowConsoleModel", "isShown", "Z", false)
  | 20 => ("InputrowConsoleModel", "mouse", "Z", false)
  | 21 => ("InputrowConsoleModel", "pastes", "Z", false)
  | 22 => ("InputrowConsoleModel", "inserts", "Z", false)
  | 23 => ("InputrowConsoleModel", "hasSaved", "Z", false)
  | 24 => ("InputrowConsoleModel", "savedRow", "I", false)
  | 25 => ("InputrowConsoleModel", "savedColumn", "I", false)
  | 26 => ("InputrowConsoleModel", "savedLate", "Z", false)
  | 27 => ("InputrowConsoleModel", "savedAttribute", "I", false)
  | 28 => ("InputrowConsoleModel", "savedOrigin", "Z", false)
  | 29 => ("InputrowConsoleModel", "state", "I", false)
  | 30 => ("InputrowConsoleModel", "numbers", "[I", true)
  | 31 => ("InputrowConsoleModel", "told", "I", false)
  | 32 => ("InputrowConsoleModel", "isFirst", "Z", false)
  | 33 => ("InputrowConsoleModel", "isMarked", "Z", false)
  | 34 => ("InputrowConsoleModel", "isWrong", "Z", false)
  | 35 => ("InputrowConsoleModel", "draftTitle", "[I", true)
  | 36 => ("InputrowConsoleModel", "draftSigns", "I", false)
  | 37 => ("InputrowConsoleModel", "title", "[I", true)
  | 38 => ("InputrowConsoleModel", "titleSigns", "I", false)
  | 39 => ("InputrowConsoleModel", "rings", "I", false)
  | 40 => ("InputrowConsoleModel", "isRaw", "Z", false)
  | 41 => ("InputrowConsoleModel", "echoes", "Z", false)
  | 42 => ("InputrowConsoleModel", "stopped", "Z", false)
  | 43 => ("InputrowConsoleModel", "held", "[I", true)
  | 44 => ("InputrowConsoleModel", "holds", "I", false)
  | 45 => ("InputrowConsoleModel", "line", "[I", true)
  | 46 => ("InputrowConsoleModel", "lineBytes", "I", false)
  | 47 => ("InputrowConsoleModel", "program", "[I", true)
  | 48 => ("InputrowConsoleModel", "programBytes", "I", false)
  | 49 => ("InputrowConsoleModel", "ends", "I", false)
  | 50 => ("InputrowConsoleModel", "interrupts", "I", false)
  | 51 => ("InputrowConsoleModel", "draft", "[I", true)
  | 52 => ("InputrowConsoleModel", "drafted", "I", false)
  | 53 => ("InputrowConsoleModel", "typed", "I", false)
  | 54 => ("InputrowConsoleModel", "slow", "[I", true)
  | 55 => ("InputrowConsoleModel", "costs", "[I", true)
  | 56 => ("InputrowConsoleModel", "laid", "[I", true)
  | 57 => ("InputrowConsoleModel", "laidGoes", "[Z", true)
  | _ => ("InputrowConsoleModel", "laidRows", "I", false)
def tyX12 : Nat → FieldType := fun k => match k with
  | 0 => .int
  | 1 => .int
  | 2 => .int
  | 3 => .array .int
  | 4 => .array .boolean
  | 5 => .array .int
  | 6 => .array .boolean
  | 7 => .int
  | 8 => .int
  | 9 => .int
  | 10 => .int
  | 11 => .boolean
  | 12 => .int
  | 13 => .int
  | 14 => .int
  | 15 => .int
  | 16 => .boolean
  | 17 => .boolean
  | 18 => .boolean
  | 19 => .boolean
  | 20 => .boolean
  | 21 => .boolean
  | 22 => .boolean
  | 23 => .boolean
  | 24 => .int
  | 25 => .int
  | 26 => .boolean
  | 27 => .int
  | 28 => .boolean
  | 29 => .int
  | 30 => .array .int
  | 31 => .int
  | 32 => .boolean
  | 33 => .boolean
  | 34 => .boolean
  | 35 => .array .int
  | 36 => .int
  | 37 => .array .int
  | 38 => .int
  | 39 => .int
  | 40 => .boolean
  | 41 => .boolean
  | 42 => .boolean
  | 43 => .array .int
  | 44 => .int
  | 45 => .array .int
  | 46 => .int
  | 47 => .array .int
  | 48 => .int
  | 49 => .int
  | 50 => .int
  | 51 => .array .int
  | 52 => .int
  | 53 => .int
  | 54 => .array .int
  | 55 => .array .int
  | 56 => .array .int
  | 57 => .array .boolean
  | _ => .int
abbrev wsX120 : List Cond := u_ws RX12 TX12 59
theorem nmX12 : ∀ a, a < 59 → ∀ b, b < 59 → a ≠ b → (TX12 a).2.1 ≠ (TX12 b).2.1 := by decide +kernel
theorem tyX12_ok : ∀ k, k < 59 → parseFieldDescriptor (TX12 k).2.2.1 = some (tyX12 k) := by decide +kernel
abbrev cX12_init : ByteArray := prog_14_method_1_code
def yX12_init : MethodName := ⟨RX12, "<init>", "()V"⟩
abbrev cX12_thrown : ByteArray := prog_14_method_2_code
def yX12_thrown : MethodName := ⟨RX12, "thrown", "()I"⟩
abbrev cX12_in : ByteArray := prog_14_method_3_code
def yX12_in : MethodName := ⟨RX12, "in", "(III)Z"⟩
abbrev cX12_isWide : ByteArray := prog_14_method_4_code
def yX12_isWide : MethodName := ⟨RX12, "isWide", "(I)Z"⟩
abbrev cX12_at : ByteArray := prog_14_method_5_code
def yX12_at : MethodName := ⟨RX12, "at", "(II)I"⟩
abbrev cX12_parts : ByteArray := prog_14_method_6_code
def yX12_parts : MethodName := ⟨RX12, "parts", "(II)V"⟩
abbrev cX12_erases : ByteArray := prog_14_method_7_code
def yX12_erases : MethodName := ⟨RX12, "erases", "(III)V"⟩
abbrev cX12_movesRight : ByteArray := prog_14_method_8_code
def yX12_movesRight : MethodName := ⟨RX12, "movesRight", "(III)V"⟩
abbrev cX12_movesLeft : ByteArray := prog_14_method_9_code
def yX12_movesLeft : MethodName := ⟨RX12, "movesLeft", "(III)V"⟩
abbrev cX12_copiesRow : ByteArray := prog_14_method_10_code
def yX12_copiesRow : MethodName := ⟨RX12, "copiesRow", "(II)V"⟩
abbrev cX12_emptiesRow : ByteArray := prog_14_method_11_code
def yX12_emptiesRow : MethodName := ⟨RX12, "emptiesRow", "(I)V"⟩
abbrev cX12_stopsAbove : ByteArray := prog_14_method_12_code
def yX12_stopsAbove : MethodName := ⟨RX12, "stopsAbove", "(I)V"⟩
abbrev cX12_keepsRow : ByteArray := prog_14_method_13_code
def yX12_keepsRow : MethodName := ⟨RX12, "keepsRow", "()V"⟩
abbrev cX12_scrollsUp : ByteArray := prog_14_method_14_code
def yX12_scrollsUp : MethodName := ⟨RX12, "scrollsUp", "(IIZ)V"⟩
abbrev cX12_scrollsDown : ByteArray := prog_14_method_15_code
def yX12_scrollsDown : MethodName := ⟨RX12, "scrollsDown", "(II)V"⟩
abbrev cX12_feeds : ByteArray := prog_14_method_16_code
def yX12_feeds : MethodName := ⟨RX12, "feeds", "()V"⟩
abbrev cX12_draws : ByteArray := prog_14_method_17_code
def yX12_draws : MethodName := ⟨RX12, "draws", "(I)V"⟩
abbrev cX12_marks : ByteArray := prog_14_method_18_code
def yX12_marks : MethodName := ⟨RX12, "marks", "()V"⟩
abbrev cX12_nextTab : ByteArray := prog_14_method_19_code
def yX12_nextTab : MethodName := ⟨RX12, "nextTab", "()I"⟩
abbrev cX12_laysTabs : ByteArray := prog_14_method_20_code
def yX12_laysTabs : MethodName := ⟨RX12, "laysTabs", "(I)V"⟩
abbrev cX12_saves : ByteArray := prog_14_method_21_code
def yX12_saves : MethodName := ⟨RX12, "saves", "()V"⟩
abbrev cX12_lesser : ByteArray := prog_14_method_22_code
def yX12_lesser : MethodName := ⟨RX12, "lesser", "(II)I"⟩
abbrev cX12_bringsBack : ByteArray := prog_14_method_23_code
def yX12_bringsBack : MethodName := ⟨RX12, "bringsBack", "()V"⟩
abbrev cX12_empties : ByteArray := prog_14_method_24_code
def yX12_empties : MethodName := ⟨RX12, "empties", "(I)V"⟩
abbrev cX12_resets : ByteArray := prog_14_method_25_code
def yX12_resets : MethodName := ⟨RX12, "resets", "()V"⟩
abbrev cX12_controls : ByteArray := prog_14_method_26_code
def yX12_controls : MethodName := ⟨RX12, "controls", "(I)V"⟩
abbrev cX12_escapes : ByteArray := prog_14_method_27_code
def yX12_escapes : MethodName := ⟨RX12, "escapes", "(I)V"⟩
abbrev cX12_codes : ByteArray := prog_14_method_28_code
def yX12_codes : MethodName := ⟨RX12, "codes", "(I)V"⟩
abbrev cX12_titles : ByteArray := prog_14_method_29_code
def yX12_titles : MethodName := ⟨RX12, "titles", "(I)V"⟩
abbrev cX12_comes : ByteArray := prog_14_method_30_code
def yX12_comes : MethodName := ⟨RX12, "comes", "(I)V"⟩
abbrev cX12_first : ByteArray := prog_14_method_31_code
def yX12_first : MethodName := ⟨RX12, "first", "()I"⟩
abbrev cX12_second : ByteArray := prog_14_method_32_code
def yX12_second : MethodName := ⟨RX12, "second", "()I"⟩
abbrev cX12_modes : ByteArray := prog_14_method_33_code
def yX12_modes : MethodName := ⟨RX12, "modes", "(IZ)V"⟩
abbrev cX12_setsMode : ByteArray := prog_14_method_34_code
def yX12_setsMode : MethodName := ⟨RX12, "setsMode", "(IZ)V"⟩
abbrev cX12_erasesRow : ByteArray := prog_14_method_35_code
def yX12_erasesRow : MethodName := ⟨RX12, "erasesRow", "(II)V"⟩
abbrev cX12_erasesAll : ByteArray := prog_14_method_36_code
def yX12_erasesAll : MethodName := ⟨RX12, "erasesAll", "(I)V"⟩
abbrev cX12_linesMove : ByteArray := prog_14_method_37_code
def yX12_linesMove : MethodName := ⟨RX12, "linesMove", "(Z)V"⟩
abbrev cX12_setsRegion : ByteArray := prog_14_method_38_code
def yX12_setsRegion : MethodName := ⟨RX12, "setsRegion", "()V"⟩
abbrev cX12_colours : ByteArray := prog_14_method_39_code
def yX12_colours : MethodName := ⟨RX12, "colours", "()V"⟩
abbrev cX12_sends : ByteArray := prog_14_method_40_code
def yX12_sends : MethodName := ⟨RX12, "sends", "(I)V"⟩
abbrev cX12_sendsNumber : ByteArray := prog_14_method_41_code
def yX12_sendsNumber : MethodName := ⟨RX12, "sendsNumber", "(I)V"⟩
abbrev cX12_tells : ByteArray := prog_14_method_42_code
def yX12_tells : MethodName := ⟨RX12, "tells", "()V"⟩
abbrev cX12_means : ByteArray := prog_14_method_43_code
def yX12_means : MethodName := ⟨RX12, "means", "(I)V"⟩
abbrev cX12_meansMore : ByteArray := prog_14_method_44_code
def yX12_meansMore : MethodName := ⟨RX12, "meansMore", "(II)V"⟩
abbrev cX12_puts : ByteArray := prog_14_method_45_code
def yX12_puts : MethodName := ⟨RX12, "puts", "(I)V"⟩
abbrev cX12_write : ByteArray := prog_14_method_46_code
def yX12_write : MethodName := ⟨RX12, "write", "(I)I"⟩
abbrev cX12_digits : ByteArray := prog_14_method_47_code
def yX12_digits : MethodName := ⟨RX12, "digits", "(I)I"⟩
abbrev cX12_putsNumber : ByteArray := prog_14_method_48_code
def yX12_putsNumber : MethodName := ⟨RX12, "putsNumber", "(I)V"⟩
abbrev cX12_code : ByteArray := prog_14_method_49_code
def yX12_code : MethodName := ⟨RX12, "code", "(ZIII)I"⟩
abbrev cX12_echo : ByteArray := prog_14_method_50_code
def yX12_echo : MethodName := ⟨RX12, "echo", "(I)V"⟩
abbrev cX12_takesLast : ByteArray := prog_14_method_51_code
def yX12_takesLast : MethodName := ⟨RX12, "takesLast", "()V"⟩
abbrev cX12_givesLine : ByteArray := prog_14_method_52_code
def yX12_givesLine : MethodName := ⟨RX12, "givesLine", "()V"⟩
abbrev cX12_starts : ByteArray := prog_14_method_53_code
def yX12_starts : MethodName := ⟨RX12, "starts", "()V"⟩
abbrev cX12_edits : ByteArray := prog_14_method_54_code
def yX12_edits : MethodName := ⟨RX12, "edits", "(I)V"⟩
abbrev cX12_adds : ByteArray := prog_14_method_55_code
def yX12_adds : MethodName := ⟨RX12, "adds", "(I)V"⟩
abbrev cX12_types : ByteArray := prog_14_method_56_code
def yX12_types : MethodName := ⟨RX12, "types", "(I)V"⟩
abbrev cX12_type : ByteArray := prog_14_method_57_code
def yX12_type : MethodName := ⟨RX12, "type", "(I)I"⟩
abbrev cX12_letter : ByteArray := prog_14_method_58_code
def yX12_letter : MethodName := ⟨RX12, "letter", "(I)I"⟩
abbrev cX12_key : ByteArray := prog_14_method_59_code
def yX12_key : MethodName := ⟨RX12, "key", "(II)I"⟩
abbrev cX12_draft : ByteArray := prog_14_method_60_code
def yX12_draft : MethodName := ⟨RX12, "draft", "(I)I"⟩
abbrev cX12_typesAround : ByteArray := prog_14_method_61_code
def yX12_typesAround : MethodName := ⟨RX12, "typesAround", "(I)V"⟩
abbrev cX12_paste : ByteArray := prog_14_method_62_code
def yX12_paste : MethodName := ⟨RX12, "paste", "()I"⟩
abbrev cX12_typesNumber : ByteArray := prog_14_method_63_code
def yX12_typesNumber : MethodName := ⟨RX12, "typesNumber", "(I)V"⟩
abbrev cX12_mouse : ByteArray := prog_14_method_64_code
def yX12_mouse : MethodName := ⟨RX12, "mouse", "(III)I"⟩
abbrev cX12_rule : ByteArray := prog_14_method_65_code
def yX12_rule : MethodName := ⟨RX12, "rule", "(ZZ)Z"⟩
abbrev cX12_take : ByteArray := prog_14_method_66_code
def yX12_take : MethodName := ⟨RX12, "take", "()I"⟩
abbrev cX12_old : ByteArray := prog_14_method_67_code
def yX12_old : MethodName := ⟨RX12, "old", "(II)I"⟩
abbrev cX12_oldGoes : ByteArray := prog_14_method_68_code
def yX12_oldGoes : MethodName := ⟨RX12, "oldGoes", "(I)Z"⟩
abbrev cX12_fullOf : ByteArray := prog_14_method_69_code
def yX12_fullOf : MethodName := ⟨RX12, "fullOf", "(I)I"⟩
abbrev cX12_lays : ByteArray := prog_14_method_70_code
def yX12_lays : MethodName := ⟨RX12, "lays", "(III)I"⟩
abbrev cX12_emptiesLaid : ByteArray := prog_14_method_71_code
def yX12_emptiesLaid : MethodName := ⟨RX12, "emptiesLaid", "(I)V"⟩
abbrev cX12_cutsOther : ByteArray := prog_14_method_72_code
def yX12_cutsOther : MethodName := ⟨RX12, "cutsOther", "(II)V"⟩
abbrev cX12_size : ByteArray := prog_14_method_73_code
def yX12_size : MethodName := ⟨RX12, "size", "(II)I"⟩
abbrev cX12_wide : ByteArray := prog_14_method_74_code
def yX12_wide : MethodName := ⟨RX12, "wide", "(II)I"⟩
abbrev cX12_isLike : ByteArray := prog_14_method_75_code
def yX12_isLike : MethodName := ⟨RX12, "isLike", "(II)Z"⟩
abbrev cX12_costOf : ByteArray := prog_14_method_76_code
def yX12_costOf : MethodName := ⟨RX12, "costOf", "(I)I"⟩
abbrev cX12_draw : ByteArray := prog_14_method_77_code
def yX12_draw : MethodName := ⟨RX12, "draw", "()I"⟩
abbrev cX12_isCell : ByteArray := prog_14_method_78_code
def yX12_isCell : MethodName := ⟨RX12, "isCell", "(II)Z"⟩
abbrev cX12_cell : ByteArray := prog_14_method_79_code
def yX12_cell : MethodName := ⟨RX12, "cell", "(II)I"⟩
abbrev cX12_cellAnew : ByteArray := prog_14_method_80_code
def yX12_cellAnew : MethodName := ⟨RX12, "cellAnew", "(II)I"⟩
abbrev cX12_past : ByteArray := prog_14_method_81_code
def yX12_past : MethodName := ⟨RX12, "past", "(II)I"⟩
abbrev cX12_goesOn : ByteArray := prog_14_method_82_code
def yX12_goesOn : MethodName := ⟨RX12, "goesOn", "(I)Z"⟩
abbrev cX12_title : ByteArray := prog_14_method_83_code
def yX12_title : MethodName := ⟨RX12, "title", "(I)I"⟩
abbrev cX12_least : ByteArray := prog_14_method_84_code
def yX12_least : MethodName := ⟨RX12, "least", "(I)I"⟩
abbrev cX12_told : ByteArray := prog_14_method_85_code
def yX12_told : MethodName := ⟨RX12, "told", "(I)I"⟩
abbrev cX12_toldMore : ByteArray := prog_14_method_86_code
def yX12_toldMore : MethodName := ⟨RX12, "toldMore", "(I)I"⟩
def RJx145de : String := "java/io/Serializable"
def TJx145de : u_T := fun k => match k with
  | _ => ("", "", "", false)
def tyJx145de : Nat → FieldType := fun k => match k with
  | _ => .int
abbrev wsJx145de0 : List Cond := u_ws RJx145de TJx145de 0
theorem nmJx145de : ∀ a, a < 0 → ∀ b, b < 0 → a ≠ b → (TJx145de a).2.1 ≠ (TJx145de b).2.1 := by decide +kernel
theorem tyJx145de_ok : ∀ k, k < 0 → parseFieldDescriptor (TJx145de k).2.2.1 = some (tyJx145de k) := by decide +kernel
def RJ5 : String := "java/lang/AbstractStringBuilder"
def TJ5 : u_T := fun k => match k with
  | _ => ("", "", "", false)
def tyJ5 : Nat → FieldType := fun k => match k with
  | _ => .int
abbrev wsJ50 : List Cond := u_ws RJ5 TJ5 0
theorem nmJ5 : ∀ a, a < 0 → ∀ b, b < 0 → a ≠ b → (TJ5 a).2.1 ≠ (TJ5 b).2.1 := by decide +kernel
theorem tyJ5_ok : ∀ k, k < 0 → parseFieldDescriptor (TJ5 k).2.2.1 = some (tyJ5 k) := by decide +kernel
abbrev cJ5_init_d00df : ByteArray := prog_15_method_2_code
def yJ5_init_d00df : MethodName := ⟨RJ5, "<init>", "(I)V"⟩
abbrev cJ5_length_8abf5 : ByteArray := prog_15_method_6_code
def yJ5_length_8abf5 : MethodName := ⟨RJ5, "length", "()I"⟩
abbrev cJ5_ensureCapacityInternal_d00df : ByteArray := prog_15_method_9_code
def yJ5_ensureCapacityInternal_d00df : MethodName := ⟨RJ5, "ensureCapacityInternal", "(I)V"⟩
abbrev cJ5_newCapacity_0f7a4 : ByteArray := prog_15_method_10_code
def yJ5_newCapacity_0f7a4 : MethodName := ⟨RJ5, "newCapacity", "(I)I"⟩
abbrev cJ5_inflate_da8c8 : ByteArray := prog_15_method_11_code
def yJ5_inflate_da8c8 : MethodName := ⟨RJ5, "inflate", "()V"⟩
abbrev cJ5_append_cf1ce : ByteArray := prog_15_method_22_code
def yJ5_append_cf1ce : MethodName := ⟨RJ5, "append", "(Ljava/lang/String;)Ljava/lang/AbstractStringBuilder;"⟩
abbrev cJ5_appendNull_278bc : ByteArray := prog_15_method_26_code
def yJ5_appendNull_278bc : MethodName := ⟨RJ5, "appendNull", "()Ljava/lang/AbstractStringBuilder;"⟩
abbrev cJ5_append_c97b9 : ByteArray := prog_15_method_32_code
def yJ5_append_c97b9 : MethodName := ⟨RJ5, "append", "(I)Ljava/lang/AbstractStringBuilder;"⟩
abbrev cJ5_getValue_6d5f1 : ByteArray := prog_15_method_64_code
def yJ5_getValue_6d5f1 : MethodName := ⟨RJ5, "getValue", "()[B"⟩
abbrev cJ5_isLatin1_aae02 : ByteArray := prog_15_method_68_code
def yJ5_isLatin1_aae02 : MethodName := ⟨RJ5, "isLatin1", "()Z"⟩
abbrev cJ5_inflateIfNeededFor_a7421 : ByteArray := prog_15_method_71_code
def yJ5_inflateIfNeededFor_a7421 : MethodName := ⟨RJ5, "inflateIfNeededFor", "(Ljava/lang/String;)V"⟩
abbrev cJ5_putStringAt_47b60 : ByteArray := prog_15_method_73_code
def yJ5_putStringAt_47b60 : MethodName := ⟨RJ5, "putStringAt", "(ILjava/lang/String;)V"⟩
def RJx2cfe8 : String := "java/lang/Appendable"
def TJx2cfe8 : u_T := fun k => match k with
  | _ => ("", "", "", false)
def tyJx2cfe8 : Nat → FieldType := fun k => match k with
  | _ => .int
abbrev wsJx2cfe80 : List Cond := u_ws RJx2cfe8 TJx2cfe8 0
theorem nmJx2cfe8 : ∀ a, a < 0 → ∀ b, b < 0 → a ≠ b → (TJx2cfe8 a).2.1 ≠ (TJx2cfe8 b).2.1 := by decide +kernel
theorem tyJx2cfe8_ok : ∀ k, k < 0 → parseFieldDescriptor (TJx2cfe8 k).2.2.1 = some (tyJx2cfe8 k) := by decide +kernel
def RJx00060 : String := "java/lang/ArrayIndexOutOfBoundsException"
def TJx00060 : u_T := fun k => match k with
  | 0 => ("java/lang/Throwable", "cause", "Ljava/lang/Throwable;", false)
  | 1 => ("java/lang/Throwable", "stackTrace", "[Ljava/lang/StackTraceElement;", false)
  | 2 => ("java/lang/Throwable", "suppressedExceptions", "Ljava/util/List;", false)
  | 3 => ("java/lang/Throwable", "detailMessage", "Ljava/lang/String;", false)
  | 4 => ("java/lang/Throwable", "backtrace", "Ljava/lang/Object;", false)
  | _ => ("java/lang/Throwable", "depth", "I", false)
def tyJx00060 : Nat → FieldType := fun k => match k with
  | 0 => .object "java/lang/Throwable"
  | 1 => .array (.object "java/lang/StackTraceElement")
  | 2 => .object "java/util/List"
  | 3 => .object "java/lang/String"
  | 4 => .object "java/lang/Object"
  | _ => .int
abbrev wsJx000600 : List Cond := u_ws RJx00060 TJx00060 6
theorem nmJx00060 : ∀ a, a < 6 → ∀ b, b < 6 → a ≠ b → (TJx00060 a).2.1 ≠ (TJx00060 b).2.1 := by decide +kernel
theorem tyJx00060_ok : ∀ k, k < 6 → parseFieldDescriptor (TJx00060 k).2.2.1 = some (tyJx00060 k) := by decide +kernel
abbrev cJx00060_init_d00df : ByteArray := prog_16_method_3_code
def yJx00060_init_d00df : MethodName := ⟨RJx00060, "<init>", "(I)V"⟩
def RJx9f9b0 : String := "java/lang/CharSequence"
def TJx9f9b0 : u_T := fun k => match k with
  | _ => ("", "", "", false)
def tyJx9f9b0 : Nat → FieldType := fun k => match k with
  | _ => .int
abbrev wsJx9f9b00 : List Cond := u_ws RJx9f9b0 TJx9f9b0 0
theorem nmJx9f9b0 : ∀ a, a < 0 → ∀ b, b < 0 → a ≠ b → (TJx9f9b0 a).2.1 ≠ (TJx9f9b0 b).2.1 := by decide +kernel
theorem tyJx9f9b0_ok : ∀ k, k < 0 → parseFieldDescriptor (TJx9f9b0 k).2.2.1 = some (tyJx9f9b0 k) := by decide +kernel
def RJx8e188 : String := "java/lang/Cloneable"
def TJx8e188 : u_T := fun k => match k with
  | _ => ("", "", "", false)
def tyJx8e188 : Nat → FieldType := fun k => match k with
  | _ => .int
abbrev wsJx8e1880 : List Cond := u_ws RJx8e188 TJx8e188 0
theorem nmJx8e188 : ∀ a, a < 0 → ∀ b, b < 0 → a ≠ b → (TJx8e188 a).2.1 ≠ (TJx8e188 b).2.1 := by decide +kernel
theorem tyJx8e188_ok : ∀ k, k < 0 → parseFieldDescriptor (TJx8e188 k).2.2.1 = some (tyJx8e188 k) := by decide +kernel
def RJxb160c : String := "java/lang/Comparable"
def TJxb160c : u_T := fun k => match k with
  | _ => ("", "", "", false)
def tyJxb160c : Nat → FieldType := fun k => match k with
  | _ => .int
abbrev wsJxb160c0 : List Cond := u_ws RJxb160c TJxb160c 0
theorem nmJxb160c : ∀ a, a < 0 → ∀ b, b < 0 → a ≠ b → (TJxb160c a).2.1 ≠ (TJxb160c b).2.1 := by decide +kernel
theorem tyJxb160c_ok : ∀ k, k < 0 → parseFieldDescriptor (TJxb160c k).2.2.1 = some (tyJxb160c k) := by decide +kernel
def RJ6 : String := "java/lang/Integer"
def TJ6 : u_T := fun k => match k with
  | _ => ("", "", "", false)
def tyJ6 : Nat → FieldType := fun k => match k with
  | _ => .int
abbrev wsJ60 : List Cond := u_ws RJ6 TJ6 0
theorem nmJ6 : ∀ a, a < 0 → ∀ b, b < 0 → a ≠ b → (TJ6 a).2.1 ≠ (TJ6 b).2.1 := by decide +kernel
theorem tyJ6_ok : ∀ k, k < 0 → parseFieldDescriptor (TJ6 k).2.2.1 = some (tyJ6 k) := by decide +kernel
abbrev cJ6_getChars_ba4f3 : ByteArray := prog_22_method_12_code
def yJ6_getChars_ba4f3 : MethodName := ⟨RJ6, "getChars", "(II[B)I"⟩
abbrev cJ6_stringSize_0f7a4 : ByteArray := prog_22_method_13_code
def yJ6_stringSize_0f7a4 : MethodName := ⟨RJ6, "stringSize", "(I)I"⟩
def RJ9 : String := "java/lang/Math"
def TJ9 : u_T := fun k => match k with
  | _ => ("", "", "", false)
def tyJ9 : Nat → FieldType := fun k => match k with
  | _ => .int
abbrev wsJ90 : List Cond := u_ws RJ9 TJ9 0
theorem nmJ9 : ∀ a, a < 0 → ∀ b, b < 0 → a ≠ b → (TJ9 a).2.1 ≠ (TJ9 b).2.1 := by decide +kernel
theorem tyJ9_ok : ∀ k, k < 0 → parseFieldDescriptor (TJ9 k).2.2.1 = some (tyJ9 k) := by decide +kernel
abbrev cJ9_max_7cf53 : ByteArray := prog_23_method_65_code
def yJ9_max_7cf53 : MethodName := ⟨RJ9, "max", "(II)I"⟩
abbrev cJ9_min_7cf53 : ByteArray := prog_23_method_69_code
def yJ9_min_7cf53 : MethodName := ⟨RJ9, "min", "(II)I"⟩
def RJxd2413 : String := "java/lang/Number"
def TJxd2413 : u_T := fun k => match k with
  | _ => ("", "", "", false)
def tyJxd2413 : Nat → FieldType := fun k => match k with
  | _ => .int
abbrev wsJxd24130 : List Cond := u_ws RJxd2413 TJxd2413 0
theorem nmJxd2413 : ∀ a, a < 0 → ∀ b, b < 0 → a ≠ b → (TJxd2413 a).2.1 ≠ (TJxd2413 b).2.1 := by decide +kernel
theorem tyJxd2413_ok : ∀ k, k < 0 → parseFieldDescriptor (TJxd2413 k).2.2.1 = some (tyJxd2413 k) := by decide +kernel
def RJ0 : String := "java/lang/String"
def TJ0 : u_T := fun k => match k with
  | 0 => ("java/lang/String", "value", "[B", true)
  | 1 => ("java/lang/String", "coder", "B", true)
  | 2 => ("java/lang/String", "hash", "I", false)
  | _ => ("java/lang/String", "hashIsZero", "Z", false)
def tyJ0 : Nat → FieldType := fun k => match k with
  | 0 => .array .byte
  | 1 => .byte
  | 2 => .int
  | _ => .boolean
abbrev wsJ00 : List Cond := u_ws RJ0 TJ0 4
theorem nmJ0 : ∀ a, a < 4 → ∀ b, b < 4 → a ≠ b → (TJ0 a).2.1 ≠ (TJ0 b).2.1 := by decide +kernel
theorem tyJ0_ok : ∀ k, k < 4 → parseFieldDescriptor (TJ0 k).2.2.1 = some (tyJ0 k) := by decide +kernel
abbrev cJ0_init_81219 : ByteArray := prog_26_method_53_code
def yJ0_init_81219 : MethodName := ⟨RJ0, "<init>", "(Ljava/lang/StringBuilder;)V"⟩
abbrev cJ0_length_8abf5 : ByteArray := prog_26_method_54_code
def yJ0_length_8abf5 : MethodName := ⟨RJ0, "length", "()I"⟩
abbrev cJ0_getBytes_840e7 : ByteArray := prog_26_method_147_code
def yJ0_getBytes_840e7 : MethodName := ⟨RJ0, "getBytes", "([BIB)V"⟩
abbrev cJ0_init_db425 : ByteArray := prog_26_method_150_code
def yJ0_init_db425 : MethodName := ⟨RJ0, "<init>", "(Ljava/lang/AbstractStringBuilder;Ljava/lang/Void;)V"⟩
abbrev cJ0_coder_7d493 : ByteArray := prog_26_method_152_code
def yJ0_coder_7d493 : MethodName := ⟨RJ0, "coder", "()B"⟩
abbrev cJ0_checkBoundsOffCount_cabcc : ByteArray := prog_26_method_157_code
def yJ0_checkBoundsOffCount_cabcc : MethodName := ⟨RJ0, "checkBoundsOffCount", "(III)I"⟩
abbrev cJ0_checkBoundsBeginEnd_23922 : ByteArray := prog_26_method_158_code
def yJ0_checkBoundsBeginEnd_23922 : MethodName := ⟨RJ0, "checkBoundsBeginEnd", "(III)V"⟩
def RJ4 : String := "java/lang/StringBuilder"
def TJ4 : u_T := fun k => match k with
  | 0 => ("java/lang/AbstractStringBuilder", "value", "[B", false)
  | 1 => ("java/lang/AbstractStringBuilder", "coder", "B", false)
  | 2 => ("java/lang/AbstractStringBuilder", "maybeLatin1", "Z", false)
  | _ => ("java/lang/AbstractStringBuilder", "count", "I", false)
def tyJ4 : Nat → FieldType := fun k => match k with
  | 0 => .array .byte
  | 1 => .byte
  | 2 => .boolean
  | _ => .int
abbrev wsJ40 : List Cond := u_ws RJ4 TJ4 4
theorem nmJ4 : ∀ a, a < 4 → ∀ b, b < 4 → a ≠ b → (TJ4 a).2.1 ≠ (TJ4 b).2.1 := by decide +kernel
theorem tyJ4_ok : ∀ k, k < 4 → parseFieldDescriptor (TJ4 k).2.2.1 = some (tyJ4 k) := by decide +kernel
abbrev cJ4_init_da8c8 : ByteArray := prog_27_method_1_code
def yJ4_init_da8c8 : MethodName := ⟨RJ4, "<init>", "()V"⟩
abbrev cJ4_append_15ec4 : ByteArray := prog_27_method_7_code
def yJ4_append_15ec4 : MethodName := ⟨RJ4, "append", "(Ljava/lang/String;)Ljava/lang/StringBuilder;"⟩
abbrev cJ4_append_bf812 : ByteArray := prog_27_method_15_code
def yJ4_append_bf812 : MethodName := ⟨RJ4, "append", "(I)Ljava/lang/StringBuilder;"⟩
abbrev cJ4_toString_0e30d : ByteArray := prog_27_method_42_code
def yJ4_toString_0e30d : MethodName := ⟨RJ4, "toString", "()Ljava/lang/String;"⟩
abbrev cJ4_length_8abf5 : ByteArray := prog_27_method_93_code
def yJ4_length_8abf5 : MethodName := ⟨RJ4, "length", "()I"⟩
def RJ1 : String := "java/lang/StringLatin1"
def TJ1 : u_T := fun k => match k with
  | _ => ("", "", "", false)
def tyJ1 : Nat → FieldType := fun k => match k with
  | _ => .int
abbrev wsJ10 : List Cond := u_ws RJ1 TJ1 0
theorem nmJ1 : ∀ a, a < 0 → ∀ b, b < 0 → a ≠ b → (TJ1 a).2.1 ≠ (TJ1 b).2.1 := by decide +kernel
theorem tyJ1_ok : ∀ k, k < 0 → parseFieldDescriptor (TJ1 k).2.2.1 = some (tyJ1 k) := by decide +kernel
abbrev cJ1_inflate_0e8fd : ByteArray := prog_28_method_50_code
def yJ1_inflate_0e8fd : MethodName := ⟨RJ1, "inflate", "([BI[BII)V"⟩
def RJ2 : String := "java/lang/StringUTF16"
def TJ2 : u_T := fun k => match k with
  | _ => ("", "", "", false)
def tyJ2 : Nat → FieldType := fun k => match k with
  | _ => .int
abbrev wsJ20 : List Cond := u_ws RJ2 TJ2 0
theorem nmJ2 : ∀ a, a < 0 → ∀ b, b < 0 → a ≠ b → (TJ2 a).2.1 ≠ (TJ2 b).2.1 := by decide +kernel
theorem tyJ2_ok : ∀ k, k < 0 → parseFieldDescriptor (TJ2 k).2.2.1 = some (tyJ2 k) := by decide +kernel
abbrev cJ2_newBytesFor_77867 : ByteArray := prog_29_method_2_code
def yJ2_newBytesFor_77867 : MethodName := ⟨RJ2, "newBytesFor", "(I)[B"⟩
abbrev cJ2_newBytesLength_0f7a4 : ByteArray := prog_29_method_3_code
def yJ2_newBytesLength_0f7a4 : MethodName := ⟨RJ2, "newBytesLength", "(I)I"⟩
abbrev cJ2_putChar_b72d1 : ByteArray := prog_29_method_4_code
def yJ2_putChar_b72d1 : MethodName := ⟨RJ2, "putChar", "([BII)V"⟩
abbrev cJ2_getChar_3b067 : ByteArray := prog_29_method_5_code
def yJ2_getChar_3b067 : MethodName := ⟨RJ2, "getChar", "([BI)C"⟩
abbrev cJ2_length_9d52b : ByteArray := prog_29_method_6_code
def yJ2_length_9d52b : MethodName := ⟨RJ2, "length", "([B)I"⟩
abbrev cJ2_coderFromArrayLen_85cad : ByteArray := prog_29_method_15_code
def yJ2_coderFromArrayLen_85cad : MethodName := ⟨RJ2, "coderFromArrayLen", "([BI)B"⟩
abbrev cJ2_compress_39247 : ByteArray := prog_29_method_17_code
def yJ2_compress_39247 : MethodName := ⟨RJ2, "compress", "([BII)[B"⟩
abbrev cJ2_compress_5af95 : ByteArray := prog_29_method_22_code
def yJ2_compress_5af95 : MethodName := ⟨RJ2, "compress", "([BI[BII)I"⟩
abbrev cJ2_getChars_46870 : ByteArray := prog_29_method_77_code
def yJ2_getChars_46870 : MethodName := ⟨RJ2, "getChars", "(III[B)I"⟩
abbrev cJ2_putCharsAt_cd4e5 : ByteArray := prog_29_method_81_code
def yJ2_putCharsAt_cd4e5 : MethodName := ⟨RJ2, "putCharsAt", "([BICCCC)I"⟩
abbrev cJ2_inflate_0e8fd : ByteArray := prog_29_method_86_code
def yJ2_inflate_0e8fd : MethodName := ⟨RJ2, "inflate", "([BI[BII)V"⟩
abbrev cJ2_getChars_ba4f3 : ByteArray := prog_29_method_89_code
def yJ2_getChars_ba4f3 : MethodName := ⟨RJ2, "getChars", "(II[B)I"⟩
abbrev cJ2_checkBoundsBeginEnd_d044e : ByteArray := prog_29_method_93_code
def yJ2_checkBoundsBeginEnd_d044e : MethodName := ⟨RJ2, "checkBoundsBeginEnd", "(II[B)V"⟩
abbrev cJ2_checkBoundsOffCount_d044e : ByteArray := prog_29_method_94_code
def yJ2_checkBoundsOffCount_d044e : MethodName := ⟨RJ2, "checkBoundsOffCount", "(II[B)V"⟩
def RJ10 : String := "java/lang/System"
def TJ10 : u_T := fun k => match k with
  | _ => ("", "", "", false)
def tyJ10 : Nat → FieldType := fun k => match k with
  | _ => .int
abbrev wsJ100 : List Cond := u_ws RJ10 TJ10 0
theorem nmJ10 : ∀ a, a < 0 → ∀ b, b < 0 → a ≠ b → (TJ10 a).2.1 ≠ (TJ10 b).2.1 := by decide +kernel
theorem tyJ10_ok : ∀ k, k < 0 → parseFieldDescriptor (TJ10 k).2.2.1 = some (tyJ10 k) := by decide +kernel
def RJxfd54e : String := "java/lang/constant/Constable"
def TJxfd54e : u_T := fun k => match k with
  | _ => ("", "", "", false)
def tyJxfd54e : Nat → FieldType := fun k => match k with
  | _ => .int
abbrev wsJxfd54e0 : List Cond := u_ws RJxfd54e TJxfd54e 0
theorem nmJxfd54e : ∀ a, a < 0 → ∀ b, b < 0 → a ≠ b → (TJxfd54e a).2.1 ≠ (TJxfd54e b).2.1 := by decide +kernel
theorem tyJxfd54e_ok : ∀ k, k < 0 → parseFieldDescriptor (TJxfd54e k).2.2.1 = some (tyJxfd54e k) := by decide +kernel
def RJx3cf43 : String := "java/lang/constant/ConstantDesc"
def TJx3cf43 : u_T := fun k => match k with
  | _ => ("", "", "", false)
def tyJx3cf43 : Nat → FieldType := fun k => match k with
  | _ => .int
abbrev wsJx3cf430 : List Cond := u_ws RJx3cf43 TJx3cf43 0
theorem nmJx3cf43 : ∀ a, a < 0 → ∀ b, b < 0 → a ≠ b → (TJx3cf43 a).2.1 ≠ (TJx3cf43 b).2.1 := by decide +kernel
theorem tyJx3cf43_ok : ∀ k, k < 0 → parseFieldDescriptor (TJx3cf43 k).2.2.1 = some (tyJx3cf43 k) := by decide +kernel
def RJ7 : String := "java/util/Arrays"
def TJ7 : u_T := fun k => match k with
  | _ => ("", "", "", false)
def tyJ7 : Nat → FieldType := fun k => match k with
  | _ => .int
abbrev wsJ70 : List Cond := u_ws RJ7 TJ7 0
theorem nmJ7 : ∀ a, a < 0 → ∀ b, b < 0 → a ≠ b → (TJ7 a).2.1 ≠ (TJ7 b).2.1 := by decide +kernel
theorem tyJ7_ok : ∀ k, k < 0 → parseFieldDescriptor (TJ7 k).2.2.1 = some (tyJ7 k) := by decide +kernel
abbrev cJ7_rangeCheck_23922 : ByteArray := prog_32_method_30_code
def yJ7_rangeCheck_23922 : MethodName := ⟨RJ7, "rangeCheck", "(III)V"⟩
abbrev cJ7_fill_fda19 : ByteArray := prog_32_method_104_code
def yJ7_fill_fda19 : MethodName := ⟨RJ7, "fill", "([IIII)V"⟩
abbrev cJ7_copyOf_9075b : ByteArray := prog_32_method_121_code
def yJ7_copyOf_9075b : MethodName := ⟨RJ7, "copyOf", "([BI)[B"⟩
abbrev cJ7_copyOf_59c91 : ByteArray := prog_32_method_123_code
def yJ7_copyOf_59c91 : MethodName := ⟨RJ7, "copyOf", "([II)[I"⟩
abbrev cJ7_checkLength_df160 : ByteArray := prog_32_method_131_code
def yJ7_checkLength_df160 : MethodName := ⟨RJ7, "checkLength", "(II)V"⟩
abbrev cJ7_copyOfRange_39247 : ByteArray := prog_32_method_132_code
def yJ7_copyOfRange_39247 : MethodName := ⟨RJ7, "copyOfRange", "([BII)[B"⟩
abbrev cJ7_copyOfRangeByte_39247 : ByteArray := prog_32_method_133_code
def yJ7_copyOfRangeByte_39247 : MethodName := ⟨RJ7, "copyOfRangeByte", "([BII)[B"⟩
def RJ8 : String := "jdk/internal/util/ArraysSupport"
def TJ8 : u_T := fun k => match k with
  | _ => ("", "", "", false)
def tyJ8 : Nat → FieldType := fun k => match k with
  | _ => .int
abbrev wsJ80 : List Cond := u_ws RJ8 TJ8 0
theorem nmJ8 : ∀ a, a < 0 → ∀ b, b < 0 → a ≠ b → (TJ8 a).2.1 ≠ (TJ8 b).2.1 := by decide +kernel
theorem tyJ8_ok : ∀ k, k < 0 → parseFieldDescriptor (TJ8 k).2.2.1 = some (tyJ8 k) := by decide +kernel
abbrev cJ8_newLength_cabcc : ByteArray := prog_33_method_27_code
def yJ8_newLength_cabcc : MethodName := ⟨RJ8, "newLength", "(III)I"⟩
abbrev cJ8_hugeLength_7cf53 : ByteArray := prog_33_method_28_code
def yJ8_hugeLength_7cf53 : MethodName := ⟨RJ8, "hugeLength", "(II)I"⟩
def RJ3 : String := "jdk/internal/util/Preconditions"
def TJ3 : u_T := fun k => match k with
  | _ => ("", "", "", false)
def tyJ3 : Nat → FieldType := fun k => match k with
  | _ => .int
abbrev wsJ30 : List Cond := u_ws RJ3 TJ3 0
theorem nmJ3 : ∀ a, a < 0 → ∀ b, b < 0 → a ≠ b → (TJ3 a).2.1 ≠ (TJ3 b).2.1 := by decide +kernel
theorem tyJ3_ok : ∀ k, k < 0 → parseFieldDescriptor (TJ3 k).2.2.1 = some (tyJ3 k) := by decide +kernel
abbrev cJ3_checkFromToIndex_8c36e : ByteArray := prog_34_method_12_code
def yJ3_checkFromToIndex_8c36e : MethodName := ⟨RJ3, "checkFromToIndex", "(IIILjava/util/function/BiFunction;)I"⟩
abbrev cJ3_checkFromIndexSize_8c36e : ByteArray := prog_34_method_13_code
def yJ3_checkFromIndexSize_8c36e : MethodName := ⟨RJ3, "checkFromIndexSize", "(IIILjava/util/function/BiFunction;)I"⟩
def RL : String := "InputrowConsoleLaw"
abbrev cL_write : ByteArray := method_3_code
def yL_write : MethodName := ⟨RL, "write", "(LInputrowConsole;I[J)I"⟩
abbrev cL_code : ByteArray := method_4_code
def yL_code : MethodName := ⟨RL, "code", "(LInputrowConsole;ZIII[J)I"⟩
abbrev cL_type : ByteArray := method_5_code
def yL_type : MethodName := ⟨RL, "type", "(LInputrowConsole;I[J)I"⟩
abbrev cL_key : ByteArray := method_6_code
def yL_key : MethodName := ⟨RL, "key", "(LInputrowConsole;II[J)I"⟩
abbrev cL_draft : ByteArray := method_7_code
def yL_draft : MethodName := ⟨RL, "draft", "(LInputrowConsole;I[J)I"⟩
abbrev cL_mouse : ByteArray := method_8_code
def yL_mouse : MethodName := ⟨RL, "mouse", "(LInputrowConsole;III[J)I"⟩
abbrev cL_size : ByteArray := method_9_code
def yL_size : MethodName := ⟨RL, "size", "(LInputrowConsole;II[J)I"⟩
abbrev cL_cell : ByteArray := method_10_code
def yL_cell : MethodName := ⟨RL, "cell", "(LInputrowConsole;II[J)I"⟩
abbrev cL_cellAnew : ByteArray := method_11_code
def yL_cellAnew : MethodName := ⟨RL, "cellAnew", "(LInputrowConsole;II[J)I"⟩
abbrev cL_past : ByteArray := method_12_code
def yL_past : MethodName := ⟨RL, "past", "(LInputrowConsole;II[J)I"⟩
abbrev cL_goesOn : ByteArray := method_13_code
def yL_goesOn : MethodName := ⟨RL, "goesOn", "(LInputrowConsole;I[J)I"⟩
abbrev cL_title : ByteArray := method_14_code
def yL_title : MethodName := ⟨RL, "title", "(LInputrowConsole;I[J)I"⟩
abbrev cL_least : ByteArray := method_15_code
def yL_least : MethodName := ⟨RL, "least", "(LInputrowConsole;I[J)I"⟩
abbrev cL_told : ByteArray := method_16_code
def yL_told : MethodName := ⟨RL, "told", "(LInputrowConsole;I[J)I"⟩
abbrev cL_law : ByteArray := code
def yL_law : MethodName := ⟨RL, "law", "([I)Z"⟩
abbrev vwCl : List vw_C := [(RJ0, TJ0, 4), (RJ4, TJ4, 4), (RJx00060, TJx00060, 6), (RX0, TX0, 3), (RX1, TX1, 5), (RX2, TX2, 3), (RX3, TX3, 9), (RX4, TX4, 12), (RX5, TX5, 6), (RX6, TX6, 4), (RX7, TX7, 8), (RX8, TX8, 14), (RX9, TX9, 3), (RX10, TX10, 3), (RX11, TX11, 7), (RX12, TX12, 59)]
