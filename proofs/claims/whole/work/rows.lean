section
-- ===== PART A: goes FIRST, ahead of the names: the tables' words, and 'selects' of the private methods out of them =====
/-- a private method of a class that the tables say can be made, by its rows of tables_1 -/
def lw_okq (q : MethodName × Nat) : Prop := (q.1.cls ≠ "java/lang/invoke/MethodHandle" ∧ q.1.cls ≠ "java/lang/invoke/VarHandle") ∧ Cond.instantiable q.1.cls q.2 ∈ tables_1 ∧ Cond.privateMethod q.1 ∈ tables_1 ∧ Cond.instanceMethod q.1 ∈ tables_1
theorem lw_p0 : lw_okq (⟨"SpanLodge$SetupReader", "advance", "()V"⟩, 9) := ⟨⟨by decide +kernel, by decide +kernel⟩, List.mem_of_getElem? (i := 115) (by decide +kernel), List.mem_of_getElem? (i := 205) (by decide +kernel), List.mem_of_getElem? (i := 206) (by decide +kernel)⟩
theorem lw_p1 : lw_okq (⟨"SpanLodge$SetupReader", "passLetters", "()V"⟩, 9) := ⟨⟨by decide +kernel, by decide +kernel⟩, List.mem_of_getElem? (i := 115) (by decide +kernel), List.mem_of_getElem? (i := 212) (by decide +kernel), List.mem_of_getElem? (i := 213) (by decide +kernel)⟩
theorem lw_p2 : lw_okq (⟨"SpanLodge$SetupReader", "passDigits", "()V"⟩, 9) := ⟨⟨by decide +kernel, by decide +kernel⟩, List.mem_of_getElem? (i := 115) (by decide +kernel), List.mem_of_getElem? (i := 219) (by decide +kernel), List.mem_of_getElem? (i := 220) (by decide +kernel)⟩
theorem lw_p3 : lw_okq (⟨"SpanLodge$SetupReader", "readSize", "()Z"⟩, 9) := ⟨⟨by decide +kernel, by decide +kernel⟩, List.mem_of_getElem? (i := 115) (by decide +kernel), List.mem_of_getElem? (i := 224) (by decide +kernel), List.mem_of_getElem? (i := 225) (by decide +kernel)⟩
theorem lw_p4 : lw_okq (⟨"SpanLodge$SetupReader", "isWord", "(Ljava/lang/String;)Z"⟩, 9) := ⟨⟨by decide +kernel, by decide +kernel⟩, List.mem_of_getElem? (i := 115) (by decide +kernel), List.mem_of_getElem? (i := 229) (by decide +kernel), List.mem_of_getElem? (i := 230) (by decide +kernel)⟩
theorem lw_p5 : lw_okq (⟨"SpanLodge$SetupReader", "fail", "(I)Z"⟩, 9) := ⟨⟨by decide +kernel, by decide +kernel⟩, List.mem_of_getElem? (i := 115) (by decide +kernel), List.mem_of_getElem? (i := 281) (by decide +kernel), List.mem_of_getElem? (i := 282) (by decide +kernel)⟩
theorem lw_p6 : lw_okq (⟨"SpanLodge$SetupReader", "readNumber", "(II)I"⟩, 9) := ⟨⟨by decide +kernel, by decide +kernel⟩, List.mem_of_getElem? (i := 115) (by decide +kernel), List.mem_of_getElem? (i := 285) (by decide +kernel), List.mem_of_getElem? (i := 286) (by decide +kernel)⟩
theorem lw_p7 : lw_okq (⟨"SpanLodge$SetupReader", "checkNumber", "(II)I"⟩, 9) := ⟨⟨by decide +kernel, by decide +kernel⟩, List.mem_of_getElem? (i := 115) (by decide +kernel), List.mem_of_getElem? (i := 289) (by decide +kernel), List.mem_of_getElem? (i := 290) (by decide +kernel)⟩
theorem lw_p8 : lw_okq (⟨"SpanLodge$SetupReader", "readSemicolon", "()Z"⟩, 9) := ⟨⟨by decide +kernel, by decide +kernel⟩, List.mem_of_getElem? (i := 115) (by decide +kernel), List.mem_of_getElem? (i := 294) (by decide +kernel), List.mem_of_getElem? (i := 295) (by decide +kernel)⟩
theorem lw_p9 : lw_okq (⟨"SpanLodge$SetupReader", "readOwner", "()Z"⟩, 9) := ⟨⟨by decide +kernel, by decide +kernel⟩, List.mem_of_getElem? (i := 115) (by decide +kernel), List.mem_of_getElem? (i := 299) (by decide +kernel), List.mem_of_getElem? (i := 300) (by decide +kernel)⟩
theorem lw_p10 : lw_okq (⟨"SpanLodge$SetupReader", "readBook", "()Z"⟩, 9) := ⟨⟨by decide +kernel, by decide +kernel⟩, List.mem_of_getElem? (i := 115) (by decide +kernel), List.mem_of_getElem? (i := 308) (by decide +kernel), List.mem_of_getElem? (i := 309) (by decide +kernel)⟩
theorem lw_p11 : lw_okq (⟨"SpanLodge$SetupReader", "readBookingOwner", "()I"⟩, 9) := ⟨⟨by decide +kernel, by decide +kernel⟩, List.mem_of_getElem? (i := 115) (by decide +kernel), List.mem_of_getElem? (i := 312) (by decide +kernel), List.mem_of_getElem? (i := 313) (by decide +kernel)⟩
theorem lw_p12 : lw_okq (⟨"SpanLodge$SetupReader", "readLength", "(I)I"⟩, 9) := ⟨⟨by decide +kernel, by decide +kernel⟩, List.mem_of_getElem? (i := 115) (by decide +kernel), List.mem_of_getElem? (i := 328) (by decide +kernel), List.mem_of_getElem? (i := 329) (by decide +kernel)⟩
theorem lw_p13 : lw_okq (⟨"SpanLodge$SetupReader", "readOption", "(Ljava/lang/String;III)I"⟩, 9) := ⟨⟨by decide +kernel, by decide +kernel⟩, List.mem_of_getElem? (i := 115) (by decide +kernel), List.mem_of_getElem? (i := 333) (by decide +kernel), List.mem_of_getElem? (i := 334) (by decide +kernel)⟩
theorem lw_p14 : lw_okq (⟨"SpanLodge$SetupReader", "readSetting", "()Z"⟩, 9) := ⟨⟨by decide +kernel, by decide +kernel⟩, List.mem_of_getElem? (i := 115) (by decide +kernel), List.mem_of_getElem? (i := 370) (by decide +kernel), List.mem_of_getElem? (i := 371) (by decide +kernel)⟩
theorem lw_p15 : lw_okq (⟨"SpanLodge", "resetDraft", "()V"⟩, 14) := ⟨⟨by decide +kernel, by decide +kernel⟩, List.mem_of_getElem? (i := 19) (by decide +kernel), List.mem_of_getElem? (i := 382) (by decide +kernel), List.mem_of_getElem? (i := 383) (by decide +kernel)⟩
def lw_privs_1 : List (MethodName × Nat) := [(⟨"SpanLodge$SetupReader", "advance", "()V"⟩, 9), (⟨"SpanLodge$SetupReader", "passLetters", "()V"⟩, 9), (⟨"SpanLodge$SetupReader", "passDigits", "()V"⟩, 9), (⟨"SpanLodge$SetupReader", "readSize", "()Z"⟩, 9), (⟨"SpanLodge$SetupReader", "isWord", "(Ljava/lang/String;)Z"⟩, 9), (⟨"SpanLodge$SetupReader", "fail", "(I)Z"⟩, 9), (⟨"SpanLodge$SetupReader", "readNumber", "(II)I"⟩, 9), (⟨"SpanLodge$SetupReader", "checkNumber", "(II)I"⟩, 9), (⟨"SpanLodge$SetupReader", "readSemicolon", "()Z"⟩, 9), (⟨"SpanLodge$SetupReader", "readOwner", "()Z"⟩, 9), (⟨"SpanLodge$SetupReader", "readBook", "()Z"⟩, 9), (⟨"SpanLodge$SetupReader", "readBookingOwner", "()I"⟩, 9), (⟨"SpanLodge$SetupReader", "readLength", "(I)I"⟩, 9), (⟨"SpanLodge$SetupReader", "readOption", "(Ljava/lang/String;III)I"⟩, 9), (⟨"SpanLodge$SetupReader", "readSetting", "()Z"⟩, 9), (⟨"SpanLodge", "resetDraft", "()V"⟩, 14)]
theorem lw_r1 : ∀ q ∈ lw_privs_1, lw_okq q := List.forall_mem_cons.mpr ⟨lw_p0, List.forall_mem_cons.mpr ⟨lw_p1, List.forall_mem_cons.mpr ⟨lw_p2, List.forall_mem_cons.mpr ⟨lw_p3, List.forall_mem_cons.mpr ⟨lw_p4, List.forall_mem_cons.mpr ⟨lw_p5, List.forall_mem_cons.mpr ⟨lw_p6, List.forall_mem_cons.mpr ⟨lw_p7, List.forall_mem_cons.mpr ⟨lw_p8, List.forall_mem_cons.mpr ⟨lw_p9, List.forall_mem_cons.mpr ⟨lw_p10, List.forall_mem_cons.mpr ⟨lw_p11, List.forall_mem_cons.mpr ⟨lw_p12, List.forall_mem_cons.mpr ⟨lw_p13, List.forall_mem_cons.mpr ⟨lw_p14, List.forall_mem_cons.mpr ⟨lw_p15, fun _ h => absurd h List.not_mem_nil⟩⟩⟩⟩⟩⟩⟩⟩⟩⟩⟩⟩⟩⟩⟩⟩
theorem lw_p16 : lw_okq (⟨"SpanLodge$Broker", "findBestSwap", "()V"⟩, 2) := ⟨⟨by decide +kernel, by decide +kernel⟩, List.mem_of_getElem? (i := 101) (by decide +kernel), List.mem_of_getElem? (i := 410) (by decide +kernel), List.mem_of_getElem? (i := 411) (by decide +kernel)⟩
theorem lw_p17 : lw_okq (⟨"SpanLodge$Broker", "keepBetter", "(IIII)V"⟩, 2) := ⟨⟨by decide +kernel, by decide +kernel⟩, List.mem_of_getElem? (i := 101) (by decide +kernel), List.mem_of_getElem? (i := 433) (by decide +kernel), List.mem_of_getElem? (i := 434) (by decide +kernel)⟩
theorem lw_p18 : lw_okq (⟨"SpanLodge$Broker", "priceOf", "(II)I"⟩, 2) := ⟨⟨by decide +kernel, by decide +kernel⟩, List.mem_of_getElem? (i := 101) (by decide +kernel), List.mem_of_getElem? (i := 437) (by decide +kernel), List.mem_of_getElem? (i := 438) (by decide +kernel)⟩
theorem lw_p19 : lw_okq (⟨"SpanLodge$Broker", "findBestBuyout", "()V"⟩, 2) := ⟨⟨by decide +kernel, by decide +kernel⟩, List.mem_of_getElem? (i := 101) (by decide +kernel), List.mem_of_getElem? (i := 441) (by decide +kernel), List.mem_of_getElem? (i := 442) (by decide +kernel)⟩
theorem lw_p20 : lw_okq (⟨"SpanLodge$Broker", "countBargain", "(II)V"⟩, 2) := ⟨⟨by decide +kernel, by decide +kernel⟩, List.mem_of_getElem? (i := 101) (by decide +kernel), List.mem_of_getElem? (i := 458) (by decide +kernel), List.mem_of_getElem? (i := 459) (by decide +kernel)⟩
theorem lw_p21 : lw_okq (⟨"SpanLodge$Ledger", "queueUp", "()I"⟩, 11) := ⟨⟨by decide +kernel, by decide +kernel⟩, List.mem_of_getElem? (i := 27) (by decide +kernel), List.mem_of_getElem? (i := 472) (by decide +kernel), List.mem_of_getElem? (i := 473) (by decide +kernel)⟩
theorem lw_p22 : lw_okq (⟨"java/lang/Throwable", "fillInStackTrace", "(I)Ljava/lang/Throwable;"⟩, 6) := ⟨⟨by decide +kernel, by decide +kernel⟩, List.mem_of_getElem? (i := 530) (by decide +kernel), List.mem_of_getElem? (i := 528) (by decide +kernel), List.mem_of_getElem? (i := 529) (by decide +kernel)⟩
theorem lw_p23 : lw_okq (⟨"SpanLodge", "needOwner", "(I)V"⟩, 14) := ⟨⟨by decide +kernel, by decide +kernel⟩, List.mem_of_getElem? (i := 19) (by decide +kernel), List.mem_of_getElem? (i := 628) (by decide +kernel), List.mem_of_getElem? (i := 629) (by decide +kernel)⟩
theorem lw_p24 : lw_okq (⟨"SpanLodge", "needSpan", "(II)V"⟩, 14) := ⟨⟨by decide +kernel, by decide +kernel⟩, List.mem_of_getElem? (i := 19) (by decide +kernel), List.mem_of_getElem? (i := 684) (by decide +kernel), List.mem_of_getElem? (i := 685) (by decide +kernel)⟩
theorem lw_p25 : lw_okq (⟨"SpanLodge", "needByte", "(I)V"⟩, 14) := ⟨⟨by decide +kernel, by decide +kernel⟩, List.mem_of_getElem? (i := 19) (by decide +kernel), List.mem_of_getElem? (i := 688) (by decide +kernel), List.mem_of_getElem? (i := 689) (by decide +kernel)⟩
theorem lw_p26 : lw_okq (⟨"SpanLodge", "needBooking", "(I)V"⟩, 14) := ⟨⟨by decide +kernel, by decide +kernel⟩, List.mem_of_getElem? (i := 19) (by decide +kernel), List.mem_of_getElem? (i := 714) (by decide +kernel), List.mem_of_getElem? (i := 715) (by decide +kernel)⟩
theorem lw_p27 : lw_okq (⟨"SpanLodge$Ledger", "finishHeld", "()I"⟩, 11) := ⟨⟨by decide +kernel, by decide +kernel⟩, List.mem_of_getElem? (i := 27) (by decide +kernel), List.mem_of_getElem? (i := 809) (by decide +kernel), List.mem_of_getElem? (i := 810) (by decide +kernel)⟩
theorem lw_p28 : lw_okq (⟨"SpanLodge$Ledger", "bumpLate", "()I"⟩, 11) := ⟨⟨by decide +kernel, by decide +kernel⟩, List.mem_of_getElem? (i := 27) (by decide +kernel), List.mem_of_getElem? (i := 813) (by decide +kernel), List.mem_of_getElem? (i := 814) (by decide +kernel)⟩
theorem lw_p29 : lw_okq (⟨"SpanLodge$Ledger", "expireWaiting", "()V"⟩, 11) := ⟨⟨by decide +kernel, by decide +kernel⟩, List.mem_of_getElem? (i := 27) (by decide +kernel), List.mem_of_getElem? (i := 817) (by decide +kernel), List.mem_of_getElem? (i := 818) (by decide +kernel)⟩
theorem lw_p30 : lw_okq (⟨"SpanLodgeModel", "clear", "(I)V"⟩, 34) := ⟨⟨by decide +kernel, by decide +kernel⟩, List.mem_of_getElem? (i := 910) (by decide +kernel), List.mem_of_getElem? (i := 916) (by decide +kernel), List.mem_of_getElem? (i := 917) (by decide +kernel)⟩
theorem lw_p31 : lw_okq (⟨"SpanLodgeModel", "clearDraft", "()V"⟩, 34) := ⟨⟨by decide +kernel, by decide +kernel⟩, List.mem_of_getElem? (i := 910) (by decide +kernel), List.mem_of_getElem? (i := 920) (by decide +kernel), List.mem_of_getElem? (i := 921) (by decide +kernel)⟩
def lw_privs_2 : List (MethodName × Nat) := [(⟨"SpanLodge$Broker", "findBestSwap", "()V"⟩, 2), (⟨"SpanLodge$Broker", "keepBetter", "(IIII)V"⟩, 2), (⟨"SpanLodge$Broker", "priceOf", "(II)I"⟩, 2), (⟨"SpanLodge$Broker", "findBestBuyout", "()V"⟩, 2), (⟨"SpanLodge$Broker", "countBargain", "(II)V"⟩, 2), (⟨"SpanLodge$Ledger", "queueUp", "()I"⟩, 11), (⟨"java/lang/Throwable", "fillInStackTrace", "(I)Ljava/lang/Throwable;"⟩, 6), (⟨"SpanLodge", "needOwner", "(I)V"⟩, 14), (⟨"SpanLodge", "needSpan", "(II)V"⟩, 14), (⟨"SpanLodge", "needByte", "(I)V"⟩, 14), (⟨"SpanLodge", "needBooking", "(I)V"⟩, 14), (⟨"SpanLodge$Ledger", "finishHeld", "()I"⟩, 11), (⟨"SpanLodge$Ledger", "bumpLate", "()I"⟩, 11), (⟨"SpanLodge$Ledger", "expireWaiting", "()V"⟩, 11), (⟨"SpanLodgeModel", "clear", "(I)V"⟩, 34), (⟨"SpanLodgeModel", "clearDraft", "()V"⟩, 34)]
theorem lw_r2 : ∀ q ∈ lw_privs_2, lw_okq q := List.forall_mem_cons.mpr ⟨lw_p16, List.forall_mem_cons.mpr ⟨lw_p17, List.forall_mem_cons.mpr ⟨lw_p18, List.forall_mem_cons.mpr ⟨lw_p19, List.forall_mem_cons.mpr ⟨lw_p20, List.forall_mem_cons.mpr ⟨lw_p21, List.forall_mem_cons.mpr ⟨lw_p22, List.forall_mem_cons.mpr ⟨lw_p23, List.forall_mem_cons.mpr ⟨lw_p24, List.forall_mem_cons.mpr ⟨lw_p25, List.forall_mem_cons.mpr ⟨lw_p26, List.forall_mem_cons.mpr ⟨lw_p27, List.forall_mem_cons.mpr ⟨lw_p28, List.forall_mem_cons.mpr ⟨lw_p29, List.forall_mem_cons.mpr ⟨lw_p30, List.forall_mem_cons.mpr ⟨lw_p31, fun _ h => absurd h List.not_mem_nil⟩⟩⟩⟩⟩⟩⟩⟩⟩⟩⟩⟩⟩⟩⟩⟩
theorem lw_p32 : lw_okq (⟨"SpanLodgeModel", "fail", "(I)I"⟩, 34) := ⟨⟨by decide +kernel, by decide +kernel⟩, List.mem_of_getElem? (i := 910) (by decide +kernel), List.mem_of_getElem? (i := 1036) (by decide +kernel), List.mem_of_getElem? (i := 1037) (by decide +kernel)⟩
theorem lw_p33 : lw_okq (⟨"SpanLodgeModel", "nextToken", "()V"⟩, 34) := ⟨⟨by decide +kernel, by decide +kernel⟩, List.mem_of_getElem? (i := 910) (by decide +kernel), List.mem_of_getElem? (i := 1054) (by decide +kernel), List.mem_of_getElem? (i := 1055) (by decide +kernel)⟩
theorem lw_p34 : lw_okq (⟨"SpanLodgeModel", "byteAt", "(I)I"⟩, 34) := ⟨⟨by decide +kernel, by decide +kernel⟩, List.mem_of_getElem? (i := 910) (by decide +kernel), List.mem_of_getElem? (i := 1058) (by decide +kernel), List.mem_of_getElem? (i := 1059) (by decide +kernel)⟩
theorem lw_p35 : lw_okq (⟨"SpanLodgeModel", "isWord", "(Ljava/lang/String;)Z"⟩, 34) := ⟨⟨by decide +kernel, by decide +kernel⟩, List.mem_of_getElem? (i := 910) (by decide +kernel), List.mem_of_getElem? (i := 1076) (by decide +kernel), List.mem_of_getElem? (i := 1077) (by decide +kernel)⟩
theorem lw_p36 : lw_okq (⟨"SpanLodgeModel", "require", "(ZI)V"⟩, 34) := ⟨⟨by decide +kernel, by decide +kernel⟩, List.mem_of_getElem? (i := 910) (by decide +kernel), List.mem_of_getElem? (i := 1082) (by decide +kernel), List.mem_of_getElem? (i := 1083) (by decide +kernel)⟩
theorem lw_p37 : lw_okq (⟨"SpanLodgeModel", "advance", "()V"⟩, 34) := ⟨⟨by decide +kernel, by decide +kernel⟩, List.mem_of_getElem? (i := 910) (by decide +kernel), List.mem_of_getElem? (i := 1086) (by decide +kernel), List.mem_of_getElem? (i := 1087) (by decide +kernel)⟩
theorem lw_p38 : lw_okq (⟨"SpanLodgeModel", "isFine", "()Z"⟩, 34) := ⟨⟨by decide +kernel, by decide +kernel⟩, List.mem_of_getElem? (i := 910) (by decide +kernel), List.mem_of_getElem? (i := 1090) (by decide +kernel), List.mem_of_getElem? (i := 1091) (by decide +kernel)⟩
theorem lw_p39 : lw_okq (⟨"SpanLodgeModel", "parseNumber", "(II)I"⟩, 34) := ⟨⟨by decide +kernel, by decide +kernel⟩, List.mem_of_getElem? (i := 910) (by decide +kernel), List.mem_of_getElem? (i := 1094) (by decide +kernel), List.mem_of_getElem? (i := 1095) (by decide +kernel)⟩
theorem lw_p40 : lw_okq (⟨"SpanLodgeModel", "look", "(II)V"⟩, 34) := ⟨⟨by decide +kernel, by decide +kernel⟩, List.mem_of_getElem? (i := 910) (by decide +kernel), List.mem_of_getElem? (i := 1098) (by decide +kernel), List.mem_of_getElem? (i := 1099) (by decide +kernel)⟩
theorem lw_p41 : lw_okq (⟨"SpanLodgeModel", "parseEnd", "()V"⟩, 34) := ⟨⟨by decide +kernel, by decide +kernel⟩, List.mem_of_getElem? (i := 910) (by decide +kernel), List.mem_of_getElem? (i := 1102) (by decide +kernel), List.mem_of_getElem? (i := 1103) (by decide +kernel)⟩
theorem lw_p42 : lw_okq (⟨"SpanLodgeModel", "parseOwner", "()V"⟩, 34) := ⟨⟨by decide +kernel, by decide +kernel⟩, List.mem_of_getElem? (i := 910) (by decide +kernel), List.mem_of_getElem? (i := 1107) (by decide +kernel), List.mem_of_getElem? (i := 1108) (by decide +kernel)⟩
theorem lw_p43 : lw_okq (⟨"SpanLodgeModel", "appendOwner", "(I)I"⟩, 34) := ⟨⟨by decide +kernel, by decide +kernel⟩, List.mem_of_getElem? (i := 910) (by decide +kernel), List.mem_of_getElem? (i := 1111) (by decide +kernel), List.mem_of_getElem? (i := 1112) (by decide +kernel)⟩
theorem lw_p44 : lw_okq (⟨"SpanLodgeModel", "parseBook", "()V"⟩, 34) := ⟨⟨by decide +kernel, by decide +kernel⟩, List.mem_of_getElem? (i := 910) (by decide +kernel), List.mem_of_getElem? (i := 1116) (by decide +kernel), List.mem_of_getElem? (i := 1117) (by decide +kernel)⟩
theorem lw_p45 : lw_okq (⟨"SpanLodgeModel", "openBookings", "(I)I"⟩, 34) := ⟨⟨by decide +kernel, by decide +kernel⟩, List.mem_of_getElem? (i := 910) (by decide +kernel), List.mem_of_getElem? (i := 1120) (by decide +kernel), List.mem_of_getElem? (i := 1121) (by decide +kernel)⟩
theorem lw_p46 : lw_okq (⟨"SpanLodgeModel", "of", "(II)I"⟩, 34) := ⟨⟨by decide +kernel, by decide +kernel⟩, List.mem_of_getElem? (i := 910) (by decide +kernel), List.mem_of_getElem? (i := 1124) (by decide +kernel), List.mem_of_getElem? (i := 1125) (by decide +kernel)⟩
theorem lw_p47 : lw_okq (⟨"SpanLodgeModel", "accept", "(Ljava/lang/String;)Z"⟩, 34) := ⟨⟨by decide +kernel, by decide +kernel⟩, List.mem_of_getElem? (i := 910) (by decide +kernel), List.mem_of_getElem? (i := 1130) (by decide +kernel), List.mem_of_getElem? (i := 1131) (by decide +kernel)⟩
def lw_privs_3 : List (MethodName × Nat) := [(⟨"SpanLodgeModel", "fail", "(I)I"⟩, 34), (⟨"SpanLodgeModel", "nextToken", "()V"⟩, 34), (⟨"SpanLodgeModel", "byteAt", "(I)I"⟩, 34), (⟨"SpanLodgeModel", "isWord", "(Ljava/lang/String;)Z"⟩, 34), (⟨"SpanLodgeModel", "require", "(ZI)V"⟩, 34), (⟨"SpanLodgeModel", "advance", "()V"⟩, 34), (⟨"SpanLodgeModel", "isFine", "()Z"⟩, 34), (⟨"SpanLodgeModel", "parseNumber", "(II)I"⟩, 34), (⟨"SpanLodgeModel", "look", "(II)V"⟩, 34), (⟨"SpanLodgeModel", "parseEnd", "()V"⟩, 34), (⟨"SpanLodgeModel", "parseOwner", "()V"⟩, 34), (⟨"SpanLodgeModel", "appendOwner", "(I)I"⟩, 34), (⟨"SpanLodgeModel", "parseBook", "()V"⟩, 34), (⟨"SpanLodgeModel", "openBookings", "(I)I"⟩, 34), (⟨"SpanLodgeModel", "of", "(II)I"⟩, 34), (⟨"SpanLodgeModel", "accept", "(Ljava/lang/String;)Z"⟩, 34)]
theorem lw_r3 : ∀ q ∈ lw_privs_3, lw_okq q := List.forall_mem_cons.mpr ⟨lw_p32, List.forall_mem_cons.mpr ⟨lw_p33, List.forall_mem_cons.mpr ⟨lw_p34, List.forall_mem_cons.mpr ⟨lw_p35, List.forall_mem_cons.mpr ⟨lw_p36, List.forall_mem_cons.mpr ⟨lw_p37, List.forall_mem_cons.mpr ⟨lw_p38, List.forall_mem_cons.mpr ⟨lw_p39, List.forall_mem_cons.mpr ⟨lw_p40, List.forall_mem_cons.mpr ⟨lw_p41, List.forall_mem_cons.mpr ⟨lw_p42, List.forall_mem_cons.mpr ⟨lw_p43, List.forall_mem_cons.mpr ⟨lw_p44, List.forall_mem_cons.mpr ⟨lw_p45, List.forall_mem_cons.mpr ⟨lw_p46, List.forall_mem_cons.mpr ⟨lw_p47, fun _ h => absurd h List.not_mem_nil⟩⟩⟩⟩⟩⟩⟩⟩⟩⟩⟩⟩⟩⟩⟩⟩
theorem lw_p48 : lw_okq (⟨"SpanLodgeModel", "appendBooking", "(IIII)I"⟩, 34) := ⟨⟨by decide +kernel, by decide +kernel⟩, List.mem_of_getElem? (i := 910) (by decide +kernel), List.mem_of_getElem? (i := 1135) (by decide +kernel), List.mem_of_getElem? (i := 1136) (by decide +kernel)⟩
theorem lw_p49 : lw_okq (⟨"SpanLodgeModel", "put", "(III)V"⟩, 34) := ⟨⟨by decide +kernel, by decide +kernel⟩, List.mem_of_getElem? (i := 910) (by decide +kernel), List.mem_of_getElem? (i := 1139) (by decide +kernel), List.mem_of_getElem? (i := 1140) (by decide +kernel)⟩
theorem lw_p50 : lw_okq (⟨"SpanLodgeModel", "await", "(I)V"⟩, 34) := ⟨⟨by decide +kernel, by decide +kernel⟩, List.mem_of_getElem? (i := 910) (by decide +kernel), List.mem_of_getElem? (i := 1143) (by decide +kernel), List.mem_of_getElem? (i := 1144) (by decide +kernel)⟩
theorem lw_p51 : lw_okq (⟨"SpanLodgeModel", "place", "(I)Z"⟩, 34) := ⟨⟨by decide +kernel, by decide +kernel⟩, List.mem_of_getElem? (i := 910) (by decide +kernel), List.mem_of_getElem? (i := 1147) (by decide +kernel), List.mem_of_getElem? (i := 1148) (by decide +kernel)⟩
theorem lw_p52 : lw_okq (⟨"SpanLodgeModel", "bestTime", "(I)I"⟩, 34) := ⟨⟨by decide +kernel, by decide +kernel⟩, List.mem_of_getElem? (i := 910) (by decide +kernel), List.mem_of_getElem? (i := 1151) (by decide +kernel), List.mem_of_getElem? (i := 1152) (by decide +kernel)⟩
theorem lw_p53 : lw_okq (⟨"SpanLodgeModel", "fitsAt", "(III)Z"⟩, 34) := ⟨⟨by decide +kernel, by decide +kernel⟩, List.mem_of_getElem? (i := 910) (by decide +kernel), List.mem_of_getElem? (i := 1155) (by decide +kernel), List.mem_of_getElem? (i := 1156) (by decide +kernel)⟩
theorem lw_p54 : lw_okq (⟨"SpanLodgeModel", "isTaken", "(IIIIII)Z"⟩, 34) := ⟨⟨by decide +kernel, by decide +kernel⟩, List.mem_of_getElem? (i := 910) (by decide +kernel), List.mem_of_getElem? (i := 1159) (by decide +kernel), List.mem_of_getElem? (i := 1160) (by decide +kernel)⟩
theorem lw_p55 : lw_okq (⟨"SpanLodgeModel", "isLive", "(I)Z"⟩, 34) := ⟨⟨by decide +kernel, by decide +kernel⟩, List.mem_of_getElem? (i := 910) (by decide +kernel), List.mem_of_getElem? (i := 1163) (by decide +kernel), List.mem_of_getElem? (i := 1164) (by decide +kernel)⟩
theorem lw_p56 : lw_okq (⟨"SpanLodgeModel", "settle", "(II)V"⟩, 34) := ⟨⟨by decide +kernel, by decide +kernel⟩, List.mem_of_getElem? (i := 910) (by decide +kernel), List.mem_of_getElem? (i := 1167) (by decide +kernel), List.mem_of_getElem? (i := 1168) (by decide +kernel)⟩
theorem lw_p57 : lw_okq (⟨"SpanLodgeModel", "parseSet", "()V"⟩, 34) := ⟨⟨by decide +kernel, by decide +kernel⟩, List.mem_of_getElem? (i := 910) (by decide +kernel), List.mem_of_getElem? (i := 1171) (by decide +kernel), List.mem_of_getElem? (i := 1172) (by decide +kernel)⟩
theorem lw_p58 : lw_okq (⟨"SpanLodgeModel", "inState", "(I)I"⟩, 34) := ⟨⟨by decide +kernel, by decide +kernel⟩, List.mem_of_getElem? (i := 910) (by decide +kernel), List.mem_of_getElem? (i := 1198) (by decide +kernel), List.mem_of_getElem? (i := 1199) (by decide +kernel)⟩
theorem lw_p59 : lw_okq (⟨"SpanLodgeModel", "bytesAt", "(I)I"⟩, 34) := ⟨⟨by decide +kernel, by decide +kernel⟩, List.mem_of_getElem? (i := 910) (by decide +kernel), List.mem_of_getElem? (i := 1202) (by decide +kernel), List.mem_of_getElem? (i := 1203) (by decide +kernel)⟩
theorem lw_p60 : lw_okq (⟨"SpanLodgeModel", "holderOf", "(II)I"⟩, 34) := ⟨⟨by decide +kernel, by decide +kernel⟩, List.mem_of_getElem? (i := 910) (by decide +kernel), List.mem_of_getElem? (i := 1206) (by decide +kernel), List.mem_of_getElem? (i := 1207) (by decide +kernel)⟩
theorem lw_p61 : lw_okq (⟨"SpanLodgeModel", "hasByte", "(II)Z"⟩, 34) := ⟨⟨by decide +kernel, by decide +kernel⟩, List.mem_of_getElem? (i := 910) (by decide +kernel), List.mem_of_getElem? (i := 1210) (by decide +kernel), List.mem_of_getElem? (i := 1211) (by decide +kernel)⟩
theorem lw_p62 : lw_okq (⟨"SpanLodgeModel", "isOwner", "(I)Z"⟩, 34) := ⟨⟨by decide +kernel, by decide +kernel⟩, List.mem_of_getElem? (i := 910) (by decide +kernel), List.mem_of_getElem? (i := 1219) (by decide +kernel), List.mem_of_getElem? (i := 1220) (by decide +kernel)⟩
theorem lw_p63 : lw_okq (⟨"SpanLodgeModel", "broken", "(I)I"⟩, 34) := ⟨⟨by decide +kernel, by decide +kernel⟩, List.mem_of_getElem? (i := 910) (by decide +kernel), List.mem_of_getElem? (i := 1223) (by decide +kernel), List.mem_of_getElem? (i := 1224) (by decide +kernel)⟩
def lw_privs_4 : List (MethodName × Nat) := [(⟨"SpanLodgeModel", "appendBooking", "(IIII)I"⟩, 34), (⟨"SpanLodgeModel", "put", "(III)V"⟩, 34), (⟨"SpanLodgeModel", "await", "(I)V"⟩, 34), (⟨"SpanLodgeModel", "place", "(I)Z"⟩, 34), (⟨"SpanLodgeModel", "bestTime", "(I)I"⟩, 34), (⟨"SpanLodgeModel", "fitsAt", "(III)Z"⟩, 34), (⟨"SpanLodgeModel", "isTaken", "(IIIIII)Z"⟩, 34), (⟨"SpanLodgeModel", "isLive", "(I)Z"⟩, 34), (⟨"SpanLodgeModel", "settle", "(II)V"⟩, 34), (⟨"SpanLodgeModel", "parseSet", "()V"⟩, 34), (⟨"SpanLodgeModel", "inState", "(I)I"⟩, 34), (⟨"SpanLodgeModel", "bytesAt", "(I)I"⟩, 34), (⟨"SpanLodgeModel", "holderOf", "(II)I"⟩, 34), (⟨"SpanLodgeModel", "hasByte", "(II)Z"⟩, 34), (⟨"SpanLodgeModel", "isOwner", "(I)Z"⟩, 34), (⟨"SpanLodgeModel", "broken", "(I)I"⟩, 34)]
theorem lw_r4 : ∀ q ∈ lw_privs_4, lw_okq q := List.forall_mem_cons.mpr ⟨lw_p48, List.forall_mem_cons.mpr ⟨lw_p49, List.forall_mem_cons.mpr ⟨lw_p50, List.forall_mem_cons.mpr ⟨lw_p51, List.forall_mem_cons.mpr ⟨lw_p52, List.forall_mem_cons.mpr ⟨lw_p53, List.forall_mem_cons.mpr ⟨lw_p54, List.forall_mem_cons.mpr ⟨lw_p55, List.forall_mem_cons.mpr ⟨lw_p56, List.forall_mem_cons.mpr ⟨lw_p57, List.forall_mem_cons.mpr ⟨lw_p58, List.forall_mem_cons.mpr ⟨lw_p59, List.forall_mem_cons.mpr ⟨lw_p60, List.forall_mem_cons.mpr ⟨lw_p61, List.forall_mem_cons.mpr ⟨lw_p62, List.forall_mem_cons.mpr ⟨lw_p63, fun _ h => absurd h List.not_mem_nil⟩⟩⟩⟩⟩⟩⟩⟩⟩⟩⟩⟩⟩⟩⟩⟩
theorem lw_p64 : lw_okq (⟨"SpanLodgeModel", "ofOwner", "(II)I"⟩, 34) := ⟨⟨by decide +kernel, by decide +kernel⟩, List.mem_of_getElem? (i := 910) (by decide +kernel), List.mem_of_getElem? (i := 1227) (by decide +kernel), List.mem_of_getElem? (i := 1228) (by decide +kernel)⟩
theorem lw_p65 : lw_okq (⟨"SpanLodgeModel", "joys", "(I)I"⟩, 34) := ⟨⟨by decide +kernel, by decide +kernel⟩, List.mem_of_getElem? (i := 910) (by decide +kernel), List.mem_of_getElem? (i := 1231) (by decide +kernel), List.mem_of_getElem? (i := 1232) (by decide +kernel)⟩
theorem lw_p66 : lw_okq (⟨"SpanLodgeModel", "joyNow", "(I)I"⟩, 34) := ⟨⟨by decide +kernel, by decide +kernel⟩, List.mem_of_getElem? (i := 910) (by decide +kernel), List.mem_of_getElem? (i := 1235) (by decide +kernel), List.mem_of_getElem? (i := 1236) (by decide +kernel)⟩
theorem lw_p67 : lw_okq (⟨"SpanLodgeModel", "joyOf", "(II)I"⟩, 34) := ⟨⟨by decide +kernel, by decide +kernel⟩, List.mem_of_getElem? (i := 910) (by decide +kernel), List.mem_of_getElem? (i := 1239) (by decide +kernel), List.mem_of_getElem? (i := 1240) (by decide +kernel)⟩
theorem lw_p68 : lw_okq (⟨"SpanLodgeModel", "grow", "(III)V"⟩, 34) := ⟨⟨by decide +kernel, by decide +kernel⟩, List.mem_of_getElem? (i := 910) (by decide +kernel), List.mem_of_getElem? (i := 1253) (by decide +kernel), List.mem_of_getElem? (i := 1254) (by decide +kernel)⟩
theorem lw_p69 : lw_okq (⟨"SpanLodgeModel", "isSpan", "(II)Z"⟩, 34) := ⟨⟨by decide +kernel, by decide +kernel⟩, List.mem_of_getElem? (i := 910) (by decide +kernel), List.mem_of_getElem? (i := 1261) (by decide +kernel), List.mem_of_getElem? (i := 1262) (by decide +kernel)⟩
theorem lw_p70 : lw_okq (⟨"SpanLodgeModel", "isBooking", "(I)Z"⟩, 34) := ⟨⟨by decide +kernel, by decide +kernel⟩, List.mem_of_getElem? (i := 910) (by decide +kernel), List.mem_of_getElem? (i := 1276) (by decide +kernel), List.mem_of_getElem? (i := 1277) (by decide +kernel)⟩
theorem lw_p71 : lw_okq (⟨"SpanLodgeModel", "layOrder", "()V"⟩, 34) := ⟨⟨by decide +kernel, by decide +kernel⟩, List.mem_of_getElem? (i := 910) (by decide +kernel), List.mem_of_getElem? (i := 1284) (by decide +kernel), List.mem_of_getElem? (i := 1285) (by decide +kernel)⟩
theorem lw_p72 : lw_okq (⟨"SpanLodgeModel", "comesAhead", "(II)Z"⟩, 34) := ⟨⟨by decide +kernel, by decide +kernel⟩, List.mem_of_getElem? (i := 910) (by decide +kernel), List.mem_of_getElem? (i := 1288) (by decide +kernel), List.mem_of_getElem? (i := 1289) (by decide +kernel)⟩
theorem lw_p73 : lw_okq (⟨"SpanLodgeModel", "done", "()I"⟩, 34) := ⟨⟨by decide +kernel, by decide +kernel⟩, List.mem_of_getElem? (i := 910) (by decide +kernel), List.mem_of_getElem? (i := 1304) (by decide +kernel), List.mem_of_getElem? (i := 1305) (by decide +kernel)⟩
theorem lw_p74 : lw_okq (⟨"SpanLodgeModel", "placeAll", "()V"⟩, 34) := ⟨⟨by decide +kernel, by decide +kernel⟩, List.mem_of_getElem? (i := 910) (by decide +kernel), List.mem_of_getElem? (i := 1308) (by decide +kernel), List.mem_of_getElem? (i := 1309) (by decide +kernel)⟩
theorem lw_p75 : lw_okq (⟨"SpanLodgeModel", "swapGain", "(II)I"⟩, 34) := ⟨⟨by decide +kernel, by decide +kernel⟩, List.mem_of_getElem? (i := 910) (by decide +kernel), List.mem_of_getElem? (i := 1328) (by decide +kernel), List.mem_of_getElem? (i := 1329) (by decide +kernel)⟩
theorem lw_p76 : lw_okq (⟨"SpanLodgeModel", "makeSwap", "(II)V"⟩, 34) := ⟨⟨by decide +kernel, by decide +kernel⟩, List.mem_of_getElem? (i := 910) (by decide +kernel), List.mem_of_getElem? (i := 1332) (by decide +kernel), List.mem_of_getElem? (i := 1333) (by decide +kernel)⟩
theorem lw_p77 : lw_okq (⟨"SpanLodgeModel", "exchange", "(III)V"⟩, 34) := ⟨⟨by decide +kernel, by decide +kernel⟩, List.mem_of_getElem? (i := 910) (by decide +kernel), List.mem_of_getElem? (i := 1336) (by decide +kernel), List.mem_of_getElem? (i := 1337) (by decide +kernel)⟩
theorem lw_p78 : lw_okq (⟨"SpanLodgeModel", "countBargain", "(II)V"⟩, 34) := ⟨⟨by decide +kernel, by decide +kernel⟩, List.mem_of_getElem? (i := 910) (by decide +kernel), List.mem_of_getElem? (i := 1340) (by decide +kernel), List.mem_of_getElem? (i := 1341) (by decide +kernel)⟩
theorem lw_p79 : lw_okq (⟨"SpanLodgeModel", "buyGain", "(II)I"⟩, 34) := ⟨⟨by decide +kernel, by decide +kernel⟩, List.mem_of_getElem? (i := 910) (by decide +kernel), List.mem_of_getElem? (i := 1348) (by decide +kernel), List.mem_of_getElem? (i := 1349) (by decide +kernel)⟩
def lw_privs_5 : List (MethodName × Nat) := [(⟨"SpanLodgeModel", "ofOwner", "(II)I"⟩, 34), (⟨"SpanLodgeModel", "joys", "(I)I"⟩, 34), (⟨"SpanLodgeModel", "joyNow", "(I)I"⟩, 34), (⟨"SpanLodgeModel", "joyOf", "(II)I"⟩, 34), (⟨"SpanLodgeModel", "grow", "(III)V"⟩, 34), (⟨"SpanLodgeModel", "isSpan", "(II)Z"⟩, 34), (⟨"SpanLodgeModel", "isBooking", "(I)Z"⟩, 34), (⟨"SpanLodgeModel", "layOrder", "()V"⟩, 34), (⟨"SpanLodgeModel", "comesAhead", "(II)Z"⟩, 34), (⟨"SpanLodgeModel", "done", "()I"⟩, 34), (⟨"SpanLodgeModel", "placeAll", "()V"⟩, 34), (⟨"SpanLodgeModel", "swapGain", "(II)I"⟩, 34), (⟨"SpanLodgeModel", "makeSwap", "(II)V"⟩, 34), (⟨"SpanLodgeModel", "exchange", "(III)V"⟩, 34), (⟨"SpanLodgeModel", "countBargain", "(II)V"⟩, 34), (⟨"SpanLodgeModel", "buyGain", "(II)I"⟩, 34)]
theorem lw_r5 : ∀ q ∈ lw_privs_5, lw_okq q := List.forall_mem_cons.mpr ⟨lw_p64, List.forall_mem_cons.mpr ⟨lw_p65, List.forall_mem_cons.mpr ⟨lw_p66, List.forall_mem_cons.mpr ⟨lw_p67, List.forall_mem_cons.mpr ⟨lw_p68, List.forall_mem_cons.mpr ⟨lw_p69, List.forall_mem_cons.mpr ⟨lw_p70, List.forall_mem_cons.mpr ⟨lw_p71, List.forall_mem_cons.mpr ⟨lw_p72, List.forall_mem_cons.mpr ⟨lw_p73, List.forall_mem_cons.mpr ⟨lw_p74, List.forall_mem_cons.mpr ⟨lw_p75, List.forall_mem_cons.mpr ⟨lw_p76, List.forall_mem_cons.mpr ⟨lw_p77, List.forall_mem_cons.mpr ⟨lw_p78, List.forall_mem_cons.mpr ⟨lw_p79, fun _ h => absurd h List.not_mem_nil⟩⟩⟩⟩⟩⟩⟩⟩⟩⟩⟩⟩⟩⟩⟩⟩
theorem lw_p80 : lw_okq (⟨"SpanLodgeModel", "priceOf", "(II)I"⟩, 34) := ⟨⟨by decide +kernel, by decide +kernel⟩, List.mem_of_getElem? (i := 910) (by decide +kernel), List.mem_of_getElem? (i := 1352) (by decide +kernel), List.mem_of_getElem? (i := 1353) (by decide +kernel)⟩
theorem lw_p81 : lw_okq (⟨"SpanLodgeModel", "makeBuyout", "(II)V"⟩, 34) := ⟨⟨by decide +kernel, by decide +kernel⟩, List.mem_of_getElem? (i := 910) (by decide +kernel), List.mem_of_getElem? (i := 1356) (by decide +kernel), List.mem_of_getElem? (i := 1357) (by decide +kernel)⟩
theorem lw_p82 : lw_okq (⟨"SpanLodgeModel", "layBest", "()V"⟩, 34) := ⟨⟨by decide +kernel, by decide +kernel⟩, List.mem_of_getElem? (i := 910) (by decide +kernel), List.mem_of_getElem? (i := 1364) (by decide +kernel), List.mem_of_getElem? (i := 1365) (by decide +kernel)⟩
theorem lw_p83 : lw_okq (⟨"SpanLodgeModel", "compare", "(IIZ)V"⟩, 34) := ⟨⟨by decide +kernel, by decide +kernel⟩, List.mem_of_getElem? (i := 910) (by decide +kernel), List.mem_of_getElem? (i := 1368) (by decide +kernel), List.mem_of_getElem? (i := 1369) (by decide +kernel)⟩
theorem lw_p84 : lw_okq (⟨"SpanLodgeModel", "gainOf", "(II)I"⟩, 34) := ⟨⟨by decide +kernel, by decide +kernel⟩, List.mem_of_getElem? (i := 910) (by decide +kernel), List.mem_of_getElem? (i := 1372) (by decide +kernel), List.mem_of_getElem? (i := 1373) (by decide +kernel)⟩
theorem lw_p85 : lw_okq (⟨"SpanLodgeModel", "passTicks", "(I)V"⟩, 34) := ⟨⟨by decide +kernel, by decide +kernel⟩, List.mem_of_getElem? (i := 910) (by decide +kernel), List.mem_of_getElem? (i := 1381) (by decide +kernel), List.mem_of_getElem? (i := 1382) (by decide +kernel)⟩
theorem lw_p86 : lw_okq (⟨"SpanLodgeModel", "passTick", "()V"⟩, 34) := ⟨⟨by decide +kernel, by decide +kernel⟩, List.mem_of_getElem? (i := 910) (by decide +kernel), List.mem_of_getElem? (i := 1385) (by decide +kernel), List.mem_of_getElem? (i := 1386) (by decide +kernel)⟩
theorem lw_p87 : lw_okq (⟨"SpanLodgeModel", "endHeld", "()V"⟩, 34) := ⟨⟨by decide +kernel, by decide +kernel⟩, List.mem_of_getElem? (i := 910) (by decide +kernel), List.mem_of_getElem? (i := 1389) (by decide +kernel), List.mem_of_getElem? (i := 1390) (by decide +kernel)⟩
theorem lw_p88 : lw_okq (⟨"SpanLodgeModel", "bumpLate", "()V"⟩, 34) := ⟨⟨by decide +kernel, by decide +kernel⟩, List.mem_of_getElem? (i := 910) (by decide +kernel), List.mem_of_getElem? (i := 1393) (by decide +kernel), List.mem_of_getElem? (i := 1394) (by decide +kernel)⟩
theorem lw_p89 : lw_okq (⟨"SpanLodgeModel", "expire", "()V"⟩, 34) := ⟨⟨by decide +kernel, by decide +kernel⟩, List.mem_of_getElem? (i := 910) (by decide +kernel), List.mem_of_getElem? (i := 1397) (by decide +kernel), List.mem_of_getElem? (i := 1398) (by decide +kernel)⟩
theorem lw_p90 : lw_okq (⟨"SpanLodgeModel", "isByte", "(I)Z"⟩, 34) := ⟨⟨by decide +kernel, by decide +kernel⟩, List.mem_of_getElem? (i := 910) (by decide +kernel), List.mem_of_getElem? (i := 1414) (by decide +kernel), List.mem_of_getElem? (i := 1415) (by decide +kernel)⟩
def lw_privs_6 : List (MethodName × Nat) := [(⟨"SpanLodgeModel", "priceOf", "(II)I"⟩, 34), (⟨"SpanLodgeModel", "makeBuyout", "(II)V"⟩, 34), (⟨"SpanLodgeModel", "layBest", "()V"⟩, 34), (⟨"SpanLodgeModel", "compare", "(IIZ)V"⟩, 34), (⟨"SpanLodgeModel", "gainOf", "(II)I"⟩, 34), (⟨"SpanLodgeModel", "passTicks", "(I)V"⟩, 34), (⟨"SpanLodgeModel", "passTick", "()V"⟩, 34), (⟨"SpanLodgeModel", "endHeld", "()V"⟩, 34), (⟨"SpanLodgeModel", "bumpLate", "()V"⟩, 34), (⟨"SpanLodgeModel", "expire", "()V"⟩, 34), (⟨"SpanLodgeModel", "isByte", "(I)Z"⟩, 34)]
theorem lw_r6 : ∀ q ∈ lw_privs_6, lw_okq q := List.forall_mem_cons.mpr ⟨lw_p80, List.forall_mem_cons.mpr ⟨lw_p81, List.forall_mem_cons.mpr ⟨lw_p82, List.forall_mem_cons.mpr ⟨lw_p83, List.forall_mem_cons.mpr ⟨lw_p84, List.forall_mem_cons.mpr ⟨lw_p85, List.forall_mem_cons.mpr ⟨lw_p86, List.forall_mem_cons.mpr ⟨lw_p87, List.forall_mem_cons.mpr ⟨lw_p88, List.forall_mem_cons.mpr ⟨lw_p89, List.forall_mem_cons.mpr ⟨lw_p90, fun _ h => absurd h List.not_mem_nil⟩⟩⟩⟩⟩⟩⟩⟩⟩⟩⟩
def lw_privs : List (MethodName × Nat) := lw_privs_1 ++ (lw_privs_2 ++ (lw_privs_3 ++ (lw_privs_4 ++ (lw_privs_5 ++ (lw_privs_6)))))
def lw_tbl : List Cond := k2_sels lw_privs ++ tables_1
theorem lw_privs_ok : ∀ q ∈ lw_privs, lw_okq q := by
  show ∀ q ∈ lw_privs_1 ++ (lw_privs_2 ++ (lw_privs_3 ++ (lw_privs_4 ++ (lw_privs_5 ++ (lw_privs_6))))), lw_okq q
  exact List.forall_mem_append.mpr ⟨lw_r1, List.forall_mem_append.mpr ⟨lw_r2, List.forall_mem_append.mpr ⟨lw_r3, List.forall_mem_append.mpr ⟨lw_r4, List.forall_mem_append.mpr ⟨lw_r5, lw_r6⟩⟩⟩⟩⟩
/-- the streams that the claim lets the run draw from -/
abbrev lw_cs : List Choice := [Jvm.Choice.named "NaN.bits"]
theorem lw_bits : nanBits ∈ lw_cs := by first | decide | exact List.mem_cons_self | simp [lw_cs, nanBits]

/-! ===== BEGIN words of one list among another's, by their places ===== -/
theorem goodIn_r {big : List Cond} (ws : List Cond) (ps : List Nat) (hp : ws = ps.filterMap (fun i => big[i]?)) (h : ws.all goodWord = true) : GoodIn big ws := by
  intro w hw
  have h1 := List.all_eq_true.mp h w hw
  rw [hp] at hw
  obtain ⟨i, -, hi⟩ := List.mem_filterMap.mp hw
  have hm : w ∈ big := by first | exact List.mem_of_getElem? hi | exact List.getElem?_mem hi
  exact ⟨hm, good_of_word h1⟩
theorem goodIn_app {big a b : List Cond} (ha : GoodIn big a) (hb : GoodIn big b) : GoodIn big (a ++ b) := fun w h => (List.mem_append.mp h).elim (ha w) (hb w)
theorem goodIn_ca {big a b : List Cond} {c : Cond} (ha : GoodIn big (c :: a)) (hb : GoodIn big b) : GoodIn big (c :: (a ++ b)) := fun w h => (List.mem_cons.mp h).elim (fun e => ha w (List.mem_cons.mpr (Or.inl e))) (fun h => (List.mem_append.mp h).elim (fun h => ha w (List.mem_cons.mpr (Or.inr h))) (hb w))
theorem goodIn_sub {big ws : List Cond} (hm : ∀ w ∈ ws, w ∈ big) (h : ws.all goodWord = true) : GoodIn big ws := fun w hw => ⟨hm w hw, good_of_word (List.all_eq_true.mp h w hw)⟩
/-! ===== END ===== -/



/-! ===== BEGIN exceptions that leave a method, and their catching by the caller (launches without stack traces) ===== -/
section VXA
/-! The laws vx_back, vx_callV, vx_callS, vx_callSW, vx_throw0, vx_throwS follow proofs of the library, with one case more: JvmDerived/Free/Laws.lean (Back.of_free), Shelf42/LK1.lean (callV, callS), Shelf/KitTraced.lean (throwNew0V, throwNewS). -/
/-- where a method has thrown q: the class by its name, the cell, what was written, the world -/
def vx_T (XC : String → State → State → Prop) (st : State) (q : Addr) (t : State) (mc ms : Nat) (free : Addr → Prop) : Prop :=
  ∃ (E : String) (ce : Cell) (L : List Loc), XC E st t ∧ t.heap[q]? = some ce ∧ ce.vm = .none ∧ st.vm.findClass E = some ce.cls ∧ st.WarmedH t.vm ∧ st.sameButNew ({ t with vm := st.vm } : State) L mc ms ∧ ∀ z ∈ L, free z.base
def vx_Q (Qc : Array Value → State → Outcome → State → Prop) (XC : String → State → State → Prop) (mc ms : Nat) (free : Addr → Prop) : Array Value → State → Outcome → State → Prop := fun a st o t =>
  (Qc a st o t ∧ ∃ L, FrameEnd st o t L mc ms ∧ ∀ q ∈ L, free q.base) ∨ ∃ q, o = .threw q ∧ vx_T XC st q t mc ms free
/-- a callee that returns or throws -/
def vx_Met (l : Launch) (y : MethodName) (ws : List Cond) (rm : Room) (Pc : Array Value → State → Prop) (Qc : Array Value → State → Outcome → State → Prop) (XC : String → State → State → Prop) (mc ms : Nat) (free : Addr → Prop) : Prop :=
  MetFree l y (headSpec ws rm) Pc (fun _ _ _ _ _ => True) (vx_Q Qc XC mc ms free)
def vx_Post (XC : String → State → State → Prop) (mc ms : Nat) (free : Addr → Prop) : Pt → Array Value → Addr → Pt → Prop := fun A a q B =>
  ∃ (g : JFrame) (mk : MethodId) (t : State) (L : List Loc) (E : String) (ce : Cell), B.U.heap = t.heap ∧ B.U.vm = t.vm ∧ XC E (A.U.calling g mk a) t ∧ t.heap[q]? = some ce ∧ ce.vm = .none ∧ A.U.vm.findClass E = some ce.cls ∧ B.locs = A.locs ++ L ∧ (∀ z ∈ L, free z.base) ∧ B.cells = A.cells + mc ∧ B.slots = A.slots + ms
def vx_Back (l : Launch) (R : Room) (p : Program) (e : Env) (below : List Frame) (s : State) (sargs : Array Value) (y : MethodName) (len W9 : Nat)
    (Pre : Pt → Array Value → Prop) (Post : Pt → Array Value → Option Value → Pt → Prop) (PostX : Pt → Array Value → Addr → Pt → Prop) : Prop :=
  ∀ (m : MethodId) (meth : Method) (c : Code) (A : Pt) (g : JFrame) (ig : Instr) (mk : MethodId) (a : Array Value),
    Stand p l e R s m sargs below meth c A.U A.locs A.cells A.slots → g.method = m → g.locals.size = c.maxLocals → decode c.code g.pc = .ok (ig, len) →
    2 * g.monitorRoom + (g.stack.map fun v => v.category).sum ≤ W9 → A.U.methodNamed? y = some mk → Pre A a →
    (∃ (v : Option Value) (B : Pt), Stand p l e R s m sargs below meth c B.U B.locs B.cells B.slots ∧ Post A a v B ∧
      Steps p.tables e below (doInvoke e (A.U.setTop g) [] mk a).1 (B.U.setTop { g with pc := g.pc + len, stack := v.toList ++ g.stack })) ∨
    (∃ (q : Addr) (B : Pt), Stand p l e R s m sargs below meth c B.U B.locs B.cells B.slots ∧ PostX A a q B ∧
      Steps p.tables e below (doInvoke e (A.U.setTop g) [] mk a).1 ((B.U.setTop g).pushFrame (.throwing q)))
section Payer
variable {l : Launch} {R : Room} {p : Program} {e : Env} {below : List Frame} {s : State} {sargs : Array Value} {y : MethodName} {len W9 : Nat}
theorem vx_back {ws : List Cond} {rm : Room} {Pc : Array Value → State → Prop} {Qc : Array Value → State → Outcome → State → Prop} {XC : String → State → State → Prop} {mc ms : Nat} {free : Addr → Prop} {bytes : ByteArray} {maxL : Nat} {ret : Option FieldType}
    (hM : vx_Met l y ws rm Pc Qc XC mc ms free) (hblind : FrameBlind Pc) (hrc : rm.cells = mc) (hrs : rm.slots = ms)
    (hframes : rm.frames + 1 ≤ R.frames) (hlocals : W9 + (maxL + 11) + rm.locals ≤ R.locals)
    (hws : ∀ w ∈ ws, ∀ a' U, s.WarmedH U.vm → w.before a' U = true) (hcode : Cond.code y bytes maxL ret ∈ ws) (hinit : ∀ a' U, s.WarmedH U.vm → (Cond.initialized y.cls).before a' U = true) :
    vx_Back l R p e below s sargs y len W9 (PreOf R mc ms Pc) (PostOf Qc mc ms free) (vx_Post XC mc ms free) := by
  intro m meth c A g ig mk a X hg hsize hdg hW hn hp
  have h1 : (headSpec ws rm).pre.before a A.U = true := atoms_intro fun w hw => hws w hw _ _ X.warmed
  have h2 : (Cond.code y bytes maxL ret).before a A.U = true := hws _ hcode _ _ X.warmed
  have h3 : (Cond.initialized y.cls).before a A.U = true := hinit _ _ X.warmed
  have h4 : A.cells + (headSpec ws rm).room.cells ≤ R.cells := by rw [show (headSpec ws rm).room.cells = mc from hrc]; exact hp.1
  have h5 : A.slots + (headSpec ws rm).room.slots ≤ R.slots := by rw [show (headSpec ws rm).room.slots = ms from hrs]; exact hp.2.1
  have hPc : Pc a (A.U.calling g mk a) := hblind _ _ _ _ hp.2.2
  obtain ⟨U, Ls, c0, s0⟩ := A
  dsimp only [Pt.U, Pt.locs, Pt.cells, Pt.slots] at h1 h2 h3 h4 h5 X hn hPc ⊢
  obtain ⟨methY, cY, hmY, hcY, -, hlY, -, -, -, -⟩ := Cond.code_spec hn h2
  obtain ⟨kY, hkY, -⟩ := className_of_methodNamed hn
  have hinitY : kY.init = .initialized := Cond.initialized_spec (findClass_of_methodNamed hn) hkY h3
  have h : At U g.method c below := by rw [hg]; exact X.here
  have hlocals9 : W9 + (maxL + 11) + (headSpec ws rm).room.locals ≤ R.locals := hlocals
  have happ : (headSpec ws rm).appliesLoose y e.platform (U.calling g mk a) = true :=
    Spec.appliesLoose_calling (g := g) h hdg hn hkY hinitY
      (X.room_calling (g := g) (R' := (headSpec ws rm).room) hsize hmY hcY hframes (by rw [hlY]; omega) h4 h5) h1
  obtain ⟨mid, hmid⟩ := h.above
  have hfr : (U.setTop g).frames = (.java g :: mid) ++ below := by rw [State.frames_setTop' g h.top, hmid]; rfl
  obtain ⟨o, s₂, hsteps, -, hend, hq⟩ := Steps.callFree hM p X.admits X.cas X.clock (acts := []) hfr happ hPc trivial
  have hq' : vx_Q Qc XC mc ms free a (U.calling g mk a) o s₂ := hq
  rw [State.frames_setTop' g h.top] at hend
  obtain ⟨g₀, hg0⟩ := Option.isSome_iff_exists.mp h.top
  obtain ⟨r, hr⟩ := State.topJava?_eq_some.mp hg0
  have hr' : (({ U with heap := s₂.heap, slotsUsed := s₂.slotsUsed } : State).setVm s₂.vm).frames = .java g₀ :: r := hr
  rcases hq' with ⟨hqc, L, hfe, hL⟩ | ⟨q, rfl, E, ce, L, hx, hce, hcv, hcl, hW₂, hsm, hL⟩
  · obtain ⟨⟨v, rfl⟩, hW₂, e2, q2, q3, q4, q5, q6⟩ := id hfe
    have e3 : s₂ = ({ (U.calling g mk a).setFrames s₂.frames with heap := s₂.heap, slotsUsed := s₂.slotsUsed } : State).setVm s₂.vm := by
      have : s₂ = ({ s₂ with vm := (U.calling g mk a).vm } : State).setVm s₂.vm := rfl
      rw [e2] at this
      exact this
    obtain ⟨c₂, i₂, len₂, hc₂, hd₂, hf₂⟩ := hend
    have hW' : U.WarmedH s₂.vm := hW₂
    have hcc : c₂ = c := by
      have h1 : s₂.code? g.method = U.code? g.method := by
        rw [State.code?_eq, State.code?_eq, hW'.alike.method?]
      exact Option.some.inj (hc₂.symm.trans (h1.trans h.code))
    subst hcc
    have hlen : len₂ = len := by rw [hdg] at hd₂; cases hd₂; rfl
    subst hlen
    have hs₂ : s₂ = (({ U with heap := s₂.heap, slotsUsed := s₂.slotsUsed } : State).setVm s₂.vm).setTop { g with pc := g.pc + len₂, stack := v.toList ++ g.stack } := by
      refine e3.trans ?_
      rw [hf₂, State.calling_eq h.top, State.setFrames_setFrames, State.setTop_of_frames _ hr', hr]
      rfl
    have hsame : U.sameButNew ({ U with heap := s₂.heap, slotsUsed := s₂.slotsUsed } : State) L mc ms := by
      refine ⟨?_, q2, q3, q4, q5, q6⟩
      obtain ⟨t, ht, -⟩ := State.frames_cons hr
      show ({ U with heap := s₂.heap, slotsUsed := s₂.slotsUsed } : State) = { U.setFrames U.frames with heap := s₂.heap, slotsUsed := s₂.slotsUsed }
      rw [State.setFrames_self ht]
    subst hg
    refine Or.inl ⟨v, ⟨(({ U with heap := s₂.heap, slotsUsed := s₂.slotsUsed } : State).setVm s₂.vm), Ls ++ L, c0 + mc, s0 + ms⟩,
      ⟨X.admits, X.cas, X.clock, X.frames, X.room, X.hears, X.method, X.code, (X.here.setHeapUsed s₂.heap s₂.slotsUsed).setVm hW'.alike, X.tail, State.WarmedH.trans X.warmed hW', X.limits, X.bytes, X.same.trans (hsame.setVm s.vm)⟩,
      ⟨g, mk, s₂, L, rfl, rfl, hqc, rfl, hL, rfl, rfl⟩, ?_⟩
    show Steps p.tables e below _ ((({ U with heap := s₂.heap, slotsUsed := s₂.slotsUsed } : State).setVm s₂.vm).setTop { g with pc := g.pc + len₂, stack := v.toList ++ g.stack })
    rw [← hs₂]
    exact hsteps
  · obtain ⟨e2, q2, q3, q4, q5, q6⟩ := id hsm
    have e3 : s₂ = ({ (U.calling g mk a).setFrames s₂.frames with heap := s₂.heap, slotsUsed := s₂.slotsUsed } : State).setVm s₂.vm := by
      have : s₂ = ({ s₂ with vm := (U.calling g mk a).vm } : State).setVm s₂.vm := rfl
      rw [e2] at this
      exact this
    have hf₂ : s₂.frames = .throwing q :: .java g :: U.frames.tail := hend
    have hW' : U.WarmedH s₂.vm := hW₂
    have hs₂ : s₂ = ((({ U with heap := s₂.heap, slotsUsed := s₂.slotsUsed } : State).setVm s₂.vm).setTop g).pushFrame (.throwing q) := by
      refine e3.trans ?_
      rw [hf₂, State.calling_eq h.top, State.setFrames_setFrames, State.pushFrame, State.frames_setTop _ hr', State.setTop_of_frames _ hr', State.setFrames_setFrames, hr]
      rfl
    have hsame : U.sameButNew ({ U with heap := s₂.heap, slotsUsed := s₂.slotsUsed } : State) L mc ms := by
      refine ⟨?_, q2, q3, q4, q5, q6⟩
      obtain ⟨t, ht, -⟩ := State.frames_cons hr
      show ({ U with heap := s₂.heap, slotsUsed := s₂.slotsUsed } : State) = { U.setFrames U.frames with heap := s₂.heap, slotsUsed := s₂.slotsUsed }
      rw [State.setFrames_self ht]
    subst hg
    refine Or.inr ⟨q, ⟨(({ U with heap := s₂.heap, slotsUsed := s₂.slotsUsed } : State).setVm s₂.vm), Ls ++ L, c0 + mc, s0 + ms⟩,
      ⟨X.admits, X.cas, X.clock, X.frames, X.room, X.hears, X.method, X.code, (X.here.setHeapUsed s₂.heap s₂.slotsUsed).setVm hW'.alike, X.tail, State.WarmedH.trans X.warmed hW', X.limits, X.bytes, X.same.trans (hsame.setVm s.vm)⟩,
      ⟨g, mk, s₂, L, E, ce, rfl, rfl, hx, hce, hcv, hcl, rfl, hL, rfl, rfl⟩, ?_⟩
    show Steps p.tables e below _ (((({ U with heap := s₂.heap, slotsUsed := s₂.slotsUsed } : State).setVm s₂.vm).setTop g).pushFrame (.throwing q))
    rw [← hs₂]
    exact hsteps
end Payer
section Calls
variable {p : Program} {l : Launch} {e : Env} {R : Room} {s : State} {m : MethodId} {args : Array Value} {below : List Frame} {meth : Method} {c : Code} {T : State} {locs : List Loc} {cells slots : Nat}
theorem vx_callV (X : Stand p l e R s m args below meth c T locs cells slots) (hexec : p.tables.exec = Jvm.exec) {own C : String} {index : Nat} {y : MethodName} {bytes : ByteArray} {maxL : Nat} {ret : Option FieldType}
    (hown : s.vm.findClass own = some m.cls) (hlink : (Cond.methodLink own index y).before args s = true) (hinst : (Cond.instanceMethod y).before args s = true) (hsel : (Cond.selects C y y).before args s = true)
    (hcode : (Cond.code y bytes maxL ret).before args s = true) (hy : y.cls ≠ "java/lang/invoke/MethodHandle" ∧ y.cls ≠ "java/lang/invoke/VarHandle")
    {W9 : Nat} {Pre : Pt → Array Value → Prop} {Post : Pt → Array Value → Option Value → Pt → Prop} {PostX : Pt → Array Value → Addr → Pt → Prop} (hK : vx_Back l R p e below s args y 3 W9 Pre Post PostX)
    {b : Addr} {cellB : Cell} (hcell : T.heap[b]? = some cellB) (hobj : cellB.vm.isStatics = false) (hcls : s.vm.findClass C = some cellB.cls)
    {g : JFrame} (hg : g.method = m) (hsize : g.locals.size = c.maxLocals) {argsL rest : List Value} (hlen : ∀ sig, parseMethodDescriptor y.desc = some sig → argsL.length = sig.parameters.length)
    (hstack : g.stack = argsL.reverse ++ .ref b :: rest) (hW : 2 * g.monitorRoom + (rest.map fun v => v.category).sum ≤ W9) (hdg : decode c.code g.pc = .ok (.invokevirtual index, 3))
    (hpre : ∀ vm₁, s.WarmedH vm₁ → Pre ⟨T.setVm vm₁, locs, cells, slots⟩ (Value.ref b :: argsL).toArray) :
    (∃ (v : Option Value) (vm₁ : Vm) (B : Pt), s.WarmedH vm₁ ∧ Stand p l e R s m args below meth c B.U B.locs B.cells B.slots ∧ Post ⟨T.setVm vm₁, locs, cells, slots⟩ (Value.ref b :: argsL).toArray v B ∧
      ∀ target, Steps p.tables e below (B.U.setTop { g with pc := g.pc + 3, stack := v.toList ++ rest }) target → Steps p.tables e below (T.setTop g) target) ∨
    (∃ (q : Addr) (vm₁ : Vm) (B : Pt), s.WarmedH vm₁ ∧ Stand p l e R s m args below meth c B.U B.locs B.cells B.slots ∧ PostX ⟨T.setVm vm₁, locs, cells, slots⟩ (Value.ref b :: argsL).toArray q B ∧
      Steps p.tables e below (T.setTop g) ((B.U.setTop { g with stack := rest }).pushFrame (.throwing q))) := by
  obtain ⟨mk, methM, hnamed, hmethM, hstM, habM⟩ := Cond.instanceMethod_spec hinst
  obtain ⟨methM', cM, hmethM', -, -, -, -, -, -, hsigM⟩ := Cond.code_spec hnamed hcode
  cases hmethM.symm.trans hmethM'
  obtain ⟨c2, r2, m2, q1, q2, q3, q4, kP, hkP, hkPi⟩ := Cond.selects_spec hsel
  cases hcls.symm.trans q1
  cases (State.methodFound?_of_named hnamed hy).symm.trans q2
  cases hnamed.symm.trans q3
  have hselP : selectMethod e.platform s.vm cellB.cls mk = .method mk := by rw [Launch.admits_selectMethod X.admits]; exact q4
  obtain ⟨vm₁, X₁, hstep₁⟩ := X.invokevirtual hexec hown hlink hnamed hmethM hstM hkP hkPi hy (a := b) (cell := cellB) hcell
    (fun z h => by rw [h] at hobj; cases hobj) hselP hmethM habM hkP hkPi (g := g) hg (argsL := argsL) (rest := rest) (hlen _ hsigM) hstack hdg
  rcases hK m meth c ⟨T.setVm vm₁, locs, cells, slots⟩ { g with stack := rest } (.invokevirtual index) mk (Value.ref b :: argsL).toArray X₁ hg hsize hdg hW (X₁.named hnamed) (hpre vm₁ X₁.warmed) with ⟨v, B, X', hpost, hsteps⟩ | ⟨q, B, X', hpost, hsteps⟩
  · exact Or.inl ⟨v, vm₁, B, X₁.warmed, X', hpost, fun target h => hstep₁ _ fun acts => by rw [doInvoke_state]; exact hsteps.trans h⟩
  · exact Or.inr ⟨q, vm₁, B, X₁.warmed, X', hpost, hstep₁ _ fun acts => by rw [doInvoke_state]; exact hsteps⟩
theorem vx_callS (X : Stand p l e R s m args below meth c T locs cells slots) (hexec : p.tables.exec = Jvm.exec) {own : String} {index : Nat} {y : MethodName} {bytes : ByteArray} {maxL : Nat} {ret : Option FieldType}
    (hown : s.vm.findClass own = some m.cls) (hlink : (Cond.methodLink own index y).before args s = true) (hstat : (Cond.static y).before args s = true) (hinit : (Cond.initialized y.cls).before args s = true)
    (hcode : (Cond.code y bytes maxL ret).before args s = true) (hy : y.cls ≠ "java/lang/invoke/MethodHandle" ∧ y.cls ≠ "java/lang/invoke/VarHandle")
    {W9 : Nat} {Pre : Pt → Array Value → Prop} {Post : Pt → Array Value → Option Value → Pt → Prop} {PostX : Pt → Array Value → Addr → Pt → Prop} (hK : vx_Back l R p e below s args y 3 W9 Pre Post PostX)
    {g : JFrame} (hg : g.method = m) (hsize : g.locals.size = c.maxLocals) {argsL rest : List Value} (hlen : ∀ sig, parseMethodDescriptor y.desc = some sig → argsL.length = sig.parameters.length)
    (hstack : g.stack = argsL.reverse ++ rest) (hW : 2 * g.monitorRoom + (rest.map fun v => v.category).sum ≤ W9) (hdg : decode c.code g.pc = .ok (.invokestatic index, 3))
    (hpre : ∀ vm₁, s.WarmedH vm₁ → Pre ⟨T.setVm vm₁, locs, cells, slots⟩ argsL.toArray) :
    (∃ (v : Option Value) (vm₁ : Vm) (B : Pt), s.WarmedH vm₁ ∧ Stand p l e R s m args below meth c B.U B.locs B.cells B.slots ∧ Post ⟨T.setVm vm₁, locs, cells, slots⟩ argsL.toArray v B ∧
      ∀ target, Steps p.tables e below (B.U.setTop { g with pc := g.pc + 3, stack := v.toList ++ rest }) target → Steps p.tables e below (T.setTop g) target) ∨
    (∃ (q : Addr) (vm₁ : Vm) (B : Pt), s.WarmedH vm₁ ∧ Stand p l e R s m args below meth c B.U B.locs B.cells B.slots ∧ PostX ⟨T.setVm vm₁, locs, cells, slots⟩ argsL.toArray q B ∧
      Steps p.tables e below (T.setTop g) ((B.U.setTop { g with stack := rest }).pushFrame (.throwing q))) := by
  obtain ⟨mk, hnamed⟩ := Cond.code_named hcode
  obtain ⟨methM, cM, hmethM, -, -, -, -, -, -, hsigM⟩ := Cond.code_spec hnamed hcode
  have hstatic : methM.isStatic = true := Cond.static_spec hnamed hmethM hstat
  obtain ⟨kP, hkP, -⟩ := className_of_methodNamed hnamed
  have hinitP : kP.init = .initialized := Cond.initialized_spec (findClass_of_methodNamed hnamed) hkP hinit
  obtain ⟨vm₁, X₁, hstep₁⟩ := X.invokestatic hexec hown hlink hnamed hmethM hstatic hkP hinitP hy (g := g) hg (argsL := argsL) (rest := rest) (hlen _ hsigM) hstack hdg
  rcases hK m meth c ⟨T.setVm vm₁, locs, cells, slots⟩ { g with stack := rest } (.invokestatic index) mk argsL.toArray X₁ hg hsize hdg hW (X₁.named hnamed) (hpre vm₁ X₁.warmed) with ⟨v, B, X', hpost, hsteps⟩ | ⟨q, B, X', hpost, hsteps⟩
  · exact Or.inl ⟨v, vm₁, B, X₁.warmed, X', hpost, fun target h => hstep₁ _ fun acts => by rw [doInvoke_state]; exact hsteps.trans h⟩
  · exact Or.inr ⟨q, vm₁, B, X₁.warmed, X', hpost, hstep₁ _ fun acts => by rw [doInvoke_state]; exact hsteps⟩
end Calls
theorem vx_cls {s : State} {T : State} {vm₁ : Vm} {E : String} {k : ClassId} (hW : s.WarmedH vm₁) (h : (T.setVm vm₁).vm.findClass E = some k) : s.vm.findClass E = some k := by
  have h1 : vm₁.findClass E = some k := h
  rw [hW.alike.findClass] at h1
  exact h1
/-- the method's frame g, with q thrown over it -/
def vx_W (p : Program) (l : Launch) (e : Env) (R : Room) (s : State) (m : MethodId) (args : Array Value) (below : List Frame) (meth : Method) (c : Code) (H : Heap) (locs : List Loc) (cells slots : Nat) (Q : State → Prop) (g : JFrame) (q : Addr) : Prop :=
  ∀ T : State, T.heap = H → Stand p l e R s m args below meth c T locs cells slots → ∃ t, Steps p.tables e below ((T.setTop g).pushFrame (.throwing q)) t ∧ Q t
def vx_Run (p : Program) (l : Launch) (e : Env) (R : Room) (s : State) (m : MethodId) (args : Array Value) (below : List Frame) (meth : Method) (c : Code) (H : Heap) (locs : List Loc) (cells slots mc ms : Nat) (g : JFrame) (rest : List Value) (Qa : State → Outcome → State → Prop) (XC : String → State → State → Prop) (free : Addr → Prop) : Prop :=
  ∀ T : State, T.heap = H → Stand p l e R s m args below meth c T locs cells slots →
    (∃ (v : Option Value) (st₀ t T' : State) (L : List Loc), st₀.heap = H ∧ Stand p l e R s m args below meth c T' (locs ++ L) (cells + mc) (slots + ms) ∧ (∀ q ∈ L, free q.base) ∧ T'.heap = t.heap ∧ T'.vm = t.vm ∧ Qa st₀ (.returned v) t ∧
      Goes p e below T g T' { g with pc := g.pc + 3, stack := v.toList ++ rest }) ∨
    (∃ (q : Addr) (st₀ t T' : State) (L : List Loc) (E : String) (ce : Cell), st₀.heap = H ∧ Stand p l e R s m args below meth c T' (locs ++ L) (cells + mc) (slots + ms) ∧ (∀ z ∈ L, free z.base) ∧ T'.heap = t.heap ∧ T'.vm = t.vm ∧ XC E st₀ t ∧ t.heap[q]? = some ce ∧ ce.vm = .none ∧ s.vm.findClass E = some ce.cls ∧
      Steps p.tables e below (T.setTop g) ((T'.setTop { g with stack := rest }).pushFrame (.throwing q)))
def vx_X {S : Type} (px : S → Prop) (B : String → S → State → Prop) (A : Nat → Prop) : String → State → State → Prop := fun E st t => ∃ u : S, px u ∧ B E u t ∧ va_F A st t
section Runs
variable {p : Program} {l : Launch} {e : Env} {R : Room} {s : State} {m : MethodId} {args : Array Value} {below : List Frame} {meth : Method} {c : Code} {H : Heap} {locs : List Loc} {cells slots : Nat}
variable {y : MethodName} {bytes cc : ByteArray} {maxL nL mc ms n index : Nat} {ret : Option FieldType} {ws : List Cond} {rm : Room} {Pc : Array Value → State → Prop} {Qc : Array Value → State → Outcome → State → Prop} {XC : String → State → State → Prop} {free : Addr → Prop} {Ts : List Cond} {own C : String} {b : Addr} {As rest : List Value} {g : JFrame}
theorem vx_callBack (cb : CallB R s args own index y bytes maxL ret ws rm mc ms n) (hM : vx_Met l y ws rm Pc Qc XC mc ms free) (hbl : FrameBlind Pc) : vx_Back l R p e below s args y 3 8 (PreOf R mc ms Pc) (PostOf Qc mc ms free) (vx_Post XC mc ms free) := by
  obtain ⟨hrc, hrs, hfr, hlo, hws, hcw, -, hini, -⟩ := cb
  exact vx_back (bytes := bytes) (maxL := maxL) (ret := ret) hM hbl hrc hrs hfr hlo hws hcw (fun a' U hW => word_at hW (Or.inl (by first | rfl | simp [Cond.onTables, Cond.keeps, Cond.steady])) hini)
theorem vx_runV (S : CallFix p m c cc nL s args Ts own) (hM : vx_Met l y ws rm Pc Qc XC mc ms free) (cw : CallW R s args own C index y bytes maxL ret ws rm mc ms n) (hp : PreV s H C b Pc As)
    (hg : g.method = m) (hn : As.length = n) (hsize : g.locals.size = nL) (hstack : g.stack = As.reverse ++ .ref b :: rest) (hW : 2 * g.monitorRoom + (rest.map fun v => v.category).sum ≤ 8) (hdg : decode cc g.pc = .ok (.invokevirtual index, 3)) (hf : cells + mc ≤ R.cells ∧ slots + ms ≤ R.slots) :
    vx_Run p l e R s m args below meth c H locs cells slots mc ms g rest (Qc (Value.ref b :: As).toArray) XC free := by
  have hK : vx_Back l R p e below s args y 3 8 (PreOf R mc ms Pc) (PostOf Qc mc ms free) (vx_Post XC mc ms free) := vx_callBack cw.1 hM hp.1
  obtain ⟨⟨-, -, -, -, -, -, hcode, -, hy, hlen, hl⟩, hin, hse⟩ := cw
  obtain ⟨hx, hb, hml, ho, -⟩ := S
  obtain ⟨-, ⟨cellB, hcB, hoB, hclB⟩, hPc⟩ := hp
  intro T hT X
  rcases vx_callV X hx (C := C) (bytes := bytes) (maxL := maxL) (ret := ret) ho hl hin hse hcode hy hK (by rw [hT]; exact hcB) hoB hclB hg (hsize.trans hml.symm) (argsL := As) (rest := rest) (fun sig h => hn.trans (hlen sig h)) hstack hW (by rw [hb]; exact hdg)
    (fun vm₁ hW₁ => ⟨hf.1, hf.2, hPc (T.setVm vm₁) hT hW₁⟩) with ⟨v, vm₁, ⟨U', l2, c2, s2⟩, hW₁, X', ⟨g', mk, t, L, e1, e2, hq, h1, hL, h2, h3⟩, st⟩ | ⟨q, vm₁, ⟨U', l2, c2, s2⟩, hW₁, X', ⟨g', mk, t, L, E, ce, e1, e2, hq, hce, hcv, hcl, h1, hL, h2, h3⟩, st⟩
  · dsimp only [Pt.U, Pt.locs, Pt.cells, Pt.slots] at X' e1 e2 h1 h2 h3 st
    subst h1; subst h2; subst h3
    exact Or.inl ⟨v, (T.setVm vm₁).calling g' mk (Value.ref b :: As).toArray, t, U', L, hT, X', hL, e1, e2, hq, st⟩
  · dsimp only [Pt.U, Pt.locs, Pt.cells, Pt.slots] at X' e1 e2 h1 h2 h3 st hcl
    subst h1; subst h2; subst h3
    exact Or.inr ⟨q, (T.setVm vm₁).calling g' mk (Value.ref b :: As).toArray, t, U', L, E, ce, hT, X', hL, e1, e2, hq, hce, hcv, vx_cls hW₁ hcl, st⟩
theorem vx_runS (S : CallFix p m c cc nL s args Ts own) (hM : vx_Met l y ws rm Pc Qc XC mc ms free) (cw : CallB R s args own index y bytes maxL ret ws rm mc ms n ∧ (Cond.static y).before args s = true) (hp : PreS s H Pc As)
    (hg : g.method = m) (hn : As.length = n) (hsize : g.locals.size = nL) (hstack : g.stack = As.reverse ++ rest) (hW : 2 * g.monitorRoom + (rest.map fun v => v.category).sum ≤ 8) (hdg : decode cc g.pc = .ok (.invokestatic index, 3)) (hf : cells + mc ≤ R.cells ∧ slots + ms ≤ R.slots) :
    vx_Run p l e R s m args below meth c H locs cells slots mc ms g rest (Qc As.toArray) XC free := by
  have hK : vx_Back l R p e below s args y 3 8 (PreOf R mc ms Pc) (PostOf Qc mc ms free) (vx_Post XC mc ms free) := vx_callBack cw.1 hM hp.1
  obtain ⟨⟨-, -, -, -, -, -, hcode, hini, hy, hlen, hl⟩, hstt⟩ := cw
  obtain ⟨hx, hb, hml, ho, -⟩ := S
  intro T hT X
  rcases vx_callS X hx (bytes := bytes) (maxL := maxL) (ret := ret) ho hl hstt hini hcode hy hK hg (hsize.trans hml.symm) (argsL := As) (rest := rest) (fun sig h => hn.trans (hlen sig h)) hstack hW (by rw [hb]; exact hdg)
    (fun vm₁ hW₁ => ⟨hf.1, hf.2, hp.2 (T.setVm vm₁) hT hW₁⟩) with ⟨v, vm₁, ⟨U', l2, c2, s2⟩, hW₁, X', ⟨g', mk, t, L, e1, e2, hq, h1, hL, h2, h3⟩, st⟩ | ⟨q, vm₁, ⟨U', l2, c2, s2⟩, hW₁, X', ⟨g', mk, t, L, E, ce, e1, e2, hq, hce, hcv, hcl, h1, hL, h2, h3⟩, st⟩
  · dsimp only [Pt.U, Pt.locs, Pt.cells, Pt.slots] at X' e1 e2 h1 h2 h3 st
    subst h1; subst h2; subst h3
    exact Or.inl ⟨v, (T.setVm vm₁).calling g' mk As.toArray, t, U', L, hT, X', hL, e1, e2, hq, st⟩
  · dsimp only [Pt.U, Pt.locs, Pt.cells, Pt.slots] at X' e1 e2 h1 h2 h3 st hcl
    subst h1; subst h2; subst h3
    exact Or.inr ⟨q, (T.setVm vm₁).calling g' mk As.toArray, t, U', L, E, ce, hT, X', hL, e1, e2, hq, hce, hcv, vx_cls hW₁ hcl, st⟩
end Runs
section Rows
variable {p : Program} {l : Launch} {e : Env} {R : Room} {s : State} {m : MethodId} {args : Array Value} {below : List Frame} {meth : Method} {c : Code} {H : Heap} {locs : List Loc} {cells slots : Nat} {Q : State → Prop}
variable {mc ms : Nat} {free : Addr → Prop} {A0 A1 : Nat → Prop} {H0 : Heap} {a : Array Value} {pc : Nat} {ls : Array Slot} {st0 rest : List Value}
theorem vx_keep {st₀ t T' : State} {L : List Loc} (h0 : st₀.heap = H) (e1 : T'.heap = t.heap) (hS : va_S A0 H0 H locs) (hA : ∀ q, q < H.size → A1 q → A0 q) (hf : ∀ q, free q → A0 q) (hL : ∀ q ∈ L, free q.base) (hF : va_F A1 st₀ t) :
    H.size ≤ T'.heap.size ∧ (∀ q : Nat, q < H.size → ¬ A1 q → T'.heap[q]? = H[q]?) ∧ va_S A0 H0 T'.heap (locs ++ L) := by
  obtain ⟨hz, hk⟩ := hF
  rw [h0] at hz hk
  exact ⟨by rw [e1]; exact hz, fun q h1 h2 => by rw [e1]; exact hk q h1 h2,
    ⟨Nat.le_trans hS.1 (by rw [e1]; exact hz), fun q h1 h2 => by rw [e1, hk q (Nat.lt_of_lt_of_le h1 hS.1) (fun z => h2 (hA q (Nat.lt_of_lt_of_le h1 hS.1) z))]; exact hS.2.1 q h1 h2, fun q hq => by
      rcases List.mem_append.mp hq with h | h
      · exact hS.2.2 q h
      · exact hf _ (hL q h)⟩⟩
theorem vx_calli {S SX : Type} {post : Int32 → S → Prop} {px : SX → Prop} {B : S → State → Prop} {BX : String → SX → State → Prop} {AX : Nat → Prop} (hr : vx_Run p l e R s m args below meth c H locs cells slots mc ms (F0 m pc ls st0) rest (va_Qi post B A1 a) (vx_X px BX AX) free) (hS : va_S A0 H0 H locs) (hA : ∀ q, q < H.size → A1 q → A0 q) (hf : ∀ q, free q → A0 q) (hAX : ∀ q, q < H.size → AX q → A0 q)
    (kx : ∀ (E : String) (ce : Cell) (q9 : Addr) (u : SX) (t : State) (H1 : Heap) (locs1 : List Loc), t.heap = H1 → s.vm.Alike t.vm → px u → BX E u t → H.size ≤ H1.size → (∀ q : Nat, q < H.size → ¬ AX q → H1[q]? = H[q]?) → va_S A0 H0 H1 locs1 → H1[q9]? = some ce → ce.vm = .none → s.vm.findClass E = some ce.cls → vx_W p l e R s m args below meth c H1 locs1 (cells + mc) (slots + ms) Q (F0 m pc ls rest) q9)
    (kk : ∀ (r : Int32) (u : S) (t : State) (H1 : Heap) (locs1 : List Loc), t.heap = H1 → s.vm.Alike t.vm → post r u → B u t → H.size ≤ H1.size → (∀ q : Nat, q < H.size → ¬ A1 q → H1[q]? = H[q]?) → va_S A0 H0 H1 locs1 → W p l e R s m args below meth c H1 locs1 (cells + mc) (slots + ms) Q (F0 m (pc + 3) ls (.int r :: rest))) : W p l e R s m args below meth c H locs cells slots Q (F0 m pc ls st0) := by
  intro T hT X
  rcases hr T hT X with ⟨v, st₀, t, T', L, h0, X', hL, e1, e2, ⟨⟨r, u, hv, hp, hb⟩, hF⟩, st⟩ | ⟨q, st₀, t, T', L, E, ce, h0, X', hL, e1, e2, ⟨u, hp, hb, hF⟩, hce, hcv, hcl, st⟩
  · cases hv
    obtain ⟨k1, k2, k3⟩ := vx_keep h0 e1 hS hA hf hL hF
    obtain ⟨t2, a1, b1⟩ := kk r u t T'.heap (locs ++ L) e1.symm (by rw [← e2]; exact X'.warmed.alike) hp hb k1 k2 k3 T' rfl X'
    exact ⟨t2, st t2 a1, b1⟩
  · obtain ⟨k1, k2, k3⟩ := vx_keep h0 e1 hS hAX hf hL hF
    obtain ⟨t2, a1, b1⟩ := kx E ce q u t T'.heap (locs ++ L) e1.symm (by rw [← e2]; exact X'.warmed.alike) hp hb k1 k2 k3 (by rw [e1]; exact hce) hcv hcl T' rfl X'
    exact ⟨t2, st.trans a1, b1⟩
theorem vx_calll {S SX : Type} {post : Int64 → S → Prop} {px : SX → Prop} {B : S → State → Prop} {BX : String → SX → State → Prop} {AX : Nat → Prop} (hr : vx_Run p l e R s m args below meth c H locs cells slots mc ms (F0 m pc ls st0) rest (va_Ql post B A1 a) (vx_X px BX AX) free) (hS : va_S A0 H0 H locs) (hA : ∀ q, q < H.size → A1 q → A0 q) (hf : ∀ q, free q → A0 q) (hAX : ∀ q, q < H.size → AX q → A0 q)
    (kx : ∀ (E : String) (ce : Cell) (q9 : Addr) (u : SX) (t : State) (H1 : Heap) (locs1 : List Loc), t.heap = H1 → s.vm.Alike t.vm → px u → BX E u t → H.size ≤ H1.size → (∀ q : Nat, q < H.size → ¬ AX q → H1[q]? = H[q]?) → va_S A0 H0 H1 locs1 → H1[q9]? = some ce → ce.vm = .none → s.vm.findClass E = some ce.cls → vx_W p l e R s m args below meth c H1 locs1 (cells + mc) (slots + ms) Q (F0 m pc ls rest) q9)
    (kk : ∀ (r : Int64) (u : S) (t : State) (H1 : Heap) (locs1 : List Loc), t.heap = H1 → s.vm.Alike t.vm → post r u → B u t → H.size ≤ H1.size → (∀ q : Nat, q < H.size → ¬ A1 q → H1[q]? = H[q]?) → va_S A0 H0 H1 locs1 → W p l e R s m args below meth c H1 locs1 (cells + mc) (slots + ms) Q (F0 m (pc + 3) ls (.long r :: rest))) : W p l e R s m args below meth c H locs cells slots Q (F0 m pc ls st0) := by
  intro T hT X
  rcases hr T hT X with ⟨v, st₀, t, T', L, h0, X', hL, e1, e2, ⟨⟨r, u, hv, hp, hb⟩, hF⟩, st⟩ | ⟨q, st₀, t, T', L, E, ce, h0, X', hL, e1, e2, ⟨u, hp, hb, hF⟩, hce, hcv, hcl, st⟩
  · cases hv
    obtain ⟨k1, k2, k3⟩ := vx_keep h0 e1 hS hA hf hL hF
    obtain ⟨t2, a1, b1⟩ := kk r u t T'.heap (locs ++ L) e1.symm (by rw [← e2]; exact X'.warmed.alike) hp hb k1 k2 k3 T' rfl X'
    exact ⟨t2, st t2 a1, b1⟩
  · obtain ⟨k1, k2, k3⟩ := vx_keep h0 e1 hS hAX hf hL hF
    obtain ⟨t2, a1, b1⟩ := kx E ce q u t T'.heap (locs ++ L) e1.symm (by rw [← e2]; exact X'.warmed.alike) hp hb k1 k2 k3 (by rw [e1]; exact hce) hcv hcl T' rfl X'
    exact ⟨t2, st.trans a1, b1⟩
theorem vx_callf {S SX : Type} {post : UInt32 → S → Prop} {px : SX → Prop} {B : S → State → Prop} {BX : String → SX → State → Prop} {AX : Nat → Prop} (hr : vx_Run p l e R s m args below meth c H locs cells slots mc ms (F0 m pc ls st0) rest (va_Qf post B A1 a) (vx_X px BX AX) free) (hS : va_S A0 H0 H locs) (hA : ∀ q, q < H.size → A1 q → A0 q) (hf : ∀ q, free q → A0 q) (hAX : ∀ q, q < H.size → AX q → A0 q)
    (kx : ∀ (E : String) (ce : Cell) (q9 : Addr) (u : SX) (t : State) (H1 : Heap) (locs1 : List Loc), t.heap = H1 → s.vm.Alike t.vm → px u → BX E u t → H.size ≤ H1.size → (∀ q : Nat, q < H.size → ¬ AX q → H1[q]? = H[q]?) → va_S A0 H0 H1 locs1 → H1[q9]? = some ce → ce.vm = .none → s.vm.findClass E = some ce.cls → vx_W p l e R s m args below meth c H1 locs1 (cells + mc) (slots + ms) Q (F0 m pc ls rest) q9)
    (kk : ∀ (r : UInt32) (u : S) (t : State) (H1 : Heap) (locs1 : List Loc), t.heap = H1 → s.vm.Alike t.vm → post r u → B u t → H.size ≤ H1.size → (∀ q : Nat, q < H.size → ¬ A1 q → H1[q]? = H[q]?) → va_S A0 H0 H1 locs1 → W p l e R s m args below meth c H1 locs1 (cells + mc) (slots + ms) Q (F0 m (pc + 3) ls (.float r :: rest))) : W p l e R s m args below meth c H locs cells slots Q (F0 m pc ls st0) := by
  intro T hT X
  rcases hr T hT X with ⟨v, st₀, t, T', L, h0, X', hL, e1, e2, ⟨⟨r, u, hv, hp, hb⟩, hF⟩, st⟩ | ⟨q, st₀, t, T', L, E, ce, h0, X', hL, e1, e2, ⟨u, hp, hb, hF⟩, hce, hcv, hcl, st⟩
  · cases hv
    obtain ⟨k1, k2, k3⟩ := vx_keep h0 e1 hS hA hf hL hF
    obtain ⟨t2, a1, b1⟩ := kk r u t T'.heap (locs ++ L) e1.symm (by rw [← e2]; exact X'.warmed.alike) hp hb k1 k2 k3 T' rfl X'
    exact ⟨t2, st t2 a1, b1⟩
  · obtain ⟨k1, k2, k3⟩ := vx_keep h0 e1 hS hAX hf hL hF
    obtain ⟨t2, a1, b1⟩ := kx E ce q u t T'.heap (locs ++ L) e1.symm (by rw [← e2]; exact X'.warmed.alike) hp hb k1 k2 k3 (by rw [e1]; exact hce) hcv hcl T' rfl X'
    exact ⟨t2, st.trans a1, b1⟩
theorem vx_calld {S SX : Type} {post : UInt64 → S → Prop} {px : SX → Prop} {B : S → State → Prop} {BX : String → SX → State → Prop} {AX : Nat → Prop} (hr : vx_Run p l e R s m args below meth c H locs cells slots mc ms (F0 m pc ls st0) rest (va_Qd post B A1 a) (vx_X px BX AX) free) (hS : va_S A0 H0 H locs) (hA : ∀ q, q < H.size → A1 q → A0 q) (hf : ∀ q, free q → A0 q) (hAX : ∀ q, q < H.size → AX q → A0 q)
    (kx : ∀ (E : String) (ce : Cell) (q9 : Addr) (u : SX) (t : State) (H1 : Heap) (locs1 : List Loc), t.heap = H1 → s.vm.Alike t.vm → px u → BX E u t → H.size ≤ H1.size → (∀ q : Nat, q < H.size → ¬ AX q → H1[q]? = H[q]?) → va_S A0 H0 H1 locs1 → H1[q9]? = some ce → ce.vm = .none → s.vm.findClass E = some ce.cls → vx_W p l e R s m args below meth c H1 locs1 (cells + mc) (slots + ms) Q (F0 m pc ls rest) q9)
    (kk : ∀ (r : UInt64) (u : S) (t : State) (H1 : Heap) (locs1 : List Loc), t.heap = H1 → s.vm.Alike t.vm → post r u → B u t → H.size ≤ H1.size → (∀ q : Nat, q < H.size → ¬ A1 q → H1[q]? = H[q]?) → va_S A0 H0 H1 locs1 → W p l e R s m args below meth c H1 locs1 (cells + mc) (slots + ms) Q (F0 m (pc + 3) ls (.double r :: rest))) : W p l e R s m args below meth c H locs cells slots Q (F0 m pc ls st0) := by
  intro T hT X
  rcases hr T hT X with ⟨v, st₀, t, T', L, h0, X', hL, e1, e2, ⟨⟨r, u, hv, hp, hb⟩, hF⟩, st⟩ | ⟨q, st₀, t, T', L, E, ce, h0, X', hL, e1, e2, ⟨u, hp, hb, hF⟩, hce, hcv, hcl, st⟩
  · cases hv
    obtain ⟨k1, k2, k3⟩ := vx_keep h0 e1 hS hA hf hL hF
    obtain ⟨t2, a1, b1⟩ := kk r u t T'.heap (locs ++ L) e1.symm (by rw [← e2]; exact X'.warmed.alike) hp hb k1 k2 k3 T' rfl X'
    exact ⟨t2, st t2 a1, b1⟩
  · obtain ⟨k1, k2, k3⟩ := vx_keep h0 e1 hS hAX hf hL hF
    obtain ⟨t2, a1, b1⟩ := kx E ce q u t T'.heap (locs ++ L) e1.symm (by rw [← e2]; exact X'.warmed.alike) hp hb k1 k2 k3 (by rw [e1]; exact hce) hcv hcl T' rfl X'
    exact ⟨t2, st.trans a1, b1⟩
theorem vx_callv {S SX : Type} {post : S → Prop} {px : SX → Prop} {B : S → State → Prop} {BX : String → SX → State → Prop} {AX : Nat → Prop} (hr : vx_Run p l e R s m args below meth c H locs cells slots mc ms (F0 m pc ls st0) rest (va_Qv post B A1 a) (vx_X px BX AX) free) (hS : va_S A0 H0 H locs) (hA : ∀ q, q < H.size → A1 q → A0 q) (hf : ∀ q, free q → A0 q) (hAX : ∀ q, q < H.size → AX q → A0 q)
    (kx : ∀ (E : String) (ce : Cell) (q9 : Addr) (u : SX) (t : State) (H1 : Heap) (locs1 : List Loc), t.heap = H1 → s.vm.Alike t.vm → px u → BX E u t → H.size ≤ H1.size → (∀ q : Nat, q < H.size → ¬ AX q → H1[q]? = H[q]?) → va_S A0 H0 H1 locs1 → H1[q9]? = some ce → ce.vm = .none → s.vm.findClass E = some ce.cls → vx_W p l e R s m args below meth c H1 locs1 (cells + mc) (slots + ms) Q (F0 m pc ls rest) q9)
    (kk : ∀ (u : S) (t : State) (H1 : Heap) (locs1 : List Loc), t.heap = H1 → s.vm.Alike t.vm → post u → B u t → H.size ≤ H1.size → (∀ q : Nat, q < H.size → ¬ A1 q → H1[q]? = H[q]?) → va_S A0 H0 H1 locs1 → W p l e R s m args below meth c H1 locs1 (cells + mc) (slots + ms) Q (F0 m (pc + 3) ls (rest))) : W p l e R s m args below meth c H locs cells slots Q (F0 m pc ls st0) := by
  intro T hT X
  rcases hr T hT X with ⟨v, st₀, t, T', L, h0, X', hL, e1, e2, ⟨⟨u, hv, hp, hb⟩, hF⟩, st⟩ | ⟨q, st₀, t, T', L, E, ce, h0, X', hL, e1, e2, ⟨u, hp, hb, hF⟩, hce, hcv, hcl, st⟩
  · cases hv
    obtain ⟨k1, k2, k3⟩ := vx_keep h0 e1 hS hA hf hL hF
    obtain ⟨t2, a1, b1⟩ := kk u t T'.heap (locs ++ L) e1.symm (by rw [← e2]; exact X'.warmed.alike) hp hb k1 k2 k3 T' rfl X'
    exact ⟨t2, st t2 a1, b1⟩
  · obtain ⟨k1, k2, k3⟩ := vx_keep h0 e1 hS hAX hf hL hF
    obtain ⟨t2, a1, b1⟩ := kx E ce q u t T'.heap (locs ++ L) e1.symm (by rw [← e2]; exact X'.warmed.alike) hp hb k1 k2 k3 (by rw [e1]; exact hce) hcv hcl T' rfl X'
    exact ⟨t2, st.trans a1, b1⟩
/-- caught by the row x of this method's table; the rows ahead don't take it -/
theorem vx_catch {own name : String} {E : String} {ce : Cell} {q : Addr} (hown : s.vm.findClass own = some m.cls) (pre : List ExceptionTableEntry) (x : ExceptionTableEntry) (suf : List ExceptionTableEntry) (hsplit : c.exceptionTable.toList = pre ++ x :: suf)
    (hpass : ∀ z ∈ pre, covers z pc = false ∨ (z.catchType ≠ 0 ∧ ∃ nm : String, (Cond.classLink own z.catchType nm).before args s = true ∧ va_Nc E nm s)) (hx : covers x pc = true) (h0 : x.catchType ≠ 0)
    (hlink : (Cond.classLink own x.catchType name).before args s = true) (hcast : (Cond.castable E name).before args s = true) (hcell : H[q]? = some ce) (hv : ce.vm = .none) (hcl : s.vm.findClass E = some ce.cls)
    (kk : W p l e R s m args below meth c H locs cells slots Q (F0 m x.handlerPc ls [.ref q])) : vx_W p l e R s m args below meth c H locs cells slots Q (F0 m pc ls rest) q := by
  intro T hT X
  have hpl : e.platform.magicAccessors = ({} : Platform).magicAccessors := by rw [X.admits.platform]
  obtain ⟨c3, c4, hc3, hc4, hasg⟩ := Cond.castable_spec hcast
  cases Option.some.inj (hc3.symm.trans hcl)
  obtain ⟨c5, hc5, hcl5⟩ := Cond.classLink_spec hown hlink e.platform hpl
  cases Option.some.inj (hc4.symm.trans hc5)
  obtain ⟨vm', X', st⟩ := X.thenCaughtThrough q (g := F0 m pc ls rest) rfl (Steps.refl _) (by rw [hT]; exact hcell) (by rw [hv]; rfl) (by obtain ⟨k9, h9, -⟩ := Vm.findClass_spec hcl; exact ⟨k9, h9⟩) pre x suf hsplit
    (fun z hz => by
      rcases hpass z hz with h | ⟨hz0, nm, hl1, hn1⟩
      · exact Or.inl h
      · obtain ⟨c6, hc6, hcl6⟩ := Cond.classLink_spec hown hl1 e.platform hpl
        obtain ⟨a8, b8, h1, h2, h3⟩ := hn1
        cases Option.some.inj (h1.symm.trans hcl)
        cases Option.some.inj (h2.symm.trans hc6)
        exact Or.inr ⟨hz0, _, hcl6, h3⟩) hx (Or.inr ⟨h0, c4, hcl5, hasg⟩)
  obtain ⟨t, a1, b1⟩ := kk (T.setVm vm') hT X'
  exact ⟨t, st.trans a1, b1⟩
end Rows
section Ends
variable {p : Program} {l : Launch} {e : Env} {R : Room} {s : State} {m : MethodId} {args : Array Value} {below : List Frame} {meth : Method} {c : Code} {H : Heap} {locs : List Loc} {cells slots : Nat} {Q : State → Prop}
variable {mc ms : Nat} {free : Addr → Prop} {A0 A1 : Nat → Prop} {H0 : Heap} {a : Array Value} {ls : Array Slot} {st0 rest : List Value}
variable {Qc : Array Value → State → Outcome → State → Prop} {XC : String → State → State → Prop}
/-- what a body that may throw owes at its end -/
def vx_MQ (below : List Frame) (Qc : Array Value → State → Outcome → State → Prop) (XC : String → State → State → Prop) (a : Array Value) (s : State) (mc ms : Nat) (free : Addr → Prop) : State → Prop := fun t =>
  ∃ o, t.status = .running ∧ Ended t below o ∧ vx_Q Qc XC mc ms free a s o t
theorem vx_ret {g : JFrame} {mc ms : Nat} (k : W p l e R s m args below meth c H locs cells slots (MQ below Qc args s mc ms free) g) : W p l e R s m args below meth c H locs cells slots (vx_MQ below Qc XC args s mc ms free) g := by
  intro T hT X
  obtain ⟨t, a1, o, b1, b2, b3, b4⟩ := k T hT X
  exact ⟨t, a1, o, b1, b2, Or.inl ⟨b3, b4⟩⟩
/-- not caught here: it goes on to the caller -/
theorem vx_widen {g : JFrame} {q : Addr} {k n : Nat} (h1 : cells ≤ k) (h2 : slots ≤ n) (kk : vx_W p l e R s m args below meth c H locs k n Q g q) : vx_W p l e R s m args below meth c H locs cells slots Q g q := fun T hT X => kk T hT (stand_widen X h1 h2)
theorem vx_out {pc : Nat} {E : String} {ce : Cell} {q : Addr} {mc ms : Nat} (hout : ∀ x ∈ c.exceptionTable.toList, covers x pc = false) (hlocks : meth.locks = false) (hcell : H[q]? = some ce) (hv : ce.vm = .none) (hcl : s.vm.findClass E = some ce.cls)
    (hx : ∀ t : State, t.heap = H → s.vm.Alike t.vm → XC E s t) (hf : ∀ z ∈ locs, free z.base) (hc : cells ≤ mc) (hs : slots ≤ ms) :
    vx_W p l e R s m args below meth c H locs cells slots (vx_MQ below Qc XC args s mc ms free) (F0 m pc ls rest) q := by
  intro T hT X
  obtain ⟨st1, hrun, hend, hW, hsm⟩ := X.leaveThrown q (g := F0 m pc ls rest) rfl rfl rfl hout hlocks
  have hcell9 : (T.setFrames (.throwing q :: below)).heap[q]? = some ce := by
    show T.heap[q]? = some ce
    rw [hT]; exact hcell
  exact ⟨_, st1, .threw q, hrun, hend, Or.inr ⟨q, rfl, E, ce, locs, hx _ hT hW.alike, hcell9, hv, hcl, hW, hsm.mono hc hs, hf⟩⟩
theorem vx_frame {U : State} {k n : Nat} (h : s.sameButNew ({ U with vm := s.vm } : State) locs k n) : s.heap.size ≤ U.heap.size ∧ ∀ q : Nat, q < s.heap.size → (∀ z ∈ locs, z.base ≠ q) → U.heap[q]? = s.heap[q]? := by
  obtain ⟨-, h2, -, -, -, h6⟩ := h
  refine ⟨h2, fun q hq hz => ?_⟩
  obtain ⟨c9, e1, e2, e3, e4⟩ := h6 q _ (Array.getElem?_eq_getElem hq)
  have hs : c9.slots = (s.heap[q]).slots := Array.ext_getElem? fun i => e4 i fun hm => hz _ hm rfl
  have h9 : c9 = s.heap[q] := by
    rw [hs] at e2
    exact e2
  have e5 : U.heap[q]? = some c9 := e1
  rw [e5, h9, Array.getElem?_eq_getElem hq]
/-- the words of a throw but the four that speak of the heap -/
def vx_no (w : Cond) : Bool := decide (w ≠ .isRef (.static Bundle.tN "UNASSIGNED_STACK" Bundle.steD)) && decide (w ≠ .isRef (.static Bundle.tN "SUPPRESSED_SENTINEL" Bundle.listD)) && decide (w ≠ .laysStatic Bundle.tN "UNASSIGNED_STACK" Bundle.steD) && decide (w ≠ .laysStatic Bundle.tN "SUPPRESSED_SENTINEL" Bundle.listD)
def vx_at0 (own : String) (ic : Nat) (X : String) (names : List String) : List Cond := (Bundle.ownAtoms0 own ic X names).filter vx_no
def vx_atS (own : String) (ic : Nat) (X : String) (names : List String) : List Cond := (Bundle.ownAtoms own ic X names).filter vx_no
/-- a word that the tables alone decide, or a good one -/
def vx_ot (w : Cond) : Bool := w.onTables || goodWord w
theorem vx_ot_at {args a' : Array Value} {s U : State} {w : Cond} (hW : s.WarmedH U.vm) (hvm : s.vm = U.vm) (hg : vx_ot w = true) (h : w.before args s = true) : w.before a' U = true := by
  simp only [vx_ot, Bool.or_eq_true] at hg
  rcases hg with hg | hg
  · exact va_tabs hg hvm h
  · exact word_at hW (good_of_word hg) h
/-- a list's words: the good ones out of the method's own list, the others by premises of their own -/
theorem vx_hat {args : Array Value} {s : State} {L B : List Cond} (h1 : ∀ w ∈ L.filter goodWord, w.before args s = true) (h2 : ∀ w ∈ L.filter (fun w => !goodWord w), w ∈ B) (h3 : ∀ w ∈ B, w.before args s = true) : ∀ w ∈ L, w.before args s = true := by
  intro w hw
  by_cases g : goodWord w = true
  · exact h1 w (List.mem_filter.mpr ⟨hw, g⟩)
  · refine h3 w (h2 w (List.mem_filter.mpr ⟨hw, ?_⟩))
    show (!goodWord w) = true
    cases hgw : goodWord w
    · rfl
    · exact absurd hgw g
theorem vx_c {args : Array Value} {s : State} {w : Cond} {B : List Cond} (h : w.before args s = true) (t : ∀ w ∈ B, w.before args s = true) : ∀ w' ∈ w :: B, w'.before args s = true := fun w' h' => (List.mem_cons.mp h').elim (fun e => by rw [e]; exact h) (t w')
theorem vx_n {args : Array Value} {s : State} : ∀ w ∈ ([] : List Cond), w.before args s = true := fun _ h => nomatch h
theorem vx_own {args : Array Value} {s : State} {L : List Cond} (h1 : ∀ w ∈ L.filter vx_no, w.before args s = true)
    (hU : (Cond.isRef (.static Bundle.tN "UNASSIGNED_STACK" Bundle.steD)).before args s = true) (hN : (Cond.isRef (.static Bundle.tN "SUPPRESSED_SENTINEL" Bundle.listD)).before args s = true)
    (lU : (Cond.laysStatic Bundle.tN "UNASSIGNED_STACK" Bundle.steD).before args s = true) (lN : (Cond.laysStatic Bundle.tN "SUPPRESSED_SENTINEL" Bundle.listD).before args s = true) : ∀ w ∈ L, w.before args s = true := by
  intro w hw
  by_cases e1 : w = .isRef (.static Bundle.tN "UNASSIGNED_STACK" Bundle.steD)
  · rw [e1]; exact hU
  · by_cases e2 : w = .isRef (.static Bundle.tN "SUPPRESSED_SENTINEL" Bundle.listD)
    · rw [e2]; exact hN
    · by_cases e3 : w = .laysStatic Bundle.tN "UNASSIGNED_STACK" Bundle.steD
      · rw [e3]; exact lU
      · by_cases e4 : w = .laysStatic Bundle.tN "SUPPRESSED_SENTINEL" Bundle.listD
        · rw [e4]; exact lN
        · exact h1 w (List.mem_filter.mpr ⟨hw, by unfold vx_no; rw [decide_eq_true e1, decide_eq_true e2, decide_eq_true e3, decide_eq_true e4]; rfl⟩)
/-- where a static field lies, its class's statics cell in H -/
def vx_L (C n d : String) (A : Nat → Prop) (U : State) (H : Heap) : Prop := ∃ (c : ClassId) (k : Class) (i : Nat) (f : Field) (a : Nat) (cell : Cell), U.vm.findClass C = some c ∧ U.fieldFound? C n d = some (c, k, i, f) ∧ f.isStatic = true ∧ k.statics = some a ∧ H[a]? = some cell ∧ cell.vm.isStatics = true ∧ cell.cls = c ∧ f.slot < cell.slots.size ∧ k.staticTypes[f.slot]? = some f.type ∧ ¬ A a
theorem vx_L.moved {C n d : String} {A : Nat → Prop} {u U : State} {H : Heap} (hvm : u.vm.Alike U.vm) (h : vx_L C n d A u H) : vx_L C n d A U H := by
  obtain ⟨c, k, i, f, a, cell, h1, h2, h3, h4, h5, h6, h7, h8, h9, h10⟩ := h
  obtain ⟨k', hi', he⟩ := State.fieldFound?_setVm hvm h2
  exact ⟨c, k', i, f, a, cell, by rw [hvm.findClass]; exact h1, hi', h3, by rw [he]; exact h4, h5, h6, h7, h8, by rw [he]; exact h9, h10⟩
theorem vx_L.kept {C n d : String} {A : Nat → Prop} {U : State} {H H1 : Heap} (h : vx_L C n d A U H) (hq : ∀ a : Nat, a < H.size → ¬ A a → H1[a]? = H[a]?) : vx_L C n d A U H1 := by
  obtain ⟨c, k, i, f, a, cell, h1, h2, h3, h4, h5, h6, h7, h8, h9, h10⟩ := h
  exact ⟨c, k, i, f, a, cell, h1, h2, h3, h4, by rw [hq a (Array.getElem?_eq_some_iff.mp h5).1 h10]; exact h5, h6, h7, h8, h9, h10⟩
theorem vx_L.narrow {C n d : String} {A B : Nat → Prop} {U : State} {H : Heap} (h : vx_L C n d A U H) (hAB : ∀ q, B q → A q) : vx_L C n d B U H := by
  obtain ⟨c, k, i, f, a, cell, h1, h2, h3, h4, h5, h6, h7, h8, h9, h10⟩ := h
  exact ⟨c, k, i, f, a, cell, h1, h2, h3, h4, h5, h6, h7, h8, h9, fun z => h10 (hAB _ z)⟩
theorem vx_L.word {C n d : String} {A : Nat → Prop} {s : State} {args : Array Value} (h : vx_L C n d A s s.heap) : (Cond.laysStatic C n d).before args s = true := by
  obtain ⟨c, k, i, f, a, cell, h1, h2, h3, h4, h5, h6, h7, h8, h9, -⟩ := h
  show (Cond.laysStatic C n d).holds args s none s [] = true
  exact Cond.laysStatic_of h1 h2 h3 h4 h5 h6 h7 h8 h9
/-- .. and what it holds: null or some reference -/
def vx_Zq (C n d : String) (A : Nat → Prop) (U : State) (H : Heap) : Prop := va_Zq C n d A U H ∧ vx_L C n d A U H
theorem vx_Zq.moved {C n d : String} {A : Nat → Prop} {u U : State} {H : Heap} (hvm : u.vm.Alike U.vm) (h : vx_Zq C n d A u H) : vx_Zq C n d A U H := ⟨va_Zq.moved hvm h.1, vx_L.moved hvm h.2⟩
theorem vx_Zq.kept {C n d : String} {A : Nat → Prop} {U : State} {H H1 : Heap} (h : vx_Zq C n d A U H) (hq : ∀ a : Nat, a < H.size → ¬ A a → H1[a]? = H[a]?) : vx_Zq C n d A U H1 := ⟨va_Zq.kept h.1 hq, vx_L.kept h.2 hq⟩
theorem vx_Zq.narrow {C n d : String} {A B : Nat → Prop} {U : State} {H : Heap} (h : vx_Zq C n d A U H) (hAB : ∀ q, B q → A q) : vx_Zq C n d B U H := ⟨va_Zq.narrow h.1 hAB, vx_L.narrow h.2 hAB⟩
theorem vx_Zqof {args : Array Value} {s : State} {C n d : String} {A : Nat → Prop} (hl : (Cond.laysStatic C n d).before args s = true) (hini : (Cond.initialized C).before args s = true) (h : (Cond.isRef (.static C n d)).before args s = true) (hA : ∀ a : Nat, a < s.heap.size → ¬ A a) : vx_Zq C n d A s s.heap := by
  refine ⟨va_Zqof hl hini h hA, ?_⟩
  obtain ⟨c, k, i, f, a, cell, h1, h2, h3, h4, h5, h6, h7, h8, h9⟩ := Cond.laysStatic_spec hl
  exact ⟨c, k, i, f, a, cell, h1, h2, h3, h4, h5, h6, h7, h8, h9, hA a (Array.getElem?_eq_some_iff.mp h5).1⟩
theorem vx_isRef {C n d : String} {v : Value} {A : Nat → Prop} {s : State} {args : Array Value} (h : va_Z C n d v A s s.heap) (hv : v.isRef = true) : (Cond.isRef (.static C n d)).before args s = true := by
  obtain ⟨cf, kf, fi, f, a, cell, h1, h2, h3, h4, h5, h6, h7, -⟩ := h
  have he : (Term.static C n d).eval args s none [] s = some v := by
    simp [Term.eval, State.fieldNamed?, h1, h2, h4, h5, h6, h7]
  simp only [Cond.before, Cond.holds, Cond.value, he]
  cases v <;> simp_all [Value.isRef]
theorem vx_isRefq {C n d : String} {A : Nat → Prop} {s : State} {args : Array Value} (h : va_Zq C n d A s s.heap) : (Cond.isRef (.static C n d)).before args s = true := by
  rcases h with h | ⟨t, h⟩
  · exact vx_isRef h rfl
  · exact vx_isRef h rfl
/-- the same frame, seen from here: as if the method were called anew in this heap -/
theorem vx_rebase {T : State} (X : Stand p l e R s m args below meth c T locs cells slots) {R' : Room} (hf : R'.frames ≤ R.frames) (hl : R'.locals ≤ R.locals) (hc : cells + R'.cells ≤ R.cells) (hs : slots + R'.slots ≤ R.slots) :
    Stand p l e R' ((T.setVm s.vm).setFrames (.invoking m args :: below)) m args below meth c T [] 0 0 := by
  have htop : (T.setVm s.vm).topJava?.isSome := X.here.top
  have hF : ((T.setVm s.vm).setFrames (.invoking m args :: below)).frames = .invoking m args :: below := State.frames_setFrames _ (State.cur_lt_of_top htop)
  obtain ⟨g₀, hg0⟩ := Option.isSome_iff_exists.mp htop
  obtain ⟨r, hr⟩ := State.topJava?_eq_some.mp hg0
  have hl9 : e.platform.stackLimits (T.setVm s.vm).me = e.platform.stackLimits s.me := X.limits
  have hb9 : (T.setVm s.vm).me.stackBytes = s.me.stackBytes := X.bytes
  refine ⟨X.admits, X.cas, X.clock, hF, ?_, X.hears, X.method, X.code, X.here, X.tail, X.warmed, ?_, ?_, ?_⟩
  · have h := X.room
    have hU : ((T.setVm s.vm).setFrames (.invoking m args :: below)).localsInUse = s.localsInUse := by
      rw [State.localsInUse_invoking hF (meth := meth) (c := c) X.method X.code, State.localsInUse_invoking X.frames X.method X.code]
    simp only [State.hasRoom, Bool.and_eq_true, decide_eq_true_eq] at h ⊢
    obtain ⟨⟨⟨⟨h1, h2, h3, h4, h5, h6⟩, h7⟩, h8⟩, h9⟩ := h
    rw [X.frames, List.length_cons] at h2 h3
    have q1 := X.heapSize
    have q2 := X.used
    simp only [hF, hU, List.length_cons, State.stackLimits_setFrames, State.stackBytes_setFrames, hl9, hb9]
    refine ⟨⟨⟨⟨by omega, by omega, by omega, by omega, by omega, h6⟩, ?_⟩, ?_⟩, X.book⟩
    · show T.heap.size + R'.cells ≤ e.platform.maxCells
      omega
    · show T.slotsUsed + R'.slots ≤ e.platform.maxSlots
      omega
  · rw [State.stackLimits_setFrames]; rfl
  · rw [State.stackBytes_setFrames]; rfl
  · refine ⟨?_, Nat.le_refl _, Nat.le_refl _, ?_, ?_, fun a c9 h9 => ⟨c9, h9, rfl, rfl, fun _ _ => rfl⟩⟩
    · obtain ⟨t, ht, -⟩ := State.frames_cons hr
      show T.setVm s.vm = { ((T.setVm s.vm).setFrames (.invoking m args :: below)).setFrames (T.setVm s.vm).frames with heap := T.heap, slotsUsed := T.slotsUsed }
      rw [State.setFrames_setFrames, State.setFrames_self ht]
      rfl
    · show T.slotsUsed = T.slotsUsed + ((T.heap.toList.drop T.heap.size).map (·.slots.size)).sum
      rw [List.drop_eq_nil_of_le (Nat.le_of_eq Array.length_toList)]
      rfl
    · show ((T.heap.toList.drop T.heap.size).map (·.slots.size)).sum ≤ 0
      rw [List.drop_eq_nil_of_le (Nat.le_of_eq Array.length_toList)]
      exact Nat.le_refl _
/-- 'throw new E()': new; dup; invokespecial; athrow -/
theorem vx_throw0 {cc : ByteArray} {pc : Nat} (hexec : p.tables.exec = Jvm.exec) (hb : c.code = cc) (hl : l.stackTraces = false) {own cls : String} {names : List String} {ik ic mc ms : Nat} {A : Nat → Prop}
    (hown : s.vm.findClass own = some m.cls) (hcls : Bundle.fit cls = true) (hnames : ∀ n ∈ names, Bundle.fit n = true)
    (hk : (Cond.classLink own ik cls).before args s = true) (hini : (Cond.initialized cls).before args s = true) (hat : ∀ w ∈ vx_at0 own ic cls names, w.before args s = true)
    (hgood : ∀ w ∈ Cond.classLink own ik cls :: Cond.initialized cls :: vx_at0 own ic cls names, vx_ot w = true)
    (hU : vx_Zq Bundle.tN "UNASSIGNED_STACK" Bundle.steD A s s.heap) (hN : vx_Zq Bundle.tN "SUPPRESSED_SENTINEL" Bundle.listD A s s.heap) (hS : va_S A s.heap H locs) (hsize : ls.size = c.maxLocals)
    (d0 : decode cc pc = .ok (.new ik, 3)) (d3 : decode cc (pc + 3) = .ok (.dup, 1)) (d4 : decode cc (pc + 4) = .ok (.invokespecial ic, 3)) (d7 : decode cc (pc + 7) = .ok (.athrow, 1))
    (hout : ∀ x ∈ c.exceptionTable.toList, covers x (pc + 7) = false)
    (hRframes : names.length + 3 < R.frames) (hRlocals : (rest.map fun v => v.category).sum + (13 * (names.length + 1) + 42) ≤ R.locals) (hRcells : cells + 1 ≤ R.cells) (hRslots : slots + 6 ≤ R.slots) (hlocks : meth.locks = false)
    (hx : ∀ t : State, s.vm.Alike t.vm → H.size ≤ t.heap.size → (∀ q : Nat, q < H.size → t.heap[q]? = H[q]?) → XC cls s t)
    (hf : ∀ z ∈ locs, free z.base) (hc : cells + 1 ≤ mc) (hs : slots + 6 ≤ ms) :
    W p l e R s m args below meth c H locs cells slots (vx_MQ below Qc XC args s mc ms free) (F0 m pc ls rest) := by
  intro T hT X
  have htr : e.platform.stackTraces = false := (show e.platform.stackTraces = l.stackTraces by rw [X.admits.platform]).trans hl
  have Y := vx_rebase X (R' := { frames := R.frames, locals := R.locals, cells := 1, slots := 6 }) (Nat.le_refl _) (Nat.le_refl _) hRcells hRslots
  obtain ⟨s', hA⟩ : ∃ z, z = (T.setVm s.vm).setFrames (.invoking m args :: below) := ⟨_, rfl⟩
  rw [← hA] at Y
  have hvm : s'.vm = s.vm := by rw [hA]; rfl
  have hhp : s'.heap = H := by rw [hA]; exact hT
  have hW0 : s.WarmedH s'.vm := by rw [hvm]; exact State.WarmedH.refl s
  have hat' : ∀ w ∈ vx_at0 own ic cls names, w.before args s' = true := fun w hw => vx_ot_at hW0 hvm.symm (hgood w (List.mem_cons_of_mem _ (List.mem_cons_of_mem _ hw))) (hat w hw)
  have hk' : (Cond.classLink own ik cls).before args s' = true := vx_ot_at hW0 hvm.symm (hgood _ List.mem_cons_self) hk
  have hini' : (Cond.initialized cls).before args s' = true := vx_ot_at hW0 hvm.symm (hgood _ (List.mem_cons_of_mem _ List.mem_cons_self)) hini
  have hU' : vx_Zq Bundle.tN "UNASSIGNED_STACK" Bundle.steD A s' s'.heap := by rw [hhp]; exact vx_Zq.moved hW0.alike (hU.kept hS.2.1)
  have hN' : vx_Zq Bundle.tN "SUPPRESSED_SENTINEL" Bundle.listD A s' s'.heap := by rw [hhp]; exact vx_Zq.moved hW0.alike (hN.kept hS.2.1)
  have h : ∀ w ∈ Bundle.ownAtoms0 own ic cls names, w.before args s' = true := vx_own hat' (vx_isRefq hU'.1) (vx_isRefq hN'.1) hU'.2.word hN'.2.word
  have hown' : s'.vm.findClass own = some m.cls := by rw [hvm]; exact hown
  have hins : (Cond.instantiable cls 6).before args s' = true := h _ (by simp [Bundle.ownAtoms0])
  obtain ⟨vm₁, cX, kX, hfX, hkX, -, -, X₁, st1⟩ := Y.newCold hexec (own := own) (C := cls) (index := ik) (n := 6) hown' hk' hins hini'
    (g := F0 m pc ls rest) rfl (by rw [hb]; exact d0) (Nat.le_refl _) (Nat.le_refl _)
  generalize hT1 : (T.setVm vm₁).pushCell { cls := cX, slots := kX.instanceTypes.map defaultValue, vm := .none } = T1 at X₁ st1
  have hcat : (Value.ref T.heap.size).category = 1 := rfl
  have hcellA : T1.heap[T.heap.size]? = some (freshCell cX kX) := by rw [← hT1]; exact State.heap_pushCell_size _ _
  have d3' : decode c.code (pc + 3) = .ok (.dup, 1) := by rw [hb]; exact d3
  obtain ⟨U, hsteps, hrun, hend, hW, hsame, ce, hce, hO⟩ := X₁.ctorThrow0 hexec htr (own := own) (cls := cls) (names := names) (ic := ic) hown' hcls hnames h (fun x hx => nomatch hx) hfX hkX hcellA (by rw [hhp, hT]; exact Nat.le_refl _)
    (g := { method := m, pc := pc + 4, locals := ls, stack := .ref T.heap.size :: .ref T.heap.size :: rest, locked := none }) rfl hsize rfl rfl (rest := rest) rfl
    (by rw [hb]; exact d4) (by rw [hb]; exact d7) hout hRframes (by simp only [List.map_cons, List.sum_cons, hcat]; omega) hlocks
  obtain ⟨f1, f2⟩ := vx_frame hsame
  rw [hhp] at f1 f2
  have hWs : s.WarmedH U.vm := State.WarmedH.trans hW0 hW
  have hcl : s.vm.findClass cls = some ce.cls := by
    have h9 := hO.cls
    rw [hvm] at h9
    exact h9
  have hall : s.sameButNew ({ U with vm := s.vm } : State) locs mc ms := by
    subst hA
    obtain ⟨e1, e2⟩ := hsame
    rw [State.setFrames_setFrames] at e1
    have h2 : (T.setVm s.vm).sameButNew ({ U with vm := s.vm } : State) [] (0 + 1) (0 + 6) := ⟨e1, e2⟩
    have h3 := X.same.trans h2
    rw [List.append_nil] at h3
    exact h3.mono hc hs
  refine ⟨U, ?_, .threw T.heap.size, hrun, hend, Or.inr ⟨T.heap.size, rfl, cls, ce, locs, hx U hWs.alike f1 (fun q hq => f2 q hq (fun z hz => nomatch hz)), hce, hO.vm, hcl, hWs, hall, hf⟩⟩
  refine st1 _ ?_
  show Steps p.tables e below (T1.setTop { method := m, pc := pc + 3, locals := ls, stack := .ref T.heap.size :: rest, locked := none }) _
  jvm_step X₁.here [X₁.here.top, hexec, d3', Value.category]
  exact hsteps
/-- 'throw new E("text")': new; dup; ldc; invokespecial; athrow -/
theorem vx_throwS {cc : ByteArray} {pc : Nat} (hexec : p.tables.exec = Jvm.exec) (hb : c.code = cc) (hl : l.stackTraces = false) {own cls text : String} {names : List String} {ik is ic mc ms sa : Nat} {A : Nat → Prop}
    (hown : s.vm.findClass own = some m.cls) (hcls : Bundle.fit cls = true) (hnames : ∀ n ∈ names, Bundle.fit n = true)
    (hk : (Cond.classLink own ik cls).before args s = true) (hini : (Cond.initialized cls).before args s = true) (hstr : vk_R own is text sa s) (hat : ∀ w ∈ vx_atS own ic cls names, w.before args s = true)
    (hgood : ∀ w ∈ Cond.classLink own ik cls :: Cond.initialized cls :: vx_atS own ic cls names, vx_ot w = true)
    (hU : vx_Zq Bundle.tN "UNASSIGNED_STACK" Bundle.steD A s s.heap) (hN : vx_Zq Bundle.tN "SUPPRESSED_SENTINEL" Bundle.listD A s s.heap) (hS : va_S A s.heap H locs) (hsize : ls.size = c.maxLocals)
    (d0 : decode cc pc = .ok (.new ik, 3)) (d3 : decode cc (pc + 3) = .ok (.dup, 1)) (d4 : decode cc (pc + 4) = .ok (.ldc is, 2)) (d6 : decode cc (pc + 6) = .ok (.invokespecial ic, 3)) (d9 : decode cc (pc + 9) = .ok (.athrow, 1))
    (hout : ∀ x ∈ c.exceptionTable.toList, covers x (pc + 9) = false)
    (hRframes : names.length + 3 < R.frames) (hRlocals : (rest.map fun v => v.category).sum + (13 * (names.length + 1) + 43) ≤ R.locals) (hRcells : cells + 1 ≤ R.cells) (hRslots : slots + 6 ≤ R.slots) (hlocks : meth.locks = false)
    (hx : ∀ t : State, s.vm.Alike t.vm → H.size ≤ t.heap.size → (∀ q : Nat, q < H.size → t.heap[q]? = H[q]?) → XC cls s t)
    (hf : ∀ z ∈ locs, free z.base) (hc : cells + 1 ≤ mc) (hs : slots + 6 ≤ ms) :
    W p l e R s m args below meth c H locs cells slots (vx_MQ below Qc XC args s mc ms free) (F0 m pc ls rest) := by
  intro T hT X
  have htr : e.platform.stackTraces = false := (show e.platform.stackTraces = l.stackTraces by rw [X.admits.platform]).trans hl
  have Y := vx_rebase X (R' := { frames := R.frames, locals := R.locals, cells := 1, slots := 6 }) (Nat.le_refl _) (Nat.le_refl _) hRcells hRslots
  obtain ⟨s', hA⟩ : ∃ z, z = (T.setVm s.vm).setFrames (.invoking m args :: below) := ⟨_, rfl⟩
  rw [← hA] at Y
  have hvm : s'.vm = s.vm := by rw [hA]; rfl
  have hhp : s'.heap = H := by rw [hA]; exact hT
  have hW0 : s.WarmedH s'.vm := by rw [hvm]; exact State.WarmedH.refl s
  have hat' : ∀ w ∈ vx_atS own ic cls names, w.before args s' = true := fun w hw => vx_ot_at hW0 hvm.symm (hgood w (List.mem_cons_of_mem _ (List.mem_cons_of_mem _ hw))) (hat w hw)
  have hk' : (Cond.classLink own ik cls).before args s' = true := vx_ot_at hW0 hvm.symm (hgood _ List.mem_cons_self) hk
  have hini' : (Cond.initialized cls).before args s' = true := vx_ot_at hW0 hvm.symm (hgood _ (List.mem_cons_of_mem _ List.mem_cons_self)) hini
  have hU' : vx_Zq Bundle.tN "UNASSIGNED_STACK" Bundle.steD A s' s'.heap := by rw [hhp]; exact vx_Zq.moved hW0.alike (hU.kept hS.2.1)
  have hN' : vx_Zq Bundle.tN "SUPPRESSED_SENTINEL" Bundle.listD A s' s'.heap := by rw [hhp]; exact vx_Zq.moved hW0.alike (hN.kept hS.2.1)
  have h : ∀ w ∈ Bundle.ownAtoms own ic cls names, w.before args s' = true := vx_own hat' (vx_isRefq hU'.1) (vx_isRefq hN'.1) hU'.2.word hN'.2.word
  have hown' : s'.vm.findClass own = some m.cls := by rw [hvm]; exact hown
  have hins : (Cond.instantiable cls 6).before args s' = true := h _ (by simp [Bundle.ownAtoms])
  obtain ⟨vm₁, cX, kX, hfX, hkX, -, -, X₁, st1⟩ := Y.newCold hexec (own := own) (C := cls) (index := ik) (n := 6) hown' hk' hins hini'
    (g := F0 m pc ls rest) rfl (by rw [hb]; exact d0) (Nat.le_refl _) (Nat.le_refl _)
  generalize hT1 : (T.setVm vm₁).pushCell { cls := cX, slots := kX.instanceTypes.map defaultValue, vm := .none } = T1 at X₁ st1
  have hcat : (Value.ref T.heap.size).category = 1 := rfl
  have hcellA : T1.heap[T.heap.size]? = some (freshCell cX kX) := by rw [← hT1]; exact State.heap_pushCell_size _ _
  have d3' : decode c.code (pc + 3) = .ok (.dup, 1) := by rw [hb]; exact d3
  have d4' : decode c.code (pc + 4) = .ok (.ldc is, 2) := by rw [hb]; exact d4
  have hstr' : vk_R own is text sa s' := vk_R.warm hW0 hstr
  obtain ⟨U, hsteps, hrun, hend, hW, hsame, ce, hce, hO⟩ := X₁.ctorThrowS hexec htr (own := own) (cls := cls) (names := names) (ic := ic) hown' hcls hnames h (fun x hx => nomatch hx) hfX hkX hcellA (by rw [hhp, hT]; exact Nat.le_refl _) (msg := .ref sa) rfl
    (g := { method := m, pc := pc + 6, locals := ls, stack := .ref sa :: .ref T.heap.size :: .ref T.heap.size :: rest, locked := none }) rfl hsize rfl rfl (rest := rest) rfl
    (by rw [hb]; exact d6) (by rw [hb]; exact d9) hout hRframes (by simp only [List.map_cons, List.sum_cons, hcat]; omega) hlocks
  obtain ⟨f1, f2⟩ := vx_frame hsame
  rw [hhp] at f1 f2
  have hWs : s.WarmedH U.vm := State.WarmedH.trans hW0 hW
  have hcl : s.vm.findClass cls = some ce.cls := by
    have h9 := hO.cls
    rw [hvm] at h9
    exact h9
  have hall : s.sameButNew ({ U with vm := s.vm } : State) locs mc ms := by
    subst hA
    obtain ⟨e1, e2⟩ := hsame
    rw [State.setFrames_setFrames] at e1
    have h2 : (T.setVm s.vm).sameButNew ({ U with vm := s.vm } : State) [] (0 + 1) (0 + 6) := ⟨e1, e2⟩
    have h3 := X.same.trans h2
    rw [List.append_nil] at h3
    exact h3.mono hc hs
  refine ⟨U, ?_, .threw T.heap.size, hrun, hend, Or.inr ⟨T.heap.size, rfl, cls, ce, locs, hx U hWs.alike f1 (fun q hq => f2 q hq (fun z hz => nomatch hz)), hce, hO.vm, hcl, hWs, hall, hf⟩⟩
  refine st1 _ ?_
  show Steps p.tables e below (T1.setTop { method := m, pc := pc + 3, locals := ls, stack := .ref T.heap.size :: rest, locked := none }) _
  jvm_step X₁.here [X₁.here.top, hexec, d3', Value.category]
  exact X₁.ldcString hexec (own := own) (text := text) (index := is) (a := sa) hown' hstr'.1 hstr'.2
    (g := { method := m, pc := pc + 4, locals := ls, stack := .ref T.heap.size :: .ref T.heap.size :: rest, locked := none }) rfl d4' _ hsteps
/-- 'throw new E("text")', the text by a wide index -/
theorem vx_throwSW {cc : ByteArray} {pc : Nat} (hexec : p.tables.exec = Jvm.exec) (hb : c.code = cc) (hl : l.stackTraces = false) {own cls text : String} {names : List String} {ik is ic mc ms sa : Nat} {A : Nat → Prop}
    (hown : s.vm.findClass own = some m.cls) (hcls : Bundle.fit cls = true) (hnames : ∀ n ∈ names, Bundle.fit n = true)
    (hk : (Cond.classLink own ik cls).before args s = true) (hini : (Cond.initialized cls).before args s = true) (hstr : vk_R own is text sa s) (hat : ∀ w ∈ vx_atS own ic cls names, w.before args s = true)
    (hgood : ∀ w ∈ Cond.classLink own ik cls :: Cond.initialized cls :: vx_atS own ic cls names, vx_ot w = true)
    (hU : vx_Zq Bundle.tN "UNASSIGNED_STACK" Bundle.steD A s s.heap) (hN : vx_Zq Bundle.tN "SUPPRESSED_SENTINEL" Bundle.listD A s s.heap) (hS : va_S A s.heap H locs) (hsize : ls.size = c.maxLocals)
    (d0 : decode cc pc = .ok (.new ik, 3)) (d3 : decode cc (pc + 3) = .ok (.dup, 1)) (d4 : decode cc (pc + 4) = .ok (.ldc_w is, 3)) (d7 : decode cc (pc + 7) = .ok (.invokespecial ic, 3)) (d10 : decode cc (pc + 10) = .ok (.athrow, 1))
    (hout : ∀ x ∈ c.exceptionTable.toList, covers x (pc + 10) = false)
    (hRframes : names.length + 3 < R.frames) (hRlocals : (rest.map fun v => v.category).sum + (13 * (names.length + 1) + 43) ≤ R.locals) (hRcells : cells + 1 ≤ R.cells) (hRslots : slots + 6 ≤ R.slots) (hlocks : meth.locks = false)
    (hx : ∀ t : State, s.vm.Alike t.vm → H.size ≤ t.heap.size → (∀ q : Nat, q < H.size → t.heap[q]? = H[q]?) → XC cls s t)
    (hf : ∀ z ∈ locs, free z.base) (hc : cells + 1 ≤ mc) (hs : slots + 6 ≤ ms) :
    W p l e R s m args below meth c H locs cells slots (vx_MQ below Qc XC args s mc ms free) (F0 m pc ls rest) := by
  intro T hT X
  have htr : e.platform.stackTraces = false := (show e.platform.stackTraces = l.stackTraces by rw [X.admits.platform]).trans hl
  have Y := vx_rebase X (R' := { frames := R.frames, locals := R.locals, cells := 1, slots := 6 }) (Nat.le_refl _) (Nat.le_refl _) hRcells hRslots
  obtain ⟨s', hA⟩ : ∃ z, z = (T.setVm s.vm).setFrames (.invoking m args :: below) := ⟨_, rfl⟩
  rw [← hA] at Y
  have hvm : s'.vm = s.vm := by rw [hA]; rfl
  have hhp : s'.heap = H := by rw [hA]; exact hT
  have hW0 : s.WarmedH s'.vm := by rw [hvm]; exact State.WarmedH.refl s
  have hat' : ∀ w ∈ vx_atS own ic cls names, w.before args s' = true := fun w hw => vx_ot_at hW0 hvm.symm (hgood w (List.mem_cons_of_mem _ (List.mem_cons_of_mem _ hw))) (hat w hw)
  have hk' : (Cond.classLink own ik cls).before args s' = true := vx_ot_at hW0 hvm.symm (hgood _ List.mem_cons_self) hk
  have hini' : (Cond.initialized cls).before args s' = true := vx_ot_at hW0 hvm.symm (hgood _ (List.mem_cons_of_mem _ List.mem_cons_self)) hini
  have hU' : vx_Zq Bundle.tN "UNASSIGNED_STACK" Bundle.steD A s' s'.heap := by rw [hhp]; exact vx_Zq.moved hW0.alike (hU.kept hS.2.1)
  have hN' : vx_Zq Bundle.tN "SUPPRESSED_SENTINEL" Bundle.listD A s' s'.heap := by rw [hhp]; exact vx_Zq.moved hW0.alike (hN.kept hS.2.1)
  have h : ∀ w ∈ Bundle.ownAtoms own ic cls names, w.before args s' = true := vx_own hat' (vx_isRefq hU'.1) (vx_isRefq hN'.1) hU'.2.word hN'.2.word
  have hown' : s'.vm.findClass own = some m.cls := by rw [hvm]; exact hown
  have hins : (Cond.instantiable cls 6).before args s' = true := h _ (by simp [Bundle.ownAtoms])
  obtain ⟨vm₁, cX, kX, hfX, hkX, -, -, X₁, st1⟩ := Y.newCold hexec (own := own) (C := cls) (index := ik) (n := 6) hown' hk' hins hini'
    (g := F0 m pc ls rest) rfl (by rw [hb]; exact d0) (Nat.le_refl _) (Nat.le_refl _)
  generalize hT1 : (T.setVm vm₁).pushCell { cls := cX, slots := kX.instanceTypes.map defaultValue, vm := .none } = T1 at X₁ st1
  have hcat : (Value.ref T.heap.size).category = 1 := rfl
  have hcellA : T1.heap[T.heap.size]? = some (freshCell cX kX) := by rw [← hT1]; exact State.heap_pushCell_size _ _
  have d3' : decode c.code (pc + 3) = .ok (.dup, 1) := by rw [hb]; exact d3
  have d4' : decode c.code (pc + 4) = .ok (.ldc_w is, 3) := by rw [hb]; exact d4
  have hstr' : vk_R own is text sa s' := vk_R.warm hW0 hstr
  obtain ⟨U, hsteps, hrun, hend, hW, hsame, ce, hce, hO⟩ := X₁.ctorThrowS hexec htr (own := own) (cls := cls) (names := names) (ic := ic) hown' hcls hnames h (fun x hx => nomatch hx) hfX hkX hcellA (by rw [hhp, hT]; exact Nat.le_refl _) (msg := .ref sa) rfl
    (g := { method := m, pc := pc + 7, locals := ls, stack := .ref sa :: .ref T.heap.size :: .ref T.heap.size :: rest, locked := none }) rfl hsize rfl rfl (rest := rest) rfl
    (by rw [hb]; exact d7) (by rw [hb]; exact d10) hout hRframes (by simp only [List.map_cons, List.sum_cons, hcat]; omega) hlocks
  obtain ⟨f1, f2⟩ := vx_frame hsame
  rw [hhp] at f1 f2
  have hWs : s.WarmedH U.vm := State.WarmedH.trans hW0 hW
  have hcl : s.vm.findClass cls = some ce.cls := by
    have h9 := hO.cls
    rw [hvm] at h9
    exact h9
  have hall : s.sameButNew ({ U with vm := s.vm } : State) locs mc ms := by
    subst hA
    obtain ⟨e1, e2⟩ := hsame
    rw [State.setFrames_setFrames] at e1
    have h2 : (T.setVm s.vm).sameButNew ({ U with vm := s.vm } : State) [] (0 + 1) (0 + 6) := ⟨e1, e2⟩
    have h3 := X.same.trans h2
    rw [List.append_nil] at h3
    exact h3.mono hc hs
  refine ⟨U, ?_, .threw T.heap.size, hrun, hend, Or.inr ⟨T.heap.size, rfl, cls, ce, locs, hx U hWs.alike f1 (fun q hq => f2 q hq (fun z hz => nomatch hz)), hce, hO.vm, hcl, hWs, hall, hf⟩⟩
  refine st1 _ ?_
  show Steps p.tables e below (T1.setTop { method := m, pc := pc + 3, locals := ls, stack := .ref T.heap.size :: rest, locked := none }) _
  jvm_step X₁.here [X₁.here.top, hexec, d3', Value.category]
  exact X₁.ldcStringW hexec (own := own) (text := text) (index := is) (a := sa) hown' hstr'.1 hstr'.2
    (g := { method := m, pc := pc + 4, locals := ls, stack := .ref T.heap.size :: .ref T.heap.size :: rest, locked := none }) rfl d4' _ hsteps
end Ends
section Bodies
variable {l : Launch}
theorem vx_ofW {y : MethodName} {ws ws' : List Cond} {rm : Room} {Pc : Array Value → State → Prop} {Qc : Array Value → State → Outcome → State → Prop} {XC : String → State → State → Prop} {mc ms : Nat} {free : Addr → Prop} {cc : ByteArray} {maxL : Nat} {ret : Option FieldType}
    (hy : plainName y.cls = true) (hw : ws = Cond.code y cc maxL ret :: ws')
    (body : ∀ p e s m args below meth c s₁, BodyLoose p l y (headSpec ws rm) cc maxL ret e s m args below meth c s₁ → c.maxLocals = maxL → (∀ x ∈ c.exceptionTable.toList, False) → Pc args s →
      W p l e (headSpec ws rm).room s m args below meth c s.heap [] 0 0 (vx_MQ below Qc XC args s mc ms free) (entryFrame m args maxL)) : vx_Met l y ws rm Pc Qc XC mc ms free := by
  refine MetFree.of_bodyS (code := cc) (maxLocals := maxL) (ret := ret) hy ?_ ?_
  · intro args s m h hn
    obtain ⟨meth, c, h1, h2, h3, h4, h5, h6, -, -⟩ := Cond.code_spec hn (atoms_spec (ws := ws) h _ (by rw [hw]; exact List.mem_cons_self))
    exact ⟨meth, c, h1, h2, h3, h4, h5, h6⟩
  · intro p e s m args below meth c s₁ B hml hP _
    have hh0 : s₁.heap = s.heap := by rw [B.state]; rfl
    have ht : ∀ x ∈ c.exceptionTable.toList, False := by
      obtain ⟨meth9, c9, h1, h2, -, -, -, -, h7, -⟩ := Cond.code_spec B.named (atoms_spec (ws := ws) B.pre _ (by rw [hw]; exact List.mem_cons_self))
      cases Option.some.inj (h1.symm.trans B.method)
      cases Option.some.inj (h2.symm.trans (Stand.of_body B).code)
      intro x hx
      rw [Array.isEmpty_iff.mp h7] at hx
      cases hx
    obtain ⟨t, a1, o, b1, b2, b3⟩ := body p e s m args below meth c s₁ B hml ht hP s₁ hh0 (Stand.of_body B)
    exact ⟨t, o, a1, b1, b2, b3⟩
/-- the table of a body with handlers -/
theorem vx_table {p : Program} {x y : MethodName} {S : Spec} {cc bytes : ByteArray} {maxL maxL' : Nat} {ret ret' : Option FieldType} {e : Env} {s s₁ : State} {m : MethodId} {args : Array Value} {below : List Frame} {meth : Method} {c : Code} {hh : List (Nat × Nat × Nat × Nat)}
    (B : BodyLoose p l y S cc maxL ret e s m args below meth c s₁) (h : (Cond.codeWith y bytes maxL' ret' hh).before args s = true) : c.exceptionTable.toList = tableOf hh := by
  obtain ⟨m9, meth9, c9, hn9, h1, h2, -, -, h6, -⟩ := Cond.codeWith_spec h
  cases Option.some.inj (hn9.symm.trans B.named)
  cases Option.some.inj (h1.symm.trans B.method)
  cases Option.some.inj (h2.symm.trans (Stand.of_body B).code)
  rw [← h6, table_eq]
end Bodies
end VXA
/-! ===== END ===== -/
/-! ===== BEGIN a static call of a method with an exception table ===== -/
section VXS
variable {p : Program} {l : Launch} {e : Env} {R : Room} {s : State} {m : MethodId} {args : Array Value} {below : List Frame} {meth : Method} {c : Code} {T : State} {H : Heap} {locs : List Loc} {cells slots : Nat}
abbrev vx_CSW (R : Room) (s : State) (args : Array Value) (own : String) (index : Nat) (y : MethodName) (bytes : ByteArray) (maxL : Nat) (ret : Option FieldType) (hh : List (Nat × Nat × Nat × Nat)) (ws : List Cond) (rm : Room) (mc ms n : Nat) : Prop :=
  (rm.cells = mc ∧ rm.slots = ms ∧ rm.frames + 1 ≤ R.frames ∧ 8 + (maxL + 11) + rm.locals ≤ R.locals ∧ (∀ w ∈ ws, ∀ (a' : Array Value) (U : State), s.WarmedH U.vm → w.before a' U = true) ∧ Cond.codeWith y bytes maxL ret hh ∈ ws) ∧
  (Cond.codeWith y bytes maxL ret hh).before args s = true ∧ (Cond.initialized y.cls).before args s = true ∧ (y.cls ≠ "java/lang/invoke/MethodHandle" ∧ y.cls ≠ "java/lang/invoke/VarHandle") ∧
  (∀ sig, parseMethodDescriptor y.desc = some sig → n = sig.parameters.length) ∧ (Cond.methodLink own index y).before args s = true ∧ (Cond.static y).before args s = true
theorem vx_cwSW {own : String} {index maxL mc ms : Nat} {y : MethodName} {bytes : ByteArray} {ret : Option FieldType} {hh : List (Nat × Nat × Nat × Nat)} {Ts ws ws' : List Cond} {rm : Room} (n : Nat) (ht : ∀ w ∈ Ts, w.before args s = true) (hT : GoodIn Ts (va_wsS own index y ws)) (hw : ws = Cond.codeWith y bytes maxL ret hh :: ws') (hrc : rm.cells = mc) (hrs : rm.slots = ms)
    (hd : y.cls ≠ "java/lang/invoke/MethodHandle" ∧ y.cls ≠ "java/lang/invoke/VarHandle" ∧ (parseMethodDescriptor y.desc).map (fun d => d.parameters.length) = some n) (hR : rm.frames + 1 ≤ R.frames ∧ 8 + (maxL + 11) + rm.locals ≤ R.locals) :
    vx_CSW R s args own index y bytes maxL ret hh ws rm mc ms n := by
  have ok : ∀ w ∈ va_wsS own index y ws, w.before args s = true := fun w h => ht w (hT w h).1
  have hG : GoodIn Ts ws := fun w h => hT w (by unfold va_wsS; exact List.mem_append_right _ h)
  have hc : Cond.codeWith y bytes maxL ret hh ∈ ws := by rw [hw]; exact List.mem_cons_self
  refine ⟨⟨hrc, hrs, hR.1, hR.2, pay_in ht hG, hc⟩, ht _ (hG _ hc).1, ok _ (by simp [va_wsS]), ⟨hd.1, hd.2.1⟩, fun sig h => ?_, ok _ (by simp [va_wsS]), ok _ (by simp [va_wsS])⟩
  have h2 := hd.2.2
  rw [h] at h2
  exact (Option.some.inj h2).symm
theorem vx_callSW (X : Stand p l e R s m args below meth c T locs cells slots) (hexec : p.tables.exec = Jvm.exec) {own : String} {index : Nat} {y : MethodName} {bytes : ByteArray} {maxL : Nat} {ret : Option FieldType} {hh : List (Nat × Nat × Nat × Nat)}
    (hown : s.vm.findClass own = some m.cls) (hlink : (Cond.methodLink own index y).before args s = true) (hstat : (Cond.static y).before args s = true) (hinit : (Cond.initialized y.cls).before args s = true)
    (hcode : (Cond.codeWith y bytes maxL ret hh).before args s = true) (hy : y.cls ≠ "java/lang/invoke/MethodHandle" ∧ y.cls ≠ "java/lang/invoke/VarHandle")
    {W9 : Nat} {Pre : Pt → Array Value → Prop} {Post : Pt → Array Value → Option Value → Pt → Prop} (hK : Back l R p e below s args y 3 W9 Pre Post)
    {g : JFrame} (hg : g.method = m) (hsize : g.locals.size = c.maxLocals) {argsL rest : List Value} (hlen : ∀ sig, parseMethodDescriptor y.desc = some sig → argsL.length = sig.parameters.length)
    (hstack : g.stack = argsL.reverse ++ rest) (hW : 2 * g.monitorRoom + (rest.map fun v => v.category).sum ≤ W9) (hdg : decode c.code g.pc = .ok (.invokestatic index, 3))
    (hpre : ∀ vm₁, s.WarmedH vm₁ → Pre ⟨T.setVm vm₁, locs, cells, slots⟩ argsL.toArray) :
    ∃ (v : Option Value) (vm₁ : Vm) (B : Pt), s.WarmedH vm₁ ∧ Stand p l e R s m args below meth c B.U B.locs B.cells B.slots ∧ Post ⟨T.setVm vm₁, locs, cells, slots⟩ argsL.toArray v B ∧
      ∀ target, Steps p.tables e below (B.U.setTop { g with pc := g.pc + 3, stack := v.toList ++ rest }) target → Steps p.tables e below (T.setTop g) target := by
  obtain ⟨mk, methM, cM, hnamed, hmethM, -, -, -, -, -, -, hsigM⟩ := Cond.codeWith_spec hcode
  have hstatic : methM.isStatic = true := Cond.static_spec hnamed hmethM hstat
  obtain ⟨kP, hkP, -⟩ := className_of_methodNamed hnamed
  have hinitP : kP.init = .initialized := Cond.initialized_spec (findClass_of_methodNamed hnamed) hkP hinit
  obtain ⟨vm₁, X₁, hstep₁⟩ := X.invokestatic hexec hown hlink hnamed hmethM hstatic hkP hinitP hy (g := g) hg (argsL := argsL) (rest := rest) (hlen _ hsigM) hstack hdg
  obtain ⟨v, B, X', hpost, hsteps⟩ := hK m meth c ⟨T.setVm vm₁, locs, cells, slots⟩ { g with stack := rest } (.invokestatic index) mk argsL.toArray X₁ hg hsize hdg hW (X₁.named hnamed) (hpre vm₁ X₁.warmed)
  exact ⟨v, vm₁, B, X₁.warmed, X', hpost, fun target h => hstep₁ _ fun acts => by rw [doInvoke_state]; exact hsteps.trans h⟩
theorem vx_runSW {y : MethodName} {bytes cc : ByteArray} {maxL nL mc ms n index : Nat} {ret : Option FieldType} {hh : List (Nat × Nat × Nat × Nat)} {ws : List Cond} {rm : Room} {Pc : Array Value → State → Prop} {Qc : Array Value → State → Outcome → State → Prop} {free : Addr → Prop} {Ts : List Cond} {own : String} {As rest : List Value} {g : JFrame}
    (S : CallFix p m c cc nL s args Ts own) (hM : Met l y ws rm Pc Qc mc ms free) (cw : vx_CSW R s args own index y bytes maxL ret hh ws rm mc ms n) (hp : PreS s H Pc As)
    (hg : g.method = m) (hn : As.length = n) (hsize : g.locals.size = nL) (hstack : g.stack = As.reverse ++ rest) (hW : 2 * g.monitorRoom + (rest.map fun v => v.category).sum ≤ 8) (hdg : decode cc g.pc = .ok (.invokestatic index, 3)) (hf : cells + mc ≤ R.cells ∧ slots + ms ≤ R.slots) :
    va_Run p l e R s m args below meth c H locs cells slots mc ms g rest (Qc As.toArray) (free) := by
  obtain ⟨⟨hrc, hrs, hfr, hlo, hws, hcw⟩, hcode, hini, hy, hlen, hl, hstt⟩ := cw
  have hK : Back l R p e below s args y 3 8 (PreOf R mc ms Pc) (PostOf Qc mc ms free) := va_backW (hh := hh) (bytes := bytes) (maxL := maxL) (ret := ret) hM hp.1 hrc hrs hfr hlo hws hcw (fun a' U hW => word_at hW (Or.inl (by first | rfl | simp [Cond.onTables, Cond.keeps, Cond.steady])) hini)
  obtain ⟨hx, hb, hml, ho, -⟩ := S
  intro T hT X
  obtain ⟨v, vm₁, ⟨U', l2, c2, s2⟩, hW₁, X', ⟨g', mk, t, L, e1, e2, hq, h1, hL, h2, h3⟩, st⟩ := vx_callSW X hx (hh := hh) (bytes := bytes) (maxL := maxL) (ret := ret) ho hl hstt hini hcode hy hK hg (hsize.trans hml.symm) (argsL := As) (rest := rest) (fun sig h => hn.trans (hlen sig h)) hstack hW (by rw [hb]; exact hdg)
    (fun vm₁ hW₁ => ⟨hf.1, hf.2, hp.2 (T.setVm vm₁) hT hW₁⟩)
  dsimp only [Pt.U, Pt.locs, Pt.cells, Pt.slots] at X' e1 e2 h1 h2 h3 st
  subst h1; subst h2; subst h3
  exact ⟨v, (T.setVm vm₁).calling g' mk As.toArray, t, U', L, hT, X', hL, e1, e2, hq, st⟩
/-- not caught here, past rows that name other classes: it goes on to the caller -/
theorem vx_outP {p : Program} {l : Launch} {e : Env} {R : Room} {s : State} {m : MethodId} {args : Array Value} {below : List Frame} {meth : Method} {c : Code} {H : Heap} {locs : List Loc} {cells slots : Nat} {free : Addr → Prop} {ls : Array Slot} {rest : List Value} {Qc : Array Value → State → Outcome → State → Prop} {XC : String → State → State → Prop}
    {pc : Nat} {own E : String} {ce : Cell} {q : Addr} {mc ms : Nat} (hown : s.vm.findClass own = some m.cls) (hlocks : meth.locks = false)
    (hpass : ∀ z ∈ c.exceptionTable.toList, covers z pc = false ∨ (z.catchType ≠ 0 ∧ ∃ nm : String, (Cond.classLink own z.catchType nm).before args s = true ∧ va_Nc E nm s)) (hcell : H[q]? = some ce) (hv : ce.vm = .none) (hcl : s.vm.findClass E = some ce.cls)
    (hx : ∀ t : State, t.heap = H → s.vm.Alike t.vm → XC E s t) (hf : ∀ z ∈ locs, free z.base) (hc : cells ≤ mc) (hs : slots ≤ ms) :
    vx_W p l e R s m args below meth c H locs cells slots (vx_MQ below Qc XC args s mc ms free) (F0 m pc ls rest) q := by
  intro T hT X
  have hpl : e.platform.magicAccessors = ({} : Platform).magicAccessors := by rw [X.admits.platform]
  obtain ⟨vm', hW', X', st⟩ := X.outThrough hlocks q (g := F0 m pc ls rest) rfl rfl rfl (cell := ce) (by rw [hT]; exact hcell) (by rw [hv]; rfl)
    (by obtain ⟨k9, h9, -⟩ := Vm.findClass_spec hcl; exact ⟨k9, h9⟩) (fun z hz => by
      rcases hpass z hz with h | ⟨hz0, nm, hl1, hn1⟩
      · exact Or.inl h
      · obtain ⟨c6, hc6, hcl6⟩ := Cond.classLink_spec hown hl1 e.platform hpl
        obtain ⟨a8, b8, h1, h2, h3⟩ := hn1
        cases Option.some.inj (h1.symm.trans hcl)
        cases Option.some.inj (h2.symm.trans hc6)
        exact Or.inr ⟨hz0, _, hcl6, h3⟩)
  obtain ⟨g₀, hfr⟩ := X'.frames_eq
  have hcell9 : ((T.setVm vm').setFrames (.throwing q :: below)).heap[q]? = some ce := by
    show T.heap[q]? = some ce
    rw [hT]; exact hcell
  have hend : Ended ((T.setVm vm').setFrames (.throwing q :: below)) below (.threw q) := State.frames_setFrames _ (State.cur_lt_of_frames hfr)
  refine ⟨(T.setVm vm').setFrames (.throwing q :: below), ?_, .threw q, X'.here.running, hend, Or.inr ⟨q, rfl, E, ce, locs, hx _ hT (X'.ends _).1.alike, hcell9, hv, hcl, (X'.ends _).1, (X'.ends _).2.mono hc hs, hf⟩⟩
  rw [X.pushThrowing_eq]
  exact st
/-- a thing of a world lies in the heap -/
theorem vx_lt {D : va_G} {cl : List vw_C} {ws : va_W} {H1 : Heap} (h : va_P D cl ws H1) {k : Nat} {q : Nat × va_E} (hk : ws[k]? = some q) : q.1 < H1.size := (h k q hk).lt
end VXS
/-! ===== END ===== -/
/-! ===== BEGIN methods with a table of their own: called by a name, returning or throwing ===== -/
section VXH
/-! vx_backW, vx_callVX, vx_callSX, vx_callVW, vx_runVW, vx_runVX, vx_runSX, vx_ofWH follow the same proofs as their sisters above (Free/Laws.lean, Shelf42/LK1.lean); vx_outP calls Shelf42/NT130.lean (outThrough). -/
section
variable {l : Launch} {R : Room} {p : Program} {e : Env} {below : List Frame} {s : State} {sargs : Array Value} {y : MethodName} {len W9 : Nat}
theorem vx_backW {ws : List Cond} {rm : Room} {Pc : Array Value → State → Prop} {Qc : Array Value → State → Outcome → State → Prop} {XC : String → State → State → Prop} {mc ms : Nat} {free : Addr → Prop} {bytes : ByteArray} {maxL : Nat} {ret : Option FieldType} {hh : List (Nat × Nat × Nat × Nat)}
    (hM : vx_Met l y ws rm Pc Qc XC mc ms free) (hblind : FrameBlind Pc) (hrc : rm.cells = mc) (hrs : rm.slots = ms)
    (hframes : rm.frames + 1 ≤ R.frames) (hlocals : W9 + (maxL + 11) + rm.locals ≤ R.locals)
    (hws : ∀ w ∈ ws, ∀ a' U, s.WarmedH U.vm → w.before a' U = true) (hcode : Cond.codeWith y bytes maxL ret hh ∈ ws) (hinit : ∀ a' U, s.WarmedH U.vm → (Cond.initialized y.cls).before a' U = true) :
    vx_Back l R p e below s sargs y len W9 (PreOf R mc ms Pc) (PostOf Qc mc ms free) (vx_Post XC mc ms free) := by
  intro m meth c A g ig mk a X hg hsize hdg hW hn hp
  have h1 : (headSpec ws rm).pre.before a A.U = true := atoms_intro fun w hw => hws w hw _ _ X.warmed
  have h2 : (Cond.codeWith y bytes maxL ret hh).before a A.U = true := hws _ hcode _ _ X.warmed
  have h3 : (Cond.initialized y.cls).before a A.U = true := hinit _ _ X.warmed
  have h4 : A.cells + (headSpec ws rm).room.cells ≤ R.cells := by rw [show (headSpec ws rm).room.cells = mc from hrc]; exact hp.1
  have h5 : A.slots + (headSpec ws rm).room.slots ≤ R.slots := by rw [show (headSpec ws rm).room.slots = ms from hrs]; exact hp.2.1
  have hPc : Pc a (A.U.calling g mk a) := hblind _ _ _ _ hp.2.2
  obtain ⟨U, Ls, c0, s0⟩ := A
  dsimp only [Pt.U, Pt.locs, Pt.cells, Pt.slots] at h1 h2 h3 h4 h5 X hn hPc ⊢
  obtain ⟨m9, methY, cY, hn9, hmY, hcY, -, hlY, -⟩ := Cond.codeWith_spec h2
  cases Option.some.inj (hn9.symm.trans hn)
  obtain ⟨kY, hkY, -⟩ := className_of_methodNamed hn
  have hinitY : kY.init = .initialized := Cond.initialized_spec (findClass_of_methodNamed hn) hkY h3
  have h : At U g.method c below := by rw [hg]; exact X.here
  have hlocals9 : W9 + (maxL + 11) + (headSpec ws rm).room.locals ≤ R.locals := hlocals
  have happ : (headSpec ws rm).appliesLoose y e.platform (U.calling g mk a) = true :=
    Spec.appliesLoose_calling (g := g) h hdg hn hkY hinitY
      (X.room_calling (g := g) (R' := (headSpec ws rm).room) hsize hmY hcY hframes (by rw [hlY]; omega) h4 h5) h1
  obtain ⟨mid, hmid⟩ := h.above
  have hfr : (U.setTop g).frames = (.java g :: mid) ++ below := by rw [State.frames_setTop' g h.top, hmid]; rfl
  obtain ⟨o, s₂, hsteps, -, hend, hq⟩ := Steps.callFree hM p X.admits X.cas X.clock (acts := []) hfr happ hPc trivial
  have hq' : vx_Q Qc XC mc ms free a (U.calling g mk a) o s₂ := hq
  rw [State.frames_setTop' g h.top] at hend
  obtain ⟨g₀, hg0⟩ := Option.isSome_iff_exists.mp h.top
  obtain ⟨r, hr⟩ := State.topJava?_eq_some.mp hg0
  have hr' : (({ U with heap := s₂.heap, slotsUsed := s₂.slotsUsed } : State).setVm s₂.vm).frames = .java g₀ :: r := hr
  rcases hq' with ⟨hqc, L, hfe, hL⟩ | ⟨q, rfl, E, ce, L, hx, hce, hcv, hcl, hW₂, hsm, hL⟩
  · obtain ⟨⟨v, rfl⟩, hW₂, e2, q2, q3, q4, q5, q6⟩ := id hfe
    have e3 : s₂ = ({ (U.calling g mk a).setFrames s₂.frames with heap := s₂.heap, slotsUsed := s₂.slotsUsed } : State).setVm s₂.vm := by
      have : s₂ = ({ s₂ with vm := (U.calling g mk a).vm } : State).setVm s₂.vm := rfl
      rw [e2] at this
      exact this
    obtain ⟨c₂, i₂, len₂, hc₂, hd₂, hf₂⟩ := hend
    have hW' : U.WarmedH s₂.vm := hW₂
    have hcc : c₂ = c := by
      have h1 : s₂.code? g.method = U.code? g.method := by
        rw [State.code?_eq, State.code?_eq, hW'.alike.method?]
      exact Option.some.inj (hc₂.symm.trans (h1.trans h.code))
    subst hcc
    have hlen : len₂ = len := by rw [hdg] at hd₂; cases hd₂; rfl
    subst hlen
    have hs₂ : s₂ = (({ U with heap := s₂.heap, slotsUsed := s₂.slotsUsed } : State).setVm s₂.vm).setTop { g with pc := g.pc + len₂, stack := v.toList ++ g.stack } := by
      refine e3.trans ?_
      rw [hf₂, State.calling_eq h.top, State.setFrames_setFrames, State.setTop_of_frames _ hr', hr]
      rfl
    have hsame : U.sameButNew ({ U with heap := s₂.heap, slotsUsed := s₂.slotsUsed } : State) L mc ms := by
      refine ⟨?_, q2, q3, q4, q5, q6⟩
      obtain ⟨t, ht, -⟩ := State.frames_cons hr
      show ({ U with heap := s₂.heap, slotsUsed := s₂.slotsUsed } : State) = { U.setFrames U.frames with heap := s₂.heap, slotsUsed := s₂.slotsUsed }
      rw [State.setFrames_self ht]
    subst hg
    refine Or.inl ⟨v, ⟨(({ U with heap := s₂.heap, slotsUsed := s₂.slotsUsed } : State).setVm s₂.vm), Ls ++ L, c0 + mc, s0 + ms⟩,
      ⟨X.admits, X.cas, X.clock, X.frames, X.room, X.hears, X.method, X.code, (X.here.setHeapUsed s₂.heap s₂.slotsUsed).setVm hW'.alike, X.tail, State.WarmedH.trans X.warmed hW', X.limits, X.bytes, X.same.trans (hsame.setVm s.vm)⟩,
      ⟨g, mk, s₂, L, rfl, rfl, hqc, rfl, hL, rfl, rfl⟩, ?_⟩
    show Steps p.tables e below _ ((({ U with heap := s₂.heap, slotsUsed := s₂.slotsUsed } : State).setVm s₂.vm).setTop { g with pc := g.pc + len₂, stack := v.toList ++ g.stack })
    rw [← hs₂]
    exact hsteps
  · obtain ⟨e2, q2, q3, q4, q5, q6⟩ := id hsm
    have e3 : s₂ = ({ (U.calling g mk a).setFrames s₂.frames with heap := s₂.heap, slotsUsed := s₂.slotsUsed } : State).setVm s₂.vm := by
      have : s₂ = ({ s₂ with vm := (U.calling g mk a).vm } : State).setVm s₂.vm := rfl
      rw [e2] at this
      exact this
    have hf₂ : s₂.frames = .throwing q :: .java g :: U.frames.tail := hend
    have hW' : U.WarmedH s₂.vm := hW₂
    have hs₂ : s₂ = ((({ U with heap := s₂.heap, slotsUsed := s₂.slotsUsed } : State).setVm s₂.vm).setTop g).pushFrame (.throwing q) := by
      refine e3.trans ?_
      rw [hf₂, State.calling_eq h.top, State.setFrames_setFrames, State.pushFrame, State.frames_setTop _ hr', State.setTop_of_frames _ hr', State.setFrames_setFrames, hr]
      rfl
    have hsame : U.sameButNew ({ U with heap := s₂.heap, slotsUsed := s₂.slotsUsed } : State) L mc ms := by
      refine ⟨?_, q2, q3, q4, q5, q6⟩
      obtain ⟨t, ht, -⟩ := State.frames_cons hr
      show ({ U with heap := s₂.heap, slotsUsed := s₂.slotsUsed } : State) = { U.setFrames U.frames with heap := s₂.heap, slotsUsed := s₂.slotsUsed }
      rw [State.setFrames_self ht]
    subst hg
    refine Or.inr ⟨q, ⟨(({ U with heap := s₂.heap, slotsUsed := s₂.slotsUsed } : State).setVm s₂.vm), Ls ++ L, c0 + mc, s0 + ms⟩,
      ⟨X.admits, X.cas, X.clock, X.frames, X.room, X.hears, X.method, X.code, (X.here.setHeapUsed s₂.heap s₂.slotsUsed).setVm hW'.alike, X.tail, State.WarmedH.trans X.warmed hW', X.limits, X.bytes, X.same.trans (hsame.setVm s.vm)⟩,
      ⟨g, mk, s₂, L, E, ce, rfl, rfl, hx, hce, hcv, hcl, rfl, hL, rfl, rfl⟩, ?_⟩
    show Steps p.tables e below _ (((({ U with heap := s₂.heap, slotsUsed := s₂.slotsUsed } : State).setVm s₂.vm).setTop g).pushFrame (.throwing q))
    rw [← hs₂]
    exact hsteps
end
variable {p : Program} {l : Launch} {e : Env} {R : Room} {s : State} {m : MethodId} {args : Array Value} {below : List Frame} {meth : Method} {c : Code} {T : State} {H : Heap} {locs : List Loc} {cells slots : Nat}
theorem vx_callVX (X : Stand p l e R s m args below meth c T locs cells slots) (hexec : p.tables.exec = Jvm.exec) {own C : String} {index : Nat} {y : MethodName} {bytes : ByteArray} {maxL : Nat} {ret : Option FieldType} {hh : List (Nat × Nat × Nat × Nat)}
    (hown : s.vm.findClass own = some m.cls) (hlink : (Cond.methodLink own index y).before args s = true) (hinst : (Cond.instanceMethod y).before args s = true) (hsel : (Cond.selects C y y).before args s = true)
    (hcode : (Cond.codeWith y bytes maxL ret hh).before args s = true) (hy : y.cls ≠ "java/lang/invoke/MethodHandle" ∧ y.cls ≠ "java/lang/invoke/VarHandle")
    {W9 : Nat} {Pre : Pt → Array Value → Prop} {Post : Pt → Array Value → Option Value → Pt → Prop} {PostX : Pt → Array Value → Addr → Pt → Prop} (hK : vx_Back l R p e below s args y 3 W9 Pre Post PostX)
    {b : Addr} {cellB : Cell} (hcell : T.heap[b]? = some cellB) (hobj : cellB.vm.isStatics = false) (hcls : s.vm.findClass C = some cellB.cls)
    {g : JFrame} (hg : g.method = m) (hsize : g.locals.size = c.maxLocals) {argsL rest : List Value} (hlen : ∀ sig, parseMethodDescriptor y.desc = some sig → argsL.length = sig.parameters.length)
    (hstack : g.stack = argsL.reverse ++ .ref b :: rest) (hW : 2 * g.monitorRoom + (rest.map fun v => v.category).sum ≤ W9) (hdg : decode c.code g.pc = .ok (.invokevirtual index, 3))
    (hpre : ∀ vm₁, s.WarmedH vm₁ → Pre ⟨T.setVm vm₁, locs, cells, slots⟩ (Value.ref b :: argsL).toArray) :
    (∃ (v : Option Value) (vm₁ : Vm) (B : Pt), s.WarmedH vm₁ ∧ Stand p l e R s m args below meth c B.U B.locs B.cells B.slots ∧ Post ⟨T.setVm vm₁, locs, cells, slots⟩ (Value.ref b :: argsL).toArray v B ∧
      ∀ target, Steps p.tables e below (B.U.setTop { g with pc := g.pc + 3, stack := v.toList ++ rest }) target → Steps p.tables e below (T.setTop g) target) ∨
    (∃ (q : Addr) (vm₁ : Vm) (B : Pt), s.WarmedH vm₁ ∧ Stand p l e R s m args below meth c B.U B.locs B.cells B.slots ∧ PostX ⟨T.setVm vm₁, locs, cells, slots⟩ (Value.ref b :: argsL).toArray q B ∧
      Steps p.tables e below (T.setTop g) ((B.U.setTop { g with stack := rest }).pushFrame (.throwing q))) := by
  obtain ⟨mk, methM, hnamed, hmethM, hstM, habM⟩ := Cond.instanceMethod_spec hinst
  obtain ⟨m8, methM', cM, hn8, hmethM', -, -, -, -, -, -, hsigM⟩ := Cond.codeWith_spec hcode
  cases Option.some.inj (hn8.symm.trans hnamed)
  cases hmethM.symm.trans hmethM'
  obtain ⟨c2, r2, m2, q1, q2, q3, q4, kP, hkP, hkPi⟩ := Cond.selects_spec hsel
  cases hcls.symm.trans q1
  cases (State.methodFound?_of_named hnamed hy).symm.trans q2
  cases hnamed.symm.trans q3
  have hselP : selectMethod e.platform s.vm cellB.cls mk = .method mk := by rw [Launch.admits_selectMethod X.admits]; exact q4
  obtain ⟨vm₁, X₁, hstep₁⟩ := X.invokevirtual hexec hown hlink hnamed hmethM hstM hkP hkPi hy (a := b) (cell := cellB) hcell
    (fun z h => by rw [h] at hobj; cases hobj) hselP hmethM habM hkP hkPi (g := g) hg (argsL := argsL) (rest := rest) (hlen _ hsigM) hstack hdg
  rcases hK m meth c ⟨T.setVm vm₁, locs, cells, slots⟩ { g with stack := rest } (.invokevirtual index) mk (Value.ref b :: argsL).toArray X₁ hg hsize hdg hW (X₁.named hnamed) (hpre vm₁ X₁.warmed) with ⟨v, B, X', hpost, hsteps⟩ | ⟨q, B, X', hpost, hsteps⟩
  · exact Or.inl ⟨v, vm₁, B, X₁.warmed, X', hpost, fun target h => hstep₁ _ fun acts => by rw [doInvoke_state]; exact hsteps.trans h⟩
  · exact Or.inr ⟨q, vm₁, B, X₁.warmed, X', hpost, hstep₁ _ fun acts => by rw [doInvoke_state]; exact hsteps⟩
theorem vx_callSX (X : Stand p l e R s m args below meth c T locs cells slots) (hexec : p.tables.exec = Jvm.exec) {own : String} {index : Nat} {y : MethodName} {bytes : ByteArray} {maxL : Nat} {ret : Option FieldType} {hh : List (Nat × Nat × Nat × Nat)}
    (hown : s.vm.findClass own = some m.cls) (hlink : (Cond.methodLink own index y).before args s = true) (hstat : (Cond.static y).before args s = true) (hinit : (Cond.initialized y.cls).before args s = true)
    (hcode : (Cond.codeWith y bytes maxL ret hh).before args s = true) (hy : y.cls ≠ "java/lang/invoke/MethodHandle" ∧ y.cls ≠ "java/lang/invoke/VarHandle")
    {W9 : Nat} {Pre : Pt → Array Value → Prop} {Post : Pt → Array Value → Option Value → Pt → Prop} {PostX : Pt → Array Value → Addr → Pt → Prop} (hK : vx_Back l R p e below s args y 3 W9 Pre Post PostX)
    {g : JFrame} (hg : g.method = m) (hsize : g.locals.size = c.maxLocals) {argsL rest : List Value} (hlen : ∀ sig, parseMethodDescriptor y.desc = some sig → argsL.length = sig.parameters.length)
    (hstack : g.stack = argsL.reverse ++ rest) (hW : 2 * g.monitorRoom + (rest.map fun v => v.category).sum ≤ W9) (hdg : decode c.code g.pc = .ok (.invokestatic index, 3))
    (hpre : ∀ vm₁, s.WarmedH vm₁ → Pre ⟨T.setVm vm₁, locs, cells, slots⟩ argsL.toArray) :
    (∃ (v : Option Value) (vm₁ : Vm) (B : Pt), s.WarmedH vm₁ ∧ Stand p l e R s m args below meth c B.U B.locs B.cells B.slots ∧ Post ⟨T.setVm vm₁, locs, cells, slots⟩ argsL.toArray v B ∧
      ∀ target, Steps p.tables e below (B.U.setTop { g with pc := g.pc + 3, stack := v.toList ++ rest }) target → Steps p.tables e below (T.setTop g) target) ∨
    (∃ (q : Addr) (vm₁ : Vm) (B : Pt), s.WarmedH vm₁ ∧ Stand p l e R s m args below meth c B.U B.locs B.cells B.slots ∧ PostX ⟨T.setVm vm₁, locs, cells, slots⟩ argsL.toArray q B ∧
      Steps p.tables e below (T.setTop g) ((B.U.setTop { g with stack := rest }).pushFrame (.throwing q))) := by
  obtain ⟨mk, methM, cM, hnamed, hmethM, -, -, -, -, -, -, hsigM⟩ := Cond.codeWith_spec hcode
  have hstatic : methM.isStatic = true := Cond.static_spec hnamed hmethM hstat
  obtain ⟨kP, hkP, -⟩ := className_of_methodNamed hnamed
  have hinitP : kP.init = .initialized := Cond.initialized_spec (findClass_of_methodNamed hnamed) hkP hinit
  obtain ⟨vm₁, X₁, hstep₁⟩ := X.invokestatic hexec hown hlink hnamed hmethM hstatic hkP hinitP hy (g := g) hg (argsL := argsL) (rest := rest) (hlen _ hsigM) hstack hdg
  rcases hK m meth c ⟨T.setVm vm₁, locs, cells, slots⟩ { g with stack := rest } (.invokestatic index) mk argsL.toArray X₁ hg hsize hdg hW (X₁.named hnamed) (hpre vm₁ X₁.warmed) with ⟨v, B, X', hpost, hsteps⟩ | ⟨q, B, X', hpost, hsteps⟩
  · exact Or.inl ⟨v, vm₁, B, X₁.warmed, X', hpost, fun target h => hstep₁ _ fun acts => by rw [doInvoke_state]; exact hsteps.trans h⟩
  · exact Or.inr ⟨q, vm₁, B, X₁.warmed, X', hpost, hstep₁ _ fun acts => by rw [doInvoke_state]; exact hsteps⟩
theorem vx_callVW (X : Stand p l e R s m args below meth c T locs cells slots) (hexec : p.tables.exec = Jvm.exec) {own C : String} {index : Nat} {y : MethodName} {bytes : ByteArray} {maxL : Nat} {ret : Option FieldType} {hh : List (Nat × Nat × Nat × Nat)}
    (hown : s.vm.findClass own = some m.cls) (hlink : (Cond.methodLink own index y).before args s = true) (hinst : (Cond.instanceMethod y).before args s = true) (hsel : (Cond.selects C y y).before args s = true)
    (hcode : (Cond.codeWith y bytes maxL ret hh).before args s = true) (hy : y.cls ≠ "java/lang/invoke/MethodHandle" ∧ y.cls ≠ "java/lang/invoke/VarHandle")
    {W9 : Nat} {Pre : Pt → Array Value → Prop} {Post : Pt → Array Value → Option Value → Pt → Prop} (hK : Back l R p e below s args y 3 W9 Pre Post)
    {b : Addr} {cellB : Cell} (hcell : T.heap[b]? = some cellB) (hobj : cellB.vm.isStatics = false) (hcls : s.vm.findClass C = some cellB.cls)
    {g : JFrame} (hg : g.method = m) (hsize : g.locals.size = c.maxLocals) {argsL rest : List Value} (hlen : ∀ sig, parseMethodDescriptor y.desc = some sig → argsL.length = sig.parameters.length)
    (hstack : g.stack = argsL.reverse ++ .ref b :: rest) (hW : 2 * g.monitorRoom + (rest.map fun v => v.category).sum ≤ W9) (hdg : decode c.code g.pc = .ok (.invokevirtual index, 3))
    (hpre : ∀ vm₁, s.WarmedH vm₁ → Pre ⟨T.setVm vm₁, locs, cells, slots⟩ (Value.ref b :: argsL).toArray) :
    ∃ (v : Option Value) (vm₁ : Vm) (B : Pt), s.WarmedH vm₁ ∧ Stand p l e R s m args below meth c B.U B.locs B.cells B.slots ∧ Post ⟨T.setVm vm₁, locs, cells, slots⟩ (Value.ref b :: argsL).toArray v B ∧
      ∀ target, Steps p.tables e below (B.U.setTop { g with pc := g.pc + 3, stack := v.toList ++ rest }) target → Steps p.tables e below (T.setTop g) target := by
  obtain ⟨mk, methM, hnamed, hmethM, hstM, habM⟩ := Cond.instanceMethod_spec hinst
  obtain ⟨m8, methM', cM, hn8, hmethM', -, -, -, -, -, -, hsigM⟩ := Cond.codeWith_spec hcode
  cases Option.some.inj (hn8.symm.trans hnamed)
  cases hmethM.symm.trans hmethM'
  obtain ⟨c2, r2, m2, q1, q2, q3, q4, kP, hkP, hkPi⟩ := Cond.selects_spec hsel
  cases hcls.symm.trans q1
  cases (State.methodFound?_of_named hnamed hy).symm.trans q2
  cases hnamed.symm.trans q3
  have hselP : selectMethod e.platform s.vm cellB.cls mk = .method mk := by rw [Launch.admits_selectMethod X.admits]; exact q4
  obtain ⟨vm₁, X₁, hstep₁⟩ := X.invokevirtual hexec hown hlink hnamed hmethM hstM hkP hkPi hy (a := b) (cell := cellB) hcell
    (fun z h => by rw [h] at hobj; cases hobj) hselP hmethM habM hkP hkPi (g := g) hg (argsL := argsL) (rest := rest) (hlen _ hsigM) hstack hdg
  obtain ⟨v, B, X', hpost, hsteps⟩ := hK m meth c ⟨T.setVm vm₁, locs, cells, slots⟩ { g with stack := rest } (.invokevirtual index) mk (Value.ref b :: argsL).toArray X₁ hg hsize hdg hW (X₁.named hnamed) (hpre vm₁ X₁.warmed)
  exact ⟨v, vm₁, B, X₁.warmed, X', hpost, fun target h => hstep₁ _ fun acts => by rw [doInvoke_state]; exact hsteps.trans h⟩
abbrev vx_CVW (R : Room) (s : State) (args : Array Value) (own C : String) (index : Nat) (y : MethodName) (bytes : ByteArray) (maxL : Nat) (ret : Option FieldType) (hh : List (Nat × Nat × Nat × Nat)) (ws : List Cond) (rm : Room) (mc ms n : Nat) : Prop :=
  (rm.cells = mc ∧ rm.slots = ms ∧ rm.frames + 1 ≤ R.frames ∧ 8 + (maxL + 11) + rm.locals ≤ R.locals ∧ (∀ w ∈ ws, ∀ (a' : Array Value) (U : State), s.WarmedH U.vm → w.before a' U = true) ∧ Cond.codeWith y bytes maxL ret hh ∈ ws) ∧
  (Cond.codeWith y bytes maxL ret hh).before args s = true ∧ (Cond.initialized y.cls).before args s = true ∧ (y.cls ≠ "java/lang/invoke/MethodHandle" ∧ y.cls ≠ "java/lang/invoke/VarHandle") ∧
  (∀ sig, parseMethodDescriptor y.desc = some sig → n = sig.parameters.length) ∧ (Cond.methodLink own index y).before args s = true ∧ (Cond.instanceMethod y).before args s = true ∧ (Cond.selects C y y).before args s = true
theorem vx_cwVW {own C : String} {index maxL mc ms : Nat} {y : MethodName} {bytes : ByteArray} {ret : Option FieldType} {hh : List (Nat × Nat × Nat × Nat)} {Ts ws ws' : List Cond} {rm : Room} (n : Nat) (ht : ∀ w ∈ Ts, w.before args s = true) (hT : GoodIn Ts (wsV own index C y ws)) (hw : ws = Cond.codeWith y bytes maxL ret hh :: ws') (hrc : rm.cells = mc) (hrs : rm.slots = ms)
    (hd : y.cls = C ∧ y.cls ≠ "java/lang/invoke/MethodHandle" ∧ y.cls ≠ "java/lang/invoke/VarHandle" ∧ (parseMethodDescriptor y.desc).map (fun d => d.parameters.length) = some n) (hR : rm.frames + 1 ≤ R.frames ∧ 8 + (maxL + 11) + rm.locals ≤ R.locals) :
    vx_CVW R s args own C index y bytes maxL ret hh ws rm mc ms n := by
  obtain ⟨hC, hd⟩ := hd
  subst hC
  have ok : ∀ w ∈ wsV own index y.cls y ws, w.before args s = true := fun w h => ht w (hT w h).1
  have hG : GoodIn Ts ws := fun w h => hT w (by unfold wsV; exact List.mem_append_right _ h)
  have hc : Cond.codeWith y bytes maxL ret hh ∈ ws := by rw [hw]; exact List.mem_cons_self
  refine ⟨⟨hrc, hrs, hR.1, hR.2, pay_in ht hG, hc⟩, ht _ (hG _ hc).1, ok _ (by simp [wsV]), ⟨hd.1, hd.2.1⟩, fun sig h => ?_, ok _ (by simp [wsV]), ok _ (by simp [wsV]), ok _ (by simp [wsV])⟩
  have h2 := hd.2.2
  rw [h] at h2
  exact (Option.some.inj h2).symm
theorem vx_runVW {y : MethodName} {bytes cc : ByteArray} {maxL nL mc ms n index : Nat} {ret : Option FieldType} {hh : List (Nat × Nat × Nat × Nat)} {ws : List Cond} {rm : Room} {Pc : Array Value → State → Prop} {Qc : Array Value → State → Outcome → State → Prop} {free : Addr → Prop} {Ts : List Cond} {own C : String} {b : Addr} {As rest : List Value} {g : JFrame}
    (S : CallFix p m c cc nL s args Ts own) (hM : Met l y ws rm Pc Qc mc ms free) (cw : vx_CVW R s args own C index y bytes maxL ret hh ws rm mc ms n) (hp : PreV s H C b Pc As)
    (hg : g.method = m) (hn : As.length = n) (hsize : g.locals.size = nL) (hstack : g.stack = As.reverse ++ .ref b :: rest) (hW : 2 * g.monitorRoom + (rest.map fun v => v.category).sum ≤ 8) (hdg : decode cc g.pc = .ok (.invokevirtual index, 3)) (hf : cells + mc ≤ R.cells ∧ slots + ms ≤ R.slots) :
    va_Run p l e R s m args below meth c H locs cells slots mc ms g rest (Qc (Value.ref b :: As).toArray) free := by
  obtain ⟨⟨hrc, hrs, hfr, hlo, hws, hcw⟩, hcode, hini, hy, hlen, hl, hin, hse⟩ := cw
  have hK : Back l R p e below s args y 3 8 (PreOf R mc ms Pc) (PostOf Qc mc ms free) := va_backW (hh := hh) (bytes := bytes) (maxL := maxL) (ret := ret) hM hp.1 hrc hrs hfr hlo hws hcw (fun a' U hW => word_at hW (Or.inl (by first | rfl | simp [Cond.onTables, Cond.keeps, Cond.steady])) hini)
  obtain ⟨hx, hb, hml, ho, -⟩ := S
  obtain ⟨-, ⟨cellB, hcB, hoB, hclB⟩, hPc⟩ := hp
  intro T hT X
  obtain ⟨v, vm₁, ⟨U', l2, c2, s2⟩, hW₁, X', ⟨g', mk, t, L, e1, e2, hq, h1, hL, h2, h3⟩, st⟩ := vx_callVW X hx (C := C) (hh := hh) (bytes := bytes) (maxL := maxL) (ret := ret) ho hl hin hse hcode hy hK (by rw [hT]; exact hcB) hoB hclB hg (hsize.trans hml.symm) (argsL := As) (rest := rest) (fun sig h => hn.trans (hlen sig h)) hstack hW (by rw [hb]; exact hdg)
    (fun vm₁ hW₁ => ⟨hf.1, hf.2, hPc (T.setVm vm₁) hT hW₁⟩)
  dsimp only [Pt.U, Pt.locs, Pt.cells, Pt.slots] at X' e1 e2 h1 h2 h3 st
  subst h1; subst h2; subst h3
  exact ⟨v, (T.setVm vm₁).calling g' mk (Value.ref b :: As).toArray, t, U', L, hT, X', hL, e1, e2, hq, st⟩
section
variable {y : MethodName} {bytes cc : ByteArray} {maxL nL mc ms n index : Nat} {ret : Option FieldType} {ws : List Cond} {rm : Room} {Pc : Array Value → State → Prop} {Qc : Array Value → State → Outcome → State → Prop} {XC : String → State → State → Prop} {free : Addr → Prop} {Ts : List Cond} {own C : String} {b : Addr} {As rest : List Value} {g : JFrame}
theorem vx_runVX {hh : List (Nat × Nat × Nat × Nat)} (S : CallFix p m c cc nL s args Ts own) (hM : vx_Met l y ws rm Pc Qc XC mc ms free) (cw : vx_CVW R s args own C index y bytes maxL ret hh ws rm mc ms n) (hp : PreV s H C b Pc As)
    (hg : g.method = m) (hn : As.length = n) (hsize : g.locals.size = nL) (hstack : g.stack = As.reverse ++ .ref b :: rest) (hW : 2 * g.monitorRoom + (rest.map fun v => v.category).sum ≤ 8) (hdg : decode cc g.pc = .ok (.invokevirtual index, 3)) (hf : cells + mc ≤ R.cells ∧ slots + ms ≤ R.slots) :
    vx_Run p l e R s m args below meth c H locs cells slots mc ms g rest (Qc (Value.ref b :: As).toArray) XC free := by
  obtain ⟨⟨hrc, hrs, hfr, hlo, hws, hcw⟩, hcode, hini, hy, hlen, hl, hin, hse⟩ := cw
  have hK : vx_Back l R p e below s args y 3 8 (PreOf R mc ms Pc) (PostOf Qc mc ms free) (vx_Post XC mc ms free) := vx_backW (hh := hh) (bytes := bytes) (maxL := maxL) (ret := ret) hM hp.1 hrc hrs hfr hlo hws hcw (fun a' U hW => word_at hW (Or.inl (by first | rfl | simp [Cond.onTables, Cond.keeps, Cond.steady])) hini)
  obtain ⟨hx, hb, hml, ho, -⟩ := S
  obtain ⟨-, ⟨cellB, hcB, hoB, hclB⟩, hPc⟩ := hp
  intro T hT X
  rcases vx_callVX X hx (C := C) (hh := hh) (bytes := bytes) (maxL := maxL) (ret := ret) ho hl hin hse hcode hy hK (by rw [hT]; exact hcB) hoB hclB hg (hsize.trans hml.symm) (argsL := As) (rest := rest) (fun sig h => hn.trans (hlen sig h)) hstack hW (by rw [hb]; exact hdg)
    (fun vm₁ hW₁ => ⟨hf.1, hf.2, hPc (T.setVm vm₁) hT hW₁⟩) with ⟨v, vm₁, ⟨U', l2, c2, s2⟩, hW₁, X', ⟨g', mk, t, L, e1, e2, hq, h1, hL, h2, h3⟩, st⟩ | ⟨q, vm₁, ⟨U', l2, c2, s2⟩, hW₁, X', ⟨g', mk, t, L, E, ce, e1, e2, hq, hce, hcv, hcl, h1, hL, h2, h3⟩, st⟩
  · dsimp only [Pt.U, Pt.locs, Pt.cells, Pt.slots] at X' e1 e2 h1 h2 h3 st
    subst h1; subst h2; subst h3
    exact Or.inl ⟨v, (T.setVm vm₁).calling g' mk (Value.ref b :: As).toArray, t, U', L, hT, X', hL, e1, e2, hq, st⟩
  · dsimp only [Pt.U, Pt.locs, Pt.cells, Pt.slots] at X' e1 e2 h1 h2 h3 st hcl
    subst h1; subst h2; subst h3
    exact Or.inr ⟨q, (T.setVm vm₁).calling g' mk (Value.ref b :: As).toArray, t, U', L, E, ce, hT, X', hL, e1, e2, hq, hce, hcv, vx_cls hW₁ hcl, st⟩
theorem vx_runSX {hh : List (Nat × Nat × Nat × Nat)} (S : CallFix p m c cc nL s args Ts own) (hM : vx_Met l y ws rm Pc Qc XC mc ms free) (cw : vx_CSW R s args own index y bytes maxL ret hh ws rm mc ms n) (hp : PreS s H Pc As)
    (hg : g.method = m) (hn : As.length = n) (hsize : g.locals.size = nL) (hstack : g.stack = As.reverse ++ rest) (hW : 2 * g.monitorRoom + (rest.map fun v => v.category).sum ≤ 8) (hdg : decode cc g.pc = .ok (.invokestatic index, 3)) (hf : cells + mc ≤ R.cells ∧ slots + ms ≤ R.slots) :
    vx_Run p l e R s m args below meth c H locs cells slots mc ms g rest (Qc As.toArray) XC free := by
  obtain ⟨⟨hrc, hrs, hfr, hlo, hws, hcw⟩, hcode, hini, hy, hlen, hl, hstt⟩ := cw
  have hK : vx_Back l R p e below s args y 3 8 (PreOf R mc ms Pc) (PostOf Qc mc ms free) (vx_Post XC mc ms free) := vx_backW (hh := hh) (bytes := bytes) (maxL := maxL) (ret := ret) hM hp.1 hrc hrs hfr hlo hws hcw (fun a' U hW => word_at hW (Or.inl (by first | rfl | simp [Cond.onTables, Cond.keeps, Cond.steady])) hini)
  obtain ⟨hx, hb, hml, ho, -⟩ := S
  intro T hT X
  rcases vx_callSX X hx (hh := hh) (bytes := bytes) (maxL := maxL) (ret := ret) ho hl hstt hini hcode hy hK hg (hsize.trans hml.symm) (argsL := As) (rest := rest) (fun sig h => hn.trans (hlen sig h)) hstack hW (by rw [hb]; exact hdg)
    (fun vm₁ hW₁ => ⟨hf.1, hf.2, hp.2 (T.setVm vm₁) hT hW₁⟩) with ⟨v, vm₁, ⟨U', l2, c2, s2⟩, hW₁, X', ⟨g', mk, t, L, e1, e2, hq, h1, hL, h2, h3⟩, st⟩ | ⟨q, vm₁, ⟨U', l2, c2, s2⟩, hW₁, X', ⟨g', mk, t, L, E, ce, e1, e2, hq, hce, hcv, hcl, h1, hL, h2, h3⟩, st⟩
  · dsimp only [Pt.U, Pt.locs, Pt.cells, Pt.slots] at X' e1 e2 h1 h2 h3 st
    subst h1; subst h2; subst h3
    exact Or.inl ⟨v, (T.setVm vm₁).calling g' mk As.toArray, t, U', L, hT, X', hL, e1, e2, hq, st⟩
  · dsimp only [Pt.U, Pt.locs, Pt.cells, Pt.slots] at X' e1 e2 h1 h2 h3 st hcl
    subst h1; subst h2; subst h3
    exact Or.inr ⟨q, (T.setVm vm₁).calling g' mk As.toArray, t, U', L, E, ce, hT, X', hL, e1, e2, hq, hce, hcv, vx_cls hW₁ hcl, st⟩
end
end VXH
theorem vx_ofWH {l : Launch} {y : MethodName} {ws ws' : List Cond} {rm : Room} {Pc : Array Value → State → Prop} {Qc : Array Value → State → Outcome → State → Prop} {XC : String → State → State → Prop} {mc ms : Nat} {free : Addr → Prop} {cc : ByteArray} {maxL : Nat} {ret : Option FieldType} {hh : List (Nat × Nat × Nat × Nat)}
    (hy : plainName y.cls = true) (hw : ws = Cond.codeWith y cc maxL ret hh :: ws')
    (body : ∀ p e s m args below meth c s₁, BodyLoose p l y (headSpec ws rm) cc maxL ret e s m args below meth c s₁ → c.maxLocals = maxL → Pc args s →
      W p l e (headSpec ws rm).room s m args below meth c s.heap [] 0 0 (vx_MQ below Qc XC args s mc ms free) (entryFrame m args maxL)) : vx_Met l y ws rm Pc Qc XC mc ms free := by
  refine MetFree.of_bodyS (code := cc) (maxLocals := maxL) (ret := ret) hy ?_ ?_
  · intro args s m h hn
    obtain ⟨m9, meth, c, hn9, h1, h2, h3, h4, -, h5, h6, -⟩ := Cond.codeWith_spec (atoms_spec (ws := ws) h _ (by rw [hw]; exact List.mem_cons_self))
    cases hn.symm.trans hn9
    exact ⟨meth, c, h1, h2, h3, h4, h5, h6⟩
  · intro p e s m args below meth c s₁ B hml hP _
    have hh0 : s₁.heap = s.heap := by rw [B.state]; rfl
    obtain ⟨t, a1, o, b1, b2, b3⟩ := body p e s m args below meth c s₁ B hml hP s₁ hh0 (Stand.of_body B)
    exact ⟨t, o, a1, b1, b2, b3⟩
/-! ===== END ===== -/
end
section
def RX0 : String := "SpanLodge$Broker"
def TX0 : u_T := fun k => match k with
  | 0 => ("SpanLodge$Broker", "ledger", "LSpanLodge$Ledger;", true)
  | _ => ("SpanLodge$Broker", "found", "[I", true)
def tyX0 : Nat → FieldType := fun k => match k with
  | 0 => .object "SpanLodge$Ledger"
  | _ => .array .int
abbrev wsX00 : List Cond := u_ws RX0 TX0 2
theorem nmX0 : ∀ a, a < 2 → ∀ b, b < 2 → a ≠ b → (TX0 a).2.1 ≠ (TX0 b).2.1 := by decide +kernel
theorem tyX0_ok : ∀ k, k < 2 → parseFieldDescriptor (TX0 k).2.2.1 = some (tyX0 k) := by decide +kernel
abbrev cX0_init : ByteArray := prog_2_method_1_code
def yX0_init : MethodName := ⟨RX0, "<init>", "(LSpanLodge$Ledger;)V"⟩
abbrev cX0_swapGain : ByteArray := prog_2_method_2_code
def yX0_swapGain : MethodName := ⟨RX0, "swapGain", "(II)I"⟩
abbrev cX0_buyoutGain : ByteArray := prog_2_method_3_code
def yX0_buyoutGain : MethodName := ⟨RX0, "buyoutGain", "(II)I"⟩
abbrev cX0_priceOf : ByteArray := prog_2_method_4_code
def yX0_priceOf : MethodName := ⟨RX0, "priceOf", "(II)I"⟩
abbrev cX0_makeSwap : ByteArray := prog_2_method_5_code
def yX0_makeSwap : MethodName := ⟨RX0, "makeSwap", "(II)V"⟩
abbrev cX0_makeBuyout : ByteArray := prog_2_method_6_code
def yX0_makeBuyout : MethodName := ⟨RX0, "makeBuyout", "(II)V"⟩
abbrev cX0_countBargain : ByteArray := prog_2_method_7_code
def yX0_countBargain : MethodName := ⟨RX0, "countBargain", "(II)V"⟩
abbrev cX0_findBest : ByteArray := prog_2_method_8_code
def yX0_findBest : MethodName := ⟨RX0, "findBest", "()Z"⟩
abbrev cX0_findBestSwap : ByteArray := prog_2_method_9_code
def yX0_findBestSwap : MethodName := ⟨RX0, "findBestSwap", "()V"⟩
abbrev cX0_findBestBuyout : ByteArray := prog_2_method_10_code
def yX0_findBestBuyout : MethodName := ⟨RX0, "findBestBuyout", "()V"⟩
abbrev cX0_keepBetter : ByteArray := prog_2_method_11_code
def yX0_keepBetter : MethodName := ⟨RX0, "keepBetter", "(IIII)V"⟩
abbrev cX0_makeFound : ByteArray := prog_2_method_12_code
def yX0_makeFound : MethodName := ⟨RX0, "makeFound", "()V"⟩
def RX1 : String := "SpanLodge$Ledger"
def TX1 : u_T := fun k => match k with
  | 0 => ("SpanLodge$Ledger", "settings", "[I", true)
  | 1 => ("SpanLodge$Ledger", "owners", "[[I", true)
  | 2 => ("SpanLodge$Ledger", "bookings", "[[I", true)
  | 3 => ("SpanLodge$Ledger", "tally", "[I", true)
  | 4 => ("SpanLodge$Ledger", "queue", "[I", true)
  | 5 => ("SpanLodge$Ledger", "size", "I", false)
  | 6 => ("SpanLodge$Ledger", "time", "I", false)
  | 7 => ("SpanLodge$Ledger", "ownerCount", "I", false)
  | 8 => ("SpanLodge$Ledger", "bookingCount", "I", false)
  | 9 => ("SpanLodge$Ledger", "swaps", "I", false)
  | _ => ("SpanLodge$Ledger", "buyouts", "I", false)
def tyX1 : Nat → FieldType := fun k => match k with
  | 0 => .array .int
  | 1 => .array (.array .int)
  | 2 => .array (.array .int)
  | 3 => .array .int
  | 4 => .array .int
  | 5 => .int
  | 6 => .int
  | 7 => .int
  | 8 => .int
  | 9 => .int
  | _ => .int
abbrev wsX10 : List Cond := u_ws RX1 TX1 11
theorem nmX1 : ∀ a, a < 11 → ∀ b, b < 11 → a ≠ b → (TX1 a).2.1 ≠ (TX1 b).2.1 := by decide +kernel
theorem tyX1_ok : ∀ k, k < 11 → parseFieldDescriptor (TX1 k).2.2.1 = some (tyX1 k) := by decide +kernel
abbrev cX1_init : ByteArray := prog_3_method_1_code
def yX1_init : MethodName := ⟨RX1, "<init>", "()V"⟩
abbrev cX1_startWith : ByteArray := prog_3_method_2_code
def yX1_startWith : MethodName := ⟨RX1, "startWith", "(I)V"⟩
abbrev cX1_copyFrom : ByteArray := prog_3_method_3_code
def yX1_copyFrom : MethodName := ⟨RX1, "copyFrom", "(LSpanLodge$Ledger;)V"⟩
abbrev cX1_clearTally : ByteArray := prog_3_method_4_code
def yX1_clearTally : MethodName := ⟨RX1, "clearTally", "()V"⟩
abbrev cX1_enterOwner : ByteArray := prog_3_method_5_code
def yX1_enterOwner : MethodName := ⟨RX1, "enterOwner", "(I)I"⟩
abbrev cX1_brokenOf : ByteArray := prog_3_method_6_code
def yX1_brokenOf : MethodName := ⟨RX1, "brokenOf", "(I)I"⟩
abbrev cX1_isBarred : ByteArray := prog_3_method_7_code
def yX1_isBarred : MethodName := ⟨RX1, "isBarred", "(I)Z"⟩
abbrev cX1_activeOf : ByteArray := prog_3_method_8_code
def yX1_activeOf : MethodName := ⟨RX1, "activeOf", "(I)I"⟩
abbrev cX1_hasLimit : ByteArray := prog_3_method_9_code
def yX1_hasLimit : MethodName := ⟨RX1, "hasLimit", "(I)Z"⟩
abbrev cX1_joyOfOwner : ByteArray := prog_3_method_10_code
def yX1_joyOfOwner : MethodName := ⟨RX1, "joyOfOwner", "(I)I"⟩
abbrev cX1_enterBooking : ByteArray := prog_3_method_11_code
def yX1_enterBooking : MethodName := ⟨RX1, "enterBooking", "(IIIIIII)I"⟩
abbrev cX1_letWait : ByteArray := prog_3_method_12_code
def yX1_letWait : MethodName := ⟨RX1, "letWait", "(I)V"⟩
abbrev cX1_bookAt : ByteArray := prog_3_method_13_code
def yX1_bookAt : MethodName := ⟨RX1, "bookAt", "(II)Z"⟩
abbrev cX1_isIn : ByteArray := prog_3_method_14_code
def yX1_isIn : MethodName := ⟨RX1, "isIn", "(II)Z"⟩
abbrev cX1_isActive : ByteArray := prog_3_method_15_code
def yX1_isActive : MethodName := ⟨RX1, "isActive", "(I)Z"⟩
abbrev cX1_countIn : ByteArray := prog_3_method_16_code
def yX1_countIn : MethodName := ⟨RX1, "countIn", "(I)I"⟩
abbrev cX1_dropEnded : ByteArray := prog_3_method_17_code
def yX1_dropEnded : MethodName := ⟨RX1, "dropEnded", "()I"⟩
abbrev cX1_joyOf : ByteArray := prog_3_method_18_code
def yX1_joyOf : MethodName := ⟨RX1, "joyOf", "(I)I"⟩
abbrev cX1_joyAt : ByteArray := prog_3_method_19_code
def yX1_joyAt : MethodName := ⟨RX1, "joyAt", "(II)I"⟩
abbrev cX1_clashing : ByteArray := prog_3_method_20_code
def yX1_clashing : MethodName := ⟨RX1, "clashing", "(IIIIII)I"⟩
abbrev cX1_wouldClash : ByteArray := prog_3_method_21_code
def yX1_wouldClash : MethodName := ⟨RX1, "wouldClash", "(IIII)Z"⟩
abbrev cX1_holderAt : ByteArray := prog_3_method_22_code
def yX1_holderAt : MethodName := ⟨RX1, "holderAt", "(II)I"⟩
abbrev cX1_isHeldNow : ByteArray := prog_3_method_23_code
def yX1_isHeldNow : MethodName := ⟨RX1, "isHeldNow", "(II)Z"⟩
abbrev cX1_usedWithin : ByteArray := prog_3_method_24_code
def yX1_usedWithin : MethodName := ⟨RX1, "usedWithin", "(I)I"⟩
abbrev cX1_earliestFit : ByteArray := prog_3_method_25_code
def yX1_earliestFit : MethodName := ⟨RX1, "earliestFit", "(IIIII)I"⟩
abbrev cX1_latestFit : ByteArray := prog_3_method_26_code
def yX1_latestFit : MethodName := ⟨RX1, "latestFit", "(IIIII)I"⟩
abbrev cX1_bestTime : ByteArray := prog_3_method_27_code
def yX1_bestTime : MethodName := ⟨RX1, "bestTime", "(I)I"⟩
abbrev cX1_placeWaiting : ByteArray := prog_3_method_28_code
def yX1_placeWaiting : MethodName := ⟨RX1, "placeWaiting", "()V"⟩
abbrev cX1_waiterAt : ByteArray := prog_3_method_29_code
def yX1_waiterAt : MethodName := ⟨RX1, "waiterAt", "(I)I"⟩
abbrev cX1_queueUp : ByteArray := prog_3_method_30_code
def yX1_queueUp : MethodName := ⟨RX1, "queueUp", "()I"⟩
abbrev cX1_tick : ByteArray := prog_3_method_31_code
def yX1_tick : MethodName := ⟨RX1, "tick", "()V"⟩
abbrev cX1_finishHeld : ByteArray := prog_3_method_32_code
def yX1_finishHeld : MethodName := ⟨RX1, "finishHeld", "()I"⟩
abbrev cX1_bumpLate : ByteArray := prog_3_method_33_code
def yX1_bumpLate : MethodName := ⟨RX1, "bumpLate", "()I"⟩
abbrev cX1_expireWaiting : ByteArray := prog_3_method_34_code
def yX1_expireWaiting : MethodName := ⟨RX1, "expireWaiting", "()V"⟩
def RX2 : String := "SpanLodge$SetupReader"
def TX2 : u_T := fun k => match k with
  | 0 => ("SpanLodge$SetupReader", "text", "[B", true)
  | 1 => ("SpanLodge$SetupReader", "into", "LSpanLodge$Ledger;", true)
  | 2 => ("SpanLodge$SetupReader", "length", "I", false)
  | 3 => ("SpanLodge$SetupReader", "next", "I", false)
  | 4 => ("SpanLodge$SetupReader", "kind", "I", false)
  | 5 => ("SpanLodge$SetupReader", "start", "I", false)
  | 6 => ("SpanLodge$SetupReader", "number", "I", false)
  | 7 => ("SpanLodge$SetupReader", "errorKind", "I", false)
  | _ => ("SpanLodge$SetupReader", "errorAt", "I", false)
def tyX2 : Nat → FieldType := fun k => match k with
  | 0 => .array .byte
  | 1 => .object "SpanLodge$Ledger"
  | 2 => .int
  | 3 => .int
  | 4 => .int
  | 5 => .int
  | 6 => .int
  | 7 => .int
  | _ => .int
abbrev wsX20 : List Cond := u_ws RX2 TX2 9
theorem nmX2 : ∀ a, a < 9 → ∀ b, b < 9 → a ≠ b → (TX2 a).2.1 ≠ (TX2 b).2.1 := by decide +kernel
theorem tyX2_ok : ∀ k, k < 9 → parseFieldDescriptor (TX2 k).2.2.1 = some (tyX2 k) := by decide +kernel
abbrev cX2_init : ByteArray := prog_4_method_1_code
def yX2_init : MethodName := ⟨RX2, "<init>", "([BLSpanLodge$Ledger;)V"⟩
abbrev cX2_readSetup : ByteArray := prog_4_method_2_code
def yX2_readSetup : MethodName := ⟨RX2, "readSetup", "(I)Z"⟩
abbrev cX2_readSize : ByteArray := prog_4_method_3_code
def yX2_readSize : MethodName := ⟨RX2, "readSize", "()Z"⟩
abbrev cX2_readOwner : ByteArray := prog_4_method_4_code
def yX2_readOwner : MethodName := ⟨RX2, "readOwner", "()Z"⟩
abbrev cX2_readSetting : ByteArray := prog_4_method_5_code
def yX2_readSetting : MethodName := ⟨RX2, "readSetting", "()Z"⟩
abbrev cX2_readBook : ByteArray := prog_4_method_6_code
def yX2_readBook : MethodName := ⟨RX2, "readBook", "()Z"⟩
abbrev cX2_readBookingOwner : ByteArray := prog_4_method_7_code
def yX2_readBookingOwner : MethodName := ⟨RX2, "readBookingOwner", "()I"⟩
abbrev cX2_readLength : ByteArray := prog_4_method_8_code
def yX2_readLength : MethodName := ⟨RX2, "readLength", "(I)I"⟩
abbrev cX2_readOption : ByteArray := prog_4_method_9_code
def yX2_readOption : MethodName := ⟨RX2, "readOption", "(Ljava/lang/String;III)I"⟩
abbrev cX2_readNumber : ByteArray := prog_4_method_10_code
def yX2_readNumber : MethodName := ⟨RX2, "readNumber", "(II)I"⟩
abbrev cX2_checkNumber : ByteArray := prog_4_method_11_code
def yX2_checkNumber : MethodName := ⟨RX2, "checkNumber", "(II)I"⟩
abbrev cX2_readSemicolon : ByteArray := prog_4_method_12_code
def yX2_readSemicolon : MethodName := ⟨RX2, "readSemicolon", "()Z"⟩
abbrev cX2_fail : ByteArray := prog_4_method_13_code
def yX2_fail : MethodName := ⟨RX2, "fail", "(I)Z"⟩
abbrev cX2_isWord : ByteArray := prog_4_method_14_code
def yX2_isWord : MethodName := ⟨RX2, "isWord", "(Ljava/lang/String;)Z"⟩
abbrev cX2_advance : ByteArray := prog_4_method_15_code
def yX2_advance : MethodName := ⟨RX2, "advance", "()V"⟩
abbrev cX2_passLetters : ByteArray := prog_4_method_16_code
def yX2_passLetters : MethodName := ⟨RX2, "passLetters", "()V"⟩
abbrev cX2_passDigits : ByteArray := prog_4_method_17_code
def yX2_passDigits : MethodName := ⟨RX2, "passDigits", "()V"⟩
abbrev cX2_isLetter : ByteArray := prog_4_method_18_code
def yX2_isLetter : MethodName := ⟨RX2, "isLetter", "(B)Z"⟩
abbrev cX2_isDigit : ByteArray := prog_4_method_19_code
def yX2_isDigit : MethodName := ⟨RX2, "isDigit", "(B)Z"⟩
def RX3 : String := "SpanLodge"
def TX3 : u_T := fun k => match k with
  | 0 => ("SpanLodge", "text", "[B", true)
  | 1 => ("SpanLodge", "textLength", "I", false)
  | 2 => ("SpanLodge", "latestError", "I", false)
  | 3 => ("SpanLodge", "latestPosition", "I", false)
  | 4 => ("SpanLodge", "ledger", "LSpanLodge$Ledger;", true)
  | 5 => ("SpanLodge", "trial", "LSpanLodge$Ledger;", true)
  | 6 => ("SpanLodge", "saved", "[LSpanLodge$Ledger;", true)
  | 7 => ("SpanLodge", "broker", "LSpanLodge$Broker;", true)
  | 8 => ("SpanLodge", "reader", "LSpanLodge$SetupReader;", true)
  | 9 => ("SpanLodge", "draftFrom", "I", false)
  | 10 => ("SpanLodge", "draftLength", "I", false)
  | 11 => ("SpanLodge", "draftDuration", "I", false)
  | 12 => ("SpanLodge", "line", "[B", true)
  | _ => ("SpanLodge", "lineLength", "I", false)
def tyX3 : Nat → FieldType := fun k => match k with
  | 0 => .array .byte
  | 1 => .int
  | 2 => .int
  | 3 => .int
  | 4 => .object "SpanLodge$Ledger"
  | 5 => .object "SpanLodge$Ledger"
  | 6 => .array (.object "SpanLodge$Ledger")
  | 7 => .object "SpanLodge$Broker"
  | 8 => .object "SpanLodge$SetupReader"
  | 9 => .int
  | 10 => .int
  | 11 => .int
  | 12 => .array .byte
  | _ => .int
abbrev wsX30 : List Cond := u_ws RX3 TX3 14
theorem nmX3 : ∀ a, a < 14 → ∀ b, b < 14 → a ≠ b → (TX3 a).2.1 ≠ (TX3 b).2.1 := by decide +kernel
theorem tyX3_ok : ∀ k, k < 14 → parseFieldDescriptor (TX3 k).2.2.1 = some (tyX3 k) := by decide +kernel
abbrev cX3_init : ByteArray := prog_1_method_1_code
def yX3_init : MethodName := ⟨RX3, "<init>", "()V"⟩
abbrev cX3_appendText : ByteArray := prog_1_method_2_code
def yX3_appendText : MethodName := ⟨RX3, "appendText", "(I)I"⟩
abbrev cX3_truncateText : ByteArray := prog_1_method_3_code
def yX3_truncateText : MethodName := ⟨RX3, "truncateText", "(I)I"⟩
abbrev cX3_load : ByteArray := prog_1_method_4_code
def yX3_load : MethodName := ⟨RX3, "load", "()I"⟩
abbrev cX3_errorCode : ByteArray := prog_1_method_5_code
def yX3_errorCode : MethodName := ⟨RX3, "errorCode", "()I"⟩
abbrev cX3_errorPosition : ByteArray := prog_1_method_6_code
def yX3_errorPosition : MethodName := ⟨RX3, "errorPosition", "()I"⟩
abbrev cX3_addOwner : ByteArray := prog_1_method_7_code
def yX3_addOwner : MethodName := ⟨RX3, "addOwner", "(I)I"⟩
abbrev cX3_set : ByteArray := prog_1_method_8_code
def yX3_set : MethodName := ⟨RX3, "set", "(II)I"⟩
abbrev cX3_count : ByteArray := prog_1_method_9_code
def yX3_count : MethodName := ⟨RX3, "count", "(I)I"⟩
abbrev cX3_owner : ByteArray := prog_1_method_10_code
def yX3_owner : MethodName := ⟨RX3, "owner", "(II)I"⟩
abbrev cX3_trust : ByteArray := prog_1_method_11_code
def yX3_trust : MethodName := ⟨RX3, "trust", "(I)D"⟩
abbrev cX3_forgive : ByteArray := prog_1_method_12_code
def yX3_forgive : MethodName := ⟨RX3, "forgive", "(I)I"⟩
abbrev cX3_draft : ByteArray := prog_1_method_13_code
def yX3_draft : MethodName := ⟨RX3, "draft", "(III)V"⟩
abbrev cX3_book : ByteArray := prog_1_method_14_code
def yX3_book : MethodName := ⟨RX3, "book", "(IIII)I"⟩
abbrev cX3_booking : ByteArray := prog_1_method_15_code
def yX3_booking : MethodName := ⟨RX3, "booking", "(II)I"⟩
abbrev cX3_waiter : ByteArray := prog_1_method_16_code
def yX3_waiter : MethodName := ⟨RX3, "waiter", "(I)I"⟩
abbrev cX3_clean : ByteArray := prog_1_method_17_code
def yX3_clean : MethodName := ⟨RX3, "clean", "()I"⟩
abbrev cX3_arrive : ByteArray := prog_1_method_18_code
def yX3_arrive : MethodName := ⟨RX3, "arrive", "(I)I"⟩
abbrev cX3_leave : ByteArray := prog_1_method_19_code
def yX3_leave : MethodName := ⟨RX3, "leave", "(I)I"⟩
abbrev cX3_extend : ByteArray := prog_1_method_20_code
def yX3_extend : MethodName := ⟨RX3, "extend", "(II)I"⟩
abbrev cX3_cancel : ByteArray := prog_1_method_21_code
def yX3_cancel : MethodName := ⟨RX3, "cancel", "(I)I"⟩
abbrev cX3_evict : ByteArray := prog_1_method_22_code
def yX3_evict : MethodName := ⟨RX3, "evict", "(I)I"⟩
abbrev cX3_swap : ByteArray := prog_1_method_23_code
def yX3_swap : MethodName := ⟨RX3, "swap", "(II)I"⟩
abbrev cX3_buy : ByteArray := prog_1_method_24_code
def yX3_buy : MethodName := ⟨RX3, "buy", "(II)I"⟩
abbrev cX3_bargain : ByteArray := prog_1_method_25_code
def yX3_bargain : MethodName := ⟨RX3, "bargain", "()I"⟩
abbrev cX3_pass : ByteArray := prog_1_method_26_code
def yX3_pass : MethodName := ⟨RX3, "pass", "(I)I"⟩
abbrev cX3_gain : ByteArray := prog_1_method_27_code
def yX3_gain : MethodName := ⟨RX3, "gain", "(II)I"⟩
abbrev cX3_best : ByteArray := prog_1_method_28_code
def yX3_best : MethodName := ⟨RX3, "best", "(I)I"⟩
abbrev cX3_holder : ByteArray := prog_1_method_29_code
def yX3_holder : MethodName := ⟨RX3, "holder", "(II)I"⟩
abbrev cX3_nextFree : ByteArray := prog_1_method_30_code
def yX3_nextFree : MethodName := ⟨RX3, "nextFree", "(I)I"⟩
abbrev cX3_mayWrite : ByteArray := prog_1_method_31_code
def yX3_mayWrite : MethodName := ⟨RX3, "mayWrite", "(III)Z"⟩
abbrev cX3_usage : ByteArray := prog_1_method_32_code
def yX3_usage : MethodName := ⟨RX3, "usage", "(I)F"⟩
abbrev cX3_waitsFor : ByteArray := prog_1_method_33_code
def yX3_waitsFor : MethodName := ⟨RX3, "waitsFor", "(II)I"⟩
abbrev cX3_ahead : ByteArray := prog_1_method_34_code
def yX3_ahead : MethodName := ⟨RX3, "ahead", "(II)I"⟩
abbrev cX3_show : ByteArray := prog_1_method_35_code
def yX3_show : MethodName := ⟨RX3, "show", "(I)I"⟩
abbrev cX3_shown : ByteArray := prog_1_method_36_code
def yX3_shown : MethodName := ⟨RX3, "shown", "(I)I"⟩
abbrev cX3_save : ByteArray := prog_1_method_37_code
def yX3_save : MethodName := ⟨RX3, "save", "(I)V"⟩
abbrev cX3_restore : ByteArray := prog_1_method_38_code
def yX3_restore : MethodName := ⟨RX3, "restore", "(I)V"⟩
abbrev cX3_resetDraft : ByteArray := prog_1_method_39_code
def yX3_resetDraft : MethodName := ⟨RX3, "resetDraft", "()V"⟩
abbrev cX3_tallyOf : ByteArray := prog_1_method_40_code
def yX3_tallyOf : MethodName := ⟨RX3, "tallyOf", "(LSpanLodge$Ledger;II)I"⟩
abbrev cX3_needWithin : ByteArray := prog_1_method_41_code
def yX3_needWithin : MethodName := ⟨RX3, "needWithin", "(III)V"⟩
abbrev cX3_needOwner : ByteArray := prog_1_method_42_code
def yX3_needOwner : MethodName := ⟨RX3, "needOwner", "(I)V"⟩
abbrev cX3_needBooking : ByteArray := prog_1_method_43_code
def yX3_needBooking : MethodName := ⟨RX3, "needBooking", "(I)V"⟩
abbrev cX3_needByte : ByteArray := prog_1_method_44_code
def yX3_needByte : MethodName := ⟨RX3, "needByte", "(I)V"⟩
abbrev cX3_needSpan : ByteArray := prog_1_method_45_code
def yX3_needSpan : MethodName := ⟨RX3, "needSpan", "(II)V"⟩
def RX4 : String := "SpanLodgeModel"
def TX4 : u_T := fun k => match k with
  | 0 => ("SpanLodgeModel", "state", "[I", true)
  | 1 => ("SpanLodgeModel", "backup", "[I", true)
  | 2 => ("SpanLodgeModel", "aside", "[I", true)
  | 3 => ("SpanLodgeModel", "saved", "[I", true)
  | 4 => ("SpanLodgeModel", "isSaved", "[Z", true)
  | 5 => ("SpanLodgeModel", "firstValues", "[I", true)
  | 6 => ("SpanLodgeModel", "leastValues", "[I", true)
  | 7 => ("SpanLodgeModel", "greatestValues", "[I", true)
  | 8 => ("SpanLodgeModel", "draftFrom", "I", false)
  | 9 => ("SpanLodgeModel", "draftLength", "I", false)
  | 10 => ("SpanLodgeModel", "draftDuration", "I", false)
  | 11 => ("SpanLodgeModel", "thrown", "I", false)
  | 12 => ("SpanLodgeModel", "text", "[I", true)
  | 13 => ("SpanLodgeModel", "textLength", "I", false)
  | 14 => ("SpanLodgeModel", "position", "I", false)
  | 15 => ("SpanLodgeModel", "tokenStart", "I", false)
  | 16 => ("SpanLodgeModel", "token", "I", false)
  | 17 => ("SpanLodgeModel", "letters", "I", false)
  | 18 => ("SpanLodgeModel", "number", "I", false)
  | 19 => ("SpanLodgeModel", "errorCode", "I", false)
  | 20 => ("SpanLodgeModel", "errorPosition", "I", false)
  | 21 => ("SpanLodgeModel", "word", "J", false)
  | 22 => ("SpanLodgeModel", "order", "[I", true)
  | 23 => ("SpanLodgeModel", "orderLength", "I", false)
  | 24 => ("SpanLodgeModel", "placedCount", "I", false)
  | 25 => ("SpanLodgeModel", "bumpedCount", "I", false)
  | 26 => ("SpanLodgeModel", "expiredCount", "I", false)
  | 27 => ("SpanLodgeModel", "doneCount", "I", false)
  | 28 => ("SpanLodgeModel", "bestGain", "I", false)
  | 29 => ("SpanLodgeModel", "isBuyout", "Z", false)
  | 30 => ("SpanLodgeModel", "bestFirst", "I", false)
  | 31 => ("SpanLodgeModel", "bestSecond", "I", false)
  | 32 => ("SpanLodgeModel", "line", "[I", true)
  | _ => ("SpanLodgeModel", "lineLength", "I", false)
def tyX4 : Nat → FieldType := fun k => match k with
  | 0 => .array .int
  | 1 => .array .int
  | 2 => .array .int
  | 3 => .array .int
  | 4 => .array .boolean
  | 5 => .array .int
  | 6 => .array .int
  | 7 => .array .int
  | 8 => .int
  | 9 => .int
  | 10 => .int
  | 11 => .int
  | 12 => .array .int
  | 13 => .int
  | 14 => .int
  | 15 => .int
  | 16 => .int
  | 17 => .int
  | 18 => .int
  | 19 => .int
  | 20 => .int
  | 21 => .long
  | 22 => .array .int
  | 23 => .int
  | 24 => .int
  | 25 => .int
  | 26 => .int
  | 27 => .int
  | 28 => .int
  | 29 => .boolean
  | 30 => .int
  | 31 => .int
  | 32 => .array .int
  | _ => .int
abbrev wsX40 : List Cond := u_ws RX4 TX4 34
theorem nmX4 : ∀ a, a < 34 → ∀ b, b < 34 → a ≠ b → (TX4 a).2.1 ≠ (TX4 b).2.1 := by decide +kernel
theorem tyX4_ok : ∀ k, k < 34 → parseFieldDescriptor (TX4 k).2.2.1 = some (tyX4 k) := by decide +kernel
abbrev cX4_init : ByteArray := prog_6_method_1_code
def yX4_init : MethodName := ⟨RX4, "<init>", "()V"⟩
abbrev cX4_thrown : ByteArray := prog_6_method_2_code
def yX4_thrown : MethodName := ⟨RX4, "thrown", "()I"⟩
abbrev cX4_fail : ByteArray := prog_6_method_3_code
def yX4_fail : MethodName := ⟨RX4, "fail", "(I)I"⟩
abbrev cX4_isBetween : ByteArray := prog_6_method_4_code
def yX4_isBetween : MethodName := ⟨RX4, "isBetween", "(JJJ)Z"⟩
abbrev cX4_clear : ByteArray := prog_6_method_5_code
def yX4_clear : MethodName := ⟨RX4, "clear", "(I)V"⟩
abbrev cX4_clearDraft : ByteArray := prog_6_method_6_code
def yX4_clearDraft : MethodName := ⟨RX4, "clearDraft", "()V"⟩
abbrev cX4_copy : ByteArray := prog_6_method_7_code
def yX4_copy : MethodName := ⟨RX4, "copy", "([II[II)V"⟩
abbrev cX4_isOwner : ByteArray := prog_6_method_8_code
def yX4_isOwner : MethodName := ⟨RX4, "isOwner", "(I)Z"⟩
abbrev cX4_isBooking : ByteArray := prog_6_method_9_code
def yX4_isBooking : MethodName := ⟨RX4, "isBooking", "(I)Z"⟩
abbrev cX4_ofOwner : ByteArray := prog_6_method_10_code
def yX4_ofOwner : MethodName := ⟨RX4, "ofOwner", "(II)I"⟩
abbrev cX4_grow : ByteArray := prog_6_method_11_code
def yX4_grow : MethodName := ⟨RX4, "grow", "(III)V"⟩
abbrev cX4_of : ByteArray := prog_6_method_12_code
def yX4_of : MethodName := ⟨RX4, "of", "(II)I"⟩
abbrev cX4_put : ByteArray := prog_6_method_13_code
def yX4_put : MethodName := ⟨RX4, "put", "(III)V"⟩
abbrev cX4_isLive : ByteArray := prog_6_method_14_code
def yX4_isLive : MethodName := ⟨RX4, "isLive", "(I)Z"⟩
abbrev cX4_appendText : ByteArray := prog_6_method_15_code
def yX4_appendText : MethodName := ⟨RX4, "appendText", "(I)I"⟩
abbrev cX4_truncateText : ByteArray := prog_6_method_16_code
def yX4_truncateText : MethodName := ⟨RX4, "truncateText", "(I)I"⟩
abbrev cX4_byteAt : ByteArray := prog_6_method_17_code
def yX4_byteAt : MethodName := ⟨RX4, "byteAt", "(I)I"⟩
abbrev cX4_isLetter : ByteArray := prog_6_method_18_code
def yX4_isLetter : MethodName := ⟨RX4, "isLetter", "(I)Z"⟩
abbrev cX4_isDigit : ByteArray := prog_6_method_19_code
def yX4_isDigit : MethodName := ⟨RX4, "isDigit", "(I)Z"⟩
abbrev cX4_nextToken : ByteArray := prog_6_method_20_code
def yX4_nextToken : MethodName := ⟨RX4, "nextToken", "()V"⟩
abbrev cX4_isWord : ByteArray := prog_6_method_21_code
def yX4_isWord : MethodName := ⟨RX4, "isWord", "(Ljava/lang/String;)Z"⟩
abbrev cX4_require : ByteArray := prog_6_method_22_code
def yX4_require : MethodName := ⟨RX4, "require", "(ZI)V"⟩
abbrev cX4_isFine : ByteArray := prog_6_method_23_code
def yX4_isFine : MethodName := ⟨RX4, "isFine", "()Z"⟩
abbrev cX4_advance : ByteArray := prog_6_method_24_code
def yX4_advance : MethodName := ⟨RX4, "advance", "()V"⟩
abbrev cX4_accept : ByteArray := prog_6_method_25_code
def yX4_accept : MethodName := ⟨RX4, "accept", "(Ljava/lang/String;)Z"⟩
abbrev cX4_look : ByteArray := prog_6_method_26_code
def yX4_look : MethodName := ⟨RX4, "look", "(II)V"⟩
abbrev cX4_parseNumber : ByteArray := prog_6_method_27_code
def yX4_parseNumber : MethodName := ⟨RX4, "parseNumber", "(II)I"⟩
abbrev cX4_parseOwner : ByteArray := prog_6_method_28_code
def yX4_parseOwner : MethodName := ⟨RX4, "parseOwner", "()V"⟩
abbrev cX4_parseBook : ByteArray := prog_6_method_29_code
def yX4_parseBook : MethodName := ⟨RX4, "parseBook", "()V"⟩
abbrev cX4_parseSet : ByteArray := prog_6_method_30_code
def yX4_parseSet : MethodName := ⟨RX4, "parseSet", "()V"⟩
abbrev cX4_parseEnd : ByteArray := prog_6_method_31_code
def yX4_parseEnd : MethodName := ⟨RX4, "parseEnd", "()V"⟩
abbrev cX4_load : ByteArray := prog_6_method_32_code
def yX4_load : MethodName := ⟨RX4, "load", "()I"⟩
abbrev cX4_errorCode : ByteArray := prog_6_method_33_code
def yX4_errorCode : MethodName := ⟨RX4, "errorCode", "()I"⟩
abbrev cX4_errorPosition : ByteArray := prog_6_method_34_code
def yX4_errorPosition : MethodName := ⟨RX4, "errorPosition", "()I"⟩
abbrev cX4_appendOwner : ByteArray := prog_6_method_35_code
def yX4_appendOwner : MethodName := ⟨RX4, "appendOwner", "(I)I"⟩
abbrev cX4_addOwner : ByteArray := prog_6_method_36_code
def yX4_addOwner : MethodName := ⟨RX4, "addOwner", "(I)I"⟩
abbrev cX4_set : ByteArray := prog_6_method_37_code
def yX4_set : MethodName := ⟨RX4, "set", "(II)I"⟩
abbrev cX4_inState : ByteArray := prog_6_method_38_code
def yX4_inState : MethodName := ⟨RX4, "inState", "(I)I"⟩
abbrev cX4_hasByte : ByteArray := prog_6_method_39_code
def yX4_hasByte : MethodName := ⟨RX4, "hasByte", "(II)Z"⟩
abbrev cX4_holderOf : ByteArray := prog_6_method_40_code
def yX4_holderOf : MethodName := ⟨RX4, "holderOf", "(II)I"⟩
abbrev cX4_bytesAt : ByteArray := prog_6_method_41_code
def yX4_bytesAt : MethodName := ⟨RX4, "bytesAt", "(I)I"⟩
abbrev cX4_count : ByteArray := prog_6_method_42_code
def yX4_count : MethodName := ⟨RX4, "count", "(I)I"⟩
abbrev cX4_broken : ByteArray := prog_6_method_43_code
def yX4_broken : MethodName := ⟨RX4, "broken", "(I)I"⟩
abbrev cX4_openBookings : ByteArray := prog_6_method_44_code
def yX4_openBookings : MethodName := ⟨RX4, "openBookings", "(I)I"⟩
abbrev cX4_joyOf : ByteArray := prog_6_method_45_code
def yX4_joyOf : MethodName := ⟨RX4, "joyOf", "(II)I"⟩
abbrev cX4_joyNow : ByteArray := prog_6_method_46_code
def yX4_joyNow : MethodName := ⟨RX4, "joyNow", "(I)I"⟩
abbrev cX4_joys : ByteArray := prog_6_method_47_code
def yX4_joys : MethodName := ⟨RX4, "joys", "(I)I"⟩
abbrev cX4_owner : ByteArray := prog_6_method_48_code
def yX4_owner : MethodName := ⟨RX4, "owner", "(II)I"⟩
abbrev cX4_trust : ByteArray := prog_6_method_49_code
def yX4_trust : MethodName := ⟨RX4, "trust", "(I)D"⟩
abbrev cX4_forgive : ByteArray := prog_6_method_50_code
def yX4_forgive : MethodName := ⟨RX4, "forgive", "(I)I"⟩
abbrev cX4_isSpan : ByteArray := prog_6_method_51_code
def yX4_isSpan : MethodName := ⟨RX4, "isSpan", "(II)Z"⟩
abbrev cX4_draft : ByteArray := prog_6_method_52_code
def yX4_draft : MethodName := ⟨RX4, "draft", "(III)V"⟩
abbrev cX4_isTaken : ByteArray := prog_6_method_53_code
def yX4_isTaken : MethodName := ⟨RX4, "isTaken", "(IIIIII)Z"⟩
abbrev cX4_fitsAt : ByteArray := prog_6_method_54_code
def yX4_fitsAt : MethodName := ⟨RX4, "fitsAt", "(III)Z"⟩
abbrev cX4_bestTime : ByteArray := prog_6_method_55_code
def yX4_bestTime : MethodName := ⟨RX4, "bestTime", "(I)I"⟩
abbrev cX4_settle : ByteArray := prog_6_method_56_code
def yX4_settle : MethodName := ⟨RX4, "settle", "(II)V"⟩
abbrev cX4_await : ByteArray := prog_6_method_57_code
def yX4_await : MethodName := ⟨RX4, "await", "(I)V"⟩
abbrev cX4_place : ByteArray := prog_6_method_58_code
def yX4_place : MethodName := ⟨RX4, "place", "(I)Z"⟩
abbrev cX4_appendBooking : ByteArray := prog_6_method_59_code
def yX4_appendBooking : MethodName := ⟨RX4, "appendBooking", "(IIII)I"⟩
abbrev cX4_book : ByteArray := prog_6_method_60_code
def yX4_book : MethodName := ⟨RX4, "book", "(IIII)I"⟩
abbrev cX4_booking : ByteArray := prog_6_method_61_code
def yX4_booking : MethodName := ⟨RX4, "booking", "(II)I"⟩
abbrev cX4_comesAhead : ByteArray := prog_6_method_62_code
def yX4_comesAhead : MethodName := ⟨RX4, "comesAhead", "(II)Z"⟩
abbrev cX4_layOrder : ByteArray := prog_6_method_63_code
def yX4_layOrder : MethodName := ⟨RX4, "layOrder", "()V"⟩
abbrev cX4_waiter : ByteArray := prog_6_method_64_code
def yX4_waiter : MethodName := ⟨RX4, "waiter", "(I)I"⟩
abbrev cX4_placeAll : ByteArray := prog_6_method_65_code
def yX4_placeAll : MethodName := ⟨RX4, "placeAll", "()V"⟩
abbrev cX4_clean : ByteArray := prog_6_method_66_code
def yX4_clean : MethodName := ⟨RX4, "clean", "()I"⟩
abbrev cX4_done : ByteArray := prog_6_method_67_code
def yX4_done : MethodName := ⟨RX4, "done", "()I"⟩
abbrev cX4_arrive : ByteArray := prog_6_method_68_code
def yX4_arrive : MethodName := ⟨RX4, "arrive", "(I)I"⟩
abbrev cX4_leave : ByteArray := prog_6_method_69_code
def yX4_leave : MethodName := ⟨RX4, "leave", "(I)I"⟩
abbrev cX4_extend : ByteArray := prog_6_method_70_code
def yX4_extend : MethodName := ⟨RX4, "extend", "(II)I"⟩
abbrev cX4_cancel : ByteArray := prog_6_method_71_code
def yX4_cancel : MethodName := ⟨RX4, "cancel", "(I)I"⟩
abbrev cX4_evict : ByteArray := prog_6_method_72_code
def yX4_evict : MethodName := ⟨RX4, "evict", "(I)I"⟩
abbrev cX4_swapGain : ByteArray := prog_6_method_73_code
def yX4_swapGain : MethodName := ⟨RX4, "swapGain", "(II)I"⟩
abbrev cX4_priceOf : ByteArray := prog_6_method_74_code
def yX4_priceOf : MethodName := ⟨RX4, "priceOf", "(II)I"⟩
abbrev cX4_buyGain : ByteArray := prog_6_method_75_code
def yX4_buyGain : MethodName := ⟨RX4, "buyGain", "(II)I"⟩
abbrev cX4_gainOf : ByteArray := prog_6_method_76_code
def yX4_gainOf : MethodName := ⟨RX4, "gainOf", "(II)I"⟩
abbrev cX4_countBargain : ByteArray := prog_6_method_77_code
def yX4_countBargain : MethodName := ⟨RX4, "countBargain", "(II)V"⟩
abbrev cX4_exchange : ByteArray := prog_6_method_78_code
def yX4_exchange : MethodName := ⟨RX4, "exchange", "(III)V"⟩
abbrev cX4_makeSwap : ByteArray := prog_6_method_79_code
def yX4_makeSwap : MethodName := ⟨RX4, "makeSwap", "(II)V"⟩
abbrev cX4_makeBuyout : ByteArray := prog_6_method_80_code
def yX4_makeBuyout : MethodName := ⟨RX4, "makeBuyout", "(II)V"⟩
abbrev cX4_swap : ByteArray := prog_6_method_81_code
def yX4_swap : MethodName := ⟨RX4, "swap", "(II)I"⟩
abbrev cX4_buy : ByteArray := prog_6_method_82_code
def yX4_buy : MethodName := ⟨RX4, "buy", "(II)I"⟩
abbrev cX4_compare : ByteArray := prog_6_method_83_code
def yX4_compare : MethodName := ⟨RX4, "compare", "(IIZ)V"⟩
abbrev cX4_layBest : ByteArray := prog_6_method_84_code
def yX4_layBest : MethodName := ⟨RX4, "layBest", "()V"⟩
abbrev cX4_bargain : ByteArray := prog_6_method_85_code
def yX4_bargain : MethodName := ⟨RX4, "bargain", "()I"⟩
abbrev cX4_endHeld : ByteArray := prog_6_method_86_code
def yX4_endHeld : MethodName := ⟨RX4, "endHeld", "()V"⟩
abbrev cX4_bumpLate : ByteArray := prog_6_method_87_code
def yX4_bumpLate : MethodName := ⟨RX4, "bumpLate", "()V"⟩
abbrev cX4_expire : ByteArray := prog_6_method_88_code
def yX4_expire : MethodName := ⟨RX4, "expire", "()V"⟩
abbrev cX4_passTick : ByteArray := prog_6_method_89_code
def yX4_passTick : MethodName := ⟨RX4, "passTick", "()V"⟩
abbrev cX4_passTicks : ByteArray := prog_6_method_90_code
def yX4_passTicks : MethodName := ⟨RX4, "passTicks", "(I)V"⟩
abbrev cX4_pass : ByteArray := prog_6_method_91_code
def yX4_pass : MethodName := ⟨RX4, "pass", "(I)I"⟩
abbrev cX4_gain : ByteArray := prog_6_method_92_code
def yX4_gain : MethodName := ⟨RX4, "gain", "(II)I"⟩
abbrev cX4_best : ByteArray := prog_6_method_93_code
def yX4_best : MethodName := ⟨RX4, "best", "(I)I"⟩
abbrev cX4_isByte : ByteArray := prog_6_method_94_code
def yX4_isByte : MethodName := ⟨RX4, "isByte", "(I)Z"⟩
abbrev cX4_holder : ByteArray := prog_6_method_95_code
def yX4_holder : MethodName := ⟨RX4, "holder", "(II)I"⟩
abbrev cX4_nextFree : ByteArray := prog_6_method_96_code
def yX4_nextFree : MethodName := ⟨RX4, "nextFree", "(I)I"⟩
abbrev cX4_mayWrite : ByteArray := prog_6_method_97_code
def yX4_mayWrite : MethodName := ⟨RX4, "mayWrite", "(III)Z"⟩
abbrev cX4_usage : ByteArray := prog_6_method_98_code
def yX4_usage : MethodName := ⟨RX4, "usage", "(I)F"⟩
abbrev cX4_waitsFor : ByteArray := prog_6_method_99_code
def yX4_waitsFor : MethodName := ⟨RX4, "waitsFor", "(II)I"⟩
abbrev cX4_ahead : ByteArray := prog_6_method_100_code
def yX4_ahead : MethodName := ⟨RX4, "ahead", "(II)I"⟩
abbrev cX4_show : ByteArray := prog_6_method_101_code
def yX4_show : MethodName := ⟨RX4, "show", "(I)I"⟩
abbrev cX4_shown : ByteArray := prog_6_method_102_code
def yX4_shown : MethodName := ⟨RX4, "shown", "(I)I"⟩
abbrev cX4_save : ByteArray := prog_6_method_103_code
def yX4_save : MethodName := ⟨RX4, "save", "(I)V"⟩
abbrev cX4_restore : ByteArray := prog_6_method_104_code
def yX4_restore : MethodName := ⟨RX4, "restore", "(I)V"⟩
def RJ9 : String := "java/lang/Math"
def TJ9 : u_T := fun k => match k with
  | _ => ("", "", "", false)
def tyJ9 : Nat → FieldType := fun k => match k with
  | _ => .int
abbrev wsJ90 : List Cond := u_ws RJ9 TJ9 0
theorem nmJ9 : ∀ a, a < 0 → ∀ b, b < 0 → a ≠ b → (TJ9 a).2.1 ≠ (TJ9 b).2.1 := by decide +kernel
theorem tyJ9_ok : ∀ k, k < 0 → parseFieldDescriptor (TJ9 k).2.2.1 = some (tyJ9 k) := by decide +kernel
abbrev cJ9_abs_0f7a4 : ByteArray := prog_11_method_59_code
def yJ9_abs_0f7a4 : MethodName := ⟨RJ9, "abs", "(I)I"⟩
abbrev cJ9_max_7cf53 : ByteArray := prog_11_method_65_code
def yJ9_max_7cf53 : MethodName := ⟨RJ9, "max", "(II)I"⟩
abbrev cJ9_min_7cf53 : ByteArray := prog_11_method_69_code
def yJ9_min_7cf53 : MethodName := ⟨RJ9, "min", "(II)I"⟩
def RJ0 : String := "java/lang/String"
def TJ0 : u_T := fun k => match k with
  | _ => ("", "", "", false)
def tyJ0 : Nat → FieldType := fun k => match k with
  | _ => .int
abbrev wsJ00 : List Cond := u_ws RJ0 TJ0 0
theorem nmJ0 : ∀ a, a < 0 → ∀ b, b < 0 → a ≠ b → (TJ0 a).2.1 ≠ (TJ0 b).2.1 := by decide +kernel
theorem tyJ0_ok : ∀ k, k < 0 → parseFieldDescriptor (TJ0 k).2.2.1 = some (tyJ0 k) := by decide +kernel
abbrev cJ0_length_8abf5 : ByteArray := prog_13_method_54_code
def yJ0_length_8abf5 : MethodName := ⟨RJ0, "length", "()I"⟩
abbrev cJ0_charAt_5068e : ByteArray := prog_13_method_56_code
def yJ0_charAt_5068e : MethodName := ⟨RJ0, "charAt", "(I)C"⟩
abbrev cJ0_coder_7d493 : ByteArray := prog_13_method_152_code
def yJ0_coder_7d493 : MethodName := ⟨RJ0, "coder", "()B"⟩
abbrev cJ0_isLatin1_aae02 : ByteArray := prog_13_method_154_code
def yJ0_isLatin1_aae02 : MethodName := ⟨RJ0, "isLatin1", "()Z"⟩
abbrev cJ0_checkIndex_df160 : ByteArray := prog_13_method_155_code
def yJ0_checkIndex_df160 : MethodName := ⟨RJ0, "checkIndex", "(II)V"⟩
def RJ1 : String := "java/lang/StringLatin1"
def TJ1 : u_T := fun k => match k with
  | _ => ("", "", "", false)
def tyJ1 : Nat → FieldType := fun k => match k with
  | _ => .int
abbrev wsJ10 : List Cond := u_ws RJ1 TJ1 0
theorem nmJ1 : ∀ a, a < 0 → ∀ b, b < 0 → a ≠ b → (TJ1 a).2.1 ≠ (TJ1 b).2.1 := by decide +kernel
theorem tyJ1_ok : ∀ k, k < 0 → parseFieldDescriptor (TJ1 k).2.2.1 = some (tyJ1 k) := by decide +kernel
abbrev cJ1_charAt_3b067 : ByteArray := prog_14_method_2_code
def yJ1_charAt_3b067 : MethodName := ⟨RJ1, "charAt", "([BI)C"⟩
def RJ2 : String := "java/lang/StringUTF16"
def TJ2 : u_T := fun k => match k with
  | _ => ("", "", "", false)
def tyJ2 : Nat → FieldType := fun k => match k with
  | _ => .int
abbrev wsJ20 : List Cond := u_ws RJ2 TJ2 0
theorem nmJ2 : ∀ a, a < 0 → ∀ b, b < 0 → a ≠ b → (TJ2 a).2.1 ≠ (TJ2 b).2.1 := by decide +kernel
theorem tyJ2_ok : ∀ k, k < 0 → parseFieldDescriptor (TJ2 k).2.2.1 = some (tyJ2 k) := by decide +kernel
abbrev cJ2_getChar_3b067 : ByteArray := prog_15_method_5_code
def yJ2_getChar_3b067 : MethodName := ⟨RJ2, "getChar", "([BI)C"⟩
abbrev cJ2_length_9d52b : ByteArray := prog_15_method_6_code
def yJ2_length_9d52b : MethodName := ⟨RJ2, "length", "([B)I"⟩
abbrev cJ2_charAt_3b067 : ByteArray := prog_15_method_83_code
def yJ2_charAt_3b067 : MethodName := ⟨RJ2, "charAt", "([BI)C"⟩
abbrev cJ2_checkIndex_2214a : ByteArray := prog_15_method_91_code
def yJ2_checkIndex_2214a : MethodName := ⟨RJ2, "checkIndex", "(I[B)V"⟩
def RJ10 : String := "java/lang/System"
def TJ10 : u_T := fun k => match k with
  | _ => ("", "", "", false)
def tyJ10 : Nat → FieldType := fun k => match k with
  | _ => .int
abbrev wsJ100 : List Cond := u_ws RJ10 TJ10 0
theorem nmJ10 : ∀ a, a < 0 → ∀ b, b < 0 → a ≠ b → (TJ10 a).2.1 ≠ (TJ10 b).2.1 := by decide +kernel
theorem tyJ10_ok : ∀ k, k < 0 → parseFieldDescriptor (TJ10 k).2.2.1 = some (tyJ10 k) := by decide +kernel
def RJ3 : String := "jdk/internal/util/Preconditions"
def TJ3 : u_T := fun k => match k with
  | _ => ("", "", "", false)
def tyJ3 : Nat → FieldType := fun k => match k with
  | _ => .int
abbrev wsJ30 : List Cond := u_ws RJ3 TJ3 0
theorem nmJ3 : ∀ a, a < 0 → ∀ b, b < 0 → a ≠ b → (TJ3 a).2.1 ≠ (TJ3 b).2.1 := by decide +kernel
theorem tyJ3_ok : ∀ k, k < 0 → parseFieldDescriptor (TJ3 k).2.2.1 = some (tyJ3 k) := by decide +kernel
abbrev cJ3_checkIndex_8e157 : ByteArray := prog_18_method_11_code
def yJ3_checkIndex_8e157 : MethodName := ⟨RJ3, "checkIndex", "(IILjava/util/function/BiFunction;)I"⟩
def RL : String := "SpanLodgeLaw"
abbrev cL_appendText : ByteArray := method_3_code
def yL_appendText : MethodName := ⟨RL, "appendText", "(LSpanLodge;I[J)I"⟩
abbrev cL_truncateText : ByteArray := method_4_code
def yL_truncateText : MethodName := ⟨RL, "truncateText", "(LSpanLodge;I[J)I"⟩
abbrev cL_addOwner : ByteArray := method_5_code
def yL_addOwner : MethodName := ⟨RL, "addOwner", "(LSpanLodge;I[J)I"⟩
abbrev cL_set : ByteArray := method_6_code
def yL_set : MethodName := ⟨RL, "set", "(LSpanLodge;II[J)I"⟩
abbrev cL_count : ByteArray := method_7_code
def yL_count : MethodName := ⟨RL, "count", "(LSpanLodge;I[J)I"⟩
abbrev cL_owner : ByteArray := method_8_code
def yL_owner : MethodName := ⟨RL, "owner", "(LSpanLodge;II[J)I"⟩
abbrev cL_trust : ByteArray := method_9_code
def yL_trust : MethodName := ⟨RL, "trust", "(LSpanLodge;I[D)I"⟩
abbrev cL_forgive : ByteArray := method_10_code
def yL_forgive : MethodName := ⟨RL, "forgive", "(LSpanLodge;I[J)I"⟩
abbrev cL_draft : ByteArray := method_11_code
def yL_draft : MethodName := ⟨RL, "draft", "(LSpanLodge;III)I"⟩
abbrev cL_book : ByteArray := method_12_code
def yL_book : MethodName := ⟨RL, "book", "(LSpanLodge;IIII[J)I"⟩
abbrev cL_booking : ByteArray := method_13_code
def yL_booking : MethodName := ⟨RL, "booking", "(LSpanLodge;II[J)I"⟩
abbrev cL_waiter : ByteArray := method_14_code
def yL_waiter : MethodName := ⟨RL, "waiter", "(LSpanLodge;I[J)I"⟩
abbrev cL_arrive : ByteArray := method_15_code
def yL_arrive : MethodName := ⟨RL, "arrive", "(LSpanLodge;I[J)I"⟩
abbrev cL_leave : ByteArray := method_16_code
def yL_leave : MethodName := ⟨RL, "leave", "(LSpanLodge;I[J)I"⟩
abbrev cL_extend : ByteArray := method_17_code
def yL_extend : MethodName := ⟨RL, "extend", "(LSpanLodge;II[J)I"⟩
abbrev cL_cancel : ByteArray := method_18_code
def yL_cancel : MethodName := ⟨RL, "cancel", "(LSpanLodge;I[J)I"⟩
abbrev cL_evict : ByteArray := method_19_code
def yL_evict : MethodName := ⟨RL, "evict", "(LSpanLodge;I[J)I"⟩
abbrev cL_swap : ByteArray := method_20_code
def yL_swap : MethodName := ⟨RL, "swap", "(LSpanLodge;II[J)I"⟩
abbrev cL_buy : ByteArray := method_21_code
def yL_buy : MethodName := ⟨RL, "buy", "(LSpanLodge;II[J)I"⟩
abbrev cL_pass : ByteArray := method_22_code
def yL_pass : MethodName := ⟨RL, "pass", "(LSpanLodge;I[J)I"⟩
abbrev cL_gain : ByteArray := method_23_code
def yL_gain : MethodName := ⟨RL, "gain", "(LSpanLodge;II[J)I"⟩
abbrev cL_best : ByteArray := method_24_code
def yL_best : MethodName := ⟨RL, "best", "(LSpanLodge;I[J)I"⟩
abbrev cL_holder : ByteArray := method_25_code
def yL_holder : MethodName := ⟨RL, "holder", "(LSpanLodge;II[J)I"⟩
abbrev cL_nextFree : ByteArray := method_26_code
def yL_nextFree : MethodName := ⟨RL, "nextFree", "(LSpanLodge;I[J)I"⟩
abbrev cL_mayWrite : ByteArray := method_27_code
def yL_mayWrite : MethodName := ⟨RL, "mayWrite", "(LSpanLodge;III[J)I"⟩
abbrev cL_usage : ByteArray := method_28_code
def yL_usage : MethodName := ⟨RL, "usage", "(LSpanLodge;I[D)I"⟩
abbrev cL_waitsFor : ByteArray := method_29_code
def yL_waitsFor : MethodName := ⟨RL, "waitsFor", "(LSpanLodge;II[J)I"⟩
abbrev cL_ahead : ByteArray := method_30_code
def yL_ahead : MethodName := ⟨RL, "ahead", "(LSpanLodge;II[J)I"⟩
abbrev cL_show : ByteArray := method_31_code
def yL_show : MethodName := ⟨RL, "show", "(LSpanLodge;I[J)I"⟩
abbrev cL_save : ByteArray := method_32_code
def yL_save : MethodName := ⟨RL, "save", "(LSpanLodge;I)I"⟩
abbrev cL_restore : ByteArray := method_33_code
def yL_restore : MethodName := ⟨RL, "restore", "(LSpanLodge;I)I"⟩
abbrev cL_law : ByteArray := code
def yL_law : MethodName := ⟨RL, "law", "([I)Z"⟩
abbrev vwCl : List vw_C := [(RX0, TX0, 2), (RX1, TX1, 11), (RX2, TX2, 9), (RX3, TX3, 14), (RX4, TX4, 34)]
end
section
/-! THE STATE IN ONE FUNCTION: v c j is the int in place j of cell c; cells are numbered, their addresses are a map -/
abbrev V3 : Type := Nat → Nat → Int32
def up2 (v : V3) (c j : Nat) (x : Int32) : V3 := fun c' => if c' = c then upd (v c') j x else v c'
theorem up2_row (v : V3) (c j : Nat) (x : Int32) : up2 v c j x c = upd (v c) j x := if_pos rfl
theorem up2_off (v : V3) {c c' : Nat} (j : Nat) (x : Int32) (h : c' ≠ c) : up2 v c j x c' = v c' := if_neg h
def mk64 (hi lo : Int32) : Int64 := Int64.ofBitVec (hi.toBitVec ++ lo.toBitVec)
def hi64 (x : Int64) : Int32 := Int32.ofBitVec (x.toBitVec.extractLsb' 32 32)
def lo64 (x : Int64) : Int32 := Int32.ofBitVec (x.toBitVec.extractLsb' 0 32)
/-- parameters: class numbers and slots, addresses, array classes, cells alive, the first new address, addresses of constants -/
abbrev zG : Type := va_G × (Nat → Nat) × (Nat → ClassId) × Nat × Nat × (Nat → Nat)
abbrev gD (G : zG) : va_G := G.1
abbrev gad (G : zG) : Nat → Nat := G.2.1
abbrev gcA (G : zG) : Nat → ClassId := G.2.2.1
abbrev gn (G : zG) : Nat := G.2.2.2.1
abbrev gb (G : zG) : Nat := G.2.2.2.2.1
abbrev gk (G : zG) : Nat → Nat := G.2.2.2.2.2
def zA (G : zG) : Nat → Prop := fun q => gb G ≤ q
def zI (G : zG) (N : Nat) (f : Nat → Int32) : va_E := .inl (gcA G 0, N, .inl f)
def entL (G : zG) (v : V3) (b r : Nat) : va_E :=
  if r = 0 then .inr (1, [.ref (gad G (b + 1)), .ref (gad G (b + 2)), .ref (gad G (b + 3)), .ref (gad G (b + 4)), .ref (gad G (b + 5)), .int (v b 5), .int (v b 6), .int (v b 7), .int (v b 8), .int (v b 9), .int (v b 10)])
  else if r = 1 then .inl (gcA G 0, 4, .inl (v (b + 1)))
  else if r = 2 then .inl (gcA G 5, 8, .inr (.inr (.inr (.inr (fun j => some (gad G (b + 6 + j)))))))
  else if r = 3 then .inl (gcA G 5, 40, .inr (.inr (.inr (.inr (fun j => some (gad G (b + 14 + j)))))))
  else if r = 4 then .inl (gcA G 0, 4, .inl (v (b + 4)))
  else if r = 5 then .inl (gcA G 0, 40, .inl (v (b + 5)))
  else if r < 14 then .inl (gcA G 0, 8, .inl (v (b + r)))
  else .inl (gcA G 0, 10, .inl (v (b + r)))
def entS (G : zG) (v : V3) (c : Nat) : va_E := match c with
  | 0 => .inr (3, [.ref (gad G 1), .int (v 0 1), .int (v 0 2), .int (v 0 3), .ref (gad G 21), .ref (gad G 75), .ref (gad G 3), .ref (gad G 4), .ref (gad G 6), .int (v 0 9), .int (v 0 10), .int (v 0 11), .ref (gad G 2), .int (v 0 13)])
  | 1 => .inl (gcA G 1, 800, .inl (v 1))
  | 2 => .inl (gcA G 1, 64, .inl (v 2))
  | 3 => .inl (gcA G 6, 2, .inr (.inr (.inr (.inr (fun j => if v 3 j = 0 then none else some (gad G (21 + 54 * (v 3 j).toNatClampNeg)))))))
  | 4 => .inr (0, [.ref (gad G 21), .ref (gad G 5)])
  | 5 => .inl (gcA G 0, 5, .inl (v 5))
  | 6 => .inr (2, [.ref (gad G 1), .ref (gad G 75), .int (v 6 2), .int (v 6 3), .int (v 6 4), .int (v 6 5), .int (v 6 6), .int (v 6 7), .int (v 6 8)])
  | 7 => .inr (4, [.ref (gad G 8), .ref (gad G 9), .ref (gad G 10), .ref (gad G 11), .ref (gad G 12), .ref (gad G 13), .ref (gad G 14), .ref (gad G 15), .int (v 7 8), .int (v 7 9), .int (v 7 10), .int (v 7 11), .ref (gad G 16), .int (v 7 13), .int (v 7 14), .int (v 7 15), .int (v 7 16), .int (v 7 17), .int (v 7 18), .int (v 7 19), .int (v 7 20), .long (mk64 (v 7 21) (v 7 34)), .ref (gad G 17), .int (v 7 23), .int (v 7 24), .int (v 7 25), .int (v 7 26), .int (v 7 27), .int (v 7 28), .int (v 7 29), .int (v 7 30), .int (v 7 31), .ref (gad G 18), .int (v 7 33)])
  | 8 => .inl (gcA G 0, 474, .inl (v 8))
  | 9 => .inl (gcA G 0, 474, .inl (v 9))
  | 10 => .inl (gcA G 0, 474, .inl (v 10))
  | 11 => .inl (gcA G 0, 948, .inl (v 11))
  | 12 => .inl (gcA G 2, 2, .inl (v 12))
  | 13 => .inl (gcA G 0, 4, .inl (v 13))
  | 14 => .inl (gcA G 0, 4, .inl (v 14))
  | 15 => .inl (gcA G 0, 4, .inl (v 15))
  | 16 => .inl (gcA G 0, 800, .inl (v 16))
  | 17 => .inl (gcA G 0, 40, .inl (v 17))
  | 18 => .inl (gcA G 0, 64, .inl (v 18))
  | 19 => .inl (gcA G 3, 1, .inr (.inl (fun _ => mk64 (v 19 0) (v 19 1))))
  | _ => .inl (gcA G 4, 1, .inr (.inr (.inr (.inl (fun _ => (mk64 (v 20 0) (v 20 1)).toUInt64)))))
def ent (G : zG) (v : V3) (c : Nat) : va_E := if c < 21 then entS G v c else entL G v (c - (c - 21) % 54) ((c - 21) % 54)
/-- a ledger, alive -/
def isL (G : zG) (b : Nat) : Prop := (b = 21 ∨ b = 75 ∨ b = 129 ∨ b = 183) ∧ b + 54 ≤ gn G
theorem isL_lt {G : zG} {b : Nat} (h : isL G b) (r : Nat) (hr : r < 54) : b + r < gn G := by have := h.2; omega
theorem ent_at {G : zG} {v : V3} {b : Nat} (h : isL G b) (r : Nat) (hr : r < 54) : ent G v (b + r) = entL G v b r := by
  have e : (b + r - 21) % 54 = r := by rcases h.1 with e | e | e | e <;> omega
  have e2 : b + r - r = b := by omega
  have e3 : ¬ b + r < 21 := by rcases h.1 with e | e | e | e <;> omega
  unfold ent
  rw [if_neg e3, e, e2]
theorem ent_L {G : zG} {v : V3} {b : Nat} (h : isL G b) : ent G v b = .inr (1, [.ref (gad G (b + 1)), .ref (gad G (b + 2)), .ref (gad G (b + 3)), .ref (gad G (b + 4)), .ref (gad G (b + 5)), .int (v b 5), .int (v b 6), .int (v b 7), .int (v b 8), .int (v b 9), .int (v b 10)]) := (ent_at (v := v) h 0 (by omega)).trans (if_pos rfl)
theorem ent_L1 {G : zG} {v : V3} {b : Nat} (h : isL G b) : ent G v (b + 1) = .inl (gcA G 0, 4, .inl (v (b + 1))) := ent_at h 1 (by omega)
theorem ent_L2 {G : zG} {v : V3} {b : Nat} (h : isL G b) : ent G v (b + 2) = .inl (gcA G 5, 8, .inr (.inr (.inr (.inr (fun j => some (gad G (b + 6 + j))))))) := ent_at h 2 (by omega)
theorem ent_L3 {G : zG} {v : V3} {b : Nat} (h : isL G b) : ent G v (b + 3) = .inl (gcA G 5, 40, .inr (.inr (.inr (.inr (fun j => some (gad G (b + 14 + j))))))) := ent_at h 3 (by omega)
theorem ent_L4 {G : zG} {v : V3} {b : Nat} (h : isL G b) : ent G v (b + 4) = .inl (gcA G 0, 4, .inl (v (b + 4))) := ent_at h 4 (by omega)
theorem ent_L5 {G : zG} {v : V3} {b : Nat} (h : isL G b) : ent G v (b + 5) = .inl (gcA G 0, 40, .inl (v (b + 5))) := ent_at h 5 (by omega)
theorem ent_O {G : zG} {v : V3} {b i : Nat} (h : isL G b) (hi : i < 8) : ent G v (b + 6 + i) = .inl (gcA G 0, 8, .inl (v (b + 6 + i))) := by
  rw [Nat.add_assoc, ent_at h (6 + i) (by omega)]
  unfold entL
  rw [if_neg (by omega), if_neg (by omega), if_neg (by omega), if_neg (by omega), if_neg (by omega), if_neg (by omega), if_pos (by omega)]
theorem ent_B {G : zG} {v : V3} {b i : Nat} (h : isL G b) (hi : i < 40) : ent G v (b + 14 + i) = .inl (gcA G 0, 10, .inl (v (b + 14 + i))) := by
  rw [Nat.add_assoc, ent_at h (14 + i) (by omega)]
  unfold entL
  rw [if_neg (by omega), if_neg (by omega), if_neg (by omega), if_neg (by omega), if_neg (by omega), if_neg (by omega), if_neg (by omega)]
theorem isL_O {G : zG} {b i : Nat} (h : isL G b) (hi : i < 8) : b + 6 + i < gn G := by have := h.2; omega
theorem isL_B {G : zG} {b i : Nat} (h : isL G b) (hi : i < 40) : b + 14 + i < gn G := by have := h.2; omega
/-- a cell's content depends on its own row alone -/
theorem ent_cong {G : zG} {v v' : V3} {c : Nat} (h : v c = v' c) : ent G v c = ent G v' c := by
  unfold ent
  by_cases hc : c < 21
  · rw [if_pos hc, if_pos hc]
    match c, h, hc with
    | 0, h, _ | 1, h, _ | 2, h, _ | 3, h, _ | 4, h, _ | 5, h, _ | 6, h, _ | 7, h, _ | 8, h, _ | 9, h, _ | 10, h, _ | 11, h, _ | 12, h, _ | 13, h, _ | 14, h, _ | 15, h, _ | 16, h, _ | 17, h, _ | 18, h, _ | 19, h, _ | 20, h, _ => simp only [entS, h]
    | k + 21, _, hk => omega
  · rw [if_neg hc, if_neg hc]
    generalize hr : (c - 21) % 54 = r
    have hb : c - r + r = c := by omega
    generalize hbb : c - r = b at hb ⊢
    subst hb
    unfold entL
    by_cases h0 : r = 0
    · subst h0
      rw [if_pos rfl, if_pos rfl]
      simp only [Nat.add_zero] at h
      rw [h]
    · rw [if_neg h0, if_neg h0]
      by_cases h1 : r = 1
      · subst h1; simp only [if_true, h]
      · rw [if_neg h1, if_neg h1]
        by_cases h2 : r = 2
        · subst h2; simp only [if_true]
        · rw [if_neg h2, if_neg h2]
          by_cases h3 : r = 3
          · subst h3; simp only [if_true]
          · rw [if_neg h3, if_neg h3]
            by_cases h4 : r = 4
            · subst h4; simp only [if_true, h]
            · rw [if_neg h4, if_neg h4]
              by_cases h5 : r = 5
              · subst h5; simp only [if_true, h]
              · rw [if_neg h5, if_neg h5, h]
/-- the cells alive -/
def WS (G : zG) (v : V3) : va_W := (List.range (gn G)).map (fun c => (gad G c, ent G v c))
theorem WS_at {G : zG} {v : V3} {c : Nat} (h : c < gn G) : (WS G v)[c]? = some (gad G c, ent G v c) := by
  unfold WS
  rw [List.getElem?_map, List.getElem?_range h]
  rfl
theorem WS_get {G : zG} {v : V3} {c : Nat} {e : va_E} (h : c < gn G) (he : ent G v c = e) : (WS G v)[c]? = some (gad G c, e) := by rw [WS_at h, he]
theorem WS_set {G : zG} {v v' : V3} {c : Nat} {e : va_E} (h : c < gn G) (he : ent G v' c = e) (ho : ∀ c', c' ≠ c → v' c' = v c') : (WS G v).set c (gad G c, e) = WS G v' := by
  apply List.ext_getElem?
  intro k
  by_cases hk : k < gn G
  · rw [WS_at hk]
    by_cases hkc : k = c
    · subst hkc
      rw [List.getElem?_set_self (by simp [WS]; exact hk), he]
    · rw [List.getElem?_set_ne (Ne.symm hkc), WS_at hk, ent_cong (ho k hkc)]
  · have h1 : (WS G v').length ≤ k := by simp [WS]; omega
    have h2 : ((WS G v).set c (gad G c, e)).length ≤ k := by simp [WS]; omega
    rw [List.getElem?_eq_none h1, List.getElem?_eq_none h2]
def tysZ (G : zG) : List (ClassId × FieldType) := [(gcA G 0, .int), (gcA G 1, .byte), (gcA G 2, .boolean), (gcA G 3, .long), (gcA G 4, .double), (gcA G 5, .array .int), (gcA G 6, .object "SpanLodge$Ledger")]
def Rp (G : zG) (v : V3) (H : Heap) : Prop := va_P (gD G) vwCl (WS G v) H ∧ va_D (zA G) (WS G v)
/-- what doesn't change at all: classes, static fields and their arrays -/
def f4 (a b c d : Int32) (j : Nat) : Int32 := match j with
  | 0 => a
  | 1 => b
  | 2 => c
  | _ => d
def Wd (G : zG) (U : State) (H : Heap) : Prop :=
  (va_Z "SpanLodge" "SETTING_FIRST" "[I" (.ref (gk G 0)) (zA G) U H ∧ va_T .int (gk G 0) 4 (fun j => .int (f4 5 10 4 3 j)) (zA G) U H) ∧
  (va_Z "SpanLodge" "SETTING_LEAST" "[I" (.ref (gk G 1)) (zA G) U H ∧ va_T .int (gk G 1) 4 (fun j => .int (f4 0 0 1 1 j)) (zA G) U H) ∧
  (va_Z "SpanLodge" "SETTING_MOST" "[I" (.ref (gk G 2)) (zA G) U H ∧ va_T .int (gk G 2) 4 (fun j => .int (f4 50 99 9 9 j)) (zA G) U H)
theorem Wd.moved {G : zG} {u U : State} {H : Heap} (hvm : u.vm.Alike U.vm) (h : Wd G u H) : Wd G U H :=
  ⟨⟨h.1.1.moved hvm, h.1.2.moved hvm⟩, ⟨h.2.1.1.moved hvm, h.2.1.2.moved hvm⟩, ⟨h.2.2.1.moved hvm, h.2.2.2.moved hvm⟩⟩
theorem Wd.kept {G : zG} {U : State} {H H1 : Heap} (h : Wd G U H) (hq : ∀ a : Nat, a < H.size → ¬ zA G a → H1[a]? = H[a]?) : Wd G U H1 :=
  ⟨⟨h.1.1.kept hq, h.1.2.kept hq⟩, ⟨h.2.1.1.kept hq, h.2.1.2.kept hq⟩, ⟨h.2.2.1.kept hq, h.2.2.2.kept hq⟩⟩
def KW (G : zG) (U : State) : Prop := va_K (gD G) vwCl (tysZ G) U ∧ Wd G U U.heap ∧ gb G ≤ U.heap.size
/-- a method's state at a point -/
def Zs (G : zG) (s : State) (v : V3) (H : Heap) (locs : List Loc) : Prop := va_P (gD G) vwCl (WS G v) H ∧ va_D (zA G) (WS G v) ∧ va_S (zA G) s.heap H locs
def PcZ (G : zG) (av : List Value) (v : V3) : Array Value → State → Prop := fun a U => a = av.toArray ∧ Rp G v U.heap ∧ KW G U
abbrev QiZ (G : zG) (Q : Int32 → V3 → Prop) : Array Value → State → Outcome → State → Prop := va_Qi Q (fun u t => Rp G u t.heap) (zA G)
abbrev QvZ (G : zG) (Q : V3 → Prop) : Array Value → State → Outcome → State → Prop := va_Qv Q (fun u t => Rp G u t.heap) (zA G)
theorem PcZ.blind {G : zG} {av : List Value} {v : V3} : FrameBlind (PcZ G av v) := by
  intro a U g mk h
  obtain ⟨h1, h2, h3, h4, h5⟩ := h
  exact ⟨h1, h2, va_K.moved (u := U) (U := U.calling g mk a) (Vm.Alike.refl U.vm) h3, Wd.moved (u := U) (U := U.calling g mk a) (Vm.Alike.refl U.vm) h4, h5⟩
theorem Zs.pre {G : zG} {s : State} {v : V3} {H : Heap} {locs : List Loc} (Z : Zs G s v H locs) (K : KW G s) {av : List Value} {U : State} (hU : U.heap = H) (hW : s.WarmedH U.vm) : PcZ G av v av.toArray U := by
  obtain ⟨hP, hD, hS⟩ := Z
  obtain ⟨hK, hw, hg⟩ := K
  refine ⟨rfl, ⟨by rw [hU]; exact hP, hD⟩, va_K.moved hW.alike hK, ?_, ?_⟩
  · rw [hU]
    exact (hw.kept hS.2.1).moved hW.alike
  · rw [hU]
    exact Nat.le_trans hg hS.1
theorem zA_old {G : zG} {s : State} (K : KW G s) {H : Heap} {v : V3} {locs : List Loc} (Z : Zs G s v H locs) : ∀ q, H.size ≤ q → zA G q := fun q h => Nat.le_trans K.2.2 (Nat.le_trans Z.2.2.1 h)
def tbg : List Cond := lw_tbl.filter goodWord
theorem tbg_in {w : Cond} (h : w ∈ lw_tbl) (hg : goodWord w = true) : w ∈ tbg := List.mem_filter.mpr ⟨h, hg⟩
theorem tbg_good {ws : List Cond} (h : ∀ w ∈ ws, w ∈ tbg) : GoodIn tbg ws := fun w hw => ⟨h w hw, good_of_word (List.mem_filter.mp (h w hw)).2⟩
theorem tb1 {w : Cond} (i : Nat) (h : tables_1_1[i]? = some w) (hg : goodWord w = true) : w ∈ tbg := tbg_in (List.mem_append_right _ (List.mem_append_left _ (List.mem_of_getElem? h))) hg
theorem tb2 {w : Cond} (i : Nat) (h : tables_1_2[i]? = some w) (hg : goodWord w = true) : w ∈ tbg := tbg_in (List.mem_append_right _ (List.mem_append_right _ (List.mem_append_left _ (List.mem_of_getElem? h)))) hg
theorem tb3 {w : Cond} (i : Nat) (h : tables_1_3[i]? = some w) (hg : goodWord w = true) : w ∈ tbg := tbg_in (List.mem_append_right _ (List.mem_append_right _ (List.mem_append_right _ (List.mem_append_left _ (List.mem_of_getElem? h))))) hg
theorem tb4 {w : Cond} (i : Nat) (h : tables_1_4[i]? = some w) (hg : goodWord w = true) : w ∈ tbg := tbg_in (List.mem_append_right _ (List.mem_append_right _ (List.mem_append_right _ (List.mem_append_right _ (List.mem_append_left _ (List.mem_of_getElem? h)))))) hg
theorem tb5 {w : Cond} (i : Nat) (h : tables_1_5[i]? = some w) (hg : goodWord w = true) : w ∈ tbg := tbg_in (List.mem_append_right _ (List.mem_append_right _ (List.mem_append_right _ (List.mem_append_right _ (List.mem_append_right _ (List.mem_append_left _ (List.mem_of_getElem? h))))))) hg
theorem tb6 {w : Cond} (i : Nat) (h : tables_1_6[i]? = some w) (hg : goodWord w = true) : w ∈ tbg := tbg_in (List.mem_append_right _ (List.mem_append_right _ (List.mem_append_right _ (List.mem_append_right _ (List.mem_append_right _ (List.mem_append_right _ (List.mem_append_left _ (List.mem_of_getElem? h)))))))) hg
theorem tb7 {w : Cond} (i : Nat) (h : tables_1_7[i]? = some w) (hg : goodWord w = true) : w ∈ tbg := tbg_in (List.mem_append_right _ (List.mem_append_right _ (List.mem_append_right _ (List.mem_append_right _ (List.mem_append_right _ (List.mem_append_right _ (List.mem_append_right _ (List.mem_of_getElem? h)))))))) hg
theorem tb0 {w : Cond} (h : w ∈ k2_sels lw_privs) (hg : goodWord w = true) : w ∈ tbg := tbg_in (List.mem_append_left _ h) hg
end
section
/-! ROWS OVER THE STATE: an instruction that reads or writes a cell, a call, an end -/
theorem KW_n {G : zG} {s : State} (K : KW G s) : True := trivial
theorem isL_lt0 {G : zG} {b : Nat} (h : isL G b) : b < gn G := isL_lt h 0 (by omega)
theorem isL21 {G : zG} (h : 129 ≤ gn G) : isL G 21 := ⟨Or.inl rfl, by omega⟩
theorem isL75 {G : zG} (h : 129 ≤ gn G) : isL G 75 := ⟨Or.inr (Or.inl rfl), by omega⟩
theorem vp_lt {i : Int32} {n : Nat} (h : vp_in i n) : i.toNatClampNeg < n := Nat.not_le.mp fun q => h (Or.inr q)
/-- everything that stays the same in a body -/
def Cx (G : zG) (own : String) (cc : ByteArray) (nL : Nat) (ret : Option FieldType) (p : Program) (s : State) (m : MethodId) (args : Array Value) (meth : Method) (c : Code) : Prop :=
  p.tables.exec = Jvm.exec ∧ c.code = cc ∧ c.maxLocals = nL ∧ meth.sig.returnType = ret ∧ meth.locks = false ∧ s.vm.findClass own = some m.cls ∧ (∀ w ∈ tbg, w.before args s = true) ∧ KW G s ∧ 129 ≤ gn G
abbrev Mz (l : Launch) (y : MethodName) (cc : ByteArray) (nL : Nat) (ret : Option FieldType) (fr lo : Nat) (G : zG) (av : List Value) (v : V3) (Qc : Array Value → State → Outcome → State → Prop) : Prop :=
  Met l y (.code y cc nL ret :: tbg) { frames := fr, cells := 0, slots := 0, locals := lo } (PcZ G av v) Qc 0 0 (zA G)
section ZR
variable {p : Program} {l : Launch} {e : Env} {R : Room} {s : State} {m : MethodId} {args : Array Value} {below : List Frame} {meth : Method} {c : Code} {H : Heap} {locs : List Loc} {cells slots : Nat} {Q : State → Prop}
variable {cc : ByteArray} {pc nL : Nat} {ls : Array Slot} {rest : List Value} {G : zG} {v : V3} {own : String} {ret : Option FieldType}
theorem z_ofW {l : Launch} {y : MethodName} {cc : ByteArray} {nL : Nat} {ret : Option FieldType} {fr lo : Nat} {G : zG} {av : List Value} {v : V3} {Qc : Array Value → State → Outcome → State → Prop} (hg : 129 ≤ gn G) (hy : plainName y.cls = true) (hfit : (lg_sl av).length ≤ nL)
    (body : ∀ p e s m args below meth c ls, Cx G y.cls cc nL ret p s m args meth c → Zs G s v s.heap [] → lv_has ls nL (lv_args 0 av) → W p l e { frames := fr, cells := 0, slots := 0, locals := lo } s m args below meth c s.heap [] 0 0 (MQ below Qc args s 0 0 (zA G)) (F0 m 0 ls [])) :
    Mz l y cc nL ret fr lo G av v Qc := by
  refine Met.ofW (cc := cc) (maxL := nL) (ret := ret) hy rfl ?_
  intro p e s m args below meth c s₁ B hml hv
  obtain ⟨rfl, hR, K⟩ := hv
  have hts : ∀ w ∈ tbg, w.before av.toArray s = true := fun w h => atoms_spec (ws := .code y cc nL ret :: tbg) B.pre w (List.mem_cons_of_mem _ h)
  have hown : s.vm.findClass y.cls = some m.cls := findClass_of_methodNamed B.named
  have hl := lv_entry av (n := nL) hfit
  rw [lg_entry_eq]
  generalize (lg_sl av ++ List.replicate (nL - (lg_sl av).length) Slot.unset).toArray = ls at hl ⊢
  exact body p e s m av.toArray below meth c ls ⟨B.exec, B.bytes, hml, B.returns, B.notSynchronized, hown, hts, K, hg⟩ ⟨hR.1, hR.2, va_S.rf⟩ hl
theorem z_get (C0 : Cx G own cc nL ret p s m args meth c) (Z : Zs G s v H locs) {C : String} {T : u_T} {N ci index c0 : Nat} (hin : ∀ w ∈ u_ws C T N, w ∈ tbg) (hc : vwCl[ci]? = some (C, T, N)) (k : Nat) (hk : k < N) (hdc : (T k).1 = C) (hlink : Cond.fieldLink own index C (T k).2.1 (T k).2.2.1 ∈ tbg) {fs : List Value} (hc0 : c0 < gn G) (he : ent G v c0 = .inr (ci, fs)) {x : Value} (hv : fs[k]? = some x) (hdg : decode cc pc = .ok (.getfield index, 3))
    (kk : W p l e R s m args below meth c H locs cells slots Q (F0 m (pc + 3) ls (x :: rest))) : W p l e R s m args below meth c H locs cells slots Q (F0 m pc ls (.ref (gad G c0) :: rest)) := by
  obtain ⟨hx, hb, -, -, -, hown, hts, K, -⟩ := C0
  exact va_get hx hb hts hin hown K.1 Z.1 c0 (WS_get hc0 he) hc k hk (hts _ hlink) (fun x h => by rw [hdc] at h; exact h) hv hdg kk
theorem z_put (C0 : Cx G own cc nL ret p s m args meth c) (Z : Zs G s v H locs) {C : String} {T : u_T} {N ci index c0 : Nat} {ty0 : Nat → FieldType} (hin : ∀ w ∈ u_ws C T N, w ∈ tbg) (hty : ∀ k, k < N → parseFieldDescriptor (T k).2.2.1 = some (ty0 k)) (hnm : ∀ a, a < N → ∀ b, b < N → a ≠ b → (T a).2.1 ≠ (T b).2.1) (hc : vwCl[ci]? = some (C, T, N)) (k : Nat) (hk : k < N) (hdc : (T k).1 = C) (hfin : (T k).2.2.2 = false) (hlink : Cond.fieldLink own index C (T k).2.1 (T k).2.2.1 ∈ tbg) {fs : List Value} (hc0 : c0 < gn G) (he : ent G v c0 = .inr (ci, fs)) {x : Value} {v' : V3} (he' : ent G v' c0 = .inr (ci, fs.set k x)) (ho : ∀ c', c' ≠ c0 → v' c' = v c') (hn : narrow (ty0 k) x = x) (hfit : fits (ty0 k) x = true) (hl : k < fs.length) (hdg : decode cc pc = .ok (.putfield index, 3))
    (kk : ∀ (H1 : Heap) (locs1 : List Loc), Zs G s v' H1 locs1 → W p l e R s m args below meth c H1 locs1 cells slots Q (F0 m (pc + 3) ls rest)) : W p l e R s m args below meth c H locs cells slots Q (F0 m pc ls (x :: .ref (gad G c0) :: rest)) := by
  obtain ⟨hx, hb, -, -, -, hown, hts, K, -⟩ := C0
  refine va_put hx hb hts hin ty0 hty hnm hown K.1 Z.1 Z.2.1 Z.2.2 c0 (WS_get hc0 he) hc k hk (hts _ hlink) (fun x h => by rw [hdc] at h; exact h) hfin (hty k hk) hn hfit hl hdg (fun H1 locs1 hP hD hS => ?_)
  rw [WS_set hc0 he' ho] at hP hD
  exact kk H1 locs1 ⟨hP, hD, hS⟩
theorem z_iald (C0 : Cx G own cc nL ret p s m args meth c) (Z : Zs G s v H locs) {c0 N : Nat} {f : Nat → Int32} (hc0 : c0 < gn G) (he : ent G v c0 = .inl (gcA G 0, N, .inl f)) {i : Int32} (hin : vp_in i N) (hdg : decode cc pc = .ok (.iaload, 1))
    (kk : W p l e R s m args below meth c H locs cells slots Q (F0 m (pc + 1) ls (.int (f i.toNatClampNeg) :: rest))) : W p l e R s m args below meth c H locs cells slots Q (F0 m pc ls (.int i :: .ref (gad G c0) :: rest)) := by
  obtain ⟨hx, hb, -, -, -, hown, hts, K, -⟩ := C0
  exact va_iald hx hb K.1 Z.1 c0 0 (WS_get hc0 he) rfl hin hdg kk
theorem z_bald (C0 : Cx G own cc nL ret p s m args meth c) (Z : Zs G s v H locs) {c0 N : Nat} {f : Nat → Int32} (hc0 : c0 < gn G) (he : ent G v c0 = .inl (gcA G 1, N, .inl f)) {i : Int32} (hin : vp_in i N) (hdg : decode cc pc = .ok (.baload, 1))
    (kk : W p l e R s m args below meth c H locs cells slots Q (F0 m (pc + 1) ls (.int (f i.toNatClampNeg) :: rest))) : W p l e R s m args below meth c H locs cells slots Q (F0 m pc ls (.int i :: .ref (gad G c0) :: rest)) := by
  obtain ⟨hx, hb, -, -, -, hown, hts, K, -⟩ := C0
  exact va_bald hx hb K.1 Z.1 c0 1 (WS_get hc0 he) rfl hin hdg kk
theorem z_zald (C0 : Cx G own cc nL ret p s m args meth c) (Z : Zs G s v H locs) {c0 N : Nat} {f : Nat → Int32} (hc0 : c0 < gn G) (he : ent G v c0 = .inl (gcA G 2, N, .inl f)) {i : Int32} (hin : vp_in i N) (hdg : decode cc pc = .ok (.baload, 1))
    (kk : W p l e R s m args below meth c H locs cells slots Q (F0 m (pc + 1) ls (.int (f i.toNatClampNeg) :: rest))) : W p l e R s m args below meth c H locs cells slots Q (F0 m pc ls (.int i :: .ref (gad G c0) :: rest)) := by
  obtain ⟨hx, hb, -, -, -, hown, hts, K, -⟩ := C0
  exact va_zald hx hb K.1 Z.1 c0 2 (WS_get hc0 he) rfl hin hdg kk
/-- a row of an array of int arrays -/
theorem z_aald (C0 : Cx G own cc nL ret p s m args meth c) (Z : Zs G s v H locs) {c0 N : Nat} {g : Nat → Nat} (hc0 : c0 < gn G) (he : ent G v c0 = .inl (gcA G 5, N, .inr (.inr (.inr (.inr (fun j => some (gad G (g j)))))))) {i : Int32} (hin : vp_in i N) (hdg : decode cc pc = .ok (.aaload, 1))
    (kk : W p l e R s m args below meth c H locs cells slots Q (F0 m (pc + 1) ls (.ref (gad G (g i.toNatClampNeg)) :: rest))) : W p l e R s m args below meth c H locs cells slots Q (F0 m pc ls (.int i :: .ref (gad G c0) :: rest)) := by
  obtain ⟨hx, hb, -, -, -, hown, hts, K, -⟩ := C0
  exact W.aald (v := .ref (gad G (g i.toNatClampNeg))) (ty := .array .int) hx hb (Z.1 c0 _ (WS_get hc0 he)) ((K.1.2 5 _ rfl).1 N (fun j => va_rf ((fun j => some (gad G (g j))) j))) rfl (fun q => by cases q) (by show ¬ (i < 0 ∨ (arrV _ _ _).slots.size ≤ _); rw [arrV_size]; exact hin) (by show (arrV _ _ _).slots[_]? = _; rw [arrV_read _ _ (vp_lt hin)]; rfl) rfl rfl hdg kk
theorem z_iast (C0 : Cx G own cc nL ret p s m args meth c) (Z : Zs G s v H locs) {c0 N : Nat} (hc0 : c0 < gn G) (he : ∀ w : V3, ent G w c0 = .inl (gcA G 0, N, .inl (w c0))) {i x : Int32} (hin : vp_in i N) (hdg : decode cc pc = .ok (.iastore, 1))
    (kk : ∀ (H1 : Heap) (locs1 : List Loc), Zs G s (up2 v c0 i.toNatClampNeg x) H1 locs1 → W p l e R s m args below meth c H1 locs1 cells slots Q (F0 m (pc + 1) ls rest)) : W p l e R s m args below meth c H locs cells slots Q (F0 m pc ls (.int x :: .int i :: .ref (gad G c0) :: rest)) := by
  obtain ⟨hx, hb, -, -, -, hown, hts, K, -⟩ := C0
  refine va_iast hx hb K.1 Z.1 Z.2.1 Z.2.2 c0 0 (WS_get hc0 (he v)) rfl hin hdg (fun H1 locs1 hP hD hS => ?_)
  rw [WS_set (v' := up2 v c0 i.toNatClampNeg x) hc0 (by rw [he, up2_row]) (fun c' h => up2_off v _ _ h)] at hP hD
  exact kk H1 locs1 ⟨hP, hD, hS⟩
theorem z_bast (C0 : Cx G own cc nL ret p s m args meth c) (Z : Zs G s v H locs) {c0 N : Nat} (hc0 : c0 < gn G) (he : ∀ w : V3, ent G w c0 = .inl (gcA G 1, N, .inl (w c0))) {i x : Int32} (hin : vp_in i N) (hdg : decode cc pc = .ok (.bastore, 1))
    (kk : ∀ (H1 : Heap) (locs1 : List Loc), Zs G s (up2 v c0 i.toNatClampNeg (vp_nar .byte x)) H1 locs1 → W p l e R s m args below meth c H1 locs1 cells slots Q (F0 m (pc + 1) ls rest)) : W p l e R s m args below meth c H locs cells slots Q (F0 m pc ls (.int x :: .int i :: .ref (gad G c0) :: rest)) := by
  obtain ⟨hx, hb, -, -, -, hown, hts, K, -⟩ := C0
  refine va_bast hx hb K.1 Z.1 Z.2.1 Z.2.2 c0 1 (WS_get hc0 (he v)) rfl hin hdg (fun H1 locs1 hP hD hS => ?_)
  rw [WS_set (v' := up2 v c0 i.toNatClampNeg (vp_nar .byte x)) hc0 (by rw [he, up2_row]) (fun c' h => up2_off v _ _ h)] at hP hD
  exact kk H1 locs1 ⟨hP, hD, hS⟩
theorem z_zast (C0 : Cx G own cc nL ret p s m args meth c) (Z : Zs G s v H locs) {c0 N : Nat} (hc0 : c0 < gn G) (he : ∀ w : V3, ent G w c0 = .inl (gcA G 2, N, .inl (w c0))) {i x : Int32} (hin : vp_in i N) (hdg : decode cc pc = .ok (.bastore, 1))
    (kk : ∀ (H1 : Heap) (locs1 : List Loc), Zs G s (up2 v c0 i.toNatClampNeg (vp_nar .boolean x)) H1 locs1 → W p l e R s m args below meth c H1 locs1 cells slots Q (F0 m (pc + 1) ls rest)) : W p l e R s m args below meth c H locs cells slots Q (F0 m pc ls (.int x :: .int i :: .ref (gad G c0) :: rest)) := by
  obtain ⟨hx, hb, -, -, -, hown, hts, K, -⟩ := C0
  refine va_zast hx hb K.1 Z.1 Z.2.1 Z.2.2 c0 2 (WS_get hc0 (he v)) rfl hin hdg (fun H1 locs1 hP hD hS => ?_)
  rw [WS_set (v' := up2 v c0 i.toNatClampNeg (vp_nar .boolean x)) hc0 (by rw [he, up2_row]) (fun c' h => up2_off v _ _ h)] at hP hD
  exact kk H1 locs1 ⟨hP, hD, hS⟩
theorem z_alen (C0 : Cx G own cc nL ret p s m args meth c) (Z : Zs G s v H locs) {c0 N t0 : Nat} {cA : ClassId} {ty : FieldType} {f} (hc0 : c0 < gn G) (he : ent G v c0 = .inl (cA, N, f)) (ht : (tysZ G)[t0]? = some (cA, ty)) {x : Int32} (hv : Int32.ofNat N = x) (hdg : decode cc pc = .ok (.arraylength, 1))
    (kk : W p l e R s m args below meth c H locs cells slots Q (F0 m (pc + 1) ls (.int x :: rest))) : W p l e R s m args below meth c H locs cells slots Q (F0 m pc ls (.ref (gad G c0) :: rest)) := by
  obtain ⟨hx, hb, -, -, -, hown, hts, K, -⟩ := C0
  exact va_alen hx hb K.1 Z.1 c0 t0 (WS_get hc0 he) ht hv hdg kk
/-- ends -/
theorem z_iret (C0 : Cx G own cc nL (some .int) p s m args meth c) (Z : Zs G s v H locs) {Q : Int32 → V3 → Prop} {x : Int32} (hQ : Q x v) (hdg : decode cc pc = .ok (.ireturn, 1)) : W p l e R s m args below meth c H locs cells slots (MQ below (QiZ G Q) args s cells slots (zA G)) (F0 m pc ls [.int x]) := by
  obtain ⟨hx, hb, -, hr, hk, hown, hts, K, -⟩ := C0
  exact W.iret hx hb hr (fun t ht hW => ⟨⟨x, v, rfl, hQ, ⟨by rw [ht]; exact Z.1, Z.2.1⟩⟩, Z.2.2.F ht⟩) Z.2.2.2.2 hdg hk
theorem z_zret (C0 : Cx G own cc nL (some .boolean) p s m args meth c) (Z : Zs G s v H locs) {Q : Int32 → V3 → Prop} {x : Int32} (h01 : x = 0 ∨ x = 1) (hQ : Q x v) (hdg : decode cc pc = .ok (.ireturn, 1)) : W p l e R s m args below meth c H locs cells slots (MQ below (QiZ G Q) args s cells slots (zA G)) (F0 m pc ls [.int x]) := by
  obtain ⟨hx, hb, -, hr, hk, hown, hts, K, -⟩ := C0
  exact W.zret hx hb hr (by rcases h01 with h | h <;> subst h <;> rfl) (fun t ht hW => ⟨⟨x, v, rfl, hQ, ⟨by rw [ht]; exact Z.1, Z.2.1⟩⟩, Z.2.2.F ht⟩) Z.2.2.2.2 hdg hk
theorem z_vret (C0 : Cx G own cc nL none p s m args meth c) (Z : Zs G s v H locs) {Q : V3 → Prop} (hQ : Q v) (hdg : decode cc pc = .ok (.return_, 1)) : W p l e R s m args below meth c H locs cells slots (MQ below (QvZ G Q) args s cells slots (zA G)) (F0 m pc ls []) := by
  obtain ⟨hx, hb, -, hr, hk, hown, hts, K, -⟩ := C0
  exact W.vret hx hb hr (fun t ht hW => ⟨⟨v, rfl, hQ, ⟨by rw [ht]; exact Z.1, Z.2.1⟩⟩, Z.2.2.F ht⟩) Z.2.2.2.2 hdg hk
/-- calls -/
def dsc (y : MethodName) (n : Nat) : Prop := y.cls ≠ "java/lang/invoke/MethodHandle" ∧ y.cls ≠ "java/lang/invoke/VarHandle" ∧ (parseMethodDescriptor y.desc).map (fun d => d.parameters.length) = some n
theorem z_goodV {own : String} {index : Nat} {C : String} {y : MethodName} {cc : ByteArray} {nL : Nat} {ret : Option FieldType} (h1 : Cond.methodLink own index y ∈ tbg) (h2 : Cond.instanceMethod y ∈ tbg) (h3 : Cond.selects C y y ∈ tbg) (h4 : Cond.initialized C ∈ tbg) (h5 : Cond.code y cc nL ret ∈ tbg) : GoodIn tbg (wsV own index C y (.code y cc nL ret :: tbg)) := by
  refine tbg_good fun w hw => ?_
  simp only [wsV, List.cons_append, List.nil_append, List.mem_cons] at hw
  rcases hw with rfl | rfl | rfl | rfl | rfl | hw
  · exact h1
  · exact h2
  · exact h3
  · exact h4
  · exact h5
  · exact hw
theorem z_goodS {own : String} {index : Nat} {y : MethodName} {cc : ByteArray} {nL : Nat} {ret : Option FieldType} (h1 : Cond.methodLink own index y ∈ tbg) (h2 : Cond.static y ∈ tbg) (h4 : Cond.initialized y.cls ∈ tbg) (h5 : Cond.code y cc nL ret ∈ tbg) : GoodIn tbg (va_wsS own index y (.code y cc nL ret :: tbg)) := by
  refine tbg_good fun w hw => ?_
  simp only [va_wsS, List.cons_append, List.nil_append, List.mem_cons] at hw
  rcases hw with rfl | rfl | rfl | rfl | hw
  · exact h1
  · exact h2
  · exact h4
  · exact h5
  · exact hw
theorem z_callVi (C0 : Cx G own cc nL ret p s m args meth c) (Z : Zs G s v H locs) (hl : ls.size = nL) {y : MethodName} {cy : ByteArray} {nLy : Nat} {rety : Option FieldType} {fr lo index n ci c0 : Nat} {C : String} {T : u_T} {N : Nat} {fs As st0 : List Value} {Qy : Int32 → V3 → Prop} (hM : Mz l y cy nLy rety fr lo G (.ref (gad G c0) :: As) v (QiZ G Qy)) (hgd : GoodIn tbg (wsV own index C y (.code y cy nLy rety :: tbg))) (hyc : y.cls = C) (hd : dsc y n) (hR : fr + 1 ≤ R.frames ∧ 8 + (nLy + 11) + lo ≤ R.locals) (hc : vwCl[ci]? = some (C, T, N)) (hc0 : c0 < gn G) (he : ent G v c0 = .inr (ci, fs)) (hn : As.length = n) (hst : st0 = As.reverse ++ .ref (gad G c0) :: rest) (hW : (rest.map fun v => v.category).sum ≤ 8) (hf : cells ≤ R.cells ∧ slots ≤ R.slots) (hdg : decode cc pc = .ok (.invokevirtual index, 3))
    (kk : ∀ (r : Int32) (u : V3) (H1 : Heap) (locs1 : List Loc), Qy r u → Zs G s u H1 locs1 → W p l e R s m args below meth c H1 locs1 cells slots Q (F0 m (pc + 3) ls (.int r :: rest))) : W p l e R s m args below meth c H locs cells slots Q (F0 m pc ls st0) := by
  obtain ⟨hx, hb, hml, -, -, hown, hts, K, -⟩ := C0
  refine va_calli (va_runV (As := As) (rest := rest) ⟨hx, hb, hml, hown, hts⟩ hM (cwV n hts hgd rfl rfl rfl ⟨hyc, hd⟩ hR) ⟨PcZ.blind, va_recv K.1 Z.1 hc (WS_get hc0 he), fun U hU hW => Z.pre K hU hW⟩ rfl hn hl hst (lv_room hW) hdg hf) Z.2.2 (fun q _ h => h) (fun q h => h) (fun r u t H1 locs1 ht hvm hw hB hz1 hk1 hS => ?_)
  refine kk r u H1 locs1 hw ⟨?_, hB.2, hS⟩
  have := hB.1
  rw [ht] at this
  exact this
theorem z_callVv (C0 : Cx G own cc nL ret p s m args meth c) (Z : Zs G s v H locs) (hl : ls.size = nL) {y : MethodName} {cy : ByteArray} {nLy : Nat} {rety : Option FieldType} {fr lo index n ci c0 : Nat} {C : String} {T : u_T} {N : Nat} {fs As st0 : List Value} {Qy : V3 → Prop} (hM : Mz l y cy nLy rety fr lo G (.ref (gad G c0) :: As) v (QvZ G Qy)) (hgd : GoodIn tbg (wsV own index C y (.code y cy nLy rety :: tbg))) (hyc : y.cls = C) (hd : dsc y n) (hR : fr + 1 ≤ R.frames ∧ 8 + (nLy + 11) + lo ≤ R.locals) (hc : vwCl[ci]? = some (C, T, N)) (hc0 : c0 < gn G) (he : ent G v c0 = .inr (ci, fs)) (hn : As.length = n) (hst : st0 = As.reverse ++ .ref (gad G c0) :: rest) (hW : (rest.map fun v => v.category).sum ≤ 8) (hf : cells ≤ R.cells ∧ slots ≤ R.slots) (hdg : decode cc pc = .ok (.invokevirtual index, 3))
    (kk : ∀ (u : V3) (H1 : Heap) (locs1 : List Loc), Qy u → Zs G s u H1 locs1 → W p l e R s m args below meth c H1 locs1 cells slots Q (F0 m (pc + 3) ls rest)) : W p l e R s m args below meth c H locs cells slots Q (F0 m pc ls st0) := by
  obtain ⟨hx, hb, hml, -, -, hown, hts, K, -⟩ := C0
  refine va_callv (va_runV (As := As) (rest := rest) ⟨hx, hb, hml, hown, hts⟩ hM (cwV n hts hgd rfl rfl rfl ⟨hyc, hd⟩ hR) ⟨PcZ.blind, va_recv K.1 Z.1 hc (WS_get hc0 he), fun U hU hW => Z.pre K hU hW⟩ rfl hn hl hst (lv_room hW) hdg hf) Z.2.2 (fun q _ h => h) (fun q h => h) (fun u t H1 locs1 ht hvm hw hB hz1 hk1 hS => ?_)
  refine kk u H1 locs1 hw ⟨?_, hB.2, hS⟩
  have := hB.1
  rw [ht] at this
  exact this
theorem z_callSi (C0 : Cx G own cc nL ret p s m args meth c) (Z : Zs G s v H locs) (hl : ls.size = nL) {y : MethodName} {cy : ByteArray} {nLy : Nat} {rety : Option FieldType} {fr lo index n : Nat} {As st0 : List Value} {Qy : Int32 → V3 → Prop} (hM : Mz l y cy nLy rety fr lo G As v (QiZ G Qy)) (hgd : GoodIn tbg (va_wsS own index y (.code y cy nLy rety :: tbg))) (hd : dsc y n) (hR : fr + 1 ≤ R.frames ∧ 8 + (nLy + 11) + lo ≤ R.locals) (hn : As.length = n) (hst : st0 = As.reverse ++ rest) (hW : (rest.map fun v => v.category).sum ≤ 8) (hf : cells ≤ R.cells ∧ slots ≤ R.slots) (hdg : decode cc pc = .ok (.invokestatic index, 3))
    (kk : ∀ (r : Int32) (u : V3) (H1 : Heap) (locs1 : List Loc), Qy r u → Zs G s u H1 locs1 → W p l e R s m args below meth c H1 locs1 cells slots Q (F0 m (pc + 3) ls (.int r :: rest))) : W p l e R s m args below meth c H locs cells slots Q (F0 m pc ls st0) := by
  obtain ⟨hx, hb, hml, -, -, hown, hts, K, -⟩ := C0
  refine va_calli (va_runS (As := As) (rest := rest) ⟨hx, hb, hml, hown, hts⟩ hM (va_cwS n hts hgd rfl rfl rfl hd hR) ⟨PcZ.blind, fun U hU hW => Z.pre K hU hW⟩ rfl hn hl hst (lv_room hW) hdg hf) Z.2.2 (fun q _ h => h) (fun q h => h) (fun r u t H1 locs1 ht hvm hw hB hz1 hk1 hS => ?_)
  refine kk r u H1 locs1 hw ⟨?_, hB.2, hS⟩
  have := hB.1
  rw [ht] at this
  exact this
theorem z_callSv (C0 : Cx G own cc nL ret p s m args meth c) (Z : Zs G s v H locs) (hl : ls.size = nL) {y : MethodName} {cy : ByteArray} {nLy : Nat} {rety : Option FieldType} {fr lo index n : Nat} {As st0 : List Value} {Qy : V3 → Prop} (hM : Mz l y cy nLy rety fr lo G As v (QvZ G Qy)) (hgd : GoodIn tbg (va_wsS own index y (.code y cy nLy rety :: tbg))) (hd : dsc y n) (hR : fr + 1 ≤ R.frames ∧ 8 + (nLy + 11) + lo ≤ R.locals) (hn : As.length = n) (hst : st0 = As.reverse ++ rest) (hW : (rest.map fun v => v.category).sum ≤ 8) (hf : cells ≤ R.cells ∧ slots ≤ R.slots) (hdg : decode cc pc = .ok (.invokestatic index, 3))
    (kk : ∀ (u : V3) (H1 : Heap) (locs1 : List Loc), Qy u → Zs G s u H1 locs1 → W p l e R s m args below meth c H1 locs1 cells slots Q (F0 m (pc + 3) ls rest)) : W p l e R s m args below meth c H locs cells slots Q (F0 m pc ls st0) := by
  obtain ⟨hx, hb, hml, -, -, hown, hts, K, -⟩ := C0
  refine va_callv (va_runS (As := As) (rest := rest) ⟨hx, hb, hml, hown, hts⟩ hM (va_cwS n hts hgd rfl rfl rfl hd hR) ⟨PcZ.blind, fun U hU hW => Z.pre K hU hW⟩ rfl hn hl hst (lv_room hW) hdg hf) Z.2.2 (fun q _ h => h) (fun q h => h) (fun u t H1 locs1 ht hvm hw hB hz1 hk1 hS => ?_)
  refine kk u H1 locs1 hw ⟨?_, hB.2, hS⟩
  have := hB.1
  rw [ht] at this
  exact this
end ZR
end
section
/-! words of the tables, by their places -/
theorem tm_abs_s : Cond.static Lib.Math.abs.name ∈ tbg := tb2 186 (by decide +kernel) (by decide +kernel)
theorem tm_abs_c : Cond.code Lib.Math.abs.name Lib.Math.abs.code 1 (some .int) ∈ tbg := tb2 187 (by decide +kernel) (by decide +kernel)
theorem tm_max_s : Cond.static Lib.Math.max.name ∈ tbg := tb2 114 (by decide +kernel) (by decide +kernel)
theorem tm_max_c : Cond.code Lib.Math.max.name Lib.Math.max.code 2 (some .int) ∈ tbg := tb2 115 (by decide +kernel) (by decide +kernel)
theorem tm_min_s : Cond.static Lib.Math.min.name ∈ tbg := tb1 202 (by decide +kernel) (by decide +kernel)
theorem tm_min_c : Cond.code Lib.Math.min.name Lib.Math.min.code 2 (some .int) ∈ tbg := tb1 203 (by decide +kernel) (by decide +kernel)
theorem tm_math : Cond.initialized "java/lang/Math" ∈ tbg := tb1 12 (by decide +kernel) (by decide +kernel)
theorem tm_1_2 : Cond.initialized RX1 ∈ tbg := tb1 2 (by decide +kernel) (by decide +kernel)
theorem tm_1_43 : Cond.fieldLink RX1 9 RX1 (TX1 0).2.1 (TX1 0).2.2.1 ∈ tbg := tb1 43 (by decide +kernel) (by decide +kernel)
theorem tm_1_46 : Cond.fieldLink RX1 17 RX1 (TX1 1).2.1 (TX1 1).2.2.1 ∈ tbg := tb1 46 (by decide +kernel) (by decide +kernel)
theorem tm_1_49 : Cond.fieldLink RX1 20 RX1 (TX1 2).2.1 (TX1 2).2.2.1 ∈ tbg := tb1 49 (by decide +kernel) (by decide +kernel)
theorem tm_1_52 : Cond.fieldLink RX1 23 RX1 (TX1 3).2.1 (TX1 3).2.2.1 ∈ tbg := tb1 52 (by decide +kernel) (by decide +kernel)
theorem tm_1_54 : Cond.fieldLink RX1 26 RX1 (TX1 4).2.1 (TX1 4).2.2.1 ∈ tbg := tb1 54 (by decide +kernel) (by decide +kernel)
theorem tm_1_58 : Cond.fieldLink RX1 37 RX1 (TX1 6).2.1 (TX1 6).2.2.1 ∈ tbg := tb1 58 (by decide +kernel) (by decide +kernel)
theorem tm_1_61 : Cond.fieldLink RX1 40 RX1 (TX1 7).2.1 (TX1 7).2.2.1 ∈ tbg := tb1 61 (by decide +kernel) (by decide +kernel)
theorem tm_1_64 : Cond.fieldLink RX1 43 RX1 (TX1 8).2.1 (TX1 8).2.2.1 ∈ tbg := tb1 64 (by decide +kernel) (by decide +kernel)
theorem tm_2_79 : Cond.methodLink RX1 69 yX1_activeOf ∈ tbg := tb2 79 (by decide +kernel) (by decide +kernel)
theorem tm_2_80 : Cond.instanceMethod yX1_activeOf ∈ tbg := tb2 80 (by decide +kernel) (by decide +kernel)
theorem tm_2_81 : Cond.selects RX1 yX1_activeOf yX1_activeOf ∈ tbg := tb2 81 (by decide +kernel) (by decide +kernel)
theorem tm_2_82 : Cond.code yX1_activeOf cX1_activeOf 4 (some .int) ∈ tbg := tb2 82 (by decide +kernel) (by decide +kernel)
theorem tm_2_83 : Cond.methodLink RX1 65 yX1_isActive ∈ tbg := tb2 83 (by decide +kernel) (by decide +kernel)
theorem tm_2_84 : Cond.instanceMethod yX1_isActive ∈ tbg := tb2 84 (by decide +kernel) (by decide +kernel)
theorem tm_2_85 : Cond.selects RX1 yX1_isActive yX1_isActive ∈ tbg := tb2 85 (by decide +kernel) (by decide +kernel)
theorem tm_2_86 : Cond.code yX1_isActive cX1_isActive 3 (some .boolean) ∈ tbg := tb2 86 (by decide +kernel) (by decide +kernel)
theorem tm_2_101 : Cond.methodLink RX1 75 yX1_letWait ∈ tbg := tb2 101 (by decide +kernel) (by decide +kernel)
theorem tm_2_102 : Cond.instanceMethod yX1_letWait ∈ tbg := tb2 102 (by decide +kernel) (by decide +kernel)
theorem tm_2_103 : Cond.selects RX1 yX1_letWait yX1_letWait ∈ tbg := tb2 103 (by decide +kernel) (by decide +kernel)
theorem tm_2_104 : Cond.code yX1_letWait cX1_letWait 3 none ∈ tbg := tb2 104 (by decide +kernel) (by decide +kernel)
theorem tm_2_105 : Cond.methodLink RX1 78 yX1_bestTime ∈ tbg := tb2 105 (by decide +kernel) (by decide +kernel)
theorem tm_2_106 : Cond.instanceMethod yX1_bestTime ∈ tbg := tb2 106 (by decide +kernel) (by decide +kernel)
theorem tm_2_107 : Cond.selects RX1 yX1_bestTime yX1_bestTime ∈ tbg := tb2 107 (by decide +kernel) (by decide +kernel)
theorem tm_2_108 : Cond.code yX1_bestTime cX1_bestTime 6 (some .int) ∈ tbg := tb2 108 (by decide +kernel) (by decide +kernel)
theorem tm_2_109 : Cond.methodLink RX1 107 yX1_earliestFit ∈ tbg := tb2 109 (by decide +kernel) (by decide +kernel)
theorem tm_2_110 : Cond.instanceMethod yX1_earliestFit ∈ tbg := tb2 110 (by decide +kernel) (by decide +kernel)
theorem tm_2_111 : Cond.selects RX1 yX1_earliestFit yX1_earliestFit ∈ tbg := tb2 111 (by decide +kernel) (by decide +kernel)
theorem tm_2_112 : Cond.code yX1_earliestFit cX1_earliestFit 9 (some .int) ∈ tbg := tb2 112 (by decide +kernel) (by decide +kernel)
theorem tm_2_113 : Cond.methodLink RX1 104 Lib.Math.max.name ∈ tbg := tb2 113 (by decide +kernel) (by decide +kernel)
theorem tm_2_116 : Cond.methodLink RX1 94 yX1_clashing ∈ tbg := tb2 116 (by decide +kernel) (by decide +kernel)
theorem tm_2_117 : Cond.instanceMethod yX1_clashing ∈ tbg := tb2 117 (by decide +kernel) (by decide +kernel)
theorem tm_2_118 : Cond.selects RX1 yX1_clashing yX1_clashing ∈ tbg := tb2 118 (by decide +kernel) (by decide +kernel)
theorem tm_2_119 : Cond.code yX1_clashing cX1_clashing 9 (some .int) ∈ tbg := tb2 119 (by decide +kernel) (by decide +kernel)
theorem tm_2_120 : Cond.methodLink RX1 111 yX1_latestFit ∈ tbg := tb2 120 (by decide +kernel) (by decide +kernel)
theorem tm_2_121 : Cond.instanceMethod yX1_latestFit ∈ tbg := tb2 121 (by decide +kernel) (by decide +kernel)
theorem tm_2_122 : Cond.selects RX1 yX1_latestFit yX1_latestFit ∈ tbg := tb2 122 (by decide +kernel) (by decide +kernel)
theorem tm_2_123 : Cond.code yX1_latestFit cX1_latestFit 10 (some .int) ∈ tbg := tb2 123 (by decide +kernel) (by decide +kernel)
theorem tm_2_124 : Cond.methodLink RX1 81 yX1_bookAt ∈ tbg := tb2 124 (by decide +kernel) (by decide +kernel)
theorem tm_2_125 : Cond.instanceMethod yX1_bookAt ∈ tbg := tb2 125 (by decide +kernel) (by decide +kernel)
theorem tm_2_126 : Cond.selects RX1 yX1_bookAt yX1_bookAt ∈ tbg := tb2 126 (by decide +kernel) (by decide +kernel)
theorem tm_2_127 : Cond.code yX1_bookAt cX1_bookAt 4 (some .boolean) ∈ tbg := tb2 127 (by decide +kernel) (by decide +kernel)
theorem tm_2_182 : Cond.instanceMethod yX1_joyAt ∈ tbg := tb2 182 (by decide +kernel) (by decide +kernel)
theorem tm_2_183 : Cond.selects RX1 yX1_joyAt yX1_joyAt ∈ tbg := tb2 183 (by decide +kernel) (by decide +kernel)
theorem tm_2_184 : Cond.code yX1_joyAt cX1_joyAt 5 (some .int) ∈ tbg := tb2 184 (by decide +kernel) (by decide +kernel)
theorem tm_2_185 : Cond.methodLink RX1 89 Lib.Math.abs.name ∈ tbg := tb2 185 (by decide +kernel) (by decide +kernel)
theorem tm_2_228 : Cond.instanceMethod yX1_placeWaiting ∈ tbg := tb2 228 (by decide +kernel) (by decide +kernel)
theorem tm_2_229 : Cond.selects RX1 yX1_placeWaiting yX1_placeWaiting ∈ tbg := tb2 229 (by decide +kernel) (by decide +kernel)
theorem tm_2_230 : Cond.code yX1_placeWaiting cX1_placeWaiting 3 none ∈ tbg := tb2 230 (by decide +kernel) (by decide +kernel)
theorem tm_2_231 : Cond.methodLink RX1 114 yX1_queueUp ∈ tbg := tb2 231 (by decide +kernel) (by decide +kernel)
theorem tm_2_233 : Cond.instanceMethod yX1_queueUp ∈ tbg := tb2 233 (by decide +kernel) (by decide +kernel)
theorem tm_2_234 : Cond.code yX1_queueUp cX1_queueUp 5 (some .int) ∈ tbg := tb2 234 (by decide +kernel) (by decide +kernel)
theorem tm_2_235 : Cond.methodLink RX1 61 yX1_brokenOf ∈ tbg := tb2 235 (by decide +kernel) (by decide +kernel)
theorem tm_2_236 : Cond.instanceMethod yX1_brokenOf ∈ tbg := tb2 236 (by decide +kernel) (by decide +kernel)
theorem tm_2_237 : Cond.selects RX1 yX1_brokenOf yX1_brokenOf ∈ tbg := tb2 237 (by decide +kernel) (by decide +kernel)
theorem tm_2_238 : Cond.code yX1_brokenOf cX1_brokenOf 2 (some .int) ∈ tbg := tb2 238 (by decide +kernel) (by decide +kernel)
theorem tm_3_138 : Cond.methodLink RX1 101 Lib.Math.min.name ∈ tbg := tb3 138 (by decide +kernel) (by decide +kernel)
theorem tm_3_176 : Cond.methodLink RX1 72 yX1_joyOf ∈ tbg := tb3 176 (by decide +kernel) (by decide +kernel)
theorem tm_3_177 : Cond.instanceMethod yX1_joyOf ∈ tbg := tb3 177 (by decide +kernel) (by decide +kernel)
theorem tm_3_178 : Cond.selects RX1 yX1_joyOf yX1_joyOf ∈ tbg := tb3 178 (by decide +kernel) (by decide +kernel)
theorem tm_3_179 : Cond.code yX1_joyOf cX1_joyOf 3 (some .int) ∈ tbg := tb3 179 (by decide +kernel) (by decide +kernel)
theorem tm_3_180 : Cond.methodLink RX1 85 yX1_joyAt ∈ tbg := tb3 180 (by decide +kernel) (by decide +kernel)
theorem tm_4_88 : Cond.methodLink RX1 118 yX1_finishHeld ∈ tbg := tb4 88 (by decide +kernel) (by decide +kernel)
theorem tm_4_90 : Cond.instanceMethod yX1_finishHeld ∈ tbg := tb4 90 (by decide +kernel) (by decide +kernel)
theorem tm_4_91 : Cond.code yX1_finishHeld cX1_finishHeld 4 (some .int) ∈ tbg := tb4 91 (by decide +kernel) (by decide +kernel)
theorem tm_4_92 : Cond.methodLink RX1 121 yX1_bumpLate ∈ tbg := tb4 92 (by decide +kernel) (by decide +kernel)
theorem tm_4_94 : Cond.instanceMethod yX1_bumpLate ∈ tbg := tb4 94 (by decide +kernel) (by decide +kernel)
theorem tm_4_95 : Cond.code yX1_bumpLate cX1_bumpLate 4 (some .int) ∈ tbg := tb4 95 (by decide +kernel) (by decide +kernel)
theorem tm_4_96 : Cond.methodLink RX1 124 yX1_expireWaiting ∈ tbg := tb4 96 (by decide +kernel) (by decide +kernel)
theorem tm_4_98 : Cond.instanceMethod yX1_expireWaiting ∈ tbg := tb4 98 (by decide +kernel) (by decide +kernel)
theorem tm_4_99 : Cond.code yX1_expireWaiting cX1_expireWaiting 3 none ∈ tbg := tb4 99 (by decide +kernel) (by decide +kernel)
theorem tm_4_100 : Cond.methodLink RX1 127 yX1_placeWaiting ∈ tbg := tb4 100 (by decide +kernel) (by decide +kernel)
theorem tm_4_123 : Cond.instanceMethod yX1_holderAt ∈ tbg := tb4 123 (by decide +kernel) (by decide +kernel)
theorem tm_4_124 : Cond.selects RX1 yX1_holderAt yX1_holderAt ∈ tbg := tb4 124 (by decide +kernel) (by decide +kernel)
theorem tm_4_125 : Cond.code yX1_holderAt cX1_holderAt 3 (some .int) ∈ tbg := tb4 125 (by decide +kernel) (by decide +kernel)
theorem tm_4_145 : Cond.methodLink RX1 98 yX1_holderAt ∈ tbg := tb4 145 (by decide +kernel) (by decide +kernel)
end
section
/-! MORE ROWS OVER THE STATE: constant places, Math, statics, copies -/
abbrev ix (x : Int32) : Nat := x.toNatClampNeg
def zabs (x : Int32) : Int32 := if 0 ≤ x then x else 0 - x
def zmax (x y : Int32) : Int32 := if x < y then y else x
def zmin (x y : Int32) : Int32 := if y < x then y else x
def zushr (x y : Int32) : Int32 := (x.toUInt32 >>> (y.toUInt32 &&& Int32.toUInt32 31)).toInt32
/-- an int array that is handed over -/
def isIA (G : zG) (c N : Nat) : Prop := c < gn G ∧ ∀ w : V3, ent G w c = .inl (gcA G 0, N, .inl (w c))
/-- n places of cell a over those of cell b -/
def cp2 (v : V3) (a b n : Nat) : V3 := fun c => if c = b then (fun j => if j < n then v a j else v b j) else v c
def cpT (v : V3) (b : Nat) (f : Nat → Int32) (n : Nat) : V3 := fun c => if c = b then (fun j => if j < n then f j else v b j) else v c
theorem z_nb {x : Int32} (h : x = 0 ∨ x = 1) : narrow .boolean (.int x) = .int x := by rcases h with h | h <;> subst h <;> rfl
theorem z_fb {x : Int32} (h : x = 0 ∨ x = 1) : fits .boolean (.int x) = true := by rcases h with h | h <;> subst h <;> rfl
section ZR2
variable {p : Program} {l : Launch} {e : Env} {R : Room} {s : State} {m : MethodId} {args : Array Value} {below : List Frame} {meth : Method} {c : Code} {H : Heap} {locs : List Loc} {cells slots : Nat} {Q : State → Prop}
variable {cc : ByteArray} {pc nL : Nat} {ls : Array Slot} {rest : List Value} {G : zG} {v : V3} {own : String} {ret : Option FieldType}
theorem cx_g (C0 : Cx G own cc nL ret p s m args meth c) : 129 ≤ gn G := C0.2.2.2.2.2.2.2.2
theorem cx_lt (C0 : Cx G own cc nL ret p s m args meth c) {k : Nat} (h : k < 129) : k < gn G := Nat.lt_of_lt_of_le h (cx_g C0)
theorem cx_own (C0 : Cx G own cc nL ret p s m args meth c) : s.vm.findClass own = some m.cls := C0.2.2.2.2.2.1
theorem cx_w (C0 : Cx G own cc nL ret p s m args meth c) {w : Cond} (h : w ∈ tbg) : w.before args s = true := C0.2.2.2.2.2.2.1 w h
theorem cx_K (C0 : Cx G own cc nL ret p s m args meth c) : KW G s := C0.2.2.2.2.2.2.2.1
theorem z_ialdk (C0 : Cx G own cc nL ret p s m args meth c) (Z : Zs G s v H locs) {c0 N j : Nat} {f : Nat → Int32} (hc0 : c0 < gn G) (he : ent G v c0 = .inl (gcA G 0, N, .inl f)) {i : Int32} (hin : vp_in i N) (hj : ix i = j) (hdg : decode cc pc = .ok (.iaload, 1))
    (kk : W p l e R s m args below meth c H locs cells slots Q (F0 m (pc + 1) ls (.int (f j) :: rest))) : W p l e R s m args below meth c H locs cells slots Q (F0 m pc ls (.int i :: .ref (gad G c0) :: rest)) := by
  subst hj
  exact z_iald C0 Z hc0 he hin hdg kk
theorem z_baldk (C0 : Cx G own cc nL ret p s m args meth c) (Z : Zs G s v H locs) {c0 N j : Nat} {f : Nat → Int32} (hc0 : c0 < gn G) (he : ent G v c0 = .inl (gcA G 1, N, .inl f)) {i : Int32} (hin : vp_in i N) (hj : ix i = j) (hdg : decode cc pc = .ok (.baload, 1))
    (kk : W p l e R s m args below meth c H locs cells slots Q (F0 m (pc + 1) ls (.int (f j) :: rest))) : W p l e R s m args below meth c H locs cells slots Q (F0 m pc ls (.int i :: .ref (gad G c0) :: rest)) := by
  subst hj
  exact z_bald C0 Z hc0 he hin hdg kk
theorem z_iastk (C0 : Cx G own cc nL ret p s m args meth c) (Z : Zs G s v H locs) {c0 N j : Nat} (hc0 : c0 < gn G) (he : ∀ w : V3, ent G w c0 = .inl (gcA G 0, N, .inl (w c0))) {i x : Int32} (hin : vp_in i N) (hj : ix i = j) (hdg : decode cc pc = .ok (.iastore, 1))
    (kk : ∀ (H1 : Heap) (locs1 : List Loc), Zs G s (up2 v c0 j x) H1 locs1 → W p l e R s m args below meth c H1 locs1 cells slots Q (F0 m (pc + 1) ls rest)) : W p l e R s m args below meth c H locs cells slots Q (F0 m pc ls (.int x :: .int i :: .ref (gad G c0) :: rest)) := by
  subst hj
  exact z_iast C0 Z hc0 he hin hdg kk
theorem z_abs (C0 : Cx G own cc nL ret p s m args meth c) (hl : ls.size = nL) {index : Nat} (hlink : Cond.methodLink own index Lib.Math.abs.name ∈ tbg) (hf : 1 ≤ R.frames) (hlo : (rest.map fun v => v.category).sum + 13 ≤ R.locals) (hc : cells ≤ R.cells) (hs : slots ≤ R.slots) {x : Int32} (hdg : decode cc pc = .ok (.invokestatic index, 3))
    (kk : W p l e R s m args below meth c H locs cells slots Q (F0 m (pc + 3) ls (.int (zabs x) :: rest))) : W p l e R s m args below meth c H locs cells slots Q (F0 m pc ls (.int x :: rest)) :=
  va_mabs C0.1 C0.2.1 (C0.2.2.1.trans hl.symm) (cx_own C0) (cx_w C0 hlink) (cx_w C0 tm_abs_s) (cx_w C0 tm_math) (cx_w C0 tm_abs_c) hf hlo hc hs hdg kk
theorem z_max (C0 : Cx G own cc nL ret p s m args meth c) (hl : ls.size = nL) {index : Nat} (hlink : Cond.methodLink own index Lib.Math.max.name ∈ tbg) (hf : 1 ≤ R.frames) (hlo : (rest.map fun v => v.category).sum + 13 ≤ R.locals) (hc : cells ≤ R.cells) (hs : slots ≤ R.slots) {x y : Int32} (hdg : decode cc pc = .ok (.invokestatic index, 3))
    (kk : W p l e R s m args below meth c H locs cells slots Q (F0 m (pc + 3) ls (.int (zmax x y) :: rest))) : W p l e R s m args below meth c H locs cells slots Q (F0 m pc ls (.int y :: .int x :: rest)) :=
  va_mmax C0.1 C0.2.1 (C0.2.2.1.trans hl.symm) (cx_own C0) (cx_w C0 hlink) (cx_w C0 tm_max_s) (cx_w C0 tm_math) (cx_w C0 tm_max_c) hf hlo hc hs hdg kk
theorem z_min (C0 : Cx G own cc nL ret p s m args meth c) (hl : ls.size = nL) {index : Nat} (hlink : Cond.methodLink own index Lib.Math.min.name ∈ tbg) (hf : 1 ≤ R.frames) (hlo : (rest.map fun v => v.category).sum + 13 ≤ R.locals) (hc : cells ≤ R.cells) (hs : slots ≤ R.slots) {x y : Int32} (hdg : decode cc pc = .ok (.invokestatic index, 3))
    (kk : W p l e R s m args below meth c H locs cells slots Q (F0 m (pc + 3) ls (.int (zmin x y) :: rest))) : W p l e R s m args below meth c H locs cells slots Q (F0 m pc ls (.int y :: .int x :: rest)) :=
  va_mmin C0.1 C0.2.1 (C0.2.2.1.trans hl.symm) (cx_own C0) (cx_w C0 hlink) (cx_w C0 tm_min_s) (cx_w C0 tm_math) (cx_w C0 tm_min_c) hf hlo hc hs hdg kk
end ZR2
end
section
theorem in_X0 : ∀ w ∈ u_ws RX0 TX0 2, w ∈ tbg := by decide +kernel
theorem in_X1 : ∀ w ∈ u_ws RX1 TX1 11, w ∈ tbg := by decide +kernel
theorem in_X2 : ∀ w ∈ u_ws RX2 TX2 9, w ∈ tbg := by decide +kernel
theorem in_X3 : ∀ w ∈ u_ws RX3 TX3 14, w ∈ tbg := by decide +kernel
theorem in_X4 : ∀ w ∈ u_ws RX4 TX4 34, w ∈ tbg := by decide +kernel
theorem in_0_4 : vp_in 0 4 := by unfold vp_in; decide
theorem in_0_8 : vp_in 0 8 := by unfold vp_in; decide
theorem in_0_10 : vp_in 0 10 := by unfold vp_in; decide
theorem in_1_4 : vp_in 1 4 := by unfold vp_in; decide
theorem in_1_8 : vp_in 1 8 := by unfold vp_in; decide
theorem in_1_10 : vp_in 1 10 := by unfold vp_in; decide
theorem in_2_4 : vp_in 2 4 := by unfold vp_in; decide
theorem in_2_8 : vp_in 2 8 := by unfold vp_in; decide
theorem in_2_10 : vp_in 2 10 := by unfold vp_in; decide
theorem in_3_4 : vp_in 3 4 := by unfold vp_in; decide
theorem in_3_8 : vp_in 3 8 := by unfold vp_in; decide
theorem in_3_10 : vp_in 3 10 := by unfold vp_in; decide
theorem in_4_10 : vp_in 4 10 := by unfold vp_in; decide
theorem in_5_8 : vp_in 5 8 := by unfold vp_in; decide
theorem in_5_10 : vp_in 5 10 := by unfold vp_in; decide
theorem in_6_10 : vp_in 6 10 := by unfold vp_in; decide
theorem in_7_10 : vp_in 7 10 := by unfold vp_in; decide
theorem in_8_10 : vp_in 8 10 := by unfold vp_in; decide
theorem in_9_10 : vp_in 9 10 := by unfold vp_in; decide
theorem nc_0 : ix 0 = 0 := by decide
theorem nc_1 : ix 1 = 1 := by decide
theorem nc_2 : ix 2 = 2 := by decide
theorem nc_3 : ix 3 = 3 := by decide
theorem nc_4 : ix 4 = 4 := by decide
theorem nc_5 : ix 5 = 5 := by decide
theorem nc_6 : ix 6 = 6 := by decide
theorem nc_7 : ix 7 = 7 := by decide
theorem nc_8 : ix 8 = 8 := by decide
theorem nc_9 : ix 9 = 9 := by decide
theorem p_X3_1 {G : zG} {v : V3} {x : Int32} : ent G (up2 v 0 1 x) 0 = .inr (3, [.ref (gad G 1), .int x, .int (v 0 2), .int (v 0 3), .ref (gad G 21), .ref (gad G 75), .ref (gad G 3), .ref (gad G 4), .ref (gad G 6), .int (v 0 9), .int (v 0 10), .int (v 0 11), .ref (gad G 2), .int (v 0 13)]) := rfl
theorem p_X3_2 {G : zG} {v : V3} {x : Int32} : ent G (up2 v 0 2 x) 0 = .inr (3, [.ref (gad G 1), .int (v 0 1), .int x, .int (v 0 3), .ref (gad G 21), .ref (gad G 75), .ref (gad G 3), .ref (gad G 4), .ref (gad G 6), .int (v 0 9), .int (v 0 10), .int (v 0 11), .ref (gad G 2), .int (v 0 13)]) := rfl
theorem p_X3_3 {G : zG} {v : V3} {x : Int32} : ent G (up2 v 0 3 x) 0 = .inr (3, [.ref (gad G 1), .int (v 0 1), .int (v 0 2), .int x, .ref (gad G 21), .ref (gad G 75), .ref (gad G 3), .ref (gad G 4), .ref (gad G 6), .int (v 0 9), .int (v 0 10), .int (v 0 11), .ref (gad G 2), .int (v 0 13)]) := rfl
theorem p_X3_9 {G : zG} {v : V3} {x : Int32} : ent G (up2 v 0 9 x) 0 = .inr (3, [.ref (gad G 1), .int (v 0 1), .int (v 0 2), .int (v 0 3), .ref (gad G 21), .ref (gad G 75), .ref (gad G 3), .ref (gad G 4), .ref (gad G 6), .int x, .int (v 0 10), .int (v 0 11), .ref (gad G 2), .int (v 0 13)]) := rfl
theorem p_X3_10 {G : zG} {v : V3} {x : Int32} : ent G (up2 v 0 10 x) 0 = .inr (3, [.ref (gad G 1), .int (v 0 1), .int (v 0 2), .int (v 0 3), .ref (gad G 21), .ref (gad G 75), .ref (gad G 3), .ref (gad G 4), .ref (gad G 6), .int (v 0 9), .int x, .int (v 0 11), .ref (gad G 2), .int (v 0 13)]) := rfl
theorem p_X3_11 {G : zG} {v : V3} {x : Int32} : ent G (up2 v 0 11 x) 0 = .inr (3, [.ref (gad G 1), .int (v 0 1), .int (v 0 2), .int (v 0 3), .ref (gad G 21), .ref (gad G 75), .ref (gad G 3), .ref (gad G 4), .ref (gad G 6), .int (v 0 9), .int (v 0 10), .int x, .ref (gad G 2), .int (v 0 13)]) := rfl
theorem p_X3_13 {G : zG} {v : V3} {x : Int32} : ent G (up2 v 0 13 x) 0 = .inr (3, [.ref (gad G 1), .int (v 0 1), .int (v 0 2), .int (v 0 3), .ref (gad G 21), .ref (gad G 75), .ref (gad G 3), .ref (gad G 4), .ref (gad G 6), .int (v 0 9), .int (v 0 10), .int (v 0 11), .ref (gad G 2), .int x]) := rfl
theorem p_X2_2 {G : zG} {v : V3} {x : Int32} : ent G (up2 v 6 2 x) 6 = .inr (2, [.ref (gad G 1), .ref (gad G 75), .int x, .int (v 6 3), .int (v 6 4), .int (v 6 5), .int (v 6 6), .int (v 6 7), .int (v 6 8)]) := rfl
theorem p_X2_3 {G : zG} {v : V3} {x : Int32} : ent G (up2 v 6 3 x) 6 = .inr (2, [.ref (gad G 1), .ref (gad G 75), .int (v 6 2), .int x, .int (v 6 4), .int (v 6 5), .int (v 6 6), .int (v 6 7), .int (v 6 8)]) := rfl
theorem p_X2_4 {G : zG} {v : V3} {x : Int32} : ent G (up2 v 6 4 x) 6 = .inr (2, [.ref (gad G 1), .ref (gad G 75), .int (v 6 2), .int (v 6 3), .int x, .int (v 6 5), .int (v 6 6), .int (v 6 7), .int (v 6 8)]) := rfl
theorem p_X2_5 {G : zG} {v : V3} {x : Int32} : ent G (up2 v 6 5 x) 6 = .inr (2, [.ref (gad G 1), .ref (gad G 75), .int (v 6 2), .int (v 6 3), .int (v 6 4), .int x, .int (v 6 6), .int (v 6 7), .int (v 6 8)]) := rfl
theorem p_X2_6 {G : zG} {v : V3} {x : Int32} : ent G (up2 v 6 6 x) 6 = .inr (2, [.ref (gad G 1), .ref (gad G 75), .int (v 6 2), .int (v 6 3), .int (v 6 4), .int (v 6 5), .int x, .int (v 6 7), .int (v 6 8)]) := rfl
theorem p_X2_7 {G : zG} {v : V3} {x : Int32} : ent G (up2 v 6 7 x) 6 = .inr (2, [.ref (gad G 1), .ref (gad G 75), .int (v 6 2), .int (v 6 3), .int (v 6 4), .int (v 6 5), .int (v 6 6), .int x, .int (v 6 8)]) := rfl
theorem p_X2_8 {G : zG} {v : V3} {x : Int32} : ent G (up2 v 6 8 x) 6 = .inr (2, [.ref (gad G 1), .ref (gad G 75), .int (v 6 2), .int (v 6 3), .int (v 6 4), .int (v 6 5), .int (v 6 6), .int (v 6 7), .int x]) := rfl
theorem p_X4_8 {G : zG} {v : V3} {x : Int32} : ent G (up2 v 7 8 x) 7 = .inr (4, [.ref (gad G 8), .ref (gad G 9), .ref (gad G 10), .ref (gad G 11), .ref (gad G 12), .ref (gad G 13), .ref (gad G 14), .ref (gad G 15), .int x, .int (v 7 9), .int (v 7 10), .int (v 7 11), .ref (gad G 16), .int (v 7 13), .int (v 7 14), .int (v 7 15), .int (v 7 16), .int (v 7 17), .int (v 7 18), .int (v 7 19), .int (v 7 20), .long (mk64 (v 7 21) (v 7 34)), .ref (gad G 17), .int (v 7 23), .int (v 7 24), .int (v 7 25), .int (v 7 26), .int (v 7 27), .int (v 7 28), .int (v 7 29), .int (v 7 30), .int (v 7 31), .ref (gad G 18), .int (v 7 33)]) := rfl
theorem p_X4_9 {G : zG} {v : V3} {x : Int32} : ent G (up2 v 7 9 x) 7 = .inr (4, [.ref (gad G 8), .ref (gad G 9), .ref (gad G 10), .ref (gad G 11), .ref (gad G 12), .ref (gad G 13), .ref (gad G 14), .ref (gad G 15), .int (v 7 8), .int x, .int (v 7 10), .int (v 7 11), .ref (gad G 16), .int (v 7 13), .int (v 7 14), .int (v 7 15), .int (v 7 16), .int (v 7 17), .int (v 7 18), .int (v 7 19), .int (v 7 20), .long (mk64 (v 7 21) (v 7 34)), .ref (gad G 17), .int (v 7 23), .int (v 7 24), .int (v 7 25), .int (v 7 26), .int (v 7 27), .int (v 7 28), .int (v 7 29), .int (v 7 30), .int (v 7 31), .ref (gad G 18), .int (v 7 33)]) := rfl
theorem p_X4_10 {G : zG} {v : V3} {x : Int32} : ent G (up2 v 7 10 x) 7 = .inr (4, [.ref (gad G 8), .ref (gad G 9), .ref (gad G 10), .ref (gad G 11), .ref (gad G 12), .ref (gad G 13), .ref (gad G 14), .ref (gad G 15), .int (v 7 8), .int (v 7 9), .int x, .int (v 7 11), .ref (gad G 16), .int (v 7 13), .int (v 7 14), .int (v 7 15), .int (v 7 16), .int (v 7 17), .int (v 7 18), .int (v 7 19), .int (v 7 20), .long (mk64 (v 7 21) (v 7 34)), .ref (gad G 17), .int (v 7 23), .int (v 7 24), .int (v 7 25), .int (v 7 26), .int (v 7 27), .int (v 7 28), .int (v 7 29), .int (v 7 30), .int (v 7 31), .ref (gad G 18), .int (v 7 33)]) := rfl
theorem p_X4_11 {G : zG} {v : V3} {x : Int32} : ent G (up2 v 7 11 x) 7 = .inr (4, [.ref (gad G 8), .ref (gad G 9), .ref (gad G 10), .ref (gad G 11), .ref (gad G 12), .ref (gad G 13), .ref (gad G 14), .ref (gad G 15), .int (v 7 8), .int (v 7 9), .int (v 7 10), .int x, .ref (gad G 16), .int (v 7 13), .int (v 7 14), .int (v 7 15), .int (v 7 16), .int (v 7 17), .int (v 7 18), .int (v 7 19), .int (v 7 20), .long (mk64 (v 7 21) (v 7 34)), .ref (gad G 17), .int (v 7 23), .int (v 7 24), .int (v 7 25), .int (v 7 26), .int (v 7 27), .int (v 7 28), .int (v 7 29), .int (v 7 30), .int (v 7 31), .ref (gad G 18), .int (v 7 33)]) := rfl
theorem p_X4_13 {G : zG} {v : V3} {x : Int32} : ent G (up2 v 7 13 x) 7 = .inr (4, [.ref (gad G 8), .ref (gad G 9), .ref (gad G 10), .ref (gad G 11), .ref (gad G 12), .ref (gad G 13), .ref (gad G 14), .ref (gad G 15), .int (v 7 8), .int (v 7 9), .int (v 7 10), .int (v 7 11), .ref (gad G 16), .int x, .int (v 7 14), .int (v 7 15), .int (v 7 16), .int (v 7 17), .int (v 7 18), .int (v 7 19), .int (v 7 20), .long (mk64 (v 7 21) (v 7 34)), .ref (gad G 17), .int (v 7 23), .int (v 7 24), .int (v 7 25), .int (v 7 26), .int (v 7 27), .int (v 7 28), .int (v 7 29), .int (v 7 30), .int (v 7 31), .ref (gad G 18), .int (v 7 33)]) := rfl
theorem p_X4_14 {G : zG} {v : V3} {x : Int32} : ent G (up2 v 7 14 x) 7 = .inr (4, [.ref (gad G 8), .ref (gad G 9), .ref (gad G 10), .ref (gad G 11), .ref (gad G 12), .ref (gad G 13), .ref (gad G 14), .ref (gad G 15), .int (v 7 8), .int (v 7 9), .int (v 7 10), .int (v 7 11), .ref (gad G 16), .int (v 7 13), .int x, .int (v 7 15), .int (v 7 16), .int (v 7 17), .int (v 7 18), .int (v 7 19), .int (v 7 20), .long (mk64 (v 7 21) (v 7 34)), .ref (gad G 17), .int (v 7 23), .int (v 7 24), .int (v 7 25), .int (v 7 26), .int (v 7 27), .int (v 7 28), .int (v 7 29), .int (v 7 30), .int (v 7 31), .ref (gad G 18), .int (v 7 33)]) := rfl
theorem p_X4_15 {G : zG} {v : V3} {x : Int32} : ent G (up2 v 7 15 x) 7 = .inr (4, [.ref (gad G 8), .ref (gad G 9), .ref (gad G 10), .ref (gad G 11), .ref (gad G 12), .ref (gad G 13), .ref (gad G 14), .ref (gad G 15), .int (v 7 8), .int (v 7 9), .int (v 7 10), .int (v 7 11), .ref (gad G 16), .int (v 7 13), .int (v 7 14), .int x, .int (v 7 16), .int (v 7 17), .int (v 7 18), .int (v 7 19), .int (v 7 20), .long (mk64 (v 7 21) (v 7 34)), .ref (gad G 17), .int (v 7 23), .int (v 7 24), .int (v 7 25), .int (v 7 26), .int (v 7 27), .int (v 7 28), .int (v 7 29), .int (v 7 30), .int (v 7 31), .ref (gad G 18), .int (v 7 33)]) := rfl
theorem p_X4_16 {G : zG} {v : V3} {x : Int32} : ent G (up2 v 7 16 x) 7 = .inr (4, [.ref (gad G 8), .ref (gad G 9), .ref (gad G 10), .ref (gad G 11), .ref (gad G 12), .ref (gad G 13), .ref (gad G 14), .ref (gad G 15), .int (v 7 8), .int (v 7 9), .int (v 7 10), .int (v 7 11), .ref (gad G 16), .int (v 7 13), .int (v 7 14), .int (v 7 15), .int x, .int (v 7 17), .int (v 7 18), .int (v 7 19), .int (v 7 20), .long (mk64 (v 7 21) (v 7 34)), .ref (gad G 17), .int (v 7 23), .int (v 7 24), .int (v 7 25), .int (v 7 26), .int (v 7 27), .int (v 7 28), .int (v 7 29), .int (v 7 30), .int (v 7 31), .ref (gad G 18), .int (v 7 33)]) := rfl
theorem p_X4_17 {G : zG} {v : V3} {x : Int32} : ent G (up2 v 7 17 x) 7 = .inr (4, [.ref (gad G 8), .ref (gad G 9), .ref (gad G 10), .ref (gad G 11), .ref (gad G 12), .ref (gad G 13), .ref (gad G 14), .ref (gad G 15), .int (v 7 8), .int (v 7 9), .int (v 7 10), .int (v 7 11), .ref (gad G 16), .int (v 7 13), .int (v 7 14), .int (v 7 15), .int (v 7 16), .int x, .int (v 7 18), .int (v 7 19), .int (v 7 20), .long (mk64 (v 7 21) (v 7 34)), .ref (gad G 17), .int (v 7 23), .int (v 7 24), .int (v 7 25), .int (v 7 26), .int (v 7 27), .int (v 7 28), .int (v 7 29), .int (v 7 30), .int (v 7 31), .ref (gad G 18), .int (v 7 33)]) := rfl
theorem p_X4_18 {G : zG} {v : V3} {x : Int32} : ent G (up2 v 7 18 x) 7 = .inr (4, [.ref (gad G 8), .ref (gad G 9), .ref (gad G 10), .ref (gad G 11), .ref (gad G 12), .ref (gad G 13), .ref (gad G 14), .ref (gad G 15), .int (v 7 8), .int (v 7 9), .int (v 7 10), .int (v 7 11), .ref (gad G 16), .int (v 7 13), .int (v 7 14), .int (v 7 15), .int (v 7 16), .int (v 7 17), .int x, .int (v 7 19), .int (v 7 20), .long (mk64 (v 7 21) (v 7 34)), .ref (gad G 17), .int (v 7 23), .int (v 7 24), .int (v 7 25), .int (v 7 26), .int (v 7 27), .int (v 7 28), .int (v 7 29), .int (v 7 30), .int (v 7 31), .ref (gad G 18), .int (v 7 33)]) := rfl
theorem p_X4_19 {G : zG} {v : V3} {x : Int32} : ent G (up2 v 7 19 x) 7 = .inr (4, [.ref (gad G 8), .ref (gad G 9), .ref (gad G 10), .ref (gad G 11), .ref (gad G 12), .ref (gad G 13), .ref (gad G 14), .ref (gad G 15), .int (v 7 8), .int (v 7 9), .int (v 7 10), .int (v 7 11), .ref (gad G 16), .int (v 7 13), .int (v 7 14), .int (v 7 15), .int (v 7 16), .int (v 7 17), .int (v 7 18), .int x, .int (v 7 20), .long (mk64 (v 7 21) (v 7 34)), .ref (gad G 17), .int (v 7 23), .int (v 7 24), .int (v 7 25), .int (v 7 26), .int (v 7 27), .int (v 7 28), .int (v 7 29), .int (v 7 30), .int (v 7 31), .ref (gad G 18), .int (v 7 33)]) := rfl
theorem p_X4_20 {G : zG} {v : V3} {x : Int32} : ent G (up2 v 7 20 x) 7 = .inr (4, [.ref (gad G 8), .ref (gad G 9), .ref (gad G 10), .ref (gad G 11), .ref (gad G 12), .ref (gad G 13), .ref (gad G 14), .ref (gad G 15), .int (v 7 8), .int (v 7 9), .int (v 7 10), .int (v 7 11), .ref (gad G 16), .int (v 7 13), .int (v 7 14), .int (v 7 15), .int (v 7 16), .int (v 7 17), .int (v 7 18), .int (v 7 19), .int x, .long (mk64 (v 7 21) (v 7 34)), .ref (gad G 17), .int (v 7 23), .int (v 7 24), .int (v 7 25), .int (v 7 26), .int (v 7 27), .int (v 7 28), .int (v 7 29), .int (v 7 30), .int (v 7 31), .ref (gad G 18), .int (v 7 33)]) := rfl
theorem p_X4_23 {G : zG} {v : V3} {x : Int32} : ent G (up2 v 7 23 x) 7 = .inr (4, [.ref (gad G 8), .ref (gad G 9), .ref (gad G 10), .ref (gad G 11), .ref (gad G 12), .ref (gad G 13), .ref (gad G 14), .ref (gad G 15), .int (v 7 8), .int (v 7 9), .int (v 7 10), .int (v 7 11), .ref (gad G 16), .int (v 7 13), .int (v 7 14), .int (v 7 15), .int (v 7 16), .int (v 7 17), .int (v 7 18), .int (v 7 19), .int (v 7 20), .long (mk64 (v 7 21) (v 7 34)), .ref (gad G 17), .int x, .int (v 7 24), .int (v 7 25), .int (v 7 26), .int (v 7 27), .int (v 7 28), .int (v 7 29), .int (v 7 30), .int (v 7 31), .ref (gad G 18), .int (v 7 33)]) := rfl
theorem p_X4_24 {G : zG} {v : V3} {x : Int32} : ent G (up2 v 7 24 x) 7 = .inr (4, [.ref (gad G 8), .ref (gad G 9), .ref (gad G 10), .ref (gad G 11), .ref (gad G 12), .ref (gad G 13), .ref (gad G 14), .ref (gad G 15), .int (v 7 8), .int (v 7 9), .int (v 7 10), .int (v 7 11), .ref (gad G 16), .int (v 7 13), .int (v 7 14), .int (v 7 15), .int (v 7 16), .int (v 7 17), .int (v 7 18), .int (v 7 19), .int (v 7 20), .long (mk64 (v 7 21) (v 7 34)), .ref (gad G 17), .int (v 7 23), .int x, .int (v 7 25), .int (v 7 26), .int (v 7 27), .int (v 7 28), .int (v 7 29), .int (v 7 30), .int (v 7 31), .ref (gad G 18), .int (v 7 33)]) := rfl
theorem p_X4_25 {G : zG} {v : V3} {x : Int32} : ent G (up2 v 7 25 x) 7 = .inr (4, [.ref (gad G 8), .ref (gad G 9), .ref (gad G 10), .ref (gad G 11), .ref (gad G 12), .ref (gad G 13), .ref (gad G 14), .ref (gad G 15), .int (v 7 8), .int (v 7 9), .int (v 7 10), .int (v 7 11), .ref (gad G 16), .int (v 7 13), .int (v 7 14), .int (v 7 15), .int (v 7 16), .int (v 7 17), .int (v 7 18), .int (v 7 19), .int (v 7 20), .long (mk64 (v 7 21) (v 7 34)), .ref (gad G 17), .int (v 7 23), .int (v 7 24), .int x, .int (v 7 26), .int (v 7 27), .int (v 7 28), .int (v 7 29), .int (v 7 30), .int (v 7 31), .ref (gad G 18), .int (v 7 33)]) := rfl
theorem p_X4_26 {G : zG} {v : V3} {x : Int32} : ent G (up2 v 7 26 x) 7 = .inr (4, [.ref (gad G 8), .ref (gad G 9), .ref (gad G 10), .ref (gad G 11), .ref (gad G 12), .ref (gad G 13), .ref (gad G 14), .ref (gad G 15), .int (v 7 8), .int (v 7 9), .int (v 7 10), .int (v 7 11), .ref (gad G 16), .int (v 7 13), .int (v 7 14), .int (v 7 15), .int (v 7 16), .int (v 7 17), .int (v 7 18), .int (v 7 19), .int (v 7 20), .long (mk64 (v 7 21) (v 7 34)), .ref (gad G 17), .int (v 7 23), .int (v 7 24), .int (v 7 25), .int x, .int (v 7 27), .int (v 7 28), .int (v 7 29), .int (v 7 30), .int (v 7 31), .ref (gad G 18), .int (v 7 33)]) := rfl
theorem p_X4_27 {G : zG} {v : V3} {x : Int32} : ent G (up2 v 7 27 x) 7 = .inr (4, [.ref (gad G 8), .ref (gad G 9), .ref (gad G 10), .ref (gad G 11), .ref (gad G 12), .ref (gad G 13), .ref (gad G 14), .ref (gad G 15), .int (v 7 8), .int (v 7 9), .int (v 7 10), .int (v 7 11), .ref (gad G 16), .int (v 7 13), .int (v 7 14), .int (v 7 15), .int (v 7 16), .int (v 7 17), .int (v 7 18), .int (v 7 19), .int (v 7 20), .long (mk64 (v 7 21) (v 7 34)), .ref (gad G 17), .int (v 7 23), .int (v 7 24), .int (v 7 25), .int (v 7 26), .int x, .int (v 7 28), .int (v 7 29), .int (v 7 30), .int (v 7 31), .ref (gad G 18), .int (v 7 33)]) := rfl
theorem p_X4_28 {G : zG} {v : V3} {x : Int32} : ent G (up2 v 7 28 x) 7 = .inr (4, [.ref (gad G 8), .ref (gad G 9), .ref (gad G 10), .ref (gad G 11), .ref (gad G 12), .ref (gad G 13), .ref (gad G 14), .ref (gad G 15), .int (v 7 8), .int (v 7 9), .int (v 7 10), .int (v 7 11), .ref (gad G 16), .int (v 7 13), .int (v 7 14), .int (v 7 15), .int (v 7 16), .int (v 7 17), .int (v 7 18), .int (v 7 19), .int (v 7 20), .long (mk64 (v 7 21) (v 7 34)), .ref (gad G 17), .int (v 7 23), .int (v 7 24), .int (v 7 25), .int (v 7 26), .int (v 7 27), .int x, .int (v 7 29), .int (v 7 30), .int (v 7 31), .ref (gad G 18), .int (v 7 33)]) := rfl
theorem p_X4_29 {G : zG} {v : V3} {x : Int32} : ent G (up2 v 7 29 x) 7 = .inr (4, [.ref (gad G 8), .ref (gad G 9), .ref (gad G 10), .ref (gad G 11), .ref (gad G 12), .ref (gad G 13), .ref (gad G 14), .ref (gad G 15), .int (v 7 8), .int (v 7 9), .int (v 7 10), .int (v 7 11), .ref (gad G 16), .int (v 7 13), .int (v 7 14), .int (v 7 15), .int (v 7 16), .int (v 7 17), .int (v 7 18), .int (v 7 19), .int (v 7 20), .long (mk64 (v 7 21) (v 7 34)), .ref (gad G 17), .int (v 7 23), .int (v 7 24), .int (v 7 25), .int (v 7 26), .int (v 7 27), .int (v 7 28), .int x, .int (v 7 30), .int (v 7 31), .ref (gad G 18), .int (v 7 33)]) := rfl
theorem p_X4_30 {G : zG} {v : V3} {x : Int32} : ent G (up2 v 7 30 x) 7 = .inr (4, [.ref (gad G 8), .ref (gad G 9), .ref (gad G 10), .ref (gad G 11), .ref (gad G 12), .ref (gad G 13), .ref (gad G 14), .ref (gad G 15), .int (v 7 8), .int (v 7 9), .int (v 7 10), .int (v 7 11), .ref (gad G 16), .int (v 7 13), .int (v 7 14), .int (v 7 15), .int (v 7 16), .int (v 7 17), .int (v 7 18), .int (v 7 19), .int (v 7 20), .long (mk64 (v 7 21) (v 7 34)), .ref (gad G 17), .int (v 7 23), .int (v 7 24), .int (v 7 25), .int (v 7 26), .int (v 7 27), .int (v 7 28), .int (v 7 29), .int x, .int (v 7 31), .ref (gad G 18), .int (v 7 33)]) := rfl
theorem p_X4_31 {G : zG} {v : V3} {x : Int32} : ent G (up2 v 7 31 x) 7 = .inr (4, [.ref (gad G 8), .ref (gad G 9), .ref (gad G 10), .ref (gad G 11), .ref (gad G 12), .ref (gad G 13), .ref (gad G 14), .ref (gad G 15), .int (v 7 8), .int (v 7 9), .int (v 7 10), .int (v 7 11), .ref (gad G 16), .int (v 7 13), .int (v 7 14), .int (v 7 15), .int (v 7 16), .int (v 7 17), .int (v 7 18), .int (v 7 19), .int (v 7 20), .long (mk64 (v 7 21) (v 7 34)), .ref (gad G 17), .int (v 7 23), .int (v 7 24), .int (v 7 25), .int (v 7 26), .int (v 7 27), .int (v 7 28), .int (v 7 29), .int (v 7 30), .int x, .ref (gad G 18), .int (v 7 33)]) := rfl
theorem p_X4_33 {G : zG} {v : V3} {x : Int32} : ent G (up2 v 7 33 x) 7 = .inr (4, [.ref (gad G 8), .ref (gad G 9), .ref (gad G 10), .ref (gad G 11), .ref (gad G 12), .ref (gad G 13), .ref (gad G 14), .ref (gad G 15), .int (v 7 8), .int (v 7 9), .int (v 7 10), .int (v 7 11), .ref (gad G 16), .int (v 7 13), .int (v 7 14), .int (v 7 15), .int (v 7 16), .int (v 7 17), .int (v 7 18), .int (v 7 19), .int (v 7 20), .long (mk64 (v 7 21) (v 7 34)), .ref (gad G 17), .int (v 7 23), .int (v 7 24), .int (v 7 25), .int (v 7 26), .int (v 7 27), .int (v 7 28), .int (v 7 29), .int (v 7 30), .int (v 7 31), .ref (gad G 18), .int x]) := rfl
theorem p_X1_5 {G : zG} {v : V3} {b : Nat} {x : Int32} (h : isL G b) : ent G (up2 v b 5 x) b = .inr (1, [.ref (gad G (b + 1)), .ref (gad G (b + 2)), .ref (gad G (b + 3)), .ref (gad G (b + 4)), .ref (gad G (b + 5)), .int x, .int (v b 6), .int (v b 7), .int (v b 8), .int (v b 9), .int (v b 10)]) := by rw [ent_L h]; simp [up2_row, upd]
theorem p_X1_6 {G : zG} {v : V3} {b : Nat} {x : Int32} (h : isL G b) : ent G (up2 v b 6 x) b = .inr (1, [.ref (gad G (b + 1)), .ref (gad G (b + 2)), .ref (gad G (b + 3)), .ref (gad G (b + 4)), .ref (gad G (b + 5)), .int (v b 5), .int x, .int (v b 7), .int (v b 8), .int (v b 9), .int (v b 10)]) := by rw [ent_L h]; simp [up2_row, upd]
theorem p_X1_7 {G : zG} {v : V3} {b : Nat} {x : Int32} (h : isL G b) : ent G (up2 v b 7 x) b = .inr (1, [.ref (gad G (b + 1)), .ref (gad G (b + 2)), .ref (gad G (b + 3)), .ref (gad G (b + 4)), .ref (gad G (b + 5)), .int (v b 5), .int (v b 6), .int x, .int (v b 8), .int (v b 9), .int (v b 10)]) := by rw [ent_L h]; simp [up2_row, upd]
theorem p_X1_8 {G : zG} {v : V3} {b : Nat} {x : Int32} (h : isL G b) : ent G (up2 v b 8 x) b = .inr (1, [.ref (gad G (b + 1)), .ref (gad G (b + 2)), .ref (gad G (b + 3)), .ref (gad G (b + 4)), .ref (gad G (b + 5)), .int (v b 5), .int (v b 6), .int (v b 7), .int x, .int (v b 9), .int (v b 10)]) := by rw [ent_L h]; simp [up2_row, upd]
theorem p_X1_9 {G : zG} {v : V3} {b : Nat} {x : Int32} (h : isL G b) : ent G (up2 v b 9 x) b = .inr (1, [.ref (gad G (b + 1)), .ref (gad G (b + 2)), .ref (gad G (b + 3)), .ref (gad G (b + 4)), .ref (gad G (b + 5)), .int (v b 5), .int (v b 6), .int (v b 7), .int (v b 8), .int x, .int (v b 10)]) := by rw [ent_L h]; simp [up2_row, upd]
theorem p_X1_10 {G : zG} {v : V3} {b : Nat} {x : Int32} (h : isL G b) : ent G (up2 v b 10 x) b = .inr (1, [.ref (gad G (b + 1)), .ref (gad G (b + 2)), .ref (gad G (b + 3)), .ref (gad G (b + 4)), .ref (gad G (b + 5)), .int (v b 5), .int (v b 6), .int (v b 7), .int (v b 8), .int (v b 9), .int x]) := by rw [ent_L h]; simp [up2_row, upd]
theorem gv_X1_activeOf {own : String} {idx : Nat} (h : Cond.methodLink own idx yX1_activeOf ∈ tbg) : GoodIn tbg (wsV own idx RX1 yX1_activeOf (.code yX1_activeOf cX1_activeOf 4 (some .int) :: tbg)) := z_goodV h tm_2_80 tm_2_81 tm_1_2 tm_2_82
theorem ds_X1_activeOf : dsc yX1_activeOf 1 := ⟨by decide +kernel, by decide +kernel, by decide +kernel⟩
theorem gv_X1_bestTime {own : String} {idx : Nat} (h : Cond.methodLink own idx yX1_bestTime ∈ tbg) : GoodIn tbg (wsV own idx RX1 yX1_bestTime (.code yX1_bestTime cX1_bestTime 6 (some .int) :: tbg)) := z_goodV h tm_2_106 tm_2_107 tm_1_2 tm_2_108
theorem ds_X1_bestTime : dsc yX1_bestTime 1 := ⟨by decide +kernel, by decide +kernel, by decide +kernel⟩
theorem gv_X1_bookAt {own : String} {idx : Nat} (h : Cond.methodLink own idx yX1_bookAt ∈ tbg) : GoodIn tbg (wsV own idx RX1 yX1_bookAt (.code yX1_bookAt cX1_bookAt 4 (some .boolean) :: tbg)) := z_goodV h tm_2_125 tm_2_126 tm_1_2 tm_2_127
theorem ds_X1_bookAt : dsc yX1_bookAt 2 := ⟨by decide +kernel, by decide +kernel, by decide +kernel⟩
theorem gv_X1_brokenOf {own : String} {idx : Nat} (h : Cond.methodLink own idx yX1_brokenOf ∈ tbg) : GoodIn tbg (wsV own idx RX1 yX1_brokenOf (.code yX1_brokenOf cX1_brokenOf 2 (some .int) :: tbg)) := z_goodV h tm_2_236 tm_2_237 tm_1_2 tm_2_238
theorem ds_X1_brokenOf : dsc yX1_brokenOf 1 := ⟨by decide +kernel, by decide +kernel, by decide +kernel⟩
theorem gv_X1_bumpLate {own : String} {idx : Nat} (h : Cond.methodLink own idx yX1_bumpLate ∈ tbg) : GoodIn tbg (wsV own idx RX1 yX1_bumpLate (.code yX1_bumpLate cX1_bumpLate 4 (some .int) :: tbg)) := z_goodV h tm_4_94 (tb0 (by decide +kernel) (by decide +kernel)) tm_1_2 tm_4_95
theorem ds_X1_bumpLate : dsc yX1_bumpLate 0 := ⟨by decide +kernel, by decide +kernel, by decide +kernel⟩
theorem gv_X1_clashing {own : String} {idx : Nat} (h : Cond.methodLink own idx yX1_clashing ∈ tbg) : GoodIn tbg (wsV own idx RX1 yX1_clashing (.code yX1_clashing cX1_clashing 9 (some .int) :: tbg)) := z_goodV h tm_2_117 tm_2_118 tm_1_2 tm_2_119
theorem ds_X1_clashing : dsc yX1_clashing 6 := ⟨by decide +kernel, by decide +kernel, by decide +kernel⟩
theorem gv_X1_earliestFit {own : String} {idx : Nat} (h : Cond.methodLink own idx yX1_earliestFit ∈ tbg) : GoodIn tbg (wsV own idx RX1 yX1_earliestFit (.code yX1_earliestFit cX1_earliestFit 9 (some .int) :: tbg)) := z_goodV h tm_2_110 tm_2_111 tm_1_2 tm_2_112
theorem ds_X1_earliestFit : dsc yX1_earliestFit 5 := ⟨by decide +kernel, by decide +kernel, by decide +kernel⟩
theorem gv_X1_expireWaiting {own : String} {idx : Nat} (h : Cond.methodLink own idx yX1_expireWaiting ∈ tbg) : GoodIn tbg (wsV own idx RX1 yX1_expireWaiting (.code yX1_expireWaiting cX1_expireWaiting 3 none :: tbg)) := z_goodV h tm_4_98 (tb0 (by decide +kernel) (by decide +kernel)) tm_1_2 tm_4_99
theorem ds_X1_expireWaiting : dsc yX1_expireWaiting 0 := ⟨by decide +kernel, by decide +kernel, by decide +kernel⟩
theorem gv_X1_finishHeld {own : String} {idx : Nat} (h : Cond.methodLink own idx yX1_finishHeld ∈ tbg) : GoodIn tbg (wsV own idx RX1 yX1_finishHeld (.code yX1_finishHeld cX1_finishHeld 4 (some .int) :: tbg)) := z_goodV h tm_4_90 (tb0 (by decide +kernel) (by decide +kernel)) tm_1_2 tm_4_91
theorem ds_X1_finishHeld : dsc yX1_finishHeld 0 := ⟨by decide +kernel, by decide +kernel, by decide +kernel⟩
theorem gv_X1_holderAt {own : String} {idx : Nat} (h : Cond.methodLink own idx yX1_holderAt ∈ tbg) : GoodIn tbg (wsV own idx RX1 yX1_holderAt (.code yX1_holderAt cX1_holderAt 3 (some .int) :: tbg)) := z_goodV h tm_4_123 tm_4_124 tm_1_2 tm_4_125
theorem ds_X1_holderAt : dsc yX1_holderAt 2 := ⟨by decide +kernel, by decide +kernel, by decide +kernel⟩
theorem gv_X1_isActive {own : String} {idx : Nat} (h : Cond.methodLink own idx yX1_isActive ∈ tbg) : GoodIn tbg (wsV own idx RX1 yX1_isActive (.code yX1_isActive cX1_isActive 3 (some .boolean) :: tbg)) := z_goodV h tm_2_84 tm_2_85 tm_1_2 tm_2_86
theorem ds_X1_isActive : dsc yX1_isActive 1 := ⟨by decide +kernel, by decide +kernel, by decide +kernel⟩
theorem gv_X1_joyAt {own : String} {idx : Nat} (h : Cond.methodLink own idx yX1_joyAt ∈ tbg) : GoodIn tbg (wsV own idx RX1 yX1_joyAt (.code yX1_joyAt cX1_joyAt 5 (some .int) :: tbg)) := z_goodV h tm_2_182 tm_2_183 tm_1_2 tm_2_184
theorem ds_X1_joyAt : dsc yX1_joyAt 2 := ⟨by decide +kernel, by decide +kernel, by decide +kernel⟩
theorem gv_X1_joyOf {own : String} {idx : Nat} (h : Cond.methodLink own idx yX1_joyOf ∈ tbg) : GoodIn tbg (wsV own idx RX1 yX1_joyOf (.code yX1_joyOf cX1_joyOf 3 (some .int) :: tbg)) := z_goodV h tm_3_177 tm_3_178 tm_1_2 tm_3_179
theorem ds_X1_joyOf : dsc yX1_joyOf 1 := ⟨by decide +kernel, by decide +kernel, by decide +kernel⟩
theorem gv_X1_latestFit {own : String} {idx : Nat} (h : Cond.methodLink own idx yX1_latestFit ∈ tbg) : GoodIn tbg (wsV own idx RX1 yX1_latestFit (.code yX1_latestFit cX1_latestFit 10 (some .int) :: tbg)) := z_goodV h tm_2_121 tm_2_122 tm_1_2 tm_2_123
theorem ds_X1_latestFit : dsc yX1_latestFit 5 := ⟨by decide +kernel, by decide +kernel, by decide +kernel⟩
theorem gv_X1_letWait {own : String} {idx : Nat} (h : Cond.methodLink own idx yX1_letWait ∈ tbg) : GoodIn tbg (wsV own idx RX1 yX1_letWait (.code yX1_letWait cX1_letWait 3 none :: tbg)) := z_goodV h tm_2_102 tm_2_103 tm_1_2 tm_2_104
theorem ds_X1_letWait : dsc yX1_letWait 1 := ⟨by decide +kernel, by decide +kernel, by decide +kernel⟩
theorem gv_X1_placeWaiting {own : String} {idx : Nat} (h : Cond.methodLink own idx yX1_placeWaiting ∈ tbg) : GoodIn tbg (wsV own idx RX1 yX1_placeWaiting (.code yX1_placeWaiting cX1_placeWaiting 3 none :: tbg)) := z_goodV h tm_2_228 tm_2_229 tm_1_2 tm_2_230
theorem ds_X1_placeWaiting : dsc yX1_placeWaiting 0 := ⟨by decide +kernel, by decide +kernel, by decide +kernel⟩
theorem gv_X1_queueUp {own : String} {idx : Nat} (h : Cond.methodLink own idx yX1_queueUp ∈ tbg) : GoodIn tbg (wsV own idx RX1 yX1_queueUp (.code yX1_queueUp cX1_queueUp 5 (some .int) :: tbg)) := z_goodV h tm_2_233 (tb0 (by decide +kernel) (by decide +kernel)) tm_1_2 tm_2_234
theorem ds_X1_queueUp : dsc yX1_queueUp 0 := ⟨by decide +kernel, by decide +kernel, by decide +kernel⟩
end
section
-- X1_brokenOf: room (0, 0)
theorem dX1_brokenOf_0 : decode cX1_brokenOf 0 = .ok (.aload_n 0, 1) := by decide +kernel
theorem dX1_brokenOf_1 : decode cX1_brokenOf 1 = .ok (.getfield 17, 3) := by decide +kernel
theorem dX1_brokenOf_4 : decode cX1_brokenOf 4 = .ok (.iload_n 1, 1) := by decide +kernel
theorem dX1_brokenOf_5 : decode cX1_brokenOf 5 = .ok (.aaload, 1) := by decide +kernel
theorem dX1_brokenOf_6 : decode cX1_brokenOf 6 = .ok (.iconst 2, 1) := by decide +kernel
theorem dX1_brokenOf_7 : decode cX1_brokenOf 7 = .ok (.iaload, 1) := by decide +kernel
theorem dX1_brokenOf_8 : decode cX1_brokenOf 8 = .ok (.aload_n 0, 1) := by decide +kernel
theorem dX1_brokenOf_9 : decode cX1_brokenOf 9 = .ok (.getfield 17, 3) := by decide +kernel
theorem dX1_brokenOf_12 : decode cX1_brokenOf 12 = .ok (.iload_n 1, 1) := by decide +kernel
theorem dX1_brokenOf_13 : decode cX1_brokenOf 13 = .ok (.aaload, 1) := by decide +kernel
theorem dX1_brokenOf_14 : decode cX1_brokenOf 14 = .ok (.iconst 3, 1) := by decide +kernel
theorem dX1_brokenOf_15 : decode cX1_brokenOf 15 = .ok (.iaload, 1) := by decide +kernel
theorem dX1_brokenOf_16 : decode cX1_brokenOf 16 = .ok (.iadd, 1) := by decide +kernel
theorem dX1_brokenOf_17 : decode cX1_brokenOf 17 = .ok (.ireturn, 1) := by decide +kernel
def w_X1_brokenOf (this : Nat) (a1 : Int32) (v : V3) (Q : Int32 → V3 → Prop) : Prop := vp_in a1 8 ∧ vp_in a1 8 ∧ Q ((v (this + 6 + (ix a1)) 2) + (v (this + 6 + (ix a1)) 3)) v
set_option maxRecDepth 100000 in
set_option maxHeartbeats 4000000 in
theorem k_X1_brokenOf (l : Launch) {G : zG} (hg : 129 ≤ gn G) {this : Nat} {a1 : Int32} (hL : isL G this) {v : V3} {Q : Int32 → V3 → Prop} (hw : w_X1_brokenOf this a1 v Q) : Mz l yX1_brokenOf cX1_brokenOf 2 (some .int) 0 0 G [.ref (gad G this), .int a1] v (QiZ G Q) := by
  rw [w_X1_brokenOf] at hw
  refine z_ofW hg (by decide) (Nat.le_of_ble_eq_true rfl) ?_
  intro p e s m args below meth c ls C0 Z hl
  have hx := C0.1
  have hb := C0.2.1
  replace hl : lv_has ls 2 [(0, .ref (gad G this)), (1, .int a1)] := hl
  generalize s.heap = H at Z ⊢
  generalize ([] : List Loc) = locs at Z ⊢
  refine lv_aload_n hx hb dX1_brokenOf_0 rfl (lv_at hl 0 rfl) ?_
  refine z_get C0 Z in_X1 rfl 1 (by decide) rfl tm_1_46 (isL_lt0 hL) (ent_L hL) rfl dX1_brokenOf_1 ?_
  refine lv_iload_n hx hb dX1_brokenOf_4 rfl (lv_at hl 1 rfl) ?_
  obtain ⟨h1, hw⟩ := hw
  have h2 := vp_lt h1
  refine z_aald C0 Z (isL_lt hL 2 (by decide)) (ent_L2 hL) h1 dX1_brokenOf_5 ?_
  refine lv_iconst (v := 2) hx hb dX1_brokenOf_6 (by decide) ?_
  refine z_ialdk C0 Z (isL_O hL h2) (ent_O hL h2) in_2_8 nc_2 dX1_brokenOf_7 ?_
  refine lv_aload_n hx hb dX1_brokenOf_8 rfl (lv_at hl 0 rfl) ?_
  refine z_get C0 Z in_X1 rfl 1 (by decide) rfl tm_1_46 (isL_lt0 hL) (ent_L hL) rfl dX1_brokenOf_9 ?_
  refine lv_iload_n hx hb dX1_brokenOf_12 rfl (lv_at hl 1 rfl) ?_
  obtain ⟨h3, hw⟩ := hw
  have h4 := vp_lt h3
  refine z_aald C0 Z (isL_lt hL 2 (by decide)) (ent_L2 hL) h3 dX1_brokenOf_13 ?_
  refine lv_iconst (v := 3) hx hb dX1_brokenOf_14 (by decide) ?_
  refine z_ialdk C0 Z (isL_O hL h4) (ent_O hL h4) in_3_8 nc_3 dX1_brokenOf_15 ?_
  refine lv_iadd hx hb dX1_brokenOf_16 ?_
  exact z_iret C0 Z hw dX1_brokenOf_17
-- X1_isBarred: room (1, 21)
theorem dX1_isBarred_0 : decode cX1_isBarred 0 = .ok (.aload_n 0, 1) := by decide +kernel
theorem dX1_isBarred_1 : decode cX1_isBarred 1 = .ok (.iload_n 1, 1) := by decide +kernel
theorem dX1_isBarred_2 : decode cX1_isBarred 2 = .ok (.invokevirtual 61, 3) := by decide +kernel
theorem dX1_isBarred_5 : decode cX1_isBarred 5 = .ok (.aload_n 0, 1) := by decide +kernel
theorem dX1_isBarred_6 : decode cX1_isBarred 6 = .ok (.getfield 9, 3) := by decide +kernel
theorem dX1_isBarred_9 : decode cX1_isBarred 9 = .ok (.iconst 3, 1) := by decide +kernel
theorem dX1_isBarred_10 : decode cX1_isBarred 10 = .ok (.iaload, 1) := by decide +kernel
theorem dX1_isBarred_11 : decode cX1_isBarred 11 = .ok (.if_icmp .lt 7, 3) := by decide +kernel
theorem dX1_isBarred_14 : decode cX1_isBarred 14 = .ok (.iconst 1, 1) := by decide +kernel
theorem dX1_isBarred_15 : decode cX1_isBarred 15 = .ok (.goto 4, 3) := by decide +kernel
theorem dX1_isBarred_18 : decode cX1_isBarred 18 = .ok (.iconst 0, 1) := by decide +kernel
theorem dX1_isBarred_19 : decode cX1_isBarred 19 = .ok (.ireturn, 1) := by decide +kernel
def w_X1_isBarred_19 (this : Nat) (Q : Int32 → V3 → Prop) (s0 : Int32) (v : V3) : Prop := (s0 = 0 ∨ s0 = 1) ∧ Q s0 v
def w_X1_isBarred (this : Nat) (a1 : Int32) (v : V3) (Q : Int32 → V3 → Prop) : Prop := w_X1_brokenOf this a1 v (fun r2 v1 => ((r2 < (v1 (this + 1) 3) → w_X1_isBarred_19 this Q 0 v1) ∧ (¬ r2 < (v1 (this + 1) 3) → w_X1_isBarred_19 this Q 1 v1)))
set_option maxRecDepth 100000 in
set_option maxHeartbeats 4000000 in
theorem b_X1_isBarred_19 {p : Program} (l : Launch) {e : Env} {s : State} {m : MethodId} {args : Array Value} {below : List Frame} {meth : Method} {c : Code} {G : zG} {this : Nat} (hL : isL G this) (C0 : Cx G RX1 cX1_isBarred 2 (some .boolean) p s m args meth c) {Q : Int32 → V3 → Prop} : ∀ (s0 : Int32) (v : V3) (H : Heap) (locs : List Loc) (ls : Array Slot), w_X1_isBarred_19 this Q s0 v → Zs G s v H locs → lv_has ls 2 [] → W p l e { frames := 1, cells := 0, slots := 0, locals := 21 } s m args below meth c H locs 0 0 (MQ below (QiZ G Q) args s 0 0 (zA G)) (F0 m 19 ls [.int s0]) := by
  have hx := C0.1
  have hb := C0.2.1
  intro s0 v H locs ls hw Z hl
  rw [w_X1_isBarred_19] at hw
  obtain ⟨h4, hw⟩ := hw
  exact z_zret C0 Z h4 hw dX1_isBarred_19
set_option maxRecDepth 100000 in
set_option maxHeartbeats 4000000 in
theorem k_X1_isBarred (l : Launch) {G : zG} (hg : 129 ≤ gn G) {this : Nat} {a1 : Int32} (hL : isL G this) {v : V3} {Q : Int32 → V3 → Prop} (hw : w_X1_isBarred this a1 v Q) : Mz l yX1_isBarred cX1_isBarred 2 (some .boolean) 1 21 G [.ref (gad G this), .int a1] v (QiZ G Q) := by
  rw [w_X1_isBarred] at hw
  refine z_ofW hg (by decide) (Nat.le_of_ble_eq_true rfl) ?_
  intro p e s m args below meth c ls C0 Z hl
  have hx := C0.1
  have hb := C0.2.1
  replace hl : lv_has ls 2 [(0, .ref (gad G this)), (1, .int a1)] := hl
  generalize s.heap = H at Z ⊢
  generalize ([] : List Loc) = locs at Z ⊢
  refine lv_aload_n hx hb dX1_isBarred_0 rfl (lv_at hl 0 rfl) ?_
  refine lv_iload_n hx hb dX1_isBarred_1 rfl (lv_at hl 1 rfl) ?_
  refine z_callVi C0 Z hl.1 (As := [.int a1]) (rest := []) (k_X1_brokenOf l (cx_g C0) hL hw) (gv_X1_brokenOf tm_2_235) rfl ds_X1_brokenOf ⟨Nat.le_of_ble_eq_true rfl, Nat.le_of_ble_eq_true rfl⟩ (ci := 1) rfl (isL_lt0 hL) (ent_L hL) rfl rfl (Nat.le_of_ble_eq_true rfl) ⟨Nat.zero_le _, Nat.zero_le _⟩ dX1_isBarred_2 (fun r2 v1 H locs hw Z => ?_)
  refine lv_aload_n hx hb dX1_isBarred_5 rfl (lv_at hl 0 rfl) ?_
  refine z_get C0 Z in_X1 rfl 0 (by decide) rfl tm_1_43 (isL_lt0 hL) (ent_L hL) rfl dX1_isBarred_6 ?_
  refine lv_iconst (v := 3) hx hb dX1_isBarred_9 (by decide) ?_
  refine z_ialdk C0 Z (isL_lt hL 1 (by decide)) (ent_L1 hL) in_3_4 nc_3 dX1_isBarred_10 ?_
  refine lv_icmp_lt (tgt := 18) hx hb dX1_isBarred_11 (by decide) (fun c3 => ?_) (fun c3 => ?_)
  · replace hw := hw.1 c3
    refine lv_iconst (v := 0) hx hb dX1_isBarred_18 (by decide) ?_
    exact b_X1_isBarred_19 l hL C0 _ _ _ _ _ hw Z (lv_sub hl [] rfl)
  · replace hw := hw.2 c3
    refine lv_iconst (v := 1) hx hb dX1_isBarred_14 (by decide) ?_
    refine lv_goto (tgt := 19) hx hb dX1_isBarred_15 (by decide) ?_
    exact b_X1_isBarred_19 l hL C0 _ _ _ _ _ hw Z (lv_sub hl [] rfl)
-- X1_isActive: room (0, 0)
theorem dX1_isActive_0 : decode cX1_isActive 0 = .ok (.aload_n 0, 1) := by decide +kernel
theorem dX1_isActive_1 : decode cX1_isActive 1 = .ok (.getfield 20, 3) := by decide +kernel
theorem dX1_isActive_4 : decode cX1_isActive 4 = .ok (.iload_n 1, 1) := by decide +kernel
theorem dX1_isActive_5 : decode cX1_isActive 5 = .ok (.aaload, 1) := by decide +kernel
theorem dX1_isActive_6 : decode cX1_isActive 6 = .ok (.bipush 7, 2) := by decide +kernel
theorem dX1_isActive_8 : decode cX1_isActive 8 = .ok (.iaload, 1) := by decide +kernel
theorem dX1_isActive_9 : decode cX1_isActive 9 = .ok (.istore_n 2, 1) := by decide +kernel
theorem dX1_isActive_10 : decode cX1_isActive 10 = .ok (.iload_n 2, 1) := by decide +kernel
theorem dX1_isActive_11 : decode cX1_isActive 11 = .ok (.ifCond .eq 13, 3) := by decide +kernel
theorem dX1_isActive_14 : decode cX1_isActive 14 = .ok (.iload_n 2, 1) := by decide +kernel
theorem dX1_isActive_15 : decode cX1_isActive 15 = .ok (.iconst 1, 1) := by decide +kernel
theorem dX1_isActive_16 : decode cX1_isActive 16 = .ok (.if_icmp .eq 8, 3) := by decide +kernel
theorem dX1_isActive_19 : decode cX1_isActive 19 = .ok (.iload_n 2, 1) := by decide +kernel
theorem dX1_isActive_20 : decode cX1_isActive 20 = .ok (.iconst 2, 1) := by decide +kernel
theorem dX1_isActive_21 : decode cX1_isActive 21 = .ok (.if_icmp .ne 7, 3) := by decide +kernel
theorem dX1_isActive_24 : decode cX1_isActive 24 = .ok (.iconst 1, 1) := by decide +kernel
theorem dX1_isActive_25 : decode cX1_isActive 25 = .ok (.goto 4, 3) := by decide +kernel
theorem dX1_isActive_28 : decode cX1_isActive 28 = .ok (.iconst 0, 1) := by decide +kernel
theorem dX1_isActive_29 : decode cX1_isActive 29 = .ok (.ireturn, 1) := by decide +kernel
def w_X1_isActive_29 (this : Nat) (Q : Int32 → V3 → Prop) (s0 : Int32) (v : V3) : Prop := (s0 = 0 ∨ s0 = 1) ∧ Q s0 v
def w_X1_isActive_24 (this : Nat) (Q : Int32 → V3 → Prop) (v : V3) : Prop := w_X1_isActive_29 this Q 1 v
def w_X1_isActive (this : Nat) (a1 : Int32) (v : V3) (Q : Int32 → V3 → Prop) : Prop := vp_in a1 40 ∧ (((v (this + 14 + (ix a1)) 7) = 0 → w_X1_isActive_24 this Q v) ∧ (¬ (v (this + 14 + (ix a1)) 7) = 0 → (((v (this + 14 + (ix a1)) 7) = 1 → w_X1_isActive_24 this Q v) ∧ (¬ (v (this + 14 + (ix a1)) 7) = 1 → ((¬ (v (this + 14 + (ix a1)) 7) = 2 → w_X1_isActive_29 this Q 0 v) ∧ ((v (this + 14 + (ix a1)) 7) = 2 → w_X1_isActive_24 this Q v))))))
set_option maxRecDepth 100000 in
set_option maxHeartbeats 4000000 in
theorem b_X1_isActive_29 {p : Program} (l : Launch) {e : Env} {s : State} {m : MethodId} {args : Array Value} {below : List Frame} {meth : Method} {c : Code} {G : zG} {this : Nat} (hL : isL G this) (C0 : Cx G RX1 cX1_isActive 3 (some .boolean) p s m args meth c) {Q : Int32 → V3 → Prop} : ∀ (s0 : Int32) (v : V3) (H : Heap) (locs : List Loc) (ls : Array Slot), w_X1_isActive_29 this Q s0 v → Zs G s v H locs → lv_has ls 3 [] → W p l e { frames := 0, cells := 0, slots := 0, locals := 0 } s m args below meth c H locs 0 0 (MQ below (QiZ G Q) args s 0 0 (zA G)) (F0 m 29 ls [.int s0]) := by
  have hx := C0.1
  have hb := C0.2.1
  intro s0 v H locs ls hw Z hl
  rw [w_X1_isActive_29] at hw
  obtain ⟨h4, hw⟩ := hw
  exact z_zret C0 Z h4 hw dX1_isActive_29
set_option maxRecDepth 100000 in
set_option maxHeartbeats 4000000 in
theorem b_X1_isActive_24 {p : Program} (l : Launch) {e : Env} {s : State} {m : MethodId} {args : Array Value} {below : List Frame} {meth : Method} {c : Code} {G : zG} {this : Nat} (hL : isL G this) (C0 : Cx G RX1 cX1_isActive 3 (some .boolean) p s m args meth c) {Q : Int32 → V3 → Prop} : ∀ (v : V3) (H : Heap) (locs : List Loc) (ls : Array Slot), w_X1_isActive_24 this Q v → Zs G s v H locs → lv_has ls 3 [] → W p l e { frames := 0, cells := 0, slots := 0, locals := 0 } s m args below meth c H locs 0 0 (MQ below (QiZ G Q) args s 0 0 (zA G)) (F0 m 24 ls []) := by
  have hx := C0.1
  have hb := C0.2.1
  intro v H locs ls hw Z hl
  rw [w_X1_isActive_24] at hw
  refine lv_iconst (v := 1) hx hb dX1_isActive_24 (by decide) ?_
  refine lv_goto (tgt := 29) hx hb dX1_isActive_25 (by decide) ?_
  exact b_X1_isActive_29 l hL C0 _ _ _ _ _ hw Z (lv_sub hl [] rfl)
set_option maxRecDepth 100000 in
set_option maxHeartbeats 4000000 in
theorem k_X1_isActive (l : Launch) {G : zG} (hg : 129 ≤ gn G) {this : Nat} {a1 : Int32} (hL : isL G this) {v : V3} {Q : Int32 → V3 → Prop} (hw : w_X1_isActive this a1 v Q) : Mz l yX1_isActive cX1_isActive 3 (some .boolean) 0 0 G [.ref (gad G this), .int a1] v (QiZ G Q) := by
  rw [w_X1_isActive] at hw
  refine z_ofW hg (by decide) (Nat.le_of_ble_eq_true rfl) ?_
  intro p e s m args below meth c ls C0 Z hl
  have hx := C0.1
  have hb := C0.2.1
  replace hl : lv_has ls 3 [(0, .ref (gad G this)), (1, .int a1)] := hl
  generalize s.heap = H at Z ⊢
  generalize ([] : List Loc) = locs at Z ⊢
  refine lv_aload_n hx hb dX1_isActive_0 rfl (lv_at hl 0 rfl) ?_
  refine z_get C0 Z in_X1 rfl 2 (by decide) rfl tm_1_49 (isL_lt0 hL) (ent_L hL) rfl dX1_isActive_1 ?_
  refine lv_iload_n hx hb dX1_isActive_4 rfl (lv_at hl 1 rfl) ?_
  obtain ⟨h1, hw⟩ := hw
  have h2 := vp_lt h1
  refine z_aald C0 Z (isL_lt hL 3 (by decide)) (ent_L3 hL) h1 dX1_isActive_5 ?_
  refine lv_bipush (v := 7) hx hb dX1_isActive_6 (by decide) ?_
  refine z_ialdk C0 Z (isL_B hL h2) (ent_B hL h2) in_7_10 nc_7 dX1_isActive_8 ?_
  refine lv_istore_n (lv' := [(2, .int (v (this + 14 + (ix a1)) 7)), (0, .ref (gad G this)), (1, .int a1)]) hx hb dX1_isActive_9 rfl hl (by decide) rfl (fun ls hl => ?_)
  refine lv_iload_n hx hb dX1_isActive_10 rfl (lv_at hl 0 rfl) ?_
  refine lv_if_eq (tgt := 24) hx hb dX1_isActive_11 (by decide) (fun c3 => ?_) (fun c3 => ?_)
  · replace hw := hw.1 c3
    exact b_X1_isActive_24 l hL C0 _ _ _ _ hw Z (lv_sub hl [] rfl)
  · replace hw := hw.2 c3
    refine lv_iload_n hx hb dX1_isActive_14 rfl (lv_at hl 0 rfl) ?_
    refine lv_iconst (v := 1) hx hb dX1_isActive_15 (by decide) ?_
    refine lv_icmp_eq (tgt := 24) hx hb dX1_isActive_16 (by decide) (fun c5 => ?_) (fun c5 => ?_)
    · replace hw := hw.1 c5
      exact b_X1_isActive_24 l hL C0 _ _ _ _ hw Z (lv_sub hl [] rfl)
    · replace hw := hw.2 c5
      refine lv_iload_n hx hb dX1_isActive_19 rfl (lv_at hl 0 rfl) ?_
      refine lv_iconst (v := 2) hx hb dX1_isActive_20 (by decide) ?_
      refine lv_icmp_ne (tgt := 28) hx hb dX1_isActive_21 (by decide) (fun c6 => ?_) (fun c6 => ?_)
      · replace hw := hw.1 c6
        refine lv_iconst (v := 0) hx hb dX1_isActive_28 (by decide) ?_
        exact b_X1_isActive_29 l hL C0 _ _ _ _ _ hw Z (lv_sub hl [] rfl)
      · replace hw := hw.2 c6
        exact b_X1_isActive_24 l hL C0 _ _ _ _ hw Z (lv_sub hl [] rfl)
-- X1_activeOf: room (1, 22)
theorem dX1_activeOf_0 : decode cX1_activeOf 0 = .ok (.iconst 0, 1) := by decide +kernel
theorem dX1_activeOf_1 : decode cX1_activeOf 1 = .ok (.istore_n 2, 1) := by decide +kernel
theorem dX1_activeOf_2 : decode cX1_activeOf 2 = .ok (.iconst 0, 1) := by decide +kernel
theorem dX1_activeOf_3 : decode cX1_activeOf 3 = .ok (.istore_n 3, 1) := by decide +kernel
theorem dX1_activeOf_4 : decode cX1_activeOf 4 = .ok (.iload_n 3, 1) := by decide +kernel
theorem dX1_activeOf_5 : decode cX1_activeOf 5 = .ok (.aload_n 0, 1) := by decide +kernel
theorem dX1_activeOf_6 : decode cX1_activeOf 6 = .ok (.getfield 43, 3) := by decide +kernel
theorem dX1_activeOf_9 : decode cX1_activeOf 9 = .ok (.if_icmp .ge 32, 3) := by decide +kernel
theorem dX1_activeOf_12 : decode cX1_activeOf 12 = .ok (.aload_n 0, 1) := by decide +kernel
theorem dX1_activeOf_13 : decode cX1_activeOf 13 = .ok (.getfield 20, 3) := by decide +kernel
theorem dX1_activeOf_16 : decode cX1_activeOf 16 = .ok (.iload_n 3, 1) := by decide +kernel
theorem dX1_activeOf_17 : decode cX1_activeOf 17 = .ok (.aaload, 1) := by decide +kernel
theorem dX1_activeOf_18 : decode cX1_activeOf 18 = .ok (.iconst 0, 1) := by decide +kernel
theorem dX1_activeOf_19 : decode cX1_activeOf 19 = .ok (.iaload, 1) := by decide +kernel
theorem dX1_activeOf_20 : decode cX1_activeOf 20 = .ok (.iload_n 1, 1) := by decide +kernel
theorem dX1_activeOf_21 : decode cX1_activeOf 21 = .ok (.if_icmp .ne 14, 3) := by decide +kernel
theorem dX1_activeOf_24 : decode cX1_activeOf 24 = .ok (.aload_n 0, 1) := by decide +kernel
theorem dX1_activeOf_25 : decode cX1_activeOf 25 = .ok (.iload_n 3, 1) := by decide +kernel
theorem dX1_activeOf_26 : decode cX1_activeOf 26 = .ok (.invokevirtual 65, 3) := by decide +kernel
theorem dX1_activeOf_29 : decode cX1_activeOf 29 = .ok (.ifCond .eq 6, 3) := by decide +kernel
theorem dX1_activeOf_32 : decode cX1_activeOf 32 = .ok (.iinc 2 1, 3) := by decide +kernel
theorem dX1_activeOf_35 : decode cX1_activeOf 35 = .ok (.iinc 3 1, 3) := by decide +kernel
theorem dX1_activeOf_38 : decode cX1_activeOf 38 = .ok (.goto (-34), 3) := by decide +kernel
theorem dX1_activeOf_41 : decode cX1_activeOf 41 = .ok (.iload_n 2, 1) := by decide +kernel
theorem dX1_activeOf_42 : decode cX1_activeOf 42 = .ok (.ireturn, 1) := by decide +kernel
def w_X1_activeOf_35 (this : Nat) (Q : Int32 → V3 → Prop) (K4 : Int32 → Int32 → Int32 → V3 → Prop) (x1 : Int32) (x2 : Int32) (x3 : Int32) (v : V3) : Prop := K4 x1 x2 (x3 + 1) v
def w_X1_activeOf_4 (this : Nat) (Q : Int32 → V3 → Prop) : Nat → Int32 → Int32 → Int32 → V3 → Prop
  | 0, _, _, _, _ => False
  | n4 + 1, x1, x2, x3, v => (((v this 8) ≤ x3 → Q x2 v) ∧ (¬ (v this 8) ≤ x3 → vp_in x3 40 ∧ ((¬ (v (this + 14 + (ix x3)) 0) = x1 → w_X1_activeOf_35 this Q (w_X1_activeOf_4 this Q n4) x1 x2 x3 v) ∧ ((v (this + 14 + (ix x3)) 0) = x1 → w_X1_isActive this x3 v (fun r6 v5 => ((r6 = 0 → w_X1_activeOf_35 this Q (w_X1_activeOf_4 this Q n4) x1 x2 x3 v5) ∧ (¬ r6 = 0 → w_X1_activeOf_35 this Q (w_X1_activeOf_4 this Q n4) x1 (x2 + 1) x3 v5)))))))
def w_X1_activeOf (this : Nat) (a1 : Int32) (v : V3) (Q : Int32 → V3 → Prop) : Prop := ∃ m4 : Nat, w_X1_activeOf_4 this Q m4 a1 0 0 v
set_option maxRecDepth 100000 in
set_option maxHeartbeats 4000000 in
theorem b_X1_activeOf_35 {p : Program} (l : Launch) {e : Env} {s : State} {m : MethodId} {args : Array Value} {below : List Frame} {meth : Method} {c : Code} {G : zG} {this : Nat} (hL : isL G this) (C0 : Cx G RX1 cX1_activeOf 4 (some .int) p s m args meth c) {Q : Int32 → V3 → Prop} {K4 : Int32 → Int32 → Int32 → V3 → Prop} (hK4 : ∀ (x1 : Int32) (x2 : Int32) (x3 : Int32) (v : V3) (H : Heap) (locs : List Loc) (ls : Array Slot), K4 x1 x2 x3 v → Zs G s v H locs → lv_has ls 4 [(0, .ref (gad G this)), (1, .int x1), (2, .int x2), (3, .int x3)] → W p l e { frames := 1, cells := 0, slots := 0, locals := 22 } s m args below meth c H locs 0 0 (MQ below (QiZ G Q) args s 0 0 (zA G)) (F0 m 4 ls [])) : ∀ (x1 : Int32) (x2 : Int32) (x3 : Int32) (v : V3) (H : Heap) (locs : List Loc) (ls : Array Slot), w_X1_activeOf_35 this Q K4 x1 x2 x3 v → Zs G s v H locs → lv_has ls 4 [(0, .ref (gad G this)), (1, .int x1), (2, .int x2), (3, .int x3)] → W p l e { frames := 1, cells := 0, slots := 0, locals := 22 } s m args below meth c H locs 0 0 (MQ below (QiZ G Q) args s 0 0 (zA G)) (F0 m 35 ls []) := by
  have hx := C0.1
  have hb := C0.2.1
  intro x1 x2 x3 v H locs ls hw Z hl
  rw [w_X1_activeOf_35] at hw
  refine lv_iinc (v := x3 + 1) (lv' := [(3, .int (x3 + 1)), (0, .ref (gad G this)), (1, .int x1), (2, .int x2)]) hx hb dX1_activeOf_35 hl (k := 3) rfl rfl (by decide) rfl (fun ls hl => ?_)
  refine lv_goto (tgt := 4) hx hb dX1_activeOf_38 (by decide) ?_
  exact hK4 _ _ _ _ _ _ _ hw Z (lv_sub hl [1, 2, 3, 0] rfl)
set_option maxRecDepth 100000 in
set_option maxHeartbeats 4000000 in
theorem b_X1_activeOf_4 {p : Program} (l : Launch) {e : Env} {s : State} {m : MethodId} {args : Array Value} {below : List Frame} {meth : Method} {c : Code} {G : zG} {this : Nat} (hL : isL G this) (C0 : Cx G RX1 cX1_activeOf 4 (some .int) p s m args meth c) {Q : Int32 → V3 → Prop} : ∀ (n : Nat) (x1 : Int32) (x2 : Int32) (x3 : Int32) (v : V3) (H : Heap) (locs : List Loc) (ls : Array Slot), w_X1_activeOf_4 this Q n x1 x2 x3 v → Zs G s v H locs → lv_has ls 4 [(0, .ref (gad G this)), (1, .int x1), (2, .int x2), (3, .int x3)] → W p l e { frames := 1, cells := 0, slots := 0, locals := 22 } s m args below meth c H locs 0 0 (MQ below (QiZ G Q) args s 0 0 (zA G)) (F0 m 4 ls []) := by
  have hx := C0.1
  have hb := C0.2.1
  intro n
  induction n with
  | zero =>
    intro x1 x2 x3 v H locs ls hw Z hl
    exact hw.elim
  | succ n hK4 =>
    intro x1 x2 x3 v H locs ls hw Z hl
    rw [w_X1_activeOf_4] at hw
    refine lv_iload_n hx hb dX1_activeOf_4 rfl (lv_at hl 3 rfl) ?_
    refine lv_aload_n hx hb dX1_activeOf_5 rfl (lv_at hl 0 rfl) ?_
    refine z_get C0 Z in_X1 rfl 8 (by decide) rfl tm_1_64 (isL_lt0 hL) (ent_L hL) rfl dX1_activeOf_6 ?_
    refine lv_icmp_ge (tgt := 41) hx hb dX1_activeOf_9 (by decide) (fun c1 => ?_) (fun c1 => ?_)
    · replace hw := hw.1 c1
      refine lv_iload_n hx hb dX1_activeOf_41 rfl (lv_at hl 2 rfl) ?_
      exact z_iret C0 Z hw dX1_activeOf_42
    · replace hw := hw.2 c1
      refine lv_aload_n hx hb dX1_activeOf_12 rfl (lv_at hl 0 rfl) ?_
      refine z_get C0 Z in_X1 rfl 2 (by decide) rfl tm_1_49 (isL_lt0 hL) (ent_L hL) rfl dX1_activeOf_13 ?_
      refine lv_iload_n hx hb dX1_activeOf_16 rfl (lv_at hl 3 rfl) ?_
      obtain ⟨h2, hw⟩ := hw
      have h3 := vp_lt h2
      refine z_aald C0 Z (isL_lt hL 3 (by decide)) (ent_L3 hL) h2 dX1_activeOf_17 ?_
      refine lv_iconst (v := 0) hx hb dX1_activeOf_18 (by decide) ?_
      refine z_ialdk C0 Z (isL_B hL h3) (ent_B hL h3) in_0_10 nc_0 dX1_activeOf_19 ?_
      refine lv_iload_n hx hb dX1_activeOf_20 rfl (lv_at hl 1 rfl) ?_
      refine lv_icmp_ne (tgt := 35) hx hb dX1_activeOf_21 (by decide) (fun c4 => ?_) (fun c4 => ?_)
      · replace hw := hw.1 c4
        exact b_X1_activeOf_35 l hL C0 hK4 _ _ _ _ _ _ _ hw Z (lv_sub hl [0, 1, 2, 3] rfl)
      · replace hw := hw.2 c4
        refine lv_aload_n hx hb dX1_activeOf_24 rfl (lv_at hl 0 rfl) ?_
        refine lv_iload_n hx hb dX1_activeOf_25 rfl (lv_at hl 3 rfl) ?_
        refine z_callVi C0 Z hl.1 (As := [.int x3]) (rest := []) (k_X1_isActive l (cx_g C0) hL hw) (gv_X1_isActive tm_2_83) rfl ds_X1_isActive ⟨Nat.le_of_ble_eq_true rfl, Nat.le_of_ble_eq_true rfl⟩ (ci := 1) rfl (isL_lt0 hL) (ent_L hL) rfl rfl (Nat.le_of_ble_eq_true rfl) ⟨Nat.zero_le _, Nat.zero_le _⟩ dX1_activeOf_26 (fun r6 v5 H locs hw Z => ?_)
        refine lv_if_eq (tgt := 35) hx hb dX1_activeOf_29 (by decide) (fun c7 => ?_) (fun c7 => ?_)
        · replace hw := hw.1 c7
          exact b_X1_activeOf_35 l hL C0 hK4 _ _ _ _ _ _ _ hw Z (lv_sub hl [0, 1, 2, 3] rfl)
        · replace hw := hw.2 c7
          refine lv_iinc (v := x2 + 1) (lv' := [(2, .int (x2 + 1)), (0, .ref (gad G this)), (1, .int x1), (3, .int x3)]) hx hb dX1_activeOf_32 hl (k := 2) rfl rfl (by decide) rfl (fun ls hl => ?_)
          exact b_X1_activeOf_35 l hL C0 hK4 _ _ _ _ _ _ _ hw Z (lv_sub hl [1, 2, 0, 3] rfl)
set_option maxRecDepth 100000 in
set_option maxHeartbeats 4000000 in
theorem k_X1_activeOf (l : Launch) {G : zG} (hg : 129 ≤ gn G) {this : Nat} {a1 : Int32} (hL : isL G this) {v : V3} {Q : Int32 → V3 → Prop} (hw : w_X1_activeOf this a1 v Q) : Mz l yX1_activeOf cX1_activeOf 4 (some .int) 1 22 G [.ref (gad G this), .int a1] v (QiZ G Q) := by
  rw [w_X1_activeOf] at hw
  refine z_ofW hg (by decide) (Nat.le_of_ble_eq_true rfl) ?_
  intro p e s m args below meth c ls C0 Z hl
  have hx := C0.1
  have hb := C0.2.1
  replace hl : lv_has ls 4 [(0, .ref (gad G this)), (1, .int a1)] := hl
  generalize s.heap = H at Z ⊢
  generalize ([] : List Loc) = locs at Z ⊢
  refine lv_iconst (v := 0) hx hb dX1_activeOf_0 (by decide) ?_
  refine lv_istore_n (lv' := [(2, .int 0), (0, .ref (gad G this)), (1, .int a1)]) hx hb dX1_activeOf_1 rfl hl (by decide) rfl (fun ls hl => ?_)
  refine lv_iconst (v := 0) hx hb dX1_activeOf_2 (by decide) ?_
  refine lv_istore_n (lv' := [(3, .int 0), (2, .int 0), (0, .ref (gad G this)), (1, .int a1)]) hx hb dX1_activeOf_3 rfl hl (by decide) rfl (fun ls hl => ?_)
  obtain ⟨m4, hw⟩ := hw
  exact b_X1_activeOf_4 l hL C0 m4 _ _ _ _ _ _ _ hw Z (lv_sub hl [2, 3, 1, 0] rfl)
-- X1_hasLimit: room (2, 45)
theorem dX1_hasLimit_0 : decode cX1_hasLimit 0 = .ok (.aload_n 0, 1) := by decide +kernel
theorem dX1_hasLimit_1 : decode cX1_hasLimit 1 = .ok (.iload_n 1, 1) := by decide +kernel
theorem dX1_hasLimit_2 : decode cX1_hasLimit 2 = .ok (.invokevirtual 69, 3) := by decide +kernel
theorem dX1_hasLimit_5 : decode cX1_hasLimit 5 = .ok (.aload_n 0, 1) := by decide +kernel
theorem dX1_hasLimit_6 : decode cX1_hasLimit 6 = .ok (.getfield 9, 3) := by decide +kernel
theorem dX1_hasLimit_9 : decode cX1_hasLimit 9 = .ok (.iconst 2, 1) := by decide +kernel
theorem dX1_hasLimit_10 : decode cX1_hasLimit 10 = .ok (.iaload, 1) := by decide +kernel
theorem dX1_hasLimit_11 : decode cX1_hasLimit 11 = .ok (.if_icmp .lt 7, 3) := by decide +kernel
theorem dX1_hasLimit_14 : decode cX1_hasLimit 14 = .ok (.iconst 1, 1) := by decide +kernel
theorem dX1_hasLimit_15 : decode cX1_hasLimit 15 = .ok (.goto 4, 3) := by decide +kernel
theorem dX1_hasLimit_18 : decode cX1_hasLimit 18 = .ok (.iconst 0, 1) := by decide +kernel
theorem dX1_hasLimit_19 : decode cX1_hasLimit 19 = .ok (.ireturn, 1) := by decide +kernel
def w_X1_hasLimit_19 (this : Nat) (Q : Int32 → V3 → Prop) (s0 : Int32) (v : V3) : Prop := (s0 = 0 ∨ s0 = 1) ∧ Q s0 v
def w_X1_hasLimit (this : Nat) (a1 : Int32) (v : V3) (Q : Int32 → V3 → Prop) : Prop := w_X1_activeOf this a1 v (fun r2 v1 => ((r2 < (v1 (this + 1) 2) → w_X1_hasLimit_19 this Q 0 v1) ∧ (¬ r2 < (v1 (this + 1) 2) → w_X1_hasLimit_19 this Q 1 v1)))
set_option maxRecDepth 100000 in
set_option maxHeartbeats 4000000 in
theorem b_X1_hasLimit_19 {p : Program} (l : Launch) {e : Env} {s : State} {m : MethodId} {args : Array Value} {below : List Frame} {meth : Method} {c : Code} {G : zG} {this : Nat} (hL : isL G this) (C0 : Cx G RX1 cX1_hasLimit 2 (some .boolean) p s m args meth c) {Q : Int32 → V3 → Prop} : ∀ (s0 : Int32) (v : V3) (H : Heap) (locs : List Loc) (ls : Array Slot), w_X1_hasLimit_19 this Q s0 v → Zs G s v H locs → lv_has ls 2 [] → W p l e { frames := 2, cells := 0, slots := 0, locals := 45 } s m args below meth c H locs 0 0 (MQ below (QiZ G Q) args s 0 0 (zA G)) (F0 m 19 ls [.int s0]) := by
  have hx := C0.1
  have hb := C0.2.1
  intro s0 v H locs ls hw Z hl
  rw [w_X1_hasLimit_19] at hw
  obtain ⟨h4, hw⟩ := hw
  exact z_zret C0 Z h4 hw dX1_hasLimit_19
set_option maxRecDepth 100000 in
set_option maxHeartbeats 4000000 in
theorem k_X1_hasLimit (l : Launch) {G : zG} (hg : 129 ≤ gn G) {this : Nat} {a1 : Int32} (hL : isL G this) {v : V3} {Q : Int32 → V3 → Prop} (hw : w_X1_hasLimit this a1 v Q) : Mz l yX1_hasLimit cX1_hasLimit 2 (some .boolean) 2 45 G [.ref (gad G this), .int a1] v (QiZ G Q) := by
  rw [w_X1_hasLimit] at hw
  refine z_ofW hg (by decide) (Nat.le_of_ble_eq_true rfl) ?_
  intro p e s m args below meth c ls C0 Z hl
  have hx := C0.1
  have hb := C0.2.1
  replace hl : lv_has ls 2 [(0, .ref (gad G this)), (1, .int a1)] := hl
  generalize s.heap = H at Z ⊢
  generalize ([] : List Loc) = locs at Z ⊢
  refine lv_aload_n hx hb dX1_hasLimit_0 rfl (lv_at hl 0 rfl) ?_
  refine lv_iload_n hx hb dX1_hasLimit_1 rfl (lv_at hl 1 rfl) ?_
  refine z_callVi C0 Z hl.1 (As := [.int a1]) (rest := []) (k_X1_activeOf l (cx_g C0) hL hw) (gv_X1_activeOf tm_2_79) rfl ds_X1_activeOf ⟨Nat.le_of_ble_eq_true rfl, Nat.le_of_ble_eq_true rfl⟩ (ci := 1) rfl (isL_lt0 hL) (ent_L hL) rfl rfl (Nat.le_of_ble_eq_true rfl) ⟨Nat.zero_le _, Nat.zero_le _⟩ dX1_hasLimit_2 (fun r2 v1 H locs hw Z => ?_)
  refine lv_aload_n hx hb dX1_hasLimit_5 rfl (lv_at hl 0 rfl) ?_
  refine z_get C0 Z in_X1 rfl 0 (by decide) rfl tm_1_43 (isL_lt0 hL) (ent_L hL) rfl dX1_hasLimit_6 ?_
  refine lv_iconst (v := 2) hx hb dX1_hasLimit_9 (by decide) ?_
  refine z_ialdk C0 Z (isL_lt hL 1 (by decide)) (ent_L1 hL) in_2_4 nc_2 dX1_hasLimit_10 ?_
  refine lv_icmp_lt (tgt := 18) hx hb dX1_hasLimit_11 (by decide) (fun c3 => ?_) (fun c3 => ?_)
  · replace hw := hw.1 c3
    refine lv_iconst (v := 0) hx hb dX1_hasLimit_18 (by decide) ?_
    exact b_X1_hasLimit_19 l hL C0 _ _ _ _ _ hw Z (lv_sub hl [] rfl)
  · replace hw := hw.2 c3
    refine lv_iconst (v := 1) hx hb dX1_hasLimit_14 (by decide) ?_
    refine lv_goto (tgt := 19) hx hb dX1_hasLimit_15 (by decide) ?_
    exact b_X1_hasLimit_19 l hL C0 _ _ _ _ _ hw Z (lv_sub hl [] rfl)
end
section
-- X1_joyAt: room (1, 24)
theorem dX1_joyAt_0 : decode cX1_joyAt 0 = .ok (.aload_n 0, 1) := by decide +kernel
theorem dX1_joyAt_1 : decode cX1_joyAt 1 = .ok (.getfield 20, 3) := by decide +kernel
theorem dX1_joyAt_4 : decode cX1_joyAt 4 = .ok (.iload_n 1, 1) := by decide +kernel
theorem dX1_joyAt_5 : decode cX1_joyAt 5 = .ok (.aaload, 1) := by decide +kernel
theorem dX1_joyAt_6 : decode cX1_joyAt 6 = .ok (.astore_n 3, 1) := by decide +kernel
theorem dX1_joyAt_7 : decode cX1_joyAt 7 = .ok (.bipush 20, 2) := by decide +kernel
theorem dX1_joyAt_9 : decode cX1_joyAt 9 = .ok (.iload_n 2, 1) := by decide +kernel
theorem dX1_joyAt_10 : decode cX1_joyAt 10 = .ok (.aload_n 3, 1) := by decide +kernel
theorem dX1_joyAt_11 : decode cX1_joyAt 11 = .ok (.iconst 4, 1) := by decide +kernel
theorem dX1_joyAt_12 : decode cX1_joyAt 12 = .ok (.iaload, 1) := by decide +kernel
theorem dX1_joyAt_13 : decode cX1_joyAt 13 = .ok (.isub, 1) := by decide +kernel
theorem dX1_joyAt_14 : decode cX1_joyAt 14 = .ok (.invokestatic 89, 3) := by decide +kernel
theorem dX1_joyAt_17 : decode cX1_joyAt 17 = .ok (.isub, 1) := by decide +kernel
theorem dX1_joyAt_18 : decode cX1_joyAt 18 = .ok (.istore 4, 2) := by decide +kernel
theorem dX1_joyAt_20 : decode cX1_joyAt 20 = .ok (.iload 4, 2) := by decide +kernel
theorem dX1_joyAt_22 : decode cX1_joyAt 22 = .ok (.ifCond .le 13, 3) := by decide +kernel
theorem dX1_joyAt_25 : decode cX1_joyAt 25 = .ok (.aload_n 3, 1) := by decide +kernel
theorem dX1_joyAt_26 : decode cX1_joyAt 26 = .ok (.bipush 6, 2) := by decide +kernel
theorem dX1_joyAt_28 : decode cX1_joyAt 28 = .ok (.iaload, 1) := by decide +kernel
theorem dX1_joyAt_29 : decode cX1_joyAt 29 = .ok (.iload 4, 2) := by decide +kernel
theorem dX1_joyAt_31 : decode cX1_joyAt 31 = .ok (.imul, 1) := by decide +kernel
theorem dX1_joyAt_32 : decode cX1_joyAt 32 = .ok (.goto 4, 3) := by decide +kernel
theorem dX1_joyAt_35 : decode cX1_joyAt 35 = .ok (.iconst 0, 1) := by decide +kernel
theorem dX1_joyAt_36 : decode cX1_joyAt 36 = .ok (.ireturn, 1) := by decide +kernel
def w_X1_joyAt_36 (this : Nat) (Q : Int32 → V3 → Prop) (s0 : Int32) (v : V3) : Prop := Q s0 v
def w_X1_joyAt (this : Nat) (a1 : Int32) (a2 : Int32) (v : V3) (Q : Int32 → V3 → Prop) : Prop := vp_in a1 40 ∧ (((20 - (zabs (a2 - (v (this + 14 + (ix a1)) 4)))) ≤ 0 → w_X1_joyAt_36 this Q 0 v) ∧ (¬ (20 - (zabs (a2 - (v (this + 14 + (ix a1)) 4)))) ≤ 0 → w_X1_joyAt_36 this Q ((v (this + 14 + (ix a1)) 6) * (20 - (zabs (a2 - (v (this + 14 + (ix a1)) 4))))) v))
set_option maxRecDepth 100000 in
set_option maxHeartbeats 4000000 in
theorem b_X1_joyAt_36 {p : Program} (l : Launch) {e : Env} {s : State} {m : MethodId} {args : Array Value} {below : List Frame} {meth : Method} {c : Code} {G : zG} {this : Nat} (hL : isL G this) (C0 : Cx G RX1 cX1_joyAt 5 (some .int) p s m args meth c) {Q : Int32 → V3 → Prop} : ∀ (s0 : Int32) (v : V3) (H : Heap) (locs : List Loc) (ls : Array Slot), w_X1_joyAt_36 this Q s0 v → Zs G s v H locs → lv_has ls 5 [] → W p l e { frames := 1, cells := 0, slots := 0, locals := 24 } s m args below meth c H locs 0 0 (MQ below (QiZ G Q) args s 0 0 (zA G)) (F0 m 36 ls [.int s0]) := by
  have hx := C0.1
  have hb := C0.2.1
  intro s0 v H locs ls hw Z hl
  rw [w_X1_joyAt_36] at hw
  exact z_iret C0 Z hw dX1_joyAt_36
set_option maxRecDepth 100000 in
set_option maxHeartbeats 4000000 in
theorem k_X1_joyAt (l : Launch) {G : zG} (hg : 129 ≤ gn G) {this : Nat} {a1 : Int32} {a2 : Int32} (hL : isL G this) {v : V3} {Q : Int32 → V3 → Prop} (hw : w_X1_joyAt this a1 a2 v Q) : Mz l yX1_joyAt cX1_joyAt 5 (some .int) 1 24 G [.ref (gad G this), .int a1, .int a2] v (QiZ G Q) := by
  rw [w_X1_joyAt] at hw
  refine z_ofW hg (by decide) (Nat.le_of_ble_eq_true rfl) ?_
  intro p e s m args below meth c ls C0 Z hl
  have hx := C0.1
  have hb := C0.2.1
  replace hl : lv_has ls 5 [(0, .ref (gad G this)), (1, .int a1), (2, .int a2)] := hl
  generalize s.heap = H at Z ⊢
  generalize ([] : List Loc) = locs at Z ⊢
  refine lv_aload_n hx hb dX1_joyAt_0 rfl (lv_at hl 0 rfl) ?_
  refine z_get C0 Z in_X1 rfl 2 (by decide) rfl tm_1_49 (isL_lt0 hL) (ent_L hL) rfl dX1_joyAt_1 ?_
  refine lv_iload_n hx hb dX1_joyAt_4 rfl (lv_at hl 1 rfl) ?_
  obtain ⟨h1, hw⟩ := hw
  have h2 := vp_lt h1
  refine z_aald C0 Z (isL_lt hL 3 (by decide)) (ent_L3 hL) h1 dX1_joyAt_5 ?_
  refine lv_astore_n (lv' := [(3, .ref (gad G (this + 14 + (ix a1)))), (0, .ref (gad G this)), (1, .int a1), (2, .int a2)]) hx hb dX1_joyAt_6 rfl hl (by decide) rfl (fun ls hl => ?_)
  refine lv_bipush (v := 20) hx hb dX1_joyAt_7 (by decide) ?_
  refine lv_iload_n hx hb dX1_joyAt_9 rfl (lv_at hl 3 rfl) ?_
  refine lv_aload_n hx hb dX1_joyAt_10 rfl (lv_at hl 0 rfl) ?_
  refine lv_iconst (v := 4) hx hb dX1_joyAt_11 (by decide) ?_
  refine z_ialdk C0 Z (isL_B hL h2) (ent_B hL h2) in_4_10 nc_4 dX1_joyAt_12 ?_
  refine lv_isub hx hb dX1_joyAt_13 ?_
  refine z_abs C0 hl.1 tm_2_185 (Nat.le_of_ble_eq_true rfl) (Nat.le_of_ble_eq_true rfl) (Nat.zero_le _) (Nat.zero_le _) dX1_joyAt_14 ?_
  refine lv_isub hx hb dX1_joyAt_17 ?_
  refine lv_istore (lv' := [(4, .int (20 - (zabs (a2 - (v (this + 14 + (ix a1)) 4))))), (3, .ref (gad G (this + 14 + (ix a1)))), (0, .ref (gad G this)), (1, .int a1), (2, .int a2)]) hx hb dX1_joyAt_18 hl (by decide) rfl (fun ls hl => ?_)
  refine lv_iload hx hb dX1_joyAt_20 (lv_at hl 0 rfl) ?_
  refine lv_if_le (tgt := 35) hx hb dX1_joyAt_22 (by decide) (fun c3 => ?_) (fun c3 => ?_)
  · replace hw := hw.1 c3
    refine lv_iconst (v := 0) hx hb dX1_joyAt_35 (by decide) ?_
    exact b_X1_joyAt_36 l hL C0 _ _ _ _ _ hw Z (lv_sub hl [] rfl)
  · replace hw := hw.2 c3
    refine lv_aload_n hx hb dX1_joyAt_25 rfl (lv_at hl 1 rfl) ?_
    refine lv_bipush (v := 6) hx hb dX1_joyAt_26 (by decide) ?_
    refine z_ialdk C0 Z (isL_B hL h2) (ent_B hL h2) in_6_10 nc_6 dX1_joyAt_28 ?_
    refine lv_iload hx hb dX1_joyAt_29 (lv_at hl 0 rfl) ?_
    refine lv_imul hx hb dX1_joyAt_31 ?_
    refine lv_goto (tgt := 36) hx hb dX1_joyAt_32 (by decide) ?_
    exact b_X1_joyAt_36 l hL C0 _ _ _ _ _ hw Z (lv_sub hl [] rfl)
-- X1_joyOf: room (2, 48)
theorem dX1_joyOf_0 : decode cX1_joyOf 0 = .ok (.aload_n 0, 1) := by decide +kernel
theorem dX1_joyOf_1 : decode cX1_joyOf 1 = .ok (.getfield 20, 3) := by decide +kernel
theorem dX1_joyOf_4 : decode cX1_joyOf 4 = .ok (.iload_n 1, 1) := by decide +kernel
theorem dX1_joyOf_5 : decode cX1_joyOf 5 = .ok (.aaload, 1) := by decide +kernel
theorem dX1_joyOf_6 : decode cX1_joyOf 6 = .ok (.astore_n 2, 1) := by decide +kernel
theorem dX1_joyOf_7 : decode cX1_joyOf 7 = .ok (.aload_n 2, 1) := by decide +kernel
theorem dX1_joyOf_8 : decode cX1_joyOf 8 = .ok (.bipush 7, 2) := by decide +kernel
theorem dX1_joyOf_10 : decode cX1_joyOf 10 = .ok (.iaload, 1) := by decide +kernel
theorem dX1_joyOf_11 : decode cX1_joyOf 11 = .ok (.iconst 1, 1) := by decide +kernel
theorem dX1_joyOf_12 : decode cX1_joyOf 12 = .ok (.if_icmp .ne 15, 3) := by decide +kernel
theorem dX1_joyOf_15 : decode cX1_joyOf 15 = .ok (.aload_n 0, 1) := by decide +kernel
theorem dX1_joyOf_16 : decode cX1_joyOf 16 = .ok (.iload_n 1, 1) := by decide +kernel
theorem dX1_joyOf_17 : decode cX1_joyOf 17 = .ok (.aload_n 2, 1) := by decide +kernel
theorem dX1_joyOf_18 : decode cX1_joyOf 18 = .ok (.bipush 8, 2) := by decide +kernel
theorem dX1_joyOf_20 : decode cX1_joyOf 20 = .ok (.iaload, 1) := by decide +kernel
theorem dX1_joyOf_21 : decode cX1_joyOf 21 = .ok (.invokevirtual 85, 3) := by decide +kernel
theorem dX1_joyOf_24 : decode cX1_joyOf 24 = .ok (.goto 4, 3) := by decide +kernel
theorem dX1_joyOf_27 : decode cX1_joyOf 27 = .ok (.iconst 0, 1) := by decide +kernel
theorem dX1_joyOf_28 : decode cX1_joyOf 28 = .ok (.ireturn, 1) := by decide +kernel
def w_X1_joyOf_28 (this : Nat) (Q : Int32 → V3 → Prop) (s0 : Int32) (v : V3) : Prop := Q s0 v
def w_X1_joyOf (this : Nat) (a1 : Int32) (v : V3) (Q : Int32 → V3 → Prop) : Prop := vp_in a1 40 ∧ ((¬ (v (this + 14 + (ix a1)) 7) = 1 → w_X1_joyOf_28 this Q 0 v) ∧ ((v (this + 14 + (ix a1)) 7) = 1 → w_X1_joyAt this a1 (v (this + 14 + (ix a1)) 8) v (fun r5 v4 => w_X1_joyOf_28 this Q r5 v4)))
set_option maxRecDepth 100000 in
set_option maxHeartbeats 4000000 in
theorem b_X1_joyOf_28 {p : Program} (l : Launch) {e : Env} {s : State} {m : MethodId} {args : Array Value} {below : List Frame} {meth : Method} {c : Code} {G : zG} {this : Nat} (hL : isL G this) (C0 : Cx G RX1 cX1_joyOf 3 (some .int) p s m args meth c) {Q : Int32 → V3 → Prop} : ∀ (s0 : Int32) (v : V3) (H : Heap) (locs : List Loc) (ls : Array Slot), w_X1_joyOf_28 this Q s0 v → Zs G s v H locs → lv_has ls 3 [] → W p l e { frames := 2, cells := 0, slots := 0, locals := 48 } s m args below meth c H locs 0 0 (MQ below (QiZ G Q) args s 0 0 (zA G)) (F0 m 28 ls [.int s0]) := by
  have hx := C0.1
  have hb := C0.2.1
  intro s0 v H locs ls hw Z hl
  rw [w_X1_joyOf_28] at hw
  exact z_iret C0 Z hw dX1_joyOf_28
set_option maxRecDepth 100000 in
set_option maxHeartbeats 4000000 in
theorem k_X1_joyOf (l : Launch) {G : zG} (hg : 129 ≤ gn G) {this : Nat} {a1 : Int32} (hL : isL G this) {v : V3} {Q : Int32 → V3 → Prop} (hw : w_X1_joyOf this a1 v Q) : Mz l yX1_joyOf cX1_joyOf 3 (some .int) 2 48 G [.ref (gad G this), .int a1] v (QiZ G Q) := by
  rw [w_X1_joyOf] at hw
  refine z_ofW hg (by decide) (Nat.le_of_ble_eq_true rfl) ?_
  intro p e s m args below meth c ls C0 Z hl
  have hx := C0.1
  have hb := C0.2.1
  replace hl : lv_has ls 3 [(0, .ref (gad G this)), (1, .int a1)] := hl
  generalize s.heap = H at Z ⊢
  generalize ([] : List Loc) = locs at Z ⊢
  refine lv_aload_n hx hb dX1_joyOf_0 rfl (lv_at hl 0 rfl) ?_
  refine z_get C0 Z in_X1 rfl 2 (by decide) rfl tm_1_49 (isL_lt0 hL) (ent_L hL) rfl dX1_joyOf_1 ?_
  refine lv_iload_n hx hb dX1_joyOf_4 rfl (lv_at hl 1 rfl) ?_
  obtain ⟨h1, hw⟩ := hw
  have h2 := vp_lt h1
  refine z_aald C0 Z (isL_lt hL 3 (by decide)) (ent_L3 hL) h1 dX1_joyOf_5 ?_
  refine lv_astore_n (lv' := [(2, .ref (gad G (this + 14 + (ix a1)))), (0, .ref (gad G this)), (1, .int a1)]) hx hb dX1_joyOf_6 rfl hl (by decide) rfl (fun ls hl => ?_)
  refine lv_aload_n hx hb dX1_joyOf_7 rfl (lv_at hl 0 rfl) ?_
  refine lv_bipush (v := 7) hx hb dX1_joyOf_8 (by decide) ?_
  refine z_ialdk C0 Z (isL_B hL h2) (ent_B hL h2) in_7_10 nc_7 dX1_joyOf_10 ?_
  refine lv_iconst (v := 1) hx hb dX1_joyOf_11 (by decide) ?_
  refine lv_icmp_ne (tgt := 27) hx hb dX1_joyOf_12 (by decide) (fun c3 => ?_) (fun c3 => ?_)
  · replace hw := hw.1 c3
    refine lv_iconst (v := 0) hx hb dX1_joyOf_27 (by decide) ?_
    exact b_X1_joyOf_28 l hL C0 _ _ _ _ _ hw Z (lv_sub hl [] rfl)
  · replace hw := hw.2 c3
    refine lv_aload_n hx hb dX1_joyOf_15 rfl (lv_at hl 1 rfl) ?_
    refine lv_iload_n hx hb dX1_joyOf_16 rfl (lv_at hl 2 rfl) ?_
    refine lv_aload_n hx hb dX1_joyOf_17 rfl (lv_at hl 0 rfl) ?_
    refine lv_bipush (v := 8) hx hb dX1_joyOf_18 (by decide) ?_
    refine z_ialdk C0 Z (isL_B hL h2) (ent_B hL h2) in_8_10 nc_8 dX1_joyOf_20 ?_
    refine z_callVi C0 Z hl.1 (As := [.int a1, .int (v (this + 14 + (ix a1)) 8)]) (rest := []) (k_X1_joyAt l (cx_g C0) hL hw) (gv_X1_joyAt tm_3_180) rfl ds_X1_joyAt ⟨Nat.le_of_ble_eq_true rfl, Nat.le_of_ble_eq_true rfl⟩ (ci := 1) rfl (isL_lt0 hL) (ent_L hL) rfl rfl (Nat.le_of_ble_eq_true rfl) ⟨Nat.zero_le _, Nat.zero_le _⟩ dX1_joyOf_21 (fun r5 v4 H locs hw Z => ?_)
    refine lv_goto (tgt := 28) hx hb dX1_joyOf_24 (by decide) ?_
    exact b_X1_joyOf_28 l hL C0 _ _ _ _ _ hw Z (lv_sub hl [] rfl)
-- X1_joyOfOwner: room (3, 70)
theorem dX1_joyOfOwner_0 : decode cX1_joyOfOwner 0 = .ok (.iconst 0, 1) := by decide +kernel
theorem dX1_joyOfOwner_1 : decode cX1_joyOfOwner 1 = .ok (.istore_n 2, 1) := by decide +kernel
theorem dX1_joyOfOwner_2 : decode cX1_joyOfOwner 2 = .ok (.iconst 0, 1) := by decide +kernel
theorem dX1_joyOfOwner_3 : decode cX1_joyOfOwner 3 = .ok (.istore_n 3, 1) := by decide +kernel
theorem dX1_joyOfOwner_4 : decode cX1_joyOfOwner 4 = .ok (.iload_n 3, 1) := by decide +kernel
theorem dX1_joyOfOwner_5 : decode cX1_joyOfOwner 5 = .ok (.aload_n 0, 1) := by decide +kernel
theorem dX1_joyOfOwner_6 : decode cX1_joyOfOwner 6 = .ok (.getfield 43, 3) := by decide +kernel
theorem dX1_joyOfOwner_9 : decode cX1_joyOfOwner 9 = .ok (.if_icmp .ge 29, 3) := by decide +kernel
theorem dX1_joyOfOwner_12 : decode cX1_joyOfOwner 12 = .ok (.aload_n 0, 1) := by decide +kernel
theorem dX1_joyOfOwner_13 : decode cX1_joyOfOwner 13 = .ok (.getfield 20, 3) := by decide +kernel
theorem dX1_joyOfOwner_16 : decode cX1_joyOfOwner 16 = .ok (.iload_n 3, 1) := by decide +kernel
theorem dX1_joyOfOwner_17 : decode cX1_joyOfOwner 17 = .ok (.aaload, 1) := by decide +kernel
theorem dX1_joyOfOwner_18 : decode cX1_joyOfOwner 18 = .ok (.iconst 0, 1) := by decide +kernel
theorem dX1_joyOfOwner_19 : decode cX1_joyOfOwner 19 = .ok (.iaload, 1) := by decide +kernel
theorem dX1_joyOfOwner_20 : decode cX1_joyOfOwner 20 = .ok (.iload_n 1, 1) := by decide +kernel
theorem dX1_joyOfOwner_21 : decode cX1_joyOfOwner 21 = .ok (.if_icmp .ne 11, 3) := by decide +kernel
theorem dX1_joyOfOwner_24 : decode cX1_joyOfOwner 24 = .ok (.iload_n 2, 1) := by decide +kernel
theorem dX1_joyOfOwner_25 : decode cX1_joyOfOwner 25 = .ok (.aload_n 0, 1) := by decide +kernel
theorem dX1_joyOfOwner_26 : decode cX1_joyOfOwner 26 = .ok (.iload_n 3, 1) := by decide +kernel
theorem dX1_joyOfOwner_27 : decode cX1_joyOfOwner 27 = .ok (.invokevirtual 72, 3) := by decide +kernel
theorem dX1_joyOfOwner_30 : decode cX1_joyOfOwner 30 = .ok (.iadd, 1) := by decide +kernel
theorem dX1_joyOfOwner_31 : decode cX1_joyOfOwner 31 = .ok (.istore_n 2, 1) := by decide +kernel
theorem dX1_joyOfOwner_32 : decode cX1_joyOfOwner 32 = .ok (.iinc 3 1, 3) := by decide +kernel
theorem dX1_joyOfOwner_35 : decode cX1_joyOfOwner 35 = .ok (.goto (-31), 3) := by decide +kernel
theorem dX1_joyOfOwner_38 : decode cX1_joyOfOwner 38 = .ok (.iload_n 2, 1) := by decide +kernel
theorem dX1_joyOfOwner_39 : decode cX1_joyOfOwner 39 = .ok (.ireturn, 1) := by decide +kernel
def w_X1_joyOfOwner_32 (this : Nat) (Q : Int32 → V3 → Prop) (K4 : Int32 → Int32 → Int32 → V3 → Prop) (x1 : Int32) (x2 : Int32) (x3 : Int32) (v : V3) : Prop := K4 x1 x2 (x3 + 1) v
def w_X1_joyOfOwner_4 (this : Nat) (Q : Int32 → V3 → Prop) : Nat → Int32 → Int32 → Int32 → V3 → Prop
  | 0, _, _, _, _ => False
  | n4 + 1, x1, x2, x3, v => (((v this 8) ≤ x3 → Q x2 v) ∧ (¬ (v this 8) ≤ x3 → vp_in x3 40 ∧ ((¬ (v (this + 14 + (ix x3)) 0) = x1 → w_X1_joyOfOwner_32 this Q (w_X1_joyOfOwner_4 this Q n4) x1 x2 x3 v) ∧ ((v (this + 14 + (ix x3)) 0) = x1 → w_X1_joyOf this x3 v (fun r6 v5 => w_X1_joyOfOwner_32 this Q (w_X1_joyOfOwner_4 this Q n4) x1 (x2 + r6) x3 v5)))))
def w_X1_joyOfOwner (this : Nat) (a1 : Int32) (v : V3) (Q : Int32 → V3 → Prop) : Prop := ∃ m4 : Nat, w_X1_joyOfOwner_4 this Q m4 a1 0 0 v
set_option maxRecDepth 100000 in
set_option maxHeartbeats 4000000 in
theorem b_X1_joyOfOwner_32 {p : Program} (l : Launch) {e : Env} {s : State} {m : MethodId} {args : Array Value} {below : List Frame} {meth : Method} {c : Code} {G : zG} {this : Nat} (hL : isL G this) (C0 : Cx G RX1 cX1_joyOfOwner 4 (some .int) p s m args meth c) {Q : Int32 → V3 → Prop} {K4 : Int32 → Int32 → Int32 → V3 → Prop} (hK4 : ∀ (x1 : Int32) (x2 : Int32) (x3 : Int32) (v : V3) (H : Heap) (locs : List Loc) (ls : Array Slot), K4 x1 x2 x3 v → Zs G s v H locs → lv_has ls 4 [(0, .ref (gad G this)), (1, .int x1), (2, .int x2), (3, .int x3)] → W p l e { frames := 3, cells := 0, slots := 0, locals := 70 } s m args below meth c H locs 0 0 (MQ below (QiZ G Q) args s 0 0 (zA G)) (F0 m 4 ls [])) : ∀ (x1 : Int32) (x2 : Int32) (x3 : Int32) (v : V3) (H : Heap) (locs : List Loc) (ls : Array Slot), w_X1_joyOfOwner_32 this Q K4 x1 x2 x3 v → Zs G s v H locs → lv_has ls 4 [(0, .ref (gad G this)), (1, .int x1), (2, .int x2), (3, .int x3)] → W p l e { frames := 3, cells := 0, slots := 0, locals := 70 } s m args below meth c H locs 0 0 (MQ below (QiZ G Q) args s 0 0 (zA G)) (F0 m 32 ls []) := by
  have hx := C0.1
  have hb := C0.2.1
  intro x1 x2 x3 v H locs ls hw Z hl
  rw [w_X1_joyOfOwner_32] at hw
  refine lv_iinc (v := x3 + 1) (lv' := [(3, .int (x3 + 1)), (0, .ref (gad G this)), (1, .int x1), (2, .int x2)]) hx hb dX1_joyOfOwner_32 hl (k := 3) rfl rfl (by decide) rfl (fun ls hl => ?_)
  refine lv_goto (tgt := 4) hx hb dX1_joyOfOwner_35 (by decide) ?_
  exact hK4 _ _ _ _ _ _ _ hw Z (lv_sub hl [1, 2, 3, 0] rfl)
set_option maxRecDepth 100000 in
set_option maxHeartbeats 4000000 in
theorem b_X1_joyOfOwner_4 {p : Program} (l : Launch) {e : Env} {s : State} {m : MethodId} {args : Array Value} {below : List Frame} {meth : Method} {c : Code} {G : zG} {this : Nat} (hL : isL G this) (C0 : Cx G RX1 cX1_joyOfOwner 4 (some .int) p s m args meth c) {Q : Int32 → V3 → Prop} : ∀ (n : Nat) (x1 : Int32) (x2 : Int32) (x3 : Int32) (v : V3) (H : Heap) (locs : List Loc) (ls : Array Slot), w_X1_joyOfOwner_4 this Q n x1 x2 x3 v → Zs G s v H locs → lv_has ls 4 [(0, .ref (gad G this)), (1, .int x1), (2, .int x2), (3, .int x3)] → W p l e { frames := 3, cells := 0, slots := 0, locals := 70 } s m args below meth c H locs 0 0 (MQ below (QiZ G Q) args s 0 0 (zA G)) (F0 m 4 ls []) := by
  have hx := C0.1
  have hb := C0.2.1
  intro n
  induction n with
  | zero =>
    intro x1 x2 x3 v H locs ls hw Z hl
    exact hw.elim
  | succ n hK4 =>
    intro x1 x2 x3 v H locs ls hw Z hl
    rw [w_X1_joyOfOwner_4] at hw
    refine lv_iload_n hx hb dX1_joyOfOwner_4 rfl (lv_at hl 3 rfl) ?_
    refine lv_aload_n hx hb dX1_joyOfOwner_5 rfl (lv_at hl 0 rfl) ?_
    refine z_get C0 Z in_X1 rfl 8 (by decide) rfl tm_1_64 (isL_lt0 hL) (ent_L hL) rfl dX1_joyOfOwner_6 ?_
    refine lv_icmp_ge (tgt := 38) hx hb dX1_joyOfOwner_9 (by decide) (fun c1 => ?_) (fun c1 => ?_)
    · replace hw := hw.1 c1
      refine lv_iload_n hx hb dX1_joyOfOwner_38 rfl (lv_at hl 2 rfl) ?_
      exact z_iret C0 Z hw dX1_joyOfOwner_39
    · replace hw := hw.2 c1
      refine lv_aload_n hx hb dX1_joyOfOwner_12 rfl (lv_at hl 0 rfl) ?_
      refine z_get C0 Z in_X1 rfl 2 (by decide) rfl tm_1_49 (isL_lt0 hL) (ent_L hL) rfl dX1_joyOfOwner_13 ?_
      refine lv_iload_n hx hb dX1_joyOfOwner_16 rfl (lv_at hl 3 rfl) ?_
      obtain ⟨h2, hw⟩ := hw
      have h3 := vp_lt h2
      refine z_aald C0 Z (isL_lt hL 3 (by decide)) (ent_L3 hL) h2 dX1_joyOfOwner_17 ?_
      refine lv_iconst (v := 0) hx hb dX1_joyOfOwner_18 (by decide) ?_
      refine z_ialdk C0 Z (isL_B hL h3) (ent_B hL h3) in_0_10 nc_0 dX1_joyOfOwner_19 ?_
      refine lv_iload_n hx hb dX1_joyOfOwner_20 rfl (lv_at hl 1 rfl) ?_
      refine lv_icmp_ne (tgt := 32) hx hb dX1_joyOfOwner_21 (by decide) (fun c4 => ?_) (fun c4 => ?_)
      · replace hw := hw.1 c4
        exact b_X1_joyOfOwner_32 l hL C0 hK4 _ _ _ _ _ _ _ hw Z (lv_sub hl [0, 1, 2, 3] rfl)
      · replace hw := hw.2 c4
        refine lv_iload_n hx hb dX1_joyOfOwner_24 rfl (lv_at hl 2 rfl) ?_
        refine lv_aload_n hx hb dX1_joyOfOwner_25 rfl (lv_at hl 0 rfl) ?_
        refine lv_iload_n hx hb dX1_joyOfOwner_26 rfl (lv_at hl 3 rfl) ?_
        refine z_callVi C0 Z hl.1 (As := [.int x3]) (rest := [.int x2]) (k_X1_joyOf l (cx_g C0) hL hw) (gv_X1_joyOf tm_3_176) rfl ds_X1_joyOf ⟨Nat.le_of_ble_eq_true rfl, Nat.le_of_ble_eq_true rfl⟩ (ci := 1) rfl (isL_lt0 hL) (ent_L hL) rfl rfl (Nat.le_of_ble_eq_true rfl) ⟨Nat.zero_le _, Nat.zero_le _⟩ dX1_joyOfOwner_27 (fun r6 v5 H locs hw Z => ?_)
        refine lv_iadd hx hb dX1_joyOfOwner_30 ?_
        refine lv_istore_n (lv' := [(2, .int (x2 + r6)), (0, .ref (gad G this)), (1, .int x1), (3, .int x3)]) hx hb dX1_joyOfOwner_31 rfl hl (by decide) rfl (fun ls hl => ?_)
        exact b_X1_joyOfOwner_32 l hL C0 hK4 _ _ _ _ _ _ _ hw Z (lv_sub hl [1, 2, 0, 3] rfl)
set_option maxRecDepth 100000 in
set_option maxHeartbeats 4000000 in
theorem k_X1_joyOfOwner (l : Launch) {G : zG} (hg : 129 ≤ gn G) {this : Nat} {a1 : Int32} (hL : isL G this) {v : V3} {Q : Int32 → V3 → Prop} (hw : w_X1_joyOfOwner this a1 v Q) : Mz l yX1_joyOfOwner cX1_joyOfOwner 4 (some .int) 3 70 G [.ref (gad G this), .int a1] v (QiZ G Q) := by
  rw [w_X1_joyOfOwner] at hw
  refine z_ofW hg (by decide) (Nat.le_of_ble_eq_true rfl) ?_
  intro p e s m args below meth c ls C0 Z hl
  have hx := C0.1
  have hb := C0.2.1
  replace hl : lv_has ls 4 [(0, .ref (gad G this)), (1, .int a1)] := hl
  generalize s.heap = H at Z ⊢
  generalize ([] : List Loc) = locs at Z ⊢
  refine lv_iconst (v := 0) hx hb dX1_joyOfOwner_0 (by decide) ?_
  refine lv_istore_n (lv' := [(2, .int 0), (0, .ref (gad G this)), (1, .int a1)]) hx hb dX1_joyOfOwner_1 rfl hl (by decide) rfl (fun ls hl => ?_)
  refine lv_iconst (v := 0) hx hb dX1_joyOfOwner_2 (by decide) ?_
  refine lv_istore_n (lv' := [(3, .int 0), (2, .int 0), (0, .ref (gad G this)), (1, .int a1)]) hx hb dX1_joyOfOwner_3 rfl hl (by decide) rfl (fun ls hl => ?_)
  obtain ⟨m4, hw⟩ := hw
  exact b_X1_joyOfOwner_4 l hL C0 m4 _ _ _ _ _ _ _ hw Z (lv_sub hl [2, 3, 1, 0] rfl)
-- X1_isIn: room (0, 0)
theorem dX1_isIn_0 : decode cX1_isIn 0 = .ok (.aload_n 0, 1) := by decide +kernel
theorem dX1_isIn_1 : decode cX1_isIn 1 = .ok (.getfield 20, 3) := by decide +kernel
theorem dX1_isIn_4 : decode cX1_isIn 4 = .ok (.iload_n 1, 1) := by decide +kernel
theorem dX1_isIn_5 : decode cX1_isIn 5 = .ok (.aaload, 1) := by decide +kernel
theorem dX1_isIn_6 : decode cX1_isIn 6 = .ok (.bipush 7, 2) := by decide +kernel
theorem dX1_isIn_8 : decode cX1_isIn 8 = .ok (.iaload, 1) := by decide +kernel
theorem dX1_isIn_9 : decode cX1_isIn 9 = .ok (.iload_n 2, 1) := by decide +kernel
theorem dX1_isIn_10 : decode cX1_isIn 10 = .ok (.if_icmp .ne 7, 3) := by decide +kernel
theorem dX1_isIn_13 : decode cX1_isIn 13 = .ok (.iconst 1, 1) := by decide +kernel
theorem dX1_isIn_14 : decode cX1_isIn 14 = .ok (.goto 4, 3) := by decide +kernel
theorem dX1_isIn_17 : decode cX1_isIn 17 = .ok (.iconst 0, 1) := by decide +kernel
theorem dX1_isIn_18 : decode cX1_isIn 18 = .ok (.ireturn, 1) := by decide +kernel
def w_X1_isIn_18 (this : Nat) (Q : Int32 → V3 → Prop) (s0 : Int32) (v : V3) : Prop := (s0 = 0 ∨ s0 = 1) ∧ Q s0 v
def w_X1_isIn (this : Nat) (a1 : Int32) (a2 : Int32) (v : V3) (Q : Int32 → V3 → Prop) : Prop := vp_in a1 40 ∧ ((¬ (v (this + 14 + (ix a1)) 7) = a2 → w_X1_isIn_18 this Q 0 v) ∧ ((v (this + 14 + (ix a1)) 7) = a2 → w_X1_isIn_18 this Q 1 v))
set_option maxRecDepth 100000 in
set_option maxHeartbeats 4000000 in
theorem b_X1_isIn_18 {p : Program} (l : Launch) {e : Env} {s : State} {m : MethodId} {args : Array Value} {below : List Frame} {meth : Method} {c : Code} {G : zG} {this : Nat} (hL : isL G this) (C0 : Cx G RX1 cX1_isIn 3 (some .boolean) p s m args meth c) {Q : Int32 → V3 → Prop} : ∀ (s0 : Int32) (v : V3) (H : Heap) (locs : List Loc) (ls : Array Slot), w_X1_isIn_18 this Q s0 v → Zs G s v H locs → lv_has ls 3 [] → W p l e { frames := 0, cells := 0, slots := 0, locals := 0 } s m args below meth c H locs 0 0 (MQ below (QiZ G Q) args s 0 0 (zA G)) (F0 m 18 ls [.int s0]) := by
  have hx := C0.1
  have hb := C0.2.1
  intro s0 v H locs ls hw Z hl
  rw [w_X1_isIn_18] at hw
  obtain ⟨h4, hw⟩ := hw
  exact z_zret C0 Z h4 hw dX1_isIn_18
set_option maxRecDepth 100000 in
set_option maxHeartbeats 4000000 in
theorem k_X1_isIn (l : Launch) {G : zG} (hg : 129 ≤ gn G) {this : Nat} {a1 : Int32} {a2 : Int32} (hL : isL G this) {v : V3} {Q : Int32 → V3 → Prop} (hw : w_X1_isIn this a1 a2 v Q) : Mz l yX1_isIn cX1_isIn 3 (some .boolean) 0 0 G [.ref (gad G this), .int a1, .int a2] v (QiZ G Q) := by
  rw [w_X1_isIn] at hw
  refine z_ofW hg (by decide) (Nat.le_of_ble_eq_true rfl) ?_
  intro p e s m args below meth c ls C0 Z hl
  have hx := C0.1
  have hb := C0.2.1
  replace hl : lv_has ls 3 [(0, .ref (gad G this)), (1, .int a1), (2, .int a2)] := hl
  generalize s.heap = H at Z ⊢
  generalize ([] : List Loc) = locs at Z ⊢
  refine lv_aload_n hx hb dX1_isIn_0 rfl (lv_at hl 0 rfl) ?_
  refine z_get C0 Z in_X1 rfl 2 (by decide) rfl tm_1_49 (isL_lt0 hL) (ent_L hL) rfl dX1_isIn_1 ?_
  refine lv_iload_n hx hb dX1_isIn_4 rfl (lv_at hl 1 rfl) ?_
  obtain ⟨h1, hw⟩ := hw
  have h2 := vp_lt h1
  refine z_aald C0 Z (isL_lt hL 3 (by decide)) (ent_L3 hL) h1 dX1_isIn_5 ?_
  refine lv_bipush (v := 7) hx hb dX1_isIn_6 (by decide) ?_
  refine z_ialdk C0 Z (isL_B hL h2) (ent_B hL h2) in_7_10 nc_7 dX1_isIn_8 ?_
  refine lv_iload_n hx hb dX1_isIn_9 rfl (lv_at hl 2 rfl) ?_
  refine lv_icmp_ne (tgt := 17) hx hb dX1_isIn_10 (by decide) (fun c3 => ?_) (fun c3 => ?_)
  · replace hw := hw.1 c3
    refine lv_iconst (v := 0) hx hb dX1_isIn_17 (by decide) ?_
    exact b_X1_isIn_18 l hL C0 _ _ _ _ _ hw Z (lv_sub hl [] rfl)
  · replace hw := hw.2 c3
    refine lv_iconst (v := 1) hx hb dX1_isIn_13 (by decide) ?_
    refine lv_goto (tgt := 18) hx hb dX1_isIn_14 (by decide) ?_
    exact b_X1_isIn_18 l hL C0 _ _ _ _ _ hw Z (lv_sub hl [] rfl)
-- X1_countIn: room (0, 0)
theorem dX1_countIn_0 : decode cX1_countIn 0 = .ok (.iconst 0, 1) := by decide +kernel
theorem dX1_countIn_1 : decode cX1_countIn 1 = .ok (.istore_n 2, 1) := by decide +kernel
theorem dX1_countIn_2 : decode cX1_countIn 2 = .ok (.iconst 0, 1) := by decide +kernel
theorem dX1_countIn_3 : decode cX1_countIn 3 = .ok (.istore_n 3, 1) := by decide +kernel
theorem dX1_countIn_4 : decode cX1_countIn 4 = .ok (.iload_n 3, 1) := by decide +kernel
theorem dX1_countIn_5 : decode cX1_countIn 5 = .ok (.aload_n 0, 1) := by decide +kernel
theorem dX1_countIn_6 : decode cX1_countIn 6 = .ok (.getfield 43, 3) := by decide +kernel
theorem dX1_countIn_9 : decode cX1_countIn 9 = .ok (.if_icmp .ge 25, 3) := by decide +kernel
theorem dX1_countIn_12 : decode cX1_countIn 12 = .ok (.aload_n 0, 1) := by decide +kernel
theorem dX1_countIn_13 : decode cX1_countIn 13 = .ok (.getfield 20, 3) := by decide +kernel
theorem dX1_countIn_16 : decode cX1_countIn 16 = .ok (.iload_n 3, 1) := by decide +kernel
theorem dX1_countIn_17 : decode cX1_countIn 17 = .ok (.aaload, 1) := by decide +kernel
theorem dX1_countIn_18 : decode cX1_countIn 18 = .ok (.bipush 7, 2) := by decide +kernel
theorem dX1_countIn_20 : decode cX1_countIn 20 = .ok (.iaload, 1) := by decide +kernel
theorem dX1_countIn_21 : decode cX1_countIn 21 = .ok (.iload_n 1, 1) := by decide +kernel
theorem dX1_countIn_22 : decode cX1_countIn 22 = .ok (.if_icmp .ne 6, 3) := by decide +kernel
theorem dX1_countIn_25 : decode cX1_countIn 25 = .ok (.iinc 2 1, 3) := by decide +kernel
theorem dX1_countIn_28 : decode cX1_countIn 28 = .ok (.iinc 3 1, 3) := by decide +kernel
theorem dX1_countIn_31 : decode cX1_countIn 31 = .ok (.goto (-27), 3) := by decide +kernel
theorem dX1_countIn_34 : decode cX1_countIn 34 = .ok (.iload_n 2, 1) := by decide +kernel
theorem dX1_countIn_35 : decode cX1_countIn 35 = .ok (.ireturn, 1) := by decide +kernel
def w_X1_countIn_28 (this : Nat) (Q : Int32 → V3 → Prop) (K4 : Int32 → Int32 → Int32 → V3 → Prop) (x1 : Int32) (x2 : Int32) (x3 : Int32) (v : V3) : Prop := K4 x1 x2 (x3 + 1) v
def w_X1_countIn_4 (this : Nat) (Q : Int32 → V3 → Prop) : Nat → Int32 → Int32 → Int32 → V3 → Prop
  | 0, _, _, _, _ => False
  | n4 + 1, x1, x2, x3, v => (((v this 8) ≤ x3 → Q x2 v) ∧ (¬ (v this 8) ≤ x3 → vp_in x3 40 ∧ ((¬ (v (this + 14 + (ix x3)) 7) = x1 → w_X1_countIn_28 this Q (w_X1_countIn_4 this Q n4) x1 x2 x3 v) ∧ ((v (this + 14 + (ix x3)) 7) = x1 → w_X1_countIn_28 this Q (w_X1_countIn_4 this Q n4) x1 (x2 + 1) x3 v))))
def w_X1_countIn (this : Nat) (a1 : Int32) (v : V3) (Q : Int32 → V3 → Prop) : Prop := ∃ m4 : Nat, w_X1_countIn_4 this Q m4 a1 0 0 v
set_option maxRecDepth 100000 in
set_option maxHeartbeats 4000000 in
theorem b_X1_countIn_28 {p : Program} (l : Launch) {e : Env} {s : State} {m : MethodId} {args : Array Value} {below : List Frame} {meth : Method} {c : Code} {G : zG} {this : Nat} (hL : isL G this) (C0 : Cx G RX1 cX1_countIn 4 (some .int) p s m args meth c) {Q : Int32 → V3 → Prop} {K4 : Int32 → Int32 → Int32 → V3 → Prop} (hK4 : ∀ (x1 : Int32) (x2 : Int32) (x3 : Int32) (v : V3) (H : Heap) (locs : List Loc) (ls : Array Slot), K4 x1 x2 x3 v → Zs G s v H locs → lv_has ls 4 [(0, .ref (gad G this)), (1, .int x1), (2, .int x2), (3, .int x3)] → W p l e { frames := 0, cells := 0, slots := 0, locals := 0 } s m args below meth c H locs 0 0 (MQ below (QiZ G Q) args s 0 0 (zA G)) (F0 m 4 ls [])) : ∀ (x1 : Int32) (x2 : Int32) (x3 : Int32) (v : V3) (H : Heap) (locs : List Loc) (ls : Array Slot), w_X1_countIn_28 this Q K4 x1 x2 x3 v → Zs G s v H locs → lv_has ls 4 [(0, .ref (gad G this)), (1, .int x1), (2, .int x2), (3, .int x3)] → W p l e { frames := 0, cells := 0, slots := 0, locals := 0 } s m args below meth c H locs 0 0 (MQ below (QiZ G Q) args s 0 0 (zA G)) (F0 m 28 ls []) := by
  have hx := C0.1
  have hb := C0.2.1
  intro x1 x2 x3 v H locs ls hw Z hl
  rw [w_X1_countIn_28] at hw
  refine lv_iinc (v := x3 + 1) (lv' := [(3, .int (x3 + 1)), (0, .ref (gad G this)), (1, .int x1), (2, .int x2)]) hx hb dX1_countIn_28 hl (k := 3) rfl rfl (by decide) rfl (fun ls hl => ?_)
  refine lv_goto (tgt := 4) hx hb dX1_countIn_31 (by decide) ?_
  exact hK4 _ _ _ _ _ _ _ hw Z (lv_sub hl [1, 2, 3, 0] rfl)
set_option maxRecDepth 100000 in
set_option maxHeartbeats 4000000 in
theorem b_X1_countIn_4 {p : Program} (l : Launch) {e : Env} {s : State} {m : MethodId} {args : Array Value} {below : List Frame} {meth : Method} {c : Code} {G : zG} {this : Nat} (hL : isL G this) (C0 : Cx G RX1 cX1_countIn 4 (some .int) p s m args meth c) {Q : Int32 → V3 → Prop} : ∀ (n : Nat) (x1 : Int32) (x2 : Int32) (x3 : Int32) (v : V3) (H : Heap) (locs : List Loc) (ls : Array Slot), w_X1_countIn_4 this Q n x1 x2 x3 v → Zs G s v H locs → lv_has ls 4 [(0, .ref (gad G this)), (1, .int x1), (2, .int x2), (3, .int x3)] → W p l e { frames := 0, cells := 0, slots := 0, locals := 0 } s m args below meth c H locs 0 0 (MQ below (QiZ G Q) args s 0 0 (zA G)) (F0 m 4 ls []) := by
  have hx := C0.1
  have hb := C0.2.1
  intro n
  induction n with
  | zero =>
    intro x1 x2 x3 v H locs ls hw Z hl
    exact hw.elim
  | succ n hK4 =>
    intro x1 x2 x3 v H locs ls hw Z hl
    rw [w_X1_countIn_4] at hw
    refine lv_iload_n hx hb dX1_countIn_4 rfl (lv_at hl 3 rfl) ?_
    refine lv_aload_n hx hb dX1_countIn_5 rfl (lv_at hl 0 rfl) ?_
    refine z_get C0 Z in_X1 rfl 8 (by decide) rfl tm_1_64 (isL_lt0 hL) (ent_L hL) rfl dX1_countIn_6 ?_
    refine lv_icmp_ge (tgt := 34) hx hb dX1_countIn_9 (by decide) (fun c1 => ?_) (fun c1 => ?_)
    · replace hw := hw.1 c1
      refine lv_iload_n hx hb dX1_countIn_34 rfl (lv_at hl 2 rfl) ?_
      exact z_iret C0 Z hw dX1_countIn_35
    · replace hw := hw.2 c1
      refine lv_aload_n hx hb dX1_countIn_12 rfl (lv_at hl 0 rfl) ?_
      refine z_get C0 Z in_X1 rfl 2 (by decide) rfl tm_1_49 (isL_lt0 hL) (ent_L hL) rfl dX1_countIn_13 ?_
      refine lv_iload_n hx hb dX1_countIn_16 rfl (lv_at hl 3 rfl) ?_
      obtain ⟨h2, hw⟩ := hw
      have h3 := vp_lt h2
      refine z_aald C0 Z (isL_lt hL 3 (by decide)) (ent_L3 hL) h2 dX1_countIn_17 ?_
      refine lv_bipush (v := 7) hx hb dX1_countIn_18 (by decide) ?_
      refine z_ialdk C0 Z (isL_B hL h3) (ent_B hL h3) in_7_10 nc_7 dX1_countIn_20 ?_
      refine lv_iload_n hx hb dX1_countIn_21 rfl (lv_at hl 1 rfl) ?_
      refine lv_icmp_ne (tgt := 28) hx hb dX1_countIn_22 (by decide) (fun c4 => ?_) (fun c4 => ?_)
      · replace hw := hw.1 c4
        exact b_X1_countIn_28 l hL C0 hK4 _ _ _ _ _ _ _ hw Z (lv_sub hl [0, 1, 2, 3] rfl)
      · replace hw := hw.2 c4
        refine lv_iinc (v := x2 + 1) (lv' := [(2, .int (x2 + 1)), (0, .ref (gad G this)), (1, .int x1), (3, .int x3)]) hx hb dX1_countIn_25 hl (k := 2) rfl rfl (by decide) rfl (fun ls hl => ?_)
        exact b_X1_countIn_28 l hL C0 hK4 _ _ _ _ _ _ _ hw Z (lv_sub hl [1, 2, 0, 3] rfl)
set_option maxRecDepth 100000 in
set_option maxHeartbeats 4000000 in
theorem k_X1_countIn (l : Launch) {G : zG} (hg : 129 ≤ gn G) {this : Nat} {a1 : Int32} (hL : isL G this) {v : V3} {Q : Int32 → V3 → Prop} (hw : w_X1_countIn this a1 v Q) : Mz l yX1_countIn cX1_countIn 4 (some .int) 0 0 G [.ref (gad G this), .int a1] v (QiZ G Q) := by
  rw [w_X1_countIn] at hw
  refine z_ofW hg (by decide) (Nat.le_of_ble_eq_true rfl) ?_
  intro p e s m args below meth c ls C0 Z hl
  have hx := C0.1
  have hb := C0.2.1
  replace hl : lv_has ls 4 [(0, .ref (gad G this)), (1, .int a1)] := hl
  generalize s.heap = H at Z ⊢
  generalize ([] : List Loc) = locs at Z ⊢
  refine lv_iconst (v := 0) hx hb dX1_countIn_0 (by decide) ?_
  refine lv_istore_n (lv' := [(2, .int 0), (0, .ref (gad G this)), (1, .int a1)]) hx hb dX1_countIn_1 rfl hl (by decide) rfl (fun ls hl => ?_)
  refine lv_iconst (v := 0) hx hb dX1_countIn_2 (by decide) ?_
  refine lv_istore_n (lv' := [(3, .int 0), (2, .int 0), (0, .ref (gad G this)), (1, .int a1)]) hx hb dX1_countIn_3 rfl hl (by decide) rfl (fun ls hl => ?_)
  obtain ⟨m4, hw⟩ := hw
  exact b_X1_countIn_4 l hL C0 m4 _ _ _ _ _ _ _ hw Z (lv_sub hl [2, 3, 1, 0] rfl)
-- X1_letWait: room (0, 0)
theorem dX1_letWait_0 : decode cX1_letWait 0 = .ok (.aload_n 0, 1) := by decide +kernel
theorem dX1_letWait_1 : decode cX1_letWait 1 = .ok (.getfield 20, 3) := by decide +kernel
theorem dX1_letWait_4 : decode cX1_letWait 4 = .ok (.iload_n 1, 1) := by decide +kernel
theorem dX1_letWait_5 : decode cX1_letWait 5 = .ok (.aaload, 1) := by decide +kernel
theorem dX1_letWait_6 : decode cX1_letWait 6 = .ok (.astore_n 2, 1) := by decide +kernel
theorem dX1_letWait_7 : decode cX1_letWait 7 = .ok (.aload_n 2, 1) := by decide +kernel
theorem dX1_letWait_8 : decode cX1_letWait 8 = .ok (.bipush 7, 2) := by decide +kernel
theorem dX1_letWait_10 : decode cX1_letWait 10 = .ok (.iconst 0, 1) := by decide +kernel
theorem dX1_letWait_11 : decode cX1_letWait 11 = .ok (.iastore, 1) := by decide +kernel
theorem dX1_letWait_12 : decode cX1_letWait 12 = .ok (.aload_n 2, 1) := by decide +kernel
theorem dX1_letWait_13 : decode cX1_letWait 13 = .ok (.bipush 8, 2) := by decide +kernel
theorem dX1_letWait_15 : decode cX1_letWait 15 = .ok (.iconst (-1), 1) := by decide +kernel
theorem dX1_letWait_16 : decode cX1_letWait 16 = .ok (.iastore, 1) := by decide +kernel
theorem dX1_letWait_17 : decode cX1_letWait 17 = .ok (.aload_n 2, 1) := by decide +kernel
theorem dX1_letWait_18 : decode cX1_letWait 18 = .ok (.bipush 9, 2) := by decide +kernel
theorem dX1_letWait_20 : decode cX1_letWait 20 = .ok (.iconst (-1), 1) := by decide +kernel
theorem dX1_letWait_21 : decode cX1_letWait 21 = .ok (.iastore, 1) := by decide +kernel
theorem dX1_letWait_22 : decode cX1_letWait 22 = .ok (.return_, 1) := by decide +kernel
def w_X1_letWait (this : Nat) (a1 : Int32) (v : V3) (Q : V3 → Prop) : Prop := vp_in a1 40 ∧ ∀ v3 : V3, v3 = up2 v (this + 14 + (ix a1)) 7 0 → ∀ v4 : V3, v4 = up2 v3 (this + 14 + (ix a1)) 8 (-1) → ∀ v5 : V3, v5 = up2 v4 (this + 14 + (ix a1)) 9 (-1) → Q v5
set_option maxRecDepth 100000 in
set_option maxHeartbeats 4000000 in
theorem k_X1_letWait (l : Launch) {G : zG} (hg : 129 ≤ gn G) {this : Nat} {a1 : Int32} (hL : isL G this) {v : V3} {Q : V3 → Prop} (hw : w_X1_letWait this a1 v Q) : Mz l yX1_letWait cX1_letWait 3 none 0 0 G [.ref (gad G this), .int a1] v (QvZ G Q) := by
  rw [w_X1_letWait] at hw
  refine z_ofW hg (by decide) (Nat.le_of_ble_eq_true rfl) ?_
  intro p e s m args below meth c ls C0 Z hl
  have hx := C0.1
  have hb := C0.2.1
  replace hl : lv_has ls 3 [(0, .ref (gad G this)), (1, .int a1)] := hl
  generalize s.heap = H at Z ⊢
  generalize ([] : List Loc) = locs at Z ⊢
  refine lv_aload_n hx hb dX1_letWait_0 rfl (lv_at hl 0 rfl) ?_
  refine z_get C0 Z in_X1 rfl 2 (by decide) rfl tm_1_49 (isL_lt0 hL) (ent_L hL) rfl dX1_letWait_1 ?_
  refine lv_iload_n hx hb dX1_letWait_4 rfl (lv_at hl 1 rfl) ?_
  obtain ⟨h1, hw⟩ := hw
  have h2 := vp_lt h1
  refine z_aald C0 Z (isL_lt hL 3 (by decide)) (ent_L3 hL) h1 dX1_letWait_5 ?_
  refine lv_astore_n (lv' := [(2, .ref (gad G (this + 14 + (ix a1)))), (0, .ref (gad G this)), (1, .int a1)]) hx hb dX1_letWait_6 rfl hl (by decide) rfl (fun ls hl => ?_)
  refine lv_aload_n hx hb dX1_letWait_7 rfl (lv_at hl 0 rfl) ?_
  refine lv_bipush (v := 7) hx hb dX1_letWait_8 (by decide) ?_
  refine lv_iconst (v := 0) hx hb dX1_letWait_10 (by decide) ?_
  refine z_iastk C0 Z (isL_B hL h2) (fun _ => ent_B hL h2) in_7_10 nc_7 dX1_letWait_11 (fun H locs Z => ?_)
  obtain ⟨v3, ev3⟩ : ∃ z : V3, z = up2 v (this + 14 + (ix a1)) 7 0 := ⟨_, rfl⟩
  rw [← ev3] at Z
  replace hw := hw v3 ev3
  refine lv_aload_n hx hb dX1_letWait_12 rfl (lv_at hl 0 rfl) ?_
  refine lv_bipush (v := 8) hx hb dX1_letWait_13 (by decide) ?_
  refine lv_iconst (v := (-1)) hx hb dX1_letWait_15 (by decide) ?_
  refine z_iastk C0 Z (isL_B hL h2) (fun _ => ent_B hL h2) in_8_10 nc_8 dX1_letWait_16 (fun H locs Z => ?_)
  obtain ⟨v4, ev4⟩ : ∃ z : V3, z = up2 v3 (this + 14 + (ix a1)) 8 (-1) := ⟨_, rfl⟩
  rw [← ev4] at Z
  replace hw := hw v4 ev4
  refine lv_aload_n hx hb dX1_letWait_17 rfl (lv_at hl 0 rfl) ?_
  refine lv_bipush (v := 9) hx hb dX1_letWait_18 (by decide) ?_
  refine lv_iconst (v := (-1)) hx hb dX1_letWait_20 (by decide) ?_
  refine z_iastk C0 Z (isL_B hL h2) (fun _ => ent_B hL h2) in_9_10 nc_9 dX1_letWait_21 (fun H locs Z => ?_)
  obtain ⟨v5, ev5⟩ : ∃ z : V3, z = up2 v4 (this + 14 + (ix a1)) 9 (-1) := ⟨_, rfl⟩
  rw [← ev5] at Z
  replace hw := hw v5 ev5
  exact z_vret C0 Z hw dX1_letWait_22
-- X1_bookAt: room (0, 0)
theorem dX1_bookAt_0 : decode cX1_bookAt 0 = .ok (.iload_n 2, 1) := by decide +kernel
theorem dX1_bookAt_1 : decode cX1_bookAt 1 = .ok (.iconst (-1), 1) := by decide +kernel
theorem dX1_bookAt_2 : decode cX1_bookAt 2 = .ok (.if_icmp .ne 5, 3) := by decide +kernel
theorem dX1_bookAt_5 : decode cX1_bookAt 5 = .ok (.iconst 0, 1) := by decide +kernel
theorem dX1_bookAt_6 : decode cX1_bookAt 6 = .ok (.ireturn, 1) := by decide +kernel
theorem dX1_bookAt_7 : decode cX1_bookAt 7 = .ok (.aload_n 0, 1) := by decide +kernel
theorem dX1_bookAt_8 : decode cX1_bookAt 8 = .ok (.getfield 20, 3) := by decide +kernel
theorem dX1_bookAt_11 : decode cX1_bookAt 11 = .ok (.iload_n 1, 1) := by decide +kernel
theorem dX1_bookAt_12 : decode cX1_bookAt 12 = .ok (.aaload, 1) := by decide +kernel
theorem dX1_bookAt_13 : decode cX1_bookAt 13 = .ok (.astore_n 3, 1) := by decide +kernel
theorem dX1_bookAt_14 : decode cX1_bookAt 14 = .ok (.aload_n 3, 1) := by decide +kernel
theorem dX1_bookAt_15 : decode cX1_bookAt 15 = .ok (.bipush 7, 2) := by decide +kernel
theorem dX1_bookAt_17 : decode cX1_bookAt 17 = .ok (.iconst 1, 1) := by decide +kernel
theorem dX1_bookAt_18 : decode cX1_bookAt 18 = .ok (.iastore, 1) := by decide +kernel
theorem dX1_bookAt_19 : decode cX1_bookAt 19 = .ok (.aload_n 3, 1) := by decide +kernel
theorem dX1_bookAt_20 : decode cX1_bookAt 20 = .ok (.bipush 8, 2) := by decide +kernel
theorem dX1_bookAt_22 : decode cX1_bookAt 22 = .ok (.iload_n 2, 1) := by decide +kernel
theorem dX1_bookAt_23 : decode cX1_bookAt 23 = .ok (.iastore, 1) := by decide +kernel
theorem dX1_bookAt_24 : decode cX1_bookAt 24 = .ok (.aload_n 3, 1) := by decide +kernel
theorem dX1_bookAt_25 : decode cX1_bookAt 25 = .ok (.bipush 9, 2) := by decide +kernel
theorem dX1_bookAt_27 : decode cX1_bookAt 27 = .ok (.iload_n 2, 1) := by decide +kernel
theorem dX1_bookAt_28 : decode cX1_bookAt 28 = .ok (.aload_n 3, 1) := by decide +kernel
theorem dX1_bookAt_29 : decode cX1_bookAt 29 = .ok (.iconst 3, 1) := by decide +kernel
theorem dX1_bookAt_30 : decode cX1_bookAt 30 = .ok (.iaload, 1) := by decide +kernel
theorem dX1_bookAt_31 : decode cX1_bookAt 31 = .ok (.iadd, 1) := by decide +kernel
theorem dX1_bookAt_32 : decode cX1_bookAt 32 = .ok (.iastore, 1) := by decide +kernel
theorem dX1_bookAt_33 : decode cX1_bookAt 33 = .ok (.iconst 1, 1) := by decide +kernel
theorem dX1_bookAt_34 : decode cX1_bookAt 34 = .ok (.ireturn, 1) := by decide +kernel
def w_X1_bookAt (this : Nat) (a1 : Int32) (a2 : Int32) (v : V3) (Q : Int32 → V3 → Prop) : Prop := ((¬ a2 = (-1) → vp_in a1 40 ∧ ∀ v4 : V3, v4 = up2 v (this + 14 + (ix a1)) 7 1 → ∀ v5 : V3, v5 = up2 v4 (this + 14 + (ix a1)) 8 a2 → ∀ v6 : V3, v6 = up2 v5 (this + 14 + (ix a1)) 9 (a2 + (v5 (this + 14 + (ix a1)) 3)) → Q 1 v6) ∧ (a2 = (-1) → Q 0 v))
set_option maxRecDepth 100000 in
set_option maxHeartbeats 4000000 in
theorem k_X1_bookAt (l : Launch) {G : zG} (hg : 129 ≤ gn G) {this : Nat} {a1 : Int32} {a2 : Int32} (hL : isL G this) {v : V3} {Q : Int32 → V3 → Prop} (hw : w_X1_bookAt this a1 a2 v Q) : Mz l yX1_bookAt cX1_bookAt 4 (some .boolean) 0 0 G [.ref (gad G this), .int a1, .int a2] v (QiZ G Q) := by
  rw [w_X1_bookAt] at hw
  refine z_ofW hg (by decide) (Nat.le_of_ble_eq_true rfl) ?_
  intro p e s m args below meth c ls C0 Z hl
  have hx := C0.1
  have hb := C0.2.1
  replace hl : lv_has ls 4 [(0, .ref (gad G this)), (1, .int a1), (2, .int a2)] := hl
  generalize s.heap = H at Z ⊢
  generalize ([] : List Loc) = locs at Z ⊢
  refine lv_iload_n hx hb dX1_bookAt_0 rfl (lv_at hl 2 rfl) ?_
  refine lv_iconst (v := (-1)) hx hb dX1_bookAt_1 (by decide) ?_
  refine lv_icmp_ne (tgt := 7) hx hb dX1_bookAt_2 (by decide) (fun c1 => ?_) (fun c1 => ?_)
  · replace hw := hw.1 c1
    refine lv_aload_n hx hb dX1_bookAt_7 rfl (lv_at hl 0 rfl) ?_
    refine z_get C0 Z in_X1 rfl 2 (by decide) rfl tm_1_49 (isL_lt0 hL) (ent_L hL) rfl dX1_bookAt_8 ?_
    refine lv_iload_n hx hb dX1_bookAt_11 rfl (lv_at hl 1 rfl) ?_
    obtain ⟨h2, hw⟩ := hw
    have h3 := vp_lt h2
    refine z_aald C0 Z (isL_lt hL 3 (by decide)) (ent_L3 hL) h2 dX1_bookAt_12 ?_
    refine lv_astore_n (lv' := [(3, .ref (gad G (this + 14 + (ix a1)))), (0, .ref (gad G this)), (1, .int a1), (2, .int a2)]) hx hb dX1_bookAt_13 rfl hl (by decide) rfl (fun ls hl => ?_)
    refine lv_aload_n hx hb dX1_bookAt_14 rfl (lv_at hl 0 rfl) ?_
    refine lv_bipush (v := 7) hx hb dX1_bookAt_15 (by decide) ?_
    refine lv_iconst (v := 1) hx hb dX1_bookAt_17 (by decide) ?_
    refine z_iastk C0 Z (isL_B hL h3) (fun _ => ent_B hL h3) in_7_10 nc_7 dX1_bookAt_18 (fun H locs Z => ?_)
    obtain ⟨v4, ev4⟩ : ∃ z : V3, z = up2 v (this + 14 + (ix a1)) 7 1 := ⟨_, rfl⟩
    rw [← ev4] at Z
    replace hw := hw v4 ev4
    refine lv_aload_n hx hb dX1_bookAt_19 rfl (lv_at hl 0 rfl) ?_
    refine lv_bipush (v := 8) hx hb dX1_bookAt_20 (by decide) ?_
    refine lv_iload_n hx hb dX1_bookAt_22 rfl (lv_at hl 3 rfl) ?_
    refine z_iastk C0 Z (isL_B hL h3) (fun _ => ent_B hL h3) in_8_10 nc_8 dX1_bookAt_23 (fun H locs Z => ?_)
    obtain ⟨v5, ev5⟩ : ∃ z : V3, z = up2 v4 (this + 14 + (ix a1)) 8 a2 := ⟨_, rfl⟩
    rw [← ev5] at Z
    replace hw := hw v5 ev5
    refine lv_aload_n hx hb dX1_bookAt_24 rfl (lv_at hl 0 rfl) ?_
    refine lv_bipush (v := 9) hx hb dX1_bookAt_25 (by decide) ?_
    refine lv_iload_n hx hb dX1_bookAt_27 rfl (lv_at hl 3 rfl) ?_
    refine lv_aload_n hx hb dX1_bookAt_28 rfl (lv_at hl 0 rfl) ?_
    refine lv_iconst (v := 3) hx hb dX1_bookAt_29 (by decide) ?_
    refine z_ialdk C0 Z (isL_B hL h3) (ent_B hL h3) in_3_10 nc_3 dX1_bookAt_30 ?_
    refine lv_iadd hx hb dX1_bookAt_31 ?_
    refine z_iastk C0 Z (isL_B hL h3) (fun _ => ent_B hL h3) in_9_10 nc_9 dX1_bookAt_32 (fun H locs Z => ?_)
    obtain ⟨v6, ev6⟩ : ∃ z : V3, z = up2 v5 (this + 14 + (ix a1)) 9 (a2 + (v5 (this + 14 + (ix a1)) 3)) := ⟨_, rfl⟩
    rw [← ev6] at Z
    replace hw := hw v6 ev6
    refine lv_iconst (v := 1) hx hb dX1_bookAt_33 (by decide) ?_
    exact z_zret C0 Z (by decide) hw dX1_bookAt_34
  · replace hw := hw.2 c1
    refine lv_iconst (v := 0) hx hb dX1_bookAt_5 (by decide) ?_
    exact z_zret C0 Z (by decide) hw dX1_bookAt_6
-- X1_clashing: room (0, 0)
theorem dX1_clashing_0 : decode cX1_clashing 0 = .ok (.iconst 0, 1) := by decide +kernel
theorem dX1_clashing_1 : decode cX1_clashing 1 = .ok (.istore 7, 2) := by decide +kernel
theorem dX1_clashing_3 : decode cX1_clashing 3 = .ok (.iload 7, 2) := by decide +kernel
theorem dX1_clashing_5 : decode cX1_clashing 5 = .ok (.aload_n 0, 1) := by decide +kernel
theorem dX1_clashing_6 : decode cX1_clashing 6 = .ok (.getfield 43, 3) := by decide +kernel
theorem dX1_clashing_9 : decode cX1_clashing 9 = .ok (.if_icmp .ge 95, 3) := by decide +kernel
theorem dX1_clashing_12 : decode cX1_clashing 12 = .ok (.aload_n 0, 1) := by decide +kernel
theorem dX1_clashing_13 : decode cX1_clashing 13 = .ok (.getfield 20, 3) := by decide +kernel
theorem dX1_clashing_16 : decode cX1_clashing 16 = .ok (.iload 7, 2) := by decide +kernel
theorem dX1_clashing_18 : decode cX1_clashing 18 = .ok (.aaload, 1) := by decide +kernel
theorem dX1_clashing_19 : decode cX1_clashing 19 = .ok (.astore 8, 2) := by decide +kernel
theorem dX1_clashing_21 : decode cX1_clashing 21 = .ok (.aload 8, 2) := by decide +kernel
theorem dX1_clashing_23 : decode cX1_clashing 23 = .ok (.bipush 7, 2) := by decide +kernel
theorem dX1_clashing_25 : decode cX1_clashing 25 = .ok (.iaload, 1) := by decide +kernel
theorem dX1_clashing_26 : decode cX1_clashing 26 = .ok (.iconst 1, 1) := by decide +kernel
theorem dX1_clashing_27 : decode cX1_clashing 27 = .ok (.if_icmp .eq 12, 3) := by decide +kernel
theorem dX1_clashing_30 : decode cX1_clashing 30 = .ok (.aload 8, 2) := by decide +kernel
theorem dX1_clashing_32 : decode cX1_clashing 32 = .ok (.bipush 7, 2) := by decide +kernel
theorem dX1_clashing_34 : decode cX1_clashing 34 = .ok (.iaload, 1) := by decide +kernel
theorem dX1_clashing_35 : decode cX1_clashing 35 = .ok (.iconst 2, 1) := by decide +kernel
theorem dX1_clashing_36 : decode cX1_clashing 36 = .ok (.if_icmp .ne 62, 3) := by decide +kernel
theorem dX1_clashing_39 : decode cX1_clashing 39 = .ok (.iload 7, 2) := by decide +kernel
theorem dX1_clashing_41 : decode cX1_clashing 41 = .ok (.iload 5, 2) := by decide +kernel
theorem dX1_clashing_43 : decode cX1_clashing 43 = .ok (.if_icmp .eq 55, 3) := by decide +kernel
theorem dX1_clashing_46 : decode cX1_clashing 46 = .ok (.iload 7, 2) := by decide +kernel
theorem dX1_clashing_48 : decode cX1_clashing 48 = .ok (.iload 6, 2) := by decide +kernel
theorem dX1_clashing_50 : decode cX1_clashing 50 = .ok (.if_icmp .eq 48, 3) := by decide +kernel
theorem dX1_clashing_53 : decode cX1_clashing 53 = .ok (.aload 8, 2) := by decide +kernel
theorem dX1_clashing_55 : decode cX1_clashing 55 = .ok (.iconst 1, 1) := by decide +kernel
theorem dX1_clashing_56 : decode cX1_clashing 56 = .ok (.iaload, 1) := by decide +kernel
theorem dX1_clashing_57 : decode cX1_clashing 57 = .ok (.iload_n 1, 1) := by decide +kernel
theorem dX1_clashing_58 : decode cX1_clashing 58 = .ok (.iload_n 2, 1) := by decide +kernel
theorem dX1_clashing_59 : decode cX1_clashing 59 = .ok (.iadd, 1) := by decide +kernel
theorem dX1_clashing_60 : decode cX1_clashing 60 = .ok (.if_icmp .ge 38, 3) := by decide +kernel
theorem dX1_clashing_63 : decode cX1_clashing 63 = .ok (.iload_n 1, 1) := by decide +kernel
theorem dX1_clashing_64 : decode cX1_clashing 64 = .ok (.aload 8, 2) := by decide +kernel
theorem dX1_clashing_66 : decode cX1_clashing 66 = .ok (.iconst 1, 1) := by decide +kernel
theorem dX1_clashing_67 : decode cX1_clashing 67 = .ok (.iaload, 1) := by decide +kernel
theorem dX1_clashing_68 : decode cX1_clashing 68 = .ok (.aload 8, 2) := by decide +kernel
theorem dX1_clashing_70 : decode cX1_clashing 70 = .ok (.iconst 2, 1) := by decide +kernel
theorem dX1_clashing_71 : decode cX1_clashing 71 = .ok (.iaload, 1) := by decide +kernel
theorem dX1_clashing_72 : decode cX1_clashing 72 = .ok (.iadd, 1) := by decide +kernel
theorem dX1_clashing_73 : decode cX1_clashing 73 = .ok (.if_icmp .ge 25, 3) := by decide +kernel
theorem dX1_clashing_76 : decode cX1_clashing 76 = .ok (.aload 8, 2) := by decide +kernel
theorem dX1_clashing_78 : decode cX1_clashing 78 = .ok (.bipush 8, 2) := by decide +kernel
theorem dX1_clashing_80 : decode cX1_clashing 80 = .ok (.iaload, 1) := by decide +kernel
theorem dX1_clashing_81 : decode cX1_clashing 81 = .ok (.iload 4, 2) := by decide +kernel
theorem dX1_clashing_83 : decode cX1_clashing 83 = .ok (.if_icmp .ge 15, 3) := by decide +kernel
theorem dX1_clashing_86 : decode cX1_clashing 86 = .ok (.iload_n 3, 1) := by decide +kernel
theorem dX1_clashing_87 : decode cX1_clashing 87 = .ok (.aload 8, 2) := by decide +kernel
theorem dX1_clashing_89 : decode cX1_clashing 89 = .ok (.bipush 9, 2) := by decide +kernel
theorem dX1_clashing_91 : decode cX1_clashing 91 = .ok (.iaload, 1) := by decide +kernel
theorem dX1_clashing_92 : decode cX1_clashing 92 = .ok (.if_icmp .ge 6, 3) := by decide +kernel
theorem dX1_clashing_95 : decode cX1_clashing 95 = .ok (.iload 7, 2) := by decide +kernel
theorem dX1_clashing_97 : decode cX1_clashing 97 = .ok (.ireturn, 1) := by decide +kernel
theorem dX1_clashing_98 : decode cX1_clashing 98 = .ok (.iinc 7 1, 3) := by decide +kernel
theorem dX1_clashing_101 : decode cX1_clashing 101 = .ok (.goto (-98), 3) := by decide +kernel
theorem dX1_clashing_104 : decode cX1_clashing 104 = .ok (.iconst (-1), 1) := by decide +kernel
theorem dX1_clashing_105 : decode cX1_clashing 105 = .ok (.ireturn, 1) := by decide +kernel
def w_X1_clashing_98 (this : Nat) (Q : Int32 → V3 → Prop) (K3 : Int32 → Int32 → Int32 → Int32 → Int32 → Int32 → Int32 → V3 → Prop) (x1 : Int32) (x2 : Int32) (x3 : Int32) (x4 : Int32) (x5 : Int32) (x6 : Int32) (x7 : Int32) (v : V3) : Prop := K3 x1 x2 x3 x4 x5 x6 (x7 + 1) v
def w_X1_clashing_39 (this : Nat) (Q : Int32 → V3 → Prop) (K3 : Int32 → Int32 → Int32 → Int32 → Int32 → Int32 → Int32 → V3 → Prop) (x1 : Int32) (x2 : Int32) (x3 : Int32) (x4 : Int32) (x5 : Int32) (x6 : Int32) (x7 : Int32) (x8 : Nat) (v : V3) : Prop := ((x7 = x5 → w_X1_clashing_98 this Q K3 x1 x2 x3 x4 x5 x6 x7 v) ∧ (¬ x7 = x5 → ((x7 = x6 → w_X1_clashing_98 this Q K3 x1 x2 x3 x4 x5 x6 x7 v) ∧ (¬ x7 = x6 → (((x1 + x2) ≤ (v (this + 14 + x8) 1) → w_X1_clashing_98 this Q K3 x1 x2 x3 x4 x5 x6 x7 v) ∧ (¬ (x1 + x2) ≤ (v (this + 14 + x8) 1) → ((((v (this + 14 + x8) 1) + (v (this + 14 + x8) 2)) ≤ x1 → w_X1_clashing_98 this Q K3 x1 x2 x3 x4 x5 x6 x7 v) ∧ (¬ ((v (this + 14 + x8) 1) + (v (this + 14 + x8) 2)) ≤ x1 → ((x4 ≤ (v (this + 14 + x8) 8) → w_X1_clashing_98 this Q K3 x1 x2 x3 x4 x5 x6 x7 v) ∧ (¬ x4 ≤ (v (this + 14 + x8) 8) → (((v (this + 14 + x8) 9) ≤ x3 → w_X1_clashing_98 this Q K3 x1 x2 x3 x4 x5 x6 x7 v) ∧ (¬ (v (this + 14 + x8) 9) ≤ x3 → Q x7 v))))))))))))
def w_X1_clashing_3 (this : Nat) (Q : Int32 → V3 → Prop) : Nat → Int32 → Int32 → Int32 → Int32 → Int32 → Int32 → Int32 → V3 → Prop
  | 0, _, _, _, _, _, _, _, _ => False
  | n3 + 1, x1, x2, x3, x4, x5, x6, x7, v => (((v this 8) ≤ x7 → Q (-1) v) ∧ (¬ (v this 8) ≤ x7 → vp_in x7 40 ∧ (((v (this + 14 + (ix x7)) 7) = 1 → w_X1_clashing_39 this Q (w_X1_clashing_3 this Q n3) x1 x2 x3 x4 x5 x6 x7 (ix x7) v) ∧ (¬ (v (this + 14 + (ix x7)) 7) = 1 → ((¬ (v (this + 14 + (ix x7)) 7) = 2 → w_X1_clashing_98 this Q (w_X1_clashing_3 this Q n3) x1 x2 x3 x4 x5 x6 x7 v) ∧ ((v (this + 14 + (ix x7)) 7) = 2 → w_X1_clashing_39 this Q (w_X1_clashing_3 this Q n3) x1 x2 x3 x4 x5 x6 x7 (ix x7) v))))))
def w_X1_clashing (this : Nat) (a1 : Int32) (a2 : Int32) (a3 : Int32) (a4 : Int32) (a5 : Int32) (a6 : Int32) (v : V3) (Q : Int32 → V3 → Prop) : Prop := ∃ m3 : Nat, w_X1_clashing_3 this Q m3 a1 a2 a3 a4 a5 a6 0 v
set_option maxRecDepth 100000 in
set_option maxHeartbeats 4000000 in
theorem b_X1_clashing_98 {p : Program} (l : Launch) {e : Env} {s : State} {m : MethodId} {args : Array Value} {below : List Frame} {meth : Method} {c : Code} {G : zG} {this : Nat} (hL : isL G this) (C0 : Cx G RX1 cX1_clashing 9 (some .int) p s m args meth c) {Q : Int32 → V3 → Prop} {K3 : Int32 → Int32 → Int32 → Int32 → Int32 → Int32 → Int32 → V3 → Prop} (hK3 : ∀ (x1 : Int32) (x2 : Int32) (x3 : Int32) (x4 : Int32) (x5 : Int32) (x6 : Int32) (x7 : Int32) (v : V3) (H : Heap) (locs : List Loc) (ls : Array Slot), K3 x1 x2 x3 x4 x5 x6 x7 v → Zs G s v H locs → lv_has ls 9 [(0, .ref (gad G this)), (1, .int x1), (2, .int x2), (3, .int x3), (4, .int x4), (5, .int x5), (6, .int x6), (7, .int x7)] → W p l e { frames := 0, cells := 0, slots := 0, locals := 0 } s m args below meth c H locs 0 0 (MQ below (QiZ G Q) args s 0 0 (zA G)) (F0 m 3 ls [])) : ∀ (x1 : Int32) (x2 : Int32) (x3 : Int32) (x4 : Int32) (x5 : Int32) (x6 : Int32) (x7 : Int32) (v : V3) (H : Heap) (locs : List Loc) (ls : Array Slot), w_X1_clashing_98 this Q K3 x1 x2 x3 x4 x5 x6 x7 v → Zs G s v H locs → lv_has ls 9 [(0, .ref (gad G this)), (1, .int x1), (2, .int x2), (3, .int x3), (4, .int x4), (5, .int x5), (6, .int x6), (7, .int x7)] → W p l e { frames := 0, cells := 0, slots := 0, locals := 0 } s m args below meth c H locs 0 0 (MQ below (QiZ G Q) args s 0 0 (zA G)) (F0 m 98 ls []) := by
  have hx := C0.1
  have hb := C0.2.1
  intro x1 x2 x3 x4 x5 x6 x7 v H locs ls hw Z hl
  rw [w_X1_clashing_98] at hw
  refine lv_iinc (v := x7 + 1) (lv' := [(7, .int (x7 + 1)), (0, .ref (gad G this)), (1, .int x1), (2, .int x2), (3, .int x3), (4, .int x4), (5, .int x5), (6, .int x6)]) hx hb dX1_clashing_98 hl (k := 7) rfl rfl (by decide) rfl (fun ls hl => ?_)
  refine lv_goto (tgt := 3) hx hb dX1_clashing_101 (by decide) ?_
  exact hK3 _ _ _ _ _ _ _ _ _ _ _ hw Z (lv_sub hl [1, 2, 3, 4, 5, 6, 7, 0] rfl)
set_option maxRecDepth 100000 in
set_option maxHeartbeats 4000000 in
theorem b_X1_clashing_39 {p : Program} (l : Launch) {e : Env} {s : State} {m : MethodId} {args : Array Value} {below : List Frame} {meth : Method} {c : Code} {G : zG} {this : Nat} (hL : isL G this) (C0 : Cx G RX1 cX1_clashing 9 (some .int) p s m args meth c) {Q : Int32 → V3 → Prop} {K3 : Int32 → Int32 → Int32 → Int32 → Int32 → Int32 → Int32 → V3 → Prop} (hK3 : ∀ (x1 : Int32) (x2 : Int32) (x3 : Int32) (x4 : Int32) (x5 : Int32) (x6 : Int32) (x7 : Int32) (v : V3) (H : Heap) (locs : List Loc) (ls : Array Slot), K3 x1 x2 x3 x4 x5 x6 x7 v → Zs G s v H locs → lv_has ls 9 [(0, .ref (gad G this)), (1, .int x1), (2, .int x2), (3, .int x3), (4, .int x4), (5, .int x5), (6, .int x6), (7, .int x7)] → W p l e { frames := 0, cells := 0, slots := 0, locals := 0 } s m args below meth c H locs 0 0 (MQ below (QiZ G Q) args s 0 0 (zA G)) (F0 m 3 ls [])) : ∀ (x1 : Int32) (x2 : Int32) (x3 : Int32) (x4 : Int32) (x5 : Int32) (x6 : Int32) (x7 : Int32) (x8 : Nat) (v : V3) (H : Heap) (locs : List Loc) (ls : Array Slot), x8 < 40 → w_X1_clashing_39 this Q K3 x1 x2 x3 x4 x5 x6 x7 x8 v → Zs G s v H locs → lv_has ls 9 [(0, .ref (gad G this)), (1, .int x1), (2, .int x2), (3, .int x3), (4, .int x4), (5, .int x5), (6, .int x6), (7, .int x7), (8, .ref (gad G (this + 14 + x8)))] → W p l e { frames := 0, cells := 0, slots := 0, locals := 0 } s m args below meth c H locs 0 0 (MQ below (QiZ G Q) args s 0 0 (zA G)) (F0 m 39 ls []) := by
  have hx := C0.1
  have hb := C0.2.1
  intro x1 x2 x3 x4 x5 x6 x7 x8 v H locs ls hx8 hw Z hl
  rw [w_X1_clashing_39] at hw
  refine lv_iload hx hb dX1_clashing_39 (lv_at hl 7 rfl) ?_
  refine lv_iload hx hb dX1_clashing_41 (lv_at hl 5 rfl) ?_
  refine lv_icmp_eq (tgt := 98) hx hb dX1_clashing_43 (by decide) (fun c5 => ?_) (fun c5 => ?_)
  · replace hw := hw.1 c5
    exact b_X1_clashing_98 l hL C0 hK3 _ _ _ _ _ _ _ _ _ _ _ hw Z (lv_sub hl [0, 1, 2, 3, 4, 5, 6, 7] rfl)
  · replace hw := hw.2 c5
    refine lv_iload hx hb dX1_clashing_46 (lv_at hl 7 rfl) ?_
    refine lv_iload hx hb dX1_clashing_48 (lv_at hl 6 rfl) ?_
    refine lv_icmp_eq (tgt := 98) hx hb dX1_clashing_50 (by decide) (fun c6 => ?_) (fun c6 => ?_)
    · replace hw := hw.1 c6
      exact b_X1_clashing_98 l hL C0 hK3 _ _ _ _ _ _ _ _ _ _ _ hw Z (lv_sub hl [0, 1, 2, 3, 4, 5, 6, 7] rfl)
    · replace hw := hw.2 c6
      refine lv_aload hx hb dX1_clashing_53 (lv_at hl 8 rfl) ?_
      refine lv_iconst (v := 1) hx hb dX1_clashing_55 (by decide) ?_
      refine z_ialdk C0 Z (isL_B hL hx8) (ent_B hL hx8) in_1_10 nc_1 dX1_clashing_56 ?_
      refine lv_iload_n hx hb dX1_clashing_57 rfl (lv_at hl 1 rfl) ?_
      refine lv_iload_n hx hb dX1_clashing_58 rfl (lv_at hl 2 rfl) ?_
      refine lv_iadd hx hb dX1_clashing_59 ?_
      refine lv_icmp_ge (tgt := 98) hx hb dX1_clashing_60 (by decide) (fun c7 => ?_) (fun c7 => ?_)
      · replace hw := hw.1 c7
        exact b_X1_clashing_98 l hL C0 hK3 _ _ _ _ _ _ _ _ _ _ _ hw Z (lv_sub hl [0, 1, 2, 3, 4, 5, 6, 7] rfl)
      · replace hw := hw.2 c7
        refine lv_iload_n hx hb dX1_clashing_63 rfl (lv_at hl 1 rfl) ?_
        refine lv_aload hx hb dX1_clashing_64 (lv_at hl 8 rfl) ?_
        refine lv_iconst (v := 1) hx hb dX1_clashing_66 (by decide) ?_
        refine z_ialdk C0 Z (isL_B hL hx8) (ent_B hL hx8) in_1_10 nc_1 dX1_clashing_67 ?_
        refine lv_aload hx hb dX1_clashing_68 (lv_at hl 8 rfl) ?_
        refine lv_iconst (v := 2) hx hb dX1_clashing_70 (by decide) ?_
        refine z_ialdk C0 Z (isL_B hL hx8) (ent_B hL hx8) in_2_10 nc_2 dX1_clashing_71 ?_
        refine lv_iadd hx hb dX1_clashing_72 ?_
        refine lv_icmp_ge (tgt := 98) hx hb dX1_clashing_73 (by decide) (fun c8 => ?_) (fun c8 => ?_)
        · replace hw := hw.1 c8
          exact b_X1_clashing_98 l hL C0 hK3 _ _ _ _ _ _ _ _ _ _ _ hw Z (lv_sub hl [0, 1, 2, 3, 4, 5, 6, 7] rfl)
        · replace hw := hw.2 c8
          refine lv_aload hx hb dX1_clashing_76 (lv_at hl 8 rfl) ?_
          refine lv_bipush (v := 8) hx hb dX1_clashing_78 (by decide) ?_
          refine z_ialdk C0 Z (isL_B hL hx8) (ent_B hL hx8) in_8_10 nc_8 dX1_clashing_80 ?_
          refine lv_iload hx hb dX1_clashing_81 (lv_at hl 4 rfl) ?_
          refine lv_icmp_ge (tgt := 98) hx hb dX1_clashing_83 (by decide) (fun c9 => ?_) (fun c9 => ?_)
          · replace hw := hw.1 c9
            exact b_X1_clashing_98 l hL C0 hK3 _ _ _ _ _ _ _ _ _ _ _ hw Z (lv_sub hl [0, 1, 2, 3, 4, 5, 6, 7] rfl)
          · replace hw := hw.2 c9
            refine lv_iload_n hx hb dX1_clashing_86 rfl (lv_at hl 3 rfl) ?_
            refine lv_aload hx hb dX1_clashing_87 (lv_at hl 8 rfl) ?_
            refine lv_bipush (v := 9) hx hb dX1_clashing_89 (by decide) ?_
            refine z_ialdk C0 Z (isL_B hL hx8) (ent_B hL hx8) in_9_10 nc_9 dX1_clashing_91 ?_
            refine lv_icmp_ge (tgt := 98) hx hb dX1_clashing_92 (by decide) (fun c10 => ?_) (fun c10 => ?_)
            · replace hw := hw.1 c10
              exact b_X1_clashing_98 l hL C0 hK3 _ _ _ _ _ _ _ _ _ _ _ hw Z (lv_sub hl [0, 1, 2, 3, 4, 5, 6, 7] rfl)
            · replace hw := hw.2 c10
              refine lv_iload hx hb dX1_clashing_95 (lv_at hl 7 rfl) ?_
              exact z_iret C0 Z hw dX1_clashing_97
set_option maxRecDepth 100000 in
set_option maxHeartbeats 4000000 in
theorem b_X1_clashing_3 {p : Program} (l : Launch) {e : Env} {s : State} {m : MethodId} {args : Array Value} {below : List Frame} {meth : Method} {c : Code} {G : zG} {this : Nat} (hL : isL G this) (C0 : Cx G RX1 cX1_clashing 9 (some .int) p s m args meth c) {Q : Int32 → V3 → Prop} : ∀ (n : Nat) (x1 : Int32) (x2 : Int32) (x3 : Int32) (x4 : Int32) (x5 : Int32) (x6 : Int32) (x7 : Int32) (v : V3) (H : Heap) (locs : List Loc) (ls : Array Slot), w_X1_clashing_3 this Q n x1 x2 x3 x4 x5 x6 x7 v → Zs G s v H locs → lv_has ls 9 [(0, .ref (gad G this)), (1, .int x1), (2, .int x2), (3, .int x3), (4, .int x4), (5, .int x5), (6, .int x6), (7, .int x7)] → W p l e { frames := 0, cells := 0, slots := 0, locals := 0 } s m args below meth c H locs 0 0 (MQ below (QiZ G Q) args s 0 0 (zA G)) (F0 m 3 ls []) := by
  have hx := C0.1
  have hb := C0.2.1
  intro n
  induction n with
  | zero =>
    intro x1 x2 x3 x4 x5 x6 x7 v H locs ls hw Z hl
    exact hw.elim
  | succ n hK3 =>
    intro x1 x2 x3 x4 x5 x6 x7 v H locs ls hw Z hl
    rw [w_X1_clashing_3] at hw
    refine lv_iload hx hb dX1_clashing_3 (lv_at hl 7 rfl) ?_
    refine lv_aload_n hx hb dX1_clashing_5 rfl (lv_at hl 0 rfl) ?_
    refine z_get C0 Z in_X1 rfl 8 (by decide) rfl tm_1_64 (isL_lt0 hL) (ent_L hL) rfl dX1_clashing_6 ?_
    refine lv_icmp_ge (tgt := 104) hx hb dX1_clashing_9 (by decide) (fun c1 => ?_) (fun c1 => ?_)
    · replace hw := hw.1 c1
      refine lv_iconst (v := (-1)) hx hb dX1_clashing_104 (by decide) ?_
      exact z_iret C0 Z hw dX1_clashing_105
    · replace hw := hw.2 c1
      refine lv_aload_n hx hb dX1_clashing_12 rfl (lv_at hl 0 rfl) ?_
      refine z_get C0 Z in_X1 rfl 2 (by decide) rfl tm_1_49 (isL_lt0 hL) (ent_L hL) rfl dX1_clashing_13 ?_
      refine lv_iload hx hb dX1_clashing_16 (lv_at hl 7 rfl) ?_
      obtain ⟨h2, hw⟩ := hw
      have h3 := vp_lt h2
      refine z_aald C0 Z (isL_lt hL 3 (by decide)) (ent_L3 hL) h2 dX1_clashing_18 ?_
      refine lv_astore (lv' := [(8, .ref (gad G (this + 14 + (ix x7)))), (0, .ref (gad G this)), (1, .int x1), (2, .int x2), (3, .int x3), (4, .int x4), (5, .int x5), (6, .int x6), (7, .int x7)]) hx hb dX1_clashing_19 hl (by decide) rfl (fun ls hl => ?_)
      refine lv_aload hx hb dX1_clashing_21 (lv_at hl 0 rfl) ?_
      refine lv_bipush (v := 7) hx hb dX1_clashing_23 (by decide) ?_
      refine z_ialdk C0 Z (isL_B hL h3) (ent_B hL h3) in_7_10 nc_7 dX1_clashing_25 ?_
      refine lv_iconst (v := 1) hx hb dX1_clashing_26 (by decide) ?_
      refine lv_icmp_eq (tgt := 39) hx hb dX1_clashing_27 (by decide) (fun c4 => ?_) (fun c4 => ?_)
      · replace hw := hw.1 c4
        exact b_X1_clashing_39 l hL C0 hK3 _ _ _ _ _ _ _ _ _ _ _ _ h3 hw Z (lv_sub hl [1, 2, 3, 4, 5, 6, 7, 8, 0] rfl)
      · replace hw := hw.2 c4
        refine lv_aload hx hb dX1_clashing_30 (lv_at hl 0 rfl) ?_
        refine lv_bipush (v := 7) hx hb dX1_clashing_32 (by decide) ?_
        refine z_ialdk C0 Z (isL_B hL h3) (ent_B hL h3) in_7_10 nc_7 dX1_clashing_34 ?_
        refine lv_iconst (v := 2) hx hb dX1_clashing_35 (by decide) ?_
        refine lv_icmp_ne (tgt := 98) hx hb dX1_clashing_36 (by decide) (fun c11 => ?_) (fun c11 => ?_)
        · replace hw := hw.1 c11
          exact b_X1_clashing_98 l hL C0 hK3 _ _ _ _ _ _ _ _ _ _ _ hw Z (lv_sub hl [1, 2, 3, 4, 5, 6, 7, 8] rfl)
        · replace hw := hw.2 c11
          exact b_X1_clashing_39 l hL C0 hK3 _ _ _ _ _ _ _ _ _ _ _ _ h3 hw Z (lv_sub hl [1, 2, 3, 4, 5, 6, 7, 8, 0] rfl)
set_option maxRecDepth 100000 in
set_option maxHeartbeats 4000000 in
theorem k_X1_clashing (l : Launch) {G : zG} (hg : 129 ≤ gn G) {this : Nat} {a1 : Int32} {a2 : Int32} {a3 : Int32} {a4 : Int32} {a5 : Int32} {a6 : Int32} (hL : isL G this) {v : V3} {Q : Int32 → V3 → Prop} (hw : w_X1_clashing this a1 a2 a3 a4 a5 a6 v Q) : Mz l yX1_clashing cX1_clashing 9 (some .int) 0 0 G [.ref (gad G this), .int a1, .int a2, .int a3, .int a4, .int a5, .int a6] v (QiZ G Q) := by
  rw [w_X1_clashing] at hw
  refine z_ofW hg (by decide) (Nat.le_of_ble_eq_true rfl) ?_
  intro p e s m args below meth c ls C0 Z hl
  have hx := C0.1
  have hb := C0.2.1
  replace hl : lv_has ls 9 [(0, .ref (gad G this)), (1, .int a1), (2, .int a2), (3, .int a3), (4, .int a4), (5, .int a5), (6, .int a6)] := hl
  generalize s.heap = H at Z ⊢
  generalize ([] : List Loc) = locs at Z ⊢
  refine lv_iconst (v := 0) hx hb dX1_clashing_0 (by decide) ?_
  refine lv_istore (lv' := [(7, .int 0), (0, .ref (gad G this)), (1, .int a1), (2, .int a2), (3, .int a3), (4, .int a4), (5, .int a5), (6, .int a6)]) hx hb dX1_clashing_1 hl (by decide) rfl (fun ls hl => ?_)
  obtain ⟨m3, hw⟩ := hw
  exact b_X1_clashing_3 l hL C0 m3 _ _ _ _ _ _ _ _ _ _ _ hw Z (lv_sub hl [1, 2, 3, 4, 5, 6, 7, 0] rfl)
-- X1_wouldClash: room (1, 28)
theorem dX1_wouldClash_0 : decode cX1_wouldClash 0 = .ok (.aload_n 0, 1) := by decide +kernel
theorem dX1_wouldClash_1 : decode cX1_wouldClash 1 = .ok (.getfield 20, 3) := by decide +kernel
theorem dX1_wouldClash_4 : decode cX1_wouldClash 4 = .ok (.iload_n 1, 1) := by decide +kernel
theorem dX1_wouldClash_5 : decode cX1_wouldClash 5 = .ok (.aaload, 1) := by decide +kernel
theorem dX1_wouldClash_6 : decode cX1_wouldClash 6 = .ok (.astore 5, 2) := by decide +kernel
theorem dX1_wouldClash_8 : decode cX1_wouldClash 8 = .ok (.aload_n 0, 1) := by decide +kernel
theorem dX1_wouldClash_9 : decode cX1_wouldClash 9 = .ok (.aload 5, 2) := by decide +kernel
theorem dX1_wouldClash_11 : decode cX1_wouldClash 11 = .ok (.iconst 1, 1) := by decide +kernel
theorem dX1_wouldClash_12 : decode cX1_wouldClash 12 = .ok (.iaload, 1) := by decide +kernel
theorem dX1_wouldClash_13 : decode cX1_wouldClash 13 = .ok (.aload 5, 2) := by decide +kernel
theorem dX1_wouldClash_15 : decode cX1_wouldClash 15 = .ok (.iconst 2, 1) := by decide +kernel
theorem dX1_wouldClash_16 : decode cX1_wouldClash 16 = .ok (.iaload, 1) := by decide +kernel
theorem dX1_wouldClash_17 : decode cX1_wouldClash 17 = .ok (.iload_n 2, 1) := by decide +kernel
theorem dX1_wouldClash_18 : decode cX1_wouldClash 18 = .ok (.iload_n 3, 1) := by decide +kernel
theorem dX1_wouldClash_19 : decode cX1_wouldClash 19 = .ok (.iload_n 1, 1) := by decide +kernel
theorem dX1_wouldClash_20 : decode cX1_wouldClash 20 = .ok (.iload 4, 2) := by decide +kernel
theorem dX1_wouldClash_22 : decode cX1_wouldClash 22 = .ok (.invokevirtual 94, 3) := by decide +kernel
theorem dX1_wouldClash_25 : decode cX1_wouldClash 25 = .ok (.iconst (-1), 1) := by decide +kernel
theorem dX1_wouldClash_26 : decode cX1_wouldClash 26 = .ok (.if_icmp .eq 7, 3) := by decide +kernel
theorem dX1_wouldClash_29 : decode cX1_wouldClash 29 = .ok (.iconst 1, 1) := by decide +kernel
theorem dX1_wouldClash_30 : decode cX1_wouldClash 30 = .ok (.goto 4, 3) := by decide +kernel
theorem dX1_wouldClash_33 : decode cX1_wouldClash 33 = .ok (.iconst 0, 1) := by decide +kernel
theorem dX1_wouldClash_34 : decode cX1_wouldClash 34 = .ok (.ireturn, 1) := by decide +kernel
def w_X1_wouldClash_34 (this : Nat) (Q : Int32 → V3 → Prop) (s0 : Int32) (v : V3) : Prop := (s0 = 0 ∨ s0 = 1) ∧ Q s0 v
def w_X1_wouldClash (this : Nat) (a1 : Int32) (a2 : Int32) (a3 : Int32) (a4 : Int32) (v : V3) (Q : Int32 → V3 → Prop) : Prop := vp_in a1 40 ∧ w_X1_clashing this (v (this + 14 + (ix a1)) 1) (v (this + 14 + (ix a1)) 2) a2 a3 a1 a4 v (fun r4 v3 => ((r4 = (-1) → w_X1_wouldClash_34 this Q 0 v3) ∧ (¬ r4 = (-1) → w_X1_wouldClash_34 this Q 1 v3)))
set_option maxRecDepth 100000 in
set_option maxHeartbeats 4000000 in
theorem b_X1_wouldClash_34 {p : Program} (l : Launch) {e : Env} {s : State} {m : MethodId} {args : Array Value} {below : List Frame} {meth : Method} {c : Code} {G : zG} {this : Nat} (hL : isL G this) (C0 : Cx G RX1 cX1_wouldClash 6 (some .boolean) p s m args meth c) {Q : Int32 → V3 → Prop} : ∀ (s0 : Int32) (v : V3) (H : Heap) (locs : List Loc) (ls : Array Slot), w_X1_wouldClash_34 this Q s0 v → Zs G s v H locs → lv_has ls 6 [] → W p l e { frames := 1, cells := 0, slots := 0, locals := 28 } s m args below meth c H locs 0 0 (MQ below (QiZ G Q) args s 0 0 (zA G)) (F0 m 34 ls [.int s0]) := by
  have hx := C0.1
  have hb := C0.2.1
  intro s0 v H locs ls hw Z hl
  rw [w_X1_wouldClash_34] at hw
  obtain ⟨h6, hw⟩ := hw
  exact z_zret C0 Z h6 hw dX1_wouldClash_34
set_option maxRecDepth 100000 in
set_option maxHeartbeats 4000000 in
theorem k_X1_wouldClash (l : Launch) {G : zG} (hg : 129 ≤ gn G) {this : Nat} {a1 : Int32} {a2 : Int32} {a3 : Int32} {a4 : Int32} (hL : isL G this) {v : V3} {Q : Int32 → V3 → Prop} (hw : w_X1_wouldClash this a1 a2 a3 a4 v Q) : Mz l yX1_wouldClash cX1_wouldClash 6 (some .boolean) 1 28 G [.ref (gad G this), .int a1, .int a2, .int a3, .int a4] v (QiZ G Q) := by
  rw [w_X1_wouldClash] at hw
  refine z_ofW hg (by decide) (Nat.le_of_ble_eq_true rfl) ?_
  intro p e s m args below meth c ls C0 Z hl
  have hx := C0.1
  have hb := C0.2.1
  replace hl : lv_has ls 6 [(0, .ref (gad G this)), (1, .int a1), (2, .int a2), (3, .int a3), (4, .int a4)] := hl
  generalize s.heap = H at Z ⊢
  generalize ([] : List Loc) = locs at Z ⊢
  refine lv_aload_n hx hb dX1_wouldClash_0 rfl (lv_at hl 0 rfl) ?_
  refine z_get C0 Z in_X1 rfl 2 (by decide) rfl tm_1_49 (isL_lt0 hL) (ent_L hL) rfl dX1_wouldClash_1 ?_
  refine lv_iload_n hx hb dX1_wouldClash_4 rfl (lv_at hl 1 rfl) ?_
  obtain ⟨h1, hw⟩ := hw
  have h2 := vp_lt h1
  refine z_aald C0 Z (isL_lt hL 3 (by decide)) (ent_L3 hL) h1 dX1_wouldClash_5 ?_
  refine lv_astore (lv' := [(5, .ref (gad G (this + 14 + (ix a1)))), (0, .ref (gad G this)), (1, .int a1), (2, .int a2), (3, .int a3), (4, .int a4)]) hx hb dX1_wouldClash_6 hl (by decide) rfl (fun ls hl => ?_)
  refine lv_aload_n hx hb dX1_wouldClash_8 rfl (lv_at hl 1 rfl) ?_
  refine lv_aload hx hb dX1_wouldClash_9 (lv_at hl 0 rfl) ?_
  refine lv_iconst (v := 1) hx hb dX1_wouldClash_11 (by decide) ?_
  refine z_ialdk C0 Z (isL_B hL h2) (ent_B hL h2) in_1_10 nc_1 dX1_wouldClash_12 ?_
  refine lv_aload hx hb dX1_wouldClash_13 (lv_at hl 0 rfl) ?_
  refine lv_iconst (v := 2) hx hb dX1_wouldClash_15 (by decide) ?_
  refine z_ialdk C0 Z (isL_B hL h2) (ent_B hL h2) in_2_10 nc_2 dX1_wouldClash_16 ?_
  refine lv_iload_n hx hb dX1_wouldClash_17 rfl (lv_at hl 3 rfl) ?_
  refine lv_iload_n hx hb dX1_wouldClash_18 rfl (lv_at hl 4 rfl) ?_
  refine lv_iload_n hx hb dX1_wouldClash_19 rfl (lv_at hl 2 rfl) ?_
  refine lv_iload hx hb dX1_wouldClash_20 (lv_at hl 5 rfl) ?_
  refine z_callVi C0 Z hl.1 (As := [.int (v (this + 14 + (ix a1)) 1), .int (v (this + 14 + (ix a1)) 2), .int a2, .int a3, .int a1, .int a4]) (rest := []) (k_X1_clashing l (cx_g C0) hL hw) (gv_X1_clashing tm_2_116) rfl ds_X1_clashing ⟨Nat.le_of_ble_eq_true rfl, Nat.le_of_ble_eq_true rfl⟩ (ci := 1) rfl (isL_lt0 hL) (ent_L hL) rfl rfl (Nat.le_of_ble_eq_true rfl) ⟨Nat.zero_le _, Nat.zero_le _⟩ dX1_wouldClash_22 (fun r4 v3 H locs hw Z => ?_)
  refine lv_iconst (v := (-1)) hx hb dX1_wouldClash_25 (by decide) ?_
  refine lv_icmp_eq (tgt := 33) hx hb dX1_wouldClash_26 (by decide) (fun c5 => ?_) (fun c5 => ?_)
  · replace hw := hw.1 c5
    refine lv_iconst (v := 0) hx hb dX1_wouldClash_33 (by decide) ?_
    exact b_X1_wouldClash_34 l hL C0 _ _ _ _ _ hw Z (lv_sub hl [] rfl)
  · replace hw := hw.2 c5
    refine lv_iconst (v := 1) hx hb dX1_wouldClash_29 (by decide) ?_
    refine lv_goto (tgt := 34) hx hb dX1_wouldClash_30 (by decide) ?_
    exact b_X1_wouldClash_34 l hL C0 _ _ _ _ _ hw Z (lv_sub hl [] rfl)
-- X1_holderAt: room (1, 28)
theorem dX1_holderAt_0 : decode cX1_holderAt 0 = .ok (.aload_n 0, 1) := by decide +kernel
theorem dX1_holderAt_1 : decode cX1_holderAt 1 = .ok (.iload_n 1, 1) := by decide +kernel
theorem dX1_holderAt_2 : decode cX1_holderAt 2 = .ok (.iconst 1, 1) := by decide +kernel
theorem dX1_holderAt_3 : decode cX1_holderAt 3 = .ok (.iload_n 2, 1) := by decide +kernel
theorem dX1_holderAt_4 : decode cX1_holderAt 4 = .ok (.iload_n 2, 1) := by decide +kernel
theorem dX1_holderAt_5 : decode cX1_holderAt 5 = .ok (.iconst 1, 1) := by decide +kernel
theorem dX1_holderAt_6 : decode cX1_holderAt 6 = .ok (.iadd, 1) := by decide +kernel
theorem dX1_holderAt_7 : decode cX1_holderAt 7 = .ok (.iconst (-1), 1) := by decide +kernel
theorem dX1_holderAt_8 : decode cX1_holderAt 8 = .ok (.iconst (-1), 1) := by decide +kernel
theorem dX1_holderAt_9 : decode cX1_holderAt 9 = .ok (.invokevirtual 94, 3) := by decide +kernel
theorem dX1_holderAt_12 : decode cX1_holderAt 12 = .ok (.ireturn, 1) := by decide +kernel
def w_X1_holderAt (this : Nat) (a1 : Int32) (a2 : Int32) (v : V3) (Q : Int32 → V3 → Prop) : Prop := w_X1_clashing this a1 1 a2 (a2 + 1) (-1) (-1) v (fun r2 v1 => Q r2 v1)
set_option maxRecDepth 100000 in
set_option maxHeartbeats 4000000 in
theorem k_X1_holderAt (l : Launch) {G : zG} (hg : 129 ≤ gn G) {this : Nat} {a1 : Int32} {a2 : Int32} (hL : isL G this) {v : V3} {Q : Int32 → V3 → Prop} (hw : w_X1_holderAt this a1 a2 v Q) : Mz l yX1_holderAt cX1_holderAt 3 (some .int) 1 28 G [.ref (gad G this), .int a1, .int a2] v (QiZ G Q) := by
  rw [w_X1_holderAt] at hw
  refine z_ofW hg (by decide) (Nat.le_of_ble_eq_true rfl) ?_
  intro p e s m args below meth c ls C0 Z hl
  have hx := C0.1
  have hb := C0.2.1
  replace hl : lv_has ls 3 [(0, .ref (gad G this)), (1, .int a1), (2, .int a2)] := hl
  generalize s.heap = H at Z ⊢
  generalize ([] : List Loc) = locs at Z ⊢
  refine lv_aload_n hx hb dX1_holderAt_0 rfl (lv_at hl 0 rfl) ?_
  refine lv_iload_n hx hb dX1_holderAt_1 rfl (lv_at hl 1 rfl) ?_
  refine lv_iconst (v := 1) hx hb dX1_holderAt_2 (by decide) ?_
  refine lv_iload_n hx hb dX1_holderAt_3 rfl (lv_at hl 2 rfl) ?_
  refine lv_iload_n hx hb dX1_holderAt_4 rfl (lv_at hl 2 rfl) ?_
  refine lv_iconst (v := 1) hx hb dX1_holderAt_5 (by decide) ?_
  refine lv_iadd hx hb dX1_holderAt_6 ?_
  refine lv_iconst (v := (-1)) hx hb dX1_holderAt_7 (by decide) ?_
  refine lv_iconst (v := (-1)) hx hb dX1_holderAt_8 (by decide) ?_
  refine z_callVi C0 Z hl.1 (As := [.int a1, .int 1, .int a2, .int (a2 + 1), .int (-1), .int (-1)]) (rest := []) (k_X1_clashing l (cx_g C0) hL hw) (gv_X1_clashing tm_2_116) rfl ds_X1_clashing ⟨Nat.le_of_ble_eq_true rfl, Nat.le_of_ble_eq_true rfl⟩ (ci := 1) rfl (isL_lt0 hL) (ent_L hL) rfl rfl (Nat.le_of_ble_eq_true rfl) ⟨Nat.zero_le _, Nat.zero_le _⟩ dX1_holderAt_9 (fun r2 v1 H locs hw Z => ?_)
  exact z_iret C0 Z hw dX1_holderAt_12
end
section
-- X1_isHeldNow: room (2, 50)
theorem dX1_isHeldNow_0 : decode cX1_isHeldNow 0 = .ok (.aload_n 0, 1) := by decide +kernel
theorem dX1_isHeldNow_1 : decode cX1_isHeldNow 1 = .ok (.iload_n 1, 1) := by decide +kernel
theorem dX1_isHeldNow_2 : decode cX1_isHeldNow 2 = .ok (.aload_n 0, 1) := by decide +kernel
theorem dX1_isHeldNow_3 : decode cX1_isHeldNow 3 = .ok (.getfield 37, 3) := by decide +kernel
theorem dX1_isHeldNow_6 : decode cX1_isHeldNow 6 = .ok (.invokevirtual 98, 3) := by decide +kernel
theorem dX1_isHeldNow_9 : decode cX1_isHeldNow 9 = .ok (.istore_n 3, 1) := by decide +kernel
theorem dX1_isHeldNow_10 : decode cX1_isHeldNow 10 = .ok (.iload_n 3, 1) := by decide +kernel
theorem dX1_isHeldNow_11 : decode cX1_isHeldNow 11 = .ok (.iconst (-1), 1) := by decide +kernel
theorem dX1_isHeldNow_12 : decode cX1_isHeldNow 12 = .ok (.if_icmp .eq 32, 3) := by decide +kernel
theorem dX1_isHeldNow_15 : decode cX1_isHeldNow 15 = .ok (.aload_n 0, 1) := by decide +kernel
theorem dX1_isHeldNow_16 : decode cX1_isHeldNow 16 = .ok (.getfield 20, 3) := by decide +kernel
theorem dX1_isHeldNow_19 : decode cX1_isHeldNow 19 = .ok (.iload_n 3, 1) := by decide +kernel
theorem dX1_isHeldNow_20 : decode cX1_isHeldNow 20 = .ok (.aaload, 1) := by decide +kernel
theorem dX1_isHeldNow_21 : decode cX1_isHeldNow 21 = .ok (.bipush 7, 2) := by decide +kernel
theorem dX1_isHeldNow_23 : decode cX1_isHeldNow 23 = .ok (.iaload, 1) := by decide +kernel
theorem dX1_isHeldNow_24 : decode cX1_isHeldNow 24 = .ok (.iconst 2, 1) := by decide +kernel
theorem dX1_isHeldNow_25 : decode cX1_isHeldNow 25 = .ok (.if_icmp .ne 19, 3) := by decide +kernel
theorem dX1_isHeldNow_28 : decode cX1_isHeldNow 28 = .ok (.aload_n 0, 1) := by decide +kernel
theorem dX1_isHeldNow_29 : decode cX1_isHeldNow 29 = .ok (.getfield 20, 3) := by decide +kernel
theorem dX1_isHeldNow_32 : decode cX1_isHeldNow 32 = .ok (.iload_n 3, 1) := by decide +kernel
theorem dX1_isHeldNow_33 : decode cX1_isHeldNow 33 = .ok (.aaload, 1) := by decide +kernel
theorem dX1_isHeldNow_34 : decode cX1_isHeldNow 34 = .ok (.iconst 0, 1) := by decide +kernel
theorem dX1_isHeldNow_35 : decode cX1_isHeldNow 35 = .ok (.iaload, 1) := by decide +kernel
theorem dX1_isHeldNow_36 : decode cX1_isHeldNow 36 = .ok (.iload_n 2, 1) := by decide +kernel
theorem dX1_isHeldNow_37 : decode cX1_isHeldNow 37 = .ok (.if_icmp .ne 7, 3) := by decide +kernel
theorem dX1_isHeldNow_40 : decode cX1_isHeldNow 40 = .ok (.iconst 1, 1) := by decide +kernel
theorem dX1_isHeldNow_41 : decode cX1_isHeldNow 41 = .ok (.goto 4, 3) := by decide +kernel
theorem dX1_isHeldNow_44 : decode cX1_isHeldNow 44 = .ok (.iconst 0, 1) := by decide +kernel
theorem dX1_isHeldNow_45 : decode cX1_isHeldNow 45 = .ok (.ireturn, 1) := by decide +kernel
def w_X1_isHeldNow_45 (this : Nat) (Q : Int32 → V3 → Prop) (s0 : Int32) (v : V3) : Prop := (s0 = 0 ∨ s0 = 1) ∧ Q s0 v
def w_X1_isHeldNow_44 (this : Nat) (Q : Int32 → V3 → Prop) (v : V3) : Prop := w_X1_isHeldNow_45 this Q 0 v
def w_X1_isHeldNow (this : Nat) (a1 : Int32) (a2 : Int32) (v : V3) (Q : Int32 → V3 → Prop) : Prop := w_X1_holderAt this a1 (v this 6) v (fun r2 v1 => ((r2 = (-1) → w_X1_isHeldNow_44 this Q v1) ∧ (¬ r2 = (-1) → vp_in r2 40 ∧ ((¬ (v1 (this + 14 + (ix r2)) 7) = 2 → w_X1_isHeldNow_44 this Q v1) ∧ ((v1 (this + 14 + (ix r2)) 7) = 2 → vp_in r2 40 ∧ ((¬ (v1 (this + 14 + (ix r2)) 0) = a2 → w_X1_isHeldNow_44 this Q v1) ∧ ((v1 (this + 14 + (ix r2)) 0) = a2 → w_X1_isHeldNow_45 this Q 1 v1)))))))
set_option maxRecDepth 100000 in
set_option maxHeartbeats 4000000 in
theorem b_X1_isHeldNow_45 {p : Program} (l : Launch) {e : Env} {s : State} {m : MethodId} {args : Array Value} {below : List Frame} {meth : Method} {c : Code} {G : zG} {this : Nat} (hL : isL G this) (C0 : Cx G RX1 cX1_isHeldNow 4 (some .boolean) p s m args meth c) {Q : Int32 → V3 → Prop} : ∀ (s0 : Int32) (v : V3) (H : Heap) (locs : List Loc) (ls : Array Slot), w_X1_isHeldNow_45 this Q s0 v → Zs G s v H locs → lv_has ls 4 [] → W p l e { frames := 2, cells := 0, slots := 0, locals := 50 } s m args below meth c H locs 0 0 (MQ below (QiZ G Q) args s 0 0 (zA G)) (F0 m 45 ls [.int s0]) := by
  have hx := C0.1
  have hb := C0.2.1
  intro s0 v H locs ls hw Z hl
  rw [w_X1_isHeldNow_45] at hw
  obtain ⟨h4, hw⟩ := hw
  exact z_zret C0 Z h4 hw dX1_isHeldNow_45
set_option maxRecDepth 100000 in
set_option maxHeartbeats 4000000 in
theorem b_X1_isHeldNow_44 {p : Program} (l : Launch) {e : Env} {s : State} {m : MethodId} {args : Array Value} {below : List Frame} {meth : Method} {c : Code} {G : zG} {this : Nat} (hL : isL G this) (C0 : Cx G RX1 cX1_isHeldNow 4 (some .boolean) p s m args meth c) {Q : Int32 → V3 → Prop} : ∀ (v : V3) (H : Heap) (locs : List Loc) (ls : Array Slot), w_X1_isHeldNow_44 this Q v → Zs G s v H locs → lv_has ls 4 [] → W p l e { frames := 2, cells := 0, slots := 0, locals := 50 } s m args below meth c H locs 0 0 (MQ below (QiZ G Q) args s 0 0 (zA G)) (F0 m 44 ls []) := by
  have hx := C0.1
  have hb := C0.2.1
  intro v H locs ls hw Z hl
  rw [w_X1_isHeldNow_44] at hw
  refine lv_iconst (v := 0) hx hb dX1_isHeldNow_44 (by decide) ?_
  exact b_X1_isHeldNow_45 l hL C0 _ _ _ _ _ hw Z (lv_sub hl [] rfl)
set_option maxRecDepth 100000 in
set_option maxHeartbeats 4000000 in
theorem k_X1_isHeldNow (l : Launch) {G : zG} (hg : 129 ≤ gn G) {this : Nat} {a1 : Int32} {a2 : Int32} (hL : isL G this) {v : V3} {Q : Int32 → V3 → Prop} (hw : w_X1_isHeldNow this a1 a2 v Q) : Mz l yX1_isHeldNow cX1_isHeldNow 4 (some .boolean) 2 50 G [.ref (gad G this), .int a1, .int a2] v (QiZ G Q) := by
  rw [w_X1_isHeldNow] at hw
  refine z_ofW hg (by decide) (Nat.le_of_ble_eq_true rfl) ?_
  intro p e s m args below meth c ls C0 Z hl
  have hx := C0.1
  have hb := C0.2.1
  replace hl : lv_has ls 4 [(0, .ref (gad G this)), (1, .int a1), (2, .int a2)] := hl
  generalize s.heap = H at Z ⊢
  generalize ([] : List Loc) = locs at Z ⊢
  refine lv_aload_n hx hb dX1_isHeldNow_0 rfl (lv_at hl 0 rfl) ?_
  refine lv_iload_n hx hb dX1_isHeldNow_1 rfl (lv_at hl 1 rfl) ?_
  refine lv_aload_n hx hb dX1_isHeldNow_2 rfl (lv_at hl 0 rfl) ?_
  refine z_get C0 Z in_X1 rfl 6 (by decide) rfl tm_1_58 (isL_lt0 hL) (ent_L hL) rfl dX1_isHeldNow_3 ?_
  refine z_callVi C0 Z hl.1 (As := [.int a1, .int (v this 6)]) (rest := []) (k_X1_holderAt l (cx_g C0) hL hw) (gv_X1_holderAt tm_4_145) rfl ds_X1_holderAt ⟨Nat.le_of_ble_eq_true rfl, Nat.le_of_ble_eq_true rfl⟩ (ci := 1) rfl (isL_lt0 hL) (ent_L hL) rfl rfl (Nat.le_of_ble_eq_true rfl) ⟨Nat.zero_le _, Nat.zero_le _⟩ dX1_isHeldNow_6 (fun r2 v1 H locs hw Z => ?_)
  refine lv_istore_n (lv' := [(3, .int r2), (0, .ref (gad G this)), (1, .int a1), (2, .int a2)]) hx hb dX1_isHeldNow_9 rfl hl (by decide) rfl (fun ls hl => ?_)
  refine lv_iload_n hx hb dX1_isHeldNow_10 rfl (lv_at hl 0 rfl) ?_
  refine lv_iconst (v := (-1)) hx hb dX1_isHeldNow_11 (by decide) ?_
  refine lv_icmp_eq (tgt := 44) hx hb dX1_isHeldNow_12 (by decide) (fun c3 => ?_) (fun c3 => ?_)
  · replace hw := hw.1 c3
    exact b_X1_isHeldNow_44 l hL C0 _ _ _ _ hw Z (lv_sub hl [] rfl)
  · replace hw := hw.2 c3
    refine lv_aload_n hx hb dX1_isHeldNow_15 rfl (lv_at hl 1 rfl) ?_
    refine z_get C0 Z in_X1 rfl 2 (by decide) rfl tm_1_49 (isL_lt0 hL) (ent_L hL) rfl dX1_isHeldNow_16 ?_
    refine lv_iload_n hx hb dX1_isHeldNow_19 rfl (lv_at hl 0 rfl) ?_
    obtain ⟨h5, hw⟩ := hw
    have h6 := vp_lt h5
    refine z_aald C0 Z (isL_lt hL 3 (by decide)) (ent_L3 hL) h5 dX1_isHeldNow_20 ?_
    refine lv_bipush (v := 7) hx hb dX1_isHeldNow_21 (by decide) ?_
    refine z_ialdk C0 Z (isL_B hL h6) (ent_B hL h6) in_7_10 nc_7 dX1_isHeldNow_23 ?_
    refine lv_iconst (v := 2) hx hb dX1_isHeldNow_24 (by decide) ?_
    refine lv_icmp_ne (tgt := 44) hx hb dX1_isHeldNow_25 (by decide) (fun c7 => ?_) (fun c7 => ?_)
    · replace hw := hw.1 c7
      exact b_X1_isHeldNow_44 l hL C0 _ _ _ _ hw Z (lv_sub hl [] rfl)
    · replace hw := hw.2 c7
      refine lv_aload_n hx hb dX1_isHeldNow_28 rfl (lv_at hl 1 rfl) ?_
      refine z_get C0 Z in_X1 rfl 2 (by decide) rfl tm_1_49 (isL_lt0 hL) (ent_L hL) rfl dX1_isHeldNow_29 ?_
      refine lv_iload_n hx hb dX1_isHeldNow_32 rfl (lv_at hl 0 rfl) ?_
      obtain ⟨h8, hw⟩ := hw
      have h9 := vp_lt h8
      refine z_aald C0 Z (isL_lt hL 3 (by decide)) (ent_L3 hL) h8 dX1_isHeldNow_33 ?_
      refine lv_iconst (v := 0) hx hb dX1_isHeldNow_34 (by decide) ?_
      refine z_ialdk C0 Z (isL_B hL h9) (ent_B hL h9) in_0_10 nc_0 dX1_isHeldNow_35 ?_
      refine lv_iload_n hx hb dX1_isHeldNow_36 rfl (lv_at hl 3 rfl) ?_
      refine lv_icmp_ne (tgt := 44) hx hb dX1_isHeldNow_37 (by decide) (fun c10 => ?_) (fun c10 => ?_)
      · replace hw := hw.1 c10
        exact b_X1_isHeldNow_44 l hL C0 _ _ _ _ hw Z (lv_sub hl [] rfl)
      · replace hw := hw.2 c10
        refine lv_iconst (v := 1) hx hb dX1_isHeldNow_40 (by decide) ?_
        refine lv_goto (tgt := 45) hx hb dX1_isHeldNow_41 (by decide) ?_
        exact b_X1_isHeldNow_45 l hL C0 _ _ _ _ _ hw Z (lv_sub hl [] rfl)
-- X1_usedWithin: room (1, 24)
theorem dX1_usedWithin_0 : decode cX1_usedWithin 0 = .ok (.iconst 0, 1) := by decide +kernel
theorem dX1_usedWithin_1 : decode cX1_usedWithin 1 = .ok (.istore_n 2, 1) := by decide +kernel
theorem dX1_usedWithin_2 : decode cX1_usedWithin 2 = .ok (.iconst 0, 1) := by decide +kernel
theorem dX1_usedWithin_3 : decode cX1_usedWithin 3 = .ok (.istore_n 3, 1) := by decide +kernel
theorem dX1_usedWithin_4 : decode cX1_usedWithin 4 = .ok (.iload_n 3, 1) := by decide +kernel
theorem dX1_usedWithin_5 : decode cX1_usedWithin 5 = .ok (.aload_n 0, 1) := by decide +kernel
theorem dX1_usedWithin_6 : decode cX1_usedWithin 6 = .ok (.getfield 43, 3) := by decide +kernel
theorem dX1_usedWithin_9 : decode cX1_usedWithin 9 = .ok (.if_icmp .ge 83, 3) := by decide +kernel
theorem dX1_usedWithin_12 : decode cX1_usedWithin 12 = .ok (.aload_n 0, 1) := by decide +kernel
theorem dX1_usedWithin_13 : decode cX1_usedWithin 13 = .ok (.getfield 20, 3) := by decide +kernel
theorem dX1_usedWithin_16 : decode cX1_usedWithin 16 = .ok (.iload_n 3, 1) := by decide +kernel
theorem dX1_usedWithin_17 : decode cX1_usedWithin 17 = .ok (.aaload, 1) := by decide +kernel
theorem dX1_usedWithin_18 : decode cX1_usedWithin 18 = .ok (.astore 4, 2) := by decide +kernel
theorem dX1_usedWithin_20 : decode cX1_usedWithin 20 = .ok (.aload 4, 2) := by decide +kernel
theorem dX1_usedWithin_22 : decode cX1_usedWithin 22 = .ok (.bipush 7, 2) := by decide +kernel
theorem dX1_usedWithin_24 : decode cX1_usedWithin 24 = .ok (.iaload, 1) := by decide +kernel
theorem dX1_usedWithin_25 : decode cX1_usedWithin 25 = .ok (.iconst 1, 1) := by decide +kernel
theorem dX1_usedWithin_26 : decode cX1_usedWithin 26 = .ok (.if_icmp .eq 12, 3) := by decide +kernel
theorem dX1_usedWithin_29 : decode cX1_usedWithin 29 = .ok (.aload 4, 2) := by decide +kernel
theorem dX1_usedWithin_31 : decode cX1_usedWithin 31 = .ok (.bipush 7, 2) := by decide +kernel
theorem dX1_usedWithin_33 : decode cX1_usedWithin 33 = .ok (.iaload, 1) := by decide +kernel
theorem dX1_usedWithin_34 : decode cX1_usedWithin 34 = .ok (.iconst 2, 1) := by decide +kernel
theorem dX1_usedWithin_35 : decode cX1_usedWithin 35 = .ok (.if_icmp .ne 51, 3) := by decide +kernel
theorem dX1_usedWithin_38 : decode cX1_usedWithin 38 = .ok (.aload 4, 2) := by decide +kernel
theorem dX1_usedWithin_40 : decode cX1_usedWithin 40 = .ok (.bipush 9, 2) := by decide +kernel
theorem dX1_usedWithin_42 : decode cX1_usedWithin 42 = .ok (.iaload, 1) := by decide +kernel
theorem dX1_usedWithin_43 : decode cX1_usedWithin 43 = .ok (.aload_n 0, 1) := by decide +kernel
theorem dX1_usedWithin_44 : decode cX1_usedWithin 44 = .ok (.getfield 37, 3) := by decide +kernel
theorem dX1_usedWithin_47 : decode cX1_usedWithin 47 = .ok (.iload_n 1, 1) := by decide +kernel
theorem dX1_usedWithin_48 : decode cX1_usedWithin 48 = .ok (.iadd, 1) := by decide +kernel
theorem dX1_usedWithin_49 : decode cX1_usedWithin 49 = .ok (.invokestatic 101, 3) := by decide +kernel
theorem dX1_usedWithin_52 : decode cX1_usedWithin 52 = .ok (.aload 4, 2) := by decide +kernel
theorem dX1_usedWithin_54 : decode cX1_usedWithin 54 = .ok (.bipush 8, 2) := by decide +kernel
theorem dX1_usedWithin_56 : decode cX1_usedWithin 56 = .ok (.iaload, 1) := by decide +kernel
theorem dX1_usedWithin_57 : decode cX1_usedWithin 57 = .ok (.aload_n 0, 1) := by decide +kernel
theorem dX1_usedWithin_58 : decode cX1_usedWithin 58 = .ok (.getfield 37, 3) := by decide +kernel
theorem dX1_usedWithin_61 : decode cX1_usedWithin 61 = .ok (.invokestatic 104, 3) := by decide +kernel
theorem dX1_usedWithin_64 : decode cX1_usedWithin 64 = .ok (.isub, 1) := by decide +kernel
theorem dX1_usedWithin_65 : decode cX1_usedWithin 65 = .ok (.istore 5, 2) := by decide +kernel
theorem dX1_usedWithin_67 : decode cX1_usedWithin 67 = .ok (.iload_n 2, 1) := by decide +kernel
theorem dX1_usedWithin_68 : decode cX1_usedWithin 68 = .ok (.iload 5, 2) := by decide +kernel
theorem dX1_usedWithin_70 : decode cX1_usedWithin 70 = .ok (.ifCond .le 13, 3) := by decide +kernel
theorem dX1_usedWithin_73 : decode cX1_usedWithin 73 = .ok (.iload 5, 2) := by decide +kernel
theorem dX1_usedWithin_75 : decode cX1_usedWithin 75 = .ok (.aload 4, 2) := by decide +kernel
theorem dX1_usedWithin_77 : decode cX1_usedWithin 77 = .ok (.iconst 2, 1) := by decide +kernel
theorem dX1_usedWithin_78 : decode cX1_usedWithin 78 = .ok (.iaload, 1) := by decide +kernel
theorem dX1_usedWithin_79 : decode cX1_usedWithin 79 = .ok (.imul, 1) := by decide +kernel
theorem dX1_usedWithin_80 : decode cX1_usedWithin 80 = .ok (.goto 4, 3) := by decide +kernel
theorem dX1_usedWithin_83 : decode cX1_usedWithin 83 = .ok (.iconst 0, 1) := by decide +kernel
theorem dX1_usedWithin_84 : decode cX1_usedWithin 84 = .ok (.iadd, 1) := by decide +kernel
theorem dX1_usedWithin_85 : decode cX1_usedWithin 85 = .ok (.istore_n 2, 1) := by decide +kernel
theorem dX1_usedWithin_86 : decode cX1_usedWithin 86 = .ok (.iinc 3 1, 3) := by decide +kernel
theorem dX1_usedWithin_89 : decode cX1_usedWithin 89 = .ok (.goto (-85), 3) := by decide +kernel
theorem dX1_usedWithin_92 : decode cX1_usedWithin 92 = .ok (.iload_n 2, 1) := by decide +kernel
theorem dX1_usedWithin_93 : decode cX1_usedWithin 93 = .ok (.ireturn, 1) := by decide +kernel
def w_X1_usedWithin_86 (this : Nat) (Q : Int32 → V3 → Prop) (K4 : Int32 → Int32 → Int32 → V3 → Prop) (x1 : Int32) (x2 : Int32) (x3 : Int32) (v : V3) : Prop := K4 x1 x2 (x3 + 1) v
def w_X1_usedWithin_84 (this : Nat) (Q : Int32 → V3 → Prop) (K4 : Int32 → Int32 → Int32 → V3 → Prop) (x1 : Int32) (x3 : Int32) (s0 : Int32) (s1 : Int32) (v : V3) : Prop := w_X1_usedWithin_86 this Q K4 x1 (s0 + s1) x3 v
def w_X1_usedWithin_38 (this : Nat) (Q : Int32 → V3 → Prop) (K4 : Int32 → Int32 → Int32 → V3 → Prop) (x1 : Int32) (x2 : Int32) (x3 : Int32) (x4 : Nat) (v : V3) : Prop := ((((zmin (v (this + 14 + x4) 9) ((v this 6) + x1)) - (zmax (v (this + 14 + x4) 8) (v this 6))) ≤ 0 → w_X1_usedWithin_84 this Q K4 x1 x3 x2 0 v) ∧ (¬ ((zmin (v (this + 14 + x4) 9) ((v this 6) + x1)) - (zmax (v (this + 14 + x4) 8) (v this 6))) ≤ 0 → w_X1_usedWithin_84 this Q K4 x1 x3 x2 (((zmin (v (this + 14 + x4) 9) ((v this 6) + x1)) - (zmax (v (this + 14 + x4) 8) (v this 6))) * (v (this + 14 + x4) 2)) v))
def w_X1_usedWithin_4 (this : Nat) (Q : Int32 → V3 → Prop) : Nat → Int32 → Int32 → Int32 → V3 → Prop
  | 0, _, _, _, _ => False
  | n4 + 1, x1, x2, x3, v => (((v this 8) ≤ x3 → Q x2 v) ∧ (¬ (v this 8) ≤ x3 → vp_in x3 40 ∧ (((v (this + 14 + (ix x3)) 7) = 1 → w_X1_usedWithin_38 this Q (w_X1_usedWithin_4 this Q n4) x1 x2 x3 (ix x3) v) ∧ (¬ (v (this + 14 + (ix x3)) 7) = 1 → ((¬ (v (this + 14 + (ix x3)) 7) = 2 → w_X1_usedWithin_86 this Q (w_X1_usedWithin_4 this Q n4) x1 x2 x3 v) ∧ ((v (this + 14 + (ix x3)) 7) = 2 → w_X1_usedWithin_38 this Q (w_X1_usedWithin_4 this Q n4) x1 x2 x3 (ix x3) v))))))
def w_X1_usedWithin (this : Nat) (a1 : Int32) (v : V3) (Q : Int32 → V3 → Prop) : Prop := ∃ m4 : Nat, w_X1_usedWithin_4 this Q m4 a1 0 0 v
set_option maxRecDepth 100000 in
set_option maxHeartbeats 4000000 in
theorem b_X1_usedWithin_86 {p : Program} (l : Launch) {e : Env} {s : State} {m : MethodId} {args : Array Value} {below : List Frame} {meth : Method} {c : Code} {G : zG} {this : Nat} (hL : isL G this) (C0 : Cx G RX1 cX1_usedWithin 6 (some .int) p s m args meth c) {Q : Int32 → V3 → Prop} {K4 : Int32 → Int32 → Int32 → V3 → Prop} (hK4 : ∀ (x1 : Int32) (x2 : Int32) (x3 : Int32) (v : V3) (H : Heap) (locs : List Loc) (ls : Array Slot), K4 x1 x2 x3 v → Zs G s v H locs → lv_has ls 6 [(0, .ref (gad G this)), (1, .int x1), (2, .int x2), (3, .int x3)] → W p l e { frames := 1, cells := 0, slots := 0, locals := 24 } s m args below meth c H locs 0 0 (MQ below (QiZ G Q) args s 0 0 (zA G)) (F0 m 4 ls [])) : ∀ (x1 : Int32) (x2 : Int32) (x3 : Int32) (v : V3) (H : Heap) (locs : List Loc) (ls : Array Slot), w_X1_usedWithin_86 this Q K4 x1 x2 x3 v → Zs G s v H locs → lv_has ls 6 [(0, .ref (gad G this)), (1, .int x1), (2, .int x2), (3, .int x3)] → W p l e { frames := 1, cells := 0, slots := 0, locals := 24 } s m args below meth c H locs 0 0 (MQ below (QiZ G Q) args s 0 0 (zA G)) (F0 m 86 ls []) := by
  have hx := C0.1
  have hb := C0.2.1
  intro x1 x2 x3 v H locs ls hw Z hl
  rw [w_X1_usedWithin_86] at hw
  refine lv_iinc (v := x3 + 1) (lv' := [(3, .int (x3 + 1)), (0, .ref (gad G this)), (1, .int x1), (2, .int x2)]) hx hb dX1_usedWithin_86 hl (k := 3) rfl rfl (by decide) rfl (fun ls hl => ?_)
  refine lv_goto (tgt := 4) hx hb dX1_usedWithin_89 (by decide) ?_
  exact hK4 _ _ _ _ _ _ _ hw Z (lv_sub hl [1, 2, 3, 0] rfl)
set_option maxRecDepth 100000 in
set_option maxHeartbeats 4000000 in
theorem b_X1_usedWithin_84 {p : Program} (l : Launch) {e : Env} {s : State} {m : MethodId} {args : Array Value} {below : List Frame} {meth : Method} {c : Code} {G : zG} {this : Nat} (hL : isL G this) (C0 : Cx G RX1 cX1_usedWithin 6 (some .int) p s m args meth c) {Q : Int32 → V3 → Prop} {K4 : Int32 → Int32 → Int32 → V3 → Prop} (hK4 : ∀ (x1 : Int32) (x2 : Int32) (x3 : Int32) (v : V3) (H : Heap) (locs : List Loc) (ls : Array Slot), K4 x1 x2 x3 v → Zs G s v H locs → lv_has ls 6 [(0, .ref (gad G this)), (1, .int x1), (2, .int x2), (3, .int x3)] → W p l e { frames := 1, cells := 0, slots := 0, locals := 24 } s m args below meth c H locs 0 0 (MQ below (QiZ G Q) args s 0 0 (zA G)) (F0 m 4 ls [])) : ∀ (x1 : Int32) (x3 : Int32) (s0 : Int32) (s1 : Int32) (v : V3) (H : Heap) (locs : List Loc) (ls : Array Slot), w_X1_usedWithin_84 this Q K4 x1 x3 s0 s1 v → Zs G s v H locs → lv_has ls 6 [(0, .ref (gad G this)), (1, .int x1), (3, .int x3)] → W p l e { frames := 1, cells := 0, slots := 0, locals := 24 } s m args below meth c H locs 0 0 (MQ below (QiZ G Q) args s 0 0 (zA G)) (F0 m 84 ls [.int s1, .int s0]) := by
  have hx := C0.1
  have hb := C0.2.1
  intro x1 x3 s0 s1 v H locs ls hw Z hl
  rw [w_X1_usedWithin_84] at hw
  refine lv_iadd hx hb dX1_usedWithin_84 ?_
  refine lv_istore_n (lv' := [(2, .int (s0 + s1)), (0, .ref (gad G this)), (1, .int x1), (3, .int x3)]) hx hb dX1_usedWithin_85 rfl hl (by decide) rfl (fun ls hl => ?_)
  exact b_X1_usedWithin_86 l hL C0 hK4 _ _ _ _ _ _ _ hw Z (lv_sub hl [1, 2, 0, 3] rfl)
set_option maxRecDepth 100000 in
set_option maxHeartbeats 4000000 in
theorem b_X1_usedWithin_38 {p : Program} (l : Launch) {e : Env} {s : State} {m : MethodId} {args : Array Value} {below : List Frame} {meth : Method} {c : Code} {G : zG} {this : Nat} (hL : isL G this) (C0 : Cx G RX1 cX1_usedWithin 6 (some .int) p s m args meth c) {Q : Int32 → V3 → Prop} {K4 : Int32 → Int32 → Int32 → V3 → Prop} (hK4 : ∀ (x1 : Int32) (x2 : Int32) (x3 : Int32) (v : V3) (H : Heap) (locs : List Loc) (ls : Array Slot), K4 x1 x2 x3 v → Zs G s v H locs → lv_has ls 6 [(0, .ref (gad G this)), (1, .int x1), (2, .int x2), (3, .int x3)] → W p l e { frames := 1, cells := 0, slots := 0, locals := 24 } s m args below meth c H locs 0 0 (MQ below (QiZ G Q) args s 0 0 (zA G)) (F0 m 4 ls [])) : ∀ (x1 : Int32) (x2 : Int32) (x3 : Int32) (x4 : Nat) (v : V3) (H : Heap) (locs : List Loc) (ls : Array Slot), x4 < 40 → w_X1_usedWithin_38 this Q K4 x1 x2 x3 x4 v → Zs G s v H locs → lv_has ls 6 [(0, .ref (gad G this)), (1, .int x1), (2, .int x2), (3, .int x3), (4, .ref (gad G (this + 14 + x4)))] → W p l e { frames := 1, cells := 0, slots := 0, locals := 24 } s m args below meth c H locs 0 0 (MQ below (QiZ G Q) args s 0 0 (zA G)) (F0 m 38 ls []) := by
  have hx := C0.1
  have hb := C0.2.1
  intro x1 x2 x3 x4 v H locs ls hx4 hw Z hl
  rw [w_X1_usedWithin_38] at hw
  refine lv_aload hx hb dX1_usedWithin_38 (lv_at hl 4 rfl) ?_
  refine lv_bipush (v := 9) hx hb dX1_usedWithin_40 (by decide) ?_
  refine z_ialdk C0 Z (isL_B hL hx4) (ent_B hL hx4) in_9_10 nc_9 dX1_usedWithin_42 ?_
  refine lv_aload_n hx hb dX1_usedWithin_43 rfl (lv_at hl 0 rfl) ?_
  refine z_get C0 Z in_X1 rfl 6 (by decide) rfl tm_1_58 (isL_lt0 hL) (ent_L hL) rfl dX1_usedWithin_44 ?_
  refine lv_iload_n hx hb dX1_usedWithin_47 rfl (lv_at hl 1 rfl) ?_
  refine lv_iadd hx hb dX1_usedWithin_48 ?_
  refine z_min C0 hl.1 tm_3_138 (Nat.le_of_ble_eq_true rfl) (Nat.le_of_ble_eq_true rfl) (Nat.zero_le _) (Nat.zero_le _) dX1_usedWithin_49 ?_
  refine lv_aload hx hb dX1_usedWithin_52 (lv_at hl 4 rfl) ?_
  refine lv_bipush (v := 8) hx hb dX1_usedWithin_54 (by decide) ?_
  refine z_ialdk C0 Z (isL_B hL hx4) (ent_B hL hx4) in_8_10 nc_8 dX1_usedWithin_56 ?_
  refine lv_aload_n hx hb dX1_usedWithin_57 rfl (lv_at hl 0 rfl) ?_
  refine z_get C0 Z in_X1 rfl 6 (by decide) rfl tm_1_58 (isL_lt0 hL) (ent_L hL) rfl dX1_usedWithin_58 ?_
  refine z_max C0 hl.1 tm_2_113 (Nat.le_of_ble_eq_true rfl) (Nat.le_of_ble_eq_true rfl) (Nat.zero_le _) (Nat.zero_le _) dX1_usedWithin_61 ?_
  refine lv_isub hx hb dX1_usedWithin_64 ?_
  refine lv_istore (lv' := [(5, .int ((zmin (v (this + 14 + x4) 9) ((v this 6) + x1)) - (zmax (v (this + 14 + x4) 8) (v this 6)))), (0, .ref (gad G this)), (1, .int x1), (2, .int x2), (3, .int x3), (4, .ref (gad G (this + 14 + x4)))]) hx hb dX1_usedWithin_65 hl (by decide) rfl (fun ls hl => ?_)
  refine lv_iload_n hx hb dX1_usedWithin_67 rfl (lv_at hl 3 rfl) ?_
  refine lv_iload hx hb dX1_usedWithin_68 (lv_at hl 0 rfl) ?_
  refine lv_if_le (tgt := 83) hx hb dX1_usedWithin_70 (by decide) (fun c5 => ?_) (fun c5 => ?_)
  · replace hw := hw.1 c5
    refine lv_iconst (v := 0) hx hb dX1_usedWithin_83 (by decide) ?_
    exact b_X1_usedWithin_84 l hL C0 hK4 _ _ _ _ _ _ _ _ hw Z (lv_sub hl [1, 2, 4] rfl)
  · replace hw := hw.2 c5
    refine lv_iload hx hb dX1_usedWithin_73 (lv_at hl 0 rfl) ?_
    refine lv_aload hx hb dX1_usedWithin_75 (lv_at hl 5 rfl) ?_
    refine lv_iconst (v := 2) hx hb dX1_usedWithin_77 (by decide) ?_
    refine z_ialdk C0 Z (isL_B hL hx4) (ent_B hL hx4) in_2_10 nc_2 dX1_usedWithin_78 ?_
    refine lv_imul hx hb dX1_usedWithin_79 ?_
    refine lv_goto (tgt := 84) hx hb dX1_usedWithin_80 (by decide) ?_
    exact b_X1_usedWithin_84 l hL C0 hK4 _ _ _ _ _ _ _ _ hw Z (lv_sub hl [1, 2, 4] rfl)
set_option maxRecDepth 100000 in
set_option maxHeartbeats 4000000 in
theorem b_X1_usedWithin_4 {p : Program} (l : Launch) {e : Env} {s : State} {m : MethodId} {args : Array Value} {below : List Frame} {meth : Method} {c : Code} {G : zG} {this : Nat} (hL : isL G this) (C0 : Cx G RX1 cX1_usedWithin 6 (some .int) p s m args meth c) {Q : Int32 → V3 → Prop} : ∀ (n : Nat) (x1 : Int32) (x2 : Int32) (x3 : Int32) (v : V3) (H : Heap) (locs : List Loc) (ls : Array Slot), w_X1_usedWithin_4 this Q n x1 x2 x3 v → Zs G s v H locs → lv_has ls 6 [(0, .ref (gad G this)), (1, .int x1), (2, .int x2), (3, .int x3)] → W p l e { frames := 1, cells := 0, slots := 0, locals := 24 } s m args below meth c H locs 0 0 (MQ below (QiZ G Q) args s 0 0 (zA G)) (F0 m 4 ls []) := by
  have hx := C0.1
  have hb := C0.2.1
  intro n
  induction n with
  | zero =>
    intro x1 x2 x3 v H locs ls hw Z hl
    exact hw.elim
  | succ n hK4 =>
    intro x1 x2 x3 v H locs ls hw Z hl
    rw [w_X1_usedWithin_4] at hw
    refine lv_iload_n hx hb dX1_usedWithin_4 rfl (lv_at hl 3 rfl) ?_
    refine lv_aload_n hx hb dX1_usedWithin_5 rfl (lv_at hl 0 rfl) ?_
    refine z_get C0 Z in_X1 rfl 8 (by decide) rfl tm_1_64 (isL_lt0 hL) (ent_L hL) rfl dX1_usedWithin_6 ?_
    refine lv_icmp_ge (tgt := 92) hx hb dX1_usedWithin_9 (by decide) (fun c1 => ?_) (fun c1 => ?_)
    · replace hw := hw.1 c1
      refine lv_iload_n hx hb dX1_usedWithin_92 rfl (lv_at hl 2 rfl) ?_
      exact z_iret C0 Z hw dX1_usedWithin_93
    · replace hw := hw.2 c1
      refine lv_aload_n hx hb dX1_usedWithin_12 rfl (lv_at hl 0 rfl) ?_
      refine z_get C0 Z in_X1 rfl 2 (by decide) rfl tm_1_49 (isL_lt0 hL) (ent_L hL) rfl dX1_usedWithin_13 ?_
      refine lv_iload_n hx hb dX1_usedWithin_16 rfl (lv_at hl 3 rfl) ?_
      obtain ⟨h2, hw⟩ := hw
      have h3 := vp_lt h2
      refine z_aald C0 Z (isL_lt hL 3 (by decide)) (ent_L3 hL) h2 dX1_usedWithin_17 ?_
      refine lv_astore (lv' := [(4, .ref (gad G (this + 14 + (ix x3)))), (0, .ref (gad G this)), (1, .int x1), (2, .int x2), (3, .int x3)]) hx hb dX1_usedWithin_18 hl (by decide) rfl (fun ls hl => ?_)
      refine lv_aload hx hb dX1_usedWithin_20 (lv_at hl 0 rfl) ?_
      refine lv_bipush (v := 7) hx hb dX1_usedWithin_22 (by decide) ?_
      refine z_ialdk C0 Z (isL_B hL h3) (ent_B hL h3) in_7_10 nc_7 dX1_usedWithin_24 ?_
      refine lv_iconst (v := 1) hx hb dX1_usedWithin_25 (by decide) ?_
      refine lv_icmp_eq (tgt := 38) hx hb dX1_usedWithin_26 (by decide) (fun c4 => ?_) (fun c4 => ?_)
      · replace hw := hw.1 c4
        exact b_X1_usedWithin_38 l hL C0 hK4 _ _ _ _ _ _ _ _ h3 hw Z (lv_sub hl [1, 2, 3, 4, 0] rfl)
      · replace hw := hw.2 c4
        refine lv_aload hx hb dX1_usedWithin_29 (lv_at hl 0 rfl) ?_
        refine lv_bipush (v := 7) hx hb dX1_usedWithin_31 (by decide) ?_
        refine z_ialdk C0 Z (isL_B hL h3) (ent_B hL h3) in_7_10 nc_7 dX1_usedWithin_33 ?_
        refine lv_iconst (v := 2) hx hb dX1_usedWithin_34 (by decide) ?_
        refine lv_icmp_ne (tgt := 86) hx hb dX1_usedWithin_35 (by decide) (fun c6 => ?_) (fun c6 => ?_)
        · replace hw := hw.1 c6
          exact b_X1_usedWithin_86 l hL C0 hK4 _ _ _ _ _ _ _ hw Z (lv_sub hl [1, 2, 3, 4] rfl)
        · replace hw := hw.2 c6
          exact b_X1_usedWithin_38 l hL C0 hK4 _ _ _ _ _ _ _ _ h3 hw Z (lv_sub hl [1, 2, 3, 4, 0] rfl)
set_option maxRecDepth 100000 in
set_option maxHeartbeats 4000000 in
theorem k_X1_usedWithin (l : Launch) {G : zG} (hg : 129 ≤ gn G) {this : Nat} {a1 : Int32} (hL : isL G this) {v : V3} {Q : Int32 → V3 → Prop} (hw : w_X1_usedWithin this a1 v Q) : Mz l yX1_usedWithin cX1_usedWithin 6 (some .int) 1 24 G [.ref (gad G this), .int a1] v (QiZ G Q) := by
  rw [w_X1_usedWithin] at hw
  refine z_ofW hg (by decide) (Nat.le_of_ble_eq_true rfl) ?_
  intro p e s m args below meth c ls C0 Z hl
  have hx := C0.1
  have hb := C0.2.1
  replace hl : lv_has ls 6 [(0, .ref (gad G this)), (1, .int a1)] := hl
  generalize s.heap = H at Z ⊢
  generalize ([] : List Loc) = locs at Z ⊢
  refine lv_iconst (v := 0) hx hb dX1_usedWithin_0 (by decide) ?_
  refine lv_istore_n (lv' := [(2, .int 0), (0, .ref (gad G this)), (1, .int a1)]) hx hb dX1_usedWithin_1 rfl hl (by decide) rfl (fun ls hl => ?_)
  refine lv_iconst (v := 0) hx hb dX1_usedWithin_2 (by decide) ?_
  refine lv_istore_n (lv' := [(3, .int 0), (2, .int 0), (0, .ref (gad G this)), (1, .int a1)]) hx hb dX1_usedWithin_3 rfl hl (by decide) rfl (fun ls hl => ?_)
  obtain ⟨m4, hw⟩ := hw
  exact b_X1_usedWithin_4 l hL C0 m4 _ _ _ _ _ _ _ hw Z (lv_sub hl [2, 3, 1, 0] rfl)
-- X1_earliestFit: room (1, 28)
theorem dX1_earliestFit_0 : decode cX1_earliestFit 0 = .ok (.iload 4, 2) := by decide +kernel
theorem dX1_earliestFit_2 : decode cX1_earliestFit 2 = .ok (.aload_n 0, 1) := by decide +kernel
theorem dX1_earliestFit_3 : decode cX1_earliestFit 3 = .ok (.getfield 37, 3) := by decide +kernel
theorem dX1_earliestFit_6 : decode cX1_earliestFit 6 = .ok (.invokestatic 104, 3) := by decide +kernel
theorem dX1_earliestFit_9 : decode cX1_earliestFit 9 = .ok (.istore 6, 2) := by decide +kernel
theorem dX1_earliestFit_11 : decode cX1_earliestFit 11 = .ok (.iconst 0, 1) := by decide +kernel
theorem dX1_earliestFit_12 : decode cX1_earliestFit 12 = .ok (.istore 7, 2) := by decide +kernel
theorem dX1_earliestFit_14 : decode cX1_earliestFit 14 = .ok (.iload 7, 2) := by decide +kernel
theorem dX1_earliestFit_16 : decode cX1_earliestFit 16 = .ok (.aload_n 0, 1) := by decide +kernel
theorem dX1_earliestFit_17 : decode cX1_earliestFit 17 = .ok (.getfield 43, 3) := by decide +kernel
theorem dX1_earliestFit_20 : decode cX1_earliestFit 20 = .ok (.if_icmp .gt 53, 3) := by decide +kernel
theorem dX1_earliestFit_23 : decode cX1_earliestFit 23 = .ok (.iload 6, 2) := by decide +kernel
theorem dX1_earliestFit_25 : decode cX1_earliestFit 25 = .ok (.iload 5, 2) := by decide +kernel
theorem dX1_earliestFit_27 : decode cX1_earliestFit 27 = .ok (.if_icmp .gt 46, 3) := by decide +kernel
theorem dX1_earliestFit_30 : decode cX1_earliestFit 30 = .ok (.aload_n 0, 1) := by decide +kernel
theorem dX1_earliestFit_31 : decode cX1_earliestFit 31 = .ok (.iload_n 1, 1) := by decide +kernel
theorem dX1_earliestFit_32 : decode cX1_earliestFit 32 = .ok (.iload_n 2, 1) := by decide +kernel
theorem dX1_earliestFit_33 : decode cX1_earliestFit 33 = .ok (.iload 6, 2) := by decide +kernel
theorem dX1_earliestFit_35 : decode cX1_earliestFit 35 = .ok (.iload 6, 2) := by decide +kernel
theorem dX1_earliestFit_37 : decode cX1_earliestFit 37 = .ok (.iload_n 3, 1) := by decide +kernel
theorem dX1_earliestFit_38 : decode cX1_earliestFit 38 = .ok (.iadd, 1) := by decide +kernel
theorem dX1_earliestFit_39 : decode cX1_earliestFit 39 = .ok (.iconst (-1), 1) := by decide +kernel
theorem dX1_earliestFit_40 : decode cX1_earliestFit 40 = .ok (.iconst (-1), 1) := by decide +kernel
theorem dX1_earliestFit_41 : decode cX1_earliestFit 41 = .ok (.invokevirtual 94, 3) := by decide +kernel
theorem dX1_earliestFit_44 : decode cX1_earliestFit 44 = .ok (.istore 8, 2) := by decide +kernel
theorem dX1_earliestFit_46 : decode cX1_earliestFit 46 = .ok (.iload 8, 2) := by decide +kernel
theorem dX1_earliestFit_48 : decode cX1_earliestFit 48 = .ok (.iconst (-1), 1) := by decide +kernel
theorem dX1_earliestFit_49 : decode cX1_earliestFit 49 = .ok (.if_icmp .ne 6, 3) := by decide +kernel
theorem dX1_earliestFit_52 : decode cX1_earliestFit 52 = .ok (.iload 6, 2) := by decide +kernel
theorem dX1_earliestFit_54 : decode cX1_earliestFit 54 = .ok (.ireturn, 1) := by decide +kernel
theorem dX1_earliestFit_55 : decode cX1_earliestFit 55 = .ok (.aload_n 0, 1) := by decide +kernel
theorem dX1_earliestFit_56 : decode cX1_earliestFit 56 = .ok (.getfield 20, 3) := by decide +kernel
theorem dX1_earliestFit_59 : decode cX1_earliestFit 59 = .ok (.iload 8, 2) := by decide +kernel
theorem dX1_earliestFit_61 : decode cX1_earliestFit 61 = .ok (.aaload, 1) := by decide +kernel
theorem dX1_earliestFit_62 : decode cX1_earliestFit 62 = .ok (.bipush 9, 2) := by decide +kernel
theorem dX1_earliestFit_64 : decode cX1_earliestFit 64 = .ok (.iaload, 1) := by decide +kernel
theorem dX1_earliestFit_65 : decode cX1_earliestFit 65 = .ok (.istore 6, 2) := by decide +kernel
theorem dX1_earliestFit_67 : decode cX1_earliestFit 67 = .ok (.iinc 7 1, 3) := by decide +kernel
theorem dX1_earliestFit_70 : decode cX1_earliestFit 70 = .ok (.goto (-56), 3) := by decide +kernel
theorem dX1_earliestFit_73 : decode cX1_earliestFit 73 = .ok (.iconst (-1), 1) := by decide +kernel
theorem dX1_earliestFit_74 : decode cX1_earliestFit 74 = .ok (.ireturn, 1) := by decide +kernel
def w_X1_earliestFit_73 (this : Nat) (Q : Int32 → V3 → Prop) (v : V3) : Prop := Q (-1) v
def w_X1_earliestFit_14 (this : Nat) (Q : Int32 → V3 → Prop) : Nat → Int32 → Int32 → Int32 → Int32 → Int32 → Int32 → V3 → Prop
  | 0, _, _, _, _, _, _, _ => False
  | n14 + 1, x1, x2, x3, x5, x6, x7, v => (((v this 8) < x7 → w_X1_earliestFit_73 this Q v) ∧ (¬ (v this 8) < x7 → ((x5 < x6 → w_X1_earliestFit_73 this Q v) ∧ (¬ x5 < x6 → w_X1_clashing this x1 x2 x6 (x6 + x3) (-1) (-1) v (fun r4 v3 => ((¬ r4 = (-1) → vp_in r4 40 ∧ (w_X1_earliestFit_14 this Q n14) x1 x2 x3 x5 (v3 (this + 14 + (ix r4)) 9) (x7 + 1) v3) ∧ (r4 = (-1) → Q x6 v3)))))))
def w_X1_earliestFit (this : Nat) (a1 : Int32) (a2 : Int32) (a3 : Int32) (a4 : Int32) (a5 : Int32) (v : V3) (Q : Int32 → V3 → Prop) : Prop := ∃ m14 : Nat, w_X1_earliestFit_14 this Q m14 a1 a2 a3 a5 (zmax a4 (v this 6)) 0 v
set_option maxRecDepth 100000 in
set_option maxHeartbeats 4000000 in
theorem b_X1_earliestFit_73 {p : Program} (l : Launch) {e : Env} {s : State} {m : MethodId} {args : Array Value} {below : List Frame} {meth : Method} {c : Code} {G : zG} {this : Nat} (hL : isL G this) (C0 : Cx G RX1 cX1_earliestFit 9 (some .int) p s m args meth c) {Q : Int32 → V3 → Prop} : ∀ (v : V3) (H : Heap) (locs : List Loc) (ls : Array Slot), w_X1_earliestFit_73 this Q v → Zs G s v H locs → lv_has ls 9 [] → W p l e { frames := 1, cells := 0, slots := 0, locals := 28 } s m args below meth c H locs 0 0 (MQ below (QiZ G Q) args s 0 0 (zA G)) (F0 m 73 ls []) := by
  have hx := C0.1
  have hb := C0.2.1
  intro v H locs ls hw Z hl
  rw [w_X1_earliestFit_73] at hw
  refine lv_iconst (v := (-1)) hx hb dX1_earliestFit_73 (by decide) ?_
  exact z_iret C0 Z hw dX1_earliestFit_74
set_option maxRecDepth 100000 in
set_option maxHeartbeats 4000000 in
theorem b_X1_earliestFit_14 {p : Program} (l : Launch) {e : Env} {s : State} {m : MethodId} {args : Array Value} {below : List Frame} {meth : Method} {c : Code} {G : zG} {this : Nat} (hL : isL G this) (C0 : Cx G RX1 cX1_earliestFit 9 (some .int) p s m args meth c) {Q : Int32 → V3 → Prop} : ∀ (n : Nat) (x1 : Int32) (x2 : Int32) (x3 : Int32) (x5 : Int32) (x6 : Int32) (x7 : Int32) (v : V3) (H : Heap) (locs : List Loc) (ls : Array Slot), w_X1_earliestFit_14 this Q n x1 x2 x3 x5 x6 x7 v → Zs G s v H locs → lv_has ls 9 [(0, .ref (gad G this)), (1, .int x1), (2, .int x2), (3, .int x3), (5, .int x5), (6, .int x6), (7, .int x7)] → W p l e { frames := 1, cells := 0, slots := 0, locals := 28 } s m args below meth c H locs 0 0 (MQ below (QiZ G Q) args s 0 0 (zA G)) (F0 m 14 ls []) := by
  have hx := C0.1
  have hb := C0.2.1
  intro n
  induction n with
  | zero =>
    intro x1 x2 x3 x5 x6 x7 v H locs ls hw Z hl
    exact hw.elim
  | succ n hK14 =>
    intro x1 x2 x3 x5 x6 x7 v H locs ls hw Z hl
    rw [w_X1_earliestFit_14] at hw
    refine lv_iload hx hb dX1_earliestFit_14 (lv_at hl 6 rfl) ?_
    refine lv_aload_n hx hb dX1_earliestFit_16 rfl (lv_at hl 0 rfl) ?_
    refine z_get C0 Z in_X1 rfl 8 (by decide) rfl tm_1_64 (isL_lt0 hL) (ent_L hL) rfl dX1_earliestFit_17 ?_
    refine lv_icmp_gt (tgt := 73) hx hb dX1_earliestFit_20 (by decide) (fun c1 => ?_) (fun c1 => ?_)
    · replace hw := hw.1 c1
      exact b_X1_earliestFit_73 l hL C0 _ _ _ _ hw Z (lv_sub hl [] rfl)
    · replace hw := hw.2 c1
      refine lv_iload hx hb dX1_earliestFit_23 (lv_at hl 5 rfl) ?_
      refine lv_iload hx hb dX1_earliestFit_25 (lv_at hl 4 rfl) ?_
      refine lv_icmp_gt (tgt := 73) hx hb dX1_earliestFit_27 (by decide) (fun c2 => ?_) (fun c2 => ?_)
      · replace hw := hw.1 c2
        exact b_X1_earliestFit_73 l hL C0 _ _ _ _ hw Z (lv_sub hl [] rfl)
      · replace hw := hw.2 c2
        refine lv_aload_n hx hb dX1_earliestFit_30 rfl (lv_at hl 0 rfl) ?_
        refine lv_iload_n hx hb dX1_earliestFit_31 rfl (lv_at hl 1 rfl) ?_
        refine lv_iload_n hx hb dX1_earliestFit_32 rfl (lv_at hl 2 rfl) ?_
        refine lv_iload hx hb dX1_earliestFit_33 (lv_at hl 5 rfl) ?_
        refine lv_iload hx hb dX1_earliestFit_35 (lv_at hl 5 rfl) ?_
        refine lv_iload_n hx hb dX1_earliestFit_37 rfl (lv_at hl 3 rfl) ?_
        refine lv_iadd hx hb dX1_earliestFit_38 ?_
        refine lv_iconst (v := (-1)) hx hb dX1_earliestFit_39 (by decide) ?_
        refine lv_iconst (v := (-1)) hx hb dX1_earliestFit_40 (by decide) ?_
        refine z_callVi C0 Z hl.1 (As := [.int x1, .int x2, .int x6, .int (x6 + x3), .int (-1), .int (-1)]) (rest := []) (k_X1_clashing l (cx_g C0) hL hw) (gv_X1_clashing tm_2_116) rfl ds_X1_clashing ⟨Nat.le_of_ble_eq_true rfl, Nat.le_of_ble_eq_true rfl⟩ (ci := 1) rfl (isL_lt0 hL) (ent_L hL) rfl rfl (Nat.le_of_ble_eq_true rfl) ⟨Nat.zero_le _, Nat.zero_le _⟩ dX1_earliestFit_41 (fun r4 v3 H locs hw Z => ?_)
        refine lv_istore (lv' := [(8, .int r4), (0, .ref (gad G this)), (1, .int x1), (2, .int x2), (3, .int x3), (5, .int x5), (6, .int x6), (7, .int x7)]) hx hb dX1_earliestFit_44 hl (by decide) rfl (fun ls hl => ?_)
        refine lv_iload hx hb dX1_earliestFit_46 (lv_at hl 0 rfl) ?_
        refine lv_iconst (v := (-1)) hx hb dX1_earliestFit_48 (by decide) ?_
        refine lv_icmp_ne (tgt := 55) hx hb dX1_earliestFit_49 (by decide) (fun c5 => ?_) (fun c5 => ?_)
        · replace hw := hw.1 c5
          refine lv_aload_n hx hb dX1_earliestFit_55 rfl (lv_at hl 1 rfl) ?_
          refine z_get C0 Z in_X1 rfl 2 (by decide) rfl tm_1_49 (isL_lt0 hL) (ent_L hL) rfl dX1_earliestFit_56 ?_
          refine lv_iload hx hb dX1_earliestFit_59 (lv_at hl 0 rfl) ?_
          obtain ⟨h6, hw⟩ := hw
          have h7 := vp_lt h6
          refine z_aald C0 Z (isL_lt hL 3 (by decide)) (ent_L3 hL) h6 dX1_earliestFit_61 ?_
          refine lv_bipush (v := 9) hx hb dX1_earliestFit_62 (by decide) ?_
          refine z_ialdk C0 Z (isL_B hL h7) (ent_B hL h7) in_9_10 nc_9 dX1_earliestFit_64 ?_
          refine lv_istore (lv' := [(6, .int (v3 (this + 14 + (ix r4)) 9)), (8, .int r4), (0, .ref (gad G this)), (1, .int x1), (2, .int x2), (3, .int x3), (5, .int x5), (7, .int x7)]) hx hb dX1_earliestFit_65 hl (by decide) rfl (fun ls hl => ?_)
          refine lv_iinc (v := x7 + 1) (lv' := [(7, .int (x7 + 1)), (6, .int (v3 (this + 14 + (ix r4)) 9)), (8, .int r4), (0, .ref (gad G this)), (1, .int x1), (2, .int x2), (3, .int x3), (5, .int x5)]) hx hb dX1_earliestFit_67 hl (k := 7) rfl rfl (by decide) rfl (fun ls hl => ?_)
          refine lv_goto (tgt := 14) hx hb dX1_earliestFit_70 (by decide) ?_
          exact hK14 _ _ _ _ _ _ _ _ _ _ hw Z (lv_sub hl [3, 4, 5, 6, 7, 1, 0] rfl)
        · replace hw := hw.2 c5
          refine lv_iload hx hb dX1_earliestFit_52 (lv_at hl 6 rfl) ?_
          exact z_iret C0 Z hw dX1_earliestFit_54
set_option maxRecDepth 100000 in
set_option maxHeartbeats 4000000 in
theorem k_X1_earliestFit (l : Launch) {G : zG} (hg : 129 ≤ gn G) {this : Nat} {a1 : Int32} {a2 : Int32} {a3 : Int32} {a4 : Int32} {a5 : Int32} (hL : isL G this) {v : V3} {Q : Int32 → V3 → Prop} (hw : w_X1_earliestFit this a1 a2 a3 a4 a5 v Q) : Mz l yX1_earliestFit cX1_earliestFit 9 (some .int) 1 28 G [.ref (gad G this), .int a1, .int a2, .int a3, .int a4, .int a5] v (QiZ G Q) := by
  rw [w_X1_earliestFit] at hw
  refine z_ofW hg (by decide) (Nat.le_of_ble_eq_true rfl) ?_
  intro p e s m args below meth c ls C0 Z hl
  have hx := C0.1
  have hb := C0.2.1
  replace hl : lv_has ls 9 [(0, .ref (gad G this)), (1, .int a1), (2, .int a2), (3, .int a3), (4, .int a4), (5, .int a5)] := hl
  generalize s.heap = H at Z ⊢
  generalize ([] : List Loc) = locs at Z ⊢
  refine lv_iload hx hb dX1_earliestFit_0 (lv_at hl 4 rfl) ?_
  refine lv_aload_n hx hb dX1_earliestFit_2 rfl (lv_at hl 0 rfl) ?_
  refine z_get C0 Z in_X1 rfl 6 (by decide) rfl tm_1_58 (isL_lt0 hL) (ent_L hL) rfl dX1_earliestFit_3 ?_
  refine z_max C0 hl.1 tm_2_113 (Nat.le_of_ble_eq_true rfl) (Nat.le_of_ble_eq_true rfl) (Nat.zero_le _) (Nat.zero_le _) dX1_earliestFit_6 ?_
  refine lv_istore (lv' := [(6, .int (zmax a4 (v this 6))), (0, .ref (gad G this)), (1, .int a1), (2, .int a2), (3, .int a3), (4, .int a4), (5, .int a5)]) hx hb dX1_earliestFit_9 hl (by decide) rfl (fun ls hl => ?_)
  refine lv_iconst (v := 0) hx hb dX1_earliestFit_11 (by decide) ?_
  refine lv_istore (lv' := [(7, .int 0), (6, .int (zmax a4 (v this 6))), (0, .ref (gad G this)), (1, .int a1), (2, .int a2), (3, .int a3), (4, .int a4), (5, .int a5)]) hx hb dX1_earliestFit_12 hl (by decide) rfl (fun ls hl => ?_)
  obtain ⟨m14, hw⟩ := hw
  exact b_X1_earliestFit_14 l hL C0 m14 _ _ _ _ _ _ _ _ _ _ hw Z (lv_sub hl [2, 3, 4, 5, 7, 1, 0] rfl)
-- X1_latestFit: room (1, 28)
theorem dX1_latestFit_0 : decode cX1_latestFit 0 = .ok (.iload 4, 2) := by decide +kernel
theorem dX1_latestFit_2 : decode cX1_latestFit 2 = .ok (.aload_n 0, 1) := by decide +kernel
theorem dX1_latestFit_3 : decode cX1_latestFit 3 = .ok (.getfield 37, 3) := by decide +kernel
theorem dX1_latestFit_6 : decode cX1_latestFit 6 = .ok (.invokestatic 104, 3) := by decide +kernel
theorem dX1_latestFit_9 : decode cX1_latestFit 9 = .ok (.istore 6, 2) := by decide +kernel
theorem dX1_latestFit_11 : decode cX1_latestFit 11 = .ok (.iload 5, 2) := by decide +kernel
theorem dX1_latestFit_13 : decode cX1_latestFit 13 = .ok (.istore 7, 2) := by decide +kernel
theorem dX1_latestFit_15 : decode cX1_latestFit 15 = .ok (.iconst 0, 1) := by decide +kernel
theorem dX1_latestFit_16 : decode cX1_latestFit 16 = .ok (.istore 8, 2) := by decide +kernel
theorem dX1_latestFit_18 : decode cX1_latestFit 18 = .ok (.iload 8, 2) := by decide +kernel
theorem dX1_latestFit_20 : decode cX1_latestFit 20 = .ok (.aload_n 0, 1) := by decide +kernel
theorem dX1_latestFit_21 : decode cX1_latestFit 21 = .ok (.getfield 43, 3) := by decide +kernel
theorem dX1_latestFit_24 : decode cX1_latestFit 24 = .ok (.if_icmp .gt 55, 3) := by decide +kernel
theorem dX1_latestFit_27 : decode cX1_latestFit 27 = .ok (.iload 7, 2) := by decide +kernel
theorem dX1_latestFit_29 : decode cX1_latestFit 29 = .ok (.iload 6, 2) := by decide +kernel
theorem dX1_latestFit_31 : decode cX1_latestFit 31 = .ok (.if_icmp .lt 48, 3) := by decide +kernel
theorem dX1_latestFit_34 : decode cX1_latestFit 34 = .ok (.aload_n 0, 1) := by decide +kernel
theorem dX1_latestFit_35 : decode cX1_latestFit 35 = .ok (.iload_n 1, 1) := by decide +kernel
theorem dX1_latestFit_36 : decode cX1_latestFit 36 = .ok (.iload_n 2, 1) := by decide +kernel
theorem dX1_latestFit_37 : decode cX1_latestFit 37 = .ok (.iload 7, 2) := by decide +kernel
theorem dX1_latestFit_39 : decode cX1_latestFit 39 = .ok (.iload 7, 2) := by decide +kernel
theorem dX1_latestFit_41 : decode cX1_latestFit 41 = .ok (.iload_n 3, 1) := by decide +kernel
theorem dX1_latestFit_42 : decode cX1_latestFit 42 = .ok (.iadd, 1) := by decide +kernel
theorem dX1_latestFit_43 : decode cX1_latestFit 43 = .ok (.iconst (-1), 1) := by decide +kernel
theorem dX1_latestFit_44 : decode cX1_latestFit 44 = .ok (.iconst (-1), 1) := by decide +kernel
theorem dX1_latestFit_45 : decode cX1_latestFit 45 = .ok (.invokevirtual 94, 3) := by decide +kernel
theorem dX1_latestFit_48 : decode cX1_latestFit 48 = .ok (.istore 9, 2) := by decide +kernel
theorem dX1_latestFit_50 : decode cX1_latestFit 50 = .ok (.iload 9, 2) := by decide +kernel
theorem dX1_latestFit_52 : decode cX1_latestFit 52 = .ok (.iconst (-1), 1) := by decide +kernel
theorem dX1_latestFit_53 : decode cX1_latestFit 53 = .ok (.if_icmp .ne 6, 3) := by decide +kernel
theorem dX1_latestFit_56 : decode cX1_latestFit 56 = .ok (.iload 7, 2) := by decide +kernel
theorem dX1_latestFit_58 : decode cX1_latestFit 58 = .ok (.ireturn, 1) := by decide +kernel
theorem dX1_latestFit_59 : decode cX1_latestFit 59 = .ok (.aload_n 0, 1) := by decide +kernel
theorem dX1_latestFit_60 : decode cX1_latestFit 60 = .ok (.getfield 20, 3) := by decide +kernel
theorem dX1_latestFit_63 : decode cX1_latestFit 63 = .ok (.iload 9, 2) := by decide +kernel
theorem dX1_latestFit_65 : decode cX1_latestFit 65 = .ok (.aaload, 1) := by decide +kernel
theorem dX1_latestFit_66 : decode cX1_latestFit 66 = .ok (.bipush 8, 2) := by decide +kernel
theorem dX1_latestFit_68 : decode cX1_latestFit 68 = .ok (.iaload, 1) := by decide +kernel
theorem dX1_latestFit_69 : decode cX1_latestFit 69 = .ok (.iload_n 3, 1) := by decide +kernel
theorem dX1_latestFit_70 : decode cX1_latestFit 70 = .ok (.isub, 1) := by decide +kernel
theorem dX1_latestFit_71 : decode cX1_latestFit 71 = .ok (.istore 7, 2) := by decide +kernel
theorem dX1_latestFit_73 : decode cX1_latestFit 73 = .ok (.iinc 8 1, 3) := by decide +kernel
theorem dX1_latestFit_76 : decode cX1_latestFit 76 = .ok (.goto (-58), 3) := by decide +kernel
theorem dX1_latestFit_79 : decode cX1_latestFit 79 = .ok (.iconst (-1), 1) := by decide +kernel
theorem dX1_latestFit_80 : decode cX1_latestFit 80 = .ok (.ireturn, 1) := by decide +kernel
def w_X1_latestFit_79 (this : Nat) (Q : Int32 → V3 → Prop) (v : V3) : Prop := Q (-1) v
def w_X1_latestFit_18 (this : Nat) (Q : Int32 → V3 → Prop) : Nat → Int32 → Int32 → Int32 → Int32 → Int32 → Int32 → V3 → Prop
  | 0, _, _, _, _, _, _, _ => False
  | n18 + 1, x1, x2, x3, x6, x7, x8, v => (((v this 8) < x8 → w_X1_latestFit_79 this Q v) ∧ (¬ (v this 8) < x8 → ((x7 < x6 → w_X1_latestFit_79 this Q v) ∧ (¬ x7 < x6 → w_X1_clashing this x1 x2 x7 (x7 + x3) (-1) (-1) v (fun r4 v3 => ((¬ r4 = (-1) → vp_in r4 40 ∧ (w_X1_latestFit_18 this Q n18) x1 x2 x3 x6 ((v3 (this + 14 + (ix r4)) 8) - x3) (x8 + 1) v3) ∧ (r4 = (-1) → Q x7 v3)))))))
def w_X1_latestFit (this : Nat) (a1 : Int32) (a2 : Int32) (a3 : Int32) (a4 : Int32) (a5 : Int32) (v : V3) (Q : Int32 → V3 → Prop) : Prop := ∃ m18 : Nat, w_X1_latestFit_18 this Q m18 a1 a2 a3 (zmax a4 (v this 6)) a5 0 v
set_option maxRecDepth 100000 in
set_option maxHeartbeats 4000000 in
theorem b_X1_latestFit_79 {p : Program} (l : Launch) {e : Env} {s : State} {m : MethodId} {args : Array Value} {below : List Frame} {meth : Method} {c : Code} {G : zG} {this : Nat} (hL : isL G this) (C0 : Cx G RX1 cX1_latestFit 10 (some .int) p s m args meth c) {Q : Int32 → V3 → Prop} : ∀ (v : V3) (H : Heap) (locs : List Loc) (ls : Array Slot), w_X1_latestFit_79 this Q v → Zs G s v H locs → lv_has ls 10 [] → W p l e { frames := 1, cells := 0, slots := 0, locals := 28 } s m args below meth c H locs 0 0 (MQ below (QiZ G Q) args s 0 0 (zA G)) (F0 m 79 ls []) := by
  have hx := C0.1
  have hb := C0.2.1
  intro v H locs ls hw Z hl
  rw [w_X1_latestFit_79] at hw
  refine lv_iconst (v := (-1)) hx hb dX1_latestFit_79 (by decide) ?_
  exact z_iret C0 Z hw dX1_latestFit_80
set_option maxRecDepth 100000 in
set_option maxHeartbeats 4000000 in
theorem b_X1_latestFit_18 {p : Program} (l : Launch) {e : Env} {s : State} {m : MethodId} {args : Array Value} {below : List Frame} {meth : Method} {c : Code} {G : zG} {this : Nat} (hL : isL G this) (C0 : Cx G RX1 cX1_latestFit 10 (some .int) p s m args meth c) {Q : Int32 → V3 → Prop} : ∀ (n : Nat) (x1 : Int32) (x2 : Int32) (x3 : Int32) (x6 : Int32) (x7 : Int32) (x8 : Int32) (v : V3) (H : Heap) (locs : List Loc) (ls : Array Slot), w_X1_latestFit_18 this Q n x1 x2 x3 x6 x7 x8 v → Zs G s v H locs → lv_has ls 10 [(0, .ref (gad G this)), (1, .int x1), (2, .int x2), (3, .int x3), (6, .int x6), (7, .int x7), (8, .int x8)] → W p l e { frames := 1, cells := 0, slots := 0, locals := 28 } s m args below meth c H locs 0 0 (MQ below (QiZ G Q) args s 0 0 (zA G)) (F0 m 18 ls []) := by
  have hx := C0.1
  have hb := C0.2.1
  intro n
  induction n with
  | zero =>
    intro x1 x2 x3 x6 x7 x8 v H locs ls hw Z hl
    exact hw.elim
  | succ n hK18 =>
    intro x1 x2 x3 x6 x7 x8 v H locs ls hw Z hl
    rw [w_X1_latestFit_18] at hw
    refine lv_iload hx hb dX1_latestFit_18 (lv_at hl 6 rfl) ?_
    refine lv_aload_n hx hb dX1_latestFit_20 rfl (lv_at hl 0 rfl) ?_
    refine z_get C0 Z in_X1 rfl 8 (by decide) rfl tm_1_64 (isL_lt0 hL) (ent_L hL) rfl dX1_latestFit_21 ?_
    refine lv_icmp_gt (tgt := 79) hx hb dX1_latestFit_24 (by decide) (fun c1 => ?_) (fun c1 => ?_)
    · replace hw := hw.1 c1
      exact b_X1_latestFit_79 l hL C0 _ _ _ _ hw Z (lv_sub hl [] rfl)
    · replace hw := hw.2 c1
      refine lv_iload hx hb dX1_latestFit_27 (lv_at hl 5 rfl) ?_
      refine lv_iload hx hb dX1_latestFit_29 (lv_at hl 4 rfl) ?_
      refine lv_icmp_lt (tgt := 79) hx hb dX1_latestFit_31 (by decide) (fun c2 => ?_) (fun c2 => ?_)
      · replace hw := hw.1 c2
        exact b_X1_latestFit_79 l hL C0 _ _ _ _ hw Z (lv_sub hl [] rfl)
      · replace hw := hw.2 c2
        refine lv_aload_n hx hb dX1_latestFit_34 rfl (lv_at hl 0 rfl) ?_
        refine lv_iload_n hx hb dX1_latestFit_35 rfl (lv_at hl 1 rfl) ?_
        refine lv_iload_n hx hb dX1_latestFit_36 rfl (lv_at hl 2 rfl) ?_
        refine lv_iload hx hb dX1_latestFit_37 (lv_at hl 5 rfl) ?_
        refine lv_iload hx hb dX1_latestFit_39 (lv_at hl 5 rfl) ?_
        refine lv_iload_n hx hb dX1_latestFit_41 rfl (lv_at hl 3 rfl) ?_
        refine lv_iadd hx hb dX1_latestFit_42 ?_
        refine lv_iconst (v := (-1)) hx hb dX1_latestFit_43 (by decide) ?_
        refine lv_iconst (v := (-1)) hx hb dX1_latestFit_44 (by decide) ?_
        refine z_callVi C0 Z hl.1 (As := [.int x1, .int x2, .int x7, .int (x7 + x3), .int (-1), .int (-1)]) (rest := []) (k_X1_clashing l (cx_g C0) hL hw) (gv_X1_clashing tm_2_116) rfl ds_X1_clashing ⟨Nat.le_of_ble_eq_true rfl, Nat.le_of_ble_eq_true rfl⟩ (ci := 1) rfl (isL_lt0 hL) (ent_L hL) rfl rfl (Nat.le_of_ble_eq_true rfl) ⟨Nat.zero_le _, Nat.zero_le _⟩ dX1_latestFit_45 (fun r4 v3 H locs hw Z => ?_)
        refine lv_istore (lv' := [(9, .int r4), (0, .ref (gad G this)), (1, .int x1), (2, .int x2), (3, .int x3), (6, .int x6), (7, .int x7), (8, .int x8)]) hx hb dX1_latestFit_48 hl (by decide) rfl (fun ls hl => ?_)
        refine lv_iload hx hb dX1_latestFit_50 (lv_at hl 0 rfl) ?_
        refine lv_iconst (v := (-1)) hx hb dX1_latestFit_52 (by decide) ?_
        refine lv_icmp_ne (tgt := 59) hx hb dX1_latestFit_53 (by decide) (fun c5 => ?_) (fun c5 => ?_)
        · replace hw := hw.1 c5
          refine lv_aload_n hx hb dX1_latestFit_59 rfl (lv_at hl 1 rfl) ?_
          refine z_get C0 Z in_X1 rfl 2 (by decide) rfl tm_1_49 (isL_lt0 hL) (ent_L hL) rfl dX1_latestFit_60 ?_
          refine lv_iload hx hb dX1_latestFit_63 (lv_at hl 0 rfl) ?_
          obtain ⟨h6, hw⟩ := hw
          have h7 := vp_lt h6
          refine z_aald C0 Z (isL_lt hL 3 (by decide)) (ent_L3 hL) h6 dX1_latestFit_65 ?_
          refine lv_bipush (v := 8) hx hb dX1_latestFit_66 (by decide) ?_
          refine z_ialdk C0 Z (isL_B hL h7) (ent_B hL h7) in_8_10 nc_8 dX1_latestFit_68 ?_
          refine lv_iload_n hx hb dX1_latestFit_69 rfl (lv_at hl 4 rfl) ?_
          refine lv_isub hx hb dX1_latestFit_70 ?_
          refine lv_istore (lv' := [(7, .int ((v3 (this + 14 + (ix r4)) 8) - x3)), (9, .int r4), (0, .ref (gad G this)), (1, .int x1), (2, .int x2), (3, .int x3), (6, .int x6), (8, .int x8)]) hx hb dX1_latestFit_71 hl (by decide) rfl (fun ls hl => ?_)
          refine lv_iinc (v := x8 + 1) (lv' := [(8, .int (x8 + 1)), (7, .int ((v3 (this + 14 + (ix r4)) 8) - x3)), (9, .int r4), (0, .ref (gad G this)), (1, .int x1), (2, .int x2), (3, .int x3), (6, .int x6)]) hx hb dX1_latestFit_73 hl (k := 7) rfl rfl (by decide) rfl (fun ls hl => ?_)
          refine lv_goto (tgt := 18) hx hb dX1_latestFit_76 (by decide) ?_
          exact hK18 _ _ _ _ _ _ _ _ _ _ hw Z (lv_sub hl [3, 4, 5, 6, 7, 1, 0] rfl)
        · replace hw := hw.2 c5
          refine lv_iload hx hb dX1_latestFit_56 (lv_at hl 6 rfl) ?_
          exact z_iret C0 Z hw dX1_latestFit_58
set_option maxRecDepth 100000 in
set_option maxHeartbeats 4000000 in
theorem k_X1_latestFit (l : Launch) {G : zG} (hg : 129 ≤ gn G) {this : Nat} {a1 : Int32} {a2 : Int32} {a3 : Int32} {a4 : Int32} {a5 : Int32} (hL : isL G this) {v : V3} {Q : Int32 → V3 → Prop} (hw : w_X1_latestFit this a1 a2 a3 a4 a5 v Q) : Mz l yX1_latestFit cX1_latestFit 10 (some .int) 1 28 G [.ref (gad G this), .int a1, .int a2, .int a3, .int a4, .int a5] v (QiZ G Q) := by
  rw [w_X1_latestFit] at hw
  refine z_ofW hg (by decide) (Nat.le_of_ble_eq_true rfl) ?_
  intro p e s m args below meth c ls C0 Z hl
  have hx := C0.1
  have hb := C0.2.1
  replace hl : lv_has ls 10 [(0, .ref (gad G this)), (1, .int a1), (2, .int a2), (3, .int a3), (4, .int a4), (5, .int a5)] := hl
  generalize s.heap = H at Z ⊢
  generalize ([] : List Loc) = locs at Z ⊢
  refine lv_iload hx hb dX1_latestFit_0 (lv_at hl 4 rfl) ?_
  refine lv_aload_n hx hb dX1_latestFit_2 rfl (lv_at hl 0 rfl) ?_
  refine z_get C0 Z in_X1 rfl 6 (by decide) rfl tm_1_58 (isL_lt0 hL) (ent_L hL) rfl dX1_latestFit_3 ?_
  refine z_max C0 hl.1 tm_2_113 (Nat.le_of_ble_eq_true rfl) (Nat.le_of_ble_eq_true rfl) (Nat.zero_le _) (Nat.zero_le _) dX1_latestFit_6 ?_
  refine lv_istore (lv' := [(6, .int (zmax a4 (v this 6))), (0, .ref (gad G this)), (1, .int a1), (2, .int a2), (3, .int a3), (4, .int a4), (5, .int a5)]) hx hb dX1_latestFit_9 hl (by decide) rfl (fun ls hl => ?_)
  refine lv_iload hx hb dX1_latestFit_11 (lv_at hl 6 rfl) ?_
  refine lv_istore (lv' := [(7, .int a5), (6, .int (zmax a4 (v this 6))), (0, .ref (gad G this)), (1, .int a1), (2, .int a2), (3, .int a3), (4, .int a4), (5, .int a5)]) hx hb dX1_latestFit_13 hl (by decide) rfl (fun ls hl => ?_)
  refine lv_iconst (v := 0) hx hb dX1_latestFit_15 (by decide) ?_
  refine lv_istore (lv' := [(8, .int 0), (7, .int a5), (6, .int (zmax a4 (v this 6))), (0, .ref (gad G this)), (1, .int a1), (2, .int a2), (3, .int a3), (4, .int a4), (5, .int a5)]) hx hb dX1_latestFit_16 hl (by decide) rfl (fun ls hl => ?_)
  obtain ⟨m18, hw⟩ := hw
  exact b_X1_latestFit_18 l hL C0 m18 _ _ _ _ _ _ _ _ _ _ hw Z (lv_sub hl [3, 4, 5, 6, 2, 1, 0] rfl)
-- X1_bestTime: room (2, 57)
theorem dX1_bestTime_0 : decode cX1_bestTime 0 = .ok (.aload_n 0, 1) := by decide +kernel
theorem dX1_bestTime_1 : decode cX1_bestTime 1 = .ok (.getfield 20, 3) := by decide +kernel
theorem dX1_bestTime_4 : decode cX1_bestTime 4 = .ok (.iload_n 1, 1) := by decide +kernel
theorem dX1_bestTime_5 : decode cX1_bestTime 5 = .ok (.aaload, 1) := by decide +kernel
theorem dX1_bestTime_6 : decode cX1_bestTime 6 = .ok (.astore_n 2, 1) := by decide +kernel
theorem dX1_bestTime_7 : decode cX1_bestTime 7 = .ok (.aload_n 2, 1) := by decide +kernel
theorem dX1_bestTime_8 : decode cX1_bestTime 8 = .ok (.iconst 4, 1) := by decide +kernel
theorem dX1_bestTime_9 : decode cX1_bestTime 9 = .ok (.iaload, 1) := by decide +kernel
theorem dX1_bestTime_10 : decode cX1_bestTime 10 = .ok (.istore_n 3, 1) := by decide +kernel
theorem dX1_bestTime_11 : decode cX1_bestTime 11 = .ok (.aload_n 0, 1) := by decide +kernel
theorem dX1_bestTime_12 : decode cX1_bestTime 12 = .ok (.aload_n 2, 1) := by decide +kernel
theorem dX1_bestTime_13 : decode cX1_bestTime 13 = .ok (.iconst 1, 1) := by decide +kernel
theorem dX1_bestTime_14 : decode cX1_bestTime 14 = .ok (.iaload, 1) := by decide +kernel
theorem dX1_bestTime_15 : decode cX1_bestTime 15 = .ok (.aload_n 2, 1) := by decide +kernel
theorem dX1_bestTime_16 : decode cX1_bestTime 16 = .ok (.iconst 2, 1) := by decide +kernel
theorem dX1_bestTime_17 : decode cX1_bestTime 17 = .ok (.iaload, 1) := by decide +kernel
theorem dX1_bestTime_18 : decode cX1_bestTime 18 = .ok (.aload_n 2, 1) := by decide +kernel
theorem dX1_bestTime_19 : decode cX1_bestTime 19 = .ok (.iconst 3, 1) := by decide +kernel
theorem dX1_bestTime_20 : decode cX1_bestTime 20 = .ok (.iaload, 1) := by decide +kernel
theorem dX1_bestTime_21 : decode cX1_bestTime 21 = .ok (.iload_n 3, 1) := by decide +kernel
theorem dX1_bestTime_22 : decode cX1_bestTime 22 = .ok (.iload_n 3, 1) := by decide +kernel
theorem dX1_bestTime_23 : decode cX1_bestTime 23 = .ok (.aload_n 2, 1) := by decide +kernel
theorem dX1_bestTime_24 : decode cX1_bestTime 24 = .ok (.iconst 5, 1) := by decide +kernel
theorem dX1_bestTime_25 : decode cX1_bestTime 25 = .ok (.iaload, 1) := by decide +kernel
theorem dX1_bestTime_26 : decode cX1_bestTime 26 = .ok (.iadd, 1) := by decide +kernel
theorem dX1_bestTime_27 : decode cX1_bestTime 27 = .ok (.invokevirtual 107, 3) := by decide +kernel
theorem dX1_bestTime_30 : decode cX1_bestTime 30 = .ok (.istore 4, 2) := by decide +kernel
theorem dX1_bestTime_32 : decode cX1_bestTime 32 = .ok (.aload_n 0, 1) := by decide +kernel
theorem dX1_bestTime_33 : decode cX1_bestTime 33 = .ok (.aload_n 2, 1) := by decide +kernel
theorem dX1_bestTime_34 : decode cX1_bestTime 34 = .ok (.iconst 1, 1) := by decide +kernel
theorem dX1_bestTime_35 : decode cX1_bestTime 35 = .ok (.iaload, 1) := by decide +kernel
theorem dX1_bestTime_36 : decode cX1_bestTime 36 = .ok (.aload_n 2, 1) := by decide +kernel
theorem dX1_bestTime_37 : decode cX1_bestTime 37 = .ok (.iconst 2, 1) := by decide +kernel
theorem dX1_bestTime_38 : decode cX1_bestTime 38 = .ok (.iaload, 1) := by decide +kernel
theorem dX1_bestTime_39 : decode cX1_bestTime 39 = .ok (.aload_n 2, 1) := by decide +kernel
theorem dX1_bestTime_40 : decode cX1_bestTime 40 = .ok (.iconst 3, 1) := by decide +kernel
theorem dX1_bestTime_41 : decode cX1_bestTime 41 = .ok (.iaload, 1) := by decide +kernel
theorem dX1_bestTime_42 : decode cX1_bestTime 42 = .ok (.iload_n 3, 1) := by decide +kernel
theorem dX1_bestTime_43 : decode cX1_bestTime 43 = .ok (.aload_n 2, 1) := by decide +kernel
theorem dX1_bestTime_44 : decode cX1_bestTime 44 = .ok (.iconst 5, 1) := by decide +kernel
theorem dX1_bestTime_45 : decode cX1_bestTime 45 = .ok (.iaload, 1) := by decide +kernel
theorem dX1_bestTime_46 : decode cX1_bestTime 46 = .ok (.isub, 1) := by decide +kernel
theorem dX1_bestTime_47 : decode cX1_bestTime 47 = .ok (.iload_n 3, 1) := by decide +kernel
theorem dX1_bestTime_48 : decode cX1_bestTime 48 = .ok (.invokevirtual 111, 3) := by decide +kernel
theorem dX1_bestTime_51 : decode cX1_bestTime 51 = .ok (.istore 5, 2) := by decide +kernel
theorem dX1_bestTime_53 : decode cX1_bestTime 53 = .ok (.iload 5, 2) := by decide +kernel
theorem dX1_bestTime_55 : decode cX1_bestTime 55 = .ok (.iconst (-1), 1) := by decide +kernel
theorem dX1_bestTime_56 : decode cX1_bestTime 56 = .ok (.if_icmp .ne 6, 3) := by decide +kernel
theorem dX1_bestTime_59 : decode cX1_bestTime 59 = .ok (.iload 4, 2) := by decide +kernel
theorem dX1_bestTime_61 : decode cX1_bestTime 61 = .ok (.ireturn, 1) := by decide +kernel
theorem dX1_bestTime_62 : decode cX1_bestTime 62 = .ok (.iload 4, 2) := by decide +kernel
theorem dX1_bestTime_64 : decode cX1_bestTime 64 = .ok (.iconst (-1), 1) := by decide +kernel
theorem dX1_bestTime_65 : decode cX1_bestTime 65 = .ok (.if_icmp .eq 19, 3) := by decide +kernel
theorem dX1_bestTime_68 : decode cX1_bestTime 68 = .ok (.iload 4, 2) := by decide +kernel
theorem dX1_bestTime_70 : decode cX1_bestTime 70 = .ok (.iload_n 3, 1) := by decide +kernel
theorem dX1_bestTime_71 : decode cX1_bestTime 71 = .ok (.isub, 1) := by decide +kernel
theorem dX1_bestTime_72 : decode cX1_bestTime 72 = .ok (.iload_n 3, 1) := by decide +kernel
theorem dX1_bestTime_73 : decode cX1_bestTime 73 = .ok (.iload 5, 2) := by decide +kernel
theorem dX1_bestTime_75 : decode cX1_bestTime 75 = .ok (.isub, 1) := by decide +kernel
theorem dX1_bestTime_76 : decode cX1_bestTime 76 = .ok (.if_icmp .ge 8, 3) := by decide +kernel
theorem dX1_bestTime_79 : decode cX1_bestTime 79 = .ok (.iload 4, 2) := by decide +kernel
theorem dX1_bestTime_81 : decode cX1_bestTime 81 = .ok (.goto 5, 3) := by decide +kernel
theorem dX1_bestTime_84 : decode cX1_bestTime 84 = .ok (.iload 5, 2) := by decide +kernel
theorem dX1_bestTime_86 : decode cX1_bestTime 86 = .ok (.ireturn, 1) := by decide +kernel
def w_X1_bestTime_86 (this : Nat) (Q : Int32 → V3 → Prop) (s0 : Int32) (v : V3) : Prop := Q s0 v
def w_X1_bestTime_84 (this : Nat) (Q : Int32 → V3 → Prop) (x5 : Int32) (v : V3) : Prop := w_X1_bestTime_86 this Q x5 v
def w_X1_bestTime (this : Nat) (a1 : Int32) (v : V3) (Q : Int32 → V3 → Prop) : Prop := vp_in a1 40 ∧ w_X1_earliestFit this (v (this + 14 + (ix a1)) 1) (v (this + 14 + (ix a1)) 2) (v (this + 14 + (ix a1)) 3) (v (this + 14 + (ix a1)) 4) ((v (this + 14 + (ix a1)) 4) + (v (this + 14 + (ix a1)) 5)) v (fun r4 v3 => w_X1_latestFit this (v3 (this + 14 + (ix a1)) 1) (v3 (this + 14 + (ix a1)) 2) (v3 (this + 14 + (ix a1)) 3) ((v (this + 14 + (ix a1)) 4) - (v3 (this + 14 + (ix a1)) 5)) (v (this + 14 + (ix a1)) 4) v3 (fun r6 v5 => ((¬ r6 = (-1) → ((r4 = (-1) → w_X1_bestTime_84 this Q r6 v5) ∧ (¬ r4 = (-1) → ((((v (this + 14 + (ix a1)) 4) - r6) ≤ (r4 - (v (this + 14 + (ix a1)) 4)) → w_X1_bestTime_84 this Q r6 v5) ∧ (¬ ((v (this + 14 + (ix a1)) 4) - r6) ≤ (r4 - (v (this + 14 + (ix a1)) 4)) → w_X1_bestTime_86 this Q r4 v5))))) ∧ (r6 = (-1) → Q r4 v5))))
set_option maxRecDepth 100000 in
set_option maxHeartbeats 4000000 in
theorem b_X1_bestTime_86 {p : Program} (l : Launch) {e : Env} {s : State} {m : MethodId} {args : Array Value} {below : List Frame} {meth : Method} {c : Code} {G : zG} {this : Nat} (hL : isL G this) (C0 : Cx G RX1 cX1_bestTime 6 (some .int) p s m args meth c) {Q : Int32 → V3 → Prop} : ∀ (s0 : Int32) (v : V3) (H : Heap) (locs : List Loc) (ls : Array Slot), w_X1_bestTime_86 this Q s0 v → Zs G s v H locs → lv_has ls 6 [] → W p l e { frames := 2, cells := 0, slots := 0, locals := 57 } s m args below meth c H locs 0 0 (MQ below (QiZ G Q) args s 0 0 (zA G)) (F0 m 86 ls [.int s0]) := by
  have hx := C0.1
  have hb := C0.2.1
  intro s0 v H locs ls hw Z hl
  rw [w_X1_bestTime_86] at hw
  exact z_iret C0 Z hw dX1_bestTime_86
set_option maxRecDepth 100000 in
set_option maxHeartbeats 4000000 in
theorem b_X1_bestTime_84 {p : Program} (l : Launch) {e : Env} {s : State} {m : MethodId} {args : Array Value} {below : List Frame} {meth : Method} {c : Code} {G : zG} {this : Nat} (hL : isL G this) (C0 : Cx G RX1 cX1_bestTime 6 (some .int) p s m args meth c) {Q : Int32 → V3 → Prop} : ∀ (x5 : Int32) (v : V3) (H : Heap) (locs : List Loc) (ls : Array Slot), w_X1_bestTime_84 this Q x5 v → Zs G s v H locs → lv_has ls 6 [(5, .int x5)] → W p l e { frames := 2, cells := 0, slots := 0, locals := 57 } s m args below meth c H locs 0 0 (MQ below (QiZ G Q) args s 0 0 (zA G)) (F0 m 84 ls []) := by
  have hx := C0.1
  have hb := C0.2.1
  intro x5 v H locs ls hw Z hl
  rw [w_X1_bestTime_84] at hw
  refine lv_iload hx hb dX1_bestTime_84 (lv_at hl 0 rfl) ?_
  exact b_X1_bestTime_86 l hL C0 _ _ _ _ _ hw Z (lv_sub hl [] rfl)
set_option maxRecDepth 100000 in
set_option maxHeartbeats 4000000 in
theorem k_X1_bestTime (l : Launch) {G : zG} (hg : 129 ≤ gn G) {this : Nat} {a1 : Int32} (hL : isL G this) {v : V3} {Q : Int32 → V3 → Prop} (hw : w_X1_bestTime this a1 v Q) : Mz l yX1_bestTime cX1_bestTime 6 (some .int) 2 57 G [.ref (gad G this), .int a1] v (QiZ G Q) := by
  rw [w_X1_bestTime] at hw
  refine z_ofW hg (by decide) (Nat.le_of_ble_eq_true rfl) ?_
  intro p e s m args below meth c ls C0 Z hl
  have hx := C0.1
  have hb := C0.2.1
  replace hl : lv_has ls 6 [(0, .ref (gad G this)), (1, .int a1)] := hl
  generalize s.heap = H at Z ⊢
  generalize ([] : List Loc) = locs at Z ⊢
  refine lv_aload_n hx hb dX1_bestTime_0 rfl (lv_at hl 0 rfl) ?_
  refine z_get C0 Z in_X1 rfl 2 (by decide) rfl tm_1_49 (isL_lt0 hL) (ent_L hL) rfl dX1_bestTime_1 ?_
  refine lv_iload_n hx hb dX1_bestTime_4 rfl (lv_at hl 1 rfl) ?_
  obtain ⟨h1, hw⟩ := hw
  have h2 := vp_lt h1
  refine z_aald C0 Z (isL_lt hL 3 (by decide)) (ent_L3 hL) h1 dX1_bestTime_5 ?_
  refine lv_astore_n (lv' := [(2, .ref (gad G (this + 14 + (ix a1)))), (0, .ref (gad G this)), (1, .int a1)]) hx hb dX1_bestTime_6 rfl hl (by decide) rfl (fun ls hl => ?_)
  refine lv_aload_n hx hb dX1_bestTime_7 rfl (lv_at hl 0 rfl) ?_
  refine lv_iconst (v := 4) hx hb dX1_bestTime_8 (by decide) ?_
  refine z_ialdk C0 Z (isL_B hL h2) (ent_B hL h2) in_4_10 nc_4 dX1_bestTime_9 ?_
  refine lv_istore_n (lv' := [(3, .int (v (this + 14 + (ix a1)) 4)), (2, .ref (gad G (this + 14 + (ix a1)))), (0, .ref (gad G this)), (1, .int a1)]) hx hb dX1_bestTime_10 rfl hl (by decide) rfl (fun ls hl => ?_)
  refine lv_aload_n hx hb dX1_bestTime_11 rfl (lv_at hl 2 rfl) ?_
  refine lv_aload_n hx hb dX1_bestTime_12 rfl (lv_at hl 1 rfl) ?_
  refine lv_iconst (v := 1) hx hb dX1_bestTime_13 (by decide) ?_
  refine z_ialdk C0 Z (isL_B hL h2) (ent_B hL h2) in_1_10 nc_1 dX1_bestTime_14 ?_
  refine lv_aload_n hx hb dX1_bestTime_15 rfl (lv_at hl 1 rfl) ?_
  refine lv_iconst (v := 2) hx hb dX1_bestTime_16 (by decide) ?_
  refine z_ialdk C0 Z (isL_B hL h2) (ent_B hL h2) in_2_10 nc_2 dX1_bestTime_17 ?_
  refine lv_aload_n hx hb dX1_bestTime_18 rfl (lv_at hl 1 rfl) ?_
  refine lv_iconst (v := 3) hx hb dX1_bestTime_19 (by decide) ?_
  refine z_ialdk C0 Z (isL_B hL h2) (ent_B hL h2) in_3_10 nc_3 dX1_bestTime_20 ?_
  refine lv_iload_n hx hb dX1_bestTime_21 rfl (lv_at hl 0 rfl) ?_
  refine lv_iload_n hx hb dX1_bestTime_22 rfl (lv_at hl 0 rfl) ?_
  refine lv_aload_n hx hb dX1_bestTime_23 rfl (lv_at hl 1 rfl) ?_
  refine lv_iconst (v := 5) hx hb dX1_bestTime_24 (by decide) ?_
  refine z_ialdk C0 Z (isL_B hL h2) (ent_B hL h2) in_5_10 nc_5 dX1_bestTime_25 ?_
  refine lv_iadd hx hb dX1_bestTime_26 ?_
  refine z_callVi C0 Z hl.1 (As := [.int (v (this + 14 + (ix a1)) 1), .int (v (this + 14 + (ix a1)) 2), .int (v (this + 14 + (ix a1)) 3), .int (v (this + 14 + (ix a1)) 4), .int ((v (this + 14 + (ix a1)) 4) + (v (this + 14 + (ix a1)) 5))]) (rest := []) (k_X1_earliestFit l (cx_g C0) hL hw) (gv_X1_earliestFit tm_2_109) rfl ds_X1_earliestFit ⟨Nat.le_of_ble_eq_true rfl, Nat.le_of_ble_eq_true rfl⟩ (ci := 1) rfl (isL_lt0 hL) (ent_L hL) rfl rfl (Nat.le_of_ble_eq_true rfl) ⟨Nat.zero_le _, Nat.zero_le _⟩ dX1_bestTime_27 (fun r4 v3 H locs hw Z => ?_)
  refine lv_istore (lv' := [(4, .int r4), (3, .int (v (this + 14 + (ix a1)) 4)), (2, .ref (gad G (this + 14 + (ix a1)))), (0, .ref (gad G this)), (1, .int a1)]) hx hb dX1_bestTime_30 hl (by decide) rfl (fun ls hl => ?_)
  refine lv_aload_n hx hb dX1_bestTime_32 rfl (lv_at hl 3 rfl) ?_
  refine lv_aload_n hx hb dX1_bestTime_33 rfl (lv_at hl 2 rfl) ?_
  refine lv_iconst (v := 1) hx hb dX1_bestTime_34 (by decide) ?_
  refine z_ialdk C0 Z (isL_B hL h2) (ent_B hL h2) in_1_10 nc_1 dX1_bestTime_35 ?_
  refine lv_aload_n hx hb dX1_bestTime_36 rfl (lv_at hl 2 rfl) ?_
  refine lv_iconst (v := 2) hx hb dX1_bestTime_37 (by decide) ?_
  refine z_ialdk C0 Z (isL_B hL h2) (ent_B hL h2) in_2_10 nc_2 dX1_bestTime_38 ?_
  refine lv_aload_n hx hb dX1_bestTime_39 rfl (lv_at hl 2 rfl) ?_
  refine lv_iconst (v := 3) hx hb dX1_bestTime_40 (by decide) ?_
  refine z_ialdk C0 Z (isL_B hL h2) (ent_B hL h2) in_3_10 nc_3 dX1_bestTime_41 ?_
  refine lv_iload_n hx hb dX1_bestTime_42 rfl (lv_at hl 1 rfl) ?_
  refine lv_aload_n hx hb dX1_bestTime_43 rfl (lv_at hl 2 rfl) ?_
  refine lv_iconst (v := 5) hx hb dX1_bestTime_44 (by decide) ?_
  refine z_ialdk C0 Z (isL_B hL h2) (ent_B hL h2) in_5_10 nc_5 dX1_bestTime_45 ?_
  refine lv_isub hx hb dX1_bestTime_46 ?_
  refine lv_iload_n hx hb dX1_bestTime_47 rfl (lv_at hl 1 rfl) ?_
  refine z_callVi C0 Z hl.1 (As := [.int (v3 (this + 14 + (ix a1)) 1), .int (v3 (this + 14 + (ix a1)) 2), .int (v3 (this + 14 + (ix a1)) 3), .int ((v (this + 14 + (ix a1)) 4) - (v3 (this + 14 + (ix a1)) 5)), .int (v (this + 14 + (ix a1)) 4)]) (rest := []) (k_X1_latestFit l (cx_g C0) hL hw) (gv_X1_latestFit tm_2_120) rfl ds_X1_latestFit ⟨Nat.le_of_ble_eq_true rfl, Nat.le_of_ble_eq_true rfl⟩ (ci := 1) rfl (isL_lt0 hL) (ent_L hL) rfl rfl (Nat.le_of_ble_eq_true rfl) ⟨Nat.zero_le _, Nat.zero_le _⟩ dX1_bestTime_48 (fun r6 v5 H locs hw Z => ?_)
  refine lv_istore (lv' := [(5, .int r6), (4, .int r4), (3, .int (v (this + 14 + (ix a1)) 4)), (2, .ref (gad G (this + 14 + (ix a1)))), (0, .ref (gad G this)), (1, .int a1)]) hx hb dX1_bestTime_51 hl (by decide) rfl (fun ls hl => ?_)
  refine lv_iload hx hb dX1_bestTime_53 (lv_at hl 0 rfl) ?_
  refine lv_iconst (v := (-1)) hx hb dX1_bestTime_55 (by decide) ?_
  refine lv_icmp_ne (tgt := 62) hx hb dX1_bestTime_56 (by decide) (fun c7 => ?_) (fun c7 => ?_)
  · replace hw := hw.1 c7
    refine lv_iload hx hb dX1_bestTime_62 (lv_at hl 1 rfl) ?_
    refine lv_iconst (v := (-1)) hx hb dX1_bestTime_64 (by decide) ?_
    refine lv_icmp_eq (tgt := 84) hx hb dX1_bestTime_65 (by decide) (fun c8 => ?_) (fun c8 => ?_)
    · replace hw := hw.1 c8
      exact b_X1_bestTime_84 l hL C0 _ _ _ _ _ hw Z (lv_sub hl [0] rfl)
    · replace hw := hw.2 c8
      refine lv_iload hx hb dX1_bestTime_68 (lv_at hl 1 rfl) ?_
      refine lv_iload_n hx hb dX1_bestTime_70 rfl (lv_at hl 2 rfl) ?_
      refine lv_isub hx hb dX1_bestTime_71 ?_
      refine lv_iload_n hx hb dX1_bestTime_72 rfl (lv_at hl 2 rfl) ?_
      refine lv_iload hx hb dX1_bestTime_73 (lv_at hl 0 rfl) ?_
      refine lv_isub hx hb dX1_bestTime_75 ?_
      refine lv_icmp_ge (tgt := 84) hx hb dX1_bestTime_76 (by decide) (fun c9 => ?_) (fun c9 => ?_)
      · replace hw := hw.1 c9
        exact b_X1_bestTime_84 l hL C0 _ _ _ _ _ hw Z (lv_sub hl [0] rfl)
      · replace hw := hw.2 c9
        refine lv_iload hx hb dX1_bestTime_79 (lv_at hl 1 rfl) ?_
        refine lv_goto (tgt := 86) hx hb dX1_bestTime_81 (by decide) ?_
        exact b_X1_bestTime_86 l hL C0 _ _ _ _ _ hw Z (lv_sub hl [] rfl)
  · replace hw := hw.2 c7
    refine lv_iload hx hb dX1_bestTime_59 (lv_at hl 1 rfl) ?_
    exact z_iret C0 Z hw dX1_bestTime_61
-- X1_enterBooking: room (3, 82)
theorem dX1_enterBooking_0 : decode cX1_enterBooking 0 = .ok (.aload_n 0, 1) := by decide +kernel
theorem dX1_enterBooking_1 : decode cX1_enterBooking 1 = .ok (.getfield 43, 3) := by decide +kernel
theorem dX1_enterBooking_4 : decode cX1_enterBooking 4 = .ok (.istore 8, 2) := by decide +kernel
theorem dX1_enterBooking_6 : decode cX1_enterBooking 6 = .ok (.aload_n 0, 1) := by decide +kernel
theorem dX1_enterBooking_7 : decode cX1_enterBooking 7 = .ok (.getfield 20, 3) := by decide +kernel
theorem dX1_enterBooking_10 : decode cX1_enterBooking 10 = .ok (.iload 8, 2) := by decide +kernel
theorem dX1_enterBooking_12 : decode cX1_enterBooking 12 = .ok (.aaload, 1) := by decide +kernel
theorem dX1_enterBooking_13 : decode cX1_enterBooking 13 = .ok (.astore 9, 2) := by decide +kernel
theorem dX1_enterBooking_15 : decode cX1_enterBooking 15 = .ok (.aload 9, 2) := by decide +kernel
theorem dX1_enterBooking_17 : decode cX1_enterBooking 17 = .ok (.iconst 0, 1) := by decide +kernel
theorem dX1_enterBooking_18 : decode cX1_enterBooking 18 = .ok (.iload_n 1, 1) := by decide +kernel
theorem dX1_enterBooking_19 : decode cX1_enterBooking 19 = .ok (.iastore, 1) := by decide +kernel
theorem dX1_enterBooking_20 : decode cX1_enterBooking 20 = .ok (.aload 9, 2) := by decide +kernel
theorem dX1_enterBooking_22 : decode cX1_enterBooking 22 = .ok (.iconst 1, 1) := by decide +kernel
theorem dX1_enterBooking_23 : decode cX1_enterBooking 23 = .ok (.iload_n 2, 1) := by decide +kernel
theorem dX1_enterBooking_24 : decode cX1_enterBooking 24 = .ok (.iastore, 1) := by decide +kernel
theorem dX1_enterBooking_25 : decode cX1_enterBooking 25 = .ok (.aload 9, 2) := by decide +kernel
theorem dX1_enterBooking_27 : decode cX1_enterBooking 27 = .ok (.iconst 2, 1) := by decide +kernel
theorem dX1_enterBooking_28 : decode cX1_enterBooking 28 = .ok (.iload_n 3, 1) := by decide +kernel
theorem dX1_enterBooking_29 : decode cX1_enterBooking 29 = .ok (.iastore, 1) := by decide +kernel
theorem dX1_enterBooking_30 : decode cX1_enterBooking 30 = .ok (.aload 9, 2) := by decide +kernel
theorem dX1_enterBooking_32 : decode cX1_enterBooking 32 = .ok (.iconst 3, 1) := by decide +kernel
theorem dX1_enterBooking_33 : decode cX1_enterBooking 33 = .ok (.iload 4, 2) := by decide +kernel
theorem dX1_enterBooking_35 : decode cX1_enterBooking 35 = .ok (.iastore, 1) := by decide +kernel
theorem dX1_enterBooking_36 : decode cX1_enterBooking 36 = .ok (.aload 9, 2) := by decide +kernel
theorem dX1_enterBooking_38 : decode cX1_enterBooking 38 = .ok (.iconst 4, 1) := by decide +kernel
theorem dX1_enterBooking_39 : decode cX1_enterBooking 39 = .ok (.iload 5, 2) := by decide +kernel
theorem dX1_enterBooking_41 : decode cX1_enterBooking 41 = .ok (.iastore, 1) := by decide +kernel
theorem dX1_enterBooking_42 : decode cX1_enterBooking 42 = .ok (.aload 9, 2) := by decide +kernel
theorem dX1_enterBooking_44 : decode cX1_enterBooking 44 = .ok (.iconst 5, 1) := by decide +kernel
theorem dX1_enterBooking_45 : decode cX1_enterBooking 45 = .ok (.iload 6, 2) := by decide +kernel
theorem dX1_enterBooking_47 : decode cX1_enterBooking 47 = .ok (.iastore, 1) := by decide +kernel
theorem dX1_enterBooking_48 : decode cX1_enterBooking 48 = .ok (.aload 9, 2) := by decide +kernel
theorem dX1_enterBooking_50 : decode cX1_enterBooking 50 = .ok (.bipush 6, 2) := by decide +kernel
theorem dX1_enterBooking_52 : decode cX1_enterBooking 52 = .ok (.iload 7, 2) := by decide +kernel
theorem dX1_enterBooking_54 : decode cX1_enterBooking 54 = .ok (.iastore, 1) := by decide +kernel
theorem dX1_enterBooking_55 : decode cX1_enterBooking 55 = .ok (.aload_n 0, 1) := by decide +kernel
theorem dX1_enterBooking_56 : decode cX1_enterBooking 56 = .ok (.iload 8, 2) := by decide +kernel
theorem dX1_enterBooking_58 : decode cX1_enterBooking 58 = .ok (.invokevirtual 75, 3) := by decide +kernel
theorem dX1_enterBooking_61 : decode cX1_enterBooking 61 = .ok (.aload_n 0, 1) := by decide +kernel
theorem dX1_enterBooking_62 : decode cX1_enterBooking 62 = .ok (.dup, 1) := by decide +kernel
theorem dX1_enterBooking_63 : decode cX1_enterBooking 63 = .ok (.getfield 43, 3) := by decide +kernel
theorem dX1_enterBooking_66 : decode cX1_enterBooking 66 = .ok (.iconst 1, 1) := by decide +kernel
theorem dX1_enterBooking_67 : decode cX1_enterBooking 67 = .ok (.iadd, 1) := by decide +kernel
theorem dX1_enterBooking_68 : decode cX1_enterBooking 68 = .ok (.putfield 43, 3) := by decide +kernel
theorem dX1_enterBooking_71 : decode cX1_enterBooking 71 = .ok (.aload_n 0, 1) := by decide +kernel
theorem dX1_enterBooking_72 : decode cX1_enterBooking 72 = .ok (.iload 8, 2) := by decide +kernel
theorem dX1_enterBooking_74 : decode cX1_enterBooking 74 = .ok (.aload_n 0, 1) := by decide +kernel
theorem dX1_enterBooking_75 : decode cX1_enterBooking 75 = .ok (.iload 8, 2) := by decide +kernel
theorem dX1_enterBooking_77 : decode cX1_enterBooking 77 = .ok (.invokevirtual 78, 3) := by decide +kernel
theorem dX1_enterBooking_80 : decode cX1_enterBooking 80 = .ok (.invokevirtual 81, 3) := by decide +kernel
theorem dX1_enterBooking_83 : decode cX1_enterBooking 83 = .ok (.pop, 1) := by decide +kernel
theorem dX1_enterBooking_84 : decode cX1_enterBooking 84 = .ok (.iload 8, 2) := by decide +kernel
theorem dX1_enterBooking_86 : decode cX1_enterBooking 86 = .ok (.ireturn, 1) := by decide +kernel
def w_X1_enterBooking (this : Nat) (a1 : Int32) (a2 : Int32) (a3 : Int32) (a4 : Int32) (a5 : Int32) (a6 : Int32) (a7 : Int32) (v : V3) (Q : Int32 → V3 → Prop) : Prop := vp_in (v this 8) 40 ∧ ∀ v3 : V3, v3 = up2 v (this + 14 + (ix (v this 8))) 0 a1 → ∀ v4 : V3, v4 = up2 v3 (this + 14 + (ix (v this 8))) 1 a2 → ∀ v5 : V3, v5 = up2 v4 (this + 14 + (ix (v this 8))) 2 a3 → ∀ v6 : V3, v6 = up2 v5 (this + 14 + (ix (v this 8))) 3 a4 → ∀ v7 : V3, v7 = up2 v6 (this + 14 + (ix (v this 8))) 4 a5 → ∀ v8 : V3, v8 = up2 v7 (this + 14 + (ix (v this 8))) 5 a6 → ∀ v9 : V3, v9 = up2 v8 (this + 14 + (ix (v this 8))) 6 a7 → w_X1_letWait this (v this 8) v9 (fun v10 => ∀ v11 : V3, v11 = up2 v10 this 8 ((v10 this 8) + 1) → w_X1_bestTime this (v this 8) v11 (fun r13 v12 => w_X1_bookAt this (v this 8) r13 v12 (fun r15 v14 => Q (v this 8) v14)))
set_option maxRecDepth 100000 in
set_option maxHeartbeats 4000000 in
theorem k_X1_enterBooking (l : Launch) {G : zG} (hg : 129 ≤ gn G) {this : Nat} {a1 : Int32} {a2 : Int32} {a3 : Int32} {a4 : Int32} {a5 : Int32} {a6 : Int32} {a7 : Int32} (hL : isL G this) {v : V3} {Q : Int32 → V3 → Prop} (hw : w_X1_enterBooking this a1 a2 a3 a4 a5 a6 a7 v Q) : Mz l yX1_enterBooking cX1_enterBooking 10 (some .int) 3 82 G [.ref (gad G this), .int a1, .int a2, .int a3, .int a4, .int a5, .int a6, .int a7] v (QiZ G Q) := by
  rw [w_X1_enterBooking] at hw
  refine z_ofW hg (by decide) (Nat.le_of_ble_eq_true rfl) ?_
  intro p e s m args below meth c ls C0 Z hl
  have hx := C0.1
  have hb := C0.2.1
  replace hl : lv_has ls 10 [(0, .ref (gad G this)), (1, .int a1), (2, .int a2), (3, .int a3), (4, .int a4), (5, .int a5), (6, .int a6), (7, .int a7)] := hl
  generalize s.heap = H at Z ⊢
  generalize ([] : List Loc) = locs at Z ⊢
  refine lv_aload_n hx hb dX1_enterBooking_0 rfl (lv_at hl 0 rfl) ?_
  refine z_get C0 Z in_X1 rfl 8 (by decide) rfl tm_1_64 (isL_lt0 hL) (ent_L hL) rfl dX1_enterBooking_1 ?_
  refine lv_istore (lv' := [(8, .int (v this 8)), (0, .ref (gad G this)), (1, .int a1), (2, .int a2), (3, .int a3), (4, .int a4), (5, .int a5), (6, .int a6), (7, .int a7)]) hx hb dX1_enterBooking_4 hl (by decide) rfl (fun ls hl => ?_)
  refine lv_aload_n hx hb dX1_enterBooking_6 rfl (lv_at hl 1 rfl) ?_
  refine z_get C0 Z in_X1 rfl 2 (by decide) rfl tm_1_49 (isL_lt0 hL) (ent_L hL) rfl dX1_enterBooking_7 ?_
  refine lv_iload hx hb dX1_enterBooking_10 (lv_at hl 0 rfl) ?_
  obtain ⟨h1, hw⟩ := hw
  have h2 := vp_lt h1
  refine z_aald C0 Z (isL_lt hL 3 (by decide)) (ent_L3 hL) h1 dX1_enterBooking_12 ?_
  refine lv_astore (lv' := [(9, .ref (gad G (this + 14 + (ix (v this 8))))), (8, .int (v this 8)), (0, .ref (gad G this)), (1, .int a1), (2, .int a2), (3, .int a3), (4, .int a4), (5, .int a5), (6, .int a6), (7, .int a7)]) hx hb dX1_enterBooking_13 hl (by decide) rfl (fun ls hl => ?_)
  refine lv_aload hx hb dX1_enterBooking_15 (lv_at hl 0 rfl) ?_
  refine lv_iconst (v := 0) hx hb dX1_enterBooking_17 (by decide) ?_
  refine lv_iload_n hx hb dX1_enterBooking_18 rfl (lv_at hl 3 rfl) ?_
  refine z_iastk C0 Z (isL_B hL h2) (fun _ => ent_B hL h2) in_0_10 nc_0 dX1_enterBooking_19 (fun H locs Z => ?_)
  obtain ⟨v3, ev3⟩ : ∃ z : V3, z = up2 v (this + 14 + (ix (v this 8))) 0 a1 := ⟨_, rfl⟩
  rw [← ev3] at Z
  replace hw := hw v3 ev3
  refine lv_aload hx hb dX1_enterBooking_20 (lv_at hl 0 rfl) ?_
  refine lv_iconst (v := 1) hx hb dX1_enterBooking_22 (by decide) ?_
  refine lv_iload_n hx hb dX1_enterBooking_23 rfl (lv_at hl 4 rfl) ?_
  refine z_iastk C0 Z (isL_B hL h2) (fun _ => ent_B hL h2) in_1_10 nc_1 dX1_enterBooking_24 (fun H locs Z => ?_)
  obtain ⟨v4, ev4⟩ : ∃ z : V3, z = up2 v3 (this + 14 + (ix (v this 8))) 1 a2 := ⟨_, rfl⟩
  rw [← ev4] at Z
  replace hw := hw v4 ev4
  refine lv_aload hx hb dX1_enterBooking_25 (lv_at hl 0 rfl) ?_
  refine lv_iconst (v := 2) hx hb dX1_enterBooking_27 (by decide) ?_
  refine lv_iload_n hx hb dX1_enterBooking_28 rfl (lv_at hl 5 rfl) ?_
  refine z_iastk C0 Z (isL_B hL h2) (fun _ => ent_B hL h2) in_2_10 nc_2 dX1_enterBooking_29 (fun H locs Z => ?_)
  obtain ⟨v5, ev5⟩ : ∃ z : V3, z = up2 v4 (this + 14 + (ix (v this 8))) 2 a3 := ⟨_, rfl⟩
  rw [← ev5] at Z
  replace hw := hw v5 ev5
  refine lv_aload hx hb dX1_enterBooking_30 (lv_at hl 0 rfl) ?_
  refine lv_iconst (v := 3) hx hb dX1_enterBooking_32 (by decide) ?_
  refine lv_iload hx hb dX1_enterBooking_33 (lv_at hl 6 rfl) ?_
  refine z_iastk C0 Z (isL_B hL h2) (fun _ => ent_B hL h2) in_3_10 nc_3 dX1_enterBooking_35 (fun H locs Z => ?_)
  obtain ⟨v6, ev6⟩ : ∃ z : V3, z = up2 v5 (this + 14 + (ix (v this 8))) 3 a4 := ⟨_, rfl⟩
  rw [← ev6] at Z
  replace hw := hw v6 ev6
  refine lv_aload hx hb dX1_enterBooking_36 (lv_at hl 0 rfl) ?_
  refine lv_iconst (v := 4) hx hb dX1_enterBooking_38 (by decide) ?_
  refine lv_iload hx hb dX1_enterBooking_39 (lv_at hl 7 rfl) ?_
  refine z_iastk C0 Z (isL_B hL h2) (fun _ => ent_B hL h2) in_4_10 nc_4 dX1_enterBooking_41 (fun H locs Z => ?_)
  obtain ⟨v7, ev7⟩ : ∃ z : V3, z = up2 v6 (this + 14 + (ix (v this 8))) 4 a5 := ⟨_, rfl⟩
  rw [← ev7] at Z
  replace hw := hw v7 ev7
  refine lv_aload hx hb dX1_enterBooking_42 (lv_at hl 0 rfl) ?_
  refine lv_iconst (v := 5) hx hb dX1_enterBooking_44 (by decide) ?_
  refine lv_iload hx hb dX1_enterBooking_45 (lv_at hl 8 rfl) ?_
  refine z_iastk C0 Z (isL_B hL h2) (fun _ => ent_B hL h2) in_5_10 nc_5 dX1_enterBooking_47 (fun H locs Z => ?_)
  obtain ⟨v8, ev8⟩ : ∃ z : V3, z = up2 v7 (this + 14 + (ix (v this 8))) 5 a6 := ⟨_, rfl⟩
  rw [← ev8] at Z
  replace hw := hw v8 ev8
  refine lv_aload hx hb dX1_enterBooking_48 (lv_at hl 0 rfl) ?_
  refine lv_bipush (v := 6) hx hb dX1_enterBooking_50 (by decide) ?_
  refine lv_iload hx hb dX1_enterBooking_52 (lv_at hl 9 rfl) ?_
  refine z_iastk C0 Z (isL_B hL h2) (fun _ => ent_B hL h2) in_6_10 nc_6 dX1_enterBooking_54 (fun H locs Z => ?_)
  obtain ⟨v9, ev9⟩ : ∃ z : V3, z = up2 v8 (this + 14 + (ix (v this 8))) 6 a7 := ⟨_, rfl⟩
  rw [← ev9] at Z
  replace hw := hw v9 ev9
  refine lv_aload_n hx hb dX1_enterBooking_55 rfl (lv_at hl 2 rfl) ?_
  refine lv_iload hx hb dX1_enterBooking_56 (lv_at hl 1 rfl) ?_
  refine z_callVv C0 Z hl.1 (As := [.int (v this 8)]) (rest := []) (k_X1_letWait l (cx_g C0) hL hw) (gv_X1_letWait tm_2_101) rfl ds_X1_letWait ⟨Nat.le_of_ble_eq_true rfl, Nat.le_of_ble_eq_true rfl⟩ (ci := 1) rfl (isL_lt0 hL) (ent_L hL) rfl rfl (Nat.le_of_ble_eq_true rfl) ⟨Nat.zero_le _, Nat.zero_le _⟩ dX1_enterBooking_58 (fun v10 H locs hw Z => ?_)
  refine lv_aload_n hx hb dX1_enterBooking_61 rfl (lv_at hl 2 rfl) ?_
  refine lv_dup hx hb dX1_enterBooking_62 rfl ?_
  refine z_get C0 Z in_X1 rfl 8 (by decide) rfl tm_1_64 (isL_lt0 hL) (ent_L hL) rfl dX1_enterBooking_63 ?_
  refine lv_iconst (v := 1) hx hb dX1_enterBooking_66 (by decide) ?_
  refine lv_iadd hx hb dX1_enterBooking_67 ?_
  refine z_put C0 Z in_X1 tyX1_ok nmX1 rfl 8 (by decide) rfl rfl tm_1_64 (isL_lt0 hL) (ent_L hL) (p_X1_8 hL) (fun c' h => up2_off _ _ _ h) rfl rfl (Nat.le_of_ble_eq_true rfl) dX1_enterBooking_68 (fun H locs Z => ?_)
  obtain ⟨v11, ev11⟩ : ∃ z : V3, z = up2 v10 this 8 ((v10 this 8) + 1) := ⟨_, rfl⟩
  rw [← ev11] at Z
  replace hw := hw v11 ev11
  refine lv_aload_n hx hb dX1_enterBooking_71 rfl (lv_at hl 2 rfl) ?_
  refine lv_iload hx hb dX1_enterBooking_72 (lv_at hl 1 rfl) ?_
  refine lv_aload_n hx hb dX1_enterBooking_74 rfl (lv_at hl 2 rfl) ?_
  refine lv_iload hx hb dX1_enterBooking_75 (lv_at hl 1 rfl) ?_
  refine z_callVi C0 Z hl.1 (As := [.int (v this 8)]) (rest := [.int (v this 8), .ref (gad G this)]) (k_X1_bestTime l (cx_g C0) hL hw) (gv_X1_bestTime tm_2_105) rfl ds_X1_bestTime ⟨Nat.le_of_ble_eq_true rfl, Nat.le_of_ble_eq_true rfl⟩ (ci := 1) rfl (isL_lt0 hL) (ent_L hL) rfl rfl (Nat.le_of_ble_eq_true rfl) ⟨Nat.zero_le _, Nat.zero_le _⟩ dX1_enterBooking_77 (fun r13 v12 H locs hw Z => ?_)
  refine z_callVi C0 Z hl.1 (As := [.int (v this 8), .int r13]) (rest := []) (k_X1_bookAt l (cx_g C0) hL hw) (gv_X1_bookAt tm_2_124) rfl ds_X1_bookAt ⟨Nat.le_of_ble_eq_true rfl, Nat.le_of_ble_eq_true rfl⟩ (ci := 1) rfl (isL_lt0 hL) (ent_L hL) rfl rfl (Nat.le_of_ble_eq_true rfl) ⟨Nat.zero_le _, Nat.zero_le _⟩ dX1_enterBooking_80 (fun r15 v14 H locs hw Z => ?_)
  refine lv_pop hx hb dX1_enterBooking_83 rfl ?_
  refine lv_iload hx hb dX1_enterBooking_84 (lv_at hl 1 rfl) ?_
  exact z_iret C0 Z hw dX1_enterBooking_86
-- X1_enterOwner: room (0, 0)
theorem dX1_enterOwner_0 : decode cX1_enterOwner 0 = .ok (.aload_n 0, 1) := by decide +kernel
theorem dX1_enterOwner_1 : decode cX1_enterOwner 1 = .ok (.getfield 17, 3) := by decide +kernel
theorem dX1_enterOwner_4 : decode cX1_enterOwner 4 = .ok (.aload_n 0, 1) := by decide +kernel
theorem dX1_enterOwner_5 : decode cX1_enterOwner 5 = .ok (.getfield 40, 3) := by decide +kernel
theorem dX1_enterOwner_8 : decode cX1_enterOwner 8 = .ok (.aaload, 1) := by decide +kernel
theorem dX1_enterOwner_9 : decode cX1_enterOwner 9 = .ok (.astore_n 2, 1) := by decide +kernel
theorem dX1_enterOwner_10 : decode cX1_enterOwner 10 = .ok (.iconst 0, 1) := by decide +kernel
theorem dX1_enterOwner_11 : decode cX1_enterOwner 11 = .ok (.istore_n 3, 1) := by decide +kernel
theorem dX1_enterOwner_12 : decode cX1_enterOwner 12 = .ok (.iload_n 3, 1) := by decide +kernel
theorem dX1_enterOwner_13 : decode cX1_enterOwner 13 = .ok (.bipush 8, 2) := by decide +kernel
theorem dX1_enterOwner_15 : decode cX1_enterOwner 15 = .ok (.if_icmp .ge 13, 3) := by decide +kernel
theorem dX1_enterOwner_18 : decode cX1_enterOwner 18 = .ok (.aload_n 2, 1) := by decide +kernel
theorem dX1_enterOwner_19 : decode cX1_enterOwner 19 = .ok (.iload_n 3, 1) := by decide +kernel
theorem dX1_enterOwner_20 : decode cX1_enterOwner 20 = .ok (.iconst 0, 1) := by decide +kernel
theorem dX1_enterOwner_21 : decode cX1_enterOwner 21 = .ok (.iastore, 1) := by decide +kernel
theorem dX1_enterOwner_22 : decode cX1_enterOwner 22 = .ok (.iinc 3 1, 3) := by decide +kernel
theorem dX1_enterOwner_25 : decode cX1_enterOwner 25 = .ok (.goto (-13), 3) := by decide +kernel
theorem dX1_enterOwner_28 : decode cX1_enterOwner 28 = .ok (.aload_n 2, 1) := by decide +kernel
theorem dX1_enterOwner_29 : decode cX1_enterOwner 29 = .ok (.iconst 0, 1) := by decide +kernel
theorem dX1_enterOwner_30 : decode cX1_enterOwner 30 = .ok (.iload_n 1, 1) := by decide +kernel
theorem dX1_enterOwner_31 : decode cX1_enterOwner 31 = .ok (.iastore, 1) := by decide +kernel
theorem dX1_enterOwner_32 : decode cX1_enterOwner 32 = .ok (.aload_n 0, 1) := by decide +kernel
theorem dX1_enterOwner_33 : decode cX1_enterOwner 33 = .ok (.dup, 1) := by decide +kernel
theorem dX1_enterOwner_34 : decode cX1_enterOwner 34 = .ok (.getfield 40, 3) := by decide +kernel
theorem dX1_enterOwner_37 : decode cX1_enterOwner 37 = .ok (.iconst 1, 1) := by decide +kernel
theorem dX1_enterOwner_38 : decode cX1_enterOwner 38 = .ok (.iadd, 1) := by decide +kernel
theorem dX1_enterOwner_39 : decode cX1_enterOwner 39 = .ok (.putfield 40, 3) := by decide +kernel
theorem dX1_enterOwner_42 : decode cX1_enterOwner 42 = .ok (.aload_n 0, 1) := by decide +kernel
theorem dX1_enterOwner_43 : decode cX1_enterOwner 43 = .ok (.getfield 40, 3) := by decide +kernel
theorem dX1_enterOwner_46 : decode cX1_enterOwner 46 = .ok (.iconst 1, 1) := by decide +kernel
theorem dX1_enterOwner_47 : decode cX1_enterOwner 47 = .ok (.isub, 1) := by decide +kernel
theorem dX1_enterOwner_48 : decode cX1_enterOwner 48 = .ok (.ireturn, 1) := by decide +kernel
def w_X1_enterOwner_12 (this : Nat) (Q : Int32 → V3 → Prop) : Nat → Int32 → Nat → Int32 → V3 → Prop
  | 0, _, _, _, _ => False
  | n12 + 1, x1, x2, x3, v => ((8 ≤ x3 → ∀ v4 : V3, v4 = up2 v (this + 6 + x2) 0 x1 → ∀ v5 : V3, v5 = up2 v4 this 7 ((v4 this 7) + 1) → Q ((v5 this 7) - 1) v5) ∧ (¬ 8 ≤ x3 → vp_in x3 8 ∧ ∀ v7 : V3, v7 = up2 v (this + 6 + x2) (ix x3) 0 → (w_X1_enterOwner_12 this Q n12) x1 x2 (x3 + 1) v7))
def w_X1_enterOwner (this : Nat) (a1 : Int32) (v : V3) (Q : Int32 → V3 → Prop) : Prop := vp_in (v this 7) 8 ∧ ∃ m12 : Nat, w_X1_enterOwner_12 this Q m12 a1 (ix (v this 7)) 0 v
set_option maxRecDepth 100000 in
set_option maxHeartbeats 4000000 in
theorem b_X1_enterOwner_12 {p : Program} (l : Launch) {e : Env} {s : State} {m : MethodId} {args : Array Value} {below : List Frame} {meth : Method} {c : Code} {G : zG} {this : Nat} (hL : isL G this) (C0 : Cx G RX1 cX1_enterOwner 4 (some .int) p s m args meth c) {Q : Int32 → V3 → Prop} : ∀ (n : Nat) (x1 : Int32) (x2 : Nat) (x3 : Int32) (v : V3) (H : Heap) (locs : List Loc) (ls : Array Slot), x2 < 8 → w_X1_enterOwner_12 this Q n x1 x2 x3 v → Zs G s v H locs → lv_has ls 4 [(0, .ref (gad G this)), (1, .int x1), (2, .ref (gad G (this + 6 + x2))), (3, .int x3)] → W p l e { frames := 0, cells := 0, slots := 0, locals := 0 } s m args below meth c H locs 0 0 (MQ below (QiZ G Q) args s 0 0 (zA G)) (F0 m 12 ls []) := by
  have hx := C0.1
  have hb := C0.2.1
  intro n
  induction n with
  | zero =>
    intro x1 x2 x3 v H locs ls hx2 hw Z hl
    exact hw.elim
  | succ n hK12 =>
    intro x1 x2 x3 v H locs ls hx2 hw Z hl
    rw [w_X1_enterOwner_12] at hw
    refine lv_iload_n hx hb dX1_enterOwner_12 rfl (lv_at hl 3 rfl) ?_
    refine lv_bipush (v := 8) hx hb dX1_enterOwner_13 (by decide) ?_
    refine lv_icmp_ge (tgt := 28) hx hb dX1_enterOwner_15 (by decide) (fun c3 => ?_) (fun c3 => ?_)
    · replace hw := hw.1 c3
      refine lv_aload_n hx hb dX1_enterOwner_28 rfl (lv_at hl 2 rfl) ?_
      refine lv_iconst (v := 0) hx hb dX1_enterOwner_29 (by decide) ?_
      refine lv_iload_n hx hb dX1_enterOwner_30 rfl (lv_at hl 1 rfl) ?_
      refine z_iastk C0 Z (isL_O hL hx2) (fun _ => ent_O hL hx2) in_0_8 nc_0 dX1_enterOwner_31 (fun H locs Z => ?_)
      obtain ⟨v4, ev4⟩ : ∃ z : V3, z = up2 v (this + 6 + x2) 0 x1 := ⟨_, rfl⟩
      rw [← ev4] at Z
      replace hw := hw v4 ev4
      refine lv_aload_n hx hb dX1_enterOwner_32 rfl (lv_at hl 0 rfl) ?_
      refine lv_dup hx hb dX1_enterOwner_33 rfl ?_
      refine z_get C0 Z in_X1 rfl 7 (by decide) rfl tm_1_61 (isL_lt0 hL) (ent_L hL) rfl dX1_enterOwner_34 ?_
      refine lv_iconst (v := 1) hx hb dX1_enterOwner_37 (by decide) ?_
      refine lv_iadd hx hb dX1_enterOwner_38 ?_
      refine z_put C0 Z in_X1 tyX1_ok nmX1 rfl 7 (by decide) rfl rfl tm_1_61 (isL_lt0 hL) (ent_L hL) (p_X1_7 hL) (fun c' h => up2_off _ _ _ h) rfl rfl (Nat.le_of_ble_eq_true rfl) dX1_enterOwner_39 (fun H locs Z => ?_)
      obtain ⟨v5, ev5⟩ : ∃ z : V3, z = up2 v4 this 7 ((v4 this 7) + 1) := ⟨_, rfl⟩
      rw [← ev5] at Z
      replace hw := hw v5 ev5
      refine lv_aload_n hx hb dX1_enterOwner_42 rfl (lv_at hl 0 rfl) ?_
      refine z_get C0 Z in_X1 rfl 7 (by decide) rfl tm_1_61 (isL_lt0 hL) (ent_L hL) rfl dX1_enterOwner_43 ?_
      refine lv_iconst (v := 1) hx hb dX1_enterOwner_46 (by decide) ?_
      refine lv_isub hx hb dX1_enterOwner_47 ?_
      exact z_iret C0 Z hw dX1_enterOwner_48
    · replace hw := hw.2 c3
      refine lv_aload_n hx hb dX1_enterOwner_18 rfl (lv_at hl 2 rfl) ?_
      refine lv_iload_n hx hb dX1_enterOwner_19 rfl (lv_at hl 3 rfl) ?_
      refine lv_iconst (v := 0) hx hb dX1_enterOwner_20 (by decide) ?_
      obtain ⟨h6, hw⟩ := hw
      refine z_iast C0 Z (isL_O hL hx2) (fun _ => ent_O hL hx2) h6 dX1_enterOwner_21 (fun H locs Z => ?_)
      obtain ⟨v7, ev7⟩ : ∃ z : V3, z = up2 v (this + 6 + x2) (ix x3) 0 := ⟨_, rfl⟩
      rw [← ev7] at Z
      replace hw := hw v7 ev7
      refine lv_iinc (v := x3 + 1) (lv' := [(3, .int (x3 + 1)), (0, .ref (gad G this)), (1, .int x1), (2, .ref (gad G (this + 6 + x2)))]) hx hb dX1_enterOwner_22 hl (k := 3) rfl rfl (by decide) rfl (fun ls hl => ?_)
      refine lv_goto (tgt := 12) hx hb dX1_enterOwner_25 (by decide) ?_
      exact hK12 _ _ _ _ _ _ _ hx2 hw Z (lv_sub hl [1, 2, 3, 0] rfl)
set_option maxRecDepth 100000 in
set_option maxHeartbeats 4000000 in
theorem k_X1_enterOwner (l : Launch) {G : zG} (hg : 129 ≤ gn G) {this : Nat} {a1 : Int32} (hL : isL G this) {v : V3} {Q : Int32 → V3 → Prop} (hw : w_X1_enterOwner this a1 v Q) : Mz l yX1_enterOwner cX1_enterOwner 4 (some .int) 0 0 G [.ref (gad G this), .int a1] v (QiZ G Q) := by
  rw [w_X1_enterOwner] at hw
  refine z_ofW hg (by decide) (Nat.le_of_ble_eq_true rfl) ?_
  intro p e s m args below meth c ls C0 Z hl
  have hx := C0.1
  have hb := C0.2.1
  replace hl : lv_has ls 4 [(0, .ref (gad G this)), (1, .int a1)] := hl
  generalize s.heap = H at Z ⊢
  generalize ([] : List Loc) = locs at Z ⊢
  refine lv_aload_n hx hb dX1_enterOwner_0 rfl (lv_at hl 0 rfl) ?_
  refine z_get C0 Z in_X1 rfl 1 (by decide) rfl tm_1_46 (isL_lt0 hL) (ent_L hL) rfl dX1_enterOwner_1 ?_
  refine lv_aload_n hx hb dX1_enterOwner_4 rfl (lv_at hl 0 rfl) ?_
  refine z_get C0 Z in_X1 rfl 7 (by decide) rfl tm_1_61 (isL_lt0 hL) (ent_L hL) rfl dX1_enterOwner_5 ?_
  obtain ⟨h1, hw⟩ := hw
  have h2 := vp_lt h1
  refine z_aald C0 Z (isL_lt hL 2 (by decide)) (ent_L2 hL) h1 dX1_enterOwner_8 ?_
  refine lv_astore_n (lv' := [(2, .ref (gad G (this + 6 + (ix (v this 7))))), (0, .ref (gad G this)), (1, .int a1)]) hx hb dX1_enterOwner_9 rfl hl (by decide) rfl (fun ls hl => ?_)
  refine lv_iconst (v := 0) hx hb dX1_enterOwner_10 (by decide) ?_
  refine lv_istore_n (lv' := [(3, .int 0), (2, .ref (gad G (this + 6 + (ix (v this 7))))), (0, .ref (gad G this)), (1, .int a1)]) hx hb dX1_enterOwner_11 rfl hl (by decide) rfl (fun ls hl => ?_)
  obtain ⟨m12, hw⟩ := hw
  exact b_X1_enterOwner_12 l hL C0 m12 _ _ _ _ _ _ _ h2 hw Z (lv_sub hl [2, 3, 1, 0] rfl)
end
section
-- X1_clearTally: room (0, 0)
theorem dX1_clearTally_0 : decode cX1_clearTally 0 = .ok (.iconst 0, 1) := by decide +kernel
theorem dX1_clearTally_1 : decode cX1_clearTally 1 = .ok (.istore_n 1, 1) := by decide +kernel
theorem dX1_clearTally_2 : decode cX1_clearTally 2 = .ok (.iload_n 1, 1) := by decide +kernel
theorem dX1_clearTally_3 : decode cX1_clearTally 3 = .ok (.iconst 4, 1) := by decide +kernel
theorem dX1_clearTally_4 : decode cX1_clearTally 4 = .ok (.if_icmp .ge 16, 3) := by decide +kernel
theorem dX1_clearTally_7 : decode cX1_clearTally 7 = .ok (.aload_n 0, 1) := by decide +kernel
theorem dX1_clearTally_8 : decode cX1_clearTally 8 = .ok (.getfield 23, 3) := by decide +kernel
theorem dX1_clearTally_11 : decode cX1_clearTally 11 = .ok (.iload_n 1, 1) := by decide +kernel
theorem dX1_clearTally_12 : decode cX1_clearTally 12 = .ok (.iconst 0, 1) := by decide +kernel
theorem dX1_clearTally_13 : decode cX1_clearTally 13 = .ok (.iastore, 1) := by decide +kernel
theorem dX1_clearTally_14 : decode cX1_clearTally 14 = .ok (.iinc 1 1, 3) := by decide +kernel
theorem dX1_clearTally_17 : decode cX1_clearTally 17 = .ok (.goto (-15), 3) := by decide +kernel
theorem dX1_clearTally_20 : decode cX1_clearTally 20 = .ok (.return_, 1) := by decide +kernel
def w_X1_clearTally_2 (this : Nat) (Q : V3 → Prop) : Nat → Int32 → V3 → Prop
  | 0, _, _ => False
  | n2 + 1, x1, v => ((4 ≤ x1 → Q v) ∧ (¬ 4 ≤ x1 → vp_in x1 4 ∧ ∀ v3 : V3, v3 = up2 v (this + 4) (ix x1) 0 → (w_X1_clearTally_2 this Q n2) (x1 + 1) v3))
def w_X1_clearTally (this : Nat) (v : V3) (Q : V3 → Prop) : Prop := ∃ m2 : Nat, w_X1_clearTally_2 this Q m2 0 v
set_option maxRecDepth 100000 in
set_option maxHeartbeats 4000000 in
theorem b_X1_clearTally_2 {p : Program} (l : Launch) {e : Env} {s : State} {m : MethodId} {args : Array Value} {below : List Frame} {meth : Method} {c : Code} {G : zG} {this : Nat} (hL : isL G this) (C0 : Cx G RX1 cX1_clearTally 2 none p s m args meth c) {Q : V3 → Prop} : ∀ (n : Nat) (x1 : Int32) (v : V3) (H : Heap) (locs : List Loc) (ls : Array Slot), w_X1_clearTally_2 this Q n x1 v → Zs G s v H locs → lv_has ls 2 [(0, .ref (gad G this)), (1, .int x1)] → W p l e { frames := 0, cells := 0, slots := 0, locals := 0 } s m args below meth c H locs 0 0 (MQ below (QvZ G Q) args s 0 0 (zA G)) (F0 m 2 ls []) := by
  have hx := C0.1
  have hb := C0.2.1
  intro n
  induction n with
  | zero =>
    intro x1 v H locs ls hw Z hl
    exact hw.elim
  | succ n hK2 =>
    intro x1 v H locs ls hw Z hl
    rw [w_X1_clearTally_2] at hw
    refine lv_iload_n hx hb dX1_clearTally_2 rfl (lv_at hl 1 rfl) ?_
    refine lv_iconst (v := 4) hx hb dX1_clearTally_3 (by decide) ?_
    refine lv_icmp_ge (tgt := 20) hx hb dX1_clearTally_4 (by decide) (fun c1 => ?_) (fun c1 => ?_)
    · replace hw := hw.1 c1
      exact z_vret C0 Z hw dX1_clearTally_20
    · replace hw := hw.2 c1
      refine lv_aload_n hx hb dX1_clearTally_7 rfl (lv_at hl 0 rfl) ?_
      refine z_get C0 Z in_X1 rfl 3 (by decide) rfl tm_1_52 (isL_lt0 hL) (ent_L hL) rfl dX1_clearTally_8 ?_
      refine lv_iload_n hx hb dX1_clearTally_11 rfl (lv_at hl 1 rfl) ?_
      refine lv_iconst (v := 0) hx hb dX1_clearTally_12 (by decide) ?_
      obtain ⟨h2, hw⟩ := hw
      refine z_iast C0 Z (isL_lt hL 4 (by decide)) (fun _ => ent_L4 hL) h2 dX1_clearTally_13 (fun H locs Z => ?_)
      obtain ⟨v3, ev3⟩ : ∃ z : V3, z = up2 v (this + 4) (ix x1) 0 := ⟨_, rfl⟩
      rw [← ev3] at Z
      replace hw := hw v3 ev3
      refine lv_iinc (v := x1 + 1) (lv' := [(1, .int (x1 + 1)), (0, .ref (gad G this))]) hx hb dX1_clearTally_14 hl (k := 1) rfl rfl (by decide) rfl (fun ls hl => ?_)
      refine lv_goto (tgt := 2) hx hb dX1_clearTally_17 (by decide) ?_
      exact hK2 _ _ _ _ _ hw Z (lv_sub hl [1, 0] rfl)
set_option maxRecDepth 100000 in
set_option maxHeartbeats 4000000 in
theorem k_X1_clearTally (l : Launch) {G : zG} (hg : 129 ≤ gn G) {this : Nat} (hL : isL G this) {v : V3} {Q : V3 → Prop} (hw : w_X1_clearTally this v Q) : Mz l yX1_clearTally cX1_clearTally 2 none 0 0 G [.ref (gad G this)] v (QvZ G Q) := by
  rw [w_X1_clearTally] at hw
  refine z_ofW hg (by decide) (Nat.le_of_ble_eq_true rfl) ?_
  intro p e s m args below meth c ls C0 Z hl
  have hx := C0.1
  have hb := C0.2.1
  replace hl : lv_has ls 2 [(0, .ref (gad G this))] := hl
  generalize s.heap = H at Z ⊢
  generalize ([] : List Loc) = locs at Z ⊢
  refine lv_iconst (v := 0) hx hb dX1_clearTally_0 (by decide) ?_
  refine lv_istore_n (lv' := [(1, .int 0), (0, .ref (gad G this))]) hx hb dX1_clearTally_1 rfl hl (by decide) rfl (fun ls hl => ?_)
  obtain ⟨m2, hw⟩ := hw
  exact b_X1_clearTally_2 l hL C0 m2 _ _ _ _ _ hw Z (lv_sub hl [1, 0] rfl)
-- X1_queueUp: room (1, 21)
theorem dX1_queueUp_0 : decode cX1_queueUp 0 = .ok (.iconst 0, 1) := by decide +kernel
theorem dX1_queueUp_1 : decode cX1_queueUp 1 = .ok (.istore_n 1, 1) := by decide +kernel
theorem dX1_queueUp_2 : decode cX1_queueUp 2 = .ok (.iconst 0, 1) := by decide +kernel
theorem dX1_queueUp_3 : decode cX1_queueUp 3 = .ok (.istore_n 2, 1) := by decide +kernel
theorem dX1_queueUp_4 : decode cX1_queueUp 4 = .ok (.iload_n 2, 1) := by decide +kernel
theorem dX1_queueUp_5 : decode cX1_queueUp 5 = .ok (.aload_n 0, 1) := by decide +kernel
theorem dX1_queueUp_6 : decode cX1_queueUp 6 = .ok (.getfield 43, 3) := by decide +kernel
theorem dX1_queueUp_9 : decode cX1_queueUp 9 = .ok (.if_icmp .ge 99, 3) := by decide +kernel
theorem dX1_queueUp_12 : decode cX1_queueUp 12 = .ok (.aload_n 0, 1) := by decide +kernel
theorem dX1_queueUp_13 : decode cX1_queueUp 13 = .ok (.getfield 20, 3) := by decide +kernel
theorem dX1_queueUp_16 : decode cX1_queueUp 16 = .ok (.iload_n 2, 1) := by decide +kernel
theorem dX1_queueUp_17 : decode cX1_queueUp 17 = .ok (.aaload, 1) := by decide +kernel
theorem dX1_queueUp_18 : decode cX1_queueUp 18 = .ok (.bipush 7, 2) := by decide +kernel
theorem dX1_queueUp_20 : decode cX1_queueUp 20 = .ok (.iaload, 1) := by decide +kernel
theorem dX1_queueUp_21 : decode cX1_queueUp 21 = .ok (.ifCond .ne 81, 3) := by decide +kernel
theorem dX1_queueUp_24 : decode cX1_queueUp 24 = .ok (.aload_n 0, 1) := by decide +kernel
theorem dX1_queueUp_25 : decode cX1_queueUp 25 = .ok (.aload_n 0, 1) := by decide +kernel
theorem dX1_queueUp_26 : decode cX1_queueUp 26 = .ok (.getfield 20, 3) := by decide +kernel
theorem dX1_queueUp_29 : decode cX1_queueUp 29 = .ok (.iload_n 2, 1) := by decide +kernel
theorem dX1_queueUp_30 : decode cX1_queueUp 30 = .ok (.aaload, 1) := by decide +kernel
theorem dX1_queueUp_31 : decode cX1_queueUp 31 = .ok (.iconst 0, 1) := by decide +kernel
theorem dX1_queueUp_32 : decode cX1_queueUp 32 = .ok (.iaload, 1) := by decide +kernel
theorem dX1_queueUp_33 : decode cX1_queueUp 33 = .ok (.invokevirtual 61, 3) := by decide +kernel
theorem dX1_queueUp_36 : decode cX1_queueUp 36 = .ok (.istore_n 3, 1) := by decide +kernel
theorem dX1_queueUp_37 : decode cX1_queueUp 37 = .ok (.iload_n 1, 1) := by decide +kernel
theorem dX1_queueUp_38 : decode cX1_queueUp 38 = .ok (.istore 4, 2) := by decide +kernel
theorem dX1_queueUp_40 : decode cX1_queueUp 40 = .ok (.iload 4, 2) := by decide +kernel
theorem dX1_queueUp_42 : decode cX1_queueUp 42 = .ok (.ifCond .le 49, 3) := by decide +kernel
theorem dX1_queueUp_45 : decode cX1_queueUp 45 = .ok (.aload_n 0, 1) := by decide +kernel
theorem dX1_queueUp_46 : decode cX1_queueUp 46 = .ok (.aload_n 0, 1) := by decide +kernel
theorem dX1_queueUp_47 : decode cX1_queueUp 47 = .ok (.getfield 20, 3) := by decide +kernel
theorem dX1_queueUp_50 : decode cX1_queueUp 50 = .ok (.aload_n 0, 1) := by decide +kernel
theorem dX1_queueUp_51 : decode cX1_queueUp 51 = .ok (.getfield 26, 3) := by decide +kernel
theorem dX1_queueUp_54 : decode cX1_queueUp 54 = .ok (.iload 4, 2) := by decide +kernel
theorem dX1_queueUp_56 : decode cX1_queueUp 56 = .ok (.iconst 1, 1) := by decide +kernel
theorem dX1_queueUp_57 : decode cX1_queueUp 57 = .ok (.isub, 1) := by decide +kernel
theorem dX1_queueUp_58 : decode cX1_queueUp 58 = .ok (.iaload, 1) := by decide +kernel
theorem dX1_queueUp_59 : decode cX1_queueUp 59 = .ok (.aaload, 1) := by decide +kernel
theorem dX1_queueUp_60 : decode cX1_queueUp 60 = .ok (.iconst 0, 1) := by decide +kernel
theorem dX1_queueUp_61 : decode cX1_queueUp 61 = .ok (.iaload, 1) := by decide +kernel
theorem dX1_queueUp_62 : decode cX1_queueUp 62 = .ok (.invokevirtual 61, 3) := by decide +kernel
theorem dX1_queueUp_65 : decode cX1_queueUp 65 = .ok (.iload_n 3, 1) := by decide +kernel
theorem dX1_queueUp_66 : decode cX1_queueUp 66 = .ok (.if_icmp .le 25, 3) := by decide +kernel
theorem dX1_queueUp_69 : decode cX1_queueUp 69 = .ok (.aload_n 0, 1) := by decide +kernel
theorem dX1_queueUp_70 : decode cX1_queueUp 70 = .ok (.getfield 26, 3) := by decide +kernel
theorem dX1_queueUp_73 : decode cX1_queueUp 73 = .ok (.iload 4, 2) := by decide +kernel
theorem dX1_queueUp_75 : decode cX1_queueUp 75 = .ok (.aload_n 0, 1) := by decide +kernel
theorem dX1_queueUp_76 : decode cX1_queueUp 76 = .ok (.getfield 26, 3) := by decide +kernel
theorem dX1_queueUp_79 : decode cX1_queueUp 79 = .ok (.iload 4, 2) := by decide +kernel
theorem dX1_queueUp_81 : decode cX1_queueUp 81 = .ok (.iconst 1, 1) := by decide +kernel
theorem dX1_queueUp_82 : decode cX1_queueUp 82 = .ok (.isub, 1) := by decide +kernel
theorem dX1_queueUp_83 : decode cX1_queueUp 83 = .ok (.iaload, 1) := by decide +kernel
theorem dX1_queueUp_84 : decode cX1_queueUp 84 = .ok (.iastore, 1) := by decide +kernel
theorem dX1_queueUp_85 : decode cX1_queueUp 85 = .ok (.iinc 4 (-1), 3) := by decide +kernel
theorem dX1_queueUp_88 : decode cX1_queueUp 88 = .ok (.goto (-48), 3) := by decide +kernel
theorem dX1_queueUp_91 : decode cX1_queueUp 91 = .ok (.aload_n 0, 1) := by decide +kernel
theorem dX1_queueUp_92 : decode cX1_queueUp 92 = .ok (.getfield 26, 3) := by decide +kernel
theorem dX1_queueUp_95 : decode cX1_queueUp 95 = .ok (.iload 4, 2) := by decide +kernel
theorem dX1_queueUp_97 : decode cX1_queueUp 97 = .ok (.iload_n 2, 1) := by decide +kernel
theorem dX1_queueUp_98 : decode cX1_queueUp 98 = .ok (.iastore, 1) := by decide +kernel
theorem dX1_queueUp_99 : decode cX1_queueUp 99 = .ok (.iinc 1 1, 3) := by decide +kernel
theorem dX1_queueUp_102 : decode cX1_queueUp 102 = .ok (.iinc 2 1, 3) := by decide +kernel
theorem dX1_queueUp_105 : decode cX1_queueUp 105 = .ok (.goto (-101), 3) := by decide +kernel
theorem dX1_queueUp_108 : decode cX1_queueUp 108 = .ok (.iload_n 1, 1) := by decide +kernel
theorem dX1_queueUp_109 : decode cX1_queueUp 109 = .ok (.ireturn, 1) := by decide +kernel
def w_X1_queueUp_102 (this : Nat) (Q : Int32 → V3 → Prop) (K4 : Int32 → Int32 → V3 → Prop) (x1 : Int32) (x2 : Int32) (v : V3) : Prop := K4 x1 (x2 + 1) v
def w_X1_queueUp_91 (this : Nat) (Q : Int32 → V3 → Prop) (K4 : Int32 → Int32 → V3 → Prop) (x1 : Int32) (x2 : Int32) (x4 : Int32) (v : V3) : Prop := vp_in x4 40 ∧ ∀ v11 : V3, v11 = up2 v (this + 5) (ix x4) x2 → w_X1_queueUp_102 this Q K4 (x1 + 1) x2 v11
def w_X1_queueUp_40 (this : Nat) (Q : Int32 → V3 → Prop) (K4 : Int32 → Int32 → V3 → Prop) : Nat → Int32 → Int32 → Int32 → Int32 → V3 → Prop
  | 0, _, _, _, _, _ => False
  | n40 + 1, x1, x2, x3, x4, v => ((x4 ≤ 0 → w_X1_queueUp_91 this Q K4 x1 x2 x4 v) ∧ (¬ x4 ≤ 0 → vp_in (x4 - 1) 40 ∧ vp_in (v (this + 5) (ix (x4 - 1))) 40 ∧ w_X1_brokenOf this (v (this + 14 + (ix (v (this + 5) (ix (x4 - 1))))) 0) v (fun r16 v15 => ((r16 ≤ x3 → w_X1_queueUp_91 this Q K4 x1 x2 x4 v15) ∧ (¬ r16 ≤ x3 → vp_in (x4 - 1) 40 ∧ vp_in x4 40 ∧ ∀ v20 : V3, v20 = up2 v15 (this + 5) (ix x4) (v15 (this + 5) (ix (x4 - 1))) → (w_X1_queueUp_40 this Q K4 n40) x1 x2 x3 (x4 + (-1)) v20)))))
def w_X1_queueUp_4 (this : Nat) (Q : Int32 → V3 → Prop) : Nat → Int32 → Int32 → V3 → Prop
  | 0, _, _, _ => False
  | n4 + 1, x1, x2, v => (((v this 8) ≤ x2 → Q x1 v) ∧ (¬ (v this 8) ≤ x2 → vp_in x2 40 ∧ ((¬ (v (this + 14 + (ix x2)) 7) = 0 → w_X1_queueUp_102 this Q (w_X1_queueUp_4 this Q n4) x1 x2 v) ∧ ((v (this + 14 + (ix x2)) 7) = 0 → vp_in x2 40 ∧ w_X1_brokenOf this (v (this + 14 + (ix x2)) 0) v (fun r8 v7 => ∃ m40 : Nat, w_X1_queueUp_40 this Q (w_X1_queueUp_4 this Q n4) m40 x1 x2 r8 x1 v7)))))
def w_X1_queueUp (this : Nat) (v : V3) (Q : Int32 → V3 → Prop) : Prop := ∃ m4 : Nat, w_X1_queueUp_4 this Q m4 0 0 v
set_option maxRecDepth 100000 in
set_option maxHeartbeats 4000000 in
theorem b_X1_queueUp_102 {p : Program} (l : Launch) {e : Env} {s : State} {m : MethodId} {args : Array Value} {below : List Frame} {meth : Method} {c : Code} {G : zG} {this : Nat} (hL : isL G this) (C0 : Cx G RX1 cX1_queueUp 5 (some .int) p s m args meth c) {Q : Int32 → V3 → Prop} {K4 : Int32 → Int32 → V3 → Prop} (hK4 : ∀ (x1 : Int32) (x2 : Int32) (v : V3) (H : Heap) (locs : List Loc) (ls : Array Slot), K4 x1 x2 v → Zs G s v H locs → lv_has ls 5 [(0, .ref (gad G this)), (1, .int x1), (2, .int x2)] → W p l e { frames := 1, cells := 0, slots := 0, locals := 21 } s m args below meth c H locs 0 0 (MQ below (QiZ G Q) args s 0 0 (zA G)) (F0 m 4 ls [])) : ∀ (x1 : Int32) (x2 : Int32) (v : V3) (H : Heap) (locs : List Loc) (ls : Array Slot), w_X1_queueUp_102 this Q K4 x1 x2 v → Zs G s v H locs → lv_has ls 5 [(0, .ref (gad G this)), (1, .int x1), (2, .int x2)] → W p l e { frames := 1, cells := 0, slots := 0, locals := 21 } s m args below meth c H locs 0 0 (MQ below (QiZ G Q) args s 0 0 (zA G)) (F0 m 102 ls []) := by
  have hx := C0.1
  have hb := C0.2.1
  intro x1 x2 v H locs ls hw Z hl
  rw [w_X1_queueUp_102] at hw
  refine lv_iinc (v := x2 + 1) (lv' := [(2, .int (x2 + 1)), (0, .ref (gad G this)), (1, .int x1)]) hx hb dX1_queueUp_102 hl (k := 2) rfl rfl (by decide) rfl (fun ls hl => ?_)
  refine lv_goto (tgt := 4) hx hb dX1_queueUp_105 (by decide) ?_
  exact hK4 _ _ _ _ _ _ hw Z (lv_sub hl [1, 2, 0] rfl)
set_option maxRecDepth 100000 in
set_option maxHeartbeats 4000000 in
theorem b_X1_queueUp_91 {p : Program} (l : Launch) {e : Env} {s : State} {m : MethodId} {args : Array Value} {below : List Frame} {meth : Method} {c : Code} {G : zG} {this : Nat} (hL : isL G this) (C0 : Cx G RX1 cX1_queueUp 5 (some .int) p s m args meth c) {Q : Int32 → V3 → Prop} {K4 : Int32 → Int32 → V3 → Prop} (hK4 : ∀ (x1 : Int32) (x2 : Int32) (v : V3) (H : Heap) (locs : List Loc) (ls : Array Slot), K4 x1 x2 v → Zs G s v H locs → lv_has ls 5 [(0, .ref (gad G this)), (1, .int x1), (2, .int x2)] → W p l e { frames := 1, cells := 0, slots := 0, locals := 21 } s m args below meth c H locs 0 0 (MQ below (QiZ G Q) args s 0 0 (zA G)) (F0 m 4 ls [])) : ∀ (x1 : Int32) (x2 : Int32) (x4 : Int32) (v : V3) (H : Heap) (locs : List Loc) (ls : Array Slot), w_X1_queueUp_91 this Q K4 x1 x2 x4 v → Zs G s v H locs → lv_has ls 5 [(0, .ref (gad G this)), (1, .int x1), (2, .int x2), (4, .int x4)] → W p l e { frames := 1, cells := 0, slots := 0, locals := 21 } s m args below meth c H locs 0 0 (MQ below (QiZ G Q) args s 0 0 (zA G)) (F0 m 91 ls []) := by
  have hx := C0.1
  have hb := C0.2.1
  intro x1 x2 x4 v H locs ls hw Z hl
  rw [w_X1_queueUp_91] at hw
  refine lv_aload_n hx hb dX1_queueUp_91 rfl (lv_at hl 0 rfl) ?_
  refine z_get C0 Z in_X1 rfl 4 (by decide) rfl tm_1_54 (isL_lt0 hL) (ent_L hL) rfl dX1_queueUp_92 ?_
  refine lv_iload hx hb dX1_queueUp_95 (lv_at hl 3 rfl) ?_
  refine lv_iload_n hx hb dX1_queueUp_97 rfl (lv_at hl 2 rfl) ?_
  obtain ⟨h10, hw⟩ := hw
  refine z_iast C0 Z (isL_lt hL 5 (by decide)) (fun _ => ent_L5 hL) h10 dX1_queueUp_98 (fun H locs Z => ?_)
  obtain ⟨v11, ev11⟩ : ∃ z : V3, z = up2 v (this + 5) (ix x4) x2 := ⟨_, rfl⟩
  rw [← ev11] at Z
  replace hw := hw v11 ev11
  refine lv_iinc (v := x1 + 1) (lv' := [(1, .int (x1 + 1)), (0, .ref (gad G this)), (2, .int x2), (4, .int x4)]) hx hb dX1_queueUp_99 hl (k := 1) rfl rfl (by decide) rfl (fun ls hl => ?_)
  exact b_X1_queueUp_102 l hL C0 hK4 _ _ _ _ _ _ hw Z (lv_sub hl [1, 0, 2] rfl)
set_option maxRecDepth 100000 in
set_option maxHeartbeats 4000000 in
theorem b_X1_queueUp_40 {p : Program} (l : Launch) {e : Env} {s : State} {m : MethodId} {args : Array Value} {below : List Frame} {meth : Method} {c : Code} {G : zG} {this : Nat} (hL : isL G this) (C0 : Cx G RX1 cX1_queueUp 5 (some .int) p s m args meth c) {Q : Int32 → V3 → Prop} {K4 : Int32 → Int32 → V3 → Prop} (hK4 : ∀ (x1 : Int32) (x2 : Int32) (v : V3) (H : Heap) (locs : List Loc) (ls : Array Slot), K4 x1 x2 v → Zs G s v H locs → lv_has ls 5 [(0, .ref (gad G this)), (1, .int x1), (2, .int x2)] → W p l e { frames := 1, cells := 0, slots := 0, locals := 21 } s m args below meth c H locs 0 0 (MQ below (QiZ G Q) args s 0 0 (zA G)) (F0 m 4 ls [])) : ∀ (n : Nat) (x1 : Int32) (x2 : Int32) (x3 : Int32) (x4 : Int32) (v : V3) (H : Heap) (locs : List Loc) (ls : Array Slot), w_X1_queueUp_40 this Q K4 n x1 x2 x3 x4 v → Zs G s v H locs → lv_has ls 5 [(0, .ref (gad G this)), (1, .int x1), (2, .int x2), (3, .int x3), (4, .int x4)] → W p l e { frames := 1, cells := 0, slots := 0, locals := 21 } s m args below meth c H locs 0 0 (MQ below (QiZ G Q) args s 0 0 (zA G)) (F0 m 40 ls []) := by
  have hx := C0.1
  have hb := C0.2.1
  intro n
  induction n with
  | zero =>
    intro x1 x2 x3 x4 v H locs ls hw Z hl
    exact hw.elim
  | succ n hK40 =>
    intro x1 x2 x3 x4 v H locs ls hw Z hl
    rw [w_X1_queueUp_40] at hw
    refine lv_iload hx hb dX1_queueUp_40 (lv_at hl 4 rfl) ?_
    refine lv_if_le (tgt := 91) hx hb dX1_queueUp_42 (by decide) (fun c9 => ?_) (fun c9 => ?_)
    · replace hw := hw.1 c9
      exact b_X1_queueUp_91 l hL C0 hK4 _ _ _ _ _ _ _ hw Z (lv_sub hl [0, 1, 2, 4] rfl)
    · replace hw := hw.2 c9
      refine lv_aload_n hx hb dX1_queueUp_45 rfl (lv_at hl 0 rfl) ?_
      refine lv_aload_n hx hb dX1_queueUp_46 rfl (lv_at hl 0 rfl) ?_
      refine z_get C0 Z in_X1 rfl 2 (by decide) rfl tm_1_49 (isL_lt0 hL) (ent_L hL) rfl dX1_queueUp_47 ?_
      refine lv_aload_n hx hb dX1_queueUp_50 rfl (lv_at hl 0 rfl) ?_
      refine z_get C0 Z in_X1 rfl 4 (by decide) rfl tm_1_54 (isL_lt0 hL) (ent_L hL) rfl dX1_queueUp_51 ?_
      refine lv_iload hx hb dX1_queueUp_54 (lv_at hl 4 rfl) ?_
      refine lv_iconst (v := 1) hx hb dX1_queueUp_56 (by decide) ?_
      refine lv_isub hx hb dX1_queueUp_57 ?_
      obtain ⟨h12, hw⟩ := hw
      refine z_iald C0 Z (isL_lt hL 5 (by decide)) (ent_L5 hL) h12 dX1_queueUp_58 ?_
      obtain ⟨h13, hw⟩ := hw
      have h14 := vp_lt h13
      refine z_aald C0 Z (isL_lt hL 3 (by decide)) (ent_L3 hL) h13 dX1_queueUp_59 ?_
      refine lv_iconst (v := 0) hx hb dX1_queueUp_60 (by decide) ?_
      refine z_ialdk C0 Z (isL_B hL h14) (ent_B hL h14) in_0_10 nc_0 dX1_queueUp_61 ?_
      refine z_callVi C0 Z hl.1 (As := [.int (v (this + 14 + (ix (v (this + 5) (ix (x4 - 1))))) 0)]) (rest := []) (k_X1_brokenOf l (cx_g C0) hL hw) (gv_X1_brokenOf tm_2_235) rfl ds_X1_brokenOf ⟨Nat.le_of_ble_eq_true rfl, Nat.le_of_ble_eq_true rfl⟩ (ci := 1) rfl (isL_lt0 hL) (ent_L hL) rfl rfl (Nat.le_of_ble_eq_true rfl) ⟨Nat.zero_le _, Nat.zero_le _⟩ dX1_queueUp_62 (fun r16 v15 H locs hw Z => ?_)
      refine lv_iload_n hx hb dX1_queueUp_65 rfl (lv_at hl 3 rfl) ?_
      refine lv_icmp_le (tgt := 91) hx hb dX1_queueUp_66 (by decide) (fun c17 => ?_) (fun c17 => ?_)
      · replace hw := hw.1 c17
        exact b_X1_queueUp_91 l hL C0 hK4 _ _ _ _ _ _ _ hw Z (lv_sub hl [0, 1, 2, 4] rfl)
      · replace hw := hw.2 c17
        refine lv_aload_n hx hb dX1_queueUp_69 rfl (lv_at hl 0 rfl) ?_
        refine z_get C0 Z in_X1 rfl 4 (by decide) rfl tm_1_54 (isL_lt0 hL) (ent_L hL) rfl dX1_queueUp_70 ?_
        refine lv_iload hx hb dX1_queueUp_73 (lv_at hl 4 rfl) ?_
        refine lv_aload_n hx hb dX1_queueUp_75 rfl (lv_at hl 0 rfl) ?_
        refine z_get C0 Z in_X1 rfl 4 (by decide) rfl tm_1_54 (isL_lt0 hL) (ent_L hL) rfl dX1_queueUp_76 ?_
        refine lv_iload hx hb dX1_queueUp_79 (lv_at hl 4 rfl) ?_
        refine lv_iconst (v := 1) hx hb dX1_queueUp_81 (by decide) ?_
        refine lv_isub hx hb dX1_queueUp_82 ?_
        obtain ⟨h18, hw⟩ := hw
        refine z_iald C0 Z (isL_lt hL 5 (by decide)) (ent_L5 hL) h18 dX1_queueUp_83 ?_
        obtain ⟨h19, hw⟩ := hw
        refine z_iast C0 Z (isL_lt hL 5 (by decide)) (fun _ => ent_L5 hL) h19 dX1_queueUp_84 (fun H locs Z => ?_)
        obtain ⟨v20, ev20⟩ : ∃ z : V3, z = up2 v15 (this + 5) (ix x4) (v15 (this + 5) (ix (x4 - 1))) := ⟨_, rfl⟩
        rw [← ev20] at Z
        replace hw := hw v20 ev20
        refine lv_iinc (v := x4 + (-1)) (lv' := [(4, .int (x4 + (-1))), (0, .ref (gad G this)), (1, .int x1), (2, .int x2), (3, .int x3)]) hx hb dX1_queueUp_85 hl (k := 4) rfl rfl (by decide) rfl (fun ls hl => ?_)
        refine lv_goto (tgt := 40) hx hb dX1_queueUp_88 (by decide) ?_
        exact hK40 _ _ _ _ _ _ _ _ hw Z (lv_sub hl [1, 2, 3, 4, 0] rfl)
set_option maxRecDepth 100000 in
set_option maxHeartbeats 4000000 in
theorem b_X1_queueUp_4 {p : Program} (l : Launch) {e : Env} {s : State} {m : MethodId} {args : Array Value} {below : List Frame} {meth : Method} {c : Code} {G : zG} {this : Nat} (hL : isL G this) (C0 : Cx G RX1 cX1_queueUp 5 (some .int) p s m args meth c) {Q : Int32 → V3 → Prop} : ∀ (n : Nat) (x1 : Int32) (x2 : Int32) (v : V3) (H : Heap) (locs : List Loc) (ls : Array Slot), w_X1_queueUp_4 this Q n x1 x2 v → Zs G s v H locs → lv_has ls 5 [(0, .ref (gad G this)), (1, .int x1), (2, .int x2)] → W p l e { frames := 1, cells := 0, slots := 0, locals := 21 } s m args below meth c H locs 0 0 (MQ below (QiZ G Q) args s 0 0 (zA G)) (F0 m 4 ls []) := by
  have hx := C0.1
  have hb := C0.2.1
  intro n
  induction n with
  | zero =>
    intro x1 x2 v H locs ls hw Z hl
    exact hw.elim
  | succ n hK4 =>
    intro x1 x2 v H locs ls hw Z hl
    rw [w_X1_queueUp_4] at hw
    refine lv_iload_n hx hb dX1_queueUp_4 rfl (lv_at hl 2 rfl) ?_
    refine lv_aload_n hx hb dX1_queueUp_5 rfl (lv_at hl 0 rfl) ?_
    refine z_get C0 Z in_X1 rfl 8 (by decide) rfl tm_1_64 (isL_lt0 hL) (ent_L hL) rfl dX1_queueUp_6 ?_
    refine lv_icmp_ge (tgt := 108) hx hb dX1_queueUp_9 (by decide) (fun c1 => ?_) (fun c1 => ?_)
    · replace hw := hw.1 c1
      refine lv_iload_n hx hb dX1_queueUp_108 rfl (lv_at hl 1 rfl) ?_
      exact z_iret C0 Z hw dX1_queueUp_109
    · replace hw := hw.2 c1
      refine lv_aload_n hx hb dX1_queueUp_12 rfl (lv_at hl 0 rfl) ?_
      refine z_get C0 Z in_X1 rfl 2 (by decide) rfl tm_1_49 (isL_lt0 hL) (ent_L hL) rfl dX1_queueUp_13 ?_
      refine lv_iload_n hx hb dX1_queueUp_16 rfl (lv_at hl 2 rfl) ?_
      obtain ⟨h2, hw⟩ := hw
      have h3 := vp_lt h2
      refine z_aald C0 Z (isL_lt hL 3 (by decide)) (ent_L3 hL) h2 dX1_queueUp_17 ?_
      refine lv_bipush (v := 7) hx hb dX1_queueUp_18 (by decide) ?_
      refine z_ialdk C0 Z (isL_B hL h3) (ent_B hL h3) in_7_10 nc_7 dX1_queueUp_20 ?_
      refine lv_if_ne (tgt := 102) hx hb dX1_queueUp_21 (by decide) (fun c4 => ?_) (fun c4 => ?_)
      · replace hw := hw.1 c4
        exact b_X1_queueUp_102 l hL C0 hK4 _ _ _ _ _ _ hw Z (lv_sub hl [0, 1, 2] rfl)
      · replace hw := hw.2 c4
        refine lv_aload_n hx hb dX1_queueUp_24 rfl (lv_at hl 0 rfl) ?_
        refine lv_aload_n hx hb dX1_queueUp_25 rfl (lv_at hl 0 rfl) ?_
        refine z_get C0 Z in_X1 rfl 2 (by decide) rfl tm_1_49 (isL_lt0 hL) (ent_L hL) rfl dX1_queueUp_26 ?_
        refine lv_iload_n hx hb dX1_queueUp_29 rfl (lv_at hl 2 rfl) ?_
        obtain ⟨h5, hw⟩ := hw
        have h6 := vp_lt h5
        refine z_aald C0 Z (isL_lt hL 3 (by decide)) (ent_L3 hL) h5 dX1_queueUp_30 ?_
        refine lv_iconst (v := 0) hx hb dX1_queueUp_31 (by decide) ?_
        refine z_ialdk C0 Z (isL_B hL h6) (ent_B hL h6) in_0_10 nc_0 dX1_queueUp_32 ?_
        refine z_callVi C0 Z hl.1 (As := [.int (v (this + 14 + (ix x2)) 0)]) (rest := []) (k_X1_brokenOf l (cx_g C0) hL hw) (gv_X1_brokenOf tm_2_235) rfl ds_X1_brokenOf ⟨Nat.le_of_ble_eq_true rfl, Nat.le_of_ble_eq_true rfl⟩ (ci := 1) rfl (isL_lt0 hL) (ent_L hL) rfl rfl (Nat.le_of_ble_eq_true rfl) ⟨Nat.zero_le _, Nat.zero_le _⟩ dX1_queueUp_33 (fun r8 v7 H locs hw Z => ?_)
        refine lv_istore_n (lv' := [(3, .int r8), (0, .ref (gad G this)), (1, .int x1), (2, .int x2)]) hx hb dX1_queueUp_36 rfl hl (by decide) rfl (fun ls hl => ?_)
        refine lv_iload_n hx hb dX1_queueUp_37 rfl (lv_at hl 2 rfl) ?_
        refine lv_istore (lv' := [(4, .int x1), (3, .int r8), (0, .ref (gad G this)), (1, .int x1), (2, .int x2)]) hx hb dX1_queueUp_38 hl (by decide) rfl (fun ls hl => ?_)
        obtain ⟨m40, hw⟩ := hw
        exact b_X1_queueUp_40 l hL C0 hK4 m40 _ _ _ _ _ _ _ _ hw Z (lv_sub hl [2, 3, 4, 1, 0] rfl)
set_option maxRecDepth 100000 in
set_option maxHeartbeats 4000000 in
theorem k_X1_queueUp (l : Launch) {G : zG} (hg : 129 ≤ gn G) {this : Nat} (hL : isL G this) {v : V3} {Q : Int32 → V3 → Prop} (hw : w_X1_queueUp this v Q) : Mz l yX1_queueUp cX1_queueUp 5 (some .int) 1 21 G [.ref (gad G this)] v (QiZ G Q) := by
  rw [w_X1_queueUp] at hw
  refine z_ofW hg (by decide) (Nat.le_of_ble_eq_true rfl) ?_
  intro p e s m args below meth c ls C0 Z hl
  have hx := C0.1
  have hb := C0.2.1
  replace hl : lv_has ls 5 [(0, .ref (gad G this))] := hl
  generalize s.heap = H at Z ⊢
  generalize ([] : List Loc) = locs at Z ⊢
  refine lv_iconst (v := 0) hx hb dX1_queueUp_0 (by decide) ?_
  refine lv_istore_n (lv' := [(1, .int 0), (0, .ref (gad G this))]) hx hb dX1_queueUp_1 rfl hl (by decide) rfl (fun ls hl => ?_)
  refine lv_iconst (v := 0) hx hb dX1_queueUp_2 (by decide) ?_
  refine lv_istore_n (lv' := [(2, .int 0), (1, .int 0), (0, .ref (gad G this))]) hx hb dX1_queueUp_3 rfl hl (by decide) rfl (fun ls hl => ?_)
  obtain ⟨m4, hw⟩ := hw
  exact b_X1_queueUp_4 l hL C0 m4 _ _ _ _ _ _ hw Z (lv_sub hl [2, 1, 0] rfl)
-- X1_waiterAt: room (2, 45)
theorem dX1_waiterAt_0 : decode cX1_waiterAt 0 = .ok (.aload_n 0, 1) := by decide +kernel
theorem dX1_waiterAt_1 : decode cX1_waiterAt 1 = .ok (.invokevirtual 114, 3) := by decide +kernel
theorem dX1_waiterAt_4 : decode cX1_waiterAt 4 = .ok (.istore_n 2, 1) := by decide +kernel
theorem dX1_waiterAt_5 : decode cX1_waiterAt 5 = .ok (.iload_n 1, 1) := by decide +kernel
theorem dX1_waiterAt_6 : decode cX1_waiterAt 6 = .ok (.ifCond .lt 17, 3) := by decide +kernel
theorem dX1_waiterAt_9 : decode cX1_waiterAt 9 = .ok (.iload_n 1, 1) := by decide +kernel
theorem dX1_waiterAt_10 : decode cX1_waiterAt 10 = .ok (.iload_n 2, 1) := by decide +kernel
theorem dX1_waiterAt_11 : decode cX1_waiterAt 11 = .ok (.if_icmp .ge 12, 3) := by decide +kernel
theorem dX1_waiterAt_14 : decode cX1_waiterAt 14 = .ok (.aload_n 0, 1) := by decide +kernel
theorem dX1_waiterAt_15 : decode cX1_waiterAt 15 = .ok (.getfield 26, 3) := by decide +kernel
theorem dX1_waiterAt_18 : decode cX1_waiterAt 18 = .ok (.iload_n 1, 1) := by decide +kernel
theorem dX1_waiterAt_19 : decode cX1_waiterAt 19 = .ok (.iaload, 1) := by decide +kernel
theorem dX1_waiterAt_20 : decode cX1_waiterAt 20 = .ok (.goto 4, 3) := by decide +kernel
theorem dX1_waiterAt_23 : decode cX1_waiterAt 23 = .ok (.iconst (-1), 1) := by decide +kernel
theorem dX1_waiterAt_24 : decode cX1_waiterAt 24 = .ok (.ireturn, 1) := by decide +kernel
def w_X1_waiterAt_24 (this : Nat) (Q : Int32 → V3 → Prop) (s0 : Int32) (v : V3) : Prop := Q s0 v
def w_X1_waiterAt_23 (this : Nat) (Q : Int32 → V3 → Prop) (v : V3) : Prop := w_X1_waiterAt_24 this Q (-1) v
def w_X1_waiterAt (this : Nat) (a1 : Int32) (v : V3) (Q : Int32 → V3 → Prop) : Prop := w_X1_queueUp this v (fun r2 v1 => ((a1 < 0 → w_X1_waiterAt_23 this Q v1) ∧ (¬ a1 < 0 → ((r2 ≤ a1 → w_X1_waiterAt_23 this Q v1) ∧ (¬ r2 ≤ a1 → vp_in a1 40 ∧ w_X1_waiterAt_24 this Q (v1 (this + 5) (ix a1)) v1)))))
set_option maxRecDepth 100000 in
set_option maxHeartbeats 4000000 in
theorem b_X1_waiterAt_24 {p : Program} (l : Launch) {e : Env} {s : State} {m : MethodId} {args : Array Value} {below : List Frame} {meth : Method} {c : Code} {G : zG} {this : Nat} (hL : isL G this) (C0 : Cx G RX1 cX1_waiterAt 3 (some .int) p s m args meth c) {Q : Int32 → V3 → Prop} : ∀ (s0 : Int32) (v : V3) (H : Heap) (locs : List Loc) (ls : Array Slot), w_X1_waiterAt_24 this Q s0 v → Zs G s v H locs → lv_has ls 3 [] → W p l e { frames := 2, cells := 0, slots := 0, locals := 45 } s m args below meth c H locs 0 0 (MQ below (QiZ G Q) args s 0 0 (zA G)) (F0 m 24 ls [.int s0]) := by
  have hx := C0.1
  have hb := C0.2.1
  intro s0 v H locs ls hw Z hl
  rw [w_X1_waiterAt_24] at hw
  exact z_iret C0 Z hw dX1_waiterAt_24
set_option maxRecDepth 100000 in
set_option maxHeartbeats 4000000 in
theorem b_X1_waiterAt_23 {p : Program} (l : Launch) {e : Env} {s : State} {m : MethodId} {args : Array Value} {below : List Frame} {meth : Method} {c : Code} {G : zG} {this : Nat} (hL : isL G this) (C0 : Cx G RX1 cX1_waiterAt 3 (some .int) p s m args meth c) {Q : Int32 → V3 → Prop} : ∀ (v : V3) (H : Heap) (locs : List Loc) (ls : Array Slot), w_X1_waiterAt_23 this Q v → Zs G s v H locs → lv_has ls 3 [] → W p l e { frames := 2, cells := 0, slots := 0, locals := 45 } s m args below meth c H locs 0 0 (MQ below (QiZ G Q) args s 0 0 (zA G)) (F0 m 23 ls []) := by
  have hx := C0.1
  have hb := C0.2.1
  intro v H locs ls hw Z hl
  rw [w_X1_waiterAt_23] at hw
  refine lv_iconst (v := (-1)) hx hb dX1_waiterAt_23 (by decide) ?_
  exact b_X1_waiterAt_24 l hL C0 _ _ _ _ _ hw Z (lv_sub hl [] rfl)
set_option maxRecDepth 100000 in
set_option maxHeartbeats 4000000 in
theorem k_X1_waiterAt (l : Launch) {G : zG} (hg : 129 ≤ gn G) {this : Nat} {a1 : Int32} (hL : isL G this) {v : V3} {Q : Int32 → V3 → Prop} (hw : w_X1_waiterAt this a1 v Q) : Mz l yX1_waiterAt cX1_waiterAt 3 (some .int) 2 45 G [.ref (gad G this), .int a1] v (QiZ G Q) := by
  rw [w_X1_waiterAt] at hw
  refine z_ofW hg (by decide) (Nat.le_of_ble_eq_true rfl) ?_
  intro p e s m args below meth c ls C0 Z hl
  have hx := C0.1
  have hb := C0.2.1
  replace hl : lv_has ls 3 [(0, .ref (gad G this)), (1, .int a1)] := hl
  generalize s.heap = H at Z ⊢
  generalize ([] : List Loc) = locs at Z ⊢
  refine lv_aload_n hx hb dX1_waiterAt_0 rfl (lv_at hl 0 rfl) ?_
  refine z_callVi C0 Z hl.1 (As := []) (rest := []) (k_X1_queueUp l (cx_g C0) hL hw) (gv_X1_queueUp tm_2_231) rfl ds_X1_queueUp ⟨Nat.le_of_ble_eq_true rfl, Nat.le_of_ble_eq_true rfl⟩ (ci := 1) rfl (isL_lt0 hL) (ent_L hL) rfl rfl (Nat.le_of_ble_eq_true rfl) ⟨Nat.zero_le _, Nat.zero_le _⟩ dX1_waiterAt_1 (fun r2 v1 H locs hw Z => ?_)
  refine lv_istore_n (lv' := [(2, .int r2), (0, .ref (gad G this)), (1, .int a1)]) hx hb dX1_waiterAt_4 rfl hl (by decide) rfl (fun ls hl => ?_)
  refine lv_iload_n hx hb dX1_waiterAt_5 rfl (lv_at hl 2 rfl) ?_
  refine lv_if_lt (tgt := 23) hx hb dX1_waiterAt_6 (by decide) (fun c3 => ?_) (fun c3 => ?_)
  · replace hw := hw.1 c3
    exact b_X1_waiterAt_23 l hL C0 _ _ _ _ hw Z (lv_sub hl [] rfl)
  · replace hw := hw.2 c3
    refine lv_iload_n hx hb dX1_waiterAt_9 rfl (lv_at hl 2 rfl) ?_
    refine lv_iload_n hx hb dX1_waiterAt_10 rfl (lv_at hl 0 rfl) ?_
    refine lv_icmp_ge (tgt := 23) hx hb dX1_waiterAt_11 (by decide) (fun c4 => ?_) (fun c4 => ?_)
    · replace hw := hw.1 c4
      exact b_X1_waiterAt_23 l hL C0 _ _ _ _ hw Z (lv_sub hl [] rfl)
    · replace hw := hw.2 c4
      refine lv_aload_n hx hb dX1_waiterAt_14 rfl (lv_at hl 1 rfl) ?_
      refine z_get C0 Z in_X1 rfl 4 (by decide) rfl tm_1_54 (isL_lt0 hL) (ent_L hL) rfl dX1_waiterAt_15 ?_
      refine lv_iload_n hx hb dX1_waiterAt_18 rfl (lv_at hl 2 rfl) ?_
      obtain ⟨h5, hw⟩ := hw
      refine z_iald C0 Z (isL_lt hL 5 (by decide)) (ent_L5 hL) h5 dX1_waiterAt_19 ?_
      refine lv_goto (tgt := 24) hx hb dX1_waiterAt_20 (by decide) ?_
      exact b_X1_waiterAt_24 l hL C0 _ _ _ _ _ hw Z (lv_sub hl [] rfl)
-- X1_placeWaiting: room (3, 82)
theorem dX1_placeWaiting_0 : decode cX1_placeWaiting 0 = .ok (.aload_n 0, 1) := by decide +kernel
theorem dX1_placeWaiting_1 : decode cX1_placeWaiting 1 = .ok (.invokevirtual 114, 3) := by decide +kernel
theorem dX1_placeWaiting_4 : decode cX1_placeWaiting 4 = .ok (.istore_n 1, 1) := by decide +kernel
theorem dX1_placeWaiting_5 : decode cX1_placeWaiting 5 = .ok (.iconst 0, 1) := by decide +kernel
theorem dX1_placeWaiting_6 : decode cX1_placeWaiting 6 = .ok (.istore_n 2, 1) := by decide +kernel
theorem dX1_placeWaiting_7 : decode cX1_placeWaiting 7 = .ok (.iload_n 2, 1) := by decide +kernel
theorem dX1_placeWaiting_8 : decode cX1_placeWaiting 8 = .ok (.iload_n 1, 1) := by decide +kernel
theorem dX1_placeWaiting_9 : decode cX1_placeWaiting 9 = .ok (.if_icmp .ge 42, 3) := by decide +kernel
theorem dX1_placeWaiting_12 : decode cX1_placeWaiting 12 = .ok (.aload_n 0, 1) := by decide +kernel
theorem dX1_placeWaiting_13 : decode cX1_placeWaiting 13 = .ok (.aload_n 0, 1) := by decide +kernel
theorem dX1_placeWaiting_14 : decode cX1_placeWaiting 14 = .ok (.getfield 26, 3) := by decide +kernel
theorem dX1_placeWaiting_17 : decode cX1_placeWaiting 17 = .ok (.iload_n 2, 1) := by decide +kernel
theorem dX1_placeWaiting_18 : decode cX1_placeWaiting 18 = .ok (.iaload, 1) := by decide +kernel
theorem dX1_placeWaiting_19 : decode cX1_placeWaiting 19 = .ok (.aload_n 0, 1) := by decide +kernel
theorem dX1_placeWaiting_20 : decode cX1_placeWaiting 20 = .ok (.aload_n 0, 1) := by decide +kernel
theorem dX1_placeWaiting_21 : decode cX1_placeWaiting 21 = .ok (.getfield 26, 3) := by decide +kernel
theorem dX1_placeWaiting_24 : decode cX1_placeWaiting 24 = .ok (.iload_n 2, 1) := by decide +kernel
theorem dX1_placeWaiting_25 : decode cX1_placeWaiting 25 = .ok (.iaload, 1) := by decide +kernel
theorem dX1_placeWaiting_26 : decode cX1_placeWaiting 26 = .ok (.invokevirtual 78, 3) := by decide +kernel
theorem dX1_placeWaiting_29 : decode cX1_placeWaiting 29 = .ok (.invokevirtual 81, 3) := by decide +kernel
theorem dX1_placeWaiting_32 : decode cX1_placeWaiting 32 = .ok (.ifCond .eq 13, 3) := by decide +kernel
theorem dX1_placeWaiting_35 : decode cX1_placeWaiting 35 = .ok (.aload_n 0, 1) := by decide +kernel
theorem dX1_placeWaiting_36 : decode cX1_placeWaiting 36 = .ok (.getfield 23, 3) := by decide +kernel
theorem dX1_placeWaiting_39 : decode cX1_placeWaiting 39 = .ok (.iconst 2, 1) := by decide +kernel
theorem dX1_placeWaiting_40 : decode cX1_placeWaiting 40 = .ok (.dup2, 1) := by decide +kernel
theorem dX1_placeWaiting_41 : decode cX1_placeWaiting 41 = .ok (.iaload, 1) := by decide +kernel
theorem dX1_placeWaiting_42 : decode cX1_placeWaiting 42 = .ok (.iconst 1, 1) := by decide +kernel
theorem dX1_placeWaiting_43 : decode cX1_placeWaiting 43 = .ok (.iadd, 1) := by decide +kernel
theorem dX1_placeWaiting_44 : decode cX1_placeWaiting 44 = .ok (.iastore, 1) := by decide +kernel
theorem dX1_placeWaiting_45 : decode cX1_placeWaiting 45 = .ok (.iinc 2 1, 3) := by decide +kernel
theorem dX1_placeWaiting_48 : decode cX1_placeWaiting 48 = .ok (.goto (-41), 3) := by decide +kernel
theorem dX1_placeWaiting_51 : decode cX1_placeWaiting 51 = .ok (.return_, 1) := by decide +kernel
def w_X1_placeWaiting_45 (this : Nat) (Q : V3 → Prop) (K7 : Int32 → Int32 → V3 → Prop) (x1 : Int32) (x2 : Int32) (v : V3) : Prop := K7 x1 (x2 + 1) v
def w_X1_placeWaiting_7 (this : Nat) (Q : V3 → Prop) : Nat → Int32 → Int32 → V3 → Prop
  | 0, _, _, _ => False
  | n7 + 1, x1, x2, v => ((x1 ≤ x2 → Q v) ∧ (¬ x1 ≤ x2 → vp_in x2 40 ∧ vp_in x2 40 ∧ w_X1_bestTime this (v (this + 5) (ix x2)) v (fun r7 v6 => w_X1_bookAt this (v (this + 5) (ix x2)) r7 v6 (fun r9 v8 => ((r9 = 0 → w_X1_placeWaiting_45 this Q (w_X1_placeWaiting_7 this Q n7) x1 x2 v8) ∧ (¬ r9 = 0 → ∀ v11 : V3, v11 = up2 v8 (this + 4) 2 ((v8 (this + 4) 2) + 1) → w_X1_placeWaiting_45 this Q (w_X1_placeWaiting_7 this Q n7) x1 x2 v11))))))
def w_X1_placeWaiting (this : Nat) (v : V3) (Q : V3 → Prop) : Prop := w_X1_queueUp this v (fun r2 v1 => ∃ m7 : Nat, w_X1_placeWaiting_7 this Q m7 r2 0 v1)
set_option maxRecDepth 100000 in
set_option maxHeartbeats 4000000 in
theorem b_X1_placeWaiting_45 {p : Program} (l : Launch) {e : Env} {s : State} {m : MethodId} {args : Array Value} {below : List Frame} {meth : Method} {c : Code} {G : zG} {this : Nat} (hL : isL G this) (C0 : Cx G RX1 cX1_placeWaiting 3 none p s m args meth c) {Q : V3 → Prop} {K7 : Int32 → Int32 → V3 → Prop} (hK7 : ∀ (x1 : Int32) (x2 : Int32) (v : V3) (H : Heap) (locs : List Loc) (ls : Array Slot), K7 x1 x2 v → Zs G s v H locs → lv_has ls 3 [(0, .ref (gad G this)), (1, .int x1), (2, .int x2)] → W p l e { frames := 3, cells := 0, slots := 0, locals := 82 } s m args below meth c H locs 0 0 (MQ below (QvZ G Q) args s 0 0 (zA G)) (F0 m 7 ls [])) : ∀ (x1 : Int32) (x2 : Int32) (v : V3) (H : Heap) (locs : List Loc) (ls : Array Slot), w_X1_placeWaiting_45 this Q K7 x1 x2 v → Zs G s v H locs → lv_has ls 3 [(0, .ref (gad G this)), (1, .int x1), (2, .int x2)] → W p l e { frames := 3, cells := 0, slots := 0, locals := 82 } s m args below meth c H locs 0 0 (MQ below (QvZ G Q) args s 0 0 (zA G)) (F0 m 45 ls []) := by
  have hx := C0.1
  have hb := C0.2.1
  intro x1 x2 v H locs ls hw Z hl
  rw [w_X1_placeWaiting_45] at hw
  refine lv_iinc (v := x2 + 1) (lv' := [(2, .int (x2 + 1)), (0, .ref (gad G this)), (1, .int x1)]) hx hb dX1_placeWaiting_45 hl (k := 2) rfl rfl (by decide) rfl (fun ls hl => ?_)
  refine lv_goto (tgt := 7) hx hb dX1_placeWaiting_48 (by decide) ?_
  exact hK7 _ _ _ _ _ _ hw Z (lv_sub hl [1, 2, 0] rfl)
set_option maxRecDepth 100000 in
set_option maxHeartbeats 4000000 in
theorem b_X1_placeWaiting_7 {p : Program} (l : Launch) {e : Env} {s : State} {m : MethodId} {args : Array Value} {below : List Frame} {meth : Method} {c : Code} {G : zG} {this : Nat} (hL : isL G this) (C0 : Cx G RX1 cX1_placeWaiting 3 none p s m args meth c) {Q : V3 → Prop} : ∀ (n : Nat) (x1 : Int32) (x2 : Int32) (v : V3) (H : Heap) (locs : List Loc) (ls : Array Slot), w_X1_placeWaiting_7 this Q n x1 x2 v → Zs G s v H locs → lv_has ls 3 [(0, .ref (gad G this)), (1, .int x1), (2, .int x2)] → W p l e { frames := 3, cells := 0, slots := 0, locals := 82 } s m args below meth c H locs 0 0 (MQ below (QvZ G Q) args s 0 0 (zA G)) (F0 m 7 ls []) := by
  have hx := C0.1
  have hb := C0.2.1
  intro n
  induction n with
  | zero =>
    intro x1 x2 v H locs ls hw Z hl
    exact hw.elim
  | succ n hK7 =>
    intro x1 x2 v H locs ls hw Z hl
    rw [w_X1_placeWaiting_7] at hw
    refine lv_iload_n hx hb dX1_placeWaiting_7 rfl (lv_at hl 2 rfl) ?_
    refine lv_iload_n hx hb dX1_placeWaiting_8 rfl (lv_at hl 1 rfl) ?_
    refine lv_icmp_ge (tgt := 51) hx hb dX1_placeWaiting_9 (by decide) (fun c3 => ?_) (fun c3 => ?_)
    · replace hw := hw.1 c3
      exact z_vret C0 Z hw dX1_placeWaiting_51
    · replace hw := hw.2 c3
      refine lv_aload_n hx hb dX1_placeWaiting_12 rfl (lv_at hl 0 rfl) ?_
      refine lv_aload_n hx hb dX1_placeWaiting_13 rfl (lv_at hl 0 rfl) ?_
      refine z_get C0 Z in_X1 rfl 4 (by decide) rfl tm_1_54 (isL_lt0 hL) (ent_L hL) rfl dX1_placeWaiting_14 ?_
      refine lv_iload_n hx hb dX1_placeWaiting_17 rfl (lv_at hl 2 rfl) ?_
      obtain ⟨h4, hw⟩ := hw
      refine z_iald C0 Z (isL_lt hL 5 (by decide)) (ent_L5 hL) h4 dX1_placeWaiting_18 ?_
      refine lv_aload_n hx hb dX1_placeWaiting_19 rfl (lv_at hl 0 rfl) ?_
      refine lv_aload_n hx hb dX1_placeWaiting_20 rfl (lv_at hl 0 rfl) ?_
      refine z_get C0 Z in_X1 rfl 4 (by decide) rfl tm_1_54 (isL_lt0 hL) (ent_L hL) rfl dX1_placeWaiting_21 ?_
      refine lv_iload_n hx hb dX1_placeWaiting_24 rfl (lv_at hl 2 rfl) ?_
      obtain ⟨h5, hw⟩ := hw
      refine z_iald C0 Z (isL_lt hL 5 (by decide)) (ent_L5 hL) h5 dX1_placeWaiting_25 ?_
      refine z_callVi C0 Z hl.1 (As := [.int (v (this + 5) (ix x2))]) (rest := [.int (v (this + 5) (ix x2)), .ref (gad G this)]) (k_X1_bestTime l (cx_g C0) hL hw) (gv_X1_bestTime tm_2_105) rfl ds_X1_bestTime ⟨Nat.le_of_ble_eq_true rfl, Nat.le_of_ble_eq_true rfl⟩ (ci := 1) rfl (isL_lt0 hL) (ent_L hL) rfl rfl (Nat.le_of_ble_eq_true rfl) ⟨Nat.zero_le _, Nat.zero_le _⟩ dX1_placeWaiting_26 (fun r7 v6 H locs hw Z => ?_)
      refine z_callVi C0 Z hl.1 (As := [.int (v (this + 5) (ix x2)), .int r7]) (rest := []) (k_X1_bookAt l (cx_g C0) hL hw) (gv_X1_bookAt tm_2_124) rfl ds_X1_bookAt ⟨Nat.le_of_ble_eq_true rfl, Nat.le_of_ble_eq_true rfl⟩ (ci := 1) rfl (isL_lt0 hL) (ent_L hL) rfl rfl (Nat.le_of_ble_eq_true rfl) ⟨Nat.zero_le _, Nat.zero_le _⟩ dX1_placeWaiting_29 (fun r9 v8 H locs hw Z => ?_)
      refine lv_if_eq (tgt := 45) hx hb dX1_placeWaiting_32 (by decide) (fun c10 => ?_) (fun c10 => ?_)
      · replace hw := hw.1 c10
        exact b_X1_placeWaiting_45 l hL C0 hK7 _ _ _ _ _ _ hw Z (lv_sub hl [0, 1, 2] rfl)
      · replace hw := hw.2 c10
        refine lv_aload_n hx hb dX1_placeWaiting_35 rfl (lv_at hl 0 rfl) ?_
        refine z_get C0 Z in_X1 rfl 3 (by decide) rfl tm_1_52 (isL_lt0 hL) (ent_L hL) rfl dX1_placeWaiting_36 ?_
        refine lv_iconst (v := 2) hx hb dX1_placeWaiting_39 (by decide) ?_
        refine lv_dup2_11 hx hb dX1_placeWaiting_40 rfl rfl ?_
        refine z_ialdk C0 Z (isL_lt hL 4 (by decide)) (ent_L4 hL) in_2_4 nc_2 dX1_placeWaiting_41 ?_
        refine lv_iconst (v := 1) hx hb dX1_placeWaiting_42 (by decide) ?_
        refine lv_iadd hx hb dX1_placeWaiting_43 ?_
        refine z_iastk C0 Z (isL_lt hL 4 (by decide)) (fun _ => ent_L4 hL) in_2_4 nc_2 dX1_placeWaiting_44 (fun H locs Z => ?_)
        obtain ⟨v11, ev11⟩ : ∃ z : V3, z = up2 v8 (this + 4) 2 ((v8 (this + 4) 2) + 1) := ⟨_, rfl⟩
        rw [← ev11] at Z
        replace hw := hw v11 ev11
        exact b_X1_placeWaiting_45 l hL C0 hK7 _ _ _ _ _ _ hw Z (lv_sub hl [0, 1, 2] rfl)
set_option maxRecDepth 100000 in
set_option maxHeartbeats 4000000 in
theorem k_X1_placeWaiting (l : Launch) {G : zG} (hg : 129 ≤ gn G) {this : Nat} (hL : isL G this) {v : V3} {Q : V3 → Prop} (hw : w_X1_placeWaiting this v Q) : Mz l yX1_placeWaiting cX1_placeWaiting 3 none 3 82 G [.ref (gad G this)] v (QvZ G Q) := by
  rw [w_X1_placeWaiting] at hw
  refine z_ofW hg (by decide) (Nat.le_of_ble_eq_true rfl) ?_
  intro p e s m args below meth c ls C0 Z hl
  have hx := C0.1
  have hb := C0.2.1
  replace hl : lv_has ls 3 [(0, .ref (gad G this))] := hl
  generalize s.heap = H at Z ⊢
  generalize ([] : List Loc) = locs at Z ⊢
  refine lv_aload_n hx hb dX1_placeWaiting_0 rfl (lv_at hl 0 rfl) ?_
  refine z_callVi C0 Z hl.1 (As := []) (rest := []) (k_X1_queueUp l (cx_g C0) hL hw) (gv_X1_queueUp tm_2_231) rfl ds_X1_queueUp ⟨Nat.le_of_ble_eq_true rfl, Nat.le_of_ble_eq_true rfl⟩ (ci := 1) rfl (isL_lt0 hL) (ent_L hL) rfl rfl (Nat.le_of_ble_eq_true rfl) ⟨Nat.zero_le _, Nat.zero_le _⟩ dX1_placeWaiting_1 (fun r2 v1 H locs hw Z => ?_)
  refine lv_istore_n (lv' := [(1, .int r2), (0, .ref (gad G this))]) hx hb dX1_placeWaiting_4 rfl hl (by decide) rfl (fun ls hl => ?_)
  refine lv_iconst (v := 0) hx hb dX1_placeWaiting_5 (by decide) ?_
  refine lv_istore_n (lv' := [(2, .int 0), (1, .int r2), (0, .ref (gad G this))]) hx hb dX1_placeWaiting_6 rfl hl (by decide) rfl (fun ls hl => ?_)
  obtain ⟨m7, hw⟩ := hw
  exact b_X1_placeWaiting_7 l hL C0 m7 _ _ _ _ _ _ hw Z (lv_sub hl [2, 1, 0] rfl)
-- X1_finishHeld: room (0, 0)
theorem dX1_finishHeld_0 : decode cX1_finishHeld 0 = .ok (.iconst 0, 1) := by decide +kernel
theorem dX1_finishHeld_1 : decode cX1_finishHeld 1 = .ok (.istore_n 1, 1) := by decide +kernel
theorem dX1_finishHeld_2 : decode cX1_finishHeld 2 = .ok (.iconst 0, 1) := by decide +kernel
theorem dX1_finishHeld_3 : decode cX1_finishHeld 3 = .ok (.istore_n 2, 1) := by decide +kernel
theorem dX1_finishHeld_4 : decode cX1_finishHeld 4 = .ok (.iload_n 2, 1) := by decide +kernel
theorem dX1_finishHeld_5 : decode cX1_finishHeld 5 = .ok (.aload_n 0, 1) := by decide +kernel
theorem dX1_finishHeld_6 : decode cX1_finishHeld 6 = .ok (.getfield 43, 3) := by decide +kernel
theorem dX1_finishHeld_9 : decode cX1_finishHeld 9 = .ok (.if_icmp .ge 57, 3) := by decide +kernel
theorem dX1_finishHeld_12 : decode cX1_finishHeld 12 = .ok (.aload_n 0, 1) := by decide +kernel
theorem dX1_finishHeld_13 : decode cX1_finishHeld 13 = .ok (.getfield 20, 3) := by decide +kernel
theorem dX1_finishHeld_16 : decode cX1_finishHeld 16 = .ok (.iload_n 2, 1) := by decide +kernel
theorem dX1_finishHeld_17 : decode cX1_finishHeld 17 = .ok (.aaload, 1) := by decide +kernel
theorem dX1_finishHeld_18 : decode cX1_finishHeld 18 = .ok (.astore_n 3, 1) := by decide +kernel
theorem dX1_finishHeld_19 : decode cX1_finishHeld 19 = .ok (.aload_n 3, 1) := by decide +kernel
theorem dX1_finishHeld_20 : decode cX1_finishHeld 20 = .ok (.bipush 7, 2) := by decide +kernel
theorem dX1_finishHeld_22 : decode cX1_finishHeld 22 = .ok (.iaload, 1) := by decide +kernel
theorem dX1_finishHeld_23 : decode cX1_finishHeld 23 = .ok (.iconst 2, 1) := by decide +kernel
theorem dX1_finishHeld_24 : decode cX1_finishHeld 24 = .ok (.if_icmp .ne 36, 3) := by decide +kernel
theorem dX1_finishHeld_27 : decode cX1_finishHeld 27 = .ok (.aload_n 3, 1) := by decide +kernel
theorem dX1_finishHeld_28 : decode cX1_finishHeld 28 = .ok (.bipush 9, 2) := by decide +kernel
theorem dX1_finishHeld_30 : decode cX1_finishHeld 30 = .ok (.iaload, 1) := by decide +kernel
theorem dX1_finishHeld_31 : decode cX1_finishHeld 31 = .ok (.aload_n 0, 1) := by decide +kernel
theorem dX1_finishHeld_32 : decode cX1_finishHeld 32 = .ok (.getfield 37, 3) := by decide +kernel
theorem dX1_finishHeld_35 : decode cX1_finishHeld 35 = .ok (.if_icmp .gt 25, 3) := by decide +kernel
theorem dX1_finishHeld_38 : decode cX1_finishHeld 38 = .ok (.aload_n 3, 1) := by decide +kernel
theorem dX1_finishHeld_39 : decode cX1_finishHeld 39 = .ok (.bipush 7, 2) := by decide +kernel
theorem dX1_finishHeld_41 : decode cX1_finishHeld 41 = .ok (.iconst 3, 1) := by decide +kernel
theorem dX1_finishHeld_42 : decode cX1_finishHeld 42 = .ok (.iastore, 1) := by decide +kernel
theorem dX1_finishHeld_43 : decode cX1_finishHeld 43 = .ok (.aload_n 0, 1) := by decide +kernel
theorem dX1_finishHeld_44 : decode cX1_finishHeld 44 = .ok (.getfield 17, 3) := by decide +kernel
theorem dX1_finishHeld_47 : decode cX1_finishHeld 47 = .ok (.aload_n 3, 1) := by decide +kernel
theorem dX1_finishHeld_48 : decode cX1_finishHeld 48 = .ok (.iconst 0, 1) := by decide +kernel
theorem dX1_finishHeld_49 : decode cX1_finishHeld 49 = .ok (.iaload, 1) := by decide +kernel
theorem dX1_finishHeld_50 : decode cX1_finishHeld 50 = .ok (.aaload, 1) := by decide +kernel
theorem dX1_finishHeld_51 : decode cX1_finishHeld 51 = .ok (.iconst 1, 1) := by decide +kernel
theorem dX1_finishHeld_52 : decode cX1_finishHeld 52 = .ok (.dup2, 1) := by decide +kernel
theorem dX1_finishHeld_53 : decode cX1_finishHeld 53 = .ok (.iaload, 1) := by decide +kernel
theorem dX1_finishHeld_54 : decode cX1_finishHeld 54 = .ok (.iconst 1, 1) := by decide +kernel
theorem dX1_finishHeld_55 : decode cX1_finishHeld 55 = .ok (.iadd, 1) := by decide +kernel
theorem dX1_finishHeld_56 : decode cX1_finishHeld 56 = .ok (.iastore, 1) := by decide +kernel
theorem dX1_finishHeld_57 : decode cX1_finishHeld 57 = .ok (.iinc 1 1, 3) := by decide +kernel
theorem dX1_finishHeld_60 : decode cX1_finishHeld 60 = .ok (.iinc 2 1, 3) := by decide +kernel
theorem dX1_finishHeld_63 : decode cX1_finishHeld 63 = .ok (.goto (-59), 3) := by decide +kernel
theorem dX1_finishHeld_66 : decode cX1_finishHeld 66 = .ok (.aload_n 0, 1) := by decide +kernel
theorem dX1_finishHeld_67 : decode cX1_finishHeld 67 = .ok (.getfield 23, 3) := by decide +kernel
theorem dX1_finishHeld_70 : decode cX1_finishHeld 70 = .ok (.iconst 3, 1) := by decide +kernel
theorem dX1_finishHeld_71 : decode cX1_finishHeld 71 = .ok (.dup2, 1) := by decide +kernel
theorem dX1_finishHeld_72 : decode cX1_finishHeld 72 = .ok (.iaload, 1) := by decide +kernel
theorem dX1_finishHeld_73 : decode cX1_finishHeld 73 = .ok (.iload_n 1, 1) := by decide +kernel
theorem dX1_finishHeld_74 : decode cX1_finishHeld 74 = .ok (.iadd, 1) := by decide +kernel
theorem dX1_finishHeld_75 : decode cX1_finishHeld 75 = .ok (.iastore, 1) := by decide +kernel
theorem dX1_finishHeld_76 : decode cX1_finishHeld 76 = .ok (.iload_n 1, 1) := by decide +kernel
theorem dX1_finishHeld_77 : decode cX1_finishHeld 77 = .ok (.ireturn, 1) := by decide +kernel
def w_X1_finishHeld_60 (this : Nat) (Q : Int32 → V3 → Prop) (K4 : Int32 → Int32 → V3 → Prop) (x1 : Int32) (x2 : Int32) (v : V3) : Prop := K4 x1 (x2 + 1) v
def w_X1_finishHeld_4 (this : Nat) (Q : Int32 → V3 → Prop) : Nat → Int32 → Int32 → V3 → Prop
  | 0, _, _, _ => False
  | n4 + 1, x1, x2, v => (((v this 8) ≤ x2 → ∀ v2 : V3, v2 = up2 v (this + 4) 3 ((v (this + 4) 3) + x1) → Q x1 v2) ∧ (¬ (v this 8) ≤ x2 → vp_in x2 40 ∧ ((¬ (v (this + 14 + (ix x2)) 7) = 2 → w_X1_finishHeld_60 this Q (w_X1_finishHeld_4 this Q n4) x1 x2 v) ∧ ((v (this + 14 + (ix x2)) 7) = 2 → (((v this 6) < (v (this + 14 + (ix x2)) 9) → w_X1_finishHeld_60 this Q (w_X1_finishHeld_4 this Q n4) x1 x2 v) ∧ (¬ (v this 6) < (v (this + 14 + (ix x2)) 9) → ∀ v7 : V3, v7 = up2 v (this + 14 + (ix x2)) 7 3 → vp_in (v7 (this + 14 + (ix x2)) 0) 8 ∧ ∀ v10 : V3, v10 = up2 v7 (this + 6 + (ix (v7 (this + 14 + (ix x2)) 0))) 1 ((v7 (this + 6 + (ix (v7 (this + 14 + (ix x2)) 0))) 1) + 1) → w_X1_finishHeld_60 this Q (w_X1_finishHeld_4 this Q n4) (x1 + 1) x2 v10))))))
def w_X1_finishHeld (this : Nat) (v : V3) (Q : Int32 → V3 → Prop) : Prop := ∃ m4 : Nat, w_X1_finishHeld_4 this Q m4 0 0 v
set_option maxRecDepth 100000 in
set_option maxHeartbeats 4000000 in
theorem b_X1_finishHeld_60 {p : Program} (l : Launch) {e : Env} {s : State} {m : MethodId} {args : Array Value} {below : List Frame} {meth : Method} {c : Code} {G : zG} {this : Nat} (hL : isL G this) (C0 : Cx G RX1 cX1_finishHeld 4 (some .int) p s m args meth c) {Q : Int32 → V3 → Prop} {K4 : Int32 → Int32 → V3 → Prop} (hK4 : ∀ (x1 : Int32) (x2 : Int32) (v : V3) (H : Heap) (locs : List Loc) (ls : Array Slot), K4 x1 x2 v → Zs G s v H locs → lv_has ls 4 [(0, .ref (gad G this)), (1, .int x1), (2, .int x2)] → W p l e { frames := 0, cells := 0, slots := 0, locals := 0 } s m args below meth c H locs 0 0 (MQ below (QiZ G Q) args s 0 0 (zA G)) (F0 m 4 ls [])) : ∀ (x1 : Int32) (x2 : Int32) (v : V3) (H : Heap) (locs : List Loc) (ls : Array Slot), w_X1_finishHeld_60 this Q K4 x1 x2 v → Zs G s v H locs → lv_has ls 4 [(0, .ref (gad G this)), (1, .int x1), (2, .int x2)] → W p l e { frames := 0, cells := 0, slots := 0, locals := 0 } s m args below meth c H locs 0 0 (MQ below (QiZ G Q) args s 0 0 (zA G)) (F0 m 60 ls []) := by
  have hx := C0.1
  have hb := C0.2.1
  intro x1 x2 v H locs ls hw Z hl
  rw [w_X1_finishHeld_60] at hw
  refine lv_iinc (v := x2 + 1) (lv' := [(2, .int (x2 + 1)), (0, .ref (gad G this)), (1, .int x1)]) hx hb dX1_finishHeld_60 hl (k := 2) rfl rfl (by decide) rfl (fun ls hl => ?_)
  refine lv_goto (tgt := 4) hx hb dX1_finishHeld_63 (by decide) ?_
  exact hK4 _ _ _ _ _ _ hw Z (lv_sub hl [1, 2, 0] rfl)
set_option maxRecDepth 100000 in
set_option maxHeartbeats 4000000 in
theorem b_X1_finishHeld_4 {p : Program} (l : Launch) {e : Env} {s : State} {m : MethodId} {args : Array Value} {below : List Frame} {meth : Method} {c : Code} {G : zG} {this : Nat} (hL : isL G this) (C0 : Cx G RX1 cX1_finishHeld 4 (some .int) p s m args meth c) {Q : Int32 → V3 → Prop} : ∀ (n : Nat) (x1 : Int32) (x2 : Int32) (v : V3) (H : Heap) (locs : List Loc) (ls : Array Slot), w_X1_finishHeld_4 this Q n x1 x2 v → Zs G s v H locs → lv_has ls 4 [(0, .ref (gad G this)), (1, .int x1), (2, .int x2)] → W p l e { frames := 0, cells := 0, slots := 0, locals := 0 } s m args below meth c H locs 0 0 (MQ below (QiZ G Q) args s 0 0 (zA G)) (F0 m 4 ls []) := by
  have hx := C0.1
  have hb := C0.2.1
  intro n
  induction n with
  | zero =>
    intro x1 x2 v H locs ls hw Z hl
    exact hw.elim
  | succ n hK4 =>
    intro x1 x2 v H locs ls hw Z hl
    rw [w_X1_finishHeld_4] at hw
    refine lv_iload_n hx hb dX1_finishHeld_4 rfl (lv_at hl 2 rfl) ?_
    refine lv_aload_n hx hb dX1_finishHeld_5 rfl (lv_at hl 0 rfl) ?_
    refine z_get C0 Z in_X1 rfl 8 (by decide) rfl tm_1_64 (isL_lt0 hL) (ent_L hL) rfl dX1_finishHeld_6 ?_
    refine lv_icmp_ge (tgt := 66) hx hb dX1_finishHeld_9 (by decide) (fun c1 => ?_) (fun c1 => ?_)
    · replace hw := hw.1 c1
      refine lv_aload_n hx hb dX1_finishHeld_66 rfl (lv_at hl 0 rfl) ?_
      refine z_get C0 Z in_X1 rfl 3 (by decide) rfl tm_1_52 (isL_lt0 hL) (ent_L hL) rfl dX1_finishHeld_67 ?_
      refine lv_iconst (v := 3) hx hb dX1_finishHeld_70 (by decide) ?_
      refine lv_dup2_11 hx hb dX1_finishHeld_71 rfl rfl ?_
      refine z_ialdk C0 Z (isL_lt hL 4 (by decide)) (ent_L4 hL) in_3_4 nc_3 dX1_finishHeld_72 ?_
      refine lv_iload_n hx hb dX1_finishHeld_73 rfl (lv_at hl 1 rfl) ?_
      refine lv_iadd hx hb dX1_finishHeld_74 ?_
      refine z_iastk C0 Z (isL_lt hL 4 (by decide)) (fun _ => ent_L4 hL) in_3_4 nc_3 dX1_finishHeld_75 (fun H locs Z => ?_)
      obtain ⟨v2, ev2⟩ : ∃ z : V3, z = up2 v (this + 4) 3 ((v (this + 4) 3) + x1) := ⟨_, rfl⟩
      rw [← ev2] at Z
      replace hw := hw v2 ev2
      refine lv_iload_n hx hb dX1_finishHeld_76 rfl (lv_at hl 1 rfl) ?_
      exact z_iret C0 Z hw dX1_finishHeld_77
    · replace hw := hw.2 c1
      refine lv_aload_n hx hb dX1_finishHeld_12 rfl (lv_at hl 0 rfl) ?_
      refine z_get C0 Z in_X1 rfl 2 (by decide) rfl tm_1_49 (isL_lt0 hL) (ent_L hL) rfl dX1_finishHeld_13 ?_
      refine lv_iload_n hx hb dX1_finishHeld_16 rfl (lv_at hl 2 rfl) ?_
      obtain ⟨h3, hw⟩ := hw
      have h4 := vp_lt h3
      refine z_aald C0 Z (isL_lt hL 3 (by decide)) (ent_L3 hL) h3 dX1_finishHeld_17 ?_
      refine lv_astore_n (lv' := [(3, .ref (gad G (this + 14 + (ix x2)))), (0, .ref (gad G this)), (1, .int x1), (2, .int x2)]) hx hb dX1_finishHeld_18 rfl hl (by decide) rfl (fun ls hl => ?_)
      refine lv_aload_n hx hb dX1_finishHeld_19 rfl (lv_at hl 0 rfl) ?_
      refine lv_bipush (v := 7) hx hb dX1_finishHeld_20 (by decide) ?_
      refine z_ialdk C0 Z (isL_B hL h4) (ent_B hL h4) in_7_10 nc_7 dX1_finishHeld_22 ?_
      refine lv_iconst (v := 2) hx hb dX1_finishHeld_23 (by decide) ?_
      refine lv_icmp_ne (tgt := 60) hx hb dX1_finishHeld_24 (by decide) (fun c5 => ?_) (fun c5 => ?_)
      · replace hw := hw.1 c5
        exact b_X1_finishHeld_60 l hL C0 hK4 _ _ _ _ _ _ hw Z (lv_sub hl [1, 2, 3] rfl)
      · replace hw := hw.2 c5
        refine lv_aload_n hx hb dX1_finishHeld_27 rfl (lv_at hl 0 rfl) ?_
        refine lv_bipush (v := 9) hx hb dX1_finishHeld_28 (by decide) ?_
        refine z_ialdk C0 Z (isL_B hL h4) (ent_B hL h4) in_9_10 nc_9 dX1_finishHeld_30 ?_
        refine lv_aload_n hx hb dX1_finishHeld_31 rfl (lv_at hl 1 rfl) ?_
        refine z_get C0 Z in_X1 rfl 6 (by decide) rfl tm_1_58 (isL_lt0 hL) (ent_L hL) rfl dX1_finishHeld_32 ?_
        refine lv_icmp_gt (tgt := 60) hx hb dX1_finishHeld_35 (by decide) (fun c6 => ?_) (fun c6 => ?_)
        · replace hw := hw.1 c6
          exact b_X1_finishHeld_60 l hL C0 hK4 _ _ _ _ _ _ hw Z (lv_sub hl [1, 2, 3] rfl)
        · replace hw := hw.2 c6
          refine lv_aload_n hx hb dX1_finishHeld_38 rfl (lv_at hl 0 rfl) ?_
          refine lv_bipush (v := 7) hx hb dX1_finishHeld_39 (by decide) ?_
          refine lv_iconst (v := 3) hx hb dX1_finishHeld_41 (by decide) ?_
          refine z_iastk C0 Z (isL_B hL h4) (fun _ => ent_B hL h4) in_7_10 nc_7 dX1_finishHeld_42 (fun H locs Z => ?_)
          obtain ⟨v7, ev7⟩ : ∃ z : V3, z = up2 v (this + 14 + (ix x2)) 7 3 := ⟨_, rfl⟩
          rw [← ev7] at Z
          replace hw := hw v7 ev7
          refine lv_aload_n hx hb dX1_finishHeld_43 rfl (lv_at hl 1 rfl) ?_
          refine z_get C0 Z in_X1 rfl 1 (by decide) rfl tm_1_46 (isL_lt0 hL) (ent_L hL) rfl dX1_finishHeld_44 ?_
          refine lv_aload_n hx hb dX1_finishHeld_47 rfl (lv_at hl 0 rfl) ?_
          refine lv_iconst (v := 0) hx hb dX1_finishHeld_48 (by decide) ?_
          refine z_ialdk C0 Z (isL_B hL h4) (ent_B hL h4) in_0_10 nc_0 dX1_finishHeld_49 ?_
          obtain ⟨h8, hw⟩ := hw
          have h9 := vp_lt h8
          refine z_aald C0 Z (isL_lt hL 2 (by decide)) (ent_L2 hL) h8 dX1_finishHeld_50 ?_
          refine lv_iconst (v := 1) hx hb dX1_finishHeld_51 (by decide) ?_
          refine lv_dup2_11 hx hb dX1_finishHeld_52 rfl rfl ?_
          refine z_ialdk C0 Z (isL_O hL h9) (ent_O hL h9) in_1_8 nc_1 dX1_finishHeld_53 ?_
          refine lv_iconst (v := 1) hx hb dX1_finishHeld_54 (by decide) ?_
          refine lv_iadd hx hb dX1_finishHeld_55 ?_
          refine z_iastk C0 Z (isL_O hL h9) (fun _ => ent_O hL h9) in_1_8 nc_1 dX1_finishHeld_56 (fun H locs Z => ?_)
          obtain ⟨v10, ev10⟩ : ∃ z : V3, z = up2 v7 (this + 6 + (ix (v7 (this + 14 + (ix x2)) 0))) 1 ((v7 (this + 6 + (ix (v7 (this + 14 + (ix x2)) 0))) 1) + 1) := ⟨_, rfl⟩
          rw [← ev10] at Z
          replace hw := hw v10 ev10
          refine lv_iinc (v := x1 + 1) (lv' := [(1, .int (x1 + 1)), (3, .ref (gad G (this + 14 + (ix x2)))), (0, .ref (gad G this)), (2, .int x2)]) hx hb dX1_finishHeld_57 hl (k := 2) rfl rfl (by decide) rfl (fun ls hl => ?_)
          exact b_X1_finishHeld_60 l hL C0 hK4 _ _ _ _ _ _ hw Z (lv_sub hl [2, 0, 3] rfl)
set_option maxRecDepth 100000 in
set_option maxHeartbeats 4000000 in
theorem k_X1_finishHeld (l : Launch) {G : zG} (hg : 129 ≤ gn G) {this : Nat} (hL : isL G this) {v : V3} {Q : Int32 → V3 → Prop} (hw : w_X1_finishHeld this v Q) : Mz l yX1_finishHeld cX1_finishHeld 4 (some .int) 0 0 G [.ref (gad G this)] v (QiZ G Q) := by
  rw [w_X1_finishHeld] at hw
  refine z_ofW hg (by decide) (Nat.le_of_ble_eq_true rfl) ?_
  intro p e s m args below meth c ls C0 Z hl
  have hx := C0.1
  have hb := C0.2.1
  replace hl : lv_has ls 4 [(0, .ref (gad G this))] := hl
  generalize s.heap = H at Z ⊢
  generalize ([] : List Loc) = locs at Z ⊢
  refine lv_iconst (v := 0) hx hb dX1_finishHeld_0 (by decide) ?_
  refine lv_istore_n (lv' := [(1, .int 0), (0, .ref (gad G this))]) hx hb dX1_finishHeld_1 rfl hl (by decide) rfl (fun ls hl => ?_)
  refine lv_iconst (v := 0) hx hb dX1_finishHeld_2 (by decide) ?_
  refine lv_istore_n (lv' := [(2, .int 0), (1, .int 0), (0, .ref (gad G this))]) hx hb dX1_finishHeld_3 rfl hl (by decide) rfl (fun ls hl => ?_)
  obtain ⟨m4, hw⟩ := hw
  exact b_X1_finishHeld_4 l hL C0 m4 _ _ _ _ _ _ hw Z (lv_sub hl [2, 1, 0] rfl)
-- X1_bumpLate: room (0, 0)
theorem dX1_bumpLate_0 : decode cX1_bumpLate 0 = .ok (.iconst 0, 1) := by decide +kernel
theorem dX1_bumpLate_1 : decode cX1_bumpLate 1 = .ok (.istore_n 1, 1) := by decide +kernel
theorem dX1_bumpLate_2 : decode cX1_bumpLate 2 = .ok (.iconst 0, 1) := by decide +kernel
theorem dX1_bumpLate_3 : decode cX1_bumpLate 3 = .ok (.istore_n 2, 1) := by decide +kernel
theorem dX1_bumpLate_4 : decode cX1_bumpLate 4 = .ok (.iload_n 2, 1) := by decide +kernel
theorem dX1_bumpLate_5 : decode cX1_bumpLate 5 = .ok (.aload_n 0, 1) := by decide +kernel
theorem dX1_bumpLate_6 : decode cX1_bumpLate 6 = .ok (.getfield 43, 3) := by decide +kernel
theorem dX1_bumpLate_9 : decode cX1_bumpLate 9 = .ok (.if_icmp .ge 64, 3) := by decide +kernel
theorem dX1_bumpLate_12 : decode cX1_bumpLate 12 = .ok (.aload_n 0, 1) := by decide +kernel
theorem dX1_bumpLate_13 : decode cX1_bumpLate 13 = .ok (.getfield 20, 3) := by decide +kernel
theorem dX1_bumpLate_16 : decode cX1_bumpLate 16 = .ok (.iload_n 2, 1) := by decide +kernel
theorem dX1_bumpLate_17 : decode cX1_bumpLate 17 = .ok (.aaload, 1) := by decide +kernel
theorem dX1_bumpLate_18 : decode cX1_bumpLate 18 = .ok (.astore_n 3, 1) := by decide +kernel
theorem dX1_bumpLate_19 : decode cX1_bumpLate 19 = .ok (.aload_n 3, 1) := by decide +kernel
theorem dX1_bumpLate_20 : decode cX1_bumpLate 20 = .ok (.bipush 7, 2) := by decide +kernel
theorem dX1_bumpLate_22 : decode cX1_bumpLate 22 = .ok (.iaload, 1) := by decide +kernel
theorem dX1_bumpLate_23 : decode cX1_bumpLate 23 = .ok (.iconst 1, 1) := by decide +kernel
theorem dX1_bumpLate_24 : decode cX1_bumpLate 24 = .ok (.if_icmp .ne 43, 3) := by decide +kernel
theorem dX1_bumpLate_27 : decode cX1_bumpLate 27 = .ok (.aload_n 3, 1) := by decide +kernel
theorem dX1_bumpLate_28 : decode cX1_bumpLate 28 = .ok (.bipush 8, 2) := by decide +kernel
theorem dX1_bumpLate_30 : decode cX1_bumpLate 30 = .ok (.iaload, 1) := by decide +kernel
theorem dX1_bumpLate_31 : decode cX1_bumpLate 31 = .ok (.aload_n 0, 1) := by decide +kernel
theorem dX1_bumpLate_32 : decode cX1_bumpLate 32 = .ok (.getfield 9, 3) := by decide +kernel
theorem dX1_bumpLate_35 : decode cX1_bumpLate 35 = .ok (.iconst 0, 1) := by decide +kernel
theorem dX1_bumpLate_36 : decode cX1_bumpLate 36 = .ok (.iaload, 1) := by decide +kernel
theorem dX1_bumpLate_37 : decode cX1_bumpLate 37 = .ok (.iadd, 1) := by decide +kernel
theorem dX1_bumpLate_38 : decode cX1_bumpLate 38 = .ok (.aload_n 0, 1) := by decide +kernel
theorem dX1_bumpLate_39 : decode cX1_bumpLate 39 = .ok (.getfield 37, 3) := by decide +kernel
theorem dX1_bumpLate_42 : decode cX1_bumpLate 42 = .ok (.if_icmp .ge 25, 3) := by decide +kernel
theorem dX1_bumpLate_45 : decode cX1_bumpLate 45 = .ok (.aload_n 3, 1) := by decide +kernel
theorem dX1_bumpLate_46 : decode cX1_bumpLate 46 = .ok (.bipush 7, 2) := by decide +kernel
theorem dX1_bumpLate_48 : decode cX1_bumpLate 48 = .ok (.iconst 5, 1) := by decide +kernel
theorem dX1_bumpLate_49 : decode cX1_bumpLate 49 = .ok (.iastore, 1) := by decide +kernel
theorem dX1_bumpLate_50 : decode cX1_bumpLate 50 = .ok (.aload_n 0, 1) := by decide +kernel
theorem dX1_bumpLate_51 : decode cX1_bumpLate 51 = .ok (.getfield 17, 3) := by decide +kernel
theorem dX1_bumpLate_54 : decode cX1_bumpLate 54 = .ok (.aload_n 3, 1) := by decide +kernel
theorem dX1_bumpLate_55 : decode cX1_bumpLate 55 = .ok (.iconst 0, 1) := by decide +kernel
theorem dX1_bumpLate_56 : decode cX1_bumpLate 56 = .ok (.iaload, 1) := by decide +kernel
theorem dX1_bumpLate_57 : decode cX1_bumpLate 57 = .ok (.aaload, 1) := by decide +kernel
theorem dX1_bumpLate_58 : decode cX1_bumpLate 58 = .ok (.iconst 2, 1) := by decide +kernel
theorem dX1_bumpLate_59 : decode cX1_bumpLate 59 = .ok (.dup2, 1) := by decide +kernel
theorem dX1_bumpLate_60 : decode cX1_bumpLate 60 = .ok (.iaload, 1) := by decide +kernel
theorem dX1_bumpLate_61 : decode cX1_bumpLate 61 = .ok (.iconst 1, 1) := by decide +kernel
theorem dX1_bumpLate_62 : decode cX1_bumpLate 62 = .ok (.iadd, 1) := by decide +kernel
theorem dX1_bumpLate_63 : decode cX1_bumpLate 63 = .ok (.iastore, 1) := by decide +kernel
theorem dX1_bumpLate_64 : decode cX1_bumpLate 64 = .ok (.iinc 1 1, 3) := by decide +kernel
theorem dX1_bumpLate_67 : decode cX1_bumpLate 67 = .ok (.iinc 2 1, 3) := by decide +kernel
theorem dX1_bumpLate_70 : decode cX1_bumpLate 70 = .ok (.goto (-66), 3) := by decide +kernel
theorem dX1_bumpLate_73 : decode cX1_bumpLate 73 = .ok (.aload_n 0, 1) := by decide +kernel
theorem dX1_bumpLate_74 : decode cX1_bumpLate 74 = .ok (.getfield 23, 3) := by decide +kernel
theorem dX1_bumpLate_77 : decode cX1_bumpLate 77 = .ok (.iconst 0, 1) := by decide +kernel
theorem dX1_bumpLate_78 : decode cX1_bumpLate 78 = .ok (.dup2, 1) := by decide +kernel
theorem dX1_bumpLate_79 : decode cX1_bumpLate 79 = .ok (.iaload, 1) := by decide +kernel
theorem dX1_bumpLate_80 : decode cX1_bumpLate 80 = .ok (.iload_n 1, 1) := by decide +kernel
theorem dX1_bumpLate_81 : decode cX1_bumpLate 81 = .ok (.iadd, 1) := by decide +kernel
theorem dX1_bumpLate_82 : decode cX1_bumpLate 82 = .ok (.iastore, 1) := by decide +kernel
theorem dX1_bumpLate_83 : decode cX1_bumpLate 83 = .ok (.iload_n 1, 1) := by decide +kernel
theorem dX1_bumpLate_84 : decode cX1_bumpLate 84 = .ok (.ireturn, 1) := by decide +kernel
def w_X1_bumpLate_67 (this : Nat) (Q : Int32 → V3 → Prop) (K4 : Int32 → Int32 → V3 → Prop) (x1 : Int32) (x2 : Int32) (v : V3) : Prop := K4 x1 (x2 + 1) v
def w_X1_bumpLate_4 (this : Nat) (Q : Int32 → V3 → Prop) : Nat → Int32 → Int32 → V3 → Prop
  | 0, _, _, _ => False
  | n4 + 1, x1, x2, v => (((v this 8) ≤ x2 → ∀ v2 : V3, v2 = up2 v (this + 4) 0 ((v (this + 4) 0) + x1) → Q x1 v2) ∧ (¬ (v this 8) ≤ x2 → vp_in x2 40 ∧ ((¬ (v (this + 14 + (ix x2)) 7) = 1 → w_X1_bumpLate_67 this Q (w_X1_bumpLate_4 this Q n4) x1 x2 v) ∧ ((v (this + 14 + (ix x2)) 7) = 1 → (((v this 6) ≤ ((v (this + 14 + (ix x2)) 8) + (v (this + 1) 0)) → w_X1_bumpLate_67 this Q (w_X1_bumpLate_4 this Q n4) x1 x2 v) ∧ (¬ (v this 6) ≤ ((v (this + 14 + (ix x2)) 8) + (v (this + 1) 0)) → ∀ v7 : V3, v7 = up2 v (this + 14 + (ix x2)) 7 5 → vp_in (v7 (this + 14 + (ix x2)) 0) 8 ∧ ∀ v10 : V3, v10 = up2 v7 (this + 6 + (ix (v7 (this + 14 + (ix x2)) 0))) 2 ((v7 (this + 6 + (ix (v7 (this + 14 + (ix x2)) 0))) 2) + 1) → w_X1_bumpLate_67 this Q (w_X1_bumpLate_4 this Q n4) (x1 + 1) x2 v10))))))
def w_X1_bumpLate (this : Nat) (v : V3) (Q : Int32 → V3 → Prop) : Prop := ∃ m4 : Nat, w_X1_bumpLate_4 this Q m4 0 0 v
set_option maxRecDepth 100000 in
set_option maxHeartbeats 4000000 in
theorem b_X1_bumpLate_67 {p : Program} (l : Launch) {e : Env} {s : State} {m : MethodId} {args : Array Value} {below : List Frame} {meth : Method} {c : Code} {G : zG} {this : Nat} (hL : isL G this) (C0 : Cx G RX1 cX1_bumpLate 4 (some .int) p s m args meth c) {Q : Int32 → V3 → Prop} {K4 : Int32 → Int32 → V3 → Prop} (hK4 : ∀ (x1 : Int32) (x2 : Int32) (v : V3) (H : Heap) (locs : List Loc) (ls : Array Slot), K4 x1 x2 v → Zs G s v H locs → lv_has ls 4 [(0, .ref (gad G this)), (1, .int x1), (2, .int x2)] → W p l e { frames := 0, cells := 0, slots := 0, locals := 0 } s m args below meth c H locs 0 0 (MQ below (QiZ G Q) args s 0 0 (zA G)) (F0 m 4 ls [])) : ∀ (x1 : Int32) (x2 : Int32) (v : V3) (H : Heap) (locs : List Loc) (ls : Array Slot), w_X1_bumpLate_67 this Q K4 x1 x2 v → Zs G s v H locs → lv_has ls 4 [(0, .ref (gad G this)), (1, .int x1), (2, .int x2)] → W p l e { frames := 0, cells := 0, slots := 0, locals := 0 } s m args below meth c H locs 0 0 (MQ below (QiZ G Q) args s 0 0 (zA G)) (F0 m 67 ls []) := by
  have hx := C0.1
  have hb := C0.2.1
  intro x1 x2 v H locs ls hw Z hl
  rw [w_X1_bumpLate_67] at hw
  refine lv_iinc (v := x2 + 1) (lv' := [(2, .int (x2 + 1)), (0, .ref (gad G this)), (1, .int x1)]) hx hb dX1_bumpLate_67 hl (k := 2) rfl rfl (by decide) rfl (fun ls hl => ?_)
  refine lv_goto (tgt := 4) hx hb dX1_bumpLate_70 (by decide) ?_
  exact hK4 _ _ _ _ _ _ hw Z (lv_sub hl [1, 2, 0] rfl)
set_option maxRecDepth 100000 in
set_option maxHeartbeats 4000000 in
theorem b_X1_bumpLate_4 {p : Program} (l : Launch) {e : Env} {s : State} {m : MethodId} {args : Array Value} {below : List Frame} {meth : Method} {c : Code} {G : zG} {this : Nat} (hL : isL G this) (C0 : Cx G RX1 cX1_bumpLate 4 (some .int) p s m args meth c) {Q : Int32 → V3 → Prop} : ∀ (n : Nat) (x1 : Int32) (x2 : Int32) (v : V3) (H : Heap) (locs : List Loc) (ls : Array Slot), w_X1_bumpLate_4 this Q n x1 x2 v → Zs G s v H locs → lv_has ls 4 [(0, .ref (gad G this)), (1, .int x1), (2, .int x2)] → W p l e { frames := 0, cells := 0, slots := 0, locals := 0 } s m args below meth c H locs 0 0 (MQ below (QiZ G Q) args s 0 0 (zA G)) (F0 m 4 ls []) := by
  have hx := C0.1
  have hb := C0.2.1
  intro n
  induction n with
  | zero =>
    intro x1 x2 v H locs ls hw Z hl
    exact hw.elim
  | succ n hK4 =>
    intro x1 x2 v H locs ls hw Z hl
    rw [w_X1_bumpLate_4] at hw
    refine lv_iload_n hx hb dX1_bumpLate_4 rfl (lv_at hl 2 rfl) ?_
    refine lv_aload_n hx hb dX1_bumpLate_5 rfl (lv_at hl 0 rfl) ?_
    refine z_get C0 Z in_X1 rfl 8 (by decide) rfl tm_1_64 (isL_lt0 hL) (ent_L hL) rfl dX1_bumpLate_6 ?_
    refine lv_icmp_ge (tgt := 73) hx hb dX1_bumpLate_9 (by decide) (fun c1 => ?_) (fun c1 => ?_)
    · replace hw := hw.1 c1
      refine lv_aload_n hx hb dX1_bumpLate_73 rfl (lv_at hl 0 rfl) ?_
      refine z_get C0 Z in_X1 rfl 3 (by decide) rfl tm_1_52 (isL_lt0 hL) (ent_L hL) rfl dX1_bumpLate_74 ?_
      refine lv_iconst (v := 0) hx hb dX1_bumpLate_77 (by decide) ?_
      refine lv_dup2_11 hx hb dX1_bumpLate_78 rfl rfl ?_
      refine z_ialdk C0 Z (isL_lt hL 4 (by decide)) (ent_L4 hL) in_0_4 nc_0 dX1_bumpLate_79 ?_
      refine lv_iload_n hx hb dX1_bumpLate_80 rfl (lv_at hl 1 rfl) ?_
      refine lv_iadd hx hb dX1_bumpLate_81 ?_
      refine z_iastk C0 Z (isL_lt hL 4 (by decide)) (fun _ => ent_L4 hL) in_0_4 nc_0 dX1_bumpLate_82 (fun H locs Z => ?_)
      obtain ⟨v2, ev2⟩ : ∃ z : V3, z = up2 v (this + 4) 0 ((v (this + 4) 0) + x1) := ⟨_, rfl⟩
      rw [← ev2] at Z
      replace hw := hw v2 ev2
      refine lv_iload_n hx hb dX1_bumpLate_83 rfl (lv_at hl 1 rfl) ?_
      exact z_iret C0 Z hw dX1_bumpLate_84
    · replace hw := hw.2 c1
      refine lv_aload_n hx hb dX1_bumpLate_12 rfl (lv_at hl 0 rfl) ?_
      refine z_get C0 Z in_X1 rfl 2 (by decide) rfl tm_1_49 (isL_lt0 hL) (ent_L hL) rfl dX1_bumpLate_13 ?_
      refine lv_iload_n hx hb dX1_bumpLate_16 rfl (lv_at hl 2 rfl) ?_
      obtain ⟨h3, hw⟩ := hw
      have h4 := vp_lt h3
      refine z_aald C0 Z (isL_lt hL 3 (by decide)) (ent_L3 hL) h3 dX1_bumpLate_17 ?_
      refine lv_astore_n (lv' := [(3, .ref (gad G (this + 14 + (ix x2)))), (0, .ref (gad G this)), (1, .int x1), (2, .int x2)]) hx hb dX1_bumpLate_18 rfl hl (by decide) rfl (fun ls hl => ?_)
      refine lv_aload_n hx hb dX1_bumpLate_19 rfl (lv_at hl 0 rfl) ?_
      refine lv_bipush (v := 7) hx hb dX1_bumpLate_20 (by decide) ?_
      refine z_ialdk C0 Z (isL_B hL h4) (ent_B hL h4) in_7_10 nc_7 dX1_bumpLate_22 ?_
      refine lv_iconst (v := 1) hx hb dX1_bumpLate_23 (by decide) ?_
      refine lv_icmp_ne (tgt := 67) hx hb dX1_bumpLate_24 (by decide) (fun c5 => ?_) (fun c5 => ?_)
      · replace hw := hw.1 c5
        exact b_X1_bumpLate_67 l hL C0 hK4 _ _ _ _ _ _ hw Z (lv_sub hl [1, 2, 3] rfl)
      · replace hw := hw.2 c5
        refine lv_aload_n hx hb dX1_bumpLate_27 rfl (lv_at hl 0 rfl) ?_
        refine lv_bipush (v := 8) hx hb dX1_bumpLate_28 (by decide) ?_
        refine z_ialdk C0 Z (isL_B hL h4) (ent_B hL h4) in_8_10 nc_8 dX1_bumpLate_30 ?_
        refine lv_aload_n hx hb dX1_bumpLate_31 rfl (lv_at hl 1 rfl) ?_
        refine z_get C0 Z in_X1 rfl 0 (by decide) rfl tm_1_43 (isL_lt0 hL) (ent_L hL) rfl dX1_bumpLate_32 ?_
        refine lv_iconst (v := 0) hx hb dX1_bumpLate_35 (by decide) ?_
        refine z_ialdk C0 Z (isL_lt hL 1 (by decide)) (ent_L1 hL) in_0_4 nc_0 dX1_bumpLate_36 ?_
        refine lv_iadd hx hb dX1_bumpLate_37 ?_
        refine lv_aload_n hx hb dX1_bumpLate_38 rfl (lv_at hl 1 rfl) ?_
        refine z_get C0 Z in_X1 rfl 6 (by decide) rfl tm_1_58 (isL_lt0 hL) (ent_L hL) rfl dX1_bumpLate_39 ?_
        refine lv_icmp_ge (tgt := 67) hx hb dX1_bumpLate_42 (by decide) (fun c6 => ?_) (fun c6 => ?_)
        · replace hw := hw.1 c6
          exact b_X1_bumpLate_67 l hL C0 hK4 _ _ _ _ _ _ hw Z (lv_sub hl [1, 2, 3] rfl)
        · replace hw := hw.2 c6
          refine lv_aload_n hx hb dX1_bumpLate_45 rfl (lv_at hl 0 rfl) ?_
          refine lv_bipush (v := 7) hx hb dX1_bumpLate_46 (by decide) ?_
          refine lv_iconst (v := 5) hx hb dX1_bumpLate_48 (by decide) ?_
          refine z_iastk C0 Z (isL_B hL h4) (fun _ => ent_B hL h4) in_7_10 nc_7 dX1_bumpLate_49 (fun H locs Z => ?_)
          obtain ⟨v7, ev7⟩ : ∃ z : V3, z = up2 v (this + 14 + (ix x2)) 7 5 := ⟨_, rfl⟩
          rw [← ev7] at Z
          replace hw := hw v7 ev7
          refine lv_aload_n hx hb dX1_bumpLate_50 rfl (lv_at hl 1 rfl) ?_
          refine z_get C0 Z in_X1 rfl 1 (by decide) rfl tm_1_46 (isL_lt0 hL) (ent_L hL) rfl dX1_bumpLate_51 ?_
          refine lv_aload_n hx hb dX1_bumpLate_54 rfl (lv_at hl 0 rfl) ?_
          refine lv_iconst (v := 0) hx hb dX1_bumpLate_55 (by decide) ?_
          refine z_ialdk C0 Z (isL_B hL h4) (ent_B hL h4) in_0_10 nc_0 dX1_bumpLate_56 ?_
          obtain ⟨h8, hw⟩ := hw
          have h9 := vp_lt h8
          refine z_aald C0 Z (isL_lt hL 2 (by decide)) (ent_L2 hL) h8 dX1_bumpLate_57 ?_
          refine lv_iconst (v := 2) hx hb dX1_bumpLate_58 (by decide) ?_
          refine lv_dup2_11 hx hb dX1_bumpLate_59 rfl rfl ?_
          refine z_ialdk C0 Z (isL_O hL h9) (ent_O hL h9) in_2_8 nc_2 dX1_bumpLate_60 ?_
          refine lv_iconst (v := 1) hx hb dX1_bumpLate_61 (by decide) ?_
          refine lv_iadd hx hb dX1_bumpLate_62 ?_
          refine z_iastk C0 Z (isL_O hL h9) (fun _ => ent_O hL h9) in_2_8 nc_2 dX1_bumpLate_63 (fun H locs Z => ?_)
          obtain ⟨v10, ev10⟩ : ∃ z : V3, z = up2 v7 (this + 6 + (ix (v7 (this + 14 + (ix x2)) 0))) 2 ((v7 (this + 6 + (ix (v7 (this + 14 + (ix x2)) 0))) 2) + 1) := ⟨_, rfl⟩
          rw [← ev10] at Z
          replace hw := hw v10 ev10
          refine lv_iinc (v := x1 + 1) (lv' := [(1, .int (x1 + 1)), (3, .ref (gad G (this + 14 + (ix x2)))), (0, .ref (gad G this)), (2, .int x2)]) hx hb dX1_bumpLate_64 hl (k := 2) rfl rfl (by decide) rfl (fun ls hl => ?_)
          exact b_X1_bumpLate_67 l hL C0 hK4 _ _ _ _ _ _ hw Z (lv_sub hl [2, 0, 3] rfl)
set_option maxRecDepth 100000 in
set_option maxHeartbeats 4000000 in
theorem k_X1_bumpLate (l : Launch) {G : zG} (hg : 129 ≤ gn G) {this : Nat} (hL : isL G this) {v : V3} {Q : Int32 → V3 → Prop} (hw : w_X1_bumpLate this v Q) : Mz l yX1_bumpLate cX1_bumpLate 4 (some .int) 0 0 G [.ref (gad G this)] v (QiZ G Q) := by
  rw [w_X1_bumpLate] at hw
  refine z_ofW hg (by decide) (Nat.le_of_ble_eq_true rfl) ?_
  intro p e s m args below meth c ls C0 Z hl
  have hx := C0.1
  have hb := C0.2.1
  replace hl : lv_has ls 4 [(0, .ref (gad G this))] := hl
  generalize s.heap = H at Z ⊢
  generalize ([] : List Loc) = locs at Z ⊢
  refine lv_iconst (v := 0) hx hb dX1_bumpLate_0 (by decide) ?_
  refine lv_istore_n (lv' := [(1, .int 0), (0, .ref (gad G this))]) hx hb dX1_bumpLate_1 rfl hl (by decide) rfl (fun ls hl => ?_)
  refine lv_iconst (v := 0) hx hb dX1_bumpLate_2 (by decide) ?_
  refine lv_istore_n (lv' := [(2, .int 0), (1, .int 0), (0, .ref (gad G this))]) hx hb dX1_bumpLate_3 rfl hl (by decide) rfl (fun ls hl => ?_)
  obtain ⟨m4, hw⟩ := hw
  exact b_X1_bumpLate_4 l hL C0 m4 _ _ _ _ _ _ hw Z (lv_sub hl [2, 1, 0] rfl)
-- X1_expireWaiting: room (0, 0)
theorem dX1_expireWaiting_0 : decode cX1_expireWaiting 0 = .ok (.iconst 0, 1) := by decide +kernel
theorem dX1_expireWaiting_1 : decode cX1_expireWaiting 1 = .ok (.istore_n 1, 1) := by decide +kernel
theorem dX1_expireWaiting_2 : decode cX1_expireWaiting 2 = .ok (.iload_n 1, 1) := by decide +kernel
theorem dX1_expireWaiting_3 : decode cX1_expireWaiting 3 = .ok (.aload_n 0, 1) := by decide +kernel
theorem dX1_expireWaiting_4 : decode cX1_expireWaiting 4 = .ok (.getfield 43, 3) := by decide +kernel
theorem dX1_expireWaiting_7 : decode cX1_expireWaiting 7 = .ok (.if_icmp .ge 67, 3) := by decide +kernel
theorem dX1_expireWaiting_10 : decode cX1_expireWaiting 10 = .ok (.aload_n 0, 1) := by decide +kernel
theorem dX1_expireWaiting_11 : decode cX1_expireWaiting 11 = .ok (.getfield 20, 3) := by decide +kernel
theorem dX1_expireWaiting_14 : decode cX1_expireWaiting 14 = .ok (.iload_n 1, 1) := by decide +kernel
theorem dX1_expireWaiting_15 : decode cX1_expireWaiting 15 = .ok (.aaload, 1) := by decide +kernel
theorem dX1_expireWaiting_16 : decode cX1_expireWaiting 16 = .ok (.astore_n 2, 1) := by decide +kernel
theorem dX1_expireWaiting_17 : decode cX1_expireWaiting 17 = .ok (.aload_n 2, 1) := by decide +kernel
theorem dX1_expireWaiting_18 : decode cX1_expireWaiting 18 = .ok (.bipush 7, 2) := by decide +kernel
theorem dX1_expireWaiting_20 : decode cX1_expireWaiting 20 = .ok (.iaload, 1) := by decide +kernel
theorem dX1_expireWaiting_21 : decode cX1_expireWaiting 21 = .ok (.ifCond .ne 47, 3) := by decide +kernel
theorem dX1_expireWaiting_24 : decode cX1_expireWaiting 24 = .ok (.aload_n 2, 1) := by decide +kernel
theorem dX1_expireWaiting_25 : decode cX1_expireWaiting 25 = .ok (.iconst 4, 1) := by decide +kernel
theorem dX1_expireWaiting_26 : decode cX1_expireWaiting 26 = .ok (.iaload, 1) := by decide +kernel
theorem dX1_expireWaiting_27 : decode cX1_expireWaiting 27 = .ok (.aload_n 2, 1) := by decide +kernel
theorem dX1_expireWaiting_28 : decode cX1_expireWaiting 28 = .ok (.iconst 5, 1) := by decide +kernel
theorem dX1_expireWaiting_29 : decode cX1_expireWaiting 29 = .ok (.iaload, 1) := by decide +kernel
theorem dX1_expireWaiting_30 : decode cX1_expireWaiting 30 = .ok (.iadd, 1) := by decide +kernel
theorem dX1_expireWaiting_31 : decode cX1_expireWaiting 31 = .ok (.aload_n 0, 1) := by decide +kernel
theorem dX1_expireWaiting_32 : decode cX1_expireWaiting 32 = .ok (.getfield 37, 3) := by decide +kernel
theorem dX1_expireWaiting_35 : decode cX1_expireWaiting 35 = .ok (.if_icmp .ge 33, 3) := by decide +kernel
theorem dX1_expireWaiting_38 : decode cX1_expireWaiting 38 = .ok (.aload_n 2, 1) := by decide +kernel
theorem dX1_expireWaiting_39 : decode cX1_expireWaiting 39 = .ok (.bipush 7, 2) := by decide +kernel
theorem dX1_expireWaiting_41 : decode cX1_expireWaiting 41 = .ok (.bipush 6, 2) := by decide +kernel
theorem dX1_expireWaiting_43 : decode cX1_expireWaiting 43 = .ok (.iastore, 1) := by decide +kernel
theorem dX1_expireWaiting_44 : decode cX1_expireWaiting 44 = .ok (.aload_n 0, 1) := by decide +kernel
theorem dX1_expireWaiting_45 : decode cX1_expireWaiting 45 = .ok (.getfield 17, 3) := by decide +kernel
theorem dX1_expireWaiting_48 : decode cX1_expireWaiting 48 = .ok (.aload_n 2, 1) := by decide +kernel
theorem dX1_expireWaiting_49 : decode cX1_expireWaiting 49 = .ok (.iconst 0, 1) := by decide +kernel
theorem dX1_expireWaiting_50 : decode cX1_expireWaiting 50 = .ok (.iaload, 1) := by decide +kernel
theorem dX1_expireWaiting_51 : decode cX1_expireWaiting 51 = .ok (.aaload, 1) := by decide +kernel
theorem dX1_expireWaiting_52 : decode cX1_expireWaiting 52 = .ok (.iconst 5, 1) := by decide +kernel
theorem dX1_expireWaiting_53 : decode cX1_expireWaiting 53 = .ok (.dup2, 1) := by decide +kernel
theorem dX1_expireWaiting_54 : decode cX1_expireWaiting 54 = .ok (.iaload, 1) := by decide +kernel
theorem dX1_expireWaiting_55 : decode cX1_expireWaiting 55 = .ok (.iconst 1, 1) := by decide +kernel
theorem dX1_expireWaiting_56 : decode cX1_expireWaiting 56 = .ok (.iadd, 1) := by decide +kernel
theorem dX1_expireWaiting_57 : decode cX1_expireWaiting 57 = .ok (.iastore, 1) := by decide +kernel
theorem dX1_expireWaiting_58 : decode cX1_expireWaiting 58 = .ok (.aload_n 0, 1) := by decide +kernel
theorem dX1_expireWaiting_59 : decode cX1_expireWaiting 59 = .ok (.getfield 23, 3) := by decide +kernel
theorem dX1_expireWaiting_62 : decode cX1_expireWaiting 62 = .ok (.iconst 1, 1) := by decide +kernel
theorem dX1_expireWaiting_63 : decode cX1_expireWaiting 63 = .ok (.dup2, 1) := by decide +kernel
theorem dX1_expireWaiting_64 : decode cX1_expireWaiting 64 = .ok (.iaload, 1) := by decide +kernel
theorem dX1_expireWaiting_65 : decode cX1_expireWaiting 65 = .ok (.iconst 1, 1) := by decide +kernel
theorem dX1_expireWaiting_66 : decode cX1_expireWaiting 66 = .ok (.iadd, 1) := by decide +kernel
theorem dX1_expireWaiting_67 : decode cX1_expireWaiting 67 = .ok (.iastore, 1) := by decide +kernel
theorem dX1_expireWaiting_68 : decode cX1_expireWaiting 68 = .ok (.iinc 1 1, 3) := by decide +kernel
theorem dX1_expireWaiting_71 : decode cX1_expireWaiting 71 = .ok (.goto (-69), 3) := by decide +kernel
theorem dX1_expireWaiting_74 : decode cX1_expireWaiting 74 = .ok (.return_, 1) := by decide +kernel
def w_X1_expireWaiting_68 (this : Nat) (Q : V3 → Prop) (K2 : Int32 → V3 → Prop) (x1 : Int32) (v : V3) : Prop := K2 (x1 + 1) v
def w_X1_expireWaiting_2 (this : Nat) (Q : V3 → Prop) : Nat → Int32 → V3 → Prop
  | 0, _, _ => False
  | n2 + 1, x1, v => (((v this 8) ≤ x1 → Q v) ∧ (¬ (v this 8) ≤ x1 → vp_in x1 40 ∧ ((¬ (v (this + 14 + (ix x1)) 7) = 0 → w_X1_expireWaiting_68 this Q (w_X1_expireWaiting_2 this Q n2) x1 v) ∧ ((v (this + 14 + (ix x1)) 7) = 0 → (((v this 6) ≤ ((v (this + 14 + (ix x1)) 4) + (v (this + 14 + (ix x1)) 5)) → w_X1_expireWaiting_68 this Q (w_X1_expireWaiting_2 this Q n2) x1 v) ∧ (¬ (v this 6) ≤ ((v (this + 14 + (ix x1)) 4) + (v (this + 14 + (ix x1)) 5)) → ∀ v6 : V3, v6 = up2 v (this + 14 + (ix x1)) 7 6 → vp_in (v6 (this + 14 + (ix x1)) 0) 8 ∧ ∀ v9 : V3, v9 = up2 v6 (this + 6 + (ix (v6 (this + 14 + (ix x1)) 0))) 5 ((v6 (this + 6 + (ix (v6 (this + 14 + (ix x1)) 0))) 5) + 1) → ∀ v10 : V3, v10 = up2 v9 (this + 4) 1 ((v9 (this + 4) 1) + 1) → w_X1_expireWaiting_68 this Q (w_X1_expireWaiting_2 this Q n2) x1 v10))))))
def w_X1_expireWaiting (this : Nat) (v : V3) (Q : V3 → Prop) : Prop := ∃ m2 : Nat, w_X1_expireWaiting_2 this Q m2 0 v
set_option maxRecDepth 100000 in
set_option maxHeartbeats 4000000 in
theorem b_X1_expireWaiting_68 {p : Program} (l : Launch) {e : Env} {s : State} {m : MethodId} {args : Array Value} {below : List Frame} {meth : Method} {c : Code} {G : zG} {this : Nat} (hL : isL G this) (C0 : Cx G RX1 cX1_expireWaiting 3 none p s m args meth c) {Q : V3 → Prop} {K2 : Int32 → V3 → Prop} (hK2 : ∀ (x1 : Int32) (v : V3) (H : Heap) (locs : List Loc) (ls : Array Slot), K2 x1 v → Zs G s v H locs → lv_has ls 3 [(0, .ref (gad G this)), (1, .int x1)] → W p l e { frames := 0, cells := 0, slots := 0, locals := 0 } s m args below meth c H locs 0 0 (MQ below (QvZ G Q) args s 0 0 (zA G)) (F0 m 2 ls [])) : ∀ (x1 : Int32) (v : V3) (H : Heap) (locs : List Loc) (ls : Array Slot), w_X1_expireWaiting_68 this Q K2 x1 v → Zs G s v H locs → lv_has ls 3 [(0, .ref (gad G this)), (1, .int x1)] → W p l e { frames := 0, cells := 0, slots := 0, locals := 0 } s m args below meth c H locs 0 0 (MQ below (QvZ G Q) args s 0 0 (zA G)) (F0 m 68 ls []) := by
  have hx := C0.1
  have hb := C0.2.1
  intro x1 v H locs ls hw Z hl
  rw [w_X1_expireWaiting_68] at hw
  refine lv_iinc (v := x1 + 1) (lv' := [(1, .int (x1 + 1)), (0, .ref (gad G this))]) hx hb dX1_expireWaiting_68 hl (k := 1) rfl rfl (by decide) rfl (fun ls hl => ?_)
  refine lv_goto (tgt := 2) hx hb dX1_expireWaiting_71 (by decide) ?_
  exact hK2 _ _ _ _ _ hw Z (lv_sub hl [1, 0] rfl)
set_option maxRecDepth 100000 in
set_option maxHeartbeats 4000000 in
theorem b_X1_expireWaiting_2 {p : Program} (l : Launch) {e : Env} {s : State} {m : MethodId} {args : Array Value} {below : List Frame} {meth : Method} {c : Code} {G : zG} {this : Nat} (hL : isL G this) (C0 : Cx G RX1 cX1_expireWaiting 3 none p s m args meth c) {Q : V3 → Prop} : ∀ (n : Nat) (x1 : Int32) (v : V3) (H : Heap) (locs : List Loc) (ls : Array Slot), w_X1_expireWaiting_2 this Q n x1 v → Zs G s v H locs → lv_has ls 3 [(0, .ref (gad G this)), (1, .int x1)] → W p l e { frames := 0, cells := 0, slots := 0, locals := 0 } s m args below meth c H locs 0 0 (MQ below (QvZ G Q) args s 0 0 (zA G)) (F0 m 2 ls []) := by
  have hx := C0.1
  have hb := C0.2.1
  intro n
  induction n with
  | zero =>
    intro x1 v H locs ls hw Z hl
    exact hw.elim
  | succ n hK2 =>
    intro x1 v H locs ls hw Z hl
    rw [w_X1_expireWaiting_2] at hw
    refine lv_iload_n hx hb dX1_expireWaiting_2 rfl (lv_at hl 1 rfl) ?_
    refine lv_aload_n hx hb dX1_expireWaiting_3 rfl (lv_at hl 0 rfl) ?_
    refine z_get C0 Z in_X1 rfl 8 (by decide) rfl tm_1_64 (isL_lt0 hL) (ent_L hL) rfl dX1_expireWaiting_4 ?_
    refine lv_icmp_ge (tgt := 74) hx hb dX1_expireWaiting_7 (by decide) (fun c1 => ?_) (fun c1 => ?_)
    · replace hw := hw.1 c1
      exact z_vret C0 Z hw dX1_expireWaiting_74
    · replace hw := hw.2 c1
      refine lv_aload_n hx hb dX1_expireWaiting_10 rfl (lv_at hl 0 rfl) ?_
      refine z_get C0 Z in_X1 rfl 2 (by decide) rfl tm_1_49 (isL_lt0 hL) (ent_L hL) rfl dX1_expireWaiting_11 ?_
      refine lv_iload_n hx hb dX1_expireWaiting_14 rfl (lv_at hl 1 rfl) ?_
      obtain ⟨h2, hw⟩ := hw
      have h3 := vp_lt h2
      refine z_aald C0 Z (isL_lt hL 3 (by decide)) (ent_L3 hL) h2 dX1_expireWaiting_15 ?_
      refine lv_astore_n (lv' := [(2, .ref (gad G (this + 14 + (ix x1)))), (0, .ref (gad G this)), (1, .int x1)]) hx hb dX1_expireWaiting_16 rfl hl (by decide) rfl (fun ls hl => ?_)
      refine lv_aload_n hx hb dX1_expireWaiting_17 rfl (lv_at hl 0 rfl) ?_
      refine lv_bipush (v := 7) hx hb dX1_expireWaiting_18 (by decide) ?_
      refine z_ialdk C0 Z (isL_B hL h3) (ent_B hL h3) in_7_10 nc_7 dX1_expireWaiting_20 ?_
      refine lv_if_ne (tgt := 68) hx hb dX1_expireWaiting_21 (by decide) (fun c4 => ?_) (fun c4 => ?_)
      · replace hw := hw.1 c4
        exact b_X1_expireWaiting_68 l hL C0 hK2 _ _ _ _ _ hw Z (lv_sub hl [1, 2] rfl)
      · replace hw := hw.2 c4
        refine lv_aload_n hx hb dX1_expireWaiting_24 rfl (lv_at hl 0 rfl) ?_
        refine lv_iconst (v := 4) hx hb dX1_expireWaiting_25 (by decide) ?_
        refine z_ialdk C0 Z (isL_B hL h3) (ent_B hL h3) in_4_10 nc_4 dX1_expireWaiting_26 ?_
        refine lv_aload_n hx hb dX1_expireWaiting_27 rfl (lv_at hl 0 rfl) ?_
        refine lv_iconst (v := 5) hx hb dX1_expireWaiting_28 (by decide) ?_
        refine z_ialdk C0 Z (isL_B hL h3) (ent_B hL h3) in_5_10 nc_5 dX1_expireWaiting_29 ?_
        refine lv_iadd hx hb dX1_expireWaiting_30 ?_
        refine lv_aload_n hx hb dX1_expireWaiting_31 rfl (lv_at hl 1 rfl) ?_
        refine z_get C0 Z in_X1 rfl 6 (by decide) rfl tm_1_58 (isL_lt0 hL) (ent_L hL) rfl dX1_expireWaiting_32 ?_
        refine lv_icmp_ge (tgt := 68) hx hb dX1_expireWaiting_35 (by decide) (fun c5 => ?_) (fun c5 => ?_)
        · replace hw := hw.1 c5
          exact b_X1_expireWaiting_68 l hL C0 hK2 _ _ _ _ _ hw Z (lv_sub hl [1, 2] rfl)
        · replace hw := hw.2 c5
          refine lv_aload_n hx hb dX1_expireWaiting_38 rfl (lv_at hl 0 rfl) ?_
          refine lv_bipush (v := 7) hx hb dX1_expireWaiting_39 (by decide) ?_
          refine lv_bipush (v := 6) hx hb dX1_expireWaiting_41 (by decide) ?_
          refine z_iastk C0 Z (isL_B hL h3) (fun _ => ent_B hL h3) in_7_10 nc_7 dX1_expireWaiting_43 (fun H locs Z => ?_)
          obtain ⟨v6, ev6⟩ : ∃ z : V3, z = up2 v (this + 14 + (ix x1)) 7 6 := ⟨_, rfl⟩
          rw [← ev6] at Z
          replace hw := hw v6 ev6
          refine lv_aload_n hx hb dX1_expireWaiting_44 rfl (lv_at hl 1 rfl) ?_
          refine z_get C0 Z in_X1 rfl 1 (by decide) rfl tm_1_46 (isL_lt0 hL) (ent_L hL) rfl dX1_expireWaiting_45 ?_
          refine lv_aload_n hx hb dX1_expireWaiting_48 rfl (lv_at hl 0 rfl) ?_
          refine lv_iconst (v := 0) hx hb dX1_expireWaiting_49 (by decide) ?_
          refine z_ialdk C0 Z (isL_B hL h3) (ent_B hL h3) in_0_10 nc_0 dX1_expireWaiting_50 ?_
          obtain ⟨h7, hw⟩ := hw
          have h8 := vp_lt h7
          refine z_aald C0 Z (isL_lt hL 2 (by decide)) (ent_L2 hL) h7 dX1_expireWaiting_51 ?_
          refine lv_iconst (v := 5) hx hb dX1_expireWaiting_52 (by decide) ?_
          refine lv_dup2_11 hx hb dX1_expireWaiting_53 rfl rfl ?_
          refine z_ialdk C0 Z (isL_O hL h8) (ent_O hL h8) in_5_8 nc_5 dX1_expireWaiting_54 ?_
          refine lv_iconst (v := 1) hx hb dX1_expireWaiting_55 (by decide) ?_
          refine lv_iadd hx hb dX1_expireWaiting_56 ?_
          refine z_iastk C0 Z (isL_O hL h8) (fun _ => ent_O hL h8) in_5_8 nc_5 dX1_expireWaiting_57 (fun H locs Z => ?_)
          obtain ⟨v9, ev9⟩ : ∃ z : V3, z = up2 v6 (this + 6 + (ix (v6 (this + 14 + (ix x1)) 0))) 5 ((v6 (this + 6 + (ix (v6 (this + 14 + (ix x1)) 0))) 5) + 1) := ⟨_, rfl⟩
          rw [← ev9] at Z
          replace hw := hw v9 ev9
          refine lv_aload_n hx hb dX1_expireWaiting_58 rfl (lv_at hl 1 rfl) ?_
          refine z_get C0 Z in_X1 rfl 3 (by decide) rfl tm_1_52 (isL_lt0 hL) (ent_L hL) rfl dX1_expireWaiting_59 ?_
          refine lv_iconst (v := 1) hx hb dX1_expireWaiting_62 (by decide) ?_
          refine lv_dup2_11 hx hb dX1_expireWaiting_63 rfl rfl ?_
          refine z_ialdk C0 Z (isL_lt hL 4 (by decide)) (ent_L4 hL) in_1_4 nc_1 dX1_expireWaiting_64 ?_
          refine lv_iconst (v := 1) hx hb dX1_expireWaiting_65 (by decide) ?_
          refine lv_iadd hx hb dX1_expireWaiting_66 ?_
          refine z_iastk C0 Z (isL_lt hL 4 (by decide)) (fun _ => ent_L4 hL) in_1_4 nc_1 dX1_expireWaiting_67 (fun H locs Z => ?_)
          obtain ⟨v10, ev10⟩ : ∃ z : V3, z = up2 v9 (this + 4) 1 ((v9 (this + 4) 1) + 1) := ⟨_, rfl⟩
          rw [← ev10] at Z
          replace hw := hw v10 ev10
          exact b_X1_expireWaiting_68 l hL C0 hK2 _ _ _ _ _ hw Z (lv_sub hl [1, 2] rfl)
set_option maxRecDepth 100000 in
set_option maxHeartbeats 4000000 in
theorem k_X1_expireWaiting (l : Launch) {G : zG} (hg : 129 ≤ gn G) {this : Nat} (hL : isL G this) {v : V3} {Q : V3 → Prop} (hw : w_X1_expireWaiting this v Q) : Mz l yX1_expireWaiting cX1_expireWaiting 3 none 0 0 G [.ref (gad G this)] v (QvZ G Q) := by
  rw [w_X1_expireWaiting] at hw
  refine z_ofW hg (by decide) (Nat.le_of_ble_eq_true rfl) ?_
  intro p e s m args below meth c ls C0 Z hl
  have hx := C0.1
  have hb := C0.2.1
  replace hl : lv_has ls 3 [(0, .ref (gad G this))] := hl
  generalize s.heap = H at Z ⊢
  generalize ([] : List Loc) = locs at Z ⊢
  refine lv_iconst (v := 0) hx hb dX1_expireWaiting_0 (by decide) ?_
  refine lv_istore_n (lv' := [(1, .int 0), (0, .ref (gad G this))]) hx hb dX1_expireWaiting_1 rfl hl (by decide) rfl (fun ls hl => ?_)
  obtain ⟨m2, hw⟩ := hw
  exact b_X1_expireWaiting_2 l hL C0 m2 _ _ _ _ _ hw Z (lv_sub hl [1, 0] rfl)
-- X1_tick: room (4, 104)
theorem dX1_tick_0 : decode cX1_tick 0 = .ok (.aload_n 0, 1) := by decide +kernel
theorem dX1_tick_1 : decode cX1_tick 1 = .ok (.dup, 1) := by decide +kernel
theorem dX1_tick_2 : decode cX1_tick 2 = .ok (.getfield 37, 3) := by decide +kernel
theorem dX1_tick_5 : decode cX1_tick 5 = .ok (.iconst 1, 1) := by decide +kernel
theorem dX1_tick_6 : decode cX1_tick 6 = .ok (.iadd, 1) := by decide +kernel
theorem dX1_tick_7 : decode cX1_tick 7 = .ok (.putfield 37, 3) := by decide +kernel
theorem dX1_tick_10 : decode cX1_tick 10 = .ok (.aload_n 0, 1) := by decide +kernel
theorem dX1_tick_11 : decode cX1_tick 11 = .ok (.invokevirtual 118, 3) := by decide +kernel
theorem dX1_tick_14 : decode cX1_tick 14 = .ok (.aload_n 0, 1) := by decide +kernel
theorem dX1_tick_15 : decode cX1_tick 15 = .ok (.invokevirtual 121, 3) := by decide +kernel
theorem dX1_tick_18 : decode cX1_tick 18 = .ok (.iadd, 1) := by decide +kernel
theorem dX1_tick_19 : decode cX1_tick 19 = .ok (.istore_n 1, 1) := by decide +kernel
theorem dX1_tick_20 : decode cX1_tick 20 = .ok (.aload_n 0, 1) := by decide +kernel
theorem dX1_tick_21 : decode cX1_tick 21 = .ok (.invokevirtual 124, 3) := by decide +kernel
theorem dX1_tick_24 : decode cX1_tick 24 = .ok (.iload_n 1, 1) := by decide +kernel
theorem dX1_tick_25 : decode cX1_tick 25 = .ok (.ifCond .le 7, 3) := by decide +kernel
theorem dX1_tick_28 : decode cX1_tick 28 = .ok (.aload_n 0, 1) := by decide +kernel
theorem dX1_tick_29 : decode cX1_tick 29 = .ok (.invokevirtual 127, 3) := by decide +kernel
theorem dX1_tick_32 : decode cX1_tick 32 = .ok (.return_, 1) := by decide +kernel
def w_X1_tick_32 (this : Nat) (Q : V3 → Prop) (v : V3) : Prop := Q v
def w_X1_tick (this : Nat) (v : V3) (Q : V3 → Prop) : Prop := ∀ v1 : V3, v1 = up2 v this 6 ((v this 6) + 1) → w_X1_finishHeld this v1 (fun r3 v2 => w_X1_bumpLate this v2 (fun r5 v4 => w_X1_expireWaiting this v4 (fun v6 => (((r3 + r5) ≤ 0 → w_X1_tick_32 this Q v6) ∧ (¬ (r3 + r5) ≤ 0 → w_X1_placeWaiting this v6 (fun v8 => w_X1_tick_32 this Q v8))))))
set_option maxRecDepth 100000 in
set_option maxHeartbeats 4000000 in
theorem b_X1_tick_32 {p : Program} (l : Launch) {e : Env} {s : State} {m : MethodId} {args : Array Value} {below : List Frame} {meth : Method} {c : Code} {G : zG} {this : Nat} (hL : isL G this) (C0 : Cx G RX1 cX1_tick 2 none p s m args meth c) {Q : V3 → Prop} : ∀ (v : V3) (H : Heap) (locs : List Loc) (ls : Array Slot), w_X1_tick_32 this Q v → Zs G s v H locs → lv_has ls 2 [] → W p l e { frames := 4, cells := 0, slots := 0, locals := 104 } s m args below meth c H locs 0 0 (MQ below (QvZ G Q) args s 0 0 (zA G)) (F0 m 32 ls []) := by
  have hx := C0.1
  have hb := C0.2.1
  intro v H locs ls hw Z hl
  rw [w_X1_tick_32] at hw
  exact z_vret C0 Z hw dX1_tick_32
set_option maxRecDepth 100000 in
set_option maxHeartbeats 4000000 in
theorem k_X1_tick (l : Launch) {G : zG} (hg : 129 ≤ gn G) {this : Nat} (hL : isL G this) {v : V3} {Q : V3 → Prop} (hw : w_X1_tick this v Q) : Mz l yX1_tick cX1_tick 2 none 4 104 G [.ref (gad G this)] v (QvZ G Q) := by
  rw [w_X1_tick] at hw
  refine z_ofW hg (by decide) (Nat.le_of_ble_eq_true rfl) ?_
  intro p e s m args below meth c ls C0 Z hl
  have hx := C0.1
  have hb := C0.2.1
  replace hl : lv_has ls 2 [(0, .ref (gad G this))] := hl
  generalize s.heap = H at Z ⊢
  generalize ([] : List Loc) = locs at Z ⊢
  refine lv_aload_n hx hb dX1_tick_0 rfl (lv_at hl 0 rfl) ?_
  refine lv_dup hx hb dX1_tick_1 rfl ?_
  refine z_get C0 Z in_X1 rfl 6 (by decide) rfl tm_1_58 (isL_lt0 hL) (ent_L hL) rfl dX1_tick_2 ?_
  refine lv_iconst (v := 1) hx hb dX1_tick_5 (by decide) ?_
  refine lv_iadd hx hb dX1_tick_6 ?_
  refine z_put C0 Z in_X1 tyX1_ok nmX1 rfl 6 (by decide) rfl rfl tm_1_58 (isL_lt0 hL) (ent_L hL) (p_X1_6 hL) (fun c' h => up2_off _ _ _ h) rfl rfl (Nat.le_of_ble_eq_true rfl) dX1_tick_7 (fun H locs Z => ?_)
  obtain ⟨v1, ev1⟩ : ∃ z : V3, z = up2 v this 6 ((v this 6) + 1) := ⟨_, rfl⟩
  rw [← ev1] at Z
  replace hw := hw v1 ev1
  refine lv_aload_n hx hb dX1_tick_10 rfl (lv_at hl 0 rfl) ?_
  refine z_callVi C0 Z hl.1 (As := []) (rest := []) (k_X1_finishHeld l (cx_g C0) hL hw) (gv_X1_finishHeld tm_4_88) rfl ds_X1_finishHeld ⟨Nat.le_of_ble_eq_true rfl, Nat.le_of_ble_eq_true rfl⟩ (ci := 1) rfl (isL_lt0 hL) (ent_L hL) rfl rfl (Nat.le_of_ble_eq_true rfl) ⟨Nat.zero_le _, Nat.zero_le _⟩ dX1_tick_11 (fun r3 v2 H locs hw Z => ?_)
  refine lv_aload_n hx hb dX1_tick_14 rfl (lv_at hl 0 rfl) ?_
  refine z_callVi C0 Z hl.1 (As := []) (rest := [.int r3]) (k_X1_bumpLate l (cx_g C0) hL hw) (gv_X1_bumpLate tm_4_92) rfl ds_X1_bumpLate ⟨Nat.le_of_ble_eq_true rfl, Nat.le_of_ble_eq_true rfl⟩ (ci := 1) rfl (isL_lt0 hL) (ent_L hL) rfl rfl (Nat.le_of_ble_eq_true rfl) ⟨Nat.zero_le _, Nat.zero_le _⟩ dX1_tick_15 (fun r5 v4 H locs hw Z => ?_)
  refine lv_iadd hx hb dX1_tick_18 ?_
  refine lv_istore_n (lv' := [(1, .int (r3 + r5)), (0, .ref (gad G this))]) hx hb dX1_tick_19 rfl hl (by decide) rfl (fun ls hl => ?_)
  refine lv_aload_n hx hb dX1_tick_20 rfl (lv_at hl 1 rfl) ?_
  refine z_callVv C0 Z hl.1 (As := []) (rest := []) (k_X1_expireWaiting l (cx_g C0) hL hw) (gv_X1_expireWaiting tm_4_96) rfl ds_X1_expireWaiting ⟨Nat.le_of_ble_eq_true rfl, Nat.le_of_ble_eq_true rfl⟩ (ci := 1) rfl (isL_lt0 hL) (ent_L hL) rfl rfl (Nat.le_of_ble_eq_true rfl) ⟨Nat.zero_le _, Nat.zero_le _⟩ dX1_tick_21 (fun v6 H locs hw Z => ?_)
  refine lv_iload_n hx hb dX1_tick_24 rfl (lv_at hl 0 rfl) ?_
  refine lv_if_le (tgt := 32) hx hb dX1_tick_25 (by decide) (fun c7 => ?_) (fun c7 => ?_)
  · replace hw := hw.1 c7
    exact b_X1_tick_32 l hL C0 _ _ _ _ hw Z (lv_sub hl [] rfl)
  · replace hw := hw.2 c7
    refine lv_aload_n hx hb dX1_tick_28 rfl (lv_at hl 1 rfl) ?_
    refine z_callVv C0 Z hl.1 (As := []) (rest := []) (k_X1_placeWaiting l (cx_g C0) hL hw) (gv_X1_placeWaiting tm_4_100) rfl ds_X1_placeWaiting ⟨Nat.le_of_ble_eq_true rfl, Nat.le_of_ble_eq_true rfl⟩ (ci := 1) rfl (isL_lt0 hL) (ent_L hL) rfl rfl (Nat.le_of_ble_eq_true rfl) ⟨Nat.zero_le _, Nat.zero_le _⟩ dX1_tick_29 (fun v8 H locs hw Z => ?_)
    exact b_X1_tick_32 l hL C0 _ _ _ _ hw Z (lv_sub hl [] rfl)
end
