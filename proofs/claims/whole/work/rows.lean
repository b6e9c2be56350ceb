section
-- ===== PART A: goes FIRST, ahead of the names: the tables' words, and 'selects' of the private methods out of them =====
/-- a private method of a class that the tables say can be made, by its rows of tables_1 -/
def lw_okq (q : MethodName × Nat) : Prop := (q.1.cls ≠ "java/lang/invoke/MethodHandle" ∧ q.1.cls ≠ "java/lang/invoke/VarHandle") ∧ Cond.instantiable q.1.cls q.2 ∈ tables_1 ∧ Cond.privateMethod q.1 ∈ tables_1 ∧ Cond.instanceMethod q.1 ∈ tables_1
theorem lw_p0 : lw_okq (⟨"OliveMill$Books", "placeOfSaved", "(I)I"⟩, 10) := ⟨⟨by decide +kernel, by decide +kernel⟩, List.mem_of_getElem? (i := 27) (by decide +kernel), List.mem_of_getElem? (i := 254) (by decide +kernel), List.mem_of_getElem? (i := 255) (by decide +kernel)⟩
theorem lw_p1 : lw_okq (⟨"OliveMill", "loseByCleaning", "(II)V"⟩, 6) := ⟨⟨by decide +kernel, by decide +kernel⟩, List.mem_of_getElem? (i := 19) (by decide +kernel), List.mem_of_getElem? (i := 265) (by decide +kernel), List.mem_of_getElem? (i := 266) (by decide +kernel)⟩
theorem lw_p2 : lw_okq (⟨"OliveMill", "codeAt", "(I)I"⟩, 6) := ⟨⟨by decide +kernel, by decide +kernel⟩, List.mem_of_getElem? (i := 19) (by decide +kernel), List.mem_of_getElem? (i := 297) (by decide +kernel), List.mem_of_getElem? (i := 298) (by decide +kernel)⟩
theorem lw_p3 : lw_okq (⟨"OliveMill$SlipReader", "readsGrower", "(I)Z"⟩, 9) := ⟨⟨by decide +kernel, by decide +kernel⟩, List.mem_of_getElem? (i := 190) (by decide +kernel), List.mem_of_getElem? (i := 305) (by decide +kernel), List.mem_of_getElem? (i := 306) (by decide +kernel)⟩
theorem lw_p4 : lw_okq (⟨"OliveMill$SlipReader", "readsVariety", "(I)Z"⟩, 9) := ⟨⟨by decide +kernel, by decide +kernel⟩, List.mem_of_getElem? (i := 190) (by decide +kernel), List.mem_of_getElem? (i := 309) (by decide +kernel), List.mem_of_getElem? (i := 310) (by decide +kernel)⟩
theorem lw_p5 : lw_okq (⟨"OliveMill$SlipReader", "beginNumber", "(III)V"⟩, 9) := ⟨⟨by decide +kernel, by decide +kernel⟩, List.mem_of_getElem? (i := 190) (by decide +kernel), List.mem_of_getElem? (i := 313) (by decide +kernel), List.mem_of_getElem? (i := 314) (by decide +kernel)⟩
theorem lw_p6 : lw_okq (⟨"OliveMill$SlipReader", "readsDigit", "(I)Z"⟩, 9) := ⟨⟨by decide +kernel, by decide +kernel⟩, List.mem_of_getElem? (i := 190) (by decide +kernel), List.mem_of_getElem? (i := 320) (by decide +kernel), List.mem_of_getElem? (i := 321) (by decide +kernel)⟩
theorem lw_p7 : lw_okq (⟨"OliveMill$SlipReader", "numberCanStand", "()Z"⟩, 9) := ⟨⟨by decide +kernel, by decide +kernel⟩, List.mem_of_getElem? (i := 190) (by decide +kernel), List.mem_of_getElem? (i := 324) (by decide +kernel), List.mem_of_getElem? (i := 325) (by decide +kernel)⟩
theorem lw_p8 : lw_okq (⟨"OliveMill$SlipReader", "numberStands", "()Z"⟩, 9) := ⟨⟨by decide +kernel, by decide +kernel⟩, List.mem_of_getElem? (i := 190) (by decide +kernel), List.mem_of_getElem? (i := 328) (by decide +kernel), List.mem_of_getElem? (i := 329) (by decide +kernel)⟩
theorem lw_p9 : lw_okq (⟨"OliveMill$SlipReader", "readsSign", "(I)Z"⟩, 9) := ⟨⟨by decide +kernel, by decide +kernel⟩, List.mem_of_getElem? (i := 190) (by decide +kernel), List.mem_of_getElem? (i := 332) (by decide +kernel), List.mem_of_getElem? (i := 333) (by decide +kernel)⟩
theorem lw_p10 : lw_okq (⟨"OliveMill", "reasonAgainstPress", "(IZ)I"⟩, 6) := ⟨⟨by decide +kernel, by decide +kernel⟩, List.mem_of_getElem? (i := 19) (by decide +kernel), List.mem_of_getElem? (i := 340) (by decide +kernel), List.mem_of_getElem? (i := 341) (by decide +kernel)⟩
theorem lw_p11 : lw_okq (⟨"OliveMill$Rehearsal", "lotInTurn", "(I)I"⟩, 12) := ⟨⟨by decide +kernel, by decide +kernel⟩, List.mem_of_getElem? (i := 136) (by decide +kernel), List.mem_of_getElem? (i := 358) (by decide +kernel), List.mem_of_getElem? (i := 359) (by decide +kernel)⟩
theorem lw_p12 : lw_okq (⟨"OliveMill$Rehearsal", "weigh", "()V"⟩, 12) := ⟨⟨by decide +kernel, by decide +kernel⟩, List.mem_of_getElem? (i := 136) (by decide +kernel), List.mem_of_getElem? (i := 362) (by decide +kernel), List.mem_of_getElem? (i := 363) (by decide +kernel)⟩
theorem lw_p13 : lw_okq (⟨"OliveMill$Rehearsal", "passThroughMill", "(I)V"⟩, 12) := ⟨⟨by decide +kernel, by decide +kernel⟩, List.mem_of_getElem? (i := 136) (by decide +kernel), List.mem_of_getElem? (i := 366) (by decide +kernel), List.mem_of_getElem? (i := 367) (by decide +kernel)⟩
theorem lw_p14 : lw_okq (⟨"OliveMill", "lotsWith", "(IIZ)I"⟩, 6) := ⟨⟨by decide +kernel, by decide +kernel⟩, List.mem_of_getElem? (i := 19) (by decide +kernel), List.mem_of_getElem? (i := 416) (by decide +kernel), List.mem_of_getElem? (i := 417) (by decide +kernel)⟩
theorem lw_p15 : lw_okq (⟨"OliveMill", "residueVariety", "()I"⟩, 6) := ⟨⟨by decide +kernel, by decide +kernel⟩, List.mem_of_getElem? (i := 19) (by decide +kernel), List.mem_of_getElem? (i := 421) (by decide +kernel), List.mem_of_getElem? (i := 422) (by decide +kernel)⟩
def lw_privs_1 : List (MethodName × Nat) := [(⟨"OliveMill$Books", "placeOfSaved", "(I)I"⟩, 10), (⟨"OliveMill", "loseByCleaning", "(II)V"⟩, 6), (⟨"OliveMill", "codeAt", "(I)I"⟩, 6), (⟨"OliveMill$SlipReader", "readsGrower", "(I)Z"⟩, 9), (⟨"OliveMill$SlipReader", "readsVariety", "(I)Z"⟩, 9), (⟨"OliveMill$SlipReader", "beginNumber", "(III)V"⟩, 9), (⟨"OliveMill$SlipReader", "readsDigit", "(I)Z"⟩, 9), (⟨"OliveMill$SlipReader", "numberCanStand", "()Z"⟩, 9), (⟨"OliveMill$SlipReader", "numberStands", "()Z"⟩, 9), (⟨"OliveMill$SlipReader", "readsSign", "(I)Z"⟩, 9), (⟨"OliveMill", "reasonAgainstPress", "(IZ)I"⟩, 6), (⟨"OliveMill$Rehearsal", "lotInTurn", "(I)I"⟩, 12), (⟨"OliveMill$Rehearsal", "weigh", "()V"⟩, 12), (⟨"OliveMill$Rehearsal", "passThroughMill", "(I)V"⟩, 12), (⟨"OliveMill", "lotsWith", "(IIZ)I"⟩, 6), (⟨"OliveMill", "residueVariety", "()I"⟩, 6)]
theorem lw_r1 : ∀ q ∈ lw_privs_1, lw_okq q := List.forall_mem_cons.mpr ⟨lw_p0, List.forall_mem_cons.mpr ⟨lw_p1, List.forall_mem_cons.mpr ⟨lw_p2, List.forall_mem_cons.mpr ⟨lw_p3, List.forall_mem_cons.mpr ⟨lw_p4, List.forall_mem_cons.mpr ⟨lw_p5, List.forall_mem_cons.mpr ⟨lw_p6, List.forall_mem_cons.mpr ⟨lw_p7, List.forall_mem_cons.mpr ⟨lw_p8, List.forall_mem_cons.mpr ⟨lw_p9, List.forall_mem_cons.mpr ⟨lw_p10, List.forall_mem_cons.mpr ⟨lw_p11, List.forall_mem_cons.mpr ⟨lw_p12, List.forall_mem_cons.mpr ⟨lw_p13, List.forall_mem_cons.mpr ⟨lw_p14, List.forall_mem_cons.mpr ⟨lw_p15, fun _ h => absurd h List.not_mem_nil⟩⟩⟩⟩⟩⟩⟩⟩⟩⟩⟩⟩⟩⟩⟩⟩
theorem lw_p16 : lw_okq (⟨"OliveMill", "sumOfGrowers", "(I)I"⟩, 6) := ⟨⟨by decide +kernel, by decide +kernel⟩, List.mem_of_getElem? (i := 19) (by decide +kernel), List.mem_of_getElem? (i := 425) (by decide +kernel), List.mem_of_getElem? (i := 426) (by decide +kernel)⟩
theorem lw_p17 : lw_okq (⟨"java/lang/Throwable", "fillInStackTrace", "(I)Ljava/lang/Throwable;"⟩, 6) := ⟨⟨by decide +kernel, by decide +kernel⟩, List.mem_of_getElem? (i := 467) (by decide +kernel), List.mem_of_getElem? (i := 465) (by decide +kernel), List.mem_of_getElem? (i := 466) (by decide +kernel)⟩
theorem lw_p18 : lw_okq (⟨"OliveMill", "mixedWithGrowers", "(J)J"⟩, 6) := ⟨⟨by decide +kernel, by decide +kernel⟩, List.mem_of_getElem? (i := 19) (by decide +kernel), List.mem_of_getElem? (i := 524) (by decide +kernel), List.mem_of_getElem? (i := 525) (by decide +kernel)⟩
theorem lw_p19 : lw_okq (⟨"OliveMill", "checkGrower", "(I)V"⟩, 6) := ⟨⟨by decide +kernel, by decide +kernel⟩, List.mem_of_getElem? (i := 19) (by decide +kernel), List.mem_of_getElem? (i := 532) (by decide +kernel), List.mem_of_getElem? (i := 533) (by decide +kernel)⟩
theorem lw_p20 : lw_okq (⟨"OliveMill", "mixedWithLots", "(J)J"⟩, 6) := ⟨⟨by decide +kernel, by decide +kernel⟩, List.mem_of_getElem? (i := 19) (by decide +kernel), List.mem_of_getElem? (i := 538) (by decide +kernel), List.mem_of_getElem? (i := 539) (by decide +kernel)⟩
theorem lw_p21 : lw_okq (⟨"OliveMill", "checkLot", "(I)V"⟩, 6) := ⟨⟨by decide +kernel, by decide +kernel⟩, List.mem_of_getElem? (i := 19) (by decide +kernel), List.mem_of_getElem? (i := 546) (by decide +kernel), List.mem_of_getElem? (i := 547) (by decide +kernel)⟩
theorem lw_p22 : lw_okq (⟨"OliveMill", "ifPressed", "(III)I"⟩, 6) := ⟨⟨by decide +kernel, by decide +kernel⟩, List.mem_of_getElem? (i := 19) (by decide +kernel), List.mem_of_getElem? (i := 551) (by decide +kernel), List.mem_of_getElem? (i := 552) (by decide +kernel)⟩
theorem lw_p23 : lw_okq (⟨"OliveMill", "reasonAgainstAppeal", "(I)I"⟩, 6) := ⟨⟨by decide +kernel, by decide +kernel⟩, List.mem_of_getElem? (i := 19) (by decide +kernel), List.mem_of_getElem? (i := 555) (by decide +kernel), List.mem_of_getElem? (i := 556) (by decide +kernel)⟩
theorem lw_p24 : lw_okq (⟨"OliveMill", "secondOilOf", "(I)I"⟩, 6) := ⟨⟨by decide +kernel, by decide +kernel⟩, List.mem_of_getElem? (i := 19) (by decide +kernel), List.mem_of_getElem? (i := 559) (by decide +kernel), List.mem_of_getElem? (i := 560) (by decide +kernel)⟩
theorem lw_p25 : lw_okq (⟨"OliveMill", "mixedWithTanks", "(J)J"⟩, 6) := ⟨⟨by decide +kernel, by decide +kernel⟩, List.mem_of_getElem? (i := 19) (by decide +kernel), List.mem_of_getElem? (i := 564) (by decide +kernel), List.mem_of_getElem? (i := 565) (by decide +kernel)⟩
theorem lw_p26 : lw_okq (⟨"OliveMill", "checkTank", "(I)V"⟩, 6) := ⟨⟨by decide +kernel, by decide +kernel⟩, List.mem_of_getElem? (i := 19) (by decide +kernel), List.mem_of_getElem? (i := 572) (by decide +kernel), List.mem_of_getElem? (i := 573) (by decide +kernel)⟩
theorem lw_p27 : lw_okq (⟨"OliveMill$Cellar", "greatestRemainder", "()I"⟩, 3) := ⟨⟨by decide +kernel, by decide +kernel⟩, List.mem_of_getElem? (i := 120) (by decide +kernel), List.mem_of_getElem? (i := 607) (by decide +kernel), List.mem_of_getElem? (i := 608) (by decide +kernel)⟩
theorem lw_p28 : lw_okq (⟨"OliveMill$Cellar", "roundUp", "(I)V"⟩, 3) := ⟨⟨by decide +kernel, by decide +kernel⟩, List.mem_of_getElem? (i := 120) (by decide +kernel), List.mem_of_getElem? (i := 611) (by decide +kernel), List.mem_of_getElem? (i := 612) (by decide +kernel)⟩
theorem lw_p29 : lw_okq (⟨"OliveMill", "mixedWithVarieties", "(J)J"⟩, 6) := ⟨⟨by decide +kernel, by decide +kernel⟩, List.mem_of_getElem? (i := 19) (by decide +kernel), List.mem_of_getElem? (i := 619) (by decide +kernel), List.mem_of_getElem? (i := 620) (by decide +kernel)⟩
theorem lw_p30 : lw_okq (⟨"OliveMill", "enterLot", "(IIIII)I"⟩, 6) := ⟨⟨by decide +kernel, by decide +kernel⟩, List.mem_of_getElem? (i := 19) (by decide +kernel), List.mem_of_getElem? (i := 697) (by decide +kernel), List.mem_of_getElem? (i := 698) (by decide +kernel)⟩
theorem lw_p31 : lw_okq (⟨"OliveMill", "enterPressedLot", "(I)V"⟩, 6) := ⟨⟨by decide +kernel, by decide +kernel⟩, List.mem_of_getElem? (i := 19) (by decide +kernel), List.mem_of_getElem? (i := 735) (by decide +kernel), List.mem_of_getElem? (i := 736) (by decide +kernel)⟩
def lw_privs_2 : List (MethodName × Nat) := [(⟨"OliveMill", "sumOfGrowers", "(I)I"⟩, 6), (⟨"java/lang/Throwable", "fillInStackTrace", "(I)Ljava/lang/Throwable;"⟩, 6), (⟨"OliveMill", "mixedWithGrowers", "(J)J"⟩, 6), (⟨"OliveMill", "checkGrower", "(I)V"⟩, 6), (⟨"OliveMill", "mixedWithLots", "(J)J"⟩, 6), (⟨"OliveMill", "checkLot", "(I)V"⟩, 6), (⟨"OliveMill", "ifPressed", "(III)I"⟩, 6), (⟨"OliveMill", "reasonAgainstAppeal", "(I)I"⟩, 6), (⟨"OliveMill", "secondOilOf", "(I)I"⟩, 6), (⟨"OliveMill", "mixedWithTanks", "(J)J"⟩, 6), (⟨"OliveMill", "checkTank", "(I)V"⟩, 6), (⟨"OliveMill$Cellar", "greatestRemainder", "()I"⟩, 3), (⟨"OliveMill$Cellar", "roundUp", "(I)V"⟩, 3), (⟨"OliveMill", "mixedWithVarieties", "(J)J"⟩, 6), (⟨"OliveMill", "enterLot", "(IIIII)I"⟩, 6), (⟨"OliveMill", "enterPressedLot", "(I)V"⟩, 6)]
theorem lw_r2 : ∀ q ∈ lw_privs_2, lw_okq q := List.forall_mem_cons.mpr ⟨lw_p16, List.forall_mem_cons.mpr ⟨lw_p17, List.forall_mem_cons.mpr ⟨lw_p18, List.forall_mem_cons.mpr ⟨lw_p19, List.forall_mem_cons.mpr ⟨lw_p20, List.forall_mem_cons.mpr ⟨lw_p21, List.forall_mem_cons.mpr ⟨lw_p22, List.forall_mem_cons.mpr ⟨lw_p23, List.forall_mem_cons.mpr ⟨lw_p24, List.forall_mem_cons.mpr ⟨lw_p25, List.forall_mem_cons.mpr ⟨lw_p26, List.forall_mem_cons.mpr ⟨lw_p27, List.forall_mem_cons.mpr ⟨lw_p28, List.forall_mem_cons.mpr ⟨lw_p29, List.forall_mem_cons.mpr ⟨lw_p30, List.forall_mem_cons.mpr ⟨lw_p31, fun _ h => absurd h List.not_mem_nil⟩⟩⟩⟩⟩⟩⟩⟩⟩⟩⟩⟩⟩⟩⟩⟩
theorem lw_p32 : lw_okq (⟨"OliveMill", "pourPressedOil", "(I)V"⟩, 6) := ⟨⟨by decide +kernel, by decide +kernel⟩, List.mem_of_getElem? (i := 19) (by decide +kernel), List.mem_of_getElem? (i := 739) (by decide +kernel), List.mem_of_getElem? (i := 740) (by decide +kernel)⟩
theorem lw_p33 : lw_okq (⟨"OliveMill", "settleAppeal", "(II)V"⟩, 6) := ⟨⟨by decide +kernel, by decide +kernel⟩, List.mem_of_getElem? (i := 19) (by decide +kernel), List.mem_of_getElem? (i := 760) (by decide +kernel), List.mem_of_getElem? (i := 761) (by decide +kernel)⟩
theorem lw_p34 : lw_okq (⟨"OliveMill", "enterSlips", "()I"⟩, 6) := ⟨⟨by decide +kernel, by decide +kernel⟩, List.mem_of_getElem? (i := 19) (by decide +kernel), List.mem_of_getElem? (i := 823) (by decide +kernel), List.mem_of_getElem? (i := 824) (by decide +kernel)⟩
theorem lw_p35 : lw_okq (⟨"OliveMillModel", "save", "()V"⟩, 23) := ⟨⟨by decide +kernel, by decide +kernel⟩, List.mem_of_getElem? (i := 894) (by decide +kernel), List.mem_of_getElem? (i := 978) (by decide +kernel), List.mem_of_getElem? (i := 979) (by decide +kernel)⟩
theorem lw_p36 : lw_okq (⟨"OliveMillModel", "refusedLot", "(IIIII)I"⟩, 23) := ⟨⟨by decide +kernel, by decide +kernel⟩, List.mem_of_getElem? (i := 894) (by decide +kernel), List.mem_of_getElem? (i := 986) (by decide +kernel), List.mem_of_getElem? (i := 987) (by decide +kernel)⟩
theorem lw_p37 : lw_okq (⟨"OliveMillModel", "isGrower", "(I)Z"⟩, 23) := ⟨⟨by decide +kernel, by decide +kernel⟩, List.mem_of_getElem? (i := 894) (by decide +kernel), List.mem_of_getElem? (i := 996) (by decide +kernel), List.mem_of_getElem? (i := 997) (by decide +kernel)⟩
theorem lw_p38 : lw_okq (⟨"OliveMillModel", "putLot", "(IIIII)I"⟩, 23) := ⟨⟨by decide +kernel, by decide +kernel⟩, List.mem_of_getElem? (i := 894) (by decide +kernel), List.mem_of_getElem? (i := 1000) (by decide +kernel), List.mem_of_getElem? (i := 1001) (by decide +kernel)⟩
theorem lw_p39 : lw_okq (⟨"OliveMillModel", "setLot", "(III)V"⟩, 23) := ⟨⟨by decide +kernel, by decide +kernel⟩, List.mem_of_getElem? (i := 894) (by decide +kernel), List.mem_of_getElem? (i := 1004) (by decide +kernel), List.mem_of_getElem? (i := 1005) (by decide +kernel)⟩
theorem lw_p40 : lw_okq (⟨"OliveMillModel", "isTank", "(I)Z"⟩, 23) := ⟨⟨by decide +kernel, by decide +kernel⟩, List.mem_of_getElem? (i := 894) (by decide +kernel), List.mem_of_getElem? (i := 1030) (by decide +kernel), List.mem_of_getElem? (i := 1031) (by decide +kernel)⟩
theorem lw_p41 : lw_okq (⟨"OliveMillModel", "reason", "(IZ)I"⟩, 23) := ⟨⟨by decide +kernel, by decide +kernel⟩, List.mem_of_getElem? (i := 894) (by decide +kernel), List.mem_of_getElem? (i := 1034) (by decide +kernel), List.mem_of_getElem? (i := 1035) (by decide +kernel)⟩
theorem lw_p42 : lw_okq (⟨"OliveMillModel", "layNextNow", "()Z"⟩, 23) := ⟨⟨by decide +kernel, by decide +kernel⟩, List.mem_of_getElem? (i := 894) (by decide +kernel), List.mem_of_getElem? (i := 1038) (by decide +kernel), List.mem_of_getElem? (i := 1039) (by decide +kernel)⟩
theorem lw_p43 : lw_okq (⟨"OliveMillModel", "layMill", "()V"⟩, 23) := ⟨⟨by decide +kernel, by decide +kernel⟩, List.mem_of_getElem? (i := 894) (by decide +kernel), List.mem_of_getElem? (i := 1042) (by decide +kernel), List.mem_of_getElem? (i := 1043) (by decide +kernel)⟩
theorem lw_p44 : lw_okq (⟨"OliveMillModel", "ofLot", "(II)I"⟩, 23) := ⟨⟨by decide +kernel, by decide +kernel⟩, List.mem_of_getElem? (i := 894) (by decide +kernel), List.mem_of_getElem? (i := 1046) (by decide +kernel), List.mem_of_getElem? (i := 1047) (by decide +kernel)⟩
theorem lw_p45 : lw_okq (⟨"OliveMillModel", "layNext", "(I)Z"⟩, 23) := ⟨⟨by decide +kernel, by decide +kernel⟩, List.mem_of_getElem? (i := 894) (by decide +kernel), List.mem_of_getElem? (i := 1050) (by decide +kernel), List.mem_of_getElem? (i := 1051) (by decide +kernel)⟩
theorem lw_p46 : lw_okq (⟨"OliveMillModel", "firstWaiting", "(I)I"⟩, 23) := ⟨⟨by decide +kernel, by decide +kernel⟩, List.mem_of_getElem? (i := 894) (by decide +kernel), List.mem_of_getElem? (i := 1054) (by decide +kernel), List.mem_of_getElem? (i := 1055) (by decide +kernel)⟩
theorem lw_p47 : lw_okq (⟨"OliveMillModel", "contentBy", "(II)I"⟩, 23) := ⟨⟨by decide +kernel, by decide +kernel⟩, List.mem_of_getElem? (i := 894) (by decide +kernel), List.mem_of_getElem? (i := 1058) (by decide +kernel), List.mem_of_getElem? (i := 1059) (by decide +kernel)⟩
def lw_privs_3 : List (MethodName × Nat) := [(⟨"OliveMill", "pourPressedOil", "(I)V"⟩, 6), (⟨"OliveMill", "settleAppeal", "(II)V"⟩, 6), (⟨"OliveMill", "enterSlips", "()I"⟩, 6), (⟨"OliveMillModel", "save", "()V"⟩, 23), (⟨"OliveMillModel", "refusedLot", "(IIIII)I"⟩, 23), (⟨"OliveMillModel", "isGrower", "(I)Z"⟩, 23), (⟨"OliveMillModel", "putLot", "(IIIII)I"⟩, 23), (⟨"OliveMillModel", "setLot", "(III)V"⟩, 23), (⟨"OliveMillModel", "isTank", "(I)Z"⟩, 23), (⟨"OliveMillModel", "reason", "(IZ)I"⟩, 23), (⟨"OliveMillModel", "layNextNow", "()Z"⟩, 23), (⟨"OliveMillModel", "layMill", "()V"⟩, 23), (⟨"OliveMillModel", "ofLot", "(II)I"⟩, 23), (⟨"OliveMillModel", "layNext", "(I)Z"⟩, 23), (⟨"OliveMillModel", "firstWaiting", "(I)I"⟩, 23), (⟨"OliveMillModel", "contentBy", "(II)I"⟩, 23)]
theorem lw_r3 : ∀ q ∈ lw_privs_3, lw_okq q := List.forall_mem_cons.mpr ⟨lw_p32, List.forall_mem_cons.mpr ⟨lw_p33, List.forall_mem_cons.mpr ⟨lw_p34, List.forall_mem_cons.mpr ⟨lw_p35, List.forall_mem_cons.mpr ⟨lw_p36, List.forall_mem_cons.mpr ⟨lw_p37, List.forall_mem_cons.mpr ⟨lw_p38, List.forall_mem_cons.mpr ⟨lw_p39, List.forall_mem_cons.mpr ⟨lw_p40, List.forall_mem_cons.mpr ⟨lw_p41, List.forall_mem_cons.mpr ⟨lw_p42, List.forall_mem_cons.mpr ⟨lw_p43, List.forall_mem_cons.mpr ⟨lw_p44, List.forall_mem_cons.mpr ⟨lw_p45, List.forall_mem_cons.mpr ⟨lw_p46, List.forall_mem_cons.mpr ⟨lw_p47, fun _ h => absurd h List.not_mem_nil⟩⟩⟩⟩⟩⟩⟩⟩⟩⟩⟩⟩⟩⟩⟩⟩
theorem lw_p48 : lw_okq (⟨"OliveMillModel", "roomIn", "(I)I"⟩, 23) := ⟨⟨by decide +kernel, by decide +kernel⟩, List.mem_of_getElem? (i := 894) (by decide +kernel), List.mem_of_getElem? (i := 1062) (by decide +kernel), List.mem_of_getElem? (i := 1063) (by decide +kernel)⟩
theorem lw_p49 : lw_okq (⟨"OliveMillModel", "ofTank", "(II)I"⟩, 23) := ⟨⟨by decide +kernel, by decide +kernel⟩, List.mem_of_getElem? (i := 894) (by decide +kernel), List.mem_of_getElem? (i := 1066) (by decide +kernel), List.mem_of_getElem? (i := 1067) (by decide +kernel)⟩
theorem lw_p50 : lw_okq (⟨"OliveMillModel", "oilOf", "(I)I"⟩, 23) := ⟨⟨by decide +kernel, by decide +kernel⟩, List.mem_of_getElem? (i := 894) (by decide +kernel), List.mem_of_getElem? (i := 1070) (by decide +kernel), List.mem_of_getElem? (i := 1071) (by decide +kernel)⟩
theorem lw_p51 : lw_okq (⟨"OliveMillModel", "gradeOfLot", "(I)I"⟩, 23) := ⟨⟨by decide +kernel, by decide +kernel⟩, List.mem_of_getElem? (i := 894) (by decide +kernel), List.mem_of_getElem? (i := 1074) (by decide +kernel), List.mem_of_getElem? (i := 1075) (by decide +kernel)⟩
theorem lw_p52 : lw_okq (⟨"OliveMillModel", "suits", "(IIZ)Z"⟩, 23) := ⟨⟨by decide +kernel, by decide +kernel⟩, List.mem_of_getElem? (i := 894) (by decide +kernel), List.mem_of_getElem? (i := 1078) (by decide +kernel), List.mem_of_getElem? (i := 1079) (by decide +kernel)⟩
theorem lw_p53 : lw_okq (⟨"OliveMillModel", "gradeOf", "(I)I"⟩, 23) := ⟨⟨by decide +kernel, by decide +kernel⟩, List.mem_of_getElem? (i := 894) (by decide +kernel), List.mem_of_getElem? (i := 1082) (by decide +kernel), List.mem_of_getElem? (i := 1083) (by decide +kernel)⟩
theorem lw_p54 : lw_okq (⟨"OliveMillModel", "cleanNow", "(I)V"⟩, 23) := ⟨⟨by decide +kernel, by decide +kernel⟩, List.mem_of_getElem? (i := 894) (by decide +kernel), List.mem_of_getElem? (i := 1086) (by decide +kernel), List.mem_of_getElem? (i := 1087) (by decide +kernel)⟩
theorem lw_p55 : lw_okq (⟨"OliveMillModel", "pour", "(IIII)V"⟩, 23) := ⟨⟨by decide +kernel, by decide +kernel⟩, List.mem_of_getElem? (i := 894) (by decide +kernel), List.mem_of_getElem? (i := 1090) (by decide +kernel), List.mem_of_getElem? (i := 1091) (by decide +kernel)⟩
theorem lw_p56 : lw_okq (⟨"OliveMillModel", "isLot", "(I)Z"⟩, 23) := ⟨⟨by decide +kernel, by decide +kernel⟩, List.mem_of_getElem? (i := 894) (by decide +kernel), List.mem_of_getElem? (i := 1102) (by decide +kernel), List.mem_of_getElem? (i := 1103) (by decide +kernel)⟩
theorem lw_p57 : lw_okq (⟨"OliveMillModel", "whyNoAppeal", "(I)I"⟩, 23) := ⟨⟨by decide +kernel, by decide +kernel⟩, List.mem_of_getElem? (i := 894) (by decide +kernel), List.mem_of_getElem? (i := 1106) (by decide +kernel), List.mem_of_getElem? (i := 1107) (by decide +kernel)⟩
theorem lw_p58 : lw_okq (⟨"OliveMillModel", "secondOf", "(I)I"⟩, 23) := ⟨⟨by decide +kernel, by decide +kernel⟩, List.mem_of_getElem? (i := 894) (by decide +kernel), List.mem_of_getElem? (i := 1110) (by decide +kernel), List.mem_of_getElem? (i := 1111) (by decide +kernel)⟩
theorem lw_p59 : lw_okq (⟨"OliveMillModel", "layShares", "(II)V"⟩, 23) := ⟨⟨by decide +kernel, by decide +kernel⟩, List.mem_of_getElem? (i := 894) (by decide +kernel), List.mem_of_getElem? (i := 1121) (by decide +kernel), List.mem_of_getElem? (i := 1122) (by decide +kernel)⟩
theorem lw_p60 : lw_okq (⟨"OliveMillModel", "takeShares", "(I)V"⟩, 23) := ⟨⟨by decide +kernel, by decide +kernel⟩, List.mem_of_getElem? (i := 894) (by decide +kernel), List.mem_of_getElem? (i := 1125) (by decide +kernel), List.mem_of_getElem? (i := 1126) (by decide +kernel)⟩
theorem lw_p61 : lw_okq (⟨"OliveMillModel", "canMove", "(IIIZ)Z"⟩, 23) := ⟨⟨by decide +kernel, by decide +kernel⟩, List.mem_of_getElem? (i := 894) (by decide +kernel), List.mem_of_getElem? (i := 1133) (by decide +kernel), List.mem_of_getElem? (i := 1134) (by decide +kernel)⟩
theorem lw_p62 : lw_okq (⟨"OliveMillModel", "rightUpTo", "()I"⟩, 23) := ⟨⟨by decide +kernel, by decide +kernel⟩, List.mem_of_getElem? (i := 894) (by decide +kernel), List.mem_of_getElem? (i := 1153) (by decide +kernel), List.mem_of_getElem? (i := 1154) (by decide +kernel)⟩
theorem lw_p63 : lw_okq (⟨"OliveMillModel", "takes", "(I)Z"⟩, 23) := ⟨⟨by decide +kernel, by decide +kernel⟩, List.mem_of_getElem? (i := 894) (by decide +kernel), List.mem_of_getElem? (i := 1157) (by decide +kernel), List.mem_of_getElem? (i := 1158) (by decide +kernel)⟩
def lw_privs_4 : List (MethodName × Nat) := [(⟨"OliveMillModel", "roomIn", "(I)I"⟩, 23), (⟨"OliveMillModel", "ofTank", "(II)I"⟩, 23), (⟨"OliveMillModel", "oilOf", "(I)I"⟩, 23), (⟨"OliveMillModel", "gradeOfLot", "(I)I"⟩, 23), (⟨"OliveMillModel", "suits", "(IIZ)Z"⟩, 23), (⟨"OliveMillModel", "gradeOf", "(I)I"⟩, 23), (⟨"OliveMillModel", "cleanNow", "(I)V"⟩, 23), (⟨"OliveMillModel", "pour", "(IIII)V"⟩, 23), (⟨"OliveMillModel", "isLot", "(I)Z"⟩, 23), (⟨"OliveMillModel", "whyNoAppeal", "(I)I"⟩, 23), (⟨"OliveMillModel", "secondOf", "(I)I"⟩, 23), (⟨"OliveMillModel", "layShares", "(II)V"⟩, 23), (⟨"OliveMillModel", "takeShares", "(I)V"⟩, 23), (⟨"OliveMillModel", "canMove", "(IIIZ)Z"⟩, 23), (⟨"OliveMillModel", "rightUpTo", "()I"⟩, 23), (⟨"OliveMillModel", "takes", "(I)Z"⟩, 23)]
theorem lw_r4 : ∀ q ∈ lw_privs_4, lw_okq q := List.forall_mem_cons.mpr ⟨lw_p48, List.forall_mem_cons.mpr ⟨lw_p49, List.forall_mem_cons.mpr ⟨lw_p50, List.forall_mem_cons.mpr ⟨lw_p51, List.forall_mem_cons.mpr ⟨lw_p52, List.forall_mem_cons.mpr ⟨lw_p53, List.forall_mem_cons.mpr ⟨lw_p54, List.forall_mem_cons.mpr ⟨lw_p55, List.forall_mem_cons.mpr ⟨lw_p56, List.forall_mem_cons.mpr ⟨lw_p57, List.forall_mem_cons.mpr ⟨lw_p58, List.forall_mem_cons.mpr ⟨lw_p59, List.forall_mem_cons.mpr ⟨lw_p60, List.forall_mem_cons.mpr ⟨lw_p61, List.forall_mem_cons.mpr ⟨lw_p62, List.forall_mem_cons.mpr ⟨lw_p63, fun _ h => absurd h List.not_mem_nil⟩⟩⟩⟩⟩⟩⟩⟩⟩⟩⟩⟩⟩⟩⟩⟩
theorem lw_p64 : lw_okq (⟨"OliveMillModel", "ends", "(I)Z"⟩, 23) := ⟨⟨by decide +kernel, by decide +kernel⟩, List.mem_of_getElem? (i := 894) (by decide +kernel), List.mem_of_getElem? (i := 1161) (by decide +kernel), List.mem_of_getElem? (i := 1162) (by decide +kernel)⟩
theorem lw_p65 : lw_okq (⟨"OliveMillModel", "isEnded", "()Z"⟩, 23) := ⟨⟨by decide +kernel, by decide +kernel⟩, List.mem_of_getElem? (i := 894) (by decide +kernel), List.mem_of_getElem? (i := 1165) (by decide +kernel), List.mem_of_getElem? (i := 1166) (by decide +kernel)⟩
theorem lw_p66 : lw_okq (⟨"OliveMillModel", "takesDigit", "(I)Z"⟩, 23) := ⟨⟨by decide +kernel, by decide +kernel⟩, List.mem_of_getElem? (i := 894) (by decide +kernel), List.mem_of_getElem? (i := 1169) (by decide +kernel), List.mem_of_getElem? (i := 1170) (by decide +kernel)⟩
theorem lw_p67 : lw_okq (⟨"OliveMillModel", "adds", "(I)Z"⟩, 23) := ⟨⟨by decide +kernel, by decide +kernel⟩, List.mem_of_getElem? (i := 894) (by decide +kernel), List.mem_of_getElem? (i := 1180) (by decide +kernel), List.mem_of_getElem? (i := 1181) (by decide +kernel)⟩
theorem lw_p68 : lw_okq (⟨"OliveMillModel", "growerNow", "(II)I"⟩, 23) := ⟨⟨by decide +kernel, by decide +kernel⟩, List.mem_of_getElem? (i := 894) (by decide +kernel), List.mem_of_getElem? (i := 1192) (by decide +kernel), List.mem_of_getElem? (i := 1193) (by decide +kernel)⟩
theorem lw_p69 : lw_okq (⟨"OliveMillModel", "lotsOf", "(IIZ)I"⟩, 23) := ⟨⟨by decide +kernel, by decide +kernel⟩, List.mem_of_getElem? (i := 894) (by decide +kernel), List.mem_of_getElem? (i := 1196) (by decide +kernel), List.mem_of_getElem? (i := 1197) (by decide +kernel)⟩
theorem lw_p70 : lw_okq (⟨"OliveMillModel", "lotNow", "(II)I"⟩, 23) := ⟨⟨by decide +kernel, by decide +kernel⟩, List.mem_of_getElem? (i := 894) (by decide +kernel), List.mem_of_getElem? (i := 1204) (by decide +kernel), List.mem_of_getElem? (i := 1205) (by decide +kernel)⟩
theorem lw_p71 : lw_okq (⟨"OliveMillModel", "tankNow", "(II)I"⟩, 23) := ⟨⟨by decide +kernel, by decide +kernel⟩, List.mem_of_getElem? (i := 894) (by decide +kernel), List.mem_of_getElem? (i := 1212) (by decide +kernel), List.mem_of_getElem? (i := 1213) (by decide +kernel)⟩
theorem lw_p72 : lw_okq (⟨"OliveMillModel", "varietyNow", "(II)I"⟩, 23) := ⟨⟨by decide +kernel, by decide +kernel⟩, List.mem_of_getElem? (i := 894) (by decide +kernel), List.mem_of_getElem? (i := 1220) (by decide +kernel), List.mem_of_getElem? (i := 1221) (by decide +kernel)⟩
theorem lw_p73 : lw_okq (⟨"OliveMillModel", "inTanks", "(I)I"⟩, 23) := ⟨⟨by decide +kernel, by decide +kernel⟩, List.mem_of_getElem? (i := 894) (by decide +kernel), List.mem_of_getElem? (i := 1224) (by decide +kernel), List.mem_of_getElem? (i := 1225) (by decide +kernel)⟩
theorem lw_p74 : lw_okq (⟨"OliveMillModel", "counted", "(I)I"⟩, 23) := ⟨⟨by decide +kernel, by decide +kernel⟩, List.mem_of_getElem? (i := 894) (by decide +kernel), List.mem_of_getElem? (i := 1232) (by decide +kernel), List.mem_of_getElem? (i := 1233) (by decide +kernel)⟩
theorem lw_p75 : lw_okq (⟨"OliveMillModel", "sumOil", "(Z)I"⟩, 23) := ⟨⟨by decide +kernel, by decide +kernel⟩, List.mem_of_getElem? (i := 894) (by decide +kernel), List.mem_of_getElem? (i := 1236) (by decide +kernel), List.mem_of_getElem? (i := 1237) (by decide +kernel)⟩
theorem lw_p76 : lw_okq (⟨"OliveMillModel", "accounts", "()I"⟩, 23) := ⟨⟨by decide +kernel, by decide +kernel⟩, List.mem_of_getElem? (i := 894) (by decide +kernel), List.mem_of_getElem? (i := 1240) (by decide +kernel), List.mem_of_getElem? (i := 1241) (by decide +kernel)⟩
theorem lw_p77 : lw_okq (⟨"OliveMillModel", "nextNow", "(I)I"⟩, 23) := ⟨⟨by decide +kernel, by decide +kernel⟩, List.mem_of_getElem? (i := 894) (by decide +kernel), List.mem_of_getElem? (i := 1256) (by decide +kernel), List.mem_of_getElem? (i := 1257) (by decide +kernel)⟩
theorem lw_p78 : lw_okq (⟨"OliveMillModel", "takenNow", "(III)I"⟩, 23) := ⟨⟨by decide +kernel, by decide +kernel⟩, List.mem_of_getElem? (i := 894) (by decide +kernel), List.mem_of_getElem? (i := 1264) (by decide +kernel), List.mem_of_getElem? (i := 1265) (by decide +kernel)⟩
theorem lw_p79 : lw_okq (⟨"OliveMillModel", "oilBehind", "(II)I"⟩, 23) := ⟨⟨by decide +kernel, by decide +kernel⟩, List.mem_of_getElem? (i := 894) (by decide +kernel), List.mem_of_getElem? (i := 1272) (by decide +kernel), List.mem_of_getElem? (i := 1273) (by decide +kernel)⟩
def lw_privs_5 : List (MethodName × Nat) := [(⟨"OliveMillModel", "ends", "(I)Z"⟩, 23), (⟨"OliveMillModel", "isEnded", "()Z"⟩, 23), (⟨"OliveMillModel", "takesDigit", "(I)Z"⟩, 23), (⟨"OliveMillModel", "adds", "(I)Z"⟩, 23), (⟨"OliveMillModel", "growerNow", "(II)I"⟩, 23), (⟨"OliveMillModel", "lotsOf", "(IIZ)I"⟩, 23), (⟨"OliveMillModel", "lotNow", "(II)I"⟩, 23), (⟨"OliveMillModel", "tankNow", "(II)I"⟩, 23), (⟨"OliveMillModel", "varietyNow", "(II)I"⟩, 23), (⟨"OliveMillModel", "inTanks", "(I)I"⟩, 23), (⟨"OliveMillModel", "counted", "(I)I"⟩, 23), (⟨"OliveMillModel", "sumOil", "(Z)I"⟩, 23), (⟨"OliveMillModel", "accounts", "()I"⟩, 23), (⟨"OliveMillModel", "nextNow", "(I)I"⟩, 23), (⟨"OliveMillModel", "takenNow", "(III)I"⟩, 23), (⟨"OliveMillModel", "oilBehind", "(II)I"⟩, 23)]
theorem lw_r5 : ∀ q ∈ lw_privs_5, lw_okq q := List.forall_mem_cons.mpr ⟨lw_p64, List.forall_mem_cons.mpr ⟨lw_p65, List.forall_mem_cons.mpr ⟨lw_p66, List.forall_mem_cons.mpr ⟨lw_p67, List.forall_mem_cons.mpr ⟨lw_p68, List.forall_mem_cons.mpr ⟨lw_p69, List.forall_mem_cons.mpr ⟨lw_p70, List.forall_mem_cons.mpr ⟨lw_p71, List.forall_mem_cons.mpr ⟨lw_p72, List.forall_mem_cons.mpr ⟨lw_p73, List.forall_mem_cons.mpr ⟨lw_p74, List.forall_mem_cons.mpr ⟨lw_p75, List.forall_mem_cons.mpr ⟨lw_p76, List.forall_mem_cons.mpr ⟨lw_p77, List.forall_mem_cons.mpr ⟨lw_p78, List.forall_mem_cons.mpr ⟨lw_p79, fun _ h => absurd h List.not_mem_nil⟩⟩⟩⟩⟩⟩⟩⟩⟩⟩⟩⟩⟩⟩⟩⟩
theorem lw_p80 : lw_okq (⟨"OliveMillModel", "lossNow", "(I)I"⟩, 23) := ⟨⟨by decide +kernel, by decide +kernel⟩, List.mem_of_getElem? (i := 894) (by decide +kernel), List.mem_of_getElem? (i := 1280) (by decide +kernel), List.mem_of_getElem? (i := 1281) (by decide +kernel)⟩
theorem lw_p81 : lw_okq (⟨"OliveMillModel", "tankForNext", "()I"⟩, 23) := ⟨⟨by decide +kernel, by decide +kernel⟩, List.mem_of_getElem? (i := 894) (by decide +kernel), List.mem_of_getElem? (i := 1288) (by decide +kernel), List.mem_of_getElem? (i := 1289) (by decide +kernel)⟩
theorem lw_p82 : lw_okq (⟨"OliveMillModel", "share", "()D"⟩, 23) := ⟨⟨by decide +kernel, by decide +kernel⟩, List.mem_of_getElem? (i := 894) (by decide +kernel), List.mem_of_getElem? (i := 1296) (by decide +kernel), List.mem_of_getElem? (i := 1297) (by decide +kernel)⟩
theorem lw_p83 : lw_okq (⟨"OliveMillModel", "mix", "(J)V"⟩, 23) := ⟨⟨by decide +kernel, by decide +kernel⟩, List.mem_of_getElem? (i := 894) (by decide +kernel), List.mem_of_getElem? (i := 1305) (by decide +kernel), List.mem_of_getElem? (i := 1306) (by decide +kernel)⟩
theorem lw_p84 : lw_okq (⟨"OliveMillModel", "mixTank", "(I)V"⟩, 23) := ⟨⟨by decide +kernel, by decide +kernel⟩, List.mem_of_getElem? (i := 894) (by decide +kernel), List.mem_of_getElem? (i := 1310) (by decide +kernel), List.mem_of_getElem? (i := 1311) (by decide +kernel)⟩
def lw_privs_6 : List (MethodName × Nat) := [(⟨"OliveMillModel", "lossNow", "(I)I"⟩, 23), (⟨"OliveMillModel", "tankForNext", "()I"⟩, 23), (⟨"OliveMillModel", "share", "()D"⟩, 23), (⟨"OliveMillModel", "mix", "(J)V"⟩, 23), (⟨"OliveMillModel", "mixTank", "(I)V"⟩, 23)]
theorem lw_r6 : ∀ q ∈ lw_privs_6, lw_okq q := List.forall_mem_cons.mpr ⟨lw_p80, List.forall_mem_cons.mpr ⟨lw_p81, List.forall_mem_cons.mpr ⟨lw_p82, List.forall_mem_cons.mpr ⟨lw_p83, List.forall_mem_cons.mpr ⟨lw_p84, fun _ h => absurd h List.not_mem_nil⟩⟩⟩⟩⟩
def lw_privs : List (MethodName × Nat) := lw_privs_1 ++ (lw_privs_2 ++ (lw_privs_3 ++ (lw_privs_4 ++ (lw_privs_5 ++ (lw_privs_6)))))
def lw_tbl : List Cond := k2_sels lw_privs ++ tables_1
theorem lw_privs_ok : ∀ q ∈ lw_privs, lw_okq q := by
  show ∀ q ∈ lw_privs_1 ++ (lw_privs_2 ++ (lw_privs_3 ++ (lw_privs_4 ++ (lw_privs_5 ++ (lw_privs_6))))), lw_okq q
  exact List.forall_mem_append.mpr ⟨lw_r1, List.forall_mem_append.mpr ⟨lw_r2, List.forall_mem_append.mpr ⟨lw_r3, List.forall_mem_append.mpr ⟨lw_r4, List.forall_mem_append.mpr ⟨lw_r5, lw_r6⟩⟩⟩⟩⟩
/-- the streams that the claim lets the run draw from -/
abbrev lw_cs : List Choice := [Jvm.Choice.named "NaN.bits"]
theorem lw_bits : nanBits ∈ lw_cs := by first | decide | exact List.mem_cons_self | simp [lw_cs, nanBits]
/-! ===== BEGIN words of one list among another's, by their places ===== -/
theorem goodIn_r {big : List Cond} (ws : List Cond) (ps : List Nat) (hp : ws = ps.filterMap (fun i => big[i]?)) (h : ws.all goodWord = true) : GoodIn big ws := by
  intro w hw
  have h1 := List.all_eq_true.mp h w hw
  rw [hp] at hw
  obtain ⟨i, -, hi⟩ := List.mem_filterMap.mp hw
  have hm : w ∈ big := by first | exact List.mem_of_getElem? hi | exact List.getElem?_mem hi
  exact ⟨hm, good_of_word h1⟩
theorem goodIn_app {big a b : List Cond} (ha : GoodIn big a) (hb : GoodIn big b) : GoodIn big (a ++ b) := fun w h => (List.mem_append.mp h).elim (ha w) (hb w)
theorem goodIn_ca {big a b : List Cond} {c : Cond} (ha : GoodIn big (c :: a)) (hb : GoodIn big b) : GoodIn big (c :: (a ++ b)) := fun w h => (List.mem_cons.mp h).elim (fun e => ha w (List.mem_cons.mpr (Or.inl e))) (fun h => (List.mem_append.mp h).elim (fun h => ha w (List.mem_cons.mpr (Or.inr h))) (hb w))
theorem goodIn_sub {big ws : List Cond} (hm : ∀ w ∈ ws, w ∈ big) (h : ws.all goodWord = true) : GoodIn big ws := fun w hw => ⟨hm w hw, good_of_word (List.all_eq_true.mp h w hw)⟩
/-! ===== END ===== -/

/-! ===== BEGIN exceptions that leave a method, and their catching by the caller (launches without stack traces) ===== -/
section VXA
/-! The laws vx_back, vx_callV, vx_callS, vx_callSW, vx_throw0, vx_throwS follow proofs of the library, with one case more: JvmDerived/Free/Laws.lean (Back.of_free), Shelf42/LK1.lean (callV, callS), Shelf/KitTraced.lean (throwNew0V, throwNewS). -/
/-- where a method has thrown q: the class by its name, the cell, what was written, the world -/
def vx_T (XC : String → State → State → Prop) (st : State) (q : Addr) (t : State) (mc ms : Nat) (free : Addr → Prop) : Prop :=
  ∃ (E : String) (ce : Cell) (L : List Loc), XC E st t ∧ t.heap[q]? = some ce ∧ ce.vm = .none ∧ st.vm.findClass E = some ce.cls ∧ st.WarmedH t.vm ∧ st.sameButNew ({ t with vm := st.vm } : State) L mc ms ∧ ∀ z ∈ L, free z.base
def vx_Q (Qc : Array Value → State → Outcome → State → Prop) (XC : String → State → State → Prop) (mc ms : Nat) (free : Addr → Prop) : Array Value → State → Outcome → State → Prop := fun a st o t =>
  (Qc a st o t ∧ ∃ L, FrameEnd st o t L mc ms ∧ ∀ q ∈ L, free q.base) ∨ ∃ q, o = .threw q ∧ vx_T XC st q t mc ms free
/-- a callee that returns or throws -/
def vx_Met (l : Launch) (y : MethodName) (ws : List Cond) (rm : Room) (Pc : Array Value → State → Prop) (Qc : Array Value → State → Outcome → State → Prop) (XC : String → State → State → Prop) (mc ms : Nat) (free : Addr → Prop) : Prop :=
  MetFree l y (headSpec ws rm) Pc (fun _ _ _ _ _ => True) (vx_Q Qc XC mc ms free)
def vx_Post (XC : String → State → State → Prop) (mc ms : Nat) (free : Addr → Prop) : Pt → Array Value → Addr → Pt → Prop := fun A a q B =>
  ∃ (g : JFrame) (mk : MethodId) (t : State) (L : List Loc) (E : String) (ce : Cell), B.U.heap = t.heap ∧ B.U.vm = t.vm ∧ XC E (A.U.calling g mk a) t ∧ t.heap[q]? = some ce ∧ ce.vm = .none ∧ A.U.vm.findClass E = some ce.cls ∧ B.locs = A.locs ++ L ∧ (∀ z ∈ L, free z.base) ∧ B.cells = A.cells + mc ∧ B.slots = A.slots + ms
def vx_Back (l : Launch) (R : Room) (p : Program) (e : Env) (below : List Frame) (s : State) (sargs : Array Value) (y : MethodName) (len W9 : Nat)
    (Pre : Pt → Array Value → Prop) (Post : Pt → Array Value → Option Value → Pt → Prop) (PostX : Pt → Array Value → Addr → Pt → Prop) : Prop :=
  ∀ (m : MethodId) (meth : Method) (c : Code) (A : Pt) (g : JFrame) (ig : Instr) (mk : MethodId) (a : Array Value),
    Stand p l e R s m sargs below meth c A.U A.locs A.cells A.slots → g.method = m → g.locals.size = c.maxLocals → decode c.code g.pc = .ok (ig, len) →
    2 * g.monitorRoom + (g.stack.map fun v => v.category).sum ≤ W9 → A.U.methodNamed? y = some mk → Pre A a →
    (∃ (v : Option Value) (B : Pt), Stand p l e R s m sargs below meth c B.U B.locs B.cells B.slots ∧ Post A a v B ∧
      Steps p.tables e below (doInvoke e (A.U.setTop g) [] mk a).1 (B.U.setTop { g with pc := g.pc + len, stack := v.toList ++ g.stack })) ∨
    (∃ (q : Addr) (B : Pt), Stand p l e R s m sargs below meth c B.U B.locs B.cells B.slots ∧ PostX A a q B ∧
      Steps p.tables e below (doInvoke e (A.U.setTop g) [] mk a).1 ((B.U.setTop g).pushFrame (.throwing q)))
section Payer
variable {l : Launch} {R : Room} {p : Program} {e : Env} {below : List Frame} {s : State} {sargs : Array Value} {y : MethodName} {len W9 : Nat}
theorem vx_back {ws : List Cond} {rm : Room} {Pc : Array Value → State → Prop} {Qc : Array Value → State → Outcome → State → Prop} {XC : String → State → State → Prop} {mc ms : Nat} {free : Addr → Prop} {bytes : ByteArray} {maxL : Nat} {ret : Option FieldType}
    (hM : vx_Met l y ws rm Pc Qc XC mc ms free) (hblind : FrameBlind Pc) (hrc : rm.cells = mc) (hrs : rm.slots = ms)
    (hframes : rm.frames + 1 ≤ R.frames) (hlocals : W9 + (maxL + 11) + rm.locals ≤ R.locals)
    (hws : ∀ w ∈ ws, ∀ a' U, s.WarmedH U.vm → w.before a' U = true) (hcode : Cond.code y bytes maxL ret ∈ ws) (hinit : ∀ a' U, s.WarmedH U.vm → (Cond.initialized y.cls).before a' U = true) :
    vx_Back l R p e below s sargs y len W9 (PreOf R mc ms Pc) (PostOf Qc mc ms free) (vx_Post XC mc ms free) := by
  intro m meth c A g ig mk a X hg hsize hdg hW hn hp
  have h1 : (headSpec ws rm).pre.before a A.U = true := atoms_intro fun w hw => hws w hw _ _ X.warmed
  have h2 : (Cond.code y bytes maxL ret).before a A.U = true := hws _ hcode _ _ X.warmed
  have h3 : (Cond.initialized y.cls).before a A.U = true := hinit _ _ X.warmed
  have h4 : A.cells + (headSpec ws rm).room.cells ≤ R.cells := by rw [show (headSpec ws rm).room.cells = mc from hrc]; exact hp.1
  have h5 : A.slots + (headSpec ws rm).room.slots ≤ R.slots := by rw [show (headSpec ws rm).room.slots = ms from hrs]; exact hp.2.1
  have hPc : Pc a (A.U.calling g mk a) := hblind _ _ _ _ hp.2.2
  obtain ⟨U, Ls, c0, s0⟩ := A
  dsimp only [Pt.U, Pt.locs, Pt.cells, Pt.slots] at h1 h2 h3 h4 h5 X hn hPc ⊢
  obtain ⟨methY, cY, hmY, hcY, -, hlY, -, -, -, -⟩ := Cond.code_spec hn h2
  obtain ⟨kY, hkY, -⟩ := className_of_methodNamed hn
  have hinitY : kY.init = .initialized := Cond.initialized_spec (findClass_of_methodNamed hn) hkY h3
  have h : At U g.method c below := by rw [hg]; exact X.here
  have hlocals9 : W9 + (maxL + 11) + (headSpec ws rm).room.locals ≤ R.locals := hlocals
  have happ : (headSpec ws rm).appliesLoose y e.platform (U.calling g mk a) = true :=
    Spec.appliesLoose_calling (g := g) h hdg hn hkY hinitY
      (X.room_calling (g := g) (R' := (headSpec ws rm).room) hsize hmY hcY hframes (by rw [hlY]; omega) h4 h5) h1
  obtain ⟨mid, hmid⟩ := h.above
  have hfr : (U.setTop g).frames = (.java g :: mid) ++ below := by rw [State.frames_setTop' g h.top, hmid]; rfl
  obtain ⟨o, s₂, hsteps, -, hend, hq⟩ := Steps.callFree hM p X.admits X.cas X.clock (acts := []) hfr happ hPc trivial
  have hq' : vx_Q Qc XC mc ms free a (U.calling g mk a) o s₂ := hq
  rw [State.frames_setTop' g h.top] at hend
  obtain ⟨g₀, hg0⟩ := Option.isSome_iff_exists.mp h.top
  obtain ⟨r, hr⟩ := State.topJava?_eq_some.mp hg0
  have hr' : (({ U with heap := s₂.heap, slotsUsed := s₂.slotsUsed } : State).setVm s₂.vm).frames = .java g₀ :: r := hr
  rcases hq' with ⟨hqc, L, hfe, hL⟩ | ⟨q, rfl, E, ce, L, hx, hce, hcv, hcl, hW₂, hsm, hL⟩
  · obtain ⟨⟨v, rfl⟩, hW₂, e2, q2, q3, q4, q5, q6⟩ := id hfe
    have e3 : s₂ = ({ (U.calling g mk a).setFrames s₂.frames with heap := s₂.heap, slotsUsed := s₂.slotsUsed } : State).setVm s₂.vm := by
      have : s₂ = ({ s₂ with vm := (U.calling g mk a).vm } : State).setVm s₂.vm := rfl
      rw [e2] at this
      exact this
    obtain ⟨c₂, i₂, len₂, hc₂, hd₂, hf₂⟩ := hend
    have hW' : U.WarmedH s₂.vm := hW₂
    have hcc : c₂ = c := by
      have h1 : s₂.code? g.method = U.code? g.method := by
        rw [State.code?_eq, State.code?_eq, hW'.alike.method?]
      exact Option.some.inj (hc₂.symm.trans (h1.trans h.code))
    subst hcc
    have hlen : len₂ = len := by rw [hdg] at hd₂; cases hd₂; rfl
    subst hlen
    have hs₂ : s₂ = (({ U with heap := s₂.heap, slotsUsed := s₂.slotsUsed } : State).setVm s₂.vm).setTop { g with pc := g.pc + len₂, stack := v.toList ++ g.stack } := by
      refine e3.trans ?_
      rw [hf₂, State.calling_eq h.top, State.setFrames_setFrames, State.setTop_of_frames _ hr', hr]
      rfl
    have hsame : U.sameButNew ({ U with heap := s₂.heap, slotsUsed := s₂.slotsUsed } : State) L mc ms := by
      refine ⟨?_, q2, q3, q4, q5, q6⟩
      obtain ⟨t, ht, -⟩ := State.frames_cons hr
      show ({ U with heap := s₂.heap, slotsUsed := s₂.slotsUsed } : State) = { U.setFrames U.frames with heap := s₂.heap, slotsUsed := s₂.slotsUsed }
      rw [State.setFrames_self ht]
    subst hg
    refine Or.inl ⟨v, ⟨(({ U with heap := s₂.heap, slotsUsed := s₂.slotsUsed } : State).setVm s₂.vm), Ls ++ L, c0 + mc, s0 + ms⟩,
      ⟨X.admits, X.cas, X.clock, X.frames, X.room, X.hears, X.method, X.code, (X.here.setHeapUsed s₂.heap s₂.slotsUsed).setVm hW'.alike, X.tail, State.WarmedH.trans X.warmed hW', X.limits, X.bytes, X.same.trans (hsame.setVm s.vm)⟩,
      ⟨g, mk, s₂, L, rfl, rfl, hqc, rfl, hL, rfl, rfl⟩, ?_⟩
    show Steps p.tables e below _ ((({ U with heap := s₂.heap, slotsUsed := s₂.slotsUsed } : State).setVm s₂.vm).setTop { g with pc := g.pc + len₂, stack := v.toList ++ g.stack })
    rw [← hs₂]
    exact hsteps
  · obtain ⟨e2, q2, q3, q4, q5, q6⟩ := id hsm
    have e3 : s₂ = ({ (U.calling g mk a).setFrames s₂.frames with heap := s₂.heap, slotsUsed := s₂.slotsUsed } : State).setVm s₂.vm := by
      have : s₂ = ({ s₂ with vm := (U.calling g mk a).vm } : State).setVm s₂.vm := rfl
      rw [e2] at this
      exact this
    have hf₂ : s₂.frames = .throwing q :: .java g :: U.frames.tail := hend
    have hW' : U.WarmedH s₂.vm := hW₂
    have hs₂ : s₂ = ((({ U with heap := s₂.heap, slotsUsed := s₂.slotsUsed } : State).setVm s₂.vm).setTop g).pushFrame (.throwing q) := by
      refine e3.trans ?_
      rw [hf₂, State.calling_eq h.top, State.setFrames_setFrames, State.pushFrame, State.frames_setTop _ hr', State.setTop_of_frames _ hr', State.setFrames_setFrames, hr]
      rfl
    have hsame : U.sameButNew ({ U with heap := s₂.heap, slotsUsed := s₂.slotsUsed } : State) L mc ms := by
      refine ⟨?_, q2, q3, q4, q5, q6⟩
      obtain ⟨t, ht, -⟩ := State.frames_cons hr
      show ({ U with heap := s₂.heap, slotsUsed := s₂.slotsUsed } : State) = { U.setFrames U.frames with heap := s₂.heap, slotsUsed := s₂.slotsUsed }
      rw [State.setFrames_self ht]
    subst hg
    refine Or.inr ⟨q, ⟨(({ U with heap := s₂.heap, slotsUsed := s₂.slotsUsed } : State).setVm s₂.vm), Ls ++ L, c0 + mc, s0 + ms⟩,
      ⟨X.admits, X.cas, X.clock, X.frames, X.room, X.hears, X.method, X.code, (X.here.setHeapUsed s₂.heap s₂.slotsUsed).setVm hW'.alike, X.tail, State.WarmedH.trans X.warmed hW', X.limits, X.bytes, X.same.trans (hsame.setVm s.vm)⟩,
      ⟨g, mk, s₂, L, E, ce, rfl, rfl, hx, hce, hcv, hcl, rfl, hL, rfl, rfl⟩, ?_⟩
    show Steps p.tables e below _ (((({ U with heap := s₂.heap, slotsUsed := s₂.slotsUsed } : State).setVm s₂.vm).setTop g).pushFrame (.throwing q))
    rw [← hs₂]
    exact hsteps
end Payer
section Calls
variable {p : Program} {l : Launch} {e : Env} {R : Room} {s : State} {m : MethodId} {args : Array Value} {below : List Frame} {meth : Method} {c : Code} {T : State} {locs : List Loc} {cells slots : Nat}
theorem vx_callV (X : Stand p l e R s m args below meth c T locs cells slots) (hexec : p.tables.exec = Jvm.exec) {own C : String} {index : Nat} {y : MethodName} {bytes : ByteArray} {maxL : Nat} {ret : Option FieldType}
    (hown : s.vm.findClass own = some m.cls) (hlink : (Cond.methodLink own index y).before args s = true) (hinst : (Cond.instanceMethod y).before args s = true) (hsel : (Cond.selects C y y).before args s = true)
    (hcode : (Cond.code y bytes maxL ret).before args s = true) (hy : y.cls ≠ "java/lang/invoke/MethodHandle" ∧ y.cls ≠ "java/lang/invoke/VarHandle")
    {W9 : Nat} {Pre : Pt → Array Value → Prop} {Post : Pt → Array Value → Option Value → Pt → Prop} {PostX : Pt → Array Value → Addr → Pt → Prop} (hK : vx_Back l R p e below s args y 3 W9 Pre Post PostX)
    {b : Addr} {cellB : Cell} (hcell : T.heap[b]? = some cellB) (hobj : cellB.vm.isStatics = false) (hcls : s.vm.findClass C = some cellB.cls)
    {g : JFrame} (hg : g.method = m) (hsize : g.locals.size = c.maxLocals) {argsL rest : List Value} (hlen : ∀ sig, parseMethodDescriptor y.desc = some sig → argsL.length = sig.parameters.length)
    (hstack : g.stack = argsL.reverse ++ .ref b :: rest) (hW : 2 * g.monitorRoom + (rest.map fun v => v.category).sum ≤ W9) (hdg : decode c.code g.pc = .ok (.invokevirtual index, 3))
    (hpre : ∀ vm₁, s.WarmedH vm₁ → Pre ⟨T.setVm vm₁, locs, cells, slots⟩ (Value.ref b :: argsL).toArray) :
    (∃ (v : Option Value) (vm₁ : Vm) (B : Pt), s.WarmedH vm₁ ∧ Stand p l e R s m args below meth c B.U B.locs B.cells B.slots ∧ Post ⟨T.setVm vm₁, locs, cells, slots⟩ (Value.ref b :: argsL).toArray v B ∧
      ∀ target, Steps p.tables e below (B.U.setTop { g with pc := g.pc + 3, stack := v.toList ++ rest }) target → Steps p.tables e below (T.setTop g) target) ∨
    (∃ (q : Addr) (vm₁ : Vm) (B : Pt), s.WarmedH vm₁ ∧ Stand p l e R s m args below meth c B.U B.locs B.cells B.slots ∧ PostX ⟨T.setVm vm₁, locs, cells, slots⟩ (Value.ref b :: argsL).toArray q B ∧
      Steps p.tables e below (T.setTop g) ((B.U.setTop { g with stack := rest }).pushFrame (.throwing q))) := by
  obtain ⟨mk, methM, hnamed, hmethM, hstM, habM⟩ := Cond.instanceMethod_spec hinst
  obtain ⟨methM', cM, hmethM', -, -, -, -, -, -, hsigM⟩ := Cond.code_spec hnamed hcode
  cases hmethM.symm.trans hmethM'
  obtain ⟨c2, r2, m2, q1, q2, q3, q4, kP, hkP, hkPi⟩ := Cond.selects_spec hsel
  cases hcls.symm.trans q1
  cases (State.methodFound?_of_named hnamed hy).symm.trans q2
  cases hnamed.symm.trans q3
  have hselP : selectMethod e.platform s.vm cellB.cls mk = .method mk := by rw [Launch.admits_selectMethod X.admits]; exact q4
  obtain ⟨vm₁, X₁, hstep₁⟩ := X.invokevirtual hexec hown hlink hnamed hmethM hstM hkP hkPi hy (a := b) (cell := cellB) hcell
    (fun z h => by rw [h] at hobj; cases hobj) hselP hmethM habM hkP hkPi (g := g) hg (argsL := argsL) (rest := rest) (hlen _ hsigM) hstack hdg
  rcases hK m meth c ⟨T.setVm vm₁, locs, cells, slots⟩ { g with stack := rest } (.invokevirtual index) mk (Value.ref b :: argsL).toArray X₁ hg hsize hdg hW (X₁.named hnamed) (hpre vm₁ X₁.warmed) with ⟨v, B, X', hpost, hsteps⟩ | ⟨q, B, X', hpost, hsteps⟩
  · exact Or.inl ⟨v, vm₁, B, X₁.warmed, X', hpost, fun target h => hstep₁ _ fun acts => by rw [doInvoke_state]; exact hsteps.trans h⟩
  · exact Or.inr ⟨q, vm₁, B, X₁.warmed, X', hpost, hstep₁ _ fun acts => by rw [doInvoke_state]; exact hsteps⟩
theorem vx_callS (X : Stand p l e R s m args below meth c T locs cells slots) (hexec : p.tables.exec = Jvm.exec) {own : String} {index : Nat} {y : MethodName} {bytes : ByteArray} {maxL : Nat} {ret : Option FieldType}
    (hown : s.vm.findClass own = some m.cls) (hlink : (Cond.methodLink own index y).before args s = true) (hstat : (Cond.static y).before args s = true) (hinit : (Cond.initialized y.cls).before args s = true)
    (hcode : (Cond.code y bytes maxL ret).before args s = true) (hy : y.cls ≠ "java/lang/invoke/MethodHandle" ∧ y.cls ≠ "java/lang/invoke/VarHandle")
    {W9 : Nat} {Pre : Pt → Array Value → Prop} {Post : Pt → Array Value → Option Value → Pt → Prop} {PostX : Pt → Array Value → Addr → Pt → Prop} (hK : vx_Back l R p e below s args y 3 W9 Pre Post PostX)
    {g : JFrame} (hg : g.method = m) (hsize : g.locals.size = c.maxLocals) {argsL rest : List Value} (hlen : ∀ sig, parseMethodDescriptor y.desc = some sig → argsL.length = sig.parameters.length)
    (hstack : g.stack = argsL.reverse ++ rest) (hW : 2 * g.monitorRoom + (rest.map fun v => v.category).sum ≤ W9) (hdg : decode c.code g.pc = .ok (.invokestatic index, 3))
    (hpre : ∀ vm₁, s.WarmedH vm₁ → Pre ⟨T.setVm vm₁, locs, cells, slots⟩ argsL.toArray) :
    (∃ (v : Option Value) (vm₁ : Vm) (B : Pt), s.WarmedH vm₁ ∧ Stand p l e R s m args below meth c B.U B.locs B.cells B.slots ∧ Post ⟨T.setVm vm₁, locs, cells, slots⟩ argsL.toArray v B ∧
      ∀ target, Steps p.tables e below (B.U.setTop { g with pc := g.pc + 3, stack := v.toList ++ rest }) target → Steps p.tables e below (T.setTop g) target) ∨
    (∃ (q : Addr) (vm₁ : Vm) (B : Pt), s.WarmedH vm₁ ∧ Stand p l e R s m args below meth c B.U B.locs B.cells B.slots ∧ PostX ⟨T.setVm vm₁, locs, cells, slots⟩ argsL.toArray q B ∧
      Steps p.tables e below (T.setTop g) ((B.U.setTop { g with stack := rest }).pushFrame (.throwing q))) := by
  obtain ⟨mk, hnamed⟩ := Cond.code_named hcode
  obtain ⟨methM, cM, hmethM, -, -, -, -, -, -, hsigM⟩ := Cond.code_spec hnamed hcode
  have hstatic : methM.isStatic = true := Cond.static_spec hnamed hmethM hstat
  obtain ⟨kP, hkP, -⟩ := className_of_methodNamed hnamed
  have hinitP : kP.init = .initialized := Cond.initialized_spec (findClass_of_methodNamed hnamed) hkP hinit
  obtain ⟨vm₁, X₁, hstep₁⟩ := X.invokestatic hexec hown hlink hnamed hmethM hstatic hkP hinitP hy (g := g) hg (argsL := argsL) (rest := rest) (hlen _ hsigM) hstack hdg
  rcases hK m meth c ⟨T.setVm vm₁, locs, cells, slots⟩ { g with stack := rest } (.invokestatic index) mk argsL.toArray X₁ hg hsize hdg hW (X₁.named hnamed) (hpre vm₁ X₁.warmed) with ⟨v, B, X', hpost, hsteps⟩ | ⟨q, B, X', hpost, hsteps⟩
  · exact Or.inl ⟨v, vm₁, B, X₁.warmed, X', hpost, fun target h => hstep₁ _ fun acts => by rw [doInvoke_state]; exact hsteps.trans h⟩
  · exact Or.inr ⟨q, vm₁, B, X₁.warmed, X', hpost, hstep₁ _ fun acts => by rw [doInvoke_state]; exact hsteps⟩
end Calls
theorem vx_cls {s : State} {T : State} {vm₁ : Vm} {E : String} {k : ClassId} (hW : s.WarmedH vm₁) (h : (T.setVm vm₁).vm.findClass E = some k) : s.vm.findClass E = some k := by
  have h1 : vm₁.findClass E = some k := h
  rw [hW.alike.findClass] at h1
  exact h1
/-- the method's frame g, with q thrown over it -/
def vx_W (p : Program) (l : Launch) (e : Env) (R : Room) (s : State) (m : MethodId) (args : Array Value) (below : List Frame) (meth : Method) (c : Code) (H : Heap) (locs : List Loc) (cells slots : Nat) (Q : State → Prop) (g : JFrame) (q : Addr) : Prop :=
  ∀ T : State, T.heap = H → Stand p l e R s m args below meth c T locs cells slots → ∃ t, Steps p.tables e below ((T.setTop g).pushFrame (.throwing q)) t ∧ Q t
def vx_Run (p : Program) (l : Launch) (e : Env) (R : Room) (s : State) (m : MethodId) (args : Array Value) (below : List Frame) (meth : Method) (c : Code) (H : Heap) (locs : List Loc) (cells slots mc ms : Nat) (g : JFrame) (rest : List Value) (Qa : State → Outcome → State → Prop) (XC : String → State → State → Prop) (free : Addr → Prop) : Prop :=
  ∀ T : State, T.heap = H → Stand p l e R s m args below meth c T locs cells slots →
    (∃ (v : Option Value) (st₀ t T' : State) (L : List Loc), st₀.heap = H ∧ Stand p l e R s m args below meth c T' (locs ++ L) (cells + mc) (slots + ms) ∧ (∀ q ∈ L, free q.base) ∧ T'.heap = t.heap ∧ T'.vm = t.vm ∧ Qa st₀ (.returned v) t ∧
      Goes p e below T g T' { g with pc := g.pc + 3, stack := v.toList ++ rest }) ∨
    (∃ (q : Addr) (st₀ t T' : State) (L : List Loc) (E : String) (ce : Cell), st₀.heap = H ∧ Stand p l e R s m args below meth c T' (locs ++ L) (cells + mc) (slots + ms) ∧ (∀ z ∈ L, free z.base) ∧ T'.heap = t.heap ∧ T'.vm = t.vm ∧ XC E st₀ t ∧ t.heap[q]? = some ce ∧ ce.vm = .none ∧ s.vm.findClass E = some ce.cls ∧
      Steps p.tables e below (T.setTop g) ((T'.setTop { g with stack := rest }).pushFrame (.throwing q)))
def vx_X {S : Type} (px : S → Prop) (B : String → S → State → Prop) (A : Nat → Prop) : String → State → State → Prop := fun E st t => ∃ u : S, px u ∧ B E u t ∧ va_F A st t
section Runs
variable {p : Program} {l : Launch} {e : Env} {R : Room} {s : State} {m : MethodId} {args : Array Value} {below : List Frame} {meth : Method} {c : Code} {H : Heap} {locs : List Loc} {cells slots : Nat}
variable {y : MethodName} {bytes cc : ByteArray} {maxL nL mc ms n index : Nat} {ret : Option FieldType} {ws : List Cond} {rm : Room} {Pc : Array Value → State → Prop} {Qc : Array Value → State → Outcome → State → Prop} {XC : String → State → State → Prop} {free : Addr → Prop} {Ts : List Cond} {own C : String} {b : Addr} {As rest : List Value} {g : JFrame}
theorem vx_callBack (cb : CallB R s args own index y bytes maxL ret ws rm mc ms n) (hM : vx_Met l y ws rm Pc Qc XC mc ms free) (hbl : FrameBlind Pc) : vx_Back l R p e below s args y 3 8 (PreOf R mc ms Pc) (PostOf Qc mc ms free) (vx_Post XC mc ms free) := by
  obtain ⟨hrc, hrs, hfr, hlo, hws, hcw, -, hini, -⟩ := cb
  exact vx_back (bytes := bytes) (maxL := maxL) (ret := ret) hM hbl hrc hrs hfr hlo hws hcw (fun a' U hW => word_at hW (Or.inl (by first | rfl | simp [Cond.onTables, Cond.keeps, Cond.steady])) hini)
theorem vx_runV (S : CallFix p m c cc nL s args Ts own) (hM : vx_Met l y ws rm Pc Qc XC mc ms free) (cw : CallW R s args own C index y bytes maxL ret ws rm mc ms n) (hp : PreV s H C b Pc As)
    (hg : g.method = m) (hn : As.length = n) (hsize : g.locals.size = nL) (hstack : g.stack = As.reverse ++ .ref b :: rest) (hW : 2 * g.monitorRoom + (rest.map fun v => v.category).sum ≤ 8) (hdg : decode cc g.pc = .ok (.invokevirtual index, 3)) (hf : cells + mc ≤ R.cells ∧ slots + ms ≤ R.slots) :
    vx_Run p l e R s m args below meth c H locs cells slots mc ms g rest (Qc (Value.ref b :: As).toArray) XC free := by
  have hK : vx_Back l R p e below s args y 3 8 (PreOf R mc ms Pc) (PostOf Qc mc ms free) (vx_Post XC mc ms free) := vx_callBack cw.1 hM hp.1
  obtain ⟨⟨-, -, -, -, -, -, hcode, -, hy, hlen, hl⟩, hin, hse⟩ := cw
  obtain ⟨hx, hb, hml, ho, -⟩ := S
  obtain ⟨-, ⟨cellB, hcB, hoB, hclB⟩, hPc⟩ := hp
  intro T hT X
  rcases vx_callV X hx (C := C) (bytes := bytes) (maxL := maxL) (ret := ret) ho hl hin hse hcode hy hK (by rw [hT]; exact hcB) hoB hclB hg (hsize.trans hml.symm) (argsL := As) (rest := rest) (fun sig h => hn.trans (hlen sig h)) hstack hW (by rw [hb]; exact hdg)
    (fun vm₁ hW₁ => ⟨hf.1, hf.2, hPc (T.setVm vm₁) hT hW₁⟩) with ⟨v, vm₁, ⟨U', l2, c2, s2⟩, hW₁, X', ⟨g', mk, t, L, e1, e2, hq, h1, hL, h2, h3⟩, st⟩ | ⟨q, vm₁, ⟨U', l2, c2, s2⟩, hW₁, X', ⟨g', mk, t, L, E, ce, e1, e2, hq, hce, hcv, hcl, h1, hL, h2, h3⟩, st⟩
  · dsimp only [Pt.U, Pt.locs, Pt.cells, Pt.slots] at X' e1 e2 h1 h2 h3 st
    subst h1; subst h2; subst h3
    exact Or.inl ⟨v, (T.setVm vm₁).calling g' mk (Value.ref b :: As).toArray, t, U', L, hT, X', hL, e1, e2, hq, st⟩
  · dsimp only [Pt.U, Pt.locs, Pt.cells, Pt.slots] at X' e1 e2 h1 h2 h3 st hcl
    subst h1; subst h2; subst h3
    exact Or.inr ⟨q, (T.setVm vm₁).calling g' mk (Value.ref b :: As).toArray, t, U', L, E, ce, hT, X', hL, e1, e2, hq, hce, hcv, vx_cls hW₁ hcl, st⟩
theorem vx_runS (S : CallFix p m c cc nL s args Ts own) (hM : vx_Met l y ws rm Pc Qc XC mc ms free) (cw : CallB R s args own index y bytes maxL ret ws rm mc ms n ∧ (Cond.static y).before args s = true) (hp : PreS s H Pc As)
    (hg : g.method = m) (hn : As.length = n) (hsize : g.locals.size = nL) (hstack : g.stack = As.reverse ++ rest) (hW : 2 * g.monitorRoom + (rest.map fun v => v.category).sum ≤ 8) (hdg : decode cc g.pc = .ok (.invokestatic index, 3)) (hf : cells + mc ≤ R.cells ∧ slots + ms ≤ R.slots) :
    vx_Run p l e R s m args below meth c H locs cells slots mc ms g rest (Qc As.toArray) XC free := by
  have hK : vx_Back l R p e below s args y 3 8 (PreOf R mc ms Pc) (PostOf Qc mc ms free) (vx_Post XC mc ms free) := vx_callBack cw.1 hM hp.1
  obtain ⟨⟨-, -, -, -, -, -, hcode, hini, hy, hlen, hl⟩, hstt⟩ := cw
  obtain ⟨hx, hb, hml, ho, -⟩ := S
  intro T hT X
  rcases vx_callS X hx (bytes := bytes) (maxL := maxL) (ret := ret) ho hl hstt hini hcode hy hK hg (hsize.trans hml.symm) (argsL := As) (rest := rest) (fun sig h => hn.trans (hlen sig h)) hstack hW (by rw [hb]; exact hdg)
    (fun vm₁ hW₁ => ⟨hf.1, hf.2, hp.2 (T.setVm vm₁) hT hW₁⟩) with ⟨v, vm₁, ⟨U', l2, c2, s2⟩, hW₁, X', ⟨g', mk, t, L, e1, e2, hq, h1, hL, h2, h3⟩, st⟩ | ⟨q, vm₁, ⟨U', l2, c2, s2⟩, hW₁, X', ⟨g', mk, t, L, E, ce, e1, e2, hq, hce, hcv, hcl, h1, hL, h2, h3⟩, st⟩
  · dsimp only [Pt.U, Pt.locs, Pt.cells, Pt.slots] at X' e1 e2 h1 h2 h3 st
    subst h1; subst h2; subst h3
    exact Or.inl ⟨v, (T.setVm vm₁).calling g' mk As.toArray, t, U', L, hT, X', hL, e1, e2, hq, st⟩
  · dsimp only [Pt.U, Pt.locs, Pt.cells, Pt.slots] at X' e1 e2 h1 h2 h3 st hcl
    subst h1; subst h2; subst h3
    exact Or.inr ⟨q, (T.setVm vm₁).calling g' mk As.toArray, t, U', L, E, ce, hT, X', hL, e1, e2, hq, hce, hcv, vx_cls hW₁ hcl, st⟩
end Runs
section Rows
variable {p : Program} {l : Launch} {e : Env} {R : Room} {s : State} {m : MethodId} {args : Array Value} {below : List Frame} {meth : Method} {c : Code} {H : Heap} {locs : List Loc} {cells slots : Nat} {Q : State → Prop}
variable {mc ms : Nat} {free : Addr → Prop} {A0 A1 : Nat → Prop} {H0 : Heap} {a : Array Value} {pc : Nat} {ls : Array Slot} {st0 rest : List Value}
theorem vx_keep {st₀ t T' : State} {L : List Loc} (h0 : st₀.heap = H) (e1 : T'.heap = t.heap) (hS : va_S A0 H0 H locs) (hA : ∀ q, q < H.size → A1 q → A0 q) (hf : ∀ q, free q → A0 q) (hL : ∀ q ∈ L, free q.base) (hF : va_F A1 st₀ t) :
    H.size ≤ T'.heap.size ∧ (∀ q : Nat, q < H.size → ¬ A1 q → T'.heap[q]? = H[q]?) ∧ va_S A0 H0 T'.heap (locs ++ L) := by
  obtain ⟨hz, hk⟩ := hF
  rw [h0] at hz hk
  exact ⟨by rw [e1]; exact hz, fun q h1 h2 => by rw [e1]; exact hk q h1 h2,
    ⟨Nat.le_trans hS.1 (by rw [e1]; exact hz), fun q h1 h2 => by rw [e1, hk q (Nat.lt_of_lt_of_le h1 hS.1) (fun z => h2 (hA q (Nat.lt_of_lt_of_le h1 hS.1) z))]; exact hS.2.1 q h1 h2, fun q hq => by
      rcases List.mem_append.mp hq with h | h
      · exact hS.2.2 q h
      · exact hf _ (hL q h)⟩⟩
theorem vx_calli {S SX : Type} {post : Int32 → S → Prop} {px : SX → Prop} {B : S → State → Prop} {BX : String → SX → State → Prop} {AX : Nat → Prop} (hr : vx_Run p l e R s m args below meth c H locs cells slots mc ms (F0 m pc ls st0) rest (va_Qi post B A1 a) (vx_X px BX AX) free) (hS : va_S A0 H0 H locs) (hA : ∀ q, q < H.size → A1 q → A0 q) (hf : ∀ q, free q → A0 q) (hAX : ∀ q, q < H.size → AX q → A0 q)
    (kx : ∀ (E : String) (ce : Cell) (q9 : Addr) (u : SX) (t : State) (H1 : Heap) (locs1 : List Loc), t.heap = H1 → s.vm.Alike t.vm → px u → BX E u t → H.size ≤ H1.size → (∀ q : Nat, q < H.size → ¬ AX q → H1[q]? = H[q]?) → va_S A0 H0 H1 locs1 → H1[q9]? = some ce → ce.vm = .none → s.vm.findClass E = some ce.cls → vx_W p l e R s m args below meth c H1 locs1 (cells + mc) (slots + ms) Q (F0 m pc ls rest) q9)
    (kk : ∀ (r : Int32) (u : S) (t : State) (H1 : Heap) (locs1 : List Loc), t.heap = H1 → s.vm.Alike t.vm → post r u → B u t → H.size ≤ H1.size → (∀ q : Nat, q < H.size → ¬ A1 q → H1[q]? = H[q]?) → va_S A0 H0 H1 locs1 → W p l e R s m args below meth c H1 locs1 (cells + mc) (slots + ms) Q (F0 m (pc + 3) ls (.int r :: rest))) : W p l e R s m args below meth c H locs cells slots Q (F0 m pc ls st0) := by
  intro T hT X
  rcases hr T hT X with ⟨v, st₀, t, T', L, h0, X', hL, e1, e2, ⟨⟨r, u, hv, hp, hb⟩, hF⟩, st⟩ | ⟨q, st₀, t, T', L, E, ce, h0, X', hL, e1, e2, ⟨u, hp, hb, hF⟩, hce, hcv, hcl, st⟩
  · cases hv
    obtain ⟨k1, k2, k3⟩ := vx_keep h0 e1 hS hA hf hL hF
    obtain ⟨t2, a1, b1⟩ := kk r u t T'.heap (locs ++ L) e1.symm (by rw [← e2]; exact X'.warmed.alike) hp hb k1 k2 k3 T' rfl X'
    exact ⟨t2, st t2 a1, b1⟩
  · obtain ⟨k1, k2, k3⟩ := vx_keep h0 e1 hS hAX hf hL hF
    obtain ⟨t2, a1, b1⟩ := kx E ce q u t T'.heap (locs ++ L) e1.symm (by rw [← e2]; exact X'.warmed.alike) hp hb k1 k2 k3 (by rw [e1]; exact hce) hcv hcl T' rfl X'
    exact ⟨t2, st.trans a1, b1⟩
theorem vx_calll {S SX : Type} {post : Int64 → S → Prop} {px : SX → Prop} {B : S → State → Prop} {BX : String → SX → State → Prop} {AX : Nat → Prop} (hr : vx_Run p l e R s m args below meth c H locs cells slots mc ms (F0 m pc ls st0) rest (va_Ql post B A1 a) (vx_X px BX AX) free) (hS : va_S A0 H0 H locs) (hA : ∀ q, q < H.size → A1 q → A0 q) (hf : ∀ q, free q → A0 q) (hAX : ∀ q, q < H.size → AX q → A0 q)
    (kx : ∀ (E : String) (ce : Cell) (q9 : Addr) (u : SX) (t : State) (H1 : Heap) (locs1 : List Loc), t.heap = H1 → s.vm.Alike t.vm → px u → BX E u t → H.size ≤ H1.size → (∀ q : Nat, q < H.size → ¬ AX q → H1[q]? = H[q]?) → va_S A0 H0 H1 locs1 → H1[q9]? = some ce → ce.vm = .none → s.vm.findClass E = some ce.cls → vx_W p l e R s m args below meth c H1 locs1 (cells + mc) (slots + ms) Q (F0 m pc ls rest) q9)
    (kk : ∀ (r : Int64) (u : S) (t : State) (H1 : Heap) (locs1 : List Loc), t.heap = H1 → s.vm.Alike t.vm → post r u → B u t → H.size ≤ H1.size → (∀ q : Nat, q < H.size → ¬ A1 q → H1[q]? = H[q]?) → va_S A0 H0 H1 locs1 → W p l e R s m args below meth c H1 locs1 (cells + mc) (slots + ms) Q (F0 m (pc + 3) ls (.long r :: rest))) : W p l e R s m args below meth c H locs cells slots Q (F0 m pc ls st0) := by
  intro T hT X
  rcases hr T hT X with ⟨v, st₀, t, T', L, h0, X', hL, e1, e2, ⟨⟨r, u, hv, hp, hb⟩, hF⟩, st⟩ | ⟨q, st₀, t, T', L, E, ce, h0, X', hL, e1, e2, ⟨u, hp, hb, hF⟩, hce, hcv, hcl, st⟩
  · cases hv
    obtain ⟨k1, k2, k3⟩ := vx_keep h0 e1 hS hA hf hL hF
    obtain ⟨t2, a1, b1⟩ := kk r u t T'.heap (locs ++ L) e1.symm (by rw [← e2]; exact X'.warmed.alike) hp hb k1 k2 k3 T' rfl X'
    exact ⟨t2, st t2 a1, b1⟩
  · obtain ⟨k1, k2, k3⟩ := vx_keep h0 e1 hS hAX hf hL hF
    obtain ⟨t2, a1, b1⟩ := kx E ce q u t T'.heap (locs ++ L) e1.symm (by rw [← e2]; exact X'.warmed.alike) hp hb k1 k2 k3 (by rw [e1]; exact hce) hcv hcl T' rfl X'
    exact ⟨t2, st.trans a1, b1⟩
theorem vx_callf {S SX : Type} {post : UInt32 → S → Prop} {px : SX → Prop} {B : S → State → Prop} {BX : String → SX → State → Prop} {AX : Nat → Prop} (hr : vx_Run p l e R s m args below meth c H locs cells slots mc ms (F0 m pc ls st0) rest (va_Qf post B A1 a) (vx_X px BX AX) free) (hS : va_S A0 H0 H locs) (hA : ∀ q, q < H.size → A1 q → A0 q) (hf : ∀ q, free q → A0 q) (hAX : ∀ q, q < H.size → AX q → A0 q)
    (kx : ∀ (E : String) (ce : Cell) (q9 : Addr) (u : SX) (t : State) (H1 : Heap) (locs1 : List Loc), t.heap = H1 → s.vm.Alike t.vm → px u → BX E u t → H.size ≤ H1.size → (∀ q : Nat, q < H.size → ¬ AX q → H1[q]? = H[q]?) → va_S A0 H0 H1 locs1 → H1[q9]? = some ce → ce.vm = .none → s.vm.findClass E = some ce.cls → vx_W p l e R s m args below meth c H1 locs1 (cells + mc) (slots + ms) Q (F0 m pc ls rest) q9)
    (kk : ∀ (r : UInt32) (u : S) (t : State) (H1 : Heap) (locs1 : List Loc), t.heap = H1 → s.vm.Alike t.vm → post r u → B u t → H.size ≤ H1.size → (∀ q : Nat, q < H.size → ¬ A1 q → H1[q]? = H[q]?) → va_S A0 H0 H1 locs1 → W p l e R s m args below meth c H1 locs1 (cells + mc) (slots + ms) Q (F0 m (pc + 3) ls (.float r :: rest))) : W p l e R s m args below meth c H locs cells slots Q (F0 m pc ls st0) := by
  intro T hT X
  rcases hr T hT X with ⟨v, st₀, t, T', L, h0, X', hL, e1, e2, ⟨⟨r, u, hv, hp, hb⟩, hF⟩, st⟩ | ⟨q, st₀, t, T', L, E, ce, h0, X', hL, e1, e2, ⟨u, hp, hb, hF⟩, hce, hcv, hcl, st⟩
  · cases hv
    obtain ⟨k1, k2, k3⟩ := vx_keep h0 e1 hS hA hf hL hF
    obtain ⟨t2, a1, b1⟩ := kk r u t T'.heap (locs ++ L) e1.symm (by rw [← e2]; exact X'.warmed.alike) hp hb k1 k2 k3 T' rfl X'
    exact ⟨t2, st t2 a1, b1⟩
  · obtain ⟨k1, k2, k3⟩ := vx_keep h0 e1 hS hAX hf hL hF
    obtain ⟨t2, a1, b1⟩ := kx E ce q u t T'.heap (locs ++ L) e1.symm (by rw [← e2]; exact X'.warmed.alike) hp hb k1 k2 k3 (by rw [e1]; exact hce) hcv hcl T' rfl X'
    exact ⟨t2, st.trans a1, b1⟩
theorem vx_calld {S SX : Type} {post : UInt64 → S → Prop} {px : SX → Prop} {B : S → State → Prop} {BX : String → SX → State → Prop} {AX : Nat → Prop} (hr : vx_Run p l e R s m args below meth c H locs cells slots mc ms (F0 m pc ls st0) rest (va_Qd post B A1 a) (vx_X px BX AX) free) (hS : va_S A0 H0 H locs) (hA : ∀ q, q < H.size → A1 q → A0 q) (hf : ∀ q, free q → A0 q) (hAX : ∀ q, q < H.size → AX q → A0 q)
    (kx : ∀ (E : String) (ce : Cell) (q9 : Addr) (u : SX) (t : State) (H1 : Heap) (locs1 : List Loc), t.heap = H1 → s.vm.Alike t.vm → px u → BX E u t → H.size ≤ H1.size → (∀ q : Nat, q < H.size → ¬ AX q → H1[q]? = H[q]?) → va_S A0 H0 H1 locs1 → H1[q9]? = some ce → ce.vm = .none → s.vm.findClass E = some ce.cls → vx_W p l e R s m args below meth c H1 locs1 (cells + mc) (slots + ms) Q (F0 m pc ls rest) q9)
    (kk : ∀ (r : UInt64) (u : S) (t : State) (H1 : Heap) (locs1 : List Loc), t.heap = H1 → s.vm.Alike t.vm → post r u → B u t → H.size ≤ H1.size → (∀ q : Nat, q < H.size → ¬ A1 q → H1[q]? = H[q]?) → va_S A0 H0 H1 locs1 → W p l e R s m args below meth c H1 locs1 (cells + mc) (slots + ms) Q (F0 m (pc + 3) ls (.double r :: rest))) : W p l e R s m args below meth c H locs cells slots Q (F0 m pc ls st0) := by
  intro T hT X
  rcases hr T hT X with ⟨v, st₀, t, T', L, h0, X', hL, e1, e2, ⟨⟨r, u, hv, hp, hb⟩, hF⟩, st⟩ | ⟨q, st₀, t, T', L, E, ce, h0, X', hL, e1, e2, ⟨u, hp, hb, hF⟩, hce, hcv, hcl, st⟩
  · cases hv
    obtain ⟨k1, k2, k3⟩ := vx_keep h0 e1 hS hA hf hL hF
    obtain ⟨t2, a1, b1⟩ := kk r u t T'.heap (locs ++ L) e1.symm (by rw [← e2]; exact X'.warmed.alike) hp hb k1 k2 k3 T' rfl X'
    exact ⟨t2, st t2 a1, b1⟩
  · obtain ⟨k1, k2, k3⟩ := vx_keep h0 e1 hS hAX hf hL hF
    obtain ⟨t2, a1, b1⟩ := kx E ce q u t T'.heap (locs ++ L) e1.symm (by rw [← e2]; exact X'.warmed.alike) hp hb k1 k2 k3 (by rw [e1]; exact hce) hcv hcl T' rfl X'
    exact ⟨t2, st.trans a1, b1⟩
theorem vx_callv {S SX : Type} {post : S → Prop} {px : SX → Prop} {B : S → State → Prop} {BX : String → SX → State → Prop} {AX : Nat → Prop} (hr : vx_Run p l e R s m args below meth c H locs cells slots mc ms (F0 m pc ls st0) rest (va_Qv post B A1 a) (vx_X px BX AX) free) (hS : va_S A0 H0 H locs) (hA : ∀ q, q < H.size → A1 q → A0 q) (hf : ∀ q, free q → A0 q) (hAX : ∀ q, q < H.size → AX q → A0 q)
    (kx : ∀ (E : String) (ce : Cell) (q9 : Addr) (u : SX) (t : State) (H1 : Heap) (locs1 : List Loc), t.heap = H1 → s.vm.Alike t.vm → px u → BX E u t → H.size ≤ H1.size → (∀ q : Nat, q < H.size → ¬ AX q → H1[q]? = H[q]?) → va_S A0 H0 H1 locs1 → H1[q9]? = some ce → ce.vm = .none → s.vm.findClass E = some ce.cls → vx_W p l e R s m args below meth c H1 locs1 (cells + mc) (slots + ms) Q (F0 m pc ls rest) q9)
    (kk : ∀ (u : S) (t : State) (H1 : Heap) (locs1 : List Loc), t.heap = H1 → s.vm.Alike t.vm → post u → B u t → H.size ≤ H1.size → (∀ q : Nat, q < H.size → ¬ A1 q → H1[q]? = H[q]?) → va_S A0 H0 H1 locs1 → W p l e R s m args below meth c H1 locs1 (cells + mc) (slots + ms) Q (F0 m (pc + 3) ls (rest))) : W p l e R s m args below meth c H locs cells slots Q (F0 m pc ls st0) := by
  intro T hT X
  rcases hr T hT X with ⟨v, st₀, t, T', L, h0, X', hL, e1, e2, ⟨⟨u, hv, hp, hb⟩, hF⟩, st⟩ | ⟨q, st₀, t, T', L, E, ce, h0, X', hL, e1, e2, ⟨u, hp, hb, hF⟩, hce, hcv, hcl, st⟩
  · cases hv
    obtain ⟨k1, k2, k3⟩ := vx_keep h0 e1 hS hA hf hL hF
    obtain ⟨t2, a1, b1⟩ := kk u t T'.heap (locs ++ L) e1.symm (by rw [← e2]; exact X'.warmed.alike) hp hb k1 k2 k3 T' rfl X'
    exact ⟨t2, st t2 a1, b1⟩
  · obtain ⟨k1, k2, k3⟩ := vx_keep h0 e1 hS hAX hf hL hF
    obtain ⟨t2, a1, b1⟩ := kx E ce q u t T'.heap (locs ++ L) e1.symm (by rw [← e2]; exact X'.warmed.alike) hp hb k1 k2 k3 (by rw [e1]; exact hce) hcv hcl T' rfl X'
    exact ⟨t2, st.trans a1, b1⟩
/-- caught by the row x of this method's table; the rows ahead don't take it -/
theorem vx_catch {own name : String} {E : String} {ce : Cell} {q : Addr} (hown : s.vm.findClass own = some m.cls) (pre : List ExceptionTableEntry) (x : ExceptionTableEntry) (suf : List ExceptionTableEntry) (hsplit : c.exceptionTable.toList = pre ++ x :: suf)
    (hpass : ∀ z ∈ pre, covers z pc = false ∨ (z.catchType ≠ 0 ∧ ∃ nm : String, (Cond.classLink own z.catchType nm).before args s = true ∧ va_Nc E nm s)) (hx : covers x pc = true) (h0 : x.catchType ≠ 0)
    (hlink : (Cond.classLink own x.catchType name).before args s = true) (hcast : (Cond.castable E name).before args s = true) (hcell : H[q]? = some ce) (hv : ce.vm = .none) (hcl : s.vm.findClass E = some ce.cls)
    (kk : W p l e R s m args below meth c H locs cells slots Q (F0 m x.handlerPc ls [.ref q])) : vx_W p l e R s m args below meth c H locs cells slots Q (F0 m pc ls rest) q := by
  intro T hT X
  have hpl : e.platform.magicAccessors = ({} : Platform).magicAccessors := by rw [X.admits.platform]
  obtain ⟨c3, c4, hc3, hc4, hasg⟩ := Cond.castable_spec hcast
  cases Option.some.inj (hc3.symm.trans hcl)
  obtain ⟨c5, hc5, hcl5⟩ := Cond.classLink_spec hown hlink e.platform hpl
  cases Option.some.inj (hc4.symm.trans hc5)
  obtain ⟨vm', X', st⟩ := X.thenCaughtThrough q (g := F0 m pc ls rest) rfl (Steps.refl _) (by rw [hT]; exact hcell) (by rw [hv]; rfl) (by obtain ⟨k9, h9, -⟩ := Vm.findClass_spec hcl; exact ⟨k9, h9⟩) pre x suf hsplit
    (fun z hz => by
      rcases hpass z hz with h | ⟨hz0, nm, hl1, hn1⟩
      · exact Or.inl h
      · obtain ⟨c6, hc6, hcl6⟩ := Cond.classLink_spec hown hl1 e.platform hpl
        obtain ⟨a8, b8, h1, h2, h3⟩ := hn1
        cases Option.some.inj (h1.symm.trans hcl)
        cases Option.some.inj (h2.symm.trans hc6)
        exact Or.inr ⟨hz0, _, hcl6, h3⟩) hx (Or.inr ⟨h0, c4, hcl5, hasg⟩)
  obtain ⟨t, a1, b1⟩ := kk (T.setVm vm') hT X'
  exact ⟨t, st.trans a1, b1⟩
end Rows
section Ends
variable {p : Program} {l : Launch} {e : Env} {R : Room} {s : State} {m : MethodId} {args : Array Value} {below : List Frame} {meth : Method} {c : Code} {H : Heap} {locs : List Loc} {cells slots : Nat} {Q : State → Prop}
variable {mc ms : Nat} {free : Addr → Prop} {A0 A1 : Nat → Prop} {H0 : Heap} {a : Array Value} {ls : Array Slot} {st0 rest : List Value}
variable {Qc : Array Value → State → Outcome → State → Prop} {XC : String → State → State → Prop}
/-- what a body that may throw owes at its end -/
def vx_MQ (below : List Frame) (Qc : Array Value → State → Outcome → State → Prop) (XC : String → State → State → Prop) (a : Array Value) (s : State) (mc ms : Nat) (free : Addr → Prop) : State → Prop := fun t =>
  ∃ o, t.status = .running ∧ Ended t below o ∧ vx_Q Qc XC mc ms free a s o t
theorem vx_ret {g : JFrame} {mc ms : Nat} (k : W p l e R s m args below meth c H locs cells slots (MQ below Qc args s mc ms free) g) : W p l e R s m args below meth c H locs cells slots (vx_MQ below Qc XC args s mc ms free) g := by
  intro T hT X
  obtain ⟨t, a1, o, b1, b2, b3, b4⟩ := k T hT X
  exact ⟨t, a1, o, b1, b2, Or.inl ⟨b3, b4⟩⟩
/-- not caught here: it goes on to the caller -/
theorem vx_widen {g : JFrame} {q : Addr} {k n : Nat} (h1 : cells ≤ k) (h2 : slots ≤ n) (kk : vx_W p l e R s m args below meth c H locs k n Q g q) : vx_W p l e R s m args below meth c H locs cells slots Q g q := fun T hT X => kk T hT (stand_widen X h1 h2)
theorem vx_out {pc : Nat} {E : String} {ce : Cell} {q : Addr} {mc ms : Nat} (hout : ∀ x ∈ c.exceptionTable.toList, covers x pc = false) (hlocks : meth.locks = false) (hcell : H[q]? = some ce) (hv : ce.vm = .none) (hcl : s.vm.findClass E = some ce.cls)
    (hx : ∀ t : State, t.heap = H → s.vm.Alike t.vm → XC E s t) (hf : ∀ z ∈ locs, free z.base) (hc : cells ≤ mc) (hs : slots ≤ ms) :
    vx_W p l e R s m args below meth c H locs cells slots (vx_MQ below Qc XC args s mc ms free) (F0 m pc ls rest) q := by
  intro T hT X
  obtain ⟨st1, hrun, hend, hW, hsm⟩ := X.leaveThrown q (g := F0 m pc ls rest) rfl rfl rfl hout hlocks
  have hcell9 : (T.setFrames (.throwing q :: below)).heap[q]? = some ce := by
    show T.heap[q]? = some ce
    rw [hT]; exact hcell
  exact ⟨_, st1, .threw q, hrun, hend, Or.inr ⟨q, rfl, E, ce, locs, hx _ hT hW.alike, hcell9, hv, hcl, hW, hsm.mono hc hs, hf⟩⟩
theorem vx_frame {U : State} {k n : Nat} (h : s.sameButNew ({ U with vm := s.vm } : State) locs k n) : s.heap.size ≤ U.heap.size ∧ ∀ q : Nat, q < s.heap.size → (∀ z ∈ locs, z.base ≠ q) → U.heap[q]? = s.heap[q]? := by
  obtain ⟨-, h2, -, -, -, h6⟩ := h
  refine ⟨h2, fun q hq hz => ?_⟩
  obtain ⟨c9, e1, e2, e3, e4⟩ := h6 q _ (Array.getElem?_eq_getElem hq)
  have hs : c9.slots = (s.heap[q]).slots := Array.ext_getElem? fun i => e4 i fun hm => hz _ hm rfl
  have h9 : c9 = s.heap[q] := by
    rw [hs] at e2
    exact e2
  have e5 : U.heap[q]? = some c9 := e1
  rw [e5, h9, Array.getElem?_eq_getElem hq]
/-- the words of a throw but the four that speak of the heap -/
def vx_no (w : Cond) : Bool := decide (w ≠ .isRef (.static Bundle.tN "UNASSIGNED_STACK" Bundle.steD)) && decide (w ≠ .isRef (.static Bundle.tN "SUPPRESSED_SENTINEL" Bundle.listD)) && decide (w ≠ .laysStatic Bundle.tN "UNASSIGNED_STACK" Bundle.steD) && decide (w ≠ .laysStatic Bundle.tN "SUPPRESSED_SENTINEL" Bundle.listD)
def vx_at0 (own : String) (ic : Nat) (X : String) (names : List String) : List Cond := (Bundle.ownAtoms0 own ic X names).filter vx_no
def vx_atS (own : String) (ic : Nat) (X : String) (names : List String) : List Cond := (Bundle.ownAtoms own ic X names).filter vx_no
/-- a word that the tables alone decide, or a good one -/
def vx_ot (w : Cond) : Bool := w.onTables || goodWord w
theorem vx_ot_at {args a' : Array Value} {s U : State} {w : Cond} (hW : s.WarmedH U.vm) (hvm : s.vm = U.vm) (hg : vx_ot w = true) (h : w.before args s = true) : w.before a' U = true := by
  simp only [vx_ot, Bool.or_eq_true] at hg
  rcases hg with hg | hg
  · exact va_tabs hg hvm h
  · exact word_at hW (good_of_word hg) h
/-- a list's words: the good ones out of the method's own list, the others by premises of their own -/
theorem vx_hat {args : Array Value} {s : State} {L B : List Cond} (h1 : ∀ w ∈ L.filter goodWord, w.before args s = true) (h2 : ∀ w ∈ L.filter (fun w => !goodWord w), w ∈ B) (h3 : ∀ w ∈ B, w.before args s = true) : ∀ w ∈ L, w.before args s = true := by
  intro w hw
  by_cases g : goodWord w = true
  · exact h1 w (List.mem_filter.mpr ⟨hw, g⟩)
  · refine h3 w (h2 w (List.mem_filter.mpr ⟨hw, ?_⟩))
    show (!goodWord w) = true
    cases hgw : goodWord w
    · rfl
    · exact absurd hgw g
theorem vx_c {args : Array Value} {s : State} {w : Cond} {B : List Cond} (h : w.before args s = true) (t : ∀ w ∈ B, w.before args s = true) : ∀ w' ∈ w :: B, w'.before args s = true := fun w' h' => (List.mem_cons.mp h').elim (fun e => by rw [e]; exact h) (t w')
theorem vx_n {args : Array Value} {s : State} : ∀ w ∈ ([] : List Cond), w.before args s = true := fun _ h => nomatch h
theorem vx_own {args : Array Value} {s : State} {L : List Cond} (h1 : ∀ w ∈ L.filter vx_no, w.before args s = true)
    (hU : (Cond.isRef (.static Bundle.tN "UNASSIGNED_STACK" Bundle.steD)).before args s = true) (hN : (Cond.isRef (.static Bundle.tN "SUPPRESSED_SENTINEL" Bundle.listD)).before args s = true)
    (lU : (Cond.laysStatic Bundle.tN "UNASSIGNED_STACK" Bundle.steD).before args s = true) (lN : (Cond.laysStatic Bundle.tN "SUPPRESSED_SENTINEL" Bundle.listD).before args s = true) : ∀ w ∈ L, w.before args s = true := by
  intro w hw
  by_cases e1 : w = .isRef (.static Bundle.tN "UNASSIGNED_STACK" Bundle.steD)
  · rw [e1]; exact hU
  · by_cases e2 : w = .isRef (.static Bundle.tN "SUPPRESSED_SENTINEL" Bundle.listD)
    · rw [e2]; exact hN
    · by_cases e3 : w = .laysStatic Bundle.tN "UNASSIGNED_STACK" Bundle.steD
      · rw [e3]; exact lU
      · by_cases e4 : w = .laysStatic Bundle.tN "SUPPRESSED_SENTINEL" Bundle.listD
        · rw [e4]; exact lN
        · exact h1 w (List.mem_filter.mpr ⟨hw, by unfold vx_no; rw [decide_eq_true e1, decide_eq_true e2, decide_eq_true e3, decide_eq_true e4]; rfl⟩)
/-- where a static field lies, its class's statics cell in H -/
def vx_L (C n d : String) (A : Nat → Prop) (U : State) (H : Heap) : Prop := ∃ (c : ClassId) (k : Class) (i : Nat) (f : Field) (a : Nat) (cell : Cell), U.vm.findClass C = some c ∧ U.fieldFound? C n d = some (c, k, i, f) ∧ f.isStatic = true ∧ k.statics = some a ∧ H[a]? = some cell ∧ cell.vm.isStatics = true ∧ cell.cls = c ∧ f.slot < cell.slots.size ∧ k.staticTypes[f.slot]? = some f.type ∧ ¬ A a
theorem vx_L.moved {C n d : String} {A : Nat → Prop} {u U : State} {H : Heap} (hvm : u.vm.Alike U.vm) (h : vx_L C n d A u H) : vx_L C n d A U H := by
  obtain ⟨c, k, i, f, a, cell, h1, h2, h3, h4, h5, h6, h7, h8, h9, h10⟩ := h
  obtain ⟨k', hi', he⟩ := State.fieldFound?_setVm hvm h2
  exact ⟨c, k', i, f, a, cell, by rw [hvm.findClass]; exact h1, hi', h3, by rw [he]; exact h4, h5, h6, h7, h8, by rw [he]; exact h9, h10⟩
theorem vx_L.kept {C n d : String} {A : Nat → Prop} {U : State} {H H1 : Heap} (h : vx_L C n d A U H) (hq : ∀ a : Nat, a < H.size → ¬ A a → H1[a]? = H[a]?) : vx_L C n d A U H1 := by
  obtain ⟨c, k, i, f, a, cell, h1, h2, h3, h4, h5, h6, h7, h8, h9, h10⟩ := h
  exact ⟨c, k, i, f, a, cell, h1, h2, h3, h4, by rw [hq a (Array.getElem?_eq_some_iff.mp h5).1 h10]; exact h5, h6, h7, h8, h9, h10⟩
theorem vx_L.narrow {C n d : String} {A B : Nat → Prop} {U : State} {H : Heap} (h : vx_L C n d A U H) (hAB : ∀ q, B q → A q) : vx_L C n d B U H := by
  obtain ⟨c, k, i, f, a, cell, h1, h2, h3, h4, h5, h6, h7, h8, h9, h10⟩ := h
  exact ⟨c, k, i, f, a, cell, h1, h2, h3, h4, h5, h6, h7, h8, h9, fun z => h10 (hAB _ z)⟩
theorem vx_L.word {C n d : String} {A : Nat → Prop} {s : State} {args : Array Value} (h : vx_L C n d A s s.heap) : (Cond.laysStatic C n d).before args s = true := by
  obtain ⟨c, k, i, f, a, cell, h1, h2, h3, h4, h5, h6, h7, h8, h9, -⟩ := h
  show (Cond.laysStatic C n d).holds args s none s [] = true
  exact Cond.laysStatic_of h1 h2 h3 h4 h5 h6 h7 h8 h9
/-- .. and what it holds: null or some reference -/
def vx_Zq (C n d : String) (A : Nat → Prop) (U : State) (H : Heap) : Prop := va_Zq C n d A U H ∧ vx_L C n d A U H
theorem vx_Zq.moved {C n d : String} {A : Nat → Prop} {u U : State} {H : Heap} (hvm : u.vm.Alike U.vm) (h : vx_Zq C n d A u H) : vx_Zq C n d A U H := ⟨va_Zq.moved hvm h.1, vx_L.moved hvm h.2⟩
theorem vx_Zq.kept {C n d : String} {A : Nat → Prop} {U : State} {H H1 : Heap} (h : vx_Zq C n d A U H) (hq : ∀ a : Nat, a < H.size → ¬ A a → H1[a]? = H[a]?) : vx_Zq C n d A U H1 := ⟨va_Zq.kept h.1 hq, vx_L.kept h.2 hq⟩
theorem vx_Zq.narrow {C n d : String} {A B : Nat → Prop} {U : State} {H : Heap} (h : vx_Zq C n d A U H) (hAB : ∀ q, B q → A q) : vx_Zq C n d B U H := ⟨va_Zq.narrow h.1 hAB, vx_L.narrow h.2 hAB⟩
theorem vx_Zqof {args : Array Value} {s : State} {C n d : String} {A : Nat → Prop} (hl : (Cond.laysStatic C n d).before args s = true) (hini : (Cond.initialized C).before args s = true) (h : (Cond.isRef (.static C n d)).before args s = true) (hA : ∀ a : Nat, a < s.heap.size → ¬ A a) : vx_Zq C n d A s s.heap := by
  refine ⟨va_Zqof hl hini h hA, ?_⟩
  obtain ⟨c, k, i, f, a, cell, h1, h2, h3, h4, h5, h6, h7, h8, h9⟩ := Cond.laysStatic_spec hl
  exact ⟨c, k, i, f, a, cell, h1, h2, h3, h4, h5, h6, h7, h8, h9, hA a (Array.getElem?_eq_some_iff.mp h5).1⟩
theorem vx_isRef {C n d : String} {v : Value} {A : Nat → Prop} {s : State} {args : Array Value} (h : va_Z C n d v A s s.heap) (hv : v.isRef = true) : (Cond.isRef (.static C n d)).before args s = true := by
  obtain ⟨cf, kf, fi, f, a, cell, h1, h2, h3, h4, h5, h6, h7, -⟩ := h
  have he : (Term.static C n d).eval args s none [] s = some v := by
    simp [Term.eval, State.fieldNamed?, h1, h2, h4, h5, h6, h7]
  simp only [Cond.before, Cond.holds, Cond.value, he]
  cases v <;> simp_all [Value.isRef]
theorem vx_isRefq {C n d : String} {A : Nat → Prop} {s : State} {args : Array Value} (h : va_Zq C n d A s s.heap) : (Cond.isRef (.static C n d)).before args s = true := by
  rcases h with h | ⟨t, h⟩
  · exact vx_isRef h rfl
  · exact vx_isRef h rfl
/-- the same frame, seen from here: as if the method were called anew in this heap -/
theorem vx_rebase {T : State} (X : Stand p l e R s m args below meth c T locs cells slots) {R' : Room} (hf : R'.frames ≤ R.frames) (hl : R'.locals ≤ R.locals) (hc : cells + R'.cells ≤ R.cells) (hs : slots + R'.slots ≤ R.slots) :
    Stand p l e R' ((T.setVm s.vm).setFrames (.invoking m args :: below)) m args below meth c T [] 0 0 := by
  have htop : (T.setVm s.vm).topJava?.isSome := X.here.top
  have hF : ((T.setVm s.vm).setFrames (.invoking m args :: below)).frames = .invoking m args :: below := State.frames_setFrames _ (State.cur_lt_of_top htop)
  obtain ⟨g₀, hg0⟩ := Option.isSome_iff_exists.mp htop
  obtain ⟨r, hr⟩ := State.topJava?_eq_some.mp hg0
  have hl9 : e.platform.stackLimits (T.setVm s.vm).me = e.platform.stackLimits s.me := X.limits
  have hb9 : (T.setVm s.vm).me.stackBytes = s.me.stackBytes := X.bytes
  refine ⟨X.admits, X.cas, X.clock, hF, ?_, X.hears, X.method, X.code, X.here, X.tail, X.warmed, ?_, ?_, ?_⟩
  · have h := X.room
    have hU : ((T.setVm s.vm).setFrames (.invoking m args :: below)).localsInUse = s.localsInUse := by
      rw [State.localsInUse_invoking hF (meth := meth) (c := c) X.method X.code, State.localsInUse_invoking X.frames X.method X.code]
    simp only [State.hasRoom, Bool.and_eq_true, decide_eq_true_eq] at h ⊢
    obtain ⟨⟨⟨⟨h1, h2, h3, h4, h5, h6⟩, h7⟩, h8⟩, h9⟩ := h
    rw [X.frames, List.length_cons] at h2 h3
    have q1 := X.heapSize
    have q2 := X.used
    simp only [hF, hU, List.length_cons, State.stackLimits_setFrames, State.stackBytes_setFrames, hl9, hb9]
    refine ⟨⟨⟨⟨by omega, by omega, by omega, by omega, by omega, h6⟩, ?_⟩, ?_⟩, X.book⟩
    · show T.heap.size + R'.cells ≤ e.platform.maxCells
      omega
    · show T.slotsUsed + R'.slots ≤ e.platform.maxSlots
      omega
  · rw [State.stackLimits_setFrames]; rfl
  · rw [State.stackBytes_setFrames]; rfl
  · refine ⟨?_, Nat.le_refl _, Nat.le_refl _, ?_, ?_, fun a c9 h9 => ⟨c9, h9, rfl, rfl, fun _ _ => rfl⟩⟩
    · obtain ⟨t, ht, -⟩ := State.frames_cons hr
      show T.setVm s.vm = { ((T.setVm s.vm).setFrames (.invoking m args :: below)).setFrames (T.setVm s.vm).frames with heap := T.heap, slotsUsed := T.slotsUsed }
      rw [State.setFrames_setFrames, State.setFrames_self ht]
      rfl
    · show T.slotsUsed = T.slotsUsed + ((T.heap.toList.drop T.heap.size).map (·.slots.size)).sum
      rw [List.drop_eq_nil_of_le (Nat.le_of_eq Array.length_toList)]
      rfl
    · show ((T.heap.toList.drop T.heap.size).map (·.slots.size)).sum ≤ 0
      rw [List.drop_eq_nil_of_le (Nat.le_of_eq Array.length_toList)]
      exact Nat.le_refl _
/-- 'throw new E()': new; dup; invokespecial; athrow -/
theorem vx_throw0 {cc : ByteArray} {pc : Nat} (hexec : p.tables.exec = Jvm.exec) (hb : c.code = cc) (hl : l.stackTraces = false) {own cls : String} {names : List String} {ik ic mc ms : Nat} {A : Nat → Prop}
    (hown : s.vm.findClass own = some m.cls) (hcls : Bundle.fit cls = true) (hnames : ∀ n ∈ names, Bundle.fit n = true)
    (hk : (Cond.classLink own ik cls).before args s = true) (hini : (Cond.initialized cls).before args s = true) (hat : ∀ w ∈ vx_at0 own ic cls names, w.before args s = true)
    (hgood : ∀ w ∈ Cond.classLink own ik cls :: Cond.initialized cls :: vx_at0 own ic cls names, vx_ot w = true)
    (hU : vx_Zq Bundle.tN "UNASSIGNED_STACK" Bundle.steD A s s.heap) (hN : vx_Zq Bundle.tN "SUPPRESSED_SENTINEL" Bundle.listD A s s.heap) (hS : va_S A s.heap H locs) (hsize : ls.size = c.maxLocals)
    (d0 : decode cc pc = .ok (.new ik, 3)) (d3 : decode cc (pc + 3) = .ok (.dup, 1)) (d4 : decode cc (pc + 4) = .ok (.invokespecial ic, 3)) (d7 : decode cc (pc + 7) = .ok (.athrow, 1))
    (hout : ∀ x ∈ c.exceptionTable.toList, covers x (pc + 7) = false)
    (hRframes : names.length + 3 < R.frames) (hRlocals : (rest.map fun v => v.category).sum + (13 * (names.length + 1) + 42) ≤ R.locals) (hRcells : cells + 1 ≤ R.cells) (hRslots : slots + 6 ≤ R.slots) (hlocks : meth.locks = false)
    (hx : ∀ t : State, s.vm.Alike t.vm → H.size ≤ t.heap.size → (∀ q : Nat, q < H.size → t.heap[q]? = H[q]?) → XC cls s t)
    (hf : ∀ z ∈ locs, free z.base) (hc : cells + 1 ≤ mc) (hs : slots + 6 ≤ ms) :
    W p l e R s m args below meth c H locs cells slots (vx_MQ below Qc XC args s mc ms free) (F0 m pc ls rest) := by
  intro T hT X
  have htr : e.platform.stackTraces = false := (show e.platform.stackTraces = l.stackTraces by rw [X.admits.platform]).trans hl
  have Y := vx_rebase X (R' := { frames := R.frames, locals := R.locals, cells := 1, slots := 6 }) (Nat.le_refl _) (Nat.le_refl _) hRcells hRslots
  obtain ⟨s', hA⟩ : ∃ z, z = (T.setVm s.vm).setFrames (.invoking m args :: below) := ⟨_, rfl⟩
  rw [← hA] at Y
  have hvm : s'.vm = s.vm := by rw [hA]; rfl
  have hhp : s'.heap = H := by rw [hA]; exact hT
  have hW0 : s.WarmedH s'.vm := by rw [hvm]; exact State.WarmedH.refl s
  have hat' : ∀ w ∈ vx_at0 own ic cls names, w.before args s' = true := fun w hw => vx_ot_at hW0 hvm.symm (hgood w (List.mem_cons_of_mem _ (List.mem_cons_of_mem _ hw))) (hat w hw)
  have hk' : (Cond.classLink own ik cls).before args s' = true := vx_ot_at hW0 hvm.symm (hgood _ List.mem_cons_self) hk
  have hini' : (Cond.initialized cls).before args s' = true := vx_ot_at hW0 hvm.symm (hgood _ (List.mem_cons_of_mem _ List.mem_cons_self)) hini
  have hU' : vx_Zq Bundle.tN "UNASSIGNED_STACK" Bundle.steD A s' s'.heap := by rw [hhp]; exact vx_Zq.moved hW0.alike (hU.kept hS.2.1)
  have hN' : vx_Zq Bundle.tN "SUPPRESSED_SENTINEL" Bundle.listD A s' s'.heap := by rw [hhp]; exact vx_Zq.moved hW0.alike (hN.kept hS.2.1)
  have h : ∀ w ∈ Bundle.ownAtoms0 own ic cls names, w.before args s' = true := vx_own hat' (vx_isRefq hU'.1) (vx_isRefq hN'.1) hU'.2.word hN'.2.word
  have hown' : s'.vm.findClass own = some m.cls := by rw [hvm]; exact hown
  have hins : (Cond.instantiable cls 6).before args s' = true := h _ (by simp [Bundle.ownAtoms0])
  obtain ⟨vm₁, cX, kX, hfX, hkX, -, -, X₁, st1⟩ := Y.newCold hexec (own := own) (C := cls) (index := ik) (n := 6) hown' hk' hins hini'
    (g := F0 m pc ls rest) rfl (by rw [hb]; exact d0) (Nat.le_refl _) (Nat.le_refl _)
  generalize hT1 : (T.setVm vm₁).pushCell { cls := cX, slots := kX.instanceTypes.map defaultValue, vm := .none } = T1 at X₁ st1
  have hcat : (Value.ref T.heap.size).category = 1 := rfl
  have hcellA : T1.heap[T.heap.size]? = some (freshCell cX kX) := by rw [← hT1]; exact State.heap_pushCell_size _ _
  have d3' : decode c.code (pc + 3) = .ok (.dup, 1) := by rw [hb]; exact d3
  obtain ⟨U, hsteps, hrun, hend, hW, hsame, ce, hce, hO⟩ := X₁.ctorThrow0 hexec htr (own := own) (cls := cls) (names := names) (ic := ic) hown' hcls hnames h (fun x hx => nomatch hx) hfX hkX hcellA (by rw [hhp, hT]; exact Nat.le_refl _)
    (g := { method := m, pc := pc + 4, locals := ls, stack := .ref T.heap.size :: .ref T.heap.size :: rest, locked := none }) rfl hsize rfl rfl (rest := rest) rfl
    (by rw [hb]; exact d4) (by rw [hb]; exact d7) hout hRframes (by simp only [List.map_cons, List.sum_cons, hcat]; omega) hlocks
  obtain ⟨f1, f2⟩ := vx_frame hsame
  rw [hhp] at f1 f2
  have hWs : s.WarmedH U.vm := State.WarmedH.trans hW0 hW
  have hcl : s.vm.findClass cls = some ce.cls := by
    have h9 := hO.cls
    rw [hvm] at h9
    exact h9
  have hall : s.sameButNew ({ U with vm := s.vm } : State) locs mc ms := by
    subst hA
    obtain ⟨e1, e2⟩ := hsame
    rw [State.setFrames_setFrames] at e1
    have h2 : (T.setVm s.vm).sameButNew ({ U with vm := s.vm } : State) [] (0 + 1) (0 + 6) := ⟨e1, e2⟩
    have h3 := X.same.trans h2
    rw [List.append_nil] at h3
    exact h3.mono hc hs
  refine ⟨U, ?_, .threw T.heap.size, hrun, hend, Or.inr ⟨T.heap.size, rfl, cls, ce, locs, hx U hWs.alike f1 (fun q hq => f2 q hq (fun z hz => nomatch hz)), hce, hO.vm, hcl, hWs, hall, hf⟩⟩
  refine st1 _ ?_
  show Steps p.tables e below (T1.setTop { method := m, pc := pc + 3, locals := ls, stack := .ref T.heap.size :: rest, locked := none }) _
  jvm_step X₁.here [X₁.here.top, hexec, d3', Value.category]
  exact hsteps
/-- 'throw new E("text")': new; dup; ldc; invokespecial; athrow -/
theorem vx_throwS {cc : ByteArray} {pc : Nat} (hexec : p.tables.exec = Jvm.exec) (hb : c.code = cc) (hl : l.stackTraces = false) {own cls text : String} {names : List String} {ik is ic mc ms sa : Nat} {A : Nat → Prop}
    (hown : s.vm.findClass own = some m.cls) (hcls : Bundle.fit cls = true) (hnames : ∀ n ∈ names, Bundle.fit n = true)
    (hk : (Cond.classLink own ik cls).before args s = true) (hini : (Cond.initialized cls).before args s = true) (hstr : vk_R own is text sa s) (hat : ∀ w ∈ vx_atS own ic cls names, w.before args s = true)
    (hgood : ∀ w ∈ Cond.classLink own ik cls :: Cond.initialized cls :: vx_atS own ic cls names, vx_ot w = true)
    (hU : vx_Zq Bundle.tN "UNASSIGNED_STACK" Bundle.steD A s s.heap) (hN : vx_Zq Bundle.tN "SUPPRESSED_SENTINEL" Bundle.listD A s s.heap) (hS : va_S A s.heap H locs) (hsize : ls.size = c.maxLocals)
    (d0 : decode cc pc = .ok (.new ik, 3)) (d3 : decode cc (pc + 3) = .ok (.dup, 1)) (d4 : decode cc (pc + 4) = .ok (.ldc is, 2)) (d6 : decode cc (pc + 6) = .ok (.invokespecial ic, 3)) (d9 : decode cc (pc + 9) = .ok (.athrow, 1))
    (hout : ∀ x ∈ c.exceptionTable.toList, covers x (pc + 9) = false)
    (hRframes : names.length + 3 < R.frames) (hRlocals : (rest.map fun v => v.category).sum + (13 * (names.length + 1) + 43) ≤ R.locals) (hRcells : cells + 1 ≤ R.cells) (hRslots : slots + 6 ≤ R.slots) (hlocks : meth.locks = false)
    (hx : ∀ t : State, s.vm.Alike t.vm → H.size ≤ t.heap.size → (∀ q : Nat, q < H.size → t.heap[q]? = H[q]?) → XC cls s t)
    (hf : ∀ z ∈ locs, free z.base) (hc : cells + 1 ≤ mc) (hs : slots + 6 ≤ ms) :
    W p l e R s m args below meth c H locs cells slots (vx_MQ below Qc XC args s mc ms free) (F0 m pc ls rest) := by
  intro T hT X
  have htr : e.platform.stackTraces = false := (show e.platform.stackTraces = l.stackTraces by rw [X.admits.platform]).trans hl
  have Y := vx_rebase X (R' := { frames := R.frames, locals := R.locals, cells := 1, slots := 6 }) (Nat.le_refl _) (Nat.le_refl _) hRcells hRslots
  obtain ⟨s', hA⟩ : ∃ z, z = (T.setVm s.vm).setFrames (.invoking m args :: below) := ⟨_, rfl⟩
  rw [← hA] at Y
  have hvm : s'.vm = s.vm := by rw [hA]; rfl
  have hhp : s'.heap = H := by rw [hA]; exact hT
  have hW0 : s.WarmedH s'.vm := by rw [hvm]; exact State.WarmedH.refl s
  have hat' : ∀ w ∈ vx_atS own ic cls names, w.before args s' = true := fun w hw => vx_ot_at hW0 hvm.symm (hgood w (List.mem_cons_of_mem _ (List.mem_cons_of_mem _ hw))) (hat w hw)
  have hk' : (Cond.classLink own ik cls).before args s' = true := vx_ot_at hW0 hvm.symm (hgood _ List.mem_cons_self) hk
  have hini' : (Cond.initialized cls).before args s' = true := vx_ot_at hW0 hvm.symm (hgood _ (List.mem_cons_of_mem _ List.mem_cons_self)) hini
  have hU' : vx_Zq Bundle.tN "UNASSIGNED_STACK" Bundle.steD A s' s'.heap := by rw [hhp]; exact vx_Zq.moved hW0.alike (hU.kept hS.2.1)
  have hN' : vx_Zq Bundle.tN "SUPPRESSED_SENTINEL" Bundle.listD A s' s'.heap := by rw [hhp]; exact vx_Zq.moved hW0.alike (hN.kept hS.2.1)
  have h : ∀ w ∈ Bundle.ownAtoms own ic cls names, w.before args s' = true := vx_own hat' (vx_isRefq hU'.1) (vx_isRefq hN'.1) hU'.2.word hN'.2.word
  have hown' : s'.vm.findClass own = some m.cls := by rw [hvm]; exact hown
  have hins : (Cond.instantiable cls 6).before args s' = true := h _ (by simp [Bundle.ownAtoms])
  obtain ⟨vm₁, cX, kX, hfX, hkX, -, -, X₁, st1⟩ := Y.newCold hexec (own := own) (C := cls) (index := ik) (n := 6) hown' hk' hins hini'
    (g := F0 m pc ls rest) rfl (by rw [hb]; exact d0) (Nat.le_refl _) (Nat.le_refl _)
  generalize hT1 : (T.setVm vm₁).pushCell { cls := cX, slots := kX.instanceTypes.map defaultValue, vm := .none } = T1 at X₁ st1
  have hcat : (Value.ref T.heap.size).category = 1 := rfl
  have hcellA : T1.heap[T.heap.size]? = some (freshCell cX kX) := by rw [← hT1]; exact State.heap_pushCell_size _ _
  have d3' : decode c.code (pc + 3) = .ok (.dup, 1) := by rw [hb]; exact d3
  have d4' : decode c.code (pc + 4) = .ok (.ldc is, 2) := by rw [hb]; exact d4
  have hstr' : vk_R own is text sa s' := vk_R.warm hW0 hstr
  obtain ⟨U, hsteps, hrun, hend, hW, hsame, ce, hce, hO⟩ := X₁.ctorThrowS hexec htr (own := own) (cls := cls) (names := names) (ic := ic) hown' hcls hnames h (fun x hx => nomatch hx) hfX hkX hcellA (by rw [hhp, hT]; exact Nat.le_refl _) (msg := .ref sa) rfl
    (g := { method := m, pc := pc + 6, locals := ls, stack := .ref sa :: .ref T.heap.size :: .ref T.heap.size :: rest, locked := none }) rfl hsize rfl rfl (rest := rest) rfl
    (by rw [hb]; exact d6) (by rw [hb]; exact d9) hout hRframes (by simp only [List.map_cons, List.sum_cons, hcat]; omega) hlocks
  obtain ⟨f1, f2⟩ := vx_frame hsame
  rw [hhp] at f1 f2
  have hWs : s.WarmedH U.vm := State.WarmedH.trans hW0 hW
  have hcl : s.vm.findClass cls = some ce.cls := by
    have h9 := hO.cls
    rw [hvm] at h9
    exact h9
  have hall : s.sameButNew ({ U with vm := s.vm } : State) locs mc ms := by
    subst hA
    obtain ⟨e1, e2⟩ := hsame
    rw [State.setFrames_setFrames] at e1
    have h2 : (T.setVm s.vm).sameButNew ({ U with vm := s.vm } : State) [] (0 + 1) (0 + 6) := ⟨e1, e2⟩
    have h3 := X.same.trans h2
    rw [List.append_nil] at h3
    exact h3.mono hc hs
  refine ⟨U, ?_, .threw T.heap.size, hrun, hend, Or.inr ⟨T.heap.size, rfl, cls, ce, locs, hx U hWs.alike f1 (fun q hq => f2 q hq (fun z hz => nomatch hz)), hce, hO.vm, hcl, hWs, hall, hf⟩⟩
  refine st1 _ ?_
  show Steps p.tables e below (T1.setTop { method := m, pc := pc + 3, locals := ls, stack := .ref T.heap.size :: rest, locked := none }) _
  jvm_step X₁.here [X₁.here.top, hexec, d3', Value.category]
  exact X₁.ldcString hexec (own := own) (text := text) (index := is) (a := sa) hown' hstr'.1 hstr'.2
    (g := { method := m, pc := pc + 4, locals := ls, stack := .ref T.heap.size :: .ref T.heap.size :: rest, locked := none }) rfl d4' _ hsteps
/-- 'throw new E("text")', the text by a wide index -/
theorem vx_throwSW {cc : ByteArray} {pc : Nat} (hexec : p.tables.exec = Jvm.exec) (hb : c.code = cc) (hl : l.stackTraces = false) {own cls text : String} {names : List String} {ik is ic mc ms sa : Nat} {A : Nat → Prop}
    (hown : s.vm.findClass own = some m.cls) (hcls : Bundle.fit cls = true) (hnames : ∀ n ∈ names, Bundle.fit n = true)
    (hk : (Cond.classLink own ik cls).before args s = true) (hini : (Cond.initialized cls).before args s = true) (hstr : vk_R own is text sa s) (hat : ∀ w ∈ vx_atS own ic cls names, w.before args s = true)
    (hgood : ∀ w ∈ Cond.classLink own ik cls :: Cond.initialized cls :: vx_atS own ic cls names, vx_ot w = true)
    (hU : vx_Zq Bundle.tN "UNASSIGNED_STACK" Bundle.steD A s s.heap) (hN : vx_Zq Bundle.tN "SUPPRESSED_SENTINEL" Bundle.listD A s s.heap) (hS : va_S A s.heap H locs) (hsize : ls.size = c.maxLocals)
    (d0 : decode cc pc = .ok (.new ik, 3)) (d3 : decode cc (pc + 3) = .ok (.dup, 1)) (d4 : decode cc (pc + 4) = .ok (.ldc_w is, 3)) (d7 : decode cc (pc + 7) = .ok (.invokespecial ic, 3)) (d10 : decode cc (pc + 10) = .ok (.athrow, 1))
    (hout : ∀ x ∈ c.exceptionTable.toList, covers x (pc + 10) = false)
    (hRframes : names.length + 3 < R.frames) (hRlocals : (rest.map fun v => v.category).sum + (13 * (names.length + 1) + 43) ≤ R.locals) (hRcells : cells + 1 ≤ R.cells) (hRslots : slots + 6 ≤ R.slots) (hlocks : meth.locks = false)
    (hx : ∀ t : State, s.vm.Alike t.vm → H.size ≤ t.heap.size → (∀ q : Nat, q < H.size → t.heap[q]? = H[q]?) → XC cls s t)
    (hf : ∀ z ∈ locs, free z.base) (hc : cells + 1 ≤ mc) (hs : slots + 6 ≤ ms) :
    W p l e R s m args below meth c H locs cells slots (vx_MQ below Qc XC args s mc ms free) (F0 m pc ls rest) := by
  intro T hT X
  have htr : e.platform.stackTraces = false := (show e.platform.stackTraces = l.stackTraces by rw [X.admits.platform]).trans hl
  have Y := vx_rebase X (R' := { frames := R.frames, locals := R.locals, cells := 1, slots := 6 }) (Nat.le_refl _) (Nat.le_refl _) hRcells hRslots
  obtain ⟨s', hA⟩ : ∃ z, z = (T.setVm s.vm).setFrames (.invoking m args :: below) := ⟨_, rfl⟩
  rw [← hA] at Y
  have hvm : s'.vm = s.vm := by rw [hA]; rfl
  have hhp : s'.heap = H := by rw [hA]; exact hT
  have hW0 : s.WarmedH s'.vm := by rw [hvm]; exact State.WarmedH.refl s
  have hat' : ∀ w ∈ vx_atS own ic cls names, w.before args s' = true := fun w hw => vx_ot_at hW0 hvm.symm (hgood w (List.mem_cons_of_mem _ (List.mem_cons_of_mem _ hw))) (hat w hw)
  have hk' : (Cond.classLink own ik cls).before args s' = true := vx_ot_at hW0 hvm.symm (hgood _ List.mem_cons_self) hk
  have hini' : (Cond.initialized cls).before args s' = true := vx_ot_at hW0 hvm.symm (hgood _ (List.mem_cons_of_mem _ List.mem_cons_self)) hini
  have hU' : vx_Zq Bundle.tN "UNASSIGNED_STACK" Bundle.steD A s' s'.heap := by rw [hhp]; exact vx_Zq.moved hW0.alike (hU.kept hS.2.1)
  have hN' : vx_Zq Bundle.tN "SUPPRESSED_SENTINEL" Bundle.listD A s' s'.heap := by rw [hhp]; exact vx_Zq.moved hW0.alike (hN.kept hS.2.1)
  have h : ∀ w ∈ Bundle.ownAtoms own ic cls names, w.before args s' = true := vx_own hat' (vx_isRefq hU'.1) (vx_isRefq hN'.1) hU'.2.word hN'.2.word
  have hown' : s'.vm.findClass own = some m.cls := by rw [hvm]; exact hown
  have hins : (Cond.instantiable cls 6).before args s' = true := h _ (by simp [Bundle.ownAtoms])
  obtain ⟨vm₁, cX, kX, hfX, hkX, -, -, X₁, st1⟩ := Y.newCold hexec (own := own) (C := cls) (index := ik) (n := 6) hown' hk' hins hini'
    (g := F0 m pc ls rest) rfl (by rw [hb]; exact d0) (Nat.le_refl _) (Nat.le_refl _)
  generalize hT1 : (T.setVm vm₁).pushCell { cls := cX, slots := kX.instanceTypes.map defaultValue, vm := .none } = T1 at X₁ st1
  have hcat : (Value.ref T.heap.size).category = 1 := rfl
  have hcellA : T1.heap[T.heap.size]? = some (freshCell cX kX) := by rw [← hT1]; exact State.heap_pushCell_size _ _
  have d3' : decode c.code (pc + 3) = .ok (.dup, 1) := by rw [hb]; exact d3
  have d4' : decode c.code (pc + 4) = .ok (.ldc_w is, 3) := by rw [hb]; exact d4
  have hstr' : vk_R own is text sa s' := vk_R.warm hW0 hstr
  obtain ⟨U, hsteps, hrun, hend, hW, hsame, ce, hce, hO⟩ := X₁.ctorThrowS hexec htr (own := own) (cls := cls) (names := names) (ic := ic) hown' hcls hnames h (fun x hx => nomatch hx) hfX hkX hcellA (by rw [hhp, hT]; exact Nat.le_refl _) (msg := .ref sa) rfl
    (g := { method := m, pc := pc + 7, locals := ls, stack := .ref sa :: .ref T.heap.size :: .ref T.heap.size :: rest, locked := none }) rfl hsize rfl rfl (rest := rest) rfl
    (by rw [hb]; exact d7) (by rw [hb]; exact d10) hout hRframes (by simp only [List.map_cons, List.sum_cons, hcat]; omega) hlocks
  obtain ⟨f1, f2⟩ := vx_frame hsame
  rw [hhp] at f1 f2
  have hWs : s.WarmedH U.vm := State.WarmedH.trans hW0 hW
  have hcl : s.vm.findClass cls = some ce.cls := by
    have h9 := hO.cls
    rw [hvm] at h9
    exact h9
  have hall : s.sameButNew ({ U with vm := s.vm } : State) locs mc ms := by
    subst hA
    obtain ⟨e1, e2⟩ := hsame
    rw [State.setFrames_setFrames] at e1
    have h2 : (T.setVm s.vm).sameButNew ({ U with vm := s.vm } : State) [] (0 + 1) (0 + 6) := ⟨e1, e2⟩
    have h3 := X.same.trans h2
    rw [List.append_nil] at h3
    exact h3.mono hc hs
  refine ⟨U, ?_, .threw T.heap.size, hrun, hend, Or.inr ⟨T.heap.size, rfl, cls, ce, locs, hx U hWs.alike f1 (fun q hq => f2 q hq (fun z hz => nomatch hz)), hce, hO.vm, hcl, hWs, hall, hf⟩⟩
  refine st1 _ ?_
  show Steps p.tables e below (T1.setTop { method := m, pc := pc + 3, locals := ls, stack := .ref T.heap.size :: rest, locked := none }) _
  jvm_step X₁.here [X₁.here.top, hexec, d3', Value.category]
  exact X₁.ldcStringW hexec (own := own) (text := text) (index := is) (a := sa) hown' hstr'.1 hstr'.2
    (g := { method := m, pc := pc + 4, locals := ls, stack := .ref T.heap.size :: .ref T.heap.size :: rest, locked := none }) rfl d4' _ hsteps
end Ends
section Bodies
variable {l : Launch}
theorem vx_ofW {y : MethodName} {ws ws' : List Cond} {rm : Room} {Pc : Array Value → State → Prop} {Qc : Array Value → State → Outcome → State → Prop} {XC : String → State → State → Prop} {mc ms : Nat} {free : Addr → Prop} {cc : ByteArray} {maxL : Nat} {ret : Option FieldType}
    (hy : plainName y.cls = true) (hw : ws = Cond.code y cc maxL ret :: ws')
    (body : ∀ p e s m args below meth c s₁, BodyLoose p l y (headSpec ws rm) cc maxL ret e s m args below meth c s₁ → c.maxLocals = maxL → (∀ x ∈ c.exceptionTable.toList, False) → Pc args s →
      W p l e (headSpec ws rm).room s m args below meth c s.heap [] 0 0 (vx_MQ below Qc XC args s mc ms free) (entryFrame m args maxL)) : vx_Met l y ws rm Pc Qc XC mc ms free := by
  refine MetFree.of_bodyS (code := cc) (maxLocals := maxL) (ret := ret) hy ?_ ?_
  · intro args s m h hn
    obtain ⟨meth, c, h1, h2, h3, h4, h5, h6, -, -⟩ := Cond.code_spec hn (atoms_spec (ws := ws) h _ (by rw [hw]; exact List.mem_cons_self))
    exact ⟨meth, c, h1, h2, h3, h4, h5, h6⟩
  · intro p e s m args below meth c s₁ B hml hP _
    have hh0 : s₁.heap = s.heap := by rw [B.state]; rfl
    have ht : ∀ x ∈ c.exceptionTable.toList, False := by
      obtain ⟨meth9, c9, h1, h2, -, -, -, -, h7, -⟩ := Cond.code_spec B.named (atoms_spec (ws := ws) B.pre _ (by rw [hw]; exact List.mem_cons_self))
      cases Option.some.inj (h1.symm.trans B.method)
      cases Option.some.inj (h2.symm.trans (Stand.of_body B).code)
      intro x hx
      rw [Array.isEmpty_iff.mp h7] at hx
      cases hx
    obtain ⟨t, a1, o, b1, b2, b3⟩ := body p e s m args below meth c s₁ B hml ht hP s₁ hh0 (Stand.of_body B)
    exact ⟨t, o, a1, b1, b2, b3⟩
/-- the table of a body with handlers -/
theorem vx_table {p : Program} {x y : MethodName} {S : Spec} {cc bytes : ByteArray} {maxL maxL' : Nat} {ret ret' : Option FieldType} {e : Env} {s s₁ : State} {m : MethodId} {args : Array Value} {below : List Frame} {meth : Method} {c : Code} {hh : List (Nat × Nat × Nat × Nat)}
    (B : BodyLoose p l y S cc maxL ret e s m args below meth c s₁) (h : (Cond.codeWith y bytes maxL' ret' hh).before args s = true) : c.exceptionTable.toList = tableOf hh := by
  obtain ⟨m9, meth9, c9, hn9, h1, h2, -, -, h6, -⟩ := Cond.codeWith_spec h
  cases Option.some.inj (hn9.symm.trans B.named)
  cases Option.some.inj (h1.symm.trans B.method)
  cases Option.some.inj (h2.symm.trans (Stand.of_body B).code)
  rw [← h6, table_eq]
end Bodies
end VXA
/-! ===== END ===== -/
/-! ===== BEGIN a static call of a method with an exception table ===== -/
section VXS
variable {p : Program} {l : Launch} {e : Env} {R : Room} {s : State} {m : MethodId} {args : Array Value} {below : List Frame} {meth : Method} {c : Code} {T : State} {H : Heap} {locs : List Loc} {cells slots : Nat}
abbrev vx_CSW (R : Room) (s : State) (args : Array Value) (own : String) (index : Nat) (y : MethodName) (bytes : ByteArray) (maxL : Nat) (ret : Option FieldType) (hh : List (Nat × Nat × Nat × Nat)) (ws : List Cond) (rm : Room) (mc ms n : Nat) : Prop :=
  (rm.cells = mc ∧ rm.slots = ms ∧ rm.frames + 1 ≤ R.frames ∧ 8 + (maxL + 11) + rm.locals ≤ R.locals ∧ (∀ w ∈ ws, ∀ (a' : Array Value) (U : State), s.WarmedH U.vm → w.before a' U = true) ∧ Cond.codeWith y bytes maxL ret hh ∈ ws) ∧
  (Cond.codeWith y bytes maxL ret hh).before args s = true ∧ (Cond.initialized y.cls).before args s = true ∧ (y.cls ≠ "java/lang/invoke/MethodHandle" ∧ y.cls ≠ "java/lang/invoke/VarHandle") ∧
  (∀ sig, parseMethodDescriptor y.desc = some sig → n = sig.parameters.length) ∧ (Cond.methodLink own index y).before args s = true ∧ (Cond.static y).before args s = true
theorem vx_cwSW {own : String} {index maxL mc ms : Nat} {y : MethodName} {bytes : ByteArray} {ret : Option FieldType} {hh : List (Nat × Nat × Nat × Nat)} {Ts ws ws' : List Cond} {rm : Room} (n : Nat) (ht : ∀ w ∈ Ts, w.before args s = true) (hT : GoodIn Ts (va_wsS own index y ws)) (hw : ws = Cond.codeWith y bytes maxL ret hh :: ws') (hrc : rm.cells = mc) (hrs : rm.slots = ms)
    (hd : y.cls ≠ "java/lang/invoke/MethodHandle" ∧ y.cls ≠ "java/lang/invoke/VarHandle" ∧ (parseMethodDescriptor y.desc).map (fun d => d.parameters.length) = some n) (hR : rm.frames + 1 ≤ R.frames ∧ 8 + (maxL + 11) + rm.locals ≤ R.locals) :
    vx_CSW R s args own index y bytes maxL ret hh ws rm mc ms n := by
  have ok : ∀ w ∈ va_wsS own index y ws, w.before args s = true := fun w h => ht w (hT w h).1
  have hG : GoodIn Ts ws := fun w h => hT w (by unfold va_wsS; exact List.mem_append_right _ h)
  have hc : Cond.codeWith y bytes maxL ret hh ∈ ws := by rw [hw]; exact List.mem_cons_self
  refine ⟨⟨hrc, hrs, hR.1, hR.2, pay_in ht hG, hc⟩, ht _ (hG _ hc).1, ok _ (by simp [va_wsS]), ⟨hd.1, hd.2.1⟩, fun sig h => ?_, ok _ (by simp [va_wsS]), ok _ (by simp [va_wsS])⟩
  have h2 := hd.2.2
  rw [h] at h2
  exact (Option.some.inj h2).symm
theorem vx_callSW (X : Stand p l e R s m args below meth c T locs cells slots) (hexec : p.tables.exec = Jvm.exec) {own : String} {index : Nat} {y : MethodName} {bytes : ByteArray} {maxL : Nat} {ret : Option FieldType} {hh : List (Nat × Nat × Nat × Nat)}
    (hown : s.vm.findClass own = some m.cls) (hlink : (Cond.methodLink own index y).before args s = true) (hstat : (Cond.static y).before args s = true) (hinit : (Cond.initialized y.cls).before args s = true)
    (hcode : (Cond.codeWith y bytes maxL ret hh).before args s = true) (hy : y.cls ≠ "java/lang/invoke/MethodHandle" ∧ y.cls ≠ "java/lang/invoke/VarHandle")
    {W9 : Nat} {Pre : Pt → Array Value → Prop} {Post : Pt → Array Value → Option Value → Pt → Prop} (hK : Back l R p e below s args y 3 W9 Pre Post)
    {g : JFrame} (hg : g.method = m) (hsize : g.locals.size = c.maxLocals) {argsL rest : List Value} (hlen : ∀ sig, parseMethodDescriptor y.desc = some sig → argsL.length = sig.parameters.length)
    (hstack : g.stack = argsL.reverse ++ rest) (hW : 2 * g.monitorRoom + (rest.map fun v => v.category).sum ≤ W9) (hdg : decode c.code g.pc = .ok (.invokestatic index, 3))
    (hpre : ∀ vm₁, s.WarmedH vm₁ → Pre ⟨T.setVm vm₁, locs, cells, slots⟩ argsL.toArray) :
    ∃ (v : Option Value) (vm₁ : Vm) (B : Pt), s.WarmedH vm₁ ∧ Stand p l e R s m args below meth c B.U B.locs B.cells B.slots ∧ Post ⟨T.setVm vm₁, locs, cells, slots⟩ argsL.toArray v B ∧
      ∀ target, Steps p.tables e below (B.U.setTop { g with pc := g.pc + 3, stack := v.toList ++ rest }) target → Steps p.tables e below (T.setTop g) target := by
  obtain ⟨mk, methM, cM, hnamed, hmethM, -, -, -, -, -, -, hsigM⟩ := Cond.codeWith_spec hcode
  have hstatic : methM.isStatic = true := Cond.static_spec hnamed hmethM hstat
  obtain ⟨kP, hkP, -⟩ := className_of_methodNamed hnamed
  have hinitP : kP.init = .initialized := Cond.initialized_spec (findClass_of_methodNamed hnamed) hkP hinit
  obtain ⟨vm₁, X₁, hstep₁⟩ := X.invokestatic hexec hown hlink hnamed hmethM hstatic hkP hinitP hy (g := g) hg (argsL := argsL) (rest := rest) (hlen _ hsigM) hstack hdg
  obtain ⟨v, B, X', hpost, hsteps⟩ := hK m meth c ⟨T.setVm vm₁, locs, cells, slots⟩ { g with stack := rest } (.invokestatic index) mk argsL.toArray X₁ hg hsize hdg hW (X₁.named hnamed) (hpre vm₁ X₁.warmed)
  exact ⟨v, vm₁, B, X₁.warmed, X', hpost, fun target h => hstep₁ _ fun acts => by rw [doInvoke_state]; exact hsteps.trans h⟩
theorem vx_runSW {y : MethodName} {bytes cc : ByteArray} {maxL nL mc ms n index : Nat} {ret : Option FieldType} {hh : List (Nat × Nat × Nat × Nat)} {ws : List Cond} {rm : Room} {Pc : Array Value → State → Prop} {Qc : Array Value → State → Outcome → State → Prop} {free : Addr → Prop} {Ts : List Cond} {own : String} {As rest : List Value} {g : JFrame}
    (S : CallFix p m c cc nL s args Ts own) (hM : Met l y ws rm Pc Qc mc ms free) (cw : vx_CSW R s args own index y bytes maxL ret hh ws rm mc ms n) (hp : PreS s H Pc As)
    (hg : g.method = m) (hn : As.length = n) (hsize : g.locals.size = nL) (hstack : g.stack = As.reverse ++ rest) (hW : 2 * g.monitorRoom + (rest.map fun v => v.category).sum ≤ 8) (hdg : decode cc g.pc = .ok (.invokestatic index, 3)) (hf : cells + mc ≤ R.cells ∧ slots + ms ≤ R.slots) :
    va_Run p l e R s m args below meth c H locs cells slots mc ms g rest (Qc As.toArray) (free) := by
  obtain ⟨⟨hrc, hrs, hfr, hlo, hws, hcw⟩, hcode, hini, hy, hlen, hl, hstt⟩ := cw
  have hK : Back l R p e below s args y 3 8 (PreOf R mc ms Pc) (PostOf Qc mc ms free) := va_backW (hh := hh) (bytes := bytes) (maxL := maxL) (ret := ret) hM hp.1 hrc hrs hfr hlo hws hcw (fun a' U hW => word_at hW (Or.inl (by first | rfl | simp [Cond.onTables, Cond.keeps, Cond.steady])) hini)
  obtain ⟨hx, hb, hml, ho, -⟩ := S
  intro T hT X
  obtain ⟨v, vm₁, ⟨U', l2, c2, s2⟩, hW₁, X', ⟨g', mk, t, L, e1, e2, hq, h1, hL, h2, h3⟩, st⟩ := vx_callSW X hx (hh := hh) (bytes := bytes) (maxL := maxL) (ret := ret) ho hl hstt hini hcode hy hK hg (hsize.trans hml.symm) (argsL := As) (rest := rest) (fun sig h => hn.trans (hlen sig h)) hstack hW (by rw [hb]; exact hdg)
    (fun vm₁ hW₁ => ⟨hf.1, hf.2, hp.2 (T.setVm vm₁) hT hW₁⟩)
  dsimp only [Pt.U, Pt.locs, Pt.cells, Pt.slots] at X' e1 e2 h1 h2 h3 st
  subst h1; subst h2; subst h3
  exact ⟨v, (T.setVm vm₁).calling g' mk As.toArray, t, U', L, hT, X', hL, e1, e2, hq, st⟩
/-- not caught here, past rows that name other classes: it goes on to the caller -/
theorem vx_outP {p : Program} {l : Launch} {e : Env} {R : Room} {s : State} {m : MethodId} {args : Array Value} {below : List Frame} {meth : Method} {c : Code} {H : Heap} {locs : List Loc} {cells slots : Nat} {free : Addr → Prop} {ls : Array Slot} {rest : List Value} {Qc : Array Value → State → Outcome → State → Prop} {XC : String → State → State → Prop}
    {pc : Nat} {own E : String} {ce : Cell} {q : Addr} {mc ms : Nat} (hown : s.vm.findClass own = some m.cls) (hlocks : meth.locks = false)
    (hpass : ∀ z ∈ c.exceptionTable.toList, covers z pc = false ∨ (z.catchType ≠ 0 ∧ ∃ nm : String, (Cond.classLink own z.catchType nm).before args s = true ∧ va_Nc E nm s)) (hcell : H[q]? = some ce) (hv : ce.vm = .none) (hcl : s.vm.findClass E = some ce.cls)
    (hx : ∀ t : State, t.heap = H → s.vm.Alike t.vm → XC E s t) (hf : ∀ z ∈ locs, free z.base) (hc : cells ≤ mc) (hs : slots ≤ ms) :
    vx_W p l e R s m args below meth c H locs cells slots (vx_MQ below Qc XC args s mc ms free) (F0 m pc ls rest) q := by
  intro T hT X
  have hpl : e.platform.magicAccessors = ({} : Platform).magicAccessors := by rw [X.admits.platform]
  obtain ⟨vm', hW', X', st⟩ := X.outThrough hlocks q (g := F0 m pc ls rest) rfl rfl rfl (cell := ce) (by rw [hT]; exact hcell) (by rw [hv]; rfl)
    (by obtain ⟨k9, h9, -⟩ := Vm.findClass_spec hcl; exact ⟨k9, h9⟩) (fun z hz => by
      rcases hpass z hz with h | ⟨hz0, nm, hl1, hn1⟩
      · exact Or.inl h
      · obtain ⟨c6, hc6, hcl6⟩ := Cond.classLink_spec hown hl1 e.platform hpl
        obtain ⟨a8, b8, h1, h2, h3⟩ := hn1
        cases Option.some.inj (h1.symm.trans hcl)
        cases Option.some.inj (h2.symm.trans hc6)
        exact Or.inr ⟨hz0, _, hcl6, h3⟩)
  obtain ⟨g₀, hfr⟩ := X'.frames_eq
  have hcell9 : ((T.setVm vm').setFrames (.throwing q :: below)).heap[q]? = some ce := by
    show T.heap[q]? = some ce
    rw [hT]; exact hcell
  have hend : Ended ((T.setVm vm').setFrames (.throwing q :: below)) below (.threw q) := State.frames_setFrames _ (State.cur_lt_of_frames hfr)
  refine ⟨(T.setVm vm').setFrames (.throwing q :: below), ?_, .threw q, X'.here.running, hend, Or.inr ⟨q, rfl, E, ce, locs, hx _ hT (X'.ends _).1.alike, hcell9, hv, hcl, (X'.ends _).1, (X'.ends _).2.mono hc hs, hf⟩⟩
  rw [X.pushThrowing_eq]
  exact st
/-- a thing of a world lies in the heap -/
theorem vx_lt {D : va_G} {cl : List vw_C} {ws : va_W} {H1 : Heap} (h : va_P D cl ws H1) {k : Nat} {q : Nat × va_E} (hk : ws[k]? = some q) : q.1 < H1.size := (h k q hk).lt
end VXS
/-! ===== END ===== -/
/-! ===== BEGIN methods with a table of their own: called by a name, returning or throwing ===== -/
section VXH
/-! vx_backW, vx_callVX, vx_callSX, vx_callVW, vx_runVW, vx_runVX, vx_runSX, vx_ofWH follow the same proofs as their sisters above (Free/Laws.lean, Shelf42/LK1.lean); vx_outP calls Shelf42/NT130.lean (outThrough). -/
section
variable {l : Launch} {R : Room} {p : Program} {e : Env} {below : List Frame} {s : State} {sargs : Array Value} {y : MethodName} {len W9 : Nat}
theorem vx_backW {ws : List Cond} {rm : Room} {Pc : Array Value → State → Prop} {Qc : Array Value → State → Outcome → State → Prop} {XC : String → State → State → Prop} {mc ms : Nat} {free : Addr → Prop} {bytes : ByteArray} {maxL : Nat} {ret : Option FieldType} {hh : List (Nat × Nat × Nat × Nat)}
    (hM : vx_Met l y ws rm Pc Qc XC mc ms free) (hblind : FrameBlind Pc) (hrc : rm.cells = mc) (hrs : rm.slots = ms)
    (hframes : rm.frames + 1 ≤ R.frames) (hlocals : W9 + (maxL + 11) + rm.locals ≤ R.locals)
    (hws : ∀ w ∈ ws, ∀ a' U, s.WarmedH U.vm → w.before a' U = true) (hcode : Cond.codeWith y bytes maxL ret hh ∈ ws) (hinit : ∀ a' U, s.WarmedH U.vm → (Cond.initialized y.cls).before a' U = true) :
    vx_Back l R p e below s sargs y len W9 (PreOf R mc ms Pc) (PostOf Qc mc ms free) (vx_Post XC mc ms free) := by
  intro m meth c A g ig mk a X hg hsize hdg hW hn hp
  have h1 : (headSpec ws rm).pre.before a A.U = true := atoms_intro fun w hw => hws w hw _ _ X.warmed
  have h2 : (Cond.codeWith y bytes maxL ret hh).before a A.U = true := hws _ hcode _ _ X.warmed
  have h3 : (Cond.initialized y.cls).before a A.U = true := hinit _ _ X.warmed
  have h4 : A.cells + (headSpec ws rm).room.cells ≤ R.cells := by rw [show (headSpec ws rm).room.cells = mc from hrc]; exact hp.1
  have h5 : A.slots + (headSpec ws rm).room.slots ≤ R.slots := by rw [show (headSpec ws rm).room.slots = ms from hrs]; exact hp.2.1
  have hPc : Pc a (A.U.calling g mk a) := hblind _ _ _ _ hp.2.2
  obtain ⟨U, Ls, c0, s0⟩ := A
  dsimp only [Pt.U, Pt.locs, Pt.cells, Pt.slots] at h1 h2 h3 h4 h5 X hn hPc ⊢
  obtain ⟨m9, methY, cY, hn9, hmY, hcY, -, hlY, -⟩ := Cond.codeWith_spec h2
  cases Option.some.inj (hn9.symm.trans hn)
  obtain ⟨kY, hkY, -⟩ := className_of_methodNamed hn
  have hinitY : kY.init = .initialized := Cond.initialized_spec (findClass_of_methodNamed hn) hkY h3
  have h : At U g.method c below := by rw [hg]; exact X.here
  have hlocals9 : W9 + (maxL + 11) + (headSpec ws rm).room.locals ≤ R.locals := hlocals
  have happ : (headSpec ws rm).appliesLoose y e.platform (U.calling g mk a) = true :=
    Spec.appliesLoose_calling (g := g) h hdg hn hkY hinitY
      (X.room_calling (g := g) (R' := (headSpec ws rm).room) hsize hmY hcY hframes (by rw [hlY]; omega) h4 h5) h1
  obtain ⟨mid, hmid⟩ := h.above
  have hfr : (U.setTop g).frames = (.java g :: mid) ++ below := by rw [State.frames_setTop' g h.top, hmid]; rfl
  obtain ⟨o, s₂, hsteps, -, hend, hq⟩ := Steps.callFree hM p X.admits X.cas X.clock (acts := []) hfr happ hPc trivial
  have hq' : vx_Q Qc XC mc ms free a (U.calling g mk a) o s₂ := hq
  rw [State.frames_setTop' g h.top] at hend
  obtain ⟨g₀, hg0⟩ := Option.isSome_iff_exists.mp h.top
  obtain ⟨r, hr⟩ := State.topJava?_eq_some.mp hg0
  have hr' : (({ U with heap := s₂.heap, slotsUsed := s₂.slotsUsed } : State).setVm s₂.vm).frames = .java g₀ :: r := hr
  rcases hq' with ⟨hqc, L, hfe, hL⟩ | ⟨q, rfl, E, ce, L, hx, hce, hcv, hcl, hW₂, hsm, hL⟩
  · obtain ⟨⟨v, rfl⟩, hW₂, e2, q2, q3, q4, q5, q6⟩ := id hfe
    have e3 : s₂ = ({ (U.calling g mk a).setFrames s₂.frames with heap := s₂.heap, slotsUsed := s₂.slotsUsed } : State).setVm s₂.vm := by
      have : s₂ = ({ s₂ with vm := (U.calling g mk a).vm } : State).setVm s₂.vm := rfl
      rw [e2] at this
      exact this
    obtain ⟨c₂, i₂, len₂, hc₂, hd₂, hf₂⟩ := hend
    have hW' : U.WarmedH s₂.vm := hW₂
    have hcc : c₂ = c := by
      have h1 : s₂.code? g.method = U.code? g.method := by
        rw [State.code?_eq, State.code?_eq, hW'.alike.method?]
      exact Option.some.inj (hc₂.symm.trans (h1.trans h.code))
    subst hcc
    have hlen : len₂ = len := by rw [hdg] at hd₂; cases hd₂; rfl
    subst hlen
    have hs₂ : s₂ = (({ U with heap := s₂.heap, slotsUsed := s₂.slotsUsed } : State).setVm s₂.vm).setTop { g with pc := g.pc + len₂, stack := v.toList ++ g.stack } := by
      refine e3.trans ?_
      rw [hf₂, State.calling_eq h.top, State.setFrames_setFrames, State.setTop_of_frames _ hr', hr]
      rfl
    have hsame : U.sameButNew ({ U with heap := s₂.heap, slotsUsed := s₂.slotsUsed } : State) L mc ms := by
      refine ⟨?_, q2, q3, q4, q5, q6⟩
      obtain ⟨t, ht, -⟩ := State.frames_cons hr
      show ({ U with heap := s₂.heap, slotsUsed := s₂.slotsUsed } : State) = { U.setFrames U.frames with heap := s₂.heap, slotsUsed := s₂.slotsUsed }
      rw [State.setFrames_self ht]
    subst hg
    refine Or.inl ⟨v, ⟨(({ U with heap := s₂.heap, slotsUsed := s₂.slotsUsed } : State).setVm s₂.vm), Ls ++ L, c0 + mc, s0 + ms⟩,
      ⟨X.admits, X.cas, X.clock, X.frames, X.room, X.hears, X.method, X.code, (X.here.setHeapUsed s₂.heap s₂.slotsUsed).setVm hW'.alike, X.tail, State.WarmedH.trans X.warmed hW', X.limits, X.bytes, X.same.trans (hsame.setVm s.vm)⟩,
      ⟨g, mk, s₂, L, rfl, rfl, hqc, rfl, hL, rfl, rfl⟩, ?_⟩
    show Steps p.tables e below _ ((({ U with heap := s₂.heap, slotsUsed := s₂.slotsUsed } : State).setVm s₂.vm).setTop { g with pc := g.pc + len₂, stack := v.toList ++ g.stack })
    rw [← hs₂]
    exact hsteps
  · obtain ⟨e2, q2, q3, q4, q5, q6⟩ := id hsm
    have e3 : s₂ = ({ (U.calling g mk a).setFrames s₂.frames with heap := s₂.heap, slotsUsed := s₂.slotsUsed } : State).setVm s₂.vm := by
      have : s₂ = ({ s₂ with vm := (U.calling g mk a).vm } : State).setVm s₂.vm := rfl
      rw [e2] at this
      exact this
    have hf₂ : s₂.frames = .throwing q :: .java g :: U.frames.tail := hend
    have hW' : U.WarmedH s₂.vm := hW₂
    have hs₂ : s₂ = ((({ U with heap := s₂.heap, slotsUsed := s₂.slotsUsed } : State).setVm s₂.vm).setTop g).pushFrame (.throwing q) := by
      refine e3.trans ?_
      rw [hf₂, State.calling_eq h.top, State.setFrames_setFrames, State.pushFrame, State.frames_setTop _ hr', State.setTop_of_frames _ hr', State.setFrames_setFrames, hr]
      rfl
    have hsame : U.sameButNew ({ U with heap := s₂.heap, slotsUsed := s₂.slotsUsed } : State) L mc ms := by
      refine ⟨?_, q2, q3, q4, q5, q6⟩
      obtain ⟨t, ht, -⟩ := State.frames_cons hr
      show ({ U with heap := s₂.heap, slotsUsed := s₂.slotsUsed } : State) = { U.setFrames U.frames with heap := s₂.heap, slotsUsed := s₂.slotsUsed }
      rw [State.setFrames_self ht]
    subst hg
    refine Or.inr ⟨q, ⟨(({ U with heap := s₂.heap, slotsUsed := s₂.slotsUsed } : State).setVm s₂.vm), Ls ++ L, c0 + mc, s0 + ms⟩,
      ⟨X.admits, X.cas, X.clock, X.frames, X.room, X.hears, X.method, X.code, (X.here.setHeapUsed s₂.heap s₂.slotsUsed).setVm hW'.alike, X.tail, State.WarmedH.trans X.warmed hW', X.limits, X.bytes, X.same.trans (hsame.setVm s.vm)⟩,
      ⟨g, mk, s₂, L, E, ce, rfl, rfl, hx, hce, hcv, hcl, rfl, hL, rfl, rfl⟩, ?_⟩
    show Steps p.tables e below _ (((({ U with heap := s₂.heap, slotsUsed := s₂.slotsUsed } : State).setVm s₂.vm).setTop g).pushFrame (.throwing q))
    rw [← hs₂]
    exact hsteps
end
variable {p : Program} {l : Launch} {e : Env} {R : Room} {s : State} {m : MethodId} {args : Array Value} {below : List Frame} {meth : Method} {c : Code} {T : State} {H : Heap} {locs : List Loc} {cells slots : Nat}
theorem vx_callVX (X : Stand p l e R s m args below meth c T locs cells slots) (hexec : p.tables.exec = Jvm.exec) {own C : String} {index : Nat} {y : MethodName} {bytes : ByteArray} {maxL : Nat} {ret : Option FieldType} {hh : List (Nat × Nat × Nat × Nat)}
    (hown : s.vm.findClass own = some m.cls) (hlink : (Cond.methodLink own index y).before args s = true) (hinst : (Cond.instanceMethod y).before args s = true) (hsel : (Cond.selects C y y).before args s = true)
    (hcode : (Cond.codeWith y bytes maxL ret hh).before args s = true) (hy : y.cls ≠ "java/lang/invoke/MethodHandle" ∧ y.cls ≠ "java/lang/invoke/VarHandle")
    {W9 : Nat} {Pre : Pt → Array Value → Prop} {Post : Pt → Array Value → Option Value → Pt → Prop} {PostX : Pt → Array Value → Addr → Pt → Prop} (hK : vx_Back l R p e below s args y 3 W9 Pre Post PostX)
    {b : Addr} {cellB : Cell} (hcell : T.heap[b]? = some cellB) (hobj : cellB.vm.isStatics = false) (hcls : s.vm.findClass C = some cellB.cls)
    {g : JFrame} (hg : g.method = m) (hsize : g.locals.size = c.maxLocals) {argsL rest : List Value} (hlen : ∀ sig, parseMethodDescriptor y.desc = some sig → argsL.length = sig.parameters.length)
    (hstack : g.stack = argsL.reverse ++ .ref b :: rest) (hW : 2 * g.monitorRoom + (rest.map fun v => v.category).sum ≤ W9) (hdg : decode c.code g.pc = .ok (.invokevirtual index, 3))
    (hpre : ∀ vm₁, s.WarmedH vm₁ → Pre ⟨T.setVm vm₁, locs, cells, slots⟩ (Value.ref b :: argsL).toArray) :
    (∃ (v : Option Value) (vm₁ : Vm) (B : Pt), s.WarmedH vm₁ ∧ Stand p l e R s m args below meth c B.U B.locs B.cells B.slots ∧ Post ⟨T.setVm vm₁, locs, cells, slots⟩ (Value.ref b :: argsL).toArray v B ∧
      ∀ target, Steps p.tables e below (B.U.setTop { g with pc := g.pc + 3, stack := v.toList ++ rest }) target → Steps p.tables e below (T.setTop g) target) ∨
    (∃ (q : Addr) (vm₁ : Vm) (B : Pt), s.WarmedH vm₁ ∧ Stand p l e R s m args below meth c B.U B.locs B.cells B.slots ∧ PostX ⟨T.setVm vm₁, locs, cells, slots⟩ (Value.ref b :: argsL).toArray q B ∧
      Steps p.tables e below (T.setTop g) ((B.U.setTop { g with stack := rest }).pushFrame (.throwing q))) := by
  obtain ⟨mk, methM, hnamed, hmethM, hstM, habM⟩ := Cond.instanceMethod_spec hinst
  obtain ⟨m8, methM', cM, hn8, hmethM', -, -, -, -, -, -, hsigM⟩ := Cond.codeWith_spec hcode
  cases Option.some.inj (hn8.symm.trans hnamed)
  cases hmethM.symm.trans hmethM'
  obtain ⟨c2, r2, m2, q1, q2, q3, q4, kP, hkP, hkPi⟩ := Cond.selects_spec hsel
  cases hcls.symm.trans q1
  cases (State.methodFound?_of_named hnamed hy).symm.trans q2
  cases hnamed.symm.trans q3
  have hselP : selectMethod e.platform s.vm cellB.cls mk = .method mk := by rw [Launch.admits_selectMethod X.admits]; exact q4
  obtain ⟨vm₁, X₁, hstep₁⟩ := X.invokevirtual hexec hown hlink hnamed hmethM hstM hkP hkPi hy (a := b) (cell := cellB) hcell
    (fun z h => by rw [h] at hobj; cases hobj) hselP hmethM habM hkP hkPi (g := g) hg (argsL := argsL) (rest := rest) (hlen _ hsigM) hstack hdg
  rcases hK m meth c ⟨T.setVm vm₁, locs, cells, slots⟩ { g with stack := rest } (.invokevirtual index) mk (Value.ref b :: argsL).toArray X₁ hg hsize hdg hW (X₁.named hnamed) (hpre vm₁ X₁.warmed) with ⟨v, B, X', hpost, hsteps⟩ | ⟨q, B, X', hpost, hsteps⟩
  · exact Or.inl ⟨v, vm₁, B, X₁.warmed, X', hpost, fun target h => hstep₁ _ fun acts => by rw [doInvoke_state]; exact hsteps.trans h⟩
  · exact Or.inr ⟨q, vm₁, B, X₁.warmed, X', hpost, hstep₁ _ fun acts => by rw [doInvoke_state]; exact hsteps⟩
theorem vx_callSX (X : Stand p l e R s m args below meth c T locs cells slots) (hexec : p.tables.exec = Jvm.exec) {own : String} {index : Nat} {y : MethodName} {bytes : ByteArray} {maxL : Nat} {ret : Option FieldType} {hh : List (Nat × Nat × Nat × Nat)}
    (hown : s.vm.findClass own = some m.cls) (hlink : (Cond.methodLink own index y).before args s = true) (hstat : (Cond.static y).before args s = true) (hinit : (Cond.initialized y.cls).before args s = true)
    (hcode : (Cond.codeWith y bytes maxL ret hh).before args s = true) (hy : y.cls ≠ "java/lang/invoke/MethodHandle" ∧ y.cls ≠ "java/lang/invoke/VarHandle")
    {W9 : Nat} {Pre : Pt → Array Value → Prop} {Post : Pt → Array Value → Option Value → Pt → Prop} {PostX : Pt → Array Value → Addr → Pt → Prop} (hK : vx_Back l R p e below s args y 3 W9 Pre Post PostX)
    {g : JFrame} (hg : g.method = m) (hsize : g.locals.size = c.maxLocals) {argsL rest : List Value} (hlen : ∀ sig, parseMethodDescriptor y.desc = some sig → argsL.length = sig.parameters.length)
    (hstack : g.stack = argsL.reverse ++ rest) (hW : 2 * g.monitorRoom + (rest.map fun v => v.category).sum ≤ W9) (hdg : decode c.code g.pc = .ok (.invokestatic index, 3))
    (hpre : ∀ vm₁, s.WarmedH vm₁ → Pre ⟨T.setVm vm₁, locs, cells, slots⟩ argsL.toArray) :
    (∃ (v : Option Value) (vm₁ : Vm) (B : Pt), s.WarmedH vm₁ ∧ Stand p l e R s m args below meth c B.U B.locs B.cells B.slots ∧ Post ⟨T.setVm vm₁, locs, cells, slots⟩ argsL.toArray v B ∧
      ∀ target, Steps p.tables e below (B.U.setTop { g with pc := g.pc + 3, stack := v.toList ++ rest }) target → Steps p.tables e below (T.setTop g) target) ∨
    (∃ (q : Addr) (vm₁ : Vm) (B : Pt), s.WarmedH vm₁ ∧ Stand p l e R s m args below meth c B.U B.locs B.cells B.slots ∧ PostX ⟨T.setVm vm₁, locs, cells, slots⟩ argsL.toArray q B ∧
      Steps p.tables e below (T.setTop g) ((B.U.setTop { g with stack := rest }).pushFrame (.throwing q))) := by
  obtain ⟨mk, methM, cM, hnamed, hmethM, -, -, -, -, -, -, hsigM⟩ := Cond.codeWith_spec hcode
  have hstatic : methM.isStatic = true := Cond.static_spec hnamed hmethM hstat
  obtain ⟨kP, hkP, -⟩ := className_of_methodNamed hnamed
  have hinitP : kP.init = .initialized := Cond.initialized_spec (findClass_of_methodNamed hnamed) hkP hinit
  obtain ⟨vm₁, X₁, hstep₁⟩ := X.invokestatic hexec hown hlink hnamed hmethM hstatic hkP hinitP hy (g := g) hg (argsL := argsL) (rest := rest) (hlen _ hsigM) hstack hdg
  rcases hK m meth c ⟨T.setVm vm₁, locs, cells, slots⟩ { g with stack := rest } (.invokestatic index) mk argsL.toArray X₁ hg hsize hdg hW (X₁.named hnamed) (hpre vm₁ X₁.warmed) with ⟨v, B, X', hpost, hsteps⟩ | ⟨q, B, X', hpost, hsteps⟩
  · exact Or.inl ⟨v, vm₁, B, X₁.warmed, X', hpost, fun target h => hstep₁ _ fun acts => by rw [doInvoke_state]; exact hsteps.trans h⟩
  · exact Or.inr ⟨q, vm₁, B, X₁.warmed, X', hpost, hstep₁ _ fun acts => by rw [doInvoke_state]; exact hsteps⟩
theorem vx_callVW (X : Stand p l e R s m args below meth c T locs cells slots) (hexec : p.tables.exec = Jvm.exec) {own C : String} {index : Nat} {y : MethodName} {bytes : ByteArray} {maxL : Nat} {ret : Option FieldType} {hh : List (Nat × Nat × Nat × Nat)}
    (hown : s.vm.findClass own = some m.cls) (hlink : (Cond.methodLink own index y).before args s = true) (hinst : (Cond.instanceMethod y).before args s = true) (hsel : (Cond.selects C y y).before args s = true)
    (hcode : (Cond.codeWith y bytes maxL ret hh).before args s = true) (hy : y.cls ≠ "java/lang/invoke/MethodHandle" ∧ y.cls ≠ "java/lang/invoke/VarHandle")
    {W9 : Nat} {Pre : Pt → Array Value → Prop} {Post : Pt → Array Value → Option Value → Pt → Prop} (hK : Back l R p e below s args y 3 W9 Pre Post)
    {b : Addr} {cellB : Cell} (hcell : T.heap[b]? = some cellB) (hobj : cellB.vm.isStatics = false) (hcls : s.vm.findClass C = some cellB.cls)
    {g : JFrame} (hg : g.method = m) (hsize : g.locals.size = c.maxLocals) {argsL rest : List Value} (hlen : ∀ sig, parseMethodDescriptor y.desc = some sig → argsL.length = sig.parameters.length)
    (hstack : g.stack = argsL.reverse ++ .ref b :: rest) (hW : 2 * g.monitorRoom + (rest.map fun v => v.category).sum ≤ W9) (hdg : decode c.code g.pc = .ok (.invokevirtual index, 3))
    (hpre : ∀ vm₁, s.WarmedH vm₁ → Pre ⟨T.setVm vm₁, locs, cells, slots⟩ (Value.ref b :: argsL).toArray) :
    ∃ (v : Option Value) (vm₁ : Vm) (B : Pt), s.WarmedH vm₁ ∧ Stand p l e R s m args below meth c B.U B.locs B.cells B.slots ∧ Post ⟨T.setVm vm₁, locs, cells, slots⟩ (Value.ref b :: argsL).toArray v B ∧
      ∀ target, Steps p.tables e below (B.U.setTop { g with pc := g.pc + 3, stack := v.toList ++ rest }) target → Steps p.tables e below (T.setTop g) target := by
  obtain ⟨mk, methM, hnamed, hmethM, hstM, habM⟩ := Cond.instanceMethod_spec hinst
  obtain ⟨m8, methM', cM, hn8, hmethM', -, -, -, -, -, -, hsigM⟩ := Cond.codeWith_spec hcode
  cases Option.some.inj (hn8.symm.trans hnamed)
  cases hmethM.symm.trans hmethM'
  obtain ⟨c2, r2, m2, q1, q2, q3, q4, kP, hkP, hkPi⟩ := Cond.selects_spec hsel
  cases hcls.symm.trans q1
  cases (State.methodFound?_of_named hnamed hy).symm.trans q2
  cases hnamed.symm.trans q3
  have hselP : selectMethod e.platform s.vm cellB.cls mk = .method mk := by rw [Launch.admits_selectMethod X.admits]; exact q4
  obtain ⟨vm₁, X₁, hstep₁⟩ := X.invokevirtual hexec hown hlink hnamed hmethM hstM hkP hkPi hy (a := b) (cell := cellB) hcell
    (fun z h => by rw [h] at hobj; cases hobj) hselP hmethM habM hkP hkPi (g := g) hg (argsL := argsL) (rest := rest) (hlen _ hsigM) hstack hdg
  obtain ⟨v, B, X', hpost, hsteps⟩ := hK m meth c ⟨T.setVm vm₁, locs, cells, slots⟩ { g with stack := rest } (.invokevirtual index) mk (Value.ref b :: argsL).toArray X₁ hg hsize hdg hW (X₁.named hnamed) (hpre vm₁ X₁.warmed)
  exact ⟨v, vm₁, B, X₁.warmed, X', hpost, fun target h => hstep₁ _ fun acts => by rw [doInvoke_state]; exact hsteps.trans h⟩
abbrev vx_CVW (R : Room) (s : State) (args : Array Value) (own C : String) (index : Nat) (y : MethodName) (bytes : ByteArray) (maxL : Nat) (ret : Option FieldType) (hh : List (Nat × Nat × Nat × Nat)) (ws : List Cond) (rm : Room) (mc ms n : Nat) : Prop :=
  (rm.cells = mc ∧ rm.slots = ms ∧ rm.frames + 1 ≤ R.frames ∧ 8 + (maxL + 11) + rm.locals ≤ R.locals ∧ (∀ w ∈ ws, ∀ (a' : Array Value) (U : State), s.WarmedH U.vm → w.before a' U = true) ∧ Cond.codeWith y bytes maxL ret hh ∈ ws) ∧
  (Cond.codeWith y bytes maxL ret hh).before args s = true ∧ (Cond.initialized y.cls).before args s = true ∧ (y.cls ≠ "java/lang/invoke/MethodHandle" ∧ y.cls ≠ "java/lang/invoke/VarHandle") ∧
  (∀ sig, parseMethodDescriptor y.desc = some sig → n = sig.parameters.length) ∧ (Cond.methodLink own index y).before args s = true ∧ (Cond.instanceMethod y).before args s = true ∧ (Cond.selects C y y).before args s = true
theorem vx_cwVW {own C : String} {index maxL mc ms : Nat} {y : MethodName} {bytes : ByteArray} {ret : Option FieldType} {hh : List (Nat × Nat × Nat × Nat)} {Ts ws ws' : List Cond} {rm : Room} (n : Nat) (ht : ∀ w ∈ Ts, w.before args s = true) (hT : GoodIn Ts (wsV own index C y ws)) (hw : ws = Cond.codeWith y bytes maxL ret hh :: ws') (hrc : rm.cells = mc) (hrs : rm.slots = ms)
    (hd : y.cls = C ∧ y.cls ≠ "java/lang/invoke/MethodHandle" ∧ y.cls ≠ "java/lang/invoke/VarHandle" ∧ (parseMethodDescriptor y.desc).map (fun d => d.parameters.length) = some n) (hR : rm.frames + 1 ≤ R.frames ∧ 8 + (maxL + 11) + rm.locals ≤ R.locals) :
    vx_CVW R s args own C index y bytes maxL ret hh ws rm mc ms n := by
  obtain ⟨hC, hd⟩ := hd
  subst hC
  have ok : ∀ w ∈ wsV own index y.cls y ws, w.before args s = true := fun w h => ht w (hT w h).1
  have hG : GoodIn Ts ws := fun w h => hT w (by unfold wsV; exact List.mem_append_right _ h)
  have hc : Cond.codeWith y bytes maxL ret hh ∈ ws := by rw [hw]; exact List.mem_cons_self
  refine ⟨⟨hrc, hrs, hR.1, hR.2, pay_in ht hG, hc⟩, ht _ (hG _ hc).1, ok _ (by simp [wsV]), ⟨hd.1, hd.2.1⟩, fun sig h => ?_, ok _ (by simp [wsV]), ok _ (by simp [wsV]), ok _ (by simp [wsV])⟩
  have h2 := hd.2.2
  rw [h] at h2
  exact (Option.some.inj h2).symm
theorem vx_runVW {y : MethodName} {bytes cc : ByteArray} {maxL nL mc ms n index : Nat} {ret : Option FieldType} {hh : List (Nat × Nat × Nat × Nat)} {ws : List Cond} {rm : Room} {Pc : Array Value → State → Prop} {Qc : Array Value → State → Outcome → State → Prop} {free : Addr → Prop} {Ts : List Cond} {own C : String} {b : Addr} {As rest : List Value} {g : JFrame}
    (S : CallFix p m c cc nL s args Ts own) (hM : Met l y ws rm Pc Qc mc ms free) (cw : vx_CVW R s args own C index y bytes maxL ret hh ws rm mc ms n) (hp : PreV s H C b Pc As)
    (hg : g.method = m) (hn : As.length = n) (hsize : g.locals.size = nL) (hstack : g.stack = As.reverse ++ .ref b :: rest) (hW : 2 * g.monitorRoom + (rest.map fun v => v.category).sum ≤ 8) (hdg : decode cc g.pc = .ok (.invokevirtual index, 3)) (hf : cells + mc ≤ R.cells ∧ slots + ms ≤ R.slots) :
    va_Run p l e R s m args below meth c H locs cells slots mc ms g rest (Qc (Value.ref b :: As).toArray) free := by
  obtain ⟨⟨hrc, hrs, hfr, hlo, hws, hcw⟩, hcode, hini, hy, hlen, hl, hin, hse⟩ := cw
  have hK : Back l R p e below s args y 3 8 (PreOf R mc ms Pc) (PostOf Qc mc ms free) := va_backW (hh := hh) (bytes := bytes) (maxL := maxL) (ret := ret) hM hp.1 hrc hrs hfr hlo hws hcw (fun a' U hW => word_at hW (Or.inl (by first | rfl | simp [Cond.onTables, Cond.keeps, Cond.steady])) hini)
  obtain ⟨hx, hb, hml, ho, -⟩ := S
  obtain ⟨-, ⟨cellB, hcB, hoB, hclB⟩, hPc⟩ := hp
  intro T hT X
  obtain ⟨v, vm₁, ⟨U', l2, c2, s2⟩, hW₁, X', ⟨g', mk, t, L, e1, e2, hq, h1, hL, h2, h3⟩, st⟩ := vx_callVW X hx (C := C) (hh := hh) (bytes := bytes) (maxL := maxL) (ret := ret) ho hl hin hse hcode hy hK (by rw [hT]; exact hcB) hoB hclB hg (hsize.trans hml.symm) (argsL := As) (rest := rest) (fun sig h => hn.trans (hlen sig h)) hstack hW (by rw [hb]; exact hdg)
    (fun vm₁ hW₁ => ⟨hf.1, hf.2, hPc (T.setVm vm₁) hT hW₁⟩)
  dsimp only [Pt.U, Pt.locs, Pt.cells, Pt.slots] at X' e1 e2 h1 h2 h3 st
  subst h1; subst h2; subst h3
  exact ⟨v, (T.setVm vm₁).calling g' mk (Value.ref b :: As).toArray, t, U', L, hT, X', hL, e1, e2, hq, st⟩
section
variable {y : MethodName} {bytes cc : ByteArray} {maxL nL mc ms n index : Nat} {ret : Option FieldType} {ws : List Cond} {rm : Room} {Pc : Array Value → State → Prop} {Qc : Array Value → State → Outcome → State → Prop} {XC : String → State → State → Prop} {free : Addr → Prop} {Ts : List Cond} {own C : String} {b : Addr} {As rest : List Value} {g : JFrame}
theorem vx_runVX {hh : List (Nat × Nat × Nat × Nat)} (S : CallFix p m c cc nL s args Ts own) (hM : vx_Met l y ws rm Pc Qc XC mc ms free) (cw : vx_CVW R s args own C index y bytes maxL ret hh ws rm mc ms n) (hp : PreV s H C b Pc As)
    (hg : g.method = m) (hn : As.length = n) (hsize : g.locals.size = nL) (hstack : g.stack = As.reverse ++ .ref b :: rest) (hW : 2 * g.monitorRoom + (rest.map fun v => v.category).sum ≤ 8) (hdg : decode cc g.pc = .ok (.invokevirtual index, 3)) (hf : cells + mc ≤ R.cells ∧ slots + ms ≤ R.slots) :
    vx_Run p l e R s m args below meth c H locs cells slots mc ms g rest (Qc (Value.ref b :: As).toArray) XC free := by
  obtain ⟨⟨hrc, hrs, hfr, hlo, hws, hcw⟩, hcode, hini, hy, hlen, hl, hin, hse⟩ := cw
  have hK : vx_Back l R p e below s args y 3 8 (PreOf R mc ms Pc) (PostOf Qc mc ms free) (vx_Post XC mc ms free) := vx_backW (hh := hh) (bytes := bytes) (maxL := maxL) (ret := ret) hM hp.1 hrc hrs hfr hlo hws hcw (fun a' U hW => word_at hW (Or.inl (by first | rfl | simp [Cond.onTables, Cond.keeps, Cond.steady])) hini)
  obtain ⟨hx, hb, hml, ho, -⟩ := S
  obtain ⟨-, ⟨cellB, hcB, hoB, hclB⟩, hPc⟩ := hp
  intro T hT X
  rcases vx_callVX X hx (C := C) (hh := hh) (bytes := bytes) (maxL := maxL) (ret := ret) ho hl hin hse hcode hy hK (by rw [hT]; exact hcB) hoB hclB hg (hsize.trans hml.symm) (argsL := As) (rest := rest) (fun sig h => hn.trans (hlen sig h)) hstack hW (by rw [hb]; exact hdg)
    (fun vm₁ hW₁ => ⟨hf.1, hf.2, hPc (T.setVm vm₁) hT hW₁⟩) with ⟨v, vm₁, ⟨U', l2, c2, s2⟩, hW₁, X', ⟨g', mk, t, L, e1, e2, hq, h1, hL, h2, h3⟩, st⟩ | ⟨q, vm₁, ⟨U', l2, c2, s2⟩, hW₁, X', ⟨g', mk, t, L, E, ce, e1, e2, hq, hce, hcv, hcl, h1, hL, h2, h3⟩, st⟩
  · dsimp only [Pt.U, Pt.locs, Pt.cells, Pt.slots] at X' e1 e2 h1 h2 h3 st
    subst h1; subst h2; subst h3
    exact Or.inl ⟨v, (T.setVm vm₁).calling g' mk (Value.ref b :: As).toArray, t, U', L, hT, X', hL, e1, e2, hq, st⟩
  · dsimp only [Pt.U, Pt.locs, Pt.cells, Pt.slots] at X' e1 e2 h1 h2 h3 st hcl
    subst h1; subst h2; subst h3
    exact Or.inr ⟨q, (T.setVm vm₁).calling g' mk (Value.ref b :: As).toArray, t, U', L, E, ce, hT, X', hL, e1, e2, hq, hce, hcv, vx_cls hW₁ hcl, st⟩
theorem vx_runSX {hh : List (Nat × Nat × Nat × Nat)} (S : CallFix p m c cc nL s args Ts own) (hM : vx_Met l y ws rm Pc Qc XC mc ms free) (cw : vx_CSW R s args own index y bytes maxL ret hh ws rm mc ms n) (hp : PreS s H Pc As)
    (hg : g.method = m) (hn : As.length = n) (hsize : g.locals.size = nL) (hstack : g.stack = As.reverse ++ rest) (hW : 2 * g.monitorRoom + (rest.map fun v => v.category).sum ≤ 8) (hdg : decode cc g.pc = .ok (.invokestatic index, 3)) (hf : cells + mc ≤ R.cells ∧ slots + ms ≤ R.slots) :
    vx_Run p l e R s m args below meth c H locs cells slots mc ms g rest (Qc As.toArray) XC free := by
  obtain ⟨⟨hrc, hrs, hfr, hlo, hws, hcw⟩, hcode, hini, hy, hlen, hl, hstt⟩ := cw
  have hK : vx_Back l R p e below s args y 3 8 (PreOf R mc ms Pc) (PostOf Qc mc ms free) (vx_Post XC mc ms free) := vx_backW (hh := hh) (bytes := bytes) (maxL := maxL) (ret := ret) hM hp.1 hrc hrs hfr hlo hws hcw (fun a' U hW => word_at hW (Or.inl (by first | rfl | simp [Cond.onTables, Cond.keeps, Cond.steady])) hini)
  obtain ⟨hx, hb, hml, ho, -⟩ := S
  intro T hT X
  rcases vx_callSX X hx (hh := hh) (bytes := bytes) (maxL := maxL) (ret := ret) ho hl hstt hini hcode hy hK hg (hsize.trans hml.symm) (argsL := As) (rest := rest) (fun sig h => hn.trans (hlen sig h)) hstack hW (by rw [hb]; exact hdg)
    (fun vm₁ hW₁ => ⟨hf.1, hf.2, hp.2 (T.setVm vm₁) hT hW₁⟩) with ⟨v, vm₁, ⟨U', l2, c2, s2⟩, hW₁, X', ⟨g', mk, t, L, e1, e2, hq, h1, hL, h2, h3⟩, st⟩ | ⟨q, vm₁, ⟨U', l2, c2, s2⟩, hW₁, X', ⟨g', mk, t, L, E, ce, e1, e2, hq, hce, hcv, hcl, h1, hL, h2, h3⟩, st⟩
  · dsimp only [Pt.U, Pt.locs, Pt.cells, Pt.slots] at X' e1 e2 h1 h2 h3 st
    subst h1; subst h2; subst h3
    exact Or.inl ⟨v, (T.setVm vm₁).calling g' mk As.toArray, t, U', L, hT, X', hL, e1, e2, hq, st⟩
  · dsimp only [Pt.U, Pt.locs, Pt.cells, Pt.slots] at X' e1 e2 h1 h2 h3 st hcl
    subst h1; subst h2; subst h3
    exact Or.inr ⟨q, (T.setVm vm₁).calling g' mk As.toArray, t, U', L, E, ce, hT, X', hL, e1, e2, hq, hce, hcv, vx_cls hW₁ hcl, st⟩
end
end VXH
theorem vx_ofWH {l : Launch} {y : MethodName} {ws ws' : List Cond} {rm : Room} {Pc : Array Value → State → Prop} {Qc : Array Value → State → Outcome → State → Prop} {XC : String → State → State → Prop} {mc ms : Nat} {free : Addr → Prop} {cc : ByteArray} {maxL : Nat} {ret : Option FieldType} {hh : List (Nat × Nat × Nat × Nat)}
    (hy : plainName y.cls = true) (hw : ws = Cond.codeWith y cc maxL ret hh :: ws')
    (body : ∀ p e s m args below meth c s₁, BodyLoose p l y (headSpec ws rm) cc maxL ret e s m args below meth c s₁ → c.maxLocals = maxL → Pc args s →
      W p l e (headSpec ws rm).room s m args below meth c s.heap [] 0 0 (vx_MQ below Qc XC args s mc ms free) (entryFrame m args maxL)) : vx_Met l y ws rm Pc Qc XC mc ms free := by
  refine MetFree.of_bodyS (code := cc) (maxLocals := maxL) (ret := ret) hy ?_ ?_
  · intro args s m h hn
    obtain ⟨m9, meth, c, hn9, h1, h2, h3, h4, -, h5, h6, -⟩ := Cond.codeWith_spec (atoms_spec (ws := ws) h _ (by rw [hw]; exact List.mem_cons_self))
    cases hn.symm.trans hn9
    exact ⟨meth, c, h1, h2, h3, h4, h5, h6⟩
  · intro p e s m args below meth c s₁ B hml hP _
    have hh0 : s₁.heap = s.heap := by rw [B.state]; rfl
    obtain ⟨t, a1, o, b1, b2, b3⟩ := body p e s m args below meth c s₁ B hml hP s₁ hh0 (Stand.of_body B)
    exact ⟨t, o, a1, b1, b2, b3⟩
/-! ===== END ===== -/

/-! ===== BEGIN printed: names, fields, word lists, decode rows ===== -/
def RX0 : String := "OliveMill$Books"
def TX0 : u_T := fun k => match k with
  | 0 => ("OliveMill$Books", "growers", "LOliveMill$Table;", true)
  | 1 => ("OliveMill$Books", "lots", "LOliveMill$Table;", true)
  | 2 => ("OliveMill$Books", "tanks", "LOliveMill$Table;", true)
  | 3 => ("OliveMill$Books", "varieties", "LOliveMill$Table;", true)
  | 4 => ("OliveMill$Books", "settings", "LOliveMill$Row;", true)
  | 5 => ("OliveMill$Books", "mill", "LOliveMill$Row;", true)
  | 6 => ("OliveMill$Books", "cells", "[I", true)
  | 7 => ("OliveMill$Books", "saved", "[I", true)
  | 8 => ("OliveMill$Books", "oldestSaved", "I", false)
  | _ => ("OliveMill$Books", "savedStates", "I", false)
def tyX0 : Nat → FieldType := fun k => match k with
  | 0 => .object "OliveMill$Table"
  | 1 => .object "OliveMill$Table"
  | 2 => .object "OliveMill$Table"
  | 3 => .object "OliveMill$Table"
  | 4 => .object "OliveMill$Row"
  | 5 => .object "OliveMill$Row"
  | 6 => .array .int
  | 7 => .array .int
  | 8 => .int
  | _ => .int
abbrev wsX00 : List Cond := u_ws RX0 TX0 10
theorem nmX0 : ∀ a, a < 10 → ∀ b, b < 10 → a ≠ b → (TX0 a).2.1 ≠ (TX0 b).2.1 := by decide +kernel
theorem tyX0_ok : ∀ k, k < 10 → parseFieldDescriptor (TX0 k).2.2.1 = some (tyX0 k) := by decide +kernel
abbrev cX0_init : ByteArray := prog_2_method_1_code
def yX0_init : MethodName := ⟨RX0, "<init>", "()V"⟩
abbrev cX0_gradeOfLot : ByteArray := prog_2_method_2_code
def yX0_gradeOfLot : MethodName := ⟨RX0, "gradeOfLot", "(I)I"⟩
abbrev cX0_save : ByteArray := prog_2_method_3_code
def yX0_save : MethodName := ⟨RX0, "save", "()V"⟩
abbrev cX0_restore : ByteArray := prog_2_method_4_code
def yX0_restore : MethodName := ⟨RX0, "restore", "()V"⟩
abbrev cX0_placeOfSaved : ByteArray := prog_2_method_5_code
def yX0_placeOfSaved : MethodName := ⟨RX0, "placeOfSaved", "(I)I"⟩
def RX1 : String := "OliveMill$Cellar"
def TX1 : u_T := fun k => match k with
  | 0 => ("OliveMill$Cellar", "books", "LOliveMill$Books;", true)
  | 1 => ("OliveMill$Cellar", "parts", "[I", true)
  | _ => ("OliveMill$Cellar", "remainders", "[I", true)
def tyX1 : Nat → FieldType := fun k => match k with
  | 0 => .object "OliveMill$Books"
  | 1 => .array .int
  | _ => .array .int
abbrev wsX10 : List Cond := u_ws RX1 TX1 3
theorem nmX1 : ∀ a, a < 3 → ∀ b, b < 3 → a ≠ b → (TX1 a).2.1 ≠ (TX1 b).2.1 := by decide +kernel
theorem tyX1_ok : ∀ k, k < 3 → parseFieldDescriptor (TX1 k).2.2.1 = some (tyX1 k) := by decide +kernel
abbrev cX1_init : ByteArray := prog_3_method_1_code
def yX1_init : MethodName := ⟨RX1, "<init>", "(LOliveMill$Books;)V"⟩
abbrev cX1_oilOf : ByteArray := prog_3_method_2_code
def yX1_oilOf : MethodName := ⟨RX1, "oilOf", "(I)I"⟩
abbrev cX1_allOil : ByteArray := prog_3_method_3_code
def yX1_allOil : MethodName := ⟨RX1, "allOil", "()I"⟩
abbrev cX1_oilOfVariety : ByteArray := prog_3_method_4_code
def yX1_oilOfVariety : MethodName := ⟨RX1, "oilOfVariety", "(I)I"⟩
abbrev cX1_oilOfGrade : ByteArray := prog_3_method_5_code
def yX1_oilOfGrade : MethodName := ⟨RX1, "oilOfGrade", "(I)I"⟩
abbrev cX1_gradeOf : ByteArray := prog_3_method_6_code
def yX1_gradeOf : MethodName := ⟨RX1, "gradeOf", "(I)I"⟩
abbrev cX1_roomOf : ByteArray := prog_3_method_7_code
def yX1_roomOf : MethodName := ⟨RX1, "roomOf", "(I)I"⟩
abbrev cX1_admits : ByteArray := prog_3_method_8_code
def yX1_admits : MethodName := ⟨RX1, "admits", "(IIZ)Z"⟩
abbrev cX1_pour : ByteArray := prog_3_method_9_code
def yX1_pour : MethodName := ⟨RX1, "pour", "(IIII)V"⟩
abbrev cX1_takeOut : ByteArray := prog_3_method_10_code
def yX1_takeOut : MethodName := ⟨RX1, "takeOut", "(II)V"⟩
abbrev cX1_oilAfter : ByteArray := prog_3_method_11_code
def yX1_oilAfter : MethodName := ⟨RX1, "oilAfter", "(II)I"⟩
abbrev cX1_settle : ByteArray := prog_3_method_12_code
def yX1_settle : MethodName := ⟨RX1, "settle", "(III)I"⟩
abbrev cX1_part : ByteArray := prog_3_method_13_code
def yX1_part : MethodName := ⟨RX1, "part", "(I)I"⟩
abbrev cX1_split : ByteArray := prog_3_method_14_code
def yX1_split : MethodName := ⟨RX1, "split", "(II)V"⟩
abbrev cX1_greatestRemainder : ByteArray := prog_3_method_15_code
def yX1_greatestRemainder : MethodName := ⟨RX1, "greatestRemainder", "()I"⟩
abbrev cX1_roundUp : ByteArray := prog_3_method_16_code
def yX1_roundUp : MethodName := ⟨RX1, "roundUp", "(I)V"⟩
def RX2 : String := "OliveMill$Rehearsal"
def TX2 : u_T := fun k => match k with
  | 0 => ("OliveMill$Rehearsal", "books", "LOliveMill$Books;", true)
  | 1 => ("OliveMill$Rehearsal", "waits", "[Z", true)
  | 2 => ("OliveMill$Rehearsal", "residueOf", "I", false)
  | 3 => ("OliveMill$Rehearsal", "residue", "I", false)
  | 4 => ("OliveMill$Rehearsal", "formerResidueOf", "I", false)
  | 5 => ("OliveMill$Rehearsal", "lot", "I", false)
  | 6 => ("OliveMill$Rehearsal", "due", "I", false)
  | 7 => ("OliveMill$Rehearsal", "content", "I", false)
  | 8 => ("OliveMill$Rehearsal", "firstOil", "I", false)
  | 9 => ("OliveMill$Rehearsal", "lost", "I", false)
  | 10 => ("OliveMill$Rehearsal", "carried", "I", false)
  | _ => ("OliveMill$Rehearsal", "poured", "I", false)
def tyX2 : Nat → FieldType := fun k => match k with
  | 0 => .object "OliveMill$Books"
  | 1 => .array .boolean
  | 2 => .int
  | 3 => .int
  | 4 => .int
  | 5 => .int
  | 6 => .int
  | 7 => .int
  | 8 => .int
  | 9 => .int
  | 10 => .int
  | _ => .int
abbrev wsX20 : List Cond := u_ws RX2 TX2 12
theorem nmX2 : ∀ a, a < 12 → ∀ b, b < 12 → a ≠ b → (TX2 a).2.1 ≠ (TX2 b).2.1 := by decide +kernel
theorem tyX2_ok : ∀ k, k < 12 → parseFieldDescriptor (TX2 k).2.2.1 = some (tyX2 k) := by decide +kernel
abbrev cX2_init : ByteArray := prog_4_method_1_code
def yX2_init : MethodName := ⟨RX2, "<init>", "(LOliveMill$Books;)V"⟩
abbrev cX2_begin : ByteArray := prog_4_method_2_code
def yX2_begin : MethodName := ⟨RX2, "begin", "()V"⟩
abbrev cX2_lookAhead : ByteArray := prog_4_method_3_code
def yX2_lookAhead : MethodName := ⟨RX2, "lookAhead", "()Z"⟩
abbrev cX2_step : ByteArray := prog_4_method_4_code
def yX2_step : MethodName := ⟨RX2, "step", "(I)Z"⟩
abbrev cX2_lotInTurn : ByteArray := prog_4_method_5_code
def yX2_lotInTurn : MethodName := ⟨RX2, "lotInTurn", "(I)I"⟩
abbrev cX2_weigh : ByteArray := prog_4_method_6_code
def yX2_weigh : MethodName := ⟨RX2, "weigh", "()V"⟩
abbrev cX2_passThroughMill : ByteArray := prog_4_method_7_code
def yX2_passThroughMill : MethodName := ⟨RX2, "passThroughMill", "(I)V"⟩
def RX3 : String := "OliveMill$Row"
def TX3 : u_T := fun k => match k with
  | 0 => ("OliveMill$Row", "cells", "[I", true)
  | _ => ("OliveMill$Row", "start", "I", true)
def tyX3 : Nat → FieldType := fun k => match k with
  | 0 => .array .int
  | _ => .int
abbrev wsX30 : List Cond := u_ws RX3 TX3 2
theorem nmX3 : ∀ a, a < 2 → ∀ b, b < 2 → a ≠ b → (TX3 a).2.1 ≠ (TX3 b).2.1 := by decide +kernel
theorem tyX3_ok : ∀ k, k < 2 → parseFieldDescriptor (TX3 k).2.2.1 = some (tyX3 k) := by decide +kernel
abbrev cX3_init : ByteArray := prog_5_method_1_code
def yX3_init : MethodName := ⟨RX3, "<init>", "([II)V"⟩
abbrev cX3_get : ByteArray := prog_5_method_2_code
def yX3_get : MethodName := ⟨RX3, "get", "(I)I"⟩
abbrev cX3_put : ByteArray := prog_5_method_3_code
def yX3_put : MethodName := ⟨RX3, "put", "(II)V"⟩
abbrev cX3_add : ByteArray := prog_5_method_4_code
def yX3_add : MethodName := ⟨RX3, "add", "(II)V"⟩
def RX4 : String := "OliveMill$SlipReader"
def TX4 : u_T := fun k => match k with
  | 0 => ("OliveMill$SlipReader", "stage", "I", false)
  | 1 => ("OliveMill$SlipReader", "least", "I", false)
  | 2 => ("OliveMill$SlipReader", "most", "I", false)
  | 3 => ("OliveMill$SlipReader", "number", "I", false)
  | 4 => ("OliveMill$SlipReader", "hasDigit", "Z", false)
  | 5 => ("OliveMill$SlipReader", "grower", "I", false)
  | 6 => ("OliveMill$SlipReader", "variety", "I", false)
  | 7 => ("OliveMill$SlipReader", "kilos", "I", false)
  | _ => ("OliveMill$SlipReader", "acidityBeforeTruth", "I", false)
def tyX4 : Nat → FieldType := fun k => match k with
  | 0 => .int
  | 1 => .int
  | 2 => .int
  | 3 => .int
  | 4 => .boolean
  | 5 => .int
  | 6 => .int
  | 7 => .int
  | _ => .int
abbrev wsX40 : List Cond := u_ws RX4 TX4 9
theorem nmX4 : ∀ a, a < 9 → ∀ b, b < 9 → a ≠ b → (TX4 a).2.1 ≠ (TX4 b).2.1 := by decide +kernel
theorem tyX4_ok : ∀ k, k < 9 → parseFieldDescriptor (TX4 k).2.2.1 = some (tyX4 k) := by decide +kernel
abbrev cX4_init : ByteArray := prog_6_method_1_code
def yX4_init : MethodName := ⟨RX4, "<init>", "()V"⟩
abbrev cX4_restart : ByteArray := prog_6_method_2_code
def yX4_restart : MethodName := ⟨RX4, "restart", "()V"⟩
abbrev cX4_reads : ByteArray := prog_6_method_3_code
def yX4_reads : MethodName := ⟨RX4, "reads", "(I)Z"⟩
abbrev cX4_canEnd : ByteArray := prog_6_method_4_code
def yX4_canEnd : MethodName := ⟨RX4, "canEnd", "()Z"⟩
abbrev cX4_acidity : ByteArray := prog_6_method_5_code
def yX4_acidity : MethodName := ⟨RX4, "acidity", "()I"⟩
abbrev cX4_truth : ByteArray := prog_6_method_6_code
def yX4_truth : MethodName := ⟨RX4, "truth", "()I"⟩
abbrev cX4_readsGrower : ByteArray := prog_6_method_7_code
def yX4_readsGrower : MethodName := ⟨RX4, "readsGrower", "(I)Z"⟩
abbrev cX4_readsVariety : ByteArray := prog_6_method_8_code
def yX4_readsVariety : MethodName := ⟨RX4, "readsVariety", "(I)Z"⟩
abbrev cX4_readsDigit : ByteArray := prog_6_method_9_code
def yX4_readsDigit : MethodName := ⟨RX4, "readsDigit", "(I)Z"⟩
abbrev cX4_readsSign : ByteArray := prog_6_method_10_code
def yX4_readsSign : MethodName := ⟨RX4, "readsSign", "(I)Z"⟩
abbrev cX4_beginNumber : ByteArray := prog_6_method_11_code
def yX4_beginNumber : MethodName := ⟨RX4, "beginNumber", "(III)V"⟩
abbrev cX4_numberStands : ByteArray := prog_6_method_12_code
def yX4_numberStands : MethodName := ⟨RX4, "numberStands", "()Z"⟩
abbrev cX4_numberCanStand : ByteArray := prog_6_method_13_code
def yX4_numberCanStand : MethodName := ⟨RX4, "numberCanStand", "()Z"⟩
def RX5 : String := "OliveMill$Table"
def TX5 : u_T := fun k => match k with
  | 0 => ("OliveMill$Table", "cells", "[I", true)
  | 1 => ("OliveMill$Table", "start", "I", true)
  | _ => ("OliveMill$Table", "columns", "I", true)
def tyX5 : Nat → FieldType := fun k => match k with
  | 0 => .array .int
  | 1 => .int
  | _ => .int
abbrev wsX50 : List Cond := u_ws RX5 TX5 3
theorem nmX5 : ∀ a, a < 3 → ∀ b, b < 3 → a ≠ b → (TX5 a).2.1 ≠ (TX5 b).2.1 := by decide +kernel
theorem tyX5_ok : ∀ k, k < 3 → parseFieldDescriptor (TX5 k).2.2.1 = some (tyX5 k) := by decide +kernel
abbrev cX5_init : ByteArray := prog_7_method_1_code
def yX5_init : MethodName := ⟨RX5, "<init>", "([III)V"⟩
abbrev cX5_get : ByteArray := prog_7_method_2_code
def yX5_get : MethodName := ⟨RX5, "get", "(II)I"⟩
abbrev cX5_put : ByteArray := prog_7_method_3_code
def yX5_put : MethodName := ⟨RX5, "put", "(III)V"⟩
abbrev cX5_add : ByteArray := prog_7_method_4_code
def yX5_add : MethodName := ⟨RX5, "add", "(III)V"⟩
def RX6 : String := "OliveMill"
def TX6 : u_T := fun k => match k with
  | 0 => ("OliveMill", "books", "LOliveMill$Books;", true)
  | 1 => ("OliveMill", "cellar", "LOliveMill$Cellar;", true)
  | 2 => ("OliveMill", "rehearsal", "LOliveMill$Rehearsal;", true)
  | 3 => ("OliveMill", "reader", "LOliveMill$SlipReader;", true)
  | 4 => ("OliveMill", "buffer", "[I", true)
  | _ => ("OliveMill", "length", "I", false)
def tyX6 : Nat → FieldType := fun k => match k with
  | 0 => .object "OliveMill$Books"
  | 1 => .object "OliveMill$Cellar"
  | 2 => .object "OliveMill$Rehearsal"
  | 3 => .object "OliveMill$SlipReader"
  | 4 => .array .int
  | _ => .int
abbrev wsX60 : List Cond := u_ws RX6 TX6 6
theorem nmX6 : ∀ a, a < 6 → ∀ b, b < 6 → a ≠ b → (TX6 a).2.1 ≠ (TX6 b).2.1 := by decide +kernel
theorem tyX6_ok : ∀ k, k < 6 → parseFieldDescriptor (TX6 k).2.2.1 = some (tyX6 k) := by decide +kernel
abbrev cX6_init : ByteArray := prog_1_method_1_code
def yX6_init : MethodName := ⟨RX6, "<init>", "()V"⟩
abbrev cX6_addGrower : ByteArray := prog_1_method_2_code
def yX6_addGrower : MethodName := ⟨RX6, "addGrower", "()I"⟩
abbrev cX6_addLot : ByteArray := prog_1_method_3_code
def yX6_addLot : MethodName := ⟨RX6, "addLot", "(IIIII)I"⟩
abbrev cX6_addTank : ByteArray := prog_1_method_4_code
def yX6_addTank : MethodName := ⟨RX6, "addTank", "(I)I"⟩
abbrev cX6_setYield : ByteArray := prog_1_method_5_code
def yX6_setYield : MethodName := ⟨RX6, "setYield", "(II)I"⟩
abbrev cX6_set : ByteArray := prog_1_method_6_code
def yX6_set : MethodName := ⟨RX6, "set", "(II)I"⟩
abbrev cX6_press : ByteArray := prog_1_method_7_code
def yX6_press : MethodName := ⟨RX6, "press", "(IZ)I"⟩
abbrev cX6_clean : ByteArray := prog_1_method_8_code
def yX6_clean : MethodName := ⟨RX6, "clean", "()I"⟩
abbrev cX6_appeal : ByteArray := prog_1_method_9_code
def yX6_appeal : MethodName := ⟨RX6, "appeal", "(I)I"⟩
abbrev cX6_draw : ByteArray := prog_1_method_10_code
def yX6_draw : MethodName := ⟨RX6, "draw", "(III)I"⟩
abbrev cX6_move : ByteArray := prog_1_method_11_code
def yX6_move : MethodName := ⟨RX6, "move", "(IIIZ)I"⟩
abbrev cX6_pass : ByteArray := prog_1_method_12_code
def yX6_pass : MethodName := ⟨RX6, "pass", "(I)I"⟩
abbrev cX6_append : ByteArray := prog_1_method_13_code
def yX6_append : MethodName := ⟨RX6, "append", "(I)I"⟩
abbrev cX6_clearBuffer : ByteArray := prog_1_method_14_code
def yX6_clearBuffer : MethodName := ⟨RX6, "clearBuffer", "()I"⟩
abbrev cX6_firstError : ByteArray := prog_1_method_15_code
def yX6_firstError : MethodName := ⟨RX6, "firstError", "()I"⟩
abbrev cX6_addSlips : ByteArray := prog_1_method_16_code
def yX6_addSlips : MethodName := ⟨RX6, "addSlips", "()I"⟩
abbrev cX6_undo : ByteArray := prog_1_method_17_code
def yX6_undo : MethodName := ⟨RX6, "undo", "()I"⟩
abbrev cX6_grower : ByteArray := prog_1_method_18_code
def yX6_grower : MethodName := ⟨RX6, "grower", "(II)I"⟩
abbrev cX6_lot : ByteArray := prog_1_method_19_code
def yX6_lot : MethodName := ⟨RX6, "lot", "(II)I"⟩
abbrev cX6_tank : ByteArray := prog_1_method_20_code
def yX6_tank : MethodName := ⟨RX6, "tank", "(II)I"⟩
abbrev cX6_variety : ByteArray := prog_1_method_21_code
def yX6_variety : MethodName := ⟨RX6, "variety", "(II)I"⟩
abbrev cX6_count : ByteArray := prog_1_method_22_code
def yX6_count : MethodName := ⟨RX6, "count", "(I)I"⟩
abbrev cX6_setting : ByteArray := prog_1_method_23_code
def yX6_setting : MethodName := ⟨RX6, "setting", "(I)I"⟩
abbrev cX6_whyNot : ByteArray := prog_1_method_24_code
def yX6_whyNot : MethodName := ⟨RX6, "whyNot", "(IZ)I"⟩
abbrev cX6_next : ByteArray := prog_1_method_25_code
def yX6_next : MethodName := ⟨RX6, "next", "(I)I"⟩
abbrev cX6_taken : ByteArray := prog_1_method_26_code
def yX6_taken : MethodName := ⟨RX6, "taken", "(III)I"⟩
abbrev cX6_oilIn : ByteArray := prog_1_method_27_code
def yX6_oilIn : MethodName := ⟨RX6, "oilIn", "(II)I"⟩
abbrev cX6_lossBy : ByteArray := prog_1_method_28_code
def yX6_lossBy : MethodName := ⟨RX6, "lossBy", "(I)I"⟩
abbrev cX6_bestTank : ByteArray := prog_1_method_29_code
def yX6_bestTank : MethodName := ⟨RX6, "bestTank", "()I"⟩
abbrev cX6_goodShare : ByteArray := prog_1_method_30_code
def yX6_goodShare : MethodName := ⟨RX6, "goodShare", "()D"⟩
abbrev cX6_digest : ByteArray := prog_1_method_31_code
def yX6_digest : MethodName := ⟨RX6, "digest", "()J"⟩
abbrev cX6_isOutside : ByteArray := prog_1_method_32_code
def yX6_isOutside : MethodName := ⟨RX6, "isOutside", "(III)Z"⟩
abbrev cX6_isVariety : ByteArray := prog_1_method_33_code
def yX6_isVariety : MethodName := ⟨RX6, "isVariety", "(I)Z"⟩
abbrev cX6_isSetting : ByteArray := prog_1_method_34_code
def yX6_isSetting : MethodName := ⟨RX6, "isSetting", "(I)Z"⟩
abbrev cX6_isSettingValue : ByteArray := prog_1_method_35_code
def yX6_isSettingValue : MethodName := ⟨RX6, "isSettingValue", "(II)Z"⟩
abbrev cX6_checkGrower : ByteArray := prog_1_method_36_code
def yX6_checkGrower : MethodName := ⟨RX6, "checkGrower", "(I)V"⟩
abbrev cX6_checkLot : ByteArray := prog_1_method_37_code
def yX6_checkLot : MethodName := ⟨RX6, "checkLot", "(I)V"⟩
abbrev cX6_checkTank : ByteArray := prog_1_method_38_code
def yX6_checkTank : MethodName := ⟨RX6, "checkTank", "(I)V"⟩
abbrev cX6_checkVariety : ByteArray := prog_1_method_39_code
def yX6_checkVariety : MethodName := ⟨RX6, "checkVariety", "(I)V"⟩
abbrev cX6_checkOil : ByteArray := prog_1_method_40_code
def yX6_checkOil : MethodName := ⟨RX6, "checkOil", "(I)V"⟩
abbrev cX6_enterLot : ByteArray := prog_1_method_41_code
def yX6_enterLot : MethodName := ⟨RX6, "enterLot", "(IIIII)I"⟩
abbrev cX6_enterSlips : ByteArray := prog_1_method_42_code
def yX6_enterSlips : MethodName := ⟨RX6, "enterSlips", "()I"⟩
abbrev cX6_codeAt : ByteArray := prog_1_method_43_code
def yX6_codeAt : MethodName := ⟨RX6, "codeAt", "(I)I"⟩
abbrev cX6_lotsWith : ByteArray := prog_1_method_44_code
def yX6_lotsWith : MethodName := ⟨RX6, "lotsWith", "(IIZ)I"⟩
abbrev cX6_ifPressed : ByteArray := prog_1_method_45_code
def yX6_ifPressed : MethodName := ⟨RX6, "ifPressed", "(III)I"⟩
abbrev cX6_reasonAgainstPress : ByteArray := prog_1_method_46_code
def yX6_reasonAgainstPress : MethodName := ⟨RX6, "reasonAgainstPress", "(IZ)I"⟩
abbrev cX6_loseByCleaning : ByteArray := prog_1_method_47_code
def yX6_loseByCleaning : MethodName := ⟨RX6, "loseByCleaning", "(II)V"⟩
abbrev cX6_enterPressedLot : ByteArray := prog_1_method_48_code
def yX6_enterPressedLot : MethodName := ⟨RX6, "enterPressedLot", "(I)V"⟩
abbrev cX6_pourPressedOil : ByteArray := prog_1_method_49_code
def yX6_pourPressedOil : MethodName := ⟨RX6, "pourPressedOil", "(I)V"⟩
abbrev cX6_residueVariety : ByteArray := prog_1_method_50_code
def yX6_residueVariety : MethodName := ⟨RX6, "residueVariety", "()I"⟩
abbrev cX6_reasonAgainstAppeal : ByteArray := prog_1_method_51_code
def yX6_reasonAgainstAppeal : MethodName := ⟨RX6, "reasonAgainstAppeal", "(I)I"⟩
abbrev cX6_secondOilOf : ByteArray := prog_1_method_52_code
def yX6_secondOilOf : MethodName := ⟨RX6, "secondOilOf", "(I)I"⟩
abbrev cX6_settleAppeal : ByteArray := prog_1_method_53_code
def yX6_settleAppeal : MethodName := ⟨RX6, "settleAppeal", "(II)V"⟩
abbrev cX6_sumOfGrowers : ByteArray := prog_1_method_54_code
def yX6_sumOfGrowers : MethodName := ⟨RX6, "sumOfGrowers", "(I)I"⟩
abbrev cX6_mixed : ByteArray := prog_1_method_55_code
def yX6_mixed : MethodName := ⟨RX6, "mixed", "(JJ)J"⟩
abbrev cX6_mixedWithGrowers : ByteArray := prog_1_method_56_code
def yX6_mixedWithGrowers : MethodName := ⟨RX6, "mixedWithGrowers", "(J)J"⟩
abbrev cX6_mixedWithLots : ByteArray := prog_1_method_57_code
def yX6_mixedWithLots : MethodName := ⟨RX6, "mixedWithLots", "(J)J"⟩
abbrev cX6_mixedWithTanks : ByteArray := prog_1_method_58_code
def yX6_mixedWithTanks : MethodName := ⟨RX6, "mixedWithTanks", "(J)J"⟩
abbrev cX6_mixedWithVarieties : ByteArray := prog_1_method_59_code
def yX6_mixedWithVarieties : MethodName := ⟨RX6, "mixedWithVarieties", "(J)J"⟩
abbrev cX6_bitsOf : ByteArray := prog_1_method_60_code
def yX6_bitsOf : MethodName := ⟨RX6, "bitsOf", "(D)J"⟩
def RX7 : String := "OliveMillModel"
def TX7 : u_T := fun k => match k with
  | 0 => ("OliveMillModel", "z", "[I", true)
  | 1 => ("OliveMillModel", "states", "I", false)
  | 2 => ("OliveMillModel", "history", "[I", true)
  | 3 => ("OliveMillModel", "length", "I", false)
  | 4 => ("OliveMillModel", "text", "[I", true)
  | 5 => ("OliveMillModel", "thrown", "I", false)
  | 6 => ("OliveMillModel", "waits", "[I", true)
  | 7 => ("OliveMillModel", "of", "I", false)
  | 8 => ("OliveMillModel", "residue", "I", false)
  | 9 => ("OliveMillModel", "lot", "I", false)
  | 10 => ("OliveMillModel", "due", "I", false)
  | 11 => ("OliveMillModel", "first", "I", false)
  | 12 => ("OliveMillModel", "lost", "I", false)
  | 13 => ("OliveMillModel", "pouredBefore", "I", false)
  | 14 => ("OliveMillModel", "poured", "I", false)
  | 15 => ("OliveMillModel", "stays", "I", false)
  | 16 => ("OliveMillModel", "shares", "[I", true)
  | 17 => ("OliveMillModel", "rests", "[I", true)
  | 18 => ("OliveMillModel", "parts", "[I", true)
  | 19 => ("OliveMillModel", "read", "I", false)
  | 20 => ("OliveMillModel", "number", "I", false)
  | 21 => ("OliveMillModel", "due2", "I", false)
  | _ => ("OliveMillModel", "hash", "J", false)
def tyX7 : Nat → FieldType := fun k => match k with
  | 0 => .array .int
  | 1 => .int
  | 2 => .array .int
  | 3 => .int
  | 4 => .array .int
  | 5 => .int
  | 6 => .array .int
  | 7 => .int
  | 8 => .int
  | 9 => .int
  | 10 => .int
  | 11 => .int
  | 12 => .int
  | 13 => .int
  | 14 => .int
  | 15 => .int
  | 16 => .array .int
  | 17 => .array .int
  | 18 => .array .int
  | 19 => .int
  | 20 => .int
  | 21 => .int
  | _ => .long
abbrev wsX70 : List Cond := u_ws RX7 TX7 23
theorem nmX7 : ∀ a, a < 23 → ∀ b, b < 23 → a ≠ b → (TX7 a).2.1 ≠ (TX7 b).2.1 := by decide +kernel
theorem tyX7_ok : ∀ k, k < 23 → parseFieldDescriptor (TX7 k).2.2.1 = some (tyX7 k) := by decide +kernel
abbrev cX7_init : ByteArray := prog_9_method_1_code
def yX7_init : MethodName := ⟨RX7, "<init>", "()V"⟩
abbrev cX7_thrown : ByteArray := prog_9_method_2_code
def yX7_thrown : MethodName := ⟨RX7, "thrown", "()I"⟩
abbrev cX7_within : ByteArray := prog_9_method_3_code
def yX7_within : MethodName := ⟨RX7, "within", "(III)Z"⟩
abbrev cX7_save : ByteArray := prog_9_method_4_code
def yX7_save : MethodName := ⟨RX7, "save", "()V"⟩
abbrev cX7_isGrower : ByteArray := prog_9_method_5_code
def yX7_isGrower : MethodName := ⟨RX7, "isGrower", "(I)Z"⟩
abbrev cX7_isLot : ByteArray := prog_9_method_6_code
def yX7_isLot : MethodName := ⟨RX7, "isLot", "(I)Z"⟩
abbrev cX7_isTank : ByteArray := prog_9_method_7_code
def yX7_isTank : MethodName := ⟨RX7, "isTank", "(I)Z"⟩
abbrev cX7_isVariety : ByteArray := prog_9_method_8_code
def yX7_isVariety : MethodName := ⟨RX7, "isVariety", "(I)Z"⟩
abbrev cX7_ofLot : ByteArray := prog_9_method_9_code
def yX7_ofLot : MethodName := ⟨RX7, "ofLot", "(II)I"⟩
abbrev cX7_setLot : ByteArray := prog_9_method_10_code
def yX7_setLot : MethodName := ⟨RX7, "setLot", "(III)V"⟩
abbrev cX7_ofTank : ByteArray := prog_9_method_11_code
def yX7_ofTank : MethodName := ⟨RX7, "ofTank", "(II)I"⟩
abbrev cX7_oilOf : ByteArray := prog_9_method_12_code
def yX7_oilOf : MethodName := ⟨RX7, "oilOf", "(I)I"⟩
abbrev cX7_gradeOf : ByteArray := prog_9_method_13_code
def yX7_gradeOf : MethodName := ⟨RX7, "gradeOf", "(I)I"⟩
abbrev cX7_roomIn : ByteArray := prog_9_method_14_code
def yX7_roomIn : MethodName := ⟨RX7, "roomIn", "(I)I"⟩
abbrev cX7_gradeOfLot : ByteArray := prog_9_method_15_code
def yX7_gradeOfLot : MethodName := ⟨RX7, "gradeOfLot", "(I)I"⟩
abbrev cX7_pour : ByteArray := prog_9_method_16_code
def yX7_pour : MethodName := ⟨RX7, "pour", "(IIII)V"⟩
abbrev cX7_suits : ByteArray := prog_9_method_17_code
def yX7_suits : MethodName := ⟨RX7, "suits", "(IIZ)Z"⟩
abbrev cX7_addGrower : ByteArray := prog_9_method_18_code
def yX7_addGrower : MethodName := ⟨RX7, "addGrower", "()I"⟩
abbrev cX7_refusedLot : ByteArray := prog_9_method_19_code
def yX7_refusedLot : MethodName := ⟨RX7, "refusedLot", "(IIIII)I"⟩
abbrev cX7_putLot : ByteArray := prog_9_method_20_code
def yX7_putLot : MethodName := ⟨RX7, "putLot", "(IIIII)I"⟩
abbrev cX7_addLot : ByteArray := prog_9_method_21_code
def yX7_addLot : MethodName := ⟨RX7, "addLot", "(IIIII)I"⟩
abbrev cX7_addTank : ByteArray := prog_9_method_22_code
def yX7_addTank : MethodName := ⟨RX7, "addTank", "(I)I"⟩
abbrev cX7_setYield : ByteArray := prog_9_method_23_code
def yX7_setYield : MethodName := ⟨RX7, "setYield", "(II)I"⟩
abbrev cX7_isSetting : ByteArray := prog_9_method_24_code
def yX7_isSetting : MethodName := ⟨RX7, "isSetting", "(I)Z"⟩
abbrev cX7_isValue : ByteArray := prog_9_method_25_code
def yX7_isValue : MethodName := ⟨RX7, "isValue", "(II)Z"⟩
abbrev cX7_set : ByteArray := prog_9_method_26_code
def yX7_set : MethodName := ⟨RX7, "set", "(II)I"⟩
abbrev cX7_layMill : ByteArray := prog_9_method_27_code
def yX7_layMill : MethodName := ⟨RX7, "layMill", "()V"⟩
abbrev cX7_firstWaiting : ByteArray := prog_9_method_28_code
def yX7_firstWaiting : MethodName := ⟨RX7, "firstWaiting", "(I)I"⟩
abbrev cX7_contentBy : ByteArray := prog_9_method_29_code
def yX7_contentBy : MethodName := ⟨RX7, "contentBy", "(II)I"⟩
abbrev cX7_layNext : ByteArray := prog_9_method_30_code
def yX7_layNext : MethodName := ⟨RX7, "layNext", "(I)Z"⟩
abbrev cX7_layNextNow : ByteArray := prog_9_method_31_code
def yX7_layNextNow : MethodName := ⟨RX7, "layNextNow", "()Z"⟩
abbrev cX7_reason : ByteArray := prog_9_method_32_code
def yX7_reason : MethodName := ⟨RX7, "reason", "(IZ)I"⟩
abbrev cX7_cleanNow : ByteArray := prog_9_method_33_code
def yX7_cleanNow : MethodName := ⟨RX7, "cleanNow", "(I)V"⟩
abbrev cX7_press : ByteArray := prog_9_method_34_code
def yX7_press : MethodName := ⟨RX7, "press", "(IZ)I"⟩
abbrev cX7_clean : ByteArray := prog_9_method_35_code
def yX7_clean : MethodName := ⟨RX7, "clean", "()I"⟩
abbrev cX7_secondOf : ByteArray := prog_9_method_36_code
def yX7_secondOf : MethodName := ⟨RX7, "secondOf", "(I)I"⟩
abbrev cX7_whyNoAppeal : ByteArray := prog_9_method_37_code
def yX7_whyNoAppeal : MethodName := ⟨RX7, "whyNoAppeal", "(I)I"⟩
abbrev cX7_appeal : ByteArray := prog_9_method_38_code
def yX7_appeal : MethodName := ⟨RX7, "appeal", "(I)I"⟩
abbrev cX7_layShares : ByteArray := prog_9_method_39_code
def yX7_layShares : MethodName := ⟨RX7, "layShares", "(II)V"⟩
abbrev cX7_takeShares : ByteArray := prog_9_method_40_code
def yX7_takeShares : MethodName := ⟨RX7, "takeShares", "(I)V"⟩
abbrev cX7_isOil : ByteArray := prog_9_method_41_code
def yX7_isOil : MethodName := ⟨RX7, "isOil", "(I)Z"⟩
abbrev cX7_draw : ByteArray := prog_9_method_42_code
def yX7_draw : MethodName := ⟨RX7, "draw", "(III)I"⟩
abbrev cX7_canMove : ByteArray := prog_9_method_43_code
def yX7_canMove : MethodName := ⟨RX7, "canMove", "(IIIZ)Z"⟩
abbrev cX7_move : ByteArray := prog_9_method_44_code
def yX7_move : MethodName := ⟨RX7, "move", "(IIIZ)I"⟩
abbrev cX7_pass : ByteArray := prog_9_method_45_code
def yX7_pass : MethodName := ⟨RX7, "pass", "(I)I"⟩
abbrev cX7_append : ByteArray := prog_9_method_46_code
def yX7_append : MethodName := ⟨RX7, "append", "(I)I"⟩
abbrev cX7_clearBuffer : ByteArray := prog_9_method_47_code
def yX7_clearBuffer : MethodName := ⟨RX7, "clearBuffer", "()I"⟩
abbrev cX7_canBeTruth : ByteArray := prog_9_method_48_code
def yX7_canBeTruth : MethodName := ⟨RX7, "canBeTruth", "(I)Z"⟩
abbrev cX7_takesDigit : ByteArray := prog_9_method_49_code
def yX7_takesDigit : MethodName := ⟨RX7, "takesDigit", "(I)Z"⟩
abbrev cX7_ends : ByteArray := prog_9_method_50_code
def yX7_ends : MethodName := ⟨RX7, "ends", "(I)Z"⟩
abbrev cX7_isEnded : ByteArray := prog_9_method_51_code
def yX7_isEnded : MethodName := ⟨RX7, "isEnded", "()Z"⟩
abbrev cX7_takes : ByteArray := prog_9_method_52_code
def yX7_takes : MethodName := ⟨RX7, "takes", "(I)Z"⟩
abbrev cX7_rightUpTo : ByteArray := prog_9_method_53_code
def yX7_rightUpTo : MethodName := ⟨RX7, "rightUpTo", "()I"⟩
abbrev cX7_firstError : ByteArray := prog_9_method_54_code
def yX7_firstError : MethodName := ⟨RX7, "firstError", "()I"⟩
abbrev cX7_adds : ByteArray := prog_9_method_55_code
def yX7_adds : MethodName := ⟨RX7, "adds", "(I)Z"⟩
abbrev cX7_addSlips : ByteArray := prog_9_method_56_code
def yX7_addSlips : MethodName := ⟨RX7, "addSlips", "()I"⟩
abbrev cX7_undo : ByteArray := prog_9_method_57_code
def yX7_undo : MethodName := ⟨RX7, "undo", "()I"⟩
abbrev cX7_lotsOf : ByteArray := prog_9_method_58_code
def yX7_lotsOf : MethodName := ⟨RX7, "lotsOf", "(IIZ)I"⟩
abbrev cX7_growerNow : ByteArray := prog_9_method_59_code
def yX7_growerNow : MethodName := ⟨RX7, "growerNow", "(II)I"⟩
abbrev cX7_grower : ByteArray := prog_9_method_60_code
def yX7_grower : MethodName := ⟨RX7, "grower", "(II)I"⟩
abbrev cX7_lotNow : ByteArray := prog_9_method_61_code
def yX7_lotNow : MethodName := ⟨RX7, "lotNow", "(II)I"⟩
abbrev cX7_lot : ByteArray := prog_9_method_62_code
def yX7_lot : MethodName := ⟨RX7, "lot", "(II)I"⟩
abbrev cX7_tankNow : ByteArray := prog_9_method_63_code
def yX7_tankNow : MethodName := ⟨RX7, "tankNow", "(II)I"⟩
abbrev cX7_tank : ByteArray := prog_9_method_64_code
def yX7_tank : MethodName := ⟨RX7, "tank", "(II)I"⟩
abbrev cX7_inTanks : ByteArray := prog_9_method_65_code
def yX7_inTanks : MethodName := ⟨RX7, "inTanks", "(I)I"⟩
abbrev cX7_varietyNow : ByteArray := prog_9_method_66_code
def yX7_varietyNow : MethodName := ⟨RX7, "varietyNow", "(II)I"⟩
abbrev cX7_variety : ByteArray := prog_9_method_67_code
def yX7_variety : MethodName := ⟨RX7, "variety", "(II)I"⟩
abbrev cX7_sumOil : ByteArray := prog_9_method_68_code
def yX7_sumOil : MethodName := ⟨RX7, "sumOil", "(Z)I"⟩
abbrev cX7_accounts : ByteArray := prog_9_method_69_code
def yX7_accounts : MethodName := ⟨RX7, "accounts", "()I"⟩
abbrev cX7_counted : ByteArray := prog_9_method_70_code
def yX7_counted : MethodName := ⟨RX7, "counted", "(I)I"⟩
abbrev cX7_count : ByteArray := prog_9_method_71_code
def yX7_count : MethodName := ⟨RX7, "count", "(I)I"⟩
abbrev cX7_setting : ByteArray := prog_9_method_72_code
def yX7_setting : MethodName := ⟨RX7, "setting", "(I)I"⟩
abbrev cX7_whyNot : ByteArray := prog_9_method_73_code
def yX7_whyNot : MethodName := ⟨RX7, "whyNot", "(IZ)I"⟩
abbrev cX7_nextNow : ByteArray := prog_9_method_74_code
def yX7_nextNow : MethodName := ⟨RX7, "nextNow", "(I)I"⟩
abbrev cX7_next : ByteArray := prog_9_method_75_code
def yX7_next : MethodName := ⟨RX7, "next", "(I)I"⟩
abbrev cX7_takenNow : ByteArray := prog_9_method_76_code
def yX7_takenNow : MethodName := ⟨RX7, "takenNow", "(III)I"⟩
abbrev cX7_taken : ByteArray := prog_9_method_77_code
def yX7_taken : MethodName := ⟨RX7, "taken", "(III)I"⟩
abbrev cX7_oilBehind : ByteArray := prog_9_method_78_code
def yX7_oilBehind : MethodName := ⟨RX7, "oilBehind", "(II)I"⟩
abbrev cX7_oilIn : ByteArray := prog_9_method_79_code
def yX7_oilIn : MethodName := ⟨RX7, "oilIn", "(II)I"⟩
abbrev cX7_lossNow : ByteArray := prog_9_method_80_code
def yX7_lossNow : MethodName := ⟨RX7, "lossNow", "(I)I"⟩
abbrev cX7_lossBy : ByteArray := prog_9_method_81_code
def yX7_lossBy : MethodName := ⟨RX7, "lossBy", "(I)I"⟩
abbrev cX7_tankForNext : ByteArray := prog_9_method_82_code
def yX7_tankForNext : MethodName := ⟨RX7, "tankForNext", "()I"⟩
abbrev cX7_bestTank : ByteArray := prog_9_method_83_code
def yX7_bestTank : MethodName := ⟨RX7, "bestTank", "()I"⟩
abbrev cX7_share : ByteArray := prog_9_method_84_code
def yX7_share : MethodName := ⟨RX7, "share", "()D"⟩
abbrev cX7_goodShare : ByteArray := prog_9_method_85_code
def yX7_goodShare : MethodName := ⟨RX7, "goodShare", "()D"⟩
abbrev cX7_mix : ByteArray := prog_9_method_86_code
def yX7_mix : MethodName := ⟨RX7, "mix", "(J)V"⟩
abbrev cX7_mixTank : ByteArray := prog_9_method_87_code
def yX7_mixTank : MethodName := ⟨RX7, "mixTank", "(I)V"⟩
abbrev cX7_digest : ByteArray := prog_9_method_88_code
def yX7_digest : MethodName := ⟨RX7, "digest", "()J"⟩
def RJxe99ae : String := "java/lang/Double"
def TJxe99ae : u_T := fun k => match k with
  | _ => ("", "", "", false)
def tyJxe99ae : Nat → FieldType := fun k => match k with
  | _ => .int
abbrev wsJxe99ae0 : List Cond := u_ws RJxe99ae TJxe99ae 0
theorem nmJxe99ae : ∀ a, a < 0 → ∀ b, b < 0 → a ≠ b → (TJxe99ae a).2.1 ≠ (TJxe99ae b).2.1 := by decide +kernel
theorem tyJxe99ae_ok : ∀ k, k < 0 → parseFieldDescriptor (TJxe99ae k).2.2.1 = some (tyJxe99ae k) := by decide +kernel
abbrev cJxe99ae_isNaN_b9ae7 : ByteArray := prog_10_method_6_code
def yJxe99ae_isNaN_b9ae7 : MethodName := ⟨RJxe99ae, "isNaN", "(D)Z"⟩
abbrev cJxe99ae_doubleToLongBits_ccdee : ByteArray := prog_10_method_23_code
def yJxe99ae_doubleToLongBits_ccdee : MethodName := ⟨RJxe99ae, "doubleToLongBits", "(D)J"⟩
def RJ9 : String := "java/lang/Math"
def TJ9 : u_T := fun k => match k with
  | _ => ("", "", "", false)
def tyJ9 : Nat → FieldType := fun k => match k with
  | _ => .int
abbrev wsJ90 : List Cond := u_ws RJ9 TJ9 0
theorem nmJ9 : ∀ a, a < 0 → ∀ b, b < 0 → a ≠ b → (TJ9 a).2.1 ≠ (TJ9 b).2.1 := by decide +kernel
theorem tyJ9_ok : ∀ k, k < 0 → parseFieldDescriptor (TJ9 k).2.2.1 = some (tyJ9 k) := by decide +kernel
abbrev cJ9_max_7cf53 : ByteArray := prog_15_method_65_code
def yJ9_max_7cf53 : MethodName := ⟨RJ9, "max", "(II)I"⟩
abbrev cJ9_min_7cf53 : ByteArray := prog_15_method_69_code
def yJ9_min_7cf53 : MethodName := ⟨RJ9, "min", "(II)I"⟩
def RJ0 : String := "java/lang/String"
def TJ0 : u_T := fun k => match k with
  | _ => ("", "", "", false)
def tyJ0 : Nat → FieldType := fun k => match k with
  | _ => .int
abbrev wsJ00 : List Cond := u_ws RJ0 TJ0 0
theorem nmJ0 : ∀ a, a < 0 → ∀ b, b < 0 → a ≠ b → (TJ0 a).2.1 ≠ (TJ0 b).2.1 := by decide +kernel
theorem tyJ0_ok : ∀ k, k < 0 → parseFieldDescriptor (TJ0 k).2.2.1 = some (tyJ0 k) := by decide +kernel
def RJ10 : String := "java/lang/System"
def TJ10 : u_T := fun k => match k with
  | _ => ("", "", "", false)
def tyJ10 : Nat → FieldType := fun k => match k with
  | _ => .int
abbrev wsJ100 : List Cond := u_ws RJ10 TJ10 0
theorem nmJ10 : ∀ a, a < 0 → ∀ b, b < 0 → a ≠ b → (TJ10 a).2.1 ≠ (TJ10 b).2.1 := by decide +kernel
theorem tyJ10_ok : ∀ k, k < 0 → parseFieldDescriptor (TJ10 k).2.2.1 = some (tyJ10 k) := by decide +kernel
def RL : String := "OliveMillLaw"
abbrev cL_addGrower : ByteArray := method_3_code
def yL_addGrower : MethodName := ⟨RL, "addGrower", "(LOliveMill;[J)I"⟩
abbrev cL_addLot : ByteArray := method_4_code
def yL_addLot : MethodName := ⟨RL, "addLot", "(LOliveMill;IIIII[J)I"⟩
abbrev cL_addTank : ByteArray := method_5_code
def yL_addTank : MethodName := ⟨RL, "addTank", "(LOliveMill;I[J)I"⟩
abbrev cL_setYield : ByteArray := method_6_code
def yL_setYield : MethodName := ⟨RL, "setYield", "(LOliveMill;II[J)I"⟩
abbrev cL_set : ByteArray := method_7_code
def yL_set : MethodName := ⟨RL, "set", "(LOliveMill;II[J)I"⟩
abbrev cL_press : ByteArray := method_8_code
def yL_press : MethodName := ⟨RL, "press", "(LOliveMill;IZ[J)I"⟩
abbrev cL_appeal : ByteArray := method_9_code
def yL_appeal : MethodName := ⟨RL, "appeal", "(LOliveMill;I[J)I"⟩
abbrev cL_draw : ByteArray := method_10_code
def yL_draw : MethodName := ⟨RL, "draw", "(LOliveMill;III[J)I"⟩
abbrev cL_move : ByteArray := method_11_code
def yL_move : MethodName := ⟨RL, "move", "(LOliveMill;IIIZ[J)I"⟩
abbrev cL_pass : ByteArray := method_12_code
def yL_pass : MethodName := ⟨RL, "pass", "(LOliveMill;I[J)I"⟩
abbrev cL_append : ByteArray := method_13_code
def yL_append : MethodName := ⟨RL, "append", "(LOliveMill;I[J)I"⟩
abbrev cL_addSlips : ByteArray := method_14_code
def yL_addSlips : MethodName := ⟨RL, "addSlips", "(LOliveMill;[J)I"⟩
abbrev cL_undo : ByteArray := method_15_code
def yL_undo : MethodName := ⟨RL, "undo", "(LOliveMill;[J)I"⟩
abbrev cL_grower : ByteArray := method_16_code
def yL_grower : MethodName := ⟨RL, "grower", "(LOliveMill;II[J)I"⟩
abbrev cL_lot : ByteArray := method_17_code
def yL_lot : MethodName := ⟨RL, "lot", "(LOliveMill;II[J)I"⟩
abbrev cL_tank : ByteArray := method_18_code
def yL_tank : MethodName := ⟨RL, "tank", "(LOliveMill;II[J)I"⟩
abbrev cL_variety : ByteArray := method_19_code
def yL_variety : MethodName := ⟨RL, "variety", "(LOliveMill;II[J)I"⟩
abbrev cL_count : ByteArray := method_20_code
def yL_count : MethodName := ⟨RL, "count", "(LOliveMill;I[J)I"⟩
abbrev cL_setting : ByteArray := method_21_code
def yL_setting : MethodName := ⟨RL, "setting", "(LOliveMill;I[J)I"⟩
abbrev cL_whyNot : ByteArray := method_22_code
def yL_whyNot : MethodName := ⟨RL, "whyNot", "(LOliveMill;IZ[J)I"⟩
abbrev cL_next : ByteArray := method_23_code
def yL_next : MethodName := ⟨RL, "next", "(LOliveMill;I[J)I"⟩
abbrev cL_taken : ByteArray := method_24_code
def yL_taken : MethodName := ⟨RL, "taken", "(LOliveMill;III[J)I"⟩
abbrev cL_oilIn : ByteArray := method_25_code
def yL_oilIn : MethodName := ⟨RL, "oilIn", "(LOliveMill;II[J)I"⟩
abbrev cL_lossBy : ByteArray := method_26_code
def yL_lossBy : MethodName := ⟨RL, "lossBy", "(LOliveMill;I[J)I"⟩
abbrev cL_law : ByteArray := code
def yL_law : MethodName := ⟨RL, "law", "([I)Z"⟩
end
section
theorem dX0_init_0 : decode cX0_init 0 = .ok (.aload_n 0, 1) := by decide +kernel
theorem dX0_init_1 : decode cX0_init 1 = .ok (.invokespecial 5, 3) := by decide +kernel
theorem dX0_init_4 : decode cX0_init 4 = .ok (.sipush 553, 3) := by decide +kernel
theorem dX0_init_7 : decode cX0_init 7 = .ok (.newarray .int, 2) := by decide +kernel
theorem dX0_init_9 : decode cX0_init 9 = .ok (.astore_n 1, 1) := by decide +kernel
theorem dX0_init_10 : decode cX0_init 10 = .ok (.aload_n 0, 1) := by decide +kernel
theorem dX0_init_11 : decode cX0_init 11 = .ok (.aload_n 1, 1) := by decide +kernel
theorem dX0_init_12 : decode cX0_init 12 = .ok (.putfield 11, 3) := by decide +kernel
theorem dX0_init_15 : decode cX0_init 15 = .ok (.aload_n 0, 1) := by decide +kernel
theorem dX0_init_16 : decode cX0_init 16 = .ok (.sipush 3318, 3) := by decide +kernel
theorem dX0_init_19 : decode cX0_init 19 = .ok (.newarray .int, 2) := by decide +kernel
theorem dX0_init_21 : decode cX0_init 21 = .ok (.putfield 15, 3) := by decide +kernel
theorem dX0_init_24 : decode cX0_init 24 = .ok (.aload_n 0, 1) := by decide +kernel
theorem dX0_init_25 : decode cX0_init 25 = .ok (.new 18, 3) := by decide +kernel
theorem dX0_init_28 : decode cX0_init 28 = .ok (.dup, 1) := by decide +kernel
theorem dX0_init_29 : decode cX0_init 29 = .ok (.aload_n 1, 1) := by decide +kernel
theorem dX0_init_30 : decode cX0_init 30 = .ok (.iconst 0, 1) := by decide +kernel
theorem dX0_init_31 : decode cX0_init 31 = .ok (.iconst 4, 1) := by decide +kernel
theorem dX0_init_32 : decode cX0_init 32 = .ok (.invokespecial 20, 3) := by decide +kernel
theorem dX0_init_35 : decode cX0_init 35 = .ok (.putfield 23, 3) := by decide +kernel
theorem dX0_init_38 : decode cX0_init 38 = .ok (.aload_n 0, 1) := by decide +kernel
theorem dX0_init_39 : decode cX0_init 39 = .ok (.new 18, 3) := by decide +kernel
theorem dX0_init_42 : decode cX0_init 42 = .ok (.dup, 1) := by decide +kernel
theorem dX0_init_43 : decode cX0_init 43 = .ok (.aload_n 1, 1) := by decide +kernel
theorem dX0_init_44 : decode cX0_init 44 = .ok (.bipush 32, 2) := by decide +kernel
theorem dX0_init_46 : decode cX0_init 46 = .ok (.bipush 11, 2) := by decide +kernel
theorem dX0_init_48 : decode cX0_init 48 = .ok (.invokespecial 20, 3) := by decide +kernel
theorem dX0_init_51 : decode cX0_init 51 = .ok (.putfield 27, 3) := by decide +kernel
theorem dX0_init_54 : decode cX0_init 54 = .ok (.aload_n 0, 1) := by decide +kernel
theorem dX0_init_55 : decode cX0_init 55 = .ok (.new 18, 3) := by decide +kernel
theorem dX0_init_58 : decode cX0_init 58 = .ok (.dup, 1) := by decide +kernel
theorem dX0_init_59 : decode cX0_init 59 = .ok (.aload_n 1, 1) := by decide +kernel
theorem dX0_init_60 : decode cX0_init 60 = .ok (.sipush 472, 3) := by decide +kernel
theorem dX0_init_63 : decode cX0_init 63 = .ok (.bipush 7, 2) := by decide +kernel
theorem dX0_init_65 : decode cX0_init 65 = .ok (.invokespecial 20, 3) := by decide +kernel
theorem dX0_init_68 : decode cX0_init 68 = .ok (.putfield 30, 3) := by decide +kernel
theorem dX0_init_71 : decode cX0_init 71 = .ok (.aload_n 0, 1) := by decide +kernel
theorem dX0_init_72 : decode cX0_init 72 = .ok (.new 18, 3) := by decide +kernel
theorem dX0_init_75 : decode cX0_init 75 = .ok (.dup, 1) := by decide +kernel
theorem dX0_init_76 : decode cX0_init 76 = .ok (.aload_n 1, 1) := by decide +kernel
theorem dX0_init_77 : decode cX0_init 77 = .ok (.sipush 514, 3) := by decide +kernel
theorem dX0_init_80 : decode cX0_init 80 = .ok (.iconst 5, 1) := by decide +kernel
theorem dX0_init_81 : decode cX0_init 81 = .ok (.invokespecial 20, 3) := by decide +kernel
theorem dX0_init_84 : decode cX0_init 84 = .ok (.putfield 33, 3) := by decide +kernel
theorem dX0_init_87 : decode cX0_init 87 = .ok (.aload_n 0, 1) := by decide +kernel
theorem dX0_init_88 : decode cX0_init 88 = .ok (.new 36, 3) := by decide +kernel
theorem dX0_init_91 : decode cX0_init 91 = .ok (.dup, 1) := by decide +kernel
theorem dX0_init_92 : decode cX0_init 92 = .ok (.aload_n 1, 1) := by decide +kernel
theorem dX0_init_93 : decode cX0_init 93 = .ok (.sipush 539, 3) := by decide +kernel
theorem dX0_init_96 : decode cX0_init 96 = .ok (.invokespecial 38, 3) := by decide +kernel
theorem dX0_init_99 : decode cX0_init 99 = .ok (.putfield 41, 3) := by decide +kernel
theorem dX0_init_102 : decode cX0_init 102 = .ok (.aload_n 0, 1) := by decide +kernel
theorem dX0_init_103 : decode cX0_init 103 = .ok (.new 36, 3) := by decide +kernel
theorem dX0_init_106 : decode cX0_init 106 = .ok (.dup, 1) := by decide +kernel
theorem dX0_init_107 : decode cX0_init 107 = .ok (.aload_n 1, 1) := by decide +kernel
theorem dX0_init_108 : decode cX0_init 108 = .ok (.sipush 546, 3) := by decide +kernel
theorem dX0_init_111 : decode cX0_init 111 = .ok (.invokespecial 38, 3) := by decide +kernel
theorem dX0_init_114 : decode cX0_init 114 = .ok (.putfield 45, 3) := by decide +kernel
theorem dX0_init_117 : decode cX0_init 117 = .ok (.iconst 0, 1) := by decide +kernel
theorem dX0_init_118 : decode cX0_init 118 = .ok (.istore_n 2, 1) := by decide +kernel
theorem dX0_init_119 : decode cX0_init 119 = .ok (.iload_n 2, 1) := by decide +kernel
theorem dX0_init_120 : decode cX0_init 120 = .ok (.getstatic 48, 3) := by decide +kernel
theorem dX0_init_123 : decode cX0_init 123 = .ok (.arraylength, 1) := by decide +kernel
theorem dX0_init_124 : decode cX0_init 124 = .ok (.if_icmp .ge 22, 3) := by decide +kernel
theorem dX0_init_127 : decode cX0_init 127 = .ok (.aload_n 0, 1) := by decide +kernel
theorem dX0_init_128 : decode cX0_init 128 = .ok (.getfield 41, 3) := by decide +kernel
theorem dX0_init_131 : decode cX0_init 131 = .ok (.iload_n 2, 1) := by decide +kernel
theorem dX0_init_132 : decode cX0_init 132 = .ok (.getstatic 48, 3) := by decide +kernel
theorem dX0_init_135 : decode cX0_init 135 = .ok (.iload_n 2, 1) := by decide +kernel
theorem dX0_init_136 : decode cX0_init 136 = .ok (.iaload, 1) := by decide +kernel
theorem dX0_init_137 : decode cX0_init 137 = .ok (.invokevirtual 51, 3) := by decide +kernel
theorem dX0_init_140 : decode cX0_init 140 = .ok (.iinc 2 1, 3) := by decide +kernel
theorem dX0_init_143 : decode cX0_init 143 = .ok (.goto (-24), 3) := by decide +kernel
theorem dX0_init_146 : decode cX0_init 146 = .ok (.iconst 0, 1) := by decide +kernel
theorem dX0_init_147 : decode cX0_init 147 = .ok (.istore_n 2, 1) := by decide +kernel
theorem dX0_init_148 : decode cX0_init 148 = .ok (.iload_n 2, 1) := by decide +kernel
theorem dX0_init_149 : decode cX0_init 149 = .ok (.getstatic 55, 3) := by decide +kernel
theorem dX0_init_152 : decode cX0_init 152 = .ok (.arraylength, 1) := by decide +kernel
theorem dX0_init_153 : decode cX0_init 153 = .ok (.if_icmp .ge 23, 3) := by decide +kernel
theorem dX0_init_156 : decode cX0_init 156 = .ok (.aload_n 0, 1) := by decide +kernel
theorem dX0_init_157 : decode cX0_init 157 = .ok (.getfield 33, 3) := by decide +kernel
theorem dX0_init_160 : decode cX0_init 160 = .ok (.iload_n 2, 1) := by decide +kernel
theorem dX0_init_161 : decode cX0_init 161 = .ok (.iconst 0, 1) := by decide +kernel
theorem dX0_init_162 : decode cX0_init 162 = .ok (.getstatic 55, 3) := by decide +kernel
theorem dX0_init_165 : decode cX0_init 165 = .ok (.iload_n 2, 1) := by decide +kernel
theorem dX0_init_166 : decode cX0_init 166 = .ok (.iaload, 1) := by decide +kernel
theorem dX0_init_167 : decode cX0_init 167 = .ok (.invokevirtual 58, 3) := by decide +kernel
theorem dX0_init_170 : decode cX0_init 170 = .ok (.iinc 2 1, 3) := by decide +kernel
theorem dX0_init_173 : decode cX0_init 173 = .ok (.goto (-25), 3) := by decide +kernel
theorem dX0_init_176 : decode cX0_init 176 = .ok (.return_, 1) := by decide +kernel
theorem dX0_gradeOfLot_0 : decode cX0_gradeOfLot 0 = .ok (.aload_n 0, 1) := by decide +kernel
theorem dX0_gradeOfLot_1 : decode cX0_gradeOfLot 1 = .ok (.getfield 27, 3) := by decide +kernel
theorem dX0_gradeOfLot_4 : decode cX0_gradeOfLot 4 = .ok (.iload_n 1, 1) := by decide +kernel
theorem dX0_gradeOfLot_5 : decode cX0_gradeOfLot 5 = .ok (.iconst 3, 1) := by decide +kernel
theorem dX0_gradeOfLot_6 : decode cX0_gradeOfLot 6 = .ok (.invokevirtual 61, 3) := by decide +kernel
theorem dX0_gradeOfLot_9 : decode cX0_gradeOfLot 9 = .ok (.istore_n 2, 1) := by decide +kernel
theorem dX0_gradeOfLot_10 : decode cX0_gradeOfLot 10 = .ok (.iload_n 2, 1) := by decide +kernel
theorem dX0_gradeOfLot_11 : decode cX0_gradeOfLot 11 = .ok (.bipush 8, 2) := by decide +kernel
theorem dX0_gradeOfLot_13 : decode cX0_gradeOfLot 13 = .ok (.if_icmp .gt 5, 3) := by decide +kernel
theorem dX0_gradeOfLot_16 : decode cX0_gradeOfLot 16 = .ok (.iconst 0, 1) := by decide +kernel
theorem dX0_gradeOfLot_17 : decode cX0_gradeOfLot 17 = .ok (.ireturn, 1) := by decide +kernel
theorem dX0_gradeOfLot_18 : decode cX0_gradeOfLot 18 = .ok (.iload_n 2, 1) := by decide +kernel
theorem dX0_gradeOfLot_19 : decode cX0_gradeOfLot 19 = .ok (.bipush 20, 2) := by decide +kernel
theorem dX0_gradeOfLot_21 : decode cX0_gradeOfLot 21 = .ok (.if_icmp .gt 7, 3) := by decide +kernel
theorem dX0_gradeOfLot_24 : decode cX0_gradeOfLot 24 = .ok (.iconst 1, 1) := by decide +kernel
theorem dX0_gradeOfLot_25 : decode cX0_gradeOfLot 25 = .ok (.goto 4, 3) := by decide +kernel
theorem dX0_gradeOfLot_28 : decode cX0_gradeOfLot 28 = .ok (.iconst 2, 1) := by decide +kernel
theorem dX0_gradeOfLot_29 : decode cX0_gradeOfLot 29 = .ok (.ireturn, 1) := by decide +kernel
theorem dX0_save_0 : decode cX0_save 0 = .ok (.aload_n 0, 1) := by decide +kernel
theorem dX0_save_1 : decode cX0_save 1 = .ok (.getfield 65, 3) := by decide +kernel
theorem dX0_save_4 : decode cX0_save 4 = .ok (.bipush 6, 2) := by decide +kernel
theorem dX0_save_6 : decode cX0_save 6 = .ok (.if_icmp .ne 26, 3) := by decide +kernel
theorem dX0_save_9 : decode cX0_save 9 = .ok (.aload_n 0, 1) := by decide +kernel
theorem dX0_save_10 : decode cX0_save 10 = .ok (.aload_n 0, 1) := by decide +kernel
theorem dX0_save_11 : decode cX0_save 11 = .ok (.getfield 69, 3) := by decide +kernel
theorem dX0_save_14 : decode cX0_save 14 = .ok (.iconst 1, 1) := by decide +kernel
theorem dX0_save_15 : decode cX0_save 15 = .ok (.iadd, 1) := by decide +kernel
theorem dX0_save_16 : decode cX0_save 16 = .ok (.bipush 6, 2) := by decide +kernel
theorem dX0_save_18 : decode cX0_save 18 = .ok (.irem, 1) := by decide +kernel
theorem dX0_save_19 : decode cX0_save 19 = .ok (.putfield 69, 3) := by decide +kernel
theorem dX0_save_22 : decode cX0_save 22 = .ok (.aload_n 0, 1) := by decide +kernel
theorem dX0_save_23 : decode cX0_save 23 = .ok (.dup, 1) := by decide +kernel
theorem dX0_save_24 : decode cX0_save 24 = .ok (.getfield 65, 3) := by decide +kernel
theorem dX0_save_27 : decode cX0_save 27 = .ok (.iconst 1, 1) := by decide +kernel
theorem dX0_save_28 : decode cX0_save 28 = .ok (.isub, 1) := by decide +kernel
theorem dX0_save_29 : decode cX0_save 29 = .ok (.putfield 65, 3) := by decide +kernel
theorem dX0_save_32 : decode cX0_save 32 = .ok (.aload_n 0, 1) := by decide +kernel
theorem dX0_save_33 : decode cX0_save 33 = .ok (.aload_n 0, 1) := by decide +kernel
theorem dX0_save_34 : decode cX0_save 34 = .ok (.getfield 65, 3) := by decide +kernel
theorem dX0_save_37 : decode cX0_save 37 = .ok (.invokevirtual 72, 3) := by decide +kernel
theorem dX0_save_40 : decode cX0_save 40 = .ok (.istore_n 1, 1) := by decide +kernel
theorem dX0_save_41 : decode cX0_save 41 = .ok (.iload_n 1, 1) := by decide +kernel
theorem dX0_save_42 : decode cX0_save 42 = .ok (.ifCond .lt 32, 3) := by decide +kernel
theorem dX0_save_45 : decode cX0_save 45 = .ok (.iload_n 1, 1) := by decide +kernel
theorem dX0_save_46 : decode cX0_save 46 = .ok (.aload_n 0, 1) := by decide +kernel
theorem dX0_save_47 : decode cX0_save 47 = .ok (.getfield 15, 3) := by decide +kernel
theorem dX0_save_50 : decode cX0_save 50 = .ok (.arraylength, 1) := by decide +kernel
theorem dX0_save_51 : decode cX0_save 51 = .ok (.sipush 553, 3) := by decide +kernel
theorem dX0_save_54 : decode cX0_save 54 = .ok (.isub, 1) := by decide +kernel
theorem dX0_save_55 : decode cX0_save 55 = .ok (.if_icmp .gt 19, 3) := by decide +kernel
theorem dX0_save_58 : decode cX0_save 58 = .ok (.aload_n 0, 1) := by decide +kernel
theorem dX0_save_59 : decode cX0_save 59 = .ok (.getfield 11, 3) := by decide +kernel
theorem dX0_save_62 : decode cX0_save 62 = .ok (.iconst 0, 1) := by decide +kernel
theorem dX0_save_63 : decode cX0_save 63 = .ok (.aload_n 0, 1) := by decide +kernel
theorem dX0_save_64 : decode cX0_save 64 = .ok (.getfield 15, 3) := by decide +kernel
theorem dX0_save_67 : decode cX0_save 67 = .ok (.iload_n 1, 1) := by decide +kernel
theorem dX0_save_68 : decode cX0_save 68 = .ok (.sipush 553, 3) := by decide +kernel
theorem dX0_save_71 : decode cX0_save 71 = .ok (.invokestatic 76, 3) := by decide +kernel
theorem dX0_save_74 : decode cX0_save 74 = .ok (.aload_n 0, 1) := by decide +kernel
theorem dX0_save_75 : decode cX0_save 75 = .ok (.dup, 1) := by decide +kernel
theorem dX0_save_76 : decode cX0_save 76 = .ok (.getfield 65, 3) := by decide +kernel
theorem dX0_save_79 : decode cX0_save 79 = .ok (.iconst 1, 1) := by decide +kernel
theorem dX0_save_80 : decode cX0_save 80 = .ok (.iadd, 1) := by decide +kernel
theorem dX0_save_81 : decode cX0_save 81 = .ok (.putfield 65, 3) := by decide +kernel
theorem dX0_save_84 : decode cX0_save 84 = .ok (.return_, 1) := by decide +kernel
theorem dX0_restore_0 : decode cX0_restore 0 = .ok (.aload_n 0, 1) := by decide +kernel
theorem dX0_restore_1 : decode cX0_restore 1 = .ok (.dup, 1) := by decide +kernel
theorem dX0_restore_2 : decode cX0_restore 2 = .ok (.getfield 65, 3) := by decide +kernel
theorem dX0_restore_5 : decode cX0_restore 5 = .ok (.iconst 1, 1) := by decide +kernel
theorem dX0_restore_6 : decode cX0_restore 6 = .ok (.isub, 1) := by decide +kernel
theorem dX0_restore_7 : decode cX0_restore 7 = .ok (.putfield 65, 3) := by decide +kernel
theorem dX0_restore_10 : decode cX0_restore 10 = .ok (.aload_n 0, 1) := by decide +kernel
theorem dX0_restore_11 : decode cX0_restore 11 = .ok (.aload_n 0, 1) := by decide +kernel
theorem dX0_restore_12 : decode cX0_restore 12 = .ok (.getfield 65, 3) := by decide +kernel
theorem dX0_restore_15 : decode cX0_restore 15 = .ok (.invokevirtual 72, 3) := by decide +kernel
theorem dX0_restore_18 : decode cX0_restore 18 = .ok (.istore_n 1, 1) := by decide +kernel
theorem dX0_restore_19 : decode cX0_restore 19 = .ok (.iload_n 1, 1) := by decide +kernel
theorem dX0_restore_20 : decode cX0_restore 20 = .ok (.ifCond .lt 32, 3) := by decide +kernel
theorem dX0_restore_23 : decode cX0_restore 23 = .ok (.iload_n 1, 1) := by decide +kernel
theorem dX0_restore_24 : decode cX0_restore 24 = .ok (.aload_n 0, 1) := by decide +kernel
theorem dX0_restore_25 : decode cX0_restore 25 = .ok (.getfield 15, 3) := by decide +kernel
theorem dX0_restore_28 : decode cX0_restore 28 = .ok (.arraylength, 1) := by decide +kernel
theorem dX0_restore_29 : decode cX0_restore 29 = .ok (.sipush 553, 3) := by decide +kernel
theorem dX0_restore_32 : decode cX0_restore 32 = .ok (.isub, 1) := by decide +kernel
theorem dX0_restore_33 : decode cX0_restore 33 = .ok (.if_icmp .gt 19, 3) := by decide +kernel
theorem dX0_restore_36 : decode cX0_restore 36 = .ok (.aload_n 0, 1) := by decide +kernel
theorem dX0_restore_37 : decode cX0_restore 37 = .ok (.getfield 15, 3) := by decide +kernel
theorem dX0_restore_40 : decode cX0_restore 40 = .ok (.iload_n 1, 1) := by decide +kernel
theorem dX0_restore_41 : decode cX0_restore 41 = .ok (.aload_n 0, 1) := by decide +kernel
theorem dX0_restore_42 : decode cX0_restore 42 = .ok (.getfield 11, 3) := by decide +kernel
theorem dX0_restore_45 : decode cX0_restore 45 = .ok (.iconst 0, 1) := by decide +kernel
theorem dX0_restore_46 : decode cX0_restore 46 = .ok (.sipush 553, 3) := by decide +kernel
theorem dX0_restore_49 : decode cX0_restore 49 = .ok (.invokestatic 76, 3) := by decide +kernel
theorem dX0_restore_52 : decode cX0_restore 52 = .ok (.return_, 1) := by decide +kernel
theorem dX0_placeOfSaved_0 : decode cX0_placeOfSaved 0 = .ok (.aload_n 0, 1) := by decide +kernel
theorem dX0_placeOfSaved_1 : decode cX0_placeOfSaved 1 = .ok (.getfield 69, 3) := by decide +kernel
theorem dX0_placeOfSaved_4 : decode cX0_placeOfSaved 4 = .ok (.iload_n 1, 1) := by decide +kernel
theorem dX0_placeOfSaved_5 : decode cX0_placeOfSaved 5 = .ok (.iadd, 1) := by decide +kernel
theorem dX0_placeOfSaved_6 : decode cX0_placeOfSaved 6 = .ok (.bipush 6, 2) := by decide +kernel
theorem dX0_placeOfSaved_8 : decode cX0_placeOfSaved 8 = .ok (.irem, 1) := by decide +kernel
theorem dX0_placeOfSaved_9 : decode cX0_placeOfSaved 9 = .ok (.sipush 553, 3) := by decide +kernel
theorem dX0_placeOfSaved_12 : decode cX0_placeOfSaved 12 = .ok (.imul, 1) := by decide +kernel
theorem dX0_placeOfSaved_13 : decode cX0_placeOfSaved 13 = .ok (.ireturn, 1) := by decide +kernel
theorem dX1_init_0 : decode cX1_init 0 = .ok (.aload_n 0, 1) := by decide +kernel
theorem dX1_init_1 : decode cX1_init 1 = .ok (.invokespecial 3, 3) := by decide +kernel
theorem dX1_init_4 : decode cX1_init 4 = .ok (.aload_n 0, 1) := by decide +kernel
theorem dX1_init_5 : decode cX1_init 5 = .ok (.aload_n 1, 1) := by decide +kernel
theorem dX1_init_6 : decode cX1_init 6 = .ok (.putfield 9, 3) := by decide +kernel
theorem dX1_init_9 : decode cX1_init 9 = .ok (.aload_n 0, 1) := by decide +kernel
theorem dX1_init_10 : decode cX1_init 10 = .ok (.iconst 5, 1) := by decide +kernel
theorem dX1_init_11 : decode cX1_init 11 = .ok (.newarray .int, 2) := by decide +kernel
theorem dX1_init_13 : decode cX1_init 13 = .ok (.putfield 15, 3) := by decide +kernel
theorem dX1_init_16 : decode cX1_init 16 = .ok (.aload_n 0, 1) := by decide +kernel
theorem dX1_init_17 : decode cX1_init 17 = .ok (.iconst 5, 1) := by decide +kernel
theorem dX1_init_18 : decode cX1_init 18 = .ok (.newarray .int, 2) := by decide +kernel
theorem dX1_init_20 : decode cX1_init 20 = .ok (.putfield 19, 3) := by decide +kernel
theorem dX1_init_23 : decode cX1_init 23 = .ok (.return_, 1) := by decide +kernel
theorem dX1_oilOf_0 : decode cX1_oilOf 0 = .ok (.iconst 0, 1) := by decide +kernel
theorem dX1_oilOf_1 : decode cX1_oilOf 1 = .ok (.istore_n 2, 1) := by decide +kernel
theorem dX1_oilOf_2 : decode cX1_oilOf 2 = .ok (.iconst 0, 1) := by decide +kernel
theorem dX1_oilOf_3 : decode cX1_oilOf 3 = .ok (.istore_n 3, 1) := by decide +kernel
theorem dX1_oilOf_4 : decode cX1_oilOf 4 = .ok (.iload_n 3, 1) := by decide +kernel
theorem dX1_oilOf_5 : decode cX1_oilOf 5 = .ok (.iconst 5, 1) := by decide +kernel
theorem dX1_oilOf_6 : decode cX1_oilOf 6 = .ok (.if_icmp .ge 26, 3) := by decide +kernel
theorem dX1_oilOf_9 : decode cX1_oilOf 9 = .ok (.iload_n 2, 1) := by decide +kernel
theorem dX1_oilOf_10 : decode cX1_oilOf 10 = .ok (.aload_n 0, 1) := by decide +kernel
theorem dX1_oilOf_11 : decode cX1_oilOf 11 = .ok (.getfield 9, 3) := by decide +kernel
theorem dX1_oilOf_14 : decode cX1_oilOf 14 = .ok (.getfield 22, 3) := by decide +kernel
theorem dX1_oilOf_17 : decode cX1_oilOf 17 = .ok (.iload_n 1, 1) := by decide +kernel
theorem dX1_oilOf_18 : decode cX1_oilOf 18 = .ok (.iconst 2, 1) := by decide +kernel
theorem dX1_oilOf_19 : decode cX1_oilOf 19 = .ok (.iload_n 3, 1) := by decide +kernel
theorem dX1_oilOf_20 : decode cX1_oilOf 20 = .ok (.iadd, 1) := by decide +kernel
theorem dX1_oilOf_21 : decode cX1_oilOf 21 = .ok (.invokevirtual 28, 3) := by decide +kernel
theorem dX1_oilOf_24 : decode cX1_oilOf 24 = .ok (.iadd, 1) := by decide +kernel
theorem dX1_oilOf_25 : decode cX1_oilOf 25 = .ok (.istore_n 2, 1) := by decide +kernel
theorem dX1_oilOf_26 : decode cX1_oilOf 26 = .ok (.iinc 3 1, 3) := by decide +kernel
theorem dX1_oilOf_29 : decode cX1_oilOf 29 = .ok (.goto (-25), 3) := by decide +kernel
theorem dX1_oilOf_32 : decode cX1_oilOf 32 = .ok (.iload_n 2, 1) := by decide +kernel
theorem dX1_oilOf_33 : decode cX1_oilOf 33 = .ok (.ireturn, 1) := by decide +kernel
theorem dX1_allOil_0 : decode cX1_allOil 0 = .ok (.iconst 0, 1) := by decide +kernel
theorem dX1_allOil_1 : decode cX1_allOil 1 = .ok (.istore_n 1, 1) := by decide +kernel
theorem dX1_allOil_2 : decode cX1_allOil 2 = .ok (.iconst 0, 1) := by decide +kernel
theorem dX1_allOil_3 : decode cX1_allOil 3 = .ok (.istore_n 2, 1) := by decide +kernel
theorem dX1_allOil_4 : decode cX1_allOil 4 = .ok (.iload_n 2, 1) := by decide +kernel
theorem dX1_allOil_5 : decode cX1_allOil 5 = .ok (.bipush 6, 2) := by decide +kernel
theorem dX1_allOil_7 : decode cX1_allOil 7 = .ok (.if_icmp .ge 17, 3) := by decide +kernel
theorem dX1_allOil_10 : decode cX1_allOil 10 = .ok (.iload_n 1, 1) := by decide +kernel
theorem dX1_allOil_11 : decode cX1_allOil 11 = .ok (.aload_n 0, 1) := by decide +kernel
theorem dX1_allOil_12 : decode cX1_allOil 12 = .ok (.iload_n 2, 1) := by decide +kernel
theorem dX1_allOil_13 : decode cX1_allOil 13 = .ok (.invokevirtual 34, 3) := by decide +kernel
theorem dX1_allOil_16 : decode cX1_allOil 16 = .ok (.iadd, 1) := by decide +kernel
theorem dX1_allOil_17 : decode cX1_allOil 17 = .ok (.istore_n 1, 1) := by decide +kernel
theorem dX1_allOil_18 : decode cX1_allOil 18 = .ok (.iinc 2 1, 3) := by decide +kernel
theorem dX1_allOil_21 : decode cX1_allOil 21 = .ok (.goto (-17), 3) := by decide +kernel
theorem dX1_allOil_24 : decode cX1_allOil 24 = .ok (.iload_n 1, 1) := by decide +kernel
theorem dX1_allOil_25 : decode cX1_allOil 25 = .ok (.ireturn, 1) := by decide +kernel
theorem dX1_oilOfVariety_0 : decode cX1_oilOfVariety 0 = .ok (.iconst 0, 1) := by decide +kernel
theorem dX1_oilOfVariety_1 : decode cX1_oilOfVariety 1 = .ok (.istore_n 2, 1) := by decide +kernel
theorem dX1_oilOfVariety_2 : decode cX1_oilOfVariety 2 = .ok (.iconst 0, 1) := by decide +kernel
theorem dX1_oilOfVariety_3 : decode cX1_oilOfVariety 3 = .ok (.istore_n 3, 1) := by decide +kernel
theorem dX1_oilOfVariety_4 : decode cX1_oilOfVariety 4 = .ok (.iload_n 3, 1) := by decide +kernel
theorem dX1_oilOfVariety_5 : decode cX1_oilOfVariety 5 = .ok (.bipush 6, 2) := by decide +kernel
theorem dX1_oilOfVariety_7 : decode cX1_oilOfVariety 7 = .ok (.if_icmp .ge 26, 3) := by decide +kernel
theorem dX1_oilOfVariety_10 : decode cX1_oilOfVariety 10 = .ok (.iload_n 2, 1) := by decide +kernel
theorem dX1_oilOfVariety_11 : decode cX1_oilOfVariety 11 = .ok (.aload_n 0, 1) := by decide +kernel
theorem dX1_oilOfVariety_12 : decode cX1_oilOfVariety 12 = .ok (.getfield 9, 3) := by decide +kernel
theorem dX1_oilOfVariety_15 : decode cX1_oilOfVariety 15 = .ok (.getfield 22, 3) := by decide +kernel
theorem dX1_oilOfVariety_18 : decode cX1_oilOfVariety 18 = .ok (.iload_n 3, 1) := by decide +kernel
theorem dX1_oilOfVariety_19 : decode cX1_oilOfVariety 19 = .ok (.iconst 2, 1) := by decide +kernel
theorem dX1_oilOfVariety_20 : decode cX1_oilOfVariety 20 = .ok (.iload_n 1, 1) := by decide +kernel
theorem dX1_oilOfVariety_21 : decode cX1_oilOfVariety 21 = .ok (.iadd, 1) := by decide +kernel
theorem dX1_oilOfVariety_22 : decode cX1_oilOfVariety 22 = .ok (.invokevirtual 28, 3) := by decide +kernel
theorem dX1_oilOfVariety_25 : decode cX1_oilOfVariety 25 = .ok (.iadd, 1) := by decide +kernel
theorem dX1_oilOfVariety_26 : decode cX1_oilOfVariety 26 = .ok (.istore_n 2, 1) := by decide +kernel
theorem dX1_oilOfVariety_27 : decode cX1_oilOfVariety 27 = .ok (.iinc 3 1, 3) := by decide +kernel
theorem dX1_oilOfVariety_30 : decode cX1_oilOfVariety 30 = .ok (.goto (-26), 3) := by decide +kernel
theorem dX1_oilOfVariety_33 : decode cX1_oilOfVariety 33 = .ok (.iload_n 2, 1) := by decide +kernel
theorem dX1_oilOfVariety_34 : decode cX1_oilOfVariety 34 = .ok (.ireturn, 1) := by decide +kernel
theorem dX1_oilOfGrade_0 : decode cX1_oilOfGrade 0 = .ok (.iconst 0, 1) := by decide +kernel
theorem dX1_oilOfGrade_1 : decode cX1_oilOfGrade 1 = .ok (.istore_n 2, 1) := by decide +kernel
theorem dX1_oilOfGrade_2 : decode cX1_oilOfGrade 2 = .ok (.iconst 0, 1) := by decide +kernel
theorem dX1_oilOfGrade_3 : decode cX1_oilOfGrade 3 = .ok (.istore_n 3, 1) := by decide +kernel
theorem dX1_oilOfGrade_4 : decode cX1_oilOfGrade 4 = .ok (.iload_n 3, 1) := by decide +kernel
theorem dX1_oilOfGrade_5 : decode cX1_oilOfGrade 5 = .ok (.bipush 6, 2) := by decide +kernel
theorem dX1_oilOfGrade_7 : decode cX1_oilOfGrade 7 = .ok (.if_icmp .ge 26, 3) := by decide +kernel
theorem dX1_oilOfGrade_10 : decode cX1_oilOfGrade 10 = .ok (.aload_n 0, 1) := by decide +kernel
theorem dX1_oilOfGrade_11 : decode cX1_oilOfGrade 11 = .ok (.iload_n 3, 1) := by decide +kernel
theorem dX1_oilOfGrade_12 : decode cX1_oilOfGrade 12 = .ok (.invokevirtual 38, 3) := by decide +kernel
theorem dX1_oilOfGrade_15 : decode cX1_oilOfGrade 15 = .ok (.iload_n 1, 1) := by decide +kernel
theorem dX1_oilOfGrade_16 : decode cX1_oilOfGrade 16 = .ok (.if_icmp .ne 11, 3) := by decide +kernel
theorem dX1_oilOfGrade_19 : decode cX1_oilOfGrade 19 = .ok (.iload_n 2, 1) := by decide +kernel
theorem dX1_oilOfGrade_20 : decode cX1_oilOfGrade 20 = .ok (.aload_n 0, 1) := by decide +kernel
theorem dX1_oilOfGrade_21 : decode cX1_oilOfGrade 21 = .ok (.iload_n 3, 1) := by decide +kernel
theorem dX1_oilOfGrade_22 : decode cX1_oilOfGrade 22 = .ok (.invokevirtual 34, 3) := by decide +kernel
theorem dX1_oilOfGrade_25 : decode cX1_oilOfGrade 25 = .ok (.iadd, 1) := by decide +kernel
theorem dX1_oilOfGrade_26 : decode cX1_oilOfGrade 26 = .ok (.istore_n 2, 1) := by decide +kernel
theorem dX1_oilOfGrade_27 : decode cX1_oilOfGrade 27 = .ok (.iinc 3 1, 3) := by decide +kernel
theorem dX1_oilOfGrade_30 : decode cX1_oilOfGrade 30 = .ok (.goto (-26), 3) := by decide +kernel
theorem dX1_oilOfGrade_33 : decode cX1_oilOfGrade 33 = .ok (.iload_n 2, 1) := by decide +kernel
theorem dX1_oilOfGrade_34 : decode cX1_oilOfGrade 34 = .ok (.ireturn, 1) := by decide +kernel
theorem dX1_gradeOf_0 : decode cX1_gradeOf 0 = .ok (.aload_n 0, 1) := by decide +kernel
theorem dX1_gradeOf_1 : decode cX1_gradeOf 1 = .ok (.iload_n 1, 1) := by decide +kernel
theorem dX1_gradeOf_2 : decode cX1_gradeOf 2 = .ok (.invokevirtual 34, 3) := by decide +kernel
theorem dX1_gradeOf_5 : decode cX1_gradeOf 5 = .ok (.ifCond .le 18, 3) := by decide +kernel
theorem dX1_gradeOf_8 : decode cX1_gradeOf 8 = .ok (.aload_n 0, 1) := by decide +kernel
theorem dX1_gradeOf_9 : decode cX1_gradeOf 9 = .ok (.getfield 9, 3) := by decide +kernel
theorem dX1_gradeOf_12 : decode cX1_gradeOf 12 = .ok (.getfield 22, 3) := by decide +kernel
theorem dX1_gradeOf_15 : decode cX1_gradeOf 15 = .ok (.iload_n 1, 1) := by decide +kernel
theorem dX1_gradeOf_16 : decode cX1_gradeOf 16 = .ok (.iconst 1, 1) := by decide +kernel
theorem dX1_gradeOf_17 : decode cX1_gradeOf 17 = .ok (.invokevirtual 28, 3) := by decide +kernel
theorem dX1_gradeOf_20 : decode cX1_gradeOf 20 = .ok (.goto 4, 3) := by decide +kernel
theorem dX1_gradeOf_23 : decode cX1_gradeOf 23 = .ok (.iconst (-1), 1) := by decide +kernel
theorem dX1_gradeOf_24 : decode cX1_gradeOf 24 = .ok (.ireturn, 1) := by decide +kernel
theorem dX1_roomOf_0 : decode cX1_roomOf 0 = .ok (.aload_n 0, 1) := by decide +kernel
theorem dX1_roomOf_1 : decode cX1_roomOf 1 = .ok (.getfield 9, 3) := by decide +kernel
theorem dX1_roomOf_4 : decode cX1_roomOf 4 = .ok (.getfield 22, 3) := by decide +kernel
theorem dX1_roomOf_7 : decode cX1_roomOf 7 = .ok (.iload_n 1, 1) := by decide +kernel
theorem dX1_roomOf_8 : decode cX1_roomOf 8 = .ok (.iconst 0, 1) := by decide +kernel
theorem dX1_roomOf_9 : decode cX1_roomOf 9 = .ok (.invokevirtual 28, 3) := by decide +kernel
theorem dX1_roomOf_12 : decode cX1_roomOf 12 = .ok (.aload_n 0, 1) := by decide +kernel
theorem dX1_roomOf_13 : decode cX1_roomOf 13 = .ok (.iload_n 1, 1) := by decide +kernel
theorem dX1_roomOf_14 : decode cX1_roomOf 14 = .ok (.invokevirtual 34, 3) := by decide +kernel
theorem dX1_roomOf_17 : decode cX1_roomOf 17 = .ok (.isub, 1) := by decide +kernel
theorem dX1_roomOf_18 : decode cX1_roomOf 18 = .ok (.ireturn, 1) := by decide +kernel
theorem dX1_admits_0 : decode cX1_admits 0 = .ok (.aload_n 0, 1) := by decide +kernel
theorem dX1_admits_1 : decode cX1_admits 1 = .ok (.iload_n 1, 1) := by decide +kernel
theorem dX1_admits_2 : decode cX1_admits 2 = .ok (.invokevirtual 38, 3) := by decide +kernel
theorem dX1_admits_5 : decode cX1_admits 5 = .ok (.istore 4, 2) := by decide +kernel
theorem dX1_admits_7 : decode cX1_admits 7 = .ok (.iload_n 3, 1) := by decide +kernel
theorem dX1_admits_8 : decode cX1_admits 8 = .ok (.ifCond .ne 15, 3) := by decide +kernel
theorem dX1_admits_11 : decode cX1_admits 11 = .ok (.iload 4, 2) := by decide +kernel
theorem dX1_admits_13 : decode cX1_admits 13 = .ok (.iconst (-1), 1) := by decide +kernel
theorem dX1_admits_14 : decode cX1_admits 14 = .ok (.if_icmp .eq 9, 3) := by decide +kernel
theorem dX1_admits_17 : decode cX1_admits 17 = .ok (.iload 4, 2) := by decide +kernel
theorem dX1_admits_19 : decode cX1_admits 19 = .ok (.iload_n 2, 1) := by decide +kernel
theorem dX1_admits_20 : decode cX1_admits 20 = .ok (.if_icmp .ne 7, 3) := by decide +kernel
theorem dX1_admits_23 : decode cX1_admits 23 = .ok (.iconst 1, 1) := by decide +kernel
theorem dX1_admits_24 : decode cX1_admits 24 = .ok (.goto 4, 3) := by decide +kernel
theorem dX1_admits_27 : decode cX1_admits 27 = .ok (.iconst 0, 1) := by decide +kernel
theorem dX1_admits_28 : decode cX1_admits 28 = .ok (.ireturn, 1) := by decide +kernel
theorem dX1_pour_0 : decode cX1_pour 0 = .ok (.iload_n 3, 1) := by decide +kernel
theorem dX1_pour_1 : decode cX1_pour 1 = .ok (.ifCond .le 40, 3) := by decide +kernel
theorem dX1_pour_4 : decode cX1_pour 4 = .ok (.aload_n 0, 1) := by decide +kernel
theorem dX1_pour_5 : decode cX1_pour 5 = .ok (.getfield 9, 3) := by decide +kernel
theorem dX1_pour_8 : decode cX1_pour 8 = .ok (.getfield 22, 3) := by decide +kernel
theorem dX1_pour_11 : decode cX1_pour 11 = .ok (.iload_n 1, 1) := by decide +kernel
theorem dX1_pour_12 : decode cX1_pour 12 = .ok (.iconst 1, 1) := by decide +kernel
theorem dX1_pour_13 : decode cX1_pour 13 = .ok (.aload_n 0, 1) := by decide +kernel
theorem dX1_pour_14 : decode cX1_pour 14 = .ok (.iload_n 1, 1) := by decide +kernel
theorem dX1_pour_15 : decode cX1_pour 15 = .ok (.invokevirtual 38, 3) := by decide +kernel
theorem dX1_pour_18 : decode cX1_pour 18 = .ok (.iload 4, 2) := by decide +kernel
theorem dX1_pour_20 : decode cX1_pour 20 = .ok (.invokestatic 41, 3) := by decide +kernel
theorem dX1_pour_23 : decode cX1_pour 23 = .ok (.invokevirtual 46, 3) := by decide +kernel
theorem dX1_pour_26 : decode cX1_pour 26 = .ok (.aload_n 0, 1) := by decide +kernel
theorem dX1_pour_27 : decode cX1_pour 27 = .ok (.getfield 9, 3) := by decide +kernel
theorem dX1_pour_30 : decode cX1_pour 30 = .ok (.getfield 22, 3) := by decide +kernel
theorem dX1_pour_33 : decode cX1_pour 33 = .ok (.iload_n 1, 1) := by decide +kernel
theorem dX1_pour_34 : decode cX1_pour 34 = .ok (.iconst 2, 1) := by decide +kernel
theorem dX1_pour_35 : decode cX1_pour 35 = .ok (.iload_n 2, 1) := by decide +kernel
theorem dX1_pour_36 : decode cX1_pour 36 = .ok (.iadd, 1) := by decide +kernel
theorem dX1_pour_37 : decode cX1_pour 37 = .ok (.iload_n 3, 1) := by decide +kernel
theorem dX1_pour_38 : decode cX1_pour 38 = .ok (.invokevirtual 50, 3) := by decide +kernel
theorem dX1_pour_41 : decode cX1_pour 41 = .ok (.return_, 1) := by decide +kernel
theorem dX1_takeOut_0 : decode cX1_takeOut 0 = .ok (.aload_n 0, 1) := by decide +kernel
theorem dX1_takeOut_1 : decode cX1_takeOut 1 = .ok (.iload_n 1, 1) := by decide +kernel
theorem dX1_takeOut_2 : decode cX1_takeOut 2 = .ok (.iload_n 2, 1) := by decide +kernel
theorem dX1_takeOut_3 : decode cX1_takeOut 3 = .ok (.invokevirtual 53, 3) := by decide +kernel
theorem dX1_takeOut_6 : decode cX1_takeOut 6 = .ok (.iconst 0, 1) := by decide +kernel
theorem dX1_takeOut_7 : decode cX1_takeOut 7 = .ok (.istore_n 3, 1) := by decide +kernel
theorem dX1_takeOut_8 : decode cX1_takeOut 8 = .ok (.iload_n 3, 1) := by decide +kernel
theorem dX1_takeOut_9 : decode cX1_takeOut 9 = .ok (.iconst 5, 1) := by decide +kernel
theorem dX1_takeOut_10 : decode cX1_takeOut 10 = .ok (.if_icmp .ge 29, 3) := by decide +kernel
theorem dX1_takeOut_13 : decode cX1_takeOut 13 = .ok (.aload_n 0, 1) := by decide +kernel
theorem dX1_takeOut_14 : decode cX1_takeOut 14 = .ok (.getfield 9, 3) := by decide +kernel
theorem dX1_takeOut_17 : decode cX1_takeOut 17 = .ok (.getfield 22, 3) := by decide +kernel
theorem dX1_takeOut_20 : decode cX1_takeOut 20 = .ok (.iload_n 1, 1) := by decide +kernel
theorem dX1_takeOut_21 : decode cX1_takeOut 21 = .ok (.iconst 2, 1) := by decide +kernel
theorem dX1_takeOut_22 : decode cX1_takeOut 22 = .ok (.iload_n 3, 1) := by decide +kernel
theorem dX1_takeOut_23 : decode cX1_takeOut 23 = .ok (.iadd, 1) := by decide +kernel
theorem dX1_takeOut_24 : decode cX1_takeOut 24 = .ok (.aload_n 0, 1) := by decide +kernel
theorem dX1_takeOut_25 : decode cX1_takeOut 25 = .ok (.iload_n 3, 1) := by decide +kernel
theorem dX1_takeOut_26 : decode cX1_takeOut 26 = .ok (.invokevirtual 57, 3) := by decide +kernel
theorem dX1_takeOut_29 : decode cX1_takeOut 29 = .ok (.ineg, 1) := by decide +kernel
theorem dX1_takeOut_30 : decode cX1_takeOut 30 = .ok (.invokevirtual 50, 3) := by decide +kernel
theorem dX1_takeOut_33 : decode cX1_takeOut 33 = .ok (.iinc 3 1, 3) := by decide +kernel
theorem dX1_takeOut_36 : decode cX1_takeOut 36 = .ok (.goto (-28), 3) := by decide +kernel
theorem dX1_takeOut_39 : decode cX1_takeOut 39 = .ok (.return_, 1) := by decide +kernel
theorem dX1_oilAfter_0 : decode cX1_oilAfter 0 = .ok (.iload_n 2, 1) := by decide +kernel
theorem dX1_oilAfter_1 : decode cX1_oilAfter 1 = .ok (.istore_n 3, 1) := by decide +kernel
theorem dX1_oilAfter_2 : decode cX1_oilAfter 2 = .ok (.iconst 0, 1) := by decide +kernel
theorem dX1_oilAfter_3 : decode cX1_oilAfter 3 = .ok (.istore 4, 2) := by decide +kernel
theorem dX1_oilAfter_5 : decode cX1_oilAfter 5 = .ok (.iload 4, 2) := by decide +kernel
theorem dX1_oilAfter_7 : decode cX1_oilAfter 7 = .ok (.iload_n 1, 1) := by decide +kernel
theorem dX1_oilAfter_8 : decode cX1_oilAfter 8 = .ok (.if_icmp .ge 29, 3) := by decide +kernel
theorem dX1_oilAfter_11 : decode cX1_oilAfter 11 = .ok (.iload_n 3, 1) := by decide +kernel
theorem dX1_oilAfter_12 : decode cX1_oilAfter 12 = .ok (.iload_n 3, 1) := by decide +kernel
theorem dX1_oilAfter_13 : decode cX1_oilAfter 13 = .ok (.aload_n 0, 1) := by decide +kernel
theorem dX1_oilAfter_14 : decode cX1_oilAfter 14 = .ok (.getfield 9, 3) := by decide +kernel
theorem dX1_oilAfter_17 : decode cX1_oilAfter 17 = .ok (.getfield 60, 3) := by decide +kernel
theorem dX1_oilAfter_20 : decode cX1_oilAfter 20 = .ok (.iconst 3, 1) := by decide +kernel
theorem dX1_oilAfter_21 : decode cX1_oilAfter 21 = .ok (.invokevirtual 64, 3) := by decide +kernel
theorem dX1_oilAfter_24 : decode cX1_oilAfter 24 = .ok (.imul, 1) := by decide +kernel
theorem dX1_oilAfter_25 : decode cX1_oilAfter 25 = .ok (.sipush 1000, 3) := by decide +kernel
theorem dX1_oilAfter_28 : decode cX1_oilAfter 28 = .ok (.idiv, 1) := by decide +kernel
theorem dX1_oilAfter_29 : decode cX1_oilAfter 29 = .ok (.isub, 1) := by decide +kernel
theorem dX1_oilAfter_30 : decode cX1_oilAfter 30 = .ok (.istore_n 3, 1) := by decide +kernel
theorem dX1_oilAfter_31 : decode cX1_oilAfter 31 = .ok (.iinc 4 1, 3) := by decide +kernel
theorem dX1_oilAfter_34 : decode cX1_oilAfter 34 = .ok (.goto (-29), 3) := by decide +kernel
theorem dX1_oilAfter_37 : decode cX1_oilAfter 37 = .ok (.iload_n 3, 1) := by decide +kernel
theorem dX1_oilAfter_38 : decode cX1_oilAfter 38 = .ok (.ireturn, 1) := by decide +kernel
theorem dX1_settle_0 : decode cX1_settle 0 = .ok (.aload_n 0, 1) := by decide +kernel
theorem dX1_settle_1 : decode cX1_settle 1 = .ok (.getfield 9, 3) := by decide +kernel
theorem dX1_settle_4 : decode cX1_settle 4 = .ok (.getfield 22, 3) := by decide +kernel
theorem dX1_settle_7 : decode cX1_settle 7 = .ok (.iload_n 1, 1) := by decide +kernel
theorem dX1_settle_8 : decode cX1_settle 8 = .ok (.iconst 2, 1) := by decide +kernel
theorem dX1_settle_9 : decode cX1_settle 9 = .ok (.iload_n 2, 1) := by decide +kernel
theorem dX1_settle_10 : decode cX1_settle 10 = .ok (.iadd, 1) := by decide +kernel
theorem dX1_settle_11 : decode cX1_settle 11 = .ok (.invokevirtual 28, 3) := by decide +kernel
theorem dX1_settle_14 : decode cX1_settle 14 = .ok (.istore 4, 2) := by decide +kernel
theorem dX1_settle_16 : decode cX1_settle 16 = .ok (.aload_n 0, 1) := by decide +kernel
theorem dX1_settle_17 : decode cX1_settle 17 = .ok (.iload_n 3, 1) := by decide +kernel
theorem dX1_settle_18 : decode cX1_settle 18 = .ok (.iload 4, 2) := by decide +kernel
theorem dX1_settle_20 : decode cX1_settle 20 = .ok (.invokevirtual 68, 3) := by decide +kernel
theorem dX1_settle_23 : decode cX1_settle 23 = .ok (.istore 5, 2) := by decide +kernel
theorem dX1_settle_25 : decode cX1_settle 25 = .ok (.aload_n 0, 1) := by decide +kernel
theorem dX1_settle_26 : decode cX1_settle 26 = .ok (.getfield 9, 3) := by decide +kernel
theorem dX1_settle_29 : decode cX1_settle 29 = .ok (.getfield 22, 3) := by decide +kernel
theorem dX1_settle_32 : decode cX1_settle 32 = .ok (.iload_n 1, 1) := by decide +kernel
theorem dX1_settle_33 : decode cX1_settle 33 = .ok (.iconst 2, 1) := by decide +kernel
theorem dX1_settle_34 : decode cX1_settle 34 = .ok (.iload_n 2, 1) := by decide +kernel
theorem dX1_settle_35 : decode cX1_settle 35 = .ok (.iadd, 1) := by decide +kernel
theorem dX1_settle_36 : decode cX1_settle 36 = .ok (.iload 5, 2) := by decide +kernel
theorem dX1_settle_38 : decode cX1_settle 38 = .ok (.invokevirtual 46, 3) := by decide +kernel
theorem dX1_settle_41 : decode cX1_settle 41 = .ok (.aload_n 0, 1) := by decide +kernel
theorem dX1_settle_42 : decode cX1_settle 42 = .ok (.getfield 9, 3) := by decide +kernel
theorem dX1_settle_45 : decode cX1_settle 45 = .ok (.getfield 71, 3) := by decide +kernel
theorem dX1_settle_48 : decode cX1_settle 48 = .ok (.iload_n 2, 1) := by decide +kernel
theorem dX1_settle_49 : decode cX1_settle 49 = .ok (.iconst 3, 1) := by decide +kernel
theorem dX1_settle_50 : decode cX1_settle 50 = .ok (.iload 4, 2) := by decide +kernel
theorem dX1_settle_52 : decode cX1_settle 52 = .ok (.iload 5, 2) := by decide +kernel
theorem dX1_settle_54 : decode cX1_settle 54 = .ok (.isub, 1) := by decide +kernel
theorem dX1_settle_55 : decode cX1_settle 55 = .ok (.invokevirtual 50, 3) := by decide +kernel
theorem dX1_settle_58 : decode cX1_settle 58 = .ok (.iload 4, 2) := by decide +kernel
theorem dX1_settle_60 : decode cX1_settle 60 = .ok (.iload 5, 2) := by decide +kernel
theorem dX1_settle_62 : decode cX1_settle 62 = .ok (.isub, 1) := by decide +kernel
theorem dX1_settle_63 : decode cX1_settle 63 = .ok (.ireturn, 1) := by decide +kernel
theorem dX1_part_0 : decode cX1_part 0 = .ok (.iload_n 1, 1) := by decide +kernel
theorem dX1_part_1 : decode cX1_part 1 = .ok (.ifCond .lt 21, 3) := by decide +kernel
theorem dX1_part_4 : decode cX1_part 4 = .ok (.iload_n 1, 1) := by decide +kernel
theorem dX1_part_5 : decode cX1_part 5 = .ok (.aload_n 0, 1) := by decide +kernel
theorem dX1_part_6 : decode cX1_part 6 = .ok (.getfield 15, 3) := by decide +kernel
theorem dX1_part_9 : decode cX1_part 9 = .ok (.arraylength, 1) := by decide +kernel
theorem dX1_part_10 : decode cX1_part 10 = .ok (.if_icmp .ge 12, 3) := by decide +kernel
theorem dX1_part_13 : decode cX1_part 13 = .ok (.aload_n 0, 1) := by decide +kernel
theorem dX1_part_14 : decode cX1_part 14 = .ok (.getfield 15, 3) := by decide +kernel
theorem dX1_part_17 : decode cX1_part 17 = .ok (.iload_n 1, 1) := by decide +kernel
theorem dX1_part_18 : decode cX1_part 18 = .ok (.iaload, 1) := by decide +kernel
theorem dX1_part_19 : decode cX1_part 19 = .ok (.goto 4, 3) := by decide +kernel
theorem dX1_part_22 : decode cX1_part 22 = .ok (.iconst 0, 1) := by decide +kernel
theorem dX1_part_23 : decode cX1_part 23 = .ok (.ireturn, 1) := by decide +kernel
theorem dX1_split_0 : decode cX1_split 0 = .ok (.aload_n 0, 1) := by decide +kernel
theorem dX1_split_1 : decode cX1_split 1 = .ok (.iload_n 1, 1) := by decide +kernel
theorem dX1_split_2 : decode cX1_split 2 = .ok (.invokevirtual 34, 3) := by decide +kernel
theorem dX1_split_5 : decode cX1_split 5 = .ok (.istore_n 3, 1) := by decide +kernel
theorem dX1_split_6 : decode cX1_split 6 = .ok (.iload_n 3, 1) := by decide +kernel
theorem dX1_split_7 : decode cX1_split 7 = .ok (.ifCond .gt 4, 3) := by decide +kernel
theorem dX1_split_10 : decode cX1_split 10 = .ok (.return_, 1) := by decide +kernel
theorem dX1_split_11 : decode cX1_split 11 = .ok (.iload_n 2, 1) := by decide +kernel
theorem dX1_split_12 : decode cX1_split 12 = .ok (.istore 4, 2) := by decide +kernel
theorem dX1_split_14 : decode cX1_split 14 = .ok (.iconst 0, 1) := by decide +kernel
theorem dX1_split_15 : decode cX1_split 15 = .ok (.istore 5, 2) := by decide +kernel
theorem dX1_split_17 : decode cX1_split 17 = .ok (.iload 5, 2) := by decide +kernel
theorem dX1_split_19 : decode cX1_split 19 = .ok (.aload_n 0, 1) := by decide +kernel
theorem dX1_split_20 : decode cX1_split 20 = .ok (.getfield 15, 3) := by decide +kernel
theorem dX1_split_23 : decode cX1_split 23 = .ok (.arraylength, 1) := by decide +kernel
theorem dX1_split_24 : decode cX1_split 24 = .ok (.if_icmp .ge 72, 3) := by decide +kernel
theorem dX1_split_27 : decode cX1_split 27 = .ok (.iload 5, 2) := by decide +kernel
theorem dX1_split_29 : decode cX1_split 29 = .ok (.aload_n 0, 1) := by decide +kernel
theorem dX1_split_30 : decode cX1_split 30 = .ok (.getfield 19, 3) := by decide +kernel
theorem dX1_split_33 : decode cX1_split 33 = .ok (.arraylength, 1) := by decide +kernel
theorem dX1_split_34 : decode cX1_split 34 = .ok (.if_icmp .ge 62, 3) := by decide +kernel
theorem dX1_split_37 : decode cX1_split 37 = .ok (.aload_n 0, 1) := by decide +kernel
theorem dX1_split_38 : decode cX1_split 38 = .ok (.getfield 9, 3) := by decide +kernel
theorem dX1_split_41 : decode cX1_split 41 = .ok (.getfield 22, 3) := by decide +kernel
theorem dX1_split_44 : decode cX1_split 44 = .ok (.iload_n 1, 1) := by decide +kernel
theorem dX1_split_45 : decode cX1_split 45 = .ok (.iconst 2, 1) := by decide +kernel
theorem dX1_split_46 : decode cX1_split 46 = .ok (.iload 5, 2) := by decide +kernel
theorem dX1_split_48 : decode cX1_split 48 = .ok (.iadd, 1) := by decide +kernel
theorem dX1_split_49 : decode cX1_split 49 = .ok (.invokevirtual 28, 3) := by decide +kernel
theorem dX1_split_52 : decode cX1_split 52 = .ok (.iload_n 2, 1) := by decide +kernel
theorem dX1_split_53 : decode cX1_split 53 = .ok (.imul, 1) := by decide +kernel
theorem dX1_split_54 : decode cX1_split 54 = .ok (.istore 6, 2) := by decide +kernel
theorem dX1_split_56 : decode cX1_split 56 = .ok (.aload_n 0, 1) := by decide +kernel
theorem dX1_split_57 : decode cX1_split 57 = .ok (.getfield 15, 3) := by decide +kernel
theorem dX1_split_60 : decode cX1_split 60 = .ok (.iload 5, 2) := by decide +kernel
theorem dX1_split_62 : decode cX1_split 62 = .ok (.iload 6, 2) := by decide +kernel
theorem dX1_split_64 : decode cX1_split 64 = .ok (.iload_n 3, 1) := by decide +kernel
theorem dX1_split_65 : decode cX1_split 65 = .ok (.idiv, 1) := by decide +kernel
theorem dX1_split_66 : decode cX1_split 66 = .ok (.iastore, 1) := by decide +kernel
theorem dX1_split_67 : decode cX1_split 67 = .ok (.aload_n 0, 1) := by decide +kernel
theorem dX1_split_68 : decode cX1_split 68 = .ok (.getfield 19, 3) := by decide +kernel
theorem dX1_split_71 : decode cX1_split 71 = .ok (.iload 5, 2) := by decide +kernel
theorem dX1_split_73 : decode cX1_split 73 = .ok (.iload 6, 2) := by decide +kernel
theorem dX1_split_75 : decode cX1_split 75 = .ok (.iload_n 3, 1) := by decide +kernel
theorem dX1_split_76 : decode cX1_split 76 = .ok (.irem, 1) := by decide +kernel
theorem dX1_split_77 : decode cX1_split 77 = .ok (.iastore, 1) := by decide +kernel
theorem dX1_split_78 : decode cX1_split 78 = .ok (.iload 4, 2) := by decide +kernel
theorem dX1_split_80 : decode cX1_split 80 = .ok (.aload_n 0, 1) := by decide +kernel
theorem dX1_split_81 : decode cX1_split 81 = .ok (.getfield 15, 3) := by decide +kernel
theorem dX1_split_84 : decode cX1_split 84 = .ok (.iload 5, 2) := by decide +kernel
theorem dX1_split_86 : decode cX1_split 86 = .ok (.iaload, 1) := by decide +kernel
theorem dX1_split_87 : decode cX1_split 87 = .ok (.isub, 1) := by decide +kernel
theorem dX1_split_88 : decode cX1_split 88 = .ok (.istore 4, 2) := by decide +kernel
theorem dX1_split_90 : decode cX1_split 90 = .ok (.iinc 5 1, 3) := by decide +kernel
theorem dX1_split_93 : decode cX1_split 93 = .ok (.goto (-76), 3) := by decide +kernel
theorem dX1_split_96 : decode cX1_split 96 = .ok (.iconst 0, 1) := by decide +kernel
theorem dX1_split_97 : decode cX1_split 97 = .ok (.istore 5, 2) := by decide +kernel
theorem dX1_split_99 : decode cX1_split 99 = .ok (.iload 5, 2) := by decide +kernel
theorem dX1_split_101 : decode cX1_split 101 = .ok (.iconst 5, 1) := by decide +kernel
theorem dX1_split_102 : decode cX1_split 102 = .ok (.if_icmp .ge 25, 3) := by decide +kernel
theorem dX1_split_105 : decode cX1_split 105 = .ok (.iload 4, 2) := by decide +kernel
theorem dX1_split_107 : decode cX1_split 107 = .ok (.ifCond .le 20, 3) := by decide +kernel
theorem dX1_split_110 : decode cX1_split 110 = .ok (.aload_n 0, 1) := by decide +kernel
theorem dX1_split_111 : decode cX1_split 111 = .ok (.aload_n 0, 1) := by decide +kernel
theorem dX1_split_112 : decode cX1_split 112 = .ok (.invokevirtual 74, 3) := by decide +kernel
theorem dX1_split_115 : decode cX1_split 115 = .ok (.invokevirtual 78, 3) := by decide +kernel
theorem dX1_split_118 : decode cX1_split 118 = .ok (.iinc 4 (-1), 3) := by decide +kernel
theorem dX1_split_121 : decode cX1_split 121 = .ok (.iinc 5 1, 3) := by decide +kernel
theorem dX1_split_124 : decode cX1_split 124 = .ok (.goto (-25), 3) := by decide +kernel
theorem dX1_split_127 : decode cX1_split 127 = .ok (.return_, 1) := by decide +kernel
theorem dX1_greatestRemainder_0 : decode cX1_greatestRemainder 0 = .ok (.iconst 0, 1) := by decide +kernel
theorem dX1_greatestRemainder_1 : decode cX1_greatestRemainder 1 = .ok (.istore_n 1, 1) := by decide +kernel
theorem dX1_greatestRemainder_2 : decode cX1_greatestRemainder 2 = .ok (.iconst 1, 1) := by decide +kernel
theorem dX1_greatestRemainder_3 : decode cX1_greatestRemainder 3 = .ok (.istore_n 2, 1) := by decide +kernel
theorem dX1_greatestRemainder_4 : decode cX1_greatestRemainder 4 = .ok (.iload_n 2, 1) := by decide +kernel
theorem dX1_greatestRemainder_5 : decode cX1_greatestRemainder 5 = .ok (.aload_n 0, 1) := by decide +kernel
theorem dX1_greatestRemainder_6 : decode cX1_greatestRemainder 6 = .ok (.getfield 19, 3) := by decide +kernel
theorem dX1_greatestRemainder_9 : decode cX1_greatestRemainder 9 = .ok (.arraylength, 1) := by decide +kernel
theorem dX1_greatestRemainder_10 : decode cX1_greatestRemainder 10 = .ok (.if_icmp .ge 26, 3) := by decide +kernel
theorem dX1_greatestRemainder_13 : decode cX1_greatestRemainder 13 = .ok (.aload_n 0, 1) := by decide +kernel
theorem dX1_greatestRemainder_14 : decode cX1_greatestRemainder 14 = .ok (.getfield 19, 3) := by decide +kernel
theorem dX1_greatestRemainder_17 : decode cX1_greatestRemainder 17 = .ok (.iload_n 2, 1) := by decide +kernel
theorem dX1_greatestRemainder_18 : decode cX1_greatestRemainder 18 = .ok (.iaload, 1) := by decide +kernel
theorem dX1_greatestRemainder_19 : decode cX1_greatestRemainder 19 = .ok (.aload_n 0, 1) := by decide +kernel
theorem dX1_greatestRemainder_20 : decode cX1_greatestRemainder 20 = .ok (.getfield 19, 3) := by decide +kernel
theorem dX1_greatestRemainder_23 : decode cX1_greatestRemainder 23 = .ok (.iload_n 1, 1) := by decide +kernel
theorem dX1_greatestRemainder_24 : decode cX1_greatestRemainder 24 = .ok (.iaload, 1) := by decide +kernel
theorem dX1_greatestRemainder_25 : decode cX1_greatestRemainder 25 = .ok (.if_icmp .le 5, 3) := by decide +kernel
theorem dX1_greatestRemainder_28 : decode cX1_greatestRemainder 28 = .ok (.iload_n 2, 1) := by decide +kernel
theorem dX1_greatestRemainder_29 : decode cX1_greatestRemainder 29 = .ok (.istore_n 1, 1) := by decide +kernel
theorem dX1_greatestRemainder_30 : decode cX1_greatestRemainder 30 = .ok (.iinc 2 1, 3) := by decide +kernel
theorem dX1_greatestRemainder_33 : decode cX1_greatestRemainder 33 = .ok (.goto (-29), 3) := by decide +kernel
theorem dX1_greatestRemainder_36 : decode cX1_greatestRemainder 36 = .ok (.iload_n 1, 1) := by decide +kernel
theorem dX1_greatestRemainder_37 : decode cX1_greatestRemainder 37 = .ok (.ireturn, 1) := by decide +kernel
theorem dX1_roundUp_0 : decode cX1_roundUp 0 = .ok (.iload_n 1, 1) := by decide +kernel
theorem dX1_roundUp_1 : decode cX1_roundUp 1 = .ok (.ifCond .lt 38, 3) := by decide +kernel
theorem dX1_roundUp_4 : decode cX1_roundUp 4 = .ok (.iload_n 1, 1) := by decide +kernel
theorem dX1_roundUp_5 : decode cX1_roundUp 5 = .ok (.aload_n 0, 1) := by decide +kernel
theorem dX1_roundUp_6 : decode cX1_roundUp 6 = .ok (.getfield 15, 3) := by decide +kernel
theorem dX1_roundUp_9 : decode cX1_roundUp 9 = .ok (.arraylength, 1) := by decide +kernel
theorem dX1_roundUp_10 : decode cX1_roundUp 10 = .ok (.if_icmp .ge 29, 3) := by decide +kernel
theorem dX1_roundUp_13 : decode cX1_roundUp 13 = .ok (.iload_n 1, 1) := by decide +kernel
theorem dX1_roundUp_14 : decode cX1_roundUp 14 = .ok (.aload_n 0, 1) := by decide +kernel
theorem dX1_roundUp_15 : decode cX1_roundUp 15 = .ok (.getfield 19, 3) := by decide +kernel
theorem dX1_roundUp_18 : decode cX1_roundUp 18 = .ok (.arraylength, 1) := by decide +kernel
theorem dX1_roundUp_19 : decode cX1_roundUp 19 = .ok (.if_icmp .ge 20, 3) := by decide +kernel
theorem dX1_roundUp_22 : decode cX1_roundUp 22 = .ok (.aload_n 0, 1) := by decide +kernel
theorem dX1_roundUp_23 : decode cX1_roundUp 23 = .ok (.getfield 15, 3) := by decide +kernel
theorem dX1_roundUp_26 : decode cX1_roundUp 26 = .ok (.iload_n 1, 1) := by decide +kernel
theorem dX1_roundUp_27 : decode cX1_roundUp 27 = .ok (.dup2, 1) := by decide +kernel
theorem dX1_roundUp_28 : decode cX1_roundUp 28 = .ok (.iaload, 1) := by decide +kernel
theorem dX1_roundUp_29 : decode cX1_roundUp 29 = .ok (.iconst 1, 1) := by decide +kernel
theorem dX1_roundUp_30 : decode cX1_roundUp 30 = .ok (.iadd, 1) := by decide +kernel
theorem dX1_roundUp_31 : decode cX1_roundUp 31 = .ok (.iastore, 1) := by decide +kernel
theorem dX1_roundUp_32 : decode cX1_roundUp 32 = .ok (.aload_n 0, 1) := by decide +kernel
theorem dX1_roundUp_33 : decode cX1_roundUp 33 = .ok (.getfield 19, 3) := by decide +kernel
theorem dX1_roundUp_36 : decode cX1_roundUp 36 = .ok (.iload_n 1, 1) := by decide +kernel
theorem dX1_roundUp_37 : decode cX1_roundUp 37 = .ok (.iconst 0, 1) := by decide +kernel
theorem dX1_roundUp_38 : decode cX1_roundUp 38 = .ok (.iastore, 1) := by decide +kernel
theorem dX1_roundUp_39 : decode cX1_roundUp 39 = .ok (.return_, 1) := by decide +kernel
theorem dX2_init_0 : decode cX2_init 0 = .ok (.aload_n 0, 1) := by decide +kernel
theorem dX2_init_1 : decode cX2_init 1 = .ok (.invokespecial 3, 3) := by decide +kernel
theorem dX2_init_4 : decode cX2_init 4 = .ok (.aload_n 0, 1) := by decide +kernel
theorem dX2_init_5 : decode cX2_init 5 = .ok (.aload_n 1, 1) := by decide +kernel
theorem dX2_init_6 : decode cX2_init 6 = .ok (.putfield 9, 3) := by decide +kernel
theorem dX2_init_9 : decode cX2_init 9 = .ok (.aload_n 0, 1) := by decide +kernel
theorem dX2_init_10 : decode cX2_init 10 = .ok (.bipush 40, 2) := by decide +kernel
theorem dX2_init_12 : decode cX2_init 12 = .ok (.newarray .boolean, 2) := by decide +kernel
theorem dX2_init_14 : decode cX2_init 14 = .ok (.putfield 15, 3) := by decide +kernel
theorem dX2_init_17 : decode cX2_init 17 = .ok (.return_, 1) := by decide +kernel
theorem dX2_begin_0 : decode cX2_begin 0 = .ok (.aload_n 0, 1) := by decide +kernel
theorem dX2_begin_1 : decode cX2_begin 1 = .ok (.getfield 9, 3) := by decide +kernel
theorem dX2_begin_4 : decode cX2_begin 4 = .ok (.getfield 19, 3) := by decide +kernel
theorem dX2_begin_7 : decode cX2_begin 7 = .ok (.iconst 1, 1) := by decide +kernel
theorem dX2_begin_8 : decode cX2_begin 8 = .ok (.invokevirtual 25, 3) := by decide +kernel
theorem dX2_begin_11 : decode cX2_begin 11 = .ok (.istore_n 1, 1) := by decide +kernel
theorem dX2_begin_12 : decode cX2_begin 12 = .ok (.iconst 0, 1) := by decide +kernel
theorem dX2_begin_13 : decode cX2_begin 13 = .ok (.istore_n 2, 1) := by decide +kernel
theorem dX2_begin_14 : decode cX2_begin 14 = .ok (.iload_n 2, 1) := by decide +kernel
theorem dX2_begin_15 : decode cX2_begin 15 = .ok (.aload_n 0, 1) := by decide +kernel
theorem dX2_begin_16 : decode cX2_begin 16 = .ok (.getfield 15, 3) := by decide +kernel
theorem dX2_begin_19 : decode cX2_begin 19 = .ok (.arraylength, 1) := by decide +kernel
theorem dX2_begin_20 : decode cX2_begin 20 = .ok (.if_icmp .ge 40, 3) := by decide +kernel
theorem dX2_begin_23 : decode cX2_begin 23 = .ok (.aload_n 0, 1) := by decide +kernel
theorem dX2_begin_24 : decode cX2_begin 24 = .ok (.getfield 15, 3) := by decide +kernel
theorem dX2_begin_27 : decode cX2_begin 27 = .ok (.iload_n 2, 1) := by decide +kernel
theorem dX2_begin_28 : decode cX2_begin 28 = .ok (.iload_n 2, 1) := by decide +kernel
theorem dX2_begin_29 : decode cX2_begin 29 = .ok (.iload_n 1, 1) := by decide +kernel
theorem dX2_begin_30 : decode cX2_begin 30 = .ok (.if_icmp .ge 22, 3) := by decide +kernel
theorem dX2_begin_33 : decode cX2_begin 33 = .ok (.aload_n 0, 1) := by decide +kernel
theorem dX2_begin_34 : decode cX2_begin 34 = .ok (.getfield 9, 3) := by decide +kernel
theorem dX2_begin_37 : decode cX2_begin 37 = .ok (.getfield 31, 3) := by decide +kernel
theorem dX2_begin_40 : decode cX2_begin 40 = .ok (.iload_n 2, 1) := by decide +kernel
theorem dX2_begin_41 : decode cX2_begin 41 = .ok (.iconst 5, 1) := by decide +kernel
theorem dX2_begin_42 : decode cX2_begin 42 = .ok (.invokevirtual 35, 3) := by decide +kernel
theorem dX2_begin_45 : decode cX2_begin 45 = .ok (.ifCond .ne 7, 3) := by decide +kernel
theorem dX2_begin_48 : decode cX2_begin 48 = .ok (.iconst 1, 1) := by decide +kernel
theorem dX2_begin_49 : decode cX2_begin 49 = .ok (.goto 4, 3) := by decide +kernel
theorem dX2_begin_52 : decode cX2_begin 52 = .ok (.iconst 0, 1) := by decide +kernel
theorem dX2_begin_53 : decode cX2_begin 53 = .ok (.bastore, 1) := by decide +kernel
theorem dX2_begin_54 : decode cX2_begin 54 = .ok (.iinc 2 1, 3) := by decide +kernel
theorem dX2_begin_57 : decode cX2_begin 57 = .ok (.goto (-43), 3) := by decide +kernel
theorem dX2_begin_60 : decode cX2_begin 60 = .ok (.aload_n 0, 1) := by decide +kernel
theorem dX2_begin_61 : decode cX2_begin 61 = .ok (.aload_n 0, 1) := by decide +kernel
theorem dX2_begin_62 : decode cX2_begin 62 = .ok (.getfield 9, 3) := by decide +kernel
theorem dX2_begin_65 : decode cX2_begin 65 = .ok (.getfield 19, 3) := by decide +kernel
theorem dX2_begin_68 : decode cX2_begin 68 = .ok (.iconst 3, 1) := by decide +kernel
theorem dX2_begin_69 : decode cX2_begin 69 = .ok (.invokevirtual 25, 3) := by decide +kernel
theorem dX2_begin_72 : decode cX2_begin 72 = .ok (.putfield 40, 3) := by decide +kernel
theorem dX2_begin_75 : decode cX2_begin 75 = .ok (.aload_n 0, 1) := by decide +kernel
theorem dX2_begin_76 : decode cX2_begin 76 = .ok (.aload_n 0, 1) := by decide +kernel
theorem dX2_begin_77 : decode cX2_begin 77 = .ok (.getfield 9, 3) := by decide +kernel
theorem dX2_begin_80 : decode cX2_begin 80 = .ok (.getfield 19, 3) := by decide +kernel
theorem dX2_begin_83 : decode cX2_begin 83 = .ok (.iconst 4, 1) := by decide +kernel
theorem dX2_begin_84 : decode cX2_begin 84 = .ok (.invokevirtual 25, 3) := by decide +kernel
theorem dX2_begin_87 : decode cX2_begin 87 = .ok (.putfield 44, 3) := by decide +kernel
theorem dX2_begin_90 : decode cX2_begin 90 = .ok (.return_, 1) := by decide +kernel
theorem dX2_lookAhead_0 : decode cX2_lookAhead 0 = .ok (.aload_n 0, 1) := by decide +kernel
theorem dX2_lookAhead_1 : decode cX2_lookAhead 1 = .ok (.invokevirtual 47, 3) := by decide +kernel
theorem dX2_lookAhead_4 : decode cX2_lookAhead 4 = .ok (.aload_n 0, 1) := by decide +kernel
theorem dX2_lookAhead_5 : decode cX2_lookAhead 5 = .ok (.aload_n 0, 1) := by decide +kernel
theorem dX2_lookAhead_6 : decode cX2_lookAhead 6 = .ok (.getfield 9, 3) := by decide +kernel
theorem dX2_lookAhead_9 : decode cX2_lookAhead 9 = .ok (.getfield 50, 3) := by decide +kernel
theorem dX2_lookAhead_12 : decode cX2_lookAhead 12 = .ok (.iconst 5, 1) := by decide +kernel
theorem dX2_lookAhead_13 : decode cX2_lookAhead 13 = .ok (.invokevirtual 25, 3) := by decide +kernel
theorem dX2_lookAhead_16 : decode cX2_lookAhead 16 = .ok (.invokevirtual 53, 3) := by decide +kernel
theorem dX2_lookAhead_19 : decode cX2_lookAhead 19 = .ok (.ireturn, 1) := by decide +kernel
theorem dX2_step_0 : decode cX2_step 0 = .ok (.aload_n 0, 1) := by decide +kernel
theorem dX2_step_1 : decode cX2_step 1 = .ok (.aload_n 0, 1) := by decide +kernel
theorem dX2_step_2 : decode cX2_step 2 = .ok (.iload_n 1, 1) := by decide +kernel
theorem dX2_step_3 : decode cX2_step 3 = .ok (.invokevirtual 57, 3) := by decide +kernel
theorem dX2_step_6 : decode cX2_step 6 = .ok (.putfield 60, 3) := by decide +kernel
theorem dX2_step_9 : decode cX2_step 9 = .ok (.aload_n 0, 1) := by decide +kernel
theorem dX2_step_10 : decode cX2_step 10 = .ok (.getfield 60, 3) := by decide +kernel
theorem dX2_step_13 : decode cX2_step 13 = .ok (.ifCond .lt 15, 3) := by decide +kernel
theorem dX2_step_16 : decode cX2_step 16 = .ok (.aload_n 0, 1) := by decide +kernel
theorem dX2_step_17 : decode cX2_step 17 = .ok (.getfield 60, 3) := by decide +kernel
theorem dX2_step_20 : decode cX2_step 20 = .ok (.aload_n 0, 1) := by decide +kernel
theorem dX2_step_21 : decode cX2_step 21 = .ok (.getfield 15, 3) := by decide +kernel
theorem dX2_step_24 : decode cX2_step 24 = .ok (.arraylength, 1) := by decide +kernel
theorem dX2_step_25 : decode cX2_step 25 = .ok (.if_icmp .lt 5, 3) := by decide +kernel
theorem dX2_step_28 : decode cX2_step 28 = .ok (.iconst 0, 1) := by decide +kernel
theorem dX2_step_29 : decode cX2_step 29 = .ok (.ireturn, 1) := by decide +kernel
theorem dX2_step_30 : decode cX2_step 30 = .ok (.aload_n 0, 1) := by decide +kernel
theorem dX2_step_31 : decode cX2_step 31 = .ok (.getfield 15, 3) := by decide +kernel
theorem dX2_step_34 : decode cX2_step 34 = .ok (.aload_n 0, 1) := by decide +kernel
theorem dX2_step_35 : decode cX2_step 35 = .ok (.getfield 60, 3) := by decide +kernel
theorem dX2_step_38 : decode cX2_step 38 = .ok (.iconst 0, 1) := by decide +kernel
theorem dX2_step_39 : decode cX2_step 39 = .ok (.bastore, 1) := by decide +kernel
theorem dX2_step_40 : decode cX2_step 40 = .ok (.aload_n 0, 1) := by decide +kernel
theorem dX2_step_41 : decode cX2_step 41 = .ok (.invokevirtual 63, 3) := by decide +kernel
theorem dX2_step_44 : decode cX2_step 44 = .ok (.aload_n 0, 1) := by decide +kernel
theorem dX2_step_45 : decode cX2_step 45 = .ok (.iload_n 1, 1) := by decide +kernel
theorem dX2_step_46 : decode cX2_step 46 = .ok (.invokevirtual 66, 3) := by decide +kernel
theorem dX2_step_49 : decode cX2_step 49 = .ok (.iconst 1, 1) := by decide +kernel
theorem dX2_step_50 : decode cX2_step 50 = .ok (.ireturn, 1) := by decide +kernel
theorem dX2_lotInTurn_0 : decode cX2_lotInTurn 0 = .ok (.iload_n 1, 1) := by decide +kernel
theorem dX2_lotInTurn_1 : decode cX2_lotInTurn 1 = .ok (.iconst 1, 1) := by decide +kernel
theorem dX2_lotInTurn_2 : decode cX2_lotInTurn 2 = .ok (.if_icmp .ne 57, 3) := by decide +kernel
theorem dX2_lotInTurn_5 : decode cX2_lotInTurn 5 = .ok (.aload_n 0, 1) := by decide +kernel
theorem dX2_lotInTurn_6 : decode cX2_lotInTurn 6 = .ok (.getfield 44, 3) := by decide +kernel
theorem dX2_lotInTurn_9 : decode cX2_lotInTurn 9 = .ok (.ifCond .le 50, 3) := by decide +kernel
theorem dX2_lotInTurn_12 : decode cX2_lotInTurn 12 = .ok (.iconst 0, 1) := by decide +kernel
theorem dX2_lotInTurn_13 : decode cX2_lotInTurn 13 = .ok (.istore_n 2, 1) := by decide +kernel
theorem dX2_lotInTurn_14 : decode cX2_lotInTurn 14 = .ok (.iload_n 2, 1) := by decide +kernel
theorem dX2_lotInTurn_15 : decode cX2_lotInTurn 15 = .ok (.aload_n 0, 1) := by decide +kernel
theorem dX2_lotInTurn_16 : decode cX2_lotInTurn 16 = .ok (.getfield 15, 3) := by decide +kernel
theorem dX2_lotInTurn_19 : decode cX2_lotInTurn 19 = .ok (.arraylength, 1) := by decide +kernel
theorem dX2_lotInTurn_20 : decode cX2_lotInTurn 20 = .ok (.if_icmp .ge 39, 3) := by decide +kernel
theorem dX2_lotInTurn_23 : decode cX2_lotInTurn 23 = .ok (.aload_n 0, 1) := by decide +kernel
theorem dX2_lotInTurn_24 : decode cX2_lotInTurn 24 = .ok (.getfield 15, 3) := by decide +kernel
theorem dX2_lotInTurn_27 : decode cX2_lotInTurn 27 = .ok (.iload_n 2, 1) := by decide +kernel
theorem dX2_lotInTurn_28 : decode cX2_lotInTurn 28 = .ok (.baload, 1) := by decide +kernel
theorem dX2_lotInTurn_29 : decode cX2_lotInTurn 29 = .ok (.ifCond .eq 24, 3) := by decide +kernel
theorem dX2_lotInTurn_32 : decode cX2_lotInTurn 32 = .ok (.aload_n 0, 1) := by decide +kernel
theorem dX2_lotInTurn_33 : decode cX2_lotInTurn 33 = .ok (.getfield 9, 3) := by decide +kernel
theorem dX2_lotInTurn_36 : decode cX2_lotInTurn 36 = .ok (.getfield 31, 3) := by decide +kernel
theorem dX2_lotInTurn_39 : decode cX2_lotInTurn 39 = .ok (.iload_n 2, 1) := by decide +kernel
theorem dX2_lotInTurn_40 : decode cX2_lotInTurn 40 = .ok (.iconst 1, 1) := by decide +kernel
theorem dX2_lotInTurn_41 : decode cX2_lotInTurn 41 = .ok (.invokevirtual 35, 3) := by decide +kernel
theorem dX2_lotInTurn_44 : decode cX2_lotInTurn 44 = .ok (.aload_n 0, 1) := by decide +kernel
theorem dX2_lotInTurn_45 : decode cX2_lotInTurn 45 = .ok (.getfield 40, 3) := by decide +kernel
theorem dX2_lotInTurn_48 : decode cX2_lotInTurn 48 = .ok (.if_icmp .ne 5, 3) := by decide +kernel
theorem dX2_lotInTurn_51 : decode cX2_lotInTurn 51 = .ok (.iload_n 2, 1) := by decide +kernel
theorem dX2_lotInTurn_52 : decode cX2_lotInTurn 52 = .ok (.ireturn, 1) := by decide +kernel
theorem dX2_lotInTurn_53 : decode cX2_lotInTurn 53 = .ok (.iinc 2 1, 3) := by decide +kernel
theorem dX2_lotInTurn_56 : decode cX2_lotInTurn 56 = .ok (.goto (-42), 3) := by decide +kernel
theorem dX2_lotInTurn_59 : decode cX2_lotInTurn 59 = .ok (.iconst 0, 1) := by decide +kernel
theorem dX2_lotInTurn_60 : decode cX2_lotInTurn 60 = .ok (.istore_n 2, 1) := by decide +kernel
theorem dX2_lotInTurn_61 : decode cX2_lotInTurn 61 = .ok (.iload_n 2, 1) := by decide +kernel
theorem dX2_lotInTurn_62 : decode cX2_lotInTurn 62 = .ok (.aload_n 0, 1) := by decide +kernel
theorem dX2_lotInTurn_63 : decode cX2_lotInTurn 63 = .ok (.getfield 15, 3) := by decide +kernel
theorem dX2_lotInTurn_66 : decode cX2_lotInTurn 66 = .ok (.arraylength, 1) := by decide +kernel
theorem dX2_lotInTurn_67 : decode cX2_lotInTurn 67 = .ok (.if_icmp .ge 20, 3) := by decide +kernel
theorem dX2_lotInTurn_70 : decode cX2_lotInTurn 70 = .ok (.aload_n 0, 1) := by decide +kernel
theorem dX2_lotInTurn_71 : decode cX2_lotInTurn 71 = .ok (.getfield 15, 3) := by decide +kernel
theorem dX2_lotInTurn_74 : decode cX2_lotInTurn 74 = .ok (.iload_n 2, 1) := by decide +kernel
theorem dX2_lotInTurn_75 : decode cX2_lotInTurn 75 = .ok (.baload, 1) := by decide +kernel
theorem dX2_lotInTurn_76 : decode cX2_lotInTurn 76 = .ok (.ifCond .eq 5, 3) := by decide +kernel
theorem dX2_lotInTurn_79 : decode cX2_lotInTurn 79 = .ok (.iload_n 2, 1) := by decide +kernel
theorem dX2_lotInTurn_80 : decode cX2_lotInTurn 80 = .ok (.ireturn, 1) := by decide +kernel
theorem dX2_lotInTurn_81 : decode cX2_lotInTurn 81 = .ok (.iinc 2 1, 3) := by decide +kernel
theorem dX2_lotInTurn_84 : decode cX2_lotInTurn 84 = .ok (.goto (-23), 3) := by decide +kernel
theorem dX2_lotInTurn_87 : decode cX2_lotInTurn 87 = .ok (.iconst (-1), 1) := by decide +kernel
theorem dX2_lotInTurn_88 : decode cX2_lotInTurn 88 = .ok (.ireturn, 1) := by decide +kernel
theorem dX2_weigh_0 : decode cX2_weigh 0 = .ok (.aload_n 0, 1) := by decide +kernel
theorem dX2_weigh_1 : decode cX2_weigh 1 = .ok (.getfield 9, 3) := by decide +kernel
theorem dX2_weigh_4 : decode cX2_weigh 4 = .ok (.getfield 70, 3) := by decide +kernel
theorem dX2_weigh_7 : decode cX2_weigh 7 = .ok (.aload_n 0, 1) := by decide +kernel
theorem dX2_weigh_8 : decode cX2_weigh 8 = .ok (.getfield 9, 3) := by decide +kernel
theorem dX2_weigh_11 : decode cX2_weigh 11 = .ok (.getfield 31, 3) := by decide +kernel
theorem dX2_weigh_14 : decode cX2_weigh 14 = .ok (.aload_n 0, 1) := by decide +kernel
theorem dX2_weigh_15 : decode cX2_weigh 15 = .ok (.getfield 60, 3) := by decide +kernel
theorem dX2_weigh_18 : decode cX2_weigh 18 = .ok (.iconst 1, 1) := by decide +kernel
theorem dX2_weigh_19 : decode cX2_weigh 19 = .ok (.invokevirtual 35, 3) := by decide +kernel
theorem dX2_weigh_22 : decode cX2_weigh 22 = .ok (.iconst 0, 1) := by decide +kernel
theorem dX2_weigh_23 : decode cX2_weigh 23 = .ok (.invokevirtual 35, 3) := by decide +kernel
theorem dX2_weigh_26 : decode cX2_weigh 26 = .ok (.istore_n 1, 1) := by decide +kernel
theorem dX2_weigh_27 : decode cX2_weigh 27 = .ok (.aload_n 0, 1) := by decide +kernel
theorem dX2_weigh_28 : decode cX2_weigh 28 = .ok (.aload_n 0, 1) := by decide +kernel
theorem dX2_weigh_29 : decode cX2_weigh 29 = .ok (.getfield 9, 3) := by decide +kernel
theorem dX2_weigh_32 : decode cX2_weigh 32 = .ok (.getfield 31, 3) := by decide +kernel
theorem dX2_weigh_35 : decode cX2_weigh 35 = .ok (.aload_n 0, 1) := by decide +kernel
theorem dX2_weigh_36 : decode cX2_weigh 36 = .ok (.getfield 60, 3) := by decide +kernel
theorem dX2_weigh_39 : decode cX2_weigh 39 = .ok (.iconst 2, 1) := by decide +kernel
theorem dX2_weigh_40 : decode cX2_weigh 40 = .ok (.invokevirtual 35, 3) := by decide +kernel
theorem dX2_weigh_43 : decode cX2_weigh 43 = .ok (.iload_n 1, 1) := by decide +kernel
theorem dX2_weigh_44 : decode cX2_weigh 44 = .ok (.imul, 1) := by decide +kernel
theorem dX2_weigh_45 : decode cX2_weigh 45 = .ok (.bipush 100, 2) := by decide +kernel
theorem dX2_weigh_47 : decode cX2_weigh 47 = .ok (.idiv, 1) := by decide +kernel
theorem dX2_weigh_48 : decode cX2_weigh 48 = .ok (.putfield 73, 3) := by decide +kernel
theorem dX2_weigh_51 : decode cX2_weigh 51 = .ok (.aload_n 0, 1) := by decide +kernel
theorem dX2_weigh_52 : decode cX2_weigh 52 = .ok (.aload_n 0, 1) := by decide +kernel
theorem dX2_weigh_53 : decode cX2_weigh 53 = .ok (.getfield 73, 3) := by decide +kernel
theorem dX2_weigh_56 : decode cX2_weigh 56 = .ok (.aload_n 0, 1) := by decide +kernel
theorem dX2_weigh_57 : decode cX2_weigh 57 = .ok (.getfield 9, 3) := by decide +kernel
theorem dX2_weigh_60 : decode cX2_weigh 60 = .ok (.getfield 31, 3) := by decide +kernel
theorem dX2_weigh_63 : decode cX2_weigh 63 = .ok (.aload_n 0, 1) := by decide +kernel
theorem dX2_weigh_64 : decode cX2_weigh 64 = .ok (.getfield 60, 3) := by decide +kernel
theorem dX2_weigh_67 : decode cX2_weigh 67 = .ok (.iconst 4, 1) := by decide +kernel
theorem dX2_weigh_68 : decode cX2_weigh 68 = .ok (.invokevirtual 35, 3) := by decide +kernel
theorem dX2_weigh_71 : decode cX2_weigh 71 = .ok (.imul, 1) := by decide +kernel
theorem dX2_weigh_72 : decode cX2_weigh 72 = .ok (.sipush 1000, 3) := by decide +kernel
theorem dX2_weigh_75 : decode cX2_weigh 75 = .ok (.idiv, 1) := by decide +kernel
theorem dX2_weigh_76 : decode cX2_weigh 76 = .ok (.putfield 76, 3) := by decide +kernel
theorem dX2_weigh_79 : decode cX2_weigh 79 = .ok (.aload_n 0, 1) := by decide +kernel
theorem dX2_weigh_80 : decode cX2_weigh 80 = .ok (.aload_n 0, 1) := by decide +kernel
theorem dX2_weigh_81 : decode cX2_weigh 81 = .ok (.getfield 76, 3) := by decide +kernel
theorem dX2_weigh_84 : decode cX2_weigh 84 = .ok (.aload_n 0, 1) := by decide +kernel
theorem dX2_weigh_85 : decode cX2_weigh 85 = .ok (.getfield 9, 3) := by decide +kernel
theorem dX2_weigh_88 : decode cX2_weigh 88 = .ok (.getfield 50, 3) := by decide +kernel
theorem dX2_weigh_91 : decode cX2_weigh 91 = .ok (.iconst 1, 1) := by decide +kernel
theorem dX2_weigh_92 : decode cX2_weigh 92 = .ok (.invokevirtual 25, 3) := by decide +kernel
theorem dX2_weigh_95 : decode cX2_weigh 95 = .ok (.imul, 1) := by decide +kernel
theorem dX2_weigh_96 : decode cX2_weigh 96 = .ok (.sipush 1000, 3) := by decide +kernel
theorem dX2_weigh_99 : decode cX2_weigh 99 = .ok (.idiv, 1) := by decide +kernel
theorem dX2_weigh_100 : decode cX2_weigh 100 = .ok (.putfield 79, 3) := by decide +kernel
theorem dX2_weigh_103 : decode cX2_weigh 103 = .ok (.return_, 1) := by decide +kernel
theorem dX2_passThroughMill_0 : decode cX2_passThroughMill 0 = .ok (.aload_n 0, 1) := by decide +kernel
theorem dX2_passThroughMill_1 : decode cX2_passThroughMill 1 = .ok (.getfield 9, 3) := by decide +kernel
theorem dX2_passThroughMill_4 : decode cX2_passThroughMill 4 = .ok (.getfield 31, 3) := by decide +kernel
theorem dX2_passThroughMill_7 : decode cX2_passThroughMill 7 = .ok (.aload_n 0, 1) := by decide +kernel
theorem dX2_passThroughMill_8 : decode cX2_passThroughMill 8 = .ok (.getfield 60, 3) := by decide +kernel
theorem dX2_passThroughMill_11 : decode cX2_passThroughMill 11 = .ok (.iconst 1, 1) := by decide +kernel
theorem dX2_passThroughMill_12 : decode cX2_passThroughMill 12 = .ok (.invokevirtual 35, 3) := by decide +kernel
theorem dX2_passThroughMill_15 : decode cX2_passThroughMill 15 = .ok (.istore_n 2, 1) := by decide +kernel
theorem dX2_passThroughMill_16 : decode cX2_passThroughMill 16 = .ok (.aload_n 0, 1) := by decide +kernel
theorem dX2_passThroughMill_17 : decode cX2_passThroughMill 17 = .ok (.getfield 40, 3) := by decide +kernel
theorem dX2_passThroughMill_20 : decode cX2_passThroughMill 20 = .ok (.iload_n 2, 1) := by decide +kernel
theorem dX2_passThroughMill_21 : decode cX2_passThroughMill 21 = .ok (.if_icmp .ne 7, 3) := by decide +kernel
theorem dX2_passThroughMill_24 : decode cX2_passThroughMill 24 = .ok (.iconst 0, 1) := by decide +kernel
theorem dX2_passThroughMill_25 : decode cX2_passThroughMill 25 = .ok (.goto 7, 3) := by decide +kernel
theorem dX2_passThroughMill_28 : decode cX2_passThroughMill 28 = .ok (.aload_n 0, 1) := by decide +kernel
theorem dX2_passThroughMill_29 : decode cX2_passThroughMill 29 = .ok (.getfield 44, 3) := by decide +kernel
theorem dX2_passThroughMill_32 : decode cX2_passThroughMill 32 = .ok (.istore_n 3, 1) := by decide +kernel
theorem dX2_passThroughMill_33 : decode cX2_passThroughMill 33 = .ok (.aload_n 0, 1) := by decide +kernel
theorem dX2_passThroughMill_34 : decode cX2_passThroughMill 34 = .ok (.getfield 79, 3) := by decide +kernel
theorem dX2_passThroughMill_37 : decode cX2_passThroughMill 37 = .ok (.aload_n 0, 1) := by decide +kernel
theorem dX2_passThroughMill_38 : decode cX2_passThroughMill 38 = .ok (.getfield 44, 3) := by decide +kernel
theorem dX2_passThroughMill_41 : decode cX2_passThroughMill 41 = .ok (.iadd, 1) := by decide +kernel
theorem dX2_passThroughMill_42 : decode cX2_passThroughMill 42 = .ok (.iload_n 3, 1) := by decide +kernel
theorem dX2_passThroughMill_43 : decode cX2_passThroughMill 43 = .ok (.isub, 1) := by decide +kernel
theorem dX2_passThroughMill_44 : decode cX2_passThroughMill 44 = .ok (.istore 4, 2) := by decide +kernel
theorem dX2_passThroughMill_46 : decode cX2_passThroughMill 46 = .ok (.aload_n 0, 1) := by decide +kernel
theorem dX2_passThroughMill_47 : decode cX2_passThroughMill 47 = .ok (.iload_n 1, 1) := by decide +kernel
theorem dX2_passThroughMill_48 : decode cX2_passThroughMill 48 = .ok (.iconst 2, 1) := by decide +kernel
theorem dX2_passThroughMill_49 : decode cX2_passThroughMill 49 = .ok (.if_icmp .ne 7, 3) := by decide +kernel
theorem dX2_passThroughMill_52 : decode cX2_passThroughMill 52 = .ok (.iconst 0, 1) := by decide +kernel
theorem dX2_passThroughMill_53 : decode cX2_passThroughMill 53 = .ok (.goto 4, 3) := by decide +kernel
theorem dX2_passThroughMill_56 : decode cX2_passThroughMill 56 = .ok (.iload_n 3, 1) := by decide +kernel
theorem dX2_passThroughMill_57 : decode cX2_passThroughMill 57 = .ok (.putfield 82, 3) := by decide +kernel
theorem dX2_passThroughMill_60 : decode cX2_passThroughMill 60 = .ok (.aload_n 0, 1) := by decide +kernel
theorem dX2_passThroughMill_61 : decode cX2_passThroughMill 61 = .ok (.iload_n 1, 1) := by decide +kernel
theorem dX2_passThroughMill_62 : decode cX2_passThroughMill 62 = .ok (.iconst 2, 1) := by decide +kernel
theorem dX2_passThroughMill_63 : decode cX2_passThroughMill 63 = .ok (.if_icmp .ne 7, 3) := by decide +kernel
theorem dX2_passThroughMill_66 : decode cX2_passThroughMill 66 = .ok (.iload_n 3, 1) := by decide +kernel
theorem dX2_passThroughMill_67 : decode cX2_passThroughMill 67 = .ok (.goto 4, 3) := by decide +kernel
theorem dX2_passThroughMill_70 : decode cX2_passThroughMill 70 = .ok (.iconst 0, 1) := by decide +kernel
theorem dX2_passThroughMill_71 : decode cX2_passThroughMill 71 = .ok (.putfield 85, 3) := by decide +kernel
theorem dX2_passThroughMill_74 : decode cX2_passThroughMill 74 = .ok (.aload_n 0, 1) := by decide +kernel
theorem dX2_passThroughMill_75 : decode cX2_passThroughMill 75 = .ok (.aload_n 0, 1) := by decide +kernel
theorem dX2_passThroughMill_76 : decode cX2_passThroughMill 76 = .ok (.getfield 40, 3) := by decide +kernel
theorem dX2_passThroughMill_79 : decode cX2_passThroughMill 79 = .ok (.putfield 88, 3) := by decide +kernel
theorem dX2_passThroughMill_82 : decode cX2_passThroughMill 82 = .ok (.aload_n 0, 1) := by decide +kernel
theorem dX2_passThroughMill_83 : decode cX2_passThroughMill 83 = .ok (.iload_n 2, 1) := by decide +kernel
theorem dX2_passThroughMill_84 : decode cX2_passThroughMill 84 = .ok (.putfield 40, 3) := by decide +kernel
theorem dX2_passThroughMill_87 : decode cX2_passThroughMill 87 = .ok (.aload_n 0, 1) := by decide +kernel
theorem dX2_passThroughMill_88 : decode cX2_passThroughMill 88 = .ok (.iload 4, 2) := by decide +kernel
theorem dX2_passThroughMill_90 : decode cX2_passThroughMill 90 = .ok (.aload_n 0, 1) := by decide +kernel
theorem dX2_passThroughMill_91 : decode cX2_passThroughMill 91 = .ok (.getfield 9, 3) := by decide +kernel
theorem dX2_passThroughMill_94 : decode cX2_passThroughMill 94 = .ok (.getfield 50, 3) := by decide +kernel
theorem dX2_passThroughMill_97 : decode cX2_passThroughMill 97 = .ok (.iconst 0, 1) := by decide +kernel
theorem dX2_passThroughMill_98 : decode cX2_passThroughMill 98 = .ok (.invokevirtual 25, 3) := by decide +kernel
theorem dX2_passThroughMill_101 : decode cX2_passThroughMill 101 = .ok (.invokestatic 91, 3) := by decide +kernel
theorem dX2_passThroughMill_104 : decode cX2_passThroughMill 104 = .ok (.putfield 44, 3) := by decide +kernel
theorem dX2_passThroughMill_107 : decode cX2_passThroughMill 107 = .ok (.aload_n 0, 1) := by decide +kernel
theorem dX2_passThroughMill_108 : decode cX2_passThroughMill 108 = .ok (.aload_n 0, 1) := by decide +kernel
theorem dX2_passThroughMill_109 : decode cX2_passThroughMill 109 = .ok (.getfield 85, 3) := by decide +kernel
theorem dX2_passThroughMill_112 : decode cX2_passThroughMill 112 = .ok (.iload 4, 2) := by decide +kernel
theorem dX2_passThroughMill_114 : decode cX2_passThroughMill 114 = .ok (.iadd, 1) := by decide +kernel
theorem dX2_passThroughMill_115 : decode cX2_passThroughMill 115 = .ok (.aload_n 0, 1) := by decide +kernel
theorem dX2_passThroughMill_116 : decode cX2_passThroughMill 116 = .ok (.getfield 44, 3) := by decide +kernel
theorem dX2_passThroughMill_119 : decode cX2_passThroughMill 119 = .ok (.isub, 1) := by decide +kernel
theorem dX2_passThroughMill_120 : decode cX2_passThroughMill 120 = .ok (.putfield 96, 3) := by decide +kernel
theorem dX2_passThroughMill_123 : decode cX2_passThroughMill 123 = .ok (.return_, 1) := by decide +kernel
theorem dX3_init_0 : decode cX3_init 0 = .ok (.aload_n 0, 1) := by decide +kernel
theorem dX3_init_1 : decode cX3_init 1 = .ok (.invokespecial 1, 3) := by decide +kernel
theorem dX3_init_4 : decode cX3_init 4 = .ok (.aload_n 0, 1) := by decide +kernel
theorem dX3_init_5 : decode cX3_init 5 = .ok (.aload_n 1, 1) := by decide +kernel
theorem dX3_init_6 : decode cX3_init 6 = .ok (.putfield 7, 3) := by decide +kernel
theorem dX3_init_9 : decode cX3_init 9 = .ok (.aload_n 0, 1) := by decide +kernel
theorem dX3_init_10 : decode cX3_init 10 = .ok (.iload_n 2, 1) := by decide +kernel
theorem dX3_init_11 : decode cX3_init 11 = .ok (.putfield 13, 3) := by decide +kernel
theorem dX3_init_14 : decode cX3_init 14 = .ok (.return_, 1) := by decide +kernel
theorem dX3_get_0 : decode cX3_get 0 = .ok (.aload_n 0, 1) := by decide +kernel
theorem dX3_get_1 : decode cX3_get 1 = .ok (.getfield 13, 3) := by decide +kernel
theorem dX3_get_4 : decode cX3_get 4 = .ok (.iload_n 1, 1) := by decide +kernel
theorem dX3_get_5 : decode cX3_get 5 = .ok (.iadd, 1) := by decide +kernel
theorem dX3_get_6 : decode cX3_get 6 = .ok (.istore_n 2, 1) := by decide +kernel
theorem dX3_get_7 : decode cX3_get 7 = .ok (.iload_n 2, 1) := by decide +kernel
theorem dX3_get_8 : decode cX3_get 8 = .ok (.ifCond .lt 21, 3) := by decide +kernel
theorem dX3_get_11 : decode cX3_get 11 = .ok (.iload_n 2, 1) := by decide +kernel
theorem dX3_get_12 : decode cX3_get 12 = .ok (.aload_n 0, 1) := by decide +kernel
theorem dX3_get_13 : decode cX3_get 13 = .ok (.getfield 7, 3) := by decide +kernel
theorem dX3_get_16 : decode cX3_get 16 = .ok (.arraylength, 1) := by decide +kernel
theorem dX3_get_17 : decode cX3_get 17 = .ok (.if_icmp .ge 12, 3) := by decide +kernel
theorem dX3_get_20 : decode cX3_get 20 = .ok (.aload_n 0, 1) := by decide +kernel
theorem dX3_get_21 : decode cX3_get 21 = .ok (.getfield 7, 3) := by decide +kernel
theorem dX3_get_24 : decode cX3_get 24 = .ok (.iload_n 2, 1) := by decide +kernel
theorem dX3_get_25 : decode cX3_get 25 = .ok (.iaload, 1) := by decide +kernel
theorem dX3_get_26 : decode cX3_get 26 = .ok (.goto 4, 3) := by decide +kernel
theorem dX3_get_29 : decode cX3_get 29 = .ok (.iconst 0, 1) := by decide +kernel
theorem dX3_get_30 : decode cX3_get 30 = .ok (.ireturn, 1) := by decide +kernel
theorem dX3_put_0 : decode cX3_put 0 = .ok (.aload_n 0, 1) := by decide +kernel
theorem dX3_put_1 : decode cX3_put 1 = .ok (.getfield 13, 3) := by decide +kernel
theorem dX3_put_4 : decode cX3_put 4 = .ok (.iload_n 1, 1) := by decide +kernel
theorem dX3_put_5 : decode cX3_put 5 = .ok (.iadd, 1) := by decide +kernel
theorem dX3_put_6 : decode cX3_put 6 = .ok (.istore_n 3, 1) := by decide +kernel
theorem dX3_put_7 : decode cX3_put 7 = .ok (.iload_n 3, 1) := by decide +kernel
theorem dX3_put_8 : decode cX3_put 8 = .ok (.ifCond .lt 19, 3) := by decide +kernel
theorem dX3_put_11 : decode cX3_put 11 = .ok (.iload_n 3, 1) := by decide +kernel
theorem dX3_put_12 : decode cX3_put 12 = .ok (.aload_n 0, 1) := by decide +kernel
theorem dX3_put_13 : decode cX3_put 13 = .ok (.getfield 7, 3) := by decide +kernel
theorem dX3_put_16 : decode cX3_put 16 = .ok (.arraylength, 1) := by decide +kernel
theorem dX3_put_17 : decode cX3_put 17 = .ok (.if_icmp .ge 10, 3) := by decide +kernel
theorem dX3_put_20 : decode cX3_put 20 = .ok (.aload_n 0, 1) := by decide +kernel
theorem dX3_put_21 : decode cX3_put 21 = .ok (.getfield 7, 3) := by decide +kernel
theorem dX3_put_24 : decode cX3_put 24 = .ok (.iload_n 3, 1) := by decide +kernel
theorem dX3_put_25 : decode cX3_put 25 = .ok (.iload_n 2, 1) := by decide +kernel
theorem dX3_put_26 : decode cX3_put 26 = .ok (.iastore, 1) := by decide +kernel
theorem dX3_put_27 : decode cX3_put 27 = .ok (.return_, 1) := by decide +kernel
theorem dX3_add_0 : decode cX3_add 0 = .ok (.aload_n 0, 1) := by decide +kernel
theorem dX3_add_1 : decode cX3_add 1 = .ok (.iload_n 1, 1) := by decide +kernel
theorem dX3_add_2 : decode cX3_add 2 = .ok (.aload_n 0, 1) := by decide +kernel
theorem dX3_add_3 : decode cX3_add 3 = .ok (.iload_n 1, 1) := by decide +kernel
theorem dX3_add_4 : decode cX3_add 4 = .ok (.invokevirtual 17, 3) := by decide +kernel
theorem dX3_add_7 : decode cX3_add 7 = .ok (.iload_n 2, 1) := by decide +kernel
theorem dX3_add_8 : decode cX3_add 8 = .ok (.iadd, 1) := by decide +kernel
theorem dX3_add_9 : decode cX3_add 9 = .ok (.invokevirtual 21, 3) := by decide +kernel
theorem dX3_add_12 : decode cX3_add 12 = .ok (.return_, 1) := by decide +kernel
theorem dX4_init_0 : decode cX4_init 0 = .ok (.aload_n 0, 1) := by decide +kernel
theorem dX4_init_1 : decode cX4_init 1 = .ok (.invokespecial 3, 3) := by decide +kernel
theorem dX4_init_4 : decode cX4_init 4 = .ok (.return_, 1) := by decide +kernel
theorem dX4_restart_0 : decode cX4_restart 0 = .ok (.aload_n 0, 1) := by decide +kernel
theorem dX4_restart_1 : decode cX4_restart 1 = .ok (.iconst 0, 1) := by decide +kernel
theorem dX4_restart_2 : decode cX4_restart 2 = .ok (.putfield 11, 3) := by decide +kernel
theorem dX4_restart_5 : decode cX4_restart 5 = .ok (.return_, 1) := by decide +kernel
theorem dX4_reads_0 : decode cX4_reads 0 = .ok (.aload_n 0, 1) := by decide +kernel
theorem dX4_reads_1 : decode cX4_reads 1 = .ok (.getfield 11, 3) := by decide +kernel
theorem dX4_reads_4 : decode cX4_reads 4 = .ok (.ifCond .ne 9, 3) := by decide +kernel
theorem dX4_reads_7 : decode cX4_reads 7 = .ok (.aload_n 0, 1) := by decide +kernel
theorem dX4_reads_8 : decode cX4_reads 8 = .ok (.iload_n 1, 1) := by decide +kernel
theorem dX4_reads_9 : decode cX4_reads 9 = .ok (.invokevirtual 15, 3) := by decide +kernel
theorem dX4_reads_12 : decode cX4_reads 12 = .ok (.ireturn, 1) := by decide +kernel
theorem dX4_reads_13 : decode cX4_reads 13 = .ok (.aload_n 0, 1) := by decide +kernel
theorem dX4_reads_14 : decode cX4_reads 14 = .ok (.getfield 11, 3) := by decide +kernel
theorem dX4_reads_17 : decode cX4_reads 17 = .ok (.iconst 1, 1) := by decide +kernel
theorem dX4_reads_18 : decode cX4_reads 18 = .ok (.if_icmp .ne 9, 3) := by decide +kernel
theorem dX4_reads_21 : decode cX4_reads 21 = .ok (.aload_n 0, 1) := by decide +kernel
theorem dX4_reads_22 : decode cX4_reads 22 = .ok (.iload_n 1, 1) := by decide +kernel
theorem dX4_reads_23 : decode cX4_reads 23 = .ok (.invokevirtual 19, 3) := by decide +kernel
theorem dX4_reads_26 : decode cX4_reads 26 = .ok (.ireturn, 1) := by decide +kernel
theorem dX4_reads_27 : decode cX4_reads 27 = .ok (.iload_n 1, 1) := by decide +kernel
theorem dX4_reads_28 : decode cX4_reads 28 = .ok (.bipush 48, 2) := by decide +kernel
theorem dX4_reads_30 : decode cX4_reads 30 = .ok (.if_icmp .lt 18, 3) := by decide +kernel
theorem dX4_reads_33 : decode cX4_reads 33 = .ok (.iload_n 1, 1) := by decide +kernel
theorem dX4_reads_34 : decode cX4_reads 34 = .ok (.bipush 57, 2) := by decide +kernel
theorem dX4_reads_36 : decode cX4_reads 36 = .ok (.if_icmp .gt 12, 3) := by decide +kernel
theorem dX4_reads_39 : decode cX4_reads 39 = .ok (.aload_n 0, 1) := by decide +kernel
theorem dX4_reads_40 : decode cX4_reads 40 = .ok (.iload_n 1, 1) := by decide +kernel
theorem dX4_reads_41 : decode cX4_reads 41 = .ok (.bipush 48, 2) := by decide +kernel
theorem dX4_reads_43 : decode cX4_reads 43 = .ok (.isub, 1) := by decide +kernel
theorem dX4_reads_44 : decode cX4_reads 44 = .ok (.invokevirtual 22, 3) := by decide +kernel
theorem dX4_reads_47 : decode cX4_reads 47 = .ok (.ireturn, 1) := by decide +kernel
theorem dX4_reads_48 : decode cX4_reads 48 = .ok (.aload_n 0, 1) := by decide +kernel
theorem dX4_reads_49 : decode cX4_reads 49 = .ok (.invokevirtual 25, 3) := by decide +kernel
theorem dX4_reads_52 : decode cX4_reads 52 = .ok (.ifCond .eq 15, 3) := by decide +kernel
theorem dX4_reads_55 : decode cX4_reads 55 = .ok (.aload_n 0, 1) := by decide +kernel
theorem dX4_reads_56 : decode cX4_reads 56 = .ok (.iload_n 1, 1) := by decide +kernel
theorem dX4_reads_57 : decode cX4_reads 57 = .ok (.invokevirtual 29, 3) := by decide +kernel
theorem dX4_reads_60 : decode cX4_reads 60 = .ok (.ifCond .eq 7, 3) := by decide +kernel
theorem dX4_reads_63 : decode cX4_reads 63 = .ok (.iconst 1, 1) := by decide +kernel
theorem dX4_reads_64 : decode cX4_reads 64 = .ok (.goto 4, 3) := by decide +kernel
theorem dX4_reads_67 : decode cX4_reads 67 = .ok (.iconst 0, 1) := by decide +kernel
theorem dX4_reads_68 : decode cX4_reads 68 = .ok (.ireturn, 1) := by decide +kernel
theorem dX4_canEnd_0 : decode cX4_canEnd 0 = .ok (.aload_n 0, 1) := by decide +kernel
theorem dX4_canEnd_1 : decode cX4_canEnd 1 = .ok (.getfield 11, 3) := by decide +kernel
theorem dX4_canEnd_4 : decode cX4_canEnd 4 = .ok (.iconst 3, 1) := by decide +kernel
theorem dX4_canEnd_5 : decode cX4_canEnd 5 = .ok (.if_icmp .eq 11, 3) := by decide +kernel
theorem dX4_canEnd_8 : decode cX4_canEnd 8 = .ok (.aload_n 0, 1) := by decide +kernel
theorem dX4_canEnd_9 : decode cX4_canEnd 9 = .ok (.getfield 11, 3) := by decide +kernel
theorem dX4_canEnd_12 : decode cX4_canEnd 12 = .ok (.iconst 4, 1) := by decide +kernel
theorem dX4_canEnd_13 : decode cX4_canEnd 13 = .ok (.if_icmp .ne 14, 3) := by decide +kernel
theorem dX4_canEnd_16 : decode cX4_canEnd 16 = .ok (.aload_n 0, 1) := by decide +kernel
theorem dX4_canEnd_17 : decode cX4_canEnd 17 = .ok (.invokevirtual 25, 3) := by decide +kernel
theorem dX4_canEnd_20 : decode cX4_canEnd 20 = .ok (.ifCond .eq 7, 3) := by decide +kernel
theorem dX4_canEnd_23 : decode cX4_canEnd 23 = .ok (.iconst 1, 1) := by decide +kernel
theorem dX4_canEnd_24 : decode cX4_canEnd 24 = .ok (.goto 4, 3) := by decide +kernel
theorem dX4_canEnd_27 : decode cX4_canEnd 27 = .ok (.iconst 0, 1) := by decide +kernel
theorem dX4_canEnd_28 : decode cX4_canEnd 28 = .ok (.ireturn, 1) := by decide +kernel
theorem dX4_acidity_0 : decode cX4_acidity 0 = .ok (.aload_n 0, 1) := by decide +kernel
theorem dX4_acidity_1 : decode cX4_acidity 1 = .ok (.getfield 11, 3) := by decide +kernel
theorem dX4_acidity_4 : decode cX4_acidity 4 = .ok (.iconst 4, 1) := by decide +kernel
theorem dX4_acidity_5 : decode cX4_acidity 5 = .ok (.if_icmp .ne 10, 3) := by decide +kernel
theorem dX4_acidity_8 : decode cX4_acidity 8 = .ok (.aload_n 0, 1) := by decide +kernel
theorem dX4_acidity_9 : decode cX4_acidity 9 = .ok (.getfield 32, 3) := by decide +kernel
theorem dX4_acidity_12 : decode cX4_acidity 12 = .ok (.goto 7, 3) := by decide +kernel
theorem dX4_acidity_15 : decode cX4_acidity 15 = .ok (.aload_n 0, 1) := by decide +kernel
theorem dX4_acidity_16 : decode cX4_acidity 16 = .ok (.getfield 35, 3) := by decide +kernel
theorem dX4_acidity_19 : decode cX4_acidity 19 = .ok (.ireturn, 1) := by decide +kernel
theorem dX4_truth_0 : decode cX4_truth 0 = .ok (.aload_n 0, 1) := by decide +kernel
theorem dX4_truth_1 : decode cX4_truth 1 = .ok (.getfield 11, 3) := by decide +kernel
theorem dX4_truth_4 : decode cX4_truth 4 = .ok (.iconst 4, 1) := by decide +kernel
theorem dX4_truth_5 : decode cX4_truth 5 = .ok (.if_icmp .ne 10, 3) := by decide +kernel
theorem dX4_truth_8 : decode cX4_truth 8 = .ok (.aload_n 0, 1) := by decide +kernel
theorem dX4_truth_9 : decode cX4_truth 9 = .ok (.getfield 35, 3) := by decide +kernel
theorem dX4_truth_12 : decode cX4_truth 12 = .ok (.goto 6, 3) := by decide +kernel
theorem dX4_truth_15 : decode cX4_truth 15 = .ok (.sipush 1000, 3) := by decide +kernel
theorem dX4_truth_18 : decode cX4_truth 18 = .ok (.ireturn, 1) := by decide +kernel
theorem dX4_readsGrower_0 : decode cX4_readsGrower 0 = .ok (.aload_n 0, 1) := by decide +kernel
theorem dX4_readsGrower_1 : decode cX4_readsGrower 1 = .ok (.iload_n 1, 1) := by decide +kernel
theorem dX4_readsGrower_2 : decode cX4_readsGrower 2 = .ok (.bipush 48, 2) := by decide +kernel
theorem dX4_readsGrower_4 : decode cX4_readsGrower 4 = .ok (.isub, 1) := by decide +kernel
theorem dX4_readsGrower_5 : decode cX4_readsGrower 5 = .ok (.putfield 38, 3) := by decide +kernel
theorem dX4_readsGrower_8 : decode cX4_readsGrower 8 = .ok (.aload_n 0, 1) := by decide +kernel
theorem dX4_readsGrower_9 : decode cX4_readsGrower 9 = .ok (.iconst 1, 1) := by decide +kernel
theorem dX4_readsGrower_10 : decode cX4_readsGrower 10 = .ok (.putfield 11, 3) := by decide +kernel
theorem dX4_readsGrower_13 : decode cX4_readsGrower 13 = .ok (.aload_n 0, 1) := by decide +kernel
theorem dX4_readsGrower_14 : decode cX4_readsGrower 14 = .ok (.getfield 38, 3) := by decide +kernel
theorem dX4_readsGrower_17 : decode cX4_readsGrower 17 = .ok (.ifCond .lt 16, 3) := by decide +kernel
theorem dX4_readsGrower_20 : decode cX4_readsGrower 20 = .ok (.aload_n 0, 1) := by decide +kernel
theorem dX4_readsGrower_21 : decode cX4_readsGrower 21 = .ok (.getfield 38, 3) := by decide +kernel
theorem dX4_readsGrower_24 : decode cX4_readsGrower 24 = .ok (.bipush 8, 2) := by decide +kernel
theorem dX4_readsGrower_26 : decode cX4_readsGrower 26 = .ok (.if_icmp .ge 7, 3) := by decide +kernel
theorem dX4_readsGrower_29 : decode cX4_readsGrower 29 = .ok (.iconst 1, 1) := by decide +kernel
theorem dX4_readsGrower_30 : decode cX4_readsGrower 30 = .ok (.goto 4, 3) := by decide +kernel
theorem dX4_readsGrower_33 : decode cX4_readsGrower 33 = .ok (.iconst 0, 1) := by decide +kernel
theorem dX4_readsGrower_34 : decode cX4_readsGrower 34 = .ok (.ireturn, 1) := by decide +kernel
theorem dX4_readsVariety_0 : decode cX4_readsVariety 0 = .ok (.aload_n 0, 1) := by decide +kernel
theorem dX4_readsVariety_1 : decode cX4_readsVariety 1 = .ok (.iload_n 1, 1) := by decide +kernel
theorem dX4_readsVariety_2 : decode cX4_readsVariety 2 = .ok (.bipush 97, 2) := by decide +kernel
theorem dX4_readsVariety_4 : decode cX4_readsVariety 4 = .ok (.isub, 1) := by decide +kernel
theorem dX4_readsVariety_5 : decode cX4_readsVariety 5 = .ok (.putfield 41, 3) := by decide +kernel
theorem dX4_readsVariety_8 : decode cX4_readsVariety 8 = .ok (.aload_n 0, 1) := by decide +kernel
theorem dX4_readsVariety_9 : decode cX4_readsVariety 9 = .ok (.iconst 2, 1) := by decide +kernel
theorem dX4_readsVariety_10 : decode cX4_readsVariety 10 = .ok (.iconst 1, 1) := by decide +kernel
theorem dX4_readsVariety_11 : decode cX4_readsVariety 11 = .ok (.sipush 2000, 3) := by decide +kernel
theorem dX4_readsVariety_14 : decode cX4_readsVariety 14 = .ok (.invokevirtual 44, 3) := by decide +kernel
theorem dX4_readsVariety_17 : decode cX4_readsVariety 17 = .ok (.aload_n 0, 1) := by decide +kernel
theorem dX4_readsVariety_18 : decode cX4_readsVariety 18 = .ok (.getfield 41, 3) := by decide +kernel
theorem dX4_readsVariety_21 : decode cX4_readsVariety 21 = .ok (.invokestatic 48, 3) := by decide +kernel
theorem dX4_readsVariety_24 : decode cX4_readsVariety 24 = .ok (.ireturn, 1) := by decide +kernel
theorem dX4_readsDigit_0 : decode cX4_readsDigit 0 = .ok (.aload_n 0, 1) := by decide +kernel
theorem dX4_readsDigit_1 : decode cX4_readsDigit 1 = .ok (.getfield 51, 3) := by decide +kernel
theorem dX4_readsDigit_4 : decode cX4_readsDigit 4 = .ok (.ifCond .eq 12, 3) := by decide +kernel
theorem dX4_readsDigit_7 : decode cX4_readsDigit 7 = .ok (.aload_n 0, 1) := by decide +kernel
theorem dX4_readsDigit_8 : decode cX4_readsDigit 8 = .ok (.getfield 35, 3) := by decide +kernel
theorem dX4_readsDigit_11 : decode cX4_readsDigit 11 = .ok (.ifCond .ne 5, 3) := by decide +kernel
theorem dX4_readsDigit_14 : decode cX4_readsDigit 14 = .ok (.iconst 0, 1) := by decide +kernel
theorem dX4_readsDigit_15 : decode cX4_readsDigit 15 = .ok (.ireturn, 1) := by decide +kernel
theorem dX4_readsDigit_16 : decode cX4_readsDigit 16 = .ok (.aload_n 0, 1) := by decide +kernel
theorem dX4_readsDigit_17 : decode cX4_readsDigit 17 = .ok (.aload_n 0, 1) := by decide +kernel
theorem dX4_readsDigit_18 : decode cX4_readsDigit 18 = .ok (.getfield 35, 3) := by decide +kernel
theorem dX4_readsDigit_21 : decode cX4_readsDigit 21 = .ok (.bipush 10, 2) := by decide +kernel
theorem dX4_readsDigit_23 : decode cX4_readsDigit 23 = .ok (.imul, 1) := by decide +kernel
theorem dX4_readsDigit_24 : decode cX4_readsDigit 24 = .ok (.iload_n 1, 1) := by decide +kernel
theorem dX4_readsDigit_25 : decode cX4_readsDigit 25 = .ok (.iadd, 1) := by decide +kernel
theorem dX4_readsDigit_26 : decode cX4_readsDigit 26 = .ok (.putfield 35, 3) := by decide +kernel
theorem dX4_readsDigit_29 : decode cX4_readsDigit 29 = .ok (.aload_n 0, 1) := by decide +kernel
theorem dX4_readsDigit_30 : decode cX4_readsDigit 30 = .ok (.iconst 1, 1) := by decide +kernel
theorem dX4_readsDigit_31 : decode cX4_readsDigit 31 = .ok (.putfield 51, 3) := by decide +kernel
theorem dX4_readsDigit_34 : decode cX4_readsDigit 34 = .ok (.aload_n 0, 1) := by decide +kernel
theorem dX4_readsDigit_35 : decode cX4_readsDigit 35 = .ok (.invokevirtual 55, 3) := by decide +kernel
theorem dX4_readsDigit_38 : decode cX4_readsDigit 38 = .ok (.ireturn, 1) := by decide +kernel
theorem dX4_readsSign_0 : decode cX4_readsSign 0 = .ok (.aload_n 0, 1) := by decide +kernel
theorem dX4_readsSign_1 : decode cX4_readsSign 1 = .ok (.getfield 11, 3) := by decide +kernel
theorem dX4_readsSign_4 : decode cX4_readsSign 4 = .ok (.iconst 2, 1) := by decide +kernel
theorem dX4_readsSign_5 : decode cX4_readsSign 5 = .ok (.if_icmp .ne 27, 3) := by decide +kernel
theorem dX4_readsSign_8 : decode cX4_readsSign 8 = .ok (.iload_n 1, 1) := by decide +kernel
theorem dX4_readsSign_9 : decode cX4_readsSign 9 = .ok (.bipush 47, 2) := by decide +kernel
theorem dX4_readsSign_11 : decode cX4_readsSign 11 = .ok (.if_icmp .ne 21, 3) := by decide +kernel
theorem dX4_readsSign_14 : decode cX4_readsSign 14 = .ok (.aload_n 0, 1) := by decide +kernel
theorem dX4_readsSign_15 : decode cX4_readsSign 15 = .ok (.aload_n 0, 1) := by decide +kernel
theorem dX4_readsSign_16 : decode cX4_readsSign 16 = .ok (.getfield 35, 3) := by decide +kernel
theorem dX4_readsSign_19 : decode cX4_readsSign 19 = .ok (.putfield 58, 3) := by decide +kernel
theorem dX4_readsSign_22 : decode cX4_readsSign 22 = .ok (.aload_n 0, 1) := by decide +kernel
theorem dX4_readsSign_23 : decode cX4_readsSign 23 = .ok (.iconst 3, 1) := by decide +kernel
theorem dX4_readsSign_24 : decode cX4_readsSign 24 = .ok (.iconst 0, 1) := by decide +kernel
theorem dX4_readsSign_25 : decode cX4_readsSign 25 = .ok (.bipush 50, 2) := by decide +kernel
theorem dX4_readsSign_27 : decode cX4_readsSign 27 = .ok (.invokevirtual 44, 3) := by decide +kernel
theorem dX4_readsSign_30 : decode cX4_readsSign 30 = .ok (.iconst 1, 1) := by decide +kernel
theorem dX4_readsSign_31 : decode cX4_readsSign 31 = .ok (.ireturn, 1) := by decide +kernel
theorem dX4_readsSign_32 : decode cX4_readsSign 32 = .ok (.aload_n 0, 1) := by decide +kernel
theorem dX4_readsSign_33 : decode cX4_readsSign 33 = .ok (.getfield 11, 3) := by decide +kernel
theorem dX4_readsSign_36 : decode cX4_readsSign 36 = .ok (.iconst 3, 1) := by decide +kernel
theorem dX4_readsSign_37 : decode cX4_readsSign 37 = .ok (.if_icmp .ne 30, 3) := by decide +kernel
theorem dX4_readsSign_40 : decode cX4_readsSign 40 = .ok (.iload_n 1, 1) := by decide +kernel
theorem dX4_readsSign_41 : decode cX4_readsSign 41 = .ok (.bipush 42, 2) := by decide +kernel
theorem dX4_readsSign_43 : decode cX4_readsSign 43 = .ok (.if_icmp .ne 24, 3) := by decide +kernel
theorem dX4_readsSign_46 : decode cX4_readsSign 46 = .ok (.aload_n 0, 1) := by decide +kernel
theorem dX4_readsSign_47 : decode cX4_readsSign 47 = .ok (.aload_n 0, 1) := by decide +kernel
theorem dX4_readsSign_48 : decode cX4_readsSign 48 = .ok (.getfield 35, 3) := by decide +kernel
theorem dX4_readsSign_51 : decode cX4_readsSign 51 = .ok (.putfield 32, 3) := by decide +kernel
theorem dX4_readsSign_54 : decode cX4_readsSign 54 = .ok (.aload_n 0, 1) := by decide +kernel
theorem dX4_readsSign_55 : decode cX4_readsSign 55 = .ok (.iconst 4, 1) := by decide +kernel
theorem dX4_readsSign_56 : decode cX4_readsSign 56 = .ok (.sipush 500, 3) := by decide +kernel
theorem dX4_readsSign_59 : decode cX4_readsSign 59 = .ok (.sipush 1500, 3) := by decide +kernel
theorem dX4_readsSign_62 : decode cX4_readsSign 62 = .ok (.invokevirtual 44, 3) := by decide +kernel
theorem dX4_readsSign_65 : decode cX4_readsSign 65 = .ok (.iconst 1, 1) := by decide +kernel
theorem dX4_readsSign_66 : decode cX4_readsSign 66 = .ok (.ireturn, 1) := by decide +kernel
theorem dX4_readsSign_67 : decode cX4_readsSign 67 = .ok (.aload_n 0, 1) := by decide +kernel
theorem dX4_readsSign_68 : decode cX4_readsSign 68 = .ok (.getfield 11, 3) := by decide +kernel
theorem dX4_readsSign_71 : decode cX4_readsSign 71 = .ok (.iconst 2, 1) := by decide +kernel
theorem dX4_readsSign_72 : decode cX4_readsSign 72 = .ok (.if_icmp .eq 16, 3) := by decide +kernel
theorem dX4_readsSign_75 : decode cX4_readsSign 75 = .ok (.iload_n 1, 1) := by decide +kernel
theorem dX4_readsSign_76 : decode cX4_readsSign 76 = .ok (.bipush 59, 2) := by decide +kernel
theorem dX4_readsSign_78 : decode cX4_readsSign 78 = .ok (.if_icmp .ne 10, 3) := by decide +kernel
theorem dX4_readsSign_81 : decode cX4_readsSign 81 = .ok (.aload_n 0, 1) := by decide +kernel
theorem dX4_readsSign_82 : decode cX4_readsSign 82 = .ok (.iconst 0, 1) := by decide +kernel
theorem dX4_readsSign_83 : decode cX4_readsSign 83 = .ok (.putfield 11, 3) := by decide +kernel
theorem dX4_readsSign_86 : decode cX4_readsSign 86 = .ok (.iconst 1, 1) := by decide +kernel
theorem dX4_readsSign_87 : decode cX4_readsSign 87 = .ok (.ireturn, 1) := by decide +kernel
theorem dX4_readsSign_88 : decode cX4_readsSign 88 = .ok (.iconst 0, 1) := by decide +kernel
theorem dX4_readsSign_89 : decode cX4_readsSign 89 = .ok (.ireturn, 1) := by decide +kernel
theorem dX4_beginNumber_0 : decode cX4_beginNumber 0 = .ok (.aload_n 0, 1) := by decide +kernel
theorem dX4_beginNumber_1 : decode cX4_beginNumber 1 = .ok (.iload_n 1, 1) := by decide +kernel
theorem dX4_beginNumber_2 : decode cX4_beginNumber 2 = .ok (.putfield 11, 3) := by decide +kernel
theorem dX4_beginNumber_5 : decode cX4_beginNumber 5 = .ok (.aload_n 0, 1) := by decide +kernel
theorem dX4_beginNumber_6 : decode cX4_beginNumber 6 = .ok (.iload_n 2, 1) := by decide +kernel
theorem dX4_beginNumber_7 : decode cX4_beginNumber 7 = .ok (.putfield 61, 3) := by decide +kernel
theorem dX4_beginNumber_10 : decode cX4_beginNumber 10 = .ok (.aload_n 0, 1) := by decide +kernel
theorem dX4_beginNumber_11 : decode cX4_beginNumber 11 = .ok (.iload_n 3, 1) := by decide +kernel
theorem dX4_beginNumber_12 : decode cX4_beginNumber 12 = .ok (.putfield 64, 3) := by decide +kernel
theorem dX4_beginNumber_15 : decode cX4_beginNumber 15 = .ok (.aload_n 0, 1) := by decide +kernel
theorem dX4_beginNumber_16 : decode cX4_beginNumber 16 = .ok (.iconst 0, 1) := by decide +kernel
theorem dX4_beginNumber_17 : decode cX4_beginNumber 17 = .ok (.putfield 35, 3) := by decide +kernel
theorem dX4_beginNumber_20 : decode cX4_beginNumber 20 = .ok (.aload_n 0, 1) := by decide +kernel
theorem dX4_beginNumber_21 : decode cX4_beginNumber 21 = .ok (.iconst 0, 1) := by decide +kernel
theorem dX4_beginNumber_22 : decode cX4_beginNumber 22 = .ok (.putfield 51, 3) := by decide +kernel
theorem dX4_beginNumber_25 : decode cX4_beginNumber 25 = .ok (.return_, 1) := by decide +kernel
theorem dX4_numberStands_0 : decode cX4_numberStands 0 = .ok (.aload_n 0, 1) := by decide +kernel
theorem dX4_numberStands_1 : decode cX4_numberStands 1 = .ok (.getfield 51, 3) := by decide +kernel
theorem dX4_numberStands_4 : decode cX4_numberStands 4 = .ok (.ifCond .eq 29, 3) := by decide +kernel
theorem dX4_numberStands_7 : decode cX4_numberStands 7 = .ok (.aload_n 0, 1) := by decide +kernel
theorem dX4_numberStands_8 : decode cX4_numberStands 8 = .ok (.getfield 35, 3) := by decide +kernel
theorem dX4_numberStands_11 : decode cX4_numberStands 11 = .ok (.aload_n 0, 1) := by decide +kernel
theorem dX4_numberStands_12 : decode cX4_numberStands 12 = .ok (.getfield 61, 3) := by decide +kernel
theorem dX4_numberStands_15 : decode cX4_numberStands 15 = .ok (.if_icmp .lt 18, 3) := by decide +kernel
theorem dX4_numberStands_18 : decode cX4_numberStands 18 = .ok (.aload_n 0, 1) := by decide +kernel
theorem dX4_numberStands_19 : decode cX4_numberStands 19 = .ok (.getfield 35, 3) := by decide +kernel
theorem dX4_numberStands_22 : decode cX4_numberStands 22 = .ok (.aload_n 0, 1) := by decide +kernel
theorem dX4_numberStands_23 : decode cX4_numberStands 23 = .ok (.getfield 64, 3) := by decide +kernel
theorem dX4_numberStands_26 : decode cX4_numberStands 26 = .ok (.if_icmp .gt 7, 3) := by decide +kernel
theorem dX4_numberStands_29 : decode cX4_numberStands 29 = .ok (.iconst 1, 1) := by decide +kernel
theorem dX4_numberStands_30 : decode cX4_numberStands 30 = .ok (.goto 4, 3) := by decide +kernel
theorem dX4_numberStands_33 : decode cX4_numberStands 33 = .ok (.iconst 0, 1) := by decide +kernel
theorem dX4_numberStands_34 : decode cX4_numberStands 34 = .ok (.ireturn, 1) := by decide +kernel
theorem dX4_numberCanStand_0 : decode cX4_numberCanStand 0 = .ok (.aload_n 0, 1) := by decide +kernel
theorem dX4_numberCanStand_1 : decode cX4_numberCanStand 1 = .ok (.getfield 35, 3) := by decide +kernel
theorem dX4_numberCanStand_4 : decode cX4_numberCanStand 4 = .ok (.istore_n 1, 1) := by decide +kernel
theorem dX4_numberCanStand_5 : decode cX4_numberCanStand 5 = .ok (.aload_n 0, 1) := by decide +kernel
theorem dX4_numberCanStand_6 : decode cX4_numberCanStand 6 = .ok (.getfield 35, 3) := by decide +kernel
theorem dX4_numberCanStand_9 : decode cX4_numberCanStand 9 = .ok (.istore_n 2, 1) := by decide +kernel
theorem dX4_numberCanStand_10 : decode cX4_numberCanStand 10 = .ok (.iconst 0, 1) := by decide +kernel
theorem dX4_numberCanStand_11 : decode cX4_numberCanStand 11 = .ok (.istore_n 3, 1) := by decide +kernel
theorem dX4_numberCanStand_12 : decode cX4_numberCanStand 12 = .ok (.iload_n 3, 1) := by decide +kernel
theorem dX4_numberCanStand_13 : decode cX4_numberCanStand 13 = .ok (.iconst 4, 1) := by decide +kernel
theorem dX4_numberCanStand_14 : decode cX4_numberCanStand 14 = .ok (.if_icmp .ge 49, 3) := by decide +kernel
theorem dX4_numberCanStand_17 : decode cX4_numberCanStand 17 = .ok (.iload_n 1, 1) := by decide +kernel
theorem dX4_numberCanStand_18 : decode cX4_numberCanStand 18 = .ok (.aload_n 0, 1) := by decide +kernel
theorem dX4_numberCanStand_19 : decode cX4_numberCanStand 19 = .ok (.getfield 64, 3) := by decide +kernel
theorem dX4_numberCanStand_22 : decode cX4_numberCanStand 22 = .ok (.if_icmp .gt 13, 3) := by decide +kernel
theorem dX4_numberCanStand_25 : decode cX4_numberCanStand 25 = .ok (.iload_n 2, 1) := by decide +kernel
theorem dX4_numberCanStand_26 : decode cX4_numberCanStand 26 = .ok (.aload_n 0, 1) := by decide +kernel
theorem dX4_numberCanStand_27 : decode cX4_numberCanStand 27 = .ok (.getfield 61, 3) := by decide +kernel
theorem dX4_numberCanStand_30 : decode cX4_numberCanStand 30 = .ok (.if_icmp .lt 5, 3) := by decide +kernel
theorem dX4_numberCanStand_33 : decode cX4_numberCanStand 33 = .ok (.iconst 1, 1) := by decide +kernel
theorem dX4_numberCanStand_34 : decode cX4_numberCanStand 34 = .ok (.ireturn, 1) := by decide +kernel
theorem dX4_numberCanStand_35 : decode cX4_numberCanStand 35 = .ok (.aload_n 0, 1) := by decide +kernel
theorem dX4_numberCanStand_36 : decode cX4_numberCanStand 36 = .ok (.getfield 35, 3) := by decide +kernel
theorem dX4_numberCanStand_39 : decode cX4_numberCanStand 39 = .ok (.ifCond .ne 5, 3) := by decide +kernel
theorem dX4_numberCanStand_42 : decode cX4_numberCanStand 42 = .ok (.iconst 0, 1) := by decide +kernel
theorem dX4_numberCanStand_43 : decode cX4_numberCanStand 43 = .ok (.ireturn, 1) := by decide +kernel
theorem dX4_numberCanStand_44 : decode cX4_numberCanStand 44 = .ok (.iload_n 1, 1) := by decide +kernel
theorem dX4_numberCanStand_45 : decode cX4_numberCanStand 45 = .ok (.bipush 10, 2) := by decide +kernel
theorem dX4_numberCanStand_47 : decode cX4_numberCanStand 47 = .ok (.imul, 1) := by decide +kernel
theorem dX4_numberCanStand_48 : decode cX4_numberCanStand 48 = .ok (.istore_n 1, 1) := by decide +kernel
theorem dX4_numberCanStand_49 : decode cX4_numberCanStand 49 = .ok (.iload_n 2, 1) := by decide +kernel
theorem dX4_numberCanStand_50 : decode cX4_numberCanStand 50 = .ok (.bipush 10, 2) := by decide +kernel
theorem dX4_numberCanStand_52 : decode cX4_numberCanStand 52 = .ok (.imul, 1) := by decide +kernel
theorem dX4_numberCanStand_53 : decode cX4_numberCanStand 53 = .ok (.bipush 9, 2) := by decide +kernel
theorem dX4_numberCanStand_55 : decode cX4_numberCanStand 55 = .ok (.iadd, 1) := by decide +kernel
theorem dX4_numberCanStand_56 : decode cX4_numberCanStand 56 = .ok (.istore_n 2, 1) := by decide +kernel
theorem dX4_numberCanStand_57 : decode cX4_numberCanStand 57 = .ok (.iinc 3 1, 3) := by decide +kernel
theorem dX4_numberCanStand_60 : decode cX4_numberCanStand 60 = .ok (.goto (-48), 3) := by decide +kernel
theorem dX4_numberCanStand_63 : decode cX4_numberCanStand 63 = .ok (.iconst 0, 1) := by decide +kernel
theorem dX4_numberCanStand_64 : decode cX4_numberCanStand 64 = .ok (.ireturn, 1) := by decide +kernel
theorem dX5_init_0 : decode cX5_init 0 = .ok (.aload_n 0, 1) := by decide +kernel
theorem dX5_init_1 : decode cX5_init 1 = .ok (.invokespecial 1, 3) := by decide +kernel
theorem dX5_init_4 : decode cX5_init 4 = .ok (.aload_n 0, 1) := by decide +kernel
theorem dX5_init_5 : decode cX5_init 5 = .ok (.aload_n 1, 1) := by decide +kernel
theorem dX5_init_6 : decode cX5_init 6 = .ok (.putfield 7, 3) := by decide +kernel
theorem dX5_init_9 : decode cX5_init 9 = .ok (.aload_n 0, 1) := by decide +kernel
theorem dX5_init_10 : decode cX5_init 10 = .ok (.iload_n 2, 1) := by decide +kernel
theorem dX5_init_11 : decode cX5_init 11 = .ok (.putfield 13, 3) := by decide +kernel
theorem dX5_init_14 : decode cX5_init 14 = .ok (.aload_n 0, 1) := by decide +kernel
theorem dX5_init_15 : decode cX5_init 15 = .ok (.iload_n 3, 1) := by decide +kernel
theorem dX5_init_16 : decode cX5_init 16 = .ok (.putfield 17, 3) := by decide +kernel
theorem dX5_init_19 : decode cX5_init 19 = .ok (.return_, 1) := by decide +kernel
theorem dX5_get_0 : decode cX5_get 0 = .ok (.aload_n 0, 1) := by decide +kernel
theorem dX5_get_1 : decode cX5_get 1 = .ok (.getfield 13, 3) := by decide +kernel
theorem dX5_get_4 : decode cX5_get 4 = .ok (.iload_n 1, 1) := by decide +kernel
theorem dX5_get_5 : decode cX5_get 5 = .ok (.aload_n 0, 1) := by decide +kernel
theorem dX5_get_6 : decode cX5_get 6 = .ok (.getfield 17, 3) := by decide +kernel
theorem dX5_get_9 : decode cX5_get 9 = .ok (.imul, 1) := by decide +kernel
theorem dX5_get_10 : decode cX5_get 10 = .ok (.iadd, 1) := by decide +kernel
theorem dX5_get_11 : decode cX5_get 11 = .ok (.iload_n 2, 1) := by decide +kernel
theorem dX5_get_12 : decode cX5_get 12 = .ok (.iadd, 1) := by decide +kernel
theorem dX5_get_13 : decode cX5_get 13 = .ok (.istore_n 3, 1) := by decide +kernel
theorem dX5_get_14 : decode cX5_get 14 = .ok (.iload_n 3, 1) := by decide +kernel
theorem dX5_get_15 : decode cX5_get 15 = .ok (.ifCond .lt 21, 3) := by decide +kernel
theorem dX5_get_18 : decode cX5_get 18 = .ok (.iload_n 3, 1) := by decide +kernel
theorem dX5_get_19 : decode cX5_get 19 = .ok (.aload_n 0, 1) := by decide +kernel
theorem dX5_get_20 : decode cX5_get 20 = .ok (.getfield 7, 3) := by decide +kernel
theorem dX5_get_23 : decode cX5_get 23 = .ok (.arraylength, 1) := by decide +kernel
theorem dX5_get_24 : decode cX5_get 24 = .ok (.if_icmp .ge 12, 3) := by decide +kernel
theorem dX5_get_27 : decode cX5_get 27 = .ok (.aload_n 0, 1) := by decide +kernel
theorem dX5_get_28 : decode cX5_get 28 = .ok (.getfield 7, 3) := by decide +kernel
theorem dX5_get_31 : decode cX5_get 31 = .ok (.iload_n 3, 1) := by decide +kernel
theorem dX5_get_32 : decode cX5_get 32 = .ok (.iaload, 1) := by decide +kernel
theorem dX5_get_33 : decode cX5_get 33 = .ok (.goto 4, 3) := by decide +kernel
theorem dX5_get_36 : decode cX5_get 36 = .ok (.iconst 0, 1) := by decide +kernel
theorem dX5_get_37 : decode cX5_get 37 = .ok (.ireturn, 1) := by decide +kernel
theorem dX5_put_0 : decode cX5_put 0 = .ok (.aload_n 0, 1) := by decide +kernel
theorem dX5_put_1 : decode cX5_put 1 = .ok (.getfield 13, 3) := by decide +kernel
theorem dX5_put_4 : decode cX5_put 4 = .ok (.iload_n 1, 1) := by decide +kernel
theorem dX5_put_5 : decode cX5_put 5 = .ok (.aload_n 0, 1) := by decide +kernel
theorem dX5_put_6 : decode cX5_put 6 = .ok (.getfield 17, 3) := by decide +kernel
theorem dX5_put_9 : decode cX5_put 9 = .ok (.imul, 1) := by decide +kernel
theorem dX5_put_10 : decode cX5_put 10 = .ok (.iadd, 1) := by decide +kernel
theorem dX5_put_11 : decode cX5_put 11 = .ok (.iload_n 2, 1) := by decide +kernel
theorem dX5_put_12 : decode cX5_put 12 = .ok (.iadd, 1) := by decide +kernel
theorem dX5_put_13 : decode cX5_put 13 = .ok (.istore 4, 2) := by decide +kernel
theorem dX5_put_15 : decode cX5_put 15 = .ok (.iload 4, 2) := by decide +kernel
theorem dX5_put_17 : decode cX5_put 17 = .ok (.ifCond .lt 21, 3) := by decide +kernel
theorem dX5_put_20 : decode cX5_put 20 = .ok (.iload 4, 2) := by decide +kernel
theorem dX5_put_22 : decode cX5_put 22 = .ok (.aload_n 0, 1) := by decide +kernel
theorem dX5_put_23 : decode cX5_put 23 = .ok (.getfield 7, 3) := by decide +kernel
theorem dX5_put_26 : decode cX5_put 26 = .ok (.arraylength, 1) := by decide +kernel
theorem dX5_put_27 : decode cX5_put 27 = .ok (.if_icmp .ge 11, 3) := by decide +kernel
theorem dX5_put_30 : decode cX5_put 30 = .ok (.aload_n 0, 1) := by decide +kernel
theorem dX5_put_31 : decode cX5_put 31 = .ok (.getfield 7, 3) := by decide +kernel
theorem dX5_put_34 : decode cX5_put 34 = .ok (.iload 4, 2) := by decide +kernel
theorem dX5_put_36 : decode cX5_put 36 = .ok (.iload_n 3, 1) := by decide +kernel
theorem dX5_put_37 : decode cX5_put 37 = .ok (.iastore, 1) := by decide +kernel
theorem dX5_put_38 : decode cX5_put 38 = .ok (.return_, 1) := by decide +kernel
theorem dX5_add_0 : decode cX5_add 0 = .ok (.aload_n 0, 1) := by decide +kernel
theorem dX5_add_1 : decode cX5_add 1 = .ok (.iload_n 1, 1) := by decide +kernel
theorem dX5_add_2 : decode cX5_add 2 = .ok (.iload_n 2, 1) := by decide +kernel
theorem dX5_add_3 : decode cX5_add 3 = .ok (.aload_n 0, 1) := by decide +kernel
theorem dX5_add_4 : decode cX5_add 4 = .ok (.iload_n 1, 1) := by decide +kernel
theorem dX5_add_5 : decode cX5_add 5 = .ok (.iload_n 2, 1) := by decide +kernel
theorem dX5_add_6 : decode cX5_add 6 = .ok (.invokevirtual 20, 3) := by decide +kernel
theorem dX5_add_9 : decode cX5_add 9 = .ok (.iload_n 3, 1) := by decide +kernel
theorem dX5_add_10 : decode cX5_add 10 = .ok (.iadd, 1) := by decide +kernel
theorem dX5_add_11 : decode cX5_add 11 = .ok (.invokevirtual 24, 3) := by decide +kernel
theorem dX5_add_14 : decode cX5_add 14 = .ok (.return_, 1) := by decide +kernel
theorem dX6_init_0 : decode cX6_init 0 = .ok (.aload_n 0, 1) := by decide +kernel
theorem dX6_init_1 : decode cX6_init 1 = .ok (.invokespecial 3, 3) := by decide +kernel
theorem dX6_init_4 : decode cX6_init 4 = .ok (.new 9, 3) := by decide +kernel
theorem dX6_init_7 : decode cX6_init 7 = .ok (.dup, 1) := by decide +kernel
theorem dX6_init_8 : decode cX6_init 8 = .ok (.invokespecial 11, 3) := by decide +kernel
theorem dX6_init_11 : decode cX6_init 11 = .ok (.astore_n 1, 1) := by decide +kernel
theorem dX6_init_12 : decode cX6_init 12 = .ok (.aload_n 0, 1) := by decide +kernel
theorem dX6_init_13 : decode cX6_init 13 = .ok (.aload_n 1, 1) := by decide +kernel
theorem dX6_init_14 : decode cX6_init 14 = .ok (.putfield 12, 3) := by decide +kernel
theorem dX6_init_17 : decode cX6_init 17 = .ok (.aload_n 0, 1) := by decide +kernel
theorem dX6_init_18 : decode cX6_init 18 = .ok (.new 16, 3) := by decide +kernel
theorem dX6_init_21 : decode cX6_init 21 = .ok (.dup, 1) := by decide +kernel
theorem dX6_init_22 : decode cX6_init 22 = .ok (.aload_n 1, 1) := by decide +kernel
theorem dX6_init_23 : decode cX6_init 23 = .ok (.invokespecial 18, 3) := by decide +kernel
theorem dX6_init_26 : decode cX6_init 26 = .ok (.putfield 21, 3) := by decide +kernel
theorem dX6_init_29 : decode cX6_init 29 = .ok (.aload_n 0, 1) := by decide +kernel
theorem dX6_init_30 : decode cX6_init 30 = .ok (.new 25, 3) := by decide +kernel
theorem dX6_init_33 : decode cX6_init 33 = .ok (.dup, 1) := by decide +kernel
theorem dX6_init_34 : decode cX6_init 34 = .ok (.aload_n 1, 1) := by decide +kernel
theorem dX6_init_35 : decode cX6_init 35 = .ok (.invokespecial 27, 3) := by decide +kernel
theorem dX6_init_38 : decode cX6_init 38 = .ok (.putfield 28, 3) := by decide +kernel
theorem dX6_init_41 : decode cX6_init 41 = .ok (.aload_n 0, 1) := by decide +kernel
theorem dX6_init_42 : decode cX6_init 42 = .ok (.new 32, 3) := by decide +kernel
theorem dX6_init_45 : decode cX6_init 45 = .ok (.dup, 1) := by decide +kernel
theorem dX6_init_46 : decode cX6_init 46 = .ok (.invokespecial 34, 3) := by decide +kernel
theorem dX6_init_49 : decode cX6_init 49 = .ok (.putfield 35, 3) := by decide +kernel
theorem dX6_init_52 : decode cX6_init 52 = .ok (.aload_n 0, 1) := by decide +kernel
theorem dX6_init_53 : decode cX6_init 53 = .ok (.bipush 60, 2) := by decide +kernel
theorem dX6_init_55 : decode cX6_init 55 = .ok (.newarray .int, 2) := by decide +kernel
theorem dX6_init_57 : decode cX6_init 57 = .ok (.putfield 39, 3) := by decide +kernel
theorem dX6_init_60 : decode cX6_init 60 = .ok (.aload_n 0, 1) := by decide +kernel
theorem dX6_init_61 : decode cX6_init 61 = .ok (.iconst 0, 1) := by decide +kernel
theorem dX6_init_62 : decode cX6_init 62 = .ok (.putfield 43, 3) := by decide +kernel
theorem dX6_init_65 : decode cX6_init 65 = .ok (.return_, 1) := by decide +kernel
theorem dX6_addGrower_0 : decode cX6_addGrower 0 = .ok (.aload_n 0, 1) := by decide +kernel
theorem dX6_addGrower_1 : decode cX6_addGrower 1 = .ok (.getfield 12, 3) := by decide +kernel
theorem dX6_addGrower_4 : decode cX6_addGrower 4 = .ok (.getfield 47, 3) := by decide +kernel
theorem dX6_addGrower_7 : decode cX6_addGrower 7 = .ok (.iconst 0, 1) := by decide +kernel
theorem dX6_addGrower_8 : decode cX6_addGrower 8 = .ok (.invokevirtual 51, 3) := by decide +kernel
theorem dX6_addGrower_11 : decode cX6_addGrower 11 = .ok (.istore_n 1, 1) := by decide +kernel
theorem dX6_addGrower_12 : decode cX6_addGrower 12 = .ok (.iload_n 1, 1) := by decide +kernel
theorem dX6_addGrower_13 : decode cX6_addGrower 13 = .ok (.bipush 8, 2) := by decide +kernel
theorem dX6_addGrower_15 : decode cX6_addGrower 15 = .ok (.if_icmp .lt 13, 3) := by decide +kernel
theorem dX6_addGrower_18 : decode cX6_addGrower 18 = .ok (.new 57, 3) := by decide +kernel
theorem dX6_addGrower_21 : decode cX6_addGrower 21 = .ok (.dup, 1) := by decide +kernel
theorem dX6_addGrower_22 : decode cX6_addGrower 22 = .ok (.ldc 59, 2) := by decide +kernel
theorem dX6_addGrower_24 : decode cX6_addGrower 24 = .ok (.invokespecial 61, 3) := by decide +kernel
theorem dX6_addGrower_27 : decode cX6_addGrower 27 = .ok (.athrow, 1) := by decide +kernel
theorem dX6_addGrower_28 : decode cX6_addGrower 28 = .ok (.aload_n 0, 1) := by decide +kernel
theorem dX6_addGrower_29 : decode cX6_addGrower 29 = .ok (.getfield 12, 3) := by decide +kernel
theorem dX6_addGrower_32 : decode cX6_addGrower 32 = .ok (.invokevirtual 64, 3) := by decide +kernel
theorem dX6_addGrower_35 : decode cX6_addGrower 35 = .ok (.aload_n 0, 1) := by decide +kernel
theorem dX6_addGrower_36 : decode cX6_addGrower 36 = .ok (.getfield 12, 3) := by decide +kernel
theorem dX6_addGrower_39 : decode cX6_addGrower 39 = .ok (.getfield 47, 3) := by decide +kernel
theorem dX6_addGrower_42 : decode cX6_addGrower 42 = .ok (.iconst 0, 1) := by decide +kernel
theorem dX6_addGrower_43 : decode cX6_addGrower 43 = .ok (.iconst 1, 1) := by decide +kernel
theorem dX6_addGrower_44 : decode cX6_addGrower 44 = .ok (.invokevirtual 67, 3) := by decide +kernel
theorem dX6_addGrower_47 : decode cX6_addGrower 47 = .ok (.iload_n 1, 1) := by decide +kernel
theorem dX6_addGrower_48 : decode cX6_addGrower 48 = .ok (.ireturn, 1) := by decide +kernel
theorem dX6_addLot_0 : decode cX6_addLot 0 = .ok (.aload_n 0, 1) := by decide +kernel
theorem dX6_addLot_1 : decode cX6_addLot 1 = .ok (.iload_n 1, 1) := by decide +kernel
theorem dX6_addLot_2 : decode cX6_addLot 2 = .ok (.invokevirtual 71, 3) := by decide +kernel
theorem dX6_addLot_5 : decode cX6_addLot 5 = .ok (.iload_n 2, 1) := by decide +kernel
theorem dX6_addLot_6 : decode cX6_addLot 6 = .ok (.invokestatic 75, 3) := by decide +kernel
theorem dX6_addLot_9 : decode cX6_addLot 9 = .ok (.ifCond .eq 39, 3) := by decide +kernel
theorem dX6_addLot_12 : decode cX6_addLot 12 = .ok (.iload_n 3, 1) := by decide +kernel
theorem dX6_addLot_13 : decode cX6_addLot 13 = .ok (.iconst 1, 1) := by decide +kernel
theorem dX6_addLot_14 : decode cX6_addLot 14 = .ok (.sipush 2000, 3) := by decide +kernel
theorem dX6_addLot_17 : decode cX6_addLot 17 = .ok (.invokestatic 79, 3) := by decide +kernel
theorem dX6_addLot_20 : decode cX6_addLot 20 = .ok (.ifCond .ne 28, 3) := by decide +kernel
theorem dX6_addLot_23 : decode cX6_addLot 23 = .ok (.iload 4, 2) := by decide +kernel
theorem dX6_addLot_25 : decode cX6_addLot 25 = .ok (.iconst 0, 1) := by decide +kernel
theorem dX6_addLot_26 : decode cX6_addLot 26 = .ok (.bipush 50, 2) := by decide +kernel
theorem dX6_addLot_28 : decode cX6_addLot 28 = .ok (.invokestatic 79, 3) := by decide +kernel
theorem dX6_addLot_31 : decode cX6_addLot 31 = .ok (.ifCond .ne 17, 3) := by decide +kernel
theorem dX6_addLot_34 : decode cX6_addLot 34 = .ok (.iload 5, 2) := by decide +kernel
theorem dX6_addLot_36 : decode cX6_addLot 36 = .ok (.sipush 500, 3) := by decide +kernel
theorem dX6_addLot_39 : decode cX6_addLot 39 = .ok (.sipush 1500, 3) := by decide +kernel
theorem dX6_addLot_42 : decode cX6_addLot 42 = .ok (.invokestatic 79, 3) := by decide +kernel
theorem dX6_addLot_45 : decode cX6_addLot 45 = .ok (.ifCond .eq 13, 3) := by decide +kernel
theorem dX6_addLot_48 : decode cX6_addLot 48 = .ok (.new 83, 3) := by decide +kernel
theorem dX6_addLot_51 : decode cX6_addLot 51 = .ok (.dup, 1) := by decide +kernel
theorem dX6_addLot_52 : decode cX6_addLot 52 = .ok (.ldc 85, 2) := by decide +kernel
theorem dX6_addLot_54 : decode cX6_addLot 54 = .ok (.invokespecial 87, 3) := by decide +kernel
theorem dX6_addLot_57 : decode cX6_addLot 57 = .ok (.athrow, 1) := by decide +kernel
theorem dX6_addLot_58 : decode cX6_addLot 58 = .ok (.aload_n 0, 1) := by decide +kernel
theorem dX6_addLot_59 : decode cX6_addLot 59 = .ok (.getfield 12, 3) := by decide +kernel
theorem dX6_addLot_62 : decode cX6_addLot 62 = .ok (.getfield 47, 3) := by decide +kernel
theorem dX6_addLot_65 : decode cX6_addLot 65 = .ok (.iconst 1, 1) := by decide +kernel
theorem dX6_addLot_66 : decode cX6_addLot 66 = .ok (.invokevirtual 51, 3) := by decide +kernel
theorem dX6_addLot_69 : decode cX6_addLot 69 = .ok (.bipush 40, 2) := by decide +kernel
theorem dX6_addLot_71 : decode cX6_addLot 71 = .ok (.if_icmp .lt 13, 3) := by decide +kernel
theorem dX6_addLot_74 : decode cX6_addLot 74 = .ok (.new 57, 3) := by decide +kernel
theorem dX6_addLot_77 : decode cX6_addLot 77 = .ok (.dup, 1) := by decide +kernel
theorem dX6_addLot_78 : decode cX6_addLot 78 = .ok (.ldc 88, 2) := by decide +kernel
theorem dX6_addLot_80 : decode cX6_addLot 80 = .ok (.invokespecial 61, 3) := by decide +kernel
theorem dX6_addLot_83 : decode cX6_addLot 83 = .ok (.athrow, 1) := by decide +kernel
theorem dX6_addLot_84 : decode cX6_addLot 84 = .ok (.aload_n 0, 1) := by decide +kernel
theorem dX6_addLot_85 : decode cX6_addLot 85 = .ok (.getfield 12, 3) := by decide +kernel
theorem dX6_addLot_88 : decode cX6_addLot 88 = .ok (.invokevirtual 64, 3) := by decide +kernel
theorem dX6_addLot_91 : decode cX6_addLot 91 = .ok (.aload_n 0, 1) := by decide +kernel
theorem dX6_addLot_92 : decode cX6_addLot 92 = .ok (.iload_n 1, 1) := by decide +kernel
theorem dX6_addLot_93 : decode cX6_addLot 93 = .ok (.iload_n 2, 1) := by decide +kernel
theorem dX6_addLot_94 : decode cX6_addLot 94 = .ok (.iload_n 3, 1) := by decide +kernel
theorem dX6_addLot_95 : decode cX6_addLot 95 = .ok (.iload 4, 2) := by decide +kernel
theorem dX6_addLot_97 : decode cX6_addLot 97 = .ok (.iload 5, 2) := by decide +kernel
theorem dX6_addLot_99 : decode cX6_addLot 99 = .ok (.invokevirtual 90, 3) := by decide +kernel
theorem dX6_addLot_102 : decode cX6_addLot 102 = .ok (.ireturn, 1) := by decide +kernel
theorem dX6_addTank_0 : decode cX6_addTank 0 = .ok (.iload_n 1, 1) := by decide +kernel
theorem dX6_addTank_1 : decode cX6_addTank 1 = .ok (.bipush 100, 2) := by decide +kernel
theorem dX6_addTank_3 : decode cX6_addTank 3 = .ok (.sipush 20000, 3) := by decide +kernel
theorem dX6_addTank_6 : decode cX6_addTank 6 = .ok (.invokestatic 79, 3) := by decide +kernel
theorem dX6_addTank_9 : decode cX6_addTank 9 = .ok (.ifCond .eq 13, 3) := by decide +kernel
theorem dX6_addTank_12 : decode cX6_addTank 12 = .ok (.new 83, 3) := by decide +kernel
theorem dX6_addTank_15 : decode cX6_addTank 15 = .ok (.dup, 1) := by decide +kernel
theorem dX6_addTank_16 : decode cX6_addTank 16 = .ok (.ldc 94, 2) := by decide +kernel
theorem dX6_addTank_18 : decode cX6_addTank 18 = .ok (.invokespecial 87, 3) := by decide +kernel
theorem dX6_addTank_21 : decode cX6_addTank 21 = .ok (.athrow, 1) := by decide +kernel
theorem dX6_addTank_22 : decode cX6_addTank 22 = .ok (.aload_n 0, 1) := by decide +kernel
theorem dX6_addTank_23 : decode cX6_addTank 23 = .ok (.getfield 12, 3) := by decide +kernel
theorem dX6_addTank_26 : decode cX6_addTank 26 = .ok (.getfield 47, 3) := by decide +kernel
theorem dX6_addTank_29 : decode cX6_addTank 29 = .ok (.iconst 2, 1) := by decide +kernel
theorem dX6_addTank_30 : decode cX6_addTank 30 = .ok (.invokevirtual 51, 3) := by decide +kernel
theorem dX6_addTank_33 : decode cX6_addTank 33 = .ok (.istore_n 2, 1) := by decide +kernel
theorem dX6_addTank_34 : decode cX6_addTank 34 = .ok (.iload_n 2, 1) := by decide +kernel
theorem dX6_addTank_35 : decode cX6_addTank 35 = .ok (.bipush 6, 2) := by decide +kernel
theorem dX6_addTank_37 : decode cX6_addTank 37 = .ok (.if_icmp .lt 13, 3) := by decide +kernel
theorem dX6_addTank_40 : decode cX6_addTank 40 = .ok (.new 57, 3) := by decide +kernel
theorem dX6_addTank_43 : decode cX6_addTank 43 = .ok (.dup, 1) := by decide +kernel
theorem dX6_addTank_44 : decode cX6_addTank 44 = .ok (.ldc 96, 2) := by decide +kernel
theorem dX6_addTank_46 : decode cX6_addTank 46 = .ok (.invokespecial 61, 3) := by decide +kernel
theorem dX6_addTank_49 : decode cX6_addTank 49 = .ok (.athrow, 1) := by decide +kernel
theorem dX6_addTank_50 : decode cX6_addTank 50 = .ok (.aload_n 0, 1) := by decide +kernel
theorem dX6_addTank_51 : decode cX6_addTank 51 = .ok (.getfield 12, 3) := by decide +kernel
theorem dX6_addTank_54 : decode cX6_addTank 54 = .ok (.invokevirtual 64, 3) := by decide +kernel
theorem dX6_addTank_57 : decode cX6_addTank 57 = .ok (.aload_n 0, 1) := by decide +kernel
theorem dX6_addTank_58 : decode cX6_addTank 58 = .ok (.getfield 12, 3) := by decide +kernel
theorem dX6_addTank_61 : decode cX6_addTank 61 = .ok (.getfield 98, 3) := by decide +kernel
theorem dX6_addTank_64 : decode cX6_addTank 64 = .ok (.iload_n 2, 1) := by decide +kernel
theorem dX6_addTank_65 : decode cX6_addTank 65 = .ok (.iconst 0, 1) := by decide +kernel
theorem dX6_addTank_66 : decode cX6_addTank 66 = .ok (.iload_n 1, 1) := by decide +kernel
theorem dX6_addTank_67 : decode cX6_addTank 67 = .ok (.invokevirtual 102, 3) := by decide +kernel
theorem dX6_addTank_70 : decode cX6_addTank 70 = .ok (.aload_n 0, 1) := by decide +kernel
theorem dX6_addTank_71 : decode cX6_addTank 71 = .ok (.getfield 12, 3) := by decide +kernel
theorem dX6_addTank_74 : decode cX6_addTank 74 = .ok (.getfield 47, 3) := by decide +kernel
theorem dX6_addTank_77 : decode cX6_addTank 77 = .ok (.iconst 2, 1) := by decide +kernel
theorem dX6_addTank_78 : decode cX6_addTank 78 = .ok (.iconst 1, 1) := by decide +kernel
theorem dX6_addTank_79 : decode cX6_addTank 79 = .ok (.invokevirtual 67, 3) := by decide +kernel
theorem dX6_addTank_82 : decode cX6_addTank 82 = .ok (.iload_n 2, 1) := by decide +kernel
theorem dX6_addTank_83 : decode cX6_addTank 83 = .ok (.ireturn, 1) := by decide +kernel
theorem dX6_setYield_0 : decode cX6_setYield 0 = .ok (.iload_n 1, 1) := by decide +kernel
theorem dX6_setYield_1 : decode cX6_setYield 1 = .ok (.invokestatic 108, 3) := by decide +kernel
theorem dX6_setYield_4 : decode cX6_setYield 4 = .ok (.iload_n 2, 1) := by decide +kernel
theorem dX6_setYield_5 : decode cX6_setYield 5 = .ok (.bipush 50, 2) := by decide +kernel
theorem dX6_setYield_7 : decode cX6_setYield 7 = .ok (.sipush 400, 3) := by decide +kernel
theorem dX6_setYield_10 : decode cX6_setYield 10 = .ok (.invokestatic 79, 3) := by decide +kernel
theorem dX6_setYield_13 : decode cX6_setYield 13 = .ok (.ifCond .eq 13, 3) := by decide +kernel
theorem dX6_setYield_16 : decode cX6_setYield 16 = .ok (.new 83, 3) := by decide +kernel
theorem dX6_setYield_19 : decode cX6_setYield 19 = .ok (.dup, 1) := by decide +kernel
theorem dX6_setYield_20 : decode cX6_setYield 20 = .ok (.ldc 111, 2) := by decide +kernel
theorem dX6_setYield_22 : decode cX6_setYield 22 = .ok (.invokespecial 87, 3) := by decide +kernel
theorem dX6_setYield_25 : decode cX6_setYield 25 = .ok (.athrow, 1) := by decide +kernel
theorem dX6_setYield_26 : decode cX6_setYield 26 = .ok (.aload_n 0, 1) := by decide +kernel
theorem dX6_setYield_27 : decode cX6_setYield 27 = .ok (.getfield 12, 3) := by decide +kernel
theorem dX6_setYield_30 : decode cX6_setYield 30 = .ok (.getfield 113, 3) := by decide +kernel
theorem dX6_setYield_33 : decode cX6_setYield 33 = .ok (.iload_n 1, 1) := by decide +kernel
theorem dX6_setYield_34 : decode cX6_setYield 34 = .ok (.iconst 0, 1) := by decide +kernel
theorem dX6_setYield_35 : decode cX6_setYield 35 = .ok (.invokevirtual 116, 3) := by decide +kernel
theorem dX6_setYield_38 : decode cX6_setYield 38 = .ok (.istore_n 3, 1) := by decide +kernel
theorem dX6_setYield_39 : decode cX6_setYield 39 = .ok (.aload_n 0, 1) := by decide +kernel
theorem dX6_setYield_40 : decode cX6_setYield 40 = .ok (.getfield 12, 3) := by decide +kernel
theorem dX6_setYield_43 : decode cX6_setYield 43 = .ok (.invokevirtual 64, 3) := by decide +kernel
theorem dX6_setYield_46 : decode cX6_setYield 46 = .ok (.aload_n 0, 1) := by decide +kernel
theorem dX6_setYield_47 : decode cX6_setYield 47 = .ok (.getfield 12, 3) := by decide +kernel
theorem dX6_setYield_50 : decode cX6_setYield 50 = .ok (.getfield 113, 3) := by decide +kernel
theorem dX6_setYield_53 : decode cX6_setYield 53 = .ok (.iload_n 1, 1) := by decide +kernel
theorem dX6_setYield_54 : decode cX6_setYield 54 = .ok (.iconst 0, 1) := by decide +kernel
theorem dX6_setYield_55 : decode cX6_setYield 55 = .ok (.iload_n 2, 1) := by decide +kernel
theorem dX6_setYield_56 : decode cX6_setYield 56 = .ok (.invokevirtual 102, 3) := by decide +kernel
theorem dX6_setYield_59 : decode cX6_setYield 59 = .ok (.iload_n 3, 1) := by decide +kernel
theorem dX6_setYield_60 : decode cX6_setYield 60 = .ok (.ireturn, 1) := by decide +kernel
theorem dX6_set_0 : decode cX6_set 0 = .ok (.iload_n 1, 1) := by decide +kernel
theorem dX6_set_1 : decode cX6_set 1 = .ok (.invokestatic 119, 3) := by decide +kernel
theorem dX6_set_4 : decode cX6_set 4 = .ok (.ifCond .ne 13, 3) := by decide +kernel
theorem dX6_set_7 : decode cX6_set 7 = .ok (.new 122, 3) := by decide +kernel
theorem dX6_set_10 : decode cX6_set 10 = .ok (.dup, 1) := by decide +kernel
theorem dX6_set_11 : decode cX6_set 11 = .ok (.ldc 124, 2) := by decide +kernel
theorem dX6_set_13 : decode cX6_set 13 = .ok (.invokespecial 126, 3) := by decide +kernel
theorem dX6_set_16 : decode cX6_set 16 = .ok (.athrow, 1) := by decide +kernel
theorem dX6_set_17 : decode cX6_set 17 = .ok (.iload_n 1, 1) := by decide +kernel
theorem dX6_set_18 : decode cX6_set 18 = .ok (.iload_n 2, 1) := by decide +kernel
theorem dX6_set_19 : decode cX6_set 19 = .ok (.invokestatic 127, 3) := by decide +kernel
theorem dX6_set_22 : decode cX6_set 22 = .ok (.ifCond .ne 13, 3) := by decide +kernel
theorem dX6_set_25 : decode cX6_set 25 = .ok (.new 83, 3) := by decide +kernel
theorem dX6_set_28 : decode cX6_set 28 = .ok (.dup, 1) := by decide +kernel
theorem dX6_set_29 : decode cX6_set 29 = .ok (.ldc 131, 2) := by decide +kernel
theorem dX6_set_31 : decode cX6_set 31 = .ok (.invokespecial 87, 3) := by decide +kernel
theorem dX6_set_34 : decode cX6_set 34 = .ok (.athrow, 1) := by decide +kernel
theorem dX6_set_35 : decode cX6_set 35 = .ok (.aload_n 0, 1) := by decide +kernel
theorem dX6_set_36 : decode cX6_set 36 = .ok (.getfield 12, 3) := by decide +kernel
theorem dX6_set_39 : decode cX6_set 39 = .ok (.getfield 133, 3) := by decide +kernel
theorem dX6_set_42 : decode cX6_set 42 = .ok (.iload_n 1, 1) := by decide +kernel
theorem dX6_set_43 : decode cX6_set 43 = .ok (.invokevirtual 51, 3) := by decide +kernel
theorem dX6_set_46 : decode cX6_set 46 = .ok (.istore_n 3, 1) := by decide +kernel
theorem dX6_set_47 : decode cX6_set 47 = .ok (.aload_n 0, 1) := by decide +kernel
theorem dX6_set_48 : decode cX6_set 48 = .ok (.getfield 12, 3) := by decide +kernel
theorem dX6_set_51 : decode cX6_set 51 = .ok (.invokevirtual 64, 3) := by decide +kernel
theorem dX6_set_54 : decode cX6_set 54 = .ok (.aload_n 0, 1) := by decide +kernel
theorem dX6_set_55 : decode cX6_set 55 = .ok (.getfield 12, 3) := by decide +kernel
theorem dX6_set_58 : decode cX6_set 58 = .ok (.getfield 133, 3) := by decide +kernel
theorem dX6_set_61 : decode cX6_set 61 = .ok (.iload_n 1, 1) := by decide +kernel
theorem dX6_set_62 : decode cX6_set 62 = .ok (.iload_n 2, 1) := by decide +kernel
theorem dX6_set_63 : decode cX6_set 63 = .ok (.invokevirtual 136, 3) := by decide +kernel
theorem dX6_set_66 : decode cX6_set 66 = .ok (.iload_n 3, 1) := by decide +kernel
theorem dX6_set_67 : decode cX6_set 67 = .ok (.ireturn, 1) := by decide +kernel
theorem dX6_press_0 : decode cX6_press 0 = .ok (.aload_n 0, 1) := by decide +kernel
theorem dX6_press_1 : decode cX6_press 1 = .ok (.iload_n 1, 1) := by decide +kernel
theorem dX6_press_2 : decode cX6_press 2 = .ok (.invokevirtual 138, 3) := by decide +kernel
theorem dX6_press_5 : decode cX6_press 5 = .ok (.aload_n 0, 1) := by decide +kernel
theorem dX6_press_6 : decode cX6_press 6 = .ok (.iload_n 1, 1) := by decide +kernel
theorem dX6_press_7 : decode cX6_press 7 = .ok (.iload_n 2, 1) := by decide +kernel
theorem dX6_press_8 : decode cX6_press 8 = .ok (.invokevirtual 141, 3) := by decide +kernel
theorem dX6_press_11 : decode cX6_press 11 = .ok (.ifCond .eq 13, 3) := by decide +kernel
theorem dX6_press_14 : decode cX6_press 14 = .ok (.new 57, 3) := by decide +kernel
theorem dX6_press_17 : decode cX6_press 17 = .ok (.dup, 1) := by decide +kernel
theorem dX6_press_18 : decode cX6_press 18 = .ok (.ldc 145, 2) := by decide +kernel
theorem dX6_press_20 : decode cX6_press 20 = .ok (.invokespecial 61, 3) := by decide +kernel
theorem dX6_press_23 : decode cX6_press 23 = .ok (.athrow, 1) := by decide +kernel
theorem dX6_press_24 : decode cX6_press 24 = .ok (.aload_n 0, 1) := by decide +kernel
theorem dX6_press_25 : decode cX6_press 25 = .ok (.getfield 12, 3) := by decide +kernel
theorem dX6_press_28 : decode cX6_press 28 = .ok (.invokevirtual 64, 3) := by decide +kernel
theorem dX6_press_31 : decode cX6_press 31 = .ok (.aload_n 0, 1) := by decide +kernel
theorem dX6_press_32 : decode cX6_press 32 = .ok (.aload_n 0, 1) := by decide +kernel
theorem dX6_press_33 : decode cX6_press 33 = .ok (.getfield 28, 3) := by decide +kernel
theorem dX6_press_36 : decode cX6_press 36 = .ok (.getfield 147, 3) := by decide +kernel
theorem dX6_press_39 : decode cX6_press 39 = .ok (.aload_n 0, 1) := by decide +kernel
theorem dX6_press_40 : decode cX6_press 40 = .ok (.getfield 28, 3) := by decide +kernel
theorem dX6_press_43 : decode cX6_press 43 = .ok (.getfield 150, 3) := by decide +kernel
theorem dX6_press_46 : decode cX6_press 46 = .ok (.invokevirtual 153, 3) := by decide +kernel
theorem dX6_press_49 : decode cX6_press 49 = .ok (.aload_n 0, 1) := by decide +kernel
theorem dX6_press_50 : decode cX6_press 50 = .ok (.iload_n 1, 1) := by decide +kernel
theorem dX6_press_51 : decode cX6_press 51 = .ok (.invokevirtual 156, 3) := by decide +kernel
theorem dX6_press_54 : decode cX6_press 54 = .ok (.aload_n 0, 1) := by decide +kernel
theorem dX6_press_55 : decode cX6_press 55 = .ok (.iload_n 1, 1) := by decide +kernel
theorem dX6_press_56 : decode cX6_press 56 = .ok (.invokevirtual 159, 3) := by decide +kernel
theorem dX6_press_59 : decode cX6_press 59 = .ok (.aload_n 0, 1) := by decide +kernel
theorem dX6_press_60 : decode cX6_press 60 = .ok (.getfield 12, 3) := by decide +kernel
theorem dX6_press_63 : decode cX6_press 63 = .ok (.getfield 47, 3) := by decide +kernel
theorem dX6_press_66 : decode cX6_press 66 = .ok (.iconst 3, 1) := by decide +kernel
theorem dX6_press_67 : decode cX6_press 67 = .ok (.aload_n 0, 1) := by decide +kernel
theorem dX6_press_68 : decode cX6_press 68 = .ok (.getfield 28, 3) := by decide +kernel
theorem dX6_press_71 : decode cX6_press 71 = .ok (.getfield 162, 3) := by decide +kernel
theorem dX6_press_74 : decode cX6_press 74 = .ok (.invokevirtual 136, 3) := by decide +kernel
theorem dX6_press_77 : decode cX6_press 77 = .ok (.aload_n 0, 1) := by decide +kernel
theorem dX6_press_78 : decode cX6_press 78 = .ok (.getfield 12, 3) := by decide +kernel
theorem dX6_press_81 : decode cX6_press 81 = .ok (.getfield 47, 3) := by decide +kernel
theorem dX6_press_84 : decode cX6_press 84 = .ok (.iconst 4, 1) := by decide +kernel
theorem dX6_press_85 : decode cX6_press 85 = .ok (.aload_n 0, 1) := by decide +kernel
theorem dX6_press_86 : decode cX6_press 86 = .ok (.getfield 28, 3) := by decide +kernel
theorem dX6_press_89 : decode cX6_press 89 = .ok (.getfield 165, 3) := by decide +kernel
theorem dX6_press_92 : decode cX6_press 92 = .ok (.invokevirtual 136, 3) := by decide +kernel
theorem dX6_press_95 : decode cX6_press 95 = .ok (.aload_n 0, 1) := by decide +kernel
theorem dX6_press_96 : decode cX6_press 96 = .ok (.getfield 28, 3) := by decide +kernel
theorem dX6_press_99 : decode cX6_press 99 = .ok (.getfield 168, 3) := by decide +kernel
theorem dX6_press_102 : decode cX6_press 102 = .ok (.ireturn, 1) := by decide +kernel
theorem dX6_clean_0 : decode cX6_clean 0 = .ok (.aload_n 0, 1) := by decide +kernel
theorem dX6_clean_1 : decode cX6_clean 1 = .ok (.getfield 12, 3) := by decide +kernel
theorem dX6_clean_4 : decode cX6_clean 4 = .ok (.invokevirtual 64, 3) := by decide +kernel
theorem dX6_clean_7 : decode cX6_clean 7 = .ok (.aload_n 0, 1) := by decide +kernel
theorem dX6_clean_8 : decode cX6_clean 8 = .ok (.getfield 12, 3) := by decide +kernel
theorem dX6_clean_11 : decode cX6_clean 11 = .ok (.getfield 47, 3) := by decide +kernel
theorem dX6_clean_14 : decode cX6_clean 14 = .ok (.iconst 4, 1) := by decide +kernel
theorem dX6_clean_15 : decode cX6_clean 15 = .ok (.invokevirtual 51, 3) := by decide +kernel
theorem dX6_clean_18 : decode cX6_clean 18 = .ok (.istore_n 1, 1) := by decide +kernel
theorem dX6_clean_19 : decode cX6_clean 19 = .ok (.aload_n 0, 1) := by decide +kernel
theorem dX6_clean_20 : decode cX6_clean 20 = .ok (.aload_n 0, 1) := by decide +kernel
theorem dX6_clean_21 : decode cX6_clean 21 = .ok (.getfield 12, 3) := by decide +kernel
theorem dX6_clean_24 : decode cX6_clean 24 = .ok (.getfield 47, 3) := by decide +kernel
theorem dX6_clean_27 : decode cX6_clean 27 = .ok (.iconst 3, 1) := by decide +kernel
theorem dX6_clean_28 : decode cX6_clean 28 = .ok (.invokevirtual 51, 3) := by decide +kernel
theorem dX6_clean_31 : decode cX6_clean 31 = .ok (.iload_n 1, 1) := by decide +kernel
theorem dX6_clean_32 : decode cX6_clean 32 = .ok (.invokevirtual 153, 3) := by decide +kernel
theorem dX6_clean_35 : decode cX6_clean 35 = .ok (.aload_n 0, 1) := by decide +kernel
theorem dX6_clean_36 : decode cX6_clean 36 = .ok (.getfield 12, 3) := by decide +kernel
theorem dX6_clean_39 : decode cX6_clean 39 = .ok (.getfield 47, 3) := by decide +kernel
theorem dX6_clean_42 : decode cX6_clean 42 = .ok (.iconst 4, 1) := by decide +kernel
theorem dX6_clean_43 : decode cX6_clean 43 = .ok (.iconst 0, 1) := by decide +kernel
theorem dX6_clean_44 : decode cX6_clean 44 = .ok (.invokevirtual 136, 3) := by decide +kernel
theorem dX6_clean_47 : decode cX6_clean 47 = .ok (.iload_n 1, 1) := by decide +kernel
theorem dX6_clean_48 : decode cX6_clean 48 = .ok (.ireturn, 1) := by decide +kernel
theorem dX6_appeal_0 : decode cX6_appeal 0 = .ok (.aload_n 0, 1) := by decide +kernel
theorem dX6_appeal_1 : decode cX6_appeal 1 = .ok (.iload_n 1, 1) := by decide +kernel
theorem dX6_appeal_2 : decode cX6_appeal 2 = .ok (.invokevirtual 171, 3) := by decide +kernel
theorem dX6_appeal_5 : decode cX6_appeal 5 = .ok (.aload_n 0, 1) := by decide +kernel
theorem dX6_appeal_6 : decode cX6_appeal 6 = .ok (.iload_n 1, 1) := by decide +kernel
theorem dX6_appeal_7 : decode cX6_appeal 7 = .ok (.invokevirtual 174, 3) := by decide +kernel
theorem dX6_appeal_10 : decode cX6_appeal 10 = .ok (.ifCond .eq 13, 3) := by decide +kernel
theorem dX6_appeal_13 : decode cX6_appeal 13 = .ok (.new 57, 3) := by decide +kernel
theorem dX6_appeal_16 : decode cX6_appeal 16 = .ok (.dup, 1) := by decide +kernel
theorem dX6_appeal_17 : decode cX6_appeal 17 = .ok (.ldc 177, 2) := by decide +kernel
theorem dX6_appeal_19 : decode cX6_appeal 19 = .ok (.invokespecial 61, 3) := by decide +kernel
theorem dX6_appeal_22 : decode cX6_appeal 22 = .ok (.athrow, 1) := by decide +kernel
theorem dX6_appeal_23 : decode cX6_appeal 23 = .ok (.aload_n 0, 1) := by decide +kernel
theorem dX6_appeal_24 : decode cX6_appeal 24 = .ok (.getfield 12, 3) := by decide +kernel
theorem dX6_appeal_27 : decode cX6_appeal 27 = .ok (.invokevirtual 64, 3) := by decide +kernel
theorem dX6_appeal_30 : decode cX6_appeal 30 = .ok (.aload_n 0, 1) := by decide +kernel
theorem dX6_appeal_31 : decode cX6_appeal 31 = .ok (.iload_n 1, 1) := by decide +kernel
theorem dX6_appeal_32 : decode cX6_appeal 32 = .ok (.invokevirtual 179, 3) := by decide +kernel
theorem dX6_appeal_35 : decode cX6_appeal 35 = .ok (.istore_n 2, 1) := by decide +kernel
theorem dX6_appeal_36 : decode cX6_appeal 36 = .ok (.aload_n 0, 1) := by decide +kernel
theorem dX6_appeal_37 : decode cX6_appeal 37 = .ok (.getfield 12, 3) := by decide +kernel
theorem dX6_appeal_40 : decode cX6_appeal 40 = .ok (.getfield 182, 3) := by decide +kernel
theorem dX6_appeal_43 : decode cX6_appeal 43 = .ok (.iload_n 1, 1) := by decide +kernel
theorem dX6_appeal_44 : decode cX6_appeal 44 = .ok (.iconst 1, 1) := by decide +kernel
theorem dX6_appeal_45 : decode cX6_appeal 45 = .ok (.invokevirtual 116, 3) := by decide +kernel
theorem dX6_appeal_48 : decode cX6_appeal 48 = .ok (.istore_n 3, 1) := by decide +kernel
theorem dX6_appeal_49 : decode cX6_appeal 49 = .ok (.aload_n 0, 1) := by decide +kernel
theorem dX6_appeal_50 : decode cX6_appeal 50 = .ok (.getfield 12, 3) := by decide +kernel
theorem dX6_appeal_53 : decode cX6_appeal 53 = .ok (.getfield 182, 3) := by decide +kernel
theorem dX6_appeal_56 : decode cX6_appeal 56 = .ok (.iload_n 1, 1) := by decide +kernel
theorem dX6_appeal_57 : decode cX6_appeal 57 = .ok (.iconst 5, 1) := by decide +kernel
theorem dX6_appeal_58 : decode cX6_appeal 58 = .ok (.iconst 2, 1) := by decide +kernel
theorem dX6_appeal_59 : decode cX6_appeal 59 = .ok (.invokevirtual 102, 3) := by decide +kernel
theorem dX6_appeal_62 : decode cX6_appeal 62 = .ok (.aload_n 0, 1) := by decide +kernel
theorem dX6_appeal_63 : decode cX6_appeal 63 = .ok (.getfield 12, 3) := by decide +kernel
theorem dX6_appeal_66 : decode cX6_appeal 66 = .ok (.getfield 182, 3) := by decide +kernel
theorem dX6_appeal_69 : decode cX6_appeal 69 = .ok (.iload_n 1, 1) := by decide +kernel
theorem dX6_appeal_70 : decode cX6_appeal 70 = .ok (.bipush 9, 2) := by decide +kernel
theorem dX6_appeal_72 : decode cX6_appeal 72 = .ok (.iload_n 2, 1) := by decide +kernel
theorem dX6_appeal_73 : decode cX6_appeal 73 = .ok (.invokevirtual 102, 3) := by decide +kernel
theorem dX6_appeal_76 : decode cX6_appeal 76 = .ok (.aload_n 0, 1) := by decide +kernel
theorem dX6_appeal_77 : decode cX6_appeal 77 = .ok (.getfield 12, 3) := by decide +kernel
theorem dX6_appeal_80 : decode cX6_appeal 80 = .ok (.getfield 113, 3) := by decide +kernel
theorem dX6_appeal_83 : decode cX6_appeal 83 = .ok (.iload_n 3, 1) := by decide +kernel
theorem dX6_appeal_84 : decode cX6_appeal 84 = .ok (.iconst 1, 1) := by decide +kernel
theorem dX6_appeal_85 : decode cX6_appeal 85 = .ok (.iload_n 2, 1) := by decide +kernel
theorem dX6_appeal_86 : decode cX6_appeal 86 = .ok (.invokevirtual 185, 3) := by decide +kernel
theorem dX6_appeal_89 : decode cX6_appeal 89 = .ok (.aload_n 0, 1) := by decide +kernel
theorem dX6_appeal_90 : decode cX6_appeal 90 = .ok (.getfield 21, 3) := by decide +kernel
theorem dX6_appeal_93 : decode cX6_appeal 93 = .ok (.aload_n 0, 1) := by decide +kernel
theorem dX6_appeal_94 : decode cX6_appeal 94 = .ok (.getfield 12, 3) := by decide +kernel
theorem dX6_appeal_97 : decode cX6_appeal 97 = .ok (.getfield 182, 3) := by decide +kernel
theorem dX6_appeal_100 : decode cX6_appeal 100 = .ok (.iload_n 1, 1) := by decide +kernel
theorem dX6_appeal_101 : decode cX6_appeal 101 = .ok (.bipush 10, 2) := by decide +kernel
theorem dX6_appeal_103 : decode cX6_appeal 103 = .ok (.invokevirtual 116, 3) := by decide +kernel
theorem dX6_appeal_106 : decode cX6_appeal 106 = .ok (.iload_n 3, 1) := by decide +kernel
theorem dX6_appeal_107 : decode cX6_appeal 107 = .ok (.iload_n 2, 1) := by decide +kernel
theorem dX6_appeal_108 : decode cX6_appeal 108 = .ok (.aload_n 0, 1) := by decide +kernel
theorem dX6_appeal_109 : decode cX6_appeal 109 = .ok (.getfield 12, 3) := by decide +kernel
theorem dX6_appeal_112 : decode cX6_appeal 112 = .ok (.iload_n 1, 1) := by decide +kernel
theorem dX6_appeal_113 : decode cX6_appeal 113 = .ok (.invokevirtual 187, 3) := by decide +kernel
theorem dX6_appeal_116 : decode cX6_appeal 116 = .ok (.invokevirtual 190, 3) := by decide +kernel
theorem dX6_appeal_119 : decode cX6_appeal 119 = .ok (.aload_n 0, 1) := by decide +kernel
theorem dX6_appeal_120 : decode cX6_appeal 120 = .ok (.aload_n 0, 1) := by decide +kernel
theorem dX6_appeal_121 : decode cX6_appeal 121 = .ok (.getfield 12, 3) := by decide +kernel
theorem dX6_appeal_124 : decode cX6_appeal 124 = .ok (.getfield 182, 3) := by decide +kernel
theorem dX6_appeal_127 : decode cX6_appeal 127 = .ok (.iload_n 1, 1) := by decide +kernel
theorem dX6_appeal_128 : decode cX6_appeal 128 = .ok (.iconst 0, 1) := by decide +kernel
theorem dX6_appeal_129 : decode cX6_appeal 129 = .ok (.invokevirtual 116, 3) := by decide +kernel
theorem dX6_appeal_132 : decode cX6_appeal 132 = .ok (.iload_n 2, 1) := by decide +kernel
theorem dX6_appeal_133 : decode cX6_appeal 133 = .ok (.invokevirtual 194, 3) := by decide +kernel
theorem dX6_appeal_136 : decode cX6_appeal 136 = .ok (.iload_n 2, 1) := by decide +kernel
theorem dX6_appeal_137 : decode cX6_appeal 137 = .ok (.ireturn, 1) := by decide +kernel
theorem dX6_draw_0 : decode cX6_draw 0 = .ok (.aload_n 0, 1) := by decide +kernel
theorem dX6_draw_1 : decode cX6_draw 1 = .ok (.iload_n 1, 1) := by decide +kernel
theorem dX6_draw_2 : decode cX6_draw 2 = .ok (.invokevirtual 71, 3) := by decide +kernel
theorem dX6_draw_5 : decode cX6_draw 5 = .ok (.aload_n 0, 1) := by decide +kernel
theorem dX6_draw_6 : decode cX6_draw 6 = .ok (.iload_n 2, 1) := by decide +kernel
theorem dX6_draw_7 : decode cX6_draw 7 = .ok (.invokevirtual 138, 3) := by decide +kernel
theorem dX6_draw_10 : decode cX6_draw 10 = .ok (.iload_n 3, 1) := by decide +kernel
theorem dX6_draw_11 : decode cX6_draw 11 = .ok (.invokestatic 197, 3) := by decide +kernel
theorem dX6_draw_14 : decode cX6_draw 14 = .ok (.aload_n 0, 1) := by decide +kernel
theorem dX6_draw_15 : decode cX6_draw 15 = .ok (.getfield 12, 3) := by decide +kernel
theorem dX6_draw_18 : decode cX6_draw 18 = .ok (.getfield 200, 3) := by decide +kernel
theorem dX6_draw_21 : decode cX6_draw 21 = .ok (.iload_n 1, 1) := by decide +kernel
theorem dX6_draw_22 : decode cX6_draw 22 = .ok (.iconst 0, 1) := by decide +kernel
theorem dX6_draw_23 : decode cX6_draw 23 = .ok (.invokevirtual 116, 3) := by decide +kernel
theorem dX6_draw_26 : decode cX6_draw 26 = .ok (.iload_n 3, 1) := by decide +kernel
theorem dX6_draw_27 : decode cX6_draw 27 = .ok (.if_icmp .lt 15, 3) := by decide +kernel
theorem dX6_draw_30 : decode cX6_draw 30 = .ok (.aload_n 0, 1) := by decide +kernel
theorem dX6_draw_31 : decode cX6_draw 31 = .ok (.getfield 21, 3) := by decide +kernel
theorem dX6_draw_34 : decode cX6_draw 34 = .ok (.iload_n 2, 1) := by decide +kernel
theorem dX6_draw_35 : decode cX6_draw 35 = .ok (.invokevirtual 203, 3) := by decide +kernel
theorem dX6_draw_38 : decode cX6_draw 38 = .ok (.iload_n 3, 1) := by decide +kernel
theorem dX6_draw_39 : decode cX6_draw 39 = .ok (.if_icmp .ge 13, 3) := by decide +kernel
theorem dX6_draw_42 : decode cX6_draw 42 = .ok (.new 57, 3) := by decide +kernel
theorem dX6_draw_45 : decode cX6_draw 45 = .ok (.dup, 1) := by decide +kernel
theorem dX6_draw_46 : decode cX6_draw 46 = .ok (.ldc 206, 2) := by decide +kernel
theorem dX6_draw_48 : decode cX6_draw 48 = .ok (.invokespecial 61, 3) := by decide +kernel
theorem dX6_draw_51 : decode cX6_draw 51 = .ok (.athrow, 1) := by decide +kernel
theorem dX6_draw_52 : decode cX6_draw 52 = .ok (.aload_n 0, 1) := by decide +kernel
theorem dX6_draw_53 : decode cX6_draw 53 = .ok (.getfield 12, 3) := by decide +kernel
theorem dX6_draw_56 : decode cX6_draw 56 = .ok (.invokevirtual 64, 3) := by decide +kernel
theorem dX6_draw_59 : decode cX6_draw 59 = .ok (.aload_n 0, 1) := by decide +kernel
theorem dX6_draw_60 : decode cX6_draw 60 = .ok (.getfield 21, 3) := by decide +kernel
theorem dX6_draw_63 : decode cX6_draw 63 = .ok (.iload_n 2, 1) := by decide +kernel
theorem dX6_draw_64 : decode cX6_draw 64 = .ok (.iload_n 3, 1) := by decide +kernel
theorem dX6_draw_65 : decode cX6_draw 65 = .ok (.invokevirtual 208, 3) := by decide +kernel
theorem dX6_draw_68 : decode cX6_draw 68 = .ok (.iconst 0, 1) := by decide +kernel
theorem dX6_draw_69 : decode cX6_draw 69 = .ok (.istore 4, 2) := by decide +kernel
theorem dX6_draw_71 : decode cX6_draw 71 = .ok (.iload 4, 2) := by decide +kernel
theorem dX6_draw_73 : decode cX6_draw 73 = .ok (.iconst 5, 1) := by decide +kernel
theorem dX6_draw_74 : decode cX6_draw 74 = .ok (.if_icmp .ge 31, 3) := by decide +kernel
theorem dX6_draw_77 : decode cX6_draw 77 = .ok (.aload_n 0, 1) := by decide +kernel
theorem dX6_draw_78 : decode cX6_draw 78 = .ok (.getfield 12, 3) := by decide +kernel
theorem dX6_draw_81 : decode cX6_draw 81 = .ok (.getfield 113, 3) := by decide +kernel
theorem dX6_draw_84 : decode cX6_draw 84 = .ok (.iload 4, 2) := by decide +kernel
theorem dX6_draw_86 : decode cX6_draw 86 = .ok (.iconst 2, 1) := by decide +kernel
theorem dX6_draw_87 : decode cX6_draw 87 = .ok (.aload_n 0, 1) := by decide +kernel
theorem dX6_draw_88 : decode cX6_draw 88 = .ok (.getfield 21, 3) := by decide +kernel
theorem dX6_draw_91 : decode cX6_draw 91 = .ok (.iload 4, 2) := by decide +kernel
theorem dX6_draw_93 : decode cX6_draw 93 = .ok (.invokevirtual 211, 3) := by decide +kernel
theorem dX6_draw_96 : decode cX6_draw 96 = .ok (.invokevirtual 185, 3) := by decide +kernel
theorem dX6_draw_99 : decode cX6_draw 99 = .ok (.iinc 4 1, 3) := by decide +kernel
theorem dX6_draw_102 : decode cX6_draw 102 = .ok (.goto (-31), 3) := by decide +kernel
theorem dX6_draw_105 : decode cX6_draw 105 = .ok (.aload_n 0, 1) := by decide +kernel
theorem dX6_draw_106 : decode cX6_draw 106 = .ok (.getfield 12, 3) := by decide +kernel
theorem dX6_draw_109 : decode cX6_draw 109 = .ok (.getfield 200, 3) := by decide +kernel
theorem dX6_draw_112 : decode cX6_draw 112 = .ok (.iload_n 1, 1) := by decide +kernel
theorem dX6_draw_113 : decode cX6_draw 113 = .ok (.iconst 0, 1) := by decide +kernel
theorem dX6_draw_114 : decode cX6_draw 114 = .ok (.iload_n 3, 1) := by decide +kernel
theorem dX6_draw_115 : decode cX6_draw 115 = .ok (.ineg, 1) := by decide +kernel
theorem dX6_draw_116 : decode cX6_draw 116 = .ok (.invokevirtual 185, 3) := by decide +kernel
theorem dX6_draw_119 : decode cX6_draw 119 = .ok (.aload_n 0, 1) := by decide +kernel
theorem dX6_draw_120 : decode cX6_draw 120 = .ok (.getfield 12, 3) := by decide +kernel
theorem dX6_draw_123 : decode cX6_draw 123 = .ok (.getfield 200, 3) := by decide +kernel
theorem dX6_draw_126 : decode cX6_draw 126 = .ok (.iload_n 1, 1) := by decide +kernel
theorem dX6_draw_127 : decode cX6_draw 127 = .ok (.iconst 1, 1) := by decide +kernel
theorem dX6_draw_128 : decode cX6_draw 128 = .ok (.iload_n 3, 1) := by decide +kernel
theorem dX6_draw_129 : decode cX6_draw 129 = .ok (.invokevirtual 185, 3) := by decide +kernel
theorem dX6_draw_132 : decode cX6_draw 132 = .ok (.aload_n 0, 1) := by decide +kernel
theorem dX6_draw_133 : decode cX6_draw 133 = .ok (.getfield 12, 3) := by decide +kernel
theorem dX6_draw_136 : decode cX6_draw 136 = .ok (.getfield 200, 3) := by decide +kernel
theorem dX6_draw_139 : decode cX6_draw 139 = .ok (.iload_n 1, 1) := by decide +kernel
theorem dX6_draw_140 : decode cX6_draw 140 = .ok (.iconst 0, 1) := by decide +kernel
theorem dX6_draw_141 : decode cX6_draw 141 = .ok (.invokevirtual 116, 3) := by decide +kernel
theorem dX6_draw_144 : decode cX6_draw 144 = .ok (.ireturn, 1) := by decide +kernel
theorem dX6_move_0 : decode cX6_move 0 = .ok (.aload_n 0, 1) := by decide +kernel
theorem dX6_move_1 : decode cX6_move 1 = .ok (.iload_n 1, 1) := by decide +kernel
theorem dX6_move_2 : decode cX6_move 2 = .ok (.invokevirtual 138, 3) := by decide +kernel
theorem dX6_move_5 : decode cX6_move 5 = .ok (.aload_n 0, 1) := by decide +kernel
theorem dX6_move_6 : decode cX6_move 6 = .ok (.iload_n 2, 1) := by decide +kernel
theorem dX6_move_7 : decode cX6_move 7 = .ok (.invokevirtual 138, 3) := by decide +kernel
theorem dX6_move_10 : decode cX6_move 10 = .ok (.iload_n 1, 1) := by decide +kernel
theorem dX6_move_11 : decode cX6_move 11 = .ok (.iload_n 2, 1) := by decide +kernel
theorem dX6_move_12 : decode cX6_move 12 = .ok (.if_icmp .ne 13, 3) := by decide +kernel
theorem dX6_move_15 : decode cX6_move 15 = .ok (.new 83, 3) := by decide +kernel
theorem dX6_move_18 : decode cX6_move 18 = .ok (.dup, 1) := by decide +kernel
theorem dX6_move_19 : decode cX6_move 19 = .ok (.ldc 214, 2) := by decide +kernel
theorem dX6_move_21 : decode cX6_move 21 = .ok (.invokespecial 87, 3) := by decide +kernel
theorem dX6_move_24 : decode cX6_move 24 = .ok (.athrow, 1) := by decide +kernel
theorem dX6_move_25 : decode cX6_move 25 = .ok (.iload_n 3, 1) := by decide +kernel
theorem dX6_move_26 : decode cX6_move 26 = .ok (.invokestatic 197, 3) := by decide +kernel
theorem dX6_move_29 : decode cX6_move 29 = .ok (.aload_n 0, 1) := by decide +kernel
theorem dX6_move_30 : decode cX6_move 30 = .ok (.getfield 21, 3) := by decide +kernel
theorem dX6_move_33 : decode cX6_move 33 = .ok (.iload_n 1, 1) := by decide +kernel
theorem dX6_move_34 : decode cX6_move 34 = .ok (.invokevirtual 216, 3) := by decide +kernel
theorem dX6_move_37 : decode cX6_move 37 = .ok (.istore 5, 2) := by decide +kernel
theorem dX6_move_39 : decode cX6_move 39 = .ok (.aload_n 0, 1) := by decide +kernel
theorem dX6_move_40 : decode cX6_move 40 = .ok (.getfield 21, 3) := by decide +kernel
theorem dX6_move_43 : decode cX6_move 43 = .ok (.iload_n 1, 1) := by decide +kernel
theorem dX6_move_44 : decode cX6_move 44 = .ok (.invokevirtual 203, 3) := by decide +kernel
theorem dX6_move_47 : decode cX6_move 47 = .ok (.iload_n 3, 1) := by decide +kernel
theorem dX6_move_48 : decode cX6_move 48 = .ok (.if_icmp .lt 30, 3) := by decide +kernel
theorem dX6_move_51 : decode cX6_move 51 = .ok (.aload_n 0, 1) := by decide +kernel
theorem dX6_move_52 : decode cX6_move 52 = .ok (.getfield 21, 3) := by decide +kernel
theorem dX6_move_55 : decode cX6_move 55 = .ok (.iload_n 2, 1) := by decide +kernel
theorem dX6_move_56 : decode cX6_move 56 = .ok (.invokevirtual 219, 3) := by decide +kernel
theorem dX6_move_59 : decode cX6_move 59 = .ok (.iload_n 3, 1) := by decide +kernel
theorem dX6_move_60 : decode cX6_move 60 = .ok (.if_icmp .lt 18, 3) := by decide +kernel
theorem dX6_move_63 : decode cX6_move 63 = .ok (.aload_n 0, 1) := by decide +kernel
theorem dX6_move_64 : decode cX6_move 64 = .ok (.getfield 21, 3) := by decide +kernel
theorem dX6_move_67 : decode cX6_move 67 = .ok (.iload_n 2, 1) := by decide +kernel
theorem dX6_move_68 : decode cX6_move 68 = .ok (.iload 5, 2) := by decide +kernel
theorem dX6_move_70 : decode cX6_move 70 = .ok (.iload 4, 2) := by decide +kernel
theorem dX6_move_72 : decode cX6_move 72 = .ok (.invokevirtual 222, 3) := by decide +kernel
theorem dX6_move_75 : decode cX6_move 75 = .ok (.ifCond .ne 13, 3) := by decide +kernel
theorem dX6_move_78 : decode cX6_move 78 = .ok (.new 57, 3) := by decide +kernel
theorem dX6_move_81 : decode cX6_move 81 = .ok (.dup, 1) := by decide +kernel
theorem dX6_move_82 : decode cX6_move 82 = .ok (.ldc 226, 2) := by decide +kernel
theorem dX6_move_84 : decode cX6_move 84 = .ok (.invokespecial 61, 3) := by decide +kernel
theorem dX6_move_87 : decode cX6_move 87 = .ok (.athrow, 1) := by decide +kernel
theorem dX6_move_88 : decode cX6_move 88 = .ok (.aload_n 0, 1) := by decide +kernel
theorem dX6_move_89 : decode cX6_move 89 = .ok (.getfield 12, 3) := by decide +kernel
theorem dX6_move_92 : decode cX6_move 92 = .ok (.invokevirtual 64, 3) := by decide +kernel
theorem dX6_move_95 : decode cX6_move 95 = .ok (.aload_n 0, 1) := by decide +kernel
theorem dX6_move_96 : decode cX6_move 96 = .ok (.getfield 21, 3) := by decide +kernel
theorem dX6_move_99 : decode cX6_move 99 = .ok (.iload_n 1, 1) := by decide +kernel
theorem dX6_move_100 : decode cX6_move 100 = .ok (.iload_n 3, 1) := by decide +kernel
theorem dX6_move_101 : decode cX6_move 101 = .ok (.invokevirtual 208, 3) := by decide +kernel
theorem dX6_move_104 : decode cX6_move 104 = .ok (.iconst 0, 1) := by decide +kernel
theorem dX6_move_105 : decode cX6_move 105 = .ok (.istore 6, 2) := by decide +kernel
theorem dX6_move_107 : decode cX6_move 107 = .ok (.iload 6, 2) := by decide +kernel
theorem dX6_move_109 : decode cX6_move 109 = .ok (.iconst 5, 1) := by decide +kernel
theorem dX6_move_110 : decode cX6_move 110 = .ok (.if_icmp .ge 30, 3) := by decide +kernel
theorem dX6_move_113 : decode cX6_move 113 = .ok (.aload_n 0, 1) := by decide +kernel
theorem dX6_move_114 : decode cX6_move 114 = .ok (.getfield 21, 3) := by decide +kernel
theorem dX6_move_117 : decode cX6_move 117 = .ok (.iload_n 2, 1) := by decide +kernel
theorem dX6_move_118 : decode cX6_move 118 = .ok (.iload 6, 2) := by decide +kernel
theorem dX6_move_120 : decode cX6_move 120 = .ok (.aload_n 0, 1) := by decide +kernel
theorem dX6_move_121 : decode cX6_move 121 = .ok (.getfield 21, 3) := by decide +kernel
theorem dX6_move_124 : decode cX6_move 124 = .ok (.iload 6, 2) := by decide +kernel
theorem dX6_move_126 : decode cX6_move 126 = .ok (.invokevirtual 211, 3) := by decide +kernel
theorem dX6_move_129 : decode cX6_move 129 = .ok (.iload 5, 2) := by decide +kernel
theorem dX6_move_131 : decode cX6_move 131 = .ok (.invokevirtual 190, 3) := by decide +kernel
theorem dX6_move_134 : decode cX6_move 134 = .ok (.iinc 6 1, 3) := by decide +kernel
theorem dX6_move_137 : decode cX6_move 137 = .ok (.goto (-30), 3) := by decide +kernel
theorem dX6_move_140 : decode cX6_move 140 = .ok (.aload_n 0, 1) := by decide +kernel
theorem dX6_move_141 : decode cX6_move 141 = .ok (.getfield 21, 3) := by decide +kernel
theorem dX6_move_144 : decode cX6_move 144 = .ok (.iload_n 2, 1) := by decide +kernel
theorem dX6_move_145 : decode cX6_move 145 = .ok (.invokevirtual 203, 3) := by decide +kernel
theorem dX6_move_148 : decode cX6_move 148 = .ok (.ireturn, 1) := by decide +kernel
theorem dX6_pass_0 : decode cX6_pass 0 = .ok (.iload_n 1, 1) := by decide +kernel
theorem dX6_pass_1 : decode cX6_pass 1 = .ok (.iconst 1, 1) := by decide +kernel
theorem dX6_pass_2 : decode cX6_pass 2 = .ok (.bipush 100, 2) := by decide +kernel
theorem dX6_pass_4 : decode cX6_pass 4 = .ok (.invokestatic 79, 3) := by decide +kernel
theorem dX6_pass_7 : decode cX6_pass 7 = .ok (.ifCond .eq 13, 3) := by decide +kernel
theorem dX6_pass_10 : decode cX6_pass 10 = .ok (.new 83, 3) := by decide +kernel
theorem dX6_pass_13 : decode cX6_pass 13 = .ok (.dup, 1) := by decide +kernel
theorem dX6_pass_14 : decode cX6_pass 14 = .ok (.ldc 228, 2) := by decide +kernel
theorem dX6_pass_16 : decode cX6_pass 16 = .ok (.invokespecial 87, 3) := by decide +kernel
theorem dX6_pass_19 : decode cX6_pass 19 = .ok (.athrow, 1) := by decide +kernel
theorem dX6_pass_20 : decode cX6_pass 20 = .ok (.aload_n 0, 1) := by decide +kernel
theorem dX6_pass_21 : decode cX6_pass 21 = .ok (.getfield 12, 3) := by decide +kernel
theorem dX6_pass_24 : decode cX6_pass 24 = .ok (.invokevirtual 64, 3) := by decide +kernel
theorem dX6_pass_27 : decode cX6_pass 27 = .ok (.aload_n 0, 1) := by decide +kernel
theorem dX6_pass_28 : decode cX6_pass 28 = .ok (.getfield 12, 3) := by decide +kernel
theorem dX6_pass_31 : decode cX6_pass 31 = .ok (.getfield 47, 3) := by decide +kernel
theorem dX6_pass_34 : decode cX6_pass 34 = .ok (.bipush 6, 2) := by decide +kernel
theorem dX6_pass_36 : decode cX6_pass 36 = .ok (.iload_n 1, 1) := by decide +kernel
theorem dX6_pass_37 : decode cX6_pass 37 = .ok (.invokevirtual 67, 3) := by decide +kernel
theorem dX6_pass_40 : decode cX6_pass 40 = .ok (.iconst 0, 1) := by decide +kernel
theorem dX6_pass_41 : decode cX6_pass 41 = .ok (.istore_n 2, 1) := by decide +kernel
theorem dX6_pass_42 : decode cX6_pass 42 = .ok (.aload_n 0, 1) := by decide +kernel
theorem dX6_pass_43 : decode cX6_pass 43 = .ok (.getfield 12, 3) := by decide +kernel
theorem dX6_pass_46 : decode cX6_pass 46 = .ok (.getfield 47, 3) := by decide +kernel
theorem dX6_pass_49 : decode cX6_pass 49 = .ok (.iconst 2, 1) := by decide +kernel
theorem dX6_pass_50 : decode cX6_pass 50 = .ok (.invokevirtual 51, 3) := by decide +kernel
theorem dX6_pass_53 : decode cX6_pass 53 = .ok (.istore_n 3, 1) := by decide +kernel
theorem dX6_pass_54 : decode cX6_pass 54 = .ok (.iconst 0, 1) := by decide +kernel
theorem dX6_pass_55 : decode cX6_pass 55 = .ok (.istore 4, 2) := by decide +kernel
theorem dX6_pass_57 : decode cX6_pass 57 = .ok (.iload 4, 2) := by decide +kernel
theorem dX6_pass_59 : decode cX6_pass 59 = .ok (.iload_n 3, 1) := by decide +kernel
theorem dX6_pass_60 : decode cX6_pass 60 = .ok (.if_icmp .ge 39, 3) := by decide +kernel
theorem dX6_pass_63 : decode cX6_pass 63 = .ok (.iconst 0, 1) := by decide +kernel
theorem dX6_pass_64 : decode cX6_pass 64 = .ok (.istore 5, 2) := by decide +kernel
theorem dX6_pass_66 : decode cX6_pass 66 = .ok (.iload 5, 2) := by decide +kernel
theorem dX6_pass_68 : decode cX6_pass 68 = .ok (.iconst 5, 1) := by decide +kernel
theorem dX6_pass_69 : decode cX6_pass 69 = .ok (.if_icmp .ge 24, 3) := by decide +kernel
theorem dX6_pass_72 : decode cX6_pass 72 = .ok (.iload_n 2, 1) := by decide +kernel
theorem dX6_pass_73 : decode cX6_pass 73 = .ok (.aload_n 0, 1) := by decide +kernel
theorem dX6_pass_74 : decode cX6_pass 74 = .ok (.getfield 21, 3) := by decide +kernel
theorem dX6_pass_77 : decode cX6_pass 77 = .ok (.iload 4, 2) := by decide +kernel
theorem dX6_pass_79 : decode cX6_pass 79 = .ok (.iload 5, 2) := by decide +kernel
theorem dX6_pass_81 : decode cX6_pass 81 = .ok (.iload_n 1, 1) := by decide +kernel
theorem dX6_pass_82 : decode cX6_pass 82 = .ok (.invokevirtual 230, 3) := by decide +kernel
theorem dX6_pass_85 : decode cX6_pass 85 = .ok (.iadd, 1) := by decide +kernel
theorem dX6_pass_86 : decode cX6_pass 86 = .ok (.istore_n 2, 1) := by decide +kernel
theorem dX6_pass_87 : decode cX6_pass 87 = .ok (.iinc 5 1, 3) := by decide +kernel
theorem dX6_pass_90 : decode cX6_pass 90 = .ok (.goto (-24), 3) := by decide +kernel
theorem dX6_pass_93 : decode cX6_pass 93 = .ok (.iinc 4 1, 3) := by decide +kernel
theorem dX6_pass_96 : decode cX6_pass 96 = .ok (.goto (-39), 3) := by decide +kernel
theorem dX6_pass_99 : decode cX6_pass 99 = .ok (.iload_n 2, 1) := by decide +kernel
theorem dX6_pass_100 : decode cX6_pass 100 = .ok (.ireturn, 1) := by decide +kernel
theorem dX6_append_0 : decode cX6_append 0 = .ok (.iload_n 1, 1) := by decide +kernel
theorem dX6_append_1 : decode cX6_append 1 = .ok (.bipush 33, 2) := by decide +kernel
theorem dX6_append_3 : decode cX6_append 3 = .ok (.bipush 126, 2) := by decide +kernel
theorem dX6_append_5 : decode cX6_append 5 = .ok (.invokestatic 79, 3) := by decide +kernel
theorem dX6_append_8 : decode cX6_append 8 = .ok (.ifCond .eq 13, 3) := by decide +kernel
theorem dX6_append_11 : decode cX6_append 11 = .ok (.new 83, 3) := by decide +kernel
theorem dX6_append_14 : decode cX6_append 14 = .ok (.dup, 1) := by decide +kernel
theorem dX6_append_15 : decode cX6_append 15 = .ok (.ldc 234, 2) := by decide +kernel
theorem dX6_append_17 : decode cX6_append 17 = .ok (.invokespecial 87, 3) := by decide +kernel
theorem dX6_append_20 : decode cX6_append 20 = .ok (.athrow, 1) := by decide +kernel
theorem dX6_append_21 : decode cX6_append 21 = .ok (.aload_n 0, 1) := by decide +kernel
theorem dX6_append_22 : decode cX6_append 22 = .ok (.getfield 43, 3) := by decide +kernel
theorem dX6_append_25 : decode cX6_append 25 = .ok (.ifCond .lt 15, 3) := by decide +kernel
theorem dX6_append_28 : decode cX6_append 28 = .ok (.aload_n 0, 1) := by decide +kernel
theorem dX6_append_29 : decode cX6_append 29 = .ok (.getfield 43, 3) := by decide +kernel
theorem dX6_append_32 : decode cX6_append 32 = .ok (.aload_n 0, 1) := by decide +kernel
theorem dX6_append_33 : decode cX6_append 33 = .ok (.getfield 39, 3) := by decide +kernel
theorem dX6_append_36 : decode cX6_append 36 = .ok (.arraylength, 1) := by decide +kernel
theorem dX6_append_37 : decode cX6_append 37 = .ok (.if_icmp .lt 13, 3) := by decide +kernel
theorem dX6_append_40 : decode cX6_append 40 = .ok (.new 57, 3) := by decide +kernel
theorem dX6_append_43 : decode cX6_append 43 = .ok (.dup, 1) := by decide +kernel
theorem dX6_append_44 : decode cX6_append 44 = .ok (.ldc 236, 2) := by decide +kernel
theorem dX6_append_46 : decode cX6_append 46 = .ok (.invokespecial 61, 3) := by decide +kernel
theorem dX6_append_49 : decode cX6_append 49 = .ok (.athrow, 1) := by decide +kernel
theorem dX6_append_50 : decode cX6_append 50 = .ok (.aload_n 0, 1) := by decide +kernel
theorem dX6_append_51 : decode cX6_append 51 = .ok (.getfield 39, 3) := by decide +kernel
theorem dX6_append_54 : decode cX6_append 54 = .ok (.aload_n 0, 1) := by decide +kernel
theorem dX6_append_55 : decode cX6_append 55 = .ok (.getfield 43, 3) := by decide +kernel
theorem dX6_append_58 : decode cX6_append 58 = .ok (.iload_n 1, 1) := by decide +kernel
theorem dX6_append_59 : decode cX6_append 59 = .ok (.iastore, 1) := by decide +kernel
theorem dX6_append_60 : decode cX6_append 60 = .ok (.aload_n 0, 1) := by decide +kernel
theorem dX6_append_61 : decode cX6_append 61 = .ok (.dup, 1) := by decide +kernel
theorem dX6_append_62 : decode cX6_append 62 = .ok (.getfield 43, 3) := by decide +kernel
theorem dX6_append_65 : decode cX6_append 65 = .ok (.iconst 1, 1) := by decide +kernel
theorem dX6_append_66 : decode cX6_append 66 = .ok (.iadd, 1) := by decide +kernel
theorem dX6_append_67 : decode cX6_append 67 = .ok (.putfield 43, 3) := by decide +kernel
theorem dX6_append_70 : decode cX6_append 70 = .ok (.aload_n 0, 1) := by decide +kernel
theorem dX6_append_71 : decode cX6_append 71 = .ok (.getfield 43, 3) := by decide +kernel
theorem dX6_append_74 : decode cX6_append 74 = .ok (.ireturn, 1) := by decide +kernel
theorem dX6_clearBuffer_0 : decode cX6_clearBuffer 0 = .ok (.aload_n 0, 1) := by decide +kernel
theorem dX6_clearBuffer_1 : decode cX6_clearBuffer 1 = .ok (.getfield 43, 3) := by decide +kernel
theorem dX6_clearBuffer_4 : decode cX6_clearBuffer 4 = .ok (.istore_n 1, 1) := by decide +kernel
theorem dX6_clearBuffer_5 : decode cX6_clearBuffer 5 = .ok (.aload_n 0, 1) := by decide +kernel
theorem dX6_clearBuffer_6 : decode cX6_clearBuffer 6 = .ok (.iconst 0, 1) := by decide +kernel
theorem dX6_clearBuffer_7 : decode cX6_clearBuffer 7 = .ok (.putfield 43, 3) := by decide +kernel
theorem dX6_clearBuffer_10 : decode cX6_clearBuffer 10 = .ok (.iload_n 1, 1) := by decide +kernel
theorem dX6_clearBuffer_11 : decode cX6_clearBuffer 11 = .ok (.ireturn, 1) := by decide +kernel
theorem dX6_firstError_0 : decode cX6_firstError 0 = .ok (.aload_n 0, 1) := by decide +kernel
theorem dX6_firstError_1 : decode cX6_firstError 1 = .ok (.getfield 35, 3) := by decide +kernel
theorem dX6_firstError_4 : decode cX6_firstError 4 = .ok (.invokevirtual 238, 3) := by decide +kernel
theorem dX6_firstError_7 : decode cX6_firstError 7 = .ok (.iconst 0, 1) := by decide +kernel
theorem dX6_firstError_8 : decode cX6_firstError 8 = .ok (.istore_n 1, 1) := by decide +kernel
theorem dX6_firstError_9 : decode cX6_firstError 9 = .ok (.iload_n 1, 1) := by decide +kernel
theorem dX6_firstError_10 : decode cX6_firstError 10 = .ok (.aload_n 0, 1) := by decide +kernel
theorem dX6_firstError_11 : decode cX6_firstError 11 = .ok (.getfield 43, 3) := by decide +kernel
theorem dX6_firstError_14 : decode cX6_firstError 14 = .ok (.if_icmp .ge 26, 3) := by decide +kernel
theorem dX6_firstError_17 : decode cX6_firstError 17 = .ok (.aload_n 0, 1) := by decide +kernel
theorem dX6_firstError_18 : decode cX6_firstError 18 = .ok (.getfield 35, 3) := by decide +kernel
theorem dX6_firstError_21 : decode cX6_firstError 21 = .ok (.aload_n 0, 1) := by decide +kernel
theorem dX6_firstError_22 : decode cX6_firstError 22 = .ok (.iload_n 1, 1) := by decide +kernel
theorem dX6_firstError_23 : decode cX6_firstError 23 = .ok (.invokevirtual 241, 3) := by decide +kernel
theorem dX6_firstError_26 : decode cX6_firstError 26 = .ok (.invokevirtual 244, 3) := by decide +kernel
theorem dX6_firstError_29 : decode cX6_firstError 29 = .ok (.ifCond .ne 5, 3) := by decide +kernel
theorem dX6_firstError_32 : decode cX6_firstError 32 = .ok (.iload_n 1, 1) := by decide +kernel
theorem dX6_firstError_33 : decode cX6_firstError 33 = .ok (.ireturn, 1) := by decide +kernel
theorem dX6_firstError_34 : decode cX6_firstError 34 = .ok (.iinc 1 1, 3) := by decide +kernel
theorem dX6_firstError_37 : decode cX6_firstError 37 = .ok (.goto (-28), 3) := by decide +kernel
theorem dX6_firstError_40 : decode cX6_firstError 40 = .ok (.aload_n 0, 1) := by decide +kernel
theorem dX6_firstError_41 : decode cX6_firstError 41 = .ok (.getfield 43, 3) := by decide +kernel
theorem dX6_firstError_44 : decode cX6_firstError 44 = .ok (.ireturn, 1) := by decide +kernel
theorem dX6_addSlips_0 : decode cX6_addSlips 0 = .ok (.aload_n 0, 1) := by decide +kernel
theorem dX6_addSlips_1 : decode cX6_addSlips 1 = .ok (.invokevirtual 247, 3) := by decide +kernel
theorem dX6_addSlips_4 : decode cX6_addSlips 4 = .ok (.aload_n 0, 1) := by decide +kernel
theorem dX6_addSlips_5 : decode cX6_addSlips 5 = .ok (.getfield 43, 3) := by decide +kernel
theorem dX6_addSlips_8 : decode cX6_addSlips 8 = .ok (.if_icmp .lt 13, 3) := by decide +kernel
theorem dX6_addSlips_11 : decode cX6_addSlips 11 = .ok (.aload_n 0, 1) := by decide +kernel
theorem dX6_addSlips_12 : decode cX6_addSlips 12 = .ok (.getfield 35, 3) := by decide +kernel
theorem dX6_addSlips_15 : decode cX6_addSlips 15 = .ok (.invokevirtual 251, 3) := by decide +kernel
theorem dX6_addSlips_18 : decode cX6_addSlips 18 = .ok (.ifCond .ne 13, 3) := by decide +kernel
theorem dX6_addSlips_21 : decode cX6_addSlips 21 = .ok (.new 83, 3) := by decide +kernel
theorem dX6_addSlips_24 : decode cX6_addSlips 24 = .ok (.dup, 1) := by decide +kernel
theorem dX6_addSlips_25 : decode cX6_addSlips 25 = .ok (.ldc 255, 2) := by decide +kernel
theorem dX6_addSlips_27 : decode cX6_addSlips 27 = .ok (.invokespecial 87, 3) := by decide +kernel
theorem dX6_addSlips_30 : decode cX6_addSlips 30 = .ok (.athrow, 1) := by decide +kernel
theorem dX6_addSlips_31 : decode cX6_addSlips 31 = .ok (.aload_n 0, 1) := by decide +kernel
theorem dX6_addSlips_32 : decode cX6_addSlips 32 = .ok (.getfield 12, 3) := by decide +kernel
theorem dX6_addSlips_35 : decode cX6_addSlips 35 = .ok (.invokevirtual 64, 3) := by decide +kernel
theorem dX6_addSlips_38 : decode cX6_addSlips 38 = .ok (.aload_n 0, 1) := by decide +kernel
theorem dX6_addSlips_39 : decode cX6_addSlips 39 = .ok (.invokevirtual 257, 3) := by decide +kernel
theorem dX6_addSlips_42 : decode cX6_addSlips 42 = .ok (.istore_n 1, 1) := by decide +kernel
theorem dX6_addSlips_43 : decode cX6_addSlips 43 = .ok (.aload_n 0, 1) := by decide +kernel
theorem dX6_addSlips_44 : decode cX6_addSlips 44 = .ok (.iconst 0, 1) := by decide +kernel
theorem dX6_addSlips_45 : decode cX6_addSlips 45 = .ok (.putfield 43, 3) := by decide +kernel
theorem dX6_addSlips_48 : decode cX6_addSlips 48 = .ok (.iload_n 1, 1) := by decide +kernel
theorem dX6_addSlips_49 : decode cX6_addSlips 49 = .ok (.ireturn, 1) := by decide +kernel
theorem dX6_undo_0 : decode cX6_undo 0 = .ok (.aload_n 0, 1) := by decide +kernel
theorem dX6_undo_1 : decode cX6_undo 1 = .ok (.getfield 12, 3) := by decide +kernel
theorem dX6_undo_4 : decode cX6_undo 4 = .ok (.getfield 260, 3) := by decide +kernel
theorem dX6_undo_7 : decode cX6_undo 7 = .ok (.ifCond .ne 14, 3) := by decide +kernel
theorem dX6_undo_10 : decode cX6_undo 10 = .ok (.new 57, 3) := by decide +kernel
theorem dX6_undo_13 : decode cX6_undo 13 = .ok (.dup, 1) := by decide +kernel
theorem dX6_undo_14 : decode cX6_undo 14 = .ok (.ldc_w 263, 3) := by decide +kernel
theorem dX6_undo_17 : decode cX6_undo 17 = .ok (.invokespecial 61, 3) := by decide +kernel
theorem dX6_undo_20 : decode cX6_undo 20 = .ok (.athrow, 1) := by decide +kernel
theorem dX6_undo_21 : decode cX6_undo 21 = .ok (.aload_n 0, 1) := by decide +kernel
theorem dX6_undo_22 : decode cX6_undo 22 = .ok (.getfield 12, 3) := by decide +kernel
theorem dX6_undo_25 : decode cX6_undo 25 = .ok (.invokevirtual 265, 3) := by decide +kernel
theorem dX6_undo_28 : decode cX6_undo 28 = .ok (.aload_n 0, 1) := by decide +kernel
theorem dX6_undo_29 : decode cX6_undo 29 = .ok (.getfield 12, 3) := by decide +kernel
theorem dX6_undo_32 : decode cX6_undo 32 = .ok (.getfield 260, 3) := by decide +kernel
theorem dX6_undo_35 : decode cX6_undo 35 = .ok (.ireturn, 1) := by decide +kernel
theorem dX6_grower_0 : decode cX6_grower 0 = .ok (.aload_n 0, 1) := by decide +kernel
theorem dX6_grower_1 : decode cX6_grower 1 = .ok (.iload_n 1, 1) := by decide +kernel
theorem dX6_grower_2 : decode cX6_grower 2 = .ok (.invokevirtual 71, 3) := by decide +kernel
theorem dX6_grower_5 : decode cX6_grower 5 = .ok (.iload_n 2, 1) := by decide +kernel
theorem dX6_grower_6 : decode cX6_grower 6 = .ok (.tableswitch 106 0 5 #[38, 51, 59, 67, 80, 93], 38) := by decide +kernel
theorem dX6_grower_44 : decode cX6_grower 44 = .ok (.aload_n 0, 1) := by decide +kernel
theorem dX6_grower_45 : decode cX6_grower 45 = .ok (.getfield 12, 3) := by decide +kernel
theorem dX6_grower_48 : decode cX6_grower 48 = .ok (.getfield 200, 3) := by decide +kernel
theorem dX6_grower_51 : decode cX6_grower 51 = .ok (.iload_n 1, 1) := by decide +kernel
theorem dX6_grower_52 : decode cX6_grower 52 = .ok (.iconst 0, 1) := by decide +kernel
theorem dX6_grower_53 : decode cX6_grower 53 = .ok (.invokevirtual 116, 3) := by decide +kernel
theorem dX6_grower_56 : decode cX6_grower 56 = .ok (.ireturn, 1) := by decide +kernel
theorem dX6_grower_57 : decode cX6_grower 57 = .ok (.aload_n 0, 1) := by decide +kernel
theorem dX6_grower_58 : decode cX6_grower 58 = .ok (.iconst 0, 1) := by decide +kernel
theorem dX6_grower_59 : decode cX6_grower 59 = .ok (.iload_n 1, 1) := by decide +kernel
theorem dX6_grower_60 : decode cX6_grower 60 = .ok (.iconst 0, 1) := by decide +kernel
theorem dX6_grower_61 : decode cX6_grower 61 = .ok (.invokevirtual 268, 3) := by decide +kernel
theorem dX6_grower_64 : decode cX6_grower 64 = .ok (.ireturn, 1) := by decide +kernel
theorem dX6_grower_65 : decode cX6_grower 65 = .ok (.aload_n 0, 1) := by decide +kernel
theorem dX6_grower_66 : decode cX6_grower 66 = .ok (.iconst 0, 1) := by decide +kernel
theorem dX6_grower_67 : decode cX6_grower 67 = .ok (.iload_n 1, 1) := by decide +kernel
theorem dX6_grower_68 : decode cX6_grower 68 = .ok (.iconst 1, 1) := by decide +kernel
theorem dX6_grower_69 : decode cX6_grower 69 = .ok (.invokevirtual 268, 3) := by decide +kernel
theorem dX6_grower_72 : decode cX6_grower 72 = .ok (.ireturn, 1) := by decide +kernel
theorem dX6_grower_73 : decode cX6_grower 73 = .ok (.aload_n 0, 1) := by decide +kernel
theorem dX6_grower_74 : decode cX6_grower 74 = .ok (.getfield 12, 3) := by decide +kernel
theorem dX6_grower_77 : decode cX6_grower 77 = .ok (.getfield 200, 3) := by decide +kernel
theorem dX6_grower_80 : decode cX6_grower 80 = .ok (.iload_n 1, 1) := by decide +kernel
theorem dX6_grower_81 : decode cX6_grower 81 = .ok (.iconst 1, 1) := by decide +kernel
theorem dX6_grower_82 : decode cX6_grower 82 = .ok (.invokevirtual 116, 3) := by decide +kernel
theorem dX6_grower_85 : decode cX6_grower 85 = .ok (.ireturn, 1) := by decide +kernel
theorem dX6_grower_86 : decode cX6_grower 86 = .ok (.aload_n 0, 1) := by decide +kernel
theorem dX6_grower_87 : decode cX6_grower 87 = .ok (.getfield 12, 3) := by decide +kernel
theorem dX6_grower_90 : decode cX6_grower 90 = .ok (.getfield 200, 3) := by decide +kernel
theorem dX6_grower_93 : decode cX6_grower 93 = .ok (.iload_n 1, 1) := by decide +kernel
theorem dX6_grower_94 : decode cX6_grower 94 = .ok (.iconst 2, 1) := by decide +kernel
theorem dX6_grower_95 : decode cX6_grower 95 = .ok (.invokevirtual 116, 3) := by decide +kernel
theorem dX6_grower_98 : decode cX6_grower 98 = .ok (.ireturn, 1) := by decide +kernel
theorem dX6_grower_99 : decode cX6_grower 99 = .ok (.aload_n 0, 1) := by decide +kernel
theorem dX6_grower_100 : decode cX6_grower 100 = .ok (.getfield 12, 3) := by decide +kernel
theorem dX6_grower_103 : decode cX6_grower 103 = .ok (.getfield 200, 3) := by decide +kernel
theorem dX6_grower_106 : decode cX6_grower 106 = .ok (.iload_n 1, 1) := by decide +kernel
theorem dX6_grower_107 : decode cX6_grower 107 = .ok (.iconst 3, 1) := by decide +kernel
theorem dX6_grower_108 : decode cX6_grower 108 = .ok (.invokevirtual 116, 3) := by decide +kernel
theorem dX6_grower_111 : decode cX6_grower 111 = .ok (.ireturn, 1) := by decide +kernel
theorem dX6_grower_112 : decode cX6_grower 112 = .ok (.new 83, 3) := by decide +kernel
theorem dX6_grower_115 : decode cX6_grower 115 = .ok (.dup, 1) := by decide +kernel
theorem dX6_grower_116 : decode cX6_grower 116 = .ok (.ldc_w 272, 3) := by decide +kernel
theorem dX6_grower_119 : decode cX6_grower 119 = .ok (.invokespecial 87, 3) := by decide +kernel
theorem dX6_grower_122 : decode cX6_grower 122 = .ok (.athrow, 1) := by decide +kernel
theorem dX6_lot_0 : decode cX6_lot 0 = .ok (.aload_n 0, 1) := by decide +kernel
theorem dX6_lot_1 : decode cX6_lot 1 = .ok (.iload_n 1, 1) := by decide +kernel
theorem dX6_lot_2 : decode cX6_lot 2 = .ok (.invokevirtual 171, 3) := by decide +kernel
theorem dX6_lot_5 : decode cX6_lot 5 = .ok (.iload_n 2, 1) := by decide +kernel
theorem dX6_lot_6 : decode cX6_lot 6 = .ok (.tableswitch 174 0 10 #[58, 71, 84, 97, 110, 119, 132, 141, 150, 159, 168], 58) := by decide +kernel
theorem dX6_lot_64 : decode cX6_lot 64 = .ok (.aload_n 0, 1) := by decide +kernel
theorem dX6_lot_65 : decode cX6_lot 65 = .ok (.getfield 12, 3) := by decide +kernel
theorem dX6_lot_68 : decode cX6_lot 68 = .ok (.getfield 182, 3) := by decide +kernel
theorem dX6_lot_71 : decode cX6_lot 71 = .ok (.iload_n 1, 1) := by decide +kernel
theorem dX6_lot_72 : decode cX6_lot 72 = .ok (.iconst 0, 1) := by decide +kernel
theorem dX6_lot_73 : decode cX6_lot 73 = .ok (.invokevirtual 116, 3) := by decide +kernel
theorem dX6_lot_76 : decode cX6_lot 76 = .ok (.ireturn, 1) := by decide +kernel
theorem dX6_lot_77 : decode cX6_lot 77 = .ok (.aload_n 0, 1) := by decide +kernel
theorem dX6_lot_78 : decode cX6_lot 78 = .ok (.getfield 12, 3) := by decide +kernel
theorem dX6_lot_81 : decode cX6_lot 81 = .ok (.getfield 182, 3) := by decide +kernel
theorem dX6_lot_84 : decode cX6_lot 84 = .ok (.iload_n 1, 1) := by decide +kernel
theorem dX6_lot_85 : decode cX6_lot 85 = .ok (.iconst 1, 1) := by decide +kernel
theorem dX6_lot_86 : decode cX6_lot 86 = .ok (.invokevirtual 116, 3) := by decide +kernel
theorem dX6_lot_89 : decode cX6_lot 89 = .ok (.ireturn, 1) := by decide +kernel
theorem dX6_lot_90 : decode cX6_lot 90 = .ok (.aload_n 0, 1) := by decide +kernel
theorem dX6_lot_91 : decode cX6_lot 91 = .ok (.getfield 12, 3) := by decide +kernel
theorem dX6_lot_94 : decode cX6_lot 94 = .ok (.getfield 182, 3) := by decide +kernel
theorem dX6_lot_97 : decode cX6_lot 97 = .ok (.iload_n 1, 1) := by decide +kernel
theorem dX6_lot_98 : decode cX6_lot 98 = .ok (.iconst 2, 1) := by decide +kernel
theorem dX6_lot_99 : decode cX6_lot 99 = .ok (.invokevirtual 116, 3) := by decide +kernel
theorem dX6_lot_102 : decode cX6_lot 102 = .ok (.ireturn, 1) := by decide +kernel
theorem dX6_lot_103 : decode cX6_lot 103 = .ok (.aload_n 0, 1) := by decide +kernel
theorem dX6_lot_104 : decode cX6_lot 104 = .ok (.getfield 12, 3) := by decide +kernel
theorem dX6_lot_107 : decode cX6_lot 107 = .ok (.getfield 182, 3) := by decide +kernel
theorem dX6_lot_110 : decode cX6_lot 110 = .ok (.iload_n 1, 1) := by decide +kernel
theorem dX6_lot_111 : decode cX6_lot 111 = .ok (.iconst 3, 1) := by decide +kernel
theorem dX6_lot_112 : decode cX6_lot 112 = .ok (.invokevirtual 116, 3) := by decide +kernel
theorem dX6_lot_115 : decode cX6_lot 115 = .ok (.ireturn, 1) := by decide +kernel
theorem dX6_lot_116 : decode cX6_lot 116 = .ok (.aload_n 0, 1) := by decide +kernel
theorem dX6_lot_117 : decode cX6_lot 117 = .ok (.getfield 12, 3) := by decide +kernel
theorem dX6_lot_120 : decode cX6_lot 120 = .ok (.iload_n 1, 1) := by decide +kernel
theorem dX6_lot_121 : decode cX6_lot 121 = .ok (.invokevirtual 187, 3) := by decide +kernel
theorem dX6_lot_124 : decode cX6_lot 124 = .ok (.ireturn, 1) := by decide +kernel
theorem dX6_lot_125 : decode cX6_lot 125 = .ok (.aload_n 0, 1) := by decide +kernel
theorem dX6_lot_126 : decode cX6_lot 126 = .ok (.getfield 12, 3) := by decide +kernel
theorem dX6_lot_129 : decode cX6_lot 129 = .ok (.getfield 182, 3) := by decide +kernel
theorem dX6_lot_132 : decode cX6_lot 132 = .ok (.iload_n 1, 1) := by decide +kernel
theorem dX6_lot_133 : decode cX6_lot 133 = .ok (.iconst 5, 1) := by decide +kernel
theorem dX6_lot_134 : decode cX6_lot 134 = .ok (.invokevirtual 116, 3) := by decide +kernel
theorem dX6_lot_137 : decode cX6_lot 137 = .ok (.ireturn, 1) := by decide +kernel
theorem dX6_lot_138 : decode cX6_lot 138 = .ok (.aload_n 0, 1) := by decide +kernel
theorem dX6_lot_139 : decode cX6_lot 139 = .ok (.iload_n 1, 1) := by decide +kernel
theorem dX6_lot_140 : decode cX6_lot 140 = .ok (.iconst 1, 1) := by decide +kernel
theorem dX6_lot_141 : decode cX6_lot 141 = .ok (.bipush 6, 2) := by decide +kernel
theorem dX6_lot_143 : decode cX6_lot 143 = .ok (.invokevirtual 274, 3) := by decide +kernel
theorem dX6_lot_146 : decode cX6_lot 146 = .ok (.ireturn, 1) := by decide +kernel
theorem dX6_lot_147 : decode cX6_lot 147 = .ok (.aload_n 0, 1) := by decide +kernel
theorem dX6_lot_148 : decode cX6_lot 148 = .ok (.iload_n 1, 1) := by decide +kernel
theorem dX6_lot_149 : decode cX6_lot 149 = .ok (.iconst 1, 1) := by decide +kernel
theorem dX6_lot_150 : decode cX6_lot 150 = .ok (.bipush 8, 2) := by decide +kernel
theorem dX6_lot_152 : decode cX6_lot 152 = .ok (.invokevirtual 274, 3) := by decide +kernel
theorem dX6_lot_155 : decode cX6_lot 155 = .ok (.ireturn, 1) := by decide +kernel
theorem dX6_lot_156 : decode cX6_lot 156 = .ok (.aload_n 0, 1) := by decide +kernel
theorem dX6_lot_157 : decode cX6_lot 157 = .ok (.iload_n 1, 1) := by decide +kernel
theorem dX6_lot_158 : decode cX6_lot 158 = .ok (.iconst 2, 1) := by decide +kernel
theorem dX6_lot_159 : decode cX6_lot 159 = .ok (.bipush 9, 2) := by decide +kernel
theorem dX6_lot_161 : decode cX6_lot 161 = .ok (.invokevirtual 274, 3) := by decide +kernel
theorem dX6_lot_164 : decode cX6_lot 164 = .ok (.ireturn, 1) := by decide +kernel
theorem dX6_lot_165 : decode cX6_lot 165 = .ok (.aload_n 0, 1) := by decide +kernel
theorem dX6_lot_166 : decode cX6_lot 166 = .ok (.iload_n 1, 1) := by decide +kernel
theorem dX6_lot_167 : decode cX6_lot 167 = .ok (.iconst 1, 1) := by decide +kernel
theorem dX6_lot_168 : decode cX6_lot 168 = .ok (.bipush 10, 2) := by decide +kernel
theorem dX6_lot_170 : decode cX6_lot 170 = .ok (.invokevirtual 274, 3) := by decide +kernel
theorem dX6_lot_173 : decode cX6_lot 173 = .ok (.ireturn, 1) := by decide +kernel
theorem dX6_lot_174 : decode cX6_lot 174 = .ok (.aload_n 0, 1) := by decide +kernel
theorem dX6_lot_175 : decode cX6_lot 175 = .ok (.iload_n 1, 1) := by decide +kernel
theorem dX6_lot_176 : decode cX6_lot 176 = .ok (.invokevirtual 174, 3) := by decide +kernel
theorem dX6_lot_179 : decode cX6_lot 179 = .ok (.ireturn, 1) := by decide +kernel
theorem dX6_lot_180 : decode cX6_lot 180 = .ok (.new 83, 3) := by decide +kernel
theorem dX6_lot_183 : decode cX6_lot 183 = .ok (.dup, 1) := by decide +kernel
theorem dX6_lot_184 : decode cX6_lot 184 = .ok (.ldc_w 277, 3) := by decide +kernel
theorem dX6_lot_187 : decode cX6_lot 187 = .ok (.invokespecial 87, 3) := by decide +kernel
theorem dX6_lot_190 : decode cX6_lot 190 = .ok (.athrow, 1) := by decide +kernel
theorem dX6_tank_0 : decode cX6_tank 0 = .ok (.aload_n 0, 1) := by decide +kernel
theorem dX6_tank_1 : decode cX6_tank 1 = .ok (.iload_n 1, 1) := by decide +kernel
theorem dX6_tank_2 : decode cX6_tank 2 = .ok (.invokevirtual 138, 3) := by decide +kernel
theorem dX6_tank_5 : decode cX6_tank 5 = .ok (.iload_n 2, 1) := by decide +kernel
theorem dX6_tank_6 : decode cX6_tank 6 = .ok (.tableswitch 123 0 14 #[74, 87, 96, 123, 123, 123, 123, 123, 123, 123, 105, 105, 105, 105, 105], 74) := by decide +kernel
theorem dX6_tank_80 : decode cX6_tank 80 = .ok (.aload_n 0, 1) := by decide +kernel
theorem dX6_tank_81 : decode cX6_tank 81 = .ok (.getfield 12, 3) := by decide +kernel
theorem dX6_tank_84 : decode cX6_tank 84 = .ok (.getfield 98, 3) := by decide +kernel
theorem dX6_tank_87 : decode cX6_tank 87 = .ok (.iload_n 1, 1) := by decide +kernel
theorem dX6_tank_88 : decode cX6_tank 88 = .ok (.iconst 0, 1) := by decide +kernel
theorem dX6_tank_89 : decode cX6_tank 89 = .ok (.invokevirtual 116, 3) := by decide +kernel
theorem dX6_tank_92 : decode cX6_tank 92 = .ok (.ireturn, 1) := by decide +kernel
theorem dX6_tank_93 : decode cX6_tank 93 = .ok (.aload_n 0, 1) := by decide +kernel
theorem dX6_tank_94 : decode cX6_tank 94 = .ok (.getfield 21, 3) := by decide +kernel
theorem dX6_tank_97 : decode cX6_tank 97 = .ok (.iload_n 1, 1) := by decide +kernel
theorem dX6_tank_98 : decode cX6_tank 98 = .ok (.invokevirtual 203, 3) := by decide +kernel
theorem dX6_tank_101 : decode cX6_tank 101 = .ok (.ireturn, 1) := by decide +kernel
theorem dX6_tank_102 : decode cX6_tank 102 = .ok (.aload_n 0, 1) := by decide +kernel
theorem dX6_tank_103 : decode cX6_tank 103 = .ok (.getfield 21, 3) := by decide +kernel
theorem dX6_tank_106 : decode cX6_tank 106 = .ok (.iload_n 1, 1) := by decide +kernel
theorem dX6_tank_107 : decode cX6_tank 107 = .ok (.invokevirtual 216, 3) := by decide +kernel
theorem dX6_tank_110 : decode cX6_tank 110 = .ok (.ireturn, 1) := by decide +kernel
theorem dX6_tank_111 : decode cX6_tank 111 = .ok (.aload_n 0, 1) := by decide +kernel
theorem dX6_tank_112 : decode cX6_tank 112 = .ok (.getfield 12, 3) := by decide +kernel
theorem dX6_tank_115 : decode cX6_tank 115 = .ok (.getfield 98, 3) := by decide +kernel
theorem dX6_tank_118 : decode cX6_tank 118 = .ok (.iload_n 1, 1) := by decide +kernel
theorem dX6_tank_119 : decode cX6_tank 119 = .ok (.iconst 2, 1) := by decide +kernel
theorem dX6_tank_120 : decode cX6_tank 120 = .ok (.iload_n 2, 1) := by decide +kernel
theorem dX6_tank_121 : decode cX6_tank 121 = .ok (.iadd, 1) := by decide +kernel
theorem dX6_tank_122 : decode cX6_tank 122 = .ok (.bipush 10, 2) := by decide +kernel
theorem dX6_tank_124 : decode cX6_tank 124 = .ok (.isub, 1) := by decide +kernel
theorem dX6_tank_125 : decode cX6_tank 125 = .ok (.invokevirtual 116, 3) := by decide +kernel
theorem dX6_tank_128 : decode cX6_tank 128 = .ok (.ireturn, 1) := by decide +kernel
theorem dX6_tank_129 : decode cX6_tank 129 = .ok (.new 83, 3) := by decide +kernel
theorem dX6_tank_132 : decode cX6_tank 132 = .ok (.dup, 1) := by decide +kernel
theorem dX6_tank_133 : decode cX6_tank 133 = .ok (.ldc_w 279, 3) := by decide +kernel
theorem dX6_tank_136 : decode cX6_tank 136 = .ok (.invokespecial 87, 3) := by decide +kernel
theorem dX6_tank_139 : decode cX6_tank 139 = .ok (.athrow, 1) := by decide +kernel
theorem dX6_variety_0 : decode cX6_variety 0 = .ok (.iload_n 1, 1) := by decide +kernel
theorem dX6_variety_1 : decode cX6_variety 1 = .ok (.invokestatic 108, 3) := by decide +kernel
theorem dX6_variety_4 : decode cX6_variety 4 = .ok (.iload_n 2, 1) := by decide +kernel
theorem dX6_variety_5 : decode cX6_variety 5 = .ok (.tableswitch 153 0 7 #[47, 60, 73, 82, 106, 119, 132, 145], 47) := by decide +kernel
theorem dX6_variety_52 : decode cX6_variety 52 = .ok (.aload_n 0, 1) := by decide +kernel
theorem dX6_variety_53 : decode cX6_variety 53 = .ok (.getfield 12, 3) := by decide +kernel
theorem dX6_variety_56 : decode cX6_variety 56 = .ok (.getfield 113, 3) := by decide +kernel
theorem dX6_variety_59 : decode cX6_variety 59 = .ok (.iload_n 1, 1) := by decide +kernel
theorem dX6_variety_60 : decode cX6_variety 60 = .ok (.iconst 0, 1) := by decide +kernel
theorem dX6_variety_61 : decode cX6_variety 61 = .ok (.invokevirtual 116, 3) := by decide +kernel
theorem dX6_variety_64 : decode cX6_variety 64 = .ok (.ireturn, 1) := by decide +kernel
theorem dX6_variety_65 : decode cX6_variety 65 = .ok (.aload_n 0, 1) := by decide +kernel
theorem dX6_variety_66 : decode cX6_variety 66 = .ok (.getfield 12, 3) := by decide +kernel
theorem dX6_variety_69 : decode cX6_variety 69 = .ok (.getfield 113, 3) := by decide +kernel
theorem dX6_variety_72 : decode cX6_variety 72 = .ok (.iload_n 1, 1) := by decide +kernel
theorem dX6_variety_73 : decode cX6_variety 73 = .ok (.iconst 1, 1) := by decide +kernel
theorem dX6_variety_74 : decode cX6_variety 74 = .ok (.invokevirtual 116, 3) := by decide +kernel
theorem dX6_variety_77 : decode cX6_variety 77 = .ok (.ireturn, 1) := by decide +kernel
theorem dX6_variety_78 : decode cX6_variety 78 = .ok (.aload_n 0, 1) := by decide +kernel
theorem dX6_variety_79 : decode cX6_variety 79 = .ok (.getfield 21, 3) := by decide +kernel
theorem dX6_variety_82 : decode cX6_variety 82 = .ok (.iload_n 1, 1) := by decide +kernel
theorem dX6_variety_83 : decode cX6_variety 83 = .ok (.invokevirtual 281, 3) := by decide +kernel
theorem dX6_variety_86 : decode cX6_variety 86 = .ok (.ireturn, 1) := by decide +kernel
theorem dX6_variety_87 : decode cX6_variety 87 = .ok (.aload_n 0, 1) := by decide +kernel
theorem dX6_variety_88 : decode cX6_variety 88 = .ok (.invokevirtual 284, 3) := by decide +kernel
theorem dX6_variety_91 : decode cX6_variety 91 = .ok (.iload_n 1, 1) := by decide +kernel
theorem dX6_variety_92 : decode cX6_variety 92 = .ok (.if_icmp .ne 17, 3) := by decide +kernel
theorem dX6_variety_95 : decode cX6_variety 95 = .ok (.aload_n 0, 1) := by decide +kernel
theorem dX6_variety_96 : decode cX6_variety 96 = .ok (.getfield 12, 3) := by decide +kernel
theorem dX6_variety_99 : decode cX6_variety 99 = .ok (.getfield 47, 3) := by decide +kernel
theorem dX6_variety_102 : decode cX6_variety 102 = .ok (.iconst 4, 1) := by decide +kernel
theorem dX6_variety_103 : decode cX6_variety 103 = .ok (.invokevirtual 51, 3) := by decide +kernel
theorem dX6_variety_106 : decode cX6_variety 106 = .ok (.goto 4, 3) := by decide +kernel
theorem dX6_variety_109 : decode cX6_variety 109 = .ok (.iconst 0, 1) := by decide +kernel
theorem dX6_variety_110 : decode cX6_variety 110 = .ok (.ireturn, 1) := by decide +kernel
theorem dX6_variety_111 : decode cX6_variety 111 = .ok (.aload_n 0, 1) := by decide +kernel
theorem dX6_variety_112 : decode cX6_variety 112 = .ok (.getfield 12, 3) := by decide +kernel
theorem dX6_variety_115 : decode cX6_variety 115 = .ok (.getfield 113, 3) := by decide +kernel
theorem dX6_variety_118 : decode cX6_variety 118 = .ok (.iload_n 1, 1) := by decide +kernel
theorem dX6_variety_119 : decode cX6_variety 119 = .ok (.iconst 2, 1) := by decide +kernel
theorem dX6_variety_120 : decode cX6_variety 120 = .ok (.invokevirtual 116, 3) := by decide +kernel
theorem dX6_variety_123 : decode cX6_variety 123 = .ok (.ireturn, 1) := by decide +kernel
theorem dX6_variety_124 : decode cX6_variety 124 = .ok (.aload_n 0, 1) := by decide +kernel
theorem dX6_variety_125 : decode cX6_variety 125 = .ok (.getfield 12, 3) := by decide +kernel
theorem dX6_variety_128 : decode cX6_variety 128 = .ok (.getfield 113, 3) := by decide +kernel
theorem dX6_variety_131 : decode cX6_variety 131 = .ok (.iload_n 1, 1) := by decide +kernel
theorem dX6_variety_132 : decode cX6_variety 132 = .ok (.iconst 3, 1) := by decide +kernel
theorem dX6_variety_133 : decode cX6_variety 133 = .ok (.invokevirtual 116, 3) := by decide +kernel
theorem dX6_variety_136 : decode cX6_variety 136 = .ok (.ireturn, 1) := by decide +kernel
theorem dX6_variety_137 : decode cX6_variety 137 = .ok (.aload_n 0, 1) := by decide +kernel
theorem dX6_variety_138 : decode cX6_variety 138 = .ok (.getfield 12, 3) := by decide +kernel
theorem dX6_variety_141 : decode cX6_variety 141 = .ok (.getfield 113, 3) := by decide +kernel
theorem dX6_variety_144 : decode cX6_variety 144 = .ok (.iload_n 1, 1) := by decide +kernel
theorem dX6_variety_145 : decode cX6_variety 145 = .ok (.iconst 4, 1) := by decide +kernel
theorem dX6_variety_146 : decode cX6_variety 146 = .ok (.invokevirtual 116, 3) := by decide +kernel
theorem dX6_variety_149 : decode cX6_variety 149 = .ok (.ireturn, 1) := by decide +kernel
theorem dX6_variety_150 : decode cX6_variety 150 = .ok (.aload_n 0, 1) := by decide +kernel
theorem dX6_variety_151 : decode cX6_variety 151 = .ok (.iconst 1, 1) := by decide +kernel
theorem dX6_variety_152 : decode cX6_variety 152 = .ok (.iload_n 1, 1) := by decide +kernel
theorem dX6_variety_153 : decode cX6_variety 153 = .ok (.iconst 1, 1) := by decide +kernel
theorem dX6_variety_154 : decode cX6_variety 154 = .ok (.invokevirtual 268, 3) := by decide +kernel
theorem dX6_variety_157 : decode cX6_variety 157 = .ok (.ireturn, 1) := by decide +kernel
theorem dX6_variety_158 : decode cX6_variety 158 = .ok (.new 83, 3) := by decide +kernel
theorem dX6_variety_161 : decode cX6_variety 161 = .ok (.dup, 1) := by decide +kernel
theorem dX6_variety_162 : decode cX6_variety 162 = .ok (.ldc_w 287, 3) := by decide +kernel
theorem dX6_variety_165 : decode cX6_variety 165 = .ok (.invokespecial 87, 3) := by decide +kernel
theorem dX6_variety_168 : decode cX6_variety 168 = .ok (.athrow, 1) := by decide +kernel
theorem dX6_count_0 : decode cX6_count 0 = .ok (.iload_n 1, 1) := by decide +kernel
theorem dX6_count_1 : decode cX6_count 1 = .ok (.tableswitch 190 0 12 #[67, 79, 91, 99, 111, 116, 128, 140, 153, 161, 167, 176, 182], 67) := by decide +kernel
theorem dX6_count_68 : decode cX6_count 68 = .ok (.aload_n 0, 1) := by decide +kernel
theorem dX6_count_69 : decode cX6_count 69 = .ok (.getfield 12, 3) := by decide +kernel
theorem dX6_count_72 : decode cX6_count 72 = .ok (.getfield 47, 3) := by decide +kernel
theorem dX6_count_75 : decode cX6_count 75 = .ok (.iconst 0, 1) := by decide +kernel
theorem dX6_count_76 : decode cX6_count 76 = .ok (.invokevirtual 51, 3) := by decide +kernel
theorem dX6_count_79 : decode cX6_count 79 = .ok (.ireturn, 1) := by decide +kernel
theorem dX6_count_80 : decode cX6_count 80 = .ok (.aload_n 0, 1) := by decide +kernel
theorem dX6_count_81 : decode cX6_count 81 = .ok (.getfield 12, 3) := by decide +kernel
theorem dX6_count_84 : decode cX6_count 84 = .ok (.getfield 47, 3) := by decide +kernel
theorem dX6_count_87 : decode cX6_count 87 = .ok (.iconst 1, 1) := by decide +kernel
theorem dX6_count_88 : decode cX6_count 88 = .ok (.invokevirtual 51, 3) := by decide +kernel
theorem dX6_count_91 : decode cX6_count 91 = .ok (.ireturn, 1) := by decide +kernel
theorem dX6_count_92 : decode cX6_count 92 = .ok (.aload_n 0, 1) := by decide +kernel
theorem dX6_count_93 : decode cX6_count 93 = .ok (.iconst 5, 1) := by decide +kernel
theorem dX6_count_94 : decode cX6_count 94 = .ok (.iconst 0, 1) := by decide +kernel
theorem dX6_count_95 : decode cX6_count 95 = .ok (.iconst 0, 1) := by decide +kernel
theorem dX6_count_96 : decode cX6_count 96 = .ok (.invokevirtual 268, 3) := by decide +kernel
theorem dX6_count_99 : decode cX6_count 99 = .ok (.ireturn, 1) := by decide +kernel
theorem dX6_count_100 : decode cX6_count 100 = .ok (.aload_n 0, 1) := by decide +kernel
theorem dX6_count_101 : decode cX6_count 101 = .ok (.getfield 12, 3) := by decide +kernel
theorem dX6_count_104 : decode cX6_count 104 = .ok (.getfield 47, 3) := by decide +kernel
theorem dX6_count_107 : decode cX6_count 107 = .ok (.iconst 2, 1) := by decide +kernel
theorem dX6_count_108 : decode cX6_count 108 = .ok (.invokevirtual 51, 3) := by decide +kernel
theorem dX6_count_111 : decode cX6_count 111 = .ok (.ireturn, 1) := by decide +kernel
theorem dX6_count_112 : decode cX6_count 112 = .ok (.aload_n 0, 1) := by decide +kernel
theorem dX6_count_113 : decode cX6_count 113 = .ok (.invokevirtual 284, 3) := by decide +kernel
theorem dX6_count_116 : decode cX6_count 116 = .ok (.ireturn, 1) := by decide +kernel
theorem dX6_count_117 : decode cX6_count 117 = .ok (.aload_n 0, 1) := by decide +kernel
theorem dX6_count_118 : decode cX6_count 118 = .ok (.getfield 12, 3) := by decide +kernel
theorem dX6_count_121 : decode cX6_count 121 = .ok (.getfield 47, 3) := by decide +kernel
theorem dX6_count_124 : decode cX6_count 124 = .ok (.iconst 4, 1) := by decide +kernel
theorem dX6_count_125 : decode cX6_count 125 = .ok (.invokevirtual 51, 3) := by decide +kernel
theorem dX6_count_128 : decode cX6_count 128 = .ok (.ireturn, 1) := by decide +kernel
theorem dX6_count_129 : decode cX6_count 129 = .ok (.aload_n 0, 1) := by decide +kernel
theorem dX6_count_130 : decode cX6_count 130 = .ok (.getfield 12, 3) := by decide +kernel
theorem dX6_count_133 : decode cX6_count 133 = .ok (.getfield 47, 3) := by decide +kernel
theorem dX6_count_136 : decode cX6_count 136 = .ok (.iconst 5, 1) := by decide +kernel
theorem dX6_count_137 : decode cX6_count 137 = .ok (.invokevirtual 51, 3) := by decide +kernel
theorem dX6_count_140 : decode cX6_count 140 = .ok (.ireturn, 1) := by decide +kernel
theorem dX6_count_141 : decode cX6_count 141 = .ok (.aload_n 0, 1) := by decide +kernel
theorem dX6_count_142 : decode cX6_count 142 = .ok (.getfield 12, 3) := by decide +kernel
theorem dX6_count_145 : decode cX6_count 145 = .ok (.getfield 47, 3) := by decide +kernel
theorem dX6_count_148 : decode cX6_count 148 = .ok (.bipush 6, 2) := by decide +kernel
theorem dX6_count_150 : decode cX6_count 150 = .ok (.invokevirtual 51, 3) := by decide +kernel
theorem dX6_count_153 : decode cX6_count 153 = .ok (.ireturn, 1) := by decide +kernel
theorem dX6_count_154 : decode cX6_count 154 = .ok (.aload_n 0, 1) := by decide +kernel
theorem dX6_count_155 : decode cX6_count 155 = .ok (.getfield 21, 3) := by decide +kernel
theorem dX6_count_158 : decode cX6_count 158 = .ok (.invokevirtual 289, 3) := by decide +kernel
theorem dX6_count_161 : decode cX6_count 161 = .ok (.ireturn, 1) := by decide +kernel
theorem dX6_count_162 : decode cX6_count 162 = .ok (.aload_n 0, 1) := by decide +kernel
theorem dX6_count_163 : decode cX6_count 163 = .ok (.iconst 0, 1) := by decide +kernel
theorem dX6_count_164 : decode cX6_count 164 = .ok (.invokevirtual 292, 3) := by decide +kernel
theorem dX6_count_167 : decode cX6_count 167 = .ok (.ireturn, 1) := by decide +kernel
theorem dX6_count_168 : decode cX6_count 168 = .ok (.aload_n 0, 1) := by decide +kernel
theorem dX6_count_169 : decode cX6_count 169 = .ok (.getfield 21, 3) := by decide +kernel
theorem dX6_count_172 : decode cX6_count 172 = .ok (.iconst 0, 1) := by decide +kernel
theorem dX6_count_173 : decode cX6_count 173 = .ok (.invokevirtual 295, 3) := by decide +kernel
theorem dX6_count_176 : decode cX6_count 176 = .ok (.ireturn, 1) := by decide +kernel
theorem dX6_count_177 : decode cX6_count 177 = .ok (.aload_n 0, 1) := by decide +kernel
theorem dX6_count_178 : decode cX6_count 178 = .ok (.iconst 2, 1) := by decide +kernel
theorem dX6_count_179 : decode cX6_count 179 = .ok (.invokevirtual 292, 3) := by decide +kernel
theorem dX6_count_182 : decode cX6_count 182 = .ok (.ireturn, 1) := by decide +kernel
theorem dX6_count_183 : decode cX6_count 183 = .ok (.aload_n 0, 1) := by decide +kernel
theorem dX6_count_184 : decode cX6_count 184 = .ok (.getfield 12, 3) := by decide +kernel
theorem dX6_count_187 : decode cX6_count 187 = .ok (.getfield 260, 3) := by decide +kernel
theorem dX6_count_190 : decode cX6_count 190 = .ok (.ireturn, 1) := by decide +kernel
theorem dX6_count_191 : decode cX6_count 191 = .ok (.new 83, 3) := by decide +kernel
theorem dX6_count_194 : decode cX6_count 194 = .ok (.dup, 1) := by decide +kernel
theorem dX6_count_195 : decode cX6_count 195 = .ok (.ldc_w 298, 3) := by decide +kernel
theorem dX6_count_198 : decode cX6_count 198 = .ok (.invokespecial 87, 3) := by decide +kernel
theorem dX6_count_201 : decode cX6_count 201 = .ok (.athrow, 1) := by decide +kernel
theorem dX6_setting_0 : decode cX6_setting 0 = .ok (.iload_n 1, 1) := by decide +kernel
theorem dX6_setting_1 : decode cX6_setting 1 = .ok (.invokestatic 119, 3) := by decide +kernel
theorem dX6_setting_4 : decode cX6_setting 4 = .ok (.ifCond .ne 13, 3) := by decide +kernel
theorem dX6_setting_7 : decode cX6_setting 7 = .ok (.new 122, 3) := by decide +kernel
theorem dX6_setting_10 : decode cX6_setting 10 = .ok (.dup, 1) := by decide +kernel
theorem dX6_setting_11 : decode cX6_setting 11 = .ok (.ldc 124, 2) := by decide +kernel
theorem dX6_setting_13 : decode cX6_setting 13 = .ok (.invokespecial 126, 3) := by decide +kernel
theorem dX6_setting_16 : decode cX6_setting 16 = .ok (.athrow, 1) := by decide +kernel
theorem dX6_setting_17 : decode cX6_setting 17 = .ok (.aload_n 0, 1) := by decide +kernel
theorem dX6_setting_18 : decode cX6_setting 18 = .ok (.getfield 12, 3) := by decide +kernel
theorem dX6_setting_21 : decode cX6_setting 21 = .ok (.getfield 133, 3) := by decide +kernel
theorem dX6_setting_24 : decode cX6_setting 24 = .ok (.iload_n 1, 1) := by decide +kernel
theorem dX6_setting_25 : decode cX6_setting 25 = .ok (.invokevirtual 51, 3) := by decide +kernel
theorem dX6_setting_28 : decode cX6_setting 28 = .ok (.ireturn, 1) := by decide +kernel
theorem dX6_whyNot_0 : decode cX6_whyNot 0 = .ok (.aload_n 0, 1) := by decide +kernel
theorem dX6_whyNot_1 : decode cX6_whyNot 1 = .ok (.iload_n 1, 1) := by decide +kernel
theorem dX6_whyNot_2 : decode cX6_whyNot 2 = .ok (.invokevirtual 138, 3) := by decide +kernel
theorem dX6_whyNot_5 : decode cX6_whyNot 5 = .ok (.aload_n 0, 1) := by decide +kernel
theorem dX6_whyNot_6 : decode cX6_whyNot 6 = .ok (.iload_n 1, 1) := by decide +kernel
theorem dX6_whyNot_7 : decode cX6_whyNot 7 = .ok (.iload_n 2, 1) := by decide +kernel
theorem dX6_whyNot_8 : decode cX6_whyNot 8 = .ok (.invokevirtual 141, 3) := by decide +kernel
theorem dX6_whyNot_11 : decode cX6_whyNot 11 = .ok (.ireturn, 1) := by decide +kernel
theorem dX6_next_0 : decode cX6_next 0 = .ok (.iload_n 1, 1) := by decide +kernel
theorem dX6_next_1 : decode cX6_next 1 = .ok (.iconst 0, 1) := by decide +kernel
theorem dX6_next_2 : decode cX6_next 2 = .ok (.iconst 4, 1) := by decide +kernel
theorem dX6_next_3 : decode cX6_next 3 = .ok (.invokestatic 79, 3) := by decide +kernel
theorem dX6_next_6 : decode cX6_next 6 = .ok (.ifCond .eq 14, 3) := by decide +kernel
theorem dX6_next_9 : decode cX6_next 9 = .ok (.new 83, 3) := by decide +kernel
theorem dX6_next_12 : decode cX6_next 12 = .ok (.dup, 1) := by decide +kernel
theorem dX6_next_13 : decode cX6_next 13 = .ok (.ldc_w 300, 3) := by decide +kernel
theorem dX6_next_16 : decode cX6_next 16 = .ok (.invokespecial 87, 3) := by decide +kernel
theorem dX6_next_19 : decode cX6_next 19 = .ok (.athrow, 1) := by decide +kernel
theorem dX6_next_20 : decode cX6_next 20 = .ok (.aload_n 0, 1) := by decide +kernel
theorem dX6_next_21 : decode cX6_next 21 = .ok (.getfield 28, 3) := by decide +kernel
theorem dX6_next_24 : decode cX6_next 24 = .ok (.invokevirtual 302, 3) := by decide +kernel
theorem dX6_next_27 : decode cX6_next 27 = .ok (.ifCond .ne 5, 3) := by decide +kernel
theorem dX6_next_30 : decode cX6_next 30 = .ok (.iconst (-1), 1) := by decide +kernel
theorem dX6_next_31 : decode cX6_next 31 = .ok (.ireturn, 1) := by decide +kernel
theorem dX6_next_32 : decode cX6_next 32 = .ok (.iload_n 1, 1) := by decide +kernel
theorem dX6_next_33 : decode cX6_next 33 = .ok (.tableswitch 63 0 3 #[31, 39, 47, 55], 31) := by decide +kernel
theorem dX6_next_64 : decode cX6_next 64 = .ok (.aload_n 0, 1) := by decide +kernel
theorem dX6_next_65 : decode cX6_next 65 = .ok (.getfield 28, 3) := by decide +kernel
theorem dX6_next_68 : decode cX6_next 68 = .ok (.getfield 168, 3) := by decide +kernel
theorem dX6_next_71 : decode cX6_next 71 = .ok (.ireturn, 1) := by decide +kernel
theorem dX6_next_72 : decode cX6_next 72 = .ok (.aload_n 0, 1) := by decide +kernel
theorem dX6_next_73 : decode cX6_next 73 = .ok (.getfield 28, 3) := by decide +kernel
theorem dX6_next_76 : decode cX6_next 76 = .ok (.getfield 305, 3) := by decide +kernel
theorem dX6_next_79 : decode cX6_next 79 = .ok (.ireturn, 1) := by decide +kernel
theorem dX6_next_80 : decode cX6_next 80 = .ok (.aload_n 0, 1) := by decide +kernel
theorem dX6_next_81 : decode cX6_next 81 = .ok (.getfield 28, 3) := by decide +kernel
theorem dX6_next_84 : decode cX6_next 84 = .ok (.getfield 308, 3) := by decide +kernel
theorem dX6_next_87 : decode cX6_next 87 = .ok (.ireturn, 1) := by decide +kernel
theorem dX6_next_88 : decode cX6_next 88 = .ok (.aload_n 0, 1) := by decide +kernel
theorem dX6_next_89 : decode cX6_next 89 = .ok (.getfield 28, 3) := by decide +kernel
theorem dX6_next_92 : decode cX6_next 92 = .ok (.getfield 150, 3) := by decide +kernel
theorem dX6_next_95 : decode cX6_next 95 = .ok (.ireturn, 1) := by decide +kernel
theorem dX6_next_96 : decode cX6_next 96 = .ok (.aload_n 0, 1) := by decide +kernel
theorem dX6_next_97 : decode cX6_next 97 = .ok (.getfield 28, 3) := by decide +kernel
theorem dX6_next_100 : decode cX6_next 100 = .ok (.getfield 165, 3) := by decide +kernel
theorem dX6_next_103 : decode cX6_next 103 = .ok (.ireturn, 1) := by decide +kernel
theorem dX6_taken_0 : decode cX6_taken 0 = .ok (.aload_n 0, 1) := by decide +kernel
theorem dX6_taken_1 : decode cX6_taken 1 = .ok (.iload_n 1, 1) := by decide +kernel
theorem dX6_taken_2 : decode cX6_taken 2 = .ok (.invokevirtual 138, 3) := by decide +kernel
theorem dX6_taken_5 : decode cX6_taken 5 = .ok (.iload_n 2, 1) := by decide +kernel
theorem dX6_taken_6 : decode cX6_taken 6 = .ok (.invokestatic 197, 3) := by decide +kernel
theorem dX6_taken_9 : decode cX6_taken 9 = .ok (.iload_n 3, 1) := by decide +kernel
theorem dX6_taken_10 : decode cX6_taken 10 = .ok (.invokestatic 75, 3) := by decide +kernel
theorem dX6_taken_13 : decode cX6_taken 13 = .ok (.ifCond .ne 14, 3) := by decide +kernel
theorem dX6_taken_16 : decode cX6_taken 16 = .ok (.new 83, 3) := by decide +kernel
theorem dX6_taken_19 : decode cX6_taken 19 = .ok (.dup, 1) := by decide +kernel
theorem dX6_taken_20 : decode cX6_taken 20 = .ok (.ldc_w 311, 3) := by decide +kernel
theorem dX6_taken_23 : decode cX6_taken 23 = .ok (.invokespecial 87, 3) := by decide +kernel
theorem dX6_taken_26 : decode cX6_taken 26 = .ok (.athrow, 1) := by decide +kernel
theorem dX6_taken_27 : decode cX6_taken 27 = .ok (.aload_n 0, 1) := by decide +kernel
theorem dX6_taken_28 : decode cX6_taken 28 = .ok (.getfield 21, 3) := by decide +kernel
theorem dX6_taken_31 : decode cX6_taken 31 = .ok (.iload_n 1, 1) := by decide +kernel
theorem dX6_taken_32 : decode cX6_taken 32 = .ok (.invokevirtual 203, 3) := by decide +kernel
theorem dX6_taken_35 : decode cX6_taken 35 = .ok (.iload_n 2, 1) := by decide +kernel
theorem dX6_taken_36 : decode cX6_taken 36 = .ok (.if_icmp .ge 5, 3) := by decide +kernel
theorem dX6_taken_39 : decode cX6_taken 39 = .ok (.iconst (-1), 1) := by decide +kernel
theorem dX6_taken_40 : decode cX6_taken 40 = .ok (.ireturn, 1) := by decide +kernel
theorem dX6_taken_41 : decode cX6_taken 41 = .ok (.aload_n 0, 1) := by decide +kernel
theorem dX6_taken_42 : decode cX6_taken 42 = .ok (.getfield 21, 3) := by decide +kernel
theorem dX6_taken_45 : decode cX6_taken 45 = .ok (.iload_n 1, 1) := by decide +kernel
theorem dX6_taken_46 : decode cX6_taken 46 = .ok (.iload_n 2, 1) := by decide +kernel
theorem dX6_taken_47 : decode cX6_taken 47 = .ok (.invokevirtual 313, 3) := by decide +kernel
theorem dX6_taken_50 : decode cX6_taken 50 = .ok (.aload_n 0, 1) := by decide +kernel
theorem dX6_taken_51 : decode cX6_taken 51 = .ok (.getfield 21, 3) := by decide +kernel
theorem dX6_taken_54 : decode cX6_taken 54 = .ok (.iload_n 3, 1) := by decide +kernel
theorem dX6_taken_55 : decode cX6_taken 55 = .ok (.invokevirtual 211, 3) := by decide +kernel
theorem dX6_taken_58 : decode cX6_taken 58 = .ok (.ireturn, 1) := by decide +kernel
theorem dX6_oilIn_0 : decode cX6_oilIn 0 = .ok (.aload_n 0, 1) := by decide +kernel
theorem dX6_oilIn_1 : decode cX6_oilIn 1 = .ok (.iload_n 1, 1) := by decide +kernel
theorem dX6_oilIn_2 : decode cX6_oilIn 2 = .ok (.invokevirtual 138, 3) := by decide +kernel
theorem dX6_oilIn_5 : decode cX6_oilIn 5 = .ok (.iload_n 2, 1) := by decide +kernel
theorem dX6_oilIn_6 : decode cX6_oilIn 6 = .ok (.iconst 0, 1) := by decide +kernel
theorem dX6_oilIn_7 : decode cX6_oilIn 7 = .ok (.sipush 200, 3) := by decide +kernel
theorem dX6_oilIn_10 : decode cX6_oilIn 10 = .ok (.invokestatic 79, 3) := by decide +kernel
theorem dX6_oilIn_13 : decode cX6_oilIn 13 = .ok (.ifCond .eq 14, 3) := by decide +kernel
theorem dX6_oilIn_16 : decode cX6_oilIn 16 = .ok (.new 83, 3) := by decide +kernel
theorem dX6_oilIn_19 : decode cX6_oilIn 19 = .ok (.dup, 1) := by decide +kernel
theorem dX6_oilIn_20 : decode cX6_oilIn 20 = .ok (.ldc_w 316, 3) := by decide +kernel
theorem dX6_oilIn_23 : decode cX6_oilIn 23 = .ok (.invokespecial 87, 3) := by decide +kernel
theorem dX6_oilIn_26 : decode cX6_oilIn 26 = .ok (.athrow, 1) := by decide +kernel
theorem dX6_oilIn_27 : decode cX6_oilIn 27 = .ok (.iconst 0, 1) := by decide +kernel
theorem dX6_oilIn_28 : decode cX6_oilIn 28 = .ok (.istore_n 3, 1) := by decide +kernel
theorem dX6_oilIn_29 : decode cX6_oilIn 29 = .ok (.iconst 0, 1) := by decide +kernel
theorem dX6_oilIn_30 : decode cX6_oilIn 30 = .ok (.istore 4, 2) := by decide +kernel
theorem dX6_oilIn_32 : decode cX6_oilIn 32 = .ok (.iload 4, 2) := by decide +kernel
theorem dX6_oilIn_34 : decode cX6_oilIn 34 = .ok (.iconst 5, 1) := by decide +kernel
theorem dX6_oilIn_35 : decode cX6_oilIn 35 = .ok (.if_icmp .ge 35, 3) := by decide +kernel
theorem dX6_oilIn_38 : decode cX6_oilIn 38 = .ok (.iload_n 3, 1) := by decide +kernel
theorem dX6_oilIn_39 : decode cX6_oilIn 39 = .ok (.aload_n 0, 1) := by decide +kernel
theorem dX6_oilIn_40 : decode cX6_oilIn 40 = .ok (.getfield 21, 3) := by decide +kernel
theorem dX6_oilIn_43 : decode cX6_oilIn 43 = .ok (.iload_n 2, 1) := by decide +kernel
theorem dX6_oilIn_44 : decode cX6_oilIn 44 = .ok (.aload_n 0, 1) := by decide +kernel
theorem dX6_oilIn_45 : decode cX6_oilIn 45 = .ok (.getfield 12, 3) := by decide +kernel
theorem dX6_oilIn_48 : decode cX6_oilIn 48 = .ok (.getfield 98, 3) := by decide +kernel
theorem dX6_oilIn_51 : decode cX6_oilIn 51 = .ok (.iload_n 1, 1) := by decide +kernel
theorem dX6_oilIn_52 : decode cX6_oilIn 52 = .ok (.iconst 2, 1) := by decide +kernel
theorem dX6_oilIn_53 : decode cX6_oilIn 53 = .ok (.iload 4, 2) := by decide +kernel
theorem dX6_oilIn_55 : decode cX6_oilIn 55 = .ok (.iadd, 1) := by decide +kernel
theorem dX6_oilIn_56 : decode cX6_oilIn 56 = .ok (.invokevirtual 116, 3) := by decide +kernel
theorem dX6_oilIn_59 : decode cX6_oilIn 59 = .ok (.invokevirtual 318, 3) := by decide +kernel
theorem dX6_oilIn_62 : decode cX6_oilIn 62 = .ok (.iadd, 1) := by decide +kernel
theorem dX6_oilIn_63 : decode cX6_oilIn 63 = .ok (.istore_n 3, 1) := by decide +kernel
theorem dX6_oilIn_64 : decode cX6_oilIn 64 = .ok (.iinc 4 1, 3) := by decide +kernel
theorem dX6_oilIn_67 : decode cX6_oilIn 67 = .ok (.goto (-35), 3) := by decide +kernel
theorem dX6_oilIn_70 : decode cX6_oilIn 70 = .ok (.iload_n 3, 1) := by decide +kernel
theorem dX6_oilIn_71 : decode cX6_oilIn 71 = .ok (.ireturn, 1) := by decide +kernel
theorem dX6_lossBy_0 : decode cX6_lossBy 0 = .ok (.iconst 5, 1) := by decide +kernel
theorem dX6_lossBy_1 : decode cX6_lossBy 1 = .ok (.iload_n 1, 1) := by decide +kernel
theorem dX6_lossBy_2 : decode cX6_lossBy 2 = .ok (.invokestatic 127, 3) := by decide +kernel
theorem dX6_lossBy_5 : decode cX6_lossBy 5 = .ok (.ifCond .ne 14, 3) := by decide +kernel
theorem dX6_lossBy_8 : decode cX6_lossBy 8 = .ok (.new 83, 3) := by decide +kernel
theorem dX6_lossBy_11 : decode cX6_lossBy 11 = .ok (.dup, 1) := by decide +kernel
theorem dX6_lossBy_12 : decode cX6_lossBy 12 = .ok (.ldc_w 321, 3) := by decide +kernel
theorem dX6_lossBy_15 : decode cX6_lossBy 15 = .ok (.invokespecial 87, 3) := by decide +kernel
theorem dX6_lossBy_18 : decode cX6_lossBy 18 = .ok (.athrow, 1) := by decide +kernel
theorem dX6_lossBy_19 : decode cX6_lossBy 19 = .ok (.aload_n 0, 1) := by decide +kernel
theorem dX6_lossBy_20 : decode cX6_lossBy 20 = .ok (.getfield 28, 3) := by decide +kernel
theorem dX6_lossBy_23 : decode cX6_lossBy 23 = .ok (.invokevirtual 323, 3) := by decide +kernel
theorem dX6_lossBy_26 : decode cX6_lossBy 26 = .ok (.iconst 0, 1) := by decide +kernel
theorem dX6_lossBy_27 : decode cX6_lossBy 27 = .ok (.istore_n 2, 1) := by decide +kernel
theorem dX6_lossBy_28 : decode cX6_lossBy 28 = .ok (.iconst 0, 1) := by decide +kernel
theorem dX6_lossBy_29 : decode cX6_lossBy 29 = .ok (.istore_n 3, 1) := by decide +kernel
theorem dX6_lossBy_30 : decode cX6_lossBy 30 = .ok (.iload_n 3, 1) := by decide +kernel
theorem dX6_lossBy_31 : decode cX6_lossBy 31 = .ok (.bipush 40, 2) := by decide +kernel
theorem dX6_lossBy_33 : decode cX6_lossBy 33 = .ok (.if_icmp .ge 30, 3) := by decide +kernel
theorem dX6_lossBy_36 : decode cX6_lossBy 36 = .ok (.aload_n 0, 1) := by decide +kernel
theorem dX6_lossBy_37 : decode cX6_lossBy 37 = .ok (.getfield 28, 3) := by decide +kernel
theorem dX6_lossBy_40 : decode cX6_lossBy 40 = .ok (.iload_n 1, 1) := by decide +kernel
theorem dX6_lossBy_41 : decode cX6_lossBy 41 = .ok (.invokevirtual 326, 3) := by decide +kernel
theorem dX6_lossBy_44 : decode cX6_lossBy 44 = .ok (.ifCond .eq 19, 3) := by decide +kernel
theorem dX6_lossBy_47 : decode cX6_lossBy 47 = .ok (.iload_n 2, 1) := by decide +kernel
theorem dX6_lossBy_48 : decode cX6_lossBy 48 = .ok (.aload_n 0, 1) := by decide +kernel
theorem dX6_lossBy_49 : decode cX6_lossBy 49 = .ok (.getfield 28, 3) := by decide +kernel
theorem dX6_lossBy_52 : decode cX6_lossBy 52 = .ok (.getfield 150, 3) := by decide +kernel
theorem dX6_lossBy_55 : decode cX6_lossBy 55 = .ok (.iadd, 1) := by decide +kernel
theorem dX6_lossBy_56 : decode cX6_lossBy 56 = .ok (.istore_n 2, 1) := by decide +kernel
theorem dX6_lossBy_57 : decode cX6_lossBy 57 = .ok (.iinc 3 1, 3) := by decide +kernel
theorem dX6_lossBy_60 : decode cX6_lossBy 60 = .ok (.goto (-30), 3) := by decide +kernel
theorem dX6_lossBy_63 : decode cX6_lossBy 63 = .ok (.iload_n 2, 1) := by decide +kernel
theorem dX6_lossBy_64 : decode cX6_lossBy 64 = .ok (.ireturn, 1) := by decide +kernel
theorem dX6_bestTank_0 : decode cX6_bestTank 0 = .ok (.iconst (-1), 1) := by decide +kernel
theorem dX6_bestTank_1 : decode cX6_bestTank 1 = .ok (.istore_n 1, 1) := by decide +kernel
theorem dX6_bestTank_2 : decode cX6_bestTank 2 = .ok (.iconst 0, 1) := by decide +kernel
theorem dX6_bestTank_3 : decode cX6_bestTank 3 = .ok (.istore_n 2, 1) := by decide +kernel
theorem dX6_bestTank_4 : decode cX6_bestTank 4 = .ok (.aload_n 0, 1) := by decide +kernel
theorem dX6_bestTank_5 : decode cX6_bestTank 5 = .ok (.getfield 12, 3) := by decide +kernel
theorem dX6_bestTank_8 : decode cX6_bestTank 8 = .ok (.getfield 47, 3) := by decide +kernel
theorem dX6_bestTank_11 : decode cX6_bestTank 11 = .ok (.iconst 2, 1) := by decide +kernel
theorem dX6_bestTank_12 : decode cX6_bestTank 12 = .ok (.invokevirtual 51, 3) := by decide +kernel
theorem dX6_bestTank_15 : decode cX6_bestTank 15 = .ok (.istore_n 3, 1) := by decide +kernel
theorem dX6_bestTank_16 : decode cX6_bestTank 16 = .ok (.iconst 0, 1) := by decide +kernel
theorem dX6_bestTank_17 : decode cX6_bestTank 17 = .ok (.istore 4, 2) := by decide +kernel
theorem dX6_bestTank_19 : decode cX6_bestTank 19 = .ok (.iload 4, 2) := by decide +kernel
theorem dX6_bestTank_21 : decode cX6_bestTank 21 = .ok (.iload_n 3, 1) := by decide +kernel
theorem dX6_bestTank_22 : decode cX6_bestTank 22 = .ok (.if_icmp .ge 55, 3) := by decide +kernel
theorem dX6_bestTank_25 : decode cX6_bestTank 25 = .ok (.aload_n 0, 1) := by decide +kernel
theorem dX6_bestTank_26 : decode cX6_bestTank 26 = .ok (.iload 4, 2) := by decide +kernel
theorem dX6_bestTank_28 : decode cX6_bestTank 28 = .ok (.iconst 0, 1) := by decide +kernel
theorem dX6_bestTank_29 : decode cX6_bestTank 29 = .ok (.invokevirtual 141, 3) := by decide +kernel
theorem dX6_bestTank_32 : decode cX6_bestTank 32 = .ok (.ifCond .ne 39, 3) := by decide +kernel
theorem dX6_bestTank_35 : decode cX6_bestTank 35 = .ok (.aload_n 0, 1) := by decide +kernel
theorem dX6_bestTank_36 : decode cX6_bestTank 36 = .ok (.getfield 21, 3) := by decide +kernel
theorem dX6_bestTank_39 : decode cX6_bestTank 39 = .ok (.iload 4, 2) := by decide +kernel
theorem dX6_bestTank_41 : decode cX6_bestTank 41 = .ok (.invokevirtual 219, 3) := by decide +kernel
theorem dX6_bestTank_44 : decode cX6_bestTank 44 = .ok (.aload_n 0, 1) := by decide +kernel
theorem dX6_bestTank_45 : decode cX6_bestTank 45 = .ok (.getfield 28, 3) := by decide +kernel
theorem dX6_bestTank_48 : decode cX6_bestTank 48 = .ok (.getfield 308, 3) := by decide +kernel
theorem dX6_bestTank_51 : decode cX6_bestTank 51 = .ok (.isub, 1) := by decide +kernel
theorem dX6_bestTank_52 : decode cX6_bestTank 52 = .ok (.istore 5, 2) := by decide +kernel
theorem dX6_bestTank_54 : decode cX6_bestTank 54 = .ok (.iload_n 1, 1) := by decide +kernel
theorem dX6_bestTank_55 : decode cX6_bestTank 55 = .ok (.iconst (-1), 1) := by decide +kernel
theorem dX6_bestTank_56 : decode cX6_bestTank 56 = .ok (.if_icmp .eq 9, 3) := by decide +kernel
theorem dX6_bestTank_59 : decode cX6_bestTank 59 = .ok (.iload 5, 2) := by decide +kernel
theorem dX6_bestTank_61 : decode cX6_bestTank 61 = .ok (.iload_n 2, 1) := by decide +kernel
theorem dX6_bestTank_62 : decode cX6_bestTank 62 = .ok (.if_icmp .ge 9, 3) := by decide +kernel
theorem dX6_bestTank_65 : decode cX6_bestTank 65 = .ok (.iload 4, 2) := by decide +kernel
theorem dX6_bestTank_67 : decode cX6_bestTank 67 = .ok (.istore_n 1, 1) := by decide +kernel
theorem dX6_bestTank_68 : decode cX6_bestTank 68 = .ok (.iload 5, 2) := by decide +kernel
theorem dX6_bestTank_70 : decode cX6_bestTank 70 = .ok (.istore_n 2, 1) := by decide +kernel
theorem dX6_bestTank_71 : decode cX6_bestTank 71 = .ok (.iinc 4 1, 3) := by decide +kernel
theorem dX6_bestTank_74 : decode cX6_bestTank 74 = .ok (.goto (-55), 3) := by decide +kernel
theorem dX6_bestTank_77 : decode cX6_bestTank 77 = .ok (.iload_n 1, 1) := by decide +kernel
theorem dX6_bestTank_78 : decode cX6_bestTank 78 = .ok (.ireturn, 1) := by decide +kernel
theorem dX6_goodShare_0 : decode cX6_goodShare 0 = .ok (.aload_n 0, 1) := by decide +kernel
theorem dX6_goodShare_1 : decode cX6_goodShare 1 = .ok (.getfield 21, 3) := by decide +kernel
theorem dX6_goodShare_4 : decode cX6_goodShare 4 = .ok (.invokevirtual 289, 3) := by decide +kernel
theorem dX6_goodShare_7 : decode cX6_goodShare 7 = .ok (.istore_n 1, 1) := by decide +kernel
theorem dX6_goodShare_8 : decode cX6_goodShare 8 = .ok (.iload_n 1, 1) := by decide +kernel
theorem dX6_goodShare_9 : decode cX6_goodShare 9 = .ok (.ifCond .ne 5, 3) := by decide +kernel
theorem dX6_goodShare_12 : decode cX6_goodShare 12 = .ok (.dconst 0, 1) := by decide +kernel
theorem dX6_goodShare_13 : decode cX6_goodShare 13 = .ok (.dreturn, 1) := by decide +kernel
theorem dX6_goodShare_14 : decode cX6_goodShare 14 = .ok (.aload_n 0, 1) := by decide +kernel
theorem dX6_goodShare_15 : decode cX6_goodShare 15 = .ok (.getfield 21, 3) := by decide +kernel
theorem dX6_goodShare_18 : decode cX6_goodShare 18 = .ok (.iconst 0, 1) := by decide +kernel
theorem dX6_goodShare_19 : decode cX6_goodShare 19 = .ok (.invokevirtual 295, 3) := by decide +kernel
theorem dX6_goodShare_22 : decode cX6_goodShare 22 = .ok (.i2d, 1) := by decide +kernel
theorem dX6_goodShare_23 : decode cX6_goodShare 23 = .ok (.iload_n 1, 1) := by decide +kernel
theorem dX6_goodShare_24 : decode cX6_goodShare 24 = .ok (.i2d, 1) := by decide +kernel
theorem dX6_goodShare_25 : decode cX6_goodShare 25 = .ok (.ddiv, 1) := by decide +kernel
theorem dX6_goodShare_26 : decode cX6_goodShare 26 = .ok (.dreturn, 1) := by decide +kernel
theorem dX6_digest_0 : decode cX6_digest 0 = .ok (.ldc2_w 329, 3) := by decide +kernel
theorem dX6_digest_3 : decode cX6_digest 3 = .ok (.lstore_n 1, 1) := by decide +kernel
theorem dX6_digest_4 : decode cX6_digest 4 = .ok (.iconst 0, 1) := by decide +kernel
theorem dX6_digest_5 : decode cX6_digest 5 = .ok (.istore_n 3, 1) := by decide +kernel
theorem dX6_digest_6 : decode cX6_digest 6 = .ok (.iload_n 3, 1) := by decide +kernel
theorem dX6_digest_7 : decode cX6_digest 7 = .ok (.bipush 12, 2) := by decide +kernel
theorem dX6_digest_9 : decode cX6_digest 9 = .ok (.if_icmp .gt 20, 3) := by decide +kernel
theorem dX6_digest_12 : decode cX6_digest 12 = .ok (.lload_n 1, 1) := by decide +kernel
theorem dX6_digest_13 : decode cX6_digest 13 = .ok (.aload_n 0, 1) := by decide +kernel
theorem dX6_digest_14 : decode cX6_digest 14 = .ok (.iload_n 3, 1) := by decide +kernel
theorem dX6_digest_15 : decode cX6_digest 15 = .ok (.invokevirtual 331, 3) := by decide +kernel
theorem dX6_digest_18 : decode cX6_digest 18 = .ok (.i2l, 1) := by decide +kernel
theorem dX6_digest_19 : decode cX6_digest 19 = .ok (.invokestatic 334, 3) := by decide +kernel
theorem dX6_digest_22 : decode cX6_digest 22 = .ok (.lstore_n 1, 1) := by decide +kernel
theorem dX6_digest_23 : decode cX6_digest 23 = .ok (.iinc 3 1, 3) := by decide +kernel
theorem dX6_digest_26 : decode cX6_digest 26 = .ok (.goto (-20), 3) := by decide +kernel
theorem dX6_digest_29 : decode cX6_digest 29 = .ok (.iconst 0, 1) := by decide +kernel
theorem dX6_digest_30 : decode cX6_digest 30 = .ok (.istore_n 3, 1) := by decide +kernel
theorem dX6_digest_31 : decode cX6_digest 31 = .ok (.iload_n 3, 1) := by decide +kernel
theorem dX6_digest_32 : decode cX6_digest 32 = .ok (.bipush 7, 2) := by decide +kernel
theorem dX6_digest_34 : decode cX6_digest 34 = .ok (.if_icmp .ge 20, 3) := by decide +kernel
theorem dX6_digest_37 : decode cX6_digest 37 = .ok (.lload_n 1, 1) := by decide +kernel
theorem dX6_digest_38 : decode cX6_digest 38 = .ok (.aload_n 0, 1) := by decide +kernel
theorem dX6_digest_39 : decode cX6_digest 39 = .ok (.iload_n 3, 1) := by decide +kernel
theorem dX6_digest_40 : decode cX6_digest 40 = .ok (.invokevirtual 338, 3) := by decide +kernel
theorem dX6_digest_43 : decode cX6_digest 43 = .ok (.i2l, 1) := by decide +kernel
theorem dX6_digest_44 : decode cX6_digest 44 = .ok (.invokestatic 334, 3) := by decide +kernel
theorem dX6_digest_47 : decode cX6_digest 47 = .ok (.lstore_n 1, 1) := by decide +kernel
theorem dX6_digest_48 : decode cX6_digest 48 = .ok (.iinc 3 1, 3) := by decide +kernel
theorem dX6_digest_51 : decode cX6_digest 51 = .ok (.goto (-20), 3) := by decide +kernel
theorem dX6_digest_54 : decode cX6_digest 54 = .ok (.aload_n 0, 1) := by decide +kernel
theorem dX6_digest_55 : decode cX6_digest 55 = .ok (.lload_n 1, 1) := by decide +kernel
theorem dX6_digest_56 : decode cX6_digest 56 = .ok (.invokevirtual 341, 3) := by decide +kernel
theorem dX6_digest_59 : decode cX6_digest 59 = .ok (.lstore_n 1, 1) := by decide +kernel
theorem dX6_digest_60 : decode cX6_digest 60 = .ok (.aload_n 0, 1) := by decide +kernel
theorem dX6_digest_61 : decode cX6_digest 61 = .ok (.lload_n 1, 1) := by decide +kernel
theorem dX6_digest_62 : decode cX6_digest 62 = .ok (.invokevirtual 345, 3) := by decide +kernel
theorem dX6_digest_65 : decode cX6_digest 65 = .ok (.lstore_n 1, 1) := by decide +kernel
theorem dX6_digest_66 : decode cX6_digest 66 = .ok (.aload_n 0, 1) := by decide +kernel
theorem dX6_digest_67 : decode cX6_digest 67 = .ok (.lload_n 1, 1) := by decide +kernel
theorem dX6_digest_68 : decode cX6_digest 68 = .ok (.invokevirtual 348, 3) := by decide +kernel
theorem dX6_digest_71 : decode cX6_digest 71 = .ok (.lstore_n 1, 1) := by decide +kernel
theorem dX6_digest_72 : decode cX6_digest 72 = .ok (.aload_n 0, 1) := by decide +kernel
theorem dX6_digest_73 : decode cX6_digest 73 = .ok (.lload_n 1, 1) := by decide +kernel
theorem dX6_digest_74 : decode cX6_digest 74 = .ok (.invokevirtual 351, 3) := by decide +kernel
theorem dX6_digest_77 : decode cX6_digest 77 = .ok (.lstore_n 1, 1) := by decide +kernel
theorem dX6_digest_78 : decode cX6_digest 78 = .ok (.iconst 0, 1) := by decide +kernel
theorem dX6_digest_79 : decode cX6_digest 79 = .ok (.istore_n 3, 1) := by decide +kernel
theorem dX6_digest_80 : decode cX6_digest 80 = .ok (.iload_n 3, 1) := by decide +kernel
theorem dX6_digest_81 : decode cX6_digest 81 = .ok (.iconst 4, 1) := by decide +kernel
theorem dX6_digest_82 : decode cX6_digest 82 = .ok (.if_icmp .gt 20, 3) := by decide +kernel
theorem dX6_digest_85 : decode cX6_digest 85 = .ok (.lload_n 1, 1) := by decide +kernel
theorem dX6_digest_86 : decode cX6_digest 86 = .ok (.aload_n 0, 1) := by decide +kernel
theorem dX6_digest_87 : decode cX6_digest 87 = .ok (.iload_n 3, 1) := by decide +kernel
theorem dX6_digest_88 : decode cX6_digest 88 = .ok (.invokevirtual 354, 3) := by decide +kernel
theorem dX6_digest_91 : decode cX6_digest 91 = .ok (.i2l, 1) := by decide +kernel
theorem dX6_digest_92 : decode cX6_digest 92 = .ok (.invokestatic 334, 3) := by decide +kernel
theorem dX6_digest_95 : decode cX6_digest 95 = .ok (.lstore_n 1, 1) := by decide +kernel
theorem dX6_digest_96 : decode cX6_digest 96 = .ok (.iinc 3 1, 3) := by decide +kernel
theorem dX6_digest_99 : decode cX6_digest 99 = .ok (.goto (-19), 3) := by decide +kernel
theorem dX6_digest_102 : decode cX6_digest 102 = .ok (.iconst 0, 1) := by decide +kernel
theorem dX6_digest_103 : decode cX6_digest 103 = .ok (.istore_n 3, 1) := by decide +kernel
theorem dX6_digest_104 : decode cX6_digest 104 = .ok (.iload_n 3, 1) := by decide +kernel
theorem dX6_digest_105 : decode cX6_digest 105 = .ok (.iconst 2, 1) := by decide +kernel
theorem dX6_digest_106 : decode cX6_digest 106 = .ok (.if_icmp .gt 20, 3) := by decide +kernel
theorem dX6_digest_109 : decode cX6_digest 109 = .ok (.lload_n 1, 1) := by decide +kernel
theorem dX6_digest_110 : decode cX6_digest 110 = .ok (.aload_n 0, 1) := by decide +kernel
theorem dX6_digest_111 : decode cX6_digest 111 = .ok (.iload_n 3, 1) := by decide +kernel
theorem dX6_digest_112 : decode cX6_digest 112 = .ok (.invokevirtual 357, 3) := by decide +kernel
theorem dX6_digest_115 : decode cX6_digest 115 = .ok (.i2l, 1) := by decide +kernel
theorem dX6_digest_116 : decode cX6_digest 116 = .ok (.invokestatic 334, 3) := by decide +kernel
theorem dX6_digest_119 : decode cX6_digest 119 = .ok (.lstore_n 1, 1) := by decide +kernel
theorem dX6_digest_120 : decode cX6_digest 120 = .ok (.iinc 3 1, 3) := by decide +kernel
theorem dX6_digest_123 : decode cX6_digest 123 = .ok (.goto (-19), 3) := by decide +kernel
theorem dX6_digest_126 : decode cX6_digest 126 = .ok (.lload_n 1, 1) := by decide +kernel
theorem dX6_digest_127 : decode cX6_digest 127 = .ok (.aload_n 0, 1) := by decide +kernel
theorem dX6_digest_128 : decode cX6_digest 128 = .ok (.invokevirtual 360, 3) := by decide +kernel
theorem dX6_digest_131 : decode cX6_digest 131 = .ok (.i2l, 1) := by decide +kernel
theorem dX6_digest_132 : decode cX6_digest 132 = .ok (.invokestatic 334, 3) := by decide +kernel
theorem dX6_digest_135 : decode cX6_digest 135 = .ok (.lstore_n 1, 1) := by decide +kernel
theorem dX6_digest_136 : decode cX6_digest 136 = .ok (.lload_n 1, 1) := by decide +kernel
theorem dX6_digest_137 : decode cX6_digest 137 = .ok (.aload_n 0, 1) := by decide +kernel
theorem dX6_digest_138 : decode cX6_digest 138 = .ok (.invokevirtual 363, 3) := by decide +kernel
theorem dX6_digest_141 : decode cX6_digest 141 = .ok (.invokestatic 367, 3) := by decide +kernel
theorem dX6_digest_144 : decode cX6_digest 144 = .ok (.invokestatic 334, 3) := by decide +kernel
theorem dX6_digest_147 : decode cX6_digest 147 = .ok (.lstore_n 1, 1) := by decide +kernel
theorem dX6_digest_148 : decode cX6_digest 148 = .ok (.lload_n 1, 1) := by decide +kernel
theorem dX6_digest_149 : decode cX6_digest 149 = .ok (.aload_n 0, 1) := by decide +kernel
theorem dX6_digest_150 : decode cX6_digest 150 = .ok (.getfield 43, 3) := by decide +kernel
theorem dX6_digest_153 : decode cX6_digest 153 = .ok (.i2l, 1) := by decide +kernel
theorem dX6_digest_154 : decode cX6_digest 154 = .ok (.invokestatic 334, 3) := by decide +kernel
theorem dX6_digest_157 : decode cX6_digest 157 = .ok (.lstore_n 1, 1) := by decide +kernel
theorem dX6_digest_158 : decode cX6_digest 158 = .ok (.iconst 0, 1) := by decide +kernel
theorem dX6_digest_159 : decode cX6_digest 159 = .ok (.istore_n 3, 1) := by decide +kernel
theorem dX6_digest_160 : decode cX6_digest 160 = .ok (.iload_n 3, 1) := by decide +kernel
theorem dX6_digest_161 : decode cX6_digest 161 = .ok (.aload_n 0, 1) := by decide +kernel
theorem dX6_digest_162 : decode cX6_digest 162 = .ok (.getfield 43, 3) := by decide +kernel
theorem dX6_digest_165 : decode cX6_digest 165 = .ok (.if_icmp .ge 20, 3) := by decide +kernel
theorem dX6_digest_168 : decode cX6_digest 168 = .ok (.lload_n 1, 1) := by decide +kernel
theorem dX6_digest_169 : decode cX6_digest 169 = .ok (.aload_n 0, 1) := by decide +kernel
theorem dX6_digest_170 : decode cX6_digest 170 = .ok (.iload_n 3, 1) := by decide +kernel
theorem dX6_digest_171 : decode cX6_digest 171 = .ok (.invokevirtual 241, 3) := by decide +kernel
theorem dX6_digest_174 : decode cX6_digest 174 = .ok (.i2l, 1) := by decide +kernel
theorem dX6_digest_175 : decode cX6_digest 175 = .ok (.invokestatic 334, 3) := by decide +kernel
theorem dX6_digest_178 : decode cX6_digest 178 = .ok (.lstore_n 1, 1) := by decide +kernel
theorem dX6_digest_179 : decode cX6_digest 179 = .ok (.iinc 3 1, 3) := by decide +kernel
theorem dX6_digest_182 : decode cX6_digest 182 = .ok (.goto (-22), 3) := by decide +kernel
theorem dX6_digest_185 : decode cX6_digest 185 = .ok (.lload_n 1, 1) := by decide +kernel
theorem dX6_digest_186 : decode cX6_digest 186 = .ok (.lreturn, 1) := by decide +kernel
theorem dX6_isOutside_0 : decode cX6_isOutside 0 = .ok (.iload_n 0, 1) := by decide +kernel
theorem dX6_isOutside_1 : decode cX6_isOutside 1 = .ok (.iload_n 1, 1) := by decide +kernel
theorem dX6_isOutside_2 : decode cX6_isOutside 2 = .ok (.if_icmp .lt 8, 3) := by decide +kernel
theorem dX6_isOutside_5 : decode cX6_isOutside 5 = .ok (.iload_n 0, 1) := by decide +kernel
theorem dX6_isOutside_6 : decode cX6_isOutside 6 = .ok (.iload_n 2, 1) := by decide +kernel
theorem dX6_isOutside_7 : decode cX6_isOutside 7 = .ok (.if_icmp .le 7, 3) := by decide +kernel
theorem dX6_isOutside_10 : decode cX6_isOutside 10 = .ok (.iconst 1, 1) := by decide +kernel
theorem dX6_isOutside_11 : decode cX6_isOutside 11 = .ok (.goto 4, 3) := by decide +kernel
theorem dX6_isOutside_14 : decode cX6_isOutside 14 = .ok (.iconst 0, 1) := by decide +kernel
theorem dX6_isOutside_15 : decode cX6_isOutside 15 = .ok (.ireturn, 1) := by decide +kernel
theorem dX6_isVariety_0 : decode cX6_isVariety 0 = .ok (.iload_n 0, 1) := by decide +kernel
theorem dX6_isVariety_1 : decode cX6_isVariety 1 = .ok (.ifCond .lt 12, 3) := by decide +kernel
theorem dX6_isVariety_4 : decode cX6_isVariety 4 = .ok (.iload_n 0, 1) := by decide +kernel
theorem dX6_isVariety_5 : decode cX6_isVariety 5 = .ok (.iconst 5, 1) := by decide +kernel
theorem dX6_isVariety_6 : decode cX6_isVariety 6 = .ok (.if_icmp .ge 7, 3) := by decide +kernel
theorem dX6_isVariety_9 : decode cX6_isVariety 9 = .ok (.iconst 1, 1) := by decide +kernel
theorem dX6_isVariety_10 : decode cX6_isVariety 10 = .ok (.goto 4, 3) := by decide +kernel
theorem dX6_isVariety_13 : decode cX6_isVariety 13 = .ok (.iconst 0, 1) := by decide +kernel
theorem dX6_isVariety_14 : decode cX6_isVariety 14 = .ok (.ireturn, 1) := by decide +kernel
theorem dX6_isSetting_0 : decode cX6_isSetting 0 = .ok (.iload_n 0, 1) := by decide +kernel
theorem dX6_isSetting_1 : decode cX6_isSetting 1 = .ok (.ifCond .lt 13, 3) := by decide +kernel
theorem dX6_isSetting_4 : decode cX6_isSetting 4 = .ok (.iload_n 0, 1) := by decide +kernel
theorem dX6_isSetting_5 : decode cX6_isSetting 5 = .ok (.bipush 7, 2) := by decide +kernel
theorem dX6_isSetting_7 : decode cX6_isSetting 7 = .ok (.if_icmp .ge 7, 3) := by decide +kernel
theorem dX6_isSetting_10 : decode cX6_isSetting 10 = .ok (.iconst 1, 1) := by decide +kernel
theorem dX6_isSetting_11 : decode cX6_isSetting 11 = .ok (.goto 4, 3) := by decide +kernel
theorem dX6_isSetting_14 : decode cX6_isSetting 14 = .ok (.iconst 0, 1) := by decide +kernel
theorem dX6_isSetting_15 : decode cX6_isSetting 15 = .ok (.ireturn, 1) := by decide +kernel
theorem dX6_isSettingValue_0 : decode cX6_isSettingValue 0 = .ok (.iload_n 0, 1) := by decide +kernel
theorem dX6_isSettingValue_1 : decode cX6_isSettingValue 1 = .ok (.ifCond .lt 41, 3) := by decide +kernel
theorem dX6_isSettingValue_4 : decode cX6_isSettingValue 4 = .ok (.iload_n 0, 1) := by decide +kernel
theorem dX6_isSettingValue_5 : decode cX6_isSettingValue 5 = .ok (.getstatic 371, 3) := by decide +kernel
theorem dX6_isSettingValue_8 : decode cX6_isSettingValue 8 = .ok (.arraylength, 1) := by decide +kernel
theorem dX6_isSettingValue_9 : decode cX6_isSettingValue 9 = .ok (.if_icmp .ge 33, 3) := by decide +kernel
theorem dX6_isSettingValue_12 : decode cX6_isSettingValue 12 = .ok (.iload_n 0, 1) := by decide +kernel
theorem dX6_isSettingValue_13 : decode cX6_isSettingValue 13 = .ok (.getstatic 374, 3) := by decide +kernel
theorem dX6_isSettingValue_16 : decode cX6_isSettingValue 16 = .ok (.arraylength, 1) := by decide +kernel
theorem dX6_isSettingValue_17 : decode cX6_isSettingValue 17 = .ok (.if_icmp .ge 25, 3) := by decide +kernel
theorem dX6_isSettingValue_20 : decode cX6_isSettingValue 20 = .ok (.iload_n 1, 1) := by decide +kernel
theorem dX6_isSettingValue_21 : decode cX6_isSettingValue 21 = .ok (.getstatic 371, 3) := by decide +kernel
theorem dX6_isSettingValue_24 : decode cX6_isSettingValue 24 = .ok (.iload_n 0, 1) := by decide +kernel
theorem dX6_isSettingValue_25 : decode cX6_isSettingValue 25 = .ok (.iaload, 1) := by decide +kernel
theorem dX6_isSettingValue_26 : decode cX6_isSettingValue 26 = .ok (.if_icmp .lt 16, 3) := by decide +kernel
theorem dX6_isSettingValue_29 : decode cX6_isSettingValue 29 = .ok (.iload_n 1, 1) := by decide +kernel
theorem dX6_isSettingValue_30 : decode cX6_isSettingValue 30 = .ok (.getstatic 374, 3) := by decide +kernel
theorem dX6_isSettingValue_33 : decode cX6_isSettingValue 33 = .ok (.iload_n 0, 1) := by decide +kernel
theorem dX6_isSettingValue_34 : decode cX6_isSettingValue 34 = .ok (.iaload, 1) := by decide +kernel
theorem dX6_isSettingValue_35 : decode cX6_isSettingValue 35 = .ok (.if_icmp .gt 7, 3) := by decide +kernel
theorem dX6_isSettingValue_38 : decode cX6_isSettingValue 38 = .ok (.iconst 1, 1) := by decide +kernel
theorem dX6_isSettingValue_39 : decode cX6_isSettingValue 39 = .ok (.goto 4, 3) := by decide +kernel
theorem dX6_isSettingValue_42 : decode cX6_isSettingValue 42 = .ok (.iconst 0, 1) := by decide +kernel
theorem dX6_isSettingValue_43 : decode cX6_isSettingValue 43 = .ok (.ireturn, 1) := by decide +kernel
theorem dX6_checkGrower_0 : decode cX6_checkGrower 0 = .ok (.iload_n 1, 1) := by decide +kernel
theorem dX6_checkGrower_1 : decode cX6_checkGrower 1 = .ok (.ifCond .lt 18, 3) := by decide +kernel
theorem dX6_checkGrower_4 : decode cX6_checkGrower 4 = .ok (.iload_n 1, 1) := by decide +kernel
theorem dX6_checkGrower_5 : decode cX6_checkGrower 5 = .ok (.aload_n 0, 1) := by decide +kernel
theorem dX6_checkGrower_6 : decode cX6_checkGrower 6 = .ok (.getfield 12, 3) := by decide +kernel
theorem dX6_checkGrower_9 : decode cX6_checkGrower 9 = .ok (.getfield 47, 3) := by decide +kernel
theorem dX6_checkGrower_12 : decode cX6_checkGrower 12 = .ok (.iconst 0, 1) := by decide +kernel
theorem dX6_checkGrower_13 : decode cX6_checkGrower 13 = .ok (.invokevirtual 51, 3) := by decide +kernel
theorem dX6_checkGrower_16 : decode cX6_checkGrower 16 = .ok (.if_icmp .lt 14, 3) := by decide +kernel
theorem dX6_checkGrower_19 : decode cX6_checkGrower 19 = .ok (.new 122, 3) := by decide +kernel
theorem dX6_checkGrower_22 : decode cX6_checkGrower 22 = .ok (.dup, 1) := by decide +kernel
theorem dX6_checkGrower_23 : decode cX6_checkGrower 23 = .ok (.ldc_w 377, 3) := by decide +kernel
theorem dX6_checkGrower_26 : decode cX6_checkGrower 26 = .ok (.invokespecial 126, 3) := by decide +kernel
theorem dX6_checkGrower_29 : decode cX6_checkGrower 29 = .ok (.athrow, 1) := by decide +kernel
theorem dX6_checkGrower_30 : decode cX6_checkGrower 30 = .ok (.return_, 1) := by decide +kernel
theorem dX6_checkLot_0 : decode cX6_checkLot 0 = .ok (.iload_n 1, 1) := by decide +kernel
theorem dX6_checkLot_1 : decode cX6_checkLot 1 = .ok (.ifCond .lt 18, 3) := by decide +kernel
theorem dX6_checkLot_4 : decode cX6_checkLot 4 = .ok (.iload_n 1, 1) := by decide +kernel
theorem dX6_checkLot_5 : decode cX6_checkLot 5 = .ok (.aload_n 0, 1) := by decide +kernel
theorem dX6_checkLot_6 : decode cX6_checkLot 6 = .ok (.getfield 12, 3) := by decide +kernel
theorem dX6_checkLot_9 : decode cX6_checkLot 9 = .ok (.getfield 47, 3) := by decide +kernel
theorem dX6_checkLot_12 : decode cX6_checkLot 12 = .ok (.iconst 1, 1) := by decide +kernel
theorem dX6_checkLot_13 : decode cX6_checkLot 13 = .ok (.invokevirtual 51, 3) := by decide +kernel
theorem dX6_checkLot_16 : decode cX6_checkLot 16 = .ok (.if_icmp .lt 14, 3) := by decide +kernel
theorem dX6_checkLot_19 : decode cX6_checkLot 19 = .ok (.new 122, 3) := by decide +kernel
theorem dX6_checkLot_22 : decode cX6_checkLot 22 = .ok (.dup, 1) := by decide +kernel
theorem dX6_checkLot_23 : decode cX6_checkLot 23 = .ok (.ldc_w 379, 3) := by decide +kernel
theorem dX6_checkLot_26 : decode cX6_checkLot 26 = .ok (.invokespecial 126, 3) := by decide +kernel
theorem dX6_checkLot_29 : decode cX6_checkLot 29 = .ok (.athrow, 1) := by decide +kernel
theorem dX6_checkLot_30 : decode cX6_checkLot 30 = .ok (.return_, 1) := by decide +kernel
theorem dX6_checkTank_0 : decode cX6_checkTank 0 = .ok (.iload_n 1, 1) := by decide +kernel
theorem dX6_checkTank_1 : decode cX6_checkTank 1 = .ok (.ifCond .lt 18, 3) := by decide +kernel
theorem dX6_checkTank_4 : decode cX6_checkTank 4 = .ok (.iload_n 1, 1) := by decide +kernel
theorem dX6_checkTank_5 : decode cX6_checkTank 5 = .ok (.aload_n 0, 1) := by decide +kernel
theorem dX6_checkTank_6 : decode cX6_checkTank 6 = .ok (.getfield 12, 3) := by decide +kernel
theorem dX6_checkTank_9 : decode cX6_checkTank 9 = .ok (.getfield 47, 3) := by decide +kernel
theorem dX6_checkTank_12 : decode cX6_checkTank 12 = .ok (.iconst 2, 1) := by decide +kernel
theorem dX6_checkTank_13 : decode cX6_checkTank 13 = .ok (.invokevirtual 51, 3) := by decide +kernel
theorem dX6_checkTank_16 : decode cX6_checkTank 16 = .ok (.if_icmp .lt 14, 3) := by decide +kernel
theorem dX6_checkTank_19 : decode cX6_checkTank 19 = .ok (.new 122, 3) := by decide +kernel
theorem dX6_checkTank_22 : decode cX6_checkTank 22 = .ok (.dup, 1) := by decide +kernel
theorem dX6_checkTank_23 : decode cX6_checkTank 23 = .ok (.ldc_w 381, 3) := by decide +kernel
theorem dX6_checkTank_26 : decode cX6_checkTank 26 = .ok (.invokespecial 126, 3) := by decide +kernel
theorem dX6_checkTank_29 : decode cX6_checkTank 29 = .ok (.athrow, 1) := by decide +kernel
theorem dX6_checkTank_30 : decode cX6_checkTank 30 = .ok (.return_, 1) := by decide +kernel
theorem dX6_checkVariety_0 : decode cX6_checkVariety 0 = .ok (.iload_n 0, 1) := by decide +kernel
theorem dX6_checkVariety_1 : decode cX6_checkVariety 1 = .ok (.invokestatic 75, 3) := by decide +kernel
theorem dX6_checkVariety_4 : decode cX6_checkVariety 4 = .ok (.ifCond .ne 14, 3) := by decide +kernel
theorem dX6_checkVariety_7 : decode cX6_checkVariety 7 = .ok (.new 122, 3) := by decide +kernel
theorem dX6_checkVariety_10 : decode cX6_checkVariety 10 = .ok (.dup, 1) := by decide +kernel
theorem dX6_checkVariety_11 : decode cX6_checkVariety 11 = .ok (.ldc_w 311, 3) := by decide +kernel
theorem dX6_checkVariety_14 : decode cX6_checkVariety 14 = .ok (.invokespecial 126, 3) := by decide +kernel
theorem dX6_checkVariety_17 : decode cX6_checkVariety 17 = .ok (.athrow, 1) := by decide +kernel
theorem dX6_checkVariety_18 : decode cX6_checkVariety 18 = .ok (.return_, 1) := by decide +kernel
theorem dX6_checkOil_0 : decode cX6_checkOil 0 = .ok (.iload_n 0, 1) := by decide +kernel
theorem dX6_checkOil_1 : decode cX6_checkOil 1 = .ok (.iconst 1, 1) := by decide +kernel
theorem dX6_checkOil_2 : decode cX6_checkOil 2 = .ok (.sipush 20000, 3) := by decide +kernel
theorem dX6_checkOil_5 : decode cX6_checkOil 5 = .ok (.invokestatic 79, 3) := by decide +kernel
theorem dX6_checkOil_8 : decode cX6_checkOil 8 = .ok (.ifCond .eq 14, 3) := by decide +kernel
theorem dX6_checkOil_11 : decode cX6_checkOil 11 = .ok (.new 83, 3) := by decide +kernel
theorem dX6_checkOil_14 : decode cX6_checkOil 14 = .ok (.dup, 1) := by decide +kernel
theorem dX6_checkOil_15 : decode cX6_checkOil 15 = .ok (.ldc_w 383, 3) := by decide +kernel
theorem dX6_checkOil_18 : decode cX6_checkOil 18 = .ok (.invokespecial 87, 3) := by decide +kernel
theorem dX6_checkOil_21 : decode cX6_checkOil 21 = .ok (.athrow, 1) := by decide +kernel
theorem dX6_checkOil_22 : decode cX6_checkOil 22 = .ok (.return_, 1) := by decide +kernel
theorem dX6_enterLot_0 : decode cX6_enterLot 0 = .ok (.aload_n 0, 1) := by decide +kernel
theorem dX6_enterLot_1 : decode cX6_enterLot 1 = .ok (.getfield 12, 3) := by decide +kernel
theorem dX6_enterLot_4 : decode cX6_enterLot 4 = .ok (.getfield 47, 3) := by decide +kernel
theorem dX6_enterLot_7 : decode cX6_enterLot 7 = .ok (.iconst 1, 1) := by decide +kernel
theorem dX6_enterLot_8 : decode cX6_enterLot 8 = .ok (.invokevirtual 51, 3) := by decide +kernel
theorem dX6_enterLot_11 : decode cX6_enterLot 11 = .ok (.istore 6, 2) := by decide +kernel
theorem dX6_enterLot_13 : decode cX6_enterLot 13 = .ok (.aload_n 0, 1) := by decide +kernel
theorem dX6_enterLot_14 : decode cX6_enterLot 14 = .ok (.getfield 12, 3) := by decide +kernel
theorem dX6_enterLot_17 : decode cX6_enterLot 17 = .ok (.getfield 182, 3) := by decide +kernel
theorem dX6_enterLot_20 : decode cX6_enterLot 20 = .ok (.iload 6, 2) := by decide +kernel
theorem dX6_enterLot_22 : decode cX6_enterLot 22 = .ok (.iconst 0, 1) := by decide +kernel
theorem dX6_enterLot_23 : decode cX6_enterLot 23 = .ok (.iload_n 1, 1) := by decide +kernel
theorem dX6_enterLot_24 : decode cX6_enterLot 24 = .ok (.invokevirtual 102, 3) := by decide +kernel
theorem dX6_enterLot_27 : decode cX6_enterLot 27 = .ok (.aload_n 0, 1) := by decide +kernel
theorem dX6_enterLot_28 : decode cX6_enterLot 28 = .ok (.getfield 12, 3) := by decide +kernel
theorem dX6_enterLot_31 : decode cX6_enterLot 31 = .ok (.getfield 182, 3) := by decide +kernel
theorem dX6_enterLot_34 : decode cX6_enterLot 34 = .ok (.iload 6, 2) := by decide +kernel
theorem dX6_enterLot_36 : decode cX6_enterLot 36 = .ok (.iconst 1, 1) := by decide +kernel
theorem dX6_enterLot_37 : decode cX6_enterLot 37 = .ok (.iload_n 2, 1) := by decide +kernel
theorem dX6_enterLot_38 : decode cX6_enterLot 38 = .ok (.invokevirtual 102, 3) := by decide +kernel
theorem dX6_enterLot_41 : decode cX6_enterLot 41 = .ok (.aload_n 0, 1) := by decide +kernel
theorem dX6_enterLot_42 : decode cX6_enterLot 42 = .ok (.getfield 12, 3) := by decide +kernel
theorem dX6_enterLot_45 : decode cX6_enterLot 45 = .ok (.getfield 182, 3) := by decide +kernel
theorem dX6_enterLot_48 : decode cX6_enterLot 48 = .ok (.iload 6, 2) := by decide +kernel
theorem dX6_enterLot_50 : decode cX6_enterLot 50 = .ok (.iconst 2, 1) := by decide +kernel
theorem dX6_enterLot_51 : decode cX6_enterLot 51 = .ok (.iload_n 3, 1) := by decide +kernel
theorem dX6_enterLot_52 : decode cX6_enterLot 52 = .ok (.invokevirtual 102, 3) := by decide +kernel
theorem dX6_enterLot_55 : decode cX6_enterLot 55 = .ok (.aload_n 0, 1) := by decide +kernel
theorem dX6_enterLot_56 : decode cX6_enterLot 56 = .ok (.getfield 12, 3) := by decide +kernel
theorem dX6_enterLot_59 : decode cX6_enterLot 59 = .ok (.getfield 182, 3) := by decide +kernel
theorem dX6_enterLot_62 : decode cX6_enterLot 62 = .ok (.iload 6, 2) := by decide +kernel
theorem dX6_enterLot_64 : decode cX6_enterLot 64 = .ok (.iconst 3, 1) := by decide +kernel
theorem dX6_enterLot_65 : decode cX6_enterLot 65 = .ok (.iload 4, 2) := by decide +kernel
theorem dX6_enterLot_67 : decode cX6_enterLot 67 = .ok (.invokevirtual 102, 3) := by decide +kernel
theorem dX6_enterLot_70 : decode cX6_enterLot 70 = .ok (.aload_n 0, 1) := by decide +kernel
theorem dX6_enterLot_71 : decode cX6_enterLot 71 = .ok (.getfield 12, 3) := by decide +kernel
theorem dX6_enterLot_74 : decode cX6_enterLot 74 = .ok (.getfield 182, 3) := by decide +kernel
theorem dX6_enterLot_77 : decode cX6_enterLot 77 = .ok (.iload 6, 2) := by decide +kernel
theorem dX6_enterLot_79 : decode cX6_enterLot 79 = .ok (.iconst 4, 1) := by decide +kernel
theorem dX6_enterLot_80 : decode cX6_enterLot 80 = .ok (.iload 5, 2) := by decide +kernel
theorem dX6_enterLot_82 : decode cX6_enterLot 82 = .ok (.invokevirtual 102, 3) := by decide +kernel
theorem dX6_enterLot_85 : decode cX6_enterLot 85 = .ok (.aload_n 0, 1) := by decide +kernel
theorem dX6_enterLot_86 : decode cX6_enterLot 86 = .ok (.getfield 12, 3) := by decide +kernel
theorem dX6_enterLot_89 : decode cX6_enterLot 89 = .ok (.getfield 47, 3) := by decide +kernel
theorem dX6_enterLot_92 : decode cX6_enterLot 92 = .ok (.iconst 1, 1) := by decide +kernel
theorem dX6_enterLot_93 : decode cX6_enterLot 93 = .ok (.iconst 1, 1) := by decide +kernel
theorem dX6_enterLot_94 : decode cX6_enterLot 94 = .ok (.invokevirtual 67, 3) := by decide +kernel
theorem dX6_enterLot_97 : decode cX6_enterLot 97 = .ok (.iload 6, 2) := by decide +kernel
theorem dX6_enterLot_99 : decode cX6_enterLot 99 = .ok (.ireturn, 1) := by decide +kernel
theorem dX6_enterSlips_0 : decode cX6_enterSlips 0 = .ok (.iconst 0, 1) := by decide +kernel
theorem dX6_enterSlips_1 : decode cX6_enterSlips 1 = .ok (.istore_n 1, 1) := by decide +kernel
theorem dX6_enterSlips_2 : decode cX6_enterSlips 2 = .ok (.aload_n 0, 1) := by decide +kernel
theorem dX6_enterSlips_3 : decode cX6_enterSlips 3 = .ok (.getfield 35, 3) := by decide +kernel
theorem dX6_enterSlips_6 : decode cX6_enterSlips 6 = .ok (.invokevirtual 238, 3) := by decide +kernel
theorem dX6_enterSlips_9 : decode cX6_enterSlips 9 = .ok (.iconst 0, 1) := by decide +kernel
theorem dX6_enterSlips_10 : decode cX6_enterSlips 10 = .ok (.istore_n 2, 1) := by decide +kernel
theorem dX6_enterSlips_11 : decode cX6_enterSlips 11 = .ok (.iload_n 2, 1) := by decide +kernel
theorem dX6_enterSlips_12 : decode cX6_enterSlips 12 = .ok (.aload_n 0, 1) := by decide +kernel
theorem dX6_enterSlips_13 : decode cX6_enterSlips 13 = .ok (.getfield 43, 3) := by decide +kernel
theorem dX6_enterSlips_16 : decode cX6_enterSlips 16 = .ok (.if_icmp .gt 125, 3) := by decide +kernel
theorem dX6_enterSlips_19 : decode cX6_enterSlips 19 = .ok (.iload_n 2, 1) := by decide +kernel
theorem dX6_enterSlips_20 : decode cX6_enterSlips 20 = .ok (.aload_n 0, 1) := by decide +kernel
theorem dX6_enterSlips_21 : decode cX6_enterSlips 21 = .ok (.getfield 43, 3) := by decide +kernel
theorem dX6_enterSlips_24 : decode cX6_enterSlips 24 = .ok (.if_icmp .ge 11, 3) := by decide +kernel
theorem dX6_enterSlips_27 : decode cX6_enterSlips 27 = .ok (.aload_n 0, 1) := by decide +kernel
theorem dX6_enterSlips_28 : decode cX6_enterSlips 28 = .ok (.iload_n 2, 1) := by decide +kernel
theorem dX6_enterSlips_29 : decode cX6_enterSlips 29 = .ok (.invokevirtual 241, 3) := by decide +kernel
theorem dX6_enterSlips_32 : decode cX6_enterSlips 32 = .ok (.goto 5, 3) := by decide +kernel
theorem dX6_enterSlips_35 : decode cX6_enterSlips 35 = .ok (.bipush 59, 2) := by decide +kernel
theorem dX6_enterSlips_37 : decode cX6_enterSlips 37 = .ok (.istore_n 3, 1) := by decide +kernel
theorem dX6_enterSlips_38 : decode cX6_enterSlips 38 = .ok (.iload_n 3, 1) := by decide +kernel
theorem dX6_enterSlips_39 : decode cX6_enterSlips 39 = .ok (.bipush 59, 2) := by decide +kernel
theorem dX6_enterSlips_41 : decode cX6_enterSlips 41 = .ok (.if_icmp .ne 85, 3) := by decide +kernel
theorem dX6_enterSlips_44 : decode cX6_enterSlips 44 = .ok (.aload_n 0, 1) := by decide +kernel
theorem dX6_enterSlips_45 : decode cX6_enterSlips 45 = .ok (.getfield 35, 3) := by decide +kernel
theorem dX6_enterSlips_48 : decode cX6_enterSlips 48 = .ok (.getfield 385, 3) := by decide +kernel
theorem dX6_enterSlips_51 : decode cX6_enterSlips 51 = .ok (.aload_n 0, 1) := by decide +kernel
theorem dX6_enterSlips_52 : decode cX6_enterSlips 52 = .ok (.getfield 12, 3) := by decide +kernel
theorem dX6_enterSlips_55 : decode cX6_enterSlips 55 = .ok (.getfield 47, 3) := by decide +kernel
theorem dX6_enterSlips_58 : decode cX6_enterSlips 58 = .ok (.iconst 0, 1) := by decide +kernel
theorem dX6_enterSlips_59 : decode cX6_enterSlips 59 = .ok (.invokevirtual 51, 3) := by decide +kernel
theorem dX6_enterSlips_62 : decode cX6_enterSlips 62 = .ok (.if_icmp .ge 19, 3) := by decide +kernel
theorem dX6_enterSlips_65 : decode cX6_enterSlips 65 = .ok (.aload_n 0, 1) := by decide +kernel
theorem dX6_enterSlips_66 : decode cX6_enterSlips 66 = .ok (.getfield 12, 3) := by decide +kernel
theorem dX6_enterSlips_69 : decode cX6_enterSlips 69 = .ok (.getfield 47, 3) := by decide +kernel
theorem dX6_enterSlips_72 : decode cX6_enterSlips 72 = .ok (.iconst 1, 1) := by decide +kernel
theorem dX6_enterSlips_73 : decode cX6_enterSlips 73 = .ok (.invokevirtual 51, 3) := by decide +kernel
theorem dX6_enterSlips_76 : decode cX6_enterSlips 76 = .ok (.bipush 40, 2) := by decide +kernel
theorem dX6_enterSlips_78 : decode cX6_enterSlips 78 = .ok (.if_icmp .lt 5, 3) := by decide +kernel
theorem dX6_enterSlips_81 : decode cX6_enterSlips 81 = .ok (.iload_n 1, 1) := by decide +kernel
theorem dX6_enterSlips_82 : decode cX6_enterSlips 82 = .ok (.ireturn, 1) := by decide +kernel
theorem dX6_enterSlips_83 : decode cX6_enterSlips 83 = .ok (.aload_n 0, 1) := by decide +kernel
theorem dX6_enterSlips_84 : decode cX6_enterSlips 84 = .ok (.aload_n 0, 1) := by decide +kernel
theorem dX6_enterSlips_85 : decode cX6_enterSlips 85 = .ok (.getfield 35, 3) := by decide +kernel
theorem dX6_enterSlips_88 : decode cX6_enterSlips 88 = .ok (.getfield 385, 3) := by decide +kernel
theorem dX6_enterSlips_91 : decode cX6_enterSlips 91 = .ok (.aload_n 0, 1) := by decide +kernel
theorem dX6_enterSlips_92 : decode cX6_enterSlips 92 = .ok (.getfield 35, 3) := by decide +kernel
theorem dX6_enterSlips_95 : decode cX6_enterSlips 95 = .ok (.getfield 388, 3) := by decide +kernel
theorem dX6_enterSlips_98 : decode cX6_enterSlips 98 = .ok (.aload_n 0, 1) := by decide +kernel
theorem dX6_enterSlips_99 : decode cX6_enterSlips 99 = .ok (.getfield 35, 3) := by decide +kernel
theorem dX6_enterSlips_102 : decode cX6_enterSlips 102 = .ok (.getfield 391, 3) := by decide +kernel
theorem dX6_enterSlips_105 : decode cX6_enterSlips 105 = .ok (.aload_n 0, 1) := by decide +kernel
theorem dX6_enterSlips_106 : decode cX6_enterSlips 106 = .ok (.getfield 35, 3) := by decide +kernel
theorem dX6_enterSlips_109 : decode cX6_enterSlips 109 = .ok (.invokevirtual 394, 3) := by decide +kernel
theorem dX6_enterSlips_112 : decode cX6_enterSlips 112 = .ok (.aload_n 0, 1) := by decide +kernel
theorem dX6_enterSlips_113 : decode cX6_enterSlips 113 = .ok (.getfield 35, 3) := by decide +kernel
theorem dX6_enterSlips_116 : decode cX6_enterSlips 116 = .ok (.invokevirtual 397, 3) := by decide +kernel
theorem dX6_enterSlips_119 : decode cX6_enterSlips 119 = .ok (.invokevirtual 90, 3) := by decide +kernel
theorem dX6_enterSlips_122 : decode cX6_enterSlips 122 = .ok (.pop, 1) := by decide +kernel
theorem dX6_enterSlips_123 : decode cX6_enterSlips 123 = .ok (.iinc 1 1, 3) := by decide +kernel
theorem dX6_enterSlips_126 : decode cX6_enterSlips 126 = .ok (.aload_n 0, 1) := by decide +kernel
theorem dX6_enterSlips_127 : decode cX6_enterSlips 127 = .ok (.getfield 35, 3) := by decide +kernel
theorem dX6_enterSlips_130 : decode cX6_enterSlips 130 = .ok (.iload_n 3, 1) := by decide +kernel
theorem dX6_enterSlips_131 : decode cX6_enterSlips 131 = .ok (.invokevirtual 244, 3) := by decide +kernel
theorem dX6_enterSlips_134 : decode cX6_enterSlips 134 = .ok (.pop, 1) := by decide +kernel
theorem dX6_enterSlips_135 : decode cX6_enterSlips 135 = .ok (.iinc 2 1, 3) := by decide +kernel
theorem dX6_enterSlips_138 : decode cX6_enterSlips 138 = .ok (.goto (-127), 3) := by decide +kernel
theorem dX6_enterSlips_141 : decode cX6_enterSlips 141 = .ok (.iload_n 1, 1) := by decide +kernel
theorem dX6_enterSlips_142 : decode cX6_enterSlips 142 = .ok (.ireturn, 1) := by decide +kernel
theorem dX6_codeAt_0 : decode cX6_codeAt 0 = .ok (.iload_n 1, 1) := by decide +kernel
theorem dX6_codeAt_1 : decode cX6_codeAt 1 = .ok (.ifCond .lt 21, 3) := by decide +kernel
theorem dX6_codeAt_4 : decode cX6_codeAt 4 = .ok (.iload_n 1, 1) := by decide +kernel
theorem dX6_codeAt_5 : decode cX6_codeAt 5 = .ok (.aload_n 0, 1) := by decide +kernel
theorem dX6_codeAt_6 : decode cX6_codeAt 6 = .ok (.getfield 39, 3) := by decide +kernel
theorem dX6_codeAt_9 : decode cX6_codeAt 9 = .ok (.arraylength, 1) := by decide +kernel
theorem dX6_codeAt_10 : decode cX6_codeAt 10 = .ok (.if_icmp .ge 12, 3) := by decide +kernel
theorem dX6_codeAt_13 : decode cX6_codeAt 13 = .ok (.aload_n 0, 1) := by decide +kernel
theorem dX6_codeAt_14 : decode cX6_codeAt 14 = .ok (.getfield 39, 3) := by decide +kernel
theorem dX6_codeAt_17 : decode cX6_codeAt 17 = .ok (.iload_n 1, 1) := by decide +kernel
theorem dX6_codeAt_18 : decode cX6_codeAt 18 = .ok (.iaload, 1) := by decide +kernel
theorem dX6_codeAt_19 : decode cX6_codeAt 19 = .ok (.goto 4, 3) := by decide +kernel
theorem dX6_codeAt_22 : decode cX6_codeAt 22 = .ok (.iconst 0, 1) := by decide +kernel
theorem dX6_codeAt_23 : decode cX6_codeAt 23 = .ok (.ireturn, 1) := by decide +kernel
theorem dX6_lotsWith_0 : decode cX6_lotsWith 0 = .ok (.iconst 0, 1) := by decide +kernel
theorem dX6_lotsWith_1 : decode cX6_lotsWith 1 = .ok (.istore 4, 2) := by decide +kernel
theorem dX6_lotsWith_3 : decode cX6_lotsWith 3 = .ok (.aload_n 0, 1) := by decide +kernel
theorem dX6_lotsWith_4 : decode cX6_lotsWith 4 = .ok (.getfield 12, 3) := by decide +kernel
theorem dX6_lotsWith_7 : decode cX6_lotsWith 7 = .ok (.getfield 47, 3) := by decide +kernel
theorem dX6_lotsWith_10 : decode cX6_lotsWith 10 = .ok (.iconst 1, 1) := by decide +kernel
theorem dX6_lotsWith_11 : decode cX6_lotsWith 11 = .ok (.invokevirtual 51, 3) := by decide +kernel
theorem dX6_lotsWith_14 : decode cX6_lotsWith 14 = .ok (.istore 5, 2) := by decide +kernel
theorem dX6_lotsWith_16 : decode cX6_lotsWith 16 = .ok (.iconst 0, 1) := by decide +kernel
theorem dX6_lotsWith_17 : decode cX6_lotsWith 17 = .ok (.istore 6, 2) := by decide +kernel
theorem dX6_lotsWith_19 : decode cX6_lotsWith 19 = .ok (.iload 6, 2) := by decide +kernel
theorem dX6_lotsWith_21 : decode cX6_lotsWith 21 = .ok (.iload 5, 2) := by decide +kernel
theorem dX6_lotsWith_23 : decode cX6_lotsWith 23 = .ok (.if_icmp .ge 61, 3) := by decide +kernel
theorem dX6_lotsWith_26 : decode cX6_lotsWith 26 = .ok (.iload_n 3, 1) := by decide +kernel
theorem dX6_lotsWith_27 : decode cX6_lotsWith 27 = .ok (.ifCond .eq 19, 3) := by decide +kernel
theorem dX6_lotsWith_30 : decode cX6_lotsWith 30 = .ok (.aload_n 0, 1) := by decide +kernel
theorem dX6_lotsWith_31 : decode cX6_lotsWith 31 = .ok (.getfield 12, 3) := by decide +kernel
theorem dX6_lotsWith_34 : decode cX6_lotsWith 34 = .ok (.getfield 182, 3) := by decide +kernel
theorem dX6_lotsWith_37 : decode cX6_lotsWith 37 = .ok (.iload 6, 2) := by decide +kernel
theorem dX6_lotsWith_39 : decode cX6_lotsWith 39 = .ok (.iconst 5, 1) := by decide +kernel
theorem dX6_lotsWith_40 : decode cX6_lotsWith 40 = .ok (.invokevirtual 116, 3) := by decide +kernel
theorem dX6_lotsWith_43 : decode cX6_lotsWith 43 = .ok (.ifCond .ne 7, 3) := by decide +kernel
theorem dX6_lotsWith_46 : decode cX6_lotsWith 46 = .ok (.iconst 1, 1) := by decide +kernel
theorem dX6_lotsWith_47 : decode cX6_lotsWith 47 = .ok (.goto 4, 3) := by decide +kernel
theorem dX6_lotsWith_50 : decode cX6_lotsWith 50 = .ok (.iconst 0, 1) := by decide +kernel
theorem dX6_lotsWith_51 : decode cX6_lotsWith 51 = .ok (.istore 7, 2) := by decide +kernel
theorem dX6_lotsWith_53 : decode cX6_lotsWith 53 = .ok (.iload 7, 2) := by decide +kernel
theorem dX6_lotsWith_55 : decode cX6_lotsWith 55 = .ok (.ifCond .eq 23, 3) := by decide +kernel
theorem dX6_lotsWith_58 : decode cX6_lotsWith 58 = .ok (.aload_n 0, 1) := by decide +kernel
theorem dX6_lotsWith_59 : decode cX6_lotsWith 59 = .ok (.getfield 12, 3) := by decide +kernel
theorem dX6_lotsWith_62 : decode cX6_lotsWith 62 = .ok (.getfield 182, 3) := by decide +kernel
theorem dX6_lotsWith_65 : decode cX6_lotsWith 65 = .ok (.iload 6, 2) := by decide +kernel
theorem dX6_lotsWith_67 : decode cX6_lotsWith 67 = .ok (.iload_n 1, 1) := by decide +kernel
theorem dX6_lotsWith_68 : decode cX6_lotsWith 68 = .ok (.invokevirtual 116, 3) := by decide +kernel
theorem dX6_lotsWith_71 : decode cX6_lotsWith 71 = .ok (.iload_n 2, 1) := by decide +kernel
theorem dX6_lotsWith_72 : decode cX6_lotsWith 72 = .ok (.if_icmp .ne 6, 3) := by decide +kernel
theorem dX6_lotsWith_75 : decode cX6_lotsWith 75 = .ok (.iinc 4 1, 3) := by decide +kernel
theorem dX6_lotsWith_78 : decode cX6_lotsWith 78 = .ok (.iinc 6 1, 3) := by decide +kernel
theorem dX6_lotsWith_81 : decode cX6_lotsWith 81 = .ok (.goto (-62), 3) := by decide +kernel
theorem dX6_lotsWith_84 : decode cX6_lotsWith 84 = .ok (.iload 4, 2) := by decide +kernel
theorem dX6_lotsWith_86 : decode cX6_lotsWith 86 = .ok (.ireturn, 1) := by decide +kernel
theorem dX6_ifPressed_0 : decode cX6_ifPressed 0 = .ok (.aload_n 0, 1) := by decide +kernel
theorem dX6_ifPressed_1 : decode cX6_ifPressed 1 = .ok (.getfield 12, 3) := by decide +kernel
theorem dX6_ifPressed_4 : decode cX6_ifPressed 4 = .ok (.getfield 182, 3) := by decide +kernel
theorem dX6_ifPressed_7 : decode cX6_ifPressed 7 = .ok (.iload_n 1, 1) := by decide +kernel
theorem dX6_ifPressed_8 : decode cX6_ifPressed 8 = .ok (.iconst 5, 1) := by decide +kernel
theorem dX6_ifPressed_9 : decode cX6_ifPressed 9 = .ok (.invokevirtual 116, 3) := by decide +kernel
theorem dX6_ifPressed_12 : decode cX6_ifPressed 12 = .ok (.iload_n 2, 1) := by decide +kernel
theorem dX6_ifPressed_13 : decode cX6_ifPressed 13 = .ok (.if_icmp .lt 18, 3) := by decide +kernel
theorem dX6_ifPressed_16 : decode cX6_ifPressed 16 = .ok (.aload_n 0, 1) := by decide +kernel
theorem dX6_ifPressed_17 : decode cX6_ifPressed 17 = .ok (.getfield 12, 3) := by decide +kernel
theorem dX6_ifPressed_20 : decode cX6_ifPressed 20 = .ok (.getfield 182, 3) := by decide +kernel
theorem dX6_ifPressed_23 : decode cX6_ifPressed 23 = .ok (.iload_n 1, 1) := by decide +kernel
theorem dX6_ifPressed_24 : decode cX6_ifPressed 24 = .ok (.iload_n 3, 1) := by decide +kernel
theorem dX6_ifPressed_25 : decode cX6_ifPressed 25 = .ok (.invokevirtual 116, 3) := by decide +kernel
theorem dX6_ifPressed_28 : decode cX6_ifPressed 28 = .ok (.goto 4, 3) := by decide +kernel
theorem dX6_ifPressed_31 : decode cX6_ifPressed 31 = .ok (.iconst (-1), 1) := by decide +kernel
theorem dX6_ifPressed_32 : decode cX6_ifPressed 32 = .ok (.ireturn, 1) := by decide +kernel
theorem dX6_reasonAgainstPress_0 : decode cX6_reasonAgainstPress 0 = .ok (.aload_n 0, 1) := by decide +kernel
theorem dX6_reasonAgainstPress_1 : decode cX6_reasonAgainstPress 1 = .ok (.getfield 28, 3) := by decide +kernel
theorem dX6_reasonAgainstPress_4 : decode cX6_reasonAgainstPress 4 = .ok (.invokevirtual 302, 3) := by decide +kernel
theorem dX6_reasonAgainstPress_7 : decode cX6_reasonAgainstPress 7 = .ok (.ifCond .ne 5, 3) := by decide +kernel
theorem dX6_reasonAgainstPress_10 : decode cX6_reasonAgainstPress 10 = .ok (.iconst 1, 1) := by decide +kernel
theorem dX6_reasonAgainstPress_11 : decode cX6_reasonAgainstPress 11 = .ok (.ireturn, 1) := by decide +kernel
theorem dX6_reasonAgainstPress_12 : decode cX6_reasonAgainstPress 12 = .ok (.aload_n 0, 1) := by decide +kernel
theorem dX6_reasonAgainstPress_13 : decode cX6_reasonAgainstPress 13 = .ok (.getfield 28, 3) := by decide +kernel
theorem dX6_reasonAgainstPress_16 : decode cX6_reasonAgainstPress 16 = .ok (.getfield 308, 3) := by decide +kernel
theorem dX6_reasonAgainstPress_19 : decode cX6_reasonAgainstPress 19 = .ok (.aload_n 0, 1) := by decide +kernel
theorem dX6_reasonAgainstPress_20 : decode cX6_reasonAgainstPress 20 = .ok (.getfield 21, 3) := by decide +kernel
theorem dX6_reasonAgainstPress_23 : decode cX6_reasonAgainstPress 23 = .ok (.iload_n 1, 1) := by decide +kernel
theorem dX6_reasonAgainstPress_24 : decode cX6_reasonAgainstPress 24 = .ok (.invokevirtual 219, 3) := by decide +kernel
theorem dX6_reasonAgainstPress_27 : decode cX6_reasonAgainstPress 27 = .ok (.if_icmp .le 5, 3) := by decide +kernel
theorem dX6_reasonAgainstPress_30 : decode cX6_reasonAgainstPress 30 = .ok (.iconst 2, 1) := by decide +kernel
theorem dX6_reasonAgainstPress_31 : decode cX6_reasonAgainstPress 31 = .ok (.ireturn, 1) := by decide +kernel
theorem dX6_reasonAgainstPress_32 : decode cX6_reasonAgainstPress 32 = .ok (.aload_n 0, 1) := by decide +kernel
theorem dX6_reasonAgainstPress_33 : decode cX6_reasonAgainstPress 33 = .ok (.getfield 28, 3) := by decide +kernel
theorem dX6_reasonAgainstPress_36 : decode cX6_reasonAgainstPress 36 = .ok (.getfield 308, 3) := by decide +kernel
theorem dX6_reasonAgainstPress_39 : decode cX6_reasonAgainstPress 39 = .ok (.ifCond .le 31, 3) := by decide +kernel
theorem dX6_reasonAgainstPress_42 : decode cX6_reasonAgainstPress 42 = .ok (.aload_n 0, 1) := by decide +kernel
theorem dX6_reasonAgainstPress_43 : decode cX6_reasonAgainstPress 43 = .ok (.getfield 21, 3) := by decide +kernel
theorem dX6_reasonAgainstPress_46 : decode cX6_reasonAgainstPress 46 = .ok (.iload_n 1, 1) := by decide +kernel
theorem dX6_reasonAgainstPress_47 : decode cX6_reasonAgainstPress 47 = .ok (.aload_n 0, 1) := by decide +kernel
theorem dX6_reasonAgainstPress_48 : decode cX6_reasonAgainstPress 48 = .ok (.getfield 12, 3) := by decide +kernel
theorem dX6_reasonAgainstPress_51 : decode cX6_reasonAgainstPress 51 = .ok (.aload_n 0, 1) := by decide +kernel
theorem dX6_reasonAgainstPress_52 : decode cX6_reasonAgainstPress 52 = .ok (.getfield 28, 3) := by decide +kernel
theorem dX6_reasonAgainstPress_55 : decode cX6_reasonAgainstPress 55 = .ok (.getfield 168, 3) := by decide +kernel
theorem dX6_reasonAgainstPress_58 : decode cX6_reasonAgainstPress 58 = .ok (.invokevirtual 187, 3) := by decide +kernel
theorem dX6_reasonAgainstPress_61 : decode cX6_reasonAgainstPress 61 = .ok (.iload_n 2, 1) := by decide +kernel
theorem dX6_reasonAgainstPress_62 : decode cX6_reasonAgainstPress 62 = .ok (.invokevirtual 222, 3) := by decide +kernel
theorem dX6_reasonAgainstPress_65 : decode cX6_reasonAgainstPress 65 = .ok (.ifCond .ne 5, 3) := by decide +kernel
theorem dX6_reasonAgainstPress_68 : decode cX6_reasonAgainstPress 68 = .ok (.iconst 3, 1) := by decide +kernel
theorem dX6_reasonAgainstPress_69 : decode cX6_reasonAgainstPress 69 = .ok (.ireturn, 1) := by decide +kernel
theorem dX6_reasonAgainstPress_70 : decode cX6_reasonAgainstPress 70 = .ok (.iconst 0, 1) := by decide +kernel
theorem dX6_reasonAgainstPress_71 : decode cX6_reasonAgainstPress 71 = .ok (.ireturn, 1) := by decide +kernel
theorem dX6_loseByCleaning_0 : decode cX6_loseByCleaning 0 = .ok (.iload_n 2, 1) := by decide +kernel
theorem dX6_loseByCleaning_1 : decode cX6_loseByCleaning 1 = .ok (.ifCond .le 28, 3) := by decide +kernel
theorem dX6_loseByCleaning_4 : decode cX6_loseByCleaning 4 = .ok (.aload_n 0, 1) := by decide +kernel
theorem dX6_loseByCleaning_5 : decode cX6_loseByCleaning 5 = .ok (.getfield 12, 3) := by decide +kernel
theorem dX6_loseByCleaning_8 : decode cX6_loseByCleaning 8 = .ok (.getfield 113, 3) := by decide +kernel
theorem dX6_loseByCleaning_11 : decode cX6_loseByCleaning 11 = .ok (.iload_n 1, 1) := by decide +kernel
theorem dX6_loseByCleaning_12 : decode cX6_loseByCleaning 12 = .ok (.iconst 4, 1) := by decide +kernel
theorem dX6_loseByCleaning_13 : decode cX6_loseByCleaning 13 = .ok (.iload_n 2, 1) := by decide +kernel
theorem dX6_loseByCleaning_14 : decode cX6_loseByCleaning 14 = .ok (.invokevirtual 185, 3) := by decide +kernel
theorem dX6_loseByCleaning_17 : decode cX6_loseByCleaning 17 = .ok (.aload_n 0, 1) := by decide +kernel
theorem dX6_loseByCleaning_18 : decode cX6_loseByCleaning 18 = .ok (.getfield 12, 3) := by decide +kernel
theorem dX6_loseByCleaning_21 : decode cX6_loseByCleaning 21 = .ok (.getfield 47, 3) := by decide +kernel
theorem dX6_loseByCleaning_24 : decode cX6_loseByCleaning 24 = .ok (.iconst 5, 1) := by decide +kernel
theorem dX6_loseByCleaning_25 : decode cX6_loseByCleaning 25 = .ok (.iconst 1, 1) := by decide +kernel
theorem dX6_loseByCleaning_26 : decode cX6_loseByCleaning 26 = .ok (.invokevirtual 67, 3) := by decide +kernel
theorem dX6_loseByCleaning_29 : decode cX6_loseByCleaning 29 = .ok (.return_, 1) := by decide +kernel
theorem dX6_enterPressedLot_0 : decode cX6_enterPressedLot 0 = .ok (.aload_n 0, 1) := by decide +kernel
theorem dX6_enterPressedLot_1 : decode cX6_enterPressedLot 1 = .ok (.getfield 28, 3) := by decide +kernel
theorem dX6_enterPressedLot_4 : decode cX6_enterPressedLot 4 = .ok (.getfield 168, 3) := by decide +kernel
theorem dX6_enterPressedLot_7 : decode cX6_enterPressedLot 7 = .ok (.istore_n 2, 1) := by decide +kernel
theorem dX6_enterPressedLot_8 : decode cX6_enterPressedLot 8 = .ok (.aload_n 0, 1) := by decide +kernel
theorem dX6_enterPressedLot_9 : decode cX6_enterPressedLot 9 = .ok (.getfield 12, 3) := by decide +kernel
theorem dX6_enterPressedLot_12 : decode cX6_enterPressedLot 12 = .ok (.getfield 182, 3) := by decide +kernel
theorem dX6_enterPressedLot_15 : decode cX6_enterPressedLot 15 = .ok (.iload_n 2, 1) := by decide +kernel
theorem dX6_enterPressedLot_16 : decode cX6_enterPressedLot 16 = .ok (.iconst 5, 1) := by decide +kernel
theorem dX6_enterPressedLot_17 : decode cX6_enterPressedLot 17 = .ok (.iconst 1, 1) := by decide +kernel
theorem dX6_enterPressedLot_18 : decode cX6_enterPressedLot 18 = .ok (.invokevirtual 102, 3) := by decide +kernel
theorem dX6_enterPressedLot_21 : decode cX6_enterPressedLot 21 = .ok (.aload_n 0, 1) := by decide +kernel
theorem dX6_enterPressedLot_22 : decode cX6_enterPressedLot 22 = .ok (.getfield 12, 3) := by decide +kernel
theorem dX6_enterPressedLot_25 : decode cX6_enterPressedLot 25 = .ok (.getfield 182, 3) := by decide +kernel
theorem dX6_enterPressedLot_28 : decode cX6_enterPressedLot 28 = .ok (.iload_n 2, 1) := by decide +kernel
theorem dX6_enterPressedLot_29 : decode cX6_enterPressedLot 29 = .ok (.bipush 6, 2) := by decide +kernel
theorem dX6_enterPressedLot_31 : decode cX6_enterPressedLot 31 = .ok (.aload_n 0, 1) := by decide +kernel
theorem dX6_enterPressedLot_32 : decode cX6_enterPressedLot 32 = .ok (.getfield 28, 3) := by decide +kernel
theorem dX6_enterPressedLot_35 : decode cX6_enterPressedLot 35 = .ok (.getfield 400, 3) := by decide +kernel
theorem dX6_enterPressedLot_38 : decode cX6_enterPressedLot 38 = .ok (.invokevirtual 102, 3) := by decide +kernel
theorem dX6_enterPressedLot_41 : decode cX6_enterPressedLot 41 = .ok (.aload_n 0, 1) := by decide +kernel
theorem dX6_enterPressedLot_42 : decode cX6_enterPressedLot 42 = .ok (.getfield 12, 3) := by decide +kernel
theorem dX6_enterPressedLot_45 : decode cX6_enterPressedLot 45 = .ok (.getfield 182, 3) := by decide +kernel
theorem dX6_enterPressedLot_48 : decode cX6_enterPressedLot 48 = .ok (.iload_n 2, 1) := by decide +kernel
theorem dX6_enterPressedLot_49 : decode cX6_enterPressedLot 49 = .ok (.bipush 7, 2) := by decide +kernel
theorem dX6_enterPressedLot_51 : decode cX6_enterPressedLot 51 = .ok (.aload_n 0, 1) := by decide +kernel
theorem dX6_enterPressedLot_52 : decode cX6_enterPressedLot 52 = .ok (.getfield 28, 3) := by decide +kernel
theorem dX6_enterPressedLot_55 : decode cX6_enterPressedLot 55 = .ok (.getfield 403, 3) := by decide +kernel
theorem dX6_enterPressedLot_58 : decode cX6_enterPressedLot 58 = .ok (.invokevirtual 102, 3) := by decide +kernel
theorem dX6_enterPressedLot_61 : decode cX6_enterPressedLot 61 = .ok (.aload_n 0, 1) := by decide +kernel
theorem dX6_enterPressedLot_62 : decode cX6_enterPressedLot 62 = .ok (.getfield 12, 3) := by decide +kernel
theorem dX6_enterPressedLot_65 : decode cX6_enterPressedLot 65 = .ok (.getfield 182, 3) := by decide +kernel
theorem dX6_enterPressedLot_68 : decode cX6_enterPressedLot 68 = .ok (.iload_n 2, 1) := by decide +kernel
theorem dX6_enterPressedLot_69 : decode cX6_enterPressedLot 69 = .ok (.bipush 8, 2) := by decide +kernel
theorem dX6_enterPressedLot_71 : decode cX6_enterPressedLot 71 = .ok (.aload_n 0, 1) := by decide +kernel
theorem dX6_enterPressedLot_72 : decode cX6_enterPressedLot 72 = .ok (.getfield 28, 3) := by decide +kernel
theorem dX6_enterPressedLot_75 : decode cX6_enterPressedLot 75 = .ok (.getfield 305, 3) := by decide +kernel
theorem dX6_enterPressedLot_78 : decode cX6_enterPressedLot 78 = .ok (.invokevirtual 102, 3) := by decide +kernel
theorem dX6_enterPressedLot_81 : decode cX6_enterPressedLot 81 = .ok (.aload_n 0, 1) := by decide +kernel
theorem dX6_enterPressedLot_82 : decode cX6_enterPressedLot 82 = .ok (.getfield 12, 3) := by decide +kernel
theorem dX6_enterPressedLot_85 : decode cX6_enterPressedLot 85 = .ok (.getfield 182, 3) := by decide +kernel
theorem dX6_enterPressedLot_88 : decode cX6_enterPressedLot 88 = .ok (.iload_n 2, 1) := by decide +kernel
theorem dX6_enterPressedLot_89 : decode cX6_enterPressedLot 89 = .ok (.bipush 10, 2) := by decide +kernel
theorem dX6_enterPressedLot_91 : decode cX6_enterPressedLot 91 = .ok (.iload_n 1, 1) := by decide +kernel
theorem dX6_enterPressedLot_92 : decode cX6_enterPressedLot 92 = .ok (.invokevirtual 102, 3) := by decide +kernel
theorem dX6_enterPressedLot_95 : decode cX6_enterPressedLot 95 = .ok (.aload_n 0, 1) := by decide +kernel
theorem dX6_enterPressedLot_96 : decode cX6_enterPressedLot 96 = .ok (.getfield 12, 3) := by decide +kernel
theorem dX6_enterPressedLot_99 : decode cX6_enterPressedLot 99 = .ok (.getfield 200, 3) := by decide +kernel
theorem dX6_enterPressedLot_102 : decode cX6_enterPressedLot 102 = .ok (.aload_n 0, 1) := by decide +kernel
theorem dX6_enterPressedLot_103 : decode cX6_enterPressedLot 103 = .ok (.getfield 12, 3) := by decide +kernel
theorem dX6_enterPressedLot_106 : decode cX6_enterPressedLot 106 = .ok (.getfield 182, 3) := by decide +kernel
theorem dX6_enterPressedLot_109 : decode cX6_enterPressedLot 109 = .ok (.iload_n 2, 1) := by decide +kernel
theorem dX6_enterPressedLot_110 : decode cX6_enterPressedLot 110 = .ok (.iconst 0, 1) := by decide +kernel
theorem dX6_enterPressedLot_111 : decode cX6_enterPressedLot 111 = .ok (.invokevirtual 116, 3) := by decide +kernel
theorem dX6_enterPressedLot_114 : decode cX6_enterPressedLot 114 = .ok (.iconst 0, 1) := by decide +kernel
theorem dX6_enterPressedLot_115 : decode cX6_enterPressedLot 115 = .ok (.aload_n 0, 1) := by decide +kernel
theorem dX6_enterPressedLot_116 : decode cX6_enterPressedLot 116 = .ok (.getfield 28, 3) := by decide +kernel
theorem dX6_enterPressedLot_119 : decode cX6_enterPressedLot 119 = .ok (.getfield 305, 3) := by decide +kernel
theorem dX6_enterPressedLot_122 : decode cX6_enterPressedLot 122 = .ok (.invokevirtual 185, 3) := by decide +kernel
theorem dX6_enterPressedLot_125 : decode cX6_enterPressedLot 125 = .ok (.aload_n 0, 1) := by decide +kernel
theorem dX6_enterPressedLot_126 : decode cX6_enterPressedLot 126 = .ok (.getfield 12, 3) := by decide +kernel
theorem dX6_enterPressedLot_129 : decode cX6_enterPressedLot 129 = .ok (.getfield 113, 3) := by decide +kernel
theorem dX6_enterPressedLot_132 : decode cX6_enterPressedLot 132 = .ok (.aload_n 0, 1) := by decide +kernel
theorem dX6_enterPressedLot_133 : decode cX6_enterPressedLot 133 = .ok (.getfield 12, 3) := by decide +kernel
theorem dX6_enterPressedLot_136 : decode cX6_enterPressedLot 136 = .ok (.getfield 182, 3) := by decide +kernel
theorem dX6_enterPressedLot_139 : decode cX6_enterPressedLot 139 = .ok (.iload_n 2, 1) := by decide +kernel
theorem dX6_enterPressedLot_140 : decode cX6_enterPressedLot 140 = .ok (.iconst 1, 1) := by decide +kernel
theorem dX6_enterPressedLot_141 : decode cX6_enterPressedLot 141 = .ok (.invokevirtual 116, 3) := by decide +kernel
theorem dX6_enterPressedLot_144 : decode cX6_enterPressedLot 144 = .ok (.iconst 1, 1) := by decide +kernel
theorem dX6_enterPressedLot_145 : decode cX6_enterPressedLot 145 = .ok (.aload_n 0, 1) := by decide +kernel
theorem dX6_enterPressedLot_146 : decode cX6_enterPressedLot 146 = .ok (.getfield 28, 3) := by decide +kernel
theorem dX6_enterPressedLot_149 : decode cX6_enterPressedLot 149 = .ok (.getfield 305, 3) := by decide +kernel
theorem dX6_enterPressedLot_152 : decode cX6_enterPressedLot 152 = .ok (.invokevirtual 185, 3) := by decide +kernel
theorem dX6_enterPressedLot_155 : decode cX6_enterPressedLot 155 = .ok (.return_, 1) := by decide +kernel
theorem dX6_pourPressedOil_0 : decode cX6_pourPressedOil 0 = .ok (.aload_n 0, 1) := by decide +kernel
theorem dX6_pourPressedOil_1 : decode cX6_pourPressedOil 1 = .ok (.getfield 28, 3) := by decide +kernel
theorem dX6_pourPressedOil_4 : decode cX6_pourPressedOil 4 = .ok (.getfield 168, 3) := by decide +kernel
theorem dX6_pourPressedOil_7 : decode cX6_pourPressedOil 7 = .ok (.istore_n 2, 1) := by decide +kernel
theorem dX6_pourPressedOil_8 : decode cX6_pourPressedOil 8 = .ok (.aload_n 0, 1) := by decide +kernel
theorem dX6_pourPressedOil_9 : decode cX6_pourPressedOil 9 = .ok (.getfield 12, 3) := by decide +kernel
theorem dX6_pourPressedOil_12 : decode cX6_pourPressedOil 12 = .ok (.iload_n 2, 1) := by decide +kernel
theorem dX6_pourPressedOil_13 : decode cX6_pourPressedOil 13 = .ok (.invokevirtual 187, 3) := by decide +kernel
theorem dX6_pourPressedOil_16 : decode cX6_pourPressedOil 16 = .ok (.istore_n 3, 1) := by decide +kernel
theorem dX6_pourPressedOil_17 : decode cX6_pourPressedOil 17 = .ok (.aload_n 0, 1) := by decide +kernel
theorem dX6_pourPressedOil_18 : decode cX6_pourPressedOil 18 = .ok (.getfield 21, 3) := by decide +kernel
theorem dX6_pourPressedOil_21 : decode cX6_pourPressedOil 21 = .ok (.iload_n 1, 1) := by decide +kernel
theorem dX6_pourPressedOil_22 : decode cX6_pourPressedOil 22 = .ok (.aload_n 0, 1) := by decide +kernel
theorem dX6_pourPressedOil_23 : decode cX6_pourPressedOil 23 = .ok (.getfield 28, 3) := by decide +kernel
theorem dX6_pourPressedOil_26 : decode cX6_pourPressedOil 26 = .ok (.getfield 147, 3) := by decide +kernel
theorem dX6_pourPressedOil_29 : decode cX6_pourPressedOil 29 = .ok (.aload_n 0, 1) := by decide +kernel
theorem dX6_pourPressedOil_30 : decode cX6_pourPressedOil 30 = .ok (.getfield 28, 3) := by decide +kernel
theorem dX6_pourPressedOil_33 : decode cX6_pourPressedOil 33 = .ok (.getfield 406, 3) := by decide +kernel
theorem dX6_pourPressedOil_36 : decode cX6_pourPressedOil 36 = .ok (.iload_n 3, 1) := by decide +kernel
theorem dX6_pourPressedOil_37 : decode cX6_pourPressedOil 37 = .ok (.invokevirtual 190, 3) := by decide +kernel
theorem dX6_pourPressedOil_40 : decode cX6_pourPressedOil 40 = .ok (.aload_n 0, 1) := by decide +kernel
theorem dX6_pourPressedOil_41 : decode cX6_pourPressedOil 41 = .ok (.getfield 21, 3) := by decide +kernel
theorem dX6_pourPressedOil_44 : decode cX6_pourPressedOil 44 = .ok (.iload_n 1, 1) := by decide +kernel
theorem dX6_pourPressedOil_45 : decode cX6_pourPressedOil 45 = .ok (.aload_n 0, 1) := by decide +kernel
theorem dX6_pourPressedOil_46 : decode cX6_pourPressedOil 46 = .ok (.getfield 12, 3) := by decide +kernel
theorem dX6_pourPressedOil_49 : decode cX6_pourPressedOil 49 = .ok (.getfield 182, 3) := by decide +kernel
theorem dX6_pourPressedOil_52 : decode cX6_pourPressedOil 52 = .ok (.iload_n 2, 1) := by decide +kernel
theorem dX6_pourPressedOil_53 : decode cX6_pourPressedOil 53 = .ok (.iconst 1, 1) := by decide +kernel
theorem dX6_pourPressedOil_54 : decode cX6_pourPressedOil 54 = .ok (.invokevirtual 116, 3) := by decide +kernel
theorem dX6_pourPressedOil_57 : decode cX6_pourPressedOil 57 = .ok (.aload_n 0, 1) := by decide +kernel
theorem dX6_pourPressedOil_58 : decode cX6_pourPressedOil 58 = .ok (.getfield 28, 3) := by decide +kernel
theorem dX6_pourPressedOil_61 : decode cX6_pourPressedOil 61 = .ok (.getfield 308, 3) := by decide +kernel
theorem dX6_pourPressedOil_64 : decode cX6_pourPressedOil 64 = .ok (.aload_n 0, 1) := by decide +kernel
theorem dX6_pourPressedOil_65 : decode cX6_pourPressedOil 65 = .ok (.getfield 28, 3) := by decide +kernel
theorem dX6_pourPressedOil_68 : decode cX6_pourPressedOil 68 = .ok (.getfield 406, 3) := by decide +kernel
theorem dX6_pourPressedOil_71 : decode cX6_pourPressedOil 71 = .ok (.isub, 1) := by decide +kernel
theorem dX6_pourPressedOil_72 : decode cX6_pourPressedOil 72 = .ok (.iload_n 3, 1) := by decide +kernel
theorem dX6_pourPressedOil_73 : decode cX6_pourPressedOil 73 = .ok (.invokevirtual 190, 3) := by decide +kernel
theorem dX6_pourPressedOil_76 : decode cX6_pourPressedOil 76 = .ok (.return_, 1) := by decide +kernel
theorem dX6_residueVariety_0 : decode cX6_residueVariety 0 = .ok (.aload_n 0, 1) := by decide +kernel
theorem dX6_residueVariety_1 : decode cX6_residueVariety 1 = .ok (.getfield 12, 3) := by decide +kernel
theorem dX6_residueVariety_4 : decode cX6_residueVariety 4 = .ok (.getfield 47, 3) := by decide +kernel
theorem dX6_residueVariety_7 : decode cX6_residueVariety 7 = .ok (.iconst 4, 1) := by decide +kernel
theorem dX6_residueVariety_8 : decode cX6_residueVariety 8 = .ok (.invokevirtual 51, 3) := by decide +kernel
theorem dX6_residueVariety_11 : decode cX6_residueVariety 11 = .ok (.ifCond .le 17, 3) := by decide +kernel
theorem dX6_residueVariety_14 : decode cX6_residueVariety 14 = .ok (.aload_n 0, 1) := by decide +kernel
theorem dX6_residueVariety_15 : decode cX6_residueVariety 15 = .ok (.getfield 12, 3) := by decide +kernel
theorem dX6_residueVariety_18 : decode cX6_residueVariety 18 = .ok (.getfield 47, 3) := by decide +kernel
theorem dX6_residueVariety_21 : decode cX6_residueVariety 21 = .ok (.iconst 3, 1) := by decide +kernel
theorem dX6_residueVariety_22 : decode cX6_residueVariety 22 = .ok (.invokevirtual 51, 3) := by decide +kernel
theorem dX6_residueVariety_25 : decode cX6_residueVariety 25 = .ok (.goto 4, 3) := by decide +kernel
theorem dX6_residueVariety_28 : decode cX6_residueVariety 28 = .ok (.iconst (-1), 1) := by decide +kernel
theorem dX6_residueVariety_29 : decode cX6_residueVariety 29 = .ok (.ireturn, 1) := by decide +kernel
theorem dX6_reasonAgainstAppeal_0 : decode cX6_reasonAgainstAppeal 0 = .ok (.aload_n 0, 1) := by decide +kernel
theorem dX6_reasonAgainstAppeal_1 : decode cX6_reasonAgainstAppeal 1 = .ok (.getfield 12, 3) := by decide +kernel
theorem dX6_reasonAgainstAppeal_4 : decode cX6_reasonAgainstAppeal 4 = .ok (.getfield 182, 3) := by decide +kernel
theorem dX6_reasonAgainstAppeal_7 : decode cX6_reasonAgainstAppeal 7 = .ok (.iload_n 1, 1) := by decide +kernel
theorem dX6_reasonAgainstAppeal_8 : decode cX6_reasonAgainstAppeal 8 = .ok (.iconst 5, 1) := by decide +kernel
theorem dX6_reasonAgainstAppeal_9 : decode cX6_reasonAgainstAppeal 9 = .ok (.invokevirtual 116, 3) := by decide +kernel
theorem dX6_reasonAgainstAppeal_12 : decode cX6_reasonAgainstAppeal 12 = .ok (.iconst 1, 1) := by decide +kernel
theorem dX6_reasonAgainstAppeal_13 : decode cX6_reasonAgainstAppeal 13 = .ok (.if_icmp .eq 5, 3) := by decide +kernel
theorem dX6_reasonAgainstAppeal_16 : decode cX6_reasonAgainstAppeal 16 = .ok (.iconst 1, 1) := by decide +kernel
theorem dX6_reasonAgainstAppeal_17 : decode cX6_reasonAgainstAppeal 17 = .ok (.ireturn, 1) := by decide +kernel
theorem dX6_reasonAgainstAppeal_18 : decode cX6_reasonAgainstAppeal 18 = .ok (.aload_n 0, 1) := by decide +kernel
theorem dX6_reasonAgainstAppeal_19 : decode cX6_reasonAgainstAppeal 19 = .ok (.getfield 12, 3) := by decide +kernel
theorem dX6_reasonAgainstAppeal_22 : decode cX6_reasonAgainstAppeal 22 = .ok (.getfield 182, 3) := by decide +kernel
theorem dX6_reasonAgainstAppeal_25 : decode cX6_reasonAgainstAppeal 25 = .ok (.iload_n 1, 1) := by decide +kernel
theorem dX6_reasonAgainstAppeal_26 : decode cX6_reasonAgainstAppeal 26 = .ok (.bipush 6, 2) := by decide +kernel
theorem dX6_reasonAgainstAppeal_28 : decode cX6_reasonAgainstAppeal 28 = .ok (.invokevirtual 116, 3) := by decide +kernel
theorem dX6_reasonAgainstAppeal_31 : decode cX6_reasonAgainstAppeal 31 = .ok (.aload_n 0, 1) := by decide +kernel
theorem dX6_reasonAgainstAppeal_32 : decode cX6_reasonAgainstAppeal 32 = .ok (.getfield 12, 3) := by decide +kernel
theorem dX6_reasonAgainstAppeal_35 : decode cX6_reasonAgainstAppeal 35 = .ok (.getfield 133, 3) := by decide +kernel
theorem dX6_reasonAgainstAppeal_38 : decode cX6_reasonAgainstAppeal 38 = .ok (.iconst 1, 1) := by decide +kernel
theorem dX6_reasonAgainstAppeal_39 : decode cX6_reasonAgainstAppeal 39 = .ok (.invokevirtual 51, 3) := by decide +kernel
theorem dX6_reasonAgainstAppeal_42 : decode cX6_reasonAgainstAppeal 42 = .ok (.imul, 1) := by decide +kernel
theorem dX6_reasonAgainstAppeal_43 : decode cX6_reasonAgainstAppeal 43 = .ok (.sipush 1000, 3) := by decide +kernel
theorem dX6_reasonAgainstAppeal_46 : decode cX6_reasonAgainstAppeal 46 = .ok (.idiv, 1) := by decide +kernel
theorem dX6_reasonAgainstAppeal_47 : decode cX6_reasonAgainstAppeal 47 = .ok (.istore_n 2, 1) := by decide +kernel
theorem dX6_reasonAgainstAppeal_48 : decode cX6_reasonAgainstAppeal 48 = .ok (.aload_n 0, 1) := by decide +kernel
theorem dX6_reasonAgainstAppeal_49 : decode cX6_reasonAgainstAppeal 49 = .ok (.getfield 12, 3) := by decide +kernel
theorem dX6_reasonAgainstAppeal_52 : decode cX6_reasonAgainstAppeal 52 = .ok (.getfield 182, 3) := by decide +kernel
theorem dX6_reasonAgainstAppeal_55 : decode cX6_reasonAgainstAppeal 55 = .ok (.iload_n 1, 1) := by decide +kernel
theorem dX6_reasonAgainstAppeal_56 : decode cX6_reasonAgainstAppeal 56 = .ok (.bipush 8, 2) := by decide +kernel
theorem dX6_reasonAgainstAppeal_58 : decode cX6_reasonAgainstAppeal 58 = .ok (.invokevirtual 116, 3) := by decide +kernel
theorem dX6_reasonAgainstAppeal_61 : decode cX6_reasonAgainstAppeal 61 = .ok (.iload_n 2, 1) := by decide +kernel
theorem dX6_reasonAgainstAppeal_62 : decode cX6_reasonAgainstAppeal 62 = .ok (.sipush 1000, 3) := by decide +kernel
theorem dX6_reasonAgainstAppeal_65 : decode cX6_reasonAgainstAppeal 65 = .ok (.aload_n 0, 1) := by decide +kernel
theorem dX6_reasonAgainstAppeal_66 : decode cX6_reasonAgainstAppeal 66 = .ok (.getfield 12, 3) := by decide +kernel
theorem dX6_reasonAgainstAppeal_69 : decode cX6_reasonAgainstAppeal 69 = .ok (.getfield 133, 3) := by decide +kernel
theorem dX6_reasonAgainstAppeal_72 : decode cX6_reasonAgainstAppeal 72 = .ok (.bipush 6, 2) := by decide +kernel
theorem dX6_reasonAgainstAppeal_74 : decode cX6_reasonAgainstAppeal 74 = .ok (.invokevirtual 51, 3) := by decide +kernel
theorem dX6_reasonAgainstAppeal_77 : decode cX6_reasonAgainstAppeal 77 = .ok (.isub, 1) := by decide +kernel
theorem dX6_reasonAgainstAppeal_78 : decode cX6_reasonAgainstAppeal 78 = .ok (.imul, 1) := by decide +kernel
theorem dX6_reasonAgainstAppeal_79 : decode cX6_reasonAgainstAppeal 79 = .ok (.sipush 1000, 3) := by decide +kernel
theorem dX6_reasonAgainstAppeal_82 : decode cX6_reasonAgainstAppeal 82 = .ok (.idiv, 1) := by decide +kernel
theorem dX6_reasonAgainstAppeal_83 : decode cX6_reasonAgainstAppeal 83 = .ok (.if_icmp .lt 5, 3) := by decide +kernel
theorem dX6_reasonAgainstAppeal_86 : decode cX6_reasonAgainstAppeal 86 = .ok (.iconst 2, 1) := by decide +kernel
theorem dX6_reasonAgainstAppeal_87 : decode cX6_reasonAgainstAppeal 87 = .ok (.ireturn, 1) := by decide +kernel
theorem dX6_reasonAgainstAppeal_88 : decode cX6_reasonAgainstAppeal 88 = .ok (.aload_n 0, 1) := by decide +kernel
theorem dX6_reasonAgainstAppeal_89 : decode cX6_reasonAgainstAppeal 89 = .ok (.iload_n 1, 1) := by decide +kernel
theorem dX6_reasonAgainstAppeal_90 : decode cX6_reasonAgainstAppeal 90 = .ok (.invokevirtual 179, 3) := by decide +kernel
theorem dX6_reasonAgainstAppeal_93 : decode cX6_reasonAgainstAppeal 93 = .ok (.aload_n 0, 1) := by decide +kernel
theorem dX6_reasonAgainstAppeal_94 : decode cX6_reasonAgainstAppeal 94 = .ok (.getfield 21, 3) := by decide +kernel
theorem dX6_reasonAgainstAppeal_97 : decode cX6_reasonAgainstAppeal 97 = .ok (.aload_n 0, 1) := by decide +kernel
theorem dX6_reasonAgainstAppeal_98 : decode cX6_reasonAgainstAppeal 98 = .ok (.getfield 12, 3) := by decide +kernel
theorem dX6_reasonAgainstAppeal_101 : decode cX6_reasonAgainstAppeal 101 = .ok (.getfield 182, 3) := by decide +kernel
theorem dX6_reasonAgainstAppeal_104 : decode cX6_reasonAgainstAppeal 104 = .ok (.iload_n 1, 1) := by decide +kernel
theorem dX6_reasonAgainstAppeal_105 : decode cX6_reasonAgainstAppeal 105 = .ok (.bipush 10, 2) := by decide +kernel
theorem dX6_reasonAgainstAppeal_107 : decode cX6_reasonAgainstAppeal 107 = .ok (.invokevirtual 116, 3) := by decide +kernel
theorem dX6_reasonAgainstAppeal_110 : decode cX6_reasonAgainstAppeal 110 = .ok (.invokevirtual 219, 3) := by decide +kernel
theorem dX6_reasonAgainstAppeal_113 : decode cX6_reasonAgainstAppeal 113 = .ok (.if_icmp .le 5, 3) := by decide +kernel
theorem dX6_reasonAgainstAppeal_116 : decode cX6_reasonAgainstAppeal 116 = .ok (.iconst 3, 1) := by decide +kernel
theorem dX6_reasonAgainstAppeal_117 : decode cX6_reasonAgainstAppeal 117 = .ok (.ireturn, 1) := by decide +kernel
theorem dX6_reasonAgainstAppeal_118 : decode cX6_reasonAgainstAppeal 118 = .ok (.iconst 0, 1) := by decide +kernel
theorem dX6_reasonAgainstAppeal_119 : decode cX6_reasonAgainstAppeal 119 = .ok (.ireturn, 1) := by decide +kernel
theorem dX6_secondOilOf_0 : decode cX6_secondOilOf 0 = .ok (.aload_n 0, 1) := by decide +kernel
theorem dX6_secondOilOf_1 : decode cX6_secondOilOf 1 = .ok (.getfield 12, 3) := by decide +kernel
theorem dX6_secondOilOf_4 : decode cX6_secondOilOf 4 = .ok (.getfield 182, 3) := by decide +kernel
theorem dX6_secondOilOf_7 : decode cX6_secondOilOf 7 = .ok (.iload_n 1, 1) := by decide +kernel
theorem dX6_secondOilOf_8 : decode cX6_secondOilOf 8 = .ok (.bipush 7, 2) := by decide +kernel
theorem dX6_secondOilOf_10 : decode cX6_secondOilOf 10 = .ok (.invokevirtual 116, 3) := by decide +kernel
theorem dX6_secondOilOf_13 : decode cX6_secondOilOf 13 = .ok (.aload_n 0, 1) := by decide +kernel
theorem dX6_secondOilOf_14 : decode cX6_secondOilOf 14 = .ok (.getfield 12, 3) := by decide +kernel
theorem dX6_secondOilOf_17 : decode cX6_secondOilOf 17 = .ok (.getfield 182, 3) := by decide +kernel
theorem dX6_secondOilOf_20 : decode cX6_secondOilOf 20 = .ok (.iload_n 1, 1) := by decide +kernel
theorem dX6_secondOilOf_21 : decode cX6_secondOilOf 21 = .ok (.bipush 8, 2) := by decide +kernel
theorem dX6_secondOilOf_23 : decode cX6_secondOilOf 23 = .ok (.invokevirtual 116, 3) := by decide +kernel
theorem dX6_secondOilOf_26 : decode cX6_secondOilOf 26 = .ok (.isub, 1) := by decide +kernel
theorem dX6_secondOilOf_27 : decode cX6_secondOilOf 27 = .ok (.istore_n 2, 1) := by decide +kernel
theorem dX6_secondOilOf_28 : decode cX6_secondOilOf 28 = .ok (.iload_n 2, 1) := by decide +kernel
theorem dX6_secondOilOf_29 : decode cX6_secondOilOf 29 = .ok (.aload_n 0, 1) := by decide +kernel
theorem dX6_secondOilOf_30 : decode cX6_secondOilOf 30 = .ok (.getfield 12, 3) := by decide +kernel
theorem dX6_secondOilOf_33 : decode cX6_secondOilOf 33 = .ok (.getfield 133, 3) := by decide +kernel
theorem dX6_secondOilOf_36 : decode cX6_secondOilOf 36 = .ok (.iconst 2, 1) := by decide +kernel
theorem dX6_secondOilOf_37 : decode cX6_secondOilOf 37 = .ok (.invokevirtual 51, 3) := by decide +kernel
theorem dX6_secondOilOf_40 : decode cX6_secondOilOf 40 = .ok (.imul, 1) := by decide +kernel
theorem dX6_secondOilOf_41 : decode cX6_secondOilOf 41 = .ok (.sipush 1000, 3) := by decide +kernel
theorem dX6_secondOilOf_44 : decode cX6_secondOilOf 44 = .ok (.idiv, 1) := by decide +kernel
theorem dX6_secondOilOf_45 : decode cX6_secondOilOf 45 = .ok (.ireturn, 1) := by decide +kernel
theorem dX6_settleAppeal_0 : decode cX6_settleAppeal 0 = .ok (.aload_n 0, 1) := by decide +kernel
theorem dX6_settleAppeal_1 : decode cX6_settleAppeal 1 = .ok (.getfield 12, 3) := by decide +kernel
theorem dX6_settleAppeal_4 : decode cX6_settleAppeal 4 = .ok (.getfield 133, 3) := by decide +kernel
theorem dX6_settleAppeal_7 : decode cX6_settleAppeal 7 = .ok (.iconst 4, 1) := by decide +kernel
theorem dX6_settleAppeal_8 : decode cX6_settleAppeal 8 = .ok (.invokevirtual 51, 3) := by decide +kernel
theorem dX6_settleAppeal_11 : decode cX6_settleAppeal 11 = .ok (.istore_n 3, 1) := by decide +kernel
theorem dX6_settleAppeal_12 : decode cX6_settleAppeal 12 = .ok (.aload_n 0, 1) := by decide +kernel
theorem dX6_settleAppeal_13 : decode cX6_settleAppeal 13 = .ok (.getfield 12, 3) := by decide +kernel
theorem dX6_settleAppeal_16 : decode cX6_settleAppeal 16 = .ok (.getfield 200, 3) := by decide +kernel
theorem dX6_settleAppeal_19 : decode cX6_settleAppeal 19 = .ok (.iload_n 1, 1) := by decide +kernel
theorem dX6_settleAppeal_20 : decode cX6_settleAppeal 20 = .ok (.iconst 2, 1) := by decide +kernel
theorem dX6_settleAppeal_21 : decode cX6_settleAppeal 21 = .ok (.iconst 1, 1) := by decide +kernel
theorem dX6_settleAppeal_22 : decode cX6_settleAppeal 22 = .ok (.invokevirtual 185, 3) := by decide +kernel
theorem dX6_settleAppeal_25 : decode cX6_settleAppeal 25 = .ok (.aload_n 0, 1) := by decide +kernel
theorem dX6_settleAppeal_26 : decode cX6_settleAppeal 26 = .ok (.getfield 12, 3) := by decide +kernel
theorem dX6_settleAppeal_29 : decode cX6_settleAppeal 29 = .ok (.getfield 200, 3) := by decide +kernel
theorem dX6_settleAppeal_32 : decode cX6_settleAppeal 32 = .ok (.iload_n 1, 1) := by decide +kernel
theorem dX6_settleAppeal_33 : decode cX6_settleAppeal 33 = .ok (.iconst 0, 1) := by decide +kernel
theorem dX6_settleAppeal_34 : decode cX6_settleAppeal 34 = .ok (.iload_n 2, 1) := by decide +kernel
theorem dX6_settleAppeal_35 : decode cX6_settleAppeal 35 = .ok (.invokevirtual 185, 3) := by decide +kernel
theorem dX6_settleAppeal_38 : decode cX6_settleAppeal 38 = .ok (.iload_n 2, 1) := by decide +kernel
theorem dX6_settleAppeal_39 : decode cX6_settleAppeal 39 = .ok (.iload_n 3, 1) := by decide +kernel
theorem dX6_settleAppeal_40 : decode cX6_settleAppeal 40 = .ok (.if_icmp .ge 46, 3) := by decide +kernel
theorem dX6_settleAppeal_43 : decode cX6_settleAppeal 43 = .ok (.aload_n 0, 1) := by decide +kernel
theorem dX6_settleAppeal_44 : decode cX6_settleAppeal 44 = .ok (.getfield 12, 3) := by decide +kernel
theorem dX6_settleAppeal_47 : decode cX6_settleAppeal 47 = .ok (.getfield 200, 3) := by decide +kernel
theorem dX6_settleAppeal_50 : decode cX6_settleAppeal 50 = .ok (.iload_n 1, 1) := by decide +kernel
theorem dX6_settleAppeal_51 : decode cX6_settleAppeal 51 = .ok (.iconst 3, 1) := by decide +kernel
theorem dX6_settleAppeal_52 : decode cX6_settleAppeal 52 = .ok (.iconst 1, 1) := by decide +kernel
theorem dX6_settleAppeal_53 : decode cX6_settleAppeal 53 = .ok (.invokevirtual 185, 3) := by decide +kernel
theorem dX6_settleAppeal_56 : decode cX6_settleAppeal 56 = .ok (.aload_n 0, 1) := by decide +kernel
theorem dX6_settleAppeal_57 : decode cX6_settleAppeal 57 = .ok (.getfield 12, 3) := by decide +kernel
theorem dX6_settleAppeal_60 : decode cX6_settleAppeal 60 = .ok (.getfield 200, 3) := by decide +kernel
theorem dX6_settleAppeal_63 : decode cX6_settleAppeal 63 = .ok (.iload_n 1, 1) := by decide +kernel
theorem dX6_settleAppeal_64 : decode cX6_settleAppeal 64 = .ok (.iconst 0, 1) := by decide +kernel
theorem dX6_settleAppeal_65 : decode cX6_settleAppeal 65 = .ok (.iconst 0, 1) := by decide +kernel
theorem dX6_settleAppeal_66 : decode cX6_settleAppeal 66 = .ok (.aload_n 0, 1) := by decide +kernel
theorem dX6_settleAppeal_67 : decode cX6_settleAppeal 67 = .ok (.getfield 12, 3) := by decide +kernel
theorem dX6_settleAppeal_70 : decode cX6_settleAppeal 70 = .ok (.getfield 200, 3) := by decide +kernel
theorem dX6_settleAppeal_73 : decode cX6_settleAppeal 73 = .ok (.iload_n 1, 1) := by decide +kernel
theorem dX6_settleAppeal_74 : decode cX6_settleAppeal 74 = .ok (.iconst 0, 1) := by decide +kernel
theorem dX6_settleAppeal_75 : decode cX6_settleAppeal 75 = .ok (.invokevirtual 116, 3) := by decide +kernel
theorem dX6_settleAppeal_78 : decode cX6_settleAppeal 78 = .ok (.iload_n 3, 1) := by decide +kernel
theorem dX6_settleAppeal_79 : decode cX6_settleAppeal 79 = .ok (.isub, 1) := by decide +kernel
theorem dX6_settleAppeal_80 : decode cX6_settleAppeal 80 = .ok (.invokestatic 409, 3) := by decide +kernel
theorem dX6_settleAppeal_83 : decode cX6_settleAppeal 83 = .ok (.invokevirtual 102, 3) := by decide +kernel
theorem dX6_settleAppeal_86 : decode cX6_settleAppeal 86 = .ok (.return_, 1) := by decide +kernel
theorem dX6_sumOfGrowers_0 : decode cX6_sumOfGrowers 0 = .ok (.iconst 0, 1) := by decide +kernel
theorem dX6_sumOfGrowers_1 : decode cX6_sumOfGrowers 1 = .ok (.istore_n 2, 1) := by decide +kernel
theorem dX6_sumOfGrowers_2 : decode cX6_sumOfGrowers 2 = .ok (.iconst 0, 1) := by decide +kernel
theorem dX6_sumOfGrowers_3 : decode cX6_sumOfGrowers 3 = .ok (.istore_n 3, 1) := by decide +kernel
theorem dX6_sumOfGrowers_4 : decode cX6_sumOfGrowers 4 = .ok (.iload_n 3, 1) := by decide +kernel
theorem dX6_sumOfGrowers_5 : decode cX6_sumOfGrowers 5 = .ok (.bipush 8, 2) := by decide +kernel
theorem dX6_sumOfGrowers_7 : decode cX6_sumOfGrowers 7 = .ok (.if_icmp .ge 24, 3) := by decide +kernel
theorem dX6_sumOfGrowers_10 : decode cX6_sumOfGrowers 10 = .ok (.iload_n 2, 1) := by decide +kernel
theorem dX6_sumOfGrowers_11 : decode cX6_sumOfGrowers 11 = .ok (.aload_n 0, 1) := by decide +kernel
theorem dX6_sumOfGrowers_12 : decode cX6_sumOfGrowers 12 = .ok (.getfield 12, 3) := by decide +kernel
theorem dX6_sumOfGrowers_15 : decode cX6_sumOfGrowers 15 = .ok (.getfield 200, 3) := by decide +kernel
theorem dX6_sumOfGrowers_18 : decode cX6_sumOfGrowers 18 = .ok (.iload_n 3, 1) := by decide +kernel
theorem dX6_sumOfGrowers_19 : decode cX6_sumOfGrowers 19 = .ok (.iload_n 1, 1) := by decide +kernel
theorem dX6_sumOfGrowers_20 : decode cX6_sumOfGrowers 20 = .ok (.invokevirtual 116, 3) := by decide +kernel
theorem dX6_sumOfGrowers_23 : decode cX6_sumOfGrowers 23 = .ok (.iadd, 1) := by decide +kernel
theorem dX6_sumOfGrowers_24 : decode cX6_sumOfGrowers 24 = .ok (.istore_n 2, 1) := by decide +kernel
theorem dX6_sumOfGrowers_25 : decode cX6_sumOfGrowers 25 = .ok (.iinc 3 1, 3) := by decide +kernel
theorem dX6_sumOfGrowers_28 : decode cX6_sumOfGrowers 28 = .ok (.goto (-24), 3) := by decide +kernel
theorem dX6_sumOfGrowers_31 : decode cX6_sumOfGrowers 31 = .ok (.iload_n 2, 1) := by decide +kernel
theorem dX6_sumOfGrowers_32 : decode cX6_sumOfGrowers 32 = .ok (.ireturn, 1) := by decide +kernel
theorem dX6_mixed_0 : decode cX6_mixed 0 = .ok (.ldc2_w 414, 3) := by decide +kernel
theorem dX6_mixed_3 : decode cX6_mixed 3 = .ok (.lload_n 0, 1) := by decide +kernel
theorem dX6_mixed_4 : decode cX6_mixed 4 = .ok (.lmul, 1) := by decide +kernel
theorem dX6_mixed_5 : decode cX6_mixed 5 = .ok (.lload_n 2, 1) := by decide +kernel
theorem dX6_mixed_6 : decode cX6_mixed 6 = .ok (.ladd, 1) := by decide +kernel
theorem dX6_mixed_7 : decode cX6_mixed 7 = .ok (.lreturn, 1) := by decide +kernel
theorem dX6_mixedWithGrowers_0 : decode cX6_mixedWithGrowers 0 = .ok (.lload_n 1, 1) := by decide +kernel
theorem dX6_mixedWithGrowers_1 : decode cX6_mixedWithGrowers 1 = .ok (.lstore_n 3, 1) := by decide +kernel
theorem dX6_mixedWithGrowers_2 : decode cX6_mixedWithGrowers 2 = .ok (.aload_n 0, 1) := by decide +kernel
theorem dX6_mixedWithGrowers_3 : decode cX6_mixedWithGrowers 3 = .ok (.getfield 12, 3) := by decide +kernel
theorem dX6_mixedWithGrowers_6 : decode cX6_mixedWithGrowers 6 = .ok (.getfield 47, 3) := by decide +kernel
theorem dX6_mixedWithGrowers_9 : decode cX6_mixedWithGrowers 9 = .ok (.iconst 0, 1) := by decide +kernel
theorem dX6_mixedWithGrowers_10 : decode cX6_mixedWithGrowers 10 = .ok (.invokevirtual 51, 3) := by decide +kernel
theorem dX6_mixedWithGrowers_13 : decode cX6_mixedWithGrowers 13 = .ok (.istore 5, 2) := by decide +kernel
theorem dX6_mixedWithGrowers_15 : decode cX6_mixedWithGrowers 15 = .ok (.iconst 0, 1) := by decide +kernel
theorem dX6_mixedWithGrowers_16 : decode cX6_mixedWithGrowers 16 = .ok (.istore 6, 2) := by decide +kernel
theorem dX6_mixedWithGrowers_18 : decode cX6_mixedWithGrowers 18 = .ok (.iload 6, 2) := by decide +kernel
theorem dX6_mixedWithGrowers_20 : decode cX6_mixedWithGrowers 20 = .ok (.iload 5, 2) := by decide +kernel
theorem dX6_mixedWithGrowers_22 : decode cX6_mixedWithGrowers 22 = .ok (.if_icmp .ge 38, 3) := by decide +kernel
theorem dX6_mixedWithGrowers_25 : decode cX6_mixedWithGrowers 25 = .ok (.iconst 0, 1) := by decide +kernel
theorem dX6_mixedWithGrowers_26 : decode cX6_mixedWithGrowers 26 = .ok (.istore 7, 2) := by decide +kernel
theorem dX6_mixedWithGrowers_28 : decode cX6_mixedWithGrowers 28 = .ok (.iload 7, 2) := by decide +kernel
theorem dX6_mixedWithGrowers_30 : decode cX6_mixedWithGrowers 30 = .ok (.iconst 5, 1) := by decide +kernel
theorem dX6_mixedWithGrowers_31 : decode cX6_mixedWithGrowers 31 = .ok (.if_icmp .gt 23, 3) := by decide +kernel
theorem dX6_mixedWithGrowers_34 : decode cX6_mixedWithGrowers 34 = .ok (.lload_n 3, 1) := by decide +kernel
theorem dX6_mixedWithGrowers_35 : decode cX6_mixedWithGrowers 35 = .ok (.aload_n 0, 1) := by decide +kernel
theorem dX6_mixedWithGrowers_36 : decode cX6_mixedWithGrowers 36 = .ok (.iload 6, 2) := by decide +kernel
theorem dX6_mixedWithGrowers_38 : decode cX6_mixedWithGrowers 38 = .ok (.iload 7, 2) := by decide +kernel
theorem dX6_mixedWithGrowers_40 : decode cX6_mixedWithGrowers 40 = .ok (.invokevirtual 416, 3) := by decide +kernel
theorem dX6_mixedWithGrowers_43 : decode cX6_mixedWithGrowers 43 = .ok (.i2l, 1) := by decide +kernel
theorem dX6_mixedWithGrowers_44 : decode cX6_mixedWithGrowers 44 = .ok (.invokestatic 334, 3) := by decide +kernel
theorem dX6_mixedWithGrowers_47 : decode cX6_mixedWithGrowers 47 = .ok (.lstore_n 3, 1) := by decide +kernel
theorem dX6_mixedWithGrowers_48 : decode cX6_mixedWithGrowers 48 = .ok (.iinc 7 1, 3) := by decide +kernel
theorem dX6_mixedWithGrowers_51 : decode cX6_mixedWithGrowers 51 = .ok (.goto (-23), 3) := by decide +kernel
theorem dX6_mixedWithGrowers_54 : decode cX6_mixedWithGrowers 54 = .ok (.iinc 6 1, 3) := by decide +kernel
theorem dX6_mixedWithGrowers_57 : decode cX6_mixedWithGrowers 57 = .ok (.goto (-39), 3) := by decide +kernel
theorem dX6_mixedWithGrowers_60 : decode cX6_mixedWithGrowers 60 = .ok (.lload_n 3, 1) := by decide +kernel
theorem dX6_mixedWithGrowers_61 : decode cX6_mixedWithGrowers 61 = .ok (.lreturn, 1) := by decide +kernel
theorem dX6_mixedWithLots_0 : decode cX6_mixedWithLots 0 = .ok (.lload_n 1, 1) := by decide +kernel
theorem dX6_mixedWithLots_1 : decode cX6_mixedWithLots 1 = .ok (.lstore_n 3, 1) := by decide +kernel
theorem dX6_mixedWithLots_2 : decode cX6_mixedWithLots 2 = .ok (.aload_n 0, 1) := by decide +kernel
theorem dX6_mixedWithLots_3 : decode cX6_mixedWithLots 3 = .ok (.getfield 12, 3) := by decide +kernel
theorem dX6_mixedWithLots_6 : decode cX6_mixedWithLots 6 = .ok (.getfield 47, 3) := by decide +kernel
theorem dX6_mixedWithLots_9 : decode cX6_mixedWithLots 9 = .ok (.iconst 1, 1) := by decide +kernel
theorem dX6_mixedWithLots_10 : decode cX6_mixedWithLots 10 = .ok (.invokevirtual 51, 3) := by decide +kernel
theorem dX6_mixedWithLots_13 : decode cX6_mixedWithLots 13 = .ok (.istore 5, 2) := by decide +kernel
theorem dX6_mixedWithLots_15 : decode cX6_mixedWithLots 15 = .ok (.iconst 0, 1) := by decide +kernel
theorem dX6_mixedWithLots_16 : decode cX6_mixedWithLots 16 = .ok (.istore 6, 2) := by decide +kernel
theorem dX6_mixedWithLots_18 : decode cX6_mixedWithLots 18 = .ok (.iload 6, 2) := by decide +kernel
theorem dX6_mixedWithLots_20 : decode cX6_mixedWithLots 20 = .ok (.iload 5, 2) := by decide +kernel
theorem dX6_mixedWithLots_22 : decode cX6_mixedWithLots 22 = .ok (.if_icmp .ge 39, 3) := by decide +kernel
theorem dX6_mixedWithLots_25 : decode cX6_mixedWithLots 25 = .ok (.iconst 0, 1) := by decide +kernel
theorem dX6_mixedWithLots_26 : decode cX6_mixedWithLots 26 = .ok (.istore 7, 2) := by decide +kernel
theorem dX6_mixedWithLots_28 : decode cX6_mixedWithLots 28 = .ok (.iload 7, 2) := by decide +kernel
theorem dX6_mixedWithLots_30 : decode cX6_mixedWithLots 30 = .ok (.bipush 10, 2) := by decide +kernel
theorem dX6_mixedWithLots_32 : decode cX6_mixedWithLots 32 = .ok (.if_icmp .gt 23, 3) := by decide +kernel
theorem dX6_mixedWithLots_35 : decode cX6_mixedWithLots 35 = .ok (.lload_n 3, 1) := by decide +kernel
theorem dX6_mixedWithLots_36 : decode cX6_mixedWithLots 36 = .ok (.aload_n 0, 1) := by decide +kernel
theorem dX6_mixedWithLots_37 : decode cX6_mixedWithLots 37 = .ok (.iload 6, 2) := by decide +kernel
theorem dX6_mixedWithLots_39 : decode cX6_mixedWithLots 39 = .ok (.iload 7, 2) := by decide +kernel
theorem dX6_mixedWithLots_41 : decode cX6_mixedWithLots 41 = .ok (.invokevirtual 418, 3) := by decide +kernel
theorem dX6_mixedWithLots_44 : decode cX6_mixedWithLots 44 = .ok (.i2l, 1) := by decide +kernel
theorem dX6_mixedWithLots_45 : decode cX6_mixedWithLots 45 = .ok (.invokestatic 334, 3) := by decide +kernel
theorem dX6_mixedWithLots_48 : decode cX6_mixedWithLots 48 = .ok (.lstore_n 3, 1) := by decide +kernel
theorem dX6_mixedWithLots_49 : decode cX6_mixedWithLots 49 = .ok (.iinc 7 1, 3) := by decide +kernel
theorem dX6_mixedWithLots_52 : decode cX6_mixedWithLots 52 = .ok (.goto (-24), 3) := by decide +kernel
theorem dX6_mixedWithLots_55 : decode cX6_mixedWithLots 55 = .ok (.iinc 6 1, 3) := by decide +kernel
theorem dX6_mixedWithLots_58 : decode cX6_mixedWithLots 58 = .ok (.goto (-40), 3) := by decide +kernel
theorem dX6_mixedWithLots_61 : decode cX6_mixedWithLots 61 = .ok (.lload_n 3, 1) := by decide +kernel
theorem dX6_mixedWithLots_62 : decode cX6_mixedWithLots 62 = .ok (.lreturn, 1) := by decide +kernel
theorem dX6_mixedWithTanks_0 : decode cX6_mixedWithTanks 0 = .ok (.lload_n 1, 1) := by decide +kernel
theorem dX6_mixedWithTanks_1 : decode cX6_mixedWithTanks 1 = .ok (.lstore_n 3, 1) := by decide +kernel
theorem dX6_mixedWithTanks_2 : decode cX6_mixedWithTanks 2 = .ok (.aload_n 0, 1) := by decide +kernel
theorem dX6_mixedWithTanks_3 : decode cX6_mixedWithTanks 3 = .ok (.getfield 12, 3) := by decide +kernel
theorem dX6_mixedWithTanks_6 : decode cX6_mixedWithTanks 6 = .ok (.getfield 47, 3) := by decide +kernel
theorem dX6_mixedWithTanks_9 : decode cX6_mixedWithTanks 9 = .ok (.iconst 2, 1) := by decide +kernel
theorem dX6_mixedWithTanks_10 : decode cX6_mixedWithTanks 10 = .ok (.invokevirtual 51, 3) := by decide +kernel
theorem dX6_mixedWithTanks_13 : decode cX6_mixedWithTanks 13 = .ok (.istore 5, 2) := by decide +kernel
theorem dX6_mixedWithTanks_15 : decode cX6_mixedWithTanks 15 = .ok (.iconst 0, 1) := by decide +kernel
theorem dX6_mixedWithTanks_16 : decode cX6_mixedWithTanks 16 = .ok (.istore 6, 2) := by decide +kernel
theorem dX6_mixedWithTanks_18 : decode cX6_mixedWithTanks 18 = .ok (.iload 6, 2) := by decide +kernel
theorem dX6_mixedWithTanks_20 : decode cX6_mixedWithTanks 20 = .ok (.iload 5, 2) := by decide +kernel
theorem dX6_mixedWithTanks_22 : decode cX6_mixedWithTanks 22 = .ok (.if_icmp .ge 139, 3) := by decide +kernel
theorem dX6_mixedWithTanks_25 : decode cX6_mixedWithTanks 25 = .ok (.iconst 0, 1) := by decide +kernel
theorem dX6_mixedWithTanks_26 : decode cX6_mixedWithTanks 26 = .ok (.istore 7, 2) := by decide +kernel
theorem dX6_mixedWithTanks_28 : decode cX6_mixedWithTanks 28 = .ok (.iload 7, 2) := by decide +kernel
theorem dX6_mixedWithTanks_30 : decode cX6_mixedWithTanks 30 = .ok (.iconst 2, 1) := by decide +kernel
theorem dX6_mixedWithTanks_31 : decode cX6_mixedWithTanks 31 = .ok (.if_icmp .gt 23, 3) := by decide +kernel
theorem dX6_mixedWithTanks_34 : decode cX6_mixedWithTanks 34 = .ok (.lload_n 3, 1) := by decide +kernel
theorem dX6_mixedWithTanks_35 : decode cX6_mixedWithTanks 35 = .ok (.aload_n 0, 1) := by decide +kernel
theorem dX6_mixedWithTanks_36 : decode cX6_mixedWithTanks 36 = .ok (.iload 6, 2) := by decide +kernel
theorem dX6_mixedWithTanks_38 : decode cX6_mixedWithTanks 38 = .ok (.iload 7, 2) := by decide +kernel
theorem dX6_mixedWithTanks_40 : decode cX6_mixedWithTanks 40 = .ok (.invokevirtual 420, 3) := by decide +kernel
theorem dX6_mixedWithTanks_43 : decode cX6_mixedWithTanks 43 = .ok (.i2l, 1) := by decide +kernel
theorem dX6_mixedWithTanks_44 : decode cX6_mixedWithTanks 44 = .ok (.invokestatic 334, 3) := by decide +kernel
theorem dX6_mixedWithTanks_47 : decode cX6_mixedWithTanks 47 = .ok (.lstore_n 3, 1) := by decide +kernel
theorem dX6_mixedWithTanks_48 : decode cX6_mixedWithTanks 48 = .ok (.iinc 7 1, 3) := by decide +kernel
theorem dX6_mixedWithTanks_51 : decode cX6_mixedWithTanks 51 = .ok (.goto (-23), 3) := by decide +kernel
theorem dX6_mixedWithTanks_54 : decode cX6_mixedWithTanks 54 = .ok (.bipush 10, 2) := by decide +kernel
theorem dX6_mixedWithTanks_56 : decode cX6_mixedWithTanks 56 = .ok (.istore 7, 2) := by decide +kernel
theorem dX6_mixedWithTanks_58 : decode cX6_mixedWithTanks 58 = .ok (.iload 7, 2) := by decide +kernel
theorem dX6_mixedWithTanks_60 : decode cX6_mixedWithTanks 60 = .ok (.bipush 14, 2) := by decide +kernel
theorem dX6_mixedWithTanks_62 : decode cX6_mixedWithTanks 62 = .ok (.if_icmp .gt 23, 3) := by decide +kernel
theorem dX6_mixedWithTanks_65 : decode cX6_mixedWithTanks 65 = .ok (.lload_n 3, 1) := by decide +kernel
theorem dX6_mixedWithTanks_66 : decode cX6_mixedWithTanks 66 = .ok (.aload_n 0, 1) := by decide +kernel
theorem dX6_mixedWithTanks_67 : decode cX6_mixedWithTanks 67 = .ok (.iload 6, 2) := by decide +kernel
theorem dX6_mixedWithTanks_69 : decode cX6_mixedWithTanks 69 = .ok (.iload 7, 2) := by decide +kernel
theorem dX6_mixedWithTanks_71 : decode cX6_mixedWithTanks 71 = .ok (.invokevirtual 420, 3) := by decide +kernel
theorem dX6_mixedWithTanks_74 : decode cX6_mixedWithTanks 74 = .ok (.i2l, 1) := by decide +kernel
theorem dX6_mixedWithTanks_75 : decode cX6_mixedWithTanks 75 = .ok (.invokestatic 334, 3) := by decide +kernel
theorem dX6_mixedWithTanks_78 : decode cX6_mixedWithTanks 78 = .ok (.lstore_n 3, 1) := by decide +kernel
theorem dX6_mixedWithTanks_79 : decode cX6_mixedWithTanks 79 = .ok (.iinc 7 1, 3) := by decide +kernel
theorem dX6_mixedWithTanks_82 : decode cX6_mixedWithTanks 82 = .ok (.goto (-24), 3) := by decide +kernel
theorem dX6_mixedWithTanks_85 : decode cX6_mixedWithTanks 85 = .ok (.lload_n 3, 1) := by decide +kernel
theorem dX6_mixedWithTanks_86 : decode cX6_mixedWithTanks 86 = .ok (.aload_n 0, 1) := by decide +kernel
theorem dX6_mixedWithTanks_87 : decode cX6_mixedWithTanks 87 = .ok (.iload 6, 2) := by decide +kernel
theorem dX6_mixedWithTanks_89 : decode cX6_mixedWithTanks 89 = .ok (.iconst 0, 1) := by decide +kernel
theorem dX6_mixedWithTanks_90 : decode cX6_mixedWithTanks 90 = .ok (.invokevirtual 141, 3) := by decide +kernel
theorem dX6_mixedWithTanks_93 : decode cX6_mixedWithTanks 93 = .ok (.i2l, 1) := by decide +kernel
theorem dX6_mixedWithTanks_94 : decode cX6_mixedWithTanks 94 = .ok (.invokestatic 334, 3) := by decide +kernel
theorem dX6_mixedWithTanks_97 : decode cX6_mixedWithTanks 97 = .ok (.lstore_n 3, 1) := by decide +kernel
theorem dX6_mixedWithTanks_98 : decode cX6_mixedWithTanks 98 = .ok (.lload_n 3, 1) := by decide +kernel
theorem dX6_mixedWithTanks_99 : decode cX6_mixedWithTanks 99 = .ok (.aload_n 0, 1) := by decide +kernel
theorem dX6_mixedWithTanks_100 : decode cX6_mixedWithTanks 100 = .ok (.iload 6, 2) := by decide +kernel
theorem dX6_mixedWithTanks_102 : decode cX6_mixedWithTanks 102 = .ok (.iconst 1, 1) := by decide +kernel
theorem dX6_mixedWithTanks_103 : decode cX6_mixedWithTanks 103 = .ok (.invokevirtual 141, 3) := by decide +kernel
theorem dX6_mixedWithTanks_106 : decode cX6_mixedWithTanks 106 = .ok (.i2l, 1) := by decide +kernel
theorem dX6_mixedWithTanks_107 : decode cX6_mixedWithTanks 107 = .ok (.invokestatic 334, 3) := by decide +kernel
theorem dX6_mixedWithTanks_110 : decode cX6_mixedWithTanks 110 = .ok (.lstore_n 3, 1) := by decide +kernel
theorem dX6_mixedWithTanks_111 : decode cX6_mixedWithTanks 111 = .ok (.lload_n 3, 1) := by decide +kernel
theorem dX6_mixedWithTanks_112 : decode cX6_mixedWithTanks 112 = .ok (.aload_n 0, 1) := by decide +kernel
theorem dX6_mixedWithTanks_113 : decode cX6_mixedWithTanks 113 = .ok (.iload 6, 2) := by decide +kernel
theorem dX6_mixedWithTanks_115 : decode cX6_mixedWithTanks 115 = .ok (.bipush 30, 2) := by decide +kernel
theorem dX6_mixedWithTanks_117 : decode cX6_mixedWithTanks 117 = .ok (.invokevirtual 423, 3) := by decide +kernel
theorem dX6_mixedWithTanks_120 : decode cX6_mixedWithTanks 120 = .ok (.i2l, 1) := by decide +kernel
theorem dX6_mixedWithTanks_121 : decode cX6_mixedWithTanks 121 = .ok (.invokestatic 334, 3) := by decide +kernel
theorem dX6_mixedWithTanks_124 : decode cX6_mixedWithTanks 124 = .ok (.lstore_n 3, 1) := by decide +kernel
theorem dX6_mixedWithTanks_125 : decode cX6_mixedWithTanks 125 = .ok (.iconst 0, 1) := by decide +kernel
theorem dX6_mixedWithTanks_126 : decode cX6_mixedWithTanks 126 = .ok (.istore 7, 2) := by decide +kernel
theorem dX6_mixedWithTanks_128 : decode cX6_mixedWithTanks 128 = .ok (.iload 7, 2) := by decide +kernel
theorem dX6_mixedWithTanks_130 : decode cX6_mixedWithTanks 130 = .ok (.iconst 5, 1) := by decide +kernel
theorem dX6_mixedWithTanks_131 : decode cX6_mixedWithTanks 131 = .ok (.if_icmp .ge 24, 3) := by decide +kernel
theorem dX6_mixedWithTanks_134 : decode cX6_mixedWithTanks 134 = .ok (.lload_n 3, 1) := by decide +kernel
theorem dX6_mixedWithTanks_135 : decode cX6_mixedWithTanks 135 = .ok (.aload_n 0, 1) := by decide +kernel
theorem dX6_mixedWithTanks_136 : decode cX6_mixedWithTanks 136 = .ok (.iload 6, 2) := by decide +kernel
theorem dX6_mixedWithTanks_138 : decode cX6_mixedWithTanks 138 = .ok (.iconst 1, 1) := by decide +kernel
theorem dX6_mixedWithTanks_139 : decode cX6_mixedWithTanks 139 = .ok (.iload 7, 2) := by decide +kernel
theorem dX6_mixedWithTanks_141 : decode cX6_mixedWithTanks 141 = .ok (.invokevirtual 426, 3) := by decide +kernel
theorem dX6_mixedWithTanks_144 : decode cX6_mixedWithTanks 144 = .ok (.i2l, 1) := by decide +kernel
theorem dX6_mixedWithTanks_145 : decode cX6_mixedWithTanks 145 = .ok (.invokestatic 334, 3) := by decide +kernel
theorem dX6_mixedWithTanks_148 : decode cX6_mixedWithTanks 148 = .ok (.lstore_n 3, 1) := by decide +kernel
theorem dX6_mixedWithTanks_149 : decode cX6_mixedWithTanks 149 = .ok (.iinc 7 1, 3) := by decide +kernel
theorem dX6_mixedWithTanks_152 : decode cX6_mixedWithTanks 152 = .ok (.goto (-24), 3) := by decide +kernel
theorem dX6_mixedWithTanks_155 : decode cX6_mixedWithTanks 155 = .ok (.iinc 6 1, 3) := by decide +kernel
theorem dX6_mixedWithTanks_158 : decode cX6_mixedWithTanks 158 = .ok (.goto (-140), 3) := by decide +kernel
theorem dX6_mixedWithTanks_161 : decode cX6_mixedWithTanks 161 = .ok (.lload_n 3, 1) := by decide +kernel
theorem dX6_mixedWithTanks_162 : decode cX6_mixedWithTanks 162 = .ok (.lreturn, 1) := by decide +kernel
theorem dX6_mixedWithVarieties_0 : decode cX6_mixedWithVarieties 0 = .ok (.lload_n 1, 1) := by decide +kernel
theorem dX6_mixedWithVarieties_1 : decode cX6_mixedWithVarieties 1 = .ok (.lstore_n 3, 1) := by decide +kernel
theorem dX6_mixedWithVarieties_2 : decode cX6_mixedWithVarieties 2 = .ok (.iconst 0, 1) := by decide +kernel
theorem dX6_mixedWithVarieties_3 : decode cX6_mixedWithVarieties 3 = .ok (.istore 5, 2) := by decide +kernel
theorem dX6_mixedWithVarieties_5 : decode cX6_mixedWithVarieties 5 = .ok (.iload 5, 2) := by decide +kernel
theorem dX6_mixedWithVarieties_7 : decode cX6_mixedWithVarieties 7 = .ok (.iconst 5, 1) := by decide +kernel
theorem dX6_mixedWithVarieties_8 : decode cX6_mixedWithVarieties 8 = .ok (.if_icmp .ge 39, 3) := by decide +kernel
theorem dX6_mixedWithVarieties_11 : decode cX6_mixedWithVarieties 11 = .ok (.iconst 0, 1) := by decide +kernel
theorem dX6_mixedWithVarieties_12 : decode cX6_mixedWithVarieties 12 = .ok (.istore 6, 2) := by decide +kernel
theorem dX6_mixedWithVarieties_14 : decode cX6_mixedWithVarieties 14 = .ok (.iload 6, 2) := by decide +kernel
theorem dX6_mixedWithVarieties_16 : decode cX6_mixedWithVarieties 16 = .ok (.bipush 7, 2) := by decide +kernel
theorem dX6_mixedWithVarieties_18 : decode cX6_mixedWithVarieties 18 = .ok (.if_icmp .gt 23, 3) := by decide +kernel
theorem dX6_mixedWithVarieties_21 : decode cX6_mixedWithVarieties 21 = .ok (.lload_n 3, 1) := by decide +kernel
theorem dX6_mixedWithVarieties_22 : decode cX6_mixedWithVarieties 22 = .ok (.aload_n 0, 1) := by decide +kernel
theorem dX6_mixedWithVarieties_23 : decode cX6_mixedWithVarieties 23 = .ok (.iload 5, 2) := by decide +kernel
theorem dX6_mixedWithVarieties_25 : decode cX6_mixedWithVarieties 25 = .ok (.iload 6, 2) := by decide +kernel
theorem dX6_mixedWithVarieties_27 : decode cX6_mixedWithVarieties 27 = .ok (.invokevirtual 429, 3) := by decide +kernel
theorem dX6_mixedWithVarieties_30 : decode cX6_mixedWithVarieties 30 = .ok (.i2l, 1) := by decide +kernel
theorem dX6_mixedWithVarieties_31 : decode cX6_mixedWithVarieties 31 = .ok (.invokestatic 334, 3) := by decide +kernel
theorem dX6_mixedWithVarieties_34 : decode cX6_mixedWithVarieties 34 = .ok (.lstore_n 3, 1) := by decide +kernel
theorem dX6_mixedWithVarieties_35 : decode cX6_mixedWithVarieties 35 = .ok (.iinc 6 1, 3) := by decide +kernel
theorem dX6_mixedWithVarieties_38 : decode cX6_mixedWithVarieties 38 = .ok (.goto (-24), 3) := by decide +kernel
theorem dX6_mixedWithVarieties_41 : decode cX6_mixedWithVarieties 41 = .ok (.iinc 5 1, 3) := by decide +kernel
theorem dX6_mixedWithVarieties_44 : decode cX6_mixedWithVarieties 44 = .ok (.goto (-39), 3) := by decide +kernel
theorem dX6_mixedWithVarieties_47 : decode cX6_mixedWithVarieties 47 = .ok (.lload_n 3, 1) := by decide +kernel
theorem dX6_mixedWithVarieties_48 : decode cX6_mixedWithVarieties 48 = .ok (.lreturn, 1) := by decide +kernel
theorem dX6_bitsOf_0 : decode cX6_bitsOf 0 = .ok (.dload_n 0, 1) := by decide +kernel
theorem dX6_bitsOf_1 : decode cX6_bitsOf 1 = .ok (.dconst 0, 1) := by decide +kernel
theorem dX6_bitsOf_2 : decode cX6_bitsOf 2 = .ok (.dcmp .l, 1) := by decide +kernel
theorem dX6_bitsOf_3 : decode cX6_bitsOf 3 = .ok (.ifCond .gt 5, 3) := by decide +kernel
theorem dX6_bitsOf_6 : decode cX6_bitsOf 6 = .ok (.lconst 0, 1) := by decide +kernel
theorem dX6_bitsOf_7 : decode cX6_bitsOf 7 = .ok (.lreturn, 1) := by decide +kernel
theorem dX6_bitsOf_8 : decode cX6_bitsOf 8 = .ok (.dload_n 0, 1) := by decide +kernel
theorem dX6_bitsOf_9 : decode cX6_bitsOf 9 = .ok (.dstore_n 2, 1) := by decide +kernel
theorem dX6_bitsOf_10 : decode cX6_bitsOf 10 = .ok (.ldc2_w 431, 3) := by decide +kernel
theorem dX6_bitsOf_13 : decode cX6_bitsOf 13 = .ok (.lstore 4, 2) := by decide +kernel
theorem dX6_bitsOf_15 : decode cX6_bitsOf 15 = .ok (.iconst 0, 1) := by decide +kernel
theorem dX6_bitsOf_16 : decode cX6_bitsOf 16 = .ok (.istore 6, 2) := by decide +kernel
theorem dX6_bitsOf_18 : decode cX6_bitsOf 18 = .ok (.iload 6, 2) := by decide +kernel
theorem dX6_bitsOf_20 : decode cX6_bitsOf 20 = .ok (.sipush 1000, 3) := by decide +kernel
theorem dX6_bitsOf_23 : decode cX6_bitsOf 23 = .ok (.if_icmp .ge 27, 3) := by decide +kernel
theorem dX6_bitsOf_26 : decode cX6_bitsOf 26 = .ok (.dload_n 2, 1) := by decide +kernel
theorem dX6_bitsOf_27 : decode cX6_bitsOf 27 = .ok (.dconst 1, 1) := by decide +kernel
theorem dX6_bitsOf_28 : decode cX6_bitsOf 28 = .ok (.dcmp .g, 1) := by decide +kernel
theorem dX6_bitsOf_29 : decode cX6_bitsOf 29 = .ok (.ifCond .ge 21, 3) := by decide +kernel
theorem dX6_bitsOf_32 : decode cX6_bitsOf 32 = .ok (.dload_n 2, 1) := by decide +kernel
theorem dX6_bitsOf_33 : decode cX6_bitsOf 33 = .ok (.ldc2_w 433, 3) := by decide +kernel
theorem dX6_bitsOf_36 : decode cX6_bitsOf 36 = .ok (.dmul, 1) := by decide +kernel
theorem dX6_bitsOf_37 : decode cX6_bitsOf 37 = .ok (.dstore_n 2, 1) := by decide +kernel
theorem dX6_bitsOf_38 : decode cX6_bitsOf 38 = .ok (.lload 4, 2) := by decide +kernel
theorem dX6_bitsOf_40 : decode cX6_bitsOf 40 = .ok (.lconst 1, 1) := by decide +kernel
theorem dX6_bitsOf_41 : decode cX6_bitsOf 41 = .ok (.lsub, 1) := by decide +kernel
theorem dX6_bitsOf_42 : decode cX6_bitsOf 42 = .ok (.lstore 4, 2) := by decide +kernel
theorem dX6_bitsOf_44 : decode cX6_bitsOf 44 = .ok (.iinc 6 1, 3) := by decide +kernel
theorem dX6_bitsOf_47 : decode cX6_bitsOf 47 = .ok (.goto (-29), 3) := by decide +kernel
theorem dX6_bitsOf_50 : decode cX6_bitsOf 50 = .ok (.lload 4, 2) := by decide +kernel
theorem dX6_bitsOf_52 : decode cX6_bitsOf 52 = .ok (.bipush 52, 2) := by decide +kernel
theorem dX6_bitsOf_54 : decode cX6_bitsOf 54 = .ok (.lshl, 1) := by decide +kernel
theorem dX6_bitsOf_55 : decode cX6_bitsOf 55 = .ok (.dload_n 2, 1) := by decide +kernel
theorem dX6_bitsOf_56 : decode cX6_bitsOf 56 = .ok (.dconst 1, 1) := by decide +kernel
theorem dX6_bitsOf_57 : decode cX6_bitsOf 57 = .ok (.dsub, 1) := by decide +kernel
theorem dX6_bitsOf_58 : decode cX6_bitsOf 58 = .ok (.ldc2_w 435, 3) := by decide +kernel
theorem dX6_bitsOf_61 : decode cX6_bitsOf 61 = .ok (.dmul, 1) := by decide +kernel
theorem dX6_bitsOf_62 : decode cX6_bitsOf 62 = .ok (.d2l, 1) := by decide +kernel
theorem dX6_bitsOf_63 : decode cX6_bitsOf 63 = .ok (.ladd, 1) := by decide +kernel
theorem dX6_bitsOf_64 : decode cX6_bitsOf 64 = .ok (.lreturn, 1) := by decide +kernel
theorem dX7_init_0 : decode cX7_init 0 = .ok (.aload_n 0, 1) := by decide +kernel
theorem dX7_init_1 : decode cX7_init 1 = .ok (.invokespecial 1, 3) := by decide +kernel
theorem dX7_init_4 : decode cX7_init 4 = .ok (.aload_n 0, 1) := by decide +kernel
theorem dX7_init_5 : decode cX7_init 5 = .ok (.sipush 514, 3) := by decide +kernel
theorem dX7_init_8 : decode cX7_init 8 = .ok (.newarray .int, 2) := by decide +kernel
theorem dX7_init_10 : decode cX7_init 10 = .ok (.putfield 7, 3) := by decide +kernel
theorem dX7_init_13 : decode cX7_init 13 = .ok (.aload_n 0, 1) := by decide +kernel
theorem dX7_init_14 : decode cX7_init 14 = .ok (.sipush 3084, 3) := by decide +kernel
theorem dX7_init_17 : decode cX7_init 17 = .ok (.newarray .int, 2) := by decide +kernel
theorem dX7_init_19 : decode cX7_init 19 = .ok (.putfield 13, 3) := by decide +kernel
theorem dX7_init_22 : decode cX7_init 22 = .ok (.aload_n 0, 1) := by decide +kernel
theorem dX7_init_23 : decode cX7_init 23 = .ok (.bipush 60, 2) := by decide +kernel
theorem dX7_init_25 : decode cX7_init 25 = .ok (.newarray .int, 2) := by decide +kernel
theorem dX7_init_27 : decode cX7_init 27 = .ok (.putfield 16, 3) := by decide +kernel
theorem dX7_init_30 : decode cX7_init 30 = .ok (.aload_n 0, 1) := by decide +kernel
theorem dX7_init_31 : decode cX7_init 31 = .ok (.bipush 40, 2) := by decide +kernel
theorem dX7_init_33 : decode cX7_init 33 = .ok (.newarray .int, 2) := by decide +kernel
theorem dX7_init_35 : decode cX7_init 35 = .ok (.putfield 19, 3) := by decide +kernel
theorem dX7_init_38 : decode cX7_init 38 = .ok (.aload_n 0, 1) := by decide +kernel
theorem dX7_init_39 : decode cX7_init 39 = .ok (.iconst 5, 1) := by decide +kernel
theorem dX7_init_40 : decode cX7_init 40 = .ok (.newarray .int, 2) := by decide +kernel
theorem dX7_init_42 : decode cX7_init 42 = .ok (.putfield 22, 3) := by decide +kernel
theorem dX7_init_45 : decode cX7_init 45 = .ok (.aload_n 0, 1) := by decide +kernel
theorem dX7_init_46 : decode cX7_init 46 = .ok (.iconst 5, 1) := by decide +kernel
theorem dX7_init_47 : decode cX7_init 47 = .ok (.newarray .int, 2) := by decide +kernel
theorem dX7_init_49 : decode cX7_init 49 = .ok (.putfield 25, 3) := by decide +kernel
theorem dX7_init_52 : decode cX7_init 52 = .ok (.aload_n 0, 1) := by decide +kernel
theorem dX7_init_53 : decode cX7_init 53 = .ok (.bipush 60, 2) := by decide +kernel
theorem dX7_init_55 : decode cX7_init 55 = .ok (.newarray .int, 2) := by decide +kernel
theorem dX7_init_57 : decode cX7_init 57 = .ok (.putfield 28, 3) := by decide +kernel
theorem dX7_init_60 : decode cX7_init 60 = .ok (.aload_n 0, 1) := by decide +kernel
theorem dX7_init_61 : decode cX7_init 61 = .ok (.getfield 7, 3) := by decide +kernel
theorem dX7_init_64 : decode cX7_init 64 = .ok (.iconst 0, 1) := by decide +kernel
theorem dX7_init_65 : decode cX7_init 65 = .ok (.bipush 10, 2) := by decide +kernel
theorem dX7_init_67 : decode cX7_init 67 = .ok (.iastore, 1) := by decide +kernel
theorem dX7_init_68 : decode cX7_init 68 = .ok (.aload_n 0, 1) := by decide +kernel
theorem dX7_init_69 : decode cX7_init 69 = .ok (.getfield 7, 3) := by decide +kernel
theorem dX7_init_72 : decode cX7_init 72 = .ok (.iconst 1, 1) := by decide +kernel
theorem dX7_init_73 : decode cX7_init 73 = .ok (.sipush 850, 3) := by decide +kernel
theorem dX7_init_76 : decode cX7_init 76 = .ok (.iastore, 1) := by decide +kernel
theorem dX7_init_77 : decode cX7_init 77 = .ok (.aload_n 0, 1) := by decide +kernel
theorem dX7_init_78 : decode cX7_init 78 = .ok (.getfield 7, 3) := by decide +kernel
theorem dX7_init_81 : decode cX7_init 81 = .ok (.iconst 2, 1) := by decide +kernel
theorem dX7_init_82 : decode cX7_init 82 = .ok (.sipush 600, 3) := by decide +kernel
theorem dX7_init_85 : decode cX7_init 85 = .ok (.iastore, 1) := by decide +kernel
theorem dX7_init_86 : decode cX7_init 86 = .ok (.aload_n 0, 1) := by decide +kernel
theorem dX7_init_87 : decode cX7_init 87 = .ok (.getfield 7, 3) := by decide +kernel
theorem dX7_init_90 : decode cX7_init 90 = .ok (.iconst 3, 1) := by decide +kernel
theorem dX7_init_91 : decode cX7_init 91 = .ok (.iconst 2, 1) := by decide +kernel
theorem dX7_init_92 : decode cX7_init 92 = .ok (.iastore, 1) := by decide +kernel
theorem dX7_init_93 : decode cX7_init 93 = .ok (.aload_n 0, 1) := by decide +kernel
theorem dX7_init_94 : decode cX7_init 94 = .ok (.getfield 7, 3) := by decide +kernel
theorem dX7_init_97 : decode cX7_init 97 = .ok (.iconst 4, 1) := by decide +kernel
theorem dX7_init_98 : decode cX7_init 98 = .ok (.bipush 20, 2) := by decide +kernel
theorem dX7_init_100 : decode cX7_init 100 = .ok (.iastore, 1) := by decide +kernel
theorem dX7_init_101 : decode cX7_init 101 = .ok (.aload_n 0, 1) := by decide +kernel
theorem dX7_init_102 : decode cX7_init 102 = .ok (.getfield 7, 3) := by decide +kernel
theorem dX7_init_105 : decode cX7_init 105 = .ok (.bipush 6, 2) := by decide +kernel
theorem dX7_init_107 : decode cX7_init 107 = .ok (.bipush 100, 2) := by decide +kernel
theorem dX7_init_109 : decode cX7_init 109 = .ok (.iastore, 1) := by decide +kernel
theorem dX7_init_110 : decode cX7_init 110 = .ok (.aload_n 0, 1) := by decide +kernel
theorem dX7_init_111 : decode cX7_init 111 = .ok (.getfield 7, 3) := by decide +kernel
theorem dX7_init_114 : decode cX7_init 114 = .ok (.bipush 10, 2) := by decide +kernel
theorem dX7_init_116 : decode cX7_init 116 = .ok (.iconst (-1), 1) := by decide +kernel
theorem dX7_init_117 : decode cX7_init 117 = .ok (.iastore, 1) := by decide +kernel
theorem dX7_init_118 : decode cX7_init 118 = .ok (.aload_n 0, 1) := by decide +kernel
theorem dX7_init_119 : decode cX7_init 119 = .ok (.getfield 7, 3) := by decide +kernel
theorem dX7_init_122 : decode cX7_init 122 = .ok (.bipush 15, 2) := by decide +kernel
theorem dX7_init_124 : decode cX7_init 124 = .ok (.sipush 150, 3) := by decide +kernel
theorem dX7_init_127 : decode cX7_init 127 = .ok (.iastore, 1) := by decide +kernel
theorem dX7_init_128 : decode cX7_init 128 = .ok (.aload_n 0, 1) := by decide +kernel
theorem dX7_init_129 : decode cX7_init 129 = .ok (.getfield 7, 3) := by decide +kernel
theorem dX7_init_132 : decode cX7_init 132 = .ok (.bipush 16, 2) := by decide +kernel
theorem dX7_init_134 : decode cX7_init 134 = .ok (.sipush 180, 3) := by decide +kernel
theorem dX7_init_137 : decode cX7_init 137 = .ok (.iastore, 1) := by decide +kernel
theorem dX7_init_138 : decode cX7_init 138 = .ok (.aload_n 0, 1) := by decide +kernel
theorem dX7_init_139 : decode cX7_init 139 = .ok (.getfield 7, 3) := by decide +kernel
theorem dX7_init_142 : decode cX7_init 142 = .ok (.bipush 17, 2) := by decide +kernel
theorem dX7_init_144 : decode cX7_init 144 = .ok (.sipush 200, 3) := by decide +kernel
theorem dX7_init_147 : decode cX7_init 147 = .ok (.iastore, 1) := by decide +kernel
theorem dX7_init_148 : decode cX7_init 148 = .ok (.aload_n 0, 1) := by decide +kernel
theorem dX7_init_149 : decode cX7_init 149 = .ok (.getfield 7, 3) := by decide +kernel
theorem dX7_init_152 : decode cX7_init 152 = .ok (.bipush 18, 2) := by decide +kernel
theorem dX7_init_154 : decode cX7_init 154 = .ok (.sipush 220, 3) := by decide +kernel
theorem dX7_init_157 : decode cX7_init 157 = .ok (.iastore, 1) := by decide +kernel
theorem dX7_init_158 : decode cX7_init 158 = .ok (.aload_n 0, 1) := by decide +kernel
theorem dX7_init_159 : decode cX7_init 159 = .ok (.getfield 7, 3) := by decide +kernel
theorem dX7_init_162 : decode cX7_init 162 = .ok (.bipush 19, 2) := by decide +kernel
theorem dX7_init_164 : decode cX7_init 164 = .ok (.sipush 160, 3) := by decide +kernel
theorem dX7_init_167 : decode cX7_init 167 = .ok (.iastore, 1) := by decide +kernel
theorem dX7_init_168 : decode cX7_init 168 = .ok (.return_, 1) := by decide +kernel
theorem dX7_thrown_0 : decode cX7_thrown 0 = .ok (.aload_n 0, 1) := by decide +kernel
theorem dX7_thrown_1 : decode cX7_thrown 1 = .ok (.getfield 31, 3) := by decide +kernel
theorem dX7_thrown_4 : decode cX7_thrown 4 = .ok (.ireturn, 1) := by decide +kernel
theorem dX7_within_0 : decode cX7_within 0 = .ok (.iload_n 0, 1) := by decide +kernel
theorem dX7_within_1 : decode cX7_within 1 = .ok (.iload_n 1, 1) := by decide +kernel
theorem dX7_within_2 : decode cX7_within 2 = .ok (.if_icmp .lt 12, 3) := by decide +kernel
theorem dX7_within_5 : decode cX7_within 5 = .ok (.iload_n 0, 1) := by decide +kernel
theorem dX7_within_6 : decode cX7_within 6 = .ok (.iload_n 2, 1) := by decide +kernel
theorem dX7_within_7 : decode cX7_within 7 = .ok (.if_icmp .gt 7, 3) := by decide +kernel
theorem dX7_within_10 : decode cX7_within 10 = .ok (.iconst 1, 1) := by decide +kernel
theorem dX7_within_11 : decode cX7_within 11 = .ok (.goto 4, 3) := by decide +kernel
theorem dX7_within_14 : decode cX7_within 14 = .ok (.iconst 0, 1) := by decide +kernel
theorem dX7_within_15 : decode cX7_within 15 = .ok (.ireturn, 1) := by decide +kernel
theorem dX7_save_0 : decode cX7_save 0 = .ok (.aload_n 0, 1) := by decide +kernel
theorem dX7_save_1 : decode cX7_save 1 = .ok (.getfield 35, 3) := by decide +kernel
theorem dX7_save_4 : decode cX7_save 4 = .ok (.bipush 6, 2) := by decide +kernel
theorem dX7_save_6 : decode cX7_save 6 = .ok (.if_icmp .ne 46, 3) := by decide +kernel
theorem dX7_save_9 : decode cX7_save 9 = .ok (.sipush 514, 3) := by decide +kernel
theorem dX7_save_12 : decode cX7_save 12 = .ok (.istore_n 1, 1) := by decide +kernel
theorem dX7_save_13 : decode cX7_save 13 = .ok (.iload_n 1, 1) := by decide +kernel
theorem dX7_save_14 : decode cX7_save 14 = .ok (.sipush 3084, 3) := by decide +kernel
theorem dX7_save_17 : decode cX7_save 17 = .ok (.if_icmp .ge 25, 3) := by decide +kernel
theorem dX7_save_20 : decode cX7_save 20 = .ok (.aload_n 0, 1) := by decide +kernel
theorem dX7_save_21 : decode cX7_save 21 = .ok (.getfield 13, 3) := by decide +kernel
theorem dX7_save_24 : decode cX7_save 24 = .ok (.iload_n 1, 1) := by decide +kernel
theorem dX7_save_25 : decode cX7_save 25 = .ok (.sipush 514, 3) := by decide +kernel
theorem dX7_save_28 : decode cX7_save 28 = .ok (.isub, 1) := by decide +kernel
theorem dX7_save_29 : decode cX7_save 29 = .ok (.aload_n 0, 1) := by decide +kernel
theorem dX7_save_30 : decode cX7_save 30 = .ok (.getfield 13, 3) := by decide +kernel
theorem dX7_save_33 : decode cX7_save 33 = .ok (.iload_n 1, 1) := by decide +kernel
theorem dX7_save_34 : decode cX7_save 34 = .ok (.iaload, 1) := by decide +kernel
theorem dX7_save_35 : decode cX7_save 35 = .ok (.iastore, 1) := by decide +kernel
theorem dX7_save_36 : decode cX7_save 36 = .ok (.iinc 1 1, 3) := by decide +kernel
theorem dX7_save_39 : decode cX7_save 39 = .ok (.goto (-26), 3) := by decide +kernel
theorem dX7_save_42 : decode cX7_save 42 = .ok (.aload_n 0, 1) := by decide +kernel
theorem dX7_save_43 : decode cX7_save 43 = .ok (.dup, 1) := by decide +kernel
theorem dX7_save_44 : decode cX7_save 44 = .ok (.getfield 35, 3) := by decide +kernel
theorem dX7_save_47 : decode cX7_save 47 = .ok (.iconst 1, 1) := by decide +kernel
theorem dX7_save_48 : decode cX7_save 48 = .ok (.isub, 1) := by decide +kernel
theorem dX7_save_49 : decode cX7_save 49 = .ok (.putfield 35, 3) := by decide +kernel
theorem dX7_save_52 : decode cX7_save 52 = .ok (.iconst 0, 1) := by decide +kernel
theorem dX7_save_53 : decode cX7_save 53 = .ok (.istore_n 1, 1) := by decide +kernel
theorem dX7_save_54 : decode cX7_save 54 = .ok (.iload_n 1, 1) := by decide +kernel
theorem dX7_save_55 : decode cX7_save 55 = .ok (.sipush 514, 3) := by decide +kernel
theorem dX7_save_58 : decode cX7_save 58 = .ok (.if_icmp .ge 30, 3) := by decide +kernel
theorem dX7_save_61 : decode cX7_save 61 = .ok (.aload_n 0, 1) := by decide +kernel
theorem dX7_save_62 : decode cX7_save 62 = .ok (.getfield 13, 3) := by decide +kernel
theorem dX7_save_65 : decode cX7_save 65 = .ok (.sipush 514, 3) := by decide +kernel
theorem dX7_save_68 : decode cX7_save 68 = .ok (.aload_n 0, 1) := by decide +kernel
theorem dX7_save_69 : decode cX7_save 69 = .ok (.getfield 35, 3) := by decide +kernel
theorem dX7_save_72 : decode cX7_save 72 = .ok (.imul, 1) := by decide +kernel
theorem dX7_save_73 : decode cX7_save 73 = .ok (.iload_n 1, 1) := by decide +kernel
theorem dX7_save_74 : decode cX7_save 74 = .ok (.iadd, 1) := by decide +kernel
theorem dX7_save_75 : decode cX7_save 75 = .ok (.aload_n 0, 1) := by decide +kernel
theorem dX7_save_76 : decode cX7_save 76 = .ok (.getfield 7, 3) := by decide +kernel
theorem dX7_save_79 : decode cX7_save 79 = .ok (.iload_n 1, 1) := by decide +kernel
theorem dX7_save_80 : decode cX7_save 80 = .ok (.iaload, 1) := by decide +kernel
theorem dX7_save_81 : decode cX7_save 81 = .ok (.iastore, 1) := by decide +kernel
theorem dX7_save_82 : decode cX7_save 82 = .ok (.iinc 1 1, 3) := by decide +kernel
theorem dX7_save_85 : decode cX7_save 85 = .ok (.goto (-31), 3) := by decide +kernel
theorem dX7_save_88 : decode cX7_save 88 = .ok (.aload_n 0, 1) := by decide +kernel
theorem dX7_save_89 : decode cX7_save 89 = .ok (.dup, 1) := by decide +kernel
theorem dX7_save_90 : decode cX7_save 90 = .ok (.getfield 35, 3) := by decide +kernel
theorem dX7_save_93 : decode cX7_save 93 = .ok (.iconst 1, 1) := by decide +kernel
theorem dX7_save_94 : decode cX7_save 94 = .ok (.iadd, 1) := by decide +kernel
theorem dX7_save_95 : decode cX7_save 95 = .ok (.putfield 35, 3) := by decide +kernel
theorem dX7_save_98 : decode cX7_save 98 = .ok (.return_, 1) := by decide +kernel
theorem dX7_isGrower_0 : decode cX7_isGrower 0 = .ok (.iload_n 1, 1) := by decide +kernel
theorem dX7_isGrower_1 : decode cX7_isGrower 1 = .ok (.iconst 0, 1) := by decide +kernel
theorem dX7_isGrower_2 : decode cX7_isGrower 2 = .ok (.aload_n 0, 1) := by decide +kernel
theorem dX7_isGrower_3 : decode cX7_isGrower 3 = .ok (.getfield 7, 3) := by decide +kernel
theorem dX7_isGrower_6 : decode cX7_isGrower 6 = .ok (.bipush 7, 2) := by decide +kernel
theorem dX7_isGrower_8 : decode cX7_isGrower 8 = .ok (.iaload, 1) := by decide +kernel
theorem dX7_isGrower_9 : decode cX7_isGrower 9 = .ok (.iconst 1, 1) := by decide +kernel
theorem dX7_isGrower_10 : decode cX7_isGrower 10 = .ok (.isub, 1) := by decide +kernel
theorem dX7_isGrower_11 : decode cX7_isGrower 11 = .ok (.invokestatic 38, 3) := by decide +kernel
theorem dX7_isGrower_14 : decode cX7_isGrower 14 = .ok (.ireturn, 1) := by decide +kernel
theorem dX7_isLot_0 : decode cX7_isLot 0 = .ok (.iload_n 1, 1) := by decide +kernel
theorem dX7_isLot_1 : decode cX7_isLot 1 = .ok (.iconst 0, 1) := by decide +kernel
theorem dX7_isLot_2 : decode cX7_isLot 2 = .ok (.aload_n 0, 1) := by decide +kernel
theorem dX7_isLot_3 : decode cX7_isLot 3 = .ok (.getfield 7, 3) := by decide +kernel
theorem dX7_isLot_6 : decode cX7_isLot 6 = .ok (.bipush 8, 2) := by decide +kernel
theorem dX7_isLot_8 : decode cX7_isLot 8 = .ok (.iaload, 1) := by decide +kernel
theorem dX7_isLot_9 : decode cX7_isLot 9 = .ok (.iconst 1, 1) := by decide +kernel
theorem dX7_isLot_10 : decode cX7_isLot 10 = .ok (.isub, 1) := by decide +kernel
theorem dX7_isLot_11 : decode cX7_isLot 11 = .ok (.invokestatic 38, 3) := by decide +kernel
theorem dX7_isLot_14 : decode cX7_isLot 14 = .ok (.ireturn, 1) := by decide +kernel
theorem dX7_isTank_0 : decode cX7_isTank 0 = .ok (.iload_n 1, 1) := by decide +kernel
theorem dX7_isTank_1 : decode cX7_isTank 1 = .ok (.iconst 0, 1) := by decide +kernel
theorem dX7_isTank_2 : decode cX7_isTank 2 = .ok (.aload_n 0, 1) := by decide +kernel
theorem dX7_isTank_3 : decode cX7_isTank 3 = .ok (.getfield 7, 3) := by decide +kernel
theorem dX7_isTank_6 : decode cX7_isTank 6 = .ok (.bipush 9, 2) := by decide +kernel
theorem dX7_isTank_8 : decode cX7_isTank 8 = .ok (.iaload, 1) := by decide +kernel
theorem dX7_isTank_9 : decode cX7_isTank 9 = .ok (.iconst 1, 1) := by decide +kernel
theorem dX7_isTank_10 : decode cX7_isTank 10 = .ok (.isub, 1) := by decide +kernel
theorem dX7_isTank_11 : decode cX7_isTank 11 = .ok (.invokestatic 38, 3) := by decide +kernel
theorem dX7_isTank_14 : decode cX7_isTank 14 = .ok (.ireturn, 1) := by decide +kernel
theorem dX7_isVariety_0 : decode cX7_isVariety 0 = .ok (.iload_n 0, 1) := by decide +kernel
theorem dX7_isVariety_1 : decode cX7_isVariety 1 = .ok (.iconst 0, 1) := by decide +kernel
theorem dX7_isVariety_2 : decode cX7_isVariety 2 = .ok (.iconst 4, 1) := by decide +kernel
theorem dX7_isVariety_3 : decode cX7_isVariety 3 = .ok (.invokestatic 38, 3) := by decide +kernel
theorem dX7_isVariety_6 : decode cX7_isVariety 6 = .ok (.ireturn, 1) := by decide +kernel
theorem dX7_ofLot_0 : decode cX7_ofLot 0 = .ok (.aload_n 0, 1) := by decide +kernel
theorem dX7_ofLot_1 : decode cX7_ofLot 1 = .ok (.getfield 7, 3) := by decide +kernel
theorem dX7_ofLot_4 : decode cX7_ofLot 4 = .ok (.bipush 72, 2) := by decide +kernel
theorem dX7_ofLot_6 : decode cX7_ofLot 6 = .ok (.bipush 10, 2) := by decide +kernel
theorem dX7_ofLot_8 : decode cX7_ofLot 8 = .ok (.iload_n 1, 1) := by decide +kernel
theorem dX7_ofLot_9 : decode cX7_ofLot 9 = .ok (.imul, 1) := by decide +kernel
theorem dX7_ofLot_10 : decode cX7_ofLot 10 = .ok (.iadd, 1) := by decide +kernel
theorem dX7_ofLot_11 : decode cX7_ofLot 11 = .ok (.iload_n 2, 1) := by decide +kernel
theorem dX7_ofLot_12 : decode cX7_ofLot 12 = .ok (.iadd, 1) := by decide +kernel
theorem dX7_ofLot_13 : decode cX7_ofLot 13 = .ok (.iaload, 1) := by decide +kernel
theorem dX7_ofLot_14 : decode cX7_ofLot 14 = .ok (.ireturn, 1) := by decide +kernel
theorem dX7_setLot_0 : decode cX7_setLot 0 = .ok (.aload_n 0, 1) := by decide +kernel
theorem dX7_setLot_1 : decode cX7_setLot 1 = .ok (.getfield 7, 3) := by decide +kernel
theorem dX7_setLot_4 : decode cX7_setLot 4 = .ok (.bipush 72, 2) := by decide +kernel
theorem dX7_setLot_6 : decode cX7_setLot 6 = .ok (.bipush 10, 2) := by decide +kernel
theorem dX7_setLot_8 : decode cX7_setLot 8 = .ok (.iload_n 1, 1) := by decide +kernel
theorem dX7_setLot_9 : decode cX7_setLot 9 = .ok (.imul, 1) := by decide +kernel
theorem dX7_setLot_10 : decode cX7_setLot 10 = .ok (.iadd, 1) := by decide +kernel
theorem dX7_setLot_11 : decode cX7_setLot 11 = .ok (.iload_n 2, 1) := by decide +kernel
theorem dX7_setLot_12 : decode cX7_setLot 12 = .ok (.iadd, 1) := by decide +kernel
theorem dX7_setLot_13 : decode cX7_setLot 13 = .ok (.iload_n 3, 1) := by decide +kernel
theorem dX7_setLot_14 : decode cX7_setLot 14 = .ok (.iastore, 1) := by decide +kernel
theorem dX7_setLot_15 : decode cX7_setLot 15 = .ok (.return_, 1) := by decide +kernel
theorem dX7_ofTank_0 : decode cX7_ofTank 0 = .ok (.aload_n 0, 1) := by decide +kernel
theorem dX7_ofTank_1 : decode cX7_ofTank 1 = .ok (.getfield 7, 3) := by decide +kernel
theorem dX7_ofTank_4 : decode cX7_ofTank 4 = .ok (.sipush 472, 3) := by decide +kernel
theorem dX7_ofTank_7 : decode cX7_ofTank 7 = .ok (.bipush 7, 2) := by decide +kernel
theorem dX7_ofTank_9 : decode cX7_ofTank 9 = .ok (.iload_n 1, 1) := by decide +kernel
theorem dX7_ofTank_10 : decode cX7_ofTank 10 = .ok (.imul, 1) := by decide +kernel
theorem dX7_ofTank_11 : decode cX7_ofTank 11 = .ok (.iadd, 1) := by decide +kernel
theorem dX7_ofTank_12 : decode cX7_ofTank 12 = .ok (.iload_n 2, 1) := by decide +kernel
theorem dX7_ofTank_13 : decode cX7_ofTank 13 = .ok (.iadd, 1) := by decide +kernel
theorem dX7_ofTank_14 : decode cX7_ofTank 14 = .ok (.iaload, 1) := by decide +kernel
theorem dX7_ofTank_15 : decode cX7_ofTank 15 = .ok (.ireturn, 1) := by decide +kernel
theorem dX7_oilOf_0 : decode cX7_oilOf 0 = .ok (.iconst 0, 1) := by decide +kernel
theorem dX7_oilOf_1 : decode cX7_oilOf 1 = .ok (.istore_n 2, 1) := by decide +kernel
theorem dX7_oilOf_2 : decode cX7_oilOf 2 = .ok (.iconst 0, 1) := by decide +kernel
theorem dX7_oilOf_3 : decode cX7_oilOf 3 = .ok (.istore_n 3, 1) := by decide +kernel
theorem dX7_oilOf_4 : decode cX7_oilOf 4 = .ok (.iload_n 3, 1) := by decide +kernel
theorem dX7_oilOf_5 : decode cX7_oilOf 5 = .ok (.iconst 5, 1) := by decide +kernel
theorem dX7_oilOf_6 : decode cX7_oilOf 6 = .ok (.if_icmp .ge 20, 3) := by decide +kernel
theorem dX7_oilOf_9 : decode cX7_oilOf 9 = .ok (.iload_n 2, 1) := by decide +kernel
theorem dX7_oilOf_10 : decode cX7_oilOf 10 = .ok (.aload_n 0, 1) := by decide +kernel
theorem dX7_oilOf_11 : decode cX7_oilOf 11 = .ok (.iload_n 1, 1) := by decide +kernel
theorem dX7_oilOf_12 : decode cX7_oilOf 12 = .ok (.iconst 2, 1) := by decide +kernel
theorem dX7_oilOf_13 : decode cX7_oilOf 13 = .ok (.iload_n 3, 1) := by decide +kernel
theorem dX7_oilOf_14 : decode cX7_oilOf 14 = .ok (.iadd, 1) := by decide +kernel
theorem dX7_oilOf_15 : decode cX7_oilOf 15 = .ok (.invokevirtual 42, 3) := by decide +kernel
theorem dX7_oilOf_18 : decode cX7_oilOf 18 = .ok (.iadd, 1) := by decide +kernel
theorem dX7_oilOf_19 : decode cX7_oilOf 19 = .ok (.istore_n 2, 1) := by decide +kernel
theorem dX7_oilOf_20 : decode cX7_oilOf 20 = .ok (.iinc 3 1, 3) := by decide +kernel
theorem dX7_oilOf_23 : decode cX7_oilOf 23 = .ok (.goto (-19), 3) := by decide +kernel
theorem dX7_oilOf_26 : decode cX7_oilOf 26 = .ok (.iload_n 2, 1) := by decide +kernel
theorem dX7_oilOf_27 : decode cX7_oilOf 27 = .ok (.ireturn, 1) := by decide +kernel
theorem dX7_gradeOf_0 : decode cX7_gradeOf 0 = .ok (.aload_n 0, 1) := by decide +kernel
theorem dX7_gradeOf_1 : decode cX7_gradeOf 1 = .ok (.iload_n 1, 1) := by decide +kernel
theorem dX7_gradeOf_2 : decode cX7_gradeOf 2 = .ok (.invokevirtual 46, 3) := by decide +kernel
theorem dX7_gradeOf_5 : decode cX7_gradeOf 5 = .ok (.ifCond .ne 7, 3) := by decide +kernel
theorem dX7_gradeOf_8 : decode cX7_gradeOf 8 = .ok (.iconst (-1), 1) := by decide +kernel
theorem dX7_gradeOf_9 : decode cX7_gradeOf 9 = .ok (.goto 9, 3) := by decide +kernel
theorem dX7_gradeOf_12 : decode cX7_gradeOf 12 = .ok (.aload_n 0, 1) := by decide +kernel
theorem dX7_gradeOf_13 : decode cX7_gradeOf 13 = .ok (.iload_n 1, 1) := by decide +kernel
theorem dX7_gradeOf_14 : decode cX7_gradeOf 14 = .ok (.iconst 1, 1) := by decide +kernel
theorem dX7_gradeOf_15 : decode cX7_gradeOf 15 = .ok (.invokevirtual 42, 3) := by decide +kernel
theorem dX7_gradeOf_18 : decode cX7_gradeOf 18 = .ok (.ireturn, 1) := by decide +kernel
theorem dX7_roomIn_0 : decode cX7_roomIn 0 = .ok (.aload_n 0, 1) := by decide +kernel
theorem dX7_roomIn_1 : decode cX7_roomIn 1 = .ok (.iload_n 1, 1) := by decide +kernel
theorem dX7_roomIn_2 : decode cX7_roomIn 2 = .ok (.iconst 0, 1) := by decide +kernel
theorem dX7_roomIn_3 : decode cX7_roomIn 3 = .ok (.invokevirtual 42, 3) := by decide +kernel
theorem dX7_roomIn_6 : decode cX7_roomIn 6 = .ok (.aload_n 0, 1) := by decide +kernel
theorem dX7_roomIn_7 : decode cX7_roomIn 7 = .ok (.iload_n 1, 1) := by decide +kernel
theorem dX7_roomIn_8 : decode cX7_roomIn 8 = .ok (.invokevirtual 46, 3) := by decide +kernel
theorem dX7_roomIn_11 : decode cX7_roomIn 11 = .ok (.isub, 1) := by decide +kernel
theorem dX7_roomIn_12 : decode cX7_roomIn 12 = .ok (.ireturn, 1) := by decide +kernel
theorem dX7_gradeOfLot_0 : decode cX7_gradeOfLot 0 = .ok (.aload_n 0, 1) := by decide +kernel
theorem dX7_gradeOfLot_1 : decode cX7_gradeOfLot 1 = .ok (.iload_n 1, 1) := by decide +kernel
theorem dX7_gradeOfLot_2 : decode cX7_gradeOfLot 2 = .ok (.iconst 3, 1) := by decide +kernel
theorem dX7_gradeOfLot_3 : decode cX7_gradeOfLot 3 = .ok (.invokevirtual 50, 3) := by decide +kernel
theorem dX7_gradeOfLot_6 : decode cX7_gradeOfLot 6 = .ok (.istore_n 2, 1) := by decide +kernel
theorem dX7_gradeOfLot_7 : decode cX7_gradeOfLot 7 = .ok (.iload_n 2, 1) := by decide +kernel
theorem dX7_gradeOfLot_8 : decode cX7_gradeOfLot 8 = .ok (.bipush 9, 2) := by decide +kernel
theorem dX7_gradeOfLot_10 : decode cX7_gradeOfLot 10 = .ok (.if_icmp .ge 7, 3) := by decide +kernel
theorem dX7_gradeOfLot_13 : decode cX7_gradeOfLot 13 = .ok (.iconst 0, 1) := by decide +kernel
theorem dX7_gradeOfLot_14 : decode cX7_gradeOfLot 14 = .ok (.goto 14, 3) := by decide +kernel
theorem dX7_gradeOfLot_17 : decode cX7_gradeOfLot 17 = .ok (.iload_n 2, 1) := by decide +kernel
theorem dX7_gradeOfLot_18 : decode cX7_gradeOfLot 18 = .ok (.bipush 21, 2) := by decide +kernel
theorem dX7_gradeOfLot_20 : decode cX7_gradeOfLot 20 = .ok (.if_icmp .ge 7, 3) := by decide +kernel
theorem dX7_gradeOfLot_23 : decode cX7_gradeOfLot 23 = .ok (.iconst 1, 1) := by decide +kernel
theorem dX7_gradeOfLot_24 : decode cX7_gradeOfLot 24 = .ok (.goto 4, 3) := by decide +kernel
theorem dX7_gradeOfLot_27 : decode cX7_gradeOfLot 27 = .ok (.iconst 2, 1) := by decide +kernel
theorem dX7_gradeOfLot_28 : decode cX7_gradeOfLot 28 = .ok (.ireturn, 1) := by decide +kernel
theorem dX7_pour_0 : decode cX7_pour 0 = .ok (.iload_n 3, 1) := by decide +kernel
theorem dX7_pour_1 : decode cX7_pour 1 = .ok (.ifCond .le 60, 3) := by decide +kernel
theorem dX7_pour_4 : decode cX7_pour 4 = .ok (.aload_n 0, 1) := by decide +kernel
theorem dX7_pour_5 : decode cX7_pour 5 = .ok (.iload_n 1, 1) := by decide +kernel
theorem dX7_pour_6 : decode cX7_pour 6 = .ok (.invokevirtual 53, 3) := by decide +kernel
theorem dX7_pour_9 : decode cX7_pour 9 = .ok (.istore 5, 2) := by decide +kernel
theorem dX7_pour_11 : decode cX7_pour 11 = .ok (.aload_n 0, 1) := by decide +kernel
theorem dX7_pour_12 : decode cX7_pour 12 = .ok (.getfield 7, 3) := by decide +kernel
theorem dX7_pour_15 : decode cX7_pour 15 = .ok (.sipush 472, 3) := by decide +kernel
theorem dX7_pour_18 : decode cX7_pour 18 = .ok (.bipush 7, 2) := by decide +kernel
theorem dX7_pour_20 : decode cX7_pour 20 = .ok (.iload_n 1, 1) := by decide +kernel
theorem dX7_pour_21 : decode cX7_pour 21 = .ok (.imul, 1) := by decide +kernel
theorem dX7_pour_22 : decode cX7_pour 22 = .ok (.iadd, 1) := by decide +kernel
theorem dX7_pour_23 : decode cX7_pour 23 = .ok (.iconst 1, 1) := by decide +kernel
theorem dX7_pour_24 : decode cX7_pour 24 = .ok (.iadd, 1) := by decide +kernel
theorem dX7_pour_25 : decode cX7_pour 25 = .ok (.iload 5, 2) := by decide +kernel
theorem dX7_pour_27 : decode cX7_pour 27 = .ok (.iload 4, 2) := by decide +kernel
theorem dX7_pour_29 : decode cX7_pour 29 = .ok (.if_icmp .le 8, 3) := by decide +kernel
theorem dX7_pour_32 : decode cX7_pour 32 = .ok (.iload 5, 2) := by decide +kernel
theorem dX7_pour_34 : decode cX7_pour 34 = .ok (.goto 5, 3) := by decide +kernel
theorem dX7_pour_37 : decode cX7_pour 37 = .ok (.iload 4, 2) := by decide +kernel
theorem dX7_pour_39 : decode cX7_pour 39 = .ok (.iastore, 1) := by decide +kernel
theorem dX7_pour_40 : decode cX7_pour 40 = .ok (.aload_n 0, 1) := by decide +kernel
theorem dX7_pour_41 : decode cX7_pour 41 = .ok (.getfield 7, 3) := by decide +kernel
theorem dX7_pour_44 : decode cX7_pour 44 = .ok (.sipush 472, 3) := by decide +kernel
theorem dX7_pour_47 : decode cX7_pour 47 = .ok (.bipush 7, 2) := by decide +kernel
theorem dX7_pour_49 : decode cX7_pour 49 = .ok (.iload_n 1, 1) := by decide +kernel
theorem dX7_pour_50 : decode cX7_pour 50 = .ok (.imul, 1) := by decide +kernel
theorem dX7_pour_51 : decode cX7_pour 51 = .ok (.iadd, 1) := by decide +kernel
theorem dX7_pour_52 : decode cX7_pour 52 = .ok (.iconst 2, 1) := by decide +kernel
theorem dX7_pour_53 : decode cX7_pour 53 = .ok (.iadd, 1) := by decide +kernel
theorem dX7_pour_54 : decode cX7_pour 54 = .ok (.iload_n 2, 1) := by decide +kernel
theorem dX7_pour_55 : decode cX7_pour 55 = .ok (.iadd, 1) := by decide +kernel
theorem dX7_pour_56 : decode cX7_pour 56 = .ok (.dup2, 1) := by decide +kernel
theorem dX7_pour_57 : decode cX7_pour 57 = .ok (.iaload, 1) := by decide +kernel
theorem dX7_pour_58 : decode cX7_pour 58 = .ok (.iload_n 3, 1) := by decide +kernel
theorem dX7_pour_59 : decode cX7_pour 59 = .ok (.iadd, 1) := by decide +kernel
theorem dX7_pour_60 : decode cX7_pour 60 = .ok (.iastore, 1) := by decide +kernel
theorem dX7_pour_61 : decode cX7_pour 61 = .ok (.return_, 1) := by decide +kernel
theorem dX7_suits_0 : decode cX7_suits 0 = .ok (.iload_n 3, 1) := by decide +kernel
theorem dX7_suits_1 : decode cX7_suits 1 = .ok (.ifCond .ne 21, 3) := by decide +kernel
theorem dX7_suits_4 : decode cX7_suits 4 = .ok (.aload_n 0, 1) := by decide +kernel
theorem dX7_suits_5 : decode cX7_suits 5 = .ok (.iload_n 1, 1) := by decide +kernel
theorem dX7_suits_6 : decode cX7_suits 6 = .ok (.invokevirtual 53, 3) := by decide +kernel
theorem dX7_suits_9 : decode cX7_suits 9 = .ok (.iconst (-1), 1) := by decide +kernel
theorem dX7_suits_10 : decode cX7_suits 10 = .ok (.if_icmp .eq 12, 3) := by decide +kernel
theorem dX7_suits_13 : decode cX7_suits 13 = .ok (.aload_n 0, 1) := by decide +kernel
theorem dX7_suits_14 : decode cX7_suits 14 = .ok (.iload_n 1, 1) := by decide +kernel
theorem dX7_suits_15 : decode cX7_suits 15 = .ok (.invokevirtual 53, 3) := by decide +kernel
theorem dX7_suits_18 : decode cX7_suits 18 = .ok (.iload_n 2, 1) := by decide +kernel
theorem dX7_suits_19 : decode cX7_suits 19 = .ok (.if_icmp .ne 7, 3) := by decide +kernel
theorem dX7_suits_22 : decode cX7_suits 22 = .ok (.iconst 1, 1) := by decide +kernel
theorem dX7_suits_23 : decode cX7_suits 23 = .ok (.goto 4, 3) := by decide +kernel
theorem dX7_suits_26 : decode cX7_suits 26 = .ok (.iconst 0, 1) := by decide +kernel
theorem dX7_suits_27 : decode cX7_suits 27 = .ok (.ireturn, 1) := by decide +kernel
theorem dX7_addGrower_0 : decode cX7_addGrower 0 = .ok (.aload_n 0, 1) := by decide +kernel
theorem dX7_addGrower_1 : decode cX7_addGrower 1 = .ok (.aload_n 0, 1) := by decide +kernel
theorem dX7_addGrower_2 : decode cX7_addGrower 2 = .ok (.getfield 7, 3) := by decide +kernel
theorem dX7_addGrower_5 : decode cX7_addGrower 5 = .ok (.bipush 7, 2) := by decide +kernel
theorem dX7_addGrower_7 : decode cX7_addGrower 7 = .ok (.iaload, 1) := by decide +kernel
theorem dX7_addGrower_8 : decode cX7_addGrower 8 = .ok (.bipush 8, 2) := by decide +kernel
theorem dX7_addGrower_10 : decode cX7_addGrower 10 = .ok (.if_icmp .ne 7, 3) := by decide +kernel
theorem dX7_addGrower_13 : decode cX7_addGrower 13 = .ok (.iconst 1, 1) := by decide +kernel
theorem dX7_addGrower_14 : decode cX7_addGrower 14 = .ok (.goto 4, 3) := by decide +kernel
theorem dX7_addGrower_17 : decode cX7_addGrower 17 = .ok (.iconst 0, 1) := by decide +kernel
theorem dX7_addGrower_18 : decode cX7_addGrower 18 = .ok (.putfield 31, 3) := by decide +kernel
theorem dX7_addGrower_21 : decode cX7_addGrower 21 = .ok (.aload_n 0, 1) := by decide +kernel
theorem dX7_addGrower_22 : decode cX7_addGrower 22 = .ok (.getfield 31, 3) := by decide +kernel
theorem dX7_addGrower_25 : decode cX7_addGrower 25 = .ok (.ifCond .le 5, 3) := by decide +kernel
theorem dX7_addGrower_28 : decode cX7_addGrower 28 = .ok (.iconst 0, 1) := by decide +kernel
theorem dX7_addGrower_29 : decode cX7_addGrower 29 = .ok (.ireturn, 1) := by decide +kernel
theorem dX7_addGrower_30 : decode cX7_addGrower 30 = .ok (.aload_n 0, 1) := by decide +kernel
theorem dX7_addGrower_31 : decode cX7_addGrower 31 = .ok (.invokevirtual 56, 3) := by decide +kernel
theorem dX7_addGrower_34 : decode cX7_addGrower 34 = .ok (.aload_n 0, 1) := by decide +kernel
theorem dX7_addGrower_35 : decode cX7_addGrower 35 = .ok (.getfield 7, 3) := by decide +kernel
theorem dX7_addGrower_38 : decode cX7_addGrower 38 = .ok (.bipush 7, 2) := by decide +kernel
theorem dX7_addGrower_40 : decode cX7_addGrower 40 = .ok (.dup2, 1) := by decide +kernel
theorem dX7_addGrower_41 : decode cX7_addGrower 41 = .ok (.iaload, 1) := by decide +kernel
theorem dX7_addGrower_42 : decode cX7_addGrower 42 = .ok (.iconst 1, 1) := by decide +kernel
theorem dX7_addGrower_43 : decode cX7_addGrower 43 = .ok (.iadd, 1) := by decide +kernel
theorem dX7_addGrower_44 : decode cX7_addGrower 44 = .ok (.iastore, 1) := by decide +kernel
theorem dX7_addGrower_45 : decode cX7_addGrower 45 = .ok (.aload_n 0, 1) := by decide +kernel
theorem dX7_addGrower_46 : decode cX7_addGrower 46 = .ok (.getfield 7, 3) := by decide +kernel
theorem dX7_addGrower_49 : decode cX7_addGrower 49 = .ok (.bipush 7, 2) := by decide +kernel
theorem dX7_addGrower_51 : decode cX7_addGrower 51 = .ok (.iaload, 1) := by decide +kernel
theorem dX7_addGrower_52 : decode cX7_addGrower 52 = .ok (.iconst 1, 1) := by decide +kernel
theorem dX7_addGrower_53 : decode cX7_addGrower 53 = .ok (.isub, 1) := by decide +kernel
theorem dX7_addGrower_54 : decode cX7_addGrower 54 = .ok (.ireturn, 1) := by decide +kernel
theorem dX7_refusedLot_0 : decode cX7_refusedLot 0 = .ok (.iload_n 2, 1) := by decide +kernel
theorem dX7_refusedLot_1 : decode cX7_refusedLot 1 = .ok (.invokestatic 59, 3) := by decide +kernel
theorem dX7_refusedLot_4 : decode cX7_refusedLot 4 = .ok (.ifCond .eq 43, 3) := by decide +kernel
theorem dX7_refusedLot_7 : decode cX7_refusedLot 7 = .ok (.iload_n 3, 1) := by decide +kernel
theorem dX7_refusedLot_8 : decode cX7_refusedLot 8 = .ok (.iconst 1, 1) := by decide +kernel
theorem dX7_refusedLot_9 : decode cX7_refusedLot 9 = .ok (.sipush 2000, 3) := by decide +kernel
theorem dX7_refusedLot_12 : decode cX7_refusedLot 12 = .ok (.invokestatic 38, 3) := by decide +kernel
theorem dX7_refusedLot_15 : decode cX7_refusedLot 15 = .ok (.ifCond .eq 32, 3) := by decide +kernel
theorem dX7_refusedLot_18 : decode cX7_refusedLot 18 = .ok (.iload 4, 2) := by decide +kernel
theorem dX7_refusedLot_20 : decode cX7_refusedLot 20 = .ok (.iconst 0, 1) := by decide +kernel
theorem dX7_refusedLot_21 : decode cX7_refusedLot 21 = .ok (.bipush 50, 2) := by decide +kernel
theorem dX7_refusedLot_23 : decode cX7_refusedLot 23 = .ok (.invokestatic 38, 3) := by decide +kernel
theorem dX7_refusedLot_26 : decode cX7_refusedLot 26 = .ok (.ifCond .eq 21, 3) := by decide +kernel
theorem dX7_refusedLot_29 : decode cX7_refusedLot 29 = .ok (.iload 5, 2) := by decide +kernel
theorem dX7_refusedLot_31 : decode cX7_refusedLot 31 = .ok (.sipush 500, 3) := by decide +kernel
theorem dX7_refusedLot_34 : decode cX7_refusedLot 34 = .ok (.sipush 1500, 3) := by decide +kernel
theorem dX7_refusedLot_37 : decode cX7_refusedLot 37 = .ok (.invokestatic 38, 3) := by decide +kernel
theorem dX7_refusedLot_40 : decode cX7_refusedLot 40 = .ok (.ifCond .eq 7, 3) := by decide +kernel
theorem dX7_refusedLot_43 : decode cX7_refusedLot 43 = .ok (.iconst 1, 1) := by decide +kernel
theorem dX7_refusedLot_44 : decode cX7_refusedLot 44 = .ok (.goto 4, 3) := by decide +kernel
theorem dX7_refusedLot_47 : decode cX7_refusedLot 47 = .ok (.iconst 0, 1) := by decide +kernel
theorem dX7_refusedLot_48 : decode cX7_refusedLot 48 = .ok (.istore 6, 2) := by decide +kernel
theorem dX7_refusedLot_50 : decode cX7_refusedLot 50 = .ok (.aload_n 0, 1) := by decide +kernel
theorem dX7_refusedLot_51 : decode cX7_refusedLot 51 = .ok (.iload_n 1, 1) := by decide +kernel
theorem dX7_refusedLot_52 : decode cX7_refusedLot 52 = .ok (.invokevirtual 63, 3) := by decide +kernel
theorem dX7_refusedLot_55 : decode cX7_refusedLot 55 = .ok (.ifCond .ne 7, 3) := by decide +kernel
theorem dX7_refusedLot_58 : decode cX7_refusedLot 58 = .ok (.iconst 1, 1) := by decide +kernel
theorem dX7_refusedLot_59 : decode cX7_refusedLot 59 = .ok (.goto 29, 3) := by decide +kernel
theorem dX7_refusedLot_62 : decode cX7_refusedLot 62 = .ok (.iload 6, 2) := by decide +kernel
theorem dX7_refusedLot_64 : decode cX7_refusedLot 64 = .ok (.ifCond .ne 7, 3) := by decide +kernel
theorem dX7_refusedLot_67 : decode cX7_refusedLot 67 = .ok (.iconst 2, 1) := by decide +kernel
theorem dX7_refusedLot_68 : decode cX7_refusedLot 68 = .ok (.goto 20, 3) := by decide +kernel
theorem dX7_refusedLot_71 : decode cX7_refusedLot 71 = .ok (.aload_n 0, 1) := by decide +kernel
theorem dX7_refusedLot_72 : decode cX7_refusedLot 72 = .ok (.getfield 7, 3) := by decide +kernel
theorem dX7_refusedLot_75 : decode cX7_refusedLot 75 = .ok (.bipush 8, 2) := by decide +kernel
theorem dX7_refusedLot_77 : decode cX7_refusedLot 77 = .ok (.iaload, 1) := by decide +kernel
theorem dX7_refusedLot_78 : decode cX7_refusedLot 78 = .ok (.bipush 40, 2) := by decide +kernel
theorem dX7_refusedLot_80 : decode cX7_refusedLot 80 = .ok (.if_icmp .ne 7, 3) := by decide +kernel
theorem dX7_refusedLot_83 : decode cX7_refusedLot 83 = .ok (.iconst 3, 1) := by decide +kernel
theorem dX7_refusedLot_84 : decode cX7_refusedLot 84 = .ok (.goto 4, 3) := by decide +kernel
theorem dX7_refusedLot_87 : decode cX7_refusedLot 87 = .ok (.iconst 0, 1) := by decide +kernel
theorem dX7_refusedLot_88 : decode cX7_refusedLot 88 = .ok (.ireturn, 1) := by decide +kernel
theorem dX7_putLot_0 : decode cX7_putLot 0 = .ok (.aload_n 0, 1) := by decide +kernel
theorem dX7_putLot_1 : decode cX7_putLot 1 = .ok (.getfield 7, 3) := by decide +kernel
theorem dX7_putLot_4 : decode cX7_putLot 4 = .ok (.bipush 8, 2) := by decide +kernel
theorem dX7_putLot_6 : decode cX7_putLot 6 = .ok (.iaload, 1) := by decide +kernel
theorem dX7_putLot_7 : decode cX7_putLot 7 = .ok (.istore 6, 2) := by decide +kernel
theorem dX7_putLot_9 : decode cX7_putLot 9 = .ok (.aload_n 0, 1) := by decide +kernel
theorem dX7_putLot_10 : decode cX7_putLot 10 = .ok (.getfield 7, 3) := by decide +kernel
theorem dX7_putLot_13 : decode cX7_putLot 13 = .ok (.bipush 8, 2) := by decide +kernel
theorem dX7_putLot_15 : decode cX7_putLot 15 = .ok (.dup2, 1) := by decide +kernel
theorem dX7_putLot_16 : decode cX7_putLot 16 = .ok (.iaload, 1) := by decide +kernel
theorem dX7_putLot_17 : decode cX7_putLot 17 = .ok (.iconst 1, 1) := by decide +kernel
theorem dX7_putLot_18 : decode cX7_putLot 18 = .ok (.iadd, 1) := by decide +kernel
theorem dX7_putLot_19 : decode cX7_putLot 19 = .ok (.iastore, 1) := by decide +kernel
theorem dX7_putLot_20 : decode cX7_putLot 20 = .ok (.aload_n 0, 1) := by decide +kernel
theorem dX7_putLot_21 : decode cX7_putLot 21 = .ok (.iload 6, 2) := by decide +kernel
theorem dX7_putLot_23 : decode cX7_putLot 23 = .ok (.iconst 0, 1) := by decide +kernel
theorem dX7_putLot_24 : decode cX7_putLot 24 = .ok (.iload_n 1, 1) := by decide +kernel
theorem dX7_putLot_25 : decode cX7_putLot 25 = .ok (.invokevirtual 66, 3) := by decide +kernel
theorem dX7_putLot_28 : decode cX7_putLot 28 = .ok (.aload_n 0, 1) := by decide +kernel
theorem dX7_putLot_29 : decode cX7_putLot 29 = .ok (.iload 6, 2) := by decide +kernel
theorem dX7_putLot_31 : decode cX7_putLot 31 = .ok (.iconst 1, 1) := by decide +kernel
theorem dX7_putLot_32 : decode cX7_putLot 32 = .ok (.iload_n 2, 1) := by decide +kernel
theorem dX7_putLot_33 : decode cX7_putLot 33 = .ok (.invokevirtual 66, 3) := by decide +kernel
theorem dX7_putLot_36 : decode cX7_putLot 36 = .ok (.aload_n 0, 1) := by decide +kernel
theorem dX7_putLot_37 : decode cX7_putLot 37 = .ok (.iload 6, 2) := by decide +kernel
theorem dX7_putLot_39 : decode cX7_putLot 39 = .ok (.iconst 2, 1) := by decide +kernel
theorem dX7_putLot_40 : decode cX7_putLot 40 = .ok (.iload_n 3, 1) := by decide +kernel
theorem dX7_putLot_41 : decode cX7_putLot 41 = .ok (.invokevirtual 66, 3) := by decide +kernel
theorem dX7_putLot_44 : decode cX7_putLot 44 = .ok (.aload_n 0, 1) := by decide +kernel
theorem dX7_putLot_45 : decode cX7_putLot 45 = .ok (.iload 6, 2) := by decide +kernel
theorem dX7_putLot_47 : decode cX7_putLot 47 = .ok (.iconst 3, 1) := by decide +kernel
theorem dX7_putLot_48 : decode cX7_putLot 48 = .ok (.iload 4, 2) := by decide +kernel
theorem dX7_putLot_50 : decode cX7_putLot 50 = .ok (.invokevirtual 66, 3) := by decide +kernel
theorem dX7_putLot_53 : decode cX7_putLot 53 = .ok (.aload_n 0, 1) := by decide +kernel
theorem dX7_putLot_54 : decode cX7_putLot 54 = .ok (.iload 6, 2) := by decide +kernel
theorem dX7_putLot_56 : decode cX7_putLot 56 = .ok (.iconst 4, 1) := by decide +kernel
theorem dX7_putLot_57 : decode cX7_putLot 57 = .ok (.iload 5, 2) := by decide +kernel
theorem dX7_putLot_59 : decode cX7_putLot 59 = .ok (.invokevirtual 66, 3) := by decide +kernel
theorem dX7_putLot_62 : decode cX7_putLot 62 = .ok (.aload_n 0, 1) := by decide +kernel
theorem dX7_putLot_63 : decode cX7_putLot 63 = .ok (.iload 6, 2) := by decide +kernel
theorem dX7_putLot_65 : decode cX7_putLot 65 = .ok (.iconst 5, 1) := by decide +kernel
theorem dX7_putLot_66 : decode cX7_putLot 66 = .ok (.iconst 0, 1) := by decide +kernel
theorem dX7_putLot_67 : decode cX7_putLot 67 = .ok (.invokevirtual 66, 3) := by decide +kernel
theorem dX7_putLot_70 : decode cX7_putLot 70 = .ok (.bipush 6, 2) := by decide +kernel
theorem dX7_putLot_72 : decode cX7_putLot 72 = .ok (.istore 7, 2) := by decide +kernel
theorem dX7_putLot_74 : decode cX7_putLot 74 = .ok (.iload 7, 2) := by decide +kernel
theorem dX7_putLot_76 : decode cX7_putLot 76 = .ok (.bipush 9, 2) := by decide +kernel
theorem dX7_putLot_78 : decode cX7_putLot 78 = .ok (.if_icmp .gt 18, 3) := by decide +kernel
theorem dX7_putLot_81 : decode cX7_putLot 81 = .ok (.aload_n 0, 1) := by decide +kernel
theorem dX7_putLot_82 : decode cX7_putLot 82 = .ok (.iload 6, 2) := by decide +kernel
theorem dX7_putLot_84 : decode cX7_putLot 84 = .ok (.iload 7, 2) := by decide +kernel
theorem dX7_putLot_86 : decode cX7_putLot 86 = .ok (.iconst (-1), 1) := by decide +kernel
theorem dX7_putLot_87 : decode cX7_putLot 87 = .ok (.invokevirtual 66, 3) := by decide +kernel
theorem dX7_putLot_90 : decode cX7_putLot 90 = .ok (.iinc 7 1, 3) := by decide +kernel
theorem dX7_putLot_93 : decode cX7_putLot 93 = .ok (.goto (-19), 3) := by decide +kernel
theorem dX7_putLot_96 : decode cX7_putLot 96 = .ok (.iload 6, 2) := by decide +kernel
theorem dX7_putLot_98 : decode cX7_putLot 98 = .ok (.ireturn, 1) := by decide +kernel
theorem dX7_addLot_0 : decode cX7_addLot 0 = .ok (.aload_n 0, 1) := by decide +kernel
theorem dX7_addLot_1 : decode cX7_addLot 1 = .ok (.aload_n 0, 1) := by decide +kernel
theorem dX7_addLot_2 : decode cX7_addLot 2 = .ok (.iload_n 1, 1) := by decide +kernel
theorem dX7_addLot_3 : decode cX7_addLot 3 = .ok (.iload_n 2, 1) := by decide +kernel
theorem dX7_addLot_4 : decode cX7_addLot 4 = .ok (.iload_n 3, 1) := by decide +kernel
theorem dX7_addLot_5 : decode cX7_addLot 5 = .ok (.iload 4, 2) := by decide +kernel
theorem dX7_addLot_7 : decode cX7_addLot 7 = .ok (.iload 5, 2) := by decide +kernel
theorem dX7_addLot_9 : decode cX7_addLot 9 = .ok (.invokevirtual 70, 3) := by decide +kernel
theorem dX7_addLot_12 : decode cX7_addLot 12 = .ok (.putfield 31, 3) := by decide +kernel
theorem dX7_addLot_15 : decode cX7_addLot 15 = .ok (.aload_n 0, 1) := by decide +kernel
theorem dX7_addLot_16 : decode cX7_addLot 16 = .ok (.getfield 31, 3) := by decide +kernel
theorem dX7_addLot_19 : decode cX7_addLot 19 = .ok (.ifCond .le 5, 3) := by decide +kernel
theorem dX7_addLot_22 : decode cX7_addLot 22 = .ok (.iconst 0, 1) := by decide +kernel
theorem dX7_addLot_23 : decode cX7_addLot 23 = .ok (.ireturn, 1) := by decide +kernel
theorem dX7_addLot_24 : decode cX7_addLot 24 = .ok (.aload_n 0, 1) := by decide +kernel
theorem dX7_addLot_25 : decode cX7_addLot 25 = .ok (.invokevirtual 56, 3) := by decide +kernel
theorem dX7_addLot_28 : decode cX7_addLot 28 = .ok (.aload_n 0, 1) := by decide +kernel
theorem dX7_addLot_29 : decode cX7_addLot 29 = .ok (.iload_n 1, 1) := by decide +kernel
theorem dX7_addLot_30 : decode cX7_addLot 30 = .ok (.iload_n 2, 1) := by decide +kernel
theorem dX7_addLot_31 : decode cX7_addLot 31 = .ok (.iload_n 3, 1) := by decide +kernel
theorem dX7_addLot_32 : decode cX7_addLot 32 = .ok (.iload 4, 2) := by decide +kernel
theorem dX7_addLot_34 : decode cX7_addLot 34 = .ok (.iload 5, 2) := by decide +kernel
theorem dX7_addLot_36 : decode cX7_addLot 36 = .ok (.invokevirtual 74, 3) := by decide +kernel
theorem dX7_addLot_39 : decode cX7_addLot 39 = .ok (.ireturn, 1) := by decide +kernel
theorem dX7_addTank_0 : decode cX7_addTank 0 = .ok (.aload_n 0, 1) := by decide +kernel
theorem dX7_addTank_1 : decode cX7_addTank 1 = .ok (.iload_n 1, 1) := by decide +kernel
theorem dX7_addTank_2 : decode cX7_addTank 2 = .ok (.bipush 100, 2) := by decide +kernel
theorem dX7_addTank_4 : decode cX7_addTank 4 = .ok (.sipush 20000, 3) := by decide +kernel
theorem dX7_addTank_7 : decode cX7_addTank 7 = .ok (.invokestatic 38, 3) := by decide +kernel
theorem dX7_addTank_10 : decode cX7_addTank 10 = .ok (.ifCond .ne 7, 3) := by decide +kernel
theorem dX7_addTank_13 : decode cX7_addTank 13 = .ok (.iconst 1, 1) := by decide +kernel
theorem dX7_addTank_14 : decode cX7_addTank 14 = .ok (.goto 20, 3) := by decide +kernel
theorem dX7_addTank_17 : decode cX7_addTank 17 = .ok (.aload_n 0, 1) := by decide +kernel
theorem dX7_addTank_18 : decode cX7_addTank 18 = .ok (.getfield 7, 3) := by decide +kernel
theorem dX7_addTank_21 : decode cX7_addTank 21 = .ok (.bipush 9, 2) := by decide +kernel
theorem dX7_addTank_23 : decode cX7_addTank 23 = .ok (.iaload, 1) := by decide +kernel
theorem dX7_addTank_24 : decode cX7_addTank 24 = .ok (.bipush 6, 2) := by decide +kernel
theorem dX7_addTank_26 : decode cX7_addTank 26 = .ok (.if_icmp .ne 7, 3) := by decide +kernel
theorem dX7_addTank_29 : decode cX7_addTank 29 = .ok (.iconst 2, 1) := by decide +kernel
theorem dX7_addTank_30 : decode cX7_addTank 30 = .ok (.goto 4, 3) := by decide +kernel
theorem dX7_addTank_33 : decode cX7_addTank 33 = .ok (.iconst 0, 1) := by decide +kernel
theorem dX7_addTank_34 : decode cX7_addTank 34 = .ok (.putfield 31, 3) := by decide +kernel
theorem dX7_addTank_37 : decode cX7_addTank 37 = .ok (.aload_n 0, 1) := by decide +kernel
theorem dX7_addTank_38 : decode cX7_addTank 38 = .ok (.getfield 31, 3) := by decide +kernel
theorem dX7_addTank_41 : decode cX7_addTank 41 = .ok (.ifCond .le 5, 3) := by decide +kernel
theorem dX7_addTank_44 : decode cX7_addTank 44 = .ok (.iconst 0, 1) := by decide +kernel
theorem dX7_addTank_45 : decode cX7_addTank 45 = .ok (.ireturn, 1) := by decide +kernel
theorem dX7_addTank_46 : decode cX7_addTank 46 = .ok (.aload_n 0, 1) := by decide +kernel
theorem dX7_addTank_47 : decode cX7_addTank 47 = .ok (.invokevirtual 56, 3) := by decide +kernel
theorem dX7_addTank_50 : decode cX7_addTank 50 = .ok (.aload_n 0, 1) := by decide +kernel
theorem dX7_addTank_51 : decode cX7_addTank 51 = .ok (.getfield 7, 3) := by decide +kernel
theorem dX7_addTank_54 : decode cX7_addTank 54 = .ok (.sipush 472, 3) := by decide +kernel
theorem dX7_addTank_57 : decode cX7_addTank 57 = .ok (.bipush 7, 2) := by decide +kernel
theorem dX7_addTank_59 : decode cX7_addTank 59 = .ok (.aload_n 0, 1) := by decide +kernel
theorem dX7_addTank_60 : decode cX7_addTank 60 = .ok (.getfield 7, 3) := by decide +kernel
theorem dX7_addTank_63 : decode cX7_addTank 63 = .ok (.bipush 9, 2) := by decide +kernel
theorem dX7_addTank_65 : decode cX7_addTank 65 = .ok (.iaload, 1) := by decide +kernel
theorem dX7_addTank_66 : decode cX7_addTank 66 = .ok (.imul, 1) := by decide +kernel
theorem dX7_addTank_67 : decode cX7_addTank 67 = .ok (.iadd, 1) := by decide +kernel
theorem dX7_addTank_68 : decode cX7_addTank 68 = .ok (.iload_n 1, 1) := by decide +kernel
theorem dX7_addTank_69 : decode cX7_addTank 69 = .ok (.iastore, 1) := by decide +kernel
theorem dX7_addTank_70 : decode cX7_addTank 70 = .ok (.aload_n 0, 1) := by decide +kernel
theorem dX7_addTank_71 : decode cX7_addTank 71 = .ok (.getfield 7, 3) := by decide +kernel
theorem dX7_addTank_74 : decode cX7_addTank 74 = .ok (.bipush 9, 2) := by decide +kernel
theorem dX7_addTank_76 : decode cX7_addTank 76 = .ok (.dup2, 1) := by decide +kernel
theorem dX7_addTank_77 : decode cX7_addTank 77 = .ok (.iaload, 1) := by decide +kernel
theorem dX7_addTank_78 : decode cX7_addTank 78 = .ok (.iconst 1, 1) := by decide +kernel
theorem dX7_addTank_79 : decode cX7_addTank 79 = .ok (.iadd, 1) := by decide +kernel
theorem dX7_addTank_80 : decode cX7_addTank 80 = .ok (.iastore, 1) := by decide +kernel
theorem dX7_addTank_81 : decode cX7_addTank 81 = .ok (.aload_n 0, 1) := by decide +kernel
theorem dX7_addTank_82 : decode cX7_addTank 82 = .ok (.getfield 7, 3) := by decide +kernel
theorem dX7_addTank_85 : decode cX7_addTank 85 = .ok (.bipush 9, 2) := by decide +kernel
theorem dX7_addTank_87 : decode cX7_addTank 87 = .ok (.iaload, 1) := by decide +kernel
theorem dX7_addTank_88 : decode cX7_addTank 88 = .ok (.iconst 1, 1) := by decide +kernel
theorem dX7_addTank_89 : decode cX7_addTank 89 = .ok (.isub, 1) := by decide +kernel
theorem dX7_addTank_90 : decode cX7_addTank 90 = .ok (.ireturn, 1) := by decide +kernel
theorem dX7_setYield_0 : decode cX7_setYield 0 = .ok (.aload_n 0, 1) := by decide +kernel
theorem dX7_setYield_1 : decode cX7_setYield 1 = .ok (.iload_n 1, 1) := by decide +kernel
theorem dX7_setYield_2 : decode cX7_setYield 2 = .ok (.invokestatic 59, 3) := by decide +kernel
theorem dX7_setYield_5 : decode cX7_setYield 5 = .ok (.ifCond .ne 7, 3) := by decide +kernel
theorem dX7_setYield_8 : decode cX7_setYield 8 = .ok (.iconst 1, 1) := by decide +kernel
theorem dX7_setYield_9 : decode cX7_setYield 9 = .ok (.goto 20, 3) := by decide +kernel
theorem dX7_setYield_12 : decode cX7_setYield 12 = .ok (.iload_n 2, 1) := by decide +kernel
theorem dX7_setYield_13 : decode cX7_setYield 13 = .ok (.bipush 50, 2) := by decide +kernel
theorem dX7_setYield_15 : decode cX7_setYield 15 = .ok (.sipush 400, 3) := by decide +kernel
theorem dX7_setYield_18 : decode cX7_setYield 18 = .ok (.invokestatic 38, 3) := by decide +kernel
theorem dX7_setYield_21 : decode cX7_setYield 21 = .ok (.ifCond .eq 7, 3) := by decide +kernel
theorem dX7_setYield_24 : decode cX7_setYield 24 = .ok (.iconst 0, 1) := by decide +kernel
theorem dX7_setYield_25 : decode cX7_setYield 25 = .ok (.goto 4, 3) := by decide +kernel
theorem dX7_setYield_28 : decode cX7_setYield 28 = .ok (.iconst 2, 1) := by decide +kernel
theorem dX7_setYield_29 : decode cX7_setYield 29 = .ok (.putfield 31, 3) := by decide +kernel
theorem dX7_setYield_32 : decode cX7_setYield 32 = .ok (.aload_n 0, 1) := by decide +kernel
theorem dX7_setYield_33 : decode cX7_setYield 33 = .ok (.getfield 31, 3) := by decide +kernel
theorem dX7_setYield_36 : decode cX7_setYield 36 = .ok (.ifCond .le 5, 3) := by decide +kernel
theorem dX7_setYield_39 : decode cX7_setYield 39 = .ok (.iconst 0, 1) := by decide +kernel
theorem dX7_setYield_40 : decode cX7_setYield 40 = .ok (.ireturn, 1) := by decide +kernel
theorem dX7_setYield_41 : decode cX7_setYield 41 = .ok (.aload_n 0, 1) := by decide +kernel
theorem dX7_setYield_42 : decode cX7_setYield 42 = .ok (.invokevirtual 56, 3) := by decide +kernel
theorem dX7_setYield_45 : decode cX7_setYield 45 = .ok (.aload_n 0, 1) := by decide +kernel
theorem dX7_setYield_46 : decode cX7_setYield 46 = .ok (.getfield 7, 3) := by decide +kernel
theorem dX7_setYield_49 : decode cX7_setYield 49 = .ok (.bipush 15, 2) := by decide +kernel
theorem dX7_setYield_51 : decode cX7_setYield 51 = .ok (.iload_n 1, 1) := by decide +kernel
theorem dX7_setYield_52 : decode cX7_setYield 52 = .ok (.iadd, 1) := by decide +kernel
theorem dX7_setYield_53 : decode cX7_setYield 53 = .ok (.iaload, 1) := by decide +kernel
theorem dX7_setYield_54 : decode cX7_setYield 54 = .ok (.istore_n 3, 1) := by decide +kernel
theorem dX7_setYield_55 : decode cX7_setYield 55 = .ok (.aload_n 0, 1) := by decide +kernel
theorem dX7_setYield_56 : decode cX7_setYield 56 = .ok (.getfield 7, 3) := by decide +kernel
theorem dX7_setYield_59 : decode cX7_setYield 59 = .ok (.bipush 15, 2) := by decide +kernel
theorem dX7_setYield_61 : decode cX7_setYield 61 = .ok (.iload_n 1, 1) := by decide +kernel
theorem dX7_setYield_62 : decode cX7_setYield 62 = .ok (.iadd, 1) := by decide +kernel
theorem dX7_setYield_63 : decode cX7_setYield 63 = .ok (.iload_n 2, 1) := by decide +kernel
theorem dX7_setYield_64 : decode cX7_setYield 64 = .ok (.iastore, 1) := by decide +kernel
theorem dX7_setYield_65 : decode cX7_setYield 65 = .ok (.iload_n 3, 1) := by decide +kernel
theorem dX7_setYield_66 : decode cX7_setYield 66 = .ok (.ireturn, 1) := by decide +kernel
theorem dX7_isSetting_0 : decode cX7_isSetting 0 = .ok (.iload_n 0, 1) := by decide +kernel
theorem dX7_isSetting_1 : decode cX7_isSetting 1 = .ok (.iconst 0, 1) := by decide +kernel
theorem dX7_isSetting_2 : decode cX7_isSetting 2 = .ok (.bipush 6, 2) := by decide +kernel
theorem dX7_isSetting_4 : decode cX7_isSetting 4 = .ok (.invokestatic 38, 3) := by decide +kernel
theorem dX7_isSetting_7 : decode cX7_isSetting 7 = .ok (.ireturn, 1) := by decide +kernel
theorem dX7_isValue_0 : decode cX7_isValue 0 = .ok (.iload_n 0, 1) := by decide +kernel
theorem dX7_isValue_1 : decode cX7_isValue 1 = .ok (.tableswitch 74 0 5 #[39, 47, 58, 39, 74, 67], 39) := by decide +kernel
theorem dX7_isValue_40 : decode cX7_isValue 40 = .ok (.iload_n 1, 1) := by decide +kernel
theorem dX7_isValue_41 : decode cX7_isValue 41 = .ok (.iconst 0, 1) := by decide +kernel
theorem dX7_isValue_42 : decode cX7_isValue 42 = .ok (.bipush 50, 2) := by decide +kernel
theorem dX7_isValue_44 : decode cX7_isValue 44 = .ok (.invokestatic 38, 3) := by decide +kernel
theorem dX7_isValue_47 : decode cX7_isValue 47 = .ok (.ireturn, 1) := by decide +kernel
theorem dX7_isValue_48 : decode cX7_isValue 48 = .ok (.iload_n 1, 1) := by decide +kernel
theorem dX7_isValue_49 : decode cX7_isValue 49 = .ok (.sipush 500, 3) := by decide +kernel
theorem dX7_isValue_52 : decode cX7_isValue 52 = .ok (.sipush 1000, 3) := by decide +kernel
theorem dX7_isValue_55 : decode cX7_isValue 55 = .ok (.invokestatic 38, 3) := by decide +kernel
theorem dX7_isValue_58 : decode cX7_isValue 58 = .ok (.ireturn, 1) := by decide +kernel
theorem dX7_isValue_59 : decode cX7_isValue 59 = .ok (.iload_n 1, 1) := by decide +kernel
theorem dX7_isValue_60 : decode cX7_isValue 60 = .ok (.iconst 0, 1) := by decide +kernel
theorem dX7_isValue_61 : decode cX7_isValue 61 = .ok (.sipush 1000, 3) := by decide +kernel
theorem dX7_isValue_64 : decode cX7_isValue 64 = .ok (.invokestatic 38, 3) := by decide +kernel
theorem dX7_isValue_67 : decode cX7_isValue 67 = .ok (.ireturn, 1) := by decide +kernel
theorem dX7_isValue_68 : decode cX7_isValue 68 = .ok (.iload_n 1, 1) := by decide +kernel
theorem dX7_isValue_69 : decode cX7_isValue 69 = .ok (.iconst 0, 1) := by decide +kernel
theorem dX7_isValue_70 : decode cX7_isValue 70 = .ok (.iconst 2, 1) := by decide +kernel
theorem dX7_isValue_71 : decode cX7_isValue 71 = .ok (.invokestatic 38, 3) := by decide +kernel
theorem dX7_isValue_74 : decode cX7_isValue 74 = .ok (.ireturn, 1) := by decide +kernel
theorem dX7_isValue_75 : decode cX7_isValue 75 = .ok (.iload_n 1, 1) := by decide +kernel
theorem dX7_isValue_76 : decode cX7_isValue 76 = .ok (.iconst 0, 1) := by decide +kernel
theorem dX7_isValue_77 : decode cX7_isValue 77 = .ok (.sipush 500, 3) := by decide +kernel
theorem dX7_isValue_80 : decode cX7_isValue 80 = .ok (.invokestatic 38, 3) := by decide +kernel
theorem dX7_isValue_83 : decode cX7_isValue 83 = .ok (.ireturn, 1) := by decide +kernel
theorem dX7_set_0 : decode cX7_set 0 = .ok (.aload_n 0, 1) := by decide +kernel
theorem dX7_set_1 : decode cX7_set 1 = .ok (.iload_n 1, 1) := by decide +kernel
theorem dX7_set_2 : decode cX7_set 2 = .ok (.invokestatic 77, 3) := by decide +kernel
theorem dX7_set_5 : decode cX7_set 5 = .ok (.ifCond .ne 7, 3) := by decide +kernel
theorem dX7_set_8 : decode cX7_set 8 = .ok (.iconst 1, 1) := by decide +kernel
theorem dX7_set_9 : decode cX7_set 9 = .ok (.goto 16, 3) := by decide +kernel
theorem dX7_set_12 : decode cX7_set 12 = .ok (.iload_n 1, 1) := by decide +kernel
theorem dX7_set_13 : decode cX7_set 13 = .ok (.iload_n 2, 1) := by decide +kernel
theorem dX7_set_14 : decode cX7_set 14 = .ok (.invokestatic 80, 3) := by decide +kernel
theorem dX7_set_17 : decode cX7_set 17 = .ok (.ifCond .eq 7, 3) := by decide +kernel
theorem dX7_set_20 : decode cX7_set 20 = .ok (.iconst 0, 1) := by decide +kernel
theorem dX7_set_21 : decode cX7_set 21 = .ok (.goto 4, 3) := by decide +kernel
theorem dX7_set_24 : decode cX7_set 24 = .ok (.iconst 2, 1) := by decide +kernel
theorem dX7_set_25 : decode cX7_set 25 = .ok (.putfield 31, 3) := by decide +kernel
theorem dX7_set_28 : decode cX7_set 28 = .ok (.aload_n 0, 1) := by decide +kernel
theorem dX7_set_29 : decode cX7_set 29 = .ok (.getfield 31, 3) := by decide +kernel
theorem dX7_set_32 : decode cX7_set 32 = .ok (.ifCond .le 5, 3) := by decide +kernel
theorem dX7_set_35 : decode cX7_set 35 = .ok (.iconst 0, 1) := by decide +kernel
theorem dX7_set_36 : decode cX7_set 36 = .ok (.ireturn, 1) := by decide +kernel
theorem dX7_set_37 : decode cX7_set 37 = .ok (.aload_n 0, 1) := by decide +kernel
theorem dX7_set_38 : decode cX7_set 38 = .ok (.invokevirtual 56, 3) := by decide +kernel
theorem dX7_set_41 : decode cX7_set 41 = .ok (.aload_n 0, 1) := by decide +kernel
theorem dX7_set_42 : decode cX7_set 42 = .ok (.getfield 7, 3) := by decide +kernel
theorem dX7_set_45 : decode cX7_set 45 = .ok (.iconst 0, 1) := by decide +kernel
theorem dX7_set_46 : decode cX7_set 46 = .ok (.iload_n 1, 1) := by decide +kernel
theorem dX7_set_47 : decode cX7_set 47 = .ok (.iadd, 1) := by decide +kernel
theorem dX7_set_48 : decode cX7_set 48 = .ok (.iaload, 1) := by decide +kernel
theorem dX7_set_49 : decode cX7_set 49 = .ok (.istore_n 3, 1) := by decide +kernel
theorem dX7_set_50 : decode cX7_set 50 = .ok (.aload_n 0, 1) := by decide +kernel
theorem dX7_set_51 : decode cX7_set 51 = .ok (.getfield 7, 3) := by decide +kernel
theorem dX7_set_54 : decode cX7_set 54 = .ok (.iconst 0, 1) := by decide +kernel
theorem dX7_set_55 : decode cX7_set 55 = .ok (.iload_n 1, 1) := by decide +kernel
theorem dX7_set_56 : decode cX7_set 56 = .ok (.iadd, 1) := by decide +kernel
theorem dX7_set_57 : decode cX7_set 57 = .ok (.iload_n 2, 1) := by decide +kernel
theorem dX7_set_58 : decode cX7_set 58 = .ok (.iastore, 1) := by decide +kernel
theorem dX7_set_59 : decode cX7_set 59 = .ok (.iload_n 3, 1) := by decide +kernel
theorem dX7_set_60 : decode cX7_set 60 = .ok (.ireturn, 1) := by decide +kernel
theorem dX7_layMill_0 : decode cX7_layMill 0 = .ok (.iconst 0, 1) := by decide +kernel
theorem dX7_layMill_1 : decode cX7_layMill 1 = .ok (.istore_n 1, 1) := by decide +kernel
theorem dX7_layMill_2 : decode cX7_layMill 2 = .ok (.iload_n 1, 1) := by decide +kernel
theorem dX7_layMill_3 : decode cX7_layMill 3 = .ok (.aload_n 0, 1) := by decide +kernel
theorem dX7_layMill_4 : decode cX7_layMill 4 = .ok (.getfield 7, 3) := by decide +kernel
theorem dX7_layMill_7 : decode cX7_layMill 7 = .ok (.bipush 8, 2) := by decide +kernel
theorem dX7_layMill_9 : decode cX7_layMill 9 = .ok (.iaload, 1) := by decide +kernel
theorem dX7_layMill_10 : decode cX7_layMill 10 = .ok (.if_icmp .ge 29, 3) := by decide +kernel
theorem dX7_layMill_13 : decode cX7_layMill 13 = .ok (.aload_n 0, 1) := by decide +kernel
theorem dX7_layMill_14 : decode cX7_layMill 14 = .ok (.getfield 19, 3) := by decide +kernel
theorem dX7_layMill_17 : decode cX7_layMill 17 = .ok (.iload_n 1, 1) := by decide +kernel
theorem dX7_layMill_18 : decode cX7_layMill 18 = .ok (.aload_n 0, 1) := by decide +kernel
theorem dX7_layMill_19 : decode cX7_layMill 19 = .ok (.iload_n 1, 1) := by decide +kernel
theorem dX7_layMill_20 : decode cX7_layMill 20 = .ok (.iconst 5, 1) := by decide +kernel
theorem dX7_layMill_21 : decode cX7_layMill 21 = .ok (.invokevirtual 50, 3) := by decide +kernel
theorem dX7_layMill_24 : decode cX7_layMill 24 = .ok (.ifCond .ne 7, 3) := by decide +kernel
theorem dX7_layMill_27 : decode cX7_layMill 27 = .ok (.iconst 1, 1) := by decide +kernel
theorem dX7_layMill_28 : decode cX7_layMill 28 = .ok (.goto 4, 3) := by decide +kernel
theorem dX7_layMill_31 : decode cX7_layMill 31 = .ok (.iconst 0, 1) := by decide +kernel
theorem dX7_layMill_32 : decode cX7_layMill 32 = .ok (.iastore, 1) := by decide +kernel
theorem dX7_layMill_33 : decode cX7_layMill 33 = .ok (.iinc 1 1, 3) := by decide +kernel
theorem dX7_layMill_36 : decode cX7_layMill 36 = .ok (.goto (-34), 3) := by decide +kernel
theorem dX7_layMill_39 : decode cX7_layMill 39 = .ok (.aload_n 0, 1) := by decide +kernel
theorem dX7_layMill_40 : decode cX7_layMill 40 = .ok (.aload_n 0, 1) := by decide +kernel
theorem dX7_layMill_41 : decode cX7_layMill 41 = .ok (.getfield 7, 3) := by decide +kernel
theorem dX7_layMill_44 : decode cX7_layMill 44 = .ok (.bipush 10, 2) := by decide +kernel
theorem dX7_layMill_46 : decode cX7_layMill 46 = .ok (.iaload, 1) := by decide +kernel
theorem dX7_layMill_47 : decode cX7_layMill 47 = .ok (.putfield 84, 3) := by decide +kernel
theorem dX7_layMill_50 : decode cX7_layMill 50 = .ok (.aload_n 0, 1) := by decide +kernel
theorem dX7_layMill_51 : decode cX7_layMill 51 = .ok (.aload_n 0, 1) := by decide +kernel
theorem dX7_layMill_52 : decode cX7_layMill 52 = .ok (.getfield 7, 3) := by decide +kernel
theorem dX7_layMill_55 : decode cX7_layMill 55 = .ok (.bipush 11, 2) := by decide +kernel
theorem dX7_layMill_57 : decode cX7_layMill 57 = .ok (.iaload, 1) := by decide +kernel
theorem dX7_layMill_58 : decode cX7_layMill 58 = .ok (.putfield 87, 3) := by decide +kernel
theorem dX7_layMill_61 : decode cX7_layMill 61 = .ok (.return_, 1) := by decide +kernel
theorem dX7_firstWaiting_0 : decode cX7_firstWaiting 0 = .ok (.iconst 0, 1) := by decide +kernel
theorem dX7_firstWaiting_1 : decode cX7_firstWaiting 1 = .ok (.istore_n 2, 1) := by decide +kernel
theorem dX7_firstWaiting_2 : decode cX7_firstWaiting 2 = .ok (.iload_n 2, 1) := by decide +kernel
theorem dX7_firstWaiting_3 : decode cX7_firstWaiting 3 = .ok (.aload_n 0, 1) := by decide +kernel
theorem dX7_firstWaiting_4 : decode cX7_firstWaiting 4 = .ok (.getfield 7, 3) := by decide +kernel
theorem dX7_firstWaiting_7 : decode cX7_firstWaiting 7 = .ok (.bipush 8, 2) := by decide +kernel
theorem dX7_firstWaiting_9 : decode cX7_firstWaiting 9 = .ok (.iaload, 1) := by decide +kernel
theorem dX7_firstWaiting_10 : decode cX7_firstWaiting 10 = .ok (.if_icmp .ge 36, 3) := by decide +kernel
theorem dX7_firstWaiting_13 : decode cX7_firstWaiting 13 = .ok (.aload_n 0, 1) := by decide +kernel
theorem dX7_firstWaiting_14 : decode cX7_firstWaiting 14 = .ok (.getfield 19, 3) := by decide +kernel
theorem dX7_firstWaiting_17 : decode cX7_firstWaiting 17 = .ok (.iload_n 2, 1) := by decide +kernel
theorem dX7_firstWaiting_18 : decode cX7_firstWaiting 18 = .ok (.iaload, 1) := by decide +kernel
theorem dX7_firstWaiting_19 : decode cX7_firstWaiting 19 = .ok (.iconst 1, 1) := by decide +kernel
theorem dX7_firstWaiting_20 : decode cX7_firstWaiting 20 = .ok (.if_icmp .ne 20, 3) := by decide +kernel
theorem dX7_firstWaiting_23 : decode cX7_firstWaiting 23 = .ok (.iload_n 1, 1) := by decide +kernel
theorem dX7_firstWaiting_24 : decode cX7_firstWaiting 24 = .ok (.iconst (-1), 1) := by decide +kernel
theorem dX7_firstWaiting_25 : decode cX7_firstWaiting 25 = .ok (.if_icmp .eq 13, 3) := by decide +kernel
theorem dX7_firstWaiting_28 : decode cX7_firstWaiting 28 = .ok (.aload_n 0, 1) := by decide +kernel
theorem dX7_firstWaiting_29 : decode cX7_firstWaiting 29 = .ok (.iload_n 2, 1) := by decide +kernel
theorem dX7_firstWaiting_30 : decode cX7_firstWaiting 30 = .ok (.iconst 1, 1) := by decide +kernel
theorem dX7_firstWaiting_31 : decode cX7_firstWaiting 31 = .ok (.invokevirtual 50, 3) := by decide +kernel
theorem dX7_firstWaiting_34 : decode cX7_firstWaiting 34 = .ok (.iload_n 1, 1) := by decide +kernel
theorem dX7_firstWaiting_35 : decode cX7_firstWaiting 35 = .ok (.if_icmp .ne 5, 3) := by decide +kernel
theorem dX7_firstWaiting_38 : decode cX7_firstWaiting 38 = .ok (.iload_n 2, 1) := by decide +kernel
theorem dX7_firstWaiting_39 : decode cX7_firstWaiting 39 = .ok (.ireturn, 1) := by decide +kernel
theorem dX7_firstWaiting_40 : decode cX7_firstWaiting 40 = .ok (.iinc 2 1, 3) := by decide +kernel
theorem dX7_firstWaiting_43 : decode cX7_firstWaiting 43 = .ok (.goto (-41), 3) := by decide +kernel
theorem dX7_firstWaiting_46 : decode cX7_firstWaiting 46 = .ok (.iconst (-1), 1) := by decide +kernel
theorem dX7_firstWaiting_47 : decode cX7_firstWaiting 47 = .ok (.ireturn, 1) := by decide +kernel
theorem dX7_contentBy_0 : decode cX7_contentBy 0 = .ok (.iload_n 1, 1) := by decide +kernel
theorem dX7_contentBy_1 : decode cX7_contentBy 1 = .ok (.aload_n 0, 1) := by decide +kernel
theorem dX7_contentBy_2 : decode cX7_contentBy 2 = .ok (.iload_n 2, 1) := by decide +kernel
theorem dX7_contentBy_3 : decode cX7_contentBy 3 = .ok (.iconst 4, 1) := by decide +kernel
theorem dX7_contentBy_4 : decode cX7_contentBy 4 = .ok (.invokevirtual 50, 3) := by decide +kernel
theorem dX7_contentBy_7 : decode cX7_contentBy 7 = .ok (.imul, 1) := by decide +kernel
theorem dX7_contentBy_8 : decode cX7_contentBy 8 = .ok (.sipush 1000, 3) := by decide +kernel
theorem dX7_contentBy_11 : decode cX7_contentBy 11 = .ok (.idiv, 1) := by decide +kernel
theorem dX7_contentBy_12 : decode cX7_contentBy 12 = .ok (.ireturn, 1) := by decide +kernel
theorem dX7_layNext_0 : decode cX7_layNext 0 = .ok (.aload_n 0, 1) := by decide +kernel
theorem dX7_layNext_1 : decode cX7_layNext 1 = .ok (.iload_n 1, 1) := by decide +kernel
theorem dX7_layNext_2 : decode cX7_layNext 2 = .ok (.iconst 1, 1) := by decide +kernel
theorem dX7_layNext_3 : decode cX7_layNext 3 = .ok (.if_icmp .ne 22, 3) := by decide +kernel
theorem dX7_layNext_6 : decode cX7_layNext 6 = .ok (.aload_n 0, 1) := by decide +kernel
theorem dX7_layNext_7 : decode cX7_layNext 7 = .ok (.getfield 84, 3) := by decide +kernel
theorem dX7_layNext_10 : decode cX7_layNext 10 = .ok (.iconst (-1), 1) := by decide +kernel
theorem dX7_layNext_11 : decode cX7_layNext 11 = .ok (.if_icmp .eq 14, 3) := by decide +kernel
theorem dX7_layNext_14 : decode cX7_layNext 14 = .ok (.aload_n 0, 1) := by decide +kernel
theorem dX7_layNext_15 : decode cX7_layNext 15 = .ok (.aload_n 0, 1) := by decide +kernel
theorem dX7_layNext_16 : decode cX7_layNext 16 = .ok (.getfield 84, 3) := by decide +kernel
theorem dX7_layNext_19 : decode cX7_layNext 19 = .ok (.invokevirtual 90, 3) := by decide +kernel
theorem dX7_layNext_22 : decode cX7_layNext 22 = .ok (.goto 4, 3) := by decide +kernel
theorem dX7_layNext_25 : decode cX7_layNext 25 = .ok (.iconst (-1), 1) := by decide +kernel
theorem dX7_layNext_26 : decode cX7_layNext 26 = .ok (.putfield 93, 3) := by decide +kernel
theorem dX7_layNext_29 : decode cX7_layNext 29 = .ok (.aload_n 0, 1) := by decide +kernel
theorem dX7_layNext_30 : decode cX7_layNext 30 = .ok (.aload_n 0, 1) := by decide +kernel
theorem dX7_layNext_31 : decode cX7_layNext 31 = .ok (.getfield 93, 3) := by decide +kernel
theorem dX7_layNext_34 : decode cX7_layNext 34 = .ok (.iconst (-1), 1) := by decide +kernel
theorem dX7_layNext_35 : decode cX7_layNext 35 = .ok (.if_icmp .ne 11, 3) := by decide +kernel
theorem dX7_layNext_38 : decode cX7_layNext 38 = .ok (.aload_n 0, 1) := by decide +kernel
theorem dX7_layNext_39 : decode cX7_layNext 39 = .ok (.iconst (-1), 1) := by decide +kernel
theorem dX7_layNext_40 : decode cX7_layNext 40 = .ok (.invokevirtual 90, 3) := by decide +kernel
theorem dX7_layNext_43 : decode cX7_layNext 43 = .ok (.goto 7, 3) := by decide +kernel
theorem dX7_layNext_46 : decode cX7_layNext 46 = .ok (.aload_n 0, 1) := by decide +kernel
theorem dX7_layNext_47 : decode cX7_layNext 47 = .ok (.getfield 93, 3) := by decide +kernel
theorem dX7_layNext_50 : decode cX7_layNext 50 = .ok (.putfield 93, 3) := by decide +kernel
theorem dX7_layNext_53 : decode cX7_layNext 53 = .ok (.aload_n 0, 1) := by decide +kernel
theorem dX7_layNext_54 : decode cX7_layNext 54 = .ok (.getfield 93, 3) := by decide +kernel
theorem dX7_layNext_57 : decode cX7_layNext 57 = .ok (.iconst (-1), 1) := by decide +kernel
theorem dX7_layNext_58 : decode cX7_layNext 58 = .ok (.if_icmp .ne 5, 3) := by decide +kernel
theorem dX7_layNext_61 : decode cX7_layNext 61 = .ok (.iconst 0, 1) := by decide +kernel
theorem dX7_layNext_62 : decode cX7_layNext 62 = .ok (.ireturn, 1) := by decide +kernel
theorem dX7_layNext_63 : decode cX7_layNext 63 = .ok (.aload_n 0, 1) := by decide +kernel
theorem dX7_layNext_64 : decode cX7_layNext 64 = .ok (.aload_n 0, 1) := by decide +kernel
theorem dX7_layNext_65 : decode cX7_layNext 65 = .ok (.getfield 93, 3) := by decide +kernel
theorem dX7_layNext_68 : decode cX7_layNext 68 = .ok (.iconst 1, 1) := by decide +kernel
theorem dX7_layNext_69 : decode cX7_layNext 69 = .ok (.invokevirtual 50, 3) := by decide +kernel
theorem dX7_layNext_72 : decode cX7_layNext 72 = .ok (.istore_n 2, 1) := by decide +kernel
theorem dX7_layNext_73 : decode cX7_layNext 73 = .ok (.aload_n 0, 1) := by decide +kernel
theorem dX7_layNext_74 : decode cX7_layNext 74 = .ok (.aload_n 0, 1) := by decide +kernel
theorem dX7_layNext_75 : decode cX7_layNext 75 = .ok (.aload_n 0, 1) := by decide +kernel
theorem dX7_layNext_76 : decode cX7_layNext 76 = .ok (.getfield 93, 3) := by decide +kernel
theorem dX7_layNext_79 : decode cX7_layNext 79 = .ok (.iconst 2, 1) := by decide +kernel
theorem dX7_layNext_80 : decode cX7_layNext 80 = .ok (.invokevirtual 50, 3) := by decide +kernel
theorem dX7_layNext_83 : decode cX7_layNext 83 = .ok (.aload_n 0, 1) := by decide +kernel
theorem dX7_layNext_84 : decode cX7_layNext 84 = .ok (.getfield 7, 3) := by decide +kernel
theorem dX7_layNext_87 : decode cX7_layNext 87 = .ok (.bipush 15, 2) := by decide +kernel
theorem dX7_layNext_89 : decode cX7_layNext 89 = .ok (.iload_n 2, 1) := by decide +kernel
theorem dX7_layNext_90 : decode cX7_layNext 90 = .ok (.iadd, 1) := by decide +kernel
theorem dX7_layNext_91 : decode cX7_layNext 91 = .ok (.iaload, 1) := by decide +kernel
theorem dX7_layNext_92 : decode cX7_layNext 92 = .ok (.imul, 1) := by decide +kernel
theorem dX7_layNext_93 : decode cX7_layNext 93 = .ok (.bipush 100, 2) := by decide +kernel
theorem dX7_layNext_95 : decode cX7_layNext 95 = .ok (.idiv, 1) := by decide +kernel
theorem dX7_layNext_96 : decode cX7_layNext 96 = .ok (.putfield 96, 3) := by decide +kernel
theorem dX7_layNext_99 : decode cX7_layNext 99 = .ok (.aload_n 0, 1) := by decide +kernel
theorem dX7_layNext_100 : decode cX7_layNext 100 = .ok (.aload_n 0, 1) := by decide +kernel
theorem dX7_layNext_101 : decode cX7_layNext 101 = .ok (.aload_n 0, 1) := by decide +kernel
theorem dX7_layNext_102 : decode cX7_layNext 102 = .ok (.getfield 96, 3) := by decide +kernel
theorem dX7_layNext_105 : decode cX7_layNext 105 = .ok (.aload_n 0, 1) := by decide +kernel
theorem dX7_layNext_106 : decode cX7_layNext 106 = .ok (.getfield 93, 3) := by decide +kernel
theorem dX7_layNext_109 : decode cX7_layNext 109 = .ok (.invokevirtual 99, 3) := by decide +kernel
theorem dX7_layNext_112 : decode cX7_layNext 112 = .ok (.aload_n 0, 1) := by decide +kernel
theorem dX7_layNext_113 : decode cX7_layNext 113 = .ok (.getfield 7, 3) := by decide +kernel
theorem dX7_layNext_116 : decode cX7_layNext 116 = .ok (.iconst 1, 1) := by decide +kernel
theorem dX7_layNext_117 : decode cX7_layNext 117 = .ok (.iaload, 1) := by decide +kernel
theorem dX7_layNext_118 : decode cX7_layNext 118 = .ok (.imul, 1) := by decide +kernel
theorem dX7_layNext_119 : decode cX7_layNext 119 = .ok (.sipush 1000, 3) := by decide +kernel
theorem dX7_layNext_122 : decode cX7_layNext 122 = .ok (.idiv, 1) := by decide +kernel
theorem dX7_layNext_123 : decode cX7_layNext 123 = .ok (.putfield 102, 3) := by decide +kernel
theorem dX7_layNext_126 : decode cX7_layNext 126 = .ok (.aload_n 0, 1) := by decide +kernel
theorem dX7_layNext_127 : decode cX7_layNext 127 = .ok (.getfield 84, 3) := by decide +kernel
theorem dX7_layNext_130 : decode cX7_layNext 130 = .ok (.iconst (-1), 1) := by decide +kernel
theorem dX7_layNext_131 : decode cX7_layNext 131 = .ok (.if_icmp .eq 15, 3) := by decide +kernel
theorem dX7_layNext_134 : decode cX7_layNext 134 = .ok (.aload_n 0, 1) := by decide +kernel
theorem dX7_layNext_135 : decode cX7_layNext 135 = .ok (.getfield 84, 3) := by decide +kernel
theorem dX7_layNext_138 : decode cX7_layNext 138 = .ok (.iload_n 2, 1) := by decide +kernel
theorem dX7_layNext_139 : decode cX7_layNext 139 = .ok (.if_icmp .eq 7, 3) := by decide +kernel
theorem dX7_layNext_142 : decode cX7_layNext 142 = .ok (.iconst 1, 1) := by decide +kernel
theorem dX7_layNext_143 : decode cX7_layNext 143 = .ok (.goto 4, 3) := by decide +kernel
theorem dX7_layNext_146 : decode cX7_layNext 146 = .ok (.iconst 0, 1) := by decide +kernel
theorem dX7_layNext_147 : decode cX7_layNext 147 = .ok (.istore_n 3, 1) := by decide +kernel
theorem dX7_layNext_148 : decode cX7_layNext 148 = .ok (.aload_n 0, 1) := by decide +kernel
theorem dX7_layNext_149 : decode cX7_layNext 149 = .ok (.iload_n 3, 1) := by decide +kernel
theorem dX7_layNext_150 : decode cX7_layNext 150 = .ok (.ifCond .eq 15, 3) := by decide +kernel
theorem dX7_layNext_153 : decode cX7_layNext 153 = .ok (.iload_n 1, 1) := by decide +kernel
theorem dX7_layNext_154 : decode cX7_layNext 154 = .ok (.iconst 2, 1) := by decide +kernel
theorem dX7_layNext_155 : decode cX7_layNext 155 = .ok (.if_icmp .ge 10, 3) := by decide +kernel
theorem dX7_layNext_158 : decode cX7_layNext 158 = .ok (.aload_n 0, 1) := by decide +kernel
theorem dX7_layNext_159 : decode cX7_layNext 159 = .ok (.getfield 87, 3) := by decide +kernel
theorem dX7_layNext_162 : decode cX7_layNext 162 = .ok (.goto 4, 3) := by decide +kernel
theorem dX7_layNext_165 : decode cX7_layNext 165 = .ok (.iconst 0, 1) := by decide +kernel
theorem dX7_layNext_166 : decode cX7_layNext 166 = .ok (.putfield 105, 3) := by decide +kernel
theorem dX7_layNext_169 : decode cX7_layNext 169 = .ok (.aload_n 0, 1) := by decide +kernel
theorem dX7_layNext_170 : decode cX7_layNext 170 = .ok (.iload_n 3, 1) := by decide +kernel
theorem dX7_layNext_171 : decode cX7_layNext 171 = .ok (.ifCond .eq 15, 3) := by decide +kernel
theorem dX7_layNext_174 : decode cX7_layNext 174 = .ok (.iload_n 1, 1) := by decide +kernel
theorem dX7_layNext_175 : decode cX7_layNext 175 = .ok (.iconst 2, 1) := by decide +kernel
theorem dX7_layNext_176 : decode cX7_layNext 176 = .ok (.if_icmp .ne 10, 3) := by decide +kernel
theorem dX7_layNext_179 : decode cX7_layNext 179 = .ok (.aload_n 0, 1) := by decide +kernel
theorem dX7_layNext_180 : decode cX7_layNext 180 = .ok (.getfield 87, 3) := by decide +kernel
theorem dX7_layNext_183 : decode cX7_layNext 183 = .ok (.goto 4, 3) := by decide +kernel
theorem dX7_layNext_186 : decode cX7_layNext 186 = .ok (.iconst 0, 1) := by decide +kernel
theorem dX7_layNext_187 : decode cX7_layNext 187 = .ok (.putfield 108, 3) := by decide +kernel
theorem dX7_layNext_190 : decode cX7_layNext 190 = .ok (.aload_n 0, 1) := by decide +kernel
theorem dX7_layNext_191 : decode cX7_layNext 191 = .ok (.getfield 102, 3) := by decide +kernel
theorem dX7_layNext_194 : decode cX7_layNext 194 = .ok (.aload_n 0, 1) := by decide +kernel
theorem dX7_layNext_195 : decode cX7_layNext 195 = .ok (.getfield 84, 3) := by decide +kernel
theorem dX7_layNext_198 : decode cX7_layNext 198 = .ok (.iload_n 2, 1) := by decide +kernel
theorem dX7_layNext_199 : decode cX7_layNext 199 = .ok (.if_icmp .ne 10, 3) := by decide +kernel
theorem dX7_layNext_202 : decode cX7_layNext 202 = .ok (.aload_n 0, 1) := by decide +kernel
theorem dX7_layNext_203 : decode cX7_layNext 203 = .ok (.getfield 87, 3) := by decide +kernel
theorem dX7_layNext_206 : decode cX7_layNext 206 = .ok (.goto 4, 3) := by decide +kernel
theorem dX7_layNext_209 : decode cX7_layNext 209 = .ok (.iconst 0, 1) := by decide +kernel
theorem dX7_layNext_210 : decode cX7_layNext 210 = .ok (.iadd, 1) := by decide +kernel
theorem dX7_layNext_211 : decode cX7_layNext 211 = .ok (.istore 4, 2) := by decide +kernel
theorem dX7_layNext_213 : decode cX7_layNext 213 = .ok (.aload_n 0, 1) := by decide +kernel
theorem dX7_layNext_214 : decode cX7_layNext 214 = .ok (.iload 4, 2) := by decide +kernel
theorem dX7_layNext_216 : decode cX7_layNext 216 = .ok (.aload_n 0, 1) := by decide +kernel
theorem dX7_layNext_217 : decode cX7_layNext 217 = .ok (.getfield 7, 3) := by decide +kernel
theorem dX7_layNext_220 : decode cX7_layNext 220 = .ok (.iconst 0, 1) := by decide +kernel
theorem dX7_layNext_221 : decode cX7_layNext 221 = .ok (.iaload, 1) := by decide +kernel
theorem dX7_layNext_222 : decode cX7_layNext 222 = .ok (.if_icmp .ge 8, 3) := by decide +kernel
theorem dX7_layNext_225 : decode cX7_layNext 225 = .ok (.iload 4, 2) := by decide +kernel
theorem dX7_layNext_227 : decode cX7_layNext 227 = .ok (.goto 9, 3) := by decide +kernel
theorem dX7_layNext_230 : decode cX7_layNext 230 = .ok (.aload_n 0, 1) := by decide +kernel
theorem dX7_layNext_231 : decode cX7_layNext 231 = .ok (.getfield 7, 3) := by decide +kernel
theorem dX7_layNext_234 : decode cX7_layNext 234 = .ok (.iconst 0, 1) := by decide +kernel
theorem dX7_layNext_235 : decode cX7_layNext 235 = .ok (.iaload, 1) := by decide +kernel
theorem dX7_layNext_236 : decode cX7_layNext 236 = .ok (.putfield 111, 3) := by decide +kernel
theorem dX7_layNext_239 : decode cX7_layNext 239 = .ok (.aload_n 0, 1) := by decide +kernel
theorem dX7_layNext_240 : decode cX7_layNext 240 = .ok (.iload 4, 2) := by decide +kernel
theorem dX7_layNext_242 : decode cX7_layNext 242 = .ok (.aload_n 0, 1) := by decide +kernel
theorem dX7_layNext_243 : decode cX7_layNext 243 = .ok (.getfield 111, 3) := by decide +kernel
theorem dX7_layNext_246 : decode cX7_layNext 246 = .ok (.isub, 1) := by decide +kernel
theorem dX7_layNext_247 : decode cX7_layNext 247 = .ok (.putfield 114, 3) := by decide +kernel
theorem dX7_layNext_250 : decode cX7_layNext 250 = .ok (.iconst 1, 1) := by decide +kernel
theorem dX7_layNext_251 : decode cX7_layNext 251 = .ok (.ireturn, 1) := by decide +kernel
theorem dX7_layNextNow_0 : decode cX7_layNextNow 0 = .ok (.aload_n 0, 1) := by decide +kernel
theorem dX7_layNextNow_1 : decode cX7_layNextNow 1 = .ok (.invokevirtual 117, 3) := by decide +kernel
theorem dX7_layNextNow_4 : decode cX7_layNextNow 4 = .ok (.aload_n 0, 1) := by decide +kernel
theorem dX7_layNextNow_5 : decode cX7_layNextNow 5 = .ok (.aload_n 0, 1) := by decide +kernel
theorem dX7_layNextNow_6 : decode cX7_layNextNow 6 = .ok (.getfield 7, 3) := by decide +kernel
theorem dX7_layNextNow_9 : decode cX7_layNextNow 9 = .ok (.iconst 5, 1) := by decide +kernel
theorem dX7_layNextNow_10 : decode cX7_layNextNow 10 = .ok (.iaload, 1) := by decide +kernel
theorem dX7_layNextNow_11 : decode cX7_layNextNow 11 = .ok (.invokevirtual 120, 3) := by decide +kernel
theorem dX7_layNextNow_14 : decode cX7_layNextNow 14 = .ok (.ireturn, 1) := by decide +kernel
theorem dX7_reason_0 : decode cX7_reason 0 = .ok (.aload_n 0, 1) := by decide +kernel
theorem dX7_reason_1 : decode cX7_reason 1 = .ok (.invokevirtual 123, 3) := by decide +kernel
theorem dX7_reason_4 : decode cX7_reason 4 = .ok (.ifCond .ne 5, 3) := by decide +kernel
theorem dX7_reason_7 : decode cX7_reason 7 = .ok (.iconst 1, 1) := by decide +kernel
theorem dX7_reason_8 : decode cX7_reason 8 = .ok (.ireturn, 1) := by decide +kernel
theorem dX7_reason_9 : decode cX7_reason 9 = .ok (.aload_n 0, 1) := by decide +kernel
theorem dX7_reason_10 : decode cX7_reason 10 = .ok (.getfield 108, 3) := by decide +kernel
theorem dX7_reason_13 : decode cX7_reason 13 = .ok (.aload_n 0, 1) := by decide +kernel
theorem dX7_reason_14 : decode cX7_reason 14 = .ok (.getfield 114, 3) := by decide +kernel
theorem dX7_reason_17 : decode cX7_reason 17 = .ok (.iadd, 1) := by decide +kernel
theorem dX7_reason_18 : decode cX7_reason 18 = .ok (.istore_n 3, 1) := by decide +kernel
theorem dX7_reason_19 : decode cX7_reason 19 = .ok (.iload_n 3, 1) := by decide +kernel
theorem dX7_reason_20 : decode cX7_reason 20 = .ok (.aload_n 0, 1) := by decide +kernel
theorem dX7_reason_21 : decode cX7_reason 21 = .ok (.iload_n 1, 1) := by decide +kernel
theorem dX7_reason_22 : decode cX7_reason 22 = .ok (.invokevirtual 127, 3) := by decide +kernel
theorem dX7_reason_25 : decode cX7_reason 25 = .ok (.if_icmp .le 7, 3) := by decide +kernel
theorem dX7_reason_28 : decode cX7_reason 28 = .ok (.iconst 2, 1) := by decide +kernel
theorem dX7_reason_29 : decode cX7_reason 29 = .ok (.goto 29, 3) := by decide +kernel
theorem dX7_reason_32 : decode cX7_reason 32 = .ok (.iload_n 3, 1) := by decide +kernel
theorem dX7_reason_33 : decode cX7_reason 33 = .ok (.ifCond .le 24, 3) := by decide +kernel
theorem dX7_reason_36 : decode cX7_reason 36 = .ok (.aload_n 0, 1) := by decide +kernel
theorem dX7_reason_37 : decode cX7_reason 37 = .ok (.iload_n 1, 1) := by decide +kernel
theorem dX7_reason_38 : decode cX7_reason 38 = .ok (.aload_n 0, 1) := by decide +kernel
theorem dX7_reason_39 : decode cX7_reason 39 = .ok (.aload_n 0, 1) := by decide +kernel
theorem dX7_reason_40 : decode cX7_reason 40 = .ok (.getfield 93, 3) := by decide +kernel
theorem dX7_reason_43 : decode cX7_reason 43 = .ok (.invokevirtual 130, 3) := by decide +kernel
theorem dX7_reason_46 : decode cX7_reason 46 = .ok (.iload_n 2, 1) := by decide +kernel
theorem dX7_reason_47 : decode cX7_reason 47 = .ok (.invokevirtual 133, 3) := by decide +kernel
theorem dX7_reason_50 : decode cX7_reason 50 = .ok (.ifCond .ne 7, 3) := by decide +kernel
theorem dX7_reason_53 : decode cX7_reason 53 = .ok (.iconst 3, 1) := by decide +kernel
theorem dX7_reason_54 : decode cX7_reason 54 = .ok (.goto 4, 3) := by decide +kernel
theorem dX7_reason_57 : decode cX7_reason 57 = .ok (.iconst 0, 1) := by decide +kernel
theorem dX7_reason_58 : decode cX7_reason 58 = .ok (.ireturn, 1) := by decide +kernel
theorem dX7_cleanNow_0 : decode cX7_cleanNow 0 = .ok (.iload_n 1, 1) := by decide +kernel
theorem dX7_cleanNow_1 : decode cX7_cleanNow 1 = .ok (.ifCond .le 33, 3) := by decide +kernel
theorem dX7_cleanNow_4 : decode cX7_cleanNow 4 = .ok (.aload_n 0, 1) := by decide +kernel
theorem dX7_cleanNow_5 : decode cX7_cleanNow 5 = .ok (.getfield 7, 3) := by decide +kernel
theorem dX7_cleanNow_8 : decode cX7_cleanNow 8 = .ok (.bipush 35, 2) := by decide +kernel
theorem dX7_cleanNow_10 : decode cX7_cleanNow 10 = .ok (.aload_n 0, 1) := by decide +kernel
theorem dX7_cleanNow_11 : decode cX7_cleanNow 11 = .ok (.getfield 7, 3) := by decide +kernel
theorem dX7_cleanNow_14 : decode cX7_cleanNow 14 = .ok (.bipush 10, 2) := by decide +kernel
theorem dX7_cleanNow_16 : decode cX7_cleanNow 16 = .ok (.iaload, 1) := by decide +kernel
theorem dX7_cleanNow_17 : decode cX7_cleanNow 17 = .ok (.iadd, 1) := by decide +kernel
theorem dX7_cleanNow_18 : decode cX7_cleanNow 18 = .ok (.dup2, 1) := by decide +kernel
theorem dX7_cleanNow_19 : decode cX7_cleanNow 19 = .ok (.iaload, 1) := by decide +kernel
theorem dX7_cleanNow_20 : decode cX7_cleanNow 20 = .ok (.iload_n 1, 1) := by decide +kernel
theorem dX7_cleanNow_21 : decode cX7_cleanNow 21 = .ok (.iadd, 1) := by decide +kernel
theorem dX7_cleanNow_22 : decode cX7_cleanNow 22 = .ok (.iastore, 1) := by decide +kernel
theorem dX7_cleanNow_23 : decode cX7_cleanNow 23 = .ok (.aload_n 0, 1) := by decide +kernel
theorem dX7_cleanNow_24 : decode cX7_cleanNow 24 = .ok (.getfield 7, 3) := by decide +kernel
theorem dX7_cleanNow_27 : decode cX7_cleanNow 27 = .ok (.bipush 12, 2) := by decide +kernel
theorem dX7_cleanNow_29 : decode cX7_cleanNow 29 = .ok (.dup2, 1) := by decide +kernel
theorem dX7_cleanNow_30 : decode cX7_cleanNow 30 = .ok (.iaload, 1) := by decide +kernel
theorem dX7_cleanNow_31 : decode cX7_cleanNow 31 = .ok (.iconst 1, 1) := by decide +kernel
theorem dX7_cleanNow_32 : decode cX7_cleanNow 32 = .ok (.iadd, 1) := by decide +kernel
theorem dX7_cleanNow_33 : decode cX7_cleanNow 33 = .ok (.iastore, 1) := by decide +kernel
theorem dX7_cleanNow_34 : decode cX7_cleanNow 34 = .ok (.return_, 1) := by decide +kernel
theorem dX7_press_0 : decode cX7_press 0 = .ok (.aload_n 0, 1) := by decide +kernel
theorem dX7_press_1 : decode cX7_press 1 = .ok (.aload_n 0, 1) := by decide +kernel
theorem dX7_press_2 : decode cX7_press 2 = .ok (.iload_n 1, 1) := by decide +kernel
theorem dX7_press_3 : decode cX7_press 3 = .ok (.invokevirtual 137, 3) := by decide +kernel
theorem dX7_press_6 : decode cX7_press 6 = .ok (.ifCond .ne 7, 3) := by decide +kernel
theorem dX7_press_9 : decode cX7_press 9 = .ok (.iconst 1, 1) := by decide +kernel
theorem dX7_press_10 : decode cX7_press 10 = .ok (.goto 17, 3) := by decide +kernel
theorem dX7_press_13 : decode cX7_press 13 = .ok (.aload_n 0, 1) := by decide +kernel
theorem dX7_press_14 : decode cX7_press 14 = .ok (.iload_n 1, 1) := by decide +kernel
theorem dX7_press_15 : decode cX7_press 15 = .ok (.iload_n 2, 1) := by decide +kernel
theorem dX7_press_16 : decode cX7_press 16 = .ok (.invokevirtual 140, 3) := by decide +kernel
theorem dX7_press_19 : decode cX7_press 19 = .ok (.ifCond .ne 7, 3) := by decide +kernel
theorem dX7_press_22 : decode cX7_press 22 = .ok (.iconst 0, 1) := by decide +kernel
theorem dX7_press_23 : decode cX7_press 23 = .ok (.goto 4, 3) := by decide +kernel
theorem dX7_press_26 : decode cX7_press 26 = .ok (.iconst 2, 1) := by decide +kernel
theorem dX7_press_27 : decode cX7_press 27 = .ok (.putfield 31, 3) := by decide +kernel
theorem dX7_press_30 : decode cX7_press 30 = .ok (.aload_n 0, 1) := by decide +kernel
theorem dX7_press_31 : decode cX7_press 31 = .ok (.getfield 31, 3) := by decide +kernel
theorem dX7_press_34 : decode cX7_press 34 = .ok (.ifCond .le 5, 3) := by decide +kernel
theorem dX7_press_37 : decode cX7_press 37 = .ok (.iconst 0, 1) := by decide +kernel
theorem dX7_press_38 : decode cX7_press 38 = .ok (.ireturn, 1) := by decide +kernel
theorem dX7_press_39 : decode cX7_press 39 = .ok (.aload_n 0, 1) := by decide +kernel
theorem dX7_press_40 : decode cX7_press 40 = .ok (.invokevirtual 56, 3) := by decide +kernel
theorem dX7_press_43 : decode cX7_press 43 = .ok (.aload_n 0, 1) := by decide +kernel
theorem dX7_press_44 : decode cX7_press 44 = .ok (.aload_n 0, 1) := by decide +kernel
theorem dX7_press_45 : decode cX7_press 45 = .ok (.getfield 93, 3) := by decide +kernel
theorem dX7_press_48 : decode cX7_press 48 = .ok (.iconst 1, 1) := by decide +kernel
theorem dX7_press_49 : decode cX7_press 49 = .ok (.invokevirtual 50, 3) := by decide +kernel
theorem dX7_press_52 : decode cX7_press 52 = .ok (.istore_n 3, 1) := by decide +kernel
theorem dX7_press_53 : decode cX7_press 53 = .ok (.aload_n 0, 1) := by decide +kernel
theorem dX7_press_54 : decode cX7_press 54 = .ok (.aload_n 0, 1) := by decide +kernel
theorem dX7_press_55 : decode cX7_press 55 = .ok (.getfield 93, 3) := by decide +kernel
theorem dX7_press_58 : decode cX7_press 58 = .ok (.invokevirtual 130, 3) := by decide +kernel
theorem dX7_press_61 : decode cX7_press 61 = .ok (.istore 4, 2) := by decide +kernel
theorem dX7_press_63 : decode cX7_press 63 = .ok (.aload_n 0, 1) := by decide +kernel
theorem dX7_press_64 : decode cX7_press 64 = .ok (.aload_n 0, 1) := by decide +kernel
theorem dX7_press_65 : decode cX7_press 65 = .ok (.getfield 105, 3) := by decide +kernel
theorem dX7_press_68 : decode cX7_press 68 = .ok (.invokevirtual 144, 3) := by decide +kernel
theorem dX7_press_71 : decode cX7_press 71 = .ok (.aload_n 0, 1) := by decide +kernel
theorem dX7_press_72 : decode cX7_press 72 = .ok (.iload_n 1, 1) := by decide +kernel
theorem dX7_press_73 : decode cX7_press 73 = .ok (.aload_n 0, 1) := by decide +kernel
theorem dX7_press_74 : decode cX7_press 74 = .ok (.getfield 7, 3) := by decide +kernel
theorem dX7_press_77 : decode cX7_press 77 = .ok (.bipush 10, 2) := by decide +kernel
theorem dX7_press_79 : decode cX7_press 79 = .ok (.iaload, 1) := by decide +kernel
theorem dX7_press_80 : decode cX7_press 80 = .ok (.iconst (-1), 1) := by decide +kernel
theorem dX7_press_81 : decode cX7_press 81 = .ok (.if_icmp .ne 7, 3) := by decide +kernel
theorem dX7_press_84 : decode cX7_press 84 = .ok (.iconst 0, 1) := by decide +kernel
theorem dX7_press_85 : decode cX7_press 85 = .ok (.goto 10, 3) := by decide +kernel
theorem dX7_press_88 : decode cX7_press 88 = .ok (.aload_n 0, 1) := by decide +kernel
theorem dX7_press_89 : decode cX7_press 89 = .ok (.getfield 7, 3) := by decide +kernel
theorem dX7_press_92 : decode cX7_press 92 = .ok (.bipush 10, 2) := by decide +kernel
theorem dX7_press_94 : decode cX7_press 94 = .ok (.iaload, 1) := by decide +kernel
theorem dX7_press_95 : decode cX7_press 95 = .ok (.aload_n 0, 1) := by decide +kernel
theorem dX7_press_96 : decode cX7_press 96 = .ok (.getfield 108, 3) := by decide +kernel
theorem dX7_press_99 : decode cX7_press 99 = .ok (.iload 4, 2) := by decide +kernel
theorem dX7_press_101 : decode cX7_press 101 = .ok (.invokevirtual 148, 3) := by decide +kernel
theorem dX7_press_104 : decode cX7_press 104 = .ok (.aload_n 0, 1) := by decide +kernel
theorem dX7_press_105 : decode cX7_press 105 = .ok (.iload_n 1, 1) := by decide +kernel
theorem dX7_press_106 : decode cX7_press 106 = .ok (.iload_n 3, 1) := by decide +kernel
theorem dX7_press_107 : decode cX7_press 107 = .ok (.aload_n 0, 1) := by decide +kernel
theorem dX7_press_108 : decode cX7_press 108 = .ok (.getfield 114, 3) := by decide +kernel
theorem dX7_press_111 : decode cX7_press 111 = .ok (.iload 4, 2) := by decide +kernel
theorem dX7_press_113 : decode cX7_press 113 = .ok (.invokevirtual 148, 3) := by decide +kernel
theorem dX7_press_116 : decode cX7_press 116 = .ok (.aload_n 0, 1) := by decide +kernel
theorem dX7_press_117 : decode cX7_press 117 = .ok (.getfield 7, 3) := by decide +kernel
theorem dX7_press_120 : decode cX7_press 120 = .ok (.bipush 10, 2) := by decide +kernel
theorem dX7_press_122 : decode cX7_press 122 = .ok (.aload_n 0, 1) := by decide +kernel
theorem dX7_press_123 : decode cX7_press 123 = .ok (.getfield 111, 3) := by decide +kernel
theorem dX7_press_126 : decode cX7_press 126 = .ok (.ifCond .ne 7, 3) := by decide +kernel
theorem dX7_press_129 : decode cX7_press 129 = .ok (.iconst (-1), 1) := by decide +kernel
theorem dX7_press_130 : decode cX7_press 130 = .ok (.goto 4, 3) := by decide +kernel
theorem dX7_press_133 : decode cX7_press 133 = .ok (.iload_n 3, 1) := by decide +kernel
theorem dX7_press_134 : decode cX7_press 134 = .ok (.iastore, 1) := by decide +kernel
theorem dX7_press_135 : decode cX7_press 135 = .ok (.aload_n 0, 1) := by decide +kernel
theorem dX7_press_136 : decode cX7_press 136 = .ok (.getfield 7, 3) := by decide +kernel
theorem dX7_press_139 : decode cX7_press 139 = .ok (.bipush 11, 2) := by decide +kernel
theorem dX7_press_141 : decode cX7_press 141 = .ok (.aload_n 0, 1) := by decide +kernel
theorem dX7_press_142 : decode cX7_press 142 = .ok (.getfield 111, 3) := by decide +kernel
theorem dX7_press_145 : decode cX7_press 145 = .ok (.iastore, 1) := by decide +kernel
theorem dX7_press_146 : decode cX7_press 146 = .ok (.aload_n 0, 1) := by decide +kernel
theorem dX7_press_147 : decode cX7_press 147 = .ok (.getfield 7, 3) := by decide +kernel
theorem dX7_press_150 : decode cX7_press 150 = .ok (.bipush 40, 2) := by decide +kernel
theorem dX7_press_152 : decode cX7_press 152 = .ok (.aload_n 0, 1) := by decide +kernel
theorem dX7_press_153 : decode cX7_press 153 = .ok (.aload_n 0, 1) := by decide +kernel
theorem dX7_press_154 : decode cX7_press 154 = .ok (.getfield 93, 3) := by decide +kernel
theorem dX7_press_157 : decode cX7_press 157 = .ok (.iconst 0, 1) := by decide +kernel
theorem dX7_press_158 : decode cX7_press 158 = .ok (.invokevirtual 50, 3) := by decide +kernel
theorem dX7_press_161 : decode cX7_press 161 = .ok (.iadd, 1) := by decide +kernel
theorem dX7_press_162 : decode cX7_press 162 = .ok (.dup2, 1) := by decide +kernel
theorem dX7_press_163 : decode cX7_press 163 = .ok (.iaload, 1) := by decide +kernel
theorem dX7_press_164 : decode cX7_press 164 = .ok (.aload_n 0, 1) := by decide +kernel
theorem dX7_press_165 : decode cX7_press 165 = .ok (.getfield 102, 3) := by decide +kernel
theorem dX7_press_168 : decode cX7_press 168 = .ok (.iadd, 1) := by decide +kernel
theorem dX7_press_169 : decode cX7_press 169 = .ok (.iastore, 1) := by decide +kernel
theorem dX7_press_170 : decode cX7_press 170 = .ok (.aload_n 0, 1) := by decide +kernel
theorem dX7_press_171 : decode cX7_press 171 = .ok (.getfield 7, 3) := by decide +kernel
theorem dX7_press_174 : decode cX7_press 174 = .ok (.bipush 20, 2) := by decide +kernel
theorem dX7_press_176 : decode cX7_press 176 = .ok (.iload_n 3, 1) := by decide +kernel
theorem dX7_press_177 : decode cX7_press 177 = .ok (.iadd, 1) := by decide +kernel
theorem dX7_press_178 : decode cX7_press 178 = .ok (.dup2, 1) := by decide +kernel
theorem dX7_press_179 : decode cX7_press 179 = .ok (.iaload, 1) := by decide +kernel
theorem dX7_press_180 : decode cX7_press 180 = .ok (.aload_n 0, 1) := by decide +kernel
theorem dX7_press_181 : decode cX7_press 181 = .ok (.getfield 102, 3) := by decide +kernel
theorem dX7_press_184 : decode cX7_press 184 = .ok (.iadd, 1) := by decide +kernel
theorem dX7_press_185 : decode cX7_press 185 = .ok (.iastore, 1) := by decide +kernel
theorem dX7_press_186 : decode cX7_press 186 = .ok (.aload_n 0, 1) := by decide +kernel
theorem dX7_press_187 : decode cX7_press 187 = .ok (.aload_n 0, 1) := by decide +kernel
theorem dX7_press_188 : decode cX7_press 188 = .ok (.getfield 93, 3) := by decide +kernel
theorem dX7_press_191 : decode cX7_press 191 = .ok (.iconst 5, 1) := by decide +kernel
theorem dX7_press_192 : decode cX7_press 192 = .ok (.iconst 1, 1) := by decide +kernel
theorem dX7_press_193 : decode cX7_press 193 = .ok (.invokevirtual 66, 3) := by decide +kernel
theorem dX7_press_196 : decode cX7_press 196 = .ok (.aload_n 0, 1) := by decide +kernel
theorem dX7_press_197 : decode cX7_press 197 = .ok (.aload_n 0, 1) := by decide +kernel
theorem dX7_press_198 : decode cX7_press 198 = .ok (.getfield 93, 3) := by decide +kernel
theorem dX7_press_201 : decode cX7_press 201 = .ok (.bipush 6, 2) := by decide +kernel
theorem dX7_press_203 : decode cX7_press 203 = .ok (.aload_n 0, 1) := by decide +kernel
theorem dX7_press_204 : decode cX7_press 204 = .ok (.getfield 96, 3) := by decide +kernel
theorem dX7_press_207 : decode cX7_press 207 = .ok (.invokevirtual 66, 3) := by decide +kernel
theorem dX7_press_210 : decode cX7_press 210 = .ok (.aload_n 0, 1) := by decide +kernel
theorem dX7_press_211 : decode cX7_press 211 = .ok (.aload_n 0, 1) := by decide +kernel
theorem dX7_press_212 : decode cX7_press 212 = .ok (.getfield 93, 3) := by decide +kernel
theorem dX7_press_215 : decode cX7_press 215 = .ok (.bipush 7, 2) := by decide +kernel
theorem dX7_press_217 : decode cX7_press 217 = .ok (.aload_n 0, 1) := by decide +kernel
theorem dX7_press_218 : decode cX7_press 218 = .ok (.getfield 102, 3) := by decide +kernel
theorem dX7_press_221 : decode cX7_press 221 = .ok (.invokevirtual 66, 3) := by decide +kernel
theorem dX7_press_224 : decode cX7_press 224 = .ok (.aload_n 0, 1) := by decide +kernel
theorem dX7_press_225 : decode cX7_press 225 = .ok (.aload_n 0, 1) := by decide +kernel
theorem dX7_press_226 : decode cX7_press 226 = .ok (.getfield 93, 3) := by decide +kernel
theorem dX7_press_229 : decode cX7_press 229 = .ok (.bipush 9, 2) := by decide +kernel
theorem dX7_press_231 : decode cX7_press 231 = .ok (.iload_n 1, 1) := by decide +kernel
theorem dX7_press_232 : decode cX7_press 232 = .ok (.invokevirtual 66, 3) := by decide +kernel
theorem dX7_press_235 : decode cX7_press 235 = .ok (.aload_n 0, 1) := by decide +kernel
theorem dX7_press_236 : decode cX7_press 236 = .ok (.getfield 93, 3) := by decide +kernel
theorem dX7_press_239 : decode cX7_press 239 = .ok (.ireturn, 1) := by decide +kernel
theorem dX7_clean_0 : decode cX7_clean 0 = .ok (.aload_n 0, 1) := by decide +kernel
theorem dX7_clean_1 : decode cX7_clean 1 = .ok (.iconst 0, 1) := by decide +kernel
theorem dX7_clean_2 : decode cX7_clean 2 = .ok (.putfield 31, 3) := by decide +kernel
theorem dX7_clean_5 : decode cX7_clean 5 = .ok (.aload_n 0, 1) := by decide +kernel
theorem dX7_clean_6 : decode cX7_clean 6 = .ok (.invokevirtual 56, 3) := by decide +kernel
theorem dX7_clean_9 : decode cX7_clean 9 = .ok (.aload_n 0, 1) := by decide +kernel
theorem dX7_clean_10 : decode cX7_clean 10 = .ok (.getfield 7, 3) := by decide +kernel
theorem dX7_clean_13 : decode cX7_clean 13 = .ok (.bipush 11, 2) := by decide +kernel
theorem dX7_clean_15 : decode cX7_clean 15 = .ok (.iaload, 1) := by decide +kernel
theorem dX7_clean_16 : decode cX7_clean 16 = .ok (.istore_n 1, 1) := by decide +kernel
theorem dX7_clean_17 : decode cX7_clean 17 = .ok (.aload_n 0, 1) := by decide +kernel
theorem dX7_clean_18 : decode cX7_clean 18 = .ok (.iload_n 1, 1) := by decide +kernel
theorem dX7_clean_19 : decode cX7_clean 19 = .ok (.invokevirtual 144, 3) := by decide +kernel
theorem dX7_clean_22 : decode cX7_clean 22 = .ok (.aload_n 0, 1) := by decide +kernel
theorem dX7_clean_23 : decode cX7_clean 23 = .ok (.getfield 7, 3) := by decide +kernel
theorem dX7_clean_26 : decode cX7_clean 26 = .ok (.bipush 10, 2) := by decide +kernel
theorem dX7_clean_28 : decode cX7_clean 28 = .ok (.iconst (-1), 1) := by decide +kernel
theorem dX7_clean_29 : decode cX7_clean 29 = .ok (.iastore, 1) := by decide +kernel
theorem dX7_clean_30 : decode cX7_clean 30 = .ok (.aload_n 0, 1) := by decide +kernel
theorem dX7_clean_31 : decode cX7_clean 31 = .ok (.getfield 7, 3) := by decide +kernel
theorem dX7_clean_34 : decode cX7_clean 34 = .ok (.bipush 11, 2) := by decide +kernel
theorem dX7_clean_36 : decode cX7_clean 36 = .ok (.iconst 0, 1) := by decide +kernel
theorem dX7_clean_37 : decode cX7_clean 37 = .ok (.iastore, 1) := by decide +kernel
theorem dX7_clean_38 : decode cX7_clean 38 = .ok (.iload_n 1, 1) := by decide +kernel
theorem dX7_clean_39 : decode cX7_clean 39 = .ok (.ireturn, 1) := by decide +kernel
theorem dX7_secondOf_0 : decode cX7_secondOf 0 = .ok (.aload_n 0, 1) := by decide +kernel
theorem dX7_secondOf_1 : decode cX7_secondOf 1 = .ok (.aload_n 0, 1) := by decide +kernel
theorem dX7_secondOf_2 : decode cX7_secondOf 2 = .ok (.iload_n 1, 1) := by decide +kernel
theorem dX7_secondOf_3 : decode cX7_secondOf 3 = .ok (.bipush 6, 2) := by decide +kernel
theorem dX7_secondOf_5 : decode cX7_secondOf 5 = .ok (.invokevirtual 50, 3) := by decide +kernel
theorem dX7_secondOf_8 : decode cX7_secondOf 8 = .ok (.iload_n 1, 1) := by decide +kernel
theorem dX7_secondOf_9 : decode cX7_secondOf 9 = .ok (.invokevirtual 99, 3) := by decide +kernel
theorem dX7_secondOf_12 : decode cX7_secondOf 12 = .ok (.aload_n 0, 1) := by decide +kernel
theorem dX7_secondOf_13 : decode cX7_secondOf 13 = .ok (.iload_n 1, 1) := by decide +kernel
theorem dX7_secondOf_14 : decode cX7_secondOf 14 = .ok (.bipush 7, 2) := by decide +kernel
theorem dX7_secondOf_16 : decode cX7_secondOf 16 = .ok (.invokevirtual 50, 3) := by decide +kernel
theorem dX7_secondOf_19 : decode cX7_secondOf 19 = .ok (.isub, 1) := by decide +kernel
theorem dX7_secondOf_20 : decode cX7_secondOf 20 = .ok (.aload_n 0, 1) := by decide +kernel
theorem dX7_secondOf_21 : decode cX7_secondOf 21 = .ok (.getfield 7, 3) := by decide +kernel
theorem dX7_secondOf_24 : decode cX7_secondOf 24 = .ok (.iconst 2, 1) := by decide +kernel
theorem dX7_secondOf_25 : decode cX7_secondOf 25 = .ok (.iaload, 1) := by decide +kernel
theorem dX7_secondOf_26 : decode cX7_secondOf 26 = .ok (.imul, 1) := by decide +kernel
theorem dX7_secondOf_27 : decode cX7_secondOf 27 = .ok (.sipush 1000, 3) := by decide +kernel
theorem dX7_secondOf_30 : decode cX7_secondOf 30 = .ok (.idiv, 1) := by decide +kernel
theorem dX7_secondOf_31 : decode cX7_secondOf 31 = .ok (.ireturn, 1) := by decide +kernel
theorem dX7_whyNoAppeal_0 : decode cX7_whyNoAppeal 0 = .ok (.aload_n 0, 1) := by decide +kernel
theorem dX7_whyNoAppeal_1 : decode cX7_whyNoAppeal 1 = .ok (.iload_n 1, 1) := by decide +kernel
theorem dX7_whyNoAppeal_2 : decode cX7_whyNoAppeal 2 = .ok (.iconst 5, 1) := by decide +kernel
theorem dX7_whyNoAppeal_3 : decode cX7_whyNoAppeal 3 = .ok (.invokevirtual 50, 3) := by decide +kernel
theorem dX7_whyNoAppeal_6 : decode cX7_whyNoAppeal 6 = .ok (.iconst 1, 1) := by decide +kernel
theorem dX7_whyNoAppeal_7 : decode cX7_whyNoAppeal 7 = .ok (.if_icmp .eq 5, 3) := by decide +kernel
theorem dX7_whyNoAppeal_10 : decode cX7_whyNoAppeal 10 = .ok (.iconst 1, 1) := by decide +kernel
theorem dX7_whyNoAppeal_11 : decode cX7_whyNoAppeal 11 = .ok (.ireturn, 1) := by decide +kernel
theorem dX7_whyNoAppeal_12 : decode cX7_whyNoAppeal 12 = .ok (.aload_n 0, 1) := by decide +kernel
theorem dX7_whyNoAppeal_13 : decode cX7_whyNoAppeal 13 = .ok (.iload_n 1, 1) := by decide +kernel
theorem dX7_whyNoAppeal_14 : decode cX7_whyNoAppeal 14 = .ok (.bipush 6, 2) := by decide +kernel
theorem dX7_whyNoAppeal_16 : decode cX7_whyNoAppeal 16 = .ok (.invokevirtual 50, 3) := by decide +kernel
theorem dX7_whyNoAppeal_19 : decode cX7_whyNoAppeal 19 = .ok (.aload_n 0, 1) := by decide +kernel
theorem dX7_whyNoAppeal_20 : decode cX7_whyNoAppeal 20 = .ok (.getfield 7, 3) := by decide +kernel
theorem dX7_whyNoAppeal_23 : decode cX7_whyNoAppeal 23 = .ok (.iconst 1, 1) := by decide +kernel
theorem dX7_whyNoAppeal_24 : decode cX7_whyNoAppeal 24 = .ok (.iaload, 1) := by decide +kernel
theorem dX7_whyNoAppeal_25 : decode cX7_whyNoAppeal 25 = .ok (.imul, 1) := by decide +kernel
theorem dX7_whyNoAppeal_26 : decode cX7_whyNoAppeal 26 = .ok (.sipush 1000, 3) := by decide +kernel
theorem dX7_whyNoAppeal_29 : decode cX7_whyNoAppeal 29 = .ok (.idiv, 1) := by decide +kernel
theorem dX7_whyNoAppeal_30 : decode cX7_whyNoAppeal 30 = .ok (.sipush 1000, 3) := by decide +kernel
theorem dX7_whyNoAppeal_33 : decode cX7_whyNoAppeal 33 = .ok (.aload_n 0, 1) := by decide +kernel
theorem dX7_whyNoAppeal_34 : decode cX7_whyNoAppeal 34 = .ok (.getfield 7, 3) := by decide +kernel
theorem dX7_whyNoAppeal_37 : decode cX7_whyNoAppeal 37 = .ok (.bipush 6, 2) := by decide +kernel
theorem dX7_whyNoAppeal_39 : decode cX7_whyNoAppeal 39 = .ok (.iaload, 1) := by decide +kernel
theorem dX7_whyNoAppeal_40 : decode cX7_whyNoAppeal 40 = .ok (.isub, 1) := by decide +kernel
theorem dX7_whyNoAppeal_41 : decode cX7_whyNoAppeal 41 = .ok (.imul, 1) := by decide +kernel
theorem dX7_whyNoAppeal_42 : decode cX7_whyNoAppeal 42 = .ok (.sipush 1000, 3) := by decide +kernel
theorem dX7_whyNoAppeal_45 : decode cX7_whyNoAppeal 45 = .ok (.idiv, 1) := by decide +kernel
theorem dX7_whyNoAppeal_46 : decode cX7_whyNoAppeal 46 = .ok (.istore_n 2, 1) := by decide +kernel
theorem dX7_whyNoAppeal_47 : decode cX7_whyNoAppeal 47 = .ok (.aload_n 0, 1) := by decide +kernel
theorem dX7_whyNoAppeal_48 : decode cX7_whyNoAppeal 48 = .ok (.iload_n 1, 1) := by decide +kernel
theorem dX7_whyNoAppeal_49 : decode cX7_whyNoAppeal 49 = .ok (.bipush 7, 2) := by decide +kernel
theorem dX7_whyNoAppeal_51 : decode cX7_whyNoAppeal 51 = .ok (.invokevirtual 50, 3) := by decide +kernel
theorem dX7_whyNoAppeal_54 : decode cX7_whyNoAppeal 54 = .ok (.iload_n 2, 1) := by decide +kernel
theorem dX7_whyNoAppeal_55 : decode cX7_whyNoAppeal 55 = .ok (.if_icmp .lt 7, 3) := by decide +kernel
theorem dX7_whyNoAppeal_58 : decode cX7_whyNoAppeal 58 = .ok (.iconst 2, 1) := by decide +kernel
theorem dX7_whyNoAppeal_59 : decode cX7_whyNoAppeal 59 = .ok (.goto 27, 3) := by decide +kernel
theorem dX7_whyNoAppeal_62 : decode cX7_whyNoAppeal 62 = .ok (.aload_n 0, 1) := by decide +kernel
theorem dX7_whyNoAppeal_63 : decode cX7_whyNoAppeal 63 = .ok (.iload_n 1, 1) := by decide +kernel
theorem dX7_whyNoAppeal_64 : decode cX7_whyNoAppeal 64 = .ok (.invokevirtual 152, 3) := by decide +kernel
theorem dX7_whyNoAppeal_67 : decode cX7_whyNoAppeal 67 = .ok (.aload_n 0, 1) := by decide +kernel
theorem dX7_whyNoAppeal_68 : decode cX7_whyNoAppeal 68 = .ok (.aload_n 0, 1) := by decide +kernel
theorem dX7_whyNoAppeal_69 : decode cX7_whyNoAppeal 69 = .ok (.iload_n 1, 1) := by decide +kernel
theorem dX7_whyNoAppeal_70 : decode cX7_whyNoAppeal 70 = .ok (.bipush 9, 2) := by decide +kernel
theorem dX7_whyNoAppeal_72 : decode cX7_whyNoAppeal 72 = .ok (.invokevirtual 50, 3) := by decide +kernel
theorem dX7_whyNoAppeal_75 : decode cX7_whyNoAppeal 75 = .ok (.invokevirtual 127, 3) := by decide +kernel
theorem dX7_whyNoAppeal_78 : decode cX7_whyNoAppeal 78 = .ok (.if_icmp .le 7, 3) := by decide +kernel
theorem dX7_whyNoAppeal_81 : decode cX7_whyNoAppeal 81 = .ok (.iconst 3, 1) := by decide +kernel
theorem dX7_whyNoAppeal_82 : decode cX7_whyNoAppeal 82 = .ok (.goto 4, 3) := by decide +kernel
theorem dX7_whyNoAppeal_85 : decode cX7_whyNoAppeal 85 = .ok (.iconst 0, 1) := by decide +kernel
theorem dX7_whyNoAppeal_86 : decode cX7_whyNoAppeal 86 = .ok (.ireturn, 1) := by decide +kernel
theorem dX7_appeal_0 : decode cX7_appeal 0 = .ok (.aload_n 0, 1) := by decide +kernel
theorem dX7_appeal_1 : decode cX7_appeal 1 = .ok (.aload_n 0, 1) := by decide +kernel
theorem dX7_appeal_2 : decode cX7_appeal 2 = .ok (.iload_n 1, 1) := by decide +kernel
theorem dX7_appeal_3 : decode cX7_appeal 3 = .ok (.invokevirtual 155, 3) := by decide +kernel
theorem dX7_appeal_6 : decode cX7_appeal 6 = .ok (.ifCond .ne 7, 3) := by decide +kernel
theorem dX7_appeal_9 : decode cX7_appeal 9 = .ok (.iconst 1, 1) := by decide +kernel
theorem dX7_appeal_10 : decode cX7_appeal 10 = .ok (.goto 16, 3) := by decide +kernel
theorem dX7_appeal_13 : decode cX7_appeal 13 = .ok (.aload_n 0, 1) := by decide +kernel
theorem dX7_appeal_14 : decode cX7_appeal 14 = .ok (.iload_n 1, 1) := by decide +kernel
theorem dX7_appeal_15 : decode cX7_appeal 15 = .ok (.invokevirtual 158, 3) := by decide +kernel
theorem dX7_appeal_18 : decode cX7_appeal 18 = .ok (.ifCond .ne 7, 3) := by decide +kernel
theorem dX7_appeal_21 : decode cX7_appeal 21 = .ok (.iconst 0, 1) := by decide +kernel
theorem dX7_appeal_22 : decode cX7_appeal 22 = .ok (.goto 4, 3) := by decide +kernel
theorem dX7_appeal_25 : decode cX7_appeal 25 = .ok (.iconst 2, 1) := by decide +kernel
theorem dX7_appeal_26 : decode cX7_appeal 26 = .ok (.putfield 31, 3) := by decide +kernel
theorem dX7_appeal_29 : decode cX7_appeal 29 = .ok (.aload_n 0, 1) := by decide +kernel
theorem dX7_appeal_30 : decode cX7_appeal 30 = .ok (.getfield 31, 3) := by decide +kernel
theorem dX7_appeal_33 : decode cX7_appeal 33 = .ok (.ifCond .le 5, 3) := by decide +kernel
theorem dX7_appeal_36 : decode cX7_appeal 36 = .ok (.iconst 0, 1) := by decide +kernel
theorem dX7_appeal_37 : decode cX7_appeal 37 = .ok (.ireturn, 1) := by decide +kernel
theorem dX7_appeal_38 : decode cX7_appeal 38 = .ok (.aload_n 0, 1) := by decide +kernel
theorem dX7_appeal_39 : decode cX7_appeal 39 = .ok (.invokevirtual 56, 3) := by decide +kernel
theorem dX7_appeal_42 : decode cX7_appeal 42 = .ok (.aload_n 0, 1) := by decide +kernel
theorem dX7_appeal_43 : decode cX7_appeal 43 = .ok (.iload_n 1, 1) := by decide +kernel
theorem dX7_appeal_44 : decode cX7_appeal 44 = .ok (.invokevirtual 152, 3) := by decide +kernel
theorem dX7_appeal_47 : decode cX7_appeal 47 = .ok (.istore_n 2, 1) := by decide +kernel
theorem dX7_appeal_48 : decode cX7_appeal 48 = .ok (.aload_n 0, 1) := by decide +kernel
theorem dX7_appeal_49 : decode cX7_appeal 49 = .ok (.iload_n 1, 1) := by decide +kernel
theorem dX7_appeal_50 : decode cX7_appeal 50 = .ok (.iconst 0, 1) := by decide +kernel
theorem dX7_appeal_51 : decode cX7_appeal 51 = .ok (.invokevirtual 50, 3) := by decide +kernel
theorem dX7_appeal_54 : decode cX7_appeal 54 = .ok (.istore_n 3, 1) := by decide +kernel
theorem dX7_appeal_55 : decode cX7_appeal 55 = .ok (.aload_n 0, 1) := by decide +kernel
theorem dX7_appeal_56 : decode cX7_appeal 56 = .ok (.aload_n 0, 1) := by decide +kernel
theorem dX7_appeal_57 : decode cX7_appeal 57 = .ok (.iload_n 1, 1) := by decide +kernel
theorem dX7_appeal_58 : decode cX7_appeal 58 = .ok (.bipush 9, 2) := by decide +kernel
theorem dX7_appeal_60 : decode cX7_appeal 60 = .ok (.invokevirtual 50, 3) := by decide +kernel
theorem dX7_appeal_63 : decode cX7_appeal 63 = .ok (.aload_n 0, 1) := by decide +kernel
theorem dX7_appeal_64 : decode cX7_appeal 64 = .ok (.iload_n 1, 1) := by decide +kernel
theorem dX7_appeal_65 : decode cX7_appeal 65 = .ok (.iconst 1, 1) := by decide +kernel
theorem dX7_appeal_66 : decode cX7_appeal 66 = .ok (.invokevirtual 50, 3) := by decide +kernel
theorem dX7_appeal_69 : decode cX7_appeal 69 = .ok (.iload_n 2, 1) := by decide +kernel
theorem dX7_appeal_70 : decode cX7_appeal 70 = .ok (.aload_n 0, 1) := by decide +kernel
theorem dX7_appeal_71 : decode cX7_appeal 71 = .ok (.iload_n 1, 1) := by decide +kernel
theorem dX7_appeal_72 : decode cX7_appeal 72 = .ok (.invokevirtual 130, 3) := by decide +kernel
theorem dX7_appeal_75 : decode cX7_appeal 75 = .ok (.invokevirtual 148, 3) := by decide +kernel
theorem dX7_appeal_78 : decode cX7_appeal 78 = .ok (.aload_n 0, 1) := by decide +kernel
theorem dX7_appeal_79 : decode cX7_appeal 79 = .ok (.getfield 7, 3) := by decide +kernel
theorem dX7_appeal_82 : decode cX7_appeal 82 = .ok (.bipush 40, 2) := by decide +kernel
theorem dX7_appeal_84 : decode cX7_appeal 84 = .ok (.iload_n 3, 1) := by decide +kernel
theorem dX7_appeal_85 : decode cX7_appeal 85 = .ok (.iadd, 1) := by decide +kernel
theorem dX7_appeal_86 : decode cX7_appeal 86 = .ok (.dup2, 1) := by decide +kernel
theorem dX7_appeal_87 : decode cX7_appeal 87 = .ok (.iaload, 1) := by decide +kernel
theorem dX7_appeal_88 : decode cX7_appeal 88 = .ok (.iload_n 2, 1) := by decide +kernel
theorem dX7_appeal_89 : decode cX7_appeal 89 = .ok (.iadd, 1) := by decide +kernel
theorem dX7_appeal_90 : decode cX7_appeal 90 = .ok (.iastore, 1) := by decide +kernel
theorem dX7_appeal_91 : decode cX7_appeal 91 = .ok (.aload_n 0, 1) := by decide +kernel
theorem dX7_appeal_92 : decode cX7_appeal 92 = .ok (.getfield 7, 3) := by decide +kernel
theorem dX7_appeal_95 : decode cX7_appeal 95 = .ok (.bipush 20, 2) := by decide +kernel
theorem dX7_appeal_97 : decode cX7_appeal 97 = .ok (.aload_n 0, 1) := by decide +kernel
theorem dX7_appeal_98 : decode cX7_appeal 98 = .ok (.iload_n 1, 1) := by decide +kernel
theorem dX7_appeal_99 : decode cX7_appeal 99 = .ok (.iconst 1, 1) := by decide +kernel
theorem dX7_appeal_100 : decode cX7_appeal 100 = .ok (.invokevirtual 50, 3) := by decide +kernel
theorem dX7_appeal_103 : decode cX7_appeal 103 = .ok (.iadd, 1) := by decide +kernel
theorem dX7_appeal_104 : decode cX7_appeal 104 = .ok (.dup2, 1) := by decide +kernel
theorem dX7_appeal_105 : decode cX7_appeal 105 = .ok (.iaload, 1) := by decide +kernel
theorem dX7_appeal_106 : decode cX7_appeal 106 = .ok (.iload_n 2, 1) := by decide +kernel
theorem dX7_appeal_107 : decode cX7_appeal 107 = .ok (.iadd, 1) := by decide +kernel
theorem dX7_appeal_108 : decode cX7_appeal 108 = .ok (.iastore, 1) := by decide +kernel
theorem dX7_appeal_109 : decode cX7_appeal 109 = .ok (.aload_n 0, 1) := by decide +kernel
theorem dX7_appeal_110 : decode cX7_appeal 110 = .ok (.getfield 7, 3) := by decide +kernel
theorem dX7_appeal_113 : decode cX7_appeal 113 = .ok (.bipush 14, 2) := by decide +kernel
theorem dX7_appeal_115 : decode cX7_appeal 115 = .ok (.dup2, 1) := by decide +kernel
theorem dX7_appeal_116 : decode cX7_appeal 116 = .ok (.iaload, 1) := by decide +kernel
theorem dX7_appeal_117 : decode cX7_appeal 117 = .ok (.iconst 1, 1) := by decide +kernel
theorem dX7_appeal_118 : decode cX7_appeal 118 = .ok (.iadd, 1) := by decide +kernel
theorem dX7_appeal_119 : decode cX7_appeal 119 = .ok (.iastore, 1) := by decide +kernel
theorem dX7_appeal_120 : decode cX7_appeal 120 = .ok (.aload_n 0, 1) := by decide +kernel
theorem dX7_appeal_121 : decode cX7_appeal 121 = .ok (.getfield 7, 3) := by decide +kernel
theorem dX7_appeal_124 : decode cX7_appeal 124 = .ok (.bipush 56, 2) := by decide +kernel
theorem dX7_appeal_126 : decode cX7_appeal 126 = .ok (.iload_n 3, 1) := by decide +kernel
theorem dX7_appeal_127 : decode cX7_appeal 127 = .ok (.iadd, 1) := by decide +kernel
theorem dX7_appeal_128 : decode cX7_appeal 128 = .ok (.dup2, 1) := by decide +kernel
theorem dX7_appeal_129 : decode cX7_appeal 129 = .ok (.iaload, 1) := by decide +kernel
theorem dX7_appeal_130 : decode cX7_appeal 130 = .ok (.iconst 1, 1) := by decide +kernel
theorem dX7_appeal_131 : decode cX7_appeal 131 = .ok (.iadd, 1) := by decide +kernel
theorem dX7_appeal_132 : decode cX7_appeal 132 = .ok (.iastore, 1) := by decide +kernel
theorem dX7_appeal_133 : decode cX7_appeal 133 = .ok (.iload_n 2, 1) := by decide +kernel
theorem dX7_appeal_134 : decode cX7_appeal 134 = .ok (.aload_n 0, 1) := by decide +kernel
theorem dX7_appeal_135 : decode cX7_appeal 135 = .ok (.getfield 7, 3) := by decide +kernel
theorem dX7_appeal_138 : decode cX7_appeal 138 = .ok (.iconst 4, 1) := by decide +kernel
theorem dX7_appeal_139 : decode cX7_appeal 139 = .ok (.iaload, 1) := by decide +kernel
theorem dX7_appeal_140 : decode cX7_appeal 140 = .ok (.if_icmp .ge 54, 3) := by decide +kernel
theorem dX7_appeal_143 : decode cX7_appeal 143 = .ok (.aload_n 0, 1) := by decide +kernel
theorem dX7_appeal_144 : decode cX7_appeal 144 = .ok (.getfield 7, 3) := by decide +kernel
theorem dX7_appeal_147 : decode cX7_appeal 147 = .ok (.bipush 40, 2) := by decide +kernel
theorem dX7_appeal_149 : decode cX7_appeal 149 = .ok (.iload_n 3, 1) := by decide +kernel
theorem dX7_appeal_150 : decode cX7_appeal 150 = .ok (.iadd, 1) := by decide +kernel
theorem dX7_appeal_151 : decode cX7_appeal 151 = .ok (.iaload, 1) := by decide +kernel
theorem dX7_appeal_152 : decode cX7_appeal 152 = .ok (.aload_n 0, 1) := by decide +kernel
theorem dX7_appeal_153 : decode cX7_appeal 153 = .ok (.getfield 7, 3) := by decide +kernel
theorem dX7_appeal_156 : decode cX7_appeal 156 = .ok (.iconst 4, 1) := by decide +kernel
theorem dX7_appeal_157 : decode cX7_appeal 157 = .ok (.iaload, 1) := by decide +kernel
theorem dX7_appeal_158 : decode cX7_appeal 158 = .ok (.isub, 1) := by decide +kernel
theorem dX7_appeal_159 : decode cX7_appeal 159 = .ok (.istore 4, 2) := by decide +kernel
theorem dX7_appeal_161 : decode cX7_appeal 161 = .ok (.aload_n 0, 1) := by decide +kernel
theorem dX7_appeal_162 : decode cX7_appeal 162 = .ok (.getfield 7, 3) := by decide +kernel
theorem dX7_appeal_165 : decode cX7_appeal 165 = .ok (.bipush 40, 2) := by decide +kernel
theorem dX7_appeal_167 : decode cX7_appeal 167 = .ok (.iload_n 3, 1) := by decide +kernel
theorem dX7_appeal_168 : decode cX7_appeal 168 = .ok (.iadd, 1) := by decide +kernel
theorem dX7_appeal_169 : decode cX7_appeal 169 = .ok (.iload 4, 2) := by decide +kernel
theorem dX7_appeal_171 : decode cX7_appeal 171 = .ok (.ifCond .ge 7, 3) := by decide +kernel
theorem dX7_appeal_174 : decode cX7_appeal 174 = .ok (.iconst 0, 1) := by decide +kernel
theorem dX7_appeal_175 : decode cX7_appeal 175 = .ok (.goto 5, 3) := by decide +kernel
theorem dX7_appeal_178 : decode cX7_appeal 178 = .ok (.iload 4, 2) := by decide +kernel
theorem dX7_appeal_180 : decode cX7_appeal 180 = .ok (.iastore, 1) := by decide +kernel
theorem dX7_appeal_181 : decode cX7_appeal 181 = .ok (.aload_n 0, 1) := by decide +kernel
theorem dX7_appeal_182 : decode cX7_appeal 182 = .ok (.getfield 7, 3) := by decide +kernel
theorem dX7_appeal_185 : decode cX7_appeal 185 = .ok (.bipush 64, 2) := by decide +kernel
theorem dX7_appeal_187 : decode cX7_appeal 187 = .ok (.iload_n 3, 1) := by decide +kernel
theorem dX7_appeal_188 : decode cX7_appeal 188 = .ok (.iadd, 1) := by decide +kernel
theorem dX7_appeal_189 : decode cX7_appeal 189 = .ok (.dup2, 1) := by decide +kernel
theorem dX7_appeal_190 : decode cX7_appeal 190 = .ok (.iaload, 1) := by decide +kernel
theorem dX7_appeal_191 : decode cX7_appeal 191 = .ok (.iconst 1, 1) := by decide +kernel
theorem dX7_appeal_192 : decode cX7_appeal 192 = .ok (.iadd, 1) := by decide +kernel
theorem dX7_appeal_193 : decode cX7_appeal 193 = .ok (.iastore, 1) := by decide +kernel
theorem dX7_appeal_194 : decode cX7_appeal 194 = .ok (.aload_n 0, 1) := by decide +kernel
theorem dX7_appeal_195 : decode cX7_appeal 195 = .ok (.iload_n 1, 1) := by decide +kernel
theorem dX7_appeal_196 : decode cX7_appeal 196 = .ok (.iconst 5, 1) := by decide +kernel
theorem dX7_appeal_197 : decode cX7_appeal 197 = .ok (.iconst 2, 1) := by decide +kernel
theorem dX7_appeal_198 : decode cX7_appeal 198 = .ok (.invokevirtual 66, 3) := by decide +kernel
theorem dX7_appeal_201 : decode cX7_appeal 201 = .ok (.aload_n 0, 1) := by decide +kernel
theorem dX7_appeal_202 : decode cX7_appeal 202 = .ok (.iload_n 1, 1) := by decide +kernel
theorem dX7_appeal_203 : decode cX7_appeal 203 = .ok (.bipush 8, 2) := by decide +kernel
theorem dX7_appeal_205 : decode cX7_appeal 205 = .ok (.iload_n 2, 1) := by decide +kernel
theorem dX7_appeal_206 : decode cX7_appeal 206 = .ok (.invokevirtual 66, 3) := by decide +kernel
theorem dX7_appeal_209 : decode cX7_appeal 209 = .ok (.iload_n 2, 1) := by decide +kernel
theorem dX7_appeal_210 : decode cX7_appeal 210 = .ok (.ireturn, 1) := by decide +kernel
theorem dX7_layShares_0 : decode cX7_layShares 0 = .ok (.aload_n 0, 1) := by decide +kernel
theorem dX7_layShares_1 : decode cX7_layShares 1 = .ok (.iload_n 1, 1) := by decide +kernel
theorem dX7_layShares_2 : decode cX7_layShares 2 = .ok (.invokevirtual 46, 3) := by decide +kernel
theorem dX7_layShares_5 : decode cX7_layShares 5 = .ok (.istore_n 3, 1) := by decide +kernel
theorem dX7_layShares_6 : decode cX7_layShares 6 = .ok (.iload_n 2, 1) := by decide +kernel
theorem dX7_layShares_7 : decode cX7_layShares 7 = .ok (.istore 4, 2) := by decide +kernel
theorem dX7_layShares_9 : decode cX7_layShares 9 = .ok (.iconst 0, 1) := by decide +kernel
theorem dX7_layShares_10 : decode cX7_layShares 10 = .ok (.istore 5, 2) := by decide +kernel
theorem dX7_layShares_12 : decode cX7_layShares 12 = .ok (.iload 5, 2) := by decide +kernel
theorem dX7_layShares_14 : decode cX7_layShares 14 = .ok (.iconst 5, 1) := by decide +kernel
theorem dX7_layShares_15 : decode cX7_layShares 15 = .ok (.if_icmp .ge 56, 3) := by decide +kernel
theorem dX7_layShares_18 : decode cX7_layShares 18 = .ok (.aload_n 0, 1) := by decide +kernel
theorem dX7_layShares_19 : decode cX7_layShares 19 = .ok (.iload_n 1, 1) := by decide +kernel
theorem dX7_layShares_20 : decode cX7_layShares 20 = .ok (.iconst 2, 1) := by decide +kernel
theorem dX7_layShares_21 : decode cX7_layShares 21 = .ok (.iload 5, 2) := by decide +kernel
theorem dX7_layShares_23 : decode cX7_layShares 23 = .ok (.iadd, 1) := by decide +kernel
theorem dX7_layShares_24 : decode cX7_layShares 24 = .ok (.invokevirtual 42, 3) := by decide +kernel
theorem dX7_layShares_27 : decode cX7_layShares 27 = .ok (.iload_n 2, 1) := by decide +kernel
theorem dX7_layShares_28 : decode cX7_layShares 28 = .ok (.imul, 1) := by decide +kernel
theorem dX7_layShares_29 : decode cX7_layShares 29 = .ok (.istore 6, 2) := by decide +kernel
theorem dX7_layShares_31 : decode cX7_layShares 31 = .ok (.aload_n 0, 1) := by decide +kernel
theorem dX7_layShares_32 : decode cX7_layShares 32 = .ok (.getfield 22, 3) := by decide +kernel
theorem dX7_layShares_35 : decode cX7_layShares 35 = .ok (.iload 5, 2) := by decide +kernel
theorem dX7_layShares_37 : decode cX7_layShares 37 = .ok (.iload 6, 2) := by decide +kernel
theorem dX7_layShares_39 : decode cX7_layShares 39 = .ok (.iload_n 3, 1) := by decide +kernel
theorem dX7_layShares_40 : decode cX7_layShares 40 = .ok (.idiv, 1) := by decide +kernel
theorem dX7_layShares_41 : decode cX7_layShares 41 = .ok (.iastore, 1) := by decide +kernel
theorem dX7_layShares_42 : decode cX7_layShares 42 = .ok (.aload_n 0, 1) := by decide +kernel
theorem dX7_layShares_43 : decode cX7_layShares 43 = .ok (.getfield 25, 3) := by decide +kernel
theorem dX7_layShares_46 : decode cX7_layShares 46 = .ok (.iload 5, 2) := by decide +kernel
theorem dX7_layShares_48 : decode cX7_layShares 48 = .ok (.iload 6, 2) := by decide +kernel
theorem dX7_layShares_50 : decode cX7_layShares 50 = .ok (.iload_n 3, 1) := by decide +kernel
theorem dX7_layShares_51 : decode cX7_layShares 51 = .ok (.irem, 1) := by decide +kernel
theorem dX7_layShares_52 : decode cX7_layShares 52 = .ok (.iastore, 1) := by decide +kernel
theorem dX7_layShares_53 : decode cX7_layShares 53 = .ok (.iload 4, 2) := by decide +kernel
theorem dX7_layShares_55 : decode cX7_layShares 55 = .ok (.aload_n 0, 1) := by decide +kernel
theorem dX7_layShares_56 : decode cX7_layShares 56 = .ok (.getfield 22, 3) := by decide +kernel
theorem dX7_layShares_59 : decode cX7_layShares 59 = .ok (.iload 5, 2) := by decide +kernel
theorem dX7_layShares_61 : decode cX7_layShares 61 = .ok (.iaload, 1) := by decide +kernel
theorem dX7_layShares_62 : decode cX7_layShares 62 = .ok (.isub, 1) := by decide +kernel
theorem dX7_layShares_63 : decode cX7_layShares 63 = .ok (.istore 4, 2) := by decide +kernel
theorem dX7_layShares_65 : decode cX7_layShares 65 = .ok (.iinc 5 1, 3) := by decide +kernel
theorem dX7_layShares_68 : decode cX7_layShares 68 = .ok (.goto (-56), 3) := by decide +kernel
theorem dX7_layShares_71 : decode cX7_layShares 71 = .ok (.iload 4, 2) := by decide +kernel
theorem dX7_layShares_73 : decode cX7_layShares 73 = .ok (.ifCond .le 72, 3) := by decide +kernel
theorem dX7_layShares_76 : decode cX7_layShares 76 = .ok (.iconst 0, 1) := by decide +kernel
theorem dX7_layShares_77 : decode cX7_layShares 77 = .ok (.istore 5, 2) := by decide +kernel
theorem dX7_layShares_79 : decode cX7_layShares 79 = .ok (.iconst 1, 1) := by decide +kernel
theorem dX7_layShares_80 : decode cX7_layShares 80 = .ok (.istore 6, 2) := by decide +kernel
theorem dX7_layShares_82 : decode cX7_layShares 82 = .ok (.iload 6, 2) := by decide +kernel
theorem dX7_layShares_84 : decode cX7_layShares 84 = .ok (.iconst 5, 1) := by decide +kernel
theorem dX7_layShares_85 : decode cX7_layShares 85 = .ok (.if_icmp .ge 35, 3) := by decide +kernel
theorem dX7_layShares_88 : decode cX7_layShares 88 = .ok (.aload_n 0, 1) := by decide +kernel
theorem dX7_layShares_89 : decode cX7_layShares 89 = .ok (.getfield 25, 3) := by decide +kernel
theorem dX7_layShares_92 : decode cX7_layShares 92 = .ok (.iload 6, 2) := by decide +kernel
theorem dX7_layShares_94 : decode cX7_layShares 94 = .ok (.iaload, 1) := by decide +kernel
theorem dX7_layShares_95 : decode cX7_layShares 95 = .ok (.aload_n 0, 1) := by decide +kernel
theorem dX7_layShares_96 : decode cX7_layShares 96 = .ok (.getfield 25, 3) := by decide +kernel
theorem dX7_layShares_99 : decode cX7_layShares 99 = .ok (.iload 5, 2) := by decide +kernel
theorem dX7_layShares_101 : decode cX7_layShares 101 = .ok (.iaload, 1) := by decide +kernel
theorem dX7_layShares_102 : decode cX7_layShares 102 = .ok (.if_icmp .le 8, 3) := by decide +kernel
theorem dX7_layShares_105 : decode cX7_layShares 105 = .ok (.iload 6, 2) := by decide +kernel
theorem dX7_layShares_107 : decode cX7_layShares 107 = .ok (.goto 5, 3) := by decide +kernel
theorem dX7_layShares_110 : decode cX7_layShares 110 = .ok (.iload 5, 2) := by decide +kernel
theorem dX7_layShares_112 : decode cX7_layShares 112 = .ok (.istore 5, 2) := by decide +kernel
theorem dX7_layShares_114 : decode cX7_layShares 114 = .ok (.iinc 6 1, 3) := by decide +kernel
theorem dX7_layShares_117 : decode cX7_layShares 117 = .ok (.goto (-35), 3) := by decide +kernel
theorem dX7_layShares_120 : decode cX7_layShares 120 = .ok (.aload_n 0, 1) := by decide +kernel
theorem dX7_layShares_121 : decode cX7_layShares 121 = .ok (.getfield 22, 3) := by decide +kernel
theorem dX7_layShares_124 : decode cX7_layShares 124 = .ok (.iload 5, 2) := by decide +kernel
theorem dX7_layShares_126 : decode cX7_layShares 126 = .ok (.dup2, 1) := by decide +kernel
theorem dX7_layShares_127 : decode cX7_layShares 127 = .ok (.iaload, 1) := by decide +kernel
theorem dX7_layShares_128 : decode cX7_layShares 128 = .ok (.iconst 1, 1) := by decide +kernel
theorem dX7_layShares_129 : decode cX7_layShares 129 = .ok (.iadd, 1) := by decide +kernel
theorem dX7_layShares_130 : decode cX7_layShares 130 = .ok (.iastore, 1) := by decide +kernel
theorem dX7_layShares_131 : decode cX7_layShares 131 = .ok (.aload_n 0, 1) := by decide +kernel
theorem dX7_layShares_132 : decode cX7_layShares 132 = .ok (.getfield 25, 3) := by decide +kernel
theorem dX7_layShares_135 : decode cX7_layShares 135 = .ok (.iload 5, 2) := by decide +kernel
theorem dX7_layShares_137 : decode cX7_layShares 137 = .ok (.iconst (-1), 1) := by decide +kernel
theorem dX7_layShares_138 : decode cX7_layShares 138 = .ok (.iastore, 1) := by decide +kernel
theorem dX7_layShares_139 : decode cX7_layShares 139 = .ok (.iinc 4 (-1), 3) := by decide +kernel
theorem dX7_layShares_142 : decode cX7_layShares 142 = .ok (.goto (-71), 3) := by decide +kernel
theorem dX7_layShares_145 : decode cX7_layShares 145 = .ok (.return_, 1) := by decide +kernel
theorem dX7_takeShares_0 : decode cX7_takeShares 0 = .ok (.iconst 0, 1) := by decide +kernel
theorem dX7_takeShares_1 : decode cX7_takeShares 1 = .ok (.istore_n 2, 1) := by decide +kernel
theorem dX7_takeShares_2 : decode cX7_takeShares 2 = .ok (.iload_n 2, 1) := by decide +kernel
theorem dX7_takeShares_3 : decode cX7_takeShares 3 = .ok (.iconst 5, 1) := by decide +kernel
theorem dX7_takeShares_4 : decode cX7_takeShares 4 = .ok (.if_icmp .ge 35, 3) := by decide +kernel
theorem dX7_takeShares_7 : decode cX7_takeShares 7 = .ok (.aload_n 0, 1) := by decide +kernel
theorem dX7_takeShares_8 : decode cX7_takeShares 8 = .ok (.getfield 7, 3) := by decide +kernel
theorem dX7_takeShares_11 : decode cX7_takeShares 11 = .ok (.sipush 472, 3) := by decide +kernel
theorem dX7_takeShares_14 : decode cX7_takeShares 14 = .ok (.bipush 7, 2) := by decide +kernel
theorem dX7_takeShares_16 : decode cX7_takeShares 16 = .ok (.iload_n 1, 1) := by decide +kernel
theorem dX7_takeShares_17 : decode cX7_takeShares 17 = .ok (.imul, 1) := by decide +kernel
theorem dX7_takeShares_18 : decode cX7_takeShares 18 = .ok (.iadd, 1) := by decide +kernel
theorem dX7_takeShares_19 : decode cX7_takeShares 19 = .ok (.iconst 2, 1) := by decide +kernel
theorem dX7_takeShares_20 : decode cX7_takeShares 20 = .ok (.iadd, 1) := by decide +kernel
theorem dX7_takeShares_21 : decode cX7_takeShares 21 = .ok (.iload_n 2, 1) := by decide +kernel
theorem dX7_takeShares_22 : decode cX7_takeShares 22 = .ok (.iadd, 1) := by decide +kernel
theorem dX7_takeShares_23 : decode cX7_takeShares 23 = .ok (.dup2, 1) := by decide +kernel
theorem dX7_takeShares_24 : decode cX7_takeShares 24 = .ok (.iaload, 1) := by decide +kernel
theorem dX7_takeShares_25 : decode cX7_takeShares 25 = .ok (.aload_n 0, 1) := by decide +kernel
theorem dX7_takeShares_26 : decode cX7_takeShares 26 = .ok (.getfield 22, 3) := by decide +kernel
theorem dX7_takeShares_29 : decode cX7_takeShares 29 = .ok (.iload_n 2, 1) := by decide +kernel
theorem dX7_takeShares_30 : decode cX7_takeShares 30 = .ok (.iaload, 1) := by decide +kernel
theorem dX7_takeShares_31 : decode cX7_takeShares 31 = .ok (.isub, 1) := by decide +kernel
theorem dX7_takeShares_32 : decode cX7_takeShares 32 = .ok (.iastore, 1) := by decide +kernel
theorem dX7_takeShares_33 : decode cX7_takeShares 33 = .ok (.iinc 2 1, 3) := by decide +kernel
theorem dX7_takeShares_36 : decode cX7_takeShares 36 = .ok (.goto (-34), 3) := by decide +kernel
theorem dX7_takeShares_39 : decode cX7_takeShares 39 = .ok (.return_, 1) := by decide +kernel
theorem dX7_isOil_0 : decode cX7_isOil 0 = .ok (.iload_n 0, 1) := by decide +kernel
theorem dX7_isOil_1 : decode cX7_isOil 1 = .ok (.iconst 1, 1) := by decide +kernel
theorem dX7_isOil_2 : decode cX7_isOil 2 = .ok (.sipush 20000, 3) := by decide +kernel
theorem dX7_isOil_5 : decode cX7_isOil 5 = .ok (.invokestatic 38, 3) := by decide +kernel
theorem dX7_isOil_8 : decode cX7_isOil 8 = .ok (.ireturn, 1) := by decide +kernel
theorem dX7_draw_0 : decode cX7_draw 0 = .ok (.aload_n 0, 1) := by decide +kernel
theorem dX7_draw_1 : decode cX7_draw 1 = .ok (.aload_n 0, 1) := by decide +kernel
theorem dX7_draw_2 : decode cX7_draw 2 = .ok (.iload_n 1, 1) := by decide +kernel
theorem dX7_draw_3 : decode cX7_draw 3 = .ok (.invokevirtual 63, 3) := by decide +kernel
theorem dX7_draw_6 : decode cX7_draw 6 = .ok (.ifCond .eq 11, 3) := by decide +kernel
theorem dX7_draw_9 : decode cX7_draw 9 = .ok (.aload_n 0, 1) := by decide +kernel
theorem dX7_draw_10 : decode cX7_draw 10 = .ok (.iload_n 2, 1) := by decide +kernel
theorem dX7_draw_11 : decode cX7_draw 11 = .ok (.invokevirtual 137, 3) := by decide +kernel
theorem dX7_draw_14 : decode cX7_draw 14 = .ok (.ifCond .ne 7, 3) := by decide +kernel
theorem dX7_draw_17 : decode cX7_draw 17 = .ok (.iconst 1, 1) := by decide +kernel
theorem dX7_draw_18 : decode cX7_draw 18 = .ok (.goto 41, 3) := by decide +kernel
theorem dX7_draw_21 : decode cX7_draw 21 = .ok (.iload_n 3, 1) := by decide +kernel
theorem dX7_draw_22 : decode cX7_draw 22 = .ok (.invokestatic 161, 3) := by decide +kernel
theorem dX7_draw_25 : decode cX7_draw 25 = .ok (.ifCond .ne 7, 3) := by decide +kernel
theorem dX7_draw_28 : decode cX7_draw 28 = .ok (.iconst 2, 1) := by decide +kernel
theorem dX7_draw_29 : decode cX7_draw 29 = .ok (.goto 30, 3) := by decide +kernel
theorem dX7_draw_32 : decode cX7_draw 32 = .ok (.aload_n 0, 1) := by decide +kernel
theorem dX7_draw_33 : decode cX7_draw 33 = .ok (.getfield 7, 3) := by decide +kernel
theorem dX7_draw_36 : decode cX7_draw 36 = .ok (.bipush 40, 2) := by decide +kernel
theorem dX7_draw_38 : decode cX7_draw 38 = .ok (.iload_n 1, 1) := by decide +kernel
theorem dX7_draw_39 : decode cX7_draw 39 = .ok (.iadd, 1) := by decide +kernel
theorem dX7_draw_40 : decode cX7_draw 40 = .ok (.iaload, 1) := by decide +kernel
theorem dX7_draw_41 : decode cX7_draw 41 = .ok (.iload_n 3, 1) := by decide +kernel
theorem dX7_draw_42 : decode cX7_draw 42 = .ok (.if_icmp .lt 12, 3) := by decide +kernel
theorem dX7_draw_45 : decode cX7_draw 45 = .ok (.aload_n 0, 1) := by decide +kernel
theorem dX7_draw_46 : decode cX7_draw 46 = .ok (.iload_n 2, 1) := by decide +kernel
theorem dX7_draw_47 : decode cX7_draw 47 = .ok (.invokevirtual 46, 3) := by decide +kernel
theorem dX7_draw_50 : decode cX7_draw 50 = .ok (.iload_n 3, 1) := by decide +kernel
theorem dX7_draw_51 : decode cX7_draw 51 = .ok (.if_icmp .ge 7, 3) := by decide +kernel
theorem dX7_draw_54 : decode cX7_draw 54 = .ok (.iconst 3, 1) := by decide +kernel
theorem dX7_draw_55 : decode cX7_draw 55 = .ok (.goto 4, 3) := by decide +kernel
theorem dX7_draw_58 : decode cX7_draw 58 = .ok (.iconst 0, 1) := by decide +kernel
theorem dX7_draw_59 : decode cX7_draw 59 = .ok (.putfield 31, 3) := by decide +kernel
theorem dX7_draw_62 : decode cX7_draw 62 = .ok (.aload_n 0, 1) := by decide +kernel
theorem dX7_draw_63 : decode cX7_draw 63 = .ok (.getfield 31, 3) := by decide +kernel
theorem dX7_draw_66 : decode cX7_draw 66 = .ok (.ifCond .le 5, 3) := by decide +kernel
theorem dX7_draw_69 : decode cX7_draw 69 = .ok (.iconst 0, 1) := by decide +kernel
theorem dX7_draw_70 : decode cX7_draw 70 = .ok (.ireturn, 1) := by decide +kernel
theorem dX7_draw_71 : decode cX7_draw 71 = .ok (.aload_n 0, 1) := by decide +kernel
theorem dX7_draw_72 : decode cX7_draw 72 = .ok (.invokevirtual 56, 3) := by decide +kernel
theorem dX7_draw_75 : decode cX7_draw 75 = .ok (.aload_n 0, 1) := by decide +kernel
theorem dX7_draw_76 : decode cX7_draw 76 = .ok (.iload_n 2, 1) := by decide +kernel
theorem dX7_draw_77 : decode cX7_draw 77 = .ok (.iload_n 3, 1) := by decide +kernel
theorem dX7_draw_78 : decode cX7_draw 78 = .ok (.invokevirtual 164, 3) := by decide +kernel
theorem dX7_draw_81 : decode cX7_draw 81 = .ok (.aload_n 0, 1) := by decide +kernel
theorem dX7_draw_82 : decode cX7_draw 82 = .ok (.iload_n 2, 1) := by decide +kernel
theorem dX7_draw_83 : decode cX7_draw 83 = .ok (.invokevirtual 168, 3) := by decide +kernel
theorem dX7_draw_86 : decode cX7_draw 86 = .ok (.iconst 0, 1) := by decide +kernel
theorem dX7_draw_87 : decode cX7_draw 87 = .ok (.istore 4, 2) := by decide +kernel
theorem dX7_draw_89 : decode cX7_draw 89 = .ok (.iload 4, 2) := by decide +kernel
theorem dX7_draw_91 : decode cX7_draw 91 = .ok (.iconst 5, 1) := by decide +kernel
theorem dX7_draw_92 : decode cX7_draw 92 = .ok (.if_icmp .ge 29, 3) := by decide +kernel
theorem dX7_draw_95 : decode cX7_draw 95 = .ok (.aload_n 0, 1) := by decide +kernel
theorem dX7_draw_96 : decode cX7_draw 96 = .ok (.getfield 7, 3) := by decide +kernel
theorem dX7_draw_99 : decode cX7_draw 99 = .ok (.bipush 25, 2) := by decide +kernel
theorem dX7_draw_101 : decode cX7_draw 101 = .ok (.iload 4, 2) := by decide +kernel
theorem dX7_draw_103 : decode cX7_draw 103 = .ok (.iadd, 1) := by decide +kernel
theorem dX7_draw_104 : decode cX7_draw 104 = .ok (.dup2, 1) := by decide +kernel
theorem dX7_draw_105 : decode cX7_draw 105 = .ok (.iaload, 1) := by decide +kernel
theorem dX7_draw_106 : decode cX7_draw 106 = .ok (.aload_n 0, 1) := by decide +kernel
theorem dX7_draw_107 : decode cX7_draw 107 = .ok (.getfield 22, 3) := by decide +kernel
theorem dX7_draw_110 : decode cX7_draw 110 = .ok (.iload 4, 2) := by decide +kernel
theorem dX7_draw_112 : decode cX7_draw 112 = .ok (.iaload, 1) := by decide +kernel
theorem dX7_draw_113 : decode cX7_draw 113 = .ok (.iadd, 1) := by decide +kernel
theorem dX7_draw_114 : decode cX7_draw 114 = .ok (.iastore, 1) := by decide +kernel
theorem dX7_draw_115 : decode cX7_draw 115 = .ok (.iinc 4 1, 3) := by decide +kernel
theorem dX7_draw_118 : decode cX7_draw 118 = .ok (.goto (-29), 3) := by decide +kernel
theorem dX7_draw_121 : decode cX7_draw 121 = .ok (.aload_n 0, 1) := by decide +kernel
theorem dX7_draw_122 : decode cX7_draw 122 = .ok (.getfield 7, 3) := by decide +kernel
theorem dX7_draw_125 : decode cX7_draw 125 = .ok (.bipush 40, 2) := by decide +kernel
theorem dX7_draw_127 : decode cX7_draw 127 = .ok (.iload_n 1, 1) := by decide +kernel
theorem dX7_draw_128 : decode cX7_draw 128 = .ok (.iadd, 1) := by decide +kernel
theorem dX7_draw_129 : decode cX7_draw 129 = .ok (.dup2, 1) := by decide +kernel
theorem dX7_draw_130 : decode cX7_draw 130 = .ok (.iaload, 1) := by decide +kernel
theorem dX7_draw_131 : decode cX7_draw 131 = .ok (.iload_n 3, 1) := by decide +kernel
theorem dX7_draw_132 : decode cX7_draw 132 = .ok (.isub, 1) := by decide +kernel
theorem dX7_draw_133 : decode cX7_draw 133 = .ok (.iastore, 1) := by decide +kernel
theorem dX7_draw_134 : decode cX7_draw 134 = .ok (.aload_n 0, 1) := by decide +kernel
theorem dX7_draw_135 : decode cX7_draw 135 = .ok (.getfield 7, 3) := by decide +kernel
theorem dX7_draw_138 : decode cX7_draw 138 = .ok (.bipush 48, 2) := by decide +kernel
theorem dX7_draw_140 : decode cX7_draw 140 = .ok (.iload_n 1, 1) := by decide +kernel
theorem dX7_draw_141 : decode cX7_draw 141 = .ok (.iadd, 1) := by decide +kernel
theorem dX7_draw_142 : decode cX7_draw 142 = .ok (.dup2, 1) := by decide +kernel
theorem dX7_draw_143 : decode cX7_draw 143 = .ok (.iaload, 1) := by decide +kernel
theorem dX7_draw_144 : decode cX7_draw 144 = .ok (.iload_n 3, 1) := by decide +kernel
theorem dX7_draw_145 : decode cX7_draw 145 = .ok (.iadd, 1) := by decide +kernel
theorem dX7_draw_146 : decode cX7_draw 146 = .ok (.iastore, 1) := by decide +kernel
theorem dX7_draw_147 : decode cX7_draw 147 = .ok (.aload_n 0, 1) := by decide +kernel
theorem dX7_draw_148 : decode cX7_draw 148 = .ok (.getfield 7, 3) := by decide +kernel
theorem dX7_draw_151 : decode cX7_draw 151 = .ok (.bipush 40, 2) := by decide +kernel
theorem dX7_draw_153 : decode cX7_draw 153 = .ok (.iload_n 1, 1) := by decide +kernel
theorem dX7_draw_154 : decode cX7_draw 154 = .ok (.iadd, 1) := by decide +kernel
theorem dX7_draw_155 : decode cX7_draw 155 = .ok (.iaload, 1) := by decide +kernel
theorem dX7_draw_156 : decode cX7_draw 156 = .ok (.ireturn, 1) := by decide +kernel
theorem dX7_canMove_0 : decode cX7_canMove 0 = .ok (.aload_n 0, 1) := by decide +kernel
theorem dX7_canMove_1 : decode cX7_canMove 1 = .ok (.iload_n 1, 1) := by decide +kernel
theorem dX7_canMove_2 : decode cX7_canMove 2 = .ok (.invokevirtual 46, 3) := by decide +kernel
theorem dX7_canMove_5 : decode cX7_canMove 5 = .ok (.iload_n 3, 1) := by decide +kernel
theorem dX7_canMove_6 : decode cX7_canMove 6 = .ok (.if_icmp .lt 31, 3) := by decide +kernel
theorem dX7_canMove_9 : decode cX7_canMove 9 = .ok (.aload_n 0, 1) := by decide +kernel
theorem dX7_canMove_10 : decode cX7_canMove 10 = .ok (.iload_n 2, 1) := by decide +kernel
theorem dX7_canMove_11 : decode cX7_canMove 11 = .ok (.invokevirtual 127, 3) := by decide +kernel
theorem dX7_canMove_14 : decode cX7_canMove 14 = .ok (.iload_n 3, 1) := by decide +kernel
theorem dX7_canMove_15 : decode cX7_canMove 15 = .ok (.if_icmp .lt 22, 3) := by decide +kernel
theorem dX7_canMove_18 : decode cX7_canMove 18 = .ok (.aload_n 0, 1) := by decide +kernel
theorem dX7_canMove_19 : decode cX7_canMove 19 = .ok (.iload_n 2, 1) := by decide +kernel
theorem dX7_canMove_20 : decode cX7_canMove 20 = .ok (.aload_n 0, 1) := by decide +kernel
theorem dX7_canMove_21 : decode cX7_canMove 21 = .ok (.iload_n 1, 1) := by decide +kernel
theorem dX7_canMove_22 : decode cX7_canMove 22 = .ok (.invokevirtual 53, 3) := by decide +kernel
theorem dX7_canMove_25 : decode cX7_canMove 25 = .ok (.iload 4, 2) := by decide +kernel
theorem dX7_canMove_27 : decode cX7_canMove 27 = .ok (.invokevirtual 133, 3) := by decide +kernel
theorem dX7_canMove_30 : decode cX7_canMove 30 = .ok (.ifCond .eq 7, 3) := by decide +kernel
theorem dX7_canMove_33 : decode cX7_canMove 33 = .ok (.iconst 1, 1) := by decide +kernel
theorem dX7_canMove_34 : decode cX7_canMove 34 = .ok (.goto 4, 3) := by decide +kernel
theorem dX7_canMove_37 : decode cX7_canMove 37 = .ok (.iconst 0, 1) := by decide +kernel
theorem dX7_canMove_38 : decode cX7_canMove 38 = .ok (.ireturn, 1) := by decide +kernel
theorem dX7_move_0 : decode cX7_move 0 = .ok (.aload_n 0, 1) := by decide +kernel
theorem dX7_move_1 : decode cX7_move 1 = .ok (.aload_n 0, 1) := by decide +kernel
theorem dX7_move_2 : decode cX7_move 2 = .ok (.iload_n 1, 1) := by decide +kernel
theorem dX7_move_3 : decode cX7_move 3 = .ok (.invokevirtual 137, 3) := by decide +kernel
theorem dX7_move_6 : decode cX7_move 6 = .ok (.ifCond .eq 11, 3) := by decide +kernel
theorem dX7_move_9 : decode cX7_move 9 = .ok (.aload_n 0, 1) := by decide +kernel
theorem dX7_move_10 : decode cX7_move 10 = .ok (.iload_n 2, 1) := by decide +kernel
theorem dX7_move_11 : decode cX7_move 11 = .ok (.invokevirtual 137, 3) := by decide +kernel
theorem dX7_move_14 : decode cX7_move 14 = .ok (.ifCond .ne 7, 3) := by decide +kernel
theorem dX7_move_17 : decode cX7_move 17 = .ok (.iconst 1, 1) := by decide +kernel
theorem dX7_move_18 : decode cX7_move 18 = .ok (.goto 36, 3) := by decide +kernel
theorem dX7_move_21 : decode cX7_move 21 = .ok (.iload_n 1, 1) := by decide +kernel
theorem dX7_move_22 : decode cX7_move 22 = .ok (.iload_n 2, 1) := by decide +kernel
theorem dX7_move_23 : decode cX7_move 23 = .ok (.if_icmp .eq 10, 3) := by decide +kernel
theorem dX7_move_26 : decode cX7_move 26 = .ok (.iload_n 3, 1) := by decide +kernel
theorem dX7_move_27 : decode cX7_move 27 = .ok (.invokestatic 161, 3) := by decide +kernel
theorem dX7_move_30 : decode cX7_move 30 = .ok (.ifCond .ne 7, 3) := by decide +kernel
theorem dX7_move_33 : decode cX7_move 33 = .ok (.iconst 2, 1) := by decide +kernel
theorem dX7_move_34 : decode cX7_move 34 = .ok (.goto 20, 3) := by decide +kernel
theorem dX7_move_37 : decode cX7_move 37 = .ok (.aload_n 0, 1) := by decide +kernel
theorem dX7_move_38 : decode cX7_move 38 = .ok (.iload_n 1, 1) := by decide +kernel
theorem dX7_move_39 : decode cX7_move 39 = .ok (.iload_n 2, 1) := by decide +kernel
theorem dX7_move_40 : decode cX7_move 40 = .ok (.iload_n 3, 1) := by decide +kernel
theorem dX7_move_41 : decode cX7_move 41 = .ok (.iload 4, 2) := by decide +kernel
theorem dX7_move_43 : decode cX7_move 43 = .ok (.invokevirtual 171, 3) := by decide +kernel
theorem dX7_move_46 : decode cX7_move 46 = .ok (.ifCond .eq 7, 3) := by decide +kernel
theorem dX7_move_49 : decode cX7_move 49 = .ok (.iconst 0, 1) := by decide +kernel
theorem dX7_move_50 : decode cX7_move 50 = .ok (.goto 4, 3) := by decide +kernel
theorem dX7_move_53 : decode cX7_move 53 = .ok (.iconst 3, 1) := by decide +kernel
theorem dX7_move_54 : decode cX7_move 54 = .ok (.putfield 31, 3) := by decide +kernel
theorem dX7_move_57 : decode cX7_move 57 = .ok (.aload_n 0, 1) := by decide +kernel
theorem dX7_move_58 : decode cX7_move 58 = .ok (.getfield 31, 3) := by decide +kernel
theorem dX7_move_61 : decode cX7_move 61 = .ok (.ifCond .le 5, 3) := by decide +kernel
theorem dX7_move_64 : decode cX7_move 64 = .ok (.iconst 0, 1) := by decide +kernel
theorem dX7_move_65 : decode cX7_move 65 = .ok (.ireturn, 1) := by decide +kernel
theorem dX7_move_66 : decode cX7_move 66 = .ok (.aload_n 0, 1) := by decide +kernel
theorem dX7_move_67 : decode cX7_move 67 = .ok (.invokevirtual 56, 3) := by decide +kernel
theorem dX7_move_70 : decode cX7_move 70 = .ok (.aload_n 0, 1) := by decide +kernel
theorem dX7_move_71 : decode cX7_move 71 = .ok (.iload_n 1, 1) := by decide +kernel
theorem dX7_move_72 : decode cX7_move 72 = .ok (.invokevirtual 53, 3) := by decide +kernel
theorem dX7_move_75 : decode cX7_move 75 = .ok (.istore 5, 2) := by decide +kernel
theorem dX7_move_77 : decode cX7_move 77 = .ok (.aload_n 0, 1) := by decide +kernel
theorem dX7_move_78 : decode cX7_move 78 = .ok (.iload_n 1, 1) := by decide +kernel
theorem dX7_move_79 : decode cX7_move 79 = .ok (.iload_n 3, 1) := by decide +kernel
theorem dX7_move_80 : decode cX7_move 80 = .ok (.invokevirtual 164, 3) := by decide +kernel
theorem dX7_move_83 : decode cX7_move 83 = .ok (.aload_n 0, 1) := by decide +kernel
theorem dX7_move_84 : decode cX7_move 84 = .ok (.iload_n 1, 1) := by decide +kernel
theorem dX7_move_85 : decode cX7_move 85 = .ok (.invokevirtual 168, 3) := by decide +kernel
theorem dX7_move_88 : decode cX7_move 88 = .ok (.iconst 0, 1) := by decide +kernel
theorem dX7_move_89 : decode cX7_move 89 = .ok (.istore 6, 2) := by decide +kernel
theorem dX7_move_91 : decode cX7_move 91 = .ok (.iload 6, 2) := by decide +kernel
theorem dX7_move_93 : decode cX7_move 93 = .ok (.iconst 5, 1) := by decide +kernel
theorem dX7_move_94 : decode cX7_move 94 = .ok (.if_icmp .ge 25, 3) := by decide +kernel
theorem dX7_move_97 : decode cX7_move 97 = .ok (.aload_n 0, 1) := by decide +kernel
theorem dX7_move_98 : decode cX7_move 98 = .ok (.iload_n 2, 1) := by decide +kernel
theorem dX7_move_99 : decode cX7_move 99 = .ok (.iload 6, 2) := by decide +kernel
theorem dX7_move_101 : decode cX7_move 101 = .ok (.aload_n 0, 1) := by decide +kernel
theorem dX7_move_102 : decode cX7_move 102 = .ok (.getfield 22, 3) := by decide +kernel
theorem dX7_move_105 : decode cX7_move 105 = .ok (.iload 6, 2) := by decide +kernel
theorem dX7_move_107 : decode cX7_move 107 = .ok (.iaload, 1) := by decide +kernel
theorem dX7_move_108 : decode cX7_move 108 = .ok (.iload 5, 2) := by decide +kernel
theorem dX7_move_110 : decode cX7_move 110 = .ok (.invokevirtual 148, 3) := by decide +kernel
theorem dX7_move_113 : decode cX7_move 113 = .ok (.iinc 6 1, 3) := by decide +kernel
theorem dX7_move_116 : decode cX7_move 116 = .ok (.goto (-25), 3) := by decide +kernel
theorem dX7_move_119 : decode cX7_move 119 = .ok (.aload_n 0, 1) := by decide +kernel
theorem dX7_move_120 : decode cX7_move 120 = .ok (.iload_n 2, 1) := by decide +kernel
theorem dX7_move_121 : decode cX7_move 121 = .ok (.invokevirtual 46, 3) := by decide +kernel
theorem dX7_move_124 : decode cX7_move 124 = .ok (.ireturn, 1) := by decide +kernel
theorem dX7_pass_0 : decode cX7_pass 0 = .ok (.aload_n 0, 1) := by decide +kernel
theorem dX7_pass_1 : decode cX7_pass 1 = .ok (.iload_n 1, 1) := by decide +kernel
theorem dX7_pass_2 : decode cX7_pass 2 = .ok (.iconst 1, 1) := by decide +kernel
theorem dX7_pass_3 : decode cX7_pass 3 = .ok (.bipush 100, 2) := by decide +kernel
theorem dX7_pass_5 : decode cX7_pass 5 = .ok (.invokestatic 38, 3) := by decide +kernel
theorem dX7_pass_8 : decode cX7_pass 8 = .ok (.ifCond .eq 7, 3) := by decide +kernel
theorem dX7_pass_11 : decode cX7_pass 11 = .ok (.iconst 0, 1) := by decide +kernel
theorem dX7_pass_12 : decode cX7_pass 12 = .ok (.goto 4, 3) := by decide +kernel
theorem dX7_pass_15 : decode cX7_pass 15 = .ok (.iconst 1, 1) := by decide +kernel
theorem dX7_pass_16 : decode cX7_pass 16 = .ok (.putfield 31, 3) := by decide +kernel
theorem dX7_pass_19 : decode cX7_pass 19 = .ok (.aload_n 0, 1) := by decide +kernel
theorem dX7_pass_20 : decode cX7_pass 20 = .ok (.getfield 31, 3) := by decide +kernel
theorem dX7_pass_23 : decode cX7_pass 23 = .ok (.ifCond .le 5, 3) := by decide +kernel
theorem dX7_pass_26 : decode cX7_pass 26 = .ok (.iconst 0, 1) := by decide +kernel
theorem dX7_pass_27 : decode cX7_pass 27 = .ok (.ireturn, 1) := by decide +kernel
theorem dX7_pass_28 : decode cX7_pass 28 = .ok (.aload_n 0, 1) := by decide +kernel
theorem dX7_pass_29 : decode cX7_pass 29 = .ok (.invokevirtual 56, 3) := by decide +kernel
theorem dX7_pass_32 : decode cX7_pass 32 = .ok (.iconst 0, 1) := by decide +kernel
theorem dX7_pass_33 : decode cX7_pass 33 = .ok (.istore_n 2, 1) := by decide +kernel
theorem dX7_pass_34 : decode cX7_pass 34 = .ok (.iconst 0, 1) := by decide +kernel
theorem dX7_pass_35 : decode cX7_pass 35 = .ok (.istore_n 3, 1) := by decide +kernel
theorem dX7_pass_36 : decode cX7_pass 36 = .ok (.iload_n 3, 1) := by decide +kernel
theorem dX7_pass_37 : decode cX7_pass 37 = .ok (.iload_n 1, 1) := by decide +kernel
theorem dX7_pass_38 : decode cX7_pass 38 = .ok (.aload_n 0, 1) := by decide +kernel
theorem dX7_pass_39 : decode cX7_pass 39 = .ok (.getfield 7, 3) := by decide +kernel
theorem dX7_pass_42 : decode cX7_pass 42 = .ok (.bipush 9, 2) := by decide +kernel
theorem dX7_pass_44 : decode cX7_pass 44 = .ok (.iaload, 1) := by decide +kernel
theorem dX7_pass_45 : decode cX7_pass 45 = .ok (.imul, 1) := by decide +kernel
theorem dX7_pass_46 : decode cX7_pass 46 = .ok (.iconst 5, 1) := by decide +kernel
theorem dX7_pass_47 : decode cX7_pass 47 = .ok (.imul, 1) := by decide +kernel
theorem dX7_pass_48 : decode cX7_pass 48 = .ok (.if_icmp .ge 91, 3) := by decide +kernel
theorem dX7_pass_51 : decode cX7_pass 51 = .ok (.iload_n 3, 1) := by decide +kernel
theorem dX7_pass_52 : decode cX7_pass 52 = .ok (.iconst 5, 1) := by decide +kernel
theorem dX7_pass_53 : decode cX7_pass 53 = .ok (.irem, 1) := by decide +kernel
theorem dX7_pass_54 : decode cX7_pass 54 = .ok (.istore 4, 2) := by decide +kernel
theorem dX7_pass_56 : decode cX7_pass 56 = .ok (.sipush 472, 3) := by decide +kernel
theorem dX7_pass_59 : decode cX7_pass 59 = .ok (.bipush 7, 2) := by decide +kernel
theorem dX7_pass_61 : decode cX7_pass 61 = .ok (.iload_n 3, 1) := by decide +kernel
theorem dX7_pass_62 : decode cX7_pass 62 = .ok (.iconst 5, 1) := by decide +kernel
theorem dX7_pass_63 : decode cX7_pass 63 = .ok (.idiv, 1) := by decide +kernel
theorem dX7_pass_64 : decode cX7_pass 64 = .ok (.aload_n 0, 1) := by decide +kernel
theorem dX7_pass_65 : decode cX7_pass 65 = .ok (.getfield 7, 3) := by decide +kernel
theorem dX7_pass_68 : decode cX7_pass 68 = .ok (.bipush 9, 2) := by decide +kernel
theorem dX7_pass_70 : decode cX7_pass 70 = .ok (.iaload, 1) := by decide +kernel
theorem dX7_pass_71 : decode cX7_pass 71 = .ok (.irem, 1) := by decide +kernel
theorem dX7_pass_72 : decode cX7_pass 72 = .ok (.imul, 1) := by decide +kernel
theorem dX7_pass_73 : decode cX7_pass 73 = .ok (.iadd, 1) := by decide +kernel
theorem dX7_pass_74 : decode cX7_pass 74 = .ok (.iconst 2, 1) := by decide +kernel
theorem dX7_pass_75 : decode cX7_pass 75 = .ok (.iadd, 1) := by decide +kernel
theorem dX7_pass_76 : decode cX7_pass 76 = .ok (.iload 4, 2) := by decide +kernel
theorem dX7_pass_78 : decode cX7_pass 78 = .ok (.iadd, 1) := by decide +kernel
theorem dX7_pass_79 : decode cX7_pass 79 = .ok (.istore 5, 2) := by decide +kernel
theorem dX7_pass_81 : decode cX7_pass 81 = .ok (.aload_n 0, 1) := by decide +kernel
theorem dX7_pass_82 : decode cX7_pass 82 = .ok (.getfield 7, 3) := by decide +kernel
theorem dX7_pass_85 : decode cX7_pass 85 = .ok (.iload 5, 2) := by decide +kernel
theorem dX7_pass_87 : decode cX7_pass 87 = .ok (.iaload, 1) := by decide +kernel
theorem dX7_pass_88 : decode cX7_pass 88 = .ok (.aload_n 0, 1) := by decide +kernel
theorem dX7_pass_89 : decode cX7_pass 89 = .ok (.getfield 7, 3) := by decide +kernel
theorem dX7_pass_92 : decode cX7_pass 92 = .ok (.iconst 3, 1) := by decide +kernel
theorem dX7_pass_93 : decode cX7_pass 93 = .ok (.iaload, 1) := by decide +kernel
theorem dX7_pass_94 : decode cX7_pass 94 = .ok (.imul, 1) := by decide +kernel
theorem dX7_pass_95 : decode cX7_pass 95 = .ok (.sipush 1000, 3) := by decide +kernel
theorem dX7_pass_98 : decode cX7_pass 98 = .ok (.idiv, 1) := by decide +kernel
theorem dX7_pass_99 : decode cX7_pass 99 = .ok (.istore 6, 2) := by decide +kernel
theorem dX7_pass_101 : decode cX7_pass 101 = .ok (.aload_n 0, 1) := by decide +kernel
theorem dX7_pass_102 : decode cX7_pass 102 = .ok (.getfield 7, 3) := by decide +kernel
theorem dX7_pass_105 : decode cX7_pass 105 = .ok (.iload 5, 2) := by decide +kernel
theorem dX7_pass_107 : decode cX7_pass 107 = .ok (.dup2, 1) := by decide +kernel
theorem dX7_pass_108 : decode cX7_pass 108 = .ok (.iaload, 1) := by decide +kernel
theorem dX7_pass_109 : decode cX7_pass 109 = .ok (.iload 6, 2) := by decide +kernel
theorem dX7_pass_111 : decode cX7_pass 111 = .ok (.isub, 1) := by decide +kernel
theorem dX7_pass_112 : decode cX7_pass 112 = .ok (.iastore, 1) := by decide +kernel
theorem dX7_pass_113 : decode cX7_pass 113 = .ok (.aload_n 0, 1) := by decide +kernel
theorem dX7_pass_114 : decode cX7_pass 114 = .ok (.getfield 7, 3) := by decide +kernel
theorem dX7_pass_117 : decode cX7_pass 117 = .ok (.bipush 30, 2) := by decide +kernel
theorem dX7_pass_119 : decode cX7_pass 119 = .ok (.iload 4, 2) := by decide +kernel
theorem dX7_pass_121 : decode cX7_pass 121 = .ok (.iadd, 1) := by decide +kernel
theorem dX7_pass_122 : decode cX7_pass 122 = .ok (.dup2, 1) := by decide +kernel
theorem dX7_pass_123 : decode cX7_pass 123 = .ok (.iaload, 1) := by decide +kernel
theorem dX7_pass_124 : decode cX7_pass 124 = .ok (.iload 6, 2) := by decide +kernel
theorem dX7_pass_126 : decode cX7_pass 126 = .ok (.iadd, 1) := by decide +kernel
theorem dX7_pass_127 : decode cX7_pass 127 = .ok (.iastore, 1) := by decide +kernel
theorem dX7_pass_128 : decode cX7_pass 128 = .ok (.iload_n 2, 1) := by decide +kernel
theorem dX7_pass_129 : decode cX7_pass 129 = .ok (.iload 6, 2) := by decide +kernel
theorem dX7_pass_131 : decode cX7_pass 131 = .ok (.iadd, 1) := by decide +kernel
theorem dX7_pass_132 : decode cX7_pass 132 = .ok (.istore_n 2, 1) := by decide +kernel
theorem dX7_pass_133 : decode cX7_pass 133 = .ok (.iinc 3 1, 3) := by decide +kernel
theorem dX7_pass_136 : decode cX7_pass 136 = .ok (.goto (-100), 3) := by decide +kernel
theorem dX7_pass_139 : decode cX7_pass 139 = .ok (.aload_n 0, 1) := by decide +kernel
theorem dX7_pass_140 : decode cX7_pass 140 = .ok (.getfield 7, 3) := by decide +kernel
theorem dX7_pass_143 : decode cX7_pass 143 = .ok (.bipush 13, 2) := by decide +kernel
theorem dX7_pass_145 : decode cX7_pass 145 = .ok (.dup2, 1) := by decide +kernel
theorem dX7_pass_146 : decode cX7_pass 146 = .ok (.iaload, 1) := by decide +kernel
theorem dX7_pass_147 : decode cX7_pass 147 = .ok (.iload_n 1, 1) := by decide +kernel
theorem dX7_pass_148 : decode cX7_pass 148 = .ok (.iadd, 1) := by decide +kernel
theorem dX7_pass_149 : decode cX7_pass 149 = .ok (.iastore, 1) := by decide +kernel
theorem dX7_pass_150 : decode cX7_pass 150 = .ok (.iload_n 2, 1) := by decide +kernel
theorem dX7_pass_151 : decode cX7_pass 151 = .ok (.ireturn, 1) := by decide +kernel
theorem dX7_append_0 : decode cX7_append 0 = .ok (.aload_n 0, 1) := by decide +kernel
theorem dX7_append_1 : decode cX7_append 1 = .ok (.iload_n 1, 1) := by decide +kernel
theorem dX7_append_2 : decode cX7_append 2 = .ok (.bipush 33, 2) := by decide +kernel
theorem dX7_append_4 : decode cX7_append 4 = .ok (.bipush 126, 2) := by decide +kernel
theorem dX7_append_6 : decode cX7_append 6 = .ok (.invokestatic 38, 3) := by decide +kernel
theorem dX7_append_9 : decode cX7_append 9 = .ok (.ifCond .ne 7, 3) := by decide +kernel
theorem dX7_append_12 : decode cX7_append 12 = .ok (.iconst 1, 1) := by decide +kernel
theorem dX7_append_13 : decode cX7_append 13 = .ok (.goto 17, 3) := by decide +kernel
theorem dX7_append_16 : decode cX7_append 16 = .ok (.aload_n 0, 1) := by decide +kernel
theorem dX7_append_17 : decode cX7_append 17 = .ok (.getfield 175, 3) := by decide +kernel
theorem dX7_append_20 : decode cX7_append 20 = .ok (.bipush 60, 2) := by decide +kernel
theorem dX7_append_22 : decode cX7_append 22 = .ok (.if_icmp .ne 7, 3) := by decide +kernel
theorem dX7_append_25 : decode cX7_append 25 = .ok (.iconst 2, 1) := by decide +kernel
theorem dX7_append_26 : decode cX7_append 26 = .ok (.goto 4, 3) := by decide +kernel
theorem dX7_append_29 : decode cX7_append 29 = .ok (.iconst 0, 1) := by decide +kernel
theorem dX7_append_30 : decode cX7_append 30 = .ok (.putfield 31, 3) := by decide +kernel
theorem dX7_append_33 : decode cX7_append 33 = .ok (.aload_n 0, 1) := by decide +kernel
theorem dX7_append_34 : decode cX7_append 34 = .ok (.getfield 31, 3) := by decide +kernel
theorem dX7_append_37 : decode cX7_append 37 = .ok (.ifCond .le 5, 3) := by decide +kernel
theorem dX7_append_40 : decode cX7_append 40 = .ok (.iconst 0, 1) := by decide +kernel
theorem dX7_append_41 : decode cX7_append 41 = .ok (.ireturn, 1) := by decide +kernel
theorem dX7_append_42 : decode cX7_append 42 = .ok (.aload_n 0, 1) := by decide +kernel
theorem dX7_append_43 : decode cX7_append 43 = .ok (.getfield 16, 3) := by decide +kernel
theorem dX7_append_46 : decode cX7_append 46 = .ok (.aload_n 0, 1) := by decide +kernel
theorem dX7_append_47 : decode cX7_append 47 = .ok (.getfield 175, 3) := by decide +kernel
theorem dX7_append_50 : decode cX7_append 50 = .ok (.iload_n 1, 1) := by decide +kernel
theorem dX7_append_51 : decode cX7_append 51 = .ok (.iastore, 1) := by decide +kernel
theorem dX7_append_52 : decode cX7_append 52 = .ok (.aload_n 0, 1) := by decide +kernel
theorem dX7_append_53 : decode cX7_append 53 = .ok (.dup, 1) := by decide +kernel
theorem dX7_append_54 : decode cX7_append 54 = .ok (.getfield 175, 3) := by decide +kernel
theorem dX7_append_57 : decode cX7_append 57 = .ok (.iconst 1, 1) := by decide +kernel
theorem dX7_append_58 : decode cX7_append 58 = .ok (.iadd, 1) := by decide +kernel
theorem dX7_append_59 : decode cX7_append 59 = .ok (.putfield 175, 3) := by decide +kernel
theorem dX7_append_62 : decode cX7_append 62 = .ok (.aload_n 0, 1) := by decide +kernel
theorem dX7_append_63 : decode cX7_append 63 = .ok (.getfield 175, 3) := by decide +kernel
theorem dX7_append_66 : decode cX7_append 66 = .ok (.ireturn, 1) := by decide +kernel
theorem dX7_clearBuffer_0 : decode cX7_clearBuffer 0 = .ok (.aload_n 0, 1) := by decide +kernel
theorem dX7_clearBuffer_1 : decode cX7_clearBuffer 1 = .ok (.iconst 0, 1) := by decide +kernel
theorem dX7_clearBuffer_2 : decode cX7_clearBuffer 2 = .ok (.putfield 31, 3) := by decide +kernel
theorem dX7_clearBuffer_5 : decode cX7_clearBuffer 5 = .ok (.aload_n 0, 1) := by decide +kernel
theorem dX7_clearBuffer_6 : decode cX7_clearBuffer 6 = .ok (.getfield 175, 3) := by decide +kernel
theorem dX7_clearBuffer_9 : decode cX7_clearBuffer 9 = .ok (.istore_n 1, 1) := by decide +kernel
theorem dX7_clearBuffer_10 : decode cX7_clearBuffer 10 = .ok (.aload_n 0, 1) := by decide +kernel
theorem dX7_clearBuffer_11 : decode cX7_clearBuffer 11 = .ok (.iconst 0, 1) := by decide +kernel
theorem dX7_clearBuffer_12 : decode cX7_clearBuffer 12 = .ok (.putfield 175, 3) := by decide +kernel
theorem dX7_clearBuffer_15 : decode cX7_clearBuffer 15 = .ok (.iload_n 1, 1) := by decide +kernel
theorem dX7_clearBuffer_16 : decode cX7_clearBuffer 16 = .ok (.ireturn, 1) := by decide +kernel
theorem dX7_canBeTruth_0 : decode cX7_canBeTruth 0 = .ok (.iconst 0, 1) := by decide +kernel
theorem dX7_canBeTruth_1 : decode cX7_canBeTruth 1 = .ok (.istore_n 1, 1) := by decide +kernel
theorem dX7_canBeTruth_2 : decode cX7_canBeTruth 2 = .ok (.iconst 1, 1) := by decide +kernel
theorem dX7_canBeTruth_3 : decode cX7_canBeTruth 3 = .ok (.istore_n 2, 1) := by decide +kernel
theorem dX7_canBeTruth_4 : decode cX7_canBeTruth 4 = .ok (.iconst 0, 1) := by decide +kernel
theorem dX7_canBeTruth_5 : decode cX7_canBeTruth 5 = .ok (.istore_n 3, 1) := by decide +kernel
theorem dX7_canBeTruth_6 : decode cX7_canBeTruth 6 = .ok (.iload_n 3, 1) := by decide +kernel
theorem dX7_canBeTruth_7 : decode cX7_canBeTruth 7 = .ok (.iconst 4, 1) := by decide +kernel
theorem dX7_canBeTruth_8 : decode cX7_canBeTruth 8 = .ok (.if_icmp .ge 50, 3) := by decide +kernel
theorem dX7_canBeTruth_11 : decode cX7_canBeTruth 11 = .ok (.iload_n 1, 1) := by decide +kernel
theorem dX7_canBeTruth_12 : decode cX7_canBeTruth 12 = .ok (.ifCond .ne 29, 3) := by decide +kernel
theorem dX7_canBeTruth_15 : decode cX7_canBeTruth 15 = .ok (.iload_n 0, 1) := by decide +kernel
theorem dX7_canBeTruth_16 : decode cX7_canBeTruth 16 = .ok (.ifCond .le 29, 3) := by decide +kernel
theorem dX7_canBeTruth_19 : decode cX7_canBeTruth 19 = .ok (.iload_n 0, 1) := by decide +kernel
theorem dX7_canBeTruth_20 : decode cX7_canBeTruth 20 = .ok (.iload_n 2, 1) := by decide +kernel
theorem dX7_canBeTruth_21 : decode cX7_canBeTruth 21 = .ok (.imul, 1) := by decide +kernel
theorem dX7_canBeTruth_22 : decode cX7_canBeTruth 22 = .ok (.sipush 1500, 3) := by decide +kernel
theorem dX7_canBeTruth_25 : decode cX7_canBeTruth 25 = .ok (.if_icmp .gt 20, 3) := by decide +kernel
theorem dX7_canBeTruth_28 : decode cX7_canBeTruth 28 = .ok (.iload_n 0, 1) := by decide +kernel
theorem dX7_canBeTruth_29 : decode cX7_canBeTruth 29 = .ok (.iload_n 2, 1) := by decide +kernel
theorem dX7_canBeTruth_30 : decode cX7_canBeTruth 30 = .ok (.imul, 1) := by decide +kernel
theorem dX7_canBeTruth_31 : decode cX7_canBeTruth 31 = .ok (.iload_n 2, 1) := by decide +kernel
theorem dX7_canBeTruth_32 : decode cX7_canBeTruth 32 = .ok (.iadd, 1) := by decide +kernel
theorem dX7_canBeTruth_33 : decode cX7_canBeTruth 33 = .ok (.iconst 1, 1) := by decide +kernel
theorem dX7_canBeTruth_34 : decode cX7_canBeTruth 34 = .ok (.isub, 1) := by decide +kernel
theorem dX7_canBeTruth_35 : decode cX7_canBeTruth 35 = .ok (.sipush 500, 3) := by decide +kernel
theorem dX7_canBeTruth_38 : decode cX7_canBeTruth 38 = .ok (.if_icmp .lt 7, 3) := by decide +kernel
theorem dX7_canBeTruth_41 : decode cX7_canBeTruth 41 = .ok (.iconst 1, 1) := by decide +kernel
theorem dX7_canBeTruth_42 : decode cX7_canBeTruth 42 = .ok (.goto 4, 3) := by decide +kernel
theorem dX7_canBeTruth_45 : decode cX7_canBeTruth 45 = .ok (.iconst 0, 1) := by decide +kernel
theorem dX7_canBeTruth_46 : decode cX7_canBeTruth 46 = .ok (.istore_n 1, 1) := by decide +kernel
theorem dX7_canBeTruth_47 : decode cX7_canBeTruth 47 = .ok (.iload_n 2, 1) := by decide +kernel
theorem dX7_canBeTruth_48 : decode cX7_canBeTruth 48 = .ok (.bipush 10, 2) := by decide +kernel
theorem dX7_canBeTruth_50 : decode cX7_canBeTruth 50 = .ok (.imul, 1) := by decide +kernel
theorem dX7_canBeTruth_51 : decode cX7_canBeTruth 51 = .ok (.istore_n 2, 1) := by decide +kernel
theorem dX7_canBeTruth_52 : decode cX7_canBeTruth 52 = .ok (.iinc 3 1, 3) := by decide +kernel
theorem dX7_canBeTruth_55 : decode cX7_canBeTruth 55 = .ok (.goto (-49), 3) := by decide +kernel
theorem dX7_canBeTruth_58 : decode cX7_canBeTruth 58 = .ok (.iload_n 1, 1) := by decide +kernel
theorem dX7_canBeTruth_59 : decode cX7_canBeTruth 59 = .ok (.ireturn, 1) := by decide +kernel
theorem dX7_takesDigit_0 : decode cX7_takesDigit 0 = .ok (.aload_n 0, 1) := by decide +kernel
theorem dX7_takesDigit_1 : decode cX7_takesDigit 1 = .ok (.getfield 178, 3) := by decide +kernel
theorem dX7_takesDigit_4 : decode cX7_takesDigit 4 = .ok (.iconst (-1), 1) := by decide +kernel
theorem dX7_takesDigit_5 : decode cX7_takesDigit 5 = .ok (.if_icmp .ne 7, 3) := by decide +kernel
theorem dX7_takesDigit_8 : decode cX7_takesDigit 8 = .ok (.iload_n 1, 1) := by decide +kernel
theorem dX7_takesDigit_9 : decode cX7_takesDigit 9 = .ok (.goto 12, 3) := by decide +kernel
theorem dX7_takesDigit_12 : decode cX7_takesDigit 12 = .ok (.bipush 10, 2) := by decide +kernel
theorem dX7_takesDigit_14 : decode cX7_takesDigit 14 = .ok (.aload_n 0, 1) := by decide +kernel
theorem dX7_takesDigit_15 : decode cX7_takesDigit 15 = .ok (.getfield 178, 3) := by decide +kernel
theorem dX7_takesDigit_18 : decode cX7_takesDigit 18 = .ok (.imul, 1) := by decide +kernel
theorem dX7_takesDigit_19 : decode cX7_takesDigit 19 = .ok (.iload_n 1, 1) := by decide +kernel
theorem dX7_takesDigit_20 : decode cX7_takesDigit 20 = .ok (.iadd, 1) := by decide +kernel
theorem dX7_takesDigit_21 : decode cX7_takesDigit 21 = .ok (.istore_n 2, 1) := by decide +kernel
theorem dX7_takesDigit_22 : decode cX7_takesDigit 22 = .ok (.iload_n 1, 1) := by decide +kernel
theorem dX7_takesDigit_23 : decode cX7_takesDigit 23 = .ok (.iconst 0, 1) := by decide +kernel
theorem dX7_takesDigit_24 : decode cX7_takesDigit 24 = .ok (.bipush 9, 2) := by decide +kernel
theorem dX7_takesDigit_26 : decode cX7_takesDigit 26 = .ok (.invokestatic 38, 3) := by decide +kernel
theorem dX7_takesDigit_29 : decode cX7_takesDigit 29 = .ok (.ifCond .eq 14, 3) := by decide +kernel
theorem dX7_takesDigit_32 : decode cX7_takesDigit 32 = .ok (.aload_n 0, 1) := by decide +kernel
theorem dX7_takesDigit_33 : decode cX7_takesDigit 33 = .ok (.getfield 178, 3) := by decide +kernel
theorem dX7_takesDigit_36 : decode cX7_takesDigit 36 = .ok (.ifCond .eq 7, 3) := by decide +kernel
theorem dX7_takesDigit_39 : decode cX7_takesDigit 39 = .ok (.iconst 1, 1) := by decide +kernel
theorem dX7_takesDigit_40 : decode cX7_takesDigit 40 = .ok (.goto 4, 3) := by decide +kernel
theorem dX7_takesDigit_43 : decode cX7_takesDigit 43 = .ok (.iconst 0, 1) := by decide +kernel
theorem dX7_takesDigit_44 : decode cX7_takesDigit 44 = .ok (.istore_n 3, 1) := by decide +kernel
theorem dX7_takesDigit_45 : decode cX7_takesDigit 45 = .ok (.iload_n 3, 1) := by decide +kernel
theorem dX7_takesDigit_46 : decode cX7_takesDigit 46 = .ok (.ifCond .eq 53, 3) := by decide +kernel
theorem dX7_takesDigit_49 : decode cX7_takesDigit 49 = .ok (.aload_n 0, 1) := by decide +kernel
theorem dX7_takesDigit_50 : decode cX7_takesDigit 50 = .ok (.getfield 181, 3) := by decide +kernel
theorem dX7_takesDigit_53 : decode cX7_takesDigit 53 = .ok (.iconst 2, 1) := by decide +kernel
theorem dX7_takesDigit_54 : decode cX7_takesDigit 54 = .ok (.if_icmp .ne 17, 3) := by decide +kernel
theorem dX7_takesDigit_57 : decode cX7_takesDigit 57 = .ok (.iload_n 2, 1) := by decide +kernel
theorem dX7_takesDigit_58 : decode cX7_takesDigit 58 = .ok (.iconst 1, 1) := by decide +kernel
theorem dX7_takesDigit_59 : decode cX7_takesDigit 59 = .ok (.sipush 2000, 3) := by decide +kernel
theorem dX7_takesDigit_62 : decode cX7_takesDigit 62 = .ok (.invokestatic 38, 3) := by decide +kernel
theorem dX7_takesDigit_65 : decode cX7_takesDigit 65 = .ok (.ifCond .eq 34, 3) := by decide +kernel
theorem dX7_takesDigit_68 : decode cX7_takesDigit 68 = .ok (.goto 27, 3) := by decide +kernel
theorem dX7_takesDigit_71 : decode cX7_takesDigit 71 = .ok (.aload_n 0, 1) := by decide +kernel
theorem dX7_takesDigit_72 : decode cX7_takesDigit 72 = .ok (.getfield 181, 3) := by decide +kernel
theorem dX7_takesDigit_75 : decode cX7_takesDigit 75 = .ok (.iconst 3, 1) := by decide +kernel
theorem dX7_takesDigit_76 : decode cX7_takesDigit 76 = .ok (.if_icmp .ne 12, 3) := by decide +kernel
theorem dX7_takesDigit_79 : decode cX7_takesDigit 79 = .ok (.iload_n 2, 1) := by decide +kernel
theorem dX7_takesDigit_80 : decode cX7_takesDigit 80 = .ok (.bipush 50, 2) := by decide +kernel
theorem dX7_takesDigit_82 : decode cX7_takesDigit 82 = .ok (.if_icmp .gt 17, 3) := by decide +kernel
theorem dX7_takesDigit_85 : decode cX7_takesDigit 85 = .ok (.goto 10, 3) := by decide +kernel
theorem dX7_takesDigit_88 : decode cX7_takesDigit 88 = .ok (.iload_n 2, 1) := by decide +kernel
theorem dX7_takesDigit_89 : decode cX7_takesDigit 89 = .ok (.invokestatic 184, 3) := by decide +kernel
theorem dX7_takesDigit_92 : decode cX7_takesDigit 92 = .ok (.ifCond .eq 7, 3) := by decide +kernel
theorem dX7_takesDigit_95 : decode cX7_takesDigit 95 = .ok (.iconst 1, 1) := by decide +kernel
theorem dX7_takesDigit_96 : decode cX7_takesDigit 96 = .ok (.goto 4, 3) := by decide +kernel
theorem dX7_takesDigit_99 : decode cX7_takesDigit 99 = .ok (.iconst 0, 1) := by decide +kernel
theorem dX7_takesDigit_100 : decode cX7_takesDigit 100 = .ok (.istore_n 3, 1) := by decide +kernel
theorem dX7_takesDigit_101 : decode cX7_takesDigit 101 = .ok (.aload_n 0, 1) := by decide +kernel
theorem dX7_takesDigit_102 : decode cX7_takesDigit 102 = .ok (.iload_n 3, 1) := by decide +kernel
theorem dX7_takesDigit_103 : decode cX7_takesDigit 103 = .ok (.ifCond .eq 7, 3) := by decide +kernel
theorem dX7_takesDigit_106 : decode cX7_takesDigit 106 = .ok (.iload_n 2, 1) := by decide +kernel
theorem dX7_takesDigit_107 : decode cX7_takesDigit 107 = .ok (.goto 7, 3) := by decide +kernel
theorem dX7_takesDigit_110 : decode cX7_takesDigit 110 = .ok (.aload_n 0, 1) := by decide +kernel
theorem dX7_takesDigit_111 : decode cX7_takesDigit 111 = .ok (.getfield 178, 3) := by decide +kernel
theorem dX7_takesDigit_114 : decode cX7_takesDigit 114 = .ok (.putfield 178, 3) := by decide +kernel
theorem dX7_takesDigit_117 : decode cX7_takesDigit 117 = .ok (.iload_n 3, 1) := by decide +kernel
theorem dX7_takesDigit_118 : decode cX7_takesDigit 118 = .ok (.ireturn, 1) := by decide +kernel
theorem dX7_ends_0 : decode cX7_ends 0 = .ok (.aload_n 0, 1) := by decide +kernel
theorem dX7_ends_1 : decode cX7_ends 1 = .ok (.getfield 28, 3) := by decide +kernel
theorem dX7_ends_4 : decode cX7_ends 4 = .ok (.iconst 5, 1) := by decide +kernel
theorem dX7_ends_5 : decode cX7_ends 5 = .ok (.aload_n 0, 1) := by decide +kernel
theorem dX7_ends_6 : decode cX7_ends 6 = .ok (.getfield 187, 3) := by decide +kernel
theorem dX7_ends_9 : decode cX7_ends 9 = .ok (.imul, 1) := by decide +kernel
theorem dX7_ends_10 : decode cX7_ends 10 = .ok (.aload_n 0, 1) := by decide +kernel
theorem dX7_ends_11 : decode cX7_ends 11 = .ok (.getfield 181, 3) := by decide +kernel
theorem dX7_ends_14 : decode cX7_ends 14 = .ok (.iadd, 1) := by decide +kernel
theorem dX7_ends_15 : decode cX7_ends 15 = .ok (.aload_n 0, 1) := by decide +kernel
theorem dX7_ends_16 : decode cX7_ends 16 = .ok (.getfield 178, 3) := by decide +kernel
theorem dX7_ends_19 : decode cX7_ends 19 = .ok (.iastore, 1) := by decide +kernel
theorem dX7_ends_20 : decode cX7_ends 20 = .ok (.aload_n 0, 1) := by decide +kernel
theorem dX7_ends_21 : decode cX7_ends 21 = .ok (.iconst (-1), 1) := by decide +kernel
theorem dX7_ends_22 : decode cX7_ends 22 = .ok (.putfield 178, 3) := by decide +kernel
theorem dX7_ends_25 : decode cX7_ends 25 = .ok (.aload_n 0, 1) := by decide +kernel
theorem dX7_ends_26 : decode cX7_ends 26 = .ok (.iload_n 1, 1) := by decide +kernel
theorem dX7_ends_27 : decode cX7_ends 27 = .ok (.putfield 181, 3) := by decide +kernel
theorem dX7_ends_30 : decode cX7_ends 30 = .ok (.iconst 1, 1) := by decide +kernel
theorem dX7_ends_31 : decode cX7_ends 31 = .ok (.ireturn, 1) := by decide +kernel
theorem dX7_isEnded_0 : decode cX7_isEnded 0 = .ok (.aload_n 0, 1) := by decide +kernel
theorem dX7_isEnded_1 : decode cX7_isEnded 1 = .ok (.getfield 181, 3) := by decide +kernel
theorem dX7_isEnded_4 : decode cX7_isEnded 4 = .ok (.iconst 3, 1) := by decide +kernel
theorem dX7_isEnded_5 : decode cX7_isEnded 5 = .ok (.if_icmp .ne 11, 3) := by decide +kernel
theorem dX7_isEnded_8 : decode cX7_isEnded 8 = .ok (.aload_n 0, 1) := by decide +kernel
theorem dX7_isEnded_9 : decode cX7_isEnded 9 = .ok (.getfield 178, 3) := by decide +kernel
theorem dX7_isEnded_12 : decode cX7_isEnded 12 = .ok (.iconst (-1), 1) := by decide +kernel
theorem dX7_isEnded_13 : decode cX7_isEnded 13 = .ok (.if_icmp .ne 21, 3) := by decide +kernel
theorem dX7_isEnded_16 : decode cX7_isEnded 16 = .ok (.aload_n 0, 1) := by decide +kernel
theorem dX7_isEnded_17 : decode cX7_isEnded 17 = .ok (.getfield 181, 3) := by decide +kernel
theorem dX7_isEnded_20 : decode cX7_isEnded 20 = .ok (.iconst 4, 1) := by decide +kernel
theorem dX7_isEnded_21 : decode cX7_isEnded 21 = .ok (.if_icmp .ne 17, 3) := by decide +kernel
theorem dX7_isEnded_24 : decode cX7_isEnded 24 = .ok (.aload_n 0, 1) := by decide +kernel
theorem dX7_isEnded_25 : decode cX7_isEnded 25 = .ok (.getfield 178, 3) := by decide +kernel
theorem dX7_isEnded_28 : decode cX7_isEnded 28 = .ok (.sipush 500, 3) := by decide +kernel
theorem dX7_isEnded_31 : decode cX7_isEnded 31 = .ok (.if_icmp .lt 7, 3) := by decide +kernel
theorem dX7_isEnded_34 : decode cX7_isEnded 34 = .ok (.iconst 1, 1) := by decide +kernel
theorem dX7_isEnded_35 : decode cX7_isEnded 35 = .ok (.goto 4, 3) := by decide +kernel
theorem dX7_isEnded_38 : decode cX7_isEnded 38 = .ok (.iconst 0, 1) := by decide +kernel
theorem dX7_isEnded_39 : decode cX7_isEnded 39 = .ok (.ireturn, 1) := by decide +kernel
theorem dX7_takes_0 : decode cX7_takes 0 = .ok (.aload_n 0, 1) := by decide +kernel
theorem dX7_takes_1 : decode cX7_takes 1 = .ok (.getfield 181, 3) := by decide +kernel
theorem dX7_takes_4 : decode cX7_takes 4 = .ok (.ifCond .ne 48, 3) := by decide +kernel
theorem dX7_takes_7 : decode cX7_takes 7 = .ok (.aload_n 0, 1) := by decide +kernel
theorem dX7_takes_8 : decode cX7_takes 8 = .ok (.getfield 28, 3) := by decide +kernel
theorem dX7_takes_11 : decode cX7_takes 11 = .ok (.iconst 5, 1) := by decide +kernel
theorem dX7_takes_12 : decode cX7_takes 12 = .ok (.aload_n 0, 1) := by decide +kernel
theorem dX7_takes_13 : decode cX7_takes 13 = .ok (.getfield 187, 3) := by decide +kernel
theorem dX7_takes_16 : decode cX7_takes 16 = .ok (.imul, 1) := by decide +kernel
theorem dX7_takes_17 : decode cX7_takes 17 = .ok (.iload_n 1, 1) := by decide +kernel
theorem dX7_takes_18 : decode cX7_takes 18 = .ok (.bipush 48, 2) := by decide +kernel
theorem dX7_takes_20 : decode cX7_takes 20 = .ok (.isub, 1) := by decide +kernel
theorem dX7_takes_21 : decode cX7_takes 21 = .ok (.iastore, 1) := by decide +kernel
theorem dX7_takes_22 : decode cX7_takes 22 = .ok (.aload_n 0, 1) := by decide +kernel
theorem dX7_takes_23 : decode cX7_takes 23 = .ok (.getfield 28, 3) := by decide +kernel
theorem dX7_takes_26 : decode cX7_takes 26 = .ok (.iconst 5, 1) := by decide +kernel
theorem dX7_takes_27 : decode cX7_takes 27 = .ok (.aload_n 0, 1) := by decide +kernel
theorem dX7_takes_28 : decode cX7_takes 28 = .ok (.getfield 187, 3) := by decide +kernel
theorem dX7_takes_31 : decode cX7_takes 31 = .ok (.imul, 1) := by decide +kernel
theorem dX7_takes_32 : decode cX7_takes 32 = .ok (.iconst 4, 1) := by decide +kernel
theorem dX7_takes_33 : decode cX7_takes 33 = .ok (.iadd, 1) := by decide +kernel
theorem dX7_takes_34 : decode cX7_takes 34 = .ok (.sipush 1000, 3) := by decide +kernel
theorem dX7_takes_37 : decode cX7_takes 37 = .ok (.iastore, 1) := by decide +kernel
theorem dX7_takes_38 : decode cX7_takes 38 = .ok (.aload_n 0, 1) := by decide +kernel
theorem dX7_takes_39 : decode cX7_takes 39 = .ok (.iconst 1, 1) := by decide +kernel
theorem dX7_takes_40 : decode cX7_takes 40 = .ok (.putfield 181, 3) := by decide +kernel
theorem dX7_takes_43 : decode cX7_takes 43 = .ok (.iload_n 1, 1) := by decide +kernel
theorem dX7_takes_44 : decode cX7_takes 44 = .ok (.bipush 48, 2) := by decide +kernel
theorem dX7_takes_46 : decode cX7_takes 46 = .ok (.bipush 55, 2) := by decide +kernel
theorem dX7_takes_48 : decode cX7_takes 48 = .ok (.invokestatic 38, 3) := by decide +kernel
theorem dX7_takes_51 : decode cX7_takes 51 = .ok (.ireturn, 1) := by decide +kernel
theorem dX7_takes_52 : decode cX7_takes 52 = .ok (.aload_n 0, 1) := by decide +kernel
theorem dX7_takes_53 : decode cX7_takes 53 = .ok (.getfield 181, 3) := by decide +kernel
theorem dX7_takes_56 : decode cX7_takes 56 = .ok (.iconst 1, 1) := by decide +kernel
theorem dX7_takes_57 : decode cX7_takes 57 = .ok (.if_icmp .ne 34, 3) := by decide +kernel
theorem dX7_takes_60 : decode cX7_takes 60 = .ok (.aload_n 0, 1) := by decide +kernel
theorem dX7_takes_61 : decode cX7_takes 61 = .ok (.getfield 28, 3) := by decide +kernel
theorem dX7_takes_64 : decode cX7_takes 64 = .ok (.iconst 5, 1) := by decide +kernel
theorem dX7_takes_65 : decode cX7_takes 65 = .ok (.aload_n 0, 1) := by decide +kernel
theorem dX7_takes_66 : decode cX7_takes 66 = .ok (.getfield 187, 3) := by decide +kernel
theorem dX7_takes_69 : decode cX7_takes 69 = .ok (.imul, 1) := by decide +kernel
theorem dX7_takes_70 : decode cX7_takes 70 = .ok (.iconst 1, 1) := by decide +kernel
theorem dX7_takes_71 : decode cX7_takes 71 = .ok (.iadd, 1) := by decide +kernel
theorem dX7_takes_72 : decode cX7_takes 72 = .ok (.iload_n 1, 1) := by decide +kernel
theorem dX7_takes_73 : decode cX7_takes 73 = .ok (.bipush 97, 2) := by decide +kernel
theorem dX7_takes_75 : decode cX7_takes 75 = .ok (.isub, 1) := by decide +kernel
theorem dX7_takes_76 : decode cX7_takes 76 = .ok (.iastore, 1) := by decide +kernel
theorem dX7_takes_77 : decode cX7_takes 77 = .ok (.aload_n 0, 1) := by decide +kernel
theorem dX7_takes_78 : decode cX7_takes 78 = .ok (.iconst 2, 1) := by decide +kernel
theorem dX7_takes_79 : decode cX7_takes 79 = .ok (.putfield 181, 3) := by decide +kernel
theorem dX7_takes_82 : decode cX7_takes 82 = .ok (.iload_n 1, 1) := by decide +kernel
theorem dX7_takes_83 : decode cX7_takes 83 = .ok (.bipush 97, 2) := by decide +kernel
theorem dX7_takes_85 : decode cX7_takes 85 = .ok (.bipush 101, 2) := by decide +kernel
theorem dX7_takes_87 : decode cX7_takes 87 = .ok (.invokestatic 38, 3) := by decide +kernel
theorem dX7_takes_90 : decode cX7_takes 90 = .ok (.ireturn, 1) := by decide +kernel
theorem dX7_takes_91 : decode cX7_takes 91 = .ok (.iload_n 1, 1) := by decide +kernel
theorem dX7_takes_92 : decode cX7_takes 92 = .ok (.bipush 47, 2) := by decide +kernel
theorem dX7_takes_94 : decode cX7_takes 94 = .ok (.if_icmp .ne 25, 3) := by decide +kernel
theorem dX7_takes_97 : decode cX7_takes 97 = .ok (.aload_n 0, 1) := by decide +kernel
theorem dX7_takes_98 : decode cX7_takes 98 = .ok (.getfield 181, 3) := by decide +kernel
theorem dX7_takes_101 : decode cX7_takes 101 = .ok (.iconst 2, 1) := by decide +kernel
theorem dX7_takes_102 : decode cX7_takes 102 = .ok (.if_icmp .ne 17, 3) := by decide +kernel
theorem dX7_takes_105 : decode cX7_takes 105 = .ok (.aload_n 0, 1) := by decide +kernel
theorem dX7_takes_106 : decode cX7_takes 106 = .ok (.getfield 178, 3) := by decide +kernel
theorem dX7_takes_109 : decode cX7_takes 109 = .ok (.iconst (-1), 1) := by decide +kernel
theorem dX7_takes_110 : decode cX7_takes 110 = .ok (.if_icmp .eq 9, 3) := by decide +kernel
theorem dX7_takes_113 : decode cX7_takes 113 = .ok (.aload_n 0, 1) := by decide +kernel
theorem dX7_takes_114 : decode cX7_takes 114 = .ok (.iconst 3, 1) := by decide +kernel
theorem dX7_takes_115 : decode cX7_takes 115 = .ok (.invokevirtual 190, 3) := by decide +kernel
theorem dX7_takes_118 : decode cX7_takes 118 = .ok (.ireturn, 1) := by decide +kernel
theorem dX7_takes_119 : decode cX7_takes 119 = .ok (.iload_n 1, 1) := by decide +kernel
theorem dX7_takes_120 : decode cX7_takes 120 = .ok (.bipush 42, 2) := by decide +kernel
theorem dX7_takes_122 : decode cX7_takes 122 = .ok (.if_icmp .ne 25, 3) := by decide +kernel
theorem dX7_takes_125 : decode cX7_takes 125 = .ok (.aload_n 0, 1) := by decide +kernel
theorem dX7_takes_126 : decode cX7_takes 126 = .ok (.getfield 181, 3) := by decide +kernel
theorem dX7_takes_129 : decode cX7_takes 129 = .ok (.iconst 3, 1) := by decide +kernel
theorem dX7_takes_130 : decode cX7_takes 130 = .ok (.if_icmp .ne 17, 3) := by decide +kernel
theorem dX7_takes_133 : decode cX7_takes 133 = .ok (.aload_n 0, 1) := by decide +kernel
theorem dX7_takes_134 : decode cX7_takes 134 = .ok (.getfield 178, 3) := by decide +kernel
theorem dX7_takes_137 : decode cX7_takes 137 = .ok (.iconst (-1), 1) := by decide +kernel
theorem dX7_takes_138 : decode cX7_takes 138 = .ok (.if_icmp .eq 9, 3) := by decide +kernel
theorem dX7_takes_141 : decode cX7_takes 141 = .ok (.aload_n 0, 1) := by decide +kernel
theorem dX7_takes_142 : decode cX7_takes 142 = .ok (.iconst 4, 1) := by decide +kernel
theorem dX7_takes_143 : decode cX7_takes 143 = .ok (.invokevirtual 190, 3) := by decide +kernel
theorem dX7_takes_146 : decode cX7_takes 146 = .ok (.ireturn, 1) := by decide +kernel
theorem dX7_takes_147 : decode cX7_takes 147 = .ok (.iload_n 1, 1) := by decide +kernel
theorem dX7_takes_148 : decode cX7_takes 148 = .ok (.bipush 59, 2) := by decide +kernel
theorem dX7_takes_150 : decode cX7_takes 150 = .ok (.if_icmp .ne 28, 3) := by decide +kernel
theorem dX7_takes_153 : decode cX7_takes 153 = .ok (.aload_n 0, 1) := by decide +kernel
theorem dX7_takes_154 : decode cX7_takes 154 = .ok (.invokevirtual 193, 3) := by decide +kernel
theorem dX7_takes_157 : decode cX7_takes 157 = .ok (.ifCond .eq 21, 3) := by decide +kernel
theorem dX7_takes_160 : decode cX7_takes 160 = .ok (.aload_n 0, 1) := by decide +kernel
theorem dX7_takes_161 : decode cX7_takes 161 = .ok (.iconst 0, 1) := by decide +kernel
theorem dX7_takes_162 : decode cX7_takes 162 = .ok (.invokevirtual 190, 3) := by decide +kernel
theorem dX7_takes_165 : decode cX7_takes 165 = .ok (.pop, 1) := by decide +kernel
theorem dX7_takes_166 : decode cX7_takes 166 = .ok (.aload_n 0, 1) := by decide +kernel
theorem dX7_takes_167 : decode cX7_takes 167 = .ok (.dup, 1) := by decide +kernel
theorem dX7_takes_168 : decode cX7_takes 168 = .ok (.getfield 187, 3) := by decide +kernel
theorem dX7_takes_171 : decode cX7_takes 171 = .ok (.iconst 1, 1) := by decide +kernel
theorem dX7_takes_172 : decode cX7_takes 172 = .ok (.iadd, 1) := by decide +kernel
theorem dX7_takes_173 : decode cX7_takes 173 = .ok (.putfield 187, 3) := by decide +kernel
theorem dX7_takes_176 : decode cX7_takes 176 = .ok (.iconst 1, 1) := by decide +kernel
theorem dX7_takes_177 : decode cX7_takes 177 = .ok (.ireturn, 1) := by decide +kernel
theorem dX7_takes_178 : decode cX7_takes 178 = .ok (.aload_n 0, 1) := by decide +kernel
theorem dX7_takes_179 : decode cX7_takes 179 = .ok (.iload_n 1, 1) := by decide +kernel
theorem dX7_takes_180 : decode cX7_takes 180 = .ok (.bipush 48, 2) := by decide +kernel
theorem dX7_takes_182 : decode cX7_takes 182 = .ok (.isub, 1) := by decide +kernel
theorem dX7_takes_183 : decode cX7_takes 183 = .ok (.invokevirtual 196, 3) := by decide +kernel
theorem dX7_takes_186 : decode cX7_takes 186 = .ok (.ireturn, 1) := by decide +kernel
theorem dX7_rightUpTo_0 : decode cX7_rightUpTo 0 = .ok (.aload_n 0, 1) := by decide +kernel
theorem dX7_rightUpTo_1 : decode cX7_rightUpTo 1 = .ok (.iconst 0, 1) := by decide +kernel
theorem dX7_rightUpTo_2 : decode cX7_rightUpTo 2 = .ok (.putfield 187, 3) := by decide +kernel
theorem dX7_rightUpTo_5 : decode cX7_rightUpTo 5 = .ok (.aload_n 0, 1) := by decide +kernel
theorem dX7_rightUpTo_6 : decode cX7_rightUpTo 6 = .ok (.iconst (-1), 1) := by decide +kernel
theorem dX7_rightUpTo_7 : decode cX7_rightUpTo 7 = .ok (.putfield 178, 3) := by decide +kernel
theorem dX7_rightUpTo_10 : decode cX7_rightUpTo 10 = .ok (.aload_n 0, 1) := by decide +kernel
theorem dX7_rightUpTo_11 : decode cX7_rightUpTo 11 = .ok (.iconst 0, 1) := by decide +kernel
theorem dX7_rightUpTo_12 : decode cX7_rightUpTo 12 = .ok (.putfield 181, 3) := by decide +kernel
theorem dX7_rightUpTo_15 : decode cX7_rightUpTo 15 = .ok (.iconst 0, 1) := by decide +kernel
theorem dX7_rightUpTo_16 : decode cX7_rightUpTo 16 = .ok (.istore_n 1, 1) := by decide +kernel
theorem dX7_rightUpTo_17 : decode cX7_rightUpTo 17 = .ok (.iload_n 1, 1) := by decide +kernel
theorem dX7_rightUpTo_18 : decode cX7_rightUpTo 18 = .ok (.aload_n 0, 1) := by decide +kernel
theorem dX7_rightUpTo_19 : decode cX7_rightUpTo 19 = .ok (.getfield 175, 3) := by decide +kernel
theorem dX7_rightUpTo_22 : decode cX7_rightUpTo 22 = .ok (.if_icmp .ge 22, 3) := by decide +kernel
theorem dX7_rightUpTo_25 : decode cX7_rightUpTo 25 = .ok (.aload_n 0, 1) := by decide +kernel
theorem dX7_rightUpTo_26 : decode cX7_rightUpTo 26 = .ok (.aload_n 0, 1) := by decide +kernel
theorem dX7_rightUpTo_27 : decode cX7_rightUpTo 27 = .ok (.getfield 16, 3) := by decide +kernel
theorem dX7_rightUpTo_30 : decode cX7_rightUpTo 30 = .ok (.iload_n 1, 1) := by decide +kernel
theorem dX7_rightUpTo_31 : decode cX7_rightUpTo 31 = .ok (.iaload, 1) := by decide +kernel
theorem dX7_rightUpTo_32 : decode cX7_rightUpTo 32 = .ok (.invokevirtual 199, 3) := by decide +kernel
theorem dX7_rightUpTo_35 : decode cX7_rightUpTo 35 = .ok (.ifCond .eq 9, 3) := by decide +kernel
theorem dX7_rightUpTo_38 : decode cX7_rightUpTo 38 = .ok (.iinc 1 1, 3) := by decide +kernel
theorem dX7_rightUpTo_41 : decode cX7_rightUpTo 41 = .ok (.goto (-24), 3) := by decide +kernel
theorem dX7_rightUpTo_44 : decode cX7_rightUpTo 44 = .ok (.iload_n 1, 1) := by decide +kernel
theorem dX7_rightUpTo_45 : decode cX7_rightUpTo 45 = .ok (.ireturn, 1) := by decide +kernel
theorem dX7_firstError_0 : decode cX7_firstError 0 = .ok (.aload_n 0, 1) := by decide +kernel
theorem dX7_firstError_1 : decode cX7_firstError 1 = .ok (.iconst 0, 1) := by decide +kernel
theorem dX7_firstError_2 : decode cX7_firstError 2 = .ok (.putfield 31, 3) := by decide +kernel
theorem dX7_firstError_5 : decode cX7_firstError 5 = .ok (.aload_n 0, 1) := by decide +kernel
theorem dX7_firstError_6 : decode cX7_firstError 6 = .ok (.invokevirtual 202, 3) := by decide +kernel
theorem dX7_firstError_9 : decode cX7_firstError 9 = .ok (.ireturn, 1) := by decide +kernel
theorem dX7_adds_0 : decode cX7_adds 0 = .ok (.iconst 5, 1) := by decide +kernel
theorem dX7_adds_1 : decode cX7_adds 1 = .ok (.iload_n 1, 1) := by decide +kernel
theorem dX7_adds_2 : decode cX7_adds 2 = .ok (.imul, 1) := by decide +kernel
theorem dX7_adds_3 : decode cX7_adds 3 = .ok (.istore_n 2, 1) := by decide +kernel
theorem dX7_adds_4 : decode cX7_adds 4 = .ok (.aload_n 0, 1) := by decide +kernel
theorem dX7_adds_5 : decode cX7_adds 5 = .ok (.aload_n 0, 1) := by decide +kernel
theorem dX7_adds_6 : decode cX7_adds 6 = .ok (.getfield 28, 3) := by decide +kernel
theorem dX7_adds_9 : decode cX7_adds 9 = .ok (.iload_n 2, 1) := by decide +kernel
theorem dX7_adds_10 : decode cX7_adds 10 = .ok (.iaload, 1) := by decide +kernel
theorem dX7_adds_11 : decode cX7_adds 11 = .ok (.aload_n 0, 1) := by decide +kernel
theorem dX7_adds_12 : decode cX7_adds 12 = .ok (.getfield 28, 3) := by decide +kernel
theorem dX7_adds_15 : decode cX7_adds 15 = .ok (.iload_n 2, 1) := by decide +kernel
theorem dX7_adds_16 : decode cX7_adds 16 = .ok (.iconst 1, 1) := by decide +kernel
theorem dX7_adds_17 : decode cX7_adds 17 = .ok (.iadd, 1) := by decide +kernel
theorem dX7_adds_18 : decode cX7_adds 18 = .ok (.iaload, 1) := by decide +kernel
theorem dX7_adds_19 : decode cX7_adds 19 = .ok (.aload_n 0, 1) := by decide +kernel
theorem dX7_adds_20 : decode cX7_adds 20 = .ok (.getfield 28, 3) := by decide +kernel
theorem dX7_adds_23 : decode cX7_adds 23 = .ok (.iload_n 2, 1) := by decide +kernel
theorem dX7_adds_24 : decode cX7_adds 24 = .ok (.iconst 2, 1) := by decide +kernel
theorem dX7_adds_25 : decode cX7_adds 25 = .ok (.iadd, 1) := by decide +kernel
theorem dX7_adds_26 : decode cX7_adds 26 = .ok (.iaload, 1) := by decide +kernel
theorem dX7_adds_27 : decode cX7_adds 27 = .ok (.aload_n 0, 1) := by decide +kernel
theorem dX7_adds_28 : decode cX7_adds 28 = .ok (.getfield 28, 3) := by decide +kernel
theorem dX7_adds_31 : decode cX7_adds 31 = .ok (.iload_n 2, 1) := by decide +kernel
theorem dX7_adds_32 : decode cX7_adds 32 = .ok (.iconst 3, 1) := by decide +kernel
theorem dX7_adds_33 : decode cX7_adds 33 = .ok (.iadd, 1) := by decide +kernel
theorem dX7_adds_34 : decode cX7_adds 34 = .ok (.iaload, 1) := by decide +kernel
theorem dX7_adds_35 : decode cX7_adds 35 = .ok (.aload_n 0, 1) := by decide +kernel
theorem dX7_adds_36 : decode cX7_adds 36 = .ok (.getfield 28, 3) := by decide +kernel
theorem dX7_adds_39 : decode cX7_adds 39 = .ok (.iload_n 2, 1) := by decide +kernel
theorem dX7_adds_40 : decode cX7_adds 40 = .ok (.iconst 4, 1) := by decide +kernel
theorem dX7_adds_41 : decode cX7_adds 41 = .ok (.iadd, 1) := by decide +kernel
theorem dX7_adds_42 : decode cX7_adds 42 = .ok (.iaload, 1) := by decide +kernel
theorem dX7_adds_43 : decode cX7_adds 43 = .ok (.invokevirtual 70, 3) := by decide +kernel
theorem dX7_adds_46 : decode cX7_adds 46 = .ok (.istore_n 3, 1) := by decide +kernel
theorem dX7_adds_47 : decode cX7_adds 47 = .ok (.iload_n 3, 1) := by decide +kernel
theorem dX7_adds_48 : decode cX7_adds 48 = .ok (.ifCond .ne 46, 3) := by decide +kernel
theorem dX7_adds_51 : decode cX7_adds 51 = .ok (.aload_n 0, 1) := by decide +kernel
theorem dX7_adds_52 : decode cX7_adds 52 = .ok (.aload_n 0, 1) := by decide +kernel
theorem dX7_adds_53 : decode cX7_adds 53 = .ok (.getfield 28, 3) := by decide +kernel
theorem dX7_adds_56 : decode cX7_adds 56 = .ok (.iload_n 2, 1) := by decide +kernel
theorem dX7_adds_57 : decode cX7_adds 57 = .ok (.iaload, 1) := by decide +kernel
theorem dX7_adds_58 : decode cX7_adds 58 = .ok (.aload_n 0, 1) := by decide +kernel
theorem dX7_adds_59 : decode cX7_adds 59 = .ok (.getfield 28, 3) := by decide +kernel
theorem dX7_adds_62 : decode cX7_adds 62 = .ok (.iload_n 2, 1) := by decide +kernel
theorem dX7_adds_63 : decode cX7_adds 63 = .ok (.iconst 1, 1) := by decide +kernel
theorem dX7_adds_64 : decode cX7_adds 64 = .ok (.iadd, 1) := by decide +kernel
theorem dX7_adds_65 : decode cX7_adds 65 = .ok (.iaload, 1) := by decide +kernel
theorem dX7_adds_66 : decode cX7_adds 66 = .ok (.aload_n 0, 1) := by decide +kernel
theorem dX7_adds_67 : decode cX7_adds 67 = .ok (.getfield 28, 3) := by decide +kernel
theorem dX7_adds_70 : decode cX7_adds 70 = .ok (.iload_n 2, 1) := by decide +kernel
theorem dX7_adds_71 : decode cX7_adds 71 = .ok (.iconst 2, 1) := by decide +kernel
theorem dX7_adds_72 : decode cX7_adds 72 = .ok (.iadd, 1) := by decide +kernel
theorem dX7_adds_73 : decode cX7_adds 73 = .ok (.iaload, 1) := by decide +kernel
theorem dX7_adds_74 : decode cX7_adds 74 = .ok (.aload_n 0, 1) := by decide +kernel
theorem dX7_adds_75 : decode cX7_adds 75 = .ok (.getfield 28, 3) := by decide +kernel
theorem dX7_adds_78 : decode cX7_adds 78 = .ok (.iload_n 2, 1) := by decide +kernel
theorem dX7_adds_79 : decode cX7_adds 79 = .ok (.iconst 3, 1) := by decide +kernel
theorem dX7_adds_80 : decode cX7_adds 80 = .ok (.iadd, 1) := by decide +kernel
theorem dX7_adds_81 : decode cX7_adds 81 = .ok (.iaload, 1) := by decide +kernel
theorem dX7_adds_82 : decode cX7_adds 82 = .ok (.aload_n 0, 1) := by decide +kernel
theorem dX7_adds_83 : decode cX7_adds 83 = .ok (.getfield 28, 3) := by decide +kernel
theorem dX7_adds_86 : decode cX7_adds 86 = .ok (.iload_n 2, 1) := by decide +kernel
theorem dX7_adds_87 : decode cX7_adds 87 = .ok (.iconst 4, 1) := by decide +kernel
theorem dX7_adds_88 : decode cX7_adds 88 = .ok (.iadd, 1) := by decide +kernel
theorem dX7_adds_89 : decode cX7_adds 89 = .ok (.iaload, 1) := by decide +kernel
theorem dX7_adds_90 : decode cX7_adds 90 = .ok (.invokevirtual 74, 3) := by decide +kernel
theorem dX7_adds_93 : decode cX7_adds 93 = .ok (.pop, 1) := by decide +kernel
theorem dX7_adds_94 : decode cX7_adds 94 = .ok (.iload_n 3, 1) := by decide +kernel
theorem dX7_adds_95 : decode cX7_adds 95 = .ok (.ifCond .ne 7, 3) := by decide +kernel
theorem dX7_adds_98 : decode cX7_adds 98 = .ok (.iconst 1, 1) := by decide +kernel
theorem dX7_adds_99 : decode cX7_adds 99 = .ok (.goto 4, 3) := by decide +kernel
theorem dX7_adds_102 : decode cX7_adds 102 = .ok (.iconst 0, 1) := by decide +kernel
theorem dX7_adds_103 : decode cX7_adds 103 = .ok (.ireturn, 1) := by decide +kernel
theorem dX7_addSlips_0 : decode cX7_addSlips 0 = .ok (.aload_n 0, 1) := by decide +kernel
theorem dX7_addSlips_1 : decode cX7_addSlips 1 = .ok (.invokevirtual 202, 3) := by decide +kernel
theorem dX7_addSlips_4 : decode cX7_addSlips 4 = .ok (.aload_n 0, 1) := by decide +kernel
theorem dX7_addSlips_5 : decode cX7_addSlips 5 = .ok (.getfield 175, 3) := by decide +kernel
theorem dX7_addSlips_8 : decode cX7_addSlips 8 = .ok (.if_icmp .ne 14, 3) := by decide +kernel
theorem dX7_addSlips_11 : decode cX7_addSlips 11 = .ok (.aload_n 0, 1) := by decide +kernel
theorem dX7_addSlips_12 : decode cX7_addSlips 12 = .ok (.invokevirtual 193, 3) := by decide +kernel
theorem dX7_addSlips_15 : decode cX7_addSlips 15 = .ok (.ifCond .eq 7, 3) := by decide +kernel
theorem dX7_addSlips_18 : decode cX7_addSlips 18 = .ok (.iconst 1, 1) := by decide +kernel
theorem dX7_addSlips_19 : decode cX7_addSlips 19 = .ok (.goto 4, 3) := by decide +kernel
theorem dX7_addSlips_22 : decode cX7_addSlips 22 = .ok (.iconst 0, 1) := by decide +kernel
theorem dX7_addSlips_23 : decode cX7_addSlips 23 = .ok (.istore_n 1, 1) := by decide +kernel
theorem dX7_addSlips_24 : decode cX7_addSlips 24 = .ok (.aload_n 0, 1) := by decide +kernel
theorem dX7_addSlips_25 : decode cX7_addSlips 25 = .ok (.iload_n 1, 1) := by decide +kernel
theorem dX7_addSlips_26 : decode cX7_addSlips 26 = .ok (.ifCond .eq 7, 3) := by decide +kernel
theorem dX7_addSlips_29 : decode cX7_addSlips 29 = .ok (.iconst 0, 1) := by decide +kernel
theorem dX7_addSlips_30 : decode cX7_addSlips 30 = .ok (.goto 4, 3) := by decide +kernel
theorem dX7_addSlips_33 : decode cX7_addSlips 33 = .ok (.iconst 1, 1) := by decide +kernel
theorem dX7_addSlips_34 : decode cX7_addSlips 34 = .ok (.putfield 31, 3) := by decide +kernel
theorem dX7_addSlips_37 : decode cX7_addSlips 37 = .ok (.aload_n 0, 1) := by decide +kernel
theorem dX7_addSlips_38 : decode cX7_addSlips 38 = .ok (.getfield 31, 3) := by decide +kernel
theorem dX7_addSlips_41 : decode cX7_addSlips 41 = .ok (.ifCond .le 5, 3) := by decide +kernel
theorem dX7_addSlips_44 : decode cX7_addSlips 44 = .ok (.iconst 0, 1) := by decide +kernel
theorem dX7_addSlips_45 : decode cX7_addSlips 45 = .ok (.ireturn, 1) := by decide +kernel
theorem dX7_addSlips_46 : decode cX7_addSlips 46 = .ok (.aload_n 0, 1) := by decide +kernel
theorem dX7_addSlips_47 : decode cX7_addSlips 47 = .ok (.invokevirtual 56, 3) := by decide +kernel
theorem dX7_addSlips_50 : decode cX7_addSlips 50 = .ok (.aload_n 0, 1) := by decide +kernel
theorem dX7_addSlips_51 : decode cX7_addSlips 51 = .ok (.iconst 0, 1) := by decide +kernel
theorem dX7_addSlips_52 : decode cX7_addSlips 52 = .ok (.invokevirtual 190, 3) := by decide +kernel
theorem dX7_addSlips_55 : decode cX7_addSlips 55 = .ok (.pop, 1) := by decide +kernel
theorem dX7_addSlips_56 : decode cX7_addSlips 56 = .ok (.aload_n 0, 1) := by decide +kernel
theorem dX7_addSlips_57 : decode cX7_addSlips 57 = .ok (.iconst 0, 1) := by decide +kernel
theorem dX7_addSlips_58 : decode cX7_addSlips 58 = .ok (.putfield 175, 3) := by decide +kernel
theorem dX7_addSlips_61 : decode cX7_addSlips 61 = .ok (.iconst 0, 1) := by decide +kernel
theorem dX7_addSlips_62 : decode cX7_addSlips 62 = .ok (.istore_n 2, 1) := by decide +kernel
theorem dX7_addSlips_63 : decode cX7_addSlips 63 = .ok (.iload_n 2, 1) := by decide +kernel
theorem dX7_addSlips_64 : decode cX7_addSlips 64 = .ok (.aload_n 0, 1) := by decide +kernel
theorem dX7_addSlips_65 : decode cX7_addSlips 65 = .ok (.getfield 187, 3) := by decide +kernel
theorem dX7_addSlips_68 : decode cX7_addSlips 68 = .ok (.if_icmp .gt 17, 3) := by decide +kernel
theorem dX7_addSlips_71 : decode cX7_addSlips 71 = .ok (.aload_n 0, 1) := by decide +kernel
theorem dX7_addSlips_72 : decode cX7_addSlips 72 = .ok (.iload_n 2, 1) := by decide +kernel
theorem dX7_addSlips_73 : decode cX7_addSlips 73 = .ok (.invokevirtual 206, 3) := by decide +kernel
theorem dX7_addSlips_76 : decode cX7_addSlips 76 = .ok (.ifCond .eq 9, 3) := by decide +kernel
theorem dX7_addSlips_79 : decode cX7_addSlips 79 = .ok (.iinc 2 1, 3) := by decide +kernel
theorem dX7_addSlips_82 : decode cX7_addSlips 82 = .ok (.goto (-19), 3) := by decide +kernel
theorem dX7_addSlips_85 : decode cX7_addSlips 85 = .ok (.iload_n 2, 1) := by decide +kernel
theorem dX7_addSlips_86 : decode cX7_addSlips 86 = .ok (.ireturn, 1) := by decide +kernel
theorem dX7_undo_0 : decode cX7_undo 0 = .ok (.aload_n 0, 1) := by decide +kernel
theorem dX7_undo_1 : decode cX7_undo 1 = .ok (.aload_n 0, 1) := by decide +kernel
theorem dX7_undo_2 : decode cX7_undo 2 = .ok (.getfield 35, 3) := by decide +kernel
theorem dX7_undo_5 : decode cX7_undo 5 = .ok (.ifCond .le 7, 3) := by decide +kernel
theorem dX7_undo_8 : decode cX7_undo 8 = .ok (.iconst 0, 1) := by decide +kernel
theorem dX7_undo_9 : decode cX7_undo 9 = .ok (.goto 4, 3) := by decide +kernel
theorem dX7_undo_12 : decode cX7_undo 12 = .ok (.iconst 1, 1) := by decide +kernel
theorem dX7_undo_13 : decode cX7_undo 13 = .ok (.putfield 31, 3) := by decide +kernel
theorem dX7_undo_16 : decode cX7_undo 16 = .ok (.aload_n 0, 1) := by decide +kernel
theorem dX7_undo_17 : decode cX7_undo 17 = .ok (.getfield 31, 3) := by decide +kernel
theorem dX7_undo_20 : decode cX7_undo 20 = .ok (.ifCond .le 5, 3) := by decide +kernel
theorem dX7_undo_23 : decode cX7_undo 23 = .ok (.iconst 0, 1) := by decide +kernel
theorem dX7_undo_24 : decode cX7_undo 24 = .ok (.ireturn, 1) := by decide +kernel
theorem dX7_undo_25 : decode cX7_undo 25 = .ok (.aload_n 0, 1) := by decide +kernel
theorem dX7_undo_26 : decode cX7_undo 26 = .ok (.dup, 1) := by decide +kernel
theorem dX7_undo_27 : decode cX7_undo 27 = .ok (.getfield 35, 3) := by decide +kernel
theorem dX7_undo_30 : decode cX7_undo 30 = .ok (.iconst 1, 1) := by decide +kernel
theorem dX7_undo_31 : decode cX7_undo 31 = .ok (.isub, 1) := by decide +kernel
theorem dX7_undo_32 : decode cX7_undo 32 = .ok (.putfield 35, 3) := by decide +kernel
theorem dX7_undo_35 : decode cX7_undo 35 = .ok (.iconst 0, 1) := by decide +kernel
theorem dX7_undo_36 : decode cX7_undo 36 = .ok (.istore_n 1, 1) := by decide +kernel
theorem dX7_undo_37 : decode cX7_undo 37 = .ok (.iload_n 1, 1) := by decide +kernel
theorem dX7_undo_38 : decode cX7_undo 38 = .ok (.sipush 514, 3) := by decide +kernel
theorem dX7_undo_41 : decode cX7_undo 41 = .ok (.if_icmp .ge 30, 3) := by decide +kernel
theorem dX7_undo_44 : decode cX7_undo 44 = .ok (.aload_n 0, 1) := by decide +kernel
theorem dX7_undo_45 : decode cX7_undo 45 = .ok (.getfield 7, 3) := by decide +kernel
theorem dX7_undo_48 : decode cX7_undo 48 = .ok (.iload_n 1, 1) := by decide +kernel
theorem dX7_undo_49 : decode cX7_undo 49 = .ok (.aload_n 0, 1) := by decide +kernel
theorem dX7_undo_50 : decode cX7_undo 50 = .ok (.getfield 13, 3) := by decide +kernel
theorem dX7_undo_53 : decode cX7_undo 53 = .ok (.sipush 514, 3) := by decide +kernel
theorem dX7_undo_56 : decode cX7_undo 56 = .ok (.aload_n 0, 1) := by decide +kernel
theorem dX7_undo_57 : decode cX7_undo 57 = .ok (.getfield 35, 3) := by decide +kernel
theorem dX7_undo_60 : decode cX7_undo 60 = .ok (.imul, 1) := by decide +kernel
theorem dX7_undo_61 : decode cX7_undo 61 = .ok (.iload_n 1, 1) := by decide +kernel
theorem dX7_undo_62 : decode cX7_undo 62 = .ok (.iadd, 1) := by decide +kernel
theorem dX7_undo_63 : decode cX7_undo 63 = .ok (.iaload, 1) := by decide +kernel
theorem dX7_undo_64 : decode cX7_undo 64 = .ok (.iastore, 1) := by decide +kernel
theorem dX7_undo_65 : decode cX7_undo 65 = .ok (.iinc 1 1, 3) := by decide +kernel
theorem dX7_undo_68 : decode cX7_undo 68 = .ok (.goto (-31), 3) := by decide +kernel
theorem dX7_undo_71 : decode cX7_undo 71 = .ok (.aload_n 0, 1) := by decide +kernel
theorem dX7_undo_72 : decode cX7_undo 72 = .ok (.getfield 35, 3) := by decide +kernel
theorem dX7_undo_75 : decode cX7_undo 75 = .ok (.ireturn, 1) := by decide +kernel
theorem dX7_lotsOf_0 : decode cX7_lotsOf 0 = .ok (.iconst 0, 1) := by decide +kernel
theorem dX7_lotsOf_1 : decode cX7_lotsOf 1 = .ok (.istore 4, 2) := by decide +kernel
theorem dX7_lotsOf_3 : decode cX7_lotsOf 3 = .ok (.iconst 0, 1) := by decide +kernel
theorem dX7_lotsOf_4 : decode cX7_lotsOf 4 = .ok (.istore 5, 2) := by decide +kernel
theorem dX7_lotsOf_6 : decode cX7_lotsOf 6 = .ok (.iload 5, 2) := by decide +kernel
theorem dX7_lotsOf_8 : decode cX7_lotsOf 8 = .ok (.aload_n 0, 1) := by decide +kernel
theorem dX7_lotsOf_9 : decode cX7_lotsOf 9 = .ok (.getfield 7, 3) := by decide +kernel
theorem dX7_lotsOf_12 : decode cX7_lotsOf 12 = .ok (.bipush 8, 2) := by decide +kernel
theorem dX7_lotsOf_14 : decode cX7_lotsOf 14 = .ok (.iaload, 1) := by decide +kernel
theorem dX7_lotsOf_15 : decode cX7_lotsOf 15 = .ok (.if_icmp .ge 77, 3) := by decide +kernel
theorem dX7_lotsOf_18 : decode cX7_lotsOf 18 = .ok (.iload_n 1, 1) := by decide +kernel
theorem dX7_lotsOf_19 : decode cX7_lotsOf 19 = .ok (.iconst (-1), 1) := by decide +kernel
theorem dX7_lotsOf_20 : decode cX7_lotsOf 20 = .ok (.if_icmp .eq 14, 3) := by decide +kernel
theorem dX7_lotsOf_23 : decode cX7_lotsOf 23 = .ok (.aload_n 0, 1) := by decide +kernel
theorem dX7_lotsOf_24 : decode cX7_lotsOf 24 = .ok (.iload 5, 2) := by decide +kernel
theorem dX7_lotsOf_26 : decode cX7_lotsOf 26 = .ok (.iconst 0, 1) := by decide +kernel
theorem dX7_lotsOf_27 : decode cX7_lotsOf 27 = .ok (.invokevirtual 50, 3) := by decide +kernel
theorem dX7_lotsOf_30 : decode cX7_lotsOf 30 = .ok (.iload_n 1, 1) := by decide +kernel
theorem dX7_lotsOf_31 : decode cX7_lotsOf 31 = .ok (.if_icmp .ne 23, 3) := by decide +kernel
theorem dX7_lotsOf_34 : decode cX7_lotsOf 34 = .ok (.iload_n 2, 1) := by decide +kernel
theorem dX7_lotsOf_35 : decode cX7_lotsOf 35 = .ok (.iconst (-1), 1) := by decide +kernel
theorem dX7_lotsOf_36 : decode cX7_lotsOf 36 = .ok (.if_icmp .eq 14, 3) := by decide +kernel
theorem dX7_lotsOf_39 : decode cX7_lotsOf 39 = .ok (.aload_n 0, 1) := by decide +kernel
theorem dX7_lotsOf_40 : decode cX7_lotsOf 40 = .ok (.iload 5, 2) := by decide +kernel
theorem dX7_lotsOf_42 : decode cX7_lotsOf 42 = .ok (.iconst 1, 1) := by decide +kernel
theorem dX7_lotsOf_43 : decode cX7_lotsOf 43 = .ok (.invokevirtual 50, 3) := by decide +kernel
theorem dX7_lotsOf_46 : decode cX7_lotsOf 46 = .ok (.iload_n 2, 1) := by decide +kernel
theorem dX7_lotsOf_47 : decode cX7_lotsOf 47 = .ok (.if_icmp .ne 7, 3) := by decide +kernel
theorem dX7_lotsOf_50 : decode cX7_lotsOf 50 = .ok (.iconst 1, 1) := by decide +kernel
theorem dX7_lotsOf_51 : decode cX7_lotsOf 51 = .ok (.goto 4, 3) := by decide +kernel
theorem dX7_lotsOf_54 : decode cX7_lotsOf 54 = .ok (.iconst 0, 1) := by decide +kernel
theorem dX7_lotsOf_55 : decode cX7_lotsOf 55 = .ok (.istore 6, 2) := by decide +kernel
theorem dX7_lotsOf_57 : decode cX7_lotsOf 57 = .ok (.iload 4, 2) := by decide +kernel
theorem dX7_lotsOf_59 : decode cX7_lotsOf 59 = .ok (.iload 6, 2) := by decide +kernel
theorem dX7_lotsOf_61 : decode cX7_lotsOf 61 = .ok (.ifCond .eq 21, 3) := by decide +kernel
theorem dX7_lotsOf_64 : decode cX7_lotsOf 64 = .ok (.iload_n 3, 1) := by decide +kernel
theorem dX7_lotsOf_65 : decode cX7_lotsOf 65 = .ok (.ifCond .eq 13, 3) := by decide +kernel
theorem dX7_lotsOf_68 : decode cX7_lotsOf 68 = .ok (.aload_n 0, 1) := by decide +kernel
theorem dX7_lotsOf_69 : decode cX7_lotsOf 69 = .ok (.iload 5, 2) := by decide +kernel
theorem dX7_lotsOf_71 : decode cX7_lotsOf 71 = .ok (.iconst 5, 1) := by decide +kernel
theorem dX7_lotsOf_72 : decode cX7_lotsOf 72 = .ok (.invokevirtual 50, 3) := by decide +kernel
theorem dX7_lotsOf_75 : decode cX7_lotsOf 75 = .ok (.ifCond .ne 7, 3) := by decide +kernel
theorem dX7_lotsOf_78 : decode cX7_lotsOf 78 = .ok (.iconst 1, 1) := by decide +kernel
theorem dX7_lotsOf_79 : decode cX7_lotsOf 79 = .ok (.goto 4, 3) := by decide +kernel
theorem dX7_lotsOf_82 : decode cX7_lotsOf 82 = .ok (.iconst 0, 1) := by decide +kernel
theorem dX7_lotsOf_83 : decode cX7_lotsOf 83 = .ok (.iadd, 1) := by decide +kernel
theorem dX7_lotsOf_84 : decode cX7_lotsOf 84 = .ok (.istore 4, 2) := by decide +kernel
theorem dX7_lotsOf_86 : decode cX7_lotsOf 86 = .ok (.iinc 5 1, 3) := by decide +kernel
theorem dX7_lotsOf_89 : decode cX7_lotsOf 89 = .ok (.goto (-83), 3) := by decide +kernel
theorem dX7_lotsOf_92 : decode cX7_lotsOf 92 = .ok (.iload 4, 2) := by decide +kernel
theorem dX7_lotsOf_94 : decode cX7_lotsOf 94 = .ok (.ireturn, 1) := by decide +kernel
theorem dX7_growerNow_0 : decode cX7_growerNow 0 = .ok (.iload_n 2, 1) := by decide +kernel
theorem dX7_growerNow_1 : decode cX7_growerNow 1 = .ok (.tableswitch 82 0 4 #[35, 45, 45, 62, 72], 35) := by decide +kernel
theorem dX7_growerNow_36 : decode cX7_growerNow 36 = .ok (.aload_n 0, 1) := by decide +kernel
theorem dX7_growerNow_37 : decode cX7_growerNow 37 = .ok (.getfield 7, 3) := by decide +kernel
theorem dX7_growerNow_40 : decode cX7_growerNow 40 = .ok (.bipush 40, 2) := by decide +kernel
theorem dX7_growerNow_42 : decode cX7_growerNow 42 = .ok (.iload_n 1, 1) := by decide +kernel
theorem dX7_growerNow_43 : decode cX7_growerNow 43 = .ok (.iadd, 1) := by decide +kernel
theorem dX7_growerNow_44 : decode cX7_growerNow 44 = .ok (.iaload, 1) := by decide +kernel
theorem dX7_growerNow_45 : decode cX7_growerNow 45 = .ok (.ireturn, 1) := by decide +kernel
theorem dX7_growerNow_46 : decode cX7_growerNow 46 = .ok (.aload_n 0, 1) := by decide +kernel
theorem dX7_growerNow_47 : decode cX7_growerNow 47 = .ok (.iload_n 1, 1) := by decide +kernel
theorem dX7_growerNow_48 : decode cX7_growerNow 48 = .ok (.iconst (-1), 1) := by decide +kernel
theorem dX7_growerNow_49 : decode cX7_growerNow 49 = .ok (.iload_n 2, 1) := by decide +kernel
theorem dX7_growerNow_50 : decode cX7_growerNow 50 = .ok (.iconst 2, 1) := by decide +kernel
theorem dX7_growerNow_51 : decode cX7_growerNow 51 = .ok (.if_icmp .ne 7, 3) := by decide +kernel
theorem dX7_growerNow_54 : decode cX7_growerNow 54 = .ok (.iconst 1, 1) := by decide +kernel
theorem dX7_growerNow_55 : decode cX7_growerNow 55 = .ok (.goto 4, 3) := by decide +kernel
theorem dX7_growerNow_58 : decode cX7_growerNow 58 = .ok (.iconst 0, 1) := by decide +kernel
theorem dX7_growerNow_59 : decode cX7_growerNow 59 = .ok (.invokevirtual 209, 3) := by decide +kernel
theorem dX7_growerNow_62 : decode cX7_growerNow 62 = .ok (.ireturn, 1) := by decide +kernel
theorem dX7_growerNow_63 : decode cX7_growerNow 63 = .ok (.aload_n 0, 1) := by decide +kernel
theorem dX7_growerNow_64 : decode cX7_growerNow 64 = .ok (.getfield 7, 3) := by decide +kernel
theorem dX7_growerNow_67 : decode cX7_growerNow 67 = .ok (.bipush 48, 2) := by decide +kernel
theorem dX7_growerNow_69 : decode cX7_growerNow 69 = .ok (.iload_n 1, 1) := by decide +kernel
theorem dX7_growerNow_70 : decode cX7_growerNow 70 = .ok (.iadd, 1) := by decide +kernel
theorem dX7_growerNow_71 : decode cX7_growerNow 71 = .ok (.iaload, 1) := by decide +kernel
theorem dX7_growerNow_72 : decode cX7_growerNow 72 = .ok (.ireturn, 1) := by decide +kernel
theorem dX7_growerNow_73 : decode cX7_growerNow 73 = .ok (.aload_n 0, 1) := by decide +kernel
theorem dX7_growerNow_74 : decode cX7_growerNow 74 = .ok (.getfield 7, 3) := by decide +kernel
theorem dX7_growerNow_77 : decode cX7_growerNow 77 = .ok (.bipush 56, 2) := by decide +kernel
theorem dX7_growerNow_79 : decode cX7_growerNow 79 = .ok (.iload_n 1, 1) := by decide +kernel
theorem dX7_growerNow_80 : decode cX7_growerNow 80 = .ok (.iadd, 1) := by decide +kernel
theorem dX7_growerNow_81 : decode cX7_growerNow 81 = .ok (.iaload, 1) := by decide +kernel
theorem dX7_growerNow_82 : decode cX7_growerNow 82 = .ok (.ireturn, 1) := by decide +kernel
theorem dX7_growerNow_83 : decode cX7_growerNow 83 = .ok (.aload_n 0, 1) := by decide +kernel
theorem dX7_growerNow_84 : decode cX7_growerNow 84 = .ok (.getfield 7, 3) := by decide +kernel
theorem dX7_growerNow_87 : decode cX7_growerNow 87 = .ok (.bipush 64, 2) := by decide +kernel
theorem dX7_growerNow_89 : decode cX7_growerNow 89 = .ok (.iload_n 1, 1) := by decide +kernel
theorem dX7_growerNow_90 : decode cX7_growerNow 90 = .ok (.iadd, 1) := by decide +kernel
theorem dX7_growerNow_91 : decode cX7_growerNow 91 = .ok (.iaload, 1) := by decide +kernel
theorem dX7_growerNow_92 : decode cX7_growerNow 92 = .ok (.ireturn, 1) := by decide +kernel
theorem dX7_grower_0 : decode cX7_grower 0 = .ok (.aload_n 0, 1) := by decide +kernel
theorem dX7_grower_1 : decode cX7_grower 1 = .ok (.aload_n 0, 1) := by decide +kernel
theorem dX7_grower_2 : decode cX7_grower 2 = .ok (.iload_n 1, 1) := by decide +kernel
theorem dX7_grower_3 : decode cX7_grower 3 = .ok (.invokevirtual 63, 3) := by decide +kernel
theorem dX7_grower_6 : decode cX7_grower 6 = .ok (.ifCond .ne 7, 3) := by decide +kernel
theorem dX7_grower_9 : decode cX7_grower 9 = .ok (.iconst 1, 1) := by decide +kernel
theorem dX7_grower_10 : decode cX7_grower 10 = .ok (.goto 17, 3) := by decide +kernel
theorem dX7_grower_13 : decode cX7_grower 13 = .ok (.iload_n 2, 1) := by decide +kernel
theorem dX7_grower_14 : decode cX7_grower 14 = .ok (.iconst 0, 1) := by decide +kernel
theorem dX7_grower_15 : decode cX7_grower 15 = .ok (.iconst 5, 1) := by decide +kernel
theorem dX7_grower_16 : decode cX7_grower 16 = .ok (.invokestatic 38, 3) := by decide +kernel
theorem dX7_grower_19 : decode cX7_grower 19 = .ok (.ifCond .eq 7, 3) := by decide +kernel
theorem dX7_grower_22 : decode cX7_grower 22 = .ok (.iconst 0, 1) := by decide +kernel
theorem dX7_grower_23 : decode cX7_grower 23 = .ok (.goto 4, 3) := by decide +kernel
theorem dX7_grower_26 : decode cX7_grower 26 = .ok (.iconst 2, 1) := by decide +kernel
theorem dX7_grower_27 : decode cX7_grower 27 = .ok (.putfield 31, 3) := by decide +kernel
theorem dX7_grower_30 : decode cX7_grower 30 = .ok (.aload_n 0, 1) := by decide +kernel
theorem dX7_grower_31 : decode cX7_grower 31 = .ok (.getfield 31, 3) := by decide +kernel
theorem dX7_grower_34 : decode cX7_grower 34 = .ok (.ifCond .le 7, 3) := by decide +kernel
theorem dX7_grower_37 : decode cX7_grower 37 = .ok (.iconst 0, 1) := by decide +kernel
theorem dX7_grower_38 : decode cX7_grower 38 = .ok (.goto 9, 3) := by decide +kernel
theorem dX7_grower_41 : decode cX7_grower 41 = .ok (.aload_n 0, 1) := by decide +kernel
theorem dX7_grower_42 : decode cX7_grower 42 = .ok (.iload_n 1, 1) := by decide +kernel
theorem dX7_grower_43 : decode cX7_grower 43 = .ok (.iload_n 2, 1) := by decide +kernel
theorem dX7_grower_44 : decode cX7_grower 44 = .ok (.invokevirtual 213, 3) := by decide +kernel
theorem dX7_grower_47 : decode cX7_grower 47 = .ok (.ireturn, 1) := by decide +kernel
theorem dX7_lotNow_0 : decode cX7_lotNow 0 = .ok (.iload_n 2, 1) := by decide +kernel
theorem dX7_lotNow_1 : decode cX7_lotNow 1 = .ok (.iconst 4, 1) := by decide +kernel
theorem dX7_lotNow_2 : decode cX7_lotNow 2 = .ok (.if_icmp .ge 10, 3) := by decide +kernel
theorem dX7_lotNow_5 : decode cX7_lotNow 5 = .ok (.aload_n 0, 1) := by decide +kernel
theorem dX7_lotNow_6 : decode cX7_lotNow 6 = .ok (.iload_n 1, 1) := by decide +kernel
theorem dX7_lotNow_7 : decode cX7_lotNow 7 = .ok (.iload_n 2, 1) := by decide +kernel
theorem dX7_lotNow_8 : decode cX7_lotNow 8 = .ok (.invokevirtual 50, 3) := by decide +kernel
theorem dX7_lotNow_11 : decode cX7_lotNow 11 = .ok (.ireturn, 1) := by decide +kernel
theorem dX7_lotNow_12 : decode cX7_lotNow 12 = .ok (.iload_n 2, 1) := by decide +kernel
theorem dX7_lotNow_13 : decode cX7_lotNow 13 = .ok (.iconst 4, 1) := by decide +kernel
theorem dX7_lotNow_14 : decode cX7_lotNow 14 = .ok (.if_icmp .ne 11, 3) := by decide +kernel
theorem dX7_lotNow_17 : decode cX7_lotNow 17 = .ok (.aload_n 0, 1) := by decide +kernel
theorem dX7_lotNow_18 : decode cX7_lotNow 18 = .ok (.iload_n 1, 1) := by decide +kernel
theorem dX7_lotNow_19 : decode cX7_lotNow 19 = .ok (.invokevirtual 130, 3) := by decide +kernel
theorem dX7_lotNow_22 : decode cX7_lotNow 22 = .ok (.goto 23, 3) := by decide +kernel
theorem dX7_lotNow_25 : decode cX7_lotNow 25 = .ok (.iload_n 2, 1) := by decide +kernel
theorem dX7_lotNow_26 : decode cX7_lotNow 26 = .ok (.bipush 10, 2) := by decide +kernel
theorem dX7_lotNow_28 : decode cX7_lotNow 28 = .ok (.if_icmp .ge 12, 3) := by decide +kernel
theorem dX7_lotNow_31 : decode cX7_lotNow 31 = .ok (.aload_n 0, 1) := by decide +kernel
theorem dX7_lotNow_32 : decode cX7_lotNow 32 = .ok (.iload_n 1, 1) := by decide +kernel
theorem dX7_lotNow_33 : decode cX7_lotNow 33 = .ok (.iload_n 2, 1) := by decide +kernel
theorem dX7_lotNow_34 : decode cX7_lotNow 34 = .ok (.invokevirtual 50, 3) := by decide +kernel
theorem dX7_lotNow_37 : decode cX7_lotNow 37 = .ok (.goto 8, 3) := by decide +kernel
theorem dX7_lotNow_40 : decode cX7_lotNow 40 = .ok (.aload_n 0, 1) := by decide +kernel
theorem dX7_lotNow_41 : decode cX7_lotNow 41 = .ok (.iload_n 1, 1) := by decide +kernel
theorem dX7_lotNow_42 : decode cX7_lotNow 42 = .ok (.invokevirtual 158, 3) := by decide +kernel
theorem dX7_lotNow_45 : decode cX7_lotNow 45 = .ok (.ireturn, 1) := by decide +kernel
theorem dX7_lot_0 : decode cX7_lot 0 = .ok (.aload_n 0, 1) := by decide +kernel
theorem dX7_lot_1 : decode cX7_lot 1 = .ok (.aload_n 0, 1) := by decide +kernel
theorem dX7_lot_2 : decode cX7_lot 2 = .ok (.iload_n 1, 1) := by decide +kernel
theorem dX7_lot_3 : decode cX7_lot 3 = .ok (.invokevirtual 155, 3) := by decide +kernel
theorem dX7_lot_6 : decode cX7_lot 6 = .ok (.ifCond .ne 7, 3) := by decide +kernel
theorem dX7_lot_9 : decode cX7_lot 9 = .ok (.iconst 1, 1) := by decide +kernel
theorem dX7_lot_10 : decode cX7_lot 10 = .ok (.goto 18, 3) := by decide +kernel
theorem dX7_lot_13 : decode cX7_lot 13 = .ok (.iload_n 2, 1) := by decide +kernel
theorem dX7_lot_14 : decode cX7_lot 14 = .ok (.iconst 0, 1) := by decide +kernel
theorem dX7_lot_15 : decode cX7_lot 15 = .ok (.bipush 10, 2) := by decide +kernel
theorem dX7_lot_17 : decode cX7_lot 17 = .ok (.invokestatic 38, 3) := by decide +kernel
theorem dX7_lot_20 : decode cX7_lot 20 = .ok (.ifCond .eq 7, 3) := by decide +kernel
theorem dX7_lot_23 : decode cX7_lot 23 = .ok (.iconst 0, 1) := by decide +kernel
theorem dX7_lot_24 : decode cX7_lot 24 = .ok (.goto 4, 3) := by decide +kernel
theorem dX7_lot_27 : decode cX7_lot 27 = .ok (.iconst 2, 1) := by decide +kernel
theorem dX7_lot_28 : decode cX7_lot 28 = .ok (.putfield 31, 3) := by decide +kernel
theorem dX7_lot_31 : decode cX7_lot 31 = .ok (.aload_n 0, 1) := by decide +kernel
theorem dX7_lot_32 : decode cX7_lot 32 = .ok (.getfield 31, 3) := by decide +kernel
theorem dX7_lot_35 : decode cX7_lot 35 = .ok (.ifCond .le 7, 3) := by decide +kernel
theorem dX7_lot_38 : decode cX7_lot 38 = .ok (.iconst 0, 1) := by decide +kernel
theorem dX7_lot_39 : decode cX7_lot 39 = .ok (.goto 9, 3) := by decide +kernel
theorem dX7_lot_42 : decode cX7_lot 42 = .ok (.aload_n 0, 1) := by decide +kernel
theorem dX7_lot_43 : decode cX7_lot 43 = .ok (.iload_n 1, 1) := by decide +kernel
theorem dX7_lot_44 : decode cX7_lot 44 = .ok (.iload_n 2, 1) := by decide +kernel
theorem dX7_lot_45 : decode cX7_lot 45 = .ok (.invokevirtual 216, 3) := by decide +kernel
theorem dX7_lot_48 : decode cX7_lot 48 = .ok (.ireturn, 1) := by decide +kernel
theorem dX7_tankNow_0 : decode cX7_tankNow 0 = .ok (.iload_n 2, 1) := by decide +kernel
theorem dX7_tankNow_1 : decode cX7_tankNow 1 = .ok (.ifCond .ne 12, 3) := by decide +kernel
theorem dX7_tankNow_4 : decode cX7_tankNow 4 = .ok (.aload_n 0, 1) := by decide +kernel
theorem dX7_tankNow_5 : decode cX7_tankNow 5 = .ok (.iload_n 1, 1) := by decide +kernel
theorem dX7_tankNow_6 : decode cX7_tankNow 6 = .ok (.iconst 0, 1) := by decide +kernel
theorem dX7_tankNow_7 : decode cX7_tankNow 7 = .ok (.invokevirtual 42, 3) := by decide +kernel
theorem dX7_tankNow_10 : decode cX7_tankNow 10 = .ok (.goto 40, 3) := by decide +kernel
theorem dX7_tankNow_13 : decode cX7_tankNow 13 = .ok (.iload_n 2, 1) := by decide +kernel
theorem dX7_tankNow_14 : decode cX7_tankNow 14 = .ok (.iconst 1, 1) := by decide +kernel
theorem dX7_tankNow_15 : decode cX7_tankNow 15 = .ok (.if_icmp .ne 11, 3) := by decide +kernel
theorem dX7_tankNow_18 : decode cX7_tankNow 18 = .ok (.aload_n 0, 1) := by decide +kernel
theorem dX7_tankNow_19 : decode cX7_tankNow 19 = .ok (.iload_n 1, 1) := by decide +kernel
theorem dX7_tankNow_20 : decode cX7_tankNow 20 = .ok (.invokevirtual 46, 3) := by decide +kernel
theorem dX7_tankNow_23 : decode cX7_tankNow 23 = .ok (.goto 27, 3) := by decide +kernel
theorem dX7_tankNow_26 : decode cX7_tankNow 26 = .ok (.iload_n 2, 1) := by decide +kernel
theorem dX7_tankNow_27 : decode cX7_tankNow 27 = .ok (.iconst 2, 1) := by decide +kernel
theorem dX7_tankNow_28 : decode cX7_tankNow 28 = .ok (.if_icmp .ne 11, 3) := by decide +kernel
theorem dX7_tankNow_31 : decode cX7_tankNow 31 = .ok (.aload_n 0, 1) := by decide +kernel
theorem dX7_tankNow_32 : decode cX7_tankNow 32 = .ok (.iload_n 1, 1) := by decide +kernel
theorem dX7_tankNow_33 : decode cX7_tankNow 33 = .ok (.invokevirtual 53, 3) := by decide +kernel
theorem dX7_tankNow_36 : decode cX7_tankNow 36 = .ok (.goto 14, 3) := by decide +kernel
theorem dX7_tankNow_39 : decode cX7_tankNow 39 = .ok (.aload_n 0, 1) := by decide +kernel
theorem dX7_tankNow_40 : decode cX7_tankNow 40 = .ok (.iload_n 1, 1) := by decide +kernel
theorem dX7_tankNow_41 : decode cX7_tankNow 41 = .ok (.iconst 2, 1) := by decide +kernel
theorem dX7_tankNow_42 : decode cX7_tankNow 42 = .ok (.iload_n 2, 1) := by decide +kernel
theorem dX7_tankNow_43 : decode cX7_tankNow 43 = .ok (.iadd, 1) := by decide +kernel
theorem dX7_tankNow_44 : decode cX7_tankNow 44 = .ok (.bipush 10, 2) := by decide +kernel
theorem dX7_tankNow_46 : decode cX7_tankNow 46 = .ok (.isub, 1) := by decide +kernel
theorem dX7_tankNow_47 : decode cX7_tankNow 47 = .ok (.invokevirtual 42, 3) := by decide +kernel
theorem dX7_tankNow_50 : decode cX7_tankNow 50 = .ok (.ireturn, 1) := by decide +kernel
theorem dX7_tank_0 : decode cX7_tank 0 = .ok (.aload_n 0, 1) := by decide +kernel
theorem dX7_tank_1 : decode cX7_tank 1 = .ok (.aload_n 0, 1) := by decide +kernel
theorem dX7_tank_2 : decode cX7_tank 2 = .ok (.iload_n 1, 1) := by decide +kernel
theorem dX7_tank_3 : decode cX7_tank 3 = .ok (.invokevirtual 137, 3) := by decide +kernel
theorem dX7_tank_6 : decode cX7_tank 6 = .ok (.ifCond .ne 7, 3) := by decide +kernel
theorem dX7_tank_9 : decode cX7_tank 9 = .ok (.iconst 1, 1) := by decide +kernel
theorem dX7_tank_10 : decode cX7_tank 10 = .ok (.goto 28, 3) := by decide +kernel
theorem dX7_tank_13 : decode cX7_tank 13 = .ok (.iload_n 2, 1) := by decide +kernel
theorem dX7_tank_14 : decode cX7_tank 14 = .ok (.iconst 0, 1) := by decide +kernel
theorem dX7_tank_15 : decode cX7_tank 15 = .ok (.iconst 2, 1) := by decide +kernel
theorem dX7_tank_16 : decode cX7_tank 16 = .ok (.invokestatic 38, 3) := by decide +kernel
theorem dX7_tank_19 : decode cX7_tank 19 = .ok (.ifCond .ne 14, 3) := by decide +kernel
theorem dX7_tank_22 : decode cX7_tank 22 = .ok (.iload_n 2, 1) := by decide +kernel
theorem dX7_tank_23 : decode cX7_tank 23 = .ok (.bipush 10, 2) := by decide +kernel
theorem dX7_tank_25 : decode cX7_tank 25 = .ok (.bipush 14, 2) := by decide +kernel
theorem dX7_tank_27 : decode cX7_tank 27 = .ok (.invokestatic 38, 3) := by decide +kernel
theorem dX7_tank_30 : decode cX7_tank 30 = .ok (.ifCond .eq 7, 3) := by decide +kernel
theorem dX7_tank_33 : decode cX7_tank 33 = .ok (.iconst 0, 1) := by decide +kernel
theorem dX7_tank_34 : decode cX7_tank 34 = .ok (.goto 4, 3) := by decide +kernel
theorem dX7_tank_37 : decode cX7_tank 37 = .ok (.iconst 2, 1) := by decide +kernel
theorem dX7_tank_38 : decode cX7_tank 38 = .ok (.putfield 31, 3) := by decide +kernel
theorem dX7_tank_41 : decode cX7_tank 41 = .ok (.aload_n 0, 1) := by decide +kernel
theorem dX7_tank_42 : decode cX7_tank 42 = .ok (.getfield 31, 3) := by decide +kernel
theorem dX7_tank_45 : decode cX7_tank 45 = .ok (.ifCond .le 7, 3) := by decide +kernel
theorem dX7_tank_48 : decode cX7_tank 48 = .ok (.iconst 0, 1) := by decide +kernel
theorem dX7_tank_49 : decode cX7_tank 49 = .ok (.goto 9, 3) := by decide +kernel
theorem dX7_tank_52 : decode cX7_tank 52 = .ok (.aload_n 0, 1) := by decide +kernel
theorem dX7_tank_53 : decode cX7_tank 53 = .ok (.iload_n 1, 1) := by decide +kernel
theorem dX7_tank_54 : decode cX7_tank 54 = .ok (.iload_n 2, 1) := by decide +kernel
theorem dX7_tank_55 : decode cX7_tank 55 = .ok (.invokevirtual 219, 3) := by decide +kernel
theorem dX7_tank_58 : decode cX7_tank 58 = .ok (.ireturn, 1) := by decide +kernel
theorem dX7_inTanks_0 : decode cX7_inTanks 0 = .ok (.iconst 0, 1) := by decide +kernel
theorem dX7_inTanks_1 : decode cX7_inTanks 1 = .ok (.istore_n 2, 1) := by decide +kernel
theorem dX7_inTanks_2 : decode cX7_inTanks 2 = .ok (.iconst 0, 1) := by decide +kernel
theorem dX7_inTanks_3 : decode cX7_inTanks 3 = .ok (.istore_n 3, 1) := by decide +kernel
theorem dX7_inTanks_4 : decode cX7_inTanks 4 = .ok (.iload_n 3, 1) := by decide +kernel
theorem dX7_inTanks_5 : decode cX7_inTanks 5 = .ok (.aload_n 0, 1) := by decide +kernel
theorem dX7_inTanks_6 : decode cX7_inTanks 6 = .ok (.getfield 7, 3) := by decide +kernel
theorem dX7_inTanks_9 : decode cX7_inTanks 9 = .ok (.bipush 9, 2) := by decide +kernel
theorem dX7_inTanks_11 : decode cX7_inTanks 11 = .ok (.iaload, 1) := by decide +kernel
theorem dX7_inTanks_12 : decode cX7_inTanks 12 = .ok (.if_icmp .ge 20, 3) := by decide +kernel
theorem dX7_inTanks_15 : decode cX7_inTanks 15 = .ok (.iload_n 2, 1) := by decide +kernel
theorem dX7_inTanks_16 : decode cX7_inTanks 16 = .ok (.aload_n 0, 1) := by decide +kernel
theorem dX7_inTanks_17 : decode cX7_inTanks 17 = .ok (.iload_n 3, 1) := by decide +kernel
theorem dX7_inTanks_18 : decode cX7_inTanks 18 = .ok (.iconst 2, 1) := by decide +kernel
theorem dX7_inTanks_19 : decode cX7_inTanks 19 = .ok (.iload_n 1, 1) := by decide +kernel
theorem dX7_inTanks_20 : decode cX7_inTanks 20 = .ok (.iadd, 1) := by decide +kernel
theorem dX7_inTanks_21 : decode cX7_inTanks 21 = .ok (.invokevirtual 42, 3) := by decide +kernel
theorem dX7_inTanks_24 : decode cX7_inTanks 24 = .ok (.iadd, 1) := by decide +kernel
theorem dX7_inTanks_25 : decode cX7_inTanks 25 = .ok (.istore_n 2, 1) := by decide +kernel
theorem dX7_inTanks_26 : decode cX7_inTanks 26 = .ok (.iinc 3 1, 3) := by decide +kernel
theorem dX7_inTanks_29 : decode cX7_inTanks 29 = .ok (.goto (-25), 3) := by decide +kernel
theorem dX7_inTanks_32 : decode cX7_inTanks 32 = .ok (.iload_n 2, 1) := by decide +kernel
theorem dX7_inTanks_33 : decode cX7_inTanks 33 = .ok (.ireturn, 1) := by decide +kernel
theorem dX7_varietyNow_0 : decode cX7_varietyNow 0 = .ok (.iload_n 2, 1) := by decide +kernel
theorem dX7_varietyNow_1 : decode cX7_varietyNow 1 = .ok (.tableswitch 122 0 6 #[43, 53, 63, 69, 92, 102, 112], 43) := by decide +kernel
theorem dX7_varietyNow_44 : decode cX7_varietyNow 44 = .ok (.aload_n 0, 1) := by decide +kernel
theorem dX7_varietyNow_45 : decode cX7_varietyNow 45 = .ok (.getfield 7, 3) := by decide +kernel
theorem dX7_varietyNow_48 : decode cX7_varietyNow 48 = .ok (.bipush 15, 2) := by decide +kernel
theorem dX7_varietyNow_50 : decode cX7_varietyNow 50 = .ok (.iload_n 1, 1) := by decide +kernel
theorem dX7_varietyNow_51 : decode cX7_varietyNow 51 = .ok (.iadd, 1) := by decide +kernel
theorem dX7_varietyNow_52 : decode cX7_varietyNow 52 = .ok (.iaload, 1) := by decide +kernel
theorem dX7_varietyNow_53 : decode cX7_varietyNow 53 = .ok (.ireturn, 1) := by decide +kernel
theorem dX7_varietyNow_54 : decode cX7_varietyNow 54 = .ok (.aload_n 0, 1) := by decide +kernel
theorem dX7_varietyNow_55 : decode cX7_varietyNow 55 = .ok (.getfield 7, 3) := by decide +kernel
theorem dX7_varietyNow_58 : decode cX7_varietyNow 58 = .ok (.bipush 20, 2) := by decide +kernel
theorem dX7_varietyNow_60 : decode cX7_varietyNow 60 = .ok (.iload_n 1, 1) := by decide +kernel
theorem dX7_varietyNow_61 : decode cX7_varietyNow 61 = .ok (.iadd, 1) := by decide +kernel
theorem dX7_varietyNow_62 : decode cX7_varietyNow 62 = .ok (.iaload, 1) := by decide +kernel
theorem dX7_varietyNow_63 : decode cX7_varietyNow 63 = .ok (.ireturn, 1) := by decide +kernel
theorem dX7_varietyNow_64 : decode cX7_varietyNow 64 = .ok (.aload_n 0, 1) := by decide +kernel
theorem dX7_varietyNow_65 : decode cX7_varietyNow 65 = .ok (.iload_n 1, 1) := by decide +kernel
theorem dX7_varietyNow_66 : decode cX7_varietyNow 66 = .ok (.invokevirtual 222, 3) := by decide +kernel
theorem dX7_varietyNow_69 : decode cX7_varietyNow 69 = .ok (.ireturn, 1) := by decide +kernel
theorem dX7_varietyNow_70 : decode cX7_varietyNow 70 = .ok (.aload_n 0, 1) := by decide +kernel
theorem dX7_varietyNow_71 : decode cX7_varietyNow 71 = .ok (.getfield 7, 3) := by decide +kernel
theorem dX7_varietyNow_74 : decode cX7_varietyNow 74 = .ok (.bipush 10, 2) := by decide +kernel
theorem dX7_varietyNow_76 : decode cX7_varietyNow 76 = .ok (.iaload, 1) := by decide +kernel
theorem dX7_varietyNow_77 : decode cX7_varietyNow 77 = .ok (.iload_n 1, 1) := by decide +kernel
theorem dX7_varietyNow_78 : decode cX7_varietyNow 78 = .ok (.if_icmp .ne 13, 3) := by decide +kernel
theorem dX7_varietyNow_81 : decode cX7_varietyNow 81 = .ok (.aload_n 0, 1) := by decide +kernel
theorem dX7_varietyNow_82 : decode cX7_varietyNow 82 = .ok (.getfield 7, 3) := by decide +kernel
theorem dX7_varietyNow_85 : decode cX7_varietyNow 85 = .ok (.bipush 11, 2) := by decide +kernel
theorem dX7_varietyNow_87 : decode cX7_varietyNow 87 = .ok (.iaload, 1) := by decide +kernel
theorem dX7_varietyNow_88 : decode cX7_varietyNow 88 = .ok (.goto 4, 3) := by decide +kernel
theorem dX7_varietyNow_91 : decode cX7_varietyNow 91 = .ok (.iconst 0, 1) := by decide +kernel
theorem dX7_varietyNow_92 : decode cX7_varietyNow 92 = .ok (.ireturn, 1) := by decide +kernel
theorem dX7_varietyNow_93 : decode cX7_varietyNow 93 = .ok (.aload_n 0, 1) := by decide +kernel
theorem dX7_varietyNow_94 : decode cX7_varietyNow 94 = .ok (.getfield 7, 3) := by decide +kernel
theorem dX7_varietyNow_97 : decode cX7_varietyNow 97 = .ok (.bipush 25, 2) := by decide +kernel
theorem dX7_varietyNow_99 : decode cX7_varietyNow 99 = .ok (.iload_n 1, 1) := by decide +kernel
theorem dX7_varietyNow_100 : decode cX7_varietyNow 100 = .ok (.iadd, 1) := by decide +kernel
theorem dX7_varietyNow_101 : decode cX7_varietyNow 101 = .ok (.iaload, 1) := by decide +kernel
theorem dX7_varietyNow_102 : decode cX7_varietyNow 102 = .ok (.ireturn, 1) := by decide +kernel
theorem dX7_varietyNow_103 : decode cX7_varietyNow 103 = .ok (.aload_n 0, 1) := by decide +kernel
theorem dX7_varietyNow_104 : decode cX7_varietyNow 104 = .ok (.getfield 7, 3) := by decide +kernel
theorem dX7_varietyNow_107 : decode cX7_varietyNow 107 = .ok (.bipush 30, 2) := by decide +kernel
theorem dX7_varietyNow_109 : decode cX7_varietyNow 109 = .ok (.iload_n 1, 1) := by decide +kernel
theorem dX7_varietyNow_110 : decode cX7_varietyNow 110 = .ok (.iadd, 1) := by decide +kernel
theorem dX7_varietyNow_111 : decode cX7_varietyNow 111 = .ok (.iaload, 1) := by decide +kernel
theorem dX7_varietyNow_112 : decode cX7_varietyNow 112 = .ok (.ireturn, 1) := by decide +kernel
theorem dX7_varietyNow_113 : decode cX7_varietyNow 113 = .ok (.aload_n 0, 1) := by decide +kernel
theorem dX7_varietyNow_114 : decode cX7_varietyNow 114 = .ok (.getfield 7, 3) := by decide +kernel
theorem dX7_varietyNow_117 : decode cX7_varietyNow 117 = .ok (.bipush 35, 2) := by decide +kernel
theorem dX7_varietyNow_119 : decode cX7_varietyNow 119 = .ok (.iload_n 1, 1) := by decide +kernel
theorem dX7_varietyNow_120 : decode cX7_varietyNow 120 = .ok (.iadd, 1) := by decide +kernel
theorem dX7_varietyNow_121 : decode cX7_varietyNow 121 = .ok (.iaload, 1) := by decide +kernel
theorem dX7_varietyNow_122 : decode cX7_varietyNow 122 = .ok (.ireturn, 1) := by decide +kernel
theorem dX7_varietyNow_123 : decode cX7_varietyNow 123 = .ok (.aload_n 0, 1) := by decide +kernel
theorem dX7_varietyNow_124 : decode cX7_varietyNow 124 = .ok (.iconst (-1), 1) := by decide +kernel
theorem dX7_varietyNow_125 : decode cX7_varietyNow 125 = .ok (.iload_n 1, 1) := by decide +kernel
theorem dX7_varietyNow_126 : decode cX7_varietyNow 126 = .ok (.iconst 1, 1) := by decide +kernel
theorem dX7_varietyNow_127 : decode cX7_varietyNow 127 = .ok (.invokevirtual 209, 3) := by decide +kernel
theorem dX7_varietyNow_130 : decode cX7_varietyNow 130 = .ok (.ireturn, 1) := by decide +kernel
theorem dX7_variety_0 : decode cX7_variety 0 = .ok (.aload_n 0, 1) := by decide +kernel
theorem dX7_variety_1 : decode cX7_variety 1 = .ok (.iload_n 1, 1) := by decide +kernel
theorem dX7_variety_2 : decode cX7_variety 2 = .ok (.invokestatic 59, 3) := by decide +kernel
theorem dX7_variety_5 : decode cX7_variety 5 = .ok (.ifCond .ne 7, 3) := by decide +kernel
theorem dX7_variety_8 : decode cX7_variety 8 = .ok (.iconst 1, 1) := by decide +kernel
theorem dX7_variety_9 : decode cX7_variety 9 = .ok (.goto 18, 3) := by decide +kernel
theorem dX7_variety_12 : decode cX7_variety 12 = .ok (.iload_n 2, 1) := by decide +kernel
theorem dX7_variety_13 : decode cX7_variety 13 = .ok (.iconst 0, 1) := by decide +kernel
theorem dX7_variety_14 : decode cX7_variety 14 = .ok (.bipush 7, 2) := by decide +kernel
theorem dX7_variety_16 : decode cX7_variety 16 = .ok (.invokestatic 38, 3) := by decide +kernel
theorem dX7_variety_19 : decode cX7_variety 19 = .ok (.ifCond .eq 7, 3) := by decide +kernel
theorem dX7_variety_22 : decode cX7_variety 22 = .ok (.iconst 0, 1) := by decide +kernel
theorem dX7_variety_23 : decode cX7_variety 23 = .ok (.goto 4, 3) := by decide +kernel
theorem dX7_variety_26 : decode cX7_variety 26 = .ok (.iconst 2, 1) := by decide +kernel
theorem dX7_variety_27 : decode cX7_variety 27 = .ok (.putfield 31, 3) := by decide +kernel
theorem dX7_variety_30 : decode cX7_variety 30 = .ok (.aload_n 0, 1) := by decide +kernel
theorem dX7_variety_31 : decode cX7_variety 31 = .ok (.getfield 31, 3) := by decide +kernel
theorem dX7_variety_34 : decode cX7_variety 34 = .ok (.ifCond .le 7, 3) := by decide +kernel
theorem dX7_variety_37 : decode cX7_variety 37 = .ok (.iconst 0, 1) := by decide +kernel
theorem dX7_variety_38 : decode cX7_variety 38 = .ok (.goto 9, 3) := by decide +kernel
theorem dX7_variety_41 : decode cX7_variety 41 = .ok (.aload_n 0, 1) := by decide +kernel
theorem dX7_variety_42 : decode cX7_variety 42 = .ok (.iload_n 1, 1) := by decide +kernel
theorem dX7_variety_43 : decode cX7_variety 43 = .ok (.iload_n 2, 1) := by decide +kernel
theorem dX7_variety_44 : decode cX7_variety 44 = .ok (.invokevirtual 225, 3) := by decide +kernel
theorem dX7_variety_47 : decode cX7_variety 47 = .ok (.ireturn, 1) := by decide +kernel
theorem dX7_sumOil_0 : decode cX7_sumOil 0 = .ok (.iconst 0, 1) := by decide +kernel
theorem dX7_sumOil_1 : decode cX7_sumOil 1 = .ok (.istore_n 2, 1) := by decide +kernel
theorem dX7_sumOil_2 : decode cX7_sumOil 2 = .ok (.iconst 0, 1) := by decide +kernel
theorem dX7_sumOil_3 : decode cX7_sumOil 3 = .ok (.istore_n 3, 1) := by decide +kernel
theorem dX7_sumOil_4 : decode cX7_sumOil 4 = .ok (.iload_n 3, 1) := by decide +kernel
theorem dX7_sumOil_5 : decode cX7_sumOil 5 = .ok (.aload_n 0, 1) := by decide +kernel
theorem dX7_sumOil_6 : decode cX7_sumOil 6 = .ok (.getfield 7, 3) := by decide +kernel
theorem dX7_sumOil_9 : decode cX7_sumOil 9 = .ok (.bipush 9, 2) := by decide +kernel
theorem dX7_sumOil_11 : decode cX7_sumOil 11 = .ok (.iaload, 1) := by decide +kernel
theorem dX7_sumOil_12 : decode cX7_sumOil 12 = .ok (.if_icmp .ge 33, 3) := by decide +kernel
theorem dX7_sumOil_15 : decode cX7_sumOil 15 = .ok (.iload_n 2, 1) := by decide +kernel
theorem dX7_sumOil_16 : decode cX7_sumOil 16 = .ok (.iload_n 1, 1) := by decide +kernel
theorem dX7_sumOil_17 : decode cX7_sumOil 17 = .ok (.ifCond .eq 11, 3) := by decide +kernel
theorem dX7_sumOil_20 : decode cX7_sumOil 20 = .ok (.aload_n 0, 1) := by decide +kernel
theorem dX7_sumOil_21 : decode cX7_sumOil 21 = .ok (.iload_n 3, 1) := by decide +kernel
theorem dX7_sumOil_22 : decode cX7_sumOil 22 = .ok (.invokevirtual 53, 3) := by decide +kernel
theorem dX7_sumOil_25 : decode cX7_sumOil 25 = .ok (.ifCond .ne 11, 3) := by decide +kernel
theorem dX7_sumOil_28 : decode cX7_sumOil 28 = .ok (.aload_n 0, 1) := by decide +kernel
theorem dX7_sumOil_29 : decode cX7_sumOil 29 = .ok (.iload_n 3, 1) := by decide +kernel
theorem dX7_sumOil_30 : decode cX7_sumOil 30 = .ok (.invokevirtual 46, 3) := by decide +kernel
theorem dX7_sumOil_33 : decode cX7_sumOil 33 = .ok (.goto 4, 3) := by decide +kernel
theorem dX7_sumOil_36 : decode cX7_sumOil 36 = .ok (.iconst 0, 1) := by decide +kernel
theorem dX7_sumOil_37 : decode cX7_sumOil 37 = .ok (.iadd, 1) := by decide +kernel
theorem dX7_sumOil_38 : decode cX7_sumOil 38 = .ok (.istore_n 2, 1) := by decide +kernel
theorem dX7_sumOil_39 : decode cX7_sumOil 39 = .ok (.iinc 3 1, 3) := by decide +kernel
theorem dX7_sumOil_42 : decode cX7_sumOil 42 = .ok (.goto (-38), 3) := by decide +kernel
theorem dX7_sumOil_45 : decode cX7_sumOil 45 = .ok (.iload_n 2, 1) := by decide +kernel
theorem dX7_sumOil_46 : decode cX7_sumOil 46 = .ok (.ireturn, 1) := by decide +kernel
theorem dX7_accounts_0 : decode cX7_accounts 0 = .ok (.iconst 0, 1) := by decide +kernel
theorem dX7_accounts_1 : decode cX7_accounts 1 = .ok (.istore_n 1, 1) := by decide +kernel
theorem dX7_accounts_2 : decode cX7_accounts 2 = .ok (.iconst 0, 1) := by decide +kernel
theorem dX7_accounts_3 : decode cX7_accounts 3 = .ok (.istore_n 2, 1) := by decide +kernel
theorem dX7_accounts_4 : decode cX7_accounts 4 = .ok (.iload_n 2, 1) := by decide +kernel
theorem dX7_accounts_5 : decode cX7_accounts 5 = .ok (.aload_n 0, 1) := by decide +kernel
theorem dX7_accounts_6 : decode cX7_accounts 6 = .ok (.getfield 7, 3) := by decide +kernel
theorem dX7_accounts_9 : decode cX7_accounts 9 = .ok (.bipush 7, 2) := by decide +kernel
theorem dX7_accounts_11 : decode cX7_accounts 11 = .ok (.iaload, 1) := by decide +kernel
theorem dX7_accounts_12 : decode cX7_accounts 12 = .ok (.if_icmp .ge 21, 3) := by decide +kernel
theorem dX7_accounts_15 : decode cX7_accounts 15 = .ok (.iload_n 1, 1) := by decide +kernel
theorem dX7_accounts_16 : decode cX7_accounts 16 = .ok (.aload_n 0, 1) := by decide +kernel
theorem dX7_accounts_17 : decode cX7_accounts 17 = .ok (.getfield 7, 3) := by decide +kernel
theorem dX7_accounts_20 : decode cX7_accounts 20 = .ok (.bipush 40, 2) := by decide +kernel
theorem dX7_accounts_22 : decode cX7_accounts 22 = .ok (.iload_n 2, 1) := by decide +kernel
theorem dX7_accounts_23 : decode cX7_accounts 23 = .ok (.iadd, 1) := by decide +kernel
theorem dX7_accounts_24 : decode cX7_accounts 24 = .ok (.iaload, 1) := by decide +kernel
theorem dX7_accounts_25 : decode cX7_accounts 25 = .ok (.iadd, 1) := by decide +kernel
theorem dX7_accounts_26 : decode cX7_accounts 26 = .ok (.istore_n 1, 1) := by decide +kernel
theorem dX7_accounts_27 : decode cX7_accounts 27 = .ok (.iinc 2 1, 3) := by decide +kernel
theorem dX7_accounts_30 : decode cX7_accounts 30 = .ok (.goto (-26), 3) := by decide +kernel
theorem dX7_accounts_33 : decode cX7_accounts 33 = .ok (.iload_n 1, 1) := by decide +kernel
theorem dX7_accounts_34 : decode cX7_accounts 34 = .ok (.ireturn, 1) := by decide +kernel
theorem dX7_counted_0 : decode cX7_counted 0 = .ok (.iload_n 1, 1) := by decide +kernel
theorem dX7_counted_1 : decode cX7_counted 1 = .ok (.tableswitch 133 0 11 #[63, 71, 71, 88, 96, 96, 96, 96, 108, 114, 119, 125], 63) := by decide +kernel
theorem dX7_counted_64 : decode cX7_counted 64 = .ok (.aload_n 0, 1) := by decide +kernel
theorem dX7_counted_65 : decode cX7_counted 65 = .ok (.getfield 7, 3) := by decide +kernel
theorem dX7_counted_68 : decode cX7_counted 68 = .ok (.bipush 7, 2) := by decide +kernel
theorem dX7_counted_70 : decode cX7_counted 70 = .ok (.iaload, 1) := by decide +kernel
theorem dX7_counted_71 : decode cX7_counted 71 = .ok (.ireturn, 1) := by decide +kernel
theorem dX7_counted_72 : decode cX7_counted 72 = .ok (.aload_n 0, 1) := by decide +kernel
theorem dX7_counted_73 : decode cX7_counted 73 = .ok (.iconst (-1), 1) := by decide +kernel
theorem dX7_counted_74 : decode cX7_counted 74 = .ok (.iconst (-1), 1) := by decide +kernel
theorem dX7_counted_75 : decode cX7_counted 75 = .ok (.iload_n 1, 1) := by decide +kernel
theorem dX7_counted_76 : decode cX7_counted 76 = .ok (.iconst 2, 1) := by decide +kernel
theorem dX7_counted_77 : decode cX7_counted 77 = .ok (.if_icmp .ne 7, 3) := by decide +kernel
theorem dX7_counted_80 : decode cX7_counted 80 = .ok (.iconst 1, 1) := by decide +kernel
theorem dX7_counted_81 : decode cX7_counted 81 = .ok (.goto 4, 3) := by decide +kernel
theorem dX7_counted_84 : decode cX7_counted 84 = .ok (.iconst 0, 1) := by decide +kernel
theorem dX7_counted_85 : decode cX7_counted 85 = .ok (.invokevirtual 209, 3) := by decide +kernel
theorem dX7_counted_88 : decode cX7_counted 88 = .ok (.ireturn, 1) := by decide +kernel
theorem dX7_counted_89 : decode cX7_counted 89 = .ok (.aload_n 0, 1) := by decide +kernel
theorem dX7_counted_90 : decode cX7_counted 90 = .ok (.getfield 7, 3) := by decide +kernel
theorem dX7_counted_93 : decode cX7_counted 93 = .ok (.bipush 9, 2) := by decide +kernel
theorem dX7_counted_95 : decode cX7_counted 95 = .ok (.iaload, 1) := by decide +kernel
theorem dX7_counted_96 : decode cX7_counted 96 = .ok (.ireturn, 1) := by decide +kernel
theorem dX7_counted_97 : decode cX7_counted 97 = .ok (.aload_n 0, 1) := by decide +kernel
theorem dX7_counted_98 : decode cX7_counted 98 = .ok (.getfield 7, 3) := by decide +kernel
theorem dX7_counted_101 : decode cX7_counted 101 = .ok (.bipush 10, 2) := by decide +kernel
theorem dX7_counted_103 : decode cX7_counted 103 = .ok (.iload_n 1, 1) := by decide +kernel
theorem dX7_counted_104 : decode cX7_counted 104 = .ok (.iadd, 1) := by decide +kernel
theorem dX7_counted_105 : decode cX7_counted 105 = .ok (.iconst 4, 1) := by decide +kernel
theorem dX7_counted_106 : decode cX7_counted 106 = .ok (.isub, 1) := by decide +kernel
theorem dX7_counted_107 : decode cX7_counted 107 = .ok (.iaload, 1) := by decide +kernel
theorem dX7_counted_108 : decode cX7_counted 108 = .ok (.ireturn, 1) := by decide +kernel
theorem dX7_counted_109 : decode cX7_counted 109 = .ok (.aload_n 0, 1) := by decide +kernel
theorem dX7_counted_110 : decode cX7_counted 110 = .ok (.iconst 0, 1) := by decide +kernel
theorem dX7_counted_111 : decode cX7_counted 111 = .ok (.invokevirtual 228, 3) := by decide +kernel
theorem dX7_counted_114 : decode cX7_counted 114 = .ok (.ireturn, 1) := by decide +kernel
theorem dX7_counted_115 : decode cX7_counted 115 = .ok (.aload_n 0, 1) := by decide +kernel
theorem dX7_counted_116 : decode cX7_counted 116 = .ok (.invokevirtual 232, 3) := by decide +kernel
theorem dX7_counted_119 : decode cX7_counted 119 = .ok (.ireturn, 1) := by decide +kernel
theorem dX7_counted_120 : decode cX7_counted 120 = .ok (.aload_n 0, 1) := by decide +kernel
theorem dX7_counted_121 : decode cX7_counted 121 = .ok (.iconst 1, 1) := by decide +kernel
theorem dX7_counted_122 : decode cX7_counted 122 = .ok (.invokevirtual 228, 3) := by decide +kernel
theorem dX7_counted_125 : decode cX7_counted 125 = .ok (.ireturn, 1) := by decide +kernel
theorem dX7_counted_126 : decode cX7_counted 126 = .ok (.aload_n 0, 1) := by decide +kernel
theorem dX7_counted_127 : decode cX7_counted 127 = .ok (.getfield 7, 3) := by decide +kernel
theorem dX7_counted_130 : decode cX7_counted 130 = .ok (.bipush 14, 2) := by decide +kernel
theorem dX7_counted_132 : decode cX7_counted 132 = .ok (.iaload, 1) := by decide +kernel
theorem dX7_counted_133 : decode cX7_counted 133 = .ok (.ireturn, 1) := by decide +kernel
theorem dX7_counted_134 : decode cX7_counted 134 = .ok (.aload_n 0, 1) := by decide +kernel
theorem dX7_counted_135 : decode cX7_counted 135 = .ok (.getfield 35, 3) := by decide +kernel
theorem dX7_counted_138 : decode cX7_counted 138 = .ok (.ireturn, 1) := by decide +kernel
theorem dX7_count_0 : decode cX7_count 0 = .ok (.aload_n 0, 1) := by decide +kernel
theorem dX7_count_1 : decode cX7_count 1 = .ok (.iload_n 1, 1) := by decide +kernel
theorem dX7_count_2 : decode cX7_count 2 = .ok (.iconst 0, 1) := by decide +kernel
theorem dX7_count_3 : decode cX7_count 3 = .ok (.bipush 12, 2) := by decide +kernel
theorem dX7_count_5 : decode cX7_count 5 = .ok (.invokestatic 38, 3) := by decide +kernel
theorem dX7_count_8 : decode cX7_count 8 = .ok (.ifCond .eq 7, 3) := by decide +kernel
theorem dX7_count_11 : decode cX7_count 11 = .ok (.iconst 0, 1) := by decide +kernel
theorem dX7_count_12 : decode cX7_count 12 = .ok (.goto 4, 3) := by decide +kernel
theorem dX7_count_15 : decode cX7_count 15 = .ok (.iconst 1, 1) := by decide +kernel
theorem dX7_count_16 : decode cX7_count 16 = .ok (.putfield 31, 3) := by decide +kernel
theorem dX7_count_19 : decode cX7_count 19 = .ok (.aload_n 0, 1) := by decide +kernel
theorem dX7_count_20 : decode cX7_count 20 = .ok (.getfield 31, 3) := by decide +kernel
theorem dX7_count_23 : decode cX7_count 23 = .ok (.ifCond .le 7, 3) := by decide +kernel
theorem dX7_count_26 : decode cX7_count 26 = .ok (.iconst 0, 1) := by decide +kernel
theorem dX7_count_27 : decode cX7_count 27 = .ok (.goto 8, 3) := by decide +kernel
theorem dX7_count_30 : decode cX7_count 30 = .ok (.aload_n 0, 1) := by decide +kernel
theorem dX7_count_31 : decode cX7_count 31 = .ok (.iload_n 1, 1) := by decide +kernel
theorem dX7_count_32 : decode cX7_count 32 = .ok (.invokevirtual 235, 3) := by decide +kernel
theorem dX7_count_35 : decode cX7_count 35 = .ok (.ireturn, 1) := by decide +kernel
theorem dX7_setting_0 : decode cX7_setting 0 = .ok (.aload_n 0, 1) := by decide +kernel
theorem dX7_setting_1 : decode cX7_setting 1 = .ok (.iload_n 1, 1) := by decide +kernel
theorem dX7_setting_2 : decode cX7_setting 2 = .ok (.invokestatic 77, 3) := by decide +kernel
theorem dX7_setting_5 : decode cX7_setting 5 = .ok (.ifCond .eq 7, 3) := by decide +kernel
theorem dX7_setting_8 : decode cX7_setting 8 = .ok (.iconst 0, 1) := by decide +kernel
theorem dX7_setting_9 : decode cX7_setting 9 = .ok (.goto 4, 3) := by decide +kernel
theorem dX7_setting_12 : decode cX7_setting 12 = .ok (.iconst 1, 1) := by decide +kernel
theorem dX7_setting_13 : decode cX7_setting 13 = .ok (.putfield 31, 3) := by decide +kernel
theorem dX7_setting_16 : decode cX7_setting 16 = .ok (.aload_n 0, 1) := by decide +kernel
theorem dX7_setting_17 : decode cX7_setting 17 = .ok (.getfield 31, 3) := by decide +kernel
theorem dX7_setting_20 : decode cX7_setting 20 = .ok (.ifCond .le 7, 3) := by decide +kernel
theorem dX7_setting_23 : decode cX7_setting 23 = .ok (.iconst 0, 1) := by decide +kernel
theorem dX7_setting_24 : decode cX7_setting 24 = .ok (.goto 11, 3) := by decide +kernel
theorem dX7_setting_27 : decode cX7_setting 27 = .ok (.aload_n 0, 1) := by decide +kernel
theorem dX7_setting_28 : decode cX7_setting 28 = .ok (.getfield 7, 3) := by decide +kernel
theorem dX7_setting_31 : decode cX7_setting 31 = .ok (.iconst 0, 1) := by decide +kernel
theorem dX7_setting_32 : decode cX7_setting 32 = .ok (.iload_n 1, 1) := by decide +kernel
theorem dX7_setting_33 : decode cX7_setting 33 = .ok (.iadd, 1) := by decide +kernel
theorem dX7_setting_34 : decode cX7_setting 34 = .ok (.iaload, 1) := by decide +kernel
theorem dX7_setting_35 : decode cX7_setting 35 = .ok (.ireturn, 1) := by decide +kernel
theorem dX7_whyNot_0 : decode cX7_whyNot 0 = .ok (.aload_n 0, 1) := by decide +kernel
theorem dX7_whyNot_1 : decode cX7_whyNot 1 = .ok (.aload_n 0, 1) := by decide +kernel
theorem dX7_whyNot_2 : decode cX7_whyNot 2 = .ok (.iload_n 1, 1) := by decide +kernel
theorem dX7_whyNot_3 : decode cX7_whyNot 3 = .ok (.invokevirtual 137, 3) := by decide +kernel
theorem dX7_whyNot_6 : decode cX7_whyNot 6 = .ok (.ifCond .eq 7, 3) := by decide +kernel
theorem dX7_whyNot_9 : decode cX7_whyNot 9 = .ok (.iconst 0, 1) := by decide +kernel
theorem dX7_whyNot_10 : decode cX7_whyNot 10 = .ok (.goto 4, 3) := by decide +kernel
theorem dX7_whyNot_13 : decode cX7_whyNot 13 = .ok (.iconst 1, 1) := by decide +kernel
theorem dX7_whyNot_14 : decode cX7_whyNot 14 = .ok (.putfield 31, 3) := by decide +kernel
theorem dX7_whyNot_17 : decode cX7_whyNot 17 = .ok (.aload_n 0, 1) := by decide +kernel
theorem dX7_whyNot_18 : decode cX7_whyNot 18 = .ok (.getfield 31, 3) := by decide +kernel
theorem dX7_whyNot_21 : decode cX7_whyNot 21 = .ok (.ifCond .le 7, 3) := by decide +kernel
theorem dX7_whyNot_24 : decode cX7_whyNot 24 = .ok (.iconst 0, 1) := by decide +kernel
theorem dX7_whyNot_25 : decode cX7_whyNot 25 = .ok (.goto 9, 3) := by decide +kernel
theorem dX7_whyNot_28 : decode cX7_whyNot 28 = .ok (.aload_n 0, 1) := by decide +kernel
theorem dX7_whyNot_29 : decode cX7_whyNot 29 = .ok (.iload_n 1, 1) := by decide +kernel
theorem dX7_whyNot_30 : decode cX7_whyNot 30 = .ok (.iload_n 2, 1) := by decide +kernel
theorem dX7_whyNot_31 : decode cX7_whyNot 31 = .ok (.invokevirtual 140, 3) := by decide +kernel
theorem dX7_whyNot_34 : decode cX7_whyNot 34 = .ok (.ireturn, 1) := by decide +kernel
theorem dX7_nextNow_0 : decode cX7_nextNow 0 = .ok (.aload_n 0, 1) := by decide +kernel
theorem dX7_nextNow_1 : decode cX7_nextNow 1 = .ok (.invokevirtual 123, 3) := by decide +kernel
theorem dX7_nextNow_4 : decode cX7_nextNow 4 = .ok (.ifCond .ne 5, 3) := by decide +kernel
theorem dX7_nextNow_7 : decode cX7_nextNow 7 = .ok (.iconst (-1), 1) := by decide +kernel
theorem dX7_nextNow_8 : decode cX7_nextNow 8 = .ok (.ireturn, 1) := by decide +kernel
theorem dX7_nextNow_9 : decode cX7_nextNow 9 = .ok (.iload_n 1, 1) := by decide +kernel
theorem dX7_nextNow_10 : decode cX7_nextNow 10 = .ok (.ifCond .ne 10, 3) := by decide +kernel
theorem dX7_nextNow_13 : decode cX7_nextNow 13 = .ok (.aload_n 0, 1) := by decide +kernel
theorem dX7_nextNow_14 : decode cX7_nextNow 14 = .ok (.getfield 93, 3) := by decide +kernel
theorem dX7_nextNow_17 : decode cX7_nextNow 17 = .ok (.goto 48, 3) := by decide +kernel
theorem dX7_nextNow_20 : decode cX7_nextNow 20 = .ok (.iload_n 1, 1) := by decide +kernel
theorem dX7_nextNow_21 : decode cX7_nextNow 21 = .ok (.iconst 1, 1) := by decide +kernel
theorem dX7_nextNow_22 : decode cX7_nextNow 22 = .ok (.if_icmp .ne 10, 3) := by decide +kernel
theorem dX7_nextNow_25 : decode cX7_nextNow 25 = .ok (.aload_n 0, 1) := by decide +kernel
theorem dX7_nextNow_26 : decode cX7_nextNow 26 = .ok (.getfield 102, 3) := by decide +kernel
theorem dX7_nextNow_29 : decode cX7_nextNow 29 = .ok (.goto 36, 3) := by decide +kernel
theorem dX7_nextNow_32 : decode cX7_nextNow 32 = .ok (.iload_n 1, 1) := by decide +kernel
theorem dX7_nextNow_33 : decode cX7_nextNow 33 = .ok (.iconst 2, 1) := by decide +kernel
theorem dX7_nextNow_34 : decode cX7_nextNow 34 = .ok (.if_icmp .ne 15, 3) := by decide +kernel
theorem dX7_nextNow_37 : decode cX7_nextNow 37 = .ok (.aload_n 0, 1) := by decide +kernel
theorem dX7_nextNow_38 : decode cX7_nextNow 38 = .ok (.getfield 108, 3) := by decide +kernel
theorem dX7_nextNow_41 : decode cX7_nextNow 41 = .ok (.aload_n 0, 1) := by decide +kernel
theorem dX7_nextNow_42 : decode cX7_nextNow 42 = .ok (.getfield 114, 3) := by decide +kernel
theorem dX7_nextNow_45 : decode cX7_nextNow 45 = .ok (.iadd, 1) := by decide +kernel
theorem dX7_nextNow_46 : decode cX7_nextNow 46 = .ok (.goto 19, 3) := by decide +kernel
theorem dX7_nextNow_49 : decode cX7_nextNow 49 = .ok (.iload_n 1, 1) := by decide +kernel
theorem dX7_nextNow_50 : decode cX7_nextNow 50 = .ok (.iconst 3, 1) := by decide +kernel
theorem dX7_nextNow_51 : decode cX7_nextNow 51 = .ok (.if_icmp .ne 10, 3) := by decide +kernel
theorem dX7_nextNow_54 : decode cX7_nextNow 54 = .ok (.aload_n 0, 1) := by decide +kernel
theorem dX7_nextNow_55 : decode cX7_nextNow 55 = .ok (.getfield 105, 3) := by decide +kernel
theorem dX7_nextNow_58 : decode cX7_nextNow 58 = .ok (.goto 7, 3) := by decide +kernel
theorem dX7_nextNow_61 : decode cX7_nextNow 61 = .ok (.aload_n 0, 1) := by decide +kernel
theorem dX7_nextNow_62 : decode cX7_nextNow 62 = .ok (.getfield 111, 3) := by decide +kernel
theorem dX7_nextNow_65 : decode cX7_nextNow 65 = .ok (.ireturn, 1) := by decide +kernel
theorem dX7_next_0 : decode cX7_next 0 = .ok (.aload_n 0, 1) := by decide +kernel
theorem dX7_next_1 : decode cX7_next 1 = .ok (.iload_n 1, 1) := by decide +kernel
theorem dX7_next_2 : decode cX7_next 2 = .ok (.iconst 0, 1) := by decide +kernel
theorem dX7_next_3 : decode cX7_next 3 = .ok (.iconst 4, 1) := by decide +kernel
theorem dX7_next_4 : decode cX7_next 4 = .ok (.invokestatic 38, 3) := by decide +kernel
theorem dX7_next_7 : decode cX7_next 7 = .ok (.ifCond .eq 7, 3) := by decide +kernel
theorem dX7_next_10 : decode cX7_next 10 = .ok (.iconst 0, 1) := by decide +kernel
theorem dX7_next_11 : decode cX7_next 11 = .ok (.goto 4, 3) := by decide +kernel
theorem dX7_next_14 : decode cX7_next 14 = .ok (.iconst 1, 1) := by decide +kernel
theorem dX7_next_15 : decode cX7_next 15 = .ok (.putfield 31, 3) := by decide +kernel
theorem dX7_next_18 : decode cX7_next 18 = .ok (.aload_n 0, 1) := by decide +kernel
theorem dX7_next_19 : decode cX7_next 19 = .ok (.getfield 31, 3) := by decide +kernel
theorem dX7_next_22 : decode cX7_next 22 = .ok (.ifCond .le 7, 3) := by decide +kernel
theorem dX7_next_25 : decode cX7_next 25 = .ok (.iconst 0, 1) := by decide +kernel
theorem dX7_next_26 : decode cX7_next 26 = .ok (.goto 8, 3) := by decide +kernel
theorem dX7_next_29 : decode cX7_next 29 = .ok (.aload_n 0, 1) := by decide +kernel
theorem dX7_next_30 : decode cX7_next 30 = .ok (.iload_n 1, 1) := by decide +kernel
theorem dX7_next_31 : decode cX7_next 31 = .ok (.invokevirtual 238, 3) := by decide +kernel
theorem dX7_next_34 : decode cX7_next 34 = .ok (.ireturn, 1) := by decide +kernel
theorem dX7_takenNow_0 : decode cX7_takenNow 0 = .ok (.aload_n 0, 1) := by decide +kernel
theorem dX7_takenNow_1 : decode cX7_takenNow 1 = .ok (.iload_n 1, 1) := by decide +kernel
theorem dX7_takenNow_2 : decode cX7_takenNow 2 = .ok (.invokevirtual 46, 3) := by decide +kernel
theorem dX7_takenNow_5 : decode cX7_takenNow 5 = .ok (.iload_n 2, 1) := by decide +kernel
theorem dX7_takenNow_6 : decode cX7_takenNow 6 = .ok (.if_icmp .ge 5, 3) := by decide +kernel
theorem dX7_takenNow_9 : decode cX7_takenNow 9 = .ok (.iconst (-1), 1) := by decide +kernel
theorem dX7_takenNow_10 : decode cX7_takenNow 10 = .ok (.ireturn, 1) := by decide +kernel
theorem dX7_takenNow_11 : decode cX7_takenNow 11 = .ok (.aload_n 0, 1) := by decide +kernel
theorem dX7_takenNow_12 : decode cX7_takenNow 12 = .ok (.iload_n 1, 1) := by decide +kernel
theorem dX7_takenNow_13 : decode cX7_takenNow 13 = .ok (.iload_n 2, 1) := by decide +kernel
theorem dX7_takenNow_14 : decode cX7_takenNow 14 = .ok (.invokevirtual 164, 3) := by decide +kernel
theorem dX7_takenNow_17 : decode cX7_takenNow 17 = .ok (.aload_n 0, 1) := by decide +kernel
theorem dX7_takenNow_18 : decode cX7_takenNow 18 = .ok (.getfield 22, 3) := by decide +kernel
theorem dX7_takenNow_21 : decode cX7_takenNow 21 = .ok (.iload_n 3, 1) := by decide +kernel
theorem dX7_takenNow_22 : decode cX7_takenNow 22 = .ok (.iaload, 1) := by decide +kernel
theorem dX7_takenNow_23 : decode cX7_takenNow 23 = .ok (.ireturn, 1) := by decide +kernel
theorem dX7_taken_0 : decode cX7_taken 0 = .ok (.aload_n 0, 1) := by decide +kernel
theorem dX7_taken_1 : decode cX7_taken 1 = .ok (.aload_n 0, 1) := by decide +kernel
theorem dX7_taken_2 : decode cX7_taken 2 = .ok (.iload_n 1, 1) := by decide +kernel
theorem dX7_taken_3 : decode cX7_taken 3 = .ok (.invokevirtual 137, 3) := by decide +kernel
theorem dX7_taken_6 : decode cX7_taken 6 = .ok (.ifCond .ne 7, 3) := by decide +kernel
theorem dX7_taken_9 : decode cX7_taken 9 = .ok (.iconst 1, 1) := by decide +kernel
theorem dX7_taken_10 : decode cX7_taken 10 = .ok (.goto 22, 3) := by decide +kernel
theorem dX7_taken_13 : decode cX7_taken 13 = .ok (.iload_n 2, 1) := by decide +kernel
theorem dX7_taken_14 : decode cX7_taken 14 = .ok (.invokestatic 161, 3) := by decide +kernel
theorem dX7_taken_17 : decode cX7_taken 17 = .ok (.ifCond .eq 14, 3) := by decide +kernel
theorem dX7_taken_20 : decode cX7_taken 20 = .ok (.iload_n 3, 1) := by decide +kernel
theorem dX7_taken_21 : decode cX7_taken 21 = .ok (.invokestatic 59, 3) := by decide +kernel
theorem dX7_taken_24 : decode cX7_taken 24 = .ok (.ifCond .eq 7, 3) := by decide +kernel
theorem dX7_taken_27 : decode cX7_taken 27 = .ok (.iconst 0, 1) := by decide +kernel
theorem dX7_taken_28 : decode cX7_taken 28 = .ok (.goto 4, 3) := by decide +kernel
theorem dX7_taken_31 : decode cX7_taken 31 = .ok (.iconst 2, 1) := by decide +kernel
theorem dX7_taken_32 : decode cX7_taken 32 = .ok (.putfield 31, 3) := by decide +kernel
theorem dX7_taken_35 : decode cX7_taken 35 = .ok (.aload_n 0, 1) := by decide +kernel
theorem dX7_taken_36 : decode cX7_taken 36 = .ok (.getfield 31, 3) := by decide +kernel
theorem dX7_taken_39 : decode cX7_taken 39 = .ok (.ifCond .le 7, 3) := by decide +kernel
theorem dX7_taken_42 : decode cX7_taken 42 = .ok (.iconst 0, 1) := by decide +kernel
theorem dX7_taken_43 : decode cX7_taken 43 = .ok (.goto 10, 3) := by decide +kernel
theorem dX7_taken_46 : decode cX7_taken 46 = .ok (.aload_n 0, 1) := by decide +kernel
theorem dX7_taken_47 : decode cX7_taken 47 = .ok (.iload_n 1, 1) := by decide +kernel
theorem dX7_taken_48 : decode cX7_taken 48 = .ok (.iload_n 2, 1) := by decide +kernel
theorem dX7_taken_49 : decode cX7_taken 49 = .ok (.iload_n 3, 1) := by decide +kernel
theorem dX7_taken_50 : decode cX7_taken 50 = .ok (.invokevirtual 241, 3) := by decide +kernel
theorem dX7_taken_53 : decode cX7_taken 53 = .ok (.ireturn, 1) := by decide +kernel
theorem dX7_oilBehind_0 : decode cX7_oilBehind 0 = .ok (.iconst 0, 1) := by decide +kernel
theorem dX7_oilBehind_1 : decode cX7_oilBehind 1 = .ok (.istore_n 3, 1) := by decide +kernel
theorem dX7_oilBehind_2 : decode cX7_oilBehind 2 = .ok (.iconst 0, 1) := by decide +kernel
theorem dX7_oilBehind_3 : decode cX7_oilBehind 3 = .ok (.istore 4, 2) := by decide +kernel
theorem dX7_oilBehind_5 : decode cX7_oilBehind 5 = .ok (.iload 4, 2) := by decide +kernel
theorem dX7_oilBehind_7 : decode cX7_oilBehind 7 = .ok (.iconst 5, 1) := by decide +kernel
theorem dX7_oilBehind_8 : decode cX7_oilBehind 8 = .ok (.if_icmp .ge 58, 3) := by decide +kernel
theorem dX7_oilBehind_11 : decode cX7_oilBehind 11 = .ok (.aload_n 0, 1) := by decide +kernel
theorem dX7_oilBehind_12 : decode cX7_oilBehind 12 = .ok (.iload_n 1, 1) := by decide +kernel
theorem dX7_oilBehind_13 : decode cX7_oilBehind 13 = .ok (.iconst 2, 1) := by decide +kernel
theorem dX7_oilBehind_14 : decode cX7_oilBehind 14 = .ok (.iload 4, 2) := by decide +kernel
theorem dX7_oilBehind_16 : decode cX7_oilBehind 16 = .ok (.iadd, 1) := by decide +kernel
theorem dX7_oilBehind_17 : decode cX7_oilBehind 17 = .ok (.invokevirtual 42, 3) := by decide +kernel
theorem dX7_oilBehind_20 : decode cX7_oilBehind 20 = .ok (.istore 5, 2) := by decide +kernel
theorem dX7_oilBehind_22 : decode cX7_oilBehind 22 = .ok (.iconst 0, 1) := by decide +kernel
theorem dX7_oilBehind_23 : decode cX7_oilBehind 23 = .ok (.istore 6, 2) := by decide +kernel
theorem dX7_oilBehind_25 : decode cX7_oilBehind 25 = .ok (.iload 6, 2) := by decide +kernel
theorem dX7_oilBehind_27 : decode cX7_oilBehind 27 = .ok (.iload_n 2, 1) := by decide +kernel
theorem dX7_oilBehind_28 : decode cX7_oilBehind 28 = .ok (.if_icmp .ge 27, 3) := by decide +kernel
theorem dX7_oilBehind_31 : decode cX7_oilBehind 31 = .ok (.iload 5, 2) := by decide +kernel
theorem dX7_oilBehind_33 : decode cX7_oilBehind 33 = .ok (.iload 5, 2) := by decide +kernel
theorem dX7_oilBehind_35 : decode cX7_oilBehind 35 = .ok (.aload_n 0, 1) := by decide +kernel
theorem dX7_oilBehind_36 : decode cX7_oilBehind 36 = .ok (.getfield 7, 3) := by decide +kernel
theorem dX7_oilBehind_39 : decode cX7_oilBehind 39 = .ok (.iconst 3, 1) := by decide +kernel
theorem dX7_oilBehind_40 : decode cX7_oilBehind 40 = .ok (.iaload, 1) := by decide +kernel
theorem dX7_oilBehind_41 : decode cX7_oilBehind 41 = .ok (.imul, 1) := by decide +kernel
theorem dX7_oilBehind_42 : decode cX7_oilBehind 42 = .ok (.sipush 1000, 3) := by decide +kernel
theorem dX7_oilBehind_45 : decode cX7_oilBehind 45 = .ok (.idiv, 1) := by decide +kernel
theorem dX7_oilBehind_46 : decode cX7_oilBehind 46 = .ok (.isub, 1) := by decide +kernel
theorem dX7_oilBehind_47 : decode cX7_oilBehind 47 = .ok (.istore 5, 2) := by decide +kernel
theorem dX7_oilBehind_49 : decode cX7_oilBehind 49 = .ok (.iinc 6 1, 3) := by decide +kernel
theorem dX7_oilBehind_52 : decode cX7_oilBehind 52 = .ok (.goto (-27), 3) := by decide +kernel
theorem dX7_oilBehind_55 : decode cX7_oilBehind 55 = .ok (.iload_n 3, 1) := by decide +kernel
theorem dX7_oilBehind_56 : decode cX7_oilBehind 56 = .ok (.iload 5, 2) := by decide +kernel
theorem dX7_oilBehind_58 : decode cX7_oilBehind 58 = .ok (.iadd, 1) := by decide +kernel
theorem dX7_oilBehind_59 : decode cX7_oilBehind 59 = .ok (.istore_n 3, 1) := by decide +kernel
theorem dX7_oilBehind_60 : decode cX7_oilBehind 60 = .ok (.iinc 4 1, 3) := by decide +kernel
theorem dX7_oilBehind_63 : decode cX7_oilBehind 63 = .ok (.goto (-58), 3) := by decide +kernel
theorem dX7_oilBehind_66 : decode cX7_oilBehind 66 = .ok (.iload_n 3, 1) := by decide +kernel
theorem dX7_oilBehind_67 : decode cX7_oilBehind 67 = .ok (.ireturn, 1) := by decide +kernel
theorem dX7_oilIn_0 : decode cX7_oilIn 0 = .ok (.aload_n 0, 1) := by decide +kernel
theorem dX7_oilIn_1 : decode cX7_oilIn 1 = .ok (.aload_n 0, 1) := by decide +kernel
theorem dX7_oilIn_2 : decode cX7_oilIn 2 = .ok (.iload_n 1, 1) := by decide +kernel
theorem dX7_oilIn_3 : decode cX7_oilIn 3 = .ok (.invokevirtual 137, 3) := by decide +kernel
theorem dX7_oilIn_6 : decode cX7_oilIn 6 = .ok (.ifCond .ne 7, 3) := by decide +kernel
theorem dX7_oilIn_9 : decode cX7_oilIn 9 = .ok (.iconst 1, 1) := by decide +kernel
theorem dX7_oilIn_10 : decode cX7_oilIn 10 = .ok (.goto 19, 3) := by decide +kernel
theorem dX7_oilIn_13 : decode cX7_oilIn 13 = .ok (.iload_n 2, 1) := by decide +kernel
theorem dX7_oilIn_14 : decode cX7_oilIn 14 = .ok (.iconst 0, 1) := by decide +kernel
theorem dX7_oilIn_15 : decode cX7_oilIn 15 = .ok (.sipush 200, 3) := by decide +kernel
theorem dX7_oilIn_18 : decode cX7_oilIn 18 = .ok (.invokestatic 38, 3) := by decide +kernel
theorem dX7_oilIn_21 : decode cX7_oilIn 21 = .ok (.ifCond .eq 7, 3) := by decide +kernel
theorem dX7_oilIn_24 : decode cX7_oilIn 24 = .ok (.iconst 0, 1) := by decide +kernel
theorem dX7_oilIn_25 : decode cX7_oilIn 25 = .ok (.goto 4, 3) := by decide +kernel
theorem dX7_oilIn_28 : decode cX7_oilIn 28 = .ok (.iconst 2, 1) := by decide +kernel
theorem dX7_oilIn_29 : decode cX7_oilIn 29 = .ok (.putfield 31, 3) := by decide +kernel
theorem dX7_oilIn_32 : decode cX7_oilIn 32 = .ok (.aload_n 0, 1) := by decide +kernel
theorem dX7_oilIn_33 : decode cX7_oilIn 33 = .ok (.getfield 31, 3) := by decide +kernel
theorem dX7_oilIn_36 : decode cX7_oilIn 36 = .ok (.ifCond .le 7, 3) := by decide +kernel
theorem dX7_oilIn_39 : decode cX7_oilIn 39 = .ok (.iconst 0, 1) := by decide +kernel
theorem dX7_oilIn_40 : decode cX7_oilIn 40 = .ok (.goto 9, 3) := by decide +kernel
theorem dX7_oilIn_43 : decode cX7_oilIn 43 = .ok (.aload_n 0, 1) := by decide +kernel
theorem dX7_oilIn_44 : decode cX7_oilIn 44 = .ok (.iload_n 1, 1) := by decide +kernel
theorem dX7_oilIn_45 : decode cX7_oilIn 45 = .ok (.iload_n 2, 1) := by decide +kernel
theorem dX7_oilIn_46 : decode cX7_oilIn 46 = .ok (.invokevirtual 245, 3) := by decide +kernel
theorem dX7_oilIn_49 : decode cX7_oilIn 49 = .ok (.ireturn, 1) := by decide +kernel
theorem dX7_lossNow_0 : decode cX7_lossNow 0 = .ok (.aload_n 0, 1) := by decide +kernel
theorem dX7_lossNow_1 : decode cX7_lossNow 1 = .ok (.invokevirtual 117, 3) := by decide +kernel
theorem dX7_lossNow_4 : decode cX7_lossNow 4 = .ok (.iconst 0, 1) := by decide +kernel
theorem dX7_lossNow_5 : decode cX7_lossNow 5 = .ok (.istore_n 2, 1) := by decide +kernel
theorem dX7_lossNow_6 : decode cX7_lossNow 6 = .ok (.aload_n 0, 1) := by decide +kernel
theorem dX7_lossNow_7 : decode cX7_lossNow 7 = .ok (.iload_n 1, 1) := by decide +kernel
theorem dX7_lossNow_8 : decode cX7_lossNow 8 = .ok (.invokevirtual 120, 3) := by decide +kernel
theorem dX7_lossNow_11 : decode cX7_lossNow 11 = .ok (.ifCond .eq 55, 3) := by decide +kernel
theorem dX7_lossNow_14 : decode cX7_lossNow 14 = .ok (.iload_n 2, 1) := by decide +kernel
theorem dX7_lossNow_15 : decode cX7_lossNow 15 = .ok (.aload_n 0, 1) := by decide +kernel
theorem dX7_lossNow_16 : decode cX7_lossNow 16 = .ok (.getfield 105, 3) := by decide +kernel
theorem dX7_lossNow_19 : decode cX7_lossNow 19 = .ok (.iadd, 1) := by decide +kernel
theorem dX7_lossNow_20 : decode cX7_lossNow 20 = .ok (.istore_n 2, 1) := by decide +kernel
theorem dX7_lossNow_21 : decode cX7_lossNow 21 = .ok (.aload_n 0, 1) := by decide +kernel
theorem dX7_lossNow_22 : decode cX7_lossNow 22 = .ok (.getfield 19, 3) := by decide +kernel
theorem dX7_lossNow_25 : decode cX7_lossNow 25 = .ok (.aload_n 0, 1) := by decide +kernel
theorem dX7_lossNow_26 : decode cX7_lossNow 26 = .ok (.getfield 93, 3) := by decide +kernel
theorem dX7_lossNow_29 : decode cX7_lossNow 29 = .ok (.iconst 0, 1) := by decide +kernel
theorem dX7_lossNow_30 : decode cX7_lossNow 30 = .ok (.iastore, 1) := by decide +kernel
theorem dX7_lossNow_31 : decode cX7_lossNow 31 = .ok (.aload_n 0, 1) := by decide +kernel
theorem dX7_lossNow_32 : decode cX7_lossNow 32 = .ok (.aload_n 0, 1) := by decide +kernel
theorem dX7_lossNow_33 : decode cX7_lossNow 33 = .ok (.getfield 111, 3) := by decide +kernel
theorem dX7_lossNow_36 : decode cX7_lossNow 36 = .ok (.ifCond .ne 7, 3) := by decide +kernel
theorem dX7_lossNow_39 : decode cX7_lossNow 39 = .ok (.iconst (-1), 1) := by decide +kernel
theorem dX7_lossNow_40 : decode cX7_lossNow 40 = .ok (.goto 12, 3) := by decide +kernel
theorem dX7_lossNow_43 : decode cX7_lossNow 43 = .ok (.aload_n 0, 1) := by decide +kernel
theorem dX7_lossNow_44 : decode cX7_lossNow 44 = .ok (.aload_n 0, 1) := by decide +kernel
theorem dX7_lossNow_45 : decode cX7_lossNow 45 = .ok (.getfield 93, 3) := by decide +kernel
theorem dX7_lossNow_48 : decode cX7_lossNow 48 = .ok (.iconst 1, 1) := by decide +kernel
theorem dX7_lossNow_49 : decode cX7_lossNow 49 = .ok (.invokevirtual 50, 3) := by decide +kernel
theorem dX7_lossNow_52 : decode cX7_lossNow 52 = .ok (.putfield 84, 3) := by decide +kernel
theorem dX7_lossNow_55 : decode cX7_lossNow 55 = .ok (.aload_n 0, 1) := by decide +kernel
theorem dX7_lossNow_56 : decode cX7_lossNow 56 = .ok (.aload_n 0, 1) := by decide +kernel
theorem dX7_lossNow_57 : decode cX7_lossNow 57 = .ok (.getfield 111, 3) := by decide +kernel
theorem dX7_lossNow_60 : decode cX7_lossNow 60 = .ok (.putfield 87, 3) := by decide +kernel
theorem dX7_lossNow_63 : decode cX7_lossNow 63 = .ok (.goto (-57), 3) := by decide +kernel
theorem dX7_lossNow_66 : decode cX7_lossNow 66 = .ok (.iload_n 2, 1) := by decide +kernel
theorem dX7_lossNow_67 : decode cX7_lossNow 67 = .ok (.ireturn, 1) := by decide +kernel
theorem dX7_lossBy_0 : decode cX7_lossBy 0 = .ok (.aload_n 0, 1) := by decide +kernel
theorem dX7_lossBy_1 : decode cX7_lossBy 1 = .ok (.iload_n 1, 1) := by decide +kernel
theorem dX7_lossBy_2 : decode cX7_lossBy 2 = .ok (.iconst 0, 1) := by decide +kernel
theorem dX7_lossBy_3 : decode cX7_lossBy 3 = .ok (.iconst 2, 1) := by decide +kernel
theorem dX7_lossBy_4 : decode cX7_lossBy 4 = .ok (.invokestatic 38, 3) := by decide +kernel
theorem dX7_lossBy_7 : decode cX7_lossBy 7 = .ok (.ifCond .eq 7, 3) := by decide +kernel
theorem dX7_lossBy_10 : decode cX7_lossBy 10 = .ok (.iconst 0, 1) := by decide +kernel
theorem dX7_lossBy_11 : decode cX7_lossBy 11 = .ok (.goto 4, 3) := by decide +kernel
theorem dX7_lossBy_14 : decode cX7_lossBy 14 = .ok (.iconst 1, 1) := by decide +kernel
theorem dX7_lossBy_15 : decode cX7_lossBy 15 = .ok (.putfield 31, 3) := by decide +kernel
theorem dX7_lossBy_18 : decode cX7_lossBy 18 = .ok (.aload_n 0, 1) := by decide +kernel
theorem dX7_lossBy_19 : decode cX7_lossBy 19 = .ok (.getfield 31, 3) := by decide +kernel
theorem dX7_lossBy_22 : decode cX7_lossBy 22 = .ok (.ifCond .le 7, 3) := by decide +kernel
theorem dX7_lossBy_25 : decode cX7_lossBy 25 = .ok (.iconst 0, 1) := by decide +kernel
theorem dX7_lossBy_26 : decode cX7_lossBy 26 = .ok (.goto 8, 3) := by decide +kernel
theorem dX7_lossBy_29 : decode cX7_lossBy 29 = .ok (.aload_n 0, 1) := by decide +kernel
theorem dX7_lossBy_30 : decode cX7_lossBy 30 = .ok (.iload_n 1, 1) := by decide +kernel
theorem dX7_lossBy_31 : decode cX7_lossBy 31 = .ok (.invokevirtual 248, 3) := by decide +kernel
theorem dX7_lossBy_34 : decode cX7_lossBy 34 = .ok (.ireturn, 1) := by decide +kernel
theorem dX7_tankForNext_0 : decode cX7_tankForNext 0 = .ok (.iconst (-1), 1) := by decide +kernel
theorem dX7_tankForNext_1 : decode cX7_tankForNext 1 = .ok (.istore_n 1, 1) := by decide +kernel
theorem dX7_tankForNext_2 : decode cX7_tankForNext 2 = .ok (.iconst 0, 1) := by decide +kernel
theorem dX7_tankForNext_3 : decode cX7_tankForNext 3 = .ok (.istore_n 2, 1) := by decide +kernel
theorem dX7_tankForNext_4 : decode cX7_tankForNext 4 = .ok (.iconst 0, 1) := by decide +kernel
theorem dX7_tankForNext_5 : decode cX7_tankForNext 5 = .ok (.istore_n 3, 1) := by decide +kernel
theorem dX7_tankForNext_6 : decode cX7_tankForNext 6 = .ok (.iload_n 3, 1) := by decide +kernel
theorem dX7_tankForNext_7 : decode cX7_tankForNext 7 = .ok (.aload_n 0, 1) := by decide +kernel
theorem dX7_tankForNext_8 : decode cX7_tankForNext 8 = .ok (.getfield 7, 3) := by decide +kernel
theorem dX7_tankForNext_11 : decode cX7_tankForNext 11 = .ok (.bipush 9, 2) := by decide +kernel
theorem dX7_tankForNext_13 : decode cX7_tankForNext 13 = .ok (.iaload, 1) := by decide +kernel
theorem dX7_tankForNext_14 : decode cX7_tankForNext 14 = .ok (.if_icmp .ge 97, 3) := by decide +kernel
theorem dX7_tankForNext_17 : decode cX7_tankForNext 17 = .ok (.aload_n 0, 1) := by decide +kernel
theorem dX7_tankForNext_18 : decode cX7_tankForNext 18 = .ok (.iload_n 3, 1) := by decide +kernel
theorem dX7_tankForNext_19 : decode cX7_tankForNext 19 = .ok (.iconst 0, 1) := by decide +kernel
theorem dX7_tankForNext_20 : decode cX7_tankForNext 20 = .ok (.invokevirtual 140, 3) := by decide +kernel
theorem dX7_tankForNext_23 : decode cX7_tankForNext 23 = .ok (.ifCond .ne 7, 3) := by decide +kernel
theorem dX7_tankForNext_26 : decode cX7_tankForNext 26 = .ok (.iconst 1, 1) := by decide +kernel
theorem dX7_tankForNext_27 : decode cX7_tankForNext 27 = .ok (.goto 4, 3) := by decide +kernel
theorem dX7_tankForNext_30 : decode cX7_tankForNext 30 = .ok (.iconst 0, 1) := by decide +kernel
theorem dX7_tankForNext_31 : decode cX7_tankForNext 31 = .ok (.istore 4, 2) := by decide +kernel
theorem dX7_tankForNext_33 : decode cX7_tankForNext 33 = .ok (.iload 4, 2) := by decide +kernel
theorem dX7_tankForNext_35 : decode cX7_tankForNext 35 = .ok (.ifCond .eq 21, 3) := by decide +kernel
theorem dX7_tankForNext_38 : decode cX7_tankForNext 38 = .ok (.aload_n 0, 1) := by decide +kernel
theorem dX7_tankForNext_39 : decode cX7_tankForNext 39 = .ok (.iload_n 3, 1) := by decide +kernel
theorem dX7_tankForNext_40 : decode cX7_tankForNext 40 = .ok (.invokevirtual 127, 3) := by decide +kernel
theorem dX7_tankForNext_43 : decode cX7_tankForNext 43 = .ok (.aload_n 0, 1) := by decide +kernel
theorem dX7_tankForNext_44 : decode cX7_tankForNext 44 = .ok (.getfield 108, 3) := by decide +kernel
theorem dX7_tankForNext_47 : decode cX7_tankForNext 47 = .ok (.isub, 1) := by decide +kernel
theorem dX7_tankForNext_48 : decode cX7_tankForNext 48 = .ok (.aload_n 0, 1) := by decide +kernel
theorem dX7_tankForNext_49 : decode cX7_tankForNext 49 = .ok (.getfield 114, 3) := by decide +kernel
theorem dX7_tankForNext_52 : decode cX7_tankForNext 52 = .ok (.isub, 1) := by decide +kernel
theorem dX7_tankForNext_53 : decode cX7_tankForNext 53 = .ok (.goto 4, 3) := by decide +kernel
theorem dX7_tankForNext_56 : decode cX7_tankForNext 56 = .ok (.iconst 0, 1) := by decide +kernel
theorem dX7_tankForNext_57 : decode cX7_tankForNext 57 = .ok (.istore 5, 2) := by decide +kernel
theorem dX7_tankForNext_59 : decode cX7_tankForNext 59 = .ok (.iload 4, 2) := by decide +kernel
theorem dX7_tankForNext_61 : decode cX7_tankForNext 61 = .ok (.ifCond .eq 18, 3) := by decide +kernel
theorem dX7_tankForNext_64 : decode cX7_tankForNext 64 = .ok (.iload_n 1, 1) := by decide +kernel
theorem dX7_tankForNext_65 : decode cX7_tankForNext 65 = .ok (.iconst (-1), 1) := by decide +kernel
theorem dX7_tankForNext_66 : decode cX7_tankForNext 66 = .ok (.if_icmp .eq 9, 3) := by decide +kernel
theorem dX7_tankForNext_69 : decode cX7_tankForNext 69 = .ok (.iload 5, 2) := by decide +kernel
theorem dX7_tankForNext_71 : decode cX7_tankForNext 71 = .ok (.iload_n 2, 1) := by decide +kernel
theorem dX7_tankForNext_72 : decode cX7_tankForNext 72 = .ok (.if_icmp .ge 7, 3) := by decide +kernel
theorem dX7_tankForNext_75 : decode cX7_tankForNext 75 = .ok (.iconst 1, 1) := by decide +kernel
theorem dX7_tankForNext_76 : decode cX7_tankForNext 76 = .ok (.goto 4, 3) := by decide +kernel
theorem dX7_tankForNext_79 : decode cX7_tankForNext 79 = .ok (.iconst 0, 1) := by decide +kernel
theorem dX7_tankForNext_80 : decode cX7_tankForNext 80 = .ok (.istore 6, 2) := by decide +kernel
theorem dX7_tankForNext_82 : decode cX7_tankForNext 82 = .ok (.iload 6, 2) := by decide +kernel
theorem dX7_tankForNext_84 : decode cX7_tankForNext 84 = .ok (.ifCond .eq 7, 3) := by decide +kernel
theorem dX7_tankForNext_87 : decode cX7_tankForNext 87 = .ok (.iload_n 3, 1) := by decide +kernel
theorem dX7_tankForNext_88 : decode cX7_tankForNext 88 = .ok (.goto 4, 3) := by decide +kernel
theorem dX7_tankForNext_91 : decode cX7_tankForNext 91 = .ok (.iload_n 1, 1) := by decide +kernel
theorem dX7_tankForNext_92 : decode cX7_tankForNext 92 = .ok (.istore_n 1, 1) := by decide +kernel
theorem dX7_tankForNext_93 : decode cX7_tankForNext 93 = .ok (.iload 6, 2) := by decide +kernel
theorem dX7_tankForNext_95 : decode cX7_tankForNext 95 = .ok (.ifCond .eq 8, 3) := by decide +kernel
theorem dX7_tankForNext_98 : decode cX7_tankForNext 98 = .ok (.iload 5, 2) := by decide +kernel
theorem dX7_tankForNext_100 : decode cX7_tankForNext 100 = .ok (.goto 4, 3) := by decide +kernel
theorem dX7_tankForNext_103 : decode cX7_tankForNext 103 = .ok (.iload_n 2, 1) := by decide +kernel
theorem dX7_tankForNext_104 : decode cX7_tankForNext 104 = .ok (.istore_n 2, 1) := by decide +kernel
theorem dX7_tankForNext_105 : decode cX7_tankForNext 105 = .ok (.iinc 3 1, 3) := by decide +kernel
theorem dX7_tankForNext_108 : decode cX7_tankForNext 108 = .ok (.goto (-102), 3) := by decide +kernel
theorem dX7_tankForNext_111 : decode cX7_tankForNext 111 = .ok (.iload_n 1, 1) := by decide +kernel
theorem dX7_tankForNext_112 : decode cX7_tankForNext 112 = .ok (.ireturn, 1) := by decide +kernel
theorem dX7_bestTank_0 : decode cX7_bestTank 0 = .ok (.aload_n 0, 1) := by decide +kernel
theorem dX7_bestTank_1 : decode cX7_bestTank 1 = .ok (.iconst 0, 1) := by decide +kernel
theorem dX7_bestTank_2 : decode cX7_bestTank 2 = .ok (.putfield 31, 3) := by decide +kernel
theorem dX7_bestTank_5 : decode cX7_bestTank 5 = .ok (.aload_n 0, 1) := by decide +kernel
theorem dX7_bestTank_6 : decode cX7_bestTank 6 = .ok (.invokevirtual 251, 3) := by decide +kernel
theorem dX7_bestTank_9 : decode cX7_bestTank 9 = .ok (.ireturn, 1) := by decide +kernel
theorem dX7_share_0 : decode cX7_share 0 = .ok (.aload_n 0, 1) := by decide +kernel
theorem dX7_share_1 : decode cX7_share 1 = .ok (.iconst 0, 1) := by decide +kernel
theorem dX7_share_2 : decode cX7_share 2 = .ok (.invokevirtual 228, 3) := by decide +kernel
theorem dX7_share_5 : decode cX7_share 5 = .ok (.istore_n 1, 1) := by decide +kernel
theorem dX7_share_6 : decode cX7_share 6 = .ok (.iload_n 1, 1) := by decide +kernel
theorem dX7_share_7 : decode cX7_share 7 = .ok (.ifCond .ne 7, 3) := by decide +kernel
theorem dX7_share_10 : decode cX7_share 10 = .ok (.dconst 0, 1) := by decide +kernel
theorem dX7_share_11 : decode cX7_share 11 = .ok (.goto 12, 3) := by decide +kernel
theorem dX7_share_14 : decode cX7_share 14 = .ok (.aload_n 0, 1) := by decide +kernel
theorem dX7_share_15 : decode cX7_share 15 = .ok (.iconst 1, 1) := by decide +kernel
theorem dX7_share_16 : decode cX7_share 16 = .ok (.invokevirtual 228, 3) := by decide +kernel
theorem dX7_share_19 : decode cX7_share 19 = .ok (.i2d, 1) := by decide +kernel
theorem dX7_share_20 : decode cX7_share 20 = .ok (.iload_n 1, 1) := by decide +kernel
theorem dX7_share_21 : decode cX7_share 21 = .ok (.i2d, 1) := by decide +kernel
theorem dX7_share_22 : decode cX7_share 22 = .ok (.ddiv, 1) := by decide +kernel
theorem dX7_share_23 : decode cX7_share 23 = .ok (.dreturn, 1) := by decide +kernel
theorem dX7_goodShare_0 : decode cX7_goodShare 0 = .ok (.aload_n 0, 1) := by decide +kernel
theorem dX7_goodShare_1 : decode cX7_goodShare 1 = .ok (.iconst 0, 1) := by decide +kernel
theorem dX7_goodShare_2 : decode cX7_goodShare 2 = .ok (.putfield 31, 3) := by decide +kernel
theorem dX7_goodShare_5 : decode cX7_goodShare 5 = .ok (.aload_n 0, 1) := by decide +kernel
theorem dX7_goodShare_6 : decode cX7_goodShare 6 = .ok (.invokevirtual 254, 3) := by decide +kernel
theorem dX7_goodShare_9 : decode cX7_goodShare 9 = .ok (.dreturn, 1) := by decide +kernel
theorem dX7_mix_0 : decode cX7_mix 0 = .ok (.aload_n 0, 1) := by decide +kernel
theorem dX7_mix_1 : decode cX7_mix 1 = .ok (.ldc2_w 258, 3) := by decide +kernel
theorem dX7_mix_4 : decode cX7_mix 4 = .ok (.aload_n 0, 1) := by decide +kernel
theorem dX7_mix_5 : decode cX7_mix 5 = .ok (.getfield 260, 3) := by decide +kernel
theorem dX7_mix_8 : decode cX7_mix 8 = .ok (.lmul, 1) := by decide +kernel
theorem dX7_mix_9 : decode cX7_mix 9 = .ok (.lload_n 1, 1) := by decide +kernel
theorem dX7_mix_10 : decode cX7_mix 10 = .ok (.ladd, 1) := by decide +kernel
theorem dX7_mix_11 : decode cX7_mix 11 = .ok (.putfield 260, 3) := by decide +kernel
theorem dX7_mix_14 : decode cX7_mix 14 = .ok (.return_, 1) := by decide +kernel
theorem dX7_mixTank_0 : decode cX7_mixTank 0 = .ok (.iconst 0, 1) := by decide +kernel
theorem dX7_mixTank_1 : decode cX7_mixTank 1 = .ok (.istore_n 2, 1) := by decide +kernel
theorem dX7_mixTank_2 : decode cX7_mixTank 2 = .ok (.iload_n 2, 1) := by decide +kernel
theorem dX7_mixTank_3 : decode cX7_mixTank 3 = .ok (.bipush 15, 2) := by decide +kernel
theorem dX7_mixTank_5 : decode cX7_mixTank 5 = .ok (.if_icmp .ge 31, 3) := by decide +kernel
theorem dX7_mixTank_8 : decode cX7_mixTank 8 = .ok (.iload_n 2, 1) := by decide +kernel
theorem dX7_mixTank_9 : decode cX7_mixTank 9 = .ok (.iconst 3, 1) := by decide +kernel
theorem dX7_mixTank_10 : decode cX7_mixTank 10 = .ok (.if_icmp .lt 9, 3) := by decide +kernel
theorem dX7_mixTank_13 : decode cX7_mixTank 13 = .ok (.iload_n 2, 1) := by decide +kernel
theorem dX7_mixTank_14 : decode cX7_mixTank 14 = .ok (.bipush 9, 2) := by decide +kernel
theorem dX7_mixTank_16 : decode cX7_mixTank 16 = .ok (.if_icmp .le 14, 3) := by decide +kernel
theorem dX7_mixTank_19 : decode cX7_mixTank 19 = .ok (.aload_n 0, 1) := by decide +kernel
theorem dX7_mixTank_20 : decode cX7_mixTank 20 = .ok (.aload_n 0, 1) := by decide +kernel
theorem dX7_mixTank_21 : decode cX7_mixTank 21 = .ok (.iload_n 1, 1) := by decide +kernel
theorem dX7_mixTank_22 : decode cX7_mixTank 22 = .ok (.iload_n 2, 1) := by decide +kernel
theorem dX7_mixTank_23 : decode cX7_mixTank 23 = .ok (.invokevirtual 219, 3) := by decide +kernel
theorem dX7_mixTank_26 : decode cX7_mixTank 26 = .ok (.i2l, 1) := by decide +kernel
theorem dX7_mixTank_27 : decode cX7_mixTank 27 = .ok (.invokevirtual 264, 3) := by decide +kernel
theorem dX7_mixTank_30 : decode cX7_mixTank 30 = .ok (.iinc 2 1, 3) := by decide +kernel
theorem dX7_mixTank_33 : decode cX7_mixTank 33 = .ok (.goto (-31), 3) := by decide +kernel
theorem dX7_mixTank_36 : decode cX7_mixTank 36 = .ok (.aload_n 0, 1) := by decide +kernel
theorem dX7_mixTank_37 : decode cX7_mixTank 37 = .ok (.aload_n 0, 1) := by decide +kernel
theorem dX7_mixTank_38 : decode cX7_mixTank 38 = .ok (.iload_n 1, 1) := by decide +kernel
theorem dX7_mixTank_39 : decode cX7_mixTank 39 = .ok (.iconst 0, 1) := by decide +kernel
theorem dX7_mixTank_40 : decode cX7_mixTank 40 = .ok (.invokevirtual 140, 3) := by decide +kernel
theorem dX7_mixTank_43 : decode cX7_mixTank 43 = .ok (.i2l, 1) := by decide +kernel
theorem dX7_mixTank_44 : decode cX7_mixTank 44 = .ok (.invokevirtual 264, 3) := by decide +kernel
theorem dX7_mixTank_47 : decode cX7_mixTank 47 = .ok (.aload_n 0, 1) := by decide +kernel
theorem dX7_mixTank_48 : decode cX7_mixTank 48 = .ok (.aload_n 0, 1) := by decide +kernel
theorem dX7_mixTank_49 : decode cX7_mixTank 49 = .ok (.iload_n 1, 1) := by decide +kernel
theorem dX7_mixTank_50 : decode cX7_mixTank 50 = .ok (.iconst 1, 1) := by decide +kernel
theorem dX7_mixTank_51 : decode cX7_mixTank 51 = .ok (.invokevirtual 140, 3) := by decide +kernel
theorem dX7_mixTank_54 : decode cX7_mixTank 54 = .ok (.i2l, 1) := by decide +kernel
theorem dX7_mixTank_55 : decode cX7_mixTank 55 = .ok (.invokevirtual 264, 3) := by decide +kernel
theorem dX7_mixTank_58 : decode cX7_mixTank 58 = .ok (.aload_n 0, 1) := by decide +kernel
theorem dX7_mixTank_59 : decode cX7_mixTank 59 = .ok (.aload_n 0, 1) := by decide +kernel
theorem dX7_mixTank_60 : decode cX7_mixTank 60 = .ok (.iload_n 1, 1) := by decide +kernel
theorem dX7_mixTank_61 : decode cX7_mixTank 61 = .ok (.bipush 30, 2) := by decide +kernel
theorem dX7_mixTank_63 : decode cX7_mixTank 63 = .ok (.invokevirtual 245, 3) := by decide +kernel
theorem dX7_mixTank_66 : decode cX7_mixTank 66 = .ok (.i2l, 1) := by decide +kernel
theorem dX7_mixTank_67 : decode cX7_mixTank 67 = .ok (.invokevirtual 264, 3) := by decide +kernel
theorem dX7_mixTank_70 : decode cX7_mixTank 70 = .ok (.iconst 0, 1) := by decide +kernel
theorem dX7_mixTank_71 : decode cX7_mixTank 71 = .ok (.istore_n 2, 1) := by decide +kernel
theorem dX7_mixTank_72 : decode cX7_mixTank 72 = .ok (.iload_n 2, 1) := by decide +kernel
theorem dX7_mixTank_73 : decode cX7_mixTank 73 = .ok (.iconst 5, 1) := by decide +kernel
theorem dX7_mixTank_74 : decode cX7_mixTank 74 = .ok (.if_icmp .ge 21, 3) := by decide +kernel
theorem dX7_mixTank_77 : decode cX7_mixTank 77 = .ok (.aload_n 0, 1) := by decide +kernel
theorem dX7_mixTank_78 : decode cX7_mixTank 78 = .ok (.aload_n 0, 1) := by decide +kernel
theorem dX7_mixTank_79 : decode cX7_mixTank 79 = .ok (.iload_n 1, 1) := by decide +kernel
theorem dX7_mixTank_80 : decode cX7_mixTank 80 = .ok (.iconst 1, 1) := by decide +kernel
theorem dX7_mixTank_81 : decode cX7_mixTank 81 = .ok (.iload_n 2, 1) := by decide +kernel
theorem dX7_mixTank_82 : decode cX7_mixTank 82 = .ok (.invokevirtual 241, 3) := by decide +kernel
theorem dX7_mixTank_85 : decode cX7_mixTank 85 = .ok (.i2l, 1) := by decide +kernel
theorem dX7_mixTank_86 : decode cX7_mixTank 86 = .ok (.invokevirtual 264, 3) := by decide +kernel
theorem dX7_mixTank_89 : decode cX7_mixTank 89 = .ok (.iinc 2 1, 3) := by decide +kernel
theorem dX7_mixTank_92 : decode cX7_mixTank 92 = .ok (.goto (-20), 3) := by decide +kernel
theorem dX7_mixTank_95 : decode cX7_mixTank 95 = .ok (.return_, 1) := by decide +kernel
theorem dX7_digest_0 : decode cX7_digest 0 = .ok (.aload_n 0, 1) := by decide +kernel
theorem dX7_digest_1 : decode cX7_digest 1 = .ok (.iconst 0, 1) := by decide +kernel
theorem dX7_digest_2 : decode cX7_digest 2 = .ok (.putfield 31, 3) := by decide +kernel
theorem dX7_digest_5 : decode cX7_digest 5 = .ok (.aload_n 0, 1) := by decide +kernel
theorem dX7_digest_6 : decode cX7_digest 6 = .ok (.ldc2_w 268, 3) := by decide +kernel
theorem dX7_digest_9 : decode cX7_digest 9 = .ok (.putfield 260, 3) := by decide +kernel
theorem dX7_digest_12 : decode cX7_digest 12 = .ok (.iconst 0, 1) := by decide +kernel
theorem dX7_digest_13 : decode cX7_digest 13 = .ok (.istore_n 1, 1) := by decide +kernel
theorem dX7_digest_14 : decode cX7_digest 14 = .ok (.iload_n 1, 1) := by decide +kernel
theorem dX7_digest_15 : decode cX7_digest 15 = .ok (.bipush 13, 2) := by decide +kernel
theorem dX7_digest_17 : decode cX7_digest 17 = .ok (.if_icmp .ge 19, 3) := by decide +kernel
theorem dX7_digest_20 : decode cX7_digest 20 = .ok (.aload_n 0, 1) := by decide +kernel
theorem dX7_digest_21 : decode cX7_digest 21 = .ok (.aload_n 0, 1) := by decide +kernel
theorem dX7_digest_22 : decode cX7_digest 22 = .ok (.iload_n 1, 1) := by decide +kernel
theorem dX7_digest_23 : decode cX7_digest 23 = .ok (.invokevirtual 235, 3) := by decide +kernel
theorem dX7_digest_26 : decode cX7_digest 26 = .ok (.i2l, 1) := by decide +kernel
theorem dX7_digest_27 : decode cX7_digest 27 = .ok (.invokevirtual 264, 3) := by decide +kernel
theorem dX7_digest_30 : decode cX7_digest 30 = .ok (.iinc 1 1, 3) := by decide +kernel
theorem dX7_digest_33 : decode cX7_digest 33 = .ok (.goto (-19), 3) := by decide +kernel
theorem dX7_digest_36 : decode cX7_digest 36 = .ok (.iconst 0, 1) := by decide +kernel
theorem dX7_digest_37 : decode cX7_digest 37 = .ok (.istore_n 1, 1) := by decide +kernel
theorem dX7_digest_38 : decode cX7_digest 38 = .ok (.iload_n 1, 1) := by decide +kernel
theorem dX7_digest_39 : decode cX7_digest 39 = .ok (.bipush 7, 2) := by decide +kernel
theorem dX7_digest_41 : decode cX7_digest 41 = .ok (.if_icmp .ge 22, 3) := by decide +kernel
theorem dX7_digest_44 : decode cX7_digest 44 = .ok (.aload_n 0, 1) := by decide +kernel
theorem dX7_digest_45 : decode cX7_digest 45 = .ok (.aload_n 0, 1) := by decide +kernel
theorem dX7_digest_46 : decode cX7_digest 46 = .ok (.getfield 7, 3) := by decide +kernel
theorem dX7_digest_49 : decode cX7_digest 49 = .ok (.iconst 0, 1) := by decide +kernel
theorem dX7_digest_50 : decode cX7_digest 50 = .ok (.iload_n 1, 1) := by decide +kernel
theorem dX7_digest_51 : decode cX7_digest 51 = .ok (.iadd, 1) := by decide +kernel
theorem dX7_digest_52 : decode cX7_digest 52 = .ok (.iaload, 1) := by decide +kernel
theorem dX7_digest_53 : decode cX7_digest 53 = .ok (.i2l, 1) := by decide +kernel
theorem dX7_digest_54 : decode cX7_digest 54 = .ok (.invokevirtual 264, 3) := by decide +kernel
theorem dX7_digest_57 : decode cX7_digest 57 = .ok (.iinc 1 1, 3) := by decide +kernel
theorem dX7_digest_60 : decode cX7_digest 60 = .ok (.goto (-22), 3) := by decide +kernel
theorem dX7_digest_63 : decode cX7_digest 63 = .ok (.iconst 0, 1) := by decide +kernel
theorem dX7_digest_64 : decode cX7_digest 64 = .ok (.istore_n 1, 1) := by decide +kernel
theorem dX7_digest_65 : decode cX7_digest 65 = .ok (.iload_n 1, 1) := by decide +kernel
theorem dX7_digest_66 : decode cX7_digest 66 = .ok (.bipush 6, 2) := by decide +kernel
theorem dX7_digest_68 : decode cX7_digest 68 = .ok (.aload_n 0, 1) := by decide +kernel
theorem dX7_digest_69 : decode cX7_digest 69 = .ok (.getfield 7, 3) := by decide +kernel
theorem dX7_digest_72 : decode cX7_digest 72 = .ok (.bipush 7, 2) := by decide +kernel
theorem dX7_digest_74 : decode cX7_digest 74 = .ok (.iaload, 1) := by decide +kernel
theorem dX7_digest_75 : decode cX7_digest 75 = .ok (.imul, 1) := by decide +kernel
theorem dX7_digest_76 : decode cX7_digest 76 = .ok (.if_icmp .ge 26, 3) := by decide +kernel
theorem dX7_digest_79 : decode cX7_digest 79 = .ok (.aload_n 0, 1) := by decide +kernel
theorem dX7_digest_80 : decode cX7_digest 80 = .ok (.aload_n 0, 1) := by decide +kernel
theorem dX7_digest_81 : decode cX7_digest 81 = .ok (.iload_n 1, 1) := by decide +kernel
theorem dX7_digest_82 : decode cX7_digest 82 = .ok (.bipush 6, 2) := by decide +kernel
theorem dX7_digest_84 : decode cX7_digest 84 = .ok (.idiv, 1) := by decide +kernel
theorem dX7_digest_85 : decode cX7_digest 85 = .ok (.iload_n 1, 1) := by decide +kernel
theorem dX7_digest_86 : decode cX7_digest 86 = .ok (.bipush 6, 2) := by decide +kernel
theorem dX7_digest_88 : decode cX7_digest 88 = .ok (.irem, 1) := by decide +kernel
theorem dX7_digest_89 : decode cX7_digest 89 = .ok (.invokevirtual 213, 3) := by decide +kernel
theorem dX7_digest_92 : decode cX7_digest 92 = .ok (.i2l, 1) := by decide +kernel
theorem dX7_digest_93 : decode cX7_digest 93 = .ok (.invokevirtual 264, 3) := by decide +kernel
theorem dX7_digest_96 : decode cX7_digest 96 = .ok (.iinc 1 1, 3) := by decide +kernel
theorem dX7_digest_99 : decode cX7_digest 99 = .ok (.goto (-34), 3) := by decide +kernel
theorem dX7_digest_102 : decode cX7_digest 102 = .ok (.iconst 0, 1) := by decide +kernel
theorem dX7_digest_103 : decode cX7_digest 103 = .ok (.istore_n 1, 1) := by decide +kernel
theorem dX7_digest_104 : decode cX7_digest 104 = .ok (.iload_n 1, 1) := by decide +kernel
theorem dX7_digest_105 : decode cX7_digest 105 = .ok (.bipush 11, 2) := by decide +kernel
theorem dX7_digest_107 : decode cX7_digest 107 = .ok (.aload_n 0, 1) := by decide +kernel
theorem dX7_digest_108 : decode cX7_digest 108 = .ok (.getfield 7, 3) := by decide +kernel
theorem dX7_digest_111 : decode cX7_digest 111 = .ok (.bipush 8, 2) := by decide +kernel
theorem dX7_digest_113 : decode cX7_digest 113 = .ok (.iaload, 1) := by decide +kernel
theorem dX7_digest_114 : decode cX7_digest 114 = .ok (.imul, 1) := by decide +kernel
theorem dX7_digest_115 : decode cX7_digest 115 = .ok (.if_icmp .ge 26, 3) := by decide +kernel
theorem dX7_digest_118 : decode cX7_digest 118 = .ok (.aload_n 0, 1) := by decide +kernel
theorem dX7_digest_119 : decode cX7_digest 119 = .ok (.aload_n 0, 1) := by decide +kernel
theorem dX7_digest_120 : decode cX7_digest 120 = .ok (.iload_n 1, 1) := by decide +kernel
theorem dX7_digest_121 : decode cX7_digest 121 = .ok (.bipush 11, 2) := by decide +kernel
theorem dX7_digest_123 : decode cX7_digest 123 = .ok (.idiv, 1) := by decide +kernel
theorem dX7_digest_124 : decode cX7_digest 124 = .ok (.iload_n 1, 1) := by decide +kernel
theorem dX7_digest_125 : decode cX7_digest 125 = .ok (.bipush 11, 2) := by decide +kernel
theorem dX7_digest_127 : decode cX7_digest 127 = .ok (.irem, 1) := by decide +kernel
theorem dX7_digest_128 : decode cX7_digest 128 = .ok (.invokevirtual 216, 3) := by decide +kernel
theorem dX7_digest_131 : decode cX7_digest 131 = .ok (.i2l, 1) := by decide +kernel
theorem dX7_digest_132 : decode cX7_digest 132 = .ok (.invokevirtual 264, 3) := by decide +kernel
theorem dX7_digest_135 : decode cX7_digest 135 = .ok (.iinc 1 1, 3) := by decide +kernel
theorem dX7_digest_138 : decode cX7_digest 138 = .ok (.goto (-34), 3) := by decide +kernel
theorem dX7_digest_141 : decode cX7_digest 141 = .ok (.iconst 0, 1) := by decide +kernel
theorem dX7_digest_142 : decode cX7_digest 142 = .ok (.istore_n 1, 1) := by decide +kernel
theorem dX7_digest_143 : decode cX7_digest 143 = .ok (.iload_n 1, 1) := by decide +kernel
theorem dX7_digest_144 : decode cX7_digest 144 = .ok (.aload_n 0, 1) := by decide +kernel
theorem dX7_digest_145 : decode cX7_digest 145 = .ok (.getfield 7, 3) := by decide +kernel
theorem dX7_digest_148 : decode cX7_digest 148 = .ok (.bipush 9, 2) := by decide +kernel
theorem dX7_digest_150 : decode cX7_digest 150 = .ok (.iaload, 1) := by decide +kernel
theorem dX7_digest_151 : decode cX7_digest 151 = .ok (.if_icmp .ge 14, 3) := by decide +kernel
theorem dX7_digest_154 : decode cX7_digest 154 = .ok (.aload_n 0, 1) := by decide +kernel
theorem dX7_digest_155 : decode cX7_digest 155 = .ok (.iload_n 1, 1) := by decide +kernel
theorem dX7_digest_156 : decode cX7_digest 156 = .ok (.invokevirtual 270, 3) := by decide +kernel
theorem dX7_digest_159 : decode cX7_digest 159 = .ok (.iinc 1 1, 3) := by decide +kernel
theorem dX7_digest_162 : decode cX7_digest 162 = .ok (.goto (-19), 3) := by decide +kernel
theorem dX7_digest_165 : decode cX7_digest 165 = .ok (.iconst 0, 1) := by decide +kernel
theorem dX7_digest_166 : decode cX7_digest 166 = .ok (.istore_n 1, 1) := by decide +kernel
theorem dX7_digest_167 : decode cX7_digest 167 = .ok (.iload_n 1, 1) := by decide +kernel
theorem dX7_digest_168 : decode cX7_digest 168 = .ok (.bipush 40, 2) := by decide +kernel
theorem dX7_digest_170 : decode cX7_digest 170 = .ok (.if_icmp .ge 26, 3) := by decide +kernel
theorem dX7_digest_173 : decode cX7_digest 173 = .ok (.aload_n 0, 1) := by decide +kernel
theorem dX7_digest_174 : decode cX7_digest 174 = .ok (.aload_n 0, 1) := by decide +kernel
theorem dX7_digest_175 : decode cX7_digest 175 = .ok (.iload_n 1, 1) := by decide +kernel
theorem dX7_digest_176 : decode cX7_digest 176 = .ok (.bipush 8, 2) := by decide +kernel
theorem dX7_digest_178 : decode cX7_digest 178 = .ok (.idiv, 1) := by decide +kernel
theorem dX7_digest_179 : decode cX7_digest 179 = .ok (.iload_n 1, 1) := by decide +kernel
theorem dX7_digest_180 : decode cX7_digest 180 = .ok (.bipush 8, 2) := by decide +kernel
theorem dX7_digest_182 : decode cX7_digest 182 = .ok (.irem, 1) := by decide +kernel
theorem dX7_digest_183 : decode cX7_digest 183 = .ok (.invokevirtual 225, 3) := by decide +kernel
theorem dX7_digest_186 : decode cX7_digest 186 = .ok (.i2l, 1) := by decide +kernel
theorem dX7_digest_187 : decode cX7_digest 187 = .ok (.invokevirtual 264, 3) := by decide +kernel
theorem dX7_digest_190 : decode cX7_digest 190 = .ok (.iinc 1 1, 3) := by decide +kernel
theorem dX7_digest_193 : decode cX7_digest 193 = .ok (.goto (-26), 3) := by decide +kernel
theorem dX7_digest_196 : decode cX7_digest 196 = .ok (.iconst 0, 1) := by decide +kernel
theorem dX7_digest_197 : decode cX7_digest 197 = .ok (.istore_n 1, 1) := by decide +kernel
theorem dX7_digest_198 : decode cX7_digest 198 = .ok (.iload_n 1, 1) := by decide +kernel
theorem dX7_digest_199 : decode cX7_digest 199 = .ok (.iconst 5, 1) := by decide +kernel
theorem dX7_digest_200 : decode cX7_digest 200 = .ok (.if_icmp .ge 19, 3) := by decide +kernel
theorem dX7_digest_203 : decode cX7_digest 203 = .ok (.aload_n 0, 1) := by decide +kernel
theorem dX7_digest_204 : decode cX7_digest 204 = .ok (.aload_n 0, 1) := by decide +kernel
theorem dX7_digest_205 : decode cX7_digest 205 = .ok (.iload_n 1, 1) := by decide +kernel
theorem dX7_digest_206 : decode cX7_digest 206 = .ok (.invokevirtual 238, 3) := by decide +kernel
theorem dX7_digest_209 : decode cX7_digest 209 = .ok (.i2l, 1) := by decide +kernel
theorem dX7_digest_210 : decode cX7_digest 210 = .ok (.invokevirtual 264, 3) := by decide +kernel
theorem dX7_digest_213 : decode cX7_digest 213 = .ok (.iinc 1 1, 3) := by decide +kernel
theorem dX7_digest_216 : decode cX7_digest 216 = .ok (.goto (-18), 3) := by decide +kernel
theorem dX7_digest_219 : decode cX7_digest 219 = .ok (.iconst 0, 1) := by decide +kernel
theorem dX7_digest_220 : decode cX7_digest 220 = .ok (.istore_n 1, 1) := by decide +kernel
theorem dX7_digest_221 : decode cX7_digest 221 = .ok (.iload_n 1, 1) := by decide +kernel
theorem dX7_digest_222 : decode cX7_digest 222 = .ok (.iconst 3, 1) := by decide +kernel
theorem dX7_digest_223 : decode cX7_digest 223 = .ok (.if_icmp .ge 19, 3) := by decide +kernel
theorem dX7_digest_226 : decode cX7_digest 226 = .ok (.aload_n 0, 1) := by decide +kernel
theorem dX7_digest_227 : decode cX7_digest 227 = .ok (.aload_n 0, 1) := by decide +kernel
theorem dX7_digest_228 : decode cX7_digest 228 = .ok (.iload_n 1, 1) := by decide +kernel
theorem dX7_digest_229 : decode cX7_digest 229 = .ok (.invokevirtual 248, 3) := by decide +kernel
theorem dX7_digest_232 : decode cX7_digest 232 = .ok (.i2l, 1) := by decide +kernel
theorem dX7_digest_233 : decode cX7_digest 233 = .ok (.invokevirtual 264, 3) := by decide +kernel
theorem dX7_digest_236 : decode cX7_digest 236 = .ok (.iinc 1 1, 3) := by decide +kernel
theorem dX7_digest_239 : decode cX7_digest 239 = .ok (.goto (-18), 3) := by decide +kernel
theorem dX7_digest_242 : decode cX7_digest 242 = .ok (.aload_n 0, 1) := by decide +kernel
theorem dX7_digest_243 : decode cX7_digest 243 = .ok (.aload_n 0, 1) := by decide +kernel
theorem dX7_digest_244 : decode cX7_digest 244 = .ok (.invokevirtual 251, 3) := by decide +kernel
theorem dX7_digest_247 : decode cX7_digest 247 = .ok (.i2l, 1) := by decide +kernel
theorem dX7_digest_248 : decode cX7_digest 248 = .ok (.invokevirtual 264, 3) := by decide +kernel
theorem dX7_digest_251 : decode cX7_digest 251 = .ok (.aload_n 0, 1) := by decide +kernel
theorem dX7_digest_252 : decode cX7_digest 252 = .ok (.aload_n 0, 1) := by decide +kernel
theorem dX7_digest_253 : decode cX7_digest 253 = .ok (.invokevirtual 254, 3) := by decide +kernel
theorem dX7_digest_256 : decode cX7_digest 256 = .ok (.invokestatic 273, 3) := by decide +kernel
theorem dX7_digest_259 : decode cX7_digest 259 = .ok (.invokevirtual 264, 3) := by decide +kernel
theorem dX7_digest_262 : decode cX7_digest 262 = .ok (.aload_n 0, 1) := by decide +kernel
theorem dX7_digest_263 : decode cX7_digest 263 = .ok (.aload_n 0, 1) := by decide +kernel
theorem dX7_digest_264 : decode cX7_digest 264 = .ok (.getfield 175, 3) := by decide +kernel
theorem dX7_digest_267 : decode cX7_digest 267 = .ok (.i2l, 1) := by decide +kernel
theorem dX7_digest_268 : decode cX7_digest 268 = .ok (.invokevirtual 264, 3) := by decide +kernel
theorem dX7_digest_271 : decode cX7_digest 271 = .ok (.iconst 0, 1) := by decide +kernel
theorem dX7_digest_272 : decode cX7_digest 272 = .ok (.istore_n 1, 1) := by decide +kernel
theorem dX7_digest_273 : decode cX7_digest 273 = .ok (.iload_n 1, 1) := by decide +kernel
theorem dX7_digest_274 : decode cX7_digest 274 = .ok (.aload_n 0, 1) := by decide +kernel
theorem dX7_digest_275 : decode cX7_digest 275 = .ok (.getfield 175, 3) := by decide +kernel
theorem dX7_digest_278 : decode cX7_digest 278 = .ok (.if_icmp .ge 20, 3) := by decide +kernel
theorem dX7_digest_281 : decode cX7_digest 281 = .ok (.aload_n 0, 1) := by decide +kernel
theorem dX7_digest_282 : decode cX7_digest 282 = .ok (.aload_n 0, 1) := by decide +kernel
theorem dX7_digest_283 : decode cX7_digest 283 = .ok (.getfield 16, 3) := by decide +kernel
theorem dX7_digest_286 : decode cX7_digest 286 = .ok (.iload_n 1, 1) := by decide +kernel
theorem dX7_digest_287 : decode cX7_digest 287 = .ok (.iaload, 1) := by decide +kernel
theorem dX7_digest_288 : decode cX7_digest 288 = .ok (.i2l, 1) := by decide +kernel
theorem dX7_digest_289 : decode cX7_digest 289 = .ok (.invokevirtual 264, 3) := by decide +kernel
theorem dX7_digest_292 : decode cX7_digest 292 = .ok (.iinc 1 1, 3) := by decide +kernel
theorem dX7_digest_295 : decode cX7_digest 295 = .ok (.goto (-22), 3) := by decide +kernel
theorem dX7_digest_298 : decode cX7_digest 298 = .ok (.aload_n 0, 1) := by decide +kernel
theorem dX7_digest_299 : decode cX7_digest 299 = .ok (.getfield 260, 3) := by decide +kernel
theorem dX7_digest_302 : decode cX7_digest 302 = .ok (.lreturn, 1) := by decide +kernel
theorem dJxe99ae_isNaN_b9ae7_0 : decode cJxe99ae_isNaN_b9ae7 0 = .ok (.dload_n 0, 1) := by decide +kernel
theorem dJxe99ae_isNaN_b9ae7_1 : decode cJxe99ae_isNaN_b9ae7 1 = .ok (.dload_n 0, 1) := by decide +kernel
theorem dJxe99ae_isNaN_b9ae7_2 : decode cJxe99ae_isNaN_b9ae7 2 = .ok (.dcmp .l, 1) := by decide +kernel
theorem dJxe99ae_isNaN_b9ae7_3 : decode cJxe99ae_isNaN_b9ae7 3 = .ok (.ifCond .eq 7, 3) := by decide +kernel
theorem dJxe99ae_isNaN_b9ae7_6 : decode cJxe99ae_isNaN_b9ae7 6 = .ok (.iconst 1, 1) := by decide +kernel
theorem dJxe99ae_isNaN_b9ae7_7 : decode cJxe99ae_isNaN_b9ae7 7 = .ok (.goto 4, 3) := by decide +kernel
theorem dJxe99ae_isNaN_b9ae7_10 : decode cJxe99ae_isNaN_b9ae7 10 = .ok (.iconst 0, 1) := by decide +kernel
theorem dJxe99ae_isNaN_b9ae7_11 : decode cJxe99ae_isNaN_b9ae7 11 = .ok (.ireturn, 1) := by decide +kernel
theorem dJxe99ae_doubleToLongBits_ccdee_0 : decode cJxe99ae_doubleToLongBits_ccdee 0 = .ok (.dload_n 0, 1) := by decide +kernel
theorem dJxe99ae_doubleToLongBits_ccdee_1 : decode cJxe99ae_doubleToLongBits_ccdee 1 = .ok (.invokestatic 122, 3) := by decide +kernel
theorem dJxe99ae_doubleToLongBits_ccdee_4 : decode cJxe99ae_doubleToLongBits_ccdee 4 = .ok (.ifCond .ne 8, 3) := by decide +kernel
theorem dJxe99ae_doubleToLongBits_ccdee_7 : decode cJxe99ae_doubleToLongBits_ccdee 7 = .ok (.dload_n 0, 1) := by decide +kernel
theorem dJxe99ae_doubleToLongBits_ccdee_8 : decode cJxe99ae_doubleToLongBits_ccdee 8 = .ok (.invokestatic 134, 3) := by decide +kernel
theorem dJxe99ae_doubleToLongBits_ccdee_11 : decode cJxe99ae_doubleToLongBits_ccdee 11 = .ok (.lreturn, 1) := by decide +kernel
theorem dJxe99ae_doubleToLongBits_ccdee_12 : decode cJxe99ae_doubleToLongBits_ccdee 12 = .ok (.ldc2_w 137, 3) := by decide +kernel
theorem dJxe99ae_doubleToLongBits_ccdee_15 : decode cJxe99ae_doubleToLongBits_ccdee 15 = .ok (.lreturn, 1) := by decide +kernel
theorem dJ9_max_7cf53_0 : decode cJ9_max_7cf53 0 = .ok (.iload_n 0, 1) := by decide +kernel
theorem dJ9_max_7cf53_1 : decode cJ9_max_7cf53 1 = .ok (.iload_n 1, 1) := by decide +kernel
theorem dJ9_max_7cf53_2 : decode cJ9_max_7cf53 2 = .ok (.if_icmp .lt 7, 3) := by decide +kernel
theorem dJ9_max_7cf53_5 : decode cJ9_max_7cf53 5 = .ok (.iload_n 0, 1) := by decide +kernel
theorem dJ9_max_7cf53_6 : decode cJ9_max_7cf53 6 = .ok (.goto 4, 3) := by decide +kernel
theorem dJ9_max_7cf53_9 : decode cJ9_max_7cf53 9 = .ok (.iload_n 1, 1) := by decide +kernel
theorem dJ9_max_7cf53_10 : decode cJ9_max_7cf53 10 = .ok (.ireturn, 1) := by decide +kernel
theorem dJ9_min_7cf53_0 : decode cJ9_min_7cf53 0 = .ok (.iload_n 0, 1) := by decide +kernel
theorem dJ9_min_7cf53_1 : decode cJ9_min_7cf53 1 = .ok (.iload_n 1, 1) := by decide +kernel
theorem dJ9_min_7cf53_2 : decode cJ9_min_7cf53 2 = .ok (.if_icmp .gt 7, 3) := by decide +kernel
theorem dJ9_min_7cf53_5 : decode cJ9_min_7cf53 5 = .ok (.iload_n 0, 1) := by decide +kernel
theorem dJ9_min_7cf53_6 : decode cJ9_min_7cf53 6 = .ok (.goto 4, 3) := by decide +kernel
theorem dJ9_min_7cf53_9 : decode cJ9_min_7cf53 9 = .ok (.iload_n 1, 1) := by decide +kernel
theorem dJ9_min_7cf53_10 : decode cJ9_min_7cf53 10 = .ok (.ireturn, 1) := by decide +kernel
theorem dL_addGrower_0 : decode cL_addGrower 0 = .ok (.aload_n 1, 1) := by decide +kernel
theorem dL_addGrower_1 : decode cL_addGrower 1 = .ok (.iconst 0, 1) := by decide +kernel
theorem dL_addGrower_2 : decode cL_addGrower 2 = .ok (.aload_n 0, 1) := by decide +kernel
theorem dL_addGrower_3 : decode cL_addGrower 3 = .ok (.invokevirtual 7, 3) := by decide +kernel
theorem dL_addGrower_6 : decode cL_addGrower 6 = .ok (.i2l, 1) := by decide +kernel
theorem dL_addGrower_7 : decode cL_addGrower 7 = .ok (.lastore, 1) := by decide +kernel
theorem dL_addGrower_8 : decode cL_addGrower 8 = .ok (.goto 6, 3) := by decide +kernel
theorem dL_addGrower_11 : decode cL_addGrower 11 = .ok (.astore_n 2, 1) := by decide +kernel
theorem dL_addGrower_12 : decode cL_addGrower 12 = .ok (.iconst 1, 1) := by decide +kernel
theorem dL_addGrower_13 : decode cL_addGrower 13 = .ok (.ireturn, 1) := by decide +kernel
theorem dL_addGrower_14 : decode cL_addGrower 14 = .ok (.iconst 0, 1) := by decide +kernel
theorem dL_addGrower_15 : decode cL_addGrower 15 = .ok (.ireturn, 1) := by decide +kernel
theorem dL_addLot_0 : decode cL_addLot 0 = .ok (.aload 6, 2) := by decide +kernel
theorem dL_addLot_2 : decode cL_addLot 2 = .ok (.iconst 0, 1) := by decide +kernel
theorem dL_addLot_3 : decode cL_addLot 3 = .ok (.aload_n 0, 1) := by decide +kernel
theorem dL_addLot_4 : decode cL_addLot 4 = .ok (.iload_n 1, 1) := by decide +kernel
theorem dL_addLot_5 : decode cL_addLot 5 = .ok (.iload_n 2, 1) := by decide +kernel
theorem dL_addLot_6 : decode cL_addLot 6 = .ok (.iload_n 3, 1) := by decide +kernel
theorem dL_addLot_7 : decode cL_addLot 7 = .ok (.iload 4, 2) := by decide +kernel
theorem dL_addLot_9 : decode cL_addLot 9 = .ok (.iload 5, 2) := by decide +kernel
theorem dL_addLot_11 : decode cL_addLot 11 = .ok (.invokevirtual 15, 3) := by decide +kernel
theorem dL_addLot_14 : decode cL_addLot 14 = .ok (.i2l, 1) := by decide +kernel
theorem dL_addLot_15 : decode cL_addLot 15 = .ok (.lastore, 1) := by decide +kernel
theorem dL_addLot_16 : decode cL_addLot 16 = .ok (.goto 15, 3) := by decide +kernel
theorem dL_addLot_19 : decode cL_addLot 19 = .ok (.astore 7, 2) := by decide +kernel
theorem dL_addLot_21 : decode cL_addLot 21 = .ok (.iconst 1, 1) := by decide +kernel
theorem dL_addLot_22 : decode cL_addLot 22 = .ok (.ireturn, 1) := by decide +kernel
theorem dL_addLot_23 : decode cL_addLot 23 = .ok (.astore 7, 2) := by decide +kernel
theorem dL_addLot_25 : decode cL_addLot 25 = .ok (.iconst 2, 1) := by decide +kernel
theorem dL_addLot_26 : decode cL_addLot 26 = .ok (.ireturn, 1) := by decide +kernel
theorem dL_addLot_27 : decode cL_addLot 27 = .ok (.astore 7, 2) := by decide +kernel
theorem dL_addLot_29 : decode cL_addLot 29 = .ok (.iconst 3, 1) := by decide +kernel
theorem dL_addLot_30 : decode cL_addLot 30 = .ok (.ireturn, 1) := by decide +kernel
theorem dL_addLot_31 : decode cL_addLot 31 = .ok (.iconst 0, 1) := by decide +kernel
theorem dL_addLot_32 : decode cL_addLot 32 = .ok (.ireturn, 1) := by decide +kernel
theorem dL_addTank_0 : decode cL_addTank 0 = .ok (.aload_n 2, 1) := by decide +kernel
theorem dL_addTank_1 : decode cL_addTank 1 = .ok (.iconst 0, 1) := by decide +kernel
theorem dL_addTank_2 : decode cL_addTank 2 = .ok (.aload_n 0, 1) := by decide +kernel
theorem dL_addTank_3 : decode cL_addTank 3 = .ok (.iload_n 1, 1) := by decide +kernel
theorem dL_addTank_4 : decode cL_addTank 4 = .ok (.invokevirtual 23, 3) := by decide +kernel
theorem dL_addTank_7 : decode cL_addTank 7 = .ok (.i2l, 1) := by decide +kernel
theorem dL_addTank_8 : decode cL_addTank 8 = .ok (.lastore, 1) := by decide +kernel
theorem dL_addTank_9 : decode cL_addTank 9 = .ok (.goto 9, 3) := by decide +kernel
theorem dL_addTank_12 : decode cL_addTank 12 = .ok (.astore_n 3, 1) := by decide +kernel
theorem dL_addTank_13 : decode cL_addTank 13 = .ok (.iconst 1, 1) := by decide +kernel
theorem dL_addTank_14 : decode cL_addTank 14 = .ok (.ireturn, 1) := by decide +kernel
theorem dL_addTank_15 : decode cL_addTank 15 = .ok (.astore_n 3, 1) := by decide +kernel
theorem dL_addTank_16 : decode cL_addTank 16 = .ok (.iconst 2, 1) := by decide +kernel
theorem dL_addTank_17 : decode cL_addTank 17 = .ok (.ireturn, 1) := by decide +kernel
theorem dL_addTank_18 : decode cL_addTank 18 = .ok (.iconst 0, 1) := by decide +kernel
theorem dL_addTank_19 : decode cL_addTank 19 = .ok (.ireturn, 1) := by decide +kernel
theorem dL_setYield_0 : decode cL_setYield 0 = .ok (.aload_n 3, 1) := by decide +kernel
theorem dL_setYield_1 : decode cL_setYield 1 = .ok (.iconst 0, 1) := by decide +kernel
theorem dL_setYield_2 : decode cL_setYield 2 = .ok (.aload_n 0, 1) := by decide +kernel
theorem dL_setYield_3 : decode cL_setYield 3 = .ok (.iload_n 1, 1) := by decide +kernel
theorem dL_setYield_4 : decode cL_setYield 4 = .ok (.iload_n 2, 1) := by decide +kernel
theorem dL_setYield_5 : decode cL_setYield 5 = .ok (.invokevirtual 27, 3) := by decide +kernel
theorem dL_setYield_8 : decode cL_setYield 8 = .ok (.i2l, 1) := by decide +kernel
theorem dL_setYield_9 : decode cL_setYield 9 = .ok (.lastore, 1) := by decide +kernel
theorem dL_setYield_10 : decode cL_setYield 10 = .ok (.goto 11, 3) := by decide +kernel
theorem dL_setYield_13 : decode cL_setYield 13 = .ok (.astore 4, 2) := by decide +kernel
theorem dL_setYield_15 : decode cL_setYield 15 = .ok (.iconst 1, 1) := by decide +kernel
theorem dL_setYield_16 : decode cL_setYield 16 = .ok (.ireturn, 1) := by decide +kernel
theorem dL_setYield_17 : decode cL_setYield 17 = .ok (.astore 4, 2) := by decide +kernel
theorem dL_setYield_19 : decode cL_setYield 19 = .ok (.iconst 2, 1) := by decide +kernel
theorem dL_setYield_20 : decode cL_setYield 20 = .ok (.ireturn, 1) := by decide +kernel
theorem dL_setYield_21 : decode cL_setYield 21 = .ok (.iconst 0, 1) := by decide +kernel
theorem dL_setYield_22 : decode cL_setYield 22 = .ok (.ireturn, 1) := by decide +kernel
theorem dL_set_0 : decode cL_set 0 = .ok (.aload_n 3, 1) := by decide +kernel
theorem dL_set_1 : decode cL_set 1 = .ok (.iconst 0, 1) := by decide +kernel
theorem dL_set_2 : decode cL_set 2 = .ok (.aload_n 0, 1) := by decide +kernel
theorem dL_set_3 : decode cL_set 3 = .ok (.iload_n 1, 1) := by decide +kernel
theorem dL_set_4 : decode cL_set 4 = .ok (.iload_n 2, 1) := by decide +kernel
theorem dL_set_5 : decode cL_set 5 = .ok (.invokevirtual 31, 3) := by decide +kernel
theorem dL_set_8 : decode cL_set 8 = .ok (.i2l, 1) := by decide +kernel
theorem dL_set_9 : decode cL_set 9 = .ok (.lastore, 1) := by decide +kernel
theorem dL_set_10 : decode cL_set 10 = .ok (.goto 11, 3) := by decide +kernel
theorem dL_set_13 : decode cL_set 13 = .ok (.astore 4, 2) := by decide +kernel
theorem dL_set_15 : decode cL_set 15 = .ok (.iconst 1, 1) := by decide +kernel
theorem dL_set_16 : decode cL_set 16 = .ok (.ireturn, 1) := by decide +kernel
theorem dL_set_17 : decode cL_set 17 = .ok (.astore 4, 2) := by decide +kernel
theorem dL_set_19 : decode cL_set 19 = .ok (.iconst 2, 1) := by decide +kernel
theorem dL_set_20 : decode cL_set 20 = .ok (.ireturn, 1) := by decide +kernel
theorem dL_set_21 : decode cL_set 21 = .ok (.iconst 0, 1) := by decide +kernel
theorem dL_set_22 : decode cL_set 22 = .ok (.ireturn, 1) := by decide +kernel
theorem dL_press_0 : decode cL_press 0 = .ok (.aload_n 3, 1) := by decide +kernel
theorem dL_press_1 : decode cL_press 1 = .ok (.iconst 0, 1) := by decide +kernel
theorem dL_press_2 : decode cL_press 2 = .ok (.aload_n 0, 1) := by decide +kernel
theorem dL_press_3 : decode cL_press 3 = .ok (.iload_n 1, 1) := by decide +kernel
theorem dL_press_4 : decode cL_press 4 = .ok (.iload_n 2, 1) := by decide +kernel
theorem dL_press_5 : decode cL_press 5 = .ok (.invokevirtual 34, 3) := by decide +kernel
theorem dL_press_8 : decode cL_press 8 = .ok (.i2l, 1) := by decide +kernel
theorem dL_press_9 : decode cL_press 9 = .ok (.lastore, 1) := by decide +kernel
theorem dL_press_10 : decode cL_press 10 = .ok (.goto 11, 3) := by decide +kernel
theorem dL_press_13 : decode cL_press 13 = .ok (.astore 4, 2) := by decide +kernel
theorem dL_press_15 : decode cL_press 15 = .ok (.iconst 1, 1) := by decide +kernel
theorem dL_press_16 : decode cL_press 16 = .ok (.ireturn, 1) := by decide +kernel
theorem dL_press_17 : decode cL_press 17 = .ok (.astore 4, 2) := by decide +kernel
theorem dL_press_19 : decode cL_press 19 = .ok (.iconst 2, 1) := by decide +kernel
theorem dL_press_20 : decode cL_press 20 = .ok (.ireturn, 1) := by decide +kernel
theorem dL_press_21 : decode cL_press 21 = .ok (.iconst 0, 1) := by decide +kernel
theorem dL_press_22 : decode cL_press 22 = .ok (.ireturn, 1) := by decide +kernel
theorem dL_appeal_0 : decode cL_appeal 0 = .ok (.aload_n 2, 1) := by decide +kernel
theorem dL_appeal_1 : decode cL_appeal 1 = .ok (.iconst 0, 1) := by decide +kernel
theorem dL_appeal_2 : decode cL_appeal 2 = .ok (.aload_n 0, 1) := by decide +kernel
theorem dL_appeal_3 : decode cL_appeal 3 = .ok (.iload_n 1, 1) := by decide +kernel
theorem dL_appeal_4 : decode cL_appeal 4 = .ok (.invokevirtual 38, 3) := by decide +kernel
theorem dL_appeal_7 : decode cL_appeal 7 = .ok (.i2l, 1) := by decide +kernel
theorem dL_appeal_8 : decode cL_appeal 8 = .ok (.lastore, 1) := by decide +kernel
theorem dL_appeal_9 : decode cL_appeal 9 = .ok (.goto 9, 3) := by decide +kernel
theorem dL_appeal_12 : decode cL_appeal 12 = .ok (.astore_n 3, 1) := by decide +kernel
theorem dL_appeal_13 : decode cL_appeal 13 = .ok (.iconst 1, 1) := by decide +kernel
theorem dL_appeal_14 : decode cL_appeal 14 = .ok (.ireturn, 1) := by decide +kernel
theorem dL_appeal_15 : decode cL_appeal 15 = .ok (.astore_n 3, 1) := by decide +kernel
theorem dL_appeal_16 : decode cL_appeal 16 = .ok (.iconst 2, 1) := by decide +kernel
theorem dL_appeal_17 : decode cL_appeal 17 = .ok (.ireturn, 1) := by decide +kernel
theorem dL_appeal_18 : decode cL_appeal 18 = .ok (.iconst 0, 1) := by decide +kernel
theorem dL_appeal_19 : decode cL_appeal 19 = .ok (.ireturn, 1) := by decide +kernel
theorem dL_draw_0 : decode cL_draw 0 = .ok (.aload 4, 2) := by decide +kernel
theorem dL_draw_2 : decode cL_draw 2 = .ok (.iconst 0, 1) := by decide +kernel
theorem dL_draw_3 : decode cL_draw 3 = .ok (.aload_n 0, 1) := by decide +kernel
theorem dL_draw_4 : decode cL_draw 4 = .ok (.iload_n 1, 1) := by decide +kernel
theorem dL_draw_5 : decode cL_draw 5 = .ok (.iload_n 2, 1) := by decide +kernel
theorem dL_draw_6 : decode cL_draw 6 = .ok (.iload_n 3, 1) := by decide +kernel
theorem dL_draw_7 : decode cL_draw 7 = .ok (.invokevirtual 41, 3) := by decide +kernel
theorem dL_draw_10 : decode cL_draw 10 = .ok (.i2l, 1) := by decide +kernel
theorem dL_draw_11 : decode cL_draw 11 = .ok (.lastore, 1) := by decide +kernel
theorem dL_draw_12 : decode cL_draw 12 = .ok (.goto 15, 3) := by decide +kernel
theorem dL_draw_15 : decode cL_draw 15 = .ok (.astore 5, 2) := by decide +kernel
theorem dL_draw_17 : decode cL_draw 17 = .ok (.iconst 1, 1) := by decide +kernel
theorem dL_draw_18 : decode cL_draw 18 = .ok (.ireturn, 1) := by decide +kernel
theorem dL_draw_19 : decode cL_draw 19 = .ok (.astore 5, 2) := by decide +kernel
theorem dL_draw_21 : decode cL_draw 21 = .ok (.iconst 2, 1) := by decide +kernel
theorem dL_draw_22 : decode cL_draw 22 = .ok (.ireturn, 1) := by decide +kernel
theorem dL_draw_23 : decode cL_draw 23 = .ok (.astore 5, 2) := by decide +kernel
theorem dL_draw_25 : decode cL_draw 25 = .ok (.iconst 3, 1) := by decide +kernel
theorem dL_draw_26 : decode cL_draw 26 = .ok (.ireturn, 1) := by decide +kernel
theorem dL_draw_27 : decode cL_draw 27 = .ok (.iconst 0, 1) := by decide +kernel
theorem dL_draw_28 : decode cL_draw 28 = .ok (.ireturn, 1) := by decide +kernel
theorem dL_move_0 : decode cL_move 0 = .ok (.aload 5, 2) := by decide +kernel
theorem dL_move_2 : decode cL_move 2 = .ok (.iconst 0, 1) := by decide +kernel
theorem dL_move_3 : decode cL_move 3 = .ok (.aload_n 0, 1) := by decide +kernel
theorem dL_move_4 : decode cL_move 4 = .ok (.iload_n 1, 1) := by decide +kernel
theorem dL_move_5 : decode cL_move 5 = .ok (.iload_n 2, 1) := by decide +kernel
theorem dL_move_6 : decode cL_move 6 = .ok (.iload_n 3, 1) := by decide +kernel
theorem dL_move_7 : decode cL_move 7 = .ok (.iload 4, 2) := by decide +kernel
theorem dL_move_9 : decode cL_move 9 = .ok (.invokevirtual 45, 3) := by decide +kernel
theorem dL_move_12 : decode cL_move 12 = .ok (.i2l, 1) := by decide +kernel
theorem dL_move_13 : decode cL_move 13 = .ok (.lastore, 1) := by decide +kernel
theorem dL_move_14 : decode cL_move 14 = .ok (.goto 15, 3) := by decide +kernel
theorem dL_move_17 : decode cL_move 17 = .ok (.astore 6, 2) := by decide +kernel
theorem dL_move_19 : decode cL_move 19 = .ok (.iconst 1, 1) := by decide +kernel
theorem dL_move_20 : decode cL_move 20 = .ok (.ireturn, 1) := by decide +kernel
theorem dL_move_21 : decode cL_move 21 = .ok (.astore 6, 2) := by decide +kernel
theorem dL_move_23 : decode cL_move 23 = .ok (.iconst 2, 1) := by decide +kernel
theorem dL_move_24 : decode cL_move 24 = .ok (.ireturn, 1) := by decide +kernel
theorem dL_move_25 : decode cL_move 25 = .ok (.astore 6, 2) := by decide +kernel
theorem dL_move_27 : decode cL_move 27 = .ok (.iconst 3, 1) := by decide +kernel
theorem dL_move_28 : decode cL_move 28 = .ok (.ireturn, 1) := by decide +kernel
theorem dL_move_29 : decode cL_move 29 = .ok (.iconst 0, 1) := by decide +kernel
theorem dL_move_30 : decode cL_move 30 = .ok (.ireturn, 1) := by decide +kernel
theorem dL_pass_0 : decode cL_pass 0 = .ok (.aload_n 2, 1) := by decide +kernel
theorem dL_pass_1 : decode cL_pass 1 = .ok (.iconst 0, 1) := by decide +kernel
theorem dL_pass_2 : decode cL_pass 2 = .ok (.aload_n 0, 1) := by decide +kernel
theorem dL_pass_3 : decode cL_pass 3 = .ok (.iload_n 1, 1) := by decide +kernel
theorem dL_pass_4 : decode cL_pass 4 = .ok (.invokevirtual 49, 3) := by decide +kernel
theorem dL_pass_7 : decode cL_pass 7 = .ok (.i2l, 1) := by decide +kernel
theorem dL_pass_8 : decode cL_pass 8 = .ok (.lastore, 1) := by decide +kernel
theorem dL_pass_9 : decode cL_pass 9 = .ok (.goto 6, 3) := by decide +kernel
theorem dL_pass_12 : decode cL_pass 12 = .ok (.astore_n 3, 1) := by decide +kernel
theorem dL_pass_13 : decode cL_pass 13 = .ok (.iconst 1, 1) := by decide +kernel
theorem dL_pass_14 : decode cL_pass 14 = .ok (.ireturn, 1) := by decide +kernel
theorem dL_pass_15 : decode cL_pass 15 = .ok (.iconst 0, 1) := by decide +kernel
theorem dL_pass_16 : decode cL_pass 16 = .ok (.ireturn, 1) := by decide +kernel
theorem dL_append_0 : decode cL_append 0 = .ok (.aload_n 2, 1) := by decide +kernel
theorem dL_append_1 : decode cL_append 1 = .ok (.iconst 0, 1) := by decide +kernel
theorem dL_append_2 : decode cL_append 2 = .ok (.aload_n 0, 1) := by decide +kernel
theorem dL_append_3 : decode cL_append 3 = .ok (.iload_n 1, 1) := by decide +kernel
theorem dL_append_4 : decode cL_append 4 = .ok (.invokevirtual 52, 3) := by decide +kernel
theorem dL_append_7 : decode cL_append 7 = .ok (.i2l, 1) := by decide +kernel
theorem dL_append_8 : decode cL_append 8 = .ok (.lastore, 1) := by decide +kernel
theorem dL_append_9 : decode cL_append 9 = .ok (.goto 9, 3) := by decide +kernel
theorem dL_append_12 : decode cL_append 12 = .ok (.astore_n 3, 1) := by decide +kernel
theorem dL_append_13 : decode cL_append 13 = .ok (.iconst 1, 1) := by decide +kernel
theorem dL_append_14 : decode cL_append 14 = .ok (.ireturn, 1) := by decide +kernel
theorem dL_append_15 : decode cL_append 15 = .ok (.astore_n 3, 1) := by decide +kernel
theorem dL_append_16 : decode cL_append 16 = .ok (.iconst 2, 1) := by decide +kernel
theorem dL_append_17 : decode cL_append 17 = .ok (.ireturn, 1) := by decide +kernel
theorem dL_append_18 : decode cL_append 18 = .ok (.iconst 0, 1) := by decide +kernel
theorem dL_append_19 : decode cL_append 19 = .ok (.ireturn, 1) := by decide +kernel
theorem dL_addSlips_0 : decode cL_addSlips 0 = .ok (.aload_n 1, 1) := by decide +kernel
theorem dL_addSlips_1 : decode cL_addSlips 1 = .ok (.iconst 0, 1) := by decide +kernel
theorem dL_addSlips_2 : decode cL_addSlips 2 = .ok (.aload_n 0, 1) := by decide +kernel
theorem dL_addSlips_3 : decode cL_addSlips 3 = .ok (.invokevirtual 55, 3) := by decide +kernel
theorem dL_addSlips_6 : decode cL_addSlips 6 = .ok (.i2l, 1) := by decide +kernel
theorem dL_addSlips_7 : decode cL_addSlips 7 = .ok (.lastore, 1) := by decide +kernel
theorem dL_addSlips_8 : decode cL_addSlips 8 = .ok (.goto 6, 3) := by decide +kernel
theorem dL_addSlips_11 : decode cL_addSlips 11 = .ok (.astore_n 2, 1) := by decide +kernel
theorem dL_addSlips_12 : decode cL_addSlips 12 = .ok (.iconst 1, 1) := by decide +kernel
theorem dL_addSlips_13 : decode cL_addSlips 13 = .ok (.ireturn, 1) := by decide +kernel
theorem dL_addSlips_14 : decode cL_addSlips 14 = .ok (.iconst 0, 1) := by decide +kernel
theorem dL_addSlips_15 : decode cL_addSlips 15 = .ok (.ireturn, 1) := by decide +kernel
theorem dL_undo_0 : decode cL_undo 0 = .ok (.aload_n 1, 1) := by decide +kernel
theorem dL_undo_1 : decode cL_undo 1 = .ok (.iconst 0, 1) := by decide +kernel
theorem dL_undo_2 : decode cL_undo 2 = .ok (.aload_n 0, 1) := by decide +kernel
theorem dL_undo_3 : decode cL_undo 3 = .ok (.invokevirtual 58, 3) := by decide +kernel
theorem dL_undo_6 : decode cL_undo 6 = .ok (.i2l, 1) := by decide +kernel
theorem dL_undo_7 : decode cL_undo 7 = .ok (.lastore, 1) := by decide +kernel
theorem dL_undo_8 : decode cL_undo 8 = .ok (.goto 6, 3) := by decide +kernel
theorem dL_undo_11 : decode cL_undo 11 = .ok (.astore_n 2, 1) := by decide +kernel
theorem dL_undo_12 : decode cL_undo 12 = .ok (.iconst 1, 1) := by decide +kernel
theorem dL_undo_13 : decode cL_undo 13 = .ok (.ireturn, 1) := by decide +kernel
theorem dL_undo_14 : decode cL_undo 14 = .ok (.iconst 0, 1) := by decide +kernel
theorem dL_undo_15 : decode cL_undo 15 = .ok (.ireturn, 1) := by decide +kernel
theorem dL_grower_0 : decode cL_grower 0 = .ok (.aload_n 3, 1) := by decide +kernel
theorem dL_grower_1 : decode cL_grower 1 = .ok (.iconst 0, 1) := by decide +kernel
theorem dL_grower_2 : decode cL_grower 2 = .ok (.aload_n 0, 1) := by decide +kernel
theorem dL_grower_3 : decode cL_grower 3 = .ok (.iload_n 1, 1) := by decide +kernel
theorem dL_grower_4 : decode cL_grower 4 = .ok (.iload_n 2, 1) := by decide +kernel
theorem dL_grower_5 : decode cL_grower 5 = .ok (.invokevirtual 61, 3) := by decide +kernel
theorem dL_grower_8 : decode cL_grower 8 = .ok (.i2l, 1) := by decide +kernel
theorem dL_grower_9 : decode cL_grower 9 = .ok (.lastore, 1) := by decide +kernel
theorem dL_grower_10 : decode cL_grower 10 = .ok (.goto 11, 3) := by decide +kernel
theorem dL_grower_13 : decode cL_grower 13 = .ok (.astore 4, 2) := by decide +kernel
theorem dL_grower_15 : decode cL_grower 15 = .ok (.iconst 1, 1) := by decide +kernel
theorem dL_grower_16 : decode cL_grower 16 = .ok (.ireturn, 1) := by decide +kernel
theorem dL_grower_17 : decode cL_grower 17 = .ok (.astore 4, 2) := by decide +kernel
theorem dL_grower_19 : decode cL_grower 19 = .ok (.iconst 2, 1) := by decide +kernel
theorem dL_grower_20 : decode cL_grower 20 = .ok (.ireturn, 1) := by decide +kernel
theorem dL_grower_21 : decode cL_grower 21 = .ok (.iconst 0, 1) := by decide +kernel
theorem dL_grower_22 : decode cL_grower 22 = .ok (.ireturn, 1) := by decide +kernel
theorem dL_lot_0 : decode cL_lot 0 = .ok (.aload_n 3, 1) := by decide +kernel
theorem dL_lot_1 : decode cL_lot 1 = .ok (.iconst 0, 1) := by decide +kernel
theorem dL_lot_2 : decode cL_lot 2 = .ok (.aload_n 0, 1) := by decide +kernel
theorem dL_lot_3 : decode cL_lot 3 = .ok (.iload_n 1, 1) := by decide +kernel
theorem dL_lot_4 : decode cL_lot 4 = .ok (.iload_n 2, 1) := by decide +kernel
theorem dL_lot_5 : decode cL_lot 5 = .ok (.invokevirtual 64, 3) := by decide +kernel
theorem dL_lot_8 : decode cL_lot 8 = .ok (.i2l, 1) := by decide +kernel
theorem dL_lot_9 : decode cL_lot 9 = .ok (.lastore, 1) := by decide +kernel
theorem dL_lot_10 : decode cL_lot 10 = .ok (.goto 11, 3) := by decide +kernel
theorem dL_lot_13 : decode cL_lot 13 = .ok (.astore 4, 2) := by decide +kernel
theorem dL_lot_15 : decode cL_lot 15 = .ok (.iconst 1, 1) := by decide +kernel
theorem dL_lot_16 : decode cL_lot 16 = .ok (.ireturn, 1) := by decide +kernel
theorem dL_lot_17 : decode cL_lot 17 = .ok (.astore 4, 2) := by decide +kernel
theorem dL_lot_19 : decode cL_lot 19 = .ok (.iconst 2, 1) := by decide +kernel
theorem dL_lot_20 : decode cL_lot 20 = .ok (.ireturn, 1) := by decide +kernel
theorem dL_lot_21 : decode cL_lot 21 = .ok (.iconst 0, 1) := by decide +kernel
theorem dL_lot_22 : decode cL_lot 22 = .ok (.ireturn, 1) := by decide +kernel
theorem dL_tank_0 : decode cL_tank 0 = .ok (.aload_n 3, 1) := by decide +kernel
theorem dL_tank_1 : decode cL_tank 1 = .ok (.iconst 0, 1) := by decide +kernel
theorem dL_tank_2 : decode cL_tank 2 = .ok (.aload_n 0, 1) := by decide +kernel
theorem dL_tank_3 : decode cL_tank 3 = .ok (.iload_n 1, 1) := by decide +kernel
theorem dL_tank_4 : decode cL_tank 4 = .ok (.iload_n 2, 1) := by decide +kernel
theorem dL_tank_5 : decode cL_tank 5 = .ok (.invokevirtual 67, 3) := by decide +kernel
theorem dL_tank_8 : decode cL_tank 8 = .ok (.i2l, 1) := by decide +kernel
theorem dL_tank_9 : decode cL_tank 9 = .ok (.lastore, 1) := by decide +kernel
theorem dL_tank_10 : decode cL_tank 10 = .ok (.goto 11, 3) := by decide +kernel
theorem dL_tank_13 : decode cL_tank 13 = .ok (.astore 4, 2) := by decide +kernel
theorem dL_tank_15 : decode cL_tank 15 = .ok (.iconst 1, 1) := by decide +kernel
theorem dL_tank_16 : decode cL_tank 16 = .ok (.ireturn, 1) := by decide +kernel
theorem dL_tank_17 : decode cL_tank 17 = .ok (.astore 4, 2) := by decide +kernel
theorem dL_tank_19 : decode cL_tank 19 = .ok (.iconst 2, 1) := by decide +kernel
theorem dL_tank_20 : decode cL_tank 20 = .ok (.ireturn, 1) := by decide +kernel
theorem dL_tank_21 : decode cL_tank 21 = .ok (.iconst 0, 1) := by decide +kernel
theorem dL_tank_22 : decode cL_tank 22 = .ok (.ireturn, 1) := by decide +kernel
theorem dL_variety_0 : decode cL_variety 0 = .ok (.aload_n 3, 1) := by decide +kernel
theorem dL_variety_1 : decode cL_variety 1 = .ok (.iconst 0, 1) := by decide +kernel
theorem dL_variety_2 : decode cL_variety 2 = .ok (.aload_n 0, 1) := by decide +kernel
theorem dL_variety_3 : decode cL_variety 3 = .ok (.iload_n 1, 1) := by decide +kernel
theorem dL_variety_4 : decode cL_variety 4 = .ok (.iload_n 2, 1) := by decide +kernel
theorem dL_variety_5 : decode cL_variety 5 = .ok (.invokevirtual 70, 3) := by decide +kernel
theorem dL_variety_8 : decode cL_variety 8 = .ok (.i2l, 1) := by decide +kernel
theorem dL_variety_9 : decode cL_variety 9 = .ok (.lastore, 1) := by decide +kernel
theorem dL_variety_10 : decode cL_variety 10 = .ok (.goto 11, 3) := by decide +kernel
theorem dL_variety_13 : decode cL_variety 13 = .ok (.astore 4, 2) := by decide +kernel
theorem dL_variety_15 : decode cL_variety 15 = .ok (.iconst 1, 1) := by decide +kernel
theorem dL_variety_16 : decode cL_variety 16 = .ok (.ireturn, 1) := by decide +kernel
theorem dL_variety_17 : decode cL_variety 17 = .ok (.astore 4, 2) := by decide +kernel
theorem dL_variety_19 : decode cL_variety 19 = .ok (.iconst 2, 1) := by decide +kernel
theorem dL_variety_20 : decode cL_variety 20 = .ok (.ireturn, 1) := by decide +kernel
theorem dL_variety_21 : decode cL_variety 21 = .ok (.iconst 0, 1) := by decide +kernel
theorem dL_variety_22 : decode cL_variety 22 = .ok (.ireturn, 1) := by decide +kernel
theorem dL_count_0 : decode cL_count 0 = .ok (.aload_n 2, 1) := by decide +kernel
theorem dL_count_1 : decode cL_count 1 = .ok (.iconst 0, 1) := by decide +kernel
theorem dL_count_2 : decode cL_count 2 = .ok (.aload_n 0, 1) := by decide +kernel
theorem dL_count_3 : decode cL_count 3 = .ok (.iload_n 1, 1) := by decide +kernel
theorem dL_count_4 : decode cL_count 4 = .ok (.invokevirtual 73, 3) := by decide +kernel
theorem dL_count_7 : decode cL_count 7 = .ok (.i2l, 1) := by decide +kernel
theorem dL_count_8 : decode cL_count 8 = .ok (.lastore, 1) := by decide +kernel
theorem dL_count_9 : decode cL_count 9 = .ok (.goto 6, 3) := by decide +kernel
theorem dL_count_12 : decode cL_count 12 = .ok (.astore_n 3, 1) := by decide +kernel
theorem dL_count_13 : decode cL_count 13 = .ok (.iconst 1, 1) := by decide +kernel
theorem dL_count_14 : decode cL_count 14 = .ok (.ireturn, 1) := by decide +kernel
theorem dL_count_15 : decode cL_count 15 = .ok (.iconst 0, 1) := by decide +kernel
theorem dL_count_16 : decode cL_count 16 = .ok (.ireturn, 1) := by decide +kernel
theorem dL_setting_0 : decode cL_setting 0 = .ok (.aload_n 2, 1) := by decide +kernel
theorem dL_setting_1 : decode cL_setting 1 = .ok (.iconst 0, 1) := by decide +kernel
theorem dL_setting_2 : decode cL_setting 2 = .ok (.aload_n 0, 1) := by decide +kernel
theorem dL_setting_3 : decode cL_setting 3 = .ok (.iload_n 1, 1) := by decide +kernel
theorem dL_setting_4 : decode cL_setting 4 = .ok (.invokevirtual 76, 3) := by decide +kernel
theorem dL_setting_7 : decode cL_setting 7 = .ok (.i2l, 1) := by decide +kernel
theorem dL_setting_8 : decode cL_setting 8 = .ok (.lastore, 1) := by decide +kernel
theorem dL_setting_9 : decode cL_setting 9 = .ok (.goto 6, 3) := by decide +kernel
theorem dL_setting_12 : decode cL_setting 12 = .ok (.astore_n 3, 1) := by decide +kernel
theorem dL_setting_13 : decode cL_setting 13 = .ok (.iconst 1, 1) := by decide +kernel
theorem dL_setting_14 : decode cL_setting 14 = .ok (.ireturn, 1) := by decide +kernel
theorem dL_setting_15 : decode cL_setting 15 = .ok (.iconst 0, 1) := by decide +kernel
theorem dL_setting_16 : decode cL_setting 16 = .ok (.ireturn, 1) := by decide +kernel
theorem dL_whyNot_0 : decode cL_whyNot 0 = .ok (.aload_n 3, 1) := by decide +kernel
theorem dL_whyNot_1 : decode cL_whyNot 1 = .ok (.iconst 0, 1) := by decide +kernel
theorem dL_whyNot_2 : decode cL_whyNot 2 = .ok (.aload_n 0, 1) := by decide +kernel
theorem dL_whyNot_3 : decode cL_whyNot 3 = .ok (.iload_n 1, 1) := by decide +kernel
theorem dL_whyNot_4 : decode cL_whyNot 4 = .ok (.iload_n 2, 1) := by decide +kernel
theorem dL_whyNot_5 : decode cL_whyNot 5 = .ok (.invokevirtual 79, 3) := by decide +kernel
theorem dL_whyNot_8 : decode cL_whyNot 8 = .ok (.i2l, 1) := by decide +kernel
theorem dL_whyNot_9 : decode cL_whyNot 9 = .ok (.lastore, 1) := by decide +kernel
theorem dL_whyNot_10 : decode cL_whyNot 10 = .ok (.goto 7, 3) := by decide +kernel
theorem dL_whyNot_13 : decode cL_whyNot 13 = .ok (.astore 4, 2) := by decide +kernel
theorem dL_whyNot_15 : decode cL_whyNot 15 = .ok (.iconst 1, 1) := by decide +kernel
theorem dL_whyNot_16 : decode cL_whyNot 16 = .ok (.ireturn, 1) := by decide +kernel
theorem dL_whyNot_17 : decode cL_whyNot 17 = .ok (.iconst 0, 1) := by decide +kernel
theorem dL_whyNot_18 : decode cL_whyNot 18 = .ok (.ireturn, 1) := by decide +kernel
theorem dL_next_0 : decode cL_next 0 = .ok (.aload_n 2, 1) := by decide +kernel
theorem dL_next_1 : decode cL_next 1 = .ok (.iconst 0, 1) := by decide +kernel
theorem dL_next_2 : decode cL_next 2 = .ok (.aload_n 0, 1) := by decide +kernel
theorem dL_next_3 : decode cL_next 3 = .ok (.iload_n 1, 1) := by decide +kernel
theorem dL_next_4 : decode cL_next 4 = .ok (.invokevirtual 82, 3) := by decide +kernel
theorem dL_next_7 : decode cL_next 7 = .ok (.i2l, 1) := by decide +kernel
theorem dL_next_8 : decode cL_next 8 = .ok (.lastore, 1) := by decide +kernel
theorem dL_next_9 : decode cL_next 9 = .ok (.goto 6, 3) := by decide +kernel
theorem dL_next_12 : decode cL_next 12 = .ok (.astore_n 3, 1) := by decide +kernel
theorem dL_next_13 : decode cL_next 13 = .ok (.iconst 1, 1) := by decide +kernel
theorem dL_next_14 : decode cL_next 14 = .ok (.ireturn, 1) := by decide +kernel
theorem dL_next_15 : decode cL_next 15 = .ok (.iconst 0, 1) := by decide +kernel
theorem dL_next_16 : decode cL_next 16 = .ok (.ireturn, 1) := by decide +kernel
theorem dL_taken_0 : decode cL_taken 0 = .ok (.aload 4, 2) := by decide +kernel
theorem dL_taken_2 : decode cL_taken 2 = .ok (.iconst 0, 1) := by decide +kernel
theorem dL_taken_3 : decode cL_taken 3 = .ok (.aload_n 0, 1) := by decide +kernel
theorem dL_taken_4 : decode cL_taken 4 = .ok (.iload_n 1, 1) := by decide +kernel
theorem dL_taken_5 : decode cL_taken 5 = .ok (.iload_n 2, 1) := by decide +kernel
theorem dL_taken_6 : decode cL_taken 6 = .ok (.iload_n 3, 1) := by decide +kernel
theorem dL_taken_7 : decode cL_taken 7 = .ok (.invokevirtual 85, 3) := by decide +kernel
theorem dL_taken_10 : decode cL_taken 10 = .ok (.i2l, 1) := by decide +kernel
theorem dL_taken_11 : decode cL_taken 11 = .ok (.lastore, 1) := by decide +kernel
theorem dL_taken_12 : decode cL_taken 12 = .ok (.goto 11, 3) := by decide +kernel
theorem dL_taken_15 : decode cL_taken 15 = .ok (.astore 5, 2) := by decide +kernel
theorem dL_taken_17 : decode cL_taken 17 = .ok (.iconst 1, 1) := by decide +kernel
theorem dL_taken_18 : decode cL_taken 18 = .ok (.ireturn, 1) := by decide +kernel
theorem dL_taken_19 : decode cL_taken 19 = .ok (.astore 5, 2) := by decide +kernel
theorem dL_taken_21 : decode cL_taken 21 = .ok (.iconst 2, 1) := by decide +kernel
theorem dL_taken_22 : decode cL_taken 22 = .ok (.ireturn, 1) := by decide +kernel
theorem dL_taken_23 : decode cL_taken 23 = .ok (.iconst 0, 1) := by decide +kernel
theorem dL_taken_24 : decode cL_taken 24 = .ok (.ireturn, 1) := by decide +kernel
theorem dL_oilIn_0 : decode cL_oilIn 0 = .ok (.aload_n 3, 1) := by decide +kernel
theorem dL_oilIn_1 : decode cL_oilIn 1 = .ok (.iconst 0, 1) := by decide +kernel
theorem dL_oilIn_2 : decode cL_oilIn 2 = .ok (.aload_n 0, 1) := by decide +kernel
theorem dL_oilIn_3 : decode cL_oilIn 3 = .ok (.iload_n 1, 1) := by decide +kernel
theorem dL_oilIn_4 : decode cL_oilIn 4 = .ok (.iload_n 2, 1) := by decide +kernel
theorem dL_oilIn_5 : decode cL_oilIn 5 = .ok (.invokevirtual 88, 3) := by decide +kernel
theorem dL_oilIn_8 : decode cL_oilIn 8 = .ok (.i2l, 1) := by decide +kernel
theorem dL_oilIn_9 : decode cL_oilIn 9 = .ok (.lastore, 1) := by decide +kernel
theorem dL_oilIn_10 : decode cL_oilIn 10 = .ok (.goto 11, 3) := by decide +kernel
theorem dL_oilIn_13 : decode cL_oilIn 13 = .ok (.astore 4, 2) := by decide +kernel
theorem dL_oilIn_15 : decode cL_oilIn 15 = .ok (.iconst 1, 1) := by decide +kernel
theorem dL_oilIn_16 : decode cL_oilIn 16 = .ok (.ireturn, 1) := by decide +kernel
theorem dL_oilIn_17 : decode cL_oilIn 17 = .ok (.astore 4, 2) := by decide +kernel
theorem dL_oilIn_19 : decode cL_oilIn 19 = .ok (.iconst 2, 1) := by decide +kernel
theorem dL_oilIn_20 : decode cL_oilIn 20 = .ok (.ireturn, 1) := by decide +kernel
theorem dL_oilIn_21 : decode cL_oilIn 21 = .ok (.iconst 0, 1) := by decide +kernel
theorem dL_oilIn_22 : decode cL_oilIn 22 = .ok (.ireturn, 1) := by decide +kernel
theorem dL_lossBy_0 : decode cL_lossBy 0 = .ok (.aload_n 2, 1) := by decide +kernel
theorem dL_lossBy_1 : decode cL_lossBy 1 = .ok (.iconst 0, 1) := by decide +kernel
theorem dL_lossBy_2 : decode cL_lossBy 2 = .ok (.aload_n 0, 1) := by decide +kernel
theorem dL_lossBy_3 : decode cL_lossBy 3 = .ok (.iload_n 1, 1) := by decide +kernel
theorem dL_lossBy_4 : decode cL_lossBy 4 = .ok (.invokevirtual 91, 3) := by decide +kernel
theorem dL_lossBy_7 : decode cL_lossBy 7 = .ok (.i2l, 1) := by decide +kernel
theorem dL_lossBy_8 : decode cL_lossBy 8 = .ok (.lastore, 1) := by decide +kernel
theorem dL_lossBy_9 : decode cL_lossBy 9 = .ok (.goto 6, 3) := by decide +kernel
theorem dL_lossBy_12 : decode cL_lossBy 12 = .ok (.astore_n 3, 1) := by decide +kernel
theorem dL_lossBy_13 : decode cL_lossBy 13 = .ok (.iconst 1, 1) := by decide +kernel
theorem dL_lossBy_14 : decode cL_lossBy 14 = .ok (.ireturn, 1) := by decide +kernel
theorem dL_lossBy_15 : decode cL_lossBy 15 = .ok (.iconst 0, 1) := by decide +kernel
theorem dL_lossBy_16 : decode cL_lossBy 16 = .ok (.ireturn, 1) := by decide +kernel
theorem dL_law_0 : decode cL_law 0 = .ok (.new 8, 3) := by decide +kernel
theorem dL_law_3 : decode cL_law 3 = .ok (.dup, 1) := by decide +kernel
theorem dL_law_4 : decode cL_law 4 = .ok (.invokespecial 94, 3) := by decide +kernel
theorem dL_law_7 : decode cL_law 7 = .ok (.astore_n 1, 1) := by decide +kernel
theorem dL_law_8 : decode cL_law 8 = .ok (.new 95, 3) := by decide +kernel
theorem dL_law_11 : decode cL_law 11 = .ok (.dup, 1) := by decide +kernel
theorem dL_law_12 : decode cL_law 12 = .ok (.invokespecial 97, 3) := by decide +kernel
theorem dL_law_15 : decode cL_law 15 = .ok (.astore_n 2, 1) := by decide +kernel
theorem dL_law_16 : decode cL_law 16 = .ok (.iconst 1, 1) := by decide +kernel
theorem dL_law_17 : decode cL_law 17 = .ok (.newarray .long, 2) := by decide +kernel
theorem dL_law_19 : decode cL_law 19 = .ok (.astore_n 3, 1) := by decide +kernel
theorem dL_law_20 : decode cL_law 20 = .ok (.iconst 0, 1) := by decide +kernel
theorem dL_law_21 : decode cL_law 21 = .ok (.istore 4, 2) := by decide +kernel
theorem dL_law_23 : decode cL_law 23 = .ok (.iload 4, 2) := by decide +kernel
theorem dL_law_25 : decode cL_law 25 = .ok (.aload_n 0, 1) := by decide +kernel
theorem dL_law_26 : decode cL_law 26 = .ok (.arraylength, 1) := by decide +kernel
theorem dL_law_27 : decode cL_law 27 = .ok (.bipush 6, 2) := by decide +kernel
theorem dL_law_29 : decode cL_law 29 = .ok (.isub, 1) := by decide +kernel
theorem dL_law_30 : decode cL_law 30 = .ok (.if_icmp .gt 1855, 3) := by decide +kernel
theorem dL_law_33 : decode cL_law 33 = .ok (.aload_n 0, 1) := by decide +kernel
theorem dL_law_34 : decode cL_law 34 = .ok (.iload 4, 2) := by decide +kernel
theorem dL_law_36 : decode cL_law 36 = .ok (.iaload, 1) := by decide +kernel
theorem dL_law_37 : decode cL_law 37 = .ok (.bipush 31, 2) := by decide +kernel
theorem dL_law_39 : decode cL_law 39 = .ok (.iand, 1) := by decide +kernel
theorem dL_law_40 : decode cL_law 40 = .ok (.tableswitch 1839 0 29 #[136, 180, 284, 340, 408, 476, 560, 573, 629, 709, 817, 873, 929, 942, 955, 999, 1043, 1111, 1179, 1247, 1315, 1371, 1427, 1511, 1567, 1647, 1715, 1771, 1784, 1825], 136) := by decide +kernel
theorem dL_law_176 : decode cL_law 176 = .ok (.aload_n 1, 1) := by decide +kernel
theorem dL_law_177 : decode cL_law 177 = .ok (.aload_n 3, 1) := by decide +kernel
theorem dL_law_178 : decode cL_law 178 = .ok (.invokestatic 98, 3) := by decide +kernel
theorem dL_law_181 : decode cL_law 181 = .ok (.istore 5, 2) := by decide +kernel
theorem dL_law_183 : decode cL_law 183 = .ok (.aload_n 2, 1) := by decide +kernel
theorem dL_law_184 : decode cL_law 184 = .ok (.invokevirtual 103, 3) := by decide +kernel
theorem dL_law_187 : decode cL_law 187 = .ok (.istore 6, 2) := by decide +kernel
theorem dL_law_189 : decode cL_law 189 = .ok (.aload_n 2, 1) := by decide +kernel
theorem dL_law_190 : decode cL_law 190 = .ok (.invokevirtual 104, 3) := by decide +kernel
theorem dL_law_193 : decode cL_law 193 = .ok (.iload 5, 2) := by decide +kernel
theorem dL_law_195 : decode cL_law 195 = .ok (.if_icmp .eq 5, 3) := by decide +kernel
theorem dL_law_198 : decode cL_law 198 = .ok (.iconst 0, 1) := by decide +kernel
theorem dL_law_199 : decode cL_law 199 = .ok (.ireturn, 1) := by decide +kernel
theorem dL_law_200 : decode cL_law 200 = .ok (.iload 5, 2) := by decide +kernel
theorem dL_law_202 : decode cL_law 202 = .ok (.ifCond .ne 15, 3) := by decide +kernel
theorem dL_law_205 : decode cL_law 205 = .ok (.aload_n 3, 1) := by decide +kernel
theorem dL_law_206 : decode cL_law 206 = .ok (.iconst 0, 1) := by decide +kernel
theorem dL_law_207 : decode cL_law 207 = .ok (.laload, 1) := by decide +kernel
theorem dL_law_208 : decode cL_law 208 = .ok (.iload 6, 2) := by decide +kernel
theorem dL_law_210 : decode cL_law 210 = .ok (.i2l, 1) := by decide +kernel
theorem dL_law_211 : decode cL_law 211 = .ok (.lcmp, 1) := by decide +kernel
theorem dL_law_212 : decode cL_law 212 = .ok (.ifCond .eq 5, 3) := by decide +kernel
theorem dL_law_215 : decode cL_law 215 = .ok (.iconst 0, 1) := by decide +kernel
theorem dL_law_216 : decode cL_law 216 = .ok (.ireturn, 1) := by decide +kernel
theorem dL_law_217 : decode cL_law 217 = .ok (.goto 1662, 3) := by decide +kernel
theorem dL_law_220 : decode cL_law 220 = .ok (.aload_n 1, 1) := by decide +kernel
theorem dL_law_221 : decode cL_law 221 = .ok (.aload_n 0, 1) := by decide +kernel
theorem dL_law_222 : decode cL_law 222 = .ok (.iload 4, 2) := by decide +kernel
theorem dL_law_224 : decode cL_law 224 = .ok (.iconst 1, 1) := by decide +kernel
theorem dL_law_225 : decode cL_law 225 = .ok (.iadd, 1) := by decide +kernel
theorem dL_law_226 : decode cL_law 226 = .ok (.iaload, 1) := by decide +kernel
theorem dL_law_227 : decode cL_law 227 = .ok (.aload_n 0, 1) := by decide +kernel
theorem dL_law_228 : decode cL_law 228 = .ok (.iload 4, 2) := by decide +kernel
theorem dL_law_230 : decode cL_law 230 = .ok (.iconst 2, 1) := by decide +kernel
theorem dL_law_231 : decode cL_law 231 = .ok (.iadd, 1) := by decide +kernel
theorem dL_law_232 : decode cL_law 232 = .ok (.iaload, 1) := by decide +kernel
theorem dL_law_233 : decode cL_law 233 = .ok (.aload_n 0, 1) := by decide +kernel
theorem dL_law_234 : decode cL_law 234 = .ok (.iload 4, 2) := by decide +kernel
theorem dL_law_236 : decode cL_law 236 = .ok (.iconst 3, 1) := by decide +kernel
theorem dL_law_237 : decode cL_law 237 = .ok (.iadd, 1) := by decide +kernel
theorem dL_law_238 : decode cL_law 238 = .ok (.iaload, 1) := by decide +kernel
theorem dL_law_239 : decode cL_law 239 = .ok (.aload_n 0, 1) := by decide +kernel
theorem dL_law_240 : decode cL_law 240 = .ok (.iload 4, 2) := by decide +kernel
theorem dL_law_242 : decode cL_law 242 = .ok (.iconst 4, 1) := by decide +kernel
theorem dL_law_243 : decode cL_law 243 = .ok (.iadd, 1) := by decide +kernel
theorem dL_law_244 : decode cL_law 244 = .ok (.iaload, 1) := by decide +kernel
theorem dL_law_245 : decode cL_law 245 = .ok (.aload_n 0, 1) := by decide +kernel
theorem dL_law_246 : decode cL_law 246 = .ok (.iload 4, 2) := by decide +kernel
theorem dL_law_248 : decode cL_law 248 = .ok (.iconst 5, 1) := by decide +kernel
theorem dL_law_249 : decode cL_law 249 = .ok (.iadd, 1) := by decide +kernel
theorem dL_law_250 : decode cL_law 250 = .ok (.iaload, 1) := by decide +kernel
theorem dL_law_251 : decode cL_law 251 = .ok (.aload_n 3, 1) := by decide +kernel
theorem dL_law_252 : decode cL_law 252 = .ok (.invokestatic 107, 3) := by decide +kernel
theorem dL_law_255 : decode cL_law 255 = .ok (.istore 5, 2) := by decide +kernel
theorem dL_law_257 : decode cL_law 257 = .ok (.aload_n 2, 1) := by decide +kernel
theorem dL_law_258 : decode cL_law 258 = .ok (.aload_n 0, 1) := by decide +kernel
theorem dL_law_259 : decode cL_law 259 = .ok (.iload 4, 2) := by decide +kernel
theorem dL_law_261 : decode cL_law 261 = .ok (.iconst 1, 1) := by decide +kernel
theorem dL_law_262 : decode cL_law 262 = .ok (.iadd, 1) := by decide +kernel
theorem dL_law_263 : decode cL_law 263 = .ok (.iaload, 1) := by decide +kernel
theorem dL_law_264 : decode cL_law 264 = .ok (.aload_n 0, 1) := by decide +kernel
theorem dL_law_265 : decode cL_law 265 = .ok (.iload 4, 2) := by decide +kernel
theorem dL_law_267 : decode cL_law 267 = .ok (.iconst 2, 1) := by decide +kernel
theorem dL_law_268 : decode cL_law 268 = .ok (.iadd, 1) := by decide +kernel
theorem dL_law_269 : decode cL_law 269 = .ok (.iaload, 1) := by decide +kernel
theorem dL_law_270 : decode cL_law 270 = .ok (.aload_n 0, 1) := by decide +kernel
theorem dL_law_271 : decode cL_law 271 = .ok (.iload 4, 2) := by decide +kernel
theorem dL_law_273 : decode cL_law 273 = .ok (.iconst 3, 1) := by decide +kernel
theorem dL_law_274 : decode cL_law 274 = .ok (.iadd, 1) := by decide +kernel
theorem dL_law_275 : decode cL_law 275 = .ok (.iaload, 1) := by decide +kernel
theorem dL_law_276 : decode cL_law 276 = .ok (.aload_n 0, 1) := by decide +kernel
theorem dL_law_277 : decode cL_law 277 = .ok (.iload 4, 2) := by decide +kernel
theorem dL_law_279 : decode cL_law 279 = .ok (.iconst 4, 1) := by decide +kernel
theorem dL_law_280 : decode cL_law 280 = .ok (.iadd, 1) := by decide +kernel
theorem dL_law_281 : decode cL_law 281 = .ok (.iaload, 1) := by decide +kernel
theorem dL_law_282 : decode cL_law 282 = .ok (.aload_n 0, 1) := by decide +kernel
theorem dL_law_283 : decode cL_law 283 = .ok (.iload 4, 2) := by decide +kernel
theorem dL_law_285 : decode cL_law 285 = .ok (.iconst 5, 1) := by decide +kernel
theorem dL_law_286 : decode cL_law 286 = .ok (.iadd, 1) := by decide +kernel
theorem dL_law_287 : decode cL_law 287 = .ok (.iaload, 1) := by decide +kernel
theorem dL_law_288 : decode cL_law 288 = .ok (.invokevirtual 110, 3) := by decide +kernel
theorem dL_law_291 : decode cL_law 291 = .ok (.istore 6, 2) := by decide +kernel
theorem dL_law_293 : decode cL_law 293 = .ok (.aload_n 2, 1) := by decide +kernel
theorem dL_law_294 : decode cL_law 294 = .ok (.invokevirtual 104, 3) := by decide +kernel
theorem dL_law_297 : decode cL_law 297 = .ok (.iload 5, 2) := by decide +kernel
theorem dL_law_299 : decode cL_law 299 = .ok (.if_icmp .eq 5, 3) := by decide +kernel
theorem dL_law_302 : decode cL_law 302 = .ok (.iconst 0, 1) := by decide +kernel
theorem dL_law_303 : decode cL_law 303 = .ok (.ireturn, 1) := by decide +kernel
theorem dL_law_304 : decode cL_law 304 = .ok (.iload 5, 2) := by decide +kernel
theorem dL_law_306 : decode cL_law 306 = .ok (.ifCond .ne 15, 3) := by decide +kernel
theorem dL_law_309 : decode cL_law 309 = .ok (.aload_n 3, 1) := by decide +kernel
theorem dL_law_310 : decode cL_law 310 = .ok (.iconst 0, 1) := by decide +kernel
theorem dL_law_311 : decode cL_law 311 = .ok (.laload, 1) := by decide +kernel
theorem dL_law_312 : decode cL_law 312 = .ok (.iload 6, 2) := by decide +kernel
theorem dL_law_314 : decode cL_law 314 = .ok (.i2l, 1) := by decide +kernel
theorem dL_law_315 : decode cL_law 315 = .ok (.lcmp, 1) := by decide +kernel
theorem dL_law_316 : decode cL_law 316 = .ok (.ifCond .eq 5, 3) := by decide +kernel
theorem dL_law_319 : decode cL_law 319 = .ok (.iconst 0, 1) := by decide +kernel
theorem dL_law_320 : decode cL_law 320 = .ok (.ireturn, 1) := by decide +kernel
theorem dL_law_321 : decode cL_law 321 = .ok (.goto 1558, 3) := by decide +kernel
theorem dL_law_324 : decode cL_law 324 = .ok (.aload_n 1, 1) := by decide +kernel
theorem dL_law_325 : decode cL_law 325 = .ok (.aload_n 0, 1) := by decide +kernel
theorem dL_law_326 : decode cL_law 326 = .ok (.iload 4, 2) := by decide +kernel
theorem dL_law_328 : decode cL_law 328 = .ok (.iconst 1, 1) := by decide +kernel
theorem dL_law_329 : decode cL_law 329 = .ok (.iadd, 1) := by decide +kernel
theorem dL_law_330 : decode cL_law 330 = .ok (.iaload, 1) := by decide +kernel
theorem dL_law_331 : decode cL_law 331 = .ok (.aload_n 3, 1) := by decide +kernel
theorem dL_law_332 : decode cL_law 332 = .ok (.invokestatic 111, 3) := by decide +kernel
theorem dL_law_335 : decode cL_law 335 = .ok (.istore 5, 2) := by decide +kernel
theorem dL_law_337 : decode cL_law 337 = .ok (.aload_n 2, 1) := by decide +kernel
theorem dL_law_338 : decode cL_law 338 = .ok (.aload_n 0, 1) := by decide +kernel
theorem dL_law_339 : decode cL_law 339 = .ok (.iload 4, 2) := by decide +kernel
theorem dL_law_341 : decode cL_law 341 = .ok (.iconst 1, 1) := by decide +kernel
theorem dL_law_342 : decode cL_law 342 = .ok (.iadd, 1) := by decide +kernel
theorem dL_law_343 : decode cL_law 343 = .ok (.iaload, 1) := by decide +kernel
theorem dL_law_344 : decode cL_law 344 = .ok (.invokevirtual 114, 3) := by decide +kernel
theorem dL_law_347 : decode cL_law 347 = .ok (.istore 6, 2) := by decide +kernel
theorem dL_law_349 : decode cL_law 349 = .ok (.aload_n 2, 1) := by decide +kernel
theorem dL_law_350 : decode cL_law 350 = .ok (.invokevirtual 104, 3) := by decide +kernel
theorem dL_law_353 : decode cL_law 353 = .ok (.iload 5, 2) := by decide +kernel
theorem dL_law_355 : decode cL_law 355 = .ok (.if_icmp .eq 5, 3) := by decide +kernel
theorem dL_law_358 : decode cL_law 358 = .ok (.iconst 0, 1) := by decide +kernel
theorem dL_law_359 : decode cL_law 359 = .ok (.ireturn, 1) := by decide +kernel
theorem dL_law_360 : decode cL_law 360 = .ok (.iload 5, 2) := by decide +kernel
theorem dL_law_362 : decode cL_law 362 = .ok (.ifCond .ne 15, 3) := by decide +kernel
theorem dL_law_365 : decode cL_law 365 = .ok (.aload_n 3, 1) := by decide +kernel
theorem dL_law_366 : decode cL_law 366 = .ok (.iconst 0, 1) := by decide +kernel
theorem dL_law_367 : decode cL_law 367 = .ok (.laload, 1) := by decide +kernel
theorem dL_law_368 : decode cL_law 368 = .ok (.iload 6, 2) := by decide +kernel
theorem dL_law_370 : decode cL_law 370 = .ok (.i2l, 1) := by decide +kernel
theorem dL_law_371 : decode cL_law 371 = .ok (.lcmp, 1) := by decide +kernel
theorem dL_law_372 : decode cL_law 372 = .ok (.ifCond .eq 5, 3) := by decide +kernel
theorem dL_law_375 : decode cL_law 375 = .ok (.iconst 0, 1) := by decide +kernel
theorem dL_law_376 : decode cL_law 376 = .ok (.ireturn, 1) := by decide +kernel
theorem dL_law_377 : decode cL_law 377 = .ok (.goto 1502, 3) := by decide +kernel
theorem dL_law_380 : decode cL_law 380 = .ok (.aload_n 1, 1) := by decide +kernel
theorem dL_law_381 : decode cL_law 381 = .ok (.aload_n 0, 1) := by decide +kernel
theorem dL_law_382 : decode cL_law 382 = .ok (.iload 4, 2) := by decide +kernel
theorem dL_law_384 : decode cL_law 384 = .ok (.iconst 1, 1) := by decide +kernel
theorem dL_law_385 : decode cL_law 385 = .ok (.iadd, 1) := by decide +kernel
theorem dL_law_386 : decode cL_law 386 = .ok (.iaload, 1) := by decide +kernel
theorem dL_law_387 : decode cL_law 387 = .ok (.aload_n 0, 1) := by decide +kernel
theorem dL_law_388 : decode cL_law 388 = .ok (.iload 4, 2) := by decide +kernel
theorem dL_law_390 : decode cL_law 390 = .ok (.iconst 2, 1) := by decide +kernel
theorem dL_law_391 : decode cL_law 391 = .ok (.iadd, 1) := by decide +kernel
theorem dL_law_392 : decode cL_law 392 = .ok (.iaload, 1) := by decide +kernel
theorem dL_law_393 : decode cL_law 393 = .ok (.aload_n 3, 1) := by decide +kernel
theorem dL_law_394 : decode cL_law 394 = .ok (.invokestatic 115, 3) := by decide +kernel
theorem dL_law_397 : decode cL_law 397 = .ok (.istore 5, 2) := by decide +kernel
theorem dL_law_399 : decode cL_law 399 = .ok (.aload_n 2, 1) := by decide +kernel
theorem dL_law_400 : decode cL_law 400 = .ok (.aload_n 0, 1) := by decide +kernel
theorem dL_law_401 : decode cL_law 401 = .ok (.iload 4, 2) := by decide +kernel
theorem dL_law_403 : decode cL_law 403 = .ok (.iconst 1, 1) := by decide +kernel
theorem dL_law_404 : decode cL_law 404 = .ok (.iadd, 1) := by decide +kernel
theorem dL_law_405 : decode cL_law 405 = .ok (.iaload, 1) := by decide +kernel
theorem dL_law_406 : decode cL_law 406 = .ok (.aload_n 0, 1) := by decide +kernel
theorem dL_law_407 : decode cL_law 407 = .ok (.iload 4, 2) := by decide +kernel
theorem dL_law_409 : decode cL_law 409 = .ok (.iconst 2, 1) := by decide +kernel
theorem dL_law_410 : decode cL_law 410 = .ok (.iadd, 1) := by decide +kernel
theorem dL_law_411 : decode cL_law 411 = .ok (.iaload, 1) := by decide +kernel
theorem dL_law_412 : decode cL_law 412 = .ok (.invokevirtual 118, 3) := by decide +kernel
theorem dL_law_415 : decode cL_law 415 = .ok (.istore 6, 2) := by decide +kernel
theorem dL_law_417 : decode cL_law 417 = .ok (.aload_n 2, 1) := by decide +kernel
theorem dL_law_418 : decode cL_law 418 = .ok (.invokevirtual 104, 3) := by decide +kernel
theorem dL_law_421 : decode cL_law 421 = .ok (.iload 5, 2) := by decide +kernel
theorem dL_law_423 : decode cL_law 423 = .ok (.if_icmp .eq 5, 3) := by decide +kernel
theorem dL_law_426 : decode cL_law 426 = .ok (.iconst 0, 1) := by decide +kernel
theorem dL_law_427 : decode cL_law 427 = .ok (.ireturn, 1) := by decide +kernel
theorem dL_law_428 : decode cL_law 428 = .ok (.iload 5, 2) := by decide +kernel
theorem dL_law_430 : decode cL_law 430 = .ok (.ifCond .ne 15, 3) := by decide +kernel
theorem dL_law_433 : decode cL_law 433 = .ok (.aload_n 3, 1) := by decide +kernel
theorem dL_law_434 : decode cL_law 434 = .ok (.iconst 0, 1) := by decide +kernel
theorem dL_law_435 : decode cL_law 435 = .ok (.laload, 1) := by decide +kernel
theorem dL_law_436 : decode cL_law 436 = .ok (.iload 6, 2) := by decide +kernel
theorem dL_law_438 : decode cL_law 438 = .ok (.i2l, 1) := by decide +kernel
theorem dL_law_439 : decode cL_law 439 = .ok (.lcmp, 1) := by decide +kernel
theorem dL_law_440 : decode cL_law 440 = .ok (.ifCond .eq 5, 3) := by decide +kernel
theorem dL_law_443 : decode cL_law 443 = .ok (.iconst 0, 1) := by decide +kernel
theorem dL_law_444 : decode cL_law 444 = .ok (.ireturn, 1) := by decide +kernel
theorem dL_law_445 : decode cL_law 445 = .ok (.goto 1434, 3) := by decide +kernel
theorem dL_law_448 : decode cL_law 448 = .ok (.aload_n 1, 1) := by decide +kernel
theorem dL_law_449 : decode cL_law 449 = .ok (.aload_n 0, 1) := by decide +kernel
theorem dL_law_450 : decode cL_law 450 = .ok (.iload 4, 2) := by decide +kernel
theorem dL_law_452 : decode cL_law 452 = .ok (.iconst 1, 1) := by decide +kernel
theorem dL_law_453 : decode cL_law 453 = .ok (.iadd, 1) := by decide +kernel
theorem dL_law_454 : decode cL_law 454 = .ok (.iaload, 1) := by decide +kernel
theorem dL_law_455 : decode cL_law 455 = .ok (.aload_n 0, 1) := by decide +kernel
theorem dL_law_456 : decode cL_law 456 = .ok (.iload 4, 2) := by decide +kernel
theorem dL_law_458 : decode cL_law 458 = .ok (.iconst 2, 1) := by decide +kernel
theorem dL_law_459 : decode cL_law 459 = .ok (.iadd, 1) := by decide +kernel
theorem dL_law_460 : decode cL_law 460 = .ok (.iaload, 1) := by decide +kernel
theorem dL_law_461 : decode cL_law 461 = .ok (.aload_n 3, 1) := by decide +kernel
theorem dL_law_462 : decode cL_law 462 = .ok (.invokestatic 119, 3) := by decide +kernel
theorem dL_law_465 : decode cL_law 465 = .ok (.istore 5, 2) := by decide +kernel
theorem dL_law_467 : decode cL_law 467 = .ok (.aload_n 2, 1) := by decide +kernel
theorem dL_law_468 : decode cL_law 468 = .ok (.aload_n 0, 1) := by decide +kernel
theorem dL_law_469 : decode cL_law 469 = .ok (.iload 4, 2) := by decide +kernel
theorem dL_law_471 : decode cL_law 471 = .ok (.iconst 1, 1) := by decide +kernel
theorem dL_law_472 : decode cL_law 472 = .ok (.iadd, 1) := by decide +kernel
theorem dL_law_473 : decode cL_law 473 = .ok (.iaload, 1) := by decide +kernel
theorem dL_law_474 : decode cL_law 474 = .ok (.aload_n 0, 1) := by decide +kernel
theorem dL_law_475 : decode cL_law 475 = .ok (.iload 4, 2) := by decide +kernel
theorem dL_law_477 : decode cL_law 477 = .ok (.iconst 2, 1) := by decide +kernel
theorem dL_law_478 : decode cL_law 478 = .ok (.iadd, 1) := by decide +kernel
theorem dL_law_479 : decode cL_law 479 = .ok (.iaload, 1) := by decide +kernel
theorem dL_law_480 : decode cL_law 480 = .ok (.invokevirtual 121, 3) := by decide +kernel
theorem dL_law_483 : decode cL_law 483 = .ok (.istore 6, 2) := by decide +kernel
theorem dL_law_485 : decode cL_law 485 = .ok (.aload_n 2, 1) := by decide +kernel
theorem dL_law_486 : decode cL_law 486 = .ok (.invokevirtual 104, 3) := by decide +kernel
theorem dL_law_489 : decode cL_law 489 = .ok (.iload 5, 2) := by decide +kernel
theorem dL_law_491 : decode cL_law 491 = .ok (.if_icmp .eq 5, 3) := by decide +kernel
theorem dL_law_494 : decode cL_law 494 = .ok (.iconst 0, 1) := by decide +kernel
theorem dL_law_495 : decode cL_law 495 = .ok (.ireturn, 1) := by decide +kernel
theorem dL_law_496 : decode cL_law 496 = .ok (.iload 5, 2) := by decide +kernel
theorem dL_law_498 : decode cL_law 498 = .ok (.ifCond .ne 15, 3) := by decide +kernel
theorem dL_law_501 : decode cL_law 501 = .ok (.aload_n 3, 1) := by decide +kernel
theorem dL_law_502 : decode cL_law 502 = .ok (.iconst 0, 1) := by decide +kernel
theorem dL_law_503 : decode cL_law 503 = .ok (.laload, 1) := by decide +kernel
theorem dL_law_504 : decode cL_law 504 = .ok (.iload 6, 2) := by decide +kernel
theorem dL_law_506 : decode cL_law 506 = .ok (.i2l, 1) := by decide +kernel
theorem dL_law_507 : decode cL_law 507 = .ok (.lcmp, 1) := by decide +kernel
theorem dL_law_508 : decode cL_law 508 = .ok (.ifCond .eq 5, 3) := by decide +kernel
theorem dL_law_511 : decode cL_law 511 = .ok (.iconst 0, 1) := by decide +kernel
theorem dL_law_512 : decode cL_law 512 = .ok (.ireturn, 1) := by decide +kernel
theorem dL_law_513 : decode cL_law 513 = .ok (.goto 1366, 3) := by decide +kernel
theorem dL_law_516 : decode cL_law 516 = .ok (.aload_n 1, 1) := by decide +kernel
theorem dL_law_517 : decode cL_law 517 = .ok (.aload_n 0, 1) := by decide +kernel
theorem dL_law_518 : decode cL_law 518 = .ok (.iload 4, 2) := by decide +kernel
theorem dL_law_520 : decode cL_law 520 = .ok (.iconst 1, 1) := by decide +kernel
theorem dL_law_521 : decode cL_law 521 = .ok (.iadd, 1) := by decide +kernel
theorem dL_law_522 : decode cL_law 522 = .ok (.iaload, 1) := by decide +kernel
theorem dL_law_523 : decode cL_law 523 = .ok (.aload_n 0, 1) := by decide +kernel
theorem dL_law_524 : decode cL_law 524 = .ok (.iload 4, 2) := by decide +kernel
theorem dL_law_526 : decode cL_law 526 = .ok (.iconst 2, 1) := by decide +kernel
theorem dL_law_527 : decode cL_law 527 = .ok (.iadd, 1) := by decide +kernel
theorem dL_law_528 : decode cL_law 528 = .ok (.iaload, 1) := by decide +kernel
theorem dL_law_529 : decode cL_law 529 = .ok (.ifCond .eq 7, 3) := by decide +kernel
theorem dL_law_532 : decode cL_law 532 = .ok (.iconst 1, 1) := by decide +kernel
theorem dL_law_533 : decode cL_law 533 = .ok (.goto 4, 3) := by decide +kernel
theorem dL_law_536 : decode cL_law 536 = .ok (.iconst 0, 1) := by decide +kernel
theorem dL_law_537 : decode cL_law 537 = .ok (.aload_n 3, 1) := by decide +kernel
theorem dL_law_538 : decode cL_law 538 = .ok (.invokestatic 122, 3) := by decide +kernel
theorem dL_law_541 : decode cL_law 541 = .ok (.istore 5, 2) := by decide +kernel
theorem dL_law_543 : decode cL_law 543 = .ok (.aload_n 2, 1) := by decide +kernel
theorem dL_law_544 : decode cL_law 544 = .ok (.aload_n 0, 1) := by decide +kernel
theorem dL_law_545 : decode cL_law 545 = .ok (.iload 4, 2) := by decide +kernel
theorem dL_law_547 : decode cL_law 547 = .ok (.iconst 1, 1) := by decide +kernel
theorem dL_law_548 : decode cL_law 548 = .ok (.iadd, 1) := by decide +kernel
theorem dL_law_549 : decode cL_law 549 = .ok (.iaload, 1) := by decide +kernel
theorem dL_law_550 : decode cL_law 550 = .ok (.aload_n 0, 1) := by decide +kernel
theorem dL_law_551 : decode cL_law 551 = .ok (.iload 4, 2) := by decide +kernel
theorem dL_law_553 : decode cL_law 553 = .ok (.iconst 2, 1) := by decide +kernel
theorem dL_law_554 : decode cL_law 554 = .ok (.iadd, 1) := by decide +kernel
theorem dL_law_555 : decode cL_law 555 = .ok (.iaload, 1) := by decide +kernel
theorem dL_law_556 : decode cL_law 556 = .ok (.ifCond .eq 7, 3) := by decide +kernel
theorem dL_law_559 : decode cL_law 559 = .ok (.iconst 1, 1) := by decide +kernel
theorem dL_law_560 : decode cL_law 560 = .ok (.goto 4, 3) := by decide +kernel
theorem dL_law_563 : decode cL_law 563 = .ok (.iconst 0, 1) := by decide +kernel
theorem dL_law_564 : decode cL_law 564 = .ok (.invokevirtual 125, 3) := by decide +kernel
theorem dL_law_567 : decode cL_law 567 = .ok (.istore 6, 2) := by decide +kernel
theorem dL_law_569 : decode cL_law 569 = .ok (.aload_n 2, 1) := by decide +kernel
theorem dL_law_570 : decode cL_law 570 = .ok (.invokevirtual 104, 3) := by decide +kernel
theorem dL_law_573 : decode cL_law 573 = .ok (.iload 5, 2) := by decide +kernel
theorem dL_law_575 : decode cL_law 575 = .ok (.if_icmp .eq 5, 3) := by decide +kernel
theorem dL_law_578 : decode cL_law 578 = .ok (.iconst 0, 1) := by decide +kernel
theorem dL_law_579 : decode cL_law 579 = .ok (.ireturn, 1) := by decide +kernel
theorem dL_law_580 : decode cL_law 580 = .ok (.iload 5, 2) := by decide +kernel
theorem dL_law_582 : decode cL_law 582 = .ok (.ifCond .ne 15, 3) := by decide +kernel
theorem dL_law_585 : decode cL_law 585 = .ok (.aload_n 3, 1) := by decide +kernel
theorem dL_law_586 : decode cL_law 586 = .ok (.iconst 0, 1) := by decide +kernel
theorem dL_law_587 : decode cL_law 587 = .ok (.laload, 1) := by decide +kernel
theorem dL_law_588 : decode cL_law 588 = .ok (.iload 6, 2) := by decide +kernel
theorem dL_law_590 : decode cL_law 590 = .ok (.i2l, 1) := by decide +kernel
theorem dL_law_591 : decode cL_law 591 = .ok (.lcmp, 1) := by decide +kernel
theorem dL_law_592 : decode cL_law 592 = .ok (.ifCond .eq 5, 3) := by decide +kernel
theorem dL_law_595 : decode cL_law 595 = .ok (.iconst 0, 1) := by decide +kernel
theorem dL_law_596 : decode cL_law 596 = .ok (.ireturn, 1) := by decide +kernel
theorem dL_law_597 : decode cL_law 597 = .ok (.goto 1282, 3) := by decide +kernel
theorem dL_law_600 : decode cL_law 600 = .ok (.aload_n 1, 1) := by decide +kernel
theorem dL_law_601 : decode cL_law 601 = .ok (.invokevirtual 126, 3) := by decide +kernel
theorem dL_law_604 : decode cL_law 604 = .ok (.aload_n 2, 1) := by decide +kernel
theorem dL_law_605 : decode cL_law 605 = .ok (.invokevirtual 129, 3) := by decide +kernel
theorem dL_law_608 : decode cL_law 608 = .ok (.if_icmp .eq 1271, 3) := by decide +kernel
theorem dL_law_611 : decode cL_law 611 = .ok (.iconst 0, 1) := by decide +kernel
theorem dL_law_612 : decode cL_law 612 = .ok (.ireturn, 1) := by decide +kernel
theorem dL_law_613 : decode cL_law 613 = .ok (.aload_n 1, 1) := by decide +kernel
theorem dL_law_614 : decode cL_law 614 = .ok (.aload_n 0, 1) := by decide +kernel
theorem dL_law_615 : decode cL_law 615 = .ok (.iload 4, 2) := by decide +kernel
theorem dL_law_617 : decode cL_law 617 = .ok (.iconst 1, 1) := by decide +kernel
theorem dL_law_618 : decode cL_law 618 = .ok (.iadd, 1) := by decide +kernel
theorem dL_law_619 : decode cL_law 619 = .ok (.iaload, 1) := by decide +kernel
theorem dL_law_620 : decode cL_law 620 = .ok (.aload_n 3, 1) := by decide +kernel
theorem dL_law_621 : decode cL_law 621 = .ok (.invokestatic 130, 3) := by decide +kernel
theorem dL_law_624 : decode cL_law 624 = .ok (.istore 5, 2) := by decide +kernel
theorem dL_law_626 : decode cL_law 626 = .ok (.aload_n 2, 1) := by decide +kernel
theorem dL_law_627 : decode cL_law 627 = .ok (.aload_n 0, 1) := by decide +kernel
theorem dL_law_628 : decode cL_law 628 = .ok (.iload 4, 2) := by decide +kernel
theorem dL_law_630 : decode cL_law 630 = .ok (.iconst 1, 1) := by decide +kernel
theorem dL_law_631 : decode cL_law 631 = .ok (.iadd, 1) := by decide +kernel
theorem dL_law_632 : decode cL_law 632 = .ok (.iaload, 1) := by decide +kernel
theorem dL_law_633 : decode cL_law 633 = .ok (.invokevirtual 132, 3) := by decide +kernel
theorem dL_law_636 : decode cL_law 636 = .ok (.istore 6, 2) := by decide +kernel
theorem dL_law_638 : decode cL_law 638 = .ok (.aload_n 2, 1) := by decide +kernel
theorem dL_law_639 : decode cL_law 639 = .ok (.invokevirtual 104, 3) := by decide +kernel
theorem dL_law_642 : decode cL_law 642 = .ok (.iload 5, 2) := by decide +kernel
theorem dL_law_644 : decode cL_law 644 = .ok (.if_icmp .eq 5, 3) := by decide +kernel
theorem dL_law_647 : decode cL_law 647 = .ok (.iconst 0, 1) := by decide +kernel
theorem dL_law_648 : decode cL_law 648 = .ok (.ireturn, 1) := by decide +kernel
theorem dL_law_649 : decode cL_law 649 = .ok (.iload 5, 2) := by decide +kernel
theorem dL_law_651 : decode cL_law 651 = .ok (.ifCond .ne 15, 3) := by decide +kernel
theorem dL_law_654 : decode cL_law 654 = .ok (.aload_n 3, 1) := by decide +kernel
theorem dL_law_655 : decode cL_law 655 = .ok (.iconst 0, 1) := by decide +kernel
theorem dL_law_656 : decode cL_law 656 = .ok (.laload, 1) := by decide +kernel
theorem dL_law_657 : decode cL_law 657 = .ok (.iload 6, 2) := by decide +kernel
theorem dL_law_659 : decode cL_law 659 = .ok (.i2l, 1) := by decide +kernel
theorem dL_law_660 : decode cL_law 660 = .ok (.lcmp, 1) := by decide +kernel
theorem dL_law_661 : decode cL_law 661 = .ok (.ifCond .eq 5, 3) := by decide +kernel
theorem dL_law_664 : decode cL_law 664 = .ok (.iconst 0, 1) := by decide +kernel
theorem dL_law_665 : decode cL_law 665 = .ok (.ireturn, 1) := by decide +kernel
theorem dL_law_666 : decode cL_law 666 = .ok (.goto 1213, 3) := by decide +kernel
theorem dL_law_669 : decode cL_law 669 = .ok (.aload_n 1, 1) := by decide +kernel
theorem dL_law_670 : decode cL_law 670 = .ok (.aload_n 0, 1) := by decide +kernel
theorem dL_law_671 : decode cL_law 671 = .ok (.iload 4, 2) := by decide +kernel
theorem dL_law_673 : decode cL_law 673 = .ok (.iconst 1, 1) := by decide +kernel
theorem dL_law_674 : decode cL_law 674 = .ok (.iadd, 1) := by decide +kernel
theorem dL_law_675 : decode cL_law 675 = .ok (.iaload, 1) := by decide +kernel
theorem dL_law_676 : decode cL_law 676 = .ok (.aload_n 0, 1) := by decide +kernel
theorem dL_law_677 : decode cL_law 677 = .ok (.iload 4, 2) := by decide +kernel
theorem dL_law_679 : decode cL_law 679 = .ok (.iconst 2, 1) := by decide +kernel
theorem dL_law_680 : decode cL_law 680 = .ok (.iadd, 1) := by decide +kernel
theorem dL_law_681 : decode cL_law 681 = .ok (.iaload, 1) := by decide +kernel
theorem dL_law_682 : decode cL_law 682 = .ok (.aload_n 0, 1) := by decide +kernel
theorem dL_law_683 : decode cL_law 683 = .ok (.iload 4, 2) := by decide +kernel
theorem dL_law_685 : decode cL_law 685 = .ok (.iconst 3, 1) := by decide +kernel
theorem dL_law_686 : decode cL_law 686 = .ok (.iadd, 1) := by decide +kernel
theorem dL_law_687 : decode cL_law 687 = .ok (.iaload, 1) := by decide +kernel
theorem dL_law_688 : decode cL_law 688 = .ok (.aload_n 3, 1) := by decide +kernel
theorem dL_law_689 : decode cL_law 689 = .ok (.invokestatic 133, 3) := by decide +kernel
theorem dL_law_692 : decode cL_law 692 = .ok (.istore 5, 2) := by decide +kernel
theorem dL_law_694 : decode cL_law 694 = .ok (.aload_n 2, 1) := by decide +kernel
theorem dL_law_695 : decode cL_law 695 = .ok (.aload_n 0, 1) := by decide +kernel
theorem dL_law_696 : decode cL_law 696 = .ok (.iload 4, 2) := by decide +kernel
theorem dL_law_698 : decode cL_law 698 = .ok (.iconst 1, 1) := by decide +kernel
theorem dL_law_699 : decode cL_law 699 = .ok (.iadd, 1) := by decide +kernel
theorem dL_law_700 : decode cL_law 700 = .ok (.iaload, 1) := by decide +kernel
theorem dL_law_701 : decode cL_law 701 = .ok (.aload_n 0, 1) := by decide +kernel
theorem dL_law_702 : decode cL_law 702 = .ok (.iload 4, 2) := by decide +kernel
theorem dL_law_704 : decode cL_law 704 = .ok (.iconst 2, 1) := by decide +kernel
theorem dL_law_705 : decode cL_law 705 = .ok (.iadd, 1) := by decide +kernel
theorem dL_law_706 : decode cL_law 706 = .ok (.iaload, 1) := by decide +kernel
theorem dL_law_707 : decode cL_law 707 = .ok (.aload_n 0, 1) := by decide +kernel
theorem dL_law_708 : decode cL_law 708 = .ok (.iload 4, 2) := by decide +kernel
theorem dL_law_710 : decode cL_law 710 = .ok (.iconst 3, 1) := by decide +kernel
theorem dL_law_711 : decode cL_law 711 = .ok (.iadd, 1) := by decide +kernel
theorem dL_law_712 : decode cL_law 712 = .ok (.iaload, 1) := by decide +kernel
theorem dL_law_713 : decode cL_law 713 = .ok (.invokevirtual 136, 3) := by decide +kernel
theorem dL_law_716 : decode cL_law 716 = .ok (.istore 6, 2) := by decide +kernel
theorem dL_law_718 : decode cL_law 718 = .ok (.aload_n 2, 1) := by decide +kernel
theorem dL_law_719 : decode cL_law 719 = .ok (.invokevirtual 104, 3) := by decide +kernel
theorem dL_law_722 : decode cL_law 722 = .ok (.iload 5, 2) := by decide +kernel
theorem dL_law_724 : decode cL_law 724 = .ok (.if_icmp .eq 5, 3) := by decide +kernel
theorem dL_law_727 : decode cL_law 727 = .ok (.iconst 0, 1) := by decide +kernel
theorem dL_law_728 : decode cL_law 728 = .ok (.ireturn, 1) := by decide +kernel
theorem dL_law_729 : decode cL_law 729 = .ok (.iload 5, 2) := by decide +kernel
theorem dL_law_731 : decode cL_law 731 = .ok (.ifCond .ne 15, 3) := by decide +kernel
theorem dL_law_734 : decode cL_law 734 = .ok (.aload_n 3, 1) := by decide +kernel
theorem dL_law_735 : decode cL_law 735 = .ok (.iconst 0, 1) := by decide +kernel
theorem dL_law_736 : decode cL_law 736 = .ok (.laload, 1) := by decide +kernel
theorem dL_law_737 : decode cL_law 737 = .ok (.iload 6, 2) := by decide +kernel
theorem dL_law_739 : decode cL_law 739 = .ok (.i2l, 1) := by decide +kernel
theorem dL_law_740 : decode cL_law 740 = .ok (.lcmp, 1) := by decide +kernel
theorem dL_law_741 : decode cL_law 741 = .ok (.ifCond .eq 5, 3) := by decide +kernel
theorem dL_law_744 : decode cL_law 744 = .ok (.iconst 0, 1) := by decide +kernel
theorem dL_law_745 : decode cL_law 745 = .ok (.ireturn, 1) := by decide +kernel
theorem dL_law_746 : decode cL_law 746 = .ok (.goto 1133, 3) := by decide +kernel
theorem dL_law_749 : decode cL_law 749 = .ok (.aload_n 1, 1) := by decide +kernel
theorem dL_law_750 : decode cL_law 750 = .ok (.aload_n 0, 1) := by decide +kernel
theorem dL_law_751 : decode cL_law 751 = .ok (.iload 4, 2) := by decide +kernel
theorem dL_law_753 : decode cL_law 753 = .ok (.iconst 1, 1) := by decide +kernel
theorem dL_law_754 : decode cL_law 754 = .ok (.iadd, 1) := by decide +kernel
theorem dL_law_755 : decode cL_law 755 = .ok (.iaload, 1) := by decide +kernel
theorem dL_law_756 : decode cL_law 756 = .ok (.aload_n 0, 1) := by decide +kernel
theorem dL_law_757 : decode cL_law 757 = .ok (.iload 4, 2) := by decide +kernel
theorem dL_law_759 : decode cL_law 759 = .ok (.iconst 2, 1) := by decide +kernel
theorem dL_law_760 : decode cL_law 760 = .ok (.iadd, 1) := by decide +kernel
theorem dL_law_761 : decode cL_law 761 = .ok (.iaload, 1) := by decide +kernel
theorem dL_law_762 : decode cL_law 762 = .ok (.aload_n 0, 1) := by decide +kernel
theorem dL_law_763 : decode cL_law 763 = .ok (.iload 4, 2) := by decide +kernel
theorem dL_law_765 : decode cL_law 765 = .ok (.iconst 3, 1) := by decide +kernel
theorem dL_law_766 : decode cL_law 766 = .ok (.iadd, 1) := by decide +kernel
theorem dL_law_767 : decode cL_law 767 = .ok (.iaload, 1) := by decide +kernel
theorem dL_law_768 : decode cL_law 768 = .ok (.aload_n 0, 1) := by decide +kernel
theorem dL_law_769 : decode cL_law 769 = .ok (.iload 4, 2) := by decide +kernel
theorem dL_law_771 : decode cL_law 771 = .ok (.iconst 4, 1) := by decide +kernel
theorem dL_law_772 : decode cL_law 772 = .ok (.iadd, 1) := by decide +kernel
theorem dL_law_773 : decode cL_law 773 = .ok (.iaload, 1) := by decide +kernel
theorem dL_law_774 : decode cL_law 774 = .ok (.ifCond .eq 7, 3) := by decide +kernel
theorem dL_law_777 : decode cL_law 777 = .ok (.iconst 1, 1) := by decide +kernel
theorem dL_law_778 : decode cL_law 778 = .ok (.goto 4, 3) := by decide +kernel
theorem dL_law_781 : decode cL_law 781 = .ok (.iconst 0, 1) := by decide +kernel
theorem dL_law_782 : decode cL_law 782 = .ok (.aload_n 3, 1) := by decide +kernel
theorem dL_law_783 : decode cL_law 783 = .ok (.invokestatic 137, 3) := by decide +kernel
theorem dL_law_786 : decode cL_law 786 = .ok (.istore 5, 2) := by decide +kernel
theorem dL_law_788 : decode cL_law 788 = .ok (.aload_n 2, 1) := by decide +kernel
theorem dL_law_789 : decode cL_law 789 = .ok (.aload_n 0, 1) := by decide +kernel
theorem dL_law_790 : decode cL_law 790 = .ok (.iload 4, 2) := by decide +kernel
theorem dL_law_792 : decode cL_law 792 = .ok (.iconst 1, 1) := by decide +kernel
theorem dL_law_793 : decode cL_law 793 = .ok (.iadd, 1) := by decide +kernel
theorem dL_law_794 : decode cL_law 794 = .ok (.iaload, 1) := by decide +kernel
theorem dL_law_795 : decode cL_law 795 = .ok (.aload_n 0, 1) := by decide +kernel
theorem dL_law_796 : decode cL_law 796 = .ok (.iload 4, 2) := by decide +kernel
theorem dL_law_798 : decode cL_law 798 = .ok (.iconst 2, 1) := by decide +kernel
theorem dL_law_799 : decode cL_law 799 = .ok (.iadd, 1) := by decide +kernel
theorem dL_law_800 : decode cL_law 800 = .ok (.iaload, 1) := by decide +kernel
theorem dL_law_801 : decode cL_law 801 = .ok (.aload_n 0, 1) := by decide +kernel
theorem dL_law_802 : decode cL_law 802 = .ok (.iload 4, 2) := by decide +kernel
theorem dL_law_804 : decode cL_law 804 = .ok (.iconst 3, 1) := by decide +kernel
theorem dL_law_805 : decode cL_law 805 = .ok (.iadd, 1) := by decide +kernel
theorem dL_law_806 : decode cL_law 806 = .ok (.iaload, 1) := by decide +kernel
theorem dL_law_807 : decode cL_law 807 = .ok (.aload_n 0, 1) := by decide +kernel
theorem dL_law_808 : decode cL_law 808 = .ok (.iload 4, 2) := by decide +kernel
theorem dL_law_810 : decode cL_law 810 = .ok (.iconst 4, 1) := by decide +kernel
theorem dL_law_811 : decode cL_law 811 = .ok (.iadd, 1) := by decide +kernel
theorem dL_law_812 : decode cL_law 812 = .ok (.iaload, 1) := by decide +kernel
theorem dL_law_813 : decode cL_law 813 = .ok (.ifCond .eq 7, 3) := by decide +kernel
theorem dL_law_816 : decode cL_law 816 = .ok (.iconst 1, 1) := by decide +kernel
theorem dL_law_817 : decode cL_law 817 = .ok (.goto 4, 3) := by decide +kernel
theorem dL_law_820 : decode cL_law 820 = .ok (.iconst 0, 1) := by decide +kernel
theorem dL_law_821 : decode cL_law 821 = .ok (.invokevirtual 140, 3) := by decide +kernel
theorem dL_law_824 : decode cL_law 824 = .ok (.istore 6, 2) := by decide +kernel
theorem dL_law_826 : decode cL_law 826 = .ok (.aload_n 2, 1) := by decide +kernel
theorem dL_law_827 : decode cL_law 827 = .ok (.invokevirtual 104, 3) := by decide +kernel
theorem dL_law_830 : decode cL_law 830 = .ok (.iload 5, 2) := by decide +kernel
theorem dL_law_832 : decode cL_law 832 = .ok (.if_icmp .eq 5, 3) := by decide +kernel
theorem dL_law_835 : decode cL_law 835 = .ok (.iconst 0, 1) := by decide +kernel
theorem dL_law_836 : decode cL_law 836 = .ok (.ireturn, 1) := by decide +kernel
theorem dL_law_837 : decode cL_law 837 = .ok (.iload 5, 2) := by decide +kernel
theorem dL_law_839 : decode cL_law 839 = .ok (.ifCond .ne 15, 3) := by decide +kernel
theorem dL_law_842 : decode cL_law 842 = .ok (.aload_n 3, 1) := by decide +kernel
theorem dL_law_843 : decode cL_law 843 = .ok (.iconst 0, 1) := by decide +kernel
theorem dL_law_844 : decode cL_law 844 = .ok (.laload, 1) := by decide +kernel
theorem dL_law_845 : decode cL_law 845 = .ok (.iload 6, 2) := by decide +kernel
theorem dL_law_847 : decode cL_law 847 = .ok (.i2l, 1) := by decide +kernel
theorem dL_law_848 : decode cL_law 848 = .ok (.lcmp, 1) := by decide +kernel
theorem dL_law_849 : decode cL_law 849 = .ok (.ifCond .eq 5, 3) := by decide +kernel
theorem dL_law_852 : decode cL_law 852 = .ok (.iconst 0, 1) := by decide +kernel
theorem dL_law_853 : decode cL_law 853 = .ok (.ireturn, 1) := by decide +kernel
theorem dL_law_854 : decode cL_law 854 = .ok (.goto 1025, 3) := by decide +kernel
theorem dL_law_857 : decode cL_law 857 = .ok (.aload_n 1, 1) := by decide +kernel
theorem dL_law_858 : decode cL_law 858 = .ok (.aload_n 0, 1) := by decide +kernel
theorem dL_law_859 : decode cL_law 859 = .ok (.iload 4, 2) := by decide +kernel
theorem dL_law_861 : decode cL_law 861 = .ok (.iconst 1, 1) := by decide +kernel
theorem dL_law_862 : decode cL_law 862 = .ok (.iadd, 1) := by decide +kernel
theorem dL_law_863 : decode cL_law 863 = .ok (.iaload, 1) := by decide +kernel
theorem dL_law_864 : decode cL_law 864 = .ok (.aload_n 3, 1) := by decide +kernel
theorem dL_law_865 : decode cL_law 865 = .ok (.invokestatic 141, 3) := by decide +kernel
theorem dL_law_868 : decode cL_law 868 = .ok (.istore 5, 2) := by decide +kernel
theorem dL_law_870 : decode cL_law 870 = .ok (.aload_n 2, 1) := by decide +kernel
theorem dL_law_871 : decode cL_law 871 = .ok (.aload_n 0, 1) := by decide +kernel
theorem dL_law_872 : decode cL_law 872 = .ok (.iload 4, 2) := by decide +kernel
theorem dL_law_874 : decode cL_law 874 = .ok (.iconst 1, 1) := by decide +kernel
theorem dL_law_875 : decode cL_law 875 = .ok (.iadd, 1) := by decide +kernel
theorem dL_law_876 : decode cL_law 876 = .ok (.iaload, 1) := by decide +kernel
theorem dL_law_877 : decode cL_law 877 = .ok (.invokevirtual 143, 3) := by decide +kernel
theorem dL_law_880 : decode cL_law 880 = .ok (.istore 6, 2) := by decide +kernel
theorem dL_law_882 : decode cL_law 882 = .ok (.aload_n 2, 1) := by decide +kernel
theorem dL_law_883 : decode cL_law 883 = .ok (.invokevirtual 104, 3) := by decide +kernel
theorem dL_law_886 : decode cL_law 886 = .ok (.iload 5, 2) := by decide +kernel
theorem dL_law_888 : decode cL_law 888 = .ok (.if_icmp .eq 5, 3) := by decide +kernel
theorem dL_law_891 : decode cL_law 891 = .ok (.iconst 0, 1) := by decide +kernel
theorem dL_law_892 : decode cL_law 892 = .ok (.ireturn, 1) := by decide +kernel
theorem dL_law_893 : decode cL_law 893 = .ok (.iload 5, 2) := by decide +kernel
theorem dL_law_895 : decode cL_law 895 = .ok (.ifCond .ne 15, 3) := by decide +kernel
theorem dL_law_898 : decode cL_law 898 = .ok (.aload_n 3, 1) := by decide +kernel
theorem dL_law_899 : decode cL_law 899 = .ok (.iconst 0, 1) := by decide +kernel
theorem dL_law_900 : decode cL_law 900 = .ok (.laload, 1) := by decide +kernel
theorem dL_law_901 : decode cL_law 901 = .ok (.iload 6, 2) := by decide +kernel
theorem dL_law_903 : decode cL_law 903 = .ok (.i2l, 1) := by decide +kernel
theorem dL_law_904 : decode cL_law 904 = .ok (.lcmp, 1) := by decide +kernel
theorem dL_law_905 : decode cL_law 905 = .ok (.ifCond .eq 5, 3) := by decide +kernel
theorem dL_law_908 : decode cL_law 908 = .ok (.iconst 0, 1) := by decide +kernel
theorem dL_law_909 : decode cL_law 909 = .ok (.ireturn, 1) := by decide +kernel
theorem dL_law_910 : decode cL_law 910 = .ok (.goto 969, 3) := by decide +kernel
theorem dL_law_913 : decode cL_law 913 = .ok (.aload_n 1, 1) := by decide +kernel
theorem dL_law_914 : decode cL_law 914 = .ok (.aload_n 0, 1) := by decide +kernel
theorem dL_law_915 : decode cL_law 915 = .ok (.iload 4, 2) := by decide +kernel
theorem dL_law_917 : decode cL_law 917 = .ok (.iconst 1, 1) := by decide +kernel
theorem dL_law_918 : decode cL_law 918 = .ok (.iadd, 1) := by decide +kernel
theorem dL_law_919 : decode cL_law 919 = .ok (.iaload, 1) := by decide +kernel
theorem dL_law_920 : decode cL_law 920 = .ok (.aload_n 3, 1) := by decide +kernel
theorem dL_law_921 : decode cL_law 921 = .ok (.invokestatic 144, 3) := by decide +kernel
theorem dL_law_924 : decode cL_law 924 = .ok (.istore 5, 2) := by decide +kernel
theorem dL_law_926 : decode cL_law 926 = .ok (.aload_n 2, 1) := by decide +kernel
theorem dL_law_927 : decode cL_law 927 = .ok (.aload_n 0, 1) := by decide +kernel
theorem dL_law_928 : decode cL_law 928 = .ok (.iload 4, 2) := by decide +kernel
theorem dL_law_930 : decode cL_law 930 = .ok (.iconst 1, 1) := by decide +kernel
theorem dL_law_931 : decode cL_law 931 = .ok (.iadd, 1) := by decide +kernel
theorem dL_law_932 : decode cL_law 932 = .ok (.iaload, 1) := by decide +kernel
theorem dL_law_933 : decode cL_law 933 = .ok (.invokevirtual 146, 3) := by decide +kernel
theorem dL_law_936 : decode cL_law 936 = .ok (.istore 6, 2) := by decide +kernel
theorem dL_law_938 : decode cL_law 938 = .ok (.aload_n 2, 1) := by decide +kernel
theorem dL_law_939 : decode cL_law 939 = .ok (.invokevirtual 104, 3) := by decide +kernel
theorem dL_law_942 : decode cL_law 942 = .ok (.iload 5, 2) := by decide +kernel
theorem dL_law_944 : decode cL_law 944 = .ok (.if_icmp .eq 5, 3) := by decide +kernel
theorem dL_law_947 : decode cL_law 947 = .ok (.iconst 0, 1) := by decide +kernel
theorem dL_law_948 : decode cL_law 948 = .ok (.ireturn, 1) := by decide +kernel
theorem dL_law_949 : decode cL_law 949 = .ok (.iload 5, 2) := by decide +kernel
theorem dL_law_951 : decode cL_law 951 = .ok (.ifCond .ne 15, 3) := by decide +kernel
theorem dL_law_954 : decode cL_law 954 = .ok (.aload_n 3, 1) := by decide +kernel
theorem dL_law_955 : decode cL_law 955 = .ok (.iconst 0, 1) := by decide +kernel
theorem dL_law_956 : decode cL_law 956 = .ok (.laload, 1) := by decide +kernel
theorem dL_law_957 : decode cL_law 957 = .ok (.iload 6, 2) := by decide +kernel
theorem dL_law_959 : decode cL_law 959 = .ok (.i2l, 1) := by decide +kernel
theorem dL_law_960 : decode cL_law 960 = .ok (.lcmp, 1) := by decide +kernel
theorem dL_law_961 : decode cL_law 961 = .ok (.ifCond .eq 5, 3) := by decide +kernel
theorem dL_law_964 : decode cL_law 964 = .ok (.iconst 0, 1) := by decide +kernel
theorem dL_law_965 : decode cL_law 965 = .ok (.ireturn, 1) := by decide +kernel
theorem dL_law_966 : decode cL_law 966 = .ok (.goto 913, 3) := by decide +kernel
theorem dL_law_969 : decode cL_law 969 = .ok (.aload_n 1, 1) := by decide +kernel
theorem dL_law_970 : decode cL_law 970 = .ok (.invokevirtual 147, 3) := by decide +kernel
theorem dL_law_973 : decode cL_law 973 = .ok (.aload_n 2, 1) := by decide +kernel
theorem dL_law_974 : decode cL_law 974 = .ok (.invokevirtual 150, 3) := by decide +kernel
theorem dL_law_977 : decode cL_law 977 = .ok (.if_icmp .eq 902, 3) := by decide +kernel
theorem dL_law_980 : decode cL_law 980 = .ok (.iconst 0, 1) := by decide +kernel
theorem dL_law_981 : decode cL_law 981 = .ok (.ireturn, 1) := by decide +kernel
theorem dL_law_982 : decode cL_law 982 = .ok (.aload_n 1, 1) := by decide +kernel
theorem dL_law_983 : decode cL_law 983 = .ok (.invokevirtual 151, 3) := by decide +kernel
theorem dL_law_986 : decode cL_law 986 = .ok (.aload_n 2, 1) := by decide +kernel
theorem dL_law_987 : decode cL_law 987 = .ok (.invokevirtual 154, 3) := by decide +kernel
theorem dL_law_990 : decode cL_law 990 = .ok (.if_icmp .eq 889, 3) := by decide +kernel
theorem dL_law_993 : decode cL_law 993 = .ok (.iconst 0, 1) := by decide +kernel
theorem dL_law_994 : decode cL_law 994 = .ok (.ireturn, 1) := by decide +kernel
theorem dL_law_995 : decode cL_law 995 = .ok (.aload_n 1, 1) := by decide +kernel
theorem dL_law_996 : decode cL_law 996 = .ok (.aload_n 3, 1) := by decide +kernel
theorem dL_law_997 : decode cL_law 997 = .ok (.invokestatic 155, 3) := by decide +kernel
theorem dL_law_1000 : decode cL_law 1000 = .ok (.istore 5, 2) := by decide +kernel
theorem dL_law_1002 : decode cL_law 1002 = .ok (.aload_n 2, 1) := by decide +kernel
theorem dL_law_1003 : decode cL_law 1003 = .ok (.invokevirtual 157, 3) := by decide +kernel
theorem dL_law_1006 : decode cL_law 1006 = .ok (.istore 6, 2) := by decide +kernel
theorem dL_law_1008 : decode cL_law 1008 = .ok (.aload_n 2, 1) := by decide +kernel
theorem dL_law_1009 : decode cL_law 1009 = .ok (.invokevirtual 104, 3) := by decide +kernel
theorem dL_law_1012 : decode cL_law 1012 = .ok (.iload 5, 2) := by decide +kernel
theorem dL_law_1014 : decode cL_law 1014 = .ok (.if_icmp .eq 5, 3) := by decide +kernel
theorem dL_law_1017 : decode cL_law 1017 = .ok (.iconst 0, 1) := by decide +kernel
theorem dL_law_1018 : decode cL_law 1018 = .ok (.ireturn, 1) := by decide +kernel
theorem dL_law_1019 : decode cL_law 1019 = .ok (.iload 5, 2) := by decide +kernel
theorem dL_law_1021 : decode cL_law 1021 = .ok (.ifCond .ne 15, 3) := by decide +kernel
theorem dL_law_1024 : decode cL_law 1024 = .ok (.aload_n 3, 1) := by decide +kernel
theorem dL_law_1025 : decode cL_law 1025 = .ok (.iconst 0, 1) := by decide +kernel
theorem dL_law_1026 : decode cL_law 1026 = .ok (.laload, 1) := by decide +kernel
theorem dL_law_1027 : decode cL_law 1027 = .ok (.iload 6, 2) := by decide +kernel
theorem dL_law_1029 : decode cL_law 1029 = .ok (.i2l, 1) := by decide +kernel
theorem dL_law_1030 : decode cL_law 1030 = .ok (.lcmp, 1) := by decide +kernel
theorem dL_law_1031 : decode cL_law 1031 = .ok (.ifCond .eq 5, 3) := by decide +kernel
theorem dL_law_1034 : decode cL_law 1034 = .ok (.iconst 0, 1) := by decide +kernel
theorem dL_law_1035 : decode cL_law 1035 = .ok (.ireturn, 1) := by decide +kernel
theorem dL_law_1036 : decode cL_law 1036 = .ok (.goto 843, 3) := by decide +kernel
theorem dL_law_1039 : decode cL_law 1039 = .ok (.aload_n 1, 1) := by decide +kernel
theorem dL_law_1040 : decode cL_law 1040 = .ok (.aload_n 3, 1) := by decide +kernel
theorem dL_law_1041 : decode cL_law 1041 = .ok (.invokestatic 158, 3) := by decide +kernel
theorem dL_law_1044 : decode cL_law 1044 = .ok (.istore 5, 2) := by decide +kernel
theorem dL_law_1046 : decode cL_law 1046 = .ok (.aload_n 2, 1) := by decide +kernel
theorem dL_law_1047 : decode cL_law 1047 = .ok (.invokevirtual 160, 3) := by decide +kernel
theorem dL_law_1050 : decode cL_law 1050 = .ok (.istore 6, 2) := by decide +kernel
theorem dL_law_1052 : decode cL_law 1052 = .ok (.aload_n 2, 1) := by decide +kernel
theorem dL_law_1053 : decode cL_law 1053 = .ok (.invokevirtual 104, 3) := by decide +kernel
theorem dL_law_1056 : decode cL_law 1056 = .ok (.iload 5, 2) := by decide +kernel
theorem dL_law_1058 : decode cL_law 1058 = .ok (.if_icmp .eq 5, 3) := by decide +kernel
theorem dL_law_1061 : decode cL_law 1061 = .ok (.iconst 0, 1) := by decide +kernel
theorem dL_law_1062 : decode cL_law 1062 = .ok (.ireturn, 1) := by decide +kernel
theorem dL_law_1063 : decode cL_law 1063 = .ok (.iload 5, 2) := by decide +kernel
theorem dL_law_1065 : decode cL_law 1065 = .ok (.ifCond .ne 15, 3) := by decide +kernel
theorem dL_law_1068 : decode cL_law 1068 = .ok (.aload_n 3, 1) := by decide +kernel
theorem dL_law_1069 : decode cL_law 1069 = .ok (.iconst 0, 1) := by decide +kernel
theorem dL_law_1070 : decode cL_law 1070 = .ok (.laload, 1) := by decide +kernel
theorem dL_law_1071 : decode cL_law 1071 = .ok (.iload 6, 2) := by decide +kernel
theorem dL_law_1073 : decode cL_law 1073 = .ok (.i2l, 1) := by decide +kernel
theorem dL_law_1074 : decode cL_law 1074 = .ok (.lcmp, 1) := by decide +kernel
theorem dL_law_1075 : decode cL_law 1075 = .ok (.ifCond .eq 5, 3) := by decide +kernel
theorem dL_law_1078 : decode cL_law 1078 = .ok (.iconst 0, 1) := by decide +kernel
theorem dL_law_1079 : decode cL_law 1079 = .ok (.ireturn, 1) := by decide +kernel
theorem dL_law_1080 : decode cL_law 1080 = .ok (.goto 799, 3) := by decide +kernel
theorem dL_law_1083 : decode cL_law 1083 = .ok (.aload_n 1, 1) := by decide +kernel
theorem dL_law_1084 : decode cL_law 1084 = .ok (.aload_n 0, 1) := by decide +kernel
theorem dL_law_1085 : decode cL_law 1085 = .ok (.iload 4, 2) := by decide +kernel
theorem dL_law_1087 : decode cL_law 1087 = .ok (.iconst 1, 1) := by decide +kernel
theorem dL_law_1088 : decode cL_law 1088 = .ok (.iadd, 1) := by decide +kernel
theorem dL_law_1089 : decode cL_law 1089 = .ok (.iaload, 1) := by decide +kernel
theorem dL_law_1090 : decode cL_law 1090 = .ok (.aload_n 0, 1) := by decide +kernel
theorem dL_law_1091 : decode cL_law 1091 = .ok (.iload 4, 2) := by decide +kernel
theorem dL_law_1093 : decode cL_law 1093 = .ok (.iconst 2, 1) := by decide +kernel
theorem dL_law_1094 : decode cL_law 1094 = .ok (.iadd, 1) := by decide +kernel
theorem dL_law_1095 : decode cL_law 1095 = .ok (.iaload, 1) := by decide +kernel
theorem dL_law_1096 : decode cL_law 1096 = .ok (.aload_n 3, 1) := by decide +kernel
theorem dL_law_1097 : decode cL_law 1097 = .ok (.invokestatic 161, 3) := by decide +kernel
theorem dL_law_1100 : decode cL_law 1100 = .ok (.istore 5, 2) := by decide +kernel
theorem dL_law_1102 : decode cL_law 1102 = .ok (.aload_n 2, 1) := by decide +kernel
theorem dL_law_1103 : decode cL_law 1103 = .ok (.aload_n 0, 1) := by decide +kernel
theorem dL_law_1104 : decode cL_law 1104 = .ok (.iload 4, 2) := by decide +kernel
theorem dL_law_1106 : decode cL_law 1106 = .ok (.iconst 1, 1) := by decide +kernel
theorem dL_law_1107 : decode cL_law 1107 = .ok (.iadd, 1) := by decide +kernel
theorem dL_law_1108 : decode cL_law 1108 = .ok (.iaload, 1) := by decide +kernel
theorem dL_law_1109 : decode cL_law 1109 = .ok (.aload_n 0, 1) := by decide +kernel
theorem dL_law_1110 : decode cL_law 1110 = .ok (.iload 4, 2) := by decide +kernel
theorem dL_law_1112 : decode cL_law 1112 = .ok (.iconst 2, 1) := by decide +kernel
theorem dL_law_1113 : decode cL_law 1113 = .ok (.iadd, 1) := by decide +kernel
theorem dL_law_1114 : decode cL_law 1114 = .ok (.iaload, 1) := by decide +kernel
theorem dL_law_1115 : decode cL_law 1115 = .ok (.invokevirtual 163, 3) := by decide +kernel
theorem dL_law_1118 : decode cL_law 1118 = .ok (.istore 6, 2) := by decide +kernel
theorem dL_law_1120 : decode cL_law 1120 = .ok (.aload_n 2, 1) := by decide +kernel
theorem dL_law_1121 : decode cL_law 1121 = .ok (.invokevirtual 104, 3) := by decide +kernel
theorem dL_law_1124 : decode cL_law 1124 = .ok (.iload 5, 2) := by decide +kernel
theorem dL_law_1126 : decode cL_law 1126 = .ok (.if_icmp .eq 5, 3) := by decide +kernel
theorem dL_law_1129 : decode cL_law 1129 = .ok (.iconst 0, 1) := by decide +kernel
theorem dL_law_1130 : decode cL_law 1130 = .ok (.ireturn, 1) := by decide +kernel
theorem dL_law_1131 : decode cL_law 1131 = .ok (.iload 5, 2) := by decide +kernel
theorem dL_law_1133 : decode cL_law 1133 = .ok (.ifCond .ne 15, 3) := by decide +kernel
theorem dL_law_1136 : decode cL_law 1136 = .ok (.aload_n 3, 1) := by decide +kernel
theorem dL_law_1137 : decode cL_law 1137 = .ok (.iconst 0, 1) := by decide +kernel
theorem dL_law_1138 : decode cL_law 1138 = .ok (.laload, 1) := by decide +kernel
theorem dL_law_1139 : decode cL_law 1139 = .ok (.iload 6, 2) := by decide +kernel
theorem dL_law_1141 : decode cL_law 1141 = .ok (.i2l, 1) := by decide +kernel
theorem dL_law_1142 : decode cL_law 1142 = .ok (.lcmp, 1) := by decide +kernel
theorem dL_law_1143 : decode cL_law 1143 = .ok (.ifCond .eq 5, 3) := by decide +kernel
theorem dL_law_1146 : decode cL_law 1146 = .ok (.iconst 0, 1) := by decide +kernel
theorem dL_law_1147 : decode cL_law 1147 = .ok (.ireturn, 1) := by decide +kernel
theorem dL_law_1148 : decode cL_law 1148 = .ok (.goto 731, 3) := by decide +kernel
theorem dL_law_1151 : decode cL_law 1151 = .ok (.aload_n 1, 1) := by decide +kernel
theorem dL_law_1152 : decode cL_law 1152 = .ok (.aload_n 0, 1) := by decide +kernel
theorem dL_law_1153 : decode cL_law 1153 = .ok (.iload 4, 2) := by decide +kernel
theorem dL_law_1155 : decode cL_law 1155 = .ok (.iconst 1, 1) := by decide +kernel
theorem dL_law_1156 : decode cL_law 1156 = .ok (.iadd, 1) := by decide +kernel
theorem dL_law_1157 : decode cL_law 1157 = .ok (.iaload, 1) := by decide +kernel
theorem dL_law_1158 : decode cL_law 1158 = .ok (.aload_n 0, 1) := by decide +kernel
theorem dL_law_1159 : decode cL_law 1159 = .ok (.iload 4, 2) := by decide +kernel
theorem dL_law_1161 : decode cL_law 1161 = .ok (.iconst 2, 1) := by decide +kernel
theorem dL_law_1162 : decode cL_law 1162 = .ok (.iadd, 1) := by decide +kernel
theorem dL_law_1163 : decode cL_law 1163 = .ok (.iaload, 1) := by decide +kernel
theorem dL_law_1164 : decode cL_law 1164 = .ok (.aload_n 3, 1) := by decide +kernel
theorem dL_law_1165 : decode cL_law 1165 = .ok (.invokestatic 164, 3) := by decide +kernel
theorem dL_law_1168 : decode cL_law 1168 = .ok (.istore 5, 2) := by decide +kernel
theorem dL_law_1170 : decode cL_law 1170 = .ok (.aload_n 2, 1) := by decide +kernel
theorem dL_law_1171 : decode cL_law 1171 = .ok (.aload_n 0, 1) := by decide +kernel
theorem dL_law_1172 : decode cL_law 1172 = .ok (.iload 4, 2) := by decide +kernel
theorem dL_law_1174 : decode cL_law 1174 = .ok (.iconst 1, 1) := by decide +kernel
theorem dL_law_1175 : decode cL_law 1175 = .ok (.iadd, 1) := by decide +kernel
theorem dL_law_1176 : decode cL_law 1176 = .ok (.iaload, 1) := by decide +kernel
theorem dL_law_1177 : decode cL_law 1177 = .ok (.aload_n 0, 1) := by decide +kernel
theorem dL_law_1178 : decode cL_law 1178 = .ok (.iload 4, 2) := by decide +kernel
theorem dL_law_1180 : decode cL_law 1180 = .ok (.iconst 2, 1) := by decide +kernel
theorem dL_law_1181 : decode cL_law 1181 = .ok (.iadd, 1) := by decide +kernel
theorem dL_law_1182 : decode cL_law 1182 = .ok (.iaload, 1) := by decide +kernel
theorem dL_law_1183 : decode cL_law 1183 = .ok (.invokevirtual 166, 3) := by decide +kernel
theorem dL_law_1186 : decode cL_law 1186 = .ok (.istore 6, 2) := by decide +kernel
theorem dL_law_1188 : decode cL_law 1188 = .ok (.aload_n 2, 1) := by decide +kernel
theorem dL_law_1189 : decode cL_law 1189 = .ok (.invokevirtual 104, 3) := by decide +kernel
theorem dL_law_1192 : decode cL_law 1192 = .ok (.iload 5, 2) := by decide +kernel
theorem dL_law_1194 : decode cL_law 1194 = .ok (.if_icmp .eq 5, 3) := by decide +kernel
theorem dL_law_1197 : decode cL_law 1197 = .ok (.iconst 0, 1) := by decide +kernel
theorem dL_law_1198 : decode cL_law 1198 = .ok (.ireturn, 1) := by decide +kernel
theorem dL_law_1199 : decode cL_law 1199 = .ok (.iload 5, 2) := by decide +kernel
theorem dL_law_1201 : decode cL_law 1201 = .ok (.ifCond .ne 15, 3) := by decide +kernel
theorem dL_law_1204 : decode cL_law 1204 = .ok (.aload_n 3, 1) := by decide +kernel
theorem dL_law_1205 : decode cL_law 1205 = .ok (.iconst 0, 1) := by decide +kernel
theorem dL_law_1206 : decode cL_law 1206 = .ok (.laload, 1) := by decide +kernel
theorem dL_law_1207 : decode cL_law 1207 = .ok (.iload 6, 2) := by decide +kernel
theorem dL_law_1209 : decode cL_law 1209 = .ok (.i2l, 1) := by decide +kernel
theorem dL_law_1210 : decode cL_law 1210 = .ok (.lcmp, 1) := by decide +kernel
theorem dL_law_1211 : decode cL_law 1211 = .ok (.ifCond .eq 5, 3) := by decide +kernel
theorem dL_law_1214 : decode cL_law 1214 = .ok (.iconst 0, 1) := by decide +kernel
theorem dL_law_1215 : decode cL_law 1215 = .ok (.ireturn, 1) := by decide +kernel
theorem dL_law_1216 : decode cL_law 1216 = .ok (.goto 663, 3) := by decide +kernel
theorem dL_law_1219 : decode cL_law 1219 = .ok (.aload_n 1, 1) := by decide +kernel
theorem dL_law_1220 : decode cL_law 1220 = .ok (.aload_n 0, 1) := by decide +kernel
theorem dL_law_1221 : decode cL_law 1221 = .ok (.iload 4, 2) := by decide +kernel
theorem dL_law_1223 : decode cL_law 1223 = .ok (.iconst 1, 1) := by decide +kernel
theorem dL_law_1224 : decode cL_law 1224 = .ok (.iadd, 1) := by decide +kernel
theorem dL_law_1225 : decode cL_law 1225 = .ok (.iaload, 1) := by decide +kernel
theorem dL_law_1226 : decode cL_law 1226 = .ok (.aload_n 0, 1) := by decide +kernel
theorem dL_law_1227 : decode cL_law 1227 = .ok (.iload 4, 2) := by decide +kernel
theorem dL_law_1229 : decode cL_law 1229 = .ok (.iconst 2, 1) := by decide +kernel
theorem dL_law_1230 : decode cL_law 1230 = .ok (.iadd, 1) := by decide +kernel
theorem dL_law_1231 : decode cL_law 1231 = .ok (.iaload, 1) := by decide +kernel
theorem dL_law_1232 : decode cL_law 1232 = .ok (.aload_n 3, 1) := by decide +kernel
theorem dL_law_1233 : decode cL_law 1233 = .ok (.invokestatic 167, 3) := by decide +kernel
theorem dL_law_1236 : decode cL_law 1236 = .ok (.istore 5, 2) := by decide +kernel
theorem dL_law_1238 : decode cL_law 1238 = .ok (.aload_n 2, 1) := by decide +kernel
theorem dL_law_1239 : decode cL_law 1239 = .ok (.aload_n 0, 1) := by decide +kernel
theorem dL_law_1240 : decode cL_law 1240 = .ok (.iload 4, 2) := by decide +kernel
theorem dL_law_1242 : decode cL_law 1242 = .ok (.iconst 1, 1) := by decide +kernel
theorem dL_law_1243 : decode cL_law 1243 = .ok (.iadd, 1) := by decide +kernel
theorem dL_law_1244 : decode cL_law 1244 = .ok (.iaload, 1) := by decide +kernel
theorem dL_law_1245 : decode cL_law 1245 = .ok (.aload_n 0, 1) := by decide +kernel
theorem dL_law_1246 : decode cL_law 1246 = .ok (.iload 4, 2) := by decide +kernel
theorem dL_law_1248 : decode cL_law 1248 = .ok (.iconst 2, 1) := by decide +kernel
theorem dL_law_1249 : decode cL_law 1249 = .ok (.iadd, 1) := by decide +kernel
theorem dL_law_1250 : decode cL_law 1250 = .ok (.iaload, 1) := by decide +kernel
theorem dL_law_1251 : decode cL_law 1251 = .ok (.invokevirtual 169, 3) := by decide +kernel
theorem dL_law_1254 : decode cL_law 1254 = .ok (.istore 6, 2) := by decide +kernel
theorem dL_law_1256 : decode cL_law 1256 = .ok (.aload_n 2, 1) := by decide +kernel
theorem dL_law_1257 : decode cL_law 1257 = .ok (.invokevirtual 104, 3) := by decide +kernel
theorem dL_law_1260 : decode cL_law 1260 = .ok (.iload 5, 2) := by decide +kernel
theorem dL_law_1262 : decode cL_law 1262 = .ok (.if_icmp .eq 5, 3) := by decide +kernel
theorem dL_law_1265 : decode cL_law 1265 = .ok (.iconst 0, 1) := by decide +kernel
theorem dL_law_1266 : decode cL_law 1266 = .ok (.ireturn, 1) := by decide +kernel
theorem dL_law_1267 : decode cL_law 1267 = .ok (.iload 5, 2) := by decide +kernel
theorem dL_law_1269 : decode cL_law 1269 = .ok (.ifCond .ne 15, 3) := by decide +kernel
theorem dL_law_1272 : decode cL_law 1272 = .ok (.aload_n 3, 1) := by decide +kernel
theorem dL_law_1273 : decode cL_law 1273 = .ok (.iconst 0, 1) := by decide +kernel
theorem dL_law_1274 : decode cL_law 1274 = .ok (.laload, 1) := by decide +kernel
theorem dL_law_1275 : decode cL_law 1275 = .ok (.iload 6, 2) := by decide +kernel
theorem dL_law_1277 : decode cL_law 1277 = .ok (.i2l, 1) := by decide +kernel
theorem dL_law_1278 : decode cL_law 1278 = .ok (.lcmp, 1) := by decide +kernel
theorem dL_law_1279 : decode cL_law 1279 = .ok (.ifCond .eq 5, 3) := by decide +kernel
theorem dL_law_1282 : decode cL_law 1282 = .ok (.iconst 0, 1) := by decide +kernel
theorem dL_law_1283 : decode cL_law 1283 = .ok (.ireturn, 1) := by decide +kernel
theorem dL_law_1284 : decode cL_law 1284 = .ok (.goto 595, 3) := by decide +kernel
theorem dL_law_1287 : decode cL_law 1287 = .ok (.aload_n 1, 1) := by decide +kernel
theorem dL_law_1288 : decode cL_law 1288 = .ok (.aload_n 0, 1) := by decide +kernel
theorem dL_law_1289 : decode cL_law 1289 = .ok (.iload 4, 2) := by decide +kernel
theorem dL_law_1291 : decode cL_law 1291 = .ok (.iconst 1, 1) := by decide +kernel
theorem dL_law_1292 : decode cL_law 1292 = .ok (.iadd, 1) := by decide +kernel
theorem dL_law_1293 : decode cL_law 1293 = .ok (.iaload, 1) := by decide +kernel
theorem dL_law_1294 : decode cL_law 1294 = .ok (.aload_n 0, 1) := by decide +kernel
theorem dL_law_1295 : decode cL_law 1295 = .ok (.iload 4, 2) := by decide +kernel
theorem dL_law_1297 : decode cL_law 1297 = .ok (.iconst 2, 1) := by decide +kernel
theorem dL_law_1298 : decode cL_law 1298 = .ok (.iadd, 1) := by decide +kernel
theorem dL_law_1299 : decode cL_law 1299 = .ok (.iaload, 1) := by decide +kernel
theorem dL_law_1300 : decode cL_law 1300 = .ok (.aload_n 3, 1) := by decide +kernel
theorem dL_law_1301 : decode cL_law 1301 = .ok (.invokestatic 170, 3) := by decide +kernel
theorem dL_law_1304 : decode cL_law 1304 = .ok (.istore 5, 2) := by decide +kernel
theorem dL_law_1306 : decode cL_law 1306 = .ok (.aload_n 2, 1) := by decide +kernel
theorem dL_law_1307 : decode cL_law 1307 = .ok (.aload_n 0, 1) := by decide +kernel
theorem dL_law_1308 : decode cL_law 1308 = .ok (.iload 4, 2) := by decide +kernel
theorem dL_law_1310 : decode cL_law 1310 = .ok (.iconst 1, 1) := by decide +kernel
theorem dL_law_1311 : decode cL_law 1311 = .ok (.iadd, 1) := by decide +kernel
theorem dL_law_1312 : decode cL_law 1312 = .ok (.iaload, 1) := by decide +kernel
theorem dL_law_1313 : decode cL_law 1313 = .ok (.aload_n 0, 1) := by decide +kernel
theorem dL_law_1314 : decode cL_law 1314 = .ok (.iload 4, 2) := by decide +kernel
theorem dL_law_1316 : decode cL_law 1316 = .ok (.iconst 2, 1) := by decide +kernel
theorem dL_law_1317 : decode cL_law 1317 = .ok (.iadd, 1) := by decide +kernel
theorem dL_law_1318 : decode cL_law 1318 = .ok (.iaload, 1) := by decide +kernel
theorem dL_law_1319 : decode cL_law 1319 = .ok (.invokevirtual 172, 3) := by decide +kernel
theorem dL_law_1322 : decode cL_law 1322 = .ok (.istore 6, 2) := by decide +kernel
theorem dL_law_1324 : decode cL_law 1324 = .ok (.aload_n 2, 1) := by decide +kernel
theorem dL_law_1325 : decode cL_law 1325 = .ok (.invokevirtual 104, 3) := by decide +kernel
theorem dL_law_1328 : decode cL_law 1328 = .ok (.iload 5, 2) := by decide +kernel
theorem dL_law_1330 : decode cL_law 1330 = .ok (.if_icmp .eq 5, 3) := by decide +kernel
theorem dL_law_1333 : decode cL_law 1333 = .ok (.iconst 0, 1) := by decide +kernel
theorem dL_law_1334 : decode cL_law 1334 = .ok (.ireturn, 1) := by decide +kernel
theorem dL_law_1335 : decode cL_law 1335 = .ok (.iload 5, 2) := by decide +kernel
theorem dL_law_1337 : decode cL_law 1337 = .ok (.ifCond .ne 15, 3) := by decide +kernel
theorem dL_law_1340 : decode cL_law 1340 = .ok (.aload_n 3, 1) := by decide +kernel
theorem dL_law_1341 : decode cL_law 1341 = .ok (.iconst 0, 1) := by decide +kernel
theorem dL_law_1342 : decode cL_law 1342 = .ok (.laload, 1) := by decide +kernel
theorem dL_law_1343 : decode cL_law 1343 = .ok (.iload 6, 2) := by decide +kernel
theorem dL_law_1345 : decode cL_law 1345 = .ok (.i2l, 1) := by decide +kernel
theorem dL_law_1346 : decode cL_law 1346 = .ok (.lcmp, 1) := by decide +kernel
theorem dL_law_1347 : decode cL_law 1347 = .ok (.ifCond .eq 5, 3) := by decide +kernel
theorem dL_law_1350 : decode cL_law 1350 = .ok (.iconst 0, 1) := by decide +kernel
theorem dL_law_1351 : decode cL_law 1351 = .ok (.ireturn, 1) := by decide +kernel
theorem dL_law_1352 : decode cL_law 1352 = .ok (.goto 527, 3) := by decide +kernel
theorem dL_law_1355 : decode cL_law 1355 = .ok (.aload_n 1, 1) := by decide +kernel
theorem dL_law_1356 : decode cL_law 1356 = .ok (.aload_n 0, 1) := by decide +kernel
theorem dL_law_1357 : decode cL_law 1357 = .ok (.iload 4, 2) := by decide +kernel
theorem dL_law_1359 : decode cL_law 1359 = .ok (.iconst 1, 1) := by decide +kernel
theorem dL_law_1360 : decode cL_law 1360 = .ok (.iadd, 1) := by decide +kernel
theorem dL_law_1361 : decode cL_law 1361 = .ok (.iaload, 1) := by decide +kernel
theorem dL_law_1362 : decode cL_law 1362 = .ok (.aload_n 3, 1) := by decide +kernel
theorem dL_law_1363 : decode cL_law 1363 = .ok (.invokestatic 173, 3) := by decide +kernel
theorem dL_law_1366 : decode cL_law 1366 = .ok (.istore 5, 2) := by decide +kernel
theorem dL_law_1368 : decode cL_law 1368 = .ok (.aload_n 2, 1) := by decide +kernel
theorem dL_law_1369 : decode cL_law 1369 = .ok (.aload_n 0, 1) := by decide +kernel
theorem dL_law_1370 : decode cL_law 1370 = .ok (.iload 4, 2) := by decide +kernel
theorem dL_law_1372 : decode cL_law 1372 = .ok (.iconst 1, 1) := by decide +kernel
theorem dL_law_1373 : decode cL_law 1373 = .ok (.iadd, 1) := by decide +kernel
theorem dL_law_1374 : decode cL_law 1374 = .ok (.iaload, 1) := by decide +kernel
theorem dL_law_1375 : decode cL_law 1375 = .ok (.invokevirtual 175, 3) := by decide +kernel
theorem dL_law_1378 : decode cL_law 1378 = .ok (.istore 6, 2) := by decide +kernel
theorem dL_law_1380 : decode cL_law 1380 = .ok (.aload_n 2, 1) := by decide +kernel
theorem dL_law_1381 : decode cL_law 1381 = .ok (.invokevirtual 104, 3) := by decide +kernel
theorem dL_law_1384 : decode cL_law 1384 = .ok (.iload 5, 2) := by decide +kernel
theorem dL_law_1386 : decode cL_law 1386 = .ok (.if_icmp .eq 5, 3) := by decide +kernel
theorem dL_law_1389 : decode cL_law 1389 = .ok (.iconst 0, 1) := by decide +kernel
theorem dL_law_1390 : decode cL_law 1390 = .ok (.ireturn, 1) := by decide +kernel
theorem dL_law_1391 : decode cL_law 1391 = .ok (.iload 5, 2) := by decide +kernel
theorem dL_law_1393 : decode cL_law 1393 = .ok (.ifCond .ne 15, 3) := by decide +kernel
theorem dL_law_1396 : decode cL_law 1396 = .ok (.aload_n 3, 1) := by decide +kernel
theorem dL_law_1397 : decode cL_law 1397 = .ok (.iconst 0, 1) := by decide +kernel
theorem dL_law_1398 : decode cL_law 1398 = .ok (.laload, 1) := by decide +kernel
theorem dL_law_1399 : decode cL_law 1399 = .ok (.iload 6, 2) := by decide +kernel
theorem dL_law_1401 : decode cL_law 1401 = .ok (.i2l, 1) := by decide +kernel
theorem dL_law_1402 : decode cL_law 1402 = .ok (.lcmp, 1) := by decide +kernel
theorem dL_law_1403 : decode cL_law 1403 = .ok (.ifCond .eq 5, 3) := by decide +kernel
theorem dL_law_1406 : decode cL_law 1406 = .ok (.iconst 0, 1) := by decide +kernel
theorem dL_law_1407 : decode cL_law 1407 = .ok (.ireturn, 1) := by decide +kernel
theorem dL_law_1408 : decode cL_law 1408 = .ok (.goto 471, 3) := by decide +kernel
theorem dL_law_1411 : decode cL_law 1411 = .ok (.aload_n 1, 1) := by decide +kernel
theorem dL_law_1412 : decode cL_law 1412 = .ok (.aload_n 0, 1) := by decide +kernel
theorem dL_law_1413 : decode cL_law 1413 = .ok (.iload 4, 2) := by decide +kernel
theorem dL_law_1415 : decode cL_law 1415 = .ok (.iconst 1, 1) := by decide +kernel
theorem dL_law_1416 : decode cL_law 1416 = .ok (.iadd, 1) := by decide +kernel
theorem dL_law_1417 : decode cL_law 1417 = .ok (.iaload, 1) := by decide +kernel
theorem dL_law_1418 : decode cL_law 1418 = .ok (.aload_n 3, 1) := by decide +kernel
theorem dL_law_1419 : decode cL_law 1419 = .ok (.invokestatic 176, 3) := by decide +kernel
theorem dL_law_1422 : decode cL_law 1422 = .ok (.istore 5, 2) := by decide +kernel
theorem dL_law_1424 : decode cL_law 1424 = .ok (.aload_n 2, 1) := by decide +kernel
theorem dL_law_1425 : decode cL_law 1425 = .ok (.aload_n 0, 1) := by decide +kernel
theorem dL_law_1426 : decode cL_law 1426 = .ok (.iload 4, 2) := by decide +kernel
theorem dL_law_1428 : decode cL_law 1428 = .ok (.iconst 1, 1) := by decide +kernel
theorem dL_law_1429 : decode cL_law 1429 = .ok (.iadd, 1) := by decide +kernel
theorem dL_law_1430 : decode cL_law 1430 = .ok (.iaload, 1) := by decide +kernel
theorem dL_law_1431 : decode cL_law 1431 = .ok (.invokevirtual 178, 3) := by decide +kernel
theorem dL_law_1434 : decode cL_law 1434 = .ok (.istore 6, 2) := by decide +kernel
theorem dL_law_1436 : decode cL_law 1436 = .ok (.aload_n 2, 1) := by decide +kernel
theorem dL_law_1437 : decode cL_law 1437 = .ok (.invokevirtual 104, 3) := by decide +kernel
theorem dL_law_1440 : decode cL_law 1440 = .ok (.iload 5, 2) := by decide +kernel
theorem dL_law_1442 : decode cL_law 1442 = .ok (.if_icmp .eq 5, 3) := by decide +kernel
theorem dL_law_1445 : decode cL_law 1445 = .ok (.iconst 0, 1) := by decide +kernel
theorem dL_law_1446 : decode cL_law 1446 = .ok (.ireturn, 1) := by decide +kernel
theorem dL_law_1447 : decode cL_law 1447 = .ok (.iload 5, 2) := by decide +kernel
theorem dL_law_1449 : decode cL_law 1449 = .ok (.ifCond .ne 15, 3) := by decide +kernel
theorem dL_law_1452 : decode cL_law 1452 = .ok (.aload_n 3, 1) := by decide +kernel
theorem dL_law_1453 : decode cL_law 1453 = .ok (.iconst 0, 1) := by decide +kernel
theorem dL_law_1454 : decode cL_law 1454 = .ok (.laload, 1) := by decide +kernel
theorem dL_law_1455 : decode cL_law 1455 = .ok (.iload 6, 2) := by decide +kernel
theorem dL_law_1457 : decode cL_law 1457 = .ok (.i2l, 1) := by decide +kernel
theorem dL_law_1458 : decode cL_law 1458 = .ok (.lcmp, 1) := by decide +kernel
theorem dL_law_1459 : decode cL_law 1459 = .ok (.ifCond .eq 5, 3) := by decide +kernel
theorem dL_law_1462 : decode cL_law 1462 = .ok (.iconst 0, 1) := by decide +kernel
theorem dL_law_1463 : decode cL_law 1463 = .ok (.ireturn, 1) := by decide +kernel
theorem dL_law_1464 : decode cL_law 1464 = .ok (.goto 415, 3) := by decide +kernel
theorem dL_law_1467 : decode cL_law 1467 = .ok (.aload_n 1, 1) := by decide +kernel
theorem dL_law_1468 : decode cL_law 1468 = .ok (.aload_n 0, 1) := by decide +kernel
theorem dL_law_1469 : decode cL_law 1469 = .ok (.iload 4, 2) := by decide +kernel
theorem dL_law_1471 : decode cL_law 1471 = .ok (.iconst 1, 1) := by decide +kernel
theorem dL_law_1472 : decode cL_law 1472 = .ok (.iadd, 1) := by decide +kernel
theorem dL_law_1473 : decode cL_law 1473 = .ok (.iaload, 1) := by decide +kernel
theorem dL_law_1474 : decode cL_law 1474 = .ok (.aload_n 0, 1) := by decide +kernel
theorem dL_law_1475 : decode cL_law 1475 = .ok (.iload 4, 2) := by decide +kernel
theorem dL_law_1477 : decode cL_law 1477 = .ok (.iconst 2, 1) := by decide +kernel
theorem dL_law_1478 : decode cL_law 1478 = .ok (.iadd, 1) := by decide +kernel
theorem dL_law_1479 : decode cL_law 1479 = .ok (.iaload, 1) := by decide +kernel
theorem dL_law_1480 : decode cL_law 1480 = .ok (.ifCond .eq 7, 3) := by decide +kernel
theorem dL_law_1483 : decode cL_law 1483 = .ok (.iconst 1, 1) := by decide +kernel
theorem dL_law_1484 : decode cL_law 1484 = .ok (.goto 4, 3) := by decide +kernel
theorem dL_law_1487 : decode cL_law 1487 = .ok (.iconst 0, 1) := by decide +kernel
theorem dL_law_1488 : decode cL_law 1488 = .ok (.aload_n 3, 1) := by decide +kernel
theorem dL_law_1489 : decode cL_law 1489 = .ok (.invokestatic 179, 3) := by decide +kernel
theorem dL_law_1492 : decode cL_law 1492 = .ok (.istore 5, 2) := by decide +kernel
theorem dL_law_1494 : decode cL_law 1494 = .ok (.aload_n 2, 1) := by decide +kernel
theorem dL_law_1495 : decode cL_law 1495 = .ok (.aload_n 0, 1) := by decide +kernel
theorem dL_law_1496 : decode cL_law 1496 = .ok (.iload 4, 2) := by decide +kernel
theorem dL_law_1498 : decode cL_law 1498 = .ok (.iconst 1, 1) := by decide +kernel
theorem dL_law_1499 : decode cL_law 1499 = .ok (.iadd, 1) := by decide +kernel
theorem dL_law_1500 : decode cL_law 1500 = .ok (.iaload, 1) := by decide +kernel
theorem dL_law_1501 : decode cL_law 1501 = .ok (.aload_n 0, 1) := by decide +kernel
theorem dL_law_1502 : decode cL_law 1502 = .ok (.iload 4, 2) := by decide +kernel
theorem dL_law_1504 : decode cL_law 1504 = .ok (.iconst 2, 1) := by decide +kernel
theorem dL_law_1505 : decode cL_law 1505 = .ok (.iadd, 1) := by decide +kernel
theorem dL_law_1506 : decode cL_law 1506 = .ok (.iaload, 1) := by decide +kernel
theorem dL_law_1507 : decode cL_law 1507 = .ok (.ifCond .eq 7, 3) := by decide +kernel
theorem dL_law_1510 : decode cL_law 1510 = .ok (.iconst 1, 1) := by decide +kernel
theorem dL_law_1511 : decode cL_law 1511 = .ok (.goto 4, 3) := by decide +kernel
theorem dL_law_1514 : decode cL_law 1514 = .ok (.iconst 0, 1) := by decide +kernel
theorem dL_law_1515 : decode cL_law 1515 = .ok (.invokevirtual 181, 3) := by decide +kernel
theorem dL_law_1518 : decode cL_law 1518 = .ok (.istore 6, 2) := by decide +kernel
theorem dL_law_1520 : decode cL_law 1520 = .ok (.aload_n 2, 1) := by decide +kernel
theorem dL_law_1521 : decode cL_law 1521 = .ok (.invokevirtual 104, 3) := by decide +kernel
theorem dL_law_1524 : decode cL_law 1524 = .ok (.iload 5, 2) := by decide +kernel
theorem dL_law_1526 : decode cL_law 1526 = .ok (.if_icmp .eq 5, 3) := by decide +kernel
theorem dL_law_1529 : decode cL_law 1529 = .ok (.iconst 0, 1) := by decide +kernel
theorem dL_law_1530 : decode cL_law 1530 = .ok (.ireturn, 1) := by decide +kernel
theorem dL_law_1531 : decode cL_law 1531 = .ok (.iload 5, 2) := by decide +kernel
theorem dL_law_1533 : decode cL_law 1533 = .ok (.ifCond .ne 15, 3) := by decide +kernel
theorem dL_law_1536 : decode cL_law 1536 = .ok (.aload_n 3, 1) := by decide +kernel
theorem dL_law_1537 : decode cL_law 1537 = .ok (.iconst 0, 1) := by decide +kernel
theorem dL_law_1538 : decode cL_law 1538 = .ok (.laload, 1) := by decide +kernel
theorem dL_law_1539 : decode cL_law 1539 = .ok (.iload 6, 2) := by decide +kernel
theorem dL_law_1541 : decode cL_law 1541 = .ok (.i2l, 1) := by decide +kernel
theorem dL_law_1542 : decode cL_law 1542 = .ok (.lcmp, 1) := by decide +kernel
theorem dL_law_1543 : decode cL_law 1543 = .ok (.ifCond .eq 5, 3) := by decide +kernel
theorem dL_law_1546 : decode cL_law 1546 = .ok (.iconst 0, 1) := by decide +kernel
theorem dL_law_1547 : decode cL_law 1547 = .ok (.ireturn, 1) := by decide +kernel
theorem dL_law_1548 : decode cL_law 1548 = .ok (.goto 331, 3) := by decide +kernel
theorem dL_law_1551 : decode cL_law 1551 = .ok (.aload_n 1, 1) := by decide +kernel
theorem dL_law_1552 : decode cL_law 1552 = .ok (.aload_n 0, 1) := by decide +kernel
theorem dL_law_1553 : decode cL_law 1553 = .ok (.iload 4, 2) := by decide +kernel
theorem dL_law_1555 : decode cL_law 1555 = .ok (.iconst 1, 1) := by decide +kernel
theorem dL_law_1556 : decode cL_law 1556 = .ok (.iadd, 1) := by decide +kernel
theorem dL_law_1557 : decode cL_law 1557 = .ok (.iaload, 1) := by decide +kernel
theorem dL_law_1558 : decode cL_law 1558 = .ok (.aload_n 3, 1) := by decide +kernel
theorem dL_law_1559 : decode cL_law 1559 = .ok (.invokestatic 182, 3) := by decide +kernel
theorem dL_law_1562 : decode cL_law 1562 = .ok (.istore 5, 2) := by decide +kernel
theorem dL_law_1564 : decode cL_law 1564 = .ok (.aload_n 2, 1) := by decide +kernel
theorem dL_law_1565 : decode cL_law 1565 = .ok (.aload_n 0, 1) := by decide +kernel
theorem dL_law_1566 : decode cL_law 1566 = .ok (.iload 4, 2) := by decide +kernel
theorem dL_law_1568 : decode cL_law 1568 = .ok (.iconst 1, 1) := by decide +kernel
theorem dL_law_1569 : decode cL_law 1569 = .ok (.iadd, 1) := by decide +kernel
theorem dL_law_1570 : decode cL_law 1570 = .ok (.iaload, 1) := by decide +kernel
theorem dL_law_1571 : decode cL_law 1571 = .ok (.invokevirtual 184, 3) := by decide +kernel
theorem dL_law_1574 : decode cL_law 1574 = .ok (.istore 6, 2) := by decide +kernel
theorem dL_law_1576 : decode cL_law 1576 = .ok (.aload_n 2, 1) := by decide +kernel
theorem dL_law_1577 : decode cL_law 1577 = .ok (.invokevirtual 104, 3) := by decide +kernel
theorem dL_law_1580 : decode cL_law 1580 = .ok (.iload 5, 2) := by decide +kernel
theorem dL_law_1582 : decode cL_law 1582 = .ok (.if_icmp .eq 5, 3) := by decide +kernel
theorem dL_law_1585 : decode cL_law 1585 = .ok (.iconst 0, 1) := by decide +kernel
theorem dL_law_1586 : decode cL_law 1586 = .ok (.ireturn, 1) := by decide +kernel
theorem dL_law_1587 : decode cL_law 1587 = .ok (.iload 5, 2) := by decide +kernel
theorem dL_law_1589 : decode cL_law 1589 = .ok (.ifCond .ne 15, 3) := by decide +kernel
theorem dL_law_1592 : decode cL_law 1592 = .ok (.aload_n 3, 1) := by decide +kernel
theorem dL_law_1593 : decode cL_law 1593 = .ok (.iconst 0, 1) := by decide +kernel
theorem dL_law_1594 : decode cL_law 1594 = .ok (.laload, 1) := by decide +kernel
theorem dL_law_1595 : decode cL_law 1595 = .ok (.iload 6, 2) := by decide +kernel
theorem dL_law_1597 : decode cL_law 1597 = .ok (.i2l, 1) := by decide +kernel
theorem dL_law_1598 : decode cL_law 1598 = .ok (.lcmp, 1) := by decide +kernel
theorem dL_law_1599 : decode cL_law 1599 = .ok (.ifCond .eq 5, 3) := by decide +kernel
theorem dL_law_1602 : decode cL_law 1602 = .ok (.iconst 0, 1) := by decide +kernel
theorem dL_law_1603 : decode cL_law 1603 = .ok (.ireturn, 1) := by decide +kernel
theorem dL_law_1604 : decode cL_law 1604 = .ok (.goto 275, 3) := by decide +kernel
theorem dL_law_1607 : decode cL_law 1607 = .ok (.aload_n 1, 1) := by decide +kernel
theorem dL_law_1608 : decode cL_law 1608 = .ok (.aload_n 0, 1) := by decide +kernel
theorem dL_law_1609 : decode cL_law 1609 = .ok (.iload 4, 2) := by decide +kernel
theorem dL_law_1611 : decode cL_law 1611 = .ok (.iconst 1, 1) := by decide +kernel
theorem dL_law_1612 : decode cL_law 1612 = .ok (.iadd, 1) := by decide +kernel
theorem dL_law_1613 : decode cL_law 1613 = .ok (.iaload, 1) := by decide +kernel
theorem dL_law_1614 : decode cL_law 1614 = .ok (.aload_n 0, 1) := by decide +kernel
theorem dL_law_1615 : decode cL_law 1615 = .ok (.iload 4, 2) := by decide +kernel
theorem dL_law_1617 : decode cL_law 1617 = .ok (.iconst 2, 1) := by decide +kernel
theorem dL_law_1618 : decode cL_law 1618 = .ok (.iadd, 1) := by decide +kernel
theorem dL_law_1619 : decode cL_law 1619 = .ok (.iaload, 1) := by decide +kernel
theorem dL_law_1620 : decode cL_law 1620 = .ok (.aload_n 0, 1) := by decide +kernel
theorem dL_law_1621 : decode cL_law 1621 = .ok (.iload 4, 2) := by decide +kernel
theorem dL_law_1623 : decode cL_law 1623 = .ok (.iconst 3, 1) := by decide +kernel
theorem dL_law_1624 : decode cL_law 1624 = .ok (.iadd, 1) := by decide +kernel
theorem dL_law_1625 : decode cL_law 1625 = .ok (.iaload, 1) := by decide +kernel
theorem dL_law_1626 : decode cL_law 1626 = .ok (.aload_n 3, 1) := by decide +kernel
theorem dL_law_1627 : decode cL_law 1627 = .ok (.invokestatic 185, 3) := by decide +kernel
theorem dL_law_1630 : decode cL_law 1630 = .ok (.istore 5, 2) := by decide +kernel
theorem dL_law_1632 : decode cL_law 1632 = .ok (.aload_n 2, 1) := by decide +kernel
theorem dL_law_1633 : decode cL_law 1633 = .ok (.aload_n 0, 1) := by decide +kernel
theorem dL_law_1634 : decode cL_law 1634 = .ok (.iload 4, 2) := by decide +kernel
theorem dL_law_1636 : decode cL_law 1636 = .ok (.iconst 1, 1) := by decide +kernel
theorem dL_law_1637 : decode cL_law 1637 = .ok (.iadd, 1) := by decide +kernel
theorem dL_law_1638 : decode cL_law 1638 = .ok (.iaload, 1) := by decide +kernel
theorem dL_law_1639 : decode cL_law 1639 = .ok (.aload_n 0, 1) := by decide +kernel
theorem dL_law_1640 : decode cL_law 1640 = .ok (.iload 4, 2) := by decide +kernel
theorem dL_law_1642 : decode cL_law 1642 = .ok (.iconst 2, 1) := by decide +kernel
theorem dL_law_1643 : decode cL_law 1643 = .ok (.iadd, 1) := by decide +kernel
theorem dL_law_1644 : decode cL_law 1644 = .ok (.iaload, 1) := by decide +kernel
theorem dL_law_1645 : decode cL_law 1645 = .ok (.aload_n 0, 1) := by decide +kernel
theorem dL_law_1646 : decode cL_law 1646 = .ok (.iload 4, 2) := by decide +kernel
theorem dL_law_1648 : decode cL_law 1648 = .ok (.iconst 3, 1) := by decide +kernel
theorem dL_law_1649 : decode cL_law 1649 = .ok (.iadd, 1) := by decide +kernel
theorem dL_law_1650 : decode cL_law 1650 = .ok (.iaload, 1) := by decide +kernel
theorem dL_law_1651 : decode cL_law 1651 = .ok (.invokevirtual 187, 3) := by decide +kernel
theorem dL_law_1654 : decode cL_law 1654 = .ok (.istore 6, 2) := by decide +kernel
theorem dL_law_1656 : decode cL_law 1656 = .ok (.aload_n 2, 1) := by decide +kernel
theorem dL_law_1657 : decode cL_law 1657 = .ok (.invokevirtual 104, 3) := by decide +kernel
theorem dL_law_1660 : decode cL_law 1660 = .ok (.iload 5, 2) := by decide +kernel
theorem dL_law_1662 : decode cL_law 1662 = .ok (.if_icmp .eq 5, 3) := by decide +kernel
theorem dL_law_1665 : decode cL_law 1665 = .ok (.iconst 0, 1) := by decide +kernel
theorem dL_law_1666 : decode cL_law 1666 = .ok (.ireturn, 1) := by decide +kernel
theorem dL_law_1667 : decode cL_law 1667 = .ok (.iload 5, 2) := by decide +kernel
theorem dL_law_1669 : decode cL_law 1669 = .ok (.ifCond .ne 15, 3) := by decide +kernel
theorem dL_law_1672 : decode cL_law 1672 = .ok (.aload_n 3, 1) := by decide +kernel
theorem dL_law_1673 : decode cL_law 1673 = .ok (.iconst 0, 1) := by decide +kernel
theorem dL_law_1674 : decode cL_law 1674 = .ok (.laload, 1) := by decide +kernel
theorem dL_law_1675 : decode cL_law 1675 = .ok (.iload 6, 2) := by decide +kernel
theorem dL_law_1677 : decode cL_law 1677 = .ok (.i2l, 1) := by decide +kernel
theorem dL_law_1678 : decode cL_law 1678 = .ok (.lcmp, 1) := by decide +kernel
theorem dL_law_1679 : decode cL_law 1679 = .ok (.ifCond .eq 5, 3) := by decide +kernel
theorem dL_law_1682 : decode cL_law 1682 = .ok (.iconst 0, 1) := by decide +kernel
theorem dL_law_1683 : decode cL_law 1683 = .ok (.ireturn, 1) := by decide +kernel
theorem dL_law_1684 : decode cL_law 1684 = .ok (.goto 195, 3) := by decide +kernel
theorem dL_law_1687 : decode cL_law 1687 = .ok (.aload_n 1, 1) := by decide +kernel
theorem dL_law_1688 : decode cL_law 1688 = .ok (.aload_n 0, 1) := by decide +kernel
theorem dL_law_1689 : decode cL_law 1689 = .ok (.iload 4, 2) := by decide +kernel
theorem dL_law_1691 : decode cL_law 1691 = .ok (.iconst 1, 1) := by decide +kernel
theorem dL_law_1692 : decode cL_law 1692 = .ok (.iadd, 1) := by decide +kernel
theorem dL_law_1693 : decode cL_law 1693 = .ok (.iaload, 1) := by decide +kernel
theorem dL_law_1694 : decode cL_law 1694 = .ok (.aload_n 0, 1) := by decide +kernel
theorem dL_law_1695 : decode cL_law 1695 = .ok (.iload 4, 2) := by decide +kernel
theorem dL_law_1697 : decode cL_law 1697 = .ok (.iconst 2, 1) := by decide +kernel
theorem dL_law_1698 : decode cL_law 1698 = .ok (.iadd, 1) := by decide +kernel
theorem dL_law_1699 : decode cL_law 1699 = .ok (.iaload, 1) := by decide +kernel
theorem dL_law_1700 : decode cL_law 1700 = .ok (.aload_n 3, 1) := by decide +kernel
theorem dL_law_1701 : decode cL_law 1701 = .ok (.invokestatic 188, 3) := by decide +kernel
theorem dL_law_1704 : decode cL_law 1704 = .ok (.istore 5, 2) := by decide +kernel
theorem dL_law_1706 : decode cL_law 1706 = .ok (.aload_n 2, 1) := by decide +kernel
theorem dL_law_1707 : decode cL_law 1707 = .ok (.aload_n 0, 1) := by decide +kernel
theorem dL_law_1708 : decode cL_law 1708 = .ok (.iload 4, 2) := by decide +kernel
theorem dL_law_1710 : decode cL_law 1710 = .ok (.iconst 1, 1) := by decide +kernel
theorem dL_law_1711 : decode cL_law 1711 = .ok (.iadd, 1) := by decide +kernel
theorem dL_law_1712 : decode cL_law 1712 = .ok (.iaload, 1) := by decide +kernel
theorem dL_law_1713 : decode cL_law 1713 = .ok (.aload_n 0, 1) := by decide +kernel
theorem dL_law_1714 : decode cL_law 1714 = .ok (.iload 4, 2) := by decide +kernel
theorem dL_law_1716 : decode cL_law 1716 = .ok (.iconst 2, 1) := by decide +kernel
theorem dL_law_1717 : decode cL_law 1717 = .ok (.iadd, 1) := by decide +kernel
theorem dL_law_1718 : decode cL_law 1718 = .ok (.iaload, 1) := by decide +kernel
theorem dL_law_1719 : decode cL_law 1719 = .ok (.invokevirtual 190, 3) := by decide +kernel
theorem dL_law_1722 : decode cL_law 1722 = .ok (.istore 6, 2) := by decide +kernel
theorem dL_law_1724 : decode cL_law 1724 = .ok (.aload_n 2, 1) := by decide +kernel
theorem dL_law_1725 : decode cL_law 1725 = .ok (.invokevirtual 104, 3) := by decide +kernel
theorem dL_law_1728 : decode cL_law 1728 = .ok (.iload 5, 2) := by decide +kernel
theorem dL_law_1730 : decode cL_law 1730 = .ok (.if_icmp .eq 5, 3) := by decide +kernel
theorem dL_law_1733 : decode cL_law 1733 = .ok (.iconst 0, 1) := by decide +kernel
theorem dL_law_1734 : decode cL_law 1734 = .ok (.ireturn, 1) := by decide +kernel
theorem dL_law_1735 : decode cL_law 1735 = .ok (.iload 5, 2) := by decide +kernel
theorem dL_law_1737 : decode cL_law 1737 = .ok (.ifCond .ne 15, 3) := by decide +kernel
theorem dL_law_1740 : decode cL_law 1740 = .ok (.aload_n 3, 1) := by decide +kernel
theorem dL_law_1741 : decode cL_law 1741 = .ok (.iconst 0, 1) := by decide +kernel
theorem dL_law_1742 : decode cL_law 1742 = .ok (.laload, 1) := by decide +kernel
theorem dL_law_1743 : decode cL_law 1743 = .ok (.iload 6, 2) := by decide +kernel
theorem dL_law_1745 : decode cL_law 1745 = .ok (.i2l, 1) := by decide +kernel
theorem dL_law_1746 : decode cL_law 1746 = .ok (.lcmp, 1) := by decide +kernel
theorem dL_law_1747 : decode cL_law 1747 = .ok (.ifCond .eq 5, 3) := by decide +kernel
theorem dL_law_1750 : decode cL_law 1750 = .ok (.iconst 0, 1) := by decide +kernel
theorem dL_law_1751 : decode cL_law 1751 = .ok (.ireturn, 1) := by decide +kernel
theorem dL_law_1752 : decode cL_law 1752 = .ok (.goto 127, 3) := by decide +kernel
theorem dL_law_1755 : decode cL_law 1755 = .ok (.aload_n 1, 1) := by decide +kernel
theorem dL_law_1756 : decode cL_law 1756 = .ok (.aload_n 0, 1) := by decide +kernel
theorem dL_law_1757 : decode cL_law 1757 = .ok (.iload 4, 2) := by decide +kernel
theorem dL_law_1759 : decode cL_law 1759 = .ok (.iconst 1, 1) := by decide +kernel
theorem dL_law_1760 : decode cL_law 1760 = .ok (.iadd, 1) := by decide +kernel
theorem dL_law_1761 : decode cL_law 1761 = .ok (.iaload, 1) := by decide +kernel
theorem dL_law_1762 : decode cL_law 1762 = .ok (.aload_n 3, 1) := by decide +kernel
theorem dL_law_1763 : decode cL_law 1763 = .ok (.invokestatic 191, 3) := by decide +kernel
theorem dL_law_1766 : decode cL_law 1766 = .ok (.istore 5, 2) := by decide +kernel
theorem dL_law_1768 : decode cL_law 1768 = .ok (.aload_n 2, 1) := by decide +kernel
theorem dL_law_1769 : decode cL_law 1769 = .ok (.aload_n 0, 1) := by decide +kernel
theorem dL_law_1770 : decode cL_law 1770 = .ok (.iload 4, 2) := by decide +kernel
theorem dL_law_1772 : decode cL_law 1772 = .ok (.iconst 1, 1) := by decide +kernel
theorem dL_law_1773 : decode cL_law 1773 = .ok (.iadd, 1) := by decide +kernel
theorem dL_law_1774 : decode cL_law 1774 = .ok (.iaload, 1) := by decide +kernel
theorem dL_law_1775 : decode cL_law 1775 = .ok (.invokevirtual 193, 3) := by decide +kernel
theorem dL_law_1778 : decode cL_law 1778 = .ok (.istore 6, 2) := by decide +kernel
theorem dL_law_1780 : decode cL_law 1780 = .ok (.aload_n 2, 1) := by decide +kernel
theorem dL_law_1781 : decode cL_law 1781 = .ok (.invokevirtual 104, 3) := by decide +kernel
theorem dL_law_1784 : decode cL_law 1784 = .ok (.iload 5, 2) := by decide +kernel
theorem dL_law_1786 : decode cL_law 1786 = .ok (.if_icmp .eq 5, 3) := by decide +kernel
theorem dL_law_1789 : decode cL_law 1789 = .ok (.iconst 0, 1) := by decide +kernel
theorem dL_law_1790 : decode cL_law 1790 = .ok (.ireturn, 1) := by decide +kernel
theorem dL_law_1791 : decode cL_law 1791 = .ok (.iload 5, 2) := by decide +kernel
theorem dL_law_1793 : decode cL_law 1793 = .ok (.ifCond .ne 15, 3) := by decide +kernel
theorem dL_law_1796 : decode cL_law 1796 = .ok (.aload_n 3, 1) := by decide +kernel
theorem dL_law_1797 : decode cL_law 1797 = .ok (.iconst 0, 1) := by decide +kernel
theorem dL_law_1798 : decode cL_law 1798 = .ok (.laload, 1) := by decide +kernel
theorem dL_law_1799 : decode cL_law 1799 = .ok (.iload 6, 2) := by decide +kernel
theorem dL_law_1801 : decode cL_law 1801 = .ok (.i2l, 1) := by decide +kernel
theorem dL_law_1802 : decode cL_law 1802 = .ok (.lcmp, 1) := by decide +kernel
theorem dL_law_1803 : decode cL_law 1803 = .ok (.ifCond .eq 5, 3) := by decide +kernel
theorem dL_law_1806 : decode cL_law 1806 = .ok (.iconst 0, 1) := by decide +kernel
theorem dL_law_1807 : decode cL_law 1807 = .ok (.ireturn, 1) := by decide +kernel
theorem dL_law_1808 : decode cL_law 1808 = .ok (.goto 71, 3) := by decide +kernel
theorem dL_law_1811 : decode cL_law 1811 = .ok (.aload_n 1, 1) := by decide +kernel
theorem dL_law_1812 : decode cL_law 1812 = .ok (.invokevirtual 194, 3) := by decide +kernel
theorem dL_law_1815 : decode cL_law 1815 = .ok (.aload_n 2, 1) := by decide +kernel
theorem dL_law_1816 : decode cL_law 1816 = .ok (.invokevirtual 197, 3) := by decide +kernel
theorem dL_law_1819 : decode cL_law 1819 = .ok (.if_icmp .eq 60, 3) := by decide +kernel
theorem dL_law_1822 : decode cL_law 1822 = .ok (.iconst 0, 1) := by decide +kernel
theorem dL_law_1823 : decode cL_law 1823 = .ok (.ireturn, 1) := by decide +kernel
theorem dL_law_1824 : decode cL_law 1824 = .ok (.aload_n 1, 1) := by decide +kernel
theorem dL_law_1825 : decode cL_law 1825 = .ok (.invokevirtual 198, 3) := by decide +kernel
theorem dL_law_1828 : decode cL_law 1828 = .ok (.dstore 5, 2) := by decide +kernel
theorem dL_law_1830 : decode cL_law 1830 = .ok (.aload_n 2, 1) := by decide +kernel
theorem dL_law_1831 : decode cL_law 1831 = .ok (.invokevirtual 202, 3) := by decide +kernel
theorem dL_law_1834 : decode cL_law 1834 = .ok (.dstore 7, 2) := by decide +kernel
theorem dL_law_1836 : decode cL_law 1836 = .ok (.dload 5, 2) := by decide +kernel
theorem dL_law_1838 : decode cL_law 1838 = .ok (.dload 7, 2) := by decide +kernel
theorem dL_law_1840 : decode cL_law 1840 = .ok (.dcmp .l, 1) := by decide +kernel
theorem dL_law_1841 : decode cL_law 1841 = .ok (.ifCond .eq 21, 3) := by decide +kernel
theorem dL_law_1844 : decode cL_law 1844 = .ok (.dload 5, 2) := by decide +kernel
theorem dL_law_1846 : decode cL_law 1846 = .ok (.dload 5, 2) := by decide +kernel
theorem dL_law_1848 : decode cL_law 1848 = .ok (.dcmp .l, 1) := by decide +kernel
theorem dL_law_1849 : decode cL_law 1849 = .ok (.ifCond .eq 11, 3) := by decide +kernel
theorem dL_law_1852 : decode cL_law 1852 = .ok (.dload 7, 2) := by decide +kernel
theorem dL_law_1854 : decode cL_law 1854 = .ok (.dload 7, 2) := by decide +kernel
theorem dL_law_1856 : decode cL_law 1856 = .ok (.dcmp .l, 1) := by decide +kernel
theorem dL_law_1857 : decode cL_law 1857 = .ok (.ifCond .ne 5, 3) := by decide +kernel
theorem dL_law_1860 : decode cL_law 1860 = .ok (.iconst 0, 1) := by decide +kernel
theorem dL_law_1861 : decode cL_law 1861 = .ok (.ireturn, 1) := by decide +kernel
theorem dL_law_1862 : decode cL_law 1862 = .ok (.goto 17, 3) := by decide +kernel
theorem dL_law_1865 : decode cL_law 1865 = .ok (.aload_n 1, 1) := by decide +kernel
theorem dL_law_1866 : decode cL_law 1866 = .ok (.invokevirtual 203, 3) := by decide +kernel
theorem dL_law_1869 : decode cL_law 1869 = .ok (.aload_n 2, 1) := by decide +kernel
theorem dL_law_1870 : decode cL_law 1870 = .ok (.invokevirtual 207, 3) := by decide +kernel
theorem dL_law_1873 : decode cL_law 1873 = .ok (.lcmp, 1) := by decide +kernel
theorem dL_law_1874 : decode cL_law 1874 = .ok (.ifCond .eq 5, 3) := by decide +kernel
theorem dL_law_1877 : decode cL_law 1877 = .ok (.iconst 0, 1) := by decide +kernel
theorem dL_law_1878 : decode cL_law 1878 = .ok (.ireturn, 1) := by decide +kernel
theorem dL_law_1879 : decode cL_law 1879 = .ok (.iinc 4 6, 3) := by decide +kernel
theorem dL_law_1882 : decode cL_law 1882 = .ok (.goto (-1859), 3) := by decide +kernel
theorem dL_law_1885 : decode cL_law 1885 = .ok (.iconst 1, 1) := by decide +kernel
theorem dL_law_1886 : decode cL_law 1886 = .ok (.ireturn, 1) := by decide +kernel
end
section
/-! G: a method's frame over the whole world (the class's 17 cells, the model's 8, the law's row of longs) -/
abbrev Hst : Type := (Nat → Nat → Int32) × (Nat → Nat → Int64)
abbrev GR : Type := (Option Value × Hst) ⊕ (Nat × Hst)
abbrev Gv : Type := va_G × (Nat → Nat) × (ClassId × ClassId × ClassId) × Nat × (Nat × Nat × (Nat → Int32)) × (Nat × Nat)
def gD (γ : Gv) : va_G := γ.1
def gad (γ : Gv) : Nat → Nat := γ.2.1
def gcI (γ : Gv) : ClassId := γ.2.2.1.1
def gcZ (γ : Gv) : ClassId := γ.2.2.1.2.1
def gcJ (γ : Gv) : ClassId := γ.2.2.1.2.2
def gB0 (γ : Gv) : Nat := γ.2.2.2.1
def gscr (γ : Gv) : Nat := γ.2.2.2.2.1.1
def gLx (γ : Gv) : Nat := γ.2.2.2.2.1.2.1
def gxs (γ : Gv) : Nat → Int32 := γ.2.2.2.2.1.2.2
def gaL (γ : Gv) : Nat := γ.2.2.2.2.2.1
def gaM (γ : Gv) : Nat := γ.2.2.2.2.2.2
def gA (γ : Gv) : Nat → Prop := fun q => gB0 γ ≤ q
def gtys (γ : Gv) : List (ClassId × FieldType) := [(gcI γ, .int), (gcZ γ, .boolean), (gcJ γ, .long)]
def gexc : Nat → String := fun k => match k with
  | 0 => "java/lang/IndexOutOfBoundsException"
  | 1 => "java/lang/IllegalArgumentException"
  | _ => "java/lang/IllegalStateException"
abbrev vwCl : List vw_C := [(RX0, TX0, 10), (RX1, TX1, 3), (RX2, TX2, 12), (RX3, TX3, 2), (RX4, TX4, 9), (RX5, TX5, 3), (RX6, TX6, 6), (RX7, TX7, 23)]
def lw_good : List Cond := lw_tbl.filter goodWord
theorem gm {w : Cond} (i : Nat) (h1 : lw_tbl[i]? = some w) (h2 : goodWord w = true) : w ∈ lw_good := List.mem_filter.mpr ⟨List.mem_of_getElem? h1, h2⟩
theorem gGood {ws : List Cond} (h : ∀ w ∈ ws, w ∈ lw_good) : GoodIn lw_good ws := fun w hw => ⟨h w hw, good_of_word (List.mem_filter.mp (h w hw)).2⟩
theorem gGood.app {a b : List Cond} (ha : ∀ w ∈ a, w ∈ lw_good) (hb : ∀ w ∈ b, w ∈ lw_good) : ∀ w ∈ a ++ b, w ∈ lw_good := fun w h => (List.mem_append.mp h).elim (ha w) (hb w)
theorem gGood.cons {a : Cond} {b : List Cond} (ha : a ∈ lw_good) (hb : ∀ w ∈ b, w ∈ lw_good) : ∀ w ∈ a :: b, w ∈ lw_good := fun w h => (List.mem_cons.mp h).elim (fun e => by rw [e]; exact ha) (hb w)
theorem gGood.nil : ∀ w ∈ ([] : List Cond), w ∈ lw_good := fun _ h => nomatch h

def gws (γ : Gv) (h : Hst) : va_W := [(gad γ 0, .inr (6, [.ref (gad γ 1), .ref (gad γ 10), .ref (gad γ 13), .ref (gad γ 15), .ref (gad γ 16), .int (h.1 0 5)])),
  (gad γ 1, .inr (0, [.ref (gad γ 2), .ref (gad γ 3), .ref (gad γ 4), .ref (gad γ 5), .ref (gad γ 6), .ref (gad γ 7), .ref (gad γ 8), .ref (gad γ 9), .int (h.1 1 8), .int (h.1 1 9)])),
  (gad γ 2, .inr (5, [.ref (gad γ 8), .int 0, .int 4])),
  (gad γ 3, .inr (5, [.ref (gad γ 8), .int 32, .int 11])),
  (gad γ 4, .inr (5, [.ref (gad γ 8), .int 472, .int 7])),
  (gad γ 5, .inr (5, [.ref (gad γ 8), .int 514, .int 5])),
  (gad γ 6, .inr (3, [.ref (gad γ 8), .int 539])),
  (gad γ 7, .inr (3, [.ref (gad γ 8), .int 546])),
  (gad γ 8, .inl (gcI γ, 553, .inl (h.1 8))),
  (gad γ 9, .inl (gcI γ, 3318, .inl (h.1 9))),
  (gad γ 10, .inr (1, [.ref (gad γ 1), .ref (gad γ 11), .ref (gad γ 12)])),
  (gad γ 11, .inl (gcI γ, 5, .inl (h.1 11))),
  (gad γ 12, .inl (gcI γ, 5, .inl (h.1 12))),
  (gad γ 13, .inr (2, [.ref (gad γ 1), .ref (gad γ 14), .int (h.1 13 2), .int (h.1 13 3), .int (h.1 13 4), .int (h.1 13 5), .int (h.1 13 6), .int (h.1 13 7), .int (h.1 13 8), .int (h.1 13 9), .int (h.1 13 10), .int (h.1 13 11)])),
  (gad γ 14, .inl (gcZ γ, 40, .inl (h.1 14))),
  (gad γ 15, .inr (4, [.int (h.1 15 0), .int (h.1 15 1), .int (h.1 15 2), .int (h.1 15 3), .int (h.1 15 4), .int (h.1 15 5), .int (h.1 15 6), .int (h.1 15 7), .int (h.1 15 8)])),
  (gad γ 16, .inl (gcI γ, 60, .inl (h.1 16))),
  (gad γ 17, .inr (7, [.ref (gad γ 18), .int (h.1 17 1), .ref (gad γ 19), .int (h.1 17 3), .ref (gad γ 20), .int (h.1 17 5), .ref (gad γ 21), .int (h.1 17 7), .int (h.1 17 8), .int (h.1 17 9), .int (h.1 17 10), .int (h.1 17 11), .int (h.1 17 12), .int (h.1 17 13), .int (h.1 17 14), .int (h.1 17 15), .ref (gad γ 22), .ref (gad γ 23), .ref (gad γ 24), .int (h.1 17 19), .int (h.1 17 20), .int (h.1 17 21), .long (h.2 17 22)])),
  (gad γ 18, .inl (gcI γ, 514, .inl (h.1 18))),
  (gad γ 19, .inl (gcI γ, 3084, .inl (h.1 19))),
  (gad γ 20, .inl (gcI γ, 60, .inl (h.1 20))),
  (gad γ 21, .inl (gcI γ, 40, .inl (h.1 21))),
  (gad γ 22, .inl (gcI γ, 5, .inl (h.1 22))),
  (gad γ 23, .inl (gcI γ, 5, .inl (h.1 23))),
  (gad γ 24, .inl (gcI γ, 60, .inl (h.1 24))),
  (gad γ 25, .inl (gcJ γ, 1, .inr (.inl (h.2 25))))]
/-- one whole object or row of ints anew; of longs -/
def hso (h : Hst) (o : Nat) (f : Nat → Int32) : Hst := (fun k => if k = o then f else h.1 k, h.2)
def hsl (h : Hst) (o : Nat) (f : Nat → Int64) : Hst := (h.1, fun k => if k = o then f else h.2 k)
/-- one slot anew -/
def hst (h : Hst) (o j : Nat) (x : Int32) : Hst := hso h o (upd (h.1 o) j x)
def hsj (h : Hst) (o j : Nat) (x : Int64) : Hst := hsl h o (vp_updL (h.2 o) j x)

theorem gset_0_5 (γ : Gv) (h : Hst) (x : Int32) : (gws γ h).set 0 (gad γ 0, .inr (6, ([.ref (gad γ 1), .ref (gad γ 10), .ref (gad γ 13), .ref (gad γ 15), .ref (gad γ 16), .int (h.1 0 5)] : List Value).set 5 (.int x))) = gws γ (hst h 0 5 x) := rfl
theorem gset_1_8 (γ : Gv) (h : Hst) (x : Int32) : (gws γ h).set 1 (gad γ 1, .inr (0, ([.ref (gad γ 2), .ref (gad γ 3), .ref (gad γ 4), .ref (gad γ 5), .ref (gad γ 6), .ref (gad γ 7), .ref (gad γ 8), .ref (gad γ 9), .int (h.1 1 8), .int (h.1 1 9)] : List Value).set 8 (.int x))) = gws γ (hst h 1 8 x) := rfl
theorem gset_1_9 (γ : Gv) (h : Hst) (x : Int32) : (gws γ h).set 1 (gad γ 1, .inr (0, ([.ref (gad γ 2), .ref (gad γ 3), .ref (gad γ 4), .ref (gad γ 5), .ref (gad γ 6), .ref (gad γ 7), .ref (gad γ 8), .ref (gad γ 9), .int (h.1 1 8), .int (h.1 1 9)] : List Value).set 9 (.int x))) = gws γ (hst h 1 9 x) := rfl
theorem gset_8 (γ : Gv) (h : Hst) (f : Nat → Int32) : (gws γ h).set 8 (gad γ 8, .inl (gcI γ, 553, .inl f)) = gws γ (hso h 8 f) := rfl
theorem gset_9 (γ : Gv) (h : Hst) (f : Nat → Int32) : (gws γ h).set 9 (gad γ 9, .inl (gcI γ, 3318, .inl f)) = gws γ (hso h 9 f) := rfl
theorem gset_11 (γ : Gv) (h : Hst) (f : Nat → Int32) : (gws γ h).set 11 (gad γ 11, .inl (gcI γ, 5, .inl f)) = gws γ (hso h 11 f) := rfl
theorem gset_12 (γ : Gv) (h : Hst) (f : Nat → Int32) : (gws γ h).set 12 (gad γ 12, .inl (gcI γ, 5, .inl f)) = gws γ (hso h 12 f) := rfl
theorem gset_13_2 (γ : Gv) (h : Hst) (x : Int32) : (gws γ h).set 13 (gad γ 13, .inr (2, ([.ref (gad γ 1), .ref (gad γ 14), .int (h.1 13 2), .int (h.1 13 3), .int (h.1 13 4), .int (h.1 13 5), .int (h.1 13 6), .int (h.1 13 7), .int (h.1 13 8), .int (h.1 13 9), .int (h.1 13 10), .int (h.1 13 11)] : List Value).set 2 (.int x))) = gws γ (hst h 13 2 x) := rfl
theorem gset_13_3 (γ : Gv) (h : Hst) (x : Int32) : (gws γ h).set 13 (gad γ 13, .inr (2, ([.ref (gad γ 1), .ref (gad γ 14), .int (h.1 13 2), .int (h.1 13 3), .int (h.1 13 4), .int (h.1 13 5), .int (h.1 13 6), .int (h.1 13 7), .int (h.1 13 8), .int (h.1 13 9), .int (h.1 13 10), .int (h.1 13 11)] : List Value).set 3 (.int x))) = gws γ (hst h 13 3 x) := rfl
theorem gset_13_4 (γ : Gv) (h : Hst) (x : Int32) : (gws γ h).set 13 (gad γ 13, .inr (2, ([.ref (gad γ 1), .ref (gad γ 14), .int (h.1 13 2), .int (h.1 13 3), .int (h.1 13 4), .int (h.1 13 5), .int (h.1 13 6), .int (h.1 13 7), .int (h.1 13 8), .int (h.1 13 9), .int (h.1 13 10), .int (h.1 13 11)] : List Value).set 4 (.int x))) = gws γ (hst h 13 4 x) := rfl
theorem gset_13_5 (γ : Gv) (h : Hst) (x : Int32) : (gws γ h).set 13 (gad γ 13, .inr (2, ([.ref (gad γ 1), .ref (gad γ 14), .int (h.1 13 2), .int (h.1 13 3), .int (h.1 13 4), .int (h.1 13 5), .int (h.1 13 6), .int (h.1 13 7), .int (h.1 13 8), .int (h.1 13 9), .int (h.1 13 10), .int (h.1 13 11)] : List Value).set 5 (.int x))) = gws γ (hst h 13 5 x) := rfl
theorem gset_13_6 (γ : Gv) (h : Hst) (x : Int32) : (gws γ h).set 13 (gad γ 13, .inr (2, ([.ref (gad γ 1), .ref (gad γ 14), .int (h.1 13 2), .int (h.1 13 3), .int (h.1 13 4), .int (h.1 13 5), .int (h.1 13 6), .int (h.1 13 7), .int (h.1 13 8), .int (h.1 13 9), .int (h.1 13 10), .int (h.1 13 11)] : List Value).set 6 (.int x))) = gws γ (hst h 13 6 x) := rfl
theorem gset_13_7 (γ : Gv) (h : Hst) (x : Int32) : (gws γ h).set 13 (gad γ 13, .inr (2, ([.ref (gad γ 1), .ref (gad γ 14), .int (h.1 13 2), .int (h.1 13 3), .int (h.1 13 4), .int (h.1 13 5), .int (h.1 13 6), .int (h.1 13 7), .int (h.1 13 8), .int (h.1 13 9), .int (h.1 13 10), .int (h.1 13 11)] : List Value).set 7 (.int x))) = gws γ (hst h 13 7 x) := rfl
theorem gset_13_8 (γ : Gv) (h : Hst) (x : Int32) : (gws γ h).set 13 (gad γ 13, .inr (2, ([.ref (gad γ 1), .ref (gad γ 14), .int (h.1 13 2), .int (h.1 13 3), .int (h.1 13 4), .int (h.1 13 5), .int (h.1 13 6), .int (h.1 13 7), .int (h.1 13 8), .int (h.1 13 9), .int (h.1 13 10), .int (h.1 13 11)] : List Value).set 8 (.int x))) = gws γ (hst h 13 8 x) := rfl
theorem gset_13_9 (γ : Gv) (h : Hst) (x : Int32) : (gws γ h).set 13 (gad γ 13, .inr (2, ([.ref (gad γ 1), .ref (gad γ 14), .int (h.1 13 2), .int (h.1 13 3), .int (h.1 13 4), .int (h.1 13 5), .int (h.1 13 6), .int (h.1 13 7), .int (h.1 13 8), .int (h.1 13 9), .int (h.1 13 10), .int (h.1 13 11)] : List Value).set 9 (.int x))) = gws γ (hst h 13 9 x) := rfl
theorem gset_13_10 (γ : Gv) (h : Hst) (x : Int32) : (gws γ h).set 13 (gad γ 13, .inr (2, ([.ref (gad γ 1), .ref (gad γ 14), .int (h.1 13 2), .int (h.1 13 3), .int (h.1 13 4), .int (h.1 13 5), .int (h.1 13 6), .int (h.1 13 7), .int (h.1 13 8), .int (h.1 13 9), .int (h.1 13 10), .int (h.1 13 11)] : List Value).set 10 (.int x))) = gws γ (hst h 13 10 x) := rfl
theorem gset_13_11 (γ : Gv) (h : Hst) (x : Int32) : (gws γ h).set 13 (gad γ 13, .inr (2, ([.ref (gad γ 1), .ref (gad γ 14), .int (h.1 13 2), .int (h.1 13 3), .int (h.1 13 4), .int (h.1 13 5), .int (h.1 13 6), .int (h.1 13 7), .int (h.1 13 8), .int (h.1 13 9), .int (h.1 13 10), .int (h.1 13 11)] : List Value).set 11 (.int x))) = gws γ (hst h 13 11 x) := rfl
theorem gset_14 (γ : Gv) (h : Hst) (f : Nat → Int32) : (gws γ h).set 14 (gad γ 14, .inl (gcZ γ, 40, .inl f)) = gws γ (hso h 14 f) := rfl
theorem gset_15_0 (γ : Gv) (h : Hst) (x : Int32) : (gws γ h).set 15 (gad γ 15, .inr (4, ([.int (h.1 15 0), .int (h.1 15 1), .int (h.1 15 2), .int (h.1 15 3), .int (h.1 15 4), .int (h.1 15 5), .int (h.1 15 6), .int (h.1 15 7), .int (h.1 15 8)] : List Value).set 0 (.int x))) = gws γ (hst h 15 0 x) := rfl
theorem gset_15_1 (γ : Gv) (h : Hst) (x : Int32) : (gws γ h).set 15 (gad γ 15, .inr (4, ([.int (h.1 15 0), .int (h.1 15 1), .int (h.1 15 2), .int (h.1 15 3), .int (h.1 15 4), .int (h.1 15 5), .int (h.1 15 6), .int (h.1 15 7), .int (h.1 15 8)] : List Value).set 1 (.int x))) = gws γ (hst h 15 1 x) := rfl
theorem gset_15_2 (γ : Gv) (h : Hst) (x : Int32) : (gws γ h).set 15 (gad γ 15, .inr (4, ([.int (h.1 15 0), .int (h.1 15 1), .int (h.1 15 2), .int (h.1 15 3), .int (h.1 15 4), .int (h.1 15 5), .int (h.1 15 6), .int (h.1 15 7), .int (h.1 15 8)] : List Value).set 2 (.int x))) = gws γ (hst h 15 2 x) := rfl
theorem gset_15_3 (γ : Gv) (h : Hst) (x : Int32) : (gws γ h).set 15 (gad γ 15, .inr (4, ([.int (h.1 15 0), .int (h.1 15 1), .int (h.1 15 2), .int (h.1 15 3), .int (h.1 15 4), .int (h.1 15 5), .int (h.1 15 6), .int (h.1 15 7), .int (h.1 15 8)] : List Value).set 3 (.int x))) = gws γ (hst h 15 3 x) := rfl
theorem gset_15_4 (γ : Gv) (h : Hst) (x : Int32) : (gws γ h).set 15 (gad γ 15, .inr (4, ([.int (h.1 15 0), .int (h.1 15 1), .int (h.1 15 2), .int (h.1 15 3), .int (h.1 15 4), .int (h.1 15 5), .int (h.1 15 6), .int (h.1 15 7), .int (h.1 15 8)] : List Value).set 4 (.int x))) = gws γ (hst h 15 4 x) := rfl
theorem gset_15_5 (γ : Gv) (h : Hst) (x : Int32) : (gws γ h).set 15 (gad γ 15, .inr (4, ([.int (h.1 15 0), .int (h.1 15 1), .int (h.1 15 2), .int (h.1 15 3), .int (h.1 15 4), .int (h.1 15 5), .int (h.1 15 6), .int (h.1 15 7), .int (h.1 15 8)] : List Value).set 5 (.int x))) = gws γ (hst h 15 5 x) := rfl
theorem gset_15_6 (γ : Gv) (h : Hst) (x : Int32) : (gws γ h).set 15 (gad γ 15, .inr (4, ([.int (h.1 15 0), .int (h.1 15 1), .int (h.1 15 2), .int (h.1 15 3), .int (h.1 15 4), .int (h.1 15 5), .int (h.1 15 6), .int (h.1 15 7), .int (h.1 15 8)] : List Value).set 6 (.int x))) = gws γ (hst h 15 6 x) := rfl
theorem gset_15_7 (γ : Gv) (h : Hst) (x : Int32) : (gws γ h).set 15 (gad γ 15, .inr (4, ([.int (h.1 15 0), .int (h.1 15 1), .int (h.1 15 2), .int (h.1 15 3), .int (h.1 15 4), .int (h.1 15 5), .int (h.1 15 6), .int (h.1 15 7), .int (h.1 15 8)] : List Value).set 7 (.int x))) = gws γ (hst h 15 7 x) := rfl
theorem gset_15_8 (γ : Gv) (h : Hst) (x : Int32) : (gws γ h).set 15 (gad γ 15, .inr (4, ([.int (h.1 15 0), .int (h.1 15 1), .int (h.1 15 2), .int (h.1 15 3), .int (h.1 15 4), .int (h.1 15 5), .int (h.1 15 6), .int (h.1 15 7), .int (h.1 15 8)] : List Value).set 8 (.int x))) = gws γ (hst h 15 8 x) := rfl
theorem gset_16 (γ : Gv) (h : Hst) (f : Nat → Int32) : (gws γ h).set 16 (gad γ 16, .inl (gcI γ, 60, .inl f)) = gws γ (hso h 16 f) := rfl
theorem gset_17_1 (γ : Gv) (h : Hst) (x : Int32) : (gws γ h).set 17 (gad γ 17, .inr (7, ([.ref (gad γ 18), .int (h.1 17 1), .ref (gad γ 19), .int (h.1 17 3), .ref (gad γ 20), .int (h.1 17 5), .ref (gad γ 21), .int (h.1 17 7), .int (h.1 17 8), .int (h.1 17 9), .int (h.1 17 10), .int (h.1 17 11), .int (h.1 17 12), .int (h.1 17 13), .int (h.1 17 14), .int (h.1 17 15), .ref (gad γ 22), .ref (gad γ 23), .ref (gad γ 24), .int (h.1 17 19), .int (h.1 17 20), .int (h.1 17 21), .long (h.2 17 22)] : List Value).set 1 (.int x))) = gws γ (hst h 17 1 x) := rfl
theorem gset_17_3 (γ : Gv) (h : Hst) (x : Int32) : (gws γ h).set 17 (gad γ 17, .inr (7, ([.ref (gad γ 18), .int (h.1 17 1), .ref (gad γ 19), .int (h.1 17 3), .ref (gad γ 20), .int (h.1 17 5), .ref (gad γ 21), .int (h.1 17 7), .int (h.1 17 8), .int (h.1 17 9), .int (h.1 17 10), .int (h.1 17 11), .int (h.1 17 12), .int (h.1 17 13), .int (h.1 17 14), .int (h.1 17 15), .ref (gad γ 22), .ref (gad γ 23), .ref (gad γ 24), .int (h.1 17 19), .int (h.1 17 20), .int (h.1 17 21), .long (h.2 17 22)] : List Value).set 3 (.int x))) = gws γ (hst h 17 3 x) := rfl
theorem gset_17_5 (γ : Gv) (h : Hst) (x : Int32) : (gws γ h).set 17 (gad γ 17, .inr (7, ([.ref (gad γ 18), .int (h.1 17 1), .ref (gad γ 19), .int (h.1 17 3), .ref (gad γ 20), .int (h.1 17 5), .ref (gad γ 21), .int (h.1 17 7), .int (h.1 17 8), .int (h.1 17 9), .int (h.1 17 10), .int (h.1 17 11), .int (h.1 17 12), .int (h.1 17 13), .int (h.1 17 14), .int (h.1 17 15), .ref (gad γ 22), .ref (gad γ 23), .ref (gad γ 24), .int (h.1 17 19), .int (h.1 17 20), .int (h.1 17 21), .long (h.2 17 22)] : List Value).set 5 (.int x))) = gws γ (hst h 17 5 x) := rfl
theorem gset_17_7 (γ : Gv) (h : Hst) (x : Int32) : (gws γ h).set 17 (gad γ 17, .inr (7, ([.ref (gad γ 18), .int (h.1 17 1), .ref (gad γ 19), .int (h.1 17 3), .ref (gad γ 20), .int (h.1 17 5), .ref (gad γ 21), .int (h.1 17 7), .int (h.1 17 8), .int (h.1 17 9), .int (h.1 17 10), .int (h.1 17 11), .int (h.1 17 12), .int (h.1 17 13), .int (h.1 17 14), .int (h.1 17 15), .ref (gad γ 22), .ref (gad γ 23), .ref (gad γ 24), .int (h.1 17 19), .int (h.1 17 20), .int (h.1 17 21), .long (h.2 17 22)] : List Value).set 7 (.int x))) = gws γ (hst h 17 7 x) := rfl
theorem gset_17_8 (γ : Gv) (h : Hst) (x : Int32) : (gws γ h).set 17 (gad γ 17, .inr (7, ([.ref (gad γ 18), .int (h.1 17 1), .ref (gad γ 19), .int (h.1 17 3), .ref (gad γ 20), .int (h.1 17 5), .ref (gad γ 21), .int (h.1 17 7), .int (h.1 17 8), .int (h.1 17 9), .int (h.1 17 10), .int (h.1 17 11), .int (h.1 17 12), .int (h.1 17 13), .int (h.1 17 14), .int (h.1 17 15), .ref (gad γ 22), .ref (gad γ 23), .ref (gad γ 24), .int (h.1 17 19), .int (h.1 17 20), .int (h.1 17 21), .long (h.2 17 22)] : List Value).set 8 (.int x))) = gws γ (hst h 17 8 x) := rfl
theorem gset_17_9 (γ : Gv) (h : Hst) (x : Int32) : (gws γ h).set 17 (gad γ 17, .inr (7, ([.ref (gad γ 18), .int (h.1 17 1), .ref (gad γ 19), .int (h.1 17 3), .ref (gad γ 20), .int (h.1 17 5), .ref (gad γ 21), .int (h.1 17 7), .int (h.1 17 8), .int (h.1 17 9), .int (h.1 17 10), .int (h.1 17 11), .int (h.1 17 12), .int (h.1 17 13), .int (h.1 17 14), .int (h.1 17 15), .ref (gad γ 22), .ref (gad γ 23), .ref (gad γ 24), .int (h.1 17 19), .int (h.1 17 20), .int (h.1 17 21), .long (h.2 17 22)] : List Value).set 9 (.int x))) = gws γ (hst h 17 9 x) := rfl
theorem gset_17_10 (γ : Gv) (h : Hst) (x : Int32) : (gws γ h).set 17 (gad γ 17, .inr (7, ([.ref (gad γ 18), .int (h.1 17 1), .ref (gad γ 19), .int (h.1 17 3), .ref (gad γ 20), .int (h.1 17 5), .ref (gad γ 21), .int (h.1 17 7), .int (h.1 17 8), .int (h.1 17 9), .int (h.1 17 10), .int (h.1 17 11), .int (h.1 17 12), .int (h.1 17 13), .int (h.1 17 14), .int (h.1 17 15), .ref (gad γ 22), .ref (gad γ 23), .ref (gad γ 24), .int (h.1 17 19), .int (h.1 17 20), .int (h.1 17 21), .long (h.2 17 22)] : List Value).set 10 (.int x))) = gws γ (hst h 17 10 x) := rfl
theorem gset_17_11 (γ : Gv) (h : Hst) (x : Int32) : (gws γ h).set 17 (gad γ 17, .inr (7, ([.ref (gad γ 18), .int (h.1 17 1), .ref (gad γ 19), .int (h.1 17 3), .ref (gad γ 20), .int (h.1 17 5), .ref (gad γ 21), .int (h.1 17 7), .int (h.1 17 8), .int (h.1 17 9), .int (h.1 17 10), .int (h.1 17 11), .int (h.1 17 12), .int (h.1 17 13), .int (h.1 17 14), .int (h.1 17 15), .ref (gad γ 22), .ref (gad γ 23), .ref (gad γ 24), .int (h.1 17 19), .int (h.1 17 20), .int (h.1 17 21), .long (h.2 17 22)] : List Value).set 11 (.int x))) = gws γ (hst h 17 11 x) := rfl
theorem gset_17_12 (γ : Gv) (h : Hst) (x : Int32) : (gws γ h).set 17 (gad γ 17, .inr (7, ([.ref (gad γ 18), .int (h.1 17 1), .ref (gad γ 19), .int (h.1 17 3), .ref (gad γ 20), .int (h.1 17 5), .ref (gad γ 21), .int (h.1 17 7), .int (h.1 17 8), .int (h.1 17 9), .int (h.1 17 10), .int (h.1 17 11), .int (h.1 17 12), .int (h.1 17 13), .int (h.1 17 14), .int (h.1 17 15), .ref (gad γ 22), .ref (gad γ 23), .ref (gad γ 24), .int (h.1 17 19), .int (h.1 17 20), .int (h.1 17 21), .long (h.2 17 22)] : List Value).set 12 (.int x))) = gws γ (hst h 17 12 x) := rfl
theorem gset_17_13 (γ : Gv) (h : Hst) (x : Int32) : (gws γ h).set 17 (gad γ 17, .inr (7, ([.ref (gad γ 18), .int (h.1 17 1), .ref (gad γ 19), .int (h.1 17 3), .ref (gad γ 20), .int (h.1 17 5), .ref (gad γ 21), .int (h.1 17 7), .int (h.1 17 8), .int (h.1 17 9), .int (h.1 17 10), .int (h.1 17 11), .int (h.1 17 12), .int (h.1 17 13), .int (h.1 17 14), .int (h.1 17 15), .ref (gad γ 22), .ref (gad γ 23), .ref (gad γ 24), .int (h.1 17 19), .int (h.1 17 20), .int (h.1 17 21), .long (h.2 17 22)] : List Value).set 13 (.int x))) = gws γ (hst h 17 13 x) := rfl
theorem gset_17_14 (γ : Gv) (h : Hst) (x : Int32) : (gws γ h).set 17 (gad γ 17, .inr (7, ([.ref (gad γ 18), .int (h.1 17 1), .ref (gad γ 19), .int (h.1 17 3), .ref (gad γ 20), .int (h.1 17 5), .ref (gad γ 21), .int (h.1 17 7), .int (h.1 17 8), .int (h.1 17 9), .int (h.1 17 10), .int (h.1 17 11), .int (h.1 17 12), .int (h.1 17 13), .int (h.1 17 14), .int (h.1 17 15), .ref (gad γ 22), .ref (gad γ 23), .ref (gad γ 24), .int (h.1 17 19), .int (h.1 17 20), .int (h.1 17 21), .long (h.2 17 22)] : List Value).set 14 (.int x))) = gws γ (hst h 17 14 x) := rfl
theorem gset_17_15 (γ : Gv) (h : Hst) (x : Int32) : (gws γ h).set 17 (gad γ 17, .inr (7, ([.ref (gad γ 18), .int (h.1 17 1), .ref (gad γ 19), .int (h.1 17 3), .ref (gad γ 20), .int (h.1 17 5), .ref (gad γ 21), .int (h.1 17 7), .int (h.1 17 8), .int (h.1 17 9), .int (h.1 17 10), .int (h.1 17 11), .int (h.1 17 12), .int (h.1 17 13), .int (h.1 17 14), .int (h.1 17 15), .ref (gad γ 22), .ref (gad γ 23), .ref (gad γ 24), .int (h.1 17 19), .int (h.1 17 20), .int (h.1 17 21), .long (h.2 17 22)] : List Value).set 15 (.int x))) = gws γ (hst h 17 15 x) := rfl
theorem gset_17_19 (γ : Gv) (h : Hst) (x : Int32) : (gws γ h).set 17 (gad γ 17, .inr (7, ([.ref (gad γ 18), .int (h.1 17 1), .ref (gad γ 19), .int (h.1 17 3), .ref (gad γ 20), .int (h.1 17 5), .ref (gad γ 21), .int (h.1 17 7), .int (h.1 17 8), .int (h.1 17 9), .int (h.1 17 10), .int (h.1 17 11), .int (h.1 17 12), .int (h.1 17 13), .int (h.1 17 14), .int (h.1 17 15), .ref (gad γ 22), .ref (gad γ 23), .ref (gad γ 24), .int (h.1 17 19), .int (h.1 17 20), .int (h.1 17 21), .long (h.2 17 22)] : List Value).set 19 (.int x))) = gws γ (hst h 17 19 x) := rfl
theorem gset_17_20 (γ : Gv) (h : Hst) (x : Int32) : (gws γ h).set 17 (gad γ 17, .inr (7, ([.ref (gad γ 18), .int (h.1 17 1), .ref (gad γ 19), .int (h.1 17 3), .ref (gad γ 20), .int (h.1 17 5), .ref (gad γ 21), .int (h.1 17 7), .int (h.1 17 8), .int (h.1 17 9), .int (h.1 17 10), .int (h.1 17 11), .int (h.1 17 12), .int (h.1 17 13), .int (h.1 17 14), .int (h.1 17 15), .ref (gad γ 22), .ref (gad γ 23), .ref (gad γ 24), .int (h.1 17 19), .int (h.1 17 20), .int (h.1 17 21), .long (h.2 17 22)] : List Value).set 20 (.int x))) = gws γ (hst h 17 20 x) := rfl
theorem gset_17_21 (γ : Gv) (h : Hst) (x : Int32) : (gws γ h).set 17 (gad γ 17, .inr (7, ([.ref (gad γ 18), .int (h.1 17 1), .ref (gad γ 19), .int (h.1 17 3), .ref (gad γ 20), .int (h.1 17 5), .ref (gad γ 21), .int (h.1 17 7), .int (h.1 17 8), .int (h.1 17 9), .int (h.1 17 10), .int (h.1 17 11), .int (h.1 17 12), .int (h.1 17 13), .int (h.1 17 14), .int (h.1 17 15), .ref (gad γ 22), .ref (gad γ 23), .ref (gad γ 24), .int (h.1 17 19), .int (h.1 17 20), .int (h.1 17 21), .long (h.2 17 22)] : List Value).set 21 (.int x))) = gws γ (hst h 17 21 x) := rfl
theorem gset_17_22 (γ : Gv) (h : Hst) (x : Int64) : (gws γ h).set 17 (gad γ 17, .inr (7, ([.ref (gad γ 18), .int (h.1 17 1), .ref (gad γ 19), .int (h.1 17 3), .ref (gad γ 20), .int (h.1 17 5), .ref (gad γ 21), .int (h.1 17 7), .int (h.1 17 8), .int (h.1 17 9), .int (h.1 17 10), .int (h.1 17 11), .int (h.1 17 12), .int (h.1 17 13), .int (h.1 17 14), .int (h.1 17 15), .ref (gad γ 22), .ref (gad γ 23), .ref (gad γ 24), .int (h.1 17 19), .int (h.1 17 20), .int (h.1 17 21), .long (h.2 17 22)] : List Value).set 22 (.long x))) = gws γ (hsj h 17 22 x) := rfl
theorem gset_18 (γ : Gv) (h : Hst) (f : Nat → Int32) : (gws γ h).set 18 (gad γ 18, .inl (gcI γ, 514, .inl f)) = gws γ (hso h 18 f) := rfl
theorem gset_19 (γ : Gv) (h : Hst) (f : Nat → Int32) : (gws γ h).set 19 (gad γ 19, .inl (gcI γ, 3084, .inl f)) = gws γ (hso h 19 f) := rfl
theorem gset_20 (γ : Gv) (h : Hst) (f : Nat → Int32) : (gws γ h).set 20 (gad γ 20, .inl (gcI γ, 60, .inl f)) = gws γ (hso h 20 f) := rfl
theorem gset_21 (γ : Gv) (h : Hst) (f : Nat → Int32) : (gws γ h).set 21 (gad γ 21, .inl (gcI γ, 40, .inl f)) = gws γ (hso h 21 f) := rfl
theorem gset_22 (γ : Gv) (h : Hst) (f : Nat → Int32) : (gws γ h).set 22 (gad γ 22, .inl (gcI γ, 5, .inl f)) = gws γ (hso h 22 f) := rfl
theorem gset_23 (γ : Gv) (h : Hst) (f : Nat → Int32) : (gws γ h).set 23 (gad γ 23, .inl (gcI γ, 5, .inl f)) = gws γ (hso h 23 f) := rfl
theorem gset_24 (γ : Gv) (h : Hst) (f : Nat → Int32) : (gws γ h).set 24 (gad γ 24, .inl (gcI γ, 60, .inl f)) = gws γ (hso h 24 f) := rfl
theorem gset_25 (γ : Gv) (h : Hst) (f : Nat → Int64) : (gws γ h).set 25 (gad γ 25, .inl (gcJ γ, 1, .inr (.inl f))) = gws γ (hsl h 25 f) := rfl
def gstrs : List (Nat × String) := [(298, "what is not 0 to 12"), (124, "there is no such setting"), (377, "there is no such grower"), (272, "what is not 0 to 5"), (379, "there is no such lot"), (277, "what is not 0 to 10"), (381, "there is no such tank"), (279, "what is not 0 to 2 or 10 to 14"), (316, "the days are not 0 to 200"), (383, "the oil is not 1 to 20000"), (311, "there is no such variety"), (287, "what is not 0 to 7"), (300, "what is not 0 to 4"), (321, "the way is not 0 to 2"), (59, "there are 8 growers"), (85, "the variety, the kilos, the acidity or the truth is out of range"), (88, "there are 40 lots"), (94, "the size is not 100 to 20000"), (96, "there are 6 tanks"), (111, "the yield is not 50 to 400"), (131, "the value is out of the range of the setting"), (145, "there is a reason against pressing the next lot"), (177, "there is a reason against this appeal"), (206, "the account or the tank has less oil"), (214, "both tanks are the same"), (226, "the oil cannot be moved"), (228, "the days are not 1 to 100"), (234, "the code is not 33 to 126"), (236, "the buffer has 60 characters"), (255, "the buffer is not a complete row of slips"), (263, "there is no saved state")]
def gnest : List Cond := [Cond.fieldLinkNest "OliveMill$Books" (48 : Nat) "OliveMill" "NEW_SETTINGS" "[I" "OliveMill",
  Cond.fieldLinkNest "OliveMill$Books" (55 : Nat) "OliveMill" "NEW_YIELDS" "[I" "OliveMill",
  Cond.fieldLinkNest "OliveMill" (200 : Nat) "OliveMill$Books" "growers" "LOliveMill$Table;" "OliveMill",
  Cond.fieldLinkNest "OliveMill$Rehearsal" (31 : Nat) "OliveMill$Books" "lots" "LOliveMill$Table;" "OliveMill",
  Cond.fieldLinkNest "OliveMill" (182 : Nat) "OliveMill$Books" "lots" "LOliveMill$Table;" "OliveMill",
  Cond.fieldLinkNest "OliveMill$Cellar" (22 : Nat) "OliveMill$Books" "tanks" "LOliveMill$Table;" "OliveMill",
  Cond.fieldLinkNest "OliveMill" (98 : Nat) "OliveMill$Books" "tanks" "LOliveMill$Table;" "OliveMill",
  Cond.fieldLinkNest "OliveMill" (113 : Nat) "OliveMill$Books" "varieties" "LOliveMill$Table;" "OliveMill",
  Cond.fieldLinkNest "OliveMill$Rehearsal" (70 : Nat) "OliveMill$Books" "varieties" "LOliveMill$Table;" "OliveMill",
  Cond.fieldLinkNest "OliveMill$Cellar" (71 : Nat) "OliveMill$Books" "varieties" "LOliveMill$Table;" "OliveMill",
  Cond.fieldLinkNest "OliveMill$Rehearsal" (50 : Nat) "OliveMill$Books" "settings" "LOliveMill$Row;" "OliveMill",
  Cond.fieldLinkNest "OliveMill" (133 : Nat) "OliveMill$Books" "settings" "LOliveMill$Row;" "OliveMill",
  Cond.fieldLinkNest "OliveMill$Cellar" (60 : Nat) "OliveMill$Books" "settings" "LOliveMill$Row;" "OliveMill",
  Cond.fieldLinkNest "OliveMill" (47 : Nat) "OliveMill$Books" "mill" "LOliveMill$Row;" "OliveMill",
  Cond.fieldLinkNest "OliveMill$Rehearsal" (19 : Nat) "OliveMill$Books" "mill" "LOliveMill$Row;" "OliveMill",
  Cond.fieldLinkNest "OliveMill" (260 : Nat) "OliveMill$Books" "savedStates" "I" "OliveMill",
  Cond.fieldLinkNest "OliveMill" (162 : Nat) "OliveMill$Rehearsal" "residueOf" "I" "OliveMill",
  Cond.fieldLinkNest "OliveMill" (165 : Nat) "OliveMill$Rehearsal" "residue" "I" "OliveMill",
  Cond.fieldLinkNest "OliveMill" (147 : Nat) "OliveMill$Rehearsal" "formerResidueOf" "I" "OliveMill",
  Cond.fieldLinkNest "OliveMill" (168 : Nat) "OliveMill$Rehearsal" "lot" "I" "OliveMill",
  Cond.fieldLinkNest "OliveMill" (400 : Nat) "OliveMill$Rehearsal" "due" "I" "OliveMill",
  Cond.fieldLinkNest "OliveMill" (403 : Nat) "OliveMill$Rehearsal" "content" "I" "OliveMill",
  Cond.fieldLinkNest "OliveMill" (305 : Nat) "OliveMill$Rehearsal" "firstOil" "I" "OliveMill",
  Cond.fieldLinkNest "OliveMill" (150 : Nat) "OliveMill$Rehearsal" "lost" "I" "OliveMill",
  Cond.fieldLinkNest "OliveMill" (406 : Nat) "OliveMill$Rehearsal" "carried" "I" "OliveMill",
  Cond.fieldLinkNest "OliveMill" (308 : Nat) "OliveMill$Rehearsal" "poured" "I" "OliveMill",
  Cond.methodLinkNest "OliveMill" (34 : Nat) ({ cls := "OliveMill$SlipReader", name := "<init>", desc := "()V" } : Jvm.MethodName) "OliveMill",
  Cond.fieldLinkNest "OliveMill" (385 : Nat) "OliveMill$SlipReader" "grower" "I" "OliveMill",
  Cond.fieldLinkNest "OliveMill" (388 : Nat) "OliveMill$SlipReader" "variety" "I" "OliveMill",
  Cond.fieldLinkNest "OliveMill" (391 : Nat) "OliveMill$SlipReader" "kilos" "I" "OliveMill",
  Cond.methodLinkNest "OliveMill$SlipReader" (48 : Nat) ({ cls := "OliveMill", name := "isVariety", desc := "(I)Z" } : Jvm.MethodName) "OliveMill"]
theorem gnest_on : ∀ w ∈ gnest, w.onTables = true := by decide +kernel
def gNcs : List (String × String) := [("java/lang/IndexOutOfBoundsException", "java/lang/IllegalStateException"), ("java/lang/IllegalArgumentException", "java/lang/IllegalStateException"), ("java/lang/IllegalStateException", "java/lang/IndexOutOfBoundsException"), ("java/lang/IllegalArgumentException", "java/lang/IndexOutOfBoundsException"), ("java/lang/IllegalStateException", "java/lang/IllegalArgumentException"), ("java/lang/IndexOutOfBoundsException", "java/lang/IllegalArgumentException")]
abbrev fLEAST : Nat → Value := fun i => .int (([0, 500, 0, 0, 0, 0, 0] : List Int32).getD i 0)
abbrev fMOST : Nat → Value := fun i => .int (([50, 1000, 1000, 50, 500, 2, 500] : List Int32).getD i 0)
/-- what the machine's tables and the old cells say, which no method changes -/
def gGl (γ : Gv) (U : State) (H : Heap) : Prop :=
  va_K (gD γ) vwCl (gtys γ) U ∧ gB0 γ ≤ H.size ∧ (∀ k, k < 26 → gB0 γ ≤ gad γ k) ∧ (∀ i j, i < 26 → j < 26 → gad γ i = gad γ j → i = j) ∧
  vx_Zq Bundle.tN "UNASSIGNED_STACK" Bundle.steD (gA γ) U H ∧ vx_Zq Bundle.tN "SUPPRESSED_SENTINEL" Bundle.listD (gA γ) U H ∧
  (va_Z "OliveMill" "LEAST_SETTINGS" "[I" (.ref (gaL γ)) (gA γ) U H ∧ va_T .int (gaL γ) 7 fLEAST (gA γ) U H) ∧
  (va_Z "OliveMill" "MOST_SETTINGS" "[I" (.ref (gaM γ)) (gA γ) U H ∧ va_T .int (gaM γ) 7 fMOST (gA γ) U H) ∧
  (va_X (gscr γ) (gLx γ) (gxs γ) U H ∧ gscr γ < H.size ∧ ¬ gA γ (gscr γ) ∧ gLx γ ≤ 3072) ∧
  (∀ q ∈ gstrs, ∃ sa, vk_R "OliveMill" q.1 q.2 sa U) ∧ (∀ w ∈ gnest, va_Nw w U) ∧ (∀ q ∈ gNcs, va_Nc q.1 q.2 U)
theorem gGl.same {γ : Gv} {u U : State} {H : Heap} (hv : u.vm = U.vm) (g : gGl γ u H) : gGl γ U H := by
  have ha : u.vm.Alike U.vm := by rw [hv]; exact Vm.Alike.refl U.vm
  obtain ⟨g1, g2, g3, g4, g5, g6, ⟨g7, g8⟩, ⟨g9, g10⟩, ⟨g11, g12⟩, g13, g14, g15⟩ := g
  exact ⟨g1.moved ha, g2, g3, g4, g5.moved ha, g6.moved ha, ⟨g7.moved ha, g8.moved ha⟩, ⟨g9.moved ha, g10.moved ha⟩, ⟨g11.moved ha, g12⟩,
    fun q hq => (g13 q hq).imp fun sa hs => vk_R.same hv.symm hs, fun w hw => va_Nw.same (gnest_on w hw) hv (g14 w hw), fun q hq => va_Nc.moved ha (g15 q hq)⟩
theorem gnest_warm {s U : State} (hW : s.WarmedH U.vm) (h : ∀ w ∈ gnest, va_Nw w s) : ∀ w ∈ gnest, va_Nw w U := by
  intro w hw
  have hz := h w hw
  simp only [gnest, List.mem_cons, List.not_mem_nil, or_false] at hw
  rcases hw with rfl | rfl | rfl | rfl | rfl | rfl | rfl | rfl | rfl | rfl | rfl | rfl | rfl | rfl | rfl | rfl | rfl | rfl | rfl | rfl | rfl | rfl | rfl | rfl | rfl | rfl | rfl | rfl | rfl | rfl | rfl <;> first | exact va_Nw.warmF hW hz | exact va_Nw.warmM hW hz
theorem gGl.warm {γ : Gv} {s U : State} {H : Heap} (hW : s.WarmedH U.vm) (g : gGl γ s H) : gGl γ U H := by
  have ha : s.vm.Alike U.vm := hW.alike
  obtain ⟨g1, g2, g3, g4, g5, g6, ⟨g7, g8⟩, ⟨g9, g10⟩, ⟨g11, g12⟩, g13, g14, g15⟩ := g
  exact ⟨g1.moved ha, g2, g3, g4, g5.moved ha, g6.moved ha, ⟨g7.moved ha, g8.moved ha⟩, ⟨g9.moved ha, g10.moved ha⟩, ⟨g11.moved ha, g12⟩,
    fun q hq => (g13 q hq).imp fun sa hs => vk_R.warm hW hs, gnest_warm hW g14, fun q hq => va_Nc.moved ha (g15 q hq)⟩
theorem gGl.kept {γ : Gv} {U : State} {H0 H : Heap} {locs : List Loc} (hS : va_S (gA γ) H0 H locs) (g : gGl γ U H0) : gGl γ U H := by
  obtain ⟨g1, g2, g3, g4, g5, g6, ⟨g7, g8⟩, ⟨g9, g10⟩, ⟨g11, g12, g13, g14⟩, g15⟩ := g
  have hk := hS.2.1
  exact ⟨g1, Nat.le_trans g2 hS.1, g3, g4, g5.kept hk, g6.kept hk, ⟨g7.kept hk, g8.kept hk⟩, ⟨g9.kept hk, g10.kept hk⟩, ⟨g11.kept (hk _ g12 g13), Nat.lt_of_lt_of_le g12 hS.1, g13, g14⟩, g15⟩
theorem gws_ad (γ : Gv) (h : Hst) (k : Nat) : (gws γ h)[k]?.map (fun q => q.1) = if k < 26 then some (gad γ k) else none := by
  rcases Nat.lt_or_ge k 26 with hk | hk
  · rw [if_pos hk]
    have : k = 0 ∨ k = 1 ∨ k = 2 ∨ k = 3 ∨ k = 4 ∨ k = 5 ∨ k = 6 ∨ k = 7 ∨ k = 8 ∨ k = 9 ∨ k = 10 ∨ k = 11 ∨ k = 12 ∨ k = 13 ∨ k = 14 ∨ k = 15 ∨ k = 16 ∨ k = 17 ∨ k = 18 ∨ k = 19 ∨ k = 20 ∨ k = 21 ∨ k = 22 ∨ k = 23 ∨ k = 24 ∨ k = 25 := by omega
    rcases this with rfl | rfl | rfl | rfl | rfl | rfl | rfl | rfl | rfl | rfl | rfl | rfl | rfl | rfl | rfl | rfl | rfl | rfl | rfl | rfl | rfl | rfl | rfl | rfl | rfl | rfl <;> rfl
  · rw [if_neg (by omega)]
    have : (gws γ h)[k]? = none := List.getElem?_eq_none (by show 26 ≤ k; exact hk)
    rw [this]; rfl
theorem gDis {γ : Gv} {U : State} {H : Heap} (g : gGl γ U H) (h : Hst) : va_D (gA γ) (gws γ h) := by
  obtain ⟨-, -, g3, g4, -⟩ := g
  have key : ∀ (k : Nat) (q : Nat × va_E), (gws γ h)[k]? = some q → k < 26 ∧ q.1 = gad γ k := by
    intro k q hq
    have e := gws_ad γ h k
    rw [hq] at e
    by_cases hk : k < 26
    · rw [if_pos hk] at e; exact ⟨hk, Option.some.inj e⟩
    · rw [if_neg hk] at e; cases e
  refine ⟨fun i j p q hi hj e => ?_, fun k q hq => ?_⟩
  · obtain ⟨h1, e1⟩ := key i p hi
    obtain ⟨h2, e2⟩ := key j q hj
    exact g4 i j h1 h2 (by rw [← e1, ← e2, e])
  · obtain ⟨h1, e1⟩ := key k q hq
    show gB0 γ ≤ q.1
    rw [e1]; exact g3 k h1
/-- the context of a frame -/
def Cx (γ : Gv) (own : String) (cc : ByteArray) (nL : Nat) (ret : Option FieldType) (hh : List (Nat × Nat × Nat × Nat)) (p : Program) (l : Launch) (s : State) (m : MethodId) (args : Array Value) (meth : Method) (c : Code) : Prop :=
  p.tables.exec = Jvm.exec ∧ c.code = cc ∧ c.maxLocals = nL ∧ meth.sig.returnType = ret ∧ s.vm.findClass own = some m.cls ∧ (∀ w ∈ lw_good, w.before args s = true) ∧ meth.locks = false ∧ c.exceptionTable.toList = tableOf hh ∧ l.stackTraces = false ∧ gGl γ s s.heap
/-- the place of a method's end, with its answer on the stack -/
def gRet (ret : Option FieldType) (cc : ByteArray) (v : Option Value) (pc : Nat) : Prop :=
  (v = none ∧ ret = none ∧ decode cc pc = .ok (.return_, 1)) ∨ (∃ (x : Int32) (ty : FieldType), v = some (.int x) ∧ ret = some ty ∧ narrow ty (.int x) = .int x ∧ decode cc pc = .ok (.ireturn, 1)) ∨
  (∃ x : Int64, v = some (.long x) ∧ ret = some .long ∧ decode cc pc = .ok (.lreturn, 1)) ∨ (∃ x : UInt64, v = some (.double x) ∧ ret = some .double ∧ decode cc pc = .ok (.dreturn, 1))
def gx (z : GR) : Nat := match z with
  | .inl _ => 0
  | .inr _ => 1
def gK (γ : Gv) (ret : Option FieldType) (cc : ByteArray) (p : Program) (l : Launch) (e : Env) (R : Room) (s : State) (m : MethodId) (args : Array Value) (below : List Frame) (meth : Method) (c : Code) (cells slots b : Nat) (Q : State → Prop) (z : GR) : Prop := match z with
  | .inl q => ∀ (pc' : Nat) (ls' : Array Slot) (H' : Heap) (locs' : List Loc) (cells' slots' : Nat), gRet ret cc q.1 pc' → va_S (gA γ) s.heap H' locs' → va_P (gD γ) vwCl (gws γ q.2) H' → cells' ≤ cells + b → slots' ≤ slots + 6 * b → W p l e R s m args below meth c H' locs' cells' slots' Q (F0 m pc' ls' q.1.toList)
  | .inr q => ∃ (Qc : Array Value → State → Outcome → State → Prop) (XC : String → State → State → Prop) (mc ms : Nat) (free : Addr → Prop), Q = vx_MQ below Qc XC args s mc ms free ∧ (∀ z : Nat, gB0 γ ≤ z → free z) ∧ cells + (b + 1) ≤ mc ∧ slots + 6 * (b + 1) ≤ ms ∧
      ∀ t : State, s.vm.Alike t.vm → va_F (gA γ) s t → va_P (gD γ) vwCl (gws γ q.2) t.heap → XC (gexc q.1) s t
theorem gK.mono {γ : Gv} {ret : Option FieldType} {cc : ByteArray} {p : Program} {l : Launch} {e : Env} {R : Room} {s : State} {m : MethodId} {args : Array Value} {below : List Frame} {meth : Method} {c : Code} {cells slots b mc b2 : Nat} {Q : State → Prop} {z : GR}
    (h : gK γ ret cc p l e R s m args below meth c cells slots b Q z) (hb : mc + b2 ≤ b) : gK γ ret cc p l e R s m args below meth c (cells + mc) (slots + 6 * mc) b2 Q z := by
  cases z with
  | inl q => exact fun pc' ls' H' locs' cells' slots' h1 h2 h3 h4 h5 => h pc' ls' H' locs' cells' slots' h1 h2 h3 (by omega) (by omega)
  | inr q =>
    obtain ⟨Qc, XC, m1, m2, free, h1, h2, h3, h4, h5⟩ := h
    exact ⟨Qc, XC, m1, m2, free, h1, h2, by omega, by omega, h5⟩
def G (γ : Gv) (own : String) (cc : ByteArray) (nL : Nat) (ret : Option FieldType) (hh : List (Nat × Nat × Nat × Nat)) {α : Type} (val : α → GR) (d b pc : Nat) (lv : List (Nat × Value)) (st : List Value) (h : Hst) (res : Option α) : Prop :=
  ∀ r : α, res = some r → ∀ {p : Program} {l : Launch} {e : Env} {R : Room} {s : State} {m : MethodId} {args : Array Value} {below : List Frame} {meth : Method} {c : Code} {H : Heap} {locs : List Loc} {cells slots : Nat} {Q : State → Prop} {ls : Array Slot},
    Cx γ own cc nL ret hh p l s m args meth c → d ≤ R.frames → 32 * d ≤ R.locals → cells + (b + gx (val r)) ≤ R.cells → slots + 6 * (b + gx (val r)) ≤ R.slots → va_S (gA γ) s.heap H locs → va_P (gD γ) vwCl (gws γ h) H → lv_has ls nL lv →
    gK γ ret cc p l e R s m args below meth c cells slots b Q (val r) → W p l e R s m args below meth c H locs cells slots Q (F0 m pc ls st)
/-- a value is named; a bound is looked at; a divisor -/
def gl {α β : Type} (e : α) (f : α → Option β) : Option β := f e
def gck {β : Type} (i : Int32) (n : Nat) (x : Option β) : Option β := if i < 0 then none else if n ≤ i.toNatClampNeg then none else x
def gdz {β : Type} (y : Int32) (x : Option β) : Option β := if y = 0 then none else x
def gzr {β : Type} (y : Int32) (x : Option β) : Option β := if y &&& 1 = y then x else none
def gnn {β : Type} (y : UInt64) (x : Option β) : Option β := if y &&& 0x7fffffffffffffff ≤ 0x7ff0000000000000 then x else none
def gb {α β : Type} (x : Option (α × Hst)) (F : α → Hst → Option β) : Option β := x.bind fun q => F q.1 q.2
def gbv {β : Type} (x : Option Hst) (F : Hst → Option β) : Option β := x.bind F
def gbx {α β : Type} (x : Option ((α × Hst) ⊕ (Nat × Hst))) (F : α → Hst → Option β) (X : Nat → Hst → Option β) : Option β := x.bind fun q => match q with
  | .inl a => F a.1 a.2
  | .inr a => X a.1 a.2
def gbvx {β : Type} (x : Option (Hst ⊕ (Nat × Hst))) (F : Hst → Option β) (X : Nat → Hst → Option β) : Option β := x.bind fun q => match q with
  | .inl a => F a
  | .inr a => X a.1 a.2
abbrev vI : Int32 × Hst → GR := fun q => .inl (some (.int q.1), q.2)
abbrev vL : Int64 × Hst → GR := fun q => .inl (some (.long q.1), q.2)
abbrev vD : UInt64 × Hst → GR := fun q => .inl (some (.double q.1), q.2)
abbrev vV : Hst → GR := fun q => .inl (none, q)
abbrev vIX : (Int32 × Hst) ⊕ (Nat × Hst) → GR := fun z => match z with
  | .inl q => .inl (some (.int q.1), q.2)
  | .inr q => .inr q
abbrev vVX : Hst ⊕ (Nat × Hst) → GR := fun z => match z with
  | .inl q => .inl (none, q)
  | .inr q => .inr q
theorem gck_in {β : Type} {i : Int32} {n : Nat} {x : Option β} {r : β} (h : gck i n x = some r) : vp_in i n ∧ x = some r := by
  unfold gck at h
  split at h
  · cases h
  · split at h
    · cases h
    · exact ⟨fun hz => hz.elim (by assumption) (by assumption), h⟩
theorem gdz_in {β : Type} {y : Int32} {x : Option β} {r : β} (h : gdz y x = some r) : ¬ y = 0 ∧ x = some r := by
  unfold gdz at h
  split at h
  · cases h
  · exact ⟨by assumption, h⟩
theorem gzr_in {β : Type} {y : Int32} {x : Option β} {r : β} (h : gzr y x = some r) : y &&& 1 = y ∧ x = some r := by
  unfold gzr at h
  split at h
  · exact ⟨by assumption, h⟩
  · cases h
theorem gnn_in {β : Type} {y : UInt64} {x : Option β} {r : β} (h : gnn y x = some r) : vf_n64 y ∧ x = some r := by
  unfold gnn at h
  split at h
  · exact ⟨by assumption, h⟩
  · cases h
section GG
variable {γ : Gv} {own : String} {cc : ByteArray} {nL : Nat} {ret : Option FieldType} {hh : List (Nat × Nat × Nat × Nat)} {α : Type} {val : α → GR} {d b pc : Nat} {lv lv' : List (Nat × Value)} {st : List Value} {h : Hst} {res : Option α}

theorem g_none : G γ own cc nL ret hh val d b pc lv st h (none : Option α) := fun r hr => nomatch hr
theorem g_nmi {e : Int32} {F : Int32 → Option α} (k : ∀ x : Int32, G γ own cc nL ret hh val d b pc lv (.int x :: st) h (F x)) : G γ own cc nL ret hh val d b pc lv (.int e :: st) h (gl e F) := k e
theorem g_nml {e : Int64} {F : Int64 → Option α} (k : ∀ x : Int64, G γ own cc nL ret hh val d b pc lv (.long x :: st) h (F x)) : G γ own cc nL ret hh val d b pc lv (.long e :: st) h (gl e F) := k e
theorem g_nmd {e : UInt64} {F : UInt64 → Option α} (k : ∀ x : UInt64, G γ own cc nL ret hh val d b pc lv (.double x :: st) h (F x)) : G γ own cc nL ret hh val d b pc lv (.double e :: st) h (gl e F) := k e
theorem g_nmh {F : Hst → Option α} (k : ∀ h' : Hst, G γ own cc nL ret hh val d b pc lv st h' (F h')) : G γ own cc nL ret hh val d b pc lv st h (gl h F) := k h
theorem g_sub (ks : List Nat) (hl : lv_pick lv ks = lv') (k : G γ own cc nL ret hh val d b pc lv' st h res) : G γ own cc nL ret hh val d b pc lv st h res := fun r hr _ _ _ _ _ _ _ _ _ _ _ _ _ _ _ _ C h1 h2 h3 h4 hS hP hls K => k r hr C h1 h2 h3 h4 hS hP (lv_sub hls ks hl) K
theorem g_iconst {n : Int} {v : Int32} (hdg : decode cc pc = .ok (.iconst n, 1)) (hv : Int32.ofInt n = v) (k : G γ own cc nL ret hh val d b (pc + 1) lv (.int v :: st) h res) : G γ own cc nL ret hh val d b pc lv st h res := by
  intro r hr p l e R s m args below meth c H locs cells slots Q ls C h1 h2 h3 h4 hS hP hls K
  exact lv_iconst C.1 C.2.1 hdg hv (k r hr C h1 h2 h3 h4 hS hP hls K)
theorem g_bipush {n : Int} {v : Int32} (hdg : decode cc pc = .ok (.bipush n, 2)) (hv : (Int8.ofInt n).toInt32 = v) (k : G γ own cc nL ret hh val d b (pc + 2) lv (.int v :: st) h res) : G γ own cc nL ret hh val d b pc lv st h res := by
  intro r hr p l e R s m args below meth c H locs cells slots Q ls C h1 h2 h3 h4 hS hP hls K
  exact lv_bipush C.1 C.2.1 hdg hv (k r hr C h1 h2 h3 h4 hS hP hls K)
theorem g_sipush {n : Int} {v : Int32} (hdg : decode cc pc = .ok (.sipush n, 3)) (hv : (Int16.ofInt n).toInt32 = v) (k : G γ own cc nL ret hh val d b (pc + 3) lv (.int v :: st) h res) : G γ own cc nL ret hh val d b pc lv st h res := by
  intro r hr p l e R s m args below meth c H locs cells slots Q ls C h1 h2 h3 h4 hS hP hls K
  exact lv_sipush C.1 C.2.1 hdg hv (k r hr C h1 h2 h3 h4 hS hP hls K)
theorem g_lconst {n : Fin 2} {v : Int64} (hdg : decode cc pc = .ok (.lconst n, 1)) (hv : Int64.ofNat (n : Nat) = v) (k : G γ own cc nL ret hh val d b (pc + 1) lv (.long v :: st) h res) : G γ own cc nL ret hh val d b pc lv st h res := by
  intro r hr p l e R s m args below meth c H locs cells slots Q ls C h1 h2 h3 h4 hS hP hls K
  exact lv_lconst C.1 C.2.1 hdg hv (k r hr C h1 h2 h3 h4 hS hP hls K)
theorem g_dconst0  (hdg : decode cc pc = .ok (.dconst 0, 1)) (k : G γ own cc nL ret hh val d b (pc + 1) lv (.double FP.dconst0 :: st) h res) : G γ own cc nL ret hh val d b pc lv st h res := by
  intro r hr p l e R s m args below meth c H locs cells slots Q ls C h1 h2 h3 h4 hS hP hls K
  exact lv_dconst0 C.1 C.2.1 hdg (k r hr C h1 h2 h3 h4 hS hP hls K)
theorem g_dconst1  (hdg : decode cc pc = .ok (.dconst 1, 1)) (k : G γ own cc nL ret hh val d b (pc + 1) lv (.double FP.dconst1 :: st) h res) : G γ own cc nL ret hh val d b pc lv st h res := by
  intro r hr p l e R s m args below meth c H locs cells slots Q ls C h1 h2 h3 h4 hS hP hls K
  exact lv_dconst1 C.1 C.2.1 hdg (k r hr C h1 h2 h3 h4 hS hP hls K)
theorem g_ldc2 {index : Nat} {v : Int64} (hw : Cond.constantLong own index v ∈ lw_good) (hdg : decode cc pc = .ok (.ldc2_w index, 3)) (k : G γ own cc nL ret hh val d b (pc + 3) lv (.long v :: st) h res) : G γ own cc nL ret hh val d b pc lv st h res := by
  intro r hr p l e R s m args below meth c H locs cells slots Q ls C h1 h2 h3 h4 hS hP hls K
  exact lv_ldc2 C.1 C.2.1 C.2.2.2.2.1 (C.2.2.2.2.2.1 _ hw) hdg (k r hr C h1 h2 h3 h4 hS hP hls K)
theorem g_ldc2d {index : Nat} {v : UInt64} (hw : Cond.constantDouble own index v ∈ lw_good) (hdg : decode cc pc = .ok (.ldc2_w index, 3)) (k : G γ own cc nL ret hh val d b (pc + 3) lv (.double v :: st) h res) : G γ own cc nL ret hh val d b pc lv st h res := by
  intro r hr p l e R s m args below meth c H locs cells slots Q ls C h1 h2 h3 h4 hS hP hls K
  exact lv_ldc2d C.1 C.2.1 C.2.2.2.2.1 (C.2.2.2.2.2.1 _ hw) hdg (k r hr C h1 h2 h3 h4 hS hP hls K)
theorem g_iload_n {k : Fin 4} {i : Nat} {x : Int32} (hdg : decode cc pc = .ok (.iload_n k, 1)) (hi : (k : Nat) = i) (q : Nat) (hq : lv[q]? = some (i, .int x)) (k : G γ own cc nL ret hh val d b (pc + 1) lv (.int x :: st) h res) : G γ own cc nL ret hh val d b pc lv st h res := by
  intro r hr p l e R s m args below meth c H locs cells slots Q ls C h1 h2 h3 h4 hS hP hls K
  exact lv_iload_n C.1 C.2.1 hdg hi (lv_at hls q hq) (k r hr C h1 h2 h3 h4 hS hP hls K)
theorem g_iload {i : Nat} {x : Int32} (hdg : decode cc pc = .ok (.iload i, 2)) (q : Nat) (hq : lv[q]? = some (i, .int x)) (k : G γ own cc nL ret hh val d b (pc + 2) lv (.int x :: st) h res) : G γ own cc nL ret hh val d b pc lv st h res := by
  intro r hr p l e R s m args below meth c H locs cells slots Q ls C h1 h2 h3 h4 hS hP hls K
  exact lv_iload C.1 C.2.1 hdg (lv_at hls q hq) (k r hr C h1 h2 h3 h4 hS hP hls K)
theorem g_lload_n {k : Fin 4} {i : Nat} {x : Int64} (hdg : decode cc pc = .ok (.lload_n k, 1)) (hi : (k : Nat) = i) (q : Nat) (hq : lv[q]? = some (i, .long x)) (k : G γ own cc nL ret hh val d b (pc + 1) lv (.long x :: st) h res) : G γ own cc nL ret hh val d b pc lv st h res := by
  intro r hr p l e R s m args below meth c H locs cells slots Q ls C h1 h2 h3 h4 hS hP hls K
  exact lv_lload_n C.1 C.2.1 hdg hi (lv_at hls q hq) (k r hr C h1 h2 h3 h4 hS hP hls K)
theorem g_lload {i : Nat} {x : Int64} (hdg : decode cc pc = .ok (.lload i, 2)) (q : Nat) (hq : lv[q]? = some (i, .long x)) (k : G γ own cc nL ret hh val d b (pc + 2) lv (.long x :: st) h res) : G γ own cc nL ret hh val d b pc lv st h res := by
  intro r hr p l e R s m args below meth c H locs cells slots Q ls C h1 h2 h3 h4 hS hP hls K
  exact lv_lload C.1 C.2.1 hdg (lv_at hls q hq) (k r hr C h1 h2 h3 h4 hS hP hls K)
theorem g_dload_n {k : Fin 4} {i : Nat} {x : UInt64} (hdg : decode cc pc = .ok (.dload_n k, 1)) (hi : (k : Nat) = i) (q : Nat) (hq : lv[q]? = some (i, .double x)) (k : G γ own cc nL ret hh val d b (pc + 1) lv (.double x :: st) h res) : G γ own cc nL ret hh val d b pc lv st h res := by
  intro r hr p l e R s m args below meth c H locs cells slots Q ls C h1 h2 h3 h4 hS hP hls K
  exact lv_dload_n C.1 C.2.1 hdg hi (lv_at hls q hq) (k r hr C h1 h2 h3 h4 hS hP hls K)
theorem g_dload {i : Nat} {x : UInt64} (hdg : decode cc pc = .ok (.dload i, 2)) (q : Nat) (hq : lv[q]? = some (i, .double x)) (k : G γ own cc nL ret hh val d b (pc + 2) lv (.double x :: st) h res) : G γ own cc nL ret hh val d b pc lv st h res := by
  intro r hr p l e R s m args below meth c H locs cells slots Q ls C h1 h2 h3 h4 hS hP hls K
  exact lv_dload C.1 C.2.1 hdg (lv_at hls q hq) (k r hr C h1 h2 h3 h4 hS hP hls K)
theorem g_aload_n {k : Fin 4} {i : Nat} {x : Nat} (hdg : decode cc pc = .ok (.aload_n k, 1)) (hi : (k : Nat) = i) (q : Nat) (hq : lv[q]? = some (i, .ref x)) (k : G γ own cc nL ret hh val d b (pc + 1) lv (.ref x :: st) h res) : G γ own cc nL ret hh val d b pc lv st h res := by
  intro r hr p l e R s m args below meth c H locs cells slots Q ls C h1 h2 h3 h4 hS hP hls K
  exact lv_aload_n C.1 C.2.1 hdg hi (lv_at hls q hq) (k r hr C h1 h2 h3 h4 hS hP hls K)
theorem g_aload {i : Nat} {x : Nat} (hdg : decode cc pc = .ok (.aload i, 2)) (q : Nat) (hq : lv[q]? = some (i, .ref x)) (k : G γ own cc nL ret hh val d b (pc + 2) lv (.ref x :: st) h res) : G γ own cc nL ret hh val d b pc lv st h res := by
  intro r hr p l e R s m args below meth c H locs cells slots Q ls C h1 h2 h3 h4 hS hP hls K
  exact lv_aload C.1 C.2.1 hdg (lv_at hls q hq) (k r hr C h1 h2 h3 h4 hS hP hls K)
theorem g_istore_n {k : Fin 4} {i : Nat} {x : Int32} (hdg : decode cc pc = .ok (.istore_n k, 1)) (hi : (k : Nat) = i) (hn : i < nL) (hl : (i, Value.int x) :: lv.filter (fun q => !(q.1 == i) && !(q.1 + 1 == i && q.2.category == 2)) = lv') (k : G γ own cc nL ret hh val d b (pc + 1) lv' st h res) : G γ own cc nL ret hh val d b pc lv (.int x :: st) h res := by
  intro r hr p l e R s m args below meth c H locs cells slots Q ls C h1 h2 h3 h4 hS hP hls K
  exact lv_istore_n C.1 C.2.1 hdg hi hls hn hl (fun ls' hls' => k r hr C h1 h2 h3 h4 hS hP hls' K)
theorem g_istore {i : Nat} {x : Int32} (hdg : decode cc pc = .ok (.istore i, 2)) (hn : i < nL) (hl : (i, Value.int x) :: lv.filter (fun q => !(q.1 == i) && !(q.1 + 1 == i && q.2.category == 2)) = lv') (k : G γ own cc nL ret hh val d b (pc + 2) lv' st h res) : G γ own cc nL ret hh val d b pc lv (.int x :: st) h res := by
  intro r hr p l e R s m args below meth c H locs cells slots Q ls C h1 h2 h3 h4 hS hP hls K
  exact lv_istore C.1 C.2.1 hdg hls hn hl (fun ls' hls' => k r hr C h1 h2 h3 h4 hS hP hls' K)
theorem g_lstore_n {k : Fin 4} {i : Nat} {x : Int64} (hdg : decode cc pc = .ok (.lstore_n k, 1)) (hi : (k : Nat) = i) (hn : i + 1 < nL) (hl : (i, Value.long x) :: lv.filter (fun q => !(q.1 == i) && (!(q.1 == i + 1) && !(q.1 + 1 == i && q.2.category == 2))) = lv') (k : G γ own cc nL ret hh val d b (pc + 1) lv' st h res) : G γ own cc nL ret hh val d b pc lv (.long x :: st) h res := by
  intro r hr p l e R s m args below meth c H locs cells slots Q ls C h1 h2 h3 h4 hS hP hls K
  exact lv_lstore_n C.1 C.2.1 hdg hi hls hn hl (fun ls' hls' => k r hr C h1 h2 h3 h4 hS hP hls' K)
theorem g_lstore {i : Nat} {x : Int64} (hdg : decode cc pc = .ok (.lstore i, 2)) (hn : i + 1 < nL) (hl : (i, Value.long x) :: lv.filter (fun q => !(q.1 == i) && (!(q.1 == i + 1) && !(q.1 + 1 == i && q.2.category == 2))) = lv') (k : G γ own cc nL ret hh val d b (pc + 2) lv' st h res) : G γ own cc nL ret hh val d b pc lv (.long x :: st) h res := by
  intro r hr p l e R s m args below meth c H locs cells slots Q ls C h1 h2 h3 h4 hS hP hls K
  exact lv_lstore C.1 C.2.1 hdg hls hn hl (fun ls' hls' => k r hr C h1 h2 h3 h4 hS hP hls' K)
theorem g_dstore_n {k : Fin 4} {i : Nat} {x : UInt64} (hdg : decode cc pc = .ok (.dstore_n k, 1)) (hi : (k : Nat) = i) (hn : i + 1 < nL) (hl : (i, Value.double x) :: lv.filter (fun q => !(q.1 == i) && (!(q.1 == i + 1) && !(q.1 + 1 == i && q.2.category == 2))) = lv') (k : G γ own cc nL ret hh val d b (pc + 1) lv' st h res) : G γ own cc nL ret hh val d b pc lv (.double x :: st) h res := by
  intro r hr p l e R s m args below meth c H locs cells slots Q ls C h1 h2 h3 h4 hS hP hls K
  exact lv_dstore_n C.1 C.2.1 hdg hi hls hn hl (fun ls' hls' => k r hr C h1 h2 h3 h4 hS hP hls' K)
theorem g_dstore {i : Nat} {x : UInt64} (hdg : decode cc pc = .ok (.dstore i, 2)) (hn : i + 1 < nL) (hl : (i, Value.double x) :: lv.filter (fun q => !(q.1 == i) && (!(q.1 == i + 1) && !(q.1 + 1 == i && q.2.category == 2))) = lv') (k : G γ own cc nL ret hh val d b (pc + 2) lv' st h res) : G γ own cc nL ret hh val d b pc lv (.double x :: st) h res := by
  intro r hr p l e R s m args below meth c H locs cells slots Q ls C h1 h2 h3 h4 hS hP hls K
  exact lv_dstore C.1 C.2.1 hdg hls hn hl (fun ls' hls' => k r hr C h1 h2 h3 h4 hS hP hls' K)
theorem g_astore_n {k : Fin 4} {i : Nat} {x : Nat} (hdg : decode cc pc = .ok (.astore_n k, 1)) (hi : (k : Nat) = i) (hn : i < nL) (hl : (i, Value.ref x) :: lv.filter (fun q => !(q.1 == i) && !(q.1 + 1 == i && q.2.category == 2)) = lv') (k : G γ own cc nL ret hh val d b (pc + 1) lv' st h res) : G γ own cc nL ret hh val d b pc lv (.ref x :: st) h res := by
  intro r hr p l e R s m args below meth c H locs cells slots Q ls C h1 h2 h3 h4 hS hP hls K
  exact lv_astore_n C.1 C.2.1 hdg hi hls hn hl (fun ls' hls' => k r hr C h1 h2 h3 h4 hS hP hls' K)
theorem g_astore {i : Nat} {x : Nat} (hdg : decode cc pc = .ok (.astore i, 2)) (hn : i < nL) (hl : (i, Value.ref x) :: lv.filter (fun q => !(q.1 == i) && !(q.1 + 1 == i && q.2.category == 2)) = lv') (k : G γ own cc nL ret hh val d b (pc + 2) lv' st h res) : G γ own cc nL ret hh val d b pc lv (.ref x :: st) h res := by
  intro r hr p l e R s m args below meth c H locs cells slots Q ls C h1 h2 h3 h4 hS hP hls K
  exact lv_astore C.1 C.2.1 hdg hls hn hl (fun ls' hls' => k r hr C h1 h2 h3 h4 hS hP hls' K)
theorem g_iinc {i q : Nat} {n : Int} {x v : Int32} (hdg : decode cc pc = .ok (.iinc i n, 3)) (hk : lv[q]? = some (i, .int x)) (hv : x + Int32.ofInt n = v) (hn : i < nL) (hl : (i, Value.int v) :: lv.filter (fun q => !(q.1 == i) && !(q.1 + 1 == i && q.2.category == 2)) = lv') (k : G γ own cc nL ret hh val d b (pc + 3) lv' st h res) : G γ own cc nL ret hh val d b pc lv st h res := by
  intro r hr p l e R s m args below meth c H locs cells slots Q ls C h1 h2 h3 h4 hS hP hls K
  exact lv_iinc C.1 C.2.1 hdg hls hk hv hn hl (fun ls' hls' => k r hr C h1 h2 h3 h4 hS hP hls' K)
theorem g_iadd {x y : Int32} (hdg : decode cc pc = .ok (.iadd, 1)) (k : G γ own cc nL ret hh val d b (pc + 1) lv (.int (x + y) :: st) h res) : G γ own cc nL ret hh val d b pc lv (.int y :: .int x :: st) h res := by
  intro r hr p l e R s m args below meth c H locs cells slots Q ls C h1 h2 h3 h4 hS hP hls K
  exact lv_iadd C.1 C.2.1 hdg (k r hr C h1 h2 h3 h4 hS hP hls K)
theorem g_isub {x y : Int32} (hdg : decode cc pc = .ok (.isub, 1)) (k : G γ own cc nL ret hh val d b (pc + 1) lv (.int (x - y) :: st) h res) : G γ own cc nL ret hh val d b pc lv (.int y :: .int x :: st) h res := by
  intro r hr p l e R s m args below meth c H locs cells slots Q ls C h1 h2 h3 h4 hS hP hls K
  exact lv_isub C.1 C.2.1 hdg (k r hr C h1 h2 h3 h4 hS hP hls K)
theorem g_imul {x y : Int32} (hdg : decode cc pc = .ok (.imul, 1)) (k : G γ own cc nL ret hh val d b (pc + 1) lv (.int (x * y) :: st) h res) : G γ own cc nL ret hh val d b pc lv (.int y :: .int x :: st) h res := by
  intro r hr p l e R s m args below meth c H locs cells slots Q ls C h1 h2 h3 h4 hS hP hls K
  exact lv_imul C.1 C.2.1 hdg (k r hr C h1 h2 h3 h4 hS hP hls K)
theorem g_iand {x y : Int32} (hdg : decode cc pc = .ok (.iand, 1)) (k : G γ own cc nL ret hh val d b (pc + 1) lv (.int (x &&& y) :: st) h res) : G γ own cc nL ret hh val d b pc lv (.int y :: .int x :: st) h res := by
  intro r hr p l e R s m args below meth c H locs cells slots Q ls C h1 h2 h3 h4 hS hP hls K
  exact lv_iand C.1 C.2.1 hdg (k r hr C h1 h2 h3 h4 hS hP hls K)
theorem g_ladd {x y : Int64} (hdg : decode cc pc = .ok (.ladd, 1)) (k : G γ own cc nL ret hh val d b (pc + 1) lv (.long (x + y) :: st) h res) : G γ own cc nL ret hh val d b pc lv (.long y :: .long x :: st) h res := by
  intro r hr p l e R s m args below meth c H locs cells slots Q ls C h1 h2 h3 h4 hS hP hls K
  exact lv_ladd C.1 C.2.1 hdg (k r hr C h1 h2 h3 h4 hS hP hls K)
theorem g_lsub {x y : Int64} (hdg : decode cc pc = .ok (.lsub, 1)) (k : G γ own cc nL ret hh val d b (pc + 1) lv (.long (x - y) :: st) h res) : G γ own cc nL ret hh val d b pc lv (.long y :: .long x :: st) h res := by
  intro r hr p l e R s m args below meth c H locs cells slots Q ls C h1 h2 h3 h4 hS hP hls K
  exact lv_lsub C.1 C.2.1 hdg (k r hr C h1 h2 h3 h4 hS hP hls K)
theorem g_lmul {x y : Int64} (hdg : decode cc pc = .ok (.lmul, 1)) (k : G γ own cc nL ret hh val d b (pc + 1) lv (.long (x * y) :: st) h res) : G γ own cc nL ret hh val d b pc lv (.long y :: .long x :: st) h res := by
  intro r hr p l e R s m args below meth c H locs cells slots Q ls C h1 h2 h3 h4 hS hP hls K
  exact lv_lmul C.1 C.2.1 hdg (k r hr C h1 h2 h3 h4 hS hP hls K)
theorem g_ineg {x : Int32} (hdg : decode cc pc = .ok (.ineg, 1)) (k : G γ own cc nL ret hh val d b (pc + 1) lv (.int (-x) :: st) h res) : G γ own cc nL ret hh val d b pc lv (.int x :: st) h res := by
  intro r hr p l e R s m args below meth c H locs cells slots Q ls C h1 h2 h3 h4 hS hP hls K
  exact lv_ineg C.1 C.2.1 hdg (k r hr C h1 h2 h3 h4 hS hP hls K)
theorem g_idiv {x y : Int32} (hdg : decode cc pc = .ok (.idiv, 1)) (k : G γ own cc nL ret hh val d b (pc + 1) lv (.int (x / y) :: st) h res) : G γ own cc nL ret hh val d b pc lv (.int y :: .int x :: st) h (gdz y res) := by
  intro r hr p l e R s m args below meth c H locs cells slots Q ls C h1 h2 h3 h4 hS hP hls K
  obtain ⟨hy, hr⟩ := gdz_in hr
  exact lv_idiv C.1 C.2.1 hdg hy (k r hr C h1 h2 h3 h4 hS hP hls K)
theorem g_irem {x y : Int32} (hdg : decode cc pc = .ok (.irem, 1)) (k : G γ own cc nL ret hh val d b (pc + 1) lv (.int (x - x / y * y) :: st) h res) : G γ own cc nL ret hh val d b pc lv (.int y :: .int x :: st) h (gdz y res) := by
  intro r hr p l e R s m args below meth c H locs cells slots Q ls C h1 h2 h3 h4 hS hP hls K
  obtain ⟨hy, hr⟩ := gdz_in hr
  exact lv_irem C.1 C.2.1 hdg hy (k r hr C h1 h2 h3 h4 hS hP hls K)
theorem g_i2l {x : Int32} (hdg : decode cc pc = .ok (.i2l, 1)) (k : G γ own cc nL ret hh val d b (pc + 1) lv (.long x.toInt64 :: st) h res) : G γ own cc nL ret hh val d b pc lv (.int x :: st) h res := by
  intro r hr p l e R s m args below meth c H locs cells slots Q ls C h1 h2 h3 h4 hS hP hls K
  exact lv_i2l C.1 C.2.1 hdg rfl (k r hr C h1 h2 h3 h4 hS hP hls K)
theorem g_lshl {x : Int64} {y : Int32} (hdg : decode cc pc = .ok (.lshl, 1)) (k : G γ own cc nL ret hh val d b (pc + 1) lv (.long (x <<< (y.toInt64 &&& 63)) :: st) h res) : G γ own cc nL ret hh val d b pc lv (.int y :: .long x :: st) h res := by
  intro r hr p l e R s m args below meth c H locs cells slots Q ls C h1 h2 h3 h4 hS hP hls K
  exact lv_lshl C.1 C.2.1 hdg rfl (k r hr C h1 h2 h3 h4 hS hP hls K)
theorem g_lcmp {x y : Int64} (hdg : decode cc pc = .ok (.lcmp, 1)) (k : G γ own cc nL ret hh val d b (pc + 1) lv (.int (lg_cmp x y) :: st) h res) : G γ own cc nL ret hh val d b pc lv (.long y :: .long x :: st) h res := by
  intro r hr p l e R s m args below meth c H locs cells slots Q ls C h1 h2 h3 h4 hS hP hls K
  exact W.lcmp C.1 C.2.1 hdg (k r hr C h1 h2 h3 h4 hS hP hls K)
theorem g_dmul {x y : UInt64} (hdg : decode cc pc = .ok (.dmul, 1)) (k : G γ own cc nL ret hh val d b (pc + 1) lv (.double (FP.dmul x y) :: st) h res) : G γ own cc nL ret hh val d b pc lv (.double y :: .double x :: st) h (gnn (FP.dmul x y) res) := by
  intro r hr p l e R s m args below meth c H locs cells slots Q ls C h1 h2 h3 h4 hS hP hls K
  obtain ⟨hy, hr⟩ := gnn_in hr
  exact lv_dmul C.1 C.2.1 hdg hy (k r hr C h1 h2 h3 h4 hS hP hls K)
theorem g_dsub {x y : UInt64} (hdg : decode cc pc = .ok (.dsub, 1)) (k : G γ own cc nL ret hh val d b (pc + 1) lv (.double (FP.dsub x y) :: st) h res) : G γ own cc nL ret hh val d b pc lv (.double y :: .double x :: st) h (gnn (FP.dsub x y) res) := by
  intro r hr p l e R s m args below meth c H locs cells slots Q ls C h1 h2 h3 h4 hS hP hls K
  obtain ⟨hy, hr⟩ := gnn_in hr
  exact lv_dsub C.1 C.2.1 hdg hy (k r hr C h1 h2 h3 h4 hS hP hls K)
theorem g_ddiv {x y : UInt64} (hdg : decode cc pc = .ok (.ddiv, 1)) (k : G γ own cc nL ret hh val d b (pc + 1) lv (.double (FP.ddiv x y) :: st) h res) : G γ own cc nL ret hh val d b pc lv (.double y :: .double x :: st) h (gnn (FP.ddiv x y) res) := by
  intro r hr p l e R s m args below meth c H locs cells slots Q ls C h1 h2 h3 h4 hS hP hls K
  obtain ⟨hy, hr⟩ := gnn_in hr
  exact lv_ddiv C.1 C.2.1 hdg hy (k r hr C h1 h2 h3 h4 hS hP hls K)
theorem g_dcmp {x y : UInt64} {op : CmpOp} (hdg : decode cc pc = .ok (.dcmp op, 1)) (k : G γ own cc nL ret hh val d b (pc + 1) lv (.int (Op.cmpValue (FP.dcmp x y) op) :: st) h res) : G γ own cc nL ret hh val d b pc lv (.double y :: .double x :: st) h res := by
  intro r hr p l e R s m args below meth c H locs cells slots Q ls C h1 h2 h3 h4 hS hP hls K
  exact lv_dcmp C.1 C.2.1 hdg (k r hr C h1 h2 h3 h4 hS hP hls K)
theorem g_i2d {x : Int32} (hdg : decode cc pc = .ok (.i2d, 1)) (k : G γ own cc nL ret hh val d b (pc + 1) lv (.double (FP.i2d x) :: st) h res) : G γ own cc nL ret hh val d b pc lv (.int x :: st) h res := by
  intro r hr p l e R s m args below meth c H locs cells slots Q ls C h1 h2 h3 h4 hS hP hls K
  exact lv_i2d C.1 C.2.1 hdg (k r hr C h1 h2 h3 h4 hS hP hls K)
theorem g_d2l {x : UInt64} (hdg : decode cc pc = .ok (.d2l, 1)) (k : G γ own cc nL ret hh val d b (pc + 1) lv (.long (FP.d2l x) :: st) h res) : G γ own cc nL ret hh val d b pc lv (.double x :: st) h res := by
  intro r hr p l e R s m args below meth c H locs cells slots Q ls C h1 h2 h3 h4 hS hP hls K
  exact lv_d2l C.1 C.2.1 hdg (k r hr C h1 h2 h3 h4 hS hP hls K)
theorem g_dup {va : Value} (hdg : decode cc pc = .ok (.dup, 1)) (hva : va.category = 1) (k : G γ own cc nL ret hh val d b (pc + 1) lv (va :: va :: st) h res) : G γ own cc nL ret hh val d b pc lv (va :: st) h res := by
  intro r hr p l e R s m args below meth c H locs cells slots Q ls C h1 h2 h3 h4 hS hP hls K
  exact lv_dup C.1 C.2.1 hdg hva (k r hr C h1 h2 h3 h4 hS hP hls K)
theorem g_pop {va : Value} (hdg : decode cc pc = .ok (.pop, 1)) (hva : va.category = 1) (k : G γ own cc nL ret hh val d b (pc + 1) lv st h res) : G γ own cc nL ret hh val d b pc lv (va :: st) h res := by
  intro r hr p l e R s m args below meth c H locs cells slots Q ls C h1 h2 h3 h4 hS hP hls K
  exact lv_pop C.1 C.2.1 hdg hva (k r hr C h1 h2 h3 h4 hS hP hls K)
theorem g_dup2 {va vb : Value} (hdg : decode cc pc = .ok (.dup2, 1)) (hva : va.category = 1) (hvb : vb.category = 1) (k : G γ own cc nL ret hh val d b (pc + 1) lv (va :: vb :: va :: vb :: st) h res) : G γ own cc nL ret hh val d b pc lv (va :: vb :: st) h res := by
  intro r hr p l e R s m args below meth c H locs cells slots Q ls C h1 h2 h3 h4 hS hP hls K
  exact lv_dup2_11 C.1 C.2.1 hdg hva hvb (k r hr C h1 h2 h3 h4 hS hP hls K)
theorem g_dup_x1 {va vb : Value} (hdg : decode cc pc = .ok (.dup_x1, 1)) (hva : va.category = 1) (hvb : vb.category = 1) (k : G γ own cc nL ret hh val d b (pc + 1) lv (va :: vb :: va :: st) h res) : G γ own cc nL ret hh val d b pc lv (va :: vb :: st) h res := by
  intro r hr p l e R s m args below meth c H locs cells slots Q ls C h1 h2 h3 h4 hS hP hls K
  exact lv_dup_x1 C.1 C.2.1 hdg hva hvb (k r hr C h1 h2 h3 h4 hS hP hls K)
theorem g_icmp_eq {x y : Int32} {off : Int} {tgt : Nat} {A B : Option α} (hdg : decode cc pc = .ok (.if_icmp .eq off, 3)) (ht : (pc : Int) + off = (tgt : Int)) (kt : G γ own cc nL ret hh val d b tgt lv st h A) (kf : G γ own cc nL ret hh val d b (pc + 3) lv st h B) : G γ own cc nL ret hh val d b pc lv (.int y :: .int x :: st) h (if x = y then A else B) := by
  intro r hr p l e R s m args below meth c H locs cells slots Q ls C h1 h2 h3 h4 hS hP hls K
  exact lv_icmp_eq C.1 C.2.1 hdg ht (fun hc => kt r (by rw [if_pos hc] at hr; exact hr) C h1 h2 h3 h4 hS hP hls K) (fun hc => kf r (by rw [if_neg hc] at hr; exact hr) C h1 h2 h3 h4 hS hP hls K)
theorem g_if_eq {x : Int32} {off : Int} {tgt : Nat} {A B : Option α} (hdg : decode cc pc = .ok (.ifCond .eq off, 3)) (ht : (pc : Int) + off = (tgt : Int)) (kt : G γ own cc nL ret hh val d b tgt lv st h A) (kf : G γ own cc nL ret hh val d b (pc + 3) lv st h B) : G γ own cc nL ret hh val d b pc lv (.int x :: st) h (if x = 0 then A else B) := by
  intro r hr p l e R s m args below meth c H locs cells slots Q ls C h1 h2 h3 h4 hS hP hls K
  exact lv_if_eq C.1 C.2.1 hdg ht (fun hc => kt r (by rw [if_pos hc] at hr; exact hr) C h1 h2 h3 h4 hS hP hls K) (fun hc => kf r (by rw [if_neg hc] at hr; exact hr) C h1 h2 h3 h4 hS hP hls K)
theorem g_icmp_ne {x y : Int32} {off : Int} {tgt : Nat} {A B : Option α} (hdg : decode cc pc = .ok (.if_icmp .ne off, 3)) (ht : (pc : Int) + off = (tgt : Int)) (kt : G γ own cc nL ret hh val d b tgt lv st h B) (kf : G γ own cc nL ret hh val d b (pc + 3) lv st h A) : G γ own cc nL ret hh val d b pc lv (.int y :: .int x :: st) h (if x = y then A else B) := by
  intro r hr p l e R s m args below meth c H locs cells slots Q ls C h1 h2 h3 h4 hS hP hls K
  exact lv_icmp_ne C.1 C.2.1 hdg ht (fun hc => kt r (by rw [if_neg hc] at hr; exact hr) C h1 h2 h3 h4 hS hP hls K) (fun hc => kf r (by rw [if_pos hc] at hr; exact hr) C h1 h2 h3 h4 hS hP hls K)
theorem g_if_ne {x : Int32} {off : Int} {tgt : Nat} {A B : Option α} (hdg : decode cc pc = .ok (.ifCond .ne off, 3)) (ht : (pc : Int) + off = (tgt : Int)) (kt : G γ own cc nL ret hh val d b tgt lv st h B) (kf : G γ own cc nL ret hh val d b (pc + 3) lv st h A) : G γ own cc nL ret hh val d b pc lv (.int x :: st) h (if x = 0 then A else B) := by
  intro r hr p l e R s m args below meth c H locs cells slots Q ls C h1 h2 h3 h4 hS hP hls K
  exact lv_if_ne C.1 C.2.1 hdg ht (fun hc => kt r (by rw [if_neg hc] at hr; exact hr) C h1 h2 h3 h4 hS hP hls K) (fun hc => kf r (by rw [if_pos hc] at hr; exact hr) C h1 h2 h3 h4 hS hP hls K)
theorem g_icmp_lt {x y : Int32} {off : Int} {tgt : Nat} {A B : Option α} (hdg : decode cc pc = .ok (.if_icmp .lt off, 3)) (ht : (pc : Int) + off = (tgt : Int)) (kt : G γ own cc nL ret hh val d b tgt lv st h A) (kf : G γ own cc nL ret hh val d b (pc + 3) lv st h B) : G γ own cc nL ret hh val d b pc lv (.int y :: .int x :: st) h (if x < y then A else B) := by
  intro r hr p l e R s m args below meth c H locs cells slots Q ls C h1 h2 h3 h4 hS hP hls K
  exact lv_icmp_lt C.1 C.2.1 hdg ht (fun hc => kt r (by rw [if_pos hc] at hr; exact hr) C h1 h2 h3 h4 hS hP hls K) (fun hc => kf r (by rw [if_neg hc] at hr; exact hr) C h1 h2 h3 h4 hS hP hls K)
theorem g_if_lt {x : Int32} {off : Int} {tgt : Nat} {A B : Option α} (hdg : decode cc pc = .ok (.ifCond .lt off, 3)) (ht : (pc : Int) + off = (tgt : Int)) (kt : G γ own cc nL ret hh val d b tgt lv st h A) (kf : G γ own cc nL ret hh val d b (pc + 3) lv st h B) : G γ own cc nL ret hh val d b pc lv (.int x :: st) h (if x < 0 then A else B) := by
  intro r hr p l e R s m args below meth c H locs cells slots Q ls C h1 h2 h3 h4 hS hP hls K
  exact lv_if_lt C.1 C.2.1 hdg ht (fun hc => kt r (by rw [if_pos hc] at hr; exact hr) C h1 h2 h3 h4 hS hP hls K) (fun hc => kf r (by rw [if_neg hc] at hr; exact hr) C h1 h2 h3 h4 hS hP hls K)
theorem g_icmp_ge {x y : Int32} {off : Int} {tgt : Nat} {A B : Option α} (hdg : decode cc pc = .ok (.if_icmp .ge off, 3)) (ht : (pc : Int) + off = (tgt : Int)) (kt : G γ own cc nL ret hh val d b tgt lv st h A) (kf : G γ own cc nL ret hh val d b (pc + 3) lv st h B) : G γ own cc nL ret hh val d b pc lv (.int y :: .int x :: st) h (if y ≤ x then A else B) := by
  intro r hr p l e R s m args below meth c H locs cells slots Q ls C h1 h2 h3 h4 hS hP hls K
  exact lv_icmp_ge C.1 C.2.1 hdg ht (fun hc => kt r (by rw [if_pos hc] at hr; exact hr) C h1 h2 h3 h4 hS hP hls K) (fun hc => kf r (by rw [if_neg hc] at hr; exact hr) C h1 h2 h3 h4 hS hP hls K)
theorem g_if_ge {x : Int32} {off : Int} {tgt : Nat} {A B : Option α} (hdg : decode cc pc = .ok (.ifCond .ge off, 3)) (ht : (pc : Int) + off = (tgt : Int)) (kt : G γ own cc nL ret hh val d b tgt lv st h A) (kf : G γ own cc nL ret hh val d b (pc + 3) lv st h B) : G γ own cc nL ret hh val d b pc lv (.int x :: st) h (if 0 ≤ x then A else B) := by
  intro r hr p l e R s m args below meth c H locs cells slots Q ls C h1 h2 h3 h4 hS hP hls K
  exact lv_if_ge C.1 C.2.1 hdg ht (fun hc => kt r (by rw [if_pos hc] at hr; exact hr) C h1 h2 h3 h4 hS hP hls K) (fun hc => kf r (by rw [if_neg hc] at hr; exact hr) C h1 h2 h3 h4 hS hP hls K)
theorem g_icmp_gt {x y : Int32} {off : Int} {tgt : Nat} {A B : Option α} (hdg : decode cc pc = .ok (.if_icmp .gt off, 3)) (ht : (pc : Int) + off = (tgt : Int)) (kt : G γ own cc nL ret hh val d b tgt lv st h A) (kf : G γ own cc nL ret hh val d b (pc + 3) lv st h B) : G γ own cc nL ret hh val d b pc lv (.int y :: .int x :: st) h (if y < x then A else B) := by
  intro r hr p l e R s m args below meth c H locs cells slots Q ls C h1 h2 h3 h4 hS hP hls K
  exact lv_icmp_gt C.1 C.2.1 hdg ht (fun hc => kt r (by rw [if_pos hc] at hr; exact hr) C h1 h2 h3 h4 hS hP hls K) (fun hc => kf r (by rw [if_neg hc] at hr; exact hr) C h1 h2 h3 h4 hS hP hls K)
theorem g_if_gt {x : Int32} {off : Int} {tgt : Nat} {A B : Option α} (hdg : decode cc pc = .ok (.ifCond .gt off, 3)) (ht : (pc : Int) + off = (tgt : Int)) (kt : G γ own cc nL ret hh val d b tgt lv st h A) (kf : G γ own cc nL ret hh val d b (pc + 3) lv st h B) : G γ own cc nL ret hh val d b pc lv (.int x :: st) h (if 0 < x then A else B) := by
  intro r hr p l e R s m args below meth c H locs cells slots Q ls C h1 h2 h3 h4 hS hP hls K
  exact lv_if_gt C.1 C.2.1 hdg ht (fun hc => kt r (by rw [if_pos hc] at hr; exact hr) C h1 h2 h3 h4 hS hP hls K) (fun hc => kf r (by rw [if_neg hc] at hr; exact hr) C h1 h2 h3 h4 hS hP hls K)
theorem g_icmp_le {x y : Int32} {off : Int} {tgt : Nat} {A B : Option α} (hdg : decode cc pc = .ok (.if_icmp .le off, 3)) (ht : (pc : Int) + off = (tgt : Int)) (kt : G γ own cc nL ret hh val d b tgt lv st h A) (kf : G γ own cc nL ret hh val d b (pc + 3) lv st h B) : G γ own cc nL ret hh val d b pc lv (.int y :: .int x :: st) h (if x ≤ y then A else B) := by
  intro r hr p l e R s m args below meth c H locs cells slots Q ls C h1 h2 h3 h4 hS hP hls K
  exact lv_icmp_le C.1 C.2.1 hdg ht (fun hc => kt r (by rw [if_pos hc] at hr; exact hr) C h1 h2 h3 h4 hS hP hls K) (fun hc => kf r (by rw [if_neg hc] at hr; exact hr) C h1 h2 h3 h4 hS hP hls K)
theorem g_if_le {x : Int32} {off : Int} {tgt : Nat} {A B : Option α} (hdg : decode cc pc = .ok (.ifCond .le off, 3)) (ht : (pc : Int) + off = (tgt : Int)) (kt : G γ own cc nL ret hh val d b tgt lv st h A) (kf : G γ own cc nL ret hh val d b (pc + 3) lv st h B) : G γ own cc nL ret hh val d b pc lv (.int x :: st) h (if x ≤ 0 then A else B) := by
  intro r hr p l e R s m args below meth c H locs cells slots Q ls C h1 h2 h3 h4 hS hP hls K
  exact lv_if_le C.1 C.2.1 hdg ht (fun hc => kt r (by rw [if_pos hc] at hr; exact hr) C h1 h2 h3 h4 hS hP hls K) (fun hc => kf r (by rw [if_neg hc] at hr; exact hr) C h1 h2 h3 h4 hS hP hls K)
theorem g_goto {off : Int} {tgt : Nat} (hdg : decode cc pc = .ok (.goto off, 3)) (ht : (pc : Int) + off = (tgt : Int)) (k : G γ own cc nL ret hh val d b tgt lv st h res) : G γ own cc nL ret hh val d b pc lv st h res := by
  intro r hr p l e R s m args below meth c H locs cells slots Q ls C h1 h2 h3 h4 hS hP hls K
  exact lv_goto C.1 C.2.1 hdg ht (k r hr C h1 h2 h3 h4 hS hP hls K)
theorem g_ireturn {x : Int32} {z : α} {ty : FieldType} (hdg : decode cc pc = .ok (.ireturn, 1)) (hret : ret = some ty) (hn : narrow ty (.int x) = .int x) (hz : val z = .inl (some (.int x), h)) : G γ own cc nL ret hh val d b pc lv [.int x] h (some z) := by
  intro r hr p l e R s m args below meth c H locs cells slots Q ls C h1 h2 h3 h4 hS hP hls K
  cases hr
  rw [hz] at K
  exact K pc ls H locs cells slots (Or.inr (Or.inl ⟨x, ty, rfl, hret, hn, hdg⟩)) hS hP (by omega) (by omega)
theorem g_zreturn {x : Int32} {z : α} (hdg : decode cc pc = .ok (.ireturn, 1)) (hret : ret = some .boolean) (hz : val z = .inl (some (.int x), h)) : G γ own cc nL ret hh val d b pc lv [.int x] h (gzr x (some z)) := by
  intro r hr p l e R s m args below meth c H locs cells slots Q ls C h1 h2 h3 h4 hS hP hls K
  obtain ⟨hy, hr⟩ := gzr_in hr
  exact g_ireturn hdg hret (by show Value.int (x &&& 1) = _; rw [hy]) hz r hr C h1 h2 h3 h4 hS hP hls K
theorem g_lreturn {x : Int64} {z : α} (hdg : decode cc pc = .ok (.lreturn, 1)) (hret : ret = some .long) (hz : val z = .inl (some (.long x), h)) : G γ own cc nL ret hh val d b pc lv [.long x] h (some z) := by
  intro r hr p l e R s m args below meth c H locs cells slots Q ls C h1 h2 h3 h4 hS hP hls K
  cases hr
  rw [hz] at K
  exact K pc ls H locs cells slots (Or.inr (Or.inr (Or.inl ⟨x, rfl, hret, hdg⟩))) hS hP (by omega) (by omega)
theorem g_dreturn {x : UInt64} {z : α} (hdg : decode cc pc = .ok (.dreturn, 1)) (hret : ret = some .double) (hz : val z = .inl (some (.double x), h)) : G γ own cc nL ret hh val d b pc lv [.double x] h (some z) := by
  intro r hr p l e R s m args below meth c H locs cells slots Q ls C h1 h2 h3 h4 hS hP hls K
  cases hr
  rw [hz] at K
  exact K pc ls H locs cells slots (Or.inr (Or.inr (Or.inr ⟨x, rfl, hret, hdg⟩))) hS hP (by omega) (by omega)
theorem g_return {z : α} (hdg : decode cc pc = .ok (.return_, 1)) (hret : ret = none) (hz : val z = .inl (none, h)) : G γ own cc nL ret hh val d b pc lv [] h (some z) := by
  intro r hr p l e R s m args below meth c H locs cells slots Q ls C h1 h2 h3 h4 hS hP hls K
  cases hr
  rw [hz] at K
  exact K pc ls H locs cells slots (Or.inl ⟨rfl, hret, hdg⟩) hS hP (by omega) (by omega)
end GG
end
