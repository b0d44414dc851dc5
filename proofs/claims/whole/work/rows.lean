section
-- ===== PART A: goes FIRST, ahead of the names: the tables' words, and 'selects' of the private methods out of them =====
/-- a private method of a class that the tables say can be made, by its rows of tables_1 -/
def lw_okq (q : MethodName × Nat) : Prop := (q.1.cls ≠ "java/lang/invoke/MethodHandle" ∧ q.1.cls ≠ "java/lang/invoke/VarHandle") ∧ Cond.instantiable q.1.cls q.2 ∈ tables_1 ∧ Cond.privateMethod q.1 ∈ tables_1 ∧ Cond.instanceMethod q.1 ∈ tables_1
theorem lw_p0 : lw_okq (⟨"VarveClock", "beginChange", "()V"⟩, 4) := ⟨⟨by decide +kernel, by decide +kernel⟩, List.mem_of_getElem? (i := 14) (by decide +kernel), List.mem_of_getElem? (i := 192) (by decide +kernel), List.mem_of_getElem? (i := 193) (by decide +kernel)⟩
theorem lw_p1 : lw_okq (⟨"VarveClock", "isLayer", "(I)Z"⟩, 4) := ⟨⟨by decide +kernel, by decide +kernel⟩, List.mem_of_getElem? (i := 14) (by decide +kernel), List.mem_of_getElem? (i := 229) (by decide +kernel), List.mem_of_getElem? (i := 230) (by decide +kernel)⟩
theorem lw_p2 : lw_okq (⟨"VarveClock", "isAshOfRange", "(III)Z"⟩, 4) := ⟨⟨by decide +kernel, by decide +kernel⟩, List.mem_of_getElem? (i := 14) (by decide +kernel), List.mem_of_getElem? (i := 266) (by decide +kernel), List.mem_of_getElem? (i := 267) (by decide +kernel)⟩
theorem lw_p3 : lw_okq (⟨"VarveClock", "isAsh", "(I)Z"⟩, 4) := ⟨⟨by decide +kernel, by decide +kernel⟩, List.mem_of_getElem? (i := 14) (by decide +kernel), List.mem_of_getElem? (i := 279) (by decide +kernel), List.mem_of_getElem? (i := 280) (by decide +kernel)⟩
theorem lw_p4 : lw_okq (⟨"VarveClock$Script", "readCommand", "()Z"⟩, 4) := ⟨⟨by decide +kernel, by decide +kernel⟩, List.mem_of_getElem? (i := 91) (by decide +kernel), List.mem_of_getElem? (i := 300) (by decide +kernel), List.mem_of_getElem? (i := 301) (by decide +kernel)⟩
theorem lw_p5 : lw_okq (⟨"VarveClock$Script", "skipWord", "(Ljava/lang/String;)Z"⟩, 4) := ⟨⟨by decide +kernel, by decide +kernel⟩, List.mem_of_getElem? (i := 91) (by decide +kernel), List.mem_of_getElem? (i := 305) (by decide +kernel), List.mem_of_getElem? (i := 306) (by decide +kernel)⟩
theorem lw_p6 : lw_okq (⟨"VarveClock$Script", "readLayer", "(I)Z"⟩, 4) := ⟨⟨by decide +kernel, by decide +kernel⟩, List.mem_of_getElem? (i := 91) (by decide +kernel), List.mem_of_getElem? (i := 357) (by decide +kernel), List.mem_of_getElem? (i := 358) (by decide +kernel)⟩
theorem lw_p7 : lw_okq (⟨"VarveClock$Script", "readNumber", "(C)I"⟩, 4) := ⟨⟨by decide +kernel, by decide +kernel⟩, List.mem_of_getElem? (i := 91) (by decide +kernel), List.mem_of_getElem? (i := 361) (by decide +kernel), List.mem_of_getElem? (i := 362) (by decide +kernel)⟩
theorem lw_p8 : lw_okq (⟨"VarveClock$Script", "readGap", "()Z"⟩, 4) := ⟨⟨by decide +kernel, by decide +kernel⟩, List.mem_of_getElem? (i := 91) (by decide +kernel), List.mem_of_getElem? (i := 370) (by decide +kernel), List.mem_of_getElem? (i := 371) (by decide +kernel)⟩
theorem lw_p9 : lw_okq (⟨"VarveClock$Script", "readAsh", "()Z"⟩, 4) := ⟨⟨by decide +kernel, by decide +kernel⟩, List.mem_of_getElem? (i := 91) (by decide +kernel), List.mem_of_getElem? (i := 375) (by decide +kernel), List.mem_of_getElem? (i := 376) (by decide +kernel)⟩
theorem lw_p10 : lw_okq (⟨"VarveClock$Reckoning", "makeBelow", "()V"⟩, 15) := ⟨⟨by decide +kernel, by decide +kernel⟩, List.mem_of_getElem? (i := 115) (by decide +kernel), List.mem_of_getElem? (i := 423) (by decide +kernel), List.mem_of_getElem? (i := 424) (by decide +kernel)⟩
theorem lw_p11 : lw_okq (⟨"VarveClock$Reckoning", "clearRow", "([II)V"⟩, 15) := ⟨⟨by decide +kernel, by decide +kernel⟩, List.mem_of_getElem? (i := 115) (by decide +kernel), List.mem_of_getElem? (i := 432) (by decide +kernel), List.mem_of_getElem? (i := 433) (by decide +kernel)⟩
theorem lw_p12 : lw_okq (⟨"VarveClock$Reckoning", "addAshCosts", "(I[I)V"⟩, 15) := ⟨⟨by decide +kernel, by decide +kernel⟩, List.mem_of_getElem? (i := 115) (by decide +kernel), List.mem_of_getElem? (i := 436) (by decide +kernel), List.mem_of_getElem? (i := 437) (by decide +kernel)⟩
theorem lw_p13 : lw_okq (⟨"VarveClock$Reckoning", "addOwnCosts", "(IZ)V"⟩, 15) := ⟨⟨by decide +kernel, by decide +kernel⟩, List.mem_of_getElem? (i := 115) (by decide +kernel), List.mem_of_getElem? (i := 450) (by decide +kernel), List.mem_of_getElem? (i := 451) (by decide +kernel)⟩
theorem lw_p14 : lw_okq (⟨"VarveClock$Reckoning", "addMissingCosts", "(IZ[I)V"⟩, 15) := ⟨⟨by decide +kernel, by decide +kernel⟩, List.mem_of_getElem? (i := 115) (by decide +kernel), List.mem_of_getElem? (i := 466) (by decide +kernel), List.mem_of_getElem? (i := 467) (by decide +kernel)⟩
theorem lw_p15 : lw_okq (⟨"VarveClock$Reckoning", "costFrom", "(IIZ)I"⟩, 15) := ⟨⟨by decide +kernel, by decide +kernel⟩, List.mem_of_getElem? (i := 115) (by decide +kernel), List.mem_of_getElem? (i := 470) (by decide +kernel), List.mem_of_getElem? (i := 471) (by decide +kernel)⟩
def lw_privs_1 : List (MethodName × Nat) := [(⟨"VarveClock", "beginChange", "()V"⟩, 4), (⟨"VarveClock", "isLayer", "(I)Z"⟩, 4), (⟨"VarveClock", "isAshOfRange", "(III)Z"⟩, 4), (⟨"VarveClock", "isAsh", "(I)Z"⟩, 4), (⟨"VarveClock$Script", "readCommand", "()Z"⟩, 4), (⟨"VarveClock$Script", "skipWord", "(Ljava/lang/String;)Z"⟩, 4), (⟨"VarveClock$Script", "readLayer", "(I)Z"⟩, 4), (⟨"VarveClock$Script", "readNumber", "(C)I"⟩, 4), (⟨"VarveClock$Script", "readGap", "()Z"⟩, 4), (⟨"VarveClock$Script", "readAsh", "()Z"⟩, 4), (⟨"VarveClock$Reckoning", "makeBelow", "()V"⟩, 15), (⟨"VarveClock$Reckoning", "clearRow", "([II)V"⟩, 15), (⟨"VarveClock$Reckoning", "addAshCosts", "(I[I)V"⟩, 15), (⟨"VarveClock$Reckoning", "addOwnCosts", "(IZ)V"⟩, 15), (⟨"VarveClock$Reckoning", "addMissingCosts", "(IZ[I)V"⟩, 15), (⟨"VarveClock$Reckoning", "costFrom", "(IIZ)I"⟩, 15)]
theorem lw_r1 : ∀ q ∈ lw_privs_1, lw_okq q := List.forall_mem_cons.mpr ⟨lw_p0, List.forall_mem_cons.mpr ⟨lw_p1, List.forall_mem_cons.mpr ⟨lw_p2, List.forall_mem_cons.mpr ⟨lw_p3, List.forall_mem_cons.mpr ⟨lw_p4, List.forall_mem_cons.mpr ⟨lw_p5, List.forall_mem_cons.mpr ⟨lw_p6, List.forall_mem_cons.mpr ⟨lw_p7, List.forall_mem_cons.mpr ⟨lw_p8, List.forall_mem_cons.mpr ⟨lw_p9, List.forall_mem_cons.mpr ⟨lw_p10, List.forall_mem_cons.mpr ⟨lw_p11, List.forall_mem_cons.mpr ⟨lw_p12, List.forall_mem_cons.mpr ⟨lw_p13, List.forall_mem_cons.mpr ⟨lw_p14, List.forall_mem_cons.mpr ⟨lw_p15, fun _ h => absurd h List.not_mem_nil⟩⟩⟩⟩⟩⟩⟩⟩⟩⟩⟩⟩⟩⟩⟩⟩
theorem lw_p16 : lw_okq (⟨"VarveClock$Reckoning", "followBest", "()V"⟩, 15) := ⟨⟨by decide +kernel, by decide +kernel⟩, List.mem_of_getElem? (i := 115) (by decide +kernel), List.mem_of_getElem? (i := 478) (by decide +kernel), List.mem_of_getElem? (i := 479) (by decide +kernel)⟩
theorem lw_p17 : lw_okq (⟨"VarveClock$Reckoning", "chooseYears", "(II)V"⟩, 15) := ⟨⟨by decide +kernel, by decide +kernel⟩, List.mem_of_getElem? (i := 115) (by decide +kernel), List.mem_of_getElem? (i := 482) (by decide +kernel), List.mem_of_getElem? (i := 483) (by decide +kernel)⟩
theorem lw_p18 : lw_okq (⟨"VarveClock", "isPlace", "(I)Z"⟩, 4) := ⟨⟨by decide +kernel, by decide +kernel⟩, List.mem_of_getElem? (i := 14) (by decide +kernel), List.mem_of_getElem? (i := 499) (by decide +kernel), List.mem_of_getElem? (i := 500) (by decide +kernel)⟩
theorem lw_p19 : lw_okq (⟨"VarveClock$Reckoning", "countWays", "()I"⟩, 15) := ⟨⟨by decide +kernel, by decide +kernel⟩, List.mem_of_getElem? (i := 115) (by decide +kernel), List.mem_of_getElem? (i := 537) (by decide +kernel), List.mem_of_getElem? (i := 538) (by decide +kernel)⟩
theorem lw_p20 : lw_okq (⟨"VarveClock$Reckoning", "handOnWays", "(II)V"⟩, 15) := ⟨⟨by decide +kernel, by decide +kernel⟩, List.mem_of_getElem? (i := 115) (by decide +kernel), List.mem_of_getElem? (i := 541) (by decide +kernel), List.mem_of_getElem? (i := 542) (by decide +kernel)⟩
theorem lw_p21 : lw_okq (⟨"VarveClock$Reckoning", "makeAbove", "()V"⟩, 15) := ⟨⟨by decide +kernel, by decide +kernel⟩, List.mem_of_getElem? (i := 115) (by decide +kernel), List.mem_of_getElem? (i := 562) (by decide +kernel), List.mem_of_getElem? (i := 563) (by decide +kernel)⟩
theorem lw_p22 : lw_okq (⟨"VarveClock$Reckoning", "costThrough", "(II)I"⟩, 15) := ⟨⟨by decide +kernel, by decide +kernel⟩, List.mem_of_getElem? (i := 115) (by decide +kernel), List.mem_of_getElem? (i := 566) (by decide +kernel), List.mem_of_getElem? (i := 567) (by decide +kernel)⟩
theorem lw_p23 : lw_okq (⟨"VarveClockModel", "isPlace", "(I)Z"⟩, 17) := ⟨⟨by decide +kernel, by decide +kernel⟩, List.mem_of_getElem? (i := 625) (by decide +kernel), List.mem_of_getElem? (i := 687) (by decide +kernel), List.mem_of_getElem? (i := 688) (by decide +kernel)⟩
theorem lw_p24 : lw_okq (⟨"VarveClockModel", "records", "()V"⟩, 17) := ⟨⟨by decide +kernel, by decide +kernel⟩, List.mem_of_getElem? (i := 625) (by decide +kernel), List.mem_of_getElem? (i := 694) (by decide +kernel), List.mem_of_getElem? (i := 695) (by decide +kernel)⟩
theorem lw_p25 : lw_okq (⟨"VarveClockModel", "copies", "(II)V"⟩, 17) := ⟨⟨by decide +kernel, by decide +kernel⟩, List.mem_of_getElem? (i := 625) (by decide +kernel), List.mem_of_getElem? (i := 698) (by decide +kernel), List.mem_of_getElem? (i := 699) (by decide +kernel)⟩
theorem lw_p26 : lw_okq (⟨"VarveClockModel", "isLayer", "(I)Z"⟩, 17) := ⟨⟨by decide +kernel, by decide +kernel⟩, List.mem_of_getElem? (i := 625) (by decide +kernel), List.mem_of_getElem? (i := 706) (by decide +kernel), List.mem_of_getElem? (i := 707) (by decide +kernel)⟩
theorem lw_p27 : lw_okq (⟨"VarveClockModel", "ashAt", "(I)I"⟩, 17) := ⟨⟨by decide +kernel, by decide +kernel⟩, List.mem_of_getElem? (i := 625) (by decide +kernel), List.mem_of_getElem? (i := 710) (by decide +kernel), List.mem_of_getElem? (i := 711) (by decide +kernel)⟩
theorem lw_p28 : lw_okq (⟨"VarveClockModel", "drops", "(I)V"⟩, 17) := ⟨⟨by decide +kernel, by decide +kernel⟩, List.mem_of_getElem? (i := 625) (by decide +kernel), List.mem_of_getElem? (i := 714) (by decide +kernel), List.mem_of_getElem? (i := 715) (by decide +kernel)⟩
theorem lw_p29 : lw_okq (⟨"VarveClockModel", "isNewAsh", "(III)Z"⟩, 17) := ⟨⟨by decide +kernel, by decide +kernel⟩, List.mem_of_getElem? (i := 625) (by decide +kernel), List.mem_of_getElem? (i := 726) (by decide +kernel), List.mem_of_getElem? (i := 727) (by decide +kernel)⟩
theorem lw_p30 : lw_okq (⟨"VarveClockModel", "isAsh", "(I)Z"⟩, 17) := ⟨⟨by decide +kernel, by decide +kernel⟩, List.mem_of_getElem? (i := 625) (by decide +kernel), List.mem_of_getElem? (i := 734) (by decide +kernel), List.mem_of_getElem? (i := 735) (by decide +kernel)⟩
theorem lw_p31 : lw_okq (⟨"VarveClockModel", "thickness", "(II)I"⟩, 17) := ⟨⟨by decide +kernel, by decide +kernel⟩, List.mem_of_getElem? (i := 625) (by decide +kernel), List.mem_of_getElem? (i := 750) (by decide +kernel), List.mem_of_getElem? (i := 751) (by decide +kernel)⟩
def lw_privs_2 : List (MethodName × Nat) := [(⟨"VarveClock$Reckoning", "followBest", "()V"⟩, 15), (⟨"VarveClock$Reckoning", "chooseYears", "(II)V"⟩, 15), (⟨"VarveClock", "isPlace", "(I)Z"⟩, 4), (⟨"VarveClock$Reckoning", "countWays", "()I"⟩, 15), (⟨"VarveClock$Reckoning", "handOnWays", "(II)V"⟩, 15), (⟨"VarveClock$Reckoning", "makeAbove", "()V"⟩, 15), (⟨"VarveClock$Reckoning", "costThrough", "(II)I"⟩, 15), (⟨"VarveClockModel", "isPlace", "(I)Z"⟩, 17), (⟨"VarveClockModel", "records", "()V"⟩, 17), (⟨"VarveClockModel", "copies", "(II)V"⟩, 17), (⟨"VarveClockModel", "isLayer", "(I)Z"⟩, 17), (⟨"VarveClockModel", "ashAt", "(I)I"⟩, 17), (⟨"VarveClockModel", "drops", "(I)V"⟩, 17), (⟨"VarveClockModel", "isNewAsh", "(III)Z"⟩, 17), (⟨"VarveClockModel", "isAsh", "(I)Z"⟩, 17), (⟨"VarveClockModel", "thickness", "(II)I"⟩, 17)]
theorem lw_r2 : ∀ q ∈ lw_privs_2, lw_okq q := List.forall_mem_cons.mpr ⟨lw_p16, List.forall_mem_cons.mpr ⟨lw_p17, List.forall_mem_cons.mpr ⟨lw_p18, List.forall_mem_cons.mpr ⟨lw_p19, List.forall_mem_cons.mpr ⟨lw_p20, List.forall_mem_cons.mpr ⟨lw_p21, List.forall_mem_cons.mpr ⟨lw_p22, List.forall_mem_cons.mpr ⟨lw_p23, List.forall_mem_cons.mpr ⟨lw_p24, List.forall_mem_cons.mpr ⟨lw_p25, List.forall_mem_cons.mpr ⟨lw_p26, List.forall_mem_cons.mpr ⟨lw_p27, List.forall_mem_cons.mpr ⟨lw_p28, List.forall_mem_cons.mpr ⟨lw_p29, List.forall_mem_cons.mpr ⟨lw_p30, List.forall_mem_cons.mpr ⟨lw_p31, fun _ h => absurd h List.not_mem_nil⟩⟩⟩⟩⟩⟩⟩⟩⟩⟩⟩⟩⟩⟩⟩⟩
theorem lw_p32 : lw_okq (⟨"VarveClockModel", "ofKind", "(I)I"⟩, 17) := ⟨⟨by decide +kernel, by decide +kernel⟩, List.mem_of_getElem? (i := 625) (by decide +kernel), List.mem_of_getElem? (i := 754) (by decide +kernel), List.mem_of_getElem? (i := 755) (by decide +kernel)⟩
theorem lw_p33 : lw_okq (⟨"VarveClockModel", "plain", "()V"⟩, 17) := ⟨⟨by decide +kernel, by decide +kernel⟩, List.mem_of_getElem? (i := 625) (by decide +kernel), List.mem_of_getElem? (i := 770) (by decide +kernel), List.mem_of_getElem? (i := 771) (by decide +kernel)⟩
theorem lw_p34 : lw_okq (⟨"VarveClockModel", "solves", "()I"⟩, 17) := ⟨⟨by decide +kernel, by decide +kernel⟩, List.mem_of_getElem? (i := 625) (by decide +kernel), List.mem_of_getElem? (i := 774) (by decide +kernel), List.mem_of_getElem? (i := 775) (by decide +kernel)⟩
theorem lw_p35 : lw_okq (⟨"VarveClockModel", "ashCost", "(II)I"⟩, 17) := ⟨⟨by decide +kernel, by decide +kernel⟩, List.mem_of_getElem? (i := 625) (by decide +kernel), List.mem_of_getElem? (i := 778) (by decide +kernel), List.mem_of_getElem? (i := 779) (by decide +kernel)⟩
theorem lw_p36 : lw_okq (⟨"VarveClockModel", "offCost", "(III)I"⟩, 17) := ⟨⟨by decide +kernel, by decide +kernel⟩, List.mem_of_getElem? (i := 625) (by decide +kernel), List.mem_of_getElem? (i := 782) (by decide +kernel), List.mem_of_getElem? (i := 783) (by decide +kernel)⟩
theorem lw_p37 : lw_okq (⟨"VarveClockModel", "leastOwn", "(I)I"⟩, 17) := ⟨⟨by decide +kernel, by decide +kernel⟩, List.mem_of_getElem? (i := 625) (by decide +kernel), List.mem_of_getElem? (i := 787) (by decide +kernel), List.mem_of_getElem? (i := 788) (by decide +kernel)⟩
theorem lw_p38 : lw_okq (⟨"VarveClockModel", "mostOwn", "(I)I"⟩, 17) := ⟨⟨by decide +kernel, by decide +kernel⟩, List.mem_of_getElem? (i := 625) (by decide +kernel), List.mem_of_getElem? (i := 791) (by decide +kernel), List.mem_of_getElem? (i := 792) (by decide +kernel)⟩
theorem lw_p39 : lw_okq (⟨"VarveClockModel", "yearsCost", "(III)I"⟩, 17) := ⟨⟨by decide +kernel, by decide +kernel⟩, List.mem_of_getElem? (i := 625) (by decide +kernel), List.mem_of_getElem? (i := 795) (by decide +kernel), List.mem_of_getElem? (i := 796) (by decide +kernel)⟩
theorem lw_p40 : lw_okq (⟨"VarveClockModel", "counts", "()Z"⟩, 17) := ⟨⟨by decide +kernel, by decide +kernel⟩, List.mem_of_getElem? (i := 625) (by decide +kernel), List.mem_of_getElem? (i := 803) (by decide +kernel), List.mem_of_getElem? (i := 804) (by decide +kernel)⟩
theorem lw_p41 : lw_okq (⟨"VarveClockModel", "falls", "(I)V"⟩, 17) := ⟨⟨by decide +kernel, by decide +kernel⟩, List.mem_of_getElem? (i := 625) (by decide +kernel), List.mem_of_getElem? (i := 832) (by decide +kernel), List.mem_of_getElem? (i := 833) (by decide +kernel)⟩
theorem lw_p42 : lw_okq (⟨"VarveClockModel", "readsCommand", "()Z"⟩, 17) := ⟨⟨by decide +kernel, by decide +kernel⟩, List.mem_of_getElem? (i := 625) (by decide +kernel), List.mem_of_getElem? (i := 860) (by decide +kernel), List.mem_of_getElem? (i := 861) (by decide +kernel)⟩
theorem lw_p43 : lw_okq (⟨"VarveClockModel", "isWord", "(IIIII)Z"⟩, 17) := ⟨⟨by decide +kernel, by decide +kernel⟩, List.mem_of_getElem? (i := 625) (by decide +kernel), List.mem_of_getElem? (i := 864) (by decide +kernel), List.mem_of_getElem? (i := 865) (by decide +kernel)⟩
theorem lw_p44 : lw_okq (⟨"VarveClockModel", "signAt", "(I)I"⟩, 17) := ⟨⟨by decide +kernel, by decide +kernel⟩, List.mem_of_getElem? (i := 625) (by decide +kernel), List.mem_of_getElem? (i := 868) (by decide +kernel), List.mem_of_getElem? (i := 869) (by decide +kernel)⟩
theorem lw_p45 : lw_okq (⟨"VarveClockModel", "readsLayer", "(I)Z"⟩, 17) := ⟨⟨by decide +kernel, by decide +kernel⟩, List.mem_of_getElem? (i := 625) (by decide +kernel), List.mem_of_getElem? (i := 872) (by decide +kernel), List.mem_of_getElem? (i := 873) (by decide +kernel)⟩
theorem lw_p46 : lw_okq (⟨"VarveClockModel", "number", "(II)I"⟩, 17) := ⟨⟨by decide +kernel, by decide +kernel⟩, List.mem_of_getElem? (i := 625) (by decide +kernel), List.mem_of_getElem? (i := 876) (by decide +kernel), List.mem_of_getElem? (i := 877) (by decide +kernel)⟩
theorem lw_p47 : lw_okq (⟨"VarveClockModel", "readsGap", "()Z"⟩, 17) := ⟨⟨by decide +kernel, by decide +kernel⟩, List.mem_of_getElem? (i := 625) (by decide +kernel), List.mem_of_getElem? (i := 880) (by decide +kernel), List.mem_of_getElem? (i := 881) (by decide +kernel)⟩
def lw_privs_3 : List (MethodName × Nat) := [(⟨"VarveClockModel", "ofKind", "(I)I"⟩, 17), (⟨"VarveClockModel", "plain", "()V"⟩, 17), (⟨"VarveClockModel", "solves", "()I"⟩, 17), (⟨"VarveClockModel", "ashCost", "(II)I"⟩, 17), (⟨"VarveClockModel", "offCost", "(III)I"⟩, 17), (⟨"VarveClockModel", "leastOwn", "(I)I"⟩, 17), (⟨"VarveClockModel", "mostOwn", "(I)I"⟩, 17), (⟨"VarveClockModel", "yearsCost", "(III)I"⟩, 17), (⟨"VarveClockModel", "counts", "()Z"⟩, 17), (⟨"VarveClockModel", "falls", "(I)V"⟩, 17), (⟨"VarveClockModel", "readsCommand", "()Z"⟩, 17), (⟨"VarveClockModel", "isWord", "(IIIII)Z"⟩, 17), (⟨"VarveClockModel", "signAt", "(I)I"⟩, 17), (⟨"VarveClockModel", "readsLayer", "(I)Z"⟩, 17), (⟨"VarveClockModel", "number", "(II)I"⟩, 17), (⟨"VarveClockModel", "readsGap", "()Z"⟩, 17)]
theorem lw_r3 : ∀ q ∈ lw_privs_3, lw_okq q := List.forall_mem_cons.mpr ⟨lw_p32, List.forall_mem_cons.mpr ⟨lw_p33, List.forall_mem_cons.mpr ⟨lw_p34, List.forall_mem_cons.mpr ⟨lw_p35, List.forall_mem_cons.mpr ⟨lw_p36, List.forall_mem_cons.mpr ⟨lw_p37, List.forall_mem_cons.mpr ⟨lw_p38, List.forall_mem_cons.mpr ⟨lw_p39, List.forall_mem_cons.mpr ⟨lw_p40, List.forall_mem_cons.mpr ⟨lw_p41, List.forall_mem_cons.mpr ⟨lw_p42, List.forall_mem_cons.mpr ⟨lw_p43, List.forall_mem_cons.mpr ⟨lw_p44, List.forall_mem_cons.mpr ⟨lw_p45, List.forall_mem_cons.mpr ⟨lw_p46, List.forall_mem_cons.mpr ⟨lw_p47, fun _ h => absurd h List.not_mem_nil⟩⟩⟩⟩⟩⟩⟩⟩⟩⟩⟩⟩⟩⟩⟩⟩
theorem lw_p48 : lw_okq (⟨"VarveClockModel", "readsAsh", "()Z"⟩, 17) := ⟨⟨by decide +kernel, by decide +kernel⟩, List.mem_of_getElem? (i := 625) (by decide +kernel), List.mem_of_getElem? (i := 884) (by decide +kernel), List.mem_of_getElem? (i := 885) (by decide +kernel)⟩
theorem lw_p49 : lw_okq (⟨"VarveClockModel", "passes", "(I)Z"⟩, 17) := ⟨⟨by decide +kernel, by decide +kernel⟩, List.mem_of_getElem? (i := 625) (by decide +kernel), List.mem_of_getElem? (i := 888) (by decide +kernel), List.mem_of_getElem? (i := 889) (by decide +kernel)⟩
def lw_privs_4 : List (MethodName × Nat) := [(⟨"VarveClockModel", "readsAsh", "()Z"⟩, 17), (⟨"VarveClockModel", "passes", "(I)Z"⟩, 17)]
theorem lw_r4 : ∀ q ∈ lw_privs_4, lw_okq q := List.forall_mem_cons.mpr ⟨lw_p48, List.forall_mem_cons.mpr ⟨lw_p49, fun _ h => absurd h List.not_mem_nil⟩⟩
def lw_privs : List (MethodName × Nat) := lw_privs_1 ++ (lw_privs_2 ++ (lw_privs_3 ++ (lw_privs_4)))
def lw_tbl : List Cond := k2_sels lw_privs ++ tables_1
theorem lw_privs_ok : ∀ q ∈ lw_privs, lw_okq q := by
  show ∀ q ∈ lw_privs_1 ++ (lw_privs_2 ++ (lw_privs_3 ++ (lw_privs_4))), lw_okq q
  exact List.forall_mem_append.mpr ⟨lw_r1, List.forall_mem_append.mpr ⟨lw_r2, List.forall_mem_append.mpr ⟨lw_r3, lw_r4⟩⟩⟩
end
section
/-! ===== BEGIN words of one list among another's, by their places ===== -/
theorem goodIn_r {big : List Cond} (ws : List Cond) (ps : List Nat) (hp : ws = ps.filterMap (fun i => big[i]?)) (h : ws.all goodWord = true) : GoodIn big ws := by
  intro w hw
  have h1 := List.all_eq_true.mp h w hw
  rw [hp] at hw
  obtain ⟨i, -, hi⟩ := List.mem_filterMap.mp hw
  have hm : w ∈ big := by first | exact List.mem_of_getElem? hi | exact List.getElem?_mem hi
  exact ⟨hm, good_of_word h1⟩
theorem goodIn_app {big a b : List Cond} (ha : GoodIn big a) (hb : GoodIn big b) : GoodIn big (a ++ b) := fun w h => (List.mem_append.mp h).elim (ha w) (hb w)
theorem goodIn_ca {big a b : List Cond} {c : Cond} (ha : GoodIn big (c :: a)) (hb : GoodIn big b) : GoodIn big (c :: (a ++ b)) := fun w h => (List.mem_cons.mp h).elim (fun e => ha w (List.mem_cons.mpr (Or.inl e))) (fun h => (List.mem_append.mp h).elim (fun h => ha w (List.mem_cons.mpr (Or.inr h))) (hb w))
theorem goodIn_sub {big ws : List Cond} (hm : ∀ w ∈ ws, w ∈ big) (h : ws.all goodWord = true) : GoodIn big ws := fun w hw => ⟨hm w hw, good_of_word (List.all_eq_true.mp h w hw)⟩
/-! ===== END ===== -/

/-! ===== BEGIN new T[n][m]: the outer array a place, the inner ones among the pooled ===== -/
/-- f, but v at every address of l -/
def vr_up {α : Type} (f : Nat → α) (l : List Nat) (v : α) : Nat → α := fun a => if a ∈ l then v else f a
theorem vr_up_in {α : Type} {f : Nat → α} {l : List Nat} {v : α} {a : Nat} (h : a ∈ l) : vr_up f l v a = v := if_pos h
theorem vr_up_ne {α : Type} {f : Nat → α} {l : List Nat} {v : α} {a : Nat} (h : a ∉ l) : vr_up f l v a = f a := if_neg h
theorem vr_rows {L l : List Nat} {f : Nat → va_E} {e : va_E} (h : ∀ a, a ∈ l → a ∉ L) : va_pl L f ++ l.map (fun a => (a, e)) = va_pl (L ++ l) (vr_up f l e) := by
  unfold va_pl
  rw [List.map_append]
  congr 1
  · apply List.map_congr_left
    intro a ha
    rw [vr_up_ne (fun q => h a q ha)]
  · apply List.map_congr_left
    intro a ha
    rw [vr_up_in ha]
theorem vr_lay {X rows : va_W} {x : Nat × va_E} {pl : va_W} {D : va_G} {cl : List vw_C} {H : Heap} (hP : va_P D cl (((X ++ pl) ++ [x]) ++ rows) H) : va_P D cl ((X ++ [x]) ++ (pl ++ rows)) H := by
  rw [List.append_assoc (X ++ pl)] at hP
  have h := va_P.swap hP
  rw [← List.append_assoc X] at h
  have h2 := va_P.swap h
  rw [List.append_assoc (X ++ [x])] at h2
  exact h2
theorem vr_layD {X rows : va_W} {x : Nat × va_E} {pl : va_W} {A : Nat → Prop} (hD : va_D A (((X ++ pl) ++ [x]) ++ rows)) : va_D A ((X ++ [x]) ++ (pl ++ rows)) := by
  rw [List.append_assoc (X ++ pl)] at hD
  have h := va_D.swap hD
  rw [← List.append_assoc X] at h
  have h2 := va_D.swap h
  rw [List.append_assoc (X ++ [x])] at h2
  exact h2
theorem vr_outer (c : ClassId) (N h0 : Nat) : ∀ i : Nat, Jvm.Free.Multi.outerC c N h0 i = arrV c N (fun j => va_rf (if j < i then some (h0 + 1 + j) else none))
  | 0 => by
    show ({ cls := c, slots := Array.replicate N .null, vm := .none } : Cell) = _
    rw [arrV_new]
    refine congrArg (arrV c N) (funext fun j => ?_)
    simp [va_rf]
  | i + 1 => by
    show (Jvm.Free.Multi.outerC c N h0 i).setSlot i (.ref (h0 + 1 + i)) = _
    rw [vr_outer c N h0 i, arrV_store]
    refine congrArg (arrV c N) (funext fun j => ?_)
    by_cases e : j = i
    · subst e
      simp [updV, va_rf]
    · by_cases h : j < i
      · simp [updV, e, h, Nat.lt_succ_of_lt h]
      · simp [updV, e, h, show ¬ j < i + 1 by omega]
section VGM
variable {p : Program} {l : Launch} {e : Env} {R : Room} {s : State} {m : MethodId} {args : Array Value} {below : List Frame} {meth : Method} {c : Code} {H : Heap} {locs : List Loc} {cells slots : Nat} {Q : State → Prop}
variable {cc : ByteArray} {pc : Nat} {ls : Array Slot} {rest : List Value} {D : va_G} {cl : List vw_C} {A : Nat → Prop} {a : Nat} {tys : List (ClassId × FieldType)} {ws : va_W} {H0 : Heap}
theorem va_mna {X : va_W} {L : List Nat} {f : Nat → va_E} {cc : ByteArray} (hexec : p.tables.exec = Jvm.exec) (hb : c.code = cc) {own : String} {index : Nat} {ty : FieldType} {cy : ClassId} (hown : s.vm.findClass own = some m.cls) (hclink : (Cond.classLink own index ("[" ++ (FieldType.array ty).toString)).before args s = true) (hover : va_AOA ty s) (harr : (Cond.arrayClass ty).before args s = true) (hcy : s.vm.findClass (FieldType.array ty).toString = some cy)
    (hK : va_K D cl tys s) (hP : va_P D cl (X ++ va_pl L f) H) (hD : va_D A (X ++ va_pl L f)) (hS : va_S A H0 H locs) (hA : ∀ q, H0.size ≤ q → A q) {n k : Int32} {N' K' : Nat} {z : vp_A} (hn : ¬ n < 0) (hk : ¬ k < 0) (hN : n.toNatClampNeg = N') (hM : k.toNatClampNeg = K')
    (hb1 : N' * 4 ≤ 536870912) (hb2 : K' * componentBytes ty ≤ 536870912) (hb3 : K' ≤ 536870912) (hdf : fits ty (defaultValue ty) = true) (hdd : (defaultValue ty).isDefault = true) (hcells : cells + (1 + N') ≤ R.cells) (hslots : slots + (N' + N' * K') ≤ R.slots) (hz : ∀ c : ClassId, Jvm.Free.Multi.innerC c K' (defaultValue ty) = vp_cell c z) (hdg : decode cc pc = .ok (.multianewarray index 2, 4))
    (kk : ∀ (q : Nat) (r : Nat → Nat) (cA : ClassId) (H1 : Heap), (∀ i j : Nat, i < N' → j < N' → r i = r j → i = j) → (∀ i : Nat, i < N' → r i ∉ L) → va_K D cl (tys ++ [(cA, .array ty)]) s →
      va_P D cl ((X ++ [(q, .inl (cA, N', .inr (.inr (.inr (.inr (fun i => if i < N' then some (r i) else none))))))]) ++ va_pl (L ++ (List.range N').map r) (vr_up f ((List.range N').map r) (.inl (cy, z)))) H1 → va_D A ((X ++ [(q, .inl (cA, N', .inr (.inr (.inr (.inr (fun i => if i < N' then some (r i) else none))))))]) ++ va_pl (L ++ (List.range N').map r) (vr_up f ((List.range N').map r) (.inl (cy, z)))) → va_S A H0 H1 locs →
      W p l e R s m args below meth c H1 locs (cells + 1 + N') (slots + N' + N' * K') Q (F0 m (pc + 4) ls (.ref q :: rest))) : W p l e R s m args below meth c H locs cells slots Q (F0 m pc ls (.int k :: .int n :: rest)) := by
  subst hN
  subst hM
  intro T hT Xs
  obtain ⟨vm₁, cA, comp, -, fA, fC, hO, -, X', step⟩ := Xs.multianewarray2F hexec hown hclink (va_AOA.use hover) harr (g := F0 m pc ls (.int k :: .int n :: rest)) rfl (by rw [hb]; exact hdg) rfl hn hk hb1 hb2 hb3 hdf hdd hcells hslots
  have ec : some cy = some comp := hcy.symm.trans fC
  cases ec
  generalize hF : Jvm.Free.Multi.fill (T.setVm vm₁) cA cy n.toNatClampNeg k.toNatClampNeg (defaultValue ty) n.toNatClampNeg = F at X' step
  have hTh : (T.setVm vm₁).heap = H := hT
  obtain ⟨f1, f2, -, -⟩ := Jvm.Free.Multi.fill_facts (T.setVm vm₁) cA cy n.toNatClampNeg k.toNatClampNeg (defaultValue ty) n.toNatClampNeg
  rw [hF, hTh] at f1 f2
  have hold : ∀ x : Nat, x < H.size → F.heap[x]? = H[x]? := fun x hx => by
    have := Jvm.Free.Multi.fill_old (T.setVm vm₁) cA cy n.toNatClampNeg k.toNatClampNeg (defaultValue ty) (a := x) (by rw [hTh]; exact hx) n.toNatClampNeg
    rw [hF, hTh] at this
    exact this
  have hrow : ∀ j : Nat, j < n.toNatClampNeg → F.heap[H.size + 1 + j]? = some (vp_cell cy z) := fun j hj => by
    have := Jvm.Free.Multi.fill_inner (T.setVm vm₁) cA cy n.toNatClampNeg k.toNatClampNeg (defaultValue ty) n.toNatClampNeg j hj
    rw [hF, hTh, hz] at this
    exact this
  have hout : Jvm.Free.Multi.outerC cA n.toNatClampNeg H.size n.toNatClampNeg = vp_cell cA (n.toNatClampNeg, .inr (.inr (.inr (.inr (fun i => if i < n.toNatClampNeg then some (H.size + 1 + i) else none))))) := by
    rw [vp_cell_q]
    exact vr_outer cA n.toNatClampNeg H.size n.toNatClampNeg
  rw [hout] at f2
  have hlt : ∀ a, a ∈ L → a < H.size := fun a ha => by
    obtain ⟨k9, hk9⟩ := va_pl_get (X := X) (f := f) ha
    exact (hP k9 _ hk9).lt
  have hnl : ∀ i : Nat, i < n.toNatClampNeg → H.size + 1 + i ∉ L := fun i _ h => by
    have := hlt _ h
    omega
  have hnm : ∀ a, a ∈ (List.range n.toNatClampNeg).map (fun i => H.size + 1 + i) → a ∉ L := fun a ha h => by
    obtain ⟨i, -, rfl⟩ := List.mem_map.mp ha
    have := hlt _ h
    omega
  have hP0 : va_P D cl (X ++ va_pl L f) F.heap := hP.kept (fun k9 x hx => hold x.1 ((hP k9 x hx).lt))
  have hP1 : va_P D cl ((X ++ va_pl L f) ++ [(H.size, .inl (cA, n.toNatClampNeg, .inr (.inr (.inr (.inr (fun i => if i < n.toNatClampNeg then some (H.size + 1 + i) else none))))))]) F.heap := hP0.app (fun k9 x hx => by
    have h0 : k9 < 1 := (List.getElem?_eq_some_iff.mp hx).1
    rw [show k9 = 0 by omega] at hx
    cases hx
    exact f2)
  have hP2 : va_P D cl (((X ++ va_pl L f) ++ [(H.size, .inl (cA, n.toNatClampNeg, .inr (.inr (.inr (.inr (fun i => if i < n.toNatClampNeg then some (H.size + 1 + i) else none))))))]) ++ ((List.range n.toNatClampNeg).map (fun i => H.size + 1 + i)).map (fun a => (a, .inl (cy, z)))) F.heap := hP1.app (fun k9 x hx => by
    obtain ⟨a, ha, rfl⟩ := List.mem_map.mp (List.mem_of_getElem? hx)
    obtain ⟨i, hi, rfl⟩ := List.mem_map.mp ha
    exact hrow i (List.mem_range.mp hi))
  have hD2 : va_D A (((X ++ va_pl L f) ++ [(H.size, .inl (cA, n.toNatClampNeg, .inr (.inr (.inr (.inr (fun i => if i < n.toNatClampNeg then some (H.size + 1 + i) else none))))))]) ++ ((List.range n.toNatClampNeg).map (fun i => H.size + 1 + i)).map (fun a => (a, .inl (cy, z)))) := by
    have hD1 := hD.push (e := .inl (cA, n.toNatClampNeg, .inr (.inr (.inr (.inr (fun i => if i < n.toNatClampNeg then some (H.size + 1 + i) else none)))))) hP rfl (hA _ hS.1)
    generalize hW1 : (X ++ va_pl L f) ++ [(H.size, .inl (cA, n.toNatClampNeg, .inr (.inr (.inr (.inr (fun i => if i < n.toNatClampNeg then some (H.size + 1 + i) else none))))))] = W1 at hD1 hP1 ⊢
    have hle : ∀ (k9 : Nat) (x : Nat × va_E), W1[k9]? = some x → x.1 ≤ H.size := fun k9 x hx => by
      rw [← hW1] at hx
      by_cases hl : k9 < (X ++ va_pl L f).length
      · rw [List.getElem?_append_left hl] at hx
        exact Nat.le_of_lt ((hP k9 x hx).lt)
      · rw [List.getElem?_append_right (by omega)] at hx
        have h0 : k9 - (X ++ va_pl L f).length < 1 := (List.getElem?_eq_some_iff.mp hx).1
        rw [show k9 - (X ++ va_pl L f).length = 0 by omega] at hx
        cases hx
        exact Nat.le_refl _
    have hr : ∀ (k9 : Nat) (x : Nat × va_E), (((List.range n.toNatClampNeg).map (fun i => H.size + 1 + i)).map (fun a => ((a, .inl (cy, z)) : Nat × va_E)))[k9]? = some x → x.1 = H.size + 1 + k9 := fun k9 x hx => by
      rw [List.getElem?_map, List.getElem?_map] at hx
      by_cases h9 : k9 < n.toNatClampNeg
      · rw [List.getElem?_range h9] at hx
        cases hx
        rfl
      · have hn0 : (List.range n.toNatClampNeg)[k9]? = none := List.getElem?_eq_none (by rw [List.length_range]; omega)
        rw [hn0] at hx
        cases hx
    refine ⟨fun i j x y hi hj hxy => ?_, fun k9 x hx => ?_⟩
    · by_cases h1 : i < W1.length <;> by_cases h2 : j < W1.length
      · rw [List.getElem?_append_left h1] at hi
        rw [List.getElem?_append_left h2] at hj
        exact hD1.1 i j x y hi hj hxy
      · rw [List.getElem?_append_left h1] at hi
        rw [List.getElem?_append_right (by omega)] at hj
        have := hle _ _ hi
        have := hr _ _ hj
        omega
      · rw [List.getElem?_append_right (by omega)] at hi
        rw [List.getElem?_append_left h2] at hj
        have := hle _ _ hj
        have := hr _ _ hi
        omega
      · rw [List.getElem?_append_right (by omega)] at hi hj
        have := hr _ _ hi
        have := hr _ _ hj
        omega
    · by_cases h1 : k9 < W1.length
      · rw [List.getElem?_append_left h1] at hx
        exact hD1.2 k9 x hx
      · rw [List.getElem?_append_right (by omega)] at hx
        have := hr _ _ hx
        exact hA _ (by have := hS.1; omega)
  have hAr : ArrOfT s cA (.array ty) := fun N9 z9 => by
    obtain ⟨-, k9, hk9, cm9, hkk9⟩ := (hO 0 0 0).1
    exact ⟨(fun q hq => by cases hq), k9, hk9, cm9, hkk9⟩
  have hK2 : va_K D cl (tys ++ [(cA, .array ty)]) s := ⟨hK.1, fun k9 x hx => by
    by_cases hl : k9 < tys.length
    · rw [List.getElem?_append_left hl] at hx
      exact hK.2 k9 x hx
    · rw [List.getElem?_append_right (by omega)] at hx
      have h0 : k9 - tys.length < 1 := (List.getElem?_eq_some_iff.mp hx).1
      rw [show k9 - tys.length = 0 by omega] at hx
      cases hx
      exact ⟨hAr, fA⟩⟩
  obtain ⟨t, a1, b1⟩ := kk H.size (fun i => H.size + 1 + i) cA F.heap (fun i j _ _ h => by have h9 : H.size + 1 + i = H.size + 1 + j := h; omega) hnl hK2 (by rw [← vr_rows hnm]; exact vr_lay hP2) (by rw [← vr_rows hnm]; exact vr_layD hD2) ⟨by rw [f1]; have := hS.1; omega, fun x h1 h2 => (hold x (Nat.lt_of_lt_of_le h1 hS.1)).trans (hS.2.1 x h1 h2), hS.2.2⟩ F rfl X'
  refine ⟨t, step t ?_, b1⟩
  have e : T.heap.size = H.size := by rw [hT]
  rw [e]
  exact a1
end VGM
/-! ===== END ===== -/

def RX0 : String := "VarveClock$Core"
def TX0 : u_T := fun k => match k with
  | 0 => ("VarveClock$Core", "thickness", "[I", true)
  | 1 => ("VarveClock$Core", "kind", "[I", true)
  | 2 => ("VarveClock$Core", "missing", "[I", true)
  | 3 => ("VarveClock$Core", "place", "[I", true)
  | 4 => ("VarveClock$Core", "ashAge", "[I", true)
  | 5 => ("VarveClock$Core", "uncertainty", "[I", true)
  | 6 => ("VarveClock$Core", "setting", "[I", true)
  | 7 => ("VarveClock$Core", "layers", "I", false)
  | _ => ("VarveClock$Core", "ashes", "I", false)
def tyX0 : Nat → FieldType := fun k => match k with
  | 0 => .array .int
  | 1 => .array .int
  | 2 => .array .int
  | 3 => .array .int
  | 4 => .array .int
  | 5 => .array .int
  | 6 => .array .int
  | 7 => .int
  | _ => .int
abbrev wsX00 : List Cond := u_ws RX0 TX0 9
theorem nmX0 : ∀ a, a < 9 → ∀ b, b < 9 → a ≠ b → (TX0 a).2.1 ≠ (TX0 b).2.1 := by decide +kernel
theorem tyX0_ok : ∀ k, k < 9 → parseFieldDescriptor (TX0 k).2.2.1 = some (tyX0 k) := by decide +kernel
abbrev cX0_init : ByteArray := prog_2_method_1_code
def yX0_init : MethodName := ⟨RX0, "<init>", "()V"⟩
abbrev cX0_empty : ByteArray := prog_2_method_2_code
def yX0_empty : MethodName := ⟨RX0, "empty", "()V"⟩
abbrev cX0_takeAll : ByteArray := prog_2_method_3_code
def yX0_takeAll : MethodName := ⟨RX0, "takeAll", "(LVarveClock$Core;)V"⟩
abbrev cX0_takeLayersAndAshes : ByteArray := prog_2_method_4_code
def yX0_takeLayersAndAshes : MethodName := ⟨RX0, "takeLayersAndAshes", "(LVarveClock$Core;)V"⟩
abbrev cX0_layerProperties : ByteArray := prog_2_method_5_code
def yX0_layerProperties : MethodName := ⟨RX0, "layerProperties", "(I)[I"⟩
abbrev cX0_ashProperties : ByteArray := prog_2_method_6_code
def yX0_ashProperties : MethodName := ⟨RX0, "ashProperties", "(I)[I"⟩
abbrev cX0_insertLayer : ByteArray := prog_2_method_7_code
def yX0_insertLayer : MethodName := ⟨RX0, "insertLayer", "(IIII)V"⟩
abbrev cX0_deleteLayer : ByteArray := prog_2_method_8_code
def yX0_deleteLayer : MethodName := ⟨RX0, "deleteLayer", "(I)V"⟩
abbrev cX0_insertAsh : ByteArray := prog_2_method_9_code
def yX0_insertAsh : MethodName := ⟨RX0, "insertAsh", "(III)I"⟩
abbrev cX0_deleteAsh : ByteArray := prog_2_method_10_code
def yX0_deleteAsh : MethodName := ⟨RX0, "deleteAsh", "(I)V"⟩
abbrev cX0_ashAt : ByteArray := prog_2_method_11_code
def yX0_ashAt : MethodName := ⟨RX0, "ashAt", "(I)I"⟩
abbrev cX0_thicknessBetween : ByteArray := prog_2_method_12_code
def yX0_thicknessBetween : MethodName := ⟨RX0, "thicknessBetween", "(II)I"⟩
abbrev cX0_layersOfKind : ByteArray := prog_2_method_13_code
def yX0_layersOfKind : MethodName := ⟨RX0, "layersOfKind", "(I)I"⟩
abbrev cX0_leastOwn : ByteArray := prog_2_method_14_code
def yX0_leastOwn : MethodName := ⟨RX0, "leastOwn", "(I)I"⟩
abbrev cX0_mostOwn : ByteArray := prog_2_method_15_code
def yX0_mostOwn : MethodName := ⟨RX0, "mostOwn", "(I)I"⟩
abbrev cX0_mostYears : ByteArray := prog_2_method_16_code
def yX0_mostYears : MethodName := ⟨RX0, "mostYears", "(I)I"⟩
abbrev cX0_ownCost : ByteArray := prog_2_method_17_code
def yX0_ownCost : MethodName := ⟨RX0, "ownCost", "(II)I"⟩
abbrev cX0_missingCost : ByteArray := prog_2_method_18_code
def yX0_missingCost : MethodName := ⟨RX0, "missingCost", "(I)I"⟩
abbrev cX0_ashCost : ByteArray := prog_2_method_19_code
def yX0_ashCost : MethodName := ⟨RX0, "ashCost", "(II)I"⟩
abbrev cX0_fitsWith : ByteArray := prog_2_method_20_code
def yX0_fitsWith : MethodName := ⟨RX0, "fitsWith", "(I)Z"⟩
abbrev cX0_insertAt : ByteArray := prog_2_method_21_code
def yX0_insertAt : MethodName := ⟨RX0, "insertAt", "([IIII)V"⟩
abbrev cX0_deleteAt : ByteArray := prog_2_method_22_code
def yX0_deleteAt : MethodName := ⟨RX0, "deleteAt", "([III)V"⟩
def RX1 : String := "VarveClock$History"
def TX1 : u_T := fun k => match k with
  | 0 => ("VarveClock$History", "states", "[LVarveClock$Core;", true)
  | 1 => ("VarveClock$History", "next", "I", false)
  | _ => ("VarveClock$History", "size", "I", false)
def tyX1 : Nat → FieldType := fun k => match k with
  | 0 => .array (.object "VarveClock$Core")
  | 1 => .int
  | _ => .int
abbrev wsX10 : List Cond := u_ws RX1 TX1 3
theorem nmX1 : ∀ a, a < 3 → ∀ b, b < 3 → a ≠ b → (TX1 a).2.1 ≠ (TX1 b).2.1 := by decide +kernel
theorem tyX1_ok : ∀ k, k < 3 → parseFieldDescriptor (TX1 k).2.2.1 = some (tyX1 k) := by decide +kernel
abbrev cX1_init : ByteArray := prog_3_method_1_code
def yX1_init : MethodName := ⟨RX1, "<init>", "()V"⟩
abbrev cX1_keep : ByteArray := prog_3_method_2_code
def yX1_keep : MethodName := ⟨RX1, "keep", "(LVarveClock$Core;)V"⟩
abbrev cX1_restore : ByteArray := prog_3_method_3_code
def yX1_restore : MethodName := ⟨RX1, "restore", "(LVarveClock$Core;)V"⟩
def RX2 : String := "VarveClock$Reckoning"
def TX2 : u_T := fun k => match k with
  | 0 => ("VarveClock$Reckoning", "core", "LVarveClock$Core;", true)
  | 1 => ("VarveClock$Reckoning", "above", "[[I", true)
  | 2 => ("VarveClock$Reckoning", "below", "[[I", true)
  | 3 => ("VarveClock$Reckoning", "withAsh", "[I", true)
  | 4 => ("VarveClock$Reckoning", "withOwn", "[I", true)
  | 5 => ("VarveClock$Reckoning", "queue", "[I", true)
  | 6 => ("VarveClock$Reckoning", "waysHere", "[I", true)
  | 7 => ("VarveClock$Reckoning", "waysNext", "[I", true)
  | 8 => ("VarveClock$Reckoning", "bestOwn", "[I", true)
  | 9 => ("VarveClock$Reckoning", "bestMissing", "[I", true)
  | 10 => ("VarveClock$Reckoning", "bestAge", "[I", true)
  | 11 => ("VarveClock$Reckoning", "oldest", "I", false)
  | 12 => ("VarveClock$Reckoning", "belowStands", "Z", false)
  | 13 => ("VarveClock$Reckoning", "aboveStands", "Z", false)
  | _ => ("VarveClock$Reckoning", "knownWays", "I", false)
def tyX2 : Nat → FieldType := fun k => match k with
  | 0 => .object "VarveClock$Core"
  | 1 => .array (.array .int)
  | 2 => .array (.array .int)
  | 3 => .array .int
  | 4 => .array .int
  | 5 => .array .int
  | 6 => .array .int
  | 7 => .array .int
  | 8 => .array .int
  | 9 => .array .int
  | 10 => .array .int
  | 11 => .int
  | 12 => .boolean
  | 13 => .boolean
  | _ => .int
abbrev wsX20 : List Cond := u_ws RX2 TX2 15
theorem nmX2 : ∀ a, a < 15 → ∀ b, b < 15 → a ≠ b → (TX2 a).2.1 ≠ (TX2 b).2.1 := by decide +kernel
theorem tyX2_ok : ∀ k, k < 15 → parseFieldDescriptor (TX2 k).2.2.1 = some (tyX2 k) := by decide +kernel
abbrev cX2_init : ByteArray := prog_4_method_1_code
def yX2_init : MethodName := ⟨RX2, "<init>", "(LVarveClock$Core;)V"⟩
abbrev cX2_forget : ByteArray := prog_4_method_2_code
def yX2_forget : MethodName := ⟨RX2, "forget", "()V"⟩
abbrev cX2_hasCount : ByteArray := prog_4_method_3_code
def yX2_hasCount : MethodName := ⟨RX2, "hasCount", "()Z"⟩
abbrev cX2_leastCost : ByteArray := prog_4_method_4_code
def yX2_leastCost : MethodName := ⟨RX2, "leastCost", "()I"⟩
abbrev cX2_offsetOf : ByteArray := prog_4_method_5_code
def yX2_offsetOf : MethodName := ⟨RX2, "offsetOf", "(I)I"⟩
abbrev cX2_layersWith : ByteArray := prog_4_method_6_code
def yX2_layersWith : MethodName := ⟨RX2, "layersWith", "(II)I"⟩
abbrev cX2_allMissing : ByteArray := prog_4_method_7_code
def yX2_allMissing : MethodName := ⟨RX2, "allMissing", "()I"⟩
abbrev cX2_allOffsets : ByteArray := prog_4_method_8_code
def yX2_allOffsets : MethodName := ⟨RX2, "allOffsets", "()I"⟩
abbrev cX2_leastWithoutAsh : ByteArray := prog_4_method_9_code
def yX2_leastWithoutAsh : MethodName := ⟨RX2, "leastWithoutAsh", "(I)I"⟩
abbrev cX2_leastWithAsh : ByteArray := prog_4_method_10_code
def yX2_leastWithAsh : MethodName := ⟨RX2, "leastWithAsh", "(III)I"⟩
abbrev cX2_leastAge : ByteArray := prog_4_method_11_code
def yX2_leastAge : MethodName := ⟨RX2, "leastAge", "(II)I"⟩
abbrev cX2_greatestAge : ByteArray := prog_4_method_12_code
def yX2_greatestAge : MethodName := ⟨RX2, "greatestAge", "(II)I"⟩
abbrev cX2_costThrough : ByteArray := prog_4_method_13_code
def yX2_costThrough : MethodName := ⟨RX2, "costThrough", "(II)I"⟩
abbrev cX2_numberOfWays : ByteArray := prog_4_method_14_code
def yX2_numberOfWays : MethodName := ⟨RX2, "numberOfWays", "()I"⟩
abbrev cX2_countWays : ByteArray := prog_4_method_15_code
def yX2_countWays : MethodName := ⟨RX2, "countWays", "()I"⟩
abbrev cX2_handOnWays : ByteArray := prog_4_method_16_code
def yX2_handOnWays : MethodName := ⟨RX2, "handOnWays", "(II)V"⟩
abbrev cX2_makeBelow : ByteArray := prog_4_method_17_code
def yX2_makeBelow : MethodName := ⟨RX2, "makeBelow", "()V"⟩
abbrev cX2_makeAbove : ByteArray := prog_4_method_18_code
def yX2_makeAbove : MethodName := ⟨RX2, "makeAbove", "()V"⟩
abbrev cX2_clearRow : ByteArray := prog_4_method_19_code
def yX2_clearRow : MethodName := ⟨RX2, "clearRow", "([II)V"⟩
abbrev cX2_addAshCosts : ByteArray := prog_4_method_20_code
def yX2_addAshCosts : MethodName := ⟨RX2, "addAshCosts", "(I[I)V"⟩
abbrev cX2_addOwnCosts : ByteArray := prog_4_method_21_code
def yX2_addOwnCosts : MethodName := ⟨RX2, "addOwnCosts", "(IZ)V"⟩
abbrev cX2_addMissingCosts : ByteArray := prog_4_method_22_code
def yX2_addMissingCosts : MethodName := ⟨RX2, "addMissingCosts", "(IZ[I)V"⟩
abbrev cX2_costFrom : ByteArray := prog_4_method_23_code
def yX2_costFrom : MethodName := ⟨RX2, "costFrom", "(IIZ)I"⟩
abbrev cX2_followBest : ByteArray := prog_4_method_24_code
def yX2_followBest : MethodName := ⟨RX2, "followBest", "()V"⟩
abbrev cX2_chooseYears : ByteArray := prog_4_method_25_code
def yX2_chooseYears : MethodName := ⟨RX2, "chooseYears", "(II)V"⟩
def RX3 : String := "VarveClock$Script"
def TX3 : u_T := fun k => match k with
  | 0 => ("VarveClock$Script", "signs", "[C", true)
  | 1 => ("VarveClock$Script", "draft", "LVarveClock$Core;", true)
  | 2 => ("VarveClock$Script", "length", "I", false)
  | _ => ("VarveClock$Script", "at", "I", false)
def tyX3 : Nat → FieldType := fun k => match k with
  | 0 => .array .char
  | 1 => .object "VarveClock$Core"
  | 2 => .int
  | _ => .int
abbrev wsX30 : List Cond := u_ws RX3 TX3 4
theorem nmX3 : ∀ a, a < 4 → ∀ b, b < 4 → a ≠ b → (TX3 a).2.1 ≠ (TX3 b).2.1 := by decide +kernel
theorem tyX3_ok : ∀ k, k < 4 → parseFieldDescriptor (TX3 k).2.2.1 = some (tyX3 k) := by decide +kernel
abbrev cX3_init : ByteArray := prog_5_method_1_code
def yX3_init : MethodName := ⟨RX3, "<init>", "()V"⟩
abbrev cX3_append : ByteArray := prog_5_method_2_code
def yX3_append : MethodName := ⟨RX3, "append", "(C)V"⟩
abbrev cX3_read : ByteArray := prog_5_method_3_code
def yX3_read : MethodName := ⟨RX3, "read", "()I"⟩
abbrev cX3_readCommand : ByteArray := prog_5_method_4_code
def yX3_readCommand : MethodName := ⟨RX3, "readCommand", "()Z"⟩
abbrev cX3_readLayer : ByteArray := prog_5_method_5_code
def yX3_readLayer : MethodName := ⟨RX3, "readLayer", "(I)Z"⟩
abbrev cX3_readGap : ByteArray := prog_5_method_6_code
def yX3_readGap : MethodName := ⟨RX3, "readGap", "()Z"⟩
abbrev cX3_readAsh : ByteArray := prog_5_method_7_code
def yX3_readAsh : MethodName := ⟨RX3, "readAsh", "()Z"⟩
abbrev cX3_skipWord : ByteArray := prog_5_method_8_code
def yX3_skipWord : MethodName := ⟨RX3, "skipWord", "(Ljava/lang/String;)Z"⟩
abbrev cX3_readNumber : ByteArray := prog_5_method_9_code
def yX3_readNumber : MethodName := ⟨RX3, "readNumber", "(C)I"⟩
def RX4 : String := "VarveClock"
def TX4 : u_T := fun k => match k with
  | 0 => ("VarveClock", "core", "LVarveClock$Core;", true)
  | 1 => ("VarveClock", "history", "LVarveClock$History;", true)
  | 2 => ("VarveClock", "script", "LVarveClock$Script;", true)
  | _ => ("VarveClock", "reckoning", "LVarveClock$Reckoning;", true)
def tyX4 : Nat → FieldType := fun k => match k with
  | 0 => .object "VarveClock$Core"
  | 1 => .object "VarveClock$History"
  | 2 => .object "VarveClock$Script"
  | _ => .object "VarveClock$Reckoning"
abbrev wsX40 : List Cond := u_ws RX4 TX4 4
theorem nmX4 : ∀ a, a < 4 → ∀ b, b < 4 → a ≠ b → (TX4 a).2.1 ≠ (TX4 b).2.1 := by decide +kernel
theorem tyX4_ok : ∀ k, k < 4 → parseFieldDescriptor (TX4 k).2.2.1 = some (tyX4 k) := by decide +kernel
abbrev cX4_init : ByteArray := prog_1_method_1_code
def yX4_init : MethodName := ⟨RX4, "<init>", "()V"⟩
abbrev cX4_addLayer : ByteArray := prog_1_method_2_code
def yX4_addLayer : MethodName := ⟨RX4, "addLayer", "(IIII)I"⟩
abbrev cX4_removeLayer : ByteArray := prog_1_method_3_code
def yX4_removeLayer : MethodName := ⟨RX4, "removeLayer", "(I)I"⟩
abbrev cX4_setLayer : ByteArray := prog_1_method_4_code
def yX4_setLayer : MethodName := ⟨RX4, "setLayer", "(III)I"⟩
abbrev cX4_addAsh : ByteArray := prog_1_method_5_code
def yX4_addAsh : MethodName := ⟨RX4, "addAsh", "(III)I"⟩
abbrev cX4_removeAsh : ByteArray := prog_1_method_6_code
def yX4_removeAsh : MethodName := ⟨RX4, "removeAsh", "(I)I"⟩
abbrev cX4_set : ByteArray := prog_1_method_7_code
def yX4_set : MethodName := ⟨RX4, "set", "(II)I"⟩
abbrev cX4_lay : ByteArray := prog_1_method_8_code
def yX4_lay : MethodName := ⟨RX4, "lay", "()I"⟩
abbrev cX4_undo : ByteArray := prog_1_method_9_code
def yX4_undo : MethodName := ⟨RX4, "undo", "()I"⟩
abbrev cX4_count : ByteArray := prog_1_method_10_code
def yX4_count : MethodName := ⟨RX4, "count", "(I)I"⟩
abbrev cX4_layer : ByteArray := prog_1_method_11_code
def yX4_layer : MethodName := ⟨RX4, "layer", "(II)I"⟩
abbrev cX4_ash : ByteArray := prog_1_method_12_code
def yX4_ash : MethodName := ⟨RX4, "ash", "(II)I"⟩
abbrev cX4_cost : ByteArray := prog_1_method_13_code
def yX4_cost : MethodName := ⟨RX4, "cost", "()I"⟩
abbrev cX4_years : ByteArray := prog_1_method_14_code
def yX4_years : MethodName := ⟨RX4, "years", "(II)I"⟩
abbrev cX4_age : ByteArray := prog_1_method_15_code
def yX4_age : MethodName := ⟨RX4, "age", "(I)I"⟩
abbrev cX4_offset : ByteArray := prog_1_method_16_code
def yX4_offset : MethodName := ⟨RX4, "offset", "(I)I"⟩
abbrev cX4_total : ByteArray := prog_1_method_17_code
def yX4_total : MethodName := ⟨RX4, "total", "(I)I"⟩
abbrev cX4_ways : ByteArray := prog_1_method_18_code
def yX4_ways : MethodName := ⟨RX4, "ways", "()I"⟩
abbrev cX4_rate : ByteArray := prog_1_method_19_code
def yX4_rate : MethodName := ⟨RX4, "rate", "(III)I"⟩
abbrev cX4_bound : ByteArray := prog_1_method_20_code
def yX4_bound : MethodName := ⟨RX4, "bound", "(III)I"⟩
abbrev cX4_without : ByteArray := prog_1_method_21_code
def yX4_without : MethodName := ⟨RX4, "without", "(I)I"⟩
abbrev cX4_widen : ByteArray := prog_1_method_22_code
def yX4_widen : MethodName := ⟨RX4, "widen", "()I"⟩
abbrev cX4_costWith : ByteArray := prog_1_method_23_code
def yX4_costWith : MethodName := ⟨RX4, "costWith", "(III)I"⟩
abbrev cX4_type : ByteArray := prog_1_method_24_code
def yX4_type : MethodName := ⟨RX4, "type", "(I)I"⟩
abbrev cX4_clearText : ByteArray := prog_1_method_25_code
def yX4_clearText : MethodName := ⟨RX4, "clearText", "()I"⟩
abbrev cX4_fault : ByteArray := prog_1_method_26_code
def yX4_fault : MethodName := ⟨RX4, "fault", "()I"⟩
abbrev cX4_beginChange : ByteArray := prog_1_method_27_code
def yX4_beginChange : MethodName := ⟨RX4, "beginChange", "()V"⟩
abbrev cX4_isLayer : ByteArray := prog_1_method_28_code
def yX4_isLayer : MethodName := ⟨RX4, "isLayer", "(I)Z"⟩
abbrev cX4_isPlace : ByteArray := prog_1_method_29_code
def yX4_isPlace : MethodName := ⟨RX4, "isPlace", "(I)Z"⟩
abbrev cX4_isAsh : ByteArray := prog_1_method_30_code
def yX4_isAsh : MethodName := ⟨RX4, "isAsh", "(I)Z"⟩
abbrev cX4_isAshOfRange : ByteArray := prog_1_method_31_code
def yX4_isAshOfRange : MethodName := ⟨RX4, "isAshOfRange", "(III)Z"⟩
abbrev cX4_isWithin : ByteArray := prog_1_method_32_code
def yX4_isWithin : MethodName := ⟨RX4, "isWithin", "(III)Z"⟩
abbrev cX4_leastProperty : ByteArray := prog_1_method_33_code
def yX4_leastProperty : MethodName := ⟨RX4, "leastProperty", "(I)I"⟩
abbrev cX4_mostProperty : ByteArray := prog_1_method_34_code
def yX4_mostProperty : MethodName := ⟨RX4, "mostProperty", "(I)I"⟩
abbrev cX4_costOrNotFound : ByteArray := prog_1_method_35_code
def yX4_costOrNotFound : MethodName := ⟨RX4, "costOrNotFound", "(I)I"⟩
abbrev cX4_greatestDivisor : ByteArray := prog_1_method_36_code
def yX4_greatestDivisor : MethodName := ⟨RX4, "greatestDivisor", "(II)I"⟩
def RX5 : String := "VarveClockModel"
def TX5 : u_T := fun k => match k with
  | 0 => ("VarveClockModel", "d", "[I", true)
  | 1 => ("VarveClockModel", "was", "[I", true)
  | 2 => ("VarveClockModel", "states", "I", false)
  | 3 => ("VarveClockModel", "text", "[C", true)
  | 4 => ("VarveClockModel", "typed", "I", false)
  | 5 => ("VarveClockModel", "at", "I", false)
  | 6 => ("VarveClockModel", "draft", "[I", true)
  | 7 => ("VarveClockModel", "rest", "[I", true)
  | 8 => ("VarveClockModel", "other", "[I", true)
  | 9 => ("VarveClockModel", "left", "I", false)
  | 10 => ("VarveClockModel", "morePlace", "I", false)
  | 11 => ("VarveClockModel", "moreAge", "I", false)
  | 12 => ("VarveClockModel", "moreUnsure", "I", false)
  | 13 => ("VarveClockModel", "wider", "I", false)
  | 14 => ("VarveClockModel", "own", "[I", true)
  | 15 => ("VarveClockModel", "gaps", "[I", true)
  | _ => ("VarveClockModel", "ages", "[I", true)
def tyX5 : Nat → FieldType := fun k => match k with
  | 0 => .array .int
  | 1 => .array .int
  | 2 => .int
  | 3 => .array .char
  | 4 => .int
  | 5 => .int
  | 6 => .array .int
  | 7 => .array .int
  | 8 => .array .int
  | 9 => .int
  | 10 => .int
  | 11 => .int
  | 12 => .int
  | 13 => .int
  | 14 => .array .int
  | 15 => .array .int
  | _ => .array .int
abbrev wsX50 : List Cond := u_ws RX5 TX5 17
theorem nmX5 : ∀ a, a < 17 → ∀ b, b < 17 → a ≠ b → (TX5 a).2.1 ≠ (TX5 b).2.1 := by decide +kernel
theorem tyX5_ok : ∀ k, k < 17 → parseFieldDescriptor (TX5 k).2.2.1 = some (tyX5 k) := by decide +kernel
abbrev cX5_init : ByteArray := prog_7_method_1_code
def yX5_init : MethodName := ⟨RX5, "<init>", "()V"⟩
abbrev cX5_in : ByteArray := prog_7_method_2_code
def yX5_in : MethodName := ⟨RX5, "in", "(III)Z"⟩
abbrev cX5_isLayer : ByteArray := prog_7_method_3_code
def yX5_isLayer : MethodName := ⟨RX5, "isLayer", "(I)Z"⟩
abbrev cX5_isPlace : ByteArray := prog_7_method_4_code
def yX5_isPlace : MethodName := ⟨RX5, "isPlace", "(I)Z"⟩
abbrev cX5_isAsh : ByteArray := prog_7_method_5_code
def yX5_isAsh : MethodName := ⟨RX5, "isAsh", "(I)Z"⟩
abbrev cX5_records : ByteArray := prog_7_method_6_code
def yX5_records : MethodName := ⟨RX5, "records", "()V"⟩
abbrev cX5_copies : ByteArray := prog_7_method_7_code
def yX5_copies : MethodName := ⟨RX5, "copies", "(II)V"⟩
abbrev cX5_addLayer : ByteArray := prog_7_method_8_code
def yX5_addLayer : MethodName := ⟨RX5, "addLayer", "(IIII)I"⟩
abbrev cX5_drops : ByteArray := prog_7_method_9_code
def yX5_drops : MethodName := ⟨RX5, "drops", "(I)V"⟩
abbrev cX5_ashAt : ByteArray := prog_7_method_10_code
def yX5_ashAt : MethodName := ⟨RX5, "ashAt", "(I)I"⟩
abbrev cX5_removeLayer : ByteArray := prog_7_method_11_code
def yX5_removeLayer : MethodName := ⟨RX5, "removeLayer", "(I)I"⟩
abbrev cX5_setLayer : ByteArray := prog_7_method_12_code
def yX5_setLayer : MethodName := ⟨RX5, "setLayer", "(III)I"⟩
abbrev cX5_isNewAsh : ByteArray := prog_7_method_13_code
def yX5_isNewAsh : MethodName := ⟨RX5, "isNewAsh", "(III)Z"⟩
abbrev cX5_addAsh : ByteArray := prog_7_method_14_code
def yX5_addAsh : MethodName := ⟨RX5, "addAsh", "(III)I"⟩
abbrev cX5_removeAsh : ByteArray := prog_7_method_15_code
def yX5_removeAsh : MethodName := ⟨RX5, "removeAsh", "(I)I"⟩
abbrev cX5_set : ByteArray := prog_7_method_16_code
def yX5_set : MethodName := ⟨RX5, "set", "(II)I"⟩
abbrev cX5_undo : ByteArray := prog_7_method_17_code
def yX5_undo : MethodName := ⟨RX5, "undo", "()I"⟩
abbrev cX5_thickness : ByteArray := prog_7_method_18_code
def yX5_thickness : MethodName := ⟨RX5, "thickness", "(II)I"⟩
abbrev cX5_ofKind : ByteArray := prog_7_method_19_code
def yX5_ofKind : MethodName := ⟨RX5, "ofKind", "(I)I"⟩
abbrev cX5_count : ByteArray := prog_7_method_20_code
def yX5_count : MethodName := ⟨RX5, "count", "(I)I"⟩
abbrev cX5_layer : ByteArray := prog_7_method_21_code
def yX5_layer : MethodName := ⟨RX5, "layer", "(II)I"⟩
abbrev cX5_ash : ByteArray := prog_7_method_22_code
def yX5_ash : MethodName := ⟨RX5, "ash", "(II)I"⟩
abbrev cX5_offCost : ByteArray := prog_7_method_23_code
def yX5_offCost : MethodName := ⟨RX5, "offCost", "(III)I"⟩
abbrev cX5_ashCost : ByteArray := prog_7_method_24_code
def yX5_ashCost : MethodName := ⟨RX5, "ashCost", "(II)I"⟩
abbrev cX5_leastOwn : ByteArray := prog_7_method_25_code
def yX5_leastOwn : MethodName := ⟨RX5, "leastOwn", "(I)I"⟩
abbrev cX5_mostOwn : ByteArray := prog_7_method_26_code
def yX5_mostOwn : MethodName := ⟨RX5, "mostOwn", "(I)I"⟩
abbrev cX5_yearsCost : ByteArray := prog_7_method_27_code
def yX5_yearsCost : MethodName := ⟨RX5, "yearsCost", "(III)I"⟩
abbrev cX5_plain : ByteArray := prog_7_method_28_code
def yX5_plain : MethodName := ⟨RX5, "plain", "()V"⟩
abbrev cX5_solves : ByteArray := prog_7_method_29_code
def yX5_solves : MethodName := ⟨RX5, "solves", "()I"⟩
abbrev cX5_counts : ByteArray := prog_7_method_30_code
def yX5_counts : MethodName := ⟨RX5, "counts", "()Z"⟩
abbrev cX5_cost : ByteArray := prog_7_method_31_code
def yX5_cost : MethodName := ⟨RX5, "cost", "()I"⟩
abbrev cX5_years : ByteArray := prog_7_method_32_code
def yX5_years : MethodName := ⟨RX5, "years", "(II)I"⟩
abbrev cX5_age : ByteArray := prog_7_method_33_code
def yX5_age : MethodName := ⟨RX5, "age", "(I)I"⟩
abbrev cX5_offset : ByteArray := prog_7_method_34_code
def yX5_offset : MethodName := ⟨RX5, "offset", "(I)I"⟩
abbrev cX5_total : ByteArray := prog_7_method_35_code
def yX5_total : MethodName := ⟨RX5, "total", "(I)I"⟩
abbrev cX5_ways : ByteArray := prog_7_method_36_code
def yX5_ways : MethodName := ⟨RX5, "ways", "()I"⟩
abbrev cX5_rate : ByteArray := prog_7_method_37_code
def yX5_rate : MethodName := ⟨RX5, "rate", "(III)I"⟩
abbrev cX5_falls : ByteArray := prog_7_method_38_code
def yX5_falls : MethodName := ⟨RX5, "falls", "(I)V"⟩
abbrev cX5_bound : ByteArray := prog_7_method_39_code
def yX5_bound : MethodName := ⟨RX5, "bound", "(III)I"⟩
abbrev cX5_without : ByteArray := prog_7_method_40_code
def yX5_without : MethodName := ⟨RX5, "without", "(I)I"⟩
abbrev cX5_widen : ByteArray := prog_7_method_41_code
def yX5_widen : MethodName := ⟨RX5, "widen", "()I"⟩
abbrev cX5_costWith : ByteArray := prog_7_method_42_code
def yX5_costWith : MethodName := ⟨RX5, "costWith", "(III)I"⟩
abbrev cX5_type : ByteArray := prog_7_method_43_code
def yX5_type : MethodName := ⟨RX5, "type", "(I)I"⟩
abbrev cX5_clearText : ByteArray := prog_7_method_44_code
def yX5_clearText : MethodName := ⟨RX5, "clearText", "()I"⟩
abbrev cX5_signAt : ByteArray := prog_7_method_45_code
def yX5_signAt : MethodName := ⟨RX5, "signAt", "(I)I"⟩
abbrev cX5_isWord : ByteArray := prog_7_method_46_code
def yX5_isWord : MethodName := ⟨RX5, "isWord", "(IIIII)Z"⟩
abbrev cX5_number : ByteArray := prog_7_method_47_code
def yX5_number : MethodName := ⟨RX5, "number", "(II)I"⟩
abbrev cX5_passes : ByteArray := prog_7_method_48_code
def yX5_passes : MethodName := ⟨RX5, "passes", "(I)Z"⟩
abbrev cX5_readsLayer : ByteArray := prog_7_method_49_code
def yX5_readsLayer : MethodName := ⟨RX5, "readsLayer", "(I)Z"⟩
abbrev cX5_readsAsh : ByteArray := prog_7_method_50_code
def yX5_readsAsh : MethodName := ⟨RX5, "readsAsh", "()Z"⟩
abbrev cX5_readsGap : ByteArray := prog_7_method_51_code
def yX5_readsGap : MethodName := ⟨RX5, "readsGap", "()Z"⟩
abbrev cX5_readsCommand : ByteArray := prog_7_method_52_code
def yX5_readsCommand : MethodName := ⟨RX5, "readsCommand", "()Z"⟩
abbrev cX5_fault : ByteArray := prog_7_method_53_code
def yX5_fault : MethodName := ⟨RX5, "fault", "()I"⟩
abbrev cX5_lay : ByteArray := prog_7_method_54_code
def yX5_lay : MethodName := ⟨RX5, "lay", "()I"⟩
def RJ9 : String := "java/lang/Math"
abbrev cJ9_abs_0f7a4 : ByteArray := prog_8_method_59_code
def yJ9_abs_0f7a4 : MethodName := ⟨RJ9, "abs", "(I)I"⟩
abbrev cJ9_max_7cf53 : ByteArray := prog_8_method_65_code
def yJ9_max_7cf53 : MethodName := ⟨RJ9, "max", "(II)I"⟩
abbrev cJ9_min_7cf53 : ByteArray := prog_8_method_69_code
def yJ9_min_7cf53 : MethodName := ⟨RJ9, "min", "(II)I"⟩
def RJ0 : String := "java/lang/String"
abbrev cJ0_length_8abf5 : ByteArray := prog_9_method_54_code
def yJ0_length_8abf5 : MethodName := ⟨RJ0, "length", "()I"⟩
abbrev cJ0_charAt_5068e : ByteArray := prog_9_method_56_code
def yJ0_charAt_5068e : MethodName := ⟨RJ0, "charAt", "(I)C"⟩
abbrev cJ0_coder_7d493 : ByteArray := prog_9_method_152_code
def yJ0_coder_7d493 : MethodName := ⟨RJ0, "coder", "()B"⟩
abbrev cJ0_isLatin1_aae02 : ByteArray := prog_9_method_154_code
def yJ0_isLatin1_aae02 : MethodName := ⟨RJ0, "isLatin1", "()Z"⟩
abbrev cJ0_checkIndex_df160 : ByteArray := prog_9_method_155_code
def yJ0_checkIndex_df160 : MethodName := ⟨RJ0, "checkIndex", "(II)V"⟩
def RJ1 : String := "java/lang/StringLatin1"
abbrev cJ1_charAt_3b067 : ByteArray := prog_10_method_2_code
def yJ1_charAt_3b067 : MethodName := ⟨RJ1, "charAt", "([BI)C"⟩
def RJ2 : String := "java/lang/StringUTF16"
abbrev cJ2_getChar_3b067 : ByteArray := prog_11_method_5_code
def yJ2_getChar_3b067 : MethodName := ⟨RJ2, "getChar", "([BI)C"⟩
abbrev cJ2_length_9d52b : ByteArray := prog_11_method_6_code
def yJ2_length_9d52b : MethodName := ⟨RJ2, "length", "([B)I"⟩
abbrev cJ2_charAt_3b067 : ByteArray := prog_11_method_83_code
def yJ2_charAt_3b067 : MethodName := ⟨RJ2, "charAt", "([BI)C"⟩
abbrev cJ2_checkIndex_2214a : ByteArray := prog_11_method_91_code
def yJ2_checkIndex_2214a : MethodName := ⟨RJ2, "checkIndex", "(I[B)V"⟩
def RJ10 : String := "java/lang/System"
def RJ3 : String := "jdk/internal/util/Preconditions"
abbrev cJ3_checkIndex_8e157 : ByteArray := prog_13_method_11_code
def yJ3_checkIndex_8e157 : MethodName := ⟨RJ3, "checkIndex", "(IILjava/util/function/BiFunction;)I"⟩
def RL : String := "VarveClockLaw"
abbrev cL_law : ByteArray := code
def yL_law : MethodName := ⟨RL, "law", "([I)Z"⟩
def wsL_law_r1 : List Cond := [Cond.classLink RL 7 RX4, Cond.instantiable RX4 4, Cond.initialized RX4, Cond.classLink RL 10 RX5, Cond.instantiable RX5 17, Cond.initialized RX5, Cond.methodLink RL 9 yX4_init, Cond.instanceMethod yX4_init, Cond.code yX4_init cX4_init 1 none, Cond.methodLink RX4 1 objectInit, Cond.instanceMethod objectInit, Cond.code objectInit ⟨#[0xb1]⟩ 1 none, Cond.classLink RX4 7 RX0, Cond.instantiable RX0 9, Cond.initialized RX0, Cond.fieldLink RX4 10 "VarveClock" "core" "LVarveClock$Core;", Cond.classLink RX4 16 RX1, Cond.instantiable RX1 3, Cond.initialized RX1, Cond.fieldLink RX4 19 "VarveClock" "history" "LVarveClock$History;", Cond.classLink RX4 23 RX3, Cond.instantiable RX3 4, Cond.initialized RX3, Cond.fieldLink RX4 26 "VarveClock" "script" "LVarveClock$Script;"]
def wsL_law_r2 : List Cond := [Cond.classLink RX4 30 RX2, Cond.instantiable RX2 15, Cond.initialized RX2, Cond.fieldLink RX4 35 "VarveClock" "reckoning" "LVarveClock$Reckoning;", Cond.methodLink RX4 9 yX0_init, Cond.instanceMethod yX0_init, Cond.code yX0_init cX0_init 1 none, Cond.methodLink RX0 3 objectInit, Cond.arrayClass .int, Cond.fieldLink RX0 9 "VarveClock$Core" "thickness" "[I", Cond.fieldLink RX0 15 "VarveClock$Core" "kind" "[I", Cond.fieldLink RX0 18 "VarveClock$Core" "missing" "[I", Cond.fieldLink RX0 21 "VarveClock$Core" "place" "[I", Cond.fieldLink RX0 24 "VarveClock$Core" "ashAge" "[I", Cond.fieldLink RX0 27 "VarveClock$Core" "uncertainty" "[I", Cond.fieldLink RX0 30 "VarveClock$Core" "setting" "[I", Cond.fieldLink RX0 33 "VarveClock$Core" "layers" "I", Cond.fieldLink RX0 37 "VarveClock$Core" "ashes" "I", Cond.methodLink RX4 18 yX1_init, Cond.instanceMethod yX1_init, Cond.code yX1_init cX1_init 2 none, Cond.methodLink RX1 3 objectInit, Cond.classLink RX1 9 RX0, Cond.fieldLink RX1 11 "VarveClock$History" "states" "[LVarveClock$Core;"]
def wsL_law_r3 : List Cond := [Cond.fieldLink RX1 18 "VarveClock$History" "next" "I", Cond.fieldLink RX1 22 "VarveClock$History" "size" "I", Cond.methodLink RX1 17 yX0_init, Cond.methodLink RX4 25 yX3_init, Cond.instanceMethod yX3_init, Cond.code yX3_init cX3_init 1 none, Cond.methodLink RX3 3 objectInit, Cond.arrayClass .char, Cond.fieldLink RX3 9 "VarveClock$Script" "signs" "[C", Cond.classLink RX3 15 RX0, Cond.fieldLink RX3 18 "VarveClock$Script" "draft" "LVarveClock$Core;", Cond.fieldLink RX3 22 "VarveClock$Script" "length" "I", Cond.fieldLink RX3 26 "VarveClock$Script" "at" "I", Cond.methodLink RX3 17 yX0_init, Cond.methodLink RX4 32 yX2_init, Cond.instanceMethod yX2_init, Cond.code yX2_init cX2_init 2 none, Cond.methodLink RX2 3 objectInit, Cond.fieldLink RX2 9 "VarveClock$Reckoning" "core" "LVarveClock$Core;", Cond.classLink RX2 15 "[[I", Cond.fieldLink RX2 17 "VarveClock$Reckoning" "above" "[[I", Cond.fieldLink RX2 20 "VarveClock$Reckoning" "below" "[[I", Cond.fieldLink RX2 23 "VarveClock$Reckoning" "withAsh" "[I", Cond.fieldLink RX2 27 "VarveClock$Reckoning" "withOwn" "[I"]
def wsL_law_r4 : List Cond := [Cond.fieldLink RX2 30 "VarveClock$Reckoning" "queue" "[I", Cond.fieldLink RX2 33 "VarveClock$Reckoning" "waysHere" "[I", Cond.fieldLink RX2 36 "VarveClock$Reckoning" "waysNext" "[I", Cond.fieldLink RX2 39 "VarveClock$Reckoning" "bestOwn" "[I", Cond.fieldLink RX2 42 "VarveClock$Reckoning" "bestMissing" "[I", Cond.fieldLink RX2 45 "VarveClock$Reckoning" "bestAge" "[I", Cond.fieldLink RX2 48 "VarveClock$Reckoning" "oldest" "I", Cond.fieldLink RX2 52 "VarveClock$Reckoning" "belowStands" "Z", Cond.fieldLink RX2 56 "VarveClock$Reckoning" "aboveStands" "Z", Cond.fieldLink RX2 59 "VarveClock$Reckoning" "knownWays" "I", Cond.methodLink RL 12 yX5_init, Cond.instanceMethod yX5_init, Cond.code yX5_init cX5_init 1 none, Cond.methodLink RX5 1 objectInit, Cond.fieldLink RX5 7 "VarveClockModel" "d" "[I", Cond.fieldLink RX5 13 "VarveClockModel" "was" "[I", Cond.fieldLink RX5 16 "VarveClockModel" "text" "[C", Cond.fieldLink RX5 20 "VarveClockModel" "draft" "[I", Cond.fieldLink RX5 23 "VarveClockModel" "rest" "[I", Cond.fieldLink RX5 26 "VarveClockModel" "other" "[I", Cond.fieldLink RX5 29 "VarveClockModel" "own" "[I", Cond.fieldLink RX5 32 "VarveClockModel" "gaps" "[I", Cond.fieldLink RX5 35 "VarveClockModel" "ages" "[I", Cond.methodLink RL 13 yX4_addLayer]
def wsL_law_r5 : List Cond := [Cond.instanceMethod yX4_addLayer, Cond.selects RX4 yX4_addLayer yX4_addLayer, Cond.code yX4_addLayer cX4_addLayer 5 (some .int), Cond.fieldLink RX4 39 "VarveClock$Core" "layers" "I", Cond.methodLink RX4 43 yX4_isWithin, Cond.static yX4_isWithin, Cond.code yX4_isWithin cX4_isWithin 3 (some .boolean), Cond.methodLink RX4 47 yX4_beginChange, Cond.instanceMethod yX4_beginChange, Cond.selects RX4 yX4_beginChange yX4_beginChange, Cond.code yX4_beginChange cX4_beginChange 1 none, Cond.methodLink RX4 190 yX1_keep, Cond.instanceMethod yX1_keep, Cond.selects RX1 yX1_keep yX1_keep, Cond.code yX1_keep cX1_keep 2 none, Cond.methodLink RX1 29 Lib.Math.min.name, Cond.static Lib.Math.min.name, Cond.initialized "java/lang/Math", Cond.code Lib.Math.min.name Lib.Math.min.code 2 (some .int), Cond.methodLink RX1 25 yX0_takeAll, Cond.instanceMethod yX0_takeAll, Cond.selects RX0 yX0_takeAll yX0_takeAll, Cond.code yX0_takeAll cX0_takeAll 2 none, Cond.methodLink RX0 44 arraycopyName]
def wsL_law_r6 : List Cond := [Cond.native arraycopyName, Cond.static arraycopyName, Cond.initialized "java/lang/System", Cond.methodLink RX0 40 yX0_takeLayersAndAshes, Cond.instanceMethod yX0_takeLayersAndAshes, Cond.selects RX0 yX0_takeLayersAndAshes yX0_takeLayersAndAshes, Cond.code yX0_takeLayersAndAshes cX0_takeLayersAndAshes 2 none, Cond.methodLink RX4 112 yX2_forget, Cond.instanceMethod yX2_forget, Cond.selects RX2 yX2_forget yX2_forget, Cond.code yX2_forget cX2_forget 1 none, Cond.methodLink RX4 50 yX0_insertLayer, Cond.instanceMethod yX0_insertLayer, Cond.selects RX0 yX0_insertLayer yX0_insertLayer, Cond.code yX0_insertLayer cX0_insertLayer 6 none, Cond.methodLink RX0 50 yX0_insertAt, Cond.static yX0_insertAt, Cond.code yX0_insertAt cX0_insertAt 5 none, Cond.methodLink RL 17 yX5_addLayer, Cond.instanceMethod yX5_addLayer, Cond.selects RX5 yX5_addLayer yX5_addLayer, Cond.code yX5_addLayer cX5_addLayer 6 (some .int), Cond.methodLink RX5 46 yX5_isPlace, Cond.instanceMethod yX5_isPlace]
def wsL_law_r7 : List Cond := [Cond.selects RX5 yX5_isPlace yX5_isPlace, Cond.code yX5_isPlace cX5_isPlace 2 (some .boolean), Cond.methodLink RX5 38 yX5_in, Cond.static yX5_in, Cond.code yX5_in cX5_in 3 (some .boolean), Cond.methodLink RX5 50 yX5_records, Cond.instanceMethod yX5_records, Cond.selects RX5 yX5_records yX5_records, Cond.code yX5_records cX5_records 2 none, Cond.fieldLink RX5 42 "VarveClockModel" "states" "I", Cond.methodLink RX5 53 yX5_copies, Cond.instanceMethod yX5_copies, Cond.selects RX5 yX5_copies yX5_copies, Cond.code yX5_copies cX5_copies 3 none, Cond.methodLink RL 18 yX4_removeLayer, Cond.instanceMethod yX4_removeLayer, Cond.selects RX4 yX4_removeLayer yX4_removeLayer, Cond.code yX4_removeLayer cX4_removeLayer 2 (some .int), Cond.methodLink RX4 54 yX4_isLayer, Cond.instanceMethod yX4_isLayer, Cond.selects RX4 yX4_isLayer yX4_isLayer, Cond.code yX4_isLayer cX4_isLayer 2 (some .boolean), Cond.methodLink RX4 58 yX0_deleteLayer, Cond.instanceMethod yX0_deleteLayer]
def wsL_law_r8 : List Cond := [Cond.selects RX0 yX0_deleteLayer yX0_deleteLayer, Cond.code yX0_deleteLayer cX0_deleteLayer 4 none, Cond.methodLink RX0 54 yX0_ashAt, Cond.instanceMethod yX0_ashAt, Cond.selects RX0 yX0_ashAt yX0_ashAt, Cond.code yX0_ashAt cX0_ashAt 3 (some .int), Cond.methodLink RX0 58 yX0_deleteAsh, Cond.instanceMethod yX0_deleteAsh, Cond.selects RX0 yX0_deleteAsh yX0_deleteAsh, Cond.code yX0_deleteAsh cX0_deleteAsh 2 none, Cond.methodLink RX0 62 yX0_deleteAt, Cond.static yX0_deleteAt, Cond.code yX0_deleteAt cX0_deleteAt 4 none, Cond.methodLink RL 22 yX5_removeLayer, Cond.instanceMethod yX5_removeLayer, Cond.selects RX5 yX5_removeLayer yX5_removeLayer, Cond.code yX5_removeLayer cX5_removeLayer 4 (some .int), Cond.methodLink RX5 57 yX5_isLayer, Cond.instanceMethod yX5_isLayer, Cond.selects RX5 yX5_isLayer yX5_isLayer, Cond.code yX5_isLayer cX5_isLayer 2 (some .boolean), Cond.methodLink RX5 60 yX5_ashAt, Cond.instanceMethod yX5_ashAt, Cond.selects RX5 yX5_ashAt yX5_ashAt]
def wsL_law_r9 : List Cond := [Cond.code yX5_ashAt cX5_ashAt 3 (some .int), Cond.methodLink RX5 64 yX5_drops, Cond.instanceMethod yX5_drops, Cond.selects RX5 yX5_drops yX5_drops, Cond.code yX5_drops cX5_drops 3 none, Cond.methodLink RL 23 yX4_setLayer, Cond.instanceMethod yX4_setLayer, Cond.selects RX4 yX4_setLayer yX4_setLayer, Cond.code yX4_setLayer cX4_setLayer 6 (some .int), Cond.methodLink RX4 62 yX4_leastProperty, Cond.static yX4_leastProperty, Cond.code yX4_leastProperty cX4_leastProperty 1 (some .int), Cond.methodLink RX4 66 yX4_mostProperty, Cond.static yX4_mostProperty, Cond.code yX4_mostProperty cX4_mostProperty 1 (some .int), Cond.methodLink RX4 69 yX0_layerProperties, Cond.instanceMethod yX0_layerProperties, Cond.selects RX0 yX0_layerProperties yX0_layerProperties, Cond.code yX0_layerProperties cX0_layerProperties 2 (some (.array .int)), Cond.methodLink RL 27 yX5_setLayer, Cond.instanceMethod yX5_setLayer, Cond.selects RX5 yX5_setLayer yX5_setLayer, Cond.code yX5_setLayer cX5_setLayer 6 (some .int), Cond.methodLink RL 28 yX4_addAsh]
def wsL_law_r10 : List Cond := [Cond.instanceMethod yX4_addAsh, Cond.selects RX4 yX4_addAsh yX4_addAsh, Cond.code yX4_addAsh cX4_addAsh 4 (some .int), Cond.fieldLink RX4 79 "VarveClock$Core" "ashes" "I", Cond.methodLink RX4 73 yX4_isAshOfRange, Cond.instanceMethod yX4_isAshOfRange, Cond.selects RX4 yX4_isAshOfRange yX4_isAshOfRange, Cond.code yX4_isAshOfRange cX4_isAshOfRange 4 (some .boolean), Cond.methodLink RX4 76 yX0_ashAt, Cond.methodLink RX4 82 yX0_insertAsh, Cond.instanceMethod yX0_insertAsh, Cond.selects RX0 yX0_insertAsh yX0_insertAsh, Cond.code yX0_insertAsh cX0_insertAsh 6 (some .int), Cond.methodLink RL 31 yX5_addAsh, Cond.instanceMethod yX5_addAsh, Cond.selects RX5 yX5_addAsh yX5_addAsh, Cond.code yX5_addAsh cX5_addAsh 5 (some .int), Cond.methodLink RX5 68 yX5_isNewAsh, Cond.instanceMethod yX5_isNewAsh, Cond.selects RX5 yX5_isNewAsh yX5_isNewAsh, Cond.code yX5_isNewAsh cX5_isNewAsh 4 (some .boolean), Cond.methodLink RL 32 yX4_removeAsh, Cond.instanceMethod yX4_removeAsh, Cond.selects RX4 yX4_removeAsh yX4_removeAsh]
def wsL_law_r11 : List Cond := [Cond.code yX4_removeAsh cX4_removeAsh 2 (some .int), Cond.methodLink RX4 86 yX4_isAsh, Cond.instanceMethod yX4_isAsh, Cond.selects RX4 yX4_isAsh yX4_isAsh, Cond.code yX4_isAsh cX4_isAsh 2 (some .boolean), Cond.methodLink RX4 89 yX0_deleteAsh, Cond.methodLink RL 35 yX5_removeAsh, Cond.instanceMethod yX5_removeAsh, Cond.selects RX5 yX5_removeAsh yX5_removeAsh, Cond.code yX5_removeAsh cX5_removeAsh 2 (some .int), Cond.methodLink RX5 71 yX5_isAsh, Cond.instanceMethod yX5_isAsh, Cond.selects RX5 yX5_isAsh yX5_isAsh, Cond.code yX5_isAsh cX5_isAsh 2 (some .boolean), Cond.methodLink RL 36 yX4_set, Cond.instanceMethod yX4_set, Cond.selects RX4 yX4_set yX4_set, Cond.code yX4_set cX4_set 4 (some .int), Cond.fieldLink RX4 92 "VarveClock$Core" "setting" "[I", Cond.methodLink RL 40 yX5_set, Cond.instanceMethod yX5_set, Cond.selects RX5 yX5_set yX5_set, Cond.code yX5_set cX5_set 4 (some .int), Cond.methodLink RL 41 yX4_lay]
def wsL_law_r12 : List Cond := [Cond.instanceMethod yX4_lay, Cond.selects RX4 yX4_lay yX4_lay, Cond.code yX4_lay cX4_lay 1 (some .int), Cond.fieldLink RX4 100 "VarveClock$Script" "draft" "LVarveClock$Core;", Cond.methodLink RX4 96 yX3_read, Cond.instanceMethod yX3_read, Cond.selects RX3 yX3_read yX3_read, Cond.code yX3_read cX3_read 3 (some .int), Cond.methodLink RX3 29 yX0_empty, Cond.instanceMethod yX0_empty, Cond.selects RX0 yX0_empty yX0_empty, Cond.code yX0_empty cX0_empty 1 none, Cond.methodLink RX3 32 yX3_readCommand, Cond.instanceMethod yX3_readCommand, Cond.selects RX3 yX3_readCommand yX3_readCommand, Cond.code yX3_readCommand cX3_readCommand 1 (some .boolean), Cond.methodLink RX3 38 yX3_skipWord, Cond.instanceMethod yX3_skipWord, Cond.selects RX3 yX3_skipWord yX3_skipWord, Cond.code yX3_skipWord cX3_skipWord 3 (some .boolean), Cond.methodLink RX3 90 yJ0_length_8abf5, Cond.instanceMethod yJ0_length_8abf5, Cond.selects RJ0 yJ0_length_8abf5 yJ0_length_8abf5, Cond.initialized RJ0]
def wsL_law_r13 : List Cond := [Cond.code yJ0_length_8abf5 cJ0_length_8abf5 1 (some .int), Cond.fieldLink RJ0 9 "java/lang/String" "value" "[B", Cond.methodLink RJ0 335 yJ0_coder_7d493, Cond.instanceMethod yJ0_coder_7d493, Cond.selects RJ0 yJ0_coder_7d493 yJ0_coder_7d493, Cond.code yJ0_coder_7d493 cJ0_coder_7d493 1 (some .byte), Cond.fieldLink RJ0 38 "java/lang/String" "COMPACT_STRINGS" "Z", Cond.fieldLink RJ0 15 "java/lang/String" "coder" "B", Cond.methodLink RX3 95 yJ0_charAt_5068e, Cond.instanceMethod yJ0_charAt_5068e, Cond.selects RJ0 yJ0_charAt_5068e yJ0_charAt_5068e, Cond.code yJ0_charAt_5068e cJ0_charAt_5068e 2 (some .char), Cond.methodLink RJ0 492 yJ0_isLatin1_aae02, Cond.instanceMethod yJ0_isLatin1_aae02, Cond.selects RJ0 yJ0_isLatin1_aae02 yJ0_isLatin1_aae02, Cond.code yJ0_isLatin1_aae02 cJ0_isLatin1_aae02 1 (some .boolean), Cond.methodLink RJ0 495 yJ1_charAt_3b067, Cond.static yJ1_charAt_3b067, Cond.initialized RJ1, Cond.code yJ1_charAt_3b067 cJ1_charAt_3b067 2 (some .char), Cond.methodLink RJ1 9 yJ0_checkIndex_df160, Cond.static yJ0_checkIndex_df160, Cond.code yJ0_checkIndex_df160 cJ0_checkIndex_df160 2 none, Cond.fieldLink RJ0 1053 "jdk/internal/util/Preconditions" "SIOOBE_FORMATTER" "Ljava/util/function/BiFunction;"]
def wsL_law_r14 : List Cond := [Cond.methodLink RJ0 1059 yJ3_checkIndex_8e157, Cond.static yJ3_checkIndex_8e157, Cond.initialized RJ3, Cond.code yJ3_checkIndex_8e157 cJ3_checkIndex_8e157 3 (some .int), Cond.methodLink RJ0 498 yJ2_charAt_3b067, Cond.static yJ2_charAt_3b067, Cond.initialized RJ2, Cond.code yJ2_charAt_3b067 cJ2_charAt_3b067 2 (some .char), Cond.methodLink RJ2 67 yJ2_checkIndex_2214a, Cond.static yJ2_checkIndex_2214a, Cond.code yJ2_checkIndex_2214a cJ2_checkIndex_2214a 2 none, Cond.methodLink RJ2 48 yJ2_length_9d52b, Cond.static yJ2_length_9d52b, Cond.code yJ2_length_9d52b cJ2_length_9d52b 1 (some .int), Cond.methodLink RJ2 414 yJ0_checkIndex_df160, Cond.methodLink RJ2 71 yJ2_getChar_3b067, Cond.static yJ2_getChar_3b067, Cond.code yJ2_getChar_3b067 cJ2_getChar_3b067 2 (some .char), Cond.fieldLink RJ2 44 "java/lang/StringUTF16" "$assertionsDisabled" "Z", Cond.fieldLink RJ2 59 "java/lang/StringUTF16" "HI_BYTE_SHIFT" "I", Cond.fieldLink RJ2 63 "java/lang/StringUTF16" "LO_BYTE_SHIFT" "I", Cond.methodLink RX3 42 yX3_readLayer, Cond.instanceMethod yX3_readLayer, Cond.selects RX3 yX3_readLayer yX3_readLayer]
def wsL_law_r15 : List Cond := [Cond.code yX3_readLayer cX3_readLayer 3 (some .boolean), Cond.fieldLink RX3 68 "VarveClock$Core" "layers" "I", Cond.methodLink RX3 60 yX3_readNumber, Cond.instanceMethod yX3_readNumber, Cond.selects RX3 yX3_readNumber yX3_readNumber, Cond.code yX3_readNumber cX3_readNumber 4 (some .int), Cond.methodLink RX3 71 yX0_insertLayer, Cond.methodLink RX3 52 yX3_readGap, Cond.instanceMethod yX3_readGap, Cond.selects RX3 yX3_readGap yX3_readGap, Cond.code yX3_readGap cX3_readGap 2 (some .boolean), Cond.fieldLink RX3 75 "VarveClock$Core" "missing" "[I", Cond.methodLink RX3 57 yX3_readAsh, Cond.instanceMethod yX3_readAsh, Cond.selects RX3 yX3_readAsh yX3_readAsh, Cond.code yX3_readAsh cX3_readAsh 3 (some .boolean), Cond.fieldLink RX3 79 "VarveClock$Core" "ashes" "I", Cond.methodLink RX3 82 yX0_ashAt, Cond.methodLink RX3 86 yX0_insertAsh, Cond.methodLink RX4 103 yX0_takeLayersAndAshes, Cond.methodLink RL 45 yX5_lay, Cond.instanceMethod yX5_lay, Cond.selects RX5 yX5_lay yX5_lay, Cond.code yX5_lay cX5_lay 2 (some .int)]
def wsL_law_r16 : List Cond := [Cond.methodLink RX5 159 yX5_fault, Cond.instanceMethod yX5_fault, Cond.selects RX5 yX5_fault yX5_fault, Cond.code yX5_fault cX5_fault 2 (some .int), Cond.fieldLink RX5 131 "VarveClockModel" "at" "I", Cond.fieldLink RX5 128 "VarveClockModel" "typed" "I", Cond.methodLink RX5 156 yX5_readsCommand, Cond.instanceMethod yX5_readsCommand, Cond.selects RX5 yX5_readsCommand yX5_readsCommand, Cond.code yX5_readsCommand cX5_readsCommand 1 (some .boolean), Cond.methodLink RX5 143 yX5_isWord, Cond.instanceMethod yX5_isWord, Cond.selects RX5 yX5_isWord yX5_isWord, Cond.code yX5_isWord cX5_isWord 8 (some .boolean), Cond.methodLink RX5 134 yX5_signAt, Cond.instanceMethod yX5_signAt, Cond.selects RX5 yX5_signAt yX5_signAt, Cond.code yX5_signAt cX5_signAt 2 (some .int), Cond.methodLink RX5 147 yX5_readsLayer, Cond.instanceMethod yX5_readsLayer, Cond.selects RX5 yX5_readsLayer yX5_readsLayer, Cond.code yX5_readsLayer cX5_readsLayer 4 (some .boolean), Cond.methodLink RX5 137 yX5_number, Cond.instanceMethod yX5_number]
def wsL_law_r17 : List Cond := [Cond.selects RX5 yX5_number yX5_number, Cond.code yX5_number cX5_number 5 (some .int), Cond.methodLink RX5 150 yX5_readsGap, Cond.instanceMethod yX5_readsGap, Cond.selects RX5 yX5_readsGap yX5_readsGap, Cond.code yX5_readsGap cX5_readsGap 2 (some .boolean), Cond.methodLink RX5 153 yX5_readsAsh, Cond.instanceMethod yX5_readsAsh, Cond.selects RX5 yX5_readsAsh yX5_readsAsh, Cond.code yX5_readsAsh cX5_readsAsh 5 (some .boolean), Cond.methodLink RX5 140 yX5_passes, Cond.instanceMethod yX5_passes, Cond.selects RX5 yX5_passes yX5_passes, Cond.code yX5_passes cX5_passes 3 (some .boolean), Cond.methodLink RL 46 yX4_undo, Cond.instanceMethod yX4_undo, Cond.selects RX4 yX4_undo yX4_undo, Cond.code yX4_undo cX4_undo 1 (some .int), Cond.fieldLink RX4 106 "VarveClock$History" "size" "I", Cond.methodLink RX4 109 yX1_restore, Cond.instanceMethod yX1_restore, Cond.selects RX1 yX1_restore yX1_restore, Cond.code yX1_restore cX1_restore 2 none, Cond.methodLink RL 49 yX5_undo]
def wsL_law_r18 : List Cond := [Cond.instanceMethod yX5_undo, Cond.selects RX5 yX5_undo yX5_undo, Cond.code yX5_undo cX5_undo 2 (some .int), Cond.methodLink RL 50 yX4_count, Cond.instanceMethod yX4_count, Cond.selects RX4 yX4_count yX4_count, Cond.code yX4_count cX4_count 2 (some .int), Cond.methodLink RX4 115 yX0_thicknessBetween, Cond.instanceMethod yX0_thicknessBetween, Cond.selects RX0 yX0_thicknessBetween yX0_thicknessBetween, Cond.code yX0_thicknessBetween cX0_thicknessBetween 5 (some .int), Cond.methodLink RX4 119 yX0_layersOfKind, Cond.instanceMethod yX0_layersOfKind, Cond.selects RX0 yX0_layersOfKind yX0_layersOfKind, Cond.code yX0_layersOfKind cX0_layersOfKind 4 (some .int), Cond.methodLink RL 53 yX5_count, Cond.instanceMethod yX5_count, Cond.selects RX5 yX5_count yX5_count, Cond.code yX5_count cX5_count 2 (some .int), Cond.methodLink RX5 74 yX5_thickness, Cond.instanceMethod yX5_thickness, Cond.selects RX5 yX5_thickness yX5_thickness, Cond.code yX5_thickness cX5_thickness 5 (some .int), Cond.methodLink RX5 78 yX5_ofKind]
def wsL_law_r19 : List Cond := [Cond.instanceMethod yX5_ofKind, Cond.selects RX5 yX5_ofKind yX5_ofKind, Cond.code yX5_ofKind cX5_ofKind 4 (some .int), Cond.methodLink RL 54 yX4_layer, Cond.instanceMethod yX4_layer, Cond.selects RX4 yX4_layer yX4_layer, Cond.code yX4_layer cX4_layer 3 (some .int), Cond.methodLink RL 57 yX5_layer, Cond.instanceMethod yX5_layer, Cond.selects RX5 yX5_layer yX5_layer, Cond.code yX5_layer cX5_layer 3 (some .int), Cond.methodLink RL 58 yX4_ash, Cond.instanceMethod yX4_ash, Cond.selects RX4 yX4_ash yX4_ash, Cond.code yX4_ash cX4_ash 3 (some .int), Cond.methodLink RX4 122 yX0_ashProperties, Cond.instanceMethod yX0_ashProperties, Cond.selects RX0 yX0_ashProperties yX0_ashProperties, Cond.code yX0_ashProperties cX0_ashProperties 2 (some (.array .int)), Cond.methodLink RL 61 yX5_ash, Cond.instanceMethod yX5_ash, Cond.selects RX5 yX5_ash yX5_ash, Cond.code yX5_ash cX5_ash 3 (some .int), Cond.methodLink RL 62 yX4_cost]
def wsL_law_r20 : List Cond := [Cond.instanceMethod yX4_cost, Cond.selects RX4 yX4_cost yX4_cost, Cond.code yX4_cost cX4_cost 1 (some .int), Cond.methodLink RX4 125 yX2_hasCount, Cond.instanceMethod yX2_hasCount, Cond.selects RX2 yX2_hasCount yX2_hasCount, Cond.code yX2_hasCount cX2_hasCount 1 (some .boolean), Cond.constant RX2 65 (268435456), Cond.methodLink RX2 62 yX2_makeBelow, Cond.instanceMethod yX2_makeBelow, Cond.selects RX2 yX2_makeBelow yX2_makeBelow, Cond.code yX2_makeBelow cX2_makeBelow 2 none, Cond.fieldLink RX2 74 "VarveClock$Core" "layers" "I", Cond.methodLink RX2 99 Lib.Math.min.name, Cond.methodLink RX2 152 yX0_mostYears, Cond.instanceMethod yX0_mostYears, Cond.selects RX0 yX0_mostYears yX0_mostYears, Cond.code yX0_mostYears cX0_mostYears 2 (some .int), Cond.methodLink RX2 118 yX2_clearRow, Cond.instanceMethod yX2_clearRow, Cond.selects RX2 yX2_clearRow yX2_clearRow, Cond.code yX2_clearRow cX2_clearRow 4 none, Cond.methodLink RX2 122 yX2_addAshCosts, Cond.instanceMethod yX2_addAshCosts]
def wsL_law_r21 : List Cond := [Cond.selects RX2 yX2_addAshCosts yX2_addAshCosts, Cond.code yX2_addAshCosts cX2_addAshCosts 5 none, Cond.methodLink RX2 108 yX0_ashAt, Cond.methodLink RX2 111 yX0_ashCost, Cond.instanceMethod yX0_ashCost, Cond.selects RX0 yX0_ashCost yX0_ashCost, Cond.code yX0_ashCost cX0_ashCost 4 (some .int), Cond.methodLink RX0 66 Lib.Math.abs.name, Cond.static Lib.Math.abs.name, Cond.code Lib.Math.abs.name Lib.Math.abs.code 1 (some .int), Cond.constant RX0 71 (268435456), Cond.methodLink RX2 155 yX2_addOwnCosts, Cond.instanceMethod yX2_addOwnCosts, Cond.selects RX2 yX2_addOwnCosts yX2_addOwnCosts, Cond.code yX2_addOwnCosts cX2_addOwnCosts 8 none, Cond.methodLink RX2 137 yX0_leastOwn, Cond.instanceMethod yX0_leastOwn, Cond.selects RX0 yX0_leastOwn yX0_leastOwn, Cond.code yX0_leastOwn cX0_leastOwn 2 (some .int), Cond.methodLink RX2 140 yX0_mostOwn, Cond.instanceMethod yX0_mostOwn, Cond.selects RX0 yX0_mostOwn yX0_mostOwn, Cond.code yX0_mostOwn cX0_mostOwn 2 (some .int), Cond.methodLink RX2 143 yX0_ownCost]
def wsL_law_r22 : List Cond := [Cond.instanceMethod yX0_ownCost, Cond.selects RX0 yX0_ownCost yX0_ownCost, Cond.code yX0_ownCost cX0_ownCost 3 (some .int), Cond.methodLink RX2 159 yX2_addMissingCosts, Cond.instanceMethod yX2_addMissingCosts, Cond.selects RX2 yX2_addMissingCosts yX2_addMissingCosts, Cond.code yX2_addMissingCosts cX2_addMissingCosts 8 none, Cond.fieldLink RX2 146 "VarveClock$Core" "missing" "[I", Cond.methodLink RX2 166 yX2_costFrom, Cond.instanceMethod yX2_costFrom, Cond.selects RX2 yX2_costFrom yX2_costFrom, Cond.code yX2_costFrom cX2_costFrom 5 (some .int), Cond.methodLink RX2 149 yX0_missingCost, Cond.instanceMethod yX0_missingCost, Cond.selects RX0 yX0_missingCost yX0_missingCost, Cond.code yX0_missingCost cX0_missingCost 2 (some .int), Cond.methodLink RX2 163 yX2_followBest, Cond.instanceMethod yX2_followBest, Cond.selects RX2 yX2_followBest yX2_followBest, Cond.code yX2_followBest cX2_followBest 2 none, Cond.methodLink RX2 170 yX2_chooseYears, Cond.instanceMethod yX2_chooseYears, Cond.selects RX2 yX2_chooseYears yX2_chooseYears, Cond.code yX2_chooseYears cX2_chooseYears 8 none]
def wsL_law_r23 : List Cond := [Cond.methodLink RX4 129 yX2_leastCost, Cond.instanceMethod yX2_leastCost, Cond.selects RX2 yX2_leastCost yX2_leastCost, Cond.code yX2_leastCost cX2_leastCost 1 (some .int), Cond.methodLink RL 65 yX5_cost, Cond.instanceMethod yX5_cost, Cond.selects RX5 yX5_cost yX5_cost, Cond.code yX5_cost cX5_cost 2 (some .int), Cond.constant RX5 84 (100000000), Cond.methodLink RX5 113 yX5_plain, Cond.instanceMethod yX5_plain, Cond.selects RX5 yX5_plain yX5_plain, Cond.code yX5_plain cX5_plain 1 none, Cond.fieldLink RX5 85 "VarveClockModel" "left" "I", Cond.fieldLink RX5 92 "VarveClockModel" "morePlace" "I", Cond.fieldLink RX5 81 "VarveClockModel" "wider" "I", Cond.methodLink RX5 116 yX5_solves, Cond.instanceMethod yX5_solves, Cond.selects RX5 yX5_solves yX5_solves, Cond.code yX5_solves cX5_solves 8 (some .int), Cond.methodLink RX5 101 yX5_ashCost, Cond.instanceMethod yX5_ashCost, Cond.selects RX5 yX5_ashCost yX5_ashCost, Cond.code yX5_ashCost cX5_ashCost 5 (some .int)]
def wsL_law_r24 : List Cond := [Cond.fieldLink RX5 95 "VarveClockModel" "moreAge" "I", Cond.fieldLink RX5 98 "VarveClockModel" "moreUnsure" "I", Cond.methodLink RX5 88 yX5_offCost, Cond.instanceMethod yX5_offCost, Cond.selects RX5 yX5_offCost yX5_offCost, Cond.code yX5_offCost cX5_offCost 5 (some .int), Cond.methodLink RX5 104 yX5_leastOwn, Cond.instanceMethod yX5_leastOwn, Cond.selects RX5 yX5_leastOwn yX5_leastOwn, Cond.code yX5_leastOwn cX5_leastOwn 2 (some .int), Cond.methodLink RX5 107 yX5_mostOwn, Cond.instanceMethod yX5_mostOwn, Cond.selects RX5 yX5_mostOwn yX5_mostOwn, Cond.code yX5_mostOwn cX5_mostOwn 2 (some .int), Cond.methodLink RX5 110 yX5_yearsCost, Cond.instanceMethod yX5_yearsCost, Cond.selects RX5 yX5_yearsCost yX5_yearsCost, Cond.code yX5_yearsCost cX5_yearsCost 5 (some .int), Cond.methodLink RL 66 yX4_years, Cond.instanceMethod yX4_years, Cond.selects RX4 yX4_years yX4_years, Cond.code yX4_years cX4_years 3 (some .int), Cond.fieldLink RX4 132 "VarveClock$Reckoning" "bestOwn" "[I", Cond.fieldLink RX4 135 "VarveClock$Reckoning" "bestMissing" "[I"]
def wsL_law_r25 : List Cond := [Cond.methodLink RL 69 yX5_years, Cond.instanceMethod yX5_years, Cond.selects RX5 yX5_years yX5_years, Cond.code yX5_years cX5_years 3 (some .int), Cond.methodLink RX5 120 yX5_counts, Cond.instanceMethod yX5_counts, Cond.selects RX5 yX5_counts yX5_counts, Cond.code yX5_counts cX5_counts 8 (some .boolean), Cond.methodLink RL 70 yX4_age, Cond.instanceMethod yX4_age, Cond.selects RX4 yX4_age yX4_age, Cond.code yX4_age cX4_age 2 (some .int), Cond.fieldLink RX4 141 "VarveClock$Reckoning" "bestAge" "[I", Cond.methodLink RX4 138 yX4_isPlace, Cond.instanceMethod yX4_isPlace, Cond.selects RX4 yX4_isPlace yX4_isPlace, Cond.code yX4_isPlace cX4_isPlace 2 (some .boolean), Cond.methodLink RL 73 yX5_age, Cond.instanceMethod yX5_age, Cond.selects RX5 yX5_age yX5_age, Cond.code yX5_age cX5_age 2 (some .int), Cond.methodLink RL 74 yX4_offset, Cond.instanceMethod yX4_offset, Cond.selects RX4 yX4_offset yX4_offset]
def wsL_law_r26 : List Cond := [Cond.code yX4_offset cX4_offset 2 (some .int), Cond.methodLink RX4 144 yX2_offsetOf, Cond.instanceMethod yX2_offsetOf, Cond.selects RX2 yX2_offsetOf yX2_offsetOf, Cond.code yX2_offsetOf cX2_offsetOf 2 (some .int), Cond.fieldLink RX2 66 "VarveClock$Core" "place" "[I", Cond.fieldLink RX2 71 "VarveClock$Core" "ashAge" "[I", Cond.methodLink RL 77 yX5_offset, Cond.instanceMethod yX5_offset, Cond.selects RX5 yX5_offset yX5_offset, Cond.code yX5_offset cX5_offset 2 (some .int), Cond.methodLink RL 78 yX4_total, Cond.instanceMethod yX4_total, Cond.selects RX4 yX4_total yX4_total, Cond.code yX4_total cX4_total 2 (some .int), Cond.methodLink RX4 147 yX2_layersWith, Cond.instanceMethod yX2_layersWith, Cond.selects RX2 yX2_layersWith yX2_layersWith, Cond.code yX2_layersWith cX2_layersWith 5 (some .int), Cond.fieldLink RX2 77 "VarveClock$Core" "kind" "[I", Cond.methodLink RX4 150 yX2_allMissing, Cond.instanceMethod yX2_allMissing, Cond.selects RX2 yX2_allMissing yX2_allMissing, Cond.code yX2_allMissing cX2_allMissing 3 (some .int)]
def wsL_law_r27 : List Cond := [Cond.methodLink RX4 153 yX2_allOffsets, Cond.instanceMethod yX2_allOffsets, Cond.selects RX2 yX2_allOffsets yX2_allOffsets, Cond.code yX2_allOffsets cX2_allOffsets 3 (some .int), Cond.fieldLink RX2 80 "VarveClock$Core" "ashes" "I", Cond.methodLink RX2 87 Lib.Math.abs.name, Cond.methodLink RX2 83 yX2_offsetOf, Cond.methodLink RL 81 yX5_total, Cond.instanceMethod yX5_total, Cond.selects RX5 yX5_total yX5_total, Cond.code yX5_total cX5_total 5 (some .int), Cond.methodLink RL 82 yX4_ways, Cond.instanceMethod yX4_ways, Cond.selects RX4 yX4_ways yX4_ways, Cond.code yX4_ways cX4_ways 1 (some .int), Cond.methodLink RX4 156 yX2_numberOfWays, Cond.instanceMethod yX2_numberOfWays, Cond.selects RX2 yX2_numberOfWays yX2_numberOfWays, Cond.code yX2_numberOfWays cX2_numberOfWays 1 (some .int), Cond.methodLink RX2 114 yX2_countWays, Cond.instanceMethod yX2_countWays, Cond.selects RX2 yX2_countWays yX2_countWays, Cond.code yX2_countWays cX2_countWays 3 (some .int), Cond.methodLink RX2 130 arraycopyName]
def wsL_law_r28 : List Cond := [Cond.constant RX2 136 (1000000), Cond.methodLink RX2 126 yX2_handOnWays, Cond.instanceMethod yX2_handOnWays, Cond.selects RX2 yX2_handOnWays yX2_handOnWays, Cond.code yX2_handOnWays cX2_handOnWays 9 none, Cond.methodLink RL 85 yX5_ways, Cond.instanceMethod yX5_ways, Cond.selects RX5 yX5_ways yX5_ways, Cond.code yX5_ways cX5_ways 9 (some .int), Cond.constant RX5 124 (1000000), Cond.methodLink RL 86 yX4_rate, Cond.instanceMethod yX4_rate, Cond.selects RX4 yX4_rate yX4_rate, Cond.code yX4_rate cX4_rate 7 (some .int), Cond.methodLink RX4 159 yX4_greatestDivisor, Cond.static yX4_greatestDivisor, Cond.code yX4_greatestDivisor cX4_greatestDivisor 3 (some .int), Cond.methodLink RL 89 yX5_rate, Cond.instanceMethod yX5_rate, Cond.selects RX5 yX5_rate yX5_rate, Cond.code yX5_rate cX5_rate 9 (some .int), Cond.methodLink RL 90 yX4_bound, Cond.instanceMethod yX4_bound, Cond.selects RX4 yX4_bound yX4_bound]
def wsL_law_r29 : List Cond := [Cond.code yX4_bound cX4_bound 5 (some .int), Cond.methodLink RX4 162 yX2_leastAge, Cond.instanceMethod yX2_leastAge, Cond.selects RX2 yX2_leastAge yX2_leastAge, Cond.code yX2_leastAge cX2_leastAge 5 (some .int), Cond.methodLink RX2 92 yX2_makeAbove, Cond.instanceMethod yX2_makeAbove, Cond.selects RX2 yX2_makeAbove yX2_makeAbove, Cond.code yX2_makeAbove cX2_makeAbove 2 none, Cond.methodLink RX2 95 yX2_costThrough, Cond.instanceMethod yX2_costThrough, Cond.selects RX2 yX2_costThrough yX2_costThrough, Cond.code yX2_costThrough cX2_costThrough 3 (some .int), Cond.methodLink RX4 165 yX2_greatestAge, Cond.instanceMethod yX2_greatestAge, Cond.selects RX2 yX2_greatestAge yX2_greatestAge, Cond.code yX2_greatestAge cX2_greatestAge 5 (some .int), Cond.methodLink RL 93 yX5_bound, Cond.instanceMethod yX5_bound, Cond.selects RX5 yX5_bound yX5_bound, Cond.code yX5_bound cX5_bound 9 (some .int), Cond.methodLink RX5 125 yX5_falls, Cond.instanceMethod yX5_falls, Cond.selects RX5 yX5_falls yX5_falls]
def wsL_law_r30 : List Cond := [Cond.code yX5_falls cX5_falls 11 none, Cond.methodLink RL 94 yX4_without, Cond.instanceMethod yX4_without, Cond.selects RX4 yX4_without yX4_without, Cond.code yX4_without cX4_without 2 (some .int), Cond.fieldLink RX4 168 "VarveClock$Core" "place" "[I", Cond.methodLink RX4 171 yX2_leastWithoutAsh, Cond.instanceMethod yX2_leastWithoutAsh, Cond.selects RX2 yX2_leastWithoutAsh yX2_leastWithoutAsh, Cond.code yX2_leastWithoutAsh cX2_leastWithoutAsh 4 (some .int), Cond.methodLink RX4 174 yX4_costOrNotFound, Cond.static yX4_costOrNotFound, Cond.code yX4_costOrNotFound cX4_costOrNotFound 1 (some .int), Cond.constant RX4 193 (268435456), Cond.methodLink RL 97 yX5_without, Cond.instanceMethod yX5_without, Cond.selects RX5 yX5_without yX5_without, Cond.code yX5_without cX5_without 3 (some .int), Cond.methodLink RL 98 yX4_widen, Cond.instanceMethod yX4_widen, Cond.selects RX4 yX4_widen yX4_widen, Cond.code yX4_widen cX4_widen 3 (some .int), Cond.methodLink RX4 177 yX0_fitsWith, Cond.instanceMethod yX0_fitsWith]
def wsL_law_r31 : List Cond := [Cond.selects RX0 yX0_fitsWith yX0_fitsWith, Cond.code yX0_fitsWith cX0_fitsWith 6 (some .boolean), Cond.methodLink RX0 78 Lib.Math.min.name, Cond.methodLink RX0 82 Lib.Math.max.name, Cond.static Lib.Math.max.name, Cond.code Lib.Math.max.name Lib.Math.max.code 2 (some .int), Cond.methodLink RX0 72 yX0_leastOwn, Cond.methodLink RX0 75 yX0_mostYears, Cond.methodLink RL 101 yX5_widen, Cond.instanceMethod yX5_widen, Cond.selects RX5 yX5_widen yX5_widen, Cond.code yX5_widen cX5_widen 3 (some .int), Cond.methodLink RL 102 yX4_costWith, Cond.instanceMethod yX4_costWith, Cond.selects RX4 yX4_costWith yX4_costWith, Cond.code yX4_costWith cX4_costWith 4 (some .int), Cond.methodLink RX4 180 yX2_leastWithAsh, Cond.instanceMethod yX2_leastWithAsh, Cond.selects RX2 yX2_leastWithAsh yX2_leastWithAsh, Cond.code yX2_leastWithAsh cX2_leastWithAsh 8 (some .int), Cond.methodLink RX2 102 Lib.Math.max.name, Cond.fieldLink RX2 105 "VarveClock$Core" "setting" "[I", Cond.methodLink RL 105 yX5_costWith, Cond.instanceMethod yX5_costWith]
def wsL_law_r32 : List Cond := [Cond.selects RX5 yX5_costWith yX5_costWith, Cond.code yX5_costWith cX5_costWith 5 (some .int), Cond.methodLink RL 106 yX4_type, Cond.instanceMethod yX4_type, Cond.selects RX4 yX4_type yX4_type, Cond.code yX4_type cX4_type 2 (some .int), Cond.fieldLink RX4 183 "VarveClock$Script" "length" "I", Cond.methodLink RX4 186 yX3_append, Cond.instanceMethod yX3_append, Cond.selects RX3 yX3_append yX3_append, Cond.code yX3_append cX3_append 2 none, Cond.methodLink RL 109 yX5_type, Cond.instanceMethod yX5_type, Cond.selects RX5 yX5_type yX5_type, Cond.code yX5_type cX5_type 2 (some .int), Cond.methodLink RL 110 yX4_clearText, Cond.instanceMethod yX4_clearText, Cond.selects RX4 yX4_clearText yX4_clearText, Cond.code yX4_clearText cX4_clearText 2 (some .int), Cond.methodLink RL 113 yX5_clearText, Cond.instanceMethod yX5_clearText, Cond.selects RX5 yX5_clearText yX5_clearText, Cond.code yX5_clearText cX5_clearText 2 (some .int), Cond.methodLink RL 114 yX4_fault]
def wsL_law_r33 : List Cond := [Cond.instanceMethod yX4_fault, Cond.selects RX4 yX4_fault yX4_fault, Cond.code yX4_fault cX4_fault 1 (some .int), Cond.methodLink RL 117 yX5_fault]
def wsL_law : List Cond := (wsL_law_r1 ++ (wsL_law_r2 ++ (wsL_law_r3 ++ (wsL_law_r4 ++ (wsL_law_r5 ++ (wsL_law_r6 ++ (wsL_law_r7 ++ (wsL_law_r8 ++ (wsL_law_r9 ++ (wsL_law_r10 ++ (wsL_law_r11 ++ (wsL_law_r12 ++ (wsL_law_r13 ++ (wsL_law_r14 ++ (wsL_law_r15 ++ (wsL_law_r16 ++ (wsL_law_r17 ++ (wsL_law_r18 ++ (wsL_law_r19 ++ (wsL_law_r20 ++ (wsL_law_r21 ++ (wsL_law_r22 ++ (wsL_law_r23 ++ (wsL_law_r24 ++ (wsL_law_r25 ++ (wsL_law_r26 ++ (wsL_law_r27 ++ (wsL_law_r28 ++ (wsL_law_r29 ++ (wsL_law_r30 ++ (wsL_law_r31 ++ (wsL_law_r32 ++ wsL_law_r33)))))))))))))))))))))))))))))))) ++ wsX40 ++ wsX50 ++ wsX00 ++ wsX10 ++ wsX30 ++ wsX20 ++ ([] : List Cond)
set_option maxRecDepth 20000 in
theorem wsL_law_in : ∀ w ∈ wsL_law, w ∈ lw_tbl := fun w h => (goodIn_p wsL_law [67, 70, 75, 124, 144, 168, 678, 237, 240, 244, 248, 262, 252, 256, 266, 270, 273, 735, 739, 742, 746, 750, 277, 281, 285, 289, 293, 296, 754, 758, 762, 766, 300, 303, 306, 310, 770, 314, 318, 323, 774, 778, 327, 331, 782, 786, 336, 790, 340, 344, 348, 352, 357, 361, 365, 371, 375, 378, 381, 386, 389, 392, 395, 399, 409, 413, 422, 427, 944, 908, 912, 916, 920, 924, 928, 932, 936, 940, 435, 439, 794, 443, 447, 451, 798, 802, 806, 455, 810, 459, 463, 814, 467, 471, 475, 479, 484, 488, 494, 497, 502, 506, 510, 514, 518, 522, 526, 530, 534, 539, 818, 822, 826, 830, 834, 839, 843, 847, 543, 851, 855, 547, 551, 859, 555, 559, 863, 563, 567, 571, 575, 867, 581, 585, 589, 593, 871, 599, 602, 876, 606, 610, 614, 618, 622, 880, 884, 626, 630, 633, 888, 638, 642, 648, 892, 652, 656, 896, 661, 665, 900, 669, 904, 673] (by decide +kernel) (by decide +kernel) w h).1
theorem inlX0 : ∀ w ∈ wsX00, w ∈ wsL_law := fun _ h => List.mem_append_left _ (List.mem_append_left _ (List.mem_append_left _ (List.mem_append_left _ (List.mem_append_right _ h))))
theorem inX0 : ∀ w ∈ wsX00, w ∈ lw_tbl := fun w h => wsL_law_in w (inlX0 w h)
theorem inlX1 : ∀ w ∈ wsX10, w ∈ wsL_law := fun _ h => List.mem_append_left _ (List.mem_append_left _ (List.mem_append_left _ (List.mem_append_right _ h)))
theorem inX1 : ∀ w ∈ wsX10, w ∈ lw_tbl := fun w h => wsL_law_in w (inlX1 w h)
theorem inlX2 : ∀ w ∈ wsX20, w ∈ wsL_law := fun _ h => List.mem_append_left _ (List.mem_append_right _ h)
theorem inX2 : ∀ w ∈ wsX20, w ∈ lw_tbl := fun w h => wsL_law_in w (inlX2 w h)
theorem inlX3 : ∀ w ∈ wsX30, w ∈ wsL_law := fun _ h => List.mem_append_left _ (List.mem_append_left _ (List.mem_append_right _ h))
theorem inX3 : ∀ w ∈ wsX30, w ∈ lw_tbl := fun w h => wsL_law_in w (inlX3 w h)
theorem inlX4 : ∀ w ∈ wsX40, w ∈ wsL_law := fun _ h => List.mem_append_left _ (List.mem_append_left _ (List.mem_append_left _ (List.mem_append_left _ (List.mem_append_left _ (List.mem_append_left _ (List.mem_append_right _ h))))))
theorem inX4 : ∀ w ∈ wsX40, w ∈ lw_tbl := fun w h => wsL_law_in w (inlX4 w h)
theorem inlX5 : ∀ w ∈ wsX50, w ∈ wsL_law := fun _ h => List.mem_append_left _ (List.mem_append_left _ (List.mem_append_left _ (List.mem_append_left _ (List.mem_append_left _ (List.mem_append_right _ h)))))
theorem inX5 : ∀ w ∈ wsX50, w ∈ lw_tbl := fun w h => wsL_law_in w (inlX5 w h)
abbrev vwCl : List vw_C := [(RX0, TX0, 9), (RX1, TX1, 3), (RX2, TX2, 15), (RX3, TX3, 4), (RX4, TX4, 4), (RX5, TX5, 17)]
end
