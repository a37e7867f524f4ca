section
-- ===== PART A: goes FIRST, ahead of the names: the tables' words, and 'selects' of the private methods out of them =====
/-- a private method of a class that the tables say can be made, by its rows of tables_1 -/
def lw_okq (q : MethodName × Nat) : Prop := (q.1.cls ≠ "java/lang/invoke/MethodHandle" ∧ q.1.cls ≠ "java/lang/invoke/VarHandle") ∧ Cond.instantiable q.1.cls q.2 ∈ tables_1 ∧ Cond.privateMethod q.1 ∈ tables_1 ∧ Cond.instanceMethod q.1 ∈ tables_1
theorem lw_p0 : lw_okq (⟨"OneLevelStore$Row", "cellOf", "(I)I"⟩, 3) := ⟨⟨by decide +kernel, by decide +kernel⟩, List.mem_of_getElem? (i := 25) (by decide +kernel), List.mem_of_getElem? (i := 398) (by decide +kernel), List.mem_of_getElem? (i := 399) (by decide +kernel)⟩
theorem lw_p1 : lw_okq (⟨"OneLevelStore", "jobOf", "(I)LOneLevelStore$Job;"⟩, 13) := ⟨⟨by decide +kernel, by decide +kernel⟩, List.mem_of_getElem? (i := 17) (by decide +kernel), List.mem_of_getElem? (i := 410) (by decide +kernel), List.mem_of_getElem? (i := 411) (by decide +kernel)⟩
theorem lw_p2 : lw_okq (⟨"OneLevelStore", "countNewBlocks", "(LOneLevelStore$Job;I)I"⟩, 13) := ⟨⟨by decide +kernel, by decide +kernel⟩, List.mem_of_getElem? (i := 17) (by decide +kernel), List.mem_of_getElem? (i := 418) (by decide +kernel), List.mem_of_getElem? (i := 419) (by decide +kernel)⟩
theorem lw_p3 : lw_okq (⟨"OneLevelStore", "reservedBesides", "(LOneLevelStore$Job;)I"⟩, 13) := ⟨⟨by decide +kernel, by decide +kernel⟩, List.mem_of_getElem? (i := 17) (by decide +kernel), List.mem_of_getElem? (i := 426) (by decide +kernel), List.mem_of_getElem? (i := 427) (by decide +kernel)⟩
theorem lw_p4 : lw_okq (⟨"OneLevelStore", "pageToLoad", "(LOneLevelStore$Job;I)LOneLevelStore$Page;"⟩, 13) := ⟨⟨by decide +kernel, by decide +kernel⟩, List.mem_of_getElem? (i := 17) (by decide +kernel), List.mem_of_getElem? (i := 442) (by decide +kernel), List.mem_of_getElem? (i := 443) (by decide +kernel)⟩
theorem lw_p5 : lw_okq (⟨"OneLevelStore", "tick", "()V"⟩, 13) := ⟨⟨by decide +kernel, by decide +kernel⟩, List.mem_of_getElem? (i := 17) (by decide +kernel), List.mem_of_getElem? (i := 506) (by decide +kernel), List.mem_of_getElem? (i := 507) (by decide +kernel)⟩
theorem lw_p6 : lw_okq (⟨"OneLevelStore$Drum", "placeFor", "(ILOneLevelStore$Page;I)LOneLevelStore$Place;"⟩, 8) := ⟨⟨by decide +kernel, by decide +kernel⟩, List.mem_of_getElem? (i := 94) (by decide +kernel), List.mem_of_getElem? (i := 529) (by decide +kernel), List.mem_of_getElem? (i := 530) (by decide +kernel)⟩
theorem lw_p7 : lw_okq (⟨"OneLevelStore$Drum", "removeAt", "(I)V"⟩, 8) := ⟨⟨by decide +kernel, by decide +kernel⟩, List.mem_of_getElem? (i := 94) (by decide +kernel), List.mem_of_getElem? (i := 534) (by decide +kernel), List.mem_of_getElem? (i := 535) (by decide +kernel)⟩
theorem lw_p8 : lw_okq (⟨"OneLevelStore", "wakeJobs", "()V"⟩, 13) := ⟨⟨by decide +kernel, by decide +kernel⟩, List.mem_of_getElem? (i := 17) (by decide +kernel), List.mem_of_getElem? (i := 539) (by decide +kernel), List.mem_of_getElem? (i := 540) (by decide +kernel)⟩
theorem lw_p9 : lw_okq (⟨"OneLevelStore", "findFrames", "()V"⟩, 13) := ⟨⟨by decide +kernel, by decide +kernel⟩, List.mem_of_getElem? (i := 17) (by decide +kernel), List.mem_of_getElem? (i := 551) (by decide +kernel), List.mem_of_getElem? (i := 552) (by decide +kernel)⟩
theorem lw_p10 : lw_okq (⟨"OneLevelStore", "findFrame", "(LOneLevelStore$Job;LOneLevelStore$Page;)V"⟩, 13) := ⟨⟨by decide +kernel, by decide +kernel⟩, List.mem_of_getElem? (i := 17) (by decide +kernel), List.mem_of_getElem? (i := 555) (by decide +kernel), List.mem_of_getElem? (i := 556) (by decide +kernel)⟩
theorem lw_p11 : lw_okq (⟨"OneLevelStore", "keepFrameEmpty", "()V"⟩, 13) := ⟨⟨by decide +kernel, by decide +kernel⟩, List.mem_of_getElem? (i := 17) (by decide +kernel), List.mem_of_getElem? (i := 568) (by decide +kernel), List.mem_of_getElem? (i := 569) (by decide +kernel)⟩
theorem lw_p12 : lw_okq (⟨"OneLevelStore$Core", "best", "(Z)LOneLevelStore$Frame;"⟩, 1) := ⟨⟨by decide +kernel, by decide +kernel⟩, List.mem_of_getElem? (i := 178) (by decide +kernel), List.mem_of_getElem? (i := 576) (by decide +kernel), List.mem_of_getElem? (i := 577) (by decide +kernel)⟩
theorem lw_p13 : lw_okq (⟨"OneLevelStore", "firstReady", "()LOneLevelStore$Job;"⟩, 13) := ⟨⟨by decide +kernel, by decide +kernel⟩, List.mem_of_getElem? (i := 17) (by decide +kernel), List.mem_of_getElem? (i := 597) (by decide +kernel), List.mem_of_getElem? (i := 598) (by decide +kernel)⟩
theorem lw_p14 : lw_okq (⟨"OneLevelStore$Processor", "missing", "(I)I"⟩, 8) := ⟨⟨by decide +kernel, by decide +kernel⟩, List.mem_of_getElem? (i := 242) (by decide +kernel), List.mem_of_getElem? (i := 614) (by decide +kernel), List.mem_of_getElem? (i := 615) (by decide +kernel)⟩
theorem lw_p15 : lw_okq (⟨"OneLevelStore$Processor", "decode", "(J)V"⟩, 8) := ⟨⟨by decide +kernel, by decide +kernel⟩, List.mem_of_getElem? (i := 242) (by decide +kernel), List.mem_of_getElem? (i := 628) (by decide +kernel), List.mem_of_getElem? (i := 629) (by decide +kernel)⟩
def lw_privs_1 : List (MethodName × Nat) := [(⟨"OneLevelStore$Row", "cellOf", "(I)I"⟩, 3), (⟨"OneLevelStore", "jobOf", "(I)LOneLevelStore$Job;"⟩, 13), (⟨"OneLevelStore", "countNewBlocks", "(LOneLevelStore$Job;I)I"⟩, 13), (⟨"OneLevelStore", "reservedBesides", "(LOneLevelStore$Job;)I"⟩, 13), (⟨"OneLevelStore", "pageToLoad", "(LOneLevelStore$Job;I)LOneLevelStore$Page;"⟩, 13), (⟨"OneLevelStore", "tick", "()V"⟩, 13), (⟨"OneLevelStore$Drum", "placeFor", "(ILOneLevelStore$Page;I)LOneLevelStore$Place;"⟩, 8), (⟨"OneLevelStore$Drum", "removeAt", "(I)V"⟩, 8), (⟨"OneLevelStore", "wakeJobs", "()V"⟩, 13), (⟨"OneLevelStore", "findFrames", "()V"⟩, 13), (⟨"OneLevelStore", "findFrame", "(LOneLevelStore$Job;LOneLevelStore$Page;)V"⟩, 13), (⟨"OneLevelStore", "keepFrameEmpty", "()V"⟩, 13), (⟨"OneLevelStore$Core", "best", "(Z)LOneLevelStore$Frame;"⟩, 1), (⟨"OneLevelStore", "firstReady", "()LOneLevelStore$Job;"⟩, 13), (⟨"OneLevelStore$Processor", "missing", "(I)I"⟩, 8), (⟨"OneLevelStore$Processor", "decode", "(J)V"⟩, 8)]
theorem lw_r1 : ∀ q ∈ lw_privs_1, lw_okq q := List.forall_mem_cons.mpr ⟨lw_p0, List.forall_mem_cons.mpr ⟨lw_p1, List.forall_mem_cons.mpr ⟨lw_p2, List.forall_mem_cons.mpr ⟨lw_p3, List.forall_mem_cons.mpr ⟨lw_p4, List.forall_mem_cons.mpr ⟨lw_p5, List.forall_mem_cons.mpr ⟨lw_p6, List.forall_mem_cons.mpr ⟨lw_p7, List.forall_mem_cons.mpr ⟨lw_p8, List.forall_mem_cons.mpr ⟨lw_p9, List.forall_mem_cons.mpr ⟨lw_p10, List.forall_mem_cons.mpr ⟨lw_p11, List.forall_mem_cons.mpr ⟨lw_p12, List.forall_mem_cons.mpr ⟨lw_p13, List.forall_mem_cons.mpr ⟨lw_p14, List.forall_mem_cons.mpr ⟨lw_p15, fun _ h => absurd h List.not_mem_nil⟩⟩⟩⟩⟩⟩⟩⟩⟩⟩⟩⟩⟩⟩⟩⟩
theorem lw_p16 : lw_okq (⟨"OneLevelStore$Processor", "perform", "()I"⟩, 8) := ⟨⟨by decide +kernel, by decide +kernel⟩, List.mem_of_getElem? (i := 242) (by decide +kernel), List.mem_of_getElem? (i := 634) (by decide +kernel), List.mem_of_getElem? (i := 635) (by decide +kernel)⟩
theorem lw_p17 : lw_okq (⟨"OneLevelStore$Processor", "hasOperand", "()Z"⟩, 8) := ⟨⟨by decide +kernel, by decide +kernel⟩, List.mem_of_getElem? (i := 242) (by decide +kernel), List.mem_of_getElem? (i := 638) (by decide +kernel), List.mem_of_getElem? (i := 639) (by decide +kernel)⟩
theorem lw_p18 : lw_okq (⟨"OneLevelStore$Processor", "withOperand", "()I"⟩, 8) := ⟨⟨by decide +kernel, by decide +kernel⟩, List.mem_of_getElem? (i := 242) (by decide +kernel), List.mem_of_getElem? (i := 642) (by decide +kernel), List.mem_of_getElem? (i := 643) (by decide +kernel)⟩
theorem lw_p19 : lw_okq (⟨"OneLevelStore$Processor", "effective", "()I"⟩, 8) := ⟨⟨by decide +kernel, by decide +kernel⟩, List.mem_of_getElem? (i := 242) (by decide +kernel), List.mem_of_getElem? (i := 646) (by decide +kernel), List.mem_of_getElem? (i := 647) (by decide +kernel)⟩
theorem lw_p20 : lw_okq (⟨"OneLevelStore$Processor", "registerWithWord", "(LOneLevelStore$Page;I)I"⟩, 8) := ⟨⟨by decide +kernel, by decide +kernel⟩, List.mem_of_getElem? (i := 242) (by decide +kernel), List.mem_of_getElem? (i := 650) (by decide +kernel), List.mem_of_getElem? (i := 651) (by decide +kernel)⟩
theorem lw_p21 : lw_okq (⟨"OneLevelStore$Processor", "accumulatorWithWord", "(LOneLevelStore$Page;I)I"⟩, 8) := ⟨⟨by decide +kernel, by decide +kernel⟩, List.mem_of_getElem? (i := 242) (by decide +kernel), List.mem_of_getElem? (i := 659) (by decide +kernel), List.mem_of_getElem? (i := 660) (by decide +kernel)⟩
theorem lw_p22 : lw_okq (⟨"OneLevelStore$Processor", "registerOrder", "()I"⟩, 8) := ⟨⟨by decide +kernel, by decide +kernel⟩, List.mem_of_getElem? (i := 242) (by decide +kernel), List.mem_of_getElem? (i := 663) (by decide +kernel), List.mem_of_getElem? (i := 664) (by decide +kernel)⟩
theorem lw_p23 : lw_okq (⟨"OneLevelStore$Processor", "jumpOrder", "()I"⟩, 8) := ⟨⟨by decide +kernel, by decide +kernel⟩, List.mem_of_getElem? (i := 242) (by decide +kernel), List.mem_of_getElem? (i := 667) (by decide +kernel), List.mem_of_getElem? (i := 668) (by decide +kernel)⟩
theorem lw_p24 : lw_okq (⟨"OneLevelStore$Processor", "count", "(I)V"⟩, 8) := ⟨⟨by decide +kernel, by decide +kernel⟩, List.mem_of_getElem? (i := 242) (by decide +kernel), List.mem_of_getElem? (i := 671) (by decide +kernel), List.mem_of_getElem? (i := 672) (by decide +kernel)⟩
theorem lw_p25 : lw_okq (⟨"OneLevelStore$Processor", "goWhen", "(JI)V"⟩, 8) := ⟨⟨by decide +kernel, by decide +kernel⟩, List.mem_of_getElem? (i := 242) (by decide +kernel), List.mem_of_getElem? (i := 675) (by decide +kernel), List.mem_of_getElem? (i := 676) (by decide +kernel)⟩
theorem lw_p26 : lw_okq (⟨"OneLevelStore$Processor", "shiftOrder", "()I"⟩, 8) := ⟨⟨by decide +kernel, by decide +kernel⟩, List.mem_of_getElem? (i := 242) (by decide +kernel), List.mem_of_getElem? (i := 682) (by decide +kernel), List.mem_of_getElem? (i := 683) (by decide +kernel)⟩
theorem lw_p27 : lw_okq (⟨"OneLevelStore$Processor", "extracode", "()I"⟩, 8) := ⟨⟨by decide +kernel, by decide +kernel⟩, List.mem_of_getElem? (i := 242) (by decide +kernel), List.mem_of_getElem? (i := 687) (by decide +kernel), List.mem_of_getElem? (i := 688) (by decide +kernel)⟩
theorem lw_p28 : lw_okq (⟨"OneLevelStore", "settle", "(LOneLevelStore$Job;I)V"⟩, 13) := ⟨⟨by decide +kernel, by decide +kernel⟩, List.mem_of_getElem? (i := 17) (by decide +kernel), List.mem_of_getElem? (i := 710) (by decide +kernel), List.mem_of_getElem? (i := 711) (by decide +kernel)⟩
theorem lw_p29 : lw_okq (⟨"OneLevelStore", "close", "(LOneLevelStore$Job;I)V"⟩, 13) := ⟨⟨by decide +kernel, by decide +kernel⟩, List.mem_of_getElem? (i := 17) (by decide +kernel), List.mem_of_getElem? (i := 714) (by decide +kernel), List.mem_of_getElem? (i := 715) (by decide +kernel)⟩
theorem lw_p30 : lw_okq (⟨"OneLevelStoreModel", "fresh", "(I)V"⟩, 51) := ⟨⟨by decide +kernel, by decide +kernel⟩, List.mem_of_getElem? (i := 861) (by decide +kernel), List.mem_of_getElem? (i := 868) (by decide +kernel), List.mem_of_getElem? (i := 869) (by decide +kernel)⟩
theorem lw_p31 : lw_okq (⟨"OneLevelStoreModel", "slot", "(II)I"⟩, 51) := ⟨⟨by decide +kernel, by decide +kernel⟩, List.mem_of_getElem? (i := 861) (by decide +kernel), List.mem_of_getElem? (i := 1043) (by decide +kernel), List.mem_of_getElem? (i := 1044) (by decide +kernel)⟩
def lw_privs_2 : List (MethodName × Nat) := [(⟨"OneLevelStore$Processor", "perform", "()I"⟩, 8), (⟨"OneLevelStore$Processor", "hasOperand", "()Z"⟩, 8), (⟨"OneLevelStore$Processor", "withOperand", "()I"⟩, 8), (⟨"OneLevelStore$Processor", "effective", "()I"⟩, 8), (⟨"OneLevelStore$Processor", "registerWithWord", "(LOneLevelStore$Page;I)I"⟩, 8), (⟨"OneLevelStore$Processor", "accumulatorWithWord", "(LOneLevelStore$Page;I)I"⟩, 8), (⟨"OneLevelStore$Processor", "registerOrder", "()I"⟩, 8), (⟨"OneLevelStore$Processor", "jumpOrder", "()I"⟩, 8), (⟨"OneLevelStore$Processor", "count", "(I)V"⟩, 8), (⟨"OneLevelStore$Processor", "goWhen", "(JI)V"⟩, 8), (⟨"OneLevelStore$Processor", "shiftOrder", "()I"⟩, 8), (⟨"OneLevelStore$Processor", "extracode", "()I"⟩, 8), (⟨"OneLevelStore", "settle", "(LOneLevelStore$Job;I)V"⟩, 13), (⟨"OneLevelStore", "close", "(LOneLevelStore$Job;I)V"⟩, 13), (⟨"OneLevelStoreModel", "fresh", "(I)V"⟩, 51), (⟨"OneLevelStoreModel", "slot", "(II)I"⟩, 51)]
theorem lw_r2 : ∀ q ∈ lw_privs_2, lw_okq q := List.forall_mem_cons.mpr ⟨lw_p16, List.forall_mem_cons.mpr ⟨lw_p17, List.forall_mem_cons.mpr ⟨lw_p18, List.forall_mem_cons.mpr ⟨lw_p19, List.forall_mem_cons.mpr ⟨lw_p20, List.forall_mem_cons.mpr ⟨lw_p21, List.forall_mem_cons.mpr ⟨lw_p22, List.forall_mem_cons.mpr ⟨lw_p23, List.forall_mem_cons.mpr ⟨lw_p24, List.forall_mem_cons.mpr ⟨lw_p25, List.forall_mem_cons.mpr ⟨lw_p26, List.forall_mem_cons.mpr ⟨lw_p27, List.forall_mem_cons.mpr ⟨lw_p28, List.forall_mem_cons.mpr ⟨lw_p29, List.forall_mem_cons.mpr ⟨lw_p30, List.forall_mem_cons.mpr ⟨lw_p31, fun _ h => absurd h List.not_mem_nil⟩⟩⟩⟩⟩⟩⟩⟩⟩⟩⟩⟩⟩⟩⟩⟩
theorem lw_p32 : lw_okq (⟨"OneLevelStoreModel", "blocksBut", "(I)I"⟩, 51) := ⟨⟨by decide +kernel, by decide +kernel⟩, List.mem_of_getElem? (i := 861) (by decide +kernel), List.mem_of_getElem? (i := 1047) (by decide +kernel), List.mem_of_getElem? (i := 1048) (by decide +kernel)⟩
theorem lw_p33 : lw_okq (⟨"OneLevelStoreModel", "isOver", "(I)Z"⟩, 51) := ⟨⟨by decide +kernel, by decide +kernel⟩, List.mem_of_getElem? (i := 861) (by decide +kernel), List.mem_of_getElem? (i := 1051) (by decide +kernel), List.mem_of_getElem? (i := 1052) (by decide +kernel)⟩
theorem lw_p34 : lw_okq (⟨"OneLevelStoreModel", "freePlaces", "()I"⟩, 51) := ⟨⟨by decide +kernel, by decide +kernel⟩, List.mem_of_getElem? (i := 861) (by decide +kernel), List.mem_of_getElem? (i := 1055) (by decide +kernel), List.mem_of_getElem? (i := 1056) (by decide +kernel)⟩
theorem lw_p35 : lw_okq (⟨"OneLevelStoreModel", "newSlot", "(II)I"⟩, 51) := ⟨⟨by decide +kernel, by decide +kernel⟩, List.mem_of_getElem? (i := 861) (by decide +kernel), List.mem_of_getElem? (i := 1059) (by decide +kernel), List.mem_of_getElem? (i := 1060) (by decide +kernel)⟩
theorem lw_p36 : lw_okq (⟨"OneLevelStoreModel", "put", "(IIJ)V"⟩, 51) := ⟨⟨by decide +kernel, by decide +kernel⟩, List.mem_of_getElem? (i := 861) (by decide +kernel), List.mem_of_getElem? (i := 1063) (by decide +kernel), List.mem_of_getElem? (i := 1064) (by decide +kernel)⟩
theorem lw_p37 : lw_okq (⟨"OneLevelStoreModel", "tick", "()V"⟩, 51) := ⟨⟨by decide +kernel, by decide +kernel⟩, List.mem_of_getElem? (i := 861) (by decide +kernel), List.mem_of_getElem? (i := 1085) (by decide +kernel), List.mem_of_getElem? (i := 1086) (by decide +kernel)⟩
theorem lw_p38 : lw_okq (⟨"OneLevelStoreModel", "drumTurns", "(I)V"⟩, 51) := ⟨⟨by decide +kernel, by decide +kernel⟩, List.mem_of_getElem? (i := 861) (by decide +kernel), List.mem_of_getElem? (i := 1089) (by decide +kernel), List.mem_of_getElem? (i := 1090) (by decide +kernel)⟩
theorem lw_p39 : lw_okq (⟨"OneLevelStoreModel", "comes", "(I)V"⟩, 51) := ⟨⟨by decide +kernel, by decide +kernel⟩, List.mem_of_getElem? (i := 861) (by decide +kernel), List.mem_of_getElem? (i := 1093) (by decide +kernel), List.mem_of_getElem? (i := 1094) (by decide +kernel)⟩
theorem lw_p40 : lw_okq (⟨"OneLevelStoreModel", "placeOf", "(II)I"⟩, 51) := ⟨⟨by decide +kernel, by decide +kernel⟩, List.mem_of_getElem? (i := 861) (by decide +kernel), List.mem_of_getElem? (i := 1097) (by decide +kernel), List.mem_of_getElem? (i := 1098) (by decide +kernel)⟩
theorem lw_p41 : lw_okq (⟨"OneLevelStoreModel", "leaves", "(I)V"⟩, 51) := ⟨⟨by decide +kernel, by decide +kernel⟩, List.mem_of_getElem? (i := 861) (by decide +kernel), List.mem_of_getElem? (i := 1101) (by decide +kernel), List.mem_of_getElem? (i := 1102) (by decide +kernel)⟩
theorem lw_p42 : lw_okq (⟨"OneLevelStoreModel", "bring", "()V"⟩, 51) := ⟨⟨by decide +kernel, by decide +kernel⟩, List.mem_of_getElem? (i := 861) (by decide +kernel), List.mem_of_getElem? (i := 1105) (by decide +kernel), List.mem_of_getElem? (i := 1106) (by decide +kernel)⟩
theorem lw_p43 : lw_okq (⟨"OneLevelStoreModel", "frameOf", "(II)I"⟩, 51) := ⟨⟨by decide +kernel, by decide +kernel⟩, List.mem_of_getElem? (i := 861) (by decide +kernel), List.mem_of_getElem? (i := 1109) (by decide +kernel), List.mem_of_getElem? (i := 1110) (by decide +kernel)⟩
theorem lw_p44 : lw_okq (⟨"OneLevelStoreModel", "ready", "(I)V"⟩, 51) := ⟨⟨by decide +kernel, by decide +kernel⟩, List.mem_of_getElem? (i := 861) (by decide +kernel), List.mem_of_getElem? (i := 1113) (by decide +kernel), List.mem_of_getElem? (i := 1114) (by decide +kernel)⟩
theorem lw_p45 : lw_okq (⟨"OneLevelStoreModel", "emptyFrame", "()I"⟩, 51) := ⟨⟨by decide +kernel, by decide +kernel⟩, List.mem_of_getElem? (i := 861) (by decide +kernel), List.mem_of_getElem? (i := 1117) (by decide +kernel), List.mem_of_getElem? (i := 1118) (by decide +kernel)⟩
theorem lw_p46 : lw_okq (⟨"OneLevelStoreModel", "queues", "(II)V"⟩, 51) := ⟨⟨by decide +kernel, by decide +kernel⟩, List.mem_of_getElem? (i := 861) (by decide +kernel), List.mem_of_getElem? (i := 1121) (by decide +kernel), List.mem_of_getElem? (i := 1122) (by decide +kernel)⟩
theorem lw_p47 : lw_okq (⟨"OneLevelStoreModel", "choice", "()I"⟩, 51) := ⟨⟨by decide +kernel, by decide +kernel⟩, List.mem_of_getElem? (i := 861) (by decide +kernel), List.mem_of_getElem? (i := 1125) (by decide +kernel), List.mem_of_getElem? (i := 1126) (by decide +kernel)⟩
def lw_privs_3 : List (MethodName × Nat) := [(⟨"OneLevelStoreModel", "blocksBut", "(I)I"⟩, 51), (⟨"OneLevelStoreModel", "isOver", "(I)Z"⟩, 51), (⟨"OneLevelStoreModel", "freePlaces", "()I"⟩, 51), (⟨"OneLevelStoreModel", "newSlot", "(II)I"⟩, 51), (⟨"OneLevelStoreModel", "put", "(IIJ)V"⟩, 51), (⟨"OneLevelStoreModel", "tick", "()V"⟩, 51), (⟨"OneLevelStoreModel", "drumTurns", "(I)V"⟩, 51), (⟨"OneLevelStoreModel", "comes", "(I)V"⟩, 51), (⟨"OneLevelStoreModel", "placeOf", "(II)I"⟩, 51), (⟨"OneLevelStoreModel", "leaves", "(I)V"⟩, 51), (⟨"OneLevelStoreModel", "bring", "()V"⟩, 51), (⟨"OneLevelStoreModel", "frameOf", "(II)I"⟩, 51), (⟨"OneLevelStoreModel", "ready", "(I)V"⟩, 51), (⟨"OneLevelStoreModel", "emptyFrame", "()I"⟩, 51), (⟨"OneLevelStoreModel", "queues", "(II)V"⟩, 51), (⟨"OneLevelStoreModel", "choice", "()I"⟩, 51)]
theorem lw_r3 : ∀ q ∈ lw_privs_3, lw_okq q := List.forall_mem_cons.mpr ⟨lw_p32, List.forall_mem_cons.mpr ⟨lw_p33, List.forall_mem_cons.mpr ⟨lw_p34, List.forall_mem_cons.mpr ⟨lw_p35, List.forall_mem_cons.mpr ⟨lw_p36, List.forall_mem_cons.mpr ⟨lw_p37, List.forall_mem_cons.mpr ⟨lw_p38, List.forall_mem_cons.mpr ⟨lw_p39, List.forall_mem_cons.mpr ⟨lw_p40, List.forall_mem_cons.mpr ⟨lw_p41, List.forall_mem_cons.mpr ⟨lw_p42, List.forall_mem_cons.mpr ⟨lw_p43, List.forall_mem_cons.mpr ⟨lw_p44, List.forall_mem_cons.mpr ⟨lw_p45, List.forall_mem_cons.mpr ⟨lw_p46, List.forall_mem_cons.mpr ⟨lw_p47, fun _ h => absurd h List.not_mem_nil⟩⟩⟩⟩⟩⟩⟩⟩⟩⟩⟩⟩⟩⟩⟩⟩
theorem lw_p48 : lw_okq (⟨"OneLevelStoreModel", "works", "(II)Z"⟩, 51) := ⟨⟨by decide +kernel, by decide +kernel⟩, List.mem_of_getElem? (i := 861) (by decide +kernel), List.mem_of_getElem? (i := 1129) (by decide +kernel), List.mem_of_getElem? (i := 1130) (by decide +kernel)⟩
theorem lw_p49 : lw_okq (⟨"OneLevelStoreModel", "fails", "(III)Z"⟩, 51) := ⟨⟨by decide +kernel, by decide +kernel⟩, List.mem_of_getElem? (i := 861) (by decide +kernel), List.mem_of_getElem? (i := 1133) (by decide +kernel), List.mem_of_getElem? (i := 1134) (by decide +kernel)⟩
theorem lw_p50 : lw_okq (⟨"OneLevelStoreModel", "ends", "(III)V"⟩, 51) := ⟨⟨by decide +kernel, by decide +kernel⟩, List.mem_of_getElem? (i := 861) (by decide +kernel), List.mem_of_getElem? (i := 1137) (by decide +kernel), List.mem_of_getElem? (i := 1138) (by decide +kernel)⟩
theorem lw_p51 : lw_okq (⟨"OneLevelStoreModel", "reg", "(II)I"⟩, 51) := ⟨⟨by decide +kernel, by decide +kernel⟩, List.mem_of_getElem? (i := 861) (by decide +kernel), List.mem_of_getElem? (i := 1141) (by decide +kernel), List.mem_of_getElem? (i := 1142) (by decide +kernel)⟩
theorem lw_p52 : lw_okq (⟨"OneLevelStoreModel", "wants", "(III)I"⟩, 51) := ⟨⟨by decide +kernel, by decide +kernel⟩, List.mem_of_getElem? (i := 861) (by decide +kernel), List.mem_of_getElem? (i := 1145) (by decide +kernel), List.mem_of_getElem? (i := 1146) (by decide +kernel)⟩
theorem lw_p53 : lw_okq (⟨"OneLevelStoreModel", "at", "(II)J"⟩, 51) := ⟨⟨by decide +kernel, by decide +kernel⟩, List.mem_of_getElem? (i := 861) (by decide +kernel), List.mem_of_getElem? (i := 1149) (by decide +kernel), List.mem_of_getElem? (i := 1150) (by decide +kernel)⟩
theorem lw_p54 : lw_okq (⟨"OneLevelStoreModel", "wrong", "(III)I"⟩, 51) := ⟨⟨by decide +kernel, by decide +kernel⟩, List.mem_of_getElem? (i := 861) (by decide +kernel), List.mem_of_getElem? (i := 1175) (by decide +kernel), List.mem_of_getElem? (i := 1176) (by decide +kernel)⟩
theorem lw_p55 : lw_okq (⟨"OneLevelStoreModel", "touches", "(II)V"⟩, 51) := ⟨⟨by decide +kernel, by decide +kernel⟩, List.mem_of_getElem? (i := 861) (by decide +kernel), List.mem_of_getElem? (i := 1179) (by decide +kernel), List.mem_of_getElem? (i := 1180) (by decide +kernel)⟩
theorem lw_p56 : lw_okq (⟨"OneLevelStoreModel", "registers", "(IIII)V"⟩, 51) := ⟨⟨by decide +kernel, by decide +kernel⟩, List.mem_of_getElem? (i := 861) (by decide +kernel), List.mem_of_getElem? (i := 1183) (by decide +kernel), List.mem_of_getElem? (i := 1184) (by decide +kernel)⟩
theorem lw_p57 : lw_okq (⟨"OneLevelStoreModel", "sets", "(IIJ)V"⟩, 51) := ⟨⟨by decide +kernel, by decide +kernel⟩, List.mem_of_getElem? (i := 861) (by decide +kernel), List.mem_of_getElem? (i := 1187) (by decide +kernel), List.mem_of_getElem? (i := 1188) (by decide +kernel)⟩
theorem lw_p58 : lw_okq (⟨"OneLevelStoreModel", "jumps", "(IIIIII)V"⟩, 51) := ⟨⟨by decide +kernel, by decide +kernel⟩, List.mem_of_getElem? (i := 861) (by decide +kernel), List.mem_of_getElem? (i := 1194) (by decide +kernel), List.mem_of_getElem? (i := 1195) (by decide +kernel)⟩
theorem lw_p59 : lw_okq (⟨"OneLevelStoreModel", "sums", "(III)V"⟩, 51) := ⟨⟨by decide +kernel, by decide +kernel⟩, List.mem_of_getElem? (i := 861) (by decide +kernel), List.mem_of_getElem? (i := 1201) (by decide +kernel), List.mem_of_getElem? (i := 1202) (by decide +kernel)⟩
theorem lw_p60 : lw_okq (⟨"OneLevelStoreModel", "extra", "(IIII)V"⟩, 51) := ⟨⟨by decide +kernel, by decide +kernel⟩, List.mem_of_getElem? (i := 861) (by decide +kernel), List.mem_of_getElem? (i := 1206) (by decide +kernel), List.mem_of_getElem? (i := 1207) (by decide +kernel)⟩
theorem lw_p61 : lw_okq (⟨"OneLevelStoreModel", "look", "()V"⟩, 51) := ⟨⟨by decide +kernel, by decide +kernel⟩, List.mem_of_getElem? (i := 861) (by decide +kernel), List.mem_of_getElem? (i := 1211) (by decide +kernel), List.mem_of_getElem? (i := 1212) (by decide +kernel)⟩
theorem lw_p62 : lw_okq (⟨"OneLevelStoreModel", "prints", "()V"⟩, 51) := ⟨⟨by decide +kernel, by decide +kernel⟩, List.mem_of_getElem? (i := 861) (by decide +kernel), List.mem_of_getElem? (i := 1215) (by decide +kernel), List.mem_of_getElem? (i := 1216) (by decide +kernel)⟩
def lw_privs_4 : List (MethodName × Nat) := [(⟨"OneLevelStoreModel", "works", "(II)Z"⟩, 51), (⟨"OneLevelStoreModel", "fails", "(III)Z"⟩, 51), (⟨"OneLevelStoreModel", "ends", "(III)V"⟩, 51), (⟨"OneLevelStoreModel", "reg", "(II)I"⟩, 51), (⟨"OneLevelStoreModel", "wants", "(III)I"⟩, 51), (⟨"OneLevelStoreModel", "at", "(II)J"⟩, 51), (⟨"OneLevelStoreModel", "wrong", "(III)I"⟩, 51), (⟨"OneLevelStoreModel", "touches", "(II)V"⟩, 51), (⟨"OneLevelStoreModel", "registers", "(IIII)V"⟩, 51), (⟨"OneLevelStoreModel", "sets", "(IIJ)V"⟩, 51), (⟨"OneLevelStoreModel", "jumps", "(IIIIII)V"⟩, 51), (⟨"OneLevelStoreModel", "sums", "(III)V"⟩, 51), (⟨"OneLevelStoreModel", "extra", "(IIII)V"⟩, 51), (⟨"OneLevelStoreModel", "look", "()V"⟩, 51), (⟨"OneLevelStoreModel", "prints", "()V"⟩, 51)]
theorem lw_r4 : ∀ q ∈ lw_privs_4, lw_okq q := List.forall_mem_cons.mpr ⟨lw_p48, List.forall_mem_cons.mpr ⟨lw_p49, List.forall_mem_cons.mpr ⟨lw_p50, List.forall_mem_cons.mpr ⟨lw_p51, List.forall_mem_cons.mpr ⟨lw_p52, List.forall_mem_cons.mpr ⟨lw_p53, List.forall_mem_cons.mpr ⟨lw_p54, List.forall_mem_cons.mpr ⟨lw_p55, List.forall_mem_cons.mpr ⟨lw_p56, List.forall_mem_cons.mpr ⟨lw_p57, List.forall_mem_cons.mpr ⟨lw_p58, List.forall_mem_cons.mpr ⟨lw_p59, List.forall_mem_cons.mpr ⟨lw_p60, List.forall_mem_cons.mpr ⟨lw_p61, List.forall_mem_cons.mpr ⟨lw_p62, fun _ h => absurd h List.not_mem_nil⟩⟩⟩⟩⟩⟩⟩⟩⟩⟩⟩⟩⟩⟩⟩
def lw_privs : List (MethodName × Nat) := lw_privs_1 ++ (lw_privs_2 ++ (lw_privs_3 ++ (lw_privs_4)))
def lw_tbl : List Cond := k2_sels lw_privs ++ tables_1
theorem lw_privs_ok : ∀ q ∈ lw_privs, lw_okq q := by
  show ∀ q ∈ lw_privs_1 ++ (lw_privs_2 ++ (lw_privs_3 ++ (lw_privs_4))), lw_okq q
  exact List.forall_mem_append.mpr ⟨lw_r1, List.forall_mem_append.mpr ⟨lw_r2, List.forall_mem_append.mpr ⟨lw_r3, lw_r4⟩⟩⟩
end
section
/-! names of classes, fields and methods (printed by program) -/
def RX0 : String := "OneLevelStore$Core"
def TX0 : u_T := fun k => match k with
  | _ => ("OneLevelStore$Core", "frames", "[LOneLevelStore$Frame;", true)
def tyX0 : Nat → FieldType := fun k => match k with
  | _ => .array (.object "OneLevelStore$Frame")
abbrev wsX00 : List Cond := u_ws RX0 TX0 1
theorem nmX0 : ∀ a, a < 1 → ∀ b, b < 1 → a ≠ b → (TX0 a).2.1 ≠ (TX0 b).2.1 := by decide +kernel
theorem tyX0_ok : ∀ k, k < 1 → parseFieldDescriptor (TX0 k).2.2.1 = some (tyX0 k) := by decide +kernel
abbrev cX0_init : ByteArray := prog_2_method_1_code
def yX0_init : MethodName := ⟨RX0, "<init>", "(I)V"⟩
abbrev cX0_frameOf : ByteArray := prog_2_method_2_code
def yX0_frameOf : MethodName := ⟨RX0, "frameOf", "(I)LOneLevelStore$Frame;"⟩
abbrev cX0_lowest : ByteArray := prog_2_method_3_code
def yX0_lowest : MethodName := ⟨RX0, "lowest", "(I)LOneLevelStore$Frame;"⟩
abbrev cX0_holding : ByteArray := prog_2_method_4_code
def yX0_holding : MethodName := ⟨RX0, "holding", "(II)LOneLevelStore$Frame;"⟩
abbrev cX0_choose : ByteArray := prog_2_method_5_code
def yX0_choose : MethodName := ⟨RX0, "choose", "()LOneLevelStore$Frame;"⟩
abbrev cX0_best : ByteArray := prog_2_method_6_code
def yX0_best : MethodName := ⟨RX0, "best", "(Z)LOneLevelStore$Frame;"⟩
abbrev cX0_look : ByteArray := prog_2_method_7_code
def yX0_look : MethodName := ⟨RX0, "look", "()V"⟩
abbrev cX0_clear : ByteArray := prog_2_method_8_code
def yX0_clear : MethodName := ⟨RX0, "clear", "(ILOneLevelStore$Frame;)V"⟩
def RX1 : String := "OneLevelStore$Drum"
def TX1 : u_T := fun k => match k with
  | 0 => ("OneLevelStore$Drum", "places", "[LOneLevelStore$Place;", true)
  | 1 => ("OneLevelStore$Drum", "queue", "[LOneLevelStore$Frame;", true)
  | 2 => ("OneLevelStore$Drum", "queueSize", "I", false)
  | 3 => ("OneLevelStore$Drum", "movingFrame", "LOneLevelStore$Frame;", false)
  | 4 => ("OneLevelStore$Drum", "movingPlace", "LOneLevelStore$Place;", false)
  | 5 => ("OneLevelStore$Drum", "began", "I", false)
  | 6 => ("OneLevelStore$Drum", "reads", "I", false)
  | _ => ("OneLevelStore$Drum", "writes", "I", false)
def tyX1 : Nat → FieldType := fun k => match k with
  | 0 => .array (.object "OneLevelStore$Place")
  | 1 => .array (.object "OneLevelStore$Frame")
  | 2 => .int
  | 3 => .object "OneLevelStore$Frame"
  | 4 => .object "OneLevelStore$Place"
  | 5 => .int
  | 6 => .int
  | _ => .int
abbrev wsX10 : List Cond := u_ws RX1 TX1 8
theorem nmX1 : ∀ a, a < 8 → ∀ b, b < 8 → a ≠ b → (TX1 a).2.1 ≠ (TX1 b).2.1 := by decide +kernel
theorem tyX1_ok : ∀ k, k < 8 → parseFieldDescriptor (TX1 k).2.2.1 = some (tyX1 k) := by decide +kernel
abbrev cX1_init : ByteArray := prog_3_method_1_code
def yX1_init : MethodName := ⟨RX1, "<init>", "()V"⟩
abbrev cX1_placeOf : ByteArray := prog_3_method_2_code
def yX1_placeOf : MethodName := ⟨RX1, "placeOf", "(I)LOneLevelStore$Place;"⟩
abbrev cX1_queuedFrame : ByteArray := prog_3_method_3_code
def yX1_queuedFrame : MethodName := ⟨RX1, "queuedFrame", "(I)LOneLevelStore$Frame;"⟩
abbrev cX1_countFree : ByteArray := prog_3_method_4_code
def yX1_countFree : MethodName := ⟨RX1, "countFree", "()I"⟩
abbrev cX1_lowestFree : ByteArray := prog_3_method_5_code
def yX1_lowestFree : MethodName := ⟨RX1, "lowestFree", "()LOneLevelStore$Place;"⟩
abbrev cX1_enqueue : ByteArray := prog_3_method_6_code
def yX1_enqueue : MethodName := ⟨RX1, "enqueue", "(LOneLevelStore$Frame;)V"⟩
abbrev cX1_endTransfer : ByteArray := prog_3_method_7_code
def yX1_endTransfer : MethodName := ⟨RX1, "endTransfer", "()V"⟩
abbrev cX1_leave : ByteArray := prog_3_method_8_code
def yX1_leave : MethodName := ⟨RX1, "leave", "(LOneLevelStore$Frame;LOneLevelStore$Page;)V"⟩
abbrev cX1_beginTransfer : ByteArray := prog_3_method_9_code
def yX1_beginTransfer : MethodName := ⟨RX1, "beginTransfer", "(I)V"⟩
abbrev cX1_placeFor : ByteArray := prog_3_method_10_code
def yX1_placeFor : MethodName := ⟨RX1, "placeFor", "(ILOneLevelStore$Page;I)LOneLevelStore$Place;"⟩
abbrev cX1_removeAt : ByteArray := prog_3_method_11_code
def yX1_removeAt : MethodName := ⟨RX1, "removeAt", "(I)V"⟩
abbrev cX1_dropQueued : ByteArray := prog_3_method_12_code
def yX1_dropQueued : MethodName := ⟨RX1, "dropQueued", "(I)V"⟩
abbrev cX1_clear : ByteArray := prog_3_method_13_code
def yX1_clear : MethodName := ⟨RX1, "clear", "(I)V"⟩
abbrev cX1_tell : ByteArray := prog_3_method_14_code
def yX1_tell : MethodName := ⟨RX1, "tell", "(II)I"⟩
def RX2 : String := "OneLevelStore$Frame"
def TX2 : u_T := fun k => match k with
  | 0 => ("OneLevelStore$Frame", "number", "I", true)
  | 1 => ("OneLevelStore$Frame", "state", "I", false)
  | 2 => ("OneLevelStore$Frame", "owner", "I", false)
  | 3 => ("OneLevelStore$Frame", "block", "I", false)
  | 4 => ("OneLevelStore$Frame", "page", "LOneLevelStore$Page;", false)
  | 5 => ("OneLevelStore$Frame", "idle", "I", false)
  | 6 => ("OneLevelStore$Frame", "idleBefore", "I", false)
  | 7 => ("OneLevelStore$Frame", "mark", "Z", false)
  | _ => ("OneLevelStore$Frame", "fresh", "Z", false)
def tyX2 : Nat → FieldType := fun k => match k with
  | 0 => .int
  | 1 => .int
  | 2 => .int
  | 3 => .int
  | 4 => .object "OneLevelStore$Page"
  | 5 => .int
  | 6 => .int
  | 7 => .boolean
  | _ => .boolean
abbrev wsX20 : List Cond := u_ws RX2 TX2 9
theorem nmX2 : ∀ a, a < 9 → ∀ b, b < 9 → a ≠ b → (TX2 a).2.1 ≠ (TX2 b).2.1 := by decide +kernel
theorem tyX2_ok : ∀ k, k < 9 → parseFieldDescriptor (TX2 k).2.2.1 = some (tyX2 k) := by decide +kernel
abbrev cX2_init : ByteArray := prog_4_method_1_code
def yX2_init : MethodName := ⟨RX2, "<init>", "(I)V"⟩
abbrev cX2_take : ByteArray := prog_4_method_2_code
def yX2_take : MethodName := ⟨RX2, "take", "(LOneLevelStore$Page;I)V"⟩
abbrev cX2_empty : ByteArray := prog_4_method_3_code
def yX2_empty : MethodName := ⟨RX2, "empty", "()V"⟩
abbrev cX2_touch : ByteArray := prog_4_method_4_code
def yX2_touch : MethodName := ⟨RX2, "touch", "()V"⟩
abbrev cX2_look : ByteArray := prog_4_method_5_code
def yX2_look : MethodName := ⟨RX2, "look", "()V"⟩
abbrev cX2_tell : ByteArray := prog_4_method_6_code
def yX2_tell : MethodName := ⟨RX2, "tell", "(I)I"⟩
abbrev cX2_part : ByteArray := prog_4_method_7_code
def yX2_part : MethodName := ⟨RX2, "part", "()I"⟩
abbrev cX2_goesBefore : ByteArray := prog_4_method_8_code
def yX2_goesBefore : MethodName := ⟨RX2, "goesBefore", "(LOneLevelStore$Frame;)Z"⟩
def RX3 : String := "OneLevelStore$Job"
def TX3 : u_T := fun k => match k with
  | 0 => ("OneLevelStore$Job", "number", "I", true)
  | 1 => ("OneLevelStore$Job", "state", "I", false)
  | 2 => ("OneLevelStore$Job", "failure", "I", false)
  | 3 => ("OneLevelStore$Job", "done", "I", false)
  | 4 => ("OneLevelStore$Job", "limit", "I", false)
  | 5 => ("OneLevelStore$Job", "blocks", "I", false)
  | 6 => ("OneLevelStore$Job", "mostBlocks", "I", false)
  | 7 => ("OneLevelStore$Job", "test", "I", false)
  | 8 => ("OneLevelStore$Job", "overTick", "I", false)
  | 9 => ("OneLevelStore$Job", "printedWords", "I", false)
  | 10 => ("OneLevelStore$Job", "a", "J", false)
  | 11 => ("OneLevelStore$Job", "wanted", "LOneLevelStore$Page;", false)
  | 12 => ("OneLevelStore$Job", "registers", "[I", true)
  | 13 => ("OneLevelStore$Job", "tapeWords", "LOneLevelStore$Row;", true)
  | _ => ("OneLevelStore$Job", "paperWords", "LOneLevelStore$Row;", true)
def tyX3 : Nat → FieldType := fun k => match k with
  | 0 => .int
  | 1 => .int
  | 2 => .int
  | 3 => .int
  | 4 => .int
  | 5 => .int
  | 6 => .int
  | 7 => .int
  | 8 => .int
  | 9 => .int
  | 10 => .long
  | 11 => .object "OneLevelStore$Page"
  | 12 => .array .int
  | 13 => .object "OneLevelStore$Row"
  | _ => .object "OneLevelStore$Row"
abbrev wsX30 : List Cond := u_ws RX3 TX3 15
theorem nmX3 : ∀ a, a < 15 → ∀ b, b < 15 → a ≠ b → (TX3 a).2.1 ≠ (TX3 b).2.1 := by decide +kernel
theorem tyX3_ok : ∀ k, k < 15 → parseFieldDescriptor (TX3 k).2.2.1 = some (tyX3 k) := by decide +kernel
abbrev cX3_init : ByteArray := prog_5_method_1_code
def yX3_init : MethodName := ⟨RX3, "<init>", "(I)V"⟩
abbrev cX3_reset : ByteArray := prog_5_method_2_code
def yX3_reset : MethodName := ⟨RX3, "reset", "()V"⟩
abbrev cX3_begin : ByteArray := prog_5_method_3_code
def yX3_begin : MethodName := ⟨RX3, "begin", "(III)V"⟩
abbrev cX3_await : ByteArray := prog_5_method_4_code
def yX3_await : MethodName := ⟨RX3, "await", "(LOneLevelStore$Page;)V"⟩
abbrev cX3_wake : ByteArray := prog_5_method_5_code
def yX3_wake : MethodName := ⟨RX3, "wake", "()V"⟩
abbrev cX3_isOver : ByteArray := prog_5_method_6_code
def yX3_isOver : MethodName := ⟨RX3, "isOver", "()Z"⟩
abbrev cX3_isPrinted : ByteArray := prog_5_method_7_code
def yX3_isPrinted : MethodName := ⟨RX3, "isPrinted", "()Z"⟩
abbrev cX3_reserved : ByteArray := prog_5_method_8_code
def yX3_reserved : MethodName := ⟨RX3, "reserved", "()I"⟩
abbrev cX3_getB : ByteArray := prog_5_method_9_code
def yX3_getB : MethodName := ⟨RX3, "getB", "(I)I"⟩
abbrev cX3_putB : ByteArray := prog_5_method_10_code
def yX3_putB : MethodName := ⟨RX3, "putB", "(IJ)V"⟩
abbrev cX3_tell : ByteArray := prog_5_method_11_code
def yX3_tell : MethodName := ⟨RX3, "tell", "(I)I"⟩
def RX4 : String := "OneLevelStore$Page"
def TX4 : u_T := fun k => match k with
  | 0 => ("OneLevelStore$Page", "owner", "I", false)
  | 1 => ("OneLevelStore$Page", "block", "I", false)
  | 2 => ("OneLevelStore$Page", "frame", "LOneLevelStore$Frame;", false)
  | 3 => ("OneLevelStore$Page", "place", "LOneLevelStore$Place;", false)
  | _ => ("OneLevelStore$Page", "words", "[J", false)
def tyX4 : Nat → FieldType := fun k => match k with
  | 0 => .int
  | 1 => .int
  | 2 => .object "OneLevelStore$Frame"
  | 3 => .object "OneLevelStore$Place"
  | _ => .array .long
abbrev wsX40 : List Cond := u_ws RX4 TX4 5
theorem nmX4 : ∀ a, a < 5 → ∀ b, b < 5 → a ≠ b → (TX4 a).2.1 ≠ (TX4 b).2.1 := by decide +kernel
theorem tyX4_ok : ∀ k, k < 5 → parseFieldDescriptor (TX4 k).2.2.1 = some (tyX4 k) := by decide +kernel
abbrev cX4_init : ByteArray := prog_6_method_1_code
def yX4_init : MethodName := ⟨RX4, "<init>", "()V"⟩
abbrev cX4_hold : ByteArray := prog_6_method_2_code
def yX4_hold : MethodName := ⟨RX4, "hold", "(II)V"⟩
abbrev cX4_release : ByteArray := prog_6_method_3_code
def yX4_release : MethodName := ⟨RX4, "release", "()V"⟩
abbrev cX4_isInUse : ByteArray := prog_6_method_4_code
def yX4_isInUse : MethodName := ⟨RX4, "isInUse", "()Z"⟩
abbrev cX4_wordAt : ByteArray := prog_6_method_5_code
def yX4_wordAt : MethodName := ⟨RX4, "wordAt", "(I)J"⟩
abbrev cX4_putWord : ByteArray := prog_6_method_6_code
def yX4_putWord : MethodName := ⟨RX4, "putWord", "(IJ)V"⟩
def RX5 : String := "OneLevelStore$Pages"
def TX5 : u_T := fun k => match k with
  | _ => ("OneLevelStore$Pages", "all", "[LOneLevelStore$Page;", true)
def tyX5 : Nat → FieldType := fun k => match k with
  | _ => .array (.object "OneLevelStore$Page")
abbrev wsX50 : List Cond := u_ws RX5 TX5 1
theorem nmX5 : ∀ a, a < 1 → ∀ b, b < 1 → a ≠ b → (TX5 a).2.1 ≠ (TX5 b).2.1 := by decide +kernel
theorem tyX5_ok : ∀ k, k < 1 → parseFieldDescriptor (TX5 k).2.2.1 = some (tyX5 k) := by decide +kernel
abbrev cX5_init : ByteArray := prog_7_method_1_code
def yX5_init : MethodName := ⟨RX5, "<init>", "()V"⟩
abbrev cX5_find : ByteArray := prog_7_method_2_code
def yX5_find : MethodName := ⟨RX5, "find", "(II)LOneLevelStore$Page;"⟩
abbrev cX5_hold : ByteArray := prog_7_method_3_code
def yX5_hold : MethodName := ⟨RX5, "hold", "(II)LOneLevelStore$Page;"⟩
abbrev cX5_release : ByteArray := prog_7_method_4_code
def yX5_release : MethodName := ⟨RX5, "release", "(I)V"⟩
def RX6 : String := "OneLevelStore$Place"
def TX6 : u_T := fun k => match k with
  | 0 => ("OneLevelStore$Place", "number", "I", true)
  | 1 => ("OneLevelStore$Place", "taken", "Z", false)
  | 2 => ("OneLevelStore$Place", "owner", "I", false)
  | _ => ("OneLevelStore$Place", "block", "I", false)
def tyX6 : Nat → FieldType := fun k => match k with
  | 0 => .int
  | 1 => .boolean
  | 2 => .int
  | _ => .int
abbrev wsX60 : List Cond := u_ws RX6 TX6 4
theorem nmX6 : ∀ a, a < 4 → ∀ b, b < 4 → a ≠ b → (TX6 a).2.1 ≠ (TX6 b).2.1 := by decide +kernel
theorem tyX6_ok : ∀ k, k < 4 → parseFieldDescriptor (TX6 k).2.2.1 = some (tyX6 k) := by decide +kernel
abbrev cX6_init : ByteArray := prog_8_method_1_code
def yX6_init : MethodName := ⟨RX6, "<init>", "(I)V"⟩
abbrev cX6_take : ByteArray := prog_8_method_2_code
def yX6_take : MethodName := ⟨RX6, "take", "(LOneLevelStore$Page;)V"⟩
def RX7 : String := "OneLevelStore$Printer"
def TX7 : u_T := fun k => match k with
  | 0 => ("OneLevelStore$Printer", "latest", "LOneLevelStore$Row;", true)
  | 1 => ("OneLevelStore$Printer", "words", "I", false)
  | 2 => ("OneLevelStore$Printer", "over", "[LOneLevelStore$Job;", true)
  | _ => ("OneLevelStore$Printer", "overCount", "I", false)
def tyX7 : Nat → FieldType := fun k => match k with
  | 0 => .object "OneLevelStore$Row"
  | 1 => .int
  | 2 => .array (.object "OneLevelStore$Job")
  | _ => .int
abbrev wsX70 : List Cond := u_ws RX7 TX7 4
theorem nmX7 : ∀ a, a < 4 → ∀ b, b < 4 → a ≠ b → (TX7 a).2.1 ≠ (TX7 b).2.1 := by decide +kernel
theorem tyX7_ok : ∀ k, k < 4 → parseFieldDescriptor (TX7 k).2.2.1 = some (tyX7 k) := by decide +kernel
abbrev cX7_init : ByteArray := prog_9_method_1_code
def yX7_init : MethodName := ⟨RX7, "<init>", "()V"⟩
abbrev cX7_add : ByteArray := prog_9_method_2_code
def yX7_add : MethodName := ⟨RX7, "add", "(LOneLevelStore$Job;)V"⟩
abbrev cX7_drop : ByteArray := prog_9_method_3_code
def yX7_drop : MethodName := ⟨RX7, "drop", "(LOneLevelStore$Job;)V"⟩
abbrev cX7_printNext : ByteArray := prog_9_method_4_code
def yX7_printNext : MethodName := ⟨RX7, "printNext", "()V"⟩
def RX8 : String := "OneLevelStore$Processor"
def TX8 : u_T := fun k => match k with
  | 0 => ("OneLevelStore$Processor", "core", "LOneLevelStore$Core;", true)
  | 1 => ("OneLevelStore$Processor", "pages", "LOneLevelStore$Pages;", true)
  | 2 => ("OneLevelStore$Processor", "job", "LOneLevelStore$Job;", false)
  | 3 => ("OneLevelStore$Processor", "operand", "LOneLevelStore$Frame;", false)
  | 4 => ("OneLevelStore$Processor", "function", "I", false)
  | 5 => ("OneLevelStore$Processor", "ba", "I", false)
  | 6 => ("OneLevelStore$Processor", "bm", "I", false)
  | _ => ("OneLevelStore$Processor", "n", "I", false)
def tyX8 : Nat → FieldType := fun k => match k with
  | 0 => .object "OneLevelStore$Core"
  | 1 => .object "OneLevelStore$Pages"
  | 2 => .object "OneLevelStore$Job"
  | 3 => .object "OneLevelStore$Frame"
  | 4 => .int
  | 5 => .int
  | 6 => .int
  | _ => .int
abbrev wsX80 : List Cond := u_ws RX8 TX8 8
theorem nmX8 : ∀ a, a < 8 → ∀ b, b < 8 → a ≠ b → (TX8 a).2.1 ≠ (TX8 b).2.1 := by decide +kernel
theorem tyX8_ok : ∀ k, k < 8 → parseFieldDescriptor (TX8 k).2.2.1 = some (tyX8 k) := by decide +kernel
abbrev cX8_init : ByteArray := prog_10_method_1_code
def yX8_init : MethodName := ⟨RX8, "<init>", "(LOneLevelStore$Core;LOneLevelStore$Pages;)V"⟩
abbrev cX8_step : ByteArray := prog_10_method_2_code
def yX8_step : MethodName := ⟨RX8, "step", "(LOneLevelStore$Job;)I"⟩
abbrev cX8_decode : ByteArray := prog_10_method_3_code
def yX8_decode : MethodName := ⟨RX8, "decode", "(J)V"⟩
abbrev cX8_missing : ByteArray := prog_10_method_4_code
def yX8_missing : MethodName := ⟨RX8, "missing", "(I)I"⟩
abbrev cX8_perform : ByteArray := prog_10_method_5_code
def yX8_perform : MethodName := ⟨RX8, "perform", "()I"⟩
abbrev cX8_hasOperand : ByteArray := prog_10_method_6_code
def yX8_hasOperand : MethodName := ⟨RX8, "hasOperand", "()Z"⟩
abbrev cX8_effective : ByteArray := prog_10_method_7_code
def yX8_effective : MethodName := ⟨RX8, "effective", "()I"⟩
abbrev cX8_withOperand : ByteArray := prog_10_method_8_code
def yX8_withOperand : MethodName := ⟨RX8, "withOperand", "()I"⟩
abbrev cX8_registerWithWord : ByteArray := prog_10_method_9_code
def yX8_registerWithWord : MethodName := ⟨RX8, "registerWithWord", "(LOneLevelStore$Page;I)I"⟩
abbrev cX8_accumulatorWithWord : ByteArray := prog_10_method_10_code
def yX8_accumulatorWithWord : MethodName := ⟨RX8, "accumulatorWithWord", "(LOneLevelStore$Page;I)I"⟩
abbrev cX8_registerOrder : ByteArray := prog_10_method_11_code
def yX8_registerOrder : MethodName := ⟨RX8, "registerOrder", "()I"⟩
abbrev cX8_jumpOrder : ByteArray := prog_10_method_12_code
def yX8_jumpOrder : MethodName := ⟨RX8, "jumpOrder", "()I"⟩
abbrev cX8_count : ByteArray := prog_10_method_13_code
def yX8_count : MethodName := ⟨RX8, "count", "(I)V"⟩
abbrev cX8_goWhen : ByteArray := prog_10_method_14_code
def yX8_goWhen : MethodName := ⟨RX8, "goWhen", "(JI)V"⟩
abbrev cX8_holds : ByteArray := prog_10_method_15_code
def yX8_holds : MethodName := ⟨RX8, "holds", "(IJ)Z"⟩
abbrev cX8_shiftOrder : ByteArray := prog_10_method_16_code
def yX8_shiftOrder : MethodName := ⟨RX8, "shiftOrder", "()I"⟩
abbrev cX8_extracode : ByteArray := prog_10_method_17_code
def yX8_extracode : MethodName := ⟨RX8, "extracode", "()I"⟩
abbrev cX8_signOf : ByteArray := prog_10_method_18_code
def yX8_signOf : MethodName := ⟨RX8, "signOf", "(J)I"⟩
abbrev cX8_rootOf : ByteArray := prog_10_method_19_code
def yX8_rootOf : MethodName := ⟨RX8, "rootOf", "(J)J"⟩
def RX9 : String := "OneLevelStore$Row"
def TX9 : u_T := fun k => match k with
  | 0 => ("OneLevelStore$Row", "cells", "[J", true)
  | 1 => ("OneLevelStore$Row", "first", "I", false)
  | _ => ("OneLevelStore$Row", "count", "I", false)
def tyX9 : Nat → FieldType := fun k => match k with
  | 0 => .array .long
  | 1 => .int
  | _ => .int
abbrev wsX90 : List Cond := u_ws RX9 TX9 3
theorem nmX9 : ∀ a, a < 3 → ∀ b, b < 3 → a ≠ b → (TX9 a).2.1 ≠ (TX9 b).2.1 := by decide +kernel
theorem tyX9_ok : ∀ k, k < 3 → parseFieldDescriptor (TX9 k).2.2.1 = some (tyX9 k) := by decide +kernel
abbrev cX9_init : ByteArray := prog_11_method_1_code
def yX9_init : MethodName := ⟨RX9, "<init>", "(I)V"⟩
abbrev cX9_size : ByteArray := prog_11_method_2_code
def yX9_size : MethodName := ⟨RX9, "size", "()I"⟩
abbrev cX9_room : ByteArray := prog_11_method_3_code
def yX9_room : MethodName := ⟨RX9, "room", "()I"⟩
abbrev cX9_append : ByteArray := prog_11_method_4_code
def yX9_append : MethodName := ⟨RX9, "append", "(J)Z"⟩
abbrev cX9_push : ByteArray := prog_11_method_5_code
def yX9_push : MethodName := ⟨RX9, "push", "(J)V"⟩
abbrev cX9_takeFirst : ByteArray := prog_11_method_6_code
def yX9_takeFirst : MethodName := ⟨RX9, "takeFirst", "()J"⟩
abbrev cX9_at : ByteArray := prog_11_method_7_code
def yX9_at : MethodName := ⟨RX9, "at", "(I)J"⟩
abbrev cX9_fromEnd : ByteArray := prog_11_method_8_code
def yX9_fromEnd : MethodName := ⟨RX9, "fromEnd", "(I)J"⟩
abbrev cX9_clear : ByteArray := prog_11_method_9_code
def yX9_clear : MethodName := ⟨RX9, "clear", "()V"⟩
abbrev cX9_cellOf : ByteArray := prog_11_method_10_code
def yX9_cellOf : MethodName := ⟨RX9, "cellOf", "(I)I"⟩
def RX10 : String := "OneLevelStore"
def TX10 : u_T := fun k => match k with
  | 0 => ("OneLevelStore", "tray", "LOneLevelStore$Row;", true)
  | 1 => ("OneLevelStore", "latestChosen", "LOneLevelStore$Row;", true)
  | 2 => ("OneLevelStore", "jobs", "[LOneLevelStore$Job;", true)
  | 3 => ("OneLevelStore", "pages", "LOneLevelStore$Pages;", true)
  | 4 => ("OneLevelStore", "core", "LOneLevelStore$Core;", true)
  | 5 => ("OneLevelStore", "drumStore", "LOneLevelStore$Drum;", true)
  | 6 => ("OneLevelStore", "printer", "LOneLevelStore$Printer;", true)
  | 7 => ("OneLevelStore", "processor", "LOneLevelStore$Processor;", true)
  | 8 => ("OneLevelStore", "ticks", "I", false)
  | 9 => ("OneLevelStore", "instructions", "I", false)
  | 10 => ("OneLevelStore", "idleTicks", "I", false)
  | 11 => ("OneLevelStore", "choices", "I", false)
  | _ => ("OneLevelStore", "looks", "I", false)
def tyX10 : Nat → FieldType := fun k => match k with
  | 0 => .object "OneLevelStore$Row"
  | 1 => .object "OneLevelStore$Row"
  | 2 => .array (.object "OneLevelStore$Job")
  | 3 => .object "OneLevelStore$Pages"
  | 4 => .object "OneLevelStore$Core"
  | 5 => .object "OneLevelStore$Drum"
  | 6 => .object "OneLevelStore$Printer"
  | 7 => .object "OneLevelStore$Processor"
  | 8 => .int
  | 9 => .int
  | 10 => .int
  | 11 => .int
  | _ => .int
abbrev wsX100 : List Cond := u_ws RX10 TX10 13
theorem nmX10 : ∀ a, a < 13 → ∀ b, b < 13 → a ≠ b → (TX10 a).2.1 ≠ (TX10 b).2.1 := by decide +kernel
theorem tyX10_ok : ∀ k, k < 13 → parseFieldDescriptor (TX10 k).2.2.1 = some (tyX10 k) := by decide +kernel
abbrev cX10_init : ByteArray := prog_1_method_1_code
def yX10_init : MethodName := ⟨RX10, "<init>", "(I)V"⟩
abbrev cX10_key : ByteArray := prog_1_method_2_code
def yX10_key : MethodName := ⟨RX10, "key", "(J)I"⟩
abbrev cX10_load : ByteArray := prog_1_method_3_code
def yX10_load : MethodName := ⟨RX10, "load", "(II)I"⟩
abbrev cX10_tape : ByteArray := prog_1_method_4_code
def yX10_tape : MethodName := ⟨RX10, "tape", "(I)I"⟩
abbrev cX10_start : ByteArray := prog_1_method_5_code
def yX10_start : MethodName := ⟨RX10, "start", "(IIII)Z"⟩
abbrev cX10_run : ByteArray := prog_1_method_6_code
def yX10_run : MethodName := ⟨RX10, "run", "(I)I"⟩
abbrev cX10_job : ByteArray := prog_1_method_7_code
def yX10_job : MethodName := ⟨RX10, "job", "(II)I"⟩
abbrev cX10_register : ByteArray := prog_1_method_8_code
def yX10_register : MethodName := ⟨RX10, "register", "(II)I"⟩
abbrev cX10_accumulator : ByteArray := prog_1_method_9_code
def yX10_accumulator : MethodName := ⟨RX10, "accumulator", "(I)J"⟩
abbrev cX10_word : ByteArray := prog_1_method_10_code
def yX10_word : MethodName := ⟨RX10, "word", "(II)J"⟩
abbrev cX10_paper : ByteArray := prog_1_method_11_code
def yX10_paper : MethodName := ⟨RX10, "paper", "(II)J"⟩
abbrev cX10_frame : ByteArray := prog_1_method_12_code
def yX10_frame : MethodName := ⟨RX10, "frame", "(II)I"⟩
abbrev cX10_place : ByteArray := prog_1_method_13_code
def yX10_place : MethodName := ⟨RX10, "place", "(II)I"⟩
abbrev cX10_drum : ByteArray := prog_1_method_14_code
def yX10_drum : MethodName := ⟨RX10, "drum", "(I)I"⟩
abbrev cX10_queued : ByteArray := prog_1_method_15_code
def yX10_queued : MethodName := ⟨RX10, "queued", "(I)I"⟩
abbrev cX10_chosen : ByteArray := prog_1_method_16_code
def yX10_chosen : MethodName := ⟨RX10, "chosen", "(I)I"⟩
abbrev cX10_printed : ByteArray := prog_1_method_17_code
def yX10_printed : MethodName := ⟨RX10, "printed", "(I)J"⟩
abbrev cX10_clock : ByteArray := prog_1_method_18_code
def yX10_clock : MethodName := ⟨RX10, "clock", "(I)I"⟩
abbrev cX10_forget : ByteArray := prog_1_method_19_code
def yX10_forget : MethodName := ⟨RX10, "forget", "(I)Z"⟩
abbrev cX10_jobOf : ByteArray := prog_1_method_20_code
def yX10_jobOf : MethodName := ⟨RX10, "jobOf", "(I)LOneLevelStore$Job;"⟩
abbrev cX10_reservedBesides : ByteArray := prog_1_method_21_code
def yX10_reservedBesides : MethodName := ⟨RX10, "reservedBesides", "(LOneLevelStore$Job;)I"⟩
abbrev cX10_countNewBlocks : ByteArray := prog_1_method_22_code
def yX10_countNewBlocks : MethodName := ⟨RX10, "countNewBlocks", "(LOneLevelStore$Job;I)I"⟩
abbrev cX10_pageToLoad : ByteArray := prog_1_method_23_code
def yX10_pageToLoad : MethodName := ⟨RX10, "pageToLoad", "(LOneLevelStore$Job;I)LOneLevelStore$Page;"⟩
abbrev cX10_tick : ByteArray := prog_1_method_24_code
def yX10_tick : MethodName := ⟨RX10, "tick", "()V"⟩
abbrev cX10_wakeJobs : ByteArray := prog_1_method_25_code
def yX10_wakeJobs : MethodName := ⟨RX10, "wakeJobs", "()V"⟩
abbrev cX10_findFrames : ByteArray := prog_1_method_26_code
def yX10_findFrames : MethodName := ⟨RX10, "findFrames", "()V"⟩
abbrev cX10_findFrame : ByteArray := prog_1_method_27_code
def yX10_findFrame : MethodName := ⟨RX10, "findFrame", "(LOneLevelStore$Job;LOneLevelStore$Page;)V"⟩
abbrev cX10_keepFrameEmpty : ByteArray := prog_1_method_28_code
def yX10_keepFrameEmpty : MethodName := ⟨RX10, "keepFrameEmpty", "()V"⟩
abbrev cX10_firstReady : ByteArray := prog_1_method_29_code
def yX10_firstReady : MethodName := ⟨RX10, "firstReady", "()LOneLevelStore$Job;"⟩
abbrev cX10_settle : ByteArray := prog_1_method_30_code
def yX10_settle : MethodName := ⟨RX10, "settle", "(LOneLevelStore$Job;I)V"⟩
abbrev cX10_close : ByteArray := prog_1_method_31_code
def yX10_close : MethodName := ⟨RX10, "close", "(LOneLevelStore$Job;I)V"⟩
abbrev cX10_isAddress : ByteArray := prog_1_method_32_code
def yX10_isAddress : MethodName := ⟨RX10, "isAddress", "(I)Z"⟩
abbrev cX10_cutToWord : ByteArray := prog_1_method_33_code
def yX10_cutToWord : MethodName := ⟨RX10, "cutToWord", "(J)J"⟩
abbrev cX10_cutToHalf : ByteArray := prog_1_method_34_code
def yX10_cutToHalf : MethodName := ⟨RX10, "cutToHalf", "(J)I"⟩
def RX11 : String := "OneLevelStoreModel"
def TX11 : u_T := fun k => match k with
  | 0 => ("OneLevelStoreModel", "frames", "I", false)
  | 1 => ("OneLevelStoreModel", "tray", "[J", true)
  | 2 => ("OneLevelStoreModel", "trayed", "I", false)
  | 3 => ("OneLevelStoreModel", "state", "[I", true)
  | 4 => ("OneLevelStoreModel", "failed", "[I", true)
  | 5 => ("OneLevelStoreModel", "done", "[I", true)
  | 6 => ("OneLevelStoreModel", "waitsFor", "[I", true)
  | 7 => ("OneLevelStoreModel", "limit", "[I", true)
  | 8 => ("OneLevelStoreModel", "may", "[I", true)
  | 9 => ("OneLevelStoreModel", "test", "[I", true)
  | 10 => ("OneLevelStoreModel", "over", "[I", true)
  | 11 => ("OneLevelStoreModel", "taped", "[I", true)
  | 12 => ("OneLevelStoreModel", "papered", "[I", true)
  | 13 => ("OneLevelStoreModel", "printedOf", "[I", true)
  | 14 => ("OneLevelStoreModel", "b", "[I", true)
  | 15 => ("OneLevelStoreModel", "acc", "[J", true)
  | 16 => ("OneLevelStoreModel", "tapes", "[J", true)
  | 17 => ("OneLevelStoreModel", "papers", "[J", true)
  | 18 => ("OneLevelStoreModel", "overRow", "[I", true)
  | 19 => ("OneLevelStoreModel", "overs", "I", false)
  | 20 => ("OneLevelStoreModel", "slotJob", "[I", true)
  | 21 => ("OneLevelStoreModel", "slotBlock", "[I", true)
  | 22 => ("OneLevelStoreModel", "words", "[J", true)
  | 23 => ("OneLevelStoreModel", "blocksOf", "[I", true)
  | 24 => ("OneLevelStoreModel", "fState", "[I", true)
  | 25 => ("OneLevelStoreModel", "fJob", "[I", true)
  | 26 => ("OneLevelStoreModel", "fBlock", "[I", true)
  | 27 => ("OneLevelStoreModel", "fT", "[I", true)
  | 28 => ("OneLevelStoreModel", "fL", "[I", true)
  | 29 => ("OneLevelStoreModel", "fMark", "[I", true)
  | 30 => ("OneLevelStoreModel", "fFresh", "[I", true)
  | 31 => ("OneLevelStoreModel", "pJob", "[I", true)
  | 32 => ("OneLevelStoreModel", "pBlock", "[I", true)
  | 33 => ("OneLevelStoreModel", "moving", "I", false)
  | 34 => ("OneLevelStoreModel", "movingPlace", "I", false)
  | 35 => ("OneLevelStoreModel", "movingWrites", "I", false)
  | 36 => ("OneLevelStoreModel", "movingLost", "I", false)
  | 37 => ("OneLevelStoreModel", "movingSince", "I", false)
  | 38 => ("OneLevelStoreModel", "reads", "I", false)
  | 39 => ("OneLevelStoreModel", "writes", "I", false)
  | 40 => ("OneLevelStoreModel", "queue", "[I", true)
  | 41 => ("OneLevelStoreModel", "queueWrites", "[I", true)
  | 42 => ("OneLevelStoreModel", "queued", "I", false)
  | 43 => ("OneLevelStoreModel", "chosenRow", "[I", true)
  | 44 => ("OneLevelStoreModel", "chosens", "I", false)
  | 45 => ("OneLevelStoreModel", "printedRow", "[J", true)
  | 46 => ("OneLevelStoreModel", "printeds", "I", false)
  | 47 => ("OneLevelStoreModel", "ticks", "I", false)
  | 48 => ("OneLevelStoreModel", "instructions", "I", false)
  | 49 => ("OneLevelStoreModel", "idle", "I", false)
  | _ => ("OneLevelStoreModel", "looks", "I", false)
def tyX11 : Nat → FieldType := fun k => match k with
  | 0 => .int
  | 1 => .array .long
  | 2 => .int
  | 3 => .array .int
  | 4 => .array .int
  | 5 => .array .int
  | 6 => .array .int
  | 7 => .array .int
  | 8 => .array .int
  | 9 => .array .int
  | 10 => .array .int
  | 11 => .array .int
  | 12 => .array .int
  | 13 => .array .int
  | 14 => .array .int
  | 15 => .array .long
  | 16 => .array .long
  | 17 => .array .long
  | 18 => .array .int
  | 19 => .int
  | 20 => .array .int
  | 21 => .array .int
  | 22 => .array .long
  | 23 => .array .int
  | 24 => .array .int
  | 25 => .array .int
  | 26 => .array .int
  | 27 => .array .int
  | 28 => .array .int
  | 29 => .array .int
  | 30 => .array .int
  | 31 => .array .int
  | 32 => .array .int
  | 33 => .int
  | 34 => .int
  | 35 => .int
  | 36 => .int
  | 37 => .int
  | 38 => .int
  | 39 => .int
  | 40 => .array .int
  | 41 => .array .int
  | 42 => .int
  | 43 => .array .int
  | 44 => .int
  | 45 => .array .long
  | 46 => .int
  | 47 => .int
  | 48 => .int
  | 49 => .int
  | _ => .int
abbrev wsX110 : List Cond := u_ws RX11 TX11 51
theorem nmX11 : ∀ a, a < 51 → ∀ b, b < 51 → a ≠ b → (TX11 a).2.1 ≠ (TX11 b).2.1 := by decide +kernel
theorem tyX11_ok : ∀ k, k < 51 → parseFieldDescriptor (TX11 k).2.2.1 = some (tyX11 k) := by decide +kernel
abbrev cX11_init : ByteArray := prog_13_method_2_code
def yX11_init : MethodName := ⟨RX11, "<init>", "(I)V"⟩
abbrev cX11_fresh : ByteArray := prog_13_method_3_code
def yX11_fresh : MethodName := ⟨RX11, "fresh", "(I)V"⟩
abbrev cX11_in : ByteArray := prog_13_method_4_code
def yX11_in : MethodName := ⟨RX11, "in", "(JJJ)Z"⟩
abbrev cX11_whole : ByteArray := prog_13_method_5_code
def yX11_whole : MethodName := ⟨RX11, "whole", "(J)J"⟩
abbrev cX11_half : ByteArray := prog_13_method_6_code
def yX11_half : MethodName := ⟨RX11, "half", "(J)I"⟩
abbrev cX11_key : ByteArray := prog_13_method_7_code
def yX11_key : MethodName := ⟨RX11, "key", "(J)I"⟩
abbrev cX11_isOver : ByteArray := prog_13_method_8_code
def yX11_isOver : MethodName := ⟨RX11, "isOver", "(I)Z"⟩
abbrev cX11_slot : ByteArray := prog_13_method_9_code
def yX11_slot : MethodName := ⟨RX11, "slot", "(II)I"⟩
abbrev cX11_newSlot : ByteArray := prog_13_method_10_code
def yX11_newSlot : MethodName := ⟨RX11, "newSlot", "(II)I"⟩
abbrev cX11_frameOf : ByteArray := prog_13_method_11_code
def yX11_frameOf : MethodName := ⟨RX11, "frameOf", "(II)I"⟩
abbrev cX11_placeOf : ByteArray := prog_13_method_12_code
def yX11_placeOf : MethodName := ⟨RX11, "placeOf", "(II)I"⟩
abbrev cX11_freePlaces : ByteArray := prog_13_method_13_code
def yX11_freePlaces : MethodName := ⟨RX11, "freePlaces", "()I"⟩
abbrev cX11_blocksBut : ByteArray := prog_13_method_14_code
def yX11_blocksBut : MethodName := ⟨RX11, "blocksBut", "(I)I"⟩
abbrev cX11_load : ByteArray := prog_13_method_15_code
def yX11_load : MethodName := ⟨RX11, "load", "(II)I"⟩
abbrev cX11_put : ByteArray := prog_13_method_16_code
def yX11_put : MethodName := ⟨RX11, "put", "(IIJ)V"⟩
abbrev cX11_at : ByteArray := prog_13_method_17_code
def yX11_at : MethodName := ⟨RX11, "at", "(II)J"⟩
abbrev cX11_tape : ByteArray := prog_13_method_18_code
def yX11_tape : MethodName := ⟨RX11, "tape", "(I)I"⟩
abbrev cX11_start : ByteArray := prog_13_method_19_code
def yX11_start : MethodName := ⟨RX11, "start", "(IIII)Z"⟩
abbrev cX11_run : ByteArray := prog_13_method_20_code
def yX11_run : MethodName := ⟨RX11, "run", "(I)I"⟩
abbrev cX11_tick : ByteArray := prog_13_method_21_code
def yX11_tick : MethodName := ⟨RX11, "tick", "()V"⟩
abbrev cX11_drumTurns : ByteArray := prog_13_method_22_code
def yX11_drumTurns : MethodName := ⟨RX11, "drumTurns", "(I)V"⟩
abbrev cX11_leaves : ByteArray := prog_13_method_23_code
def yX11_leaves : MethodName := ⟨RX11, "leaves", "(I)V"⟩
abbrev cX11_comes : ByteArray := prog_13_method_24_code
def yX11_comes : MethodName := ⟨RX11, "comes", "(I)V"⟩
abbrev cX11_emptyFrame : ByteArray := prog_13_method_25_code
def yX11_emptyFrame : MethodName := ⟨RX11, "emptyFrame", "()I"⟩
abbrev cX11_queues : ByteArray := prog_13_method_26_code
def yX11_queues : MethodName := ⟨RX11, "queues", "(II)V"⟩
abbrev cX11_bring : ByteArray := prog_13_method_27_code
def yX11_bring : MethodName := ⟨RX11, "bring", "()V"⟩
abbrev cX11_ready : ByteArray := prog_13_method_28_code
def yX11_ready : MethodName := ⟨RX11, "ready", "(I)V"⟩
abbrev cX11_choice : ByteArray := prog_13_method_29_code
def yX11_choice : MethodName := ⟨RX11, "choice", "()I"⟩
abbrev cX11_look : ByteArray := prog_13_method_30_code
def yX11_look : MethodName := ⟨RX11, "look", "()V"⟩
abbrev cX11_prints : ByteArray := prog_13_method_31_code
def yX11_prints : MethodName := ⟨RX11, "prints", "()V"⟩
abbrev cX11_fails : ByteArray := prog_13_method_32_code
def yX11_fails : MethodName := ⟨RX11, "fails", "(III)Z"⟩
abbrev cX11_ends : ByteArray := prog_13_method_33_code
def yX11_ends : MethodName := ⟨RX11, "ends", "(III)V"⟩
abbrev cX11_wants : ByteArray := prog_13_method_34_code
def yX11_wants : MethodName := ⟨RX11, "wants", "(III)I"⟩
abbrev cX11_isStored : ByteArray := prog_13_method_35_code
def yX11_isStored : MethodName := ⟨RX11, "isStored", "(I)Z"⟩
abbrev cX11_isKnown : ByteArray := prog_13_method_36_code
def yX11_isKnown : MethodName := ⟨RX11, "isKnown", "(I)Z"⟩
abbrev cX11_reg : ByteArray := prog_13_method_37_code
def yX11_reg : MethodName := ⟨RX11, "reg", "(II)I"⟩
abbrev cX11_sets : ByteArray := prog_13_method_38_code
def yX11_sets : MethodName := ⟨RX11, "sets", "(IIJ)V"⟩
abbrev cX11_works : ByteArray := prog_13_method_39_code
def yX11_works : MethodName := ⟨RX11, "works", "(II)Z"⟩
abbrev cX11_touches : ByteArray := prog_13_method_40_code
def yX11_touches : MethodName := ⟨RX11, "touches", "(II)V"⟩
abbrev cX11_wrong : ByteArray := prog_13_method_41_code
def yX11_wrong : MethodName := ⟨RX11, "wrong", "(III)I"⟩
abbrev cX11_sign : ByteArray := prog_13_method_42_code
def yX11_sign : MethodName := ⟨RX11, "sign", "(J)I"⟩
abbrev cX11_registers : ByteArray := prog_13_method_43_code
def yX11_registers : MethodName := ⟨RX11, "registers", "(IIII)V"⟩
abbrev cX11_is : ByteArray := prog_13_method_44_code
def yX11_is : MethodName := ⟨RX11, "is", "(IJ)Z"⟩
abbrev cX11_jumps : ByteArray := prog_13_method_45_code
def yX11_jumps : MethodName := ⟨RX11, "jumps", "(IIIIII)V"⟩
abbrev cX11_sums : ByteArray := prog_13_method_46_code
def yX11_sums : MethodName := ⟨RX11, "sums", "(III)V"⟩
abbrev cX11_extra : ByteArray := prog_13_method_47_code
def yX11_extra : MethodName := ⟨RX11, "extra", "(IIII)V"⟩
abbrev cX11_job : ByteArray := prog_13_method_48_code
def yX11_job : MethodName := ⟨RX11, "job", "(II)I"⟩
abbrev cX11_register : ByteArray := prog_13_method_49_code
def yX11_register : MethodName := ⟨RX11, "register", "(II)I"⟩
abbrev cX11_accumulator : ByteArray := prog_13_method_50_code
def yX11_accumulator : MethodName := ⟨RX11, "accumulator", "(I)J"⟩
abbrev cX11_word : ByteArray := prog_13_method_51_code
def yX11_word : MethodName := ⟨RX11, "word", "(II)J"⟩
abbrev cX11_paper : ByteArray := prog_13_method_52_code
def yX11_paper : MethodName := ⟨RX11, "paper", "(II)J"⟩
abbrev cX11_frame : ByteArray := prog_13_method_53_code
def yX11_frame : MethodName := ⟨RX11, "frame", "(II)I"⟩
abbrev cX11_place : ByteArray := prog_13_method_54_code
def yX11_place : MethodName := ⟨RX11, "place", "(II)I"⟩
abbrev cX11_drum : ByteArray := prog_13_method_55_code
def yX11_drum : MethodName := ⟨RX11, "drum", "(I)I"⟩
abbrev cX11_queued : ByteArray := prog_13_method_56_code
def yX11_queued : MethodName := ⟨RX11, "queued", "(I)I"⟩
abbrev cX11_chosen : ByteArray := prog_13_method_57_code
def yX11_chosen : MethodName := ⟨RX11, "chosen", "(I)I"⟩
abbrev cX11_printed : ByteArray := prog_13_method_58_code
def yX11_printed : MethodName := ⟨RX11, "printed", "(I)J"⟩
abbrev cX11_clock : ByteArray := prog_13_method_59_code
def yX11_clock : MethodName := ⟨RX11, "clock", "(I)I"⟩
abbrev cX11_forget : ByteArray := prog_13_method_60_code
def yX11_forget : MethodName := ⟨RX11, "forget", "(I)Z"⟩
def RJ13 : String := "java/lang/Long"
def TJ13 : u_T := fun k => match k with
  | _ => ("", "", "", false)
def tyJ13 : Nat → FieldType := fun k => match k with
  | _ => .int
abbrev wsJ130 : List Cond := u_ws RJ13 TJ13 0
theorem nmJ13 : ∀ a, a < 0 → ∀ b, b < 0 → a ≠ b → (TJ13 a).2.1 ≠ (TJ13 b).2.1 := by decide +kernel
theorem tyJ13_ok : ∀ k, k < 0 → parseFieldDescriptor (TJ13 k).2.2.1 = some (tyJ13 k) := by decide +kernel
abbrev cJ13_bitCount_95d88 : ByteArray := prog_14_method_50_code
def yJ13_bitCount_95d88 : MethodName := ⟨RJ13, "bitCount", "(J)I"⟩
def RJ9 : String := "java/lang/Math"
def TJ9 : u_T := fun k => match k with
  | _ => ("", "", "", false)
def tyJ9 : Nat → FieldType := fun k => match k with
  | _ => .int
abbrev wsJ90 : List Cond := u_ws RJ9 TJ9 0
theorem nmJ9 : ∀ a, a < 0 → ∀ b, b < 0 → a ≠ b → (TJ9 a).2.1 ≠ (TJ9 b).2.1 := by decide +kernel
theorem tyJ9_ok : ∀ k, k < 0 → parseFieldDescriptor (TJ9 k).2.2.1 = some (tyJ9 k) := by decide +kernel
abbrev cJ9_max_7cf53 : ByteArray := prog_15_method_65_code
def yJ9_max_7cf53 : MethodName := ⟨RJ9, "max", "(II)I"⟩
abbrev cJ9_min_7cf53 : ByteArray := prog_15_method_69_code
def yJ9_min_7cf53 : MethodName := ⟨RJ9, "min", "(II)I"⟩
def RJ7 : String := "java/util/Arrays"
def TJ7 : u_T := fun k => match k with
  | _ => ("", "", "", false)
def tyJ7 : Nat → FieldType := fun k => match k with
  | _ => .int
abbrev wsJ70 : List Cond := u_ws RJ7 TJ7 0
theorem nmJ7 : ∀ a, a < 0 → ∀ b, b < 0 → a ≠ b → (TJ7 a).2.1 ≠ (TJ7 b).2.1 := by decide +kernel
theorem tyJ7_ok : ∀ k, k < 0 → parseFieldDescriptor (TJ7 k).2.2.1 = some (tyJ7 k) := by decide +kernel
abbrev cJ7_fill_d0a16 : ByteArray := prog_16_method_101_code
def yJ7_fill_d0a16 : MethodName := ⟨RJ7, "fill", "([JJ)V"⟩
abbrev cJ7_fill_53178 : ByteArray := prog_16_method_103_code
def yJ7_fill_53178 : MethodName := ⟨RJ7, "fill", "([II)V"⟩
def RL : String := "OneLevelStoreLaw"
abbrev cL_cell : ByteArray := method_2_code
def yL_cell : MethodName := ⟨RL, "cell", "([II)I"⟩
abbrev cL_law : ByteArray := code
def yL_law : MethodName := ⟨RL, "law", "([I)Z"⟩
abbrev vwCl : List vw_C := [(RX0, TX0, 1), (RX1, TX1, 8), (RX2, TX2, 9), (RX3, TX3, 15), (RX4, TX4, 5), (RX5, TX5, 1), (RX6, TX6, 4), (RX7, TX7, 4), (RX8, TX8, 8), (RX9, TX9, 3), (RX10, TX10, 13), (RX11, TX11, 51)]
end
section
/-! tables of the abstract machine: printed by program out of the claim's own rows -/
def iL0 : List (Nat × Instr × Nat) := [(0, .aload_n 0, 1), (1, .invokespecial 3, 3), (4, .aload_n 0, 1), (5, .iconst 3, 1), (6, .iload_n 1, 1), (7, .invokestatic 9, 3), (10, .anewarray 15, 3), (13, .putfield 17, 3), (16, .iconst 0, 1), (17, .istore_n 2, 1), (18, .iload_n 2, 1), (19, .aload_n 0, 1), (20, .getfield 17, 3), (23, .arraylength, 1), (24, .if_icmp .ge 23, 3), (27, .aload_n 0, 1), (28, .getfield 17, 3), (31, .iload_n 2, 1), (32, .new 15, 3), (35, .dup, 1), (36, .iload_n 2, 1), (37, .invokespecial 23, 3), (40, .aastore, 1), (41, .iinc 2 1, 3), (44, .goto (-26), 3), (47, .return_, 1)]
def iL1 : List (Nat × Instr × Nat) := [(0, .iload_n 1, 1), (1, .ifCond .lt 12, 3), (4, .iload_n 1, 1), (5, .aload_n 0, 1), (6, .getfield 17, 3), (9, .arraylength, 1), (10, .if_icmp .lt 7, 3), (13, .aconst_null, 1), (14, .goto 9, 3), (17, .aload_n 0, 1), (18, .getfield 17, 3), (21, .iload_n 1, 1), (22, .aaload, 1), (23, .areturn, 1)]
def iL2 : List (Nat × Instr × Nat) := [(0, .iconst 0, 1), (1, .istore_n 2, 1), (2, .iload_n 2, 1), (3, .aload_n 0, 1), (4, .getfield 17, 3), (7, .arraylength, 1), (8, .if_icmp .ge 29, 3), (11, .aload_n 0, 1), (12, .getfield 17, 3), (15, .iload_n 2, 1), (16, .aaload, 1), (17, .getfield 26, 3), (20, .iload_n 1, 1), (21, .if_icmp .ne 10, 3), (24, .aload_n 0, 1), (25, .getfield 17, 3), (28, .iload_n 2, 1), (29, .aaload, 1), (30, .areturn, 1), (31, .iinc 2 1, 3), (34, .goto (-32), 3), (37, .aconst_null, 1), (38, .areturn, 1)]
def iL3 : List (Nat × Instr × Nat) := [(0, .iconst 0, 1), (1, .istore_n 3, 1), (2, .iload_n 3, 1), (3, .aload_n 0, 1), (4, .getfield 17, 3), (7, .arraylength, 1), (8, .if_icmp .ge 47, 3), (11, .aload_n 0, 1), (12, .getfield 17, 3), (15, .iload_n 3, 1), (16, .aaload, 1), (17, .astore 4, 2), (19, .aload 4, 2), (21, .getfield 30, 3), (24, .iload_n 2, 1), (25, .if_icmp .ne 24, 3), (28, .aload 4, 2), (30, .getfield 33, 3), (33, .iload_n 1, 1), (34, .if_icmp .ne 15, 3), (37, .aload 4, 2), (39, .getfield 26, 3), (42, .iconst 1, 1), (43, .if_icmp .ne 6, 3), (46, .aload 4, 2), (48, .areturn, 1), (49, .iinc 3 1, 3), (52, .goto (-50), 3), (55, .aconst_null, 1), (56, .areturn, 1)]
def iL4 : List (Nat × Instr × Nat) := [(0, .aload_n 0, 1), (1, .iconst 0, 1), (2, .invokevirtual 36, 3), (5, .astore_n 1, 1), (6, .aload_n 1, 1), (7, .ifnonnull 11, 3), (10, .aload_n 0, 1), (11, .iconst 1, 1), (12, .invokevirtual 36, 3), (15, .goto 4, 3), (18, .aload_n 1, 1), (19, .areturn, 1)]
def iL5 : List (Nat × Instr × Nat) := [(0, .aconst_null, 1), (1, .astore_n 2, 1), (2, .iconst 0, 1), (3, .istore_n 3, 1), (4, .iload_n 3, 1), (5, .aload_n 0, 1), (6, .getfield 17, 3), (9, .arraylength, 1), (10, .if_icmp .ge 51, 3), (13, .aload_n 0, 1), (14, .getfield 17, 3), (17, .iload_n 3, 1), (18, .aaload, 1), (19, .astore 4, 2), (21, .aload 4, 2), (23, .getfield 26, 3), (26, .iconst 1, 1), (27, .if_icmp .ne 28, 3), (30, .aload 4, 2), (32, .getfield 40, 3), (35, .iload_n 1, 1), (36, .if_icmp .ne 19, 3), (39, .aload_n 2, 1), (40, .ifnull 12, 3), (43, .aload 4, 2), (45, .aload_n 2, 1), (46, .invokevirtual 44, 3), (49, .ifCond .eq 6, 3), (52, .aload 4, 2), (54, .astore_n 2, 1), (55, .iinc 3 1, 3), (58, .goto (-54), 3), (61, .aload_n 2, 1), (62, .areturn, 1)]
def iL6 : List (Nat × Instr × Nat) := [(0, .iconst 0, 1), (1, .istore_n 1, 1), (2, .iload_n 1, 1), (3, .aload_n 0, 1), (4, .getfield 17, 3), (7, .arraylength, 1), (8, .if_icmp .ge 31, 3), (11, .aload_n 0, 1), (12, .getfield 17, 3), (15, .iload_n 1, 1), (16, .aaload, 1), (17, .getfield 26, 3), (20, .iconst 1, 1), (21, .if_icmp .ne 12, 3), (24, .aload_n 0, 1), (25, .getfield 17, 3), (28, .iload_n 1, 1), (29, .aaload, 1), (30, .invokevirtual 48, 3), (33, .iinc 1 1, 3), (36, .goto (-34), 3), (39, .return_, 1)]
def iL7 : List (Nat × Instr × Nat) := [(0, .iconst 0, 1), (1, .istore_n 3, 1), (2, .iload_n 3, 1), (3, .aload_n 0, 1), (4, .getfield 17, 3), (7, .arraylength, 1), (8, .if_icmp .ge 49, 3), (11, .aload_n 0, 1), (12, .getfield 17, 3), (15, .iload_n 3, 1), (16, .aaload, 1), (17, .astore 4, 2), (19, .aload 4, 2), (21, .getfield 33, 3), (24, .iload_n 1, 1), (25, .if_icmp .eq 6, 3), (28, .goto 23, 3), (31, .aload 4, 2), (33, .aload_n 2, 1), (34, .if_acmp .ne 12, 3), (37, .aload 4, 2), (39, .aconst_null, 1), (40, .putfield 51, 3), (43, .goto 8, 3), (46, .aload 4, 2), (48, .invokevirtual 55, 3), (51, .iinc 3 1, 3), (54, .goto (-52), 3), (57, .return_, 1)]
def iL8 : List (Nat × Instr × Nat) := [(0, .aload_n 0, 1), (1, .invokespecial 3, 3), (4, .aload_n 0, 1), (5, .bipush 64, 2), (7, .anewarray 9, 3), (10, .putfield 11, 3), (13, .aload_n 0, 1), (14, .bipush 16, 2), (16, .anewarray 17, 3), (19, .putfield 19, 3), (22, .iconst 0, 1), (23, .istore_n 1, 1), (24, .iload_n 1, 1), (25, .aload_n 0, 1), (26, .getfield 11, 3), (29, .arraylength, 1), (30, .if_icmp .ge 23, 3), (33, .aload_n 0, 1), (34, .getfield 11, 3), (37, .iload_n 1, 1), (38, .new 9, 3), (41, .dup, 1), (42, .iload_n 1, 1), (43, .invokespecial 23, 3), (46, .aastore, 1), (47, .iinc 1 1, 3), (50, .goto (-26), 3), (53, .return_, 1)]
def iL9 : List (Nat × Instr × Nat) := [(0, .iload_n 1, 1), (1, .ifCond .lt 12, 3), (4, .iload_n 1, 1), (5, .aload_n 0, 1), (6, .getfield 11, 3), (9, .arraylength, 1), (10, .if_icmp .lt 7, 3), (13, .aconst_null, 1), (14, .goto 9, 3), (17, .aload_n 0, 1), (18, .getfield 11, 3), (21, .iload_n 1, 1), (22, .aaload, 1), (23, .areturn, 1)]
def iL10 : List (Nat × Instr × Nat) := [(0, .iload_n 1, 1), (1, .ifCond .lt 20, 3), (4, .iload_n 1, 1), (5, .aload_n 0, 1), (6, .getfield 26, 3), (9, .if_icmp .ge 12, 3), (12, .iload_n 1, 1), (13, .aload_n 0, 1), (14, .getfield 19, 3), (17, .arraylength, 1), (18, .if_icmp .lt 7, 3), (21, .aconst_null, 1), (22, .goto 9, 3), (25, .aload_n 0, 1), (26, .getfield 19, 3), (29, .iload_n 1, 1), (30, .aaload, 1), (31, .areturn, 1)]
def iL11 : List (Nat × Instr × Nat) := [(0, .iconst 0, 1), (1, .istore_n 1, 1), (2, .iconst 0, 1), (3, .istore_n 2, 1), (4, .iload_n 2, 1), (5, .aload_n 0, 1), (6, .getfield 11, 3), (9, .arraylength, 1), (10, .if_icmp .ge 24, 3), (13, .aload_n 0, 1), (14, .getfield 11, 3), (17, .iload_n 2, 1), (18, .aaload, 1), (19, .getfield 30, 3), (22, .ifCond .ne 6, 3), (25, .iinc 1 1, 3), (28, .iinc 2 1, 3), (31, .goto (-27), 3), (34, .iload_n 1, 1), (35, .ireturn, 1)]
def iL12 : List (Nat × Instr × Nat) := [(0, .iconst 0, 1), (1, .istore_n 1, 1), (2, .iload_n 1, 1), (3, .aload_n 0, 1), (4, .getfield 11, 3), (7, .arraylength, 1), (8, .if_icmp .ge 28, 3), (11, .aload_n 0, 1), (12, .getfield 11, 3), (15, .iload_n 1, 1), (16, .aaload, 1), (17, .getfield 30, 3), (20, .ifCond .ne 10, 3), (23, .aload_n 0, 1), (24, .getfield 11, 3), (27, .iload_n 1, 1), (28, .aaload, 1), (29, .areturn, 1), (30, .iinc 1 1, 3), (33, .goto (-31), 3), (36, .aconst_null, 1), (37, .areturn, 1)]
def iL13 : List (Nat × Instr × Nat) := [(0, .aload_n 0, 1), (1, .getfield 26, 3), (4, .ifCond .lt 35, 3), (7, .aload_n 0, 1), (8, .getfield 26, 3), (11, .aload_n 0, 1), (12, .getfield 19, 3), (15, .arraylength, 1), (16, .if_icmp .ge 23, 3), (19, .aload_n 0, 1), (20, .getfield 19, 3), (23, .aload_n 0, 1), (24, .getfield 26, 3), (27, .aload_n 1, 1), (28, .aastore, 1), (29, .aload_n 0, 1), (30, .dup, 1), (31, .getfield 26, 3), (34, .iconst 1, 1), (35, .iadd, 1), (36, .putfield 26, 3), (39, .return_, 1)]
def iL14 : List (Nat × Instr × Nat) := [(0, .aload_n 0, 1), (1, .getfield 34, 3), (4, .astore_n 1, 1), (5, .aload_n 0, 1), (6, .getfield 38, 3), (9, .astore_n 2, 1), (10, .aload_n 0, 1), (11, .aconst_null, 1), (12, .putfield 34, 3), (15, .aload_n 0, 1), (16, .aconst_null, 1), (17, .putfield 38, 3), (20, .aload_n 1, 1), (21, .ifnull 7, 3), (24, .aload_n 2, 1), (25, .ifnonnull 4, 3), (28, .return_, 1), (29, .aload_n 1, 1), (30, .getfield 42, 3), (33, .astore_n 3, 1), (34, .aload_n 1, 1), (35, .getfield 46, 3), (38, .iconst 3, 1), (39, .if_icmp .ne 32, 3), (42, .aload_n 0, 1), (43, .dup, 1), (44, .getfield 49, 3), (47, .iconst 1, 1), (48, .iadd, 1), (49, .putfield 49, 3), (52, .aload_n 2, 1), (53, .aload_n 3, 1), (54, .ifnull 7, 3), (57, .iconst 1, 1), (58, .goto 4, 3), (61, .iconst 0, 1), (62, .putfield 30, 3), (65, .aload_n 1, 1), (66, .aload_n 3, 1), (67, .invokestatic 52, 3), (70, .return_, 1), (71, .aload_n 0, 1), (72, .dup, 1), (73, .getfield 56, 3), (76, .iconst 1, 1), (77, .iadd, 1), (78, .putfield 56, 3), (81, .aload_n 2, 1), (82, .iconst 0, 1), (83, .putfield 30, 3), (86, .aload_n 3, 1), (87, .ifnonnull 10, 3), (90, .aload_n 1, 1), (91, .invokevirtual 59, 3), (94, .goto 14, 3), (97, .aload_n 3, 1), (98, .aconst_null, 1), (99, .putfield 62, 3), (102, .aload_n 1, 1), (103, .aload_n 3, 1), (104, .iconst 1, 1), (105, .invokevirtual 67, 3), (108, .return_, 1)]
def iL15 : List (Nat × Instr × Nat) := [(0, .aload_n 0, 1), (1, .invokevirtual 59, 3), (4, .aload_n 1, 1), (5, .ifnull 8, 3), (8, .aload_n 1, 1), (9, .aconst_null, 1), (10, .putfield 71, 3), (13, .return_, 1)]
def iL16 : List (Nat × Instr × Nat) := [(0, .iload_n 1, 1), (1, .bipush 32, 2), (3, .idiv, 1), (4, .bipush 8, 2), (6, .irem, 1), (7, .istore_n 2, 1), (8, .iconst 0, 1), (9, .istore_n 3, 1), (10, .iload_n 3, 1), (11, .aload_n 0, 1), (12, .getfield 26, 3), (15, .if_icmp .ge 100, 3), (18, .iload_n 3, 1), (19, .aload_n 0, 1), (20, .getfield 19, 3), (23, .arraylength, 1), (24, .if_icmp .ge 91, 3), (27, .aload_n 0, 1), (28, .getfield 19, 3), (31, .iload_n 3, 1), (32, .aaload, 1), (33, .astore 4, 2), (35, .aload 4, 2), (37, .ifnonnull 7, 3), (40, .aconst_null, 1), (41, .goto 8, 3), (44, .aload 4, 2), (46, .getfield 42, 3), (49, .astore 5, 2), (51, .aload 5, 2), (53, .ifnonnull 7, 3), (56, .aconst_null, 1), (57, .goto 15, 3), (60, .aload_n 0, 1), (61, .aload 4, 2), (63, .getfield 46, 3), (66, .aload 5, 2), (68, .iload_n 2, 1), (69, .invokevirtual 74, 3), (72, .astore 6, 2), (74, .aload 6, 2), (76, .ifnull 33, 3), (79, .aload 6, 2), (81, .aload 5, 2), (83, .invokevirtual 78, 3), (86, .aload_n 0, 1), (87, .aload 4, 2), (89, .putfield 34, 3), (92, .aload_n 0, 1), (93, .aload 6, 2), (95, .putfield 38, 3), (98, .aload_n 0, 1), (99, .iload_n 1, 1), (100, .putfield 81, 3), (103, .aload_n 0, 1), (104, .iload_n 3, 1), (105, .invokevirtual 84, 3), (108, .return_, 1), (109, .iinc 3 1, 3), (112, .goto (-102), 3), (115, .return_, 1)]
def iL17 : List (Nat × Instr × Nat) := [(0, .iload_n 1, 1), (1, .iconst 2, 1), (2, .if_icmp .ne 33, 3), (5, .aload_n 2, 1), (6, .getfield 62, 3), (9, .astore 4, 2), (11, .aload 4, 2), (13, .ifnull 20, 3), (16, .aload 4, 2), (18, .getfield 87, 3), (21, .bipush 8, 2), (23, .irem, 1), (24, .iload_n 3, 1), (25, .if_icmp .ne 8, 3), (28, .aload 4, 2), (30, .goto 4, 3), (33, .aconst_null, 1), (34, .areturn, 1), (35, .iconst 0, 1), (36, .istore 4, 2), (38, .iload 4, 2), (40, .aload_n 0, 1), (41, .getfield 11, 3), (44, .arraylength, 1), (45, .if_icmp .ge 39, 3), (48, .aload_n 0, 1), (49, .getfield 11, 3), (52, .iload 4, 2), (54, .aaload, 1), (55, .getfield 30, 3), (58, .ifCond .ne 20, 3), (61, .iload 4, 2), (63, .bipush 8, 2), (65, .irem, 1), (66, .iload_n 3, 1), (67, .if_icmp .ne 11, 3), (70, .aload_n 0, 1), (71, .getfield 11, 3), (74, .iload 4, 2), (76, .aaload, 1), (77, .areturn, 1), (78, .iinc 4 1, 3), (81, .goto (-43), 3), (84, .aconst_null, 1), (85, .areturn, 1)]
def iL18 : List (Nat × Instr × Nat) := [(0, .iconst 0, 1), (1, .iload_n 1, 1), (2, .invokestatic 90, 3), (5, .istore_n 2, 1), (6, .iload_n 2, 1), (7, .iconst 1, 1), (8, .iadd, 1), (9, .aload_n 0, 1), (10, .getfield 26, 3), (13, .if_icmp .ge 34, 3), (16, .iload_n 2, 1), (17, .iconst 1, 1), (18, .iadd, 1), (19, .aload_n 0, 1), (20, .getfield 19, 3), (23, .arraylength, 1), (24, .if_icmp .ge 23, 3), (27, .aload_n 0, 1), (28, .getfield 19, 3), (31, .iload_n 2, 1), (32, .aload_n 0, 1), (33, .getfield 19, 3), (36, .iload_n 2, 1), (37, .iconst 1, 1), (38, .iadd, 1), (39, .aaload, 1), (40, .aastore, 1), (41, .iinc 2 1, 3), (44, .goto (-38), 3), (47, .aload_n 0, 1), (48, .dup, 1), (49, .getfield 26, 3), (52, .iconst 1, 1), (53, .isub, 1), (54, .putfield 26, 3), (57, .return_, 1)]
def iL19 : List (Nat × Instr × Nat) := [(0, .iconst 0, 1), (1, .istore_n 2, 1), (2, .iconst 0, 1), (3, .istore_n 3, 1), (4, .iload_n 3, 1), (5, .aload_n 0, 1), (6, .getfield 26, 3), (9, .if_icmp .ge 60, 3), (12, .iload_n 3, 1), (13, .aload_n 0, 1), (14, .getfield 19, 3), (17, .arraylength, 1), (18, .if_icmp .ge 51, 3), (21, .aload_n 0, 1), (22, .getfield 19, 3), (25, .iload_n 3, 1), (26, .aaload, 1), (27, .astore 4, 2), (29, .aload 4, 2), (31, .ifnull 32, 3), (34, .aload 4, 2), (36, .getfield 96, 3), (39, .iload_n 1, 1), (40, .if_icmp .eq 23, 3), (43, .iload_n 2, 1), (44, .aload_n 0, 1), (45, .getfield 19, 3), (48, .arraylength, 1), (49, .if_icmp .ge 14, 3), (52, .aload_n 0, 1), (53, .getfield 19, 3), (56, .iload_n 2, 1), (57, .aload 4, 2), (59, .aastore, 1), (60, .iinc 2 1, 3), (63, .iinc 3 1, 3), (66, .goto (-62), 3), (69, .aload_n 0, 1), (70, .iload_n 2, 1), (71, .putfield 26, 3), (74, .return_, 1)]
def iL20 : List (Nat × Instr × Nat) := [(0, .iconst 0, 1), (1, .istore_n 2, 1), (2, .iload_n 2, 1), (3, .aload_n 0, 1), (4, .getfield 11, 3), (7, .arraylength, 1), (8, .if_icmp .ge 45, 3), (11, .aload_n 0, 1), (12, .getfield 11, 3), (15, .iload_n 2, 1), (16, .aaload, 1), (17, .getfield 99, 3), (20, .iload_n 1, 1), (21, .if_icmp .ne 26, 3), (24, .aload_n 0, 1), (25, .getfield 11, 3), (28, .iload_n 2, 1), (29, .aaload, 1), (30, .aload_n 0, 1), (31, .getfield 38, 3), (34, .if_acmp .eq 13, 3), (37, .aload_n 0, 1), (38, .getfield 11, 3), (41, .iload_n 2, 1), (42, .aaload, 1), (43, .iconst 0, 1), (44, .putfield 30, 3), (47, .iinc 2 1, 3), (50, .goto (-48), 3), (53, .return_, 1)]
def iL21 : List (Nat × Instr × Nat) := [(0, .iload_n 1, 1), (1, .tableswitch 42 4 6 #[27, 32, 37], 27), (28, .aload_n 0, 1), (29, .getfield 26, 3), (32, .ireturn, 1), (33, .aload_n 0, 1), (34, .getfield 56, 3), (37, .ireturn, 1), (38, .aload_n 0, 1), (39, .getfield 49, 3), (42, .ireturn, 1), (43, .aload_n 0, 1), (44, .getfield 34, 3), (47, .ifnull 10, 3), (50, .aload_n 0, 1), (51, .getfield 38, 3), (54, .ifnonnull 5, 3), (57, .iconst (-1), 1), (58, .ireturn, 1), (59, .iload_n 1, 1), (60, .tableswitch 75 0 3 #[32, 40, 48, 65], 32), (92, .aload_n 0, 1), (93, .getfield 34, 3), (96, .getfield 100, 3), (99, .ireturn, 1), (100, .aload_n 0, 1), (101, .getfield 38, 3), (104, .getfield 87, 3), (107, .ireturn, 1), (108, .aload_n 0, 1), (109, .getfield 34, 3), (112, .getfield 46, 3), (115, .iconst 3, 1), (116, .if_icmp .ne 7, 3), (119, .iconst 1, 1), (120, .goto 4, 3), (123, .iconst 0, 1), (124, .ireturn, 1), (125, .bipush 32, 2), (127, .iload_n 2, 1), (128, .aload_n 0, 1), (129, .getfield 81, 3), (132, .isub, 1), (133, .isub, 1), (134, .ireturn, 1), (135, .iconst (-1), 1), (136, .ireturn, 1)]
def iL22 : List (Nat × Instr × Nat) := [(0, .aload_n 0, 1), (1, .invokespecial 3, 3), (4, .aload_n 0, 1), (5, .iconst 0, 1), (6, .putfield 9, 3), (9, .aload_n 0, 1), (10, .iload_n 1, 1), (11, .putfield 15, 3), (14, .return_, 1)]
def iL23 : List (Nat × Instr × Nat) := [(0, .aload_n 0, 1), (1, .iload_n 2, 1), (2, .putfield 9, 3), (5, .aload_n 0, 1), (6, .aload_n 1, 1), (7, .getfield 18, 3), (10, .putfield 23, 3), (13, .aload_n 0, 1), (14, .aload_n 1, 1), (15, .getfield 24, 3), (18, .putfield 27, 3), (21, .aload_n 0, 1), (22, .aload_n 1, 1), (23, .putfield 28, 3), (26, .aload_n 1, 1), (27, .aload_n 0, 1), (28, .putfield 32, 3), (31, .aload_n 0, 1), (32, .iconst 0, 1), (33, .putfield 36, 3), (36, .aload_n 0, 1), (37, .iconst 0, 1), (38, .putfield 39, 3), (41, .aload_n 0, 1), (42, .iconst 0, 1), (43, .putfield 42, 3), (46, .aload_n 0, 1), (47, .iload_n 2, 1), (48, .iconst 1, 1), (49, .if_icmp .ne 7, 3), (52, .iconst 1, 1), (53, .goto 4, 3), (56, .iconst 0, 1), (57, .putfield 46, 3), (60, .return_, 1)]
def iL24 : List (Nat × Instr × Nat) := [(0, .aload_n 0, 1), (1, .iconst 0, 1), (2, .putfield 9, 3), (5, .aload_n 0, 1), (6, .aconst_null, 1), (7, .putfield 28, 3), (10, .return_, 1)]
def iL25 : List (Nat × Instr × Nat) := [(0, .aload_n 0, 1), (1, .iconst 1, 1), (2, .putfield 42, 3), (5, .aload_n 0, 1), (6, .iconst 0, 1), (7, .putfield 46, 3), (10, .return_, 1)]
def iL26 : List (Nat × Instr × Nat) := [(0, .aload_n 0, 1), (1, .getfield 42, 3), (4, .ifCond .ne 14, 3), (7, .aload_n 0, 1), (8, .dup, 1), (9, .getfield 36, 3), (12, .iconst 1, 1), (13, .iadd, 1), (14, .putfield 36, 3), (17, .return_, 1), (18, .aload_n 0, 1), (19, .getfield 36, 3), (22, .ifCond .le 11, 3), (25, .aload_n 0, 1), (26, .aload_n 0, 1), (27, .getfield 36, 3), (30, .putfield 39, 3), (33, .aload_n 0, 1), (34, .iconst 0, 1), (35, .putfield 36, 3), (38, .aload_n 0, 1), (39, .iconst 0, 1), (40, .putfield 42, 3), (43, .return_, 1)]
def iL27 : List (Nat × Instr × Nat) := [(0, .iload_n 1, 1), (1, .ifCond .ne 8, 3), (4, .aload_n 0, 1), (5, .getfield 9, 3), (8, .ireturn, 1), (9, .aload_n 0, 1), (10, .getfield 9, 3), (13, .ifCond .ne 5, 3), (16, .iconst (-1), 1), (17, .ireturn, 1), (18, .iload_n 1, 1), (19, .tableswitch 83 1 6 #[37, 42, 47, 52, 57, 70], 37), (56, .aload_n 0, 1), (57, .getfield 23, 3), (60, .ireturn, 1), (61, .aload_n 0, 1), (62, .getfield 27, 3), (65, .ireturn, 1), (66, .aload_n 0, 1), (67, .getfield 36, 3), (70, .ireturn, 1), (71, .aload_n 0, 1), (72, .getfield 39, 3), (75, .ireturn, 1), (76, .aload_n 0, 1), (77, .getfield 42, 3), (80, .ifCond .eq 7, 3), (83, .iconst 1, 1), (84, .goto 4, 3), (87, .iconst 0, 1), (88, .ireturn, 1), (89, .aload_n 0, 1), (90, .getfield 46, 3), (93, .ifCond .eq 7, 3), (96, .iconst 1, 1), (97, .goto 4, 3), (100, .iconst 0, 1), (101, .ireturn, 1), (102, .iconst (-1), 1), (103, .ireturn, 1)]
def iL28 : List (Nat × Instr × Nat) := [(0, .aload_n 0, 1), (1, .getfield 36, 3), (4, .aload_n 0, 1), (5, .getfield 39, 3), (8, .iconst 1, 1), (9, .iadd, 1), (10, .if_icmp .le 5, 3), (13, .iconst 2, 1), (14, .ireturn, 1), (15, .aload_n 0, 1), (16, .getfield 39, 3), (19, .ifCond .le 7, 3), (22, .iconst 1, 1), (23, .goto 4, 3), (26, .iconst 0, 1), (27, .ireturn, 1)]
def iL29 : List (Nat × Instr × Nat) := [(0, .aload_n 0, 1), (1, .invokevirtual 49, 3), (4, .aload_n 1, 1), (5, .invokevirtual 49, 3), (8, .if_icmp .eq 20, 3), (11, .aload_n 0, 1), (12, .invokevirtual 49, 3), (15, .aload_n 1, 1), (16, .invokevirtual 49, 3), (19, .if_icmp .le 7, 3), (22, .iconst 1, 1), (23, .goto 4, 3), (26, .iconst 0, 1), (27, .ireturn, 1), (28, .aload_n 0, 1), (29, .invokevirtual 49, 3), (32, .iconst 1, 1), (33, .if_icmp .ne 30, 3), (36, .aload_n 0, 1), (37, .getfield 39, 3), (40, .aload_n 0, 1), (41, .getfield 36, 3), (44, .isub, 1), (45, .aload_n 1, 1), (46, .getfield 39, 3), (49, .aload_n 1, 1), (50, .getfield 36, 3), (53, .isub, 1), (54, .if_icmp .le 7, 3), (57, .iconst 1, 1), (58, .goto 4, 3), (61, .iconst 0, 1), (62, .ireturn, 1), (63, .aload_n 0, 1), (64, .getfield 36, 3), (67, .aload_n 1, 1), (68, .getfield 36, 3), (71, .if_icmp .le 7, 3), (74, .iconst 1, 1), (75, .goto 4, 3), (78, .iconst 0, 1), (79, .ireturn, 1)]
def iL30 : List (Nat × Instr × Nat) := [(0, .aload_n 0, 1), (1, .invokespecial 3, 3), (4, .aload_n 0, 1), (5, .sipush 128, 3), (8, .newarray .int, 2), (10, .putfield 9, 3), (13, .aload_n 0, 1), (14, .new 15, 3), (17, .dup, 1), (18, .sipush 500, 3), (21, .invokespecial 17, 3), (24, .putfield 20, 3), (27, .aload_n 0, 1), (28, .new 15, 3), (31, .dup, 1), (32, .sipush 200, 3), (35, .invokespecial 17, 3), (38, .putfield 24, 3), (41, .aload_n 0, 1), (42, .iload_n 1, 1), (43, .putfield 27, 3), (46, .aload_n 0, 1), (47, .iconst (-1), 1), (48, .putfield 31, 3), (51, .return_, 1)]
def iL31 : List (Nat × Instr × Nat) := [(0, .aload_n 0, 1), (1, .iconst 0, 1), (2, .putfield 34, 3), (5, .aload_n 0, 1), (6, .iconst 0, 1), (7, .putfield 37, 3), (10, .aload_n 0, 1), (11, .iconst 0, 1), (12, .putfield 40, 3), (15, .aload_n 0, 1), (16, .iconst 0, 1), (17, .putfield 43, 3), (20, .aload_n 0, 1), (21, .iconst 0, 1), (22, .putfield 46, 3), (25, .aload_n 0, 1), (26, .iconst 0, 1), (27, .putfield 49, 3), (30, .aload_n 0, 1), (31, .iconst 0, 1), (32, .putfield 52, 3), (35, .aload_n 0, 1), (36, .iconst (-1), 1), (37, .putfield 31, 3), (40, .aload_n 0, 1), (41, .iconst 0, 1), (42, .putfield 55, 3), (45, .aload_n 0, 1), (46, .lconst 0, 1), (47, .putfield 58, 3), (50, .aload_n 0, 1), (51, .aconst_null, 1), (52, .putfield 62, 3), (55, .aload_n 0, 1), (56, .getfield 9, 3), (59, .iconst 0, 1), (60, .invokestatic 66, 3), (63, .aload_n 0, 1), (64, .getfield 20, 3), (67, .invokevirtual 72, 3), (70, .aload_n 0, 1), (71, .getfield 24, 3), (74, .invokevirtual 72, 3), (77, .return_, 1)]
def iL32 : List (Nat × Instr × Nat) := [(0, .aload_n 0, 1), (1, .iconst 1, 1), (2, .putfield 34, 3), (5, .aload_n 0, 1), (6, .iload_n 2, 1), (7, .putfield 43, 3), (10, .aload_n 0, 1), (11, .iload_n 3, 1), (12, .putfield 49, 3), (15, .aload_n 0, 1), (16, .bipush 127, 2), (18, .iload_n 1, 1), (19, .i2l, 1), (20, .invokevirtual 75, 3), (23, .return_, 1)]
def iL33 : List (Nat × Instr × Nat) := [(0, .aload_n 0, 1), (1, .iconst 2, 1), (2, .putfield 34, 3), (5, .aload_n 0, 1), (6, .aload_n 1, 1), (7, .putfield 62, 3), (10, .return_, 1)]
def iL34 : List (Nat × Instr × Nat) := [(0, .aload_n 0, 1), (1, .iconst 1, 1), (2, .putfield 34, 3), (5, .aload_n 0, 1), (6, .aconst_null, 1), (7, .putfield 62, 3), (10, .return_, 1)]
def iL35 : List (Nat × Instr × Nat) := [(0, .aload_n 0, 1), (1, .getfield 34, 3), (4, .iconst 3, 1), (5, .if_icmp .eq 11, 3), (8, .aload_n 0, 1), (9, .getfield 34, 3), (12, .iconst 4, 1), (13, .if_icmp .ne 7, 3), (16, .iconst 1, 1), (17, .goto 4, 3), (20, .iconst 0, 1), (21, .ireturn, 1)]
def iL36 : List (Nat × Instr × Nat) := [(0, .aload_n 0, 1), (1, .getfield 55, 3), (4, .aload_n 0, 1), (5, .getfield 24, 3), (8, .invokevirtual 79, 3), (11, .if_icmp .lt 7, 3), (14, .iconst 1, 1), (15, .goto 4, 3), (18, .iconst 0, 1), (19, .ireturn, 1)]
def iL37 : List (Nat × Instr × Nat) := [(0, .aload_n 0, 1), (1, .invokevirtual 83, 3), (4, .ifCond .eq 5, 3), (7, .iconst 0, 1), (8, .ireturn, 1), (9, .aload_n 0, 1), (10, .getfield 34, 3), (13, .ifCond .ne 10, 3), (16, .aload_n 0, 1), (17, .getfield 46, 3), (20, .goto 7, 3), (23, .aload_n 0, 1), (24, .getfield 49, 3), (27, .ireturn, 1)]
def iL38 : List (Nat × Instr × Nat) := [(0, .iload_n 1, 1), (1, .ifCond .lt 12, 3), (4, .iload_n 1, 1), (5, .aload_n 0, 1), (6, .getfield 9, 3), (9, .arraylength, 1), (10, .if_icmp .lt 7, 3), (13, .iconst 0, 1), (14, .goto 9, 3), (17, .aload_n 0, 1), (18, .getfield 9, 3), (21, .iload_n 1, 1), (22, .iaload, 1), (23, .ireturn, 1)]
def iL39 : List (Nat × Instr × Nat) := [(0, .iload_n 1, 1), (1, .ifCond .le 22, 3), (4, .iload_n 1, 1), (5, .aload_n 0, 1), (6, .getfield 9, 3), (9, .arraylength, 1), (10, .if_icmp .ge 13, 3), (13, .aload_n 0, 1), (14, .getfield 9, 3), (17, .iload_n 1, 1), (18, .lload_n 2, 1), (19, .invokestatic 87, 3), (22, .iastore, 1), (23, .return_, 1)]
def iL40 : List (Nat × Instr × Nat) := [(0, .iload_n 1, 1), (1, .tableswitch 116 0 8 #[51, 56, 61, 66, 85, 90, 98, 106, 111], 51), (52, .aload_n 0, 1), (53, .getfield 34, 3), (56, .ireturn, 1), (57, .aload_n 0, 1), (58, .getfield 37, 3), (61, .ireturn, 1), (62, .aload_n 0, 1), (63, .getfield 40, 3), (66, .ireturn, 1), (67, .aload_n 0, 1), (68, .getfield 62, 3), (71, .ifnonnull 7, 3), (74, .iconst (-1), 1), (75, .goto 10, 3), (78, .aload_n 0, 1), (79, .getfield 62, 3), (82, .getfield 91, 3), (85, .ireturn, 1), (86, .aload_n 0, 1), (87, .getfield 46, 3), (90, .ireturn, 1), (91, .aload_n 0, 1), (92, .getfield 20, 3), (95, .invokevirtual 79, 3), (98, .ireturn, 1), (99, .aload_n 0, 1), (100, .getfield 24, 3), (103, .invokevirtual 79, 3), (106, .ireturn, 1), (107, .aload_n 0, 1), (108, .getfield 52, 3), (111, .ireturn, 1), (112, .aload_n 0, 1), (113, .getfield 31, 3), (116, .ireturn, 1), (117, .iconst (-1), 1), (118, .ireturn, 1)]
def iL41 : List (Nat × Instr × Nat) := [(0, .aload_n 0, 1), (1, .invokespecial 3, 3), (4, .aload_n 0, 1), (5, .iconst (-1), 1), (6, .putfield 9, 3), (9, .return_, 1)]
def iL42 : List (Nat × Instr × Nat) := [(0, .aload_n 0, 1), (1, .iload_n 1, 1), (2, .putfield 9, 3), (5, .aload_n 0, 1), (6, .iload_n 2, 1), (7, .putfield 15, 3), (10, .aload_n 0, 1), (11, .getfield 18, 3), (14, .ifnonnull 15, 3), (17, .aload_n 0, 1), (18, .sipush 512, 3), (21, .newarray .long, 2), (23, .putfield 18, 3), (26, .goto 11, 3), (29, .aload_n 0, 1), (30, .getfield 18, 3), (33, .lconst 0, 1), (34, .invokestatic 22, 3), (37, .return_, 1)]
def iL43 : List (Nat × Instr × Nat) := [(0, .aload_n 0, 1), (1, .iconst (-1), 1), (2, .putfield 9, 3), (5, .aload_n 0, 1), (6, .aconst_null, 1), (7, .putfield 28, 3), (10, .aload_n 0, 1), (11, .aconst_null, 1), (12, .putfield 32, 3), (15, .return_, 1)]
def iL44 : List (Nat × Instr × Nat) := [(0, .aload_n 0, 1), (1, .getfield 28, 3), (4, .ifnull 18, 3), (7, .aload_n 0, 1), (8, .getfield 28, 3), (11, .getfield 36, 3), (14, .iconst 1, 1), (15, .if_icmp .ne 7, 3), (18, .iconst 1, 1), (19, .goto 4, 3), (22, .iconst 0, 1), (23, .ireturn, 1)]
def iL45 : List (Nat × Instr × Nat) := [(0, .aload_n 0, 1), (1, .getfield 18, 3), (4, .ifnull 16, 3), (7, .iload_n 1, 1), (8, .ifCond .lt 12, 3), (11, .iload_n 1, 1), (12, .aload_n 0, 1), (13, .getfield 18, 3), (16, .arraylength, 1), (17, .if_icmp .lt 7, 3), (20, .lconst 0, 1), (21, .goto 9, 3), (24, .aload_n 0, 1), (25, .getfield 18, 3), (28, .iload_n 1, 1), (29, .laload, 1), (30, .lreturn, 1)]
def iL46 : List (Nat × Instr × Nat) := [(0, .aload_n 0, 1), (1, .getfield 18, 3), (4, .ifnull 23, 3), (7, .iload_n 1, 1), (8, .ifCond .lt 19, 3), (11, .iload_n 1, 1), (12, .aload_n 0, 1), (13, .getfield 18, 3), (16, .arraylength, 1), (17, .if_icmp .ge 10, 3), (20, .aload_n 0, 1), (21, .getfield 18, 3), (24, .iload_n 1, 1), (25, .lload_n 2, 1), (26, .lastore, 1), (27, .return_, 1)]
def iL47 : List (Nat × Instr × Nat) := [(0, .aload_n 0, 1), (1, .invokespecial 3, 3), (4, .aload_n 0, 1), (5, .bipush 64, 2), (7, .anewarray 9, 3), (10, .putfield 11, 3), (13, .iconst 0, 1), (14, .istore_n 1, 1), (15, .iload_n 1, 1), (16, .aload_n 0, 1), (17, .getfield 11, 3), (20, .arraylength, 1), (21, .if_icmp .ge 22, 3), (24, .aload_n 0, 1), (25, .getfield 11, 3), (28, .iload_n 1, 1), (29, .new 9, 3), (32, .dup, 1), (33, .invokespecial 17, 3), (36, .aastore, 1), (37, .iinc 1 1, 3), (40, .goto (-25), 3), (43, .return_, 1)]
def iL48 : List (Nat × Instr × Nat) := [(0, .iconst 0, 1), (1, .istore_n 3, 1), (2, .iload_n 3, 1), (3, .aload_n 0, 1), (4, .getfield 11, 3), (7, .arraylength, 1), (8, .if_icmp .ge 42, 3), (11, .aload_n 0, 1), (12, .getfield 11, 3), (15, .iload_n 3, 1), (16, .aaload, 1), (17, .getfield 18, 3), (20, .iload_n 1, 1), (21, .if_icmp .ne 23, 3), (24, .aload_n 0, 1), (25, .getfield 11, 3), (28, .iload_n 3, 1), (29, .aaload, 1), (30, .getfield 22, 3), (33, .iload_n 2, 1), (34, .if_icmp .ne 10, 3), (37, .aload_n 0, 1), (38, .getfield 11, 3), (41, .iload_n 3, 1), (42, .aaload, 1), (43, .areturn, 1), (44, .iinc 3 1, 3), (47, .goto (-45), 3), (50, .aconst_null, 1), (51, .areturn, 1)]
def iL49 : List (Nat × Instr × Nat) := [(0, .iconst 0, 1), (1, .istore_n 3, 1), (2, .iload_n 3, 1), (3, .aload_n 0, 1), (4, .getfield 11, 3), (7, .arraylength, 1), (8, .if_icmp .ge 40, 3), (11, .aload_n 0, 1), (12, .getfield 11, 3), (15, .iload_n 3, 1), (16, .aaload, 1), (17, .getfield 18, 3), (20, .iconst (-1), 1), (21, .if_icmp .ne 21, 3), (24, .aload_n 0, 1), (25, .getfield 11, 3), (28, .iload_n 3, 1), (29, .aaload, 1), (30, .iload_n 1, 1), (31, .iload_n 2, 1), (32, .invokevirtual 25, 3), (35, .aload_n 0, 1), (36, .getfield 11, 3), (39, .iload_n 3, 1), (40, .aaload, 1), (41, .areturn, 1), (42, .iinc 3 1, 3), (45, .goto (-43), 3), (48, .aconst_null, 1), (49, .areturn, 1)]
def iL50 : List (Nat × Instr × Nat) := [(0, .iconst 0, 1), (1, .istore_n 2, 1), (2, .iload_n 2, 1), (3, .aload_n 0, 1), (4, .getfield 11, 3), (7, .arraylength, 1), (8, .if_icmp .ge 31, 3), (11, .aload_n 0, 1), (12, .getfield 11, 3), (15, .iload_n 2, 1), (16, .aaload, 1), (17, .getfield 18, 3), (20, .iload_n 1, 1), (21, .if_icmp .ne 12, 3), (24, .aload_n 0, 1), (25, .getfield 11, 3), (28, .iload_n 2, 1), (29, .aaload, 1), (30, .invokevirtual 29, 3), (33, .iinc 2 1, 3), (36, .goto (-34), 3), (39, .return_, 1)]
def iL51 : List (Nat × Instr × Nat) := [(0, .aload_n 0, 1), (1, .invokespecial 1, 3), (4, .aload_n 0, 1), (5, .iload_n 1, 1), (6, .putfield 7, 3), (9, .return_, 1)]
def iL52 : List (Nat × Instr × Nat) := [(0, .aload_n 0, 1), (1, .iconst 1, 1), (2, .putfield 13, 3), (5, .aload_n 0, 1), (6, .aload_n 1, 1), (7, .getfield 17, 3), (10, .putfield 22, 3), (13, .aload_n 0, 1), (14, .aload_n 1, 1), (15, .getfield 23, 3), (18, .putfield 26, 3), (21, .aload_n 1, 1), (22, .aload_n 0, 1), (23, .putfield 27, 3), (26, .return_, 1)]
def iL53 : List (Nat × Instr × Nat) := [(0, .aload_n 0, 1), (1, .invokespecial 3, 3), (4, .aload_n 0, 1), (5, .new 9, 3), (8, .dup, 1), (9, .sipush 400, 3), (12, .invokespecial 11, 3), (15, .putfield 14, 3), (18, .aload_n 0, 1), (19, .iconst 4, 1), (20, .anewarray 20, 3), (23, .putfield 22, 3), (26, .return_, 1)]
def iL54 : List (Nat × Instr × Nat) := [(0, .aload_n 0, 1), (1, .getfield 26, 3), (4, .ifCond .lt 35, 3), (7, .aload_n 0, 1), (8, .getfield 26, 3), (11, .aload_n 0, 1), (12, .getfield 22, 3), (15, .arraylength, 1), (16, .if_icmp .ge 23, 3), (19, .aload_n 0, 1), (20, .getfield 22, 3), (23, .aload_n 0, 1), (24, .getfield 26, 3), (27, .aload_n 1, 1), (28, .aastore, 1), (29, .aload_n 0, 1), (30, .dup, 1), (31, .getfield 26, 3), (34, .iconst 1, 1), (35, .iadd, 1), (36, .putfield 26, 3), (39, .return_, 1)]
def iL55 : List (Nat × Instr × Nat) := [(0, .iconst 0, 1), (1, .istore_n 2, 1), (2, .iconst 0, 1), (3, .istore_n 3, 1), (4, .iload_n 3, 1), (5, .aload_n 0, 1), (6, .getfield 26, 3), (9, .if_icmp .ge 52, 3), (12, .iload_n 3, 1), (13, .aload_n 0, 1), (14, .getfield 22, 3), (17, .arraylength, 1), (18, .if_icmp .ge 43, 3), (21, .aload_n 0, 1), (22, .getfield 22, 3), (25, .iload_n 3, 1), (26, .aaload, 1), (27, .aload_n 1, 1), (28, .if_acmp .eq 27, 3), (31, .iload_n 2, 1), (32, .aload_n 0, 1), (33, .getfield 22, 3), (36, .arraylength, 1), (37, .if_icmp .ge 18, 3), (40, .aload_n 0, 1), (41, .getfield 22, 3), (44, .iload_n 2, 1), (45, .aload_n 0, 1), (46, .getfield 22, 3), (49, .iload_n 3, 1), (50, .aaload, 1), (51, .aastore, 1), (52, .iinc 2 1, 3), (55, .iinc 3 1, 3), (58, .goto (-54), 3), (61, .aload_n 0, 1), (62, .iload_n 2, 1), (63, .putfield 26, 3), (66, .return_, 1)]
def iL56 : List (Nat × Instr × Nat) := [(0, .iconst 0, 1), (1, .istore_n 1, 1), (2, .iload_n 1, 1), (3, .aload_n 0, 1), (4, .getfield 26, 3), (7, .if_icmp .ge 75, 3), (10, .iload_n 1, 1), (11, .aload_n 0, 1), (12, .getfield 22, 3), (15, .arraylength, 1), (16, .if_icmp .ge 66, 3), (19, .aload_n 0, 1), (20, .getfield 22, 3), (23, .iload_n 1, 1), (24, .aaload, 1), (25, .astore_n 2, 1), (26, .aload_n 2, 1), (27, .ifnull 49, 3), (30, .aload_n 2, 1), (31, .invokevirtual 30, 3), (34, .ifCond .ne 42, 3), (37, .aload_n 0, 1), (38, .getfield 14, 3), (41, .aload_n 2, 1), (42, .getfield 34, 3), (45, .aload_n 2, 1), (46, .getfield 37, 3), (49, .invokevirtual 40, 3), (52, .invokevirtual 44, 3), (55, .aload_n 2, 1), (56, .dup, 1), (57, .getfield 37, 3), (60, .iconst 1, 1), (61, .iadd, 1), (62, .putfield 37, 3), (65, .aload_n 0, 1), (66, .dup, 1), (67, .getfield 48, 3), (70, .iconst 1, 1), (71, .iadd, 1), (72, .putfield 48, 3), (75, .return_, 1), (76, .iinc 1 1, 3), (79, .goto (-77), 3), (82, .return_, 1)]
def iL57 : List (Nat × Instr × Nat) := [(0, .aload_n 0, 1), (1, .invokespecial 3, 3), (4, .aload_n 0, 1), (5, .aload_n 1, 1), (6, .putfield 9, 3), (9, .aload_n 0, 1), (10, .aload_n 2, 1), (11, .putfield 15, 3), (14, .return_, 1)]
def iL58 : List (Nat × Instr × Nat) := [(0, .aload_n 0, 1), (1, .aload_n 1, 1), (2, .putfield 19, 3), (5, .aload_n 0, 1), (6, .aconst_null, 1), (7, .putfield 23, 3), (10, .aload_n 1, 1), (11, .bipush 127, 2), (13, .invokevirtual 27, 3), (16, .istore_n 2, 1), (17, .aload_n 1, 1), (18, .getfield 33, 3), (21, .aload_n 1, 1), (22, .getfield 37, 3), (25, .if_icmp .lt 6, 3), (28, .bipush 7, 2), (30, .ireturn, 1), (31, .iload_n 2, 1), (32, .invokestatic 40, 3), (35, .ifCond .ne 5, 3), (38, .iconst 2, 1), (39, .ireturn, 1), (40, .aload_n 0, 1), (41, .getfield 9, 3), (44, .aload_n 1, 1), (45, .getfield 44, 3), (48, .iload_n 2, 1), (49, .sipush 512, 3), (52, .idiv, 1), (53, .invokevirtual 47, 3), (56, .astore_n 3, 1), (57, .aload_n 3, 1), (58, .ifnull 10, 3), (61, .aload_n 3, 1), (62, .getfield 53, 3), (65, .ifnonnull 13, 3), (68, .aload_n 0, 1), (69, .iload_n 2, 1), (70, .sipush 512, 3), (73, .idiv, 1), (74, .invokevirtual 59, 3), (77, .ireturn, 1), (78, .aload_n 0, 1), (79, .aload_n 3, 1), (80, .getfield 53, 3), (83, .iload_n 2, 1), (84, .sipush 512, 3), (87, .irem, 1), (88, .invokevirtual 62, 3), (91, .invokevirtual 68, 3), (94, .aload_n 1, 1), (95, .bipush 127, 2), (97, .iload_n 2, 1), (98, .iconst 1, 1), (99, .iadd, 1), (100, .i2l, 1), (101, .invokevirtual 72, 3), (104, .aload_n 0, 1), (105, .invokevirtual 76, 3), (108, .istore 4, 2), (110, .iload 4, 2), (112, .ifCond .eq 21, 3), (115, .iload 4, 2), (117, .bipush (-2), 2), (119, .if_icmp .eq 14, 3), (122, .aload_n 1, 1), (123, .bipush 127, 2), (125, .iload_n 2, 1), (126, .i2l, 1), (127, .invokevirtual 72, 3), (130, .iload 4, 2), (132, .ireturn, 1), (133, .aload_n 1, 1), (134, .dup, 1), (135, .getfield 33, 3), (138, .iconst 1, 1), (139, .iadd, 1), (140, .putfield 33, 3), (143, .aload_n 3, 1), (144, .invokevirtual 80, 3), (147, .aload_n 0, 1), (148, .getfield 23, 3), (151, .ifnull 10, 3), (154, .aload_n 0, 1), (155, .getfield 23, 3), (158, .invokevirtual 80, 3), (161, .iload 4, 2), (163, .ireturn, 1)]
def iL59 : List (Nat × Instr × Nat) := [(0, .aload_n 0, 1), (1, .lload_n 1, 1), (2, .bipush 38, 2), (4, .lushr, 1), (5, .l2i, 1), (6, .sipush 1023, 3), (9, .iand, 1), (10, .putfield 83, 3), (13, .aload_n 0, 1), (14, .lload_n 1, 1), (15, .bipush 31, 2), (17, .lushr, 1), (18, .l2i, 1), (19, .bipush 127, 2), (21, .iand, 1), (22, .putfield 86, 3), (25, .aload_n 0, 1), (26, .lload_n 1, 1), (27, .bipush 24, 2), (29, .lushr, 1), (30, .l2i, 1), (31, .bipush 127, 2), (33, .iand, 1), (34, .putfield 89, 3), (37, .aload_n 0, 1), (38, .lload_n 1, 1), (39, .invokestatic 92, 3), (42, .putfield 96, 3), (45, .return_, 1)]
def iL60 : List (Nat × Instr × Nat) := [(0, .aload_n 0, 1), (1, .getfield 15, 3), (4, .aload_n 0, 1), (5, .getfield 19, 3), (8, .getfield 44, 3), (11, .iload_n 1, 1), (12, .invokevirtual 99, 3), (15, .astore_n 2, 1), (16, .aload_n 2, 1), (17, .ifnonnull 59, 3), (20, .aload_n 0, 1), (21, .getfield 19, 3), (24, .getfield 105, 3), (27, .aload_n 0, 1), (28, .getfield 19, 3), (31, .getfield 108, 3), (34, .if_icmp .ge 21, 3), (37, .aload_n 0, 1), (38, .getfield 15, 3), (41, .aload_n 0, 1), (42, .getfield 19, 3), (45, .getfield 44, 3), (48, .iload_n 1, 1), (49, .invokevirtual 111, 3), (52, .goto 4, 3), (55, .aconst_null, 1), (56, .astore_n 2, 1), (57, .aload_n 2, 1), (58, .ifnonnull 5, 3), (61, .iconst 3, 1), (62, .ireturn, 1), (63, .aload_n 0, 1), (64, .getfield 19, 3), (67, .dup, 1), (68, .getfield 105, 3), (71, .iconst 1, 1), (72, .iadd, 1), (73, .putfield 105, 3), (76, .aload_n 0, 1), (77, .getfield 19, 3), (80, .aload_n 2, 1), (81, .invokevirtual 114, 3), (84, .iconst (-1), 1), (85, .ireturn, 1)]
def iL61 : List (Nat × Instr × Nat) := [(0, .aload_n 0, 1), (1, .invokevirtual 118, 3), (4, .ifCond .eq 8, 3), (7, .aload_n 0, 1), (8, .invokevirtual 122, 3), (11, .ireturn, 1), (12, .aload_n 0, 1), (13, .getfield 83, 3), (16, .sipush 128, 3), (19, .if_icmp .ge 8, 3), (22, .aload_n 0, 1), (23, .invokevirtual 125, 3), (26, .ireturn, 1), (27, .aload_n 0, 1), (28, .getfield 83, 3), (31, .sipush 192, 3), (34, .if_icmp .ge 8, 3), (37, .aload_n 0, 1), (38, .invokevirtual 128, 3), (41, .ireturn, 1), (42, .aload_n 0, 1), (43, .getfield 83, 3), (46, .sipush 512, 3), (49, .if_icmp .ge 10, 3), (52, .aload_n 0, 1), (53, .invokevirtual 131, 3), (56, .goto 7, 3), (59, .aload_n 0, 1), (60, .invokevirtual 134, 3), (63, .ireturn, 1)]
def iL62 : List (Nat × Instr × Nat) := [(0, .aload_n 0, 1), (1, .getfield 83, 3), (4, .lookupswitch 150 #[(65, 148), (66, 148), (68, 148), (70, 148), (71, 148), (75, 148), (76, 148), (106, 148), (208, 148), (209, 148), (210, 148), (212, 148), (213, 148), (230, 148), (238, 148), (242, 148), (252, 148)], 148), (152, .iconst 1, 1), (153, .ireturn, 1), (154, .iconst 0, 1), (155, .ireturn, 1)]
def iL63 : List (Nat × Instr × Nat) := [(0, .aload_n 0, 1), (1, .getfield 96, 3), (4, .i2l, 1), (5, .aload_n 0, 1), (6, .getfield 19, 3), (9, .aload_n 0, 1), (10, .getfield 89, 3), (13, .invokevirtual 27, 3), (16, .i2l, 1), (17, .ladd, 1), (18, .lstore_n 1, 1), (19, .aload_n 0, 1), (20, .getfield 83, 3), (23, .sipush 192, 3), (26, .if_icmp .lt 28, 3), (29, .aload_n 0, 1), (30, .getfield 83, 3), (33, .sipush 255, 3), (36, .if_icmp .gt 18, 3), (39, .lload_n 1, 1), (40, .aload_n 0, 1), (41, .getfield 19, 3), (44, .aload_n 0, 1), (45, .getfield 86, 3), (48, .invokevirtual 27, 3), (51, .i2l, 1), (52, .ladd, 1), (53, .lstore_n 1, 1), (54, .lload_n 1, 1), (55, .invokestatic 92, 3), (58, .ireturn, 1)]
def iL64 : List (Nat × Instr × Nat) := [(0, .aload_n 0, 1), (1, .invokevirtual 137, 3), (4, .istore_n 1, 1), (5, .iload_n 1, 1), (6, .invokestatic 40, 3), (9, .ifCond .ne 5, 3), (12, .iconst 2, 1), (13, .ireturn, 1), (14, .aload_n 0, 1), (15, .getfield 9, 3), (18, .aload_n 0, 1), (19, .getfield 19, 3), (22, .getfield 44, 3), (25, .iload_n 1, 1), (26, .sipush 512, 3), (29, .idiv, 1), (30, .invokevirtual 47, 3), (33, .astore_n 2, 1), (34, .aload_n 2, 1), (35, .ifnull 10, 3), (38, .aload_n 2, 1), (39, .getfield 53, 3), (42, .ifnonnull 13, 3), (45, .aload_n 0, 1), (46, .iload_n 1, 1), (47, .sipush 512, 3), (50, .idiv, 1), (51, .invokevirtual 59, 3), (54, .ireturn, 1), (55, .aload_n 0, 1), (56, .aload_n 2, 1), (57, .putfield 23, 3), (60, .iload_n 1, 1), (61, .sipush 512, 3), (64, .irem, 1), (65, .istore_n 3, 1), (66, .aload_n 0, 1), (67, .getfield 83, 3), (70, .sipush 192, 3), (73, .if_icmp .ge 15, 3), (76, .aload_n 0, 1), (77, .aload_n 2, 1), (78, .getfield 53, 3), (81, .iload_n 3, 1), (82, .invokevirtual 140, 3), (85, .goto 12, 3), (88, .aload_n 0, 1), (89, .aload_n 2, 1), (90, .getfield 53, 3), (93, .iload_n 3, 1), (94, .invokevirtual 144, 3), (97, .ireturn, 1)]
def iL65 : List (Nat × Instr × Nat) := [(0, .aload_n 1, 1), (1, .iload_n 2, 1), (2, .invokevirtual 62, 3), (5, .lstore_n 3, 1), (6, .aload_n 0, 1), (7, .getfield 19, 3), (10, .aload_n 0, 1), (11, .getfield 86, 3), (14, .invokevirtual 27, 3), (17, .i2l, 1), (18, .lstore 5, 2), (20, .aload_n 0, 1), (21, .getfield 83, 3), (24, .lookupswitch 205 #[(65, 76), (66, 91), (68, 109), (70, 127), (71, 145), (75, 163), (76, 173), (106, 188)], 76), (100, .aload_n 0, 1), (101, .getfield 19, 3), (104, .aload_n 0, 1), (105, .getfield 86, 3), (108, .lload_n 3, 1), (109, .invokevirtual 72, 3), (112, .goto 119, 3), (115, .aload_n 0, 1), (116, .getfield 19, 3), (119, .aload_n 0, 1), (120, .getfield 86, 3), (123, .lload 5, 2), (125, .lload_n 3, 1), (126, .lsub, 1), (127, .invokevirtual 72, 3), (130, .goto 101, 3), (133, .aload_n 0, 1), (134, .getfield 19, 3), (137, .aload_n 0, 1), (138, .getfield 86, 3), (141, .lload 5, 2), (143, .lload_n 3, 1), (144, .ladd, 1), (145, .invokevirtual 72, 3), (148, .goto 83, 3), (151, .aload_n 0, 1), (152, .getfield 19, 3), (155, .aload_n 0, 1), (156, .getfield 86, 3), (159, .lload 5, 2), (161, .lload_n 3, 1), (162, .lxor, 1), (163, .invokevirtual 72, 3), (166, .goto 65, 3), (169, .aload_n 0, 1), (170, .getfield 19, 3), (173, .aload_n 0, 1), (174, .getfield 86, 3), (177, .lload 5, 2), (179, .lload_n 3, 1), (180, .land, 1), (181, .invokevirtual 72, 3), (184, .goto 47, 3), (187, .aload_n 1, 1), (188, .iload_n 2, 1), (189, .lload 5, 2), (191, .invokevirtual 147, 3), (194, .goto 37, 3), (197, .aload_n 1, 1), (198, .iload_n 2, 1), (199, .lload_n 3, 1), (200, .lload 5, 2), (202, .ladd, 1), (203, .invokestatic 150, 3), (206, .invokevirtual 147, 3), (209, .goto 22, 3), (212, .aload_n 0, 1), (213, .getfield 19, 3), (216, .lload 5, 2), (218, .lload_n 3, 1), (219, .lsub, 1), (220, .invokestatic 154, 3), (223, .putfield 157, 3), (226, .goto 5, 3), (229, .iconst 1, 1), (230, .ireturn, 1), (231, .iconst 0, 1), (232, .ireturn, 1)]
def iL66 : List (Nat × Instr × Nat) := [(0, .aload_n 1, 1), (1, .iload_n 2, 1), (2, .invokevirtual 62, 3), (5, .lstore_n 3, 1), (6, .aload_n 0, 1), (7, .getfield 19, 3), (10, .getfield 160, 3), (13, .lstore 5, 2), (15, .aload_n 0, 1), (16, .getfield 83, 3), (19, .lookupswitch 228 #[(208, 81), (209, 98), (210, 115), (212, 132), (213, 143), (230, 158), (238, 176), (242, 186), (252, 203)], 81), (100, .aload_n 0, 1), (101, .getfield 19, 3), (104, .lload 5, 2), (106, .lload_n 3, 1), (107, .ladd, 1), (108, .invokestatic 150, 3), (111, .putfield 160, 3), (114, .goto 135, 3), (117, .aload_n 0, 1), (118, .getfield 19, 3), (121, .lload 5, 2), (123, .lload_n 3, 1), (124, .lsub, 1), (125, .invokestatic 150, 3), (128, .putfield 160, 3), (131, .goto 118, 3), (134, .aload_n 0, 1), (135, .getfield 19, 3), (138, .lload_n 3, 1), (139, .lload 5, 2), (141, .lsub, 1), (142, .invokestatic 150, 3), (145, .putfield 160, 3), (148, .goto 101, 3), (151, .aload_n 0, 1), (152, .getfield 19, 3), (155, .lload_n 3, 1), (156, .putfield 160, 3), (159, .goto 90, 3), (162, .aload_n 0, 1), (163, .getfield 19, 3), (166, .lload_n 3, 1), (167, .lneg, 1), (168, .invokestatic 150, 3), (171, .putfield 160, 3), (174, .goto 75, 3), (177, .aload_n 1, 1), (178, .iload_n 2, 1), (179, .lload 5, 2), (181, .invokevirtual 147, 3), (184, .aload_n 0, 1), (185, .getfield 19, 3), (188, .lconst 0, 1), (189, .putfield 160, 3), (192, .goto 57, 3), (195, .aload_n 1, 1), (196, .iload_n 2, 1), (197, .lload 5, 2), (199, .invokevirtual 147, 3), (202, .goto 47, 3), (205, .aload_n 0, 1), (206, .getfield 19, 3), (209, .lload 5, 2), (211, .lload_n 3, 1), (212, .lmul, 1), (213, .invokestatic 150, 3), (216, .putfield 160, 3), (219, .goto 30, 3), (222, .lload_n 3, 1), (223, .lconst 0, 1), (224, .lcmp, 1), (225, .ifCond .ne 5, 3), (228, .iconst 5, 1), (229, .ireturn, 1), (230, .aload_n 0, 1), (231, .getfield 19, 3), (234, .lload 5, 2), (236, .lload_n 3, 1), (237, .ldiv, 1), (238, .invokestatic 150, 3), (241, .putfield 160, 3), (244, .goto 5, 3), (247, .iconst 1, 1), (248, .ireturn, 1), (249, .iconst 0, 1), (250, .ireturn, 1)]
def iL67 : List (Nat × Instr × Nat) := [(0, .aload_n 0, 1), (1, .invokevirtual 137, 3), (4, .i2l, 1), (5, .lstore_n 1, 1), (6, .aload_n 0, 1), (7, .getfield 19, 3), (10, .aload_n 0, 1), (11, .getfield 86, 3), (14, .invokevirtual 27, 3), (17, .i2l, 1), (18, .lstore_n 3, 1), (19, .aload_n 0, 1), (20, .getfield 83, 3), (23, .lookupswitch 181 #[(80, 65), (81, 82), (82, 97), (84, 114), (86, 131), (87, 148), (122, 165)], 65), (88, .aload_n 0, 1), (89, .getfield 19, 3), (92, .aload_n 0, 1), (93, .getfield 86, 3), (96, .lload_n 1, 1), (97, .lload_n 3, 1), (98, .lsub, 1), (99, .invokevirtual 72, 3), (102, .goto 104, 3), (105, .aload_n 0, 1), (106, .getfield 19, 3), (109, .aload_n 0, 1), (110, .getfield 86, 3), (113, .lload_n 1, 1), (114, .invokevirtual 72, 3), (117, .goto 89, 3), (120, .aload_n 0, 1), (121, .getfield 19, 3), (124, .aload_n 0, 1), (125, .getfield 86, 3), (128, .lload_n 3, 1), (129, .lload_n 1, 1), (130, .lsub, 1), (131, .invokevirtual 72, 3), (134, .goto 72, 3), (137, .aload_n 0, 1), (138, .getfield 19, 3), (141, .aload_n 0, 1), (142, .getfield 86, 3), (145, .lload_n 3, 1), (146, .lload_n 1, 1), (147, .ladd, 1), (148, .invokevirtual 72, 3), (151, .goto 55, 3), (154, .aload_n 0, 1), (155, .getfield 19, 3), (158, .aload_n 0, 1), (159, .getfield 86, 3), (162, .lload_n 3, 1), (163, .lload_n 1, 1), (164, .lxor, 1), (165, .invokevirtual 72, 3), (168, .goto 38, 3), (171, .aload_n 0, 1), (172, .getfield 19, 3), (175, .aload_n 0, 1), (176, .getfield 86, 3), (179, .lload_n 3, 1), (180, .lload_n 1, 1), (181, .land, 1), (182, .invokevirtual 72, 3), (185, .goto 21, 3), (188, .aload_n 0, 1), (189, .getfield 19, 3), (192, .lload_n 3, 1), (193, .lload_n 1, 1), (194, .lsub, 1), (195, .invokestatic 154, 3), (198, .putfield 157, 3), (201, .goto 5, 3), (204, .iconst 1, 1), (205, .ireturn, 1), (206, .iconst 0, 1), (207, .ireturn, 1)]
def iL68 : List (Nat × Instr × Nat) := [(0, .aload_n 0, 1), (1, .getfield 83, 3), (4, .tableswitch 220 128 159 #[144, 220, 220, 152, 220, 220, 220, 220, 220, 220, 220, 220, 160, 160, 160, 160, 220, 220, 220, 220, 183, 183, 183, 183, 220, 220, 220, 220, 202, 202, 202, 202], 144), (148, .aload_n 0, 1), (149, .iconst 1, 1), (150, .invokevirtual 164, 3), (153, .goto 73, 3), (156, .aload_n 0, 1), (157, .iconst (-1), 1), (158, .invokevirtual 164, 3), (161, .goto 65, 3), (164, .aload_n 0, 1), (165, .aload_n 0, 1), (166, .getfield 19, 3), (169, .aload_n 0, 1), (170, .getfield 89, 3), (173, .invokevirtual 27, 3), (176, .i2l, 1), (177, .aload_n 0, 1), (178, .getfield 96, 3), (181, .invokevirtual 168, 3), (184, .goto 42, 3), (187, .aload_n 0, 1), (188, .aload_n 0, 1), (189, .getfield 19, 3), (192, .getfield 157, 3), (195, .i2l, 1), (196, .aload_n 0, 1), (197, .invokevirtual 137, 3), (200, .invokevirtual 168, 3), (203, .goto 23, 3), (206, .aload_n 0, 1), (207, .aload_n 0, 1), (208, .getfield 19, 3), (211, .getfield 160, 3), (214, .aload_n 0, 1), (215, .invokevirtual 137, 3), (218, .invokevirtual 168, 3), (221, .goto 5, 3), (224, .iconst 1, 1), (225, .ireturn, 1), (226, .iconst 0, 1), (227, .ireturn, 1)]
def iL69 : List (Nat × Instr × Nat) := [(0, .aload_n 0, 1), (1, .getfield 19, 3), (4, .aload_n 0, 1), (5, .getfield 89, 3), (8, .invokevirtual 27, 3), (11, .istore_n 2, 1), (12, .iload_n 2, 1), (13, .ifCond .eq 34, 3), (16, .aload_n 0, 1), (17, .getfield 19, 3), (20, .aload_n 0, 1), (21, .getfield 89, 3), (24, .iload_n 2, 1), (25, .iload_n 1, 1), (26, .iadd, 1), (27, .i2l, 1), (28, .invokevirtual 72, 3), (31, .aload_n 0, 1), (32, .getfield 19, 3), (35, .aload_n 0, 1), (36, .getfield 86, 3), (39, .aload_n 0, 1), (40, .getfield 96, 3), (43, .i2l, 1), (44, .invokevirtual 72, 3), (47, .return_, 1)]
def iL70 : List (Nat × Instr × Nat) := [(0, .aload_n 0, 1), (1, .getfield 83, 3), (4, .iconst 4, 1), (5, .irem, 1), (6, .lload_n 1, 1), (7, .invokestatic 172, 3), (10, .ifCond .eq 16, 3), (13, .aload_n 0, 1), (14, .getfield 19, 3), (17, .aload_n 0, 1), (18, .getfield 86, 3), (21, .iload_n 3, 1), (22, .i2l, 1), (23, .invokevirtual 72, 3), (26, .return_, 1)]
def iL71 : List (Nat × Instr × Nat) := [(0, .iload_n 0, 1), (1, .tableswitch 63 0 2 #[27, 39, 51], 27), (28, .lload_n 1, 1), (29, .lconst 0, 1), (30, .lcmp, 1), (31, .ifCond .ne 7, 3), (34, .iconst 1, 1), (35, .goto 4, 3), (38, .iconst 0, 1), (39, .ireturn, 1), (40, .lload_n 1, 1), (41, .lconst 0, 1), (42, .lcmp, 1), (43, .ifCond .eq 7, 3), (46, .iconst 1, 1), (47, .goto 4, 3), (50, .iconst 0, 1), (51, .ireturn, 1), (52, .lload_n 1, 1), (53, .lconst 0, 1), (54, .lcmp, 1), (55, .ifCond .lt 7, 3), (58, .iconst 1, 1), (59, .goto 4, 3), (62, .iconst 0, 1), (63, .ireturn, 1), (64, .lload_n 1, 1), (65, .lconst 0, 1), (66, .lcmp, 1), (67, .ifCond .ge 7, 3), (70, .iconst 1, 1), (71, .goto 4, 3), (74, .iconst 0, 1), (75, .ireturn, 1)]
def iL72 : List (Nat × Instr × Nat) := [(0, .aload_n 0, 1), (1, .getfield 83, 3), (4, .lookupswitch 71 #[(244, 28), (245, 52)], 28), (32, .aload_n 0, 1), (33, .getfield 19, 3), (36, .aload_n 0, 1), (37, .getfield 19, 3), (40, .getfield 160, 3), (43, .ldc2_w 176, 3), (46, .lmul, 1), (47, .invokestatic 150, 3), (50, .putfield 160, 3), (53, .goto 24, 3), (56, .aload_n 0, 1), (57, .getfield 19, 3), (60, .aload_n 0, 1), (61, .getfield 19, 3), (64, .getfield 160, 3), (67, .iconst 3, 1), (68, .lshr, 1), (69, .putfield 160, 3), (72, .goto 5, 3), (75, .iconst 1, 1), (76, .ireturn, 1), (77, .iconst 0, 1), (78, .ireturn, 1)]
def iL73 : List (Nat × Instr × Nat) := [(0, .aload_n 0, 1), (1, .getfield 83, 3), (4, .lookupswitch 208 #[(552, 60), (566, 95), (580, 118), (591, 147), (593, 150), (704, 174)], 60), (64, .aload_n 0, 1), (65, .getfield 19, 3), (68, .getfield 178, 3), (71, .invokevirtual 182, 3), (74, .ifCond .ne 5, 3), (77, .iconst 4, 1), (78, .ireturn, 1), (79, .aload_n 0, 1), (80, .getfield 19, 3), (83, .aload_n 0, 1), (84, .getfield 19, 3), (87, .getfield 178, 3), (90, .invokevirtual 187, 3), (93, .putfield 160, 3), (96, .goto 118, 3), (99, .aload_n 0, 1), (100, .getfield 19, 3), (103, .getfield 191, 3), (106, .aload_n 0, 1), (107, .getfield 19, 3), (110, .getfield 160, 3), (113, .invokevirtual 194, 3), (116, .ifCond .ne 98, 3), (119, .bipush 6, 2), (121, .ireturn, 1), (122, .aload_n 0, 1), (123, .getfield 19, 3), (126, .aload_n 0, 1), (127, .getfield 86, 3), (130, .aload_n 0, 1), (131, .getfield 19, 3), (134, .getfield 160, 3), (137, .ldc2_w 198, 3), (140, .land, 1), (141, .invokestatic 200, 3), (144, .i2l, 1), (145, .invokevirtual 72, 3), (148, .goto 66, 3), (151, .bipush (-2), 2), (153, .ireturn, 1), (154, .aload_n 0, 1), (155, .getfield 19, 3), (158, .aload_n 0, 1), (159, .getfield 86, 3), (162, .aload_n 0, 1), (163, .getfield 19, 3), (166, .getfield 33, 3), (169, .iconst 1, 1), (170, .iadd, 1), (171, .i2l, 1), (172, .invokevirtual 72, 3), (175, .goto 39, 3), (178, .aload_n 0, 1), (179, .getfield 19, 3), (182, .getfield 160, 3), (185, .lconst 0, 1), (186, .lcmp, 1), (187, .ifCond .ge 5, 3), (190, .iconst 5, 1), (191, .ireturn, 1), (192, .aload_n 0, 1), (193, .getfield 19, 3), (196, .aload_n 0, 1), (197, .getfield 19, 3), (200, .getfield 160, 3), (203, .invokestatic 205, 3), (206, .putfield 160, 3), (209, .goto 5, 3), (212, .iconst 1, 1), (213, .ireturn, 1), (214, .iconst 0, 1), (215, .ireturn, 1)]
def iL74 : List (Nat × Instr × Nat) := [(0, .lload_n 0, 1), (1, .lconst 0, 1), (2, .lcmp, 1), (3, .ifCond .ne 5, 3), (6, .iconst 0, 1), (7, .ireturn, 1), (8, .lload_n 0, 1), (9, .lconst 0, 1), (10, .lcmp, 1), (11, .ifCond .le 7, 3), (14, .iconst 1, 1), (15, .goto 4, 3), (18, .iconst (-1), 1), (19, .ireturn, 1)]
def iL75 : List (Nat × Instr × Nat) := [(0, .lconst 0, 1), (1, .lstore_n 2, 1), (2, .ldc2_w 208, 3), (5, .lstore 4, 2), (7, .iconst 0, 1), (8, .istore 6, 2), (10, .iload 6, 2), (12, .bipush 48, 2), (14, .if_icmp .ge 50, 3), (17, .lload_n 2, 1), (18, .lload 4, 2), (20, .lcmp, 1), (21, .ifCond .ge 43, 3), (24, .lload_n 2, 1), (25, .lload 4, 2), (27, .ladd, 1), (28, .lconst 1, 1), (29, .ladd, 1), (30, .ldc2_w 210, 3), (33, .ldiv, 1), (34, .lstore 7, 2), (36, .lload 7, 2), (38, .lload 7, 2), (40, .lmul, 1), (41, .lload_n 0, 1), (42, .lcmp, 1), (43, .ifCond .gt 9, 3), (46, .lload 7, 2), (48, .lstore_n 2, 1), (49, .goto 9, 3), (52, .lload 7, 2), (54, .lconst 1, 1), (55, .lsub, 1), (56, .lstore 4, 2), (58, .iinc 6 1, 3), (61, .goto (-51), 3), (64, .lload_n 2, 1), (65, .lreturn, 1)]
def iL76 : List (Nat × Instr × Nat) := [(0, .aload_n 0, 1), (1, .invokespecial 1, 3), (4, .aload_n 0, 1), (5, .iconst 1, 1), (6, .iload_n 1, 1), (7, .invokestatic 7, 3), (10, .newarray .long, 2), (12, .putfield 13, 3), (15, .return_, 1)]
def iL77 : List (Nat × Instr × Nat) := [(0, .aload_n 0, 1), (1, .getfield 19, 3), (4, .ireturn, 1)]
def iL78 : List (Nat × Instr × Nat) := [(0, .aload_n 0, 1), (1, .getfield 13, 3), (4, .arraylength, 1), (5, .aload_n 0, 1), (6, .getfield 19, 3), (9, .isub, 1), (10, .ireturn, 1)]
def iL79 : List (Nat × Instr × Nat) := [(0, .aload_n 0, 1), (1, .aload_n 0, 1), (2, .getfield 19, 3), (5, .invokevirtual 23, 3), (8, .istore_n 3, 1), (9, .aload_n 0, 1), (10, .getfield 19, 3), (13, .aload_n 0, 1), (14, .getfield 13, 3), (17, .arraylength, 1), (18, .if_icmp .ge 16, 3), (21, .iload_n 3, 1), (22, .ifCond .lt 12, 3), (25, .iload_n 3, 1), (26, .aload_n 0, 1), (27, .getfield 13, 3), (30, .arraylength, 1), (31, .if_icmp .lt 5, 3), (34, .iconst 0, 1), (35, .ireturn, 1), (36, .aload_n 0, 1), (37, .getfield 13, 3), (40, .iload_n 3, 1), (41, .lload_n 1, 1), (42, .lastore, 1), (43, .aload_n 0, 1), (44, .dup, 1), (45, .getfield 19, 3), (48, .iconst 1, 1), (49, .iadd, 1), (50, .putfield 19, 3), (53, .iconst 1, 1), (54, .ireturn, 1)]
def iL80 : List (Nat × Instr × Nat) := [(0, .aload_n 0, 1), (1, .getfield 19, 3), (4, .aload_n 0, 1), (5, .getfield 13, 3), (8, .arraylength, 1), (9, .if_icmp .lt 8, 3), (12, .aload_n 0, 1), (13, .invokevirtual 27, 3), (16, .pop2, 1), (17, .aload_n 0, 1), (18, .lload_n 1, 1), (19, .invokevirtual 31, 3), (22, .pop, 1), (23, .return_, 1)]
def iL81 : List (Nat × Instr × Nat) := [(0, .aload_n 0, 1), (1, .getfield 19, 3), (4, .ifCond .le 22, 3), (7, .aload_n 0, 1), (8, .getfield 35, 3), (11, .ifCond .lt 15, 3), (14, .aload_n 0, 1), (15, .getfield 35, 3), (18, .aload_n 0, 1), (19, .getfield 13, 3), (22, .arraylength, 1), (23, .if_icmp .lt 5, 3), (26, .lconst 0, 1), (27, .lreturn, 1), (28, .aload_n 0, 1), (29, .getfield 13, 3), (32, .aload_n 0, 1), (33, .getfield 35, 3), (36, .laload, 1), (37, .lstore_n 1, 1), (38, .aload_n 0, 1), (39, .aload_n 0, 1), (40, .iconst 1, 1), (41, .invokevirtual 23, 3), (44, .putfield 35, 3), (47, .aload_n 0, 1), (48, .dup, 1), (49, .getfield 19, 3), (52, .iconst 1, 1), (53, .isub, 1), (54, .putfield 19, 3), (57, .lload_n 1, 1), (58, .lreturn, 1)]
def iL82 : List (Nat × Instr × Nat) := [(0, .iload_n 1, 1), (1, .ifCond .lt 11, 3), (4, .iload_n 1, 1), (5, .aload_n 0, 1), (6, .getfield 19, 3), (9, .if_icmp .lt 5, 3), (12, .lconst 0, 1), (13, .lreturn, 1), (14, .aload_n 0, 1), (15, .iload_n 1, 1), (16, .invokevirtual 23, 3), (19, .istore_n 2, 1), (20, .iload_n 2, 1), (21, .ifCond .lt 12, 3), (24, .iload_n 2, 1), (25, .aload_n 0, 1), (26, .getfield 13, 3), (29, .arraylength, 1), (30, .if_icmp .lt 7, 3), (33, .lconst 0, 1), (34, .goto 9, 3), (37, .aload_n 0, 1), (38, .getfield 13, 3), (41, .iload_n 2, 1), (42, .laload, 1), (43, .lreturn, 1)]
def iL83 : List (Nat × Instr × Nat) := [(0, .iload_n 1, 1), (1, .ifCond .lt 11, 3), (4, .iload_n 1, 1), (5, .aload_n 0, 1), (6, .getfield 19, 3), (9, .if_icmp .lt 7, 3), (12, .lconst 0, 1), (13, .goto 15, 3), (16, .aload_n 0, 1), (17, .aload_n 0, 1), (18, .getfield 19, 3), (21, .iconst 1, 1), (22, .isub, 1), (23, .iload_n 1, 1), (24, .isub, 1), (25, .invokevirtual 38, 3), (28, .lreturn, 1)]
def iL84 : List (Nat × Instr × Nat) := [(0, .aload_n 0, 1), (1, .iconst 0, 1), (2, .putfield 35, 3), (5, .aload_n 0, 1), (6, .iconst 0, 1), (7, .putfield 19, 3), (10, .return_, 1)]
def iL85 : List (Nat × Instr × Nat) := [(0, .aload_n 0, 1), (1, .getfield 35, 3), (4, .iload_n 1, 1), (5, .iadd, 1), (6, .istore_n 2, 1), (7, .iload_n 2, 1), (8, .aload_n 0, 1), (9, .getfield 13, 3), (12, .arraylength, 1), (13, .if_icmp .lt 13, 3), (16, .iload_n 2, 1), (17, .aload_n 0, 1), (18, .getfield 13, 3), (21, .arraylength, 1), (22, .isub, 1), (23, .goto 4, 3), (26, .iload_n 2, 1), (27, .ireturn, 1)]
def iL86 : List (Nat × Instr × Nat) := [(0, .aload_n 0, 1), (1, .invokespecial 1, 3), (4, .aload_n 0, 1), (5, .new 7, 3), (8, .dup, 1), (9, .sipush 1000, 3), (12, .invokespecial 11, 3), (15, .putfield 14, 3), (18, .aload_n 0, 1), (19, .new 7, 3), (22, .dup, 1), (23, .bipush 64, 2), (25, .invokespecial 11, 3), (28, .putfield 18, 3), (31, .aload_n 0, 1), (32, .iconst 4, 1), (33, .anewarray 21, 3), (36, .putfield 23, 3), (39, .aload_n 0, 1), (40, .new 27, 3), (43, .dup, 1), (44, .invokespecial 29, 3), (47, .putfield 30, 3), (50, .aload_n 0, 1), (51, .new 34, 3), (54, .dup, 1), (55, .invokespecial 36, 3), (58, .putfield 37, 3), (61, .aload_n 0, 1), (62, .new 41, 3), (65, .dup, 1), (66, .invokespecial 43, 3), (69, .putfield 44, 3), (72, .aload_n 0, 1), (73, .new 48, 3), (76, .dup, 1), (77, .iconst 3, 1), (78, .bipush 16, 2), (80, .iload_n 1, 1), (81, .invokestatic 50, 3), (84, .invokestatic 56, 3), (87, .invokespecial 59, 3), (90, .putfield 60, 3), (93, .aload_n 0, 1), (94, .new 64, 3), (97, .dup, 1), (98, .aload_n 0, 1), (99, .getfield 60, 3), (102, .aload_n 0, 1), (103, .getfield 30, 3), (106, .invokespecial 66, 3), (109, .putfield 69, 3), (112, .iconst 0, 1), (113, .istore_n 2, 1), (114, .iload_n 2, 1), (115, .aload_n 0, 1), (116, .getfield 23, 3), (119, .arraylength, 1), (120, .if_icmp .ge 23, 3), (123, .aload_n 0, 1), (124, .getfield 23, 3), (127, .iload_n 2, 1), (128, .new 21, 3), (131, .dup, 1), (132, .iload_n 2, 1), (133, .invokespecial 73, 3), (136, .aastore, 1), (137, .iinc 2 1, 3), (140, .goto (-26), 3), (143, .return_, 1)]
def iL87 : List (Nat × Instr × Nat) := [(0, .aload_n 0, 1), (1, .getfield 14, 3), (4, .lload_n 1, 1), (5, .invokestatic 74, 3), (8, .invokevirtual 78, 3), (11, .ifCond .eq 13, 3), (14, .aload_n 0, 1), (15, .getfield 14, 3), (18, .invokevirtual 82, 3), (21, .goto 4, 3), (24, .iconst (-1), 1), (25, .ireturn, 1)]
def iL88 : List (Nat × Instr × Nat) := [(0, .aload_n 0, 1), (1, .iload_n 1, 1), (2, .invokevirtual 86, 3), (5, .astore_n 3, 1), (6, .aload_n 3, 1), (7, .ifnull 31, 3), (10, .aload_n 3, 1), (11, .getfield 90, 3), (14, .ifCond .ne 24, 3), (17, .iload_n 2, 1), (18, .invokestatic 94, 3), (21, .ifCond .eq 17, 3), (24, .aload_n 0, 1), (25, .getfield 14, 3), (28, .invokevirtual 82, 3), (31, .ldc 98, 2), (33, .iload_n 2, 1), (34, .isub, 1), (35, .if_icmp .le 5, 3), (38, .iconst (-1), 1), (39, .ireturn, 1), (40, .aload_n 0, 1), (41, .aload_n 3, 1), (42, .iload_n 2, 1), (43, .invokevirtual 99, 3), (46, .istore 4, 2), (48, .aload_n 0, 1), (49, .aload_n 3, 1), (50, .invokevirtual 103, 3), (53, .aload_n 3, 1), (54, .getfield 107, 3), (57, .iadd, 1), (58, .iload 4, 2), (60, .iadd, 1), (61, .bipush 64, 2), (63, .if_icmp .gt 15, 3), (66, .aload_n 0, 1), (67, .getfield 37, 3), (70, .invokevirtual 110, 3), (73, .iload 4, 2), (75, .if_icmp .ge 5, 3), (78, .iconst (-1), 1), (79, .ireturn, 1), (80, .aload_n 0, 1), (81, .getfield 14, 3), (84, .invokevirtual 82, 3), (87, .istore 5, 2), (89, .aconst_null, 1), (90, .astore 6, 2), (92, .iconst 0, 1), (93, .istore 7, 2), (95, .iload 7, 2), (97, .iload 5, 2), (99, .if_icmp .ge 72, 3), (102, .iload_n 2, 1), (103, .iload 7, 2), (105, .iadd, 1), (106, .istore 8, 2), (108, .aload 6, 2), (110, .ifnull 17, 3), (113, .aload 6, 2), (115, .getfield 113, 3), (118, .iload 8, 2), (120, .sipush 512, 3), (123, .idiv, 1), (124, .if_icmp .eq 16, 3), (127, .aload_n 0, 1), (128, .aload_n 3, 1), (129, .iload 8, 2), (131, .sipush 512, 3), (134, .idiv, 1), (135, .invokevirtual 118, 3), (138, .astore 6, 2), (140, .aload 6, 2), (142, .ifnull 23, 3), (145, .aload 6, 2), (147, .iload 8, 2), (149, .sipush 512, 3), (152, .irem, 1), (153, .aload_n 0, 1), (154, .getfield 14, 3), (157, .iload 7, 2), (159, .invokevirtual 122, 3), (162, .invokevirtual 126, 3), (165, .iinc 7 1, 3), (168, .goto (-73), 3), (171, .aload_n 0, 1), (172, .getfield 14, 3), (175, .invokevirtual 130, 3), (178, .aload_n 3, 1), (179, .getfield 107, 3), (182, .ireturn, 1)]
def iL89 : List (Nat × Instr × Nat) := [(0, .aload_n 0, 1), (1, .iload_n 1, 1), (2, .invokevirtual 86, 3), (5, .astore_n 2, 1), (6, .aload_n 2, 1), (7, .ifnull 27, 3), (10, .aload_n 2, 1), (11, .invokevirtual 133, 3), (14, .ifCond .ne 20, 3), (17, .aload_n 0, 1), (18, .getfield 14, 3), (21, .invokevirtual 82, 3), (24, .aload_n 2, 1), (25, .getfield 137, 3), (28, .invokevirtual 140, 3), (31, .if_icmp .le 5, 3), (34, .iconst (-1), 1), (35, .ireturn, 1), (36, .aload_n 0, 1), (37, .getfield 14, 3), (40, .invokevirtual 82, 3), (43, .istore_n 3, 1), (44, .iconst 0, 1), (45, .istore 4, 2), (47, .iload 4, 2), (49, .iload_n 3, 1), (50, .if_icmp .ge 26, 3), (53, .aload_n 2, 1), (54, .getfield 137, 3), (57, .aload_n 0, 1), (58, .getfield 14, 3), (61, .iload 4, 2), (63, .invokevirtual 122, 3), (66, .invokevirtual 78, 3), (69, .pop, 1), (70, .iinc 4 1, 3), (73, .goto (-26), 3), (76, .aload_n 0, 1), (77, .getfield 14, 3), (80, .invokevirtual 130, 3), (83, .aload_n 2, 1), (84, .getfield 137, 3), (87, .invokevirtual 82, 3), (90, .ireturn, 1)]
def iL90 : List (Nat × Instr × Nat) := [(0, .aload_n 0, 1), (1, .iload_n 1, 1), (2, .invokevirtual 86, 3), (5, .astore 5, 2), (7, .aload 5, 2), (9, .ifnull 59, 3), (12, .aload 5, 2), (14, .getfield 90, 3), (17, .ifCond .ne 51, 3), (20, .iload_n 3, 1), (21, .iconst 1, 1), (22, .if_icmp .lt 46, 3), (25, .iload_n 3, 1), (26, .ldc 143, 2), (28, .if_icmp .gt 40, 3), (31, .iload 4, 2), (33, .iconst 1, 1), (34, .if_icmp .lt 34, 3), (37, .iload 4, 2), (39, .bipush 64, 2), (41, .if_icmp .gt 27, 3), (44, .iload 4, 2), (46, .aload 5, 2), (48, .getfield 107, 3), (51, .if_icmp .lt 17, 3), (54, .aload_n 0, 1), (55, .aload 5, 2), (57, .invokevirtual 103, 3), (60, .iload 4, 2), (62, .iadd, 1), (63, .bipush 64, 2), (65, .if_icmp .le 5, 3), (68, .iconst 0, 1), (69, .ireturn, 1), (70, .aload 5, 2), (72, .iload_n 2, 1), (73, .iload_n 3, 1), (74, .iload 4, 2), (76, .invokevirtual 144, 3), (79, .iconst 1, 1), (80, .ireturn, 1)]
def iL91 : List (Nat × Instr × Nat) := [(0, .iload_n 1, 1), (1, .ifCond .lt 10, 3), (4, .iload_n 1, 1), (5, .sipush 2000, 3), (8, .if_icmp .le 5, 3), (11, .iconst (-1), 1), (12, .ireturn, 1), (13, .iconst 0, 1), (14, .istore_n 2, 1), (15, .iload_n 2, 1), (16, .iload_n 1, 1), (17, .if_icmp .ge 13, 3), (20, .aload_n 0, 1), (21, .invokevirtual 148, 3), (24, .iinc 2 1, 3), (27, .goto (-12), 3), (30, .aload_n 0, 1), (31, .getfield 151, 3), (34, .ireturn, 1)]
def iL92 : List (Nat × Instr × Nat) := [(0, .aload_n 0, 1), (1, .iload_n 1, 1), (2, .invokevirtual 86, 3), (5, .astore_n 3, 1), (6, .aload_n 3, 1), (7, .ifnonnull 7, 3), (10, .iconst (-1), 1), (11, .goto 8, 3), (14, .aload_n 3, 1), (15, .iload_n 2, 1), (16, .invokevirtual 154, 3), (19, .ireturn, 1)]
def iL93 : List (Nat × Instr × Nat) := [(0, .aload_n 0, 1), (1, .iload_n 1, 1), (2, .invokevirtual 86, 3), (5, .astore_n 3, 1), (6, .aload_n 3, 1), (7, .ifnonnull 7, 3), (10, .iconst 0, 1), (11, .goto 8, 3), (14, .aload_n 3, 1), (15, .iload_n 2, 1), (16, .invokevirtual 158, 3), (19, .ireturn, 1)]
def iL94 : List (Nat × Instr × Nat) := [(0, .aload_n 0, 1), (1, .iload_n 1, 1), (2, .invokevirtual 86, 3), (5, .astore_n 2, 1), (6, .aload_n 2, 1), (7, .ifnonnull 7, 3), (10, .lconst 0, 1), (11, .goto 7, 3), (14, .aload_n 2, 1), (15, .getfield 161, 3), (18, .lreturn, 1)]
def iL95 : List (Nat × Instr × Nat) := [(0, .aload_n 0, 1), (1, .iload_n 1, 1), (2, .invokevirtual 86, 3), (5, .ifnull 10, 3), (8, .iload_n 2, 1), (9, .invokestatic 94, 3), (12, .ifCond .ne 5, 3), (15, .lconst 0, 1), (16, .lreturn, 1), (17, .aload_n 0, 1), (18, .getfield 30, 3), (21, .iload_n 1, 1), (22, .iload_n 2, 1), (23, .sipush 512, 3), (26, .idiv, 1), (27, .invokevirtual 165, 3), (30, .astore_n 3, 1), (31, .aload_n 3, 1), (32, .ifnonnull 7, 3), (35, .lconst 0, 1), (36, .goto 12, 3), (39, .aload_n 3, 1), (40, .iload_n 2, 1), (41, .sipush 512, 3), (44, .irem, 1), (45, .invokevirtual 169, 3), (48, .lreturn, 1)]
def iL96 : List (Nat × Instr × Nat) := [(0, .aload_n 0, 1), (1, .iload_n 1, 1), (2, .invokevirtual 86, 3), (5, .astore_n 3, 1), (6, .aload_n 3, 1), (7, .ifnonnull 7, 3), (10, .lconst 0, 1), (11, .goto 11, 3), (14, .aload_n 3, 1), (15, .getfield 172, 3), (18, .iload_n 2, 1), (19, .invokevirtual 122, 3), (22, .lreturn, 1)]
def iL97 : List (Nat × Instr × Nat) := [(0, .aload_n 0, 1), (1, .getfield 60, 3), (4, .iload_n 1, 1), (5, .invokevirtual 175, 3), (8, .astore_n 3, 1), (9, .aload_n 3, 1), (10, .ifnonnull 7, 3), (13, .iconst (-1), 1), (14, .goto 8, 3), (17, .aload_n 3, 1), (18, .iload_n 2, 1), (19, .invokevirtual 179, 3), (22, .ireturn, 1)]
def iL98 : List (Nat × Instr × Nat) := [(0, .aload_n 0, 1), (1, .getfield 37, 3), (4, .iload_n 1, 1), (5, .invokevirtual 182, 3), (8, .astore_n 3, 1), (9, .aload_n 3, 1), (10, .ifnull 10, 3), (13, .aload_n 3, 1), (14, .getfield 186, 3), (17, .ifCond .ne 5, 3), (20, .iconst (-1), 1), (21, .ireturn, 1), (22, .iload_n 2, 1), (23, .lookupswitch 35 #[(0, 25), (1, 30)], 25), (48, .aload_n 3, 1), (49, .getfield 192, 3), (52, .ireturn, 1), (53, .aload_n 3, 1), (54, .getfield 195, 3), (57, .ireturn, 1), (58, .iconst (-1), 1), (59, .ireturn, 1)]
def iL99 : List (Nat × Instr × Nat) := [(0, .aload_n 0, 1), (1, .getfield 37, 3), (4, .iload_n 1, 1), (5, .aload_n 0, 1), (6, .getfield 151, 3), (9, .invokevirtual 196, 3), (12, .ireturn, 1)]
def iL100 : List (Nat × Instr × Nat) := [(0, .aload_n 0, 1), (1, .getfield 37, 3), (4, .iload_n 1, 1), (5, .invokevirtual 198, 3), (8, .astore_n 2, 1), (9, .aload_n 2, 1), (10, .ifnonnull 7, 3), (13, .iconst (-1), 1), (14, .goto 7, 3), (17, .aload_n 2, 1), (18, .getfield 201, 3), (21, .ireturn, 1)]
def iL101 : List (Nat × Instr × Nat) := [(0, .iload_n 1, 1), (1, .ifCond .lt 14, 3), (4, .iload_n 1, 1), (5, .aload_n 0, 1), (6, .getfield 18, 3), (9, .invokevirtual 82, 3), (12, .if_icmp .lt 7, 3), (15, .iconst (-1), 1), (16, .goto 12, 3), (19, .aload_n 0, 1), (20, .getfield 18, 3), (23, .iload_n 1, 1), (24, .invokevirtual 204, 3), (27, .l2i, 1), (28, .ireturn, 1)]
def iL102 : List (Nat × Instr × Nat) := [(0, .aload_n 0, 1), (1, .getfield 44, 3), (4, .getfield 207, 3), (7, .iload_n 1, 1), (8, .invokevirtual 204, 3), (11, .lreturn, 1)]
def iL103 : List (Nat × Instr × Nat) := [(0, .iload_n 1, 1), (1, .tableswitch 72 0 5 #[39, 44, 49, 54, 59, 67], 39), (40, .aload_n 0, 1), (41, .getfield 151, 3), (44, .ireturn, 1), (45, .aload_n 0, 1), (46, .getfield 210, 3), (49, .ireturn, 1), (50, .aload_n 0, 1), (51, .getfield 213, 3), (54, .ireturn, 1), (55, .aload_n 0, 1), (56, .getfield 216, 3), (59, .ireturn, 1), (60, .aload_n 0, 1), (61, .getfield 44, 3), (64, .getfield 219, 3), (67, .ireturn, 1), (68, .aload_n 0, 1), (69, .getfield 222, 3), (72, .ireturn, 1), (73, .iconst (-1), 1), (74, .ireturn, 1)]
def iL104 : List (Nat × Instr × Nat) := [(0, .aload_n 0, 1), (1, .iload_n 1, 1), (2, .invokevirtual 86, 3), (5, .astore_n 2, 1), (6, .aload_n 2, 1), (7, .ifnull 17, 3), (10, .aload_n 2, 1), (11, .invokevirtual 133, 3), (14, .ifCond .eq 10, 3), (17, .aload_n 2, 1), (18, .invokevirtual 225, 3), (21, .ifCond .ne 5, 3), (24, .iconst 0, 1), (25, .ireturn, 1), (26, .aload_n 0, 1), (27, .getfield 44, 3), (30, .aload_n 2, 1), (31, .invokevirtual 228, 3), (34, .aload_n 2, 1), (35, .invokevirtual 232, 3), (38, .iconst 1, 1), (39, .ireturn, 1)]
def iL105 : List (Nat × Instr × Nat) := [(0, .iload_n 1, 1), (1, .ifCond .lt 12, 3), (4, .iload_n 1, 1), (5, .aload_n 0, 1), (6, .getfield 23, 3), (9, .arraylength, 1), (10, .if_icmp .lt 7, 3), (13, .aconst_null, 1), (14, .goto 9, 3), (17, .aload_n 0, 1), (18, .getfield 23, 3), (21, .iload_n 1, 1), (22, .aaload, 1), (23, .areturn, 1)]
def iL106 : List (Nat × Instr × Nat) := [(0, .iconst 0, 1), (1, .istore_n 2, 1), (2, .iconst 0, 1), (3, .istore_n 3, 1), (4, .iload_n 3, 1), (5, .aload_n 0, 1), (6, .getfield 23, 3), (9, .arraylength, 1), (10, .if_icmp .ge 31, 3), (13, .aload_n 0, 1), (14, .getfield 23, 3), (17, .iload_n 3, 1), (18, .aaload, 1), (19, .aload_n 1, 1), (20, .if_acmp .eq 15, 3), (23, .iload_n 2, 1), (24, .aload_n 0, 1), (25, .getfield 23, 3), (28, .iload_n 3, 1), (29, .aaload, 1), (30, .invokevirtual 235, 3), (33, .iadd, 1), (34, .istore_n 2, 1), (35, .iinc 3 1, 3), (38, .goto (-34), 3), (41, .iload_n 2, 1), (42, .ireturn, 1)]
def iL107 : List (Nat × Instr × Nat) := [(0, .aload_n 0, 1), (1, .getfield 14, 3), (4, .invokevirtual 82, 3), (7, .ifCond .ne 5, 3), (10, .iconst 0, 1), (11, .ireturn, 1), (12, .iconst 0, 1), (13, .istore_n 3, 1), (14, .iload_n 2, 1), (15, .aload_n 0, 1), (16, .getfield 14, 3), (19, .invokevirtual 82, 3), (22, .iadd, 1), (23, .iconst 1, 1), (24, .isub, 1), (25, .sipush 512, 3), (28, .idiv, 1), (29, .istore 4, 2), (31, .iload_n 2, 1), (32, .sipush 512, 3), (35, .idiv, 1), (36, .istore 5, 2), (38, .iload 5, 2), (40, .iload 4, 2), (42, .if_icmp .gt 28, 3), (45, .aload_n 0, 1), (46, .getfield 30, 3), (49, .aload_n 1, 1), (50, .getfield 238, 3), (53, .iload 5, 2), (55, .invokevirtual 165, 3), (58, .ifnonnull 6, 3), (61, .iinc 3 1, 3), (64, .iinc 5 1, 3), (67, .goto (-29), 3), (70, .iload_n 3, 1), (71, .ireturn, 1)]
def iL108 : List (Nat × Instr × Nat) := [(0, .aload_n 0, 1), (1, .getfield 30, 3), (4, .aload_n 1, 1), (5, .getfield 238, 3), (8, .iload_n 2, 1), (9, .invokevirtual 165, 3), (12, .astore_n 3, 1), (13, .aload_n 3, 1), (14, .ifnull 5, 3), (17, .aload_n 3, 1), (18, .areturn, 1), (19, .aload_n 0, 1), (20, .getfield 37, 3), (23, .invokevirtual 239, 3), (26, .astore 4, 2), (28, .aload 4, 2), (30, .ifnonnull 7, 3), (33, .aconst_null, 1), (34, .goto 15, 3), (37, .aload_n 0, 1), (38, .getfield 30, 3), (41, .aload_n 1, 1), (42, .getfield 238, 3), (45, .iload_n 2, 1), (46, .invokevirtual 243, 3), (49, .astore_n 3, 1), (50, .aload_n 3, 1), (51, .ifnull 19, 3), (54, .aload_n 1, 1), (55, .dup, 1), (56, .getfield 107, 3), (59, .iconst 1, 1), (60, .iadd, 1), (61, .putfield 107, 3), (64, .aload 4, 2), (66, .aload_n 3, 1), (67, .invokevirtual 246, 3), (70, .aload_n 3, 1), (71, .areturn, 1)]
def iL109 : List (Nat × Instr × Nat) := [(0, .aload_n 0, 1), (1, .getfield 151, 3), (4, .bipush 32, 2), (6, .irem, 1), (7, .ifCond .ne 21, 3), (10, .aload_n 0, 1), (11, .getfield 37, 3), (14, .invokevirtual 250, 3), (17, .aload_n 0, 1), (18, .getfield 37, 3), (21, .aload_n 0, 1), (22, .getfield 151, 3), (25, .invokevirtual 253, 3), (28, .aload_n 0, 1), (29, .invokevirtual 256, 3), (32, .aload_n 0, 1), (33, .invokevirtual 259, 3), (36, .aload_n 0, 1), (37, .invokevirtual 262, 3), (40, .aload_n 0, 1), (41, .invokevirtual 265, 3), (44, .astore_n 1, 1), (45, .aload_n 1, 1), (46, .ifnonnull 16, 3), (49, .aload_n 0, 1), (50, .dup, 1), (51, .getfield 213, 3), (54, .iconst 1, 1), (55, .iadd, 1), (56, .putfield 213, 3), (59, .goto 16, 3), (62, .aload_n 0, 1), (63, .aload_n 1, 1), (64, .aload_n 0, 1), (65, .getfield 69, 3), (68, .aload_n 1, 1), (69, .invokevirtual 269, 3), (72, .invokevirtual 272, 3), (75, .aload_n 0, 1), (76, .getfield 151, 3), (79, .iconst 1, 1), (80, .iadd, 1), (81, .bipush 40, 2), (83, .irem, 1), (84, .ifCond .ne 10, 3), (87, .aload_n 0, 1), (88, .getfield 44, 3), (91, .invokevirtual 276, 3), (94, .aload_n 0, 1), (95, .dup, 1), (96, .getfield 151, 3), (99, .iconst 1, 1), (100, .iadd, 1), (101, .putfield 151, 3), (104, .return_, 1)]
def iL110 : List (Nat × Instr × Nat) := [(0, .iconst 0, 1), (1, .istore_n 1, 1), (2, .iload_n 1, 1), (3, .aload_n 0, 1), (4, .getfield 23, 3), (7, .arraylength, 1), (8, .if_icmp .ge 45, 3), (11, .aload_n 0, 1), (12, .getfield 23, 3), (15, .iload_n 1, 1), (16, .aaload, 1), (17, .astore_n 2, 1), (18, .aload_n 2, 1), (19, .getfield 90, 3), (22, .iconst 2, 1), (23, .if_icmp .ne 24, 3), (26, .aload_n 2, 1), (27, .getfield 279, 3), (30, .ifnull 17, 3), (33, .aload_n 2, 1), (34, .getfield 279, 3), (37, .invokevirtual 283, 3), (40, .ifCond .eq 7, 3), (43, .aload_n 2, 1), (44, .invokevirtual 286, 3), (47, .iinc 1 1, 3), (50, .goto (-48), 3), (53, .return_, 1)]
def iL111 : List (Nat × Instr × Nat) := [(0, .iconst 0, 1), (1, .istore_n 1, 1), (2, .iload_n 1, 1), (3, .aload_n 0, 1), (4, .getfield 23, 3), (7, .arraylength, 1), (8, .if_icmp .ge 50, 3), (11, .aload_n 0, 1), (12, .getfield 23, 3), (15, .iload_n 1, 1), (16, .aaload, 1), (17, .astore_n 2, 1), (18, .aload_n 2, 1), (19, .getfield 90, 3), (22, .iconst 2, 1), (23, .if_icmp .ne 29, 3), (26, .aload_n 2, 1), (27, .getfield 279, 3), (30, .ifnull 22, 3), (33, .aload_n 2, 1), (34, .getfield 279, 3), (37, .getfield 289, 3), (40, .ifnonnull 12, 3), (43, .aload_n 0, 1), (44, .aload_n 2, 1), (45, .aload_n 2, 1), (46, .getfield 279, 3), (49, .invokevirtual 293, 3), (52, .iinc 1 1, 3), (55, .goto (-53), 3), (58, .return_, 1)]
def iL112 : List (Nat × Instr × Nat) := [(0, .aload_n 0, 1), (1, .getfield 60, 3), (4, .iconst 0, 1), (5, .invokevirtual 297, 3), (8, .astore_n 3, 1), (9, .aload_n 3, 1), (10, .ifnonnull 4, 3), (13, .return_, 1), (14, .aload_n 2, 1), (15, .getfield 300, 3), (18, .ifnonnull 16, 3), (21, .aload_n 3, 1), (22, .aload_n 2, 1), (23, .iconst 1, 1), (24, .invokevirtual 304, 3), (27, .aload_n 1, 1), (28, .invokevirtual 286, 3), (31, .goto 17, 3), (34, .aload_n 3, 1), (35, .aload_n 2, 1), (36, .iconst 2, 1), (37, .invokevirtual 304, 3), (40, .aload_n 0, 1), (41, .getfield 37, 3), (44, .aload_n 3, 1), (45, .invokevirtual 307, 3), (48, .return_, 1)]
def iL113 : List (Nat × Instr × Nat) := [(0, .aload_n 0, 1), (1, .getfield 60, 3), (4, .iconst 0, 1), (5, .invokevirtual 297, 3), (8, .ifnonnull 14, 3), (11, .aload_n 0, 1), (12, .getfield 60, 3), (15, .iconst 3, 1), (16, .invokevirtual 297, 3), (19, .ifnull 4, 3), (22, .return_, 1), (23, .aload_n 0, 1), (24, .getfield 60, 3), (27, .invokevirtual 311, 3), (30, .astore_n 1, 1), (31, .aload_n 1, 1), (32, .ifnonnull 4, 3), (35, .return_, 1), (36, .aload_n 1, 1), (37, .iconst 3, 1), (38, .putfield 315, 3), (41, .aload_n 0, 1), (42, .getfield 37, 3), (45, .aload_n 1, 1), (46, .invokevirtual 307, 3), (49, .aload_n 0, 1), (50, .getfield 18, 3), (53, .sipush 2048, 3), (56, .aload_n 1, 1), (57, .getfield 316, 3), (60, .imul, 1), (61, .aload_n 1, 1), (62, .getfield 317, 3), (65, .iadd, 1), (66, .i2l, 1), (67, .invokevirtual 318, 3), (70, .aload_n 0, 1), (71, .dup, 1), (72, .getfield 216, 3), (75, .iconst 1, 1), (76, .iadd, 1), (77, .putfield 216, 3), (80, .return_, 1)]
def iL114 : List (Nat × Instr × Nat) := [(0, .iconst 0, 1), (1, .istore_n 1, 1), (2, .iload_n 1, 1), (3, .aload_n 0, 1), (4, .getfield 23, 3), (7, .arraylength, 1), (8, .if_icmp .ge 29, 3), (11, .aload_n 0, 1), (12, .getfield 23, 3), (15, .iload_n 1, 1), (16, .aaload, 1), (17, .getfield 90, 3), (20, .iconst 1, 1), (21, .if_icmp .ne 10, 3), (24, .aload_n 0, 1), (25, .getfield 23, 3), (28, .iload_n 1, 1), (29, .aaload, 1), (30, .areturn, 1), (31, .iinc 1 1, 3), (34, .goto (-32), 3), (37, .aconst_null, 1), (38, .areturn, 1)]
def iL115 : List (Nat × Instr × Nat) := [(0, .iload_n 2, 1), (1, .ifCond .le 17, 3), (4, .aload_n 1, 1), (5, .iload_n 2, 1), (6, .putfield 322, 3), (9, .aload_n 0, 1), (10, .aload_n 1, 1), (11, .iconst 4, 1), (12, .invokevirtual 325, 3), (15, .goto 15, 3), (18, .iload_n 2, 1), (19, .bipush (-2), 2), (21, .if_icmp .ne 9, 3), (24, .aload_n 0, 1), (25, .aload_n 1, 1), (26, .iconst 3, 1), (27, .invokevirtual 325, 3), (30, .iload_n 2, 1), (31, .ifCond .eq 9, 3), (34, .iload_n 2, 1), (35, .bipush (-2), 2), (37, .if_icmp .ne 40, 3), (40, .aload_n 0, 1), (41, .dup, 1), (42, .getfield 210, 3), (45, .iconst 1, 1), (46, .iadd, 1), (47, .putfield 210, 3), (50, .aload_n 0, 1), (51, .getfield 210, 3), (54, .bipush 64, 2), (56, .irem, 1), (57, .ifCond .ne 20, 3), (60, .aload_n 0, 1), (61, .getfield 60, 3), (64, .invokevirtual 328, 3), (67, .aload_n 0, 1), (68, .dup, 1), (69, .getfield 222, 3), (72, .iconst 1, 1), (73, .iadd, 1), (74, .putfield 222, 3), (77, .return_, 1)]
def iL116 : List (Nat × Instr × Nat) := [(0, .aload_n 1, 1), (1, .iload_n 2, 1), (2, .putfield 90, 3), (5, .aload_n 1, 1), (6, .aload_n 0, 1), (7, .getfield 151, 3), (10, .putfield 331, 3), (13, .aload_n 1, 1), (14, .iconst 0, 1), (15, .putfield 107, 3), (18, .aload_n 0, 1), (19, .getfield 37, 3), (22, .aload_n 1, 1), (23, .getfield 238, 3), (26, .invokevirtual 334, 3), (29, .aload_n 0, 1), (30, .getfield 60, 3), (33, .aload_n 1, 1), (34, .getfield 238, 3), (37, .aload_n 0, 1), (38, .getfield 37, 3), (41, .getfield 337, 3), (44, .invokevirtual 340, 3), (47, .aload_n 0, 1), (48, .getfield 37, 3), (51, .aload_n 1, 1), (52, .getfield 238, 3), (55, .invokevirtual 343, 3), (58, .aload_n 0, 1), (59, .getfield 30, 3), (62, .aload_n 1, 1), (63, .getfield 238, 3), (66, .invokevirtual 345, 3), (69, .aload_n 0, 1), (70, .getfield 44, 3), (73, .aload_n 1, 1), (74, .invokevirtual 348, 3), (77, .return_, 1)]
def iL117 : List (Nat × Instr × Nat) := [(0, .iload_n 0, 1), (1, .ifCond .lt 13, 3), (4, .iload_n 0, 1), (5, .ldc 98, 2), (7, .if_icmp .ge 7, 3), (10, .iconst 1, 1), (11, .goto 4, 3), (14, .iconst 0, 1), (15, .ireturn, 1)]
def iL118 : List (Nat × Instr × Nat) := [(0, .lload_n 0, 1), (1, .bipush 16, 2), (3, .lshl, 1), (4, .bipush 16, 2), (6, .lshr, 1), (7, .lreturn, 1)]
def iL119 : List (Nat × Instr × Nat) := [(0, .lload_n 0, 1), (1, .bipush 40, 2), (3, .lshl, 1), (4, .bipush 40, 2), (6, .lshr, 1), (7, .l2i, 1), (8, .ireturn, 1)]
def iL120 : List (Nat × Instr × Nat) := [(0, .aload_n 0, 1), (1, .invokespecial 1, 3), (4, .aload_n 0, 1), (5, .sipush 1000, 3), (8, .newarray .long, 2), (10, .putfield 7, 3), (13, .aload_n 0, 1), (14, .iconst 4, 1), (15, .newarray .int, 2), (17, .putfield 13, 3), (20, .aload_n 0, 1), (21, .iconst 4, 1), (22, .newarray .int, 2), (24, .putfield 17, 3), (27, .aload_n 0, 1), (28, .iconst 4, 1), (29, .newarray .int, 2), (31, .putfield 20, 3), (34, .aload_n 0, 1), (35, .iconst 4, 1), (36, .newarray .int, 2), (38, .putfield 23, 3), (41, .aload_n 0, 1), (42, .iconst 4, 1), (43, .newarray .int, 2), (45, .putfield 26, 3), (48, .aload_n 0, 1), (49, .iconst 4, 1), (50, .newarray .int, 2), (52, .putfield 29, 3), (55, .aload_n 0, 1), (56, .iconst 4, 1), (57, .newarray .int, 2), (59, .putfield 32, 3), (62, .aload_n 0, 1), (63, .iconst 4, 1), (64, .newarray .int, 2), (66, .putfield 35, 3), (69, .aload_n 0, 1), (70, .iconst 4, 1), (71, .newarray .int, 2), (73, .putfield 38, 3), (76, .aload_n 0, 1), (77, .iconst 4, 1), (78, .newarray .int, 2), (80, .putfield 41, 3), (83, .aload_n 0, 1), (84, .iconst 4, 1), (85, .newarray .int, 2), (87, .putfield 44, 3), (90, .aload_n 0, 1), (91, .sipush 512, 3), (94, .newarray .int, 2), (96, .putfield 47, 3), (99, .aload_n 0, 1), (100, .iconst 4, 1), (101, .newarray .long, 2), (103, .putfield 50, 3), (106, .aload_n 0, 1), (107, .sipush 2000, 3), (110, .newarray .long, 2), (112, .putfield 53, 3), (115, .aload_n 0, 1), (116, .sipush 800, 3), (119, .newarray .long, 2), (121, .putfield 56, 3), (124, .aload_n 0, 1), (125, .iconst 4, 1), (126, .newarray .int, 2), (128, .putfield 59, 3), (131, .aload_n 0, 1), (132, .bipush 64, 2), (134, .newarray .int, 2), (136, .putfield 62, 3), (139, .aload_n 0, 1), (140, .bipush 64, 2), (142, .newarray .int, 2), (144, .putfield 65, 3), (147, .aload_n 0, 1), (148, .ldc 68, 2), (150, .newarray .long, 2), (152, .putfield 69, 3), (155, .aload_n 0, 1), (156, .iconst 4, 1), (157, .newarray .int, 2), (159, .putfield 72, 3), (162, .aload_n 0, 1), (163, .bipush 16, 2), (165, .newarray .int, 2), (167, .putfield 75, 3), (170, .aload_n 0, 1), (171, .bipush 16, 2), (173, .newarray .int, 2), (175, .putfield 78, 3), (178, .aload_n 0, 1), (179, .bipush 16, 2), (181, .newarray .int, 2), (183, .putfield 81, 3), (186, .aload_n 0, 1), (187, .bipush 16, 2), (189, .newarray .int, 2), (191, .putfield 84, 3), (194, .aload_n 0, 1), (195, .bipush 16, 2), (197, .newarray .int, 2), (199, .putfield 87, 3), (202, .aload_n 0, 1), (203, .bipush 16, 2), (205, .newarray .int, 2), (207, .putfield 90, 3), (210, .aload_n 0, 1), (211, .bipush 16, 2), (213, .newarray .int, 2), (215, .putfield 93, 3), (218, .aload_n 0, 1), (219, .bipush 64, 2), (221, .newarray .int, 2), (223, .putfield 96, 3), (226, .aload_n 0, 1), (227, .bipush 64, 2), (229, .newarray .int, 2), (231, .putfield 99, 3), (234, .aload_n 0, 1), (235, .iconst (-1), 1), (236, .putfield 102, 3), (239, .aload_n 0, 1), (240, .bipush 32, 2), (242, .newarray .int, 2), (244, .putfield 106, 3), (247, .aload_n 0, 1), (248, .bipush 32, 2), (250, .newarray .int, 2), (252, .putfield 109, 3), (255, .aload_n 0, 1), (256, .bipush 64, 2), (258, .newarray .int, 2), (260, .putfield 112, 3), (263, .aload_n 0, 1), (264, .sipush 400, 3), (267, .newarray .long, 2), (269, .putfield 115, 3), (272, .aload_n 0, 1), (273, .iload_n 1, 1), (274, .iconst 3, 1), (275, .if_icmp .ge 7, 3), (278, .iconst 3, 1), (279, .goto 15, 3), (282, .iload_n 1, 1), (283, .bipush 16, 2), (285, .if_icmp .le 8, 3), (288, .bipush 16, 2), (290, .goto 4, 3), (293, .iload_n 1, 1), (294, .putfield 118, 3), (297, .iconst 0, 1), (298, .istore_n 2, 1), (299, .iload_n 2, 1), (300, .bipush 64, 2), (302, .if_icmp .ge 23, 3), (305, .aload_n 0, 1), (306, .getfield 62, 3), (309, .iload_n 2, 1), (310, .iconst (-1), 1), (311, .iastore, 1), (312, .aload_n 0, 1), (313, .getfield 96, 3), (316, .iload_n 2, 1), (317, .iconst (-1), 1), (318, .iastore, 1), (319, .iinc 2 1, 3), (322, .goto (-23), 3), (325, .iconst 0, 1), (326, .istore_n 2, 1), (327, .iload_n 2, 1), (328, .iconst 4, 1), (329, .if_icmp .ge 14, 3), (332, .aload_n 0, 1), (333, .iload_n 2, 1), (334, .invokevirtual 121, 3), (337, .iinc 2 1, 3), (340, .goto (-13), 3), (343, .return_, 1)]
def iL121 : List (Nat × Instr × Nat) := [(0, .aload_n 0, 1), (1, .getfield 13, 3), (4, .iload_n 1, 1), (5, .iconst 0, 1), (6, .iastore, 1), (7, .aload_n 0, 1), (8, .getfield 17, 3), (11, .iload_n 1, 1), (12, .iconst 0, 1), (13, .iastore, 1), (14, .aload_n 0, 1), (15, .getfield 20, 3), (18, .iload_n 1, 1), (19, .iconst 0, 1), (20, .iastore, 1), (21, .aload_n 0, 1), (22, .getfield 23, 3), (25, .iload_n 1, 1), (26, .iconst (-1), 1), (27, .iastore, 1), (28, .aload_n 0, 1), (29, .getfield 26, 3), (32, .iload_n 1, 1), (33, .iconst 0, 1), (34, .iastore, 1), (35, .aload_n 0, 1), (36, .getfield 29, 3), (39, .iload_n 1, 1), (40, .iconst 0, 1), (41, .iastore, 1), (42, .aload_n 0, 1), (43, .getfield 32, 3), (46, .iload_n 1, 1), (47, .iconst 0, 1), (48, .iastore, 1), (49, .aload_n 0, 1), (50, .getfield 35, 3), (53, .iload_n 1, 1), (54, .iconst (-1), 1), (55, .iastore, 1), (56, .aload_n 0, 1), (57, .getfield 38, 3), (60, .iload_n 1, 1), (61, .iconst 0, 1), (62, .iastore, 1), (63, .aload_n 0, 1), (64, .getfield 41, 3), (67, .iload_n 1, 1), (68, .iconst 0, 1), (69, .iastore, 1), (70, .aload_n 0, 1), (71, .getfield 44, 3), (74, .iload_n 1, 1), (75, .iconst 0, 1), (76, .iastore, 1), (77, .aload_n 0, 1), (78, .getfield 72, 3), (81, .iload_n 1, 1), (82, .iconst 0, 1), (83, .iastore, 1), (84, .aload_n 0, 1), (85, .getfield 50, 3), (88, .iload_n 1, 1), (89, .lconst 0, 1), (90, .lastore, 1), (91, .iconst 0, 1), (92, .istore_n 2, 1), (93, .iload_n 2, 1), (94, .sipush 128, 3), (97, .if_icmp .ge 22, 3), (100, .aload_n 0, 1), (101, .getfield 47, 3), (104, .sipush 128, 3), (107, .iload_n 1, 1), (108, .imul, 1), (109, .iload_n 2, 1), (110, .iadd, 1), (111, .iconst 0, 1), (112, .iastore, 1), (113, .iinc 2 1, 3), (116, .goto (-23), 3), (119, .return_, 1)]
def iL122 : List (Nat × Instr × Nat) := [(0, .lload_n 0, 1), (1, .lload_n 2, 1), (2, .lcmp, 1), (3, .ifCond .lt 14, 3), (6, .lload_n 0, 1), (7, .lload 4, 2), (9, .lcmp, 1), (10, .ifCond .gt 7, 3), (13, .iconst 1, 1), (14, .goto 4, 3), (17, .iconst 0, 1), (18, .ireturn, 1)]
def iL123 : List (Nat × Instr × Nat) := [(0, .lload_n 0, 1), (1, .bipush 16, 2), (3, .lshl, 1), (4, .bipush 16, 2), (6, .lshr, 1), (7, .lreturn, 1)]
def iL124 : List (Nat × Instr × Nat) := [(0, .lload_n 0, 1), (1, .bipush 40, 2), (3, .lshl, 1), (4, .bipush 40, 2), (6, .lshr, 1), (7, .l2i, 1), (8, .ireturn, 1)]
def iL125 : List (Nat × Instr × Nat) := [(0, .aload_n 0, 1), (1, .getfield 125, 3), (4, .sipush 1000, 3), (7, .if_icmp .ne 5, 3), (10, .iconst (-1), 1), (11, .ireturn, 1), (12, .aload_n 0, 1), (13, .getfield 7, 3), (16, .aload_n 0, 1), (17, .getfield 125, 3), (20, .lload_n 1, 1), (21, .invokestatic 128, 3), (24, .lastore, 1), (25, .aload_n 0, 1), (26, .dup, 1), (27, .getfield 125, 3), (30, .iconst 1, 1), (31, .iadd, 1), (32, .putfield 125, 3), (35, .aload_n 0, 1), (36, .getfield 125, 3), (39, .ireturn, 1)]
def iL126 : List (Nat × Instr × Nat) := [(0, .aload_n 0, 1), (1, .getfield 13, 3), (4, .iload_n 1, 1), (5, .iaload, 1), (6, .iconst 3, 1), (7, .if_icmp .lt 7, 3), (10, .iconst 1, 1), (11, .goto 4, 3), (14, .iconst 0, 1), (15, .ireturn, 1)]
def iL127 : List (Nat × Instr × Nat) := [(0, .iconst 0, 1), (1, .istore_n 3, 1), (2, .iload_n 3, 1), (3, .bipush 64, 2), (5, .if_icmp .ge 31, 3), (8, .aload_n 0, 1), (9, .getfield 62, 3), (12, .iload_n 3, 1), (13, .iaload, 1), (14, .iload_n 1, 1), (15, .if_icmp .ne 15, 3), (18, .aload_n 0, 1), (19, .getfield 65, 3), (22, .iload_n 3, 1), (23, .iaload, 1), (24, .iload_n 2, 1), (25, .if_icmp .ne 5, 3), (28, .iload_n 3, 1), (29, .ireturn, 1), (30, .iinc 3 1, 3), (33, .goto (-31), 3), (36, .iconst (-1), 1), (37, .ireturn, 1)]
def iL128 : List (Nat × Instr × Nat) := [(0, .iconst (-1), 1), (1, .istore_n 3, 1), (2, .bipush 63, 2), (4, .istore 4, 2), (6, .iload 4, 2), (8, .ifCond .lt 23, 3), (11, .aload_n 0, 1), (12, .getfield 62, 3), (15, .iload 4, 2), (17, .iaload, 1), (18, .iconst (-1), 1), (19, .if_icmp .ne 6, 3), (22, .iload 4, 2), (24, .istore_n 3, 1), (25, .iinc 4 (-1), 3), (28, .goto (-22), 3), (31, .aload_n 0, 1), (32, .getfield 62, 3), (35, .iload_n 3, 1), (36, .iload_n 1, 1), (37, .iastore, 1), (38, .aload_n 0, 1), (39, .getfield 65, 3), (42, .iload_n 3, 1), (43, .iload_n 2, 1), (44, .iastore, 1), (45, .aload_n 0, 1), (46, .getfield 72, 3), (49, .iload_n 1, 1), (50, .dup2, 1), (51, .iaload, 1), (52, .iconst 1, 1), (53, .iadd, 1), (54, .iastore, 1), (55, .iconst 0, 1), (56, .istore 4, 2), (58, .iload 4, 2), (60, .sipush 512, 3), (63, .if_icmp .ge 23, 3), (66, .aload_n 0, 1), (67, .getfield 69, 3), (70, .sipush 512, 3), (73, .iload_n 3, 1), (74, .imul, 1), (75, .iload 4, 2), (77, .iadd, 1), (78, .lconst 0, 1), (79, .lastore, 1), (80, .iinc 4 1, 3), (83, .goto (-25), 3), (86, .iload_n 3, 1), (87, .ireturn, 1)]
def iL129 : List (Nat × Instr × Nat) := [(0, .iconst 0, 1), (1, .istore_n 3, 1), (2, .iload_n 3, 1), (3, .aload_n 0, 1), (4, .getfield 118, 3), (7, .if_icmp .ge 56, 3), (10, .aload_n 0, 1), (11, .getfield 75, 3), (14, .iload_n 3, 1), (15, .iaload, 1), (16, .ifCond .eq 41, 3), (19, .aload_n 0, 1), (20, .getfield 78, 3), (23, .iload_n 3, 1), (24, .iaload, 1), (25, .iload_n 1, 1), (26, .if_icmp .ne 31, 3), (29, .aload_n 0, 1), (30, .getfield 81, 3), (33, .iload_n 3, 1), (34, .iaload, 1), (35, .iload_n 2, 1), (36, .if_icmp .ne 21, 3), (39, .iload_n 3, 1), (40, .aload_n 0, 1), (41, .getfield 102, 3), (44, .if_icmp .ne 11, 3), (47, .aload_n 0, 1), (48, .getfield 132, 3), (51, .iconst 1, 1), (52, .if_icmp .eq 5, 3), (55, .iload_n 3, 1), (56, .ireturn, 1), (57, .iinc 3 1, 3), (60, .goto (-58), 3), (63, .iconst (-1), 1), (64, .ireturn, 1)]
def iL130 : List (Nat × Instr × Nat) := [(0, .iconst 0, 1), (1, .istore_n 3, 1), (2, .iload_n 3, 1), (3, .bipush 64, 2), (5, .if_icmp .ge 54, 3), (8, .aload_n 0, 1), (9, .getfield 96, 3), (12, .iload_n 3, 1), (13, .iaload, 1), (14, .iload_n 1, 1), (15, .if_icmp .ne 38, 3), (18, .aload_n 0, 1), (19, .getfield 99, 3), (22, .iload_n 3, 1), (23, .iaload, 1), (24, .iload_n 2, 1), (25, .if_icmp .ne 28, 3), (28, .aload_n 0, 1), (29, .getfield 102, 3), (32, .ifCond .lt 19, 3), (35, .aload_n 0, 1), (36, .getfield 132, 3), (39, .iconst 1, 1), (40, .if_icmp .ne 11, 3), (43, .iload_n 3, 1), (44, .aload_n 0, 1), (45, .getfield 135, 3), (48, .if_icmp .eq 5, 3), (51, .iload_n 3, 1), (52, .ireturn, 1), (53, .iinc 3 1, 3), (56, .goto (-54), 3), (59, .iconst (-1), 1), (60, .ireturn, 1)]
def iL131 : List (Nat × Instr × Nat) := [(0, .iconst 0, 1), (1, .istore_n 1, 1), (2, .iconst 0, 1), (3, .istore_n 2, 1), (4, .iload_n 2, 1), (5, .bipush 64, 2), (7, .if_icmp .ge 27, 3), (10, .iload_n 1, 1), (11, .aload_n 0, 1), (12, .getfield 96, 3), (15, .iload_n 2, 1), (16, .iaload, 1), (17, .iconst (-1), 1), (18, .if_icmp .ne 7, 3), (21, .iconst 1, 1), (22, .goto 4, 3), (25, .iconst 0, 1), (26, .iadd, 1), (27, .istore_n 1, 1), (28, .iinc 2 1, 3), (31, .goto (-27), 3), (34, .iload_n 1, 1), (35, .ireturn, 1)]
def iL132 : List (Nat × Instr × Nat) := [(0, .iconst 0, 1), (1, .istore_n 2, 1), (2, .iconst 0, 1), (3, .istore_n 3, 1), (4, .iload_n 3, 1), (5, .iconst 4, 1), (6, .if_icmp .ge 53, 3), (9, .iload_n 3, 1), (10, .iload_n 1, 1), (11, .if_icmp .eq 42, 3), (14, .iload_n 2, 1), (15, .aload_n 0, 1), (16, .getfield 13, 3), (19, .iload_n 3, 1), (20, .iaload, 1), (21, .ifCond .ne 12, 3), (24, .aload_n 0, 1), (25, .getfield 72, 3), (28, .iload_n 3, 1), (29, .iaload, 1), (30, .goto 21, 3), (33, .aload_n 0, 1), (34, .iload_n 3, 1), (35, .invokevirtual 138, 3), (38, .ifCond .eq 7, 3), (41, .iconst 0, 1), (42, .goto 9, 3), (45, .aload_n 0, 1), (46, .getfield 29, 3), (49, .iload_n 3, 1), (50, .iaload, 1), (51, .iadd, 1), (52, .istore_n 2, 1), (53, .iinc 3 1, 3), (56, .goto (-52), 3), (59, .iload_n 2, 1), (60, .ireturn, 1)]
def iL133 : List (Nat × Instr × Nat) := [(0, .iload_n 1, 1), (1, .i2l, 1), (2, .lconst 0, 1), (3, .ldc2_w 142, 3), (6, .invokestatic 144, 3), (9, .ifCond .eq 39, 3), (12, .aload_n 0, 1), (13, .getfield 13, 3), (16, .iload_n 1, 1), (17, .iaload, 1), (18, .ifCond .ne 30, 3), (21, .iload_n 2, 1), (22, .i2l, 1), (23, .lconst 0, 1), (24, .ldc2_w 148, 3), (27, .invokestatic 144, 3), (30, .ifCond .eq 18, 3), (33, .iload_n 2, 1), (34, .i2l, 1), (35, .aload_n 0, 1), (36, .getfield 125, 3), (39, .i2l, 1), (40, .ladd, 1), (41, .ldc2_w 150, 3), (44, .lcmp, 1), (45, .ifCond .le 5, 3), (48, .iconst (-1), 1), (49, .ireturn, 1), (50, .iload_n 2, 1), (51, .sipush 512, 3), (54, .idiv, 1), (55, .istore_n 3, 1), (56, .aload_n 0, 1), (57, .getfield 125, 3), (60, .ifCond .ne 9, 3), (63, .iload_n 3, 1), (64, .iconst 1, 1), (65, .isub, 1), (66, .goto 15, 3), (69, .iload_n 2, 1), (70, .aload_n 0, 1), (71, .getfield 125, 3), (74, .iadd, 1), (75, .iconst 1, 1), (76, .isub, 1), (77, .sipush 512, 3), (80, .idiv, 1), (81, .istore 4, 2), (83, .iconst 0, 1), (84, .istore 5, 2), (86, .iload_n 3, 1), (87, .istore 6, 2), (89, .iload 6, 2), (91, .iload 4, 2), (93, .if_icmp .gt 30, 3), (96, .iload 5, 2), (98, .aload_n 0, 1), (99, .iload_n 1, 1), (100, .iload 6, 2), (102, .invokevirtual 152, 3), (105, .iconst (-1), 1), (106, .if_icmp .ne 7, 3), (109, .iconst 1, 1), (110, .goto 4, 3), (113, .iconst 0, 1), (114, .iadd, 1), (115, .istore 5, 2), (117, .iinc 6 1, 3), (120, .goto (-31), 3), (123, .aload_n 0, 1), (124, .iload_n 1, 1), (125, .invokevirtual 156, 3), (128, .aload_n 0, 1), (129, .getfield 72, 3), (132, .iload_n 1, 1), (133, .iaload, 1), (134, .iadd, 1), (135, .iload 5, 2), (137, .iadd, 1), (138, .bipush 64, 2), (140, .if_icmp .gt 12, 3), (143, .aload_n 0, 1), (144, .invokevirtual 160, 3), (147, .iload 5, 2), (149, .if_icmp .ge 5, 3), (152, .iconst (-1), 1), (153, .ireturn, 1), (154, .iload_n 3, 1), (155, .istore 6, 2), (157, .iload 6, 2), (159, .iload 4, 2), (161, .if_icmp .gt 69, 3), (164, .aload_n 0, 1), (165, .iload_n 1, 1), (166, .iload 6, 2), (168, .invokevirtual 152, 3), (171, .iconst (-1), 1), (172, .if_icmp .eq 6, 3), (175, .goto 49, 3), (178, .aload_n 0, 1), (179, .iload_n 1, 1), (180, .iload 6, 2), (182, .invokevirtual 164, 3), (185, .istore 7, 2), (187, .iconst 0, 1), (188, .istore 8, 2), (190, .aload_n 0, 1), (191, .getfield 96, 3), (194, .iload 8, 2), (196, .iaload, 1), (197, .iconst (-1), 1), (198, .if_icmp .eq 9, 3), (201, .iinc 8 1, 3), (204, .goto (-14), 3), (207, .aload_n 0, 1), (208, .getfield 96, 3), (211, .iload 8, 2), (213, .iload_n 1, 1), (214, .iastore, 1), (215, .aload_n 0, 1), (216, .getfield 99, 3), (219, .iload 8, 2), (221, .iload 6, 2), (223, .iastore, 1), (224, .iinc 6 1, 3), (227, .goto (-70), 3), (230, .iconst 0, 1), (231, .istore 6, 2), (233, .iload 6, 2), (235, .aload_n 0, 1), (236, .getfield 125, 3), (239, .if_icmp .ge 25, 3), (242, .aload_n 0, 1), (243, .iload_n 1, 1), (244, .iload_n 2, 1), (245, .iload 6, 2), (247, .iadd, 1), (248, .aload_n 0, 1), (249, .getfield 7, 3), (252, .iload 6, 2), (254, .laload, 1), (255, .invokevirtual 167, 3), (258, .iinc 6 1, 3), (261, .goto (-28), 3), (264, .aload_n 0, 1), (265, .iconst 0, 1), (266, .putfield 125, 3), (269, .aload_n 0, 1), (270, .getfield 72, 3), (273, .iload_n 1, 1), (274, .iaload, 1), (275, .ireturn, 1)]
def iL134 : List (Nat × Instr × Nat) := [(0, .aload_n 0, 1), (1, .getfield 69, 3), (4, .sipush 512, 3), (7, .aload_n 0, 1), (8, .iload_n 1, 1), (9, .iload_n 2, 1), (10, .sipush 512, 3), (13, .idiv, 1), (14, .invokevirtual 152, 3), (17, .imul, 1), (18, .iload_n 2, 1), (19, .sipush 512, 3), (22, .irem, 1), (23, .iadd, 1), (24, .lload_n 3, 1), (25, .lastore, 1), (26, .return_, 1)]
def iL135 : List (Nat × Instr × Nat) := [(0, .aload_n 0, 1), (1, .iload_n 1, 1), (2, .iload_n 2, 1), (3, .sipush 512, 3), (6, .idiv, 1), (7, .invokevirtual 152, 3), (10, .istore_n 3, 1), (11, .iload_n 3, 1), (12, .iconst (-1), 1), (13, .if_icmp .ne 7, 3), (16, .lconst 0, 1), (17, .goto 19, 3), (20, .aload_n 0, 1), (21, .getfield 69, 3), (24, .sipush 512, 3), (27, .iload_n 3, 1), (28, .imul, 1), (29, .iload_n 2, 1), (30, .sipush 512, 3), (33, .irem, 1), (34, .iadd, 1), (35, .laload, 1), (36, .lreturn, 1)]
def iL136 : List (Nat × Instr × Nat) := [(0, .iload_n 1, 1), (1, .i2l, 1), (2, .lconst 0, 1), (3, .ldc2_w 142, 3), (6, .invokestatic 144, 3), (9, .ifCond .eq 28, 3), (12, .aload_n 0, 1), (13, .iload_n 1, 1), (14, .invokevirtual 138, 3), (17, .ifCond .ne 20, 3), (20, .aload_n 0, 1), (21, .getfield 38, 3), (24, .iload_n 1, 1), (25, .iaload, 1), (26, .aload_n 0, 1), (27, .getfield 125, 3), (30, .iadd, 1), (31, .sipush 500, 3), (34, .if_icmp .le 5, 3), (37, .iconst (-1), 1), (38, .ireturn, 1), (39, .iconst 0, 1), (40, .istore_n 2, 1), (41, .iload_n 2, 1), (42, .aload_n 0, 1), (43, .getfield 125, 3), (46, .if_icmp .ge 34, 3), (49, .aload_n 0, 1), (50, .getfield 53, 3), (53, .sipush 500, 3), (56, .iload_n 1, 1), (57, .imul, 1), (58, .aload_n 0, 1), (59, .getfield 38, 3), (62, .iload_n 1, 1), (63, .iaload, 1), (64, .iadd, 1), (65, .iload_n 2, 1), (66, .iadd, 1), (67, .aload_n 0, 1), (68, .getfield 7, 3), (71, .iload_n 2, 1), (72, .laload, 1), (73, .lastore, 1), (74, .iinc 2 1, 3), (77, .goto (-36), 3), (80, .aload_n 0, 1), (81, .getfield 38, 3), (84, .iload_n 1, 1), (85, .dup2, 1), (86, .iaload, 1), (87, .aload_n 0, 1), (88, .getfield 125, 3), (91, .iadd, 1), (92, .iastore, 1), (93, .aload_n 0, 1), (94, .iconst 0, 1), (95, .putfield 125, 3), (98, .aload_n 0, 1), (99, .getfield 38, 3), (102, .iload_n 1, 1), (103, .iaload, 1), (104, .ireturn, 1)]
def iL137 : List (Nat × Instr × Nat) := [(0, .iload_n 1, 1), (1, .i2l, 1), (2, .lconst 0, 1), (3, .ldc2_w 142, 3), (6, .invokestatic 144, 3), (9, .ifCond .eq 61, 3), (12, .aload_n 0, 1), (13, .getfield 13, 3), (16, .iload_n 1, 1), (17, .iaload, 1), (18, .ifCond .ne 52, 3), (21, .iload_n 3, 1), (22, .i2l, 1), (23, .lconst 1, 1), (24, .ldc2_w 171, 3), (27, .invokestatic 144, 3), (30, .ifCond .eq 40, 3), (33, .iload 4, 2), (35, .i2l, 1), (36, .lconst 1, 1), (37, .ldc2_w 173, 3), (40, .invokestatic 144, 3), (43, .ifCond .eq 27, 3), (46, .iload 4, 2), (48, .aload_n 0, 1), (49, .getfield 72, 3), (52, .iload_n 1, 1), (53, .iaload, 1), (54, .if_icmp .lt 16, 3), (57, .aload_n 0, 1), (58, .iload_n 1, 1), (59, .invokevirtual 156, 3), (62, .iload 4, 2), (64, .iadd, 1), (65, .bipush 64, 2), (67, .if_icmp .le 5, 3), (70, .iconst 0, 1), (71, .ireturn, 1), (72, .aload_n 0, 1), (73, .getfield 13, 3), (76, .iload_n 1, 1), (77, .iconst 1, 1), (78, .iastore, 1), (79, .aload_n 0, 1), (80, .getfield 26, 3), (83, .iload_n 1, 1), (84, .iload_n 3, 1), (85, .iastore, 1), (86, .aload_n 0, 1), (87, .getfield 29, 3), (90, .iload_n 1, 1), (91, .iload 4, 2), (93, .iastore, 1), (94, .aload_n 0, 1), (95, .getfield 47, 3), (98, .sipush 128, 3), (101, .iload_n 1, 1), (102, .imul, 1), (103, .bipush 127, 2), (105, .iadd, 1), (106, .iload_n 2, 1), (107, .i2l, 1), (108, .invokestatic 175, 3), (111, .iastore, 1), (112, .iconst 1, 1), (113, .ireturn, 1)]
def iL138 : List (Nat × Instr × Nat) := [(0, .iload_n 1, 1), (1, .i2l, 1), (2, .lconst 0, 1), (3, .ldc2_w 179, 3), (6, .invokestatic 144, 3), (9, .ifCond .ne 5, 3), (12, .iconst (-1), 1), (13, .ireturn, 1), (14, .iconst 0, 1), (15, .istore_n 2, 1), (16, .iload_n 2, 1), (17, .iload_n 1, 1), (18, .if_icmp .ge 13, 3), (21, .aload_n 0, 1), (22, .invokevirtual 181, 3), (25, .iinc 2 1, 3), (28, .goto (-12), 3), (31, .aload_n 0, 1), (32, .getfield 184, 3), (35, .ireturn, 1)]
def iL139 : List (Nat × Instr × Nat) := [(0, .aload_n 0, 1), (1, .getfield 184, 3), (4, .istore_n 1, 1), (5, .aload_n 0, 1), (6, .dup, 1), (7, .getfield 184, 3), (10, .iconst 1, 1), (11, .iadd, 1), (12, .putfield 184, 3), (15, .iload_n 1, 1), (16, .bipush 32, 2), (18, .irem, 1), (19, .ifCond .ne 8, 3), (22, .aload_n 0, 1), (23, .iload_n 1, 1), (24, .invokevirtual 187, 3), (27, .aload_n 0, 1), (28, .invokevirtual 190, 3), (31, .iconst 0, 1), (32, .istore_n 2, 1), (33, .iload_n 2, 1), (34, .iconst 4, 1), (35, .if_icmp .ge 19, 3), (38, .aload_n 0, 1), (39, .getfield 13, 3), (42, .iload_n 2, 1), (43, .iaload, 1), (44, .iconst 1, 1), (45, .if_icmp .eq 9, 3), (48, .iinc 2 1, 3), (51, .goto (-18), 3), (54, .iload_n 2, 1), (55, .iconst 4, 1), (56, .if_icmp .ne 16, 3), (59, .aload_n 0, 1), (60, .dup, 1), (61, .getfield 193, 3), (64, .iconst 1, 1), (65, .iadd, 1), (66, .putfield 193, 3), (69, .goto 26, 3), (72, .aload_n 0, 1), (73, .iload_n 2, 1), (74, .iload_n 1, 1), (75, .invokevirtual 196, 3), (78, .ifCond .eq 17, 3), (81, .aload_n 0, 1), (82, .getfield 200, 3), (85, .bipush 64, 2), (87, .irem, 1), (88, .ifCond .ne 7, 3), (91, .aload_n 0, 1), (92, .invokevirtual 203, 3), (95, .iload_n 1, 1), (96, .iconst 1, 1), (97, .iadd, 1), (98, .bipush 40, 2), (100, .irem, 1), (101, .ifCond .ne 7, 3), (104, .aload_n 0, 1), (105, .invokevirtual 206, 3), (108, .return_, 1)]
def iL140 : List (Nat × Instr × Nat) := [(0, .aload_n 0, 1), (1, .getfield 102, 3), (4, .ifCond .lt 105, 3), (7, .aload_n 0, 1), (8, .getfield 102, 3), (11, .istore_n 2, 1), (12, .aload_n 0, 1), (13, .getfield 209, 3), (16, .iconst 1, 1), (17, .if_icmp .ne 16, 3), (20, .aload_n 0, 1), (21, .dup, 1), (22, .getfield 212, 3), (25, .iconst 1, 1), (26, .iadd, 1), (27, .putfield 212, 3), (30, .goto 13, 3), (33, .aload_n 0, 1), (34, .dup, 1), (35, .getfield 215, 3), (38, .iconst 1, 1), (39, .iadd, 1), (40, .putfield 215, 3), (43, .aload_n 0, 1), (44, .getfield 132, 3), (47, .iconst 1, 1), (48, .if_icmp .ne 23, 3), (51, .aload_n 0, 1), (52, .getfield 75, 3), (55, .iload_n 2, 1), (56, .iconst 0, 1), (57, .iastore, 1), (58, .aload_n 0, 1), (59, .getfield 96, 3), (62, .aload_n 0, 1), (63, .getfield 135, 3), (66, .iconst (-1), 1), (67, .iastore, 1), (68, .goto 36, 3), (71, .aload_n 0, 1), (72, .getfield 209, 3), (75, .iconst 1, 1), (76, .if_icmp .ne 13, 3), (79, .aload_n 0, 1), (80, .getfield 75, 3), (83, .iload_n 2, 1), (84, .iconst 0, 1), (85, .iastore, 1), (86, .goto 18, 3), (89, .aload_n 0, 1), (90, .iload_n 2, 1), (91, .invokevirtual 218, 3), (94, .aload_n 0, 1), (95, .getfield 96, 3), (98, .aload_n 0, 1), (99, .getfield 135, 3), (102, .iconst (-1), 1), (103, .iastore, 1), (104, .aload_n 0, 1), (105, .iconst (-1), 1), (106, .putfield 102, 3), (109, .iload_n 1, 1), (110, .bipush 32, 2), (112, .idiv, 1), (113, .bipush 8, 2), (115, .irem, 1), (116, .istore_n 2, 1), (117, .iconst 0, 1), (118, .istore_n 3, 1), (119, .iload_n 3, 1), (120, .aload_n 0, 1), (121, .getfield 221, 3), (124, .if_icmp .ge 188, 3), (127, .aload_n 0, 1), (128, .getfield 102, 3), (131, .ifCond .ge 181, 3), (134, .iconst (-1), 1), (135, .istore 4, 2), (137, .aload_n 0, 1), (138, .getfield 109, 3), (141, .iload_n 3, 1), (142, .iaload, 1), (143, .iconst 1, 1), (144, .if_icmp .ne 43, 3), (147, .bipush 56, 2), (149, .iload_n 2, 1), (150, .iadd, 1), (151, .istore 5, 2), (153, .iload 5, 2), (155, .ifCond .lt 29, 3), (158, .aload_n 0, 1), (159, .getfield 96, 3), (162, .iload 5, 2), (164, .iaload, 1), (165, .iconst (-1), 1), (166, .if_icmp .ne 8, 3), (169, .iload 5, 2), (171, .goto 5, 3), (174, .iload 4, 2), (176, .istore 4, 2), (178, .iinc 5 (-8), 3), (181, .goto (-28), 3), (184, .goto 31, 3), (187, .aload_n 0, 1), (188, .aload_n 0, 1), (189, .getfield 78, 3), (192, .aload_n 0, 1), (193, .getfield 106, 3), (196, .iload_n 3, 1), (197, .iaload, 1), (198, .iaload, 1), (199, .aload_n 0, 1), (200, .getfield 81, 3), (203, .aload_n 0, 1), (204, .getfield 106, 3), (207, .iload_n 3, 1), (208, .iaload, 1), (209, .iaload, 1), (210, .invokevirtual 224, 3), (213, .istore 4, 2), (215, .iload 4, 2), (217, .iconst (-1), 1), (218, .if_icmp .eq 88, 3), (221, .iload 4, 2), (223, .bipush 8, 2), (225, .irem, 1), (226, .iload_n 2, 1), (227, .if_icmp .eq 6, 3), (230, .goto 76, 3), (233, .aload_n 0, 1), (234, .aload_n 0, 1), (235, .getfield 106, 3), (238, .iload_n 3, 1), (239, .iaload, 1), (240, .putfield 102, 3), (243, .aload_n 0, 1), (244, .aload_n 0, 1), (245, .getfield 109, 3), (248, .iload_n 3, 1), (249, .iaload, 1), (250, .putfield 209, 3), (253, .aload_n 0, 1), (254, .iload 4, 2), (256, .putfield 135, 3), (259, .aload_n 0, 1), (260, .iconst 0, 1), (261, .putfield 132, 3), (264, .aload_n 0, 1), (265, .iload_n 1, 1), (266, .putfield 227, 3), (269, .aload_n 0, 1), (270, .getfield 96, 3), (273, .iload 4, 2), (275, .aload_n 0, 1), (276, .getfield 78, 3), (279, .aload_n 0, 1), (280, .getfield 102, 3), (283, .iaload, 1), (284, .iastore, 1), (285, .aload_n 0, 1), (286, .getfield 99, 3), (289, .iload 4, 2), (291, .aload_n 0, 1), (292, .getfield 81, 3), (295, .aload_n 0, 1), (296, .getfield 102, 3), (299, .iaload, 1), (300, .iastore, 1), (301, .aload_n 0, 1), (302, .iload_n 3, 1), (303, .invokevirtual 230, 3), (306, .iinc 3 1, 3), (309, .goto (-190), 3), (312, .return_, 1)]
def iL141 : List (Nat × Instr × Nat) := [(0, .aload_n 0, 1), (1, .dup, 1), (2, .getfield 221, 3), (5, .iconst 1, 1), (6, .isub, 1), (7, .putfield 221, 3), (10, .iload_n 1, 1), (11, .istore_n 2, 1), (12, .iload_n 2, 1), (13, .aload_n 0, 1), (14, .getfield 221, 3), (17, .if_icmp .ge 37, 3), (20, .aload_n 0, 1), (21, .getfield 106, 3), (24, .iload_n 2, 1), (25, .aload_n 0, 1), (26, .getfield 106, 3), (29, .iload_n 2, 1), (30, .iconst 1, 1), (31, .iadd, 1), (32, .iaload, 1), (33, .iastore, 1), (34, .aload_n 0, 1), (35, .getfield 109, 3), (38, .iload_n 2, 1), (39, .aload_n 0, 1), (40, .getfield 109, 3), (43, .iload_n 2, 1), (44, .iconst 1, 1), (45, .iadd, 1), (46, .iaload, 1), (47, .iastore, 1), (48, .iinc 2 1, 3), (51, .goto (-39), 3), (54, .return_, 1)]
def iL142 : List (Nat × Instr × Nat) := [(0, .aload_n 0, 1), (1, .getfield 75, 3), (4, .iload_n 1, 1), (5, .iconst 1, 1), (6, .iastore, 1), (7, .aload_n 0, 1), (8, .getfield 84, 3), (11, .iload_n 1, 1), (12, .iconst 0, 1), (13, .iastore, 1), (14, .aload_n 0, 1), (15, .getfield 87, 3), (18, .iload_n 1, 1), (19, .iconst 0, 1), (20, .iastore, 1), (21, .aload_n 0, 1), (22, .getfield 90, 3), (25, .iload_n 1, 1), (26, .iconst 0, 1), (27, .iastore, 1), (28, .aload_n 0, 1), (29, .getfield 93, 3), (32, .iload_n 1, 1), (33, .iconst 1, 1), (34, .iastore, 1), (35, .return_, 1)]
def iL143 : List (Nat × Instr × Nat) := [(0, .iconst 0, 1), (1, .istore_n 1, 1), (2, .iload_n 1, 1), (3, .aload_n 0, 1), (4, .getfield 118, 3), (7, .if_icmp .ge 20, 3), (10, .aload_n 0, 1), (11, .getfield 75, 3), (14, .iload_n 1, 1), (15, .iaload, 1), (16, .ifCond .ne 5, 3), (19, .iload_n 1, 1), (20, .ireturn, 1), (21, .iinc 1 1, 3), (24, .goto (-22), 3), (27, .iconst (-1), 1), (28, .ireturn, 1)]
def iL144 : List (Nat × Instr × Nat) := [(0, .aload_n 0, 1), (1, .getfield 106, 3), (4, .aload_n 0, 1), (5, .getfield 221, 3), (8, .iload_n 1, 1), (9, .iastore, 1), (10, .aload_n 0, 1), (11, .getfield 109, 3), (14, .aload_n 0, 1), (15, .getfield 221, 3), (18, .iload_n 2, 1), (19, .iastore, 1), (20, .aload_n 0, 1), (21, .dup, 1), (22, .getfield 221, 3), (25, .iconst 1, 1), (26, .iadd, 1), (27, .putfield 221, 3), (30, .return_, 1)]
def iL145 : List (Nat × Instr × Nat) := [(0, .iconst 0, 1), (1, .istore_n 1, 1), (2, .iload_n 1, 1), (3, .iconst 4, 1), (4, .if_icmp .ge 58, 3), (7, .aload_n 0, 1), (8, .getfield 13, 3), (11, .iload_n 1, 1), (12, .iaload, 1), (13, .iconst 2, 1), (14, .if_icmp .ne 42, 3), (17, .aload_n 0, 1), (18, .iload_n 1, 1), (19, .aload_n 0, 1), (20, .getfield 23, 3), (23, .iload_n 1, 1), (24, .iaload, 1), (25, .invokevirtual 233, 3), (28, .ifCond .lt 28, 3), (31, .aload_n 0, 1), (32, .getfield 75, 3), (35, .aload_n 0, 1), (36, .iload_n 1, 1), (37, .aload_n 0, 1), (38, .getfield 23, 3), (41, .iload_n 1, 1), (42, .iaload, 1), (43, .invokevirtual 233, 3), (46, .iaload, 1), (47, .iconst 1, 1), (48, .if_icmp .ne 8, 3), (51, .aload_n 0, 1), (52, .iload_n 1, 1), (53, .invokevirtual 236, 3), (56, .iinc 1 1, 3), (59, .goto (-57), 3), (62, .iconst 0, 1), (63, .istore_n 1, 1), (64, .iload_n 1, 1), (65, .iconst 4, 1), (66, .if_icmp .ge 114, 3), (69, .aload_n 0, 1), (70, .getfield 13, 3), (73, .iload_n 1, 1), (74, .iaload, 1), (75, .iconst 2, 1), (76, .if_icmp .ne 98, 3), (79, .aload_n 0, 1), (80, .iload_n 1, 1), (81, .aload_n 0, 1), (82, .getfield 23, 3), (85, .iload_n 1, 1), (86, .iaload, 1), (87, .invokevirtual 233, 3), (90, .ifCond .lt 6, 3), (93, .goto 81, 3), (96, .aload_n 0, 1), (97, .invokevirtual 239, 3), (100, .istore_n 2, 1), (101, .iload_n 2, 1), (102, .ifCond .ge 6, 3), (105, .goto 69, 3), (108, .aload_n 0, 1), (109, .getfield 78, 3), (112, .iload_n 2, 1), (113, .iload_n 1, 1), (114, .iastore, 1), (115, .aload_n 0, 1), (116, .getfield 81, 3), (119, .iload_n 2, 1), (120, .aload_n 0, 1), (121, .getfield 23, 3), (124, .iload_n 1, 1), (125, .iaload, 1), (126, .iastore, 1), (127, .aload_n 0, 1), (128, .iload_n 2, 1), (129, .invokevirtual 218, 3), (132, .aload_n 0, 1), (133, .iload_n 1, 1), (134, .aload_n 0, 1), (135, .getfield 23, 3), (138, .iload_n 1, 1), (139, .iaload, 1), (140, .invokevirtual 224, 3), (143, .ifCond .ge 11, 3), (146, .aload_n 0, 1), (147, .iload_n 1, 1), (148, .invokevirtual 236, 3), (151, .goto 23, 3), (154, .aload_n 0, 1), (155, .getfield 75, 3), (158, .iload_n 2, 1), (159, .iconst 2, 1), (160, .iastore, 1), (161, .aload_n 0, 1), (162, .getfield 93, 3), (165, .iload_n 2, 1), (166, .iconst 0, 1), (167, .iastore, 1), (168, .aload_n 0, 1), (169, .iload_n 2, 1), (170, .iconst 0, 1), (171, .invokevirtual 242, 3), (174, .iinc 1 1, 3), (177, .goto (-113), 3), (180, .aload_n 0, 1), (181, .invokevirtual 239, 3), (184, .ifCond .lt 4, 3), (187, .return_, 1), (188, .iconst 0, 1), (189, .istore_n 1, 1), (190, .iload_n 1, 1), (191, .aload_n 0, 1), (192, .getfield 118, 3), (195, .if_icmp .ge 20, 3), (198, .aload_n 0, 1), (199, .getfield 75, 3), (202, .iload_n 1, 1), (203, .iaload, 1), (204, .iconst 3, 1), (205, .if_icmp .ne 4, 3), (208, .return_, 1), (209, .iinc 1 1, 3), (212, .goto (-22), 3), (215, .aload_n 0, 1), (216, .invokevirtual 246, 3), (219, .istore_n 1, 1), (220, .iload_n 1, 1), (221, .ifCond .ge 4, 3), (224, .return_, 1), (225, .aload_n 0, 1), (226, .getfield 75, 3), (229, .iload_n 1, 1), (230, .iconst 3, 1), (231, .iastore, 1), (232, .aload_n 0, 1), (233, .iload_n 1, 1), (234, .iconst 1, 1), (235, .invokevirtual 242, 3), (238, .aload_n 0, 1), (239, .getfield 112, 3), (242, .aload_n 0, 1), (243, .getfield 249, 3), (246, .bipush 64, 2), (248, .irem, 1), (249, .sipush 2048, 3), (252, .aload_n 0, 1), (253, .getfield 78, 3), (256, .iload_n 1, 1), (257, .iaload, 1), (258, .imul, 1), (259, .aload_n 0, 1), (260, .getfield 81, 3), (263, .iload_n 1, 1), (264, .iaload, 1), (265, .iadd, 1), (266, .iastore, 1), (267, .aload_n 0, 1), (268, .dup, 1), (269, .getfield 249, 3), (272, .iconst 1, 1), (273, .iadd, 1), (274, .putfield 249, 3), (277, .return_, 1)]
def iL146 : List (Nat × Instr × Nat) := [(0, .aload_n 0, 1), (1, .getfield 13, 3), (4, .iload_n 1, 1), (5, .iconst 1, 1), (6, .iastore, 1), (7, .aload_n 0, 1), (8, .getfield 23, 3), (11, .iload_n 1, 1), (12, .iconst (-1), 1), (13, .iastore, 1), (14, .return_, 1)]
def iL147 : List (Nat × Instr × Nat) := [(0, .iconst 1, 1), (1, .istore_n 1, 1), (2, .iconst 0, 1), (3, .istore_n 2, 1), (4, .iload_n 2, 1), (5, .aload_n 0, 1), (6, .getfield 118, 3), (9, .if_icmp .ge 30, 3), (12, .aload_n 0, 1), (13, .getfield 75, 3), (16, .iload_n 2, 1), (17, .iaload, 1), (18, .iconst 1, 1), (19, .if_icmp .ne 14, 3), (22, .aload_n 0, 1), (23, .getfield 93, 3), (26, .iload_n 2, 1), (27, .iaload, 1), (28, .ifCond .ne 5, 3), (31, .iconst 0, 1), (32, .istore_n 1, 1), (33, .iinc 2 1, 3), (36, .goto (-32), 3), (39, .iconst 0, 1), (40, .istore_n 2, 1), (41, .iload_n 2, 1), (42, .iconst 3, 1), (43, .if_icmp .ge 161, 3), (46, .iconst (-1), 1), (47, .istore_n 3, 1), (48, .iconst 0, 1), (49, .istore 4, 2), (51, .iconst 0, 1), (52, .istore 5, 2), (54, .iload 5, 2), (56, .aload_n 0, 1), (57, .getfield 118, 3), (60, .if_icmp .ge 132, 3), (63, .aload_n 0, 1), (64, .getfield 75, 3), (67, .iload 5, 2), (69, .iaload, 1), (70, .iconst 1, 1), (71, .if_icmp .ne 115, 3), (74, .iload_n 1, 1), (75, .ifCond .ne 17, 3), (78, .aload_n 0, 1), (79, .getfield 93, 3), (82, .iload 5, 2), (84, .iaload, 1), (85, .iconst 1, 1), (86, .if_icmp .ne 6, 3), (89, .goto 97, 3), (92, .iload_n 2, 1), (93, .ifCond .ne 22, 3), (96, .aload_n 0, 1), (97, .getfield 84, 3), (100, .iload 5, 2), (102, .iaload, 1), (103, .aload_n 0, 1), (104, .getfield 87, 3), (107, .iload 5, 2), (109, .iaload, 1), (110, .iconst 1, 1), (111, .iadd, 1), (112, .if_icmp .le 74, 3), (115, .iload_n 2, 1), (116, .iconst 1, 1), (117, .if_icmp .ne 16, 3), (120, .aload_n 0, 1), (121, .getfield 87, 3), (124, .iload 5, 2), (126, .iaload, 1), (127, .ifCond .gt 6, 3), (130, .goto 56, 3), (133, .iload_n 2, 1), (134, .iconst 1, 1), (135, .if_icmp .ne 21, 3), (138, .aload_n 0, 1), (139, .getfield 87, 3), (142, .iload 5, 2), (144, .iaload, 1), (145, .aload_n 0, 1), (146, .getfield 84, 3), (149, .iload 5, 2), (151, .iaload, 1), (152, .isub, 1), (153, .goto 10, 3), (156, .aload_n 0, 1), (157, .getfield 84, 3), (160, .iload 5, 2), (162, .iaload, 1), (163, .istore 6, 2), (165, .iload_n 3, 1), (166, .ifCond .lt 13, 3), (169, .iload 6, 2), (171, .iload 4, 2), (173, .if_icmp .gt 6, 3), (176, .goto 10, 3), (179, .iload 5, 2), (181, .istore_n 3, 1), (182, .iload 6, 2), (184, .istore 4, 2), (186, .iinc 5 1, 3), (189, .goto (-135), 3), (192, .iload_n 3, 1), (193, .ifCond .lt 5, 3), (196, .iload_n 3, 1), (197, .ireturn, 1), (198, .iinc 2 1, 3), (201, .goto (-160), 3), (204, .iconst (-1), 1), (205, .ireturn, 1)]
def iL148 : List (Nat × Instr × Nat) := [(0, .aload_n 0, 1), (1, .dup, 1), (2, .getfield 252, 3), (5, .iconst 1, 1), (6, .iadd, 1), (7, .putfield 252, 3), (10, .iconst 0, 1), (11, .istore_n 1, 1), (12, .iload_n 1, 1), (13, .aload_n 0, 1), (14, .getfield 118, 3), (17, .if_icmp .ge 80, 3), (20, .aload_n 0, 1), (21, .getfield 75, 3), (24, .iload_n 1, 1), (25, .iaload, 1), (26, .iconst 1, 1), (27, .if_icmp .eq 6, 3), (30, .goto 61, 3), (33, .aload_n 0, 1), (34, .getfield 90, 3), (37, .iload_n 1, 1), (38, .iaload, 1), (39, .iconst 1, 1), (40, .if_icmp .ne 34, 3), (43, .aload_n 0, 1), (44, .getfield 84, 3), (47, .iload_n 1, 1), (48, .iaload, 1), (49, .ifCond .le 15, 3), (52, .aload_n 0, 1), (53, .getfield 87, 3), (56, .iload_n 1, 1), (57, .aload_n 0, 1), (58, .getfield 84, 3), (61, .iload_n 1, 1), (62, .iaload, 1), (63, .iastore, 1), (64, .aload_n 0, 1), (65, .getfield 84, 3), (68, .iload_n 1, 1), (69, .iconst 0, 1), (70, .iastore, 1), (71, .goto 13, 3), (74, .aload_n 0, 1), (75, .getfield 84, 3), (78, .iload_n 1, 1), (79, .dup2, 1), (80, .iaload, 1), (81, .iconst 1, 1), (82, .iadd, 1), (83, .iastore, 1), (84, .aload_n 0, 1), (85, .getfield 90, 3), (88, .iload_n 1, 1), (89, .iconst 0, 1), (90, .iastore, 1), (91, .iinc 1 1, 3), (94, .goto (-82), 3), (97, .return_, 1)]
def iL149 : List (Nat × Instr × Nat) := [(0, .iconst 0, 1), (1, .istore_n 1, 1), (2, .iload_n 1, 1), (3, .aload_n 0, 1), (4, .getfield 255, 3), (7, .if_icmp .ge 85, 3), (10, .aload_n 0, 1), (11, .getfield 59, 3), (14, .iload_n 1, 1), (15, .iaload, 1), (16, .istore_n 2, 1), (17, .aload_n 0, 1), (18, .getfield 44, 3), (21, .iload_n 2, 1), (22, .iaload, 1), (23, .aload_n 0, 1), (24, .getfield 41, 3), (27, .iload_n 2, 1), (28, .iaload, 1), (29, .if_icmp .ne 6, 3), (32, .goto 54, 3), (35, .aload_n 0, 1), (36, .getfield 115, 3), (39, .aload_n 0, 1), (40, .getfield 258, 3), (43, .sipush 400, 3), (46, .irem, 1), (47, .aload_n 0, 1), (48, .getfield 56, 3), (51, .sipush 200, 3), (54, .iload_n 2, 1), (55, .imul, 1), (56, .aload_n 0, 1), (57, .getfield 44, 3), (60, .iload_n 2, 1), (61, .iaload, 1), (62, .iadd, 1), (63, .laload, 1), (64, .lastore, 1), (65, .aload_n 0, 1), (66, .dup, 1), (67, .getfield 258, 3), (70, .iconst 1, 1), (71, .iadd, 1), (72, .putfield 258, 3), (75, .aload_n 0, 1), (76, .getfield 44, 3), (79, .iload_n 2, 1), (80, .dup2, 1), (81, .iaload, 1), (82, .iconst 1, 1), (83, .iadd, 1), (84, .iastore, 1), (85, .return_, 1), (86, .iinc 1 1, 3), (89, .goto (-87), 3), (92, .return_, 1)]
def iL150 : List (Nat × Instr × Nat) := [(0, .aload_n 0, 1), (1, .getfield 17, 3), (4, .iload_n 1, 1), (5, .iload_n 2, 1), (6, .iastore, 1), (7, .aload_n 0, 1), (8, .iload_n 1, 1), (9, .iconst 4, 1), (10, .iload_n 3, 1), (11, .invokevirtual 261, 3), (14, .iconst 0, 1), (15, .ireturn, 1)]
def iL151 : List (Nat × Instr × Nat) := [(0, .aload_n 0, 1), (1, .getfield 13, 3), (4, .iload_n 1, 1), (5, .iload_n 2, 1), (6, .iastore, 1), (7, .aload_n 0, 1), (8, .getfield 35, 3), (11, .iload_n 1, 1), (12, .iload_n 3, 1), (13, .iastore, 1), (14, .aload_n 0, 1), (15, .getfield 23, 3), (18, .iload_n 1, 1), (19, .iconst (-1), 1), (20, .iastore, 1), (21, .aload_n 0, 1), (22, .getfield 59, 3), (25, .aload_n 0, 1), (26, .getfield 255, 3), (29, .iload_n 1, 1), (30, .iastore, 1), (31, .aload_n 0, 1), (32, .dup, 1), (33, .getfield 255, 3), (36, .iconst 1, 1), (37, .iadd, 1), (38, .putfield 255, 3), (41, .aload_n 0, 1), (42, .getfield 221, 3), (45, .iconst 1, 1), (46, .isub, 1), (47, .istore 4, 2), (49, .iload 4, 2), (51, .ifCond .lt 47, 3), (54, .aload_n 0, 1), (55, .getfield 78, 3), (58, .aload_n 0, 1), (59, .getfield 106, 3), (62, .iload 4, 2), (64, .iaload, 1), (65, .iaload, 1), (66, .iload_n 1, 1), (67, .if_icmp .eq 6, 3), (70, .goto 22, 3), (73, .aload_n 0, 1), (74, .getfield 75, 3), (77, .aload_n 0, 1), (78, .getfield 106, 3), (81, .iload 4, 2), (83, .iaload, 1), (84, .iconst 0, 1), (85, .iastore, 1), (86, .aload_n 0, 1), (87, .iload 4, 2), (89, .invokevirtual 230, 3), (92, .iinc 4 (-1), 3), (95, .goto (-46), 3), (98, .aload_n 0, 1), (99, .getfield 102, 3), (102, .ifCond .lt 27, 3), (105, .aload_n 0, 1), (106, .getfield 132, 3), (109, .ifCond .ne 20, 3), (112, .aload_n 0, 1), (113, .getfield 78, 3), (116, .aload_n 0, 1), (117, .getfield 102, 3), (120, .iaload, 1), (121, .iload_n 1, 1), (122, .if_icmp .ne 7, 3), (125, .iconst 1, 1), (126, .goto 4, 3), (129, .iconst 0, 1), (130, .istore 4, 2), (132, .iconst 0, 1), (133, .istore 5, 2), (135, .iload 5, 2), (137, .aload_n 0, 1), (138, .getfield 118, 3), (141, .if_icmp .ge 39, 3), (144, .aload_n 0, 1), (145, .getfield 75, 3), (148, .iload 5, 2), (150, .iaload, 1), (151, .iconst 1, 1), (152, .if_icmp .ne 22, 3), (155, .aload_n 0, 1), (156, .getfield 78, 3), (159, .iload 5, 2), (161, .iaload, 1), (162, .iload_n 1, 1), (163, .if_icmp .ne 11, 3), (166, .aload_n 0, 1), (167, .getfield 75, 3), (170, .iload 5, 2), (172, .iconst 0, 1), (173, .iastore, 1), (174, .iinc 5 1, 3), (177, .goto (-42), 3), (180, .iconst 0, 1), (181, .istore 5, 2), (183, .iload 5, 2), (185, .bipush 64, 2), (187, .if_icmp .ge 44, 3), (190, .aload_n 0, 1), (191, .getfield 96, 3), (194, .iload 5, 2), (196, .iaload, 1), (197, .iload_n 1, 1), (198, .if_icmp .ne 27, 3), (201, .aload_n 0, 1), (202, .getfield 102, 3), (205, .ifCond .lt 12, 3), (208, .iload 5, 2), (210, .aload_n 0, 1), (211, .getfield 135, 3), (214, .if_icmp .eq 11, 3), (217, .aload_n 0, 1), (218, .getfield 96, 3), (221, .iload 5, 2), (223, .iconst (-1), 1), (224, .iastore, 1), (225, .iinc 5 1, 3), (228, .goto (-45), 3), (231, .iload 4, 2), (233, .ifCond .eq 8, 3), (236, .aload_n 0, 1), (237, .iconst 1, 1), (238, .putfield 132, 3), (241, .iconst 0, 1), (242, .istore 5, 2), (244, .iload 5, 2), (246, .bipush 64, 2), (248, .if_icmp .ge 28, 3), (251, .aload_n 0, 1), (252, .getfield 62, 3), (255, .iload 5, 2), (257, .iaload, 1), (258, .iload_n 1, 1), (259, .if_icmp .ne 11, 3), (262, .aload_n 0, 1), (263, .getfield 62, 3), (266, .iload 5, 2), (268, .iconst (-1), 1), (269, .iastore, 1), (270, .iinc 5 1, 3), (273, .goto (-29), 3), (276, .return_, 1)]
def iL152 : List (Nat × Instr × Nat) := [(0, .iload_n 2, 1), (1, .sipush 512, 3), (4, .idiv, 1), (5, .istore 4, 2), (7, .aload_n 0, 1), (8, .iload_n 1, 1), (9, .iload 4, 2), (11, .invokevirtual 152, 3), (14, .iconst (-1), 1), (15, .if_icmp .ne 36, 3), (18, .aload_n 0, 1), (19, .getfield 72, 3), (22, .iload_n 1, 1), (23, .iaload, 1), (24, .aload_n 0, 1), (25, .getfield 29, 3), (28, .iload_n 1, 1), (29, .iaload, 1), (30, .if_icmp .lt 13, 3), (33, .aload_n 0, 1), (34, .iload_n 1, 1), (35, .iconst 3, 1), (36, .iload_n 3, 1), (37, .invokevirtual 265, 3), (40, .pop, 1), (41, .iconst 1, 1), (42, .ireturn, 1), (43, .aload_n 0, 1), (44, .iload_n 1, 1), (45, .iload 4, 2), (47, .invokevirtual 164, 3), (50, .pop, 1), (51, .aload_n 0, 1), (52, .iload_n 1, 1), (53, .iload 4, 2), (55, .invokevirtual 233, 3), (58, .istore 5, 2), (60, .iload 5, 2), (62, .ifCond .lt 16, 3), (65, .aload_n 0, 1), (66, .getfield 75, 3), (69, .iload 5, 2), (71, .iaload, 1), (72, .iconst 1, 1), (73, .if_icmp .ne 5, 3), (76, .iconst 0, 1), (77, .ireturn, 1), (78, .aload_n 0, 1), (79, .getfield 13, 3), (82, .iload_n 1, 1), (83, .iconst 2, 1), (84, .iastore, 1), (85, .aload_n 0, 1), (86, .getfield 23, 3), (89, .iload_n 1, 1), (90, .iload 4, 2), (92, .iastore, 1), (93, .iconst 1, 1), (94, .ireturn, 1)]
def iL153 : List (Nat × Instr × Nat) := [(0, .iload_n 0, 1), (1, .i2l, 1), (2, .ldc2_w 269, 3), (5, .ldc2_w 271, 3), (8, .invokestatic 144, 3), (11, .ifCond .ne 95, 3), (14, .iload_n 0, 1), (15, .bipush 68, 2), (17, .if_icmp .eq 89, 3), (20, .iload_n 0, 1), (21, .bipush 70, 2), (23, .if_icmp .eq 83, 3), (26, .iload_n 0, 1), (27, .bipush 71, 2), (29, .if_icmp .eq 77, 3), (32, .iload_n 0, 1), (33, .bipush 75, 2), (35, .if_icmp .eq 71, 3), (38, .iload_n 0, 1), (39, .bipush 76, 2), (41, .if_icmp .eq 65, 3), (44, .iload_n 0, 1), (45, .bipush 106, 2), (47, .if_icmp .eq 59, 3), (50, .iload_n 0, 1), (51, .i2l, 1), (52, .ldc2_w 273, 3), (55, .ldc2_w 275, 3), (58, .invokestatic 144, 3), (61, .ifCond .ne 45, 3), (64, .iload_n 0, 1), (65, .sipush 212, 3), (68, .if_icmp .eq 38, 3), (71, .iload_n 0, 1), (72, .sipush 213, 3), (75, .if_icmp .eq 31, 3), (78, .iload_n 0, 1), (79, .sipush 230, 3), (82, .if_icmp .eq 24, 3), (85, .iload_n 0, 1), (86, .sipush 238, 3), (89, .if_icmp .eq 17, 3), (92, .iload_n 0, 1), (93, .sipush 242, 3), (96, .if_icmp .eq 10, 3), (99, .iload_n 0, 1), (100, .sipush 252, 3), (103, .if_icmp .ne 7, 3), (106, .iconst 1, 1), (107, .goto 4, 3), (110, .iconst 0, 1), (111, .ireturn, 1)]
def iL154 : List (Nat × Instr × Nat) := [(0, .iload_n 0, 1), (1, .invokestatic 277, 3), (4, .ifCond .ne 153, 3), (7, .iload_n 0, 1), (8, .i2l, 1), (9, .ldc2_w 280, 3), (12, .ldc2_w 282, 3), (15, .invokestatic 144, 3), (18, .ifCond .ne 139, 3), (21, .iload_n 0, 1), (22, .bipush 84, 2), (24, .if_icmp .eq 133, 3), (27, .iload_n 0, 1), (28, .bipush 86, 2), (30, .if_icmp .eq 127, 3), (33, .iload_n 0, 1), (34, .bipush 87, 2), (36, .if_icmp .eq 121, 3), (39, .iload_n 0, 1), (40, .bipush 122, 2), (42, .if_icmp .eq 115, 3), (45, .iload_n 0, 1), (46, .sipush 128, 3), (49, .if_icmp .eq 108, 3), (52, .iload_n 0, 1), (53, .sipush 131, 3), (56, .if_icmp .eq 101, 3), (59, .iload_n 0, 1), (60, .i2l, 1), (61, .ldc2_w 284, 3), (64, .ldc2_w 286, 3), (67, .invokestatic 144, 3), (70, .ifCond .ne 87, 3), (73, .iload_n 0, 1), (74, .i2l, 1), (75, .ldc2_w 288, 3), (78, .ldc2_w 290, 3), (81, .invokestatic 144, 3), (84, .ifCond .ne 73, 3), (87, .iload_n 0, 1), (88, .i2l, 1), (89, .ldc2_w 292, 3), (92, .ldc2_w 294, 3), (95, .invokestatic 144, 3), (98, .ifCond .ne 59, 3), (101, .iload_n 0, 1), (102, .sipush 244, 3), (105, .if_icmp .eq 52, 3), (108, .iload_n 0, 1), (109, .sipush 245, 3), (112, .if_icmp .eq 45, 3), (115, .iload_n 0, 1), (116, .sipush 552, 3), (119, .if_icmp .eq 38, 3), (122, .iload_n 0, 1), (123, .sipush 566, 3), (126, .if_icmp .eq 31, 3), (129, .iload_n 0, 1), (130, .sipush 580, 3), (133, .if_icmp .eq 24, 3), (136, .iload_n 0, 1), (137, .sipush 591, 3), (140, .if_icmp .eq 17, 3), (143, .iload_n 0, 1), (144, .sipush 593, 3), (147, .if_icmp .eq 10, 3), (150, .iload_n 0, 1), (151, .sipush 704, 3), (154, .if_icmp .ne 7, 3), (157, .iconst 1, 1), (158, .goto 4, 3), (161, .iconst 0, 1), (162, .ireturn, 1)]
def iL155 : List (Nat × Instr × Nat) := [(0, .aload_n 0, 1), (1, .getfield 47, 3), (4, .sipush 128, 3), (7, .iload_n 1, 1), (8, .imul, 1), (9, .iload_n 2, 1), (10, .iadd, 1), (11, .iaload, 1), (12, .ireturn, 1)]
def iL156 : List (Nat × Instr × Nat) := [(0, .iload_n 2, 1), (1, .ifCond .le 19, 3), (4, .aload_n 0, 1), (5, .getfield 47, 3), (8, .sipush 128, 3), (11, .iload_n 1, 1), (12, .imul, 1), (13, .iload_n 2, 1), (14, .iadd, 1), (15, .lload_n 3, 1), (16, .invokestatic 175, 3), (19, .iastore, 1), (20, .return_, 1)]
def iL157 : List (Nat × Instr × Nat) := [(0, .aload_n 0, 1), (1, .getfield 20, 3), (4, .iload_n 1, 1), (5, .iaload, 1), (6, .aload_n 0, 1), (7, .getfield 26, 3), (10, .iload_n 1, 1), (11, .iaload, 1), (12, .if_icmp .ne 12, 3), (15, .aload_n 0, 1), (16, .iload_n 1, 1), (17, .bipush 7, 2), (19, .iload_n 2, 1), (20, .invokevirtual 265, 3), (23, .ireturn, 1), (24, .aload_n 0, 1), (25, .iload_n 1, 1), (26, .bipush 127, 2), (28, .invokevirtual 296, 3), (31, .istore_n 3, 1), (32, .iload_n 3, 1), (33, .i2l, 1), (34, .lconst 0, 1), (35, .ldc2_w 148, 3), (38, .invokestatic 144, 3), (41, .ifCond .ne 11, 3), (44, .aload_n 0, 1), (45, .iload_n 1, 1), (46, .iconst 2, 1), (47, .iload_n 2, 1), (48, .invokevirtual 265, 3), (51, .ireturn, 1), (52, .aload_n 0, 1), (53, .iload_n 1, 1), (54, .iload_n 3, 1), (55, .iload_n 2, 1), (56, .invokevirtual 299, 3), (59, .iconst 1, 1), (60, .if_icmp .ne 5, 3), (63, .iconst 0, 1), (64, .ireturn, 1), (65, .aload_n 0, 1), (66, .iload_n 1, 1), (67, .iload_n 3, 1), (68, .invokevirtual 303, 3), (71, .lstore 4, 2), (73, .lload 4, 2), (75, .bipush 38, 2), (77, .lshr, 1), (78, .ldc2_w 307, 3), (81, .land, 1), (82, .l2i, 1), (83, .istore 6, 2), (85, .lload 4, 2), (87, .bipush 31, 2), (89, .lshr, 1), (90, .ldc2_w 309, 3), (93, .land, 1), (94, .l2i, 1), (95, .istore 7, 2), (97, .lload 4, 2), (99, .bipush 24, 2), (101, .lshr, 1), (102, .ldc2_w 309, 3), (105, .land, 1), (106, .l2i, 1), (107, .istore 8, 2), (109, .lload 4, 2), (111, .invokestatic 175, 3), (114, .istore 9, 2), (116, .iload 6, 2), (118, .invokestatic 311, 3), (121, .ifCond .ne 11, 3), (124, .aload_n 0, 1), (125, .iload_n 1, 1), (126, .iconst 1, 1), (127, .iload_n 2, 1), (128, .invokevirtual 265, 3), (131, .ireturn, 1), (132, .aload_n 0, 1), (133, .getfield 47, 3), (136, .sipush 128, 3), (139, .iload_n 1, 1), (140, .imul, 1), (141, .bipush 127, 2), (143, .iadd, 1), (144, .iload_n 3, 1), (145, .i2l, 1), (146, .lconst 1, 1), (147, .ladd, 1), (148, .invokestatic 175, 3), (151, .iastore, 1), (152, .iload 9, 2), (154, .i2l, 1), (155, .aload_n 0, 1), (156, .iload_n 1, 1), (157, .iload 8, 2), (159, .invokevirtual 296, 3), (162, .i2l, 1), (163, .ladd, 1), (164, .iload 6, 2), (166, .i2l, 1), (167, .ldc2_w 314, 3), (170, .ldc2_w 316, 3), (173, .invokestatic 144, 3), (176, .ifCond .eq 13, 3), (179, .aload_n 0, 1), (180, .iload_n 1, 1), (181, .iload 7, 2), (183, .invokevirtual 296, 3), (186, .goto 4, 3), (189, .iconst 0, 1), (190, .i2l, 1), (191, .ladd, 1), (192, .invokestatic 175, 3), (195, .istore 10, 2), (197, .iload 6, 2), (199, .invokestatic 277, 3), (202, .ifCond .eq 63, 3), (205, .iload 10, 2), (207, .i2l, 1), (208, .lconst 0, 1), (209, .ldc2_w 148, 3), (212, .invokestatic 144, 3), (215, .istore 11, 2), (217, .iload 11, 2), (219, .ifCond .eq 15, 3), (222, .aload_n 0, 1), (223, .iload_n 1, 1), (224, .iload 10, 2), (226, .iload_n 2, 1), (227, .invokevirtual 299, 3), (230, .iconst 1, 1), (231, .if_icmp .ne 34, 3), (234, .aload_n 0, 1), (235, .getfield 47, 3), (238, .sipush 128, 3), (241, .iload_n 1, 1), (242, .imul, 1), (243, .bipush 127, 2), (245, .iadd, 1), (246, .iload_n 3, 1), (247, .iastore, 1), (248, .iload 11, 2), (250, .ifCond .eq 7, 3), (253, .iconst 0, 1), (254, .goto 10, 3), (257, .aload_n 0, 1), (258, .iload_n 1, 1), (259, .iconst 2, 1), (260, .iload_n 2, 1), (261, .invokevirtual 265, 3), (264, .ireturn, 1), (265, .aload_n 0, 1), (266, .iload_n 1, 1), (267, .iload 6, 2), (269, .iload 10, 2), (271, .invokevirtual 318, 3), (274, .istore 11, 2), (276, .iload 11, 2), (278, .ifCond .le 26, 3), (281, .aload_n 0, 1), (282, .getfield 47, 3), (285, .sipush 128, 3), (288, .iload_n 1, 1), (289, .imul, 1), (290, .bipush 127, 2), (292, .iadd, 1), (293, .iload_n 3, 1), (294, .iastore, 1), (295, .aload_n 0, 1), (296, .iload_n 1, 1), (297, .iload 11, 2), (299, .iload_n 2, 1), (300, .invokevirtual 265, 3), (303, .ireturn, 1), (304, .aload_n 0, 1), (305, .getfield 20, 3), (308, .iload_n 1, 1), (309, .dup2, 1), (310, .iaload, 1), (311, .iconst 1, 1), (312, .iadd, 1), (313, .iastore, 1), (314, .aload_n 0, 1), (315, .dup, 1), (316, .getfield 200, 3), (319, .iconst 1, 1), (320, .iadd, 1), (321, .putfield 200, 3), (324, .aload_n 0, 1), (325, .iload_n 1, 1), (326, .iload_n 3, 1), (327, .invokevirtual 321, 3), (330, .iload 6, 2), (332, .invokestatic 277, 3), (335, .ifCond .eq 10, 3), (338, .aload_n 0, 1), (339, .iload_n 1, 1), (340, .iload 10, 2), (342, .invokevirtual 321, 3), (345, .iload 6, 2), (347, .sipush 128, 3), (350, .if_icmp .ge 17, 3), (353, .aload_n 0, 1), (354, .iload_n 1, 1), (355, .iload 6, 2), (357, .iload 7, 2), (359, .iload 10, 2), (361, .invokevirtual 324, 3), (364, .goto 59, 3), (367, .iload 6, 2), (369, .sipush 192, 3), (372, .if_icmp .ge 21, 3), (375, .aload_n 0, 1), (376, .iload_n 1, 1), (377, .iload 6, 2), (379, .iload 7, 2), (381, .iload 8, 2), (383, .iload 9, 2), (385, .iload 10, 2), (387, .invokevirtual 328, 3), (390, .goto 33, 3), (393, .iload 6, 2), (395, .sipush 256, 3), (398, .if_icmp .ge 15, 3), (401, .aload_n 0, 1), (402, .iload_n 1, 1), (403, .iload 6, 2), (405, .iload 10, 2), (407, .invokevirtual 332, 3), (410, .goto 13, 3), (413, .aload_n 0, 1), (414, .iload_n 1, 1), (415, .iload 6, 2), (417, .iload 7, 2), (419, .iload_n 2, 1), (420, .invokevirtual 335, 3), (423, .iconst 1, 1), (424, .ireturn, 1)]
def iL158 : List (Nat × Instr × Nat) := [(0, .aload_n 0, 1), (1, .iload_n 1, 1), (2, .iload_n 2, 1), (3, .sipush 512, 3), (6, .idiv, 1), (7, .invokevirtual 233, 3), (10, .istore_n 3, 1), (11, .aload_n 0, 1), (12, .getfield 90, 3), (15, .iload_n 3, 1), (16, .iconst 1, 1), (17, .iastore, 1), (18, .aload_n 0, 1), (19, .getfield 93, 3), (22, .iload_n 3, 1), (23, .iconst 0, 1), (24, .iastore, 1), (25, .return_, 1)]
def iL159 : List (Nat × Instr × Nat) := [(0, .iload_n 2, 1), (1, .sipush 252, 3), (4, .if_icmp .ne 16, 3), (7, .aload_n 0, 1), (8, .iload_n 1, 1), (9, .iload_n 3, 1), (10, .invokevirtual 303, 3), (13, .lconst 0, 1), (14, .lcmp, 1), (15, .ifCond .ne 5, 3), (18, .iconst 5, 1), (19, .ireturn, 1), (20, .iload_n 2, 1), (21, .sipush 552, 3), (24, .if_icmp .ne 14, 3), (27, .aload_n 0, 1), (28, .getfield 38, 3), (31, .iload_n 1, 1), (32, .iaload, 1), (33, .ifCond .ne 5, 3), (36, .iconst 4, 1), (37, .ireturn, 1), (38, .iload_n 2, 1), (39, .sipush 566, 3), (42, .if_icmp .ne 18, 3), (45, .aload_n 0, 1), (46, .getfield 41, 3), (49, .iload_n 1, 1), (50, .iaload, 1), (51, .sipush 200, 3), (54, .if_icmp .ne 6, 3), (57, .bipush 6, 2), (59, .ireturn, 1), (60, .iload_n 2, 1), (61, .sipush 704, 3), (64, .if_icmp .ne 18, 3), (67, .aload_n 0, 1), (68, .getfield 50, 3), (71, .iload_n 1, 1), (72, .laload, 1), (73, .lconst 0, 1), (74, .lcmp, 1), (75, .ifCond .ge 7, 3), (78, .iconst 5, 1), (79, .goto 4, 3), (82, .iconst 0, 1), (83, .ireturn, 1)]
def iL160 : List (Nat × Instr × Nat) := [(0, .lload_n 0, 1), (1, .lconst 0, 1), (2, .lcmp, 1), (3, .ifCond .le 7, 3), (6, .iconst 1, 1), (7, .goto 14, 3), (10, .lload_n 0, 1), (11, .lconst 0, 1), (12, .lcmp, 1), (13, .ifCond .ge 7, 3), (16, .iconst (-1), 1), (17, .goto 4, 3), (20, .iconst 0, 1), (21, .ireturn, 1)]
def iL161 : List (Nat × Instr × Nat) := [(0, .aload_n 0, 1), (1, .iload_n 1, 1), (2, .iload_n 3, 1), (3, .invokevirtual 296, 3), (6, .i2l, 1), (7, .lstore 5, 2), (9, .iload_n 2, 1), (10, .invokestatic 277, 3), (13, .istore 7, 2), (15, .iload 7, 2), (17, .ifCond .eq 13, 3), (20, .aload_n 0, 1), (21, .iload_n 1, 1), (22, .iload 4, 2), (24, .invokevirtual 303, 3), (27, .goto 6, 3), (30, .iload 4, 2), (32, .i2l, 1), (33, .lstore 8, 2), (35, .iload_n 2, 1), (36, .tableswitch 219 65 87 #[108, 119, 219, 133, 219, 147, 161, 219, 219, 219, 175, 187, 219, 219, 219, 205, 108, 119, 219, 133, 219, 147, 161], 108), (144, .aload_n 0, 1), (145, .iload_n 1, 1), (146, .iload_n 3, 1), (147, .lload 8, 2), (149, .invokevirtual 338, 3), (152, .goto 117, 3), (155, .aload_n 0, 1), (156, .iload_n 1, 1), (157, .iload_n 3, 1), (158, .lload 5, 2), (160, .lload 8, 2), (162, .lsub, 1), (163, .invokevirtual 338, 3), (166, .goto 103, 3), (169, .aload_n 0, 1), (170, .iload_n 1, 1), (171, .iload_n 3, 1), (172, .lload 5, 2), (174, .lload 8, 2), (176, .ladd, 1), (177, .invokevirtual 338, 3), (180, .goto 89, 3), (183, .aload_n 0, 1), (184, .iload_n 1, 1), (185, .iload_n 3, 1), (186, .lload 5, 2), (188, .lload 8, 2), (190, .lxor, 1), (191, .invokevirtual 338, 3), (194, .goto 75, 3), (197, .aload_n 0, 1), (198, .iload_n 1, 1), (199, .iload_n 3, 1), (200, .lload 5, 2), (202, .lload 8, 2), (204, .land, 1), (205, .invokevirtual 338, 3), (208, .goto 61, 3), (211, .aload_n 0, 1), (212, .iload_n 1, 1), (213, .iload 4, 2), (215, .lload 5, 2), (217, .invokevirtual 167, 3), (220, .goto 49, 3), (223, .aload_n 0, 1), (224, .iload_n 1, 1), (225, .iload 4, 2), (227, .lload 8, 2), (229, .lload 5, 2), (231, .ladd, 1), (232, .invokestatic 128, 3), (235, .invokevirtual 167, 3), (238, .goto 31, 3), (241, .aload_n 0, 1), (242, .iload_n 1, 1), (243, .iload_n 3, 1), (244, .lload 8, 2), (246, .lload 5, 2), (248, .lsub, 1), (249, .invokevirtual 338, 3), (252, .goto 17, 3), (255, .aload_n 0, 1), (256, .getfield 32, 3), (259, .iload_n 1, 1), (260, .lload 5, 2), (262, .lload 8, 2), (264, .lsub, 1), (265, .invokestatic 341, 3), (268, .iastore, 1), (269, .return_, 1)]
def iL162 : List (Nat × Instr × Nat) := [(0, .iload_n 0, 1), (1, .ifCond .ne 17, 3), (4, .lload_n 1, 1), (5, .lconst 0, 1), (6, .lcmp, 1), (7, .ifCond .ne 7, 3), (10, .iconst 1, 1), (11, .goto 56, 3), (14, .iconst 0, 1), (15, .goto 52, 3), (18, .iload_n 0, 1), (19, .iconst 1, 1), (20, .if_icmp .ne 17, 3), (23, .lload_n 1, 1), (24, .lconst 0, 1), (25, .lcmp, 1), (26, .ifCond .eq 7, 3), (29, .iconst 1, 1), (30, .goto 37, 3), (33, .iconst 0, 1), (34, .goto 33, 3), (37, .iload_n 0, 1), (38, .iconst 2, 1), (39, .if_icmp .ne 17, 3), (42, .lload_n 1, 1), (43, .lconst 0, 1), (44, .lcmp, 1), (45, .ifCond .lt 7, 3), (48, .iconst 1, 1), (49, .goto 18, 3), (52, .iconst 0, 1), (53, .goto 14, 3), (56, .lload_n 1, 1), (57, .lconst 0, 1), (58, .lcmp, 1), (59, .ifCond .ge 7, 3), (62, .iconst 1, 1), (63, .goto 4, 3), (66, .iconst 0, 1), (67, .ireturn, 1)]
def iL163 : List (Nat × Instr × Nat) := [(0, .iload_n 2, 1), (1, .iconst 3, 1), (2, .iand, 1), (3, .istore 7, 2), (5, .iload_n 2, 1), (6, .sipush 128, 3), (9, .if_icmp .eq 10, 3), (12, .iload_n 2, 1), (13, .sipush 131, 3), (16, .if_icmp .ne 57, 3), (19, .aload_n 0, 1), (20, .iload_n 1, 1), (21, .iload 4, 2), (23, .invokevirtual 296, 3), (26, .istore 8, 2), (28, .iload 8, 2), (30, .ifCond .ne 4, 3), (33, .return_, 1), (34, .aload_n 0, 1), (35, .iload_n 1, 1), (36, .iload 4, 2), (38, .iload_n 2, 1), (39, .sipush 128, 3), (42, .if_icmp .ne 11, 3), (45, .iload 8, 2), (47, .i2l, 1), (48, .lconst 1, 1), (49, .ladd, 1), (50, .goto 8, 3), (53, .iload 8, 2), (55, .i2l, 1), (56, .lconst 1, 1), (57, .lsub, 1), (58, .invokevirtual 338, 3), (61, .aload_n 0, 1), (62, .iload_n 1, 1), (63, .iload_n 3, 1), (64, .iload 5, 2), (66, .i2l, 1), (67, .invokevirtual 338, 3), (70, .goto 78, 3), (73, .iload_n 2, 1), (74, .sipush 144, 3), (77, .if_icmp .ge 31, 3), (80, .iload 7, 2), (82, .aload_n 0, 1), (83, .iload_n 1, 1), (84, .iload 4, 2), (86, .invokevirtual 296, 3), (89, .i2l, 1), (90, .invokestatic 344, 3), (93, .ifCond .eq 55, 3), (96, .aload_n 0, 1), (97, .iload_n 1, 1), (98, .iload_n 3, 1), (99, .iload 5, 2), (101, .i2l, 1), (102, .invokevirtual 338, 3), (105, .goto 43, 3), (108, .iload 7, 2), (110, .iload_n 2, 1), (111, .sipush 152, 3), (114, .if_icmp .ge 13, 3), (117, .aload_n 0, 1), (118, .getfield 32, 3), (121, .iload_n 1, 1), (122, .iaload, 1), (123, .i2l, 1), (124, .goto 9, 3), (127, .aload_n 0, 1), (128, .getfield 50, 3), (131, .iload_n 1, 1), (132, .laload, 1), (133, .invokestatic 344, 3), (136, .ifCond .eq 12, 3), (139, .aload_n 0, 1), (140, .iload_n 1, 1), (141, .iload_n 3, 1), (142, .iload 6, 2), (144, .i2l, 1), (145, .invokevirtual 338, 3), (148, .return_, 1)]
def iL164 : List (Nat × Instr × Nat) := [(0, .iload_n 2, 1), (1, .invokestatic 277, 3), (4, .ifCond .eq 12, 3), (7, .aload_n 0, 1), (8, .iload_n 1, 1), (9, .iload_n 3, 1), (10, .invokevirtual 303, 3), (13, .goto 4, 3), (16, .lconst 0, 1), (17, .lstore 4, 2), (19, .aload_n 0, 1), (20, .getfield 50, 3), (23, .iload_n 1, 1), (24, .laload, 1), (25, .lstore 6, 2), (27, .iload_n 2, 1), (28, .lookupswitch 193 #[(208, 92), (209, 102), (210, 112), (212, 122), (213, 129), (230, 137), (238, 151), (242, 162), (244, 182), (252, 172)], 92), (120, .lload 6, 2), (122, .lload 4, 2), (124, .ladd, 1), (125, .lstore 6, 2), (127, .goto 100, 3), (130, .lload 6, 2), (132, .lload 4, 2), (134, .lsub, 1), (135, .lstore 6, 2), (137, .goto 90, 3), (140, .lload 4, 2), (142, .lload 6, 2), (144, .lsub, 1), (145, .lstore 6, 2), (147, .goto 80, 3), (150, .lload 4, 2), (152, .lstore 6, 2), (154, .goto 73, 3), (157, .lload 4, 2), (159, .lneg, 1), (160, .lstore 6, 2), (162, .goto 65, 3), (165, .aload_n 0, 1), (166, .iload_n 1, 1), (167, .iload_n 3, 1), (168, .lload 6, 2), (170, .invokevirtual 167, 3), (173, .lconst 0, 1), (174, .lstore 6, 2), (176, .goto 51, 3), (179, .aload_n 0, 1), (180, .iload_n 1, 1), (181, .iload_n 3, 1), (182, .lload 6, 2), (184, .invokevirtual 167, 3), (187, .goto 40, 3), (190, .lload 6, 2), (192, .lload 4, 2), (194, .lmul, 1), (195, .lstore 6, 2), (197, .goto 30, 3), (200, .lload 6, 2), (202, .lload 4, 2), (204, .ldiv, 1), (205, .lstore 6, 2), (207, .goto 20, 3), (210, .lload 6, 2), (212, .ldc2_w 348, 3), (215, .lmul, 1), (216, .lstore 6, 2), (218, .goto 9, 3), (221, .lload 6, 2), (223, .iconst 3, 1), (224, .lshr, 1), (225, .lstore 6, 2), (227, .aload_n 0, 1), (228, .getfield 50, 3), (231, .iload_n 1, 1), (232, .lload 6, 2), (234, .invokestatic 128, 3), (237, .lastore, 1), (238, .return_, 1)]
def iL165 : List (Nat × Instr × Nat) := [(0, .iload_n 2, 1), (1, .lookupswitch 239 #[(552, 51), (566, 128), (580, 164), (591, 212), (593, 223)], 51), (52, .aload_n 0, 1), (53, .getfield 50, 3), (56, .iload_n 1, 1), (57, .aload_n 0, 1), (58, .getfield 53, 3), (61, .sipush 500, 3), (64, .iload_n 1, 1), (65, .imul, 1), (66, .laload, 1), (67, .lastore, 1), (68, .aload_n 0, 1), (69, .getfield 38, 3), (72, .iload_n 1, 1), (73, .dup2, 1), (74, .iaload, 1), (75, .iconst 1, 1), (76, .isub, 1), (77, .iastore, 1), (78, .iconst 0, 1), (79, .istore 5, 2), (81, .iload 5, 2), (83, .aload_n 0, 1), (84, .getfield 38, 3), (87, .iload_n 1, 1), (88, .iaload, 1), (89, .if_icmp .ge 37, 3), (92, .aload_n 0, 1), (93, .getfield 53, 3), (96, .sipush 500, 3), (99, .iload_n 1, 1), (100, .imul, 1), (101, .iload 5, 2), (103, .iadd, 1), (104, .aload_n 0, 1), (105, .getfield 53, 3), (108, .sipush 500, 3), (111, .iload_n 1, 1), (112, .imul, 1), (113, .iload 5, 2), (115, .iadd, 1), (116, .iconst 1, 1), (117, .iadd, 1), (118, .laload, 1), (119, .lastore, 1), (120, .iinc 5 1, 3), (123, .goto (-42), 3), (126, .goto 174, 3), (129, .aload_n 0, 1), (130, .getfield 56, 3), (133, .sipush 200, 3), (136, .iload_n 1, 1), (137, .imul, 1), (138, .aload_n 0, 1), (139, .getfield 41, 3), (142, .iload_n 1, 1), (143, .iaload, 1), (144, .iadd, 1), (145, .aload_n 0, 1), (146, .getfield 50, 3), (149, .iload_n 1, 1), (150, .laload, 1), (151, .lastore, 1), (152, .aload_n 0, 1), (153, .getfield 41, 3), (156, .iload_n 1, 1), (157, .dup2, 1), (158, .iaload, 1), (159, .iconst 1, 1), (160, .iadd, 1), (161, .iastore, 1), (162, .goto 138, 3), (165, .iconst 0, 1), (166, .istore 5, 2), (168, .iconst 0, 1), (169, .istore 6, 2), (171, .iload 6, 2), (173, .bipush 48, 2), (175, .if_icmp .ge 26, 3), (178, .iload 5, 2), (180, .aload_n 0, 1), (181, .getfield 50, 3), (184, .iload_n 1, 1), (185, .laload, 1), (186, .iload 6, 2), (188, .lshr, 1), (189, .lconst 1, 1), (190, .land, 1), (191, .l2i, 1), (192, .iadd, 1), (193, .istore 5, 2), (195, .iinc 6 1, 3), (198, .goto (-27), 3), (201, .aload_n 0, 1), (202, .iload_n 1, 1), (203, .iload_n 3, 1), (204, .iload 5, 2), (206, .i2l, 1), (207, .invokevirtual 338, 3), (210, .goto 90, 3), (213, .aload_n 0, 1), (214, .iload_n 1, 1), (215, .iconst 3, 1), (216, .iload 4, 2), (218, .invokevirtual 261, 3), (221, .goto 79, 3), (224, .aload_n 0, 1), (225, .iload_n 1, 1), (226, .iload_n 3, 1), (227, .aload_n 0, 1), (228, .getfield 20, 3), (231, .iload_n 1, 1), (232, .iaload, 1), (233, .i2l, 1), (234, .invokevirtual 338, 3), (237, .goto 63, 3), (240, .lconst 0, 1), (241, .lstore 6, 2), (243, .ldc2_w 350, 3), (246, .lstore 8, 2), (248, .lload 8, 2), (250, .lconst 0, 1), (251, .lcmp, 1), (252, .ifCond .le 40, 3), (255, .lload 6, 2), (257, .lload 8, 2), (259, .ladd, 1), (260, .lload 6, 2), (262, .lload 8, 2), (264, .ladd, 1), (265, .lmul, 1), (266, .aload_n 0, 1), (267, .getfield 50, 3), (270, .iload_n 1, 1), (271, .laload, 1), (272, .lcmp, 1), (273, .ifCond .gt 10, 3), (276, .lload 6, 2), (278, .lload 8, 2), (280, .ladd, 1), (281, .lstore 6, 2), (283, .lload 8, 2), (285, .iconst 1, 1), (286, .lshr, 1), (287, .lstore 8, 2), (289, .goto (-41), 3), (292, .aload_n 0, 1), (293, .getfield 50, 3), (296, .iload_n 1, 1), (297, .lload 6, 2), (299, .lastore, 1), (300, .return_, 1)]
def iL166 : List (Nat × Instr × Nat) := [(0, .iload_n 1, 1), (1, .i2l, 1), (2, .lconst 0, 1), (3, .ldc2_w 142, 3), (6, .invokestatic 144, 3), (9, .ifCond .ne 5, 3), (12, .iconst (-1), 1), (13, .ireturn, 1), (14, .iload_n 2, 1), (15, .tableswitch 124 0 8 #[49, 56, 63, 70, 77, 96, 103, 110, 117], 49), (64, .aload_n 0, 1), (65, .getfield 13, 3), (68, .iload_n 1, 1), (69, .iaload, 1), (70, .ireturn, 1), (71, .aload_n 0, 1), (72, .getfield 17, 3), (75, .iload_n 1, 1), (76, .iaload, 1), (77, .ireturn, 1), (78, .aload_n 0, 1), (79, .getfield 20, 3), (82, .iload_n 1, 1), (83, .iaload, 1), (84, .ireturn, 1), (85, .aload_n 0, 1), (86, .getfield 23, 3), (89, .iload_n 1, 1), (90, .iaload, 1), (91, .ireturn, 1), (92, .aload_n 0, 1), (93, .iload_n 1, 1), (94, .invokevirtual 138, 3), (97, .ifCond .eq 7, 3), (100, .iconst 0, 1), (101, .goto 9, 3), (104, .aload_n 0, 1), (105, .getfield 72, 3), (108, .iload_n 1, 1), (109, .iaload, 1), (110, .ireturn, 1), (111, .aload_n 0, 1), (112, .getfield 38, 3), (115, .iload_n 1, 1), (116, .iaload, 1), (117, .ireturn, 1), (118, .aload_n 0, 1), (119, .getfield 41, 3), (122, .iload_n 1, 1), (123, .iaload, 1), (124, .ireturn, 1), (125, .aload_n 0, 1), (126, .getfield 32, 3), (129, .iload_n 1, 1), (130, .iaload, 1), (131, .ireturn, 1), (132, .aload_n 0, 1), (133, .getfield 35, 3), (136, .iload_n 1, 1), (137, .iaload, 1), (138, .ireturn, 1), (139, .iconst (-1), 1), (140, .ireturn, 1)]
def iL167 : List (Nat × Instr × Nat) := [(0, .iload_n 1, 1), (1, .i2l, 1), (2, .lconst 0, 1), (3, .ldc2_w 142, 3), (6, .invokestatic 144, 3), (9, .ifCond .eq 24, 3), (12, .iload_n 2, 1), (13, .i2l, 1), (14, .lconst 0, 1), (15, .ldc2_w 309, 3), (18, .invokestatic 144, 3), (21, .ifCond .eq 12, 3), (24, .aload_n 0, 1), (25, .iload_n 1, 1), (26, .iload_n 2, 1), (27, .invokevirtual 296, 3), (30, .goto 4, 3), (33, .iconst 0, 1), (34, .ireturn, 1)]
def iL168 : List (Nat × Instr × Nat) := [(0, .iload_n 1, 1), (1, .i2l, 1), (2, .lconst 0, 1), (3, .ldc2_w 142, 3), (6, .invokestatic 144, 3), (9, .ifCond .eq 12, 3), (12, .aload_n 0, 1), (13, .getfield 50, 3), (16, .iload_n 1, 1), (17, .laload, 1), (18, .goto 4, 3), (21, .lconst 0, 1), (22, .lreturn, 1)]
def iL169 : List (Nat × Instr × Nat) := [(0, .iload_n 1, 1), (1, .i2l, 1), (2, .lconst 0, 1), (3, .ldc2_w 142, 3), (6, .invokestatic 144, 3), (9, .ifCond .eq 32, 3), (12, .iload_n 2, 1), (13, .i2l, 1), (14, .lconst 0, 1), (15, .ldc2_w 148, 3), (18, .invokestatic 144, 3), (21, .ifCond .eq 20, 3), (24, .aload_n 0, 1), (25, .iload_n 1, 1), (26, .invokevirtual 138, 3), (29, .ifCond .ne 12, 3), (32, .aload_n 0, 1), (33, .iload_n 1, 1), (34, .iload_n 2, 1), (35, .invokevirtual 303, 3), (38, .goto 4, 3), (41, .lconst 0, 1), (42, .lreturn, 1)]
def iL170 : List (Nat × Instr × Nat) := [(0, .iload_n 1, 1), (1, .i2l, 1), (2, .lconst 0, 1), (3, .ldc2_w 142, 3), (6, .invokestatic 144, 3), (9, .ifCond .eq 36, 3), (12, .iload_n 2, 1), (13, .i2l, 1), (14, .lconst 0, 1), (15, .aload_n 0, 1), (16, .getfield 41, 3), (19, .iload_n 1, 1), (20, .iaload, 1), (21, .iconst 1, 1), (22, .isub, 1), (23, .i2l, 1), (24, .invokestatic 144, 3), (27, .ifCond .eq 18, 3), (30, .aload_n 0, 1), (31, .getfield 56, 3), (34, .sipush 200, 3), (37, .iload_n 1, 1), (38, .imul, 1), (39, .iload_n 2, 1), (40, .iadd, 1), (41, .laload, 1), (42, .goto 4, 3), (45, .lconst 0, 1), (46, .lreturn, 1)]
def iL171 : List (Nat × Instr × Nat) := [(0, .iload_n 1, 1), (1, .i2l, 1), (2, .lconst 0, 1), (3, .aload_n 0, 1), (4, .getfield 118, 3), (7, .iconst 1, 1), (8, .isub, 1), (9, .i2l, 1), (10, .invokestatic 144, 3), (13, .ifCond .ne 5, 3), (16, .iconst (-1), 1), (17, .ireturn, 1), (18, .iload_n 2, 1), (19, .ifCond .ne 10, 3), (22, .aload_n 0, 1), (23, .getfield 75, 3), (26, .iload_n 1, 1), (27, .iaload, 1), (28, .ireturn, 1), (29, .aload_n 0, 1), (30, .getfield 75, 3), (33, .iload_n 1, 1), (34, .iaload, 1), (35, .ifCond .ne 5, 3), (38, .iconst (-1), 1), (39, .ireturn, 1), (40, .iload_n 2, 1), (41, .tableswitch 81 1 6 #[39, 46, 53, 60, 67, 74], 39), (80, .aload_n 0, 1), (81, .getfield 78, 3), (84, .iload_n 1, 1), (85, .iaload, 1), (86, .ireturn, 1), (87, .aload_n 0, 1), (88, .getfield 81, 3), (91, .iload_n 1, 1), (92, .iaload, 1), (93, .ireturn, 1), (94, .aload_n 0, 1), (95, .getfield 84, 3), (98, .iload_n 1, 1), (99, .iaload, 1), (100, .ireturn, 1), (101, .aload_n 0, 1), (102, .getfield 87, 3), (105, .iload_n 1, 1), (106, .iaload, 1), (107, .ireturn, 1), (108, .aload_n 0, 1), (109, .getfield 90, 3), (112, .iload_n 1, 1), (113, .iaload, 1), (114, .ireturn, 1), (115, .aload_n 0, 1), (116, .getfield 93, 3), (119, .iload_n 1, 1), (120, .iaload, 1), (121, .ireturn, 1), (122, .iconst (-1), 1), (123, .ireturn, 1)]
def iL172 : List (Nat × Instr × Nat) := [(0, .iload_n 1, 1), (1, .i2l, 1), (2, .lconst 0, 1), (3, .ldc2_w 352, 3), (6, .invokestatic 144, 3), (9, .ifCond .eq 13, 3), (12, .aload_n 0, 1), (13, .getfield 96, 3), (16, .iload_n 1, 1), (17, .iaload, 1), (18, .iconst (-1), 1), (19, .if_icmp .ne 7, 3), (22, .iconst (-1), 1), (23, .goto 31, 3), (26, .iload_n 2, 1), (27, .ifCond .ne 12, 3), (30, .aload_n 0, 1), (31, .getfield 96, 3), (34, .iload_n 1, 1), (35, .iaload, 1), (36, .goto 18, 3), (39, .iload_n 2, 1), (40, .iconst 1, 1), (41, .if_icmp .ne 12, 3), (44, .aload_n 0, 1), (45, .getfield 99, 3), (48, .iload_n 1, 1), (49, .iaload, 1), (50, .goto 4, 3), (53, .iconst (-1), 1), (54, .ireturn, 1)]
def iL173 : List (Nat × Instr × Nat) := [(0, .iload_n 1, 1), (1, .tableswitch 119 0 6 #[43, 48, 64, 80, 104, 109, 114], 43), (44, .aload_n 0, 1), (45, .getfield 102, 3), (48, .ireturn, 1), (49, .aload_n 0, 1), (50, .getfield 102, 3), (53, .ifCond .ge 7, 3), (56, .iconst (-1), 1), (57, .goto 7, 3), (60, .aload_n 0, 1), (61, .getfield 135, 3), (64, .ireturn, 1), (65, .aload_n 0, 1), (66, .getfield 102, 3), (69, .ifCond .ge 7, 3), (72, .iconst (-1), 1), (73, .goto 7, 3), (76, .aload_n 0, 1), (77, .getfield 209, 3), (80, .ireturn, 1), (81, .aload_n 0, 1), (82, .getfield 102, 3), (85, .ifCond .ge 7, 3), (88, .iconst (-1), 1), (89, .goto 15, 3), (92, .bipush 32, 2), (94, .aload_n 0, 1), (95, .getfield 184, 3), (98, .aload_n 0, 1), (99, .getfield 227, 3), (102, .isub, 1), (103, .isub, 1), (104, .ireturn, 1), (105, .aload_n 0, 1), (106, .getfield 221, 3), (109, .ireturn, 1), (110, .aload_n 0, 1), (111, .getfield 215, 3), (114, .ireturn, 1), (115, .aload_n 0, 1), (116, .getfield 212, 3), (119, .ireturn, 1), (120, .iconst (-1), 1), (121, .ireturn, 1)]
def iL174 : List (Nat × Instr × Nat) := [(0, .iload_n 1, 1), (1, .i2l, 1), (2, .lconst 0, 1), (3, .aload_n 0, 1), (4, .getfield 221, 3), (7, .iconst 1, 1), (8, .isub, 1), (9, .i2l, 1), (10, .invokestatic 144, 3), (13, .ifCond .eq 12, 3), (16, .aload_n 0, 1), (17, .getfield 106, 3), (20, .iload_n 1, 1), (21, .iaload, 1), (22, .goto 4, 3), (25, .iconst (-1), 1), (26, .ireturn, 1)]
def iL175 : List (Nat × Instr × Nat) := [(0, .iload_n 1, 1), (1, .i2l, 1), (2, .lconst 0, 1), (3, .ldc2_w 352, 3), (6, .invokestatic 144, 3), (9, .ifCond .eq 30, 3), (12, .iload_n 1, 1), (13, .aload_n 0, 1), (14, .getfield 249, 3), (17, .if_icmp .ge 22, 3), (20, .aload_n 0, 1), (21, .getfield 112, 3), (24, .aload_n 0, 1), (25, .getfield 249, 3), (28, .iconst 1, 1), (29, .isub, 1), (30, .iload_n 1, 1), (31, .isub, 1), (32, .bipush 64, 2), (34, .irem, 1), (35, .iaload, 1), (36, .goto 4, 3), (39, .iconst (-1), 1), (40, .ireturn, 1)]
def iL176 : List (Nat × Instr × Nat) := [(0, .iload_n 1, 1), (1, .i2l, 1), (2, .lconst 0, 1), (3, .ldc2_w 354, 3), (6, .invokestatic 144, 3), (9, .ifCond .eq 31, 3), (12, .iload_n 1, 1), (13, .aload_n 0, 1), (14, .getfield 258, 3), (17, .if_icmp .ge 23, 3), (20, .aload_n 0, 1), (21, .getfield 115, 3), (24, .aload_n 0, 1), (25, .getfield 258, 3), (28, .iconst 1, 1), (29, .isub, 1), (30, .iload_n 1, 1), (31, .isub, 1), (32, .sipush 400, 3), (35, .irem, 1), (36, .laload, 1), (37, .goto 4, 3), (40, .lconst 0, 1), (41, .lreturn, 1)]
def iL177 : List (Nat × Instr × Nat) := [(0, .iload_n 1, 1), (1, .tableswitch 69 0 5 #[39, 44, 49, 54, 59, 64], 39), (40, .aload_n 0, 1), (41, .getfield 184, 3), (44, .ireturn, 1), (45, .aload_n 0, 1), (46, .getfield 200, 3), (49, .ireturn, 1), (50, .aload_n 0, 1), (51, .getfield 193, 3), (54, .ireturn, 1), (55, .aload_n 0, 1), (56, .getfield 249, 3), (59, .ireturn, 1), (60, .aload_n 0, 1), (61, .getfield 258, 3), (64, .ireturn, 1), (65, .aload_n 0, 1), (66, .getfield 252, 3), (69, .ireturn, 1), (70, .iconst (-1), 1), (71, .ireturn, 1)]
def iL178 : List (Nat × Instr × Nat) := [(0, .iload_n 1, 1), (1, .i2l, 1), (2, .lconst 0, 1), (3, .ldc2_w 142, 3), (6, .invokestatic 144, 3), (9, .ifCond .eq 26, 3), (12, .aload_n 0, 1), (13, .iload_n 1, 1), (14, .invokevirtual 138, 3), (17, .ifCond .eq 18, 3), (20, .aload_n 0, 1), (21, .getfield 44, 3), (24, .iload_n 1, 1), (25, .iaload, 1), (26, .aload_n 0, 1), (27, .getfield 41, 3), (30, .iload_n 1, 1), (31, .iaload, 1), (32, .if_icmp .eq 5, 3), (35, .iconst 0, 1), (36, .ireturn, 1), (37, .iconst 0, 1), (38, .istore_n 2, 1), (39, .iconst 0, 1), (40, .istore_n 3, 1), (41, .iload_n 3, 1), (42, .aload_n 0, 1), (43, .getfield 255, 3), (46, .if_icmp .ge 37, 3), (49, .aload_n 0, 1), (50, .getfield 59, 3), (53, .iload_n 3, 1), (54, .iaload, 1), (55, .iload_n 1, 1), (56, .if_icmp .ne 6, 3), (59, .goto 18, 3), (62, .aload_n 0, 1), (63, .getfield 59, 3), (66, .iload_n 2, 1), (67, .aload_n 0, 1), (68, .getfield 59, 3), (71, .iload_n 3, 1), (72, .iaload, 1), (73, .iastore, 1), (74, .iinc 2 1, 3), (77, .iinc 3 1, 3), (80, .goto (-39), 3), (83, .aload_n 0, 1), (84, .iload_n 2, 1), (85, .putfield 255, 3), (88, .aload_n 0, 1), (89, .iload_n 1, 1), (90, .invokevirtual 121, 3), (93, .iconst 1, 1), (94, .ireturn, 1)]
def iL179 : List (Nat × Instr × Nat) := [(0, .lload_n 0, 1), (1, .lload_n 0, 1), (2, .iconst 1, 1), (3, .lushr, 1), (4, .ldc2_w 314, 3), (7, .land, 1), (8, .lsub, 1), (9, .lstore_n 0, 1), (10, .lload_n 0, 1), (11, .ldc2_w 316, 3), (14, .land, 1), (15, .lload_n 0, 1), (16, .iconst 2, 1), (17, .lushr, 1), (18, .ldc2_w 316, 3), (21, .land, 1), (22, .ladd, 1), (23, .lstore_n 0, 1), (24, .lload_n 0, 1), (25, .lload_n 0, 1), (26, .iconst 4, 1), (27, .lushr, 1), (28, .ladd, 1), (29, .ldc2_w 318, 3), (32, .land, 1), (33, .lstore_n 0, 1), (34, .lload_n 0, 1), (35, .lload_n 0, 1), (36, .bipush 8, 2), (38, .lushr, 1), (39, .ladd, 1), (40, .lstore_n 0, 1), (41, .lload_n 0, 1), (42, .lload_n 0, 1), (43, .bipush 16, 2), (45, .lushr, 1), (46, .ladd, 1), (47, .lstore_n 0, 1), (48, .lload_n 0, 1), (49, .lload_n 0, 1), (50, .bipush 32, 2), (52, .lushr, 1), (53, .ladd, 1), (54, .lstore_n 0, 1), (55, .lload_n 0, 1), (56, .l2i, 1), (57, .bipush 127, 2), (59, .iand, 1), (60, .ireturn, 1)]
def iL180 : List (Nat × Instr × Nat) := [(0, .iload_n 0, 1), (1, .iload_n 1, 1), (2, .if_icmp .lt 7, 3), (5, .iload_n 0, 1), (6, .goto 4, 3), (9, .iload_n 1, 1), (10, .ireturn, 1)]
def iL181 : List (Nat × Instr × Nat) := [(0, .iload_n 0, 1), (1, .iload_n 1, 1), (2, .if_icmp .gt 7, 3), (5, .iload_n 0, 1), (6, .goto 4, 3), (9, .iload_n 1, 1), (10, .ireturn, 1)]
def iL182 : List (Nat × Instr × Nat) := [(0, .iconst 0, 1), (1, .istore_n 3, 1), (2, .aload_n 0, 1), (3, .arraylength, 1), (4, .istore 4, 2), (6, .iload_n 3, 1), (7, .iload 4, 2), (9, .if_icmp .ge 13, 3), (12, .aload_n 0, 1), (13, .iload_n 3, 1), (14, .lload_n 1, 1), (15, .lastore, 1), (16, .iinc 3 1, 3), (19, .goto (-13), 3), (22, .return_, 1)]
def iL183 : List (Nat × Instr × Nat) := [(0, .iconst 0, 1), (1, .istore_n 2, 1), (2, .aload_n 0, 1), (3, .arraylength, 1), (4, .istore_n 3, 1), (5, .iload_n 2, 1), (6, .iload_n 3, 1), (7, .if_icmp .ge 13, 3), (10, .aload_n 0, 1), (11, .iload_n 2, 1), (12, .iload_n 1, 1), (13, .iastore, 1), (14, .iinc 2 1, 3), (17, .goto (-12), 3), (20, .return_, 1)]
def iT : List (List (Nat × Instr × Nat)) := [iL0, iL1, iL2, iL3, iL4, iL5, iL6, iL7, iL8, iL9, iL10, iL11, iL12, iL13, iL14, iL15, iL16, iL17, iL18, iL19, iL20, iL21, iL22, iL23, iL24, iL25, iL26, iL27, iL28, iL29, iL30, iL31, iL32, iL33, iL34, iL35, iL36, iL37, iL38, iL39, iL40, iL41, iL42, iL43, iL44, iL45, iL46, iL47, iL48, iL49, iL50, iL51, iL52, iL53, iL54, iL55, iL56, iL57, iL58, iL59, iL60, iL61, iL62, iL63, iL64, iL65, iL66, iL67, iL68, iL69, iL70, iL71, iL72, iL73, iL74, iL75, iL76, iL77, iL78, iL79, iL80, iL81, iL82, iL83, iL84, iL85, iL86, iL87, iL88, iL89, iL90, iL91, iL92, iL93, iL94, iL95, iL96, iL97, iL98, iL99, iL100, iL101, iL102, iL103, iL104, iL105, iL106, iL107, iL108, iL109, iL110, iL111, iL112, iL113, iL114, iL115, iL116, iL117, iL118, iL119, iL120, iL121, iL122, iL123, iL124, iL125, iL126, iL127, iL128, iL129, iL130, iL131, iL132, iL133, iL134, iL135, iL136, iL137, iL138, iL139, iL140, iL141, iL142, iL143, iL144, iL145, iL146, iL147, iL148, iL149, iL150, iL151, iL152, iL153, iL154, iL155, iL156, iL157, iL158, iL159, iL160, iL161, iL162, iL163, iL164, iL165, iL166, iL167, iL168, iL169, iL170, iL171, iL172, iL173, iL174, iL175, iL176, iL177, iL178, iL179, iL180, iL181, iL182, iL183]
def mt0 : List (MethodName × ByteArray × Nat × Option FieldType × Nat × Nat × Nat) := [(yX0_init, cX0_init, 3, none, 0, 2, 41), (yX0_frameOf, cX0_frameOf, 2, (some ((FieldType.object "OneLevelStore$Frame"))), 0, 0, 0), (yX0_lowest, cX0_lowest, 3, (some ((FieldType.object "OneLevelStore$Frame"))), 0, 0, 0), (yX0_holding, cX0_holding, 5, (some ((FieldType.object "OneLevelStore$Frame"))), 0, 0, 0), (yX0_choose, cX0_choose, 2, (some ((FieldType.object "OneLevelStore$Frame"))), 0, 3, 65), (yX0_best, cX0_best, 5, (some ((FieldType.object "OneLevelStore$Frame"))), 0, 2, 41), (yX0_look, cX0_look, 2, none, 0, 1, 20), (yX0_clear, cX0_clear, 5, none, 0, 1, 20), (yX1_init, cX1_init, 2, none, 1, 2, 41), (yX1_placeOf, cX1_placeOf, 2, (some ((FieldType.object "OneLevelStore$Place"))), 1, 0, 0), (yX1_queuedFrame, cX1_queuedFrame, 2, (some ((FieldType.object "OneLevelStore$Frame"))), 1, 0, 0), (yX1_countFree, cX1_countFree, 3, (some (FieldType.int)), 1, 0, 0), (yX1_lowestFree, cX1_lowestFree, 2, (some ((FieldType.object "OneLevelStore$Place"))), 1, 0, 0), (yX1_enqueue, cX1_enqueue, 2, none, 1, 0, 0), (yX1_endTransfer, cX1_endTransfer, 4, none, 1, 2, 41), (yX1_leave, cX1_leave, 2, none, 1, 1, 20), (yX1_beginTransfer, cX1_beginTransfer, 7, none, 1, 2, 43), (yX1_placeFor, cX1_placeFor, 5, (some ((FieldType.object "OneLevelStore$Place"))), 1, 0, 0), (yX1_removeAt, cX1_removeAt, 3, none, 1, 1, 21), (yX1_dropQueued, cX1_dropQueued, 5, none, 1, 0, 0), (yX1_clear, cX1_clear, 3, none, 1, 0, 0), (yX1_tell, cX1_tell, 3, (some (FieldType.int)), 1, 0, 0), (yX2_init, cX2_init, 2, none, 2, 1, 20), (yX2_take, cX2_take, 3, none, 2, 0, 0), (yX2_empty, cX2_empty, 1, none, 2, 0, 0), (yX2_touch, cX2_touch, 1, none, 2, 0, 0), (yX2_look, cX2_look, 1, none, 2, 0, 0), (yX2_tell, cX2_tell, 2, (some (FieldType.int)), 2, 0, 0), (yX2_part, cX2_part, 1, (some (FieldType.int)), 2, 0, 0), (yX2_goesBefore, cX2_goesBefore, 2, (some (FieldType.boolean)), 2, 1, 20), (yX3_init, cX3_init, 2, none, 3, 2, 42), (yX3_reset, cX3_reset, 1, none, 3, 1, 23), (yX3_begin, cX3_begin, 4, none, 3, 2, 44), (yX3_await, cX3_await, 2, none, 3, 0, 0), (yX3_wake, cX3_wake, 1, none, 3, 0, 0), (yX3_isOver, cX3_isOver, 1, (some (FieldType.boolean)), 3, 0, 0), (yX3_isPrinted, cX3_isPrinted, 1, (some (FieldType.boolean)), 3, 1, 20), (yX3_reserved, cX3_reserved, 1, (some (FieldType.int)), 3, 1, 20), (yX3_getB, cX3_getB, 2, (some (FieldType.int)), 3, 0, 0), (yX3_putB, cX3_putB, 4, none, 3, 1, 21), (yX3_tell, cX3_tell, 2, (some (FieldType.int)), 3, 1, 20), (yX4_init, cX4_init, 1, none, 4, 1, 20), (yX4_hold, cX4_hold, 3, none, 4, 1, 24), (yX4_release, cX4_release, 1, none, 4, 0, 0), (yX4_isInUse, cX4_isInUse, 1, (some (FieldType.boolean)), 4, 0, 0), (yX4_wordAt, cX4_wordAt, 2, (some (FieldType.long)), 4, 0, 0)]
def mt1 : List (MethodName × ByteArray × Nat × Option FieldType × Nat × Nat × Nat) := [(yX4_putWord, cX4_putWord, 4, none, 4, 0, 0), (yX5_init, cX5_init, 2, none, 5, 2, 40), (yX5_find, cX5_find, 4, (some ((FieldType.object "OneLevelStore$Page"))), 5, 0, 0), (yX5_hold, cX5_hold, 4, (some ((FieldType.object "OneLevelStore$Page"))), 5, 2, 46), (yX5_release, cX5_release, 3, none, 5, 1, 20), (yX6_init, cX6_init, 2, none, 6, 1, 20), (yX6_take, cX6_take, 2, none, 6, 0, 0), (yX7_init, cX7_init, 1, none, 7, 2, 42), (yX7_add, cX7_add, 2, none, 7, 0, 0), (yX7_drop, cX7_drop, 4, none, 7, 0, 0), (yX7_printNext, cX7_printNext, 3, none, 7, 3, 67), (yX8_init, cX8_init, 3, none, 8, 1, 20), (yX8_step, cX8_step, 5, (some (FieldType.int)), 8, 6, 134), (yX8_decode, cX8_decode, 3, none, 8, 1, 21), (yX8_missing, cX8_missing, 3, (some (FieldType.int)), 8, 3, 69), (yX8_perform, cX8_perform, 1, (some (FieldType.int)), 8, 5, 114), (yX8_hasOperand, cX8_hasOperand, 1, (some (FieldType.boolean)), 8, 0, 0), (yX8_effective, cX8_effective, 3, (some (FieldType.int)), 8, 1, 21), (yX8_withOperand, cX8_withOperand, 4, (some (FieldType.int)), 8, 4, 91), (yX8_registerWithWord, cX8_registerWithWord, 7, (some (FieldType.int)), 8, 2, 44), (yX8_accumulatorWithWord, cX8_accumulatorWithWord, 7, (some (FieldType.int)), 8, 1, 23), (yX8_registerOrder, cX8_registerOrder, 5, (some (FieldType.int)), 8, 2, 44), (yX8_jumpOrder, cX8_jumpOrder, 1, (some (FieldType.int)), 8, 3, 67), (yX8_count, cX8_count, 3, none, 8, 2, 44), (yX8_goWhen, cX8_goWhen, 4, none, 8, 2, 44), (yX8_holds, cX8_holds, 3, (some (FieldType.boolean)), 8, 0, 0), (yX8_shiftOrder, cX8_shiftOrder, 1, (some (FieldType.int)), 8, 1, 21), (yX8_extracode, cX8_extracode, 1, (some (FieldType.int)), 8, 2, 45), (yX8_signOf, cX8_signOf, 2, (some (FieldType.int)), 8, 0, 0), (yX8_rootOf, cX8_rootOf, 9, (some (FieldType.long)), 8, 0, 0), (yX9_init, cX9_init, 2, none, 9, 1, 21), (yX9_size, cX9_size, 1, (some (FieldType.int)), 9, 0, 0), (yX9_room, cX9_room, 1, (some (FieldType.int)), 9, 0, 0), (yX9_append, cX9_append, 4, (some (FieldType.boolean)), 9, 1, 22), (yX9_push, cX9_push, 3, none, 9, 2, 45), (yX9_takeFirst, cX9_takeFirst, 3, (some (FieldType.long)), 9, 1, 22), (yX9_at, cX9_at, 3, (some (FieldType.long)), 9, 1, 22), (yX9_fromEnd, cX9_fromEnd, 2, (some (FieldType.long)), 9, 2, 44), (yX9_clear, cX9_clear, 1, none, 9, 0, 0), (yX9_cellOf, cX9_cellOf, 3, (some (FieldType.int)), 9, 0, 0), (yX10_init, cX10_init, 3, none, 10, 3, 63), (yX10_key, cX10_key, 3, (some (FieldType.int)), 10, 2, 45), (yX10_load, cX10_load, 9, (some (FieldType.int)), 10, 4, 93), (yX10_tape, cX10_tape, 5, (some (FieldType.int)), 10, 2, 45), (yX10_start, cX10_start, 6, (some (FieldType.boolean)), 10, 3, 67), (yX10_run, cX10_run, 3, (some (FieldType.int)), 10, 8, 179)]
def mt2 : List (MethodName × ByteArray × Nat × Option FieldType × Nat × Nat × Nat) := [(yX10_job, cX10_job, 4, (some (FieldType.int)), 10, 2, 41), (yX10_register, cX10_register, 4, (some (FieldType.int)), 10, 1, 21), (yX10_accumulator, cX10_accumulator, 3, (some (FieldType.long)), 10, 1, 21), (yX10_word, cX10_word, 4, (some (FieldType.long)), 10, 1, 23), (yX10_paper, cX10_paper, 4, (some (FieldType.long)), 10, 2, 44), (yX10_frame, cX10_frame, 4, (some (FieldType.int)), 10, 1, 21), (yX10_place, cX10_place, 4, (some (FieldType.int)), 10, 1, 21), (yX10_drum, cX10_drum, 2, (some (FieldType.int)), 10, 1, 22), (yX10_queued, cX10_queued, 3, (some (FieldType.int)), 10, 1, 21), (yX10_chosen, cX10_chosen, 2, (some (FieldType.int)), 10, 3, 65), (yX10_printed, cX10_printed, 2, (some (FieldType.long)), 10, 3, 65), (yX10_clock, cX10_clock, 2, (some (FieldType.int)), 10, 0, 0), (yX10_forget, cX10_forget, 3, (some (FieldType.boolean)), 10, 2, 43), (yX10_jobOf, cX10_jobOf, 2, (some ((FieldType.object "OneLevelStore$Job"))), 10, 0, 0), (yX10_reservedBesides, cX10_reservedBesides, 4, (some (FieldType.int)), 10, 2, 40), (yX10_countNewBlocks, cX10_countNewBlocks, 6, (some (FieldType.int)), 10, 1, 23), (yX10_pageToLoad, cX10_pageToLoad, 5, (some ((FieldType.object "OneLevelStore$Page"))), 10, 3, 69), (yX10_tick, cX10_tick, 2, none, 10, 7, 158), (yX10_wakeJobs, cX10_wakeJobs, 3, none, 10, 1, 20), (yX10_findFrames, cX10_findFrames, 3, none, 10, 2, 45), (yX10_findFrame, cX10_findFrame, 4, none, 10, 1, 22), (yX10_keepFrameEmpty, cX10_keepFrameEmpty, 2, none, 10, 4, 86), (yX10_firstReady, cX10_firstReady, 2, (some ((FieldType.object "OneLevelStore$Job"))), 10, 0, 0), (yX10_settle, cX10_settle, 3, none, 10, 3, 66), (yX10_close, cX10_close, 3, none, 10, 2, 44), (yX10_isAddress, cX10_isAddress, 1, (some (FieldType.boolean)), 10, 0, 0), (yX10_cutToWord, cX10_cutToWord, 2, (some (FieldType.long)), 10, 0, 0), (yX10_cutToHalf, cX10_cutToHalf, 2, (some (FieldType.int)), 10, 0, 0), (yX11_init, cX11_init, 3, none, 11, 1, 22), (yX11_fresh, cX11_fresh, 3, none, 11, 0, 0), (yX11_in, cX11_in, 6, (some (FieldType.boolean)), 11, 0, 0), (yX11_whole, cX11_whole, 2, (some (FieldType.long)), 11, 0, 0), (yX11_half, cX11_half, 2, (some (FieldType.int)), 11, 0, 0), (yX11_key, cX11_key, 3, (some (FieldType.int)), 11, 1, 21), (yX11_isOver, cX11_isOver, 2, (some (FieldType.boolean)), 11, 0, 0), (yX11_slot, cX11_slot, 4, (some (FieldType.int)), 11, 0, 0), (yX11_newSlot, cX11_newSlot, 5, (some (FieldType.int)), 11, 0, 0), (yX11_frameOf, cX11_frameOf, 4, (some (FieldType.int)), 11, 0, 0), (yX11_placeOf, cX11_placeOf, 4, (some (FieldType.int)), 11, 0, 0), (yX11_freePlaces, cX11_freePlaces, 3, (some (FieldType.int)), 11, 0, 0), (yX11_blocksBut, cX11_blocksBut, 4, (some (FieldType.int)), 11, 1, 21), (yX11_load, cX11_load, 9, (some (FieldType.int)), 11, 2, 47), (yX11_put, cX11_put, 5, none, 11, 1, 23), (yX11_at, cX11_at, 4, (some (FieldType.long)), 11, 1, 23), (yX11_tape, cX11_tape, 3, (some (FieldType.int)), 11, 1, 25), (yX11_start, cX11_start, 5, (some (FieldType.boolean)), 11, 2, 44)]
def mt3 : List (MethodName × ByteArray × Nat × Option FieldType × Nat × Nat × Nat) := [(yX11_run, cX11_run, 3, (some (FieldType.int)), 11, 6, 148), (yX11_tick, cX11_tick, 3, none, 11, 5, 126), (yX11_drumTurns, cX11_drumTurns, 6, none, 11, 1, 23), (yX11_leaves, cX11_leaves, 3, none, 11, 0, 0), (yX11_comes, cX11_comes, 2, none, 11, 0, 0), (yX11_emptyFrame, cX11_emptyFrame, 2, (some (FieldType.int)), 11, 0, 0), (yX11_queues, cX11_queues, 3, none, 11, 0, 0), (yX11_bring, cX11_bring, 3, none, 11, 1, 26), (yX11_ready, cX11_ready, 2, none, 11, 0, 0), (yX11_choice, cX11_choice, 7, (some (FieldType.int)), 11, 0, 0), (yX11_look, cX11_look, 2, none, 11, 0, 0), (yX11_prints, cX11_prints, 3, none, 11, 0, 0), (yX11_fails, cX11_fails, 4, (some (FieldType.boolean)), 11, 2, 47), (yX11_ends, cX11_ends, 6, none, 11, 1, 22), (yX11_wants, cX11_wants, 6, (some (FieldType.int)), 11, 3, 70), (yX11_isStored, cX11_isStored, 1, (some (FieldType.boolean)), 11, 1, 25), (yX11_isKnown, cX11_isKnown, 1, (some (FieldType.boolean)), 11, 2, 45), (yX11_reg, cX11_reg, 3, (some (FieldType.int)), 11, 0, 0), (yX11_sets, cX11_sets, 5, none, 11, 1, 21), (yX11_works, cX11_works, 12, (some (FieldType.boolean)), 11, 4, 95), (yX11_touches, cX11_touches, 4, none, 11, 1, 23), (yX11_wrong, cX11_wrong, 4, (some (FieldType.int)), 11, 2, 46), (yX11_sign, cX11_sign, 2, (some (FieldType.int)), 11, 0, 0), (yX11_registers, cX11_registers, 10, none, 11, 2, 47), (yX11_is, cX11_is, 3, (some (FieldType.boolean)), 11, 0, 0), (yX11_jumps, cX11_jumps, 9, none, 11, 2, 45), (yX11_sums, cX11_sums, 8, none, 11, 2, 47), (yX11_extra, cX11_extra, 10, none, 11, 2, 47), (yX11_job, cX11_job, 3, (some (FieldType.int)), 11, 1, 25), (yX11_register, cX11_register, 3, (some (FieldType.int)), 11, 1, 25), (yX11_accumulator, cX11_accumulator, 2, (some (FieldType.long)), 11, 1, 25), (yX11_word, cX11_word, 3, (some (FieldType.long)), 11, 2, 46), (yX11_paper, cX11_paper, 3, (some (FieldType.long)), 11, 1, 25), (yX11_frame, cX11_frame, 3, (some (FieldType.int)), 11, 1, 25), (yX11_place, cX11_place, 3, (some (FieldType.int)), 11, 1, 25), (yX11_drum, cX11_drum, 2, (some (FieldType.int)), 11, 0, 0), (yX11_queued, cX11_queued, 2, (some (FieldType.int)), 11, 1, 25), (yX11_chosen, cX11_chosen, 2, (some (FieldType.int)), 11, 1, 25), (yX11_printed, cX11_printed, 2, (some (FieldType.long)), 11, 1, 25), (yX11_clock, cX11_clock, 2, (some (FieldType.int)), 11, 0, 0), (yX11_forget, cX11_forget, 4, (some (FieldType.boolean)), 11, 1, 25), (yJ13_bitCount_95d88, cJ13_bitCount_95d88, 2, (some (FieldType.int)), 12, 0, 0), (yJ9_max_7cf53, cJ9_max_7cf53, 2, (some (FieldType.int)), 13, 0, 0), (yJ9_min_7cf53, cJ9_min_7cf53, 2, (some (FieldType.int)), 13, 0, 0), (yJ7_fill_d0a16, cJ7_fill_d0a16, 5, none, 14, 0, 0), (yJ7_fill_53178, cJ7_fill_53178, 4, none, 14, 0, 0)]
def mt : List (MethodName × ByteArray × Nat × Option FieldType × Nat × Nat × Nat) := mt0 ++ (mt1 ++ (mt2 ++ (mt3)))
def oL : List String := ["OneLevelStore$Core", "OneLevelStore$Drum", "OneLevelStore$Frame", "OneLevelStore$Job", "OneLevelStore$Page", "OneLevelStore$Pages", "OneLevelStore$Place", "OneLevelStore$Printer", "OneLevelStore$Processor", "OneLevelStore$Row", "OneLevelStore", "OneLevelStoreModel", "java/lang/Long", "java/lang/Math", "java/util/Arrays"]
def mpL : List (Nat × Nat × Nat × Nat × Nat) := [(248, 247, 9999, 9999, 72), (857, 855, 9999, 856, 72), (624, 622, 9999, 623, 72), (675, 673, 9999, 674, 72), (637, 635, 9999, 636, 72), (641, 640, 9999, 12, 72), (808, 806, 9999, 807, 72), (787, 785, 9999, 786, 72), (160, 159, 9999, 9999, 69), (869, 867, 9999, 868, 69), (885, 883, 9999, 884, 69), (503, 501, 9999, 502, 69), (511, 509, 9999, 510, 69), (629, 627, 9999, 628, 69), (575, 573, 9999, 574, 69), (578, 9999, 577, 9999, 69), (590, 588, 9999, 589, 69), (594, 593, 9999, 6, 69), (599, 598, 9999, 7, 69), (783, 781, 9999, 782, 69), (792, 790, 9999, 791, 69), (877, 875, 9999, 876, 69), (255, 254, 9999, 9999, 73), (586, 584, 9999, 585, 73), (582, 580, 9999, 581, 73), (771, 769, 9999, 770, 73), (812, 810, 9999, 811, 73), (861, 859, 9999, 860, 73), (649, 647, 9999, 648, 73), (645, 643, 9999, 644, 73), (338, 337, 9999, 9999, 75), (915, 913, 9999, 914, 75), (556, 554, 9999, 555, 75), (685, 683, 9999, 684, 75), (612, 610, 9999, 611, 75), (499, 497, 9999, 498, 75), (820, 818, 9999, 819, 75), (495, 493, 9999, 494, 75), (670, 668, 9999, 669, 75), (560, 558, 9999, 559, 75), (831, 829, 9999, 830, 75), (120, 119, 9999, 9999, 68), (519, 517, 9999, 518, 68), (800, 798, 9999, 799, 68), (608, 606, 9999, 607, 68), (689, 687, 9999, 688, 68), (534, 532, 9999, 533, 68), (113, 112, 9999, 9999, 67), (487, 485, 9999, 486, 67), (515, 513, 9999, 514, 67), (796, 794, 9999, 795, 67), (169, 168, 9999, 9999, 70), (526, 524, 9999, 525, 70), (220, 219, 9999, 9999, 71), (804, 802, 9999, 803, 71), (911, 909, 9999, 910, 71), (816, 814, 9999, 815, 71), (308, 307, 9999, 9999, 74), (666, 664, 9999, 665, 74), (693, 692, 9999, 15, 74), (679, 678, 9999, 14, 74), (699, 698, 9999, 16, 74), (703, 702, 9999, 17, 74), (711, 710, 9999, 19, 74), (707, 706, 9999, 18, 74), (715, 714, 9999, 20, 74), (724, 723, 9999, 21, 74), (728, 727, 9999, 22, 74), (732, 731, 9999, 23, 74), (736, 735, 9999, 24, 74), (740, 739, 9999, 25, 74), (743, 9999, 742, 9999, 74), (747, 746, 9999, 26, 74), (752, 751, 9999, 27, 74), (720, 9999, 719, 9999, 74), (765, 9999, 764, 9999, 74), (91, 90, 9999, 9999, 65), (467, 465, 9999, 466, 65), (547, 545, 9999, 546, 65), (459, 457, 9999, 458, 65), (653, 651, 9999, 652, 65), (657, 655, 9999, 656, 65), (530, 528, 9999, 529, 65), (893, 891, 9999, 892, 65), (538, 536, 9999, 537, 65), (463, 462, 9999, 0, 65), (83, 82, 9999, 9999, 64), (452, 450, 9999, 451, 64), (471, 469, 9999, 470, 64), (542, 540, 9999, 541, 64), (551, 549, 9999, 550, 64), (567, 565, 9999, 566, 64), (827, 825, 9999, 826, 64), (835, 833, 9999, 834, 64), (840, 838, 9999, 839, 64), (844, 842, 9999, 843, 64), (849, 847, 9999, 848, 64), (853, 851, 9999, 852, 64), (865, 863, 9999, 864, 64), (873, 871, 9999, 872, 64), (881, 879, 9999, 880, 64), (889, 887, 9999, 888, 64), (898, 896, 9999, 897, 64), (902, 900, 9999, 901, 64), (906, 904, 9999, 905, 64), (475, 474, 9999, 1, 64), (491, 490, 9999, 3, 64), (483, 482, 9999, 2, 64), (507, 506, 9999, 4, 64), (571, 570, 9999, 5, 64), (604, 603, 9999, 8, 64), (616, 615, 9999, 9, 64), (620, 619, 9999, 10, 64), (633, 632, 9999, 11, 64), (662, 661, 9999, 13, 64), (775, 774, 9999, 28, 64), (779, 778, 9999, 29, 64), (478, 9999, 477, 9999, 64), (455, 9999, 454, 9999, 64), (563, 9999, 562, 9999, 64), (927, 926, 9999, 9999, 76), (933, 932, 9999, 30, 76), (1102, 9999, 1101, 9999, 76), (1094, 9999, 1093, 9999, 76), (1141, 9999, 1140, 9999, 76), (1091, 1089, 9999, 1090, 76), (1116, 1115, 9999, 33, 76), (1108, 1107, 9999, 31, 76), (1124, 1123, 9999, 35, 76), (1174, 1173, 9999, 43, 76), (1162, 1161, 9999, 40, 76), (1120, 1119, 9999, 34, 76), (1112, 1111, 9999, 32, 76), (1098, 1096, 9999, 1097, 76), (1128, 1127, 9999, 36, 76), (1214, 1213, 9999, 53, 76), (1132, 1130, 9999, 1131, 76), (1136, 1134, 9999, 1135, 76), (1145, 1143, 9999, 1144, 76), (1150, 1149, 9999, 37, 76), (1154, 1153, 9999, 38, 76), (1166, 1165, 9999, 41, 76), (1158, 1157, 9999, 39, 76), (1182, 1181, 9999, 45, 76), (1186, 1185, 9999, 46, 76), (1170, 1169, 9999, 42, 76), (1178, 1177, 9999, 44, 76), (1190, 1189, 9999, 47, 76), (1276, 1275, 9999, 61, 76), (1280, 1279, 9999, 62, 76), (1198, 1197, 9999, 49, 76), (1202, 1201, 9999, 50, 76), (1210, 1209, 9999, 52, 76), (1222, 9999, 1221, 9999, 76), (1219, 9999, 1218, 9999, 76), (1206, 1205, 9999, 51, 76), (1252, 1251, 9999, 57, 76), (1194, 1193, 9999, 48, 76), (1244, 1243, 9999, 55, 76), (1240, 1239, 9999, 54, 76), (1255, 9999, 1254, 9999, 76), (1248, 1247, 9999, 56, 76), (1262, 9999, 1261, 9999, 76), (1259, 1258, 9999, 58, 76), (1266, 1265, 9999, 59, 76), (1271, 1270, 9999, 60, 76), (1284, 1282, 9999, 1283, 76), (1288, 1286, 9999, 1287, 76), (1292, 1290, 9999, 1291, 76), (1296, 1294, 9999, 1295, 76), (1300, 1298, 9999, 1299, 76), (1304, 1302, 9999, 1303, 76), (1308, 1306, 9999, 1307, 76), (1313, 1311, 9999, 1312, 76), (1317, 1315, 9999, 1316, 76), (1321, 1319, 9999, 1320, 76), (1325, 1323, 9999, 1324, 76), (1330, 1328, 9999, 1329, 76), (1334, 1332, 9999, 1333, 76), (759, 9999, 758, 9999, 78), (95, 9999, 94, 9999, 66), (244, 9999, 243, 9999, 66), (522, 9999, 521, 9999, 77), (918, 9999, 917, 9999, 77)]
def nPL : List Nat := [2, 2, 2, 3, 1, 2, 1, 3, 1, 2, 2, 1, 1, 2, 1, 2, 2, 4, 2, 2, 2, 3, 2, 3, 1, 1, 1, 2, 1, 2, 2, 1, 4, 2, 1, 1, 1, 1, 2, 3, 2, 1, 3, 1, 1, 2, 3, 1, 3, 3, 2, 2, 2, 1, 2, 2, 1, 3, 2, 2, 2, 1, 1, 1, 1, 3, 3, 1, 1, 2, 3, 2, 1, 1, 1, 1, 2, 1, 1, 2, 2, 1, 2, 2, 1, 2, 2, 2, 3, 2, 5, 2, 3, 3, 2, 3, 3, 3, 3, 2, 2, 2, 2, 2, 2, 2, 2, 3, 3, 1, 1, 1, 3, 1, 1, 3, 3, 1, 1, 1, 2, 2, 3, 1, 1, 2, 2, 3, 3, 3, 3, 1, 2, 3, 4, 3, 2, 5, 2, 1, 2, 2, 2, 1, 3, 1, 2, 1, 1, 1, 4, 4, 4, 1, 1, 3, 4, 3, 3, 4, 1, 5, 2, 7, 4, 5, 3, 3, 2, 3, 3, 3, 3, 2, 2, 2, 2, 2, 2, 1, 2, 2, 2, 2]
def fL : List ((Nat × Nat) × (Nat × Nat × Nat)) := [((9, 13), (9, 0, 96)), ((9, 35), (9, 1, 97)), ((9, 19), (9, 2, 98)), ((4, 9), (4, 0, 122)), ((6, 17), (4, 0, 123)), ((2, 18), (4, 0, 124)), ((5, 18), (4, 0, 125)), ((4, 15), (4, 1, 126)), ((6, 23), (4, 1, 127)), ((2, 24), (4, 1, 128)), ((5, 22), (4, 1, 129)), ((10, 113), (4, 1, 130)), ((3, 91), (4, 1, 131)), ((2, 32), (4, 2, 132)), ((4, 28), (4, 2, 133)), ((1, 71), (4, 2, 134)), ((10, 289), (4, 2, 135)), ((6, 27), (4, 3, 136)), ((4, 32), (4, 3, 137)), ((1, 62), (4, 3, 138)), ((10, 300), (4, 3, 139)), ((4, 18), (4, 4, 140)), ((5, 11), (5, 0, 152)), ((6, 7), (6, 0, 171)), ((1, 87), (6, 0, 172)), ((6, 13), (6, 1, 173)), ((1, 30), (6, 1, 174)), ((10, 186), (6, 1, 175)), ((6, 22), (6, 2, 176)), ((1, 99), (6, 2, 177)), ((10, 192), (6, 2, 178)), ((6, 26), (6, 3, 179)), ((10, 195), (6, 3, 180)), ((1, 11), (1, 0, 190)), ((1, 19), (1, 1, 191)), ((1, 26), (1, 2, 192)), ((1, 34), (1, 3, 193)), ((10, 337), (1, 3, 194)), ((1, 38), (1, 4, 195)), ((1, 81), (1, 5, 196)), ((1, 56), (1, 6, 197)), ((1, 49), (1, 7, 198)), ((7, 14), (7, 0, 225)), ((10, 207), (7, 0, 226)), ((7, 48), (7, 1, 227)), ((10, 219), (7, 1, 228)), ((7, 22), (7, 2, 229)), ((7, 26), (7, 3, 230)), ((2, 15), (2, 0, 257)), ((1, 100), (2, 0, 258)), ((10, 201), (2, 0, 259)), ((2, 9), (2, 1, 260)), ((0, 26), (2, 1, 261)), ((4, 36), (2, 1, 262)), ((1, 46), (2, 1, 263)), ((10, 315), (2, 1, 264)), ((2, 23), (2, 2, 265)), ((0, 33), (2, 2, 266)), ((1, 96), (2, 2, 267)), ((10, 316), (2, 2, 268)), ((2, 27), (2, 3, 269)), ((0, 30), (2, 3, 270)), ((10, 317), (2, 3, 271)), ((2, 28), (2, 4, 272)), ((8, 53), (2, 4, 273)), ((1, 42), (2, 4, 274)), ((0, 51), (2, 4, 275)), ((2, 36), (2, 5, 276)), ((2, 39), (2, 6, 277)), ((2, 42), (2, 7, 278)), ((2, 46), (2, 8, 279)), ((0, 40), (2, 8, 280)), ((0, 17), (0, 0, 300)), ((8, 9), (8, 0, 310)), ((8, 15), (8, 1, 311)), ((8, 19), (8, 2, 312)), ((8, 23), (8, 3, 313)), ((8, 83), (8, 4, 314)), ((8, 86), (8, 5, 315)), ((8, 89), (8, 6, 316)), ((8, 96), (8, 7, 317)), ((3, 27), (3, 0, 342)), ((8, 44), (3, 0, 343)), ((10, 238), (3, 0, 344)), ((3, 34), (3, 1, 345)), ((10, 90), (3, 1, 346)), ((3, 37), (3, 2, 347)), ((10, 322), (3, 2, 348)), ((3, 40), (3, 3, 349)), ((8, 33), (3, 3, 350)), ((3, 43), (3, 4, 351)), ((8, 37), (3, 4, 352)), ((3, 46), (3, 5, 353)), ((10, 107), (3, 5, 354)), ((8, 105), (3, 5, 355)), ((3, 49), (3, 6, 356)), ((8, 108), (3, 6, 357)), ((3, 52), (3, 7, 358)), ((8, 157), (3, 7, 359)), ((3, 31), (3, 8, 360)), ((10, 331), (3, 8, 361)), ((3, 55), (3, 9, 362)), ((7, 37), (3, 9, 363)), ((3, 58), (3, 10, 364)), ((10, 161), (3, 10, 365)), ((8, 160), (3, 10, 366)), ((3, 62), (3, 11, 367)), ((10, 279), (3, 11, 368)), ((3, 9), (3, 12, 369)), ((3, 20), (3, 13, 370)), ((10, 137), (3, 13, 371)), ((8, 178), (3, 13, 372)), ((3, 24), (3, 14, 373)), ((7, 34), (3, 14, 374)), ((10, 172), (3, 14, 375)), ((8, 191), (3, 14, 376)), ((10, 14), (10, 0, 409)), ((10, 18), (10, 1, 410)), ((10, 23), (10, 2, 411)), ((10, 30), (10, 3, 412)), ((10, 60), (10, 4, 413)), ((10, 37), (10, 5, 414)), ((10, 44), (10, 6, 415)), ((10, 69), (10, 7, 416)), ((10, 151), (10, 8, 417)), ((10, 210), (10, 9, 418)), ((10, 213), (10, 10, 419)), ((10, 216), (10, 11, 420)), ((10, 222), (10, 12, 421)), ((11, 118), (11, 0, 934)), ((11, 7), (11, 1, 935)), ((11, 125), (11, 2, 936)), ((11, 13), (11, 3, 937)), ((11, 17), (11, 4, 938)), ((11, 20), (11, 5, 939)), ((11, 23), (11, 6, 940)), ((11, 26), (11, 7, 941)), ((11, 29), (11, 8, 942)), ((11, 32), (11, 9, 943)), ((11, 35), (11, 10, 944)), ((11, 38), (11, 11, 945)), ((11, 41), (11, 12, 946)), ((11, 44), (11, 13, 947)), ((11, 47), (11, 14, 948)), ((11, 50), (11, 15, 949)), ((11, 53), (11, 16, 950)), ((11, 56), (11, 17, 951)), ((11, 59), (11, 18, 952)), ((11, 255), (11, 19, 953)), ((11, 62), (11, 20, 954)), ((11, 65), (11, 21, 955)), ((11, 69), (11, 22, 956)), ((11, 72), (11, 23, 957)), ((11, 75), (11, 24, 958)), ((11, 78), (11, 25, 959)), ((11, 81), (11, 26, 960)), ((11, 84), (11, 27, 961)), ((11, 87), (11, 28, 962)), ((11, 90), (11, 29, 963)), ((11, 93), (11, 30, 964)), ((11, 96), (11, 31, 965)), ((11, 99), (11, 32, 966)), ((11, 102), (11, 33, 967)), ((11, 135), (11, 34, 968)), ((11, 209), (11, 35, 969)), ((11, 132), (11, 36, 970)), ((11, 227), (11, 37, 971)), ((11, 215), (11, 38, 972)), ((11, 212), (11, 39, 973)), ((11, 106), (11, 40, 974)), ((11, 109), (11, 41, 975)), ((11, 221), (11, 42, 976)), ((11, 112), (11, 43, 977)), ((11, 249), (11, 44, 978)), ((11, 115), (11, 45, 979)), ((11, 258), (11, 46, 980)), ((11, 184), (11, 47, 981)), ((11, 200), (11, 48, 982)), ((11, 193), (11, 49, 983)), ((11, 252), (11, 50, 984))]
def mL : List ((Nat × Nat) × (Nat × Nat × Nat)) := [((10, 1), (999, 5, 84)), ((10, 11), (76, 1, 89)), ((9, 1), (999, 5, 92)), ((9, 7), (180, 2, 93)), ((10, 29), (47, 1, 111)), ((5, 3), (999, 5, 114)), ((5, 17), (41, 3, 118)), ((4, 3), (999, 5, 121)), ((10, 36), (8, 1, 158)), ((1, 3), (999, 5, 161)), ((1, 23), (51, 1, 167)), ((6, 1), (999, 5, 170)), ((10, 43), (53, 3, 218)), ((7, 3), (999, 5, 221)), ((7, 11), (76, 1, 223)), ((10, 50), (181, 2, 242)), ((10, 56), (180, 2, 245)), ((10, 59), (0, 1, 246)), ((0, 3), (999, 5, 249)), ((0, 9), (180, 2, 250)), ((0, 23), (22, 1, 253)), ((2, 3), (999, 5, 256)), ((10, 66), (57, 1, 306)), ((8, 3), (999, 5, 309)), ((10, 73), (30, 1, 336)), ((3, 3), (999, 5, 339)), ((3, 17), (76, 1, 341)), ((10, 74), (118, 2, 453)), ((10, 78), (79, 0, 456)), ((9, 23), (85, 0, 460)), ((10, 82), (77, 0, 464)), ((10, 86), (105, 0, 472)), ((10, 94), (117, 2, 476)), ((10, 99), (107, 0, 480)), ((10, 165), (48, 0, 484)), ((10, 103), (106, 0, 488)), ((10, 235), (37, 0, 492)), ((3, 83), (35, 0, 496)), ((10, 110), (11, 0, 500)), ((10, 118), (108, 0, 504)), ((10, 239), (12, 0, 508)), ((10, 243), (49, 0, 512)), ((5, 25), (42, 0, 516)), ((4, 22), (182, 2, 520)), ((10, 246), (52, 0, 523)), ((10, 122), (82, 0, 527)), ((10, 126), (46, 0, 531)), ((10, 130), (84, 0, 535)), ((10, 133), (35, 0, 543)), ((10, 140), (78, 0, 544)), ((10, 144), (32, 0, 553)), ((3, 75), (39, 0, 557)), ((3, 87), (119, 4, 561)), ((10, 148), (109, 0, 568)), ((10, 250), (14, 0, 572)), ((1, 52), (15, 2, 576)), ((1, 59), (24, 0, 579)), ((1, 67), (23, 0, 583)), ((10, 253), (16, 0, 587)), ((1, 74), (17, 0, 591)), ((1, 78), (52, 0, 595)), ((1, 84), (18, 0, 596)), ((1, 90), (180, 2, 600)), ((10, 256), (110, 0, 601)), ((10, 283), (44, 0, 605)), ((10, 286), (34, 0, 609)), ((10, 259), (111, 0, 613)), ((10, 293), (112, 0, 617)), ((10, 297), (2, 0, 621)), ((10, 304), (23, 0, 625)), ((10, 307), (13, 0, 626)), ((10, 262), (113, 0, 630)), ((10, 311), (4, 0, 634)), ((0, 36), (5, 0, 638)), ((0, 44), (29, 0, 642)), ((2, 49), (28, 0, 646)), ((10, 318), (80, 0, 650)), ((9, 27), (81, 0, 654)), ((9, 31), (79, 0, 658)), ((10, 265), (114, 0, 659)), ((10, 269), (58, 0, 663)), ((8, 27), (38, 0, 667)), ((8, 40), (117, 4, 671)), ((8, 47), (3, 0, 672)), ((8, 59), (60, 0, 676)), ((8, 99), (48, 0, 680)), ((8, 111), (49, 0, 681)), ((8, 114), (33, 0, 682)), ((8, 62), (45, 0, 686)), ((8, 68), (59, 0, 690)), ((8, 92), (119, 4, 694)), ((8, 72), (39, 0, 695)), ((8, 76), (61, 0, 696)), ((8, 118), (62, 0, 700)), ((8, 122), (64, 0, 704)), ((8, 137), (63, 0, 708)), ((8, 140), (65, 0, 712)), ((8, 147), (46, 0, 716)), ((8, 150), (118, 4, 717)), ((8, 154), (74, 2, 718)), ((8, 144), (66, 0, 721)), ((8, 125), (67, 0, 725)), ((8, 128), (68, 0, 729)), ((8, 164), (69, 0, 733)), ((8, 168), (70, 0, 737)), ((8, 172), (71, 2, 741)), ((8, 131), (72, 0, 744)), ((8, 134), (73, 0, 749)), ((8, 182), (77, 0, 753)), ((8, 187), (81, 0, 754)), ((8, 194), (79, 0, 755)), ((8, 200), (179, 2, 757)), ((8, 205), (75, 2, 763)), ((8, 80), (25, 0, 768)), ((10, 272), (115, 0, 772)), ((10, 325), (116, 0, 776)), ((10, 334), (19, 0, 780)), ((10, 340), (7, 0, 784)), ((0, 55), (24, 0, 788)), ((10, 343), (20, 0, 789)), ((10, 345), (50, 0, 793)), ((5, 29), (43, 0, 797)), ((10, 348), (54, 0, 801)), ((10, 328), (6, 0, 805)), ((0, 48), (26, 0, 809)), ((10, 276), (56, 0, 813)), ((7, 30), (36, 0, 817)), ((3, 79), (77, 0, 821)), ((7, 40), (82, 0, 822)), ((7, 44), (80, 0, 823)), ((10, 154), (40, 0, 828)), ((10, 158), (38, 0, 836)), ((10, 169), (45, 0, 845)), ((10, 175), (1, 0, 854)), ((10, 179), (27, 0, 858)), ((10, 182), (9, 0, 866)), ((10, 196), (21, 0, 874)), ((10, 198), (10, 0, 882)), ((10, 204), (83, 0, 890)), ((9, 38), (82, 0, 894)), ((10, 225), (36, 0, 907)), ((10, 228), (55, 0, 908)), ((10, 232), (31, 0, 912)), ((3, 66), (183, 2, 916)), ((3, 72), (84, 0, 919)), ((11, 1), (999, 5, 928)), ((11, 121), (121, 0, 930)), ((11, 128), (123, 2, 1092)), ((11, 144), (122, 2, 1100)), ((11, 152), (127, 0, 1105)), ((11, 156), (132, 0, 1109)), ((11, 138), (126, 0, 1113)), ((11, 160), (131, 0, 1117)), ((11, 164), (128, 0, 1121)), ((11, 167), (134, 0, 1125)), ((11, 175), (124, 2, 1139)), ((11, 181), (139, 0, 1147)), ((11, 187), (140, 0, 1151)), ((11, 218), (142, 0, 1155)), ((11, 224), (130, 0, 1159)), ((11, 230), (141, 0, 1163)), ((11, 190), (145, 0, 1167)), ((11, 233), (129, 0, 1171)), ((11, 236), (146, 0, 1175)), ((11, 239), (143, 0, 1179)), ((11, 242), (144, 0, 1183)), ((11, 246), (147, 0, 1187)), ((11, 196), (157, 0, 1191)), ((11, 265), (150, 0, 1195)), ((11, 261), (151, 0, 1199)), ((11, 296), (155, 0, 1203)), ((11, 299), (152, 0, 1207)), ((11, 303), (135, 0, 1211)), ((11, 311), (154, 2, 1217)), ((11, 277), (153, 2, 1220)), ((11, 318), (159, 0, 1237)), ((11, 321), (158, 0, 1241)), ((11, 324), (161, 0, 1245)), ((11, 338), (156, 0, 1249)), ((11, 341), (160, 2, 1253)), ((11, 328), (163, 0, 1256)), ((11, 344), (162, 2, 1260)), ((11, 332), (164, 0, 1263)), ((11, 335), (165, 0, 1268)), ((11, 203), (148, 0, 1273)), ((11, 206), (149, 0, 1277))]
def cL : List ((Nat × Nat) × (Nat × Nat)) := [((10, 7), (9, 87)), ((10, 21), (3, 107)), ((10, 27), (5, 109)), ((5, 9), (4, 115)), ((10, 34), (1, 156)), ((1, 9), (6, 162)), ((1, 17), (2, 164)), ((10, 41), (7, 216)), ((7, 9), (9, 222)), ((7, 20), (3, 224)), ((10, 48), (0, 240)), ((0, 15), (2, 251)), ((10, 64), (8, 304)), ((3, 15), (9, 340))]
def kI : List ((Nat × Nat) × (Int32 × Nat)) := [((10, 98), (1048576, 479)), ((10, 143), (1000000, 552)), ((11, 68), (32768, 929))]
def kJ : List ((Nat × Nat) × (Int64 × Nat)) := [((8, 176), (8, 748)), ((8, 198), (281474976710655, 756)), ((12, 314), (6148914691236517205, 760)), ((12, 316), (3689348814741910323, 761)), ((12, 318), (1085102592571150095, 762)), ((8, 208), (11863283, 766)), ((8, 210), (2, 767)), ((11, 142), (3, 1099)), ((11, 148), (1048575, 1103)), ((11, 150), (1048576, 1104)), ((11, 171), (1000000, 1137)), ((11, 173), (64, 1138)), ((11, 179), (2000, 1146)), ((11, 307), (1023, 1215)), ((11, 309), (127, 1216)), ((11, 269), (65, 1223)), ((11, 271), (66, 1224)), ((11, 273), (208, 1225)), ((11, 275), (210, 1226)), ((11, 280), (80, 1227)), ((11, 282), (82, 1228)), ((11, 284), (140, 1229)), ((11, 286), (143, 1230)), ((11, 288), (148, 1231)), ((11, 290), (151, 1232)), ((11, 292), (156, 1233)), ((11, 294), (159, 1234)), ((11, 314), (192, 1235)), ((11, 316), (255, 1236)), ((11, 348), (8, 1267)), ((11, 350), (16777216, 1272)), ((11, 352), (63, 1309)), ((11, 354), (399, 1326))]
def sL : List ((Nat × Nat) × Nat) := [((0, 10), 12), ((8, 7), 13), ((8, 16), 14), ((30, 8), 15), ((42, 21), 16), ((47, 7), 17), ((53, 20), 18), ((76, 10), 19), ((86, 33), 20), ((120, 8), 21), ((120, 15), 22), ((120, 22), 23), ((120, 29), 24), ((120, 36), 25), ((120, 43), 26), ((120, 50), 27), ((120, 57), 28), ((120, 64), 29), ((120, 71), 30), ((120, 78), 31), ((120, 85), 32), ((120, 94), 33), ((120, 101), 34), ((120, 110), 35), ((120, 119), 36), ((120, 126), 37), ((120, 134), 38), ((120, 142), 39), ((120, 150), 40), ((120, 157), 41), ((120, 165), 42), ((120, 173), 43), ((120, 181), 44), ((120, 189), 45), ((120, 197), 46), ((120, 205), 47), ((120, 213), 48), ((120, 221), 49), ((120, 229), 50), ((120, 242), 51), ((120, 250), 52), ((120, 258), 53), ((120, 267), 54)]
def KD : List (List Nat) := [[15], [16, 17, 0, 5, 9, 0, 0, 0], [0, 0, 0, 0, 7, 0, 0, 1, 1], [0, 0, 0, 0, 0, 0, 0, 0, 0, 0, 2, 7, 18, 12, 12], [0, 0, 5, 9, 19], [20], [0, 1, 0, 0], [12, 0, 21, 0], [3, 8, 6, 5, 0, 0, 0, 0], [22, 0, 0], [12, 12, 23, 8, 3, 4, 10, 11, 0, 0, 0, 0, 0], [0, 24, 0, 25, 26, 27, 28, 29, 30, 31, 32, 33, 34, 35, 36, 37, 38, 39, 40, 0, 41, 42, 43, 44, 45, 46, 47, 48, 49, 50, 51, 52, 53, 0, 0, 0, 0, 0, 0, 0, 54, 55, 0, 56, 0, 57, 0, 0, 0, 0, 0]]
def AK : List Nat := [5, 9, 5, 0, 2, 7, 6, 2, 6, 2, 0, 0, 0, 0, 0, 0, 0, 0, 0, 0, 0, 0, 2, 2, 2, 0, 0, 0, 2, 0, 0, 0, 0, 0, 0, 0, 0, 0, 0, 0, 0, 0, 2]
def AT : List Nat := [2, 4, 2, 0, 1, 3, 5, 1, 5, 1, 0, 0, 0, 0, 0, 0, 0, 0, 0, 0, 0, 0, 1, 1, 1, 0, 0, 0, 1, 0, 0, 0, 0, 0, 0, 0, 0, 0, 0, 0, 0, 0, 1]
def cpL : List (Nat × Nat) := [(241, 72), (157, 69), (252, 73), (335, 75), (117, 68), (110, 67), (166, 70), (217, 71), (305, 74), (88, 65), (80, 64), (924, 76)]
def oI : List Nat := [0, 85, 86]
end
section
/-! THE ABSTRACT MACHINE: values with references as (class, number), memory by class, slot and object, an interpreter with fuel -/
abbrev Av : Type := Int32 ⊕ (Int64 ⊕ Option (Nat × Nat))
abbrev Lo : Type := List (Option Av)
abbrev Sg : Type := (Nat → Nat → Nat → Int32) × (Nat → Nat → Nat → Int64) × (Nat → Nat → Nat → Option Nat) × (Nat → Nat) × (Nat → Nat → Nat) × Nat × Nat
abbrev vI (x : Int32) : Av := .inl x
abbrev vJ (x : Int64) : Av := .inr (.inl x)
abbrev vP (o : Option (Nat × Nat)) : Av := .inr (.inr o)
def gI (σ : Sg) (c k i : Nat) : Int32 := σ.1 c k i
def gJ (σ : Sg) (c k i : Nat) : Int64 := σ.2.1 c k i
def gP (σ : Sg) (c k i : Nat) : Option Nat := σ.2.2.1 c k i
def cn (σ : Sg) (c : Nat) : Nat := σ.2.2.2.1 c
def ln (σ : Sg) (c i : Nat) : Nat := σ.2.2.2.2.1 c i
def sz (σ : Sg) : Nat := σ.2.2.2.2.2.1
def sl (σ : Sg) : Nat := σ.2.2.2.2.2.2
def sI (σ : Sg) (c k i : Nat) (v : Int32) : Sg := (fun c' k' i' => if c' = c ∧ k' = k ∧ i' = i then v else σ.1 c' k' i', σ.2)
def sJ (σ : Sg) (c k i : Nat) (v : Int64) : Sg := (σ.1, fun c' k' i' => if c' = c ∧ k' = k ∧ i' = i then v else σ.2.1 c' k' i', σ.2.2)
def sP (σ : Sg) (c k i : Nat) (v : Option Nat) : Sg := (σ.1, σ.2.1, fun c' k' i' => if c' = c ∧ k' = k ∧ i' = i then v else σ.2.2.1 c' k' i', σ.2.2.2)
/-- a new cell of class c, of n elements (or fields), all 0 -/
def nw (σ : Sg) (c n : Nat) : Sg := (fun c' k' i' => if c' = c ∧ i' = cn σ c then 0 else σ.1 c' k' i', fun c' k' i' => if c' = c ∧ i' = cn σ c then 0 else σ.2.1 c' k' i', fun c' k' i' => if c' = c ∧ i' = cn σ c then none else σ.2.2.1 c' k' i', fun c' => if c' = c then cn σ c + 1 else σ.2.2.2.1 c', fun c' i' => if c' = c ∧ i' = cn σ c then n else σ.2.2.2.2.1 c' i', sz σ + 1, sl σ + n)
def kd (c k : Nat) : Nat := if c < 12 then (((KD[c]?).getD [])[k]?).getD 99 else (AK[c - 12]?).getD 99
def mk (c : Nat) (o : Option Nat) : Option (Nat × Nat) := o.map (fun j => (c, j))
def rdk (σ : Sg) (q c k i : Nat) : Av := match q with
  | 0 => .inl (gI σ c k i)
  | 1 => .inl (gI σ c k i)
  | 2 => .inr (.inl (gJ σ c k i))
  | t + 3 => .inr (.inr (mk t (gP σ c k i)))
def rd (σ : Sg) (c k i : Nat) : Av := rdk σ (kd c k) c k i
def wrk (σ : Sg) (q c k i : Nat) (v : Av) : Option Sg := match q, v with
  | 0, .inl x => some (sI σ c k i x)
  | 1, .inl x => if x = 0 ∨ x = 1 then some (sI σ c k i x) else none
  | 2, .inr (.inl x) => some (sJ σ c k i x)
  | _ + 3, .inr (.inr none) => some (sP σ c k i none)
  | t + 3, .inr (.inr (some q)) => if q.1 = t then some (sP σ c k i (some q.2)) else none
  | _, _ => none
def wr (σ : Sg) (c k i : Nat) (v : Av) : Option Sg := wrk σ (kd c k) c k i v
-- static facts of methods
abbrev mtT : Type := MethodName × ByteArray × Nat × Option FieldType × Nat × Nat × Nat
def mtG (mi : Nat) : mtT := (mt[mi]?).getD (⟨"", "", ""⟩, ⟨#[]⟩, 0, none, 0, 0, 0)
def yN (mi : Nat) : MethodName := (mtG mi).1
def bC (mi : Nat) : ByteArray := (mtG mi).2.1
def mx (mi : Nat) : Nat := (mtG mi).2.2.1
def rT (mi : Nat) : Option FieldType := (mtG mi).2.2.2.1
def ow (mi : Nat) : Nat := (mtG mi).2.2.2.2.1
def fN (mi : Nat) : Nat := (mtG mi).2.2.2.2.2.1
def lW (mi : Nat) : Nat := (mtG mi).2.2.2.2.2.2
def oN (o : Nat) : String := (oL[o]?).getD ""
def ii (mi pc : Nat) : Option (Instr × Nat) := ((iT[mi]?).getD []).lookup pc
def nP (mi : Nat) : Nat := (nPL[mi]?).getD 0
-- stack and locals
def bi (f : Int32 → Int32 → Option Int32) (st : List Av) : Option (List Av) := match st with
  | .inl y :: .inl x :: r => (f x y).map (fun z => .inl z :: r)
  | _ => none
def bj (f : Int64 → Int64 → Option Int64) (st : List Av) : Option (List Av) := match st with
  | .inr (.inl y) :: .inr (.inl x) :: r => (f x y).map (fun z => .inr (.inl z) :: r)
  | _ => none
def bs (f : Int64 → Int32 → Int64) (st : List Av) : Option (List Av) := match st with
  | .inl y :: .inr (.inl x) :: r => some (.inr (.inl (f x y)) :: r)
  | _ => none
def isJ (v : Av) : Bool := match v with
  | .inr (.inl _) => true
  | _ => false
def pu (i : Instr) (st : List Av) : Option (List Av) := match i with
  | .iconst n => some (.inl (Int32.ofInt n) :: st)
  | .bipush n => some (.inl (Int8.ofInt n).toInt32 :: st)
  | .sipush n => some (.inl (Int16.ofInt n).toInt32 :: st)
  | .lconst n => some (.inr (.inl (Int64.ofNat n.val)) :: st)
  | .aconst_null => some (.inr (.inr none) :: st)
  | .iadd => bi (fun x y => some (x + y)) st
  | .isub => bi (fun x y => some (x - y)) st
  | .imul => bi (fun x y => some (x * y)) st
  | .idiv => bi (fun x y => if y = 0 then none else some (x / y)) st
  | .irem => bi (fun x y => if y = 0 then none else some (x - x / y * y)) st
  | .iand => bi (fun x y => some (x &&& y)) st
  | .ladd => bj (fun x y => some (x + y)) st
  | .lsub => bj (fun x y => some (x - y)) st
  | .lmul => bj (fun x y => some (x * y)) st
  | .ldiv => bj (fun x y => if y = 0 then none else some (x / y)) st
  | .land => bj (fun x y => some (x &&& y)) st
  | .lor => bj (fun x y => some (x ||| y)) st
  | .lxor => bj (fun x y => some (x ^^^ y)) st
  | .lshl => bs (fun x y => x <<< (y.toInt64 &&& 63)) st
  | .lshr => bs (fun x y => x >>> (y.toInt64 &&& 63)) st
  | .lushr => bs (fun x y => (x.toUInt64 >>> (y.toInt64.toUInt64 &&& Int64.toUInt64 63)).toInt64) st
  | .lneg => (match st with
    | .inr (.inl x) :: r => some (.inr (.inl (-x)) :: r)
    | _ => none)
  | .i2l => (match st with
    | .inl x :: r => some (.inr (.inl x.toInt64) :: r)
    | _ => none)
  | .l2i => (match st with
    | .inr (.inl x) :: r => some (.inl x.toInt32 :: r)
    | _ => none)
  | .lcmp => (match st with
    | .inr (.inl y) :: .inr (.inl x) :: r => some (.inl (lg_cmp x y) :: r)
    | _ => none)
  | .dup => (match st with
    | v :: r => if isJ v then none else some (v :: v :: r)
    | _ => none)
  | .pop => (match st with
    | v :: r => if isJ v then none else some r
    | _ => none)
  | .dup2 => (match st with
    | v :: w :: r => if isJ v then some (v :: v :: w :: r) else if isJ w then none else some (v :: w :: v :: w :: r)
    | [v] => if isJ v then some [v, v] else none
    | _ => none)
  | .pop2 => (match st with
    | v :: r => if isJ v then some r else none
    | _ => none)
  | _ => none
def il (i : Instr) : Nat := match i with
  | .bipush _ | .iload _ | .lload _ | .aload _ | .istore _ | .lstore _ | .astore _ | .ldc _ | .newarray _ => 2
  | .sipush _ | .ldc2_w _ | .getfield _ | .putfield _ | .invokevirtual _ | .invokespecial _ | .invokestatic _ | .new _ | .anewarray _ | .goto _ | .if_icmp _ _ | .ifCond _ _ | .if_acmp _ _ | .ifnull _ | .ifnonnull _ | .iinc _ _ => 3
  | .tableswitch .. | .lookupswitch .. => 0
  | _ => 1
def lg (lo : Lo) (k : Nat) : Option Av := match lo[k]? with
  | some (some v) => some v
  | _ => none
def kl (o : Option Av) : Option Av := match o with
  | some (.inr (.inl _)) => none
  | x => x
/-- a store of one word -/
def s1 : Lo → Nat → Av → Option Lo
  | _ :: r, 0, v => some (some v :: r)
  | a :: _ :: r, 1, v => some (kl a :: some v :: r)
  | a :: r, n + 2, v => (s1 r (n + 1) v).map (fun x => a :: x)
  | _, _, _ => none
/-- a store of two words -/
def s2 : Lo → Nat → Av → Option Lo
  | _ :: _ :: r, 0, v => some (some v :: none :: r)
  | a :: _ :: _ :: r, 1, v => some (kl a :: some v :: none :: r)
  | a :: r, n + 2, v => (s2 r (n + 1) v).map (fun x => a :: x)
  | _, _, _ => none
abbrev Nx : Type := (Nat × Lo × List Av × Sg) ⊕ Option Av
def go (pc : Nat) (lo : Lo) (st : List Av) (σ : Sg) : Option Nx := some (.inl (pc, lo, st, σ))
def ldI (o : Option Av) (pc : Nat) (lo : Lo) (st : List Av) (σ : Sg) : Option Nx := match o with
  | some (.inl x) => go pc lo (.inl x :: st) σ
  | _ => none
def ldJ (o : Option Av) (pc : Nat) (lo : Lo) (st : List Av) (σ : Sg) : Option Nx := match o with
  | some (.inr (.inl x)) => go pc lo (.inr (.inl x) :: st) σ
  | _ => none
def ldP (o : Option Av) (pc : Nat) (lo : Lo) (st : List Av) (σ : Sg) : Option Nx := match o with
  | some (.inr (.inr x)) => go pc lo (.inr (.inr x) :: st) σ
  | _ => none
def toI (k pc : Nat) (lo : Lo) (st : List Av) (σ : Sg) : Option Nx := match st with
  | .inl x :: r => (s1 lo k (.inl x)).bind (fun l => go pc l r σ)
  | _ => none
def toJ (k pc : Nat) (lo : Lo) (st : List Av) (σ : Sg) : Option Nx := match st with
  | .inr (.inl x) :: r => (s2 lo k (.inr (.inl x))).bind (fun l => go pc l r σ)
  | _ => none
def toP (k pc : Nat) (lo : Lo) (st : List Av) (σ : Sg) : Option Nx := match st with
  | .inr (.inr x) :: r => (s1 lo k (.inr (.inr x))).bind (fun l => go pc l r σ)
  | _ => none
/-- a jump by an offset -/
def jp (pc : Nat) (off : Int) (lo : Lo) (st : List Av) (σ : Sg) : Option Nx := if (pc : Int) + off < 0 then none else go ((pc : Int) + off).toNat lo st σ
def icm (q : ClassFile.Cond) (x y : Int32) : Bool := match q with
  | .eq => decide (x = y)
  | .ne => !decide (x = y)
  | .lt => decide (x < y)
  | .ge => decide (y ≤ x)
  | .gt => decide (y < x)
  | .le => decide (x ≤ y)
def brn (b : Bool) (pc : Nat) (off : Int) (lo : Lo) (st : List Av) (σ : Sg) : Option Nx := if b then jp pc off lo st σ else go (pc + 3) lo st σ
def swo : List (Int × Int) → Int → Int32 → Int
  | [], d, _ => d
  | (a, o) :: r, d, x => if x.toInt = a then o else swo r d x
def tbl (lo : Int) : List Int → List (Int × Int)
  | [] => []
  | o :: r => (lo, o) :: tbl (lo + 1) r
def exi (q : Option (Nat × Nat)) (σ : Sg) : Bool := match q with
  | none => true
  | some q => decide (q.2 < cn σ q.1)
def cko (x : Option (Nat × Nat)) (t : Nat) : Bool := match x with
  | none => true
  | some z => decide (z.1 = t)
/-- all instructions but calls -/
def st1 (g : Nat → Nat → Nat) (mi pc : Nat) (i : Instr) (lo : Lo) (st : List Av) (σ : Sg) : Option Nx := match i with
  | .ldc x => (kI.lookup (ow mi, x)).bind (fun q => go (pc + 2) lo (.inl q.1 :: st) σ)
  | .ldc2_w x => (kJ.lookup (ow mi, x)).bind (fun q => go (pc + 3) lo (.inr (.inl q.1) :: st) σ)
  | .iload_n k => ldI (lg lo k.val) (pc + 1) lo st σ
  | .iload k => ldI (lg lo k) (pc + 2) lo st σ
  | .lload_n k => ldJ (lg lo k.val) (pc + 1) lo st σ
  | .lload k => ldJ (lg lo k) (pc + 2) lo st σ
  | .aload_n k => ldP (lg lo k.val) (pc + 1) lo st σ
  | .aload k => ldP (lg lo k) (pc + 2) lo st σ
  | .istore_n k => toI k.val (pc + 1) lo st σ
  | .istore k => toI k (pc + 2) lo st σ
  | .lstore_n k => toJ k.val (pc + 1) lo st σ
  | .lstore k => toJ k (pc + 2) lo st σ
  | .astore_n k => toP k.val (pc + 1) lo st σ
  | .astore k => toP k (pc + 2) lo st σ
  | .iinc k n => (match lg lo k with
    | some (.inl x) => (s1 lo k (.inl (x + Int32.ofInt n))).bind (fun l => go (pc + 3) l st σ)
    | _ => none)
  | .goto off => jp pc off lo st σ
  | .ifCond q off => (match st with
    | .inl x :: r => brn (icm q x 0) pc off lo r σ
    | _ => none)
  | .if_icmp q off => (match st with
    | .inl y :: .inl x :: r => brn (icm q x y) pc off lo r σ
    | _ => none)
  | .ifnull off => (match st with
    | .inr (.inr x) :: r => brn (decide (x = none)) pc off lo r σ
    | _ => none)
  | .ifnonnull off => (match st with
    | .inr (.inr x) :: r => brn (!decide (x = none)) pc off lo r σ
    | _ => none)
  | .if_acmp q off => (match st with
    | .inr (.inr y) :: .inr (.inr x) :: r => if exi x σ && exi y σ then brn (match q with | .eq => decide (x = y) | .ne => !decide (x = y)) pc off lo r σ else none
    | _ => none)
  | .tableswitch d l h offs => (match st with
    | .inl x :: r => if h = l + offs.size - 1 then jp pc (swo (tbl l offs.toList) d x) lo r σ else none
    | _ => none)
  | .lookupswitch d ps => (match st with
    | .inl x :: r => if (ps.toList.zip (ps.toList.drop 1)).all (fun (a, next) => a.1 < next.1) = true then jp pc (swo ps.toList d x) lo r σ else none
    | _ => none)
  | .getfield x => (match st with
    | .inr (.inr (some q)) :: r => (fL.lookup (ow mi, x)).bind (fun f => if q.1 = f.1 ∧ q.2 < cn σ f.1 then go (pc + 3) lo (rd σ f.1 f.2.1 q.2 :: r) σ else none)
    | _ => none)
  | .putfield x => (match st with
    | v :: .inr (.inr (some q)) :: r => (fL.lookup (ow mi, x)).bind (fun f => if q.1 = f.1 ∧ q.2 < cn σ f.1 then (wr σ f.1 f.2.1 q.2 v).bind (fun τ => go (pc + 3) lo r τ) else none)
    | _ => none)
  | .arraylength => (match st with
    | .inr (.inr (some q)) :: r => if 12 ≤ q.1 ∧ q.1 < 55 ∧ q.2 < cn σ q.1 then go (pc + 1) lo (.inl (Int32.ofNat (ln σ q.1 q.2)) :: r) σ else none
    | _ => none)
  | .iaload => (match st with
    | .inl j :: .inr (.inr (some q)) :: r => if 12 ≤ q.1 ∧ q.1 < 55 ∧ kd q.1 0 = 0 ∧ q.2 < cn σ q.1 ∧ ¬ (j < 0 ∨ ln σ q.1 q.2 ≤ j.toNatClampNeg) then go (pc + 1) lo (.inl (gI σ q.1 j.toNatClampNeg q.2) :: r) σ else none
    | _ => none)
  | .laload => (match st with
    | .inl j :: .inr (.inr (some q)) :: r => if 12 ≤ q.1 ∧ q.1 < 55 ∧ kd q.1 0 = 2 ∧ q.2 < cn σ q.1 ∧ ¬ (j < 0 ∨ ln σ q.1 q.2 ≤ j.toNatClampNeg) then go (pc + 1) lo (.inr (.inl (gJ σ q.1 j.toNatClampNeg q.2)) :: r) σ else none
    | _ => none)
  | .aaload => (match st with
    | .inl j :: .inr (.inr (some q)) :: r => if 12 ≤ q.1 ∧ q.1 < 55 ∧ 3 ≤ kd q.1 0 ∧ q.2 < cn σ q.1 ∧ ¬ (j < 0 ∨ ln σ q.1 q.2 ≤ j.toNatClampNeg) then go (pc + 1) lo (.inr (.inr (mk (kd q.1 0 - 3) (gP σ q.1 j.toNatClampNeg q.2))) :: r) σ else none
    | _ => none)
  | .iastore => (match st with
    | .inl x :: .inl j :: .inr (.inr (some q)) :: r => if 12 ≤ q.1 ∧ q.1 < 55 ∧ kd q.1 0 = 0 ∧ q.2 < cn σ q.1 ∧ ¬ (j < 0 ∨ ln σ q.1 q.2 ≤ j.toNatClampNeg) then go (pc + 1) lo r (sI σ q.1 j.toNatClampNeg q.2 x) else none
    | _ => none)
  | .lastore => (match st with
    | .inr (.inl x) :: .inl j :: .inr (.inr (some q)) :: r => if 12 ≤ q.1 ∧ q.1 < 55 ∧ kd q.1 0 = 2 ∧ q.2 < cn σ q.1 ∧ ¬ (j < 0 ∨ ln σ q.1 q.2 ≤ j.toNatClampNeg) then go (pc + 1) lo r (sJ σ q.1 j.toNatClampNeg q.2 x) else none
    | _ => none)
  | .aastore => (match st with
    | .inr (.inr x) :: .inl j :: .inr (.inr (some q)) :: r => if 12 ≤ q.1 ∧ q.1 < 55 ∧ 3 ≤ kd q.1 0 ∧ q.2 < cn σ q.1 ∧ ¬ (j < 0 ∨ ln σ q.1 q.2 ≤ j.toNatClampNeg) ∧ exi x σ = true ∧ cko x (kd q.1 0 - 3) = true then go (pc + 1) lo r (sP σ q.1 j.toNatClampNeg q.2 (x.map (fun z => z.2))) else none
    | _ => none)
  | .new x => (cL.lookup (ow mi, x)).bind (fun f => if sz σ = g f.1 (cn σ f.1) then go (pc + 3) lo (.inr (.inr (some (f.1, cn σ f.1))) :: st) (nw σ f.1 (((KD[f.1]?).getD []).length)) else none)
  | .newarray t => (match st with
    | .inl n :: r => (sL.lookup (mi, pc)).bind (fun c => if sz σ = g c (cn σ c) ∧ ¬ n < 0 ∧ n.toNatClampNeg ≤ 65536 ∧ ((t = .int ∧ kd c 0 = 0) ∨ (t = .long ∧ kd c 0 = 2)) then go (pc + 2) lo (.inr (.inr (some (c, cn σ c))) :: r) (nw σ c n.toNatClampNeg) else none)
    | _ => none)
  | .anewarray x => (match st with
    | .inl n :: r => (sL.lookup (mi, pc)).bind (fun c => (cL.lookup (ow mi, x)).bind (fun f => if sz σ = g c (cn σ c) ∧ ¬ n < 0 ∧ n.toNatClampNeg ≤ 65536 ∧ kd c 0 = f.1 + 3 then go (pc + 3) lo (.inr (.inr (some (c, cn σ c))) :: r) (nw σ c n.toNatClampNeg) else none))
    | _ => none)
  | .ireturn => (match st with
    | [.inl x] => if rT mi = some .int ∨ (rT mi = some .boolean ∧ (x = 0 ∨ x = 1)) then some (.inr (some (.inl x))) else none
    | _ => none)
  | .lreturn => (match st with
    | [.inr (.inl x)] => if rT mi = some .long then some (.inr (some (.inr (.inl x)))) else none
    | _ => none)
  | .areturn => (match st with
    | [.inr (.inr x)] => some (.inr (some (.inr (.inr x))))
    | _ => none)
  | .return_ => (match st with
    | [] => some (.inr none)
    | _ => none)
  | i => (pu i st).bind (fun s => go (pc + il i) lo s σ)
-- calls
def tk : Nat → List Av → List Av → Option (List Av × List Av)
  | 0, a, st => some (a, st)
  | n + 1, a, v :: st => tk n (v :: a) st
  | _ + 1, _, [] => none
def al : List Av → Lo
  | [] => []
  | .inr (.inl x) :: r => some (.inr (.inl x)) :: none :: al r
  | v :: r => some v :: al r
def pd (m : Nat) (lo : Lo) : Lo := lo ++ List.replicate (m - lo.length) none
def cw (st : List Av) : Nat := (st.map (fun v => if isJ v then 2 else 1)).sum
def cI (i : Instr) : Option (Nat × List Nat) := match i with
  | .invokevirtual x => some (x, [0])
  | .invokespecial x => some (x, [1, 3, 5])
  | .invokestatic x => some (x, [2, 4])
  | _ => none
def rcv (mj : Nat) (as : List Av) (σ : Sg) : Bool := match as with
  | .inr (.inr (some q)) :: _ => decide (q.1 = ow mj ∧ q.2 < cn σ q.1)
  | _ => false
def rc1 (as : List Av) : Bool := match as with
  | .inr (.inr (some _)) :: _ => true
  | _ => false
/-- the call of Object's constructor -/
def c0 (mi x : Nat) (ks : List Nat) (st : List Av) : Option (List Av) := match st with
  | .inr (.inr (some _)) :: r => (mL.lookup (ow mi, x)).bind (fun q => if q.2.1 = 5 ∧ 5 ∈ ks ∧ 1 ≤ fN mi ∧ cw r + 12 ≤ lW mi then some r else none)
  | _ => none
def c2 (mi mj k : Nat) (a : List Av × List Av) (σ : Sg) : Bool := decide (cw a.2 ≤ 8) && decide (fN mj + 1 ≤ fN mi) && decide (8 + (mx mj + 11) + lW mj ≤ lW mi) && decide ((al a.1).length ≤ mx mj) && (if k = 0 then rcv mj a.1 σ else if k = 1 ∨ k = 3 then rc1 a.1 else true)
/-- what a call needs: the callee, its arguments, the rest of the stack -/
def c1 (mi x : Nat) (ks : List Nat) (st : List Av) (σ : Sg) : Option (Nat × List Av × List Av) := (mL.lookup (ow mi, x)).bind (fun q => if q.2.1 ∈ ks ∧ q.2.1 < 5 ∧ q.1 < 184 then (tk (nP q.1) [] st).bind (fun a => if c2 mi q.1 q.2.1 a σ = true then some (q.1, a.1, a.2) else none) else none)
def ex (g : Nat → Nat → Nat) : Nat → Nat → Nat → Lo → List Av → Sg → Option (Sg × Option Av)
  | 0, _, _, _, _, _ => none
  | n + 1, mi, pc, lo, st, σ => match ii mi pc with
    | none => none
    | some (i, _) => match cI i with
      | none => (match st1 g mi pc i lo st σ with
        | none => none
        | some (.inr r) => some (σ, r)
        | some (.inl q) => ex g n mi q.1 q.2.1 q.2.2.1 q.2.2.2)
      | some (x, ks) => (match c0 mi x ks st with
        | some r => ex g n mi (pc + 3) lo r σ
        | none => (match c1 mi x ks st σ with
          | none => none
          | some q => (match ex g n q.1 0 (pd (mx q.1) (al q.2.1)) [] σ with
            | none => none
            | some w => ex g n mi (pc + 3) lo (w.2.toList ++ q.2.2) w.1)))
theorem ex_mono {g : Nat → Nat → Nat} : ∀ (n mi pc : Nat) (lo : Lo) (st : List Av) (σ : Sg) (X : Sg × Option Av), ex g n mi pc lo st σ = some X → ex g (n + 1) mi pc lo st σ = some X := by
  intro n
  induction n with
  | zero => intro mi pc lo st σ X h; simp [ex] at h
  | succ n ih =>
    intro mi pc lo st σ X h
    rw [ex] at h ⊢
    split at h
    · simp at h
    · rename_i i _ hi
      split at h
      · split at h
        · simp at h
        · exact h
        · exact ih _ _ _ _ _ _ h
      · split at h
        · exact ih _ _ _ _ _ _ h
        · split at h
          · simp at h
          · split at h
            · simp at h
            · rename_i w hw
              rw [ih _ _ _ _ _ _ hw]
              exact ih _ _ _ _ _ _ h
theorem ex_le {g : Nat → Nat → Nat} {n m mi pc : Nat} {lo : Lo} {st : List Av} {σ : Sg} {X : Sg × Option Av} (h : ex g n mi pc lo st σ = some X) (hm : n ≤ m) : ex g m mi pc lo st σ = some X := by
  induction hm with
  | refl => exact h
  | step _ ih => exact ex_mono _ _ _ _ _ _ _ ih
theorem ex_det {g : Nat → Nat → Nat} {n m mi pc : Nat} {lo : Lo} {st : List Av} {σ : Sg} {X Y : Sg × Option Av} (h : ex g n mi pc lo st σ = some X) (k : ex g m mi pc lo st σ = some Y) : X = Y := by
  have h1 := ex_le h (Nat.le_max_left n m)
  have h2 := ex_le k (Nat.le_max_right n m)
  rw [h1] at h2
  exact Option.some.inj h2
/-- the method mi, from pc on, comes to its end with X -/
def Rn (g : Nat → Nat → Nat) (mi pc : Nat) (lo : Lo) (st : List Av) (σ : Sg) (X : Sg × Option Av) : Prop := ∃ n, ex g n mi pc lo st σ = some X
theorem Rn_go {g : Nat → Nat → Nat} {mi pc pc' len : Nat} {i : Instr} {lo lo' : Lo} {st st' : List Av} {σ τ : Sg} {X : Sg × Option Av} (h : ii mi pc = some (i, len)) (hc : cI i = none) (hs : st1 g mi pc i lo st σ = some (.inl (pc', lo', st', τ))) : Rn g mi pc lo st σ X = Rn g mi pc' lo' st' τ X := by
  apply propext
  constructor
  · rintro ⟨n, hn⟩
    cases n with
    | zero => simp [ex] at hn
    | succ n =>
      rw [ex, h] at hn
      simp only [hc, hs] at hn
      exact ⟨n, hn⟩
  · rintro ⟨n, hn⟩
    refine ⟨n + 1, ?_⟩
    rw [ex, h]
    simp only [hc, hs]
    exact hn
theorem Rn_ret {g : Nat → Nat → Nat} {mi pc len : Nat} {i : Instr} {lo : Lo} {st : List Av} {σ : Sg} {r : Option Av} {X : Sg × Option Av} (h : ii mi pc = some (i, len)) (hc : cI i = none) (hs : st1 g mi pc i lo st σ = some (.inr r)) : Rn g mi pc lo st σ X = (X = (σ, r)) := by
  apply propext
  constructor
  · rintro ⟨n, hn⟩
    cases n with
    | zero => simp [ex] at hn
    | succ n =>
      rw [ex, h] at hn
      simp only [hc, hs] at hn
      exact (Option.some.inj hn).symm
  · rintro rfl
    refine ⟨1, ?_⟩
    rw [ex, h]
    simp only [hc, hs]
theorem Rn_obj {g : Nat → Nat → Nat} {mi pc len x : Nat} {ks : List Nat} {i : Instr} {lo : Lo} {st r : List Av} {σ : Sg} {X : Sg × Option Av} (h : ii mi pc = some (i, len)) (hc : cI i = some (x, ks)) (hs : c0 mi x ks st = some r) : Rn g mi pc lo st σ X = Rn g mi (pc + 3) lo r σ X := by
  apply propext
  constructor
  · rintro ⟨n, hn⟩
    cases n with
    | zero => simp [ex] at hn
    | succ n =>
      rw [ex, h] at hn
      simp only [hc, hs] at hn
      exact ⟨n, hn⟩
  · rintro ⟨n, hn⟩
    refine ⟨n + 1, ?_⟩
    rw [ex, h]
    simp only [hc, hs]
    exact hn
theorem Rn_call {g : Nat → Nat → Nat} {mi pc len x mj : Nat} {ks : List Nat} {i : Instr} {lo lj : Lo} {st as r : List Av} {σ : Sg} {X : Sg × Option Av} (h : ii mi pc = some (i, len)) (hc : cI i = some (x, ks)) (h0 : c0 mi x ks st = none) (hs : c1 mi x ks st σ = some (mj, as, r)) (hl : pd (mx mj) (al as) = lj) : Rn g mi pc lo st σ X = ∃ Y, Rn g mj 0 lj [] σ Y ∧ Rn g mi (pc + 3) lo (Y.2.toList ++ r) Y.1 X := by
  subst hl
  apply propext
  constructor
  · rintro ⟨n, hn⟩
    cases n with
    | zero => simp [ex] at hn
    | succ n =>
      rw [ex, h] at hn
      simp only [hc, h0, hs] at hn
      split at hn
      · simp at hn
      · rename_i w hw
        exact ⟨w, ⟨n, hw⟩, ⟨n, hn⟩⟩
  · rintro ⟨Y, ⟨n, hn⟩, ⟨m, hm⟩⟩
    refine ⟨max n m + 1, ?_⟩
    rw [ex, h]
    simp only [hc, h0, hs]
    rw [ex_le hn (Nat.le_max_left n m)]
    exact ex_le hm (Nat.le_max_right n m)
end
