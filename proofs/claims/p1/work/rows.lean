section
-- ===== PART A: goes FIRST, ahead of the names: the tables' words, and 'selects' of the private methods out of them =====
/-- a private method of a class that the tables say can be made, by its rows of tables_1 -/
def lw_okq (q : MethodName × Nat) : Prop := (q.1.cls ≠ "java/lang/invoke/MethodHandle" ∧ q.1.cls ≠ "java/lang/invoke/VarHandle") ∧ Cond.instantiable q.1.cls q.2 ∈ tables_1 ∧ Cond.privateMethod q.1 ∈ tables_1 ∧ Cond.instanceMethod q.1 ∈ tables_1
theorem lw_p0 : lw_okq (⟨"SortWorks", "refuse", "(I)I"⟩, 9) := ⟨⟨by decide +kernel, by decide +kernel⟩, List.mem_of_getElem? (i := 18) (by decide +kernel), List.mem_of_getElem? (i := 531) (by decide +kernel), List.mem_of_getElem? (i := 532) (by decide +kernel)⟩
theorem lw_p1 : lw_okq (⟨"SortWorks", "done", "(I)I"⟩, 9) := ⟨⟨by decide +kernel, by decide +kernel⟩, List.mem_of_getElem? (i := 18) (by decide +kernel), List.mem_of_getElem? (i := 535) (by decide +kernel), List.mem_of_getElem? (i := 536) (by decide +kernel)⟩
theorem lw_p2 : lw_okq (⟨"SortWorks", "built", "(I)I"⟩, 9) := ⟨⟨by decide +kernel, by decide +kernel⟩, List.mem_of_getElem? (i := 18) (by decide +kernel), List.mem_of_getElem? (i := 555) (by decide +kernel), List.mem_of_getElem? (i := 556) (by decide +kernel)⟩
theorem lw_p3 : lw_okq (⟨"SortWorks$Judge", "takeRule", "(I)Z"⟩, 4) := ⟨⟨by decide +kernel, by decide +kernel⟩, List.mem_of_getElem? (i := 477) (by decide +kernel), List.mem_of_getElem? (i := 670) (by decide +kernel), List.mem_of_getElem? (i := 671) (by decide +kernel)⟩
theorem lw_p4 : lw_okq (⟨"SortWorks$Judge", "next", "()I"⟩, 4) := ⟨⟨by decide +kernel, by decide +kernel⟩, List.mem_of_getElem? (i := 477) (by decide +kernel), List.mem_of_getElem? (i := 674) (by decide +kernel), List.mem_of_getElem? (i := 675) (by decide +kernel)⟩
theorem lw_p5 : lw_okq (⟨"SortWorks$Judge", "takeTests", "(I)Z"⟩, 4) := ⟨⟨by decide +kernel, by decide +kernel⟩, List.mem_of_getElem? (i := 477) (by decide +kernel), List.mem_of_getElem? (i := 678) (by decide +kernel), List.mem_of_getElem? (i := 679) (by decide +kernel)⟩
theorem lw_p6 : lw_okq (⟨"SortWorks$Judge", "takeTest", "(I)Z"⟩, 4) := ⟨⟨by decide +kernel, by decide +kernel⟩, List.mem_of_getElem? (i := 477) (by decide +kernel), List.mem_of_getElem? (i := 682) (by decide +kernel), List.mem_of_getElem? (i := 683) (by decide +kernel)⟩
theorem lw_p7 : lw_okq (⟨"SortWorks$Judge", "take", "(I)Z"⟩, 4) := ⟨⟨by decide +kernel, by decide +kernel⟩, List.mem_of_getElem? (i := 477) (by decide +kernel), List.mem_of_getElem? (i := 686) (by decide +kernel), List.mem_of_getElem? (i := 687) (by decide +kernel)⟩
theorem lw_p8 : lw_okq (⟨"SortWorks$Judge", "takeNumber", "()I"⟩, 4) := ⟨⟨by decide +kernel, by decide +kernel⟩, List.mem_of_getElem? (i := 477) (by decide +kernel), List.mem_of_getElem? (i := 690) (by decide +kernel), List.mem_of_getElem? (i := 691) (by decide +kernel)⟩
theorem lw_p9 : lw_okq (⟨"SortWorks$Judge", "takeTold", "(I)Z"⟩, 4) := ⟨⟨by decide +kernel, by decide +kernel⟩, List.mem_of_getElem? (i := 477) (by decide +kernel), List.mem_of_getElem? (i := 694) (by decide +kernel), List.mem_of_getElem? (i := 695) (by decide +kernel)⟩
theorem lw_p10 : lw_okq (⟨"SortWorks", "newParcel", "()LSortWorks$Parcel;"⟩, 9) := ⟨⟨by decide +kernel, by decide +kernel⟩, List.mem_of_getElem? (i := 18) (by decide +kernel), List.mem_of_getElem? (i := 715) (by decide +kernel), List.mem_of_getElem? (i := 716) (by decide +kernel)⟩
theorem lw_p11 : lw_okq (⟨"SortWorks$State", "setDown", "(LSortWorks$Parcel;I)V"⟩, 9) := ⟨⟨by decide +kernel, by decide +kernel⟩, List.mem_of_getElem? (i := 33) (by decide +kernel), List.mem_of_getElem? (i := 734) (by decide +kernel), List.mem_of_getElem? (i := 735) (by decide +kernel)⟩
theorem lw_p12 : lw_okq (⟨"SortWorks$Parcel", "writeFormA", "(I)V"⟩, 13) := ⟨⟨by decide +kernel, by decide +kernel⟩, List.mem_of_getElem? (i := 161) (by decide +kernel), List.mem_of_getElem? (i := 758) (by decide +kernel), List.mem_of_getElem? (i := 759) (by decide +kernel)⟩
theorem lw_p13 : lw_okq (⟨"SortWorks$Parcel", "writeFormB", "(I)V"⟩, 13) := ⟨⟨by decide +kernel, by decide +kernel⟩, List.mem_of_getElem? (i := 161) (by decide +kernel), List.mem_of_getElem? (i := 762) (by decide +kernel), List.mem_of_getElem? (i := 763) (by decide +kernel)⟩
theorem lw_p14 : lw_okq (⟨"SortWorks$Step", "doPlan", "(I)V"⟩, 5) := ⟨⟨by decide +kernel, by decide +kernel⟩, List.mem_of_getElem? (i := 429) (by decide +kernel), List.mem_of_getElem? (i := 877) (by decide +kernel), List.mem_of_getElem? (i := 878) (by decide +kernel)⟩
theorem lw_p15 : lw_okq (⟨"SortWorks$Step", "planFault", "([II)I"⟩, 5) := ⟨⟨by decide +kernel, by decide +kernel⟩, List.mem_of_getElem? (i := 429) (by decide +kernel), List.mem_of_getElem? (i := 881) (by decide +kernel), List.mem_of_getElem? (i := 882) (by decide +kernel)⟩
def lw_privs_1 : List (MethodName × Nat) := [(⟨"SortWorks", "refuse", "(I)I"⟩, 9), (⟨"SortWorks", "done", "(I)I"⟩, 9), (⟨"SortWorks", "built", "(I)I"⟩, 9), (⟨"SortWorks$Judge", "takeRule", "(I)Z"⟩, 4), (⟨"SortWorks$Judge", "next", "()I"⟩, 4), (⟨"SortWorks$Judge", "takeTests", "(I)Z"⟩, 4), (⟨"SortWorks$Judge", "takeTest", "(I)Z"⟩, 4), (⟨"SortWorks$Judge", "take", "(I)Z"⟩, 4), (⟨"SortWorks$Judge", "takeNumber", "()I"⟩, 4), (⟨"SortWorks$Judge", "takeTold", "(I)Z"⟩, 4), (⟨"SortWorks", "newParcel", "()LSortWorks$Parcel;"⟩, 9), (⟨"SortWorks$State", "setDown", "(LSortWorks$Parcel;I)V"⟩, 9), (⟨"SortWorks$Parcel", "writeFormA", "(I)V"⟩, 13), (⟨"SortWorks$Parcel", "writeFormB", "(I)V"⟩, 13), (⟨"SortWorks$Step", "doPlan", "(I)V"⟩, 5), (⟨"SortWorks$Step", "planFault", "([II)I"⟩, 5)]
theorem lw_r1 : ∀ q ∈ lw_privs_1, lw_okq q := List.forall_mem_cons.mpr ⟨lw_p0, List.forall_mem_cons.mpr ⟨lw_p1, List.forall_mem_cons.mpr ⟨lw_p2, List.forall_mem_cons.mpr ⟨lw_p3, List.forall_mem_cons.mpr ⟨lw_p4, List.forall_mem_cons.mpr ⟨lw_p5, List.forall_mem_cons.mpr ⟨lw_p6, List.forall_mem_cons.mpr ⟨lw_p7, List.forall_mem_cons.mpr ⟨lw_p8, List.forall_mem_cons.mpr ⟨lw_p9, List.forall_mem_cons.mpr ⟨lw_p10, List.forall_mem_cons.mpr ⟨lw_p11, List.forall_mem_cons.mpr ⟨lw_p12, List.forall_mem_cons.mpr ⟨lw_p13, List.forall_mem_cons.mpr ⟨lw_p14, List.forall_mem_cons.mpr ⟨lw_p15, fun _ h => absurd h List.not_mem_nil⟩⟩⟩⟩⟩⟩⟩⟩⟩⟩⟩⟩⟩⟩⟩⟩
theorem lw_p16 : lw_okq (⟨"SortWorks$Step", "addFinding", "(IIII)V"⟩, 5) := ⟨⟨by decide +kernel, by decide +kernel⟩, List.mem_of_getElem? (i := 429) (by decide +kernel), List.mem_of_getElem? (i := 895) (by decide +kernel), List.mem_of_getElem? (i := 896) (by decide +kernel)⟩
theorem lw_p17 : lw_okq (⟨"SortWorks$Step", "letMergesChoose", "()V"⟩, 5) := ⟨⟨by decide +kernel, by decide +kernel⟩, List.mem_of_getElem? (i := 429) (by decide +kernel), List.mem_of_getElem? (i := 903) (by decide +kernel), List.mem_of_getElem? (i := 904) (by decide +kernel)⟩
theorem lw_p18 : lw_okq (⟨"SortWorks$Step", "isReadyToGive", "(LSortWorks$Gear;)Z"⟩, 5) := ⟨⟨by decide +kernel, by decide +kernel⟩, List.mem_of_getElem? (i := 429) (by decide +kernel), List.mem_of_getElem? (i := 907) (by decide +kernel), List.mem_of_getElem? (i := 908) (by decide +kernel)⟩
theorem lw_p19 : lw_okq (⟨"SortWorks$Step", "isInStep", "(LSortWorks$Gear;)Z"⟩, 5) := ⟨⟨by decide +kernel, by decide +kernel⟩, List.mem_of_getElem? (i := 429) (by decide +kernel), List.mem_of_getElem? (i := 912) (by decide +kernel), List.mem_of_getElem? (i := 913) (by decide +kernel)⟩
theorem lw_p20 : lw_okq (⟨"SortWorks$Step", "isBetter", "(ILSortWorks$Gear;)Z"⟩, 5) := ⟨⟨by decide +kernel, by decide +kernel⟩, List.mem_of_getElem? (i := 429) (by decide +kernel), List.mem_of_getElem? (i := 932) (by decide +kernel), List.mem_of_getElem? (i := 933) (by decide +kernel)⟩
theorem lw_p21 : lw_okq (⟨"SortWorks$Step", "act", "(I)V"⟩, 5) := ⟨⟨by decide +kernel, by decide +kernel⟩, List.mem_of_getElem? (i := 429) (by decide +kernel), List.mem_of_getElem? (i := 936) (by decide +kernel), List.mem_of_getElem? (i := 937) (by decide +kernel)⟩
theorem lw_p22 : lw_okq (⟨"SortWorks$Step", "addTrace", "(I)V"⟩, 5) := ⟨⟨by decide +kernel, by decide +kernel⟩, List.mem_of_getElem? (i := 429) (by decide +kernel), List.mem_of_getElem? (i := 942) (by decide +kernel), List.mem_of_getElem? (i := 943) (by decide +kernel)⟩
theorem lw_p23 : lw_okq (⟨"SortWorks$Step", "scan", "(ILSortWorks$Gear;)Z"⟩, 5) := ⟨⟨by decide +kernel, by decide +kernel⟩, List.mem_of_getElem? (i := 429) (by decide +kernel), List.mem_of_getElem? (i := 947) (by decide +kernel), List.mem_of_getElem? (i := 948) (by decide +kernel)⟩
theorem lw_p24 : lw_okq (⟨"SortWorks$Reading", "readFormA", "(LSortWorks$Parcel;)I"⟩, 5) := ⟨⟨by decide +kernel, by decide +kernel⟩, List.mem_of_getElem? (i := 435) (by decide +kernel), List.mem_of_getElem? (i := 955) (by decide +kernel), List.mem_of_getElem? (i := 956) (by decide +kernel)⟩
theorem lw_p25 : lw_okq (⟨"SortWorks$Reading", "readFormB", "(LSortWorks$Parcel;)I"⟩, 5) := ⟨⟨by decide +kernel, by decide +kernel⟩, List.mem_of_getElem? (i := 435) (by decide +kernel), List.mem_of_getElem? (i := 959) (by decide +kernel), List.mem_of_getElem? (i := 960) (by decide +kernel)⟩
theorem lw_p26 : lw_okq (⟨"SortWorks$Step", "targetByRules", "(I)I"⟩, 5) := ⟨⟨by decide +kernel, by decide +kernel⟩, List.mem_of_getElem? (i := 429) (by decide +kernel), List.mem_of_getElem? (i := 963) (by decide +kernel), List.mem_of_getElem? (i := 964) (by decide +kernel)⟩
theorem lw_p27 : lw_okq (⟨"SortWorks$Step", "holds", "(I)I"⟩, 5) := ⟨⟨by decide +kernel, by decide +kernel⟩, List.mem_of_getElem? (i := 429) (by decide +kernel), List.mem_of_getElem? (i := 967) (by decide +kernel), List.mem_of_getElem? (i := 968) (by decide +kernel)⟩
theorem lw_p28 : lw_okq (⟨"SortWorks$Step", "quotient", "(I)I"⟩, 5) := ⟨⟨by decide +kernel, by decide +kernel⟩, List.mem_of_getElem? (i := 429) (by decide +kernel), List.mem_of_getElem? (i := 971) (by decide +kernel), List.mem_of_getElem? (i := 972) (by decide +kernel)⟩
theorem lw_p29 : lw_okq (⟨"SortWorks$Step", "plainValue", "(I)I"⟩, 5) := ⟨⟨by decide +kernel, by decide +kernel⟩, List.mem_of_getElem? (i := 429) (by decide +kernel), List.mem_of_getElem? (i := 976) (by decide +kernel), List.mem_of_getElem? (i := 977) (by decide +kernel)⟩
theorem lw_p30 : lw_okq (⟨"SortWorks$Step", "passOn", "(ILSortWorks$Gear;Z)V"⟩, 5) := ⟨⟨by decide +kernel, by decide +kernel⟩, List.mem_of_getElem? (i := 429) (by decide +kernel), List.mem_of_getElem? (i := 983) (by decide +kernel), List.mem_of_getElem? (i := 984) (by decide +kernel)⟩
theorem lw_p31 : lw_okq (⟨"SortWorks$Step", "giveOut", "(ILSortWorks$Gear;LSortWorks$Parcel;)Z"⟩, 5) := ⟨⟨by decide +kernel, by decide +kernel⟩, List.mem_of_getElem? (i := 429) (by decide +kernel), List.mem_of_getElem? (i := 987) (by decide +kernel), List.mem_of_getElem? (i := 988) (by decide +kernel)⟩
def lw_privs_2 : List (MethodName × Nat) := [(⟨"SortWorks$Step", "addFinding", "(IIII)V"⟩, 5), (⟨"SortWorks$Step", "letMergesChoose", "()V"⟩, 5), (⟨"SortWorks$Step", "isReadyToGive", "(LSortWorks$Gear;)Z"⟩, 5), (⟨"SortWorks$Step", "isInStep", "(LSortWorks$Gear;)Z"⟩, 5), (⟨"SortWorks$Step", "isBetter", "(ILSortWorks$Gear;)Z"⟩, 5), (⟨"SortWorks$Step", "act", "(I)V"⟩, 5), (⟨"SortWorks$Step", "addTrace", "(I)V"⟩, 5), (⟨"SortWorks$Step", "scan", "(ILSortWorks$Gear;)Z"⟩, 5), (⟨"SortWorks$Reading", "readFormA", "(LSortWorks$Parcel;)I"⟩, 5), (⟨"SortWorks$Reading", "readFormB", "(LSortWorks$Parcel;)I"⟩, 5), (⟨"SortWorks$Step", "targetByRules", "(I)I"⟩, 5), (⟨"SortWorks$Step", "holds", "(I)I"⟩, 5), (⟨"SortWorks$Step", "quotient", "(I)I"⟩, 5), (⟨"SortWorks$Step", "plainValue", "(I)I"⟩, 5), (⟨"SortWorks$Step", "passOn", "(ILSortWorks$Gear;Z)V"⟩, 5), (⟨"SortWorks$Step", "giveOut", "(ILSortWorks$Gear;LSortWorks$Parcel;)Z"⟩, 5)]
theorem lw_r2 : ∀ q ∈ lw_privs_2, lw_okq q := List.forall_mem_cons.mpr ⟨lw_p16, List.forall_mem_cons.mpr ⟨lw_p17, List.forall_mem_cons.mpr ⟨lw_p18, List.forall_mem_cons.mpr ⟨lw_p19, List.forall_mem_cons.mpr ⟨lw_p20, List.forall_mem_cons.mpr ⟨lw_p21, List.forall_mem_cons.mpr ⟨lw_p22, List.forall_mem_cons.mpr ⟨lw_p23, List.forall_mem_cons.mpr ⟨lw_p24, List.forall_mem_cons.mpr ⟨lw_p25, List.forall_mem_cons.mpr ⟨lw_p26, List.forall_mem_cons.mpr ⟨lw_p27, List.forall_mem_cons.mpr ⟨lw_p28, List.forall_mem_cons.mpr ⟨lw_p29, List.forall_mem_cons.mpr ⟨lw_p30, List.forall_mem_cons.mpr ⟨lw_p31, fun _ h => absurd h List.not_mem_nil⟩⟩⟩⟩⟩⟩⟩⟩⟩⟩⟩⟩⟩⟩⟩⟩
theorem lw_p32 : lw_okq (⟨"SortWorks$Step", "leaveBy", "(IILSortWorks$Parcel;)V"⟩, 5) := ⟨⟨by decide +kernel, by decide +kernel⟩, List.mem_of_getElem? (i := 429) (by decide +kernel), List.mem_of_getElem? (i := 991) (by decide +kernel), List.mem_of_getElem? (i := 992) (by decide +kernel)⟩
theorem lw_p33 : lw_okq (⟨"SortWorks$Step", "giveOn", "(ILSortWorks$Gear;LSortWorks$Parcel;)Z"⟩, 5) := ⟨⟨by decide +kernel, by decide +kernel⟩, List.mem_of_getElem? (i := 429) (by decide +kernel), List.mem_of_getElem? (i := 1000) (by decide +kernel), List.mem_of_getElem? (i := 1001) (by decide +kernel)⟩
theorem lw_p34 : lw_okq (⟨"SortWorks$Step", "takes", "(III)Z"⟩, 5) := ⟨⟨by decide +kernel, by decide +kernel⟩, List.mem_of_getElem? (i := 429) (by decide +kernel), List.mem_of_getElem? (i := 1004) (by decide +kernel), List.mem_of_getElem? (i := 1005) (by decide +kernel)⟩
theorem lw_p35 : lw_okq (⟨"SortWorks$Step", "mergeTakes", "(LSortWorks$Gear;I)Z"⟩, 5) := ⟨⟨by decide +kernel, by decide +kernel⟩, List.mem_of_getElem? (i := 429) (by decide +kernel), List.mem_of_getElem? (i := 1008) (by decide +kernel), List.mem_of_getElem? (i := 1009) (by decide +kernel)⟩
theorem lw_p36 : lw_okq (⟨"SortWorks$Step", "moveUp", "(LSortWorks$Gear;)V"⟩, 5) := ⟨⟨by decide +kernel, by decide +kernel⟩, List.mem_of_getElem? (i := 429) (by decide +kernel), List.mem_of_getElem? (i := 1023) (by decide +kernel), List.mem_of_getElem? (i := 1024) (by decide +kernel)⟩
theorem lw_p37 : lw_okq (⟨"SortWorks$Step", "setDial", "(ILSortWorks$Gear;)V"⟩, 5) := ⟨⟨by decide +kernel, by decide +kernel⟩, List.mem_of_getElem? (i := 429) (by decide +kernel), List.mem_of_getElem? (i := 1028) (by decide +kernel), List.mem_of_getElem? (i := 1029) (by decide +kernel)⟩
theorem lw_p38 : lw_okq (⟨"SortWorks$Step", "lampOf", "(LSortWorks$Gear;)I"⟩, 5) := ⟨⟨by decide +kernel, by decide +kernel⟩, List.mem_of_getElem? (i := 429) (by decide +kernel), List.mem_of_getElem? (i := 1032) (by decide +kernel), List.mem_of_getElem? (i := 1033) (by decide +kernel)⟩
theorem lw_p39 : lw_okq (⟨"SortWorks", "comeByNight", "(III)I"⟩, 9) := ⟨⟨by decide +kernel, by decide +kernel⟩, List.mem_of_getElem? (i := 18) (by decide +kernel), List.mem_of_getElem? (i := 1044) (by decide +kernel), List.mem_of_getElem? (i := 1045) (by decide +kernel)⟩
theorem lw_p40 : lw_okq (⟨"SortWorks$Parcel", "raiseLastByte", "()V"⟩, 13) := ⟨⟨by decide +kernel, by decide +kernel⟩, List.mem_of_getElem? (i := 161) (by decide +kernel), List.mem_of_getElem? (i := 1052) (by decide +kernel), List.mem_of_getElem? (i := 1053) (by decide +kernel)⟩
theorem lw_p41 : lw_okq (⟨"SortWorks$Works", "goAhead", "(II)Z"⟩, 16) := ⟨⟨by decide +kernel, by decide +kernel⟩, List.mem_of_getElem? (i := 27) (by decide +kernel), List.mem_of_getElem? (i := 1159) (by decide +kernel), List.mem_of_getElem? (i := 1160) (by decide +kernel)⟩
theorem lw_p42 : lw_okq (⟨"SortWorks", "mixedGear", "(JLSortWorks$Gear;)J"⟩, 9) := ⟨⟨by decide +kernel, by decide +kernel⟩, List.mem_of_getElem? (i := 18) (by decide +kernel), List.mem_of_getElem? (i := 1193) (by decide +kernel), List.mem_of_getElem? (i := 1194) (by decide +kernel)⟩
theorem lw_p43 : lw_okq (⟨"SortWorksModel", "refused", "(I)I"⟩, 90) := ⟨⟨by decide +kernel, by decide +kernel⟩, List.mem_of_getElem? (i := 1197) (by decide +kernel), List.mem_of_getElem? (i := 1485) (by decide +kernel), List.mem_of_getElem? (i := 1486) (by decide +kernel)⟩
theorem lw_p44 : lw_okq (⟨"SortWorksModel", "well", "(I)I"⟩, 90) := ⟨⟨by decide +kernel, by decide +kernel⟩, List.mem_of_getElem? (i := 1197) (by decide +kernel), List.mem_of_getElem? (i := 1489) (by decide +kernel), List.mem_of_getElem? (i := 1490) (by decide +kernel)⟩
theorem lw_p45 : lw_okq (⟨"SortWorksModel", "g", "(I)I"⟩, 90) := ⟨⟨by decide +kernel, by decide +kernel⟩, List.mem_of_getElem? (i := 1197) (by decide +kernel), List.mem_of_getElem? (i := 1502) (by decide +kernel), List.mem_of_getElem? (i := 1503) (by decide +kernel)⟩
theorem lw_p46 : lw_okq (⟨"SortWorksModel", "fresh", "(II)V"⟩, 90) := ⟨⟨by decide +kernel, by decide +kernel⟩, List.mem_of_getElem? (i := 1197) (by decide +kernel), List.mem_of_getElem? (i := 1506) (by decide +kernel), List.mem_of_getElem? (i := 1507) (by decide +kernel)⟩
theorem lw_p47 : lw_okq (⟨"SortWorksModel", "built", "(I)I"⟩, 90) := ⟨⟨by decide +kernel, by decide +kernel⟩, List.mem_of_getElem? (i := 1197) (by decide +kernel), List.mem_of_getElem? (i := 1516) (by decide +kernel), List.mem_of_getElem? (i := 1517) (by decide +kernel)⟩
def lw_privs_3 : List (MethodName × Nat) := [(⟨"SortWorks$Step", "leaveBy", "(IILSortWorks$Parcel;)V"⟩, 5), (⟨"SortWorks$Step", "giveOn", "(ILSortWorks$Gear;LSortWorks$Parcel;)Z"⟩, 5), (⟨"SortWorks$Step", "takes", "(III)Z"⟩, 5), (⟨"SortWorks$Step", "mergeTakes", "(LSortWorks$Gear;I)Z"⟩, 5), (⟨"SortWorks$Step", "moveUp", "(LSortWorks$Gear;)V"⟩, 5), (⟨"SortWorks$Step", "setDial", "(ILSortWorks$Gear;)V"⟩, 5), (⟨"SortWorks$Step", "lampOf", "(LSortWorks$Gear;)I"⟩, 5), (⟨"SortWorks", "comeByNight", "(III)I"⟩, 9), (⟨"SortWorks$Parcel", "raiseLastByte", "()V"⟩, 13), (⟨"SortWorks$Works", "goAhead", "(II)Z"⟩, 16), (⟨"SortWorks", "mixedGear", "(JLSortWorks$Gear;)J"⟩, 9), (⟨"SortWorksModel", "refused", "(I)I"⟩, 90), (⟨"SortWorksModel", "well", "(I)I"⟩, 90), (⟨"SortWorksModel", "g", "(I)I"⟩, 90), (⟨"SortWorksModel", "fresh", "(II)V"⟩, 90), (⟨"SortWorksModel", "built", "(I)I"⟩, 90)]
theorem lw_r3 : ∀ q ∈ lw_privs_3, lw_okq q := List.forall_mem_cons.mpr ⟨lw_p32, List.forall_mem_cons.mpr ⟨lw_p33, List.forall_mem_cons.mpr ⟨lw_p34, List.forall_mem_cons.mpr ⟨lw_p35, List.forall_mem_cons.mpr ⟨lw_p36, List.forall_mem_cons.mpr ⟨lw_p37, List.forall_mem_cons.mpr ⟨lw_p38, List.forall_mem_cons.mpr ⟨lw_p39, List.forall_mem_cons.mpr ⟨lw_p40, List.forall_mem_cons.mpr ⟨lw_p41, List.forall_mem_cons.mpr ⟨lw_p42, List.forall_mem_cons.mpr ⟨lw_p43, List.forall_mem_cons.mpr ⟨lw_p44, List.forall_mem_cons.mpr ⟨lw_p45, List.forall_mem_cons.mpr ⟨lw_p46, List.forall_mem_cons.mpr ⟨lw_p47, fun _ h => absurd h List.not_mem_nil⟩⟩⟩⟩⟩⟩⟩⟩⟩⟩⟩⟩⟩⟩⟩⟩
theorem lw_p48 : lw_okq (⟨"SortWorksModel", "noGear", "(I)Z"⟩, 90) := ⟨⟨by decide +kernel, by decide +kernel⟩, List.mem_of_getElem? (i := 1197) (by decide +kernel), List.mem_of_getElem? (i := 1524) (by decide +kernel), List.mem_of_getElem? (i := 1525) (by decide +kernel)⟩
theorem lw_p49 : lw_okq (⟨"SortWorksModel", "faulted", "(I)I"⟩, 90) := ⟨⟨by decide +kernel, by decide +kernel⟩, List.mem_of_getElem? (i := 1197) (by decide +kernel), List.mem_of_getElem? (i := 1528) (by decide +kernel), List.mem_of_getElem? (i := 1529) (by decide +kernel)⟩
theorem lw_p50 : lw_okq (⟨"SortWorksModel", "loadOf", "(I)I"⟩, 90) := ⟨⟨by decide +kernel, by decide +kernel⟩, List.mem_of_getElem? (i := 1197) (by decide +kernel), List.mem_of_getElem? (i := 1554) (by decide +kernel), List.mem_of_getElem? (i := 1555) (by decide +kernel)⟩
theorem lw_p51 : lw_okq (⟨"SortWorksModel", "copyGear", "(II)V"⟩, 90) := ⟨⟨by decide +kernel, by decide +kernel⟩, List.mem_of_getElem? (i := 1197) (by decide +kernel), List.mem_of_getElem? (i := 1562) (by decide +kernel), List.mem_of_getElem? (i := 1563) (by decide +kernel)⟩
theorem lw_p52 : lw_okq (⟨"SortWorksModel", "copyRule", "(II)V"⟩, 90) := ⟨⟨by decide +kernel, by decide +kernel⟩, List.mem_of_getElem? (i := 1197) (by decide +kernel), List.mem_of_getElem? (i := 1566) (by decide +kernel), List.mem_of_getElem? (i := 1567) (by decide +kernel)⟩
theorem lw_p53 : lw_okq (⟨"SortWorksModel", "rule", "(I)Z"⟩, 90) := ⟨⟨by decide +kernel, by decide +kernel⟩, List.mem_of_getElem? (i := 1197) (by decide +kernel), List.mem_of_getElem? (i := 1580) (by decide +kernel), List.mem_of_getElem? (i := 1581) (by decide +kernel)⟩
theorem lw_p54 : lw_okq (⟨"SortWorksModel", "wrong", "(I)Z"⟩, 90) := ⟨⟨by decide +kernel, by decide +kernel⟩, List.mem_of_getElem? (i := 1197) (by decide +kernel), List.mem_of_getElem? (i := 1584) (by decide +kernel), List.mem_of_getElem? (i := 1585) (by decide +kernel)⟩
theorem lw_p55 : lw_okq (⟨"SortWorksModel", "here", "()I"⟩, 90) := ⟨⟨by decide +kernel, by decide +kernel⟩, List.mem_of_getElem? (i := 1197) (by decide +kernel), List.mem_of_getElem? (i := 1588) (by decide +kernel), List.mem_of_getElem? (i := 1589) (by decide +kernel)⟩
theorem lw_p56 : lw_okq (⟨"SortWorksModel", "test", "(I)Z"⟩, 90) := ⟨⟨by decide +kernel, by decide +kernel⟩, List.mem_of_getElem? (i := 1197) (by decide +kernel), List.mem_of_getElem? (i := 1592) (by decide +kernel), List.mem_of_getElem? (i := 1593) (by decide +kernel)⟩
theorem lw_p57 : lw_okq (⟨"SortWorksModel", "number", "()Z"⟩, 90) := ⟨⟨by decide +kernel, by decide +kernel⟩, List.mem_of_getElem? (i := 1197) (by decide +kernel), List.mem_of_getElem? (i := 1596) (by decide +kernel), List.mem_of_getElem? (i := 1597) (by decide +kernel)⟩
theorem lw_p58 : lw_okq (⟨"SortWorksModel", "sign", "()Z"⟩, 90) := ⟨⟨by decide +kernel, by decide +kernel⟩, List.mem_of_getElem? (i := 1197) (by decide +kernel), List.mem_of_getElem? (i := 1603) (by decide +kernel), List.mem_of_getElem? (i := 1604) (by decide +kernel)⟩
theorem lw_p59 : lw_okq (⟨"SortWorksModel", "comesFull", "()Z"⟩, 90) := ⟨⟨by decide +kernel, by decide +kernel⟩, List.mem_of_getElem? (i := 1197) (by decide +kernel), List.mem_of_getElem? (i := 1621) (by decide +kernel), List.mem_of_getElem? (i := 1622) (by decide +kernel)⟩
theorem lw_p60 : lw_okq (⟨"SortWorksModel", "newParcel", "(III)I"⟩, 90) := ⟨⟨by decide +kernel, by decide +kernel⟩, List.mem_of_getElem? (i := 1197) (by decide +kernel), List.mem_of_getElem? (i := 1625) (by decide +kernel), List.mem_of_getElem? (i := 1626) (by decide +kernel)⟩
theorem lw_p61 : lw_okq (⟨"SortWorksModel", "enters", "(II)V"⟩, 90) := ⟨⟨by decide +kernel, by decide +kernel⟩, List.mem_of_getElem? (i := 1197) (by decide +kernel), List.mem_of_getElem? (i := 1629) (by decide +kernel), List.mem_of_getElem? (i := 1630) (by decide +kernel)⟩
theorem lw_p62 : lw_okq (⟨"SortWorksModel", "noParcel", "(I)Z"⟩, 90) := ⟨⟨by decide +kernel, by decide +kernel⟩, List.mem_of_getElem? (i := 1197) (by decide +kernel), List.mem_of_getElem? (i := 1637) (by decide +kernel), List.mem_of_getElem? (i := 1638) (by decide +kernel)⟩
theorem lw_p63 : lw_okq (⟨"SortWorksModel", "newLabel", "(II)V"⟩, 90) := ⟨⟨by decide +kernel, by decide +kernel⟩, List.mem_of_getElem? (i := 1197) (by decide +kernel), List.mem_of_getElem? (i := 1641) (by decide +kernel), List.mem_of_getElem? (i := 1642) (by decide +kernel)⟩
def lw_privs_4 : List (MethodName × Nat) := [(⟨"SortWorksModel", "noGear", "(I)Z"⟩, 90), (⟨"SortWorksModel", "faulted", "(I)I"⟩, 90), (⟨"SortWorksModel", "loadOf", "(I)I"⟩, 90), (⟨"SortWorksModel", "copyGear", "(II)V"⟩, 90), (⟨"SortWorksModel", "copyRule", "(II)V"⟩, 90), (⟨"SortWorksModel", "rule", "(I)Z"⟩, 90), (⟨"SortWorksModel", "wrong", "(I)Z"⟩, 90), (⟨"SortWorksModel", "here", "()I"⟩, 90), (⟨"SortWorksModel", "test", "(I)Z"⟩, 90), (⟨"SortWorksModel", "number", "()Z"⟩, 90), (⟨"SortWorksModel", "sign", "()Z"⟩, 90), (⟨"SortWorksModel", "comesFull", "()Z"⟩, 90), (⟨"SortWorksModel", "newParcel", "(III)I"⟩, 90), (⟨"SortWorksModel", "enters", "(II)V"⟩, 90), (⟨"SortWorksModel", "noParcel", "(I)Z"⟩, 90), (⟨"SortWorksModel", "newLabel", "(II)V"⟩, 90)]
theorem lw_r4 : ∀ q ∈ lw_privs_4, lw_okq q := List.forall_mem_cons.mpr ⟨lw_p48, List.forall_mem_cons.mpr ⟨lw_p49, List.forall_mem_cons.mpr ⟨lw_p50, List.forall_mem_cons.mpr ⟨lw_p51, List.forall_mem_cons.mpr ⟨lw_p52, List.forall_mem_cons.mpr ⟨lw_p53, List.forall_mem_cons.mpr ⟨lw_p54, List.forall_mem_cons.mpr ⟨lw_p55, List.forall_mem_cons.mpr ⟨lw_p56, List.forall_mem_cons.mpr ⟨lw_p57, List.forall_mem_cons.mpr ⟨lw_p58, List.forall_mem_cons.mpr ⟨lw_p59, List.forall_mem_cons.mpr ⟨lw_p60, List.forall_mem_cons.mpr ⟨lw_p61, List.forall_mem_cons.mpr ⟨lw_p62, List.forall_mem_cons.mpr ⟨lw_p63, fun _ h => absurd h List.not_mem_nil⟩⟩⟩⟩⟩⟩⟩⟩⟩⟩⟩⟩⟩⟩⟩⟩
theorem lw_p64 : lw_okq (⟨"SortWorksModel", "tags", "(III)V"⟩, 90) := ⟨⟨by decide +kernel, by decide +kernel⟩, List.mem_of_getElem? (i := 1197) (by decide +kernel), List.mem_of_getElem? (i := 1654) (by decide +kernel), List.mem_of_getElem? (i := 1655) (by decide +kernel)⟩
theorem lw_p65 : lw_okq (⟨"SortWorksModel", "isJammed", "(I)Z"⟩, 90) := ⟨⟨by decide +kernel, by decide +kernel⟩, List.mem_of_getElem? (i := 1197) (by decide +kernel), List.mem_of_getElem? (i := 1675) (by decide +kernel), List.mem_of_getElem? (i := 1676) (by decide +kernel)⟩
theorem lw_p66 : lw_okq (⟨"SortWorksModel", "leaves", "(I)V"⟩, 90) := ⟨⟨by decide +kernel, by decide +kernel⟩, List.mem_of_getElem? (i := 1197) (by decide +kernel), List.mem_of_getElem? (i := 1679) (by decide +kernel), List.mem_of_getElem? (i := 1680) (by decide +kernel)⟩
theorem lw_p67 : lw_okq (⟨"SortWorksModel", "isFull", "()Z"⟩, 90) := ⟨⟨by decide +kernel, by decide +kernel⟩, List.mem_of_getElem? (i := 1197) (by decide +kernel), List.mem_of_getElem? (i := 1707) (by decide +kernel), List.mem_of_getElem? (i := 1708) (by decide +kernel)⟩
theorem lw_p68 : lw_okq (⟨"SortWorksModel", "steps", "()V"⟩, 90) := ⟨⟨by decide +kernel, by decide +kernel⟩, List.mem_of_getElem? (i := 1197) (by decide +kernel), List.mem_of_getElem? (i := 1711) (by decide +kernel), List.mem_of_getElem? (i := 1712) (by decide +kernel)⟩
theorem lw_p69 : lw_okq (⟨"SortWorksModel", "keep", "()V"⟩, 90) := ⟨⟨by decide +kernel, by decide +kernel⟩, List.mem_of_getElem? (i := 1197) (by decide +kernel), List.mem_of_getElem? (i := 1715) (by decide +kernel), List.mem_of_getElem? (i := 1716) (by decide +kernel)⟩
theorem lw_p70 : lw_okq (⟨"SortWorksModel", "goOver", "(I)V"⟩, 90) := ⟨⟨by decide +kernel, by decide +kernel⟩, List.mem_of_getElem? (i := 1197) (by decide +kernel), List.mem_of_getElem? (i := 1719) (by decide +kernel), List.mem_of_getElem? (i := 1720) (by decide +kernel)⟩
theorem lw_p71 : lw_okq (⟨"SortWorksModel", "both", "(I)I"⟩, 90) := ⟨⟨by decide +kernel, by decide +kernel⟩, List.mem_of_getElem? (i := 1197) (by decide +kernel), List.mem_of_getElem? (i := 1723) (by decide +kernel), List.mem_of_getElem? (i := 1724) (by decide +kernel)⟩
theorem lw_p72 : lw_okq (⟨"SortWorksModel", "goOverGear", "(I)V"⟩, 90) := ⟨⟨by decide +kernel, by decide +kernel⟩, List.mem_of_getElem? (i := 1197) (by decide +kernel), List.mem_of_getElem? (i := 1727) (by decide +kernel), List.mem_of_getElem? (i := 1728) (by decide +kernel)⟩
theorem lw_p73 : lw_okq (⟨"SortWorksModel", "goOverParcels", "()V"⟩, 90) := ⟨⟨by decide +kernel, by decide +kernel⟩, List.mem_of_getElem? (i := 1197) (by decide +kernel), List.mem_of_getElem? (i := 1731) (by decide +kernel), List.mem_of_getElem? (i := 1732) (by decide +kernel)⟩
theorem lw_p74 : lw_okq (⟨"SortWorksModel", "doPlans", "()V"⟩, 90) := ⟨⟨by decide +kernel, by decide +kernel⟩, List.mem_of_getElem? (i := 1197) (by decide +kernel), List.mem_of_getElem? (i := 1735) (by decide +kernel), List.mem_of_getElem? (i := 1736) (by decide +kernel)⟩
theorem lw_p75 : lw_okq (⟨"SortWorksModel", "planFault", "(I)I"⟩, 90) := ⟨⟨by decide +kernel, by decide +kernel⟩, List.mem_of_getElem? (i := 1197) (by decide +kernel), List.mem_of_getElem? (i := 1739) (by decide +kernel), List.mem_of_getElem? (i := 1740) (by decide +kernel)⟩
theorem lw_p76 : lw_okq (⟨"SortWorksModel", "find", "(III)V"⟩, 90) := ⟨⟨by decide +kernel, by decide +kernel⟩, List.mem_of_getElem? (i := 1197) (by decide +kernel), List.mem_of_getElem? (i := 1743) (by decide +kernel), List.mem_of_getElem? (i := 1744) (by decide +kernel)⟩
theorem lw_p77 : lw_okq (⟨"SortWorksModel", "choose", "()V"⟩, 90) := ⟨⟨by decide +kernel, by decide +kernel⟩, List.mem_of_getElem? (i := 1197) (by decide +kernel), List.mem_of_getElem? (i := 1747) (by decide +kernel), List.mem_of_getElem? (i := 1748) (by decide +kernel)⟩
theorem lw_p78 : lw_okq (⟨"SortWorksModel", "chosenBy", "(I)I"⟩, 90) := ⟨⟨by decide +kernel, by decide +kernel⟩, List.mem_of_getElem? (i := 1197) (by decide +kernel), List.mem_of_getElem? (i := 1751) (by decide +kernel), List.mem_of_getElem? (i := 1752) (by decide +kernel)⟩
theorem lw_p79 : lw_okq (⟨"SortWorksModel", "isActing", "(I)Z"⟩, 90) := ⟨⟨by decide +kernel, by decide +kernel⟩, List.mem_of_getElem? (i := 1197) (by decide +kernel), List.mem_of_getElem? (i := 1755) (by decide +kernel), List.mem_of_getElem? (i := 1756) (by decide +kernel)⟩
def lw_privs_5 : List (MethodName × Nat) := [(⟨"SortWorksModel", "tags", "(III)V"⟩, 90), (⟨"SortWorksModel", "isJammed", "(I)Z"⟩, 90), (⟨"SortWorksModel", "leaves", "(I)V"⟩, 90), (⟨"SortWorksModel", "isFull", "()Z"⟩, 90), (⟨"SortWorksModel", "steps", "()V"⟩, 90), (⟨"SortWorksModel", "keep", "()V"⟩, 90), (⟨"SortWorksModel", "goOver", "(I)V"⟩, 90), (⟨"SortWorksModel", "both", "(I)I"⟩, 90), (⟨"SortWorksModel", "goOverGear", "(I)V"⟩, 90), (⟨"SortWorksModel", "goOverParcels", "()V"⟩, 90), (⟨"SortWorksModel", "doPlans", "()V"⟩, 90), (⟨"SortWorksModel", "planFault", "(I)I"⟩, 90), (⟨"SortWorksModel", "find", "(III)V"⟩, 90), (⟨"SortWorksModel", "choose", "()V"⟩, 90), (⟨"SortWorksModel", "chosenBy", "(I)I"⟩, 90), (⟨"SortWorksModel", "isActing", "(I)Z"⟩, 90)]
theorem lw_r5 : ∀ q ∈ lw_privs_5, lw_okq q := List.forall_mem_cons.mpr ⟨lw_p64, List.forall_mem_cons.mpr ⟨lw_p65, List.forall_mem_cons.mpr ⟨lw_p66, List.forall_mem_cons.mpr ⟨lw_p67, List.forall_mem_cons.mpr ⟨lw_p68, List.forall_mem_cons.mpr ⟨lw_p69, List.forall_mem_cons.mpr ⟨lw_p70, List.forall_mem_cons.mpr ⟨lw_p71, List.forall_mem_cons.mpr ⟨lw_p72, List.forall_mem_cons.mpr ⟨lw_p73, List.forall_mem_cons.mpr ⟨lw_p74, List.forall_mem_cons.mpr ⟨lw_p75, List.forall_mem_cons.mpr ⟨lw_p76, List.forall_mem_cons.mpr ⟨lw_p77, List.forall_mem_cons.mpr ⟨lw_p78, List.forall_mem_cons.mpr ⟨lw_p79, fun _ h => absurd h List.not_mem_nil⟩⟩⟩⟩⟩⟩⟩⟩⟩⟩⟩⟩⟩⟩⟩⟩
theorem lw_p80 : lw_okq (⟨"SortWorksModel", "linkAt", "(I)I"⟩, 90) := ⟨⟨by decide +kernel, by decide +kernel⟩, List.mem_of_getElem? (i := 1197) (by decide +kernel), List.mem_of_getElem? (i := 1762) (by decide +kernel), List.mem_of_getElem? (i := 1763) (by decide +kernel)⟩
theorem lw_p81 : lw_okq (⟨"SortWorksModel", "leads", "(III)Z"⟩, 90) := ⟨⟨by decide +kernel, by decide +kernel⟩, List.mem_of_getElem? (i := 1197) (by decide +kernel), List.mem_of_getElem? (i := 1766) (by decide +kernel), List.mem_of_getElem? (i := 1767) (by decide +kernel)⟩
theorem lw_p82 : lw_okq (⟨"SortWorksModel", "follow", "(II)I"⟩, 90) := ⟨⟨by decide +kernel, by decide +kernel⟩, List.mem_of_getElem? (i := 1197) (by decide +kernel), List.mem_of_getElem? (i := 1770) (by decide +kernel), List.mem_of_getElem? (i := 1771) (by decide +kernel)⟩
theorem lw_p83 : lw_okq (⟨"SortWorksModel", "act", "(I)V"⟩, 90) := ⟨⟨by decide +kernel, by decide +kernel⟩, List.mem_of_getElem? (i := 1197) (by decide +kernel), List.mem_of_getElem? (i := 1774) (by decide +kernel), List.mem_of_getElem? (i := 1775) (by decide +kernel)⟩
theorem lw_p84 : lw_okq (⟨"SortWorksModel", "body", "(I)V"⟩, 90) := ⟨⟨by decide +kernel, by decide +kernel⟩, List.mem_of_getElem? (i := 1197) (by decide +kernel), List.mem_of_getElem? (i := 1778) (by decide +kernel), List.mem_of_getElem? (i := 1779) (by decide +kernel)⟩
theorem lw_p85 : lw_okq (⟨"SortWorksModel", "actPanel", "(I)V"⟩, 90) := ⟨⟨by decide +kernel, by decide +kernel⟩, List.mem_of_getElem? (i := 1197) (by decide +kernel), List.mem_of_getElem? (i := 1782) (by decide +kernel), List.mem_of_getElem? (i := 1783) (by decide +kernel)⟩
theorem lw_p86 : lw_okq (⟨"SortWorksModel", "actTaker", "(I)V"⟩, 90) := ⟨⟨by decide +kernel, by decide +kernel⟩, List.mem_of_getElem? (i := 1197) (by decide +kernel), List.mem_of_getElem? (i := 1786) (by decide +kernel), List.mem_of_getElem? (i := 1787) (by decide +kernel)⟩
theorem lw_p87 : lw_okq (⟨"SortWorksModel", "bodies", "(I)V"⟩, 90) := ⟨⟨by decide +kernel, by decide +kernel⟩, List.mem_of_getElem? (i := 1197) (by decide +kernel), List.mem_of_getElem? (i := 1790) (by decide +kernel), List.mem_of_getElem? (i := 1791) (by decide +kernel)⟩
theorem lw_p88 : lw_okq (⟨"SortWorksModel", "scans", "(II)Z"⟩, 90) := ⟨⟨by decide +kernel, by decide +kernel⟩, List.mem_of_getElem? (i := 1197) (by decide +kernel), List.mem_of_getElem? (i := 1794) (by decide +kernel), List.mem_of_getElem? (i := 1795) (by decide +kernel)⟩
theorem lw_p89 : lw_okq (⟨"SortWorksModel", "reads", "(I)Z"⟩, 90) := ⟨⟨by decide +kernel, by decide +kernel⟩, List.mem_of_getElem? (i := 1197) (by decide +kernel), List.mem_of_getElem? (i := 1798) (by decide +kernel), List.mem_of_getElem? (i := 1799) (by decide +kernel)⟩
theorem lw_p90 : lw_okq (⟨"SortWorksModel", "asked", "(II)I"⟩, 90) := ⟨⟨by decide +kernel, by decide +kernel⟩, List.mem_of_getElem? (i := 1197) (by decide +kernel), List.mem_of_getElem? (i := 1802) (by decide +kernel), List.mem_of_getElem? (i := 1803) (by decide +kernel)⟩
theorem lw_p91 : lw_okq (⟨"SortWorksModel", "holds", "(I)Z"⟩, 90) := ⟨⟨by decide +kernel, by decide +kernel⟩, List.mem_of_getElem? (i := 1197) (by decide +kernel), List.mem_of_getElem? (i := 1806) (by decide +kernel), List.mem_of_getElem? (i := 1807) (by decide +kernel)⟩
theorem lw_p92 : lw_okq (⟨"SortWorksModel", "quotientOf", "(I)I"⟩, 90) := ⟨⟨by decide +kernel, by decide +kernel⟩, List.mem_of_getElem? (i := 1197) (by decide +kernel), List.mem_of_getElem? (i := 1810) (by decide +kernel), List.mem_of_getElem? (i := 1811) (by decide +kernel)⟩
theorem lw_p93 : lw_okq (⟨"SortWorksModel", "bodiesLast", "(I)V"⟩, 90) := ⟨⟨by decide +kernel, by decide +kernel⟩, List.mem_of_getElem? (i := 1197) (by decide +kernel), List.mem_of_getElem? (i := 1814) (by decide +kernel), List.mem_of_getElem? (i := 1815) (by decide +kernel)⟩
theorem lw_p94 : lw_okq (⟨"SortWorksModel", "givesOut", "(II)Z"⟩, 90) := ⟨⟨by decide +kernel, by decide +kernel⟩, List.mem_of_getElem? (i := 1197) (by decide +kernel), List.mem_of_getElem? (i := 1818) (by decide +kernel), List.mem_of_getElem? (i := 1819) (by decide +kernel)⟩
theorem lw_p95 : lw_okq (⟨"SortWorksModel", "goesOut", "(III)V"⟩, 90) := ⟨⟨by decide +kernel, by decide +kernel⟩, List.mem_of_getElem? (i := 1197) (by decide +kernel), List.mem_of_getElem? (i := 1822) (by decide +kernel), List.mem_of_getElem? (i := 1823) (by decide +kernel)⟩
def lw_privs_6 : List (MethodName × Nat) := [(⟨"SortWorksModel", "linkAt", "(I)I"⟩, 90), (⟨"SortWorksModel", "leads", "(III)Z"⟩, 90), (⟨"SortWorksModel", "follow", "(II)I"⟩, 90), (⟨"SortWorksModel", "act", "(I)V"⟩, 90), (⟨"SortWorksModel", "body", "(I)V"⟩, 90), (⟨"SortWorksModel", "actPanel", "(I)V"⟩, 90), (⟨"SortWorksModel", "actTaker", "(I)V"⟩, 90), (⟨"SortWorksModel", "bodies", "(I)V"⟩, 90), (⟨"SortWorksModel", "scans", "(II)Z"⟩, 90), (⟨"SortWorksModel", "reads", "(I)Z"⟩, 90), (⟨"SortWorksModel", "asked", "(II)I"⟩, 90), (⟨"SortWorksModel", "holds", "(I)Z"⟩, 90), (⟨"SortWorksModel", "quotientOf", "(I)I"⟩, 90), (⟨"SortWorksModel", "bodiesLast", "(I)V"⟩, 90), (⟨"SortWorksModel", "givesOut", "(II)Z"⟩, 90), (⟨"SortWorksModel", "goesOut", "(III)V"⟩, 90)]
theorem lw_r6 : ∀ q ∈ lw_privs_6, lw_okq q := List.forall_mem_cons.mpr ⟨lw_p80, List.forall_mem_cons.mpr ⟨lw_p81, List.forall_mem_cons.mpr ⟨lw_p82, List.forall_mem_cons.mpr ⟨lw_p83, List.forall_mem_cons.mpr ⟨lw_p84, List.forall_mem_cons.mpr ⟨lw_p85, List.forall_mem_cons.mpr ⟨lw_p86, List.forall_mem_cons.mpr ⟨lw_p87, List.forall_mem_cons.mpr ⟨lw_p88, List.forall_mem_cons.mpr ⟨lw_p89, List.forall_mem_cons.mpr ⟨lw_p90, List.forall_mem_cons.mpr ⟨lw_p91, List.forall_mem_cons.mpr ⟨lw_p92, List.forall_mem_cons.mpr ⟨lw_p93, List.forall_mem_cons.mpr ⟨lw_p94, List.forall_mem_cons.mpr ⟨lw_p95, fun _ h => absurd h List.not_mem_nil⟩⟩⟩⟩⟩⟩⟩⟩⟩⟩⟩⟩⟩⟩⟩⟩
theorem lw_p96 : lw_okq (⟨"SortWorksModel", "gives", "(II)Z"⟩, 90) := ⟨⟨by decide +kernel, by decide +kernel⟩, List.mem_of_getElem? (i := 1197) (by decide +kernel), List.mem_of_getElem? (i := 1826) (by decide +kernel), List.mem_of_getElem? (i := 1827) (by decide +kernel)⟩
theorem lw_p97 : lw_okq (⟨"SortWorksModel", "takes", "(III)Z"⟩, 90) := ⟨⟨by decide +kernel, by decide +kernel⟩, List.mem_of_getElem? (i := 1197) (by decide +kernel), List.mem_of_getElem? (i := 1830) (by decide +kernel), List.mem_of_getElem? (i := 1831) (by decide +kernel)⟩
theorem lw_p98 : lw_okq (⟨"SortWorksModel", "wants", "(II)I"⟩, 90) := ⟨⟨by decide +kernel, by decide +kernel⟩, List.mem_of_getElem? (i := 1197) (by decide +kernel), List.mem_of_getElem? (i := 1834) (by decide +kernel), List.mem_of_getElem? (i := 1835) (by decide +kernel)⟩
theorem lw_p99 : lw_okq (⟨"SortWorksModel", "spoils", "(II)V"⟩, 90) := ⟨⟨by decide +kernel, by decide +kernel⟩, List.mem_of_getElem? (i := 1197) (by decide +kernel), List.mem_of_getElem? (i := 1843) (by decide +kernel), List.mem_of_getElem? (i := 1844) (by decide +kernel)⟩
theorem lw_p100 : lw_okq (⟨"SortWorksModel", "toldMore", "(II)I"⟩, 90) := ⟨⟨by decide +kernel, by decide +kernel⟩, List.mem_of_getElem? (i := 1197) (by decide +kernel), List.mem_of_getElem? (i := 1860) (by decide +kernel), List.mem_of_getElem? (i := 1861) (by decide +kernel)⟩
theorem lw_p101 : lw_okq (⟨"SortWorksModel", "says", "(I)V"⟩, 90) := ⟨⟨by decide +kernel, by decide +kernel⟩, List.mem_of_getElem? (i := 1197) (by decide +kernel), List.mem_of_getElem? (i := 1900) (by decide +kernel), List.mem_of_getElem? (i := 1901) (by decide +kernel)⟩
theorem lw_p102 : lw_okq (⟨"SortWorksModel", "saysNumber", "(I)V"⟩, 90) := ⟨⟨by decide +kernel, by decide +kernel⟩, List.mem_of_getElem? (i := 1197) (by decide +kernel), List.mem_of_getElem? (i := 1904) (by decide +kernel), List.mem_of_getElem? (i := 1905) (by decide +kernel)⟩
theorem lw_p103 : lw_okq (⟨"SortWorksModel", "spread", "(I)V"⟩, 90) := ⟨⟨by decide +kernel, by decide +kernel⟩, List.mem_of_getElem? (i := 1197) (by decide +kernel), List.mem_of_getElem? (i := 1928) (by decide +kernel), List.mem_of_getElem? (i := 1929) (by decide +kernel)⟩
theorem lw_p104 : lw_okq (⟨"SortWorksModel", "ahead", "(II)V"⟩, 90) := ⟨⟨by decide +kernel, by decide +kernel⟩, List.mem_of_getElem? (i := 1197) (by decide +kernel), List.mem_of_getElem? (i := 1932) (by decide +kernel), List.mem_of_getElem? (i := 1933) (by decide +kernel)⟩
theorem lw_p105 : lw_okq (⟨"SortWorksModel", "adds", "(I)V"⟩, 90) := ⟨⟨by decide +kernel, by decide +kernel⟩, List.mem_of_getElem? (i := 1197) (by decide +kernel), List.mem_of_getElem? (i := 1957) (by decide +kernel), List.mem_of_getElem? (i := 1958) (by decide +kernel)⟩
def lw_privs_7 : List (MethodName × Nat) := [(⟨"SortWorksModel", "gives", "(II)Z"⟩, 90), (⟨"SortWorksModel", "takes", "(III)Z"⟩, 90), (⟨"SortWorksModel", "wants", "(II)I"⟩, 90), (⟨"SortWorksModel", "spoils", "(II)V"⟩, 90), (⟨"SortWorksModel", "toldMore", "(II)I"⟩, 90), (⟨"SortWorksModel", "says", "(I)V"⟩, 90), (⟨"SortWorksModel", "saysNumber", "(I)V"⟩, 90), (⟨"SortWorksModel", "spread", "(I)V"⟩, 90), (⟨"SortWorksModel", "ahead", "(II)V"⟩, 90), (⟨"SortWorksModel", "adds", "(I)V"⟩, 90)]
theorem lw_r7 : ∀ q ∈ lw_privs_7, lw_okq q := List.forall_mem_cons.mpr ⟨lw_p96, List.forall_mem_cons.mpr ⟨lw_p97, List.forall_mem_cons.mpr ⟨lw_p98, List.forall_mem_cons.mpr ⟨lw_p99, List.forall_mem_cons.mpr ⟨lw_p100, List.forall_mem_cons.mpr ⟨lw_p101, List.forall_mem_cons.mpr ⟨lw_p102, List.forall_mem_cons.mpr ⟨lw_p103, List.forall_mem_cons.mpr ⟨lw_p104, List.forall_mem_cons.mpr ⟨lw_p105, fun _ h => absurd h List.not_mem_nil⟩⟩⟩⟩⟩⟩⟩⟩⟩⟩
def lw_privs : List (MethodName × Nat) := lw_privs_1 ++ (lw_privs_2 ++ (lw_privs_3 ++ (lw_privs_4 ++ (lw_privs_5 ++ (lw_privs_6 ++ (lw_privs_7))))))
def lw_tbl : List Cond := k2_sels lw_privs ++ tables_1
theorem lw_privs_ok : ∀ q ∈ lw_privs, lw_okq q := by
  show ∀ q ∈ lw_privs_1 ++ (lw_privs_2 ++ (lw_privs_3 ++ (lw_privs_4 ++ (lw_privs_5 ++ (lw_privs_6 ++ (lw_privs_7)))))), lw_okq q
  exact List.forall_mem_append.mpr ⟨lw_r1, List.forall_mem_append.mpr ⟨lw_r2, List.forall_mem_append.mpr ⟨lw_r3, List.forall_mem_append.mpr ⟨lw_r4, List.forall_mem_append.mpr ⟨lw_r5, List.forall_mem_append.mpr ⟨lw_r6, lw_r7⟩⟩⟩⟩⟩⟩
def RX0 : String := "SortWorks$Gear"
def TX0 : u_T := fun k => match k with
  | 0 => ("SortWorks$Gear", "kind", "I", false)
  | 1 => ("SortWorks$Gear", "length", "I", false)
  | 2 => ("SortWorks$Gear", "rank", "I", false)
  | 3 => ("SortWorks$Gear", "links", "[I", false)
  | 4 => ("SortWorks$Gear", "setOne", "J", false)
  | 5 => ("SortWorks$Gear", "setTwo", "J", false)
  | 6 => ("SortWorks$Gear", "side", "I", false)
  | 7 => ("SortWorks$Gear", "open", "Z", false)
  | 8 => ("SortWorks$Gear", "wait", "I", false)
  | 9 => ("SortWorks$Gear", "lamp", "I", false)
  | 10 => ("SortWorks$Gear", "came", "I", false)
  | 11 => ("SortWorks$Gear", "went", "I", false)
  | 12 => ("SortWorks$Gear", "findings", "I", false)
  | 13 => ("SortWorks$Gear", "acts", "I", false)
  | 14 => ("SortWorks$Gear", "releases", "I", false)
  | 15 => ("SortWorks$Gear", "last", "I", false)
  | 16 => ("SortWorks$Gear", "dial", "I", false)
  | 17 => ("SortWorks$Gear", "slots", "[I", true)
  | _ => ("SortWorks$Gear", "chosen", "I", false)
def tyX0 : Nat → FieldType := fun k => match k with
  | 0 => .int
  | 1 => .int
  | 2 => .int
  | 3 => .array .int
  | 4 => .long
  | 5 => .long
  | 6 => .int
  | 7 => .boolean
  | 8 => .int
  | 9 => .int
  | 10 => .int
  | 11 => .int
  | 12 => .int
  | 13 => .int
  | 14 => .int
  | 15 => .int
  | 16 => .int
  | 17 => .array .int
  | _ => .int
theorem nmX0 : ∀ a, a < 19 → ∀ b, b < 19 → a ≠ b → (TX0 a).2.1 ≠ (TX0 b).2.1 := by decide +kernel
theorem tyX0_ok : ∀ k, k < 19 → parseFieldDescriptor (TX0 k).2.2.1 = some (tyX0 k) := by decide +kernel
def RX1 : String := "SortWorks$Judge"
def TX1 : u_T := fun k => match k with
  | 0 => ("SortWorks$Judge", "rules", "LSortWorks$Rules;", true)
  | 1 => ("SortWorks$Judge", "letters", "[I", false)
  | 2 => ("SortWorks$Judge", "length", "I", false)
  | _ => ("SortWorks$Judge", "at", "I", false)
def tyX1 : Nat → FieldType := fun k => match k with
  | 0 => .object "SortWorks$Rules"
  | 1 => .array .int
  | 2 => .int
  | _ => .int
theorem nmX1 : ∀ a, a < 4 → ∀ b, b < 4 → a ≠ b → (TX1 a).2.1 ≠ (TX1 b).2.1 := by decide +kernel
theorem tyX1_ok : ∀ k, k < 4 → parseFieldDescriptor (TX1 k).2.2.1 = some (tyX1 k) := by decide +kernel
def RX2 : String := "SortWorks$Log"
def TX2 : u_T := fun k => match k with
  | 0 => ("SortWorks$Log", "most", "I", true)
  | 1 => ("SortWorks$Log", "width", "I", true)
  | 2 => ("SortWorks$Log", "rows", "[I", true)
  | _ => ("SortWorks$Log", "count", "I", false)
def tyX2 : Nat → FieldType := fun k => match k with
  | 0 => .int
  | 1 => .int
  | 2 => .array .int
  | _ => .int
theorem nmX2 : ∀ a, a < 4 → ∀ b, b < 4 → a ≠ b → (TX2 a).2.1 ≠ (TX2 b).2.1 := by decide +kernel
theorem tyX2_ok : ∀ k, k < 4 → parseFieldDescriptor (TX2 k).2.2.1 = some (tyX2 k) := by decide +kernel
def RX3 : String := "SortWorks$Numbers"
def TX3 : u_T := fun k => match k with
  | 0 => ("SortWorks$Numbers", "where", "[I", true)
  | _ => ("SortWorks$Numbers", "given", "I", false)
def tyX3 : Nat → FieldType := fun k => match k with
  | 0 => .array .int
  | _ => .int
theorem nmX3 : ∀ a, a < 2 → ∀ b, b < 2 → a ≠ b → (TX3 a).2.1 ≠ (TX3 b).2.1 := by decide +kernel
theorem tyX3_ok : ∀ k, k < 2 → parseFieldDescriptor (TX3 k).2.2.1 = some (tyX3 k) := by decide +kernel
def RX4 : String := "SortWorks$Parcel"
def TX4 : u_T := fun k => match k with
  | 0 => ("SortWorks$Parcel", "place", "I", true)
  | 1 => ("SortWorks$Parcel", "number", "I", false)
  | 2 => ("SortWorks$Parcel", "weight", "I", false)
  | 3 => ("SortWorks$Parcel", "size", "I", false)
  | 4 => ("SortWorks$Parcel", "target", "I", false)
  | 5 => ("SortWorks$Parcel", "gear", "I", false)
  | 6 => ("SortWorks$Parcel", "slot", "I", false)
  | 7 => ("SortWorks$Parcel", "scanned", "Z", false)
  | 8 => ("SortWorks$Parcel", "moved", "Z", false)
  | 9 => ("SortWorks$Parcel", "wayLength", "I", false)
  | 10 => ("SortWorks$Parcel", "way", "[I", true)
  | 11 => ("SortWorks$Parcel", "labelLength", "I", false)
  | _ => ("SortWorks$Parcel", "label", "[I", true)
def tyX4 : Nat → FieldType := fun k => match k with
  | 0 => .int
  | 1 => .int
  | 2 => .int
  | 3 => .int
  | 4 => .int
  | 5 => .int
  | 6 => .int
  | 7 => .boolean
  | 8 => .boolean
  | 9 => .int
  | 10 => .array .int
  | 11 => .int
  | _ => .array .int
theorem nmX4 : ∀ a, a < 13 → ∀ b, b < 13 → a ≠ b → (TX4 a).2.1 ≠ (TX4 b).2.1 := by decide +kernel
theorem tyX4_ok : ∀ k, k < 13 → parseFieldDescriptor (TX4 k).2.2.1 = some (tyX4 k) := by decide +kernel
def RX5 : String := "SortWorks$Reading"
def TX5 : u_T := fun k => match k with
  | 0 => ("SortWorks$Reading", "bad", "Z", false)
  | 1 => ("SortWorks$Reading", "place", "I", false)
  | 2 => ("SortWorks$Reading", "weight", "I", false)
  | 3 => ("SortWorks$Reading", "size", "I", false)
  | _ => ("SortWorks$Reading", "digits", "[I", true)
def tyX5 : Nat → FieldType := fun k => match k with
  | 0 => .boolean
  | 1 => .int
  | 2 => .int
  | 3 => .int
  | _ => .array .int
theorem nmX5 : ∀ a, a < 5 → ∀ b, b < 5 → a ≠ b → (TX5 a).2.1 ≠ (TX5 b).2.1 := by decide +kernel
theorem tyX5_ok : ∀ k, k < 5 → parseFieldDescriptor (TX5 k).2.2.1 = some (tyX5 k) := by decide +kernel
def RX6 : String := "SortWorks$Rules"
def TX6 : u_T := fun k => match k with
  | 0 => ("SortWorks$Rules", "count", "I", false)
  | 1 => ("SortWorks$Rules", "tells", "[I", true)
  | 2 => ("SortWorks$Rules", "testCounts", "[I", true)
  | 3 => ("SortWorks$Rules", "subjects", "[I", true)
  | 4 => ("SortWorks$Rules", "quotients", "[I", true)
  | 5 => ("SortWorks$Rules", "signs", "[I", true)
  | 6 => ("SortWorks$Rules", "bounds", "[I", true)
  | 7 => ("SortWorks$Rules", "text", "[I", true)
  | _ => ("SortWorks$Rules", "textLength", "I", false)
def tyX6 : Nat → FieldType := fun k => match k with
  | 0 => .int
  | 1 => .array .int
  | 2 => .array .int
  | 3 => .array .int
  | 4 => .array .int
  | 5 => .array .int
  | 6 => .array .int
  | 7 => .array .int
  | _ => .int
theorem nmX6 : ∀ a, a < 9 → ∀ b, b < 9 → a ≠ b → (TX6 a).2.1 ≠ (TX6 b).2.1 := by decide +kernel
theorem tyX6_ok : ∀ k, k < 9 → parseFieldDescriptor (TX6 k).2.2.1 = some (tyX6 k) := by decide +kernel
def RX7 : String := "SortWorks$State"
def TX7 : u_T := fun k => match k with
  | 0 => ("SortWorks$State", "time", "I", false)
  | 1 => ("SortWorks$State", "came", "I", false)
  | 2 => ("SortWorks$State", "inside", "I", false)
  | 3 => ("SortWorks$State", "given", "I", false)
  | 4 => ("SortWorks$State", "gear", "[LSortWorks$Gear;", true)
  | 5 => ("SortWorks$State", "parcels", "[LSortWorks$Parcel;", true)
  | 6 => ("SortWorks$State", "used", "[I", true)
  | 7 => ("SortWorks$State", "findings", "LSortWorks$Log;", true)
  | _ => ("SortWorks$State", "outs", "LSortWorks$Log;", true)
def tyX7 : Nat → FieldType := fun k => match k with
  | 0 => .int
  | 1 => .int
  | 2 => .int
  | 3 => .int
  | 4 => .array (.object "SortWorks$Gear")
  | 5 => .array (.object "SortWorks$Parcel")
  | 6 => .array .int
  | 7 => .object "SortWorks$Log"
  | _ => .object "SortWorks$Log"
theorem nmX7 : ∀ a, a < 9 → ∀ b, b < 9 → a ≠ b → (TX7 a).2.1 ≠ (TX7 b).2.1 := by decide +kernel
theorem tyX7_ok : ∀ k, k < 9 → parseFieldDescriptor (TX7 k).2.2.1 = some (tyX7 k) := by decide +kernel
def RX8 : String := "SortWorks$Step"
def TX8 : u_T := fun k => match k with
  | 0 => ("SortWorks$Step", "reading", "LSortWorks$Reading;", true)
  | 1 => ("SortWorks$Step", "numbers", "LSortWorks$Numbers;", false)
  | 2 => ("SortWorks$Step", "works", "LSortWorks$Works;", false)
  | 3 => ("SortWorks$Step", "now", "LSortWorks$State;", false)
  | _ => ("SortWorks$Step", "found", "Z", false)
def tyX8 : Nat → FieldType := fun k => match k with
  | 0 => .object "SortWorks$Reading"
  | 1 => .object "SortWorks$Numbers"
  | 2 => .object "SortWorks$Works"
  | 3 => .object "SortWorks$State"
  | _ => .boolean
theorem nmX8 : ∀ a, a < 5 → ∀ b, b < 5 → a ≠ b → (TX8 a).2.1 ≠ (TX8 b).2.1 := by decide +kernel
theorem tyX8_ok : ∀ k, k < 5 → parseFieldDescriptor (TX8 k).2.2.1 = some (tyX8 k) := by decide +kernel
def RX9 : String := "SortWorks$Works"
def TX9 : u_T := fun k => match k with
  | 0 => ("SortWorks$Works", "number", "I", true)
  | 1 => ("SortWorks$Works", "now", "LSortWorks$State;", true)
  | 2 => ("SortWorks$Works", "gearCount", "I", false)
  | 3 => ("SortWorks$Works", "rules", "LSortWorks$Rules;", true)
  | 4 => ("SortWorks$Works", "plans", "[[I", true)
  | 5 => ("SortWorks$Works", "planLengths", "[I", true)
  | 6 => ("SortWorks$Works", "planCount", "I", false)
  | 7 => ("SortWorks$Works", "groups", "[[I", true)
  | 8 => ("SortWorks$Works", "groupTypes", "[I", true)
  | 9 => ("SortWorks$Works", "groupSizes", "[I", true)
  | 10 => ("SortWorks$Works", "trace", "[I", true)
  | 11 => ("SortWorks$Works", "traced", "I", false)
  | 12 => ("SortWorks$Works", "kept", "[LSortWorks$State;", true)
  | 13 => ("SortWorks$Works", "keptNext", "I", false)
  | 14 => ("SortWorks$Works", "keptCount", "I", false)
  | _ => ("SortWorks$Works", "fewest", "[I", true)
def tyX9 : Nat → FieldType := fun k => match k with
  | 0 => .int
  | 1 => .object "SortWorks$State"
  | 2 => .int
  | 3 => .object "SortWorks$Rules"
  | 4 => .array (.array .int)
  | 5 => .array .int
  | 6 => .int
  | 7 => .array (.array .int)
  | 8 => .array .int
  | 9 => .array .int
  | 10 => .array .int
  | 11 => .int
  | 12 => .array (.object "SortWorks$State")
  | 13 => .int
  | 14 => .int
  | _ => .array .int
theorem nmX9 : ∀ a, a < 16 → ∀ b, b < 16 → a ≠ b → (TX9 a).2.1 ≠ (TX9 b).2.1 := by decide +kernel
theorem tyX9_ok : ∀ k, k < 16 → parseFieldDescriptor (TX9 k).2.2.1 = some (tyX9 k) := by decide +kernel
def RX10 : String := "SortWorks"
def TX10 : u_T := fun k => match k with
  | 0 => ("SortWorks", "works", "[LSortWorks$Works;", true)
  | 1 => ("SortWorks", "hand", "LSortWorks$Works;", false)
  | 2 => ("SortWorks", "numbers", "LSortWorks$Numbers;", true)
  | 3 => ("SortWorks", "stepper", "LSortWorks$Step;", true)
  | 4 => ("SortWorks", "judge", "LSortWorks$Judge;", true)
  | 5 => ("SortWorks", "letters", "[I", true)
  | 6 => ("SortWorks", "typed", "I", false)
  | 7 => ("SortWorks", "faults", "I", false)
  | _ => ("SortWorks", "status", "I", false)
def tyX10 : Nat → FieldType := fun k => match k with
  | 0 => .array (.object "SortWorks$Works")
  | 1 => .object "SortWorks$Works"
  | 2 => .object "SortWorks$Numbers"
  | 3 => .object "SortWorks$Step"
  | 4 => .object "SortWorks$Judge"
  | 5 => .array .int
  | 6 => .int
  | 7 => .int
  | _ => .int
theorem nmX10 : ∀ a, a < 9 → ∀ b, b < 9 → a ≠ b → (TX10 a).2.1 ≠ (TX10 b).2.1 := by decide +kernel
theorem tyX10_ok : ∀ k, k < 9 → parseFieldDescriptor (TX10 k).2.2.1 = some (tyX10 k) := by decide +kernel
def RX11 : String := "SortWorksModel"
def TX11 : u_T := fun k => match k with
  | 0 => ("SortWorksModel", "w", "I", false)
  | 1 => ("SortWorksModel", "status", "I", false)
  | 2 => ("SortWorksModel", "houseFaults", "I", false)
  | 3 => ("SortWorksModel", "gears", "[I", true)
  | 4 => ("SortWorksModel", "time", "[I", true)
  | 5 => ("SortWorksModel", "kind", "[I", true)
  | 6 => ("SortWorksModel", "length", "[I", true)
  | 7 => ("SortWorksModel", "linkMany", "[I", true)
  | 8 => ("SortWorksModel", "link", "[I", true)
  | 9 => ("SortWorksModel", "rank", "[I", true)
  | 10 => ("SortWorksModel", "side", "[I", true)
  | 11 => ("SortWorksModel", "sets", "[J", true)
  | 12 => ("SortWorksModel", "last", "[I", true)
  | 13 => ("SortWorksModel", "releases", "[I", true)
  | 14 => ("SortWorksModel", "open", "[Z", true)
  | 15 => ("SortWorksModel", "dial", "[I", true)
  | 16 => ("SortWorksModel", "wait", "[I", true)
  | 17 => ("SortWorksModel", "lamp", "[I", true)
  | 18 => ("SortWorksModel", "came", "[I", true)
  | 19 => ("SortWorksModel", "went", "[I", true)
  | 20 => ("SortWorksModel", "found", "[I", true)
  | 21 => ("SortWorksModel", "acts", "[I", true)
  | 22 => ("SortWorksModel", "slots", "[I", true)
  | 23 => ("SortWorksModel", "numbers", "I", false)
  | 24 => ("SortWorksModel", "pWorks", "[I", true)
  | 25 => ("SortWorksModel", "pWhere", "[I", true)
  | 26 => ("SortWorksModel", "pGear", "[I", true)
  | 27 => ("SortWorksModel", "pSlot", "[I", true)
  | 28 => ("SortWorksModel", "pWeight", "[I", true)
  | 29 => ("SortWorksModel", "pSize", "[I", true)
  | 30 => ("SortWorksModel", "pTarget", "[I", true)
  | 31 => ("SortWorksModel", "pLabel", "[I", true)
  | 32 => ("SortWorksModel", "pByte", "[I", true)
  | 33 => ("SortWorksModel", "pWays", "[I", true)
  | 34 => ("SortWorksModel", "pWay", "[I", true)
  | 35 => ("SortWorksModel", "pScanned", "[Z", true)
  | 36 => ("SortWorksModel", "pMoved", "[Z", true)
  | 37 => ("SortWorksModel", "pDoor", "[I", true)
  | 38 => ("SortWorksModel", "inside", "[I", true)
  | 39 => ("SortWorksModel", "arrived", "[I", true)
  | 40 => ("SortWorksModel", "outMany", "[I", true)
  | 41 => ("SortWorksModel", "outs", "[I", true)
  | 42 => ("SortWorksModel", "findings", "[I", true)
  | 43 => ("SortWorksModel", "finding", "[I", true)
  | 44 => ("SortWorksModel", "traced", "[I", true)
  | 45 => ("SortWorksModel", "traces", "[I", true)
  | 46 => ("SortWorksModel", "letters", "[I", true)
  | 47 => ("SortWorksModel", "typed", "I", false)
  | 48 => ("SortWorksModel", "rules", "[I", true)
  | 49 => ("SortWorksModel", "ruleTo", "[I", true)
  | 50 => ("SortWorksModel", "ruleTests", "[I", true)
  | 51 => ("SortWorksModel", "ruleUsed", "[I", true)
  | 52 => ("SortWorksModel", "testWhat", "[I", true)
  | 53 => ("SortWorksModel", "testGear", "[I", true)
  | 54 => ("SortWorksModel", "testSign", "[I", true)
  | 55 => ("SortWorksModel", "testNumber", "[I", true)
  | 56 => ("SortWorksModel", "plans", "[I", true)
  | 57 => ("SortWorksModel", "planMany", "[I", true)
  | 58 => ("SortWorksModel", "planRow", "[I", true)
  | 59 => ("SortWorksModel", "groupMany", "[I", true)
  | 60 => ("SortWorksModel", "groupType", "[I", true)
  | 61 => ("SortWorksModel", "groupGear", "[I", true)
  | 62 => ("SortWorksModel", "newTo", "[I", true)
  | 63 => ("SortWorksModel", "newTests", "[I", true)
  | 64 => ("SortWorksModel", "newWhat", "[I", true)
  | 65 => ("SortWorksModel", "newGear", "[I", true)
  | 66 => ("SortWorksModel", "newSign", "[I", true)
  | 67 => ("SortWorksModel", "newNumber", "[I", true)
  | 68 => ("SortWorksModel", "at", "I", false)
  | 69 => ("SortWorksModel", "wrongAt", "I", false)
  | 70 => ("SortWorksModel", "read", "I", false)
  | 71 => ("SortWorksModel", "actGear", "I", false)
  | 72 => ("SortWorksModel", "actFound", "I", false)
  | 73 => ("SortWorksModel", "reached", "I", false)
  | 74 => ("SortWorksModel", "chosen", "[I", true)
  | 75 => ("SortWorksModel", "place", "I", false)
  | 76 => ("SortWorksModel", "weight", "I", false)
  | 77 => ("SortWorksModel", "size", "I", false)
  | 78 => ("SortWorksModel", "readFault", "I", false)
  | 79 => ("SortWorksModel", "six", "[I", true)
  | 80 => ("SortWorksModel", "quotient", "I", false)
  | 81 => ("SortWorksModel", "kept", "[I", true)
  | 82 => ("SortWorksModel", "keptFirst", "[I", true)
  | 83 => ("SortWorksModel", "rows", "[I", true)
  | 84 => ("SortWorksModel", "to", "I", false)
  | 85 => ("SortWorksModel", "isPutting", "Z", false)
  | 86 => ("SortWorksModel", "saidAt", "I", false)
  | 87 => ("SortWorksModel", "saidLetter", "I", false)
  | 88 => ("SortWorksModel", "away", "[I", true)
  | _ => ("SortWorksModel", "sum", "J", false)
def tyX11 : Nat → FieldType := fun k => match k with
  | 0 => .int
  | 1 => .int
  | 2 => .int
  | 3 => .array .int
  | 4 => .array .int
  | 5 => .array .int
  | 6 => .array .int
  | 7 => .array .int
  | 8 => .array .int
  | 9 => .array .int
  | 10 => .array .int
  | 11 => .array .long
  | 12 => .array .int
  | 13 => .array .int
  | 14 => .array .boolean
  | 15 => .array .int
  | 16 => .array .int
  | 17 => .array .int
  | 18 => .array .int
  | 19 => .array .int
  | 20 => .array .int
  | 21 => .array .int
  | 22 => .array .int
  | 23 => .int
  | 24 => .array .int
  | 25 => .array .int
  | 26 => .array .int
  | 27 => .array .int
  | 28 => .array .int
  | 29 => .array .int
  | 30 => .array .int
  | 31 => .array .int
  | 32 => .array .int
  | 33 => .array .int
  | 34 => .array .int
  | 35 => .array .boolean
  | 36 => .array .boolean
  | 37 => .array .int
  | 38 => .array .int
  | 39 => .array .int
  | 40 => .array .int
  | 41 => .array .int
  | 42 => .array .int
  | 43 => .array .int
  | 44 => .array .int
  | 45 => .array .int
  | 46 => .array .int
  | 47 => .int
  | 48 => .array .int
  | 49 => .array .int
  | 50 => .array .int
  | 51 => .array .int
  | 52 => .array .int
  | 53 => .array .int
  | 54 => .array .int
  | 55 => .array .int
  | 56 => .array .int
  | 57 => .array .int
  | 58 => .array .int
  | 59 => .array .int
  | 60 => .array .int
  | 61 => .array .int
  | 62 => .array .int
  | 63 => .array .int
  | 64 => .array .int
  | 65 => .array .int
  | 66 => .array .int
  | 67 => .array .int
  | 68 => .int
  | 69 => .int
  | 70 => .int
  | 71 => .int
  | 72 => .int
  | 73 => .int
  | 74 => .array .int
  | 75 => .int
  | 76 => .int
  | 77 => .int
  | 78 => .int
  | 79 => .array .int
  | 80 => .int
  | 81 => .array .int
  | 82 => .array .int
  | 83 => .array .int
  | 84 => .int
  | 85 => .boolean
  | 86 => .int
  | 87 => .int
  | 88 => .array .int
  | _ => .long
theorem nmX11 : ∀ a, a < 90 → ∀ b, b < 90 → a ≠ b → (TX11 a).2.1 ≠ (TX11 b).2.1 := by decide +kernel
theorem tyX11_ok : ∀ k, k < 90 → parseFieldDescriptor (TX11 k).2.2.1 = some (tyX11 k) := by decide +kernel
def sw_cl : List vw_C := [(RX0, TX0, 19), (RX1, TX1, 4), (RX2, TX2, 4), (RX3, TX3, 2), (RX4, TX4, 13), (RX5, TX5, 5), (RX6, TX6, 9), (RX7, TX7, 9), (RX8, TX8, 5), (RX9, TX9, 16), (RX10, TX10, 9), (RX11, TX11, 90)]
def sw_ty : Nat → Nat → FieldType := fun c k => match c with
  | 0 => tyX0 k
  | 1 => tyX1 k
  | 2 => tyX2 k
  | 3 => tyX3 k
  | 4 => tyX4 k
  | 5 => tyX5 k
  | 6 => tyX6 k
  | 7 => tyX7 k
  | 8 => tyX8 k
  | 9 => tyX9 k
  | 10 => tyX10 k
  | _ => tyX11 k
def sw_at : List FieldType := [.int, .long, .boolean, .array .int, .object RX9, .object RX0, .object RX4, .object RX7]
def sw_st : List (String × String) := [("SortWorks", "RANKS"), ("SortWorks", "LINKS_AHEAD"), ("SortWorks", "PACES"), ("SortWorks", "BODIES")]
def sw_tbs : List (List Int) := [[1, 2, 1, 1, 4, 3, 3, 1, 1, 0, 0], [1, 1, 1, 1, 1, 2, 3, 0, 1, 0, 0], [1, 2, 1, 1, 2, 1, 1, 1, 1, 1, 1], [1, 0, 0, 2, 1, 0, 3, 1, 0, 4, 1, 0, 5, 4, 1, 6, 0, 0, 7, 6, 0, 8, 0, 0, 9, 0, 0, 10, 0, 0, 11, 0, 0]]
def sw_tab (j i : Nat) : Int := (sw_tbs.getD j []).getD i 0
def sw_tl (j : Nat) : Nat := (sw_tbs.getD j []).length
def sw_ao : List String := [RX9, RX0, RX4, RX7]
def sw_nf : List (String × Nat × String × String × String × String) := [("SortWorks$Gear", 25, "SortWorks", "RANKS", "[I", "SortWorks"), ("SortWorks$Gear", 108, "SortWorks", "LINKS_AHEAD", "[I", "SortWorks"), ("SortWorks$Step", 93, "SortWorks", "PACES", "[I", "SortWorks"), ("SortWorks$Step", 194, "SortWorks", "BODIES", "[I", "SortWorks"), ("SortWorks$Gear", 124, "SortWorks", "PACES", "[I", "SortWorks"), ("SortWorks$Works", 138, "SortWorks", "LINKS_AHEAD", "[I", "SortWorks")]
def sw_nm : List (String × Nat × MethodName × String) := [("SortWorks$State", 39, ⟨"SortWorks$Gear", "<init>", "()V"⟩, "SortWorks"), ("SortWorks$Works", 20, ⟨"SortWorks$Rules", "<init>", "()V"⟩, "SortWorks"), ("SortWorks", 24, ⟨"SortWorks$Numbers", "<init>", "()V"⟩, "SortWorks"), ("SortWorks", 31, ⟨"SortWorks$Step", "<init>", "()V"⟩, "SortWorks"), ("SortWorks$Step", 11, ⟨"SortWorks$Reading", "<init>", "()V"⟩, "SortWorks"), ("SortWorks", 38, ⟨"SortWorks$Judge", "<init>", "()V"⟩, "SortWorks"), ("SortWorks$Judge", 11, ⟨"SortWorks$Rules", "<init>", "()V"⟩, "SortWorks"), ("SortWorks$Gear", 91, ⟨"SortWorks", "isTakerKind", "(I)Z"⟩, "SortWorks")]
def sw_gw : List Cond := lw_tbl.filter goodWord
end
section
/-! ===== the pure heap: how many cells, how many slots, tags, lengths, numbers, references ===== -/
abbrev p_Hp : Type := Nat × Nat × (Nat → Nat) × (Nat → Nat) × (Nat → Nat → Int) × (Nat → Nat → Nat)
def p_N (σ : p_Hp) : Nat := σ.1
def p_M (σ : p_Hp) : Nat := σ.2.1
def p_T (σ : p_Hp) : Nat → Nat := σ.2.2.1
def p_L (σ : p_Hp) : Nat → Nat := σ.2.2.2.1
def p_Z (σ : p_Hp) : Nat → Nat → Int := σ.2.2.2.2.1
def p_R (σ : p_Hp) : Nat → Nat → Nat := σ.2.2.2.2.2
def p_wZ (σ : p_Hp) (a k : Nat) (x : Int) : p_Hp := (σ.1, σ.2.1, σ.2.2.1, σ.2.2.2.1, fun b j => if b = a ∧ j = k then x else σ.2.2.2.2.1 b j, σ.2.2.2.2.2)
def p_wR (σ : p_Hp) (a k : Nat) (x : Nat) : p_Hp := (σ.1, σ.2.1, σ.2.2.1, σ.2.2.2.1, σ.2.2.2.2.1, fun b j => if b = a ∧ j = k then x else σ.2.2.2.2.2 b j)
def p_nw (σ : p_Hp) (t n : Nat) : p_Hp := (σ.1 + 1, σ.2.1 + n, fun b => if b = σ.1 + 1 then t else σ.2.2.1 b, fun b => if b = σ.1 + 1 then n else σ.2.2.2.1 b, fun b j => if b = σ.1 + 1 then 0 else σ.2.2.2.2.1 b j, fun b j => if b = σ.1 + 1 then 0 else σ.2.2.2.2.2 b j)
abbrev p_is (σ : p_Hp) (a t : Nat) : Prop := 1 ≤ a ∧ a ≤ p_N σ ∧ p_T σ a = t
/-- cells only come; a cell keeps its tag and its length -/
def p_x (σ σ' : p_Hp) : Prop := p_N σ ≤ p_N σ' ∧ p_M σ ≤ p_M σ' ∧ ∀ a, a ≤ p_N σ → p_T σ' a = p_T σ a ∧ p_L σ' a = p_L σ a
theorem p_x.rf (σ : p_Hp) : p_x σ σ := ⟨Nat.le_refl _, Nat.le_refl _, fun _ _ => ⟨rfl, rfl⟩⟩
theorem p_x.trans {σ σ1 σ2 : p_Hp} (h : p_x σ σ1) (k : p_x σ1 σ2) : p_x σ σ2 := ⟨Nat.le_trans h.1 k.1, Nat.le_trans h.2.1 k.2.1, fun a ha => ⟨(k.2.2 a (Nat.le_trans ha h.1)).1.trans (h.2.2 a ha).1, (k.2.2 a (Nat.le_trans ha h.1)).2.trans (h.2.2 a ha).2⟩⟩
theorem p_x.of {σ σ' σ2 : p_Hp} (hn : p_N σ' = p_N σ) (hm : p_M σ' = p_M σ) (ht : p_T σ' = p_T σ) (hl : p_L σ' = p_L σ) (k : p_x σ' σ2) : p_x σ σ2 := ⟨by rw [← hn]; exact k.1, by rw [← hm]; exact k.2.1, fun a ha => by rw [← ht, ← hl]; exact k.2.2 a (by rw [hn]; exact ha)⟩
theorem p_x_nw (σ : p_Hp) (t n : Nat) : p_x σ (p_nw σ t n) := ⟨Nat.le_succ _, Nat.le_add_right _ _, fun a ha => by
  have h : a ≠ σ.1 + 1 := by have : a ≤ σ.1 := ha; omega
  exact ⟨if_neg h, if_neg h⟩⟩
theorem p_is.up {σ σ' : p_Hp} {a t : Nat} (h : p_is σ a t) (k : p_x σ σ') : p_is σ' a t := ⟨h.1, Nat.le_trans h.2.1 k.1, (k.2.2 a h.2.1).1.trans h.2.2⟩
abbrev p_c (x : Int) : Prop := -2147483648 ≤ x ∧ x < 2147483648
abbrev p_c6 (x : Int) : Prop := -9223372036854775808 ≤ x ∧ x < 9223372036854775808
def p_w (x : Int) : Int := (Int32.ofInt x).toInt
def p_w6 (x : Int) : Int := (Int64.ofInt x).toInt
theorem p_w_id {x : Int} (h : p_c x) : p_w x = x := Int32.toInt_ofInt_of_le (by omega) (by omega)
theorem p_w6_id {x : Int} (h : p_c6 x) : p_w6 x = x := Int64.toInt_ofInt_of_le (by omega) (by omega)
theorem p_w_c (x : Int) : p_c (p_w x) := ⟨by have := (Int32.ofInt x).le_toInt; unfold p_w; omega, by have := (Int32.ofInt x).toInt_lt; unfold p_w; omega⟩
theorem p_w6_c (x : Int) : p_c6 (p_w6 x) := ⟨by have := (Int64.ofInt x).le_toInt; unfold p_w6; omega, by have := (Int64.ofInt x).toInt_lt; unfold p_w6; omega⟩
theorem p_w_of (x : Int) : Int32.ofInt (p_w x) = Int32.ofInt x := Int32.ofInt_toInt _
theorem p_w6_of (x : Int) : Int64.ofInt (p_w6 x) = Int64.ofInt x := Int64.ofInt_toInt _
theorem p_i32 (y : Int32) : p_c y.toInt := ⟨by have := y.le_toInt; omega, by have := y.toInt_lt; omega⟩
theorem p_i64 (y : Int64) : p_c6 y.toInt := ⟨by have := y.le_toInt; omega, by have := y.toInt_lt; omega⟩
theorem p_t {x : Int} (h : p_c x) : (Int32.ofInt x).toInt = x := p_w_id h
theorem p_t6 {x : Int} (h : p_c6 x) : (Int64.ofInt x).toInt = x := p_w6_id h
theorem p_lt {x y : Int} (hx : p_c x) (hy : p_c y) : Int32.ofInt x < Int32.ofInt y ↔ x < y := by rw [Int32.lt_iff_toInt_lt, p_t hx, p_t hy]
theorem p_le {x y : Int} (hx : p_c x) (hy : p_c y) : Int32.ofInt x ≤ Int32.ofInt y ↔ x ≤ y := by rw [Int32.le_iff_toInt_le, p_t hx, p_t hy]
theorem p_eq {x y : Int} (hx : p_c x) (hy : p_c y) : Int32.ofInt x = Int32.ofInt y ↔ x = y := by rw [← Int32.toInt_inj, p_t hx, p_t hy]
theorem p_eq0 {x : Int} (hx : p_c x) : Int32.ofInt x = 0 ↔ x = 0 := by
  have h := p_eq hx (y := 0) (by decide)
  exact h
theorem p_lt0 {x : Int} (hx : p_c x) : Int32.ofInt x < 0 ↔ x < 0 := by
  have h := p_lt hx (y := 0) (by decide)
  exact h
theorem p_le0 {x : Int} (hx : p_c x) : Int32.ofInt x ≤ 0 ↔ x ≤ 0 := by
  have h := p_le hx (y := 0) (by decide)
  exact h
theorem p_nat {x : Int} {n : Nat} (h0 : 0 ≤ x) (h1 : x < (n : Int)) (hn : n ≤ 2147483648) : (Int32.ofInt x).toNatClampNeg = x.toNat := by
  have h : p_c x := ⟨by omega, by omega⟩
  show (Int32.ofInt x).toInt.toNat = x.toNat
  rw [p_t h]
theorem p_in {x : Int} {n : Nat} (h0 : 0 ≤ x) (h1 : x < (n : Int)) (hn : n ≤ 2147483648) : ¬ (Int32.ofInt x < 0 ∨ n ≤ (Int32.ofInt x).toNatClampNeg) := by
  have h : p_c x := ⟨by omega, by omega⟩
  rw [p_lt0 h, p_nat h0 h1 hn]
  omega
/-! ===== values of a frame: int, long, reference (0: null), a static table ===== -/
abbrev p_AV : Type := Int ⊕ (Int ⊕ (Nat ⊕ Nat))
def p_i (x : Int) : p_AV := .inl x
def p_j (x : Int) : p_AV := .inr (.inl x)
def p_r (x : Nat) : p_AV := .inr (.inr (.inl x))
def p_s (x : Nat) : p_AV := .inr (.inr (.inr x))
def p_ok (v : p_AV) : Prop := match v with
  | .inl x => p_c x
  | .inr (.inl x) => p_c6 x
  | .inr (.inr _) => True
def p_cat (v : p_AV) : Nat := match v with
  | .inr (.inl _) => 2
  | _ => 1
/-- what is fixed through a run: the base, class numbers, field slots, array classes, addresses of static tables (9: the script), the script's length and ints -/
abbrev p_K : Type := Nat × (Nat → ClassId) × (Nat → Nat → Nat) × (Nat → ClassId) × (Nat → Nat) × Nat × (Nat → Int)
def p_A (K : p_K) : Nat → Prop := fun q => K.1 < q
def p_rO (B r : Nat) : Option Nat := if r = 0 then none else some (B + r)
def p_V (K : p_K) (v : p_AV) : Value := match v with
  | .inl x => .int (Int32.ofInt x)
  | .inr (.inl x) => .long (Int64.ofInt x)
  | .inr (.inr (.inl r)) => va_rf (p_rO K.1 r)
  | .inr (.inr (.inr j)) => .ref (K.2.2.2.2.1 j)
def p_q (K : p_K) (q : Nat × p_AV) : Nat × Value := (q.1, p_V K q.2)
def p_tv (K : p_K) (j i : Nat) : Int := if j = 9 then K.2.2.2.2.2.2 i else sw_tab j i
def p_tl (K : p_K) (j : Nat) : Nat := if j = 9 then K.2.2.2.2.2.1 else sw_tl j
theorem p_V_r {K : p_K} {a : Nat} (h : 1 ≤ a) : p_V K (p_r a) = .ref (K.1 + a) := by
  show va_rf (p_rO K.1 a) = _
  unfold p_rO
  rw [if_neg (by omega)]
  rfl
theorem p_V_0 {K : p_K} : p_V K (p_r 0) = .null := rfl
theorem p_V_cat (K : p_K) (v : p_AV) : (p_V K v).category = p_cat v := by
  rcases v with x | x | r | j
  · rfl
  · rfl
  · show (va_rf (p_rO K.1 r)).category = 1
    cases p_rO K.1 r <;> rfl
  · rfl
def p_sl (K : p_K) (σ : p_Hp) (a : Nat) (ty : FieldType) (k : Nat) : Value := match ty with
  | .long => .long (Int64.ofInt (p_Z σ a k))
  | .object _ => va_rf (p_rO K.1 (p_R σ a k))
  | .array _ => va_rf (p_rO K.1 (p_R σ a k))
  | _ => .int (Int32.ofInt (p_Z σ a k))
def p_okT (ty : FieldType) (x : Int) : Prop := match ty with
  | .long => p_c6 x
  | .boolean => x = 0 ∨ x = 1
  | .object _ => True
  | .array _ => True
  | _ => p_c x
/-- the tables of the classes, the statics: what is so at every state -/
def p_E (K : p_K) (U : State) (H : Heap) : Prop :=
  (∀ (ci : Nat) (q : vw_C), sw_cl[ci]? = some q → u_Kn U q.1 q.2.1 q.2.2 (K.2.1 ci) (K.2.2.1 ci)) ∧
  (∀ (i : Nat) (ty : FieldType), sw_at[i]? = some ty → ArrOfT U (K.2.2.2.1 i) ty ∧ va_RA U (K.2.2.2.1 i) ty) ∧
  (∀ q ∈ sw_nf, va_Nw (.fieldLinkNest q.1 q.2.1 q.2.2.1 q.2.2.2.1 q.2.2.2.2.1 q.2.2.2.2.2) U) ∧
  (∀ q ∈ sw_nm, va_Nw (.methodLinkNest q.1 q.2.1 q.2.2.1 q.2.2.2) U) ∧
  (∀ C ∈ sw_ao, va_AO C U) ∧ (Cond.arrayOver (.array .int)).before #[] U = true ∧
  (∀ (j : Nat) (q : String × String), sw_st[j]? = some q → va_Z q.1 q.2 "[I" (.ref (K.2.2.2.2.1 j)) (p_A K) U H) ∧
  (∀ j : Nat, j < sw_st.length ∨ j = 9 → va_T .int (K.2.2.2.2.1 j) (p_tl K j) (fun i => .int (Int32.ofInt (p_tv K j i))) (p_A K) U H) ∧
  (∀ j : Nat, p_tl K j ≤ 1000000) ∧ (∀ i : Nat, p_c (K.2.2.2.2.2.2 i)) ∧ va_Nw (.castable "[I" "java/lang/Cloneable") U
theorem p_E.kept {K : p_K} {U : State} {H H1 : Heap} (h : p_E K U H) (hq : ∀ a : Nat, a < H.size → ¬ p_A K a → H1[a]? = H[a]?) : p_E K U H1 := by
  obtain ⟨h1, h2, h3, h4, h5, h6, h7, h8, h9⟩ := h
  exact ⟨h1, h2, h3, h4, h5, h6, fun j q hj => (h7 j q hj).kept hq, fun j hj => (h8 j hj).kept hq, h9⟩
theorem p_E.moved {K : p_K} {s U : State} {H : Heap} (hW : s.WarmedH U.vm) (h : p_E K s H) : p_E K U H := by
  obtain ⟨h1, h2, h3, h4, h5, h6, h7, h8, h9, h10, h11⟩ := h
  have hv : s.vm.Alike U.vm := hW.alike
  exact ⟨fun ci q hq => u_Kn_moved hv (h1 ci q hq), fun i ty hi => ⟨arrOfT_moved hv (h2 i ty hi).1, (h2 i ty hi).2.moved hv⟩, fun q hq => va_Nw.warmF hW (h3 q hq), fun q hq => va_Nw.warmM hW (h4 q hq), fun C hC => va_AO.moved hv (h5 C hC), over_moved hv h6, fun j q hj => (h7 j q hj).moved hv, fun j hj => (h8 j hj).moved hv, h9, h10, va_Nw.warmC hW h11⟩
/-- the heap holds what the pure heap says -/
def p_P (K : p_K) (σ : p_Hp) (H : Heap) : Prop :=
  H.size = K.1 + p_N σ + 1 ∧
  (∀ (a ci : Nat) (q : vw_C), p_is σ a ci → sw_cl[ci]? = some q → t_OB (K.1 + a) (K.2.1 ci) q.2.2 (K.2.2.1 ci) H (fun k => p_sl K σ a (sw_ty ci k) k) ∧ ∀ k, k < q.2.2 → p_okT (sw_ty ci k) (p_Z σ a k)) ∧
  (∀ (a i : Nat) (ty : FieldType), p_is σ a (100 + i) → sw_at[i]? = some ty → H[K.1 + a]? = some (arrV (K.2.2.2.1 i) (p_L σ a) (fun j => p_sl K σ a ty j)) ∧ (∀ j, j < p_L σ a → p_okT ty (p_Z σ a j)) ∧ p_L σ a ≤ 1000000)
/-- a method: its name, code, locals, answer's type, frames and words of locals that its calls need -/
abbrev p_Me : Type := MethodName × ByteArray × Nat × Option FieldType × Nat × Nat
def p_ws (M : p_Me) : List Cond := .code M.1 M.2.1 M.2.2.1 M.2.2.2.1 :: sw_gw
def p_rm (M : p_Me) (mc ms : Nat) : Room := { frames := M.2.2.2.2.1, cells := mc, slots := ms, locals := M.2.2.2.2.2 }
def p_ri (ret : Option FieldType) : Instr := match ret with
  | none => .return_
  | some .long => .lreturn
  | some (.object _) => .areturn
  | some (.array _) => .areturn
  | some _ => .ireturn
def p_rk (ret : Option FieldType) (v : Option p_AV) : Prop := match ret with
  | none => v = none
  | some .int => ∃ x, v = some (p_i x) ∧ p_c x
  | some .boolean => ∃ x, v = some (p_i x) ∧ (x = 0 ∨ x = 1)
  | some .long => ∃ x, v = some (p_j x) ∧ p_c6 x
  | some (.object _) => ∃ x, v = some (p_r x)
  | some (.array _) => ∃ x, v = some (p_r x)
  | some _ => False
def p_Cx (K : p_K) (M : p_Me) (p : Program) (s : State) (m : MethodId) (args : Array Value) (meth : Method) (c : Code) : Prop :=
  p.tables.exec = Jvm.exec ∧ c.code = M.2.1 ∧ c.maxLocals = M.2.2.1 ∧ meth.sig.returnType = M.2.2.2.1 ∧ s.vm.findClass M.1.cls = some m.cls ∧ (∀ w ∈ sw_gw, w.before args s = true) ∧ meth.locks = false ∧ (M.1.name = "<init>" → meth.name = "<init>") ∧ p_E K s s.heap
def p_Rt (K : p_K) (l : Launch) (M : p_Me) (o : Option p_AV × p_Hp) (p : Program) (e : Env) (s : State) (m : MethodId) (args : Array Value) (below : List Frame) (meth : Method) (c : Code) (mc ms : Nat) (Q : State → Prop) : Prop :=
  ∀ (H : Heap) (locs : List Loc) (pc : Nat) (ls : Array Slot), p_P K o.2 H → va_S (p_A K) s.heap H locs → p_rk M.2.2.2.1 o.1 → decode M.2.1 pc = .ok (p_ri M.2.2.2.1, 1) → W p l e (p_rm M mc ms) s m args below meth c H locs mc ms Q (F0 m pc ls (o.1.toList.map (p_V K)))
/-- THE JUDGEMENT: from this frame the method comes to its end, with the answer and the pure heap o -/
def p_Go (K : p_K) (l : Launch) (M : p_Me) (pc : Nat) (lv : List (Nat × p_AV)) (st : List p_AV) (σ : p_Hp) (o : Option p_AV × p_Hp) : Prop :=
  p_x σ o.2 ∧
  ∀ (p : Program) (e : Env) (s : State) (m : MethodId) (args : Array Value) (below : List Frame) (meth : Method) (c : Code) (H : Heap) (locs : List Loc) (n0 m0 mc ms : Nat) (Q : State → Prop) (ls : Array Slot),
    p_Cx K M p s m args meth c → p_P K σ H → va_S (p_A K) s.heap H locs → n0 ≤ p_N σ → m0 ≤ p_M σ → p_N o.2 ≤ n0 + mc → p_M o.2 ≤ m0 + ms →
    lv_has ls M.2.2.1 (lv.map (p_q K)) → (∀ q ∈ lv, p_ok q.2) → (∀ v ∈ st, p_ok v) → p_Rt K l M o p e s m args below meth c mc ms Q →
    W p l e (p_rm M mc ms) s m args below meth c H locs (p_N σ - n0) (p_M σ - m0) Q (F0 m pc ls (st.map (p_V K)))
theorem p_at {K : p_K} {lv : List (Nat × p_AV)} {ls : Array Slot} {n j i : Nat} {v : p_AV} (h : lv_has ls n (lv.map (p_q K))) (hj : lv[j]? = some (i, v)) : ls[i]? = some (.val (p_V K v)) :=
  lv_at h j (by rw [List.getElem?_map, hj]; rfl)
theorem p_okat {lv : List (Nat × p_AV)} {j i : Nat} {v : p_AV} (h : ∀ q ∈ lv, p_ok q.2) (hj : lv[j]? = some (i, v)) : p_ok v := h (i, v) (List.mem_of_getElem? hj)
theorem p_ok2 {v : p_AV} {st : List p_AV} (hv : p_ok v) (h : ∀ x ∈ st, p_ok x) : ∀ x ∈ v :: st, p_ok x := fun x hx => (List.mem_cons.mp hx).elim (fun e => e ▸ hv) (h x)
theorem p_okt {v : p_AV} {st : List p_AV} (h : ∀ x ∈ v :: st, p_ok x) : ∀ x ∈ st, p_ok x := fun x hx => h x (List.mem_cons_of_mem _ hx)
theorem p_okh {v : p_AV} {st : List p_AV} (h : ∀ x ∈ v :: st, p_ok x) : p_ok v := h v List.mem_cons_self
end
section
/-! ===== numbers as the machine has them ===== -/
def p_and (a b : Int) : Int := (Int32.ofInt a &&& Int32.ofInt b).toInt
def p_xor (a b : Int) : Int := (Int32.ofInt a ^^^ Int32.ofInt b).toInt
def p_or (a b : Int) : Int := (Int32.ofInt a ||| Int32.ofInt b).toInt
def p_ushr (a b : Int) : Int := (((Int32.ofInt a).toUInt32 >>> ((Int32.ofInt b).toUInt32 &&& Int32.toUInt32 31)).toInt32).toInt
def p_and6 (a b : Int) : Int := (Int64.ofInt a &&& Int64.ofInt b).toInt
def p_xor6 (a b : Int) : Int := (Int64.ofInt a ^^^ Int64.ofInt b).toInt
def p_or6 (a b : Int) : Int := (Int64.ofInt a ||| Int64.ofInt b).toInt
def p_shl6 (a b : Int) : Int := (Int64.ofInt a <<< ((Int32.ofInt b).toInt64 &&& 63)).toInt
def p_shr6 (a b : Int) : Int := (Int64.ofInt a >>> ((Int32.ofInt b).toInt64 &&& 63)).toInt
def p_ushr6 (a b : Int) : Int := (((Int64.ofInt a).toUInt64 >>> ((Int32.ofInt b).toInt64.toUInt64 &&& Int64.toUInt64 63)).toInt64).toInt
def p_cmp (a b : Int) : Int := if b < a then 1 else if a = b then 0 else -1
def p_div (a b : Int) : Int := p_w (a.tdiv b)
def p_rem (a b : Int) : Int := p_w (a.tmod b)
theorem p_tdiv {a b : Int} (ha : p_c a) (hb : p_c b) : Int32.ofInt (p_div a b) = Int32.ofInt a / Int32.ofInt b := by
  rw [← Int32.toInt_inj, Int32.toInt_div, p_t ha, p_t hb]
  unfold p_div
  rw [p_w_of, Int32.toInt_ofInt]
theorem p_trem {a b : Int} (ha : p_c a) (hb : p_c b) : Int32.ofInt (p_rem a b) = Int32.ofInt a - Int32.ofInt a / Int32.ofInt b * Int32.ofInt b := by
  rw [← p_tdiv ha hb]
  unfold p_rem p_div
  rw [p_w_of, p_w_of, ← Int32.ofInt_mul, ← Int32.ofInt_sub, Int.tmod_def, Int.mul_comm b]
theorem p_tcmp {a b : Int} (ha : p_c6 a) (hb : p_c6 b) : Int32.ofInt (p_cmp a b) = lg_cmp (Int64.ofInt a) (Int64.ofInt b) := by
  unfold p_cmp lg_cmp
  simp only [gt_iff_lt, Int64.lt_iff_toInt_lt, ← Int64.toInt_inj, p_t6 ha, p_t6 hb]
  repeat' split
  all_goals rfl
theorem p_cmp_c (a b : Int) : p_c (p_cmp a b) := by
  unfold p_cmp
  repeat' split
  all_goals decide
theorem p_ti2l {a : Int} (ha : p_c a) : (Int32.ofInt a).toInt64 = Int64.ofInt a := by
  rw [← Int64.toInt_inj, Int32.toInt_toInt64, p_t ha, p_t6 ⟨by omega, by omega⟩]
theorem p_tl2i {a : Int} (ha : p_c6 a) : (Int64.ofInt a).toInt32 = Int32.ofInt (p_w a) := by
  rw [p_w_of, ← Int32.toInt_inj, Int64.toInt_toInt32, p_t6 ha, Int32.toInt_ofInt]
/-! ===== rows: constants, locals, the stack, numbers, branches ===== -/
section PR
variable {K : p_K} {l : Launch} {M : p_Me} {pc : Nat} {lv : List (Nat × p_AV)} {st : List p_AV} {σ : p_Hp} {o : Option p_AV × p_Hp}
theorem g_iconst {n : Int} (hd : decode M.2.1 pc = .ok (.iconst n, 1)) (hn : p_c n) (k : p_Go K l M (pc + 1) lv (p_i n :: st) σ o) : p_Go K l M pc lv st σ o :=
  ⟨k.1, fun p e s m args below meth c H locs n0 m0 mc ms Q ls C R S h1 h2 h3 h4 hl ol os RT => lv_iconst C.1 C.2.1 hd rfl (k.2 p e s m args below meth c H locs n0 m0 mc ms Q ls C R S h1 h2 h3 h4 hl ol (p_ok2 hn os) RT)⟩
theorem g_bipush {n : Int} (hd : decode M.2.1 pc = .ok (.bipush n, 2)) (hv : (Int8.ofInt n).toInt32 = Int32.ofInt n) (hn : p_c n) (k : p_Go K l M (pc + 2) lv (p_i n :: st) σ o) : p_Go K l M pc lv st σ o :=
  ⟨k.1, fun p e s m args below meth c H locs n0 m0 mc ms Q ls C R S h1 h2 h3 h4 hl ol os RT => lv_bipush C.1 C.2.1 hd hv (k.2 p e s m args below meth c H locs n0 m0 mc ms Q ls C R S h1 h2 h3 h4 hl ol (p_ok2 hn os) RT)⟩
theorem g_sipush {n : Int} (hd : decode M.2.1 pc = .ok (.sipush n, 3)) (hv : (Int16.ofInt n).toInt32 = Int32.ofInt n) (hn : p_c n) (k : p_Go K l M (pc + 3) lv (p_i n :: st) σ o) : p_Go K l M pc lv st σ o :=
  ⟨k.1, fun p e s m args below meth c H locs n0 m0 mc ms Q ls C R S h1 h2 h3 h4 hl ol os RT => lv_sipush C.1 C.2.1 hd hv (k.2 p e s m args below meth c H locs n0 m0 mc ms Q ls C R S h1 h2 h3 h4 hl ol (p_ok2 hn os) RT)⟩
theorem g_lconst {n : Fin 2} {x : Int} (hd : decode M.2.1 pc = .ok (.lconst n, 1)) (hv : Int64.ofNat (n : Nat) = Int64.ofInt x) (hn : p_c6 x) (k : p_Go K l M (pc + 1) lv (p_j x :: st) σ o) : p_Go K l M pc lv st σ o :=
  ⟨k.1, fun p e s m args below meth c H locs n0 m0 mc ms Q ls C R S h1 h2 h3 h4 hl ol os RT => lv_lconst C.1 C.2.1 hd hv (k.2 p e s m args below meth c H locs n0 m0 mc ms Q ls C R S h1 h2 h3 h4 hl ol (p_ok2 hn os) RT)⟩
theorem g_ldc {i : Nat} {x : Int} {v : Int32} (hd : decode M.2.1 pc = .ok (.ldc i, 2)) (hw : Jvm.Cond.constant M.1.cls i v ∈ sw_gw) (hv : v = Int32.ofInt x) (hn : p_c x) (k : p_Go K l M (pc + 2) lv (p_i x :: st) σ o) : p_Go K l M pc lv st σ o :=
  ⟨k.1, fun p e s m args below meth c H locs n0 m0 mc ms Q ls C R S h1 h2 h3 h4 hl ol os RT => lv_ldc (v := Int32.ofInt x) C.1 C.2.1 C.2.2.2.2.1 (C.2.2.2.2.2.1 _ (hv ▸ hw)) hd (k.2 p e s m args below meth c H locs n0 m0 mc ms Q ls C R S h1 h2 h3 h4 hl ol (p_ok2 hn os) RT)⟩
theorem g_ldc_w {i : Nat} {x : Int} {v : Int32} (hd : decode M.2.1 pc = .ok (.ldc_w i, 3)) (hw : Jvm.Cond.constant M.1.cls i v ∈ sw_gw) (hv : v = Int32.ofInt x) (hn : p_c x) (k : p_Go K l M (pc + 3) lv (p_i x :: st) σ o) : p_Go K l M pc lv st σ o :=
  ⟨k.1, fun p e s m args below meth c H locs n0 m0 mc ms Q ls C R S h1 h2 h3 h4 hl ol os RT => lv_ldcw (v := Int32.ofInt x) C.1 C.2.1 C.2.2.2.2.1 (C.2.2.2.2.2.1 _ (hv ▸ hw)) hd (k.2 p e s m args below meth c H locs n0 m0 mc ms Q ls C R S h1 h2 h3 h4 hl ol (p_ok2 hn os) RT)⟩
theorem g_ldc2_w {i : Nat} {x : Int} {v : Int64} (hd : decode M.2.1 pc = .ok (.ldc2_w i, 3)) (hw : Jvm.Cond.constantLong M.1.cls i v ∈ sw_gw) (hv : v = Int64.ofInt x) (hn : p_c6 x) (k : p_Go K l M (pc + 3) lv (p_j x :: st) σ o) : p_Go K l M pc lv st σ o :=
  ⟨k.1, fun p e s m args below meth c H locs n0 m0 mc ms Q ls C R S h1 h2 h3 h4 hl ol os RT => lv_ldc2 (v := Int64.ofInt x) C.1 C.2.1 C.2.2.2.2.1 (C.2.2.2.2.2.1 _ (hv ▸ hw)) hd (k.2 p e s m args below meth c H locs n0 m0 mc ms Q ls C R S h1 h2 h3 h4 hl ol (p_ok2 hn os) RT)⟩
theorem g_aconst_null  (hd : decode M.2.1 pc = .ok (.aconst_null, 1))  (k : p_Go K l M (pc + 1) lv (p_r 0 :: st) σ o) : p_Go K l M pc lv st σ o :=
  ⟨k.1, fun p e s m args below meth c H locs n0 m0 mc ms Q ls C R S h1 h2 h3 h4 hl ol os RT => lv_null C.1 C.2.1 hd (k.2 p e s m args below meth c H locs n0 m0 mc ms Q ls C R S h1 h2 h3 h4 hl ol (p_ok2 trivial os) RT)⟩
theorem g_iload_n {n : Fin 4} {i j : Nat} {x : Int} (hd : decode M.2.1 pc = .ok (.iload_n n, 1)) (hi : (n : Nat) = i) (hj : lv[j]? = some (i, p_i x)) (k : p_Go K l M (pc + 1) lv (p_i x :: st) σ o) : p_Go K l M pc lv st σ o :=
  ⟨k.1, fun p e s m args below meth c H locs n0 m0 mc ms Q ls C R S h1 h2 h3 h4 hl ol os RT => lv_iload_n C.1 C.2.1 hd hi (p_at hl hj) (k.2 p e s m args below meth c H locs n0 m0 mc ms Q ls C R S h1 h2 h3 h4 hl ol (p_ok2 (p_okat ol hj) os) RT)⟩
theorem g_iload {i j : Nat} {x : Int} (hd : decode M.2.1 pc = .ok (.iload i, 2)) (hj : lv[j]? = some (i, p_i x)) (k : p_Go K l M (pc + 2) lv (p_i x :: st) σ o) : p_Go K l M pc lv st σ o :=
  ⟨k.1, fun p e s m args below meth c H locs n0 m0 mc ms Q ls C R S h1 h2 h3 h4 hl ol os RT => lv_iload C.1 C.2.1 hd (p_at hl hj) (k.2 p e s m args below meth c H locs n0 m0 mc ms Q ls C R S h1 h2 h3 h4 hl ol (p_ok2 (p_okat ol hj) os) RT)⟩
theorem g_lload_n {n : Fin 4} {i j : Nat} {x : Int} (hd : decode M.2.1 pc = .ok (.lload_n n, 1)) (hi : (n : Nat) = i) (hj : lv[j]? = some (i, p_j x)) (k : p_Go K l M (pc + 1) lv (p_j x :: st) σ o) : p_Go K l M pc lv st σ o :=
  ⟨k.1, fun p e s m args below meth c H locs n0 m0 mc ms Q ls C R S h1 h2 h3 h4 hl ol os RT => lv_lload_n C.1 C.2.1 hd hi (p_at hl hj) (k.2 p e s m args below meth c H locs n0 m0 mc ms Q ls C R S h1 h2 h3 h4 hl ol (p_ok2 (p_okat ol hj) os) RT)⟩
theorem g_lload {i j : Nat} {x : Int} (hd : decode M.2.1 pc = .ok (.lload i, 2)) (hj : lv[j]? = some (i, p_j x)) (k : p_Go K l M (pc + 2) lv (p_j x :: st) σ o) : p_Go K l M pc lv st σ o :=
  ⟨k.1, fun p e s m args below meth c H locs n0 m0 mc ms Q ls C R S h1 h2 h3 h4 hl ol os RT => lv_lload C.1 C.2.1 hd (p_at hl hj) (k.2 p e s m args below meth c H locs n0 m0 mc ms Q ls C R S h1 h2 h3 h4 hl ol (p_ok2 (p_okat ol hj) os) RT)⟩
theorem g_aload_n {n : Fin 4} {i j : Nat} {x : Nat} (hd : decode M.2.1 pc = .ok (.aload_n n, 1)) (hi : (n : Nat) = i) (hj : lv[j]? = some (i, p_r x)) (k : p_Go K l M (pc + 1) lv (p_r x :: st) σ o) : p_Go K l M pc lv st σ o := by
  refine ⟨k.1, fun p e s m args below meth c H locs n0 m0 mc ms Q ls C R S h1 h2 h3 h4 hl ol os RT => ?_⟩
  have kk := (k.2 p e s m args below meth c H locs n0 m0 mc ms Q ls C R S h1 h2 h3 h4 hl ol (p_ok2 (v := p_r x) trivial os) RT)
  have ha := p_at hl hj
  have e : (p_r x :: st).map (p_V K) = va_rf (p_rO K.1 x) :: st.map (p_V K) := rfl
  rw [e] at kk
  have e2 : p_V K (p_r x) = va_rf (p_rO K.1 x) := rfl
  rw [e2] at ha
  cases hx : p_rO K.1 x with
  | none => rw [hx] at kk ha; exact lv_aload_nN C.1 C.2.1 hd hi ha kk
  | some a => rw [hx] at kk ha; exact lv_aload_n C.1 C.2.1 hd hi ha kk
theorem g_aload {i j : Nat} {x : Nat} (hd : decode M.2.1 pc = .ok (.aload i, 2)) (hj : lv[j]? = some (i, p_r x)) (k : p_Go K l M (pc + 2) lv (p_r x :: st) σ o) : p_Go K l M pc lv st σ o := by
  refine ⟨k.1, fun p e s m args below meth c H locs n0 m0 mc ms Q ls C R S h1 h2 h3 h4 hl ol os RT => ?_⟩
  have kk := (k.2 p e s m args below meth c H locs n0 m0 mc ms Q ls C R S h1 h2 h3 h4 hl ol (p_ok2 (v := p_r x) trivial os) RT)
  have ha := p_at hl hj
  have e : (p_r x :: st).map (p_V K) = va_rf (p_rO K.1 x) :: st.map (p_V K) := rfl
  rw [e] at kk
  have e2 : p_V K (p_r x) = va_rf (p_rO K.1 x) := rfl
  rw [e2] at ha
  cases hx : p_rO K.1 x with
  | none => rw [hx] at kk ha; exact lv_aloadN C.1 C.2.1 hd ha kk
  | some a => rw [hx] at kk ha; exact lv_aload C.1 C.2.1 hd ha kk
theorem p_flt (K : p_K) (lv : List (Nat × p_AV)) (i : Nat) : (lv.map (p_q K)).filter (fun q => !(q.1 == i) && !(q.1 + 1 == i && q.2.category == 2)) = (lv.filter (fun q => !(q.1 == i) && !(q.1 + 1 == i && p_cat q.2 == 2))).map (p_q K) := by
  rw [List.filter_map]
  congr 1
  apply List.filter_congr
  intro q _
  show (!(q.1 == i) && !(q.1 + 1 == i && (p_V K q.2).category == 2)) = _
  rw [p_V_cat]
theorem p_flt2 (K : p_K) (lv : List (Nat × p_AV)) (i : Nat) : (lv.map (p_q K)).filter (fun q => !(q.1 == i) && (!(q.1 == i + 1) && !(q.1 + 1 == i && q.2.category == 2))) = (lv.filter (fun q => !(q.1 == i) && (!(q.1 == i + 1) && !(q.1 + 1 == i && p_cat q.2 == 2)))).map (p_q K) := by
  rw [List.filter_map]
  congr 1
  apply List.filter_congr
  intro q _
  show (!(q.1 == i) && (!(q.1 == i + 1) && !(q.1 + 1 == i && (p_V K q.2).category == 2))) = _
  rw [p_V_cat]
theorem p_okf {lv : List (Nat × p_AV)} {i : Nat} {v : p_AV} {f : Nat × p_AV → Bool} (hv : p_ok v) (h : ∀ q ∈ lv, p_ok q.2) : ∀ q ∈ (i, v) :: lv.filter f, p_ok q.2 := fun q hq => (List.mem_cons.mp hq).elim (fun e => by rw [e]; exact hv) (fun h1 => h q (List.mem_filter.mp h1).1)
theorem p_stE {K : p_K} {lv lv' : List (Nat × p_AV)} {i : Nat} {v : p_AV} (he : (i, v) :: lv.filter (fun q => !(q.1 == i) && !(q.1 + 1 == i && p_cat q.2 == 2)) = lv') : (i, p_V K v) :: (lv.map (p_q K)).filter (fun q => !(q.1 == i) && !(q.1 + 1 == i && q.2.category == 2)) = lv'.map (p_q K) := by
  rw [← he, p_flt]
  rfl
theorem p_stE2 {K : p_K} {lv lv' : List (Nat × p_AV)} {i : Nat} {v : p_AV} (he : (i, v) :: lv.filter (fun q => !(q.1 == i) && (!(q.1 == i + 1) && !(q.1 + 1 == i && p_cat q.2 == 2))) = lv') : (i, p_V K v) :: (lv.map (p_q K)).filter (fun q => !(q.1 == i) && (!(q.1 == i + 1) && !(q.1 + 1 == i && q.2.category == 2))) = lv'.map (p_q K) := by
  rw [← he, p_flt2]
  rfl
theorem g_istore_n {n : Fin 4} {i : Nat} {x : Int} (lv' : List (Nat × p_AV)) (hd : decode M.2.1 pc = .ok (.istore_n n, 1)) (hi : (n : Nat) = i) (hn : i < M.2.2.1) (he : (i, p_i x) :: lv.filter (fun q => !(q.1 == i) && !(q.1 + 1 == i && p_cat q.2 == 2)) = lv') (k : p_Go K l M (pc + 1) lv' st σ o) : p_Go K l M pc lv (p_i x :: st) σ o :=
  ⟨k.1, fun p e s m args below meth c H locs n0 m0 mc ms Q ls C R S h1 h2 h3 h4 hl ol os RT => lv_istore_n C.1 C.2.1 hd hi hl hn (p_stE he) (fun ls' hl' => (k.2 p e s m args below meth c H locs n0 m0 mc ms Q ls' C R S h1 h2 h3 h4 hl' (he ▸ p_okf (p_okh os) ol) (p_okt os) RT))⟩
theorem g_istore {i : Nat} {x : Int} (lv' : List (Nat × p_AV)) (hd : decode M.2.1 pc = .ok (.istore i, 2)) (hn : i < M.2.2.1) (he : (i, p_i x) :: lv.filter (fun q => !(q.1 == i) && !(q.1 + 1 == i && p_cat q.2 == 2)) = lv') (k : p_Go K l M (pc + 2) lv' st σ o) : p_Go K l M pc lv (p_i x :: st) σ o :=
  ⟨k.1, fun p e s m args below meth c H locs n0 m0 mc ms Q ls C R S h1 h2 h3 h4 hl ol os RT => lv_istore C.1 C.2.1 hd hl hn (p_stE he) (fun ls' hl' => (k.2 p e s m args below meth c H locs n0 m0 mc ms Q ls' C R S h1 h2 h3 h4 hl' (he ▸ p_okf (p_okh os) ol) (p_okt os) RT))⟩
theorem g_lstore_n {n : Fin 4} {i : Nat} {x : Int} (lv' : List (Nat × p_AV)) (hd : decode M.2.1 pc = .ok (.lstore_n n, 1)) (hi : (n : Nat) = i) (hn : i + 1 < M.2.2.1) (he : (i, p_j x) :: lv.filter (fun q => !(q.1 == i) && (!(q.1 == i + 1) && !(q.1 + 1 == i && p_cat q.2 == 2))) = lv') (k : p_Go K l M (pc + 1) lv' st σ o) : p_Go K l M pc lv (p_j x :: st) σ o :=
  ⟨k.1, fun p e s m args below meth c H locs n0 m0 mc ms Q ls C R S h1 h2 h3 h4 hl ol os RT => lv_lstore_n C.1 C.2.1 hd hi hl hn (p_stE2 he) (fun ls' hl' => (k.2 p e s m args below meth c H locs n0 m0 mc ms Q ls' C R S h1 h2 h3 h4 hl' (he ▸ p_okf (p_okh os) ol) (p_okt os) RT))⟩
theorem g_lstore {i : Nat} {x : Int} (lv' : List (Nat × p_AV)) (hd : decode M.2.1 pc = .ok (.lstore i, 2)) (hn : i + 1 < M.2.2.1) (he : (i, p_j x) :: lv.filter (fun q => !(q.1 == i) && (!(q.1 == i + 1) && !(q.1 + 1 == i && p_cat q.2 == 2))) = lv') (k : p_Go K l M (pc + 2) lv' st σ o) : p_Go K l M pc lv (p_j x :: st) σ o :=
  ⟨k.1, fun p e s m args below meth c H locs n0 m0 mc ms Q ls C R S h1 h2 h3 h4 hl ol os RT => lv_lstore C.1 C.2.1 hd hl hn (p_stE2 he) (fun ls' hl' => (k.2 p e s m args below meth c H locs n0 m0 mc ms Q ls' C R S h1 h2 h3 h4 hl' (he ▸ p_okf (p_okh os) ol) (p_okt os) RT))⟩
theorem g_astore_n {n : Fin 4} {i : Nat} {x : Nat} (lv' : List (Nat × p_AV)) (hd : decode M.2.1 pc = .ok (.astore_n n, 1)) (hi : (n : Nat) = i) (hn : i < M.2.2.1) (he : (i, p_r x) :: lv.filter (fun q => !(q.1 == i) && !(q.1 + 1 == i && p_cat q.2 == 2)) = lv') (k : p_Go K l M (pc + 1) lv' st σ o) : p_Go K l M pc lv (p_r x :: st) σ o := by
  refine ⟨k.1, fun p e s m args below meth c H locs n0 m0 mc ms Q ls C R S h1 h2 h3 h4 hl ol os RT => ?_⟩
  have e9 := p_stE (K := K) he
  have kk : ∀ ls' : Array Slot, lv_has ls' M.2.2.1 (lv'.map (p_q K)) → _ := fun ls' hl' => (k.2 p e s m args below meth c H locs n0 m0 mc ms Q ls' C R S h1 h2 h3 h4 hl' (he ▸ p_okf (p_okh os) ol) (p_okt os) RT)
  have e2 : p_V K (p_r x) = va_rf (p_rO K.1 x) := rfl
  rw [e2] at e9
  show W p l e (p_rm M mc ms) s m args below meth c H locs _ _ Q (F0 m pc ls (va_rf (p_rO K.1 x) :: st.map (p_V K)))
  cases hx : p_rO K.1 x with
  | none => rw [hx] at e9; exact lv_astore_nN C.1 C.2.1 hd hi hl hn e9 kk
  | some b => rw [hx] at e9; exact lv_astore_n C.1 C.2.1 hd hi hl hn e9 kk
theorem g_astore {i : Nat} {x : Nat} (lv' : List (Nat × p_AV)) (hd : decode M.2.1 pc = .ok (.astore i, 2)) (hn : i < M.2.2.1) (he : (i, p_r x) :: lv.filter (fun q => !(q.1 == i) && !(q.1 + 1 == i && p_cat q.2 == 2)) = lv') (k : p_Go K l M (pc + 2) lv' st σ o) : p_Go K l M pc lv (p_r x :: st) σ o := by
  refine ⟨k.1, fun p e s m args below meth c H locs n0 m0 mc ms Q ls C R S h1 h2 h3 h4 hl ol os RT => ?_⟩
  have e9 := p_stE (K := K) he
  have kk : ∀ ls' : Array Slot, lv_has ls' M.2.2.1 (lv'.map (p_q K)) → _ := fun ls' hl' => (k.2 p e s m args below meth c H locs n0 m0 mc ms Q ls' C R S h1 h2 h3 h4 hl' (he ▸ p_okf (p_okh os) ol) (p_okt os) RT)
  have e2 : p_V K (p_r x) = va_rf (p_rO K.1 x) := rfl
  rw [e2] at e9
  show W p l e (p_rm M mc ms) s m args below meth c H locs _ _ Q (F0 m pc ls (va_rf (p_rO K.1 x) :: st.map (p_V K)))
  cases hx : p_rO K.1 x with
  | none => rw [hx] at e9; exact lv_astoreN C.1 C.2.1 hd hl hn e9 kk
  | some b => rw [hx] at e9; exact lv_astore C.1 C.2.1 hd hl hn e9 kk
theorem g_iinc {i j : Nat} {n : Int} {x : Int} (lv' : List (Nat × p_AV)) (hd : decode M.2.1 pc = .ok (.iinc i n, 3)) (hj : lv[j]? = some (i, p_i x)) (hn : i < M.2.2.1) (he : (i, p_i (p_w (x + n))) :: lv.filter (fun q => !(q.1 == i) && !(q.1 + 1 == i && p_cat q.2 == 2)) = lv') (k : p_Go K l M (pc + 3) lv' st σ o) : p_Go K l M pc lv st σ o :=
  ⟨k.1, fun p e s m args below meth c H locs n0 m0 mc ms Q ls C R S h1 h2 h3 h4 hl ol os RT => lv_iinc (v := Int32.ofInt (p_w (x + n))) (k := j) C.1 C.2.1 hd hl (by rw [List.getElem?_map, hj]; rfl) (by rw [p_w_of, Int32.ofInt_add]) hn (p_stE he) (fun ls' hl' => (k.2 p e s m args below meth c H locs n0 m0 mc ms Q ls' C R S h1 h2 h3 h4 hl' (he ▸ p_okf (p_w_c _) ol) os RT))⟩
theorem g_iadd {x y : Int} (hd : decode M.2.1 pc = .ok (.iadd, 1)) (k : p_Go K l M (pc + 1) lv (p_i (p_w (x + y)) :: st) σ o) : p_Go K l M pc lv (p_i y :: p_i x :: st) σ o :=
  ⟨k.1, fun p e s m args below meth c H locs n0 m0 mc ms Q ls C R S h1 h2 h3 h4 hl ol os RT => lv_iadd C.1 C.2.1 hd (W.eq (by have hy : p_c y := p_okh os; have hx : p_c x := p_okh (p_okt os); show F0 m (pc + 1) ls (_ :: st.map (p_V K)) = F0 m (pc + 1) ls (p_V K (p_i (p_w (x + y))) :: st.map (p_V K)); rw [show p_V K (p_i (p_w (x + y))) = _ from congrArg Value.int ((p_w_of _).trans (Int32.ofInt_add x y))]) (k.2 p e s m args below meth c H locs n0 m0 mc ms Q ls C R S h1 h2 h3 h4 hl ol (p_ok2 (p_w_c _) (p_okt (p_okt os))) RT))⟩
theorem g_isub {x y : Int} (hd : decode M.2.1 pc = .ok (.isub, 1)) (k : p_Go K l M (pc + 1) lv (p_i (p_w (x - y)) :: st) σ o) : p_Go K l M pc lv (p_i y :: p_i x :: st) σ o :=
  ⟨k.1, fun p e s m args below meth c H locs n0 m0 mc ms Q ls C R S h1 h2 h3 h4 hl ol os RT => lv_isub C.1 C.2.1 hd (W.eq (by have hy : p_c y := p_okh os; have hx : p_c x := p_okh (p_okt os); show F0 m (pc + 1) ls (_ :: st.map (p_V K)) = F0 m (pc + 1) ls (p_V K (p_i (p_w (x - y))) :: st.map (p_V K)); rw [show p_V K (p_i (p_w (x - y))) = _ from congrArg Value.int ((p_w_of _).trans (Int32.ofInt_sub x y))]) (k.2 p e s m args below meth c H locs n0 m0 mc ms Q ls C R S h1 h2 h3 h4 hl ol (p_ok2 (p_w_c _) (p_okt (p_okt os))) RT))⟩
theorem g_imul {x y : Int} (hd : decode M.2.1 pc = .ok (.imul, 1)) (k : p_Go K l M (pc + 1) lv (p_i (p_w (x * y)) :: st) σ o) : p_Go K l M pc lv (p_i y :: p_i x :: st) σ o :=
  ⟨k.1, fun p e s m args below meth c H locs n0 m0 mc ms Q ls C R S h1 h2 h3 h4 hl ol os RT => lv_imul C.1 C.2.1 hd (W.eq (by have hy : p_c y := p_okh os; have hx : p_c x := p_okh (p_okt os); show F0 m (pc + 1) ls (_ :: st.map (p_V K)) = F0 m (pc + 1) ls (p_V K (p_i (p_w (x * y))) :: st.map (p_V K)); rw [show p_V K (p_i (p_w (x * y))) = _ from congrArg Value.int ((p_w_of _).trans (Int32.ofInt_mul x y))]) (k.2 p e s m args below meth c H locs n0 m0 mc ms Q ls C R S h1 h2 h3 h4 hl ol (p_ok2 (p_w_c _) (p_okt (p_okt os))) RT))⟩
theorem g_ladd {x y : Int} (hd : decode M.2.1 pc = .ok (.ladd, 1)) (k : p_Go K l M (pc + 1) lv (p_j (p_w6 (x + y)) :: st) σ o) : p_Go K l M pc lv (p_j y :: p_j x :: st) σ o :=
  ⟨k.1, fun p e s m args below meth c H locs n0 m0 mc ms Q ls C R S h1 h2 h3 h4 hl ol os RT => lv_ladd C.1 C.2.1 hd (W.eq (by have hy : p_c6 y := p_okh os; have hx : p_c6 x := p_okh (p_okt os); show F0 m (pc + 1) ls (_ :: st.map (p_V K)) = F0 m (pc + 1) ls (p_V K (p_j (p_w6 (x + y))) :: st.map (p_V K)); rw [show p_V K (p_j (p_w6 (x + y))) = _ from congrArg Value.long ((p_w6_of _).trans (Int64.ofInt_add x y))]) (k.2 p e s m args below meth c H locs n0 m0 mc ms Q ls C R S h1 h2 h3 h4 hl ol (p_ok2 (p_w6_c _) (p_okt (p_okt os))) RT))⟩
theorem g_lsub {x y : Int} (hd : decode M.2.1 pc = .ok (.lsub, 1)) (k : p_Go K l M (pc + 1) lv (p_j (p_w6 (x - y)) :: st) σ o) : p_Go K l M pc lv (p_j y :: p_j x :: st) σ o :=
  ⟨k.1, fun p e s m args below meth c H locs n0 m0 mc ms Q ls C R S h1 h2 h3 h4 hl ol os RT => lv_lsub C.1 C.2.1 hd (W.eq (by have hy : p_c6 y := p_okh os; have hx : p_c6 x := p_okh (p_okt os); show F0 m (pc + 1) ls (_ :: st.map (p_V K)) = F0 m (pc + 1) ls (p_V K (p_j (p_w6 (x - y))) :: st.map (p_V K)); rw [show p_V K (p_j (p_w6 (x - y))) = _ from congrArg Value.long ((p_w6_of _).trans (Int64.ofInt_sub x y))]) (k.2 p e s m args below meth c H locs n0 m0 mc ms Q ls C R S h1 h2 h3 h4 hl ol (p_ok2 (p_w6_c _) (p_okt (p_okt os))) RT))⟩
theorem g_lmul {x y : Int} (hd : decode M.2.1 pc = .ok (.lmul, 1)) (k : p_Go K l M (pc + 1) lv (p_j (p_w6 (x * y)) :: st) σ o) : p_Go K l M pc lv (p_j y :: p_j x :: st) σ o :=
  ⟨k.1, fun p e s m args below meth c H locs n0 m0 mc ms Q ls C R S h1 h2 h3 h4 hl ol os RT => lv_lmul C.1 C.2.1 hd (W.eq (by have hy : p_c6 y := p_okh os; have hx : p_c6 x := p_okh (p_okt os); show F0 m (pc + 1) ls (_ :: st.map (p_V K)) = F0 m (pc + 1) ls (p_V K (p_j (p_w6 (x * y))) :: st.map (p_V K)); rw [show p_V K (p_j (p_w6 (x * y))) = _ from congrArg Value.long ((p_w6_of _).trans (Int64.ofInt_mul x y))]) (k.2 p e s m args below meth c H locs n0 m0 mc ms Q ls C R S h1 h2 h3 h4 hl ol (p_ok2 (p_w6_c _) (p_okt (p_okt os))) RT))⟩
theorem g_iand {x y : Int} (hd : decode M.2.1 pc = .ok (.iand, 1)) (k : p_Go K l M (pc + 1) lv (p_i (p_and x y) :: st) σ o) : p_Go K l M pc lv (p_i y :: p_i x :: st) σ o :=
  ⟨k.1, fun p e s m args below meth c H locs n0 m0 mc ms Q ls C R S h1 h2 h3 h4 hl ol os RT => lv_iand C.1 C.2.1 hd (W.eq (by have hy : p_c y := p_okh os; have hx : p_c x := p_okh (p_okt os); show F0 m (pc + 1) ls (_ :: st.map (p_V K)) = F0 m (pc + 1) ls (p_V K (p_i (p_and x y)) :: st.map (p_V K)); rw [show p_V K (p_i (p_and x y)) = _ from congrArg Value.int (Int32.ofInt_toInt _)]) (k.2 p e s m args below meth c H locs n0 m0 mc ms Q ls C R S h1 h2 h3 h4 hl ol (p_ok2 (p_i32 _) (p_okt (p_okt os))) RT))⟩
theorem g_ior {x y : Int} (hd : decode M.2.1 pc = .ok (.ior, 1)) (k : p_Go K l M (pc + 1) lv (p_i (p_or x y) :: st) σ o) : p_Go K l M pc lv (p_i y :: p_i x :: st) σ o :=
  ⟨k.1, fun p e s m args below meth c H locs n0 m0 mc ms Q ls C R S h1 h2 h3 h4 hl ol os RT => lv_ior C.1 C.2.1 hd (W.eq (by have hy : p_c y := p_okh os; have hx : p_c x := p_okh (p_okt os); show F0 m (pc + 1) ls (_ :: st.map (p_V K)) = F0 m (pc + 1) ls (p_V K (p_i (p_or x y)) :: st.map (p_V K)); rw [show p_V K (p_i (p_or x y)) = _ from congrArg Value.int (Int32.ofInt_toInt _)]) (k.2 p e s m args below meth c H locs n0 m0 mc ms Q ls C R S h1 h2 h3 h4 hl ol (p_ok2 (p_i32 _) (p_okt (p_okt os))) RT))⟩
theorem g_ixor {x y : Int} (hd : decode M.2.1 pc = .ok (.ixor, 1)) (k : p_Go K l M (pc + 1) lv (p_i (p_xor x y) :: st) σ o) : p_Go K l M pc lv (p_i y :: p_i x :: st) σ o :=
  ⟨k.1, fun p e s m args below meth c H locs n0 m0 mc ms Q ls C R S h1 h2 h3 h4 hl ol os RT => lv_ixor C.1 C.2.1 hd (W.eq (by have hy : p_c y := p_okh os; have hx : p_c x := p_okh (p_okt os); show F0 m (pc + 1) ls (_ :: st.map (p_V K)) = F0 m (pc + 1) ls (p_V K (p_i (p_xor x y)) :: st.map (p_V K)); rw [show p_V K (p_i (p_xor x y)) = _ from congrArg Value.int (Int32.ofInt_toInt _)]) (k.2 p e s m args below meth c H locs n0 m0 mc ms Q ls C R S h1 h2 h3 h4 hl ol (p_ok2 (p_i32 _) (p_okt (p_okt os))) RT))⟩
theorem g_land {x y : Int} (hd : decode M.2.1 pc = .ok (.land, 1)) (k : p_Go K l M (pc + 1) lv (p_j (p_and6 x y) :: st) σ o) : p_Go K l M pc lv (p_j y :: p_j x :: st) σ o :=
  ⟨k.1, fun p e s m args below meth c H locs n0 m0 mc ms Q ls C R S h1 h2 h3 h4 hl ol os RT => lv_land C.1 C.2.1 hd (W.eq (by have hy : p_c6 y := p_okh os; have hx : p_c6 x := p_okh (p_okt os); show F0 m (pc + 1) ls (_ :: st.map (p_V K)) = F0 m (pc + 1) ls (p_V K (p_j (p_and6 x y)) :: st.map (p_V K)); rw [show p_V K (p_j (p_and6 x y)) = _ from congrArg Value.long (Int64.ofInt_toInt _)]) (k.2 p e s m args below meth c H locs n0 m0 mc ms Q ls C R S h1 h2 h3 h4 hl ol (p_ok2 (p_i64 _) (p_okt (p_okt os))) RT))⟩
theorem g_lor {x y : Int} (hd : decode M.2.1 pc = .ok (.lor, 1)) (k : p_Go K l M (pc + 1) lv (p_j (p_or6 x y) :: st) σ o) : p_Go K l M pc lv (p_j y :: p_j x :: st) σ o :=
  ⟨k.1, fun p e s m args below meth c H locs n0 m0 mc ms Q ls C R S h1 h2 h3 h4 hl ol os RT => lv_lor C.1 C.2.1 hd (W.eq (by have hy : p_c6 y := p_okh os; have hx : p_c6 x := p_okh (p_okt os); show F0 m (pc + 1) ls (_ :: st.map (p_V K)) = F0 m (pc + 1) ls (p_V K (p_j (p_or6 x y)) :: st.map (p_V K)); rw [show p_V K (p_j (p_or6 x y)) = _ from congrArg Value.long (Int64.ofInt_toInt _)]) (k.2 p e s m args below meth c H locs n0 m0 mc ms Q ls C R S h1 h2 h3 h4 hl ol (p_ok2 (p_i64 _) (p_okt (p_okt os))) RT))⟩
theorem g_lxor {x y : Int} (hd : decode M.2.1 pc = .ok (.lxor, 1)) (k : p_Go K l M (pc + 1) lv (p_j (p_xor6 x y) :: st) σ o) : p_Go K l M pc lv (p_j y :: p_j x :: st) σ o :=
  ⟨k.1, fun p e s m args below meth c H locs n0 m0 mc ms Q ls C R S h1 h2 h3 h4 hl ol os RT => lv_lxor C.1 C.2.1 hd (W.eq (by have hy : p_c6 y := p_okh os; have hx : p_c6 x := p_okh (p_okt os); show F0 m (pc + 1) ls (_ :: st.map (p_V K)) = F0 m (pc + 1) ls (p_V K (p_j (p_xor6 x y)) :: st.map (p_V K)); rw [show p_V K (p_j (p_xor6 x y)) = _ from congrArg Value.long (Int64.ofInt_toInt _)]) (k.2 p e s m args below meth c H locs n0 m0 mc ms Q ls C R S h1 h2 h3 h4 hl ol (p_ok2 (p_i64 _) (p_okt (p_okt os))) RT))⟩
theorem g_idiv {x y : Int} (hd : decode M.2.1 pc = .ok (.idiv, 1)) (hz : y ≠ 0) (k : p_Go K l M (pc + 1) lv (p_i (p_div x y) :: st) σ o) : p_Go K l M pc lv (p_i y :: p_i x :: st) σ o :=
  ⟨k.1, fun p e s m args below meth c H locs n0 m0 mc ms Q ls C R S h1 h2 h3 h4 hl ol os RT => lv_idiv C.1 C.2.1 hd (fun h => hz ((p_eq0 (p_okh os)).mp h)) (W.eq (by have hy : p_c y := p_okh os; have hx : p_c x := p_okh (p_okt os); show F0 m (pc + 1) ls (_ :: st.map (p_V K)) = F0 m (pc + 1) ls (p_V K (p_i (p_div x y)) :: st.map (p_V K)); rw [show p_V K (p_i (p_div x y)) = _ from congrArg Value.int (p_tdiv hx hy)]) (k.2 p e s m args below meth c H locs n0 m0 mc ms Q ls C R S h1 h2 h3 h4 hl ol (p_ok2 (p_w_c _) (p_okt (p_okt os))) RT))⟩
theorem g_irem {x y : Int} (hd : decode M.2.1 pc = .ok (.irem, 1)) (hz : y ≠ 0) (k : p_Go K l M (pc + 1) lv (p_i (p_rem x y) :: st) σ o) : p_Go K l M pc lv (p_i y :: p_i x :: st) σ o :=
  ⟨k.1, fun p e s m args below meth c H locs n0 m0 mc ms Q ls C R S h1 h2 h3 h4 hl ol os RT => lv_irem C.1 C.2.1 hd (fun h => hz ((p_eq0 (p_okh os)).mp h)) (W.eq (by have hy : p_c y := p_okh os; have hx : p_c x := p_okh (p_okt os); show F0 m (pc + 1) ls (_ :: st.map (p_V K)) = F0 m (pc + 1) ls (p_V K (p_i (p_rem x y)) :: st.map (p_V K)); rw [show p_V K (p_i (p_rem x y)) = _ from congrArg Value.int (p_trem hx hy)]) (k.2 p e s m args below meth c H locs n0 m0 mc ms Q ls C R S h1 h2 h3 h4 hl ol (p_ok2 (p_w_c _) (p_okt (p_okt os))) RT))⟩
theorem g_iushr {x y : Int} (hd : decode M.2.1 pc = .ok (.iushr, 1)) (k : p_Go K l M (pc + 1) lv (p_i (p_ushr x y) :: st) σ o) : p_Go K l M pc lv (p_i y :: p_i x :: st) σ o :=
  ⟨k.1, fun p e s m args below meth c H locs n0 m0 mc ms Q ls C R S h1 h2 h3 h4 hl ol os RT => lv_iushr (v := Int32.ofInt (p_ushr x y)) C.1 C.2.1 hd (Int32.ofInt_toInt _).symm (k.2 p e s m args below meth c H locs n0 m0 mc ms Q ls C R S h1 h2 h3 h4 hl ol (p_ok2 (p_i32 _) (p_okt (p_okt os))) RT)⟩
theorem g_lshl {x y : Int} (hd : decode M.2.1 pc = .ok (.lshl, 1)) (k : p_Go K l M (pc + 1) lv (p_j (p_shl6 x y) :: st) σ o) : p_Go K l M pc lv (p_i y :: p_j x :: st) σ o :=
  ⟨k.1, fun p e s m args below meth c H locs n0 m0 mc ms Q ls C R S h1 h2 h3 h4 hl ol os RT => lv_lshl (v := Int64.ofInt (p_shl6 x y)) C.1 C.2.1 hd (Int64.ofInt_toInt _).symm (k.2 p e s m args below meth c H locs n0 m0 mc ms Q ls C R S h1 h2 h3 h4 hl ol (p_ok2 (p_i64 _) (p_okt (p_okt os))) RT)⟩
theorem g_lshr {x y : Int} (hd : decode M.2.1 pc = .ok (.lshr, 1)) (k : p_Go K l M (pc + 1) lv (p_j (p_shr6 x y) :: st) σ o) : p_Go K l M pc lv (p_i y :: p_j x :: st) σ o :=
  ⟨k.1, fun p e s m args below meth c H locs n0 m0 mc ms Q ls C R S h1 h2 h3 h4 hl ol os RT => lv_lshr (v := Int64.ofInt (p_shr6 x y)) C.1 C.2.1 hd (Int64.ofInt_toInt _).symm (k.2 p e s m args below meth c H locs n0 m0 mc ms Q ls C R S h1 h2 h3 h4 hl ol (p_ok2 (p_i64 _) (p_okt (p_okt os))) RT)⟩
theorem g_lushr {x y : Int} (hd : decode M.2.1 pc = .ok (.lushr, 1)) (k : p_Go K l M (pc + 1) lv (p_j (p_ushr6 x y) :: st) σ o) : p_Go K l M pc lv (p_i y :: p_j x :: st) σ o :=
  ⟨k.1, fun p e s m args below meth c H locs n0 m0 mc ms Q ls C R S h1 h2 h3 h4 hl ol os RT => lv_lushr (v := Int64.ofInt (p_ushr6 x y)) C.1 C.2.1 hd (Int64.ofInt_toInt _).symm (k.2 p e s m args below meth c H locs n0 m0 mc ms Q ls C R S h1 h2 h3 h4 hl ol (p_ok2 (p_i64 _) (p_okt (p_okt os))) RT)⟩
theorem g_i2l {x : Int} (hd : decode M.2.1 pc = .ok (.i2l, 1)) (k : p_Go K l M (pc + 1) lv (p_j x :: st) σ o) : p_Go K l M pc lv (p_i x :: st) σ o :=
  ⟨k.1, fun p e s m args below meth c H locs n0 m0 mc ms Q ls C R S h1 h2 h3 h4 hl ol os RT => lv_i2l (v := Int64.ofInt x) C.1 C.2.1 hd (p_ti2l (p_okh os)) (k.2 p e s m args below meth c H locs n0 m0 mc ms Q ls C R S h1 h2 h3 h4 hl ol (p_ok2 (v := p_j x) (by have h : p_c x := p_okh os; exact (⟨by omega, by omega⟩ : p_c6 x)) (p_okt os)) RT)⟩
theorem g_l2i {x : Int} (hd : decode M.2.1 pc = .ok (.l2i, 1)) (k : p_Go K l M (pc + 1) lv (p_i (p_w x) :: st) σ o) : p_Go K l M pc lv (p_j x :: st) σ o :=
  ⟨k.1, fun p e s m args below meth c H locs n0 m0 mc ms Q ls C R S h1 h2 h3 h4 hl ol os RT => lv_l2i (v := Int32.ofInt (p_w x)) C.1 C.2.1 hd (p_tl2i (p_okh os)) (k.2 p e s m args below meth c H locs n0 m0 mc ms Q ls C R S h1 h2 h3 h4 hl ol (p_ok2 (p_w_c _) (p_okt os)) RT)⟩
theorem g_lcmp {x y : Int} (hd : decode M.2.1 pc = .ok (.lcmp, 1)) (k : p_Go K l M (pc + 1) lv (p_i (p_cmp x y) :: st) σ o) : p_Go K l M pc lv (p_j y :: p_j x :: st) σ o :=
  ⟨k.1, fun p e s m args below meth c H locs n0 m0 mc ms Q ls C R S h1 h2 h3 h4 hl ol os RT => W.lcmp C.1 C.2.1 hd (W.eq (by have hy : p_c6 y := p_okh os; have hx : p_c6 x := p_okh (p_okt os); show F0 m (pc + 1) ls (_ :: st.map (p_V K)) = F0 m (pc + 1) ls (p_V K (p_i (p_cmp x y)) :: st.map (p_V K)); rw [show p_V K (p_i (p_cmp x y)) = _ from congrArg Value.int (p_tcmp hx hy)]) (k.2 p e s m args below meth c H locs n0 m0 mc ms Q ls C R S h1 h2 h3 h4 hl ol (p_ok2 (p_cmp_c _ _) (p_okt (p_okt os))) RT))⟩
theorem g_dup {v : p_AV} (hd : decode M.2.1 pc = .ok (.dup, 1)) (hc : p_cat v = 1) (k : p_Go K l M (pc + 1) lv (v :: v :: st) σ o) : p_Go K l M pc lv (v :: st) σ o :=
  ⟨k.1, fun p e s m args below meth c H locs n0 m0 mc ms Q ls C R S h1 h2 h3 h4 hl ol os RT => lv_dup C.1 C.2.1 hd ((p_V_cat K v).trans hc) (k.2 p e s m args below meth c H locs n0 m0 mc ms Q ls C R S h1 h2 h3 h4 hl ol (p_ok2 (p_okh os) os) RT)⟩
theorem g_dup2 {v w : p_AV} (hd : decode M.2.1 pc = .ok (.dup2, 1)) (hc : p_cat v = 1) (hc2 : p_cat w = 1) (k : p_Go K l M (pc + 1) lv (v :: w :: v :: w :: st) σ o) : p_Go K l M pc lv (v :: w :: st) σ o :=
  ⟨k.1, fun p e s m args below meth c H locs n0 m0 mc ms Q ls C R S h1 h2 h3 h4 hl ol os RT => lv_dup2_11 C.1 C.2.1 hd ((p_V_cat K v).trans hc) ((p_V_cat K w).trans hc2) (k.2 p e s m args below meth c H locs n0 m0 mc ms Q ls C R S h1 h2 h3 h4 hl ol (p_ok2 (p_okh os) (p_ok2 (p_okh (p_okt os)) os)) RT)⟩
theorem g_dup_x1 {v w : p_AV} (hd : decode M.2.1 pc = .ok (.dup_x1, 1)) (hc : p_cat v = 1) (hc2 : p_cat w = 1) (k : p_Go K l M (pc + 1) lv (v :: w :: v :: st) σ o) : p_Go K l M pc lv (v :: w :: st) σ o :=
  ⟨k.1, fun p e s m args below meth c H locs n0 m0 mc ms Q ls C R S h1 h2 h3 h4 hl ol os RT => lv_dup_x1 C.1 C.2.1 hd ((p_V_cat K v).trans hc) ((p_V_cat K w).trans hc2) (k.2 p e s m args below meth c H locs n0 m0 mc ms Q ls C R S h1 h2 h3 h4 hl ol (p_ok2 (p_okh os) (p_ok2 (p_okh (p_okt os)) (p_ok2 (p_okh os) (p_okt (p_okt os))))) RT)⟩
theorem g_pop {v : p_AV} (hd : decode M.2.1 pc = .ok (.pop, 1)) (hc : p_cat v = 1) (k : p_Go K l M (pc + 1) lv st σ o) : p_Go K l M pc lv (v :: st) σ o :=
  ⟨k.1, fun p e s m args below meth c H locs n0 m0 mc ms Q ls C R S h1 h2 h3 h4 hl ol os RT => lv_pop C.1 C.2.1 hd ((p_V_cat K v).trans hc) (k.2 p e s m args below meth c H locs n0 m0 mc ms Q ls C R S h1 h2 h3 h4 hl ol (p_okt os) RT)⟩
theorem g_goto {off : Int} (tgt : Nat) (hd : decode M.2.1 pc = .ok (.goto off, 3)) (ht : (pc : Int) + off = (tgt : Int)) (k : p_Go K l M tgt lv st σ o) : p_Go K l M pc lv st σ o :=
  ⟨k.1, fun p e s m args below meth c H locs n0 m0 mc ms Q ls C R S h1 h2 h3 h4 hl ol os RT => lv_goto C.1 C.2.1 hd ht (k.2 p e s m args below meth c H locs n0 m0 mc ms Q ls C R S h1 h2 h3 h4 hl ol os RT)⟩
theorem g_sub (lv' : List (Nat × p_AV)) (ks : List Nat) (he : ks.filterMap (fun i => lv[i]?) = lv') (k : p_Go K l M pc lv' st σ o) : p_Go K l M pc lv st σ o := by
  refine ⟨k.1, fun p e s m args below meth c H locs n0 m0 mc ms Q ls C R S h1 h2 h3 h4 hl ol os RT => ?_⟩
  have hm : ∀ q ∈ lv', q ∈ lv := fun q hq => by
    rw [← he] at hq
    obtain ⟨i, -, hi⟩ := List.mem_filterMap.mp hq
    exact List.mem_of_getElem? hi
  exact (k.2 p e s m args below meth c H locs n0 m0 mc ms Q ls C R S h1 h2 h3 h4 ⟨hl.1, hl.2.1, fun q hq => by obtain ⟨q1, h9, e9⟩ := List.mem_map.mp hq; exact hl.2.2 q (List.mem_map.mpr ⟨q1, hm q1 h9, e9⟩)⟩ (fun q hq => ol q (hm q hq)) os RT)
theorem g_icmp_eq {x y : Int} {off : Int} (tgt : Nat) (hd : decode M.2.1 pc = .ok (.if_icmp .eq off, 3)) (ht : (pc : Int) + off = (tgt : Int)) (kt : x = y → p_Go K l M tgt lv st σ o) (kf : ¬ (x = y) → p_Go K l M (pc + 3) lv st σ o) : p_Go K l M pc lv (p_i y :: p_i x :: st) σ o := by
  refine ⟨by by_cases h : x = y; exact (kt h).1; exact (kf h).1, fun p e s m args below meth c H locs n0 m0 mc ms Q ls C R S h1 h2 h3 h4 hl ol os RT => ?_⟩
  have hy : p_c y := p_okh os
  have hx : p_c x := p_okh (p_okt os)
  have kt := fun h => ((kt h).2 p e s m args below meth c H locs n0 m0 mc ms Q ls C R S h1 h2 h3 h4 hl ol (p_okt (p_okt os)) RT)
  have kf := fun h => ((kf h).2 p e s m args below meth c H locs n0 m0 mc ms Q ls C R S h1 h2 h3 h4 hl ol (p_okt (p_okt os)) RT)
  exact lv_icmp_eq C.1 C.2.1 hd ht (fun h => kt ((p_eq hx hy).mp h)) (fun h => kf (fun q => h ((p_eq hx hy).mpr q)))
theorem g_icmp_ne {x y : Int} {off : Int} (tgt : Nat) (hd : decode M.2.1 pc = .ok (.if_icmp .ne off, 3)) (ht : (pc : Int) + off = (tgt : Int)) (kt : x ≠ y → p_Go K l M tgt lv st σ o) (kf : ¬ (x ≠ y) → p_Go K l M (pc + 3) lv st σ o) : p_Go K l M pc lv (p_i y :: p_i x :: st) σ o := by
  refine ⟨by by_cases h : x ≠ y; exact (kt h).1; exact (kf h).1, fun p e s m args below meth c H locs n0 m0 mc ms Q ls C R S h1 h2 h3 h4 hl ol os RT => ?_⟩
  have hy : p_c y := p_okh os
  have hx : p_c x := p_okh (p_okt os)
  have kt := fun h => ((kt h).2 p e s m args below meth c H locs n0 m0 mc ms Q ls C R S h1 h2 h3 h4 hl ol (p_okt (p_okt os)) RT)
  have kf := fun h => ((kf h).2 p e s m args below meth c H locs n0 m0 mc ms Q ls C R S h1 h2 h3 h4 hl ol (p_okt (p_okt os)) RT)
  exact lv_icmp_ne C.1 C.2.1 hd ht (fun h => kt (fun q => h ((p_eq hx hy).mpr q))) (fun h => kf (fun q => q ((p_eq hx hy).mp h)))
theorem g_icmp_lt {x y : Int} {off : Int} (tgt : Nat) (hd : decode M.2.1 pc = .ok (.if_icmp .lt off, 3)) (ht : (pc : Int) + off = (tgt : Int)) (kt : x < y → p_Go K l M tgt lv st σ o) (kf : ¬ (x < y) → p_Go K l M (pc + 3) lv st σ o) : p_Go K l M pc lv (p_i y :: p_i x :: st) σ o := by
  refine ⟨by by_cases h : x < y; exact (kt h).1; exact (kf h).1, fun p e s m args below meth c H locs n0 m0 mc ms Q ls C R S h1 h2 h3 h4 hl ol os RT => ?_⟩
  have hy : p_c y := p_okh os
  have hx : p_c x := p_okh (p_okt os)
  have kt := fun h => ((kt h).2 p e s m args below meth c H locs n0 m0 mc ms Q ls C R S h1 h2 h3 h4 hl ol (p_okt (p_okt os)) RT)
  have kf := fun h => ((kf h).2 p e s m args below meth c H locs n0 m0 mc ms Q ls C R S h1 h2 h3 h4 hl ol (p_okt (p_okt os)) RT)
  exact lv_icmp_lt C.1 C.2.1 hd ht (fun h => kt ((p_lt hx hy).mp h)) (fun h => kf (fun q => h ((p_lt hx hy).mpr q)))
theorem g_icmp_ge {x y : Int} {off : Int} (tgt : Nat) (hd : decode M.2.1 pc = .ok (.if_icmp .ge off, 3)) (ht : (pc : Int) + off = (tgt : Int)) (kt : y ≤ x → p_Go K l M tgt lv st σ o) (kf : ¬ (y ≤ x) → p_Go K l M (pc + 3) lv st σ o) : p_Go K l M pc lv (p_i y :: p_i x :: st) σ o := by
  refine ⟨by by_cases h : y ≤ x; exact (kt h).1; exact (kf h).1, fun p e s m args below meth c H locs n0 m0 mc ms Q ls C R S h1 h2 h3 h4 hl ol os RT => ?_⟩
  have hy : p_c y := p_okh os
  have hx : p_c x := p_okh (p_okt os)
  have kt := fun h => ((kt h).2 p e s m args below meth c H locs n0 m0 mc ms Q ls C R S h1 h2 h3 h4 hl ol (p_okt (p_okt os)) RT)
  have kf := fun h => ((kf h).2 p e s m args below meth c H locs n0 m0 mc ms Q ls C R S h1 h2 h3 h4 hl ol (p_okt (p_okt os)) RT)
  exact lv_icmp_ge C.1 C.2.1 hd ht (fun h => kt ((p_le hy hx).mp h)) (fun h => kf (fun q => h ((p_le hy hx).mpr q)))
theorem g_icmp_gt {x y : Int} {off : Int} (tgt : Nat) (hd : decode M.2.1 pc = .ok (.if_icmp .gt off, 3)) (ht : (pc : Int) + off = (tgt : Int)) (kt : y < x → p_Go K l M tgt lv st σ o) (kf : ¬ (y < x) → p_Go K l M (pc + 3) lv st σ o) : p_Go K l M pc lv (p_i y :: p_i x :: st) σ o := by
  refine ⟨by by_cases h : y < x; exact (kt h).1; exact (kf h).1, fun p e s m args below meth c H locs n0 m0 mc ms Q ls C R S h1 h2 h3 h4 hl ol os RT => ?_⟩
  have hy : p_c y := p_okh os
  have hx : p_c x := p_okh (p_okt os)
  have kt := fun h => ((kt h).2 p e s m args below meth c H locs n0 m0 mc ms Q ls C R S h1 h2 h3 h4 hl ol (p_okt (p_okt os)) RT)
  have kf := fun h => ((kf h).2 p e s m args below meth c H locs n0 m0 mc ms Q ls C R S h1 h2 h3 h4 hl ol (p_okt (p_okt os)) RT)
  exact lv_icmp_gt C.1 C.2.1 hd ht (fun h => kt ((p_lt hy hx).mp h)) (fun h => kf (fun q => h ((p_lt hy hx).mpr q)))
theorem g_icmp_le {x y : Int} {off : Int} (tgt : Nat) (hd : decode M.2.1 pc = .ok (.if_icmp .le off, 3)) (ht : (pc : Int) + off = (tgt : Int)) (kt : x ≤ y → p_Go K l M tgt lv st σ o) (kf : ¬ (x ≤ y) → p_Go K l M (pc + 3) lv st σ o) : p_Go K l M pc lv (p_i y :: p_i x :: st) σ o := by
  refine ⟨by by_cases h : x ≤ y; exact (kt h).1; exact (kf h).1, fun p e s m args below meth c H locs n0 m0 mc ms Q ls C R S h1 h2 h3 h4 hl ol os RT => ?_⟩
  have hy : p_c y := p_okh os
  have hx : p_c x := p_okh (p_okt os)
  have kt := fun h => ((kt h).2 p e s m args below meth c H locs n0 m0 mc ms Q ls C R S h1 h2 h3 h4 hl ol (p_okt (p_okt os)) RT)
  have kf := fun h => ((kf h).2 p e s m args below meth c H locs n0 m0 mc ms Q ls C R S h1 h2 h3 h4 hl ol (p_okt (p_okt os)) RT)
  exact lv_icmp_le C.1 C.2.1 hd ht (fun h => kt ((p_le hx hy).mp h)) (fun h => kf (fun q => h ((p_le hx hy).mpr q)))
theorem g_if_eq {x : Int} {off : Int} (tgt : Nat) (hd : decode M.2.1 pc = .ok (.ifCond .eq off, 3)) (ht : (pc : Int) + off = (tgt : Int)) (kt : x = 0 → p_Go K l M tgt lv st σ o) (kf : ¬ (x = 0) → p_Go K l M (pc + 3) lv st σ o) : p_Go K l M pc lv (p_i x :: st) σ o := by
  refine ⟨by by_cases h : x = 0; exact (kt h).1; exact (kf h).1, fun p e s m args below meth c H locs n0 m0 mc ms Q ls C R S h1 h2 h3 h4 hl ol os RT => ?_⟩
  have hx : p_c x := p_okh os
  have h0 : p_c 0 := by decide
  have kt := fun h => ((kt h).2 p e s m args below meth c H locs n0 m0 mc ms Q ls C R S h1 h2 h3 h4 hl ol (p_okt os) RT)
  have kf := fun h => ((kf h).2 p e s m args below meth c H locs n0 m0 mc ms Q ls C R S h1 h2 h3 h4 hl ol (p_okt os) RT)
  exact lv_if_eq C.1 C.2.1 hd ht (fun h => kt ((p_eq0 hx).mp h)) (fun h => kf (fun q => h ((p_eq0 hx).mpr q)))
theorem g_if_ne {x : Int} {off : Int} (tgt : Nat) (hd : decode M.2.1 pc = .ok (.ifCond .ne off, 3)) (ht : (pc : Int) + off = (tgt : Int)) (kt : x ≠ 0 → p_Go K l M tgt lv st σ o) (kf : ¬ (x ≠ 0) → p_Go K l M (pc + 3) lv st σ o) : p_Go K l M pc lv (p_i x :: st) σ o := by
  refine ⟨by by_cases h : x ≠ 0; exact (kt h).1; exact (kf h).1, fun p e s m args below meth c H locs n0 m0 mc ms Q ls C R S h1 h2 h3 h4 hl ol os RT => ?_⟩
  have hx : p_c x := p_okh os
  have h0 : p_c 0 := by decide
  have kt := fun h => ((kt h).2 p e s m args below meth c H locs n0 m0 mc ms Q ls C R S h1 h2 h3 h4 hl ol (p_okt os) RT)
  have kf := fun h => ((kf h).2 p e s m args below meth c H locs n0 m0 mc ms Q ls C R S h1 h2 h3 h4 hl ol (p_okt os) RT)
  exact lv_if_ne C.1 C.2.1 hd ht (fun h => kt (fun q => h ((p_eq0 hx).mpr q))) (fun h => kf (fun q => q ((p_eq0 hx).mp h)))
theorem g_if_lt {x : Int} {off : Int} (tgt : Nat) (hd : decode M.2.1 pc = .ok (.ifCond .lt off, 3)) (ht : (pc : Int) + off = (tgt : Int)) (kt : x < 0 → p_Go K l M tgt lv st σ o) (kf : ¬ (x < 0) → p_Go K l M (pc + 3) lv st σ o) : p_Go K l M pc lv (p_i x :: st) σ o := by
  refine ⟨by by_cases h : x < 0; exact (kt h).1; exact (kf h).1, fun p e s m args below meth c H locs n0 m0 mc ms Q ls C R S h1 h2 h3 h4 hl ol os RT => ?_⟩
  have hx : p_c x := p_okh os
  have h0 : p_c 0 := by decide
  have kt := fun h => ((kt h).2 p e s m args below meth c H locs n0 m0 mc ms Q ls C R S h1 h2 h3 h4 hl ol (p_okt os) RT)
  have kf := fun h => ((kf h).2 p e s m args below meth c H locs n0 m0 mc ms Q ls C R S h1 h2 h3 h4 hl ol (p_okt os) RT)
  exact lv_if_lt C.1 C.2.1 hd ht (fun h => kt ((p_lt hx h0).mp h)) (fun h => kf (fun q => h ((p_lt hx h0).mpr q)))
theorem g_if_ge {x : Int} {off : Int} (tgt : Nat) (hd : decode M.2.1 pc = .ok (.ifCond .ge off, 3)) (ht : (pc : Int) + off = (tgt : Int)) (kt : 0 ≤ x → p_Go K l M tgt lv st σ o) (kf : ¬ (0 ≤ x) → p_Go K l M (pc + 3) lv st σ o) : p_Go K l M pc lv (p_i x :: st) σ o := by
  refine ⟨by by_cases h : 0 ≤ x; exact (kt h).1; exact (kf h).1, fun p e s m args below meth c H locs n0 m0 mc ms Q ls C R S h1 h2 h3 h4 hl ol os RT => ?_⟩
  have hx : p_c x := p_okh os
  have h0 : p_c 0 := by decide
  have kt := fun h => ((kt h).2 p e s m args below meth c H locs n0 m0 mc ms Q ls C R S h1 h2 h3 h4 hl ol (p_okt os) RT)
  have kf := fun h => ((kf h).2 p e s m args below meth c H locs n0 m0 mc ms Q ls C R S h1 h2 h3 h4 hl ol (p_okt os) RT)
  exact lv_if_ge C.1 C.2.1 hd ht (fun h => kt ((p_le h0 hx).mp h)) (fun h => kf (fun q => h ((p_le h0 hx).mpr q)))
theorem g_if_gt {x : Int} {off : Int} (tgt : Nat) (hd : decode M.2.1 pc = .ok (.ifCond .gt off, 3)) (ht : (pc : Int) + off = (tgt : Int)) (kt : 0 < x → p_Go K l M tgt lv st σ o) (kf : ¬ (0 < x) → p_Go K l M (pc + 3) lv st σ o) : p_Go K l M pc lv (p_i x :: st) σ o := by
  refine ⟨by by_cases h : 0 < x; exact (kt h).1; exact (kf h).1, fun p e s m args below meth c H locs n0 m0 mc ms Q ls C R S h1 h2 h3 h4 hl ol os RT => ?_⟩
  have hx : p_c x := p_okh os
  have h0 : p_c 0 := by decide
  have kt := fun h => ((kt h).2 p e s m args below meth c H locs n0 m0 mc ms Q ls C R S h1 h2 h3 h4 hl ol (p_okt os) RT)
  have kf := fun h => ((kf h).2 p e s m args below meth c H locs n0 m0 mc ms Q ls C R S h1 h2 h3 h4 hl ol (p_okt os) RT)
  exact lv_if_gt C.1 C.2.1 hd ht (fun h => kt ((p_lt h0 hx).mp h)) (fun h => kf (fun q => h ((p_lt h0 hx).mpr q)))
theorem g_if_le {x : Int} {off : Int} (tgt : Nat) (hd : decode M.2.1 pc = .ok (.ifCond .le off, 3)) (ht : (pc : Int) + off = (tgt : Int)) (kt : x ≤ 0 → p_Go K l M tgt lv st σ o) (kf : ¬ (x ≤ 0) → p_Go K l M (pc + 3) lv st σ o) : p_Go K l M pc lv (p_i x :: st) σ o := by
  refine ⟨by by_cases h : x ≤ 0; exact (kt h).1; exact (kf h).1, fun p e s m args below meth c H locs n0 m0 mc ms Q ls C R S h1 h2 h3 h4 hl ol os RT => ?_⟩
  have hx : p_c x := p_okh os
  have h0 : p_c 0 := by decide
  have kt := fun h => ((kt h).2 p e s m args below meth c H locs n0 m0 mc ms Q ls C R S h1 h2 h3 h4 hl ol (p_okt os) RT)
  have kf := fun h => ((kf h).2 p e s m args below meth c H locs n0 m0 mc ms Q ls C R S h1 h2 h3 h4 hl ol (p_okt os) RT)
  exact lv_if_le C.1 C.2.1 hd ht (fun h => kt ((p_le hx h0).mp h)) (fun h => kf (fun q => h ((p_le hx h0).mpr q)))
theorem g_ifnull {x : Nat} {off : Int} (tgt : Nat) (hd : decode M.2.1 pc = .ok (.ifnull off, 3)) (ht : (pc : Int) + off = (tgt : Int)) (kt : x = 0 → p_Go K l M tgt lv st σ o) (kf : ¬ (x = 0) → p_Go K l M (pc + 3) lv st σ o) : p_Go K l M pc lv (p_r x :: st) σ o := by
  refine ⟨by by_cases h : x = 0; exact (kt h).1; exact (kf h).1, fun p e s m args below meth c H locs n0 m0 mc ms Q ls C R S h1 h2 h3 h4 hl ol os RT => ?_⟩
  by_cases h : x = 0
  · subst h
    exact lv_ifnullN C.1 C.2.1 hd ht ((kt rfl).2 p e s m args below meth c H locs n0 m0 mc ms Q ls C R S h1 h2 h3 h4 hl ol (p_okt os) RT)
  · show W p l e (p_rm M mc ms) s m args below meth c H locs _ _ Q (F0 m pc ls (p_V K (p_r x) :: st.map (p_V K)))
    rw [p_V_r (by omega)]
    exact lv_ifnull C.1 C.2.1 hd ((kf h).2 p e s m args below meth c H locs n0 m0 mc ms Q ls C R S h1 h2 h3 h4 hl ol (p_okt os) RT)
theorem g_ifnonnull {x : Nat} {off : Int} (tgt : Nat) (hd : decode M.2.1 pc = .ok (.ifnonnull off, 3)) (ht : (pc : Int) + off = (tgt : Int)) (kt : x ≠ 0 → p_Go K l M tgt lv st σ o) (kf : ¬ (x ≠ 0) → p_Go K l M (pc + 3) lv st σ o) : p_Go K l M pc lv (p_r x :: st) σ o := by
  refine ⟨by by_cases h : x ≠ 0; exact (kt h).1; exact (kf h).1, fun p e s m args below meth c H locs n0 m0 mc ms Q ls C R S h1 h2 h3 h4 hl ol os RT => ?_⟩
  by_cases h : x = 0
  · subst h
    exact lv_ifnonnullN C.1 C.2.1 hd ((kf (fun q => q rfl)).2 p e s m args below meth c H locs n0 m0 mc ms Q ls C R S h1 h2 h3 h4 hl ol (p_okt os) RT)
  · show W p l e (p_rm M mc ms) s m args below meth c H locs _ _ Q (F0 m pc ls (p_V K (p_r x) :: st.map (p_V K)))
    rw [p_V_r (by omega)]
    exact lv_ifnonnull C.1 C.2.1 hd ht ((kt h).2 p e s m args below meth c H locs n0 m0 mc ms Q ls C R S h1 h2 h3 h4 hl ol (p_okt os) RT)
theorem g_tableOut {dflt lo hi : Int} {offs : Array Int} {len : Nat} {x : Int} (tgt : Nat) (hd : decode M.2.1 pc = .ok (.tableswitch dflt lo hi offs, len)) (h : x < lo ∨ hi < x) (ht : (pc : Int) + dflt = (tgt : Int)) (k : p_Go K l M tgt lv st σ o) : p_Go K l M pc lv (p_i x :: st) σ o :=
  ⟨k.1, fun p e s m args below meth c H locs n0 m0 mc ms Q ls C R S h1 h2 h3 h4 hl ol os RT => lv_tableOut C.1 C.2.1 hd (by rw [p_t (p_okh os)]; exact h) ht (k.2 p e s m args below meth c H locs n0 m0 mc ms Q ls C R S h1 h2 h3 h4 hl ol (p_okt os) RT)⟩
theorem g_tableIn {dflt lo hi off : Int} {offs : Array Int} {len : Nat} {x : Int} (tgt : Nat) (hd : decode M.2.1 pc = .ok (.tableswitch dflt lo hi offs, len)) (h1 : lo ≤ x) (h2 : x ≤ hi) (ho : offs[(x - lo).toNat]? = some off) (ht : (pc : Int) + off = (tgt : Int)) (k : p_Go K l M tgt lv st σ o) : p_Go K l M pc lv (p_i x :: st) σ o :=
  ⟨k.1, fun p e s m args below meth c H locs n0 m0 mc ms Q ls C R S g1 g2 g3 g4 hl ol os RT => lv_tableIn C.1 C.2.1 hd (by rw [p_t (p_okh os)]; omega) (by rw [p_t (p_okh os)]; omega) (by rw [p_t (p_okh os)]; exact ho) ht (k.2 p e s m args below meth c H locs n0 m0 mc ms Q ls C R S g1 g2 g3 g4 hl ol (p_okt os) RT)⟩
theorem g_lookup {dflt off : Int} {ps : Array (Int × Int)} {len : Nat} {x : Int} (tgt : Nat) (hd : decode M.2.1 pc = .ok (.lookupswitch dflt ps, len)) (hp : (ps.toList.zip (ps.toList.drop 1)).all (fun (a, next) => a.1 < next.1) = true) (ho : Op.lookupswitch.offset ps.toList dflt x = off) (ht : (pc : Int) + off = (tgt : Int)) (k : p_Go K l M tgt lv st σ o) : p_Go K l M pc lv (p_i x :: st) σ o :=
  ⟨k.1, fun p e s m args below meth c H locs n0 m0 mc ms Q ls C R S h1 h2 h3 h4 hl ol os RT => lv_lookup C.1 C.2.1 hd hp (by rw [p_t (p_okh os)]; exact ho) ht (k.2 p e s m args below meth c H locs n0 m0 mc ms Q ls C R S h1 h2 h3 h4 hl ol (p_okt os) RT)⟩
theorem g_ret (hr : o.2 = σ) (hv : o.1.toList = st) (hd : decode M.2.1 pc = .ok (p_ri M.2.2.2.1, 1)) (hk : (∀ v ∈ st, p_ok v) → p_rk M.2.2.2.1 o.1) : p_Go K l M pc lv st σ o := by
  subst hr
  subst hv
  refine ⟨p_x.rf _, fun p e s m args below meth c H locs n0 m0 mc ms Q ls C R S h1 h2 h3 h4 hl ol os RT => ?_⟩
  refine W.widen (k := mc) (n := ms) (by omega) (by omega) ?_
  exact RT H locs pc ls R S (hk os) hd
end PR
end
section
/-! ===== how the heap moves ===== -/
theorem p_sl_eq {K : p_K} {σ σ' : p_Hp} {b j : Nat} (hz : p_Z σ' b j = p_Z σ b j) (hr : p_R σ' b j = p_R σ b j) (ty : FieldType) : p_sl K σ' b ty j = p_sl K σ b ty j := by
  cases ty <;> simp only [p_sl, hz, hr]
theorem p_cl_lt {ci : Nat} {q : vw_C} (h : sw_cl[ci]? = some q) : ci < 100 := Nat.lt_of_lt_of_le (List.getElem?_eq_some_iff.mp h).1 (by decide)
theorem p_P.putO {K : p_K} {σ σ' : p_Hp} {H H1 : Heap} {a ci k : Nat} {q : vw_C} {cell : Cell} (hP : p_P K σ H) (hi : p_is σ a ci) (hc : sw_cl[ci]? = some q) (hap : ∀ x y, x < q.2.2 → y < q.2.2 → x ≠ y → K.2.2.1 ci x ≠ K.2.2.1 ci y) (hk : k < q.2.2)
    (hn : p_N σ' = p_N σ) (ht : p_T σ' = p_T σ) (hl : p_L σ' = p_L σ) (ho : ∀ b j, ¬ (b = a ∧ j = k) → p_Z σ' b j = p_Z σ b j ∧ p_R σ' b j = p_R σ b j) (hok : p_okT (sw_ty ci k) (p_Z σ' a k))
    (q2 : cell.cls = K.2.1 ci) (q3 : cell.vm = .none) (q4 : ∀ j, j < q.2.2 → cell.slots[K.2.2.1 ci j]? = some (p_sl K σ a (sw_ty ci j) j))
    (e1 : H1[K.1 + a]? = some (cell.setSlot (K.2.2.1 ci k) (p_sl K σ' a (sw_ty ci k) k))) (z : H1.size = H.size) (oq : ∀ x : Nat, x ≠ K.1 + a → H1[x]? = H[x]?) : p_P K σ' H1 := by
  have up : ∀ b t, p_is σ' b t → p_is σ b t := fun b t h => by unfold p_is at h ⊢; rw [hn, ht] at h; exact h
  refine ⟨by rw [z, hn]; exact hP.1, fun b cj r hb hr => ?_, fun b i ty hb hty => ?_⟩
  · have hb := up b cj hb
    by_cases hba : b = a
    · subst hba
      have e : cj = ci := hb.2.2.symm.trans hi.2.2
      subst e
      cases hc.symm.trans hr
      refine ⟨⟨_, e1, q2, q3, fun j hj => ?_⟩, fun j hj => ?_⟩
      · have h := t_set q4 hap hk (p_sl K σ' b (sw_ty cj k) k) j hj
        rw [h]
        by_cases hjk : j = k
        · subst hjk
          simp [updV]
        · simp only [updV, if_neg hjk]
          rw [p_sl_eq (ho b j (fun w => hjk w.2)).1 (ho b j (fun w => hjk w.2)).2]
      · by_cases hjk : j = k
        · subst hjk
          exact hok
        · rw [(ho b j (fun w => hjk w.2)).1]
          exact (hP.2.1 b cj q hb hc).2 j hj
    · obtain ⟨g1, g2⟩ := hP.2.1 b cj r hb hr
      refine ⟨(g1.kept (oq _ (by omega))).to (fun j hj => (p_sl_eq (ho b j (fun w => hba w.1)).1 (ho b j (fun w => hba w.1)).2 _).symm), fun j hj => ?_⟩
      rw [(ho b j (fun w => hba w.1)).1]
      exact g2 j hj
  · have hb := up b _ hb
    have hba : b ≠ a := fun w => by
      subst w
      have e : 100 + i = ci := hb.2.2.symm.trans hi.2.2
      have := p_cl_lt hc
      omega
    obtain ⟨g1, g2, g3⟩ := hP.2.2 b i ty hb hty
    rw [hl]
    refine ⟨?_, fun j hj => ?_, g3⟩
    · rw [oq _ (by omega), g1]
      congr 2
      funext j
      exact (p_sl_eq (ho b j (fun w => hba w.1)).1 (ho b j (fun w => hba w.1)).2 _).symm
    · rw [(ho b j (fun w => hba w.1)).1]
      exact g2 j hj
theorem p_P.putA {K : p_K} {σ σ' : p_Hp} {H H1 : Heap} {a i k : Nat} {ty : FieldType} (hP : p_P K σ H) (hi : p_is σ a (100 + i)) (hc : sw_at[i]? = some ty)
    (hn : p_N σ' = p_N σ) (ht : p_T σ' = p_T σ) (hl : p_L σ' = p_L σ) (ho : ∀ b j, ¬ (b = a ∧ j = k) → p_Z σ' b j = p_Z σ b j ∧ p_R σ' b j = p_R σ b j) (hok : p_okT ty (p_Z σ' a k))
    (e1 : H1[K.1 + a]? = some ((arrV (K.2.2.2.1 i) (p_L σ a) (fun j => p_sl K σ a ty j)).setSlot k (p_sl K σ' a ty k))) (z : H1.size = H.size) (oq : ∀ x : Nat, x ≠ K.1 + a → H1[x]? = H[x]?) : p_P K σ' H1 := by
  have up : ∀ b t, p_is σ' b t → p_is σ b t := fun b t h => by unfold p_is at h ⊢; rw [hn, ht] at h; exact h
  refine ⟨by rw [z, hn]; exact hP.1, fun b cj r hb hr => ?_, fun b i' ty' hb hty => ?_⟩
  · have hb := up b cj hb
    have hba : b ≠ a := fun w => by
      subst w
      have e : 100 + i = cj := hi.2.2.symm.trans hb.2.2
      have := p_cl_lt hr
      omega
    obtain ⟨g1, g2⟩ := hP.2.1 b cj r hb hr
    refine ⟨(g1.kept (oq _ (by omega))).to (fun j hj => (p_sl_eq (ho b j (fun w => hba w.1)).1 (ho b j (fun w => hba w.1)).2 _).symm), fun j hj => ?_⟩
    rw [(ho b j (fun w => hba w.1)).1]
    exact g2 j hj
  · have hb := up b _ hb
    obtain ⟨g1, g2, g3⟩ := hP.2.2 b i' ty' hb hty
    rw [hl]
    by_cases hba : b = a
    · subst hba
      have e : i' = i := by have := hb.2.2.symm.trans hi.2.2; omega
      subst e
      cases hc.symm.trans hty
      refine ⟨?_, fun j hj => ?_, g3⟩
      · rw [e1, arrV_store]
        congr 2
        funext j
        by_cases hjk : j = k
        · subst hjk
          simp [updV]
        · simp only [updV, if_neg hjk]
          exact (p_sl_eq (ho b j (fun w => hjk w.2)).1 (ho b j (fun w => hjk w.2)).2 _).symm
      · by_cases hjk : j = k
        · subst hjk
          exact hok
        · rw [(ho b j (fun w => hjk w.2)).1]
          exact g2 j hj
    · refine ⟨?_, fun j hj => ?_, g3⟩
      · rw [oq _ (by omega), g1]
        congr 2
        funext j
        exact (p_sl_eq (ho b j (fun w => hba w.1)).1 (ho b j (fun w => hba w.1)).2 _).symm
      · rw [(ho b j (fun w => hba w.1)).1]
        exact g2 j hj
theorem p_wZ_o {σ : p_Hp} {a k : Nat} {x : Int} : ∀ b j, ¬ (b = a ∧ j = k) → p_Z (p_wZ σ a k x) b j = p_Z σ b j ∧ p_R (p_wZ σ a k x) b j = p_R σ b j := fun b j h => ⟨if_neg h, rfl⟩
theorem p_wR_o {σ : p_Hp} {a k : Nat} {x : Nat} : ∀ b j, ¬ (b = a ∧ j = k) → p_Z (p_wR σ a k x) b j = p_Z σ b j ∧ p_R (p_wR σ a k x) b j = p_R σ b j := fun b j h => ⟨rfl, if_neg h⟩
theorem p_wZ_s (σ : p_Hp) (a k : Nat) (x : Int) : p_Z (p_wZ σ a k x) a k = x := if_pos ⟨rfl, rfl⟩
theorem p_wR_s (σ : p_Hp) (a k : Nat) (x : Nat) : p_R (p_wR σ a k x) a k = x := if_pos ⟨rfl, rfl⟩
theorem p_S.put {K : p_K} {H0 H H1 : Heap} {locs : List Loc} {a k : Nat} (h : va_S (p_A K) H0 H locs) (z : H1.size = H.size) (oq : ∀ q : Nat, q ≠ K.1 + a → H1[q]? = H[q]?) (ha : 1 ≤ a) : va_S (p_A K) H0 H1 (locs ++ [⟨K.1 + a, k⟩]) := va_S.put h z oq (show K.1 < K.1 + a by omega)
/-! ===== what the tables say of a class, of a field's entry ===== -/
def p_nf (ty : FieldType) : Bool := match ty with
  | .float => false
  | .double => false
  | _ => true
def p_Cl (ci : Nat) (q : vw_C) : Prop := sw_cl[ci]? = some q ∧ (∀ w ∈ u_ws q.1 q.2.1 q.2.2, w ∈ sw_gw) ∧ (∀ k, k < q.2.2 → parseFieldDescriptor (q.2.1 k).2.2.1 = some (sw_ty ci k)) ∧ (∀ a, a < q.2.2 → ∀ b, b < q.2.2 → a ≠ b → (q.2.1 a).2.1 ≠ (q.2.1 b).2.1) ∧ Cond.instantiable q.1 q.2.2 ∈ sw_gw ∧ Cond.initialized q.1 ∈ sw_gw ∧ (∀ k, k < q.2.2 → p_nf (sw_ty ci k) = true)
def p_Fl (own : String) (idx ci k : Nat) (ty : FieldType) (fin : Bool) : Prop := ∃ q : vw_C, p_Cl ci q ∧ k < q.2.2 ∧ Cond.fieldLink own idx (q.2.1 k).1 (q.2.1 k).2.1 (q.2.1 k).2.2.1 ∈ sw_gw ∧ sw_ty ci k = ty ∧ (q.2.1 k).2.2.2 = fin ∧ (q.2.1 k).1 = q.1
theorem p_hts {args : Array Value} {s : State} (h : ∀ w ∈ sw_gw, w.before args s = true) : ∀ w ∈ sw_gw, w.before args s = true := h
section HR
variable {K : p_K} {l : Launch} {M : p_Me} {pc : Nat} {lv : List (Nat × p_AV)} {st : List p_AV} {σ : p_Hp} {o : Option p_AV × p_Hp}
theorem p_get {a ci k idx : Nat} {ty : FieldType} {fin : Bool} {v : p_AV} (hf : p_Fl M.1.cls idx ci k ty fin) (hd : decode M.2.1 pc = .ok (.getfield idx, 3)) (hi : p_is σ a ci) (hv : p_V K v = p_sl K σ a ty k) (hok : p_okT ty (p_Z σ a k) → p_ok v) (k9 : p_Go K l M (pc + 3) lv (v :: st) σ o) : p_Go K l M pc lv (p_r a :: st) σ o := by
  refine ⟨k9.1, fun p e s m args below meth c H locs n0 m0 mc ms Q ls C R S h1 h2 h3 h4 hl ol os RT => ?_⟩
  obtain ⟨q, ⟨c1, c2, c3, c4, -, -⟩, f1, f2, f3, -, -⟩ := hf
  obtain ⟨⟨cell, q1, q2, q3, q4⟩, q5⟩ := R.2.1 a ci q hi c1
  obtain ⟨hS, hfc, kC, hkC, hkind⟩ := C.2.2.2.2.2.2.2.2.1 ci q c1
  obtain ⟨cf, kf, fi, f, hfi, hsl⟩ := hS k f1
  have hts := p_hts C.2.2.2.2.2.1
  show W p l e (p_rm M mc ms) s m args below meth c H locs _ _ Q (F0 m pc ls (p_V K (p_r a) :: st.map (p_V K)))
  rw [p_V_r hi.1]
  refine W.getf C.1 C.2.1 C.2.2.2.2.1 (hts _ f2) hfi (u_facts hfc hkC (u_lays hts c2 f1) hfi).1 q1 (by rw [q3]; exact fun h => by cases h) (v := p_V K v) ?_ rfl rfl hd (k9.2 p e s m args below meth c H locs n0 m0 mc ms Q ls C R S h1 h2 h3 h4 hl ol (p_ok2 (hok (f3 ▸ q5 k f1)) (p_okt os)) RT)
  rw [hsl, q4 k f1, hv, ← f3]
theorem g_getI {a ci k idx : Nat} {ty : FieldType} {fin : Bool} (hf : p_Fl M.1.cls idx ci k ty fin) (ht : ty = .int ∨ ty = .boolean) (hd : decode M.2.1 pc = .ok (.getfield idx, 3)) (hi : p_is σ a ci) (k9 : p_Go K l M (pc + 3) lv (p_i (p_Z σ a k) :: st) σ o) : p_Go K l M pc lv (p_r a :: st) σ o := by
  refine p_get hf hd hi (v := p_i (p_Z σ a k)) ?_ (fun h => ?_) k9
  · rcases ht with rfl | rfl <;> rfl
  · rcases ht with rfl | rfl
    · exact h
    · show p_c (p_Z σ a k)
      rcases (h : p_Z σ a k = 0 ∨ p_Z σ a k = 1) with w | w <;> rw [w] <;> decide
theorem g_getJ {a ci k idx : Nat} {fin : Bool} (hf : p_Fl M.1.cls idx ci k .long fin) (hd : decode M.2.1 pc = .ok (.getfield idx, 3)) (hi : p_is σ a ci) (k9 : p_Go K l M (pc + 3) lv (p_j (p_Z σ a k) :: st) σ o) : p_Go K l M pc lv (p_r a :: st) σ o :=
  p_get hf hd hi (v := p_j (p_Z σ a k)) rfl (fun h => h) k9
theorem g_getR {a ci k idx : Nat} {ty : FieldType} {fin : Bool} (hf : p_Fl M.1.cls idx ci k ty fin) (ht : (∃ C, ty = .object C) ∨ ∃ t, ty = .array t) (hd : decode M.2.1 pc = .ok (.getfield idx, 3)) (hi : p_is σ a ci) (k9 : p_Go K l M (pc + 3) lv (p_r (p_R σ a k) :: st) σ o) : p_Go K l M pc lv (p_r a :: st) σ o := by
  refine p_get hf hd hi (v := p_r (p_R σ a k)) ?_ (fun h => trivial) k9
  rcases ht with ⟨C, rfl⟩ | ⟨t, rfl⟩ <;> rfl
theorem p_put {a ci k idx : Nat} {ty : FieldType} {fin : Bool} {v : p_AV} {σ' : p_Hp} (hf : p_Fl M.1.cls idx ci k ty fin) (hfi : fin = false ∨ (M.1.name = "<init>" ∧ sw_cl[ci]?.map (·.1) = some M.1.cls)) (hd : decode M.2.1 pc = .ok (.putfield idx, 3)) (hi : p_is σ a ci) (hn : p_N σ' = p_N σ) (hm : p_M σ' = p_M σ) (ht : p_T σ' = p_T σ) (hL : p_L σ' = p_L σ) (ho : ∀ b j, ¬ (b = a ∧ j = k) → p_Z σ' b j = p_Z σ b j ∧ p_R σ' b j = p_R σ b j) (hok : p_ok v → p_okT ty (p_Z σ' a k))
    (hv : p_V K v = p_sl K σ' a ty k) (hnr : p_ok v → narrow ty (p_V K v) = p_V K v) (hft : fits ty (p_V K v) = true) (k9 : p_Go K l M (pc + 3) lv st σ' o) : p_Go K l M pc lv (v :: p_r a :: st) σ o := by
  refine ⟨p_x.of hn hm ht hL k9.1, fun p e s m args below meth c H locs n0 m0 mc ms Q ls C R S h1 h2 h3 h4 hl ol os RT => ?_⟩
  obtain ⟨q, ⟨c1, c2, c3, c4, -, -⟩, f1, f2, f3, f4, f5⟩ := hf
  obtain ⟨⟨cell, q1, q2, q3, q4⟩, q5⟩ := R.2.1 a ci q hi c1
  obtain ⟨hS, hfc, kC, hkC, hkind⟩ := C.2.2.2.2.2.2.2.2.1 ci q c1
  obtain ⟨cf, kf, fi, f, hfd, hsl⟩ := hS k f1
  have hts := p_hts C.2.2.2.2.2.1
  have hlays := u_lays hts c2 f1
  have hst := (u_facts hfc hkC hlays hfd).1
  have hty : parseFieldDescriptor (q.2.1 k).2.2.1 = some ty := by rw [c3 k f1, f3]
  have hap : ∀ x y, x < q.2.2 → y < q.2.2 → x ≠ y → K.2.2.1 ci x ≠ K.2.2.1 ci y := by
    intro x y hx hy hne
    obtain ⟨_, _, _, fa, hia, ea⟩ := hS x hx
    obtain ⟨_, _, _, fb, hib, eb⟩ := hS y hy
    rw [← ea, ← eb]
    refine u_apart (u_lays hts c2 hx) (u_lays hts c2 hy) hia hib ?_
    rw [(State.fieldFound?_type hia (c3 x hx)).1, (State.fieldFound?_type hib (c3 y hy)).1]
    exact c4 x hx y hy hne
  have hov : p_ok v := p_okh os
  have kk : ∀ H1 : Heap, H1[K.1 + a]? = some (cell.setSlot f.slot (p_V K v)) → H1.size = H.size → (∀ x, x ≠ K.1 + a → H1[x]? = H[x]?) → W p l e (p_rm M mc ms) s m args below meth c H1 (locs ++ [⟨K.1 + a, f.slot⟩]) (p_N σ - n0) (p_M σ - m0) Q (F0 m (pc + 3) ls (st.map (p_V K))) := by
    intro H1 e1 z oq
    rw [hsl, hv, ← f3] at e1
    rw [← hn, ← hm]
    exact (k9.2 p e s m args below meth c H1 _ n0 m0 mc ms Q ls C (R.putO hi c1 hap f1 hn ht hL ho (by rw [f3]; exact hok hov) q2 q3 q4 e1 z oq) (p_S.put S z oq hi.1) (by rw [hn]; exact h1) (by rw [hm]; exact h2) h3 h4 hl ol (p_okt (p_okt os)) RT)
  show W p l e (p_rm M mc ms) s m args below meth c H locs _ _ Q (F0 m pc ls (p_V K v :: p_V K (p_r a) :: st.map (p_V K)))
  rw [p_V_r hi.1]
  have hfin := hts _ (c2 _ (u_in_lay f1))
  unfold u_lay at hfin
  rcases hfi with rfl | ⟨hnm, hcn⟩
  · rw [if_neg (by rw [f4]; decide)] at hfin
    have h6 := u_store hfc hkC hkind hfin hfd hty (hnr hov) hft
    exact W.putK C.1 C.2.1 (f := f) ⟨C.2.2.2.2.1, hts _ f2, ⟨_, _, _, hfd⟩, hst⟩ (by rw [q2]; exact h6) q1 q3 (by rw [hsl]; exact k2_hasslot (q4 k f1)) rfl rfl hd kk
  · by_cases hff : fin = true
    · rw [if_pos (by rw [f4]; exact hff)] at hfin
      have hcf : m.cls = cf := by
        obtain ⟨_, _, c', _, _, _, -, -, hf', -, -, -, hown2, -⟩ := Cond.laysFinal_spec hfin
        have e1 : c' = cf := by have := hfd.symm.trans hf'; simp at this; exact this.1.symm
        rw [f5] at hown2
        rw [c1] at hcn
        have e3 : q.1 = M.1.cls := Option.some.inj hcn
        rw [e3] at hown2
        rw [← e1]; exact Option.some.inj (C.2.2.2.2.1.symm.trans hown2)
      have h6 := u_fits hfc hkC hkind (Or.inr hfin) hfd hty (hnr hov) hft
      exact W.putFinK C.1 C.2.1 C.2.2.2.2.1 (hts _ f2) hfd hst hcf (C.2.2.2.2.2.2.2.1 hnm) (by rw [q2]; exact h6) q1 q3 (by rw [hsl]; exact k2_hasslot (q4 k f1)) rfl rfl hd kk
    · rw [if_neg (by rw [f4]; exact hff)] at hfin
      have h6 := u_store hfc hkC hkind hfin hfd hty (hnr hov) hft
      exact W.putK C.1 C.2.1 (f := f) ⟨C.2.2.2.2.1, hts _ f2, ⟨_, _, _, hfd⟩, hst⟩ (by rw [q2]; exact h6) q1 q3 (by rw [hsl]; exact k2_hasslot (q4 k f1)) rfl rfl hd kk

theorem g_putI {a ci k idx : Nat} {fin : Bool} {x : Int} (hf : p_Fl M.1.cls idx ci k .int fin) (hfi : fin = false ∨ (M.1.name = "<init>" ∧ sw_cl[ci]?.map (·.1) = some M.1.cls)) (hd : decode M.2.1 pc = .ok (.putfield idx, 3)) (hi : p_is σ a ci) (k9 : p_Go K l M (pc + 3) lv st (p_wZ σ a k x) o) : p_Go K l M pc lv (p_i x :: p_r a :: st) σ o :=
  p_put (σ' := p_wZ σ a k x) hf hfi hd hi rfl rfl rfl rfl p_wZ_o (fun h => by rw [p_wZ_s]; exact h) (by show p_V K (p_i x) = Value.int (Int32.ofInt (p_Z (p_wZ σ a k x) a k)); rw [p_wZ_s]; rfl) (fun _ => rfl) rfl k9
theorem g_putB {a ci k idx : Nat} {fin : Bool} {x : Int} (hf : p_Fl M.1.cls idx ci k .boolean fin) (hfi : fin = false ∨ (M.1.name = "<init>" ∧ sw_cl[ci]?.map (·.1) = some M.1.cls)) (hd : decode M.2.1 pc = .ok (.putfield idx, 3)) (hi : p_is σ a ci) (hx : x = 0 ∨ x = 1) (k9 : p_Go K l M (pc + 3) lv st (p_wZ σ a k x) o) : p_Go K l M pc lv (p_i x :: p_r a :: st) σ o :=
  p_put (σ' := p_wZ σ a k x) hf hfi hd hi rfl rfl rfl rfl p_wZ_o (fun h => by rw [p_wZ_s]; exact hx) (by show p_V K (p_i x) = Value.int (Int32.ofInt (p_Z (p_wZ σ a k x) a k)); rw [p_wZ_s]; rfl) (fun _ => by rcases hx with rfl | rfl <;> rfl) (by rcases hx with rfl | rfl <;> rfl) k9
theorem g_putJ {a ci k idx : Nat} {fin : Bool} {x : Int} (hf : p_Fl M.1.cls idx ci k .long fin) (hfi : fin = false ∨ (M.1.name = "<init>" ∧ sw_cl[ci]?.map (·.1) = some M.1.cls)) (hd : decode M.2.1 pc = .ok (.putfield idx, 3)) (hi : p_is σ a ci) (k9 : p_Go K l M (pc + 3) lv st (p_wZ σ a k x) o) : p_Go K l M pc lv (p_j x :: p_r a :: st) σ o :=
  p_put (σ' := p_wZ σ a k x) hf hfi hd hi rfl rfl rfl rfl p_wZ_o (fun h => by rw [p_wZ_s]; exact h) (by show p_V K (p_j x) = Value.long (Int64.ofInt (p_Z (p_wZ σ a k x) a k)); rw [p_wZ_s]; rfl) (fun _ => rfl) rfl k9
theorem p_rfF (r : Option Nat) (C : String) : fits (.object C) (va_rf r) = true := by cases r <;> rfl
theorem p_rfA (r : Option Nat) (t : FieldType) : fits (.array t) (va_rf r) = true := by cases r <;> rfl
theorem p_rfN (r : Option Nat) (C : String) : narrow (.object C) (va_rf r) = va_rf r := by cases r <;> rfl
theorem p_rfM (r : Option Nat) (t : FieldType) : narrow (.array t) (va_rf r) = va_rf r := by cases r <;> rfl
theorem g_putR {a ci k idx : Nat} {ty : FieldType} {fin : Bool} {x : Nat} (hf : p_Fl M.1.cls idx ci k ty fin) (ht : (∃ C, ty = .object C) ∨ ∃ t, ty = .array t) (hfi : fin = false ∨ (M.1.name = "<init>" ∧ sw_cl[ci]?.map (·.1) = some M.1.cls)) (hd : decode M.2.1 pc = .ok (.putfield idx, 3)) (hi : p_is σ a ci) (k9 : p_Go K l M (pc + 3) lv st (p_wR σ a k x) o) : p_Go K l M pc lv (p_r x :: p_r a :: st) σ o := by
  rcases ht with ⟨D, rfl⟩ | ⟨t, rfl⟩
  · exact p_put (σ' := p_wR σ a k x) hf hfi hd hi rfl rfl rfl rfl p_wR_o (fun _ => trivial) (by show p_V K (p_r x) = va_rf (p_rO K.1 (p_R (p_wR σ a k x) a k)); rw [p_wR_s]; rfl) (fun _ => p_rfN _ _) (p_rfF _ _) k9
  · exact p_put (σ' := p_wR σ a k x) hf hfi hd hi rfl rfl rfl rfl p_wR_o (fun _ => trivial) (by show p_V K (p_r x) = va_rf (p_rO K.1 (p_R (p_wR σ a k x) a k)); rw [p_wR_s]; rfl) (fun _ => p_rfM _ _) (p_rfA _ _) k9
/-! arrays -/
theorem p_ald {a i : Nat} {x : Int} {ty : FieldType} {v : p_AV} (hc : sw_at[i]? = some ty) (hi : p_is σ a (100 + i)) (h0 : 0 ≤ x) (hx : x < (p_L σ a : Int)) (hv : p_V K v = p_sl K σ a ty x.toNat) {H : Heap} (R : p_P K σ H) :
    H[K.1 + a]? = some (arrV (K.2.2.2.1 i) (p_L σ a) (fun j => p_sl K σ a ty j)) ∧ ¬ (Int32.ofInt x < 0 ∨ (arrV (K.2.2.2.1 i) (p_L σ a) (fun j => p_sl K σ a ty j)).slots.size ≤ (Int32.ofInt x).toNatClampNeg) ∧ (arrV (K.2.2.2.1 i) (p_L σ a) (fun j => p_sl K σ a ty j)).slots[(Int32.ofInt x).toNatClampNeg]? = some (p_V K v) ∧ p_okT ty (p_Z σ a x.toNat) ∧ (Int32.ofInt x).toNatClampNeg = x.toNat := by
  obtain ⟨g1, g2, g3⟩ := R.2.2 a i ty hi hc
  have hn := p_nat h0 hx (by omega)
  refine ⟨g1, ?_, ?_, g2 _ (by omega), hn⟩
  · rw [arrV_size]
    exact p_in h0 hx (by omega)
  · rw [hn, arrV_read _ _ (by omega), hv]
theorem g_iaload {a : Nat} {x : Int} (hd : decode M.2.1 pc = .ok (.iaload, 1)) (hi : p_is σ a 100) (h0 : 0 ≤ x) (hx : x < (p_L σ a : Int)) (k9 : p_Go K l M (pc + 1) lv (p_i (p_Z σ a x.toNat) :: st) σ o) : p_Go K l M pc lv (p_i x :: p_r a :: st) σ o := by
  refine ⟨k9.1, fun p e s m args below meth c H locs n0 m0 mc ms Q ls C R S h1 h2 h3 h4 hl ol os RT => ?_⟩
  obtain ⟨g1, g2, g3, g4, -⟩ := p_ald (i := 0) (ty := .int) (v := p_i (p_Z σ a x.toNat)) rfl hi h0 hx rfl R
  show W p l e (p_rm M mc ms) s m args below meth c H locs _ _ Q (F0 m pc ls (p_V K (p_i x) :: p_V K (p_r a) :: st.map (p_V K)))
  rw [p_V_r hi.1]
  exact W.iald C.1 C.2.1 g1 ((C.2.2.2.2.2.2.2.2.2.1 0 _ rfl).1 _ _) (fun q => by cases q) g2 g3 rfl rfl hd (k9.2 p e s m args below meth c H locs n0 m0 mc ms Q ls C R S h1 h2 h3 h4 hl ol (p_ok2 (v := p_i _) g4 (p_okt (p_okt os))) RT)
theorem g_laload {a : Nat} {x : Int} (hd : decode M.2.1 pc = .ok (.laload, 1)) (hi : p_is σ a 101) (h0 : 0 ≤ x) (hx : x < (p_L σ a : Int)) (k9 : p_Go K l M (pc + 1) lv (p_j (p_Z σ a x.toNat) :: st) σ o) : p_Go K l M pc lv (p_i x :: p_r a :: st) σ o := by
  refine ⟨k9.1, fun p e s m args below meth c H locs n0 m0 mc ms Q ls C R S h1 h2 h3 h4 hl ol os RT => ?_⟩
  obtain ⟨g1, g2, g3, g4, -⟩ := p_ald (i := 1) (ty := .long) (v := p_j (p_Z σ a x.toNat)) rfl hi h0 hx rfl R
  show W p l e (p_rm M mc ms) s m args below meth c H locs _ _ Q (F0 m pc ls (p_V K (p_i x) :: p_V K (p_r a) :: st.map (p_V K)))
  rw [p_V_r hi.1]
  exact W.lald C.1 C.2.1 g1 ((C.2.2.2.2.2.2.2.2.2.1 1 _ rfl).1 _ _) (fun q => by cases q) g2 g3 rfl rfl hd (k9.2 p e s m args below meth c H locs n0 m0 mc ms Q ls C R S h1 h2 h3 h4 hl ol (p_ok2 (v := p_j _) g4 (p_okt (p_okt os))) RT)
theorem g_baload {a : Nat} {x : Int} (hd : decode M.2.1 pc = .ok (.baload, 1)) (hi : p_is σ a 102) (h0 : 0 ≤ x) (hx : x < (p_L σ a : Int)) (k9 : p_Go K l M (pc + 1) lv (p_i (p_Z σ a x.toNat) :: st) σ o) : p_Go K l M pc lv (p_i x :: p_r a :: st) σ o := by
  refine ⟨k9.1, fun p e s m args below meth c H locs n0 m0 mc ms Q ls C R S h1 h2 h3 h4 hl ol os RT => ?_⟩
  obtain ⟨g1, g2, g3, g4, -⟩ := p_ald (i := 2) (ty := .boolean) (v := p_i (p_Z σ a x.toNat)) rfl hi h0 hx rfl R
  show W p l e (p_rm M mc ms) s m args below meth c H locs _ _ Q (F0 m pc ls (p_V K (p_i x) :: p_V K (p_r a) :: st.map (p_V K)))
  rw [p_V_r hi.1]
  exact W.zald C.1 C.2.1 g1 ((C.2.2.2.2.2.2.2.2.2.1 2 _ rfl).1 _ _) (fun q => by cases q) g2 g3 rfl rfl hd (k9.2 p e s m args below meth c H locs n0 m0 mc ms Q ls C R S h1 h2 h3 h4 hl ol (p_ok2 (v := p_i _) (by show p_c (p_Z σ a x.toNat); rcases (g4 : p_Z σ a x.toNat = 0 ∨ p_Z σ a x.toNat = 1) with w | w <;> rw [w] <;> decide) (p_okt (p_okt os))) RT)
theorem g_aaload {a i : Nat} {x : Int} {ty : FieldType} (hc : sw_at[i]? = some ty) (ht : (∃ C, ty = .object C) ∨ ∃ t, ty = .array t) (hd : decode M.2.1 pc = .ok (.aaload, 1)) (hi : p_is σ a (100 + i)) (h0 : 0 ≤ x) (hx : x < (p_L σ a : Int)) (k9 : p_Go K l M (pc + 1) lv (p_r (p_R σ a x.toNat) :: st) σ o) : p_Go K l M pc lv (p_i x :: p_r a :: st) σ o := by
  refine ⟨k9.1, fun p e s m args below meth c H locs n0 m0 mc ms Q ls C R S h1 h2 h3 h4 hl ol os RT => ?_⟩
  have hsl : p_V K (p_r (p_R σ a x.toNat)) = p_sl K σ a ty x.toNat := by rcases ht with ⟨D, rfl⟩ | ⟨t, rfl⟩ <;> rfl
  obtain ⟨g1, g2, g3, g4, -⟩ := p_ald (i := i) (ty := ty) (v := p_r (p_R σ a x.toNat)) hc hi h0 hx hsl R
  show W p l e (p_rm M mc ms) s m args below meth c H locs _ _ Q (F0 m pc ls (p_V K (p_i x) :: p_V K (p_r a) :: st.map (p_V K)))
  rw [p_V_r hi.1]
  exact W.aald (ty := ty) C.1 C.2.1 g1 ((C.2.2.2.2.2.2.2.2.2.1 i _ hc).1 _ _) (by rcases ht with ⟨D, rfl⟩ | ⟨t, rfl⟩ <;> rfl) (fun q => by cases q) g2 g3 rfl rfl hd (k9.2 p e s m args below meth c H locs n0 m0 mc ms Q ls C R S h1 h2 h3 h4 hl ol (p_ok2 (v := p_r _) trivial (p_okt (p_okt os))) RT)
theorem g_alen {a i : Nat} {ty : FieldType} (hc : sw_at[i]? = some ty) (hd : decode M.2.1 pc = .ok (.arraylength, 1)) (hi : p_is σ a (100 + i)) (k9 : p_Go K l M (pc + 1) lv (p_i (p_L σ a) :: st) σ o) : p_Go K l M pc lv (p_r a :: st) σ o := by
  refine ⟨k9.1, fun p e s m args below meth c H locs n0 m0 mc ms Q ls C R S h1 h2 h3 h4 hl ol os RT => ?_⟩
  obtain ⟨g1, g2, g3⟩ := R.2.2 a i ty hi hc
  show W p l e (p_rm M mc ms) s m args below meth c H locs _ _ Q (F0 m pc ls (p_V K (p_r a) :: st.map (p_V K)))
  rw [p_V_r hi.1]
  exact W.alen (n := Int32.ofInt (p_L σ a)) C.1 C.2.1 g1 ((C.2.2.2.2.2.2.2.2.2.1 i _ hc).1 _ _) (by rw [arrV_size]; rfl) rfl rfl hd (k9.2 p e s m args below meth c H locs n0 m0 mc ms Q ls C R S h1 h2 h3 h4 hl ol (p_ok2 (v := p_i _) (⟨by omega, by omega⟩ : p_c (p_L σ a : Int)) (p_okt os)) RT)
theorem g_iastore {a : Nat} {x y : Int} (hd : decode M.2.1 pc = .ok (.iastore, 1)) (hi : p_is σ a 100) (h0 : 0 ≤ x) (hx : x < (p_L σ a : Int)) (k9 : p_Go K l M (pc + 1) lv st (p_wZ σ a x.toNat y) o) : p_Go K l M pc lv (p_i y :: p_i x :: p_r a :: st) σ o := by
  refine ⟨k9.1, fun p e s m args below meth c H locs n0 m0 mc ms Q ls C R S h1 h2 h3 h4 hl ol os RT => ?_⟩
  obtain ⟨g1, g2, -, g4, g5⟩ := p_ald (i := 0) (ty := .int) (v := p_i (p_Z σ a x.toNat)) rfl hi h0 hx rfl R
  have hov : p_ok (p_i y) := p_okh os
  show W p l e (p_rm M mc ms) s m args below meth c H locs _ _ Q (F0 m pc ls (p_V K (p_i y) :: p_V K (p_i x) :: p_V K (p_r a) :: st.map (p_V K)))
  rw [p_V_r hi.1]
  refine W.iast C.1 C.2.1 g1 ((C.2.2.2.2.2.2.2.2.2.1 0 _ rfl).1 _ _) (fun q => by cases q) g2 rfl rfl hd (fun H1 e1 z oq => ?_)
  rw [g5] at e1 ⊢
  have hP1 : p_P K (p_wZ σ a x.toNat y) H1 := R.putA (i := 0) (ty := .int) hi rfl rfl rfl rfl p_wZ_o (by rw [p_wZ_s]; exact hov) (by rw [e1]; show some (Cell.setSlot _ _ _) = some (Cell.setSlot _ _ (Value.int (Int32.ofInt (p_Z (p_wZ σ a x.toNat y) a x.toNat)))); rw [p_wZ_s]) z oq
  exact k9.2 p e s m args below meth c H1 _ n0 m0 mc ms Q ls C hP1 (p_S.put S z oq hi.1) h1 h2 h3 h4 hl ol (p_okt (p_okt (p_okt os))) RT
theorem g_lastore {a : Nat} {x y : Int} (hd : decode M.2.1 pc = .ok (.lastore, 1)) (hi : p_is σ a 101) (h0 : 0 ≤ x) (hx : x < (p_L σ a : Int)) (k9 : p_Go K l M (pc + 1) lv st (p_wZ σ a x.toNat y) o) : p_Go K l M pc lv (p_j y :: p_i x :: p_r a :: st) σ o := by
  refine ⟨k9.1, fun p e s m args below meth c H locs n0 m0 mc ms Q ls C R S h1 h2 h3 h4 hl ol os RT => ?_⟩
  obtain ⟨g1, g2, -, g4, g5⟩ := p_ald (i := 1) (ty := .long) (v := p_j (p_Z σ a x.toNat)) rfl hi h0 hx rfl R
  have hov : p_ok (p_j y) := p_okh os
  show W p l e (p_rm M mc ms) s m args below meth c H locs _ _ Q (F0 m pc ls (p_V K (p_j y) :: p_V K (p_i x) :: p_V K (p_r a) :: st.map (p_V K)))
  rw [p_V_r hi.1]
  refine W.last C.1 C.2.1 g1 ((C.2.2.2.2.2.2.2.2.2.1 1 _ rfl).1 _ _) (fun q => by cases q) g2 rfl rfl hd (fun H1 e1 z oq => ?_)
  rw [g5] at e1 ⊢
  have hP1 : p_P K (p_wZ σ a x.toNat y) H1 := R.putA (i := 1) (ty := .long) hi rfl rfl rfl rfl p_wZ_o (by rw [p_wZ_s]; exact hov) (by rw [e1]; show some (Cell.setSlot _ _ _) = some (Cell.setSlot _ _ (Value.long (Int64.ofInt (p_Z (p_wZ σ a x.toNat y) a x.toNat)))); rw [p_wZ_s]) z oq
  exact k9.2 p e s m args below meth c H1 _ n0 m0 mc ms Q ls C hP1 (p_S.put S z oq hi.1) h1 h2 h3 h4 hl ol (p_okt (p_okt (p_okt os))) RT
theorem g_bastore {a : Nat} {x y : Int} (hd : decode M.2.1 pc = .ok (.bastore, 1)) (hi : p_is σ a 102) (h0 : 0 ≤ x) (hx : x < (p_L σ a : Int)) (hy : y = 0 ∨ y = 1) (k9 : p_Go K l M (pc + 1) lv st (p_wZ σ a x.toNat y) o) : p_Go K l M pc lv (p_i y :: p_i x :: p_r a :: st) σ o := by
  refine ⟨k9.1, fun p e s m args below meth c H locs n0 m0 mc ms Q ls C R S h1 h2 h3 h4 hl ol os RT => ?_⟩
  obtain ⟨g1, g2, -, g4, g5⟩ := p_ald (i := 2) (ty := .boolean) (v := p_i (p_Z σ a x.toNat)) rfl hi h0 hx rfl R
  have hov : p_ok (p_i y) := p_okh os
  show W p l e (p_rm M mc ms) s m args below meth c H locs _ _ Q (F0 m pc ls (p_V K (p_i y) :: p_V K (p_i x) :: p_V K (p_r a) :: st.map (p_V K)))
  rw [p_V_r hi.1]
  refine W.zast C.1 C.2.1 g1 ((C.2.2.2.2.2.2.2.2.2.1 2 _ rfl).1 _ _) (fun q => by cases q) g2 rfl rfl hd (fun H1 e1 z oq => ?_)
  rw [g5] at e1 ⊢
  have hP1 : p_P K (p_wZ σ a x.toNat y) H1 := R.putA (i := 2) (ty := .boolean) hi rfl rfl rfl rfl p_wZ_o (by rw [p_wZ_s]; exact hy) (by rw [e1]; show some (Cell.setSlot _ _ _) = some (Cell.setSlot _ _ (Value.int (Int32.ofInt (p_Z (p_wZ σ a x.toNat y) a x.toNat)))); rw [p_wZ_s]; rcases hy with rfl | rfl <;> rfl) z oq
  exact k9.2 p e s m args below meth c H1 _ n0 m0 mc ms Q ls C hP1 (p_S.put S z oq hi.1) h1 h2 h3 h4 hl ol (p_okt (p_okt (p_okt os))) RT
theorem g_aastore {a i ci b : Nat} {q : vw_C} {x : Int} (hcl : sw_cl[ci]? = some q) (hc : sw_at[i]? = some (.object q.1)) (hd : decode M.2.1 pc = .ok (.aastore, 1)) (hi : p_is σ a (100 + i)) (hb : p_is σ b ci) (h0 : 0 ≤ x) (hx : x < (p_L σ a : Int)) (k9 : p_Go K l M (pc + 1) lv st (p_wR σ a x.toNat b) o) : p_Go K l M pc lv (p_r b :: p_i x :: p_r a :: st) σ o := by
  refine ⟨k9.1, fun p e s m args below meth c H locs n0 m0 mc ms Q ls C R S h1 h2 h3 h4 hl ol os RT => ?_⟩
  obtain ⟨g1, g2, -, g4, g5⟩ := p_ald (i := i) (ty := .object q.1) (v := p_r (p_R σ a x.toNat)) hc hi h0 hx rfl R
  obtain ⟨⟨cellV, v1, v2, v3, -⟩, -⟩ := R.2.1 b ci q hb hcl
  have hcls := (C.2.2.2.2.2.2.2.2.1 ci q hcl).2
  obtain ⟨kA, comp, k1, k2, k3, -⟩ := (C.2.2.2.2.2.2.2.2.2.1 i _ hc).2
  have hcomp : comp = K.2.1 ci := Option.some.inj (k3.symm.trans hcls.1)
  subst hcomp
  obtain ⟨kC, hkC, -⟩ := id hcls.2
  show W p l e (p_rm M mc ms) s m args below meth c H locs _ _ Q (F0 m pc ls (p_V K (p_r b) :: p_V K (p_i x) :: p_V K (p_r a) :: st.map (p_V K)))
  rw [p_V_r hi.1, p_V_r hb.1]
  refine W.aast C.1 C.2.1 g1 (fun q h => by cases h) (fun h => by cases h) k1 k2 rfl hkC ⟨fun h => g2 (Or.inl h), Nat.not_le.mp fun h => g2 (Or.inr h)⟩ v1 (fun q h => by rw [v3] at h; cases h) (by rw [v2]; exact hkC) (by rw [v2]; exact va_assign hcls) rfl rfl hd (fun H1 e1 z oq => ?_)
  rw [g5] at e1 ⊢
  have hP1 : p_P K (p_wR σ a x.toNat b) H1 := R.putA (i := i) (ty := .object q.1) hi hc rfl rfl rfl p_wR_o trivial (by rw [e1, ← p_V_r hb.1]; show some (Cell.setSlot _ _ _) = some (Cell.setSlot _ _ (va_rf (p_rO K.1 (p_R (p_wR σ a x.toNat b) a x.toNat)))); rw [p_wR_s]; rfl) z oq
  exact k9.2 p e s m args below meth c H1 _ n0 m0 mc ms Q ls C hP1 (p_S.put S z oq hi.1) h1 h2 h3 h4 hl ol (p_okt (p_okt (p_okt os))) RT
theorem g_getstatic {j idx : Nat} {q : String × String} (hq : sw_st[j]? = some q) (hw : (M.1.cls, idx, q.1, q.2, "[I", q.1) ∈ sw_nf) (hd : decode M.2.1 pc = .ok (.getstatic idx, 3)) (k9 : p_Go K l M (pc + 3) lv (p_s j :: st) σ o) : p_Go K l M pc lv st σ o := by
  refine ⟨k9.1, fun p e s m args below meth c H locs n0 m0 mc ms Q ls C R S h1 h2 h3 h4 hl ol os RT => ?_⟩
  have E := C.2.2.2.2.2.2.2.2
  exact va_getsN C.1 C.2.1 (E.2.2.2.2.2.2.1 j q hq) S C.2.2.2.2.1 (va_Nw.use rfl (E.2.2.1 _ hw)) (fun _ h => h) hd (k9.2 p e s m args below meth c H locs n0 m0 mc ms Q ls C R S h1 h2 h3 h4 hl ol (p_ok2 (v := p_s _) trivial os) RT)
theorem p_tab_c : ∀ j i : Nat, p_c (sw_tab j i) := by
  intro j i
  unfold sw_tab
  have h : ∀ l ∈ sw_tbs, ∀ x ∈ l, p_c x := by decide
  have h1 : ∀ x ∈ sw_tbs.getD j [], p_c x := by
    rw [List.getD_eq_getElem?_getD]
    cases hj : sw_tbs[j]? with
    | none => intro x hx; cases hx
    | some l => exact h l (List.mem_of_getElem? hj)
  rw [List.getD_eq_getElem?_getD]
  cases hi : (sw_tbs.getD j [])[i]? with
  | none => exact (by decide : p_c 0)
  | some x => exact h1 x (List.mem_of_getElem? hi)
theorem g_tabload {j : Nat} {x : Int} (hj : j < sw_st.length ∨ j = 9) (hd : decode M.2.1 pc = .ok (.iaload, 1)) (h0 : 0 ≤ x) (hx : x < (p_tl K j : Int)) (k9 : p_Go K l M (pc + 1) lv (p_i (p_tv K j x.toNat) :: st) σ o) : p_Go K l M pc lv (p_i x :: p_s j :: st) σ o := by
  refine ⟨k9.1, fun p e s m args below meth c H locs n0 m0 mc ms Q ls C R S h1 h2 h3 h4 hl ol os RT => ?_⟩
  have E := C.2.2.2.2.2.2.2.2
  have hsz := E.2.2.2.2.2.2.2.2.1 j
  have hxc := E.2.2.2.2.2.2.2.2.2.1
  obtain ⟨cell, t1, t2, t3, t4, t5, t6, t7⟩ := E.2.2.2.2.2.2.2.1 j hj
  have t1 : H[K.2.2.2.2.1 j]? = some cell := by rw [S.2.1 _ (Array.getElem?_eq_some_iff.mp t1).1 t7]; exact t1
  have hn := p_nat h0 hx (by omega)
  refine W.iald (v := p_V K (p_i (p_tv K j x.toNat))) C.1 C.2.1 t1 t2 t3 ?_ ?_ rfl rfl hd (k9.2 p e s m args below meth c H locs n0 m0 mc ms Q ls C R S h1 h2 h3 h4 hl ol (p_ok2 (v := p_i _) ?_ (p_okt (p_okt os))) RT)
  · have := p_in h0 hx (by omega)
    intro w
    exact this (w.imp id (fun w => Nat.le_trans t4 w))
  · rw [hn]
    exact t6 _ (by omega)
  · show p_c (p_tv K j x.toNat)
    unfold p_tv
    split
    · exact hxc _
    · exact p_tab_c _ _
theorem g_tabS {j : Nat} {x : Int} (hj : j < sw_st.length) (hd : decode M.2.1 pc = .ok (.iaload, 1)) (h0 : 0 ≤ x) (hx : x < (sw_tl j : Int)) (k9 : p_Go K l M (pc + 1) lv (p_i (sw_tab j x.toNat) :: st) σ o) : p_Go K l M pc lv (p_i x :: p_s j :: st) σ o := by
  have h9 : j ≠ 9 := by have h : j < 4 := hj; omega
  refine g_tabload (Or.inl hj) hd h0 (by unfold p_tl; rw [if_neg h9]; exact hx) ?_
  unfold p_tv
  rw [if_neg h9]
  exact k9
theorem g_tablen {j : Nat} (hj : j < sw_st.length ∨ j = 9) (hd : decode M.2.1 pc = .ok (.arraylength, 1)) (k9 : p_Go K l M (pc + 1) lv (p_i (p_tl K j) :: st) σ o) : p_Go K l M pc lv (p_s j :: st) σ o := by
  refine ⟨k9.1, fun p e s m args below meth c H locs n0 m0 mc ms Q ls C R S h1 h2 h3 h4 hl ol os RT => ?_⟩
  have E := C.2.2.2.2.2.2.2.2
  have hsz := E.2.2.2.2.2.2.2.2.1 j
  obtain ⟨cell, t1, t2, t3, t4, t5, t6, t7⟩ := E.2.2.2.2.2.2.2.1 j hj
  have t1 : H[K.2.2.2.2.1 j]? = some cell := by rw [S.2.1 _ (Array.getElem?_eq_some_iff.mp t1).1 t7]; exact t1
  exact W.alen (n := Int32.ofInt (p_tl K j)) C.1 C.2.1 t1 t2 t5 rfl rfl hd (k9.2 p e s m args below meth c H locs n0 m0 mc ms Q ls C R S h1 h2 h3 h4 hl ol (p_ok2 (v := p_i _) (⟨by omega, by omega⟩ : p_c (p_tl K j : Int)) (p_okt os)) RT)
end HR
end
section
/-! ===== new cells ===== -/
theorem p_nwZ {σ : p_Hp} {t n b : Nat} (h : b ≠ p_N σ + 1) (j : Nat) : p_Z (p_nw σ t n) b j = p_Z σ b j ∧ p_R (p_nw σ t n) b j = p_R σ b j := ⟨if_neg h, if_neg h⟩
theorem p_nwT {σ : p_Hp} {t n b : Nat} (h : b ≠ p_N σ + 1) : p_T (p_nw σ t n) b = p_T σ b ∧ p_L (p_nw σ t n) b = p_L σ b := ⟨if_neg h, if_neg h⟩
theorem p_nw0 (σ : p_Hp) (t n j : Nat) : p_Z (p_nw σ t n) (p_N σ + 1) j = 0 ∧ p_R (p_nw σ t n) (p_N σ + 1) j = 0 := ⟨if_pos rfl, if_pos rfl⟩
theorem p_nwS (σ : p_Hp) (t n : Nat) : p_T (p_nw σ t n) (p_N σ + 1) = t ∧ p_L (p_nw σ t n) (p_N σ + 1) = n := ⟨if_pos rfl, if_pos rfl⟩
theorem p_slD {K : p_K} {σ : p_Hp} {a k : Nat} (hz : p_Z σ a k = 0) (hr : p_R σ a k = 0) {ty : FieldType} (h : p_nf ty = true) : p_sl K σ a ty k = defaultValue ty := by
  cases ty <;> simp only [p_sl, hz, hr] <;> first | rfl | (exact absurd h (by decide))
theorem p_okD {ty : FieldType} {x : Int} (hx : x = 0) : p_okT ty x := by
  subst hx
  cases ty <;> first | trivial | exact Or.inl rfl | exact (by decide : p_c 0) | exact (by decide : p_c6 0)
theorem p_P.new {K : p_K} {σ : p_Hp} {H H1 : Heap} {t n : Nat} (hP : p_P K σ H) (z : H1.size = H.size + 1) (oq : ∀ x : Nat, x < H.size → H1[x]? = H[x]?)
    (hO : ∀ q : vw_C, sw_cl[t]? = some q → t_OB (K.1 + (p_N σ + 1)) (K.2.1 t) q.2.2 (K.2.2.1 t) H1 (fun k => p_sl K (p_nw σ t n) (p_N σ + 1) (sw_ty t k) k))
    (hA : ∀ (i : Nat) (ty : FieldType), t = 100 + i → sw_at[i]? = some ty → H1[K.1 + (p_N σ + 1)]? = some (arrV (K.2.2.2.1 i) n (fun j => p_sl K (p_nw σ t n) (p_N σ + 1) ty j)) ∧ n ≤ 1000000) : p_P K (p_nw σ t n) H1 := by
  have hsz := hP.1
  have up : ∀ b t', p_is (p_nw σ t n) b t' → b ≠ p_N σ + 1 → p_is σ b t' := fun b t' h hb => by
    have h2 : b ≤ p_N σ + 1 := h.2.1
    have h3 := h.2.2
    rw [(p_nwT hb).1] at h3
    exact ⟨h.1, by omega, h3⟩
  refine ⟨by show H1.size = K.1 + (p_N σ + 1) + 1; omega, fun b cj r hb hr => ?_, fun b i ty hb hty => ?_⟩
  · by_cases hbn : b = p_N σ + 1
    · subst hbn
      have e : t = cj := (p_nwS σ t n).1.symm.trans hb.2.2
      subst e
      exact ⟨hO r hr, fun k _ => p_okD (p_nw0 σ t n k).1⟩
    · have hb := up b cj hb hbn
      obtain ⟨g1, g2⟩ := hP.2.1 b cj r hb hr
      refine ⟨(g1.kept (oq _ (by have := hb.2.1; omega))).to (fun j hj => (p_sl_eq (p_nwZ hbn j).1 (p_nwZ hbn j).2 _).symm), fun j hj => ?_⟩
      rw [(p_nwZ hbn j).1]
      exact g2 j hj
  · by_cases hbn : b = p_N σ + 1
    · subst hbn
      have e : t = 100 + i := (p_nwS σ t n).1.symm.trans hb.2.2
      obtain ⟨a1, a2⟩ := hA i ty e hty
      rw [(p_nwS σ t n).2]
      exact ⟨a1, fun j _ => p_okD (p_nw0 σ t n j).1, a2⟩
    · have hb := up b _ hb hbn
      obtain ⟨g1, g2, g3⟩ := hP.2.2 b i ty hb hty
      rw [(p_nwT hbn).2]
      refine ⟨?_, fun j hj => ?_, g3⟩
      · rw [oq _ (by have := hb.2.1; omega), g1]
        congr 2
        funext j
        exact (p_sl_eq (p_nwZ hbn j).1 (p_nwZ hbn j).2 _).symm
      · rw [(p_nwZ hbn j).1]
        exact g2 j hj
theorem p_S.new {K : p_K} {H0 H H1 : Heap} {locs : List Loc} (h : va_S (p_A K) H0 H locs) (z : H.size ≤ H1.size) (oq : ∀ q : Nat, q < H.size → H1[q]? = H[q]?) : va_S (p_A K) H0 H1 locs :=
  ⟨Nat.le_trans h.1 z, fun x g1 g2 => (oq x (Nat.lt_of_lt_of_le g1 h.1)).trans (h.2.1 x g1 g2), h.2.2⟩
section NR
variable {K : p_K} {l : Launch} {M : p_Me} {pc : Nat} {lv : List (Nat × p_AV)} {st : List p_AV} {σ : p_Hp} {o : Option p_AV × p_Hp}
theorem g_new {ci idx : Nat} {q : vw_C} (hcl : p_Cl ci q) (hw : Cond.classLink M.1.cls idx q.1 ∈ sw_gw) (hd : decode M.2.1 pc = .ok (.new idx, 3)) (k9 : p_Go K l M (pc + 3) lv (p_r (p_N σ + 1) :: st) (p_nw σ ci q.2.2) o) : p_Go K l M pc lv st σ o := by
  have e1 : p_N (p_nw σ ci q.2.2) = p_N σ + 1 := rfl
  have e2 : p_M (p_nw σ ci q.2.2) = p_M σ + q.2.2 := rfl
  have kn : p_N σ + 1 ≤ p_N o.2 ∧ p_M σ + q.2.2 ≤ p_M o.2 := ⟨k9.1.1, k9.1.2.1⟩
  refine ⟨(p_x_nw _ _ _).trans k9.1, fun p e s m args below meth c H locs n0 m0 mc ms Q ls C R S h1 h2 h3 h4 hl ol os RT => ?_⟩
  obtain ⟨c1, c2, c3, c4, c5, c6, c7⟩ := hcl
  have hts := p_hts C.2.2.2.2.2.1
  have hKn := C.2.2.2.2.2.2.2.2.1 ci q c1
  refine W.newcK C.1 C.2.1 C.2.2.2.2.1 (hts _ hw) (hts _ c5) (hts _ c6) rfl hd (by show p_N σ - n0 + 1 ≤ mc; omega) (by show p_M σ - m0 + q.2.2 ≤ ms; omega) hKn.2.1 R.1 fun H1 kC hkC b1 z1 o1 => ?_
  have oq : ∀ x : Nat, x < H.size → H1[x]? = H[x]? := fun x hx => o1 x (by rw [← R.1]; exact hx)
  have hP1 : p_P K (p_nw σ ci q.2.2) H1 := by
    refine R.new (by rw [z1, R.1]) oq (fun q' hq' => ?_) (fun i ty hi _ => ?_)
    · cases c1.symm.trans hq'
      exact (u_born (sw_ty ci) hts c2 hKn hkC b1 c3).to (fun j hj => (p_slD (p_nw0 σ ci q.2.2 j).1 (p_nw0 σ ci q.2.2 j).2 (c7 j hj)).symm)
    · have := p_cl_lt c1
      omega
  have kk := k9.2 p e s m args below meth c H1 locs n0 m0 mc ms Q ls C hP1 (p_S.new S (by rw [z1, R.1]; omega) oq) (by rw [e1]; omega) (by rw [e2]; omega) h3 h4 hl ol (p_ok2 (v := p_r _) trivial os) RT
  rw [List.map_cons, p_V_r (by omega), e1, e2] at kk
  exact W.cs (by omega) (by omega) kk
theorem g_newarray {i t n : Nat} {x : Int} {at' : ArrayType} {ty : FieldType} (ht9 : t = 100 + i) (hn9 : n = x.toNat) (hc : sw_at[i]? = some ty) (hty : newarray.typeOf at' = ty) (hw : Cond.arrayClass ty ∈ sw_gw) (hd : decode M.2.1 pc = .ok (.newarray at', 2)) (h0 : 0 ≤ x) (hx : x ≤ 1000000) (k9 : p_Go K l M (pc + 2) lv (p_r (p_N σ + 1) :: st) (p_nw σ t n) o) : p_Go K l M pc lv (p_i x :: st) σ o := by
  subst ht9
  subst hn9
  have e1 : p_N (p_nw σ (100 + i) x.toNat) = p_N σ + 1 := rfl
  have e2 : p_M (p_nw σ (100 + i) x.toNat) = p_M σ + x.toNat := rfl
  have kn : p_N σ + 1 ≤ p_N o.2 ∧ p_M σ + x.toNat ≤ p_M o.2 := ⟨k9.1.1, k9.1.2.1⟩
  refine ⟨(p_x_nw _ _ _).trans k9.1, fun p e s m args below meth c H locs n0 m0 mc ms Q ls C R S h1 h2 h3 h4 hl ol os RT => ?_⟩
  have hts := p_hts C.2.2.2.2.2.1
  have hnat := p_nat (n := 1000001) h0 (by omega) (by omega)
  have hneg : ¬ Int32.ofInt x < 0 := by rw [p_lt0 (p_okh os)]; omega
  have hcb : ∀ ty : FieldType, componentBytes ty ≤ 8 := fun ty => by cases ty <;> first | decide | exact (by decide : 4 ≤ 8)
  have hbytes : x.toNat * componentBytes (newarray.typeOf at') ≤ 536870912 := Nat.le_trans (Nat.mul_le_mul_left _ (hcb _)) (by omega)
  refine va_newaK C.1 C.2.1 (by rw [hty]; exact hts _ hw) rfl hd rfl hneg hnat hbytes (by show p_N σ - n0 + 1 ≤ mc; omega) (by show p_M σ - m0 + x.toNat ≤ ms; omega) R.1 fun H1 cA b1 z1 o1 hAr hNm => ?_
  have hca : cA = K.2.2.2.1 i := by
    have h := (C.2.2.2.2.2.2.2.2.2.1 i ty hc).2
    subst hty
    have h : s.vm.findClass ("[" ++ (newarray.typeOf at').toString) = some (K.2.2.2.1 i) := by cases at' <;> exact h
    exact Option.some.inj (hNm.symm.trans h)
  subst hca
  have hnf : p_nf ty = true ∨ ty = .float ∨ ty = .double := by cases ty <;> simp [p_nf]
  have hnf : p_nf ty = true := by
    rcases hnf with h | h | h
    · exact h
    · subst h; exact absurd (List.mem_of_getElem? hc) (by decide)
    · subst h; exact absurd (List.mem_of_getElem? hc) (by decide)
  have oq : ∀ x : Nat, x < H.size → H1[x]? = H[x]? := fun x hx => o1 x (by rw [← R.1]; exact hx)
  have hP1 : p_P K (p_nw σ (100 + i) x.toNat) H1 := by
    refine R.new (by rw [z1, R.1]) oq (fun q' hq' => ?_) (fun i' ty' hi hty' => ?_)
    · have := p_cl_lt hq'
      omega
    · have e : i' = i := by omega
      subst e
      cases hc.symm.trans hty'
      refine ⟨?_, by omega⟩
      rw [show K.1 + (p_N σ + 1) = K.1 + p_N σ + 1 from by omega, b1, hty]
      congr 2
      funext j
      exact (p_slD (p_nw0 σ (100 + i') x.toNat j).1 (p_nw0 σ (100 + i') x.toNat j).2 hnf).symm
  have kk := k9.2 p e s m args below meth c H1 locs n0 m0 mc ms Q ls C hP1 (p_S.new S (by rw [z1, R.1]; omega) oq) (by rw [e1]; omega) (by rw [e2]; omega) h3 h4 hl ol (p_ok2 (v := p_r _) trivial (p_okt os)) RT
  rw [List.map_cons, p_V_r (by omega), e1, e2] at kk
  exact W.cs (by omega) (by omega) kk
theorem g_anewarray {i idx t n : Nat} {x : Int} {D : String} (ht9 : t = 100 + i) (hn9 : n = x.toNat) (hc : sw_at[i]? = some (.object D)) (hao : D ∈ sw_ao) (hw : Cond.classLink M.1.cls idx D ∈ sw_gw) (hd : decode M.2.1 pc = .ok (.anewarray idx, 3)) (h0 : 0 ≤ x) (hx : x ≤ 1000000) (k9 : p_Go K l M (pc + 3) lv (p_r (p_N σ + 1) :: st) (p_nw σ t n) o) : p_Go K l M pc lv (p_i x :: st) σ o := by
  subst ht9
  subst hn9
  have e1 : p_N (p_nw σ (100 + i) x.toNat) = p_N σ + 1 := rfl
  have e2 : p_M (p_nw σ (100 + i) x.toNat) = p_M σ + x.toNat := rfl
  have kn : p_N σ + 1 ≤ p_N o.2 ∧ p_M σ + x.toNat ≤ p_M o.2 := ⟨k9.1.1, k9.1.2.1⟩
  refine ⟨(p_x_nw _ _ _).trans k9.1, fun p e s m args below meth c H locs n0 m0 mc ms Q ls C R S h1 h2 h3 h4 hl ol os RT => ?_⟩
  have hts := p_hts C.2.2.2.2.2.1
  have E := C.2.2.2.2.2.2.2.2
  have hnat := p_nat (n := 1000001) h0 (by omega) (by omega)
  have hneg : ¬ Int32.ofInt x < 0 := by rw [p_lt0 (p_okh os)]; omega
  refine W.anew C.1 C.2.1 C.2.2.2.2.1 (hts _ hw) (va_AO.use (E.2.2.2.2.1 D hao)) rfl hd rfl hneg (by rw [hnat]; omega) (by show p_N σ - n0 + 1 ≤ mc; omega) (by rw [hnat]; show p_M σ - m0 + x.toNat ≤ ms; omega) fun cA kA comp a1 a2 a3 a4 => ?_
  obtain ⟨kA', comp', r1, r2, r3, r4⟩ := (E.2.1 i _ hc).2
  have hca : cA = K.2.2.2.1 i := Option.some.inj (a1.symm.trans r4)
  subst hca
  rw [hnat, arrV_new]
  generalize hH1 : H.push (arrV (K.2.2.2.1 i) x.toNat (fun _ => Value.null)) = H1
  have z1 : H1.size = H.size + 1 := by rw [← hH1]; simp
  have oq : ∀ y : Nat, y < H.size → H1[y]? = H[y]? := fun y hy => by rw [← hH1, Array.getElem?_push, if_neg (Nat.ne_of_lt hy)]
  have hP1 : p_P K (p_nw σ (100 + i) x.toNat) H1 := by
    refine R.new z1 oq (fun q' hq' => ?_) (fun i' ty' hi hty' => ?_)
    · have := p_cl_lt hq'
      omega
    · have e : i' = i := by omega
      subst e
      cases hc.symm.trans hty'
      refine ⟨?_, by omega⟩
      rw [show K.1 + (p_N σ + 1) = H.size from by rw [R.1]; omega, ← hH1]
      rw [Array.getElem?_push, if_pos rfl]
      congr 2
      funext j
      exact (p_slD (ty := .object D) (p_nw0 σ (100 + i') x.toNat j).1 (p_nw0 σ (100 + i') x.toNat j).2 rfl).symm
  have kk := k9.2 p e s m args below meth c H1 locs n0 m0 mc ms Q ls C hP1 (p_S.new S (by omega) oq) (by rw [e1]; omega) (by rw [e2]; omega) h3 h4 hl ol (p_ok2 (v := p_r _) trivial (p_okt os)) RT
  rw [List.map_cons, p_V_r (by omega), e1, e2] at kk
  have hz := R.1
  refine W.eq (g2 := F0 m (pc + 3) ls (Value.ref (K.1 + (p_N σ + 1)) :: st.map (p_V K))) ?_ (W.cs (by omega) (by omega) kk)
  rw [show K.1 + (p_N σ + 1) = H.size from by omega]
end NR
end
section
/-! ===== int[n][k] ===== -/
def p_nw2 (σ : p_Hp) (n k : Nat) : p_Hp := (σ.1 + 1 + n, σ.2.1 + n + n * k, fun b => if b ≤ σ.1 then σ.2.2.1 b else if b = σ.1 + 1 then 103 else 100, fun b => if b ≤ σ.1 then σ.2.2.2.1 b else if b = σ.1 + 1 then n else k, fun b j => if b ≤ σ.1 then σ.2.2.2.2.1 b j else 0, fun b j => if b ≤ σ.1 then σ.2.2.2.2.2 b j else if b = σ.1 + 1 ∧ j < n then σ.1 + 2 + j else 0)
/-! ===== System.arraycopy of ints ===== -/
def p_cp (σ : p_Hp) (s sp d dp n : Nat) : p_Hp := (σ.1, σ.2.1, σ.2.2.1, σ.2.2.2.1, fun b j => if b = d ∧ dp ≤ j ∧ j < dp + n then σ.2.2.2.2.1 s (sp + (j - dp)) else σ.2.2.2.2.1 b j, σ.2.2.2.2.2)
theorem p_P.cpy {K : p_K} {σ : p_Hp} {H H1 : Heap} {a b sp dp n : Nat} (hP : p_P K σ H) (ha : p_is σ a 100) (hb : p_is σ b 100) (h4 : sp + n ≤ p_L σ a) (h5 : dp + n ≤ p_L σ b)
    (e1 : H1[K.1 + b]? = some (arrV (K.2.2.2.1 0) (p_L σ b) (fun j => .int (va_cpy (fun j => Int32.ofInt (p_Z σ a j)) (fun j => Int32.ofInt (p_Z σ b j)) sp dp n j)))) (z : H1.size = H.size) (oq : ∀ x : Nat, x ≠ K.1 + b → H1[x]? = H[x]?) : p_P K (p_cp σ a sp b dp n) H1 := by
  have ho : ∀ c j, c ≠ b → p_Z (p_cp σ a sp b dp n) c j = p_Z σ c j ∧ p_R (p_cp σ a sp b dp n) c j = p_R σ c j := fun c j h => ⟨if_neg (fun w => h w.1), rfl⟩
  refine ⟨by rw [z]; exact hP.1, fun c cj r hc hr => ?_, fun c i ty hc hty => ?_⟩
  · have hcb : c ≠ b := fun w => by
      subst w
      have e : cj = 100 := hc.2.2.symm.trans hb.2.2
      have := p_cl_lt hr
      omega
    obtain ⟨g1, g2⟩ := hP.2.1 c cj r hc hr
    refine ⟨(g1.kept (oq _ (by omega))).to (fun j hj => (p_sl_eq (ho c j hcb).1 (ho c j hcb).2 _).symm), fun j hj => ?_⟩
    rw [(ho c j hcb).1]
    exact g2 j hj
  · obtain ⟨g1, g2, g3⟩ := hP.2.2 c i ty hc hty
    by_cases hcb : c = b
    · subst hcb
      have e : i = 0 := by
        have h : 100 + i = 100 := hc.2.2.symm.trans hb.2.2
        omega
      subst e
      cases hty
      obtain ⟨-, a2, -⟩ := hP.2.2 a 0 .int ha rfl
      refine ⟨?_, fun j hj => ?_, g3⟩
      · rw [e1]
        show some (arrV _ (p_L σ c) _) = some (arrV _ (p_L σ c) _)
        congr 2
        funext j
        show Value.int _ = Value.int (Int32.ofInt (if c = c ∧ dp ≤ j ∧ j < dp + n then p_Z σ a (sp + (j - dp)) else p_Z σ c j))
        unfold va_cpy
        by_cases hj : dp ≤ j ∧ j < dp + n
        · rw [if_pos hj, if_pos ⟨rfl, hj⟩]
        · rw [if_neg hj, if_neg (fun w => hj w.2)]
      · show p_c (if c = c ∧ dp ≤ j ∧ j < dp + n then p_Z σ a (sp + (j - dp)) else p_Z σ c j)
        split
        · rename_i w
          exact a2 _ (by omega)
        · exact g2 j hj
    · refine ⟨?_, fun j hj => ?_, g3⟩
      · rw [oq _ (by omega), g1]
        show some (arrV _ (p_L σ c) _) = some (arrV _ (p_L σ c) _)
        congr 2
        funext j
        exact (p_sl_eq (ho c j hcb).1 (ho c j hcb).2 _).symm
      · rw [(ho c j hcb).1]
        exact g2 j hj
section WC
variable {p : Program} {l : Launch} {e : Env} {R : Room} {s : State} {m : MethodId} {args : Array Value} {below : List Frame} {meth : Method} {c : Code} {H : Heap} {locs : List Loc} {cells slots : Nat} {Q : State → Prop}
variable {pc : Nat} {ls : Array Slot} {rest : List Value}
/-- arraycopy over ints, and that all other cells stay -/
theorem p_Wcpy {cc : ByteArray} (hexec : p.tables.exec = Jvm.exec) (hb : c.code = cc) (hml : c.maxLocals = ls.size) {own : String} {index : Nat} (hown : s.vm.findClass own = some m.cls) (hlink : (Cond.methodLink own index arraycopyName).before args s = true) (hnat : (Cond.native arraycopyName).before args s = true) (hstat : (Cond.static arraycopyName).before args s = true) (hini : (Cond.initialized "java/lang/System").before args s = true)
    {a0 a : Nat} {c0 : ClassId} {n0 n1 : Nat} {f g : Nat → Int32} (hAr : ArrOfT s c0 .int) (hc0 : H[a0]? = some (vp_cell c0 (n0, .inl f))) (hc1 : H[a]? = some (vp_cell c0 (n1, .inl g)))
    {sp dp n : Int32} (h1 : ¬ sp < 0) (h2 : ¬ dp < 0) (h3 : ¬ n < 0) (h4 : sp.toNatClampNeg + n.toNatClampNeg ≤ n0) (h5 : dp.toNatClampNeg + n.toNatClampNeg ≤ n1)
    (hframes : 1 ≤ R.frames) (hlocals : (rest.map fun v => v.category).sum + (nativeFrameWords "java/lang/System" "arraycopy" 5 + 11) ≤ R.locals) (hdg : decode cc pc = .ok (.invokestatic index, 3))
    (kk : ∀ (H1 : Heap) (locs1 : List Loc), H1[a]? = some (vp_cell c0 (n1, .inl (va_cpy f g sp.toNatClampNeg dp.toNatClampNeg n.toNatClampNeg))) → H1.size = H.size → (∀ q : Nat, q ≠ a → H1[q]? = H[q]?) → (∀ q ∈ locs1, q ∈ locs ∨ q.base = a) → W p l e R s m args below meth c H1 locs1 cells slots Q (F0 m (pc + 3) ls rest)) : W p l e R s m args below meth c H locs cells slots Q (F0 m pc ls (.int n :: .int dp :: .ref a :: .int sp :: .ref a0 :: rest)) := by
  have nn : ∀ z : Int32, ¬ z < 0 → z.toInt = (z.toNatClampNeg : Int) := by
    intro z hz
    have hz0 : (0 : Int) ≤ z.toInt := by
      have := Int32.not_lt.mp hz
      simpa using Int32.le_iff_toInt_le.mp this
    show z.toInt = ((z.toInt.toNat : Nat) : Int)
    omega
  intro T hT X
  obtain ⟨-, k0, hk0, cm0, hkk0⟩ := hAr n0 (fun j => .int (f j))
  obtain ⟨-, k1, hk1, cm1, hkk1⟩ := hAr n1 (fun j => .int (g j))
  obtain ⟨vm', X', step⟩ := X.arraycopy hexec hown hlink hnat hstat hini (src := a0) (dst := a) (cs := vp_cell c0 (n0, .inl f)) (cd := vp_cell c0 (n1, .inl g)) (srcPos := sp) (destPos := dp) (n := n) (by rw [hT]; exact hc0) (by rw [hT]; exact hc1)
    (fun _ h => by cases h) (fun _ h => by cases h) (fun h => by cases h) (fun h => by cases h) hk0 hk1 hkk0 hkk1 (by simp [refKind]) h1 h2 h3
    (by rw [nn sp h1, nn n h3]; show ¬ _ > ((arrV c0 n0 (fun j => .int (f j))).slots.size : Int); rw [arrV_size]; omega)
    (by rw [nn dp h2, nn n h3]; show ¬ _ > ((arrV c0 n1 (fun j => .int (g j))).slots.size : Int); rw [arrV_size]; omega)
    (fun vm₁ _ i hi => by
      have e : (vp_cell c0 (n0, .inl f)).slots.getD (sp.toNatClampNeg + i) .null = .int (f (sp.toNatClampNeg + i)) := by
        show (arrV c0 n0 (fun j => .int (f j))).slots.getD _ _ = _
        rw [Array.getD_eq_getD_getElem?, arrV_read _ _ (by omega)]
        rfl
      refine ⟨?_, ?_⟩
      · rw [e]
        rfl
      · rw [e]
        exact trivial)
    (g := F0 m pc ls (.int n :: .int dp :: .ref a :: .int sp :: .ref a0 :: rest)) rfl (by rw [hml]) (rest := rest) rfl (by rw [hb]; exact hdg) hframes (by show 2 * 0 + _ + _ ≤ _; omega)
  have e1 : copied (vp_cell c0 (n0, .inl f)) (vp_cell c0 (n1, .inl g)) sp dp n = vp_cell c0 (n1, .inl (va_cpy f g sp.toNatClampNeg dp.toNatClampNeg n.toNatClampNeg)) := va_copied (fun z => .int z) c0 c0 f g h4
  rw [e1] at X' step
  have hl : a < H.size := (Array.getElem?_eq_some_iff.mp hc1).1
  have hheap : ((T.setVm vm').setCell a (vp_cell c0 (n1, .inl (va_cpy f g sp.toNatClampNeg dp.toNatClampNeg n.toNatClampNeg)))).heap = H.setIfInBounds a (vp_cell c0 (n1, .inl (va_cpy f g sp.toNatClampNeg dp.toNatClampNeg n.toNatClampNeg))) := by rw [← hT]; rfl
  have oq : ∀ q : Nat, q ≠ a → (H.setIfInBounds a (vp_cell c0 (n1, .inl (va_cpy f g sp.toNatClampNeg dp.toNatClampNeg n.toNatClampNeg))))[q]? = H[q]? := fun q hq => by simp [Array.getElem?_setIfInBounds, Ne.symm hq]
  obtain ⟨t, a1, b1⟩ := kk _ _ (show (H.setIfInBounds a _)[a]? = some _ by simp [Array.getElem?_setIfInBounds, hl]) (by simp) oq (fun q hq => by
      rcases List.mem_append.mp hq with h | h
      · exact Or.inl h
      · obtain ⟨z, -, hz⟩ := List.mem_map.mp h
        exact Or.inr (by rw [← hz])) _ hheap X'
  exact ⟨t, step t a1, b1⟩
end WC
section CR
variable {K : p_K} {l : Launch} {M : p_Me} {pc : Nat} {lv : List (Nat × p_AV)} {st : List p_AV} {σ : p_Hp} {o : Option p_AV × p_Hp}
theorem g_arraycopy {a b idx : Nat} {x y n : Int} (hw : Cond.methodLink M.1.cls idx arraycopyName ∈ sw_gw) (hw2 : Cond.native arraycopyName ∈ sw_gw) (hw3 : Cond.static arraycopyName ∈ sw_gw) (hw4 : Cond.initialized "java/lang/System" ∈ sw_gw) (hd : decode M.2.1 pc = .ok (.invokestatic idx, 3)) (hfr : 1 ≤ M.2.2.2.2.1) (hlo : (st.map p_cat).sum + (nativeFrameWords "java/lang/System" "arraycopy" 5 + 11) ≤ M.2.2.2.2.2)
    (ha : p_is σ a 100) (hb : p_is σ b 100) (hx : 0 ≤ x) (hy : 0 ≤ y) (hn : 0 ≤ n) (h4 : x + n ≤ (p_L σ a : Int)) (h5 : y + n ≤ (p_L σ b : Int)) (k9 : p_Go K l M (pc + 3) lv st (p_cp σ a x.toNat b y.toNat n.toNat) o) : p_Go K l M pc lv (p_i n :: p_i y :: p_r b :: p_i x :: p_r a :: st) σ o := by
  refine ⟨k9.1, fun p e s m args below meth c H locs n0 m0 mc ms Q ls C R S g1 g2 g3 g4 hl ol os RT => ?_⟩
  have hts := p_hts C.2.2.2.2.2.1
  have E := C.2.2.2.2.2.2.2.2
  obtain ⟨a1, a2, a3⟩ := R.2.2 a 0 .int ha rfl
  obtain ⟨b1, b2, b3⟩ := R.2.2 b 0 .int hb rfl
  have en := p_nat (n := 1000001) hn (by omega) (by omega)
  have ex := p_nat (n := 1000001) hx (by omega) (by omega)
  have ey := p_nat (n := 1000001) hy (by omega) (by omega)
  have cn : p_c n := ⟨by omega, by omega⟩
  have cx : p_c x := ⟨by omega, by omega⟩
  have cy : p_c y := ⟨by omega, by omega⟩
  have hC0 : H[K.1 + a]? = some (vp_cell (K.2.2.2.1 0) (p_L σ a, .inl (fun j => Int32.ofInt (p_Z σ a j)))) := a1
  have hC1 : H[K.1 + b]? = some (vp_cell (K.2.2.2.1 0) (p_L σ b, .inl (fun j => Int32.ofInt (p_Z σ b j)))) := b1
  have hcat : (st.map (p_V K)).map (fun v => v.category) = st.map p_cat := by
    rw [List.map_map]
    apply List.map_congr_left
    intro v _
    exact p_V_cat K v
  show W p l e (p_rm M mc ms) s m args below meth c H locs _ _ Q (F0 m pc ls (p_V K (p_i n) :: p_V K (p_i y) :: p_V K (p_r b) :: p_V K (p_i x) :: p_V K (p_r a) :: st.map (p_V K)))
  rw [p_V_r ha.1, p_V_r hb.1]
  refine p_Wcpy C.1 C.2.1 (C.2.2.1.trans hl.1.symm) C.2.2.2.2.1 (hts _ hw) (hts _ hw2) (hts _ hw3) (hts _ hw4) (E.2.1 0 .int rfl).1 hC0 hC1 (by rw [p_lt0 cx]; omega) (by rw [p_lt0 cy]; omega) (by rw [p_lt0 cn]; omega) (by rw [ex, en]; omega) (by rw [ey, en]; omega) hfr (by rw [hcat]; exact hlo) hd (fun H1 locs1 e1 z oq hlo1 => ?_)
  rw [ex, ey, en] at e1
  refine k9.2 p e s m args below meth c H1 locs1 n0 m0 mc ms Q ls C (R.cpy ha hb (by omega) (by omega) e1 z oq) ⟨by rw [z]; exact S.1, fun q w1 w2 => ?_, fun q hq => ?_⟩ g1 g2 g3 g4 hl ol (p_okt (p_okt (p_okt (p_okt (p_okt os))))) RT
  · rw [oq q (fun w => w2 (by rw [w]; exact (show K.1 < K.1 + b by have := hb.1; omega)))]
    exact S.2.1 q w1 w2
  · rcases hlo1 q hq with w | w
    · exact S.2.2 q w
    · rw [w]
      exact (show K.1 < K.1 + b by have := hb.1; omega)
end CR
end
section
/-! ===== a method's contract ===== -/
def p_Pc (K : p_K) (av : List p_AV) (σ : p_Hp) : Array Value → State → Prop := va_Pc (av.map (p_V K)) (fun U => p_E K U U.heap ∧ p_P K σ U.heap)
def p_Qc (K : p_K) (ret : Option FieldType) (o : Option p_AV × p_Hp) : Array Value → State → Outcome → State → Prop := fun _ st oc t => oc = .returned (o.1.map (p_V K)) ∧ p_rk ret o.1 ∧ p_P K o.2 t.heap ∧ va_F (p_A K) st t
def p_Ct (K : p_K) (l : Launch) (M : p_Me) (av : List p_AV) (σ : p_Hp) (o : Option p_AV × p_Hp) : Prop := p_x σ o.2 ∧ ∀ mc ms : Nat, p_N o.2 ≤ p_N σ + mc → p_M o.2 ≤ p_M σ + ms → (∀ v ∈ av, p_ok v) → Met l M.1 (p_ws M) (p_rm M mc ms) (p_Pc K av σ) (p_Qc K M.2.2.2.1 o) mc ms (p_A K)
def p_lv : Nat → List p_AV → List (Nat × p_AV)
  | _, [] => []
  | i, v :: vs => (i, v) :: p_lv (if p_cat v = 2 then i + 2 else i + 1) vs
theorem p_lv_eq (K : p_K) : ∀ (av : List p_AV) (i : Nat), lv_args i (av.map (p_V K)) = (p_lv i av).map (p_q K)
  | [], _ => rfl
  | v :: vs, i => by
    show (i, p_V K v) :: lv_args (if (p_V K v).category = 2 then i + 2 else i + 1) (vs.map (p_V K)) = (i, p_V K v) :: (p_lv (if p_cat v = 2 then i + 2 else i + 1) vs).map (p_q K)
    rw [p_V_cat, p_lv_eq K vs]
theorem p_lv_ok : ∀ (av : List p_AV) (i : Nat), (∀ v ∈ av, p_ok v) → ∀ q ∈ p_lv i av, p_ok q.2
  | [], _, _, q, h => by cases h
  | v :: vs, i, ho, q, h => by
    rcases List.mem_cons.mp h with w | w
    · rw [w]
      exact ho v List.mem_cons_self
    · exact p_lv_ok vs _ (fun x hx => ho x (List.mem_cons_of_mem _ hx)) q w
theorem p_sl_len (K : p_K) : ∀ av : List p_AV, (lg_sl (av.map (p_V K))).length = (av.map p_cat).sum
  | [] => rfl
  | v :: vs => by
    have ih := p_sl_len K vs
    unfold lg_sl at ih ⊢
    rw [List.map_cons, List.flatMap_cons, List.length_append, ih, List.map_cons, List.sum_cons, p_V_cat]
    rcases v with x | x | x | x <;> rfl
theorem p_Rt_MQ {K : p_K} {l : Launch} {M : p_Me} {o : Option p_AV × p_Hp} {p : Program} {e : Env} {s : State} {m : MethodId} {args : Array Value} {below : List Frame} {meth : Method} {c : Code} {mc ms : Nat} (C : p_Cx K M p s m args meth c) : p_Rt K l M o p e s m args below meth c mc ms (MQ below (p_Qc K M.2.2.2.1 o) args s mc ms (p_A K)) := by
  intro H locs pc ls R S hk hd
  have hlocks := C.2.2.2.2.2.2.1
  have hr := C.2.2.2.1
  have hq : ∀ t : State, t.heap = H → s.WarmedH t.vm → p_Qc K M.2.2.2.1 o args s (.returned (o.1.map (p_V K))) t := fun t ht _ => ⟨rfl, hk, by rw [ht]; exact R, S.F ht⟩
  obtain ⟨v, σ⟩ := o
  cases hret : M.2.2.2.1 with
  | none =>
    rw [hret] at hk hd hq hr
    have hk : v = none := hk
    subst hk
    exact W.vret C.1 C.2.1 hr hq S.2.2 hd (hlocks := hlocks)
  | some ty =>
    rw [hret] at hk hd hq hr
    cases ty with
    | int =>
      obtain ⟨x, hv, -⟩ := hk
      dsimp only at hv
      subst hv
      exact W.iret C.1 C.2.1 hr hq S.2.2 hd (hlocks := hlocks)
    | boolean =>
      obtain ⟨x, hv, hx⟩ := hk
      dsimp only at hv
      subst hv
      exact W.zret C.1 C.2.1 hr (by rcases hx with rfl | rfl <;> rfl) hq S.2.2 hd (hlocks := hlocks)
    | long =>
      obtain ⟨x, hv, -⟩ := hk
      dsimp only at hv
      subst hv
      exact W.lret C.1 C.2.1 hr hq S.2.2 hd (hlocks := hlocks)
    | object D =>
      obtain ⟨x, hv⟩ := hk
      dsimp only at hv
      subst hv
      exact W.aret C.1 C.2.1 hr (Or.inl ⟨_, rfl⟩) (by show p_V K (p_r x) = .null ∨ _; show va_rf (p_rO K.1 x) = .null ∨ ∃ a, va_rf (p_rO K.1 x) = .ref a; cases p_rO K.1 x with | none => exact Or.inl rfl | some a => exact Or.inr ⟨a, rfl⟩) hq S.2.2 hd (hlocks := hlocks)
    | array D =>
      obtain ⟨x, hv⟩ := hk
      dsimp only at hv
      subst hv
      exact W.aret C.1 C.2.1 hr (Or.inr ⟨_, rfl⟩) (by show p_V K (p_r x) = .null ∨ _; show va_rf (p_rO K.1 x) = .null ∨ ∃ a, va_rf (p_rO K.1 x) = .ref a; cases p_rO K.1 x with | none => exact Or.inl rfl | some a => exact Or.inr ⟨a, rfl⟩) hq S.2.2 hd (hlocks := hlocks)
    | _ => exact hk.elim
theorem p_ofW {l : Launch} {y : MethodName} {ws ws' : List Cond} {rm : Room} {Pc : Array Value → State → Prop} {Qc : Array Value → State → Outcome → State → Prop} {mc ms : Nat} {free : Addr → Prop} {cc : ByteArray} {maxL : Nat} {ret : Option FieldType}
    (hy : plainFor y = true) (hw : ws = Cond.code y cc maxL ret :: ws')
    (body : ∀ p e s m args below meth c s₁, BodyLoose p l y (headSpec ws rm) cc maxL ret e s m args below meth c s₁ → c.maxLocals = maxL → Pc args s →
      W p l e (headSpec ws rm).room s m args below meth c s.heap [] 0 0 (MQ below Qc args s mc ms free) (entryFrame m args maxL)) : Met l y ws rm Pc Qc mc ms free := by
  refine MetFree.of_bodySF (code := cc) (maxLocals := maxL) (ret := ret) hy ?_ ?_
  · intro args s m h hn
    obtain ⟨meth, c, h1, h2, h3, h4, h5, h6, -, -⟩ := Cond.code_spec hn (atoms_spec (ws := ws) h _ (by rw [hw]; exact List.mem_cons_self))
    exact ⟨meth, c, h1, h2, h3, h4, h5, h6⟩
  · intro p e s m args below meth c s₁ B hml hP _
    have hh0 : s₁.heap = s.heap := by rw [B.state]; rfl
    obtain ⟨t, a1, o, b1, b2, b3⟩ := body p e s m args below meth c s₁ B hml hP s₁ hh0 (Stand.of_body B)
    exact ⟨t, o, a1, b1, b2, ⟨b3.1, b3.2⟩⟩
theorem p_Ct.of {K : p_K} {l : Launch} {M : p_Me} {av : List p_AV} {σ : p_Hp} {o : Option p_AV × p_Hp} (hpl : plainFor M.1 = true) (hsz : (av.map p_cat).sum ≤ M.2.2.1) (h : p_Go K l M 0 (p_lv 0 av) [] σ o) : p_Ct K l M av σ o := by
  refine ⟨h.1, fun mc ms hc hs ho => p_ofW (cc := M.2.1) (maxL := M.2.2.1) (ret := M.2.2.2.1) hpl rfl ?_⟩
  intro p e s m args below meth c s₁ B hml hv
  obtain ⟨rfl, hE, hP⟩ := hv
  have C : p_Cx K M p s m (av.map (p_V K)).toArray meth c := ⟨B.exec, B.bytes, hml, B.returns, findClass_of_methodNamed B.named, fun w hw => atoms_spec (ws := p_ws M) B.pre w (List.mem_cons_of_mem _ hw), B.notSynchronized, fun h => (name_of_methodNamed B.named B.method).1.trans h, hE⟩
  have hl := lv_entry (av.map (p_V K)) (n := M.2.2.1) (by rw [p_sl_len]; exact hsz)
  rw [lg_entry_eq]
  generalize (lg_sl (av.map (p_V K)) ++ List.replicate (M.2.2.1 - (lg_sl (av.map (p_V K))).length) Slot.unset).toArray = ls at hl ⊢
  rw [p_lv_eq] at hl
  have k := h.2 p e s m _ below meth c s.heap [] (p_N σ) (p_M σ) mc ms _ ls C hP va_S.rf (Nat.le_refl _) (Nat.le_refl _) hc hs hl (p_lv_ok av 0 ho) (fun v h => by cases h) (p_Rt_MQ C)
  rw [Nat.sub_self, Nat.sub_self] at k
  exact k
/-! ===== calls ===== -/
def p_Mt (M : p_Me) (n : Nat) : Prop := Cond.code M.1 M.2.1 M.2.2.1 M.2.2.2.1 ∈ sw_gw ∧ Cond.initialized M.1.cls ∈ sw_gw ∧ M.1.cls ≠ "java/lang/invoke/MethodHandle" ∧ M.1.cls ≠ "java/lang/invoke/VarHandle" ∧ (parseMethodDescriptor M.1.desc).map (fun d => d.parameters.length) = some n
def p_Rm (M M' : p_Me) : Prop := M'.2.2.2.2.1 + 1 ≤ M.2.2.2.2.1 ∧ 8 + (M'.2.2.1 + 11) + M'.2.2.2.2.2 ≤ M.2.2.2.2.2
theorem p_good {M' : p_Me} (h : Cond.code M'.1 M'.2.1 M'.2.2.1 M'.2.2.2.1 ∈ sw_gw) : GoodIn sw_gw (p_ws M') := by
  have hg : ∀ w ∈ sw_gw, w ∈ sw_gw ∧ ((w.onTables && w.keeps) = true ∨ ∃ ty, w = .arrayClass ty) := fun w hw => ⟨hw, good_of_word (List.mem_filter.mp hw).2⟩
  intro w hw
  rcases List.mem_cons.mp hw with e | hw
  · rw [e]
    exact hg _ h
  · exact hg w hw
theorem p_blind {K : p_K} {av : List p_AV} {σ : p_Hp} : FrameBlind (p_Pc K av σ) := fun a U g mk h => ⟨h.1, p_E.moved (s := U) (U := U.calling g mk a) (State.WarmedH.refl U) h.2.1, h.2.2⟩
section CL
variable {K : p_K} {l : Launch} {M M' : p_Me} {pc : Nat} {lv : List (Nat × p_AV)} {st : List p_AV} {σ : p_Hp} {o : Option p_AV × p_Hp}
theorem p_pre {p : Program} {s : State} {m : MethodId} {args : Array Value} {meth : Method} {c : Code} {H : Heap} {locs : List Loc} {av : List p_AV} (C : p_Cx K M p s m args meth c) (R : p_P K σ H) (S : va_S (p_A K) s.heap H locs) : ∀ U : State, U.heap = H → s.WarmedH U.vm → p_Pc K av σ (av.map (p_V K)).toArray U := fun U hU hW => ⟨rfl, by rw [hU]; exact (C.2.2.2.2.2.2.2.2.kept S.2.1).moved hW, by rw [hU]; exact R⟩
/-- behind a call -/
theorem p_aft {av rest st' : List p_AV} {q : Option p_AV × p_Hp} {p : Program} {e : Env} {s : State} {m : MethodId} {args : Array Value} {below : List Frame} {meth : Method} {c : Code} {H : Heap} {locs : List Loc} {n0 m0 mc ms : Nat} {Q : State → Prop} {ls : Array Slot} {st0 : List Value} (k9 : p_Go K l M (pc + 3) lv st' q.2 o) (he : q.1.toList ++ rest = st') (hmx : p_x σ q.2)
    (C : p_Cx K M p s m args meth c) (S : va_S (p_A K) s.heap H locs) (h1 : n0 ≤ p_N σ) (h2 : m0 ≤ p_M σ) (h3 : p_N o.2 ≤ n0 + mc) (h4 : p_M o.2 ≤ m0 + ms) (hl : lv_has ls M.2.2.1 (lv.map (p_q K))) (ol : ∀ q ∈ lv, p_ok q.2) (os : ∀ v ∈ rest, p_ok v) (RT : p_Rt K l M o p e s m args below meth c mc ms Q)
    (hr : va_Run p l e (p_rm M mc ms) s m args below meth c H locs (p_N σ - n0) (p_M σ - m0) (p_N q.2 - p_N σ) (p_M q.2 - p_M σ) (F0 m pc ls st0) (rest.map (p_V K)) (p_Qc K M'.2.2.2.1 q (av.map (p_V K)).toArray) (p_A K)) :
    W p l e (p_rm M mc ms) s m args below meth c H locs (p_N σ - n0) (p_M σ - m0) Q (F0 m pc ls st0) := by
  have hmo : p_N σ ≤ p_N q.2 ∧ p_M σ ≤ p_M q.2 := ⟨hmx.1, hmx.2.1⟩
  intro T hT X
  obtain ⟨v, st₀, t, T', L, h0, X', hL, e1, e2, ⟨hv, hk, hP1, hz, hkp⟩, stp⟩ := hr T hT X
  cases hv
  rw [h0] at hz hkp
  have hok : ∀ v ∈ st', p_ok v := by
    rw [← he]
    intro v hv
    rcases List.mem_append.mp hv with w | w
    · obtain ⟨v9, σ9⟩ := q
      cases v9 with
      | none => cases w
      | some v9 =>
        have w : v = v9 := by simpa using w
        subst w
        cases hret : M'.2.2.2.1 with
        | none => rw [hret] at hk; cases hk
        | some ty =>
          rw [hret] at hk
          cases ty with
          | int => obtain ⟨x, hx, hc⟩ := hk; cases hx; exact hc
          | boolean => obtain ⟨x, hx, hc⟩ := hk; cases hx; show p_c x; rcases hc with w | w <;> rw [w] <;> decide
          | long => obtain ⟨x, hx, hc⟩ := hk; cases hx; exact hc
          | object D => obtain ⟨x, hx⟩ := hk; cases hx; trivial
          | array D => obtain ⟨x, hx⟩ := hk; cases hx; trivial
          | _ => exact hk.elim
    · exact os v w
  have hS1 : va_S (p_A K) s.heap T'.heap (locs ++ L) := ⟨Nat.le_trans S.1 (by rw [e1]; exact hz), fun q g1 g2 => by rw [e1, hkp q (Nat.lt_of_lt_of_le g1 S.1) g2]; exact S.2.1 q g1 g2, fun q hq => by
    rcases List.mem_append.mp hq with w | w
    · exact S.2.2 q w
    · exact hL q w⟩
  have kk := k9.2 p e s m args below meth c T'.heap (locs ++ L) n0 m0 mc ms Q ls C (by rw [e1]; exact hP1) hS1 (by omega) (by omega) h3 h4 hl ol hok RT
  have he2 : st'.map (p_V K) = (q.1.map (p_V K)).toList ++ rest.map (p_V K) := by
    rw [← he, List.map_append]
    congr 1
    cases q.1 <;> rfl
  rw [he2] at kk
  obtain ⟨t2, a1, b1⟩ := (W.cs (by omega) (by omega) kk : W p l e (p_rm M mc ms) s m args below meth c T'.heap (locs ++ L) (p_N σ - n0 + (p_N q.2 - p_N σ)) (p_M σ - m0 + (p_M q.2 - p_M σ)) Q _) T' rfl X'
  exact ⟨t2, stp t2 a1, b1⟩
theorem p_cats (K : p_K) (rest : List p_AV) : ((rest.map (p_V K)).map fun v => v.category) = rest.map p_cat := by
  rw [List.map_map]
  exact List.map_congr_left (fun v _ => p_V_cat K v)
theorem p_rmL {rest : List p_AV} {m : MethodId} {ls : Array Slot} {st0 : List Value} (h : (rest.map p_cat).sum ≤ 8) : 2 * (F0 m pc ls st0).monitorRoom + ((rest.map (p_V K)).map fun v => v.category).sum ≤ 8 := by
  refine lv_room ?_
  rw [p_cats]
  exact h
theorem g_callS {n idx : Nat} {av rest : List p_AV} {q : Option p_AV × p_Hp} (st' : List p_AV) (hm : p_Mt M' n) (hst : Cond.static M'.1 ∈ sw_gw) (hw : Cond.methodLink M.1.cls idx M'.1 ∈ sw_gw) (hR : p_Rm M M') (hn : av.length = n) (hsp : (rest.map p_cat).sum ≤ 8) (hd : decode M.2.1 pc = .ok (.invokestatic idx, 3)) (he : av.reverse ++ rest = st) (hq : q.1.toList ++ rest = st') (hc : p_Ct K l M' av σ q) (k9 : p_Go K l M (pc + 3) lv st' q.2 o) : p_Go K l M pc lv st σ o := by
  subst he
  refine ⟨hc.1.trans k9.1, fun p e s m args below meth c H locs n0 m0 mc ms Q ls C R S h1 h2 h3 h4 hl ol os RT => ?_⟩
  have hts := p_hts C.2.2.2.2.2.1
  have hkm : p_N q.2 ≤ p_N o.2 ∧ p_M q.2 ≤ p_M o.2 := ⟨k9.1.1, k9.1.2.1⟩
  have hcm : p_N σ ≤ p_N q.2 ∧ p_M σ ≤ p_M q.2 := ⟨hc.1.1, hc.1.2.1⟩
  obtain ⟨m1, m2, m3, m4, m5⟩ := hm
  have hM := hc.2 (p_N q.2 - p_N σ) (p_M q.2 - p_M σ) (by omega) (by omega) (fun v hv => os v (List.mem_append_left _ (List.mem_reverse.mpr hv)))
  refine p_aft (M' := M') (av := av) k9 hq hc.1 C S h1 h2 h3 h4 hl ol (fun v hv => os v (List.mem_append_right _ hv)) RT ?_
  exact va_runS (n := n) ⟨C.1, C.2.1, C.2.2.1, C.2.2.2.2.1, C.2.2.2.2.2.1⟩ hM ⟨callB_of n C.2.2.2.2.2.1 (p_good m1) rfl rfl rfl (hts _ m2) (hts _ hw) ⟨m3, m4, m5⟩ hR, hts _ hst⟩ ⟨p_blind, p_pre C R S⟩ rfl (by rw [List.length_map]; exact hn) hl.1 (by show (av.reverse ++ rest).map (p_V K) = _; rw [List.map_append, List.map_reverse]) (p_rmL hsp) hd ⟨by show p_N σ - n0 + (p_N q.2 - p_N σ) ≤ mc; omega, by show p_M σ - m0 + (p_M q.2 - p_M σ) ≤ ms; omega⟩
theorem g_callSN {n idx : Nat} {av rest : List p_AV} {q : Option p_AV × p_Hp} (st' : List p_AV) (hm : p_Mt M' n) (hst : Cond.static M'.1 ∈ sw_gw) {host : String} (hw : (M.1.cls, idx, M'.1, host) ∈ sw_nm) (hR : p_Rm M M') (hn : av.length = n) (hsp : (rest.map p_cat).sum ≤ 8) (hd : decode M.2.1 pc = .ok (.invokestatic idx, 3)) (he : av.reverse ++ rest = st) (hq : q.1.toList ++ rest = st') (hc : p_Ct K l M' av σ q) (k9 : p_Go K l M (pc + 3) lv st' q.2 o) : p_Go K l M pc lv st σ o := by
  subst he
  refine ⟨hc.1.trans k9.1, fun p e s m args below meth c H locs n0 m0 mc ms Q ls C R S h1 h2 h3 h4 hl ol os RT => ?_⟩
  have hts := p_hts C.2.2.2.2.2.1
  have hkm : p_N q.2 ≤ p_N o.2 ∧ p_M q.2 ≤ p_M o.2 := ⟨k9.1.1, k9.1.2.1⟩
  have hcm : p_N σ ≤ p_N q.2 ∧ p_M σ ≤ p_M q.2 := ⟨hc.1.1, hc.1.2.1⟩
  obtain ⟨m1, m2, m3, m4, m5⟩ := hm
  have hM := hc.2 (p_N q.2 - p_N σ) (p_M q.2 - p_M σ) (by omega) (by omega) (fun v hv => os v (List.mem_append_left _ (List.mem_reverse.mpr hv)))
  refine p_aft (M' := M') (av := av) k9 hq hc.1 C S h1 h2 h3 h4 hl ol (fun v hv => os v (List.mem_append_right _ hv)) RT ?_
  exact va_runSN (n := n) ⟨C.1, C.2.1, C.2.2.1, C.2.2.2.2.1, C.2.2.2.2.2.1⟩ hM ⟨va_cnB n C.2.2.2.2.2.1 (p_good m1) rfl rfl rfl (C.2.2.2.2.2.2.2.2.2.2.2.1 _ hw) (hts _ m2) ⟨m3, m4, m5⟩ hR, hts _ hst, trivial⟩ ⟨p_blind, p_pre C R S⟩ rfl (by rw [List.length_map]; exact hn) hl.1 (by show (av.reverse ++ rest).map (p_V K) = _; rw [List.map_append, List.map_reverse]) (p_rmL hsp) hd ⟨by show p_N σ - n0 + (p_N q.2 - p_N σ) ≤ mc; omega, by show p_M σ - m0 + (p_M q.2 - p_M σ) ≤ ms; omega⟩
theorem g_callV {n idx a ci : Nat} {q0 : vw_C} {As rest : List p_AV} {q : Option p_AV × p_Hp} (st' : List p_AV) (hm : p_Mt M' n) (hcl : sw_cl[ci]? = some q0) (hcn : q0.1 = M'.1.cls) (hin : Cond.instanceMethod M'.1 ∈ sw_gw) (hse : Cond.selects M'.1.cls M'.1 M'.1 ∈ sw_gw) (hw : Cond.methodLink M.1.cls idx M'.1 ∈ sw_gw) (hR : p_Rm M M') (hn : As.length = n) (hsp : (rest.map p_cat).sum ≤ 8) (hd : decode M.2.1 pc = .ok (.invokevirtual idx, 3)) (he : As.reverse ++ p_r a :: rest = st) (hi : p_is σ a ci) (hq : q.1.toList ++ rest = st') (hc : p_Ct K l M' (p_r a :: As) σ q) (k9 : p_Go K l M (pc + 3) lv st' q.2 o) : p_Go K l M pc lv st σ o := by
  subst he
  refine ⟨hc.1.trans k9.1, fun p e s m args below meth c H locs n0 m0 mc ms Q ls C R S h1 h2 h3 h4 hl ol os RT => ?_⟩
  have hts := p_hts C.2.2.2.2.2.1
  have hkm : p_N q.2 ≤ p_N o.2 ∧ p_M q.2 ≤ p_M o.2 := ⟨k9.1.1, k9.1.2.1⟩
  have hcm : p_N σ ≤ p_N q.2 ∧ p_M σ ≤ p_M q.2 := ⟨hc.1.1, hc.1.2.1⟩
  obtain ⟨m1, m2, m3, m4, m5⟩ := hm
  have hM := hc.2 (p_N q.2 - p_N σ) (p_M q.2 - p_M σ) (by omega) (by omega) (fun v hv => os v (by
    rcases List.mem_cons.mp hv with w | w
    · rw [w]; exact List.mem_append_right _ List.mem_cons_self
    · exact List.mem_append_left _ (List.mem_reverse.mpr w)))
  refine p_aft (M' := M') (av := p_r a :: As) k9 hq hc.1 C S h1 h2 h3 h4 hl ol (fun v hv => os v (List.mem_append_right _ (List.mem_cons_of_mem _ hv))) RT ?_
  obtain ⟨⟨cell, v1, v2, v3, -⟩, -⟩ := R.2.1 a ci q0 hi hcl
  have hpre := p_pre (av := p_r a :: As) C R S
  rw [List.map_cons, p_V_r hi.1] at hpre ⊢
  exact va_runV (n := n) (C := M'.1.cls) ⟨C.1, C.2.1, C.2.2.1, C.2.2.2.2.1, C.2.2.2.2.2.1⟩ hM ⟨callB_of n C.2.2.2.2.2.1 (p_good m1) rfl rfl rfl (hts _ m2) (hts _ hw) ⟨m3, m4, m5⟩ hR, hts _ hin, hts _ hse⟩ ⟨p_blind, ⟨cell, v1, by rw [v3]; rfl, by rw [v2, ← hcn]; exact (C.2.2.2.2.2.2.2.2.1 ci q0 hcl).2.1⟩, hpre⟩ rfl (by rw [List.length_map]; exact hn) hl.1 (by show (As.reverse ++ p_r a :: rest).map (p_V K) = _; rw [List.map_append, List.map_reverse, List.map_cons, p_V_r hi.1]) (p_rmL hsp) hd ⟨by show p_N σ - n0 + (p_N q.2 - p_N σ) ≤ mc; omega, by show p_M σ - m0 + (p_M q.2 - p_M σ) ≤ ms; omega⟩
theorem g_callI {n idx a : Nat} {As rest : List p_AV} {q : Option p_AV × p_Hp} (st' : List p_AV) (hm : p_Mt M' n) (hin : Cond.instanceMethod M'.1 ∈ sw_gw) (hw : Cond.methodLink M.1.cls idx M'.1 ∈ sw_gw) (hnm : M'.1.name = "<init>") (hrt : M'.2.2.2.1 = none) (hR : p_Rm M M') (hn : As.length = n) (hsp : (rest.map p_cat).sum ≤ 8) (hd : decode M.2.1 pc = .ok (.invokespecial idx, 3)) (he : As.reverse ++ p_r a :: rest = st) (ha : 1 ≤ a) (hq : q.1.toList ++ rest = st') (hc : p_Ct K l M' (p_r a :: As) σ q) (k9 : p_Go K l M (pc + 3) lv st' q.2 o) : p_Go K l M pc lv st σ o := by
  subst he
  refine ⟨hc.1.trans k9.1, fun p e s m args below meth c H locs n0 m0 mc ms Q ls C R S h1 h2 h3 h4 hl ol os RT => ?_⟩
  have hts := p_hts C.2.2.2.2.2.1
  have hkm : p_N q.2 ≤ p_N o.2 ∧ p_M q.2 ≤ p_M o.2 := ⟨k9.1.1, k9.1.2.1⟩
  have hcm : p_N σ ≤ p_N q.2 ∧ p_M σ ≤ p_M q.2 := ⟨hc.1.1, hc.1.2.1⟩
  obtain ⟨m1, m2, m3, m4, m5⟩ := hm
  have hM := hc.2 (p_N q.2 - p_N σ) (p_M q.2 - p_M σ) (by omega) (by omega) (fun v hv => os v (by
    rcases List.mem_cons.mp hv with w | w
    · rw [w]; exact List.mem_append_right _ List.mem_cons_self
    · exact List.mem_append_left _ (List.mem_reverse.mpr w)))
  refine p_aft (M' := M') (av := p_r a :: As) k9 hq hc.1 C S h1 h2 h3 h4 hl ol (fun v hv => os v (List.mem_append_right _ (List.mem_cons_of_mem _ hv))) RT ?_
  have hpre := p_pre (av := p_r a :: As) C R S
  rw [List.map_cons, p_V_r ha] at hpre ⊢
  have hcode : p_ws M' = Cond.code M'.1 M'.2.1 M'.2.2.1 none :: sw_gw := by unfold p_ws; rw [hrt]
  exact va_runI (n := n) ⟨C.1, C.2.1, C.2.2.1, C.2.2.2.2.1, C.2.2.2.2.2.1⟩ hM ⟨callB_of n C.2.2.2.2.2.1 (p_good m1) hcode rfl rfl (hts _ m2) (hts _ hw) ⟨m3, m4, m5⟩ hR, hnm, hts _ hin⟩ ⟨p_blind, hpre⟩ rfl (by rw [List.length_map]; exact hn) hl.1 (by show (As.reverse ++ p_r a :: rest).map (p_V K) = _; rw [List.map_append, List.map_reverse, List.map_cons, p_V_r ha]) (p_rmL hsp) hd ⟨by show p_N σ - n0 + (p_N q.2 - p_N σ) ≤ mc; omega, by show p_M σ - m0 + (p_M q.2 - p_M σ) ≤ ms; omega⟩
theorem g_callIN {n idx a : Nat} {As rest : List p_AV} {q : Option p_AV × p_Hp} (st' : List p_AV) (hm : p_Mt M' n) (hin : Cond.instanceMethod M'.1 ∈ sw_gw) {host : String} (hw : (M.1.cls, idx, M'.1, host) ∈ sw_nm) (hnm : M'.1.name = "<init>") (hrt : M'.2.2.2.1 = none) (hR : p_Rm M M') (hn : As.length = n) (hsp : (rest.map p_cat).sum ≤ 8) (hd : decode M.2.1 pc = .ok (.invokespecial idx, 3)) (he : As.reverse ++ p_r a :: rest = st) (ha : 1 ≤ a) (hq : q.1.toList ++ rest = st') (hc : p_Ct K l M' (p_r a :: As) σ q) (k9 : p_Go K l M (pc + 3) lv st' q.2 o) : p_Go K l M pc lv st σ o := by
  subst he
  refine ⟨hc.1.trans k9.1, fun p e s m args below meth c H locs n0 m0 mc ms Q ls C R S h1 h2 h3 h4 hl ol os RT => ?_⟩
  have hts := p_hts C.2.2.2.2.2.1
  have hkm : p_N q.2 ≤ p_N o.2 ∧ p_M q.2 ≤ p_M o.2 := ⟨k9.1.1, k9.1.2.1⟩
  have hcm : p_N σ ≤ p_N q.2 ∧ p_M σ ≤ p_M q.2 := ⟨hc.1.1, hc.1.2.1⟩
  obtain ⟨m1, m2, m3, m4, m5⟩ := hm
  have hM := hc.2 (p_N q.2 - p_N σ) (p_M q.2 - p_M σ) (by omega) (by omega) (fun v hv => os v (by
    rcases List.mem_cons.mp hv with w | w
    · rw [w]; exact List.mem_append_right _ List.mem_cons_self
    · exact List.mem_append_left _ (List.mem_reverse.mpr w)))
  refine p_aft (M' := M') (av := p_r a :: As) k9 hq hc.1 C S h1 h2 h3 h4 hl ol (fun v hv => os v (List.mem_append_right _ (List.mem_cons_of_mem _ hv))) RT ?_
  have hpre := p_pre (av := p_r a :: As) C R S
  rw [List.map_cons, p_V_r ha] at hpre ⊢
  have hcode : p_ws M' = Cond.code M'.1 M'.2.1 M'.2.2.1 none :: sw_gw := by unfold p_ws; rw [hrt]
  exact va_runIN (n := n) ⟨C.1, C.2.1, C.2.2.1, C.2.2.2.2.1, C.2.2.2.2.2.1⟩ hM ⟨va_cnB n C.2.2.2.2.2.1 (p_good m1) hcode rfl rfl (C.2.2.2.2.2.2.2.2.2.2.2.1 _ hw) (hts _ m2) ⟨m3, m4, m5⟩ hR, hnm, hts _ hin⟩ ⟨p_blind, hpre⟩ rfl (by rw [List.length_map]; exact hn) hl.1 (by show (As.reverse ++ p_r a :: rest).map (p_V K) = _; rw [List.map_append, List.map_reverse, List.map_cons, p_V_r ha]) (p_rmL hsp) hd ⟨by show p_N σ - n0 + (p_N q.2 - p_N σ) ≤ mc; omega, by show p_M σ - m0 + (p_M q.2 - p_M σ) ≤ ms; omega⟩
theorem g_objInit {a idx : Nat} (hw : Cond.methodLink M.1.cls idx objectInit ∈ sw_gw) (hw2 : Cond.instanceMethod objectInit ∈ sw_gw) (hw3 : Cond.code objectInit ⟨#[0xb1]⟩ 1 none ∈ sw_gw) (hd : decode M.2.1 pc = .ok (.invokespecial idx, 3)) (h1 : 1 ≤ M.2.2.2.2.1) (h2 : (st.map p_cat).sum + 12 ≤ M.2.2.2.2.2) (ha : 1 ≤ a) (k9 : p_Go K l M (pc + 3) lv st σ o) : p_Go K l M pc lv (p_r a :: st) σ o := by
  refine ⟨k9.1, fun p e s m args below meth c H locs n0 m0 mc ms Q ls C R S g1 g2 g3 g4 hl ol os RT => ?_⟩
  have hts := p_hts C.2.2.2.2.2.1
  show W p l e (p_rm M mc ms) s m args below meth c H locs _ _ Q (F0 m pc ls (p_V K (p_r a) :: st.map (p_V K)))
  rw [p_V_r ha]
  refine W.objInit C.1 C.2.1 C.2.2.2.2.1 (hts _ hw) (hts _ hw2) (hts _ hw3) rfl (by rw [C.2.2.1]; exact hl.1) rfl hd h1 ?_ (k9.2 p e s m args below meth c H locs n0 m0 mc ms Q ls C R S g1 g2 g3 g4 hl ol (p_okt os) RT)
  show 2 * 0 + _ + 12 ≤ M.2.2.2.2.2
  rw [p_cats]
  omega
end CL
end
section
/-! ===== int[].clone(), checkcast of an int[], the script among the locals ===== -/
def p_cl (σ : p_Hp) (a : Nat) : p_Hp := (σ.1 + 1, σ.2.1 + σ.2.2.2.1 a, fun b => if b = σ.1 + 1 then 100 else σ.2.2.1 b, fun b => if b = σ.1 + 1 then σ.2.2.2.1 a else σ.2.2.2.1 b, fun b j => if b = σ.1 + 1 then σ.2.2.2.2.1 a j else σ.2.2.2.2.1 b j, fun b j => if b = σ.1 + 1 then 0 else σ.2.2.2.2.2 b j)
theorem p_x_cl (σ : p_Hp) (a : Nat) : p_x σ (p_cl σ a) := ⟨Nat.le_succ _, Nat.le_add_right _ _, fun b hb => by
  have h : b ≠ σ.1 + 1 := by have : b ≤ σ.1 := hb; omega
  exact ⟨if_neg h, if_neg h⟩⟩
theorem p_P.clone {K : p_K} {σ : p_Hp} {H H1 : Heap} {a : Nat} (hP : p_P K σ H) (ha : p_is σ a 100) (z : H1.size = H.size + 1) (oq : ∀ x : Nat, x < H.size → H1[x]? = H[x]?)
    (e1 : H1[H.size]? = some (arrV (K.2.2.2.1 0) (p_L σ a) (fun j => p_sl K σ a .int j))) : p_P K (p_cl σ a) H1 := by
  have hsz := hP.1
  have eT : ∀ b, p_T (p_cl σ a) b = if b = p_N σ + 1 then 100 else p_T σ b := fun _ => rfl
  have eL : ∀ b, p_L (p_cl σ a) b = if b = p_N σ + 1 then p_L σ a else p_L σ b := fun _ => rfl
  have eZ : ∀ b j, p_Z (p_cl σ a) b j = if b = p_N σ + 1 then p_Z σ a j else p_Z σ b j := fun _ _ => rfl
  have eR : ∀ b j, p_R (p_cl σ a) b j = if b = p_N σ + 1 then 0 else p_R σ b j := fun _ _ => rfl
  obtain ⟨-, a2, a3⟩ := hP.2.2 a 0 .int ha rfl
  have old : ∀ b, b ≠ p_N σ + 1 → ∀ j, p_Z (p_cl σ a) b j = p_Z σ b j ∧ p_R (p_cl σ a) b j = p_R σ b j := fun b hb j => ⟨by rw [eZ, if_neg hb], by rw [eR, if_neg hb]⟩
  have up : ∀ b t, p_is (p_cl σ a) b t → b ≠ p_N σ + 1 → p_is σ b t := fun b t h hb => by
    have h2 : b ≤ p_N σ + 1 := h.2.1
    have h3 := h.2.2
    rw [eT, if_neg hb] at h3
    exact ⟨h.1, by omega, h3⟩
  refine ⟨by show H1.size = K.1 + (p_N σ + 1) + 1; omega, fun b cj r hb hr => ?_, fun b i ty hb hty => ?_⟩
  · have hbn : b ≠ p_N σ + 1 := fun w => by
      have h3 := hb.2.2
      rw [eT, if_pos w] at h3
      have := p_cl_lt hr
      omega
    have hb := up b cj hb hbn
    obtain ⟨g1, g2⟩ := hP.2.1 b cj r hb hr
    refine ⟨(g1.kept (oq _ (by have := hb.2.1; omega))).to (fun j hj => (p_sl_eq (old b hbn j).1 (old b hbn j).2 _).symm), fun j hj => ?_⟩
    rw [(old b hbn j).1]
    exact g2 j hj
  · by_cases hbn : b = p_N σ + 1
    · have h3 := hb.2.2
      rw [eT, if_pos hbn] at h3
      have e : i = 0 := by omega
      subst e
      cases hty
      rw [eL, if_pos hbn]
      refine ⟨?_, fun j hj => ?_, a3⟩
      · rw [show K.1 + b = H.size from by omega, e1]
        congr 2
        funext j
        show Value.int _ = Value.int (Int32.ofInt (p_Z (p_cl σ a) b j))
        rw [eZ, if_pos hbn]
      · rw [eZ, if_pos hbn]
        exact a2 j hj
    · have hb := up b _ hb hbn
      obtain ⟨g1, g2, g3⟩ := hP.2.2 b i ty hb hty
      rw [eL, if_neg hbn]
      refine ⟨?_, fun j hj => ?_, g3⟩
      · rw [oq _ (by have := hb.2.1; omega), g1]
        congr 2
        funext j
        exact (p_sl_eq (old b hbn j).1 (old b hbn j).2 _).symm
      · rw [(old b hbn j).1]
        exact g2 j hj
section MO
variable {K : p_K} {l : Launch} {M : p_Me} {pc : Nat} {lv : List (Nat × p_AV)} {st : List p_AV} {σ : p_Hp} {o : Option p_AV × p_Hp}
theorem g_clone {a idx : Nat} (hw : Cond.methodLink M.1.cls idx ⟨"[I", "clone", "()Ljava/lang/Object;"⟩ ∈ sw_gw) (hw1 : Cond.sameMethod "[I" "java/lang/Object" "clone" "()Ljava/lang/Object;" ∈ sw_gw) (hw2 : Cond.native ⟨"java/lang/Object", "clone", "()Ljava/lang/Object;"⟩ ∈ sw_gw) (hw3 : Cond.instanceMethod ⟨"java/lang/Object", "clone", "()Ljava/lang/Object;"⟩ ∈ sw_gw) (hw4 : Cond.selects "[I" ⟨"[I", "clone", "()Ljava/lang/Object;"⟩ ⟨"java/lang/Object", "clone", "()Ljava/lang/Object;"⟩ ∈ sw_gw)
    (hd : decode M.2.1 pc = .ok (.invokevirtual idx, 3)) (hfr : 1 ≤ M.2.2.2.2.1) (hlo : (st.map p_cat).sum + 14 ≤ M.2.2.2.2.2) (hi : p_is σ a 100) (k9 : p_Go K l M (pc + 3) lv (p_r (p_N σ + 1) :: st) (p_cl σ a) o) : p_Go K l M pc lv (p_r a :: st) σ o := by
  have e1 : p_N (p_cl σ a) = p_N σ + 1 := rfl
  have e2 : p_M (p_cl σ a) = p_M σ + p_L σ a := rfl
  have kn : p_N σ + 1 ≤ p_N o.2 ∧ p_M σ + p_L σ a ≤ p_M o.2 := ⟨k9.1.1, k9.1.2.1⟩
  refine ⟨(p_x_cl _ _).trans k9.1, fun p e s m args below meth c H locs n0 m0 mc ms Q ls C R S h1 h2 h3 h4 hl ol os RT => ?_⟩
  have hts := p_hts C.2.2.2.2.2.1
  have E := C.2.2.2.2.2.2.2.2
  obtain ⟨a1, a2, a3⟩ := R.2.2 a 0 .int hi rfl
  have hnm : s.vm.findClass "[I" = some (K.2.2.2.1 0) := (E.2.1 0 _ rfl).2
  obtain ⟨c0, t0', f1, f2, f3⟩ := Cond.castable_spec (va_Nw.use (A := args) rfl E.2.2.2.2.2.2.2.2.2.2)
  cases hnm.symm.trans f1
  show W p l e (p_rm M mc ms) s m args below meth c H locs _ _ Q (F0 m pc ls (p_V K (p_r a) :: st.map (p_V K)))
  rw [p_V_r hi.1]
  intro T hT X
  have hcellT : T.heap[K.1 + a]? = some (arrV (K.2.2.2.1 0) (p_L σ a) (fun j => p_sl K σ a .int j)) := by rw [hT]; exact a1
  obtain ⟨-, kA, hkA, comp, hkind⟩ := State.isArrayOf_alike X.warmed.alike ((E.2.1 0 _ rfl).1 0 (fun _ => .null))
  obtain ⟨-, kS, hkS, compS, hkindS⟩ := (E.2.1 0 _ rfl).1 0 (fun _ => .null)
  obtain ⟨vm', X', stp⟩ := X.cloneArray C.1 C.2.2.2.2.1 (hts _ hw) (hts _ hw1) (hts _ hw2) (hts _ hw3) (hts _ hw4) (a := K.1 + a) (cell := arrV (K.2.2.2.1 0) (p_L σ a) (fun j => p_sl K σ a .int j)) hcellT (fun k h => by cases h) (fun h => by cases h) hnm f2 f3
    (fun i v hv => by
      have hk' : T.vm.classes[K.2.2.2.1 0]? = some kA := hkA
      have hfit : fits FieldType.int v = true := by
        have hlt := (Array.getElem?_eq_some_iff.mp hv).1
        rw [arrV_size] at hlt
        rw [arrV_read _ _ hlt] at hv
        cases hv
        rfl
      show State.fitsSlot _ (K.2.2.2.1 0) _ _ _ = true
      simpa [State.fitsSlot, State.slotType?, hk', hkind] using hfit)
    (g := F0 m pc ls (.ref (K.1 + a) :: st.map (p_V K))) rfl (by rw [C.2.2.1]; exact hl.1) rfl (by rw [C.2.1]; exact hd) hfr (by rw [p_cats]; show 2 * 0 + _ + 14 ≤ M.2.2.2.2.2; omega) (by show p_N σ - n0 + 1 ≤ mc; omega) (by rw [arrV_size]; show p_M σ - m0 + p_L σ a ≤ ms; omega) (hloader := Vm.clonesLoader_of_array hkS hkindS)
  rw [arrV_size] at X'
  have hcE : ({ cls := (arrV (K.2.2.2.1 0) (p_L σ a) (fun j => p_sl K σ a .int j)).cls, slots := (arrV (K.2.2.2.1 0) (p_L σ a) (fun j => p_sl K σ a .int j)).slots } : Cell) = arrV (K.2.2.2.1 0) (p_L σ a) (fun j => p_sl K σ a .int j) := rfl
  rw [hcE] at X' stp
  generalize hH1 : H.push (arrV (K.2.2.2.1 0) (p_L σ a) (fun j => p_sl K σ a .int j)) = H1
  have z1 : H1.size = H.size + 1 := by rw [← hH1, Array.size_push]
  have b1 : H1[H.size]? = some (arrV (K.2.2.2.1 0) (p_L σ a) (fun j => p_sl K σ a .int j)) := by rw [← hH1, Array.getElem?_push_size]
  have oq : ∀ q : Nat, q < H.size → H1[q]? = H[q]? := fun q hq => by rw [← hH1, Array.getElem?_push, if_neg (Nat.ne_of_lt hq)]
  have hP1 : p_P K (p_cl σ a) H1 := R.clone hi z1 oq b1
  have kk := k9.2 p e s m args below meth c H1 locs n0 m0 mc ms Q ls C hP1 (p_S.new S (by omega) oq) (by rw [e1]; omega) (by rw [e2]; omega) h3 h4 hl ol (p_ok2 (v := p_r _) trivial (p_okt os)) RT
  rw [List.map_cons, p_V_r (by omega), e1, e2] at kk
  obtain ⟨t, b2, b3⟩ := (W.cs (by omega) (by omega) kk : W p l e (p_rm M mc ms) s m args below meth c H1 locs (p_N σ - n0 + 1) (p_M σ - m0 + p_L σ a) Q _) ((T.setVm vm').pushCell (arrV (K.2.2.2.1 0) (p_L σ a) (fun j => p_sl K σ a .int j))) (by rw [← hH1, ← hT]; rfl) X'
  refine ⟨t, stp t ?_, b3⟩
  have hz := R.1
  rw [show T.heap.size = K.1 + (p_N σ + 1) from by rw [hT]; omega]
  exact b2
theorem g_castA {a idx : Nat} (hw : Cond.classLink M.1.cls idx "[I" ∈ sw_gw) (hd : decode M.2.1 pc = .ok (.checkcast idx, 3)) (hi : p_is σ a 100) (k9 : p_Go K l M (pc + 3) lv (p_r a :: st) σ o) : p_Go K l M pc lv (p_r a :: st) σ o := by
  refine ⟨k9.1, fun p e s m args below meth c H locs n0 m0 mc ms Q ls C R S h1 h2 h3 h4 hl ol os RT => ?_⟩
  have hts := p_hts C.2.2.2.2.2.1
  have E := C.2.2.2.2.2.2.2.2
  obtain ⟨a1, a2, a3⟩ := R.2.2 a 0 .int hi rfl
  have hnm : s.vm.findClass "[I" = some (K.2.2.2.1 0) := (E.2.1 0 _ rfl).2
  have kk := k9.2 p e s m args below meth c H locs n0 m0 mc ms Q ls C R S h1 h2 h3 h4 hl ol os RT
  rw [List.map_cons, p_V_r hi.1] at kk ⊢
  intro T hT X
  obtain ⟨vm', X', stp⟩ := X.checkcastYes C.1 C.2.2.2.2.1 (hts _ hw) (by rw [hT]; exact a1) rfl hnm (va_asg _ _) (g := F0 m pc ls (.ref (K.1 + a) :: st.map (p_V K))) rfl rfl (by rw [C.2.1]; exact hd)
  obtain ⟨t, b1, b2⟩ := kk (T.setVm vm') hT X'
  exact ⟨t, stp t b1, b2⟩
theorem g_aload_nS {n : Fin 4} {i j x : Nat} (hd : decode M.2.1 pc = .ok (.aload_n n, 1)) (hi : (n : Nat) = i) (hj : lv[j]? = some (i, p_s x)) (k9 : p_Go K l M (pc + 1) lv (p_s x :: st) σ o) : p_Go K l M pc lv st σ o :=
  ⟨k9.1, fun p e s m args below meth c H locs n0 m0 mc ms Q ls C R S h1 h2 h3 h4 hl ol os RT => lv_aload_n C.1 C.2.1 hd hi (p_at hl hj) (k9.2 p e s m args below meth c H locs n0 m0 mc ms Q ls C R S h1 h2 h3 h4 hl ol (p_ok2 (v := p_s x) trivial os) RT)⟩
theorem g_scr {n9 : Nat} {t9 : Nat → Int} {x : Int} (he1 : n9 = p_tl K 9) (he2 : t9 = p_tv K 9) (hd : decode M.2.1 pc = .ok (.iaload, 1)) (h0 : 0 ≤ x) (hx : x < (n9 : Int)) (k9 : p_Go K l M (pc + 1) lv (p_i (t9 x.toNat) :: st) σ o) : p_Go K l M pc lv (p_i x :: p_s 9 :: st) σ o := by
  subst he1
  subst he2
  exact g_tabload (Or.inr rfl) hd h0 hx k9
theorem g_scl {n9 : Nat} (he1 : n9 = p_tl K 9) (hd : decode M.2.1 pc = .ok (.arraylength, 1)) (k9 : p_Go K l M (pc + 1) lv (p_i (n9 : Int) :: st) σ o) : p_Go K l M pc lv (p_s 9 :: st) σ o := by
  subst he1
  exact g_tablen (Or.inr rfl) hd k9
end MO
end
section
/-! ===== new int[n][k] ===== -/
theorem p_outer (c : ClassId) (N h0 : Nat) : ∀ i : Nat, Jvm.Free.Multi.outerC c N h0 i = arrV c N (fun j => va_rf (if j < i then some (h0 + 1 + j) else none))
  | 0 => by
    show ({ cls := c, slots := Array.replicate N .null, vm := .none } : Cell) = _
    rw [arrV_new]
    refine congrArg (arrV c N) (funext fun j => ?_)
    simp [va_rf]
  | i + 1 => by
    show (Jvm.Free.Multi.outerC c N h0 i).setSlot i (.ref (h0 + 1 + i)) = _
    rw [p_outer c N h0 i, arrV_store]
    refine congrArg (arrV c N) (funext fun j => ?_)
    by_cases e : j = i
    · subst e
      simp [updV, va_rf]
    · by_cases h : j < i
      · simp [updV, e, h, Nat.lt_succ_of_lt h]
      · simp [updV, e, h, show ¬ j < i + 1 by omega]
theorem p_arrV_congr {c : ClassId} {N : Nat} {f g : Nat → Value} (h : ∀ j, j < N → f j = g j) : arrV c N f = arrV c N g := by
  unfold arrV
  congr 2
  funext j
  exact h j.val j.isLt
theorem p_P.new2 {K : p_K} {σ : p_Hp} {H H1 : Heap} {n k : Nat} (hP : p_P K σ H) (hn : n ≤ 1000) (hk : k ≤ 1000) (z : H1.size = H.size + 1 + n) (oq : ∀ x : Nat, x < H.size → H1[x]? = H[x]?)
    (hO : H1[H.size]? = some (arrV (K.2.2.2.1 3) n (fun j => va_rf (if j < n then some (H.size + 1 + j) else none)))) (hI : ∀ j, j < n → H1[H.size + 1 + j]? = some (arrV (K.2.2.2.1 0) k (fun _ => .int 0))) : p_P K (p_nw2 σ n k) H1 := by
  have hsz := hP.1
  have eT : ∀ b, p_T (p_nw2 σ n k) b = if b ≤ p_N σ then p_T σ b else if b = p_N σ + 1 then 103 else 100 := fun _ => rfl
  have eL : ∀ b, p_L (p_nw2 σ n k) b = if b ≤ p_N σ then p_L σ b else if b = p_N σ + 1 then n else k := fun _ => rfl
  have eZ : ∀ b j, p_Z (p_nw2 σ n k) b j = if b ≤ p_N σ then p_Z σ b j else 0 := fun _ _ => rfl
  have eR : ∀ b j, p_R (p_nw2 σ n k) b j = if b ≤ p_N σ then p_R σ b j else if b = p_N σ + 1 ∧ j < n then p_N σ + 2 + j else 0 := fun _ _ => rfl
  have eN : p_N (p_nw2 σ n k) = p_N σ + 1 + n := rfl
  refine ⟨by rw [z, eN]; omega, fun b cj r hb hr => ?_, fun b i ty hb hty => ?_⟩
  · have hcj := p_cl_lt hr
    have hbn : b ≤ p_N σ := by
      rcases Nat.lt_or_ge (p_N σ) b with w | w
      · have h3 := hb.2.2
        rw [eT, if_neg (by omega)] at h3
        split at h3 <;> omega
      · exact w
    have hb' : p_is σ b cj := ⟨hb.1, hbn, by have h3 := hb.2.2; rw [eT, if_pos hbn] at h3; exact h3⟩
    obtain ⟨g1, g2⟩ := hP.2.1 b cj r hb' hr
    have h9 : ∀ j, p_Z (p_nw2 σ n k) b j = p_Z σ b j ∧ p_R (p_nw2 σ n k) b j = p_R σ b j := fun j => ⟨by rw [eZ, if_pos hbn], by rw [eR, if_pos hbn]⟩
    refine ⟨(g1.kept (oq _ (by omega))).to (fun j hj => (p_sl_eq (h9 j).1 (h9 j).2 _).symm), fun j hj => ?_⟩
    rw [(h9 j).1]
    exact g2 j hj
  · by_cases hbn : b ≤ p_N σ
    · have hb' : p_is σ b (100 + i) := ⟨hb.1, hbn, by have h3 := hb.2.2; rw [eT, if_pos hbn] at h3; exact h3⟩
      obtain ⟨g1, g2, g3⟩ := hP.2.2 b i ty hb' hty
      have h9 : ∀ j, p_Z (p_nw2 σ n k) b j = p_Z σ b j ∧ p_R (p_nw2 σ n k) b j = p_R σ b j := fun j => ⟨by rw [eZ, if_pos hbn], by rw [eR, if_pos hbn]⟩
      rw [eL, if_pos hbn]
      refine ⟨?_, fun j hj => ?_, g3⟩
      · rw [oq _ (by omega), g1]
        congr 2
        funext j
        exact (p_sl_eq (h9 j).1 (h9 j).2 _).symm
      · rw [(h9 j).1]
        exact g2 j hj
    · have h2 := hb.2.1
      rw [eN] at h2
      have h3 := hb.2.2
      rw [eT, if_neg hbn] at h3
      rw [eL, if_neg hbn]
      by_cases hb1 : b = p_N σ + 1
      · rw [if_pos hb1] at h3 ⊢
        have e : i = 3 := by omega
        subst e
        cases hty
        refine ⟨?_, fun j hj => trivial, by omega⟩
        rw [show K.1 + b = H.size from by omega, hO]
        refine congrArg some (p_arrV_congr fun j hj => ?_)
        show va_rf _ = va_rf (p_rO K.1 (p_R (p_nw2 σ n k) b j))
        rw [eR, if_neg hbn, if_pos hj, if_pos ⟨hb1, hj⟩]
        unfold p_rO
        rw [if_neg (by omega), show H.size + 1 + j = K.1 + (p_N σ + 2 + j) from by omega]
      · rw [if_neg hb1] at h3 ⊢
        have e : i = 0 := by omega
        subst e
        cases hty
        refine ⟨?_, fun j hj => ?_, by omega⟩
        · obtain ⟨j0, hj0⟩ : ∃ j0, b = p_N σ + 2 + j0 := ⟨b - (p_N σ + 2), by omega⟩
          rw [show K.1 + b = H.size + 1 + j0 from by omega, hI j0 (by omega)]
          refine congrArg some (p_arrV_congr fun j hj => ?_)
          show Value.int 0 = Value.int (Int32.ofInt (p_Z (p_nw2 σ n k) b j))
          rw [eZ, if_neg hbn]
          rfl
        · show p_c (p_Z (p_nw2 σ n k) b j)
          rw [eZ, if_neg hbn]
          decide
theorem p_x_nw2 (σ : p_Hp) (n k : Nat) : p_x σ (p_nw2 σ n k) := ⟨by show σ.1 ≤ σ.1 + 1 + n; omega, by show σ.2.1 ≤ σ.2.1 + n + n * k; exact Nat.le_trans (Nat.le_add_right _ _) (Nat.le_add_right _ _), fun a ha => ⟨if_pos ha, if_pos ha⟩⟩
section MU
variable {K : p_K} {l : Launch} {M : p_Me} {pc : Nat} {lv : List (Nat × p_AV)} {st : List p_AV} {σ : p_Hp} {o : Option p_AV × p_Hp}
theorem g_multi {idx : Nat} {x y : Int} (hw : Cond.classLink M.1.cls idx ("[" ++ (FieldType.array .int).toString) ∈ sw_gw) (hw2 : Cond.arrayClass .int ∈ sw_gw) (hd : decode M.2.1 pc = .ok (.multianewarray idx 2, 4)) (hx0 : 0 ≤ x) (hx1 : x ≤ 1000) (hy0 : 0 ≤ y) (hy1 : y ≤ 1000) (k9 : p_Go K l M (pc + 4) lv (p_r (p_N σ + 1) :: st) (p_nw2 σ x.toNat y.toNat) o) : p_Go K l M pc lv (p_i y :: p_i x :: st) σ o := by
  have e1 : p_N (p_nw2 σ x.toNat y.toNat) = p_N σ + 1 + x.toNat := rfl
  have e2 : p_M (p_nw2 σ x.toNat y.toNat) = p_M σ + x.toNat + x.toNat * y.toNat := rfl
  have kn : p_N σ + 1 + x.toNat ≤ p_N o.2 ∧ p_M σ + x.toNat + x.toNat * y.toNat ≤ p_M o.2 := ⟨k9.1.1, k9.1.2.1⟩
  generalize hxy : x.toNat * y.toNat = xy at kn e2
  refine ⟨(p_x_nw2 _ _ _).trans k9.1, fun p e s m args below meth c H locs n0 m0 mc ms Q ls C R S h1 h2 h3 h4 hl ol os RT => ?_⟩
  have hts := p_hts C.2.2.2.2.2.1
  have E := C.2.2.2.2.2.2.2.2
  have ex := p_nat (n := 1001) hx0 (by omega) (by omega)
  have ey := p_nat (n := 1001) hy0 (by omega) (by omega)
  have cx : p_c x := ⟨by omega, by omega⟩
  have cy : p_c y := ⟨by omega, by omega⟩
  intro T hT Xs
  obtain ⟨vm₁, cA, comp, -, fA, fC, hO, -, X', step⟩ := Xs.multianewarray2F (ty := .int) C.1 C.2.2.2.2.1 (hts _ hw) (over_moved (Vm.Alike.refl _) E.2.2.2.2.2.1) (hts _ hw2) (g := F0 m pc ls (.int (Int32.ofInt y) :: .int (Int32.ofInt x) :: st.map (p_V K))) rfl (by rw [C.2.1]; exact hd) rfl (by rw [p_lt0 cx]; omega) (by rw [p_lt0 cy]; omega) (by rw [ex]; omega) (by rw [ey]; show y.toNat * 4 ≤ _; omega) (by rw [ey]; omega) rfl rfl (by rw [ex]; show p_N σ - n0 + (1 + x.toNat) ≤ mc; omega) (by rw [ex, ey, hxy]; show p_M σ - m0 + (x.toNat + xy) ≤ ms; omega)
  rw [ex, ey] at X' step
  have hcA : cA = K.2.2.2.1 3 := Option.some.inj (fA.symm.trans ((E.2.1 3 _ rfl).2 : s.vm.findClass ("[" ++ (FieldType.array .int).toString) = some (K.2.2.2.1 3)))
  have hcC : comp = K.2.2.2.1 0 := Option.some.inj (fC.symm.trans ((E.2.1 0 _ rfl).2 : s.vm.findClass ("[" ++ FieldType.int.toString) = some (K.2.2.2.1 0)))
  subst hcA
  subst hcC
  generalize hF : Jvm.Free.Multi.fill (T.setVm vm₁) (K.2.2.2.1 3) (K.2.2.2.1 0) x.toNat y.toNat (defaultValue .int) x.toNat = F at X' step
  have hTh : (T.setVm vm₁).heap = H := hT
  obtain ⟨f1, f2, -, -⟩ := Jvm.Free.Multi.fill_facts (T.setVm vm₁) (K.2.2.2.1 3) (K.2.2.2.1 0) x.toNat y.toNat (defaultValue .int) x.toNat
  rw [hF, hTh] at f1 f2
  have hold : ∀ z : Nat, z < H.size → F.heap[z]? = H[z]? := fun z hz => by
    have := Jvm.Free.Multi.fill_old (T.setVm vm₁) (K.2.2.2.1 3) (K.2.2.2.1 0) x.toNat y.toNat (defaultValue .int) (a := z) (by rw [hTh]; exact hz) x.toNat
    rw [hF, hTh] at this
    exact this
  have hrow : ∀ j : Nat, j < x.toNat → F.heap[H.size + 1 + j]? = some (arrV (K.2.2.2.1 0) y.toNat (fun _ => .int 0)) := fun j hj => by
    have := Jvm.Free.Multi.fill_inner (T.setVm vm₁) (K.2.2.2.1 3) (K.2.2.2.1 0) x.toNat y.toNat (defaultValue .int) x.toNat j hj
    rw [hF, hTh] at this
    rw [this]
    exact congrArg some (arrV_new _ _ _)
  rw [p_outer] at f2
  have hP1 : p_P K (p_nw2 σ x.toNat y.toNat) F.heap := R.new2 (by omega) (by omega) f1 hold f2 hrow
  have kk := k9.2 p e s m args below meth c F.heap locs n0 m0 mc ms Q ls C hP1 (p_S.new S (by omega) hold) (by rw [e1]; omega) (by rw [e2]; omega) h3 h4 hl ol (p_ok2 (v := p_r _) trivial (p_okt (p_okt os))) RT
  rw [List.map_cons, p_V_r (by omega), e1, e2] at kk
  obtain ⟨t, a1, b1⟩ := (W.cs (by omega) (by rw [hxy]; omega) kk : W p l e (p_rm M mc ms) s m args below meth c F.heap locs (p_N σ - n0 + 1 + x.toNat) (p_M σ - m0 + x.toNat + x.toNat * y.toNat) Q _) F rfl X'
  refine ⟨t, step t ?_, b1⟩
  have hz := R.1
  rw [show T.heap.size = K.1 + (p_N σ + 1) from by rw [hT]; omega]
  exact a1
end MU
end
section
/-! ===== how the pure functions are written ===== -/
def p_gd {β : Type} (c : Prop) [Decidable c] (x : Option β) : Option β := if c then x else none
def p_bi {α β : Type} (e : α) (k : α → β) : β := k e
def p_bd {α β : Type} (x : Option (α × p_Hp)) (k : α → p_Hp → Option β) : Option β := match x with
  | none => none
  | some q => k q.1 q.2
def p_bv {β : Type} (x : Option p_Hp) (k : p_Hp → Option β) : Option β := match x with
  | none => none
  | some q => k q
theorem p_gdE {β : Type} {c : Prop} [Decidable c] {x : Option β} {r : β} (h : p_gd c x = some r) : c ∧ x = some r := by
  unfold p_gd at h
  by_cases hc : c
  · rw [if_pos hc] at h; exact ⟨hc, h⟩
  · rw [if_neg hc] at h; cases h
theorem p_bdE {α β : Type} {x : Option (α × p_Hp)} {k : α → p_Hp → Option β} {r : β} (h : p_bd x k = some r) : ∃ a s, x = some (a, s) ∧ k a s = some r := by
  cases x with
  | none => cases h
  | some q => exact ⟨q.1, q.2, rfl, h⟩
theorem p_bvE {β : Type} {x : Option p_Hp} {k : p_Hp → Option β} {r : β} (h : p_bv x k = some r) : ∃ s, x = some s ∧ k s = some r := by
  cases x with
  | none => cases h
  | some q => exact ⟨q, rfl, h⟩
theorem p_ifT {β : Type} {c : Prop} [Decidable c] {x y : Option β} {r : β} (hc : c) (h : (if c then x else y) = some r) : x = some r := by rw [if_pos hc] at h; exact h
theorem p_ifF {β : Type} {c : Prop} [Decidable c] {x y : Option β} {r : β} (hc : ¬ c) (h : (if c then x else y) = some r) : y = some r := by rw [if_neg hc] at h; exact h
theorem p_iteE {β : Type} {c : Prop} [Decidable c] {x y : Option β} {r : β} (h : (if c then x else y) = some r) : (c ∧ x = some r) ∨ (¬ c ∧ y = some r) := by
  by_cases hc : c
  · exact Or.inl ⟨hc, p_ifT hc h⟩
  · exact Or.inr ⟨hc, p_ifF hc h⟩
theorem p_ltG {α β : Type} {e : α} {k : α → Option β} {r : β} {P : α → Prop} (hk : ∀ x, k x = some r → P x) (h : p_bi e k = some r) : P e := hk e h
theorem p_ltS {β : Type} {σ σ' : p_Hp} {k : p_Hp → Option β} {r : β} {P : p_Hp → Prop} (hx : p_x σ σ') (hk : ∀ x, p_x σ x → k x = some r → P x) (h : p_bi σ' k = some r) : P σ' := hk σ' hx h
theorem p_xZ (σ : p_Hp) (a k : Nat) (x : Int) : p_x σ (p_wZ σ a k x) := ⟨Nat.le_refl _, Nat.le_refl _, fun _ _ => ⟨rfl, rfl⟩⟩
theorem p_xR (σ : p_Hp) (a k : Nat) (x : Nat) : p_x σ (p_wR σ a k x) := ⟨Nat.le_refl _, Nat.le_refl _, fun _ _ => ⟨rfl, rfl⟩⟩
theorem p_xC (σ : p_Hp) (a b c d e : Nat) : p_x σ (p_cp σ a b c d e) := ⟨Nat.le_refl _, Nat.le_refl _, fun _ _ => ⟨rfl, rfl⟩⟩
theorem p_dk {b : ByteArray} {t : List (Nat × Instr × Nat)} (h : t.all (fun q => decide (decode b q.1 = .ok (q.2.1, q.2.2))) = true) (i : Nat) {pc : Nat} {ins : Instr} {len : Nat} (hq : t[i]? = some (pc, ins, len)) : decode b pc = .ok (ins, len) := by
  have h1 := List.all_eq_true.mp h (pc, ins, len) (List.mem_of_getElem? hq)
  exact of_decide_eq_true h1
theorem p_mem {w : Cond} (h : w ∈ tables_1) (hg : goodWord w = true) : w ∈ sw_gw := List.mem_filter.mpr ⟨List.mem_append_right _ h, hg⟩
theorem p_mes {w : Cond} (h : w ∈ k2_sels lw_privs) (hg : goodWord w = true) : w ∈ sw_gw := List.mem_filter.mpr ⟨List.mem_append_left _ h, hg⟩
theorem p_tb1 {w : Cond} (h : w ∈ tables_1_1) : w ∈ tables_1 := (List.mem_append_left _ h)
theorem p_tb2 {w : Cond} (h : w ∈ tables_1_2) : w ∈ tables_1 := (List.mem_append_right _ (List.mem_append_left _ h))
theorem p_tb3 {w : Cond} (h : w ∈ tables_1_3) : w ∈ tables_1 := (List.mem_append_right _ (List.mem_append_right _ (List.mem_append_left _ h)))
theorem p_tb4 {w : Cond} (h : w ∈ tables_1_4) : w ∈ tables_1 := (List.mem_append_right _ (List.mem_append_right _ (List.mem_append_right _ (List.mem_append_left _ h))))
theorem p_tb5 {w : Cond} (h : w ∈ tables_1_5) : w ∈ tables_1 := (List.mem_append_right _ (List.mem_append_right _ (List.mem_append_right _ (List.mem_append_right _ (List.mem_append_left _ h)))))
theorem p_tb6 {w : Cond} (h : w ∈ tables_1_6) : w ∈ tables_1 := (List.mem_append_right _ (List.mem_append_right _ (List.mem_append_right _ (List.mem_append_right _ (List.mem_append_right _ (List.mem_append_left _ h))))))
theorem p_tb7 {w : Cond} (h : w ∈ tables_1_7) : w ∈ tables_1 := (List.mem_append_right _ (List.mem_append_right _ (List.mem_append_right _ (List.mem_append_right _ (List.mem_append_right _ (List.mem_append_right _ (List.mem_append_left _ h)))))))
theorem p_tb8 {w : Cond} (h : w ∈ tables_1_8) : w ∈ tables_1 := (List.mem_append_right _ (List.mem_append_right _ (List.mem_append_right _ (List.mem_append_right _ (List.mem_append_right _ (List.mem_append_right _ (List.mem_append_right _ (List.mem_append_left _ h))))))))
theorem p_tb9 {w : Cond} (h : w ∈ tables_1_9) : w ∈ tables_1 := (List.mem_append_right _ (List.mem_append_right _ (List.mem_append_right _ (List.mem_append_right _ (List.mem_append_right _ (List.mem_append_right _ (List.mem_append_right _ (List.mem_append_right _ h))))))))
end
section
theorem tw_1_1 : Cond.initialized "SortWorks" ∈ sw_gw := p_mem (p_tb1 (List.mem_of_getElem? (i := 1) (by decide +kernel))) (by decide +kernel)
theorem tw_1_2 : Cond.initialized "SortWorks$Works" ∈ sw_gw := p_mem (p_tb1 (List.mem_of_getElem? (i := 2) (by decide +kernel))) (by decide +kernel)
theorem tw_1_3 : Cond.initialized "SortWorks$State" ∈ sw_gw := p_mem (p_tb1 (List.mem_of_getElem? (i := 3) (by decide +kernel))) (by decide +kernel)
theorem tw_1_4 : Cond.initialized "SortWorks$Log" ∈ sw_gw := p_mem (p_tb1 (List.mem_of_getElem? (i := 4) (by decide +kernel))) (by decide +kernel)
theorem tw_1_5 : Cond.initialized "SortWorks$Gear" ∈ sw_gw := p_mem (p_tb1 (List.mem_of_getElem? (i := 5) (by decide +kernel))) (by decide +kernel)
theorem tw_1_6 : Cond.initialized "SortWorks$Parcel" ∈ sw_gw := p_mem (p_tb1 (List.mem_of_getElem? (i := 6) (by decide +kernel))) (by decide +kernel)
theorem tw_1_7 : Cond.initialized "SortWorks$Rules" ∈ sw_gw := p_mem (p_tb1 (List.mem_of_getElem? (i := 7) (by decide +kernel))) (by decide +kernel)
theorem tw_1_8 : Cond.initialized "SortWorks$Numbers" ∈ sw_gw := p_mem (p_tb1 (List.mem_of_getElem? (i := 8) (by decide +kernel))) (by decide +kernel)
theorem tw_1_9 : Cond.initialized "SortWorks$Step" ∈ sw_gw := p_mem (p_tb1 (List.mem_of_getElem? (i := 9) (by decide +kernel))) (by decide +kernel)
theorem tw_1_10 : Cond.initialized "SortWorks$Reading" ∈ sw_gw := p_mem (p_tb1 (List.mem_of_getElem? (i := 10) (by decide +kernel))) (by decide +kernel)
theorem tw_1_11 : Cond.initialized "SortWorks$Judge" ∈ sw_gw := p_mem (p_tb1 (List.mem_of_getElem? (i := 11) (by decide +kernel))) (by decide +kernel)
theorem tw_1_12 : Cond.initialized "SortWorksModel" ∈ sw_gw := p_mem (p_tb1 (List.mem_of_getElem? (i := 12) (by decide +kernel))) (by decide +kernel)
theorem tw_1_13 : Cond.initialized "java/util/Arrays" ∈ sw_gw := p_mem (p_tb1 (List.mem_of_getElem? (i := 13) (by decide +kernel))) (by decide +kernel)
theorem tw_1_14 : Cond.initialized "java/lang/Math" ∈ sw_gw := p_mem (p_tb1 (List.mem_of_getElem? (i := 14) (by decide +kernel))) (by decide +kernel)
theorem tw_1_15 : Cond.initialized "java/lang/System" ∈ sw_gw := p_mem (p_tb1 (List.mem_of_getElem? (i := 15) (by decide +kernel))) (by decide +kernel)
theorem tw_1_16 : Cond.initialized "java/lang/Integer" ∈ sw_gw := p_mem (p_tb1 (List.mem_of_getElem? (i := 16) (by decide +kernel))) (by decide +kernel)
theorem tw_1_17 : Cond.classLink "SortWorksLaw" 7 "SortWorks" ∈ sw_gw := p_mem (p_tb1 (List.mem_of_getElem? (i := 17) (by decide +kernel))) (by decide +kernel)
theorem tw_1_18 : Cond.instantiable "SortWorks" 9 ∈ sw_gw := p_mem (p_tb1 (List.mem_of_getElem? (i := 18) (by decide +kernel))) (by decide +kernel)
theorem tw_1_19 : Cond.methodLink "SortWorksLaw" 9 ⟨"SortWorks", "<init>", "()V"⟩ ∈ sw_gw := p_mem (p_tb1 (List.mem_of_getElem? (i := 19) (by decide +kernel))) (by decide +kernel)
theorem tw_1_20 : Cond.instanceMethod ⟨"SortWorks", "<init>", "()V"⟩ ∈ sw_gw := p_mem (p_tb1 (List.mem_of_getElem? (i := 20) (by decide +kernel))) (by decide +kernel)
theorem tw_1_22 : Cond.methodLink "SortWorks" 1 ⟨"java/lang/Object", "<init>", "()V"⟩ ∈ sw_gw := p_mem (p_tb1 (List.mem_of_getElem? (i := 22) (by decide +kernel))) (by decide +kernel)
theorem tw_1_23 : Cond.instanceMethod ⟨"java/lang/Object", "<init>", "()V"⟩ ∈ sw_gw := p_mem (p_tb1 (List.mem_of_getElem? (i := 23) (by decide +kernel))) (by decide +kernel)
theorem tw_1_25 : Cond.classLink "SortWorks" 7 "SortWorks$Works" ∈ sw_gw := p_mem (p_tb1 (List.mem_of_getElem? (i := 25) (by decide +kernel))) (by decide +kernel)
theorem tw_1_27 : Cond.instantiable "SortWorks$Works" 16 ∈ sw_gw := p_mem (p_tb1 (List.mem_of_getElem? (i := 27) (by decide +kernel))) (by decide +kernel)
theorem tw_1_28 : Cond.methodLink "SortWorks" 9 ⟨"SortWorks$Works", "<init>", "(I)V"⟩ ∈ sw_gw := p_mem (p_tb1 (List.mem_of_getElem? (i := 28) (by decide +kernel))) (by decide +kernel)
theorem tw_1_29 : Cond.instanceMethod ⟨"SortWorks$Works", "<init>", "(I)V"⟩ ∈ sw_gw := p_mem (p_tb1 (List.mem_of_getElem? (i := 29) (by decide +kernel))) (by decide +kernel)
theorem tw_1_31 : Cond.methodLink "SortWorks$Works" 3 ⟨"java/lang/Object", "<init>", "()V"⟩ ∈ sw_gw := p_mem (p_tb1 (List.mem_of_getElem? (i := 31) (by decide +kernel))) (by decide +kernel)
theorem tw_1_32 : Cond.classLink "SortWorks$Works" 9 "SortWorks$State" ∈ sw_gw := p_mem (p_tb1 (List.mem_of_getElem? (i := 32) (by decide +kernel))) (by decide +kernel)
theorem tw_1_33 : Cond.instantiable "SortWorks$State" 9 ∈ sw_gw := p_mem (p_tb1 (List.mem_of_getElem? (i := 33) (by decide +kernel))) (by decide +kernel)
theorem tw_1_34 : Cond.methodLink "SortWorks$Works" 11 ⟨"SortWorks$State", "<init>", "()V"⟩ ∈ sw_gw := p_mem (p_tb1 (List.mem_of_getElem? (i := 34) (by decide +kernel))) (by decide +kernel)
theorem tw_1_35 : Cond.instanceMethod ⟨"SortWorks$State", "<init>", "()V"⟩ ∈ sw_gw := p_mem (p_tb1 (List.mem_of_getElem? (i := 35) (by decide +kernel))) (by decide +kernel)
theorem tw_1_37 : Cond.methodLink "SortWorks$State" 3 ⟨"java/lang/Object", "<init>", "()V"⟩ ∈ sw_gw := p_mem (p_tb1 (List.mem_of_getElem? (i := 37) (by decide +kernel))) (by decide +kernel)
theorem tw_1_38 : Cond.classLink "SortWorks$State" 9 "SortWorks$Gear" ∈ sw_gw := p_mem (p_tb1 (List.mem_of_getElem? (i := 38) (by decide +kernel))) (by decide +kernel)
theorem tw_1_40 : Cond.classLink "SortWorks$State" 17 "SortWorks$Parcel" ∈ sw_gw := p_mem (p_tb1 (List.mem_of_getElem? (i := 40) (by decide +kernel))) (by decide +kernel)
theorem tw_1_42 : Cond.classLink "SortWorks$State" 27 "SortWorks$Log" ∈ sw_gw := p_mem (p_tb1 (List.mem_of_getElem? (i := 42) (by decide +kernel))) (by decide +kernel)
theorem tw_1_43 : Cond.instantiable "SortWorks$Log" 4 ∈ sw_gw := p_mem (p_tb1 (List.mem_of_getElem? (i := 43) (by decide +kernel))) (by decide +kernel)
theorem tw_1_44 : Cond.methodLink "SortWorks$State" 29 ⟨"SortWorks$Log", "<init>", "(II)V"⟩ ∈ sw_gw := p_mem (p_tb1 (List.mem_of_getElem? (i := 44) (by decide +kernel))) (by decide +kernel)
theorem tw_1_45 : Cond.instanceMethod ⟨"SortWorks$Log", "<init>", "(II)V"⟩ ∈ sw_gw := p_mem (p_tb1 (List.mem_of_getElem? (i := 45) (by decide +kernel))) (by decide +kernel)
theorem tw_1_47 : Cond.methodLink "SortWorks$Log" 3 ⟨"java/lang/Object", "<init>", "()V"⟩ ∈ sw_gw := p_mem (p_tb1 (List.mem_of_getElem? (i := 47) (by decide +kernel))) (by decide +kernel)
theorem tw_1_48 : Cond.fieldLink "SortWorks$Log" 9 "SortWorks$Log" "most" "I" ∈ sw_gw := p_mem (p_tb1 (List.mem_of_getElem? (i := 48) (by decide +kernel))) (by decide +kernel)
theorem tw_1_49 : Cond.fieldLink "SortWorks$Log" 15 "SortWorks$Log" "width" "I" ∈ sw_gw := p_mem (p_tb1 (List.mem_of_getElem? (i := 49) (by decide +kernel))) (by decide +kernel)
theorem tw_1_50 : Cond.fieldLink "SortWorks$Log" 18 "SortWorks$Log" "rows" "[I" ∈ sw_gw := p_mem (p_tb1 (List.mem_of_getElem? (i := 50) (by decide +kernel))) (by decide +kernel)
theorem tw_1_51 : Cond.fieldLink "SortWorks$Log" 22 "SortWorks$Log" "count" "I" ∈ sw_gw := p_mem (p_tb1 (List.mem_of_getElem? (i := 51) (by decide +kernel))) (by decide +kernel)
theorem tw_1_52 : Cond.fieldLink "SortWorks$Step" 39 "SortWorks$Log" "count" "I" ∈ sw_gw := p_mem (p_tb1 (List.mem_of_getElem? (i := 52) (by decide +kernel))) (by decide +kernel)
theorem tw_1_53 : Cond.fieldLink "SortWorks" 362 "SortWorks$Log" "count" "I" ∈ sw_gw := p_mem (p_tb1 (List.mem_of_getElem? (i := 53) (by decide +kernel))) (by decide +kernel)
theorem tw_1_63 : Cond.arrayClass .int ∈ sw_gw := p_mem (p_tb1 (List.mem_of_getElem? (i := 63) (by decide +kernel))) (by decide +kernel)
theorem tw_1_64 : Cond.instantiable "SortWorks$Gear" 19 ∈ sw_gw := p_mem (p_tb1 (List.mem_of_getElem? (i := 64) (by decide +kernel))) (by decide +kernel)
theorem tw_1_66 : Cond.instanceMethod ⟨"SortWorks$Gear", "<init>", "()V"⟩ ∈ sw_gw := p_mem (p_tb1 (List.mem_of_getElem? (i := 66) (by decide +kernel))) (by decide +kernel)
theorem tw_1_68 : Cond.methodLink "SortWorks$Gear" 3 ⟨"java/lang/Object", "<init>", "()V"⟩ ∈ sw_gw := p_mem (p_tb1 (List.mem_of_getElem? (i := 68) (by decide +kernel))) (by decide +kernel)
theorem tw_1_69 : Cond.fieldLink "SortWorks$Gear" 22 "SortWorks$Gear" "kind" "I" ∈ sw_gw := p_mem (p_tb1 (List.mem_of_getElem? (i := 69) (by decide +kernel))) (by decide +kernel)
theorem tw_1_70 : Cond.fieldLink "SortWorks$Step" 97 "SortWorks$Gear" "kind" "I" ∈ sw_gw := p_mem (p_tb1 (List.mem_of_getElem? (i := 70) (by decide +kernel))) (by decide +kernel)
theorem tw_1_71 : Cond.fieldLink "SortWorks$Works" 119 "SortWorks$Gear" "kind" "I" ∈ sw_gw := p_mem (p_tb1 (List.mem_of_getElem? (i := 71) (by decide +kernel))) (by decide +kernel)
theorem tw_1_72 : Cond.fieldLink "SortWorks" 136 "SortWorks$Gear" "kind" "I" ∈ sw_gw := p_mem (p_tb1 (List.mem_of_getElem? (i := 72) (by decide +kernel))) (by decide +kernel)
theorem tw_1_73 : Cond.fieldLink "SortWorks$Gear" 73 "SortWorks$Gear" "length" "I" ∈ sw_gw := p_mem (p_tb1 (List.mem_of_getElem? (i := 73) (by decide +kernel))) (by decide +kernel)
theorem tw_1_74 : Cond.fieldLink "SortWorks$State" 78 "SortWorks$Gear" "length" "I" ∈ sw_gw := p_mem (p_tb1 (List.mem_of_getElem? (i := 74) (by decide +kernel))) (by decide +kernel)
theorem tw_1_75 : Cond.fieldLink "SortWorks" 92 "SortWorks$Gear" "length" "I" ∈ sw_gw := p_mem (p_tb1 (List.mem_of_getElem? (i := 75) (by decide +kernel))) (by decide +kernel)
theorem tw_1_76 : Cond.fieldLink "SortWorks$Works" 148 "SortWorks$Gear" "length" "I" ∈ sw_gw := p_mem (p_tb1 (List.mem_of_getElem? (i := 76) (by decide +kernel))) (by decide +kernel)
theorem tw_1_77 : Cond.fieldLink "SortWorks$Step" 231 "SortWorks$Gear" "length" "I" ∈ sw_gw := p_mem (p_tb1 (List.mem_of_getElem? (i := 77) (by decide +kernel))) (by decide +kernel)
theorem tw_1_78 : Cond.fieldLink "SortWorks$Gear" 28 "SortWorks$Gear" "rank" "I" ∈ sw_gw := p_mem (p_tb1 (List.mem_of_getElem? (i := 78) (by decide +kernel))) (by decide +kernel)
theorem tw_1_79 : Cond.fieldLink "SortWorks" 129 "SortWorks$Gear" "rank" "I" ∈ sw_gw := p_mem (p_tb1 (List.mem_of_getElem? (i := 79) (by decide +kernel))) (by decide +kernel)
theorem tw_1_80 : Cond.fieldLink "SortWorks$Step" 188 "SortWorks$Gear" "rank" "I" ∈ sw_gw := p_mem (p_tb1 (List.mem_of_getElem? (i := 80) (by decide +kernel))) (by decide +kernel)
theorem tw_1_81 : Cond.fieldLink "SortWorks$Gear" 76 "SortWorks$Gear" "links" "[I" ∈ sw_gw := p_mem (p_tb1 (List.mem_of_getElem? (i := 81) (by decide +kernel))) (by decide +kernel)
theorem tw_1_82 : Cond.fieldLink "SortWorks" 102 "SortWorks$Gear" "links" "[I" ∈ sw_gw := p_mem (p_tb1 (List.mem_of_getElem? (i := 82) (by decide +kernel))) (by decide +kernel)
theorem tw_1_83 : Cond.fieldLink "SortWorks$Works" 126 "SortWorks$Gear" "links" "[I" ∈ sw_gw := p_mem (p_tb1 (List.mem_of_getElem? (i := 83) (by decide +kernel))) (by decide +kernel)
theorem tw_1_84 : Cond.fieldLink "SortWorks$Step" 247 "SortWorks$Gear" "links" "[I" ∈ sw_gw := p_mem (p_tb1 (List.mem_of_getElem? (i := 84) (by decide +kernel))) (by decide +kernel)
theorem tw_1_85 : Cond.fieldLink "SortWorks$Gear" 31 "SortWorks$Gear" "setOne" "J" ∈ sw_gw := p_mem (p_tb1 (List.mem_of_getElem? (i := 85) (by decide +kernel))) (by decide +kernel)
theorem tw_1_86 : Cond.fieldLink "SortWorks$Gear" 35 "SortWorks$Gear" "setTwo" "J" ∈ sw_gw := p_mem (p_tb1 (List.mem_of_getElem? (i := 86) (by decide +kernel))) (by decide +kernel)
theorem tw_1_87 : Cond.fieldLink "SortWorks$Gear" 38 "SortWorks$Gear" "side" "I" ∈ sw_gw := p_mem (p_tb1 (List.mem_of_getElem? (i := 87) (by decide +kernel))) (by decide +kernel)
theorem tw_1_88 : Cond.fieldLink "SortWorks$Step" 155 "SortWorks$Gear" "side" "I" ∈ sw_gw := p_mem (p_tb1 (List.mem_of_getElem? (i := 88) (by decide +kernel))) (by decide +kernel)
theorem tw_1_89 : Cond.fieldLink "SortWorks" 218 "SortWorks$Gear" "side" "I" ∈ sw_gw := p_mem (p_tb1 (List.mem_of_getElem? (i := 89) (by decide +kernel))) (by decide +kernel)
theorem tw_1_90 : Cond.fieldLink "SortWorks$Gear" 41 "SortWorks$Gear" "open" "Z" ∈ sw_gw := p_mem (p_tb1 (List.mem_of_getElem? (i := 90) (by decide +kernel))) (by decide +kernel)
theorem tw_1_91 : Cond.fieldLink "SortWorks$Step" 145 "SortWorks$Gear" "open" "Z" ∈ sw_gw := p_mem (p_tb1 (List.mem_of_getElem? (i := 91) (by decide +kernel))) (by decide +kernel)
theorem tw_1_92 : Cond.fieldLink "SortWorks" 214 "SortWorks$Gear" "open" "Z" ∈ sw_gw := p_mem (p_tb1 (List.mem_of_getElem? (i := 92) (by decide +kernel))) (by decide +kernel)
theorem tw_1_93 : Cond.fieldLink "SortWorks$Gear" 45 "SortWorks$Gear" "wait" "I" ∈ sw_gw := p_mem (p_tb1 (List.mem_of_getElem? (i := 93) (by decide +kernel))) (by decide +kernel)
theorem tw_1_94 : Cond.fieldLink "SortWorks$Step" 228 "SortWorks$Gear" "wait" "I" ∈ sw_gw := p_mem (p_tb1 (List.mem_of_getElem? (i := 94) (by decide +kernel))) (by decide +kernel)
theorem tw_1_95 : Cond.fieldLink "SortWorks" 241 "SortWorks$Gear" "wait" "I" ∈ sw_gw := p_mem (p_tb1 (List.mem_of_getElem? (i := 95) (by decide +kernel))) (by decide +kernel)
theorem tw_1_96 : Cond.fieldLink "SortWorks$Gear" 48 "SortWorks$Gear" "lamp" "I" ∈ sw_gw := p_mem (p_tb1 (List.mem_of_getElem? (i := 96) (by decide +kernel))) (by decide +kernel)
theorem tw_1_97 : Cond.fieldLink "SortWorks$Step" 225 "SortWorks$Gear" "lamp" "I" ∈ sw_gw := p_mem (p_tb1 (List.mem_of_getElem? (i := 97) (by decide +kernel))) (by decide +kernel)
theorem tw_1_98 : Cond.fieldLink "SortWorks$Gear" 51 "SortWorks$Gear" "came" "I" ∈ sw_gw := p_mem (p_tb1 (List.mem_of_getElem? (i := 98) (by decide +kernel))) (by decide +kernel)
theorem tw_1_99 : Cond.fieldLink "SortWorks$State" 118 "SortWorks$Gear" "came" "I" ∈ sw_gw := p_mem (p_tb1 (List.mem_of_getElem? (i := 99) (by decide +kernel))) (by decide +kernel)
theorem tw_1_100 : Cond.fieldLink "SortWorks$Step" 342 "SortWorks$Gear" "came" "I" ∈ sw_gw := p_mem (p_tb1 (List.mem_of_getElem? (i := 100) (by decide +kernel))) (by decide +kernel)
theorem tw_1_101 : Cond.fieldLink "SortWorks" 264 "SortWorks$Gear" "came" "I" ∈ sw_gw := p_mem (p_tb1 (List.mem_of_getElem? (i := 101) (by decide +kernel))) (by decide +kernel)
theorem tw_1_102 : Cond.fieldLink "SortWorks$Gear" 54 "SortWorks$Gear" "went" "I" ∈ sw_gw := p_mem (p_tb1 (List.mem_of_getElem? (i := 102) (by decide +kernel))) (by decide +kernel)
theorem tw_1_103 : Cond.fieldLink "SortWorks$State" 112 "SortWorks$Gear" "went" "I" ∈ sw_gw := p_mem (p_tb1 (List.mem_of_getElem? (i := 103) (by decide +kernel))) (by decide +kernel)
theorem tw_1_104 : Cond.fieldLink "SortWorks$Step" 345 "SortWorks$Gear" "went" "I" ∈ sw_gw := p_mem (p_tb1 (List.mem_of_getElem? (i := 104) (by decide +kernel))) (by decide +kernel)
theorem tw_1_105 : Cond.fieldLink "SortWorks" 267 "SortWorks$Gear" "went" "I" ∈ sw_gw := p_mem (p_tb1 (List.mem_of_getElem? (i := 105) (by decide +kernel))) (by decide +kernel)
theorem tw_1_106 : Cond.fieldLink "SortWorks$Gear" 57 "SortWorks$Gear" "findings" "I" ∈ sw_gw := p_mem (p_tb1 (List.mem_of_getElem? (i := 106) (by decide +kernel))) (by decide +kernel)
theorem tw_1_107 : Cond.fieldLink "SortWorks$Step" 109 "SortWorks$Gear" "findings" "I" ∈ sw_gw := p_mem (p_tb1 (List.mem_of_getElem? (i := 107) (by decide +kernel))) (by decide +kernel)
theorem tw_1_108 : Cond.fieldLink "SortWorks$Gear" 60 "SortWorks$Gear" "acts" "I" ∈ sw_gw := p_mem (p_tb1 (List.mem_of_getElem? (i := 108) (by decide +kernel))) (by decide +kernel)
theorem tw_1_109 : Cond.fieldLink "SortWorks$Step" 218 "SortWorks$Gear" "acts" "I" ∈ sw_gw := p_mem (p_tb1 (List.mem_of_getElem? (i := 109) (by decide +kernel))) (by decide +kernel)
theorem tw_1_110 : Cond.fieldLink "SortWorks$Gear" 63 "SortWorks$Gear" "releases" "I" ∈ sw_gw := p_mem (p_tb1 (List.mem_of_getElem? (i := 110) (by decide +kernel))) (by decide +kernel)
theorem tw_1_111 : Cond.fieldLink "SortWorks$Step" 158 "SortWorks$Gear" "releases" "I" ∈ sw_gw := p_mem (p_tb1 (List.mem_of_getElem? (i := 111) (by decide +kernel))) (by decide +kernel)
theorem tw_1_112 : Cond.fieldLink "SortWorks" 221 "SortWorks$Gear" "releases" "I" ∈ sw_gw := p_mem (p_tb1 (List.mem_of_getElem? (i := 112) (by decide +kernel))) (by decide +kernel)
theorem tw_1_113 : Cond.fieldLink "SortWorks$Gear" 9 "SortWorks$Gear" "last" "I" ∈ sw_gw := p_mem (p_tb1 (List.mem_of_getElem? (i := 113) (by decide +kernel))) (by decide +kernel)
theorem tw_1_114 : Cond.fieldLink "SortWorks$Step" 191 "SortWorks$Gear" "last" "I" ∈ sw_gw := p_mem (p_tb1 (List.mem_of_getElem? (i := 114) (by decide +kernel))) (by decide +kernel)
theorem tw_1_115 : Cond.fieldLink "SortWorks$Gear" 66 "SortWorks$Gear" "dial" "I" ∈ sw_gw := p_mem (p_tb1 (List.mem_of_getElem? (i := 115) (by decide +kernel))) (by decide +kernel)
theorem tw_1_116 : Cond.fieldLink "SortWorks$Step" 250 "SortWorks$Gear" "dial" "I" ∈ sw_gw := p_mem (p_tb1 (List.mem_of_getElem? (i := 116) (by decide +kernel))) (by decide +kernel)
theorem tw_1_117 : Cond.fieldLink "SortWorks$Gear" 15 "SortWorks$Gear" "slots" "[I" ∈ sw_gw := p_mem (p_tb1 (List.mem_of_getElem? (i := 117) (by decide +kernel))) (by decide +kernel)
theorem tw_1_118 : Cond.fieldLink "SortWorks$State" 75 "SortWorks$Gear" "slots" "[I" ∈ sw_gw := p_mem (p_tb1 (List.mem_of_getElem? (i := 118) (by decide +kernel))) (by decide +kernel)
theorem tw_1_119 : Cond.fieldLink "SortWorks$Step" 238 "SortWorks$Gear" "slots" "[I" ∈ sw_gw := p_mem (p_tb1 (List.mem_of_getElem? (i := 119) (by decide +kernel))) (by decide +kernel)
theorem tw_1_120 : Cond.fieldLink "SortWorks$Gear" 19 "SortWorks$Gear" "chosen" "I" ∈ sw_gw := p_mem (p_tb1 (List.mem_of_getElem? (i := 120) (by decide +kernel))) (by decide +kernel)
theorem tw_1_121 : Cond.fieldLink "SortWorks$Step" 161 "SortWorks$Gear" "chosen" "I" ∈ sw_gw := p_mem (p_tb1 (List.mem_of_getElem? (i := 121) (by decide +kernel))) (by decide +kernel)
theorem tw_1_161 : Cond.instantiable "SortWorks$Parcel" 13 ∈ sw_gw := p_mem (p_tb1 (List.mem_of_getElem? (i := 161) (by decide +kernel))) (by decide +kernel)
theorem tw_1_162 : Cond.methodLink "SortWorks$State" 40 ⟨"SortWorks$Parcel", "<init>", "(I)V"⟩ ∈ sw_gw := p_mem (p_tb1 (List.mem_of_getElem? (i := 162) (by decide +kernel))) (by decide +kernel)
theorem tw_1_163 : Cond.instanceMethod ⟨"SortWorks$Parcel", "<init>", "(I)V"⟩ ∈ sw_gw := p_mem (p_tb1 (List.mem_of_getElem? (i := 163) (by decide +kernel))) (by decide +kernel)
theorem tw_1_165 : Cond.methodLink "SortWorks$Parcel" 3 ⟨"java/lang/Object", "<init>", "()V"⟩ ∈ sw_gw := p_mem (p_tb1 (List.mem_of_getElem? (i := 165) (by decide +kernel))) (by decide +kernel)
theorem tw_1_166 : Cond.fieldLink "SortWorks$Parcel" 18 "SortWorks$Parcel" "place" "I" ∈ sw_gw := p_mem (p_tb1 (List.mem_of_getElem? (i := 166) (by decide +kernel))) (by decide +kernel)
theorem tw_1_167 : Cond.fieldLink "SortWorks$State" 115 "SortWorks$Parcel" "place" "I" ∈ sw_gw := p_mem (p_tb1 (List.mem_of_getElem? (i := 167) (by decide +kernel))) (by decide +kernel)
theorem tw_1_168 : Cond.fieldLink "SortWorks$Step" 241 "SortWorks$Parcel" "place" "I" ∈ sw_gw := p_mem (p_tb1 (List.mem_of_getElem? (i := 168) (by decide +kernel))) (by decide +kernel)
theorem tw_1_169 : Cond.fieldLink "SortWorks$Parcel" 22 "SortWorks$Parcel" "number" "I" ∈ sw_gw := p_mem (p_tb1 (List.mem_of_getElem? (i := 169) (by decide +kernel))) (by decide +kernel)
theorem tw_1_170 : Cond.fieldLink "SortWorks$State" 60 "SortWorks$Parcel" "number" "I" ∈ sw_gw := p_mem (p_tb1 (List.mem_of_getElem? (i := 170) (by decide +kernel))) (by decide +kernel)
theorem tw_1_171 : Cond.fieldLink "SortWorks$Numbers" 30 "SortWorks$Parcel" "number" "I" ∈ sw_gw := p_mem (p_tb1 (List.mem_of_getElem? (i := 171) (by decide +kernel))) (by decide +kernel)
theorem tw_1_172 : Cond.fieldLink "SortWorks" 188 "SortWorks$Parcel" "number" "I" ∈ sw_gw := p_mem (p_tb1 (List.mem_of_getElem? (i := 172) (by decide +kernel))) (by decide +kernel)
theorem tw_1_173 : Cond.fieldLink "SortWorks$Step" 263 "SortWorks$Parcel" "number" "I" ∈ sw_gw := p_mem (p_tb1 (List.mem_of_getElem? (i := 173) (by decide +kernel))) (by decide +kernel)
theorem tw_1_174 : Cond.fieldLink "SortWorks$Parcel" 25 "SortWorks$Parcel" "weight" "I" ∈ sw_gw := p_mem (p_tb1 (List.mem_of_getElem? (i := 174) (by decide +kernel))) (by decide +kernel)
theorem tw_1_175 : Cond.fieldLink "SortWorks$State" 85 "SortWorks$Parcel" "weight" "I" ∈ sw_gw := p_mem (p_tb1 (List.mem_of_getElem? (i := 175) (by decide +kernel))) (by decide +kernel)
theorem tw_1_176 : Cond.fieldLink "SortWorks$Step" 272 "SortWorks$Parcel" "weight" "I" ∈ sw_gw := p_mem (p_tb1 (List.mem_of_getElem? (i := 176) (by decide +kernel))) (by decide +kernel)
theorem tw_1_177 : Cond.fieldLink "SortWorks" 375 "SortWorks$Parcel" "weight" "I" ∈ sw_gw := p_mem (p_tb1 (List.mem_of_getElem? (i := 177) (by decide +kernel))) (by decide +kernel)
theorem tw_1_178 : Cond.fieldLink "SortWorks$Parcel" 28 "SortWorks$Parcel" "size" "I" ∈ sw_gw := p_mem (p_tb1 (List.mem_of_getElem? (i := 178) (by decide +kernel))) (by decide +kernel)
theorem tw_1_179 : Cond.fieldLink "SortWorks$State" 88 "SortWorks$Parcel" "size" "I" ∈ sw_gw := p_mem (p_tb1 (List.mem_of_getElem? (i := 179) (by decide +kernel))) (by decide +kernel)
theorem tw_1_180 : Cond.fieldLink "SortWorks" 378 "SortWorks$Parcel" "size" "I" ∈ sw_gw := p_mem (p_tb1 (List.mem_of_getElem? (i := 180) (by decide +kernel))) (by decide +kernel)
theorem tw_1_181 : Cond.fieldLink "SortWorks$Parcel" 31 "SortWorks$Parcel" "target" "I" ∈ sw_gw := p_mem (p_tb1 (List.mem_of_getElem? (i := 181) (by decide +kernel))) (by decide +kernel)
theorem tw_1_182 : Cond.fieldLink "SortWorks$State" 91 "SortWorks$Parcel" "target" "I" ∈ sw_gw := p_mem (p_tb1 (List.mem_of_getElem? (i := 182) (by decide +kernel))) (by decide +kernel)
theorem tw_1_183 : Cond.fieldLink "SortWorks$Step" 256 "SortWorks$Parcel" "target" "I" ∈ sw_gw := p_mem (p_tb1 (List.mem_of_getElem? (i := 183) (by decide +kernel))) (by decide +kernel)
theorem tw_1_184 : Cond.fieldLink "SortWorks" 238 "SortWorks$Parcel" "target" "I" ∈ sw_gw := p_mem (p_tb1 (List.mem_of_getElem? (i := 184) (by decide +kernel))) (by decide +kernel)
theorem tw_1_185 : Cond.fieldLink "SortWorks$Parcel" 34 "SortWorks$Parcel" "gear" "I" ∈ sw_gw := p_mem (p_tb1 (List.mem_of_getElem? (i := 185) (by decide +kernel))) (by decide +kernel)
theorem tw_1_186 : Cond.fieldLink "SortWorks$State" 107 "SortWorks$Parcel" "gear" "I" ∈ sw_gw := p_mem (p_tb1 (List.mem_of_getElem? (i := 186) (by decide +kernel))) (by decide +kernel)
theorem tw_1_187 : Cond.fieldLink "SortWorks" 247 "SortWorks$Parcel" "gear" "I" ∈ sw_gw := p_mem (p_tb1 (List.mem_of_getElem? (i := 187) (by decide +kernel))) (by decide +kernel)
theorem tw_1_188 : Cond.fieldLink "SortWorks$Parcel" 37 "SortWorks$Parcel" "slot" "I" ∈ sw_gw := p_mem (p_tb1 (List.mem_of_getElem? (i := 188) (by decide +kernel))) (by decide +kernel)
theorem tw_1_189 : Cond.fieldLink "SortWorks$State" 109 "SortWorks$Parcel" "slot" "I" ∈ sw_gw := p_mem (p_tb1 (List.mem_of_getElem? (i := 189) (by decide +kernel))) (by decide +kernel)
theorem tw_1_190 : Cond.fieldLink "SortWorks$Step" 244 "SortWorks$Parcel" "slot" "I" ∈ sw_gw := p_mem (p_tb1 (List.mem_of_getElem? (i := 190) (by decide +kernel))) (by decide +kernel)
theorem tw_1_191 : Cond.fieldLink "SortWorks$Parcel" 40 "SortWorks$Parcel" "scanned" "Z" ∈ sw_gw := p_mem (p_tb1 (List.mem_of_getElem? (i := 191) (by decide +kernel))) (by decide +kernel)
theorem tw_1_192 : Cond.fieldLink "SortWorks$State" 119 "SortWorks$Parcel" "scanned" "Z" ∈ sw_gw := p_mem (p_tb1 (List.mem_of_getElem? (i := 192) (by decide +kernel))) (by decide +kernel)
theorem tw_1_193 : Cond.fieldLink "SortWorks$Step" 253 "SortWorks$Parcel" "scanned" "Z" ∈ sw_gw := p_mem (p_tb1 (List.mem_of_getElem? (i := 193) (by decide +kernel))) (by decide +kernel)
theorem tw_1_194 : Cond.fieldLink "SortWorks$Step" 64 "SortWorks$Parcel" "moved" "Z" ∈ sw_gw := p_mem (p_tb1 (List.mem_of_getElem? (i := 194) (by decide +kernel))) (by decide +kernel)
theorem tw_1_195 : Cond.fieldLink "SortWorks$Parcel" 44 "SortWorks$Parcel" "wayLength" "I" ∈ sw_gw := p_mem (p_tb1 (List.mem_of_getElem? (i := 195) (by decide +kernel))) (by decide +kernel)
theorem tw_1_196 : Cond.fieldLink "SortWorks$State" 94 "SortWorks$Parcel" "wayLength" "I" ∈ sw_gw := p_mem (p_tb1 (List.mem_of_getElem? (i := 196) (by decide +kernel))) (by decide +kernel)
theorem tw_1_197 : Cond.fieldLink "SortWorks" 306 "SortWorks$Parcel" "wayLength" "I" ∈ sw_gw := p_mem (p_tb1 (List.mem_of_getElem? (i := 197) (by decide +kernel))) (by decide +kernel)
theorem tw_1_198 : Cond.fieldLink "SortWorks$Parcel" 9 "SortWorks$Parcel" "way" "[I" ∈ sw_gw := p_mem (p_tb1 (List.mem_of_getElem? (i := 198) (by decide +kernel))) (by decide +kernel)
theorem tw_1_199 : Cond.fieldLink "SortWorks$State" 123 "SortWorks$Parcel" "way" "[I" ∈ sw_gw := p_mem (p_tb1 (List.mem_of_getElem? (i := 199) (by decide +kernel))) (by decide +kernel)
theorem tw_1_200 : Cond.fieldLink "SortWorks" 309 "SortWorks$Parcel" "way" "[I" ∈ sw_gw := p_mem (p_tb1 (List.mem_of_getElem? (i := 200) (by decide +kernel))) (by decide +kernel)
theorem tw_1_201 : Cond.fieldLink "SortWorks$Reading" 15 "SortWorks$Parcel" "labelLength" "I" ∈ sw_gw := p_mem (p_tb1 (List.mem_of_getElem? (i := 201) (by decide +kernel))) (by decide +kernel)
theorem tw_1_202 : Cond.fieldLink "SortWorks$Parcel" 53 "SortWorks$Parcel" "labelLength" "I" ∈ sw_gw := p_mem (p_tb1 (List.mem_of_getElem? (i := 202) (by decide +kernel))) (by decide +kernel)
theorem tw_1_203 : Cond.fieldLink "SortWorks$State" 97 "SortWorks$Parcel" "labelLength" "I" ∈ sw_gw := p_mem (p_tb1 (List.mem_of_getElem? (i := 203) (by decide +kernel))) (by decide +kernel)
theorem tw_1_204 : Cond.fieldLink "SortWorks" 207 "SortWorks$Parcel" "labelLength" "I" ∈ sw_gw := p_mem (p_tb1 (List.mem_of_getElem? (i := 204) (by decide +kernel))) (by decide +kernel)
theorem tw_1_205 : Cond.fieldLink "SortWorks$Parcel" 15 "SortWorks$Parcel" "label" "[I" ∈ sw_gw := p_mem (p_tb1 (List.mem_of_getElem? (i := 205) (by decide +kernel))) (by decide +kernel)
theorem tw_1_206 : Cond.fieldLink "SortWorks$Reading" 21 "SortWorks$Parcel" "label" "[I" ∈ sw_gw := p_mem (p_tb1 (List.mem_of_getElem? (i := 206) (by decide +kernel))) (by decide +kernel)
theorem tw_1_207 : Cond.fieldLink "SortWorks" 204 "SortWorks$Parcel" "label" "[I" ∈ sw_gw := p_mem (p_tb1 (List.mem_of_getElem? (i := 207) (by decide +kernel))) (by decide +kernel)
theorem tw_1_235 : Cond.fieldLink "SortWorks$State" 43 "SortWorks$State" "time" "I" ∈ sw_gw := p_mem (p_tb1 (List.mem_of_getElem? (i := 235) (by decide +kernel))) (by decide +kernel)
theorem tw_1_236 : Cond.fieldLink "SortWorks$Step" 54 "SortWorks$State" "time" "I" ∈ sw_gw := p_mem (p_tb1 (List.mem_of_getElem? (i := 236) (by decide +kernel))) (by decide +kernel)
theorem tw_1_237 : Cond.fieldLink "SortWorks" 274 "SortWorks$State" "time" "I" ∈ sw_gw := p_mem (p_tb1 (List.mem_of_getElem? (i := 237) (by decide +kernel))) (by decide +kernel)
theorem tw_1_238 : Cond.fieldLink "SortWorks$State" 47 "SortWorks$State" "came" "I" ∈ sw_gw := p_mem (p_tb1 (List.mem_of_getElem? (i := 238) (by decide +kernel))) (by decide +kernel)
theorem tw_1_239 : Cond.fieldLink "SortWorks" 361 "SortWorks$State" "came" "I" ∈ sw_gw := p_mem (p_tb1 (List.mem_of_getElem? (i := 239) (by decide +kernel))) (by decide +kernel)
theorem tw_2_0 : Cond.fieldLink "SortWorks$State" 50 "SortWorks$State" "inside" "I" ∈ sw_gw := p_mem (p_tb2 (List.mem_of_getElem? (i := 0) (by decide +kernel))) (by decide +kernel)
theorem tw_2_1 : Cond.fieldLink "SortWorks$Step" 356 "SortWorks$State" "inside" "I" ∈ sw_gw := p_mem (p_tb2 (List.mem_of_getElem? (i := 1) (by decide +kernel))) (by decide +kernel)
theorem tw_2_2 : Cond.fieldLink "SortWorks" 358 "SortWorks$State" "inside" "I" ∈ sw_gw := p_mem (p_tb2 (List.mem_of_getElem? (i := 2) (by decide +kernel))) (by decide +kernel)
theorem tw_2_3 : Cond.fieldLink "SortWorks$State" 53 "SortWorks$State" "given" "I" ∈ sw_gw := p_mem (p_tb2 (List.mem_of_getElem? (i := 3) (by decide +kernel))) (by decide +kernel)
theorem tw_2_4 : Cond.fieldLink "SortWorks$Numbers" 23 "SortWorks$State" "given" "I" ∈ sw_gw := p_mem (p_tb2 (List.mem_of_getElem? (i := 4) (by decide +kernel))) (by decide +kernel)
theorem tw_2_5 : Cond.fieldLink "SortWorks$Works" 98 "SortWorks$State" "given" "I" ∈ sw_gw := p_mem (p_tb2 (List.mem_of_getElem? (i := 5) (by decide +kernel))) (by decide +kernel)
theorem tw_2_6 : Cond.fieldLink "SortWorks$State" 11 "SortWorks$State" "gear" "[LSortWorks$Gear;" ∈ sw_gw := p_mem (p_tb2 (List.mem_of_getElem? (i := 6) (by decide +kernel))) (by decide +kernel)
theorem tw_2_7 : Cond.fieldLink "SortWorks$Works" 60 "SortWorks$State" "gear" "[LSortWorks$Gear;" ∈ sw_gw := p_mem (p_tb2 (List.mem_of_getElem? (i := 7) (by decide +kernel))) (by decide +kernel)
theorem tw_2_8 : Cond.fieldLink "SortWorks$Step" 82 "SortWorks$State" "gear" "[LSortWorks$Gear;" ∈ sw_gw := p_mem (p_tb2 (List.mem_of_getElem? (i := 8) (by decide +kernel))) (by decide +kernel)
theorem tw_2_9 : Cond.fieldLink "SortWorks" 81 "SortWorks$State" "gear" "[LSortWorks$Gear;" ∈ sw_gw := p_mem (p_tb2 (List.mem_of_getElem? (i := 9) (by decide +kernel))) (by decide +kernel)
theorem tw_2_10 : Cond.fieldLink "SortWorks$State" 19 "SortWorks$State" "parcels" "[LSortWorks$Parcel;" ∈ sw_gw := p_mem (p_tb2 (List.mem_of_getElem? (i := 10) (by decide +kernel))) (by decide +kernel)
theorem tw_2_11 : Cond.fieldLink "SortWorks$Step" 60 "SortWorks$State" "parcels" "[LSortWorks$Parcel;" ∈ sw_gw := p_mem (p_tb2 (List.mem_of_getElem? (i := 11) (by decide +kernel))) (by decide +kernel)
theorem tw_2_12 : Cond.fieldLink "SortWorks$Numbers" 26 "SortWorks$State" "parcels" "[LSortWorks$Parcel;" ∈ sw_gw := p_mem (p_tb2 (List.mem_of_getElem? (i := 12) (by decide +kernel))) (by decide +kernel)
theorem tw_2_13 : Cond.fieldLink "SortWorks$State" 23 "SortWorks$State" "used" "[I" ∈ sw_gw := p_mem (p_tb2 (List.mem_of_getElem? (i := 13) (by decide +kernel))) (by decide +kernel)
theorem tw_2_14 : Cond.fieldLink "SortWorks$Works" 86 "SortWorks$State" "used" "[I" ∈ sw_gw := p_mem (p_tb2 (List.mem_of_getElem? (i := 14) (by decide +kernel))) (by decide +kernel)
theorem tw_2_15 : Cond.fieldLink "SortWorks$Step" 287 "SortWorks$State" "used" "[I" ∈ sw_gw := p_mem (p_tb2 (List.mem_of_getElem? (i := 15) (by decide +kernel))) (by decide +kernel)
theorem tw_2_16 : Cond.fieldLink "SortWorks" 330 "SortWorks$State" "used" "[I" ∈ sw_gw := p_mem (p_tb2 (List.mem_of_getElem? (i := 16) (by decide +kernel))) (by decide +kernel)
theorem tw_2_17 : Cond.fieldLink "SortWorks$State" 32 "SortWorks$State" "findings" "LSortWorks$Log;" ∈ sw_gw := p_mem (p_tb2 (List.mem_of_getElem? (i := 17) (by decide +kernel))) (by decide +kernel)
theorem tw_2_18 : Cond.fieldLink "SortWorks$Step" 33 "SortWorks$State" "findings" "LSortWorks$Log;" ∈ sw_gw := p_mem (p_tb2 (List.mem_of_getElem? (i := 18) (by decide +kernel))) (by decide +kernel)
theorem tw_2_19 : Cond.fieldLink "SortWorks" 339 "SortWorks$State" "findings" "LSortWorks$Log;" ∈ sw_gw := p_mem (p_tb2 (List.mem_of_getElem? (i := 19) (by decide +kernel))) (by decide +kernel)
theorem tw_2_20 : Cond.fieldLink "SortWorks$State" 36 "SortWorks$State" "outs" "LSortWorks$Log;" ∈ sw_gw := p_mem (p_tb2 (List.mem_of_getElem? (i := 20) (by decide +kernel))) (by decide +kernel)
theorem tw_2_21 : Cond.fieldLink "SortWorks$Step" 348 "SortWorks$State" "outs" "LSortWorks$Log;" ∈ sw_gw := p_mem (p_tb2 (List.mem_of_getElem? (i := 21) (by decide +kernel))) (by decide +kernel)
theorem tw_2_22 : Cond.fieldLink "SortWorks" 315 "SortWorks$State" "outs" "LSortWorks$Log;" ∈ sw_gw := p_mem (p_tb2 (List.mem_of_getElem? (i := 22) (by decide +kernel))) (by decide +kernel)
theorem tw_2_42 : Cond.classLink "SortWorks$Works" 18 "SortWorks$Rules" ∈ sw_gw := p_mem (p_tb2 (List.mem_of_getElem? (i := 42) (by decide +kernel))) (by decide +kernel)
theorem tw_2_43 : Cond.instantiable "SortWorks$Rules" 9 ∈ sw_gw := p_mem (p_tb2 (List.mem_of_getElem? (i := 43) (by decide +kernel))) (by decide +kernel)
theorem tw_2_45 : Cond.instanceMethod ⟨"SortWorks$Rules", "<init>", "()V"⟩ ∈ sw_gw := p_mem (p_tb2 (List.mem_of_getElem? (i := 45) (by decide +kernel))) (by decide +kernel)
theorem tw_2_47 : Cond.methodLink "SortWorks$Rules" 3 ⟨"java/lang/Object", "<init>", "()V"⟩ ∈ sw_gw := p_mem (p_tb2 (List.mem_of_getElem? (i := 47) (by decide +kernel))) (by decide +kernel)
theorem tw_2_48 : Cond.fieldLink "SortWorks$Rules" 33 "SortWorks$Rules" "count" "I" ∈ sw_gw := p_mem (p_tb2 (List.mem_of_getElem? (i := 48) (by decide +kernel))) (by decide +kernel)
theorem tw_2_49 : Cond.fieldLink "SortWorks$Judge" 36 "SortWorks$Rules" "count" "I" ∈ sw_gw := p_mem (p_tb2 (List.mem_of_getElem? (i := 49) (by decide +kernel))) (by decide +kernel)
theorem tw_2_50 : Cond.fieldLink "SortWorks" 159 "SortWorks$Rules" "count" "I" ∈ sw_gw := p_mem (p_tb2 (List.mem_of_getElem? (i := 50) (by decide +kernel))) (by decide +kernel)
theorem tw_2_51 : Cond.fieldLink "SortWorks$Step" 281 "SortWorks$Rules" "count" "I" ∈ sw_gw := p_mem (p_tb2 (List.mem_of_getElem? (i := 51) (by decide +kernel))) (by decide +kernel)
theorem tw_2_52 : Cond.fieldLink "SortWorks$Rules" 9 "SortWorks$Rules" "tells" "[I" ∈ sw_gw := p_mem (p_tb2 (List.mem_of_getElem? (i := 52) (by decide +kernel))) (by decide +kernel)
theorem tw_2_53 : Cond.fieldLink "SortWorks$Judge" 73 "SortWorks$Rules" "tells" "[I" ∈ sw_gw := p_mem (p_tb2 (List.mem_of_getElem? (i := 53) (by decide +kernel))) (by decide +kernel)
theorem tw_2_54 : Cond.fieldLink "SortWorks$Step" 290 "SortWorks$Rules" "tells" "[I" ∈ sw_gw := p_mem (p_tb2 (List.mem_of_getElem? (i := 54) (by decide +kernel))) (by decide +kernel)
theorem tw_2_55 : Cond.fieldLink "SortWorks" 324 "SortWorks$Rules" "tells" "[I" ∈ sw_gw := p_mem (p_tb2 (List.mem_of_getElem? (i := 55) (by decide +kernel))) (by decide +kernel)
theorem tw_2_56 : Cond.fieldLink "SortWorks$Rules" 15 "SortWorks$Rules" "testCounts" "[I" ∈ sw_gw := p_mem (p_tb2 (List.mem_of_getElem? (i := 56) (by decide +kernel))) (by decide +kernel)
theorem tw_2_57 : Cond.fieldLink "SortWorks$Judge" 39 "SortWorks$Rules" "testCounts" "[I" ∈ sw_gw := p_mem (p_tb2 (List.mem_of_getElem? (i := 57) (by decide +kernel))) (by decide +kernel)
theorem tw_2_58 : Cond.fieldLink "SortWorks$Step" 293 "SortWorks$Rules" "testCounts" "[I" ∈ sw_gw := p_mem (p_tb2 (List.mem_of_getElem? (i := 58) (by decide +kernel))) (by decide +kernel)
theorem tw_2_59 : Cond.fieldLink "SortWorks" 327 "SortWorks$Rules" "testCounts" "[I" ∈ sw_gw := p_mem (p_tb2 (List.mem_of_getElem? (i := 59) (by decide +kernel))) (by decide +kernel)
theorem tw_2_60 : Cond.fieldLink "SortWorks$Rules" 18 "SortWorks$Rules" "subjects" "[I" ∈ sw_gw := p_mem (p_tb2 (List.mem_of_getElem? (i := 60) (by decide +kernel))) (by decide +kernel)
theorem tw_2_61 : Cond.fieldLink "SortWorks$Judge" 58 "SortWorks$Rules" "subjects" "[I" ∈ sw_gw := p_mem (p_tb2 (List.mem_of_getElem? (i := 61) (by decide +kernel))) (by decide +kernel)
theorem tw_2_62 : Cond.fieldLink "SortWorks$Step" 296 "SortWorks$Rules" "subjects" "[I" ∈ sw_gw := p_mem (p_tb2 (List.mem_of_getElem? (i := 62) (by decide +kernel))) (by decide +kernel)
theorem tw_2_63 : Cond.fieldLink "SortWorks$Rules" 21 "SortWorks$Rules" "quotients" "[I" ∈ sw_gw := p_mem (p_tb2 (List.mem_of_getElem? (i := 63) (by decide +kernel))) (by decide +kernel)
theorem tw_2_64 : Cond.fieldLink "SortWorks$Judge" 61 "SortWorks$Rules" "quotients" "[I" ∈ sw_gw := p_mem (p_tb2 (List.mem_of_getElem? (i := 64) (by decide +kernel))) (by decide +kernel)
theorem tw_2_65 : Cond.fieldLink "SortWorks$Step" 299 "SortWorks$Rules" "quotients" "[I" ∈ sw_gw := p_mem (p_tb2 (List.mem_of_getElem? (i := 65) (by decide +kernel))) (by decide +kernel)
theorem tw_2_66 : Cond.fieldLink "SortWorks$Rules" 24 "SortWorks$Rules" "signs" "[I" ∈ sw_gw := p_mem (p_tb2 (List.mem_of_getElem? (i := 66) (by decide +kernel))) (by decide +kernel)
theorem tw_2_67 : Cond.fieldLink "SortWorks$Judge" 67 "SortWorks$Rules" "signs" "[I" ∈ sw_gw := p_mem (p_tb2 (List.mem_of_getElem? (i := 67) (by decide +kernel))) (by decide +kernel)
theorem tw_2_68 : Cond.fieldLink "SortWorks$Step" 317 "SortWorks$Rules" "signs" "[I" ∈ sw_gw := p_mem (p_tb2 (List.mem_of_getElem? (i := 68) (by decide +kernel))) (by decide +kernel)
theorem tw_2_69 : Cond.fieldLink "SortWorks$Rules" 27 "SortWorks$Rules" "bounds" "[I" ∈ sw_gw := p_mem (p_tb2 (List.mem_of_getElem? (i := 69) (by decide +kernel))) (by decide +kernel)
theorem tw_2_70 : Cond.fieldLink "SortWorks$Judge" 70 "SortWorks$Rules" "bounds" "[I" ∈ sw_gw := p_mem (p_tb2 (List.mem_of_getElem? (i := 70) (by decide +kernel))) (by decide +kernel)
theorem tw_2_71 : Cond.fieldLink "SortWorks$Step" 308 "SortWorks$Rules" "bounds" "[I" ∈ sw_gw := p_mem (p_tb2 (List.mem_of_getElem? (i := 71) (by decide +kernel))) (by decide +kernel)
theorem tw_2_72 : Cond.fieldLink "SortWorks$Rules" 30 "SortWorks$Rules" "text" "[I" ∈ sw_gw := p_mem (p_tb2 (List.mem_of_getElem? (i := 72) (by decide +kernel))) (by decide +kernel)
theorem tw_2_73 : Cond.fieldLink "SortWorks$Judge" 76 "SortWorks$Rules" "text" "[I" ∈ sw_gw := p_mem (p_tb2 (List.mem_of_getElem? (i := 73) (by decide +kernel))) (by decide +kernel)
theorem tw_2_74 : Cond.fieldLink "SortWorks" 336 "SortWorks$Rules" "text" "[I" ∈ sw_gw := p_mem (p_tb2 (List.mem_of_getElem? (i := 74) (by decide +kernel))) (by decide +kernel)
theorem tw_2_75 : Cond.fieldLink "SortWorks$Judge" 29 "SortWorks$Rules" "textLength" "I" ∈ sw_gw := p_mem (p_tb2 (List.mem_of_getElem? (i := 75) (by decide +kernel))) (by decide +kernel)
theorem tw_2_76 : Cond.fieldLink "SortWorks$Rules" 43 "SortWorks$Rules" "textLength" "I" ∈ sw_gw := p_mem (p_tb2 (List.mem_of_getElem? (i := 76) (by decide +kernel))) (by decide +kernel)
theorem tw_2_77 : Cond.fieldLink "SortWorks" 333 "SortWorks$Rules" "textLength" "I" ∈ sw_gw := p_mem (p_tb2 (List.mem_of_getElem? (i := 77) (by decide +kernel))) (by decide +kernel)
theorem tw_2_97 : Cond.classLink "SortWorks$Works" 25 "[[I" ∈ sw_gw := p_mem (p_tb2 (List.mem_of_getElem? (i := 97) (by decide +kernel))) (by decide +kernel)
theorem tw_2_100 : Cond.fieldLink "SortWorks$Works" 53 "SortWorks$Works" "number" "I" ∈ sw_gw := p_mem (p_tb2 (List.mem_of_getElem? (i := 100) (by decide +kernel))) (by decide +kernel)
theorem tw_2_101 : Cond.fieldLink "SortWorks" 64 "SortWorks$Works" "number" "I" ∈ sw_gw := p_mem (p_tb2 (List.mem_of_getElem? (i := 101) (by decide +kernel))) (by decide +kernel)
theorem tw_2_102 : Cond.fieldLink "SortWorks$Step" 351 "SortWorks$Works" "number" "I" ∈ sw_gw := p_mem (p_tb2 (List.mem_of_getElem? (i := 102) (by decide +kernel))) (by decide +kernel)
theorem tw_2_103 : Cond.fieldLink "SortWorks$Works" 12 "SortWorks$Works" "now" "LSortWorks$State;" ∈ sw_gw := p_mem (p_tb2 (List.mem_of_getElem? (i := 103) (by decide +kernel))) (by decide +kernel)
theorem tw_2_104 : Cond.fieldLink "SortWorks$Step" 22 "SortWorks$Works" "now" "LSortWorks$State;" ∈ sw_gw := p_mem (p_tb2 (List.mem_of_getElem? (i := 104) (by decide +kernel))) (by decide +kernel)
theorem tw_2_105 : Cond.fieldLink "SortWorks" 77 "SortWorks$Works" "now" "LSortWorks$State;" ∈ sw_gw := p_mem (p_tb2 (List.mem_of_getElem? (i := 105) (by decide +kernel))) (by decide +kernel)
theorem tw_2_106 : Cond.fieldLink "SortWorks$Works" 57 "SortWorks$Works" "gearCount" "I" ∈ sw_gw := p_mem (p_tb2 (List.mem_of_getElem? (i := 106) (by decide +kernel))) (by decide +kernel)
theorem tw_2_107 : Cond.fieldLink "SortWorks$Step" 79 "SortWorks$Works" "gearCount" "I" ∈ sw_gw := p_mem (p_tb2 (List.mem_of_getElem? (i := 107) (by decide +kernel))) (by decide +kernel)
theorem tw_2_108 : Cond.fieldLink "SortWorks" 74 "SortWorks$Works" "gearCount" "I" ∈ sw_gw := p_mem (p_tb2 (List.mem_of_getElem? (i := 108) (by decide +kernel))) (by decide +kernel)
theorem tw_2_109 : Cond.fieldLink "SortWorks$Works" 21 "SortWorks$Works" "rules" "LSortWorks$Rules;" ∈ sw_gw := p_mem (p_tb2 (List.mem_of_getElem? (i := 109) (by decide +kernel))) (by decide +kernel)
theorem tw_2_110 : Cond.fieldLink "SortWorks" 158 "SortWorks$Works" "rules" "LSortWorks$Rules;" ∈ sw_gw := p_mem (p_tb2 (List.mem_of_getElem? (i := 110) (by decide +kernel))) (by decide +kernel)
theorem tw_2_111 : Cond.fieldLink "SortWorks$Step" 277 "SortWorks$Works" "rules" "LSortWorks$Rules;" ∈ sw_gw := p_mem (p_tb2 (List.mem_of_getElem? (i := 111) (by decide +kernel))) (by decide +kernel)
theorem tw_2_112 : Cond.fieldLink "SortWorks$Works" 27 "SortWorks$Works" "plans" "[[I" ∈ sw_gw := p_mem (p_tb2 (List.mem_of_getElem? (i := 112) (by decide +kernel))) (by decide +kernel)
theorem tw_2_113 : Cond.fieldLink "SortWorks$Step" 114 "SortWorks$Works" "plans" "[[I" ∈ sw_gw := p_mem (p_tb2 (List.mem_of_getElem? (i := 113) (by decide +kernel))) (by decide +kernel)
theorem tw_2_114 : Cond.fieldLink "SortWorks" 167 "SortWorks$Works" "plans" "[[I" ∈ sw_gw := p_mem (p_tb2 (List.mem_of_getElem? (i := 114) (by decide +kernel))) (by decide +kernel)
theorem tw_2_115 : Cond.fieldLink "SortWorks$Works" 30 "SortWorks$Works" "planLengths" "[I" ∈ sw_gw := p_mem (p_tb2 (List.mem_of_getElem? (i := 115) (by decide +kernel))) (by decide +kernel)
theorem tw_2_116 : Cond.fieldLink "SortWorks$Step" 118 "SortWorks$Works" "planLengths" "[I" ∈ sw_gw := p_mem (p_tb2 (List.mem_of_getElem? (i := 116) (by decide +kernel))) (by decide +kernel)
theorem tw_2_117 : Cond.fieldLink "SortWorks" 171 "SortWorks$Works" "planLengths" "[I" ∈ sw_gw := p_mem (p_tb2 (List.mem_of_getElem? (i := 117) (by decide +kernel))) (by decide +kernel)
theorem tw_2_118 : Cond.fieldLink "SortWorks$Step" 70 "SortWorks$Works" "planCount" "I" ∈ sw_gw := p_mem (p_tb2 (List.mem_of_getElem? (i := 118) (by decide +kernel))) (by decide +kernel)
theorem tw_2_119 : Cond.fieldLink "SortWorks$Works" 74 "SortWorks$Works" "planCount" "I" ∈ sw_gw := p_mem (p_tb2 (List.mem_of_getElem? (i := 119) (by decide +kernel))) (by decide +kernel)
theorem tw_2_120 : Cond.fieldLink "SortWorks" 164 "SortWorks$Works" "planCount" "I" ∈ sw_gw := p_mem (p_tb2 (List.mem_of_getElem? (i := 120) (by decide +kernel))) (by decide +kernel)
theorem tw_2_121 : Cond.fieldLink "SortWorks$Works" 34 "SortWorks$Works" "groups" "[[I" ∈ sw_gw := p_mem (p_tb2 (List.mem_of_getElem? (i := 121) (by decide +kernel))) (by decide +kernel)
theorem tw_2_122 : Cond.fieldLink "SortWorks" 258 "SortWorks$Works" "groups" "[[I" ∈ sw_gw := p_mem (p_tb2 (List.mem_of_getElem? (i := 122) (by decide +kernel))) (by decide +kernel)
theorem tw_2_123 : Cond.fieldLink "SortWorks$Works" 37 "SortWorks$Works" "groupTypes" "[I" ∈ sw_gw := p_mem (p_tb2 (List.mem_of_getElem? (i := 123) (by decide +kernel))) (by decide +kernel)
theorem tw_2_124 : Cond.fieldLink "SortWorks" 252 "SortWorks$Works" "groupTypes" "[I" ∈ sw_gw := p_mem (p_tb2 (List.mem_of_getElem? (i := 124) (by decide +kernel))) (by decide +kernel)
theorem tw_2_125 : Cond.fieldLink "SortWorks$Works" 40 "SortWorks$Works" "groupSizes" "[I" ∈ sw_gw := p_mem (p_tb2 (List.mem_of_getElem? (i := 125) (by decide +kernel))) (by decide +kernel)
theorem tw_2_126 : Cond.fieldLink "SortWorks" 255 "SortWorks$Works" "groupSizes" "[I" ∈ sw_gw := p_mem (p_tb2 (List.mem_of_getElem? (i := 126) (by decide +kernel))) (by decide +kernel)
theorem tw_2_127 : Cond.fieldLink "SortWorks$Works" 43 "SortWorks$Works" "trace" "[I" ∈ sw_gw := p_mem (p_tb2 (List.mem_of_getElem? (i := 127) (by decide +kernel))) (by decide +kernel)
theorem tw_2_128 : Cond.fieldLink "SortWorks$Step" 111 "SortWorks$Works" "trace" "[I" ∈ sw_gw := p_mem (p_tb2 (List.mem_of_getElem? (i := 128) (by decide +kernel))) (by decide +kernel)
theorem tw_2_129 : Cond.fieldLink "SortWorks" 345 "SortWorks$Works" "trace" "[I" ∈ sw_gw := p_mem (p_tb2 (List.mem_of_getElem? (i := 129) (by decide +kernel))) (by decide +kernel)
theorem tw_2_130 : Cond.fieldLink "SortWorks$Step" 57 "SortWorks$Works" "traced" "I" ∈ sw_gw := p_mem (p_tb2 (List.mem_of_getElem? (i := 130) (by decide +kernel))) (by decide +kernel)
theorem tw_2_131 : Cond.fieldLink "SortWorks$Works" 116 "SortWorks$Works" "traced" "I" ∈ sw_gw := p_mem (p_tb2 (List.mem_of_getElem? (i := 131) (by decide +kernel))) (by decide +kernel)
theorem tw_2_132 : Cond.fieldLink "SortWorks" 342 "SortWorks$Works" "traced" "I" ∈ sw_gw := p_mem (p_tb2 (List.mem_of_getElem? (i := 132) (by decide +kernel))) (by decide +kernel)
theorem tw_2_133 : Cond.fieldLink "SortWorks$Works" 46 "SortWorks$Works" "kept" "[LSortWorks$State;" ∈ sw_gw := p_mem (p_tb2 (List.mem_of_getElem? (i := 133) (by decide +kernel))) (by decide +kernel)
theorem tw_2_134 : Cond.fieldLink "SortWorks$Works" 95 "SortWorks$Works" "keptNext" "I" ∈ sw_gw := p_mem (p_tb2 (List.mem_of_getElem? (i := 134) (by decide +kernel))) (by decide +kernel)
theorem tw_2_135 : Cond.fieldLink "SortWorks$Works" 104 "SortWorks$Works" "keptCount" "I" ∈ sw_gw := p_mem (p_tb2 (List.mem_of_getElem? (i := 135) (by decide +kernel))) (by decide +kernel)
theorem tw_2_136 : Cond.fieldLink "SortWorks" 288 "SortWorks$Works" "keptCount" "I" ∈ sw_gw := p_mem (p_tb2 (List.mem_of_getElem? (i := 136) (by decide +kernel))) (by decide +kernel)
theorem tw_2_137 : Cond.fieldLink "SortWorks$Works" 50 "SortWorks$Works" "fewest" "[I" ∈ sw_gw := p_mem (p_tb2 (List.mem_of_getElem? (i := 137) (by decide +kernel))) (by decide +kernel)
theorem tw_2_138 : Cond.fieldLink "SortWorks" 354 "SortWorks$Works" "fewest" "[I" ∈ sw_gw := p_mem (p_tb2 (List.mem_of_getElem? (i := 138) (by decide +kernel))) (by decide +kernel)
theorem tw_2_172 : Cond.classLink "SortWorks" 22 "SortWorks$Numbers" ∈ sw_gw := p_mem (p_tb2 (List.mem_of_getElem? (i := 172) (by decide +kernel))) (by decide +kernel)
theorem tw_2_173 : Cond.instantiable "SortWorks$Numbers" 2 ∈ sw_gw := p_mem (p_tb2 (List.mem_of_getElem? (i := 173) (by decide +kernel))) (by decide +kernel)
theorem tw_2_175 : Cond.instanceMethod ⟨"SortWorks$Numbers", "<init>", "()V"⟩ ∈ sw_gw := p_mem (p_tb2 (List.mem_of_getElem? (i := 175) (by decide +kernel))) (by decide +kernel)
theorem tw_2_177 : Cond.methodLink "SortWorks$Numbers" 3 ⟨"java/lang/Object", "<init>", "()V"⟩ ∈ sw_gw := p_mem (p_tb2 (List.mem_of_getElem? (i := 177) (by decide +kernel))) (by decide +kernel)
theorem tw_2_178 : Cond.fieldLink "SortWorks$Numbers" 9 "SortWorks$Numbers" "where" "[I" ∈ sw_gw := p_mem (p_tb2 (List.mem_of_getElem? (i := 178) (by decide +kernel))) (by decide +kernel)
theorem tw_2_179 : Cond.fieldLink "SortWorks" 312 "SortWorks$Numbers" "where" "[I" ∈ sw_gw := p_mem (p_tb2 (List.mem_of_getElem? (i := 179) (by decide +kernel))) (by decide +kernel)
theorem tw_2_180 : Cond.fieldLink "SortWorks$Numbers" 15 "SortWorks$Numbers" "given" "I" ∈ sw_gw := p_mem (p_tb2 (List.mem_of_getElem? (i := 180) (by decide +kernel))) (by decide +kernel)
theorem tw_2_181 : Cond.fieldLink "SortWorks$Step" 45 "SortWorks$Numbers" "given" "I" ∈ sw_gw := p_mem (p_tb2 (List.mem_of_getElem? (i := 181) (by decide +kernel))) (by decide +kernel)
theorem tw_2_182 : Cond.fieldLink "SortWorks" 194 "SortWorks$Numbers" "given" "I" ∈ sw_gw := p_mem (p_tb2 (List.mem_of_getElem? (i := 182) (by decide +kernel))) (by decide +kernel)
theorem tw_2_188 : Cond.classLink "SortWorks" 29 "SortWorks$Step" ∈ sw_gw := p_mem (p_tb2 (List.mem_of_getElem? (i := 188) (by decide +kernel))) (by decide +kernel)
theorem tw_2_189 : Cond.instantiable "SortWorks$Step" 5 ∈ sw_gw := p_mem (p_tb2 (List.mem_of_getElem? (i := 189) (by decide +kernel))) (by decide +kernel)
theorem tw_2_191 : Cond.instanceMethod ⟨"SortWorks$Step", "<init>", "()V"⟩ ∈ sw_gw := p_mem (p_tb2 (List.mem_of_getElem? (i := 191) (by decide +kernel))) (by decide +kernel)
theorem tw_2_193 : Cond.methodLink "SortWorks$Step" 3 ⟨"java/lang/Object", "<init>", "()V"⟩ ∈ sw_gw := p_mem (p_tb2 (List.mem_of_getElem? (i := 193) (by decide +kernel))) (by decide +kernel)
theorem tw_2_194 : Cond.classLink "SortWorks$Step" 9 "SortWorks$Reading" ∈ sw_gw := p_mem (p_tb2 (List.mem_of_getElem? (i := 194) (by decide +kernel))) (by decide +kernel)
theorem tw_2_195 : Cond.instantiable "SortWorks$Reading" 5 ∈ sw_gw := p_mem (p_tb2 (List.mem_of_getElem? (i := 195) (by decide +kernel))) (by decide +kernel)
theorem tw_2_197 : Cond.instanceMethod ⟨"SortWorks$Reading", "<init>", "()V"⟩ ∈ sw_gw := p_mem (p_tb2 (List.mem_of_getElem? (i := 197) (by decide +kernel))) (by decide +kernel)
theorem tw_2_199 : Cond.methodLink "SortWorks$Reading" 3 ⟨"java/lang/Object", "<init>", "()V"⟩ ∈ sw_gw := p_mem (p_tb2 (List.mem_of_getElem? (i := 199) (by decide +kernel))) (by decide +kernel)
theorem tw_2_200 : Cond.fieldLink "SortWorks$Reading" 31 "SortWorks$Reading" "bad" "Z" ∈ sw_gw := p_mem (p_tb2 (List.mem_of_getElem? (i := 200) (by decide +kernel))) (by decide +kernel)
theorem tw_2_201 : Cond.fieldLink "SortWorks$Step" 266 "SortWorks$Reading" "bad" "Z" ∈ sw_gw := p_mem (p_tb2 (List.mem_of_getElem? (i := 201) (by decide +kernel))) (by decide +kernel)
theorem tw_2_202 : Cond.fieldLink "SortWorks$Reading" 35 "SortWorks$Reading" "place" "I" ∈ sw_gw := p_mem (p_tb2 (List.mem_of_getElem? (i := 202) (by decide +kernel))) (by decide +kernel)
theorem tw_2_203 : Cond.fieldLink "SortWorks$Step" 320 "SortWorks$Reading" "place" "I" ∈ sw_gw := p_mem (p_tb2 (List.mem_of_getElem? (i := 203) (by decide +kernel))) (by decide +kernel)
theorem tw_2_204 : Cond.fieldLink "SortWorks$Reading" 38 "SortWorks$Reading" "weight" "I" ∈ sw_gw := p_mem (p_tb2 (List.mem_of_getElem? (i := 204) (by decide +kernel))) (by decide +kernel)
theorem tw_2_205 : Cond.fieldLink "SortWorks$Step" 269 "SortWorks$Reading" "weight" "I" ∈ sw_gw := p_mem (p_tb2 (List.mem_of_getElem? (i := 205) (by decide +kernel))) (by decide +kernel)
theorem tw_2_206 : Cond.fieldLink "SortWorks$Reading" 41 "SortWorks$Reading" "size" "I" ∈ sw_gw := p_mem (p_tb2 (List.mem_of_getElem? (i := 206) (by decide +kernel))) (by decide +kernel)
theorem tw_2_207 : Cond.fieldLink "SortWorks$Step" 321 "SortWorks$Reading" "size" "I" ∈ sw_gw := p_mem (p_tb2 (List.mem_of_getElem? (i := 207) (by decide +kernel))) (by decide +kernel)
theorem tw_2_208 : Cond.fieldLink "SortWorks$Reading" 9 "SortWorks$Reading" "digits" "[I" ∈ sw_gw := p_mem (p_tb2 (List.mem_of_getElem? (i := 208) (by decide +kernel))) (by decide +kernel)
theorem tw_2_220 : Cond.fieldLink "SortWorks$Step" 12 "SortWorks$Step" "reading" "LSortWorks$Reading;" ∈ sw_gw := p_mem (p_tb2 (List.mem_of_getElem? (i := 220) (by decide +kernel))) (by decide +kernel)
theorem tw_2_221 : Cond.fieldLink "SortWorks$Step" 29 "SortWorks$Step" "numbers" "LSortWorks$Numbers;" ∈ sw_gw := p_mem (p_tb2 (List.mem_of_getElem? (i := 221) (by decide +kernel))) (by decide +kernel)
theorem tw_2_222 : Cond.fieldLink "SortWorks$Step" 18 "SortWorks$Step" "works" "LSortWorks$Works;" ∈ sw_gw := p_mem (p_tb2 (List.mem_of_getElem? (i := 222) (by decide +kernel))) (by decide +kernel)
theorem tw_2_223 : Cond.fieldLink "SortWorks$Step" 28 "SortWorks$Step" "now" "LSortWorks$State;" ∈ sw_gw := p_mem (p_tb2 (List.mem_of_getElem? (i := 223) (by decide +kernel))) (by decide +kernel)
theorem tw_2_224 : Cond.fieldLink "SortWorks$Step" 106 "SortWorks$Step" "found" "Z" ∈ sw_gw := p_mem (p_tb2 (List.mem_of_getElem? (i := 224) (by decide +kernel))) (by decide +kernel)
theorem tw_2_236 : Cond.classLink "SortWorks" 36 "SortWorks$Judge" ∈ sw_gw := p_mem (p_tb2 (List.mem_of_getElem? (i := 236) (by decide +kernel))) (by decide +kernel)
theorem tw_2_237 : Cond.instantiable "SortWorks$Judge" 4 ∈ sw_gw := p_mem (p_tb2 (List.mem_of_getElem? (i := 237) (by decide +kernel))) (by decide +kernel)
theorem tw_2_239 : Cond.instanceMethod ⟨"SortWorks$Judge", "<init>", "()V"⟩ ∈ sw_gw := p_mem (p_tb2 (List.mem_of_getElem? (i := 239) (by decide +kernel))) (by decide +kernel)
theorem tw_3_1 : Cond.methodLink "SortWorks$Judge" 3 ⟨"java/lang/Object", "<init>", "()V"⟩ ∈ sw_gw := p_mem (p_tb3 (List.mem_of_getElem? (i := 1) (by decide +kernel))) (by decide +kernel)
theorem tw_3_2 : Cond.classLink "SortWorks$Judge" 9 "SortWorks$Rules" ∈ sw_gw := p_mem (p_tb3 (List.mem_of_getElem? (i := 2) (by decide +kernel))) (by decide +kernel)
theorem tw_3_4 : Cond.fieldLink "SortWorks$Judge" 12 "SortWorks$Judge" "rules" "LSortWorks$Rules;" ∈ sw_gw := p_mem (p_tb3 (List.mem_of_getElem? (i := 4) (by decide +kernel))) (by decide +kernel)
theorem tw_3_5 : Cond.fieldLink "SortWorks" 150 "SortWorks$Judge" "rules" "LSortWorks$Rules;" ∈ sw_gw := p_mem (p_tb3 (List.mem_of_getElem? (i := 5) (by decide +kernel))) (by decide +kernel)
theorem tw_3_6 : Cond.fieldLink "SortWorks$Judge" 18 "SortWorks$Judge" "letters" "[I" ∈ sw_gw := p_mem (p_tb3 (List.mem_of_getElem? (i := 6) (by decide +kernel))) (by decide +kernel)
theorem tw_3_7 : Cond.fieldLink "SortWorks$Judge" 22 "SortWorks$Judge" "length" "I" ∈ sw_gw := p_mem (p_tb3 (List.mem_of_getElem? (i := 7) (by decide +kernel))) (by decide +kernel)
theorem tw_3_8 : Cond.fieldLink "SortWorks$Judge" 26 "SortWorks$Judge" "at" "I" ∈ sw_gw := p_mem (p_tb3 (List.mem_of_getElem? (i := 8) (by decide +kernel))) (by decide +kernel)
theorem tw_3_18 : Cond.fieldLink "SortWorks" 12 "SortWorks" "works" "[LSortWorks$Works;" ∈ sw_gw := p_mem (p_tb3 (List.mem_of_getElem? (i := 18) (by decide +kernel))) (by decide +kernel)
theorem tw_3_19 : Cond.fieldLink "SortWorks" 18 "SortWorks" "hand" "LSortWorks$Works;" ∈ sw_gw := p_mem (p_tb3 (List.mem_of_getElem? (i := 19) (by decide +kernel))) (by decide +kernel)
theorem tw_3_20 : Cond.fieldLink "SortWorks" 25 "SortWorks" "numbers" "LSortWorks$Numbers;" ∈ sw_gw := p_mem (p_tb3 (List.mem_of_getElem? (i := 20) (by decide +kernel))) (by decide +kernel)
theorem tw_3_21 : Cond.fieldLink "SortWorks" 32 "SortWorks" "stepper" "LSortWorks$Step;" ∈ sw_gw := p_mem (p_tb3 (List.mem_of_getElem? (i := 21) (by decide +kernel))) (by decide +kernel)
theorem tw_3_22 : Cond.fieldLink "SortWorks" 39 "SortWorks" "judge" "LSortWorks$Judge;" ∈ sw_gw := p_mem (p_tb3 (List.mem_of_getElem? (i := 22) (by decide +kernel))) (by decide +kernel)
theorem tw_3_23 : Cond.fieldLink "SortWorks" 43 "SortWorks" "letters" "[I" ∈ sw_gw := p_mem (p_tb3 (List.mem_of_getElem? (i := 23) (by decide +kernel))) (by decide +kernel)
theorem tw_3_24 : Cond.fieldLink "SortWorks" 143 "SortWorks" "typed" "I" ∈ sw_gw := p_mem (p_tb3 (List.mem_of_getElem? (i := 24) (by decide +kernel))) (by decide +kernel)
theorem tw_3_25 : Cond.fieldLink "SortWorks" 47 "SortWorks" "faults" "I" ∈ sw_gw := p_mem (p_tb3 (List.mem_of_getElem? (i := 25) (by decide +kernel))) (by decide +kernel)
theorem tw_3_26 : Cond.fieldLink "SortWorks" 51 "SortWorks" "status" "I" ∈ sw_gw := p_mem (p_tb3 (List.mem_of_getElem? (i := 26) (by decide +kernel))) (by decide +kernel)
theorem tw_3_46 : Cond.methodLink "SortWorksLaw" 13 ⟨"SortWorks", "works", "(I)I"⟩ ∈ sw_gw := p_mem (p_tb3 (List.mem_of_getElem? (i := 46) (by decide +kernel))) (by decide +kernel)
theorem tw_3_47 : Cond.instanceMethod ⟨"SortWorks", "works", "(I)I"⟩ ∈ sw_gw := p_mem (p_tb3 (List.mem_of_getElem? (i := 47) (by decide +kernel))) (by decide +kernel)
theorem tw_3_48 : Cond.selects "SortWorks" ⟨"SortWorks", "works", "(I)I"⟩ ⟨"SortWorks", "works", "(I)I"⟩ ∈ sw_gw := p_mem (p_tb3 (List.mem_of_getElem? (i := 48) (by decide +kernel))) (by decide +kernel)
theorem tw_3_50 : Cond.methodLink "SortWorks" 61 ⟨"SortWorks", "refuse", "(I)I"⟩ ∈ sw_gw := p_mem (p_tb3 (List.mem_of_getElem? (i := 50) (by decide +kernel))) (by decide +kernel)
theorem tw_3_52 : Cond.instanceMethod ⟨"SortWorks", "refuse", "(I)I"⟩ ∈ sw_gw := p_mem (p_tb3 (List.mem_of_getElem? (i := 52) (by decide +kernel))) (by decide +kernel)
theorem tw_3_54 : Cond.methodLink "SortWorks" 57 ⟨"SortWorks", "done", "(I)I"⟩ ∈ sw_gw := p_mem (p_tb3 (List.mem_of_getElem? (i := 54) (by decide +kernel))) (by decide +kernel)
theorem tw_3_56 : Cond.instanceMethod ⟨"SortWorks", "done", "(I)I"⟩ ∈ sw_gw := p_mem (p_tb3 (List.mem_of_getElem? (i := 56) (by decide +kernel))) (by decide +kernel)
theorem tw_3_58 : Cond.methodLink "SortWorksLaw" 18 ⟨"SortWorks", "gear", "(II)I"⟩ ∈ sw_gw := p_mem (p_tb3 (List.mem_of_getElem? (i := 58) (by decide +kernel))) (by decide +kernel)
theorem tw_3_59 : Cond.instanceMethod ⟨"SortWorks", "gear", "(II)I"⟩ ∈ sw_gw := p_mem (p_tb3 (List.mem_of_getElem? (i := 59) (by decide +kernel))) (by decide +kernel)
theorem tw_3_60 : Cond.selects "SortWorks" ⟨"SortWorks", "gear", "(II)I"⟩ ⟨"SortWorks", "gear", "(II)I"⟩ ∈ sw_gw := p_mem (p_tb3 (List.mem_of_getElem? (i := 60) (by decide +kernel))) (by decide +kernel)
theorem tw_3_62 : Cond.methodLink "SortWorks" 67 ⟨"SortWorks", "isKind", "(I)Z"⟩ ∈ sw_gw := p_mem (p_tb3 (List.mem_of_getElem? (i := 62) (by decide +kernel))) (by decide +kernel)
theorem tw_3_63 : Cond.static ⟨"SortWorks", "isKind", "(I)Z"⟩ ∈ sw_gw := p_mem (p_tb3 (List.mem_of_getElem? (i := 63) (by decide +kernel))) (by decide +kernel)
theorem tw_3_65 : Cond.methodLink "SortWorks" 71 ⟨"SortWorks", "isTakerKind", "(I)Z"⟩ ∈ sw_gw := p_mem (p_tb3 (List.mem_of_getElem? (i := 65) (by decide +kernel))) (by decide +kernel)
theorem tw_3_66 : Cond.static ⟨"SortWorks", "isTakerKind", "(I)Z"⟩ ∈ sw_gw := p_mem (p_tb3 (List.mem_of_getElem? (i := 66) (by decide +kernel))) (by decide +kernel)
theorem tw_3_68 : Cond.methodLink "SortWorks" 87 ⟨"SortWorks$Gear", "begin", "(I)V"⟩ ∈ sw_gw := p_mem (p_tb3 (List.mem_of_getElem? (i := 68) (by decide +kernel))) (by decide +kernel)
theorem tw_3_69 : Cond.instanceMethod ⟨"SortWorks$Gear", "begin", "(I)V"⟩ ∈ sw_gw := p_mem (p_tb3 (List.mem_of_getElem? (i := 69) (by decide +kernel))) (by decide +kernel)
theorem tw_3_70 : Cond.selects "SortWorks$Gear" ⟨"SortWorks$Gear", "begin", "(I)V"⟩ ⟨"SortWorks$Gear", "begin", "(I)V"⟩ ∈ sw_gw := p_mem (p_tb3 (List.mem_of_getElem? (i := 70) (by decide +kernel))) (by decide +kernel)
theorem tw_3_74 : Cond.methodLink "SortWorks" 95 ⟨"SortWorks", "built", "(I)I"⟩ ∈ sw_gw := p_mem (p_tb3 (List.mem_of_getElem? (i := 74) (by decide +kernel))) (by decide +kernel)
theorem tw_3_76 : Cond.instanceMethod ⟨"SortWorks", "built", "(I)I"⟩ ∈ sw_gw := p_mem (p_tb3 (List.mem_of_getElem? (i := 76) (by decide +kernel))) (by decide +kernel)
theorem tw_3_78 : Cond.methodLink "SortWorks" 54 ⟨"SortWorks$Works", "forget", "()V"⟩ ∈ sw_gw := p_mem (p_tb3 (List.mem_of_getElem? (i := 78) (by decide +kernel))) (by decide +kernel)
theorem tw_3_79 : Cond.instanceMethod ⟨"SortWorks$Works", "forget", "()V"⟩ ∈ sw_gw := p_mem (p_tb3 (List.mem_of_getElem? (i := 79) (by decide +kernel))) (by decide +kernel)
theorem tw_3_80 : Cond.selects "SortWorks$Works" ⟨"SortWorks$Works", "forget", "()V"⟩ ⟨"SortWorks$Works", "forget", "()V"⟩ ∈ sw_gw := p_mem (p_tb3 (List.mem_of_getElem? (i := 80) (by decide +kernel))) (by decide +kernel)
theorem tw_3_82 : Cond.methodLink "SortWorksLaw" 23 ⟨"SortWorks", "links", "(II)I"⟩ ∈ sw_gw := p_mem (p_tb3 (List.mem_of_getElem? (i := 82) (by decide +kernel))) (by decide +kernel)
theorem tw_3_83 : Cond.instanceMethod ⟨"SortWorks", "links", "(II)I"⟩ ∈ sw_gw := p_mem (p_tb3 (List.mem_of_getElem? (i := 83) (by decide +kernel))) (by decide +kernel)
theorem tw_3_84 : Cond.selects "SortWorks" ⟨"SortWorks", "links", "(II)I"⟩ ⟨"SortWorks", "links", "(II)I"⟩ ∈ sw_gw := p_mem (p_tb3 (List.mem_of_getElem? (i := 84) (by decide +kernel))) (by decide +kernel)
theorem tw_3_86 : Cond.methodLink "SortWorks" 98 ⟨"SortWorks$Works", "gearOf", "(I)LSortWorks$Gear;"⟩ ∈ sw_gw := p_mem (p_tb3 (List.mem_of_getElem? (i := 86) (by decide +kernel))) (by decide +kernel)
theorem tw_3_87 : Cond.instanceMethod ⟨"SortWorks$Works", "gearOf", "(I)LSortWorks$Gear;"⟩ ∈ sw_gw := p_mem (p_tb3 (List.mem_of_getElem? (i := 87) (by decide +kernel))) (by decide +kernel)
theorem tw_3_88 : Cond.selects "SortWorks$Works" ⟨"SortWorks$Works", "gearOf", "(I)LSortWorks$Gear;"⟩ ⟨"SortWorks$Works", "gearOf", "(I)LSortWorks$Gear;"⟩ ∈ sw_gw := p_mem (p_tb3 (List.mem_of_getElem? (i := 88) (by decide +kernel))) (by decide +kernel)
theorem tw_3_90 : Cond.methodLink "SortWorks" 105 ⟨"java/util/Arrays", "fill", "([II)V"⟩ ∈ sw_gw := p_mem (p_tb3 (List.mem_of_getElem? (i := 90) (by decide +kernel))) (by decide +kernel)
theorem tw_3_91 : Cond.static ⟨"java/util/Arrays", "fill", "([II)V"⟩ ∈ sw_gw := p_mem (p_tb3 (List.mem_of_getElem? (i := 91) (by decide +kernel))) (by decide +kernel)
theorem tw_3_93 : Cond.methodLink "SortWorksLaw" 27 ⟨"SortWorks", "link", "(III)I"⟩ ∈ sw_gw := p_mem (p_tb3 (List.mem_of_getElem? (i := 93) (by decide +kernel))) (by decide +kernel)
theorem tw_3_94 : Cond.instanceMethod ⟨"SortWorks", "link", "(III)I"⟩ ∈ sw_gw := p_mem (p_tb3 (List.mem_of_getElem? (i := 94) (by decide +kernel))) (by decide +kernel)
theorem tw_3_95 : Cond.selects "SortWorks" ⟨"SortWorks", "link", "(III)I"⟩ ⟨"SortWorks", "link", "(III)I"⟩ ∈ sw_gw := p_mem (p_tb3 (List.mem_of_getElem? (i := 95) (by decide +kernel))) (by decide +kernel)
theorem tw_3_97 : Cond.methodLink "SortWorksLaw" 32 ⟨"SortWorks", "aim", "(IIIZ)I"⟩ ∈ sw_gw := p_mem (p_tb3 (List.mem_of_getElem? (i := 97) (by decide +kernel))) (by decide +kernel)
theorem tw_3_98 : Cond.instanceMethod ⟨"SortWorks", "aim", "(IIIZ)I"⟩ ∈ sw_gw := p_mem (p_tb3 (List.mem_of_getElem? (i := 98) (by decide +kernel))) (by decide +kernel)
theorem tw_3_99 : Cond.selects "SortWorks" ⟨"SortWorks", "aim", "(IIIZ)I"⟩ ⟨"SortWorks", "aim", "(IIIZ)I"⟩ ∈ sw_gw := p_mem (p_tb3 (List.mem_of_getElem? (i := 99) (by decide +kernel))) (by decide +kernel)
theorem tw_3_101 : Cond.methodLink "SortWorks" 111 ⟨"SortWorks$Gear", "isDivert", "()Z"⟩ ∈ sw_gw := p_mem (p_tb3 (List.mem_of_getElem? (i := 101) (by decide +kernel))) (by decide +kernel)
theorem tw_3_102 : Cond.instanceMethod ⟨"SortWorks$Gear", "isDivert", "()Z"⟩ ∈ sw_gw := p_mem (p_tb3 (List.mem_of_getElem? (i := 102) (by decide +kernel))) (by decide +kernel)
theorem tw_3_103 : Cond.selects "SortWorks$Gear" ⟨"SortWorks$Gear", "isDivert", "()Z"⟩ ⟨"SortWorks$Gear", "isDivert", "()Z"⟩ ∈ sw_gw := p_mem (p_tb3 (List.mem_of_getElem? (i := 103) (by decide +kernel))) (by decide +kernel)
theorem tw_3_105 : Cond.methodLink "SortWorks" 115 ⟨"SortWorks$Gear", "hasSide", "(I)Z"⟩ ∈ sw_gw := p_mem (p_tb3 (List.mem_of_getElem? (i := 105) (by decide +kernel))) (by decide +kernel)
theorem tw_3_106 : Cond.instanceMethod ⟨"SortWorks$Gear", "hasSide", "(I)Z"⟩ ∈ sw_gw := p_mem (p_tb3 (List.mem_of_getElem? (i := 106) (by decide +kernel))) (by decide +kernel)
theorem tw_3_107 : Cond.selects "SortWorks$Gear" ⟨"SortWorks$Gear", "hasSide", "(I)Z"⟩ ⟨"SortWorks$Gear", "hasSide", "(I)Z"⟩ ∈ sw_gw := p_mem (p_tb3 (List.mem_of_getElem? (i := 107) (by decide +kernel))) (by decide +kernel)
theorem tw_3_111 : Cond.methodLink "SortWorks" 118 ⟨"SortWorks$Gear", "aims", "(II)Z"⟩ ∈ sw_gw := p_mem (p_tb3 (List.mem_of_getElem? (i := 111) (by decide +kernel))) (by decide +kernel)
theorem tw_3_112 : Cond.instanceMethod ⟨"SortWorks$Gear", "aims", "(II)Z"⟩ ∈ sw_gw := p_mem (p_tb3 (List.mem_of_getElem? (i := 112) (by decide +kernel))) (by decide +kernel)
theorem tw_3_113 : Cond.selects "SortWorks$Gear" ⟨"SortWorks$Gear", "aims", "(II)Z"⟩ ⟨"SortWorks$Gear", "aims", "(II)Z"⟩ ∈ sw_gw := p_mem (p_tb3 (List.mem_of_getElem? (i := 113) (by decide +kernel))) (by decide +kernel)
theorem tw_3_115 : Cond.methodLink "SortWorks" 122 ⟨"SortWorks$Gear", "aimAt", "(IIZ)V"⟩ ∈ sw_gw := p_mem (p_tb3 (List.mem_of_getElem? (i := 115) (by decide +kernel))) (by decide +kernel)
theorem tw_3_116 : Cond.instanceMethod ⟨"SortWorks$Gear", "aimAt", "(IIZ)V"⟩ ∈ sw_gw := p_mem (p_tb3 (List.mem_of_getElem? (i := 116) (by decide +kernel))) (by decide +kernel)
theorem tw_3_117 : Cond.selects "SortWorks$Gear" ⟨"SortWorks$Gear", "aimAt", "(IIZ)V"⟩ ⟨"SortWorks$Gear", "aimAt", "(IIZ)V"⟩ ∈ sw_gw := p_mem (p_tb3 (List.mem_of_getElem? (i := 117) (by decide +kernel))) (by decide +kernel)
theorem tw_3_119 : Cond.constantLong "SortWorks$Gear" 111 (-1 : Int64) ∈ sw_gw := p_mem (p_tb3 (List.mem_of_getElem? (i := 119) (by decide +kernel))) (by decide +kernel)
theorem tw_3_120 : Cond.methodLink "SortWorksLaw" 37 ⟨"SortWorks", "rank", "(II)I"⟩ ∈ sw_gw := p_mem (p_tb3 (List.mem_of_getElem? (i := 120) (by decide +kernel))) (by decide +kernel)
theorem tw_3_121 : Cond.instanceMethod ⟨"SortWorks", "rank", "(II)I"⟩ ∈ sw_gw := p_mem (p_tb3 (List.mem_of_getElem? (i := 121) (by decide +kernel))) (by decide +kernel)
theorem tw_3_122 : Cond.selects "SortWorks" ⟨"SortWorks", "rank", "(II)I"⟩ ⟨"SortWorks", "rank", "(II)I"⟩ ∈ sw_gw := p_mem (p_tb3 (List.mem_of_getElem? (i := 122) (by decide +kernel))) (by decide +kernel)
theorem tw_3_124 : Cond.methodLink "SortWorks" 126 ⟨"SortWorks$Gear", "isTaker", "()Z"⟩ ∈ sw_gw := p_mem (p_tb3 (List.mem_of_getElem? (i := 124) (by decide +kernel))) (by decide +kernel)
theorem tw_3_125 : Cond.instanceMethod ⟨"SortWorks$Gear", "isTaker", "()Z"⟩ ∈ sw_gw := p_mem (p_tb3 (List.mem_of_getElem? (i := 125) (by decide +kernel))) (by decide +kernel)
theorem tw_3_126 : Cond.selects "SortWorks$Gear" ⟨"SortWorks$Gear", "isTaker", "()Z"⟩ ⟨"SortWorks$Gear", "isTaker", "()Z"⟩ ∈ sw_gw := p_mem (p_tb3 (List.mem_of_getElem? (i := 126) (by decide +kernel))) (by decide +kernel)
theorem tw_3_129 : Cond.methodLink "SortWorksLaw" 41 ⟨"SortWorks", "refit", "(II)I"⟩ ∈ sw_gw := p_mem (p_tb3 (List.mem_of_getElem? (i := 129) (by decide +kernel))) (by decide +kernel)
theorem tw_3_130 : Cond.instanceMethod ⟨"SortWorks", "refit", "(II)I"⟩ ∈ sw_gw := p_mem (p_tb3 (List.mem_of_getElem? (i := 130) (by decide +kernel))) (by decide +kernel)
theorem tw_3_131 : Cond.selects "SortWorks" ⟨"SortWorks", "refit", "(II)I"⟩ ⟨"SortWorks", "refit", "(II)I"⟩ ∈ sw_gw := p_mem (p_tb3 (List.mem_of_getElem? (i := 131) (by decide +kernel))) (by decide +kernel)
theorem tw_3_133 : Cond.methodLink "SortWorks" 132 ⟨"SortWorks$Gear", "parcels", "()I"⟩ ∈ sw_gw := p_mem (p_tb3 (List.mem_of_getElem? (i := 133) (by decide +kernel))) (by decide +kernel)
theorem tw_3_134 : Cond.instanceMethod ⟨"SortWorks$Gear", "parcels", "()I"⟩ ∈ sw_gw := p_mem (p_tb3 (List.mem_of_getElem? (i := 134) (by decide +kernel))) (by decide +kernel)
theorem tw_3_135 : Cond.selects "SortWorks$Gear" ⟨"SortWorks$Gear", "parcels", "()I"⟩ ⟨"SortWorks$Gear", "parcels", "()I"⟩ ∈ sw_gw := p_mem (p_tb3 (List.mem_of_getElem? (i := 135) (by decide +kernel))) (by decide +kernel)
theorem tw_3_137 : Cond.methodLink "SortWorksLaw" 45 ⟨"SortWorks", "copy", "(I)I"⟩ ∈ sw_gw := p_mem (p_tb3 (List.mem_of_getElem? (i := 137) (by decide +kernel))) (by decide +kernel)
theorem tw_3_138 : Cond.instanceMethod ⟨"SortWorks", "copy", "(I)I"⟩ ∈ sw_gw := p_mem (p_tb3 (List.mem_of_getElem? (i := 138) (by decide +kernel))) (by decide +kernel)
theorem tw_3_139 : Cond.selects "SortWorks" ⟨"SortWorks", "copy", "(I)I"⟩ ⟨"SortWorks", "copy", "(I)I"⟩ ∈ sw_gw := p_mem (p_tb3 (List.mem_of_getElem? (i := 139) (by decide +kernel))) (by decide +kernel)
theorem tw_3_141 : Cond.methodLink "SortWorks" 139 ⟨"SortWorks$Works", "buildLike", "(LSortWorks$Works;)V"⟩ ∈ sw_gw := p_mem (p_tb3 (List.mem_of_getElem? (i := 141) (by decide +kernel))) (by decide +kernel)
theorem tw_3_142 : Cond.instanceMethod ⟨"SortWorks$Works", "buildLike", "(LSortWorks$Works;)V"⟩ ∈ sw_gw := p_mem (p_tb3 (List.mem_of_getElem? (i := 142) (by decide +kernel))) (by decide +kernel)
theorem tw_3_143 : Cond.selects "SortWorks$Works" ⟨"SortWorks$Works", "buildLike", "(LSortWorks$Works;)V"⟩ ⟨"SortWorks$Works", "buildLike", "(LSortWorks$Works;)V"⟩ ∈ sw_gw := p_mem (p_tb3 (List.mem_of_getElem? (i := 143) (by decide +kernel))) (by decide +kernel)
theorem tw_3_145 : Cond.methodLink "SortWorks$Works" 64 ⟨"SortWorks$Gear", "buildAs", "(LSortWorks$Gear;)V"⟩ ∈ sw_gw := p_mem (p_tb3 (List.mem_of_getElem? (i := 145) (by decide +kernel))) (by decide +kernel)
theorem tw_3_146 : Cond.instanceMethod ⟨"SortWorks$Gear", "buildAs", "(LSortWorks$Gear;)V"⟩ ∈ sw_gw := p_mem (p_tb3 (List.mem_of_getElem? (i := 146) (by decide +kernel))) (by decide +kernel)
theorem tw_3_147 : Cond.selects "SortWorks$Gear" ⟨"SortWorks$Gear", "buildAs", "(LSortWorks$Gear;)V"⟩ ⟨"SortWorks$Gear", "buildAs", "(LSortWorks$Gear;)V"⟩ ∈ sw_gw := p_mem (p_tb3 (List.mem_of_getElem? (i := 147) (by decide +kernel))) (by decide +kernel)
theorem tw_3_149 : Cond.methodLink "SortWorks$Gear" 69 ⟨"SortWorks$Gear", "begin", "(I)V"⟩ ∈ sw_gw := p_mem (p_tb3 (List.mem_of_getElem? (i := 149) (by decide +kernel))) (by decide +kernel)
theorem tw_3_150 : Cond.methodLink "SortWorks$Gear" 79 ⟨"java/util/Arrays", "copyOf", "([II)[I"⟩ ∈ sw_gw := p_mem (p_tb3 (List.mem_of_getElem? (i := 150) (by decide +kernel))) (by decide +kernel)
theorem tw_3_151 : Cond.static ⟨"java/util/Arrays", "copyOf", "([II)[I"⟩ ∈ sw_gw := p_mem (p_tb3 (List.mem_of_getElem? (i := 151) (by decide +kernel))) (by decide +kernel)
theorem tw_3_153 : Cond.methodLink "java/util/Arrays" 316 ⟨"[I", "clone", "()Ljava/lang/Object;"⟩ ∈ sw_gw := p_mem (p_tb3 (List.mem_of_getElem? (i := 153) (by decide +kernel))) (by decide +kernel)
theorem tw_3_154 : Cond.sameMethod "[I" "java/lang/Object" "clone" "()Ljava/lang/Object;" ∈ sw_gw := p_mem (p_tb3 (List.mem_of_getElem? (i := 154) (by decide +kernel))) (by decide +kernel)
theorem tw_3_155 : Cond.native ⟨"java/lang/Object", "clone", "()Ljava/lang/Object;"⟩ ∈ sw_gw := p_mem (p_tb3 (List.mem_of_getElem? (i := 155) (by decide +kernel))) (by decide +kernel)
theorem tw_3_156 : Cond.instanceMethod ⟨"java/lang/Object", "clone", "()Ljava/lang/Object;"⟩ ∈ sw_gw := p_mem (p_tb3 (List.mem_of_getElem? (i := 156) (by decide +kernel))) (by decide +kernel)
theorem tw_3_157 : Cond.selects "[I" ⟨"[I", "clone", "()Ljava/lang/Object;"⟩ ⟨"java/lang/Object", "clone", "()Ljava/lang/Object;"⟩ ∈ sw_gw := p_mem (p_tb3 (List.mem_of_getElem? (i := 157) (by decide +kernel))) (by decide +kernel)
theorem tw_3_159 : Cond.classLink "java/util/Arrays" 317 "[I" ∈ sw_gw := p_mem (p_tb3 (List.mem_of_getElem? (i := 159) (by decide +kernel))) (by decide +kernel)
theorem tw_3_160 : Cond.methodLink "java/util/Arrays" 304 ⟨"java/lang/Math", "min", "(II)I"⟩ ∈ sw_gw := p_mem (p_tb3 (List.mem_of_getElem? (i := 160) (by decide +kernel))) (by decide +kernel)
theorem tw_3_161 : Cond.static ⟨"java/lang/Math", "min", "(II)I"⟩ ∈ sw_gw := p_mem (p_tb3 (List.mem_of_getElem? (i := 161) (by decide +kernel))) (by decide +kernel)
theorem tw_3_163 : Cond.methodLink "java/util/Arrays" 150 ⟨"java/lang/System", "arraycopy", "(Ljava/lang/Object;ILjava/lang/Object;II)V"⟩ ∈ sw_gw := p_mem (p_tb3 (List.mem_of_getElem? (i := 163) (by decide +kernel))) (by decide +kernel)
theorem tw_3_164 : Cond.static ⟨"java/lang/System", "arraycopy", "(Ljava/lang/Object;ILjava/lang/Object;II)V"⟩ ∈ sw_gw := p_mem (p_tb3 (List.mem_of_getElem? (i := 164) (by decide +kernel))) (by decide +kernel)
theorem tw_3_165 : Cond.native ⟨"java/lang/System", "arraycopy", "(Ljava/lang/Object;ILjava/lang/Object;II)V"⟩ ∈ sw_gw := p_mem (p_tb3 (List.mem_of_getElem? (i := 165) (by decide +kernel))) (by decide +kernel)
theorem tw_3_166 : Cond.methodLink "SortWorks$Works" 70 ⟨"SortWorks$Works", "ruleBy", "(LSortWorks$Rules;)V"⟩ ∈ sw_gw := p_mem (p_tb3 (List.mem_of_getElem? (i := 166) (by decide +kernel))) (by decide +kernel)
theorem tw_3_167 : Cond.instanceMethod ⟨"SortWorks$Works", "ruleBy", "(LSortWorks$Rules;)V"⟩ ∈ sw_gw := p_mem (p_tb3 (List.mem_of_getElem? (i := 167) (by decide +kernel))) (by decide +kernel)
theorem tw_3_168 : Cond.selects "SortWorks$Works" ⟨"SortWorks$Works", "ruleBy", "(LSortWorks$Rules;)V"⟩ ⟨"SortWorks$Works", "ruleBy", "(LSortWorks$Rules;)V"⟩ ∈ sw_gw := p_mem (p_tb3 (List.mem_of_getElem? (i := 168) (by decide +kernel))) (by decide +kernel)
theorem tw_3_170 : Cond.methodLink "SortWorks$Works" 83 ⟨"SortWorks$Rules", "becomeAs", "(LSortWorks$Rules;)V"⟩ ∈ sw_gw := p_mem (p_tb3 (List.mem_of_getElem? (i := 170) (by decide +kernel))) (by decide +kernel)
theorem tw_3_171 : Cond.instanceMethod ⟨"SortWorks$Rules", "becomeAs", "(LSortWorks$Rules;)V"⟩ ∈ sw_gw := p_mem (p_tb3 (List.mem_of_getElem? (i := 171) (by decide +kernel))) (by decide +kernel)
theorem tw_3_172 : Cond.selects "SortWorks$Rules" ⟨"SortWorks$Rules", "becomeAs", "(LSortWorks$Rules;)V"⟩ ⟨"SortWorks$Rules", "becomeAs", "(LSortWorks$Rules;)V"⟩ ∈ sw_gw := p_mem (p_tb3 (List.mem_of_getElem? (i := 172) (by decide +kernel))) (by decide +kernel)
theorem tw_3_174 : Cond.methodLink "SortWorks$Rules" 37 ⟨"java/lang/System", "arraycopy", "(Ljava/lang/Object;ILjava/lang/Object;II)V"⟩ ∈ sw_gw := p_mem (p_tb3 (List.mem_of_getElem? (i := 174) (by decide +kernel))) (by decide +kernel)
theorem tw_3_175 : Cond.methodLink "SortWorks$Works" 89 ⟨"java/util/Arrays", "fill", "([II)V"⟩ ∈ sw_gw := p_mem (p_tb3 (List.mem_of_getElem? (i := 175) (by decide +kernel))) (by decide +kernel)
theorem tw_3_176 : Cond.methodLink "SortWorks$Works" 77 ⟨"java/lang/System", "arraycopy", "(Ljava/lang/Object;ILjava/lang/Object;II)V"⟩ ∈ sw_gw := p_mem (p_tb3 (List.mem_of_getElem? (i := 176) (by decide +kernel))) (by decide +kernel)
theorem tw_3_177 : Cond.methodLink "SortWorksLaw" 49 ⟨"SortWorks", "letter", "(I)I"⟩ ∈ sw_gw := p_mem (p_tb3 (List.mem_of_getElem? (i := 177) (by decide +kernel))) (by decide +kernel)
theorem tw_3_178 : Cond.instanceMethod ⟨"SortWorks", "letter", "(I)I"⟩ ∈ sw_gw := p_mem (p_tb3 (List.mem_of_getElem? (i := 178) (by decide +kernel))) (by decide +kernel)
theorem tw_3_179 : Cond.selects "SortWorks" ⟨"SortWorks", "letter", "(I)I"⟩ ⟨"SortWorks", "letter", "(I)I"⟩ ∈ sw_gw := p_mem (p_tb3 (List.mem_of_getElem? (i := 179) (by decide +kernel))) (by decide +kernel)
theorem tw_3_181 : Cond.methodLink "SortWorksLaw" 53 ⟨"SortWorks", "load", "()I"⟩ ∈ sw_gw := p_mem (p_tb3 (List.mem_of_getElem? (i := 181) (by decide +kernel))) (by decide +kernel)
theorem tw_3_182 : Cond.instanceMethod ⟨"SortWorks", "load", "()I"⟩ ∈ sw_gw := p_mem (p_tb3 (List.mem_of_getElem? (i := 182) (by decide +kernel))) (by decide +kernel)
theorem tw_3_183 : Cond.selects "SortWorks" ⟨"SortWorks", "load", "()I"⟩ ⟨"SortWorks", "load", "()I"⟩ ∈ sw_gw := p_mem (p_tb3 (List.mem_of_getElem? (i := 183) (by decide +kernel))) (by decide +kernel)
theorem tw_3_185 : Cond.methodLink "SortWorks" 146 ⟨"SortWorks$Judge", "wrongPlace", "([II)I"⟩ ∈ sw_gw := p_mem (p_tb3 (List.mem_of_getElem? (i := 185) (by decide +kernel))) (by decide +kernel)
theorem tw_3_186 : Cond.instanceMethod ⟨"SortWorks$Judge", "wrongPlace", "([II)I"⟩ ∈ sw_gw := p_mem (p_tb3 (List.mem_of_getElem? (i := 186) (by decide +kernel))) (by decide +kernel)
theorem tw_3_187 : Cond.selects "SortWorks$Judge" ⟨"SortWorks$Judge", "wrongPlace", "([II)I"⟩ ⟨"SortWorks$Judge", "wrongPlace", "([II)I"⟩ ∈ sw_gw := p_mem (p_tb3 (List.mem_of_getElem? (i := 187) (by decide +kernel))) (by decide +kernel)
theorem tw_3_189 : Cond.methodLink "SortWorks$Judge" 32 ⟨"SortWorks$Judge", "takeRule", "(I)Z"⟩ ∈ sw_gw := p_mem (p_tb3 (List.mem_of_getElem? (i := 189) (by decide +kernel))) (by decide +kernel)
theorem tw_3_191 : Cond.instanceMethod ⟨"SortWorks$Judge", "takeRule", "(I)Z"⟩ ∈ sw_gw := p_mem (p_tb3 (List.mem_of_getElem? (i := 191) (by decide +kernel))) (by decide +kernel)
theorem tw_3_193 : Cond.methodLink "SortWorks$Judge" 42 ⟨"SortWorks$Judge", "next", "()I"⟩ ∈ sw_gw := p_mem (p_tb3 (List.mem_of_getElem? (i := 193) (by decide +kernel))) (by decide +kernel)
theorem tw_3_195 : Cond.instanceMethod ⟨"SortWorks$Judge", "next", "()I"⟩ ∈ sw_gw := p_mem (p_tb3 (List.mem_of_getElem? (i := 195) (by decide +kernel))) (by decide +kernel)
theorem tw_3_197 : Cond.methodLink "SortWorks$Judge" 46 ⟨"SortWorks$Judge", "takeTests", "(I)Z"⟩ ∈ sw_gw := p_mem (p_tb3 (List.mem_of_getElem? (i := 197) (by decide +kernel))) (by decide +kernel)
theorem tw_3_199 : Cond.instanceMethod ⟨"SortWorks$Judge", "takeTests", "(I)Z"⟩ ∈ sw_gw := p_mem (p_tb3 (List.mem_of_getElem? (i := 199) (by decide +kernel))) (by decide +kernel)
theorem tw_3_201 : Cond.methodLink "SortWorks$Judge" 55 ⟨"SortWorks$Judge", "takeTest", "(I)Z"⟩ ∈ sw_gw := p_mem (p_tb3 (List.mem_of_getElem? (i := 201) (by decide +kernel))) (by decide +kernel)
theorem tw_3_203 : Cond.instanceMethod ⟨"SortWorks$Judge", "takeTest", "(I)Z"⟩ ∈ sw_gw := p_mem (p_tb3 (List.mem_of_getElem? (i := 203) (by decide +kernel))) (by decide +kernel)
theorem tw_3_205 : Cond.methodLink "SortWorks$Judge" 49 ⟨"SortWorks$Judge", "take", "(I)Z"⟩ ∈ sw_gw := p_mem (p_tb3 (List.mem_of_getElem? (i := 205) (by decide +kernel))) (by decide +kernel)
theorem tw_3_207 : Cond.instanceMethod ⟨"SortWorks$Judge", "take", "(I)Z"⟩ ∈ sw_gw := p_mem (p_tb3 (List.mem_of_getElem? (i := 207) (by decide +kernel))) (by decide +kernel)
theorem tw_3_209 : Cond.methodLink "SortWorks$Judge" 64 ⟨"SortWorks$Judge", "takeNumber", "()I"⟩ ∈ sw_gw := p_mem (p_tb3 (List.mem_of_getElem? (i := 209) (by decide +kernel))) (by decide +kernel)
theorem tw_3_211 : Cond.instanceMethod ⟨"SortWorks$Judge", "takeNumber", "()I"⟩ ∈ sw_gw := p_mem (p_tb3 (List.mem_of_getElem? (i := 211) (by decide +kernel))) (by decide +kernel)
theorem tw_3_213 : Cond.methodLink "SortWorks$Judge" 52 ⟨"SortWorks$Judge", "takeTold", "(I)Z"⟩ ∈ sw_gw := p_mem (p_tb3 (List.mem_of_getElem? (i := 213) (by decide +kernel))) (by decide +kernel)
theorem tw_3_215 : Cond.instanceMethod ⟨"SortWorks$Judge", "takeTold", "(I)Z"⟩ ∈ sw_gw := p_mem (p_tb3 (List.mem_of_getElem? (i := 215) (by decide +kernel))) (by decide +kernel)
theorem tw_3_217 : Cond.methodLink "SortWorks" 154 ⟨"SortWorks$Works", "ruleBy", "(LSortWorks$Rules;)V"⟩ ∈ sw_gw := p_mem (p_tb3 (List.mem_of_getElem? (i := 217) (by decide +kernel))) (by decide +kernel)
theorem tw_3_218 : Cond.methodLink "SortWorksLaw" 58 ⟨"SortWorks", "plan", "(IIIII)I"⟩ ∈ sw_gw := p_mem (p_tb3 (List.mem_of_getElem? (i := 218) (by decide +kernel))) (by decide +kernel)
theorem tw_3_219 : Cond.instanceMethod ⟨"SortWorks", "plan", "(IIIII)I"⟩ ∈ sw_gw := p_mem (p_tb3 (List.mem_of_getElem? (i := 219) (by decide +kernel))) (by decide +kernel)
theorem tw_3_220 : Cond.selects "SortWorks" ⟨"SortWorks", "plan", "(IIIII)I"⟩ ⟨"SortWorks", "plan", "(IIIII)I"⟩ ∈ sw_gw := p_mem (p_tb3 (List.mem_of_getElem? (i := 220) (by decide +kernel))) (by decide +kernel)
theorem tw_3_222 : Cond.methodLink "SortWorksLaw" 63 ⟨"SortWorks", "come", "(III)I"⟩ ∈ sw_gw := p_mem (p_tb3 (List.mem_of_getElem? (i := 222) (by decide +kernel))) (by decide +kernel)
theorem tw_3_223 : Cond.instanceMethod ⟨"SortWorks", "come", "(III)I"⟩ ∈ sw_gw := p_mem (p_tb3 (List.mem_of_getElem? (i := 223) (by decide +kernel))) (by decide +kernel)
theorem tw_3_224 : Cond.selects "SortWorks" ⟨"SortWorks", "come", "(III)I"⟩ ⟨"SortWorks", "come", "(III)I"⟩ ∈ sw_gw := p_mem (p_tb3 (List.mem_of_getElem? (i := 224) (by decide +kernel))) (by decide +kernel)
theorem tw_3_226 : Cond.methodLink "SortWorks" 174 ⟨"SortWorks$Gear", "isChute", "()Z"⟩ ∈ sw_gw := p_mem (p_tb3 (List.mem_of_getElem? (i := 226) (by decide +kernel))) (by decide +kernel)
theorem tw_3_227 : Cond.instanceMethod ⟨"SortWorks$Gear", "isChute", "()Z"⟩ ∈ sw_gw := p_mem (p_tb3 (List.mem_of_getElem? (i := 227) (by decide +kernel))) (by decide +kernel)
theorem tw_3_228 : Cond.selects "SortWorks$Gear" ⟨"SortWorks$Gear", "isChute", "()Z"⟩ ⟨"SortWorks$Gear", "isChute", "()Z"⟩ ∈ sw_gw := p_mem (p_tb3 (List.mem_of_getElem? (i := 228) (by decide +kernel))) (by decide +kernel)
theorem tw_3_230 : Cond.methodLink "SortWorks" 177 ⟨"SortWorks$Gear", "isFreeAtStart", "()Z"⟩ ∈ sw_gw := p_mem (p_tb3 (List.mem_of_getElem? (i := 230) (by decide +kernel))) (by decide +kernel)
theorem tw_3_231 : Cond.instanceMethod ⟨"SortWorks$Gear", "isFreeAtStart", "()Z"⟩ ∈ sw_gw := p_mem (p_tb3 (List.mem_of_getElem? (i := 231) (by decide +kernel))) (by decide +kernel)
theorem tw_3_232 : Cond.selects "SortWorks$Gear" ⟨"SortWorks$Gear", "isFreeAtStart", "()Z"⟩ ⟨"SortWorks$Gear", "isFreeAtStart", "()Z"⟩ ∈ sw_gw := p_mem (p_tb3 (List.mem_of_getElem? (i := 232) (by decide +kernel))) (by decide +kernel)
theorem tw_3_234 : Cond.methodLink "SortWorks" 180 ⟨"SortWorks", "newParcel", "()LSortWorks$Parcel;"⟩ ∈ sw_gw := p_mem (p_tb3 (List.mem_of_getElem? (i := 234) (by decide +kernel))) (by decide +kernel)
theorem tw_3_236 : Cond.instanceMethod ⟨"SortWorks", "newParcel", "()LSortWorks$Parcel;"⟩ ∈ sw_gw := p_mem (p_tb3 (List.mem_of_getElem? (i := 236) (by decide +kernel))) (by decide +kernel)
theorem tw_3_238 : Cond.methodLink "SortWorks" 191 ⟨"SortWorks$State", "freeParcel", "()LSortWorks$Parcel;"⟩ ∈ sw_gw := p_mem (p_tb3 (List.mem_of_getElem? (i := 238) (by decide +kernel))) (by decide +kernel)
theorem tw_3_239 : Cond.instanceMethod ⟨"SortWorks$State", "freeParcel", "()LSortWorks$Parcel;"⟩ ∈ sw_gw := p_mem (p_tb3 (List.mem_of_getElem? (i := 239) (by decide +kernel))) (by decide +kernel)
theorem tw_4_0 : Cond.selects "SortWorks$State" ⟨"SortWorks$State", "freeParcel", "()LSortWorks$Parcel;"⟩ ⟨"SortWorks$State", "freeParcel", "()LSortWorks$Parcel;"⟩ ∈ sw_gw := p_mem (p_tb4 (List.mem_of_getElem? (i := 0) (by decide +kernel))) (by decide +kernel)
theorem tw_4_2 : Cond.methodLink "SortWorks" 197 ⟨"SortWorks$Numbers", "giveTo", "(I)I"⟩ ∈ sw_gw := p_mem (p_tb4 (List.mem_of_getElem? (i := 2) (by decide +kernel))) (by decide +kernel)
theorem tw_4_3 : Cond.instanceMethod ⟨"SortWorks$Numbers", "giveTo", "(I)I"⟩ ∈ sw_gw := p_mem (p_tb4 (List.mem_of_getElem? (i := 3) (by decide +kernel))) (by decide +kernel)
theorem tw_4_4 : Cond.selects "SortWorks$Numbers" ⟨"SortWorks$Numbers", "giveTo", "(I)I"⟩ ⟨"SortWorks$Numbers", "giveTo", "(I)I"⟩ ∈ sw_gw := p_mem (p_tb4 (List.mem_of_getElem? (i := 4) (by decide +kernel))) (by decide +kernel)
theorem tw_4_6 : Cond.methodLink "SortWorks$Numbers" 19 ⟨"SortWorks$Numbers", "insideOf", "(I)I"⟩ ∈ sw_gw := p_mem (p_tb4 (List.mem_of_getElem? (i := 6) (by decide +kernel))) (by decide +kernel)
theorem tw_4_7 : Cond.static ⟨"SortWorks$Numbers", "insideOf", "(I)I"⟩ ∈ sw_gw := p_mem (p_tb4 (List.mem_of_getElem? (i := 7) (by decide +kernel))) (by decide +kernel)
theorem tw_4_9 : Cond.methodLink "SortWorks" 184 ⟨"SortWorks$State", "bringIn", "(LSortWorks$Parcel;III)V"⟩ ∈ sw_gw := p_mem (p_tb4 (List.mem_of_getElem? (i := 9) (by decide +kernel))) (by decide +kernel)
theorem tw_4_10 : Cond.instanceMethod ⟨"SortWorks$State", "bringIn", "(LSortWorks$Parcel;III)V"⟩ ∈ sw_gw := p_mem (p_tb4 (List.mem_of_getElem? (i := 10) (by decide +kernel))) (by decide +kernel)
theorem tw_4_11 : Cond.selects "SortWorks$State" ⟨"SortWorks$State", "bringIn", "(LSortWorks$Parcel;III)V"⟩ ⟨"SortWorks$State", "bringIn", "(LSortWorks$Parcel;III)V"⟩ ∈ sw_gw := p_mem (p_tb4 (List.mem_of_getElem? (i := 11) (by decide +kernel))) (by decide +kernel)
theorem tw_4_13 : Cond.methodLink "SortWorks$State" 100 ⟨"SortWorks$State", "setDown", "(LSortWorks$Parcel;I)V"⟩ ∈ sw_gw := p_mem (p_tb4 (List.mem_of_getElem? (i := 13) (by decide +kernel))) (by decide +kernel)
theorem tw_4_15 : Cond.instanceMethod ⟨"SortWorks$State", "setDown", "(LSortWorks$Parcel;I)V"⟩ ∈ sw_gw := p_mem (p_tb4 (List.mem_of_getElem? (i := 15) (by decide +kernel))) (by decide +kernel)
theorem tw_4_17 : Cond.methodLink "SortWorksLaw" 67 ⟨"SortWorks", "label", "(II)I"⟩ ∈ sw_gw := p_mem (p_tb4 (List.mem_of_getElem? (i := 17) (by decide +kernel))) (by decide +kernel)
theorem tw_4_18 : Cond.instanceMethod ⟨"SortWorks", "label", "(II)I"⟩ ∈ sw_gw := p_mem (p_tb4 (List.mem_of_getElem? (i := 18) (by decide +kernel))) (by decide +kernel)
theorem tw_4_19 : Cond.selects "SortWorks" ⟨"SortWorks", "label", "(II)I"⟩ ⟨"SortWorks", "label", "(II)I"⟩ ∈ sw_gw := p_mem (p_tb4 (List.mem_of_getElem? (i := 19) (by decide +kernel))) (by decide +kernel)
theorem tw_4_21 : Cond.methodLink "SortWorks" 200 ⟨"SortWorks$State", "find", "(I)LSortWorks$Parcel;"⟩ ∈ sw_gw := p_mem (p_tb4 (List.mem_of_getElem? (i := 21) (by decide +kernel))) (by decide +kernel)
theorem tw_4_22 : Cond.instanceMethod ⟨"SortWorks$State", "find", "(I)LSortWorks$Parcel;"⟩ ∈ sw_gw := p_mem (p_tb4 (List.mem_of_getElem? (i := 22) (by decide +kernel))) (by decide +kernel)
theorem tw_4_23 : Cond.selects "SortWorks$State" ⟨"SortWorks$State", "find", "(I)LSortWorks$Parcel;"⟩ ⟨"SortWorks$State", "find", "(I)LSortWorks$Parcel;"⟩ ∈ sw_gw := p_mem (p_tb4 (List.mem_of_getElem? (i := 23) (by decide +kernel))) (by decide +kernel)
theorem tw_4_25 : Cond.methodLink "SortWorksLaw" 71 ⟨"SortWorks", "put", "(III)I"⟩ ∈ sw_gw := p_mem (p_tb4 (List.mem_of_getElem? (i := 25) (by decide +kernel))) (by decide +kernel)
theorem tw_4_26 : Cond.instanceMethod ⟨"SortWorks", "put", "(III)I"⟩ ∈ sw_gw := p_mem (p_tb4 (List.mem_of_getElem? (i := 26) (by decide +kernel))) (by decide +kernel)
theorem tw_4_27 : Cond.selects "SortWorks" ⟨"SortWorks", "put", "(III)I"⟩ ⟨"SortWorks", "put", "(III)I"⟩ ∈ sw_gw := p_mem (p_tb4 (List.mem_of_getElem? (i := 27) (by decide +kernel))) (by decide +kernel)
theorem tw_4_29 : Cond.methodLink "SortWorksLaw" 75 ⟨"SortWorks", "tag", "(III)I"⟩ ∈ sw_gw := p_mem (p_tb4 (List.mem_of_getElem? (i := 29) (by decide +kernel))) (by decide +kernel)
theorem tw_4_30 : Cond.instanceMethod ⟨"SortWorks", "tag", "(III)I"⟩ ∈ sw_gw := p_mem (p_tb4 (List.mem_of_getElem? (i := 30) (by decide +kernel))) (by decide +kernel)
theorem tw_4_31 : Cond.selects "SortWorks" ⟨"SortWorks", "tag", "(III)I"⟩ ⟨"SortWorks", "tag", "(III)I"⟩ ∈ sw_gw := p_mem (p_tb4 (List.mem_of_getElem? (i := 31) (by decide +kernel))) (by decide +kernel)
theorem tw_4_33 : Cond.methodLink "SortWorks" 210 ⟨"SortWorks$Parcel", "write", "(II)V"⟩ ∈ sw_gw := p_mem (p_tb4 (List.mem_of_getElem? (i := 33) (by decide +kernel))) (by decide +kernel)
theorem tw_4_34 : Cond.instanceMethod ⟨"SortWorks$Parcel", "write", "(II)V"⟩ ∈ sw_gw := p_mem (p_tb4 (List.mem_of_getElem? (i := 34) (by decide +kernel))) (by decide +kernel)
theorem tw_4_35 : Cond.selects "SortWorks$Parcel" ⟨"SortWorks$Parcel", "write", "(II)V"⟩ ⟨"SortWorks$Parcel", "write", "(II)V"⟩ ∈ sw_gw := p_mem (p_tb4 (List.mem_of_getElem? (i := 35) (by decide +kernel))) (by decide +kernel)
theorem tw_4_37 : Cond.methodLink "SortWorks$Parcel" 56 ⟨"SortWorks$Parcel", "writeFormA", "(I)V"⟩ ∈ sw_gw := p_mem (p_tb4 (List.mem_of_getElem? (i := 37) (by decide +kernel))) (by decide +kernel)
theorem tw_4_39 : Cond.instanceMethod ⟨"SortWorks$Parcel", "writeFormA", "(I)V"⟩ ∈ sw_gw := p_mem (p_tb4 (List.mem_of_getElem? (i := 39) (by decide +kernel))) (by decide +kernel)
theorem tw_4_41 : Cond.methodLink "SortWorks$Parcel" 60 ⟨"SortWorks$Parcel", "writeFormB", "(I)V"⟩ ∈ sw_gw := p_mem (p_tb4 (List.mem_of_getElem? (i := 41) (by decide +kernel))) (by decide +kernel)
theorem tw_4_43 : Cond.instanceMethod ⟨"SortWorks$Parcel", "writeFormB", "(I)V"⟩ ∈ sw_gw := p_mem (p_tb4 (List.mem_of_getElem? (i := 43) (by decide +kernel))) (by decide +kernel)
theorem tw_4_45 : Cond.methodLink "SortWorksLaw" 79 ⟨"SortWorks", "door", "(IZ)I"⟩ ∈ sw_gw := p_mem (p_tb4 (List.mem_of_getElem? (i := 45) (by decide +kernel))) (by decide +kernel)
theorem tw_4_46 : Cond.instanceMethod ⟨"SortWorks", "door", "(IZ)I"⟩ ∈ sw_gw := p_mem (p_tb4 (List.mem_of_getElem? (i := 46) (by decide +kernel))) (by decide +kernel)
theorem tw_4_47 : Cond.selects "SortWorks" ⟨"SortWorks", "door", "(IZ)I"⟩ ⟨"SortWorks", "door", "(IZ)I"⟩ ∈ sw_gw := p_mem (p_tb4 (List.mem_of_getElem? (i := 47) (by decide +kernel))) (by decide +kernel)
theorem tw_4_49 : Cond.methodLink "SortWorksLaw" 84 ⟨"SortWorks", "turn", "(II)I"⟩ ∈ sw_gw := p_mem (p_tb4 (List.mem_of_getElem? (i := 49) (by decide +kernel))) (by decide +kernel)
theorem tw_4_50 : Cond.instanceMethod ⟨"SortWorks", "turn", "(II)I"⟩ ∈ sw_gw := p_mem (p_tb4 (List.mem_of_getElem? (i := 50) (by decide +kernel))) (by decide +kernel)
theorem tw_4_51 : Cond.selects "SortWorks" ⟨"SortWorks", "turn", "(II)I"⟩ ⟨"SortWorks", "turn", "(II)I"⟩ ∈ sw_gw := p_mem (p_tb4 (List.mem_of_getElem? (i := 51) (by decide +kernel))) (by decide +kernel)
theorem tw_4_53 : Cond.methodLink "SortWorksLaw" 88 ⟨"SortWorks", "release", "(II)I"⟩ ∈ sw_gw := p_mem (p_tb4 (List.mem_of_getElem? (i := 53) (by decide +kernel))) (by decide +kernel)
theorem tw_4_54 : Cond.instanceMethod ⟨"SortWorks", "release", "(II)I"⟩ ∈ sw_gw := p_mem (p_tb4 (List.mem_of_getElem? (i := 54) (by decide +kernel))) (by decide +kernel)
theorem tw_4_55 : Cond.selects "SortWorks" ⟨"SortWorks", "release", "(II)I"⟩ ⟨"SortWorks", "release", "(II)I"⟩ ∈ sw_gw := p_mem (p_tb4 (List.mem_of_getElem? (i := 55) (by decide +kernel))) (by decide +kernel)
theorem tw_4_57 : Cond.methodLink "SortWorksLaw" 92 ⟨"SortWorks", "clear", "(I)I"⟩ ∈ sw_gw := p_mem (p_tb4 (List.mem_of_getElem? (i := 57) (by decide +kernel))) (by decide +kernel)
theorem tw_4_58 : Cond.instanceMethod ⟨"SortWorks", "clear", "(I)I"⟩ ∈ sw_gw := p_mem (p_tb4 (List.mem_of_getElem? (i := 58) (by decide +kernel))) (by decide +kernel)
theorem tw_4_59 : Cond.selects "SortWorks" ⟨"SortWorks", "clear", "(I)I"⟩ ⟨"SortWorks", "clear", "(I)I"⟩ ∈ sw_gw := p_mem (p_tb4 (List.mem_of_getElem? (i := 59) (by decide +kernel))) (by decide +kernel)
theorem tw_4_61 : Cond.methodLink "SortWorks" 224 ⟨"SortWorks$State", "inLastSlot", "(LSortWorks$Gear;)LSortWorks$Parcel;"⟩ ∈ sw_gw := p_mem (p_tb4 (List.mem_of_getElem? (i := 61) (by decide +kernel))) (by decide +kernel)
theorem tw_4_62 : Cond.instanceMethod ⟨"SortWorks$State", "inLastSlot", "(LSortWorks$Gear;)LSortWorks$Parcel;"⟩ ∈ sw_gw := p_mem (p_tb4 (List.mem_of_getElem? (i := 62) (by decide +kernel))) (by decide +kernel)
theorem tw_4_63 : Cond.selects "SortWorks$State" ⟨"SortWorks$State", "inLastSlot", "(LSortWorks$Gear;)LSortWorks$Parcel;"⟩ ⟨"SortWorks$State", "inLastSlot", "(LSortWorks$Gear;)LSortWorks$Parcel;"⟩ ∈ sw_gw := p_mem (p_tb4 (List.mem_of_getElem? (i := 63) (by decide +kernel))) (by decide +kernel)
theorem tw_4_65 : Cond.methodLink "SortWorks$State" 81 ⟨"SortWorks$State", "inSlot", "(LSortWorks$Gear;I)LSortWorks$Parcel;"⟩ ∈ sw_gw := p_mem (p_tb4 (List.mem_of_getElem? (i := 65) (by decide +kernel))) (by decide +kernel)
theorem tw_4_66 : Cond.instanceMethod ⟨"SortWorks$State", "inSlot", "(LSortWorks$Gear;I)LSortWorks$Parcel;"⟩ ∈ sw_gw := p_mem (p_tb4 (List.mem_of_getElem? (i := 66) (by decide +kernel))) (by decide +kernel)
theorem tw_4_67 : Cond.selects "SortWorks$State" ⟨"SortWorks$State", "inSlot", "(LSortWorks$Gear;I)LSortWorks$Parcel;"⟩ ⟨"SortWorks$State", "inSlot", "(LSortWorks$Gear;I)LSortWorks$Parcel;"⟩ ∈ sw_gw := p_mem (p_tb4 (List.mem_of_getElem? (i := 67) (by decide +kernel))) (by decide +kernel)
theorem tw_4_69 : Cond.methodLink "SortWorks" 228 ⟨"SortWorks$Gear", "isJammed", "()Z"⟩ ∈ sw_gw := p_mem (p_tb4 (List.mem_of_getElem? (i := 69) (by decide +kernel))) (by decide +kernel)
theorem tw_4_70 : Cond.instanceMethod ⟨"SortWorks$Gear", "isJammed", "()Z"⟩ ∈ sw_gw := p_mem (p_tb4 (List.mem_of_getElem? (i := 70) (by decide +kernel))) (by decide +kernel)
theorem tw_4_71 : Cond.selects "SortWorks$Gear" ⟨"SortWorks$Gear", "isJammed", "()Z"⟩ ⟨"SortWorks$Gear", "isJammed", "()Z"⟩ ∈ sw_gw := p_mem (p_tb4 (List.mem_of_getElem? (i := 71) (by decide +kernel))) (by decide +kernel)
theorem tw_4_73 : Cond.methodLink "SortWorks$Gear" 105 ⟨"SortWorks$Gear", "isTaker", "()Z"⟩ ∈ sw_gw := p_mem (p_tb4 (List.mem_of_getElem? (i := 73) (by decide +kernel))) (by decide +kernel)
theorem tw_4_74 : Cond.methodLink "SortWorks" 231 ⟨"SortWorks$Works", "freeHoldBut", "(I)I"⟩ ∈ sw_gw := p_mem (p_tb4 (List.mem_of_getElem? (i := 74) (by decide +kernel))) (by decide +kernel)
theorem tw_4_75 : Cond.instanceMethod ⟨"SortWorks$Works", "freeHoldBut", "(I)I"⟩ ∈ sw_gw := p_mem (p_tb4 (List.mem_of_getElem? (i := 75) (by decide +kernel))) (by decide +kernel)
theorem tw_4_76 : Cond.selects "SortWorks$Works" ⟨"SortWorks$Works", "freeHoldBut", "(I)I"⟩ ⟨"SortWorks$Works", "freeHoldBut", "(I)I"⟩ ∈ sw_gw := p_mem (p_tb4 (List.mem_of_getElem? (i := 76) (by decide +kernel))) (by decide +kernel)
theorem tw_4_78 : Cond.methodLink "SortWorks$Works" 122 ⟨"SortWorks$Gear", "isFreeAtStart", "()Z"⟩ ∈ sw_gw := p_mem (p_tb4 (List.mem_of_getElem? (i := 78) (by decide +kernel))) (by decide +kernel)
theorem tw_4_79 : Cond.methodLink "SortWorks" 234 ⟨"SortWorks$State", "carryOver", "(LSortWorks$Parcel;I)V"⟩ ∈ sw_gw := p_mem (p_tb4 (List.mem_of_getElem? (i := 79) (by decide +kernel))) (by decide +kernel)
theorem tw_4_80 : Cond.instanceMethod ⟨"SortWorks$State", "carryOver", "(LSortWorks$Parcel;I)V"⟩ ∈ sw_gw := p_mem (p_tb4 (List.mem_of_getElem? (i := 80) (by decide +kernel))) (by decide +kernel)
theorem tw_4_81 : Cond.selects "SortWorks$State" ⟨"SortWorks$State", "carryOver", "(LSortWorks$Parcel;I)V"⟩ ⟨"SortWorks$State", "carryOver", "(LSortWorks$Parcel;I)V"⟩ ∈ sw_gw := p_mem (p_tb4 (List.mem_of_getElem? (i := 81) (by decide +kernel))) (by decide +kernel)
theorem tw_4_83 : Cond.methodLink "SortWorks$State" 104 ⟨"SortWorks$State", "lift", "(LSortWorks$Parcel;)V"⟩ ∈ sw_gw := p_mem (p_tb4 (List.mem_of_getElem? (i := 83) (by decide +kernel))) (by decide +kernel)
theorem tw_4_84 : Cond.instanceMethod ⟨"SortWorks$State", "lift", "(LSortWorks$Parcel;)V"⟩ ∈ sw_gw := p_mem (p_tb4 (List.mem_of_getElem? (i := 84) (by decide +kernel))) (by decide +kernel)
theorem tw_4_85 : Cond.selects "SortWorks$State" ⟨"SortWorks$State", "lift", "(LSortWorks$Parcel;)V"⟩ ⟨"SortWorks$State", "lift", "(LSortWorks$Parcel;)V"⟩ ∈ sw_gw := p_mem (p_tb4 (List.mem_of_getElem? (i := 85) (by decide +kernel))) (by decide +kernel)
theorem tw_4_87 : Cond.methodLink "SortWorksLaw" 96 ⟨"SortWorks", "carry", "(II)I"⟩ ∈ sw_gw := p_mem (p_tb4 (List.mem_of_getElem? (i := 87) (by decide +kernel))) (by decide +kernel)
theorem tw_4_88 : Cond.instanceMethod ⟨"SortWorks", "carry", "(II)I"⟩ ∈ sw_gw := p_mem (p_tb4 (List.mem_of_getElem? (i := 88) (by decide +kernel))) (by decide +kernel)
theorem tw_4_89 : Cond.selects "SortWorks" ⟨"SortWorks", "carry", "(II)I"⟩ ⟨"SortWorks", "carry", "(II)I"⟩ ∈ sw_gw := p_mem (p_tb4 (List.mem_of_getElem? (i := 89) (by decide +kernel))) (by decide +kernel)
theorem tw_4_91 : Cond.methodLink "SortWorks" 244 ⟨"SortWorks$Gear", "isChuteFor", "(II)Z"⟩ ∈ sw_gw := p_mem (p_tb4 (List.mem_of_getElem? (i := 91) (by decide +kernel))) (by decide +kernel)
theorem tw_4_92 : Cond.instanceMethod ⟨"SortWorks$Gear", "isChuteFor", "(II)Z"⟩ ∈ sw_gw := p_mem (p_tb4 (List.mem_of_getElem? (i := 92) (by decide +kernel))) (by decide +kernel)
theorem tw_4_93 : Cond.selects "SortWorks$Gear" ⟨"SortWorks$Gear", "isChuteFor", "(II)Z"⟩ ⟨"SortWorks$Gear", "isChuteFor", "(II)Z"⟩ ∈ sw_gw := p_mem (p_tb4 (List.mem_of_getElem? (i := 93) (by decide +kernel))) (by decide +kernel)
theorem tw_4_95 : Cond.methodLink "SortWorksLaw" 100 ⟨"SortWorks", "group", "(III)I"⟩ ∈ sw_gw := p_mem (p_tb4 (List.mem_of_getElem? (i := 95) (by decide +kernel))) (by decide +kernel)
theorem tw_4_96 : Cond.instanceMethod ⟨"SortWorks", "group", "(III)I"⟩ ∈ sw_gw := p_mem (p_tb4 (List.mem_of_getElem? (i := 96) (by decide +kernel))) (by decide +kernel)
theorem tw_4_97 : Cond.selects "SortWorks" ⟨"SortWorks", "group", "(III)I"⟩ ⟨"SortWorks", "group", "(III)I"⟩ ∈ sw_gw := p_mem (p_tb4 (List.mem_of_getElem? (i := 97) (by decide +kernel))) (by decide +kernel)
theorem tw_4_99 : Cond.methodLink "SortWorks" 249 ⟨"SortWorks", "isGroup", "(I)Z"⟩ ∈ sw_gw := p_mem (p_tb4 (List.mem_of_getElem? (i := 99) (by decide +kernel))) (by decide +kernel)
theorem tw_4_100 : Cond.static ⟨"SortWorks", "isGroup", "(I)Z"⟩ ∈ sw_gw := p_mem (p_tb4 (List.mem_of_getElem? (i := 100) (by decide +kernel))) (by decide +kernel)
theorem tw_4_102 : Cond.methodLink "SortWorksLaw" 104 ⟨"SortWorks", "enter", "(III)I"⟩ ∈ sw_gw := p_mem (p_tb4 (List.mem_of_getElem? (i := 102) (by decide +kernel))) (by decide +kernel)
theorem tw_4_103 : Cond.instanceMethod ⟨"SortWorks", "enter", "(III)I"⟩ ∈ sw_gw := p_mem (p_tb4 (List.mem_of_getElem? (i := 103) (by decide +kernel))) (by decide +kernel)
theorem tw_4_104 : Cond.selects "SortWorks" ⟨"SortWorks", "enter", "(III)I"⟩ ⟨"SortWorks", "enter", "(III)I"⟩ ∈ sw_gw := p_mem (p_tb4 (List.mem_of_getElem? (i := 104) (by decide +kernel))) (by decide +kernel)
theorem tw_4_106 : Cond.methodLink "SortWorks" 261 ⟨"SortWorks$Gear", "isOfType", "(I)Z"⟩ ∈ sw_gw := p_mem (p_tb4 (List.mem_of_getElem? (i := 106) (by decide +kernel))) (by decide +kernel)
theorem tw_4_107 : Cond.instanceMethod ⟨"SortWorks$Gear", "isOfType", "(I)Z"⟩ ∈ sw_gw := p_mem (p_tb4 (List.mem_of_getElem? (i := 107) (by decide +kernel))) (by decide +kernel)
theorem tw_4_108 : Cond.selects "SortWorks$Gear" ⟨"SortWorks$Gear", "isOfType", "(I)Z"⟩ ⟨"SortWorks$Gear", "isOfType", "(I)Z"⟩ ∈ sw_gw := p_mem (p_tb4 (List.mem_of_getElem? (i := 108) (by decide +kernel))) (by decide +kernel)
theorem tw_4_110 : Cond.methodLink "SortWorks$Gear" 95 ⟨"SortWorks$Gear", "isBelt", "()Z"⟩ ∈ sw_gw := p_mem (p_tb4 (List.mem_of_getElem? (i := 110) (by decide +kernel))) (by decide +kernel)
theorem tw_4_111 : Cond.instanceMethod ⟨"SortWorks$Gear", "isBelt", "()Z"⟩ ∈ sw_gw := p_mem (p_tb4 (List.mem_of_getElem? (i := 111) (by decide +kernel))) (by decide +kernel)
theorem tw_4_112 : Cond.selects "SortWorks$Gear" ⟨"SortWorks$Gear", "isBelt", "()Z"⟩ ⟨"SortWorks$Gear", "isBelt", "()Z"⟩ ∈ sw_gw := p_mem (p_tb4 (List.mem_of_getElem? (i := 112) (by decide +kernel))) (by decide +kernel)
theorem tw_4_114 : Cond.methodLink "SortWorks$Gear" 99 ⟨"SortWorks$Gear", "isScanner", "()Z"⟩ ∈ sw_gw := p_mem (p_tb4 (List.mem_of_getElem? (i := 114) (by decide +kernel))) (by decide +kernel)
theorem tw_4_115 : Cond.instanceMethod ⟨"SortWorks$Gear", "isScanner", "()Z"⟩ ∈ sw_gw := p_mem (p_tb4 (List.mem_of_getElem? (i := 115) (by decide +kernel))) (by decide +kernel)
theorem tw_4_116 : Cond.selects "SortWorks$Gear" ⟨"SortWorks$Gear", "isScanner", "()Z"⟩ ⟨"SortWorks$Gear", "isScanner", "()Z"⟩ ∈ sw_gw := p_mem (p_tb4 (List.mem_of_getElem? (i := 116) (by decide +kernel))) (by decide +kernel)
theorem tw_4_118 : Cond.methodLink "SortWorks$Gear" 102 ⟨"SortWorks$Gear", "isChute", "()Z"⟩ ∈ sw_gw := p_mem (p_tb4 (List.mem_of_getElem? (i := 118) (by decide +kernel))) (by decide +kernel)
theorem tw_4_119 : Cond.methodLink "SortWorksLaw" 108 ⟨"SortWorks", "tally", "(II)I"⟩ ∈ sw_gw := p_mem (p_tb4 (List.mem_of_getElem? (i := 119) (by decide +kernel))) (by decide +kernel)
theorem tw_4_120 : Cond.instanceMethod ⟨"SortWorks", "tally", "(II)I"⟩ ∈ sw_gw := p_mem (p_tb4 (List.mem_of_getElem? (i := 120) (by decide +kernel))) (by decide +kernel)
theorem tw_4_121 : Cond.selects "SortWorks" ⟨"SortWorks", "tally", "(II)I"⟩ ⟨"SortWorks", "tally", "(II)I"⟩ ∈ sw_gw := p_mem (p_tb4 (List.mem_of_getElem? (i := 121) (by decide +kernel))) (by decide +kernel)
theorem tw_4_123 : Cond.methodLink "SortWorksLaw" 112 ⟨"SortWorks", "step", "()I"⟩ ∈ sw_gw := p_mem (p_tb4 (List.mem_of_getElem? (i := 123) (by decide +kernel))) (by decide +kernel)
theorem tw_4_124 : Cond.instanceMethod ⟨"SortWorks", "step", "()I"⟩ ∈ sw_gw := p_mem (p_tb4 (List.mem_of_getElem? (i := 124) (by decide +kernel))) (by decide +kernel)
theorem tw_4_125 : Cond.selects "SortWorks" ⟨"SortWorks", "step", "()I"⟩ ⟨"SortWorks", "step", "()I"⟩ ∈ sw_gw := p_mem (p_tb4 (List.mem_of_getElem? (i := 125) (by decide +kernel))) (by decide +kernel)
theorem tw_4_127 : Cond.methodLink "SortWorks" 270 ⟨"SortWorks$Step", "run", "(LSortWorks$Works;LSortWorks$Numbers;)I"⟩ ∈ sw_gw := p_mem (p_tb4 (List.mem_of_getElem? (i := 127) (by decide +kernel))) (by decide +kernel)
theorem tw_4_128 : Cond.instanceMethod ⟨"SortWorks$Step", "run", "(LSortWorks$Works;LSortWorks$Numbers;)I"⟩ ∈ sw_gw := p_mem (p_tb4 (List.mem_of_getElem? (i := 128) (by decide +kernel))) (by decide +kernel)
theorem tw_4_129 : Cond.selects "SortWorks$Step" ⟨"SortWorks$Step", "run", "(LSortWorks$Works;LSortWorks$Numbers;)I"⟩ ⟨"SortWorks$Step", "run", "(LSortWorks$Works;LSortWorks$Numbers;)I"⟩ ∈ sw_gw := p_mem (p_tb4 (List.mem_of_getElem? (i := 129) (by decide +kernel))) (by decide +kernel)
theorem tw_4_131 : Cond.methodLink "SortWorks$Step" 50 ⟨"SortWorks$Works", "keep", "(I)V"⟩ ∈ sw_gw := p_mem (p_tb4 (List.mem_of_getElem? (i := 131) (by decide +kernel))) (by decide +kernel)
theorem tw_4_132 : Cond.instanceMethod ⟨"SortWorks$Works", "keep", "(I)V"⟩ ∈ sw_gw := p_mem (p_tb4 (List.mem_of_getElem? (i := 132) (by decide +kernel))) (by decide +kernel)
theorem tw_4_133 : Cond.selects "SortWorks$Works" ⟨"SortWorks$Works", "keep", "(I)V"⟩ ⟨"SortWorks$Works", "keep", "(I)V"⟩ ∈ sw_gw := p_mem (p_tb4 (List.mem_of_getElem? (i := 133) (by decide +kernel))) (by decide +kernel)
theorem tw_4_135 : Cond.methodLink "SortWorks$Works" 101 ⟨"SortWorks$State", "becomeAs", "(LSortWorks$State;I)V"⟩ ∈ sw_gw := p_mem (p_tb4 (List.mem_of_getElem? (i := 135) (by decide +kernel))) (by decide +kernel)
theorem tw_4_136 : Cond.instanceMethod ⟨"SortWorks$State", "becomeAs", "(LSortWorks$State;I)V"⟩ ∈ sw_gw := p_mem (p_tb4 (List.mem_of_getElem? (i := 136) (by decide +kernel))) (by decide +kernel)
theorem tw_4_137 : Cond.selects "SortWorks$State" ⟨"SortWorks$State", "becomeAs", "(LSortWorks$State;I)V"⟩ ⟨"SortWorks$State", "becomeAs", "(LSortWorks$State;I)V"⟩ ∈ sw_gw := p_mem (p_tb4 (List.mem_of_getElem? (i := 137) (by decide +kernel))) (by decide +kernel)
theorem tw_4_139 : Cond.methodLink "SortWorks$State" 56 ⟨"SortWorks$Gear", "becomeAs", "(LSortWorks$Gear;)V"⟩ ∈ sw_gw := p_mem (p_tb4 (List.mem_of_getElem? (i := 139) (by decide +kernel))) (by decide +kernel)
theorem tw_4_140 : Cond.instanceMethod ⟨"SortWorks$Gear", "becomeAs", "(LSortWorks$Gear;)V"⟩ ∈ sw_gw := p_mem (p_tb4 (List.mem_of_getElem? (i := 140) (by decide +kernel))) (by decide +kernel)
theorem tw_4_141 : Cond.selects "SortWorks$Gear" ⟨"SortWorks$Gear", "becomeAs", "(LSortWorks$Gear;)V"⟩ ⟨"SortWorks$Gear", "becomeAs", "(LSortWorks$Gear;)V"⟩ ∈ sw_gw := p_mem (p_tb4 (List.mem_of_getElem? (i := 141) (by decide +kernel))) (by decide +kernel)
theorem tw_4_143 : Cond.methodLink "SortWorks$Gear" 85 ⟨"java/lang/System", "arraycopy", "(Ljava/lang/Object;ILjava/lang/Object;II)V"⟩ ∈ sw_gw := p_mem (p_tb4 (List.mem_of_getElem? (i := 143) (by decide +kernel))) (by decide +kernel)
theorem tw_4_144 : Cond.methodLink "SortWorks$State" 63 ⟨"SortWorks$Parcel", "becomeAs", "(LSortWorks$Parcel;)V"⟩ ∈ sw_gw := p_mem (p_tb4 (List.mem_of_getElem? (i := 144) (by decide +kernel))) (by decide +kernel)
theorem tw_4_145 : Cond.instanceMethod ⟨"SortWorks$Parcel", "becomeAs", "(LSortWorks$Parcel;)V"⟩ ∈ sw_gw := p_mem (p_tb4 (List.mem_of_getElem? (i := 145) (by decide +kernel))) (by decide +kernel)
theorem tw_4_146 : Cond.selects "SortWorks$Parcel" ⟨"SortWorks$Parcel", "becomeAs", "(LSortWorks$Parcel;)V"⟩ ⟨"SortWorks$Parcel", "becomeAs", "(LSortWorks$Parcel;)V"⟩ ∈ sw_gw := p_mem (p_tb4 (List.mem_of_getElem? (i := 146) (by decide +kernel))) (by decide +kernel)
theorem tw_4_148 : Cond.methodLink "SortWorks$Parcel" 47 ⟨"java/lang/System", "arraycopy", "(Ljava/lang/Object;ILjava/lang/Object;II)V"⟩ ∈ sw_gw := p_mem (p_tb4 (List.mem_of_getElem? (i := 148) (by decide +kernel))) (by decide +kernel)
theorem tw_4_149 : Cond.methodLink "SortWorks$State" 66 ⟨"java/lang/System", "arraycopy", "(Ljava/lang/Object;ILjava/lang/Object;II)V"⟩ ∈ sw_gw := p_mem (p_tb4 (List.mem_of_getElem? (i := 149) (by decide +kernel))) (by decide +kernel)
theorem tw_4_150 : Cond.methodLink "SortWorks$State" 72 ⟨"SortWorks$Log", "becomeAs", "(LSortWorks$Log;)V"⟩ ∈ sw_gw := p_mem (p_tb4 (List.mem_of_getElem? (i := 150) (by decide +kernel))) (by decide +kernel)
theorem tw_4_151 : Cond.instanceMethod ⟨"SortWorks$Log", "becomeAs", "(LSortWorks$Log;)V"⟩ ∈ sw_gw := p_mem (p_tb4 (List.mem_of_getElem? (i := 151) (by decide +kernel))) (by decide +kernel)
theorem tw_4_152 : Cond.selects "SortWorks$Log" ⟨"SortWorks$Log", "becomeAs", "(LSortWorks$Log;)V"⟩ ⟨"SortWorks$Log", "becomeAs", "(LSortWorks$Log;)V"⟩ ∈ sw_gw := p_mem (p_tb4 (List.mem_of_getElem? (i := 152) (by decide +kernel))) (by decide +kernel)
theorem tw_4_154 : Cond.methodLink "SortWorks$Log" 25 ⟨"java/lang/System", "arraycopy", "(Ljava/lang/Object;ILjava/lang/Object;II)V"⟩ ∈ sw_gw := p_mem (p_tb4 (List.mem_of_getElem? (i := 154) (by decide +kernel))) (by decide +kernel)
theorem tw_4_155 : Cond.methodLink "SortWorks$Works" 107 ⟨"java/lang/Math", "min", "(II)I"⟩ ∈ sw_gw := p_mem (p_tb4 (List.mem_of_getElem? (i := 155) (by decide +kernel))) (by decide +kernel)
theorem tw_4_156 : Cond.methodLink "SortWorks$Step" 73 ⟨"SortWorks$Step", "doPlan", "(I)V"⟩ ∈ sw_gw := p_mem (p_tb4 (List.mem_of_getElem? (i := 156) (by decide +kernel))) (by decide +kernel)
theorem tw_4_158 : Cond.instanceMethod ⟨"SortWorks$Step", "doPlan", "(I)V"⟩ ∈ sw_gw := p_mem (p_tb4 (List.mem_of_getElem? (i := 158) (by decide +kernel))) (by decide +kernel)
theorem tw_4_160 : Cond.methodLink "SortWorks$Step" 121 ⟨"SortWorks$Step", "planFault", "([II)I"⟩ ∈ sw_gw := p_mem (p_tb4 (List.mem_of_getElem? (i := 160) (by decide +kernel))) (by decide +kernel)
theorem tw_4_162 : Cond.instanceMethod ⟨"SortWorks$Step", "planFault", "([II)I"⟩ ∈ sw_gw := p_mem (p_tb4 (List.mem_of_getElem? (i := 162) (by decide +kernel))) (by decide +kernel)
theorem tw_4_164 : Cond.methodLink "SortWorks$Step" 129 ⟨"SortWorks$Works", "gearOf", "(I)LSortWorks$Gear;"⟩ ∈ sw_gw := p_mem (p_tb4 (List.mem_of_getElem? (i := 164) (by decide +kernel))) (by decide +kernel)
theorem tw_4_165 : Cond.methodLink "SortWorks$Step" 133 ⟨"SortWorks$Step", "isForPlan", "(LSortWorks$Gear;I)Z"⟩ ∈ sw_gw := p_mem (p_tb4 (List.mem_of_getElem? (i := 165) (by decide +kernel))) (by decide +kernel)
theorem tw_4_166 : Cond.static ⟨"SortWorks$Step", "isForPlan", "(LSortWorks$Gear;I)Z"⟩ ∈ sw_gw := p_mem (p_tb4 (List.mem_of_getElem? (i := 166) (by decide +kernel))) (by decide +kernel)
theorem tw_4_168 : Cond.methodLink "SortWorks$Step" 141 ⟨"SortWorks$Gear", "isDivert", "()Z"⟩ ∈ sw_gw := p_mem (p_tb4 (List.mem_of_getElem? (i := 168) (by decide +kernel))) (by decide +kernel)
theorem tw_4_169 : Cond.methodLink "SortWorks$Step" 137 ⟨"SortWorks$Step", "planByNumber", "(LSortWorks$Gear;II)I"⟩ ∈ sw_gw := p_mem (p_tb4 (List.mem_of_getElem? (i := 169) (by decide +kernel))) (by decide +kernel)
theorem tw_4_170 : Cond.static ⟨"SortWorks$Step", "planByNumber", "(LSortWorks$Gear;II)I"⟩ ∈ sw_gw := p_mem (p_tb4 (List.mem_of_getElem? (i := 170) (by decide +kernel))) (by decide +kernel)
theorem tw_4_172 : Cond.methodLink "SortWorks$Step" 148 ⟨"SortWorks$Gear", "parcels", "()I"⟩ ∈ sw_gw := p_mem (p_tb4 (List.mem_of_getElem? (i := 172) (by decide +kernel))) (by decide +kernel)
theorem tw_4_173 : Cond.methodLink "SortWorks$Step" 151 ⟨"SortWorks$Gear", "hasSide", "(I)Z"⟩ ∈ sw_gw := p_mem (p_tb4 (List.mem_of_getElem? (i := 173) (by decide +kernel))) (by decide +kernel)
theorem tw_4_174 : Cond.methodLink "SortWorks$Step" 125 ⟨"SortWorks$Step", "addFinding", "(IIII)V"⟩ ∈ sw_gw := p_mem (p_tb4 (List.mem_of_getElem? (i := 174) (by decide +kernel))) (by decide +kernel)
theorem tw_4_176 : Cond.instanceMethod ⟨"SortWorks$Step", "addFinding", "(IIII)V"⟩ ∈ sw_gw := p_mem (p_tb4 (List.mem_of_getElem? (i := 176) (by decide +kernel))) (by decide +kernel)
theorem tw_4_178 : Cond.methodLink "SortWorks$Step" 102 ⟨"SortWorks$Log", "add", "(IIIII)V"⟩ ∈ sw_gw := p_mem (p_tb4 (List.mem_of_getElem? (i := 178) (by decide +kernel))) (by decide +kernel)
theorem tw_4_179 : Cond.instanceMethod ⟨"SortWorks$Log", "add", "(IIIII)V"⟩ ∈ sw_gw := p_mem (p_tb4 (List.mem_of_getElem? (i := 179) (by decide +kernel))) (by decide +kernel)
theorem tw_4_180 : Cond.selects "SortWorks$Log" ⟨"SortWorks$Log", "add", "(IIIII)V"⟩ ⟨"SortWorks$Log", "add", "(IIIII)V"⟩ ∈ sw_gw := p_mem (p_tb4 (List.mem_of_getElem? (i := 180) (by decide +kernel))) (by decide +kernel)
theorem tw_4_182 : Cond.methodLink "SortWorks$Step" 76 ⟨"SortWorks$Step", "letMergesChoose", "()V"⟩ ∈ sw_gw := p_mem (p_tb4 (List.mem_of_getElem? (i := 182) (by decide +kernel))) (by decide +kernel)
theorem tw_4_184 : Cond.instanceMethod ⟨"SortWorks$Step", "letMergesChoose", "()V"⟩ ∈ sw_gw := p_mem (p_tb4 (List.mem_of_getElem? (i := 184) (by decide +kernel))) (by decide +kernel)
theorem tw_4_186 : Cond.methodLink "SortWorks$Step" 164 ⟨"SortWorks$Step", "isReadyToGive", "(LSortWorks$Gear;)Z"⟩ ∈ sw_gw := p_mem (p_tb4 (List.mem_of_getElem? (i := 186) (by decide +kernel))) (by decide +kernel)
theorem tw_4_188 : Cond.instanceMethod ⟨"SortWorks$Step", "isReadyToGive", "(LSortWorks$Gear;)Z"⟩ ∈ sw_gw := p_mem (p_tb4 (List.mem_of_getElem? (i := 188) (by decide +kernel))) (by decide +kernel)
theorem tw_4_190 : Cond.methodLink "SortWorks$Step" 178 ⟨"SortWorks$Gear", "isTaker", "()Z"⟩ ∈ sw_gw := p_mem (p_tb4 (List.mem_of_getElem? (i := 190) (by decide +kernel))) (by decide +kernel)
theorem tw_4_191 : Cond.methodLink "SortWorks$Step" 86 ⟨"SortWorks$Step", "isInStep", "(LSortWorks$Gear;)Z"⟩ ∈ sw_gw := p_mem (p_tb4 (List.mem_of_getElem? (i := 191) (by decide +kernel))) (by decide +kernel)
theorem tw_4_193 : Cond.instanceMethod ⟨"SortWorks$Step", "isInStep", "(LSortWorks$Gear;)Z"⟩ ∈ sw_gw := p_mem (p_tb4 (List.mem_of_getElem? (i := 193) (by decide +kernel))) (by decide +kernel)
theorem tw_4_197 : Cond.methodLink "SortWorks$Step" 181 ⟨"SortWorks$State", "inLastSlot", "(LSortWorks$Gear;)LSortWorks$Parcel;"⟩ ∈ sw_gw := p_mem (p_tb4 (List.mem_of_getElem? (i := 197) (by decide +kernel))) (by decide +kernel)
theorem tw_4_198 : Cond.methodLink "SortWorks$Step" 185 ⟨"SortWorks$Gear", "isHeld", "()Z"⟩ ∈ sw_gw := p_mem (p_tb4 (List.mem_of_getElem? (i := 198) (by decide +kernel))) (by decide +kernel)
theorem tw_4_199 : Cond.instanceMethod ⟨"SortWorks$Gear", "isHeld", "()Z"⟩ ∈ sw_gw := p_mem (p_tb4 (List.mem_of_getElem? (i := 199) (by decide +kernel))) (by decide +kernel)
theorem tw_4_200 : Cond.selects "SortWorks$Gear" ⟨"SortWorks$Gear", "isHeld", "()Z"⟩ ⟨"SortWorks$Gear", "isHeld", "()Z"⟩ ∈ sw_gw := p_mem (p_tb4 (List.mem_of_getElem? (i := 200) (by decide +kernel))) (by decide +kernel)
theorem tw_4_202 : Cond.methodLink "SortWorks$Step" 167 ⟨"SortWorks$Gear", "linkAhead", "()I"⟩ ∈ sw_gw := p_mem (p_tb4 (List.mem_of_getElem? (i := 202) (by decide +kernel))) (by decide +kernel)
theorem tw_4_203 : Cond.instanceMethod ⟨"SortWorks$Gear", "linkAhead", "()I"⟩ ∈ sw_gw := p_mem (p_tb4 (List.mem_of_getElem? (i := 203) (by decide +kernel))) (by decide +kernel)
theorem tw_4_204 : Cond.selects "SortWorks$Gear" ⟨"SortWorks$Gear", "linkAhead", "()I"⟩ ⟨"SortWorks$Gear", "linkAhead", "()I"⟩ ∈ sw_gw := p_mem (p_tb4 (List.mem_of_getElem? (i := 204) (by decide +kernel))) (by decide +kernel)
theorem tw_4_206 : Cond.methodLink "SortWorks$Gear" 117 ⟨"SortWorks$Gear", "isDivert", "()Z"⟩ ∈ sw_gw := p_mem (p_tb4 (List.mem_of_getElem? (i := 206) (by decide +kernel))) (by decide +kernel)
theorem tw_4_207 : Cond.methodLink "SortWorks$Step" 170 ⟨"SortWorks$Works", "follow", "(LSortWorks$Gear;I)I"⟩ ∈ sw_gw := p_mem (p_tb4 (List.mem_of_getElem? (i := 207) (by decide +kernel))) (by decide +kernel)
theorem tw_4_208 : Cond.instanceMethod ⟨"SortWorks$Works", "follow", "(LSortWorks$Gear;I)I"⟩ ∈ sw_gw := p_mem (p_tb4 (List.mem_of_getElem? (i := 208) (by decide +kernel))) (by decide +kernel)
theorem tw_4_209 : Cond.selects "SortWorks$Works" ⟨"SortWorks$Works", "follow", "(LSortWorks$Gear;I)I"⟩ ⟨"SortWorks$Works", "follow", "(LSortWorks$Gear;I)I"⟩ ∈ sw_gw := p_mem (p_tb4 (List.mem_of_getElem? (i := 209) (by decide +kernel))) (by decide +kernel)
theorem tw_4_211 : Cond.methodLink "SortWorks$Step" 174 ⟨"SortWorks$Step", "isBetter", "(ILSortWorks$Gear;)Z"⟩ ∈ sw_gw := p_mem (p_tb4 (List.mem_of_getElem? (i := 211) (by decide +kernel))) (by decide +kernel)
theorem tw_4_213 : Cond.instanceMethod ⟨"SortWorks$Step", "isBetter", "(ILSortWorks$Gear;)Z"⟩ ∈ sw_gw := p_mem (p_tb4 (List.mem_of_getElem? (i := 213) (by decide +kernel))) (by decide +kernel)
theorem tw_4_215 : Cond.methodLink "SortWorks$Step" 90 ⟨"SortWorks$Step", "act", "(I)V"⟩ ∈ sw_gw := p_mem (p_tb4 (List.mem_of_getElem? (i := 215) (by decide +kernel))) (by decide +kernel)
theorem tw_4_217 : Cond.instanceMethod ⟨"SortWorks$Step", "act", "(I)V"⟩ ∈ sw_gw := p_mem (p_tb4 (List.mem_of_getElem? (i := 217) (by decide +kernel))) (by decide +kernel)
theorem tw_4_221 : Cond.methodLink "SortWorks$Step" 197 ⟨"SortWorks$Step", "addTrace", "(I)V"⟩ ∈ sw_gw := p_mem (p_tb4 (List.mem_of_getElem? (i := 221) (by decide +kernel))) (by decide +kernel)
theorem tw_4_223 : Cond.instanceMethod ⟨"SortWorks$Step", "addTrace", "(I)V"⟩ ∈ sw_gw := p_mem (p_tb4 (List.mem_of_getElem? (i := 223) (by decide +kernel))) (by decide +kernel)
theorem tw_4_225 : Cond.methodLink "SortWorks$Step" 200 ⟨"SortWorks$Gear", "isScanner", "()Z"⟩ ∈ sw_gw := p_mem (p_tb4 (List.mem_of_getElem? (i := 225) (by decide +kernel))) (by decide +kernel)
theorem tw_4_226 : Cond.methodLink "SortWorks$Step" 203 ⟨"SortWorks$Step", "scan", "(ILSortWorks$Gear;)Z"⟩ ∈ sw_gw := p_mem (p_tb4 (List.mem_of_getElem? (i := 226) (by decide +kernel))) (by decide +kernel)
theorem tw_4_228 : Cond.instanceMethod ⟨"SortWorks$Step", "scan", "(ILSortWorks$Gear;)Z"⟩ ∈ sw_gw := p_mem (p_tb4 (List.mem_of_getElem? (i := 228) (by decide +kernel))) (by decide +kernel)
theorem tw_4_230 : Cond.methodLink "SortWorks$Step" 259 ⟨"SortWorks$Reading", "read", "(LSortWorks$Parcel;)I"⟩ ∈ sw_gw := p_mem (p_tb4 (List.mem_of_getElem? (i := 230) (by decide +kernel))) (by decide +kernel)
theorem tw_4_231 : Cond.instanceMethod ⟨"SortWorks$Reading", "read", "(LSortWorks$Parcel;)I"⟩ ∈ sw_gw := p_mem (p_tb4 (List.mem_of_getElem? (i := 231) (by decide +kernel))) (by decide +kernel)
theorem tw_4_232 : Cond.selects "SortWorks$Reading" ⟨"SortWorks$Reading", "read", "(LSortWorks$Parcel;)I"⟩ ⟨"SortWorks$Reading", "read", "(LSortWorks$Parcel;)I"⟩ ∈ sw_gw := p_mem (p_tb4 (List.mem_of_getElem? (i := 232) (by decide +kernel))) (by decide +kernel)
theorem tw_4_234 : Cond.methodLink "SortWorks$Reading" 24 ⟨"SortWorks$Reading", "readFormA", "(LSortWorks$Parcel;)I"⟩ ∈ sw_gw := p_mem (p_tb4 (List.mem_of_getElem? (i := 234) (by decide +kernel))) (by decide +kernel)
theorem tw_4_236 : Cond.instanceMethod ⟨"SortWorks$Reading", "readFormA", "(LSortWorks$Parcel;)I"⟩ ∈ sw_gw := p_mem (p_tb4 (List.mem_of_getElem? (i := 236) (by decide +kernel))) (by decide +kernel)
theorem tw_4_238 : Cond.methodLink "SortWorks$Reading" 28 ⟨"SortWorks$Reading", "readFormB", "(LSortWorks$Parcel;)I"⟩ ∈ sw_gw := p_mem (p_tb4 (List.mem_of_getElem? (i := 238) (by decide +kernel))) (by decide +kernel)
theorem tw_5_0 : Cond.instanceMethod ⟨"SortWorks$Reading", "readFormB", "(LSortWorks$Parcel;)I"⟩ ∈ sw_gw := p_mem (p_tb5 (List.mem_of_getElem? (i := 0) (by decide +kernel))) (by decide +kernel)
theorem tw_5_2 : Cond.methodLink "SortWorks$Step" 273 ⟨"SortWorks$Step", "targetByRules", "(I)I"⟩ ∈ sw_gw := p_mem (p_tb5 (List.mem_of_getElem? (i := 2) (by decide +kernel))) (by decide +kernel)
theorem tw_5_4 : Cond.instanceMethod ⟨"SortWorks$Step", "targetByRules", "(I)I"⟩ ∈ sw_gw := p_mem (p_tb5 (List.mem_of_getElem? (i := 4) (by decide +kernel))) (by decide +kernel)
theorem tw_5_6 : Cond.methodLink "SortWorks$Step" 284 ⟨"SortWorks$Step", "holds", "(I)I"⟩ ∈ sw_gw := p_mem (p_tb5 (List.mem_of_getElem? (i := 6) (by decide +kernel))) (by decide +kernel)
theorem tw_5_8 : Cond.instanceMethod ⟨"SortWorks$Step", "holds", "(I)I"⟩ ∈ sw_gw := p_mem (p_tb5 (List.mem_of_getElem? (i := 8) (by decide +kernel))) (by decide +kernel)
theorem tw_5_10 : Cond.methodLink "SortWorks$Step" 302 ⟨"SortWorks$Step", "quotient", "(I)I"⟩ ∈ sw_gw := p_mem (p_tb5 (List.mem_of_getElem? (i := 10) (by decide +kernel))) (by decide +kernel)
theorem tw_5_12 : Cond.instanceMethod ⟨"SortWorks$Step", "quotient", "(I)I"⟩ ∈ sw_gw := p_mem (p_tb5 (List.mem_of_getElem? (i := 12) (by decide +kernel))) (by decide +kernel)
theorem tw_5_14 : Cond.methodLink "SortWorks$Step" 324 ⟨"SortWorks$Gear", "isChute", "()Z"⟩ ∈ sw_gw := p_mem (p_tb5 (List.mem_of_getElem? (i := 14) (by decide +kernel))) (by decide +kernel)
theorem tw_5_15 : Cond.methodLink "SortWorks$Step" 305 ⟨"SortWorks$Step", "plainValue", "(I)I"⟩ ∈ sw_gw := p_mem (p_tb5 (List.mem_of_getElem? (i := 15) (by decide +kernel))) (by decide +kernel)
theorem tw_5_17 : Cond.instanceMethod ⟨"SortWorks$Step", "plainValue", "(I)I"⟩ ∈ sw_gw := p_mem (p_tb5 (List.mem_of_getElem? (i := 17) (by decide +kernel))) (by decide +kernel)
theorem tw_5_19 : Cond.methodLink "SortWorks$Step" 311 ⟨"java/lang/Integer", "compare", "(II)I"⟩ ∈ sw_gw := p_mem (p_tb5 (List.mem_of_getElem? (i := 19) (by decide +kernel))) (by decide +kernel)
theorem tw_5_20 : Cond.static ⟨"java/lang/Integer", "compare", "(II)I"⟩ ∈ sw_gw := p_mem (p_tb5 (List.mem_of_getElem? (i := 20) (by decide +kernel))) (by decide +kernel)
theorem tw_5_22 : Cond.methodLink "SortWorks$Step" 206 ⟨"SortWorks$Step", "passOn", "(ILSortWorks$Gear;Z)V"⟩ ∈ sw_gw := p_mem (p_tb5 (List.mem_of_getElem? (i := 22) (by decide +kernel))) (by decide +kernel)
theorem tw_5_24 : Cond.instanceMethod ⟨"SortWorks$Step", "passOn", "(ILSortWorks$Gear;Z)V"⟩ ∈ sw_gw := p_mem (p_tb5 (List.mem_of_getElem? (i := 24) (by decide +kernel))) (by decide +kernel)
theorem tw_5_26 : Cond.methodLink "SortWorks$Step" 327 ⟨"SortWorks$Step", "giveOut", "(ILSortWorks$Gear;LSortWorks$Parcel;)Z"⟩ ∈ sw_gw := p_mem (p_tb5 (List.mem_of_getElem? (i := 26) (by decide +kernel))) (by decide +kernel)
theorem tw_5_28 : Cond.instanceMethod ⟨"SortWorks$Step", "giveOut", "(ILSortWorks$Gear;LSortWorks$Parcel;)Z"⟩ ∈ sw_gw := p_mem (p_tb5 (List.mem_of_getElem? (i := 28) (by decide +kernel))) (by decide +kernel)
theorem tw_5_30 : Cond.methodLink "SortWorks$Step" 334 ⟨"SortWorks$Step", "leaveBy", "(IILSortWorks$Parcel;)V"⟩ ∈ sw_gw := p_mem (p_tb5 (List.mem_of_getElem? (i := 30) (by decide +kernel))) (by decide +kernel)
theorem tw_5_32 : Cond.instanceMethod ⟨"SortWorks$Step", "leaveBy", "(IILSortWorks$Parcel;)V"⟩ ∈ sw_gw := p_mem (p_tb5 (List.mem_of_getElem? (i := 32) (by decide +kernel))) (by decide +kernel)
theorem tw_5_34 : Cond.methodLink "SortWorks$Step" 338 ⟨"SortWorks$State", "lift", "(LSortWorks$Parcel;)V"⟩ ∈ sw_gw := p_mem (p_tb5 (List.mem_of_getElem? (i := 34) (by decide +kernel))) (by decide +kernel)
theorem tw_5_35 : Cond.methodLink "SortWorks$Step" 352 ⟨"SortWorks$Numbers", "takeOut", "(III)V"⟩ ∈ sw_gw := p_mem (p_tb5 (List.mem_of_getElem? (i := 35) (by decide +kernel))) (by decide +kernel)
theorem tw_5_36 : Cond.instanceMethod ⟨"SortWorks$Numbers", "takeOut", "(III)V"⟩ ∈ sw_gw := p_mem (p_tb5 (List.mem_of_getElem? (i := 36) (by decide +kernel))) (by decide +kernel)
theorem tw_5_37 : Cond.selects "SortWorks$Numbers" ⟨"SortWorks$Numbers", "takeOut", "(III)V"⟩ ⟨"SortWorks$Numbers", "takeOut", "(III)V"⟩ ∈ sw_gw := p_mem (p_tb5 (List.mem_of_getElem? (i := 37) (by decide +kernel))) (by decide +kernel)
theorem tw_5_39 : Cond.methodLink "SortWorks$Step" 331 ⟨"SortWorks$Step", "giveOn", "(ILSortWorks$Gear;LSortWorks$Parcel;)Z"⟩ ∈ sw_gw := p_mem (p_tb5 (List.mem_of_getElem? (i := 39) (by decide +kernel))) (by decide +kernel)
theorem tw_5_41 : Cond.instanceMethod ⟨"SortWorks$Step", "giveOn", "(ILSortWorks$Gear;LSortWorks$Parcel;)Z"⟩ ∈ sw_gw := p_mem (p_tb5 (List.mem_of_getElem? (i := 41) (by decide +kernel))) (by decide +kernel)
theorem tw_5_43 : Cond.methodLink "SortWorks$Step" 359 ⟨"SortWorks$Step", "takes", "(III)Z"⟩ ∈ sw_gw := p_mem (p_tb5 (List.mem_of_getElem? (i := 43) (by decide +kernel))) (by decide +kernel)
theorem tw_5_45 : Cond.instanceMethod ⟨"SortWorks$Step", "takes", "(III)Z"⟩ ∈ sw_gw := p_mem (p_tb5 (List.mem_of_getElem? (i := 45) (by decide +kernel))) (by decide +kernel)
theorem tw_5_47 : Cond.methodLink "SortWorks$Step" 367 ⟨"SortWorks$Step", "mergeTakes", "(LSortWorks$Gear;I)Z"⟩ ∈ sw_gw := p_mem (p_tb5 (List.mem_of_getElem? (i := 47) (by decide +kernel))) (by decide +kernel)
theorem tw_5_49 : Cond.instanceMethod ⟨"SortWorks$Step", "mergeTakes", "(LSortWorks$Gear;I)Z"⟩ ∈ sw_gw := p_mem (p_tb5 (List.mem_of_getElem? (i := 49) (by decide +kernel))) (by decide +kernel)
theorem tw_5_51 : Cond.methodLink "SortWorks$Step" 380 ⟨"SortWorks$Gear", "isFreeAtStart", "()Z"⟩ ∈ sw_gw := p_mem (p_tb5 (List.mem_of_getElem? (i := 51) (by decide +kernel))) (by decide +kernel)
theorem tw_5_52 : Cond.methodLink "SortWorks$Step" 370 ⟨"SortWorks$Gear", "wantedSide", "(I)I"⟩ ∈ sw_gw := p_mem (p_tb5 (List.mem_of_getElem? (i := 52) (by decide +kernel))) (by decide +kernel)
theorem tw_5_53 : Cond.instanceMethod ⟨"SortWorks$Gear", "wantedSide", "(I)I"⟩ ∈ sw_gw := p_mem (p_tb5 (List.mem_of_getElem? (i := 53) (by decide +kernel))) (by decide +kernel)
theorem tw_5_54 : Cond.selects "SortWorks$Gear" ⟨"SortWorks$Gear", "wantedSide", "(I)I"⟩ ⟨"SortWorks$Gear", "wantedSide", "(I)I"⟩ ∈ sw_gw := p_mem (p_tb5 (List.mem_of_getElem? (i := 54) (by decide +kernel))) (by decide +kernel)
theorem tw_5_56 : Cond.methodLink "SortWorks$Gear" 113 ⟨"SortWorks$Gear", "aims", "(II)Z"⟩ ∈ sw_gw := p_mem (p_tb5 (List.mem_of_getElem? (i := 56) (by decide +kernel))) (by decide +kernel)
theorem tw_5_57 : Cond.methodLink "SortWorks$Step" 373 ⟨"SortWorks$Step", "divertTakes", "(LSortWorks$Gear;I)Z"⟩ ∈ sw_gw := p_mem (p_tb5 (List.mem_of_getElem? (i := 57) (by decide +kernel))) (by decide +kernel)
theorem tw_5_58 : Cond.static ⟨"SortWorks$Step", "divertTakes", "(LSortWorks$Gear;I)Z"⟩ ∈ sw_gw := p_mem (p_tb5 (List.mem_of_getElem? (i := 58) (by decide +kernel))) (by decide +kernel)
theorem tw_5_60 : Cond.methodLink "SortWorks$Step" 376 ⟨"SortWorks$Gear", "isChuteFor", "(II)Z"⟩ ∈ sw_gw := p_mem (p_tb5 (List.mem_of_getElem? (i := 60) (by decide +kernel))) (by decide +kernel)
theorem tw_5_61 : Cond.methodLink "SortWorks$Step" 363 ⟨"SortWorks$State", "carryOver", "(LSortWorks$Parcel;I)V"⟩ ∈ sw_gw := p_mem (p_tb5 (List.mem_of_getElem? (i := 61) (by decide +kernel))) (by decide +kernel)
theorem tw_5_62 : Cond.methodLink "SortWorks$Step" 210 ⟨"SortWorks$Step", "moveUp", "(LSortWorks$Gear;)V"⟩ ∈ sw_gw := p_mem (p_tb5 (List.mem_of_getElem? (i := 62) (by decide +kernel))) (by decide +kernel)
theorem tw_5_64 : Cond.instanceMethod ⟨"SortWorks$Step", "moveUp", "(LSortWorks$Gear;)V"⟩ ∈ sw_gw := p_mem (p_tb5 (List.mem_of_getElem? (i := 64) (by decide +kernel))) (by decide +kernel)
theorem tw_5_66 : Cond.methodLink "SortWorks$Step" 234 ⟨"SortWorks$State", "inSlot", "(LSortWorks$Gear;I)LSortWorks$Parcel;"⟩ ∈ sw_gw := p_mem (p_tb5 (List.mem_of_getElem? (i := 66) (by decide +kernel))) (by decide +kernel)
theorem tw_5_67 : Cond.methodLink "SortWorks$Step" 214 ⟨"SortWorks$Step", "setDial", "(ILSortWorks$Gear;)V"⟩ ∈ sw_gw := p_mem (p_tb5 (List.mem_of_getElem? (i := 67) (by decide +kernel))) (by decide +kernel)
theorem tw_5_69 : Cond.instanceMethod ⟨"SortWorks$Step", "setDial", "(ILSortWorks$Gear;)V"⟩ ∈ sw_gw := p_mem (p_tb5 (List.mem_of_getElem? (i := 69) (by decide +kernel))) (by decide +kernel)
theorem tw_5_71 : Cond.methodLink "SortWorks$Step" 221 ⟨"SortWorks$Step", "lampOf", "(LSortWorks$Gear;)I"⟩ ∈ sw_gw := p_mem (p_tb5 (List.mem_of_getElem? (i := 71) (by decide +kernel))) (by decide +kernel)
theorem tw_5_73 : Cond.instanceMethod ⟨"SortWorks$Step", "lampOf", "(LSortWorks$Gear;)I"⟩ ∈ sw_gw := p_mem (p_tb5 (List.mem_of_getElem? (i := 73) (by decide +kernel))) (by decide +kernel)
theorem tw_5_75 : Cond.methodLink "SortWorksLaw" 116 ⟨"SortWorks", "night", "(II)I"⟩ ∈ sw_gw := p_mem (p_tb5 (List.mem_of_getElem? (i := 75) (by decide +kernel))) (by decide +kernel)
theorem tw_5_76 : Cond.instanceMethod ⟨"SortWorks", "night", "(II)I"⟩ ∈ sw_gw := p_mem (p_tb5 (List.mem_of_getElem? (i := 76) (by decide +kernel))) (by decide +kernel)
theorem tw_5_77 : Cond.selects "SortWorks" ⟨"SortWorks", "night", "(II)I"⟩ ⟨"SortWorks", "night", "(II)I"⟩ ∈ sw_gw := p_mem (p_tb5 (List.mem_of_getElem? (i := 77) (by decide +kernel))) (by decide +kernel)
theorem tw_5_79 : Cond.methodLink "SortWorks" 277 ⟨"SortWorks", "drawnAfter", "(I)I"⟩ ∈ sw_gw := p_mem (p_tb5 (List.mem_of_getElem? (i := 79) (by decide +kernel))) (by decide +kernel)
theorem tw_5_80 : Cond.static ⟨"SortWorks", "drawnAfter", "(I)I"⟩ ∈ sw_gw := p_mem (p_tb5 (List.mem_of_getElem? (i := 80) (by decide +kernel))) (by decide +kernel)
theorem tw_5_82 : Cond.constant "SortWorks" 284 (1103515245 : Int32) ∈ sw_gw := p_mem (p_tb5 (List.mem_of_getElem? (i := 82) (by decide +kernel))) (by decide +kernel)
theorem tw_5_83 : Cond.methodLink "SortWorks" 280 ⟨"SortWorks", "comeByNight", "(III)I"⟩ ∈ sw_gw := p_mem (p_tb5 (List.mem_of_getElem? (i := 83) (by decide +kernel))) (by decide +kernel)
theorem tw_5_85 : Cond.instanceMethod ⟨"SortWorks", "comeByNight", "(III)I"⟩ ∈ sw_gw := p_mem (p_tb5 (List.mem_of_getElem? (i := 85) (by decide +kernel))) (by decide +kernel)
theorem tw_5_87 : Cond.methodLink "SortWorks" 285 ⟨"SortWorks$Parcel", "spoil", "(I)V"⟩ ∈ sw_gw := p_mem (p_tb5 (List.mem_of_getElem? (i := 87) (by decide +kernel))) (by decide +kernel)
theorem tw_5_88 : Cond.instanceMethod ⟨"SortWorks$Parcel", "spoil", "(I)V"⟩ ∈ sw_gw := p_mem (p_tb5 (List.mem_of_getElem? (i := 88) (by decide +kernel))) (by decide +kernel)
theorem tw_5_89 : Cond.selects "SortWorks$Parcel" ⟨"SortWorks$Parcel", "spoil", "(I)V"⟩ ⟨"SortWorks$Parcel", "spoil", "(I)V"⟩ ∈ sw_gw := p_mem (p_tb5 (List.mem_of_getElem? (i := 89) (by decide +kernel))) (by decide +kernel)
theorem tw_5_91 : Cond.methodLink "SortWorks$Parcel" 63 ⟨"SortWorks$Parcel", "raiseLastByte", "()V"⟩ ∈ sw_gw := p_mem (p_tb5 (List.mem_of_getElem? (i := 91) (by decide +kernel))) (by decide +kernel)
theorem tw_5_93 : Cond.instanceMethod ⟨"SortWorks$Parcel", "raiseLastByte", "()V"⟩ ∈ sw_gw := p_mem (p_tb5 (List.mem_of_getElem? (i := 93) (by decide +kernel))) (by decide +kernel)
theorem tw_5_95 : Cond.methodLink "SortWorksLaw" 120 ⟨"SortWorks", "back", "(I)I"⟩ ∈ sw_gw := p_mem (p_tb5 (List.mem_of_getElem? (i := 95) (by decide +kernel))) (by decide +kernel)
theorem tw_5_96 : Cond.instanceMethod ⟨"SortWorks", "back", "(I)I"⟩ ∈ sw_gw := p_mem (p_tb5 (List.mem_of_getElem? (i := 96) (by decide +kernel))) (by decide +kernel)
theorem tw_5_97 : Cond.selects "SortWorks" ⟨"SortWorks", "back", "(I)I"⟩ ⟨"SortWorks", "back", "(I)I"⟩ ∈ sw_gw := p_mem (p_tb5 (List.mem_of_getElem? (i := 97) (by decide +kernel))) (by decide +kernel)
theorem tw_5_99 : Cond.methodLink "SortWorks" 291 ⟨"SortWorks$Works", "goBack", "(I)V"⟩ ∈ sw_gw := p_mem (p_tb5 (List.mem_of_getElem? (i := 99) (by decide +kernel))) (by decide +kernel)
theorem tw_5_100 : Cond.instanceMethod ⟨"SortWorks$Works", "goBack", "(I)V"⟩ ∈ sw_gw := p_mem (p_tb5 (List.mem_of_getElem? (i := 100) (by decide +kernel))) (by decide +kernel)
theorem tw_5_101 : Cond.selects "SortWorks$Works" ⟨"SortWorks$Works", "goBack", "(I)V"⟩ ⟨"SortWorks$Works", "goBack", "(I)V"⟩ ∈ sw_gw := p_mem (p_tb5 (List.mem_of_getElem? (i := 101) (by decide +kernel))) (by decide +kernel)
theorem tw_5_103 : Cond.methodLink "SortWorks$Works" 113 ⟨"java/lang/Math", "floorMod", "(II)I"⟩ ∈ sw_gw := p_mem (p_tb5 (List.mem_of_getElem? (i := 103) (by decide +kernel))) (by decide +kernel)
theorem tw_5_104 : Cond.static ⟨"java/lang/Math", "floorMod", "(II)I"⟩ ∈ sw_gw := p_mem (p_tb5 (List.mem_of_getElem? (i := 104) (by decide +kernel))) (by decide +kernel)
theorem tw_5_106 : Cond.methodLink "SortWorks" 294 ⟨"SortWorks$Numbers", "undoSince", "(ILSortWorks$State;)V"⟩ ∈ sw_gw := p_mem (p_tb5 (List.mem_of_getElem? (i := 106) (by decide +kernel))) (by decide +kernel)
theorem tw_5_107 : Cond.instanceMethod ⟨"SortWorks$Numbers", "undoSince", "(ILSortWorks$State;)V"⟩ ∈ sw_gw := p_mem (p_tb5 (List.mem_of_getElem? (i := 107) (by decide +kernel))) (by decide +kernel)
theorem tw_5_108 : Cond.selects "SortWorks$Numbers" ⟨"SortWorks$Numbers", "undoSince", "(ILSortWorks$State;)V"⟩ ⟨"SortWorks$Numbers", "undoSince", "(ILSortWorks$State;)V"⟩ ∈ sw_gw := p_mem (p_tb5 (List.mem_of_getElem? (i := 108) (by decide +kernel))) (by decide +kernel)
theorem tw_5_110 : Cond.methodLink "SortWorksLaw" 124 ⟨"SortWorks", "status", "()I"⟩ ∈ sw_gw := p_mem (p_tb5 (List.mem_of_getElem? (i := 110) (by decide +kernel))) (by decide +kernel)
theorem tw_5_111 : Cond.instanceMethod ⟨"SortWorks", "status", "()I"⟩ ∈ sw_gw := p_mem (p_tb5 (List.mem_of_getElem? (i := 111) (by decide +kernel))) (by decide +kernel)
theorem tw_5_112 : Cond.selects "SortWorks" ⟨"SortWorks", "status", "()I"⟩ ⟨"SortWorks", "status", "()I"⟩ ∈ sw_gw := p_mem (p_tb5 (List.mem_of_getElem? (i := 112) (by decide +kernel))) (by decide +kernel)
theorem tw_5_114 : Cond.methodLink "SortWorksLaw" 128 ⟨"SortWorks", "told", "(II)I"⟩ ∈ sw_gw := p_mem (p_tb5 (List.mem_of_getElem? (i := 114) (by decide +kernel))) (by decide +kernel)
theorem tw_5_115 : Cond.instanceMethod ⟨"SortWorks", "told", "(II)I"⟩ ∈ sw_gw := p_mem (p_tb5 (List.mem_of_getElem? (i := 115) (by decide +kernel))) (by decide +kernel)
theorem tw_5_116 : Cond.selects "SortWorks" ⟨"SortWorks", "told", "(II)I"⟩ ⟨"SortWorks", "told", "(II)I"⟩ ∈ sw_gw := p_mem (p_tb5 (List.mem_of_getElem? (i := 116) (by decide +kernel))) (by decide +kernel)
theorem tw_5_118 : Cond.methodLink "SortWorks" 298 ⟨"SortWorks$Gear", "tell", "(I)I"⟩ ∈ sw_gw := p_mem (p_tb5 (List.mem_of_getElem? (i := 118) (by decide +kernel))) (by decide +kernel)
theorem tw_5_119 : Cond.instanceMethod ⟨"SortWorks$Gear", "tell", "(I)I"⟩ ∈ sw_gw := p_mem (p_tb5 (List.mem_of_getElem? (i := 119) (by decide +kernel))) (by decide +kernel)
theorem tw_5_120 : Cond.selects "SortWorks$Gear" ⟨"SortWorks$Gear", "tell", "(I)I"⟩ ⟨"SortWorks$Gear", "tell", "(I)I"⟩ ∈ sw_gw := p_mem (p_tb5 (List.mem_of_getElem? (i := 120) (by decide +kernel))) (by decide +kernel)
theorem tw_5_122 : Cond.methodLink "SortWorks$Gear" 120 ⟨"SortWorks$Gear", "parcels", "()I"⟩ ∈ sw_gw := p_mem (p_tb5 (List.mem_of_getElem? (i := 122) (by decide +kernel))) (by decide +kernel)
theorem tw_5_124 : Cond.methodLink "SortWorksLaw" 132 ⟨"SortWorks", "slot", "(II)I"⟩ ∈ sw_gw := p_mem (p_tb5 (List.mem_of_getElem? (i := 124) (by decide +kernel))) (by decide +kernel)
theorem tw_5_125 : Cond.instanceMethod ⟨"SortWorks", "slot", "(II)I"⟩ ∈ sw_gw := p_mem (p_tb5 (List.mem_of_getElem? (i := 125) (by decide +kernel))) (by decide +kernel)
theorem tw_5_126 : Cond.selects "SortWorks" ⟨"SortWorks", "slot", "(II)I"⟩ ⟨"SortWorks", "slot", "(II)I"⟩ ∈ sw_gw := p_mem (p_tb5 (List.mem_of_getElem? (i := 126) (by decide +kernel))) (by decide +kernel)
theorem tw_5_128 : Cond.methodLink "SortWorks" 301 ⟨"SortWorks$State", "inSlot", "(LSortWorks$Gear;I)LSortWorks$Parcel;"⟩ ∈ sw_gw := p_mem (p_tb5 (List.mem_of_getElem? (i := 128) (by decide +kernel))) (by decide +kernel)
theorem tw_5_129 : Cond.methodLink "SortWorksLaw" 136 ⟨"SortWorks", "linkOf", "(II)I"⟩ ∈ sw_gw := p_mem (p_tb5 (List.mem_of_getElem? (i := 129) (by decide +kernel))) (by decide +kernel)
theorem tw_5_130 : Cond.instanceMethod ⟨"SortWorks", "linkOf", "(II)I"⟩ ∈ sw_gw := p_mem (p_tb5 (List.mem_of_getElem? (i := 130) (by decide +kernel))) (by decide +kernel)
theorem tw_5_131 : Cond.selects "SortWorks" ⟨"SortWorks", "linkOf", "(II)I"⟩ ⟨"SortWorks", "linkOf", "(II)I"⟩ ∈ sw_gw := p_mem (p_tb5 (List.mem_of_getElem? (i := 131) (by decide +kernel))) (by decide +kernel)
theorem tw_5_133 : Cond.methodLink "SortWorksLaw" 140 ⟨"SortWorks", "parcel", "(II)I"⟩ ∈ sw_gw := p_mem (p_tb5 (List.mem_of_getElem? (i := 133) (by decide +kernel))) (by decide +kernel)
theorem tw_5_134 : Cond.instanceMethod ⟨"SortWorks", "parcel", "(II)I"⟩ ∈ sw_gw := p_mem (p_tb5 (List.mem_of_getElem? (i := 134) (by decide +kernel))) (by decide +kernel)
theorem tw_5_135 : Cond.selects "SortWorks" ⟨"SortWorks", "parcel", "(II)I"⟩ ⟨"SortWorks", "parcel", "(II)I"⟩ ∈ sw_gw := p_mem (p_tb5 (List.mem_of_getElem? (i := 135) (by decide +kernel))) (by decide +kernel)
theorem tw_5_137 : Cond.methodLink "SortWorks" 305 ⟨"SortWorks$Parcel", "tell", "(I)I"⟩ ∈ sw_gw := p_mem (p_tb5 (List.mem_of_getElem? (i := 137) (by decide +kernel))) (by decide +kernel)
theorem tw_5_138 : Cond.instanceMethod ⟨"SortWorks$Parcel", "tell", "(I)I"⟩ ∈ sw_gw := p_mem (p_tb5 (List.mem_of_getElem? (i := 138) (by decide +kernel))) (by decide +kernel)
theorem tw_5_139 : Cond.selects "SortWorks$Parcel" ⟨"SortWorks$Parcel", "tell", "(I)I"⟩ ⟨"SortWorks$Parcel", "tell", "(I)I"⟩ ∈ sw_gw := p_mem (p_tb5 (List.mem_of_getElem? (i := 139) (by decide +kernel))) (by decide +kernel)
theorem tw_5_141 : Cond.methodLink "SortWorksLaw" 144 ⟨"SortWorks", "way", "(II)I"⟩ ∈ sw_gw := p_mem (p_tb5 (List.mem_of_getElem? (i := 141) (by decide +kernel))) (by decide +kernel)
theorem tw_5_142 : Cond.instanceMethod ⟨"SortWorks", "way", "(II)I"⟩ ∈ sw_gw := p_mem (p_tb5 (List.mem_of_getElem? (i := 142) (by decide +kernel))) (by decide +kernel)
theorem tw_5_143 : Cond.selects "SortWorks" ⟨"SortWorks", "way", "(II)I"⟩ ⟨"SortWorks", "way", "(II)I"⟩ ∈ sw_gw := p_mem (p_tb5 (List.mem_of_getElem? (i := 143) (by decide +kernel))) (by decide +kernel)
theorem tw_5_145 : Cond.methodLink "SortWorksLaw" 148 ⟨"SortWorks", "byteOf", "(II)I"⟩ ∈ sw_gw := p_mem (p_tb5 (List.mem_of_getElem? (i := 145) (by decide +kernel))) (by decide +kernel)
theorem tw_5_146 : Cond.instanceMethod ⟨"SortWorks", "byteOf", "(II)I"⟩ ∈ sw_gw := p_mem (p_tb5 (List.mem_of_getElem? (i := 146) (by decide +kernel))) (by decide +kernel)
theorem tw_5_147 : Cond.selects "SortWorks" ⟨"SortWorks", "byteOf", "(II)I"⟩ ⟨"SortWorks", "byteOf", "(II)I"⟩ ∈ sw_gw := p_mem (p_tb5 (List.mem_of_getElem? (i := 147) (by decide +kernel))) (by decide +kernel)
theorem tw_5_149 : Cond.methodLink "SortWorksLaw" 152 ⟨"SortWorks", "left", "(I)I"⟩ ∈ sw_gw := p_mem (p_tb5 (List.mem_of_getElem? (i := 149) (by decide +kernel))) (by decide +kernel)
theorem tw_5_150 : Cond.instanceMethod ⟨"SortWorks", "left", "(I)I"⟩ ∈ sw_gw := p_mem (p_tb5 (List.mem_of_getElem? (i := 150) (by decide +kernel))) (by decide +kernel)
theorem tw_5_151 : Cond.selects "SortWorks" ⟨"SortWorks", "left", "(I)I"⟩ ⟨"SortWorks", "left", "(I)I"⟩ ∈ sw_gw := p_mem (p_tb5 (List.mem_of_getElem? (i := 151) (by decide +kernel))) (by decide +kernel)
theorem tw_5_153 : Cond.methodLink "SortWorksLaw" 156 ⟨"SortWorks", "out", "(II)I"⟩ ∈ sw_gw := p_mem (p_tb5 (List.mem_of_getElem? (i := 153) (by decide +kernel))) (by decide +kernel)
theorem tw_5_154 : Cond.instanceMethod ⟨"SortWorks", "out", "(II)I"⟩ ∈ sw_gw := p_mem (p_tb5 (List.mem_of_getElem? (i := 154) (by decide +kernel))) (by decide +kernel)
theorem tw_5_155 : Cond.selects "SortWorks" ⟨"SortWorks", "out", "(II)I"⟩ ⟨"SortWorks", "out", "(II)I"⟩ ∈ sw_gw := p_mem (p_tb5 (List.mem_of_getElem? (i := 155) (by decide +kernel))) (by decide +kernel)
theorem tw_5_157 : Cond.methodLink "SortWorks" 319 ⟨"SortWorks$Log", "tell", "(II)I"⟩ ∈ sw_gw := p_mem (p_tb5 (List.mem_of_getElem? (i := 157) (by decide +kernel))) (by decide +kernel)
theorem tw_5_158 : Cond.instanceMethod ⟨"SortWorks$Log", "tell", "(II)I"⟩ ∈ sw_gw := p_mem (p_tb5 (List.mem_of_getElem? (i := 158) (by decide +kernel))) (by decide +kernel)
theorem tw_5_159 : Cond.selects "SortWorks$Log" ⟨"SortWorks$Log", "tell", "(II)I"⟩ ⟨"SortWorks$Log", "tell", "(II)I"⟩ ∈ sw_gw := p_mem (p_tb5 (List.mem_of_getElem? (i := 159) (by decide +kernel))) (by decide +kernel)
theorem tw_5_161 : Cond.methodLink "SortWorksLaw" 160 ⟨"SortWorks", "rule", "(II)I"⟩ ∈ sw_gw := p_mem (p_tb5 (List.mem_of_getElem? (i := 161) (by decide +kernel))) (by decide +kernel)
theorem tw_5_162 : Cond.instanceMethod ⟨"SortWorks", "rule", "(II)I"⟩ ∈ sw_gw := p_mem (p_tb5 (List.mem_of_getElem? (i := 162) (by decide +kernel))) (by decide +kernel)
theorem tw_5_163 : Cond.selects "SortWorks" ⟨"SortWorks", "rule", "(II)I"⟩ ⟨"SortWorks", "rule", "(II)I"⟩ ∈ sw_gw := p_mem (p_tb5 (List.mem_of_getElem? (i := 163) (by decide +kernel))) (by decide +kernel)
theorem tw_5_165 : Cond.methodLink "SortWorksLaw" 164 ⟨"SortWorks", "said", "(I)I"⟩ ∈ sw_gw := p_mem (p_tb5 (List.mem_of_getElem? (i := 165) (by decide +kernel))) (by decide +kernel)
theorem tw_5_166 : Cond.instanceMethod ⟨"SortWorks", "said", "(I)I"⟩ ∈ sw_gw := p_mem (p_tb5 (List.mem_of_getElem? (i := 166) (by decide +kernel))) (by decide +kernel)
theorem tw_5_167 : Cond.selects "SortWorks" ⟨"SortWorks", "said", "(I)I"⟩ ⟨"SortWorks", "said", "(I)I"⟩ ∈ sw_gw := p_mem (p_tb5 (List.mem_of_getElem? (i := 167) (by decide +kernel))) (by decide +kernel)
theorem tw_5_169 : Cond.methodLink "SortWorksLaw" 168 ⟨"SortWorks", "unused", "(I)I"⟩ ∈ sw_gw := p_mem (p_tb5 (List.mem_of_getElem? (i := 169) (by decide +kernel))) (by decide +kernel)
theorem tw_5_170 : Cond.instanceMethod ⟨"SortWorks", "unused", "(I)I"⟩ ∈ sw_gw := p_mem (p_tb5 (List.mem_of_getElem? (i := 170) (by decide +kernel))) (by decide +kernel)
theorem tw_5_171 : Cond.selects "SortWorks" ⟨"SortWorks", "unused", "(I)I"⟩ ⟨"SortWorks", "unused", "(I)I"⟩ ∈ sw_gw := p_mem (p_tb5 (List.mem_of_getElem? (i := 171) (by decide +kernel))) (by decide +kernel)
theorem tw_5_173 : Cond.methodLink "SortWorksLaw" 172 ⟨"SortWorks", "finding", "(II)I"⟩ ∈ sw_gw := p_mem (p_tb5 (List.mem_of_getElem? (i := 173) (by decide +kernel))) (by decide +kernel)
theorem tw_5_174 : Cond.instanceMethod ⟨"SortWorks", "finding", "(II)I"⟩ ∈ sw_gw := p_mem (p_tb5 (List.mem_of_getElem? (i := 174) (by decide +kernel))) (by decide +kernel)
theorem tw_5_175 : Cond.selects "SortWorks" ⟨"SortWorks", "finding", "(II)I"⟩ ⟨"SortWorks", "finding", "(II)I"⟩ ∈ sw_gw := p_mem (p_tb5 (List.mem_of_getElem? (i := 175) (by decide +kernel))) (by decide +kernel)
theorem tw_5_177 : Cond.methodLink "SortWorksLaw" 176 ⟨"SortWorks", "trace", "(I)I"⟩ ∈ sw_gw := p_mem (p_tb5 (List.mem_of_getElem? (i := 177) (by decide +kernel))) (by decide +kernel)
theorem tw_5_178 : Cond.instanceMethod ⟨"SortWorks", "trace", "(I)I"⟩ ∈ sw_gw := p_mem (p_tb5 (List.mem_of_getElem? (i := 178) (by decide +kernel))) (by decide +kernel)
theorem tw_5_179 : Cond.selects "SortWorks" ⟨"SortWorks", "trace", "(I)I"⟩ ⟨"SortWorks", "trace", "(I)I"⟩ ∈ sw_gw := p_mem (p_tb5 (List.mem_of_getElem? (i := 179) (by decide +kernel))) (by decide +kernel)
theorem tw_5_181 : Cond.methodLink "SortWorksLaw" 180 ⟨"SortWorks", "jam", "(I)I"⟩ ∈ sw_gw := p_mem (p_tb5 (List.mem_of_getElem? (i := 181) (by decide +kernel))) (by decide +kernel)
theorem tw_5_182 : Cond.instanceMethod ⟨"SortWorks", "jam", "(I)I"⟩ ∈ sw_gw := p_mem (p_tb5 (List.mem_of_getElem? (i := 182) (by decide +kernel))) (by decide +kernel)
theorem tw_5_183 : Cond.selects "SortWorks" ⟨"SortWorks", "jam", "(I)I"⟩ ⟨"SortWorks", "jam", "(I)I"⟩ ∈ sw_gw := p_mem (p_tb5 (List.mem_of_getElem? (i := 183) (by decide +kernel))) (by decide +kernel)
theorem tw_5_185 : Cond.methodLink "SortWorksLaw" 184 ⟨"SortWorks", "far", "(II)I"⟩ ∈ sw_gw := p_mem (p_tb5 (List.mem_of_getElem? (i := 185) (by decide +kernel))) (by decide +kernel)
theorem tw_5_186 : Cond.instanceMethod ⟨"SortWorks", "far", "(II)I"⟩ ∈ sw_gw := p_mem (p_tb5 (List.mem_of_getElem? (i := 186) (by decide +kernel))) (by decide +kernel)
theorem tw_5_187 : Cond.selects "SortWorks" ⟨"SortWorks", "far", "(II)I"⟩ ⟨"SortWorks", "far", "(II)I"⟩ ∈ sw_gw := p_mem (p_tb5 (List.mem_of_getElem? (i := 187) (by decide +kernel))) (by decide +kernel)
theorem tw_5_189 : Cond.methodLink "SortWorks" 348 ⟨"SortWorks$Works", "fewestSlots", "(II)I"⟩ ∈ sw_gw := p_mem (p_tb5 (List.mem_of_getElem? (i := 189) (by decide +kernel))) (by decide +kernel)
theorem tw_5_190 : Cond.instanceMethod ⟨"SortWorks$Works", "fewestSlots", "(II)I"⟩ ∈ sw_gw := p_mem (p_tb5 (List.mem_of_getElem? (i := 190) (by decide +kernel))) (by decide +kernel)
theorem tw_5_191 : Cond.selects "SortWorks$Works" ⟨"SortWorks$Works", "fewestSlots", "(II)I"⟩ ⟨"SortWorks$Works", "fewestSlots", "(II)I"⟩ ∈ sw_gw := p_mem (p_tb5 (List.mem_of_getElem? (i := 191) (by decide +kernel))) (by decide +kernel)
theorem tw_5_193 : Cond.methodLink "SortWorks$Works" 129 ⟨"SortWorks$Works", "measureWays", "(I)V"⟩ ∈ sw_gw := p_mem (p_tb5 (List.mem_of_getElem? (i := 193) (by decide +kernel))) (by decide +kernel)
theorem tw_5_194 : Cond.instanceMethod ⟨"SortWorks$Works", "measureWays", "(I)V"⟩ ∈ sw_gw := p_mem (p_tb5 (List.mem_of_getElem? (i := 194) (by decide +kernel))) (by decide +kernel)
theorem tw_5_195 : Cond.selects "SortWorks$Works" ⟨"SortWorks$Works", "measureWays", "(I)V"⟩ ⟨"SortWorks$Works", "measureWays", "(I)V"⟩ ∈ sw_gw := p_mem (p_tb5 (List.mem_of_getElem? (i := 195) (by decide +kernel))) (by decide +kernel)
theorem tw_5_197 : Cond.constant "SortWorks$Works" 133 (1000000 : Int32) ∈ sw_gw := p_mem (p_tb5 (List.mem_of_getElem? (i := 197) (by decide +kernel))) (by decide +kernel)
theorem tw_5_198 : Cond.methodLink "SortWorks$Works" 134 ⟨"SortWorks$Works", "goAhead", "(II)Z"⟩ ∈ sw_gw := p_mem (p_tb5 (List.mem_of_getElem? (i := 198) (by decide +kernel))) (by decide +kernel)
theorem tw_5_200 : Cond.instanceMethod ⟨"SortWorks$Works", "goAhead", "(II)Z"⟩ ∈ sw_gw := p_mem (p_tb5 (List.mem_of_getElem? (i := 200) (by decide +kernel))) (by decide +kernel)
theorem tw_5_203 : Cond.methodLink "SortWorks$Works" 141 ⟨"SortWorks$Works", "follow", "(LSortWorks$Gear;I)I"⟩ ∈ sw_gw := p_mem (p_tb5 (List.mem_of_getElem? (i := 203) (by decide +kernel))) (by decide +kernel)
theorem tw_5_204 : Cond.methodLink "SortWorks$Works" 145 ⟨"SortWorks$Gear", "isTaker", "()Z"⟩ ∈ sw_gw := p_mem (p_tb5 (List.mem_of_getElem? (i := 204) (by decide +kernel))) (by decide +kernel)
theorem tw_5_205 : Cond.methodLink "SortWorksLaw" 188 ⟨"SortWorks", "reach", "(I)J"⟩ ∈ sw_gw := p_mem (p_tb5 (List.mem_of_getElem? (i := 205) (by decide +kernel))) (by decide +kernel)
theorem tw_5_206 : Cond.instanceMethod ⟨"SortWorks", "reach", "(I)J"⟩ ∈ sw_gw := p_mem (p_tb5 (List.mem_of_getElem? (i := 206) (by decide +kernel))) (by decide +kernel)
theorem tw_5_207 : Cond.selects "SortWorks" ⟨"SortWorks", "reach", "(I)J"⟩ ⟨"SortWorks", "reach", "(I)J"⟩ ∈ sw_gw := p_mem (p_tb5 (List.mem_of_getElem? (i := 207) (by decide +kernel))) (by decide +kernel)
theorem tw_5_209 : Cond.methodLink "SortWorks" 351 ⟨"SortWorks$Works", "measureWays", "(I)V"⟩ ∈ sw_gw := p_mem (p_tb5 (List.mem_of_getElem? (i := 209) (by decide +kernel))) (by decide +kernel)
theorem tw_5_210 : Cond.constant "SortWorks" 357 (1000000 : Int32) ∈ sw_gw := p_mem (p_tb5 (List.mem_of_getElem? (i := 210) (by decide +kernel))) (by decide +kernel)
theorem tw_5_211 : Cond.methodLink "SortWorksLaw" 193 ⟨"SortWorks", "ring", "(I)I"⟩ ∈ sw_gw := p_mem (p_tb5 (List.mem_of_getElem? (i := 211) (by decide +kernel))) (by decide +kernel)
theorem tw_5_212 : Cond.instanceMethod ⟨"SortWorks", "ring", "(I)I"⟩ ∈ sw_gw := p_mem (p_tb5 (List.mem_of_getElem? (i := 212) (by decide +kernel))) (by decide +kernel)
theorem tw_5_213 : Cond.selects "SortWorks" ⟨"SortWorks", "ring", "(I)I"⟩ ⟨"SortWorks", "ring", "(I)I"⟩ ∈ sw_gw := p_mem (p_tb5 (List.mem_of_getElem? (i := 213) (by decide +kernel))) (by decide +kernel)
theorem tw_5_215 : Cond.methodLink "SortWorksLaw" 197 ⟨"SortWorks", "audit", "()I"⟩ ∈ sw_gw := p_mem (p_tb5 (List.mem_of_getElem? (i := 215) (by decide +kernel))) (by decide +kernel)
theorem tw_5_216 : Cond.instanceMethod ⟨"SortWorks", "audit", "()I"⟩ ∈ sw_gw := p_mem (p_tb5 (List.mem_of_getElem? (i := 216) (by decide +kernel))) (by decide +kernel)
theorem tw_5_217 : Cond.selects "SortWorks" ⟨"SortWorks", "audit", "()I"⟩ ⟨"SortWorks", "audit", "()I"⟩ ∈ sw_gw := p_mem (p_tb5 (List.mem_of_getElem? (i := 217) (by decide +kernel))) (by decide +kernel)
theorem tw_5_219 : Cond.methodLink "SortWorksLaw" 201 ⟨"SortWorks", "count", "(I)I"⟩ ∈ sw_gw := p_mem (p_tb5 (List.mem_of_getElem? (i := 219) (by decide +kernel))) (by decide +kernel)
theorem tw_5_220 : Cond.instanceMethod ⟨"SortWorks", "count", "(I)I"⟩ ∈ sw_gw := p_mem (p_tb5 (List.mem_of_getElem? (i := 220) (by decide +kernel))) (by decide +kernel)
theorem tw_5_221 : Cond.selects "SortWorks" ⟨"SortWorks", "count", "(I)I"⟩ ⟨"SortWorks", "count", "(I)I"⟩ ∈ sw_gw := p_mem (p_tb5 (List.mem_of_getElem? (i := 221) (by decide +kernel))) (by decide +kernel)
theorem tw_5_223 : Cond.methodLink "SortWorksLaw" 205 ⟨"SortWorks", "digest", "()J"⟩ ∈ sw_gw := p_mem (p_tb5 (List.mem_of_getElem? (i := 223) (by decide +kernel))) (by decide +kernel)
theorem tw_5_224 : Cond.instanceMethod ⟨"SortWorks", "digest", "()J"⟩ ∈ sw_gw := p_mem (p_tb5 (List.mem_of_getElem? (i := 224) (by decide +kernel))) (by decide +kernel)
theorem tw_5_225 : Cond.selects "SortWorks" ⟨"SortWorks", "digest", "()J"⟩ ⟨"SortWorks", "digest", "()J"⟩ ∈ sw_gw := p_mem (p_tb5 (List.mem_of_getElem? (i := 225) (by decide +kernel))) (by decide +kernel)
theorem tw_5_227 : Cond.constantLong "SortWorks" 363 (17 : Int64) ∈ sw_gw := p_mem (p_tb5 (List.mem_of_getElem? (i := 227) (by decide +kernel))) (by decide +kernel)
theorem tw_5_228 : Cond.methodLink "SortWorks" 365 ⟨"SortWorks", "mixed", "(JI)J"⟩ ∈ sw_gw := p_mem (p_tb5 (List.mem_of_getElem? (i := 228) (by decide +kernel))) (by decide +kernel)
theorem tw_5_229 : Cond.static ⟨"SortWorks", "mixed", "(JI)J"⟩ ∈ sw_gw := p_mem (p_tb5 (List.mem_of_getElem? (i := 229) (by decide +kernel))) (by decide +kernel)
theorem tw_5_231 : Cond.constantLong "SortWorks" 373 (31 : Int64) ∈ sw_gw := p_mem (p_tb5 (List.mem_of_getElem? (i := 231) (by decide +kernel))) (by decide +kernel)
theorem tw_5_232 : Cond.methodLink "SortWorks" 369 ⟨"SortWorks", "mixedGear", "(JLSortWorks$Gear;)J"⟩ ∈ sw_gw := p_mem (p_tb5 (List.mem_of_getElem? (i := 232) (by decide +kernel))) (by decide +kernel)
theorem tw_5_234 : Cond.instanceMethod ⟨"SortWorks", "mixedGear", "(JLSortWorks$Gear;)J"⟩ ∈ sw_gw := p_mem (p_tb5 (List.mem_of_getElem? (i := 234) (by decide +kernel))) (by decide +kernel)
theorem tw_5_236 : Cond.classLink "SortWorksLaw" 10 "SortWorksModel" ∈ sw_gw := p_mem (p_tb5 (List.mem_of_getElem? (i := 236) (by decide +kernel))) (by decide +kernel)
theorem tw_5_237 : Cond.instantiable "SortWorksModel" 90 ∈ sw_gw := p_mem (p_tb5 (List.mem_of_getElem? (i := 237) (by decide +kernel))) (by decide +kernel)
theorem tw_5_238 : Cond.methodLink "SortWorksLaw" 12 ⟨"SortWorksModel", "<init>", "()V"⟩ ∈ sw_gw := p_mem (p_tb5 (List.mem_of_getElem? (i := 238) (by decide +kernel))) (by decide +kernel)
theorem tw_5_239 : Cond.instanceMethod ⟨"SortWorksModel", "<init>", "()V"⟩ ∈ sw_gw := p_mem (p_tb5 (List.mem_of_getElem? (i := 239) (by decide +kernel))) (by decide +kernel)
theorem tw_6_1 : Cond.methodLink "SortWorksModel" 1 ⟨"java/lang/Object", "<init>", "()V"⟩ ∈ sw_gw := p_mem (p_tb6 (List.mem_of_getElem? (i := 1) (by decide +kernel))) (by decide +kernel)
theorem tw_6_2 : Cond.constant "SortWorksModel" 213 (234000 : Int32) ∈ sw_gw := p_mem (p_tb6 (List.mem_of_getElem? (i := 2) (by decide +kernel))) (by decide +kernel)
theorem tw_6_3 : Cond.fieldLink "SortWorksModel" 227 "SortWorksModel" "w" "I" ∈ sw_gw := p_mem (p_tb6 (List.mem_of_getElem? (i := 3) (by decide +kernel))) (by decide +kernel)
theorem tw_6_4 : Cond.fieldLink "SortWorksModel" 220 "SortWorksModel" "status" "I" ∈ sw_gw := p_mem (p_tb6 (List.mem_of_getElem? (i := 4) (by decide +kernel))) (by decide +kernel)
theorem tw_6_5 : Cond.fieldLink "SortWorksModel" 224 "SortWorksModel" "houseFaults" "I" ∈ sw_gw := p_mem (p_tb6 (List.mem_of_getElem? (i := 5) (by decide +kernel))) (by decide +kernel)
theorem tw_6_6 : Cond.fieldLink "SortWorksModel" 7 "SortWorksModel" "gears" "[I" ∈ sw_gw := p_mem (p_tb6 (List.mem_of_getElem? (i := 6) (by decide +kernel))) (by decide +kernel)
theorem tw_6_7 : Cond.fieldLink "SortWorksModel" 13 "SortWorksModel" "time" "[I" ∈ sw_gw := p_mem (p_tb6 (List.mem_of_getElem? (i := 7) (by decide +kernel))) (by decide +kernel)
theorem tw_6_8 : Cond.fieldLink "SortWorksModel" 16 "SortWorksModel" "kind" "[I" ∈ sw_gw := p_mem (p_tb6 (List.mem_of_getElem? (i := 8) (by decide +kernel))) (by decide +kernel)
theorem tw_6_9 : Cond.fieldLink "SortWorksModel" 19 "SortWorksModel" "length" "[I" ∈ sw_gw := p_mem (p_tb6 (List.mem_of_getElem? (i := 9) (by decide +kernel))) (by decide +kernel)
theorem tw_6_10 : Cond.fieldLink "SortWorksModel" 22 "SortWorksModel" "linkMany" "[I" ∈ sw_gw := p_mem (p_tb6 (List.mem_of_getElem? (i := 10) (by decide +kernel))) (by decide +kernel)
theorem tw_6_11 : Cond.fieldLink "SortWorksModel" 25 "SortWorksModel" "link" "[I" ∈ sw_gw := p_mem (p_tb6 (List.mem_of_getElem? (i := 11) (by decide +kernel))) (by decide +kernel)
theorem tw_6_12 : Cond.fieldLink "SortWorksModel" 28 "SortWorksModel" "rank" "[I" ∈ sw_gw := p_mem (p_tb6 (List.mem_of_getElem? (i := 12) (by decide +kernel))) (by decide +kernel)
theorem tw_6_13 : Cond.fieldLink "SortWorksModel" 31 "SortWorksModel" "side" "[I" ∈ sw_gw := p_mem (p_tb6 (List.mem_of_getElem? (i := 13) (by decide +kernel))) (by decide +kernel)
theorem tw_6_14 : Cond.fieldLink "SortWorksModel" 34 "SortWorksModel" "sets" "[J" ∈ sw_gw := p_mem (p_tb6 (List.mem_of_getElem? (i := 14) (by decide +kernel))) (by decide +kernel)
theorem tw_6_15 : Cond.fieldLink "SortWorksModel" 38 "SortWorksModel" "last" "[I" ∈ sw_gw := p_mem (p_tb6 (List.mem_of_getElem? (i := 15) (by decide +kernel))) (by decide +kernel)
theorem tw_6_16 : Cond.fieldLink "SortWorksModel" 41 "SortWorksModel" "releases" "[I" ∈ sw_gw := p_mem (p_tb6 (List.mem_of_getElem? (i := 16) (by decide +kernel))) (by decide +kernel)
theorem tw_6_17 : Cond.fieldLink "SortWorksModel" 44 "SortWorksModel" "open" "[Z" ∈ sw_gw := p_mem (p_tb6 (List.mem_of_getElem? (i := 17) (by decide +kernel))) (by decide +kernel)
theorem tw_6_18 : Cond.fieldLink "SortWorksModel" 48 "SortWorksModel" "dial" "[I" ∈ sw_gw := p_mem (p_tb6 (List.mem_of_getElem? (i := 18) (by decide +kernel))) (by decide +kernel)
theorem tw_6_19 : Cond.fieldLink "SortWorksModel" 51 "SortWorksModel" "wait" "[I" ∈ sw_gw := p_mem (p_tb6 (List.mem_of_getElem? (i := 19) (by decide +kernel))) (by decide +kernel)
theorem tw_6_20 : Cond.fieldLink "SortWorksModel" 54 "SortWorksModel" "lamp" "[I" ∈ sw_gw := p_mem (p_tb6 (List.mem_of_getElem? (i := 20) (by decide +kernel))) (by decide +kernel)
theorem tw_6_21 : Cond.fieldLink "SortWorksModel" 57 "SortWorksModel" "came" "[I" ∈ sw_gw := p_mem (p_tb6 (List.mem_of_getElem? (i := 21) (by decide +kernel))) (by decide +kernel)
theorem tw_6_22 : Cond.fieldLink "SortWorksModel" 60 "SortWorksModel" "went" "[I" ∈ sw_gw := p_mem (p_tb6 (List.mem_of_getElem? (i := 22) (by decide +kernel))) (by decide +kernel)
theorem tw_6_23 : Cond.fieldLink "SortWorksModel" 63 "SortWorksModel" "found" "[I" ∈ sw_gw := p_mem (p_tb6 (List.mem_of_getElem? (i := 23) (by decide +kernel))) (by decide +kernel)
theorem tw_6_24 : Cond.fieldLink "SortWorksModel" 66 "SortWorksModel" "acts" "[I" ∈ sw_gw := p_mem (p_tb6 (List.mem_of_getElem? (i := 24) (by decide +kernel))) (by decide +kernel)
theorem tw_6_25 : Cond.fieldLink "SortWorksModel" 69 "SortWorksModel" "slots" "[I" ∈ sw_gw := p_mem (p_tb6 (List.mem_of_getElem? (i := 25) (by decide +kernel))) (by decide +kernel)
theorem tw_6_26 : Cond.fieldLink "SortWorksModel" 334 "SortWorksModel" "numbers" "I" ∈ sw_gw := p_mem (p_tb6 (List.mem_of_getElem? (i := 26) (by decide +kernel))) (by decide +kernel)
theorem tw_6_27 : Cond.fieldLink "SortWorksModel" 72 "SortWorksModel" "pWorks" "[I" ∈ sw_gw := p_mem (p_tb6 (List.mem_of_getElem? (i := 27) (by decide +kernel))) (by decide +kernel)
theorem tw_6_28 : Cond.fieldLink "SortWorksModel" 75 "SortWorksModel" "pWhere" "[I" ∈ sw_gw := p_mem (p_tb6 (List.mem_of_getElem? (i := 28) (by decide +kernel))) (by decide +kernel)
theorem tw_6_29 : Cond.fieldLink "SortWorksModel" 78 "SortWorksModel" "pGear" "[I" ∈ sw_gw := p_mem (p_tb6 (List.mem_of_getElem? (i := 29) (by decide +kernel))) (by decide +kernel)
theorem tw_6_30 : Cond.fieldLink "SortWorksModel" 81 "SortWorksModel" "pSlot" "[I" ∈ sw_gw := p_mem (p_tb6 (List.mem_of_getElem? (i := 30) (by decide +kernel))) (by decide +kernel)
theorem tw_6_31 : Cond.fieldLink "SortWorksModel" 84 "SortWorksModel" "pWeight" "[I" ∈ sw_gw := p_mem (p_tb6 (List.mem_of_getElem? (i := 31) (by decide +kernel))) (by decide +kernel)
theorem tw_6_32 : Cond.fieldLink "SortWorksModel" 87 "SortWorksModel" "pSize" "[I" ∈ sw_gw := p_mem (p_tb6 (List.mem_of_getElem? (i := 32) (by decide +kernel))) (by decide +kernel)
theorem tw_6_33 : Cond.fieldLink "SortWorksModel" 90 "SortWorksModel" "pTarget" "[I" ∈ sw_gw := p_mem (p_tb6 (List.mem_of_getElem? (i := 33) (by decide +kernel))) (by decide +kernel)
theorem tw_6_34 : Cond.fieldLink "SortWorksModel" 93 "SortWorksModel" "pLabel" "[I" ∈ sw_gw := p_mem (p_tb6 (List.mem_of_getElem? (i := 34) (by decide +kernel))) (by decide +kernel)
theorem tw_6_35 : Cond.fieldLink "SortWorksModel" 96 "SortWorksModel" "pByte" "[I" ∈ sw_gw := p_mem (p_tb6 (List.mem_of_getElem? (i := 35) (by decide +kernel))) (by decide +kernel)
theorem tw_6_36 : Cond.fieldLink "SortWorksModel" 99 "SortWorksModel" "pWays" "[I" ∈ sw_gw := p_mem (p_tb6 (List.mem_of_getElem? (i := 36) (by decide +kernel))) (by decide +kernel)
theorem tw_6_37 : Cond.fieldLink "SortWorksModel" 102 "SortWorksModel" "pWay" "[I" ∈ sw_gw := p_mem (p_tb6 (List.mem_of_getElem? (i := 37) (by decide +kernel))) (by decide +kernel)
theorem tw_6_38 : Cond.fieldLink "SortWorksModel" 105 "SortWorksModel" "pScanned" "[Z" ∈ sw_gw := p_mem (p_tb6 (List.mem_of_getElem? (i := 38) (by decide +kernel))) (by decide +kernel)
theorem tw_6_39 : Cond.fieldLink "SortWorksModel" 108 "SortWorksModel" "pMoved" "[Z" ∈ sw_gw := p_mem (p_tb6 (List.mem_of_getElem? (i := 39) (by decide +kernel))) (by decide +kernel)
theorem tw_6_40 : Cond.fieldLink "SortWorksModel" 111 "SortWorksModel" "pDoor" "[I" ∈ sw_gw := p_mem (p_tb6 (List.mem_of_getElem? (i := 40) (by decide +kernel))) (by decide +kernel)
theorem tw_6_41 : Cond.fieldLink "SortWorksModel" 114 "SortWorksModel" "inside" "[I" ∈ sw_gw := p_mem (p_tb6 (List.mem_of_getElem? (i := 41) (by decide +kernel))) (by decide +kernel)
theorem tw_6_42 : Cond.fieldLink "SortWorksModel" 117 "SortWorksModel" "arrived" "[I" ∈ sw_gw := p_mem (p_tb6 (List.mem_of_getElem? (i := 42) (by decide +kernel))) (by decide +kernel)
theorem tw_6_43 : Cond.fieldLink "SortWorksModel" 120 "SortWorksModel" "outMany" "[I" ∈ sw_gw := p_mem (p_tb6 (List.mem_of_getElem? (i := 43) (by decide +kernel))) (by decide +kernel)
theorem tw_6_44 : Cond.fieldLink "SortWorksModel" 123 "SortWorksModel" "outs" "[I" ∈ sw_gw := p_mem (p_tb6 (List.mem_of_getElem? (i := 44) (by decide +kernel))) (by decide +kernel)
theorem tw_6_45 : Cond.fieldLink "SortWorksModel" 126 "SortWorksModel" "findings" "[I" ∈ sw_gw := p_mem (p_tb6 (List.mem_of_getElem? (i := 45) (by decide +kernel))) (by decide +kernel)
theorem tw_6_46 : Cond.fieldLink "SortWorksModel" 129 "SortWorksModel" "finding" "[I" ∈ sw_gw := p_mem (p_tb6 (List.mem_of_getElem? (i := 46) (by decide +kernel))) (by decide +kernel)
theorem tw_6_47 : Cond.fieldLink "SortWorksModel" 132 "SortWorksModel" "traced" "[I" ∈ sw_gw := p_mem (p_tb6 (List.mem_of_getElem? (i := 47) (by decide +kernel))) (by decide +kernel)
theorem tw_6_48 : Cond.fieldLink "SortWorksModel" 135 "SortWorksModel" "traces" "[I" ∈ sw_gw := p_mem (p_tb6 (List.mem_of_getElem? (i := 48) (by decide +kernel))) (by decide +kernel)
theorem tw_6_49 : Cond.fieldLink "SortWorksModel" 138 "SortWorksModel" "letters" "[I" ∈ sw_gw := p_mem (p_tb6 (List.mem_of_getElem? (i := 49) (by decide +kernel))) (by decide +kernel)
theorem tw_6_50 : Cond.fieldLink "SortWorksModel" 295 "SortWorksModel" "typed" "I" ∈ sw_gw := p_mem (p_tb6 (List.mem_of_getElem? (i := 50) (by decide +kernel))) (by decide +kernel)
theorem tw_6_51 : Cond.fieldLink "SortWorksModel" 141 "SortWorksModel" "rules" "[I" ∈ sw_gw := p_mem (p_tb6 (List.mem_of_getElem? (i := 51) (by decide +kernel))) (by decide +kernel)
theorem tw_6_52 : Cond.fieldLink "SortWorksModel" 144 "SortWorksModel" "ruleTo" "[I" ∈ sw_gw := p_mem (p_tb6 (List.mem_of_getElem? (i := 52) (by decide +kernel))) (by decide +kernel)
theorem tw_6_53 : Cond.fieldLink "SortWorksModel" 147 "SortWorksModel" "ruleTests" "[I" ∈ sw_gw := p_mem (p_tb6 (List.mem_of_getElem? (i := 53) (by decide +kernel))) (by decide +kernel)
theorem tw_6_54 : Cond.fieldLink "SortWorksModel" 150 "SortWorksModel" "ruleUsed" "[I" ∈ sw_gw := p_mem (p_tb6 (List.mem_of_getElem? (i := 54) (by decide +kernel))) (by decide +kernel)
theorem tw_6_55 : Cond.fieldLink "SortWorksModel" 153 "SortWorksModel" "testWhat" "[I" ∈ sw_gw := p_mem (p_tb6 (List.mem_of_getElem? (i := 55) (by decide +kernel))) (by decide +kernel)
theorem tw_6_56 : Cond.fieldLink "SortWorksModel" 156 "SortWorksModel" "testGear" "[I" ∈ sw_gw := p_mem (p_tb6 (List.mem_of_getElem? (i := 56) (by decide +kernel))) (by decide +kernel)
theorem tw_6_57 : Cond.fieldLink "SortWorksModel" 159 "SortWorksModel" "testSign" "[I" ∈ sw_gw := p_mem (p_tb6 (List.mem_of_getElem? (i := 57) (by decide +kernel))) (by decide +kernel)
theorem tw_6_58 : Cond.fieldLink "SortWorksModel" 162 "SortWorksModel" "testNumber" "[I" ∈ sw_gw := p_mem (p_tb6 (List.mem_of_getElem? (i := 58) (by decide +kernel))) (by decide +kernel)
theorem tw_6_59 : Cond.fieldLink "SortWorksModel" 165 "SortWorksModel" "plans" "[I" ∈ sw_gw := p_mem (p_tb6 (List.mem_of_getElem? (i := 59) (by decide +kernel))) (by decide +kernel)
theorem tw_6_60 : Cond.fieldLink "SortWorksModel" 168 "SortWorksModel" "planMany" "[I" ∈ sw_gw := p_mem (p_tb6 (List.mem_of_getElem? (i := 60) (by decide +kernel))) (by decide +kernel)
theorem tw_6_61 : Cond.fieldLink "SortWorksModel" 171 "SortWorksModel" "planRow" "[I" ∈ sw_gw := p_mem (p_tb6 (List.mem_of_getElem? (i := 61) (by decide +kernel))) (by decide +kernel)
theorem tw_6_62 : Cond.fieldLink "SortWorksModel" 174 "SortWorksModel" "groupMany" "[I" ∈ sw_gw := p_mem (p_tb6 (List.mem_of_getElem? (i := 62) (by decide +kernel))) (by decide +kernel)
theorem tw_6_63 : Cond.fieldLink "SortWorksModel" 177 "SortWorksModel" "groupType" "[I" ∈ sw_gw := p_mem (p_tb6 (List.mem_of_getElem? (i := 63) (by decide +kernel))) (by decide +kernel)
theorem tw_6_64 : Cond.fieldLink "SortWorksModel" 180 "SortWorksModel" "groupGear" "[I" ∈ sw_gw := p_mem (p_tb6 (List.mem_of_getElem? (i := 64) (by decide +kernel))) (by decide +kernel)
theorem tw_6_65 : Cond.fieldLink "SortWorksModel" 183 "SortWorksModel" "newTo" "[I" ∈ sw_gw := p_mem (p_tb6 (List.mem_of_getElem? (i := 65) (by decide +kernel))) (by decide +kernel)
theorem tw_6_66 : Cond.fieldLink "SortWorksModel" 186 "SortWorksModel" "newTests" "[I" ∈ sw_gw := p_mem (p_tb6 (List.mem_of_getElem? (i := 66) (by decide +kernel))) (by decide +kernel)
theorem tw_6_67 : Cond.fieldLink "SortWorksModel" 189 "SortWorksModel" "newWhat" "[I" ∈ sw_gw := p_mem (p_tb6 (List.mem_of_getElem? (i := 67) (by decide +kernel))) (by decide +kernel)
theorem tw_6_68 : Cond.fieldLink "SortWorksModel" 192 "SortWorksModel" "newGear" "[I" ∈ sw_gw := p_mem (p_tb6 (List.mem_of_getElem? (i := 68) (by decide +kernel))) (by decide +kernel)
theorem tw_6_69 : Cond.fieldLink "SortWorksModel" 195 "SortWorksModel" "newSign" "[I" ∈ sw_gw := p_mem (p_tb6 (List.mem_of_getElem? (i := 69) (by decide +kernel))) (by decide +kernel)
theorem tw_6_70 : Cond.fieldLink "SortWorksModel" 198 "SortWorksModel" "newNumber" "[I" ∈ sw_gw := p_mem (p_tb6 (List.mem_of_getElem? (i := 70) (by decide +kernel))) (by decide +kernel)
theorem tw_6_71 : Cond.fieldLink "SortWorksModel" 298 "SortWorksModel" "at" "I" ∈ sw_gw := p_mem (p_tb6 (List.mem_of_getElem? (i := 71) (by decide +kernel))) (by decide +kernel)
theorem tw_6_72 : Cond.fieldLink "SortWorksModel" 301 "SortWorksModel" "wrongAt" "I" ∈ sw_gw := p_mem (p_tb6 (List.mem_of_getElem? (i := 72) (by decide +kernel))) (by decide +kernel)
theorem tw_6_73 : Cond.fieldLink "SortWorksModel" 314 "SortWorksModel" "read" "I" ∈ sw_gw := p_mem (p_tb6 (List.mem_of_getElem? (i := 73) (by decide +kernel))) (by decide +kernel)
theorem tw_6_74 : Cond.fieldLink "SortWorksModel" 379 "SortWorksModel" "actGear" "I" ∈ sw_gw := p_mem (p_tb6 (List.mem_of_getElem? (i := 74) (by decide +kernel))) (by decide +kernel)
theorem tw_6_75 : Cond.fieldLink "SortWorksModel" 382 "SortWorksModel" "actFound" "I" ∈ sw_gw := p_mem (p_tb6 (List.mem_of_getElem? (i := 75) (by decide +kernel))) (by decide +kernel)
theorem tw_6_76 : Cond.fieldLink "SortWorksModel" 385 "SortWorksModel" "reached" "I" ∈ sw_gw := p_mem (p_tb6 (List.mem_of_getElem? (i := 76) (by decide +kernel))) (by decide +kernel)
theorem tw_6_77 : Cond.fieldLink "SortWorksModel" 201 "SortWorksModel" "chosen" "[I" ∈ sw_gw := p_mem (p_tb6 (List.mem_of_getElem? (i := 77) (by decide +kernel))) (by decide +kernel)
theorem tw_6_78 : Cond.fieldLink "SortWorksModel" 420 "SortWorksModel" "place" "I" ∈ sw_gw := p_mem (p_tb6 (List.mem_of_getElem? (i := 78) (by decide +kernel))) (by decide +kernel)
theorem tw_6_79 : Cond.fieldLink "SortWorksModel" 423 "SortWorksModel" "weight" "I" ∈ sw_gw := p_mem (p_tb6 (List.mem_of_getElem? (i := 79) (by decide +kernel))) (by decide +kernel)
theorem tw_6_80 : Cond.fieldLink "SortWorksModel" 426 "SortWorksModel" "size" "I" ∈ sw_gw := p_mem (p_tb6 (List.mem_of_getElem? (i := 80) (by decide +kernel))) (by decide +kernel)
theorem tw_6_81 : Cond.fieldLink "SortWorksModel" 414 "SortWorksModel" "readFault" "I" ∈ sw_gw := p_mem (p_tb6 (List.mem_of_getElem? (i := 81) (by decide +kernel))) (by decide +kernel)
theorem tw_6_82 : Cond.fieldLink "SortWorksModel" 204 "SortWorksModel" "six" "[I" ∈ sw_gw := p_mem (p_tb6 (List.mem_of_getElem? (i := 82) (by decide +kernel))) (by decide +kernel)
theorem tw_6_83 : Cond.fieldLink "SortWorksModel" 429 "SortWorksModel" "quotient" "I" ∈ sw_gw := p_mem (p_tb6 (List.mem_of_getElem? (i := 83) (by decide +kernel))) (by decide +kernel)
theorem tw_6_84 : Cond.fieldLink "SortWorksModel" 207 "SortWorksModel" "kept" "[I" ∈ sw_gw := p_mem (p_tb6 (List.mem_of_getElem? (i := 84) (by decide +kernel))) (by decide +kernel)
theorem tw_6_85 : Cond.fieldLink "SortWorksModel" 210 "SortWorksModel" "keptFirst" "[I" ∈ sw_gw := p_mem (p_tb6 (List.mem_of_getElem? (i := 85) (by decide +kernel))) (by decide +kernel)
theorem tw_6_86 : Cond.fieldLink "SortWorksModel" 214 "SortWorksModel" "rows" "[I" ∈ sw_gw := p_mem (p_tb6 (List.mem_of_getElem? (i := 86) (by decide +kernel))) (by decide +kernel)
theorem tw_6_87 : Cond.fieldLink "SortWorksModel" 500 "SortWorksModel" "to" "I" ∈ sw_gw := p_mem (p_tb6 (List.mem_of_getElem? (i := 87) (by decide +kernel))) (by decide +kernel)
theorem tw_6_88 : Cond.fieldLink "SortWorksModel" 496 "SortWorksModel" "isPutting" "Z" ∈ sw_gw := p_mem (p_tb6 (List.mem_of_getElem? (i := 88) (by decide +kernel))) (by decide +kernel)
theorem tw_6_89 : Cond.fieldLink "SortWorksModel" 520 "SortWorksModel" "saidAt" "I" ∈ sw_gw := p_mem (p_tb6 (List.mem_of_getElem? (i := 89) (by decide +kernel))) (by decide +kernel)
theorem tw_6_90 : Cond.fieldLink "SortWorksModel" 523 "SortWorksModel" "saidLetter" "I" ∈ sw_gw := p_mem (p_tb6 (List.mem_of_getElem? (i := 90) (by decide +kernel))) (by decide +kernel)
theorem tw_6_91 : Cond.fieldLink "SortWorksModel" 217 "SortWorksModel" "away" "[I" ∈ sw_gw := p_mem (p_tb6 (List.mem_of_getElem? (i := 91) (by decide +kernel))) (by decide +kernel)
theorem tw_6_92 : Cond.fieldLink "SortWorksModel" 540 "SortWorksModel" "sum" "J" ∈ sw_gw := p_mem (p_tb6 (List.mem_of_getElem? (i := 92) (by decide +kernel))) (by decide +kernel)
theorem tw_7_34 : Cond.arrayClass .long ∈ sw_gw := p_mem (p_tb7 (List.mem_of_getElem? (i := 34) (by decide +kernel))) (by decide +kernel)
theorem tw_7_35 : Cond.arrayClass .boolean ∈ sw_gw := p_mem (p_tb7 (List.mem_of_getElem? (i := 35) (by decide +kernel))) (by decide +kernel)
theorem tw_7_36 : Cond.methodLink "SortWorksLaw" 17 ⟨"SortWorksModel", "works", "(I)I"⟩ ∈ sw_gw := p_mem (p_tb7 (List.mem_of_getElem? (i := 36) (by decide +kernel))) (by decide +kernel)
theorem tw_7_37 : Cond.instanceMethod ⟨"SortWorksModel", "works", "(I)I"⟩ ∈ sw_gw := p_mem (p_tb7 (List.mem_of_getElem? (i := 37) (by decide +kernel))) (by decide +kernel)
theorem tw_7_38 : Cond.selects "SortWorksModel" ⟨"SortWorksModel", "works", "(I)I"⟩ ⟨"SortWorksModel", "works", "(I)I"⟩ ∈ sw_gw := p_mem (p_tb7 (List.mem_of_getElem? (i := 38) (by decide +kernel))) (by decide +kernel)
theorem tw_7_40 : Cond.constantLong "SortWorksModel" 238 (2 : Int64) ∈ sw_gw := p_mem (p_tb7 (List.mem_of_getElem? (i := 40) (by decide +kernel))) (by decide +kernel)
theorem tw_7_41 : Cond.methodLink "SortWorksModel" 230 ⟨"SortWorksModel", "beyond", "(JJJ)Z"⟩ ∈ sw_gw := p_mem (p_tb7 (List.mem_of_getElem? (i := 41) (by decide +kernel))) (by decide +kernel)
theorem tw_7_42 : Cond.static ⟨"SortWorksModel", "beyond", "(JJJ)Z"⟩ ∈ sw_gw := p_mem (p_tb7 (List.mem_of_getElem? (i := 42) (by decide +kernel))) (by decide +kernel)
theorem tw_7_44 : Cond.methodLink "SortWorksModel" 240 ⟨"SortWorksModel", "refused", "(I)I"⟩ ∈ sw_gw := p_mem (p_tb7 (List.mem_of_getElem? (i := 44) (by decide +kernel))) (by decide +kernel)
theorem tw_7_46 : Cond.instanceMethod ⟨"SortWorksModel", "refused", "(I)I"⟩ ∈ sw_gw := p_mem (p_tb7 (List.mem_of_getElem? (i := 46) (by decide +kernel))) (by decide +kernel)
theorem tw_7_48 : Cond.methodLink "SortWorksModel" 244 ⟨"SortWorksModel", "well", "(I)I"⟩ ∈ sw_gw := p_mem (p_tb7 (List.mem_of_getElem? (i := 48) (by decide +kernel))) (by decide +kernel)
theorem tw_7_50 : Cond.instanceMethod ⟨"SortWorksModel", "well", "(I)I"⟩ ∈ sw_gw := p_mem (p_tb7 (List.mem_of_getElem? (i := 50) (by decide +kernel))) (by decide +kernel)
theorem tw_7_52 : Cond.methodLink "SortWorksLaw" 22 ⟨"SortWorksModel", "gear", "(II)I"⟩ ∈ sw_gw := p_mem (p_tb7 (List.mem_of_getElem? (i := 52) (by decide +kernel))) (by decide +kernel)
theorem tw_7_53 : Cond.instanceMethod ⟨"SortWorksModel", "gear", "(II)I"⟩ ∈ sw_gw := p_mem (p_tb7 (List.mem_of_getElem? (i := 53) (by decide +kernel))) (by decide +kernel)
theorem tw_7_54 : Cond.selects "SortWorksModel" ⟨"SortWorksModel", "gear", "(II)I"⟩ ⟨"SortWorksModel", "gear", "(II)I"⟩ ∈ sw_gw := p_mem (p_tb7 (List.mem_of_getElem? (i := 54) (by decide +kernel))) (by decide +kernel)
theorem tw_7_56 : Cond.constantLong "SortWorksModel" 250 (10 : Int64) ∈ sw_gw := p_mem (p_tb7 (List.mem_of_getElem? (i := 56) (by decide +kernel))) (by decide +kernel)
theorem tw_7_57 : Cond.methodLink "SortWorksModel" 252 ⟨"SortWorksModel", "isTaker", "(I)Z"⟩ ∈ sw_gw := p_mem (p_tb7 (List.mem_of_getElem? (i := 57) (by decide +kernel))) (by decide +kernel)
theorem tw_7_58 : Cond.static ⟨"SortWorksModel", "isTaker", "(I)Z"⟩ ∈ sw_gw := p_mem (p_tb7 (List.mem_of_getElem? (i := 58) (by decide +kernel))) (by decide +kernel)
theorem tw_7_60 : Cond.constantLong "SortWorksModel" 255 (8 : Int64) ∈ sw_gw := p_mem (p_tb7 (List.mem_of_getElem? (i := 60) (by decide +kernel))) (by decide +kernel)
theorem tw_7_61 : Cond.methodLink "SortWorksModel" 257 ⟨"SortWorksModel", "g", "(I)I"⟩ ∈ sw_gw := p_mem (p_tb7 (List.mem_of_getElem? (i := 61) (by decide +kernel))) (by decide +kernel)
theorem tw_7_63 : Cond.instanceMethod ⟨"SortWorksModel", "g", "(I)I"⟩ ∈ sw_gw := p_mem (p_tb7 (List.mem_of_getElem? (i := 63) (by decide +kernel))) (by decide +kernel)
theorem tw_7_65 : Cond.methodLink "SortWorksModel" 260 ⟨"SortWorksModel", "fresh", "(II)V"⟩ ∈ sw_gw := p_mem (p_tb7 (List.mem_of_getElem? (i := 65) (by decide +kernel))) (by decide +kernel)
theorem tw_7_67 : Cond.instanceMethod ⟨"SortWorksModel", "fresh", "(II)V"⟩ ∈ sw_gw := p_mem (p_tb7 (List.mem_of_getElem? (i := 67) (by decide +kernel))) (by decide +kernel)
theorem tw_7_69 : Cond.methodLink "SortWorksModel" 247 ⟨"SortWorksModel", "rankOf", "(I)I"⟩ ∈ sw_gw := p_mem (p_tb7 (List.mem_of_getElem? (i := 69) (by decide +kernel))) (by decide +kernel)
theorem tw_7_70 : Cond.static ⟨"SortWorksModel", "rankOf", "(I)I"⟩ ∈ sw_gw := p_mem (p_tb7 (List.mem_of_getElem? (i := 70) (by decide +kernel))) (by decide +kernel)
theorem tw_7_72 : Cond.methodLink "SortWorksModel" 234 ⟨"SortWorksModel", "isDivert", "(I)Z"⟩ ∈ sw_gw := p_mem (p_tb7 (List.mem_of_getElem? (i := 72) (by decide +kernel))) (by decide +kernel)
theorem tw_7_73 : Cond.static ⟨"SortWorksModel", "isDivert", "(I)Z"⟩ ∈ sw_gw := p_mem (p_tb7 (List.mem_of_getElem? (i := 73) (by decide +kernel))) (by decide +kernel)
theorem tw_7_75 : Cond.methodLink "SortWorksModel" 264 ⟨"SortWorksModel", "built", "(I)I"⟩ ∈ sw_gw := p_mem (p_tb7 (List.mem_of_getElem? (i := 75) (by decide +kernel))) (by decide +kernel)
theorem tw_7_77 : Cond.instanceMethod ⟨"SortWorksModel", "built", "(I)I"⟩ ∈ sw_gw := p_mem (p_tb7 (List.mem_of_getElem? (i := 77) (by decide +kernel))) (by decide +kernel)
theorem tw_7_79 : Cond.methodLink "SortWorksLaw" 26 ⟨"SortWorksModel", "links", "(II)I"⟩ ∈ sw_gw := p_mem (p_tb7 (List.mem_of_getElem? (i := 79) (by decide +kernel))) (by decide +kernel)
theorem tw_7_80 : Cond.instanceMethod ⟨"SortWorksModel", "links", "(II)I"⟩ ∈ sw_gw := p_mem (p_tb7 (List.mem_of_getElem? (i := 80) (by decide +kernel))) (by decide +kernel)
theorem tw_7_81 : Cond.selects "SortWorksModel" ⟨"SortWorksModel", "links", "(II)I"⟩ ⟨"SortWorksModel", "links", "(II)I"⟩ ∈ sw_gw := p_mem (p_tb7 (List.mem_of_getElem? (i := 81) (by decide +kernel))) (by decide +kernel)
theorem tw_7_83 : Cond.methodLink "SortWorksModel" 267 ⟨"SortWorksModel", "noGear", "(I)Z"⟩ ∈ sw_gw := p_mem (p_tb7 (List.mem_of_getElem? (i := 83) (by decide +kernel))) (by decide +kernel)
theorem tw_7_85 : Cond.instanceMethod ⟨"SortWorksModel", "noGear", "(I)Z"⟩ ∈ sw_gw := p_mem (p_tb7 (List.mem_of_getElem? (i := 85) (by decide +kernel))) (by decide +kernel)
theorem tw_7_87 : Cond.methodLink "SortWorksModel" 270 ⟨"SortWorksModel", "faulted", "(I)I"⟩ ∈ sw_gw := p_mem (p_tb7 (List.mem_of_getElem? (i := 87) (by decide +kernel))) (by decide +kernel)
theorem tw_7_89 : Cond.instanceMethod ⟨"SortWorksModel", "faulted", "(I)I"⟩ ∈ sw_gw := p_mem (p_tb7 (List.mem_of_getElem? (i := 89) (by decide +kernel))) (by decide +kernel)
theorem tw_7_91 : Cond.methodLink "SortWorksLaw" 31 ⟨"SortWorksModel", "link", "(III)I"⟩ ∈ sw_gw := p_mem (p_tb7 (List.mem_of_getElem? (i := 91) (by decide +kernel))) (by decide +kernel)
theorem tw_7_92 : Cond.instanceMethod ⟨"SortWorksModel", "link", "(III)I"⟩ ∈ sw_gw := p_mem (p_tb7 (List.mem_of_getElem? (i := 92) (by decide +kernel))) (by decide +kernel)
theorem tw_7_93 : Cond.selects "SortWorksModel" ⟨"SortWorksModel", "link", "(III)I"⟩ ⟨"SortWorksModel", "link", "(III)I"⟩ ∈ sw_gw := p_mem (p_tb7 (List.mem_of_getElem? (i := 93) (by decide +kernel))) (by decide +kernel)
theorem tw_7_95 : Cond.constantLong "SortWorksModel" 273 (-1 : Int64) ∈ sw_gw := p_mem (p_tb7 (List.mem_of_getElem? (i := 95) (by decide +kernel))) (by decide +kernel)
theorem tw_7_96 : Cond.constantLong "SortWorksModel" 275 (39 : Int64) ∈ sw_gw := p_mem (p_tb7 (List.mem_of_getElem? (i := 96) (by decide +kernel))) (by decide +kernel)
theorem tw_7_97 : Cond.methodLink "SortWorksLaw" 36 ⟨"SortWorksModel", "aim", "(IIIZ)I"⟩ ∈ sw_gw := p_mem (p_tb7 (List.mem_of_getElem? (i := 97) (by decide +kernel))) (by decide +kernel)
theorem tw_7_98 : Cond.instanceMethod ⟨"SortWorksModel", "aim", "(IIIZ)I"⟩ ∈ sw_gw := p_mem (p_tb7 (List.mem_of_getElem? (i := 98) (by decide +kernel))) (by decide +kernel)
theorem tw_7_99 : Cond.selects "SortWorksModel" ⟨"SortWorksModel", "aim", "(IIIZ)I"⟩ ⟨"SortWorksModel", "aim", "(IIIZ)I"⟩ ∈ sw_gw := p_mem (p_tb7 (List.mem_of_getElem? (i := 99) (by decide +kernel))) (by decide +kernel)
theorem tw_7_101 : Cond.methodLink "SortWorksModel" 277 ⟨"SortWorksModel", "sidesOf", "(I)I"⟩ ∈ sw_gw := p_mem (p_tb7 (List.mem_of_getElem? (i := 101) (by decide +kernel))) (by decide +kernel)
theorem tw_7_102 : Cond.static ⟨"SortWorksModel", "sidesOf", "(I)I"⟩ ∈ sw_gw := p_mem (p_tb7 (List.mem_of_getElem? (i := 102) (by decide +kernel))) (by decide +kernel)
theorem tw_7_104 : Cond.methodLink "SortWorksLaw" 40 ⟨"SortWorksModel", "rank", "(II)I"⟩ ∈ sw_gw := p_mem (p_tb7 (List.mem_of_getElem? (i := 104) (by decide +kernel))) (by decide +kernel)
theorem tw_7_105 : Cond.instanceMethod ⟨"SortWorksModel", "rank", "(II)I"⟩ ∈ sw_gw := p_mem (p_tb7 (List.mem_of_getElem? (i := 105) (by decide +kernel))) (by decide +kernel)
theorem tw_7_106 : Cond.selects "SortWorksModel" ⟨"SortWorksModel", "rank", "(II)I"⟩ ⟨"SortWorksModel", "rank", "(II)I"⟩ ∈ sw_gw := p_mem (p_tb7 (List.mem_of_getElem? (i := 106) (by decide +kernel))) (by decide +kernel)
theorem tw_7_108 : Cond.constantLong "SortWorksModel" 280 (9 : Int64) ∈ sw_gw := p_mem (p_tb7 (List.mem_of_getElem? (i := 108) (by decide +kernel))) (by decide +kernel)
theorem tw_7_109 : Cond.methodLink "SortWorksLaw" 44 ⟨"SortWorksModel", "refit", "(II)I"⟩ ∈ sw_gw := p_mem (p_tb7 (List.mem_of_getElem? (i := 109) (by decide +kernel))) (by decide +kernel)
theorem tw_7_110 : Cond.instanceMethod ⟨"SortWorksModel", "refit", "(II)I"⟩ ∈ sw_gw := p_mem (p_tb7 (List.mem_of_getElem? (i := 110) (by decide +kernel))) (by decide +kernel)
theorem tw_7_111 : Cond.selects "SortWorksModel" ⟨"SortWorksModel", "refit", "(II)I"⟩ ⟨"SortWorksModel", "refit", "(II)I"⟩ ∈ sw_gw := p_mem (p_tb7 (List.mem_of_getElem? (i := 111) (by decide +kernel))) (by decide +kernel)
theorem tw_7_113 : Cond.methodLink "SortWorksModel" 282 ⟨"SortWorksModel", "loadOf", "(I)I"⟩ ∈ sw_gw := p_mem (p_tb7 (List.mem_of_getElem? (i := 113) (by decide +kernel))) (by decide +kernel)
theorem tw_7_115 : Cond.instanceMethod ⟨"SortWorksModel", "loadOf", "(I)I"⟩ ∈ sw_gw := p_mem (p_tb7 (List.mem_of_getElem? (i := 115) (by decide +kernel))) (by decide +kernel)
theorem tw_7_117 : Cond.methodLink "SortWorksLaw" 48 ⟨"SortWorksModel", "copy", "(I)I"⟩ ∈ sw_gw := p_mem (p_tb7 (List.mem_of_getElem? (i := 117) (by decide +kernel))) (by decide +kernel)
theorem tw_7_118 : Cond.instanceMethod ⟨"SortWorksModel", "copy", "(I)I"⟩ ∈ sw_gw := p_mem (p_tb7 (List.mem_of_getElem? (i := 118) (by decide +kernel))) (by decide +kernel)
theorem tw_7_119 : Cond.selects "SortWorksModel" ⟨"SortWorksModel", "copy", "(I)I"⟩ ⟨"SortWorksModel", "copy", "(I)I"⟩ ∈ sw_gw := p_mem (p_tb7 (List.mem_of_getElem? (i := 119) (by decide +kernel))) (by decide +kernel)
theorem tw_7_121 : Cond.methodLink "SortWorksModel" 285 ⟨"SortWorksModel", "copyGear", "(II)V"⟩ ∈ sw_gw := p_mem (p_tb7 (List.mem_of_getElem? (i := 121) (by decide +kernel))) (by decide +kernel)
theorem tw_7_123 : Cond.instanceMethod ⟨"SortWorksModel", "copyGear", "(II)V"⟩ ∈ sw_gw := p_mem (p_tb7 (List.mem_of_getElem? (i := 123) (by decide +kernel))) (by decide +kernel)
theorem tw_7_125 : Cond.methodLink "SortWorksModel" 288 ⟨"SortWorksModel", "copyRule", "(II)V"⟩ ∈ sw_gw := p_mem (p_tb7 (List.mem_of_getElem? (i := 125) (by decide +kernel))) (by decide +kernel)
theorem tw_7_127 : Cond.instanceMethod ⟨"SortWorksModel", "copyRule", "(II)V"⟩ ∈ sw_gw := p_mem (p_tb7 (List.mem_of_getElem? (i := 127) (by decide +kernel))) (by decide +kernel)
theorem tw_7_129 : Cond.methodLink "SortWorksLaw" 52 ⟨"SortWorksModel", "letter", "(I)I"⟩ ∈ sw_gw := p_mem (p_tb7 (List.mem_of_getElem? (i := 129) (by decide +kernel))) (by decide +kernel)
theorem tw_7_130 : Cond.instanceMethod ⟨"SortWorksModel", "letter", "(I)I"⟩ ∈ sw_gw := p_mem (p_tb7 (List.mem_of_getElem? (i := 130) (by decide +kernel))) (by decide +kernel)
theorem tw_7_131 : Cond.selects "SortWorksModel" ⟨"SortWorksModel", "letter", "(I)I"⟩ ⟨"SortWorksModel", "letter", "(I)I"⟩ ∈ sw_gw := p_mem (p_tb7 (List.mem_of_getElem? (i := 131) (by decide +kernel))) (by decide +kernel)
theorem tw_7_133 : Cond.constantLong "SortWorksModel" 291 (33 : Int64) ∈ sw_gw := p_mem (p_tb7 (List.mem_of_getElem? (i := 133) (by decide +kernel))) (by decide +kernel)
theorem tw_7_134 : Cond.constantLong "SortWorksModel" 293 (126 : Int64) ∈ sw_gw := p_mem (p_tb7 (List.mem_of_getElem? (i := 134) (by decide +kernel))) (by decide +kernel)
theorem tw_7_135 : Cond.methodLink "SortWorksLaw" 57 ⟨"SortWorksModel", "load", "()I"⟩ ∈ sw_gw := p_mem (p_tb7 (List.mem_of_getElem? (i := 135) (by decide +kernel))) (by decide +kernel)
theorem tw_7_136 : Cond.instanceMethod ⟨"SortWorksModel", "load", "()I"⟩ ∈ sw_gw := p_mem (p_tb7 (List.mem_of_getElem? (i := 136) (by decide +kernel))) (by decide +kernel)
theorem tw_7_137 : Cond.selects "SortWorksModel" ⟨"SortWorksModel", "load", "()I"⟩ ⟨"SortWorksModel", "load", "()I"⟩ ∈ sw_gw := p_mem (p_tb7 (List.mem_of_getElem? (i := 137) (by decide +kernel))) (by decide +kernel)
theorem tw_7_139 : Cond.methodLink "SortWorksModel" 327 ⟨"SortWorksModel", "rule", "(I)Z"⟩ ∈ sw_gw := p_mem (p_tb7 (List.mem_of_getElem? (i := 139) (by decide +kernel))) (by decide +kernel)
theorem tw_7_141 : Cond.instanceMethod ⟨"SortWorksModel", "rule", "(I)Z"⟩ ∈ sw_gw := p_mem (p_tb7 (List.mem_of_getElem? (i := 141) (by decide +kernel))) (by decide +kernel)
theorem tw_7_143 : Cond.methodLink "SortWorksModel" 311 ⟨"SortWorksModel", "wrong", "(I)Z"⟩ ∈ sw_gw := p_mem (p_tb7 (List.mem_of_getElem? (i := 143) (by decide +kernel))) (by decide +kernel)
theorem tw_7_145 : Cond.instanceMethod ⟨"SortWorksModel", "wrong", "(I)Z"⟩ ∈ sw_gw := p_mem (p_tb7 (List.mem_of_getElem? (i := 145) (by decide +kernel))) (by decide +kernel)
theorem tw_7_147 : Cond.methodLink "SortWorksModel" 304 ⟨"SortWorksModel", "here", "()I"⟩ ∈ sw_gw := p_mem (p_tb7 (List.mem_of_getElem? (i := 147) (by decide +kernel))) (by decide +kernel)
theorem tw_7_149 : Cond.instanceMethod ⟨"SortWorksModel", "here", "()I"⟩ ∈ sw_gw := p_mem (p_tb7 (List.mem_of_getElem? (i := 149) (by decide +kernel))) (by decide +kernel)
theorem tw_7_151 : Cond.methodLink "SortWorksModel" 324 ⟨"SortWorksModel", "test", "(I)Z"⟩ ∈ sw_gw := p_mem (p_tb7 (List.mem_of_getElem? (i := 151) (by decide +kernel))) (by decide +kernel)
theorem tw_7_153 : Cond.instanceMethod ⟨"SortWorksModel", "test", "(I)Z"⟩ ∈ sw_gw := p_mem (p_tb7 (List.mem_of_getElem? (i := 153) (by decide +kernel))) (by decide +kernel)
theorem tw_7_155 : Cond.methodLink "SortWorksModel" 317 ⟨"SortWorksModel", "number", "()Z"⟩ ∈ sw_gw := p_mem (p_tb7 (List.mem_of_getElem? (i := 155) (by decide +kernel))) (by decide +kernel)
theorem tw_7_157 : Cond.instanceMethod ⟨"SortWorksModel", "number", "()Z"⟩ ∈ sw_gw := p_mem (p_tb7 (List.mem_of_getElem? (i := 157) (by decide +kernel))) (by decide +kernel)
theorem tw_7_159 : Cond.methodLink "SortWorksModel" 308 ⟨"SortWorksModel", "isDigit", "(I)Z"⟩ ∈ sw_gw := p_mem (p_tb7 (List.mem_of_getElem? (i := 159) (by decide +kernel))) (by decide +kernel)
theorem tw_7_160 : Cond.static ⟨"SortWorksModel", "isDigit", "(I)Z"⟩ ∈ sw_gw := p_mem (p_tb7 (List.mem_of_getElem? (i := 160) (by decide +kernel))) (by decide +kernel)
theorem tw_7_162 : Cond.methodLink "SortWorksModel" 321 ⟨"SortWorksModel", "sign", "()Z"⟩ ∈ sw_gw := p_mem (p_tb7 (List.mem_of_getElem? (i := 162) (by decide +kernel))) (by decide +kernel)
theorem tw_7_164 : Cond.instanceMethod ⟨"SortWorksModel", "sign", "()Z"⟩ ∈ sw_gw := p_mem (p_tb7 (List.mem_of_getElem? (i := 164) (by decide +kernel))) (by decide +kernel)
theorem tw_7_166 : Cond.methodLink "SortWorksLaw" 62 ⟨"SortWorksModel", "plan", "(IIIII)I"⟩ ∈ sw_gw := p_mem (p_tb7 (List.mem_of_getElem? (i := 166) (by decide +kernel))) (by decide +kernel)
theorem tw_7_167 : Cond.instanceMethod ⟨"SortWorksModel", "plan", "(IIIII)I"⟩ ∈ sw_gw := p_mem (p_tb7 (List.mem_of_getElem? (i := 167) (by decide +kernel))) (by decide +kernel)
theorem tw_7_168 : Cond.selects "SortWorksModel" ⟨"SortWorksModel", "plan", "(IIIII)I"⟩ ⟨"SortWorksModel", "plan", "(IIIII)I"⟩ ∈ sw_gw := p_mem (p_tb7 (List.mem_of_getElem? (i := 168) (by decide +kernel))) (by decide +kernel)
theorem tw_7_170 : Cond.constantLong "SortWorksModel" 330 (4 : Int64) ∈ sw_gw := p_mem (p_tb7 (List.mem_of_getElem? (i := 170) (by decide +kernel))) (by decide +kernel)
theorem tw_7_171 : Cond.constantLong "SortWorksModel" 332 (9999 : Int64) ∈ sw_gw := p_mem (p_tb7 (List.mem_of_getElem? (i := 171) (by decide +kernel))) (by decide +kernel)
theorem tw_7_172 : Cond.methodLink "SortWorksLaw" 66 ⟨"SortWorksModel", "come", "(III)I"⟩ ∈ sw_gw := p_mem (p_tb7 (List.mem_of_getElem? (i := 172) (by decide +kernel))) (by decide +kernel)
theorem tw_7_173 : Cond.instanceMethod ⟨"SortWorksModel", "come", "(III)I"⟩ ∈ sw_gw := p_mem (p_tb7 (List.mem_of_getElem? (i := 173) (by decide +kernel))) (by decide +kernel)
theorem tw_7_174 : Cond.selects "SortWorksModel" ⟨"SortWorksModel", "come", "(III)I"⟩ ⟨"SortWorksModel", "come", "(III)I"⟩ ∈ sw_gw := p_mem (p_tb7 (List.mem_of_getElem? (i := 174) (by decide +kernel))) (by decide +kernel)
theorem tw_7_176 : Cond.constantLong "SortWorksModel" 340 (999 : Int64) ∈ sw_gw := p_mem (p_tb7 (List.mem_of_getElem? (i := 176) (by decide +kernel))) (by decide +kernel)
theorem tw_7_177 : Cond.methodLink "SortWorksModel" 342 ⟨"SortWorksModel", "isChute", "(I)Z"⟩ ∈ sw_gw := p_mem (p_tb7 (List.mem_of_getElem? (i := 177) (by decide +kernel))) (by decide +kernel)
theorem tw_7_178 : Cond.static ⟨"SortWorksModel", "isChute", "(I)Z"⟩ ∈ sw_gw := p_mem (p_tb7 (List.mem_of_getElem? (i := 178) (by decide +kernel))) (by decide +kernel)
theorem tw_7_180 : Cond.methodLink "SortWorksModel" 345 ⟨"SortWorksModel", "comesFull", "()Z"⟩ ∈ sw_gw := p_mem (p_tb7 (List.mem_of_getElem? (i := 180) (by decide +kernel))) (by decide +kernel)
theorem tw_7_182 : Cond.instanceMethod ⟨"SortWorksModel", "comesFull", "()Z"⟩ ∈ sw_gw := p_mem (p_tb7 (List.mem_of_getElem? (i := 182) (by decide +kernel))) (by decide +kernel)
theorem tw_7_184 : Cond.methodLink "SortWorksModel" 348 ⟨"SortWorksModel", "newParcel", "(III)I"⟩ ∈ sw_gw := p_mem (p_tb7 (List.mem_of_getElem? (i := 184) (by decide +kernel))) (by decide +kernel)
theorem tw_7_186 : Cond.instanceMethod ⟨"SortWorksModel", "newParcel", "(III)I"⟩ ∈ sw_gw := p_mem (p_tb7 (List.mem_of_getElem? (i := 186) (by decide +kernel))) (by decide +kernel)
theorem tw_7_188 : Cond.methodLink "SortWorksModel" 337 ⟨"SortWorksModel", "enters", "(II)V"⟩ ∈ sw_gw := p_mem (p_tb7 (List.mem_of_getElem? (i := 188) (by decide +kernel))) (by decide +kernel)
theorem tw_7_190 : Cond.instanceMethod ⟨"SortWorksModel", "enters", "(II)V"⟩ ∈ sw_gw := p_mem (p_tb7 (List.mem_of_getElem? (i := 190) (by decide +kernel))) (by decide +kernel)
theorem tw_7_192 : Cond.methodLink "SortWorksLaw" 70 ⟨"SortWorksModel", "label", "(II)I"⟩ ∈ sw_gw := p_mem (p_tb7 (List.mem_of_getElem? (i := 192) (by decide +kernel))) (by decide +kernel)
theorem tw_7_193 : Cond.instanceMethod ⟨"SortWorksModel", "label", "(II)I"⟩ ∈ sw_gw := p_mem (p_tb7 (List.mem_of_getElem? (i := 193) (by decide +kernel))) (by decide +kernel)
theorem tw_7_194 : Cond.selects "SortWorksModel" ⟨"SortWorksModel", "label", "(II)I"⟩ ⟨"SortWorksModel", "label", "(II)I"⟩ ∈ sw_gw := p_mem (p_tb7 (List.mem_of_getElem? (i := 194) (by decide +kernel))) (by decide +kernel)
theorem tw_7_196 : Cond.methodLink "SortWorksModel" 352 ⟨"SortWorksModel", "noParcel", "(I)Z"⟩ ∈ sw_gw := p_mem (p_tb7 (List.mem_of_getElem? (i := 196) (by decide +kernel))) (by decide +kernel)
theorem tw_7_198 : Cond.instanceMethod ⟨"SortWorksModel", "noParcel", "(I)Z"⟩ ∈ sw_gw := p_mem (p_tb7 (List.mem_of_getElem? (i := 198) (by decide +kernel))) (by decide +kernel)
theorem tw_7_200 : Cond.methodLink "SortWorksModel" 355 ⟨"SortWorksModel", "newLabel", "(II)V"⟩ ∈ sw_gw := p_mem (p_tb7 (List.mem_of_getElem? (i := 200) (by decide +kernel))) (by decide +kernel)
theorem tw_7_202 : Cond.instanceMethod ⟨"SortWorksModel", "newLabel", "(II)V"⟩ ∈ sw_gw := p_mem (p_tb7 (List.mem_of_getElem? (i := 202) (by decide +kernel))) (by decide +kernel)
theorem tw_7_204 : Cond.methodLink "SortWorksLaw" 74 ⟨"SortWorksModel", "put", "(III)I"⟩ ∈ sw_gw := p_mem (p_tb7 (List.mem_of_getElem? (i := 204) (by decide +kernel))) (by decide +kernel)
theorem tw_7_205 : Cond.instanceMethod ⟨"SortWorksModel", "put", "(III)I"⟩ ∈ sw_gw := p_mem (p_tb7 (List.mem_of_getElem? (i := 205) (by decide +kernel))) (by decide +kernel)
theorem tw_7_206 : Cond.selects "SortWorksModel" ⟨"SortWorksModel", "put", "(III)I"⟩ ⟨"SortWorksModel", "put", "(III)I"⟩ ∈ sw_gw := p_mem (p_tb7 (List.mem_of_getElem? (i := 206) (by decide +kernel))) (by decide +kernel)
theorem tw_7_208 : Cond.methodLink "SortWorksLaw" 78 ⟨"SortWorksModel", "tag", "(III)I"⟩ ∈ sw_gw := p_mem (p_tb7 (List.mem_of_getElem? (i := 208) (by decide +kernel))) (by decide +kernel)
theorem tw_7_209 : Cond.instanceMethod ⟨"SortWorksModel", "tag", "(III)I"⟩ ∈ sw_gw := p_mem (p_tb7 (List.mem_of_getElem? (i := 209) (by decide +kernel))) (by decide +kernel)
theorem tw_7_210 : Cond.selects "SortWorksModel" ⟨"SortWorksModel", "tag", "(III)I"⟩ ⟨"SortWorksModel", "tag", "(III)I"⟩ ∈ sw_gw := p_mem (p_tb7 (List.mem_of_getElem? (i := 210) (by decide +kernel))) (by decide +kernel)
theorem tw_7_212 : Cond.constantLong "SortWorksModel" 358 (99 : Int64) ∈ sw_gw := p_mem (p_tb7 (List.mem_of_getElem? (i := 212) (by decide +kernel))) (by decide +kernel)
theorem tw_7_213 : Cond.methodLink "SortWorksModel" 360 ⟨"SortWorksModel", "tags", "(III)V"⟩ ∈ sw_gw := p_mem (p_tb7 (List.mem_of_getElem? (i := 213) (by decide +kernel))) (by decide +kernel)
theorem tw_7_215 : Cond.instanceMethod ⟨"SortWorksModel", "tags", "(III)V"⟩ ∈ sw_gw := p_mem (p_tb7 (List.mem_of_getElem? (i := 215) (by decide +kernel))) (by decide +kernel)
theorem tw_7_217 : Cond.methodLink "SortWorksLaw" 83 ⟨"SortWorksModel", "door", "(IZ)I"⟩ ∈ sw_gw := p_mem (p_tb7 (List.mem_of_getElem? (i := 217) (by decide +kernel))) (by decide +kernel)
theorem tw_7_218 : Cond.instanceMethod ⟨"SortWorksModel", "door", "(IZ)I"⟩ ∈ sw_gw := p_mem (p_tb7 (List.mem_of_getElem? (i := 218) (by decide +kernel))) (by decide +kernel)
theorem tw_7_219 : Cond.selects "SortWorksModel" ⟨"SortWorksModel", "door", "(IZ)I"⟩ ⟨"SortWorksModel", "door", "(IZ)I"⟩ ∈ sw_gw := p_mem (p_tb7 (List.mem_of_getElem? (i := 219) (by decide +kernel))) (by decide +kernel)
theorem tw_7_221 : Cond.methodLink "SortWorksLaw" 87 ⟨"SortWorksModel", "turn", "(II)I"⟩ ∈ sw_gw := p_mem (p_tb7 (List.mem_of_getElem? (i := 221) (by decide +kernel))) (by decide +kernel)
theorem tw_7_222 : Cond.instanceMethod ⟨"SortWorksModel", "turn", "(II)I"⟩ ∈ sw_gw := p_mem (p_tb7 (List.mem_of_getElem? (i := 222) (by decide +kernel))) (by decide +kernel)
theorem tw_7_223 : Cond.selects "SortWorksModel" ⟨"SortWorksModel", "turn", "(II)I"⟩ ⟨"SortWorksModel", "turn", "(II)I"⟩ ∈ sw_gw := p_mem (p_tb7 (List.mem_of_getElem? (i := 223) (by decide +kernel))) (by decide +kernel)
theorem tw_7_225 : Cond.methodLink "SortWorksLaw" 91 ⟨"SortWorksModel", "release", "(II)I"⟩ ∈ sw_gw := p_mem (p_tb7 (List.mem_of_getElem? (i := 225) (by decide +kernel))) (by decide +kernel)
theorem tw_7_226 : Cond.instanceMethod ⟨"SortWorksModel", "release", "(II)I"⟩ ∈ sw_gw := p_mem (p_tb7 (List.mem_of_getElem? (i := 226) (by decide +kernel))) (by decide +kernel)
theorem tw_7_227 : Cond.selects "SortWorksModel" ⟨"SortWorksModel", "release", "(II)I"⟩ ⟨"SortWorksModel", "release", "(II)I"⟩ ∈ sw_gw := p_mem (p_tb7 (List.mem_of_getElem? (i := 227) (by decide +kernel))) (by decide +kernel)
theorem tw_7_229 : Cond.constantLong "SortWorksModel" 364 (20 : Int64) ∈ sw_gw := p_mem (p_tb7 (List.mem_of_getElem? (i := 229) (by decide +kernel))) (by decide +kernel)
theorem tw_7_230 : Cond.methodLink "SortWorksLaw" 95 ⟨"SortWorksModel", "clear", "(I)I"⟩ ∈ sw_gw := p_mem (p_tb7 (List.mem_of_getElem? (i := 230) (by decide +kernel))) (by decide +kernel)
theorem tw_7_231 : Cond.instanceMethod ⟨"SortWorksModel", "clear", "(I)I"⟩ ∈ sw_gw := p_mem (p_tb7 (List.mem_of_getElem? (i := 231) (by decide +kernel))) (by decide +kernel)
theorem tw_7_232 : Cond.selects "SortWorksModel" ⟨"SortWorksModel", "clear", "(I)I"⟩ ⟨"SortWorksModel", "clear", "(I)I"⟩ ∈ sw_gw := p_mem (p_tb7 (List.mem_of_getElem? (i := 232) (by decide +kernel))) (by decide +kernel)
theorem tw_7_234 : Cond.methodLink "SortWorksModel" 366 ⟨"SortWorksModel", "isJammed", "(I)Z"⟩ ∈ sw_gw := p_mem (p_tb7 (List.mem_of_getElem? (i := 234) (by decide +kernel))) (by decide +kernel)
theorem tw_7_236 : Cond.instanceMethod ⟨"SortWorksModel", "isJammed", "(I)Z"⟩ ∈ sw_gw := p_mem (p_tb7 (List.mem_of_getElem? (i := 236) (by decide +kernel))) (by decide +kernel)
theorem tw_7_238 : Cond.methodLink "SortWorksModel" 369 ⟨"SortWorksModel", "leaves", "(I)V"⟩ ∈ sw_gw := p_mem (p_tb7 (List.mem_of_getElem? (i := 238) (by decide +kernel))) (by decide +kernel)
theorem tw_8_0 : Cond.instanceMethod ⟨"SortWorksModel", "leaves", "(I)V"⟩ ∈ sw_gw := p_mem (p_tb8 (List.mem_of_getElem? (i := 0) (by decide +kernel))) (by decide +kernel)
theorem tw_8_2 : Cond.methodLink "SortWorksLaw" 99 ⟨"SortWorksModel", "carry", "(II)I"⟩ ∈ sw_gw := p_mem (p_tb8 (List.mem_of_getElem? (i := 2) (by decide +kernel))) (by decide +kernel)
theorem tw_8_3 : Cond.instanceMethod ⟨"SortWorksModel", "carry", "(II)I"⟩ ∈ sw_gw := p_mem (p_tb8 (List.mem_of_getElem? (i := 3) (by decide +kernel))) (by decide +kernel)
theorem tw_8_4 : Cond.selects "SortWorksModel" ⟨"SortWorksModel", "carry", "(II)I"⟩ ⟨"SortWorksModel", "carry", "(II)I"⟩ ∈ sw_gw := p_mem (p_tb8 (List.mem_of_getElem? (i := 4) (by decide +kernel))) (by decide +kernel)
theorem tw_8_6 : Cond.methodLink "SortWorksLaw" 103 ⟨"SortWorksModel", "group", "(III)I"⟩ ∈ sw_gw := p_mem (p_tb8 (List.mem_of_getElem? (i := 6) (by decide +kernel))) (by decide +kernel)
theorem tw_8_7 : Cond.instanceMethod ⟨"SortWorksModel", "group", "(III)I"⟩ ∈ sw_gw := p_mem (p_tb8 (List.mem_of_getElem? (i := 7) (by decide +kernel))) (by decide +kernel)
theorem tw_8_8 : Cond.selects "SortWorksModel" ⟨"SortWorksModel", "group", "(III)I"⟩ ⟨"SortWorksModel", "group", "(III)I"⟩ ∈ sw_gw := p_mem (p_tb8 (List.mem_of_getElem? (i := 8) (by decide +kernel))) (by decide +kernel)
theorem tw_8_10 : Cond.constantLong "SortWorksModel" 373 (3 : Int64) ∈ sw_gw := p_mem (p_tb8 (List.mem_of_getElem? (i := 10) (by decide +kernel))) (by decide +kernel)
theorem tw_8_11 : Cond.methodLink "SortWorksLaw" 107 ⟨"SortWorksModel", "enter", "(III)I"⟩ ∈ sw_gw := p_mem (p_tb8 (List.mem_of_getElem? (i := 11) (by decide +kernel))) (by decide +kernel)
theorem tw_8_12 : Cond.instanceMethod ⟨"SortWorksModel", "enter", "(III)I"⟩ ∈ sw_gw := p_mem (p_tb8 (List.mem_of_getElem? (i := 12) (by decide +kernel))) (by decide +kernel)
theorem tw_8_13 : Cond.selects "SortWorksModel" ⟨"SortWorksModel", "enter", "(III)I"⟩ ⟨"SortWorksModel", "enter", "(III)I"⟩ ∈ sw_gw := p_mem (p_tb8 (List.mem_of_getElem? (i := 13) (by decide +kernel))) (by decide +kernel)
theorem tw_8_15 : Cond.methodLink "SortWorksModel" 375 ⟨"SortWorksModel", "isOfType", "(II)Z"⟩ ∈ sw_gw := p_mem (p_tb8 (List.mem_of_getElem? (i := 15) (by decide +kernel))) (by decide +kernel)
theorem tw_8_16 : Cond.static ⟨"SortWorksModel", "isOfType", "(II)Z"⟩ ∈ sw_gw := p_mem (p_tb8 (List.mem_of_getElem? (i := 16) (by decide +kernel))) (by decide +kernel)
theorem tw_8_18 : Cond.methodLink "SortWorksLaw" 111 ⟨"SortWorksModel", "tally", "(II)I"⟩ ∈ sw_gw := p_mem (p_tb8 (List.mem_of_getElem? (i := 18) (by decide +kernel))) (by decide +kernel)
theorem tw_8_19 : Cond.instanceMethod ⟨"SortWorksModel", "tally", "(II)I"⟩ ∈ sw_gw := p_mem (p_tb8 (List.mem_of_getElem? (i := 19) (by decide +kernel))) (by decide +kernel)
theorem tw_8_20 : Cond.selects "SortWorksModel" ⟨"SortWorksModel", "tally", "(II)I"⟩ ⟨"SortWorksModel", "tally", "(II)I"⟩ ∈ sw_gw := p_mem (p_tb8 (List.mem_of_getElem? (i := 20) (by decide +kernel))) (by decide +kernel)
theorem tw_8_22 : Cond.methodLink "SortWorksLaw" 115 ⟨"SortWorksModel", "step", "()I"⟩ ∈ sw_gw := p_mem (p_tb8 (List.mem_of_getElem? (i := 22) (by decide +kernel))) (by decide +kernel)
theorem tw_8_23 : Cond.instanceMethod ⟨"SortWorksModel", "step", "()I"⟩ ∈ sw_gw := p_mem (p_tb8 (List.mem_of_getElem? (i := 23) (by decide +kernel))) (by decide +kernel)
theorem tw_8_24 : Cond.selects "SortWorksModel" ⟨"SortWorksModel", "step", "()I"⟩ ⟨"SortWorksModel", "step", "()I"⟩ ∈ sw_gw := p_mem (p_tb8 (List.mem_of_getElem? (i := 24) (by decide +kernel))) (by decide +kernel)
theorem tw_8_26 : Cond.methodLink "SortWorksModel" 486 ⟨"SortWorksModel", "isFull", "()Z"⟩ ∈ sw_gw := p_mem (p_tb8 (List.mem_of_getElem? (i := 26) (by decide +kernel))) (by decide +kernel)
theorem tw_8_28 : Cond.instanceMethod ⟨"SortWorksModel", "isFull", "()Z"⟩ ∈ sw_gw := p_mem (p_tb8 (List.mem_of_getElem? (i := 28) (by decide +kernel))) (by decide +kernel)
theorem tw_8_30 : Cond.methodLink "SortWorksModel" 489 ⟨"SortWorksModel", "steps", "()V"⟩ ∈ sw_gw := p_mem (p_tb8 (List.mem_of_getElem? (i := 30) (by decide +kernel))) (by decide +kernel)
theorem tw_8_32 : Cond.instanceMethod ⟨"SortWorksModel", "steps", "()V"⟩ ∈ sw_gw := p_mem (p_tb8 (List.mem_of_getElem? (i := 32) (by decide +kernel))) (by decide +kernel)
theorem tw_8_34 : Cond.methodLink "SortWorksModel" 474 ⟨"SortWorksModel", "keep", "()V"⟩ ∈ sw_gw := p_mem (p_tb8 (List.mem_of_getElem? (i := 34) (by decide +kernel))) (by decide +kernel)
theorem tw_8_36 : Cond.instanceMethod ⟨"SortWorksModel", "keep", "()V"⟩ ∈ sw_gw := p_mem (p_tb8 (List.mem_of_getElem? (i := 36) (by decide +kernel))) (by decide +kernel)
theorem tw_8_38 : Cond.methodLink "SortWorksModel" 503 ⟨"SortWorksModel", "goOver", "(I)V"⟩ ∈ sw_gw := p_mem (p_tb8 (List.mem_of_getElem? (i := 38) (by decide +kernel))) (by decide +kernel)
theorem tw_8_40 : Cond.instanceMethod ⟨"SortWorksModel", "goOver", "(I)V"⟩ ∈ sw_gw := p_mem (p_tb8 (List.mem_of_getElem? (i := 40) (by decide +kernel))) (by decide +kernel)
theorem tw_8_42 : Cond.methodLink "SortWorksModel" 506 ⟨"SortWorksModel", "both", "(I)I"⟩ ∈ sw_gw := p_mem (p_tb8 (List.mem_of_getElem? (i := 42) (by decide +kernel))) (by decide +kernel)
theorem tw_8_44 : Cond.instanceMethod ⟨"SortWorksModel", "both", "(I)I"⟩ ∈ sw_gw := p_mem (p_tb8 (List.mem_of_getElem? (i := 44) (by decide +kernel))) (by decide +kernel)
theorem tw_8_46 : Cond.methodLink "SortWorksModel" 509 ⟨"SortWorksModel", "goOverGear", "(I)V"⟩ ∈ sw_gw := p_mem (p_tb8 (List.mem_of_getElem? (i := 46) (by decide +kernel))) (by decide +kernel)
theorem tw_8_48 : Cond.instanceMethod ⟨"SortWorksModel", "goOverGear", "(I)V"⟩ ∈ sw_gw := p_mem (p_tb8 (List.mem_of_getElem? (i := 48) (by decide +kernel))) (by decide +kernel)
theorem tw_8_50 : Cond.methodLink "SortWorksModel" 512 ⟨"SortWorksModel", "goOverParcels", "()V"⟩ ∈ sw_gw := p_mem (p_tb8 (List.mem_of_getElem? (i := 50) (by decide +kernel))) (by decide +kernel)
theorem tw_8_52 : Cond.instanceMethod ⟨"SortWorksModel", "goOverParcels", "()V"⟩ ∈ sw_gw := p_mem (p_tb8 (List.mem_of_getElem? (i := 52) (by decide +kernel))) (by decide +kernel)
theorem tw_8_54 : Cond.methodLink "SortWorksModel" 477 ⟨"SortWorksModel", "doPlans", "()V"⟩ ∈ sw_gw := p_mem (p_tb8 (List.mem_of_getElem? (i := 54) (by decide +kernel))) (by decide +kernel)
theorem tw_8_56 : Cond.instanceMethod ⟨"SortWorksModel", "doPlans", "()V"⟩ ∈ sw_gw := p_mem (p_tb8 (List.mem_of_getElem? (i := 56) (by decide +kernel))) (by decide +kernel)
theorem tw_8_58 : Cond.methodLink "SortWorksModel" 392 ⟨"SortWorksModel", "planFault", "(I)I"⟩ ∈ sw_gw := p_mem (p_tb8 (List.mem_of_getElem? (i := 58) (by decide +kernel))) (by decide +kernel)
theorem tw_8_60 : Cond.instanceMethod ⟨"SortWorksModel", "planFault", "(I)I"⟩ ∈ sw_gw := p_mem (p_tb8 (List.mem_of_getElem? (i := 60) (by decide +kernel))) (by decide +kernel)
theorem tw_8_62 : Cond.methodLink "SortWorksModel" 395 ⟨"SortWorksModel", "find", "(III)V"⟩ ∈ sw_gw := p_mem (p_tb8 (List.mem_of_getElem? (i := 62) (by decide +kernel))) (by decide +kernel)
theorem tw_8_64 : Cond.instanceMethod ⟨"SortWorksModel", "find", "(III)V"⟩ ∈ sw_gw := p_mem (p_tb8 (List.mem_of_getElem? (i := 64) (by decide +kernel))) (by decide +kernel)
theorem tw_8_66 : Cond.methodLink "SortWorksModel" 480 ⟨"SortWorksModel", "choose", "()V"⟩ ∈ sw_gw := p_mem (p_tb8 (List.mem_of_getElem? (i := 66) (by decide +kernel))) (by decide +kernel)
theorem tw_8_68 : Cond.instanceMethod ⟨"SortWorksModel", "choose", "()V"⟩ ∈ sw_gw := p_mem (p_tb8 (List.mem_of_getElem? (i := 68) (by decide +kernel))) (by decide +kernel)
theorem tw_8_70 : Cond.methodLink "SortWorksModel" 401 ⟨"SortWorksModel", "chosenBy", "(I)I"⟩ ∈ sw_gw := p_mem (p_tb8 (List.mem_of_getElem? (i := 70) (by decide +kernel))) (by decide +kernel)
theorem tw_8_72 : Cond.instanceMethod ⟨"SortWorksModel", "chosenBy", "(I)I"⟩ ∈ sw_gw := p_mem (p_tb8 (List.mem_of_getElem? (i := 72) (by decide +kernel))) (by decide +kernel)
theorem tw_8_74 : Cond.methodLink "SortWorksModel" 404 ⟨"SortWorksModel", "isActing", "(I)Z"⟩ ∈ sw_gw := p_mem (p_tb8 (List.mem_of_getElem? (i := 74) (by decide +kernel))) (by decide +kernel)
theorem tw_8_76 : Cond.instanceMethod ⟨"SortWorksModel", "isActing", "(I)Z"⟩ ∈ sw_gw := p_mem (p_tb8 (List.mem_of_getElem? (i := 76) (by decide +kernel))) (by decide +kernel)
theorem tw_8_78 : Cond.methodLink "SortWorksModel" 398 ⟨"SortWorksModel", "paceOf", "(I)I"⟩ ∈ sw_gw := p_mem (p_tb8 (List.mem_of_getElem? (i := 78) (by decide +kernel))) (by decide +kernel)
theorem tw_8_79 : Cond.static ⟨"SortWorksModel", "paceOf", "(I)I"⟩ ∈ sw_gw := p_mem (p_tb8 (List.mem_of_getElem? (i := 79) (by decide +kernel))) (by decide +kernel)
theorem tw_8_81 : Cond.methodLink "SortWorksModel" 407 ⟨"SortWorksModel", "linkAt", "(I)I"⟩ ∈ sw_gw := p_mem (p_tb8 (List.mem_of_getElem? (i := 81) (by decide +kernel))) (by decide +kernel)
theorem tw_8_83 : Cond.instanceMethod ⟨"SortWorksModel", "linkAt", "(I)I"⟩ ∈ sw_gw := p_mem (p_tb8 (List.mem_of_getElem? (i := 83) (by decide +kernel))) (by decide +kernel)
theorem tw_8_85 : Cond.methodLink "SortWorksModel" 410 ⟨"SortWorksModel", "leads", "(III)Z"⟩ ∈ sw_gw := p_mem (p_tb8 (List.mem_of_getElem? (i := 85) (by decide +kernel))) (by decide +kernel)
theorem tw_8_87 : Cond.instanceMethod ⟨"SortWorksModel", "leads", "(III)Z"⟩ ∈ sw_gw := p_mem (p_tb8 (List.mem_of_getElem? (i := 87) (by decide +kernel))) (by decide +kernel)
theorem tw_8_89 : Cond.methodLink "SortWorksModel" 388 ⟨"SortWorksModel", "follow", "(II)I"⟩ ∈ sw_gw := p_mem (p_tb8 (List.mem_of_getElem? (i := 89) (by decide +kernel))) (by decide +kernel)
theorem tw_8_91 : Cond.instanceMethod ⟨"SortWorksModel", "follow", "(II)I"⟩ ∈ sw_gw := p_mem (p_tb8 (List.mem_of_getElem? (i := 91) (by decide +kernel))) (by decide +kernel)
theorem tw_8_93 : Cond.methodLink "SortWorksModel" 483 ⟨"SortWorksModel", "act", "(I)V"⟩ ∈ sw_gw := p_mem (p_tb8 (List.mem_of_getElem? (i := 93) (by decide +kernel))) (by decide +kernel)
theorem tw_8_95 : Cond.instanceMethod ⟨"SortWorksModel", "act", "(I)V"⟩ ∈ sw_gw := p_mem (p_tb8 (List.mem_of_getElem? (i := 95) (by decide +kernel))) (by decide +kernel)
theorem tw_8_97 : Cond.methodLink "SortWorksModel" 441 ⟨"SortWorksModel", "body", "(I)V"⟩ ∈ sw_gw := p_mem (p_tb8 (List.mem_of_getElem? (i := 97) (by decide +kernel))) (by decide +kernel)
theorem tw_8_99 : Cond.instanceMethod ⟨"SortWorksModel", "body", "(I)V"⟩ ∈ sw_gw := p_mem (p_tb8 (List.mem_of_getElem? (i := 99) (by decide +kernel))) (by decide +kernel)
theorem tw_8_101 : Cond.methodLink "SortWorksModel" 468 ⟨"SortWorksModel", "actPanel", "(I)V"⟩ ∈ sw_gw := p_mem (p_tb8 (List.mem_of_getElem? (i := 101) (by decide +kernel))) (by decide +kernel)
theorem tw_8_103 : Cond.instanceMethod ⟨"SortWorksModel", "actPanel", "(I)V"⟩ ∈ sw_gw := p_mem (p_tb8 (List.mem_of_getElem? (i := 103) (by decide +kernel))) (by decide +kernel)
theorem tw_8_105 : Cond.methodLink "SortWorksModel" 471 ⟨"SortWorksModel", "actTaker", "(I)V"⟩ ∈ sw_gw := p_mem (p_tb8 (List.mem_of_getElem? (i := 105) (by decide +kernel))) (by decide +kernel)
theorem tw_8_107 : Cond.instanceMethod ⟨"SortWorksModel", "actTaker", "(I)V"⟩ ∈ sw_gw := p_mem (p_tb8 (List.mem_of_getElem? (i := 107) (by decide +kernel))) (by decide +kernel)
theorem tw_8_109 : Cond.methodLink "SortWorksModel" 453 ⟨"SortWorksModel", "bodies", "(I)V"⟩ ∈ sw_gw := p_mem (p_tb8 (List.mem_of_getElem? (i := 109) (by decide +kernel))) (by decide +kernel)
theorem tw_8_111 : Cond.instanceMethod ⟨"SortWorksModel", "bodies", "(I)V"⟩ ∈ sw_gw := p_mem (p_tb8 (List.mem_of_getElem? (i := 111) (by decide +kernel))) (by decide +kernel)
theorem tw_8_113 : Cond.methodLink "SortWorksModel" 456 ⟨"SortWorksModel", "scans", "(II)Z"⟩ ∈ sw_gw := p_mem (p_tb8 (List.mem_of_getElem? (i := 113) (by decide +kernel))) (by decide +kernel)
theorem tw_8_115 : Cond.instanceMethod ⟨"SortWorksModel", "scans", "(II)Z"⟩ ∈ sw_gw := p_mem (p_tb8 (List.mem_of_getElem? (i := 115) (by decide +kernel))) (by decide +kernel)
theorem tw_8_117 : Cond.methodLink "SortWorksModel" 435 ⟨"SortWorksModel", "reads", "(I)Z"⟩ ∈ sw_gw := p_mem (p_tb8 (List.mem_of_getElem? (i := 117) (by decide +kernel))) (by decide +kernel)
theorem tw_8_119 : Cond.instanceMethod ⟨"SortWorksModel", "reads", "(I)Z"⟩ ∈ sw_gw := p_mem (p_tb8 (List.mem_of_getElem? (i := 119) (by decide +kernel))) (by decide +kernel)
theorem tw_8_121 : Cond.methodLink "SortWorksModel" 417 ⟨"SortWorksModel", "asked", "(II)I"⟩ ∈ sw_gw := p_mem (p_tb8 (List.mem_of_getElem? (i := 121) (by decide +kernel))) (by decide +kernel)
theorem tw_8_123 : Cond.instanceMethod ⟨"SortWorksModel", "asked", "(II)I"⟩ ∈ sw_gw := p_mem (p_tb8 (List.mem_of_getElem? (i := 123) (by decide +kernel))) (by decide +kernel)
theorem tw_8_125 : Cond.methodLink "SortWorksModel" 438 ⟨"SortWorksModel", "holds", "(I)Z"⟩ ∈ sw_gw := p_mem (p_tb8 (List.mem_of_getElem? (i := 125) (by decide +kernel))) (by decide +kernel)
theorem tw_8_127 : Cond.instanceMethod ⟨"SortWorksModel", "holds", "(I)Z"⟩ ∈ sw_gw := p_mem (p_tb8 (List.mem_of_getElem? (i := 127) (by decide +kernel))) (by decide +kernel)
theorem tw_8_129 : Cond.methodLink "SortWorksModel" 432 ⟨"SortWorksModel", "quotientOf", "(I)I"⟩ ∈ sw_gw := p_mem (p_tb8 (List.mem_of_getElem? (i := 129) (by decide +kernel))) (by decide +kernel)
theorem tw_8_131 : Cond.instanceMethod ⟨"SortWorksModel", "quotientOf", "(I)I"⟩ ∈ sw_gw := p_mem (p_tb8 (List.mem_of_getElem? (i := 131) (by decide +kernel))) (by decide +kernel)
theorem tw_8_133 : Cond.methodLink "SortWorksModel" 459 ⟨"SortWorksModel", "bodiesLast", "(I)V"⟩ ∈ sw_gw := p_mem (p_tb8 (List.mem_of_getElem? (i := 133) (by decide +kernel))) (by decide +kernel)
theorem tw_8_135 : Cond.instanceMethod ⟨"SortWorksModel", "bodiesLast", "(I)V"⟩ ∈ sw_gw := p_mem (p_tb8 (List.mem_of_getElem? (i := 135) (by decide +kernel))) (by decide +kernel)
theorem tw_8_137 : Cond.methodLink "SortWorksModel" 462 ⟨"SortWorksModel", "givesOut", "(II)Z"⟩ ∈ sw_gw := p_mem (p_tb8 (List.mem_of_getElem? (i := 137) (by decide +kernel))) (by decide +kernel)
theorem tw_8_139 : Cond.instanceMethod ⟨"SortWorksModel", "givesOut", "(II)Z"⟩ ∈ sw_gw := p_mem (p_tb8 (List.mem_of_getElem? (i := 139) (by decide +kernel))) (by decide +kernel)
theorem tw_8_141 : Cond.methodLink "SortWorksModel" 447 ⟨"SortWorksModel", "goesOut", "(III)V"⟩ ∈ sw_gw := p_mem (p_tb8 (List.mem_of_getElem? (i := 141) (by decide +kernel))) (by decide +kernel)
theorem tw_8_143 : Cond.instanceMethod ⟨"SortWorksModel", "goesOut", "(III)V"⟩ ∈ sw_gw := p_mem (p_tb8 (List.mem_of_getElem? (i := 143) (by decide +kernel))) (by decide +kernel)
theorem tw_8_145 : Cond.methodLink "SortWorksModel" 465 ⟨"SortWorksModel", "gives", "(II)Z"⟩ ∈ sw_gw := p_mem (p_tb8 (List.mem_of_getElem? (i := 145) (by decide +kernel))) (by decide +kernel)
theorem tw_8_147 : Cond.instanceMethod ⟨"SortWorksModel", "gives", "(II)Z"⟩ ∈ sw_gw := p_mem (p_tb8 (List.mem_of_getElem? (i := 147) (by decide +kernel))) (by decide +kernel)
theorem tw_8_149 : Cond.methodLink "SortWorksModel" 450 ⟨"SortWorksModel", "takes", "(III)Z"⟩ ∈ sw_gw := p_mem (p_tb8 (List.mem_of_getElem? (i := 149) (by decide +kernel))) (by decide +kernel)
theorem tw_8_151 : Cond.instanceMethod ⟨"SortWorksModel", "takes", "(III)Z"⟩ ∈ sw_gw := p_mem (p_tb8 (List.mem_of_getElem? (i := 151) (by decide +kernel))) (by decide +kernel)
theorem tw_8_153 : Cond.methodLink "SortWorksModel" 444 ⟨"SortWorksModel", "wants", "(II)I"⟩ ∈ sw_gw := p_mem (p_tb8 (List.mem_of_getElem? (i := 153) (by decide +kernel))) (by decide +kernel)
theorem tw_8_155 : Cond.instanceMethod ⟨"SortWorksModel", "wants", "(II)I"⟩ ∈ sw_gw := p_mem (p_tb8 (List.mem_of_getElem? (i := 155) (by decide +kernel))) (by decide +kernel)
theorem tw_8_157 : Cond.methodLink "SortWorksLaw" 119 ⟨"SortWorksModel", "night", "(II)I"⟩ ∈ sw_gw := p_mem (p_tb8 (List.mem_of_getElem? (i := 157) (by decide +kernel))) (by decide +kernel)
theorem tw_8_158 : Cond.instanceMethod ⟨"SortWorksModel", "night", "(II)I"⟩ ∈ sw_gw := p_mem (p_tb8 (List.mem_of_getElem? (i := 158) (by decide +kernel))) (by decide +kernel)
theorem tw_8_159 : Cond.selects "SortWorksModel" ⟨"SortWorksModel", "night", "(II)I"⟩ ⟨"SortWorksModel", "night", "(II)I"⟩ ∈ sw_gw := p_mem (p_tb8 (List.mem_of_getElem? (i := 159) (by decide +kernel))) (by decide +kernel)
theorem tw_8_161 : Cond.constant "SortWorksModel" 492 (1103515245 : Int32) ∈ sw_gw := p_mem (p_tb8 (List.mem_of_getElem? (i := 161) (by decide +kernel))) (by decide +kernel)
theorem tw_8_162 : Cond.methodLink "SortWorksModel" 493 ⟨"SortWorksModel", "spoils", "(II)V"⟩ ∈ sw_gw := p_mem (p_tb8 (List.mem_of_getElem? (i := 162) (by decide +kernel))) (by decide +kernel)
theorem tw_8_164 : Cond.instanceMethod ⟨"SortWorksModel", "spoils", "(II)V"⟩ ∈ sw_gw := p_mem (p_tb8 (List.mem_of_getElem? (i := 164) (by decide +kernel))) (by decide +kernel)
theorem tw_8_166 : Cond.methodLink "SortWorksLaw" 123 ⟨"SortWorksModel", "back", "(I)I"⟩ ∈ sw_gw := p_mem (p_tb8 (List.mem_of_getElem? (i := 166) (by decide +kernel))) (by decide +kernel)
theorem tw_8_167 : Cond.instanceMethod ⟨"SortWorksModel", "back", "(I)I"⟩ ∈ sw_gw := p_mem (p_tb8 (List.mem_of_getElem? (i := 167) (by decide +kernel))) (by decide +kernel)
theorem tw_8_168 : Cond.selects "SortWorksModel" ⟨"SortWorksModel", "back", "(I)I"⟩ ⟨"SortWorksModel", "back", "(I)I"⟩ ∈ sw_gw := p_mem (p_tb8 (List.mem_of_getElem? (i := 168) (by decide +kernel))) (by decide +kernel)
theorem tw_8_170 : Cond.constantLong "SortWorksModel" 515 (30 : Int64) ∈ sw_gw := p_mem (p_tb8 (List.mem_of_getElem? (i := 170) (by decide +kernel))) (by decide +kernel)
theorem tw_8_171 : Cond.methodLink "SortWorksLaw" 127 ⟨"SortWorksModel", "status", "()I"⟩ ∈ sw_gw := p_mem (p_tb8 (List.mem_of_getElem? (i := 171) (by decide +kernel))) (by decide +kernel)
theorem tw_8_172 : Cond.instanceMethod ⟨"SortWorksModel", "status", "()I"⟩ ∈ sw_gw := p_mem (p_tb8 (List.mem_of_getElem? (i := 172) (by decide +kernel))) (by decide +kernel)
theorem tw_8_173 : Cond.selects "SortWorksModel" ⟨"SortWorksModel", "status", "()I"⟩ ⟨"SortWorksModel", "status", "()I"⟩ ∈ sw_gw := p_mem (p_tb8 (List.mem_of_getElem? (i := 173) (by decide +kernel))) (by decide +kernel)
theorem tw_8_175 : Cond.methodLink "SortWorksLaw" 131 ⟨"SortWorksModel", "told", "(II)I"⟩ ∈ sw_gw := p_mem (p_tb8 (List.mem_of_getElem? (i := 175) (by decide +kernel))) (by decide +kernel)
theorem tw_8_176 : Cond.instanceMethod ⟨"SortWorksModel", "told", "(II)I"⟩ ∈ sw_gw := p_mem (p_tb8 (List.mem_of_getElem? (i := 176) (by decide +kernel))) (by decide +kernel)
theorem tw_8_177 : Cond.selects "SortWorksModel" ⟨"SortWorksModel", "told", "(II)I"⟩ ⟨"SortWorksModel", "told", "(II)I"⟩ ∈ sw_gw := p_mem (p_tb8 (List.mem_of_getElem? (i := 177) (by decide +kernel))) (by decide +kernel)
theorem tw_8_179 : Cond.methodLink "SortWorksModel" 517 ⟨"SortWorksModel", "toldMore", "(II)I"⟩ ∈ sw_gw := p_mem (p_tb8 (List.mem_of_getElem? (i := 179) (by decide +kernel))) (by decide +kernel)
theorem tw_8_181 : Cond.instanceMethod ⟨"SortWorksModel", "toldMore", "(II)I"⟩ ∈ sw_gw := p_mem (p_tb8 (List.mem_of_getElem? (i := 181) (by decide +kernel))) (by decide +kernel)
theorem tw_8_183 : Cond.methodLink "SortWorksLaw" 135 ⟨"SortWorksModel", "slot", "(II)I"⟩ ∈ sw_gw := p_mem (p_tb8 (List.mem_of_getElem? (i := 183) (by decide +kernel))) (by decide +kernel)
theorem tw_8_184 : Cond.instanceMethod ⟨"SortWorksModel", "slot", "(II)I"⟩ ∈ sw_gw := p_mem (p_tb8 (List.mem_of_getElem? (i := 184) (by decide +kernel))) (by decide +kernel)
theorem tw_8_185 : Cond.selects "SortWorksModel" ⟨"SortWorksModel", "slot", "(II)I"⟩ ⟨"SortWorksModel", "slot", "(II)I"⟩ ∈ sw_gw := p_mem (p_tb8 (List.mem_of_getElem? (i := 185) (by decide +kernel))) (by decide +kernel)
theorem tw_8_187 : Cond.methodLink "SortWorksLaw" 139 ⟨"SortWorksModel", "linkOf", "(II)I"⟩ ∈ sw_gw := p_mem (p_tb8 (List.mem_of_getElem? (i := 187) (by decide +kernel))) (by decide +kernel)
theorem tw_8_188 : Cond.instanceMethod ⟨"SortWorksModel", "linkOf", "(II)I"⟩ ∈ sw_gw := p_mem (p_tb8 (List.mem_of_getElem? (i := 188) (by decide +kernel))) (by decide +kernel)
theorem tw_8_189 : Cond.selects "SortWorksModel" ⟨"SortWorksModel", "linkOf", "(II)I"⟩ ⟨"SortWorksModel", "linkOf", "(II)I"⟩ ∈ sw_gw := p_mem (p_tb8 (List.mem_of_getElem? (i := 189) (by decide +kernel))) (by decide +kernel)
theorem tw_8_191 : Cond.methodLink "SortWorksLaw" 143 ⟨"SortWorksModel", "parcel", "(II)I"⟩ ∈ sw_gw := p_mem (p_tb8 (List.mem_of_getElem? (i := 191) (by decide +kernel))) (by decide +kernel)
theorem tw_8_192 : Cond.instanceMethod ⟨"SortWorksModel", "parcel", "(II)I"⟩ ∈ sw_gw := p_mem (p_tb8 (List.mem_of_getElem? (i := 192) (by decide +kernel))) (by decide +kernel)
theorem tw_8_193 : Cond.selects "SortWorksModel" ⟨"SortWorksModel", "parcel", "(II)I"⟩ ⟨"SortWorksModel", "parcel", "(II)I"⟩ ∈ sw_gw := p_mem (p_tb8 (List.mem_of_getElem? (i := 193) (by decide +kernel))) (by decide +kernel)
theorem tw_8_195 : Cond.methodLink "SortWorksLaw" 147 ⟨"SortWorksModel", "way", "(II)I"⟩ ∈ sw_gw := p_mem (p_tb8 (List.mem_of_getElem? (i := 195) (by decide +kernel))) (by decide +kernel)
theorem tw_8_196 : Cond.instanceMethod ⟨"SortWorksModel", "way", "(II)I"⟩ ∈ sw_gw := p_mem (p_tb8 (List.mem_of_getElem? (i := 196) (by decide +kernel))) (by decide +kernel)
theorem tw_8_197 : Cond.selects "SortWorksModel" ⟨"SortWorksModel", "way", "(II)I"⟩ ⟨"SortWorksModel", "way", "(II)I"⟩ ∈ sw_gw := p_mem (p_tb8 (List.mem_of_getElem? (i := 197) (by decide +kernel))) (by decide +kernel)
theorem tw_8_199 : Cond.methodLink "SortWorksLaw" 151 ⟨"SortWorksModel", "byteOf", "(II)I"⟩ ∈ sw_gw := p_mem (p_tb8 (List.mem_of_getElem? (i := 199) (by decide +kernel))) (by decide +kernel)
theorem tw_8_200 : Cond.instanceMethod ⟨"SortWorksModel", "byteOf", "(II)I"⟩ ∈ sw_gw := p_mem (p_tb8 (List.mem_of_getElem? (i := 200) (by decide +kernel))) (by decide +kernel)
theorem tw_8_201 : Cond.selects "SortWorksModel" ⟨"SortWorksModel", "byteOf", "(II)I"⟩ ⟨"SortWorksModel", "byteOf", "(II)I"⟩ ∈ sw_gw := p_mem (p_tb8 (List.mem_of_getElem? (i := 201) (by decide +kernel))) (by decide +kernel)
theorem tw_8_203 : Cond.methodLink "SortWorksLaw" 155 ⟨"SortWorksModel", "left", "(I)I"⟩ ∈ sw_gw := p_mem (p_tb8 (List.mem_of_getElem? (i := 203) (by decide +kernel))) (by decide +kernel)
theorem tw_8_204 : Cond.instanceMethod ⟨"SortWorksModel", "left", "(I)I"⟩ ∈ sw_gw := p_mem (p_tb8 (List.mem_of_getElem? (i := 204) (by decide +kernel))) (by decide +kernel)
theorem tw_8_205 : Cond.selects "SortWorksModel" ⟨"SortWorksModel", "left", "(I)I"⟩ ⟨"SortWorksModel", "left", "(I)I"⟩ ∈ sw_gw := p_mem (p_tb8 (List.mem_of_getElem? (i := 205) (by decide +kernel))) (by decide +kernel)
theorem tw_8_207 : Cond.methodLink "SortWorksLaw" 159 ⟨"SortWorksModel", "out", "(II)I"⟩ ∈ sw_gw := p_mem (p_tb8 (List.mem_of_getElem? (i := 207) (by decide +kernel))) (by decide +kernel)
theorem tw_8_208 : Cond.instanceMethod ⟨"SortWorksModel", "out", "(II)I"⟩ ∈ sw_gw := p_mem (p_tb8 (List.mem_of_getElem? (i := 208) (by decide +kernel))) (by decide +kernel)
theorem tw_8_209 : Cond.selects "SortWorksModel" ⟨"SortWorksModel", "out", "(II)I"⟩ ⟨"SortWorksModel", "out", "(II)I"⟩ ∈ sw_gw := p_mem (p_tb8 (List.mem_of_getElem? (i := 209) (by decide +kernel))) (by decide +kernel)
theorem tw_8_211 : Cond.methodLink "SortWorksLaw" 163 ⟨"SortWorksModel", "rule", "(II)I"⟩ ∈ sw_gw := p_mem (p_tb8 (List.mem_of_getElem? (i := 211) (by decide +kernel))) (by decide +kernel)
theorem tw_8_212 : Cond.instanceMethod ⟨"SortWorksModel", "rule", "(II)I"⟩ ∈ sw_gw := p_mem (p_tb8 (List.mem_of_getElem? (i := 212) (by decide +kernel))) (by decide +kernel)
theorem tw_8_213 : Cond.selects "SortWorksModel" ⟨"SortWorksModel", "rule", "(II)I"⟩ ⟨"SortWorksModel", "rule", "(II)I"⟩ ∈ sw_gw := p_mem (p_tb8 (List.mem_of_getElem? (i := 213) (by decide +kernel))) (by decide +kernel)
theorem tw_8_215 : Cond.methodLink "SortWorksLaw" 167 ⟨"SortWorksModel", "said", "(I)I"⟩ ∈ sw_gw := p_mem (p_tb8 (List.mem_of_getElem? (i := 215) (by decide +kernel))) (by decide +kernel)
theorem tw_8_216 : Cond.instanceMethod ⟨"SortWorksModel", "said", "(I)I"⟩ ∈ sw_gw := p_mem (p_tb8 (List.mem_of_getElem? (i := 216) (by decide +kernel))) (by decide +kernel)
theorem tw_8_217 : Cond.selects "SortWorksModel" ⟨"SortWorksModel", "said", "(I)I"⟩ ⟨"SortWorksModel", "said", "(I)I"⟩ ∈ sw_gw := p_mem (p_tb8 (List.mem_of_getElem? (i := 217) (by decide +kernel))) (by decide +kernel)
theorem tw_8_219 : Cond.methodLink "SortWorksModel" 526 ⟨"SortWorksModel", "says", "(I)V"⟩ ∈ sw_gw := p_mem (p_tb8 (List.mem_of_getElem? (i := 219) (by decide +kernel))) (by decide +kernel)
theorem tw_8_221 : Cond.instanceMethod ⟨"SortWorksModel", "says", "(I)V"⟩ ∈ sw_gw := p_mem (p_tb8 (List.mem_of_getElem? (i := 221) (by decide +kernel))) (by decide +kernel)
theorem tw_8_223 : Cond.methodLink "SortWorksModel" 529 ⟨"SortWorksModel", "saysNumber", "(I)V"⟩ ∈ sw_gw := p_mem (p_tb8 (List.mem_of_getElem? (i := 223) (by decide +kernel))) (by decide +kernel)
theorem tw_8_225 : Cond.instanceMethod ⟨"SortWorksModel", "saysNumber", "(I)V"⟩ ∈ sw_gw := p_mem (p_tb8 (List.mem_of_getElem? (i := 225) (by decide +kernel))) (by decide +kernel)
theorem tw_8_227 : Cond.methodLink "SortWorksLaw" 171 ⟨"SortWorksModel", "unused", "(I)I"⟩ ∈ sw_gw := p_mem (p_tb8 (List.mem_of_getElem? (i := 227) (by decide +kernel))) (by decide +kernel)
theorem tw_8_228 : Cond.instanceMethod ⟨"SortWorksModel", "unused", "(I)I"⟩ ∈ sw_gw := p_mem (p_tb8 (List.mem_of_getElem? (i := 228) (by decide +kernel))) (by decide +kernel)
theorem tw_8_229 : Cond.selects "SortWorksModel" ⟨"SortWorksModel", "unused", "(I)I"⟩ ⟨"SortWorksModel", "unused", "(I)I"⟩ ∈ sw_gw := p_mem (p_tb8 (List.mem_of_getElem? (i := 229) (by decide +kernel))) (by decide +kernel)
theorem tw_8_231 : Cond.methodLink "SortWorksLaw" 175 ⟨"SortWorksModel", "finding", "(II)I"⟩ ∈ sw_gw := p_mem (p_tb8 (List.mem_of_getElem? (i := 231) (by decide +kernel))) (by decide +kernel)
theorem tw_8_232 : Cond.instanceMethod ⟨"SortWorksModel", "finding", "(II)I"⟩ ∈ sw_gw := p_mem (p_tb8 (List.mem_of_getElem? (i := 232) (by decide +kernel))) (by decide +kernel)
theorem tw_8_233 : Cond.selects "SortWorksModel" ⟨"SortWorksModel", "finding", "(II)I"⟩ ⟨"SortWorksModel", "finding", "(II)I"⟩ ∈ sw_gw := p_mem (p_tb8 (List.mem_of_getElem? (i := 233) (by decide +kernel))) (by decide +kernel)
theorem tw_8_235 : Cond.methodLink "SortWorksLaw" 179 ⟨"SortWorksModel", "trace", "(I)I"⟩ ∈ sw_gw := p_mem (p_tb8 (List.mem_of_getElem? (i := 235) (by decide +kernel))) (by decide +kernel)
theorem tw_8_236 : Cond.instanceMethod ⟨"SortWorksModel", "trace", "(I)I"⟩ ∈ sw_gw := p_mem (p_tb8 (List.mem_of_getElem? (i := 236) (by decide +kernel))) (by decide +kernel)
theorem tw_8_237 : Cond.selects "SortWorksModel" ⟨"SortWorksModel", "trace", "(I)I"⟩ ⟨"SortWorksModel", "trace", "(I)I"⟩ ∈ sw_gw := p_mem (p_tb8 (List.mem_of_getElem? (i := 237) (by decide +kernel))) (by decide +kernel)
theorem tw_8_239 : Cond.methodLink "SortWorksLaw" 183 ⟨"SortWorksModel", "jam", "(I)I"⟩ ∈ sw_gw := p_mem (p_tb8 (List.mem_of_getElem? (i := 239) (by decide +kernel))) (by decide +kernel)
theorem tw_9_0 : Cond.instanceMethod ⟨"SortWorksModel", "jam", "(I)I"⟩ ∈ sw_gw := p_mem (p_tb9 (List.mem_of_getElem? (i := 0) (by decide +kernel))) (by decide +kernel)
theorem tw_9_1 : Cond.selects "SortWorksModel" ⟨"SortWorksModel", "jam", "(I)I"⟩ ⟨"SortWorksModel", "jam", "(I)I"⟩ ∈ sw_gw := p_mem (p_tb9 (List.mem_of_getElem? (i := 1) (by decide +kernel))) (by decide +kernel)
theorem tw_9_3 : Cond.methodLink "SortWorksLaw" 187 ⟨"SortWorksModel", "far", "(II)I"⟩ ∈ sw_gw := p_mem (p_tb9 (List.mem_of_getElem? (i := 3) (by decide +kernel))) (by decide +kernel)
theorem tw_9_4 : Cond.instanceMethod ⟨"SortWorksModel", "far", "(II)I"⟩ ∈ sw_gw := p_mem (p_tb9 (List.mem_of_getElem? (i := 4) (by decide +kernel))) (by decide +kernel)
theorem tw_9_5 : Cond.selects "SortWorksModel" ⟨"SortWorksModel", "far", "(II)I"⟩ ⟨"SortWorksModel", "far", "(II)I"⟩ ∈ sw_gw := p_mem (p_tb9 (List.mem_of_getElem? (i := 5) (by decide +kernel))) (by decide +kernel)
theorem tw_9_7 : Cond.methodLink "SortWorksModel" 535 ⟨"SortWorksModel", "spread", "(I)V"⟩ ∈ sw_gw := p_mem (p_tb9 (List.mem_of_getElem? (i := 7) (by decide +kernel))) (by decide +kernel)
theorem tw_9_9 : Cond.instanceMethod ⟨"SortWorksModel", "spread", "(I)V"⟩ ∈ sw_gw := p_mem (p_tb9 (List.mem_of_getElem? (i := 9) (by decide +kernel))) (by decide +kernel)
theorem tw_9_11 : Cond.methodLink "SortWorksModel" 532 ⟨"SortWorksModel", "ahead", "(II)V"⟩ ∈ sw_gw := p_mem (p_tb9 (List.mem_of_getElem? (i := 11) (by decide +kernel))) (by decide +kernel)
theorem tw_9_13 : Cond.instanceMethod ⟨"SortWorksModel", "ahead", "(II)V"⟩ ∈ sw_gw := p_mem (p_tb9 (List.mem_of_getElem? (i := 13) (by decide +kernel))) (by decide +kernel)
theorem tw_9_15 : Cond.methodLink "SortWorksLaw" 192 ⟨"SortWorksModel", "reach", "(I)J"⟩ ∈ sw_gw := p_mem (p_tb9 (List.mem_of_getElem? (i := 15) (by decide +kernel))) (by decide +kernel)
theorem tw_9_16 : Cond.instanceMethod ⟨"SortWorksModel", "reach", "(I)J"⟩ ∈ sw_gw := p_mem (p_tb9 (List.mem_of_getElem? (i := 16) (by decide +kernel))) (by decide +kernel)
theorem tw_9_17 : Cond.selects "SortWorksModel" ⟨"SortWorksModel", "reach", "(I)J"⟩ ⟨"SortWorksModel", "reach", "(I)J"⟩ ∈ sw_gw := p_mem (p_tb9 (List.mem_of_getElem? (i := 17) (by decide +kernel))) (by decide +kernel)
theorem tw_9_19 : Cond.methodLink "SortWorksLaw" 196 ⟨"SortWorksModel", "ring", "(I)I"⟩ ∈ sw_gw := p_mem (p_tb9 (List.mem_of_getElem? (i := 19) (by decide +kernel))) (by decide +kernel)
theorem tw_9_20 : Cond.instanceMethod ⟨"SortWorksModel", "ring", "(I)I"⟩ ∈ sw_gw := p_mem (p_tb9 (List.mem_of_getElem? (i := 20) (by decide +kernel))) (by decide +kernel)
theorem tw_9_21 : Cond.selects "SortWorksModel" ⟨"SortWorksModel", "ring", "(I)I"⟩ ⟨"SortWorksModel", "ring", "(I)I"⟩ ∈ sw_gw := p_mem (p_tb9 (List.mem_of_getElem? (i := 21) (by decide +kernel))) (by decide +kernel)
theorem tw_9_23 : Cond.methodLink "SortWorksLaw" 200 ⟨"SortWorksModel", "audit", "()I"⟩ ∈ sw_gw := p_mem (p_tb9 (List.mem_of_getElem? (i := 23) (by decide +kernel))) (by decide +kernel)
theorem tw_9_24 : Cond.instanceMethod ⟨"SortWorksModel", "audit", "()I"⟩ ∈ sw_gw := p_mem (p_tb9 (List.mem_of_getElem? (i := 24) (by decide +kernel))) (by decide +kernel)
theorem tw_9_25 : Cond.selects "SortWorksModel" ⟨"SortWorksModel", "audit", "()I"⟩ ⟨"SortWorksModel", "audit", "()I"⟩ ∈ sw_gw := p_mem (p_tb9 (List.mem_of_getElem? (i := 25) (by decide +kernel))) (by decide +kernel)
theorem tw_9_27 : Cond.methodLink "SortWorksLaw" 204 ⟨"SortWorksModel", "count", "(I)I"⟩ ∈ sw_gw := p_mem (p_tb9 (List.mem_of_getElem? (i := 27) (by decide +kernel))) (by decide +kernel)
theorem tw_9_28 : Cond.instanceMethod ⟨"SortWorksModel", "count", "(I)I"⟩ ∈ sw_gw := p_mem (p_tb9 (List.mem_of_getElem? (i := 28) (by decide +kernel))) (by decide +kernel)
theorem tw_9_29 : Cond.selects "SortWorksModel" ⟨"SortWorksModel", "count", "(I)I"⟩ ⟨"SortWorksModel", "count", "(I)I"⟩ ∈ sw_gw := p_mem (p_tb9 (List.mem_of_getElem? (i := 29) (by decide +kernel))) (by decide +kernel)
theorem tw_9_31 : Cond.methodLink "SortWorksLaw" 209 ⟨"SortWorksModel", "digest", "()J"⟩ ∈ sw_gw := p_mem (p_tb9 (List.mem_of_getElem? (i := 31) (by decide +kernel))) (by decide +kernel)
theorem tw_9_32 : Cond.instanceMethod ⟨"SortWorksModel", "digest", "()J"⟩ ∈ sw_gw := p_mem (p_tb9 (List.mem_of_getElem? (i := 32) (by decide +kernel))) (by decide +kernel)
theorem tw_9_33 : Cond.selects "SortWorksModel" ⟨"SortWorksModel", "digest", "()J"⟩ ⟨"SortWorksModel", "digest", "()J"⟩ ∈ sw_gw := p_mem (p_tb9 (List.mem_of_getElem? (i := 33) (by decide +kernel))) (by decide +kernel)
theorem tw_9_35 : Cond.constantLong "SortWorksModel" 544 (17 : Int64) ∈ sw_gw := p_mem (p_tb9 (List.mem_of_getElem? (i := 35) (by decide +kernel))) (by decide +kernel)
theorem tw_9_36 : Cond.methodLink "SortWorksModel" 546 ⟨"SortWorksModel", "adds", "(I)V"⟩ ∈ sw_gw := p_mem (p_tb9 (List.mem_of_getElem? (i := 36) (by decide +kernel))) (by decide +kernel)
theorem tw_9_38 : Cond.instanceMethod ⟨"SortWorksModel", "adds", "(I)V"⟩ ∈ sw_gw := p_mem (p_tb9 (List.mem_of_getElem? (i := 38) (by decide +kernel))) (by decide +kernel)
theorem tw_9_40 : Cond.constantLong "SortWorksModel" 538 (31 : Int64) ∈ sw_gw := p_mem (p_tb9 (List.mem_of_getElem? (i := 40) (by decide +kernel))) (by decide +kernel)
theorem tw_9_41 : Cond.methodLink "SortWorksModel" 549 ⟨"SortWorksModel", "told", "(II)I"⟩ ∈ sw_gw := p_mem (p_tb9 (List.mem_of_getElem? (i := 41) (by decide +kernel))) (by decide +kernel)
theorem tw_objInit : Cond.code objectInit ⟨#[0xb1]⟩ 1 none ∈ sw_gw := p_mem (p_tb1 (List.mem_of_getElem? (i := 24) (by decide +kernel))) (by decide +kernel)
theorem ts_0 : Cond.selects "SortWorks" ⟨"SortWorks", "refuse", "(I)I"⟩ ⟨"SortWorks", "refuse", "(I)I"⟩ ∈ sw_gw := p_mes (List.mem_of_getElem? (i := 0) (by decide +kernel)) (by decide +kernel)
theorem ts_1 : Cond.selects "SortWorks" ⟨"SortWorks", "done", "(I)I"⟩ ⟨"SortWorks", "done", "(I)I"⟩ ∈ sw_gw := p_mes (List.mem_of_getElem? (i := 1) (by decide +kernel)) (by decide +kernel)
theorem ts_2 : Cond.selects "SortWorks" ⟨"SortWorks", "built", "(I)I"⟩ ⟨"SortWorks", "built", "(I)I"⟩ ∈ sw_gw := p_mes (List.mem_of_getElem? (i := 2) (by decide +kernel)) (by decide +kernel)
theorem ts_3 : Cond.selects "SortWorks$Judge" ⟨"SortWorks$Judge", "takeRule", "(I)Z"⟩ ⟨"SortWorks$Judge", "takeRule", "(I)Z"⟩ ∈ sw_gw := p_mes (List.mem_of_getElem? (i := 3) (by decide +kernel)) (by decide +kernel)
theorem ts_4 : Cond.selects "SortWorks$Judge" ⟨"SortWorks$Judge", "next", "()I"⟩ ⟨"SortWorks$Judge", "next", "()I"⟩ ∈ sw_gw := p_mes (List.mem_of_getElem? (i := 4) (by decide +kernel)) (by decide +kernel)
theorem ts_5 : Cond.selects "SortWorks$Judge" ⟨"SortWorks$Judge", "takeTests", "(I)Z"⟩ ⟨"SortWorks$Judge", "takeTests", "(I)Z"⟩ ∈ sw_gw := p_mes (List.mem_of_getElem? (i := 5) (by decide +kernel)) (by decide +kernel)
theorem ts_6 : Cond.selects "SortWorks$Judge" ⟨"SortWorks$Judge", "takeTest", "(I)Z"⟩ ⟨"SortWorks$Judge", "takeTest", "(I)Z"⟩ ∈ sw_gw := p_mes (List.mem_of_getElem? (i := 6) (by decide +kernel)) (by decide +kernel)
theorem ts_7 : Cond.selects "SortWorks$Judge" ⟨"SortWorks$Judge", "take", "(I)Z"⟩ ⟨"SortWorks$Judge", "take", "(I)Z"⟩ ∈ sw_gw := p_mes (List.mem_of_getElem? (i := 7) (by decide +kernel)) (by decide +kernel)
theorem ts_8 : Cond.selects "SortWorks$Judge" ⟨"SortWorks$Judge", "takeNumber", "()I"⟩ ⟨"SortWorks$Judge", "takeNumber", "()I"⟩ ∈ sw_gw := p_mes (List.mem_of_getElem? (i := 8) (by decide +kernel)) (by decide +kernel)
theorem ts_9 : Cond.selects "SortWorks$Judge" ⟨"SortWorks$Judge", "takeTold", "(I)Z"⟩ ⟨"SortWorks$Judge", "takeTold", "(I)Z"⟩ ∈ sw_gw := p_mes (List.mem_of_getElem? (i := 9) (by decide +kernel)) (by decide +kernel)
theorem ts_10 : Cond.selects "SortWorks" ⟨"SortWorks", "newParcel", "()LSortWorks$Parcel;"⟩ ⟨"SortWorks", "newParcel", "()LSortWorks$Parcel;"⟩ ∈ sw_gw := p_mes (List.mem_of_getElem? (i := 10) (by decide +kernel)) (by decide +kernel)
theorem ts_11 : Cond.selects "SortWorks$State" ⟨"SortWorks$State", "setDown", "(LSortWorks$Parcel;I)V"⟩ ⟨"SortWorks$State", "setDown", "(LSortWorks$Parcel;I)V"⟩ ∈ sw_gw := p_mes (List.mem_of_getElem? (i := 11) (by decide +kernel)) (by decide +kernel)
theorem ts_12 : Cond.selects "SortWorks$Parcel" ⟨"SortWorks$Parcel", "writeFormA", "(I)V"⟩ ⟨"SortWorks$Parcel", "writeFormA", "(I)V"⟩ ∈ sw_gw := p_mes (List.mem_of_getElem? (i := 12) (by decide +kernel)) (by decide +kernel)
theorem ts_13 : Cond.selects "SortWorks$Parcel" ⟨"SortWorks$Parcel", "writeFormB", "(I)V"⟩ ⟨"SortWorks$Parcel", "writeFormB", "(I)V"⟩ ∈ sw_gw := p_mes (List.mem_of_getElem? (i := 13) (by decide +kernel)) (by decide +kernel)
theorem ts_14 : Cond.selects "SortWorks$Step" ⟨"SortWorks$Step", "doPlan", "(I)V"⟩ ⟨"SortWorks$Step", "doPlan", "(I)V"⟩ ∈ sw_gw := p_mes (List.mem_of_getElem? (i := 14) (by decide +kernel)) (by decide +kernel)
theorem ts_15 : Cond.selects "SortWorks$Step" ⟨"SortWorks$Step", "planFault", "([II)I"⟩ ⟨"SortWorks$Step", "planFault", "([II)I"⟩ ∈ sw_gw := p_mes (List.mem_of_getElem? (i := 15) (by decide +kernel)) (by decide +kernel)
theorem ts_16 : Cond.selects "SortWorks$Step" ⟨"SortWorks$Step", "addFinding", "(IIII)V"⟩ ⟨"SortWorks$Step", "addFinding", "(IIII)V"⟩ ∈ sw_gw := p_mes (List.mem_of_getElem? (i := 16) (by decide +kernel)) (by decide +kernel)
theorem ts_17 : Cond.selects "SortWorks$Step" ⟨"SortWorks$Step", "letMergesChoose", "()V"⟩ ⟨"SortWorks$Step", "letMergesChoose", "()V"⟩ ∈ sw_gw := p_mes (List.mem_of_getElem? (i := 17) (by decide +kernel)) (by decide +kernel)
theorem ts_18 : Cond.selects "SortWorks$Step" ⟨"SortWorks$Step", "isReadyToGive", "(LSortWorks$Gear;)Z"⟩ ⟨"SortWorks$Step", "isReadyToGive", "(LSortWorks$Gear;)Z"⟩ ∈ sw_gw := p_mes (List.mem_of_getElem? (i := 18) (by decide +kernel)) (by decide +kernel)
theorem ts_19 : Cond.selects "SortWorks$Step" ⟨"SortWorks$Step", "isInStep", "(LSortWorks$Gear;)Z"⟩ ⟨"SortWorks$Step", "isInStep", "(LSortWorks$Gear;)Z"⟩ ∈ sw_gw := p_mes (List.mem_of_getElem? (i := 19) (by decide +kernel)) (by decide +kernel)
theorem ts_20 : Cond.selects "SortWorks$Step" ⟨"SortWorks$Step", "isBetter", "(ILSortWorks$Gear;)Z"⟩ ⟨"SortWorks$Step", "isBetter", "(ILSortWorks$Gear;)Z"⟩ ∈ sw_gw := p_mes (List.mem_of_getElem? (i := 20) (by decide +kernel)) (by decide +kernel)
theorem ts_21 : Cond.selects "SortWorks$Step" ⟨"SortWorks$Step", "act", "(I)V"⟩ ⟨"SortWorks$Step", "act", "(I)V"⟩ ∈ sw_gw := p_mes (List.mem_of_getElem? (i := 21) (by decide +kernel)) (by decide +kernel)
theorem ts_22 : Cond.selects "SortWorks$Step" ⟨"SortWorks$Step", "addTrace", "(I)V"⟩ ⟨"SortWorks$Step", "addTrace", "(I)V"⟩ ∈ sw_gw := p_mes (List.mem_of_getElem? (i := 22) (by decide +kernel)) (by decide +kernel)
theorem ts_23 : Cond.selects "SortWorks$Step" ⟨"SortWorks$Step", "scan", "(ILSortWorks$Gear;)Z"⟩ ⟨"SortWorks$Step", "scan", "(ILSortWorks$Gear;)Z"⟩ ∈ sw_gw := p_mes (List.mem_of_getElem? (i := 23) (by decide +kernel)) (by decide +kernel)
theorem ts_24 : Cond.selects "SortWorks$Reading" ⟨"SortWorks$Reading", "readFormA", "(LSortWorks$Parcel;)I"⟩ ⟨"SortWorks$Reading", "readFormA", "(LSortWorks$Parcel;)I"⟩ ∈ sw_gw := p_mes (List.mem_of_getElem? (i := 24) (by decide +kernel)) (by decide +kernel)
theorem ts_25 : Cond.selects "SortWorks$Reading" ⟨"SortWorks$Reading", "readFormB", "(LSortWorks$Parcel;)I"⟩ ⟨"SortWorks$Reading", "readFormB", "(LSortWorks$Parcel;)I"⟩ ∈ sw_gw := p_mes (List.mem_of_getElem? (i := 25) (by decide +kernel)) (by decide +kernel)
theorem ts_26 : Cond.selects "SortWorks$Step" ⟨"SortWorks$Step", "targetByRules", "(I)I"⟩ ⟨"SortWorks$Step", "targetByRules", "(I)I"⟩ ∈ sw_gw := p_mes (List.mem_of_getElem? (i := 26) (by decide +kernel)) (by decide +kernel)
theorem ts_27 : Cond.selects "SortWorks$Step" ⟨"SortWorks$Step", "holds", "(I)I"⟩ ⟨"SortWorks$Step", "holds", "(I)I"⟩ ∈ sw_gw := p_mes (List.mem_of_getElem? (i := 27) (by decide +kernel)) (by decide +kernel)
theorem ts_28 : Cond.selects "SortWorks$Step" ⟨"SortWorks$Step", "quotient", "(I)I"⟩ ⟨"SortWorks$Step", "quotient", "(I)I"⟩ ∈ sw_gw := p_mes (List.mem_of_getElem? (i := 28) (by decide +kernel)) (by decide +kernel)
theorem ts_29 : Cond.selects "SortWorks$Step" ⟨"SortWorks$Step", "plainValue", "(I)I"⟩ ⟨"SortWorks$Step", "plainValue", "(I)I"⟩ ∈ sw_gw := p_mes (List.mem_of_getElem? (i := 29) (by decide +kernel)) (by decide +kernel)
theorem ts_30 : Cond.selects "SortWorks$Step" ⟨"SortWorks$Step", "passOn", "(ILSortWorks$Gear;Z)V"⟩ ⟨"SortWorks$Step", "passOn", "(ILSortWorks$Gear;Z)V"⟩ ∈ sw_gw := p_mes (List.mem_of_getElem? (i := 30) (by decide +kernel)) (by decide +kernel)
theorem ts_31 : Cond.selects "SortWorks$Step" ⟨"SortWorks$Step", "giveOut", "(ILSortWorks$Gear;LSortWorks$Parcel;)Z"⟩ ⟨"SortWorks$Step", "giveOut", "(ILSortWorks$Gear;LSortWorks$Parcel;)Z"⟩ ∈ sw_gw := p_mes (List.mem_of_getElem? (i := 31) (by decide +kernel)) (by decide +kernel)
theorem ts_32 : Cond.selects "SortWorks$Step" ⟨"SortWorks$Step", "leaveBy", "(IILSortWorks$Parcel;)V"⟩ ⟨"SortWorks$Step", "leaveBy", "(IILSortWorks$Parcel;)V"⟩ ∈ sw_gw := p_mes (List.mem_of_getElem? (i := 32) (by decide +kernel)) (by decide +kernel)
theorem ts_33 : Cond.selects "SortWorks$Step" ⟨"SortWorks$Step", "giveOn", "(ILSortWorks$Gear;LSortWorks$Parcel;)Z"⟩ ⟨"SortWorks$Step", "giveOn", "(ILSortWorks$Gear;LSortWorks$Parcel;)Z"⟩ ∈ sw_gw := p_mes (List.mem_of_getElem? (i := 33) (by decide +kernel)) (by decide +kernel)
theorem ts_34 : Cond.selects "SortWorks$Step" ⟨"SortWorks$Step", "takes", "(III)Z"⟩ ⟨"SortWorks$Step", "takes", "(III)Z"⟩ ∈ sw_gw := p_mes (List.mem_of_getElem? (i := 34) (by decide +kernel)) (by decide +kernel)
theorem ts_35 : Cond.selects "SortWorks$Step" ⟨"SortWorks$Step", "mergeTakes", "(LSortWorks$Gear;I)Z"⟩ ⟨"SortWorks$Step", "mergeTakes", "(LSortWorks$Gear;I)Z"⟩ ∈ sw_gw := p_mes (List.mem_of_getElem? (i := 35) (by decide +kernel)) (by decide +kernel)
theorem ts_36 : Cond.selects "SortWorks$Step" ⟨"SortWorks$Step", "moveUp", "(LSortWorks$Gear;)V"⟩ ⟨"SortWorks$Step", "moveUp", "(LSortWorks$Gear;)V"⟩ ∈ sw_gw := p_mes (List.mem_of_getElem? (i := 36) (by decide +kernel)) (by decide +kernel)
theorem ts_37 : Cond.selects "SortWorks$Step" ⟨"SortWorks$Step", "setDial", "(ILSortWorks$Gear;)V"⟩ ⟨"SortWorks$Step", "setDial", "(ILSortWorks$Gear;)V"⟩ ∈ sw_gw := p_mes (List.mem_of_getElem? (i := 37) (by decide +kernel)) (by decide +kernel)
theorem ts_38 : Cond.selects "SortWorks$Step" ⟨"SortWorks$Step", "lampOf", "(LSortWorks$Gear;)I"⟩ ⟨"SortWorks$Step", "lampOf", "(LSortWorks$Gear;)I"⟩ ∈ sw_gw := p_mes (List.mem_of_getElem? (i := 38) (by decide +kernel)) (by decide +kernel)
theorem ts_39 : Cond.selects "SortWorks" ⟨"SortWorks", "comeByNight", "(III)I"⟩ ⟨"SortWorks", "comeByNight", "(III)I"⟩ ∈ sw_gw := p_mes (List.mem_of_getElem? (i := 39) (by decide +kernel)) (by decide +kernel)
theorem ts_40 : Cond.selects "SortWorks$Parcel" ⟨"SortWorks$Parcel", "raiseLastByte", "()V"⟩ ⟨"SortWorks$Parcel", "raiseLastByte", "()V"⟩ ∈ sw_gw := p_mes (List.mem_of_getElem? (i := 40) (by decide +kernel)) (by decide +kernel)
theorem ts_41 : Cond.selects "SortWorks$Works" ⟨"SortWorks$Works", "goAhead", "(II)Z"⟩ ⟨"SortWorks$Works", "goAhead", "(II)Z"⟩ ∈ sw_gw := p_mes (List.mem_of_getElem? (i := 41) (by decide +kernel)) (by decide +kernel)
theorem ts_42 : Cond.selects "SortWorks" ⟨"SortWorks", "mixedGear", "(JLSortWorks$Gear;)J"⟩ ⟨"SortWorks", "mixedGear", "(JLSortWorks$Gear;)J"⟩ ∈ sw_gw := p_mes (List.mem_of_getElem? (i := 42) (by decide +kernel)) (by decide +kernel)
theorem ts_43 : Cond.selects "SortWorksModel" ⟨"SortWorksModel", "refused", "(I)I"⟩ ⟨"SortWorksModel", "refused", "(I)I"⟩ ∈ sw_gw := p_mes (List.mem_of_getElem? (i := 43) (by decide +kernel)) (by decide +kernel)
theorem ts_44 : Cond.selects "SortWorksModel" ⟨"SortWorksModel", "well", "(I)I"⟩ ⟨"SortWorksModel", "well", "(I)I"⟩ ∈ sw_gw := p_mes (List.mem_of_getElem? (i := 44) (by decide +kernel)) (by decide +kernel)
theorem ts_45 : Cond.selects "SortWorksModel" ⟨"SortWorksModel", "g", "(I)I"⟩ ⟨"SortWorksModel", "g", "(I)I"⟩ ∈ sw_gw := p_mes (List.mem_of_getElem? (i := 45) (by decide +kernel)) (by decide +kernel)
theorem ts_46 : Cond.selects "SortWorksModel" ⟨"SortWorksModel", "fresh", "(II)V"⟩ ⟨"SortWorksModel", "fresh", "(II)V"⟩ ∈ sw_gw := p_mes (List.mem_of_getElem? (i := 46) (by decide +kernel)) (by decide +kernel)
theorem ts_47 : Cond.selects "SortWorksModel" ⟨"SortWorksModel", "built", "(I)I"⟩ ⟨"SortWorksModel", "built", "(I)I"⟩ ∈ sw_gw := p_mes (List.mem_of_getElem? (i := 47) (by decide +kernel)) (by decide +kernel)
theorem ts_48 : Cond.selects "SortWorksModel" ⟨"SortWorksModel", "noGear", "(I)Z"⟩ ⟨"SortWorksModel", "noGear", "(I)Z"⟩ ∈ sw_gw := p_mes (List.mem_of_getElem? (i := 48) (by decide +kernel)) (by decide +kernel)
theorem ts_49 : Cond.selects "SortWorksModel" ⟨"SortWorksModel", "faulted", "(I)I"⟩ ⟨"SortWorksModel", "faulted", "(I)I"⟩ ∈ sw_gw := p_mes (List.mem_of_getElem? (i := 49) (by decide +kernel)) (by decide +kernel)
theorem ts_50 : Cond.selects "SortWorksModel" ⟨"SortWorksModel", "loadOf", "(I)I"⟩ ⟨"SortWorksModel", "loadOf", "(I)I"⟩ ∈ sw_gw := p_mes (List.mem_of_getElem? (i := 50) (by decide +kernel)) (by decide +kernel)
theorem ts_51 : Cond.selects "SortWorksModel" ⟨"SortWorksModel", "copyGear", "(II)V"⟩ ⟨"SortWorksModel", "copyGear", "(II)V"⟩ ∈ sw_gw := p_mes (List.mem_of_getElem? (i := 51) (by decide +kernel)) (by decide +kernel)
theorem ts_52 : Cond.selects "SortWorksModel" ⟨"SortWorksModel", "copyRule", "(II)V"⟩ ⟨"SortWorksModel", "copyRule", "(II)V"⟩ ∈ sw_gw := p_mes (List.mem_of_getElem? (i := 52) (by decide +kernel)) (by decide +kernel)
theorem ts_53 : Cond.selects "SortWorksModel" ⟨"SortWorksModel", "rule", "(I)Z"⟩ ⟨"SortWorksModel", "rule", "(I)Z"⟩ ∈ sw_gw := p_mes (List.mem_of_getElem? (i := 53) (by decide +kernel)) (by decide +kernel)
theorem ts_54 : Cond.selects "SortWorksModel" ⟨"SortWorksModel", "wrong", "(I)Z"⟩ ⟨"SortWorksModel", "wrong", "(I)Z"⟩ ∈ sw_gw := p_mes (List.mem_of_getElem? (i := 54) (by decide +kernel)) (by decide +kernel)
theorem ts_55 : Cond.selects "SortWorksModel" ⟨"SortWorksModel", "here", "()I"⟩ ⟨"SortWorksModel", "here", "()I"⟩ ∈ sw_gw := p_mes (List.mem_of_getElem? (i := 55) (by decide +kernel)) (by decide +kernel)
theorem ts_56 : Cond.selects "SortWorksModel" ⟨"SortWorksModel", "test", "(I)Z"⟩ ⟨"SortWorksModel", "test", "(I)Z"⟩ ∈ sw_gw := p_mes (List.mem_of_getElem? (i := 56) (by decide +kernel)) (by decide +kernel)
theorem ts_57 : Cond.selects "SortWorksModel" ⟨"SortWorksModel", "number", "()Z"⟩ ⟨"SortWorksModel", "number", "()Z"⟩ ∈ sw_gw := p_mes (List.mem_of_getElem? (i := 57) (by decide +kernel)) (by decide +kernel)
theorem ts_58 : Cond.selects "SortWorksModel" ⟨"SortWorksModel", "sign", "()Z"⟩ ⟨"SortWorksModel", "sign", "()Z"⟩ ∈ sw_gw := p_mes (List.mem_of_getElem? (i := 58) (by decide +kernel)) (by decide +kernel)
theorem ts_59 : Cond.selects "SortWorksModel" ⟨"SortWorksModel", "comesFull", "()Z"⟩ ⟨"SortWorksModel", "comesFull", "()Z"⟩ ∈ sw_gw := p_mes (List.mem_of_getElem? (i := 59) (by decide +kernel)) (by decide +kernel)
theorem ts_60 : Cond.selects "SortWorksModel" ⟨"SortWorksModel", "newParcel", "(III)I"⟩ ⟨"SortWorksModel", "newParcel", "(III)I"⟩ ∈ sw_gw := p_mes (List.mem_of_getElem? (i := 60) (by decide +kernel)) (by decide +kernel)
theorem ts_61 : Cond.selects "SortWorksModel" ⟨"SortWorksModel", "enters", "(II)V"⟩ ⟨"SortWorksModel", "enters", "(II)V"⟩ ∈ sw_gw := p_mes (List.mem_of_getElem? (i := 61) (by decide +kernel)) (by decide +kernel)
theorem ts_62 : Cond.selects "SortWorksModel" ⟨"SortWorksModel", "noParcel", "(I)Z"⟩ ⟨"SortWorksModel", "noParcel", "(I)Z"⟩ ∈ sw_gw := p_mes (List.mem_of_getElem? (i := 62) (by decide +kernel)) (by decide +kernel)
theorem ts_63 : Cond.selects "SortWorksModel" ⟨"SortWorksModel", "newLabel", "(II)V"⟩ ⟨"SortWorksModel", "newLabel", "(II)V"⟩ ∈ sw_gw := p_mes (List.mem_of_getElem? (i := 63) (by decide +kernel)) (by decide +kernel)
theorem ts_64 : Cond.selects "SortWorksModel" ⟨"SortWorksModel", "tags", "(III)V"⟩ ⟨"SortWorksModel", "tags", "(III)V"⟩ ∈ sw_gw := p_mes (List.mem_of_getElem? (i := 64) (by decide +kernel)) (by decide +kernel)
theorem ts_65 : Cond.selects "SortWorksModel" ⟨"SortWorksModel", "isJammed", "(I)Z"⟩ ⟨"SortWorksModel", "isJammed", "(I)Z"⟩ ∈ sw_gw := p_mes (List.mem_of_getElem? (i := 65) (by decide +kernel)) (by decide +kernel)
theorem ts_66 : Cond.selects "SortWorksModel" ⟨"SortWorksModel", "leaves", "(I)V"⟩ ⟨"SortWorksModel", "leaves", "(I)V"⟩ ∈ sw_gw := p_mes (List.mem_of_getElem? (i := 66) (by decide +kernel)) (by decide +kernel)
theorem ts_67 : Cond.selects "SortWorksModel" ⟨"SortWorksModel", "isFull", "()Z"⟩ ⟨"SortWorksModel", "isFull", "()Z"⟩ ∈ sw_gw := p_mes (List.mem_of_getElem? (i := 67) (by decide +kernel)) (by decide +kernel)
theorem ts_68 : Cond.selects "SortWorksModel" ⟨"SortWorksModel", "steps", "()V"⟩ ⟨"SortWorksModel", "steps", "()V"⟩ ∈ sw_gw := p_mes (List.mem_of_getElem? (i := 68) (by decide +kernel)) (by decide +kernel)
theorem ts_69 : Cond.selects "SortWorksModel" ⟨"SortWorksModel", "keep", "()V"⟩ ⟨"SortWorksModel", "keep", "()V"⟩ ∈ sw_gw := p_mes (List.mem_of_getElem? (i := 69) (by decide +kernel)) (by decide +kernel)
theorem ts_70 : Cond.selects "SortWorksModel" ⟨"SortWorksModel", "goOver", "(I)V"⟩ ⟨"SortWorksModel", "goOver", "(I)V"⟩ ∈ sw_gw := p_mes (List.mem_of_getElem? (i := 70) (by decide +kernel)) (by decide +kernel)
theorem ts_71 : Cond.selects "SortWorksModel" ⟨"SortWorksModel", "both", "(I)I"⟩ ⟨"SortWorksModel", "both", "(I)I"⟩ ∈ sw_gw := p_mes (List.mem_of_getElem? (i := 71) (by decide +kernel)) (by decide +kernel)
theorem ts_72 : Cond.selects "SortWorksModel" ⟨"SortWorksModel", "goOverGear", "(I)V"⟩ ⟨"SortWorksModel", "goOverGear", "(I)V"⟩ ∈ sw_gw := p_mes (List.mem_of_getElem? (i := 72) (by decide +kernel)) (by decide +kernel)
theorem ts_73 : Cond.selects "SortWorksModel" ⟨"SortWorksModel", "goOverParcels", "()V"⟩ ⟨"SortWorksModel", "goOverParcels", "()V"⟩ ∈ sw_gw := p_mes (List.mem_of_getElem? (i := 73) (by decide +kernel)) (by decide +kernel)
theorem ts_74 : Cond.selects "SortWorksModel" ⟨"SortWorksModel", "doPlans", "()V"⟩ ⟨"SortWorksModel", "doPlans", "()V"⟩ ∈ sw_gw := p_mes (List.mem_of_getElem? (i := 74) (by decide +kernel)) (by decide +kernel)
theorem ts_75 : Cond.selects "SortWorksModel" ⟨"SortWorksModel", "planFault", "(I)I"⟩ ⟨"SortWorksModel", "planFault", "(I)I"⟩ ∈ sw_gw := p_mes (List.mem_of_getElem? (i := 75) (by decide +kernel)) (by decide +kernel)
theorem ts_76 : Cond.selects "SortWorksModel" ⟨"SortWorksModel", "find", "(III)V"⟩ ⟨"SortWorksModel", "find", "(III)V"⟩ ∈ sw_gw := p_mes (List.mem_of_getElem? (i := 76) (by decide +kernel)) (by decide +kernel)
theorem ts_77 : Cond.selects "SortWorksModel" ⟨"SortWorksModel", "choose", "()V"⟩ ⟨"SortWorksModel", "choose", "()V"⟩ ∈ sw_gw := p_mes (List.mem_of_getElem? (i := 77) (by decide +kernel)) (by decide +kernel)
theorem ts_78 : Cond.selects "SortWorksModel" ⟨"SortWorksModel", "chosenBy", "(I)I"⟩ ⟨"SortWorksModel", "chosenBy", "(I)I"⟩ ∈ sw_gw := p_mes (List.mem_of_getElem? (i := 78) (by decide +kernel)) (by decide +kernel)
theorem ts_79 : Cond.selects "SortWorksModel" ⟨"SortWorksModel", "isActing", "(I)Z"⟩ ⟨"SortWorksModel", "isActing", "(I)Z"⟩ ∈ sw_gw := p_mes (List.mem_of_getElem? (i := 79) (by decide +kernel)) (by decide +kernel)
theorem ts_80 : Cond.selects "SortWorksModel" ⟨"SortWorksModel", "linkAt", "(I)I"⟩ ⟨"SortWorksModel", "linkAt", "(I)I"⟩ ∈ sw_gw := p_mes (List.mem_of_getElem? (i := 80) (by decide +kernel)) (by decide +kernel)
theorem ts_81 : Cond.selects "SortWorksModel" ⟨"SortWorksModel", "leads", "(III)Z"⟩ ⟨"SortWorksModel", "leads", "(III)Z"⟩ ∈ sw_gw := p_mes (List.mem_of_getElem? (i := 81) (by decide +kernel)) (by decide +kernel)
theorem ts_82 : Cond.selects "SortWorksModel" ⟨"SortWorksModel", "follow", "(II)I"⟩ ⟨"SortWorksModel", "follow", "(II)I"⟩ ∈ sw_gw := p_mes (List.mem_of_getElem? (i := 82) (by decide +kernel)) (by decide +kernel)
theorem ts_83 : Cond.selects "SortWorksModel" ⟨"SortWorksModel", "act", "(I)V"⟩ ⟨"SortWorksModel", "act", "(I)V"⟩ ∈ sw_gw := p_mes (List.mem_of_getElem? (i := 83) (by decide +kernel)) (by decide +kernel)
theorem ts_84 : Cond.selects "SortWorksModel" ⟨"SortWorksModel", "body", "(I)V"⟩ ⟨"SortWorksModel", "body", "(I)V"⟩ ∈ sw_gw := p_mes (List.mem_of_getElem? (i := 84) (by decide +kernel)) (by decide +kernel)
theorem ts_85 : Cond.selects "SortWorksModel" ⟨"SortWorksModel", "actPanel", "(I)V"⟩ ⟨"SortWorksModel", "actPanel", "(I)V"⟩ ∈ sw_gw := p_mes (List.mem_of_getElem? (i := 85) (by decide +kernel)) (by decide +kernel)
theorem ts_86 : Cond.selects "SortWorksModel" ⟨"SortWorksModel", "actTaker", "(I)V"⟩ ⟨"SortWorksModel", "actTaker", "(I)V"⟩ ∈ sw_gw := p_mes (List.mem_of_getElem? (i := 86) (by decide +kernel)) (by decide +kernel)
theorem ts_87 : Cond.selects "SortWorksModel" ⟨"SortWorksModel", "bodies", "(I)V"⟩ ⟨"SortWorksModel", "bodies", "(I)V"⟩ ∈ sw_gw := p_mes (List.mem_of_getElem? (i := 87) (by decide +kernel)) (by decide +kernel)
theorem ts_88 : Cond.selects "SortWorksModel" ⟨"SortWorksModel", "scans", "(II)Z"⟩ ⟨"SortWorksModel", "scans", "(II)Z"⟩ ∈ sw_gw := p_mes (List.mem_of_getElem? (i := 88) (by decide +kernel)) (by decide +kernel)
theorem ts_89 : Cond.selects "SortWorksModel" ⟨"SortWorksModel", "reads", "(I)Z"⟩ ⟨"SortWorksModel", "reads", "(I)Z"⟩ ∈ sw_gw := p_mes (List.mem_of_getElem? (i := 89) (by decide +kernel)) (by decide +kernel)
theorem ts_90 : Cond.selects "SortWorksModel" ⟨"SortWorksModel", "asked", "(II)I"⟩ ⟨"SortWorksModel", "asked", "(II)I"⟩ ∈ sw_gw := p_mes (List.mem_of_getElem? (i := 90) (by decide +kernel)) (by decide +kernel)
theorem ts_91 : Cond.selects "SortWorksModel" ⟨"SortWorksModel", "holds", "(I)Z"⟩ ⟨"SortWorksModel", "holds", "(I)Z"⟩ ∈ sw_gw := p_mes (List.mem_of_getElem? (i := 91) (by decide +kernel)) (by decide +kernel)
theorem ts_92 : Cond.selects "SortWorksModel" ⟨"SortWorksModel", "quotientOf", "(I)I"⟩ ⟨"SortWorksModel", "quotientOf", "(I)I"⟩ ∈ sw_gw := p_mes (List.mem_of_getElem? (i := 92) (by decide +kernel)) (by decide +kernel)
theorem ts_93 : Cond.selects "SortWorksModel" ⟨"SortWorksModel", "bodiesLast", "(I)V"⟩ ⟨"SortWorksModel", "bodiesLast", "(I)V"⟩ ∈ sw_gw := p_mes (List.mem_of_getElem? (i := 93) (by decide +kernel)) (by decide +kernel)
theorem ts_94 : Cond.selects "SortWorksModel" ⟨"SortWorksModel", "givesOut", "(II)Z"⟩ ⟨"SortWorksModel", "givesOut", "(II)Z"⟩ ∈ sw_gw := p_mes (List.mem_of_getElem? (i := 94) (by decide +kernel)) (by decide +kernel)
theorem ts_95 : Cond.selects "SortWorksModel" ⟨"SortWorksModel", "goesOut", "(III)V"⟩ ⟨"SortWorksModel", "goesOut", "(III)V"⟩ ∈ sw_gw := p_mes (List.mem_of_getElem? (i := 95) (by decide +kernel)) (by decide +kernel)
theorem ts_96 : Cond.selects "SortWorksModel" ⟨"SortWorksModel", "gives", "(II)Z"⟩ ⟨"SortWorksModel", "gives", "(II)Z"⟩ ∈ sw_gw := p_mes (List.mem_of_getElem? (i := 96) (by decide +kernel)) (by decide +kernel)
theorem ts_97 : Cond.selects "SortWorksModel" ⟨"SortWorksModel", "takes", "(III)Z"⟩ ⟨"SortWorksModel", "takes", "(III)Z"⟩ ∈ sw_gw := p_mes (List.mem_of_getElem? (i := 97) (by decide +kernel)) (by decide +kernel)
theorem ts_98 : Cond.selects "SortWorksModel" ⟨"SortWorksModel", "wants", "(II)I"⟩ ⟨"SortWorksModel", "wants", "(II)I"⟩ ∈ sw_gw := p_mes (List.mem_of_getElem? (i := 98) (by decide +kernel)) (by decide +kernel)
theorem ts_99 : Cond.selects "SortWorksModel" ⟨"SortWorksModel", "spoils", "(II)V"⟩ ⟨"SortWorksModel", "spoils", "(II)V"⟩ ∈ sw_gw := p_mes (List.mem_of_getElem? (i := 99) (by decide +kernel)) (by decide +kernel)
theorem ts_100 : Cond.selects "SortWorksModel" ⟨"SortWorksModel", "toldMore", "(II)I"⟩ ⟨"SortWorksModel", "toldMore", "(II)I"⟩ ∈ sw_gw := p_mes (List.mem_of_getElem? (i := 100) (by decide +kernel)) (by decide +kernel)
theorem ts_101 : Cond.selects "SortWorksModel" ⟨"SortWorksModel", "says", "(I)V"⟩ ⟨"SortWorksModel", "says", "(I)V"⟩ ∈ sw_gw := p_mes (List.mem_of_getElem? (i := 101) (by decide +kernel)) (by decide +kernel)
theorem ts_102 : Cond.selects "SortWorksModel" ⟨"SortWorksModel", "saysNumber", "(I)V"⟩ ⟨"SortWorksModel", "saysNumber", "(I)V"⟩ ∈ sw_gw := p_mes (List.mem_of_getElem? (i := 102) (by decide +kernel)) (by decide +kernel)
theorem ts_103 : Cond.selects "SortWorksModel" ⟨"SortWorksModel", "spread", "(I)V"⟩ ⟨"SortWorksModel", "spread", "(I)V"⟩ ∈ sw_gw := p_mes (List.mem_of_getElem? (i := 103) (by decide +kernel)) (by decide +kernel)
theorem ts_104 : Cond.selects "SortWorksModel" ⟨"SortWorksModel", "ahead", "(II)V"⟩ ⟨"SortWorksModel", "ahead", "(II)V"⟩ ∈ sw_gw := p_mes (List.mem_of_getElem? (i := 104) (by decide +kernel)) (by decide +kernel)
theorem ts_105 : Cond.selects "SortWorksModel" ⟨"SortWorksModel", "adds", "(I)V"⟩ ⟨"SortWorksModel", "adds", "(I)V"⟩ ∈ sw_gw := p_mes (List.mem_of_getElem? (i := 105) (by decide +kernel)) (by decide +kernel)
theorem iw_0 : ∀ w ∈ u_ws RX0 TX0 19, w ∈ sw_gw := by decide +kernel
theorem cl_0 : p_Cl 0 (RX0, TX0, 19) := ⟨rfl, iw_0, tyX0_ok, nmX0, tw_1_64, tw_1_5, by decide +kernel⟩
theorem iw_1 : ∀ w ∈ u_ws RX1 TX1 4, w ∈ sw_gw := by decide +kernel
theorem cl_1 : p_Cl 1 (RX1, TX1, 4) := ⟨rfl, iw_1, tyX1_ok, nmX1, tw_2_237, tw_1_11, by decide +kernel⟩
theorem iw_2 : ∀ w ∈ u_ws RX2 TX2 4, w ∈ sw_gw := by decide +kernel
theorem cl_2 : p_Cl 2 (RX2, TX2, 4) := ⟨rfl, iw_2, tyX2_ok, nmX2, tw_1_43, tw_1_4, by decide +kernel⟩
theorem iw_3 : ∀ w ∈ u_ws RX3 TX3 2, w ∈ sw_gw := by decide +kernel
theorem cl_3 : p_Cl 3 (RX3, TX3, 2) := ⟨rfl, iw_3, tyX3_ok, nmX3, tw_2_173, tw_1_8, by decide +kernel⟩
theorem iw_4 : ∀ w ∈ u_ws RX4 TX4 13, w ∈ sw_gw := by decide +kernel
theorem cl_4 : p_Cl 4 (RX4, TX4, 13) := ⟨rfl, iw_4, tyX4_ok, nmX4, tw_1_161, tw_1_6, by decide +kernel⟩
theorem iw_5 : ∀ w ∈ u_ws RX5 TX5 5, w ∈ sw_gw := by decide +kernel
theorem cl_5 : p_Cl 5 (RX5, TX5, 5) := ⟨rfl, iw_5, tyX5_ok, nmX5, tw_2_195, tw_1_10, by decide +kernel⟩
theorem iw_6 : ∀ w ∈ u_ws RX6 TX6 9, w ∈ sw_gw := by decide +kernel
theorem cl_6 : p_Cl 6 (RX6, TX6, 9) := ⟨rfl, iw_6, tyX6_ok, nmX6, tw_2_43, tw_1_7, by decide +kernel⟩
theorem iw_7 : ∀ w ∈ u_ws RX7 TX7 9, w ∈ sw_gw := by decide +kernel
theorem cl_7 : p_Cl 7 (RX7, TX7, 9) := ⟨rfl, iw_7, tyX7_ok, nmX7, tw_1_33, tw_1_3, by decide +kernel⟩
theorem iw_8 : ∀ w ∈ u_ws RX8 TX8 5, w ∈ sw_gw := by decide +kernel
theorem cl_8 : p_Cl 8 (RX8, TX8, 5) := ⟨rfl, iw_8, tyX8_ok, nmX8, tw_2_189, tw_1_9, by decide +kernel⟩
theorem iw_9 : ∀ w ∈ u_ws RX9 TX9 16, w ∈ sw_gw := by decide +kernel
theorem cl_9 : p_Cl 9 (RX9, TX9, 16) := ⟨rfl, iw_9, tyX9_ok, nmX9, tw_1_27, tw_1_2, by decide +kernel⟩
theorem iw_10 : ∀ w ∈ u_ws RX10 TX10 9, w ∈ sw_gw := by decide +kernel
theorem cl_10 : p_Cl 10 (RX10, TX10, 9) := ⟨rfl, iw_10, tyX10_ok, nmX10, tw_1_18, tw_1_1, by decide +kernel⟩
theorem iw_11 : ∀ w ∈ u_ws RX11 TX11 90, w ∈ sw_gw := by decide +kernel
theorem cl_11 : p_Cl 11 (RX11, TX11, 90) := ⟨rfl, iw_11, tyX11_ok, nmX11, tw_5_237, tw_1_12, by decide +kernel⟩
theorem fl_SW_12 : p_Fl "SortWorks" 12 10 0 (.array (.object "SortWorks$Works")) true := ⟨(RX10, TX10, 9), cl_10, Nat.lt_of_lt_of_le (by decide) (Nat.le_refl _), tw_3_18, rfl, rfl, rfl⟩
theorem fl_SW_18 : p_Fl "SortWorks" 18 10 1 (.object "SortWorks$Works") false := ⟨(RX10, TX10, 9), cl_10, Nat.lt_of_lt_of_le (by decide) (Nat.le_refl _), tw_3_19, rfl, rfl, rfl⟩
theorem fl_SW_25 : p_Fl "SortWorks" 25 10 2 (.object "SortWorks$Numbers") true := ⟨(RX10, TX10, 9), cl_10, Nat.lt_of_lt_of_le (by decide) (Nat.le_refl _), tw_3_20, rfl, rfl, rfl⟩
theorem fl_SW_32 : p_Fl "SortWorks" 32 10 3 (.object "SortWorks$Step") true := ⟨(RX10, TX10, 9), cl_10, Nat.lt_of_lt_of_le (by decide) (Nat.le_refl _), tw_3_21, rfl, rfl, rfl⟩
theorem fl_SW_39 : p_Fl "SortWorks" 39 10 4 (.object "SortWorks$Judge") true := ⟨(RX10, TX10, 9), cl_10, Nat.lt_of_lt_of_le (by decide) (Nat.le_refl _), tw_3_22, rfl, rfl, rfl⟩
theorem fl_SW_43 : p_Fl "SortWorks" 43 10 5 (.array .int) true := ⟨(RX10, TX10, 9), cl_10, Nat.lt_of_lt_of_le (by decide) (Nat.le_refl _), tw_3_23, rfl, rfl, rfl⟩
theorem fl_SW_47 : p_Fl "SortWorks" 47 10 7 .int false := ⟨(RX10, TX10, 9), cl_10, Nat.lt_of_lt_of_le (by decide) (Nat.le_refl _), tw_3_25, rfl, rfl, rfl⟩
theorem fl_SW_51 : p_Fl "SortWorks" 51 10 8 .int false := ⟨(RX10, TX10, 9), cl_10, Nat.lt_of_lt_of_le (by decide) (Nat.le_refl _), tw_3_26, rfl, rfl, rfl⟩
theorem fl_SW_64 : p_Fl "SortWorks" 64 9 0 .int true := ⟨(RX9, TX9, 16), cl_9, Nat.lt_of_lt_of_le (by decide) (Nat.le_refl _), tw_2_101, rfl, rfl, rfl⟩
theorem fl_SW_74 : p_Fl "SortWorks" 74 9 2 .int false := ⟨(RX9, TX9, 16), cl_9, Nat.lt_of_lt_of_le (by decide) (Nat.le_refl _), tw_2_108, rfl, rfl, rfl⟩
theorem fl_SW_77 : p_Fl "SortWorks" 77 9 1 (.object "SortWorks$State") true := ⟨(RX9, TX9, 16), cl_9, Nat.lt_of_lt_of_le (by decide) (Nat.le_refl _), tw_2_105, rfl, rfl, rfl⟩
theorem fl_SW_81 : p_Fl "SortWorks" 81 7 4 (.array (.object "SortWorks$Gear")) true := ⟨(RX7, TX7, 9), cl_7, Nat.lt_of_lt_of_le (by decide) (Nat.le_refl _), tw_2_9, rfl, rfl, rfl⟩
theorem fl_SW_92 : p_Fl "SortWorks" 92 0 1 .int false := ⟨(RX0, TX0, 19), cl_0, Nat.lt_of_lt_of_le (by decide) (Nat.le_refl _), tw_1_75, rfl, rfl, rfl⟩
theorem fl_SW_102 : p_Fl "SortWorks" 102 0 3 (.array .int) false := ⟨(RX0, TX0, 19), cl_0, Nat.lt_of_lt_of_le (by decide) (Nat.le_refl _), tw_1_82, rfl, rfl, rfl⟩
theorem fl_SW_129 : p_Fl "SortWorks" 129 0 2 .int false := ⟨(RX0, TX0, 19), cl_0, Nat.lt_of_lt_of_le (by decide) (Nat.le_refl _), tw_1_79, rfl, rfl, rfl⟩
theorem fl_SW_136 : p_Fl "SortWorks" 136 0 0 .int false := ⟨(RX0, TX0, 19), cl_0, Nat.lt_of_lt_of_le (by decide) (Nat.le_refl _), tw_1_72, rfl, rfl, rfl⟩
theorem fl_SW_143 : p_Fl "SortWorks" 143 10 6 .int false := ⟨(RX10, TX10, 9), cl_10, Nat.lt_of_lt_of_le (by decide) (Nat.le_refl _), tw_3_24, rfl, rfl, rfl⟩
theorem fl_SW_150 : p_Fl "SortWorks" 150 1 0 (.object "SortWorks$Rules") true := ⟨(RX1, TX1, 4), cl_1, Nat.lt_of_lt_of_le (by decide) (Nat.le_refl _), tw_3_5, rfl, rfl, rfl⟩
theorem fl_SW_158 : p_Fl "SortWorks" 158 9 3 (.object "SortWorks$Rules") true := ⟨(RX9, TX9, 16), cl_9, Nat.lt_of_lt_of_le (by decide) (Nat.le_refl _), tw_2_110, rfl, rfl, rfl⟩
theorem fl_SW_159 : p_Fl "SortWorks" 159 6 0 .int false := ⟨(RX6, TX6, 9), cl_6, Nat.lt_of_lt_of_le (by decide) (Nat.le_refl _), tw_2_50, rfl, rfl, rfl⟩
theorem fl_SW_164 : p_Fl "SortWorks" 164 9 6 .int false := ⟨(RX9, TX9, 16), cl_9, Nat.lt_of_lt_of_le (by decide) (Nat.le_refl _), tw_2_120, rfl, rfl, rfl⟩
theorem fl_SW_167 : p_Fl "SortWorks" 167 9 4 (.array (.array .int)) true := ⟨(RX9, TX9, 16), cl_9, Nat.lt_of_lt_of_le (by decide) (Nat.le_refl _), tw_2_114, rfl, rfl, rfl⟩
theorem fl_SW_171 : p_Fl "SortWorks" 171 9 5 (.array .int) true := ⟨(RX9, TX9, 16), cl_9, Nat.lt_of_lt_of_le (by decide) (Nat.le_refl _), tw_2_117, rfl, rfl, rfl⟩
theorem fl_SW_188 : p_Fl "SortWorks" 188 4 1 .int false := ⟨(RX4, TX4, 13), cl_4, Nat.lt_of_lt_of_le (by decide) (Nat.le_refl _), tw_1_172, rfl, rfl, rfl⟩
theorem fl_SW_194 : p_Fl "SortWorks" 194 3 1 .int false := ⟨(RX3, TX3, 2), cl_3, Nat.lt_of_lt_of_le (by decide) (Nat.le_refl _), tw_2_182, rfl, rfl, rfl⟩
theorem fl_SW_204 : p_Fl "SortWorks" 204 4 12 (.array .int) true := ⟨(RX4, TX4, 13), cl_4, Nat.lt_of_lt_of_le (by decide) (Nat.le_refl _), tw_1_207, rfl, rfl, rfl⟩
theorem fl_SW_207 : p_Fl "SortWorks" 207 4 11 .int false := ⟨(RX4, TX4, 13), cl_4, Nat.lt_of_lt_of_le (by decide) (Nat.le_refl _), tw_1_204, rfl, rfl, rfl⟩
theorem fl_SW_214 : p_Fl "SortWorks" 214 0 7 .boolean false := ⟨(RX0, TX0, 19), cl_0, Nat.lt_of_lt_of_le (by decide) (Nat.le_refl _), tw_1_92, rfl, rfl, rfl⟩
theorem fl_SW_218 : p_Fl "SortWorks" 218 0 6 .int false := ⟨(RX0, TX0, 19), cl_0, Nat.lt_of_lt_of_le (by decide) (Nat.le_refl _), tw_1_89, rfl, rfl, rfl⟩
theorem fl_SW_221 : p_Fl "SortWorks" 221 0 14 .int false := ⟨(RX0, TX0, 19), cl_0, Nat.lt_of_lt_of_le (by decide) (Nat.le_refl _), tw_1_112, rfl, rfl, rfl⟩
theorem fl_SW_238 : p_Fl "SortWorks" 238 4 4 .int false := ⟨(RX4, TX4, 13), cl_4, Nat.lt_of_lt_of_le (by decide) (Nat.le_refl _), tw_1_184, rfl, rfl, rfl⟩
theorem fl_SW_241 : p_Fl "SortWorks" 241 0 8 .int false := ⟨(RX0, TX0, 19), cl_0, Nat.lt_of_lt_of_le (by decide) (Nat.le_refl _), tw_1_95, rfl, rfl, rfl⟩
theorem fl_SW_247 : p_Fl "SortWorks" 247 4 5 .int false := ⟨(RX4, TX4, 13), cl_4, Nat.lt_of_lt_of_le (by decide) (Nat.le_refl _), tw_1_187, rfl, rfl, rfl⟩
theorem fl_SW_252 : p_Fl "SortWorks" 252 9 8 (.array .int) true := ⟨(RX9, TX9, 16), cl_9, Nat.lt_of_lt_of_le (by decide) (Nat.le_refl _), tw_2_124, rfl, rfl, rfl⟩
theorem fl_SW_255 : p_Fl "SortWorks" 255 9 9 (.array .int) true := ⟨(RX9, TX9, 16), cl_9, Nat.lt_of_lt_of_le (by decide) (Nat.le_refl _), tw_2_126, rfl, rfl, rfl⟩
theorem fl_SW_258 : p_Fl "SortWorks" 258 9 7 (.array (.array .int)) true := ⟨(RX9, TX9, 16), cl_9, Nat.lt_of_lt_of_le (by decide) (Nat.le_refl _), tw_2_122, rfl, rfl, rfl⟩
theorem fl_SW_264 : p_Fl "SortWorks" 264 0 10 .int false := ⟨(RX0, TX0, 19), cl_0, Nat.lt_of_lt_of_le (by decide) (Nat.le_refl _), tw_1_101, rfl, rfl, rfl⟩
theorem fl_SW_267 : p_Fl "SortWorks" 267 0 11 .int false := ⟨(RX0, TX0, 19), cl_0, Nat.lt_of_lt_of_le (by decide) (Nat.le_refl _), tw_1_105, rfl, rfl, rfl⟩
theorem fl_SW_274 : p_Fl "SortWorks" 274 7 0 .int false := ⟨(RX7, TX7, 9), cl_7, Nat.lt_of_lt_of_le (by decide) (Nat.le_refl _), tw_1_237, rfl, rfl, rfl⟩
theorem fl_SW_288 : p_Fl "SortWorks" 288 9 14 .int false := ⟨(RX9, TX9, 16), cl_9, Nat.lt_of_lt_of_le (by decide) (Nat.le_refl _), tw_2_136, rfl, rfl, rfl⟩
theorem fl_SW_306 : p_Fl "SortWorks" 306 4 9 .int false := ⟨(RX4, TX4, 13), cl_4, Nat.lt_of_lt_of_le (by decide) (Nat.le_refl _), tw_1_197, rfl, rfl, rfl⟩
theorem fl_SW_309 : p_Fl "SortWorks" 309 4 10 (.array .int) true := ⟨(RX4, TX4, 13), cl_4, Nat.lt_of_lt_of_le (by decide) (Nat.le_refl _), tw_1_200, rfl, rfl, rfl⟩
theorem fl_SW_312 : p_Fl "SortWorks" 312 3 0 (.array .int) true := ⟨(RX3, TX3, 2), cl_3, Nat.lt_of_lt_of_le (by decide) (Nat.le_refl _), tw_2_179, rfl, rfl, rfl⟩
theorem fl_SW_315 : p_Fl "SortWorks" 315 7 8 (.object "SortWorks$Log") true := ⟨(RX7, TX7, 9), cl_7, Nat.lt_of_lt_of_le (by decide) (Nat.le_refl _), tw_2_22, rfl, rfl, rfl⟩
theorem fl_SW_324 : p_Fl "SortWorks" 324 6 1 (.array .int) true := ⟨(RX6, TX6, 9), cl_6, Nat.lt_of_lt_of_le (by decide) (Nat.le_refl _), tw_2_55, rfl, rfl, rfl⟩
theorem fl_SW_327 : p_Fl "SortWorks" 327 6 2 (.array .int) true := ⟨(RX6, TX6, 9), cl_6, Nat.lt_of_lt_of_le (by decide) (Nat.le_refl _), tw_2_59, rfl, rfl, rfl⟩
theorem fl_SW_330 : p_Fl "SortWorks" 330 7 6 (.array .int) true := ⟨(RX7, TX7, 9), cl_7, Nat.lt_of_lt_of_le (by decide) (Nat.le_refl _), tw_2_16, rfl, rfl, rfl⟩
theorem fl_SW_333 : p_Fl "SortWorks" 333 6 8 .int false := ⟨(RX6, TX6, 9), cl_6, Nat.lt_of_lt_of_le (by decide) (Nat.le_refl _), tw_2_77, rfl, rfl, rfl⟩
theorem fl_SW_336 : p_Fl "SortWorks" 336 6 7 (.array .int) true := ⟨(RX6, TX6, 9), cl_6, Nat.lt_of_lt_of_le (by decide) (Nat.le_refl _), tw_2_74, rfl, rfl, rfl⟩
theorem fl_SW_339 : p_Fl "SortWorks" 339 7 7 (.object "SortWorks$Log") true := ⟨(RX7, TX7, 9), cl_7, Nat.lt_of_lt_of_le (by decide) (Nat.le_refl _), tw_2_19, rfl, rfl, rfl⟩
theorem fl_SW_342 : p_Fl "SortWorks" 342 9 11 .int false := ⟨(RX9, TX9, 16), cl_9, Nat.lt_of_lt_of_le (by decide) (Nat.le_refl _), tw_2_132, rfl, rfl, rfl⟩
theorem fl_SW_345 : p_Fl "SortWorks" 345 9 10 (.array .int) true := ⟨(RX9, TX9, 16), cl_9, Nat.lt_of_lt_of_le (by decide) (Nat.le_refl _), tw_2_129, rfl, rfl, rfl⟩
theorem fl_SW_354 : p_Fl "SortWorks" 354 9 15 (.array .int) true := ⟨(RX9, TX9, 16), cl_9, Nat.lt_of_lt_of_le (by decide) (Nat.le_refl _), tw_2_138, rfl, rfl, rfl⟩
theorem fl_SW_358 : p_Fl "SortWorks" 358 7 2 .int false := ⟨(RX7, TX7, 9), cl_7, Nat.lt_of_lt_of_le (by decide) (Nat.le_refl _), tw_2_2, rfl, rfl, rfl⟩
theorem fl_SW_361 : p_Fl "SortWorks" 361 7 1 .int false := ⟨(RX7, TX7, 9), cl_7, Nat.lt_of_lt_of_le (by decide) (Nat.le_refl _), tw_1_239, rfl, rfl, rfl⟩
theorem fl_SW_362 : p_Fl "SortWorks" 362 2 3 .int false := ⟨(RX2, TX2, 4), cl_2, Nat.lt_of_lt_of_le (by decide) (Nat.le_refl _), tw_1_53, rfl, rfl, rfl⟩
theorem fl_SW_375 : p_Fl "SortWorks" 375 4 2 .int false := ⟨(RX4, TX4, 13), cl_4, Nat.lt_of_lt_of_le (by decide) (Nat.le_refl _), tw_1_177, rfl, rfl, rfl⟩
theorem fl_SW_378 : p_Fl "SortWorks" 378 4 3 .int false := ⟨(RX4, TX4, 13), cl_4, Nat.lt_of_lt_of_le (by decide) (Nat.le_refl _), tw_1_180, rfl, rfl, rfl⟩
theorem fl_Gear_9 : p_Fl "SortWorks$Gear" 9 0 15 .int false := ⟨(RX0, TX0, 19), cl_0, Nat.lt_of_lt_of_le (by decide) (Nat.le_refl _), tw_1_113, rfl, rfl, rfl⟩
theorem fl_Gear_15 : p_Fl "SortWorks$Gear" 15 0 17 (.array .int) true := ⟨(RX0, TX0, 19), cl_0, Nat.lt_of_lt_of_le (by decide) (Nat.le_refl _), tw_1_117, rfl, rfl, rfl⟩
theorem fl_Gear_19 : p_Fl "SortWorks$Gear" 19 0 18 .int false := ⟨(RX0, TX0, 19), cl_0, Nat.lt_of_lt_of_le (by decide) (Nat.le_refl _), tw_1_120, rfl, rfl, rfl⟩
theorem fl_Gear_22 : p_Fl "SortWorks$Gear" 22 0 0 .int false := ⟨(RX0, TX0, 19), cl_0, Nat.lt_of_lt_of_le (by decide) (Nat.le_refl _), tw_1_69, rfl, rfl, rfl⟩
theorem fl_Gear_28 : p_Fl "SortWorks$Gear" 28 0 2 .int false := ⟨(RX0, TX0, 19), cl_0, Nat.lt_of_lt_of_le (by decide) (Nat.le_refl _), tw_1_78, rfl, rfl, rfl⟩
theorem fl_Gear_31 : p_Fl "SortWorks$Gear" 31 0 4 .long false := ⟨(RX0, TX0, 19), cl_0, Nat.lt_of_lt_of_le (by decide) (Nat.le_refl _), tw_1_85, rfl, rfl, rfl⟩
theorem fl_Gear_35 : p_Fl "SortWorks$Gear" 35 0 5 .long false := ⟨(RX0, TX0, 19), cl_0, Nat.lt_of_lt_of_le (by decide) (Nat.le_refl _), tw_1_86, rfl, rfl, rfl⟩
theorem fl_Gear_38 : p_Fl "SortWorks$Gear" 38 0 6 .int false := ⟨(RX0, TX0, 19), cl_0, Nat.lt_of_lt_of_le (by decide) (Nat.le_refl _), tw_1_87, rfl, rfl, rfl⟩
theorem fl_Gear_41 : p_Fl "SortWorks$Gear" 41 0 7 .boolean false := ⟨(RX0, TX0, 19), cl_0, Nat.lt_of_lt_of_le (by decide) (Nat.le_refl _), tw_1_90, rfl, rfl, rfl⟩
theorem fl_Gear_45 : p_Fl "SortWorks$Gear" 45 0 8 .int false := ⟨(RX0, TX0, 19), cl_0, Nat.lt_of_lt_of_le (by decide) (Nat.le_refl _), tw_1_93, rfl, rfl, rfl⟩
theorem fl_Gear_48 : p_Fl "SortWorks$Gear" 48 0 9 .int false := ⟨(RX0, TX0, 19), cl_0, Nat.lt_of_lt_of_le (by decide) (Nat.le_refl _), tw_1_96, rfl, rfl, rfl⟩
theorem fl_Gear_51 : p_Fl "SortWorks$Gear" 51 0 10 .int false := ⟨(RX0, TX0, 19), cl_0, Nat.lt_of_lt_of_le (by decide) (Nat.le_refl _), tw_1_98, rfl, rfl, rfl⟩
theorem fl_Gear_54 : p_Fl "SortWorks$Gear" 54 0 11 .int false := ⟨(RX0, TX0, 19), cl_0, Nat.lt_of_lt_of_le (by decide) (Nat.le_refl _), tw_1_102, rfl, rfl, rfl⟩
theorem fl_Gear_57 : p_Fl "SortWorks$Gear" 57 0 12 .int false := ⟨(RX0, TX0, 19), cl_0, Nat.lt_of_lt_of_le (by decide) (Nat.le_refl _), tw_1_106, rfl, rfl, rfl⟩
theorem fl_Gear_60 : p_Fl "SortWorks$Gear" 60 0 13 .int false := ⟨(RX0, TX0, 19), cl_0, Nat.lt_of_lt_of_le (by decide) (Nat.le_refl _), tw_1_108, rfl, rfl, rfl⟩
theorem fl_Gear_63 : p_Fl "SortWorks$Gear" 63 0 14 .int false := ⟨(RX0, TX0, 19), cl_0, Nat.lt_of_lt_of_le (by decide) (Nat.le_refl _), tw_1_110, rfl, rfl, rfl⟩
theorem fl_Gear_66 : p_Fl "SortWorks$Gear" 66 0 16 .int false := ⟨(RX0, TX0, 19), cl_0, Nat.lt_of_lt_of_le (by decide) (Nat.le_refl _), tw_1_115, rfl, rfl, rfl⟩
theorem fl_Gear_73 : p_Fl "SortWorks$Gear" 73 0 1 .int false := ⟨(RX0, TX0, 19), cl_0, Nat.lt_of_lt_of_le (by decide) (Nat.le_refl _), tw_1_73, rfl, rfl, rfl⟩
theorem fl_Gear_76 : p_Fl "SortWorks$Gear" 76 0 3 (.array .int) false := ⟨(RX0, TX0, 19), cl_0, Nat.lt_of_lt_of_le (by decide) (Nat.le_refl _), tw_1_81, rfl, rfl, rfl⟩
theorem fl_Judge_12 : p_Fl "SortWorks$Judge" 12 1 0 (.object "SortWorks$Rules") true := ⟨(RX1, TX1, 4), cl_1, Nat.lt_of_lt_of_le (by decide) (Nat.le_refl _), tw_3_4, rfl, rfl, rfl⟩
theorem fl_Judge_18 : p_Fl "SortWorks$Judge" 18 1 1 (.array .int) false := ⟨(RX1, TX1, 4), cl_1, Nat.lt_of_lt_of_le (by decide) (Nat.le_refl _), tw_3_6, rfl, rfl, rfl⟩
theorem fl_Judge_22 : p_Fl "SortWorks$Judge" 22 1 2 .int false := ⟨(RX1, TX1, 4), cl_1, Nat.lt_of_lt_of_le (by decide) (Nat.le_refl _), tw_3_7, rfl, rfl, rfl⟩
theorem fl_Judge_26 : p_Fl "SortWorks$Judge" 26 1 3 .int false := ⟨(RX1, TX1, 4), cl_1, Nat.lt_of_lt_of_le (by decide) (Nat.le_refl _), tw_3_8, rfl, rfl, rfl⟩
theorem fl_Judge_29 : p_Fl "SortWorks$Judge" 29 6 8 .int false := ⟨(RX6, TX6, 9), cl_6, Nat.lt_of_lt_of_le (by decide) (Nat.le_refl _), tw_2_75, rfl, rfl, rfl⟩
theorem fl_Judge_36 : p_Fl "SortWorks$Judge" 36 6 0 .int false := ⟨(RX6, TX6, 9), cl_6, Nat.lt_of_lt_of_le (by decide) (Nat.le_refl _), tw_2_49, rfl, rfl, rfl⟩
theorem fl_Judge_39 : p_Fl "SortWorks$Judge" 39 6 2 (.array .int) true := ⟨(RX6, TX6, 9), cl_6, Nat.lt_of_lt_of_le (by decide) (Nat.le_refl _), tw_2_57, rfl, rfl, rfl⟩
theorem fl_Judge_58 : p_Fl "SortWorks$Judge" 58 6 3 (.array .int) true := ⟨(RX6, TX6, 9), cl_6, Nat.lt_of_lt_of_le (by decide) (Nat.le_refl _), tw_2_61, rfl, rfl, rfl⟩
theorem fl_Judge_61 : p_Fl "SortWorks$Judge" 61 6 4 (.array .int) true := ⟨(RX6, TX6, 9), cl_6, Nat.lt_of_lt_of_le (by decide) (Nat.le_refl _), tw_2_64, rfl, rfl, rfl⟩
theorem fl_Judge_67 : p_Fl "SortWorks$Judge" 67 6 5 (.array .int) true := ⟨(RX6, TX6, 9), cl_6, Nat.lt_of_lt_of_le (by decide) (Nat.le_refl _), tw_2_67, rfl, rfl, rfl⟩
theorem fl_Judge_70 : p_Fl "SortWorks$Judge" 70 6 6 (.array .int) true := ⟨(RX6, TX6, 9), cl_6, Nat.lt_of_lt_of_le (by decide) (Nat.le_refl _), tw_2_70, rfl, rfl, rfl⟩
theorem fl_Judge_73 : p_Fl "SortWorks$Judge" 73 6 1 (.array .int) true := ⟨(RX6, TX6, 9), cl_6, Nat.lt_of_lt_of_le (by decide) (Nat.le_refl _), tw_2_53, rfl, rfl, rfl⟩
theorem fl_Judge_76 : p_Fl "SortWorks$Judge" 76 6 7 (.array .int) true := ⟨(RX6, TX6, 9), cl_6, Nat.lt_of_lt_of_le (by decide) (Nat.le_refl _), tw_2_73, rfl, rfl, rfl⟩
theorem fl_Log_9 : p_Fl "SortWorks$Log" 9 2 0 .int true := ⟨(RX2, TX2, 4), cl_2, Nat.lt_of_lt_of_le (by decide) (Nat.le_refl _), tw_1_48, rfl, rfl, rfl⟩
theorem fl_Log_15 : p_Fl "SortWorks$Log" 15 2 1 .int true := ⟨(RX2, TX2, 4), cl_2, Nat.lt_of_lt_of_le (by decide) (Nat.le_refl _), tw_1_49, rfl, rfl, rfl⟩
theorem fl_Log_18 : p_Fl "SortWorks$Log" 18 2 2 (.array .int) true := ⟨(RX2, TX2, 4), cl_2, Nat.lt_of_lt_of_le (by decide) (Nat.le_refl _), tw_1_50, rfl, rfl, rfl⟩
theorem fl_Log_22 : p_Fl "SortWorks$Log" 22 2 3 .int false := ⟨(RX2, TX2, 4), cl_2, Nat.lt_of_lt_of_le (by decide) (Nat.le_refl _), tw_1_51, rfl, rfl, rfl⟩
theorem fl_Numbers_9 : p_Fl "SortWorks$Numbers" 9 3 0 (.array .int) true := ⟨(RX3, TX3, 2), cl_3, Nat.lt_of_lt_of_le (by decide) (Nat.le_refl _), tw_2_178, rfl, rfl, rfl⟩
theorem fl_Numbers_15 : p_Fl "SortWorks$Numbers" 15 3 1 .int false := ⟨(RX3, TX3, 2), cl_3, Nat.lt_of_lt_of_le (by decide) (Nat.le_refl _), tw_2_180, rfl, rfl, rfl⟩
theorem fl_Numbers_23 : p_Fl "SortWorks$Numbers" 23 7 3 .int false := ⟨(RX7, TX7, 9), cl_7, Nat.lt_of_lt_of_le (by decide) (Nat.le_refl _), tw_2_4, rfl, rfl, rfl⟩
theorem fl_Numbers_26 : p_Fl "SortWorks$Numbers" 26 7 5 (.array (.object "SortWorks$Parcel")) true := ⟨(RX7, TX7, 9), cl_7, Nat.lt_of_lt_of_le (by decide) (Nat.le_refl _), tw_2_12, rfl, rfl, rfl⟩
theorem fl_Numbers_30 : p_Fl "SortWorks$Numbers" 30 4 1 .int false := ⟨(RX4, TX4, 13), cl_4, Nat.lt_of_lt_of_le (by decide) (Nat.le_refl _), tw_1_171, rfl, rfl, rfl⟩
theorem fl_Parcel_9 : p_Fl "SortWorks$Parcel" 9 4 10 (.array .int) true := ⟨(RX4, TX4, 13), cl_4, Nat.lt_of_lt_of_le (by decide) (Nat.le_refl _), tw_1_198, rfl, rfl, rfl⟩
theorem fl_Parcel_15 : p_Fl "SortWorks$Parcel" 15 4 12 (.array .int) true := ⟨(RX4, TX4, 13), cl_4, Nat.lt_of_lt_of_le (by decide) (Nat.le_refl _), tw_1_205, rfl, rfl, rfl⟩
theorem fl_Parcel_18 : p_Fl "SortWorks$Parcel" 18 4 0 .int true := ⟨(RX4, TX4, 13), cl_4, Nat.lt_of_lt_of_le (by decide) (Nat.le_refl _), tw_1_166, rfl, rfl, rfl⟩
theorem fl_Parcel_22 : p_Fl "SortWorks$Parcel" 22 4 1 .int false := ⟨(RX4, TX4, 13), cl_4, Nat.lt_of_lt_of_le (by decide) (Nat.le_refl _), tw_1_169, rfl, rfl, rfl⟩
theorem fl_Parcel_25 : p_Fl "SortWorks$Parcel" 25 4 2 .int false := ⟨(RX4, TX4, 13), cl_4, Nat.lt_of_lt_of_le (by decide) (Nat.le_refl _), tw_1_174, rfl, rfl, rfl⟩
theorem fl_Parcel_28 : p_Fl "SortWorks$Parcel" 28 4 3 .int false := ⟨(RX4, TX4, 13), cl_4, Nat.lt_of_lt_of_le (by decide) (Nat.le_refl _), tw_1_178, rfl, rfl, rfl⟩
theorem fl_Parcel_31 : p_Fl "SortWorks$Parcel" 31 4 4 .int false := ⟨(RX4, TX4, 13), cl_4, Nat.lt_of_lt_of_le (by decide) (Nat.le_refl _), tw_1_181, rfl, rfl, rfl⟩
theorem fl_Parcel_34 : p_Fl "SortWorks$Parcel" 34 4 5 .int false := ⟨(RX4, TX4, 13), cl_4, Nat.lt_of_lt_of_le (by decide) (Nat.le_refl _), tw_1_185, rfl, rfl, rfl⟩
theorem fl_Parcel_37 : p_Fl "SortWorks$Parcel" 37 4 6 .int false := ⟨(RX4, TX4, 13), cl_4, Nat.lt_of_lt_of_le (by decide) (Nat.le_refl _), tw_1_188, rfl, rfl, rfl⟩
theorem fl_Parcel_40 : p_Fl "SortWorks$Parcel" 40 4 7 .boolean false := ⟨(RX4, TX4, 13), cl_4, Nat.lt_of_lt_of_le (by decide) (Nat.le_refl _), tw_1_191, rfl, rfl, rfl⟩
theorem fl_Parcel_44 : p_Fl "SortWorks$Parcel" 44 4 9 .int false := ⟨(RX4, TX4, 13), cl_4, Nat.lt_of_lt_of_le (by decide) (Nat.le_refl _), tw_1_195, rfl, rfl, rfl⟩
theorem fl_Parcel_53 : p_Fl "SortWorks$Parcel" 53 4 11 .int false := ⟨(RX4, TX4, 13), cl_4, Nat.lt_of_lt_of_le (by decide) (Nat.le_refl _), tw_1_202, rfl, rfl, rfl⟩
theorem fl_Reading_9 : p_Fl "SortWorks$Reading" 9 5 4 (.array .int) true := ⟨(RX5, TX5, 5), cl_5, Nat.lt_of_lt_of_le (by decide) (Nat.le_refl _), tw_2_208, rfl, rfl, rfl⟩
theorem fl_Reading_15 : p_Fl "SortWorks$Reading" 15 4 11 .int false := ⟨(RX4, TX4, 13), cl_4, Nat.lt_of_lt_of_le (by decide) (Nat.le_refl _), tw_1_201, rfl, rfl, rfl⟩
theorem fl_Reading_21 : p_Fl "SortWorks$Reading" 21 4 12 (.array .int) true := ⟨(RX4, TX4, 13), cl_4, Nat.lt_of_lt_of_le (by decide) (Nat.le_refl _), tw_1_206, rfl, rfl, rfl⟩
theorem fl_Reading_31 : p_Fl "SortWorks$Reading" 31 5 0 .boolean false := ⟨(RX5, TX5, 5), cl_5, Nat.lt_of_lt_of_le (by decide) (Nat.le_refl _), tw_2_200, rfl, rfl, rfl⟩
theorem fl_Reading_35 : p_Fl "SortWorks$Reading" 35 5 1 .int false := ⟨(RX5, TX5, 5), cl_5, Nat.lt_of_lt_of_le (by decide) (Nat.le_refl _), tw_2_202, rfl, rfl, rfl⟩
theorem fl_Reading_38 : p_Fl "SortWorks$Reading" 38 5 2 .int false := ⟨(RX5, TX5, 5), cl_5, Nat.lt_of_lt_of_le (by decide) (Nat.le_refl _), tw_2_204, rfl, rfl, rfl⟩
theorem fl_Reading_41 : p_Fl "SortWorks$Reading" 41 5 3 .int false := ⟨(RX5, TX5, 5), cl_5, Nat.lt_of_lt_of_le (by decide) (Nat.le_refl _), tw_2_206, rfl, rfl, rfl⟩
theorem fl_Rules_9 : p_Fl "SortWorks$Rules" 9 6 1 (.array .int) true := ⟨(RX6, TX6, 9), cl_6, Nat.lt_of_lt_of_le (by decide) (Nat.le_refl _), tw_2_52, rfl, rfl, rfl⟩
theorem fl_Rules_15 : p_Fl "SortWorks$Rules" 15 6 2 (.array .int) true := ⟨(RX6, TX6, 9), cl_6, Nat.lt_of_lt_of_le (by decide) (Nat.le_refl _), tw_2_56, rfl, rfl, rfl⟩
theorem fl_Rules_18 : p_Fl "SortWorks$Rules" 18 6 3 (.array .int) true := ⟨(RX6, TX6, 9), cl_6, Nat.lt_of_lt_of_le (by decide) (Nat.le_refl _), tw_2_60, rfl, rfl, rfl⟩
theorem fl_Rules_21 : p_Fl "SortWorks$Rules" 21 6 4 (.array .int) true := ⟨(RX6, TX6, 9), cl_6, Nat.lt_of_lt_of_le (by decide) (Nat.le_refl _), tw_2_63, rfl, rfl, rfl⟩
theorem fl_Rules_24 : p_Fl "SortWorks$Rules" 24 6 5 (.array .int) true := ⟨(RX6, TX6, 9), cl_6, Nat.lt_of_lt_of_le (by decide) (Nat.le_refl _), tw_2_66, rfl, rfl, rfl⟩
theorem fl_Rules_27 : p_Fl "SortWorks$Rules" 27 6 6 (.array .int) true := ⟨(RX6, TX6, 9), cl_6, Nat.lt_of_lt_of_le (by decide) (Nat.le_refl _), tw_2_69, rfl, rfl, rfl⟩
theorem fl_Rules_30 : p_Fl "SortWorks$Rules" 30 6 7 (.array .int) true := ⟨(RX6, TX6, 9), cl_6, Nat.lt_of_lt_of_le (by decide) (Nat.le_refl _), tw_2_72, rfl, rfl, rfl⟩
theorem fl_Rules_33 : p_Fl "SortWorks$Rules" 33 6 0 .int false := ⟨(RX6, TX6, 9), cl_6, Nat.lt_of_lt_of_le (by decide) (Nat.le_refl _), tw_2_48, rfl, rfl, rfl⟩
theorem fl_Rules_43 : p_Fl "SortWorks$Rules" 43 6 8 .int false := ⟨(RX6, TX6, 9), cl_6, Nat.lt_of_lt_of_le (by decide) (Nat.le_refl _), tw_2_76, rfl, rfl, rfl⟩
theorem fl_State_11 : p_Fl "SortWorks$State" 11 7 4 (.array (.object "SortWorks$Gear")) true := ⟨(RX7, TX7, 9), cl_7, Nat.lt_of_lt_of_le (by decide) (Nat.le_refl _), tw_2_6, rfl, rfl, rfl⟩
theorem fl_State_19 : p_Fl "SortWorks$State" 19 7 5 (.array (.object "SortWorks$Parcel")) true := ⟨(RX7, TX7, 9), cl_7, Nat.lt_of_lt_of_le (by decide) (Nat.le_refl _), tw_2_10, rfl, rfl, rfl⟩
theorem fl_State_23 : p_Fl "SortWorks$State" 23 7 6 (.array .int) true := ⟨(RX7, TX7, 9), cl_7, Nat.lt_of_lt_of_le (by decide) (Nat.le_refl _), tw_2_13, rfl, rfl, rfl⟩
theorem fl_State_32 : p_Fl "SortWorks$State" 32 7 7 (.object "SortWorks$Log") true := ⟨(RX7, TX7, 9), cl_7, Nat.lt_of_lt_of_le (by decide) (Nat.le_refl _), tw_2_17, rfl, rfl, rfl⟩
theorem fl_State_36 : p_Fl "SortWorks$State" 36 7 8 (.object "SortWorks$Log") true := ⟨(RX7, TX7, 9), cl_7, Nat.lt_of_lt_of_le (by decide) (Nat.le_refl _), tw_2_20, rfl, rfl, rfl⟩
theorem fl_State_43 : p_Fl "SortWorks$State" 43 7 0 .int false := ⟨(RX7, TX7, 9), cl_7, Nat.lt_of_lt_of_le (by decide) (Nat.le_refl _), tw_1_235, rfl, rfl, rfl⟩
theorem fl_State_47 : p_Fl "SortWorks$State" 47 7 1 .int false := ⟨(RX7, TX7, 9), cl_7, Nat.lt_of_lt_of_le (by decide) (Nat.le_refl _), tw_1_238, rfl, rfl, rfl⟩
theorem fl_State_50 : p_Fl "SortWorks$State" 50 7 2 .int false := ⟨(RX7, TX7, 9), cl_7, Nat.lt_of_lt_of_le (by decide) (Nat.le_refl _), tw_2_0, rfl, rfl, rfl⟩
theorem fl_State_53 : p_Fl "SortWorks$State" 53 7 3 .int false := ⟨(RX7, TX7, 9), cl_7, Nat.lt_of_lt_of_le (by decide) (Nat.le_refl _), tw_2_3, rfl, rfl, rfl⟩
theorem fl_State_60 : p_Fl "SortWorks$State" 60 4 1 .int false := ⟨(RX4, TX4, 13), cl_4, Nat.lt_of_lt_of_le (by decide) (Nat.le_refl _), tw_1_170, rfl, rfl, rfl⟩
theorem fl_State_75 : p_Fl "SortWorks$State" 75 0 17 (.array .int) true := ⟨(RX0, TX0, 19), cl_0, Nat.lt_of_lt_of_le (by decide) (Nat.le_refl _), tw_1_118, rfl, rfl, rfl⟩
theorem fl_State_78 : p_Fl "SortWorks$State" 78 0 1 .int false := ⟨(RX0, TX0, 19), cl_0, Nat.lt_of_lt_of_le (by decide) (Nat.le_refl _), tw_1_74, rfl, rfl, rfl⟩
theorem fl_State_85 : p_Fl "SortWorks$State" 85 4 2 .int false := ⟨(RX4, TX4, 13), cl_4, Nat.lt_of_lt_of_le (by decide) (Nat.le_refl _), tw_1_175, rfl, rfl, rfl⟩
theorem fl_State_88 : p_Fl "SortWorks$State" 88 4 3 .int false := ⟨(RX4, TX4, 13), cl_4, Nat.lt_of_lt_of_le (by decide) (Nat.le_refl _), tw_1_179, rfl, rfl, rfl⟩
theorem fl_State_91 : p_Fl "SortWorks$State" 91 4 4 .int false := ⟨(RX4, TX4, 13), cl_4, Nat.lt_of_lt_of_le (by decide) (Nat.le_refl _), tw_1_182, rfl, rfl, rfl⟩
theorem fl_State_94 : p_Fl "SortWorks$State" 94 4 9 .int false := ⟨(RX4, TX4, 13), cl_4, Nat.lt_of_lt_of_le (by decide) (Nat.le_refl _), tw_1_196, rfl, rfl, rfl⟩
theorem fl_State_97 : p_Fl "SortWorks$State" 97 4 11 .int false := ⟨(RX4, TX4, 13), cl_4, Nat.lt_of_lt_of_le (by decide) (Nat.le_refl _), tw_1_203, rfl, rfl, rfl⟩
theorem fl_State_107 : p_Fl "SortWorks$State" 107 4 5 .int false := ⟨(RX4, TX4, 13), cl_4, Nat.lt_of_lt_of_le (by decide) (Nat.le_refl _), tw_1_186, rfl, rfl, rfl⟩
theorem fl_State_109 : p_Fl "SortWorks$State" 109 4 6 .int false := ⟨(RX4, TX4, 13), cl_4, Nat.lt_of_lt_of_le (by decide) (Nat.le_refl _), tw_1_189, rfl, rfl, rfl⟩
theorem fl_State_112 : p_Fl "SortWorks$State" 112 0 11 .int false := ⟨(RX0, TX0, 19), cl_0, Nat.lt_of_lt_of_le (by decide) (Nat.le_refl _), tw_1_103, rfl, rfl, rfl⟩
theorem fl_State_115 : p_Fl "SortWorks$State" 115 4 0 .int true := ⟨(RX4, TX4, 13), cl_4, Nat.lt_of_lt_of_le (by decide) (Nat.le_refl _), tw_1_167, rfl, rfl, rfl⟩
theorem fl_State_118 : p_Fl "SortWorks$State" 118 0 10 .int false := ⟨(RX0, TX0, 19), cl_0, Nat.lt_of_lt_of_le (by decide) (Nat.le_refl _), tw_1_99, rfl, rfl, rfl⟩
theorem fl_State_119 : p_Fl "SortWorks$State" 119 4 7 .boolean false := ⟨(RX4, TX4, 13), cl_4, Nat.lt_of_lt_of_le (by decide) (Nat.le_refl _), tw_1_192, rfl, rfl, rfl⟩
theorem fl_State_123 : p_Fl "SortWorks$State" 123 4 10 (.array .int) true := ⟨(RX4, TX4, 13), cl_4, Nat.lt_of_lt_of_le (by decide) (Nat.le_refl _), tw_1_199, rfl, rfl, rfl⟩
theorem fl_Step_12 : p_Fl "SortWorks$Step" 12 8 0 (.object "SortWorks$Reading") true := ⟨(RX8, TX8, 5), cl_8, Nat.lt_of_lt_of_le (by decide) (Nat.le_refl _), tw_2_220, rfl, rfl, rfl⟩
theorem fl_Step_18 : p_Fl "SortWorks$Step" 18 8 2 (.object "SortWorks$Works") false := ⟨(RX8, TX8, 5), cl_8, Nat.lt_of_lt_of_le (by decide) (Nat.le_refl _), tw_2_222, rfl, rfl, rfl⟩
theorem fl_Step_22 : p_Fl "SortWorks$Step" 22 9 1 (.object "SortWorks$State") true := ⟨(RX9, TX9, 16), cl_9, Nat.lt_of_lt_of_le (by decide) (Nat.le_refl _), tw_2_104, rfl, rfl, rfl⟩
theorem fl_Step_28 : p_Fl "SortWorks$Step" 28 8 3 (.object "SortWorks$State") false := ⟨(RX8, TX8, 5), cl_8, Nat.lt_of_lt_of_le (by decide) (Nat.le_refl _), tw_2_223, rfl, rfl, rfl⟩
theorem fl_Step_29 : p_Fl "SortWorks$Step" 29 8 1 (.object "SortWorks$Numbers") false := ⟨(RX8, TX8, 5), cl_8, Nat.lt_of_lt_of_le (by decide) (Nat.le_refl _), tw_2_221, rfl, rfl, rfl⟩
theorem fl_Step_33 : p_Fl "SortWorks$Step" 33 7 7 (.object "SortWorks$Log") true := ⟨(RX7, TX7, 9), cl_7, Nat.lt_of_lt_of_le (by decide) (Nat.le_refl _), tw_2_18, rfl, rfl, rfl⟩
theorem fl_Step_39 : p_Fl "SortWorks$Step" 39 2 3 .int false := ⟨(RX2, TX2, 4), cl_2, Nat.lt_of_lt_of_le (by decide) (Nat.le_refl _), tw_1_52, rfl, rfl, rfl⟩
theorem fl_Step_45 : p_Fl "SortWorks$Step" 45 3 1 .int false := ⟨(RX3, TX3, 2), cl_3, Nat.lt_of_lt_of_le (by decide) (Nat.le_refl _), tw_2_181, rfl, rfl, rfl⟩
theorem fl_Step_54 : p_Fl "SortWorks$Step" 54 7 0 .int false := ⟨(RX7, TX7, 9), cl_7, Nat.lt_of_lt_of_le (by decide) (Nat.le_refl _), tw_1_236, rfl, rfl, rfl⟩
theorem fl_Step_57 : p_Fl "SortWorks$Step" 57 9 11 .int false := ⟨(RX9, TX9, 16), cl_9, Nat.lt_of_lt_of_le (by decide) (Nat.le_refl _), tw_2_130, rfl, rfl, rfl⟩
theorem fl_Step_60 : p_Fl "SortWorks$Step" 60 7 5 (.array (.object "SortWorks$Parcel")) true := ⟨(RX7, TX7, 9), cl_7, Nat.lt_of_lt_of_le (by decide) (Nat.le_refl _), tw_2_11, rfl, rfl, rfl⟩
theorem fl_Step_64 : p_Fl "SortWorks$Step" 64 4 8 .boolean false := ⟨(RX4, TX4, 13), cl_4, Nat.lt_of_lt_of_le (by decide) (Nat.le_refl _), tw_1_194, rfl, rfl, rfl⟩
theorem fl_Step_70 : p_Fl "SortWorks$Step" 70 9 6 .int false := ⟨(RX9, TX9, 16), cl_9, Nat.lt_of_lt_of_le (by decide) (Nat.le_refl _), tw_2_118, rfl, rfl, rfl⟩
theorem fl_Step_79 : p_Fl "SortWorks$Step" 79 9 2 .int false := ⟨(RX9, TX9, 16), cl_9, Nat.lt_of_lt_of_le (by decide) (Nat.le_refl _), tw_2_107, rfl, rfl, rfl⟩
theorem fl_Step_82 : p_Fl "SortWorks$Step" 82 7 4 (.array (.object "SortWorks$Gear")) true := ⟨(RX7, TX7, 9), cl_7, Nat.lt_of_lt_of_le (by decide) (Nat.le_refl _), tw_2_8, rfl, rfl, rfl⟩
theorem fl_Step_97 : p_Fl "SortWorks$Step" 97 0 0 .int false := ⟨(RX0, TX0, 19), cl_0, Nat.lt_of_lt_of_le (by decide) (Nat.le_refl _), tw_1_70, rfl, rfl, rfl⟩
theorem fl_Step_106 : p_Fl "SortWorks$Step" 106 8 4 .boolean false := ⟨(RX8, TX8, 5), cl_8, Nat.lt_of_lt_of_le (by decide) (Nat.le_refl _), tw_2_224, rfl, rfl, rfl⟩
theorem fl_Step_109 : p_Fl "SortWorks$Step" 109 0 12 .int false := ⟨(RX0, TX0, 19), cl_0, Nat.lt_of_lt_of_le (by decide) (Nat.le_refl _), tw_1_107, rfl, rfl, rfl⟩
theorem fl_Step_111 : p_Fl "SortWorks$Step" 111 9 10 (.array .int) true := ⟨(RX9, TX9, 16), cl_9, Nat.lt_of_lt_of_le (by decide) (Nat.le_refl _), tw_2_128, rfl, rfl, rfl⟩
theorem fl_Step_114 : p_Fl "SortWorks$Step" 114 9 4 (.array (.array .int)) true := ⟨(RX9, TX9, 16), cl_9, Nat.lt_of_lt_of_le (by decide) (Nat.le_refl _), tw_2_113, rfl, rfl, rfl⟩
theorem fl_Step_118 : p_Fl "SortWorks$Step" 118 9 5 (.array .int) true := ⟨(RX9, TX9, 16), cl_9, Nat.lt_of_lt_of_le (by decide) (Nat.le_refl _), tw_2_116, rfl, rfl, rfl⟩
theorem fl_Step_145 : p_Fl "SortWorks$Step" 145 0 7 .boolean false := ⟨(RX0, TX0, 19), cl_0, Nat.lt_of_lt_of_le (by decide) (Nat.le_refl _), tw_1_91, rfl, rfl, rfl⟩
theorem fl_Step_155 : p_Fl "SortWorks$Step" 155 0 6 .int false := ⟨(RX0, TX0, 19), cl_0, Nat.lt_of_lt_of_le (by decide) (Nat.le_refl _), tw_1_88, rfl, rfl, rfl⟩
theorem fl_Step_158 : p_Fl "SortWorks$Step" 158 0 14 .int false := ⟨(RX0, TX0, 19), cl_0, Nat.lt_of_lt_of_le (by decide) (Nat.le_refl _), tw_1_111, rfl, rfl, rfl⟩
theorem fl_Step_161 : p_Fl "SortWorks$Step" 161 0 18 .int false := ⟨(RX0, TX0, 19), cl_0, Nat.lt_of_lt_of_le (by decide) (Nat.le_refl _), tw_1_121, rfl, rfl, rfl⟩
theorem fl_Step_188 : p_Fl "SortWorks$Step" 188 0 2 .int false := ⟨(RX0, TX0, 19), cl_0, Nat.lt_of_lt_of_le (by decide) (Nat.le_refl _), tw_1_80, rfl, rfl, rfl⟩
theorem fl_Step_191 : p_Fl "SortWorks$Step" 191 0 15 .int false := ⟨(RX0, TX0, 19), cl_0, Nat.lt_of_lt_of_le (by decide) (Nat.le_refl _), tw_1_114, rfl, rfl, rfl⟩
theorem fl_Step_218 : p_Fl "SortWorks$Step" 218 0 13 .int false := ⟨(RX0, TX0, 19), cl_0, Nat.lt_of_lt_of_le (by decide) (Nat.le_refl _), tw_1_109, rfl, rfl, rfl⟩
theorem fl_Step_225 : p_Fl "SortWorks$Step" 225 0 9 .int false := ⟨(RX0, TX0, 19), cl_0, Nat.lt_of_lt_of_le (by decide) (Nat.le_refl _), tw_1_97, rfl, rfl, rfl⟩
theorem fl_Step_228 : p_Fl "SortWorks$Step" 228 0 8 .int false := ⟨(RX0, TX0, 19), cl_0, Nat.lt_of_lt_of_le (by decide) (Nat.le_refl _), tw_1_94, rfl, rfl, rfl⟩
theorem fl_Step_231 : p_Fl "SortWorks$Step" 231 0 1 .int false := ⟨(RX0, TX0, 19), cl_0, Nat.lt_of_lt_of_le (by decide) (Nat.le_refl _), tw_1_77, rfl, rfl, rfl⟩
theorem fl_Step_238 : p_Fl "SortWorks$Step" 238 0 17 (.array .int) true := ⟨(RX0, TX0, 19), cl_0, Nat.lt_of_lt_of_le (by decide) (Nat.le_refl _), tw_1_119, rfl, rfl, rfl⟩
theorem fl_Step_241 : p_Fl "SortWorks$Step" 241 4 0 .int true := ⟨(RX4, TX4, 13), cl_4, Nat.lt_of_lt_of_le (by decide) (Nat.le_refl _), tw_1_168, rfl, rfl, rfl⟩
theorem fl_Step_244 : p_Fl "SortWorks$Step" 244 4 6 .int false := ⟨(RX4, TX4, 13), cl_4, Nat.lt_of_lt_of_le (by decide) (Nat.le_refl _), tw_1_190, rfl, rfl, rfl⟩
theorem fl_Step_247 : p_Fl "SortWorks$Step" 247 0 3 (.array .int) false := ⟨(RX0, TX0, 19), cl_0, Nat.lt_of_lt_of_le (by decide) (Nat.le_refl _), tw_1_84, rfl, rfl, rfl⟩
theorem fl_Step_250 : p_Fl "SortWorks$Step" 250 0 16 .int false := ⟨(RX0, TX0, 19), cl_0, Nat.lt_of_lt_of_le (by decide) (Nat.le_refl _), tw_1_116, rfl, rfl, rfl⟩
theorem fl_Step_253 : p_Fl "SortWorks$Step" 253 4 7 .boolean false := ⟨(RX4, TX4, 13), cl_4, Nat.lt_of_lt_of_le (by decide) (Nat.le_refl _), tw_1_193, rfl, rfl, rfl⟩
theorem fl_Step_256 : p_Fl "SortWorks$Step" 256 4 4 .int false := ⟨(RX4, TX4, 13), cl_4, Nat.lt_of_lt_of_le (by decide) (Nat.le_refl _), tw_1_183, rfl, rfl, rfl⟩
theorem fl_Step_263 : p_Fl "SortWorks$Step" 263 4 1 .int false := ⟨(RX4, TX4, 13), cl_4, Nat.lt_of_lt_of_le (by decide) (Nat.le_refl _), tw_1_173, rfl, rfl, rfl⟩
theorem fl_Step_266 : p_Fl "SortWorks$Step" 266 5 0 .boolean false := ⟨(RX5, TX5, 5), cl_5, Nat.lt_of_lt_of_le (by decide) (Nat.le_refl _), tw_2_201, rfl, rfl, rfl⟩
theorem fl_Step_269 : p_Fl "SortWorks$Step" 269 5 2 .int false := ⟨(RX5, TX5, 5), cl_5, Nat.lt_of_lt_of_le (by decide) (Nat.le_refl _), tw_2_205, rfl, rfl, rfl⟩
theorem fl_Step_272 : p_Fl "SortWorks$Step" 272 4 2 .int false := ⟨(RX4, TX4, 13), cl_4, Nat.lt_of_lt_of_le (by decide) (Nat.le_refl _), tw_1_176, rfl, rfl, rfl⟩
theorem fl_Step_277 : p_Fl "SortWorks$Step" 277 9 3 (.object "SortWorks$Rules") true := ⟨(RX9, TX9, 16), cl_9, Nat.lt_of_lt_of_le (by decide) (Nat.le_refl _), tw_2_111, rfl, rfl, rfl⟩
theorem fl_Step_281 : p_Fl "SortWorks$Step" 281 6 0 .int false := ⟨(RX6, TX6, 9), cl_6, Nat.lt_of_lt_of_le (by decide) (Nat.le_refl _), tw_2_51, rfl, rfl, rfl⟩
theorem fl_Step_287 : p_Fl "SortWorks$Step" 287 7 6 (.array .int) true := ⟨(RX7, TX7, 9), cl_7, Nat.lt_of_lt_of_le (by decide) (Nat.le_refl _), tw_2_15, rfl, rfl, rfl⟩
theorem fl_Step_290 : p_Fl "SortWorks$Step" 290 6 1 (.array .int) true := ⟨(RX6, TX6, 9), cl_6, Nat.lt_of_lt_of_le (by decide) (Nat.le_refl _), tw_2_54, rfl, rfl, rfl⟩
theorem fl_Step_293 : p_Fl "SortWorks$Step" 293 6 2 (.array .int) true := ⟨(RX6, TX6, 9), cl_6, Nat.lt_of_lt_of_le (by decide) (Nat.le_refl _), tw_2_58, rfl, rfl, rfl⟩
theorem fl_Step_296 : p_Fl "SortWorks$Step" 296 6 3 (.array .int) true := ⟨(RX6, TX6, 9), cl_6, Nat.lt_of_lt_of_le (by decide) (Nat.le_refl _), tw_2_62, rfl, rfl, rfl⟩
theorem fl_Step_299 : p_Fl "SortWorks$Step" 299 6 4 (.array .int) true := ⟨(RX6, TX6, 9), cl_6, Nat.lt_of_lt_of_le (by decide) (Nat.le_refl _), tw_2_65, rfl, rfl, rfl⟩
theorem fl_Step_308 : p_Fl "SortWorks$Step" 308 6 6 (.array .int) true := ⟨(RX6, TX6, 9), cl_6, Nat.lt_of_lt_of_le (by decide) (Nat.le_refl _), tw_2_71, rfl, rfl, rfl⟩
theorem fl_Step_317 : p_Fl "SortWorks$Step" 317 6 5 (.array .int) true := ⟨(RX6, TX6, 9), cl_6, Nat.lt_of_lt_of_le (by decide) (Nat.le_refl _), tw_2_68, rfl, rfl, rfl⟩
theorem fl_Step_320 : p_Fl "SortWorks$Step" 320 5 1 .int false := ⟨(RX5, TX5, 5), cl_5, Nat.lt_of_lt_of_le (by decide) (Nat.le_refl _), tw_2_203, rfl, rfl, rfl⟩
theorem fl_Step_321 : p_Fl "SortWorks$Step" 321 5 3 .int false := ⟨(RX5, TX5, 5), cl_5, Nat.lt_of_lt_of_le (by decide) (Nat.le_refl _), tw_2_207, rfl, rfl, rfl⟩
theorem fl_Step_342 : p_Fl "SortWorks$Step" 342 0 10 .int false := ⟨(RX0, TX0, 19), cl_0, Nat.lt_of_lt_of_le (by decide) (Nat.le_refl _), tw_1_100, rfl, rfl, rfl⟩
theorem fl_Step_345 : p_Fl "SortWorks$Step" 345 0 11 .int false := ⟨(RX0, TX0, 19), cl_0, Nat.lt_of_lt_of_le (by decide) (Nat.le_refl _), tw_1_104, rfl, rfl, rfl⟩
theorem fl_Step_348 : p_Fl "SortWorks$Step" 348 7 8 (.object "SortWorks$Log") true := ⟨(RX7, TX7, 9), cl_7, Nat.lt_of_lt_of_le (by decide) (Nat.le_refl _), tw_2_21, rfl, rfl, rfl⟩
theorem fl_Step_351 : p_Fl "SortWorks$Step" 351 9 0 .int true := ⟨(RX9, TX9, 16), cl_9, Nat.lt_of_lt_of_le (by decide) (Nat.le_refl _), tw_2_102, rfl, rfl, rfl⟩
theorem fl_Step_356 : p_Fl "SortWorks$Step" 356 7 2 .int false := ⟨(RX7, TX7, 9), cl_7, Nat.lt_of_lt_of_le (by decide) (Nat.le_refl _), tw_2_1, rfl, rfl, rfl⟩
theorem fl_Works_12 : p_Fl "SortWorks$Works" 12 9 1 (.object "SortWorks$State") true := ⟨(RX9, TX9, 16), cl_9, Nat.lt_of_lt_of_le (by decide) (Nat.le_refl _), tw_2_103, rfl, rfl, rfl⟩
theorem fl_Works_21 : p_Fl "SortWorks$Works" 21 9 3 (.object "SortWorks$Rules") true := ⟨(RX9, TX9, 16), cl_9, Nat.lt_of_lt_of_le (by decide) (Nat.le_refl _), tw_2_109, rfl, rfl, rfl⟩
theorem fl_Works_27 : p_Fl "SortWorks$Works" 27 9 4 (.array (.array .int)) true := ⟨(RX9, TX9, 16), cl_9, Nat.lt_of_lt_of_le (by decide) (Nat.le_refl _), tw_2_112, rfl, rfl, rfl⟩
theorem fl_Works_30 : p_Fl "SortWorks$Works" 30 9 5 (.array .int) true := ⟨(RX9, TX9, 16), cl_9, Nat.lt_of_lt_of_le (by decide) (Nat.le_refl _), tw_2_115, rfl, rfl, rfl⟩
theorem fl_Works_34 : p_Fl "SortWorks$Works" 34 9 7 (.array (.array .int)) true := ⟨(RX9, TX9, 16), cl_9, Nat.lt_of_lt_of_le (by decide) (Nat.le_refl _), tw_2_121, rfl, rfl, rfl⟩
theorem fl_Works_37 : p_Fl "SortWorks$Works" 37 9 8 (.array .int) true := ⟨(RX9, TX9, 16), cl_9, Nat.lt_of_lt_of_le (by decide) (Nat.le_refl _), tw_2_123, rfl, rfl, rfl⟩
theorem fl_Works_40 : p_Fl "SortWorks$Works" 40 9 9 (.array .int) true := ⟨(RX9, TX9, 16), cl_9, Nat.lt_of_lt_of_le (by decide) (Nat.le_refl _), tw_2_125, rfl, rfl, rfl⟩
theorem fl_Works_43 : p_Fl "SortWorks$Works" 43 9 10 (.array .int) true := ⟨(RX9, TX9, 16), cl_9, Nat.lt_of_lt_of_le (by decide) (Nat.le_refl _), tw_2_127, rfl, rfl, rfl⟩
theorem fl_Works_46 : p_Fl "SortWorks$Works" 46 9 12 (.array (.object "SortWorks$State")) true := ⟨(RX9, TX9, 16), cl_9, Nat.lt_of_lt_of_le (by decide) (Nat.le_refl _), tw_2_133, rfl, rfl, rfl⟩
theorem fl_Works_50 : p_Fl "SortWorks$Works" 50 9 15 (.array .int) true := ⟨(RX9, TX9, 16), cl_9, Nat.lt_of_lt_of_le (by decide) (Nat.le_refl _), tw_2_137, rfl, rfl, rfl⟩
theorem fl_Works_53 : p_Fl "SortWorks$Works" 53 9 0 .int true := ⟨(RX9, TX9, 16), cl_9, Nat.lt_of_lt_of_le (by decide) (Nat.le_refl _), tw_2_100, rfl, rfl, rfl⟩
theorem fl_Works_57 : p_Fl "SortWorks$Works" 57 9 2 .int false := ⟨(RX9, TX9, 16), cl_9, Nat.lt_of_lt_of_le (by decide) (Nat.le_refl _), tw_2_106, rfl, rfl, rfl⟩
theorem fl_Works_60 : p_Fl "SortWorks$Works" 60 7 4 (.array (.object "SortWorks$Gear")) true := ⟨(RX7, TX7, 9), cl_7, Nat.lt_of_lt_of_le (by decide) (Nat.le_refl _), tw_2_7, rfl, rfl, rfl⟩
theorem fl_Works_74 : p_Fl "SortWorks$Works" 74 9 6 .int false := ⟨(RX9, TX9, 16), cl_9, Nat.lt_of_lt_of_le (by decide) (Nat.le_refl _), tw_2_119, rfl, rfl, rfl⟩
theorem fl_Works_86 : p_Fl "SortWorks$Works" 86 7 6 (.array .int) true := ⟨(RX7, TX7, 9), cl_7, Nat.lt_of_lt_of_le (by decide) (Nat.le_refl _), tw_2_14, rfl, rfl, rfl⟩
theorem fl_Works_95 : p_Fl "SortWorks$Works" 95 9 13 .int false := ⟨(RX9, TX9, 16), cl_9, Nat.lt_of_lt_of_le (by decide) (Nat.le_refl _), tw_2_134, rfl, rfl, rfl⟩
theorem fl_Works_98 : p_Fl "SortWorks$Works" 98 7 3 .int false := ⟨(RX7, TX7, 9), cl_7, Nat.lt_of_lt_of_le (by decide) (Nat.le_refl _), tw_2_5, rfl, rfl, rfl⟩
theorem fl_Works_104 : p_Fl "SortWorks$Works" 104 9 14 .int false := ⟨(RX9, TX9, 16), cl_9, Nat.lt_of_lt_of_le (by decide) (Nat.le_refl _), tw_2_135, rfl, rfl, rfl⟩
theorem fl_Works_116 : p_Fl "SortWorks$Works" 116 9 11 .int false := ⟨(RX9, TX9, 16), cl_9, Nat.lt_of_lt_of_le (by decide) (Nat.le_refl _), tw_2_131, rfl, rfl, rfl⟩
theorem fl_Works_119 : p_Fl "SortWorks$Works" 119 0 0 .int false := ⟨(RX0, TX0, 19), cl_0, Nat.lt_of_lt_of_le (by decide) (Nat.le_refl _), tw_1_71, rfl, rfl, rfl⟩
theorem fl_Works_126 : p_Fl "SortWorks$Works" 126 0 3 (.array .int) false := ⟨(RX0, TX0, 19), cl_0, Nat.lt_of_lt_of_le (by decide) (Nat.le_refl _), tw_1_83, rfl, rfl, rfl⟩
theorem fl_Works_148 : p_Fl "SortWorks$Works" 148 0 1 .int false := ⟨(RX0, TX0, 19), cl_0, Nat.lt_of_lt_of_le (by decide) (Nat.le_refl _), tw_1_76, rfl, rfl, rfl⟩
theorem fl_Mo_7 : p_Fl "SortWorksModel" 7 11 3 (.array .int) true := ⟨(RX11, TX11, 90), cl_11, Nat.lt_of_lt_of_le (by decide) (Nat.le_refl _), tw_6_6, rfl, rfl, rfl⟩
theorem fl_Mo_13 : p_Fl "SortWorksModel" 13 11 4 (.array .int) true := ⟨(RX11, TX11, 90), cl_11, Nat.lt_of_lt_of_le (by decide) (Nat.le_refl _), tw_6_7, rfl, rfl, rfl⟩
theorem fl_Mo_16 : p_Fl "SortWorksModel" 16 11 5 (.array .int) true := ⟨(RX11, TX11, 90), cl_11, Nat.lt_of_lt_of_le (by decide) (Nat.le_refl _), tw_6_8, rfl, rfl, rfl⟩
theorem fl_Mo_19 : p_Fl "SortWorksModel" 19 11 6 (.array .int) true := ⟨(RX11, TX11, 90), cl_11, Nat.lt_of_lt_of_le (by decide) (Nat.le_refl _), tw_6_9, rfl, rfl, rfl⟩
theorem fl_Mo_22 : p_Fl "SortWorksModel" 22 11 7 (.array .int) true := ⟨(RX11, TX11, 90), cl_11, Nat.lt_of_lt_of_le (by decide) (Nat.le_refl _), tw_6_10, rfl, rfl, rfl⟩
theorem fl_Mo_25 : p_Fl "SortWorksModel" 25 11 8 (.array .int) true := ⟨(RX11, TX11, 90), cl_11, Nat.lt_of_lt_of_le (by decide) (Nat.le_refl _), tw_6_11, rfl, rfl, rfl⟩
theorem fl_Mo_28 : p_Fl "SortWorksModel" 28 11 9 (.array .int) true := ⟨(RX11, TX11, 90), cl_11, Nat.lt_of_lt_of_le (by decide) (Nat.le_refl _), tw_6_12, rfl, rfl, rfl⟩
theorem fl_Mo_31 : p_Fl "SortWorksModel" 31 11 10 (.array .int) true := ⟨(RX11, TX11, 90), cl_11, Nat.lt_of_lt_of_le (by decide) (Nat.le_refl _), tw_6_13, rfl, rfl, rfl⟩
theorem fl_Mo_34 : p_Fl "SortWorksModel" 34 11 11 (.array .long) true := ⟨(RX11, TX11, 90), cl_11, Nat.lt_of_lt_of_le (by decide) (Nat.le_refl _), tw_6_14, rfl, rfl, rfl⟩
theorem fl_Mo_38 : p_Fl "SortWorksModel" 38 11 12 (.array .int) true := ⟨(RX11, TX11, 90), cl_11, Nat.lt_of_lt_of_le (by decide) (Nat.le_refl _), tw_6_15, rfl, rfl, rfl⟩
theorem fl_Mo_41 : p_Fl "SortWorksModel" 41 11 13 (.array .int) true := ⟨(RX11, TX11, 90), cl_11, Nat.lt_of_lt_of_le (by decide) (Nat.le_refl _), tw_6_16, rfl, rfl, rfl⟩
theorem fl_Mo_44 : p_Fl "SortWorksModel" 44 11 14 (.array .boolean) true := ⟨(RX11, TX11, 90), cl_11, Nat.lt_of_lt_of_le (by decide) (Nat.le_refl _), tw_6_17, rfl, rfl, rfl⟩
theorem fl_Mo_48 : p_Fl "SortWorksModel" 48 11 15 (.array .int) true := ⟨(RX11, TX11, 90), cl_11, Nat.lt_of_lt_of_le (by decide) (Nat.le_refl _), tw_6_18, rfl, rfl, rfl⟩
theorem fl_Mo_51 : p_Fl "SortWorksModel" 51 11 16 (.array .int) true := ⟨(RX11, TX11, 90), cl_11, Nat.lt_of_lt_of_le (by decide) (Nat.le_refl _), tw_6_19, rfl, rfl, rfl⟩
theorem fl_Mo_54 : p_Fl "SortWorksModel" 54 11 17 (.array .int) true := ⟨(RX11, TX11, 90), cl_11, Nat.lt_of_lt_of_le (by decide) (Nat.le_refl _), tw_6_20, rfl, rfl, rfl⟩
theorem fl_Mo_57 : p_Fl "SortWorksModel" 57 11 18 (.array .int) true := ⟨(RX11, TX11, 90), cl_11, Nat.lt_of_lt_of_le (by decide) (Nat.le_refl _), tw_6_21, rfl, rfl, rfl⟩
theorem fl_Mo_60 : p_Fl "SortWorksModel" 60 11 19 (.array .int) true := ⟨(RX11, TX11, 90), cl_11, Nat.lt_of_lt_of_le (by decide) (Nat.le_refl _), tw_6_22, rfl, rfl, rfl⟩
theorem fl_Mo_63 : p_Fl "SortWorksModel" 63 11 20 (.array .int) true := ⟨(RX11, TX11, 90), cl_11, Nat.lt_of_lt_of_le (by decide) (Nat.le_refl _), tw_6_23, rfl, rfl, rfl⟩
theorem fl_Mo_66 : p_Fl "SortWorksModel" 66 11 21 (.array .int) true := ⟨(RX11, TX11, 90), cl_11, Nat.lt_of_lt_of_le (by decide) (Nat.le_refl _), tw_6_24, rfl, rfl, rfl⟩
theorem fl_Mo_69 : p_Fl "SortWorksModel" 69 11 22 (.array .int) true := ⟨(RX11, TX11, 90), cl_11, Nat.lt_of_lt_of_le (by decide) (Nat.le_refl _), tw_6_25, rfl, rfl, rfl⟩
theorem fl_Mo_72 : p_Fl "SortWorksModel" 72 11 24 (.array .int) true := ⟨(RX11, TX11, 90), cl_11, Nat.lt_of_lt_of_le (by decide) (Nat.le_refl _), tw_6_27, rfl, rfl, rfl⟩
theorem fl_Mo_75 : p_Fl "SortWorksModel" 75 11 25 (.array .int) true := ⟨(RX11, TX11, 90), cl_11, Nat.lt_of_lt_of_le (by decide) (Nat.le_refl _), tw_6_28, rfl, rfl, rfl⟩
theorem fl_Mo_78 : p_Fl "SortWorksModel" 78 11 26 (.array .int) true := ⟨(RX11, TX11, 90), cl_11, Nat.lt_of_lt_of_le (by decide) (Nat.le_refl _), tw_6_29, rfl, rfl, rfl⟩
theorem fl_Mo_81 : p_Fl "SortWorksModel" 81 11 27 (.array .int) true := ⟨(RX11, TX11, 90), cl_11, Nat.lt_of_lt_of_le (by decide) (Nat.le_refl _), tw_6_30, rfl, rfl, rfl⟩
theorem fl_Mo_84 : p_Fl "SortWorksModel" 84 11 28 (.array .int) true := ⟨(RX11, TX11, 90), cl_11, Nat.lt_of_lt_of_le (by decide) (Nat.le_refl _), tw_6_31, rfl, rfl, rfl⟩
theorem fl_Mo_87 : p_Fl "SortWorksModel" 87 11 29 (.array .int) true := ⟨(RX11, TX11, 90), cl_11, Nat.lt_of_lt_of_le (by decide) (Nat.le_refl _), tw_6_32, rfl, rfl, rfl⟩
theorem fl_Mo_90 : p_Fl "SortWorksModel" 90 11 30 (.array .int) true := ⟨(RX11, TX11, 90), cl_11, Nat.lt_of_lt_of_le (by decide) (Nat.le_refl _), tw_6_33, rfl, rfl, rfl⟩
theorem fl_Mo_93 : p_Fl "SortWorksModel" 93 11 31 (.array .int) true := ⟨(RX11, TX11, 90), cl_11, Nat.lt_of_lt_of_le (by decide) (Nat.le_refl _), tw_6_34, rfl, rfl, rfl⟩
theorem fl_Mo_96 : p_Fl "SortWorksModel" 96 11 32 (.array .int) true := ⟨(RX11, TX11, 90), cl_11, Nat.lt_of_lt_of_le (by decide) (Nat.le_refl _), tw_6_35, rfl, rfl, rfl⟩
theorem fl_Mo_99 : p_Fl "SortWorksModel" 99 11 33 (.array .int) true := ⟨(RX11, TX11, 90), cl_11, Nat.lt_of_lt_of_le (by decide) (Nat.le_refl _), tw_6_36, rfl, rfl, rfl⟩
theorem fl_Mo_102 : p_Fl "SortWorksModel" 102 11 34 (.array .int) true := ⟨(RX11, TX11, 90), cl_11, Nat.lt_of_lt_of_le (by decide) (Nat.le_refl _), tw_6_37, rfl, rfl, rfl⟩
theorem fl_Mo_105 : p_Fl "SortWorksModel" 105 11 35 (.array .boolean) true := ⟨(RX11, TX11, 90), cl_11, Nat.lt_of_lt_of_le (by decide) (Nat.le_refl _), tw_6_38, rfl, rfl, rfl⟩
theorem fl_Mo_108 : p_Fl "SortWorksModel" 108 11 36 (.array .boolean) true := ⟨(RX11, TX11, 90), cl_11, Nat.lt_of_lt_of_le (by decide) (Nat.le_refl _), tw_6_39, rfl, rfl, rfl⟩
theorem fl_Mo_111 : p_Fl "SortWorksModel" 111 11 37 (.array .int) true := ⟨(RX11, TX11, 90), cl_11, Nat.lt_of_lt_of_le (by decide) (Nat.le_refl _), tw_6_40, rfl, rfl, rfl⟩
theorem fl_Mo_114 : p_Fl "SortWorksModel" 114 11 38 (.array .int) true := ⟨(RX11, TX11, 90), cl_11, Nat.lt_of_lt_of_le (by decide) (Nat.le_refl _), tw_6_41, rfl, rfl, rfl⟩
theorem fl_Mo_117 : p_Fl "SortWorksModel" 117 11 39 (.array .int) true := ⟨(RX11, TX11, 90), cl_11, Nat.lt_of_lt_of_le (by decide) (Nat.le_refl _), tw_6_42, rfl, rfl, rfl⟩
theorem fl_Mo_120 : p_Fl "SortWorksModel" 120 11 40 (.array .int) true := ⟨(RX11, TX11, 90), cl_11, Nat.lt_of_lt_of_le (by decide) (Nat.le_refl _), tw_6_43, rfl, rfl, rfl⟩
theorem fl_Mo_123 : p_Fl "SortWorksModel" 123 11 41 (.array .int) true := ⟨(RX11, TX11, 90), cl_11, Nat.lt_of_lt_of_le (by decide) (Nat.le_refl _), tw_6_44, rfl, rfl, rfl⟩
theorem fl_Mo_126 : p_Fl "SortWorksModel" 126 11 42 (.array .int) true := ⟨(RX11, TX11, 90), cl_11, Nat.lt_of_lt_of_le (by decide) (Nat.le_refl _), tw_6_45, rfl, rfl, rfl⟩
theorem fl_Mo_129 : p_Fl "SortWorksModel" 129 11 43 (.array .int) true := ⟨(RX11, TX11, 90), cl_11, Nat.lt_of_lt_of_le (by decide) (Nat.le_refl _), tw_6_46, rfl, rfl, rfl⟩
theorem fl_Mo_132 : p_Fl "SortWorksModel" 132 11 44 (.array .int) true := ⟨(RX11, TX11, 90), cl_11, Nat.lt_of_lt_of_le (by decide) (Nat.le_refl _), tw_6_47, rfl, rfl, rfl⟩
theorem fl_Mo_135 : p_Fl "SortWorksModel" 135 11 45 (.array .int) true := ⟨(RX11, TX11, 90), cl_11, Nat.lt_of_lt_of_le (by decide) (Nat.le_refl _), tw_6_48, rfl, rfl, rfl⟩
theorem fl_Mo_138 : p_Fl "SortWorksModel" 138 11 46 (.array .int) true := ⟨(RX11, TX11, 90), cl_11, Nat.lt_of_lt_of_le (by decide) (Nat.le_refl _), tw_6_49, rfl, rfl, rfl⟩
theorem fl_Mo_141 : p_Fl "SortWorksModel" 141 11 48 (.array .int) true := ⟨(RX11, TX11, 90), cl_11, Nat.lt_of_lt_of_le (by decide) (Nat.le_refl _), tw_6_51, rfl, rfl, rfl⟩
theorem fl_Mo_144 : p_Fl "SortWorksModel" 144 11 49 (.array .int) true := ⟨(RX11, TX11, 90), cl_11, Nat.lt_of_lt_of_le (by decide) (Nat.le_refl _), tw_6_52, rfl, rfl, rfl⟩
theorem fl_Mo_147 : p_Fl "SortWorksModel" 147 11 50 (.array .int) true := ⟨(RX11, TX11, 90), cl_11, Nat.lt_of_lt_of_le (by decide) (Nat.le_refl _), tw_6_53, rfl, rfl, rfl⟩
theorem fl_Mo_150 : p_Fl "SortWorksModel" 150 11 51 (.array .int) true := ⟨(RX11, TX11, 90), cl_11, Nat.lt_of_lt_of_le (by decide) (Nat.le_refl _), tw_6_54, rfl, rfl, rfl⟩
theorem fl_Mo_153 : p_Fl "SortWorksModel" 153 11 52 (.array .int) true := ⟨(RX11, TX11, 90), cl_11, Nat.lt_of_lt_of_le (by decide) (Nat.le_refl _), tw_6_55, rfl, rfl, rfl⟩
theorem fl_Mo_156 : p_Fl "SortWorksModel" 156 11 53 (.array .int) true := ⟨(RX11, TX11, 90), cl_11, Nat.lt_of_lt_of_le (by decide) (Nat.le_refl _), tw_6_56, rfl, rfl, rfl⟩
theorem fl_Mo_159 : p_Fl "SortWorksModel" 159 11 54 (.array .int) true := ⟨(RX11, TX11, 90), cl_11, Nat.lt_of_lt_of_le (by decide) (Nat.le_refl _), tw_6_57, rfl, rfl, rfl⟩
theorem fl_Mo_162 : p_Fl "SortWorksModel" 162 11 55 (.array .int) true := ⟨(RX11, TX11, 90), cl_11, Nat.lt_of_lt_of_le (by decide) (Nat.le_refl _), tw_6_58, rfl, rfl, rfl⟩
theorem fl_Mo_165 : p_Fl "SortWorksModel" 165 11 56 (.array .int) true := ⟨(RX11, TX11, 90), cl_11, Nat.lt_of_lt_of_le (by decide) (Nat.le_refl _), tw_6_59, rfl, rfl, rfl⟩
theorem fl_Mo_168 : p_Fl "SortWorksModel" 168 11 57 (.array .int) true := ⟨(RX11, TX11, 90), cl_11, Nat.lt_of_lt_of_le (by decide) (Nat.le_refl _), tw_6_60, rfl, rfl, rfl⟩
theorem fl_Mo_171 : p_Fl "SortWorksModel" 171 11 58 (.array .int) true := ⟨(RX11, TX11, 90), cl_11, Nat.lt_of_lt_of_le (by decide) (Nat.le_refl _), tw_6_61, rfl, rfl, rfl⟩
theorem fl_Mo_174 : p_Fl "SortWorksModel" 174 11 59 (.array .int) true := ⟨(RX11, TX11, 90), cl_11, Nat.lt_of_lt_of_le (by decide) (Nat.le_refl _), tw_6_62, rfl, rfl, rfl⟩
theorem fl_Mo_177 : p_Fl "SortWorksModel" 177 11 60 (.array .int) true := ⟨(RX11, TX11, 90), cl_11, Nat.lt_of_lt_of_le (by decide) (Nat.le_refl _), tw_6_63, rfl, rfl, rfl⟩
theorem fl_Mo_180 : p_Fl "SortWorksModel" 180 11 61 (.array .int) true := ⟨(RX11, TX11, 90), cl_11, Nat.lt_of_lt_of_le (by decide) (Nat.le_refl _), tw_6_64, rfl, rfl, rfl⟩
theorem fl_Mo_183 : p_Fl "SortWorksModel" 183 11 62 (.array .int) true := ⟨(RX11, TX11, 90), cl_11, Nat.lt_of_lt_of_le (by decide) (Nat.le_refl _), tw_6_65, rfl, rfl, rfl⟩
theorem fl_Mo_186 : p_Fl "SortWorksModel" 186 11 63 (.array .int) true := ⟨(RX11, TX11, 90), cl_11, Nat.lt_of_lt_of_le (by decide) (Nat.le_refl _), tw_6_66, rfl, rfl, rfl⟩
theorem fl_Mo_189 : p_Fl "SortWorksModel" 189 11 64 (.array .int) true := ⟨(RX11, TX11, 90), cl_11, Nat.lt_of_lt_of_le (by decide) (Nat.le_refl _), tw_6_67, rfl, rfl, rfl⟩
theorem fl_Mo_192 : p_Fl "SortWorksModel" 192 11 65 (.array .int) true := ⟨(RX11, TX11, 90), cl_11, Nat.lt_of_lt_of_le (by decide) (Nat.le_refl _), tw_6_68, rfl, rfl, rfl⟩
theorem fl_Mo_195 : p_Fl "SortWorksModel" 195 11 66 (.array .int) true := ⟨(RX11, TX11, 90), cl_11, Nat.lt_of_lt_of_le (by decide) (Nat.le_refl _), tw_6_69, rfl, rfl, rfl⟩
theorem fl_Mo_198 : p_Fl "SortWorksModel" 198 11 67 (.array .int) true := ⟨(RX11, TX11, 90), cl_11, Nat.lt_of_lt_of_le (by decide) (Nat.le_refl _), tw_6_70, rfl, rfl, rfl⟩
theorem fl_Mo_201 : p_Fl "SortWorksModel" 201 11 74 (.array .int) true := ⟨(RX11, TX11, 90), cl_11, Nat.lt_of_lt_of_le (by decide) (Nat.le_refl _), tw_6_77, rfl, rfl, rfl⟩
theorem fl_Mo_204 : p_Fl "SortWorksModel" 204 11 79 (.array .int) true := ⟨(RX11, TX11, 90), cl_11, Nat.lt_of_lt_of_le (by decide) (Nat.le_refl _), tw_6_82, rfl, rfl, rfl⟩
theorem fl_Mo_207 : p_Fl "SortWorksModel" 207 11 81 (.array .int) true := ⟨(RX11, TX11, 90), cl_11, Nat.lt_of_lt_of_le (by decide) (Nat.le_refl _), tw_6_84, rfl, rfl, rfl⟩
theorem fl_Mo_210 : p_Fl "SortWorksModel" 210 11 82 (.array .int) true := ⟨(RX11, TX11, 90), cl_11, Nat.lt_of_lt_of_le (by decide) (Nat.le_refl _), tw_6_85, rfl, rfl, rfl⟩
theorem fl_Mo_214 : p_Fl "SortWorksModel" 214 11 83 (.array .int) true := ⟨(RX11, TX11, 90), cl_11, Nat.lt_of_lt_of_le (by decide) (Nat.le_refl _), tw_6_86, rfl, rfl, rfl⟩
theorem fl_Mo_217 : p_Fl "SortWorksModel" 217 11 88 (.array .int) true := ⟨(RX11, TX11, 90), cl_11, Nat.lt_of_lt_of_le (by decide) (Nat.le_refl _), tw_6_91, rfl, rfl, rfl⟩
theorem fl_Mo_220 : p_Fl "SortWorksModel" 220 11 1 .int false := ⟨(RX11, TX11, 90), cl_11, Nat.lt_of_lt_of_le (by decide) (Nat.le_refl _), tw_6_4, rfl, rfl, rfl⟩
theorem fl_Mo_224 : p_Fl "SortWorksModel" 224 11 2 .int false := ⟨(RX11, TX11, 90), cl_11, Nat.lt_of_lt_of_le (by decide) (Nat.le_refl _), tw_6_5, rfl, rfl, rfl⟩
theorem fl_Mo_227 : p_Fl "SortWorksModel" 227 11 0 .int false := ⟨(RX11, TX11, 90), cl_11, Nat.lt_of_lt_of_le (by decide) (Nat.le_refl _), tw_6_3, rfl, rfl, rfl⟩
theorem fl_Mo_295 : p_Fl "SortWorksModel" 295 11 47 .int false := ⟨(RX11, TX11, 90), cl_11, Nat.lt_of_lt_of_le (by decide) (Nat.le_refl _), tw_6_50, rfl, rfl, rfl⟩
theorem fl_Mo_298 : p_Fl "SortWorksModel" 298 11 68 .int false := ⟨(RX11, TX11, 90), cl_11, Nat.lt_of_lt_of_le (by decide) (Nat.le_refl _), tw_6_71, rfl, rfl, rfl⟩
theorem fl_Mo_301 : p_Fl "SortWorksModel" 301 11 69 .int false := ⟨(RX11, TX11, 90), cl_11, Nat.lt_of_lt_of_le (by decide) (Nat.le_refl _), tw_6_72, rfl, rfl, rfl⟩
theorem fl_Mo_314 : p_Fl "SortWorksModel" 314 11 70 .int false := ⟨(RX11, TX11, 90), cl_11, Nat.lt_of_lt_of_le (by decide) (Nat.le_refl _), tw_6_73, rfl, rfl, rfl⟩
theorem fl_Mo_334 : p_Fl "SortWorksModel" 334 11 23 .int false := ⟨(RX11, TX11, 90), cl_11, Nat.lt_of_lt_of_le (by decide) (Nat.le_refl _), tw_6_26, rfl, rfl, rfl⟩
theorem fl_Mo_379 : p_Fl "SortWorksModel" 379 11 71 .int false := ⟨(RX11, TX11, 90), cl_11, Nat.lt_of_lt_of_le (by decide) (Nat.le_refl _), tw_6_74, rfl, rfl, rfl⟩
theorem fl_Mo_382 : p_Fl "SortWorksModel" 382 11 72 .int false := ⟨(RX11, TX11, 90), cl_11, Nat.lt_of_lt_of_le (by decide) (Nat.le_refl _), tw_6_75, rfl, rfl, rfl⟩
theorem fl_Mo_385 : p_Fl "SortWorksModel" 385 11 73 .int false := ⟨(RX11, TX11, 90), cl_11, Nat.lt_of_lt_of_le (by decide) (Nat.le_refl _), tw_6_76, rfl, rfl, rfl⟩
theorem fl_Mo_414 : p_Fl "SortWorksModel" 414 11 78 .int false := ⟨(RX11, TX11, 90), cl_11, Nat.lt_of_lt_of_le (by decide) (Nat.le_refl _), tw_6_81, rfl, rfl, rfl⟩
theorem fl_Mo_420 : p_Fl "SortWorksModel" 420 11 75 .int false := ⟨(RX11, TX11, 90), cl_11, Nat.lt_of_lt_of_le (by decide) (Nat.le_refl _), tw_6_78, rfl, rfl, rfl⟩
theorem fl_Mo_423 : p_Fl "SortWorksModel" 423 11 76 .int false := ⟨(RX11, TX11, 90), cl_11, Nat.lt_of_lt_of_le (by decide) (Nat.le_refl _), tw_6_79, rfl, rfl, rfl⟩
theorem fl_Mo_426 : p_Fl "SortWorksModel" 426 11 77 .int false := ⟨(RX11, TX11, 90), cl_11, Nat.lt_of_lt_of_le (by decide) (Nat.le_refl _), tw_6_80, rfl, rfl, rfl⟩
theorem fl_Mo_429 : p_Fl "SortWorksModel" 429 11 80 .int false := ⟨(RX11, TX11, 90), cl_11, Nat.lt_of_lt_of_le (by decide) (Nat.le_refl _), tw_6_83, rfl, rfl, rfl⟩
theorem fl_Mo_496 : p_Fl "SortWorksModel" 496 11 85 .boolean false := ⟨(RX11, TX11, 90), cl_11, Nat.lt_of_lt_of_le (by decide) (Nat.le_refl _), tw_6_88, rfl, rfl, rfl⟩
theorem fl_Mo_500 : p_Fl "SortWorksModel" 500 11 84 .int false := ⟨(RX11, TX11, 90), cl_11, Nat.lt_of_lt_of_le (by decide) (Nat.le_refl _), tw_6_87, rfl, rfl, rfl⟩
theorem fl_Mo_520 : p_Fl "SortWorksModel" 520 11 86 .int false := ⟨(RX11, TX11, 90), cl_11, Nat.lt_of_lt_of_le (by decide) (Nat.le_refl _), tw_6_89, rfl, rfl, rfl⟩
theorem fl_Mo_523 : p_Fl "SortWorksModel" 523 11 87 .int false := ⟨(RX11, TX11, 90), cl_11, Nat.lt_of_lt_of_le (by decide) (Nat.le_refl _), tw_6_90, rfl, rfl, rfl⟩
theorem fl_Mo_540 : p_Fl "SortWorksModel" 540 11 89 .long false := ⟨(RX11, TX11, 90), cl_11, Nat.lt_of_lt_of_le (by decide) (Nat.le_refl _), tw_6_92, rfl, rfl, rfl⟩
end
section
/-! ===== from the law's entry: what is fixed ===== -/
theorem p_el {args : Array Value} {s : State} {tm : Term} {a v : Int32} {j : Nat} {x : Int} (h : (Cond.eq (.elem tm (.int a)) (.int v)).before args s = true) (ha : a = Int32.ofNat j) (hv : v = Int32.ofInt x) : (Term.elem tm (.int (Int32.ofNat j))).eval args s none [] s = some (.int (Int32.ofInt x)) := by
  subst ha
  subst hv
  exact va_eqt h
theorem p_arP {s : State} {args : Array Value} {ty : FieldType} (hp : refKind ty = false) (hno : ∀ C, ty ≠ .object C) (h : (Cond.arrayClass ty).before args s = true) : ∃ cA : ClassId, ArrOfT s cA ty ∧ va_RA s cA ty := by
  obtain ⟨c, k, comp, h1, h2, h3⟩ := Cond.arrayClass_spec h
  refine ⟨c, fun n z => ⟨fun k h => (by cases h), k, h2, comp, h3⟩, ?_⟩
  cases ty with
  | object C => exact absurd rfl (hno C)
  | _ => exact h1
theorem p_arO {s : State} {args : Array Value} {C : String} (h : (Cond.arrayOver (.object C)).before args s = true) : ∃ cA : ClassId, ArrOfT s cA (.object C) ∧ va_RA s cA (.object C) := by
  obtain ⟨comp, c, k, h1, h2, h3, h4, h5⟩ := Cond.arrayOver_spec h
  exact ⟨c, fun n z => ⟨fun k h => (by cases h), k, h3, comp, h4⟩, k, comp, h3, h4, h1, h5⟩
theorem p_arA {s : State} {args : Array Value} {t : FieldType} (h : (Cond.arrayOver (.array t)).before args s = true) : ∃ cA : ClassId, ArrOfT s cA (.array t) ∧ va_RA s cA (.array t) := by
  obtain ⟨comp, c, k, h1, h2, h3, h4, h5⟩ := arrayOverA_spec h
  exact ⟨c, fun n z => ⟨fun k h => (by cases h), k, h3, comp, h4⟩, h5⟩
set_option maxRecDepth 100000 in
theorem p_tab0 {s : State} {b : Nat} {A : Nat → Prop} (hts : ∀ w ∈ lw_tbl, w.before #[Value.ref b] s = true) (hgv : (Jvm.Cond.and given_1 narrow_1).before #[Value.ref b] s = true) (hA : ∀ a : Nat, a < s.heap.size → ¬ A a) : ∃ t : Nat, va_Z "SortWorks" "RANKS" "[I" (.ref t) A s s.heap ∧ va_T .int t 11 (fun i => .int (Int32.ofInt (sw_tab 0 i))) A s s.heap := by
  have hs := flat_of_before _ hgv
  obtain ⟨t, ht, hT⟩ := va_Tof (tm := (.static "SortWorks" "RANKS" "[I")) (ty := .int) (N := 11) (f := fun i => .int (Int32.ofInt (sw_tab 0 i))) (A := A) (by decide) (hs _ (by decide +kernel)) (va_eqt (hs (Cond.eq (.length (.static "SortWorks" "RANKS" "[I")) (.int 11)) (by decide +kernel))) (fun i hi => by
    match i, hi with
    | 0, _ => exact p_el (hs (Cond.eq (.elem (.static "SortWorks" "RANKS" "[I") (.int 0)) (.int 1)) (by decide +kernel)) (by decide) (by decide)
    | 1, _ => exact p_el (hs (Cond.eq (.elem (.static "SortWorks" "RANKS" "[I") (.int 1)) (.int 2)) (by decide +kernel)) (by decide) (by decide)
    | 2, _ => exact p_el (hs (Cond.eq (.elem (.static "SortWorks" "RANKS" "[I") (.int 2)) (.int 1)) (by decide +kernel)) (by decide) (by decide)
    | 3, _ => exact p_el (hs (Cond.eq (.elem (.static "SortWorks" "RANKS" "[I") (.int 3)) (.int 1)) (by decide +kernel)) (by decide) (by decide)
    | 4, _ => exact p_el (hs (Cond.eq (.elem (.static "SortWorks" "RANKS" "[I") (.int 4)) (.int 4)) (by decide +kernel)) (by decide) (by decide)
    | 5, _ => exact p_el (hs (Cond.eq (.elem (.static "SortWorks" "RANKS" "[I") (.int 5)) (.int 3)) (by decide +kernel)) (by decide) (by decide)
    | 6, _ => exact p_el (hs (Cond.eq (.elem (.static "SortWorks" "RANKS" "[I") (.int 6)) (.int 3)) (by decide +kernel)) (by decide) (by decide)
    | 7, _ => exact p_el (hs (Cond.eq (.elem (.static "SortWorks" "RANKS" "[I") (.int 7)) (.int 1)) (by decide +kernel)) (by decide) (by decide)
    | 8, _ => exact p_el (hs (Cond.eq (.elem (.static "SortWorks" "RANKS" "[I") (.int 8)) (.int 1)) (by decide +kernel)) (by decide) (by decide)
    | 9, _ => exact p_el (hs (Cond.eq (.elem (.static "SortWorks" "RANKS" "[I") (.int 9)) (.int 0)) (by decide +kernel)) (by decide) (by decide)
    | 10, _ => exact p_el (hs (Cond.eq (.elem (.static "SortWorks" "RANKS" "[I") (.int 10)) (.int 0)) (by decide +kernel)) (by decide) (by decide)
    | i + 11, hi => exact absurd hi (by omega)) hA
  exact ⟨t, va_Zof (hts _ (List.mem_append_right _ (p_tb3 (List.mem_of_getElem? (i := 73) (by decide +kernel)))) : (Cond.laysStatic "SortWorks" "RANKS" "[I").before #[Value.ref b] s = true) (hts _ (List.mem_append_right _ (p_tb1 (List.mem_of_getElem? (i := 1) (by decide +kernel)))) : (Cond.initialized "SortWorks").before #[Value.ref b] s = true) ht hA, hT⟩
set_option maxRecDepth 100000 in
theorem p_tab1 {s : State} {b : Nat} {A : Nat → Prop} (hts : ∀ w ∈ lw_tbl, w.before #[Value.ref b] s = true) (hgv : (Jvm.Cond.and given_1 narrow_1).before #[Value.ref b] s = true) (hA : ∀ a : Nat, a < s.heap.size → ¬ A a) : ∃ t : Nat, va_Z "SortWorks" "LINKS_AHEAD" "[I" (.ref t) A s s.heap ∧ va_T .int t 11 (fun i => .int (Int32.ofInt (sw_tab 1 i))) A s s.heap := by
  have hs := flat_of_before _ hgv
  obtain ⟨t, ht, hT⟩ := va_Tof (tm := (.static "SortWorks" "LINKS_AHEAD" "[I")) (ty := .int) (N := 11) (f := fun i => .int (Int32.ofInt (sw_tab 1 i))) (A := A) (by decide) (hs _ (by decide +kernel)) (va_eqt (hs (Cond.eq (.length (.static "SortWorks" "LINKS_AHEAD" "[I")) (.int 11)) (by decide +kernel))) (fun i hi => by
    match i, hi with
    | 0, _ => exact p_el (hs (Cond.eq (.elem (.static "SortWorks" "LINKS_AHEAD" "[I") (.int 0)) (.int 1)) (by decide +kernel)) (by decide) (by decide)
    | 1, _ => exact p_el (hs (Cond.eq (.elem (.static "SortWorks" "LINKS_AHEAD" "[I") (.int 1)) (.int 1)) (by decide +kernel)) (by decide) (by decide)
    | 2, _ => exact p_el (hs (Cond.eq (.elem (.static "SortWorks" "LINKS_AHEAD" "[I") (.int 2)) (.int 1)) (by decide +kernel)) (by decide) (by decide)
    | 3, _ => exact p_el (hs (Cond.eq (.elem (.static "SortWorks" "LINKS_AHEAD" "[I") (.int 3)) (.int 1)) (by decide +kernel)) (by decide) (by decide)
    | 4, _ => exact p_el (hs (Cond.eq (.elem (.static "SortWorks" "LINKS_AHEAD" "[I") (.int 4)) (.int 1)) (by decide +kernel)) (by decide) (by decide)
    | 5, _ => exact p_el (hs (Cond.eq (.elem (.static "SortWorks" "LINKS_AHEAD" "[I") (.int 5)) (.int 2)) (by decide +kernel)) (by decide) (by decide)
    | 6, _ => exact p_el (hs (Cond.eq (.elem (.static "SortWorks" "LINKS_AHEAD" "[I") (.int 6)) (.int 3)) (by decide +kernel)) (by decide) (by decide)
    | 7, _ => exact p_el (hs (Cond.eq (.elem (.static "SortWorks" "LINKS_AHEAD" "[I") (.int 7)) (.int 0)) (by decide +kernel)) (by decide) (by decide)
    | 8, _ => exact p_el (hs (Cond.eq (.elem (.static "SortWorks" "LINKS_AHEAD" "[I") (.int 8)) (.int 1)) (by decide +kernel)) (by decide) (by decide)
    | 9, _ => exact p_el (hs (Cond.eq (.elem (.static "SortWorks" "LINKS_AHEAD" "[I") (.int 9)) (.int 0)) (by decide +kernel)) (by decide) (by decide)
    | 10, _ => exact p_el (hs (Cond.eq (.elem (.static "SortWorks" "LINKS_AHEAD" "[I") (.int 10)) (.int 0)) (by decide +kernel)) (by decide) (by decide)
    | i + 11, hi => exact absurd hi (by omega)) hA
  exact ⟨t, va_Zof (hts _ (List.mem_append_right _ (p_tb3 (List.mem_of_getElem? (i := 110) (by decide +kernel)))) : (Cond.laysStatic "SortWorks" "LINKS_AHEAD" "[I").before #[Value.ref b] s = true) (hts _ (List.mem_append_right _ (p_tb1 (List.mem_of_getElem? (i := 1) (by decide +kernel)))) : (Cond.initialized "SortWorks").before #[Value.ref b] s = true) ht hA, hT⟩
set_option maxRecDepth 100000 in
theorem p_tab2 {s : State} {b : Nat} {A : Nat → Prop} (hts : ∀ w ∈ lw_tbl, w.before #[Value.ref b] s = true) (hgv : (Jvm.Cond.and given_1 narrow_1).before #[Value.ref b] s = true) (hA : ∀ a : Nat, a < s.heap.size → ¬ A a) : ∃ t : Nat, va_Z "SortWorks" "PACES" "[I" (.ref t) A s s.heap ∧ va_T .int t 11 (fun i => .int (Int32.ofInt (sw_tab 2 i))) A s s.heap := by
  have hs := flat_of_before _ hgv
  obtain ⟨t, ht, hT⟩ := va_Tof (tm := (.static "SortWorks" "PACES" "[I")) (ty := .int) (N := 11) (f := fun i => .int (Int32.ofInt (sw_tab 2 i))) (A := A) (by decide) (hs _ (by decide +kernel)) (va_eqt (hs (Cond.eq (.length (.static "SortWorks" "PACES" "[I")) (.int 11)) (by decide +kernel))) (fun i hi => by
    match i, hi with
    | 0, _ => exact p_el (hs (Cond.eq (.elem (.static "SortWorks" "PACES" "[I") (.int 0)) (.int 1)) (by decide +kernel)) (by decide) (by decide)
    | 1, _ => exact p_el (hs (Cond.eq (.elem (.static "SortWorks" "PACES" "[I") (.int 1)) (.int 2)) (by decide +kernel)) (by decide) (by decide)
    | 2, _ => exact p_el (hs (Cond.eq (.elem (.static "SortWorks" "PACES" "[I") (.int 2)) (.int 1)) (by decide +kernel)) (by decide) (by decide)
    | 3, _ => exact p_el (hs (Cond.eq (.elem (.static "SortWorks" "PACES" "[I") (.int 3)) (.int 1)) (by decide +kernel)) (by decide) (by decide)
    | 4, _ => exact p_el (hs (Cond.eq (.elem (.static "SortWorks" "PACES" "[I") (.int 4)) (.int 2)) (by decide +kernel)) (by decide) (by decide)
    | 5, _ => exact p_el (hs (Cond.eq (.elem (.static "SortWorks" "PACES" "[I") (.int 5)) (.int 1)) (by decide +kernel)) (by decide) (by decide)
    | 6, _ => exact p_el (hs (Cond.eq (.elem (.static "SortWorks" "PACES" "[I") (.int 6)) (.int 1)) (by decide +kernel)) (by decide) (by decide)
    | 7, _ => exact p_el (hs (Cond.eq (.elem (.static "SortWorks" "PACES" "[I") (.int 7)) (.int 1)) (by decide +kernel)) (by decide) (by decide)
    | 8, _ => exact p_el (hs (Cond.eq (.elem (.static "SortWorks" "PACES" "[I") (.int 8)) (.int 1)) (by decide +kernel)) (by decide) (by decide)
    | 9, _ => exact p_el (hs (Cond.eq (.elem (.static "SortWorks" "PACES" "[I") (.int 9)) (.int 1)) (by decide +kernel)) (by decide) (by decide)
    | 10, _ => exact p_el (hs (Cond.eq (.elem (.static "SortWorks" "PACES" "[I") (.int 10)) (.int 1)) (by decide +kernel)) (by decide) (by decide)
    | i + 11, hi => exact absurd hi (by omega)) hA
  exact ⟨t, va_Zof (hts _ (List.mem_append_right _ (p_tb4 (List.mem_of_getElem? (i := 196) (by decide +kernel)))) : (Cond.laysStatic "SortWorks" "PACES" "[I").before #[Value.ref b] s = true) (hts _ (List.mem_append_right _ (p_tb1 (List.mem_of_getElem? (i := 1) (by decide +kernel)))) : (Cond.initialized "SortWorks").before #[Value.ref b] s = true) ht hA, hT⟩
set_option maxRecDepth 100000 in
theorem p_tab3 {s : State} {b : Nat} {A : Nat → Prop} (hts : ∀ w ∈ lw_tbl, w.before #[Value.ref b] s = true) (hgv : (Jvm.Cond.and given_1 narrow_1).before #[Value.ref b] s = true) (hA : ∀ a : Nat, a < s.heap.size → ¬ A a) : ∃ t : Nat, va_Z "SortWorks" "BODIES" "[I" (.ref t) A s s.heap ∧ va_T .int t 33 (fun i => .int (Int32.ofInt (sw_tab 3 i))) A s s.heap := by
  have hs := flat_of_before _ hgv
  obtain ⟨t, ht, hT⟩ := va_Tof (tm := (.static "SortWorks" "BODIES" "[I")) (ty := .int) (N := 33) (f := fun i => .int (Int32.ofInt (sw_tab 3 i))) (A := A) (by decide) (hs _ (by decide +kernel)) (va_eqt (hs (Cond.eq (.length (.static "SortWorks" "BODIES" "[I")) (.int 33)) (by decide +kernel))) (fun i hi => by
    match i, hi with
    | 0, _ => exact p_el (hs (Cond.eq (.elem (.static "SortWorks" "BODIES" "[I") (.int 0)) (.int 1)) (by decide +kernel)) (by decide) (by decide)
    | 1, _ => exact p_el (hs (Cond.eq (.elem (.static "SortWorks" "BODIES" "[I") (.int 1)) (.int 0)) (by decide +kernel)) (by decide) (by decide)
    | 2, _ => exact p_el (hs (Cond.eq (.elem (.static "SortWorks" "BODIES" "[I") (.int 2)) (.int 0)) (by decide +kernel)) (by decide) (by decide)
    | 3, _ => exact p_el (hs (Cond.eq (.elem (.static "SortWorks" "BODIES" "[I") (.int 3)) (.int 2)) (by decide +kernel)) (by decide) (by decide)
    | 4, _ => exact p_el (hs (Cond.eq (.elem (.static "SortWorks" "BODIES" "[I") (.int 4)) (.int 1)) (by decide +kernel)) (by decide) (by decide)
    | 5, _ => exact p_el (hs (Cond.eq (.elem (.static "SortWorks" "BODIES" "[I") (.int 5)) (.int 0)) (by decide +kernel)) (by decide) (by decide)
    | 6, _ => exact p_el (hs (Cond.eq (.elem (.static "SortWorks" "BODIES" "[I") (.int 6)) (.int 3)) (by decide +kernel)) (by decide) (by decide)
    | 7, _ => exact p_el (hs (Cond.eq (.elem (.static "SortWorks" "BODIES" "[I") (.int 7)) (.int 1)) (by decide +kernel)) (by decide) (by decide)
    | 8, _ => exact p_el (hs (Cond.eq (.elem (.static "SortWorks" "BODIES" "[I") (.int 8)) (.int 0)) (by decide +kernel)) (by decide) (by decide)
    | 9, _ => exact p_el (hs (Cond.eq (.elem (.static "SortWorks" "BODIES" "[I") (.int 9)) (.int 4)) (by decide +kernel)) (by decide) (by decide)
    | 10, _ => exact p_el (hs (Cond.eq (.elem (.static "SortWorks" "BODIES" "[I") (.int 10)) (.int 1)) (by decide +kernel)) (by decide) (by decide)
    | 11, _ => exact p_el (hs (Cond.eq (.elem (.static "SortWorks" "BODIES" "[I") (.int 11)) (.int 0)) (by decide +kernel)) (by decide) (by decide)
    | 12, _ => exact p_el (hs (Cond.eq (.elem (.static "SortWorks" "BODIES" "[I") (.int 12)) (.int 5)) (by decide +kernel)) (by decide) (by decide)
    | 13, _ => exact p_el (hs (Cond.eq (.elem (.static "SortWorks" "BODIES" "[I") (.int 13)) (.int 4)) (by decide +kernel)) (by decide) (by decide)
    | 14, _ => exact p_el (hs (Cond.eq (.elem (.static "SortWorks" "BODIES" "[I") (.int 14)) (.int 1)) (by decide +kernel)) (by decide) (by decide)
    | 15, _ => exact p_el (hs (Cond.eq (.elem (.static "SortWorks" "BODIES" "[I") (.int 15)) (.int 6)) (by decide +kernel)) (by decide) (by decide)
    | 16, _ => exact p_el (hs (Cond.eq (.elem (.static "SortWorks" "BODIES" "[I") (.int 16)) (.int 0)) (by decide +kernel)) (by decide) (by decide)
    | 17, _ => exact p_el (hs (Cond.eq (.elem (.static "SortWorks" "BODIES" "[I") (.int 17)) (.int 0)) (by decide +kernel)) (by decide) (by decide)
    | 18, _ => exact p_el (hs (Cond.eq (.elem (.static "SortWorks" "BODIES" "[I") (.int 18)) (.int 7)) (by decide +kernel)) (by decide) (by decide)
    | 19, _ => exact p_el (hs (Cond.eq (.elem (.static "SortWorks" "BODIES" "[I") (.int 19)) (.int 6)) (by decide +kernel)) (by decide) (by decide)
    | 20, _ => exact p_el (hs (Cond.eq (.elem (.static "SortWorks" "BODIES" "[I") (.int 20)) (.int 0)) (by decide +kernel)) (by decide) (by decide)
    | 21, _ => exact p_el (hs (Cond.eq (.elem (.static "SortWorks" "BODIES" "[I") (.int 21)) (.int 8)) (by decide +kernel)) (by decide) (by decide)
    | 22, _ => exact p_el (hs (Cond.eq (.elem (.static "SortWorks" "BODIES" "[I") (.int 22)) (.int 0)) (by decide +kernel)) (by decide) (by decide)
    | 23, _ => exact p_el (hs (Cond.eq (.elem (.static "SortWorks" "BODIES" "[I") (.int 23)) (.int 0)) (by decide +kernel)) (by decide) (by decide)
    | 24, _ => exact p_el (hs (Cond.eq (.elem (.static "SortWorks" "BODIES" "[I") (.int 24)) (.int 9)) (by decide +kernel)) (by decide) (by decide)
    | 25, _ => exact p_el (hs (Cond.eq (.elem (.static "SortWorks" "BODIES" "[I") (.int 25)) (.int 0)) (by decide +kernel)) (by decide) (by decide)
    | 26, _ => exact p_el (hs (Cond.eq (.elem (.static "SortWorks" "BODIES" "[I") (.int 26)) (.int 0)) (by decide +kernel)) (by decide) (by decide)
    | 27, _ => exact p_el (hs (Cond.eq (.elem (.static "SortWorks" "BODIES" "[I") (.int 27)) (.int 10)) (by decide +kernel)) (by decide) (by decide)
    | 28, _ => exact p_el (hs (Cond.eq (.elem (.static "SortWorks" "BODIES" "[I") (.int 28)) (.int 0)) (by decide +kernel)) (by decide) (by decide)
    | 29, _ => exact p_el (hs (Cond.eq (.elem (.static "SortWorks" "BODIES" "[I") (.int 29)) (.int 0)) (by decide +kernel)) (by decide) (by decide)
    | 30, _ => exact p_el (hs (Cond.eq (.elem (.static "SortWorks" "BODIES" "[I") (.int 30)) (.int 11)) (by decide +kernel)) (by decide) (by decide)
    | 31, _ => exact p_el (hs (Cond.eq (.elem (.static "SortWorks" "BODIES" "[I") (.int 31)) (.int 0)) (by decide +kernel)) (by decide) (by decide)
    | 32, _ => exact p_el (hs (Cond.eq (.elem (.static "SortWorks" "BODIES" "[I") (.int 32)) (.int 0)) (by decide +kernel)) (by decide) (by decide)
    | i + 33, hi => exact absurd hi (by omega)) hA
  exact ⟨t, va_Zof (hts _ (List.mem_append_right _ (p_tb4 (List.mem_of_getElem? (i := 220) (by decide +kernel)))) : (Cond.laysStatic "SortWorks" "BODIES" "[I").before #[Value.ref b] s = true) (hts _ (List.mem_append_right _ (p_tb1 (List.mem_of_getElem? (i := 1) (by decide +kernel)))) : (Cond.initialized "SortWorks").before #[Value.ref b] s = true) ht hA, hT⟩
theorem p_clAt : ∀ (k : Nat) (q : vw_C), sw_cl[k]? = some q → p_Cl k q := by
  intro k q h
  match k, h with
  | 0, h => cases h; exact cl_0
  | 1, h => cases h; exact cl_1
  | 2, h => cases h; exact cl_2
  | 3, h => cases h; exact cl_3
  | 4, h => cases h; exact cl_4
  | 5, h => cases h; exact cl_5
  | 6, h => cases h; exact cl_6
  | 7, h => cases h; exact cl_7
  | 8, h => cases h; exact cl_8
  | 9, h => cases h; exact cl_9
  | 10, h => cases h; exact cl_10
  | 11, h => cases h; exact cl_11
  | k + 12, h => simp [sw_cl] at h
set_option maxRecDepth 100000 in
set_option maxHeartbeats 4000000 in
theorem p_start {s : State} {b L : Nat} {xs : Nat → Int32} (hts : ∀ w ∈ lw_tbl, w.before #[Value.ref b] s = true) (hX : va_X b L xs s s.heap) (hbl : b < s.heap.size) (hL : L ≤ 1000000) (hgv : (Jvm.Cond.and given_1 narrow_1).before #[Value.ref b] s = true) :
    ∃ K : p_K, p_E K s s.heap ∧ K.1 + 1 = s.heap.size ∧ K.2.2.2.2.1 9 = b ∧ K.2.2.2.2.2.1 = L ∧ K.2.2.2.2.2.2 = (fun i => (xs i).toInt) := by
  have hgw : ∀ w ∈ sw_gw, w.before #[Value.ref b] s = true := fun w hw => hts w (List.mem_filter.mp hw).1
  have hA : ∀ a : Nat, a < s.heap.size → ¬ (s.heap.size - 1 < a) := fun a ha => by omega
  have hk : ∀ k : Nat, ∃ (c : ClassId) (i : Nat → Nat), ∀ q : vw_C, sw_cl[k]? = some q → u_Kn s q.1 q.2.1 q.2.2 c i := by
    intro k
    cases hq : sw_cl[k]? with
    | none => exact ⟨s.heap.size, fun j => j, fun q h => by cases h⟩
    | some q =>
      have C := p_clAt k q hq
      obtain ⟨c, i, h⟩ := u_known hgw C.2.1 (hgw _ C.2.2.2.2.1)
      exact ⟨c, i, fun q' h' => by cases h'; exact h⟩
  obtain ⟨a0, r0⟩ := p_arP (ty := .int) rfl (fun C h => by cases h) (hts _ (List.mem_append_right _ (p_tb1 (List.mem_of_getElem? (i := 63) (by decide +kernel)))) : (Cond.arrayClass .int).before #[Value.ref b] s = true)
  obtain ⟨a1, r1⟩ := p_arP (ty := .long) rfl (fun C h => by cases h) (hts _ (List.mem_append_right _ (p_tb7 (List.mem_of_getElem? (i := 34) (by decide +kernel)))) : (Cond.arrayClass .long).before #[Value.ref b] s = true)
  obtain ⟨a2, r2⟩ := p_arP (ty := .boolean) rfl (fun C h => by cases h) (hts _ (List.mem_append_right _ (p_tb7 (List.mem_of_getElem? (i := 35) (by decide +kernel)))) : (Cond.arrayClass .boolean).before #[Value.ref b] s = true)
  obtain ⟨a3, r3⟩ := p_arA (t := .int) (hts _ (List.mem_append_right _ (p_tb2 (List.mem_of_getElem? (i := 98) (by decide +kernel)))) : (Cond.arrayOver (.array .int)).before #[Value.ref b] s = true)
  have o4 := (hts _ (List.mem_append_right _ (p_tb1 (List.mem_of_getElem? (i := 26) (by decide +kernel)))) : (Cond.arrayOver (.object "SortWorks$Works")).before #[Value.ref b] s = true)
  have o5 := (hts _ (List.mem_append_right _ (p_tb1 (List.mem_of_getElem? (i := 39) (by decide +kernel)))) : (Cond.arrayOver (.object "SortWorks$Gear")).before #[Value.ref b] s = true)
  have o6 := (hts _ (List.mem_append_right _ (p_tb1 (List.mem_of_getElem? (i := 41) (by decide +kernel)))) : (Cond.arrayOver (.object "SortWorks$Parcel")).before #[Value.ref b] s = true)
  have o7 := (hts _ (List.mem_append_right _ (p_tb2 (List.mem_of_getElem? (i := 99) (by decide +kernel)))) : (Cond.arrayOver (.object "SortWorks$State")).before #[Value.ref b] s = true)
  obtain ⟨a4, r4⟩ := p_arO o4
  obtain ⟨a5, r5⟩ := p_arO o5
  obtain ⟨a6, r6⟩ := p_arO o6
  obtain ⟨a7, r7⟩ := p_arO o7
  obtain ⟨t0, z0, v0⟩ := p_tab0 hts hgv hA
  obtain ⟨t1, z1, v1⟩ := p_tab1 hts hgv hA
  obtain ⟨t2, z2, v2⟩ := p_tab2 hts hgv hA
  obtain ⟨t3, z3, v3⟩ := p_tab3 hts hgv hA
  have hcast := (hts _ (List.mem_append_right _ (p_tb3 (List.mem_of_getElem? (i := 158) (by decide +kernel)))) : (Cond.castable "[I" "java/lang/Cloneable").before #[Value.ref b] s = true)
  have hover := (hts _ (List.mem_append_right _ (p_tb2 (List.mem_of_getElem? (i := 98) (by decide +kernel)))) : (Cond.arrayOver (.array .int)).before #[Value.ref b] s = true)
  refine ⟨(s.heap.size - 1, fun k => Classical.choose (hk k), fun k => Classical.choose (Classical.choose_spec (hk k)), fun i => match i with | 0 => a0 | 1 => a1 | 2 => a2 | 3 => a3 | 4 => a4 | 5 => a5 | 6 => a6 | 7 => a7 | _ => a0, fun j => match j with | 0 => t0 | 1 => t1 | 2 => t2 | 3 => t3 | _ => b, L, fun i => (xs i).toInt), ?_, by show s.heap.size - 1 + 1 = s.heap.size; omega, rfl, rfl, rfl⟩
  refine ⟨fun ci q h => Classical.choose_spec (Classical.choose_spec (hk ci)) q h, fun i ty h => ?_, fun q hq => va_Nw.of rfl (hts _ ((by decide +kernel : ∀ q ∈ sw_nf, Cond.fieldLinkNest q.1 q.2.1 q.2.2.1 q.2.2.2.1 q.2.2.2.2.1 q.2.2.2.2.2 ∈ lw_tbl) q hq)), fun q hq => va_Nw.of rfl (hts _ ((by decide +kernel : ∀ q ∈ sw_nm, Cond.methodLinkNest q.1 q.2.1 q.2.2.1 q.2.2.2 ∈ lw_tbl) q hq)), fun C hC => ?_, over_moved (Vm.Alike.refl _) hover, fun j q h => ?_, fun j hj => ?_, fun j => ?_, fun i => p_i32 _, va_Nw.of rfl hcast⟩
  · match i, h with
    | 0, h => cases h; exact r0
    | 1, h => cases h; exact r1
    | 2, h => cases h; exact r2
    | 3, h => cases h; exact r3
    | 4, h => cases h; exact r4
    | 5, h => cases h; exact r5
    | 6, h => cases h; exact r6
    | 7, h => cases h; exact r7
    | i + 8, h => simp [sw_at] at h
  · simp only [sw_ao, List.mem_cons, List.not_mem_nil, or_false] at hC
    rcases hC with rfl | rfl | rfl | rfl
    · exact va_AO.of o4
    · exact va_AO.of o5
    · exact va_AO.of o6
    · exact va_AO.of o7
  · match j, h with
    | 0, h => cases h; exact z0
    | 1, h => cases h; exact z1
    | 2, h => cases h; exact z2
    | 3, h => cases h; exact z3
    | j + 4, h => simp [sw_st] at h
  · have hj' : j = 0 ∨ j = 1 ∨ j = 2 ∨ j = 3 ∨ j = 9 := by
      rcases hj with h | h
      · have h : j < 4 := h
        omega
      · omega
    rcases hj' with rfl | rfl | rfl | rfl | rfl
    · exact v0
    · exact v1
    · exact v2
    · exact v3
    · obtain ⟨scr, x1, x2, x3, x4, x5⟩ := hX
      refine ⟨scr, x1, x2, x3, by show L ≤ _; omega, by show scr.slots.size.toInt32 = Int32.ofNat L; rw [x4], fun i hi => ?_, hA b hbl⟩
      rw [x5 i hi]
      show some (Value.int (xs i)) = some (Value.int (Int32.ofInt (xs i).toInt))
      rw [Int32.ofInt_toInt]
  · unfold p_tl
    split
    · exact hL
    · have h4 : j < 4 ∨ 4 ≤ j := by omega
      rcases h4 with h4 | h4
      · have hj' : j = 0 ∨ j = 1 ∨ j = 2 ∨ j = 3 := by omega
        rcases hj' with rfl | rfl | rfl | rfl <;> decide
      · have e : sw_tl j = 0 := by
          unfold sw_tl
          rw [List.getD_eq_getElem?_getD, List.getElem?_eq_none (show sw_tbs.length ≤ j from h4)]
          rfl
        rw [e]
        omega
end
