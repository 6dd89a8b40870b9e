section
-- ===== PART A: goes FIRST, ahead of the names: the tables' words, and 'selects' of the private methods out of them =====
/-- a private method of a class that the tables say can be made, by its rows of tables_1 -/
def lw_okq (q : MethodName × Nat) : Prop := (q.1.cls ≠ "java/lang/invoke/MethodHandle" ∧ q.1.cls ≠ "java/lang/invoke/VarHandle") ∧ Cond.instantiable q.1.cls q.2 ∈ tables_1 ∧ Cond.privateMethod q.1 ∈ tables_1 ∧ Cond.instanceMethod q.1 ∈ tables_1
theorem lw_p0 : lw_okq (⟨"SortWorks", "refuse", "(I)I"⟩, 9) := ⟨⟨by decide +kernel, by decide +kernel⟩, List.mem_of_getElem? (i := 18) (by decide +kernel), List.mem_of_getElem? (i := 531) (by decide +kernel), List.mem_of_getElem? (i := 532) (by decide +kernel)⟩
theorem lw_p1 : lw_okq (⟨"SortWorks", "done", "(I)I"⟩, 9) := ⟨⟨by decide +kernel, by decide +kernel⟩, List.mem_of_getElem? (i := 18) (by decide +kernel), List.mem_of_getElem? (i := 535) (by decide +kernel), List.mem_of_getElem? (i := 536) (by decide +kernel)⟩
theorem lw_p2 : lw_okq (⟨"SortWorks", "built", "(I)I"⟩, 9) := ⟨⟨by decide +kernel, by decide +kernel⟩, List.mem_of_getElem? (i := 18) (by decide +kernel), List.mem_of_getElem? (i := 555) (by decide +kernel), List.mem_of_getElem? (i := 556) (by decide +kernel)⟩
theorem lw_p3 : lw_okq (⟨"SortWorks$Judge", "takeRule", "(I)Z"⟩, 4) := ⟨⟨by decide +kernel, by decide +kernel⟩, List.mem_of_getElem? (i := 477) (by decide +kernel), List.mem_of_getElem? (i := 670) (by decide +kernel), List.mem_of_getElem? (i := 671) (by decide +kernel)⟩
theorem lw_p4 : lw_okq (⟨"SortWorks$Judge", "next", "()I"⟩, 4) := ⟨⟨by decide +kernel, by decide +kernel⟩, List.mem_of_getElem? (i := 477) (by decide +kernel), List.mem_of_getElem? (i := 674) (by decide +kernel), List.mem_of_getElem? (i := 675) (by decide +kernel)⟩
theorem lw_p5 : lw_okq (⟨"SortWorks$Judge", "takeTests", "(I)Z"⟩, 4) := ⟨⟨by decide +kernel, by decide +kernel⟩, List.mem_of_getElem? (i := 477) (by decide +kernel), List.mem_of_getElem? (i := 678) (by decide +kernel), List.mem_of_getElem? (i := 679) (by decide +kernel)⟩
theorem lw_p6 : lw_okq (⟨"SortWorks$Judge", "takeTest", "(I)Z"⟩, 4) := ⟨⟨by decide +kernel, by decide +kernel⟩, List.mem_of_getElem? (i := 477) (by decide +kernel), List.mem_of_getElem? (i := 682) (by decide +kernel), List.mem_of_getElem? (i := 683) (by decide +kernel)⟩
theorem lw_p7 : lw_okq (⟨"SortWorks$Judge", "take", "(I)Z"⟩, 4) := ⟨⟨by decide +kernel, by decide +kernel⟩, List.mem_of_getElem? (i := 477) (by decide +kernel), List.mem_of_getElem? (i := 686) (by decide +kernel), List.mem_of_getElem? (i := 687) (by decide +kernel)⟩
theorem lw_p8 : lw_okq (⟨"SortWorks$Judge", "takeNumber", "()I"⟩, 4) := ⟨⟨by decide +kernel, by decide +kernel⟩, List.mem_of_getElem? (i := 477) (by decide +kernel), List.mem_of_getElem? (i := 690) (by decide +kernel), List.mem_of_getElem? (i := 691) (by decide +kernel)⟩
theorem lw_p9 : lw_okq (⟨"SortWorks$Judge", "takeTold", "(I)Z"⟩, 4) := ⟨⟨by decide +kernel, by decide +kernel⟩, List.mem_of_getElem? (i := 477) (by decide +kernel), List.mem_of_getElem? (i := 694) (by decide +kernel), List.mem_of_getElem? (i := 695) (by decide +kernel)⟩
theorem lw_p10 : lw_okq (⟨"SortWorks", "newParcel", "()LSortWorks$Parcel;"⟩, 9) := ⟨⟨by decide +kernel, by decide +kernel⟩, List.mem_of_getElem? (i := 18) (by decide +kernel), List.mem_of_getElem? (i := 715) (by decide +kernel), List.mem_of_getElem? (i := 716) (by decide +kernel)⟩
theorem lw_p11 : lw_okq (⟨"SortWorks$State", "setDown", "(LSortWorks$Parcel;I)V"⟩, 9) := ⟨⟨by decide +kernel, by decide +kernel⟩, List.mem_of_getElem? (i := 33) (by decide +kernel), List.mem_of_getElem? (i := 734) (by decide +kernel), List.mem_of_getElem? (i := 735) (by decide +kernel)⟩
theorem lw_p12 : lw_okq (⟨"SortWorks$Parcel", "writeFormA", "(I)V"⟩, 13) := ⟨⟨by decide +kernel, by decide +kernel⟩, List.mem_of_getElem? (i := 161) (by decide +kernel), List.mem_of_getElem? (i := 758) (by decide +kernel), List.mem_of_getElem? (i := 759) (by decide +kernel)⟩
theorem lw_p13 : lw_okq (⟨"SortWorks$Parcel", "writeFormB", "(I)V"⟩, 13) := ⟨⟨by decide +kernel, by decide +kernel⟩, List.mem_of_getElem? (i := 161) (by decide +kernel), List.mem_of_getElem? (i := 762) (by decide +kernel), List.mem_of_getElem? (i := 763) (by decide +kernel)⟩
theorem lw_p14 : lw_okq (⟨"SortWorks$Step", "doPlan", "(I)V"⟩, 5) := ⟨⟨by decide +kernel, by decide +kernel⟩, List.mem_of_getElem? (i := 429) (by decide +kernel), List.mem_of_getElem? (i := 877) (by decide +kernel), List.mem_of_getElem? (i := 878) (by decide +kernel)⟩
theorem lw_p15 : lw_okq (⟨"SortWorks$Step", "planFault", "([II)I"⟩, 5) := ⟨⟨by decide +kernel, by decide +kernel⟩, List.mem_of_getElem? (i := 429) (by decide +kernel), List.mem_of_getElem? (i := 881) (by decide +kernel), List.mem_of_getElem? (i := 882) (by decide +kernel)⟩
def lw_privs_1 : List (MethodName × Nat) := [(⟨"SortWorks", "refuse", "(I)I"⟩, 9), (⟨"SortWorks", "done", "(I)I"⟩, 9), (⟨"SortWorks", "built", "(I)I"⟩, 9), (⟨"SortWorks$Judge", "takeRule", "(I)Z"⟩, 4), (⟨"SortWorks$Judge", "next", "()I"⟩, 4), (⟨"SortWorks$Judge", "takeTests", "(I)Z"⟩, 4), (⟨"SortWorks$Judge", "takeTest", "(I)Z"⟩, 4), (⟨"SortWorks$Judge", "take", "(I)Z"⟩, 4), (⟨"SortWorks$Judge", "takeNumber", "()I"⟩, 4), (⟨"SortWorks$Judge", "takeTold", "(I)Z"⟩, 4), (⟨"SortWorks", "newParcel", "()LSortWorks$Parcel;"⟩, 9), (⟨"SortWorks$State", "setDown", "(LSortWorks$Parcel;I)V"⟩, 9), (⟨"SortWorks$Parcel", "writeFormA", "(I)V"⟩, 13), (⟨"SortWorks$Parcel", "writeFormB", "(I)V"⟩, 13), (⟨"SortWorks$Step", "doPlan", "(I)V"⟩, 5), (⟨"SortWorks$Step", "planFault", "([II)I"⟩, 5)]
theorem lw_r1 : ∀ q ∈ lw_privs_1, lw_okq q := List.forall_mem_cons.mpr ⟨lw_p0, List.forall_mem_cons.mpr ⟨lw_p1, List.forall_mem_cons.mpr ⟨lw_p2, List.forall_mem_cons.mpr ⟨lw_p3, List.forall_mem_cons.mpr ⟨lw_p4, List.forall_mem_cons.mpr ⟨lw_p5, List.forall_mem_cons.mpr ⟨lw_p6, List.forall_mem_cons.mpr ⟨lw_p7, List.forall_mem_cons.mpr ⟨lw_p8, List.forall_mem_cons.mpr ⟨lw_p9, List.forall_mem_cons.mpr ⟨lw_p10, List.forall_mem_cons.mpr ⟨lw_p11, List.forall_mem_cons.mpr ⟨lw_p12, List.forall_mem_cons.mpr ⟨lw_p13, List.forall_mem_cons.mpr ⟨lw_p14, List.forall_mem_cons.mpr ⟨lw_p15, fun _ h => absurd h List.not_mem_nil⟩⟩⟩⟩⟩⟩⟩⟩⟩⟩⟩⟩⟩⟩⟩⟩
theorem lw_p16 : lw_okq (⟨"SortWorks$Step", "addFinding", "(IIII)V"⟩, 5) := ⟨⟨by decide +kernel, by decide +kernel⟩, List.mem_of_getElem? (i := 429) (by decide +kernel), List.mem_of_getElem? (i := 895) (by decide +kernel), List.mem_of_getElem? (i := 896) (by decide +kernel)⟩
theorem lw_p17 : lw_okq (⟨"SortWorks$Step", "letMergesChoose", "()V"⟩, 5) := ⟨⟨by decide +kernel, by decide +kernel⟩, List.mem_of_getElem? (i := 429) (by decide +kernel), List.mem_of_getElem? (i := 903) (by decide +kernel), List.mem_of_getElem? (i := 904) (by decide +kernel)⟩
theorem lw_p18 : lw_okq (⟨"SortWorks$Step", "isReadyToGive", "(LSortWorks$Gear;)Z"⟩, 5) := ⟨⟨by decide +kernel, by decide +kernel⟩, List.mem_of_getElem? (i := 429) (by decide +kernel), List.mem_of_getElem? (i := 907) (by decide +kernel), List.mem_of_getElem? (i := 908) (by decide +kernel)⟩
theorem lw_p19 : lw_okq (⟨"SortWorks$Step", "isInStep", "(LSortWorks$Gear;)Z"⟩, 5) := ⟨⟨by decide +kernel, by decide +kernel⟩, List.mem_of_getElem? (i := 429) (by decide +kernel), List.mem_of_getElem? (i := 912) (by decide +kernel), List.mem_of_getElem? (i := 913) (by decide +kernel)⟩
theorem lw_p20 : lw_okq (⟨"SortWorks$Step", "isBetter", "(ILSortWorks$Gear;)Z"⟩, 5) := ⟨⟨by decide +kernel, by decide +kernel⟩, List.mem_of_getElem? (i := 429) (by decide +kernel), List.mem_of_getElem? (i := 932) (by decide +kernel), List.mem_of_getElem? (i := 933) (by decide +kernel)⟩
theorem lw_p21 : lw_okq (⟨"SortWorks$Step", "act", "(I)V"⟩, 5) := ⟨⟨by decide +kernel, by decide +kernel⟩, List.mem_of_getElem? (i := 429) (by decide +kernel), List.mem_of_getElem? (i := 936) (by decide +kernel), List.mem_of_getElem? (i := 937) (by decide +kernel)⟩
theorem lw_p22 : lw_okq (⟨"SortWorks$Step", "addTrace", "(I)V"⟩, 5) := ⟨⟨by decide +kernel, by decide +kernel⟩, List.mem_of_getElem? (i := 429) (by decide +kernel), List.mem_of_getElem? (i := 942) (by decide +kernel), List.mem_of_getElem? (i := 943) (by decide +kernel)⟩
theorem lw_p23 : lw_okq (⟨"SortWorks$Step", "scan", "(ILSortWorks$Gear;)Z"⟩, 5) := ⟨⟨by decide +kernel, by decide +kernel⟩, List.mem_of_getElem? (i := 429) (by decide +kernel), List.mem_of_getElem? (i := 947) (by decide +kernel), List.mem_of_getElem? (i := 948) (by decide +kernel)⟩
theorem lw_p24 : lw_okq (⟨"SortWorks$Reading", "readFormA", "(LSortWorks$Parcel;)I"⟩, 5) := ⟨⟨by decide +kernel, by decide +kernel⟩, List.mem_of_getElem? (i := 435) (by decide +kernel), List.mem_of_getElem? (i := 955) (by decide +kernel), List.mem_of_getElem? (i := 956) (by decide +kernel)⟩
theorem lw_p25 : lw_okq (⟨"SortWorks$Reading", "readFormB", "(LSortWorks$Parcel;)I"⟩, 5) := ⟨⟨by decide +kernel, by decide +kernel⟩, List.mem_of_getElem? (i := 435) (by decide +kernel), List.mem_of_getElem? (i := 959) (by decide +kernel), List.mem_of_getElem? (i := 960) (by decide +kernel)⟩
theorem lw_p26 : lw_okq (⟨"SortWorks$Step", "targetByRules", "(I)I"⟩, 5) := ⟨⟨by decide +kernel, by decide +kernel⟩, List.mem_of_getElem? (i := 429) (by decide +kernel), List.mem_of_getElem? (i := 963) (by decide +kernel), List.mem_of_getElem? (i := 964) (by decide +kernel)⟩
theorem lw_p27 : lw_okq (⟨"SortWorks$Step", "holds", "(I)I"⟩, 5) := ⟨⟨by decide +kernel, by decide +kernel⟩, List.mem_of_getElem? (i := 429) (by decide +kernel), List.mem_of_getElem? (i := 967) (by decide +kernel), List.mem_of_getElem? (i := 968) (by decide +kernel)⟩
theorem lw_p28 : lw_okq (⟨"SortWorks$Step", "quotient", "(I)I"⟩, 5) := ⟨⟨by decide +kernel, by decide +kernel⟩, List.mem_of_getElem? (i := 429) (by decide +kernel), List.mem_of_getElem? (i := 971) (by decide +kernel), List.mem_of_getElem? (i := 972) (by decide +kernel)⟩
theorem lw_p29 : lw_okq (⟨"SortWorks$Step", "plainValue", "(I)I"⟩, 5) := ⟨⟨by decide +kernel, by decide +kernel⟩, List.mem_of_getElem? (i := 429) (by decide +kernel), List.mem_of_getElem? (i := 976) (by decide +kernel), List.mem_of_getElem? (i := 977) (by decide +kernel)⟩
theorem lw_p30 : lw_okq (⟨"SortWorks$Step", "passOn", "(ILSortWorks$Gear;Z)V"⟩, 5) := ⟨⟨by decide +kernel, by decide +kernel⟩, List.mem_of_getElem? (i := 429) (by decide +kernel), List.mem_of_getElem? (i := 983) (by decide +kernel), List.mem_of_getElem? (i := 984) (by decide +kernel)⟩
theorem lw_p31 : lw_okq (⟨"SortWorks$Step", "giveOut", "(ILSortWorks$Gear;LSortWorks$Parcel;)Z"⟩, 5) := ⟨⟨by decide +kernel, by decide +kernel⟩, List.mem_of_getElem? (i := 429) (by decide +kernel), List.mem_of_getElem? (i := 987) (by decide +kernel), List.mem_of_getElem? (i := 988) (by decide +kernel)⟩
def lw_privs_2 : List (MethodName × Nat) := [(⟨"SortWorks$Step", "addFinding", "(IIII)V"⟩, 5), (⟨"SortWorks$Step", "letMergesChoose", "()V"⟩, 5), (⟨"SortWorks$Step", "isReadyToGive", "(LSortWorks$Gear;)Z"⟩, 5), (⟨"SortWorks$Step", "isInStep", "(LSortWorks$Gear;)Z"⟩, 5), (⟨"SortWorks$Step", "isBetter", "(ILSortWorks$Gear;)Z"⟩, 5), (⟨"SortWorks$Step", "act", "(I)V"⟩, 5), (⟨"SortWorks$Step", "addTrace", "(I)V"⟩, 5), (⟨"SortWorks$Step", "scan", "(ILSortWorks$Gear;)Z"⟩, 5), (⟨"SortWorks$Reading", "readFormA", "(LSortWorks$Parcel;)I"⟩, 5), (⟨"SortWorks$Reading", "readFormB", "(LSortWorks$Parcel;)I"⟩, 5), (⟨"SortWorks$Step", "targetByRules", "(I)I"⟩, 5), (⟨"SortWorks$Step", "holds", "(I)I"⟩, 5), (⟨"SortWorks$Step", "quotient", "(I)I"⟩, 5), (⟨"SortWorks$Step", "plainValue", "(I)I"⟩, 5), (⟨"SortWorks$Step", "passOn", "(ILSortWorks$Gear;Z)V"⟩, 5), (⟨"SortWorks$Step", "giveOut", "(ILSortWorks$Gear;LSortWorks$Parcel;)Z"⟩, 5)]
theorem lw_r2 : ∀ q ∈ lw_privs_2, lw_okq q := List.forall_mem_cons.mpr ⟨lw_p16, List.forall_mem_cons.mpr ⟨lw_p17, List.forall_mem_cons.mpr ⟨lw_p18, List.forall_mem_cons.mpr ⟨lw_p19, List.forall_mem_cons.mpr ⟨lw_p20, List.forall_mem_cons.mpr ⟨lw_p21, List.forall_mem_cons.mpr ⟨lw_p22, List.forall_mem_cons.mpr ⟨lw_p23, List.forall_mem_cons.mpr ⟨lw_p24, List.forall_mem_cons.mpr ⟨lw_p25, List.forall_mem_cons.mpr ⟨lw_p26, List.forall_mem_cons.mpr ⟨lw_p27, List.forall_mem_cons.mpr ⟨lw_p28, List.forall_mem_cons.mpr ⟨lw_p29, List.forall_mem_cons.mpr ⟨lw_p30, List.forall_mem_cons.mpr ⟨lw_p31, fun _ h => absurd h List.not_mem_nil⟩⟩⟩⟩⟩⟩⟩⟩⟩⟩⟩⟩⟩⟩⟩⟩
theorem lw_p32 : lw_okq (⟨"SortWorks$Step", "leaveBy", "(IILSortWorks$Parcel;)V"⟩, 5) := ⟨⟨by decide +kernel, by decide +kernel⟩, List.mem_of_getElem? (i := 429) (by decide +kernel), List.mem_of_getElem? (i := 991) (by decide +kernel), List.mem_of_getElem? (i := 992) (by decide +kernel)⟩
theorem lw_p33 : lw_okq (⟨"SortWorks$Step", "giveOn", "(ILSortWorks$Gear;LSortWorks$Parcel;)Z"⟩, 5) := ⟨⟨by decide +kernel, by decide +kernel⟩, List.mem_of_getElem? (i := 429) (by decide +kernel), List.mem_of_getElem? (i := 1000) (by decide +kernel), List.mem_of_getElem? (i := 1001) (by decide +kernel)⟩
theorem lw_p34 : lw_okq (⟨"SortWorks$Step", "takes", "(III)Z"⟩, 5) := ⟨⟨by decide +kernel, by decide +kernel⟩, List.mem_of_getElem? (i := 429) (by decide +kernel), List.mem_of_getElem? (i := 1004) (by decide +kernel), List.mem_of_getElem? (i := 1005) (by decide +kernel)⟩
theorem lw_p35 : lw_okq (⟨"SortWorks$Step", "mergeTakes", "(LSortWorks$Gear;I)Z"⟩, 5) := ⟨⟨by decide +kernel, by decide +kernel⟩, List.mem_of_getElem? (i := 429) (by decide +kernel), List.mem_of_getElem? (i := 1008) (by decide +kernel), List.mem_of_getElem? (i := 1009) (by decide +kernel)⟩
theorem lw_p36 : lw_okq (⟨"SortWorks$Step", "moveUp", "(LSortWorks$Gear;)V"⟩, 5) := ⟨⟨by decide +kernel, by decide +kernel⟩, List.mem_of_getElem? (i := 429) (by decide +kernel), List.mem_of_getElem? (i := 1023) (by decide +kernel), List.mem_of_getElem? (i := 1024) (by decide +kernel)⟩
theorem lw_p37 : lw_okq (⟨"SortWorks$Step", "setDial", "(ILSortWorks$Gear;)V"⟩, 5) := ⟨⟨by decide +kernel, by decide +kernel⟩, List.mem_of_getElem? (i := 429) (by decide +kernel), List.mem_of_getElem? (i := 1028) (by decide +kernel), List.mem_of_getElem? (i := 1029) (by decide +kernel)⟩
theorem lw_p38 : lw_okq (⟨"SortWorks$Step", "lampOf", "(LSortWorks$Gear;)I"⟩, 5) := ⟨⟨by decide +kernel, by decide +kernel⟩, List.mem_of_getElem? (i := 429) (by decide +kernel), List.mem_of_getElem? (i := 1032) (by decide +kernel), List.mem_of_getElem? (i := 1033) (by decide +kernel)⟩
theorem lw_p39 : lw_okq (⟨"SortWorks", "comeByNight", "(III)I"⟩, 9) := ⟨⟨by decide +kernel, by decide +kernel⟩, List.mem_of_getElem? (i := 18) (by decide +kernel), List.mem_of_getElem? (i := 1044) (by decide +kernel), List.mem_of_getElem? (i := 1045) (by decide +kernel)⟩
theorem lw_p40 : lw_okq (⟨"SortWorks$Parcel", "raiseLastByte", "()V"⟩, 13) := ⟨⟨by decide +kernel, by decide +kernel⟩, List.mem_of_getElem? (i := 161) (by decide +kernel), List.mem_of_getElem? (i := 1052) (by decide +kernel), List.mem_of_getElem? (i := 1053) (by decide +kernel)⟩
theorem lw_p41 : lw_okq (⟨"SortWorks$Works", "goAhead", "(II)Z"⟩, 16) := ⟨⟨by decide +kernel, by decide +kernel⟩, List.mem_of_getElem? (i := 27) (by decide +kernel), List.mem_of_getElem? (i := 1159) (by decide +kernel), List.mem_of_getElem? (i := 1160) (by decide +kernel)⟩
theorem lw_p42 : lw_okq (⟨"SortWorks", "mixedGear", "(JLSortWorks$Gear;)J"⟩, 9) := ⟨⟨by decide +kernel, by decide +kernel⟩, List.mem_of_getElem? (i := 18) (by decide +kernel), List.mem_of_getElem? (i := 1193) (by decide +kernel), List.mem_of_getElem? (i := 1194) (by decide +kernel)⟩
theorem lw_p43 : lw_okq (⟨"SortWorksModel", "refused", "(I)I"⟩, 90) := ⟨⟨by decide +kernel, by decide +kernel⟩, List.mem_of_getElem? (i := 1197) (by decide +kernel), List.mem_of_getElem? (i := 1485) (by decide +kernel), List.mem_of_getElem? (i := 1486) (by decide +kernel)⟩
theorem lw_p44 : lw_okq (⟨"SortWorksModel", "well", "(I)I"⟩, 90) := ⟨⟨by decide +kernel, by decide +kernel⟩, List.mem_of_getElem? (i := 1197) (by decide +kernel), List.mem_of_getElem? (i := 1489) (by decide +kernel), List.mem_of_getElem? (i := 1490) (by decide +kernel)⟩
theorem lw_p45 : lw_okq (⟨"SortWorksModel", "g", "(I)I"⟩, 90) := ⟨⟨by decide +kernel, by decide +kernel⟩, List.mem_of_getElem? (i := 1197) (by decide +kernel), List.mem_of_getElem? (i := 1502) (by decide +kernel), List.mem_of_getElem? (i := 1503) (by decide +kernel)⟩
theorem lw_p46 : lw_okq (⟨"SortWorksModel", "fresh", "(II)V"⟩, 90) := ⟨⟨by decide +kernel, by decide +kernel⟩, List.mem_of_getElem? (i := 1197) (by decide +kernel), List.mem_of_getElem? (i := 1506) (by decide +kernel), List.mem_of_getElem? (i := 1507) (by decide +kernel)⟩
theorem lw_p47 : lw_okq (⟨"SortWorksModel", "built", "(I)I"⟩, 90) := ⟨⟨by decide +kernel, by decide +kernel⟩, List.mem_of_getElem? (i := 1197) (by decide +kernel), List.mem_of_getElem? (i := 1516) (by decide +kernel), List.mem_of_getElem? (i := 1517) (by decide +kernel)⟩
def lw_privs_3 : List (MethodName × Nat) := [(⟨"SortWorks$Step", "leaveBy", "(IILSortWorks$Parcel;)V"⟩, 5), (⟨"SortWorks$Step", "giveOn", "(ILSortWorks$Gear;LSortWorks$Parcel;)Z"⟩, 5), (⟨"SortWorks$Step", "takes", "(III)Z"⟩, 5), (⟨"SortWorks$Step", "mergeTakes", "(LSortWorks$Gear;I)Z"⟩, 5), (⟨"SortWorks$Step", "moveUp", "(LSortWorks$Gear;)V"⟩, 5), (⟨"SortWorks$Step", "setDial", "(ILSortWorks$Gear;)V"⟩, 5), (⟨"SortWorks$Step", "lampOf", "(LSortWorks$Gear;)I"⟩, 5), (⟨"SortWorks", "comeByNight", "(III)I"⟩, 9), (⟨"SortWorks$Parcel", "raiseLastByte", "()V"⟩, 13), (⟨"SortWorks$Works", "goAhead", "(II)Z"⟩, 16), (⟨"SortWorks", "mixedGear", "(JLSortWorks$Gear;)J"⟩, 9), (⟨"SortWorksModel", "refused", "(I)I"⟩, 90), (⟨"SortWorksModel", "well", "(I)I"⟩, 90), (⟨"SortWorksModel", "g", "(I)I"⟩, 90), (⟨"SortWorksModel", "fresh", "(II)V"⟩, 90), (⟨"SortWorksModel", "built", "(I)I"⟩, 90)]
theorem lw_r3 : ∀ q ∈ lw_privs_3, lw_okq q := List.forall_mem_cons.mpr ⟨lw_p32, List.forall_mem_cons.mpr ⟨lw_p33, List.forall_mem_cons.mpr ⟨lw_p34, List.forall_mem_cons.mpr ⟨lw_p35, List.forall_mem_cons.mpr ⟨lw_p36, List.forall_mem_cons.mpr ⟨lw_p37, List.forall_mem_cons.mpr ⟨lw_p38, List.forall_mem_cons.mpr ⟨lw_p39, List.forall_mem_cons.mpr ⟨lw_p40, List.forall_mem_cons.mpr ⟨lw_p41, List.forall_mem_cons.mpr ⟨lw_p42, List.forall_mem_cons.mpr ⟨lw_p43, List.forall_mem_cons.mpr ⟨lw_p44, List.forall_mem_cons.mpr ⟨lw_p45, List.forall_mem_cons.mpr ⟨lw_p46, List.forall_mem_cons.mpr ⟨lw_p47, fun _ h => absurd h List.not_mem_nil⟩⟩⟩⟩⟩⟩⟩⟩⟩⟩⟩⟩⟩⟩⟩⟩
theorem lw_p48 : lw_okq (⟨"SortWorksModel", "noGear", "(I)Z"⟩, 90) := ⟨⟨by decide +kernel, by decide +kernel⟩, List.mem_of_getElem? (i := 1197) (by decide +kernel), List.mem_of_getElem? (i := 1524) (by decide +kernel), List.mem_of_getElem? (i := 1525) (by decide +kernel)⟩
theorem lw_p49 : lw_okq (⟨"SortWorksModel", "faulted", "(I)I"⟩, 90) := ⟨⟨by decide +kernel, by decide +kernel⟩, List.mem_of_getElem? (i := 1197) (by decide +kernel), List.mem_of_getElem? (i := 1528) (by decide +kernel), List.mem_of_getElem? (i := 1529) (by decide +kernel)⟩
theorem lw_p50 : lw_okq (⟨"SortWorksModel", "loadOf", "(I)I"⟩, 90) := ⟨⟨by decide +kernel, by decide +kernel⟩, List.mem_of_getElem? (i := 1197) (by decide +kernel), List.mem_of_getElem? (i := 1554) (by decide +kernel), List.mem_of_getElem? (i := 1555) (by decide +kernel)⟩
theorem lw_p51 : lw_okq (⟨"SortWorksModel", "copyGear", "(II)V"⟩, 90) := ⟨⟨by decide +kernel, by decide +kernel⟩, List.mem_of_getElem? (i := 1197) (by decide +kernel), List.mem_of_getElem? (i := 1562) (by decide +kernel), List.mem_of_getElem? (i := 1563) (by decide +kernel)⟩
theorem lw_p52 : lw_okq (⟨"SortWorksModel", "copyRule", "(II)V"⟩, 90) := ⟨⟨by decide +kernel, by decide +kernel⟩, List.mem_of_getElem? (i := 1197) (by decide +kernel), List.mem_of_getElem? (i := 1566) (by decide +kernel), List.mem_of_getElem? (i := 1567) (by decide +kernel)⟩
theorem lw_p53 : lw_okq (⟨"SortWorksModel", "rule", "(I)Z"⟩, 90) := ⟨⟨by decide +kernel, by decide +kernel⟩, List.mem_of_getElem? (i := 1197) (by decide +kernel), List.mem_of_getElem? (i := 1580) (by decide +kernel), List.mem_of_getElem? (i := 1581) (by decide +kernel)⟩
theorem lw_p54 : lw_okq (⟨"SortWorksModel", "wrong", "(I)Z"⟩, 90) := ⟨⟨by decide +kernel, by decide +kernel⟩, List.mem_of_getElem? (i := 1197) (by decide +kernel), List.mem_of_getElem? (i := 1584) (by decide +kernel), List.mem_of_getElem? (i := 1585) (by decide +kernel)⟩
theorem lw_p55 : lw_okq (⟨"SortWorksModel", "here", "()I"⟩, 90) := ⟨⟨by decide +kernel, by decide +kernel⟩, List.mem_of_getElem? (i := 1197) (by decide +kernel), List.mem_of_getElem? (i := 1588) (by decide +kernel), List.mem_of_getElem? (i := 1589) (by decide +kernel)⟩
theorem lw_p56 : lw_okq (⟨"SortWorksModel", "test", "(I)Z"⟩, 90) := ⟨⟨by decide +kernel, by decide +kernel⟩, List.mem_of_getElem? (i := 1197) (by decide +kernel), List.mem_of_getElem? (i := 1592) (by decide +kernel), List.mem_of_getElem? (i := 1593) (by decide +kernel)⟩
theorem lw_p57 : lw_okq (⟨"SortWorksModel", "number", "()Z"⟩, 90) := ⟨⟨by decide +kernel, by decide +kernel⟩, List.mem_of_getElem? (i := 1197) (by decide +kernel), List.mem_of_getElem? (i := 1596) (by decide +kernel), List.mem_of_getElem? (i := 1597) (by decide +kernel)⟩
theorem lw_p58 : lw_okq (⟨"SortWorksModel", "sign", "()Z"⟩, 90) := ⟨⟨by decide +kernel, by decide +kernel⟩, List.mem_of_getElem? (i := 1197) (by decide +kernel), List.mem_of_getElem? (i := 1603) (by decide +kernel), List.mem_of_getElem? (i := 1604) (by decide +kernel)⟩
theorem lw_p59 : lw_okq (⟨"SortWorksModel", "comesFull", "()Z"⟩, 90) := ⟨⟨by decide +kernel, by decide +kernel⟩, List.mem_of_getElem? (i := 1197) (by decide +kernel), List.mem_of_getElem? (i := 1621) (by decide +kernel), List.mem_of_getElem? (i := 1622) (by decide +kernel)⟩
theorem lw_p60 : lw_okq (⟨"SortWorksModel", "newParcel", "(III)I"⟩, 90) := ⟨⟨by decide +kernel, by decide +kernel⟩, List.mem_of_getElem? (i := 1197) (by decide +kernel), List.mem_of_getElem? (i := 1625) (by decide +kernel), List.mem_of_getElem? (i := 1626) (by decide +kernel)⟩
theorem lw_p61 : lw_okq (⟨"SortWorksModel", "enters", "(II)V"⟩, 90) := ⟨⟨by decide +kernel, by decide +kernel⟩, List.mem_of_getElem? (i := 1197) (by decide +kernel), List.mem_of_getElem? (i := 1629) (by decide +kernel), List.mem_of_getElem? (i := 1630) (by decide +kernel)⟩
theorem lw_p62 : lw_okq (⟨"SortWorksModel", "noParcel", "(I)Z"⟩, 90) := ⟨⟨by decide +kernel, by decide +kernel⟩, List.mem_of_getElem? (i := 1197) (by decide +kernel), List.mem_of_getElem? (i := 1637) (by decide +kernel), List.mem_of_getElem? (i := 1638) (by decide +kernel)⟩
theorem lw_p63 : lw_okq (⟨"SortWorksModel", "newLabel", "(II)V"⟩, 90) := ⟨⟨by decide +kernel, by decide +kernel⟩, List.mem_of_getElem? (i := 1197) (by decide +kernel), List.mem_of_getElem? (i := 1641) (by decide +kernel), List.mem_of_getElem? (i := 1642) (by decide +kernel)⟩
def lw_privs_4 : List (MethodName × Nat) := [(⟨"SortWorksModel", "noGear", "(I)Z"⟩, 90), (⟨"SortWorksModel", "faulted", "(I)I"⟩, 90), (⟨"SortWorksModel", "loadOf", "(I)I"⟩, 90), (⟨"SortWorksModel", "copyGear", "(II)V"⟩, 90), (⟨"SortWorksModel", "copyRule", "(II)V"⟩, 90), (⟨"SortWorksModel", "rule", "(I)Z"⟩, 90), (⟨"SortWorksModel", "wrong", "(I)Z"⟩, 90), (⟨"SortWorksModel", "here", "()I"⟩, 90), (⟨"SortWorksModel", "test", "(I)Z"⟩, 90), (⟨"SortWorksModel", "number", "()Z"⟩, 90), (⟨"SortWorksModel", "sign", "()Z"⟩, 90), (⟨"SortWorksModel", "comesFull", "()Z"⟩, 90), (⟨"SortWorksModel", "newParcel", "(III)I"⟩, 90), (⟨"SortWorksModel", "enters", "(II)V"⟩, 90), (⟨"SortWorksModel", "noParcel", "(I)Z"⟩, 90), (⟨"SortWorksModel", "newLabel", "(II)V"⟩, 90)]
theorem lw_r4 : ∀ q ∈ lw_privs_4, lw_okq q := List.forall_mem_cons.mpr ⟨lw_p48, List.forall_mem_cons.mpr ⟨lw_p49, List.forall_mem_cons.mpr ⟨lw_p50, List.forall_mem_cons.mpr ⟨lw_p51, List.forall_mem_cons.mpr ⟨lw_p52, List.forall_mem_cons.mpr ⟨lw_p53, List.forall_mem_cons.mpr ⟨lw_p54, List.forall_mem_cons.mpr ⟨lw_p55, List.forall_mem_cons.mpr ⟨lw_p56, List.forall_mem_cons.mpr ⟨lw_p57, List.forall_mem_cons.mpr ⟨lw_p58, List.forall_mem_cons.mpr ⟨lw_p59, List.forall_mem_cons.mpr ⟨lw_p60, List.forall_mem_cons.mpr ⟨lw_p61, List.forall_mem_cons.mpr ⟨lw_p62, List.forall_mem_cons.mpr ⟨lw_p63, fun _ h => absurd h List.not_mem_nil⟩⟩⟩⟩⟩⟩⟩⟩⟩⟩⟩⟩⟩⟩⟩⟩
theorem lw_p64 : lw_okq (⟨"SortWorksModel", "tags", "(III)V"⟩, 90) := ⟨⟨by decide +kernel, by decide +kernel⟩, List.mem_of_getElem? (i := 1197) (by decide +kernel), List.mem_of_getElem? (i := 1654) (by decide +kernel), List.mem_of_getElem? (i := 1655) (by decide +kernel)⟩
theorem lw_p65 : lw_okq (⟨"SortWorksModel", "isJammed", "(I)Z"⟩, 90) := ⟨⟨by decide +kernel, by decide +kernel⟩, List.mem_of_getElem? (i := 1197) (by decide +kernel), List.mem_of_getElem? (i := 1675) (by decide +kernel), List.mem_of_getElem? (i := 1676) (by decide +kernel)⟩
theorem lw_p66 : lw_okq (⟨"SortWorksModel", "leaves", "(I)V"⟩, 90) := ⟨⟨by decide +kernel, by decide +kernel⟩, List.mem_of_getElem? (i := 1197) (by decide +kernel), List.mem_of_getElem? (i := 1679) (by decide +kernel), List.mem_of_getElem? (i := 1680) (by decide +kernel)⟩
theorem lw_p67 : lw_okq (⟨"SortWorksModel", "isFull", "()Z"⟩, 90) := ⟨⟨by decide +kernel, by decide +kernel⟩, List.mem_of_getElem? (i := 1197) (by decide +kernel), List.mem_of_getElem? (i := 1707) (by decide +kernel), List.mem_of_getElem? (i := 1708) (by decide +kernel)⟩
theorem lw_p68 : lw_okq (⟨"SortWorksModel", "steps", "()V"⟩, 90) := ⟨⟨by decide +kernel, by decide +kernel⟩, List.mem_of_getElem? (i := 1197) (by decide +kernel), List.mem_of_getElem? (i := 1711) (by decide +kernel), List.mem_of_getElem? (i := 1712) (by decide +kernel)⟩
theorem lw_p69 : lw_okq (⟨"SortWorksModel", "keep", "()V"⟩, 90) := ⟨⟨by decide +kernel, by decide +kernel⟩, List.mem_of_getElem? (i := 1197) (by decide +kernel), List.mem_of_getElem? (i := 1715) (by decide +kernel), List.mem_of_getElem? (i := 1716) (by decide +kernel)⟩
theorem lw_p70 : lw_okq (⟨"SortWorksModel", "goOver", "(I)V"⟩, 90) := ⟨⟨by decide +kernel, by decide +kernel⟩, List.mem_of_getElem? (i := 1197) (by decide +kernel), List.mem_of_getElem? (i := 1719) (by decide +kernel), List.mem_of_getElem? (i := 1720) (by decide +kernel)⟩
theorem lw_p71 : lw_okq (⟨"SortWorksModel", "both", "(I)I"⟩, 90) := ⟨⟨by decide +kernel, by decide +kernel⟩, List.mem_of_getElem? (i := 1197) (by decide +kernel), List.mem_of_getElem? (i := 1723) (by decide +kernel), List.mem_of_getElem? (i := 1724) (by decide +kernel)⟩
theorem lw_p72 : lw_okq (⟨"SortWorksModel", "goOverGear", "(I)V"⟩, 90) := ⟨⟨by decide +kernel, by decide +kernel⟩, List.mem_of_getElem? (i := 1197) (by decide +kernel), List.mem_of_getElem? (i := 1727) (by decide +kernel), List.mem_of_getElem? (i := 1728) (by decide +kernel)⟩
theorem lw_p73 : lw_okq (⟨"SortWorksModel", "goOverParcels", "()V"⟩, 90) := ⟨⟨by decide +kernel, by decide +kernel⟩, List.mem_of_getElem? (i := 1197) (by decide +kernel), List.mem_of_getElem? (i := 1731) (by decide +kernel), List.mem_of_getElem? (i := 1732) (by decide +kernel)⟩
theorem lw_p74 : lw_okq (⟨"SortWorksModel", "doPlans", "()V"⟩, 90) := ⟨⟨by decide +kernel, by decide +kernel⟩, List.mem_of_getElem? (i := 1197) (by decide +kernel), List.mem_of_getElem? (i := 1735) (by decide +kernel), List.mem_of_getElem? (i := 1736) (by decide +kernel)⟩
theorem lw_p75 : lw_okq (⟨"SortWorksModel", "planFault", "(I)I"⟩, 90) := ⟨⟨by decide +kernel, by decide +kernel⟩, List.mem_of_getElem? (i := 1197) (by decide +kernel), List.mem_of_getElem? (i := 1739) (by decide +kernel), List.mem_of_getElem? (i := 1740) (by decide +kernel)⟩
theorem lw_p76 : lw_okq (⟨"SortWorksModel", "find", "(III)V"⟩, 90) := ⟨⟨by decide +kernel, by decide +kernel⟩, List.mem_of_getElem? (i := 1197) (by decide +kernel), List.mem_of_getElem? (i := 1743) (by decide +kernel), List.mem_of_getElem? (i := 1744) (by decide +kernel)⟩
theorem lw_p77 : lw_okq (⟨"SortWorksModel", "choose", "()V"⟩, 90) := ⟨⟨by decide +kernel, by decide +kernel⟩, List.mem_of_getElem? (i := 1197) (by decide +kernel), List.mem_of_getElem? (i := 1747) (by decide +kernel), List.mem_of_getElem? (i := 1748) (by decide +kernel)⟩
theorem lw_p78 : lw_okq (⟨"SortWorksModel", "chosenBy", "(I)I"⟩, 90) := ⟨⟨by decide +kernel, by decide +kernel⟩, List.mem_of_getElem? (i := 1197) (by decide +kernel), List.mem_of_getElem? (i := 1751) (by decide +kernel), List.mem_of_getElem? (i := 1752) (by decide +kernel)⟩
theorem lw_p79 : lw_okq (⟨"SortWorksModel", "isActing", "(I)Z"⟩, 90) := ⟨⟨by decide +kernel, by decide +kernel⟩, List.mem_of_getElem? (i := 1197) (by decide +kernel), List.mem_of_getElem? (i := 1755) (by decide +kernel), List.mem_of_getElem? (i := 1756) (by decide +kernel)⟩
def lw_privs_5 : List (MethodName × Nat) := [(⟨"SortWorksModel", "tags", "(III)V"⟩, 90), (⟨"SortWorksModel", "isJammed", "(I)Z"⟩, 90), (⟨"SortWorksModel", "leaves", "(I)V"⟩, 90), (⟨"SortWorksModel", "isFull", "()Z"⟩, 90), (⟨"SortWorksModel", "steps", "()V"⟩, 90), (⟨"SortWorksModel", "keep", "()V"⟩, 90), (⟨"SortWorksModel", "goOver", "(I)V"⟩, 90), (⟨"SortWorksModel", "both", "(I)I"⟩, 90), (⟨"SortWorksModel", "goOverGear", "(I)V"⟩, 90), (⟨"SortWorksModel", "goOverParcels", "()V"⟩, 90), (⟨"SortWorksModel", "doPlans", "()V"⟩, 90), (⟨"SortWorksModel", "planFault", "(I)I"⟩, 90), (⟨"SortWorksModel", "find", "(III)V"⟩, 90), (⟨"SortWorksModel", "choose", "()V"⟩, 90), (⟨"SortWorksModel", "chosenBy", "(I)I"⟩, 90), (⟨"SortWorksModel", "isActing", "(I)Z"⟩, 90)]
theorem lw_r5 : ∀ q ∈ lw_privs_5, lw_okq q := List.forall_mem_cons.mpr ⟨lw_p64, List.forall_mem_cons.mpr ⟨lw_p65, List.forall_mem_cons.mpr ⟨lw_p66, List.forall_mem_cons.mpr ⟨lw_p67, List.forall_mem_cons.mpr ⟨lw_p68, List.forall_mem_cons.mpr ⟨lw_p69, List.forall_mem_cons.mpr ⟨lw_p70, List.forall_mem_cons.mpr ⟨lw_p71, List.forall_mem_cons.mpr ⟨lw_p72, List.forall_mem_cons.mpr ⟨lw_p73, List.forall_mem_cons.mpr ⟨lw_p74, List.forall_mem_cons.mpr ⟨lw_p75, List.forall_mem_cons.mpr ⟨lw_p76, List.forall_mem_cons.mpr ⟨lw_p77, List.forall_mem_cons.mpr ⟨lw_p78, List.forall_mem_cons.mpr ⟨lw_p79, fun _ h => absurd h List.not_mem_nil⟩⟩⟩⟩⟩⟩⟩⟩⟩⟩⟩⟩⟩⟩⟩⟩
theorem lw_p80 : lw_okq (⟨"SortWorksModel", "linkAt", "(I)I"⟩, 90) := ⟨⟨by decide +kernel, by decide +kernel⟩, List.mem_of_getElem? (i := 1197) (by decide +kernel), List.mem_of_getElem? (i := 1762) (by decide +kernel), List.mem_of_getElem? (i := 1763) (by decide +kernel)⟩
theorem lw_p81 : lw_okq (⟨"SortWorksModel", "leads", "(III)Z"⟩, 90) := ⟨⟨by decide +kernel, by decide +kernel⟩, List.mem_of_getElem? (i := 1197) (by decide +kernel), List.mem_of_getElem? (i := 1766) (by decide +kernel), List.mem_of_getElem? (i := 1767) (by decide +kernel)⟩
theorem lw_p82 : lw_okq (⟨"SortWorksModel", "follow", "(II)I"⟩, 90) := ⟨⟨by decide +kernel, by decide +kernel⟩, List.mem_of_getElem? (i := 1197) (by decide +kernel), List.mem_of_getElem? (i := 1770) (by decide +kernel), List.mem_of_getElem? (i := 1771) (by decide +kernel)⟩
theorem lw_p83 : lw_okq (⟨"SortWorksModel", "act", "(I)V"⟩, 90) := ⟨⟨by decide +kernel, by decide +kernel⟩, List.mem_of_getElem? (i := 1197) (by decide +kernel), List.mem_of_getElem? (i := 1774) (by decide +kernel), List.mem_of_getElem? (i := 1775) (by decide +kernel)⟩
theorem lw_p84 : lw_okq (⟨"SortWorksModel", "body", "(I)V"⟩, 90) := ⟨⟨by decide +kernel, by decide +kernel⟩, List.mem_of_getElem? (i := 1197) (by decide +kernel), List.mem_of_getElem? (i := 1778) (by decide +kernel), List.mem_of_getElem? (i := 1779) (by decide +kernel)⟩
theorem lw_p85 : lw_okq (⟨"SortWorksModel", "actPanel", "(I)V"⟩, 90) := ⟨⟨by decide +kernel, by decide +kernel⟩, List.mem_of_getElem? (i := 1197) (by decide +kernel), List.mem_of_getElem? (i := 1782) (by decide +kernel), List.mem_of_getElem? (i := 1783) (by decide +kernel)⟩
theorem lw_p86 : lw_okq (⟨"SortWorksModel", "actTaker", "(I)V"⟩, 90) := ⟨⟨by decide +kernel, by decide +kernel⟩, List.mem_of_getElem? (i := 1197) (by decide +kernel), List.mem_of_getElem? (i := 1786) (by decide +kernel), List.mem_of_getElem? (i := 1787) (by decide +kernel)⟩
theorem lw_p87 : lw_okq (⟨"SortWorksModel", "bodies", "(I)V"⟩, 90) := ⟨⟨by decide +kernel, by decide +kernel⟩, List.mem_of_getElem? (i := 1197) (by decide +kernel), List.mem_of_getElem? (i := 1790) (by decide +kernel), List.mem_of_getElem? (i := 1791) (by decide +kernel)⟩
theorem lw_p88 : lw_okq (⟨"SortWorksModel", "scans", "(II)Z"⟩, 90) := ⟨⟨by decide +kernel, by decide +kernel⟩, List.mem_of_getElem? (i := 1197) (by decide +kernel), List.mem_of_getElem? (i := 1794) (by decide +kernel), List.mem_of_getElem? (i := 1795) (by decide +kernel)⟩
theorem lw_p89 : lw_okq (⟨"SortWorksModel", "reads", "(I)Z"⟩, 90) := ⟨⟨by decide +kernel, by decide +kernel⟩, List.mem_of_getElem? (i := 1197) (by decide +kernel), List.mem_of_getElem? (i := 1798) (by decide +kernel), List.mem_of_getElem? (i := 1799) (by decide +kernel)⟩
theorem lw_p90 : lw_okq (⟨"SortWorksModel", "asked", "(II)I"⟩, 90) := ⟨⟨by decide +kernel, by decide +kernel⟩, List.mem_of_getElem? (i := 1197) (by decide +kernel), List.mem_of_getElem? (i := 1802) (by decide +kernel), List.mem_of_getElem? (i := 1803) (by decide +kernel)⟩
theorem lw_p91 : lw_okq (⟨"SortWorksModel", "holds", "(I)Z"⟩, 90) := ⟨⟨by decide +kernel, by decide +kernel⟩, List.mem_of_getElem? (i := 1197) (by decide +kernel), List.mem_of_getElem? (i := 1806) (by decide +kernel), List.mem_of_getElem? (i := 1807) (by decide +kernel)⟩
theorem lw_p92 : lw_okq (⟨"SortWorksModel", "quotientOf", "(I)I"⟩, 90) := ⟨⟨by decide +kernel, by decide +kernel⟩, List.mem_of_getElem? (i := 1197) (by decide +kernel), List.mem_of_getElem? (i := 1810) (by decide +kernel), List.mem_of_getElem? (i := 1811) (by decide +kernel)⟩
theorem lw_p93 : lw_okq (⟨"SortWorksModel", "bodiesLast", "(I)V"⟩, 90) := ⟨⟨by decide +kernel, by decide +kernel⟩, List.mem_of_getElem? (i := 1197) (by decide +kernel), List.mem_of_getElem? (i := 1814) (by decide +kernel), List.mem_of_getElem? (i := 1815) (by decide +kernel)⟩
theorem lw_p94 : lw_okq (⟨"SortWorksModel", "givesOut", "(II)Z"⟩, 90) := ⟨⟨by decide +kernel, by decide +kernel⟩, List.mem_of_getElem? (i := 1197) (by decide +kernel), List.mem_of_getElem? (i := 1818) (by decide +kernel), List.mem_of_getElem? (i := 1819) (by decide +kernel)⟩
theorem lw_p95 : lw_okq (⟨"SortWorksModel", "goesOut", "(III)V"⟩, 90) := ⟨⟨by decide +kernel, by decide +kernel⟩, List.mem_of_getElem? (i := 1197) (by decide +kernel), List.mem_of_getElem? (i := 1822) (by decide +kernel), List.mem_of_getElem? (i := 1823) (by decide +kernel)⟩
def lw_privs_6 : List (MethodName × Nat) := [(⟨"SortWorksModel", "linkAt", "(I)I"⟩, 90), (⟨"SortWorksModel", "leads", "(III)Z"⟩, 90), (⟨"SortWorksModel", "follow", "(II)I"⟩, 90), (⟨"SortWorksModel", "act", "(I)V"⟩, 90), (⟨"SortWorksModel", "body", "(I)V"⟩, 90), (⟨"SortWorksModel", "actPanel", "(I)V"⟩, 90), (⟨"SortWorksModel", "actTaker", "(I)V"⟩, 90), (⟨"SortWorksModel", "bodies", "(I)V"⟩, 90), (⟨"SortWorksModel", "scans", "(II)Z"⟩, 90), (⟨"SortWorksModel", "reads", "(I)Z"⟩, 90), (⟨"SortWorksModel", "asked", "(II)I"⟩, 90), (⟨"SortWorksModel", "holds", "(I)Z"⟩, 90), (⟨"SortWorksModel", "quotientOf", "(I)I"⟩, 90), (⟨"SortWorksModel", "bodiesLast", "(I)V"⟩, 90), (⟨"SortWorksModel", "givesOut", "(II)Z"⟩, 90), (⟨"SortWorksModel", "goesOut", "(III)V"⟩, 90)]
theorem lw_r6 : ∀ q ∈ lw_privs_6, lw_okq q := List.forall_mem_cons.mpr ⟨lw_p80, List.forall_mem_cons.mpr ⟨lw_p81, List.forall_mem_cons.mpr ⟨lw_p82, List.forall_mem_cons.mpr ⟨lw_p83, List.forall_mem_cons.mpr ⟨lw_p84, List.forall_mem_cons.mpr ⟨lw_p85, List.forall_mem_cons.mpr ⟨lw_p86, List.forall_mem_cons.mpr ⟨lw_p87, List.forall_mem_cons.mpr ⟨lw_p88, List.forall_mem_cons.mpr ⟨lw_p89, List.forall_mem_cons.mpr ⟨lw_p90, List.forall_mem_cons.mpr ⟨lw_p91, List.forall_mem_cons.mpr ⟨lw_p92, List.forall_mem_cons.mpr ⟨lw_p93, List.forall_mem_cons.mpr ⟨lw_p94, List.forall_mem_cons.mpr ⟨lw_p95, fun _ h => absurd h List.not_mem_nil⟩⟩⟩⟩⟩⟩⟩⟩⟩⟩⟩⟩⟩⟩⟩⟩
theorem lw_p96 : lw_okq (⟨"SortWorksModel", "gives", "(II)Z"⟩, 90) := ⟨⟨by decide +kernel, by decide +kernel⟩, List.mem_of_getElem? (i := 1197) (by decide +kernel), List.mem_of_getElem? (i := 1826) (by decide +kernel), List.mem_of_getElem? (i := 1827) (by decide +kernel)⟩
theorem lw_p97 : lw_okq (⟨"SortWorksModel", "takes", "(III)Z"⟩, 90) := ⟨⟨by decide +kernel, by decide +kernel⟩, List.mem_of_getElem? (i := 1197) (by decide +kernel), List.mem_of_getElem? (i := 1830) (by decide +kernel), List.mem_of_getElem? (i := 1831) (by decide +kernel)⟩
theorem lw_p98 : lw_okq (⟨"SortWorksModel", "wants", "(II)I"⟩, 90) := ⟨⟨by decide +kernel, by decide +kernel⟩, List.mem_of_getElem? (i := 1197) (by decide +kernel), List.mem_of_getElem? (i := 1834) (by decide +kernel), List.mem_of_getElem? (i := 1835) (by decide +kernel)⟩
theorem lw_p99 : lw_okq (⟨"SortWorksModel", "spoils", "(II)V"⟩, 90) := ⟨⟨by decide +kernel, by decide +kernel⟩, List.mem_of_getElem? (i := 1197) (by decide +kernel), List.mem_of_getElem? (i := 1843) (by decide +kernel), List.mem_of_getElem? (i := 1844) (by decide +kernel)⟩
theorem lw_p100 : lw_okq (⟨"SortWorksModel", "toldMore", "(II)I"⟩, 90) := ⟨⟨by decide +kernel, by decide +kernel⟩, List.mem_of_getElem? (i := 1197) (by decide +kernel), List.mem_of_getElem? (i := 1860) (by decide +kernel), List.mem_of_getElem? (i := 1861) (by decide +kernel)⟩
theorem lw_p101 : lw_okq (⟨"SortWorksModel", "says", "(I)V"⟩, 90) := ⟨⟨by decide +kernel, by decide +kernel⟩, List.mem_of_getElem? (i := 1197) (by decide +kernel), List.mem_of_getElem? (i := 1900) (by decide +kernel), List.mem_of_getElem? (i := 1901) (by decide +kernel)⟩
theorem lw_p102 : lw_okq (⟨"SortWorksModel", "saysNumber", "(I)V"⟩, 90) := ⟨⟨by decide +kernel, by decide +kernel⟩, List.mem_of_getElem? (i := 1197) (by decide +kernel), List.mem_of_getElem? (i := 1904) (by decide +kernel), List.mem_of_getElem? (i := 1905) (by decide +kernel)⟩
theorem lw_p103 : lw_okq (⟨"SortWorksModel", "spread", "(I)V"⟩, 90) := ⟨⟨by decide +kernel, by decide +kernel⟩, List.mem_of_getElem? (i := 1197) (by decide +kernel), List.mem_of_getElem? (i := 1928) (by decide +kernel), List.mem_of_getElem? (i := 1929) (by decide +kernel)⟩
theorem lw_p104 : lw_okq (⟨"SortWorksModel", "ahead", "(II)V"⟩, 90) := ⟨⟨by decide +kernel, by decide +kernel⟩, List.mem_of_getElem? (i := 1197) (by decide +kernel), List.mem_of_getElem? (i := 1932) (by decide +kernel), List.mem_of_getElem? (i := 1933) (by decide +kernel)⟩
theorem lw_p105 : lw_okq (⟨"SortWorksModel", "adds", "(I)V"⟩, 90) := ⟨⟨by decide +kernel, by decide +kernel⟩, List.mem_of_getElem? (i := 1197) (by decide +kernel), List.mem_of_getElem? (i := 1957) (by decide +kernel), List.mem_of_getElem? (i := 1958) (by decide +kernel)⟩
def lw_privs_7 : List (MethodName × Nat) := [(⟨"SortWorksModel", "gives", "(II)Z"⟩, 90), (⟨"SortWorksModel", "takes", "(III)Z"⟩, 90), (⟨"SortWorksModel", "wants", "(II)I"⟩, 90), (⟨"SortWorksModel", "spoils", "(II)V"⟩, 90), (⟨"SortWorksModel", "toldMore", "(II)I"⟩, 90), (⟨"SortWorksModel", "says", "(I)V"⟩, 90), (⟨"SortWorksModel", "saysNumber", "(I)V"⟩, 90), (⟨"SortWorksModel", "spread", "(I)V"⟩, 90), (⟨"SortWorksModel", "ahead", "(II)V"⟩, 90), (⟨"SortWorksModel", "adds", "(I)V"⟩, 90)]
theorem lw_r7 : ∀ q ∈ lw_privs_7, lw_okq q := List.forall_mem_cons.mpr ⟨lw_p96, List.forall_mem_cons.mpr ⟨lw_p97, List.forall_mem_cons.mpr ⟨lw_p98, List.forall_mem_cons.mpr ⟨lw_p99, List.forall_mem_cons.mpr ⟨lw_p100, List.forall_mem_cons.mpr ⟨lw_p101, List.forall_mem_cons.mpr ⟨lw_p102, List.forall_mem_cons.mpr ⟨lw_p103, List.forall_mem_cons.mpr ⟨lw_p104, List.forall_mem_cons.mpr ⟨lw_p105, fun _ h => absurd h List.not_mem_nil⟩⟩⟩⟩⟩⟩⟩⟩⟩⟩
def lw_privs : List (MethodName × Nat) := lw_privs_1 ++ (lw_privs_2 ++ (lw_privs_3 ++ (lw_privs_4 ++ (lw_privs_5 ++ (lw_privs_6 ++ (lw_privs_7))))))
def lw_tbl : List Cond := k2_sels lw_privs ++ tables_1
theorem lw_privs_ok : ∀ q ∈ lw_privs, lw_okq q := by
  show ∀ q ∈ lw_privs_1 ++ (lw_privs_2 ++ (lw_privs_3 ++ (lw_privs_4 ++ (lw_privs_5 ++ (lw_privs_6 ++ (lw_privs_7)))))), lw_okq q
  exact List.forall_mem_append.mpr ⟨lw_r1, List.forall_mem_append.mpr ⟨lw_r2, List.forall_mem_append.mpr ⟨lw_r3, List.forall_mem_append.mpr ⟨lw_r4, List.forall_mem_append.mpr ⟨lw_r5, List.forall_mem_append.mpr ⟨lw_r6, lw_r7⟩⟩⟩⟩⟩⟩
def RX0 : String := "SortWorks$Gear"
def TX0 : u_T := fun k => match k with
  | 0 => ("SortWorks$Gear", "kind", "I", false)
  | 1 => ("SortWorks$Gear", "length", "I", false)
  | 2 => ("SortWorks$Gear", "rank", "I", false)
  | 3 => ("SortWorks$Gear", "links", "[I", false)
  | 4 => ("SortWorks$Gear", "setOne", "J", false)
  | 5 => ("SortWorks$Gear", "setTwo", "J", false)
  | 6 => ("SortWorks$Gear", "side", "I", false)
  | 7 => ("SortWorks$Gear", "open", "Z", false)
  | 8 => ("SortWorks$Gear", "wait", "I", false)
  | 9 => ("SortWorks$Gear", "lamp", "I", false)
  | 10 => ("SortWorks$Gear", "came", "I", false)
  | 11 => ("SortWorks$Gear", "went", "I", false)
  | 12 => ("SortWorks$Gear", "findings", "I", false)
  | 13 => ("SortWorks$Gear", "acts", "I", false)
  | 14 => ("SortWorks$Gear", "releases", "I", false)
  | 15 => ("SortWorks$Gear", "last", "I", false)
  | 16 => ("SortWorks$Gear", "dial", "I", false)
  | 17 => ("SortWorks$Gear", "slots", "[I", true)
  | _ => ("SortWorks$Gear", "chosen", "I", false)
def tyX0 : Nat → FieldType := fun k => match k with
  | 0 => .int
  | 1 => .int
  | 2 => .int
  | 3 => .array .int
  | 4 => .long
  | 5 => .long
  | 6 => .int
  | 7 => .boolean
  | 8 => .int
  | 9 => .int
  | 10 => .int
  | 11 => .int
  | 12 => .int
  | 13 => .int
  | 14 => .int
  | 15 => .int
  | 16 => .int
  | 17 => .array .int
  | _ => .int
theorem nmX0 : ∀ a, a < 19 → ∀ b, b < 19 → a ≠ b → (TX0 a).2.1 ≠ (TX0 b).2.1 := by decide +kernel
theorem tyX0_ok : ∀ k, k < 19 → parseFieldDescriptor (TX0 k).2.2.1 = some (tyX0 k) := by decide +kernel
def RX1 : String := "SortWorks$Judge"
def TX1 : u_T := fun k => match k with
  | 0 => ("SortWorks$Judge", "rules", "LSortWorks$Rules;", true)
  | 1 => ("SortWorks$Judge", "letters", "[I", false)
  | 2 => ("SortWorks$Judge", "length", "I", false)
  | _ => ("SortWorks$Judge", "at", "I", false)
def tyX1 : Nat → FieldType := fun k => match k with
  | 0 => .object "SortWorks$Rules"
  | 1 => .array .int
  | 2 => .int
  | _ => .int
theorem nmX1 : ∀ a, a < 4 → ∀ b, b < 4 → a ≠ b → (TX1 a).2.1 ≠ (TX1 b).2.1 := by decide +kernel
theorem tyX1_ok : ∀ k, k < 4 → parseFieldDescriptor (TX1 k).2.2.1 = some (tyX1 k) := by decide +kernel
def RX2 : String := "SortWorks$Log"
def TX2 : u_T := fun k => match k with
  | 0 => ("SortWorks$Log", "most", "I", true)
  | 1 => ("SortWorks$Log", "width", "I", true)
  | 2 => ("SortWorks$Log", "rows", "[I", true)
  | _ => ("SortWorks$Log", "count", "I", false)
def tyX2 : Nat → FieldType := fun k => match k with
  | 0 => .int
  | 1 => .int
  | 2 => .array .int
  | _ => .int
theorem nmX2 : ∀ a, a < 4 → ∀ b, b < 4 → a ≠ b → (TX2 a).2.1 ≠ (TX2 b).2.1 := by decide +kernel
theorem tyX2_ok : ∀ k, k < 4 → parseFieldDescriptor (TX2 k).2.2.1 = some (tyX2 k) := by decide +kernel
def RX3 : String := "SortWorks$Numbers"
def TX3 : u_T := fun k => match k with
  | 0 => ("SortWorks$Numbers", "where", "[I", true)
  | _ => ("SortWorks$Numbers", "given", "I", false)
def tyX3 : Nat → FieldType := fun k => match k with
  | 0 => .array .int
  | _ => .int
theorem nmX3 : ∀ a, a < 2 → ∀ b, b < 2 → a ≠ b → (TX3 a).2.1 ≠ (TX3 b).2.1 := by decide +kernel
theorem tyX3_ok : ∀ k, k < 2 → parseFieldDescriptor (TX3 k).2.2.1 = some (tyX3 k) := by decide +kernel
def RX4 : String := "SortWorks$Parcel"
def TX4 : u_T := fun k => match k with
  | 0 => ("SortWorks$Parcel", "place", "I", true)
  | 1 => ("SortWorks$Parcel", "number", "I", false)
  | 2 => ("SortWorks$Parcel", "weight", "I", false)
  | 3 => ("SortWorks$Parcel", "size", "I", false)
  | 4 => ("SortWorks$Parcel", "target", "I", false)
  | 5 => ("SortWorks$Parcel", "gear", "I", false)
  | 6 => ("SortWorks$Parcel", "slot", "I", false)
  | 7 => ("SortWorks$Parcel", "scanned", "Z", false)
  | 8 => ("SortWorks$Parcel", "moved", "Z", false)
  | 9 => ("SortWorks$Parcel", "wayLength", "I", false)
  | 10 => ("SortWorks$Parcel", "way", "[I", true)
  | 11 => ("SortWorks$Parcel", "labelLength", "I", false)
  | _ => ("SortWorks$Parcel", "label", "[I", true)
def tyX4 : Nat → FieldType := fun k => match k with
  | 0 => .int
  | 1 => .int
  | 2 => .int
  | 3 => .int
  | 4 => .int
  | 5 => .int
  | 6 => .int
  | 7 => .boolean
  | 8 => .boolean
  | 9 => .int
  | 10 => .array .int
  | 11 => .int
  | _ => .array .int
theorem nmX4 : ∀ a, a < 13 → ∀ b, b < 13 → a ≠ b → (TX4 a).2.1 ≠ (TX4 b).2.1 := by decide +kernel
theorem tyX4_ok : ∀ k, k < 13 → parseFieldDescriptor (TX4 k).2.2.1 = some (tyX4 k) := by decide +kernel
def RX5 : String := "SortWorks$Reading"
def TX5 : u_T := fun k => match k with
  | 0 => ("SortWorks$Reading", "bad", "Z", false)
  | 1 => ("SortWorks$Reading", "place", "I", false)
  | 2 => ("SortWorks$Reading", "weight", "I", false)
  | 3 => ("SortWorks$Reading", "size", "I", false)
  | _ => ("SortWorks$Reading", "digits", "[I", true)
def tyX5 : Nat → FieldType := fun k => match k with
  | 0 => .boolean
  | 1 => .int
  | 2 => .int
  | 3 => .int
  | _ => .array .int
theorem nmX5 : ∀ a, a < 5 → ∀ b, b < 5 → a ≠ b → (TX5 a).2.1 ≠ (TX5 b).2.1 := by decide +kernel
theorem tyX5_ok : ∀ k, k < 5 → parseFieldDescriptor (TX5 k).2.2.1 = some (tyX5 k) := by decide +kernel
def RX6 : String := "SortWorks$Rules"
def TX6 : u_T := fun k => match k with
  | 0 => ("SortWorks$Rules", "count", "I", false)
  | 1 => ("SortWorks$Rules", "tells", "[I", true)
  | 2 => ("SortWorks$Rules", "testCounts", "[I", true)
  | 3 => ("SortWorks$Rules", "subjects", "[I", true)
  | 4 => ("SortWorks$Rules", "quotients", "[I", true)
  | 5 => ("SortWorks$Rules", "signs", "[I", true)
  | 6 => ("SortWorks$Rules", "bounds", "[I", true)
  | 7 => ("SortWorks$Rules", "text", "[I", true)
  | _ => ("SortWorks$Rules", "textLength", "I", false)
def tyX6 : Nat → FieldType := fun k => match k with
  | 0 => .int
  | 1 => .array .int
  | 2 => .array .int
  | 3 => .array .int
  | 4 => .array .int
  | 5 => .array .int
  | 6 => .array .int
  | 7 => .array .int
  | _ => .int
theorem nmX6 : ∀ a, a < 9 → ∀ b, b < 9 → a ≠ b → (TX6 a).2.1 ≠ (TX6 b).2.1 := by decide +kernel
theorem tyX6_ok : ∀ k, k < 9 → parseFieldDescriptor (TX6 k).2.2.1 = some (tyX6 k) := by decide +kernel
def RX7 : String := "SortWorks$State"
def TX7 : u_T := fun k => match k with
  | 0 => ("SortWorks$State", "time", "I", false)
  | 1 => ("SortWorks$State", "came", "I", false)
  | 2 => ("SortWorks$State", "inside", "I", false)
  | 3 => ("SortWorks$State", "given", "I", false)
  | 4 => ("SortWorks$State", "gear", "[LSortWorks$Gear;", true)
  | 5 => ("SortWorks$State", "parcels", "[LSortWorks$Parcel;", true)
  | 6 => ("SortWorks$State", "used", "[I", true)
  | 7 => ("SortWorks$State", "findings", "LSortWorks$Log;", true)
  | _ => ("SortWorks$State", "outs", "LSortWorks$Log;", true)
def tyX7 : Nat → FieldType := fun k => match k with
  | 0 => .int
  | 1 => .int
  | 2 => .int
  | 3 => .int
  | 4 => .array (.object "SortWorks$Gear")
  | 5 => .array (.object "SortWorks$Parcel")
  | 6 => .array .int
  | 7 => .object "SortWorks$Log"
  | _ => .object "SortWorks$Log"
theorem nmX7 : ∀ a, a < 9 → ∀ b, b < 9 → a ≠ b → (TX7 a).2.1 ≠ (TX7 b).2.1 := by decide +kernel
theorem tyX7_ok : ∀ k, k < 9 → parseFieldDescriptor (TX7 k).2.2.1 = some (tyX7 k) := by decide +kernel
def RX8 : String := "SortWorks$Step"
def TX8 : u_T := fun k => match k with
  | 0 => ("SortWorks$Step", "reading", "LSortWorks$Reading;", true)
  | 1 => ("SortWorks$Step", "numbers", "LSortWorks$Numbers;", false)
  | 2 => ("SortWorks$Step", "works", "LSortWorks$Works;", false)
  | 3 => ("SortWorks$Step", "now", "LSortWorks$State;", false)
  | _ => ("SortWorks$Step", "found", "Z", false)
def tyX8 : Nat → FieldType := fun k => match k with
  | 0 => .object "SortWorks$Reading"
  | 1 => .object "SortWorks$Numbers"
  | 2 => .object "SortWorks$Works"
  | 3 => .object "SortWorks$State"
  | _ => .boolean
theorem nmX8 : ∀ a, a < 5 → ∀ b, b < 5 → a ≠ b → (TX8 a).2.1 ≠ (TX8 b).2.1 := by decide +kernel
theorem tyX8_ok : ∀ k, k < 5 → parseFieldDescriptor (TX8 k).2.2.1 = some (tyX8 k) := by decide +kernel
def RX9 : String := "SortWorks$Works"
def TX9 : u_T := fun k => match k with
  | 0 => ("SortWorks$Works", "number", "I", true)
  | 1 => ("SortWorks$Works", "now", "LSortWorks$State;", true)
  | 2 => ("SortWorks$Works", "gearCount", "I", false)
  | 3 => ("SortWorks$Works", "rules", "LSortWorks$Rules;", true)
  | 4 => ("SortWorks$Works", "plans", "[[I", true)
  | 5 => ("SortWorks$Works", "planLengths", "[I", true)
  | 6 => ("SortWorks$Works", "planCount", "I", false)
  | 7 => ("SortWorks$Works", "groups", "[[I", true)
  | 8 => ("SortWorks$Works", "groupTypes", "[I", true)
  | 9 => ("SortWorks$Works", "groupSizes", "[I", true)
  | 10 => ("SortWorks$Works", "trace", "[I", true)
  | 11 => ("SortWorks$Works", "traced", "I", false)
  | 12 => ("SortWorks$Works", "kept", "[LSortWorks$State;", true)
  | 13 => ("SortWorks$Works", "keptNext", "I", false)
  | 14 => ("SortWorks$Works", "keptCount", "I", false)
  | _ => ("SortWorks$Works", "fewest", "[I", true)
def tyX9 : Nat → FieldType := fun k => match k with
  | 0 => .int
  | 1 => .object "SortWorks$State"
  | 2 => .int
  | 3 => .object "SortWorks$Rules"
  | 4 => .array (.array .int)
  | 5 => .array .int
  | 6 => .int
  | 7 => .array (.array .int)
  | 8 => .array .int
  | 9 => .array .int
  | 10 => .array .int
  | 11 => .int
  | 12 => .array (.object "SortWorks$State")
  | 13 => .int
  | 14 => .int
  | _ => .array .int
theorem nmX9 : ∀ a, a < 16 → ∀ b, b < 16 → a ≠ b → (TX9 a).2.1 ≠ (TX9 b).2.1 := by decide +kernel
theorem tyX9_ok : ∀ k, k < 16 → parseFieldDescriptor (TX9 k).2.2.1 = some (tyX9 k) := by decide +kernel
def RX10 : String := "SortWorks"
def TX10 : u_T := fun k => match k with
  | 0 => ("SortWorks", "works", "[LSortWorks$Works;", true)
  | 1 => ("SortWorks", "hand", "LSortWorks$Works;", false)
  | 2 => ("SortWorks", "numbers", "LSortWorks$Numbers;", true)
  | 3 => ("SortWorks", "stepper", "LSortWorks$Step;", true)
  | 4 => ("SortWorks", "judge", "LSortWorks$Judge;", true)
  | 5 => ("SortWorks", "letters", "[I", true)
  | 6 => ("SortWorks", "typed", "I", false)
  | 7 => ("SortWorks", "faults", "I", false)
  | _ => ("SortWorks", "status", "I", false)
def tyX10 : Nat → FieldType := fun k => match k with
  | 0 => .array (.object "SortWorks$Works")
  | 1 => .object "SortWorks$Works"
  | 2 => .object "SortWorks$Numbers"
  | 3 => .object "SortWorks$Step"
  | 4 => .object "SortWorks$Judge"
  | 5 => .array .int
  | 6 => .int
  | 7 => .int
  | _ => .int
theorem nmX10 : ∀ a, a < 9 → ∀ b, b < 9 → a ≠ b → (TX10 a).2.1 ≠ (TX10 b).2.1 := by decide +kernel
theorem tyX10_ok : ∀ k, k < 9 → parseFieldDescriptor (TX10 k).2.2.1 = some (tyX10 k) := by decide +kernel
def RX11 : String := "SortWorksModel"
def TX11 : u_T := fun k => match k with
  | 0 => ("SortWorksModel", "w", "I", false)
  | 1 => ("SortWorksModel", "status", "I", false)
  | 2 => ("SortWorksModel", "houseFaults", "I", false)
  | 3 => ("SortWorksModel", "gears", "[I", true)
  | 4 => ("SortWorksModel", "time", "[I", true)
  | 5 => ("SortWorksModel", "kind", "[I", true)
  | 6 => ("SortWorksModel", "length", "[I", true)
  | 7 => ("SortWorksModel", "linkMany", "[I", true)
  | 8 => ("SortWorksModel", "link", "[I", true)
  | 9 => ("SortWorksModel", "rank", "[I", true)
  | 10 => ("SortWorksModel", "side", "[I", true)
  | 11 => ("SortWorksModel", "sets", "[J", true)
  | 12 => ("SortWorksModel", "last", "[I", true)
  | 13 => ("SortWorksModel", "releases", "[I", true)
  | 14 => ("SortWorksModel", "open", "[Z", true)
  | 15 => ("SortWorksModel", "dial", "[I", true)
  | 16 => ("SortWorksModel", "wait", "[I", true)
  | 17 => ("SortWorksModel", "lamp", "[I", true)
  | 18 => ("SortWorksModel", "came", "[I", true)
  | 19 => ("SortWorksModel", "went", "[I", true)
  | 20 => ("SortWorksModel", "found", "[I", true)
  | 21 => ("SortWorksModel", "acts", "[I", true)
  | 22 => ("SortWorksModel", "slots", "[I", true)
  | 23 => ("SortWorksModel", "numbers", "I", false)
  | 24 => ("SortWorksModel", "pWorks", "[I", true)
  | 25 => ("SortWorksModel", "pWhere", "[I", true)
  | 26 => ("SortWorksModel", "pGear", "[I", true)
  | 27 => ("SortWorksModel", "pSlot", "[I", true)
  | 28 => ("SortWorksModel", "pWeight", "[I", true)
  | 29 => ("SortWorksModel", "pSize", "[I", true)
  | 30 => ("SortWorksModel", "pTarget", "[I", true)
  | 31 => ("SortWorksModel", "pLabel", "[I", true)
  | 32 => ("SortWorksModel", "pByte", "[I", true)
  | 33 => ("SortWorksModel", "pWays", "[I", true)
  | 34 => ("SortWorksModel", "pWay", "[I", true)
  | 35 => ("SortWorksModel", "pScanned", "[Z", true)
  | 36 => ("SortWorksModel", "pMoved", "[Z", true)
  | 37 => ("SortWorksModel", "pDoor", "[I", true)
  | 38 => ("SortWorksModel", "inside", "[I", true)
  | 39 => ("SortWorksModel", "arrived", "[I", true)
  | 40 => ("SortWorksModel", "outMany", "[I", true)
  | 41 => ("SortWorksModel", "outs", "[I", true)
  | 42 => ("SortWorksModel", "findings", "[I", true)
  | 43 => ("SortWorksModel", "finding", "[I", true)
  | 44 => ("SortWorksModel", "traced", "[I", true)
  | 45 => ("SortWorksModel", "traces", "[I", true)
  | 46 => ("SortWorksModel", "letters", "[I", true)
  | 47 => ("SortWorksModel", "typed", "I", false)
  | 48 => ("SortWorksModel", "rules", "[I", true)
  | 49 => ("SortWorksModel", "ruleTo", "[I", true)
  | 50 => ("SortWorksModel", "ruleTests", "[I", true)
  | 51 => ("SortWorksModel", "ruleUsed", "[I", true)
  | 52 => ("SortWorksModel", "testWhat", "[I", true)
  | 53 => ("SortWorksModel", "testGear", "[I", true)
  | 54 => ("SortWorksModel", "testSign", "[I", true)
  | 55 => ("SortWorksModel", "testNumber", "[I", true)
  | 56 => ("SortWorksModel", "plans", "[I", true)
  | 57 => ("SortWorksModel", "planMany", "[I", true)
  | 58 => ("SortWorksModel", "planRow", "[I", true)
  | 59 => ("SortWorksModel", "groupMany", "[I", true)
  | 60 => ("SortWorksModel", "groupType", "[I", true)
  | 61 => ("SortWorksModel", "groupGear", "[I", true)
  | 62 => ("SortWorksModel", "newTo", "[I", true)
  | 63 => ("SortWorksModel", "newTests", "[I", true)
  | 64 => ("SortWorksModel", "newWhat", "[I", true)
  | 65 => ("SortWorksModel", "newGear", "[I", true)
  | 66 => ("SortWorksModel", "newSign", "[I", true)
  | 67 => ("SortWorksModel", "newNumber", "[I", true)
  | 68 => ("SortWorksModel", "at", "I", false)
  | 69 => ("SortWorksModel", "wrongAt", "I", false)
  | 70 => ("SortWorksModel", "read", "I", false)
  | 71 => ("SortWorksModel", "actGear", "I", false)
  | 72 => ("SortWorksModel", "actFound", "I", false)
  | 73 => ("SortWorksModel", "reached", "I", false)
  | 74 => ("SortWorksModel", "chosen", "[I", true)
  | 75 => ("SortWorksModel", "place", "I", false)
  | 76 => ("SortWorksModel", "weight", "I", false)
  | 77 => ("SortWorksModel", "size", "I", false)
  | 78 => ("SortWorksModel", "readFault", "I", false)
  | 79 => ("SortWorksModel", "six", "[I", true)
  | 80 => ("SortWorksModel", "quotient", "I", false)
  | 81 => ("SortWorksModel", "kept", "[I", true)
  | 82 => ("SortWorksModel", "keptFirst", "[I", true)
  | 83 => ("SortWorksModel", "rows", "[I", true)
  | 84 => ("SortWorksModel", "to", "I", false)
  | 85 => ("SortWorksModel", "isPutting", "Z", false)
  | 86 => ("SortWorksModel", "saidAt", "I", false)
  | 87 => ("SortWorksModel", "saidLetter", "I", false)
  | 88 => ("SortWorksModel", "away", "[I", true)
  | _ => ("SortWorksModel", "sum", "J", false)
def tyX11 : Nat → FieldType := fun k => match k with
  | 0 => .int
  | 1 => .int
  | 2 => .int
  | 3 => .array .int
  | 4 => .array .int
  | 5 => .array .int
  | 6 => .array .int
  | 7 => .array .int
  | 8 => .array .int
  | 9 => .array .int
  | 10 => .array .int
  | 11 => .array .long
  | 12 => .array .int
  | 13 => .array .int
  | 14 => .array .boolean
  | 15 => .array .int
  | 16 => .array .int
  | 17 => .array .int
  | 18 => .array .int
  | 19 => .array .int
  | 20 => .array .int
  | 21 => .array .int
  | 22 => .array .int
  | 23 => .int
  | 24 => .array .int
  | 25 => .array .int
  | 26 => .array .int
  | 27 => .array .int
  | 28 => .array .int
  | 29 => .array .int
  | 30 => .array .int
  | 31 => .array .int
  | 32 => .array .int
  | 33 => .array .int
  | 34 => .array .int
  | 35 => .array .boolean
  | 36 => .array .boolean
  | 37 => .array .int
  | 38 => .array .int
  | 39 => .array .int
  | 40 => .array .int
  | 41 => .array .int
  | 42 => .array .int
  | 43 => .array .int
  | 44 => .array .int
  | 45 => .array .int
  | 46 => .array .int
  | 47 => .int
  | 48 => .array .int
  | 49 => .array .int
  | 50 => .array .int
  | 51 => .array .int
  | 52 => .array .int
  | 53 => .array .int
  | 54 => .array .int
  | 55 => .array .int
  | 56 => .array .int
  | 57 => .array .int
  | 58 => .array .int
  | 59 => .array .int
  | 60 => .array .int
  | 61 => .array .int
  | 62 => .array .int
  | 63 => .array .int
  | 64 => .array .int
  | 65 => .array .int
  | 66 => .array .int
  | 67 => .array .int
  | 68 => .int
  | 69 => .int
  | 70 => .int
  | 71 => .int
  | 72 => .int
  | 73 => .int
  | 74 => .array .int
  | 75 => .int
  | 76 => .int
  | 77 => .int
  | 78 => .int
  | 79 => .array .int
  | 80 => .int
  | 81 => .array .int
  | 82 => .array .int
  | 83 => .array .int
  | 84 => .int
  | 85 => .boolean
  | 86 => .int
  | 87 => .int
  | 88 => .array .int
  | _ => .long
theorem nmX11 : ∀ a, a < 90 → ∀ b, b < 90 → a ≠ b → (TX11 a).2.1 ≠ (TX11 b).2.1 := by decide +kernel
theorem tyX11_ok : ∀ k, k < 90 → parseFieldDescriptor (TX11 k).2.2.1 = some (tyX11 k) := by decide +kernel
def sw_cl : List vw_C := [(RX0, TX0, 19), (RX1, TX1, 4), (RX2, TX2, 4), (RX3, TX3, 2), (RX4, TX4, 13), (RX5, TX5, 5), (RX6, TX6, 9), (RX7, TX7, 9), (RX8, TX8, 5), (RX9, TX9, 16), (RX10, TX10, 9), (RX11, TX11, 90)]
def sw_ty : Nat → Nat → FieldType := fun c k => match c with
  | 0 => tyX0 k
  | 1 => tyX1 k
  | 2 => tyX2 k
  | 3 => tyX3 k
  | 4 => tyX4 k
  | 5 => tyX5 k
  | 6 => tyX6 k
  | 7 => tyX7 k
  | 8 => tyX8 k
  | 9 => tyX9 k
  | 10 => tyX10 k
  | _ => tyX11 k
def sw_at : List FieldType := [.int, .long, .boolean, .array .int, .object RX9, .object RX0, .object RX4, .object RX7]
def sw_st : List (String × String) := [("SortWorks", "RANKS"), ("SortWorks", "LINKS_AHEAD"), ("SortWorks", "PACES"), ("SortWorks", "BODIES")]
def sw_tbs : List (List Int) := [[1, 2, 1, 1, 4, 3, 3, 1, 1, 0, 0], [1, 1, 1, 1, 1, 2, 3, 0, 1, 0, 0], [1, 2, 1, 1, 2, 1, 1, 1, 1, 1, 1], [1, 0, 0, 2, 1, 0, 3, 1, 0, 4, 1, 0, 5, 4, 1, 6, 0, 0, 7, 6, 0, 8, 0, 0, 9, 0, 0, 10, 0, 0, 11, 0, 0]]
def sw_tab (j i : Nat) : Int := (sw_tbs.getD j []).getD i 0
def sw_tl (j : Nat) : Nat := (sw_tbs.getD j []).length
def sw_ao : List String := [RX9, RX0, RX4, RX7]
def sw_nf : List (String × Nat × String × String × String × String) := [("SortWorks$Gear", 25, "SortWorks", "RANKS", "[I", "SortWorks"), ("SortWorks$Gear", 108, "SortWorks", "LINKS_AHEAD", "[I", "SortWorks"), ("SortWorks$Step", 93, "SortWorks", "PACES", "[I", "SortWorks"), ("SortWorks$Step", 194, "SortWorks", "BODIES", "[I", "SortWorks"), ("SortWorks$Gear", 124, "SortWorks", "PACES", "[I", "SortWorks"), ("SortWorks$Works", 138, "SortWorks", "LINKS_AHEAD", "[I", "SortWorks")]
def sw_nm : List (String × Nat × MethodName × String) := [("SortWorks$State", 39, ⟨"SortWorks$Gear", "<init>", "()V"⟩, "SortWorks"), ("SortWorks$Works", 20, ⟨"SortWorks$Rules", "<init>", "()V"⟩, "SortWorks"), ("SortWorks", 24, ⟨"SortWorks$Numbers", "<init>", "()V"⟩, "SortWorks"), ("SortWorks", 31, ⟨"SortWorks$Step", "<init>", "()V"⟩, "SortWorks"), ("SortWorks$Step", 11, ⟨"SortWorks$Reading", "<init>", "()V"⟩, "SortWorks"), ("SortWorks", 38, ⟨"SortWorks$Judge", "<init>", "()V"⟩, "SortWorks"), ("SortWorks$Judge", 11, ⟨"SortWorks$Rules", "<init>", "()V"⟩, "SortWorks"), ("SortWorks$Gear", 91, ⟨"SortWorks", "isTakerKind", "(I)Z"⟩, "SortWorks")]
def sw_gw : List Cond := lw_tbl.filter goodWord
end
section
/-! ===== the pure heap: how many cells, how many slots, tags, lengths, numbers, references ===== -/
abbrev p_Hp : Type := Nat × Nat × (Nat → Nat) × (Nat → Nat) × (Nat → Nat → Int) × (Nat → Nat → Nat)
def p_N (σ : p_Hp) : Nat := σ.1
def p_M (σ : p_Hp) : Nat := σ.2.1
def p_T (σ : p_Hp) : Nat → Nat := σ.2.2.1
def p_L (σ : p_Hp) : Nat → Nat := σ.2.2.2.1
def p_Z (σ : p_Hp) : Nat → Nat → Int := σ.2.2.2.2.1
def p_R (σ : p_Hp) : Nat → Nat → Nat := σ.2.2.2.2.2
def p_wZ (σ : p_Hp) (a k : Nat) (x : Int) : p_Hp := (σ.1, σ.2.1, σ.2.2.1, σ.2.2.2.1, fun b j => if b = a ∧ j = k then x else σ.2.2.2.2.1 b j, σ.2.2.2.2.2)
def p_wR (σ : p_Hp) (a k : Nat) (x : Nat) : p_Hp := (σ.1, σ.2.1, σ.2.2.1, σ.2.2.2.1, σ.2.2.2.2.1, fun b j => if b = a ∧ j = k then x else σ.2.2.2.2.2 b j)
def p_nw (σ : p_Hp) (t n : Nat) : p_Hp := (σ.1 + 1, σ.2.1 + n, fun b => if b = σ.1 + 1 then t else σ.2.2.1 b, fun b => if b = σ.1 + 1 then n else σ.2.2.2.1 b, fun b j => if b = σ.1 + 1 then 0 else σ.2.2.2.2.1 b j, fun b j => if b = σ.1 + 1 then 0 else σ.2.2.2.2.2 b j)
abbrev p_is (σ : p_Hp) (a t : Nat) : Prop := 1 ≤ a ∧ a ≤ p_N σ ∧ p_T σ a = t
/-- cells only come; a cell keeps its tag and its length -/
def p_x (σ σ' : p_Hp) : Prop := p_N σ ≤ p_N σ' ∧ p_M σ ≤ p_M σ' ∧ ∀ a, a ≤ p_N σ → p_T σ' a = p_T σ a ∧ p_L σ' a = p_L σ a
theorem p_x.rf (σ : p_Hp) : p_x σ σ := ⟨Nat.le_refl _, Nat.le_refl _, fun _ _ => ⟨rfl, rfl⟩⟩
theorem p_x.trans {σ σ1 σ2 : p_Hp} (h : p_x σ σ1) (k : p_x σ1 σ2) : p_x σ σ2 := ⟨Nat.le_trans h.1 k.1, Nat.le_trans h.2.1 k.2.1, fun a ha => ⟨(k.2.2 a (Nat.le_trans ha h.1)).1.trans (h.2.2 a ha).1, (k.2.2 a (Nat.le_trans ha h.1)).2.trans (h.2.2 a ha).2⟩⟩
theorem p_x.of {σ σ' σ2 : p_Hp} (hn : p_N σ' = p_N σ) (hm : p_M σ' = p_M σ) (ht : p_T σ' = p_T σ) (hl : p_L σ' = p_L σ) (k : p_x σ' σ2) : p_x σ σ2 := ⟨by rw [← hn]; exact k.1, by rw [← hm]; exact k.2.1, fun a ha => by rw [← ht, ← hl]; exact k.2.2 a (by rw [hn]; exact ha)⟩
theorem p_x_nw (σ : p_Hp) (t n : Nat) : p_x σ (p_nw σ t n) := ⟨Nat.le_succ _, Nat.le_add_right _ _, fun a ha => by
  have h : a ≠ σ.1 + 1 := by have : a ≤ σ.1 := ha; omega
  exact ⟨if_neg h, if_neg h⟩⟩
theorem p_is.up {σ σ' : p_Hp} {a t : Nat} (h : p_is σ a t) (k : p_x σ σ') : p_is σ' a t := ⟨h.1, Nat.le_trans h.2.1 k.1, (k.2.2 a h.2.1).1.trans h.2.2⟩
abbrev p_c (x : Int) : Prop := -2147483648 ≤ x ∧ x < 2147483648
abbrev p_c6 (x : Int) : Prop := -9223372036854775808 ≤ x ∧ x < 9223372036854775808
def p_w (x : Int) : Int := (Int32.ofInt x).toInt
def p_w6 (x : Int) : Int := (Int64.ofInt x).toInt
theorem p_w_id {x : Int} (h : p_c x) : p_w x = x := Int32.toInt_ofInt_of_le (by omega) (by omega)
theorem p_w6_id {x : Int} (h : p_c6 x) : p_w6 x = x := Int64.toInt_ofInt_of_le (by omega) (by omega)
theorem p_w_c (x : Int) : p_c (p_w x) := ⟨by have := (Int32.ofInt x).le_toInt; unfold p_w; omega, by have := (Int32.ofInt x).toInt_lt; unfold p_w; omega⟩
theorem p_w6_c (x : Int) : p_c6 (p_w6 x) := ⟨by have := (Int64.ofInt x).le_toInt; unfold p_w6; omega, by have := (Int64.ofInt x).toInt_lt; unfold p_w6; omega⟩
theorem p_w_of (x : Int) : Int32.ofInt (p_w x) = Int32.ofInt x := Int32.ofInt_toInt _
theorem p_w6_of (x : Int) : Int64.ofInt (p_w6 x) = Int64.ofInt x := Int64.ofInt_toInt _
theorem p_i32 (y : Int32) : p_c y.toInt := ⟨by have := y.le_toInt; omega, by have := y.toInt_lt; omega⟩
theorem p_i64 (y : Int64) : p_c6 y.toInt := ⟨by have := y.le_toInt; omega, by have := y.toInt_lt; omega⟩
theorem p_t {x : Int} (h : p_c x) : (Int32.ofInt x).toInt = x := p_w_id h
theorem p_t6 {x : Int} (h : p_c6 x) : (Int64.ofInt x).toInt = x := p_w6_id h
theorem p_lt {x y : Int} (hx : p_c x) (hy : p_c y) : Int32.ofInt x < Int32.ofInt y ↔ x < y := by rw [Int32.lt_iff_toInt_lt, p_t hx, p_t hy]
theorem p_le {x y : Int} (hx : p_c x) (hy : p_c y) : Int32.ofInt x ≤ Int32.ofInt y ↔ x ≤ y := by rw [Int32.le_iff_toInt_le, p_t hx, p_t hy]
theorem p_eq {x y : Int} (hx : p_c x) (hy : p_c y) : Int32.ofInt x = Int32.ofInt y ↔ x = y := by rw [← Int32.toInt_inj, p_t hx, p_t hy]
theorem p_eq0 {x : Int} (hx : p_c x) : Int32.ofInt x = 0 ↔ x = 0 := by
  have h := p_eq hx (y := 0) (by decide)
  exact h
theorem p_lt0 {x : Int} (hx : p_c x) : Int32.ofInt x < 0 ↔ x < 0 := by
  have h := p_lt hx (y := 0) (by decide)
  exact h
theorem p_le0 {x : Int} (hx : p_c x) : Int32.ofInt x ≤ 0 ↔ x ≤ 0 := by
  have h := p_le hx (y := 0) (by decide)
  exact h
theorem p_nat {x : Int} {n : Nat} (h0 : 0 ≤ x) (h1 : x < (n : Int)) (hn : n ≤ 2147483648) : (Int32.ofInt x).toNatClampNeg = x.toNat := by
  have h : p_c x := ⟨by omega, by omega⟩
  show (Int32.ofInt x).toInt.toNat = x.toNat
  rw [p_t h]
theorem p_in {x : Int} {n : Nat} (h0 : 0 ≤ x) (h1 : x < (n : Int)) (hn : n ≤ 2147483648) : ¬ (Int32.ofInt x < 0 ∨ n ≤ (Int32.ofInt x).toNatClampNeg) := by
  have h : p_c x := ⟨by omega, by omega⟩
  rw [p_lt0 h, p_nat h0 h1 hn]
  omega
/-! ===== values of a frame: int, long, reference (0: null), a static table ===== -/
abbrev p_AV : Type := Int ⊕ (Int ⊕ (Nat ⊕ Nat))
def p_i (x : Int) : p_AV := .inl x
def p_j (x : Int) : p_AV := .inr (.inl x)
def p_r (x : Nat) : p_AV := .inr (.inr (.inl x))
def p_s (x : Nat) : p_AV := .inr (.inr (.inr x))
def p_ok (v : p_AV) : Prop := match v with
  | .inl x => p_c x
  | .inr (.inl x) => p_c6 x
  | .inr (.inr _) => True
def p_cat (v : p_AV) : Nat := match v with
  | .inr (.inl _) => 2
  | _ => 1
/-- what is fixed through a run: the base, class numbers, field slots, array classes, addresses of static tables (9: the script), the script's length and ints -/
abbrev p_K : Type := Nat × (Nat → ClassId) × (Nat → Nat → Nat) × (Nat → ClassId) × (Nat → Nat) × Nat × (Nat → Int)
def p_A (K : p_K) : Nat → Prop := fun q => K.1 < q
def p_rO (B r : Nat) : Option Nat := if r = 0 then none else some (B + r)
def p_V (K : p_K) (v : p_AV) : Value := match v with
  | .inl x => .int (Int32.ofInt x)
  | .inr (.inl x) => .long (Int64.ofInt x)
  | .inr (.inr (.inl r)) => va_rf (p_rO K.1 r)
  | .inr (.inr (.inr j)) => .ref (K.2.2.2.2.1 j)
def p_q (K : p_K) (q : Nat × p_AV) : Nat × Value := (q.1, p_V K q.2)
def p_tv (K : p_K) (j i : Nat) : Int := if j = 9 then K.2.2.2.2.2.2 i else sw_tab j i
def p_tl (K : p_K) (j : Nat) : Nat := if j = 9 then K.2.2.2.2.2.1 else sw_tl j
theorem p_V_r {K : p_K} {a : Nat} (h : 1 ≤ a) : p_V K (p_r a) = .ref (K.1 + a) := by
  show va_rf (p_rO K.1 a) = _
  unfold p_rO
  rw [if_neg (by omega)]
  rfl
theorem p_V_0 {K : p_K} : p_V K (p_r 0) = .null := rfl
theorem p_V_cat (K : p_K) (v : p_AV) : (p_V K v).category = p_cat v := by
  rcases v with x | x | r | j
  · rfl
  · rfl
  · show (va_rf (p_rO K.1 r)).category = 1
    cases p_rO K.1 r <;> rfl
  · rfl
def p_sl (K : p_K) (σ : p_Hp) (a : Nat) (ty : FieldType) (k : Nat) : Value := match ty with
  | .long => .long (Int64.ofInt (p_Z σ a k))
  | .object _ => va_rf (p_rO K.1 (p_R σ a k))
  | .array _ => va_rf (p_rO K.1 (p_R σ a k))
  | _ => .int (Int32.ofInt (p_Z σ a k))
def p_okT (ty : FieldType) (x : Int) : Prop := match ty with
  | .long => p_c6 x
  | .boolean => x = 0 ∨ x = 1
  | .object _ => True
  | .array _ => True
  | _ => p_c x
/-- the tables of the classes, the statics: what is so at every state -/
def p_E (K : p_K) (U : State) (H : Heap) : Prop :=
  (∀ (ci : Nat) (q : vw_C), sw_cl[ci]? = some q → u_Kn U q.1 q.2.1 q.2.2 (K.2.1 ci) (K.2.2.1 ci)) ∧
  (∀ (i : Nat) (ty : FieldType), sw_at[i]? = some ty → ArrOfT U (K.2.2.2.1 i) ty ∧ va_RA U (K.2.2.2.1 i) ty) ∧
  (∀ q ∈ sw_nf, va_Nw (.fieldLinkNest q.1 q.2.1 q.2.2.1 q.2.2.2.1 q.2.2.2.2.1 q.2.2.2.2.2) U) ∧
  (∀ q ∈ sw_nm, va_Nw (.methodLinkNest q.1 q.2.1 q.2.2.1 q.2.2.2) U) ∧
  (∀ C ∈ sw_ao, va_AO C U) ∧ (Cond.arrayOver (.array .int)).before #[] U = true ∧
  (∀ (j : Nat) (q : String × String), sw_st[j]? = some q → va_Z q.1 q.2 "[I" (.ref (K.2.2.2.2.1 j)) (p_A K) U H) ∧
  (∀ j : Nat, j < sw_st.length ∨ j = 9 → va_T .int (K.2.2.2.2.1 j) (p_tl K j) (fun i => .int (Int32.ofInt (p_tv K j i))) (p_A K) U H) ∧
  (∀ j : Nat, p_tl K j ≤ 1000000) ∧ (∀ i : Nat, p_c (K.2.2.2.2.2.2 i)) ∧ va_Nw (.castable "[I" "java/lang/Cloneable") U
theorem p_E.kept {K : p_K} {U : State} {H H1 : Heap} (h : p_E K U H) (hq : ∀ a : Nat, a < H.size → ¬ p_A K a → H1[a]? = H[a]?) : p_E K U H1 := by
  obtain ⟨h1, h2, h3, h4, h5, h6, h7, h8, h9⟩ := h
  exact ⟨h1, h2, h3, h4, h5, h6, fun j q hj => (h7 j q hj).kept hq, fun j hj => (h8 j hj).kept hq, h9⟩
theorem p_E.moved {K : p_K} {s U : State} {H : Heap} (hW : s.WarmedH U.vm) (h : p_E K s H) : p_E K U H := by
  obtain ⟨h1, h2, h3, h4, h5, h6, h7, h8, h9, h10, h11⟩ := h
  have hv : s.vm.Alike U.vm := hW.alike
  exact ⟨fun ci q hq => u_Kn_moved hv (h1 ci q hq), fun i ty hi => ⟨arrOfT_moved hv (h2 i ty hi).1, (h2 i ty hi).2.moved hv⟩, fun q hq => va_Nw.warmF hW (h3 q hq), fun q hq => va_Nw.warmM hW (h4 q hq), fun C hC => va_AO.moved hv (h5 C hC), over_moved hv h6, fun j q hj => (h7 j q hj).moved hv, fun j hj => (h8 j hj).moved hv, h9, h10, va_Nw.warmC hW h11⟩
/-- the heap holds what the pure heap says -/
def p_P (K : p_K) (σ : p_Hp) (H : Heap) : Prop :=
  H.size = K.1 + p_N σ + 1 ∧
  (∀ (a ci : Nat) (q : vw_C), p_is σ a ci → sw_cl[ci]? = some q → t_OB (K.1 + a) (K.2.1 ci) q.2.2 (K.2.2.1 ci) H (fun k => p_sl K σ a (sw_ty ci k) k) ∧ ∀ k, k < q.2.2 → p_okT (sw_ty ci k) (p_Z σ a k)) ∧
  (∀ (a i : Nat) (ty : FieldType), p_is σ a (100 + i) → sw_at[i]? = some ty → H[K.1 + a]? = some (arrV (K.2.2.2.1 i) (p_L σ a) (fun j => p_sl K σ a ty j)) ∧ (∀ j, j < p_L σ a → p_okT ty (p_Z σ a j)) ∧ p_L σ a ≤ 1000000)
/-- a method: its name, code, locals, answer's type, frames and words of locals that its calls need -/
abbrev p_Me : Type := MethodName × ByteArray × Nat × Option FieldType × Nat × Nat
def p_ws (M : p_Me) : List Cond := .code M.1 M.2.1 M.2.2.1 M.2.2.2.1 :: sw_gw
def p_rm (M : p_Me) (mc ms : Nat) : Room := { frames := M.2.2.2.2.1, cells := mc, slots := ms, locals := M.2.2.2.2.2 }
def p_ri (ret : Option FieldType) : Instr := match ret with
  | none => .return_
  | some .long => .lreturn
  | some (.object _) => .areturn
  | some (.array _) => .areturn
  | some _ => .ireturn
def p_rk (ret : Option FieldType) (v : Option p_AV) : Prop := match ret with
  | none => v = none
  | some .int => ∃ x, v = some (p_i x) ∧ p_c x
  | some .boolean => ∃ x, v = some (p_i x) ∧ (x = 0 ∨ x = 1)
  | some .long => ∃ x, v = some (p_j x) ∧ p_c6 x
  | some (.object _) => ∃ x, v = some (p_r x)
  | some (.array _) => ∃ x, v = some (p_r x)
  | some _ => False
def p_Cx (K : p_K) (M : p_Me) (p : Program) (s : State) (m : MethodId) (args : Array Value) (meth : Method) (c : Code) : Prop :=
  p.tables.exec = Jvm.exec ∧ c.code = M.2.1 ∧ c.maxLocals = M.2.2.1 ∧ meth.sig.returnType = M.2.2.2.1 ∧ s.vm.findClass M.1.cls = some m.cls ∧ (∀ w ∈ sw_gw, w.before args s = true) ∧ meth.locks = false ∧ (M.1.name = "<init>" → meth.name = "<init>") ∧ p_E K s s.heap
def p_Rt (K : p_K) (l : Launch) (M : p_Me) (o : Option p_AV × p_Hp) (p : Program) (e : Env) (s : State) (m : MethodId) (args : Array Value) (below : List Frame) (meth : Method) (c : Code) (mc ms : Nat) (Q : State → Prop) : Prop :=
  ∀ (H : Heap) (locs : List Loc) (pc : Nat) (ls : Array Slot), p_P K o.2 H → va_S (p_A K) s.heap H locs → p_rk M.2.2.2.1 o.1 → decode M.2.1 pc = .ok (p_ri M.2.2.2.1, 1) → W p l e (p_rm M mc ms) s m args below meth c H locs mc ms Q (F0 m pc ls (o.1.toList.map (p_V K)))
/-- THE JUDGEMENT: from this frame the method comes to its end, with the answer and the pure heap o -/
def p_Go (K : p_K) (l : Launch) (M : p_Me) (pc : Nat) (lv : List (Nat × p_AV)) (st : List p_AV) (σ : p_Hp) (o : Option p_AV × p_Hp) : Prop :=
  p_x σ o.2 ∧
  ∀ (p : Program) (e : Env) (s : State) (m : MethodId) (args : Array Value) (below : List Frame) (meth : Method) (c : Code) (H : Heap) (locs : List Loc) (n0 m0 mc ms : Nat) (Q : State → Prop) (ls : Array Slot),
    p_Cx K M p s m args meth c → p_P K σ H → va_S (p_A K) s.heap H locs → n0 ≤ p_N σ → m0 ≤ p_M σ → p_N o.2 ≤ n0 + mc → p_M o.2 ≤ m0 + ms →
    lv_has ls M.2.2.1 (lv.map (p_q K)) → (∀ q ∈ lv, p_ok q.2) → (∀ v ∈ st, p_ok v) → p_Rt K l M o p e s m args below meth c mc ms Q →
    W p l e (p_rm M mc ms) s m args below meth c H locs (p_N σ - n0) (p_M σ - m0) Q (F0 m pc ls (st.map (p_V K)))
theorem p_at {K : p_K} {lv : List (Nat × p_AV)} {ls : Array Slot} {n j i : Nat} {v : p_AV} (h : lv_has ls n (lv.map (p_q K))) (hj : lv[j]? = some (i, v)) : ls[i]? = some (.val (p_V K v)) :=
  lv_at h j (by rw [List.getElem?_map, hj]; rfl)
theorem p_okat {lv : List (Nat × p_AV)} {j i : Nat} {v : p_AV} (h : ∀ q ∈ lv, p_ok q.2) (hj : lv[j]? = some (i, v)) : p_ok v := h (i, v) (List.mem_of_getElem? hj)
theorem p_ok2 {v : p_AV} {st : List p_AV} (hv : p_ok v) (h : ∀ x ∈ st, p_ok x) : ∀ x ∈ v :: st, p_ok x := fun x hx => (List.mem_cons.mp hx).elim (fun e => e ▸ hv) (h x)
theorem p_okt {v : p_AV} {st : List p_AV} (h : ∀ x ∈ v :: st, p_ok x) : ∀ x ∈ st, p_ok x := fun x hx => h x (List.mem_cons_of_mem _ hx)
theorem p_okh {v : p_AV} {st : List p_AV} (h : ∀ x ∈ v :: st, p_ok x) : p_ok v := h v List.mem_cons_self
end
section
/-! ===== numbers as the machine has them ===== -/
def p_and (a b : Int) : Int := (Int32.ofInt a &&& Int32.ofInt b).toInt
def p_xor (a b : Int) : Int := (Int32.ofInt a ^^^ Int32.ofInt b).toInt
def p_or (a b : Int) : Int := (Int32.ofInt a ||| Int32.ofInt b).toInt
def p_ushr (a b : Int) : Int := (((Int32.ofInt a).toUInt32 >>> ((Int32.ofInt b).toUInt32 &&& Int32.toUInt32 31)).toInt32).toInt
def p_and6 (a b : Int) : Int := (Int64.ofInt a &&& Int64.ofInt b).toInt
def p_xor6 (a b : Int) : Int := (Int64.ofInt a ^^^ Int64.ofInt b).toInt
def p_or6 (a b : Int) : Int := (Int64.ofInt a ||| Int64.ofInt b).toInt
def p_shl6 (a b : Int) : Int := (Int64.ofInt a <<< ((Int32.ofInt b).toInt64 &&& 63)).toInt
def p_shr6 (a b : Int) : Int := (Int64.ofInt a >>> ((Int32.ofInt b).toInt64 &&& 63)).toInt
def p_ushr6 (a b : Int) : Int := (((Int64.ofInt a).toUInt64 >>> ((Int32.ofInt b).toInt64.toUInt64 &&& Int64.toUInt64 63)).toInt64).toInt
def p_cmp (a b : Int) : Int := if b < a then 1 else if a = b then 0 else -1
def p_div (a b : Int) : Int := p_w (a.tdiv b)
def p_rem (a b : Int) : Int := p_w (a.tmod b)
theorem p_tdiv {a b : Int} (ha : p_c a) (hb : p_c b) : Int32.ofInt (p_div a b) = Int32.ofInt a / Int32.ofInt b := by
  rw [← Int32.toInt_inj, Int32.toInt_div, p_t ha, p_t hb]
  unfold p_div
  rw [p_w_of, Int32.toInt_ofInt]
theorem p_trem {a b : Int} (ha : p_c a) (hb : p_c b) : Int32.ofInt (p_rem a b) = Int32.ofInt a - Int32.ofInt a / Int32.ofInt b * Int32.ofInt b := by
  rw [← p_tdiv ha hb]
  unfold p_rem p_div
  rw [p_w_of, p_w_of, ← Int32.ofInt_mul, ← Int32.ofInt_sub, Int.tmod_def, Int.mul_comm b]
theorem p_tcmp {a b : Int} (ha : p_c6 a) (hb : p_c6 b) : Int32.ofInt (p_cmp a b) = lg_cmp (Int64.ofInt a) (Int64.ofInt b) := by
  unfold p_cmp lg_cmp
  simp only [gt_iff_lt, Int64.lt_iff_toInt_lt, ← Int64.toInt_inj, p_t6 ha, p_t6 hb]
  repeat' split
  all_goals rfl
theorem p_cmp_c (a b : Int) : p_c (p_cmp a b) := by
  unfold p_cmp
  repeat' split
  all_goals decide
theorem p_ti2l {a : Int} (ha : p_c a) : (Int32.ofInt a).toInt64 = Int64.ofInt a := by
  rw [← Int64.toInt_inj, Int32.toInt_toInt64, p_t ha, p_t6 ⟨by omega, by omega⟩]
theorem p_tl2i {a : Int} (ha : p_c6 a) : (Int64.ofInt a).toInt32 = Int32.ofInt (p_w a) := by
  rw [p_w_of, ← Int32.toInt_inj, Int64.toInt_toInt32, p_t6 ha, Int32.toInt_ofInt]
/-! ===== rows: constants, locals, the stack, numbers, branches ===== -/
section PR
variable {K : p_K} {l : Launch} {M : p_Me} {pc : Nat} {lv : List (Nat × p_AV)} {st : List p_AV} {σ : p_Hp} {o : Option p_AV × p_Hp}
theorem g_iconst {n : Int} (hd : decode M.2.1 pc = .ok (.iconst n, 1)) (hn : p_c n) (k : p_Go K l M (pc + 1) lv (p_i n :: st) σ o) : p_Go K l M pc lv st σ o :=
  ⟨k.1, fun p e s m args below meth c H locs n0 m0 mc ms Q ls C R S h1 h2 h3 h4 hl ol os RT => lv_iconst C.1 C.2.1 hd rfl (k.2 p e s m args below meth c H locs n0 m0 mc ms Q ls C R S h1 h2 h3 h4 hl ol (p_ok2 hn os) RT)⟩
theorem g_bipush {n : Int} (hd : decode M.2.1 pc = .ok (.bipush n, 2)) (hv : (Int8.ofInt n).toInt32 = Int32.ofInt n) (hn : p_c n) (k : p_Go K l M (pc + 2) lv (p_i n :: st) σ o) : p_Go K l M pc lv st σ o :=
  ⟨k.1, fun p e s m args below meth c H locs n0 m0 mc ms Q ls C R S h1 h2 h3 h4 hl ol os RT => lv_bipush C.1 C.2.1 hd hv (k.2 p e s m args below meth c H locs n0 m0 mc ms Q ls C R S h1 h2 h3 h4 hl ol (p_ok2 hn os) RT)⟩
theorem g_sipush {n : Int} (hd : decode M.2.1 pc = .ok (.sipush n, 3)) (hv : (Int16.ofInt n).toInt32 = Int32.ofInt n) (hn : p_c n) (k : p_Go K l M (pc + 3) lv (p_i n :: st) σ o) : p_Go K l M pc lv st σ o :=
  ⟨k.1, fun p e s m args below meth c H locs n0 m0 mc ms Q ls C R S h1 h2 h3 h4 hl ol os RT => lv_sipush C.1 C.2.1 hd hv (k.2 p e s m args below meth c H locs n0 m0 mc ms Q ls C R S h1 h2 h3 h4 hl ol (p_ok2 hn os) RT)⟩
theorem g_lconst {n : Fin 2} {x : Int} (hd : decode M.2.1 pc = .ok (.lconst n, 1)) (hv : Int64.ofNat (n : Nat) = Int64.ofInt x) (hn : p_c6 x) (k : p_Go K l M (pc + 1) lv (p_j x :: st) σ o) : p_Go K l M pc lv st σ o :=
  ⟨k.1, fun p e s m args below meth c H locs n0 m0 mc ms Q ls C R S h1 h2 h3 h4 hl ol os RT => lv_lconst C.1 C.2.1 hd hv (k.2 p e s m args below meth c H locs n0 m0 mc ms Q ls C R S h1 h2 h3 h4 hl ol (p_ok2 hn os) RT)⟩
theorem g_ldc {i : Nat} {x : Int} {v : Int32} (hd : decode M.2.1 pc = .ok (.ldc i, 2)) (hw : Jvm.Cond.constant M.1.cls i v ∈ sw_gw) (hv : v = Int32.ofInt x) (hn : p_c x) (k : p_Go K l M (pc + 2) lv (p_i x :: st) σ o) : p_Go K l M pc lv st σ o :=
  ⟨k.1, fun p e s m args below meth c H locs n0 m0 mc ms Q ls C R S h1 h2 h3 h4 hl ol os RT => lv_ldc (v := Int32.ofInt x) C.1 C.2.1 C.2.2.2.2.1 (C.2.2.2.2.2.1 _ (hv ▸ hw)) hd (k.2 p e s m args below meth c H locs n0 m0 mc ms Q ls C R S h1 h2 h3 h4 hl ol (p_ok2 hn os) RT)⟩
theorem g_ldc_w {i : Nat} {x : Int} {v : Int32} (hd : decode M.2.1 pc = .ok (.ldc_w i, 3)) (hw : Jvm.Cond.constant M.1.cls i v ∈ sw_gw) (hv : v = Int32.ofInt x) (hn : p_c x) (k : p_Go K l M (pc + 3) lv (p_i x :: st) σ o) : p_Go K l M pc lv st σ o :=
  ⟨k.1, fun p e s m args below meth c H locs n0 m0 mc ms Q ls C R S h1 h2 h3 h4 hl ol os RT => lv_ldcw (v := Int32.ofInt x) C.1 C.2.1 C.2.2.2.2.1 (C.2.2.2.2.2.1 _ (hv ▸ hw)) hd (k.2 p e s m args below meth c H locs n0 m0 mc ms Q ls C R S h1 h2 h3 h4 hl ol (p_ok2 hn os) RT)⟩
theorem g_ldc2_w {i : Nat} {x : Int} {v : Int64} (hd : decode M.2.1 pc = .ok (.ldc2_w i, 3)) (hw : Jvm.Cond.constantLong M.1.cls i v ∈ sw_gw) (hv : v = Int64.ofInt x) (hn : p_c6 x) (k : p_Go K l M (pc + 3) lv (p_j x :: st) σ o) : p_Go K l M pc lv st σ o :=
  ⟨k.1, fun p e s m args below meth c H locs n0 m0 mc ms Q ls C R S h1 h2 h3 h4 hl ol os RT => lv_ldc2 (v := Int64.ofInt x) C.1 C.2.1 C.2.2.2.2.1 (C.2.2.2.2.2.1 _ (hv ▸ hw)) hd (k.2 p e s m args below meth c H locs n0 m0 mc ms Q ls C R S h1 h2 h3 h4 hl ol (p_ok2 hn os) RT)⟩
theorem g_aconst_null  (hd : decode M.2.1 pc = .ok (.aconst_null, 1))  (k : p_Go K l M (pc + 1) lv (p_r 0 :: st) σ o) : p_Go K l M pc lv st σ o :=
  ⟨k.1, fun p e s m args below meth c H locs n0 m0 mc ms Q ls C R S h1 h2 h3 h4 hl ol os RT => lv_null C.1 C.2.1 hd (k.2 p e s m args below meth c H locs n0 m0 mc ms Q ls C R S h1 h2 h3 h4 hl ol (p_ok2 trivial os) RT)⟩
theorem g_iload_n {n : Fin 4} {i j : Nat} {x : Int} (hd : decode M.2.1 pc = .ok (.iload_n n, 1)) (hi : (n : Nat) = i) (hj : lv[j]? = some (i, p_i x)) (k : p_Go K l M (pc + 1) lv (p_i x :: st) σ o) : p_Go K l M pc lv st σ o :=
  ⟨k.1, fun p e s m args below meth c H locs n0 m0 mc ms Q ls C R S h1 h2 h3 h4 hl ol os RT => lv_iload_n C.1 C.2.1 hd hi (p_at hl hj) (k.2 p e s m args below meth c H locs n0 m0 mc ms Q ls C R S h1 h2 h3 h4 hl ol (p_ok2 (p_okat ol hj) os) RT)⟩
theorem g_iload {i j : Nat} {x : Int} (hd : decode M.2.1 pc = .ok (.iload i, 2)) (hj : lv[j]? = some (i, p_i x)) (k : p_Go K l M (pc + 2) lv (p_i x :: st) σ o) : p_Go K l M pc lv st σ o :=
  ⟨k.1, fun p e s m args below meth c H locs n0 m0 mc ms Q ls C R S h1 h2 h3 h4 hl ol os RT => lv_iload C.1 C.2.1 hd (p_at hl hj) (k.2 p e s m args below meth c H locs n0 m0 mc ms Q ls C R S h1 h2 h3 h4 hl ol (p_ok2 (p_okat ol hj) os) RT)⟩
theorem g_lload_n {n : Fin 4} {i j : Nat} {x : Int} (hd : decode M.2.1 pc = .ok (.lload_n n, 1)) (hi : (n : Nat) = i) (hj : lv[j]? = some (i, p_j x)) (k : p_Go K l M (pc + 1) lv (p_j x :: st) σ o) : p_Go K l M pc lv st σ o :=
  ⟨k.1, fun p e s m args below meth c H locs n0 m0 mc ms Q ls C R S h1 h2 h3 h4 hl ol os RT => lv_lload_n C.1 C.2.1 hd hi (p_at hl hj) (k.2 p e s m args below meth c H locs n0 m0 mc ms Q ls C R S h1 h2 h3 h4 hl ol (p_ok2 (p_okat ol hj) os) RT)⟩
theorem g_lload {i j : Nat} {x : Int} (hd : decode M.2.1 pc = .ok (.lload i, 2)) (hj : lv[j]? = some (i, p_j x)) (k : p_Go K l M (pc + 2) lv (p_j x :: st) σ o) : p_Go K l M pc lv st σ o :=
  ⟨k.1, fun p e s m args below meth c H locs n0 m0 mc ms Q ls C R S h1 h2 h3 h4 hl ol os RT => lv_lload C.1 C.2.1 hd (p_at hl hj) (k.2 p e s m args below meth c H locs n0 m0 mc ms Q ls C R S h1 h2 h3 h4 hl ol (p_ok2 (p_okat ol hj) os) RT)⟩
theorem g_aload_n {n : Fin 4} {i j : Nat} {x : Nat} (hd : decode M.2.1 pc = .ok (.aload_n n, 1)) (hi : (n : Nat) = i) (hj : lv[j]? = some (i, p_r x)) (k : p_Go K l M (pc + 1) lv (p_r x :: st) σ o) : p_Go K l M pc lv st σ o := by
  refine ⟨k.1, fun p e s m args below meth c H locs n0 m0 mc ms Q ls C R S h1 h2 h3 h4 hl ol os RT => ?_⟩
  have kk := (k.2 p e s m args below meth c H locs n0 m0 mc ms Q ls C R S h1 h2 h3 h4 hl ol (p_ok2 (v := p_r x) trivial os) RT)
  have ha := p_at hl hj
  have e : (p_r x :: st).map (p_V K) = va_rf (p_rO K.1 x) :: st.map (p_V K) := rfl
  rw [e] at kk
  have e2 : p_V K (p_r x) = va_rf (p_rO K.1 x) := rfl
  rw [e2] at ha
  cases hx : p_rO K.1 x with
  | none => rw [hx] at kk ha; exact lv_aload_nN C.1 C.2.1 hd hi ha kk
  | some a => rw [hx] at kk ha; exact lv_aload_n C.1 C.2.1 hd hi ha kk
theorem g_aload {i j : Nat} {x : Nat} (hd : decode M.2.1 pc = .ok (.aload i, 2)) (hj : lv[j]? = some (i, p_r x)) (k : p_Go K l M (pc + 2) lv (p_r x :: st) σ o) : p_Go K l M pc lv st σ o := by
  refine ⟨k.1, fun p e s m args below meth c H locs n0 m0 mc ms Q ls C R S h1 h2 h3 h4 hl ol os RT => ?_⟩
  have kk := (k.2 p e s m args below meth c H locs n0 m0 mc ms Q ls C R S h1 h2 h3 h4 hl ol (p_ok2 (v := p_r x) trivial os) RT)
  have ha := p_at hl hj
  have e : (p_r x :: st).map (p_V K) = va_rf (p_rO K.1 x) :: st.map (p_V K) := rfl
  rw [e] at kk
  have e2 : p_V K (p_r x) = va_rf (p_rO K.1 x) := rfl
  rw [e2] at ha
  cases hx : p_rO K.1 x with
  | none => rw [hx] at kk ha; exact lv_aloadN C.1 C.2.1 hd ha kk
  | some a => rw [hx] at kk ha; exact lv_aload C.1 C.2.1 hd ha kk
theorem p_flt (K : p_K) (lv : List (Nat × p_AV)) (i : Nat) : (lv.map (p_q K)).filter (fun q => !(q.1 == i) && !(q.1 + 1 == i && q.2.category == 2)) = (lv.filter (fun q => !(q.1 == i) && !(q.1 + 1 == i && p_cat q.2 == 2))).map (p_q K) := by
  rw [List.filter_map]
  congr 1
  apply List.filter_congr
  intro q _
  show (!(q.1 == i) && !(q.1 + 1 == i && (p_V K q.2).category == 2)) = _
  rw [p_V_cat]
theorem p_flt2 (K : p_K) (lv : List (Nat × p_AV)) (i : Nat) : (lv.map (p_q K)).filter (fun q => !(q.1 == i) && (!(q.1 == i + 1) && !(q.1 + 1 == i && q.2.category == 2))) = (lv.filter (fun q => !(q.1 == i) && (!(q.1 == i + 1) && !(q.1 + 1 == i && p_cat q.2 == 2)))).map (p_q K) := by
  rw [List.filter_map]
  congr 1
  apply List.filter_congr
  intro q _
  show (!(q.1 == i) && (!(q.1 == i + 1) && !(q.1 + 1 == i && (p_V K q.2).category == 2))) = _
  rw [p_V_cat]
theorem p_okf {lv : List (Nat × p_AV)} {i : Nat} {v : p_AV} {f : Nat × p_AV → Bool} (hv : p_ok v) (h : ∀ q ∈ lv, p_ok q.2) : ∀ q ∈ (i, v) :: lv.filter f, p_ok q.2 := fun q hq => (List.mem_cons.mp hq).elim (fun e => by rw [e]; exact hv) (fun h1 => h q (List.mem_filter.mp h1).1)
theorem p_stE {K : p_K} {lv lv' : List (Nat × p_AV)} {i : Nat} {v : p_AV} (he : (i, v) :: lv.filter (fun q => !(q.1 == i) && !(q.1 + 1 == i && p_cat q.2 == 2)) = lv') : (i, p_V K v) :: (lv.map (p_q K)).filter (fun q => !(q.1 == i) && !(q.1 + 1 == i && q.2.category == 2)) = lv'.map (p_q K) := by
  rw [← he, p_flt]
  rfl
theorem p_stE2 {K : p_K} {lv lv' : List (Nat × p_AV)} {i : Nat} {v : p_AV} (he : (i, v) :: lv.filter (fun q => !(q.1 == i) && (!(q.1 == i + 1) && !(q.1 + 1 == i && p_cat q.2 == 2))) = lv') : (i, p_V K v) :: (lv.map (p_q K)).filter (fun q => !(q.1 == i) && (!(q.1 == i + 1) && !(q.1 + 1 == i && q.2.category == 2))) = lv'.map (p_q K) := by
  rw [← he, p_flt2]
  rfl
theorem g_istore_n {n : Fin 4} {i : Nat} {x : Int} (lv' : List (Nat × p_AV)) (hd : decode M.2.1 pc = .ok (.istore_n n, 1)) (hi : (n : Nat) = i) (hn : i < M.2.2.1) (he : (i, p_i x) :: lv.filter (fun q => !(q.1 == i) && !(q.1 + 1 == i && p_cat q.2 == 2)) = lv') (k : p_Go K l M (pc + 1) lv' st σ o) : p_Go K l M pc lv (p_i x :: st) σ o :=
  ⟨k.1, fun p e s m args below meth c H locs n0 m0 mc ms Q ls C R S h1 h2 h3 h4 hl ol os RT => lv_istore_n C.1 C.2.1 hd hi hl hn (p_stE he) (fun ls' hl' => (k.2 p e s m args below meth c H locs n0 m0 mc ms Q ls' C R S h1 h2 h3 h4 hl' (he ▸ p_okf (p_okh os) ol) (p_okt os) RT))⟩
theorem g_istore {i : Nat} {x : Int} (lv' : List (Nat × p_AV)) (hd : decode M.2.1 pc = .ok (.istore i, 2)) (hn : i < M.2.2.1) (he : (i, p_i x) :: lv.filter (fun q => !(q.1 == i) && !(q.1 + 1 == i && p_cat q.2 == 2)) = lv') (k : p_Go K l M (pc + 2) lv' st σ o) : p_Go K l M pc lv (p_i x :: st) σ o :=
  ⟨k.1, fun p e s m args below meth c H locs n0 m0 mc ms Q ls C R S h1 h2 h3 h4 hl ol os RT => lv_istore C.1 C.2.1 hd hl hn (p_stE he) (fun ls' hl' => (k.2 p e s m args below meth c H locs n0 m0 mc ms Q ls' C R S h1 h2 h3 h4 hl' (he ▸ p_okf (p_okh os) ol) (p_okt os) RT))⟩
theorem g_lstore_n {n : Fin 4} {i : Nat} {x : Int} (lv' : List (Nat × p_AV)) (hd : decode M.2.1 pc = .ok (.lstore_n n, 1)) (hi : (n : Nat) = i) (hn : i + 1 < M.2.2.1) (he : (i, p_j x) :: lv.filter (fun q => !(q.1 == i) && (!(q.1 == i + 1) && !(q.1 + 1 == i && p_cat q.2 == 2))) = lv') (k : p_Go K l M (pc + 1) lv' st σ o) : p_Go K l M pc lv (p_j x :: st) σ o :=
  ⟨k.1, fun p e s m args below meth c H locs n0 m0 mc ms Q ls C R S h1 h2 h3 h4 hl ol os RT => lv_lstore_n C.1 C.2.1 hd hi hl hn (p_stE2 he) (fun ls' hl' => (k.2 p e s m args below meth c H locs n0 m0 mc ms Q ls' C R S h1 h2 h3 h4 hl' (he ▸ p_okf (p_okh os) ol) (p_okt os) RT))⟩
theorem g_lstore {i : Nat} {x : Int} (lv' : List (Nat × p_AV)) (hd : decode M.2.1 pc = .ok (.lstore i, 2)) (hn : i + 1 < M.2.2.1) (he : (i, p_j x) :: lv.filter (fun q => !(q.1 == i) && (!(q.1 == i + 1) && !(q.1 + 1 == i && p_cat q.2 == 2))) = lv') (k : p_Go K l M (pc + 2) lv' st σ o) : p_Go K l M pc lv (p_j x :: st) σ o :=
  ⟨k.1, fun p e s m args below meth c H locs n0 m0 mc ms Q ls C R S h1 h2 h3 h4 hl ol os RT => lv_lstore C.1 C.2.1 hd hl hn (p_stE2 he) (fun ls' hl' => (k.2 p e s m args below meth c H locs n0 m0 mc ms Q ls' C R S h1 h2 h3 h4 hl' (he ▸ p_okf (p_okh os) ol) (p_okt os) RT))⟩
theorem g_astore_n {n : Fin 4} {i : Nat} {x : Nat} (lv' : List (Nat × p_AV)) (hd : decode M.2.1 pc = .ok (.astore_n n, 1)) (hi : (n : Nat) = i) (hn : i < M.2.2.1) (he : (i, p_r x) :: lv.filter (fun q => !(q.1 == i) && !(q.1 + 1 == i && p_cat q.2 == 2)) = lv') (k : p_Go K l M (pc + 1) lv' st σ o) : p_Go K l M pc lv (p_r x :: st) σ o := by
  refine ⟨k.1, fun p e s m args below meth c H locs n0 m0 mc ms Q ls C R S h1 h2 h3 h4 hl ol os RT => ?_⟩
  have e9 := p_stE (K := K) he
  have kk : ∀ ls' : Array Slot, lv_has ls' M.2.2.1 (lv'.map (p_q K)) → _ := fun ls' hl' => (k.2 p e s m args below meth c H locs n0 m0 mc ms Q ls' C R S h1 h2 h3 h4 hl' (he ▸ p_okf (p_okh os) ol) (p_okt os) RT)
  have e2 : p_V K (p_r x) = va_rf (p_rO K.1 x) := rfl
  rw [e2] at e9
  show W p l e (p_rm M mc ms) s m args below meth c H locs _ _ Q (F0 m pc ls (va_rf (p_rO K.1 x) :: st.map (p_V K)))
  cases hx : p_rO K.1 x with
  | none => rw [hx] at e9; exact lv_astore_nN C.1 C.2.1 hd hi hl hn e9 kk
  | some b => rw [hx] at e9; exact lv_astore_n C.1 C.2.1 hd hi hl hn e9 kk
theorem g_astore {i : Nat} {x : Nat} (lv' : List (Nat × p_AV)) (hd : decode M.2.1 pc = .ok (.astore i, 2)) (hn : i < M.2.2.1) (he : (i, p_r x) :: lv.filter (fun q => !(q.1 == i) && !(q.1 + 1 == i && p_cat q.2 == 2)) = lv') (k : p_Go K l M (pc + 2) lv' st σ o) : p_Go K l M pc lv (p_r x :: st) σ o := by
  refine ⟨k.1, fun p e s m args below meth c H locs n0 m0 mc ms Q ls C R S h1 h2 h3 h4 hl ol os RT => ?_⟩
  have e9 := p_stE (K := K) he
  have kk : ∀ ls' : Array Slot, lv_has ls' M.2.2.1 (lv'.map (p_q K)) → _ := fun ls' hl' => (k.2 p e s m args below meth c H locs n0 m0 mc ms Q ls' C R S h1 h2 h3 h4 hl' (he ▸ p_okf (p_okh os) ol) (p_okt os) RT)
  have e2 : p_V K (p_r x) = va_rf (p_rO K.1 x) := rfl
  rw [e2] at e9
  show W p l e (p_rm M mc ms) s m args below meth c H locs _ _ Q (F0 m pc ls (va_rf (p_rO K.1 x) :: st.map (p_V K)))
  cases hx : p_rO K.1 x with
  | none => rw [hx] at e9; exact lv_astoreN C.1 C.2.1 hd hl hn e9 kk
  | some b => rw [hx] at e9; exact lv_astore C.1 C.2.1 hd hl hn e9 kk
theorem g_iinc {i j : Nat} {n : Int} {x : Int} (lv' : List (Nat × p_AV)) (hd : decode M.2.1 pc = .ok (.iinc i n, 3)) (hj : lv[j]? = some (i, p_i x)) (hn : i < M.2.2.1) (he : (i, p_i (p_w (x + n))) :: lv.filter (fun q => !(q.1 == i) && !(q.1 + 1 == i && p_cat q.2 == 2)) = lv') (k : p_Go K l M (pc + 3) lv' st σ o) : p_Go K l M pc lv st σ o :=
  ⟨k.1, fun p e s m args below meth c H locs n0 m0 mc ms Q ls C R S h1 h2 h3 h4 hl ol os RT => lv_iinc (v := Int32.ofInt (p_w (x + n))) (k := j) C.1 C.2.1 hd hl (by rw [List.getElem?_map, hj]; rfl) (by rw [p_w_of, Int32.ofInt_add]) hn (p_stE he) (fun ls' hl' => (k.2 p e s m args below meth c H locs n0 m0 mc ms Q ls' C R S h1 h2 h3 h4 hl' (he ▸ p_okf (p_w_c _) ol) os RT))⟩
theorem g_iadd {x y : Int} (hd : decode M.2.1 pc = .ok (.iadd, 1)) (k : p_Go K l M (pc + 1) lv (p_i (p_w (x + y)) :: st) σ o) : p_Go K l M pc lv (p_i y :: p_i x :: st) σ o :=
  ⟨k.1, fun p e s m args below meth c H locs n0 m0 mc ms Q ls C R S h1 h2 h3 h4 hl ol os RT => lv_iadd C.1 C.2.1 hd (W.eq (by have hy : p_c y := p_okh os; have hx : p_c x := p_okh (p_okt os); show F0 m (pc + 1) ls (_ :: st.map (p_V K)) = F0 m (pc + 1) ls (p_V K (p_i (p_w (x + y))) :: st.map (p_V K)); rw [show p_V K (p_i (p_w (x + y))) = _ from congrArg Value.int ((p_w_of _).trans (Int32.ofInt_add x y))]) (k.2 p e s m args below meth c H locs n0 m0 mc ms Q ls C R S h1 h2 h3 h4 hl ol (p_ok2 (p_w_c _) (p_okt (p_okt os))) RT))⟩
theorem g_isub {x y : Int} (hd : decode M.2.1 pc = .ok (.isub, 1)) (k : p_Go K l M (pc + 1) lv (p_i (p_w (x - y)) :: st) σ o) : p_Go K l M pc lv (p_i y :: p_i x :: st) σ o :=
  ⟨k.1, fun p e s m args below meth c H locs n0 m0 mc ms Q ls C R S h1 h2 h3 h4 hl ol os RT => lv_isub C.1 C.2.1 hd (W.eq (by have hy : p_c y := p_okh os; have hx : p_c x := p_okh (p_okt os); show F0 m (pc + 1) ls (_ :: st.map (p_V K)) = F0 m (pc + 1) ls (p_V K (p_i (p_w (x - y))) :: st.map (p_V K)); rw [show p_V K (p_i (p_w (x - y))) = _ from congrArg Value.int ((p_w_of _).trans (Int32.ofInt_sub x y))]) (k.2 p e s m args below meth c H locs n0 m0 mc ms Q ls C R S h1 h2 h3 h4 hl ol (p_ok2 (p_w_c _) (p_okt (p_okt os))) RT))⟩
theorem g_imul {x y : Int} (hd : decode M.2.1 pc = .ok (.imul, 1)) (k : p_Go K l M (pc + 1) lv (p_i (p_w (x * y)) :: st) σ o) : p_Go K l M pc lv (p_i y :: p_i x :: st) σ o :=
  ⟨k.1, fun p e s m args below meth c H locs n0 m0 mc ms Q ls C R S h1 h2 h3 h4 hl ol os RT => lv_imul C.1 C.2.1 hd (W.eq (by have hy : p_c y := p_okh os; have hx : p_c x := p_okh (p_okt os); show F0 m (pc + 1) ls (_ :: st.map (p_V K)) = F0 m (pc + 1) ls (p_V K (p_i (p_w (x * y))) :: st.map (p_V K)); rw [show p_V K (p_i (p_w (x * y))) = _ from congrArg Value.int ((p_w_of _).trans (Int32.ofInt_mul x y))]) (k.2 p e s m args below meth c H locs n0 m0 mc ms Q ls C R S h1 h2 h3 h4 hl ol (p_ok2 (p_w_c _) (p_okt (p_okt os))) RT))⟩
theorem g_ladd {x y : Int} (hd : decode M.2.1 pc = .ok (.ladd, 1)) (k : p_Go K l M (pc + 1) lv (p_j (p_w6 (x + y)) :: st) σ o) : p_Go K l M pc lv (p_j y :: p_j x :: st) σ o :=
  ⟨k.1, fun p e s m args below meth c H locs n0 m0 mc ms Q ls C R S h1 h2 h3 h4 hl ol os RT => lv_ladd C.1 C.2.1 hd (W.eq (by have hy : p_c6 y := p_okh os; have hx : p_c6 x := p_okh (p_okt os); show F0 m (pc + 1) ls (_ :: st.map (p_V K)) = F0 m (pc + 1) ls (p_V K (p_j (p_w6 (x + y))) :: st.map (p_V K)); rw [show p_V K (p_j (p_w6 (x + y))) = _ from congrArg Value.long ((p_w6_of _).trans (Int64.ofInt_add x y))]) (k.2 p e s m args below meth c H locs n0 m0 mc ms Q ls C R S h1 h2 h3 h4 hl ol (p_ok2 (p_w6_c _) (p_okt (p_okt os))) RT))⟩
theorem g_lsub {x y : Int} (hd : decode M.2.1 pc = .ok (.lsub, 1)) (k : p_Go K l M (pc + 1) lv (p_j (p_w6 (x - y)) :: st) σ o) : p_Go K l M pc lv (p_j y :: p_j x :: st) σ o :=
  ⟨k.1, fun p e s m args below meth c H locs n0 m0 mc ms Q ls C R S h1 h2 h3 h4 hl ol os RT => lv_lsub C.1 C.2.1 hd (W.eq (by have hy : p_c6 y := p_okh os; have hx : p_c6 x := p_okh (p_okt os); show F0 m (pc + 1) ls (_ :: st.map (p_V K)) = F0 m (pc + 1) ls (p_V K (p_j (p_w6 (x - y))) :: st.map (p_V K)); rw [show p_V K (p_j (p_w6 (x - y))) = _ from congrArg Value.long ((p_w6_of _).trans (Int64.ofInt_sub x y))]) (k.2 p e s m args below meth c H locs n0 m0 mc ms Q ls C R S h1 h2 h3 h4 hl ol (p_ok2 (p_w6_c _) (p_okt (p_okt os))) RT))⟩
theorem g_lmul {x y : Int} (hd : decode M.2.1 pc = .ok (.lmul, 1)) (k : p_Go K l M (pc + 1) lv (p_j (p_w6 (x * y)) :: st) σ o) : p_Go K l M pc lv (p_j y :: p_j x :: st) σ o :=
  ⟨k.1, fun p e s m args below meth c H locs n0 m0 mc ms Q ls C R S h1 h2 h3 h4 hl ol os RT => lv_lmul C.1 C.2.1 hd (W.eq (by have hy : p_c6 y := p_okh os; have hx : p_c6 x := p_okh (p_okt os); show F0 m (pc + 1) ls (_ :: st.map (p_V K)) = F0 m (pc + 1) ls (p_V K (p_j (p_w6 (x * y))) :: st.map (p_V K)); rw [show p_V K (p_j (p_w6 (x * y))) = _ from congrArg Value.long ((p_w6_of _).trans (Int64.ofInt_mul x y))]) (k.2 p e s m args below meth c H locs n0 m0 mc ms Q ls C R S h1 h2 h3 h4 hl ol (p_ok2 (p_w6_c _) (p_okt (p_okt os))) RT))⟩
theorem g_iand {x y : Int} (hd : decode M.2.1 pc = .ok (.iand, 1)) (k : p_Go K l M (pc + 1) lv (p_i (p_and x y) :: st) σ o) : p_Go K l M pc lv (p_i y :: p_i x :: st) σ o :=
  ⟨k.1, fun p e s m args below meth c H locs n0 m0 mc ms Q ls C R S h1 h2 h3 h4 hl ol os RT => lv_iand C.1 C.2.1 hd (W.eq (by have hy : p_c y := p_okh os; have hx : p_c x := p_okh (p_okt os); show F0 m (pc + 1) ls (_ :: st.map (p_V K)) = F0 m (pc + 1) ls (p_V K (p_i (p_and x y)) :: st.map (p_V K)); rw [show p_V K (p_i (p_and x y)) = _ from congrArg Value.int (Int32.ofInt_toInt _)]) (k.2 p e s m args below meth c H locs n0 m0 mc ms Q ls C R S h1 h2 h3 h4 hl ol (p_ok2 (p_i32 _) (p_okt (p_okt os))) RT))⟩
theorem g_ior {x y : Int} (hd : decode M.2.1 pc = .ok (.ior, 1)) (k : p_Go K l M (pc + 1) lv (p_i (p_or x y) :: st) σ o) : p_Go K l M pc lv (p_i y :: p_i x :: st) σ o :=
  ⟨k.1, fun p e s m args below meth c H locs n0 m0 mc ms Q ls C R S h1 h2 h3 h4 hl ol os RT => lv_ior C.1 C.2.1 hd (W.eq (by have hy : p_c y := p_okh os; have hx : p_c x := p_okh (p_okt os); show F0 m (pc + 1) ls (_ :: st.map (p_V K)) = F0 m (pc + 1) ls (p_V K (p_i (p_or x y)) :: st.map (p_V K)); rw [show p_V K (p_i (p_or x y)) = _ from congrArg Value.int (Int32.ofInt_toInt _)]) (k.2 p e s m args below meth c H locs n0 m0 mc ms Q ls C R S h1 h2 h3 h4 hl ol (p_ok2 (p_i32 _) (p_okt (p_okt os))) RT))⟩
theorem g_ixor {x y : Int} (hd : decode M.2.1 pc = .ok (.ixor, 1)) (k : p_Go K l M (pc + 1) lv (p_i (p_xor x y) :: st) σ o) : p_Go K l M pc lv (p_i y :: p_i x :: st) σ o :=
  ⟨k.1, fun p e s m args below meth c H locs n0 m0 mc ms Q ls C R S h1 h2 h3 h4 hl ol os RT => lv_ixor C.1 C.2.1 hd (W.eq (by have hy : p_c y := p_okh os; have hx : p_c x := p_okh (p_okt os); show F0 m (pc + 1) ls (_ :: st.map (p_V K)) = F0 m (pc + 1) ls (p_V K (p_i (p_xor x y)) :: st.map (p_V K)); rw [show p_V K (p_i (p_xor x y)) = _ from congrArg Value.int (Int32.ofInt_toInt _)]) (k.2 p e s m args below meth c H locs n0 m0 mc ms Q ls C R S h1 h2 h3 h4 hl ol (p_ok2 (p_i32 _) (p_okt (p_okt os))) RT))⟩
theorem g_land {x y : Int} (hd : decode M.2.1 pc = .ok (.land, 1)) (k : p_Go K l M (pc + 1) lv (p_j (p_and6 x y) :: st) σ o) : p_Go K l M pc lv (p_j y :: p_j x :: st) σ o :=
  ⟨k.1, fun p e s m args below meth c H locs n0 m0 mc ms Q ls C R S h1 h2 h3 h4 hl ol os RT => lv_land C.1 C.2.1 hd (W.eq (by have hy : p_c6 y := p_okh os; have hx : p_c6 x := p_okh (p_okt os); show F0 m (pc + 1) ls (_ :: st.map (p_V K)) = F0 m (pc + 1) ls (p_V K (p_j (p_and6 x y)) :: st.map (p_V K)); rw [show p_V K (p_j (p_and6 x y)) = _ from congrArg Value.long (Int64.ofInt_toInt _)]) (k.2 p e s m args below meth c H locs n0 m0 mc ms Q ls C R S h1 h2 h3 h4 hl ol (p_ok2 (p_i64 _) (p_okt (p_okt os))) RT))⟩
theorem g_lor {x y : Int} (hd : decode M.2.1 pc = .ok (.lor, 1)) (k : p_Go K l M (pc + 1) lv (p_j (p_or6 x y) :: st) σ o) : p_Go K l M pc lv (p_j y :: p_j x :: st) σ o :=
  ⟨k.1, fun p e s m args below meth c H locs n0 m0 mc ms Q ls C R S h1 h2 h3 h4 hl ol os RT => lv_lor C.1 C.2.1 hd (W.eq (by have hy : p_c6 y := p_okh os; have hx : p_c6 x := p_okh (p_okt os); show F0 m (pc + 1) ls (_ :: st.map (p_V K)) = F0 m (pc + 1) ls (p_V K (p_j (p_or6 x y)) :: st.map (p_V K)); rw [show p_V K (p_j (p_or6 x y)) = _ from congrArg Value.long (Int64.ofInt_toInt _)]) (k.2 p e s m args below meth c H locs n0 m0 mc ms Q ls C R S h1 h2 h3 h4 hl ol (p_ok2 (p_i64 _) (p_okt (p_okt os))) RT))⟩
theorem g_lxor {x y : Int} (hd : decode M.2.1 pc = .ok (.lxor, 1)) (k : p_Go K l M (pc + 1) lv (p_j (p_xor6 x y) :: st) σ o) : p_Go K l M pc lv (p_j y :: p_j x :: st) σ o :=
  ⟨k.1, fun p e s m args below meth c H locs n0 m0 mc ms Q ls C R S h1 h2 h3 h4 hl ol os RT => lv_lxor C.1 C.2.1 hd (W.eq (by have hy : p_c6 y := p_okh os; have hx : p_c6 x := p_okh (p_okt os); show F0 m (pc + 1) ls (_ :: st.map (p_V K)) = F0 m (pc + 1) ls (p_V K (p_j (p_xor6 x y)) :: st.map (p_V K)); rw [show p_V K (p_j (p_xor6 x y)) = _ from congrArg Value.long (Int64.ofInt_toInt _)]) (k.2 p e s m args below meth c H locs n0 m0 mc ms Q ls C R S h1 h2 h3 h4 hl ol (p_ok2 (p_i64 _) (p_okt (p_okt os))) RT))⟩
theorem g_idiv {x y : Int} (hd : decode M.2.1 pc = .ok (.idiv, 1)) (hz : y ≠ 0) (k : p_Go K l M (pc + 1) lv (p_i (p_div x y) :: st) σ o) : p_Go K l M pc lv (p_i y :: p_i x :: st) σ o :=
  ⟨k.1, fun p e s m args below meth c H locs n0 m0 mc ms Q ls C R S h1 h2 h3 h4 hl ol os RT => lv_idiv C.1 C.2.1 hd (fun h => hz ((p_eq0 (p_okh os)).mp h)) (W.eq (by have hy : p_c y := p_okh os; have hx : p_c x := p_okh (p_okt os); show F0 m (pc + 1) ls (_ :: st.map (p_V K)) = F0 m (pc + 1) ls (p_V K (p_i (p_div x y)) :: st.map (p_V K)); rw [show p_V K (p_i (p_div x y)) = _ from congrArg Value.int (p_tdiv hx hy)]) (k.2 p e s m args below meth c H locs n0 m0 mc ms Q ls C R S h1 h2 h3 h4 hl ol (p_ok2 (p_w_c _) (p_okt (p_okt os))) RT))⟩
theorem g_irem {x y : Int} (hd : decode M.2.1 pc = .ok (.irem, 1)) (hz : y ≠ 0) (k : p_Go K l M (pc + 1) lv (p_i (p_rem x y) :: st) σ o) : p_Go K l M pc lv (p_i y :: p_i x :: st) σ o :=
  ⟨k.1, fun p e s m args below meth c H locs n0 m0 mc ms Q ls C R S h1 h2 h3 h4 hl ol os RT => lv_irem C.1 C.2.1 hd (fun h => hz ((p_eq0 (p_okh os)).mp h)) (W.eq (by have hy : p_c y := p_okh os; have hx : p_c x := p_okh (p_okt os); show F0 m (pc + 1) ls (_ :: st.map (p_V K)) = F0 m (pc + 1) ls (p_V K (p_i (p_rem x y)) :: st.map (p_V K)); rw [show p_V K (p_i (p_rem x y)) = _ from congrArg Value.int (p_trem hx hy)]) (k.2 p e s m args below meth c H locs n0 m0 mc ms Q ls C R S h1 h2 h3 h4 hl ol (p_ok2 (p_w_c _) (p_okt (p_okt os))) RT))⟩
theorem g_iushr {x y : Int} (hd : decode M.2.1 pc = .ok (.iushr, 1)) (k : p_Go K l M (pc + 1) lv (p_i (p_ushr x y) :: st) σ o) : p_Go K l M pc lv (p_i y :: p_i x :: st) σ o :=
  ⟨k.1, fun p e s m args below meth c H locs n0 m0 mc ms Q ls C R S h1 h2 h3 h4 hl ol os RT => lv_iushr (v := Int32.ofInt (p_ushr x y)) C.1 C.2.1 hd (Int32.ofInt_toInt _).symm (k.2 p e s m args below meth c H locs n0 m0 mc ms Q ls C R S h1 h2 h3 h4 hl ol (p_ok2 (p_i32 _) (p_okt (p_okt os))) RT)⟩
theorem g_lshl {x y : Int} (hd : decode M.2.1 pc = .ok (.lshl, 1)) (k : p_Go K l M (pc + 1) lv (p_j (p_shl6 x y) :: st) σ o) : p_Go K l M pc lv (p_i y :: p_j x :: st) σ o :=
  ⟨k.1, fun p e s m args below meth c H locs n0 m0 mc ms Q ls C R S h1 h2 h3 h4 hl ol os RT => lv_lshl (v := Int64.ofInt (p_shl6 x y)) C.1 C.2.1 hd (Int64.ofInt_toInt _).symm (k.2 p e s m args below meth c H locs n0 m0 mc ms Q ls C R S h1 h2 h3 h4 hl ol (p_ok2 (p_i64 _) (p_okt (p_okt os))) RT)⟩
theorem g_lshr {x y : Int} (hd : decode M.2.1 pc = .ok (.lshr, 1)) (k : p_Go K l M (pc + 1) lv (p_j (p_shr6 x y) :: st) σ o) : p_Go K l M pc lv (p_i y :: p_j x :: st) σ o :=
  ⟨k.1, fun p e s m args below meth c H locs n0 m0 mc ms Q ls C R S h1 h2 h3 h4 hl ol os RT => lv_lshr (v := Int64.ofInt (p_shr6 x y)) C.1 C.2.1 hd (Int64.ofInt_toInt _).symm (k.2 p e s m args below meth c H locs n0 m0 mc ms Q ls C R S h1 h2 h3 h4 hl ol (p_ok2 (p_i64 _) (p_okt (p_okt os))) RT)⟩
theorem g_lushr {x y : Int} (hd : decode M.2.1 pc = .ok (.lushr, 1)) (k : p_Go K l M (pc + 1) lv (p_j (p_ushr6 x y) :: st) σ o) : p_Go K l M pc lv (p_i y :: p_j x :: st) σ o :=
  ⟨k.1, fun p e s m args below meth c H locs n0 m0 mc ms Q ls C R S h1 h2 h3 h4 hl ol os RT => lv_lushr (v := Int64.ofInt (p_ushr6 x y)) C.1 C.2.1 hd (Int64.ofInt_toInt _).symm (k.2 p e s m args below meth c H locs n0 m0 mc ms Q ls C R S h1 h2 h3 h4 hl ol (p_ok2 (p_i64 _) (p_okt (p_okt os))) RT)⟩
theorem g_i2l {x : Int} (hd : decode M.2.1 pc = .ok (.i2l, 1)) (k : p_Go K l M (pc + 1) lv (p_j x :: st) σ o) : p_Go K l M pc lv (p_i x :: st) σ o :=
  ⟨k.1, fun p e s m args below meth c H locs n0 m0 mc ms Q ls C R S h1 h2 h3 h4 hl ol os RT => lv_i2l (v := Int64.ofInt x) C.1 C.2.1 hd (p_ti2l (p_okh os)) (k.2 p e s m args below meth c H locs n0 m0 mc ms Q ls C R S h1 h2 h3 h4 hl ol (p_ok2 (v := p_j x) (by have h : p_c x := p_okh os; exact (⟨by omega, by omega⟩ : p_c6 x)) (p_okt os)) RT)⟩
theorem g_l2i {x : Int} (hd : decode M.2.1 pc = .ok (.l2i, 1)) (k : p_Go K l M (pc + 1) lv (p_i (p_w x) :: st) σ o) : p_Go K l M pc lv (p_j x :: st) σ o :=
  ⟨k.1, fun p e s m args below meth c H locs n0 m0 mc ms Q ls C R S h1 h2 h3 h4 hl ol os RT => lv_l2i (v := Int32.ofInt (p_w x)) C.1 C.2.1 hd (p_tl2i (p_okh os)) (k.2 p e s m args below meth c H locs n0 m0 mc ms Q ls C R S h1 h2 h3 h4 hl ol (p_ok2 (p_w_c _) (p_okt os)) RT)⟩
theorem g_lcmp {x y : Int} (hd : decode M.2.1 pc = .ok (.lcmp, 1)) (k : p_Go K l M (pc + 1) lv (p_i (p_cmp x y) :: st) σ o) : p_Go K l M pc lv (p_j y :: p_j x :: st) σ o :=
  ⟨k.1, fun p e s m args below meth c H locs n0 m0 mc ms Q ls C R S h1 h2 h3 h4 hl ol os RT => W.lcmp C.1 C.2.1 hd (W.eq (by have hy : p_c6 y := p_okh os; have hx : p_c6 x := p_okh (p_okt os); show F0 m (pc + 1) ls (_ :: st.map (p_V K)) = F0 m (pc + 1) ls (p_V K (p_i (p_cmp x y)) :: st.map (p_V K)); rw [show p_V K (p_i (p_cmp x y)) = _ from congrArg Value.int (p_tcmp hx hy)]) (k.2 p e s m args below meth c H locs n0 m0 mc ms Q ls C R S h1 h2 h3 h4 hl ol (p_ok2 (p_cmp_c _ _) (p_okt (p_okt os))) RT))⟩
theorem g_dup {v : p_AV} (hd : decode M.2.1 pc = .ok (.dup, 1)) (hc : p_cat v = 1) (k : p_Go K l M (pc + 1) lv (v :: v :: st) σ o) : p_Go K l M pc lv (v :: st) σ o :=
  ⟨k.1, fun p e s m args below meth c H locs n0 m0 mc ms Q ls C R S h1 h2 h3 h4 hl ol os RT => lv_dup C.1 C.2.1 hd ((p_V_cat K v).trans hc) (k.2 p e s m args below meth c H locs n0 m0 mc ms Q ls C R S h1 h2 h3 h4 hl ol (p_ok2 (p_okh os) os) RT)⟩
theorem g_dup2 {v w : p_AV} (hd : decode M.2.1 pc = .ok (.dup2, 1)) (hc : p_cat v = 1) (hc2 : p_cat w = 1) (k : p_Go K l M (pc + 1) lv (v :: w :: v :: w :: st) σ o) : p_Go K l M pc lv (v :: w :: st) σ o :=
  ⟨k.1, fun p e s m args below meth c H locs n0 m0 mc ms Q ls C R S h1 h2 h3 h4 hl ol os RT => lv_dup2_11 C.1 C.2.1 hd ((p_V_cat K v).trans hc) ((p_V_cat K w).trans hc2) (k.2 p e s m args below meth c H locs n0 m0 mc ms Q ls C R S h1 h2 h3 h4 hl ol (p_ok2 (p_okh os) (p_ok2 (p_okh (p_okt os)) os)) RT)⟩
theorem g_dup_x1 {v w : p_AV} (hd : decode M.2.1 pc = .ok (.dup_x1, 1)) (hc : p_cat v = 1) (hc2 : p_cat w = 1) (k : p_Go K l M (pc + 1) lv (v :: w :: v :: st) σ o) : p_Go K l M pc lv (v :: w :: st) σ o :=
  ⟨k.1, fun p e s m args below meth c H locs n0 m0 mc ms Q ls C R S h1 h2 h3 h4 hl ol os RT => lv_dup_x1 C.1 C.2.1 hd ((p_V_cat K v).trans hc) ((p_V_cat K w).trans hc2) (k.2 p e s m args below meth c H locs n0 m0 mc ms Q ls C R S h1 h2 h3 h4 hl ol (p_ok2 (p_okh os) (p_ok2 (p_okh (p_okt os)) (p_ok2 (p_okh os) (p_okt (p_okt os))))) RT)⟩
theorem g_pop {v : p_AV} (hd : decode M.2.1 pc = .ok (.pop, 1)) (hc : p_cat v = 1) (k : p_Go K l M (pc + 1) lv st σ o) : p_Go K l M pc lv (v :: st) σ o :=
  ⟨k.1, fun p e s m args below meth c H locs n0 m0 mc ms Q ls C R S h1 h2 h3 h4 hl ol os RT => lv_pop C.1 C.2.1 hd ((p_V_cat K v).trans hc) (k.2 p e s m args below meth c H locs n0 m0 mc ms Q ls C R S h1 h2 h3 h4 hl ol (p_okt os) RT)⟩
theorem g_goto {off : Int} (tgt : Nat) (hd : decode M.2.1 pc = .ok (.goto off, 3)) (ht : (pc : Int) + off = (tgt : Int)) (k : p_Go K l M tgt lv st σ o) : p_Go K l M pc lv st σ o :=
  ⟨k.1, fun p e s m args below meth c H locs n0 m0 mc ms Q ls C R S h1 h2 h3 h4 hl ol os RT => lv_goto C.1 C.2.1 hd ht (k.2 p e s m args below meth c H locs n0 m0 mc ms Q ls C R S h1 h2 h3 h4 hl ol os RT)⟩
theorem g_sub (lv' : List (Nat × p_AV)) (ks : List Nat) (he : ks.filterMap (fun i => lv[i]?) = lv') (k : p_Go K l M pc lv' st σ o) : p_Go K l M pc lv st σ o := by
  refine ⟨k.1, fun p e s m args below meth c H locs n0 m0 mc ms Q ls C R S h1 h2 h3 h4 hl ol os RT => ?_⟩
  have hm : ∀ q ∈ lv', q ∈ lv := fun q hq => by
    rw [← he] at hq
    obtain ⟨i, -, hi⟩ := List.mem_filterMap.mp hq
    exact List.mem_of_getElem? hi
  exact (k.2 p e s m args below meth c H locs n0 m0 mc ms Q ls C R S h1 h2 h3 h4 ⟨hl.1, hl.2.1, fun q hq => by obtain ⟨q1, h9, e9⟩ := List.mem_map.mp hq; exact hl.2.2 q (List.mem_map.mpr ⟨q1, hm q1 h9, e9⟩)⟩ (fun q hq => ol q (hm q hq)) os RT)
theorem g_icmp_eq {x y : Int} {off : Int} (tgt : Nat) (hd : decode M.2.1 pc = .ok (.if_icmp .eq off, 3)) (ht : (pc : Int) + off = (tgt : Int)) (kt : x = y → p_Go K l M tgt lv st σ o) (kf : ¬ (x = y) → p_Go K l M (pc + 3) lv st σ o) : p_Go K l M pc lv (p_i y :: p_i x :: st) σ o := by
  refine ⟨by by_cases h : x = y; exact (kt h).1; exact (kf h).1, fun p e s m args below meth c H locs n0 m0 mc ms Q ls C R S h1 h2 h3 h4 hl ol os RT => ?_⟩
  have hy : p_c y := p_okh os
  have hx : p_c x := p_okh (p_okt os)
  have kt := fun h => ((kt h).2 p e s m args below meth c H locs n0 m0 mc ms Q ls C R S h1 h2 h3 h4 hl ol (p_okt (p_okt os)) RT)
  have kf := fun h => ((kf h).2 p e s m args below meth c H locs n0 m0 mc ms Q ls C R S h1 h2 h3 h4 hl ol (p_okt (p_okt os)) RT)
  exact lv_icmp_eq C.1 C.2.1 hd ht (fun h => kt ((p_eq hx hy).mp h)) (fun h => kf (fun q => h ((p_eq hx hy).mpr q)))
theorem g_icmp_ne {x y : Int} {off : Int} (tgt : Nat) (hd : decode M.2.1 pc = .ok (.if_icmp .ne off, 3)) (ht : (pc : Int) + off = (tgt : Int)) (kt : x ≠ y → p_Go K l M tgt lv st σ o) (kf : ¬ (x ≠ y) → p_Go K l M (pc + 3) lv st σ o) : p_Go K l M pc lv (p_i y :: p_i x :: st) σ o := by
  refine ⟨by by_cases h : x ≠ y; exact (kt h).1; exact (kf h).1, fun p e s m args below meth c H locs n0 m0 mc ms Q ls C R S h1 h2 h3 h4 hl ol os RT => ?_⟩
  have hy : p_c y := p_okh os
  have hx : p_c x := p_okh (p_okt os)
  have kt := fun h => ((kt h).2 p e s m args below meth c H locs n0 m0 mc ms Q ls C R S h1 h2 h3 h4 hl ol (p_okt (p_okt os)) RT)
  have kf := fun h => ((kf h).2 p e s m args below meth c H locs n0 m0 mc ms Q ls C R S h1 h2 h3 h4 hl ol (p_okt (p_okt os)) RT)
  exact lv_icmp_ne C.1 C.2.1 hd ht (fun h => kt (fun q => h ((p_eq hx hy).mpr q))) (fun h => kf (fun q => q ((p_eq hx hy).mp h)))
theorem g_icmp_lt {x y : Int} {off : Int} (tgt : Nat) (hd : decode M.2.1 pc = .ok (.if_icmp .lt off, 3)) (ht : (pc : Int) + off = (tgt : Int)) (kt : x < y → p_Go K l M tgt lv st σ o) (kf : ¬ (x < y) → p_Go K l M (pc + 3) lv st σ o) : p_Go K l M pc lv (p_i y :: p_i x :: st) σ o := by
  refine ⟨by by_cases h : x < y; exact (kt h).1; exact (kf h).1, fun p e s m args below meth c H locs n0 m0 mc ms Q ls C R S h1 h2 h3 h4 hl ol os RT => ?_⟩
  have hy : p_c y := p_okh os
  have hx : p_c x := p_okh (p_okt os)
  have kt := fun h => ((kt h).2 p e s m args below meth c H locs n0 m0 mc ms Q ls C R S h1 h2 h3 h4 hl ol (p_okt (p_okt os)) RT)
  have kf := fun h => ((kf h).2 p e s m args below meth c H locs n0 m0 mc ms Q ls C R S h1 h2 h3 h4 hl ol (p_okt (p_okt os)) RT)
  exact lv_icmp_lt C.1 C.2.1 hd ht (fun h => kt ((p_lt hx hy).mp h)) (fun h => kf (fun q => h ((p_lt hx hy).mpr q)))
theorem g_icmp_ge {x y : Int} {off : Int} (tgt : Nat) (hd : decode M.2.1 pc = .ok (.if_icmp .ge off, 3)) (ht : (pc : Int) + off = (tgt : Int)) (kt : y ≤ x → p_Go K l M tgt lv st σ o) (kf : ¬ (y ≤ x) → p_Go K l M (pc + 3) lv st σ o) : p_Go K l M pc lv (p_i y :: p_i x :: st) σ o := by
  refine ⟨by by_cases h : y ≤ x; exact (kt h).1; exact (kf h).1, fun p e s m args below meth c H locs n0 m0 mc ms Q ls C R S h1 h2 h3 h4 hl ol os RT => ?_⟩
  have hy : p_c y := p_okh os
  have hx : p_c x := p_okh (p_okt os)
  have kt := fun h => ((kt h).2 p e s m args below meth c H locs n0 m0 mc ms Q ls C R S h1 h2 h3 h4 hl ol (p_okt (p_okt os)) RT)
  have kf := fun h => ((kf h).2 p e s m args below meth c H locs n0 m0 mc ms Q ls C R S h1 h2 h3 h4 hl ol (p_okt (p_okt os)) RT)
  exact lv_icmp_ge C.1 C.2.1 hd ht (fun h => kt ((p_le hy hx).mp h)) (fun h => kf (fun q => h ((p_le hy hx).mpr q)))
theorem g_icmp_gt {x y : Int} {off : Int} (tgt : Nat) (hd : decode M.2.1 pc = .ok (.if_icmp .gt off, 3)) (ht : (pc : Int) + off = (tgt : Int)) (kt : y < x → p_Go K l M tgt lv st σ o) (kf : ¬ (y < x) → p_Go K l M (pc + 3) lv st σ o) : p_Go K l M pc lv (p_i y :: p_i x :: st) σ o := by
  refine ⟨by by_cases h : y < x; exact (kt h).1; exact (kf h).1, fun p e s m args below meth c H locs n0 m0 mc ms Q ls C R S h1 h2 h3 h4 hl ol os RT => ?_⟩
  have hy : p_c y := p_okh os
  have hx : p_c x := p_okh (p_okt os)
  have kt := fun h => ((kt h).2 p e s m args below meth c H locs n0 m0 mc ms Q ls C R S h1 h2 h3 h4 hl ol (p_okt (p_okt os)) RT)
  have kf := fun h => ((kf h).2 p e s m args below meth c H locs n0 m0 mc ms Q ls C R S h1 h2 h3 h4 hl ol (p_okt (p_okt os)) RT)
  exact lv_icmp_gt C.1 C.2.1 hd ht (fun h => kt ((p_lt hy hx).mp h)) (fun h => kf (fun q => h ((p_lt hy hx).mpr q)))
theorem g_icmp_le {x y : Int} {off : Int} (tgt : Nat) (hd : decode M.2.1 pc = .ok (.if_icmp .le off, 3)) (ht : (pc : Int) + off = (tgt : Int)) (kt : x ≤ y → p_Go K l M tgt lv st σ o) (kf : ¬ (x ≤ y) → p_Go K l M (pc + 3) lv st σ o) : p_Go K l M pc lv (p_i y :: p_i x :: st) σ o := by
  refine ⟨by by_cases h : x ≤ y; exact (kt h).1; exact (kf h).1, fun p e s m args below meth c H locs n0 m0 mc ms Q ls C R S h1 h2 h3 h4 hl ol os RT => ?_⟩
  have hy : p_c y := p_okh os
  have hx : p_c x := p_okh (p_okt os)
  have kt := fun h => ((kt h).2 p e s m args below meth c H locs n0 m0 mc ms Q ls C R S h1 h2 h3 h4 hl ol (p_okt (p_okt os)) RT)
  have kf := fun h => ((kf h).2 p e s m args below meth c H locs n0 m0 mc ms Q ls C R S h1 h2 h3 h4 hl ol (p_okt (p_okt os)) RT)
  exact lv_icmp_le C.1 C.2.1 hd ht (fun h => kt ((p_le hx hy).mp h)) (fun h => kf (fun q => h ((p_le hx hy).mpr q)))
theorem g_if_eq {x : Int} {off : Int} (tgt : Nat) (hd : decode M.2.1 pc = .ok (.ifCond .eq off, 3)) (ht : (pc : Int) + off = (tgt : Int)) (kt : x = 0 → p_Go K l M tgt lv st σ o) (kf : ¬ (x = 0) → p_Go K l M (pc + 3) lv st σ o) : p_Go K l M pc lv (p_i x :: st) σ o := by
  refine ⟨by by_cases h : x = 0; exact (kt h).1; exact (kf h).1, fun p e s m args below meth c H locs n0 m0 mc ms Q ls C R S h1 h2 h3 h4 hl ol os RT => ?_⟩
  have hx : p_c x := p_okh os
  have h0 : p_c 0 := by decide
  have kt := fun h => ((kt h).2 p e s m args below meth c H locs n0 m0 mc ms Q ls C R S h1 h2 h3 h4 hl ol (p_okt os) RT)
  have kf := fun h => ((kf h).2 p e s m args below meth c H locs n0 m0 mc ms Q ls C R S h1 h2 h3 h4 hl ol (p_okt os) RT)
  exact lv_if_eq C.1 C.2.1 hd ht (fun h => kt ((p_eq0 hx).mp h)) (fun h => kf (fun q => h ((p_eq0 hx).mpr q)))
theorem g_if_ne {x : Int} {off : Int} (tgt : Nat) (hd : decode M.2.1 pc = .ok (.ifCond .ne off, 3)) (ht : (pc : Int) + off = (tgt : Int)) (kt : x ≠ 0 → p_Go K l M tgt lv st σ o) (kf : ¬ (x ≠ 0) → p_Go K l M (pc + 3) lv st σ o) : p_Go K l M pc lv (p_i x :: st) σ o := by
  refine ⟨by by_cases h : x ≠ 0; exact (kt h).1; exact (kf h).1, fun p e s m args below meth c H locs n0 m0 mc ms Q ls C R S h1 h2 h3 h4 hl ol os RT => ?_⟩
  have hx : p_c x := p_okh os
  have h0 : p_c 0 := by decide
  have kt := fun h => ((kt h).2 p e s m args below meth c H locs n0 m0 mc ms Q ls C R S h1 h2 h3 h4 hl ol (p_okt os) RT)
  have kf := fun h => ((kf h).2 p e s m args below meth c H locs n0 m0 mc ms Q ls C R S h1 h2 h3 h4 hl ol (p_okt os) RT)
  exact lv_if_ne C.1 C.2.1 hd ht (fun h => kt (fun q => h ((p_eq0 hx).mpr q))) (fun h => kf (fun q => q ((p_eq0 hx).mp h)))
theorem g_if_lt {x : Int} {off : Int} (tgt : Nat) (hd : decode M.2.1 pc = .ok (.ifCond .lt off, 3)) (ht : (pc : Int) + off = (tgt : Int)) (kt : x < 0 → p_Go K l M tgt lv st σ o) (kf : ¬ (x < 0) → p_Go K l M (pc + 3) lv st σ o) : p_Go K l M pc lv (p_i x :: st) σ o := by
  refine ⟨by by_cases h : x < 0; exact (kt h).1; exact (kf h).1, fun p e s m args below meth c H locs n0 m0 mc ms Q ls C R S h1 h2 h3 h4 hl ol os RT => ?_⟩
  have hx : p_c x := p_okh os
  have h0 : p_c 0 := by decide
  have kt := fun h => ((kt h).2 p e s m args below meth c H locs n0 m0 mc ms Q ls C R S h1 h2 h3 h4 hl ol (p_okt os) RT)
  have kf := fun h => ((kf h).2 p e s m args below meth c H locs n0 m0 mc ms Q ls C R S h1 h2 h3 h4 hl ol (p_okt os) RT)
  exact lv_if_lt C.1 C.2.1 hd ht (fun h => kt ((p_lt hx h0).mp h)) (fun h => kf (fun q => h ((p_lt hx h0).mpr q)))
theorem g_if_ge {x : Int} {off : Int} (tgt : Nat) (hd : decode M.2.1 pc = .ok (.ifCond .ge off, 3)) (ht : (pc : Int) + off = (tgt : Int)) (kt : 0 ≤ x → p_Go K l M tgt lv st σ o) (kf : ¬ (0 ≤ x) → p_Go K l M (pc + 3) lv st σ o) : p_Go K l M pc lv (p_i x :: st) σ o := by
  refine ⟨by by_cases h : 0 ≤ x; exact (kt h).1; exact (kf h).1, fun p e s m args below meth c H locs n0 m0 mc ms Q ls C R S h1 h2 h3 h4 hl ol os RT => ?_⟩
  have hx : p_c x := p_okh os
  have h0 : p_c 0 := by decide
  have kt := fun h => ((kt h).2 p e s m args below meth c H locs n0 m0 mc ms Q ls C R S h1 h2 h3 h4 hl ol (p_okt os) RT)
  have kf := fun h => ((kf h).2 p e s m args below meth c H locs n0 m0 mc ms Q ls C R S h1 h2 h3 h4 hl ol (p_okt os) RT)
  exact lv_if_ge C.1 C.2.1 hd ht (fun h => kt ((p_le h0 hx).mp h)) (fun h => kf (fun q => h ((p_le h0 hx).mpr q)))
theorem g_if_gt {x : Int} {off : Int} (tgt : Nat) (hd : decode M.2.1 pc = .ok (.ifCond .gt off, 3)) (ht : (pc : Int) + off = (tgt : Int)) (kt : 0 < x → p_Go K l M tgt lv st σ o) (kf : ¬ (0 < x) → p_Go K l M (pc + 3) lv st σ o) : p_Go K l M pc lv (p_i x :: st) σ o := by
  refine ⟨by by_cases h : 0 < x; exact (kt h).1; exact (kf h).1, fun p e s m args below meth c H locs n0 m0 mc ms Q ls C R S h1 h2 h3 h4 hl ol os RT => ?_⟩
  have hx : p_c x := p_okh os
  have h0 : p_c 0 := by decide
  have kt := fun h => ((kt h).2 p e s m args below meth c H locs n0 m0 mc ms Q ls C R S h1 h2 h3 h4 hl ol (p_okt os) RT)
  have kf := fun h => ((kf h).2 p e s m args below meth c H locs n0 m0 mc ms Q ls C R S h1 h2 h3 h4 hl ol (p_okt os) RT)
  exact lv_if_gt C.1 C.2.1 hd ht (fun h => kt ((p_lt h0 hx).mp h)) (fun h => kf (fun q => h ((p_lt h0 hx).mpr q)))
theorem g_if_le {x : Int} {off : Int} (tgt : Nat) (hd : decode M.2.1 pc = .ok (.ifCond .le off, 3)) (ht : (pc : Int) + off = (tgt : Int)) (kt : x ≤ 0 → p_Go K l M tgt lv st σ o) (kf : ¬ (x ≤ 0) → p_Go K l M (pc + 3) lv st σ o) : p_Go K l M pc lv (p_i x :: st) σ o := by
  refine ⟨by by_cases h : x ≤ 0; exact (kt h).1; exact (kf h).1, fun p e s m args below meth c H locs n0 m0 mc ms Q ls C R S h1 h2 h3 h4 hl ol os RT => ?_⟩
  have hx : p_c x := p_okh os
  have h0 : p_c 0 := by decide
  have kt := fun h => ((kt h).2 p e s m args below meth c H locs n0 m0 mc ms Q ls C R S h1 h2 h3 h4 hl ol (p_okt os) RT)
  have kf := fun h => ((kf h).2 p e s m args below meth c H locs n0 m0 mc ms Q ls C R S h1 h2 h3 h4 hl ol (p_okt os) RT)
  exact lv_if_le C.1 C.2.1 hd ht (fun h => kt ((p_le hx h0).mp h)) (fun h => kf (fun q => h ((p_le hx h0).mpr q)))
theorem g_ifnull {x : Nat} {off : Int} (tgt : Nat) (hd : decode M.2.1 pc = .ok (.ifnull off, 3)) (ht : (pc : Int) + off = (tgt : Int)) (kt : x = 0 → p_Go K l M tgt lv st σ o) (kf : ¬ (x = 0) → p_Go K l M (pc + 3) lv st σ o) : p_Go K l M pc lv (p_r x :: st) σ o := by
  refine ⟨by by_cases h : x = 0; exact (kt h).1; exact (kf h).1, fun p e s m args below meth c H locs n0 m0 mc ms Q ls C R S h1 h2 h3 h4 hl ol os RT => ?_⟩
  by_cases h : x = 0
  · subst h
    exact lv_ifnullN C.1 C.2.1 hd ht ((kt rfl).2 p e s m args below meth c H locs n0 m0 mc ms Q ls C R S h1 h2 h3 h4 hl ol (p_okt os) RT)
  · show W p l e (p_rm M mc ms) s m args below meth c H locs _ _ Q (F0 m pc ls (p_V K (p_r x) :: st.map (p_V K)))
    rw [p_V_r (by omega)]
    exact lv_ifnull C.1 C.2.1 hd ((kf h).2 p e s m args below meth c H locs n0 m0 mc ms Q ls C R S h1 h2 h3 h4 hl ol (p_okt os) RT)
theorem g_ifnonnull {x : Nat} {off : Int} (tgt : Nat) (hd : decode M.2.1 pc = .ok (.ifnonnull off, 3)) (ht : (pc : Int) + off = (tgt : Int)) (kt : x ≠ 0 → p_Go K l M tgt lv st σ o) (kf : ¬ (x ≠ 0) → p_Go K l M (pc + 3) lv st σ o) : p_Go K l M pc lv (p_r x :: st) σ o := by
  refine ⟨by by_cases h : x ≠ 0; exact (kt h).1; exact (kf h).1, fun p e s m args below meth c H locs n0 m0 mc ms Q ls C R S h1 h2 h3 h4 hl ol os RT => ?_⟩
  by_cases h : x = 0
  · subst h
    exact lv_ifnonnullN C.1 C.2.1 hd ((kf (fun q => q rfl)).2 p e s m args below meth c H locs n0 m0 mc ms Q ls C R S h1 h2 h3 h4 hl ol (p_okt os) RT)
  · show W p l e (p_rm M mc ms) s m args below meth c H locs _ _ Q (F0 m pc ls (p_V K (p_r x) :: st.map (p_V K)))
    rw [p_V_r (by omega)]
    exact lv_ifnonnull C.1 C.2.1 hd ht ((kt h).2 p e s m args below meth c H locs n0 m0 mc ms Q ls C R S h1 h2 h3 h4 hl ol (p_okt os) RT)
theorem g_tableOut {dflt lo hi : Int} {offs : Array Int} {len : Nat} {x : Int} (tgt : Nat) (hd : decode M.2.1 pc = .ok (.tableswitch dflt lo hi offs, len)) (h : x < lo ∨ hi < x) (ht : (pc : Int) + dflt = (tgt : Int)) (k : p_Go K l M tgt lv st σ o) : p_Go K l M pc lv (p_i x :: st) σ o :=
  ⟨k.1, fun p e s m args below meth c H locs n0 m0 mc ms Q ls C R S h1 h2 h3 h4 hl ol os RT => lv_tableOut C.1 C.2.1 hd (by rw [p_t (p_okh os)]; exact h) ht (k.2 p e s m args below meth c H locs n0 m0 mc ms Q ls C R S h1 h2 h3 h4 hl ol (p_okt os) RT)⟩
theorem g_tableIn {dflt lo hi off : Int} {offs : Array Int} {len : Nat} {x : Int} (tgt : Nat) (hd : decode M.2.1 pc = .ok (.tableswitch dflt lo hi offs, len)) (h1 : lo ≤ x) (h2 : x ≤ hi) (ho : offs[(x - lo).toNat]? = some off) (ht : (pc : Int) + off = (tgt : Int)) (k : p_Go K l M tgt lv st σ o) : p_Go K l M pc lv (p_i x :: st) σ o :=
  ⟨k.1, fun p e s m args below meth c H locs n0 m0 mc ms Q ls C R S g1 g2 g3 g4 hl ol os RT => lv_tableIn C.1 C.2.1 hd (by rw [p_t (p_okh os)]; omega) (by rw [p_t (p_okh os)]; omega) (by rw [p_t (p_okh os)]; exact ho) ht (k.2 p e s m args below meth c H locs n0 m0 mc ms Q ls C R S g1 g2 g3 g4 hl ol (p_okt os) RT)⟩
theorem g_lookup {dflt off : Int} {ps : Array (Int × Int)} {len : Nat} {x : Int} (tgt : Nat) (hd : decode M.2.1 pc = .ok (.lookupswitch dflt ps, len)) (hp : (ps.toList.zip (ps.toList.drop 1)).all (fun (a, next) => a.1 < next.1) = true) (ho : Op.lookupswitch.offset ps.toList dflt x = off) (ht : (pc : Int) + off = (tgt : Int)) (k : p_Go K l M tgt lv st σ o) : p_Go K l M pc lv (p_i x :: st) σ o :=
  ⟨k.1, fun p e s m args below meth c H locs n0 m0 mc ms Q ls C R S h1 h2 h3 h4 hl ol os RT => lv_lookup C.1 C.2.1 hd hp (by rw [p_t (p_okh os)]; exact ho) ht (k.2 p e s m args below meth c H locs n0 m0 mc ms Q ls C R S h1 h2 h3 h4 hl ol (p_okt os) RT)⟩
theorem g_ret (hr : o.2 = σ) (hv : o.1.toList = st) (hd : decode M.2.1 pc = .ok (p_ri M.2.2.2.1, 1)) (hk : (∀ v ∈ st, p_ok v) → p_rk M.2.2.2.1 o.1) : p_Go K l M pc lv st σ o := by
  subst hr
  subst hv
  refine ⟨p_x.rf _, fun p e s m args below meth c H locs n0 m0 mc ms Q ls C R S h1 h2 h3 h4 hl ol os RT => ?_⟩
  refine W.widen (k := mc) (n := ms) (by omega) (by omega) ?_
  exact RT H locs pc ls R S (hk os) hd
end PR
end
section
/-! ===== how the heap moves ===== -/
theorem p_sl_eq {K : p_K} {σ σ' : p_Hp} {b j : Nat} (hz : p_Z σ' b j = p_Z σ b j) (hr : p_R σ' b j = p_R σ b j) (ty : FieldType) : p_sl K σ' b ty j = p_sl K σ b ty j := by
  cases ty <;> simp only [p_sl, hz, hr]
theorem p_cl_lt {ci : Nat} {q : vw_C} (h : sw_cl[ci]? = some q) : ci < 100 := Nat.lt_of_lt_of_le (List.getElem?_eq_some_iff.mp h).1 (by decide)
theorem p_P.putO {K : p_K} {σ σ' : p_Hp} {H H1 : Heap} {a ci k : Nat} {q : vw_C} {cell : Cell} (hP : p_P K σ H) (hi : p_is σ a ci) (hc : sw_cl[ci]? = some q) (hap : ∀ x y, x < q.2.2 → y < q.2.2 → x ≠ y → K.2.2.1 ci x ≠ K.2.2.1 ci y) (hk : k < q.2.2)
    (hn : p_N σ' = p_N σ) (ht : p_T σ' = p_T σ) (hl : p_L σ' = p_L σ) (ho : ∀ b j, ¬ (b = a ∧ j = k) → p_Z σ' b j = p_Z σ b j ∧ p_R σ' b j = p_R σ b j) (hok : p_okT (sw_ty ci k) (p_Z σ' a k))
    (q2 : cell.cls = K.2.1 ci) (q3 : cell.vm = .none) (q4 : ∀ j, j < q.2.2 → cell.slots[K.2.2.1 ci j]? = some (p_sl K σ a (sw_ty ci j) j))
    (e1 : H1[K.1 + a]? = some (cell.setSlot (K.2.2.1 ci k) (p_sl K σ' a (sw_ty ci k) k))) (z : H1.size = H.size) (oq : ∀ x : Nat, x ≠ K.1 + a → H1[x]? = H[x]?) : p_P K σ' H1 := by
  have up : ∀ b t, p_is σ' b t → p_is σ b t := fun b t h => by unfold p_is at h ⊢; rw [hn, ht] at h; exact h
  refine ⟨by rw [z, hn]; exact hP.1, fun b cj r hb hr => ?_, fun b i ty hb hty => ?_⟩
  · have hb := up b cj hb
    by_cases hba : b = a
    · subst hba
      have e : cj = ci := hb.2.2.symm.trans hi.2.2
      subst e
      cases hc.symm.trans hr
      refine ⟨⟨_, e1, q2, q3, fun j hj => ?_⟩, fun j hj => ?_⟩
      · have h := t_set q4 hap hk (p_sl K σ' b (sw_ty cj k) k) j hj
        rw [h]
        by_cases hjk : j = k
        · subst hjk
          simp [updV]
        · simp only [updV, if_neg hjk]
          rw [p_sl_eq (ho b j (fun w => hjk w.2)).1 (ho b j (fun w => hjk w.2)).2]
      · by_cases hjk : j = k
        · subst hjk
          exact hok
        · rw [(ho b j (fun w => hjk w.2)).1]
          exact (hP.2.1 b cj q hb hc).2 j hj
    · obtain ⟨g1, g2⟩ := hP.2.1 b cj r hb hr
      refine ⟨(g1.kept (oq _ (by omega))).to (fun j hj => (p_sl_eq (ho b j (fun w => hba w.1)).1 (ho b j (fun w => hba w.1)).2 _).symm), fun j hj => ?_⟩
      rw [(ho b j (fun w => hba w.1)).1]
      exact g2 j hj
  · have hb := up b _ hb
    have hba : b ≠ a := fun w => by
      subst w
      have e : 100 + i = ci := hb.2.2.symm.trans hi.2.2
      have := p_cl_lt hc
      omega
    obtain ⟨g1, g2, g3⟩ := hP.2.2 b i ty hb hty
    rw [hl]
    refine ⟨?_, fun j hj => ?_, g3⟩
    · rw [oq _ (by omega), g1]
      congr 2
      funext j
      exact (p_sl_eq (ho b j (fun w => hba w.1)).1 (ho b j (fun w => hba w.1)).2 _).symm
    · rw [(ho b j (fun w => hba w.1)).1]
      exact g2 j hj
theorem p_P.putA {K : p_K} {σ σ' : p_Hp} {H H1 : Heap} {a i k : Nat} {ty : FieldType} (hP : p_P K σ H) (hi : p_is σ a (100 + i)) (hc : sw_at[i]? = some ty)
    (hn : p_N σ' = p_N σ) (ht : p_T σ' = p_T σ) (hl : p_L σ' = p_L σ) (ho : ∀ b j, ¬ (b = a ∧ j = k) → p_Z σ' b j = p_Z σ b j ∧ p_R σ' b j = p_R σ b j) (hok : p_okT ty (p_Z σ' a k))
    (e1 : H1[K.1 + a]? = some ((arrV (K.2.2.2.1 i) (p_L σ a) (fun j => p_sl K σ a ty j)).setSlot k (p_sl K σ' a ty k))) (z : H1.size = H.size) (oq : ∀ x : Nat, x ≠ K.1 + a → H1[x]? = H[x]?) : p_P K σ' H1 := by
  have up : ∀ b t, p_is σ' b t → p_is σ b t := fun b t h => by unfold p_is at h ⊢; rw [hn, ht] at h; exact h
  refine ⟨by rw [z, hn]; exact hP.1, fun b cj r hb hr => ?_, fun b i' ty' hb hty => ?_⟩
  · have hb := up b cj hb
    have hba : b ≠ a := fun w => by
      subst w
      have e : 100 + i = cj := hi.2.2.symm.trans hb.2.2
      have := p_cl_lt hr
      omega
    obtain ⟨g1, g2⟩ := hP.2.1 b cj r hb hr
    refine ⟨(g1.kept (oq _ (by omega))).to (fun j hj => (p_sl_eq (ho b j (fun w => hba w.1)).1 (ho b j (fun w => hba w.1)).2 _).symm), fun j hj => ?_⟩
    rw [(ho b j (fun w => hba w.1)).1]
    exact g2 j hj
  · have hb := up b _ hb
    obtain ⟨g1, g2, g3⟩ := hP.2.2 b i' ty' hb hty
    rw [hl]
    by_cases hba : b = a
    · subst hba
      have e : i' = i := by have := hb.2.2.symm.trans hi.2.2; omega
      subst e
      cases hc.symm.trans hty
      refine ⟨?_, fun j hj => ?_, g3⟩
      · rw [e1, arrV_store]
        congr 2
        funext j
        by_cases hjk : j = k
        · subst hjk
          simp [updV]
        · simp only [updV, if_neg hjk]
          exact (p_sl_eq (ho b j (fun w => hjk w.2)).1 (ho b j (fun w => hjk w.2)).2 _).symm
      · by_cases hjk : j = k
        · subst hjk
          exact hok
        · rw [(ho b j (fun w => hjk w.2)).1]
          exact g2 j hj
    · refine ⟨?_, fun j hj => ?_, g3⟩
      · rw [oq _ (by omega), g1]
        congr 2
        funext j
        exact (p_sl_eq (ho b j (fun w => hba w.1)).1 (ho b j (fun w => hba w.1)).2 _).symm
      · rw [(ho b j (fun w => hba w.1)).1]
        exact g2 j hj
theorem p_wZ_o {σ : p_Hp} {a k : Nat} {x : Int} : ∀ b j, ¬ (b = a ∧ j = k) → p_Z (p_wZ σ a k x) b j = p_Z σ b j ∧ p_R (p_wZ σ a k x) b j = p_R σ b j := fun b j h => ⟨if_neg h, rfl⟩
theorem p_wR_o {σ : p_Hp} {a k : Nat} {x : Nat} : ∀ b j, ¬ (b = a ∧ j = k) → p_Z (p_wR σ a k x) b j = p_Z σ b j ∧ p_R (p_wR σ a k x) b j = p_R σ b j := fun b j h => ⟨rfl, if_neg h⟩
theorem p_wZ_s (σ : p_Hp) (a k : Nat) (x : Int) : p_Z (p_wZ σ a k x) a k = x := if_pos ⟨rfl, rfl⟩
theorem p_wR_s (σ : p_Hp) (a k : Nat) (x : Nat) : p_R (p_wR σ a k x) a k = x := if_pos ⟨rfl, rfl⟩
theorem p_S.put {K : p_K} {H0 H H1 : Heap} {locs : List Loc} {a k : Nat} (h : va_S (p_A K) H0 H locs) (z : H1.size = H.size) (oq : ∀ q : Nat, q ≠ K.1 + a → H1[q]? = H[q]?) (ha : 1 ≤ a) : va_S (p_A K) H0 H1 (locs ++ [⟨K.1 + a, k⟩]) := va_S.put h z oq (show K.1 < K.1 + a by omega)
/-! ===== what the tables say of a class, of a field's entry ===== -/
def p_nf (ty : FieldType) : Bool := match ty with
  | .float => false
  | .double => false
  | _ => true
def p_Cl (ci : Nat) (q : vw_C) : Prop := sw_cl[ci]? = some q ∧ (∀ w ∈ u_ws q.1 q.2.1 q.2.2, w ∈ sw_gw) ∧ (∀ k, k < q.2.2 → parseFieldDescriptor (q.2.1 k).2.2.1 = some (sw_ty ci k)) ∧ (∀ a, a < q.2.2 → ∀ b, b < q.2.2 → a ≠ b → (q.2.1 a).2.1 ≠ (q.2.1 b).2.1) ∧ Cond.instantiable q.1 q.2.2 ∈ sw_gw ∧ Cond.initialized q.1 ∈ sw_gw ∧ (∀ k, k < q.2.2 → p_nf (sw_ty ci k) = true)
def p_Fl (own : String) (idx ci k : Nat) (ty : FieldType) (fin : Bool) : Prop := ∃ q : vw_C, p_Cl ci q ∧ k < q.2.2 ∧ Cond.fieldLink own idx (q.2.1 k).1 (q.2.1 k).2.1 (q.2.1 k).2.2.1 ∈ sw_gw ∧ sw_ty ci k = ty ∧ (q.2.1 k).2.2.2 = fin ∧ (q.2.1 k).1 = q.1
theorem p_hts {args : Array Value} {s : State} (h : ∀ w ∈ sw_gw, w.before args s = true) : ∀ w ∈ sw_gw, w.before args s = true := h
section HR
variable {K : p_K} {l : Launch} {M : p_Me} {pc : Nat} {lv : List (Nat × p_AV)} {st : List p_AV} {σ : p_Hp} {o : Option p_AV × p_Hp}
theorem p_get {a ci k idx : Nat} {ty : FieldType} {fin : Bool} {v : p_AV} (hf : p_Fl M.1.cls idx ci k ty fin) (hd : decode M.2.1 pc = .ok (.getfield idx, 3)) (hi : p_is σ a ci) (hv : p_V K v = p_sl K σ a ty k) (hok : p_okT ty (p_Z σ a k) → p_ok v) (k9 : p_Go K l M (pc + 3) lv (v :: st) σ o) : p_Go K l M pc lv (p_r a :: st) σ o := by
  refine ⟨k9.1, fun p e s m args below meth c H locs n0 m0 mc ms Q ls C R S h1 h2 h3 h4 hl ol os RT => ?_⟩
  obtain ⟨q, ⟨c1, c2, c3, c4, -, -⟩, f1, f2, f3, -, -⟩ := hf
  obtain ⟨⟨cell, q1, q2, q3, q4⟩, q5⟩ := R.2.1 a ci q hi c1
  obtain ⟨hS, hfc, kC, hkC, hkind⟩ := C.2.2.2.2.2.2.2.2.1 ci q c1
  obtain ⟨cf, kf, fi, f, hfi, hsl⟩ := hS k f1
  have hts := p_hts C.2.2.2.2.2.1
  show W p l e (p_rm M mc ms) s m args below meth c H locs _ _ Q (F0 m pc ls (p_V K (p_r a) :: st.map (p_V K)))
  rw [p_V_r hi.1]
  refine W.getf C.1 C.2.1 C.2.2.2.2.1 (hts _ f2) hfi (u_facts hfc hkC (u_lays hts c2 f1) hfi).1 q1 (by rw [q3]; exact fun h => by cases h) (v := p_V K v) ?_ rfl rfl hd (k9.2 p e s m args below meth c H locs n0 m0 mc ms Q ls C R S h1 h2 h3 h4 hl ol (p_ok2 (hok (f3 ▸ q5 k f1)) (p_okt os)) RT)
  rw [hsl, q4 k f1, hv, ← f3]
theorem g_getI {a ci k idx : Nat} {ty : FieldType} {fin : Bool} (hf : p_Fl M.1.cls idx ci k ty fin) (ht : ty = .int ∨ ty = .boolean) (hd : decode M.2.1 pc = .ok (.getfield idx, 3)) (hi : p_is σ a ci) (k9 : p_Go K l M (pc + 3) lv (p_i (p_Z σ a k) :: st) σ o) : p_Go K l M pc lv (p_r a :: st) σ o := by
  refine p_get hf hd hi (v := p_i (p_Z σ a k)) ?_ (fun h => ?_) k9
  · rcases ht with rfl | rfl <;> rfl
  · rcases ht with rfl | rfl
    · exact h
    · show p_c (p_Z σ a k)
      rcases (h : p_Z σ a k = 0 ∨ p_Z σ a k = 1) with w | w <;> rw [w] <;> decide
theorem g_getJ {a ci k idx : Nat} {fin : Bool} (hf : p_Fl M.1.cls idx ci k .long fin) (hd : decode M.2.1 pc = .ok (.getfield idx, 3)) (hi : p_is σ a ci) (k9 : p_Go K l M (pc + 3) lv (p_j (p_Z σ a k) :: st) σ o) : p_Go K l M pc lv (p_r a :: st) σ o :=
  p_get hf hd hi (v := p_j (p_Z σ a k)) rfl (fun h => h) k9
theorem g_getR {a ci k idx : Nat} {ty : FieldType} {fin : Bool} (hf : p_Fl M.1.cls idx ci k ty fin) (ht : (∃ C, ty = .object C) ∨ ∃ t, ty = .array t) (hd : decode M.2.1 pc = .ok (.getfield idx, 3)) (hi : p_is σ a ci) (k9 : p_Go K l M (pc + 3) lv (p_r (p_R σ a k) :: st) σ o) : p_Go K l M pc lv (p_r a :: st) σ o := by
  refine p_get hf hd hi (v := p_r (p_R σ a k)) ?_ (fun h => trivial) k9
  rcases ht with ⟨C, rfl⟩ | ⟨t, rfl⟩ <;> rfl
theorem p_put {a ci k idx : Nat} {ty : FieldType} {fin : Bool} {v : p_AV} {σ' : p_Hp} (hf : p_Fl M.1.cls idx ci k ty fin) (hfi : fin = false ∨ (M.1.name = "<init>" ∧ sw_cl[ci]?.map (·.1) = some M.1.cls)) (hd : decode M.2.1 pc = .ok (.putfield idx, 3)) (hi : p_is σ a ci) (hn : p_N σ' = p_N σ) (hm : p_M σ' = p_M σ) (ht : p_T σ' = p_T σ) (hL : p_L σ' = p_L σ) (ho : ∀ b j, ¬ (b = a ∧ j = k) → p_Z σ' b j = p_Z σ b j ∧ p_R σ' b j = p_R σ b j) (hok : p_ok v → p_okT ty (p_Z σ' a k))
    (hv : p_V K v = p_sl K σ' a ty k) (hnr : p_ok v → narrow ty (p_V K v) = p_V K v) (hft : fits ty (p_V K v) = true) (k9 : p_Go K l M (pc + 3) lv st σ' o) : p_Go K l M pc lv (v :: p_r a :: st) σ o := by
  refine ⟨p_x.of hn hm ht hL k9.1, fun p e s m args below meth c H locs n0 m0 mc ms Q ls C R S h1 h2 h3 h4 hl ol os RT => ?_⟩
  obtain ⟨q, ⟨c1, c2, c3, c4, -, -⟩, f1, f2, f3, f4, f5⟩ := hf
  obtain ⟨⟨cell, q1, q2, q3, q4⟩, q5⟩ := R.2.1 a ci q hi c1
  obtain ⟨hS, hfc, kC, hkC, hkind⟩ := C.2.2.2.2.2.2.2.2.1 ci q c1
  obtain ⟨cf, kf, fi, f, hfd, hsl⟩ := hS k f1
  have hts := p_hts C.2.2.2.2.2.1
  have hlays := u_lays hts c2 f1
  have hst := (u_facts hfc hkC hlays hfd).1
  have hty : parseFieldDescriptor (q.2.1 k).2.2.1 = some ty := by rw [c3 k f1, f3]
  have hap : ∀ x y, x < q.2.2 → y < q.2.2 → x ≠ y → K.2.2.1 ci x ≠ K.2.2.1 ci y := by
    intro x y hx hy hne
    obtain ⟨_, _, _, fa, hia, ea⟩ := hS x hx
    obtain ⟨_, _, _, fb, hib, eb⟩ := hS y hy
    rw [← ea, ← eb]
    refine u_apart (u_lays hts c2 hx) (u_lays hts c2 hy) hia hib ?_
    rw [(State.fieldFound?_type hia (c3 x hx)).1, (State.fieldFound?_type hib (c3 y hy)).1]
    exact c4 x hx y hy hne
  have hov : p_ok v := p_okh os
  have kk : ∀ H1 : Heap, H1[K.1 + a]? = some (cell.setSlot f.slot (p_V K v)) → H1.size = H.size → (∀ x, x ≠ K.1 + a → H1[x]? = H[x]?) → W p l e (p_rm M mc ms) s m args below meth c H1 (locs ++ [⟨K.1 + a, f.slot⟩]) (p_N σ - n0) (p_M σ - m0) Q (F0 m (pc + 3) ls (st.map (p_V K))) := by
    intro H1 e1 z oq
    rw [hsl, hv, ← f3] at e1
    rw [← hn, ← hm]
    exact (k9.2 p e s m args below meth c H1 _ n0 m0 mc ms Q ls C (R.putO hi c1 hap f1 hn ht hL ho (by rw [f3]; exact hok hov) q2 q3 q4 e1 z oq) (p_S.put S z oq hi.1) (by rw [hn]; exact h1) (by rw [hm]; exact h2) h3 h4 hl ol (p_okt (p_okt os)) RT)
  show W p l e (p_rm M mc ms) s m args below meth c H locs _ _ Q (F0 m pc ls (p_V K v :: p_V K (p_r a) :: st.map (p_V K)))
  rw [p_V_r hi.1]
  have hfin := hts _ (c2 _ (u_in_lay f1))
  unfold u_lay at hfin
  rcases hfi with rfl | ⟨hnm, hcn⟩
  · rw [if_neg (by rw [f4]; decide)] at hfin
    have h6 := u_store hfc hkC hkind hfin hfd hty (hnr hov) hft
    exact W.putK C.1 C.2.1 (f := f) ⟨C.2.2.2.2.1, hts _ f2, ⟨_, _, _, hfd⟩, hst⟩ (by rw [q2]; exact h6) q1 q3 (by rw [hsl]; exact k2_hasslot (q4 k f1)) rfl rfl hd kk
  · by_cases hff : fin = true
    · rw [if_pos (by rw [f4]; exact hff)] at hfin
      have hcf : m.cls = cf := by
        obtain ⟨_, _, c', _, _, _, -, -, hf', -, -, -, hown2, -⟩ := Cond.laysFinal_spec hfin
        have e1 : c' = cf := by have := hfd.symm.trans hf'; simp at this; exact this.1.symm
        rw [f5] at hown2
        rw [c1] at hcn
        have e3 : q.1 = M.1.cls := Option.some.inj hcn
        rw [e3] at hown2
        rw [← e1]; exact Option.some.inj (C.2.2.2.2.1.symm.trans hown2)
      have h6 := u_fits hfc hkC hkind (Or.inr hfin) hfd hty (hnr hov) hft
      exact W.putFinK C.1 C.2.1 C.2.2.2.2.1 (hts _ f2) hfd hst hcf (C.2.2.2.2.2.2.2.1 hnm) (by rw [q2]; exact h6) q1 q3 (by rw [hsl]; exact k2_hasslot (q4 k f1)) rfl rfl hd kk
    · rw [if_neg (by rw [f4]; exact hff)] at hfin
      have h6 := u_store hfc hkC hkind hfin hfd hty (hnr hov) hft
      exact W.putK C.1 C.2.1 (f := f) ⟨C.2.2.2.2.1, hts _ f2, ⟨_, _, _, hfd⟩, hst⟩ (by rw [q2]; exact h6) q1 q3 (by rw [hsl]; exact k2_hasslot (q4 k f1)) rfl rfl hd kk

theorem g_putI {a ci k idx : Nat} {fin : Bool} {x : Int} (hf : p_Fl M.1.cls idx ci k .int fin) (hfi : fin = false ∨ (M.1.name = "<init>" ∧ sw_cl[ci]?.map (·.1) = some M.1.cls)) (hd : decode M.2.1 pc = .ok (.putfield idx, 3)) (hi : p_is σ a ci) (k9 : p_Go K l M (pc + 3) lv st (p_wZ σ a k x) o) : p_Go K l M pc lv (p_i x :: p_r a :: st) σ o :=
  p_put (σ' := p_wZ σ a k x) hf hfi hd hi rfl rfl rfl rfl p_wZ_o (fun h => by rw [p_wZ_s]; exact h) (by show p_V K (p_i x) = Value.int (Int32.ofInt (p_Z (p_wZ σ a k x) a k)); rw [p_wZ_s]; rfl) (fun _ => rfl) rfl k9
theorem g_putB {a ci k idx : Nat} {fin : Bool} {x : Int} (hf : p_Fl M.1.cls idx ci k .boolean fin) (hfi : fin = false ∨ (M.1.name = "<init>" ∧ sw_cl[ci]?.map (·.1) = some M.1.cls)) (hd : decode M.2.1 pc = .ok (.putfield idx, 3)) (hi : p_is σ a ci) (hx : x = 0 ∨ x = 1) (k9 : p_Go K l M (pc + 3) lv st (p_wZ σ a k x) o) : p_Go K l M pc lv (p_i x :: p_r a :: st) σ o :=
  p_put (σ' := p_wZ σ a k x) hf hfi hd hi rfl rfl rfl rfl p_wZ_o (fun h => by rw [p_wZ_s]; exact hx) (by show p_V K (p_i x) = Value.int (Int32.ofInt (p_Z (p_wZ σ a k x) a k)); rw [p_wZ_s]; rfl) (fun _ => by rcases hx with rfl | rfl <;> rfl) (by rcases hx with rfl | rfl <;> rfl) k9
theorem g_putJ {a ci k idx : Nat} {fin : Bool} {x : Int} (hf : p_Fl M.1.cls idx ci k .long fin) (hfi : fin = false ∨ (M.1.name = "<init>" ∧ sw_cl[ci]?.map (·.1) = some M.1.cls)) (hd : decode M.2.1 pc = .ok (.putfield idx, 3)) (hi : p_is σ a ci) (k9 : p_Go K l M (pc + 3) lv st (p_wZ σ a k x) o) : p_Go K l M pc lv (p_j x :: p_r a :: st) σ o :=
  p_put (σ' := p_wZ σ a k x) hf hfi hd hi rfl rfl rfl rfl p_wZ_o (fun h => by rw [p_wZ_s]; exact h) (by show p_V K (p_j x) = Value.long (Int64.ofInt (p_Z (p_wZ σ a k x) a k)); rw [p_wZ_s]; rfl) (fun _ => rfl) rfl k9
theorem p_rfF (r : Option Nat) (C : String) : fits (.object C) (va_rf r) = true := by cases r <;> rfl
theorem p_rfA (r : Option Nat) (t : FieldType) : fits (.array t) (va_rf r) = true := by cases r <;> rfl
theorem p_rfN (r : Option Nat) (C : String) : narrow (.object C) (va_rf r) = va_rf r := by cases r <;> rfl
theorem p_rfM (r : Option Nat) (t : FieldType) : narrow (.array t) (va_rf r) = va_rf r := by cases r <;> rfl
theorem g_putR {a ci k idx : Nat} {ty : FieldType} {fin : Bool} {x : Nat} (hf : p_Fl M.1.cls idx ci k ty fin) (ht : (∃ C, ty = .object C) ∨ ∃ t, ty = .array t) (hfi : fin = false ∨ (M.1.name = "<init>" ∧ sw_cl[ci]?.map (·.1) = some M.1.cls)) (hd : decode M.2.1 pc = .ok (.putfield idx, 3)) (hi : p_is σ a ci) (k9 : p_Go K l M (pc + 3) lv st (p_wR σ a k x) o) : p_Go K l M pc lv (p_r x :: p_r a :: st) σ o := by
  rcases ht with ⟨D, rfl⟩ | ⟨t, rfl⟩
  · exact p_put (σ' := p_wR σ a k x) hf hfi hd hi rfl rfl rfl rfl p_wR_o (fun _ => trivial) (by show p_V K (p_r x) = va_rf (p_rO K.1 (p_R (p_wR σ a k x) a k)); rw [p_wR_s]; rfl) (fun _ => p_rfN _ _) (p_rfF _ _) k9
  · exact p_put (σ' := p_wR σ a k x) hf hfi hd hi rfl rfl rfl rfl p_wR_o (fun _ => trivial) (by show p_V K (p_r x) = va_rf (p_rO K.1 (p_R (p_wR σ a k x) a k)); rw [p_wR_s]; rfl) (fun _ => p_rfM _ _) (p_rfA _ _) k9
/-! arrays -/
theorem p_ald {a i : Nat} {x : Int} {ty : FieldType} {v : p_AV} (hc : sw_at[i]? = some ty) (hi : p_is σ a (100 + i)) (h0 : 0 ≤ x) (hx : x < (p_L σ a : Int)) (hv : p_V K v = p_sl K σ a ty x.toNat) {H : Heap} (R : p_P K σ H) :
    H[K.1 + a]? = some (arrV (K.2.2.2.1 i) (p_L σ a) (fun j => p_sl K σ a ty j)) ∧ ¬ (Int32.ofInt x < 0 ∨ (arrV (K.2.2.2.1 i) (p_L σ a) (fun j => p_sl K σ a ty j)).slots.size ≤ (Int32.ofInt x).toNatClampNeg) ∧ (arrV (K.2.2.2.1 i) (p_L σ a) (fun j => p_sl K σ a ty j)).slots[(Int32.ofInt x).toNatClampNeg]? = some (p_V K v) ∧ p_okT ty (p_Z σ a x.toNat) ∧ (Int32.ofInt x).toNatClampNeg = x.toNat := by
  obtain ⟨g1, g2, g3⟩ := R.2.2 a i ty hi hc
  have hn := p_nat h0 hx (by omega)
  refine ⟨g1, ?_, ?_, g2 _ (by omega), hn⟩
  · rw [arrV_size]
    exact p_in h0 hx (by omega)
  · rw [hn, arrV_read _ _ (by omega), hv]
theorem g_iaload {a : Nat} {x : Int} (hd : decode M.2.1 pc = .ok (.iaload, 1)) (hi : p_is σ a 100) (h0 : 0 ≤ x) (hx : x < (p_L σ a : Int)) (k9 : p_Go K l M (pc + 1) lv (p_i (p_Z σ a x.toNat) :: st) σ o) : p_Go K l M pc lv (p_i x :: p_r a :: st) σ o := by
  refine ⟨k9.1, fun p e s m args below meth c H locs n0 m0 mc ms Q ls C R S h1 h2 h3 h4 hl ol os RT => ?_⟩
  obtain ⟨g1, g2, g3, g4, -⟩ := p_ald (i := 0) (ty := .int) (v := p_i (p_Z σ a x.toNat)) rfl hi h0 hx rfl R
  show W p l e (p_rm M mc ms) s m args below meth c H locs _ _ Q (F0 m pc ls (p_V K (p_i x) :: p_V K (p_r a) :: st.map (p_V K)))
  rw [p_V_r hi.1]
  exact W.iald C.1 C.2.1 g1 ((C.2.2.2.2.2.2.2.2.2.1 0 _ rfl).1 _ _) (fun q => by cases q) g2 g3 rfl rfl hd (k9.2 p e s m args below meth c H locs n0 m0 mc ms Q ls C R S h1 h2 h3 h4 hl ol (p_ok2 (v := p_i _) g4 (p_okt (p_okt os))) RT)
theorem g_laload {a : Nat} {x : Int} (hd : decode M.2.1 pc = .ok (.laload, 1)) (hi : p_is σ a 101) (h0 : 0 ≤ x) (hx : x < (p_L σ a : Int)) (k9 : p_Go K l M (pc + 1) lv (p_j (p_Z σ a x.toNat) :: st) σ o) : p_Go K l M pc lv (p_i x :: p_r a :: st) σ o := by
  refine ⟨k9.1, fun p e s m args below meth c H locs n0 m0 mc ms Q ls C R S h1 h2 h3 h4 hl ol os RT => ?_⟩
  obtain ⟨g1, g2, g3, g4, -⟩ := p_ald (i := 1) (ty := .long) (v := p_j (p_Z σ a x.toNat)) rfl hi h0 hx rfl R
  show W p l e (p_rm M mc ms) s m args below meth c H locs _ _ Q (F0 m pc ls (p_V K (p_i x) :: p_V K (p_r a) :: st.map (p_V K)))
  rw [p_V_r hi.1]
  exact W.lald C.1 C.2.1 g1 ((C.2.2.2.2.2.2.2.2.2.1 1 _ rfl).1 _ _) (fun q => by cases q) g2 g3 rfl rfl hd (k9.2 p e s m args below meth c H locs n0 m0 mc ms Q ls C R S h1 h2 h3 h4 hl ol (p_ok2 (v := p_j _) g4 (p_okt (p_okt os))) RT)
theorem g_baload {a : Nat} {x : Int} (hd : decode M.2.1 pc = .ok (.baload, 1)) (hi : p_is σ a 102) (h0 : 0 ≤ x) (hx : x < (p_L σ a : Int)) (k9 : p_Go K l M (pc + 1) lv (p_i (p_Z σ a x.toNat) :: st) σ o) : p_Go K l M pc lv (p_i x :: p_r a :: st) σ o := by
  refine ⟨k9.1, fun p e s m args below meth c H locs n0 m0 mc ms Q ls C R S h1 h2 h3 h4 hl ol os RT => ?_⟩
  obtain ⟨g1, g2, g3, g4, -⟩ := p_ald (i := 2) (ty := .boolean) (v := p_i (p_Z σ a x.toNat)) rfl hi h0 hx rfl R
  show W p l e (p_rm M mc ms) s m args below meth c H locs _ _ Q (F0 m pc ls (p_V K (p_i x) :: p_V K (p_r a) :: st.map (p_V K)))
  rw [p_V_r hi.1]
  exact W.zald C.1 C.2.1 g1 ((C.2.2.2.2.2.2.2.2.2.1 2 _ rfl).1 _ _) (fun q => by cases q) g2 g3 rfl rfl hd (k9.2 p e s m args below meth c H locs n0 m0 mc ms Q ls C R S h1 h2 h3 h4 hl ol (p_ok2 (v := p_i _) (by show p_c (p_Z σ a x.toNat); rcases (g4 : p_Z σ a x.toNat = 0 ∨ p_Z σ a x.toNat = 1) with w | w <;> rw [w] <;> decide) (p_okt (p_okt os))) RT)
theorem g_aaload {a i : Nat} {x : Int} {ty : FieldType} (hc : sw_at[i]? = some ty) (ht : (∃ C, ty = .object C) ∨ ∃ t, ty = .array t) (hd : decode M.2.1 pc = .ok (.aaload, 1)) (hi : p_is σ a (100 + i)) (h0 : 0 ≤ x) (hx : x < (p_L σ a : Int)) (k9 : p_Go K l M (pc + 1) lv (p_r (p_R σ a x.toNat) :: st) σ o) : p_Go K l M pc lv (p_i x :: p_r a :: st) σ o := by
  refine ⟨k9.1, fun p e s m args below meth c H locs n0 m0 mc ms Q ls C R S h1 h2 h3 h4 hl ol os RT => ?_⟩
  have hsl : p_V K (p_r (p_R σ a x.toNat)) = p_sl K σ a ty x.toNat := by rcases ht with ⟨D, rfl⟩ | ⟨t, rfl⟩ <;> rfl
  obtain ⟨g1, g2, g3, g4, -⟩ := p_ald (i := i) (ty := ty) (v := p_r (p_R σ a x.toNat)) hc hi h0 hx hsl R
  show W p l e (p_rm M mc ms) s m args below meth c H locs _ _ Q (F0 m pc ls (p_V K (p_i x) :: p_V K (p_r a) :: st.map (p_V K)))
  rw [p_V_r hi.1]
  exact W.aald (ty := ty) C.1 C.2.1 g1 ((C.2.2.2.2.2.2.2.2.2.1 i _ hc).1 _ _) (by rcases ht with ⟨D, rfl⟩ | ⟨t, rfl⟩ <;> rfl) (fun q => by cases q) g2 g3 rfl rfl hd (k9.2 p e s m args below meth c H locs n0 m0 mc ms Q ls C R S h1 h2 h3 h4 hl ol (p_ok2 (v := p_r _) trivial (p_okt (p_okt os))) RT)
theorem g_alen {a i : Nat} {ty : FieldType} (hc : sw_at[i]? = some ty) (hd : decode M.2.1 pc = .ok (.arraylength, 1)) (hi : p_is σ a (100 + i)) (k9 : p_Go K l M (pc + 1) lv (p_i (p_L σ a) :: st) σ o) : p_Go K l M pc lv (p_r a :: st) σ o := by
  refine ⟨k9.1, fun p e s m args below meth c H locs n0 m0 mc ms Q ls C R S h1 h2 h3 h4 hl ol os RT => ?_⟩
  obtain ⟨g1, g2, g3⟩ := R.2.2 a i ty hi hc
  show W p l e (p_rm M mc ms) s m args below meth c H locs _ _ Q (F0 m pc ls (p_V K (p_r a) :: st.map (p_V K)))
  rw [p_V_r hi.1]
  exact W.alen (n := Int32.ofInt (p_L σ a)) C.1 C.2.1 g1 ((C.2.2.2.2.2.2.2.2.2.1 i _ hc).1 _ _) (by rw [arrV_size]; rfl) rfl rfl hd (k9.2 p e s m args below meth c H locs n0 m0 mc ms Q ls C R S h1 h2 h3 h4 hl ol (p_ok2 (v := p_i _) (⟨by omega, by omega⟩ : p_c (p_L σ a : Int)) (p_okt os)) RT)
theorem g_iastore {a : Nat} {x y : Int} (hd : decode M.2.1 pc = .ok (.iastore, 1)) (hi : p_is σ a 100) (h0 : 0 ≤ x) (hx : x < (p_L σ a : Int)) (k9 : p_Go K l M (pc + 1) lv st (p_wZ σ a x.toNat y) o) : p_Go K l M pc lv (p_i y :: p_i x :: p_r a :: st) σ o := by
  refine ⟨k9.1, fun p e s m args below meth c H locs n0 m0 mc ms Q ls C R S h1 h2 h3 h4 hl ol os RT => ?_⟩
  obtain ⟨g1, g2, -, g4, g5⟩ := p_ald (i := 0) (ty := .int) (v := p_i (p_Z σ a x.toNat)) rfl hi h0 hx rfl R
  have hov : p_ok (p_i y) := p_okh os
  show W p l e (p_rm M mc ms) s m args below meth c H locs _ _ Q (F0 m pc ls (p_V K (p_i y) :: p_V K (p_i x) :: p_V K (p_r a) :: st.map (p_V K)))
  rw [p_V_r hi.1]
  refine W.iast C.1 C.2.1 g1 ((C.2.2.2.2.2.2.2.2.2.1 0 _ rfl).1 _ _) (fun q => by cases q) g2 rfl rfl hd (fun H1 e1 z oq => ?_)
  rw [g5] at e1 ⊢
  have hP1 : p_P K (p_wZ σ a x.toNat y) H1 := R.putA (i := 0) (ty := .int) hi rfl rfl rfl rfl p_wZ_o (by rw [p_wZ_s]; exact hov) (by rw [e1]; show some (Cell.setSlot _ _ _) = some (Cell.setSlot _ _ (Value.int (Int32.ofInt (p_Z (p_wZ σ a x.toNat y) a x.toNat)))); rw [p_wZ_s]) z oq
  exact k9.2 p e s m args below meth c H1 _ n0 m0 mc ms Q ls C hP1 (p_S.put S z oq hi.1) h1 h2 h3 h4 hl ol (p_okt (p_okt (p_okt os))) RT
theorem g_lastore {a : Nat} {x y : Int} (hd : decode M.2.1 pc = .ok (.lastore, 1)) (hi : p_is σ a 101) (h0 : 0 ≤ x) (hx : x < (p_L σ a : Int)) (k9 : p_Go K l M (pc + 1) lv st (p_wZ σ a x.toNat y) o) : p_Go K l M pc lv (p_j y :: p_i x :: p_r a :: st) σ o := by
  refine ⟨k9.1, fun p e s m args below meth c H locs n0 m0 mc ms Q ls C R S h1 h2 h3 h4 hl ol os RT => ?_⟩
  obtain ⟨g1, g2, -, g4, g5⟩ := p_ald (i := 1) (ty := .long) (v := p_j (p_Z σ a x.toNat)) rfl hi h0 hx rfl R
  have hov : p_ok (p_j y) := p_okh os
  show W p l e (p_rm M mc ms) s m args below meth c H locs _ _ Q (F0 m pc ls (p_V K (p_j y) :: p_V K (p_i x) :: p_V K (p_r a) :: st.map (p_V K)))
  rw [p_V_r hi.1]
  refine W.last C.1 C.2.1 g1 ((C.2.2.2.2.2.2.2.2.2.1 1 _ rfl).1 _ _) (fun q => by cases q) g2 rfl rfl hd (fun H1 e1 z oq => ?_)
  rw [g5] at e1 ⊢
  have hP1 : p_P K (p_wZ σ a x.toNat y) H1 := R.putA (i := 1) (ty := .long) hi rfl rfl rfl rfl p_wZ_o (by rw [p_wZ_s]; exact hov) (by rw [e1]; show some (Cell.setSlot _ _ _) = some (Cell.setSlot _ _ (Value.long (Int64.ofInt (p_Z (p_wZ σ a x.toNat y) a x.toNat)))); rw [p_wZ_s]) z oq
  exact k9.2 p e s m args below meth c H1 _ n0 m0 mc ms Q ls C hP1 (p_S.put S z oq hi.1) h1 h2 h3 h4 hl ol (p_okt (p_okt (p_okt os))) RT
theorem g_bastore {a : Nat} {x y : Int} (hd : decode M.2.1 pc = .ok (.bastore, 1)) (hi : p_is σ a 102) (h0 : 0 ≤ x) (hx : x < (p_L σ a : Int)) (hy : y = 0 ∨ y = 1) (k9 : p_Go K l M (pc + 1) lv st (p_wZ σ a x.toNat y) o) : p_Go K l M pc lv (p_i y :: p_i x :: p_r a :: st) σ o := by
  refine ⟨k9.1, fun p e s m args below meth c H locs n0 m0 mc ms Q ls C R S h1 h2 h3 h4 hl ol os RT => ?_⟩
  obtain ⟨g1, g2, -, g4, g5⟩ := p_ald (i := 2) (ty := .boolean) (v := p_i (p_Z σ a x.toNat)) rfl hi h0 hx rfl R
  have hov : p_ok (p_i y) := p_okh os
  show W p l e (p_rm M mc ms) s m args below meth c H locs _ _ Q (F0 m pc ls (p_V K (p_i y) :: p_V K (p_i x) :: p_V K (p_r a) :: st.map (p_V K)))
  rw [p_V_r hi.1]
  refine W.zast C.1 C.2.1 g1 ((C.2.2.2.2.2.2.2.2.2.1 2 _ rfl).1 _ _) (fun q => by cases q) g2 rfl rfl hd (fun H1 e1 z oq => ?_)
  rw [g5] at e1 ⊢
  have hP1 : p_P K (p_wZ σ a x.toNat y) H1 := R.putA (i := 2) (ty := .boolean) hi rfl rfl rfl rfl p_wZ_o (by rw [p_wZ_s]; exact hy) (by rw [e1]; show some (Cell.setSlot _ _ _) = some (Cell.setSlot _ _ (Value.int (Int32.ofInt (p_Z (p_wZ σ a x.toNat y) a x.toNat)))); rw [p_wZ_s]; rcases hy with rfl | rfl <;> rfl) z oq
  exact k9.2 p e s m args below meth c H1 _ n0 m0 mc ms Q ls C hP1 (p_S.put S z oq hi.1) h1 h2 h3 h4 hl ol (p_okt (p_okt (p_okt os))) RT
theorem g_aastore {a i ci b : Nat} {q : vw_C} {x : Int} (hcl : sw_cl[ci]? = some q) (hc : sw_at[i]? = some (.object q.1)) (hd : decode M.2.1 pc = .ok (.aastore, 1)) (hi : p_is σ a (100 + i)) (hb : p_is σ b ci) (h0 : 0 ≤ x) (hx : x < (p_L σ a : Int)) (k9 : p_Go K l M (pc + 1) lv st (p_wR σ a x.toNat b) o) : p_Go K l M pc lv (p_r b :: p_i x :: p_r a :: st) σ o := by
  refine ⟨k9.1, fun p e s m args below meth c H locs n0 m0 mc ms Q ls C R S h1 h2 h3 h4 hl ol os RT => ?_⟩
  obtain ⟨g1, g2, -, g4, g5⟩ := p_ald (i := i) (ty := .object q.1) (v := p_r (p_R σ a x.toNat)) hc hi h0 hx rfl R
  obtain ⟨⟨cellV, v1, v2, v3, -⟩, -⟩ := R.2.1 b ci q hb hcl
  have hcls := (C.2.2.2.2.2.2.2.2.1 ci q hcl).2
  obtain ⟨kA, comp, k1, k2, k3, -⟩ := (C.2.2.2.2.2.2.2.2.2.1 i _ hc).2
  have hcomp : comp = K.2.1 ci := Option.some.inj (k3.symm.trans hcls.1)
  subst hcomp
  obtain ⟨kC, hkC, -⟩ := id hcls.2
  show W p l e (p_rm M mc ms) s m args below meth c H locs _ _ Q (F0 m pc ls (p_V K (p_r b) :: p_V K (p_i x) :: p_V K (p_r a) :: st.map (p_V K)))
  rw [p_V_r hi.1, p_V_r hb.1]
  refine W.aast C.1 C.2.1 g1 (fun q h => by cases h) (fun h => by cases h) k1 k2 rfl hkC ⟨fun h => g2 (Or.inl h), Nat.not_le.mp fun h => g2 (Or.inr h)⟩ v1 (fun q h => by rw [v3] at h; cases h) (by rw [v2]; exact hkC) (by rw [v2]; exact va_assign hcls) rfl rfl hd (fun H1 e1 z oq => ?_)
  rw [g5] at e1 ⊢
  have hP1 : p_P K (p_wR σ a x.toNat b) H1 := R.putA (i := i) (ty := .object q.1) hi hc rfl rfl rfl p_wR_o trivial (by rw [e1, ← p_V_r hb.1]; show some (Cell.setSlot _ _ _) = some (Cell.setSlot _ _ (va_rf (p_rO K.1 (p_R (p_wR σ a x.toNat b) a x.toNat)))); rw [p_wR_s]; rfl) z oq
  exact k9.2 p e s m args below meth c H1 _ n0 m0 mc ms Q ls C hP1 (p_S.put S z oq hi.1) h1 h2 h3 h4 hl ol (p_okt (p_okt (p_okt os))) RT
theorem g_getstatic {j idx : Nat} {q : String × String} (hq : sw_st[j]? = some q) (hw : (M.1.cls, idx, q.1, q.2, "[I", q.1) ∈ sw_nf) (hd : decode M.2.1 pc = .ok (.getstatic idx, 3)) (k9 : p_Go K l M (pc + 3) lv (p_s j :: st) σ o) : p_Go K l M pc lv st σ o := by
  refine ⟨k9.1, fun p e s m args below meth c H locs n0 m0 mc ms Q ls C R S h1 h2 h3 h4 hl ol os RT => ?_⟩
  have E := C.2.2.2.2.2.2.2.2
  exact va_getsN C.1 C.2.1 (E.2.2.2.2.2.2.1 j q hq) S C.2.2.2.2.1 (va_Nw.use rfl (E.2.2.1 _ hw)) (fun _ h => h) hd (k9.2 p e s m args below meth c H locs n0 m0 mc ms Q ls C R S h1 h2 h3 h4 hl ol (p_ok2 (v := p_s _) trivial os) RT)
theorem p_tab_c : ∀ j i : Nat, p_c (sw_tab j i) := by
  intro j i
  unfold sw_tab
  have h : ∀ l ∈ sw_tbs, ∀ x ∈ l, p_c x := by decide
  have h1 : ∀ x ∈ sw_tbs.getD j [], p_c x := by
    rw [List.getD_eq_getElem?_getD]
    cases hj : sw_tbs[j]? with
    | none => intro x hx; cases hx
    | some l => exact h l (List.mem_of_getElem? hj)
  rw [List.getD_eq_getElem?_getD]
  cases hi : (sw_tbs.getD j [])[i]? with
  | none => exact (by decide : p_c 0)
  | some x => exact h1 x (List.mem_of_getElem? hi)
theorem g_tabload {j : Nat} {x : Int} (hj : j < sw_st.length ∨ j = 9) (hd : decode M.2.1 pc = .ok (.iaload, 1)) (h0 : 0 ≤ x) (hx : x < (p_tl K j : Int)) (k9 : p_Go K l M (pc + 1) lv (p_i (p_tv K j x.toNat) :: st) σ o) : p_Go K l M pc lv (p_i x :: p_s j :: st) σ o := by
  refine ⟨k9.1, fun p e s m args below meth c H locs n0 m0 mc ms Q ls C R S h1 h2 h3 h4 hl ol os RT => ?_⟩
  have E := C.2.2.2.2.2.2.2.2
  have hsz := E.2.2.2.2.2.2.2.2.1 j
  have hxc := E.2.2.2.2.2.2.2.2.2.1
  obtain ⟨cell, t1, t2, t3, t4, t5, t6, t7⟩ := E.2.2.2.2.2.2.2.1 j hj
  have t1 : H[K.2.2.2.2.1 j]? = some cell := by rw [S.2.1 _ (Array.getElem?_eq_some_iff.mp t1).1 t7]; exact t1
  have hn := p_nat h0 hx (by omega)
  refine W.iald (v := p_V K (p_i (p_tv K j x.toNat))) C.1 C.2.1 t1 t2 t3 ?_ ?_ rfl rfl hd (k9.2 p e s m args below meth c H locs n0 m0 mc ms Q ls C R S h1 h2 h3 h4 hl ol (p_ok2 (v := p_i _) ?_ (p_okt (p_okt os))) RT)
  · have := p_in h0 hx (by omega)
    intro w
    exact this (w.imp id (fun w => Nat.le_trans t4 w))
  · rw [hn]
    exact t6 _ (by omega)
  · show p_c (p_tv K j x.toNat)
    unfold p_tv
    split
    · exact hxc _
    · exact p_tab_c _ _
theorem g_tabS {j : Nat} {x : Int} (hj : j < sw_st.length) (hd : decode M.2.1 pc = .ok (.iaload, 1)) (h0 : 0 ≤ x) (hx : x < (sw_tl j : Int)) (k9 : p_Go K l M (pc + 1) lv (p_i (sw_tab j x.toNat) :: st) σ o) : p_Go K l M pc lv (p_i x :: p_s j :: st) σ o := by
  have h9 : j ≠ 9 := by have h : j < 4 := hj; omega
  refine g_tabload (Or.inl hj) hd h0 (by unfold p_tl; rw [if_neg h9]; exact hx) ?_
  unfold p_tv
  rw [if_neg h9]
  exact k9
theorem g_tablen {j : Nat} (hj : j < sw_st.length ∨ j = 9) (hd : decode M.2.1 pc = .ok (.arraylength, 1)) (k9 : p_Go K l M (pc + 1) lv (p_i (p_tl K j) :: st) σ o) : p_Go K l M pc lv (p_s j :: st) σ o := by
  refine ⟨k9.1, fun p e s m args below meth c H locs n0 m0 mc ms Q ls C R S h1 h2 h3 h4 hl ol os RT => ?_⟩
  have E := C.2.2.2.2.2.2.2.2
  have hsz := E.2.2.2.2.2.2.2.2.1 j
  obtain ⟨cell, t1, t2, t3, t4, t5, t6, t7⟩ := E.2.2.2.2.2.2.2.1 j hj
  have t1 : H[K.2.2.2.2.1 j]? = some cell := by rw [S.2.1 _ (Array.getElem?_eq_some_iff.mp t1).1 t7]; exact t1
  exact W.alen (n := Int32.ofInt (p_tl K j)) C.1 C.2.1 t1 t2 t5 rfl rfl hd (k9.2 p e s m args below meth c H locs n0 m0 mc ms Q ls C R S h1 h2 h3 h4 hl ol (p_ok2 (v := p_i _) (⟨by omega, by omega⟩ : p_c (p_tl K j : Int)) (p_okt os)) RT)
end HR
end
section
/-! ===== new cells ===== -/
theorem p_nwZ {σ : p_Hp} {t n b : Nat} (h : b ≠ p_N σ + 1) (j : Nat) : p_Z (p_nw σ t n) b j = p_Z σ b j ∧ p_R (p_nw σ t n) b j = p_R σ b j := ⟨if_neg h, if_neg h⟩
theorem p_nwT {σ : p_Hp} {t n b : Nat} (h : b ≠ p_N σ + 1) : p_T (p_nw σ t n) b = p_T σ b ∧ p_L (p_nw σ t n) b = p_L σ b := ⟨if_neg h, if_neg h⟩
theorem p_nw0 (σ : p_Hp) (t n j : Nat) : p_Z (p_nw σ t n) (p_N σ + 1) j = 0 ∧ p_R (p_nw σ t n) (p_N σ + 1) j = 0 := ⟨if_pos rfl, if_pos rfl⟩
theorem p_nwS (σ : p_Hp) (t n : Nat) : p_T (p_nw σ t n) (p_N σ + 1) = t ∧ p_L (p_nw σ t n) (p_N σ + 1) = n := ⟨if_pos rfl, if_pos rfl⟩
theorem p_slD {K : p_K} {σ : p_Hp} {a k : Nat} (hz : p_Z σ a k = 0) (hr : p_R σ a k = 0) {ty : FieldType} (h : p_nf ty = true) : p_sl K σ a ty k = defaultValue ty := by
  cases ty <;> simp only [p_sl, hz, hr] <;> first | rfl | (exact absurd h (by decide))
theorem p_okD {ty : FieldType} {x : Int} (hx : x = 0) : p_okT ty x := by
  subst hx
  cases ty <;> first | trivial | exact Or.inl rfl | exact (by decide : p_c 0) | exact (by decide : p_c6 0)
theorem p_P.new {K : p_K} {σ : p_Hp} {H H1 : Heap} {t n : Nat} (hP : p_P K σ H) (z : H1.size = H.size + 1) (oq : ∀ x : Nat, x < H.size → H1[x]? = H[x]?)
    (hO : ∀ q : vw_C, sw_cl[t]? = some q → t_OB (K.1 + (p_N σ + 1)) (K.2.1 t) q.2.2 (K.2.2.1 t) H1 (fun k => p_sl K (p_nw σ t n) (p_N σ + 1) (sw_ty t k) k))
    (hA : ∀ (i : Nat) (ty : FieldType), t = 100 + i → sw_at[i]? = some ty → H1[K.1 + (p_N σ + 1)]? = some (arrV (K.2.2.2.1 i) n (fun j => p_sl K (p_nw σ t n) (p_N σ + 1) ty j)) ∧ n ≤ 1000000) : p_P K (p_nw σ t n) H1 := by
  have hsz := hP.1
  have up : ∀ b t', p_is (p_nw σ t n) b t' → b ≠ p_N σ + 1 → p_is σ b t' := fun b t' h hb => by
    have h2 : b ≤ p_N σ + 1 := h.2.1
    have h3 := h.2.2
    rw [(p_nwT hb).1] at h3
    exact ⟨h.1, by omega, h3⟩
  refine ⟨by show H1.size = K.1 + (p_N σ + 1) + 1; omega, fun b cj r hb hr => ?_, fun b i ty hb hty => ?_⟩
  · by_cases hbn : b = p_N σ + 1
    · subst hbn
      have e : t = cj := (p_nwS σ t n).1.symm.trans hb.2.2
      subst e
      exact ⟨hO r hr, fun k _ => p_okD (p_nw0 σ t n k).1⟩
    · have hb := up b cj hb hbn
      obtain ⟨g1, g2⟩ := hP.2.1 b cj r hb hr
      refine ⟨(g1.kept (oq _ (by have := hb.2.1; omega))).to (fun j hj => (p_sl_eq (p_nwZ hbn j).1 (p_nwZ hbn j).2 _).symm), fun j hj => ?_⟩
      rw [(p_nwZ hbn j).1]
      exact g2 j hj
  · by_cases hbn : b = p_N σ + 1
    · subst hbn
      have e : t = 100 + i := (p_nwS σ t n).1.symm.trans hb.2.2
      obtain ⟨a1, a2⟩ := hA i ty e hty
      rw [(p_nwS σ t n).2]
      exact ⟨a1, fun j _ => p_okD (p_nw0 σ t n j).1, a2⟩
    · have hb := up b _ hb hbn
      obtain ⟨g1, g2, g3⟩ := hP.2.2 b i ty hb hty
      rw [(p_nwT hbn).2]
      refine ⟨?_, fun j hj => ?_, g3⟩
      · rw [oq _ (by have := hb.2.1; omega), g1]
        congr 2
        funext j
        exact (p_sl_eq (p_nwZ hbn j).1 (p_nwZ hbn j).2 _).symm
      · rw [(p_nwZ hbn j).1]
        exact g2 j hj
theorem p_S.new {K : p_K} {H0 H H1 : Heap} {locs : List Loc} (h : va_S (p_A K) H0 H locs) (z : H.size ≤ H1.size) (oq : ∀ q : Nat, q < H.size → H1[q]? = H[q]?) : va_S (p_A K) H0 H1 locs :=
  ⟨Nat.le_trans h.1 z, fun x g1 g2 => (oq x (Nat.lt_of_lt_of_le g1 h.1)).trans (h.2.1 x g1 g2), h.2.2⟩
section NR
variable {K : p_K} {l : Launch} {M : p_Me} {pc : Nat} {lv : List (Nat × p_AV)} {st : List p_AV} {σ : p_Hp} {o : Option p_AV × p_Hp}
theorem g_new {ci idx : Nat} {q : vw_C} (hcl : p_Cl ci q) (hw : Cond.classLink M.1.cls idx q.1 ∈ sw_gw) (hd : decode M.2.1 pc = .ok (.new idx, 3)) (k9 : p_Go K l M (pc + 3) lv (p_r (p_N σ + 1) :: st) (p_nw σ ci q.2.2) o) : p_Go K l M pc lv st σ o := by
  have e1 : p_N (p_nw σ ci q.2.2) = p_N σ + 1 := rfl
  have e2 : p_M (p_nw σ ci q.2.2) = p_M σ + q.2.2 := rfl
  have kn : p_N σ + 1 ≤ p_N o.2 ∧ p_M σ + q.2.2 ≤ p_M o.2 := ⟨k9.1.1, k9.1.2.1⟩
  refine ⟨(p_x_nw _ _ _).trans k9.1, fun p e s m args below meth c H locs n0 m0 mc ms Q ls C R S h1 h2 h3 h4 hl ol os RT => ?_⟩
  obtain ⟨c1, c2, c3, c4, c5, c6, c7⟩ := hcl
  have hts := p_hts C.2.2.2.2.2.1
  have hKn := C.2.2.2.2.2.2.2.2.1 ci q c1
  refine W.newcK C.1 C.2.1 C.2.2.2.2.1 (hts _ hw) (hts _ c5) (hts _ c6) rfl hd (by show p_N σ - n0 + 1 ≤ mc; omega) (by show p_M σ - m0 + q.2.2 ≤ ms; omega) hKn.2.1 R.1 fun H1 kC hkC b1 z1 o1 => ?_
  have oq : ∀ x : Nat, x < H.size → H1[x]? = H[x]? := fun x hx => o1 x (by rw [← R.1]; exact hx)
  have hP1 : p_P K (p_nw σ ci q.2.2) H1 := by
    refine R.new (by rw [z1, R.1]) oq (fun q' hq' => ?_) (fun i ty hi _ => ?_)
    · cases c1.symm.trans hq'
      exact (u_born (sw_ty ci) hts c2 hKn hkC b1 c3).to (fun j hj => (p_slD (p_nw0 σ ci q.2.2 j).1 (p_nw0 σ ci q.2.2 j).2 (c7 j hj)).symm)
    · have := p_cl_lt c1
      omega
  have kk := k9.2 p e s m args below meth c H1 locs n0 m0 mc ms Q ls C hP1 (p_S.new S (by rw [z1, R.1]; omega) oq) (by rw [e1]; omega) (by rw [e2]; omega) h3 h4 hl ol (p_ok2 (v := p_r _) trivial os) RT
  rw [List.map_cons, p_V_r (by omega), e1, e2] at kk
  exact W.cs (by omega) (by omega) kk
theorem g_newarray {i t n : Nat} {x : Int} {at' : ArrayType} {ty : FieldType} (ht9 : t = 100 + i) (hn9 : n = x.toNat) (hc : sw_at[i]? = some ty) (hty : newarray.typeOf at' = ty) (hw : Cond.arrayClass ty ∈ sw_gw) (hd : decode M.2.1 pc = .ok (.newarray at', 2)) (h0 : 0 ≤ x) (hx : x ≤ 1000000) (k9 : p_Go K l M (pc + 2) lv (p_r (p_N σ + 1) :: st) (p_nw σ t n) o) : p_Go K l M pc lv (p_i x :: st) σ o := by
  subst ht9
  subst hn9
  have e1 : p_N (p_nw σ (100 + i) x.toNat) = p_N σ + 1 := rfl
  have e2 : p_M (p_nw σ (100 + i) x.toNat) = p_M σ + x.toNat := rfl
  have kn : p_N σ + 1 ≤ p_N o.2 ∧ p_M σ + x.toNat ≤ p_M o.2 := ⟨k9.1.1, k9.1.2.1⟩
  refine ⟨(p_x_nw _ _ _).trans k9.1, fun p e s m args below meth c H locs n0 m0 mc ms Q ls C R S h1 h2 h3 h4 hl ol os RT => ?_⟩
  have hts := p_hts C.2.2.2.2.2.1
  have hnat := p_nat (n := 1000001) h0 (by omega) (by omega)
  have hneg : ¬ Int32.ofInt x < 0 := by rw [p_lt0 (p_okh os)]; omega
  have hcb : ∀ ty : FieldType, componentBytes ty ≤ 8 := fun ty => by cases ty <;> first | decide | exact (by decide : 4 ≤ 8)
  have hbytes : x.toNat * componentBytes (newarray.typeOf at') ≤ 536870912 := Nat.le_trans (Nat.mul_le_mul_left _ (hcb _)) (by omega)
  refine va_newaK C.1 C.2.1 (by rw [hty]; exact hts _ hw) rfl hd rfl hneg hnat hbytes (by show p_N σ - n0 + 1 ≤ mc; omega) (by show p_M σ - m0 + x.toNat ≤ ms; omega) R.1 fun H1 cA b1 z1 o1 hAr hNm => ?_
  have hca : cA = K.2.2.2.1 i := by
    have h := (C.2.2.2.2.2.2.2.2.2.1 i ty hc).2
    subst hty
    have h : s.vm.findClass ("[" ++ (newarray.typeOf at').toString) = some (K.2.2.2.1 i) := by cases at' <;> exact h
    exact Option.some.inj (hNm.symm.trans h)
  subst hca
  have hnf : p_nf ty = true ∨ ty = .float ∨ ty = .double := by cases ty <;> simp [p_nf]
  have hnf : p_nf ty = true := by
    rcases hnf with h | h | h
    · exact h
    · subst h; exact absurd (List.mem_of_getElem? hc) (by decide)
    · subst h; exact absurd (List.mem_of_getElem? hc) (by decide)
  have oq : ∀ x : Nat, x < H.size → H1[x]? = H[x]? := fun x hx => o1 x (by rw [← R.1]; exact hx)
  have hP1 : p_P K (p_nw σ (100 + i) x.toNat) H1 := by
    refine R.new (by rw [z1, R.1]) oq (fun q' hq' => ?_) (fun i' ty' hi hty' => ?_)
    · have := p_cl_lt hq'
      omega
    · have e : i' = i := by omega
      subst e
      cases hc.symm.trans hty'
      refine ⟨?_, by omega⟩
      rw [show K.1 + (p_N σ + 1) = K.1 + p_N σ + 1 from by omega, b1, hty]
      congr 2
      funext j
      exact (p_slD (p_nw0 σ (100 + i') x.toNat j).1 (p_nw0 σ (100 + i') x.toNat j).2 hnf).symm
  have kk := k9.2 p e s m args below meth c H1 locs n0 m0 mc ms Q ls C hP1 (p_S.new S (by rw [z1, R.1]; omega) oq) (by rw [e1]; omega) (by rw [e2]; omega) h3 h4 hl ol (p_ok2 (v := p_r _) trivial (p_okt os)) RT
  rw [List.map_cons, p_V_r (by omega), e1, e2] at kk
  exact W.cs (by omega) (by omega) kk
theorem g_anewarray {i idx t n : Nat} {x : Int} {D : String} (ht9 : t = 100 + i) (hn9 : n = x.toNat) (hc : sw_at[i]? = some (.object D)) (hao : D ∈ sw_ao) (hw : Cond.classLink M.1.cls idx D ∈ sw_gw) (hd : decode M.2.1 pc = .ok (.anewarray idx, 3)) (h0 : 0 ≤ x) (hx : x ≤ 1000000) (k9 : p_Go K l M (pc + 3) lv (p_r (p_N σ + 1) :: st) (p_nw σ t n) o) : p_Go K l M pc lv (p_i x :: st) σ o := by
  subst ht9
  subst hn9
  have e1 : p_N (p_nw σ (100 + i) x.toNat) = p_N σ + 1 := rfl
  have e2 : p_M (p_nw σ (100 + i) x.toNat) = p_M σ + x.toNat := rfl
  have kn : p_N σ + 1 ≤ p_N o.2 ∧ p_M σ + x.toNat ≤ p_M o.2 := ⟨k9.1.1, k9.1.2.1⟩
  refine ⟨(p_x_nw _ _ _).trans k9.1, fun p e s m args below meth c H locs n0 m0 mc ms Q ls C R S h1 h2 h3 h4 hl ol os RT => ?_⟩
  have hts := p_hts C.2.2.2.2.2.1
  have E := C.2.2.2.2.2.2.2.2
  have hnat := p_nat (n := 1000001) h0 (by omega) (by omega)
  have hneg : ¬ Int32.ofInt x < 0 := by rw [p_lt0 (p_okh os)]; omega
  refine W.anew C.1 C.2.1 C.2.2.2.2.1 (hts _ hw) (va_AO.use (E.2.2.2.2.1 D hao)) rfl hd rfl hneg (by rw [hnat]; omega) (by show p_N σ - n0 + 1 ≤ mc; omega) (by rw [hnat]; show p_M σ - m0 + x.toNat ≤ ms; omega) fun cA kA comp a1 a2 a3 a4 => ?_
  obtain ⟨kA', comp', r1, r2, r3, r4⟩ := (E.2.1 i _ hc).2
  have hca : cA = K.2.2.2.1 i := Option.some.inj (a1.symm.trans r4)
  subst hca
  rw [hnat, arrV_new]
  generalize hH1 : H.push (arrV (K.2.2.2.1 i) x.toNat (fun _ => Value.null)) = H1
  have z1 : H1.size = H.size + 1 := by rw [← hH1]; simp
  have oq : ∀ y : Nat, y < H.size → H1[y]? = H[y]? := fun y hy => by rw [← hH1, Array.getElem?_push, if_neg (Nat.ne_of_lt hy)]
  have hP1 : p_P K (p_nw σ (100 + i) x.toNat) H1 := by
    refine R.new z1 oq (fun q' hq' => ?_) (fun i' ty' hi hty' => ?_)
    · have := p_cl_lt hq'
      omega
    · have e : i' = i := by omega
      subst e
      cases hc.symm.trans hty'
      refine ⟨?_, by omega⟩
      rw [show K.1 + (p_N σ + 1) = H.size from by rw [R.1]; omega, ← hH1]
      rw [Array.getElem?_push, if_pos rfl]
      congr 2
      funext j
      exact (p_slD (ty := .object D) (p_nw0 σ (100 + i') x.toNat j).1 (p_nw0 σ (100 + i') x.toNat j).2 rfl).symm
  have kk := k9.2 p e s m args below meth c H1 locs n0 m0 mc ms Q ls C hP1 (p_S.new S (by omega) oq) (by rw [e1]; omega) (by rw [e2]; omega) h3 h4 hl ol (p_ok2 (v := p_r _) trivial (p_okt os)) RT
  rw [List.map_cons, p_V_r (by omega), e1, e2] at kk
  have hz := R.1
  refine W.eq (g2 := F0 m (pc + 3) ls (Value.ref (K.1 + (p_N σ + 1)) :: st.map (p_V K))) ?_ (W.cs (by omega) (by omega) kk)
  rw [show K.1 + (p_N σ + 1) = H.size from by omega]
end NR
end
section
/-! ===== int[n][k] ===== -/
def p_nw2 (σ : p_Hp) (n k : Nat) : p_Hp := (σ.1 + 1 + n, σ.2.1 + n + n * k, fun b => if b ≤ σ.1 then σ.2.2.1 b else if b = σ.1 + 1 then 103 else 100, fun b => if b ≤ σ.1 then σ.2.2.2.1 b else if b = σ.1 + 1 then n else k, fun b j => if b ≤ σ.1 then σ.2.2.2.2.1 b j else 0, fun b j => if b ≤ σ.1 then σ.2.2.2.2.2 b j else if b = σ.1 + 1 ∧ j < n then σ.1 + 2 + j else 0)
/-! ===== System.arraycopy of ints ===== -/
def p_cp (σ : p_Hp) (s sp d dp n : Nat) : p_Hp := (σ.1, σ.2.1, σ.2.2.1, σ.2.2.2.1, fun b j => if b = d ∧ dp ≤ j ∧ j < dp + n then σ.2.2.2.2.1 s (sp + (j - dp)) else σ.2.2.2.2.1 b j, σ.2.2.2.2.2)
theorem p_P.cpy {K : p_K} {σ : p_Hp} {H H1 : Heap} {a b sp dp n : Nat} (hP : p_P K σ H) (ha : p_is σ a 100) (hb : p_is σ b 100) (h4 : sp + n ≤ p_L σ a) (h5 : dp + n ≤ p_L σ b)
    (e1 : H1[K.1 + b]? = some (arrV (K.2.2.2.1 0) (p_L σ b) (fun j => .int (va_cpy (fun j => Int32.ofInt (p_Z σ a j)) (fun j => Int32.ofInt (p_Z σ b j)) sp dp n j)))) (z : H1.size = H.size) (oq : ∀ x : Nat, x ≠ K.1 + b → H1[x]? = H[x]?) : p_P K (p_cp σ a sp b dp n) H1 := by
  have ho : ∀ c j, c ≠ b → p_Z (p_cp σ a sp b dp n) c j = p_Z σ c j ∧ p_R (p_cp σ a sp b dp n) c j = p_R σ c j := fun c j h => ⟨if_neg (fun w => h w.1), rfl⟩
  refine ⟨by rw [z]; exact hP.1, fun c cj r hc hr => ?_, fun c i ty hc hty => ?_⟩
  · have hcb : c ≠ b := fun w => by
      subst w
      have e : cj = 100 := hc.2.2.symm.trans hb.2.2
      have := p_cl_lt hr
      omega
    obtain ⟨g1, g2⟩ := hP.2.1 c cj r hc hr
    refine ⟨(g1.kept (oq _ (by omega))).to (fun j hj => (p_sl_eq (ho c j hcb).1 (ho c j hcb).2 _).symm), fun j hj => ?_⟩
    rw [(ho c j hcb).1]
    exact g2 j hj
  · obtain ⟨g1, g2, g3⟩ := hP.2.2 c i ty hc hty
    by_cases hcb : c = b
    · subst hcb
      have e : i = 0 := by
        have h : 100 + i = 100 := hc.2.2.symm.trans hb.2.2
        omega
      subst e
      cases hty
      obtain ⟨-, a2, -⟩ := hP.2.2 a 0 .int ha rfl
      refine ⟨?_, fun j hj => ?_, g3⟩
      · rw [e1]
        show some (arrV _ (p_L σ c) _) = some (arrV _ (p_L σ c) _)
        congr 2
        funext j
        show Value.int _ = Value.int (Int32.ofInt (if c = c ∧ dp ≤ j ∧ j < dp + n then p_Z σ a (sp + (j - dp)) else p_Z σ c j))
        unfold va_cpy
        by_cases hj : dp ≤ j ∧ j < dp + n
        · rw [if_pos hj, if_pos ⟨rfl, hj⟩]
        · rw [if_neg hj, if_neg (fun w => hj w.2)]
      · show p_c (if c = c ∧ dp ≤ j ∧ j < dp + n then p_Z σ a (sp + (j - dp)) else p_Z σ c j)
        split
        · rename_i w
          exact a2 _ (by omega)
        · exact g2 j hj
    · refine ⟨?_, fun j hj => ?_, g3⟩
      · rw [oq _ (by omega), g1]
        show some (arrV _ (p_L σ c) _) = some (arrV _ (p_L σ c) _)
        congr 2
        funext j
        exact (p_sl_eq (ho c j hcb).1 (ho c j hcb).2 _).symm
      · rw [(ho c j hcb).1]
        exact g2 j hj
section WC
variable {p : Program} {l : Launch} {e : Env} {R : Room} {s : State} {m : MethodId} {args : Array Value} {below : List Frame} {meth : Method} {c : Code} {H : Heap} {locs : List Loc} {cells slots : Nat} {Q : State → Prop}
variable {pc : Nat} {ls : Array Slot} {rest : List Value}
/-- arraycopy over ints, and that all other cells stay -/
theorem p_Wcpy {cc : ByteArray} (hexec : p.tables.exec = Jvm.exec) (hb : c.code = cc) (hml : c.maxLocals = ls.size) {own : String} {index : Nat} (hown : s.vm.findClass own = some m.cls) (hlink : (Cond.methodLink own index arraycopyName).before args s = true) (hnat : (Cond.native arraycopyName).before args s = true) (hstat : (Cond.static arraycopyName).before args s = true) (hini : (Cond.initialized "java/lang/System").before args s = true)
    {a0 a : Nat} {c0 : ClassId} {n0 n1 : Nat} {f g : Nat → Int32} (hAr : ArrOfT s c0 .int) (hc0 : H[a0]? = some (vp_cell c0 (n0, .inl f))) (hc1 : H[a]? = some (vp_cell c0 (n1, .inl g)))
    {sp dp n : Int32} (h1 : ¬ sp < 0) (h2 : ¬ dp < 0) (h3 : ¬ n < 0) (h4 : sp.toNatClampNeg + n.toNatClampNeg ≤ n0) (h5 : dp.toNatClampNeg + n.toNatClampNeg ≤ n1)
    (hframes : 1 ≤ R.frames) (hlocals : (rest.map fun v => v.category).sum + (nativeFrameWords "java/lang/System" "arraycopy" 5 + 11) ≤ R.locals) (hdg : decode cc pc = .ok (.invokestatic index, 3))
    (kk : ∀ (H1 : Heap) (locs1 : List Loc), H1[a]? = some (vp_cell c0 (n1, .inl (va_cpy f g sp.toNatClampNeg dp.toNatClampNeg n.toNatClampNeg))) → H1.size = H.size → (∀ q : Nat, q ≠ a → H1[q]? = H[q]?) → (∀ q ∈ locs1, q ∈ locs ∨ q.base = a) → W p l e R s m args below meth c H1 locs1 cells slots Q (F0 m (pc + 3) ls rest)) : W p l e R s m args below meth c H locs cells slots Q (F0 m pc ls (.int n :: .int dp :: .ref a :: .int sp :: .ref a0 :: rest)) := by
  have nn : ∀ z : Int32, ¬ z < 0 → z.toInt = (z.toNatClampNeg : Int) := by
    intro z hz
    have hz0 : (0 : Int) ≤ z.toInt := by
      have := Int32.not_lt.mp hz
      simpa using Int32.le_iff_toInt_le.mp this
    show z.toInt = ((z.toInt.toNat : Nat) : Int)
    omega
  intro T hT X
  obtain ⟨-, k0, hk0, cm0, hkk0⟩ := hAr n0 (fun j => .int (f j))
  obtain ⟨-, k1, hk1, cm1, hkk1⟩ := hAr n1 (fun j => .int (g j))
  obtain ⟨vm', X', step⟩ := X.arraycopy hexec hown hlink hnat hstat hini (src := a0) (dst := a) (cs := vp_cell c0 (n0, .inl f)) (cd := vp_cell c0 (n1, .inl g)) (srcPos := sp) (destPos := dp) (n := n) (by rw [hT]; exact hc0) (by rw [hT]; exact hc1)
    (fun _ h => by cases h) (fun _ h => by cases h) (fun h => by cases h) (fun h => by cases h) hk0 hk1 hkk0 hkk1 (by simp [refKind]) h1 h2 h3
    (by rw [nn sp h1, nn n h3]; show ¬ _ > ((arrV c0 n0 (fun j => .int (f j))).slots.size : Int); rw [arrV_size]; omega)
    (by rw [nn dp h2, nn n h3]; show ¬ _ > ((arrV c0 n1 (fun j => .int (g j))).slots.size : Int); rw [arrV_size]; omega)
    (fun vm₁ _ i hi => by
      have e : (vp_cell c0 (n0, .inl f)).slots.getD (sp.toNatClampNeg + i) .null = .int (f (sp.toNatClampNeg + i)) := by
        show (arrV c0 n0 (fun j => .int (f j))).slots.getD _ _ = _
        rw [Array.getD_eq_getD_getElem?, arrV_read _ _ (by omega)]
        rfl
      refine ⟨?_, ?_⟩
      · rw [e]
        rfl
      · rw [e]
        exact trivial)
    (g := F0 m pc ls (.int n :: .int dp :: .ref a :: .int sp :: .ref a0 :: rest)) rfl (by rw [hml]) (rest := rest) rfl (by rw [hb]; exact hdg) hframes (by show 2 * 0 + _ + _ ≤ _; omega)
  have e1 : copied (vp_cell c0 (n0, .inl f)) (vp_cell c0 (n1, .inl g)) sp dp n = vp_cell c0 (n1, .inl (va_cpy f g sp.toNatClampNeg dp.toNatClampNeg n.toNatClampNeg)) := va_copied (fun z => .int z) c0 c0 f g h4
  rw [e1] at X' step
  have hl : a < H.size := (Array.getElem?_eq_some_iff.mp hc1).1
  have hheap : ((T.setVm vm').setCell a (vp_cell c0 (n1, .inl (va_cpy f g sp.toNatClampNeg dp.toNatClampNeg n.toNatClampNeg)))).heap = H.setIfInBounds a (vp_cell c0 (n1, .inl (va_cpy f g sp.toNatClampNeg dp.toNatClampNeg n.toNatClampNeg))) := by rw [← hT]; rfl
  have oq : ∀ q : Nat, q ≠ a → (H.setIfInBounds a (vp_cell c0 (n1, .inl (va_cpy f g sp.toNatClampNeg dp.toNatClampNeg n.toNatClampNeg))))[q]? = H[q]? := fun q hq => by simp [Array.getElem?_setIfInBounds, Ne.symm hq]
  obtain ⟨t, a1, b1⟩ := kk _ _ (show (H.setIfInBounds a _)[a]? = some _ by simp [Array.getElem?_setIfInBounds, hl]) (by simp) oq (fun q hq => by
      rcases List.mem_append.mp hq with h | h
      · exact Or.inl h
      · obtain ⟨z, -, hz⟩ := List.mem_map.mp h
        exact Or.inr (by rw [← hz])) _ hheap X'
  exact ⟨t, step t a1, b1⟩
end WC
section CR
variable {K : p_K} {l : Launch} {M : p_Me} {pc : Nat} {lv : List (Nat × p_AV)} {st : List p_AV} {σ : p_Hp} {o : Option p_AV × p_Hp}
theorem g_arraycopy {a b idx : Nat} {x y n : Int} (hw : Cond.methodLink M.1.cls idx arraycopyName ∈ sw_gw) (hw2 : Cond.native arraycopyName ∈ sw_gw) (hw3 : Cond.static arraycopyName ∈ sw_gw) (hw4 : Cond.initialized "java/lang/System" ∈ sw_gw) (hd : decode M.2.1 pc = .ok (.invokestatic idx, 3)) (hfr : 1 ≤ M.2.2.2.2.1) (hlo : (st.map p_cat).sum + (nativeFrameWords "java/lang/System" "arraycopy" 5 + 11) ≤ M.2.2.2.2.2)
    (ha : p_is σ a 100) (hb : p_is σ b 100) (hx : 0 ≤ x) (hy : 0 ≤ y) (hn : 0 ≤ n) (h4 : x + n ≤ (p_L σ a : Int)) (h5 : y + n ≤ (p_L σ b : Int)) (k9 : p_Go K l M (pc + 3) lv st (p_cp σ a x.toNat b y.toNat n.toNat) o) : p_Go K l M pc lv (p_i n :: p_i y :: p_r b :: p_i x :: p_r a :: st) σ o := by
  refine ⟨k9.1, fun p e s m args below meth c H locs n0 m0 mc ms Q ls C R S g1 g2 g3 g4 hl ol os RT => ?_⟩
  have hts := p_hts C.2.2.2.2.2.1
  have E := C.2.2.2.2.2.2.2.2
  obtain ⟨a1, a2, a3⟩ := R.2.2 a 0 .int ha rfl
  obtain ⟨b1, b2, b3⟩ := R.2.2 b 0 .int hb rfl
  have en := p_nat (n := 1000001) hn (by omega) (by omega)
  have ex := p_nat (n := 1000001) hx (by omega) (by omega)
  have ey := p_nat (n := 1000001) hy (by omega) (by omega)
  have cn : p_c n := ⟨by omega, by omega⟩
  have cx : p_c x := ⟨by omega, by omega⟩
  have cy : p_c y := ⟨by omega, by omega⟩
  have hC0 : H[K.1 + a]? = some (vp_cell (K.2.2.2.1 0) (p_L σ a, .inl (fun j => Int32.ofInt (p_Z σ a j)))) := a1
  have hC1 : H[K.1 + b]? = some (vp_cell (K.2.2.2.1 0) (p_L σ b, .inl (fun j => Int32.ofInt (p_Z σ b j)))) := b1
  have hcat : (st.map (p_V K)).map (fun v => v.category) = st.map p_cat := by
    rw [List.map_map]
    apply List.map_congr_left
    intro v _
    exact p_V_cat K v
  show W p l e (p_rm M mc ms) s m args below meth c H locs _ _ Q (F0 m pc ls (p_V K (p_i n) :: p_V K (p_i y) :: p_V K (p_r b) :: p_V K (p_i x) :: p_V K (p_r a) :: st.map (p_V K)))
  rw [p_V_r ha.1, p_V_r hb.1]
  refine p_Wcpy C.1 C.2.1 (C.2.2.1.trans hl.1.symm) C.2.2.2.2.1 (hts _ hw) (hts _ hw2) (hts _ hw3) (hts _ hw4) (E.2.1 0 .int rfl).1 hC0 hC1 (by rw [p_lt0 cx]; omega) (by rw [p_lt0 cy]; omega) (by rw [p_lt0 cn]; omega) (by rw [ex, en]; omega) (by rw [ey, en]; omega) hfr (by rw [hcat]; exact hlo) hd (fun H1 locs1 e1 z oq hlo1 => ?_)
  rw [ex, ey, en] at e1
  refine k9.2 p e s m args below meth c H1 locs1 n0 m0 mc ms Q ls C (R.cpy ha hb (by omega) (by omega) e1 z oq) ⟨by rw [z]; exact S.1, fun q w1 w2 => ?_, fun q hq => ?_⟩ g1 g2 g3 g4 hl ol (p_okt (p_okt (p_okt (p_okt (p_okt os))))) RT
  · rw [oq q (fun w => w2 (by rw [w]; exact (show K.1 < K.1 + b by have := hb.1; omega)))]
    exact S.2.1 q w1 w2
  · rcases hlo1 q hq with w | w
    · exact S.2.2 q w
    · rw [w]
      exact (show K.1 < K.1 + b by have := hb.1; omega)
end CR
end
section
/-! ===== a method's contract ===== -/
def p_Pc (K : p_K) (av : List p_AV) (σ : p_Hp) : Array Value → State → Prop := va_Pc (av.map (p_V K)) (fun U => p_E K U U.heap ∧ p_P K σ U.heap)
def p_Qc (K : p_K) (ret : Option FieldType) (o : Option p_AV × p_Hp) : Array Value → State → Outcome → State → Prop := fun _ st oc t => oc = .returned (o.1.map (p_V K)) ∧ p_rk ret o.1 ∧ p_P K o.2 t.heap ∧ va_F (p_A K) st t
def p_Ct (K : p_K) (l : Launch) (M : p_Me) (av : List p_AV) (σ : p_Hp) (o : Option p_AV × p_Hp) : Prop := p_x σ o.2 ∧ ∀ mc ms : Nat, p_N o.2 ≤ p_N σ + mc → p_M o.2 ≤ p_M σ + ms → (∀ v ∈ av, p_ok v) → Met l M.1 (p_ws M) (p_rm M mc ms) (p_Pc K av σ) (p_Qc K M.2.2.2.1 o) mc ms (p_A K)
def p_lv : Nat → List p_AV → List (Nat × p_AV)
  | _, [] => []
  | i, v :: vs => (i, v) :: p_lv (if p_cat v = 2 then i + 2 else i + 1) vs
theorem p_lv_eq (K : p_K) : ∀ (av : List p_AV) (i : Nat), lv_args i (av.map (p_V K)) = (p_lv i av).map (p_q K)
  | [], _ => rfl
  | v :: vs, i => by
    show (i, p_V K v) :: lv_args (if (p_V K v).category = 2 then i + 2 else i + 1) (vs.map (p_V K)) = (i, p_V K v) :: (p_lv (if p_cat v = 2 then i + 2 else i + 1) vs).map (p_q K)
    rw [p_V_cat, p_lv_eq K vs]
theorem p_lv_ok : ∀ (av : List p_AV) (i : Nat), (∀ v ∈ av, p_ok v) → ∀ q ∈ p_lv i av, p_ok q.2
  | [], _, _, q, h => by cases h
  | v :: vs, i, ho, q, h => by
    rcases List.mem_cons.mp h with w | w
    · rw [w]
      exact ho v List.mem_cons_self
    · exact p_lv_ok vs _ (fun x hx => ho x (List.mem_cons_of_mem _ hx)) q w
theorem p_sl_len (K : p_K) : ∀ av : List p_AV, (lg_sl (av.map (p_V K))).length = (av.map p_cat).sum
  | [] => rfl
  | v :: vs => by
    have ih := p_sl_len K vs
    unfold lg_sl at ih ⊢
    rw [List.map_cons, List.flatMap_cons, List.length_append, ih, List.map_cons, List.sum_cons, p_V_cat]
    rcases v with x | x | x | x <;> rfl
theorem p_Rt_MQ {K : p_K} {l : Launch} {M : p_Me} {o : Option p_AV × p_Hp} {p : Program} {e : Env} {s : State} {m : MethodId} {args : Array Value} {below : List Frame} {meth : Method} {c : Code} {mc ms : Nat} (C : p_Cx K M p s m args meth c) : p_Rt K l M o p e s m args below meth c mc ms (MQ below (p_Qc K M.2.2.2.1 o) args s mc ms (p_A K)) := by
  intro H locs pc ls R S hk hd
  have hlocks := C.2.2.2.2.2.2.1
  have hr := C.2.2.2.1
  have hq : ∀ t : State, t.heap = H → s.WarmedH t.vm → p_Qc K M.2.2.2.1 o args s (.returned (o.1.map (p_V K))) t := fun t ht _ => ⟨rfl, hk, by rw [ht]; exact R, S.F ht⟩
  obtain ⟨v, σ⟩ := o
  cases hret : M.2.2.2.1 with
  | none =>
    rw [hret] at hk hd hq hr
    have hk : v = none := hk
    subst hk
    exact W.vret C.1 C.2.1 hr hq S.2.2 hd (hlocks := hlocks)
  | some ty =>
    rw [hret] at hk hd hq hr
    cases ty with
    | int =>
      obtain ⟨x, hv, -⟩ := hk
      dsimp only at hv
      subst hv
      exact W.iret C.1 C.2.1 hr hq S.2.2 hd (hlocks := hlocks)
    | boolean =>
      obtain ⟨x, hv, hx⟩ := hk
      dsimp only at hv
      subst hv
      exact W.zret C.1 C.2.1 hr (by rcases hx with rfl | rfl <;> rfl) hq S.2.2 hd (hlocks := hlocks)
    | long =>
      obtain ⟨x, hv, -⟩ := hk
      dsimp only at hv
      subst hv
      exact W.lret C.1 C.2.1 hr hq S.2.2 hd (hlocks := hlocks)
    | object D =>
      obtain ⟨x, hv⟩ := hk
      dsimp only at hv
      subst hv
      exact W.aret C.1 C.2.1 hr (Or.inl ⟨_, rfl⟩) (by show p_V K (p_r x) = .null ∨ _; show va_rf (p_rO K.1 x) = .null ∨ ∃ a, va_rf (p_rO K.1 x) = .ref a; cases p_rO K.1 x with | none => exact Or.inl rfl | some a => exact Or.inr ⟨a, rfl⟩) hq S.2.2 hd (hlocks := hlocks)
    | array D =>
      obtain ⟨x, hv⟩ := hk
      dsimp only at hv
      subst hv
      exact W.aret C.1 C.2.1 hr (Or.inr ⟨_, rfl⟩) (by show p_V K (p_r x) = .null ∨ _; show va_rf (p_rO K.1 x) = .null ∨ ∃ a, va_rf (p_rO K.1 x) = .ref a; cases p_rO K.1 x with | none => exact Or.inl rfl | some a => exact Or.inr ⟨a, rfl⟩) hq S.2.2 hd (hlocks := hlocks)
    | _ => exact hk.elim
theorem p_ofW {l : Launch} {y : MethodName} {ws ws' : List Cond} {rm : Room} {Pc : Array Value → State → Prop} {Qc : Array Value → State → Outcome → State → Prop} {mc ms : Nat} {free : Addr → Prop} {cc : ByteArray} {maxL : Nat} {ret : Option FieldType}
    (hy : plainFor y = true) (hw : ws = Cond.code y cc maxL ret :: ws')
    (body : ∀ p e s m args below meth c s₁, BodyLoose p l y (headSpec ws rm) cc maxL ret e s m args below meth c s₁ → c.maxLocals = maxL → Pc args s →
      W p l e (headSpec ws rm).room s m args below meth c s.heap [] 0 0 (MQ below Qc args s mc ms free) (entryFrame m args maxL)) : Met l y ws rm Pc Qc mc ms free := by
  refine MetFree.of_bodySF (code := cc) (maxLocals := maxL) (ret := ret) hy ?_ ?_
  · intro args s m h hn
    obtain ⟨meth, c, h1, h2, h3, h4, h5, h6, -, -⟩ := Cond.code_spec hn (atoms_spec (ws := ws) h _ (by rw [hw]; exact List.mem_cons_self))
    exact ⟨meth, c, h1, h2, h3, h4, h5, h6⟩
  · intro p e s m args below meth c s₁ B hml hP _
    have hh0 : s₁.heap = s.heap := by rw [B.state]; rfl
    obtain ⟨t, a1, o, b1, b2, b3⟩ := body p e s m args below meth c s₁ B hml hP s₁ hh0 (Stand.of_body B)
    exact ⟨t, o, a1, b1, b2, ⟨b3.1, b3.2⟩⟩
theorem p_Ct.of {K : p_K} {l : Launch} {M : p_Me} {av : List p_AV} {σ : p_Hp} {o : Option p_AV × p_Hp} (hpl : plainFor M.1 = true) (hsz : (av.map p_cat).sum ≤ M.2.2.1) (h : p_Go K l M 0 (p_lv 0 av) [] σ o) : p_Ct K l M av σ o := by
  refine ⟨h.1, fun mc ms hc hs ho => p_ofW (cc := M.2.1) (maxL := M.2.2.1) (ret := M.2.2.2.1) hpl rfl ?_⟩
  intro p e s m args below meth c s₁ B hml hv
  obtain ⟨rfl, hE, hP⟩ := hv
  have C : p_Cx K M p s m (av.map (p_V K)).toArray meth c := ⟨B.exec, B.bytes, hml, B.returns, findClass_of_methodNamed B.named, fun w hw => atoms_spec (ws := p_ws M) B.pre w (List.mem_cons_of_mem _ hw), B.notSynchronized, fun h => (name_of_methodNamed B.named B.method).1.trans h, hE⟩
  have hl := lv_entry (av.map (p_V K)) (n := M.2.2.1) (by rw [p_sl_len]; exact hsz)
  rw [lg_entry_eq]
  generalize (lg_sl (av.map (p_V K)) ++ List.replicate (M.2.2.1 - (lg_sl (av.map (p_V K))).length) Slot.unset).toArray = ls at hl ⊢
  rw [p_lv_eq] at hl
  have k := h.2 p e s m _ below meth c s.heap [] (p_N σ) (p_M σ) mc ms _ ls C hP va_S.rf (Nat.le_refl _) (Nat.le_refl _) hc hs hl (p_lv_ok av 0 ho) (fun v h => by cases h) (p_Rt_MQ C)
  rw [Nat.sub_self, Nat.sub_self] at k
  exact k
/-! ===== calls ===== -/
def p_Mt (M : p_Me) (n : Nat) : Prop := Cond.code M.1 M.2.1 M.2.2.1 M.2.2.2.1 ∈ sw_gw ∧ Cond.initialized M.1.cls ∈ sw_gw ∧ M.1.cls ≠ "java/lang/invoke/MethodHandle" ∧ M.1.cls ≠ "java/lang/invoke/VarHandle" ∧ (parseMethodDescriptor M.1.desc).map (fun d => d.parameters.length) = some n
def p_Rm (M M' : p_Me) : Prop := M'.2.2.2.2.1 + 1 ≤ M.2.2.2.2.1 ∧ 8 + (M'.2.2.1 + 11) + M'.2.2.2.2.2 ≤ M.2.2.2.2.2
theorem p_good {M' : p_Me} (h : Cond.code M'.1 M'.2.1 M'.2.2.1 M'.2.2.2.1 ∈ sw_gw) : GoodIn sw_gw (p_ws M') := by
  have hg : ∀ w ∈ sw_gw, w ∈ sw_gw ∧ ((w.onTables && w.keeps) = true ∨ ∃ ty, w = .arrayClass ty) := fun w hw => ⟨hw, good_of_word (List.mem_filter.mp hw).2⟩
  intro w hw
  rcases List.mem_cons.mp hw with e | hw
  · rw [e]
    exact hg _ h
  · exact hg w hw
theorem p_blind {K : p_K} {av : List p_AV} {σ : p_Hp} : FrameBlind (p_Pc K av σ) := fun a U g mk h => ⟨h.1, p_E.moved (s := U) (U := U.calling g mk a) (State.WarmedH.refl U) h.2.1, h.2.2⟩
section CL
variable {K : p_K} {l : Launch} {M M' : p_Me} {pc : Nat} {lv : List (Nat × p_AV)} {st : List p_AV} {σ : p_Hp} {o : Option p_AV × p_Hp}
theorem p_pre {p : Program} {s : State} {m : MethodId} {args : Array Value} {meth : Method} {c : Code} {H : Heap} {locs : List Loc} {av : List p_AV} (C : p_Cx K M p s m args meth c) (R : p_P K σ H) (S : va_S (p_A K) s.heap H locs) : ∀ U : State, U.heap = H → s.WarmedH U.vm → p_Pc K av σ (av.map (p_V K)).toArray U := fun U hU hW => ⟨rfl, by rw [hU]; exact (C.2.2.2.2.2.2.2.2.kept S.2.1).moved hW, by rw [hU]; exact R⟩
/-- behind a call -/
theorem p_aft {av rest st' : List p_AV} {q : Option p_AV × p_Hp} {p : Program} {e : Env} {s : State} {m : MethodId} {args : Array Value} {below : List Frame} {meth : Method} {c : Code} {H : Heap} {locs : List Loc} {n0 m0 mc ms : Nat} {Q : State → Prop} {ls : Array Slot} {st0 : List Value} (k9 : p_Go K l M (pc + 3) lv st' q.2 o) (he : q.1.toList ++ rest = st') (hmx : p_x σ q.2)
    (C : p_Cx K M p s m args meth c) (S : va_S (p_A K) s.heap H locs) (h1 : n0 ≤ p_N σ) (h2 : m0 ≤ p_M σ) (h3 : p_N o.2 ≤ n0 + mc) (h4 : p_M o.2 ≤ m0 + ms) (hl : lv_has ls M.2.2.1 (lv.map (p_q K))) (ol : ∀ q ∈ lv, p_ok q.2) (os : ∀ v ∈ rest, p_ok v) (RT : p_Rt K l M o p e s m args below meth c mc ms Q)
    (hr : va_Run p l e (p_rm M mc ms) s m args below meth c H locs (p_N σ - n0) (p_M σ - m0) (p_N q.2 - p_N σ) (p_M q.2 - p_M σ) (F0 m pc ls st0) (rest.map (p_V K)) (p_Qc K M'.2.2.2.1 q (av.map (p_V K)).toArray) (p_A K)) :
    W p l e (p_rm M mc ms) s m args below meth c H locs (p_N σ - n0) (p_M σ - m0) Q (F0 m pc ls st0) := by
  have hmo : p_N σ ≤ p_N q.2 ∧ p_M σ ≤ p_M q.2 := ⟨hmx.1, hmx.2.1⟩
  intro T hT X
  obtain ⟨v, st₀, t, T', L, h0, X', hL, e1, e2, ⟨hv, hk, hP1, hz, hkp⟩, stp⟩ := hr T hT X
  cases hv
  rw [h0] at hz hkp
  have hok : ∀ v ∈ st', p_ok v := by
    rw [← he]
    intro v hv
    rcases List.mem_append.mp hv with w | w
    · obtain ⟨v9, σ9⟩ := q
      cases v9 with
      | none => cases w
      | some v9 =>
        have w : v = v9 := by simpa using w
        subst w
        cases hret : M'.2.2.2.1 with
        | none => rw [hret] at hk; cases hk
        | some ty =>
          rw [hret] at hk
          cases ty with
          | int => obtain ⟨x, hx, hc⟩ := hk; cases hx; exact hc
          | boolean => obtain ⟨x, hx, hc⟩ := hk; cases hx; show p_c x; rcases hc with w | w <;> rw [w] <;> decide
          | long => obtain ⟨x, hx, hc⟩ := hk; cases hx; exact hc
          | object D => obtain ⟨x, hx⟩ := hk; cases hx; trivial
          | array D => obtain ⟨x, hx⟩ := hk; cases hx; trivial
          | _ => exact hk.elim
    · exact os v w
  have hS1 : va_S (p_A K) s.heap T'.heap (locs ++ L) := ⟨Nat.le_trans S.1 (by rw [e1]; exact hz), fun q g1 g2 => by rw [e1, hkp q (Nat.lt_of_lt_of_le g1 S.1) g2]; exact S.2.1 q g1 g2, fun q hq => by
    rcases List.mem_append.mp hq with w | w
    · exact S.2.2 q w
    · exact hL q w⟩
  have kk := k9.2 p e s m args below meth c T'.heap (locs ++ L) n0 m0 mc ms Q ls C (by rw [e1]; exact hP1) hS1 (by omega) (by omega) h3 h4 hl ol hok RT
  have he2 : st'.map (p_V K) = (q.1.map (p_V K)).toList ++ rest.map (p_V K) := by
    rw [← he, List.map_append]
    congr 1
    cases q.1 <;> rfl
  rw [he2] at kk
  obtain ⟨t2, a1, b1⟩ := (W.cs (by omega) (by omega) kk : W p l e (p_rm M mc ms) s m args below meth c T'.heap (locs ++ L) (p_N σ - n0 + (p_N q.2 - p_N σ)) (p_M σ - m0 + (p_M q.2 - p_M σ)) Q _) T' rfl X'
  exact ⟨t2, stp t2 a1, b1⟩
theorem p_cats (K : p_K) (rest : List p_AV) : ((rest.map (p_V K)).map fun v => v.category) = rest.map p_cat := by
  rw [List.map_map]
  exact List.map_congr_left (fun v _ => p_V_cat K v)
theorem p_rmL {rest : List p_AV} {m : MethodId} {ls : Array Slot} {st0 : List Value} (h : (rest.map p_cat).sum ≤ 8) : 2 * (F0 m pc ls st0).monitorRoom + ((rest.map (p_V K)).map fun v => v.category).sum ≤ 8 := by
  refine lv_room ?_
  rw [p_cats]
  exact h
theorem g_callS {n idx : Nat} {av rest : List p_AV} {q : Option p_AV × p_Hp} (st' : List p_AV) (hm : p_Mt M' n) (hst : Cond.static M'.1 ∈ sw_gw) (hw : Cond.methodLink M.1.cls idx M'.1 ∈ sw_gw) (hR : p_Rm M M') (hn : av.length = n) (hsp : (rest.map p_cat).sum ≤ 8) (hd : decode M.2.1 pc = .ok (.invokestatic idx, 3)) (he : av.reverse ++ rest = st) (hq : q.1.toList ++ rest = st') (hc : p_Ct K l M' av σ q) (k9 : p_Go K l M (pc + 3) lv st' q.2 o) : p_Go K l M pc lv st σ o := by
  subst he
  refine ⟨hc.1.trans k9.1, fun p e s m args below meth c H locs n0 m0 mc ms Q ls C R S h1 h2 h3 h4 hl ol os RT => ?_⟩
  have hts := p_hts C.2.2.2.2.2.1
  have hkm : p_N q.2 ≤ p_N o.2 ∧ p_M q.2 ≤ p_M o.2 := ⟨k9.1.1, k9.1.2.1⟩
  have hcm : p_N σ ≤ p_N q.2 ∧ p_M σ ≤ p_M q.2 := ⟨hc.1.1, hc.1.2.1⟩
  obtain ⟨m1, m2, m3, m4, m5⟩ := hm
  have hM := hc.2 (p_N q.2 - p_N σ) (p_M q.2 - p_M σ) (by omega) (by omega) (fun v hv => os v (List.mem_append_left _ (List.mem_reverse.mpr hv)))
  refine p_aft (M' := M') (av := av) k9 hq hc.1 C S h1 h2 h3 h4 hl ol (fun v hv => os v (List.mem_append_right _ hv)) RT ?_
  exact va_runS (n := n) ⟨C.1, C.2.1, C.2.2.1, C.2.2.2.2.1, C.2.2.2.2.2.1⟩ hM ⟨callB_of n C.2.2.2.2.2.1 (p_good m1) rfl rfl rfl (hts _ m2) (hts _ hw) ⟨m3, m4, m5⟩ hR, hts _ hst⟩ ⟨p_blind, p_pre C R S⟩ rfl (by rw [List.length_map]; exact hn) hl.1 (by show (av.reverse ++ rest).map (p_V K) = _; rw [List.map_append, List.map_reverse]) (p_rmL hsp) hd ⟨by show p_N σ - n0 + (p_N q.2 - p_N σ) ≤ mc; omega, by show p_M σ - m0 + (p_M q.2 - p_M σ) ≤ ms; omega⟩
theorem g_callSN {n idx : Nat} {av rest : List p_AV} {q : Option p_AV × p_Hp} (st' : List p_AV) (hm : p_Mt M' n) (hst : Cond.static M'.1 ∈ sw_gw) {host : String} (hw : (M.1.cls, idx, M'.1, host) ∈ sw_nm) (hR : p_Rm M M') (hn : av.length = n) (hsp : (rest.map p_cat).sum ≤ 8) (hd : decode M.2.1 pc = .ok (.invokestatic idx, 3)) (he : av.reverse ++ rest = st) (hq : q.1.toList ++ rest = st') (hc : p_Ct K l M' av σ q) (k9 : p_Go K l M (pc + 3) lv st' q.2 o) : p_Go K l M pc lv st σ o := by
  subst he
  refine ⟨hc.1.trans k9.1, fun p e s m args below meth c H locs n0 m0 mc ms Q ls C R S h1 h2 h3 h4 hl ol os RT => ?_⟩
  have hts := p_hts C.2.2.2.2.2.1
  have hkm : p_N q.2 ≤ p_N o.2 ∧ p_M q.2 ≤ p_M o.2 := ⟨k9.1.1, k9.1.2.1⟩
  have hcm : p_N σ ≤ p_N q.2 ∧ p_M σ ≤ p_M q.2 := ⟨hc.1.1, hc.1.2.1⟩
  obtain ⟨m1, m2, m3, m4, m5⟩ := hm
  have hM := hc.2 (p_N q.2 - p_N σ) (p_M q.2 - p_M σ) (by omega) (by omega) (fun v hv => os v (List.mem_append_left _ (List.mem_reverse.mpr hv)))
  refine p_aft (M' := M') (av := av) k9 hq hc.1 C S h1 h2 h3 h4 hl ol (fun v hv => os v (List.mem_append_right _ hv)) RT ?_
  exact va_runSN (n := n) ⟨C.1, C.2.1, C.2.2.1, C.2.2.2.2.1, C.2.2.2.2.2.1⟩ hM ⟨va_cnB n C.2.2.2.2.2.1 (p_good m1) rfl rfl rfl (C.2.2.2.2.2.2.2.2.2.2.2.1 _ hw) (hts _ m2) ⟨m3, m4, m5⟩ hR, hts _ hst, trivial⟩ ⟨p_blind, p_pre C R S⟩ rfl (by rw [List.length_map]; exact hn) hl.1 (by show (av.reverse ++ rest).map (p_V K) = _; rw [List.map_append, List.map_reverse]) (p_rmL hsp) hd ⟨by show p_N σ - n0 + (p_N q.2 - p_N σ) ≤ mc; omega, by show p_M σ - m0 + (p_M q.2 - p_M σ) ≤ ms; omega⟩
theorem g_callV {n idx a ci : Nat} {q0 : vw_C} {As rest : List p_AV} {q : Option p_AV × p_Hp} (st' : List p_AV) (hm : p_Mt M' n) (hcl : sw_cl[ci]? = some q0) (hcn : q0.1 = M'.1.cls) (hin : Cond.instanceMethod M'.1 ∈ sw_gw) (hse : Cond.selects M'.1.cls M'.1 M'.1 ∈ sw_gw) (hw : Cond.methodLink M.1.cls idx M'.1 ∈ sw_gw) (hR : p_Rm M M') (hn : As.length = n) (hsp : (rest.map p_cat).sum ≤ 8) (hd : decode M.2.1 pc = .ok (.invokevirtual idx, 3)) (he : As.reverse ++ p_r a :: rest = st) (hi : p_is σ a ci) (hq : q.1.toList ++ rest = st') (hc : p_Ct K l M' (p_r a :: As) σ q) (k9 : p_Go K l M (pc + 3) lv st' q.2 o) : p_Go K l M pc lv st σ o := by
  subst he
  refine ⟨hc.1.trans k9.1, fun p e s m args below meth c H locs n0 m0 mc ms Q ls C R S h1 h2 h3 h4 hl ol os RT => ?_⟩
  have hts := p_hts C.2.2.2.2.2.1
  have hkm : p_N q.2 ≤ p_N o.2 ∧ p_M q.2 ≤ p_M o.2 := ⟨k9.1.1, k9.1.2.1⟩
  have hcm : p_N σ ≤ p_N q.2 ∧ p_M σ ≤ p_M q.2 := ⟨hc.1.1, hc.1.2.1⟩
  obtain ⟨m1, m2, m3, m4, m5⟩ := hm
  have hM := hc.2 (p_N q.2 - p_N σ) (p_M q.2 - p_M σ) (by omega) (by omega) (fun v hv => os v (by
    rcases List.mem_cons.mp hv with w | w
    · rw [w]; exact List.mem_append_right _ List.mem_cons_self
    · exact List.mem_append_left _ (List.mem_reverse.mpr w)))
  refine p_aft (M' := M') (av := p_r a :: As) k9 hq hc.1 C S h1 h2 h3 h4 hl ol (fun v hv => os v (List.mem_append_right _ (List.mem_cons_of_mem _ hv))) RT ?_
  obtain ⟨⟨cell, v1, v2, v3, -⟩, -⟩ := R.2.1 a ci q0 hi hcl
  have hpre := p_pre (av := p_r a :: As) C R S
  rw [List.map_cons, p_V_r hi.1] at hpre ⊢
  exact va_runV (n := n) (C := M'.1.cls) ⟨C.1, C.2.1, C.2.2.1, C.2.2.2.2.1, C.2.2.2.2.2.1⟩ hM ⟨callB_of n C.2.2.2.2.2.1 (p_good m1) rfl rfl rfl (hts _ m2) (hts _ hw) ⟨m3, m4, m5⟩ hR, hts _ hin, hts _ hse⟩ ⟨p_blind, ⟨cell, v1, by rw [v3]; rfl, by rw [v2, ← hcn]; exact (C.2.2.2.2.2.2.2.2.1 ci q0 hcl).2.1⟩, hpre⟩ rfl (by rw [List.length_map]; exact hn) hl.1 (by show (As.reverse ++ p_r a :: rest).map (p_V K) = _; rw [List.map_append, List.map_reverse, List.map_cons, p_V_r hi.1]) (p_rmL hsp) hd ⟨by show p_N σ - n0 + (p_N q.2 - p_N σ) ≤ mc; omega, by show p_M σ - m0 + (p_M q.2 - p_M σ) ≤ ms; omega⟩
theorem g_callI {n idx a : Nat} {As rest : List p_AV} {q : Option p_AV × p_Hp} (st' : List p_AV) (hm : p_Mt M' n) (hin : Cond.instanceMethod M'.1 ∈ sw_gw) (hw : Cond.methodLink M.1.cls idx M'.1 ∈ sw_gw) (hnm : M'.1.name = "<init>") (hrt : M'.2.2.2.1 = none) (hR : p_Rm M M') (hn : As.length = n) (hsp : (rest.map p_cat).sum ≤ 8) (hd : decode M.2.1 pc = .ok (.invokespecial idx, 3)) (he : As.reverse ++ p_r a :: rest = st) (ha : 1 ≤ a) (hq : q.1.toList ++ rest = st') (hc : p_Ct K l M' (p_r a :: As) σ q) (k9 : p_Go K l M (pc + 3) lv st' q.2 o) : p_Go K l M pc lv st σ o := by
  subst he
  refine ⟨hc.1.trans k9.1, fun p e s m args below meth c H locs n0 m0 mc ms Q ls C R S h1 h2 h3 h4 hl ol os RT => ?_⟩
  have hts := p_hts C.2.2.2.2.2.1
  have hkm : p_N q.2 ≤ p_N o.2 ∧ p_M q.2 ≤ p_M o.2 := ⟨k9.1.1, k9.1.2.1⟩
  have hcm : p_N σ ≤ p_N q.2 ∧ p_M σ ≤ p_M q.2 := ⟨hc.1.1, hc.1.2.1⟩
  obtain ⟨m1, m2, m3, m4, m5⟩ := hm
  have hM := hc.2 (p_N q.2 - p_N σ) (p_M q.2 - p_M σ) (by omega) (by omega) (fun v hv => os v (by
    rcases List.mem_cons.mp hv with w | w
    · rw [w]; exact List.mem_append_right _ List.mem_cons_self
    · exact List.mem_append_left _ (List.mem_reverse.mpr w)))
  refine p_aft (M' := M') (av := p_r a :: As) k9 hq hc.1 C S h1 h2 h3 h4 hl ol (fun v hv => os v (List.mem_append_right _ (List.mem_cons_of_mem _ hv))) RT ?_
  have hpre := p_pre (av := p_r a :: As) C R S
  rw [List.map_cons, p_V_r ha] at hpre ⊢
  have hcode : p_ws M' = Cond.code M'.1 M'.2.1 M'.2.2.1 none :: sw_gw := by unfold p_ws; rw [hrt]
  exact va_runI (n := n) ⟨C.1, C.2.1, C.2.2.1, C.2.2.2.2.1, C.2.2.2.2.2.1⟩ hM ⟨callB_of n C.2.2.2.2.2.1 (p_good m1) hcode rfl rfl (hts _ m2) (hts _ hw) ⟨m3, m4, m5⟩ hR, hnm, hts _ hin⟩ ⟨p_blind, hpre⟩ rfl (by rw [List.length_map]; exact hn) hl.1 (by show (As.reverse ++ p_r a :: rest).map (p_V K) = _; rw [List.map_append, List.map_reverse, List.map_cons, p_V_r ha]) (p_rmL hsp) hd ⟨by show p_N σ - n0 + (p_N q.2 - p_N σ) ≤ mc; omega, by show p_M σ - m0 + (p_M q.2 - p_M σ) ≤ ms; omega⟩
theorem g_callIN {n idx a : Nat} {As rest : List p_AV} {q : Option p_AV × p_Hp} (st' : List p_AV) (hm : p_Mt M' n) (hin : Cond.instanceMethod M'.1 ∈ sw_gw) {host : String} (hw : (M.1.cls, idx, M'.1, host) ∈ sw_nm) (hnm : M'.1.name = "<init>") (hrt : M'.2.2.2.1 = none) (hR : p_Rm M M') (hn : As.length = n) (hsp : (rest.map p_cat).sum ≤ 8) (hd : decode M.2.1 pc = .ok (.invokespecial idx, 3)) (he : As.reverse ++ p_r a :: rest = st) (ha : 1 ≤ a) (hq : q.1.toList ++ rest = st') (hc : p_Ct K l M' (p_r a :: As) σ q) (k9 : p_Go K l M (pc + 3) lv st' q.2 o) : p_Go K l M pc lv st σ o := by
  subst he
  refine ⟨hc.1.trans k9.1, fun p e s m args below meth c H locs n0 m0 mc ms Q ls C R S h1 h2 h3 h4 hl ol os RT => ?_⟩
  have hts := p_hts C.2.2.2.2.2.1
  have hkm : p_N q.2 ≤ p_N o.2 ∧ p_M q.2 ≤ p_M o.2 := ⟨k9.1.1, k9.1.2.1⟩
  have hcm : p_N σ ≤ p_N q.2 ∧ p_M σ ≤ p_M q.2 := ⟨hc.1.1, hc.1.2.1⟩
  obtain ⟨m1, m2, m3, m4, m5⟩ := hm
  have hM := hc.2 (p_N q.2 - p_N σ) (p_M q.2 - p_M σ) (by omega) (by omega) (fun v hv => os v (by
    rcases List.mem_cons.mp hv with w | w
    · rw [w]; exact List.mem_append_right _ List.mem_cons_self
    · exact List.mem_append_left _ (List.mem_reverse.mpr w)))
  refine p_aft (M' := M') (av := p_r a :: As) k9 hq hc.1 C S h1 h2 h3 h4 hl ol (fun v hv => os v (List.mem_append_right _ (List.mem_cons_of_mem _ hv))) RT ?_
  have hpre := p_pre (av := p_r a :: As) C R S
  rw [List.map_cons, p_V_r ha] at hpre ⊢
  have hcode : p_ws M' = Cond.code M'.1 M'.2.1 M'.2.2.1 none :: sw_gw := by unfold p_ws; rw [hrt]
  exact va_runIN (n := n) ⟨C.1, C.2.1, C.2.2.1, C.2.2.2.2.1, C.2.2.2.2.2.1⟩ hM ⟨va_cnB n C.2.2.2.2.2.1 (p_good m1) hcode rfl rfl (C.2.2.2.2.2.2.2.2.2.2.2.1 _ hw) (hts _ m2) ⟨m3, m4, m5⟩ hR, hnm, hts _ hin⟩ ⟨p_blind, hpre⟩ rfl (by rw [List.length_map]; exact hn) hl.1 (by show (As.reverse ++ p_r a :: rest).map (p_V K) = _; rw [List.map_append, List.map_reverse, List.map_cons, p_V_r ha]) (p_rmL hsp) hd ⟨by show p_N σ - n0 + (p_N q.2 - p_N σ) ≤ mc; omega, by show p_M σ - m0 + (p_M q.2 - p_M σ) ≤ ms; omega⟩
theorem g_objInit {a idx : Nat} (hw : Cond.methodLink M.1.cls idx objectInit ∈ sw_gw) (hw2 : Cond.instanceMethod objectInit ∈ sw_gw) (hw3 : Cond.code objectInit ⟨#[0xb1]⟩ 1 none ∈ sw_gw) (hd : decode M.2.1 pc = .ok (.invokespecial idx, 3)) (h1 : 1 ≤ M.2.2.2.2.1) (h2 : (st.map p_cat).sum + 12 ≤ M.2.2.2.2.2) (ha : 1 ≤ a) (k9 : p_Go K l M (pc + 3) lv st σ o) : p_Go K l M pc lv (p_r a :: st) σ o := by
  refine ⟨k9.1, fun p e s m args below meth c H locs n0 m0 mc ms Q ls C R S g1 g2 g3 g4 hl ol os RT => ?_⟩
  have hts := p_hts C.2.2.2.2.2.1
  show W p l e (p_rm M mc ms) s m args below meth c H locs _ _ Q (F0 m pc ls (p_V K (p_r a) :: st.map (p_V K)))
  rw [p_V_r ha]
  refine W.objInit C.1 C.2.1 C.2.2.2.2.1 (hts _ hw) (hts _ hw2) (hts _ hw3) rfl (by rw [C.2.2.1]; exact hl.1) rfl hd h1 ?_ (k9.2 p e s m args below meth c H locs n0 m0 mc ms Q ls C R S g1 g2 g3 g4 hl ol (p_okt os) RT)
  show 2 * 0 + _ + 12 ≤ M.2.2.2.2.2
  rw [p_cats]
  omega
end CL
end
section
/-! ===== int[].clone(), checkcast of an int[], the script among the locals ===== -/
def p_cl (σ : p_Hp) (a : Nat) : p_Hp := (σ.1 + 1, σ.2.1 + σ.2.2.2.1 a, fun b => if b = σ.1 + 1 then 100 else σ.2.2.1 b, fun b => if b = σ.1 + 1 then σ.2.2.2.1 a else σ.2.2.2.1 b, fun b j => if b = σ.1 + 1 then σ.2.2.2.2.1 a j else σ.2.2.2.2.1 b j, fun b j => if b = σ.1 + 1 then 0 else σ.2.2.2.2.2 b j)
theorem p_x_cl (σ : p_Hp) (a : Nat) : p_x σ (p_cl σ a) := ⟨Nat.le_succ _, Nat.le_add_right _ _, fun b hb => by
  have h : b ≠ σ.1 + 1 := by have : b ≤ σ.1 := hb; omega
  exact ⟨if_neg h, if_neg h⟩⟩
theorem p_P.clone {K : p_K} {σ : p_Hp} {H H1 : Heap} {a : Nat} (hP : p_P K σ H) (ha : p_is σ a 100) (z : H1.size = H.size + 1) (oq : ∀ x : Nat, x < H.size → H1[x]? = H[x]?)
    (e1 : H1[H.size]? = some (arrV (K.2.2.2.1 0) (p_L σ a) (fun j => p_sl K σ a .int j))) : p_P K (p_cl σ a) H1 := by
  have hsz := hP.1
  have eT : ∀ b, p_T (p_cl σ a) b = if b = p_N σ + 1 then 100 else p_T σ b := fun _ => rfl
  have eL : ∀ b, p_L (p_cl σ a) b = if b = p_N σ + 1 then p_L σ a else p_L σ b := fun _ => rfl
  have eZ : ∀ b j, p_Z (p_cl σ a) b j = if b = p_N σ + 1 then p_Z σ a j else p_Z σ b j := fun _ _ => rfl
  have eR : ∀ b j, p_R (p_cl σ a) b j = if b = p_N σ + 1 then 0 else p_R σ b j := fun _ _ => rfl
  obtain ⟨-, a2, a3⟩ := hP.2.2 a 0 .int ha rfl
  have old : ∀ b, b ≠ p_N σ + 1 → ∀ j, p_Z (p_cl σ a) b j = p_Z σ b j ∧ p_R (p_cl σ a) b j = p_R σ b j := fun b hb j => ⟨by rw [eZ, if_neg hb], by rw [eR, if_neg hb]⟩
  have up : ∀ b t, p_is (p_cl σ a) b t → b ≠ p_N σ + 1 → p_is σ b t := fun b t h hb => by
    have h2 : b ≤ p_N σ + 1 := h.2.1
    have h3 := h.2.2
    rw [eT, if_neg hb] at h3
    exact ⟨h.1, by omega, h3⟩
  refine ⟨by show H1.size = K.1 + (p_N σ + 1) + 1; omega, fun b cj r hb hr => ?_, fun b i ty hb hty => ?_⟩
  · have hbn : b ≠ p_N σ + 1 := fun w => by
      have h3 := hb.2.2
      rw [eT, if_pos w] at h3
      have := p_cl_lt hr
      omega
    have hb := up b cj hb hbn
    obtain ⟨g1, g2⟩ := hP.2.1 b cj r hb hr
    refine ⟨(g1.kept (oq _ (by have := hb.2.1; omega))).to (fun j hj => (p_sl_eq (old b hbn j).1 (old b hbn j).2 _).symm), fun j hj => ?_⟩
    rw [(old b hbn j).1]
    exact g2 j hj
  · by_cases hbn : b = p_N σ + 1
    · have h3 := hb.2.2
      rw [eT, if_pos hbn] at h3
      have e : i = 0 := by omega
      subst e
      cases hty
      rw [eL, if_pos hbn]
      refine ⟨?_, fun j hj => ?_, a3⟩
      · rw [show K.1 + b = H.size from by omega, e1]
        congr 2
        funext j
        show Value.int _ = Value.int (Int32.ofInt (p_Z (p_cl σ a) b j))
        rw [eZ, if_pos hbn]
      · rw [eZ, if_pos hbn]
        exact a2 j hj
    · have hb := up b _ hb hbn
      obtain ⟨g1, g2, g3⟩ := hP.2.2 b i ty hb hty
      rw [eL, if_neg hbn]
      refine ⟨?_, fun j hj => ?_, g3⟩
      · rw [oq _ (by have := hb.2.1; omega), g1]
        congr 2
        funext j
        exact (p_sl_eq (old b hbn j).1 (old b hbn j).2 _).symm
      · rw [(old b hbn j).1]
        exact g2 j hj
section MO
variable {K : p_K} {l : Launch} {M : p_Me} {pc : Nat} {lv : List (Nat × p_AV)} {st : List p_AV} {σ : p_Hp} {o : Option p_AV × p_Hp}
theorem g_clone {a idx : Nat} (hw : Cond.methodLink M.1.cls idx ⟨"[I", "clone", "()Ljava/lang/Object;"⟩ ∈ sw_gw) (hw1 : Cond.sameMethod "[I" "java/lang/Object" "clone" "()Ljava/lang/Object;" ∈ sw_gw) (hw2 : Cond.native ⟨"java/lang/Object", "clone", "()Ljava/lang/Object;"⟩ ∈ sw_gw) (hw3 : Cond.instanceMethod ⟨"java/lang/Object", "clone", "()Ljava/lang/Object;"⟩ ∈ sw_gw) (hw4 : Cond.selects "[I" ⟨"[I", "clone", "()Ljava/lang/Object;"⟩ ⟨"java/lang/Object", "clone", "()Ljava/lang/Object;"⟩ ∈ sw_gw)
    (hd : decode M.2.1 pc = .ok (.invokevirtual idx, 3)) (hfr : 1 ≤ M.2.2.2.2.1) (hlo : (st.map p_cat).sum + 14 ≤ M.2.2.2.2.2) (hi : p_is σ a 100) (k9 : p_Go K l M (pc + 3) lv (p_r (p_N σ + 1) :: st) (p_cl σ a) o) : p_Go K l M pc lv (p_r a :: st) σ o := by
  have e1 : p_N (p_cl σ a) = p_N σ + 1 := rfl
  have e2 : p_M (p_cl σ a) = p_M σ + p_L σ a := rfl
  have kn : p_N σ + 1 ≤ p_N o.2 ∧ p_M σ + p_L σ a ≤ p_M o.2 := ⟨k9.1.1, k9.1.2.1⟩
  refine ⟨(p_x_cl _ _).trans k9.1, fun p e s m args below meth c H locs n0 m0 mc ms Q ls C R S h1 h2 h3 h4 hl ol os RT => ?_⟩
  have hts := p_hts C.2.2.2.2.2.1
  have E := C.2.2.2.2.2.2.2.2
  obtain ⟨a1, a2, a3⟩ := R.2.2 a 0 .int hi rfl
  have hnm : s.vm.findClass "[I" = some (K.2.2.2.1 0) := (E.2.1 0 _ rfl).2
  obtain ⟨c0, t0', f1, f2, f3⟩ := Cond.castable_spec (va_Nw.use (A := args) rfl E.2.2.2.2.2.2.2.2.2.2)
  cases hnm.symm.trans f1
  show W p l e (p_rm M mc ms) s m args below meth c H locs _ _ Q (F0 m pc ls (p_V K (p_r a) :: st.map (p_V K)))
  rw [p_V_r hi.1]
  intro T hT X
  have hcellT : T.heap[K.1 + a]? = some (arrV (K.2.2.2.1 0) (p_L σ a) (fun j => p_sl K σ a .int j)) := by rw [hT]; exact a1
  obtain ⟨-, kA, hkA, comp, hkind⟩ := State.isArrayOf_alike X.warmed.alike ((E.2.1 0 _ rfl).1 0 (fun _ => .null))
  obtain ⟨-, kS, hkS, compS, hkindS⟩ := (E.2.1 0 _ rfl).1 0 (fun _ => .null)
  obtain ⟨vm', X', stp⟩ := X.cloneArray C.1 C.2.2.2.2.1 (hts _ hw) (hts _ hw1) (hts _ hw2) (hts _ hw3) (hts _ hw4) (a := K.1 + a) (cell := arrV (K.2.2.2.1 0) (p_L σ a) (fun j => p_sl K σ a .int j)) hcellT (fun k h => by cases h) (fun h => by cases h) hnm f2 f3
    (fun i v hv => by
      have hk' : T.vm.classes[K.2.2.2.1 0]? = some kA := hkA
      have hfit : fits FieldType.int v = true := by
        have hlt := (Array.getElem?_eq_some_iff.mp hv).1
        rw [arrV_size] at hlt
        rw [arrV_read _ _ hlt] at hv
        cases hv
        rfl
      show State.fitsSlot _ (K.2.2.2.1 0) _ _ _ = true
      simpa [State.fitsSlot, State.slotType?, hk', hkind] using hfit)
    (g := F0 m pc ls (.ref (K.1 + a) :: st.map (p_V K))) rfl (by rw [C.2.2.1]; exact hl.1) rfl (by rw [C.2.1]; exact hd) hfr (by rw [p_cats]; show 2 * 0 + _ + 14 ≤ M.2.2.2.2.2; omega) (by show p_N σ - n0 + 1 ≤ mc; omega) (by rw [arrV_size]; show p_M σ - m0 + p_L σ a ≤ ms; omega) (hloader := Vm.clonesLoader_of_array hkS hkindS)
  rw [arrV_size] at X'
  have hcE : ({ cls := (arrV (K.2.2.2.1 0) (p_L σ a) (fun j => p_sl K σ a .int j)).cls, slots := (arrV (K.2.2.2.1 0) (p_L σ a) (fun j => p_sl K σ a .int j)).slots } : Cell) = arrV (K.2.2.2.1 0) (p_L σ a) (fun j => p_sl K σ a .int j) := rfl
  rw [hcE] at X' stp
  generalize hH1 : H.push (arrV (K.2.2.2.1 0) (p_L σ a) (fun j => p_sl K σ a .int j)) = H1
  have z1 : H1.size = H.size + 1 := by rw [← hH1, Array.size_push]
  have b1 : H1[H.size]? = some (arrV (K.2.2.2.1 0) (p_L σ a) (fun j => p_sl K σ a .int j)) := by rw [← hH1, Array.getElem?_push_size]
  have oq : ∀ q : Nat, q < H.size → H1[q]? = H[q]? := fun q hq => by rw [← hH1, Array.getElem?_push, if_neg (Nat.ne_of_lt hq)]
  have hP1 : p_P K (p_cl σ a) H1 := R.clone hi z1 oq b1
  have kk := k9.2 p e s m args below meth c H1 locs n0 m0 mc ms Q ls C hP1 (p_S.new S (by omega) oq) (by rw [e1]; omega) (by rw [e2]; omega) h3 h4 hl ol (p_ok2 (v := p_r _) trivial (p_okt os)) RT
  rw [List.map_cons, p_V_r (by omega), e1, e2] at kk
  obtain ⟨t, b2, b3⟩ := (W.cs (by omega) (by omega) kk : W p l e (p_rm M mc ms) s m args below meth c H1 locs (p_N σ - n0 + 1) (p_M σ - m0 + p_L σ a) Q _) ((T.setVm vm').pushCell (arrV (K.2.2.2.1 0) (p_L σ a) (fun j => p_sl K σ a .int j))) (by rw [← hH1, ← hT]; rfl) X'
  refine ⟨t, stp t ?_, b3⟩
  have hz := R.1
  rw [show T.heap.size = K.1 + (p_N σ + 1) from by rw [hT]; omega]
  exact b2
theorem g_castA {a idx : Nat} (hw : Cond.classLink M.1.cls idx "[I" ∈ sw_gw) (hd : decode M.2.1 pc = .ok (.checkcast idx, 3)) (hi : p_is σ a 100) (k9 : p_Go K l M (pc + 3) lv (p_r a :: st) σ o) : p_Go K l M pc lv (p_r a :: st) σ o := by
  refine ⟨k9.1, fun p e s m args below meth c H locs n0 m0 mc ms Q ls C R S h1 h2 h3 h4 hl ol os RT => ?_⟩
  have hts := p_hts C.2.2.2.2.2.1
  have E := C.2.2.2.2.2.2.2.2
  obtain ⟨a1, a2, a3⟩ := R.2.2 a 0 .int hi rfl
  have hnm : s.vm.findClass "[I" = some (K.2.2.2.1 0) := (E.2.1 0 _ rfl).2
  have kk := k9.2 p e s m args below meth c H locs n0 m0 mc ms Q ls C R S h1 h2 h3 h4 hl ol os RT
  rw [List.map_cons, p_V_r hi.1] at kk ⊢
  intro T hT X
  obtain ⟨vm', X', stp⟩ := X.checkcastYes C.1 C.2.2.2.2.1 (hts _ hw) (by rw [hT]; exact a1) rfl hnm (va_asg _ _) (g := F0 m pc ls (.ref (K.1 + a) :: st.map (p_V K))) rfl rfl (by rw [C.2.1]; exact hd)
  obtain ⟨t, b1, b2⟩ := kk (T.setVm vm') hT X'
  exact ⟨t, stp t b1, b2⟩
theorem g_aload_nS {n : Fin 4} {i j x : Nat} (hd : decode M.2.1 pc = .ok (.aload_n n, 1)) (hi : (n : Nat) = i) (hj : lv[j]? = some (i, p_s x)) (k9 : p_Go K l M (pc + 1) lv (p_s x :: st) σ o) : p_Go K l M pc lv st σ o :=
  ⟨k9.1, fun p e s m args below meth c H locs n0 m0 mc ms Q ls C R S h1 h2 h3 h4 hl ol os RT => lv_aload_n C.1 C.2.1 hd hi (p_at hl hj) (k9.2 p e s m args below meth c H locs n0 m0 mc ms Q ls C R S h1 h2 h3 h4 hl ol (p_ok2 (v := p_s x) trivial os) RT)⟩
theorem g_scr {n9 : Nat} {t9 : Nat → Int} {x : Int} (he1 : n9 = p_tl K 9) (he2 : t9 = p_tv K 9) (hd : decode M.2.1 pc = .ok (.iaload, 1)) (h0 : 0 ≤ x) (hx : x < (n9 : Int)) (k9 : p_Go K l M (pc + 1) lv (p_i (t9 x.toNat) :: st) σ o) : p_Go K l M pc lv (p_i x :: p_s 9 :: st) σ o := by
  subst he1
  subst he2
  exact g_tabload (Or.inr rfl) hd h0 hx k9
theorem g_scl {n9 : Nat} (he1 : n9 = p_tl K 9) (hd : decode M.2.1 pc = .ok (.arraylength, 1)) (k9 : p_Go K l M (pc + 1) lv (p_i (n9 : Int) :: st) σ o) : p_Go K l M pc lv (p_s 9 :: st) σ o := by
  subst he1
  exact g_tablen (Or.inr rfl) hd k9
end MO
end
section
/-! ===== new int[n][k] ===== -/
theorem p_outer (c : ClassId) (N h0 : Nat) : ∀ i : Nat, Jvm.Free.Multi.outerC c N h0 i = arrV c N (fun j => va_rf (if j < i then some (h0 + 1 + j) else none))
  | 0 => by
    show ({ cls := c, slots := Array.replicate N .null, vm := .none } : Cell) = _
    rw [arrV_new]
    refine congrArg (arrV c N) (funext fun j => ?_)
    simp [va_rf]
  | i + 1 => by
    show (Jvm.Free.Multi.outerC c N h0 i).setSlot i (.ref (h0 + 1 + i)) = _
    rw [p_outer c N h0 i, arrV_store]
    refine congrArg (arrV c N) (funext fun j => ?_)
    by_cases e : j = i
    · subst e
      simp [updV, va_rf]
    · by_cases h : j < i
      · simp [updV, e, h, Nat.lt_succ_of_lt h]
      · simp [updV, e, h, show ¬ j < i + 1 by omega]
theorem p_arrV_congr {c : ClassId} {N : Nat} {f g : Nat → Value} (h : ∀ j, j < N → f j = g j) : arrV c N f = arrV c N g := by
  unfold arrV
  congr 2
  funext j
  exact h j.val j.isLt
theorem p_P.new2 {K : p_K} {σ : p_Hp} {H H1 : Heap} {n k : Nat} (hP : p_P K σ H) (hn : n ≤ 1000) (hk : k ≤ 1000) (z : H1.size = H.size + 1 + n) (oq : ∀ x : Nat, x < H.size → H1[x]? = H[x]?)
    (hO : H1[H.size]? = some (arrV (K.2.2.2.1 3) n (fun j => va_rf (if j < n then some (H.size + 1 + j) else none)))) (hI : ∀ j, j < n → H1[H.size + 1 + j]? = some (arrV (K.2.2.2.1 0) k (fun _ => .int 0))) : p_P K (p_nw2 σ n k) H1 := by
  have hsz := hP.1
  have eT : ∀ b, p_T (p_nw2 σ n k) b = if b ≤ p_N σ then p_T σ b else if b = p_N σ + 1 then 103 else 100 := fun _ => rfl
  have eL : ∀ b, p_L (p_nw2 σ n k) b = if b ≤ p_N σ then p_L σ b else if b = p_N σ + 1 then n else k := fun _ => rfl
  have eZ : ∀ b j, p_Z (p_nw2 σ n k) b j = if b ≤ p_N σ then p_Z σ b j else 0 := fun _ _ => rfl
  have eR : ∀ b j, p_R (p_nw2 σ n k) b j = if b ≤ p_N σ then p_R σ b j else if b = p_N σ + 1 ∧ j < n then p_N σ + 2 + j else 0 := fun _ _ => rfl
  have eN : p_N (p_nw2 σ n k) = p_N σ + 1 + n := rfl
  refine ⟨by rw [z, eN]; omega, fun b cj r hb hr => ?_, fun b i ty hb hty => ?_⟩
  · have hcj := p_cl_lt hr
    have hbn : b ≤ p_N σ := by
      rcases Nat.lt_or_ge (p_N σ) b with w | w
      · have h3 := hb.2.2
        rw [eT, if_neg (by omega)] at h3
        split at h3 <;> omega
      · exact w
    have hb' : p_is σ b cj := ⟨hb.1, hbn, by have h3 := hb.2.2; rw [eT, if_pos hbn] at h3; exact h3⟩
    obtain ⟨g1, g2⟩ := hP.2.1 b cj r hb' hr
    have h9 : ∀ j, p_Z (p_nw2 σ n k) b j = p_Z σ b j ∧ p_R (p_nw2 σ n k) b j = p_R σ b j := fun j => ⟨by rw [eZ, if_pos hbn], by rw [eR, if_pos hbn]⟩
    refine ⟨(g1.kept (oq _ (by omega))).to (fun j hj => (p_sl_eq (h9 j).1 (h9 j).2 _).symm), fun j hj => ?_⟩
    rw [(h9 j).1]
    exact g2 j hj
  · by_cases hbn : b ≤ p_N σ
    · have hb' : p_is σ b (100 + i) := ⟨hb.1, hbn, by have h3 := hb.2.2; rw [eT, if_pos hbn] at h3; exact h3⟩
      obtain ⟨g1, g2, g3⟩ := hP.2.2 b i ty hb' hty
      have h9 : ∀ j, p_Z (p_nw2 σ n k) b j = p_Z σ b j ∧ p_R (p_nw2 σ n k) b j = p_R σ b j := fun j => ⟨by rw [eZ, if_pos hbn], by rw [eR, if_pos hbn]⟩
      rw [eL, if_pos hbn]
      refine ⟨?_, fun j hj => ?_, g3⟩
      · rw [oq _ (by omega), g1]
        congr 2
        funext j
        exact (p_sl_eq (h9 j).1 (h9 j).2 _).symm
      · rw [(h9 j).1]
        exact g2 j hj
    · have h2 := hb.2.1
      rw [eN] at h2
      have h3 := hb.2.2
      rw [eT, if_neg hbn] at h3
      rw [eL, if_neg hbn]
      by_cases hb1 : b = p_N σ + 1
      · rw [if_pos hb1] at h3 ⊢
        have e : i = 3 := by omega
        subst e
        cases hty
        refine ⟨?_, fun j hj => trivial, by omega⟩
        rw [show K.1 + b = H.size from by omega, hO]
        refine congrArg some (p_arrV_congr fun j hj => ?_)
        show va_rf _ = va_rf (p_rO K.1 (p_R (p_nw2 σ n k) b j))
        rw [eR, if_neg hbn, if_pos hj, if_pos ⟨hb1, hj⟩]
        unfold p_rO
        rw [if_neg (by omega), show H.size + 1 + j = K.1 + (p_N σ + 2 + j) from by omega]
      · rw [if_neg hb1] at h3 ⊢
        have e : i = 0 := by omega
        subst e
        cases hty
        refine ⟨?_, fun j hj => ?_, by omega⟩
        · obtain ⟨j0, hj0⟩ : ∃ j0, b = p_N σ + 2 + j0 := ⟨b - (p_N σ + 2), by omega⟩
          rw [show K.1 + b = H.size + 1 + j0 from by omega, hI j0 (by omega)]
          refine congrArg some (p_arrV_congr fun j hj => ?_)
          show Value.int 0 = Value.int (Int32.ofInt (p_Z (p_nw2 σ n k) b j))
          rw [eZ, if_neg hbn]
          rfl
        · show p_c (p_Z (p_nw2 σ n k) b j)
          rw [eZ, if_neg hbn]
          decide
theorem p_x_nw2 (σ : p_Hp) (n k : Nat) : p_x σ (p_nw2 σ n k) := ⟨by show σ.1 ≤ σ.1 + 1 + n; omega, by show σ.2.1 ≤ σ.2.1 + n + n * k; exact Nat.le_trans (Nat.le_add_right _ _) (Nat.le_add_right _ _), fun a ha => ⟨if_pos ha, if_pos ha⟩⟩
section MU
variable {K : p_K} {l : Launch} {M : p_Me} {pc : Nat} {lv : List (Nat × p_AV)} {st : List p_AV} {σ : p_Hp} {o : Option p_AV × p_Hp}
theorem g_multi {idx : Nat} {x y : Int} (hw : Cond.classLink M.1.cls idx ("[" ++ (FieldType.array .int).toString) ∈ sw_gw) (hw2 : Cond.arrayClass .int ∈ sw_gw) (hd : decode M.2.1 pc = .ok (.multianewarray idx 2, 4)) (hx0 : 0 ≤ x) (hx1 : x ≤ 1000) (hy0 : 0 ≤ y) (hy1 : y ≤ 1000) (k9 : p_Go K l M (pc + 4) lv (p_r (p_N σ + 1) :: st) (p_nw2 σ x.toNat y.toNat) o) : p_Go K l M pc lv (p_i y :: p_i x :: st) σ o := by
  have e1 : p_N (p_nw2 σ x.toNat y.toNat) = p_N σ + 1 + x.toNat := rfl
  have e2 : p_M (p_nw2 σ x.toNat y.toNat) = p_M σ + x.toNat + x.toNat * y.toNat := rfl
  have kn : p_N σ + 1 + x.toNat ≤ p_N o.2 ∧ p_M σ + x.toNat + x.toNat * y.toNat ≤ p_M o.2 := ⟨k9.1.1, k9.1.2.1⟩
  generalize hxy : x.toNat * y.toNat = xy at kn e2
  refine ⟨(p_x_nw2 _ _ _).trans k9.1, fun p e s m args below meth c H locs n0 m0 mc ms Q ls C R S h1 h2 h3 h4 hl ol os RT => ?_⟩
  have hts := p_hts C.2.2.2.2.2.1
  have E := C.2.2.2.2.2.2.2.2
  have ex := p_nat (n := 1001) hx0 (by omega) (by omega)
  have ey := p_nat (n := 1001) hy0 (by omega) (by omega)
  have cx : p_c x := ⟨by omega, by omega⟩
  have cy : p_c y := ⟨by omega, by omega⟩
  intro T hT Xs
  obtain ⟨vm₁, cA, comp, -, fA, fC, hO, -, X', step⟩ := Xs.multianewarray2F (ty := .int) C.1 C.2.2.2.2.1 (hts _ hw) (over_moved (Vm.Alike.refl _) E.2.2.2.2.2.1) (hts _ hw2) (g := F0 m pc ls (.int (Int32.ofInt y) :: .int (Int32.ofInt x) :: st.map (p_V K))) rfl (by rw [C.2.1]; exact hd) rfl (by rw [p_lt0 cx]; omega) (by rw [p_lt0 cy]; omega) (by rw [ex]; omega) (by rw [ey]; show y.toNat * 4 ≤ _; omega) (by rw [ey]; omega) rfl rfl (by rw [ex]; show p_N σ - n0 + (1 + x.toNat) ≤ mc; omega) (by rw [ex, ey, hxy]; show p_M σ - m0 + (x.toNat + xy) ≤ ms; omega)
  rw [ex, ey] at X' step
  have hcA : cA = K.2.2.2.1 3 := Option.some.inj (fA.symm.trans ((E.2.1 3 _ rfl).2 : s.vm.findClass ("[" ++ (FieldType.array .int).toString) = some (K.2.2.2.1 3)))
  have hcC : comp = K.2.2.2.1 0 := Option.some.inj (fC.symm.trans ((E.2.1 0 _ rfl).2 : s.vm.findClass ("[" ++ FieldType.int.toString) = some (K.2.2.2.1 0)))
  subst hcA
  subst hcC
  generalize hF : Jvm.Free.Multi.fill (T.setVm vm₁) (K.2.2.2.1 3) (K.2.2.2.1 0) x.toNat y.toNat (defaultValue .int) x.toNat = F at X' step
  have hTh : (T.setVm vm₁).heap = H := hT
  obtain ⟨f1, f2, -, -⟩ := Jvm.Free.Multi.fill_facts (T.setVm vm₁) (K.2.2.2.1 3) (K.2.2.2.1 0) x.toNat y.toNat (defaultValue .int) x.toNat
  rw [hF, hTh] at f1 f2
  have hold : ∀ z : Nat, z < H.size → F.heap[z]? = H[z]? := fun z hz => by
    have := Jvm.Free.Multi.fill_old (T.setVm vm₁) (K.2.2.2.1 3) (K.2.2.2.1 0) x.toNat y.toNat (defaultValue .int) (a := z) (by rw [hTh]; exact hz) x.toNat
    rw [hF, hTh] at this
    exact this
  have hrow : ∀ j : Nat, j < x.toNat → F.heap[H.size + 1 + j]? = some (arrV (K.2.2.2.1 0) y.toNat (fun _ => .int 0)) := fun j hj => by
    have := Jvm.Free.Multi.fill_inner (T.setVm vm₁) (K.2.2.2.1 3) (K.2.2.2.1 0) x.toNat y.toNat (defaultValue .int) x.toNat j hj
    rw [hF, hTh] at this
    rw [this]
    exact congrArg some (arrV_new _ _ _)
  rw [p_outer] at f2
  have hP1 : p_P K (p_nw2 σ x.toNat y.toNat) F.heap := R.new2 (by omega) (by omega) f1 hold f2 hrow
  have kk := k9.2 p e s m args below meth c F.heap locs n0 m0 mc ms Q ls C hP1 (p_S.new S (by omega) hold) (by rw [e1]; omega) (by rw [e2]; omega) h3 h4 hl ol (p_ok2 (v := p_r _) trivial (p_okt (p_okt os))) RT
  rw [List.map_cons, p_V_r (by omega), e1, e2] at kk
  obtain ⟨t, a1, b1⟩ := (W.cs (by omega) (by rw [hxy]; omega) kk : W p l e (p_rm M mc ms) s m args below meth c F.heap locs (p_N σ - n0 + 1 + x.toNat) (p_M σ - m0 + x.toNat + x.toNat * y.toNat) Q _) F rfl X'
  refine ⟨t, step t ?_, b1⟩
  have hz := R.1
  rw [show T.heap.size = K.1 + (p_N σ + 1) from by rw [hT]; omega]
  exact a1
end MU
end
