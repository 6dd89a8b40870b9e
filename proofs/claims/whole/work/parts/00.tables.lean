-- ===== PART A: goes FIRST, ahead of the names: the tables' words, and 'selects' of the private methods out of them =====
/-- a private method of a class that the tables say can be made, by its rows of tables_1 -/
def lw_okq (q : MethodName × Nat) : Prop := (q.1.cls ≠ "java/lang/invoke/MethodHandle" ∧ q.1.cls ≠ "java/lang/invoke/VarHandle") ∧ Cond.instantiable q.1.cls q.2 ∈ tables_1 ∧ Cond.privateMethod q.1 ∈ tables_1 ∧ Cond.instanceMethod q.1 ∈ tables_1
theorem lw_p0 : lw_okq (⟨"SortWorks", "refuse", "(I)I"⟩, 9) := ⟨⟨by decide +kernel, by decide +kernel⟩, List.mem_of_getElem? (i := 18) (by decide +kernel), List.mem_of_getElem? (i := 545) (by decide +kernel), List.mem_of_getElem? (i := 546) (by decide +kernel)⟩
theorem lw_p1 : lw_okq (⟨"SortWorks", "done", "(I)I"⟩, 9) := ⟨⟨by decide +kernel, by decide +kernel⟩, List.mem_of_getElem? (i := 18) (by decide +kernel), List.mem_of_getElem? (i := 549) (by decide +kernel), List.mem_of_getElem? (i := 550) (by decide +kernel)⟩
theorem lw_p2 : lw_okq (⟨"SortWorks", "built", "(I)I"⟩, 9) := ⟨⟨by decide +kernel, by decide +kernel⟩, List.mem_of_getElem? (i := 18) (by decide +kernel), List.mem_of_getElem? (i := 572) (by decide +kernel), List.mem_of_getElem? (i := 573) (by decide +kernel)⟩
theorem lw_p3 : lw_okq (⟨"SortWorks$Judge", "takeRule", "(I)Z"⟩, 4) := ⟨⟨by decide +kernel, by decide +kernel⟩, List.mem_of_getElem? (i := 491) (by decide +kernel), List.mem_of_getElem? (i := 674) (by decide +kernel), List.mem_of_getElem? (i := 675) (by decide +kernel)⟩
theorem lw_p4 : lw_okq (⟨"SortWorks$Judge", "next", "()I"⟩, 4) := ⟨⟨by decide +kernel, by decide +kernel⟩, List.mem_of_getElem? (i := 491) (by decide +kernel), List.mem_of_getElem? (i := 678) (by decide +kernel), List.mem_of_getElem? (i := 679) (by decide +kernel)⟩
theorem lw_p5 : lw_okq (⟨"SortWorks$Judge", "takeTests", "(I)Z"⟩, 4) := ⟨⟨by decide +kernel, by decide +kernel⟩, List.mem_of_getElem? (i := 491) (by decide +kernel), List.mem_of_getElem? (i := 682) (by decide +kernel), List.mem_of_getElem? (i := 683) (by decide +kernel)⟩
theorem lw_p6 : lw_okq (⟨"SortWorks$Judge", "takeTest", "(I)Z"⟩, 4) := ⟨⟨by decide +kernel, by decide +kernel⟩, List.mem_of_getElem? (i := 491) (by decide +kernel), List.mem_of_getElem? (i := 686) (by decide +kernel), List.mem_of_getElem? (i := 687) (by decide +kernel)⟩
theorem lw_p7 : lw_okq (⟨"SortWorks$Judge", "take", "(I)Z"⟩, 4) := ⟨⟨by decide +kernel, by decide +kernel⟩, List.mem_of_getElem? (i := 491) (by decide +kernel), List.mem_of_getElem? (i := 690) (by decide +kernel), List.mem_of_getElem? (i := 691) (by decide +kernel)⟩
theorem lw_p8 : lw_okq (⟨"SortWorks$Judge", "takeNumber", "()I"⟩, 4) := ⟨⟨by decide +kernel, by decide +kernel⟩, List.mem_of_getElem? (i := 491) (by decide +kernel), List.mem_of_getElem? (i := 694) (by decide +kernel), List.mem_of_getElem? (i := 695) (by decide +kernel)⟩
theorem lw_p9 : lw_okq (⟨"SortWorks$Judge", "takeTold", "(I)Z"⟩, 4) := ⟨⟨by decide +kernel, by decide +kernel⟩, List.mem_of_getElem? (i := 491) (by decide +kernel), List.mem_of_getElem? (i := 698) (by decide +kernel), List.mem_of_getElem? (i := 699) (by decide +kernel)⟩
theorem lw_p10 : lw_okq (⟨"SortWorks", "newParcel", "()LSortWorks$Parcel;"⟩, 9) := ⟨⟨by decide +kernel, by decide +kernel⟩, List.mem_of_getElem? (i := 18) (by decide +kernel), List.mem_of_getElem? (i := 719) (by decide +kernel), List.mem_of_getElem? (i := 720) (by decide +kernel)⟩
theorem lw_p11 : lw_okq (⟨"SortWorks$State", "setDown", "(LSortWorks$Parcel;I)V"⟩, 10) := ⟨⟨by decide +kernel, by decide +kernel⟩, List.mem_of_getElem? (i := 33) (by decide +kernel), List.mem_of_getElem? (i := 738) (by decide +kernel), List.mem_of_getElem? (i := 739) (by decide +kernel)⟩
theorem lw_p12 : lw_okq (⟨"SortWorks$Parcel", "writeFormA", "(I)V"⟩, 14) := ⟨⟨by decide +kernel, by decide +kernel⟩, List.mem_of_getElem? (i := 173) (by decide +kernel), List.mem_of_getElem? (i := 762) (by decide +kernel), List.mem_of_getElem? (i := 763) (by decide +kernel)⟩
theorem lw_p13 : lw_okq (⟨"SortWorks$Parcel", "writeFormB", "(I)V"⟩, 14) := ⟨⟨by decide +kernel, by decide +kernel⟩, List.mem_of_getElem? (i := 173) (by decide +kernel), List.mem_of_getElem? (i := 766) (by decide +kernel), List.mem_of_getElem? (i := 767) (by decide +kernel)⟩
theorem lw_p14 : lw_okq (⟨"SortWorks$Step", "doPlan", "(I)V"⟩, 5) := ⟨⟨by decide +kernel, by decide +kernel⟩, List.mem_of_getElem? (i := 443) (by decide +kernel), List.mem_of_getElem? (i := 882) (by decide +kernel), List.mem_of_getElem? (i := 883) (by decide +kernel)⟩
theorem lw_p15 : lw_okq (⟨"SortWorks$Step", "planFault", "([II)I"⟩, 5) := ⟨⟨by decide +kernel, by decide +kernel⟩, List.mem_of_getElem? (i := 443) (by decide +kernel), List.mem_of_getElem? (i := 886) (by decide +kernel), List.mem_of_getElem? (i := 887) (by decide +kernel)⟩
def lw_privs_1 : List (MethodName × Nat) := [(⟨"SortWorks", "refuse", "(I)I"⟩, 9), (⟨"SortWorks", "done", "(I)I"⟩, 9), (⟨"SortWorks", "built", "(I)I"⟩, 9), (⟨"SortWorks$Judge", "takeRule", "(I)Z"⟩, 4), (⟨"SortWorks$Judge", "next", "()I"⟩, 4), (⟨"SortWorks$Judge", "takeTests", "(I)Z"⟩, 4), (⟨"SortWorks$Judge", "takeTest", "(I)Z"⟩, 4), (⟨"SortWorks$Judge", "take", "(I)Z"⟩, 4), (⟨"SortWorks$Judge", "takeNumber", "()I"⟩, 4), (⟨"SortWorks$Judge", "takeTold", "(I)Z"⟩, 4), (⟨"SortWorks", "newParcel", "()LSortWorks$Parcel;"⟩, 9), (⟨"SortWorks$State", "setDown", "(LSortWorks$Parcel;I)V"⟩, 10), (⟨"SortWorks$Parcel", "writeFormA", "(I)V"⟩, 14), (⟨"SortWorks$Parcel", "writeFormB", "(I)V"⟩, 14), (⟨"SortWorks$Step", "doPlan", "(I)V"⟩, 5), (⟨"SortWorks$Step", "planFault", "([II)I"⟩, 5)]
theorem lw_r1 : ∀ q ∈ lw_privs_1, lw_okq q := List.forall_mem_cons.mpr ⟨lw_p0, List.forall_mem_cons.mpr ⟨lw_p1, List.forall_mem_cons.mpr ⟨lw_p2, List.forall_mem_cons.mpr ⟨lw_p3, List.forall_mem_cons.mpr ⟨lw_p4, List.forall_mem_cons.mpr ⟨lw_p5, List.forall_mem_cons.mpr ⟨lw_p6, List.forall_mem_cons.mpr ⟨lw_p7, List.forall_mem_cons.mpr ⟨lw_p8, List.forall_mem_cons.mpr ⟨lw_p9, List.forall_mem_cons.mpr ⟨lw_p10, List.forall_mem_cons.mpr ⟨lw_p11, List.forall_mem_cons.mpr ⟨lw_p12, List.forall_mem_cons.mpr ⟨lw_p13, List.forall_mem_cons.mpr ⟨lw_p14, List.forall_mem_cons.mpr ⟨lw_p15, fun _ h => absurd h List.not_mem_nil⟩⟩⟩⟩⟩⟩⟩⟩⟩⟩⟩⟩⟩⟩⟩⟩
theorem lw_p16 : lw_okq (⟨"SortWorks$Step", "addFinding", "(IIII)V"⟩, 5) := ⟨⟨by decide +kernel, by decide +kernel⟩, List.mem_of_getElem? (i := 443) (by decide +kernel), List.mem_of_getElem? (i := 900) (by decide +kernel), List.mem_of_getElem? (i := 901) (by decide +kernel)⟩
theorem lw_p17 : lw_okq (⟨"SortWorks$Step", "letMergesChoose", "()V"⟩, 5) := ⟨⟨by decide +kernel, by decide +kernel⟩, List.mem_of_getElem? (i := 443) (by decide +kernel), List.mem_of_getElem? (i := 908) (by decide +kernel), List.mem_of_getElem? (i := 909) (by decide +kernel)⟩
theorem lw_p18 : lw_okq (⟨"SortWorks$Step", "isReadyToGive", "(LSortWorks$Gear;)Z"⟩, 5) := ⟨⟨by decide +kernel, by decide +kernel⟩, List.mem_of_getElem? (i := 443) (by decide +kernel), List.mem_of_getElem? (i := 912) (by decide +kernel), List.mem_of_getElem? (i := 913) (by decide +kernel)⟩
theorem lw_p19 : lw_okq (⟨"SortWorks$Step", "isInStep", "(LSortWorks$Gear;)Z"⟩, 5) := ⟨⟨by decide +kernel, by decide +kernel⟩, List.mem_of_getElem? (i := 443) (by decide +kernel), List.mem_of_getElem? (i := 917) (by decide +kernel), List.mem_of_getElem? (i := 918) (by decide +kernel)⟩
theorem lw_p20 : lw_okq (⟨"SortWorks$Step", "isBetter", "(ILSortWorks$Gear;)Z"⟩, 5) := ⟨⟨by decide +kernel, by decide +kernel⟩, List.mem_of_getElem? (i := 443) (by decide +kernel), List.mem_of_getElem? (i := 937) (by decide +kernel), List.mem_of_getElem? (i := 938) (by decide +kernel)⟩
theorem lw_p21 : lw_okq (⟨"SortWorks$Step", "act", "(I)V"⟩, 5) := ⟨⟨by decide +kernel, by decide +kernel⟩, List.mem_of_getElem? (i := 443) (by decide +kernel), List.mem_of_getElem? (i := 941) (by decide +kernel), List.mem_of_getElem? (i := 942) (by decide +kernel)⟩
theorem lw_p22 : lw_okq (⟨"SortWorks$Step", "addTrace", "(I)V"⟩, 5) := ⟨⟨by decide +kernel, by decide +kernel⟩, List.mem_of_getElem? (i := 443) (by decide +kernel), List.mem_of_getElem? (i := 947) (by decide +kernel), List.mem_of_getElem? (i := 948) (by decide +kernel)⟩
theorem lw_p23 : lw_okq (⟨"SortWorks$Step", "scan", "(ILSortWorks$Gear;)Z"⟩, 5) := ⟨⟨by decide +kernel, by decide +kernel⟩, List.mem_of_getElem? (i := 443) (by decide +kernel), List.mem_of_getElem? (i := 952) (by decide +kernel), List.mem_of_getElem? (i := 953) (by decide +kernel)⟩
theorem lw_p24 : lw_okq (⟨"SortWorks$Reading", "readFormA", "(LSortWorks$Parcel;)I"⟩, 5) := ⟨⟨by decide +kernel, by decide +kernel⟩, List.mem_of_getElem? (i := 449) (by decide +kernel), List.mem_of_getElem? (i := 960) (by decide +kernel), List.mem_of_getElem? (i := 961) (by decide +kernel)⟩
theorem lw_p25 : lw_okq (⟨"SortWorks$Reading", "readFormB", "(LSortWorks$Parcel;)I"⟩, 5) := ⟨⟨by decide +kernel, by decide +kernel⟩, List.mem_of_getElem? (i := 449) (by decide +kernel), List.mem_of_getElem? (i := 964) (by decide +kernel), List.mem_of_getElem? (i := 965) (by decide +kernel)⟩
theorem lw_p26 : lw_okq (⟨"SortWorks$Step", "targetByRules", "(I)I"⟩, 5) := ⟨⟨by decide +kernel, by decide +kernel⟩, List.mem_of_getElem? (i := 443) (by decide +kernel), List.mem_of_getElem? (i := 968) (by decide +kernel), List.mem_of_getElem? (i := 969) (by decide +kernel)⟩
theorem lw_p27 : lw_okq (⟨"SortWorks$Step", "holds", "(I)I"⟩, 5) := ⟨⟨by decide +kernel, by decide +kernel⟩, List.mem_of_getElem? (i := 443) (by decide +kernel), List.mem_of_getElem? (i := 972) (by decide +kernel), List.mem_of_getElem? (i := 973) (by decide +kernel)⟩
theorem lw_p28 : lw_okq (⟨"SortWorks$Step", "quotient", "(I)I"⟩, 5) := ⟨⟨by decide +kernel, by decide +kernel⟩, List.mem_of_getElem? (i := 443) (by decide +kernel), List.mem_of_getElem? (i := 976) (by decide +kernel), List.mem_of_getElem? (i := 977) (by decide +kernel)⟩
theorem lw_p29 : lw_okq (⟨"SortWorks$Step", "plainValue", "(I)I"⟩, 5) := ⟨⟨by decide +kernel, by decide +kernel⟩, List.mem_of_getElem? (i := 443) (by decide +kernel), List.mem_of_getElem? (i := 981) (by decide +kernel), List.mem_of_getElem? (i := 982) (by decide +kernel)⟩
theorem lw_p30 : lw_okq (⟨"SortWorks$Step", "passOn", "(ILSortWorks$Gear;Z)V"⟩, 5) := ⟨⟨by decide +kernel, by decide +kernel⟩, List.mem_of_getElem? (i := 443) (by decide +kernel), List.mem_of_getElem? (i := 988) (by decide +kernel), List.mem_of_getElem? (i := 989) (by decide +kernel)⟩
theorem lw_p31 : lw_okq (⟨"SortWorks$Step", "giveOut", "(ILSortWorks$Gear;LSortWorks$Parcel;)Z"⟩, 5) := ⟨⟨by decide +kernel, by decide +kernel⟩, List.mem_of_getElem? (i := 443) (by decide +kernel), List.mem_of_getElem? (i := 992) (by decide +kernel), List.mem_of_getElem? (i := 993) (by decide +kernel)⟩
def lw_privs_2 : List (MethodName × Nat) := [(⟨"SortWorks$Step", "addFinding", "(IIII)V"⟩, 5), (⟨"SortWorks$Step", "letMergesChoose", "()V"⟩, 5), (⟨"SortWorks$Step", "isReadyToGive", "(LSortWorks$Gear;)Z"⟩, 5), (⟨"SortWorks$Step", "isInStep", "(LSortWorks$Gear;)Z"⟩, 5), (⟨"SortWorks$Step", "isBetter", "(ILSortWorks$Gear;)Z"⟩, 5), (⟨"SortWorks$Step", "act", "(I)V"⟩, 5), (⟨"SortWorks$Step", "addTrace", "(I)V"⟩, 5), (⟨"SortWorks$Step", "scan", "(ILSortWorks$Gear;)Z"⟩, 5), (⟨"SortWorks$Reading", "readFormA", "(LSortWorks$Parcel;)I"⟩, 5), (⟨"SortWorks$Reading", "readFormB", "(LSortWorks$Parcel;)I"⟩, 5), (⟨"SortWorks$Step", "targetByRules", "(I)I"⟩, 5), (⟨"SortWorks$Step", "holds", "(I)I"⟩, 5), (⟨"SortWorks$Step", "quotient", "(I)I"⟩, 5), (⟨"SortWorks$Step", "plainValue", "(I)I"⟩, 5), (⟨"SortWorks$Step", "passOn", "(ILSortWorks$Gear;Z)V"⟩, 5), (⟨"SortWorks$Step", "giveOut", "(ILSortWorks$Gear;LSortWorks$Parcel;)Z"⟩, 5)]
theorem lw_r2 : ∀ q ∈ lw_privs_2, lw_okq q := List.forall_mem_cons.mpr ⟨lw_p16, List.forall_mem_cons.mpr ⟨lw_p17, List.forall_mem_cons.mpr ⟨lw_p18, List.forall_mem_cons.mpr ⟨lw_p19, List.forall_mem_cons.mpr ⟨lw_p20, List.forall_mem_cons.mpr ⟨lw_p21, List.forall_mem_cons.mpr ⟨lw_p22, List.forall_mem_cons.mpr ⟨lw_p23, List.forall_mem_cons.mpr ⟨lw_p24, List.forall_mem_cons.mpr ⟨lw_p25, List.forall_mem_cons.mpr ⟨lw_p26, List.forall_mem_cons.mpr ⟨lw_p27, List.forall_mem_cons.mpr ⟨lw_p28, List.forall_mem_cons.mpr ⟨lw_p29, List.forall_mem_cons.mpr ⟨lw_p30, List.forall_mem_cons.mpr ⟨lw_p31, fun _ h => absurd h List.not_mem_nil⟩⟩⟩⟩⟩⟩⟩⟩⟩⟩⟩⟩⟩⟩⟩⟩
theorem lw_p32 : lw_okq (⟨"SortWorks$Step", "leaveBy", "(IILSortWorks$Parcel;)V"⟩, 5) := ⟨⟨by decide +kernel, by decide +kernel⟩, List.mem_of_getElem? (i := 443) (by decide +kernel), List.mem_of_getElem? (i := 996) (by decide +kernel), List.mem_of_getElem? (i := 997) (by decide +kernel)⟩
theorem lw_p33 : lw_okq (⟨"SortWorks$Step", "giveOn", "(ILSortWorks$Gear;LSortWorks$Parcel;)Z"⟩, 5) := ⟨⟨by decide +kernel, by decide +kernel⟩, List.mem_of_getElem? (i := 443) (by decide +kernel), List.mem_of_getElem? (i := 1005) (by decide +kernel), List.mem_of_getElem? (i := 1006) (by decide +kernel)⟩
theorem lw_p34 : lw_okq (⟨"SortWorks$Step", "takes", "(III)Z"⟩, 5) := ⟨⟨by decide +kernel, by decide +kernel⟩, List.mem_of_getElem? (i := 443) (by decide +kernel), List.mem_of_getElem? (i := 1009) (by decide +kernel), List.mem_of_getElem? (i := 1010) (by decide +kernel)⟩
theorem lw_p35 : lw_okq (⟨"SortWorks$Step", "mergeTakes", "(LSortWorks$Gear;I)Z"⟩, 5) := ⟨⟨by decide +kernel, by decide +kernel⟩, List.mem_of_getElem? (i := 443) (by decide +kernel), List.mem_of_getElem? (i := 1013) (by decide +kernel), List.mem_of_getElem? (i := 1014) (by decide +kernel)⟩
theorem lw_p36 : lw_okq (⟨"SortWorks$Step", "moveUp", "(LSortWorks$Gear;)V"⟩, 5) := ⟨⟨by decide +kernel, by decide +kernel⟩, List.mem_of_getElem? (i := 443) (by decide +kernel), List.mem_of_getElem? (i := 1028) (by decide +kernel), List.mem_of_getElem? (i := 1029) (by decide +kernel)⟩
theorem lw_p37 : lw_okq (⟨"SortWorks$Step", "setDial", "(ILSortWorks$Gear;)V"⟩, 5) := ⟨⟨by decide +kernel, by decide +kernel⟩, List.mem_of_getElem? (i := 443) (by decide +kernel), List.mem_of_getElem? (i := 1033) (by decide +kernel), List.mem_of_getElem? (i := 1034) (by decide +kernel)⟩
theorem lw_p38 : lw_okq (⟨"SortWorks$Step", "lampOf", "(LSortWorks$Gear;)I"⟩, 5) := ⟨⟨by decide +kernel, by decide +kernel⟩, List.mem_of_getElem? (i := 443) (by decide +kernel), List.mem_of_getElem? (i := 1037) (by decide +kernel), List.mem_of_getElem? (i := 1038) (by decide +kernel)⟩
theorem lw_p39 : lw_okq (⟨"SortWorks", "comeByNight", "(III)I"⟩, 9) := ⟨⟨by decide +kernel, by decide +kernel⟩, List.mem_of_getElem? (i := 18) (by decide +kernel), List.mem_of_getElem? (i := 1049) (by decide +kernel), List.mem_of_getElem? (i := 1050) (by decide +kernel)⟩
theorem lw_p40 : lw_okq (⟨"SortWorks$Parcel", "raiseLastByte", "()V"⟩, 14) := ⟨⟨by decide +kernel, by decide +kernel⟩, List.mem_of_getElem? (i := 173) (by decide +kernel), List.mem_of_getElem? (i := 1057) (by decide +kernel), List.mem_of_getElem? (i := 1058) (by decide +kernel)⟩
theorem lw_p41 : lw_okq (⟨"SortWorks$Works", "goAhead", "(II)Z"⟩, 15) := ⟨⟨by decide +kernel, by decide +kernel⟩, List.mem_of_getElem? (i := 27) (by decide +kernel), List.mem_of_getElem? (i := 1181) (by decide +kernel), List.mem_of_getElem? (i := 1182) (by decide +kernel)⟩
theorem lw_p42 : lw_okq (⟨"SortWorks", "mixedGear", "(JLSortWorks$Gear;)J"⟩, 9) := ⟨⟨by decide +kernel, by decide +kernel⟩, List.mem_of_getElem? (i := 18) (by decide +kernel), List.mem_of_getElem? (i := 1215) (by decide +kernel), List.mem_of_getElem? (i := 1216) (by decide +kernel)⟩
theorem lw_p43 : lw_okq (⟨"SortWorksModel", "refused", "(I)I"⟩, 90) := ⟨⟨by decide +kernel, by decide +kernel⟩, List.mem_of_getElem? (i := 1219) (by decide +kernel), List.mem_of_getElem? (i := 1506) (by decide +kernel), List.mem_of_getElem? (i := 1507) (by decide +kernel)⟩
theorem lw_p44 : lw_okq (⟨"SortWorksModel", "well", "(I)I"⟩, 90) := ⟨⟨by decide +kernel, by decide +kernel⟩, List.mem_of_getElem? (i := 1219) (by decide +kernel), List.mem_of_getElem? (i := 1510) (by decide +kernel), List.mem_of_getElem? (i := 1511) (by decide +kernel)⟩
theorem lw_p45 : lw_okq (⟨"SortWorksModel", "g", "(I)I"⟩, 90) := ⟨⟨by decide +kernel, by decide +kernel⟩, List.mem_of_getElem? (i := 1219) (by decide +kernel), List.mem_of_getElem? (i := 1523) (by decide +kernel), List.mem_of_getElem? (i := 1524) (by decide +kernel)⟩
theorem lw_p46 : lw_okq (⟨"SortWorksModel", "fresh", "(II)V"⟩, 90) := ⟨⟨by decide +kernel, by decide +kernel⟩, List.mem_of_getElem? (i := 1219) (by decide +kernel), List.mem_of_getElem? (i := 1527) (by decide +kernel), List.mem_of_getElem? (i := 1528) (by decide +kernel)⟩
theorem lw_p47 : lw_okq (⟨"SortWorksModel", "built", "(I)I"⟩, 90) := ⟨⟨by decide +kernel, by decide +kernel⟩, List.mem_of_getElem? (i := 1219) (by decide +kernel), List.mem_of_getElem? (i := 1537) (by decide +kernel), List.mem_of_getElem? (i := 1538) (by decide +kernel)⟩
def lw_privs_3 : List (MethodName × Nat) := [(⟨"SortWorks$Step", "leaveBy", "(IILSortWorks$Parcel;)V"⟩, 5), (⟨"SortWorks$Step", "giveOn", "(ILSortWorks$Gear;LSortWorks$Parcel;)Z"⟩, 5), (⟨"SortWorks$Step", "takes", "(III)Z"⟩, 5), (⟨"SortWorks$Step", "mergeTakes", "(LSortWorks$Gear;I)Z"⟩, 5), (⟨"SortWorks$Step", "moveUp", "(LSortWorks$Gear;)V"⟩, 5), (⟨"SortWorks$Step", "setDial", "(ILSortWorks$Gear;)V"⟩, 5), (⟨"SortWorks$Step", "lampOf", "(LSortWorks$Gear;)I"⟩, 5), (⟨"SortWorks", "comeByNight", "(III)I"⟩, 9), (⟨"SortWorks$Parcel", "raiseLastByte", "()V"⟩, 14), (⟨"SortWorks$Works", "goAhead", "(II)Z"⟩, 15), (⟨"SortWorks", "mixedGear", "(JLSortWorks$Gear;)J"⟩, 9), (⟨"SortWorksModel", "refused", "(I)I"⟩, 90), (⟨"SortWorksModel", "well", "(I)I"⟩, 90), (⟨"SortWorksModel", "g", "(I)I"⟩, 90), (⟨"SortWorksModel", "fresh", "(II)V"⟩, 90), (⟨"SortWorksModel", "built", "(I)I"⟩, 90)]
theorem lw_r3 : ∀ q ∈ lw_privs_3, lw_okq q := List.forall_mem_cons.mpr ⟨lw_p32, List.forall_mem_cons.mpr ⟨lw_p33, List.forall_mem_cons.mpr ⟨lw_p34, List.forall_mem_cons.mpr ⟨lw_p35, List.forall_mem_cons.mpr ⟨lw_p36, List.forall_mem_cons.mpr ⟨lw_p37, List.forall_mem_cons.mpr ⟨lw_p38, List.forall_mem_cons.mpr ⟨lw_p39, List.forall_mem_cons.mpr ⟨lw_p40, List.forall_mem_cons.mpr ⟨lw_p41, List.forall_mem_cons.mpr ⟨lw_p42, List.forall_mem_cons.mpr ⟨lw_p43, List.forall_mem_cons.mpr ⟨lw_p44, List.forall_mem_cons.mpr ⟨lw_p45, List.forall_mem_cons.mpr ⟨lw_p46, List.forall_mem_cons.mpr ⟨lw_p47, fun _ h => absurd h List.not_mem_nil⟩⟩⟩⟩⟩⟩⟩⟩⟩⟩⟩⟩⟩⟩⟩⟩
theorem lw_p48 : lw_okq (⟨"SortWorksModel", "noGear", "(I)Z"⟩, 90) := ⟨⟨by decide +kernel, by decide +kernel⟩, List.mem_of_getElem? (i := 1219) (by decide +kernel), List.mem_of_getElem? (i := 1545) (by decide +kernel), List.mem_of_getElem? (i := 1546) (by decide +kernel)⟩
theorem lw_p49 : lw_okq (⟨"SortWorksModel", "faulted", "(I)I"⟩, 90) := ⟨⟨by decide +kernel, by decide +kernel⟩, List.mem_of_getElem? (i := 1219) (by decide +kernel), List.mem_of_getElem? (i := 1549) (by decide +kernel), List.mem_of_getElem? (i := 1550) (by decide +kernel)⟩
theorem lw_p50 : lw_okq (⟨"SortWorksModel", "loadOf", "(I)I"⟩, 90) := ⟨⟨by decide +kernel, by decide +kernel⟩, List.mem_of_getElem? (i := 1219) (by decide +kernel), List.mem_of_getElem? (i := 1575) (by decide +kernel), List.mem_of_getElem? (i := 1576) (by decide +kernel)⟩
theorem lw_p51 : lw_okq (⟨"SortWorksModel", "copyGear", "(II)V"⟩, 90) := ⟨⟨by decide +kernel, by decide +kernel⟩, List.mem_of_getElem? (i := 1219) (by decide +kernel), List.mem_of_getElem? (i := 1583) (by decide +kernel), List.mem_of_getElem? (i := 1584) (by decide +kernel)⟩
theorem lw_p52 : lw_okq (⟨"SortWorksModel", "copyRule", "(II)V"⟩, 90) := ⟨⟨by decide +kernel, by decide +kernel⟩, List.mem_of_getElem? (i := 1219) (by decide +kernel), List.mem_of_getElem? (i := 1587) (by decide +kernel), List.mem_of_getElem? (i := 1588) (by decide +kernel)⟩
theorem lw_p53 : lw_okq (⟨"SortWorksModel", "rule", "(I)Z"⟩, 90) := ⟨⟨by decide +kernel, by decide +kernel⟩, List.mem_of_getElem? (i := 1219) (by decide +kernel), List.mem_of_getElem? (i := 1601) (by decide +kernel), List.mem_of_getElem? (i := 1602) (by decide +kernel)⟩
theorem lw_p54 : lw_okq (⟨"SortWorksModel", "wrong", "(I)Z"⟩, 90) := ⟨⟨by decide +kernel, by decide +kernel⟩, List.mem_of_getElem? (i := 1219) (by decide +kernel), List.mem_of_getElem? (i := 1605) (by decide +kernel), List.mem_of_getElem? (i := 1606) (by decide +kernel)⟩
theorem lw_p55 : lw_okq (⟨"SortWorksModel", "here", "()I"⟩, 90) := ⟨⟨by decide +kernel, by decide +kernel⟩, List.mem_of_getElem? (i := 1219) (by decide +kernel), List.mem_of_getElem? (i := 1609) (by decide +kernel), List.mem_of_getElem? (i := 1610) (by decide +kernel)⟩
theorem lw_p56 : lw_okq (⟨"SortWorksModel", "test", "(I)Z"⟩, 90) := ⟨⟨by decide +kernel, by decide +kernel⟩, List.mem_of_getElem? (i := 1219) (by decide +kernel), List.mem_of_getElem? (i := 1613) (by decide +kernel), List.mem_of_getElem? (i := 1614) (by decide +kernel)⟩
theorem lw_p57 : lw_okq (⟨"SortWorksModel", "number", "()Z"⟩, 90) := ⟨⟨by decide +kernel, by decide +kernel⟩, List.mem_of_getElem? (i := 1219) (by decide +kernel), List.mem_of_getElem? (i := 1617) (by decide +kernel), List.mem_of_getElem? (i := 1618) (by decide +kernel)⟩
theorem lw_p58 : lw_okq (⟨"SortWorksModel", "sign", "()Z"⟩, 90) := ⟨⟨by decide +kernel, by decide +kernel⟩, List.mem_of_getElem? (i := 1219) (by decide +kernel), List.mem_of_getElem? (i := 1624) (by decide +kernel), List.mem_of_getElem? (i := 1625) (by decide +kernel)⟩
theorem lw_p59 : lw_okq (⟨"SortWorksModel", "comesFull", "()Z"⟩, 90) := ⟨⟨by decide +kernel, by decide +kernel⟩, List.mem_of_getElem? (i := 1219) (by decide +kernel), List.mem_of_getElem? (i := 1642) (by decide +kernel), List.mem_of_getElem? (i := 1643) (by decide +kernel)⟩
theorem lw_p60 : lw_okq (⟨"SortWorksModel", "newParcel", "(III)I"⟩, 90) := ⟨⟨by decide +kernel, by decide +kernel⟩, List.mem_of_getElem? (i := 1219) (by decide +kernel), List.mem_of_getElem? (i := 1646) (by decide +kernel), List.mem_of_getElem? (i := 1647) (by decide +kernel)⟩
theorem lw_p61 : lw_okq (⟨"SortWorksModel", "enters", "(II)V"⟩, 90) := ⟨⟨by decide +kernel, by decide +kernel⟩, List.mem_of_getElem? (i := 1219) (by decide +kernel), List.mem_of_getElem? (i := 1650) (by decide +kernel), List.mem_of_getElem? (i := 1651) (by decide +kernel)⟩
theorem lw_p62 : lw_okq (⟨"SortWorksModel", "noParcel", "(I)Z"⟩, 90) := ⟨⟨by decide +kernel, by decide +kernel⟩, List.mem_of_getElem? (i := 1219) (by decide +kernel), List.mem_of_getElem? (i := 1658) (by decide +kernel), List.mem_of_getElem? (i := 1659) (by decide +kernel)⟩
theorem lw_p63 : lw_okq (⟨"SortWorksModel", "newLabel", "(II)V"⟩, 90) := ⟨⟨by decide +kernel, by decide +kernel⟩, List.mem_of_getElem? (i := 1219) (by decide +kernel), List.mem_of_getElem? (i := 1662) (by decide +kernel), List.mem_of_getElem? (i := 1663) (by decide +kernel)⟩
def lw_privs_4 : List (MethodName × Nat) := [(⟨"SortWorksModel", "noGear", "(I)Z"⟩, 90), (⟨"SortWorksModel", "faulted", "(I)I"⟩, 90), (⟨"SortWorksModel", "loadOf", "(I)I"⟩, 90), (⟨"SortWorksModel", "copyGear", "(II)V"⟩, 90), (⟨"SortWorksModel", "copyRule", "(II)V"⟩, 90), (⟨"SortWorksModel", "rule", "(I)Z"⟩, 90), (⟨"SortWorksModel", "wrong", "(I)Z"⟩, 90), (⟨"SortWorksModel", "here", "()I"⟩, 90), (⟨"SortWorksModel", "test", "(I)Z"⟩, 90), (⟨"SortWorksModel", "number", "()Z"⟩, 90), (⟨"SortWorksModel", "sign", "()Z"⟩, 90), (⟨"SortWorksModel", "comesFull", "()Z"⟩, 90), (⟨"SortWorksModel", "newParcel", "(III)I"⟩, 90), (⟨"SortWorksModel", "enters", "(II)V"⟩, 90), (⟨"SortWorksModel", "noParcel", "(I)Z"⟩, 90), (⟨"SortWorksModel", "newLabel", "(II)V"⟩, 90)]
theorem lw_r4 : ∀ q ∈ lw_privs_4, lw_okq q := List.forall_mem_cons.mpr ⟨lw_p48, List.forall_mem_cons.mpr ⟨lw_p49, List.forall_mem_cons.mpr ⟨lw_p50, List.forall_mem_cons.mpr ⟨lw_p51, List.forall_mem_cons.mpr ⟨lw_p52, List.forall_mem_cons.mpr ⟨lw_p53, List.forall_mem_cons.mpr ⟨lw_p54, List.forall_mem_cons.mpr ⟨lw_p55, List.forall_mem_cons.mpr ⟨lw_p56, List.forall_mem_cons.mpr ⟨lw_p57, List.forall_mem_cons.mpr ⟨lw_p58, List.forall_mem_cons.mpr ⟨lw_p59, List.forall_mem_cons.mpr ⟨lw_p60, List.forall_mem_cons.mpr ⟨lw_p61, List.forall_mem_cons.mpr ⟨lw_p62, List.forall_mem_cons.mpr ⟨lw_p63, fun _ h => absurd h List.not_mem_nil⟩⟩⟩⟩⟩⟩⟩⟩⟩⟩⟩⟩⟩⟩⟩⟩
theorem lw_p64 : lw_okq (⟨"SortWorksModel", "tags", "(III)V"⟩, 90) := ⟨⟨by decide +kernel, by decide +kernel⟩, List.mem_of_getElem? (i := 1219) (by decide +kernel), List.mem_of_getElem? (i := 1675) (by decide +kernel), List.mem_of_getElem? (i := 1676) (by decide +kernel)⟩
theorem lw_p65 : lw_okq (⟨"SortWorksModel", "isJammed", "(I)Z"⟩, 90) := ⟨⟨by decide +kernel, by decide +kernel⟩, List.mem_of_getElem? (i := 1219) (by decide +kernel), List.mem_of_getElem? (i := 1696) (by decide +kernel), List.mem_of_getElem? (i := 1697) (by decide +kernel)⟩
theorem lw_p66 : lw_okq (⟨"SortWorksModel", "leaves", "(I)V"⟩, 90) := ⟨⟨by decide +kernel, by decide +kernel⟩, List.mem_of_getElem? (i := 1219) (by decide +kernel), List.mem_of_getElem? (i := 1700) (by decide +kernel), List.mem_of_getElem? (i := 1701) (by decide +kernel)⟩
theorem lw_p67 : lw_okq (⟨"SortWorksModel", "isFull", "()Z"⟩, 90) := ⟨⟨by decide +kernel, by decide +kernel⟩, List.mem_of_getElem? (i := 1219) (by decide +kernel), List.mem_of_getElem? (i := 1728) (by decide +kernel), List.mem_of_getElem? (i := 1729) (by decide +kernel)⟩
theorem lw_p68 : lw_okq (⟨"SortWorksModel", "steps", "()V"⟩, 90) := ⟨⟨by decide +kernel, by decide +kernel⟩, List.mem_of_getElem? (i := 1219) (by decide +kernel), List.mem_of_getElem? (i := 1732) (by decide +kernel), List.mem_of_getElem? (i := 1733) (by decide +kernel)⟩
theorem lw_p69 : lw_okq (⟨"SortWorksModel", "keep", "()V"⟩, 90) := ⟨⟨by decide +kernel, by decide +kernel⟩, List.mem_of_getElem? (i := 1219) (by decide +kernel), List.mem_of_getElem? (i := 1736) (by decide +kernel), List.mem_of_getElem? (i := 1737) (by decide +kernel)⟩
theorem lw_p70 : lw_okq (⟨"SortWorksModel", "goOver", "(I)V"⟩, 90) := ⟨⟨by decide +kernel, by decide +kernel⟩, List.mem_of_getElem? (i := 1219) (by decide +kernel), List.mem_of_getElem? (i := 1740) (by decide +kernel), List.mem_of_getElem? (i := 1741) (by decide +kernel)⟩
theorem lw_p71 : lw_okq (⟨"SortWorksModel", "both", "(I)I"⟩, 90) := ⟨⟨by decide +kernel, by decide +kernel⟩, List.mem_of_getElem? (i := 1219) (by decide +kernel), List.mem_of_getElem? (i := 1744) (by decide +kernel), List.mem_of_getElem? (i := 1745) (by decide +kernel)⟩
theorem lw_p72 : lw_okq (⟨"SortWorksModel", "goOverGear", "(I)V"⟩, 90) := ⟨⟨by decide +kernel, by decide +kernel⟩, List.mem_of_getElem? (i := 1219) (by decide +kernel), List.mem_of_getElem? (i := 1748) (by decide +kernel), List.mem_of_getElem? (i := 1749) (by decide +kernel)⟩
theorem lw_p73 : lw_okq (⟨"SortWorksModel", "goOverParcels", "()V"⟩, 90) := ⟨⟨by decide +kernel, by decide +kernel⟩, List.mem_of_getElem? (i := 1219) (by decide +kernel), List.mem_of_getElem? (i := 1752) (by decide +kernel), List.mem_of_getElem? (i := 1753) (by decide +kernel)⟩
theorem lw_p74 : lw_okq (⟨"SortWorksModel", "doPlans", "()V"⟩, 90) := ⟨⟨by decide +kernel, by decide +kernel⟩, List.mem_of_getElem? (i := 1219) (by decide +kernel), List.mem_of_getElem? (i := 1756) (by decide +kernel), List.mem_of_getElem? (i := 1757) (by decide +kernel)⟩
theorem lw_p75 : lw_okq (⟨"SortWorksModel", "planFault", "(I)I"⟩, 90) := ⟨⟨by decide +kernel, by decide +kernel⟩, List.mem_of_getElem? (i := 1219) (by decide +kernel), List.mem_of_getElem? (i := 1760) (by decide +kernel), List.mem_of_getElem? (i := 1761) (by decide +kernel)⟩
theorem lw_p76 : lw_okq (⟨"SortWorksModel", "find", "(III)V"⟩, 90) := ⟨⟨by decide +kernel, by decide +kernel⟩, List.mem_of_getElem? (i := 1219) (by decide +kernel), List.mem_of_getElem? (i := 1764) (by decide +kernel), List.mem_of_getElem? (i := 1765) (by decide +kernel)⟩
theorem lw_p77 : lw_okq (⟨"SortWorksModel", "choose", "()V"⟩, 90) := ⟨⟨by decide +kernel, by decide +kernel⟩, List.mem_of_getElem? (i := 1219) (by decide +kernel), List.mem_of_getElem? (i := 1768) (by decide +kernel), List.mem_of_getElem? (i := 1769) (by decide +kernel)⟩
theorem lw_p78 : lw_okq (⟨"SortWorksModel", "chosenBy", "(I)I"⟩, 90) := ⟨⟨by decide +kernel, by decide +kernel⟩, List.mem_of_getElem? (i := 1219) (by decide +kernel), List.mem_of_getElem? (i := 1772) (by decide +kernel), List.mem_of_getElem? (i := 1773) (by decide +kernel)⟩
theorem lw_p79 : lw_okq (⟨"SortWorksModel", "isActing", "(I)Z"⟩, 90) := ⟨⟨by decide +kernel, by decide +kernel⟩, List.mem_of_getElem? (i := 1219) (by decide +kernel), List.mem_of_getElem? (i := 1776) (by decide +kernel), List.mem_of_getElem? (i := 1777) (by decide +kernel)⟩
def lw_privs_5 : List (MethodName × Nat) := [(⟨"SortWorksModel", "tags", "(III)V"⟩, 90), (⟨"SortWorksModel", "isJammed", "(I)Z"⟩, 90), (⟨"SortWorksModel", "leaves", "(I)V"⟩, 90), (⟨"SortWorksModel", "isFull", "()Z"⟩, 90), (⟨"SortWorksModel", "steps", "()V"⟩, 90), (⟨"SortWorksModel", "keep", "()V"⟩, 90), (⟨"SortWorksModel", "goOver", "(I)V"⟩, 90), (⟨"SortWorksModel", "both", "(I)I"⟩, 90), (⟨"SortWorksModel", "goOverGear", "(I)V"⟩, 90), (⟨"SortWorksModel", "goOverParcels", "()V"⟩, 90), (⟨"SortWorksModel", "doPlans", "()V"⟩, 90), (⟨"SortWorksModel", "planFault", "(I)I"⟩, 90), (⟨"SortWorksModel", "find", "(III)V"⟩, 90), (⟨"SortWorksModel", "choose", "()V"⟩, 90), (⟨"SortWorksModel", "chosenBy", "(I)I"⟩, 90), (⟨"SortWorksModel", "isActing", "(I)Z"⟩, 90)]
theorem lw_r5 : ∀ q ∈ lw_privs_5, lw_okq q := List.forall_mem_cons.mpr ⟨lw_p64, List.forall_mem_cons.mpr ⟨lw_p65, List.forall_mem_cons.mpr ⟨lw_p66, List.forall_mem_cons.mpr ⟨lw_p67, List.forall_mem_cons.mpr ⟨lw_p68, List.forall_mem_cons.mpr ⟨lw_p69, List.forall_mem_cons.mpr ⟨lw_p70, List.forall_mem_cons.mpr ⟨lw_p71, List.forall_mem_cons.mpr ⟨lw_p72, List.forall_mem_cons.mpr ⟨lw_p73, List.forall_mem_cons.mpr ⟨lw_p74, List.forall_mem_cons.mpr ⟨lw_p75, List.forall_mem_cons.mpr ⟨lw_p76, List.forall_mem_cons.mpr ⟨lw_p77, List.forall_mem_cons.mpr ⟨lw_p78, List.forall_mem_cons.mpr ⟨lw_p79, fun _ h => absurd h List.not_mem_nil⟩⟩⟩⟩⟩⟩⟩⟩⟩⟩⟩⟩⟩⟩⟩⟩
theorem lw_p80 : lw_okq (⟨"SortWorksModel", "linkAt", "(I)I"⟩, 90) := ⟨⟨by decide +kernel, by decide +kernel⟩, List.mem_of_getElem? (i := 1219) (by decide +kernel), List.mem_of_getElem? (i := 1783) (by decide +kernel), List.mem_of_getElem? (i := 1784) (by decide +kernel)⟩
theorem lw_p81 : lw_okq (⟨"SortWorksModel", "leads", "(III)Z"⟩, 90) := ⟨⟨by decide +kernel, by decide +kernel⟩, List.mem_of_getElem? (i := 1219) (by decide +kernel), List.mem_of_getElem? (i := 1787) (by decide +kernel), List.mem_of_getElem? (i := 1788) (by decide +kernel)⟩
theorem lw_p82 : lw_okq (⟨"SortWorksModel", "follow", "(II)I"⟩, 90) := ⟨⟨by decide +kernel, by decide +kernel⟩, List.mem_of_getElem? (i := 1219) (by decide +kernel), List.mem_of_getElem? (i := 1791) (by decide +kernel), List.mem_of_getElem? (i := 1792) (by decide +kernel)⟩
theorem lw_p83 : lw_okq (⟨"SortWorksModel", "act", "(I)V"⟩, 90) := ⟨⟨by decide +kernel, by decide +kernel⟩, List.mem_of_getElem? (i := 1219) (by decide +kernel), List.mem_of_getElem? (i := 1795) (by decide +kernel), List.mem_of_getElem? (i := 1796) (by decide +kernel)⟩
theorem lw_p84 : lw_okq (⟨"SortWorksModel", "body", "(I)V"⟩, 90) := ⟨⟨by decide +kernel, by decide +kernel⟩, List.mem_of_getElem? (i := 1219) (by decide +kernel), List.mem_of_getElem? (i := 1799) (by decide +kernel), List.mem_of_getElem? (i := 1800) (by decide +kernel)⟩
theorem lw_p85 : lw_okq (⟨"SortWorksModel", "actPanel", "(I)V"⟩, 90) := ⟨⟨by decide +kernel, by decide +kernel⟩, List.mem_of_getElem? (i := 1219) (by decide +kernel), List.mem_of_getElem? (i := 1803) (by decide +kernel), List.mem_of_getElem? (i := 1804) (by decide +kernel)⟩
theorem lw_p86 : lw_okq (⟨"SortWorksModel", "actTaker", "(I)V"⟩, 90) := ⟨⟨by decide +kernel, by decide +kernel⟩, List.mem_of_getElem? (i := 1219) (by decide +kernel), List.mem_of_getElem? (i := 1807) (by decide +kernel), List.mem_of_getElem? (i := 1808) (by decide +kernel)⟩
theorem lw_p87 : lw_okq (⟨"SortWorksModel", "bodies", "(I)V"⟩, 90) := ⟨⟨by decide +kernel, by decide +kernel⟩, List.mem_of_getElem? (i := 1219) (by decide +kernel), List.mem_of_getElem? (i := 1811) (by decide +kernel), List.mem_of_getElem? (i := 1812) (by decide +kernel)⟩
theorem lw_p88 : lw_okq (⟨"SortWorksModel", "scans", "(II)Z"⟩, 90) := ⟨⟨by decide +kernel, by decide +kernel⟩, List.mem_of_getElem? (i := 1219) (by decide +kernel), List.mem_of_getElem? (i := 1815) (by decide +kernel), List.mem_of_getElem? (i := 1816) (by decide +kernel)⟩
theorem lw_p89 : lw_okq (⟨"SortWorksModel", "reads", "(I)Z"⟩, 90) := ⟨⟨by decide +kernel, by decide +kernel⟩, List.mem_of_getElem? (i := 1219) (by decide +kernel), List.mem_of_getElem? (i := 1819) (by decide +kernel), List.mem_of_getElem? (i := 1820) (by decide +kernel)⟩
theorem lw_p90 : lw_okq (⟨"SortWorksModel", "asked", "(II)I"⟩, 90) := ⟨⟨by decide +kernel, by decide +kernel⟩, List.mem_of_getElem? (i := 1219) (by decide +kernel), List.mem_of_getElem? (i := 1823) (by decide +kernel), List.mem_of_getElem? (i := 1824) (by decide +kernel)⟩
theorem lw_p91 : lw_okq (⟨"SortWorksModel", "holds", "(I)Z"⟩, 90) := ⟨⟨by decide +kernel, by decide +kernel⟩, List.mem_of_getElem? (i := 1219) (by decide +kernel), List.mem_of_getElem? (i := 1827) (by decide +kernel), List.mem_of_getElem? (i := 1828) (by decide +kernel)⟩
theorem lw_p92 : lw_okq (⟨"SortWorksModel", "quotientOf", "(I)I"⟩, 90) := ⟨⟨by decide +kernel, by decide +kernel⟩, List.mem_of_getElem? (i := 1219) (by decide +kernel), List.mem_of_getElem? (i := 1831) (by decide +kernel), List.mem_of_getElem? (i := 1832) (by decide +kernel)⟩
theorem lw_p93 : lw_okq (⟨"SortWorksModel", "bodiesLast", "(I)V"⟩, 90) := ⟨⟨by decide +kernel, by decide +kernel⟩, List.mem_of_getElem? (i := 1219) (by decide +kernel), List.mem_of_getElem? (i := 1835) (by decide +kernel), List.mem_of_getElem? (i := 1836) (by decide +kernel)⟩
theorem lw_p94 : lw_okq (⟨"SortWorksModel", "givesOut", "(II)Z"⟩, 90) := ⟨⟨by decide +kernel, by decide +kernel⟩, List.mem_of_getElem? (i := 1219) (by decide +kernel), List.mem_of_getElem? (i := 1839) (by decide +kernel), List.mem_of_getElem? (i := 1840) (by decide +kernel)⟩
theorem lw_p95 : lw_okq (⟨"SortWorksModel", "goesOut", "(III)V"⟩, 90) := ⟨⟨by decide +kernel, by decide +kernel⟩, List.mem_of_getElem? (i := 1219) (by decide +kernel), List.mem_of_getElem? (i := 1843) (by decide +kernel), List.mem_of_getElem? (i := 1844) (by decide +kernel)⟩
def lw_privs_6 : List (MethodName × Nat) := [(⟨"SortWorksModel", "linkAt", "(I)I"⟩, 90), (⟨"SortWorksModel", "leads", "(III)Z"⟩, 90), (⟨"SortWorksModel", "follow", "(II)I"⟩, 90), (⟨"SortWorksModel", "act", "(I)V"⟩, 90), (⟨"SortWorksModel", "body", "(I)V"⟩, 90), (⟨"SortWorksModel", "actPanel", "(I)V"⟩, 90), (⟨"SortWorksModel", "actTaker", "(I)V"⟩, 90), (⟨"SortWorksModel", "bodies", "(I)V"⟩, 90), (⟨"SortWorksModel", "scans", "(II)Z"⟩, 90), (⟨"SortWorksModel", "reads", "(I)Z"⟩, 90), (⟨"SortWorksModel", "asked", "(II)I"⟩, 90), (⟨"SortWorksModel", "holds", "(I)Z"⟩, 90), (⟨"SortWorksModel", "quotientOf", "(I)I"⟩, 90), (⟨"SortWorksModel", "bodiesLast", "(I)V"⟩, 90), (⟨"SortWorksModel", "givesOut", "(II)Z"⟩, 90), (⟨"SortWorksModel", "goesOut", "(III)V"⟩, 90)]
theorem lw_r6 : ∀ q ∈ lw_privs_6, lw_okq q := List.forall_mem_cons.mpr ⟨lw_p80, List.forall_mem_cons.mpr ⟨lw_p81, List.forall_mem_cons.mpr ⟨lw_p82, List.forall_mem_cons.mpr ⟨lw_p83, List.forall_mem_cons.mpr ⟨lw_p84, List.forall_mem_cons.mpr ⟨lw_p85, List.forall_mem_cons.mpr ⟨lw_p86, List.forall_mem_cons.mpr ⟨lw_p87, List.forall_mem_cons.mpr ⟨lw_p88, List.forall_mem_cons.mpr ⟨lw_p89, List.forall_mem_cons.mpr ⟨lw_p90, List.forall_mem_cons.mpr ⟨lw_p91, List.forall_mem_cons.mpr ⟨lw_p92, List.forall_mem_cons.mpr ⟨lw_p93, List.forall_mem_cons.mpr ⟨lw_p94, List.forall_mem_cons.mpr ⟨lw_p95, fun _ h => absurd h List.not_mem_nil⟩⟩⟩⟩⟩⟩⟩⟩⟩⟩⟩⟩⟩⟩⟩⟩
theorem lw_p96 : lw_okq (⟨"SortWorksModel", "gives", "(II)Z"⟩, 90) := ⟨⟨by decide +kernel, by decide +kernel⟩, List.mem_of_getElem? (i := 1219) (by decide +kernel), List.mem_of_getElem? (i := 1847) (by decide +kernel), List.mem_of_getElem? (i := 1848) (by decide +kernel)⟩
theorem lw_p97 : lw_okq (⟨"SortWorksModel", "takes", "(III)Z"⟩, 90) := ⟨⟨by decide +kernel, by decide +kernel⟩, List.mem_of_getElem? (i := 1219) (by decide +kernel), List.mem_of_getElem? (i := 1851) (by decide +kernel), List.mem_of_getElem? (i := 1852) (by decide +kernel)⟩
theorem lw_p98 : lw_okq (⟨"SortWorksModel", "wants", "(II)I"⟩, 90) := ⟨⟨by decide +kernel, by decide +kernel⟩, List.mem_of_getElem? (i := 1219) (by decide +kernel), List.mem_of_getElem? (i := 1855) (by decide +kernel), List.mem_of_getElem? (i := 1856) (by decide +kernel)⟩
theorem lw_p99 : lw_okq (⟨"SortWorksModel", "spoils", "(II)V"⟩, 90) := ⟨⟨by decide +kernel, by decide +kernel⟩, List.mem_of_getElem? (i := 1219) (by decide +kernel), List.mem_of_getElem? (i := 1864) (by decide +kernel), List.mem_of_getElem? (i := 1865) (by decide +kernel)⟩
theorem lw_p100 : lw_okq (⟨"SortWorksModel", "toldMore", "(II)I"⟩, 90) := ⟨⟨by decide +kernel, by decide +kernel⟩, List.mem_of_getElem? (i := 1219) (by decide +kernel), List.mem_of_getElem? (i := 1881) (by decide +kernel), List.mem_of_getElem? (i := 1882) (by decide +kernel)⟩
theorem lw_p101 : lw_okq (⟨"SortWorksModel", "says", "(I)V"⟩, 90) := ⟨⟨by decide +kernel, by decide +kernel⟩, List.mem_of_getElem? (i := 1219) (by decide +kernel), List.mem_of_getElem? (i := 1921) (by decide +kernel), List.mem_of_getElem? (i := 1922) (by decide +kernel)⟩
theorem lw_p102 : lw_okq (⟨"SortWorksModel", "saysNumber", "(I)V"⟩, 90) := ⟨⟨by decide +kernel, by decide +kernel⟩, List.mem_of_getElem? (i := 1219) (by decide +kernel), List.mem_of_getElem? (i := 1925) (by decide +kernel), List.mem_of_getElem? (i := 1926) (by decide +kernel)⟩
theorem lw_p103 : lw_okq (⟨"SortWorksModel", "spread", "(I)V"⟩, 90) := ⟨⟨by decide +kernel, by decide +kernel⟩, List.mem_of_getElem? (i := 1219) (by decide +kernel), List.mem_of_getElem? (i := 1949) (by decide +kernel), List.mem_of_getElem? (i := 1950) (by decide +kernel)⟩
theorem lw_p104 : lw_okq (⟨"SortWorksModel", "ahead", "(II)V"⟩, 90) := ⟨⟨by decide +kernel, by decide +kernel⟩, List.mem_of_getElem? (i := 1219) (by decide +kernel), List.mem_of_getElem? (i := 1953) (by decide +kernel), List.mem_of_getElem? (i := 1954) (by decide +kernel)⟩
theorem lw_p105 : lw_okq (⟨"SortWorksModel", "adds", "(I)V"⟩, 90) := ⟨⟨by decide +kernel, by decide +kernel⟩, List.mem_of_getElem? (i := 1219) (by decide +kernel), List.mem_of_getElem? (i := 1978) (by decide +kernel), List.mem_of_getElem? (i := 1979) (by decide +kernel)⟩
def lw_privs_7 : List (MethodName × Nat) := [(⟨"SortWorksModel", "gives", "(II)Z"⟩, 90), (⟨"SortWorksModel", "takes", "(III)Z"⟩, 90), (⟨"SortWorksModel", "wants", "(II)I"⟩, 90), (⟨"SortWorksModel", "spoils", "(II)V"⟩, 90), (⟨"SortWorksModel", "toldMore", "(II)I"⟩, 90), (⟨"SortWorksModel", "says", "(I)V"⟩, 90), (⟨"SortWorksModel", "saysNumber", "(I)V"⟩, 90), (⟨"SortWorksModel", "spread", "(I)V"⟩, 90), (⟨"SortWorksModel", "ahead", "(II)V"⟩, 90), (⟨"SortWorksModel", "adds", "(I)V"⟩, 90)]
theorem lw_r7 : ∀ q ∈ lw_privs_7, lw_okq q := List.forall_mem_cons.mpr ⟨lw_p96, List.forall_mem_cons.mpr ⟨lw_p97, List.forall_mem_cons.mpr ⟨lw_p98, List.forall_mem_cons.mpr ⟨lw_p99, List.forall_mem_cons.mpr ⟨lw_p100, List.forall_mem_cons.mpr ⟨lw_p101, List.forall_mem_cons.mpr ⟨lw_p102, List.forall_mem_cons.mpr ⟨lw_p103, List.forall_mem_cons.mpr ⟨lw_p104, List.forall_mem_cons.mpr ⟨lw_p105, fun _ h => absurd h List.not_mem_nil⟩⟩⟩⟩⟩⟩⟩⟩⟩⟩
def lw_privs : List (MethodName × Nat) := lw_privs_1 ++ (lw_privs_2 ++ (lw_privs_3 ++ (lw_privs_4 ++ (lw_privs_5 ++ (lw_privs_6 ++ (lw_privs_7))))))
def lw_tbl : List Cond := k2_sels lw_privs ++ tables_1
theorem lw_privs_ok : ∀ q ∈ lw_privs, lw_okq q := by
  show ∀ q ∈ lw_privs_1 ++ (lw_privs_2 ++ (lw_privs_3 ++ (lw_privs_4 ++ (lw_privs_5 ++ (lw_privs_6 ++ (lw_privs_7)))))), lw_okq q
  exact List.forall_mem_append.mpr ⟨lw_r1, List.forall_mem_append.mpr ⟨lw_r2, List.forall_mem_append.mpr ⟨lw_r3, List.forall_mem_append.mpr ⟨lw_r4, List.forall_mem_append.mpr ⟨lw_r5, List.forall_mem_append.mpr ⟨lw_r6, lw_r7⟩⟩⟩⟩⟩⟩
def RX0 : String := "SortWorks$Gear"
def TX0 : u_T := fun k => match k with
  | 0 => ("SortWorks$Gear", "kind", "I", false)
  | 1 => ("SortWorks$Gear", "length", "I", false)
  | 2 => ("SortWorks$Gear", "rank", "I", false)
  | 3 => ("SortWorks$Gear", "linkCount", "I", false)
  | 4 => ("SortWorks$Gear", "links", "[I", true)
  | 5 => ("SortWorks$Gear", "sets", "[J", true)
  | 6 => ("SortWorks$Gear", "side", "I", false)
  | 7 => ("SortWorks$Gear", "open", "Z", false)
  | 8 => ("SortWorks$Gear", "wait", "I", false)
  | 9 => ("SortWorks$Gear", "lamp", "I", false)
  | 10 => ("SortWorks$Gear", "came", "I", false)
  | 11 => ("SortWorks$Gear", "went", "I", false)
  | 12 => ("SortWorks$Gear", "findings", "I", false)
  | 13 => ("SortWorks$Gear", "acts", "I", false)
  | 14 => ("SortWorks$Gear", "releases", "I", false)
  | 15 => ("SortWorks$Gear", "last", "I", false)
  | 16 => ("SortWorks$Gear", "dial", "I", false)
  | 17 => ("SortWorks$Gear", "slots", "[I", true)
  | 18 => ("SortWorks$Gear", "kept", "[I", true)
  | _ => ("SortWorks$Gear", "chosen", "I", false)
def tyX0 : Nat → FieldType := fun k => match k with
  | 0 => .int
  | 1 => .int
  | 2 => .int
  | 3 => .int
  | 4 => .array .int
  | 5 => .array .long
  | 6 => .int
  | 7 => .boolean
  | 8 => .int
  | 9 => .int
  | 10 => .int
  | 11 => .int
  | 12 => .int
  | 13 => .int
  | 14 => .int
  | 15 => .int
  | 16 => .int
  | 17 => .array .int
  | 18 => .array .int
  | _ => .int
theorem nmX0 : ∀ a, a < 20 → ∀ b, b < 20 → a ≠ b → (TX0 a).2.1 ≠ (TX0 b).2.1 := by decide +kernel
theorem tyX0_ok : ∀ k, k < 20 → parseFieldDescriptor (TX0 k).2.2.1 = some (tyX0 k) := by decide +kernel
def RX1 : String := "SortWorks$Judge"
def TX1 : u_T := fun k => match k with
  | 0 => ("SortWorks$Judge", "rules", "LSortWorks$Rules;", true)
  | 1 => ("SortWorks$Judge", "letters", "[I", false)
  | 2 => ("SortWorks$Judge", "length", "I", false)
  | _ => ("SortWorks$Judge", "at", "I", false)
def tyX1 : Nat → FieldType := fun k => match k with
  | 0 => .object "SortWorks$Rules"
  | 1 => .array .int
  | 2 => .int
  | _ => .int
theorem nmX1 : ∀ a, a < 4 → ∀ b, b < 4 → a ≠ b → (TX1 a).2.1 ≠ (TX1 b).2.1 := by decide +kernel
theorem tyX1_ok : ∀ k, k < 4 → parseFieldDescriptor (TX1 k).2.2.1 = some (tyX1 k) := by decide +kernel
def RX2 : String := "SortWorks$Log"
def TX2 : u_T := fun k => match k with
  | 0 => ("SortWorks$Log", "most", "I", true)
  | 1 => ("SortWorks$Log", "width", "I", true)
  | 2 => ("SortWorks$Log", "rows", "[I", true)
  | 3 => ("SortWorks$Log", "count", "I", false)
  | 4 => ("SortWorks$Log", "keptRows", "[I", true)
  | _ => ("SortWorks$Log", "keptCounts", "[I", true)
def tyX2 : Nat → FieldType := fun k => match k with
  | 0 => .int
  | 1 => .int
  | 2 => .array .int
  | 3 => .int
  | 4 => .array .int
  | _ => .array .int
theorem nmX2 : ∀ a, a < 6 → ∀ b, b < 6 → a ≠ b → (TX2 a).2.1 ≠ (TX2 b).2.1 := by decide +kernel
theorem tyX2_ok : ∀ k, k < 6 → parseFieldDescriptor (TX2 k).2.2.1 = some (tyX2 k) := by decide +kernel
def RX3 : String := "SortWorks$Numbers"
def TX3 : u_T := fun k => match k with
  | 0 => ("SortWorks$Numbers", "where", "[I", true)
  | _ => ("SortWorks$Numbers", "given", "I", false)
def tyX3 : Nat → FieldType := fun k => match k with
  | 0 => .array .int
  | _ => .int
theorem nmX3 : ∀ a, a < 2 → ∀ b, b < 2 → a ≠ b → (TX3 a).2.1 ≠ (TX3 b).2.1 := by decide +kernel
theorem tyX3_ok : ∀ k, k < 2 → parseFieldDescriptor (TX3 k).2.2.1 = some (tyX3 k) := by decide +kernel
def RX4 : String := "SortWorks$Parcel"
def TX4 : u_T := fun k => match k with
  | 0 => ("SortWorks$Parcel", "place", "I", true)
  | 1 => ("SortWorks$Parcel", "number", "I", false)
  | 2 => ("SortWorks$Parcel", "weight", "I", false)
  | 3 => ("SortWorks$Parcel", "size", "I", false)
  | 4 => ("SortWorks$Parcel", "target", "I", false)
  | 5 => ("SortWorks$Parcel", "gear", "I", false)
  | 6 => ("SortWorks$Parcel", "slot", "I", false)
  | 7 => ("SortWorks$Parcel", "scanned", "Z", false)
  | 8 => ("SortWorks$Parcel", "moved", "Z", false)
  | 9 => ("SortWorks$Parcel", "wayLength", "I", false)
  | 10 => ("SortWorks$Parcel", "way", "[I", true)
  | 11 => ("SortWorks$Parcel", "labelLength", "I", false)
  | 12 => ("SortWorks$Parcel", "label", "[I", true)
  | _ => ("SortWorks$Parcel", "kept", "[I", true)
def tyX4 : Nat → FieldType := fun k => match k with
  | 0 => .int
  | 1 => .int
  | 2 => .int
  | 3 => .int
  | 4 => .int
  | 5 => .int
  | 6 => .int
  | 7 => .boolean
  | 8 => .boolean
  | 9 => .int
  | 10 => .array .int
  | 11 => .int
  | 12 => .array .int
  | _ => .array .int
theorem nmX4 : ∀ a, a < 14 → ∀ b, b < 14 → a ≠ b → (TX4 a).2.1 ≠ (TX4 b).2.1 := by decide +kernel
theorem tyX4_ok : ∀ k, k < 14 → parseFieldDescriptor (TX4 k).2.2.1 = some (tyX4 k) := by decide +kernel
def RX5 : String := "SortWorks$Reading"
def TX5 : u_T := fun k => match k with
  | 0 => ("SortWorks$Reading", "bad", "Z", false)
  | 1 => ("SortWorks$Reading", "place", "I", false)
  | 2 => ("SortWorks$Reading", "weight", "I", false)
  | 3 => ("SortWorks$Reading", "size", "I", false)
  | _ => ("SortWorks$Reading", "digits", "[I", true)
def tyX5 : Nat → FieldType := fun k => match k with
  | 0 => .boolean
  | 1 => .int
  | 2 => .int
  | 3 => .int
  | _ => .array .int
theorem nmX5 : ∀ a, a < 5 → ∀ b, b < 5 → a ≠ b → (TX5 a).2.1 ≠ (TX5 b).2.1 := by decide +kernel
theorem tyX5_ok : ∀ k, k < 5 → parseFieldDescriptor (TX5 k).2.2.1 = some (tyX5 k) := by decide +kernel
def RX6 : String := "SortWorks$Rules"
def TX6 : u_T := fun k => match k with
  | 0 => ("SortWorks$Rules", "count", "I", false)
  | 1 => ("SortWorks$Rules", "tells", "[I", true)
  | 2 => ("SortWorks$Rules", "testCounts", "[I", true)
  | 3 => ("SortWorks$Rules", "subjects", "[I", true)
  | 4 => ("SortWorks$Rules", "quotients", "[I", true)
  | 5 => ("SortWorks$Rules", "signs", "[I", true)
  | 6 => ("SortWorks$Rules", "bounds", "[I", true)
  | 7 => ("SortWorks$Rules", "text", "[I", true)
  | _ => ("SortWorks$Rules", "textLength", "I", false)
def tyX6 : Nat → FieldType := fun k => match k with
  | 0 => .int
  | 1 => .array .int
  | 2 => .array .int
  | 3 => .array .int
  | 4 => .array .int
  | 5 => .array .int
  | 6 => .array .int
  | 7 => .array .int
  | _ => .int
theorem nmX6 : ∀ a, a < 9 → ∀ b, b < 9 → a ≠ b → (TX6 a).2.1 ≠ (TX6 b).2.1 := by decide +kernel
theorem tyX6_ok : ∀ k, k < 9 → parseFieldDescriptor (TX6 k).2.2.1 = some (tyX6 k) := by decide +kernel
def RX7 : String := "SortWorks$State"
def TX7 : u_T := fun k => match k with
  | 0 => ("SortWorks$State", "time", "I", false)
  | 1 => ("SortWorks$State", "came", "I", false)
  | 2 => ("SortWorks$State", "inside", "I", false)
  | 3 => ("SortWorks$State", "given", "I", false)
  | 4 => ("SortWorks$State", "gear", "[LSortWorks$Gear;", true)
  | 5 => ("SortWorks$State", "parcels", "[LSortWorks$Parcel;", true)
  | 6 => ("SortWorks$State", "used", "[I", true)
  | 7 => ("SortWorks$State", "findings", "LSortWorks$Log;", true)
  | 8 => ("SortWorks$State", "outs", "LSortWorks$Log;", true)
  | _ => ("SortWorks$State", "kept", "[I", true)
def tyX7 : Nat → FieldType := fun k => match k with
  | 0 => .int
  | 1 => .int
  | 2 => .int
  | 3 => .int
  | 4 => .array (.object "SortWorks$Gear")
  | 5 => .array (.object "SortWorks$Parcel")
  | 6 => .array .int
  | 7 => .object "SortWorks$Log"
  | 8 => .object "SortWorks$Log"
  | _ => .array .int
theorem nmX7 : ∀ a, a < 10 → ∀ b, b < 10 → a ≠ b → (TX7 a).2.1 ≠ (TX7 b).2.1 := by decide +kernel
theorem tyX7_ok : ∀ k, k < 10 → parseFieldDescriptor (TX7 k).2.2.1 = some (tyX7 k) := by decide +kernel
def RX8 : String := "SortWorks$Step"
def TX8 : u_T := fun k => match k with
  | 0 => ("SortWorks$Step", "reading", "LSortWorks$Reading;", true)
  | 1 => ("SortWorks$Step", "numbers", "LSortWorks$Numbers;", false)
  | 2 => ("SortWorks$Step", "works", "LSortWorks$Works;", false)
  | 3 => ("SortWorks$Step", "now", "LSortWorks$State;", false)
  | _ => ("SortWorks$Step", "found", "Z", false)
def tyX8 : Nat → FieldType := fun k => match k with
  | 0 => .object "SortWorks$Reading"
  | 1 => .object "SortWorks$Numbers"
  | 2 => .object "SortWorks$Works"
  | 3 => .object "SortWorks$State"
  | _ => .boolean
theorem nmX8 : ∀ a, a < 5 → ∀ b, b < 5 → a ≠ b → (TX8 a).2.1 ≠ (TX8 b).2.1 := by decide +kernel
theorem tyX8_ok : ∀ k, k < 5 → parseFieldDescriptor (TX8 k).2.2.1 = some (tyX8 k) := by decide +kernel
def RX9 : String := "SortWorks$Works"
def TX9 : u_T := fun k => match k with
  | 0 => ("SortWorks$Works", "number", "I", true)
  | 1 => ("SortWorks$Works", "now", "LSortWorks$State;", true)
  | 2 => ("SortWorks$Works", "gearCount", "I", false)
  | 3 => ("SortWorks$Works", "rules", "LSortWorks$Rules;", true)
  | 4 => ("SortWorks$Works", "plans", "[[I", true)
  | 5 => ("SortWorks$Works", "planLengths", "[I", true)
  | 6 => ("SortWorks$Works", "planCount", "I", false)
  | 7 => ("SortWorks$Works", "groups", "[[I", true)
  | 8 => ("SortWorks$Works", "groupTypes", "[I", true)
  | 9 => ("SortWorks$Works", "groupSizes", "[I", true)
  | 10 => ("SortWorks$Works", "trace", "[I", true)
  | 11 => ("SortWorks$Works", "traced", "I", false)
  | 12 => ("SortWorks$Works", "keptNext", "I", false)
  | 13 => ("SortWorks$Works", "keptCount", "I", false)
  | _ => ("SortWorks$Works", "fewest", "[I", true)
def tyX9 : Nat → FieldType := fun k => match k with
  | 0 => .int
  | 1 => .object "SortWorks$State"
  | 2 => .int
  | 3 => .object "SortWorks$Rules"
  | 4 => .array (.array .int)
  | 5 => .array .int
  | 6 => .int
  | 7 => .array (.array .int)
  | 8 => .array .int
  | 9 => .array .int
  | 10 => .array .int
  | 11 => .int
  | 12 => .int
  | 13 => .int
  | _ => .array .int
theorem nmX9 : ∀ a, a < 15 → ∀ b, b < 15 → a ≠ b → (TX9 a).2.1 ≠ (TX9 b).2.1 := by decide +kernel
theorem tyX9_ok : ∀ k, k < 15 → parseFieldDescriptor (TX9 k).2.2.1 = some (tyX9 k) := by decide +kernel
def RX10 : String := "SortWorks"
def TX10 : u_T := fun k => match k with
  | 0 => ("SortWorks", "works", "[LSortWorks$Works;", true)
  | 1 => ("SortWorks", "hand", "LSortWorks$Works;", false)
  | 2 => ("SortWorks", "numbers", "LSortWorks$Numbers;", true)
  | 3 => ("SortWorks", "stepper", "LSortWorks$Step;", true)
  | 4 => ("SortWorks", "judge", "LSortWorks$Judge;", true)
  | 5 => ("SortWorks", "letters", "[I", true)
  | 6 => ("SortWorks", "typed", "I", false)
  | 7 => ("SortWorks", "faults", "I", false)
  | _ => ("SortWorks", "status", "I", false)
def tyX10 : Nat → FieldType := fun k => match k with
  | 0 => .array (.object "SortWorks$Works")
  | 1 => .object "SortWorks$Works"
  | 2 => .object "SortWorks$Numbers"
  | 3 => .object "SortWorks$Step"
  | 4 => .object "SortWorks$Judge"
  | 5 => .array .int
  | 6 => .int
  | 7 => .int
  | _ => .int
theorem nmX10 : ∀ a, a < 9 → ∀ b, b < 9 → a ≠ b → (TX10 a).2.1 ≠ (TX10 b).2.1 := by decide +kernel
theorem tyX10_ok : ∀ k, k < 9 → parseFieldDescriptor (TX10 k).2.2.1 = some (tyX10 k) := by decide +kernel
def RX11 : String := "SortWorksModel"
def TX11 : u_T := fun k => match k with
  | 0 => ("SortWorksModel", "w", "I", false)
  | 1 => ("SortWorksModel", "status", "I", false)
  | 2 => ("SortWorksModel", "houseFaults", "I", false)
  | 3 => ("SortWorksModel", "gears", "[I", true)
  | 4 => ("SortWorksModel", "time", "[I", true)
  | 5 => ("SortWorksModel", "kind", "[I", true)
  | 6 => ("SortWorksModel", "length", "[I", true)
  | 7 => ("SortWorksModel", "linkMany", "[I", true)
  | 8 => ("SortWorksModel", "link", "[I", true)
  | 9 => ("SortWorksModel", "rank", "[I", true)
  | 10 => ("SortWorksModel", "side", "[I", true)
  | 11 => ("SortWorksModel", "sets", "[J", true)
  | 12 => ("SortWorksModel", "last", "[I", true)
  | 13 => ("SortWorksModel", "releases", "[I", true)
  | 14 => ("SortWorksModel", "open", "[Z", true)
  | 15 => ("SortWorksModel", "dial", "[I", true)
  | 16 => ("SortWorksModel", "wait", "[I", true)
  | 17 => ("SortWorksModel", "lamp", "[I", true)
  | 18 => ("SortWorksModel", "came", "[I", true)
  | 19 => ("SortWorksModel", "went", "[I", true)
  | 20 => ("SortWorksModel", "found", "[I", true)
  | 21 => ("SortWorksModel", "acts", "[I", true)
  | 22 => ("SortWorksModel", "slots", "[I", true)
  | 23 => ("SortWorksModel", "numbers", "I", false)
  | 24 => ("SortWorksModel", "pWorks", "[I", true)
  | 25 => ("SortWorksModel", "pWhere", "[I", true)
  | 26 => ("SortWorksModel", "pGear", "[I", true)
  | 27 => ("SortWorksModel", "pSlot", "[I", true)
  | 28 => ("SortWorksModel", "pWeight", "[I", true)
  | 29 => ("SortWorksModel", "pSize", "[I", true)
  | 30 => ("SortWorksModel", "pTarget", "[I", true)
  | 31 => ("SortWorksModel", "pLabel", "[I", true)
  | 32 => ("SortWorksModel", "pByte", "[I", true)
  | 33 => ("SortWorksModel", "pWays", "[I", true)
  | 34 => ("SortWorksModel", "pWay", "[I", true)
  | 35 => ("SortWorksModel", "pScanned", "[Z", true)
  | 36 => ("SortWorksModel", "pMoved", "[Z", true)
  | 37 => ("SortWorksModel", "pDoor", "[I", true)
  | 38 => ("SortWorksModel", "inside", "[I", true)
  | 39 => ("SortWorksModel", "arrived", "[I", true)
  | 40 => ("SortWorksModel", "outMany", "[I", true)
  | 41 => ("SortWorksModel", "outs", "[I", true)
  | 42 => ("SortWorksModel", "findings", "[I", true)
  | 43 => ("SortWorksModel", "finding", "[I", true)
  | 44 => ("SortWorksModel", "traced", "[I", true)
  | 45 => ("SortWorksModel", "traces", "[I", true)
  | 46 => ("SortWorksModel", "letters", "[I", true)
  | 47 => ("SortWorksModel", "typed", "I", false)
  | 48 => ("SortWorksModel", "rules", "[I", true)
  | 49 => ("SortWorksModel", "ruleTo", "[I", true)
  | 50 => ("SortWorksModel", "ruleTests", "[I", true)
  | 51 => ("SortWorksModel", "ruleUsed", "[I", true)
  | 52 => ("SortWorksModel", "testWhat", "[I", true)
  | 53 => ("SortWorksModel", "testGear", "[I", true)
  | 54 => ("SortWorksModel", "testSign", "[I", true)
  | 55 => ("SortWorksModel", "testNumber", "[I", true)
  | 56 => ("SortWorksModel", "plans", "[I", true)
  | 57 => ("SortWorksModel", "planMany", "[I", true)
  | 58 => ("SortWorksModel", "planRow", "[I", true)
  | 59 => ("SortWorksModel", "groupMany", "[I", true)
  | 60 => ("SortWorksModel", "groupType", "[I", true)
  | 61 => ("SortWorksModel", "groupGear", "[I", true)
  | 62 => ("SortWorksModel", "newTo", "[I", true)
  | 63 => ("SortWorksModel", "newTests", "[I", true)
  | 64 => ("SortWorksModel", "newWhat", "[I", true)
  | 65 => ("SortWorksModel", "newGear", "[I", true)
  | 66 => ("SortWorksModel", "newSign", "[I", true)
  | 67 => ("SortWorksModel", "newNumber", "[I", true)
  | 68 => ("SortWorksModel", "at", "I", false)
  | 69 => ("SortWorksModel", "wrongAt", "I", false)
  | 70 => ("SortWorksModel", "read", "I", false)
  | 71 => ("SortWorksModel", "actGear", "I", false)
  | 72 => ("SortWorksModel", "actFound", "I", false)
  | 73 => ("SortWorksModel", "reached", "I", false)
  | 74 => ("SortWorksModel", "chosen", "[I", true)
  | 75 => ("SortWorksModel", "place", "I", false)
  | 76 => ("SortWorksModel", "weight", "I", false)
  | 77 => ("SortWorksModel", "size", "I", false)
  | 78 => ("SortWorksModel", "readFault", "I", false)
  | 79 => ("SortWorksModel", "six", "[I", true)
  | 80 => ("SortWorksModel", "quotient", "I", false)
  | 81 => ("SortWorksModel", "kept", "[I", true)
  | 82 => ("SortWorksModel", "keptFirst", "[I", true)
  | 83 => ("SortWorksModel", "rows", "[I", true)
  | 84 => ("SortWorksModel", "to", "I", false)
  | 85 => ("SortWorksModel", "isPutting", "Z", false)
  | 86 => ("SortWorksModel", "saidAt", "I", false)
  | 87 => ("SortWorksModel", "saidLetter", "I", false)
  | 88 => ("SortWorksModel", "away", "[I", true)
  | _ => ("SortWorksModel", "sum", "J", false)
def tyX11 : Nat → FieldType := fun k => match k with
  | 0 => .int
  | 1 => .int
  | 2 => .int
  | 3 => .array .int
  | 4 => .array .int
  | 5 => .array .int
  | 6 => .array .int
  | 7 => .array .int
  | 8 => .array .int
  | 9 => .array .int
  | 10 => .array .int
  | 11 => .array .long
  | 12 => .array .int
  | 13 => .array .int
  | 14 => .array .boolean
  | 15 => .array .int
  | 16 => .array .int
  | 17 => .array .int
  | 18 => .array .int
  | 19 => .array .int
  | 20 => .array .int
  | 21 => .array .int
  | 22 => .array .int
  | 23 => .int
  | 24 => .array .int
  | 25 => .array .int
  | 26 => .array .int
  | 27 => .array .int
  | 28 => .array .int
  | 29 => .array .int
  | 30 => .array .int
  | 31 => .array .int
  | 32 => .array .int
  | 33 => .array .int
  | 34 => .array .int
  | 35 => .array .boolean
  | 36 => .array .boolean
  | 37 => .array .int
  | 38 => .array .int
  | 39 => .array .int
  | 40 => .array .int
  | 41 => .array .int
  | 42 => .array .int
  | 43 => .array .int
  | 44 => .array .int
  | 45 => .array .int
  | 46 => .array .int
  | 47 => .int
  | 48 => .array .int
  | 49 => .array .int
  | 50 => .array .int
  | 51 => .array .int
  | 52 => .array .int
  | 53 => .array .int
  | 54 => .array .int
  | 55 => .array .int
  | 56 => .array .int
  | 57 => .array .int
  | 58 => .array .int
  | 59 => .array .int
  | 60 => .array .int
  | 61 => .array .int
  | 62 => .array .int
  | 63 => .array .int
  | 64 => .array .int
  | 65 => .array .int
  | 66 => .array .int
  | 67 => .array .int
  | 68 => .int
  | 69 => .int
  | 70 => .int
  | 71 => .int
  | 72 => .int
  | 73 => .int
  | 74 => .array .int
  | 75 => .int
  | 76 => .int
  | 77 => .int
  | 78 => .int
  | 79 => .array .int
  | 80 => .int
  | 81 => .array .int
  | 82 => .array .int
  | 83 => .array .int
  | 84 => .int
  | 85 => .boolean
  | 86 => .int
  | 87 => .int
  | 88 => .array .int
  | _ => .long
theorem nmX11 : ∀ a, a < 90 → ∀ b, b < 90 → a ≠ b → (TX11 a).2.1 ≠ (TX11 b).2.1 := by decide +kernel
theorem tyX11_ok : ∀ k, k < 90 → parseFieldDescriptor (TX11 k).2.2.1 = some (tyX11 k) := by decide +kernel
def sw_cl : List vw_C := [(RX0, TX0, 20), (RX1, TX1, 4), (RX2, TX2, 6), (RX3, TX3, 2), (RX4, TX4, 14), (RX5, TX5, 5), (RX6, TX6, 9), (RX7, TX7, 10), (RX8, TX8, 5), (RX9, TX9, 15), (RX10, TX10, 9), (RX11, TX11, 90)]
def sw_ty : Nat → Nat → FieldType := fun c k => match c with
  | 0 => tyX0 k
  | 1 => tyX1 k
  | 2 => tyX2 k
  | 3 => tyX3 k
  | 4 => tyX4 k
  | 5 => tyX5 k
  | 6 => tyX6 k
  | 7 => tyX7 k
  | 8 => tyX8 k
  | 9 => tyX9 k
  | 10 => tyX10 k
  | _ => tyX11 k
def sw_at : List FieldType := [.int, .long, .boolean, .array .int, .object RX9, .object RX0, .object RX4]
def sw_st : List (String × String) := [("SortWorks", "RANKS"), ("SortWorks", "LINKS_AHEAD"), ("SortWorks", "PACES"), ("SortWorks", "BODIES")]
def sw_tbs : List (List Int) := [[1, 2, 1, 1, 4, 3, 3, 1, 1, 0, 0], [1, 1, 1, 1, 1, 2, 3, 0, 1, 0, 0], [1, 2, 1, 1, 2, 1, 1, 1, 1, 1, 1], [1, 0, 0, 2, 1, 0, 3, 1, 0, 4, 1, 0, 5, 4, 1, 6, 0, 0, 7, 6, 0, 8, 0, 0, 9, 0, 0, 10, 0, 0, 11, 0, 0]]
def sw_tab (j i : Nat) : Int := (sw_tbs.getD j []).getD i 0
def sw_tl (j : Nat) : Nat := (sw_tbs.getD j []).length
def sw_ao : List String := [RX9, RX0, RX4]
def sw_nf : List (String × Nat × String × String × String × String) := [("SortWorks$Gear", 38, "SortWorks", "RANKS", "[I", "SortWorks"), ("SortWorks$Gear", 114, "SortWorks", "LINKS_AHEAD", "[I", "SortWorks"), ("SortWorks$Step", 93, "SortWorks", "PACES", "[I", "SortWorks"), ("SortWorks$Step", 194, "SortWorks", "BODIES", "[I", "SortWorks"), ("SortWorks$Gear", 130, "SortWorks", "PACES", "[I", "SortWorks"), ("SortWorks$Works", 141, "SortWorks", "LINKS_AHEAD", "[I", "SortWorks")]
def sw_nm : List (String × Nat × MethodName × String) := [("SortWorks$State", 42, ⟨"SortWorks$Gear", "<init>", "()V"⟩, "SortWorks"), ("SortWorks$Works", 20, ⟨"SortWorks$Rules", "<init>", "()V"⟩, "SortWorks"), ("SortWorks", 24, ⟨"SortWorks$Numbers", "<init>", "()V"⟩, "SortWorks"), ("SortWorks", 31, ⟨"SortWorks$Step", "<init>", "()V"⟩, "SortWorks"), ("SortWorks$Step", 11, ⟨"SortWorks$Reading", "<init>", "()V"⟩, "SortWorks"), ("SortWorks", 38, ⟨"SortWorks$Judge", "<init>", "()V"⟩, "SortWorks"), ("SortWorks$Judge", 11, ⟨"SortWorks$Rules", "<init>", "()V"⟩, "SortWorks"), ("SortWorks$Gear", 97, ⟨"SortWorks", "isTakerKind", "(I)Z"⟩, "SortWorks")]
def sw_gw : List Cond := lw_tbl.filter goodWord
