section
-- ===== PART A: goes FIRST, ahead of the names: the tables' words, and 'selects' of the private methods out of them =====
/-- a private method of a class that the tables say can be made, by its rows of tables_1 -/
def lw_okq (q : MethodName × Nat) : Prop := (q.1.cls ≠ "java/lang/invoke/MethodHandle" ∧ q.1.cls ≠ "java/lang/invoke/VarHandle") ∧ Cond.instantiable q.1.cls q.2 ∈ tables_1 ∧ Cond.privateMethod q.1 ∈ tables_1 ∧ Cond.instanceMethod q.1 ∈ tables_1
theorem lw_p0 : lw_okq (⟨"YesNoPowers", "hold", "(I)I"⟩, 8) := ⟨⟨by decide +kernel, by decide +kernel⟩, List.mem_of_getElem? (i := 16) (by decide +kernel), List.mem_of_getElem? (i := 301) (by decide +kernel), List.mem_of_getElem? (i := 302) (by decide +kernel)⟩
theorem lw_p1 : lw_okq (⟨"YesNoPowers", "noMember", "(II)Z"⟩, 8) := ⟨⟨by decide +kernel, by decide +kernel⟩, List.mem_of_getElem? (i := 16) (by decide +kernel), List.mem_of_getElem? (i := 321) (by decide +kernel), List.mem_of_getElem? (i := 322) (by decide +kernel)⟩
theorem lw_p2 : lw_okq (⟨"YesNoPowers", "noTable", "(I)Z"⟩, 8) := ⟨⟨by decide +kernel, by decide +kernel⟩, List.mem_of_getElem? (i := 16) (by decide +kernel), List.mem_of_getElem? (i := 325) (by decide +kernel), List.mem_of_getElem? (i := 326) (by decide +kernel)⟩
theorem lw_p3 : lw_okq (⟨"YesNoPowers", "isOwnSquare", "(LYesNoPowers$Table;)Z"⟩, 8) := ⟨⟨by decide +kernel, by decide +kernel⟩, List.mem_of_getElem? (i := 16) (by decide +kernel), List.mem_of_getElem? (i := 469) (by decide +kernel), List.mem_of_getElem? (i := 470) (by decide +kernel)⟩
theorem lw_p4 : lw_okq (⟨"YesNoPowers", "isOwnTranspose", "(LYesNoPowers$Table;)Z"⟩, 8) := ⟨⟨by decide +kernel, by decide +kernel⟩, List.mem_of_getElem? (i := 16) (by decide +kernel), List.mem_of_getElem? (i := 473) (by decide +kernel), List.mem_of_getElem? (i := 474) (by decide +kernel)⟩
theorem lw_p5 : lw_okq (⟨"YesNoPowers$Powers", "findPeriod", "(LYesNoPowers$Table;)V"⟩, 4) := ⟨⟨by decide +kernel, by decide +kernel⟩, List.mem_of_getElem? (i := 70) (by decide +kernel), List.mem_of_getElem? (i := 481) (by decide +kernel), List.mem_of_getElem? (i := 482) (by decide +kernel)⟩
theorem lw_p6 : lw_okq (⟨"YesNoPowers$Powers", "findIndex", "(LYesNoPowers$Table;)V"⟩, 4) := ⟨⟨by decide +kernel, by decide +kernel⟩, List.mem_of_getElem? (i := 70) (by decide +kernel), List.mem_of_getElem? (i := 486) (by decide +kernel), List.mem_of_getElem? (i := 487) (by decide +kernel)⟩
theorem lw_p7 : lw_okq (⟨"YesNoPowers$Rings", "findClasses", "(LYesNoPowers$Table;)V"⟩, 11) := ⟨⟨by decide +kernel, by decide +kernel⟩, List.mem_of_getElem? (i := 93) (by decide +kernel), List.mem_of_getElem? (i := 510) (by decide +kernel), List.mem_of_getElem? (i := 511) (by decide +kernel)⟩
theorem lw_p8 : lw_okq (⟨"YesNoPowers$Rings", "settle", "(II)V"⟩, 11) := ⟨⟨by decide +kernel, by decide +kernel⟩, List.mem_of_getElem? (i := 93) (by decide +kernel), List.mem_of_getElem? (i := 517) (by decide +kernel), List.mem_of_getElem? (i := 518) (by decide +kernel)⟩
theorem lw_p9 : lw_okq (⟨"YesNoPowers$Rings", "findGirths", "(LYesNoPowers$Table;)V"⟩, 11) := ⟨⟨by decide +kernel, by decide +kernel⟩, List.mem_of_getElem? (i := 93) (by decide +kernel), List.mem_of_getElem? (i := 521) (by decide +kernel), List.mem_of_getElem? (i := 522) (by decide +kernel)⟩
theorem lw_p10 : lw_okq (⟨"YesNoPowers$Rings", "findLevels", "(LYesNoPowers$Table;)V"⟩, 11) := ⟨⟨by decide +kernel, by decide +kernel⟩, List.mem_of_getElem? (i := 93) (by decide +kernel), List.mem_of_getElem? (i := 527) (by decide +kernel), List.mem_of_getElem? (i := 528) (by decide +kernel)⟩
theorem lw_p11 : lw_okq (⟨"YesNoPowers$Rings", "raiseLevels", "(LYesNoPowers$Table;I)V"⟩, 11) := ⟨⟨by decide +kernel, by decide +kernel⟩, List.mem_of_getElem? (i := 93) (by decide +kernel), List.mem_of_getElem? (i := 531) (by decide +kernel), List.mem_of_getElem? (i := 532) (by decide +kernel)⟩
theorem lw_p12 : lw_okq (⟨"YesNoPowers$Rings", "findDistances", "(LYesNoPowers$Table;I)V"⟩, 11) := ⟨⟨by decide +kernel, by decide +kernel⟩, List.mem_of_getElem? (i := 93) (by decide +kernel), List.mem_of_getElem? (i := 535) (by decide +kernel), List.mem_of_getElem? (i := 536) (by decide +kernel)⟩
theorem lw_p13 : lw_okq (⟨"YesNoPowers$Rings", "findPeriod", "(LYesNoPowers$Table;I)V"⟩, 11) := ⟨⟨by decide +kernel, by decide +kernel⟩, List.mem_of_getElem? (i := 93) (by decide +kernel), List.mem_of_getElem? (i := 539) (by decide +kernel), List.mem_of_getElem? (i := 540) (by decide +kernel)⟩
theorem lw_p14 : lw_okq (⟨"YesNoPowers$Rings", "findBelow", "(I)V"⟩, 11) := ⟨⟨by decide +kernel, by decide +kernel⟩, List.mem_of_getElem? (i := 93) (by decide +kernel), List.mem_of_getElem? (i := 549) (by decide +kernel), List.mem_of_getElem? (i := 550) (by decide +kernel)⟩
theorem lw_p15 : lw_okq (⟨"YesNoPowers", "readsClass", "(II)Z"⟩, 8) := ⟨⟨by decide +kernel, by decide +kernel⟩, List.mem_of_getElem? (i := 16) (by decide +kernel), List.mem_of_getElem? (i := 569) (by decide +kernel), List.mem_of_getElem? (i := 570) (by decide +kernel)⟩
def lw_privs_1 : List (MethodName × Nat) := [(⟨"YesNoPowers", "hold", "(I)I"⟩, 8), (⟨"YesNoPowers", "noMember", "(II)Z"⟩, 8), (⟨"YesNoPowers", "noTable", "(I)Z"⟩, 8), (⟨"YesNoPowers", "isOwnSquare", "(LYesNoPowers$Table;)Z"⟩, 8), (⟨"YesNoPowers", "isOwnTranspose", "(LYesNoPowers$Table;)Z"⟩, 8), (⟨"YesNoPowers$Powers", "findPeriod", "(LYesNoPowers$Table;)V"⟩, 4), (⟨"YesNoPowers$Powers", "findIndex", "(LYesNoPowers$Table;)V"⟩, 4), (⟨"YesNoPowers$Rings", "findClasses", "(LYesNoPowers$Table;)V"⟩, 11), (⟨"YesNoPowers$Rings", "settle", "(II)V"⟩, 11), (⟨"YesNoPowers$Rings", "findGirths", "(LYesNoPowers$Table;)V"⟩, 11), (⟨"YesNoPowers$Rings", "findLevels", "(LYesNoPowers$Table;)V"⟩, 11), (⟨"YesNoPowers$Rings", "raiseLevels", "(LYesNoPowers$Table;I)V"⟩, 11), (⟨"YesNoPowers$Rings", "findDistances", "(LYesNoPowers$Table;I)V"⟩, 11), (⟨"YesNoPowers$Rings", "findPeriod", "(LYesNoPowers$Table;I)V"⟩, 11), (⟨"YesNoPowers$Rings", "findBelow", "(I)V"⟩, 11), (⟨"YesNoPowers", "readsClass", "(II)Z"⟩, 8)]
theorem lw_r1 : ∀ q ∈ lw_privs_1, lw_okq q := List.forall_mem_cons.mpr ⟨lw_p0, List.forall_mem_cons.mpr ⟨lw_p1, List.forall_mem_cons.mpr ⟨lw_p2, List.forall_mem_cons.mpr ⟨lw_p3, List.forall_mem_cons.mpr ⟨lw_p4, List.forall_mem_cons.mpr ⟨lw_p5, List.forall_mem_cons.mpr ⟨lw_p6, List.forall_mem_cons.mpr ⟨lw_p7, List.forall_mem_cons.mpr ⟨lw_p8, List.forall_mem_cons.mpr ⟨lw_p9, List.forall_mem_cons.mpr ⟨lw_p10, List.forall_mem_cons.mpr ⟨lw_p11, List.forall_mem_cons.mpr ⟨lw_p12, List.forall_mem_cons.mpr ⟨lw_p13, List.forall_mem_cons.mpr ⟨lw_p14, List.forall_mem_cons.mpr ⟨lw_p15, fun _ h => absurd h List.not_mem_nil⟩⟩⟩⟩⟩⟩⟩⟩⟩⟩⟩⟩⟩⟩⟩⟩
theorem lw_p16 : lw_okq (⟨"YesNoPowers$Spaces", "isMadeUp", "(LYesNoPowers$Table;I)Z"⟩, 5) := ⟨⟨by decide +kernel, by decide +kernel⟩, List.mem_of_getElem? (i := 143) (by decide +kernel), List.mem_of_getElem? (i := 620) (by decide +kernel), List.mem_of_getElem? (i := 621) (by decide +kernel)⟩
theorem lw_p17 : lw_okq (⟨"YesNoPowers$Spaces", "spansRows", "(LYesNoPowers$Table;LYesNoPowers$Table;)Z"⟩, 5) := ⟨⟨by decide +kernel, by decide +kernel⟩, List.mem_of_getElem? (i := 143) (by decide +kernel), List.mem_of_getElem? (i := 642) (by decide +kernel), List.mem_of_getElem? (i := 643) (by decide +kernel)⟩
theorem lw_p18 : lw_okq (⟨"YesNoPowers", "badForKind", "(II)Z"⟩, 8) := ⟨⟨by decide +kernel, by decide +kernel⟩, List.mem_of_getElem? (i := 16) (by decide +kernel), List.mem_of_getElem? (i := 686) (by decide +kernel), List.mem_of_getElem? (i := 687) (by decide +kernel)⟩
theorem lw_p19 : lw_okq (⟨"YesNoPowers$Chain", "partner", "(LYesNoPowers$Link;[LYesNoPowers$Table;)LYesNoPowers$Table;"⟩, 11) := ⟨⟨by decide +kernel, by decide +kernel⟩, List.mem_of_getElem? (i := 167) (by decide +kernel), List.mem_of_getElem? (i := 708) (by decide +kernel), List.mem_of_getElem? (i := 709) (by decide +kernel)⟩
theorem lw_p20 : lw_okq (⟨"YesNoPowers$Chain", "change", "(LYesNoPowers$Link;LYesNoPowers$Table;)V"⟩, 11) := ⟨⟨by decide +kernel, by decide +kernel⟩, List.mem_of_getElem? (i := 167) (by decide +kernel), List.mem_of_getElem? (i := 712) (by decide +kernel), List.mem_of_getElem? (i := 713) (by decide +kernel)⟩
theorem lw_p21 : lw_okq (⟨"YesNoPowers$Chain", "giveReasons", "(ILYesNoPowers$Table;)V"⟩, 11) := ⟨⟨by decide +kernel, by decide +kernel⟩, List.mem_of_getElem? (i := 167) (by decide +kernel), List.mem_of_getElem? (i := 726) (by decide +kernel), List.mem_of_getElem? (i := 727) (by decide +kernel)⟩
theorem lw_p22 : lw_okq (⟨"YesNoPowers$Chain", "giveBack", "()V"⟩, 11) := ⟨⟨by decide +kernel, by decide +kernel⟩, List.mem_of_getElem? (i := 167) (by decide +kernel), List.mem_of_getElem? (i := 730) (by decide +kernel), List.mem_of_getElem? (i := 731) (by decide +kernel)⟩
theorem lw_p23 : lw_okq (⟨"YesNoPowers$Log", "latest", "()I"⟩, 4) := ⟨⟨by decide +kernel, by decide +kernel⟩, List.mem_of_getElem? (i := 28) (by decide +kernel), List.mem_of_getElem? (i := 758) (by decide +kernel), List.mem_of_getElem? (i := 759) (by decide +kernel)⟩
theorem lw_p24 : lw_okq (⟨"YesNoPowers", "heldTables", "()I"⟩, 8) := ⟨⟨by decide +kernel, by decide +kernel⟩, List.mem_of_getElem? (i := 16) (by decide +kernel), List.mem_of_getElem? (i := 798) (by decide +kernel), List.mem_of_getElem? (i := 799) (by decide +kernel)⟩
theorem lw_p25 : lw_okq (⟨"YesNoPowers", "presentSheets", "()I"⟩, 8) := ⟨⟨by decide +kernel, by decide +kernel⟩, List.mem_of_getElem? (i := 16) (by decide +kernel), List.mem_of_getElem? (i := 802) (by decide +kernel), List.mem_of_getElem? (i := 803) (by decide +kernel)⟩
theorem lw_p26 : lw_okq (⟨"YesNoPowersModel", "copyTo", "(II)V"⟩, 24) := ⟨⟨by decide +kernel, by decide +kernel⟩, List.mem_of_getElem? (i := 806) (by decide +kernel), List.mem_of_getElem? (i := 890) (by decide +kernel), List.mem_of_getElem? (i := 891) (by decide +kernel)⟩
theorem lw_p27 : lw_okq (⟨"YesNoPowersModel", "empty", "(II)V"⟩, 24) := ⟨⟨by decide +kernel, by decide +kernel⟩, List.mem_of_getElem? (i := 806) (by decide +kernel), List.mem_of_getElem? (i := 906) (by decide +kernel), List.mem_of_getElem? (i := 907) (by decide +kernel)⟩
theorem lw_p28 : lw_okq (⟨"YesNoPowersModel", "comes", "(I)I"⟩, 24) := ⟨⟨by decide +kernel, by decide +kernel⟩, List.mem_of_getElem? (i := 806) (by decide +kernel), List.mem_of_getElem? (i := 910) (by decide +kernel), List.mem_of_getElem? (i := 911) (by decide +kernel)⟩
theorem lw_p29 : lw_okq (⟨"YesNoPowersModel", "logs", "(I)V"⟩, 24) := ⟨⟨by decide +kernel, by decide +kernel⟩, List.mem_of_getElem? (i := 806) (by decide +kernel), List.mem_of_getElem? (i := 914) (by decide +kernel), List.mem_of_getElem? (i := 915) (by decide +kernel)⟩
theorem lw_p30 : lw_okq (⟨"YesNoPowersModel", "holds", "(I)Z"⟩, 24) := ⟨⟨by decide +kernel, by decide +kernel⟩, List.mem_of_getElem? (i := 806) (by decide +kernel), List.mem_of_getElem? (i := 922) (by decide +kernel), List.mem_of_getElem? (i := 923) (by decide +kernel)⟩
theorem lw_p31 : lw_okq (⟨"YesNoPowersModel", "isMember", "(II)Z"⟩, 24) := ⟨⟨by decide +kernel, by decide +kernel⟩, List.mem_of_getElem? (i := 806) (by decide +kernel), List.mem_of_getElem? (i := 926) (by decide +kernel), List.mem_of_getElem? (i := 927) (by decide +kernel)⟩
def lw_privs_2 : List (MethodName × Nat) := [(⟨"YesNoPowers$Spaces", "isMadeUp", "(LYesNoPowers$Table;I)Z"⟩, 5), (⟨"YesNoPowers$Spaces", "spansRows", "(LYesNoPowers$Table;LYesNoPowers$Table;)Z"⟩, 5), (⟨"YesNoPowers", "badForKind", "(II)Z"⟩, 8), (⟨"YesNoPowers$Chain", "partner", "(LYesNoPowers$Link;[LYesNoPowers$Table;)LYesNoPowers$Table;"⟩, 11), (⟨"YesNoPowers$Chain", "change", "(LYesNoPowers$Link;LYesNoPowers$Table;)V"⟩, 11), (⟨"YesNoPowers$Chain", "giveReasons", "(ILYesNoPowers$Table;)V"⟩, 11), (⟨"YesNoPowers$Chain", "giveBack", "()V"⟩, 11), (⟨"YesNoPowers$Log", "latest", "()I"⟩, 4), (⟨"YesNoPowers", "heldTables", "()I"⟩, 8), (⟨"YesNoPowers", "presentSheets", "()I"⟩, 8), (⟨"YesNoPowersModel", "copyTo", "(II)V"⟩, 24), (⟨"YesNoPowersModel", "empty", "(II)V"⟩, 24), (⟨"YesNoPowersModel", "comes", "(I)I"⟩, 24), (⟨"YesNoPowersModel", "logs", "(I)V"⟩, 24), (⟨"YesNoPowersModel", "holds", "(I)Z"⟩, 24), (⟨"YesNoPowersModel", "isMember", "(II)Z"⟩, 24)]
theorem lw_r2 : ∀ q ∈ lw_privs_2, lw_okq q := List.forall_mem_cons.mpr ⟨lw_p16, List.forall_mem_cons.mpr ⟨lw_p17, List.forall_mem_cons.mpr ⟨lw_p18, List.forall_mem_cons.mpr ⟨lw_p19, List.forall_mem_cons.mpr ⟨lw_p20, List.forall_mem_cons.mpr ⟨lw_p21, List.forall_mem_cons.mpr ⟨lw_p22, List.forall_mem_cons.mpr ⟨lw_p23, List.forall_mem_cons.mpr ⟨lw_p24, List.forall_mem_cons.mpr ⟨lw_p25, List.forall_mem_cons.mpr ⟨lw_p26, List.forall_mem_cons.mpr ⟨lw_p27, List.forall_mem_cons.mpr ⟨lw_p28, List.forall_mem_cons.mpr ⟨lw_p29, List.forall_mem_cons.mpr ⟨lw_p30, List.forall_mem_cons.mpr ⟨lw_p31, fun _ h => absurd h List.not_mem_nil⟩⟩⟩⟩⟩⟩⟩⟩⟩⟩⟩⟩⟩⟩⟩⟩
theorem lw_p32 : lw_okq (⟨"YesNoPowersModel", "leads", "(III)Z"⟩, 24) := ⟨⟨by decide +kernel, by decide +kernel⟩, List.mem_of_getElem? (i := 806) (by decide +kernel), List.mem_of_getElem? (i := 930) (by decide +kernel), List.mem_of_getElem? (i := 931) (by decide +kernel)⟩
theorem lw_p33 : lw_okq (⟨"YesNoPowersModel", "row", "(II)I"⟩, 24) := ⟨⟨by decide +kernel, by decide +kernel⟩, List.mem_of_getElem? (i := 806) (by decide +kernel), List.mem_of_getElem? (i := 934) (by decide +kernel), List.mem_of_getElem? (i := 935) (by decide +kernel)⟩
theorem lw_p34 : lw_okq (⟨"YesNoPowersModel", "column", "(II)I"⟩, 24) := ⟨⟨by decide +kernel, by decide +kernel⟩, List.mem_of_getElem? (i := 806) (by decide +kernel), List.mem_of_getElem? (i := 946) (by decide +kernel), List.mem_of_getElem? (i := 947) (by decide +kernel)⟩
theorem lw_p35 : lw_okq (⟨"YesNoPowersModel", "isSet", "(II)Z"⟩, 24) := ⟨⟨by decide +kernel, by decide +kernel⟩, List.mem_of_getElem? (i := 806) (by decide +kernel), List.mem_of_getElem? (i := 954) (by decide +kernel), List.mem_of_getElem? (i := 955) (by decide +kernel)⟩
theorem lw_p36 : lw_okq (⟨"YesNoPowersModel", "multiply", "(III)V"⟩, 24) := ⟨⟨by decide +kernel, by decide +kernel⟩, List.mem_of_getElem? (i := 806) (by decide +kernel), List.mem_of_getElem? (i := 962) (by decide +kernel), List.mem_of_getElem? (i := 963) (by decide +kernel)⟩
theorem lw_p37 : lw_okq (⟨"YesNoPowersModel", "addTo", "(II)V"⟩, 24) := ⟨⟨by decide +kernel, by decide +kernel⟩, List.mem_of_getElem? (i := 806) (by decide +kernel), List.mem_of_getElem? (i := 970) (by decide +kernel), List.mem_of_getElem? (i := 971) (by decide +kernel)⟩
theorem lw_p38 : lw_okq (⟨"YesNoPowersModel", "powerTo", "(III)V"⟩, 24) := ⟨⟨by decide +kernel, by decide +kernel⟩, List.mem_of_getElem? (i := 806) (by decide +kernel), List.mem_of_getElem? (i := 979) (by decide +kernel), List.mem_of_getElem? (i := 980) (by decide +kernel)⟩
theorem lw_p39 : lw_okq (⟨"YesNoPowersModel", "unit", "(II)V"⟩, 24) := ⟨⟨by decide +kernel, by decide +kernel⟩, List.mem_of_getElem? (i := 806) (by decide +kernel), List.mem_of_getElem? (i := 983) (by decide +kernel), List.mem_of_getElem? (i := 984) (by decide +kernel)⟩
theorem lw_p40 : lw_okq (⟨"YesNoPowersModel", "transpose", "(II)V"⟩, 24) := ⟨⟨by decide +kernel, by decide +kernel⟩, List.mem_of_getElem? (i := 806) (by decide +kernel), List.mem_of_getElem? (i := 991) (by decide +kernel), List.mem_of_getElem? (i := 992) (by decide +kernel)⟩
theorem lw_p41 : lw_okq (⟨"YesNoPowersModel", "complement", "(I)V"⟩, 24) := ⟨⟨by decide +kernel, by decide +kernel⟩, List.mem_of_getElem? (i := 806) (by decide +kernel), List.mem_of_getElem? (i := 995) (by decide +kernel), List.mem_of_getElem? (i := 996) (by decide +kernel)⟩
theorem lw_p42 : lw_okq (⟨"YesNoPowersModel", "closureTo", "(II)V"⟩, 24) := ⟨⟨by decide +kernel, by decide +kernel⟩, List.mem_of_getElem? (i := 806) (by decide +kernel), List.mem_of_getElem? (i := 999) (by decide +kernel), List.mem_of_getElem? (i := 1000) (by decide +kernel)⟩
theorem lw_p43 : lw_okq (⟨"YesNoPowersModel", "greatestTo", "(II)V"⟩, 24) := ⟨⟨by decide +kernel, by decide +kernel⟩, List.mem_of_getElem? (i := 806) (by decide +kernel), List.mem_of_getElem? (i := 1003) (by decide +kernel), List.mem_of_getElem? (i := 1004) (by decide +kernel)⟩
theorem lw_p44 : lw_okq (⟨"YesNoPowersModel", "areSame", "(II)Z"⟩, 24) := ⟨⟨by decide +kernel, by decide +kernel⟩, List.mem_of_getElem? (i := 806) (by decide +kernel), List.mem_of_getElem? (i := 1015) (by decide +kernel), List.mem_of_getElem? (i := 1016) (by decide +kernel)⟩
theorem lw_p45 : lw_okq (⟨"YesNoPowersModel", "lowest", "(II)I"⟩, 24) := ⟨⟨by decide +kernel, by decide +kernel⟩, List.mem_of_getElem? (i := 806) (by decide +kernel), List.mem_of_getElem? (i := 1030) (by decide +kernel), List.mem_of_getElem? (i := 1031) (by decide +kernel)⟩
theorem lw_p46 : lw_okq (⟨"YesNoPowersModel", "layPowers", "(I)V"⟩, 24) := ⟨⟨by decide +kernel, by decide +kernel⟩, List.mem_of_getElem? (i := 806) (by decide +kernel), List.mem_of_getElem? (i := 1039) (by decide +kernel), List.mem_of_getElem? (i := 1040) (by decide +kernel)⟩
theorem lw_p47 : lw_okq (⟨"YesNoPowersModel", "isPower", "(II)Z"⟩, 24) := ⟨⟨by decide +kernel, by decide +kernel⟩, List.mem_of_getElem? (i := 806) (by decide +kernel), List.mem_of_getElem? (i := 1043) (by decide +kernel), List.mem_of_getElem? (i := 1044) (by decide +kernel)⟩
def lw_privs_3 : List (MethodName × Nat) := [(⟨"YesNoPowersModel", "leads", "(III)Z"⟩, 24), (⟨"YesNoPowersModel", "row", "(II)I"⟩, 24), (⟨"YesNoPowersModel", "column", "(II)I"⟩, 24), (⟨"YesNoPowersModel", "isSet", "(II)Z"⟩, 24), (⟨"YesNoPowersModel", "multiply", "(III)V"⟩, 24), (⟨"YesNoPowersModel", "addTo", "(II)V"⟩, 24), (⟨"YesNoPowersModel", "powerTo", "(III)V"⟩, 24), (⟨"YesNoPowersModel", "unit", "(II)V"⟩, 24), (⟨"YesNoPowersModel", "transpose", "(II)V"⟩, 24), (⟨"YesNoPowersModel", "complement", "(I)V"⟩, 24), (⟨"YesNoPowersModel", "closureTo", "(II)V"⟩, 24), (⟨"YesNoPowersModel", "greatestTo", "(II)V"⟩, 24), (⟨"YesNoPowersModel", "areSame", "(II)Z"⟩, 24), (⟨"YesNoPowersModel", "lowest", "(II)I"⟩, 24), (⟨"YesNoPowersModel", "layPowers", "(I)V"⟩, 24), (⟨"YesNoPowersModel", "isPower", "(II)Z"⟩, 24)]
theorem lw_r3 : ∀ q ∈ lw_privs_3, lw_okq q := List.forall_mem_cons.mpr ⟨lw_p32, List.forall_mem_cons.mpr ⟨lw_p33, List.forall_mem_cons.mpr ⟨lw_p34, List.forall_mem_cons.mpr ⟨lw_p35, List.forall_mem_cons.mpr ⟨lw_p36, List.forall_mem_cons.mpr ⟨lw_p37, List.forall_mem_cons.mpr ⟨lw_p38, List.forall_mem_cons.mpr ⟨lw_p39, List.forall_mem_cons.mpr ⟨lw_p40, List.forall_mem_cons.mpr ⟨lw_p41, List.forall_mem_cons.mpr ⟨lw_p42, List.forall_mem_cons.mpr ⟨lw_p43, List.forall_mem_cons.mpr ⟨lw_p44, List.forall_mem_cons.mpr ⟨lw_p45, List.forall_mem_cons.mpr ⟨lw_p46, List.forall_mem_cons.mpr ⟨lw_p47, fun _ h => absurd h List.not_mem_nil⟩⟩⟩⟩⟩⟩⟩⟩⟩⟩⟩⟩⟩⟩⟩⟩
theorem lw_p48 : lw_okq (⟨"YesNoPowersModel", "idempotent", "()I"⟩, 24) := ⟨⟨by decide +kernel, by decide +kernel⟩, List.mem_of_getElem? (i := 806) (by decide +kernel), List.mem_of_getElem? (i := 1047) (by decide +kernel), List.mem_of_getElem? (i := 1048) (by decide +kernel)⟩
theorem lw_p49 : lw_okq (⟨"YesNoPowersModel", "spot", "(I)I"⟩, 24) := ⟨⟨by decide +kernel, by decide +kernel⟩, List.mem_of_getElem? (i := 806) (by decide +kernel), List.mem_of_getElem? (i := 1051) (by decide +kernel), List.mem_of_getElem? (i := 1052) (by decide +kernel)⟩
theorem lw_p50 : lw_okq (⟨"YesNoPowersModel", "exponent", "(I)I"⟩, 24) := ⟨⟨by decide +kernel, by decide +kernel⟩, List.mem_of_getElem? (i := 806) (by decide +kernel), List.mem_of_getElem? (i := 1055) (by decide +kernel), List.mem_of_getElem? (i := 1056) (by decide +kernel)⟩
theorem lw_p51 : lw_okq (⟨"YesNoPowersModel", "isOwnSquare", "(I)Z"⟩, 24) := ⟨⟨by decide +kernel, by decide +kernel⟩, List.mem_of_getElem? (i := 806) (by decide +kernel), List.mem_of_getElem? (i := 1059) (by decide +kernel), List.mem_of_getElem? (i := 1060) (by decide +kernel)⟩
theorem lw_p52 : lw_okq (⟨"YesNoPowersModel", "isTurned", "(I)Z"⟩, 24) := ⟨⟨by decide +kernel, by decide +kernel⟩, List.mem_of_getElem? (i := 806) (by decide +kernel), List.mem_of_getElem? (i := 1063) (by decide +kernel), List.mem_of_getElem? (i := 1064) (by decide +kernel)⟩
theorem lw_p53 : lw_okq (⟨"YesNoPowersModel", "onesIn", "(I)I"⟩, 24) := ⟨⟨by decide +kernel, by decide +kernel⟩, List.mem_of_getElem? (i := 806) (by decide +kernel), List.mem_of_getElem? (i := 1067) (by decide +kernel), List.mem_of_getElem? (i := 1068) (by decide +kernel)⟩
theorem lw_p54 : lw_okq (⟨"YesNoPowersModel", "layWalks", "(I)V"⟩, 24) := ⟨⟨by decide +kernel, by decide +kernel⟩, List.mem_of_getElem? (i := 806) (by decide +kernel), List.mem_of_getElem? (i := 1082) (by decide +kernel), List.mem_of_getElem? (i := 1083) (by decide +kernel)⟩
theorem lw_p55 : lw_okq (⟨"YesNoPowersModel", "isClass", "(II)Z"⟩, 24) := ⟨⟨by decide +kernel, by decide +kernel⟩, List.mem_of_getElem? (i := 806) (by decide +kernel), List.mem_of_getElem? (i := 1094) (by decide +kernel), List.mem_of_getElem? (i := 1095) (by decide +kernel)⟩
theorem lw_p56 : lw_okq (⟨"YesNoPowersModel", "leastOf", "(I)I"⟩, 24) := ⟨⟨by decide +kernel, by decide +kernel⟩, List.mem_of_getElem? (i := 806) (by decide +kernel), List.mem_of_getElem? (i := 1098) (by decide +kernel), List.mem_of_getElem? (i := 1099) (by decide +kernel)⟩
theorem lw_p57 : lw_okq (⟨"YesNoPowersModel", "membersOf", "(II)I"⟩, 24) := ⟨⟨by decide +kernel, by decide +kernel⟩, List.mem_of_getElem? (i := 806) (by decide +kernel), List.mem_of_getElem? (i := 1102) (by decide +kernel), List.mem_of_getElem? (i := 1103) (by decide +kernel)⟩
theorem lw_p58 : lw_okq (⟨"YesNoPowersModel", "roundsOf", "(IIZ)I"⟩, 24) := ⟨⟨by decide +kernel, by decide +kernel⟩, List.mem_of_getElem? (i := 806) (by decide +kernel), List.mem_of_getElem? (i := 1106) (by decide +kernel), List.mem_of_getElem? (i := 1107) (by decide +kernel)⟩
theorem lw_p59 : lw_okq (⟨"YesNoPowersModel", "levelOf", "(II)I"⟩, 24) := ⟨⟨by decide +kernel, by decide +kernel⟩, List.mem_of_getElem? (i := 806) (by decide +kernel), List.mem_of_getElem? (i := 1113) (by decide +kernel), List.mem_of_getElem? (i := 1114) (by decide +kernel)⟩
theorem lw_p60 : lw_okq (⟨"YesNoPowersModel", "belowOf", "(II)I"⟩, 24) := ⟨⟨by decide +kernel, by decide +kernel⟩, List.mem_of_getElem? (i := 806) (by decide +kernel), List.mem_of_getElem? (i := 1117) (by decide +kernel), List.mem_of_getElem? (i := 1118) (by decide +kernel)⟩
theorem lw_p61 : lw_okq (⟨"YesNoPowersModel", "partBy", "(II)I"⟩, 24) := ⟨⟨by decide +kernel, by decide +kernel⟩, List.mem_of_getElem? (i := 806) (by decide +kernel), List.mem_of_getElem? (i := 1125) (by decide +kernel), List.mem_of_getElem? (i := 1126) (by decide +kernel)⟩
theorem lw_p62 : lw_okq (⟨"YesNoPowersModel", "leastGirth", "(I)I"⟩, 24) := ⟨⟨by decide +kernel, by decide +kernel⟩, List.mem_of_getElem? (i := 806) (by decide +kernel), List.mem_of_getElem? (i := 1142) (by decide +kernel), List.mem_of_getElem? (i := 1143) (by decide +kernel)⟩
theorem lw_p63 : lw_okq (⟨"YesNoPowersModel", "isRegular", "(I)Z"⟩, 24) := ⟨⟨by decide +kernel, by decide +kernel⟩, List.mem_of_getElem? (i := 806) (by decide +kernel), List.mem_of_getElem? (i := 1150) (by decide +kernel), List.mem_of_getElem? (i := 1151) (by decide +kernel)⟩
def lw_privs_4 : List (MethodName × Nat) := [(⟨"YesNoPowersModel", "idempotent", "()I"⟩, 24), (⟨"YesNoPowersModel", "spot", "(I)I"⟩, 24), (⟨"YesNoPowersModel", "exponent", "(I)I"⟩, 24), (⟨"YesNoPowersModel", "isOwnSquare", "(I)Z"⟩, 24), (⟨"YesNoPowersModel", "isTurned", "(I)Z"⟩, 24), (⟨"YesNoPowersModel", "onesIn", "(I)I"⟩, 24), (⟨"YesNoPowersModel", "layWalks", "(I)V"⟩, 24), (⟨"YesNoPowersModel", "isClass", "(II)Z"⟩, 24), (⟨"YesNoPowersModel", "leastOf", "(I)I"⟩, 24), (⟨"YesNoPowersModel", "membersOf", "(II)I"⟩, 24), (⟨"YesNoPowersModel", "roundsOf", "(IIZ)I"⟩, 24), (⟨"YesNoPowersModel", "levelOf", "(II)I"⟩, 24), (⟨"YesNoPowersModel", "belowOf", "(II)I"⟩, 24), (⟨"YesNoPowersModel", "partBy", "(II)I"⟩, 24), (⟨"YesNoPowersModel", "leastGirth", "(I)I"⟩, 24), (⟨"YesNoPowersModel", "isRegular", "(I)Z"⟩, 24)]
theorem lw_r4 : ∀ q ∈ lw_privs_4, lw_okq q := List.forall_mem_cons.mpr ⟨lw_p48, List.forall_mem_cons.mpr ⟨lw_p49, List.forall_mem_cons.mpr ⟨lw_p50, List.forall_mem_cons.mpr ⟨lw_p51, List.forall_mem_cons.mpr ⟨lw_p52, List.forall_mem_cons.mpr ⟨lw_p53, List.forall_mem_cons.mpr ⟨lw_p54, List.forall_mem_cons.mpr ⟨lw_p55, List.forall_mem_cons.mpr ⟨lw_p56, List.forall_mem_cons.mpr ⟨lw_p57, List.forall_mem_cons.mpr ⟨lw_p58, List.forall_mem_cons.mpr ⟨lw_p59, List.forall_mem_cons.mpr ⟨lw_p60, List.forall_mem_cons.mpr ⟨lw_p61, List.forall_mem_cons.mpr ⟨lw_p62, List.forall_mem_cons.mpr ⟨lw_p63, fun _ h => absurd h List.not_mem_nil⟩⟩⟩⟩⟩⟩⟩⟩⟩⟩⟩⟩⟩⟩⟩⟩
theorem lw_p64 : lw_okq (⟨"YesNoPowersModel", "layBasis", "(I)V"⟩, 24) := ⟨⟨by decide +kernel, by decide +kernel⟩, List.mem_of_getElem? (i := 806) (by decide +kernel), List.mem_of_getElem? (i := 1154) (by decide +kernel), List.mem_of_getElem? (i := 1155) (by decide +kernel)⟩
theorem lw_p65 : lw_okq (⟨"YesNoPowersModel", "layUnions", "(I)I"⟩, 24) := ⟨⟨by decide +kernel, by decide +kernel⟩, List.mem_of_getElem? (i := 806) (by decide +kernel), List.mem_of_getElem? (i := 1158) (by decide +kernel), List.mem_of_getElem? (i := 1159) (by decide +kernel)⟩
theorem lw_p66 : lw_okq (⟨"YesNoPowersModel", "isWithin", "(II)Z"⟩, 24) := ⟨⟨by decide +kernel, by decide +kernel⟩, List.mem_of_getElem? (i := 806) (by decide +kernel), List.mem_of_getElem? (i := 1174) (by decide +kernel), List.mem_of_getElem? (i := 1175) (by decide +kernel)⟩
theorem lw_p67 : lw_okq (⟨"YesNoPowersModel", "isRoot", "(III)Z"⟩, 24) := ⟨⟨by decide +kernel, by decide +kernel⟩, List.mem_of_getElem? (i := 806) (by decide +kernel), List.mem_of_getElem? (i := 1187) (by decide +kernel), List.mem_of_getElem? (i := 1188) (by decide +kernel)⟩
theorem lw_p68 : lw_okq (⟨"YesNoPowersModel", "layNumber", "(II)V"⟩, 24) := ⟨⟨by decide +kernel, by decide +kernel⟩, List.mem_of_getElem? (i := 806) (by decide +kernel), List.mem_of_getElem? (i := 1191) (by decide +kernel), List.mem_of_getElem? (i := 1192) (by decide +kernel)⟩
theorem lw_p69 : lw_okq (⟨"YesNoPowersModel", "isLink", "(II)Z"⟩, 24) := ⟨⟨by decide +kernel, by decide +kernel⟩, List.mem_of_getElem? (i := 806) (by decide +kernel), List.mem_of_getElem? (i := 1203) (by decide +kernel), List.mem_of_getElem? (i := 1204) (by decide +kernel)⟩
theorem lw_p70 : lw_okq (⟨"YesNoPowersModel", "goes", "(I)I"⟩, 24) := ⟨⟨by decide +kernel, by decide +kernel⟩, List.mem_of_getElem? (i := 806) (by decide +kernel), List.mem_of_getElem? (i := 1212) (by decide +kernel), List.mem_of_getElem? (i := 1213) (by decide +kernel)⟩
theorem lw_p71 : lw_okq (⟨"YesNoPowersModel", "stopsAt", "(I)I"⟩, 24) := ⟨⟨by decide +kernel, by decide +kernel⟩, List.mem_of_getElem? (i := 806) (by decide +kernel), List.mem_of_getElem? (i := 1216) (by decide +kernel), List.mem_of_getElem? (i := 1217) (by decide +kernel)⟩
theorem lw_p72 : lw_okq (⟨"YesNoPowersModel", "otherOf", "(I)I"⟩, 24) := ⟨⟨by decide +kernel, by decide +kernel⟩, List.mem_of_getElem? (i := 806) (by decide +kernel), List.mem_of_getElem? (i := 1220) (by decide +kernel), List.mem_of_getElem? (i := 1221) (by decide +kernel)⟩
theorem lw_p73 : lw_okq (⟨"YesNoPowersModel", "goesThrough", "(I)V"⟩, 24) := ⟨⟨by decide +kernel, by decide +kernel⟩, List.mem_of_getElem? (i := 806) (by decide +kernel), List.mem_of_getElem? (i := 1224) (by decide +kernel), List.mem_of_getElem? (i := 1225) (by decide +kernel)⟩
theorem lw_p74 : lw_okq (⟨"YesNoPowersModel", "meetWith", "(II)V"⟩, 24) := ⟨⟨by decide +kernel, by decide +kernel⟩, List.mem_of_getElem? (i := 806) (by decide +kernel), List.mem_of_getElem? (i := 1228) (by decide +kernel), List.mem_of_getElem? (i := 1229) (by decide +kernel)⟩
def lw_privs_5 : List (MethodName × Nat) := [(⟨"YesNoPowersModel", "layBasis", "(I)V"⟩, 24), (⟨"YesNoPowersModel", "layUnions", "(I)I"⟩, 24), (⟨"YesNoPowersModel", "isWithin", "(II)Z"⟩, 24), (⟨"YesNoPowersModel", "isRoot", "(III)Z"⟩, 24), (⟨"YesNoPowersModel", "layNumber", "(II)V"⟩, 24), (⟨"YesNoPowersModel", "isLink", "(II)Z"⟩, 24), (⟨"YesNoPowersModel", "goes", "(I)I"⟩, 24), (⟨"YesNoPowersModel", "stopsAt", "(I)I"⟩, 24), (⟨"YesNoPowersModel", "otherOf", "(I)I"⟩, 24), (⟨"YesNoPowersModel", "goesThrough", "(I)V"⟩, 24), (⟨"YesNoPowersModel", "meetWith", "(II)V"⟩, 24)]
theorem lw_r5 : ∀ q ∈ lw_privs_5, lw_okq q := List.forall_mem_cons.mpr ⟨lw_p64, List.forall_mem_cons.mpr ⟨lw_p65, List.forall_mem_cons.mpr ⟨lw_p66, List.forall_mem_cons.mpr ⟨lw_p67, List.forall_mem_cons.mpr ⟨lw_p68, List.forall_mem_cons.mpr ⟨lw_p69, List.forall_mem_cons.mpr ⟨lw_p70, List.forall_mem_cons.mpr ⟨lw_p71, List.forall_mem_cons.mpr ⟨lw_p72, List.forall_mem_cons.mpr ⟨lw_p73, List.forall_mem_cons.mpr ⟨lw_p74, fun _ h => absurd h List.not_mem_nil⟩⟩⟩⟩⟩⟩⟩⟩⟩⟩⟩
def lw_privs : List (MethodName × Nat) := lw_privs_1 ++ (lw_privs_2 ++ (lw_privs_3 ++ (lw_privs_4 ++ (lw_privs_5))))
def lw_tbl : List Cond := k2_sels lw_privs ++ tables_1
theorem lw_privs_ok : ∀ q ∈ lw_privs, lw_okq q := by
  show ∀ q ∈ lw_privs_1 ++ (lw_privs_2 ++ (lw_privs_3 ++ (lw_privs_4 ++ (lw_privs_5)))), lw_okq q
  exact List.forall_mem_append.mpr ⟨lw_r1, List.forall_mem_append.mpr ⟨lw_r2, List.forall_mem_append.mpr ⟨lw_r3, List.forall_mem_append.mpr ⟨lw_r4, lw_r5⟩⟩⟩⟩
-- ===== end of PART A; then your names; then what follows =====
end
section
def jtbl : List Cond := lw_tbl.filter goodWord
theorem jmem_0 {w : Cond} (i : Nat) (h : (k2_sels lw_privs)[i]? = some w) (hg : goodWord w = true) : w ∈ jtbl := List.mem_filter.mpr ⟨List.mem_append_left _ (List.mem_of_getElem? h), hg⟩
theorem jmem_1 {w : Cond} (i : Nat) (h : tables_1_1[i]? = some w) (hg : goodWord w = true) : w ∈ jtbl := List.mem_filter.mpr ⟨List.mem_append_right _ (List.mem_append_left _ (List.mem_of_getElem? h)), hg⟩
theorem jmem_2 {w : Cond} (i : Nat) (h : tables_1_2[i]? = some w) (hg : goodWord w = true) : w ∈ jtbl := List.mem_filter.mpr ⟨List.mem_append_right _ (List.mem_append_right _ (List.mem_append_left _ (List.mem_of_getElem? h))), hg⟩
theorem jmem_3 {w : Cond} (i : Nat) (h : tables_1_3[i]? = some w) (hg : goodWord w = true) : w ∈ jtbl := List.mem_filter.mpr ⟨List.mem_append_right _ (List.mem_append_right _ (List.mem_append_right _ (List.mem_append_left _ (List.mem_of_getElem? h)))), hg⟩
theorem jmem_4 {w : Cond} (i : Nat) (h : tables_1_4[i]? = some w) (hg : goodWord w = true) : w ∈ jtbl := List.mem_filter.mpr ⟨List.mem_append_right _ (List.mem_append_right _ (List.mem_append_right _ (List.mem_append_right _ (List.mem_append_left _ (List.mem_of_getElem? h))))), hg⟩
theorem jmem_5 {w : Cond} (i : Nat) (h : tables_1_5[i]? = some w) (hg : goodWord w = true) : w ∈ jtbl := List.mem_filter.mpr ⟨List.mem_append_right _ (List.mem_append_right _ (List.mem_append_right _ (List.mem_append_right _ (List.mem_append_right _ (List.mem_append_left _ (List.mem_of_getElem? h)))))), hg⟩
theorem jmem_6 {w : Cond} (i : Nat) (h : tables_1_6[i]? = some w) (hg : goodWord w = true) : w ∈ jtbl := List.mem_filter.mpr ⟨List.mem_append_right _ (List.mem_append_right _ (List.mem_append_right _ (List.mem_append_right _ (List.mem_append_right _ (List.mem_append_right _ (List.mem_of_getElem? h)))))), hg⟩
theorem jmem {w : Cond} (i : Nat) (h : lw_tbl[i]? = some w) (hg : goodWord w = true) : w ∈ jtbl := List.mem_filter.mpr ⟨List.mem_of_getElem? h, hg⟩
def jR_Chain : String := "YesNoPowers$Chain"
def jT_Chain : u_T := fun k => match k with
  | 0 => ("YesNoPowers$Chain", "length", "I", false)
  | 1 => ("YesNoPowers$Chain", "borrowed", "I", false)
  | 2 => ("YesNoPowers$Chain", "closed", "I", false)
  | 3 => ("YesNoPowers$Chain", "reasonsGiven", "I", false)
  | 4 => ("YesNoPowers$Chain", "closings", "[I", true)
  | 5 => ("YesNoPowers$Chain", "reasons", "[I", true)
  | 6 => ("YesNoPowers$Chain", "moving", "LYesNoPowers$Table;", true)
  | 7 => ("YesNoPowers$Chain", "changed", "LYesNoPowers$Table;", true)
  | 8 => ("YesNoPowers$Chain", "links", "[LYesNoPowers$Link;", true)
  | 9 => ("YesNoPowers$Chain", "borrowings", "[I", true)
  | _ => ("YesNoPowers$Chain", "powers", "LYesNoPowers$Powers;", true)
def jt_Chain : Nat → FieldType := fun k => match k with
  | 0 => .int
  | 1 => .int
  | 2 => .int
  | 3 => .int
  | 4 => .array .int
  | 5 => .array .int
  | 6 => .object "YesNoPowers$Table"
  | 7 => .object "YesNoPowers$Table"
  | 8 => .array (.object "YesNoPowers$Link")
  | 9 => .array .int
  | _ => .object "YesNoPowers$Powers"
theorem jnm_Chain : ∀ a, a < 11 → ∀ b, b < 11 → a ≠ b → (jT_Chain a).2.1 ≠ (jT_Chain b).2.1 := by decide +kernel
theorem jty_Chain : ∀ k, k < 11 → parseFieldDescriptor (jT_Chain k).2.2.1 = some (jt_Chain k) := by decide +kernel
def jR_Link : String := "YesNoPowers$Link"
def jT_Link : u_T := fun k => match k with
  | 0 => ("YesNoPowers$Link", "kind", "I", false)
  | 1 => ("YesNoPowers$Link", "m", "I", false)
  | _ => ("YesNoPowers$Link", "held", "LYesNoPowers$Table;", true)
def jt_Link : Nat → FieldType := fun k => match k with
  | 0 => .int
  | 1 => .int
  | _ => .object "YesNoPowers$Table"
theorem jnm_Link : ∀ a, a < 3 → ∀ b, b < 3 → a ≠ b → (jT_Link a).2.1 ≠ (jT_Link b).2.1 := by decide +kernel
theorem jty_Link : ∀ k, k < 3 → parseFieldDescriptor (jT_Link k).2.2.1 = some (jt_Link k) := by decide +kernel
def jR_Log : String := "YesNoPowers$Log"
def jT_Log : u_T := fun k => match k with
  | 0 => ("YesNoPowers$Log", "size", "I", false)
  | 1 => ("YesNoPowers$Log", "next", "I", false)
  | 2 => ("YesNoPowers$Log", "places", "[I", true)
  | _ => ("YesNoPowers$Log", "tables", "[LYesNoPowers$Table;", true)
def jt_Log : Nat → FieldType := fun k => match k with
  | 0 => .int
  | 1 => .int
  | 2 => .array .int
  | _ => .array (.object "YesNoPowers$Table")
theorem jnm_Log : ∀ a, a < 4 → ∀ b, b < 4 → a ≠ b → (jT_Log a).2.1 ≠ (jT_Log b).2.1 := by decide +kernel
theorem jty_Log : ∀ k, k < 4 → parseFieldDescriptor (jT_Log k).2.2.1 = some (jt_Log k) := by decide +kernel
def jR_Powers : String := "YesNoPowers$Powers"
def jT_Powers : u_T := fun k => match k with
  | 0 => ("YesNoPowers$Powers", "index", "I", false)
  | 1 => ("YesNoPowers$Powers", "period", "I", false)
  | 2 => ("YesNoPowers$Powers", "walker", "LYesNoPowers$Table;", true)
  | _ => ("YesNoPowers$Powers", "mark", "LYesNoPowers$Table;", true)
def jt_Powers : Nat → FieldType := fun k => match k with
  | 0 => .int
  | 1 => .int
  | 2 => .object "YesNoPowers$Table"
  | _ => .object "YesNoPowers$Table"
theorem jnm_Powers : ∀ a, a < 4 → ∀ b, b < 4 → a ≠ b → (jT_Powers a).2.1 ≠ (jT_Powers b).2.1 := by decide +kernel
theorem jty_Powers : ∀ k, k < 4 → parseFieldDescriptor (jT_Powers k).2.2.1 = some (jt_Powers k) := by decide +kernel
def jR_Rings : String := "YesNoPowers$Rings"
def jT_Rings : u_T := fun k => match k with
  | 0 => ("YesNoPowers$Rings", "number", "I", false)
  | 1 => ("YesNoPowers$Rings", "home", "[I", true)
  | 2 => ("YesNoPowers$Rings", "members", "[I", true)
  | 3 => ("YesNoPowers$Rings", "least", "[I", true)
  | 4 => ("YesNoPowers$Rings", "girth", "[I", true)
  | 5 => ("YesNoPowers$Rings", "period", "[I", true)
  | 6 => ("YesNoPowers$Rings", "level", "[I", true)
  | 7 => ("YesNoPowers$Rings", "below", "[I", true)
  | 8 => ("YesNoPowers$Rings", "distance", "[I", true)
  | 9 => ("YesNoPowers$Rings", "reach", "LYesNoPowers$Table;", true)
  | _ => ("YesNoPowers$Rings", "walks", "LYesNoPowers$Table;", true)
def jt_Rings : Nat → FieldType := fun k => match k with
  | 0 => .int
  | 1 => .array .int
  | 2 => .array .int
  | 3 => .array .int
  | 4 => .array .int
  | 5 => .array .int
  | 6 => .array .int
  | 7 => .array .int
  | 8 => .array .int
  | 9 => .object "YesNoPowers$Table"
  | _ => .object "YesNoPowers$Table"
theorem jnm_Rings : ∀ a, a < 11 → ∀ b, b < 11 → a ≠ b → (jT_Rings a).2.1 ≠ (jT_Rings b).2.1 := by decide +kernel
theorem jty_Rings : ∀ k, k < 11 → parseFieldDescriptor (jT_Rings k).2.2.1 = some (jt_Rings k) := by decide +kernel
def jR_Sheet : String := "YesNoPowers$Sheet"
def jT_Sheet : u_T := fun k => match k with
  | 0 => ("YesNoPowers$Sheet", "sort", "I", false)
  | 1 => ("YesNoPowers$Sheet", "length", "I", false)
  | _ => ("YesNoPowers$Sheet", "numbers", "[I", true)
def jt_Sheet : Nat → FieldType := fun k => match k with
  | 0 => .int
  | 1 => .int
  | _ => .array .int
theorem jnm_Sheet : ∀ a, a < 3 → ∀ b, b < 3 → a ≠ b → (jT_Sheet a).2.1 ≠ (jT_Sheet b).2.1 := by decide +kernel
theorem jty_Sheet : ∀ k, k < 3 → parseFieldDescriptor (jT_Sheet k).2.2.1 = some (jt_Sheet k) := by decide +kernel
def jR_Spaces : String := "YesNoPowers$Spaces"
def jT_Spaces : u_T := fun k => match k with
  | 0 => ("YesNoPowers$Spaces", "turned", "LYesNoPowers$Table;", true)
  | 1 => ("YesNoPowers$Spaces", "turnedOther", "LYesNoPowers$Table;", true)
  | 2 => ("YesNoPowers$Spaces", "opposite", "LYesNoPowers$Table;", true)
  | 3 => ("YesNoPowers$Spaces", "greatest", "LYesNoPowers$Table;", true)
  | _ => ("YesNoPowers$Spaces", "product", "LYesNoPowers$Table;", true)
def jt_Spaces : Nat → FieldType := fun k => match k with
  | 0 => .object "YesNoPowers$Table"
  | 1 => .object "YesNoPowers$Table"
  | 2 => .object "YesNoPowers$Table"
  | 3 => .object "YesNoPowers$Table"
  | _ => .object "YesNoPowers$Table"
theorem jnm_Spaces : ∀ a, a < 5 → ∀ b, b < 5 → a ≠ b → (jT_Spaces a).2.1 ≠ (jT_Spaces b).2.1 := by decide +kernel
theorem jty_Spaces : ∀ k, k < 5 → parseFieldDescriptor (jT_Spaces k).2.2.1 = some (jt_Spaces k) := by decide +kernel
def jR_Table : String := "YesNoPowers$Table"
def jT_Table : u_T := fun k => match k with
  | 0 => ("YesNoPowers$Table", "n", "I", false)
  | _ => ("YesNoPowers$Table", "rows", "[I", true)
def jt_Table : Nat → FieldType := fun k => match k with
  | 0 => .int
  | _ => .array .int
theorem jnm_Table : ∀ a, a < 2 → ∀ b, b < 2 → a ≠ b → (jT_Table a).2.1 ≠ (jT_Table b).2.1 := by decide +kernel
theorem jty_Table : ∀ k, k < 2 → parseFieldDescriptor (jT_Table k).2.2.1 = some (jt_Table k) := by decide +kernel
def jR_Main : String := "YesNoPowers"
def jT_Main : u_T := fun k => match k with
  | 0 => ("YesNoPowers", "slots", "[LYesNoPowers$Table;", true)
  | 1 => ("YesNoPowers", "sheets", "[LYesNoPowers$Sheet;", true)
  | 2 => ("YesNoPowers", "log", "LYesNoPowers$Log;", true)
  | 3 => ("YesNoPowers", "powers", "LYesNoPowers$Powers;", true)
  | 4 => ("YesNoPowers", "rings", "LYesNoPowers$Rings;", true)
  | 5 => ("YesNoPowers", "spaces", "LYesNoPowers$Spaces;", true)
  | 6 => ("YesNoPowers", "chain", "LYesNoPowers$Chain;", true)
  | _ => ("YesNoPowers", "made", "LYesNoPowers$Table;", true)
def jt_Main : Nat → FieldType := fun k => match k with
  | 0 => .array (.object "YesNoPowers$Table")
  | 1 => .array (.object "YesNoPowers$Sheet")
  | 2 => .object "YesNoPowers$Log"
  | 3 => .object "YesNoPowers$Powers"
  | 4 => .object "YesNoPowers$Rings"
  | 5 => .object "YesNoPowers$Spaces"
  | 6 => .object "YesNoPowers$Chain"
  | _ => .object "YesNoPowers$Table"
theorem jnm_Main : ∀ a, a < 8 → ∀ b, b < 8 → a ≠ b → (jT_Main a).2.1 ≠ (jT_Main b).2.1 := by decide +kernel
theorem jty_Main : ∀ k, k < 8 → parseFieldDescriptor (jT_Main k).2.2.1 = some (jt_Main k) := by decide +kernel
def jR_Model : String := "YesNoPowersModel"
def jT_Model : u_T := fun k => match k with
  | 0 => ("YesNoPowersModel", "rows", "[I", true)
  | 1 => ("YesNoPowersModel", "sizeOf", "[I", true)
  | 2 => ("YesNoPowersModel", "logged", "I", false)
  | 3 => ("YesNoPowersModel", "logSlot", "[I", true)
  | 4 => ("YesNoPowersModel", "links", "I", false)
  | 5 => ("YesNoPowersModel", "linkKind", "[I", true)
  | 6 => ("YesNoPowersModel", "linkWith", "[I", true)
  | 7 => ("YesNoPowersModel", "closings", "I", false)
  | 8 => ("YesNoPowersModel", "reasons", "I", false)
  | 9 => ("YesNoPowersModel", "reasonAt", "[I", true)
  | 10 => ("YesNoPowersModel", "powers", "[I", true)
  | 11 => ("YesNoPowersModel", "index0", "I", false)
  | 12 => ("YesNoPowersModel", "period0", "I", false)
  | 13 => ("YesNoPowersModel", "many", "I", false)
  | 14 => ("YesNoPowersModel", "classAt", "[I", true)
  | 15 => ("YesNoPowersModel", "reach", "[I", true)
  | 16 => ("YesNoPowersModel", "walk", "[I", true)
  | 17 => ("YesNoPowersModel", "levels", "[I", true)
  | 18 => ("YesNoPowersModel", "unions", "[Z", true)
  | 19 => ("YesNoPowersModel", "found", "[I", true)
  | 20 => ("YesNoPowersModel", "basisMany", "I", false)
  | 21 => ("YesNoPowersModel", "sorts", "[I", true)
  | 22 => ("YesNoPowersModel", "sizes", "[I", true)
  | _ => ("YesNoPowersModel", "numbers", "[I", true)
def jt_Model : Nat → FieldType := fun k => match k with
  | 0 => .array .int
  | 1 => .array .int
  | 2 => .int
  | 3 => .array .int
  | 4 => .int
  | 5 => .array .int
  | 6 => .array .int
  | 7 => .int
  | 8 => .int
  | 9 => .array .int
  | 10 => .array .int
  | 11 => .int
  | 12 => .int
  | 13 => .int
  | 14 => .array .int
  | 15 => .array .int
  | 16 => .array .int
  | 17 => .array .int
  | 18 => .array .boolean
  | 19 => .array .int
  | 20 => .int
  | 21 => .array .int
  | 22 => .array .int
  | _ => .array .int
theorem jnm_Model : ∀ a, a < 24 → ∀ b, b < 24 → a ≠ b → (jT_Model a).2.1 ≠ (jT_Model b).2.1 := by decide +kernel
theorem jty_Model : ∀ k, k < 24 → parseFieldDescriptor (jT_Model k).2.2.1 = some (jt_Model k) := by decide +kernel
abbrev jcl : List vw_C := [(jR_Chain, jT_Chain, 11), (jR_Link, jT_Link, 3), (jR_Log, jT_Log, 4), (jR_Powers, jT_Powers, 4), (jR_Rings, jT_Rings, 11), (jR_Sheet, jT_Sheet, 3), (jR_Spaces, jT_Spaces, 5), (jR_Table, jT_Table, 2), (jR_Main, jT_Main, 8), (jR_Model, jT_Model, 24)]
def jshL : List (Nat × Nat) := [(8, 8), (22, 6), (23, 4), (2, 4), (20, 20), (22, 20), (7, 2), (20, 12), (7, 2), (20, 12), (7, 2), (20, 12), (7, 2), (20, 12), (7, 2), (20, 12), (7, 2), (20, 12), (7, 2), (20, 12), (7, 2), (20, 12), (7, 2), (20, 12), (7, 2), (20, 12), (7, 2), (20, 12), (7, 2), (20, 12), (7, 2), (20, 12), (7, 2), (20, 12), (7, 2), (20, 12), (7, 2), (20, 12), (7, 2), (20, 12), (7, 2), (20, 12), (7, 2), (20, 12), (7, 2), (20, 12), (3, 4), (7, 2), (20, 12), (7, 2), (20, 12), (4, 11), (20, 12), (20, 12), (20, 12), (20, 12), (20, 12), (20, 12), (20, 12), (20, 12), (7, 2), (20, 12), (7, 2), (20, 12), (6, 5), (7, 2), (20, 12), (7, 2), (20, 12), (7, 2), (20, 12), (7, 2), (20, 12), (7, 2), (20, 12), (0, 11), (20, 8), (20, 3), (7, 2), (20, 12), (7, 2), (20, 12), (24, 8), (20, 8), (1, 3), (7, 2), (20, 12), (1, 3), (7, 2), (20, 12), (1, 3), (7, 2), (20, 12), (1, 3), (7, 2), (20, 12), (1, 3), (7, 2), (20, 12), (1, 3), (7, 2), (20, 12), (1, 3), (7, 2), (20, 12), (1, 3), (7, 2), (20, 12), (7, 2), (20, 12), (7, 2), (20, 12), (7, 2), (20, 12), (7, 2), (20, 12), (7, 2), (20, 12), (7, 2), (20, 12), (7, 2), (20, 12), (5, 3), (20, 40), (5, 3), (20, 40), (5, 3), (20, 40), (5, 3), (20, 40), (9, 24), (20, 456), (20, 38), (20, 20), (20, 8), (20, 8), (20, 3), (20, 3612), (20, 12), (20, 12), (20, 156), (20, 12), (21, 4096), (20, 12), (20, 4), (20, 4), (20, 160)]
def jrfL : List (List Nat) := [[1, 2, 3, 46, 51, 64, 75, 108], [110, 112, 114, 116, 118, 120], [122, 124, 126, 128], [0, 0, 4, 5], [], [6, 8, 10, 12, 14, 16, 18, 20, 22, 24, 26, 28, 30, 32, 34, 36, 38, 40, 42, 44], [0, 7], [], [0, 9], [], [0, 11], [], [0, 13], [], [0, 15], [], [0, 17], [], [0, 19], [], [0, 21], [], [0, 23], [], [0, 25], [], [0, 27], [], [0, 29], [], [0, 31], [], [0, 33], [], [0, 35], [], [0, 37], [], [0, 39], [], [0, 41], [], [0, 43], [], [0, 45], [], [0, 0, 47, 49], [0, 48], [], [0, 50], [], [0, 52, 53, 54, 55, 56, 57, 58, 59, 60, 62], [], [], [], [], [], [], [], [], [0, 61], [], [0, 63], [], [65, 67, 69, 71, 73], [0, 66], [], [0, 68], [], [0, 70], [], [0, 72], [], [0, 74], [], [0, 0, 0, 0, 76, 77, 78, 80, 82, 83, 46], [], [], [0, 79], [], [0, 81], [], [84, 87, 90, 93, 96, 99, 102, 105], [], [0, 0, 85], [0, 86], [], [0, 0, 88], [0, 89], [], [0, 0, 91], [0, 92], [], [0, 0, 94], [0, 95], [], [0, 0, 97], [0, 98], [], [0, 0, 100], [0, 101], [], [0, 0, 103], [0, 104], [], [0, 0, 106], [0, 107], [], [0, 109], [], [0, 111], [], [0, 113], [], [0, 115], [], [0, 117], [], [0, 119], [], [0, 121], [], [0, 0, 123], [], [0, 0, 125], [], [0, 0, 127], [], [0, 0, 129], [], [131, 132, 0, 133, 0, 134, 135, 0, 0, 136, 137, 0, 0, 0, 138, 139, 140, 141, 142, 143, 0, 144, 145, 146], [], [], [], [], [], [], [], [], [], [], [], [], [], [], [], []]
def jirL : List (List Bool) := [[false, false, false, false, true, true, true, true, true, true, true], [false, false, true], [false, false, true, true], [false, false, true, true], [false, true, true, true, true, true, true, true, true, true, true], [false, false, true], [true, true, true, true, true], [false, true], [true, true, true, true, true, true, true, true], [true, true, false, true, false, true, true, false, false, true, true, false, false, false, true, true, true, true, true, true, false, true, true, true]]
theorem jin_Chain : ∀ w ∈ u_ws jR_Chain jT_Chain 11, w ∈ jtbl := by
  intro w hw
  obtain ⟨k, hk, rfl⟩ := List.mem_map.mp hw
  have hk := List.mem_range.mp hk
  match k, hk with
  | 0, _ => exact jmem_1 212 (by decide +kernel) rfl
  | 1, _ => exact jmem_1 214 (by decide +kernel) rfl
  | 2, _ => exact jmem_1 216 (by decide +kernel) rfl
  | 3, _ => exact jmem_1 218 (by decide +kernel) rfl
  | 4, _ => exact jmem_1 220 (by decide +kernel) rfl
  | 5, _ => exact jmem_1 222 (by decide +kernel) rfl
  | 6, _ => exact jmem_1 224 (by decide +kernel) rfl
  | 7, _ => exact jmem_1 226 (by decide +kernel) rfl
  | 8, _ => exact jmem_1 228 (by decide +kernel) rfl
  | 9, _ => exact jmem_1 230 (by decide +kernel) rfl
  | 10, _ => exact jmem_1 232 (by decide +kernel) rfl
  | k + 11, hk => exact absurd hk (by omega)
theorem jin_Link : ∀ w ∈ u_ws jR_Link jT_Link 3, w ∈ jtbl := by
  intro w hw
  obtain ⟨k, hk, rfl⟩ := List.mem_map.mp hw
  have hk := List.mem_range.mp hk
  match k, hk with
  | 0, _ => exact jmem_1 187 (by decide +kernel) rfl
  | 1, _ => exact jmem_1 189 (by decide +kernel) rfl
  | 2, _ => exact jmem_1 191 (by decide +kernel) rfl
  | k + 3, hk => exact absurd hk (by omega)
theorem jin_Log : ∀ w ∈ u_ws jR_Log jT_Log 4, w ∈ jtbl := by
  intro w hw
  obtain ⟨k, hk, rfl⟩ := List.mem_map.mp hw
  have hk := List.mem_range.mp hk
  match k, hk with
  | 0, _ => exact jmem_1 60 (by decide +kernel) rfl
  | 1, _ => exact jmem_1 62 (by decide +kernel) rfl
  | 2, _ => exact jmem_1 64 (by decide +kernel) rfl
  | 3, _ => exact jmem_1 66 (by decide +kernel) rfl
  | k + 4, hk => exact absurd hk (by omega)
theorem jin_Powers : ∀ w ∈ u_ws jR_Powers jT_Powers 4, w ∈ jtbl := by
  intro w hw
  obtain ⟨k, hk, rfl⟩ := List.mem_map.mp hw
  have hk := List.mem_range.mp hk
  match k, hk with
  | 0, _ => exact jmem_1 83 (by decide +kernel) rfl
  | 1, _ => exact jmem_1 85 (by decide +kernel) rfl
  | 2, _ => exact jmem_1 87 (by decide +kernel) rfl
  | 3, _ => exact jmem_1 89 (by decide +kernel) rfl
  | k + 4, hk => exact absurd hk (by omega)
theorem jin_Rings : ∀ w ∈ u_ws jR_Rings jT_Rings 11, w ∈ jtbl := by
  intro w hw
  obtain ⟨k, hk, rfl⟩ := List.mem_map.mp hw
  have hk := List.mem_range.mp hk
  match k, hk with
  | 0, _ => exact jmem_1 119 (by decide +kernel) rfl
  | 1, _ => exact jmem_1 121 (by decide +kernel) rfl
  | 2, _ => exact jmem_1 123 (by decide +kernel) rfl
  | 3, _ => exact jmem_1 125 (by decide +kernel) rfl
  | 4, _ => exact jmem_1 127 (by decide +kernel) rfl
  | 5, _ => exact jmem_1 129 (by decide +kernel) rfl
  | 6, _ => exact jmem_1 131 (by decide +kernel) rfl
  | 7, _ => exact jmem_1 133 (by decide +kernel) rfl
  | 8, _ => exact jmem_1 135 (by decide +kernel) rfl
  | 9, _ => exact jmem_1 137 (by decide +kernel) rfl
  | 10, _ => exact jmem_1 139 (by decide +kernel) rfl
  | k + 11, hk => exact absurd hk (by omega)
theorem jin_Sheet : ∀ w ∈ u_ws jR_Sheet jT_Sheet 3, w ∈ jtbl := by
  intro w hw
  obtain ⟨k, hk, rfl⟩ := List.mem_map.mp hw
  have hk := List.mem_range.mp hk
  match k, hk with
  | 0, _ => exact jmem_2 7 (by decide +kernel) rfl
  | 1, _ => exact jmem_2 9 (by decide +kernel) rfl
  | 2, _ => exact jmem_2 11 (by decide +kernel) rfl
  | k + 3, hk => exact absurd hk (by omega)
theorem jin_Spaces : ∀ w ∈ u_ws jR_Spaces jT_Spaces 5, w ∈ jtbl := by
  intro w hw
  obtain ⟨k, hk, rfl⟩ := List.mem_map.mp hw
  have hk := List.mem_range.mp hk
  match k, hk with
  | 0, _ => exact jmem_1 155 (by decide +kernel) rfl
  | 1, _ => exact jmem_1 157 (by decide +kernel) rfl
  | 2, _ => exact jmem_1 159 (by decide +kernel) rfl
  | 3, _ => exact jmem_1 161 (by decide +kernel) rfl
  | 4, _ => exact jmem_1 163 (by decide +kernel) rfl
  | k + 5, hk => exact absurd hk (by omega)
theorem jin_Table : ∀ w ∈ u_ws jR_Table jT_Table 2, w ∈ jtbl := by
  intro w hw
  obtain ⟨k, hk, rfl⟩ := List.mem_map.mp hw
  have hk := List.mem_range.mp hk
  match k, hk with
  | 0, _ => exact jmem_1 49 (by decide +kernel) rfl
  | 1, _ => exact jmem_1 51 (by decide +kernel) rfl
  | k + 2, hk => exact absurd hk (by omega)
theorem jin_Main : ∀ w ∈ u_ws jR_Main jT_Main 8, w ∈ jtbl := by
  intro w hw
  obtain ⟨k, hk, rfl⟩ := List.mem_map.mp hw
  have hk := List.mem_range.mp hk
  match k, hk with
  | 0, _ => exact jmem_2 22 (by decide +kernel) rfl
  | 1, _ => exact jmem_2 24 (by decide +kernel) rfl
  | 2, _ => exact jmem_2 26 (by decide +kernel) rfl
  | 3, _ => exact jmem_2 28 (by decide +kernel) rfl
  | 4, _ => exact jmem_2 30 (by decide +kernel) rfl
  | 5, _ => exact jmem_2 32 (by decide +kernel) rfl
  | 6, _ => exact jmem_2 34 (by decide +kernel) rfl
  | 7, _ => exact jmem_2 36 (by decide +kernel) rfl
  | k + 8, hk => exact absurd hk (by omega)
theorem jin_Model : ∀ w ∈ u_ws jR_Model jT_Model 24, w ∈ jtbl := by
  intro w hw
  obtain ⟨k, hk, rfl⟩ := List.mem_map.mp hw
  have hk := List.mem_range.mp hk
  match k, hk with
  | 0, _ => exact jmem_4 115 (by decide +kernel) rfl
  | 1, _ => exact jmem_4 117 (by decide +kernel) rfl
  | 2, _ => exact jmem_4 119 (by decide +kernel) rfl
  | 3, _ => exact jmem_4 121 (by decide +kernel) rfl
  | 4, _ => exact jmem_4 123 (by decide +kernel) rfl
  | 5, _ => exact jmem_4 125 (by decide +kernel) rfl
  | 6, _ => exact jmem_4 127 (by decide +kernel) rfl
  | 7, _ => exact jmem_4 129 (by decide +kernel) rfl
  | 8, _ => exact jmem_4 131 (by decide +kernel) rfl
  | 9, _ => exact jmem_4 133 (by decide +kernel) rfl
  | 10, _ => exact jmem_4 135 (by decide +kernel) rfl
  | 11, _ => exact jmem_4 137 (by decide +kernel) rfl
  | 12, _ => exact jmem_4 139 (by decide +kernel) rfl
  | 13, _ => exact jmem_4 141 (by decide +kernel) rfl
  | 14, _ => exact jmem_4 143 (by decide +kernel) rfl
  | 15, _ => exact jmem_4 145 (by decide +kernel) rfl
  | 16, _ => exact jmem_4 147 (by decide +kernel) rfl
  | 17, _ => exact jmem_4 149 (by decide +kernel) rfl
  | 18, _ => exact jmem_4 151 (by decide +kernel) rfl
  | 19, _ => exact jmem_4 153 (by decide +kernel) rfl
  | 20, _ => exact jmem_4 155 (by decide +kernel) rfl
  | 21, _ => exact jmem_4 157 (by decide +kernel) rfl
  | 22, _ => exact jmem_4 159 (by decide +kernel) rfl
  | 23, _ => exact jmem_4 161 (by decide +kernel) rfl
  | k + 24, hk => exact absurd hk (by omega)
abbrev jH : Type := Nat → Nat → Int32
abbrev jN : Type := va_G × (Nat → ClassId) × Nat × Nat × Nat × Nat × (Nat → Int32)
def jB (n : jN) : Nat := n.2.2.1
def jb (n : jN) : Nat := n.2.2.2.1
def js (n : jN) : Nat := n.2.2.2.2.1
def jl (n : jN) : Nat := n.2.2.2.2.2.1
def jx (n : jN) : Nat → Int32 := n.2.2.2.2.2.2
def jsh (a : Nat) : Nat × Nat := jshL.getD a (99, 0)
def jrf (a k : Nat) : Nat := (jrfL.getD a []).getD k 0
def jir (ci k : Nat) : Bool := (jirL.getD ci []).getD k false
def jad (n : jN) (a : Nat) : Nat := if a < 147 then jB n + a else if a = 147 then jb n else js n
def jup (n : jN) (v : Value) : Value := match v with
  | .ref a => .ref (jad n a)
  | v => v
def jtys (n : jN) : List (ClassId × FieldType) := [(n.2.1 20, .int), (n.2.1 21, .boolean), (n.2.1 22, .object "YesNoPowers$Table"), (n.2.1 23, .object "YesNoPowers$Sheet"), (n.2.1 24, .object "YesNoPowers$Link")]
def jE (n : jN) (h : jH) (a : Nat) : va_E :=
  if (jsh a).1 < 20 then .inr ((jsh a).1, (List.range (jsh a).2).map (fun k => if jir (jsh a).1 k then .ref (jB n + jrf a k) else .int (h a k)))
  else .inl (n.2.1 (jsh a).1, (jsh a).2, if (jsh a).1 < 22 then .inl (h a) else .inr (.inr (.inr (.inr (fun k => some (jB n + jrf a k))))))
def jws (n : jN) (h : jH) : va_W := (List.range 147).map (fun a => (jB n + a, jE n h a))
def jA (n : jN) : Nat → Prop := fun q => jB n ≤ q
def jrow : Nat → Value := fun j => .int (([0, 1, 5, 73, 4369] : List Int32).getD j 0)
def jst (n : jN) (U : State) (H : Heap) : Prop := va_Z "YesNoPowers$Roots" "ROW_STARTS" "[I" (.ref (js n)) (jA n) U H ∧ va_T .int (js n) 5 jrow (jA n) U H ∧ va_X (jb n) (jl n) (jx n) U H ∧ jb n < jB n
def jBf (n : jN) (h : jH) (U : State) : Prop := va_P n.1 jcl (jws n h) U.heap ∧ va_K n.1 jcl (jtys n) U ∧ jst n U U.heap
def jQ (n : jN) (r : Option Value) (h' : jH) : Array Value → State → Outcome → State → Prop := fun _ st o t => o = .returned (r.map (jup n)) ∧ va_P n.1 jcl (jws n h') t.heap ∧ va_F (jA n) st t
def jwy (y : MethodName) (cc : ByteArray) (nL : Nat) (ret : Option FieldType) : List Cond := Cond.code y cc nL ret :: jtbl
def jRm (d : Nat) : Room := { frames := d + 1, cells := 0, slots := 0, locals := 64 * (d + 1) }
/-- a method's contract: from heap h it answers r and leaves h' -/
def jC (n : jN) (d : Nat) (y : MethodName) (cc : ByteArray) (nL : Nat) (ret : Option FieldType) (args : List Value) (h : jH) (r : Option Value) (h' : jH) : Prop :=
  ∀ (l : Launch), Met l y (jwy y cc nL ret) (jRm d) (va_Pc (args.map (jup n)) (jBf n h)) (jQ n r h') 0 0 (jA n)
def jlh (n : jN) (ls : Array Slot) (nL : Nat) (L : List (Option Value)) : Prop := ls.size = nL ∧ lv_wf ls ∧ ∀ (i : Nat) (v : Value), L[i]? = some (some v) → ls[i]? = some (.val (jup n v))
def jri (r : Option Value) : Instr := match r with
  | none => .return_
  | some (.int _) => .ireturn
  | some (.long _) => .lreturn
  | some (.float _) => .freturn
  | some (.double _) => .dreturn
  | _ => .areturn
def jX (n : jN) (d : Nat) (cc : ByteArray) (nL : Nat) (own : String) (p : Program) (R : Room) (s : State) (m : MethodId) (args : Array Value) (c : Code) (cells slots : Nat) : Prop :=
  p.tables.exec = Jvm.exec ∧ c.code = cc ∧ c.maxLocals = nL ∧ s.vm.findClass own = some m.cls ∧ (∀ w ∈ jtbl, w.before args s = true) ∧ va_K n.1 jcl (jtys n) s ∧ jst n s s.heap ∧ d + 1 ≤ R.frames ∧ 64 * (d + 1) ≤ R.locals ∧ cells ≤ R.cells ∧ slots ≤ R.slots
/-- from pc with locals L, stack st and heap h the method comes to its end with res -/
def jJ (n : jN) (d : Nat) (cc : ByteArray) (nL : Nat) (own : String) (pc : Nat) (L : List (Option Value)) (st : List Value) (h : jH) (res : Option Value × jH) : Prop :=
  ∀ (p : Program) (l : Launch) (e : Env) (R : Room) (s : State) (m : MethodId) (args : Array Value) (below : List Frame) (meth : Method) (c : Code) (cells slots : Nat) (Q : State → Prop),
    jX n d cc nL own p R s m args c cells slots →
    (∀ (pcR : Nat) (lsR : Array Slot) (H' : Heap) (locs' : List Loc), decode cc pcR = .ok (jri res.1, 1) → va_P n.1 jcl (jws n res.2) H' → va_S (jA n) s.heap H' locs' → W p l e R s m args below meth c H' locs' cells slots Q (F0 m pcR lsR (res.1.map (jup n)).toList)) →
    ∀ (ls : Array Slot) (H : Heap) (locs : List Loc), jlh n ls nL L → va_P n.1 jcl (jws n h) H → va_S (jA n) s.heap H locs → W p l e R s m args below meth c H locs cells slots Q (F0 m pc ls (st.map (jup n)))
theorem jws_at {n : jN} {h : jH} {a : Nat} (ha : a < 147) : (jws n h)[a]? = some (jB n + a, jE n h a) := by
  simp [jws, ha]
theorem jws_len (n : jN) (h : jH) : (jws n h).length = 147 := by simp [jws]
theorem jsh_lt {a k c : Nat} (h : jsh a = (k, c)) (hk : k < 99) : a < 147 := by
  rcases Nat.lt_or_ge a 147 with q | q
  · exact q
  · have : jshL.length = 147 := rfl
    have e : jsh a = (99, 0) := by
      unfold jsh
      rw [List.getD_eq_getElem?_getD, List.getElem?_eq_none (by omega)]
      rfl
    rw [e] at h
    cases h
    omega
theorem jad_lt (n : jN) {a : Nat} (h : a < 147) : jad n a = jB n + a := if_pos h
theorem jD (n : jN) (h : jH) : va_D (jA n) (jws n h) := by
  refine ⟨fun i j p q hp hq e => ?_, fun k q hq => ?_⟩
  · have hi : i < 147 := by have := (List.getElem?_eq_some_iff.mp hp).1; rwa [jws_len] at this
    have hj : j < 147 := by have := (List.getElem?_eq_some_iff.mp hq).1; rwa [jws_len] at this
    rw [jws_at hi] at hp
    rw [jws_at hj] at hq
    cases hp
    cases hq
    simp only at e
    omega
  · have hk : k < 147 := by have := (List.getElem?_eq_some_iff.mp hq).1; rwa [jws_len] at this
    rw [jws_at hk] at hq
    cases hq
    simp [jA]
/-- one entry becomes v -/
def jup2 (h : jH) (a k : Nat) (v : Int32) : jH := fun a' k' => if a' = a then (if k' = k then v else h a' k') else h a' k'
theorem jws_set {n : jN} {h : jH} {a k : Nat} {v : Int32} {x : Nat × va_E} (ha : a < 147) (hx : x = (jB n + a, jE n (jup2 h a k v) a)) : (jws n h).set a x = jws n (jup2 h a k v) := by
  subst hx
  apply List.ext_getElem?
  intro i
  rw [List.getElem?_set]
  rcases Nat.lt_or_ge i 147 with hi | hi
  · rw [jws_at hi]
    by_cases e : a = i
    · subst e
      rw [if_pos rfl, if_pos (by rw [jws_len]; exact hi)]
      exact (jws_at hi).symm
    · rw [if_neg e, jws_at hi]
      have : ∀ j, jup2 h a k v i j = h i j := fun j => by simp [jup2, Ne.symm e]
      have e2 : jup2 h a k v i = h i := funext this
      simp only [jE, this, e2]
  · rw [if_neg (by omega), List.getElem?_eq_none (by rw [jws_len]; omega), List.getElem?_eq_none (by rw [jws_len]; omega)]
section
variable {n : jN} {d : Nat} {cc : ByteArray} {nL : Nat} {own : String} {pc : Nat} {L L' : List (Option Value)} {st : List Value} {h : jH} {res : Option Value × jH}
theorem j_iconst {v : Int32} {i : Int} (hdg : decode cc pc = .ok (.iconst i, 1)) (hv : Int32.ofInt i = v) (k : jJ n d cc nL own (pc + 1) L (.int v :: st) h res) : jJ n d cc nL own pc L st h res :=
  fun p l e R s m args below meth c cells slots Q X hr ls H locs hl hP hS => lv_iconst X.1 X.2.1 hdg hv (k p l e R s m args below meth c cells slots Q X hr ls H locs hl hP hS)
theorem j_bipush {v : Int32} {i : Int} (hdg : decode cc pc = .ok (.bipush i, 2)) (hv : (Int8.ofInt i).toInt32 = v) (k : jJ n d cc nL own (pc + 2) L (.int v :: st) h res) : jJ n d cc nL own pc L st h res :=
  fun p l e R s m args below meth c cells slots Q X hr ls H locs hl hP hS => lv_bipush X.1 X.2.1 hdg hv (k p l e R s m args below meth c cells slots Q X hr ls H locs hl hP hS)
theorem j_sipush {v : Int32} {i : Int} (hdg : decode cc pc = .ok (.sipush i, 3)) (hv : (Int16.ofInt i).toInt32 = v) (k : jJ n d cc nL own (pc + 3) L (.int v :: st) h res) : jJ n d cc nL own pc L st h res :=
  fun p l e R s m args below meth c cells slots Q X hr ls H locs hl hP hS => lv_sipush X.1 X.2.1 hdg hv (k p l e R s m args below meth c cells slots Q X hr ls H locs hl hP hS)
theorem j_lconst {v : Int64} {i : Fin 2} (hdg : decode cc pc = .ok (.lconst i, 1)) (hv : Int64.ofNat (i : Nat) = v) (k : jJ n d cc nL own (pc + 1) L (.long v :: st) h res) : jJ n d cc nL own pc L st h res :=
  fun p l e R s m args below meth c cells slots Q X hr ls H locs hl hP hS => lv_lconst X.1 X.2.1 hdg hv (k p l e R s m args below meth c cells slots Q X hr ls H locs hl hP hS)
theorem j_ldc {v : Int32} {i : Nat} (hdg : decode cc pc = .ok (.ldc i, 2)) (hw : Cond.constant own i v ∈ jtbl) (k : jJ n d cc nL own (pc + 2) L (.int v :: st) h res) : jJ n d cc nL own pc L st h res :=
  fun p l e R s m args below meth c cells slots Q X hr ls H locs hl hP hS => lv_ldc X.1 X.2.1 X.2.2.2.1 (X.2.2.2.2.1 _ hw) hdg (k p l e R s m args below meth c cells slots Q X hr ls H locs hl hP hS)
theorem j_ldcw {v : Int32} {i : Nat} (hdg : decode cc pc = .ok (.ldc_w i, 3)) (hw : Cond.constant own i v ∈ jtbl) (k : jJ n d cc nL own (pc + 3) L (.int v :: st) h res) : jJ n d cc nL own pc L st h res :=
  fun p l e R s m args below meth c cells slots Q X hr ls H locs hl hP hS => lv_ldcw X.1 X.2.1 X.2.2.2.1 (X.2.2.2.2.1 _ hw) hdg (k p l e R s m args below meth c cells slots Q X hr ls H locs hl hP hS)
theorem j_ldc2 {v : Int64} {i : Nat} (hdg : decode cc pc = .ok (.ldc2_w i, 3)) (hw : Cond.constantLong own i v ∈ jtbl) (k : jJ n d cc nL own (pc + 3) L (.long v :: st) h res) : jJ n d cc nL own pc L st h res :=
  fun p l e R s m args below meth c cells slots Q X hr ls H locs hl hP hS => lv_ldc2 X.1 X.2.1 X.2.2.2.1 (X.2.2.2.2.1 _ hw) hdg (k p l e R s m args below meth c cells slots Q X hr ls H locs hl hP hS)
theorem j_iload_n {x : Int32} {i : Fin 4} (hdg : decode cc pc = .ok (.iload_n i, 1)) (hL : L[(i : Nat)]? = some (some (.int x))) (k : jJ n d cc nL own (pc + 1) L (.int x :: st) h res) : jJ n d cc nL own pc L st h res :=
  fun p l e R s m args below meth c cells slots Q X hr ls H locs hl hP hS => lv_iload_n X.1 X.2.1 hdg rfl (hl.2.2 _ _ hL) (k p l e R s m args below meth c cells slots Q X hr ls H locs hl hP hS)
theorem j_iload {x : Int32} {i : Nat} (hdg : decode cc pc = .ok (.iload i, 2)) (hL : L[i]? = some (some (.int x))) (k : jJ n d cc nL own (pc + 2) L (.int x :: st) h res) : jJ n d cc nL own pc L st h res :=
  fun p l e R s m args below meth c cells slots Q X hr ls H locs hl hP hS => lv_iload X.1 X.2.1 hdg (hl.2.2 _ _ hL) (k p l e R s m args below meth c cells slots Q X hr ls H locs hl hP hS)
theorem j_lload_n {x : Int64} {i : Fin 4} (hdg : decode cc pc = .ok (.lload_n i, 1)) (hL : L[(i : Nat)]? = some (some (.long x))) (k : jJ n d cc nL own (pc + 1) L (.long x :: st) h res) : jJ n d cc nL own pc L st h res :=
  fun p l e R s m args below meth c cells slots Q X hr ls H locs hl hP hS => lv_lload_n X.1 X.2.1 hdg rfl (hl.2.2 _ _ hL) (k p l e R s m args below meth c cells slots Q X hr ls H locs hl hP hS)
theorem j_lload {x : Int64} {i : Nat} (hdg : decode cc pc = .ok (.lload i, 2)) (hL : L[i]? = some (some (.long x))) (k : jJ n d cc nL own (pc + 2) L (.long x :: st) h res) : jJ n d cc nL own pc L st h res :=
  fun p l e R s m args below meth c cells slots Q X hr ls H locs hl hP hS => lv_lload X.1 X.2.1 hdg (hl.2.2 _ _ hL) (k p l e R s m args below meth c cells slots Q X hr ls H locs hl hP hS)
theorem j_aload_n {x : Nat} {i : Fin 4} (hdg : decode cc pc = .ok (.aload_n i, 1)) (hL : L[(i : Nat)]? = some (some (.ref x))) (k : jJ n d cc nL own (pc + 1) L (.ref x :: st) h res) : jJ n d cc nL own pc L st h res :=
  fun p l e R s m args below meth c cells slots Q X hr ls H locs hl hP hS => lv_aload_n X.1 X.2.1 hdg rfl (hl.2.2 _ _ hL) (k p l e R s m args below meth c cells slots Q X hr ls H locs hl hP hS)
theorem j_aload {x : Nat} {i : Nat} (hdg : decode cc pc = .ok (.aload i, 2)) (hL : L[i]? = some (some (.ref x))) (k : jJ n d cc nL own (pc + 2) L (.ref x :: st) h res) : jJ n d cc nL own pc L st h res :=
  fun p l e R s m args below meth c cells slots Q X hr ls H locs hl hP hS => lv_aload X.1 X.2.1 hdg (hl.2.2 _ _ hL) (k p l e R s m args below meth c cells slots Q X hr ls H locs hl hP hS)
def jas (n : jN) (L : List (Option Value)) : List (Nat × Value) := (List.range L.length).filterMap (fun i => match L[i]? with
  | some (some v) => some (i, jup n v)
  | _ => none)
theorem jas_mem {i : Nat} {v : Value} (hL : L[i]? = some (some v)) : (i, jup n v) ∈ jas n L := by
  refine List.mem_filterMap.mpr ⟨i, List.mem_range.mpr (List.getElem?_eq_some_iff.mp hL).1, ?_⟩
  rw [hL]
theorem jas_has {ls : Array Slot} (hl : jlh n ls nL L) : lv_has ls nL (jas n L) := by
  refine ⟨hl.1, hl.2.1, fun q hq => ?_⟩
  obtain ⟨i, -, h2⟩ := List.mem_filterMap.mp hq
  split at h2
  · rename_i v hv
    cases h2
    exact hl.2.2 i v hv
  · cases h2
/-- the place before i holds nothing of two slots -/
def jok (L : List (Option Value)) (i : Nat) : Bool := match i with
  | 0 => true
  | k + 1 => match L[k]? with
    | some (some (.long _)) => false
    | some (some (.double _)) => false
    | _ => true
theorem jcat (n : jN) (v : Value) : (jup n v).category = v.category := by cases v <;> rfl
theorem jlh_set {ls ls' : Array Slot} {i : Nat} {x : Value} (hl : jlh n ls nL L) (hok : jok L i = true) (h' : lv_has ls' nL ((i, jup n x) :: (jas n L).filter (fun q => !(q.1 == i) && !(q.1 + 1 == i && q.2.category == 2)))) : jlh n ls' nL (L.set i (some x)) := by
  refine ⟨h'.1, h'.2.1, fun j v hj => ?_⟩
  rw [List.getElem?_set] at hj
  by_cases e : i = j
  · subst e
    split at hj
    · split at hj
      · cases hj
        exact h'.2.2 (i, jup n x) List.mem_cons_self
      · cases hj
    · exact absurd rfl (by assumption)
  · rw [if_neg e] at hj
    refine h'.2.2 (j, jup n v) (List.mem_cons_of_mem _ (List.mem_filter.mpr ⟨jas_mem hj, ?_⟩))
    have e1 : (j == i) = false := by simp [Ne.symm e]
    by_cases e2 : j + 1 = i
    · subst e2
      simp only [jok, hj] at hok
      rw [e1, jcat]
      cases v <;> simp_all [Value.category]
    · simp [e1, e2]
theorem j_istore_n {x : Int32} {i : Fin 4} (hdg : decode cc pc = .ok (.istore_n i, 1)) (hn : (i : Nat) < nL) (hL : L.set i (some (.int x)) = L') (hok : jok L i = true) (k : jJ n d cc nL own (pc + 1) L' st h res) : jJ n d cc nL own pc L (.int x :: st) h res :=
  fun p l e R s m args below meth c cells slots Q X hr ls H locs hl hP hS => lv_istore_n X.1 X.2.1 hdg rfl (jas_has hl) hn rfl (fun ls' h' => k p l e R s m args below meth c cells slots Q X hr ls' H locs (hL ▸ jlh_set (x := .int x) hl hok h') hP hS)
theorem j_istore {x : Int32} {i : Nat} (hdg : decode cc pc = .ok (.istore i, 2)) (hn : i < nL) (hL : L.set i (some (.int x)) = L') (hok : jok L i = true) (k : jJ n d cc nL own (pc + 2) L' st h res) : jJ n d cc nL own pc L (.int x :: st) h res :=
  fun p l e R s m args below meth c cells slots Q X hr ls H locs hl hP hS => lv_istore X.1 X.2.1 hdg (jas_has hl) hn rfl (fun ls' h' => k p l e R s m args below meth c cells slots Q X hr ls' H locs (hL ▸ jlh_set (x := .int x) hl hok h') hP hS)
theorem j_astore_n {x : Nat} {i : Fin 4} (hdg : decode cc pc = .ok (.astore_n i, 1)) (hn : (i : Nat) < nL) (hL : L.set i (some (.ref x)) = L') (hok : jok L i = true) (k : jJ n d cc nL own (pc + 1) L' st h res) : jJ n d cc nL own pc L (.ref x :: st) h res :=
  fun p l e R s m args below meth c cells slots Q X hr ls H locs hl hP hS => lv_astore_n X.1 X.2.1 hdg rfl (jas_has hl) hn rfl (fun ls' h' => k p l e R s m args below meth c cells slots Q X hr ls' H locs (hL ▸ jlh_set (x := .ref x) hl hok h') hP hS)
theorem j_astore {x : Nat} {i : Nat} (hdg : decode cc pc = .ok (.astore i, 2)) (hn : i < nL) (hL : L.set i (some (.ref x)) = L') (hok : jok L i = true) (k : jJ n d cc nL own (pc + 2) L' st h res) : jJ n d cc nL own pc L (.ref x :: st) h res :=
  fun p l e R s m args below meth c cells slots Q X hr ls H locs hl hP hS => lv_astore X.1 X.2.1 hdg (jas_has hl) hn rfl (fun ls' h' => k p l e R s m args below meth c cells slots Q X hr ls' H locs (hL ▸ jlh_set (x := .ref x) hl hok h') hP hS)
theorem j_iinc {x v : Int32} {i : Nat} {z : Int} (hdg : decode cc pc = .ok (.iinc i z, 3)) (hx : L[i]? = some (some (.int x))) (hv : x + Int32.ofInt z = v) (hn : i < nL) (hL : L.set i (some (.int v)) = L') (hok : jok L i = true) (k : jJ n d cc nL own (pc + 3) L' st h res) : jJ n d cc nL own pc L st h res :=
  fun p l e R s m args below meth c cells slots Q X hr ls H locs hl hP hS => by
    obtain ⟨q, hq⟩ := List.getElem?_of_mem (jas_mem (n := n) hx)
    exact lv_iinc X.1 X.2.1 hdg (jas_has hl) hq hv hn rfl (fun ls' h' => k p l e R s m args below meth c cells slots Q X hr ls' H locs (hL ▸ jlh_set (x := .int v) hl hok h') hP hS)
theorem j_iadd {x y : Int32} (hdg : decode cc pc = .ok (.iadd, 1)) (k : jJ n d cc nL own (pc + 1) L (.int (x + y) :: st) h res) : jJ n d cc nL own pc L (.int y :: .int x :: st) h res :=
  fun p l e R s m args below meth c cells slots Q X hr ls H locs hl hP hS => lv_iadd X.1 X.2.1 hdg (k p l e R s m args below meth c cells slots Q X hr ls H locs hl hP hS)
theorem j_isub {x y : Int32} (hdg : decode cc pc = .ok (.isub, 1)) (k : jJ n d cc nL own (pc + 1) L (.int (x - y) :: st) h res) : jJ n d cc nL own pc L (.int y :: .int x :: st) h res :=
  fun p l e R s m args below meth c cells slots Q X hr ls H locs hl hP hS => lv_isub X.1 X.2.1 hdg (k p l e R s m args below meth c cells slots Q X hr ls H locs hl hP hS)
theorem j_imul {x y : Int32} (hdg : decode cc pc = .ok (.imul, 1)) (k : jJ n d cc nL own (pc + 1) L (.int (x * y) :: st) h res) : jJ n d cc nL own pc L (.int y :: .int x :: st) h res :=
  fun p l e R s m args below meth c cells slots Q X hr ls H locs hl hP hS => lv_imul X.1 X.2.1 hdg (k p l e R s m args below meth c cells slots Q X hr ls H locs hl hP hS)
theorem j_iand {x y : Int32} (hdg : decode cc pc = .ok (.iand, 1)) (k : jJ n d cc nL own (pc + 1) L (.int (x &&& y) :: st) h res) : jJ n d cc nL own pc L (.int y :: .int x :: st) h res :=
  fun p l e R s m args below meth c cells slots Q X hr ls H locs hl hP hS => lv_iand X.1 X.2.1 hdg (k p l e R s m args below meth c cells slots Q X hr ls H locs hl hP hS)
theorem j_ior {x y : Int32} (hdg : decode cc pc = .ok (.ior, 1)) (k : jJ n d cc nL own (pc + 1) L (.int (x ||| y) :: st) h res) : jJ n d cc nL own pc L (.int y :: .int x :: st) h res :=
  fun p l e R s m args below meth c cells slots Q X hr ls H locs hl hP hS => lv_ior X.1 X.2.1 hdg (k p l e R s m args below meth c cells slots Q X hr ls H locs hl hP hS)
theorem j_ixor {x y : Int32} (hdg : decode cc pc = .ok (.ixor, 1)) (k : jJ n d cc nL own (pc + 1) L (.int (x ^^^ y) :: st) h res) : jJ n d cc nL own pc L (.int y :: .int x :: st) h res :=
  fun p l e R s m args below meth c cells slots Q X hr ls H locs hl hP hS => lv_ixor X.1 X.2.1 hdg (k p l e R s m args below meth c cells slots Q X hr ls H locs hl hP hS)
theorem j_ishl {x y : Int32} (hdg : decode cc pc = .ok (.ishl, 1)) (k : jJ n d cc nL own (pc + 1) L (.int (x <<< (y &&& 31)) :: st) h res) : jJ n d cc nL own pc L (.int y :: .int x :: st) h res :=
  fun p l e R s m args below meth c cells slots Q X hr ls H locs hl hP hS => lv_ishl X.1 X.2.1 hdg (k p l e R s m args below meth c cells slots Q X hr ls H locs hl hP hS)
theorem j_ishr {x y : Int32} (hdg : decode cc pc = .ok (.ishr, 1)) (k : jJ n d cc nL own (pc + 1) L (.int (x >>> (y &&& 31)) :: st) h res) : jJ n d cc nL own pc L (.int y :: .int x :: st) h res :=
  fun p l e R s m args below meth c cells slots Q X hr ls H locs hl hP hS => lv_ishr X.1 X.2.1 hdg (k p l e R s m args below meth c cells slots Q X hr ls H locs hl hP hS)
theorem j_iushr {x y v : Int32} (hdg : decode cc pc = .ok (.iushr, 1)) (hv : (x.toUInt32 >>> (y.toUInt32 &&& Int32.toUInt32 31)).toInt32 = v) (k : jJ n d cc nL own (pc + 1) L (.int v :: st) h res) : jJ n d cc nL own pc L (.int y :: .int x :: st) h res :=
  fun p l e R s m args below meth c cells slots Q X hr ls H locs hl hP hS => lv_iushr X.1 X.2.1 hdg hv (k p l e R s m args below meth c cells slots Q X hr ls H locs hl hP hS)
theorem j_idiv {x y : Int32} (hdg : decode cc pc = .ok (.idiv, 1)) (hne : ¬ y = 0) (k : jJ n d cc nL own (pc + 1) L (.int (x / y) :: st) h res) : jJ n d cc nL own pc L (.int y :: .int x :: st) h res :=
  fun p l e R s m args below meth c cells slots Q X hr ls H locs hl hP hS => lv_idiv X.1 X.2.1 hdg hne (k p l e R s m args below meth c cells slots Q X hr ls H locs hl hP hS)
theorem j_irem {x y : Int32} (hdg : decode cc pc = .ok (.irem, 1)) (hne : ¬ y = 0) (k : jJ n d cc nL own (pc + 1) L (.int (x - x / y * y) :: st) h res) : jJ n d cc nL own pc L (.int y :: .int x :: st) h res :=
  fun p l e R s m args below meth c cells slots Q X hr ls H locs hl hP hS => lv_irem X.1 X.2.1 hdg hne (k p l e R s m args below meth c cells slots Q X hr ls H locs hl hP hS)
theorem j_ineg {x : Int32} (hdg : decode cc pc = .ok (.ineg, 1)) (k : jJ n d cc nL own (pc + 1) L (.int (-x) :: st) h res) : jJ n d cc nL own pc L (.int x :: st) h res :=
  fun p l e R s m args below meth c cells slots Q X hr ls H locs hl hP hS => lv_ineg X.1 X.2.1 hdg (k p l e R s m args below meth c cells slots Q X hr ls H locs hl hP hS)
theorem j_i2l {x : Int32} (hdg : decode cc pc = .ok (.i2l, 1)) (k : jJ n d cc nL own (pc + 1) L (.long x.toInt64 :: st) h res) : jJ n d cc nL own pc L (.int x :: st) h res :=
  fun p l e R s m args below meth c cells slots Q X hr ls H locs hl hP hS => lv_i2l X.1 X.2.1 hdg rfl (k p l e R s m args below meth c cells slots Q X hr ls H locs hl hP hS)
theorem j_i2b {x : Int32} (hdg : decode cc pc = .ok (.i2b, 1)) (k : jJ n d cc nL own (pc + 1) L (.int x.toInt8.toInt32 :: st) h res) : jJ n d cc nL own pc L (.int x :: st) h res :=
  fun p l e R s m args below meth c cells slots Q X hr ls H locs hl hP hS => lv_i2b X.1 X.2.1 hdg rfl (k p l e R s m args below meth c cells slots Q X hr ls H locs hl hP hS)
theorem j_lcmp {x y : Int64} (hdg : decode cc pc = .ok (.lcmp, 1)) (k : jJ n d cc nL own (pc + 1) L (.int (lg_cmp x y) :: st) h res) : jJ n d cc nL own pc L (.long y :: .long x :: st) h res :=
  fun p l e R s m args below meth c cells slots Q X hr ls H locs hl hP hS => W.lcmp X.1 X.2.1 hdg (k p l e R s m args below meth c cells slots Q X hr ls H locs hl hP hS)
theorem j_dup {v : Value} (hdg : decode cc pc = .ok (.dup, 1)) (hv : v.category = 1) (k : jJ n d cc nL own (pc + 1) L (v :: v :: st) h res) : jJ n d cc nL own pc L (v :: st) h res :=
  fun p l e R s m args below meth c cells slots Q X hr ls H locs hl hP hS => lv_dup X.1 X.2.1 hdg (by rw [jcat]; exact hv) (k p l e R s m args below meth c cells slots Q X hr ls H locs hl hP hS)
theorem j_pop {v : Value} (hdg : decode cc pc = .ok (.pop, 1)) (hv : v.category = 1) (k : jJ n d cc nL own (pc + 1) L st h res) : jJ n d cc nL own pc L (v :: st) h res :=
  fun p l e R s m args below meth c cells slots Q X hr ls H locs hl hP hS => lv_pop X.1 X.2.1 hdg (by rw [jcat]; exact hv) (k p l e R s m args below meth c cells slots Q X hr ls H locs hl hP hS)
theorem j_dup2 {v w : Value} (hdg : decode cc pc = .ok (.dup2, 1)) (hv : v.category = 1) (hw : w.category = 1) (k : jJ n d cc nL own (pc + 1) L (v :: w :: v :: w :: st) h res) : jJ n d cc nL own pc L (v :: w :: st) h res :=
  fun p l e R s m args below meth c cells slots Q X hr ls H locs hl hP hS => lv_dup2_11 X.1 X.2.1 hdg (by rw [jcat]; exact hv) (by rw [jcat]; exact hw) (k p l e R s m args below meth c cells slots Q X hr ls H locs hl hP hS)
theorem j_goto {off : Int} {tgt : Nat} (hdg : decode cc pc = .ok (.goto off, 3)) (ht : (pc : Int) + off = (tgt : Int)) (k : jJ n d cc nL own tgt L st h res) : jJ n d cc nL own pc L st h res :=
  fun p l e R s m args below meth c cells slots Q X hr ls H locs hl hP hS => lv_goto X.1 X.2.1 hdg ht (k p l e R s m args below meth c cells slots Q X hr ls H locs hl hP hS)
theorem j_if_eq {x : Int32} {off : Int} {tgt : Nat} (hdg : decode cc pc = .ok (.ifCond .eq off, 3)) (ht : (pc : Int) + off = (tgt : Int)) (kt : x = 0 → jJ n d cc nL own tgt L st h res) (kf : ¬ x = 0 → jJ n d cc nL own (pc + 3) L st h res) : jJ n d cc nL own pc L (.int x :: st) h res :=
  fun p l e R s m args below meth c cells slots Q X hr ls H locs hl hP hS => lv_if_eq X.1 X.2.1 hdg ht (fun q => kt q p l e R s m args below meth c cells slots Q X hr ls H locs hl hP hS) (fun q => kf q p l e R s m args below meth c cells slots Q X hr ls H locs hl hP hS)
theorem j_if_eq_t {x : Int32} {off : Int} {tgt : Nat} (hdg : decode cc pc = .ok (.ifCond .eq off, 3)) (ht : (pc : Int) + off = (tgt : Int)) (q : x = 0) (k : jJ n d cc nL own tgt L st h res) : jJ n d cc nL own pc L (.int x :: st) h res := j_if_eq hdg ht (fun _ => k) (fun z => absurd q (by first | exact z | exact fun w => w z))
theorem j_if_eq_f {x : Int32} {off : Int} {tgt : Nat} (hdg : decode cc pc = .ok (.ifCond .eq off, 3)) (ht : (pc : Int) + off = (tgt : Int)) (q : ¬ x = 0) (k : jJ n d cc nL own (pc + 3) L st h res) : jJ n d cc nL own pc L (.int x :: st) h res := j_if_eq hdg ht (fun z => absurd z (by first | exact q | exact fun w => w q)) (fun _ => k)
theorem j_if_ne {x : Int32} {off : Int} {tgt : Nat} (hdg : decode cc pc = .ok (.ifCond .ne off, 3)) (ht : (pc : Int) + off = (tgt : Int)) (kt : ¬ x = 0 → jJ n d cc nL own tgt L st h res) (kf : x = 0 → jJ n d cc nL own (pc + 3) L st h res) : jJ n d cc nL own pc L (.int x :: st) h res :=
  fun p l e R s m args below meth c cells slots Q X hr ls H locs hl hP hS => lv_if_ne X.1 X.2.1 hdg ht (fun q => kt q p l e R s m args below meth c cells slots Q X hr ls H locs hl hP hS) (fun q => kf q p l e R s m args below meth c cells slots Q X hr ls H locs hl hP hS)
theorem j_if_ne_t {x : Int32} {off : Int} {tgt : Nat} (hdg : decode cc pc = .ok (.ifCond .ne off, 3)) (ht : (pc : Int) + off = (tgt : Int)) (q : ¬ x = 0) (k : jJ n d cc nL own tgt L st h res) : jJ n d cc nL own pc L (.int x :: st) h res := j_if_ne hdg ht (fun _ => k) (fun z => absurd q (by first | exact z | exact fun w => w z))
theorem j_if_ne_f {x : Int32} {off : Int} {tgt : Nat} (hdg : decode cc pc = .ok (.ifCond .ne off, 3)) (ht : (pc : Int) + off = (tgt : Int)) (q : x = 0) (k : jJ n d cc nL own (pc + 3) L st h res) : jJ n d cc nL own pc L (.int x :: st) h res := j_if_ne hdg ht (fun z => absurd z (by first | exact q | exact fun w => w q)) (fun _ => k)
theorem j_if_lt {x : Int32} {off : Int} {tgt : Nat} (hdg : decode cc pc = .ok (.ifCond .lt off, 3)) (ht : (pc : Int) + off = (tgt : Int)) (kt : x < 0 → jJ n d cc nL own tgt L st h res) (kf : ¬ x < 0 → jJ n d cc nL own (pc + 3) L st h res) : jJ n d cc nL own pc L (.int x :: st) h res :=
  fun p l e R s m args below meth c cells slots Q X hr ls H locs hl hP hS => lv_if_lt X.1 X.2.1 hdg ht (fun q => kt q p l e R s m args below meth c cells slots Q X hr ls H locs hl hP hS) (fun q => kf q p l e R s m args below meth c cells slots Q X hr ls H locs hl hP hS)
theorem j_if_lt_t {x : Int32} {off : Int} {tgt : Nat} (hdg : decode cc pc = .ok (.ifCond .lt off, 3)) (ht : (pc : Int) + off = (tgt : Int)) (q : x < 0) (k : jJ n d cc nL own tgt L st h res) : jJ n d cc nL own pc L (.int x :: st) h res := j_if_lt hdg ht (fun _ => k) (fun z => absurd q (by first | exact z | exact fun w => w z))
theorem j_if_lt_f {x : Int32} {off : Int} {tgt : Nat} (hdg : decode cc pc = .ok (.ifCond .lt off, 3)) (ht : (pc : Int) + off = (tgt : Int)) (q : ¬ x < 0) (k : jJ n d cc nL own (pc + 3) L st h res) : jJ n d cc nL own pc L (.int x :: st) h res := j_if_lt hdg ht (fun z => absurd z (by first | exact q | exact fun w => w q)) (fun _ => k)
theorem j_if_ge {x : Int32} {off : Int} {tgt : Nat} (hdg : decode cc pc = .ok (.ifCond .ge off, 3)) (ht : (pc : Int) + off = (tgt : Int)) (kt : 0 ≤ x → jJ n d cc nL own tgt L st h res) (kf : ¬ 0 ≤ x → jJ n d cc nL own (pc + 3) L st h res) : jJ n d cc nL own pc L (.int x :: st) h res :=
  fun p l e R s m args below meth c cells slots Q X hr ls H locs hl hP hS => lv_if_ge X.1 X.2.1 hdg ht (fun q => kt q p l e R s m args below meth c cells slots Q X hr ls H locs hl hP hS) (fun q => kf q p l e R s m args below meth c cells slots Q X hr ls H locs hl hP hS)
theorem j_if_ge_t {x : Int32} {off : Int} {tgt : Nat} (hdg : decode cc pc = .ok (.ifCond .ge off, 3)) (ht : (pc : Int) + off = (tgt : Int)) (q : 0 ≤ x) (k : jJ n d cc nL own tgt L st h res) : jJ n d cc nL own pc L (.int x :: st) h res := j_if_ge hdg ht (fun _ => k) (fun z => absurd q (by first | exact z | exact fun w => w z))
theorem j_if_ge_f {x : Int32} {off : Int} {tgt : Nat} (hdg : decode cc pc = .ok (.ifCond .ge off, 3)) (ht : (pc : Int) + off = (tgt : Int)) (q : ¬ 0 ≤ x) (k : jJ n d cc nL own (pc + 3) L st h res) : jJ n d cc nL own pc L (.int x :: st) h res := j_if_ge hdg ht (fun z => absurd z (by first | exact q | exact fun w => w q)) (fun _ => k)
theorem j_if_gt {x : Int32} {off : Int} {tgt : Nat} (hdg : decode cc pc = .ok (.ifCond .gt off, 3)) (ht : (pc : Int) + off = (tgt : Int)) (kt : 0 < x → jJ n d cc nL own tgt L st h res) (kf : ¬ 0 < x → jJ n d cc nL own (pc + 3) L st h res) : jJ n d cc nL own pc L (.int x :: st) h res :=
  fun p l e R s m args below meth c cells slots Q X hr ls H locs hl hP hS => lv_if_gt X.1 X.2.1 hdg ht (fun q => kt q p l e R s m args below meth c cells slots Q X hr ls H locs hl hP hS) (fun q => kf q p l e R s m args below meth c cells slots Q X hr ls H locs hl hP hS)
theorem j_if_gt_t {x : Int32} {off : Int} {tgt : Nat} (hdg : decode cc pc = .ok (.ifCond .gt off, 3)) (ht : (pc : Int) + off = (tgt : Int)) (q : 0 < x) (k : jJ n d cc nL own tgt L st h res) : jJ n d cc nL own pc L (.int x :: st) h res := j_if_gt hdg ht (fun _ => k) (fun z => absurd q (by first | exact z | exact fun w => w z))
theorem j_if_gt_f {x : Int32} {off : Int} {tgt : Nat} (hdg : decode cc pc = .ok (.ifCond .gt off, 3)) (ht : (pc : Int) + off = (tgt : Int)) (q : ¬ 0 < x) (k : jJ n d cc nL own (pc + 3) L st h res) : jJ n d cc nL own pc L (.int x :: st) h res := j_if_gt hdg ht (fun z => absurd z (by first | exact q | exact fun w => w q)) (fun _ => k)
theorem j_if_le {x : Int32} {off : Int} {tgt : Nat} (hdg : decode cc pc = .ok (.ifCond .le off, 3)) (ht : (pc : Int) + off = (tgt : Int)) (kt : x ≤ 0 → jJ n d cc nL own tgt L st h res) (kf : ¬ x ≤ 0 → jJ n d cc nL own (pc + 3) L st h res) : jJ n d cc nL own pc L (.int x :: st) h res :=
  fun p l e R s m args below meth c cells slots Q X hr ls H locs hl hP hS => lv_if_le X.1 X.2.1 hdg ht (fun q => kt q p l e R s m args below meth c cells slots Q X hr ls H locs hl hP hS) (fun q => kf q p l e R s m args below meth c cells slots Q X hr ls H locs hl hP hS)
theorem j_if_le_t {x : Int32} {off : Int} {tgt : Nat} (hdg : decode cc pc = .ok (.ifCond .le off, 3)) (ht : (pc : Int) + off = (tgt : Int)) (q : x ≤ 0) (k : jJ n d cc nL own tgt L st h res) : jJ n d cc nL own pc L (.int x :: st) h res := j_if_le hdg ht (fun _ => k) (fun z => absurd q (by first | exact z | exact fun w => w z))
theorem j_if_le_f {x : Int32} {off : Int} {tgt : Nat} (hdg : decode cc pc = .ok (.ifCond .le off, 3)) (ht : (pc : Int) + off = (tgt : Int)) (q : ¬ x ≤ 0) (k : jJ n d cc nL own (pc + 3) L st h res) : jJ n d cc nL own pc L (.int x :: st) h res := j_if_le hdg ht (fun z => absurd z (by first | exact q | exact fun w => w q)) (fun _ => k)
theorem j_icmp_eq {x y : Int32} {off : Int} {tgt : Nat} (hdg : decode cc pc = .ok (.if_icmp .eq off, 3)) (ht : (pc : Int) + off = (tgt : Int)) (kt : x = y → jJ n d cc nL own tgt L st h res) (kf : ¬ x = y → jJ n d cc nL own (pc + 3) L st h res) : jJ n d cc nL own pc L (.int y :: .int x :: st) h res :=
  fun p l e R s m args below meth c cells slots Q X hr ls H locs hl hP hS => lv_icmp_eq X.1 X.2.1 hdg ht (fun q => kt q p l e R s m args below meth c cells slots Q X hr ls H locs hl hP hS) (fun q => kf q p l e R s m args below meth c cells slots Q X hr ls H locs hl hP hS)
theorem j_icmp_eq_t {x y : Int32} {off : Int} {tgt : Nat} (hdg : decode cc pc = .ok (.if_icmp .eq off, 3)) (ht : (pc : Int) + off = (tgt : Int)) (q : x = y) (k : jJ n d cc nL own tgt L st h res) : jJ n d cc nL own pc L (.int y :: .int x :: st) h res := j_icmp_eq hdg ht (fun _ => k) (fun z => absurd q (by first | exact z | exact fun w => w z))
theorem j_icmp_eq_f {x y : Int32} {off : Int} {tgt : Nat} (hdg : decode cc pc = .ok (.if_icmp .eq off, 3)) (ht : (pc : Int) + off = (tgt : Int)) (q : ¬ x = y) (k : jJ n d cc nL own (pc + 3) L st h res) : jJ n d cc nL own pc L (.int y :: .int x :: st) h res := j_icmp_eq hdg ht (fun z => absurd z (by first | exact q | exact fun w => w q)) (fun _ => k)
theorem j_icmp_ne {x y : Int32} {off : Int} {tgt : Nat} (hdg : decode cc pc = .ok (.if_icmp .ne off, 3)) (ht : (pc : Int) + off = (tgt : Int)) (kt : ¬ x = y → jJ n d cc nL own tgt L st h res) (kf : x = y → jJ n d cc nL own (pc + 3) L st h res) : jJ n d cc nL own pc L (.int y :: .int x :: st) h res :=
  fun p l e R s m args below meth c cells slots Q X hr ls H locs hl hP hS => lv_icmp_ne X.1 X.2.1 hdg ht (fun q => kt q p l e R s m args below meth c cells slots Q X hr ls H locs hl hP hS) (fun q => kf q p l e R s m args below meth c cells slots Q X hr ls H locs hl hP hS)
theorem j_icmp_ne_t {x y : Int32} {off : Int} {tgt : Nat} (hdg : decode cc pc = .ok (.if_icmp .ne off, 3)) (ht : (pc : Int) + off = (tgt : Int)) (q : ¬ x = y) (k : jJ n d cc nL own tgt L st h res) : jJ n d cc nL own pc L (.int y :: .int x :: st) h res := j_icmp_ne hdg ht (fun _ => k) (fun z => absurd q (by first | exact z | exact fun w => w z))
theorem j_icmp_ne_f {x y : Int32} {off : Int} {tgt : Nat} (hdg : decode cc pc = .ok (.if_icmp .ne off, 3)) (ht : (pc : Int) + off = (tgt : Int)) (q : x = y) (k : jJ n d cc nL own (pc + 3) L st h res) : jJ n d cc nL own pc L (.int y :: .int x :: st) h res := j_icmp_ne hdg ht (fun z => absurd z (by first | exact q | exact fun w => w q)) (fun _ => k)
theorem j_icmp_lt {x y : Int32} {off : Int} {tgt : Nat} (hdg : decode cc pc = .ok (.if_icmp .lt off, 3)) (ht : (pc : Int) + off = (tgt : Int)) (kt : x < y → jJ n d cc nL own tgt L st h res) (kf : ¬ x < y → jJ n d cc nL own (pc + 3) L st h res) : jJ n d cc nL own pc L (.int y :: .int x :: st) h res :=
  fun p l e R s m args below meth c cells slots Q X hr ls H locs hl hP hS => lv_icmp_lt X.1 X.2.1 hdg ht (fun q => kt q p l e R s m args below meth c cells slots Q X hr ls H locs hl hP hS) (fun q => kf q p l e R s m args below meth c cells slots Q X hr ls H locs hl hP hS)
theorem j_icmp_lt_t {x y : Int32} {off : Int} {tgt : Nat} (hdg : decode cc pc = .ok (.if_icmp .lt off, 3)) (ht : (pc : Int) + off = (tgt : Int)) (q : x < y) (k : jJ n d cc nL own tgt L st h res) : jJ n d cc nL own pc L (.int y :: .int x :: st) h res := j_icmp_lt hdg ht (fun _ => k) (fun z => absurd q (by first | exact z | exact fun w => w z))
theorem j_icmp_lt_f {x y : Int32} {off : Int} {tgt : Nat} (hdg : decode cc pc = .ok (.if_icmp .lt off, 3)) (ht : (pc : Int) + off = (tgt : Int)) (q : ¬ x < y) (k : jJ n d cc nL own (pc + 3) L st h res) : jJ n d cc nL own pc L (.int y :: .int x :: st) h res := j_icmp_lt hdg ht (fun z => absurd z (by first | exact q | exact fun w => w q)) (fun _ => k)
theorem j_icmp_ge {x y : Int32} {off : Int} {tgt : Nat} (hdg : decode cc pc = .ok (.if_icmp .ge off, 3)) (ht : (pc : Int) + off = (tgt : Int)) (kt : y ≤ x → jJ n d cc nL own tgt L st h res) (kf : ¬ y ≤ x → jJ n d cc nL own (pc + 3) L st h res) : jJ n d cc nL own pc L (.int y :: .int x :: st) h res :=
  fun p l e R s m args below meth c cells slots Q X hr ls H locs hl hP hS => lv_icmp_ge X.1 X.2.1 hdg ht (fun q => kt q p l e R s m args below meth c cells slots Q X hr ls H locs hl hP hS) (fun q => kf q p l e R s m args below meth c cells slots Q X hr ls H locs hl hP hS)
theorem j_icmp_ge_t {x y : Int32} {off : Int} {tgt : Nat} (hdg : decode cc pc = .ok (.if_icmp .ge off, 3)) (ht : (pc : Int) + off = (tgt : Int)) (q : y ≤ x) (k : jJ n d cc nL own tgt L st h res) : jJ n d cc nL own pc L (.int y :: .int x :: st) h res := j_icmp_ge hdg ht (fun _ => k) (fun z => absurd q (by first | exact z | exact fun w => w z))
theorem j_icmp_ge_f {x y : Int32} {off : Int} {tgt : Nat} (hdg : decode cc pc = .ok (.if_icmp .ge off, 3)) (ht : (pc : Int) + off = (tgt : Int)) (q : ¬ y ≤ x) (k : jJ n d cc nL own (pc + 3) L st h res) : jJ n d cc nL own pc L (.int y :: .int x :: st) h res := j_icmp_ge hdg ht (fun z => absurd z (by first | exact q | exact fun w => w q)) (fun _ => k)
theorem j_icmp_gt {x y : Int32} {off : Int} {tgt : Nat} (hdg : decode cc pc = .ok (.if_icmp .gt off, 3)) (ht : (pc : Int) + off = (tgt : Int)) (kt : y < x → jJ n d cc nL own tgt L st h res) (kf : ¬ y < x → jJ n d cc nL own (pc + 3) L st h res) : jJ n d cc nL own pc L (.int y :: .int x :: st) h res :=
  fun p l e R s m args below meth c cells slots Q X hr ls H locs hl hP hS => lv_icmp_gt X.1 X.2.1 hdg ht (fun q => kt q p l e R s m args below meth c cells slots Q X hr ls H locs hl hP hS) (fun q => kf q p l e R s m args below meth c cells slots Q X hr ls H locs hl hP hS)
theorem j_icmp_gt_t {x y : Int32} {off : Int} {tgt : Nat} (hdg : decode cc pc = .ok (.if_icmp .gt off, 3)) (ht : (pc : Int) + off = (tgt : Int)) (q : y < x) (k : jJ n d cc nL own tgt L st h res) : jJ n d cc nL own pc L (.int y :: .int x :: st) h res := j_icmp_gt hdg ht (fun _ => k) (fun z => absurd q (by first | exact z | exact fun w => w z))
theorem j_icmp_gt_f {x y : Int32} {off : Int} {tgt : Nat} (hdg : decode cc pc = .ok (.if_icmp .gt off, 3)) (ht : (pc : Int) + off = (tgt : Int)) (q : ¬ y < x) (k : jJ n d cc nL own (pc + 3) L st h res) : jJ n d cc nL own pc L (.int y :: .int x :: st) h res := j_icmp_gt hdg ht (fun z => absurd z (by first | exact q | exact fun w => w q)) (fun _ => k)
theorem j_icmp_le {x y : Int32} {off : Int} {tgt : Nat} (hdg : decode cc pc = .ok (.if_icmp .le off, 3)) (ht : (pc : Int) + off = (tgt : Int)) (kt : x ≤ y → jJ n d cc nL own tgt L st h res) (kf : ¬ x ≤ y → jJ n d cc nL own (pc + 3) L st h res) : jJ n d cc nL own pc L (.int y :: .int x :: st) h res :=
  fun p l e R s m args below meth c cells slots Q X hr ls H locs hl hP hS => lv_icmp_le X.1 X.2.1 hdg ht (fun q => kt q p l e R s m args below meth c cells slots Q X hr ls H locs hl hP hS) (fun q => kf q p l e R s m args below meth c cells slots Q X hr ls H locs hl hP hS)
theorem j_icmp_le_t {x y : Int32} {off : Int} {tgt : Nat} (hdg : decode cc pc = .ok (.if_icmp .le off, 3)) (ht : (pc : Int) + off = (tgt : Int)) (q : x ≤ y) (k : jJ n d cc nL own tgt L st h res) : jJ n d cc nL own pc L (.int y :: .int x :: st) h res := j_icmp_le hdg ht (fun _ => k) (fun z => absurd q (by first | exact z | exact fun w => w z))
theorem j_icmp_le_f {x y : Int32} {off : Int} {tgt : Nat} (hdg : decode cc pc = .ok (.if_icmp .le off, 3)) (ht : (pc : Int) + off = (tgt : Int)) (q : ¬ x ≤ y) (k : jJ n d cc nL own (pc + 3) L st h res) : jJ n d cc nL own pc L (.int y :: .int x :: st) h res := j_icmp_le hdg ht (fun z => absurd z (by first | exact q | exact fun w => w q)) (fun _ => k)
theorem j_swIn {dflt lo hi : Int} {offs : Array Int} {len : Nat} {x : Int32} {off : Int} {tgt : Nat} (hdg : decode cc pc = .ok (.tableswitch dflt lo hi offs, len)) (h1 : ¬ x.toInt < lo) (h2 : ¬ hi < x.toInt) (ho : offs[(x.toInt - lo).toNat]? = some off) (ht : (pc : Int) + off = (tgt : Int)) (k : jJ n d cc nL own tgt L st h res) : jJ n d cc nL own pc L (.int x :: st) h res :=
  fun p l e R s m args below meth c cells slots Q X hr ls H locs hl hP hS => lv_tableIn X.1 X.2.1 hdg h1 h2 ho ht (k p l e R s m args below meth c cells slots Q X hr ls H locs hl hP hS)
theorem j_swOut {dflt lo hi : Int} {offs : Array Int} {len : Nat} {x : Int32} {tgt : Nat} (hdg : decode cc pc = .ok (.tableswitch dflt lo hi offs, len)) (h1 : x.toInt < lo ∨ hi < x.toInt) (ht : (pc : Int) + dflt = (tgt : Int)) (k : jJ n d cc nL own tgt L st h res) : jJ n d cc nL own pc L (.int x :: st) h res :=
  fun p l e R s m args below meth c cells slots Q X hr ls H locs hl hP hS => lv_tableOut X.1 X.2.1 hdg h1 ht (k p l e R s m args below meth c cells slots Q X hr ls H locs hl hP hS)
theorem j_ret {r : Option Value} (hdg : decode cc pc = .ok (jri r, 1)) (hst : st = r.toList) : jJ n d cc nL own pc L st h (r, h) :=
  fun p l e R s m args below meth c cells slots Q X hr ls H locs hl hP hS => by
    subst hst
    have e : (r.toList).map (jup n) = (r.map (jup n)).toList := by cases r <;> rfl
    rw [e]
    exact hr pc ls H locs hdg hP hS
def jF (own : String) (idx ci k N : Nat) : Prop := ∃ (C : String) (T : u_T) (t : Nat → FieldType), ci < 20 ∧ jcl[ci]? = some (C, T, N) ∧ (∀ w ∈ u_ws C T N, w ∈ jtbl) ∧ k < N ∧ Cond.fieldLink own idx (T k).1 (T k).2.1 (T k).2.2.1 ∈ jtbl ∧ (∀ k, k < N → parseFieldDescriptor (T k).2.2.1 = some (t k)) ∧ (∀ a, a < N → ∀ b, b < N → a ≠ b → (T a).2.1 ≠ (T b).2.1) ∧ (jir ci k = false → t k = .int) ∧ (jir ci k = false → (T k).2.2.2 = false)
theorem jE_obj {a ci N : Nat} (hs : jsh a = (ci, N)) (hci : ci < 20) : jE n h a = .inr (ci, (List.range N).map (fun k => if jir ci k then .ref (jB n + jrf a k) else .int (h a k))) := by
  unfold jE
  rw [hs, if_pos hci]
theorem jE_int {a ci N : Nat} (hs : jsh a = (ci, N)) (h1 : ¬ ci < 20) (h2 : ci < 22) : jE n h a = .inl (n.2.1 ci, N, .inl (h a)) := by
  unfold jE
  rw [hs, if_neg h1, if_pos h2]
theorem jE_ref {a ci N : Nat} (hs : jsh a = (ci, N)) (h1 : ¬ ci < 20) (h2 : ¬ ci < 22) : jE n h a = .inl (n.2.1 ci, N, .inr (.inr (.inr (.inr (fun k => some (jB n + jrf a k)))))) := by
  unfold jE
  rw [hs, if_neg h1, if_neg h2]
theorem j_geti {a ci k N idx : Nat} (hdg : decode cc pc = .ok (.getfield idx, 3)) (hf : jF own idx ci k N) (hs : jsh a = (ci, N)) (hir : jir ci k = false) (kk : jJ n d cc nL own (pc + 3) L (.int (h a k) :: st) h res) : jJ n d cc nL own pc L (.ref a :: st) h res :=
  fun p l e R s m args below meth c cells slots Q X hr ls H locs hl hP hS => by
    obtain ⟨C, T, t, hci, hc, hin, hk, hw, -⟩ := hf
    have ha := jsh_lt hs (by omega)
    have e1 : (Value.ref a :: st).map (jup n) = .ref (jB n + a) :: st.map (jup n) := by simp [jup, jad_lt n ha]
    rw [e1]
    exact va_get (D := n.1) (C := C) (T := T) (N := N) (ci := ci) (v := .int (h a k)) X.1 X.2.1 X.2.2.2.2.1 hin X.2.2.2.1 X.2.2.2.2.2.1 hP a (by rw [jws_at ha, jE_obj hs hci]) hc k hk (X.2.2.2.2.1 _ hw) (fun _ z => z) (by simp [hk, hir]) hdg (kk p l e R s m args below meth c cells slots Q X hr ls H locs hl hP hS)
theorem j_getr {a ci k N idx b : Nat} (hdg : decode cc pc = .ok (.getfield idx, 3)) (hf : jF own idx ci k N) (hs : jsh a = (ci, N)) (hir : jir ci k = true) (hb : jrf a k = b) (hb2 : b < 147) (kk : jJ n d cc nL own (pc + 3) L (.ref b :: st) h res) : jJ n d cc nL own pc L (.ref a :: st) h res :=
  fun p l e R s m args below meth c cells slots Q X hr ls H locs hl hP hS => by
    obtain ⟨C, T, t, hci, hc, hin, hk, hw, -⟩ := hf
    have ha := jsh_lt hs (by omega)
    have e1 : (Value.ref a :: st).map (jup n) = .ref (jB n + a) :: st.map (jup n) := by simp [jup, jad_lt n ha]
    have e2 : (Value.ref b :: st).map (jup n) = .ref (jB n + b) :: st.map (jup n) := by simp [jup, jad_lt n hb2]
    have kk := kk p l e R s m args below meth c cells slots Q X hr ls H locs hl hP hS
    rw [e2] at kk
    rw [e1]
    exact va_get (D := n.1) (C := C) (T := T) (N := N) (ci := ci) (v := .ref (jB n + b)) X.1 X.2.1 X.2.2.2.2.1 hin X.2.2.2.1 X.2.2.2.2.2.1 hP a (by rw [jws_at ha, jE_obj hs hci]) hc k hk (X.2.2.2.2.1 _ hw) (fun _ z => z) (by simp [hk, hir, hb]) hdg kk
theorem jset_range {α : Type} {N k : Nat} {f : Nat → α} {x : α} : ((List.range N).map f).set k x = (List.range N).map (fun j => if j = k then x else f j) := by
  apply List.ext_getElem?
  intro i
  rw [List.getElem?_set]
  rcases Nat.lt_or_ge i N with hi | hi
  · by_cases e : k = i
    · subst e
      simp [hi]
    · simp [e, hi, Ne.symm e]
  · have hn : ¬ i < N := Nat.not_lt.mpr hi
    by_cases e : k = i
    · subst e
      simp [hn]
    · simp [e, hi]
theorem j_puti {a ci k N idx : Nat} {v : Int32} (hdg : decode cc pc = .ok (.putfield idx, 3)) (hf : jF own idx ci k N) (hs : jsh a = (ci, N)) (hir : jir ci k = false) (kk : jJ n d cc nL own (pc + 3) L st (jup2 h a k v) res) : jJ n d cc nL own pc L (.int v :: .ref a :: st) h res :=
  fun p l e R s m args below meth c cells slots Q X hr ls H locs hl hP hS => by
    obtain ⟨C, T, t, hci, hc, hin, hk, hw, hty, hnm, hti, hfi⟩ := hf
    have ha := jsh_lt hs (by omega)
    have e1 : (Value.int v :: Value.ref a :: st).map (jup n) = .int v :: .ref (jB n + a) :: st.map (jup n) := by simp [jup, jad_lt n ha]
    rw [e1]
    refine va_put (D := n.1) (C := C) (T := T) (N := N) (ci := ci) (v := .int v) (ty := .int) X.1 X.2.1 X.2.2.2.2.1 hin t hty hnm X.2.2.2.1 X.2.2.2.2.2.1 hP (jD n h) hS a (fs := (List.range N).map (fun k => if jir ci k then .ref (jB n + jrf a k) else .int (h a k))) (by rw [jws_at ha, jE_obj hs hci]) hc k hk (X.2.2.2.2.1 _ hw) (fun _ z => z) (hfi hir) (by rw [hty k hk, hti hir]) rfl rfl (by simp [hk]) hdg (fun H1 locs1 hP1 hD1 hS1 => ?_)
    refine kk p l e R s m args below meth c cells slots Q X hr ls H1 locs1 hl ?_ hS1
    rwa [jws_set (k := k) (v := v) ha] at hP1
    rw [jE_obj hs hci, jset_range]
    congr 3
    apply List.map_congr_left
    intro j hj
    by_cases ej : j = k
    · subst ej
      simp [hir, jup2]
    · simp [ej, jup2]
theorem j_iald {a N : Nat} {j : Int32} (hdg : decode cc pc = .ok (.iaload, 1)) (hs : jsh a = (20, N)) (hin : vp_in j N) (kk : jJ n d cc nL own (pc + 1) L (.int (h a j.toNatClampNeg) :: st) h res) : jJ n d cc nL own pc L (.int j :: .ref a :: st) h res :=
  fun p l e R s m args below meth c cells slots Q X hr ls H locs hl hP hS => by
    have ha := jsh_lt hs (by omega)
    have e1 : (Value.int j :: Value.ref a :: st).map (jup n) = .int j :: .ref (jB n + a) :: st.map (jup n) := by simp [jup, jad_lt n ha]
    rw [e1]
    exact va_iald X.1 X.2.1 X.2.2.2.2.2.1 hP a 0 (f := h a) (by rw [jws_at ha, jE_int hs (by omega) (by omega)]) rfl hin hdg (kk p l e R s m args below meth c cells slots Q X hr ls H locs hl hP hS)
theorem j_zald {a N : Nat} {j : Int32} (hdg : decode cc pc = .ok (.baload, 1)) (hs : jsh a = (21, N)) (hin : vp_in j N) (kk : jJ n d cc nL own (pc + 1) L (.int (h a j.toNatClampNeg) :: st) h res) : jJ n d cc nL own pc L (.int j :: .ref a :: st) h res :=
  fun p l e R s m args below meth c cells slots Q X hr ls H locs hl hP hS => by
    have ha := jsh_lt hs (by omega)
    have e1 : (Value.int j :: Value.ref a :: st).map (jup n) = .int j :: .ref (jB n + a) :: st.map (jup n) := by simp [jup, jad_lt n ha]
    rw [e1]
    exact va_zald X.1 X.2.1 X.2.2.2.2.2.1 hP a 1 (f := h a) (by rw [jws_at ha, jE_int hs (by omega) (by omega)]) rfl hin hdg (kk p l e R s m args below meth c cells slots Q X hr ls H locs hl hP hS)
theorem jupd_eq {a k : Nat} {v : Int32} : upd (h a) k v = jup2 h a k v a := by
  funext j
  simp [upd, jup2]
theorem j_iast {a N : Nat} {j v : Int32} (hdg : decode cc pc = .ok (.iastore, 1)) (hs : jsh a = (20, N)) (hin : vp_in j N) (kk : jJ n d cc nL own (pc + 1) L st (jup2 h a j.toNatClampNeg v) res) : jJ n d cc nL own pc L (.int v :: .int j :: .ref a :: st) h res :=
  fun p l e R s m args below meth c cells slots Q X hr ls H locs hl hP hS => by
    have ha := jsh_lt hs (by omega)
    have e1 : (Value.int v :: Value.int j :: Value.ref a :: st).map (jup n) = .int v :: .int j :: .ref (jB n + a) :: st.map (jup n) := by simp [jup, jad_lt n ha]
    rw [e1]
    refine va_iast X.1 X.2.1 X.2.2.2.2.2.1 hP (jD n h) hS a 0 (f := h a) (by rw [jws_at ha, jE_int hs (by omega) (by omega)]) rfl hin hdg (fun H1 locs1 hP1 hD1 hS1 => ?_)
    refine kk p l e R s m args below meth c cells slots Q X hr ls H1 locs1 hl ?_ hS1
    rwa [jws_set (k := j.toNatClampNeg) (v := v) ha] at hP1
    rw [jE_int hs (by omega) (by omega), jupd_eq]
theorem j_zast {a N : Nat} {j v : Int32} (hdg : decode cc pc = .ok (.bastore, 1)) (hs : jsh a = (21, N)) (hin : vp_in j N) (kk : jJ n d cc nL own (pc + 1) L st (jup2 h a j.toNatClampNeg (vp_nar .boolean v)) res) : jJ n d cc nL own pc L (.int v :: .int j :: .ref a :: st) h res :=
  fun p l e R s m args below meth c cells slots Q X hr ls H locs hl hP hS => by
    have ha := jsh_lt hs (by omega)
    have e1 : (Value.int v :: Value.int j :: Value.ref a :: st).map (jup n) = .int v :: .int j :: .ref (jB n + a) :: st.map (jup n) := by simp [jup, jad_lt n ha]
    rw [e1]
    refine va_zast X.1 X.2.1 X.2.2.2.2.2.1 hP (jD n h) hS a 1 (f := h a) (by rw [jws_at ha, jE_int hs (by omega) (by omega)]) rfl hin hdg (fun H1 locs1 hP1 hD1 hS1 => ?_)
    refine kk p l e R s m args below meth c cells slots Q X hr ls H1 locs1 hl ?_ hS1
    rwa [jws_set (k := j.toNatClampNeg) (v := vp_nar .boolean v) ha] at hP1
    rw [jE_int hs (by omega) (by omega), jupd_eq]
theorem j_aald {a t N b : Nat} {j : Int32} (hdg : decode cc pc = .ok (.aaload, 1)) (hs : jsh a = (t, N)) (ht : t = 22 ∨ t = 23 ∨ t = 24) (hin : vp_in j N) (hb : jrf a j.toNatClampNeg = b) (hb2 : b < 147) (kk : jJ n d cc nL own (pc + 1) L (.ref b :: st) h res) : jJ n d cc nL own pc L (.int j :: .ref a :: st) h res :=
  fun p l e R s m args below meth c cells slots Q X hr ls H locs hl hP hS => by
    have ha := jsh_lt hs (by omega)
    have e1 : (Value.int j :: Value.ref a :: st).map (jup n) = .int j :: .ref (jB n + a) :: st.map (jup n) := by simp [jup, jad_lt n ha]
    have e2 : (Value.ref b :: st).map (jup n) = va_rf (some (jB n + jrf a j.toNatClampNeg)) :: st.map (jup n) := by simp [jup, jad_lt n hb2, va_rf, hb]
    have kk := kk p l e R s m args below meth c cells slots Q X hr ls H locs hl hP hS
    rw [e2] at kk
    rw [e1]
    rcases ht with rfl | rfl | rfl
    · exact va_aldq X.1 X.2.1 X.2.2.2.2.2.1 hP a 2 (f := fun k => some (jB n + jrf a k)) (by rw [jws_at ha, jE_ref hs (by omega) (by omega)]) rfl hin hdg kk
    · exact va_aldq X.1 X.2.1 X.2.2.2.2.2.1 hP a 3 (f := fun k => some (jB n + jrf a k)) (by rw [jws_at ha, jE_ref hs (by omega) (by omega)]) rfl hin hdg kk
    · exact va_aldq X.1 X.2.1 X.2.2.2.2.2.1 hP a 4 (f := fun k => some (jB n + jrf a k)) (by rw [jws_at ha, jE_ref hs (by omega) (by omega)]) rfl hin hdg kk
/-- a getstatic of ROW_STARTS -/
theorem j_gets {idx : Nat} (hdg : decode cc pc = .ok (.getstatic idx, 3)) (hw : Cond.fieldLink own idx "YesNoPowers$Roots" "ROW_STARTS" "[I" ∈ jtbl) (kk : jJ n d cc nL own (pc + 3) L (.ref 148 :: st) h res) : jJ n d cc nL own pc L st h res :=
  fun p l e R s m args below meth c cells slots Q X hr ls H locs hl hP hS => by
    have e2 : (Value.ref 148 :: st).map (jup n) = .ref (js n) :: st.map (jup n) := by simp [jup, jad]
    have kk := kk p l e R s m args below meth c cells slots Q X hr ls H locs hl hP hS
    rw [e2] at kk
    exact va_gets X.1 X.2.1 X.2.2.2.2.2.2.1.1 hS X.2.2.2.1 (X.2.2.2.2.1 _ hw) (fun _ z => z) hdg kk
theorem j_rld {j v : Int32} (hdg : decode cc pc = .ok (.iaload, 1)) (hin : vp_in j 5) (hv : ([0, 1, 5, 73, 4369] : List Int32).getD j.toNatClampNeg 0 = v) (kk : jJ n d cc nL own (pc + 1) L (.int v :: st) h res) : jJ n d cc nL own pc L (.int j :: .ref 148 :: st) h res :=
  fun p l e R s m args below meth c cells slots Q X hr ls H locs hl hP hS => by
    have e2 : (Value.int j :: Value.ref 148 :: st).map (jup n) = .int j :: .ref (js n) :: st.map (jup n) := by simp [jup, jad]
    rw [e2]
    exact va_ti X.1 X.2.1 X.2.2.2.2.2.2.1.2.1 hS hin (by simp only [jrow, hv]; rfl) hdg (kk p l e R s m args below meth c cells slots Q X hr ls H locs hl hP hS)
theorem jnA {q : Nat} (h : q < jB n) : ¬ jA n q := by simp [jA]; omega
theorem j_sld {j : Int32} (hdg : decode cc pc = .ok (.iaload, 1)) (hin : vp_in j (jl n)) (kk : jJ n d cc nL own (pc + 1) L (.int (jx n j.toNatClampNeg) :: st) h res) : jJ n d cc nL own pc L (.int j :: .ref 147 :: st) h res :=
  fun p l e R s m args below meth c cells slots Q X hr ls H locs hl hP hS => by
    have e2 : (Value.int j :: Value.ref 147 :: st).map (jup n) = .int j :: .ref (jb n) :: st.map (jup n) := by simp [jup, jad]
    rw [e2]
    obtain ⟨scr, hs1, -⟩ := id X.2.2.2.2.2.2.1.2.2.1
    exact va_sld X.1 X.2.1 X.2.2.2.2.2.2.1.2.2.1 (Array.getElem?_eq_some_iff.mp hs1).1 (jnA X.2.2.2.2.2.2.1.2.2.2) hS hin hdg (kk p l e R s m args below meth c cells slots Q X hr ls H locs hl hP hS)
theorem j_slen (hdg : decode cc pc = .ok (.arraylength, 1)) (kk : jJ n d cc nL own (pc + 1) L (.int (Int32.ofNat (jl n)) :: st) h res) : jJ n d cc nL own pc L (.ref 147 :: st) h res :=
  fun p l e R s m args below meth c cells slots Q X hr ls H locs hl hP hS => by
    have e2 : (Value.ref 147 :: st).map (jup n) = .ref (jb n) :: st.map (jup n) := by simp [jup, jad]
    rw [e2]
    obtain ⟨scr, hs1, -⟩ := id X.2.2.2.2.2.2.1.2.2.1
    exact va_slen X.1 X.2.1 X.2.2.2.2.2.2.1.2.2.1 (Array.getElem?_eq_some_iff.mp hs1).1 (jnA X.2.2.2.2.2.2.1.2.2.2) hS hdg (kk p l e R s m args below meth c cells slots Q X hr ls H locs hl hP hS)
/-- what the heap of a row of ints becomes by a copy -/
def jcp (h : jH) (a b i j k : Nat) : jH := fun a' => if a' = b then va_cpy (h a) (h b) i j k else h a'
theorem jws_setA {n : jN} {h h' : jH} {a : Nat} {x : Nat × va_E} (ha : a < 147) (hh : ∀ a', a' ≠ a → h' a' = h a') (hx : x = (jB n + a, jE n h' a)) : (jws n h).set a x = jws n h' := by
  subst hx
  apply List.ext_getElem?
  intro i
  rw [List.getElem?_set]
  rcases Nat.lt_or_ge i 147 with hi | hi
  · rw [jws_at hi]
    by_cases e : a = i
    · subst e
      rw [if_pos rfl, if_pos (by rw [jws_len]; exact hi)]
      exact (jws_at hi).symm
    · rw [if_neg e, jws_at hi]
      have e2 : h' i = h i := hh i (Ne.symm e)
      have e3 : ∀ j, h' i j = h i j := fun j => by rw [e2]
      simp only [jE, e3, e2]
  · rw [if_neg (by omega), List.getElem?_eq_none (by rw [jws_len]; omega), List.getElem?_eq_none (by rw [jws_len]; omega)]
theorem j_copy {a b N M idx : Nat} {i j k : Int32} (hdg : decode cc pc = .ok (.invokestatic idx, 3)) (hlink : Cond.methodLink own idx arraycopyName ∈ jtbl) (hnat : Cond.native arraycopyName ∈ jtbl) (hst : Cond.static arraycopyName ∈ jtbl) (hini : Cond.initialized "java/lang/System" ∈ jtbl) (hsz : st.length ≤ 4)
    (hs : jsh a = (20, N)) (hs2 : jsh b = (20, M)) (h1 : ¬ i < 0) (h2 : ¬ j < 0) (h3 : ¬ k < 0) (h4 : i.toNatClampNeg + k.toNatClampNeg ≤ N) (h5 : j.toNatClampNeg + k.toNatClampNeg ≤ M)
    (kk : jJ n d cc nL own (pc + 3) L st (jcp h a b i.toNatClampNeg j.toNatClampNeg k.toNatClampNeg) res) : jJ n d cc nL own pc L (.int k :: .int j :: .ref b :: .int i :: .ref a :: st) h res :=
  fun p l e R s m args below meth c cells slots Q X hr ls H locs hl hP hS => by
    have ha := jsh_lt hs (by omega)
    have hb := jsh_lt hs2 (by omega)
    have e2 : (Value.int k :: Value.int j :: Value.ref b :: Value.int i :: Value.ref a :: st).map (jup n) = .int k :: .int j :: .ref (jB n + b) :: .int i :: .ref (jB n + a) :: st.map (jup n) := by simp [jup, jad_lt n ha, jad_lt n hb]
    rw [e2]
    have hcat : ((st.map (jup n)).map fun v => v.category).sum ≤ 2 * st.length := by
      clear kk e2 hsz
      induction st with
      | nil => simp
      | cons v t ih =>
        simp only [List.map_cons, List.sum_cons, List.length_cons]
        have := lv_cat (jup n v)
        omega
    have hnf : nativeFrameWords "java/lang/System" "arraycopy" 5 + 11 ≤ 56 := by decide +kernel
    have hloc := X.2.2.2.2.2.2.2.2.1
    refine va_copyi X.1 X.2.1 (X.2.2.1.trans hl.1.symm) X.2.2.2.1 (X.2.2.2.2.1 _ hlink) (X.2.2.2.2.1 _ hnat) (X.2.2.2.2.1 _ hst) (X.2.2.2.2.1 _ hini) X.2.2.2.2.2.1 hP (jD n h) hS a b 0 0 (f := h a) (g := h b) (ty := .int) (by rw [jws_at ha, jE_int hs (by omega) (by omega)]) (by rw [jws_at hb, jE_int hs2 (by omega) (by omega)]) rfl rfl rfl h1 h2 h3 h4 h5 (fun _ _ => rfl) (by have := X.2.2.2.2.2.2.2.1; omega) (by omega) hdg (fun H1 locs1 hP1 hD1 hS1 => ?_)
    refine kk p l e R s m args below meth c cells slots Q X hr ls H1 locs1 hl ?_ hS1
    rwa [jws_setA (h' := jcp h a b i.toNatClampNeg j.toNatClampNeg k.toNatClampNeg) hb (fun a' q => by simp [jcp, q])] at hP1
    rw [jE_int hs2 (by omega) (by omega)]
    simp [jcp]
/-- what a call of y needs of the tables -/
def jMi (y : MethodName) (bytes : ByteArray) (maxL : Nat) (ret : Option FieldType) (np : Nat) : Prop :=
  Cond.initialized y.cls ∈ jtbl ∧ Cond.code y bytes maxL ret ∈ jtbl ∧ (y.cls ≠ "java/lang/invoke/MethodHandle" ∧ y.cls ≠ "java/lang/invoke/VarHandle" ∧ (parseMethodDescriptor y.desc).map (fun d => d.parameters.length) = some np) ∧ maxL ≤ 40 ∧ plainFor y = true
theorem jgood : GoodIn jtbl jtbl := fun w hw => ⟨hw, good_of_word (List.mem_filter.mp hw).2⟩
theorem jgoodw {y : MethodName} {bytes : ByteArray} {maxL : Nat} {ret : Option FieldType} (hc : Cond.code y bytes maxL ret ∈ jtbl) : GoodIn jtbl (jwy y bytes maxL ret) := fun w hw => (List.mem_cons.mp hw).elim (fun e => by rw [e]; exact jgood _ hc) (fun q => jgood _ q)
theorem jstK {s U : State} {H : Heap} {locs : List Loc} (h : jst n s s.heap) (hS : va_S (jA n) s.heap H locs) (hvm : s.vm.Alike U.vm) : jst n U H := by
  obtain ⟨h1, h2, h3, h4⟩ := h
  have hq : ∀ a : Nat, a < s.heap.size → ¬ jA n a → H[a]? = s.heap[a]? := hS.2.1
  refine ⟨(h1.kept hq).moved hvm, (h2.kept hq).moved hvm, (h3.kept ?_).moved hvm, h4⟩
  obtain ⟨scr, hs1, -⟩ := id h3
  exact hq _ (Array.getElem?_eq_some_iff.mp hs1).1 (jnA h4)
theorem jblind {av : List Value} : FrameBlind (va_Pc av (jBf n h)) := by
  intro a U g mk q
  obtain ⟨q1, q2, q3, q4⟩ := q
  have hS : va_S (jA n) U.heap (U.calling g mk a).heap [] := va_S.rf
  exact ⟨q1, q2, va_K.moved (u := U) (U := U.calling g mk a) (Vm.Alike.refl U.vm) q3, jstK q4 hS (Vm.Alike.refl U.vm)⟩
theorem jcats (st : List Value) (hsz : st.length ≤ 4) : ((st.map (jup n)).map fun v => v.category).sum ≤ 8 := by
  have : ((st.map (jup n)).map fun v => v.category).sum ≤ 2 * st.length := by
    clear hsz
    induction st with
    | nil => simp
    | cons v t ih =>
      simp only [List.map_cons, List.sum_cons, List.length_cons]
      have := lv_cat (jup n v)
      omega
  omega
/-- behind a call -/
theorem j_after {r : Option Value} {h1 : jH} {p : Program} {l : Launch} {e : Env} {R : Room} {s : State} {m : MethodId} {args : Array Value} {below : List Frame} {meth : Method} {c : Code} {cells slots : Nat} {Q : State → Prop} {H : Heap} {locs : List Loc} {g : JFrame} {ls : Array Slot} {rest : List Value} {a : Array Value}
    (hg : g = F0 m pc ls g.stack) (hr : va_Run p l e R s m args below meth c H locs cells slots 0 0 g rest (jQ n r h1 a) (jA n)) (hS : va_S (jA n) s.heap H locs)
    (kk : ∀ (H1 : Heap) (locs1 : List Loc), va_P n.1 jcl (jws n h1) H1 → va_S (jA n) s.heap H1 locs1 → W p l e R s m args below meth c H1 locs1 cells slots Q (F0 m (pc + 3) ls ((r.map (jup n)).toList ++ rest))) : W p l e R s m args below meth c H locs cells slots Q g := by
  intro T hT X
  obtain ⟨v, st₀, t, T', Lc, h0, X', hL, e1, e2, ⟨hv, hP1, hz, hk⟩, st⟩ := hr T hT X
  cases hv
  rw [h0] at hz hk
  have hS1 : va_S (jA n) s.heap T'.heap (locs ++ Lc) := ⟨Nat.le_trans hS.1 (by rw [e1]; exact hz), fun q h1 h2 => by rw [e1, hk q (Nat.lt_of_lt_of_le h1 hS.1) h2]; exact hS.2.1 q h1 h2, fun q hq => by
      rcases List.mem_append.mp hq with h | h
      · exact hS.2.2 q h
      · exact hL q h⟩
  obtain ⟨t2, a1, b1⟩ := kk T'.heap (locs ++ Lc) (by rw [e1]; exact hP1) hS1 T' rfl X'
  rw [hg] at st
  rw [hg]
  exact ⟨t2, st t2 a1, b1⟩
theorem j_callV {d' idx a ci maxL N np : Nat} {y : MethodName} {bytes : ByteArray} {ret : Option FieldType} {As : List Value} {r : Option Value} {h1 : jH} {st0 : List Value} (hC : jC n d' y bytes maxL ret (.ref a :: As) h r h1) (hdg : decode cc pc = .ok (.invokevirtual idx, 3)) (hd : d' < d) (hm : jMi y bytes maxL ret np)
    (hlink : Cond.methodLink own idx y ∈ jtbl) (hin : Cond.instanceMethod y ∈ jtbl) (hsel : Cond.selects y.cls y y ∈ jtbl) (hs : jsh a = (ci, N)) (hci : ci < 20) (hcl : (jcl[ci]?).map (·.1) = some y.cls) (hnp : As.length = np) (hsz : st.length ≤ 4) (hst : st0 = As.reverse ++ .ref a :: st)
    (kk : jJ n d cc nL own (pc + 3) L (r.toList ++ st) h1 res) : jJ n d cc nL own pc L st0 h res :=
  fun p l e R s m args below meth c cells slots Q X hr ls H locs hl hP hS => by
    subst hst
    have ha := jsh_lt hs (by omega)
    obtain ⟨hini, hcode, hdy, hmx, -⟩ := hm
    have hw : ∀ w ∈ jtbl, w.before args s = true := X.2.2.2.2.1
    obtain ⟨q, hq1, hq2⟩ := Option.map_eq_some_iff.mp hcl
    have cb := callB_of (y := y) (own := own) (index := idx) (R := R) np hw (jgoodw hcode) (ws' := jtbl) rfl (rm := jRm d') (mc := 0) (ms := 0) rfl rfl (hw _ hini) (hw _ hlink) hdy ⟨by have := X.2.2.2.2.2.2.2.1; simp only [jRm]; omega, by have := X.2.2.2.2.2.2.2.2.1; simp only [jRm]; omega⟩
    refine j_after (n := n) (g := F0 m pc ls ((As.reverse ++ Value.ref a :: st).map (jup n))) rfl (va_runV (C := y.cls) (b := jB n + a) (As := As.map (jup n)) (rest := st.map (jup n)) (n := np) ⟨X.1, X.2.1, X.2.2.1, X.2.2.2.1, hw⟩ (hC l) ⟨cb, hw _ hin, hw _ hsel⟩ ⟨jblind, ?_, fun U hU hW => ⟨?_, ?_, ?_, ?_⟩⟩ rfl (by simp [hnp]) (hl.1.trans rfl) (by simp [jup, jad_lt n ha]) (by simp only [Nat.mul_zero, Nat.zero_add]; exact jcats st hsz) hdg ⟨X.2.2.2.2.2.2.2.2.2.1, X.2.2.2.2.2.2.2.2.2.2⟩) hS (fun H1 locs1 hP1 hS1 => ?_)
    · rw [← hq2]
      exact va_recv X.2.2.2.2.2.1 hP hq1 (by rw [jws_at ha, jE_obj hs hci])
    · simp [jup, jad_lt n ha]
    · rw [hU]; exact hP
    · exact va_K.moved hW.alike X.2.2.2.2.2.1
    · rw [hU]; exact jstK X.2.2.2.2.2.2.1 hS hW.alike
    · have e3 : (r.map (jup n)).toList ++ st.map (jup n) = (r.toList ++ st).map (jup n) := by cases r <;> rfl
      rw [e3]
      exact kk p l e R s m args below meth c cells slots Q X hr ls H1 locs1 hl hP1 hS1
theorem j_callS {d' idx maxL np : Nat} {y : MethodName} {bytes : ByteArray} {ret : Option FieldType} {As : List Value} {r : Option Value} {h1 : jH} {st0 : List Value} (hC : jC n d' y bytes maxL ret As h r h1) (hdg : decode cc pc = .ok (.invokestatic idx, 3)) (hd : d' < d) (hm : jMi y bytes maxL ret np)
    (hlink : Cond.methodLink own idx y ∈ jtbl) (hin : Cond.static y ∈ jtbl) (hnp : As.length = np) (hsz : st.length ≤ 4) (hst : st0 = As.reverse ++ st)
    (kk : jJ n d cc nL own (pc + 3) L (r.toList ++ st) h1 res) : jJ n d cc nL own pc L st0 h res :=
  fun p l e R s m args below meth c cells slots Q X hr ls H locs hl hP hS => by
    subst hst
    obtain ⟨hini, hcode, hdy, hmx, -⟩ := hm
    have hw : ∀ w ∈ jtbl, w.before args s = true := X.2.2.2.2.1
    have cb := callB_of (y := y) (own := own) (index := idx) (R := R) np hw (jgoodw hcode) (ws' := jtbl) rfl (rm := jRm d') (mc := 0) (ms := 0) rfl rfl (hw _ hini) (hw _ hlink) hdy ⟨by have := X.2.2.2.2.2.2.2.1; simp only [jRm]; omega, by have := X.2.2.2.2.2.2.2.2.1; simp only [jRm]; omega⟩
    refine j_after (n := n) (g := F0 m pc ls ((As.reverse ++ st).map (jup n))) rfl (va_runS (As := As.map (jup n)) (rest := st.map (jup n)) (n := np) ⟨X.1, X.2.1, X.2.2.1, X.2.2.2.1, hw⟩ (hC l) ⟨cb, hw _ hin⟩ ⟨jblind, fun U hU hW => ⟨rfl, ?_, ?_, ?_⟩⟩ rfl (by simp [hnp]) (hl.1.trans rfl) (by simp) (by simp only [Nat.mul_zero, Nat.zero_add]; exact jcats st hsz) hdg ⟨X.2.2.2.2.2.2.2.2.2.1, X.2.2.2.2.2.2.2.2.2.2⟩) hS (fun H1 locs1 hP1 hS1 => ?_)
    · rw [hU]; exact hP
    · exact va_K.moved hW.alike X.2.2.2.2.2.1
    · rw [hU]; exact jstK X.2.2.2.2.2.2.1 hS hW.alike
    · have e3 : (r.map (jup n)).toList ++ st.map (jup n) = (r.toList ++ st).map (jup n) := by cases r <;> rfl
      rw [e3]
      exact kk p l e R s m args below meth c cells slots Q X hr ls H1 locs1 hl hP1 hS1
theorem j_mmin {idx : Nat} {x y : Int32} (hdg : decode cc pc = .ok (.invokestatic idx, 3)) (hlink : Cond.methodLink own idx Lib.Math.min.name ∈ jtbl) (hst : Cond.static Lib.Math.min.name ∈ jtbl) (hini : Cond.initialized "java/lang/Math" ∈ jtbl) (hco : Cond.code Lib.Math.min.name Lib.Math.min.code 2 (some .int) ∈ jtbl) (hsz : st.length ≤ 4)
    (kk : jJ n d cc nL own (pc + 3) L (.int (if y < x then y else x) :: st) h res) : jJ n d cc nL own pc L (.int y :: .int x :: st) h res :=
  fun p l e R s m args below meth c cells slots Q X hr ls H locs hl hP hS => by
    have hcat := jcats (n := n) st hsz
    have hloc := X.2.2.2.2.2.2.2.2.1
    exact va_mmin X.1 X.2.1 (X.2.2.1.trans hl.1.symm) X.2.2.2.1 (X.2.2.2.2.1 _ hlink) (X.2.2.2.2.1 _ hst) (X.2.2.2.2.1 _ hini) (X.2.2.2.2.1 _ hco) (by have := X.2.2.2.2.2.2.2.1; omega) (by omega) X.2.2.2.2.2.2.2.2.2.1 X.2.2.2.2.2.2.2.2.2.2 hdg (kk p l e R s m args below meth c cells slots Q X hr ls H locs hl hP hS)
theorem j_mabs {idx : Nat} {x : Int32} (hdg : decode cc pc = .ok (.invokestatic idx, 3)) (hlink : Cond.methodLink own idx Lib.Math.abs.name ∈ jtbl) (hst : Cond.static Lib.Math.abs.name ∈ jtbl) (hini : Cond.initialized "java/lang/Math" ∈ jtbl) (hco : Cond.code Lib.Math.abs.name Lib.Math.abs.code 1 (some .int) ∈ jtbl) (hsz : st.length ≤ 4)
    (kk : jJ n d cc nL own (pc + 3) L (.int (if 0 ≤ x then x else 0 - x) :: st) h res) : jJ n d cc nL own pc L (.int x :: st) h res :=
  fun p l e R s m args below meth c cells slots Q X hr ls H locs hl hP hS => by
    have hcat := jcats (n := n) st hsz
    have hloc := X.2.2.2.2.2.2.2.2.1
    exact va_mabs X.1 X.2.1 (X.2.2.1.trans hl.1.symm) X.2.2.2.1 (X.2.2.2.2.1 _ hlink) (X.2.2.2.2.1 _ hst) (X.2.2.2.2.1 _ hini) (X.2.2.2.2.1 _ hco) (by have := X.2.2.2.2.2.2.2.1; omega) (by omega) X.2.2.2.2.2.2.2.2.2.1 X.2.2.2.2.2.2.2.2.2.2 hdg (kk p l e R s m args below meth c cells slots Q X hr ls H locs hl hP hS)
end
end
section
def jloc (vs : List Value) : List (Option Value) := vs.flatMap fun v => if v.category = 2 then [some v, none] else [some v]
theorem jloc_at (n : jN) : ∀ (vs : List Value) (i : Nat) (v : Value), (jloc vs)[i]? = some (some v) → (lg_sl (vs.map (jup n)))[i]? = some (.val (jup n v))
  | [], i, v, h => by simp [jloc] at h
  | w :: vs, i, v, h => by
    have ih := jloc_at n vs
    simp only [jloc, lg_sl, List.map_cons, List.flatMap_cons, jcat] at h ⊢
    by_cases hc : w.category = 2
    · simp only [hc, if_true] at h ⊢
      match i, h with
      | 0, h => simp at h; simp [h]
      | 1, h => simp at h
      | i + 2, h =>
        have h2 : (jloc vs)[i]? = some (some v) := by simpa [jloc] using h
        have := ih i v h2
        simpa [lg_sl] using this
    · simp only [hc, if_false] at h ⊢
      match i, h with
      | 0, h => simp at h; simp [h]
      | i + 1, h =>
        have h2 : (jloc vs)[i]? = some (some v) := by simpa [jloc] using h
        have := ih i v h2
        simpa [lg_sl] using this
theorem jloc_len (n : jN) (vs : List Value) : (lg_sl (vs.map (jup n))).length = (jloc vs).length := by
  induction vs with
  | nil => rfl
  | cons w vs ih =>
    simp only [jloc, lg_sl, List.map_cons, List.flatMap_cons, jcat, List.length_append] at ih ⊢
    rw [ih]
    by_cases hc : w.category = 2 <;> simp [hc]
theorem jentry {n : jN} {vs : List Value} {nL : Nat} {L : List (Option Value)} (hn : (jloc vs).length ≤ nL) (hL : L = jloc vs ++ List.replicate (nL - (jloc vs).length) none) :
    jlh n ((lg_sl (vs.map (jup n)) ++ List.replicate (nL - (lg_sl (vs.map (jup n))).length) Slot.unset).toArray) nL L := by
  have h0 := lv_entry (vs.map (jup n)) (n := nL) (by rw [jloc_len]; exact hn)
  refine ⟨h0.1, h0.2.1, fun i v hv => ?_⟩
  subst hL
  rcases Nat.lt_or_ge i (jloc vs).length with hi | hi
  · rw [List.getElem?_append_left hi] at hv
    have := jloc_at n vs i v hv
    rw [List.getElem?_toArray, List.getElem?_append_left (by rw [jloc_len]; exact hi)]
    exact this
  · rw [List.getElem?_append_right hi, List.getElem?_replicate] at hv
    split at hv
    · cases hv
    · cases hv
/-- the answer suits what the method returns -/
def jrok (ret : Option FieldType) (r : Option Value) : Prop := match ret, r with
  | none, none => True
  | some .int, some (.int _) => True
  | some .boolean, some (.int v) => v = 0 ∨ v = 1
  | some .long, some (.long _) => True
  | some (.object _), some (.ref _) => True
  | _, _ => False
theorem jMetOfW {l : Launch} {y : MethodName} {ws ws' : List Cond} {rm : Room} {Pc : Array Value → State → Prop} {Qc : Array Value → State → Outcome → State → Prop} {mc ms : Nat} {free : Addr → Prop} {cc : ByteArray} {maxL : Nat} {ret : Option FieldType}
    (hy : plainFor y = true) (hw : ws = Cond.code y cc maxL ret :: ws')
    (body : ∀ p e s m args below meth c s₁, BodyLoose p l y (headSpec ws rm) cc maxL ret e s m args below meth c s₁ → c.maxLocals = maxL → Pc args s →
      W p l e (headSpec ws rm).room s m args below meth c s.heap [] 0 0 (MQ below Qc args s mc ms free) (entryFrame m args maxL)) : Met l y ws rm Pc Qc mc ms free := by
  refine MetFree.of_bodySF (code := cc) (maxLocals := maxL) (ret := ret) hy ?_ ?_
  · intro args s m h hn
    obtain ⟨meth, c, h1, h2, h3, h4, h5, h6, -, -⟩ := Cond.code_spec hn (atoms_spec (ws := ws) h _ (by rw [hw]; exact List.mem_cons_self))
    exact ⟨meth, c, h1, h2, h3, h4, h5, h6⟩
  · intro p e s m args below meth c s₁ B hml hP _
    have hh0 : s₁.heap = s.heap := by rw [B.state]; rfl
    obtain ⟨t, a1, o, b1, b2, b3⟩ := body p e s m args below meth c s₁ B hml hP s₁ hh0 (Stand.of_body B)
    exact ⟨t, o, a1, b1, b2, ⟨b3.1, b3.2⟩⟩
theorem jC_of {n : jN} {d : Nat} {y : MethodName} {cc : ByteArray} {nL np : Nat} {ret : Option FieldType} {args : List Value} {h : jH} {r : Option Value} {h' : jH} {L : List (Option Value)} (hm : jMi y cc nL ret np) (hn : (jloc args).length ≤ nL) (hL : L = jloc args ++ List.replicate (nL - (jloc args).length) none)
    (hro : jrok ret r) (k : jJ n d cc nL y.cls 0 L [] h (r, h')) : jC n d y cc nL ret args h r h' := by
  intro l
  refine jMetOfW (cc := cc) (maxL := nL) (ret := ret) hm.2.2.2.2 rfl ?_
  intro p e s m av below meth c s₁ B hml hv
  obtain ⟨rfl, hP, hK, hst⟩ := hv
  have hts := atoms_spec (ws := jwy y cc nL ret) B.pre
  have hown : s.vm.findClass y.cls = some m.cls := findClass_of_methodNamed B.named
  have hr := B.returns
  have hlocks := B.notSynchronized
  have hx := B.exec
  have hb := B.bytes
  rw [lg_entry_eq]
  refine k p l e (headSpec (jwy y cc nL ret) (jRm d)).room s m _ below meth c 0 0 _ ⟨B.exec, B.bytes, hml, hown, fun w hw => hts w (List.mem_cons_of_mem _ hw), hK, hst, Nat.le_refl _, Nat.le_refl _, Nat.le_refl _, Nat.le_refl _⟩ ?_ _ s.heap [] (jentry hn hL) hP va_S.rf
  intro pcR lsR H' locs' hdg hP' hS'
  have hq : ∀ (t : State), t.heap = H' → s.WarmedH t.vm → jQ n r h' (args.map (jup n)).toArray s (.returned (r.map (jup n))) t := fun t ht hW => ⟨rfl, by rw [ht]; exact hP', hS'.F ht⟩
  match ret, r, hro, hr, hdg, hq with
  | none, none, _, hr, hdg, hq => exact W.vret hx hb hr hq hS'.2.2 hdg
  | some .int, some (.int v), _, hr, hdg, hq => exact W.iret hx hb hr hq hS'.2.2 hdg
  | some .boolean, some (.int v), hro, hr, hdg, hq =>
    rcases hro with rfl | rfl
    · exact W.zret hx hb hr rfl hq hS'.2.2 hdg
    · exact W.zret hx hb hr rfl hq hS'.2.2 hdg
  | some .long, some (.long v), _, hr, hdg, hq => exact W.lret hx hb hr hq hS'.2.2 hdg
  | some (.object C), some (.ref a), _, hr, hdg, hq => exact W.aret hx hb hr (Or.inl ⟨C, rfl⟩) (Or.inr ⟨_, rfl⟩) hq hS'.2.2 hdg
end
section
theorem jpn_Main : plainName "YesNoPowers" = true := by decide +kernel
theorem jne_Main : "YesNoPowers" ≠ "java/lang/invoke/MethodHandle" ∧ "YesNoPowers" ≠ "java/lang/invoke/VarHandle" := by decide +kernel
theorem jpn_Chain : plainName "YesNoPowers$Chain" = true := by decide +kernel
theorem jne_Chain : "YesNoPowers$Chain" ≠ "java/lang/invoke/MethodHandle" ∧ "YesNoPowers$Chain" ≠ "java/lang/invoke/VarHandle" := by decide +kernel
theorem jpn_Link : plainName "YesNoPowers$Link" = true := by decide +kernel
theorem jne_Link : "YesNoPowers$Link" ≠ "java/lang/invoke/MethodHandle" ∧ "YesNoPowers$Link" ≠ "java/lang/invoke/VarHandle" := by decide +kernel
theorem jpn_Log : plainName "YesNoPowers$Log" = true := by decide +kernel
theorem jne_Log : "YesNoPowers$Log" ≠ "java/lang/invoke/MethodHandle" ∧ "YesNoPowers$Log" ≠ "java/lang/invoke/VarHandle" := by decide +kernel
theorem jpn_Powers : plainName "YesNoPowers$Powers" = true := by decide +kernel
theorem jne_Powers : "YesNoPowers$Powers" ≠ "java/lang/invoke/MethodHandle" ∧ "YesNoPowers$Powers" ≠ "java/lang/invoke/VarHandle" := by decide +kernel
theorem jpn_Rings : plainName "YesNoPowers$Rings" = true := by decide +kernel
theorem jne_Rings : "YesNoPowers$Rings" ≠ "java/lang/invoke/MethodHandle" ∧ "YesNoPowers$Rings" ≠ "java/lang/invoke/VarHandle" := by decide +kernel
theorem jpn_Roots : plainName "YesNoPowers$Roots" = true := by decide +kernel
theorem jne_Roots : "YesNoPowers$Roots" ≠ "java/lang/invoke/MethodHandle" ∧ "YesNoPowers$Roots" ≠ "java/lang/invoke/VarHandle" := by decide +kernel
theorem jpn_Sheet : plainName "YesNoPowers$Sheet" = true := by decide +kernel
theorem jne_Sheet : "YesNoPowers$Sheet" ≠ "java/lang/invoke/MethodHandle" ∧ "YesNoPowers$Sheet" ≠ "java/lang/invoke/VarHandle" := by decide +kernel
theorem jpn_Spaces : plainName "YesNoPowers$Spaces" = true := by decide +kernel
theorem jne_Spaces : "YesNoPowers$Spaces" ≠ "java/lang/invoke/MethodHandle" ∧ "YesNoPowers$Spaces" ≠ "java/lang/invoke/VarHandle" := by decide +kernel
theorem jpn_Table : plainName "YesNoPowers$Table" = true := by decide +kernel
theorem jne_Table : "YesNoPowers$Table" ≠ "java/lang/invoke/MethodHandle" ∧ "YesNoPowers$Table" ≠ "java/lang/invoke/VarHandle" := by decide +kernel
theorem jpn_Model : plainName "YesNoPowersModel" = true := by decide +kernel
theorem jne_Model : "YesNoPowersModel" ≠ "java/lang/invoke/MethodHandle" ∧ "YesNoPowersModel" ≠ "java/lang/invoke/VarHandle" := by decide +kernel
abbrev jc_Chain_isFull : ByteArray := prog_2_method_2_code
abbrev jy_Chain_isFull : MethodName := ⟨"YesNoPowers$Chain", "isFull", "()Z"⟩
set_option maxRecDepth 100000 in
theorem jm_Chain_isFull : jMi jy_Chain_isFull jc_Chain_isFull 1 (some .boolean) 0 := ⟨jmem_1 7 (by decide +kernel) rfl, jmem_3 212 (by rfl) rfl, ⟨jne_Chain.1, jne_Chain.2, by decide +kernel⟩, by decide, plainFor_of_name jpn_Chain⟩
theorem ji_Chain_isFull : Cond.instanceMethod jy_Chain_isFull ∈ jtbl := jmem_3 210 (by decide +kernel) rfl
theorem js_Chain_isFull : Cond.selects jy_Chain_isFull.cls jy_Chain_isFull jy_Chain_isFull ∈ jtbl := jmem_3 211 (by decide +kernel) rfl
abbrev jc_Chain_append : ByteArray := prog_2_method_3_code
abbrev jy_Chain_append : MethodName := ⟨"YesNoPowers$Chain", "append", "(II[LYesNoPowers$Table;)V"⟩
set_option maxRecDepth 100000 in
theorem jm_Chain_append : jMi jy_Chain_append jc_Chain_append 5 none 3 := ⟨jmem_1 7 (by decide +kernel) rfl, jmem_3 216 (by rfl) rfl, ⟨jne_Chain.1, jne_Chain.2, by decide +kernel⟩, by decide, plainFor_of_name jpn_Chain⟩
theorem ji_Chain_append : Cond.instanceMethod jy_Chain_append ∈ jtbl := jmem_3 214 (by decide +kernel) rfl
theorem js_Chain_append : Cond.selects jy_Chain_append.cls jy_Chain_append jy_Chain_append ∈ jtbl := jmem_3 215 (by decide +kernel) rfl
abbrev jc_Chain_pass : ByteArray := prog_2_method_4_code
abbrev jy_Chain_pass : MethodName := ⟨"YesNoPowers$Chain", "pass", "(LYesNoPowers$Table;[LYesNoPowers$Table;)I"⟩
set_option maxRecDepth 100000 in
theorem jm_Chain_pass : jMi jy_Chain_pass jc_Chain_pass 6 (some .int) 2 := ⟨jmem_1 7 (by decide +kernel) rfl, jmem_3 226 (by rfl) rfl, ⟨jne_Chain.1, jne_Chain.2, by decide +kernel⟩, by decide, plainFor_of_name jpn_Chain⟩
theorem ji_Chain_pass : Cond.instanceMethod jy_Chain_pass ∈ jtbl := jmem_3 224 (by decide +kernel) rfl
theorem js_Chain_pass : Cond.selects jy_Chain_pass.cls jy_Chain_pass jy_Chain_pass ∈ jtbl := jmem_3 225 (by decide +kernel) rfl
abbrev jc_Chain_partner : ByteArray := prog_2_method_5_code
abbrev jy_Chain_partner : MethodName := ⟨"YesNoPowers$Chain", "partner", "(LYesNoPowers$Link;[LYesNoPowers$Table;)LYesNoPowers$Table;"⟩
set_option maxRecDepth 100000 in
theorem jm_Chain_partner : jMi jy_Chain_partner jc_Chain_partner 3 (some (.object "YesNoPowers$Table")) 2 := ⟨jmem_1 7 (by decide +kernel) rfl, jmem_3 230 (by rfl) rfl, ⟨jne_Chain.1, jne_Chain.2, by decide +kernel⟩, by decide, plainFor_of_name jpn_Chain⟩
theorem ji_Chain_partner : Cond.instanceMethod jy_Chain_partner ∈ jtbl := jmem_3 229 (by decide +kernel) rfl
theorem js_Chain_partner : Cond.selects jy_Chain_partner.cls jy_Chain_partner jy_Chain_partner ∈ jtbl := jmem_0 19 (by decide +kernel) rfl
abbrev jc_Chain_change : ByteArray := prog_2_method_6_code
abbrev jy_Chain_change : MethodName := ⟨"YesNoPowers$Chain", "change", "(LYesNoPowers$Link;LYesNoPowers$Table;)V"⟩
set_option maxRecDepth 100000 in
theorem jm_Chain_change : jMi jy_Chain_change jc_Chain_change 3 none 2 := ⟨jmem_1 7 (by decide +kernel) rfl, jmem_3 234 (by rfl) rfl, ⟨jne_Chain.1, jne_Chain.2, by decide +kernel⟩, by decide, plainFor_of_name jpn_Chain⟩
theorem ji_Chain_change : Cond.instanceMethod jy_Chain_change ∈ jtbl := jmem_3 233 (by decide +kernel) rfl
theorem js_Chain_change : Cond.selects jy_Chain_change.cls jy_Chain_change jy_Chain_change ∈ jtbl := jmem_0 20 (by decide +kernel) rfl
abbrev jc_Chain_giveReasons : ByteArray := prog_2_method_7_code
abbrev jy_Chain_giveReasons : MethodName := ⟨"YesNoPowers$Chain", "giveReasons", "(ILYesNoPowers$Table;)V"⟩
set_option maxRecDepth 100000 in
theorem jm_Chain_giveReasons : jMi jy_Chain_giveReasons jc_Chain_giveReasons 4 none 2 := ⟨jmem_1 7 (by decide +kernel) rfl, jmem_4 8 (by rfl) rfl, ⟨jne_Chain.1, jne_Chain.2, by decide +kernel⟩, by decide, plainFor_of_name jpn_Chain⟩
theorem ji_Chain_giveReasons : Cond.instanceMethod jy_Chain_giveReasons ∈ jtbl := jmem_4 7 (by decide +kernel) rfl
theorem js_Chain_giveReasons : Cond.selects jy_Chain_giveReasons.cls jy_Chain_giveReasons jy_Chain_giveReasons ∈ jtbl := jmem_0 21 (by decide +kernel) rfl
abbrev jc_Chain_giveBack : ByteArray := prog_2_method_8_code
abbrev jy_Chain_giveBack : MethodName := ⟨"YesNoPowers$Chain", "giveBack", "()V"⟩
set_option maxRecDepth 100000 in
theorem jm_Chain_giveBack : jMi jy_Chain_giveBack jc_Chain_giveBack 2 none 0 := ⟨jmem_1 7 (by decide +kernel) rfl, jmem_4 12 (by rfl) rfl, ⟨jne_Chain.1, jne_Chain.2, by decide +kernel⟩, by decide, plainFor_of_name jpn_Chain⟩
theorem ji_Chain_giveBack : Cond.instanceMethod jy_Chain_giveBack ∈ jtbl := jmem_4 11 (by decide +kernel) rfl
theorem js_Chain_giveBack : Cond.selects jy_Chain_giveBack.cls jy_Chain_giveBack jy_Chain_giveBack ∈ jtbl := jmem_0 22 (by decide +kernel) rfl
abbrev jc_Log_note : ByteArray := prog_4_method_2_code
abbrev jy_Log_note : MethodName := ⟨"YesNoPowers$Log", "note", "(ILYesNoPowers$Table;)V"⟩
set_option maxRecDepth 100000 in
theorem jm_Log_note : jMi jy_Log_note jc_Log_note 3 none 2 := ⟨jmem_1 2 (by decide +kernel) rfl, jmem_2 67 (by rfl) rfl, ⟨jne_Log.1, jne_Log.2, by decide +kernel⟩, by decide, plainFor_of_name jpn_Log⟩
theorem ji_Log_note : Cond.instanceMethod jy_Log_note ∈ jtbl := jmem_2 65 (by decide +kernel) rfl
theorem js_Log_note : Cond.selects jy_Log_note.cls jy_Log_note jy_Log_note ∈ jtbl := jmem_2 66 (by decide +kernel) rfl
abbrev jc_Log_latestSlot : ByteArray := prog_4_method_3_code
abbrev jy_Log_latestSlot : MethodName := ⟨"YesNoPowers$Log", "latestSlot", "()I"⟩
set_option maxRecDepth 100000 in
theorem jm_Log_latestSlot : jMi jy_Log_latestSlot jc_Log_latestSlot 1 (some .int) 0 := ⟨jmem_1 2 (by decide +kernel) rfl, jmem_4 36 (by rfl) rfl, ⟨jne_Log.1, jne_Log.2, by decide +kernel⟩, by decide, plainFor_of_name jpn_Log⟩
theorem ji_Log_latestSlot : Cond.instanceMethod jy_Log_latestSlot ∈ jtbl := jmem_4 34 (by decide +kernel) rfl
theorem js_Log_latestSlot : Cond.selects jy_Log_latestSlot.cls jy_Log_latestSlot jy_Log_latestSlot ∈ jtbl := jmem_4 35 (by decide +kernel) rfl
abbrev jc_Log_latestTable : ByteArray := prog_4_method_4_code
abbrev jy_Log_latestTable : MethodName := ⟨"YesNoPowers$Log", "latestTable", "()LYesNoPowers$Table;"⟩
set_option maxRecDepth 100000 in
theorem jm_Log_latestTable : jMi jy_Log_latestTable jc_Log_latestTable 1 (some (.object "YesNoPowers$Table")) 0 := ⟨jmem_1 2 (by decide +kernel) rfl, jmem_4 44 (by rfl) rfl, ⟨jne_Log.1, jne_Log.2, by decide +kernel⟩, by decide, plainFor_of_name jpn_Log⟩
theorem ji_Log_latestTable : Cond.instanceMethod jy_Log_latestTable ∈ jtbl := jmem_4 42 (by decide +kernel) rfl
theorem js_Log_latestTable : Cond.selects jy_Log_latestTable.cls jy_Log_latestTable jy_Log_latestTable ∈ jtbl := jmem_4 43 (by decide +kernel) rfl
abbrev jc_Log_dropLatest : ByteArray := prog_4_method_5_code
abbrev jy_Log_dropLatest : MethodName := ⟨"YesNoPowers$Log", "dropLatest", "()V"⟩
set_option maxRecDepth 100000 in
theorem jm_Log_dropLatest : jMi jy_Log_dropLatest jc_Log_dropLatest 1 none 0 := ⟨jmem_1 2 (by decide +kernel) rfl, jmem_4 48 (by rfl) rfl, ⟨jne_Log.1, jne_Log.2, by decide +kernel⟩, by decide, plainFor_of_name jpn_Log⟩
theorem ji_Log_dropLatest : Cond.instanceMethod jy_Log_dropLatest ∈ jtbl := jmem_4 46 (by decide +kernel) rfl
theorem js_Log_dropLatest : Cond.selects jy_Log_dropLatest.cls jy_Log_dropLatest jy_Log_dropLatest ∈ jtbl := jmem_4 47 (by decide +kernel) rfl
abbrev jc_Log_latest : ByteArray := prog_4_method_6_code
abbrev jy_Log_latest : MethodName := ⟨"YesNoPowers$Log", "latest", "()I"⟩
set_option maxRecDepth 100000 in
theorem jm_Log_latest : jMi jy_Log_latest jc_Log_latest 1 (some .int) 0 := ⟨jmem_1 2 (by decide +kernel) rfl, jmem_4 40 (by rfl) rfl, ⟨jne_Log.1, jne_Log.2, by decide +kernel⟩, by decide, plainFor_of_name jpn_Log⟩
theorem ji_Log_latest : Cond.instanceMethod jy_Log_latest ∈ jtbl := jmem_4 39 (by decide +kernel) rfl
theorem js_Log_latest : Cond.selects jy_Log_latest.cls jy_Log_latest jy_Log_latest ∈ jtbl := jmem_0 23 (by decide +kernel) rfl
abbrev jc_Powers_raise : ByteArray := prog_5_method_2_code
abbrev jy_Powers_raise : MethodName := ⟨"YesNoPowers$Powers", "raise", "(LYesNoPowers$Table;ILYesNoPowers$Table;)V"⟩
set_option maxRecDepth 100000 in
theorem jm_Powers_raise : jMi jy_Powers_raise jc_Powers_raise 5 none 3 := ⟨jmem_1 4 (by decide +kernel) rfl, jmem_2 137 (by rfl) rfl, ⟨jne_Powers.1, jne_Powers.2, by decide +kernel⟩, by decide, plainFor_of_name jpn_Powers⟩
theorem ji_Powers_raise : Cond.instanceMethod jy_Powers_raise ∈ jtbl := jmem_2 135 (by decide +kernel) rfl
theorem js_Powers_raise : Cond.selects jy_Powers_raise.cls jy_Powers_raise jy_Powers_raise ∈ jtbl := jmem_2 136 (by decide +kernel) rfl
abbrev jc_Powers_findCycle : ByteArray := prog_5_method_3_code
abbrev jy_Powers_findCycle : MethodName := ⟨"YesNoPowers$Powers", "findCycle", "(LYesNoPowers$Table;)V"⟩
set_option maxRecDepth 100000 in
theorem jm_Powers_findCycle : jMi jy_Powers_findCycle jc_Powers_findCycle 2 none 1 := ⟨jmem_1 4 (by decide +kernel) rfl, jmem_2 239 (by rfl) rfl, ⟨jne_Powers.1, jne_Powers.2, by decide +kernel⟩, by decide, plainFor_of_name jpn_Powers⟩
theorem ji_Powers_findCycle : Cond.instanceMethod jy_Powers_findCycle ∈ jtbl := jmem_2 237 (by decide +kernel) rfl
theorem js_Powers_findCycle : Cond.selects jy_Powers_findCycle.cls jy_Powers_findCycle jy_Powers_findCycle ∈ jtbl := jmem_2 238 (by decide +kernel) rfl
abbrev jc_Powers_findPeriod : ByteArray := prog_5_method_4_code
abbrev jy_Powers_findPeriod : MethodName := ⟨"YesNoPowers$Powers", "findPeriod", "(LYesNoPowers$Table;)V"⟩
set_option maxRecDepth 100000 in
theorem jm_Powers_findPeriod : jMi jy_Powers_findPeriod jc_Powers_findPeriod 4 none 1 := ⟨jmem_1 4 (by decide +kernel) rfl, jmem_3 3 (by rfl) rfl, ⟨jne_Powers.1, jne_Powers.2, by decide +kernel⟩, by decide, plainFor_of_name jpn_Powers⟩
theorem ji_Powers_findPeriod : Cond.instanceMethod jy_Powers_findPeriod ∈ jtbl := jmem_3 2 (by decide +kernel) rfl
theorem js_Powers_findPeriod : Cond.selects jy_Powers_findPeriod.cls jy_Powers_findPeriod jy_Powers_findPeriod ∈ jtbl := jmem_0 5 (by decide +kernel) rfl
abbrev jc_Powers_findIndex : ByteArray := prog_5_method_5_code
abbrev jy_Powers_findIndex : MethodName := ⟨"YesNoPowers$Powers", "findIndex", "(LYesNoPowers$Table;)V"⟩
set_option maxRecDepth 100000 in
theorem jm_Powers_findIndex : jMi jy_Powers_findIndex jc_Powers_findIndex 3 none 1 := ⟨jmem_1 4 (by decide +kernel) rfl, jmem_3 8 (by rfl) rfl, ⟨jne_Powers.1, jne_Powers.2, by decide +kernel⟩, by decide, plainFor_of_name jpn_Powers⟩
theorem ji_Powers_findIndex : Cond.instanceMethod jy_Powers_findIndex ∈ jtbl := jmem_3 7 (by decide +kernel) rfl
theorem js_Powers_findIndex : Cond.selects jy_Powers_findIndex.cls jy_Powers_findIndex jy_Powers_findIndex ∈ jtbl := jmem_0 6 (by decide +kernel) rfl
abbrev jc_Powers_idempotent : ByteArray := prog_5_method_6_code
abbrev jy_Powers_idempotent : MethodName := ⟨"YesNoPowers$Powers", "idempotent", "()I"⟩
set_option maxRecDepth 100000 in
theorem jm_Powers_idempotent : jMi jy_Powers_idempotent jc_Powers_idempotent 3 (some .int) 0 := ⟨jmem_1 4 (by decide +kernel) rfl, jmem_3 12 (by rfl) rfl, ⟨jne_Powers.1, jne_Powers.2, by decide +kernel⟩, by decide, plainFor_of_name jpn_Powers⟩
theorem ji_Powers_idempotent : Cond.instanceMethod jy_Powers_idempotent ∈ jtbl := jmem_3 10 (by decide +kernel) rfl
theorem js_Powers_idempotent : Cond.selects jy_Powers_idempotent.cls jy_Powers_idempotent jy_Powers_idempotent ∈ jtbl := jmem_3 11 (by decide +kernel) rfl
abbrev jc_Powers_exponent : ByteArray := prog_5_method_7_code
abbrev jy_Powers_exponent : MethodName := ⟨"YesNoPowers$Powers", "exponent", "(LYesNoPowers$Table;)I"⟩
set_option maxRecDepth 100000 in
theorem jm_Powers_exponent : jMi jy_Powers_exponent jc_Powers_exponent 4 (some .int) 1 := ⟨jmem_1 4 (by decide +kernel) rfl, jmem_2 213 (by rfl) rfl, ⟨jne_Powers.1, jne_Powers.2, by decide +kernel⟩, by decide, plainFor_of_name jpn_Powers⟩
theorem ji_Powers_exponent : Cond.instanceMethod jy_Powers_exponent ∈ jtbl := jmem_2 211 (by decide +kernel) rfl
theorem js_Powers_exponent : Cond.selects jy_Powers_exponent.cls jy_Powers_exponent jy_Powers_exponent ∈ jtbl := jmem_2 212 (by decide +kernel) rfl
abbrev jc_Powers_firstLike : ByteArray := prog_5_method_8_code
abbrev jy_Powers_firstLike : MethodName := ⟨"YesNoPowers$Powers", "firstLike", "(LYesNoPowers$Table;LYesNoPowers$Table;I)I"⟩
set_option maxRecDepth 100000 in
theorem jm_Powers_firstLike : jMi jy_Powers_firstLike jc_Powers_firstLike 6 (some .int) 3 := ⟨jmem_1 4 (by decide +kernel) rfl, jmem_3 20 (by rfl) rfl, ⟨jne_Powers.1, jne_Powers.2, by decide +kernel⟩, by decide, plainFor_of_name jpn_Powers⟩
theorem ji_Powers_firstLike : Cond.instanceMethod jy_Powers_firstLike ∈ jtbl := jmem_3 18 (by decide +kernel) rfl
theorem js_Powers_firstLike : Cond.selects jy_Powers_firstLike.cls jy_Powers_firstLike jy_Powers_firstLike ∈ jtbl := jmem_3 19 (by decide +kernel) rfl
abbrev jc_Rings_read : ByteArray := prog_6_method_2_code
abbrev jy_Rings_read : MethodName := ⟨"YesNoPowers$Rings", "read", "(LYesNoPowers$Table;)V"⟩
set_option maxRecDepth 100000 in
theorem jm_Rings_read : jMi jy_Rings_read jc_Rings_read 3 none 1 := ⟨jmem_1 5 (by decide +kernel) rfl, jmem_3 28 (by rfl) rfl, ⟨jne_Rings.1, jne_Rings.2, by decide +kernel⟩, by decide, plainFor_of_name jpn_Rings⟩
theorem ji_Rings_read : Cond.instanceMethod jy_Rings_read ∈ jtbl := jmem_3 26 (by decide +kernel) rfl
theorem js_Rings_read : Cond.selects jy_Rings_read.cls jy_Rings_read jy_Rings_read ∈ jtbl := jmem_3 27 (by decide +kernel) rfl
abbrev jc_Rings_partOf : ByteArray := prog_6_method_3_code
abbrev jy_Rings_partOf : MethodName := ⟨"YesNoPowers$Rings", "partOf", "(I)I"⟩
set_option maxRecDepth 100000 in
theorem jm_Rings_partOf : jMi jy_Rings_partOf jc_Rings_partOf 3 (some .int) 1 := ⟨jmem_1 5 (by decide +kernel) rfl, jmem_3 100 (by rfl) rfl, ⟨jne_Rings.1, jne_Rings.2, by decide +kernel⟩, by decide, plainFor_of_name jpn_Rings⟩
theorem ji_Rings_partOf : Cond.instanceMethod jy_Rings_partOf ∈ jtbl := jmem_3 98 (by decide +kernel) rfl
theorem js_Rings_partOf : Cond.selects jy_Rings_partOf.cls jy_Rings_partOf jy_Rings_partOf ∈ jtbl := jmem_3 99 (by decide +kernel) rfl
abbrev jc_Rings_findClasses : ByteArray := prog_6_method_4_code
abbrev jy_Rings_findClasses : MethodName := ⟨"YesNoPowers$Rings", "findClasses", "(LYesNoPowers$Table;)V"⟩
set_option maxRecDepth 100000 in
theorem jm_Rings_findClasses : jMi jy_Rings_findClasses jc_Rings_findClasses 5 none 1 := ⟨jmem_1 5 (by decide +kernel) rfl, jmem_3 32 (by rfl) rfl, ⟨jne_Rings.1, jne_Rings.2, by decide +kernel⟩, by decide, plainFor_of_name jpn_Rings⟩
theorem ji_Rings_findClasses : Cond.instanceMethod jy_Rings_findClasses ∈ jtbl := jmem_3 31 (by decide +kernel) rfl
theorem js_Rings_findClasses : Cond.selects jy_Rings_findClasses.cls jy_Rings_findClasses jy_Rings_findClasses ∈ jtbl := jmem_0 7 (by decide +kernel) rfl
abbrev jc_Rings_settle : ByteArray := prog_6_method_5_code
abbrev jy_Rings_settle : MethodName := ⟨"YesNoPowers$Rings", "settle", "(II)V"⟩
set_option maxRecDepth 100000 in
theorem jm_Rings_settle : jMi jy_Rings_settle jc_Rings_settle 4 none 2 := ⟨jmem_1 5 (by decide +kernel) rfl, jmem_3 39 (by rfl) rfl, ⟨jne_Rings.1, jne_Rings.2, by decide +kernel⟩, by decide, plainFor_of_name jpn_Rings⟩
theorem ji_Rings_settle : Cond.instanceMethod jy_Rings_settle ∈ jtbl := jmem_3 38 (by decide +kernel) rfl
theorem js_Rings_settle : Cond.selects jy_Rings_settle.cls jy_Rings_settle jy_Rings_settle ∈ jtbl := jmem_0 8 (by decide +kernel) rfl
abbrev jc_Rings_findGirths : ByteArray := prog_6_method_6_code
abbrev jy_Rings_findGirths : MethodName := ⟨"YesNoPowers$Rings", "findGirths", "(LYesNoPowers$Table;)V"⟩
set_option maxRecDepth 100000 in
theorem jm_Rings_findGirths : jMi jy_Rings_findGirths jc_Rings_findGirths 4 none 1 := ⟨jmem_1 5 (by decide +kernel) rfl, jmem_3 43 (by rfl) rfl, ⟨jne_Rings.1, jne_Rings.2, by decide +kernel⟩, by decide, plainFor_of_name jpn_Rings⟩
theorem ji_Rings_findGirths : Cond.instanceMethod jy_Rings_findGirths ∈ jtbl := jmem_3 42 (by decide +kernel) rfl
theorem js_Rings_findGirths : Cond.selects jy_Rings_findGirths.cls jy_Rings_findGirths jy_Rings_findGirths ∈ jtbl := jmem_0 9 (by decide +kernel) rfl
abbrev jc_Rings_findLevels : ByteArray := prog_6_method_7_code
abbrev jy_Rings_findLevels : MethodName := ⟨"YesNoPowers$Rings", "findLevels", "(LYesNoPowers$Table;)V"⟩
set_option maxRecDepth 100000 in
theorem jm_Rings_findLevels : jMi jy_Rings_findLevels jc_Rings_findLevels 4 none 1 := ⟨jmem_1 5 (by decide +kernel) rfl, jmem_3 49 (by rfl) rfl, ⟨jne_Rings.1, jne_Rings.2, by decide +kernel⟩, by decide, plainFor_of_name jpn_Rings⟩
theorem ji_Rings_findLevels : Cond.instanceMethod jy_Rings_findLevels ∈ jtbl := jmem_3 48 (by decide +kernel) rfl
theorem js_Rings_findLevels : Cond.selects jy_Rings_findLevels.cls jy_Rings_findLevels jy_Rings_findLevels ∈ jtbl := jmem_0 10 (by decide +kernel) rfl
abbrev jc_Rings_raiseLevels : ByteArray := prog_6_method_8_code
abbrev jy_Rings_raiseLevels : MethodName := ⟨"YesNoPowers$Rings", "raiseLevels", "(LYesNoPowers$Table;I)V"⟩
set_option maxRecDepth 100000 in
theorem jm_Rings_raiseLevels : jMi jy_Rings_raiseLevels jc_Rings_raiseLevels 4 none 2 := ⟨jmem_1 5 (by decide +kernel) rfl, jmem_3 53 (by rfl) rfl, ⟨jne_Rings.1, jne_Rings.2, by decide +kernel⟩, by decide, plainFor_of_name jpn_Rings⟩
theorem ji_Rings_raiseLevels : Cond.instanceMethod jy_Rings_raiseLevels ∈ jtbl := jmem_3 52 (by decide +kernel) rfl
theorem js_Rings_raiseLevels : Cond.selects jy_Rings_raiseLevels.cls jy_Rings_raiseLevels jy_Rings_raiseLevels ∈ jtbl := jmem_0 11 (by decide +kernel) rfl
abbrev jc_Rings_findDistances : ByteArray := prog_6_method_9_code
abbrev jy_Rings_findDistances : MethodName := ⟨"YesNoPowers$Rings", "findDistances", "(LYesNoPowers$Table;I)V"⟩
set_option maxRecDepth 100000 in
theorem jm_Rings_findDistances : jMi jy_Rings_findDistances jc_Rings_findDistances 8 none 2 := ⟨jmem_1 5 (by decide +kernel) rfl, jmem_3 57 (by rfl) rfl, ⟨jne_Rings.1, jne_Rings.2, by decide +kernel⟩, by decide, plainFor_of_name jpn_Rings⟩
theorem ji_Rings_findDistances : Cond.instanceMethod jy_Rings_findDistances ∈ jtbl := jmem_3 56 (by decide +kernel) rfl
theorem js_Rings_findDistances : Cond.selects jy_Rings_findDistances.cls jy_Rings_findDistances jy_Rings_findDistances ∈ jtbl := jmem_0 12 (by decide +kernel) rfl
abbrev jc_Rings_findPeriod : ByteArray := prog_6_method_10_code
abbrev jy_Rings_findPeriod : MethodName := ⟨"YesNoPowers$Rings", "findPeriod", "(LYesNoPowers$Table;I)V"⟩
set_option maxRecDepth 100000 in
theorem jm_Rings_findPeriod : jMi jy_Rings_findPeriod jc_Rings_findPeriod 6 none 2 := ⟨jmem_1 5 (by decide +kernel) rfl, jmem_3 61 (by rfl) rfl, ⟨jne_Rings.1, jne_Rings.2, by decide +kernel⟩, by decide, plainFor_of_name jpn_Rings⟩
theorem ji_Rings_findPeriod : Cond.instanceMethod jy_Rings_findPeriod ∈ jtbl := jmem_3 60 (by decide +kernel) rfl
theorem js_Rings_findPeriod : Cond.selects jy_Rings_findPeriod.cls jy_Rings_findPeriod jy_Rings_findPeriod ∈ jtbl := jmem_0 13 (by decide +kernel) rfl
abbrev jc_Rings_commonDivisor : ByteArray := prog_6_method_11_code
abbrev jy_Rings_commonDivisor : MethodName := ⟨"YesNoPowers$Rings", "commonDivisor", "(II)I"⟩
set_option maxRecDepth 100000 in
theorem jm_Rings_commonDivisor : jMi jy_Rings_commonDivisor jc_Rings_commonDivisor 6 (some .int) 2 := ⟨jmem_1 5 (by decide +kernel) rfl, jmem_3 67 (by rfl) rfl, ⟨jne_Rings.1, jne_Rings.2, by decide +kernel⟩, by decide, plainFor_of_name jpn_Rings⟩
theorem js_Rings_commonDivisor : Cond.static jy_Rings_commonDivisor ∈ jtbl := jmem_3 66 (by decide +kernel) rfl
abbrev jc_Rings_findBelow : ByteArray := prog_6_method_12_code
abbrev jy_Rings_findBelow : MethodName := ⟨"YesNoPowers$Rings", "findBelow", "(I)V"⟩
set_option maxRecDepth 100000 in
theorem jm_Rings_findBelow : jMi jy_Rings_findBelow jc_Rings_findBelow 4 none 1 := ⟨jmem_1 5 (by decide +kernel) rfl, jmem_3 71 (by rfl) rfl, ⟨jne_Rings.1, jne_Rings.2, by decide +kernel⟩, by decide, plainFor_of_name jpn_Rings⟩
theorem ji_Rings_findBelow : Cond.instanceMethod jy_Rings_findBelow ∈ jtbl := jmem_3 70 (by decide +kernel) rfl
theorem js_Rings_findBelow : Cond.selects jy_Rings_findBelow.cls jy_Rings_findBelow jy_Rings_findBelow ∈ jtbl := jmem_0 14 (by decide +kernel) rfl
abbrev jc_Roots_countOf : ByteArray := prog_7_method_2_code
abbrev jy_Roots_countOf : MethodName := ⟨"YesNoPowers$Roots", "countOf", "(III)I"⟩
set_option maxRecDepth 100000 in
theorem jm_Roots_countOf : jMi jy_Roots_countOf jc_Roots_countOf 3 (some .int) 3 := ⟨jmem_1 13 (by decide +kernel) rfl, jmem_3 175 (by rfl) rfl, ⟨jne_Roots.1, jne_Roots.2, by decide +kernel⟩, by decide, plainFor_of_name jpn_Roots⟩
theorem js_Roots_countOf : Cond.static jy_Roots_countOf ∈ jtbl := jmem_3 174 (by decide +kernel) rfl
abbrev jc_Roots_leastOf : ByteArray := prog_7_method_3_code
abbrev jy_Roots_leastOf : MethodName := ⟨"YesNoPowers$Roots", "leastOf", "(III)I"⟩
set_option maxRecDepth 100000 in
theorem jm_Roots_leastOf : jMi jy_Roots_leastOf jc_Roots_leastOf 3 (some .int) 3 := ⟨jmem_1 13 (by decide +kernel) rfl, jmem_3 193 (by rfl) rfl, ⟨jne_Roots.1, jne_Roots.2, by decide +kernel⟩, by decide, plainFor_of_name jpn_Roots⟩
theorem js_Roots_leastOf : Cond.static jy_Roots_leastOf ∈ jtbl := jmem_3 192 (by decide +kernel) rfl
abbrev jc_Roots_countBelow : ByteArray := prog_7_method_4_code
abbrev jy_Roots_countBelow : MethodName := ⟨"YesNoPowers$Roots", "countBelow", "(IIIII)I"⟩
set_option maxRecDepth 100000 in
theorem jm_Roots_countBelow : jMi jy_Roots_countBelow jc_Roots_countBelow 7 (some .int) 5 := ⟨jmem_1 13 (by decide +kernel) rfl, jmem_3 178 (by rfl) rfl, ⟨jne_Roots.1, jne_Roots.2, by decide +kernel⟩, by decide, plainFor_of_name jpn_Roots⟩
theorem js_Roots_countBelow : Cond.static jy_Roots_countBelow ∈ jtbl := jmem_3 177 (by decide +kernel) rfl
abbrev jc_Roots_leastBelow : ByteArray := prog_7_method_5_code
abbrev jy_Roots_leastBelow : MethodName := ⟨"YesNoPowers$Roots", "leastBelow", "(IIIII)I"⟩
set_option maxRecDepth 100000 in
theorem jm_Roots_leastBelow : jMi jy_Roots_leastBelow jc_Roots_leastBelow 8 (some .int) 5 := ⟨jmem_1 13 (by decide +kernel) rfl, jmem_3 196 (by rfl) rfl, ⟨jne_Roots.1, jne_Roots.2, by decide +kernel⟩, by decide, plainFor_of_name jpn_Roots⟩
theorem js_Roots_leastBelow : Cond.static jy_Roots_leastBelow ∈ jtbl := jmem_3 195 (by decide +kernel) rfl
abbrev jc_Roots_raised : ByteArray := prog_7_method_6_code
abbrev jy_Roots_raised : MethodName := ⟨"YesNoPowers$Roots", "raised", "(III)I"⟩
set_option maxRecDepth 100000 in
theorem jm_Roots_raised : jMi jy_Roots_raised jc_Roots_raised 5 (some .int) 3 := ⟨jmem_1 13 (by decide +kernel) rfl, jmem_3 181 (by rfl) rfl, ⟨jne_Roots.1, jne_Roots.2, by decide +kernel⟩, by decide, plainFor_of_name jpn_Roots⟩
theorem js_Roots_raised : Cond.static jy_Roots_raised ∈ jtbl := jmem_3 180 (by decide +kernel) rfl
abbrev jc_Roots_product : ByteArray := prog_7_method_7_code
abbrev jy_Roots_product : MethodName := ⟨"YesNoPowers$Roots", "product", "(III)I"⟩
set_option maxRecDepth 100000 in
theorem jm_Roots_product : jMi jy_Roots_product jc_Roots_product 6 (some .int) 3 := ⟨jmem_1 13 (by decide +kernel) rfl, jmem_3 184 (by rfl) rfl, ⟨jne_Roots.1, jne_Roots.2, by decide +kernel⟩, by decide, plainFor_of_name jpn_Roots⟩
theorem js_Roots_product : Cond.static jy_Roots_product ∈ jtbl := jmem_3 183 (by decide +kernel) rfl
abbrev jc_Sheet_isMissing : ByteArray := prog_8_method_2_code
abbrev jy_Sheet_isMissing : MethodName := ⟨"YesNoPowers$Sheet", "isMissing", "()Z"⟩
set_option maxRecDepth 100000 in
theorem jm_Sheet_isMissing : jMi jy_Sheet_isMissing jc_Sheet_isMissing 1 (some .boolean) 0 := ⟨jmem_1 9 (by decide +kernel) rfl, jmem_2 188 (by rfl) rfl, ⟨jne_Sheet.1, jne_Sheet.2, by decide +kernel⟩, by decide, plainFor_of_name jpn_Sheet⟩
theorem ji_Sheet_isMissing : Cond.instanceMethod jy_Sheet_isMissing ∈ jtbl := jmem_2 186 (by decide +kernel) rfl
theorem js_Sheet_isMissing : Cond.selects jy_Sheet_isMissing.cls jy_Sheet_isMissing jy_Sheet_isMissing ∈ jtbl := jmem_2 187 (by decide +kernel) rfl
abbrev jc_Sheet_begin : ByteArray := prog_8_method_3_code
abbrev jy_Sheet_begin : MethodName := ⟨"YesNoPowers$Sheet", "begin", "(II)V"⟩
set_option maxRecDepth 100000 in
theorem jm_Sheet_begin : jMi jy_Sheet_begin jc_Sheet_begin 4 none 2 := ⟨jmem_1 9 (by decide +kernel) rfl, jmem_4 56 (by rfl) rfl, ⟨jne_Sheet.1, jne_Sheet.2, by decide +kernel⟩, by decide, plainFor_of_name jpn_Sheet⟩
theorem ji_Sheet_begin : Cond.instanceMethod jy_Sheet_begin ∈ jtbl := jmem_4 54 (by decide +kernel) rfl
theorem js_Sheet_begin : Cond.selects jy_Sheet_begin.cls jy_Sheet_begin jy_Sheet_begin ∈ jtbl := jmem_4 55 (by decide +kernel) rfl
abbrev jc_Sheet_lacks : ByteArray := prog_8_method_4_code
abbrev jy_Sheet_lacks : MethodName := ⟨"YesNoPowers$Sheet", "lacks", "(II)Z"⟩
set_option maxRecDepth 100000 in
theorem jm_Sheet_lacks : jMi jy_Sheet_lacks jc_Sheet_lacks 3 (some .boolean) 2 := ⟨jmem_1 9 (by decide +kernel) rfl, jmem_2 192 (by rfl) rfl, ⟨jne_Sheet.1, jne_Sheet.2, by decide +kernel⟩, by decide, plainFor_of_name jpn_Sheet⟩
theorem ji_Sheet_lacks : Cond.instanceMethod jy_Sheet_lacks ∈ jtbl := jmem_2 190 (by decide +kernel) rfl
theorem js_Sheet_lacks : Cond.selects jy_Sheet_lacks.cls jy_Sheet_lacks jy_Sheet_lacks ∈ jtbl := jmem_2 191 (by decide +kernel) rfl
abbrev jc_Sheet_write : ByteArray := prog_8_method_5_code
abbrev jy_Sheet_write : MethodName := ⟨"YesNoPowers$Sheet", "write", "(II)V"⟩
set_option maxRecDepth 100000 in
theorem jm_Sheet_write : jMi jy_Sheet_write jc_Sheet_write 3 none 2 := ⟨jmem_1 9 (by decide +kernel) rfl, jmem_2 205 (by rfl) rfl, ⟨jne_Sheet.1, jne_Sheet.2, by decide +kernel⟩, by decide, plainFor_of_name jpn_Sheet⟩
theorem ji_Sheet_write : Cond.instanceMethod jy_Sheet_write ∈ jtbl := jmem_2 203 (by decide +kernel) rfl
theorem js_Sheet_write : Cond.selects jy_Sheet_write.cls jy_Sheet_write jy_Sheet_write ∈ jtbl := jmem_2 204 (by decide +kernel) rfl
abbrev jc_Sheet_rowAt : ByteArray := prog_8_method_6_code
abbrev jy_Sheet_rowAt : MethodName := ⟨"YesNoPowers$Sheet", "rowAt", "(I)I"⟩
set_option maxRecDepth 100000 in
theorem jm_Sheet_rowAt : jMi jy_Sheet_rowAt jc_Sheet_rowAt 2 (some .int) 1 := ⟨jmem_1 9 (by decide +kernel) rfl, jmem_2 196 (by rfl) rfl, ⟨jne_Sheet.1, jne_Sheet.2, by decide +kernel⟩, by decide, plainFor_of_name jpn_Sheet⟩
theorem ji_Sheet_rowAt : Cond.instanceMethod jy_Sheet_rowAt ∈ jtbl := jmem_2 194 (by decide +kernel) rfl
theorem js_Sheet_rowAt : Cond.selects jy_Sheet_rowAt.cls jy_Sheet_rowAt jy_Sheet_rowAt ∈ jtbl := jmem_2 195 (by decide +kernel) rfl
abbrev jc_Spaces_hasUnion : ByteArray := prog_9_method_2_code
abbrev jy_Spaces_hasUnion : MethodName := ⟨"YesNoPowers$Spaces", "hasUnion", "(LYesNoPowers$Table;I)Z"⟩
set_option maxRecDepth 100000 in
theorem jm_Spaces_hasUnion : jMi jy_Spaces_hasUnion jc_Spaces_hasUnion 5 (some .boolean) 2 := ⟨jmem_1 6 (by decide +kernel) rfl, jmem_3 130 (by rfl) rfl, ⟨jne_Spaces.1, jne_Spaces.2, by decide +kernel⟩, by decide, plainFor_of_name jpn_Spaces⟩
theorem ji_Spaces_hasUnion : Cond.instanceMethod jy_Spaces_hasUnion ∈ jtbl := jmem_3 128 (by decide +kernel) rfl
theorem js_Spaces_hasUnion : Cond.selects jy_Spaces_hasUnion.cls jy_Spaces_hasUnion jy_Spaces_hasUnion ∈ jtbl := jmem_3 129 (by decide +kernel) rfl
abbrev jc_Spaces_unionsOf : ByteArray := prog_9_method_3_code
abbrev jy_Spaces_unionsOf : MethodName := ⟨"YesNoPowers$Spaces", "unionsOf", "(LYesNoPowers$Table;)I"⟩
set_option maxRecDepth 100000 in
theorem jm_Spaces_unionsOf : jMi jy_Spaces_unionsOf jc_Spaces_unionsOf 5 (some .int) 1 := ⟨jmem_1 6 (by decide +kernel) rfl, jmem_3 125 (by rfl) rfl, ⟨jne_Spaces.1, jne_Spaces.2, by decide +kernel⟩, by decide, plainFor_of_name jpn_Spaces⟩
theorem ji_Spaces_unionsOf : Cond.instanceMethod jy_Spaces_unionsOf ∈ jtbl := jmem_3 123 (by decide +kernel) rfl
theorem js_Spaces_unionsOf : Cond.selects jy_Spaces_unionsOf.cls jy_Spaces_unionsOf jy_Spaces_unionsOf ∈ jtbl := jmem_3 124 (by decide +kernel) rfl
abbrev jc_Spaces_basisSize : ByteArray := prog_9_method_4_code
abbrev jy_Spaces_basisSize : MethodName := ⟨"YesNoPowers$Spaces", "basisSize", "(LYesNoPowers$Table;)I"⟩
set_option maxRecDepth 100000 in
theorem jm_Spaces_basisSize : jMi jy_Spaces_basisSize jc_Spaces_basisSize 5 (some .int) 1 := ⟨jmem_1 6 (by decide +kernel) rfl, jmem_3 134 (by rfl) rfl, ⟨jne_Spaces.1, jne_Spaces.2, by decide +kernel⟩, by decide, plainFor_of_name jpn_Spaces⟩
theorem ji_Spaces_basisSize : Cond.instanceMethod jy_Spaces_basisSize ∈ jtbl := jmem_3 132 (by decide +kernel) rfl
theorem js_Spaces_basisSize : Cond.selects jy_Spaces_basisSize.cls jy_Spaces_basisSize jy_Spaces_basisSize ∈ jtbl := jmem_3 133 (by decide +kernel) rfl
abbrev jc_Spaces_nextOfBasis : ByteArray := prog_9_method_5_code
abbrev jy_Spaces_nextOfBasis : MethodName := ⟨"YesNoPowers$Spaces", "nextOfBasis", "(LYesNoPowers$Table;I)I"⟩
set_option maxRecDepth 100000 in
theorem jm_Spaces_nextOfBasis : jMi jy_Spaces_nextOfBasis jc_Spaces_nextOfBasis 6 (some .int) 2 := ⟨jmem_1 6 (by decide +kernel) rfl, jmem_3 138 (by rfl) rfl, ⟨jne_Spaces.1, jne_Spaces.2, by decide +kernel⟩, by decide, plainFor_of_name jpn_Spaces⟩
theorem ji_Spaces_nextOfBasis : Cond.instanceMethod jy_Spaces_nextOfBasis ∈ jtbl := jmem_3 136 (by decide +kernel) rfl
theorem js_Spaces_nextOfBasis : Cond.selects jy_Spaces_nextOfBasis.cls jy_Spaces_nextOfBasis jy_Spaces_nextOfBasis ∈ jtbl := jmem_3 137 (by decide +kernel) rfl
abbrev jc_Spaces_isMadeUp : ByteArray := prog_9_method_6_code
abbrev jy_Spaces_isMadeUp : MethodName := ⟨"YesNoPowers$Spaces", "isMadeUp", "(LYesNoPowers$Table;I)Z"⟩
set_option maxRecDepth 100000 in
theorem jm_Spaces_isMadeUp : jMi jy_Spaces_isMadeUp jc_Spaces_isMadeUp 5 (some .boolean) 2 := ⟨jmem_1 6 (by decide +kernel) rfl, jmem_3 142 (by rfl) rfl, ⟨jne_Spaces.1, jne_Spaces.2, by decide +kernel⟩, by decide, plainFor_of_name jpn_Spaces⟩
theorem ji_Spaces_isMadeUp : Cond.instanceMethod jy_Spaces_isMadeUp ∈ jtbl := jmem_3 141 (by decide +kernel) rfl
theorem js_Spaces_isMadeUp : Cond.selects jy_Spaces_isMadeUp.cls jy_Spaces_isMadeUp jy_Spaces_isMadeUp ∈ jtbl := jmem_0 16 (by decide +kernel) rfl
abbrev jc_Spaces_areAlike : ByteArray := prog_9_method_7_code
abbrev jy_Spaces_areAlike : MethodName := ⟨"YesNoPowers$Spaces", "areAlike", "(LYesNoPowers$Table;LYesNoPowers$Table;Z)Z"⟩
set_option maxRecDepth 100000 in
theorem jm_Spaces_areAlike : jMi jy_Spaces_areAlike jc_Spaces_areAlike 4 (some .boolean) 3 := ⟨jmem_1 6 (by decide +kernel) rfl, jmem_3 160 (by rfl) rfl, ⟨jne_Spaces.1, jne_Spaces.2, by decide +kernel⟩, by decide, plainFor_of_name jpn_Spaces⟩
theorem ji_Spaces_areAlike : Cond.instanceMethod jy_Spaces_areAlike ∈ jtbl := jmem_3 158 (by decide +kernel) rfl
theorem js_Spaces_areAlike : Cond.selects jy_Spaces_areAlike.cls jy_Spaces_areAlike jy_Spaces_areAlike ∈ jtbl := jmem_3 159 (by decide +kernel) rfl
abbrev jc_Spaces_spansRows : ByteArray := prog_9_method_8_code
abbrev jy_Spaces_spansRows : MethodName := ⟨"YesNoPowers$Spaces", "spansRows", "(LYesNoPowers$Table;LYesNoPowers$Table;)Z"⟩
set_option maxRecDepth 100000 in
theorem jm_Spaces_spansRows : jMi jy_Spaces_spansRows jc_Spaces_spansRows 4 (some .boolean) 2 := ⟨jmem_1 6 (by decide +kernel) rfl, jmem_3 164 (by rfl) rfl, ⟨jne_Spaces.1, jne_Spaces.2, by decide +kernel⟩, by decide, plainFor_of_name jpn_Spaces⟩
theorem ji_Spaces_spansRows : Cond.instanceMethod jy_Spaces_spansRows ∈ jtbl := jmem_3 163 (by decide +kernel) rfl
theorem js_Spaces_spansRows : Cond.selects jy_Spaces_spansRows.cls jy_Spaces_spansRows jy_Spaces_spansRows ∈ jtbl := jmem_0 17 (by decide +kernel) rfl
abbrev jc_Spaces_findGreatest : ByteArray := prog_9_method_9_code
abbrev jy_Spaces_findGreatest : MethodName := ⟨"YesNoPowers$Spaces", "findGreatest", "(LYesNoPowers$Table;LYesNoPowers$Table;)V"⟩
set_option maxRecDepth 100000 in
theorem jm_Spaces_findGreatest : jMi jy_Spaces_findGreatest jc_Spaces_findGreatest 3 none 2 := ⟨jmem_1 6 (by decide +kernel) rfl, jmem_2 153 (by rfl) rfl, ⟨jne_Spaces.1, jne_Spaces.2, by decide +kernel⟩, by decide, plainFor_of_name jpn_Spaces⟩
theorem ji_Spaces_findGreatest : Cond.instanceMethod jy_Spaces_findGreatest ∈ jtbl := jmem_2 151 (by decide +kernel) rfl
theorem js_Spaces_findGreatest : Cond.selects jy_Spaces_findGreatest.cls jy_Spaces_findGreatest jy_Spaces_findGreatest ∈ jtbl := jmem_2 152 (by decide +kernel) rfl
abbrev jc_Spaces_isRegular : ByteArray := prog_9_method_10_code
abbrev jy_Spaces_isRegular : MethodName := ⟨"YesNoPowers$Spaces", "isRegular", "(LYesNoPowers$Table;)Z"⟩
set_option maxRecDepth 100000 in
theorem jm_Spaces_isRegular : jMi jy_Spaces_isRegular jc_Spaces_isRegular 2 (some .boolean) 1 := ⟨jmem_1 6 (by decide +kernel) rfl, jmem_3 119 (by rfl) rfl, ⟨jne_Spaces.1, jne_Spaces.2, by decide +kernel⟩, by decide, plainFor_of_name jpn_Spaces⟩
theorem ji_Spaces_isRegular : Cond.instanceMethod jy_Spaces_isRegular ∈ jtbl := jmem_3 117 (by decide +kernel) rfl
theorem js_Spaces_isRegular : Cond.selects jy_Spaces_isRegular.cls jy_Spaces_isRegular jy_Spaces_isRegular ∈ jtbl := jmem_3 118 (by decide +kernel) rfl
abbrev jc_Table_allColumns : ByteArray := prog_10_method_2_code
abbrev jy_Table_allColumns : MethodName := ⟨"YesNoPowers$Table", "allColumns", "()I"⟩
set_option maxRecDepth 100000 in
theorem jm_Table_allColumns : jMi jy_Table_allColumns jc_Table_allColumns 1 (some .int) 0 := ⟨jmem_1 3 (by decide +kernel) rfl, jmem_2 59 (by rfl) rfl, ⟨jne_Table.1, jne_Table.2, by decide +kernel⟩, by decide, plainFor_of_name jpn_Table⟩
theorem ji_Table_allColumns : Cond.instanceMethod jy_Table_allColumns ∈ jtbl := jmem_2 57 (by decide +kernel) rfl
theorem js_Table_allColumns : Cond.selects jy_Table_allColumns.cls jy_Table_allColumns jy_Table_allColumns ∈ jtbl := jmem_2 58 (by decide +kernel) rfl
abbrev jc_Table_lacksColumnOf : ByteArray := prog_10_method_3_code
abbrev jy_Table_lacksColumnOf : MethodName := ⟨"YesNoPowers$Table", "lacksColumnOf", "(I)Z"⟩
set_option maxRecDepth 100000 in
theorem jm_Table_lacksColumnOf : jMi jy_Table_lacksColumnOf jc_Table_lacksColumnOf 2 (some .boolean) 1 := ⟨jmem_1 3 (by decide +kernel) rfl, jmem_2 112 (by rfl) rfl, ⟨jne_Table.1, jne_Table.2, by decide +kernel⟩, by decide, plainFor_of_name jpn_Table⟩
theorem ji_Table_lacksColumnOf : Cond.instanceMethod jy_Table_lacksColumnOf ∈ jtbl := jmem_2 110 (by decide +kernel) rfl
theorem js_Table_lacksColumnOf : Cond.selects jy_Table_lacksColumnOf.cls jy_Table_lacksColumnOf jy_Table_lacksColumnOf ∈ jtbl := jmem_2 111 (by decide +kernel) rfl
abbrev jc_Table_entry : ByteArray := prog_10_method_4_code
abbrev jy_Table_entry : MethodName := ⟨"YesNoPowers$Table", "entry", "(II)I"⟩
set_option maxRecDepth 100000 in
theorem jm_Table_entry : jMi jy_Table_entry jc_Table_entry 3 (some .int) 2 := ⟨jmem_1 3 (by decide +kernel) rfl, jmem_2 91 (by rfl) rfl, ⟨jne_Table.1, jne_Table.2, by decide +kernel⟩, by decide, plainFor_of_name jpn_Table⟩
theorem ji_Table_entry : Cond.instanceMethod jy_Table_entry ∈ jtbl := jmem_2 89 (by decide +kernel) rfl
theorem js_Table_entry : Cond.selects jy_Table_entry.cls jy_Table_entry jy_Table_entry ∈ jtbl := jmem_2 90 (by decide +kernel) rfl
abbrev jc_Table_column : ByteArray := prog_10_method_5_code
abbrev jy_Table_column : MethodName := ⟨"YesNoPowers$Table", "column", "(I)I"⟩
set_option maxRecDepth 100000 in
theorem jm_Table_column : jMi jy_Table_column jc_Table_column 4 (some .int) 1 := ⟨jmem_1 3 (by decide +kernel) rfl, jmem_2 103 (by rfl) rfl, ⟨jne_Table.1, jne_Table.2, by decide +kernel⟩, by decide, plainFor_of_name jpn_Table⟩
theorem ji_Table_column : Cond.instanceMethod jy_Table_column ∈ jtbl := jmem_2 101 (by decide +kernel) rfl
theorem js_Table_column : Cond.selects jy_Table_column.cls jy_Table_column jy_Table_column ∈ jtbl := jmem_2 102 (by decide +kernel) rfl
abbrev jc_Table_ones : ByteArray := prog_10_method_6_code
abbrev jy_Table_ones : MethodName := ⟨"YesNoPowers$Table", "ones", "()I"⟩
set_option maxRecDepth 100000 in
theorem jm_Table_ones : jMi jy_Table_ones jc_Table_ones 3 (some .int) 0 := ⟨jmem_1 3 (by decide +kernel) rfl, jmem_2 221 (by rfl) rfl, ⟨jne_Table.1, jne_Table.2, by decide +kernel⟩, by decide, plainFor_of_name jpn_Table⟩
theorem ji_Table_ones : Cond.instanceMethod jy_Table_ones ∈ jtbl := jmem_2 219 (by decide +kernel) rfl
theorem js_Table_ones : Cond.selects jy_Table_ones.cls jy_Table_ones jy_Table_ones ∈ jtbl := jmem_2 220 (by decide +kernel) rfl
abbrev jc_Table_loops : ByteArray := prog_10_method_7_code
abbrev jy_Table_loops : MethodName := ⟨"YesNoPowers$Table", "loops", "()I"⟩
set_option maxRecDepth 100000 in
theorem jm_Table_loops : jMi jy_Table_loops jc_Table_loops 3 (some .int) 0 := ⟨jmem_1 3 (by decide +kernel) rfl, jmem_3 75 (by rfl) rfl, ⟨jne_Table.1, jne_Table.2, by decide +kernel⟩, by decide, plainFor_of_name jpn_Table⟩
theorem ji_Table_loops : Cond.instanceMethod jy_Table_loops ∈ jtbl := jmem_3 73 (by decide +kernel) rfl
theorem js_Table_loops : Cond.selects jy_Table_loops.cls jy_Table_loops jy_Table_loops ∈ jtbl := jmem_3 74 (by decide +kernel) rfl
abbrev jc_Table_isEverywhere : ByteArray := prog_10_method_8_code
abbrev jy_Table_isEverywhere : MethodName := ⟨"YesNoPowers$Table", "isEverywhere", "()Z"⟩
set_option maxRecDepth 100000 in
theorem jm_Table_isEverywhere : jMi jy_Table_isEverywhere jc_Table_isEverywhere 2 (some .boolean) 0 := ⟨jmem_1 3 (by decide +kernel) rfl, jmem_2 217 (by rfl) rfl, ⟨jne_Table.1, jne_Table.2, by decide +kernel⟩, by decide, plainFor_of_name jpn_Table⟩
theorem ji_Table_isEverywhere : Cond.instanceMethod jy_Table_isEverywhere ∈ jtbl := jmem_2 215 (by decide +kernel) rfl
theorem js_Table_isEverywhere : Cond.selects jy_Table_isEverywhere.cls jy_Table_isEverywhere jy_Table_isEverywhere ∈ jtbl := jmem_2 216 (by decide +kernel) rfl
abbrev jc_Table_isLike : ByteArray := prog_10_method_9_code
abbrev jy_Table_isLike : MethodName := ⟨"YesNoPowers$Table", "isLike", "(LYesNoPowers$Table;)Z"⟩
set_option maxRecDepth 100000 in
theorem jm_Table_isLike : jMi jy_Table_isLike jc_Table_isLike 3 (some .boolean) 1 := ⟨jmem_1 3 (by decide +kernel) rfl, jmem_2 177 (by rfl) rfl, ⟨jne_Table.1, jne_Table.2, by decide +kernel⟩, by decide, plainFor_of_name jpn_Table⟩
theorem ji_Table_isLike : Cond.instanceMethod jy_Table_isLike ∈ jtbl := jmem_2 175 (by decide +kernel) rfl
theorem js_Table_isLike : Cond.selects jy_Table_isLike.cls jy_Table_isLike jy_Table_isLike ∈ jtbl := jmem_2 176 (by decide +kernel) rfl
abbrev jc_Table_number : ByteArray := prog_10_method_10_code
abbrev jy_Table_number : MethodName := ⟨"YesNoPowers$Table", "number", "()I"⟩
set_option maxRecDepth 100000 in
theorem jm_Table_number : jMi jy_Table_number jc_Table_number 3 (some .int) 0 := ⟨jmem_1 3 (by decide +kernel) rfl, jmem_3 172 (by rfl) rfl, ⟨jne_Table.1, jne_Table.2, by decide +kernel⟩, by decide, plainFor_of_name jpn_Table⟩
theorem ji_Table_number : Cond.instanceMethod jy_Table_number ∈ jtbl := jmem_3 170 (by decide +kernel) rfl
theorem js_Table_number : Cond.selects jy_Table_number.cls jy_Table_number jy_Table_number ∈ jtbl := jmem_3 171 (by decide +kernel) rfl
abbrev jc_Table_becomeNumbered : ByteArray := prog_10_method_11_code
abbrev jy_Table_becomeNumbered : MethodName := ⟨"YesNoPowers$Table", "becomeNumbered", "(II)V"⟩
set_option maxRecDepth 100000 in
theorem jm_Table_becomeNumbered : jMi jy_Table_becomeNumbered jc_Table_becomeNumbered 4 none 2 := ⟨jmem_1 3 (by decide +kernel) rfl, jmem_3 200 (by rfl) rfl, ⟨jne_Table.1, jne_Table.2, by decide +kernel⟩, by decide, plainFor_of_name jpn_Table⟩
theorem ji_Table_becomeNumbered : Cond.instanceMethod jy_Table_becomeNumbered ∈ jtbl := jmem_3 198 (by decide +kernel) rfl
theorem js_Table_becomeNumbered : Cond.selects jy_Table_becomeNumbered.cls jy_Table_becomeNumbered jy_Table_becomeNumbered ∈ jtbl := jmem_3 199 (by decide +kernel) rfl
abbrev jc_Table_become : ByteArray := prog_10_method_12_code
abbrev jy_Table_become : MethodName := ⟨"YesNoPowers$Table", "become", "(LYesNoPowers$Table;)V"⟩
set_option maxRecDepth 100000 in
theorem jm_Table_become : jMi jy_Table_become jc_Table_become 3 none 1 := ⟨jmem_1 3 (by decide +kernel) rfl, jmem_2 71 (by rfl) rfl, ⟨jne_Table.1, jne_Table.2, by decide +kernel⟩, by decide, plainFor_of_name jpn_Table⟩
theorem ji_Table_become : Cond.instanceMethod jy_Table_become ∈ jtbl := jmem_2 69 (by decide +kernel) rfl
theorem js_Table_become : Cond.selects jy_Table_become.cls jy_Table_become jy_Table_become ∈ jtbl := jmem_2 70 (by decide +kernel) rfl
abbrev jc_Table_becomePlain : ByteArray := prog_10_method_13_code
abbrev jy_Table_becomePlain : MethodName := ⟨"YesNoPowers$Table", "becomePlain", "(II)V"⟩
set_option maxRecDepth 100000 in
theorem jm_Table_becomePlain : jMi jy_Table_becomePlain jc_Table_becomePlain 5 none 2 := ⟨jmem_1 3 (by decide +kernel) rfl, jmem_2 55 (by rfl) rfl, ⟨jne_Table.1, jne_Table.2, by decide +kernel⟩, by decide, plainFor_of_name jpn_Table⟩
theorem ji_Table_becomePlain : Cond.instanceMethod jy_Table_becomePlain ∈ jtbl := jmem_2 53 (by decide +kernel) rfl
theorem js_Table_becomePlain : Cond.selects jy_Table_becomePlain.cls jy_Table_becomePlain jy_Table_becomePlain ∈ jtbl := jmem_2 54 (by decide +kernel) rfl
abbrev jc_Table_join : ByteArray := prog_10_method_14_code
abbrev jy_Table_join : MethodName := ⟨"YesNoPowers$Table", "join", "(LYesNoPowers$Table;)V"⟩
set_option maxRecDepth 100000 in
theorem jm_Table_join : jMi jy_Table_join jc_Table_join 3 none 1 := ⟨jmem_1 3 (by decide +kernel) rfl, jmem_2 128 (by rfl) rfl, ⟨jne_Table.1, jne_Table.2, by decide +kernel⟩, by decide, plainFor_of_name jpn_Table⟩
theorem ji_Table_join : Cond.instanceMethod jy_Table_join ∈ jtbl := jmem_2 126 (by decide +kernel) rfl
theorem js_Table_join : Cond.selects jy_Table_join.cls jy_Table_join jy_Table_join ∈ jtbl := jmem_2 127 (by decide +kernel) rfl
abbrev jc_Table_meet : ByteArray := prog_10_method_15_code
abbrev jy_Table_meet : MethodName := ⟨"YesNoPowers$Table", "meet", "(LYesNoPowers$Table;)V"⟩
set_option maxRecDepth 100000 in
theorem jm_Table_meet : jMi jy_Table_meet jc_Table_meet 3 none 1 := ⟨jmem_1 3 (by decide +kernel) rfl, jmem_4 4 (by rfl) rfl, ⟨jne_Table.1, jne_Table.2, by decide +kernel⟩, by decide, plainFor_of_name jpn_Table⟩
theorem ji_Table_meet : Cond.instanceMethod jy_Table_meet ∈ jtbl := jmem_4 2 (by decide +kernel) rfl
theorem js_Table_meet : Cond.selects jy_Table_meet.cls jy_Table_meet jy_Table_meet ∈ jtbl := jmem_4 3 (by decide +kernel) rfl
abbrev jc_Table_negate : ByteArray := prog_10_method_16_code
abbrev jy_Table_negate : MethodName := ⟨"YesNoPowers$Table", "negate", "()V"⟩
set_option maxRecDepth 100000 in
theorem jm_Table_negate : jMi jy_Table_negate jc_Table_negate 2 none 0 := ⟨jmem_1 3 (by decide +kernel) rfl, jmem_2 159 (by rfl) rfl, ⟨jne_Table.1, jne_Table.2, by decide +kernel⟩, by decide, plainFor_of_name jpn_Table⟩
theorem ji_Table_negate : Cond.instanceMethod jy_Table_negate ∈ jtbl := jmem_2 157 (by decide +kernel) rfl
theorem js_Table_negate : Cond.selects jy_Table_negate.cls jy_Table_negate jy_Table_negate ∈ jtbl := jmem_2 158 (by decide +kernel) rfl
abbrev jc_Table_turn : ByteArray := prog_10_method_17_code
abbrev jy_Table_turn : MethodName := ⟨"YesNoPowers$Table", "turn", "(LYesNoPowers$Table;)V"⟩
set_option maxRecDepth 100000 in
theorem jm_Table_turn : jMi jy_Table_turn jc_Table_turn 3 none 1 := ⟨jmem_1 3 (by decide +kernel) rfl, jmem_2 148 (by rfl) rfl, ⟨jne_Table.1, jne_Table.2, by decide +kernel⟩, by decide, plainFor_of_name jpn_Table⟩
theorem ji_Table_turn : Cond.instanceMethod jy_Table_turn ∈ jtbl := jmem_2 146 (by decide +kernel) rfl
theorem js_Table_turn : Cond.selects jy_Table_turn.cls jy_Table_turn jy_Table_turn ∈ jtbl := jmem_2 147 (by decide +kernel) rfl
abbrev jc_Table_multiplyBy : ByteArray := prog_10_method_18_code
abbrev jy_Table_multiplyBy : MethodName := ⟨"YesNoPowers$Table", "multiplyBy", "(LYesNoPowers$Table;)V"⟩
set_option maxRecDepth 100000 in
theorem jm_Table_multiplyBy : jMi jy_Table_multiplyBy jc_Table_multiplyBy 5 none 1 := ⟨jmem_1 3 (by decide +kernel) rfl, jmem_2 120 (by rfl) rfl, ⟨jne_Table.1, jne_Table.2, by decide +kernel⟩, by decide, plainFor_of_name jpn_Table⟩
theorem ji_Table_multiplyBy : Cond.instanceMethod jy_Table_multiplyBy ∈ jtbl := jmem_2 118 (by decide +kernel) rfl
theorem js_Table_multiplyBy : Cond.selects jy_Table_multiplyBy.cls jy_Table_multiplyBy jy_Table_multiplyBy ∈ jtbl := jmem_2 119 (by decide +kernel) rfl
abbrev jc_Table_close : ByteArray := prog_10_method_19_code
abbrev jy_Table_close : MethodName := ⟨"YesNoPowers$Table", "close", "()V"⟩
set_option maxRecDepth 100000 in
theorem jm_Table_close : jMi jy_Table_close jc_Table_close 3 none 0 := ⟨jmem_1 3 (by decide +kernel) rfl, jmem_2 165 (by rfl) rfl, ⟨jne_Table.1, jne_Table.2, by decide +kernel⟩, by decide, plainFor_of_name jpn_Table⟩
theorem ji_Table_close : Cond.instanceMethod jy_Table_close ∈ jtbl := jmem_2 163 (by decide +kernel) rfl
theorem js_Table_close : Cond.selects jy_Table_close.cls jy_Table_close jy_Table_close ∈ jtbl := jmem_2 164 (by decide +kernel) rfl
abbrev jc_Main_make : ByteArray := prog_1_method_2_code
abbrev jy_Main_make : MethodName := ⟨"YesNoPowers", "make", "(III)I"⟩
set_option maxRecDepth 100000 in
theorem jm_Main_make : jMi jy_Main_make jc_Main_make 4 (some .int) 3 := ⟨jmem_1 1 (by decide +kernel) rfl, jmem_2 42 (by rfl) rfl, ⟨jne_Main.1, jne_Main.2, by decide +kernel⟩, by decide, plainFor_of_name jpn_Main⟩
theorem ji_Main_make : Cond.instanceMethod jy_Main_make ∈ jtbl := jmem_2 40 (by decide +kernel) rfl
theorem js_Main_make : Cond.selects jy_Main_make.cls jy_Main_make jy_Main_make ∈ jtbl := jmem_2 41 (by decide +kernel) rfl
abbrev jc_Main_put : ByteArray := prog_1_method_3_code
abbrev jy_Main_put : MethodName := ⟨"YesNoPowers", "put", "(IIII)I"⟩
set_option maxRecDepth 100000 in
theorem jm_Main_put : jMi jy_Main_put jc_Main_put 6 (some .int) 4 := ⟨jmem_1 1 (by decide +kernel) rfl, jmem_2 79 (by rfl) rfl, ⟨jne_Main.1, jne_Main.2, by decide +kernel⟩, by decide, plainFor_of_name jpn_Main⟩
theorem ji_Main_put : Cond.instanceMethod jy_Main_put ∈ jtbl := jmem_2 77 (by decide +kernel) rfl
theorem js_Main_put : Cond.selects jy_Main_put.cls jy_Main_put jy_Main_put ∈ jtbl := jmem_2 78 (by decide +kernel) rfl
abbrev jc_Main_at : ByteArray := prog_1_method_4_code
abbrev jy_Main_at : MethodName := ⟨"YesNoPowers", "at", "(III)I"⟩
set_option maxRecDepth 100000 in
theorem jm_Main_at : jMi jy_Main_at jc_Main_at 4 (some .int) 3 := ⟨jmem_1 1 (by decide +kernel) rfl, jmem_2 95 (by rfl) rfl, ⟨jne_Main.1, jne_Main.2, by decide +kernel⟩, by decide, plainFor_of_name jpn_Main⟩
theorem ji_Main_at : Cond.instanceMethod jy_Main_at ∈ jtbl := jmem_2 93 (by decide +kernel) rfl
theorem js_Main_at : Cond.selects jy_Main_at.cls jy_Main_at jy_Main_at ∈ jtbl := jmem_2 94 (by decide +kernel) rfl
abbrev jc_Main_line : ByteArray := prog_1_method_5_code
abbrev jy_Main_line : MethodName := ⟨"YesNoPowers", "line", "(III)I"⟩
set_option maxRecDepth 100000 in
theorem jm_Main_line : jMi jy_Main_line jc_Main_line 4 (some .int) 3 := ⟨jmem_1 1 (by decide +kernel) rfl, jmem_2 99 (by rfl) rfl, ⟨jne_Main.1, jne_Main.2, by decide +kernel⟩, by decide, plainFor_of_name jpn_Main⟩
theorem ji_Main_line : Cond.instanceMethod jy_Main_line ∈ jtbl := jmem_2 97 (by decide +kernel) rfl
theorem js_Main_line : Cond.selects jy_Main_line.cls jy_Main_line jy_Main_line ∈ jtbl := jmem_2 98 (by decide +kernel) rfl
abbrev jc_Main_setRow : ByteArray := prog_1_method_6_code
abbrev jy_Main_setRow : MethodName := ⟨"YesNoPowers", "setRow", "(III)I"⟩
set_option maxRecDepth 100000 in
theorem jm_Main_setRow : jMi jy_Main_setRow jc_Main_setRow 5 (some .int) 3 := ⟨jmem_1 1 (by decide +kernel) rfl, jmem_2 108 (by rfl) rfl, ⟨jne_Main.1, jne_Main.2, by decide +kernel⟩, by decide, plainFor_of_name jpn_Main⟩
theorem ji_Main_setRow : Cond.instanceMethod jy_Main_setRow ∈ jtbl := jmem_2 106 (by decide +kernel) rfl
theorem js_Main_setRow : Cond.selects jy_Main_setRow.cls jy_Main_setRow jy_Main_setRow ∈ jtbl := jmem_2 107 (by decide +kernel) rfl
abbrev jc_Main_times : ByteArray := prog_1_method_7_code
abbrev jy_Main_times : MethodName := ⟨"YesNoPowers", "times", "(III)I"⟩
set_option maxRecDepth 100000 in
theorem jm_Main_times : jMi jy_Main_times jc_Main_times 4 (some .int) 3 := ⟨jmem_1 1 (by decide +kernel) rfl, jmem_2 116 (by rfl) rfl, ⟨jne_Main.1, jne_Main.2, by decide +kernel⟩, by decide, plainFor_of_name jpn_Main⟩
theorem ji_Main_times : Cond.instanceMethod jy_Main_times ∈ jtbl := jmem_2 114 (by decide +kernel) rfl
theorem js_Main_times : Cond.selects jy_Main_times.cls jy_Main_times jy_Main_times ∈ jtbl := jmem_2 115 (by decide +kernel) rfl
abbrev jc_Main_plus : ByteArray := prog_1_method_8_code
abbrev jy_Main_plus : MethodName := ⟨"YesNoPowers", "plus", "(III)I"⟩
set_option maxRecDepth 100000 in
theorem jm_Main_plus : jMi jy_Main_plus jc_Main_plus 4 (some .int) 3 := ⟨jmem_1 1 (by decide +kernel) rfl, jmem_2 124 (by rfl) rfl, ⟨jne_Main.1, jne_Main.2, by decide +kernel⟩, by decide, plainFor_of_name jpn_Main⟩
theorem ji_Main_plus : Cond.instanceMethod jy_Main_plus ∈ jtbl := jmem_2 122 (by decide +kernel) rfl
theorem js_Main_plus : Cond.selects jy_Main_plus.cls jy_Main_plus jy_Main_plus ∈ jtbl := jmem_2 123 (by decide +kernel) rfl
abbrev jc_Main_power : ByteArray := prog_1_method_9_code
abbrev jy_Main_power : MethodName := ⟨"YesNoPowers", "power", "(III)I"⟩
set_option maxRecDepth 100000 in
theorem jm_Main_power : jMi jy_Main_power jc_Main_power 4 (some .int) 3 := ⟨jmem_1 1 (by decide +kernel) rfl, jmem_2 132 (by rfl) rfl, ⟨jne_Main.1, jne_Main.2, by decide +kernel⟩, by decide, plainFor_of_name jpn_Main⟩
theorem ji_Main_power : Cond.instanceMethod jy_Main_power ∈ jtbl := jmem_2 130 (by decide +kernel) rfl
theorem js_Main_power : Cond.selects jy_Main_power.cls jy_Main_power jy_Main_power ∈ jtbl := jmem_2 131 (by decide +kernel) rfl
abbrev jc_Main_derive : ByteArray := prog_1_method_10_code
abbrev jy_Main_derive : MethodName := ⟨"YesNoPowers", "derive", "(III)I"⟩
set_option maxRecDepth 100000 in
theorem jm_Main_derive : jMi jy_Main_derive jc_Main_derive 5 (some .int) 3 := ⟨jmem_1 1 (by decide +kernel) rfl, jmem_2 144 (by rfl) rfl, ⟨jne_Main.1, jne_Main.2, by decide +kernel⟩, by decide, plainFor_of_name jpn_Main⟩
theorem ji_Main_derive : Cond.instanceMethod jy_Main_derive ∈ jtbl := jmem_2 142 (by decide +kernel) rfl
theorem js_Main_derive : Cond.selects jy_Main_derive.cls jy_Main_derive jy_Main_derive ∈ jtbl := jmem_2 143 (by decide +kernel) rfl
abbrev jc_Main_clear : ByteArray := prog_1_method_11_code
abbrev jy_Main_clear : MethodName := ⟨"YesNoPowers", "clear", "(I)I"⟩
set_option maxRecDepth 100000 in
theorem jm_Main_clear : jMi jy_Main_clear jc_Main_clear 3 (some .int) 1 := ⟨jmem_1 1 (by decide +kernel) rfl, jmem_2 169 (by rfl) rfl, ⟨jne_Main.1, jne_Main.2, by decide +kernel⟩, by decide, plainFor_of_name jpn_Main⟩
theorem ji_Main_clear : Cond.instanceMethod jy_Main_clear ∈ jtbl := jmem_2 167 (by decide +kernel) rfl
theorem js_Main_clear : Cond.selects jy_Main_clear.cls jy_Main_clear jy_Main_clear ∈ jtbl := jmem_2 168 (by decide +kernel) rfl
abbrev jc_Main_same : ByteArray := prog_1_method_12_code
abbrev jy_Main_same : MethodName := ⟨"YesNoPowers", "same", "(II)I"⟩
set_option maxRecDepth 100000 in
theorem jm_Main_same : jMi jy_Main_same jc_Main_same 3 (some .int) 2 := ⟨jmem_1 1 (by decide +kernel) rfl, jmem_2 173 (by rfl) rfl, ⟨jne_Main.1, jne_Main.2, by decide +kernel⟩, by decide, plainFor_of_name jpn_Main⟩
theorem ji_Main_same : Cond.instanceMethod jy_Main_same ∈ jtbl := jmem_2 171 (by decide +kernel) rfl
theorem js_Main_same : Cond.selects jy_Main_same.cls jy_Main_same jy_Main_same ∈ jtbl := jmem_2 172 (by decide +kernel) rfl
abbrev jc_Main_load : ByteArray := prog_1_method_13_code
abbrev jy_Main_load : MethodName := ⟨"YesNoPowers", "load", "(IIII)I"⟩
set_option maxRecDepth 100000 in
theorem jm_Main_load : jMi jy_Main_load jc_Main_load 8 (some .int) 4 := ⟨jmem_1 1 (by decide +kernel) rfl, jmem_2 181 (by rfl) rfl, ⟨jne_Main.1, jne_Main.2, by decide +kernel⟩, by decide, plainFor_of_name jpn_Main⟩
theorem ji_Main_load : Cond.instanceMethod jy_Main_load ∈ jtbl := jmem_2 179 (by decide +kernel) rfl
theorem js_Main_load : Cond.selects jy_Main_load.cls jy_Main_load jy_Main_load ∈ jtbl := jmem_2 180 (by decide +kernel) rfl
abbrev jc_Main_spill : ByteArray := prog_1_method_14_code
abbrev jy_Main_spill : MethodName := ⟨"YesNoPowers", "spill", "(III)I"⟩
set_option maxRecDepth 100000 in
theorem jm_Main_spill : jMi jy_Main_spill jc_Main_spill 7 (some .int) 3 := ⟨jmem_1 1 (by decide +kernel) rfl, jmem_2 200 (by rfl) rfl, ⟨jne_Main.1, jne_Main.2, by decide +kernel⟩, by decide, plainFor_of_name jpn_Main⟩
theorem ji_Main_spill : Cond.instanceMethod jy_Main_spill ∈ jtbl := jmem_2 198 (by decide +kernel) rfl
theorem js_Main_spill : Cond.selects jy_Main_spill.cls jy_Main_spill jy_Main_spill ∈ jtbl := jmem_2 199 (by decide +kernel) rfl
abbrev jc_Main_told : ByteArray := prog_1_method_15_code
abbrev jy_Main_told : MethodName := ⟨"YesNoPowers", "told", "(II)I"⟩
set_option maxRecDepth 100000 in
theorem jm_Main_told : jMi jy_Main_told jc_Main_told 4 (some .int) 2 := ⟨jmem_1 1 (by decide +kernel) rfl, jmem_2 209 (by rfl) rfl, ⟨jne_Main.1, jne_Main.2, by decide +kernel⟩, by decide, plainFor_of_name jpn_Main⟩
theorem ji_Main_told : Cond.instanceMethod jy_Main_told ∈ jtbl := jmem_2 207 (by decide +kernel) rfl
theorem js_Main_told : Cond.selects jy_Main_told.cls jy_Main_told jy_Main_told ∈ jtbl := jmem_2 208 (by decide +kernel) rfl
abbrev jc_Main_reaches : ByteArray := prog_1_method_16_code
abbrev jy_Main_reaches : MethodName := ⟨"YesNoPowers", "reaches", "(II)I"⟩
set_option maxRecDepth 100000 in
theorem jm_Main_reaches : jMi jy_Main_reaches jc_Main_reaches 4 (some .int) 2 := ⟨jmem_1 1 (by decide +kernel) rfl, jmem_3 16 (by rfl) rfl, ⟨jne_Main.1, jne_Main.2, by decide +kernel⟩, by decide, plainFor_of_name jpn_Main⟩
theorem ji_Main_reaches : Cond.instanceMethod jy_Main_reaches ∈ jtbl := jmem_3 14 (by decide +kernel) rfl
theorem js_Main_reaches : Cond.selects jy_Main_reaches.cls jy_Main_reaches jy_Main_reaches ∈ jtbl := jmem_3 15 (by decide +kernel) rfl
abbrev jc_Main_bound : ByteArray := prog_1_method_17_code
abbrev jy_Main_bound : MethodName := ⟨"YesNoPowers", "bound", "(II)I"⟩
set_option maxRecDepth 100000 in
theorem jm_Main_bound : jMi jy_Main_bound jc_Main_bound 6 (some .int) 2 := ⟨jmem_1 1 (by decide +kernel) rfl, jmem_3 24 (by rfl) rfl, ⟨jne_Main.1, jne_Main.2, by decide +kernel⟩, by decide, plainFor_of_name jpn_Main⟩
theorem ji_Main_bound : Cond.instanceMethod jy_Main_bound ∈ jtbl := jmem_3 22 (by decide +kernel) rfl
theorem js_Main_bound : Cond.selects jy_Main_bound.cls jy_Main_bound jy_Main_bound ∈ jtbl := jmem_3 23 (by decide +kernel) rfl
abbrev jc_Main_classes : ByteArray := prog_1_method_18_code
abbrev jy_Main_classes : MethodName := ⟨"YesNoPowers", "classes", "(I)I"⟩
set_option maxRecDepth 100000 in
theorem jm_Main_classes : jMi jy_Main_classes jc_Main_classes 2 (some .int) 1 := ⟨jmem_1 1 (by decide +kernel) rfl, jmem_3 79 (by rfl) rfl, ⟨jne_Main.1, jne_Main.2, by decide +kernel⟩, by decide, plainFor_of_name jpn_Main⟩
theorem ji_Main_classes : Cond.instanceMethod jy_Main_classes ∈ jtbl := jmem_3 77 (by decide +kernel) rfl
theorem js_Main_classes : Cond.selects jy_Main_classes.cls jy_Main_classes jy_Main_classes ∈ jtbl := jmem_3 78 (by decide +kernel) rfl
abbrev jc_Main_classOf : ByteArray := prog_1_method_19_code
abbrev jy_Main_classOf : MethodName := ⟨"YesNoPowers", "classOf", "(II)I"⟩
set_option maxRecDepth 100000 in
theorem jm_Main_classOf : jMi jy_Main_classOf jc_Main_classOf 3 (some .int) 2 := ⟨jmem_1 1 (by decide +kernel) rfl, jmem_3 83 (by rfl) rfl, ⟨jne_Main.1, jne_Main.2, by decide +kernel⟩, by decide, plainFor_of_name jpn_Main⟩
theorem ji_Main_classOf : Cond.instanceMethod jy_Main_classOf ∈ jtbl := jmem_3 81 (by decide +kernel) rfl
theorem js_Main_classOf : Cond.selects jy_Main_classOf.cls jy_Main_classOf jy_Main_classOf ∈ jtbl := jmem_3 82 (by decide +kernel) rfl
abbrev jc_Main_ofClass : ByteArray := prog_1_method_20_code
abbrev jy_Main_ofClass : MethodName := ⟨"YesNoPowers", "ofClass", "(III)I"⟩
set_option maxRecDepth 100000 in
theorem jm_Main_ofClass : jMi jy_Main_ofClass jc_Main_ofClass 4 (some .int) 3 := ⟨jmem_1 1 (by decide +kernel) rfl, jmem_3 87 (by rfl) rfl, ⟨jne_Main.1, jne_Main.2, by decide +kernel⟩, by decide, plainFor_of_name jpn_Main⟩
theorem ji_Main_ofClass : Cond.instanceMethod jy_Main_ofClass ∈ jtbl := jmem_3 85 (by decide +kernel) rfl
theorem js_Main_ofClass : Cond.selects jy_Main_ofClass.cls jy_Main_ofClass jy_Main_ofClass ∈ jtbl := jmem_3 86 (by decide +kernel) rfl
abbrev jc_Main_part : ByteArray := prog_1_method_21_code
abbrev jy_Main_part : MethodName := ⟨"YesNoPowers", "part", "(II)I"⟩
set_option maxRecDepth 100000 in
theorem jm_Main_part : jMi jy_Main_part jc_Main_part 3 (some .int) 2 := ⟨jmem_1 1 (by decide +kernel) rfl, jmem_3 96 (by rfl) rfl, ⟨jne_Main.1, jne_Main.2, by decide +kernel⟩, by decide, plainFor_of_name jpn_Main⟩
theorem ji_Main_part : Cond.instanceMethod jy_Main_part ∈ jtbl := jmem_3 94 (by decide +kernel) rfl
theorem js_Main_part : Cond.selects jy_Main_part.cls jy_Main_part jy_Main_part ∈ jtbl := jmem_3 95 (by decide +kernel) rfl
abbrev jc_Main_parts : ByteArray := prog_1_method_22_code
abbrev jy_Main_parts : MethodName := ⟨"YesNoPowers", "parts", "(III)I"⟩
set_option maxRecDepth 100000 in
theorem jm_Main_parts : jMi jy_Main_parts jc_Main_parts 7 (some .int) 3 := ⟨jmem_1 1 (by decide +kernel) rfl, jmem_3 104 (by rfl) rfl, ⟨jne_Main.1, jne_Main.2, by decide +kernel⟩, by decide, plainFor_of_name jpn_Main⟩
theorem ji_Main_parts : Cond.instanceMethod jy_Main_parts ∈ jtbl := jmem_3 102 (by decide +kernel) rfl
theorem js_Main_parts : Cond.selects jy_Main_parts.cls jy_Main_parts jy_Main_parts ∈ jtbl := jmem_3 103 (by decide +kernel) rfl
abbrev jc_Main_rest : ByteArray := prog_1_method_23_code
abbrev jy_Main_rest : MethodName := ⟨"YesNoPowers", "rest", "(III)I"⟩
set_option maxRecDepth 100000 in
theorem jm_Main_rest : jMi jy_Main_rest jc_Main_rest 5 (some .int) 3 := ⟨jmem_1 1 (by decide +kernel) rfl, jmem_3 108 (by rfl) rfl, ⟨jne_Main.1, jne_Main.2, by decide +kernel⟩, by decide, plainFor_of_name jpn_Main⟩
theorem ji_Main_rest : Cond.instanceMethod jy_Main_rest ∈ jtbl := jmem_3 106 (by decide +kernel) rfl
theorem js_Main_rest : Cond.selects jy_Main_rest.cls jy_Main_rest jy_Main_rest ∈ jtbl := jmem_3 107 (by decide +kernel) rfl
abbrev jc_Main_space : ByteArray := prog_1_method_24_code
abbrev jy_Main_space : MethodName := ⟨"YesNoPowers", "space", "(II)I"⟩
set_option maxRecDepth 100000 in
theorem jm_Main_space : jMi jy_Main_space jc_Main_space 4 (some .int) 2 := ⟨jmem_1 1 (by decide +kernel) rfl, jmem_3 115 (by rfl) rfl, ⟨jne_Main.1, jne_Main.2, by decide +kernel⟩, by decide, plainFor_of_name jpn_Main⟩
theorem ji_Main_space : Cond.instanceMethod jy_Main_space ∈ jtbl := jmem_3 113 (by decide +kernel) rfl
theorem js_Main_space : Cond.selects jy_Main_space.cls jy_Main_space jy_Main_space ∈ jtbl := jmem_3 114 (by decide +kernel) rfl
abbrev jc_Main_basis : ByteArray := prog_1_method_25_code
abbrev jy_Main_basis : MethodName := ⟨"YesNoPowers", "basis", "(II)I"⟩
set_option maxRecDepth 100000 in
theorem jm_Main_basis : jMi jy_Main_basis jc_Main_basis 5 (some .int) 2 := ⟨jmem_1 1 (by decide +kernel) rfl, jmem_3 146 (by rfl) rfl, ⟨jne_Main.1, jne_Main.2, by decide +kernel⟩, by decide, plainFor_of_name jpn_Main⟩
theorem ji_Main_basis : Cond.instanceMethod jy_Main_basis ∈ jtbl := jmem_3 144 (by decide +kernel) rfl
theorem js_Main_basis : Cond.selects jy_Main_basis.cls jy_Main_basis jy_Main_basis ∈ jtbl := jmem_3 145 (by decide +kernel) rfl
abbrev jc_Main_spans : ByteArray := prog_1_method_26_code
abbrev jy_Main_spans : MethodName := ⟨"YesNoPowers", "spans", "(II)I"⟩
set_option maxRecDepth 100000 in
theorem jm_Main_spans : jMi jy_Main_spans jc_Main_spans 3 (some .int) 2 := ⟨jmem_1 1 (by decide +kernel) rfl, jmem_3 151 (by rfl) rfl, ⟨jne_Main.1, jne_Main.2, by decide +kernel⟩, by decide, plainFor_of_name jpn_Main⟩
theorem ji_Main_spans : Cond.instanceMethod jy_Main_spans ∈ jtbl := jmem_3 149 (by decide +kernel) rfl
theorem js_Main_spans : Cond.selects jy_Main_spans.cls jy_Main_spans jy_Main_spans ∈ jtbl := jmem_3 150 (by decide +kernel) rfl
abbrev jc_Main_alike : ByteArray := prog_1_method_27_code
abbrev jy_Main_alike : MethodName := ⟨"YesNoPowers", "alike", "(III)I"⟩
set_option maxRecDepth 100000 in
theorem jm_Main_alike : jMi jy_Main_alike jc_Main_alike 4 (some .int) 3 := ⟨jmem_1 1 (by decide +kernel) rfl, jmem_3 156 (by rfl) rfl, ⟨jne_Main.1, jne_Main.2, by decide +kernel⟩, by decide, plainFor_of_name jpn_Main⟩
theorem ji_Main_alike : Cond.instanceMethod jy_Main_alike ∈ jtbl := jmem_3 154 (by decide +kernel) rfl
theorem js_Main_alike : Cond.selects jy_Main_alike.cls jy_Main_alike jy_Main_alike ∈ jtbl := jmem_3 155 (by decide +kernel) rfl
abbrev jc_Main_roots : ByteArray := prog_1_method_28_code
abbrev jy_Main_roots : MethodName := ⟨"YesNoPowers", "roots", "(II)I"⟩
set_option maxRecDepth 100000 in
theorem jm_Main_roots : jMi jy_Main_roots jc_Main_roots 4 (some .int) 2 := ⟨jmem_1 1 (by decide +kernel) rfl, jmem_3 168 (by rfl) rfl, ⟨jne_Main.1, jne_Main.2, by decide +kernel⟩, by decide, plainFor_of_name jpn_Main⟩
theorem ji_Main_roots : Cond.instanceMethod jy_Main_roots ∈ jtbl := jmem_3 166 (by decide +kernel) rfl
theorem js_Main_roots : Cond.selects jy_Main_roots.cls jy_Main_roots jy_Main_roots ∈ jtbl := jmem_3 167 (by decide +kernel) rfl
abbrev jc_Main_root : ByteArray := prog_1_method_29_code
abbrev jy_Main_root : MethodName := ⟨"YesNoPowers", "root", "(III)I"⟩
set_option maxRecDepth 100000 in
theorem jm_Main_root : jMi jy_Main_root jc_Main_root 6 (some .int) 3 := ⟨jmem_1 1 (by decide +kernel) rfl, jmem_3 190 (by rfl) rfl, ⟨jne_Main.1, jne_Main.2, by decide +kernel⟩, by decide, plainFor_of_name jpn_Main⟩
theorem ji_Main_root : Cond.instanceMethod jy_Main_root ∈ jtbl := jmem_3 188 (by decide +kernel) rfl
theorem js_Main_root : Cond.selects jy_Main_root.cls jy_Main_root jy_Main_root ∈ jtbl := jmem_3 189 (by decide +kernel) rfl
abbrev jc_Main_link : ByteArray := prog_1_method_30_code
abbrev jy_Main_link : MethodName := ⟨"YesNoPowers", "link", "(II)I"⟩
set_option maxRecDepth 100000 in
theorem jm_Main_link : jMi jy_Main_link jc_Main_link 3 (some .int) 2 := ⟨jmem_1 1 (by decide +kernel) rfl, jmem_3 204 (by rfl) rfl, ⟨jne_Main.1, jne_Main.2, by decide +kernel⟩, by decide, plainFor_of_name jpn_Main⟩
theorem ji_Main_link : Cond.instanceMethod jy_Main_link ∈ jtbl := jmem_3 202 (by decide +kernel) rfl
theorem js_Main_link : Cond.selects jy_Main_link.cls jy_Main_link jy_Main_link ∈ jtbl := jmem_3 203 (by decide +kernel) rfl
abbrev jc_Main_run : ByteArray := prog_1_method_31_code
abbrev jy_Main_run : MethodName := ⟨"YesNoPowers", "run", "(I)I"⟩
set_option maxRecDepth 100000 in
theorem jm_Main_run : jMi jy_Main_run jc_Main_run 3 (some .int) 1 := ⟨jmem_1 1 (by decide +kernel) rfl, jmem_3 222 (by rfl) rfl, ⟨jne_Main.1, jne_Main.2, by decide +kernel⟩, by decide, plainFor_of_name jpn_Main⟩
theorem ji_Main_run : Cond.instanceMethod jy_Main_run ∈ jtbl := jmem_3 220 (by decide +kernel) rfl
theorem js_Main_run : Cond.selects jy_Main_run.cls jy_Main_run jy_Main_run ∈ jtbl := jmem_3 221 (by decide +kernel) rfl
abbrev jc_Main_would : ByteArray := prog_1_method_32_code
abbrev jy_Main_would : MethodName := ⟨"YesNoPowers", "would", "(I)I"⟩
set_option maxRecDepth 100000 in
theorem jm_Main_would : jMi jy_Main_would jc_Main_would 3 (some .int) 1 := ⟨jmem_1 1 (by decide +kernel) rfl, jmem_4 16 (by rfl) rfl, ⟨jne_Main.1, jne_Main.2, by decide +kernel⟩, by decide, plainFor_of_name jpn_Main⟩
theorem ji_Main_would : Cond.instanceMethod jy_Main_would ∈ jtbl := jmem_4 14 (by decide +kernel) rfl
theorem js_Main_would : Cond.selects jy_Main_would.cls jy_Main_would jy_Main_would ∈ jtbl := jmem_4 15 (by decide +kernel) rfl
abbrev jc_Main_closing : ByteArray := prog_1_method_33_code
abbrev jy_Main_closing : MethodName := ⟨"YesNoPowers", "closing", "(I)I"⟩
set_option maxRecDepth 100000 in
theorem jm_Main_closing : jMi jy_Main_closing jc_Main_closing 2 (some .int) 1 := ⟨jmem_1 1 (by decide +kernel) rfl, jmem_4 20 (by rfl) rfl, ⟨jne_Main.1, jne_Main.2, by decide +kernel⟩, by decide, plainFor_of_name jpn_Main⟩
theorem ji_Main_closing : Cond.instanceMethod jy_Main_closing ∈ jtbl := jmem_4 18 (by decide +kernel) rfl
theorem js_Main_closing : Cond.selects jy_Main_closing.cls jy_Main_closing jy_Main_closing ∈ jtbl := jmem_4 19 (by decide +kernel) rfl
abbrev jc_Main_reason : ByteArray := prog_1_method_34_code
abbrev jy_Main_reason : MethodName := ⟨"YesNoPowers", "reason", "(I)I"⟩
set_option maxRecDepth 100000 in
theorem jm_Main_reason : jMi jy_Main_reason jc_Main_reason 2 (some .int) 1 := ⟨jmem_1 1 (by decide +kernel) rfl, jmem_4 24 (by rfl) rfl, ⟨jne_Main.1, jne_Main.2, by decide +kernel⟩, by decide, plainFor_of_name jpn_Main⟩
theorem ji_Main_reason : Cond.instanceMethod jy_Main_reason ∈ jtbl := jmem_4 22 (by decide +kernel) rfl
theorem js_Main_reason : Cond.selects jy_Main_reason.cls jy_Main_reason jy_Main_reason ∈ jtbl := jmem_4 23 (by decide +kernel) rfl
abbrev jc_Main_loosen : ByteArray := prog_1_method_35_code
abbrev jy_Main_loosen : MethodName := ⟨"YesNoPowers", "loosen", "()I"⟩
set_option maxRecDepth 100000 in
theorem jm_Main_loosen : jMi jy_Main_loosen jc_Main_loosen 2 (some .int) 0 := ⟨jmem_1 1 (by decide +kernel) rfl, jmem_4 28 (by rfl) rfl, ⟨jne_Main.1, jne_Main.2, by decide +kernel⟩, by decide, plainFor_of_name jpn_Main⟩
theorem ji_Main_loosen : Cond.instanceMethod jy_Main_loosen ∈ jtbl := jmem_4 26 (by decide +kernel) rfl
theorem js_Main_loosen : Cond.selects jy_Main_loosen.cls jy_Main_loosen jy_Main_loosen ∈ jtbl := jmem_4 27 (by decide +kernel) rfl
abbrev jc_Main_undo : ByteArray := prog_1_method_36_code
abbrev jy_Main_undo : MethodName := ⟨"YesNoPowers", "undo", "()I"⟩
set_option maxRecDepth 100000 in
theorem jm_Main_undo : jMi jy_Main_undo jc_Main_undo 2 (some .int) 0 := ⟨jmem_1 1 (by decide +kernel) rfl, jmem_4 32 (by rfl) rfl, ⟨jne_Main.1, jne_Main.2, by decide +kernel⟩, by decide, plainFor_of_name jpn_Main⟩
theorem ji_Main_undo : Cond.instanceMethod jy_Main_undo ∈ jtbl := jmem_4 30 (by decide +kernel) rfl
theorem js_Main_undo : Cond.selects jy_Main_undo.cls jy_Main_undo jy_Main_undo ∈ jtbl := jmem_4 31 (by decide +kernel) rfl
abbrev jc_Main_sheet : ByteArray := prog_1_method_37_code
abbrev jy_Main_sheet : MethodName := ⟨"YesNoPowers", "sheet", "(III)I"⟩
set_option maxRecDepth 100000 in
theorem jm_Main_sheet : jMi jy_Main_sheet jc_Main_sheet 4 (some .int) 3 := ⟨jmem_1 1 (by decide +kernel) rfl, jmem_4 52 (by rfl) rfl, ⟨jne_Main.1, jne_Main.2, by decide +kernel⟩, by decide, plainFor_of_name jpn_Main⟩
theorem ji_Main_sheet : Cond.instanceMethod jy_Main_sheet ∈ jtbl := jmem_4 50 (by decide +kernel) rfl
theorem js_Main_sheet : Cond.selects jy_Main_sheet.cls jy_Main_sheet jy_Main_sheet ∈ jtbl := jmem_4 51 (by decide +kernel) rfl
abbrev jc_Main_cell : ByteArray := prog_1_method_38_code
abbrev jy_Main_cell : MethodName := ⟨"YesNoPowers", "cell", "(III)I"⟩
set_option maxRecDepth 100000 in
theorem jm_Main_cell : jMi jy_Main_cell jc_Main_cell 4 (some .int) 3 := ⟨jmem_1 1 (by decide +kernel) rfl, jmem_4 60 (by rfl) rfl, ⟨jne_Main.1, jne_Main.2, by decide +kernel⟩, by decide, plainFor_of_name jpn_Main⟩
theorem ji_Main_cell : Cond.instanceMethod jy_Main_cell ∈ jtbl := jmem_4 58 (by decide +kernel) rfl
theorem js_Main_cell : Cond.selects jy_Main_cell.cls jy_Main_cell jy_Main_cell ∈ jtbl := jmem_4 59 (by decide +kernel) rfl
abbrev jc_Main_item : ByteArray := prog_1_method_39_code
abbrev jy_Main_item : MethodName := ⟨"YesNoPowers", "item", "(II)J"⟩
set_option maxRecDepth 100000 in
theorem jm_Main_item : jMi jy_Main_item jc_Main_item 3 (some .long) 2 := ⟨jmem_1 1 (by decide +kernel) rfl, jmem_4 64 (by rfl) rfl, ⟨jne_Main.1, jne_Main.2, by decide +kernel⟩, by decide, plainFor_of_name jpn_Main⟩
theorem ji_Main_item : Cond.instanceMethod jy_Main_item ∈ jtbl := jmem_4 62 (by decide +kernel) rfl
theorem js_Main_item : Cond.selects jy_Main_item.cls jy_Main_item jy_Main_item ∈ jtbl := jmem_4 63 (by decide +kernel) rfl
abbrev jc_Main_shift : ByteArray := prog_1_method_40_code
abbrev jy_Main_shift : MethodName := ⟨"YesNoPowers", "shift", "(IIIII)I"⟩
set_option maxRecDepth 100000 in
theorem jm_Main_shift : jMi jy_Main_shift jc_Main_shift 8 (some .int) 5 := ⟨jmem_1 1 (by decide +kernel) rfl, jmem_4 69 (by rfl) rfl, ⟨jne_Main.1, jne_Main.2, by decide +kernel⟩, by decide, plainFor_of_name jpn_Main⟩
theorem ji_Main_shift : Cond.instanceMethod jy_Main_shift ∈ jtbl := jmem_4 67 (by decide +kernel) rfl
theorem js_Main_shift : Cond.selects jy_Main_shift.cls jy_Main_shift jy_Main_shift ∈ jtbl := jmem_4 68 (by decide +kernel) rfl
abbrev jc_Main_count : ByteArray := prog_1_method_41_code
abbrev jy_Main_count : MethodName := ⟨"YesNoPowers", "count", "(I)I"⟩
set_option maxRecDepth 100000 in
theorem jm_Main_count : jMi jy_Main_count jc_Main_count 2 (some .int) 1 := ⟨jmem_1 1 (by decide +kernel) rfl, jmem_4 76 (by rfl) rfl, ⟨jne_Main.1, jne_Main.2, by decide +kernel⟩, by decide, plainFor_of_name jpn_Main⟩
theorem ji_Main_count : Cond.instanceMethod jy_Main_count ∈ jtbl := jmem_4 74 (by decide +kernel) rfl
theorem js_Main_count : Cond.selects jy_Main_count.cls jy_Main_count jy_Main_count ∈ jtbl := jmem_4 75 (by decide +kernel) rfl
abbrev jc_Main_outOf : ByteArray := prog_1_method_42_code
abbrev jy_Main_outOf : MethodName := ⟨"YesNoPowers", "outOf", "(III)Z"⟩
set_option maxRecDepth 100000 in
theorem jm_Main_outOf : jMi jy_Main_outOf jc_Main_outOf 3 (some .boolean) 3 := ⟨jmem_1 1 (by decide +kernel) rfl, jmem_2 48 (by rfl) rfl, ⟨jne_Main.1, jne_Main.2, by decide +kernel⟩, by decide, plainFor_of_name jpn_Main⟩
theorem js_Main_outOf : Cond.static jy_Main_outOf ∈ jtbl := jmem_2 47 (by decide +kernel) rfl
abbrev jc_Main_noSlot : ByteArray := prog_1_method_43_code
abbrev jy_Main_noSlot : MethodName := ⟨"YesNoPowers", "noSlot", "(I)Z"⟩
set_option maxRecDepth 100000 in
theorem jm_Main_noSlot : jMi jy_Main_noSlot jc_Main_noSlot 1 (some .boolean) 1 := ⟨jmem_1 1 (by decide +kernel) rfl, jmem_2 45 (by rfl) rfl, ⟨jne_Main.1, jne_Main.2, by decide +kernel⟩, by decide, plainFor_of_name jpn_Main⟩
theorem js_Main_noSlot : Cond.static jy_Main_noSlot ∈ jtbl := jmem_2 44 (by decide +kernel) rfl
abbrev jc_Main_noSheet : ByteArray := prog_1_method_44_code
abbrev jy_Main_noSheet : MethodName := ⟨"YesNoPowers", "noSheet", "(I)Z"⟩
set_option maxRecDepth 100000 in
theorem jm_Main_noSheet : jMi jy_Main_noSheet jc_Main_noSheet 1 (some .boolean) 1 := ⟨jmem_1 1 (by decide +kernel) rfl, jmem_2 184 (by rfl) rfl, ⟨jne_Main.1, jne_Main.2, by decide +kernel⟩, by decide, plainFor_of_name jpn_Main⟩
theorem js_Main_noSheet : Cond.static jy_Main_noSheet ∈ jtbl := jmem_2 183 (by decide +kernel) rfl
abbrev jc_Main_noSize : ByteArray := prog_1_method_45_code
abbrev jy_Main_noSize : MethodName := ⟨"YesNoPowers", "noSize", "(I)Z"⟩
set_option maxRecDepth 100000 in
theorem jm_Main_noSize : jMi jy_Main_noSize jc_Main_noSize 1 (some .boolean) 1 := ⟨jmem_1 1 (by decide +kernel) rfl, jmem_2 51 (by rfl) rfl, ⟨jne_Main.1, jne_Main.2, by decide +kernel⟩, by decide, plainFor_of_name jpn_Main⟩
theorem js_Main_noSize : Cond.static jy_Main_noSize ∈ jtbl := jmem_2 50 (by decide +kernel) rfl
abbrev jc_Main_noTable : ByteArray := prog_1_method_46_code
abbrev jy_Main_noTable : MethodName := ⟨"YesNoPowers", "noTable", "(I)Z"⟩
set_option maxRecDepth 100000 in
theorem jm_Main_noTable : jMi jy_Main_noTable jc_Main_noTable 2 (some .boolean) 1 := ⟨jmem_1 1 (by decide +kernel) rfl, jmem_2 87 (by rfl) rfl, ⟨jne_Main.1, jne_Main.2, by decide +kernel⟩, by decide, plainFor_of_name jpn_Main⟩
theorem ji_Main_noTable : Cond.instanceMethod jy_Main_noTable ∈ jtbl := jmem_2 86 (by decide +kernel) rfl
theorem js_Main_noTable : Cond.selects jy_Main_noTable.cls jy_Main_noTable jy_Main_noTable ∈ jtbl := jmem_0 2 (by decide +kernel) rfl
abbrev jc_Main_noMember : ByteArray := prog_1_method_47_code
abbrev jy_Main_noMember : MethodName := ⟨"YesNoPowers", "noMember", "(II)Z"⟩
set_option maxRecDepth 100000 in
theorem jm_Main_noMember : jMi jy_Main_noMember jc_Main_noMember 3 (some .boolean) 2 := ⟨jmem_1 1 (by decide +kernel) rfl, jmem_2 83 (by rfl) rfl, ⟨jne_Main.1, jne_Main.2, by decide +kernel⟩, by decide, plainFor_of_name jpn_Main⟩
theorem ji_Main_noMember : Cond.instanceMethod jy_Main_noMember ∈ jtbl := jmem_2 82 (by decide +kernel) rfl
theorem js_Main_noMember : Cond.selects jy_Main_noMember.cls jy_Main_noMember jy_Main_noMember ∈ jtbl := jmem_0 1 (by decide +kernel) rfl
abbrev jc_Main_readsClass : ByteArray := prog_1_method_48_code
abbrev jy_Main_readsClass : MethodName := ⟨"YesNoPowers", "readsClass", "(II)Z"⟩
set_option maxRecDepth 100000 in
theorem jm_Main_readsClass : jMi jy_Main_readsClass jc_Main_readsClass 3 (some .boolean) 2 := ⟨jmem_1 1 (by decide +kernel) rfl, jmem_3 91 (by rfl) rfl, ⟨jne_Main.1, jne_Main.2, by decide +kernel⟩, by decide, plainFor_of_name jpn_Main⟩
theorem ji_Main_readsClass : Cond.instanceMethod jy_Main_readsClass ∈ jtbl := jmem_3 90 (by decide +kernel) rfl
theorem js_Main_readsClass : Cond.selects jy_Main_readsClass.cls jy_Main_readsClass jy_Main_readsClass ∈ jtbl := jmem_0 15 (by decide +kernel) rfl
abbrev jc_Main_badForKind : ByteArray := prog_1_method_49_code
abbrev jy_Main_badForKind : MethodName := ⟨"YesNoPowers", "badForKind", "(II)Z"⟩
set_option maxRecDepth 100000 in
theorem jm_Main_badForKind : jMi jy_Main_badForKind jc_Main_badForKind 3 (some .boolean) 2 := ⟨jmem_1 1 (by decide +kernel) rfl, jmem_3 208 (by rfl) rfl, ⟨jne_Main.1, jne_Main.2, by decide +kernel⟩, by decide, plainFor_of_name jpn_Main⟩
theorem ji_Main_badForKind : Cond.instanceMethod jy_Main_badForKind ∈ jtbl := jmem_3 207 (by decide +kernel) rfl
theorem js_Main_badForKind : Cond.selects jy_Main_badForKind.cls jy_Main_badForKind jy_Main_badForKind ∈ jtbl := jmem_0 18 (by decide +kernel) rfl
abbrev jc_Main_hold : ByteArray := prog_1_method_50_code
abbrev jy_Main_hold : MethodName := ⟨"YesNoPowers", "hold", "(I)I"⟩
set_option maxRecDepth 100000 in
theorem jm_Main_hold : jMi jy_Main_hold jc_Main_hold 2 (some .int) 1 := ⟨jmem_1 1 (by decide +kernel) rfl, jmem_2 63 (by rfl) rfl, ⟨jne_Main.1, jne_Main.2, by decide +kernel⟩, by decide, plainFor_of_name jpn_Main⟩
theorem ji_Main_hold : Cond.instanceMethod jy_Main_hold ∈ jtbl := jmem_2 62 (by decide +kernel) rfl
theorem js_Main_hold : Cond.selects jy_Main_hold.cls jy_Main_hold jy_Main_hold ∈ jtbl := jmem_0 0 (by decide +kernel) rfl
abbrev jc_Main_isOwnSquare : ByteArray := prog_1_method_51_code
abbrev jy_Main_isOwnSquare : MethodName := ⟨"YesNoPowers", "isOwnSquare", "(LYesNoPowers$Table;)Z"⟩
set_option maxRecDepth 100000 in
theorem jm_Main_isOwnSquare : jMi jy_Main_isOwnSquare jc_Main_isOwnSquare 2 (some .boolean) 1 := ⟨jmem_1 1 (by decide +kernel) rfl, jmem_2 231 (by rfl) rfl, ⟨jne_Main.1, jne_Main.2, by decide +kernel⟩, by decide, plainFor_of_name jpn_Main⟩
theorem ji_Main_isOwnSquare : Cond.instanceMethod jy_Main_isOwnSquare ∈ jtbl := jmem_2 230 (by decide +kernel) rfl
theorem js_Main_isOwnSquare : Cond.selects jy_Main_isOwnSquare.cls jy_Main_isOwnSquare jy_Main_isOwnSquare ∈ jtbl := jmem_0 3 (by decide +kernel) rfl
abbrev jc_Main_isOwnTranspose : ByteArray := prog_1_method_52_code
abbrev jy_Main_isOwnTranspose : MethodName := ⟨"YesNoPowers", "isOwnTranspose", "(LYesNoPowers$Table;)Z"⟩
set_option maxRecDepth 100000 in
theorem jm_Main_isOwnTranspose : jMi jy_Main_isOwnTranspose jc_Main_isOwnTranspose 2 (some .boolean) 1 := ⟨jmem_1 1 (by decide +kernel) rfl, jmem_2 235 (by rfl) rfl, ⟨jne_Main.1, jne_Main.2, by decide +kernel⟩, by decide, plainFor_of_name jpn_Main⟩
theorem ji_Main_isOwnTranspose : Cond.instanceMethod jy_Main_isOwnTranspose ∈ jtbl := jmem_2 234 (by decide +kernel) rfl
theorem js_Main_isOwnTranspose : Cond.selects jy_Main_isOwnTranspose.cls jy_Main_isOwnTranspose jy_Main_isOwnTranspose ∈ jtbl := jmem_0 4 (by decide +kernel) rfl
abbrev jc_Main_heldTables : ByteArray := prog_1_method_53_code
abbrev jy_Main_heldTables : MethodName := ⟨"YesNoPowers", "heldTables", "()I"⟩
set_option maxRecDepth 100000 in
theorem jm_Main_heldTables : jMi jy_Main_heldTables jc_Main_heldTables 3 (some .int) 0 := ⟨jmem_1 1 (by decide +kernel) rfl, jmem_4 80 (by rfl) rfl, ⟨jne_Main.1, jne_Main.2, by decide +kernel⟩, by decide, plainFor_of_name jpn_Main⟩
theorem ji_Main_heldTables : Cond.instanceMethod jy_Main_heldTables ∈ jtbl := jmem_4 79 (by decide +kernel) rfl
theorem js_Main_heldTables : Cond.selects jy_Main_heldTables.cls jy_Main_heldTables jy_Main_heldTables ∈ jtbl := jmem_0 24 (by decide +kernel) rfl
abbrev jc_Main_presentSheets : ByteArray := prog_1_method_54_code
abbrev jy_Main_presentSheets : MethodName := ⟨"YesNoPowers", "presentSheets", "()I"⟩
set_option maxRecDepth 100000 in
theorem jm_Main_presentSheets : jMi jy_Main_presentSheets jc_Main_presentSheets 3 (some .int) 0 := ⟨jmem_1 1 (by decide +kernel) rfl, jmem_4 84 (by rfl) rfl, ⟨jne_Main.1, jne_Main.2, by decide +kernel⟩, by decide, plainFor_of_name jpn_Main⟩
theorem ji_Main_presentSheets : Cond.instanceMethod jy_Main_presentSheets ∈ jtbl := jmem_4 83 (by decide +kernel) rfl
theorem js_Main_presentSheets : Cond.selects jy_Main_presentSheets.cls jy_Main_presentSheets jy_Main_presentSheets ∈ jtbl := jmem_0 25 (by decide +kernel) rfl
abbrev jc_Model_in : ByteArray := prog_12_method_2_code
abbrev jy_Model_in : MethodName := ⟨"YesNoPowersModel", "in", "(JJJ)Z"⟩
set_option maxRecDepth 100000 in
theorem jm_Model_in : jMi jy_Model_in jc_Model_in 6 (some .boolean) 3 := ⟨jmem_1 10 (by decide +kernel) rfl, jmem_4 183 (by rfl) rfl, ⟨jne_Model.1, jne_Model.2, by decide +kernel⟩, by decide, plainFor_of_name jpn_Model⟩
theorem js_Model_in : Cond.static jy_Model_in ∈ jtbl := jmem_4 182 (by decide +kernel) rfl
abbrev jc_Model_bits : ByteArray := prog_12_method_3_code
abbrev jy_Model_bits : MethodName := ⟨"YesNoPowersModel", "bits", "(I)I"⟩
set_option maxRecDepth 100000 in
theorem jm_Model_bits : jMi jy_Model_bits jc_Model_bits 3 (some .int) 1 := ⟨jmem_1 10 (by decide +kernel) rfl, jmem_5 112 (by rfl) rfl, ⟨jne_Model.1, jne_Model.2, by decide +kernel⟩, by decide, plainFor_of_name jpn_Model⟩
theorem js_Model_bits : Cond.static jy_Model_bits ∈ jtbl := jmem_5 111 (by decide +kernel) rfl
abbrev jc_Model_isSlot : ByteArray := prog_12_method_4_code
abbrev jy_Model_isSlot : MethodName := ⟨"YesNoPowersModel", "isSlot", "(I)Z"⟩
set_option maxRecDepth 100000 in
theorem jm_Model_isSlot : jMi jy_Model_isSlot jc_Model_isSlot 1 (some .boolean) 1 := ⟨jmem_1 10 (by decide +kernel) rfl, jmem_4 179 (by rfl) rfl, ⟨jne_Model.1, jne_Model.2, by decide +kernel⟩, by decide, plainFor_of_name jpn_Model⟩
theorem js_Model_isSlot : Cond.static jy_Model_isSlot ∈ jtbl := jmem_4 178 (by decide +kernel) rfl
abbrev jc_Model_holds : ByteArray := prog_12_method_5_code
abbrev jy_Model_holds : MethodName := ⟨"YesNoPowersModel", "holds", "(I)Z"⟩
set_option maxRecDepth 100000 in
theorem jm_Model_holds : jMi jy_Model_holds jc_Model_holds 2 (some .boolean) 1 := ⟨jmem_1 10 (by decide +kernel) rfl, jmem_4 204 (by rfl) rfl, ⟨jne_Model.1, jne_Model.2, by decide +kernel⟩, by decide, plainFor_of_name jpn_Model⟩
theorem ji_Model_holds : Cond.instanceMethod jy_Model_holds ∈ jtbl := jmem_4 203 (by decide +kernel) rfl
theorem js_Model_holds : Cond.selects jy_Model_holds.cls jy_Model_holds jy_Model_holds ∈ jtbl := jmem_0 30 (by decide +kernel) rfl
abbrev jc_Model_isMember : ByteArray := prog_12_method_6_code
abbrev jy_Model_isMember : MethodName := ⟨"YesNoPowersModel", "isMember", "(II)Z"⟩
set_option maxRecDepth 100000 in
theorem jm_Model_isMember : jMi jy_Model_isMember jc_Model_isMember 3 (some .boolean) 2 := ⟨jmem_1 10 (by decide +kernel) rfl, jmem_4 208 (by rfl) rfl, ⟨jne_Model.1, jne_Model.2, by decide +kernel⟩, by decide, plainFor_of_name jpn_Model⟩
theorem ji_Model_isMember : Cond.instanceMethod jy_Model_isMember ∈ jtbl := jmem_4 207 (by decide +kernel) rfl
theorem js_Model_isMember : Cond.selects jy_Model_isMember.cls jy_Model_isMember jy_Model_isMember ∈ jtbl := jmem_0 31 (by decide +kernel) rfl
abbrev jc_Model_isSet : ByteArray := prog_12_method_7_code
abbrev jy_Model_isSet : MethodName := ⟨"YesNoPowersModel", "isSet", "(II)Z"⟩
set_option maxRecDepth 100000 in
theorem jm_Model_isSet : jMi jy_Model_isSet jc_Model_isSet 3 (some .boolean) 2 := ⟨jmem_1 10 (by decide +kernel) rfl, jmem_4 236 (by rfl) rfl, ⟨jne_Model.1, jne_Model.2, by decide +kernel⟩, by decide, plainFor_of_name jpn_Model⟩
theorem ji_Model_isSet : Cond.instanceMethod jy_Model_isSet ∈ jtbl := jmem_4 235 (by decide +kernel) rfl
theorem js_Model_isSet : Cond.selects jy_Model_isSet.cls jy_Model_isSet jy_Model_isSet ∈ jtbl := jmem_0 35 (by decide +kernel) rfl
abbrev jc_Model_row : ByteArray := prog_12_method_8_code
abbrev jy_Model_row : MethodName := ⟨"YesNoPowersModel", "row", "(II)I"⟩
set_option maxRecDepth 100000 in
theorem jm_Model_row : jMi jy_Model_row jc_Model_row 3 (some .int) 2 := ⟨jmem_1 10 (by decide +kernel) rfl, jmem_4 216 (by rfl) rfl, ⟨jne_Model.1, jne_Model.2, by decide +kernel⟩, by decide, plainFor_of_name jpn_Model⟩
theorem ji_Model_row : Cond.instanceMethod jy_Model_row ∈ jtbl := jmem_4 215 (by decide +kernel) rfl
theorem js_Model_row : Cond.selects jy_Model_row.cls jy_Model_row jy_Model_row ∈ jtbl := jmem_0 33 (by decide +kernel) rfl
abbrev jc_Model_leads : ByteArray := prog_12_method_9_code
abbrev jy_Model_leads : MethodName := ⟨"YesNoPowersModel", "leads", "(III)Z"⟩
set_option maxRecDepth 100000 in
theorem jm_Model_leads : jMi jy_Model_leads jc_Model_leads 4 (some .boolean) 3 := ⟨jmem_1 10 (by decide +kernel) rfl, jmem_4 212 (by rfl) rfl, ⟨jne_Model.1, jne_Model.2, by decide +kernel⟩, by decide, plainFor_of_name jpn_Model⟩
theorem ji_Model_leads : Cond.instanceMethod jy_Model_leads ∈ jtbl := jmem_4 211 (by decide +kernel) rfl
theorem js_Model_leads : Cond.selects jy_Model_leads.cls jy_Model_leads jy_Model_leads ∈ jtbl := jmem_0 32 (by decide +kernel) rfl
abbrev jc_Model_column : ByteArray := prog_12_method_10_code
abbrev jy_Model_column : MethodName := ⟨"YesNoPowersModel", "column", "(II)I"⟩
set_option maxRecDepth 100000 in
theorem jm_Model_column : jMi jy_Model_column jc_Model_column 5 (some .int) 2 := ⟨jmem_1 10 (by decide +kernel) rfl, jmem_4 228 (by rfl) rfl, ⟨jne_Model.1, jne_Model.2, by decide +kernel⟩, by decide, plainFor_of_name jpn_Model⟩
theorem ji_Model_column : Cond.instanceMethod jy_Model_column ∈ jtbl := jmem_4 227 (by decide +kernel) rfl
theorem js_Model_column : Cond.selects jy_Model_column.cls jy_Model_column jy_Model_column ∈ jtbl := jmem_0 34 (by decide +kernel) rfl
abbrev jc_Model_copyTo : ByteArray := prog_12_method_11_code
abbrev jy_Model_copyTo : MethodName := ⟨"YesNoPowersModel", "copyTo", "(II)V"⟩
set_option maxRecDepth 100000 in
theorem jm_Model_copyTo : jMi jy_Model_copyTo jc_Model_copyTo 4 none 2 := ⟨jmem_1 10 (by decide +kernel) rfl, jmem_4 172 (by rfl) rfl, ⟨jne_Model.1, jne_Model.2, by decide +kernel⟩, by decide, plainFor_of_name jpn_Model⟩
theorem ji_Model_copyTo : Cond.instanceMethod jy_Model_copyTo ∈ jtbl := jmem_4 171 (by decide +kernel) rfl
theorem js_Model_copyTo : Cond.selects jy_Model_copyTo.cls jy_Model_copyTo jy_Model_copyTo ∈ jtbl := jmem_0 26 (by decide +kernel) rfl
abbrev jc_Model_areSame : ByteArray := prog_12_method_12_code
abbrev jy_Model_areSame : MethodName := ⟨"YesNoPowersModel", "areSame", "(II)Z"⟩
set_option maxRecDepth 100000 in
theorem jm_Model_areSame : jMi jy_Model_areSame jc_Model_areSame 5 (some .boolean) 2 := ⟨jmem_1 10 (by decide +kernel) rfl, jmem_5 57 (by rfl) rfl, ⟨jne_Model.1, jne_Model.2, by decide +kernel⟩, by decide, plainFor_of_name jpn_Model⟩
theorem ji_Model_areSame : Cond.instanceMethod jy_Model_areSame ∈ jtbl := jmem_5 56 (by decide +kernel) rfl
theorem js_Model_areSame : Cond.selects jy_Model_areSame.cls jy_Model_areSame jy_Model_areSame ∈ jtbl := jmem_0 44 (by decide +kernel) rfl
abbrev jc_Model_empty : ByteArray := prog_12_method_13_code
abbrev jy_Model_empty : MethodName := ⟨"YesNoPowersModel", "empty", "(II)V"⟩
set_option maxRecDepth 100000 in
theorem jm_Model_empty : jMi jy_Model_empty jc_Model_empty 4 none 2 := ⟨jmem_1 10 (by decide +kernel) rfl, jmem_4 188 (by rfl) rfl, ⟨jne_Model.1, jne_Model.2, by decide +kernel⟩, by decide, plainFor_of_name jpn_Model⟩
theorem ji_Model_empty : Cond.instanceMethod jy_Model_empty ∈ jtbl := jmem_4 187 (by decide +kernel) rfl
theorem js_Model_empty : Cond.selects jy_Model_empty.cls jy_Model_empty jy_Model_empty ∈ jtbl := jmem_0 27 (by decide +kernel) rfl
abbrev jc_Model_unit : ByteArray := prog_12_method_14_code
abbrev jy_Model_unit : MethodName := ⟨"YesNoPowersModel", "unit", "(II)V"⟩
set_option maxRecDepth 100000 in
theorem jm_Model_unit : jMi jy_Model_unit jc_Model_unit 4 none 2 := ⟨jmem_1 10 (by decide +kernel) rfl, jmem_5 25 (by rfl) rfl, ⟨jne_Model.1, jne_Model.2, by decide +kernel⟩, by decide, plainFor_of_name jpn_Model⟩
theorem ji_Model_unit : Cond.instanceMethod jy_Model_unit ∈ jtbl := jmem_5 24 (by decide +kernel) rfl
theorem js_Model_unit : Cond.selects jy_Model_unit.cls jy_Model_unit jy_Model_unit ∈ jtbl := jmem_0 39 (by decide +kernel) rfl
abbrev jc_Model_multiply : ByteArray := prog_12_method_15_code
abbrev jy_Model_multiply : MethodName := ⟨"YesNoPowersModel", "multiply", "(III)V"⟩
set_option maxRecDepth 100000 in
theorem jm_Model_multiply : jMi jy_Model_multiply jc_Model_multiply 7 none 3 := ⟨jmem_1 10 (by decide +kernel) rfl, jmem_5 4 (by rfl) rfl, ⟨jne_Model.1, jne_Model.2, by decide +kernel⟩, by decide, plainFor_of_name jpn_Model⟩
theorem ji_Model_multiply : Cond.instanceMethod jy_Model_multiply ∈ jtbl := jmem_5 3 (by decide +kernel) rfl
theorem js_Model_multiply : Cond.selects jy_Model_multiply.cls jy_Model_multiply jy_Model_multiply ∈ jtbl := jmem_0 36 (by decide +kernel) rfl
abbrev jc_Model_transpose : ByteArray := prog_12_method_16_code
abbrev jy_Model_transpose : MethodName := ⟨"YesNoPowersModel", "transpose", "(II)V"⟩
set_option maxRecDepth 100000 in
theorem jm_Model_transpose : jMi jy_Model_transpose jc_Model_transpose 4 none 2 := ⟨jmem_1 10 (by decide +kernel) rfl, jmem_5 33 (by rfl) rfl, ⟨jne_Model.1, jne_Model.2, by decide +kernel⟩, by decide, plainFor_of_name jpn_Model⟩
theorem ji_Model_transpose : Cond.instanceMethod jy_Model_transpose ∈ jtbl := jmem_5 32 (by decide +kernel) rfl
theorem js_Model_transpose : Cond.selects jy_Model_transpose.cls jy_Model_transpose jy_Model_transpose ∈ jtbl := jmem_0 40 (by decide +kernel) rfl
abbrev jc_Model_complement : ByteArray := prog_12_method_17_code
abbrev jy_Model_complement : MethodName := ⟨"YesNoPowersModel", "complement", "(I)V"⟩
set_option maxRecDepth 100000 in
theorem jm_Model_complement : jMi jy_Model_complement jc_Model_complement 3 none 1 := ⟨jmem_1 10 (by decide +kernel) rfl, jmem_5 37 (by rfl) rfl, ⟨jne_Model.1, jne_Model.2, by decide +kernel⟩, by decide, plainFor_of_name jpn_Model⟩
theorem ji_Model_complement : Cond.instanceMethod jy_Model_complement ∈ jtbl := jmem_5 36 (by decide +kernel) rfl
theorem js_Model_complement : Cond.selects jy_Model_complement.cls jy_Model_complement jy_Model_complement ∈ jtbl := jmem_0 41 (by decide +kernel) rfl
abbrev jc_Model_addTo : ByteArray := prog_12_method_18_code
abbrev jy_Model_addTo : MethodName := ⟨"YesNoPowersModel", "addTo", "(II)V"⟩
set_option maxRecDepth 100000 in
theorem jm_Model_addTo : jMi jy_Model_addTo jc_Model_addTo 4 none 2 := ⟨jmem_1 10 (by decide +kernel) rfl, jmem_5 12 (by rfl) rfl, ⟨jne_Model.1, jne_Model.2, by decide +kernel⟩, by decide, plainFor_of_name jpn_Model⟩
theorem ji_Model_addTo : Cond.instanceMethod jy_Model_addTo ∈ jtbl := jmem_5 11 (by decide +kernel) rfl
theorem js_Model_addTo : Cond.selects jy_Model_addTo.cls jy_Model_addTo jy_Model_addTo ∈ jtbl := jmem_0 37 (by decide +kernel) rfl
abbrev jc_Model_meetWith : ByteArray := prog_12_method_19_code
abbrev jy_Model_meetWith : MethodName := ⟨"YesNoPowersModel", "meetWith", "(II)V"⟩
set_option maxRecDepth 100000 in
theorem jm_Model_meetWith : jMi jy_Model_meetWith jc_Model_meetWith 4 none 2 := ⟨jmem_1 10 (by decide +kernel) rfl, jmem_6 30 (by rfl) rfl, ⟨jne_Model.1, jne_Model.2, by decide +kernel⟩, by decide, plainFor_of_name jpn_Model⟩
theorem ji_Model_meetWith : Cond.instanceMethod jy_Model_meetWith ∈ jtbl := jmem_6 29 (by decide +kernel) rfl
theorem js_Model_meetWith : Cond.selects jy_Model_meetWith.cls jy_Model_meetWith jy_Model_meetWith ∈ jtbl := jmem_0 74 (by decide +kernel) rfl
abbrev jc_Model_powerTo : ByteArray := prog_12_method_20_code
abbrev jy_Model_powerTo : MethodName := ⟨"YesNoPowersModel", "powerTo", "(III)V"⟩
set_option maxRecDepth 100000 in
theorem jm_Model_powerTo : jMi jy_Model_powerTo jc_Model_powerTo 5 none 3 := ⟨jmem_1 10 (by decide +kernel) rfl, jmem_5 21 (by rfl) rfl, ⟨jne_Model.1, jne_Model.2, by decide +kernel⟩, by decide, plainFor_of_name jpn_Model⟩
theorem ji_Model_powerTo : Cond.instanceMethod jy_Model_powerTo ∈ jtbl := jmem_5 20 (by decide +kernel) rfl
theorem js_Model_powerTo : Cond.selects jy_Model_powerTo.cls jy_Model_powerTo jy_Model_powerTo ∈ jtbl := jmem_0 38 (by decide +kernel) rfl
abbrev jc_Model_closureTo : ByteArray := prog_12_method_21_code
abbrev jy_Model_closureTo : MethodName := ⟨"YesNoPowersModel", "closureTo", "(II)V"⟩
set_option maxRecDepth 100000 in
theorem jm_Model_closureTo : jMi jy_Model_closureTo jc_Model_closureTo 4 none 2 := ⟨jmem_1 10 (by decide +kernel) rfl, jmem_5 41 (by rfl) rfl, ⟨jne_Model.1, jne_Model.2, by decide +kernel⟩, by decide, plainFor_of_name jpn_Model⟩
theorem ji_Model_closureTo : Cond.instanceMethod jy_Model_closureTo ∈ jtbl := jmem_5 40 (by decide +kernel) rfl
theorem js_Model_closureTo : Cond.selects jy_Model_closureTo.cls jy_Model_closureTo jy_Model_closureTo ∈ jtbl := jmem_0 42 (by decide +kernel) rfl
abbrev jc_Model_greatestTo : ByteArray := prog_12_method_22_code
abbrev jy_Model_greatestTo : MethodName := ⟨"YesNoPowersModel", "greatestTo", "(II)V"⟩
set_option maxRecDepth 100000 in
theorem jm_Model_greatestTo : jMi jy_Model_greatestTo jc_Model_greatestTo 3 none 2 := ⟨jmem_1 10 (by decide +kernel) rfl, jmem_5 45 (by rfl) rfl, ⟨jne_Model.1, jne_Model.2, by decide +kernel⟩, by decide, plainFor_of_name jpn_Model⟩
theorem ji_Model_greatestTo : Cond.instanceMethod jy_Model_greatestTo ∈ jtbl := jmem_5 44 (by decide +kernel) rfl
theorem js_Model_greatestTo : Cond.selects jy_Model_greatestTo.cls jy_Model_greatestTo jy_Model_greatestTo ∈ jtbl := jmem_0 43 (by decide +kernel) rfl
abbrev jc_Model_logs : ByteArray := prog_12_method_23_code
abbrev jy_Model_logs : MethodName := ⟨"YesNoPowersModel", "logs", "(I)V"⟩
set_option maxRecDepth 100000 in
theorem jm_Model_logs : jMi jy_Model_logs jc_Model_logs 3 none 1 := ⟨jmem_1 10 (by decide +kernel) rfl, jmem_4 196 (by rfl) rfl, ⟨jne_Model.1, jne_Model.2, by decide +kernel⟩, by decide, plainFor_of_name jpn_Model⟩
theorem ji_Model_logs : Cond.instanceMethod jy_Model_logs ∈ jtbl := jmem_4 195 (by decide +kernel) rfl
theorem js_Model_logs : Cond.selects jy_Model_logs.cls jy_Model_logs jy_Model_logs ∈ jtbl := jmem_0 29 (by decide +kernel) rfl
abbrev jc_Model_comes : ByteArray := prog_12_method_24_code
abbrev jy_Model_comes : MethodName := ⟨"YesNoPowersModel", "comes", "(I)I"⟩
set_option maxRecDepth 100000 in
theorem jm_Model_comes : jMi jy_Model_comes jc_Model_comes 2 (some .int) 1 := ⟨jmem_1 10 (by decide +kernel) rfl, jmem_4 192 (by rfl) rfl, ⟨jne_Model.1, jne_Model.2, by decide +kernel⟩, by decide, plainFor_of_name jpn_Model⟩
theorem ji_Model_comes : Cond.instanceMethod jy_Model_comes ∈ jtbl := jmem_4 191 (by decide +kernel) rfl
theorem js_Model_comes : Cond.selects jy_Model_comes.cls jy_Model_comes jy_Model_comes ∈ jtbl := jmem_0 28 (by decide +kernel) rfl
abbrev jc_Model_undo : ByteArray := prog_12_method_25_code
abbrev jy_Model_undo : MethodName := ⟨"YesNoPowersModel", "undo", "()I"⟩
set_option maxRecDepth 100000 in
theorem jm_Model_undo : jMi jy_Model_undo jc_Model_undo 1 (some .int) 0 := ⟨jmem_1 10 (by decide +kernel) rfl, jmem_4 168 (by rfl) rfl, ⟨jne_Model.1, jne_Model.2, by decide +kernel⟩, by decide, plainFor_of_name jpn_Model⟩
theorem ji_Model_undo : Cond.instanceMethod jy_Model_undo ∈ jtbl := jmem_4 166 (by decide +kernel) rfl
theorem js_Model_undo : Cond.selects jy_Model_undo.cls jy_Model_undo jy_Model_undo ∈ jtbl := jmem_4 167 (by decide +kernel) rfl
abbrev jc_Model_make : ByteArray := prog_12_method_26_code
abbrev jy_Model_make : MethodName := ⟨"YesNoPowersModel", "make", "(III)I"⟩
set_option maxRecDepth 100000 in
theorem jm_Model_make : jMi jy_Model_make jc_Model_make 6 (some .int) 3 := ⟨jmem_1 10 (by decide +kernel) rfl, jmem_4 176 (by rfl) rfl, ⟨jne_Model.1, jne_Model.2, by decide +kernel⟩, by decide, plainFor_of_name jpn_Model⟩
theorem ji_Model_make : Cond.instanceMethod jy_Model_make ∈ jtbl := jmem_4 174 (by decide +kernel) rfl
theorem js_Model_make : Cond.selects jy_Model_make.cls jy_Model_make jy_Model_make ∈ jtbl := jmem_4 175 (by decide +kernel) rfl
abbrev jc_Model_put : ByteArray := prog_12_method_27_code
abbrev jy_Model_put : MethodName := ⟨"YesNoPowersModel", "put", "(IIII)I"⟩
set_option maxRecDepth 100000 in
theorem jm_Model_put : jMi jy_Model_put jc_Model_put 6 (some .int) 4 := ⟨jmem_1 10 (by decide +kernel) rfl, jmem_4 200 (by rfl) rfl, ⟨jne_Model.1, jne_Model.2, by decide +kernel⟩, by decide, plainFor_of_name jpn_Model⟩
theorem ji_Model_put : Cond.instanceMethod jy_Model_put ∈ jtbl := jmem_4 198 (by decide +kernel) rfl
theorem js_Model_put : Cond.selects jy_Model_put.cls jy_Model_put jy_Model_put ∈ jtbl := jmem_4 199 (by decide +kernel) rfl
abbrev jc_Model_at : ByteArray := prog_12_method_28_code
abbrev jy_Model_at : MethodName := ⟨"YesNoPowersModel", "at", "(III)I"⟩
set_option maxRecDepth 100000 in
theorem jm_Model_at : jMi jy_Model_at jc_Model_at 4 (some .int) 3 := ⟨jmem_1 10 (by decide +kernel) rfl, jmem_4 220 (by rfl) rfl, ⟨jne_Model.1, jne_Model.2, by decide +kernel⟩, by decide, plainFor_of_name jpn_Model⟩
theorem ji_Model_at : Cond.instanceMethod jy_Model_at ∈ jtbl := jmem_4 218 (by decide +kernel) rfl
theorem js_Model_at : Cond.selects jy_Model_at.cls jy_Model_at jy_Model_at ∈ jtbl := jmem_4 219 (by decide +kernel) rfl
abbrev jc_Model_line : ByteArray := prog_12_method_29_code
abbrev jy_Model_line : MethodName := ⟨"YesNoPowersModel", "line", "(III)I"⟩
set_option maxRecDepth 100000 in
theorem jm_Model_line : jMi jy_Model_line jc_Model_line 4 (some .int) 3 := ⟨jmem_1 10 (by decide +kernel) rfl, jmem_4 224 (by rfl) rfl, ⟨jne_Model.1, jne_Model.2, by decide +kernel⟩, by decide, plainFor_of_name jpn_Model⟩
theorem ji_Model_line : Cond.instanceMethod jy_Model_line ∈ jtbl := jmem_4 222 (by decide +kernel) rfl
theorem js_Model_line : Cond.selects jy_Model_line.cls jy_Model_line jy_Model_line ∈ jtbl := jmem_4 223 (by decide +kernel) rfl
abbrev jc_Model_setRow : ByteArray := prog_12_method_30_code
abbrev jy_Model_setRow : MethodName := ⟨"YesNoPowersModel", "setRow", "(III)I"⟩
set_option maxRecDepth 100000 in
theorem jm_Model_setRow : jMi jy_Model_setRow jc_Model_setRow 5 (some .int) 3 := ⟨jmem_1 10 (by decide +kernel) rfl, jmem_4 232 (by rfl) rfl, ⟨jne_Model.1, jne_Model.2, by decide +kernel⟩, by decide, plainFor_of_name jpn_Model⟩
theorem ji_Model_setRow : Cond.instanceMethod jy_Model_setRow ∈ jtbl := jmem_4 230 (by decide +kernel) rfl
theorem js_Model_setRow : Cond.selects jy_Model_setRow.cls jy_Model_setRow jy_Model_setRow ∈ jtbl := jmem_4 231 (by decide +kernel) rfl
abbrev jc_Model_times : ByteArray := prog_12_method_31_code
abbrev jy_Model_times : MethodName := ⟨"YesNoPowersModel", "times", "(III)I"⟩
set_option maxRecDepth 100000 in
theorem jm_Model_times : jMi jy_Model_times jc_Model_times 4 (some .int) 3 := ⟨jmem_1 10 (by decide +kernel) rfl, jmem_5 0 (by rfl) rfl, ⟨jne_Model.1, jne_Model.2, by decide +kernel⟩, by decide, plainFor_of_name jpn_Model⟩
theorem ji_Model_times : Cond.instanceMethod jy_Model_times ∈ jtbl := jmem_4 238 (by decide +kernel) rfl
theorem js_Model_times : Cond.selects jy_Model_times.cls jy_Model_times jy_Model_times ∈ jtbl := jmem_4 239 (by decide +kernel) rfl
abbrev jc_Model_plus : ByteArray := prog_12_method_32_code
abbrev jy_Model_plus : MethodName := ⟨"YesNoPowersModel", "plus", "(III)I"⟩
set_option maxRecDepth 100000 in
theorem jm_Model_plus : jMi jy_Model_plus jc_Model_plus 4 (some .int) 3 := ⟨jmem_1 10 (by decide +kernel) rfl, jmem_5 8 (by rfl) rfl, ⟨jne_Model.1, jne_Model.2, by decide +kernel⟩, by decide, plainFor_of_name jpn_Model⟩
theorem ji_Model_plus : Cond.instanceMethod jy_Model_plus ∈ jtbl := jmem_5 6 (by decide +kernel) rfl
theorem js_Model_plus : Cond.selects jy_Model_plus.cls jy_Model_plus jy_Model_plus ∈ jtbl := jmem_5 7 (by decide +kernel) rfl
abbrev jc_Model_power : ByteArray := prog_12_method_33_code
abbrev jy_Model_power : MethodName := ⟨"YesNoPowersModel", "power", "(III)I"⟩
set_option maxRecDepth 100000 in
theorem jm_Model_power : jMi jy_Model_power jc_Model_power 4 (some .int) 3 := ⟨jmem_1 10 (by decide +kernel) rfl, jmem_5 16 (by rfl) rfl, ⟨jne_Model.1, jne_Model.2, by decide +kernel⟩, by decide, plainFor_of_name jpn_Model⟩
theorem ji_Model_power : Cond.instanceMethod jy_Model_power ∈ jtbl := jmem_5 14 (by decide +kernel) rfl
theorem js_Model_power : Cond.selects jy_Model_power.cls jy_Model_power jy_Model_power ∈ jtbl := jmem_5 15 (by decide +kernel) rfl
abbrev jc_Model_derive : ByteArray := prog_12_method_34_code
abbrev jy_Model_derive : MethodName := ⟨"YesNoPowersModel", "derive", "(III)I"⟩
set_option maxRecDepth 100000 in
theorem jm_Model_derive : jMi jy_Model_derive jc_Model_derive 4 (some .int) 3 := ⟨jmem_1 10 (by decide +kernel) rfl, jmem_5 29 (by rfl) rfl, ⟨jne_Model.1, jne_Model.2, by decide +kernel⟩, by decide, plainFor_of_name jpn_Model⟩
theorem ji_Model_derive : Cond.instanceMethod jy_Model_derive ∈ jtbl := jmem_5 27 (by decide +kernel) rfl
theorem js_Model_derive : Cond.selects jy_Model_derive.cls jy_Model_derive jy_Model_derive ∈ jtbl := jmem_5 28 (by decide +kernel) rfl
abbrev jc_Model_clear : ByteArray := prog_12_method_35_code
abbrev jy_Model_clear : MethodName := ⟨"YesNoPowersModel", "clear", "(I)I"⟩
set_option maxRecDepth 100000 in
theorem jm_Model_clear : jMi jy_Model_clear jc_Model_clear 3 (some .int) 1 := ⟨jmem_1 10 (by decide +kernel) rfl, jmem_5 49 (by rfl) rfl, ⟨jne_Model.1, jne_Model.2, by decide +kernel⟩, by decide, plainFor_of_name jpn_Model⟩
theorem ji_Model_clear : Cond.instanceMethod jy_Model_clear ∈ jtbl := jmem_5 47 (by decide +kernel) rfl
theorem js_Model_clear : Cond.selects jy_Model_clear.cls jy_Model_clear jy_Model_clear ∈ jtbl := jmem_5 48 (by decide +kernel) rfl
abbrev jc_Model_same : ByteArray := prog_12_method_36_code
abbrev jy_Model_same : MethodName := ⟨"YesNoPowersModel", "same", "(II)I"⟩
set_option maxRecDepth 100000 in
theorem jm_Model_same : jMi jy_Model_same jc_Model_same 3 (some .int) 2 := ⟨jmem_1 10 (by decide +kernel) rfl, jmem_5 53 (by rfl) rfl, ⟨jne_Model.1, jne_Model.2, by decide +kernel⟩, by decide, plainFor_of_name jpn_Model⟩
theorem ji_Model_same : Cond.instanceMethod jy_Model_same ∈ jtbl := jmem_5 51 (by decide +kernel) rfl
theorem js_Model_same : Cond.selects jy_Model_same.cls jy_Model_same jy_Model_same ∈ jtbl := jmem_5 52 (by decide +kernel) rfl
abbrev jc_Model_load : ByteArray := prog_12_method_37_code
abbrev jy_Model_load : MethodName := ⟨"YesNoPowersModel", "load", "(IIII)I"⟩
set_option maxRecDepth 100000 in
theorem jm_Model_load : jMi jy_Model_load jc_Model_load 7 (some .int) 4 := ⟨jmem_1 10 (by decide +kernel) rfl, jmem_5 61 (by rfl) rfl, ⟨jne_Model.1, jne_Model.2, by decide +kernel⟩, by decide, plainFor_of_name jpn_Model⟩
theorem ji_Model_load : Cond.instanceMethod jy_Model_load ∈ jtbl := jmem_5 59 (by decide +kernel) rfl
theorem js_Model_load : Cond.selects jy_Model_load.cls jy_Model_load jy_Model_load ∈ jtbl := jmem_5 60 (by decide +kernel) rfl
abbrev jc_Model_spill : ByteArray := prog_12_method_38_code
abbrev jy_Model_spill : MethodName := ⟨"YesNoPowersModel", "spill", "(III)I"⟩
set_option maxRecDepth 100000 in
theorem jm_Model_spill : jMi jy_Model_spill jc_Model_spill 5 (some .int) 3 := ⟨jmem_1 10 (by decide +kernel) rfl, jmem_5 68 (by rfl) rfl, ⟨jne_Model.1, jne_Model.2, by decide +kernel⟩, by decide, plainFor_of_name jpn_Model⟩
theorem ji_Model_spill : Cond.instanceMethod jy_Model_spill ∈ jtbl := jmem_5 66 (by decide +kernel) rfl
theorem js_Model_spill : Cond.selects jy_Model_spill.cls jy_Model_spill jy_Model_spill ∈ jtbl := jmem_5 67 (by decide +kernel) rfl
abbrev jc_Model_isPower : ByteArray := prog_12_method_39_code
abbrev jy_Model_isPower : MethodName := ⟨"YesNoPowersModel", "isPower", "(II)Z"⟩
set_option maxRecDepth 100000 in
theorem jm_Model_isPower : jMi jy_Model_isPower jc_Model_isPower 5 (some .boolean) 2 := ⟨jmem_1 10 (by decide +kernel) rfl, jmem_5 85 (by rfl) rfl, ⟨jne_Model.1, jne_Model.2, by decide +kernel⟩, by decide, plainFor_of_name jpn_Model⟩
theorem ji_Model_isPower : Cond.instanceMethod jy_Model_isPower ∈ jtbl := jmem_5 84 (by decide +kernel) rfl
theorem js_Model_isPower : Cond.selects jy_Model_isPower.cls jy_Model_isPower jy_Model_isPower ∈ jtbl := jmem_0 47 (by decide +kernel) rfl
abbrev jc_Model_layPowers : ByteArray := prog_12_method_40_code
abbrev jy_Model_layPowers : MethodName := ⟨"YesNoPowersModel", "layPowers", "(I)V"⟩
set_option maxRecDepth 100000 in
theorem jm_Model_layPowers : jMi jy_Model_layPowers jc_Model_layPowers 4 none 1 := ⟨jmem_1 10 (by decide +kernel) rfl, jmem_5 81 (by rfl) rfl, ⟨jne_Model.1, jne_Model.2, by decide +kernel⟩, by decide, plainFor_of_name jpn_Model⟩
theorem ji_Model_layPowers : Cond.instanceMethod jy_Model_layPowers ∈ jtbl := jmem_5 80 (by decide +kernel) rfl
theorem js_Model_layPowers : Cond.selects jy_Model_layPowers.cls jy_Model_layPowers jy_Model_layPowers ∈ jtbl := jmem_0 46 (by decide +kernel) rfl
abbrev jc_Model_spot : ByteArray := prog_12_method_41_code
abbrev jy_Model_spot : MethodName := ⟨"YesNoPowersModel", "spot", "(I)I"⟩
set_option maxRecDepth 100000 in
theorem jm_Model_spot : jMi jy_Model_spot jc_Model_spot 2 (some .int) 1 := ⟨jmem_1 10 (by decide +kernel) rfl, jmem_5 93 (by rfl) rfl, ⟨jne_Model.1, jne_Model.2, by decide +kernel⟩, by decide, plainFor_of_name jpn_Model⟩
theorem ji_Model_spot : Cond.instanceMethod jy_Model_spot ∈ jtbl := jmem_5 92 (by decide +kernel) rfl
theorem js_Model_spot : Cond.selects jy_Model_spot.cls jy_Model_spot jy_Model_spot ∈ jtbl := jmem_0 49 (by decide +kernel) rfl
abbrev jc_Model_idempotent : ByteArray := prog_12_method_42_code
abbrev jy_Model_idempotent : MethodName := ⟨"YesNoPowersModel", "idempotent", "()I"⟩
set_option maxRecDepth 100000 in
theorem jm_Model_idempotent : jMi jy_Model_idempotent jc_Model_idempotent 2 (some .int) 0 := ⟨jmem_1 10 (by decide +kernel) rfl, jmem_5 89 (by rfl) rfl, ⟨jne_Model.1, jne_Model.2, by decide +kernel⟩, by decide, plainFor_of_name jpn_Model⟩
theorem ji_Model_idempotent : Cond.instanceMethod jy_Model_idempotent ∈ jtbl := jmem_5 88 (by decide +kernel) rfl
theorem js_Model_idempotent : Cond.selects jy_Model_idempotent.cls jy_Model_idempotent jy_Model_idempotent ∈ jtbl := jmem_0 48 (by decide +kernel) rfl
abbrev jc_Model_exponent : ByteArray := prog_12_method_43_code
abbrev jy_Model_exponent : MethodName := ⟨"YesNoPowersModel", "exponent", "(I)I"⟩
set_option maxRecDepth 100000 in
theorem jm_Model_exponent : jMi jy_Model_exponent jc_Model_exponent 5 (some .int) 1 := ⟨jmem_1 10 (by decide +kernel) rfl, jmem_5 97 (by rfl) rfl, ⟨jne_Model.1, jne_Model.2, by decide +kernel⟩, by decide, plainFor_of_name jpn_Model⟩
theorem ji_Model_exponent : Cond.instanceMethod jy_Model_exponent ∈ jtbl := jmem_5 96 (by decide +kernel) rfl
theorem js_Model_exponent : Cond.selects jy_Model_exponent.cls jy_Model_exponent jy_Model_exponent ∈ jtbl := jmem_0 50 (by decide +kernel) rfl
abbrev jc_Model_onesIn : ByteArray := prog_12_method_44_code
abbrev jy_Model_onesIn : MethodName := ⟨"YesNoPowersModel", "onesIn", "(I)I"⟩
set_option maxRecDepth 100000 in
theorem jm_Model_onesIn : jMi jy_Model_onesIn jc_Model_onesIn 4 (some .int) 1 := ⟨jmem_1 10 (by decide +kernel) rfl, jmem_5 109 (by rfl) rfl, ⟨jne_Model.1, jne_Model.2, by decide +kernel⟩, by decide, plainFor_of_name jpn_Model⟩
theorem ji_Model_onesIn : Cond.instanceMethod jy_Model_onesIn ∈ jtbl := jmem_5 108 (by decide +kernel) rfl
theorem js_Model_onesIn : Cond.selects jy_Model_onesIn.cls jy_Model_onesIn jy_Model_onesIn ∈ jtbl := jmem_0 53 (by decide +kernel) rfl
abbrev jc_Model_isOwnSquare : ByteArray := prog_12_method_45_code
abbrev jy_Model_isOwnSquare : MethodName := ⟨"YesNoPowersModel", "isOwnSquare", "(I)Z"⟩
set_option maxRecDepth 100000 in
theorem jm_Model_isOwnSquare : jMi jy_Model_isOwnSquare jc_Model_isOwnSquare 2 (some .boolean) 1 := ⟨jmem_1 10 (by decide +kernel) rfl, jmem_5 101 (by rfl) rfl, ⟨jne_Model.1, jne_Model.2, by decide +kernel⟩, by decide, plainFor_of_name jpn_Model⟩
theorem ji_Model_isOwnSquare : Cond.instanceMethod jy_Model_isOwnSquare ∈ jtbl := jmem_5 100 (by decide +kernel) rfl
theorem js_Model_isOwnSquare : Cond.selects jy_Model_isOwnSquare.cls jy_Model_isOwnSquare jy_Model_isOwnSquare ∈ jtbl := jmem_0 51 (by decide +kernel) rfl
abbrev jc_Model_isTurned : ByteArray := prog_12_method_46_code
abbrev jy_Model_isTurned : MethodName := ⟨"YesNoPowersModel", "isTurned", "(I)Z"⟩
set_option maxRecDepth 100000 in
theorem jm_Model_isTurned : jMi jy_Model_isTurned jc_Model_isTurned 2 (some .boolean) 1 := ⟨jmem_1 10 (by decide +kernel) rfl, jmem_5 105 (by rfl) rfl, ⟨jne_Model.1, jne_Model.2, by decide +kernel⟩, by decide, plainFor_of_name jpn_Model⟩
theorem ji_Model_isTurned : Cond.instanceMethod jy_Model_isTurned ∈ jtbl := jmem_5 104 (by decide +kernel) rfl
theorem js_Model_isTurned : Cond.selects jy_Model_isTurned.cls jy_Model_isTurned jy_Model_isTurned ∈ jtbl := jmem_0 52 (by decide +kernel) rfl
abbrev jc_Model_told : ByteArray := prog_12_method_47_code
abbrev jy_Model_told : MethodName := ⟨"YesNoPowersModel", "told", "(II)I"⟩
set_option maxRecDepth 100000 in
theorem jm_Model_told : jMi jy_Model_told jc_Model_told 4 (some .int) 2 := ⟨jmem_1 10 (by decide +kernel) rfl, jmem_5 76 (by rfl) rfl, ⟨jne_Model.1, jne_Model.2, by decide +kernel⟩, by decide, plainFor_of_name jpn_Model⟩
theorem ji_Model_told : Cond.instanceMethod jy_Model_told ∈ jtbl := jmem_5 74 (by decide +kernel) rfl
theorem js_Model_told : Cond.selects jy_Model_told.cls jy_Model_told jy_Model_told ∈ jtbl := jmem_5 75 (by decide +kernel) rfl
abbrev jc_Model_reaches : ByteArray := prog_12_method_48_code
abbrev jy_Model_reaches : MethodName := ⟨"YesNoPowersModel", "reaches", "(II)I"⟩
set_option maxRecDepth 100000 in
theorem jm_Model_reaches : jMi jy_Model_reaches jc_Model_reaches 4 (some .int) 2 := ⟨jmem_1 10 (by decide +kernel) rfl, jmem_5 116 (by rfl) rfl, ⟨jne_Model.1, jne_Model.2, by decide +kernel⟩, by decide, plainFor_of_name jpn_Model⟩
theorem ji_Model_reaches : Cond.instanceMethod jy_Model_reaches ∈ jtbl := jmem_5 114 (by decide +kernel) rfl
theorem js_Model_reaches : Cond.selects jy_Model_reaches.cls jy_Model_reaches jy_Model_reaches ∈ jtbl := jmem_5 115 (by decide +kernel) rfl
abbrev jc_Model_layWalks : ByteArray := prog_12_method_49_code
abbrev jy_Model_layWalks : MethodName := ⟨"YesNoPowersModel", "layWalks", "(I)V"⟩
set_option maxRecDepth 100000 in
theorem jm_Model_layWalks : jMi jy_Model_layWalks jc_Model_layWalks 7 none 1 := ⟨jmem_1 10 (by decide +kernel) rfl, jmem_5 124 (by rfl) rfl, ⟨jne_Model.1, jne_Model.2, by decide +kernel⟩, by decide, plainFor_of_name jpn_Model⟩
theorem ji_Model_layWalks : Cond.instanceMethod jy_Model_layWalks ∈ jtbl := jmem_5 123 (by decide +kernel) rfl
theorem js_Model_layWalks : Cond.selects jy_Model_layWalks.cls jy_Model_layWalks jy_Model_layWalks ∈ jtbl := jmem_0 54 (by decide +kernel) rfl
abbrev jc_Model_membersOf : ByteArray := prog_12_method_50_code
abbrev jy_Model_membersOf : MethodName := ⟨"YesNoPowersModel", "membersOf", "(II)I"⟩
set_option maxRecDepth 100000 in
theorem jm_Model_membersOf : jMi jy_Model_membersOf jc_Model_membersOf 5 (some .int) 2 := ⟨jmem_1 10 (by decide +kernel) rfl, jmem_5 144 (by rfl) rfl, ⟨jne_Model.1, jne_Model.2, by decide +kernel⟩, by decide, plainFor_of_name jpn_Model⟩
theorem ji_Model_membersOf : Cond.instanceMethod jy_Model_membersOf ∈ jtbl := jmem_5 143 (by decide +kernel) rfl
theorem js_Model_membersOf : Cond.selects jy_Model_membersOf.cls jy_Model_membersOf jy_Model_membersOf ∈ jtbl := jmem_0 57 (by decide +kernel) rfl
abbrev jc_Model_leastOf : ByteArray := prog_12_method_51_code
abbrev jy_Model_leastOf : MethodName := ⟨"YesNoPowersModel", "leastOf", "(I)I"⟩
set_option maxRecDepth 100000 in
theorem jm_Model_leastOf : jMi jy_Model_leastOf jc_Model_leastOf 3 (some .int) 1 := ⟨jmem_1 10 (by decide +kernel) rfl, jmem_5 140 (by rfl) rfl, ⟨jne_Model.1, jne_Model.2, by decide +kernel⟩, by decide, plainFor_of_name jpn_Model⟩
theorem ji_Model_leastOf : Cond.instanceMethod jy_Model_leastOf ∈ jtbl := jmem_5 139 (by decide +kernel) rfl
theorem js_Model_leastOf : Cond.selects jy_Model_leastOf.cls jy_Model_leastOf jy_Model_leastOf ∈ jtbl := jmem_0 56 (by decide +kernel) rfl
abbrev jc_Model_divisor : ByteArray := prog_12_method_52_code
abbrev jy_Model_divisor : MethodName := ⟨"YesNoPowersModel", "divisor", "(II)I"⟩
set_option maxRecDepth 100000 in
theorem jm_Model_divisor : jMi jy_Model_divisor jc_Model_divisor 5 (some .int) 2 := ⟨jmem_1 10 (by decide +kernel) rfl, jmem_5 151 (by rfl) rfl, ⟨jne_Model.1, jne_Model.2, by decide +kernel⟩, by decide, plainFor_of_name jpn_Model⟩
theorem js_Model_divisor : Cond.static jy_Model_divisor ∈ jtbl := jmem_5 150 (by decide +kernel) rfl
abbrev jc_Model_roundsOf : ByteArray := prog_12_method_53_code
abbrev jy_Model_roundsOf : MethodName := ⟨"YesNoPowersModel", "roundsOf", "(IIZ)I"⟩
set_option maxRecDepth 100000 in
theorem jm_Model_roundsOf : jMi jy_Model_roundsOf jc_Model_roundsOf 9 (some .int) 3 := ⟨jmem_1 10 (by decide +kernel) rfl, jmem_5 148 (by rfl) rfl, ⟨jne_Model.1, jne_Model.2, by decide +kernel⟩, by decide, plainFor_of_name jpn_Model⟩
theorem ji_Model_roundsOf : Cond.instanceMethod jy_Model_roundsOf ∈ jtbl := jmem_5 147 (by decide +kernel) rfl
theorem js_Model_roundsOf : Cond.selects jy_Model_roundsOf.cls jy_Model_roundsOf jy_Model_roundsOf ∈ jtbl := jmem_0 58 (by decide +kernel) rfl
abbrev jc_Model_belowOf : ByteArray := prog_12_method_54_code
abbrev jy_Model_belowOf : MethodName := ⟨"YesNoPowersModel", "belowOf", "(II)I"⟩
set_option maxRecDepth 100000 in
theorem jm_Model_belowOf : jMi jy_Model_belowOf jc_Model_belowOf 6 (some .int) 2 := ⟨jmem_1 10 (by decide +kernel) rfl, jmem_5 159 (by rfl) rfl, ⟨jne_Model.1, jne_Model.2, by decide +kernel⟩, by decide, plainFor_of_name jpn_Model⟩
theorem ji_Model_belowOf : Cond.instanceMethod jy_Model_belowOf ∈ jtbl := jmem_5 158 (by decide +kernel) rfl
theorem js_Model_belowOf : Cond.selects jy_Model_belowOf.cls jy_Model_belowOf jy_Model_belowOf ∈ jtbl := jmem_0 60 (by decide +kernel) rfl
abbrev jc_Model_levelOf : ByteArray := prog_12_method_55_code
abbrev jy_Model_levelOf : MethodName := ⟨"YesNoPowersModel", "levelOf", "(II)I"⟩
set_option maxRecDepth 100000 in
theorem jm_Model_levelOf : jMi jy_Model_levelOf jc_Model_levelOf 8 (some .int) 2 := ⟨jmem_1 10 (by decide +kernel) rfl, jmem_5 155 (by rfl) rfl, ⟨jne_Model.1, jne_Model.2, by decide +kernel⟩, by decide, plainFor_of_name jpn_Model⟩
theorem ji_Model_levelOf : Cond.instanceMethod jy_Model_levelOf ∈ jtbl := jmem_5 154 (by decide +kernel) rfl
theorem js_Model_levelOf : Cond.selects jy_Model_levelOf.cls jy_Model_levelOf jy_Model_levelOf ∈ jtbl := jmem_0 59 (by decide +kernel) rfl
abbrev jc_Model_classes : ByteArray := prog_12_method_56_code
abbrev jy_Model_classes : MethodName := ⟨"YesNoPowersModel", "classes", "(I)I"⟩
set_option maxRecDepth 100000 in
theorem jm_Model_classes : jMi jy_Model_classes jc_Model_classes 2 (some .int) 1 := ⟨jmem_1 10 (by decide +kernel) rfl, jmem_5 120 (by rfl) rfl, ⟨jne_Model.1, jne_Model.2, by decide +kernel⟩, by decide, plainFor_of_name jpn_Model⟩
theorem ji_Model_classes : Cond.instanceMethod jy_Model_classes ∈ jtbl := jmem_5 118 (by decide +kernel) rfl
theorem js_Model_classes : Cond.selects jy_Model_classes.cls jy_Model_classes jy_Model_classes ∈ jtbl := jmem_5 119 (by decide +kernel) rfl
abbrev jc_Model_classOf : ByteArray := prog_12_method_57_code
abbrev jy_Model_classOf : MethodName := ⟨"YesNoPowersModel", "classOf", "(II)I"⟩
set_option maxRecDepth 100000 in
theorem jm_Model_classOf : jMi jy_Model_classOf jc_Model_classOf 3 (some .int) 2 := ⟨jmem_1 10 (by decide +kernel) rfl, jmem_5 128 (by rfl) rfl, ⟨jne_Model.1, jne_Model.2, by decide +kernel⟩, by decide, plainFor_of_name jpn_Model⟩
theorem ji_Model_classOf : Cond.instanceMethod jy_Model_classOf ∈ jtbl := jmem_5 126 (by decide +kernel) rfl
theorem js_Model_classOf : Cond.selects jy_Model_classOf.cls jy_Model_classOf jy_Model_classOf ∈ jtbl := jmem_5 127 (by decide +kernel) rfl
abbrev jc_Model_isClass : ByteArray := prog_12_method_58_code
abbrev jy_Model_isClass : MethodName := ⟨"YesNoPowersModel", "isClass", "(II)Z"⟩
set_option maxRecDepth 100000 in
theorem jm_Model_isClass : jMi jy_Model_isClass jc_Model_isClass 3 (some .boolean) 2 := ⟨jmem_1 10 (by decide +kernel) rfl, jmem_5 136 (by rfl) rfl, ⟨jne_Model.1, jne_Model.2, by decide +kernel⟩, by decide, plainFor_of_name jpn_Model⟩
theorem ji_Model_isClass : Cond.instanceMethod jy_Model_isClass ∈ jtbl := jmem_5 135 (by decide +kernel) rfl
theorem js_Model_isClass : Cond.selects jy_Model_isClass.cls jy_Model_isClass jy_Model_isClass ∈ jtbl := jmem_0 55 (by decide +kernel) rfl
abbrev jc_Model_ofClass : ByteArray := prog_12_method_59_code
abbrev jy_Model_ofClass : MethodName := ⟨"YesNoPowersModel", "ofClass", "(III)I"⟩
set_option maxRecDepth 100000 in
theorem jm_Model_ofClass : jMi jy_Model_ofClass jc_Model_ofClass 4 (some .int) 3 := ⟨jmem_1 10 (by decide +kernel) rfl, jmem_5 132 (by rfl) rfl, ⟨jne_Model.1, jne_Model.2, by decide +kernel⟩, by decide, plainFor_of_name jpn_Model⟩
theorem ji_Model_ofClass : Cond.instanceMethod jy_Model_ofClass ∈ jtbl := jmem_5 130 (by decide +kernel) rfl
theorem js_Model_ofClass : Cond.selects jy_Model_ofClass.cls jy_Model_ofClass jy_Model_ofClass ∈ jtbl := jmem_5 131 (by decide +kernel) rfl
abbrev jc_Model_partBy : ByteArray := prog_12_method_60_code
abbrev jy_Model_partBy : MethodName := ⟨"YesNoPowersModel", "partBy", "(II)I"⟩
set_option maxRecDepth 100000 in
theorem jm_Model_partBy : jMi jy_Model_partBy jc_Model_partBy 5 (some .int) 2 := ⟨jmem_1 10 (by decide +kernel) rfl, jmem_5 167 (by rfl) rfl, ⟨jne_Model.1, jne_Model.2, by decide +kernel⟩, by decide, plainFor_of_name jpn_Model⟩
theorem ji_Model_partBy : Cond.instanceMethod jy_Model_partBy ∈ jtbl := jmem_5 166 (by decide +kernel) rfl
theorem js_Model_partBy : Cond.selects jy_Model_partBy.cls jy_Model_partBy jy_Model_partBy ∈ jtbl := jmem_0 61 (by decide +kernel) rfl
abbrev jc_Model_part : ByteArray := prog_12_method_61_code
abbrev jy_Model_part : MethodName := ⟨"YesNoPowersModel", "part", "(II)I"⟩
set_option maxRecDepth 100000 in
theorem jm_Model_part : jMi jy_Model_part jc_Model_part 4 (some .int) 2 := ⟨jmem_1 10 (by decide +kernel) rfl, jmem_5 163 (by rfl) rfl, ⟨jne_Model.1, jne_Model.2, by decide +kernel⟩, by decide, plainFor_of_name jpn_Model⟩
theorem ji_Model_part : Cond.instanceMethod jy_Model_part ∈ jtbl := jmem_5 161 (by decide +kernel) rfl
theorem js_Model_part : Cond.selects jy_Model_part.cls jy_Model_part jy_Model_part ∈ jtbl := jmem_5 162 (by decide +kernel) rfl
abbrev jc_Model_parts : ByteArray := prog_12_method_62_code
abbrev jy_Model_parts : MethodName := ⟨"YesNoPowersModel", "parts", "(III)I"⟩
set_option maxRecDepth 100000 in
theorem jm_Model_parts : jMi jy_Model_parts jc_Model_parts 7 (some .int) 3 := ⟨jmem_1 10 (by decide +kernel) rfl, jmem_5 171 (by rfl) rfl, ⟨jne_Model.1, jne_Model.2, by decide +kernel⟩, by decide, plainFor_of_name jpn_Model⟩
theorem ji_Model_parts : Cond.instanceMethod jy_Model_parts ∈ jtbl := jmem_5 169 (by decide +kernel) rfl
theorem js_Model_parts : Cond.selects jy_Model_parts.cls jy_Model_parts jy_Model_parts ∈ jtbl := jmem_5 170 (by decide +kernel) rfl
abbrev jc_Model_rest : ByteArray := prog_12_method_63_code
abbrev jy_Model_rest : MethodName := ⟨"YesNoPowersModel", "rest", "(III)I"⟩
set_option maxRecDepth 100000 in
theorem jm_Model_rest : jMi jy_Model_rest jc_Model_rest 6 (some .int) 3 := ⟨jmem_1 10 (by decide +kernel) rfl, jmem_5 175 (by rfl) rfl, ⟨jne_Model.1, jne_Model.2, by decide +kernel⟩, by decide, plainFor_of_name jpn_Model⟩
theorem ji_Model_rest : Cond.instanceMethod jy_Model_rest ∈ jtbl := jmem_5 173 (by decide +kernel) rfl
theorem js_Model_rest : Cond.selects jy_Model_rest.cls jy_Model_rest jy_Model_rest ∈ jtbl := jmem_5 174 (by decide +kernel) rfl
abbrev jc_Model_bound : ByteArray := prog_12_method_64_code
abbrev jy_Model_bound : MethodName := ⟨"YesNoPowersModel", "bound", "(II)I"⟩
set_option maxRecDepth 100000 in
theorem jm_Model_bound : jMi jy_Model_bound jc_Model_bound 6 (some .int) 2 := ⟨jmem_1 10 (by decide +kernel) rfl, jmem_5 179 (by rfl) rfl, ⟨jne_Model.1, jne_Model.2, by decide +kernel⟩, by decide, plainFor_of_name jpn_Model⟩
theorem ji_Model_bound : Cond.instanceMethod jy_Model_bound ∈ jtbl := jmem_5 177 (by decide +kernel) rfl
theorem js_Model_bound : Cond.selects jy_Model_bound.cls jy_Model_bound jy_Model_bound ∈ jtbl := jmem_5 178 (by decide +kernel) rfl
abbrev jc_Model_leastGirth : ByteArray := prog_12_method_65_code
abbrev jy_Model_leastGirth : MethodName := ⟨"YesNoPowersModel", "leastGirth", "(I)I"⟩
set_option maxRecDepth 100000 in
theorem jm_Model_leastGirth : jMi jy_Model_leastGirth jc_Model_leastGirth 5 (some .int) 1 := ⟨jmem_1 10 (by decide +kernel) rfl, jmem_5 184 (by rfl) rfl, ⟨jne_Model.1, jne_Model.2, by decide +kernel⟩, by decide, plainFor_of_name jpn_Model⟩
theorem ji_Model_leastGirth : Cond.instanceMethod jy_Model_leastGirth ∈ jtbl := jmem_5 183 (by decide +kernel) rfl
theorem js_Model_leastGirth : Cond.selects jy_Model_leastGirth.cls jy_Model_leastGirth jy_Model_leastGirth ∈ jtbl := jmem_0 62 (by decide +kernel) rfl
abbrev jc_Model_layUnions : ByteArray := prog_12_method_66_code
abbrev jy_Model_layUnions : MethodName := ⟨"YesNoPowersModel", "layUnions", "(I)I"⟩
set_option maxRecDepth 100000 in
theorem jm_Model_layUnions : jMi jy_Model_layUnions jc_Model_layUnions 7 (some .int) 1 := ⟨jmem_1 10 (by decide +kernel) rfl, jmem_5 200 (by rfl) rfl, ⟨jne_Model.1, jne_Model.2, by decide +kernel⟩, by decide, plainFor_of_name jpn_Model⟩
theorem ji_Model_layUnions : Cond.instanceMethod jy_Model_layUnions ∈ jtbl := jmem_5 199 (by decide +kernel) rfl
theorem js_Model_layUnions : Cond.selects jy_Model_layUnions.cls jy_Model_layUnions jy_Model_layUnions ∈ jtbl := jmem_0 65 (by decide +kernel) rfl
abbrev jc_Model_layBasis : ByteArray := prog_12_method_67_code
abbrev jy_Model_layBasis : MethodName := ⟨"YesNoPowersModel", "layBasis", "(I)V"⟩
set_option maxRecDepth 100000 in
theorem jm_Model_layBasis : jMi jy_Model_layBasis jc_Model_layBasis 8 none 1 := ⟨jmem_1 10 (by decide +kernel) rfl, jmem_5 196 (by rfl) rfl, ⟨jne_Model.1, jne_Model.2, by decide +kernel⟩, by decide, plainFor_of_name jpn_Model⟩
theorem ji_Model_layBasis : Cond.instanceMethod jy_Model_layBasis ∈ jtbl := jmem_5 195 (by decide +kernel) rfl
theorem js_Model_layBasis : Cond.selects jy_Model_layBasis.cls jy_Model_layBasis jy_Model_layBasis ∈ jtbl := jmem_0 64 (by decide +kernel) rfl
abbrev jc_Model_isRegular : ByteArray := prog_12_method_68_code
abbrev jy_Model_isRegular : MethodName := ⟨"YesNoPowersModel", "isRegular", "(I)Z"⟩
set_option maxRecDepth 100000 in
theorem jm_Model_isRegular : jMi jy_Model_isRegular jc_Model_isRegular 2 (some .boolean) 1 := ⟨jmem_1 10 (by decide +kernel) rfl, jmem_5 192 (by rfl) rfl, ⟨jne_Model.1, jne_Model.2, by decide +kernel⟩, by decide, plainFor_of_name jpn_Model⟩
theorem ji_Model_isRegular : Cond.instanceMethod jy_Model_isRegular ∈ jtbl := jmem_5 191 (by decide +kernel) rfl
theorem js_Model_isRegular : Cond.selects jy_Model_isRegular.cls jy_Model_isRegular jy_Model_isRegular ∈ jtbl := jmem_0 63 (by decide +kernel) rfl
abbrev jc_Model_space : ByteArray := prog_12_method_69_code
abbrev jy_Model_space : MethodName := ⟨"YesNoPowersModel", "space", "(II)I"⟩
set_option maxRecDepth 100000 in
theorem jm_Model_space : jMi jy_Model_space jc_Model_space 3 (some .int) 2 := ⟨jmem_1 10 (by decide +kernel) rfl, jmem_5 188 (by rfl) rfl, ⟨jne_Model.1, jne_Model.2, by decide +kernel⟩, by decide, plainFor_of_name jpn_Model⟩
theorem ji_Model_space : Cond.instanceMethod jy_Model_space ∈ jtbl := jmem_5 186 (by decide +kernel) rfl
theorem js_Model_space : Cond.selects jy_Model_space.cls jy_Model_space jy_Model_space ∈ jtbl := jmem_5 187 (by decide +kernel) rfl
abbrev jc_Model_basis : ByteArray := prog_12_method_70_code
abbrev jy_Model_basis : MethodName := ⟨"YesNoPowersModel", "basis", "(II)I"⟩
set_option maxRecDepth 100000 in
theorem jm_Model_basis : jMi jy_Model_basis jc_Model_basis 3 (some .int) 2 := ⟨jmem_1 10 (by decide +kernel) rfl, jmem_5 204 (by rfl) rfl, ⟨jne_Model.1, jne_Model.2, by decide +kernel⟩, by decide, plainFor_of_name jpn_Model⟩
theorem ji_Model_basis : Cond.instanceMethod jy_Model_basis ∈ jtbl := jmem_5 202 (by decide +kernel) rfl
theorem js_Model_basis : Cond.selects jy_Model_basis.cls jy_Model_basis jy_Model_basis ∈ jtbl := jmem_5 203 (by decide +kernel) rfl
abbrev jc_Model_spans : ByteArray := prog_12_method_71_code
abbrev jy_Model_spans : MethodName := ⟨"YesNoPowersModel", "spans", "(II)I"⟩
set_option maxRecDepth 100000 in
theorem jm_Model_spans : jMi jy_Model_spans jc_Model_spans 4 (some .int) 2 := ⟨jmem_1 10 (by decide +kernel) rfl, jmem_5 208 (by rfl) rfl, ⟨jne_Model.1, jne_Model.2, by decide +kernel⟩, by decide, plainFor_of_name jpn_Model⟩
theorem ji_Model_spans : Cond.instanceMethod jy_Model_spans ∈ jtbl := jmem_5 206 (by decide +kernel) rfl
theorem js_Model_spans : Cond.selects jy_Model_spans.cls jy_Model_spans jy_Model_spans ∈ jtbl := jmem_5 207 (by decide +kernel) rfl
abbrev jc_Model_isWithin : ByteArray := prog_12_method_72_code
abbrev jy_Model_isWithin : MethodName := ⟨"YesNoPowersModel", "isWithin", "(II)Z"⟩
set_option maxRecDepth 100000 in
theorem jm_Model_isWithin : jMi jy_Model_isWithin jc_Model_isWithin 6 (some .boolean) 2 := ⟨jmem_1 10 (by decide +kernel) rfl, jmem_5 216 (by rfl) rfl, ⟨jne_Model.1, jne_Model.2, by decide +kernel⟩, by decide, plainFor_of_name jpn_Model⟩
theorem ji_Model_isWithin : Cond.instanceMethod jy_Model_isWithin ∈ jtbl := jmem_5 215 (by decide +kernel) rfl
theorem js_Model_isWithin : Cond.selects jy_Model_isWithin.cls jy_Model_isWithin jy_Model_isWithin ∈ jtbl := jmem_0 66 (by decide +kernel) rfl
abbrev jc_Model_alike : ByteArray := prog_12_method_73_code
abbrev jy_Model_alike : MethodName := ⟨"YesNoPowersModel", "alike", "(III)I"⟩
set_option maxRecDepth 100000 in
theorem jm_Model_alike : jMi jy_Model_alike jc_Model_alike 4 (some .int) 3 := ⟨jmem_1 10 (by decide +kernel) rfl, jmem_5 212 (by rfl) rfl, ⟨jne_Model.1, jne_Model.2, by decide +kernel⟩, by decide, plainFor_of_name jpn_Model⟩
theorem ji_Model_alike : Cond.instanceMethod jy_Model_alike ∈ jtbl := jmem_5 210 (by decide +kernel) rfl
theorem js_Model_alike : Cond.selects jy_Model_alike.cls jy_Model_alike jy_Model_alike ∈ jtbl := jmem_5 211 (by decide +kernel) rfl
abbrev jc_Model_layNumber : ByteArray := prog_12_method_74_code
abbrev jy_Model_layNumber : MethodName := ⟨"YesNoPowersModel", "layNumber", "(II)V"⟩
set_option maxRecDepth 100000 in
theorem jm_Model_layNumber : jMi jy_Model_layNumber jc_Model_layNumber 4 none 2 := ⟨jmem_1 10 (by decide +kernel) rfl, jmem_5 233 (by rfl) rfl, ⟨jne_Model.1, jne_Model.2, by decide +kernel⟩, by decide, plainFor_of_name jpn_Model⟩
theorem ji_Model_layNumber : Cond.instanceMethod jy_Model_layNumber ∈ jtbl := jmem_5 232 (by decide +kernel) rfl
theorem js_Model_layNumber : Cond.selects jy_Model_layNumber.cls jy_Model_layNumber jy_Model_layNumber ∈ jtbl := jmem_0 68 (by decide +kernel) rfl
abbrev jc_Model_isRoot : ByteArray := prog_12_method_75_code
abbrev jy_Model_isRoot : MethodName := ⟨"YesNoPowersModel", "isRoot", "(III)Z"⟩
set_option maxRecDepth 100000 in
theorem jm_Model_isRoot : jMi jy_Model_isRoot jc_Model_isRoot 5 (some .boolean) 3 := ⟨jmem_1 10 (by decide +kernel) rfl, jmem_5 229 (by rfl) rfl, ⟨jne_Model.1, jne_Model.2, by decide +kernel⟩, by decide, plainFor_of_name jpn_Model⟩
theorem ji_Model_isRoot : Cond.instanceMethod jy_Model_isRoot ∈ jtbl := jmem_5 228 (by decide +kernel) rfl
theorem js_Model_isRoot : Cond.selects jy_Model_isRoot.cls jy_Model_isRoot jy_Model_isRoot ∈ jtbl := jmem_0 67 (by decide +kernel) rfl
abbrev jc_Model_isDegree : ByteArray := prog_12_method_76_code
abbrev jy_Model_isDegree : MethodName := ⟨"YesNoPowersModel", "isDegree", "(I)Z"⟩
set_option maxRecDepth 100000 in
theorem jm_Model_isDegree : jMi jy_Model_isDegree jc_Model_isDegree 1 (some .boolean) 1 := ⟨jmem_1 10 (by decide +kernel) rfl, jmem_5 223 (by rfl) rfl, ⟨jne_Model.1, jne_Model.2, by decide +kernel⟩, by decide, plainFor_of_name jpn_Model⟩
theorem js_Model_isDegree : Cond.static jy_Model_isDegree ∈ jtbl := jmem_5 222 (by decide +kernel) rfl
abbrev jc_Model_roots : ByteArray := prog_12_method_77_code
abbrev jy_Model_roots : MethodName := ⟨"YesNoPowersModel", "roots", "(II)I"⟩
set_option maxRecDepth 100000 in
theorem jm_Model_roots : jMi jy_Model_roots jc_Model_roots 6 (some .int) 2 := ⟨jmem_1 10 (by decide +kernel) rfl, jmem_5 220 (by rfl) rfl, ⟨jne_Model.1, jne_Model.2, by decide +kernel⟩, by decide, plainFor_of_name jpn_Model⟩
theorem ji_Model_roots : Cond.instanceMethod jy_Model_roots ∈ jtbl := jmem_5 218 (by decide +kernel) rfl
theorem js_Model_roots : Cond.selects jy_Model_roots.cls jy_Model_roots jy_Model_roots ∈ jtbl := jmem_5 219 (by decide +kernel) rfl
abbrev jc_Model_root : ByteArray := prog_12_method_78_code
abbrev jy_Model_root : MethodName := ⟨"YesNoPowersModel", "root", "(III)I"⟩
set_option maxRecDepth 100000 in
theorem jm_Model_root : jMi jy_Model_root jc_Model_root 7 (some .int) 3 := ⟨jmem_1 10 (by decide +kernel) rfl, jmem_5 237 (by rfl) rfl, ⟨jne_Model.1, jne_Model.2, by decide +kernel⟩, by decide, plainFor_of_name jpn_Model⟩
theorem ji_Model_root : Cond.instanceMethod jy_Model_root ∈ jtbl := jmem_5 235 (by decide +kernel) rfl
theorem js_Model_root : Cond.selects jy_Model_root.cls jy_Model_root jy_Model_root ∈ jtbl := jmem_5 236 (by decide +kernel) rfl
abbrev jc_Model_isLink : ByteArray := prog_12_method_79_code
abbrev jy_Model_isLink : MethodName := ⟨"YesNoPowersModel", "isLink", "(II)Z"⟩
set_option maxRecDepth 100000 in
theorem jm_Model_isLink : jMi jy_Model_isLink jc_Model_isLink 3 (some .boolean) 2 := ⟨jmem_1 10 (by decide +kernel) rfl, jmem_6 5 (by rfl) rfl, ⟨jne_Model.1, jne_Model.2, by decide +kernel⟩, by decide, plainFor_of_name jpn_Model⟩
theorem ji_Model_isLink : Cond.instanceMethod jy_Model_isLink ∈ jtbl := jmem_6 4 (by decide +kernel) rfl
theorem js_Model_isLink : Cond.selects jy_Model_isLink.cls jy_Model_isLink jy_Model_isLink ∈ jtbl := jmem_0 69 (by decide +kernel) rfl
abbrev jc_Model_link : ByteArray := prog_12_method_80_code
abbrev jy_Model_link : MethodName := ⟨"YesNoPowersModel", "link", "(II)I"⟩
set_option maxRecDepth 100000 in
theorem jm_Model_link : jMi jy_Model_link jc_Model_link 3 (some .int) 2 := ⟨jmem_1 10 (by decide +kernel) rfl, jmem_6 1 (by rfl) rfl, ⟨jne_Model.1, jne_Model.2, by decide +kernel⟩, by decide, plainFor_of_name jpn_Model⟩
theorem ji_Model_link : Cond.instanceMethod jy_Model_link ∈ jtbl := jmem_5 239 (by decide +kernel) rfl
theorem js_Model_link : Cond.selects jy_Model_link.cls jy_Model_link jy_Model_link ∈ jtbl := jmem_6 0 (by decide +kernel) rfl
abbrev jc_Model_otherOf : ByteArray := prog_12_method_81_code
abbrev jy_Model_otherOf : MethodName := ⟨"YesNoPowersModel", "otherOf", "(I)I"⟩
set_option maxRecDepth 100000 in
theorem jm_Model_otherOf : jMi jy_Model_otherOf jc_Model_otherOf 2 (some .int) 1 := ⟨jmem_1 10 (by decide +kernel) rfl, jmem_6 22 (by rfl) rfl, ⟨jne_Model.1, jne_Model.2, by decide +kernel⟩, by decide, plainFor_of_name jpn_Model⟩
theorem ji_Model_otherOf : Cond.instanceMethod jy_Model_otherOf ∈ jtbl := jmem_6 21 (by decide +kernel) rfl
theorem js_Model_otherOf : Cond.selects jy_Model_otherOf.cls jy_Model_otherOf jy_Model_otherOf ∈ jtbl := jmem_0 72 (by decide +kernel) rfl
abbrev jc_Model_stopsAt : ByteArray := prog_12_method_82_code
abbrev jy_Model_stopsAt : MethodName := ⟨"YesNoPowersModel", "stopsAt", "(I)I"⟩
set_option maxRecDepth 100000 in
theorem jm_Model_stopsAt : jMi jy_Model_stopsAt jc_Model_stopsAt 4 (some .int) 1 := ⟨jmem_1 10 (by decide +kernel) rfl, jmem_6 18 (by rfl) rfl, ⟨jne_Model.1, jne_Model.2, by decide +kernel⟩, by decide, plainFor_of_name jpn_Model⟩
theorem ji_Model_stopsAt : Cond.instanceMethod jy_Model_stopsAt ∈ jtbl := jmem_6 17 (by decide +kernel) rfl
theorem js_Model_stopsAt : Cond.selects jy_Model_stopsAt.cls jy_Model_stopsAt jy_Model_stopsAt ∈ jtbl := jmem_0 71 (by decide +kernel) rfl
abbrev jc_Model_goesThrough : ByteArray := prog_12_method_83_code
abbrev jy_Model_goesThrough : MethodName := ⟨"YesNoPowersModel", "goesThrough", "(I)V"⟩
set_option maxRecDepth 100000 in
theorem jm_Model_goesThrough : jMi jy_Model_goesThrough jc_Model_goesThrough 2 none 1 := ⟨jmem_1 10 (by decide +kernel) rfl, jmem_6 26 (by rfl) rfl, ⟨jne_Model.1, jne_Model.2, by decide +kernel⟩, by decide, plainFor_of_name jpn_Model⟩
theorem ji_Model_goesThrough : Cond.instanceMethod jy_Model_goesThrough ∈ jtbl := jmem_6 25 (by decide +kernel) rfl
theorem js_Model_goesThrough : Cond.selects jy_Model_goesThrough.cls jy_Model_goesThrough jy_Model_goesThrough ∈ jtbl := jmem_0 73 (by decide +kernel) rfl
abbrev jc_Model_goes : ByteArray := prog_12_method_84_code
abbrev jy_Model_goes : MethodName := ⟨"YesNoPowersModel", "goes", "(I)I"⟩
set_option maxRecDepth 100000 in
theorem jm_Model_goes : jMi jy_Model_goes jc_Model_goes 4 (some .int) 1 := ⟨jmem_1 10 (by decide +kernel) rfl, jmem_6 14 (by rfl) rfl, ⟨jne_Model.1, jne_Model.2, by decide +kernel⟩, by decide, plainFor_of_name jpn_Model⟩
theorem ji_Model_goes : Cond.instanceMethod jy_Model_goes ∈ jtbl := jmem_6 13 (by decide +kernel) rfl
theorem js_Model_goes : Cond.selects jy_Model_goes.cls jy_Model_goes jy_Model_goes ∈ jtbl := jmem_0 70 (by decide +kernel) rfl
abbrev jc_Model_run : ByteArray := prog_12_method_85_code
abbrev jy_Model_run : MethodName := ⟨"YesNoPowersModel", "run", "(I)I"⟩
set_option maxRecDepth 100000 in
theorem jm_Model_run : jMi jy_Model_run jc_Model_run 3 (some .int) 1 := ⟨jmem_1 10 (by decide +kernel) rfl, jmem_6 10 (by rfl) rfl, ⟨jne_Model.1, jne_Model.2, by decide +kernel⟩, by decide, plainFor_of_name jpn_Model⟩
theorem ji_Model_run : Cond.instanceMethod jy_Model_run ∈ jtbl := jmem_6 8 (by decide +kernel) rfl
theorem js_Model_run : Cond.selects jy_Model_run.cls jy_Model_run jy_Model_run ∈ jtbl := jmem_6 9 (by decide +kernel) rfl
abbrev jc_Model_would : ByteArray := prog_12_method_86_code
abbrev jy_Model_would : MethodName := ⟨"YesNoPowersModel", "would", "(I)I"⟩
set_option maxRecDepth 100000 in
theorem jm_Model_would : jMi jy_Model_would jc_Model_would 3 (some .int) 1 := ⟨jmem_1 10 (by decide +kernel) rfl, jmem_6 34 (by rfl) rfl, ⟨jne_Model.1, jne_Model.2, by decide +kernel⟩, by decide, plainFor_of_name jpn_Model⟩
theorem ji_Model_would : Cond.instanceMethod jy_Model_would ∈ jtbl := jmem_6 32 (by decide +kernel) rfl
theorem js_Model_would : Cond.selects jy_Model_would.cls jy_Model_would jy_Model_would ∈ jtbl := jmem_6 33 (by decide +kernel) rfl
abbrev jc_Model_closing : ByteArray := prog_12_method_87_code
abbrev jy_Model_closing : MethodName := ⟨"YesNoPowersModel", "closing", "(I)I"⟩
set_option maxRecDepth 100000 in
theorem jm_Model_closing : jMi jy_Model_closing jc_Model_closing 2 (some .int) 1 := ⟨jmem_1 10 (by decide +kernel) rfl, jmem_6 38 (by rfl) rfl, ⟨jne_Model.1, jne_Model.2, by decide +kernel⟩, by decide, plainFor_of_name jpn_Model⟩
theorem ji_Model_closing : Cond.instanceMethod jy_Model_closing ∈ jtbl := jmem_6 36 (by decide +kernel) rfl
theorem js_Model_closing : Cond.selects jy_Model_closing.cls jy_Model_closing jy_Model_closing ∈ jtbl := jmem_6 37 (by decide +kernel) rfl
abbrev jc_Model_reason : ByteArray := prog_12_method_88_code
abbrev jy_Model_reason : MethodName := ⟨"YesNoPowersModel", "reason", "(I)I"⟩
set_option maxRecDepth 100000 in
theorem jm_Model_reason : jMi jy_Model_reason jc_Model_reason 2 (some .int) 1 := ⟨jmem_1 10 (by decide +kernel) rfl, jmem_6 42 (by rfl) rfl, ⟨jne_Model.1, jne_Model.2, by decide +kernel⟩, by decide, plainFor_of_name jpn_Model⟩
theorem ji_Model_reason : Cond.instanceMethod jy_Model_reason ∈ jtbl := jmem_6 40 (by decide +kernel) rfl
theorem js_Model_reason : Cond.selects jy_Model_reason.cls jy_Model_reason jy_Model_reason ∈ jtbl := jmem_6 41 (by decide +kernel) rfl
abbrev jc_Model_loosen : ByteArray := prog_12_method_89_code
abbrev jy_Model_loosen : MethodName := ⟨"YesNoPowersModel", "loosen", "()I"⟩
set_option maxRecDepth 100000 in
theorem jm_Model_loosen : jMi jy_Model_loosen jc_Model_loosen 2 (some .int) 0 := ⟨jmem_1 10 (by decide +kernel) rfl, jmem_6 46 (by rfl) rfl, ⟨jne_Model.1, jne_Model.2, by decide +kernel⟩, by decide, plainFor_of_name jpn_Model⟩
theorem ji_Model_loosen : Cond.instanceMethod jy_Model_loosen ∈ jtbl := jmem_6 44 (by decide +kernel) rfl
theorem js_Model_loosen : Cond.selects jy_Model_loosen.cls jy_Model_loosen jy_Model_loosen ∈ jtbl := jmem_6 45 (by decide +kernel) rfl
abbrev jc_Model_isSheet : ByteArray := prog_12_method_90_code
abbrev jy_Model_isSheet : MethodName := ⟨"YesNoPowersModel", "isSheet", "(I)Z"⟩
set_option maxRecDepth 100000 in
theorem jm_Model_isSheet : jMi jy_Model_isSheet jc_Model_isSheet 1 (some .boolean) 1 := ⟨jmem_1 10 (by decide +kernel) rfl, jmem_5 64 (by rfl) rfl, ⟨jne_Model.1, jne_Model.2, by decide +kernel⟩, by decide, plainFor_of_name jpn_Model⟩
theorem js_Model_isSheet : Cond.static jy_Model_isSheet ∈ jtbl := jmem_5 63 (by decide +kernel) rfl
abbrev jc_Model_lowest : ByteArray := prog_12_method_91_code
abbrev jy_Model_lowest : MethodName := ⟨"YesNoPowersModel", "lowest", "(II)I"⟩
set_option maxRecDepth 100000 in
theorem jm_Model_lowest : jMi jy_Model_lowest jc_Model_lowest 3 (some .int) 2 := ⟨jmem_1 10 (by decide +kernel) rfl, jmem_5 72 (by rfl) rfl, ⟨jne_Model.1, jne_Model.2, by decide +kernel⟩, by decide, plainFor_of_name jpn_Model⟩
theorem ji_Model_lowest : Cond.instanceMethod jy_Model_lowest ∈ jtbl := jmem_5 71 (by decide +kernel) rfl
theorem js_Model_lowest : Cond.selects jy_Model_lowest.cls jy_Model_lowest jy_Model_lowest ∈ jtbl := jmem_0 45 (by decide +kernel) rfl
abbrev jc_Model_sheet : ByteArray := prog_12_method_92_code
abbrev jy_Model_sheet : MethodName := ⟨"YesNoPowersModel", "sheet", "(III)I"⟩
set_option maxRecDepth 100000 in
theorem jm_Model_sheet : jMi jy_Model_sheet jc_Model_sheet 5 (some .int) 3 := ⟨jmem_1 10 (by decide +kernel) rfl, jmem_6 50 (by rfl) rfl, ⟨jne_Model.1, jne_Model.2, by decide +kernel⟩, by decide, plainFor_of_name jpn_Model⟩
theorem ji_Model_sheet : Cond.instanceMethod jy_Model_sheet ∈ jtbl := jmem_6 48 (by decide +kernel) rfl
theorem js_Model_sheet : Cond.selects jy_Model_sheet.cls jy_Model_sheet jy_Model_sheet ∈ jtbl := jmem_6 49 (by decide +kernel) rfl
abbrev jc_Model_cell : ByteArray := prog_12_method_93_code
abbrev jy_Model_cell : MethodName := ⟨"YesNoPowersModel", "cell", "(III)I"⟩
set_option maxRecDepth 100000 in
theorem jm_Model_cell : jMi jy_Model_cell jc_Model_cell 4 (some .int) 3 := ⟨jmem_1 10 (by decide +kernel) rfl, jmem_6 55 (by rfl) rfl, ⟨jne_Model.1, jne_Model.2, by decide +kernel⟩, by decide, plainFor_of_name jpn_Model⟩
theorem ji_Model_cell : Cond.instanceMethod jy_Model_cell ∈ jtbl := jmem_6 53 (by decide +kernel) rfl
theorem js_Model_cell : Cond.selects jy_Model_cell.cls jy_Model_cell jy_Model_cell ∈ jtbl := jmem_6 54 (by decide +kernel) rfl
abbrev jc_Model_item : ByteArray := prog_12_method_94_code
abbrev jy_Model_item : MethodName := ⟨"YesNoPowersModel", "item", "(II)J"⟩
set_option maxRecDepth 100000 in
theorem jm_Model_item : jMi jy_Model_item jc_Model_item 3 (some .long) 2 := ⟨jmem_1 10 (by decide +kernel) rfl, jmem_6 59 (by rfl) rfl, ⟨jne_Model.1, jne_Model.2, by decide +kernel⟩, by decide, plainFor_of_name jpn_Model⟩
theorem ji_Model_item : Cond.instanceMethod jy_Model_item ∈ jtbl := jmem_6 57 (by decide +kernel) rfl
theorem js_Model_item : Cond.selects jy_Model_item.cls jy_Model_item jy_Model_item ∈ jtbl := jmem_6 58 (by decide +kernel) rfl
abbrev jc_Model_shift : ByteArray := prog_12_method_95_code
abbrev jy_Model_shift : MethodName := ⟨"YesNoPowersModel", "shift", "(IIIII)I"⟩
set_option maxRecDepth 100000 in
theorem jm_Model_shift : jMi jy_Model_shift jc_Model_shift 9 (some .int) 5 := ⟨jmem_1 10 (by decide +kernel) rfl, jmem_6 64 (by rfl) rfl, ⟨jne_Model.1, jne_Model.2, by decide +kernel⟩, by decide, plainFor_of_name jpn_Model⟩
theorem ji_Model_shift : Cond.instanceMethod jy_Model_shift ∈ jtbl := jmem_6 62 (by decide +kernel) rfl
theorem js_Model_shift : Cond.selects jy_Model_shift.cls jy_Model_shift jy_Model_shift ∈ jtbl := jmem_6 63 (by decide +kernel) rfl
abbrev jc_Model_count : ByteArray := prog_12_method_96_code
abbrev jy_Model_count : MethodName := ⟨"YesNoPowersModel", "count", "(I)I"⟩
set_option maxRecDepth 100000 in
theorem jm_Model_count : jMi jy_Model_count jc_Model_count 4 (some .int) 1 := ⟨jmem_1 10 (by decide +kernel) rfl, jmem_6 68 (by rfl) rfl, ⟨jne_Model.1, jne_Model.2, by decide +kernel⟩, by decide, plainFor_of_name jpn_Model⟩
theorem ji_Model_count : Cond.instanceMethod jy_Model_count ∈ jtbl := jmem_6 66 (by decide +kernel) rfl
theorem js_Model_count : Cond.selects jy_Model_count.cls jy_Model_count jy_Model_count ∈ jtbl := jmem_6 67 (by decide +kernel) rfl
abbrev jc_J_bitCount : ByteArray := prog_13_method_49_code
abbrev jy_J_bitCount : MethodName := ⟨"java/lang/Integer", "bitCount", "(I)I"⟩
set_option maxRecDepth 100000 in
theorem jm_J_bitCount : jMi jy_J_bitCount jc_J_bitCount 1 (some .int) 1 := ⟨jmem_1 12 (by decide +kernel) rfl, jmem_2 224 (by rfl) rfl, by decide +kernel, by decide, by decide +kernel⟩
theorem js_J_bitCount : Cond.static jy_J_bitCount ∈ jtbl := jmem_2 223 (by decide +kernel) rfl
abbrev jc_J_floorMod : ByteArray := prog_14_method_50_code
abbrev jy_J_floorMod : MethodName := ⟨"java/lang/Math", "floorMod", "(II)I"⟩
set_option maxRecDepth 100000 in
theorem jm_J_floorMod : jMi jy_J_floorMod jc_J_floorMod 3 (some .int) 2 := ⟨jmem_1 11 (by decide +kernel) rfl, jmem_3 111 (by rfl) rfl, by decide +kernel, by decide, by decide +kernel⟩
theorem js_J_floorMod : Cond.static jy_J_floorMod ∈ jtbl := jmem_3 110 (by decide +kernel) rfl
abbrev jc_J_abs : ByteArray := prog_14_method_59_code
abbrev jy_J_abs : MethodName := ⟨"java/lang/Math", "abs", "(I)I"⟩
set_option maxRecDepth 100000 in
theorem jm_J_abs : jMi jy_J_abs jc_J_abs 1 (some .int) 1 := ⟨jmem_1 11 (by decide +kernel) rfl, jmem_3 64 (by rfl) rfl, by decide +kernel, by decide, by decide +kernel⟩
theorem js_J_abs : Cond.static jy_J_abs ∈ jtbl := jmem_3 63 (by decide +kernel) rfl
abbrev jc_J_min : ByteArray := prog_14_method_69_code
abbrev jy_J_min : MethodName := ⟨"java/lang/Math", "min", "(II)I"⟩
set_option maxRecDepth 100000 in
theorem jm_J_min : jMi jy_J_min jc_J_min 2 (some .int) 2 := ⟨jmem_1 11 (by decide +kernel) rfl, jmem_2 74 (by rfl) rfl, by decide +kernel, by decide, by decide +kernel⟩
theorem js_J_min : Cond.static jy_J_min ∈ jtbl := jmem_2 73 (by decide +kernel) rfl
theorem jf_Table_15 : jF "YesNoPowers$Table" 15 7 0 2 := ⟨jR_Table, jT_Table, jt_Table, by decide, rfl, jin_Table, by decide, jmem_1 39 (by decide +kernel) rfl, jty_Table, jnm_Table, fun z => by first | rfl | exact absurd z (by decide), fun z => by first | rfl | exact absurd z (by decide)⟩
theorem jf_Powers_19 : jF "YesNoPowers$Powers" 19 7 0 2 := ⟨jR_Table, jT_Table, jt_Table, by decide, rfl, jin_Table, by decide, jmem_1 40 (by decide +kernel) rfl, jty_Table, jnm_Table, fun z => by first | rfl | exact absurd z (by decide), fun z => by first | rfl | exact absurd z (by decide)⟩
theorem jf_Spaces_28 : jF "YesNoPowers$Spaces" 28 7 0 2 := ⟨jR_Table, jT_Table, jt_Table, by decide, rfl, jin_Table, by decide, jmem_1 41 (by decide +kernel) rfl, jty_Table, jnm_Table, fun z => by first | rfl | exact absurd z (by decide), fun z => by first | rfl | exact absurd z (by decide)⟩
theorem jf_Rings_75 : jF "YesNoPowers$Rings" 75 7 0 2 := ⟨jR_Table, jT_Table, jt_Table, by decide, rfl, jin_Table, by decide, jmem_1 42 (by decide +kernel) rfl, jty_Table, jnm_Table, fun z => by first | rfl | exact absurd z (by decide), fun z => by first | rfl | exact absurd z (by decide)⟩
theorem jf_Chain_74 : jF "YesNoPowers$Chain" 74 7 0 2 := ⟨jR_Table, jT_Table, jt_Table, by decide, rfl, jin_Table, by decide, jmem_1 43 (by decide +kernel) rfl, jty_Table, jnm_Table, fun z => by first | rfl | exact absurd z (by decide), fun z => by first | rfl | exact absurd z (by decide)⟩
theorem jf_Main_108 : jF "YesNoPowers" 108 7 0 2 := ⟨jR_Table, jT_Table, jt_Table, by decide, rfl, jin_Table, by decide, jmem_1 44 (by decide +kernel) rfl, jty_Table, jnm_Table, fun z => by first | rfl | exact absurd z (by decide), fun z => by first | rfl | exact absurd z (by decide)⟩
theorem jf_Table_11 : jF "YesNoPowers$Table" 11 7 1 2 := ⟨jR_Table, jT_Table, jt_Table, by decide, rfl, jin_Table, by decide, jmem_1 45 (by decide +kernel) rfl, jty_Table, jnm_Table, fun z => by first | rfl | exact absurd z (by decide), fun z => by first | rfl | exact absurd z (by decide)⟩
theorem jf_Spaces_32 : jF "YesNoPowers$Spaces" 32 7 1 2 := ⟨jR_Table, jT_Table, jt_Table, by decide, rfl, jin_Table, by decide, jmem_1 46 (by decide +kernel) rfl, jty_Table, jnm_Table, fun z => by first | rfl | exact absurd z (by decide), fun z => by first | rfl | exact absurd z (by decide)⟩
theorem jf_Main_95 : jF "YesNoPowers" 95 7 1 2 := ⟨jR_Table, jT_Table, jt_Table, by decide, rfl, jin_Table, by decide, jmem_1 47 (by decide +kernel) rfl, jty_Table, jnm_Table, fun z => by first | rfl | exact absurd z (by decide), fun z => by first | rfl | exact absurd z (by decide)⟩
theorem jf_Rings_78 : jF "YesNoPowers$Rings" 78 7 1 2 := ⟨jR_Table, jT_Table, jt_Table, by decide, rfl, jin_Table, by decide, jmem_1 48 (by decide +kernel) rfl, jty_Table, jnm_Table, fun z => by first | rfl | exact absurd z (by decide), fun z => by first | rfl | exact absurd z (by decide)⟩
theorem jf_Log_28 : jF "YesNoPowers$Log" 28 2 0 4 := ⟨jR_Log, jT_Log, jt_Log, by decide, rfl, jin_Log, by decide, jmem_1 55 (by decide +kernel) rfl, jty_Log, jnm_Log, fun z => by first | rfl | exact absurd z (by decide), fun z => by first | rfl | exact absurd z (by decide)⟩
theorem jf_Main_302 : jF "YesNoPowers" 302 2 0 4 := ⟨jR_Log, jT_Log, jt_Log, by decide, rfl, jin_Log, by decide, jmem_1 56 (by decide +kernel) rfl, jty_Log, jnm_Log, fun z => by first | rfl | exact absurd z (by decide), fun z => by first | rfl | exact absurd z (by decide)⟩
theorem jf_Log_20 : jF "YesNoPowers$Log" 20 2 1 4 := ⟨jR_Log, jT_Log, jt_Log, by decide, rfl, jin_Log, by decide, jmem_1 57 (by decide +kernel) rfl, jty_Log, jnm_Log, fun z => by first | rfl | exact absurd z (by decide), fun z => by first | rfl | exact absurd z (by decide)⟩
theorem jf_Log_9 : jF "YesNoPowers$Log" 9 2 2 4 := ⟨jR_Log, jT_Log, jt_Log, by decide, rfl, jin_Log, by decide, jmem_1 58 (by decide +kernel) rfl, jty_Log, jnm_Log, fun z => by first | rfl | exact absurd z (by decide), fun z => by first | rfl | exact absurd z (by decide)⟩
theorem jf_Log_15 : jF "YesNoPowers$Log" 15 2 3 4 := ⟨jR_Log, jT_Log, jt_Log, by decide, rfl, jin_Log, by decide, jmem_1 59 (by decide +kernel) rfl, jty_Log, jnm_Log, fun z => by first | rfl | exact absurd z (by decide), fun z => by first | rfl | exact absurd z (by decide)⟩
theorem jf_Powers_47 : jF "YesNoPowers$Powers" 47 3 0 4 := ⟨jR_Powers, jT_Powers, jt_Powers, by decide, rfl, jin_Powers, by decide, jmem_1 77 (by decide +kernel) rfl, jty_Powers, jnm_Powers, fun z => by first | rfl | exact absurd z (by decide), fun z => by first | rfl | exact absurd z (by decide)⟩
theorem jf_Main_181 : jF "YesNoPowers" 181 3 0 4 := ⟨jR_Powers, jT_Powers, jt_Powers, by decide, rfl, jin_Powers, by decide, jmem_1 78 (by decide +kernel) rfl, jty_Powers, jnm_Powers, fun z => by first | rfl | exact absurd z (by decide), fun z => by first | rfl | exact absurd z (by decide)⟩
theorem jf_Powers_40 : jF "YesNoPowers$Powers" 40 3 1 4 := ⟨jR_Powers, jT_Powers, jt_Powers, by decide, rfl, jin_Powers, by decide, jmem_1 79 (by decide +kernel) rfl, jty_Powers, jnm_Powers, fun z => by first | rfl | exact absurd z (by decide), fun z => by first | rfl | exact absurd z (by decide)⟩
theorem jf_Main_184 : jF "YesNoPowers" 184 3 1 4 := ⟨jR_Powers, jT_Powers, jt_Powers, by decide, rfl, jin_Powers, by decide, jmem_1 80 (by decide +kernel) rfl, jty_Powers, jnm_Powers, fun z => by first | rfl | exact absurd z (by decide), fun z => by first | rfl | exact absurd z (by decide)⟩
theorem jf_Powers_10 : jF "YesNoPowers$Powers" 10 3 2 4 := ⟨jR_Powers, jT_Powers, jt_Powers, by decide, rfl, jin_Powers, by decide, jmem_1 81 (by decide +kernel) rfl, jty_Powers, jnm_Powers, fun z => by first | rfl | exact absurd z (by decide), fun z => by first | rfl | exact absurd z (by decide)⟩
theorem jf_Powers_16 : jF "YesNoPowers$Powers" 16 3 3 4 := ⟨jR_Powers, jT_Powers, jt_Powers, by decide, rfl, jin_Powers, by decide, jmem_1 82 (by decide +kernel) rfl, jty_Powers, jnm_Powers, fun z => by first | rfl | exact absurd z (by decide), fun z => by first | rfl | exact absurd z (by decide)⟩
theorem jf_Rings_54 : jF "YesNoPowers$Rings" 54 4 0 11 := ⟨jR_Rings, jT_Rings, jt_Rings, by decide, rfl, jin_Rings, by decide, jmem_1 100 (by decide +kernel) rfl, jty_Rings, jnm_Rings, fun z => by first | rfl | exact absurd z (by decide), fun z => by first | rfl | exact absurd z (by decide)⟩
theorem jf_Main_203 : jF "YesNoPowers" 203 4 0 11 := ⟨jR_Rings, jT_Rings, jt_Rings, by decide, rfl, jin_Rings, by decide, jmem_1 101 (by decide +kernel) rfl, jty_Rings, jnm_Rings, fun z => by first | rfl | exact absurd z (by decide), fun z => by first | rfl | exact absurd z (by decide)⟩
theorem jf_Rings_9 : jF "YesNoPowers$Rings" 9 4 1 11 := ⟨jR_Rings, jT_Rings, jt_Rings, by decide, rfl, jin_Rings, by decide, jmem_1 102 (by decide +kernel) rfl, jty_Rings, jnm_Rings, fun z => by first | rfl | exact absurd z (by decide), fun z => by first | rfl | exact absurd z (by decide)⟩
theorem jf_Main_206 : jF "YesNoPowers" 206 4 1 11 := ⟨jR_Rings, jT_Rings, jt_Rings, by decide, rfl, jin_Rings, by decide, jmem_1 103 (by decide +kernel) rfl, jty_Rings, jnm_Rings, fun z => by first | rfl | exact absurd z (by decide), fun z => by first | rfl | exact absurd z (by decide)⟩
theorem jf_Rings_15 : jF "YesNoPowers$Rings" 15 4 2 11 := ⟨jR_Rings, jT_Rings, jt_Rings, by decide, rfl, jin_Rings, by decide, jmem_1 104 (by decide +kernel) rfl, jty_Rings, jnm_Rings, fun z => by first | rfl | exact absurd z (by decide), fun z => by first | rfl | exact absurd z (by decide)⟩
theorem jf_Main_215 : jF "YesNoPowers" 215 4 2 11 := ⟨jR_Rings, jT_Rings, jt_Rings, by decide, rfl, jin_Rings, by decide, jmem_1 105 (by decide +kernel) rfl, jty_Rings, jnm_Rings, fun z => by first | rfl | exact absurd z (by decide), fun z => by first | rfl | exact absurd z (by decide)⟩
theorem jf_Rings_18 : jF "YesNoPowers$Rings" 18 4 3 11 := ⟨jR_Rings, jT_Rings, jt_Rings, by decide, rfl, jin_Rings, by decide, jmem_1 106 (by decide +kernel) rfl, jty_Rings, jnm_Rings, fun z => by first | rfl | exact absurd z (by decide), fun z => by first | rfl | exact absurd z (by decide)⟩
theorem jf_Main_212 : jF "YesNoPowers" 212 4 3 11 := ⟨jR_Rings, jT_Rings, jt_Rings, by decide, rfl, jin_Rings, by decide, jmem_1 107 (by decide +kernel) rfl, jty_Rings, jnm_Rings, fun z => by first | rfl | exact absurd z (by decide), fun z => by first | rfl | exact absurd z (by decide)⟩
theorem jf_Rings_21 : jF "YesNoPowers$Rings" 21 4 4 11 := ⟨jR_Rings, jT_Rings, jt_Rings, by decide, rfl, jin_Rings, by decide, jmem_1 108 (by decide +kernel) rfl, jty_Rings, jnm_Rings, fun z => by first | rfl | exact absurd z (by decide), fun z => by first | rfl | exact absurd z (by decide)⟩
theorem jf_Main_197 : jF "YesNoPowers" 197 4 4 11 := ⟨jR_Rings, jT_Rings, jt_Rings, by decide, rfl, jin_Rings, by decide, jmem_1 109 (by decide +kernel) rfl, jty_Rings, jnm_Rings, fun z => by first | rfl | exact absurd z (by decide), fun z => by first | rfl | exact absurd z (by decide)⟩
theorem jf_Rings_24 : jF "YesNoPowers$Rings" 24 4 5 11 := ⟨jR_Rings, jT_Rings, jt_Rings, by decide, rfl, jin_Rings, by decide, jmem_1 110 (by decide +kernel) rfl, jty_Rings, jnm_Rings, fun z => by first | rfl | exact absurd z (by decide), fun z => by first | rfl | exact absurd z (by decide)⟩
theorem jf_Main_223 : jF "YesNoPowers" 223 4 5 11 := ⟨jR_Rings, jT_Rings, jt_Rings, by decide, rfl, jin_Rings, by decide, jmem_1 111 (by decide +kernel) rfl, jty_Rings, jnm_Rings, fun z => by first | rfl | exact absurd z (by decide), fun z => by first | rfl | exact absurd z (by decide)⟩
theorem jf_Rings_27 : jF "YesNoPowers$Rings" 27 4 6 11 := ⟨jR_Rings, jT_Rings, jt_Rings, by decide, rfl, jin_Rings, by decide, jmem_1 112 (by decide +kernel) rfl, jty_Rings, jnm_Rings, fun z => by first | rfl | exact absurd z (by decide), fun z => by first | rfl | exact absurd z (by decide)⟩
theorem jf_Main_225 : jF "YesNoPowers" 225 4 6 11 := ⟨jR_Rings, jT_Rings, jt_Rings, by decide, rfl, jin_Rings, by decide, jmem_1 113 (by decide +kernel) rfl, jty_Rings, jnm_Rings, fun z => by first | rfl | exact absurd z (by decide), fun z => by first | rfl | exact absurd z (by decide)⟩
theorem jf_Rings_30 : jF "YesNoPowers$Rings" 30 4 7 11 := ⟨jR_Rings, jT_Rings, jt_Rings, by decide, rfl, jin_Rings, by decide, jmem_1 114 (by decide +kernel) rfl, jty_Rings, jnm_Rings, fun z => by first | rfl | exact absurd z (by decide), fun z => by first | rfl | exact absurd z (by decide)⟩
theorem jf_Main_228 : jF "YesNoPowers" 228 4 7 11 := ⟨jR_Rings, jT_Rings, jt_Rings, by decide, rfl, jin_Rings, by decide, jmem_1 115 (by decide +kernel) rfl, jty_Rings, jnm_Rings, fun z => by first | rfl | exact absurd z (by decide), fun z => by first | rfl | exact absurd z (by decide)⟩
theorem jf_Rings_33 : jF "YesNoPowers$Rings" 33 4 8 11 := ⟨jR_Rings, jT_Rings, jt_Rings, by decide, rfl, jin_Rings, by decide, jmem_1 116 (by decide +kernel) rfl, jty_Rings, jnm_Rings, fun z => by first | rfl | exact absurd z (by decide), fun z => by first | rfl | exact absurd z (by decide)⟩
theorem jf_Rings_37 : jF "YesNoPowers$Rings" 37 4 9 11 := ⟨jR_Rings, jT_Rings, jt_Rings, by decide, rfl, jin_Rings, by decide, jmem_1 117 (by decide +kernel) rfl, jty_Rings, jnm_Rings, fun z => by first | rfl | exact absurd z (by decide), fun z => by first | rfl | exact absurd z (by decide)⟩
theorem jf_Rings_41 : jF "YesNoPowers$Rings" 41 4 10 11 := ⟨jR_Rings, jT_Rings, jt_Rings, by decide, rfl, jin_Rings, by decide, jmem_1 118 (by decide +kernel) rfl, jty_Rings, jnm_Rings, fun z => by first | rfl | exact absurd z (by decide), fun z => by first | rfl | exact absurd z (by decide)⟩
theorem jf_Spaces_10 : jF "YesNoPowers$Spaces" 10 6 0 5 := ⟨jR_Spaces, jT_Spaces, jt_Spaces, by decide, rfl, jin_Spaces, by decide, jmem_1 150 (by decide +kernel) rfl, jty_Spaces, jnm_Spaces, fun z => by first | rfl | exact absurd z (by decide), fun z => by first | rfl | exact absurd z (by decide)⟩
theorem jf_Spaces_16 : jF "YesNoPowers$Spaces" 16 6 1 5 := ⟨jR_Spaces, jT_Spaces, jt_Spaces, by decide, rfl, jin_Spaces, by decide, jmem_1 151 (by decide +kernel) rfl, jty_Spaces, jnm_Spaces, fun z => by first | rfl | exact absurd z (by decide), fun z => by first | rfl | exact absurd z (by decide)⟩
theorem jf_Spaces_19 : jF "YesNoPowers$Spaces" 19 6 2 5 := ⟨jR_Spaces, jT_Spaces, jt_Spaces, by decide, rfl, jin_Spaces, by decide, jmem_1 152 (by decide +kernel) rfl, jty_Spaces, jnm_Spaces, fun z => by first | rfl | exact absurd z (by decide), fun z => by first | rfl | exact absurd z (by decide)⟩
theorem jf_Spaces_22 : jF "YesNoPowers$Spaces" 22 6 3 5 := ⟨jR_Spaces, jT_Spaces, jt_Spaces, by decide, rfl, jin_Spaces, by decide, jmem_1 153 (by decide +kernel) rfl, jty_Spaces, jnm_Spaces, fun z => by first | rfl | exact absurd z (by decide), fun z => by first | rfl | exact absurd z (by decide)⟩
theorem jf_Spaces_25 : jF "YesNoPowers$Spaces" 25 6 4 5 := ⟨jR_Spaces, jT_Spaces, jt_Spaces, by decide, rfl, jin_Spaces, by decide, jmem_1 154 (by decide +kernel) rfl, jty_Spaces, jnm_Spaces, fun z => by first | rfl | exact absurd z (by decide), fun z => by first | rfl | exact absurd z (by decide)⟩
theorem jf_Chain_48 : jF "YesNoPowers$Chain" 48 1 0 3 := ⟨jR_Link, jT_Link, jt_Link, by decide, rfl, jin_Link, by decide, jmem_1 183 (by decide +kernel) rfl, jty_Link, jnm_Link, fun z => by first | rfl | exact absurd z (by decide), fun z => by first | rfl | exact absurd z (by decide)⟩
theorem jf_Chain_51 : jF "YesNoPowers$Chain" 51 1 1 3 := ⟨jR_Link, jT_Link, jt_Link, by decide, rfl, jin_Link, by decide, jmem_1 184 (by decide +kernel) rfl, jty_Link, jnm_Link, fun z => by first | rfl | exact absurd z (by decide), fun z => by first | rfl | exact absurd z (by decide)⟩
theorem jf_Link_10 : jF "YesNoPowers$Link" 10 1 2 3 := ⟨jR_Link, jT_Link, jt_Link, by decide, rfl, jin_Link, by decide, jmem_1 185 (by decide +kernel) rfl, jty_Link, jnm_Link, fun z => by first | rfl | exact absurd z (by decide), fun z => by first | rfl | exact absurd z (by decide)⟩
theorem jf_Chain_54 : jF "YesNoPowers$Chain" 54 1 2 3 := ⟨jR_Link, jT_Link, jt_Link, by decide, rfl, jin_Link, by decide, jmem_1 186 (by decide +kernel) rfl, jty_Link, jnm_Link, fun z => by first | rfl | exact absurd z (by decide), fun z => by first | rfl | exact absurd z (by decide)⟩
theorem jf_Chain_40 : jF "YesNoPowers$Chain" 40 0 0 11 := ⟨jR_Chain, jT_Chain, jt_Chain, by decide, rfl, jin_Chain, by decide, jmem_1 194 (by decide +kernel) rfl, jty_Chain, jnm_Chain, fun z => by first | rfl | exact absurd z (by decide), fun z => by first | rfl | exact absurd z (by decide)⟩
theorem jf_Main_282 : jF "YesNoPowers" 282 0 0 11 := ⟨jR_Chain, jT_Chain, jt_Chain, by decide, rfl, jin_Chain, by decide, jmem_1 195 (by decide +kernel) rfl, jty_Chain, jnm_Chain, fun z => by first | rfl | exact absurd z (by decide), fun z => by first | rfl | exact absurd z (by decide)⟩
theorem jf_Chain_67 : jF "YesNoPowers$Chain" 67 0 1 11 := ⟨jR_Chain, jT_Chain, jt_Chain, by decide, rfl, jin_Chain, by decide, jmem_1 196 (by decide +kernel) rfl, jty_Chain, jnm_Chain, fun z => by first | rfl | exact absurd z (by decide), fun z => by first | rfl | exact absurd z (by decide)⟩
theorem jf_Main_338 : jF "YesNoPowers" 338 0 1 11 := ⟨jR_Chain, jT_Chain, jt_Chain, by decide, rfl, jin_Chain, by decide, jmem_1 197 (by decide +kernel) rfl, jty_Chain, jnm_Chain, fun z => by first | rfl | exact absurd z (by decide), fun z => by first | rfl | exact absurd z (by decide)⟩
theorem jf_Chain_61 : jF "YesNoPowers$Chain" 61 0 2 11 := ⟨jR_Chain, jT_Chain, jt_Chain, by decide, rfl, jin_Chain, by decide, jmem_1 198 (by decide +kernel) rfl, jty_Chain, jnm_Chain, fun z => by first | rfl | exact absurd z (by decide), fun z => by first | rfl | exact absurd z (by decide)⟩
theorem jf_Main_290 : jF "YesNoPowers" 290 0 2 11 := ⟨jR_Chain, jT_Chain, jt_Chain, by decide, rfl, jin_Chain, by decide, jmem_1 199 (by decide +kernel) rfl, jty_Chain, jnm_Chain, fun z => by first | rfl | exact absurd z (by decide), fun z => by first | rfl | exact absurd z (by decide)⟩
theorem jf_Chain_64 : jF "YesNoPowers$Chain" 64 0 3 11 := ⟨jR_Chain, jT_Chain, jt_Chain, by decide, rfl, jin_Chain, by decide, jmem_1 200 (by decide +kernel) rfl, jty_Chain, jnm_Chain, fun z => by first | rfl | exact absurd z (by decide), fun z => by first | rfl | exact absurd z (by decide)⟩
theorem jf_Main_296 : jF "YesNoPowers" 296 0 3 11 := ⟨jR_Chain, jT_Chain, jt_Chain, by decide, rfl, jin_Chain, by decide, jmem_1 201 (by decide +kernel) rfl, jty_Chain, jnm_Chain, fun z => by first | rfl | exact absurd z (by decide), fun z => by first | rfl | exact absurd z (by decide)⟩
theorem jf_Chain_9 : jF "YesNoPowers$Chain" 9 0 4 11 := ⟨jR_Chain, jT_Chain, jt_Chain, by decide, rfl, jin_Chain, by decide, jmem_1 202 (by decide +kernel) rfl, jty_Chain, jnm_Chain, fun z => by first | rfl | exact absurd z (by decide), fun z => by first | rfl | exact absurd z (by decide)⟩
theorem jf_Main_293 : jF "YesNoPowers" 293 0 4 11 := ⟨jR_Chain, jT_Chain, jt_Chain, by decide, rfl, jin_Chain, by decide, jmem_1 203 (by decide +kernel) rfl, jty_Chain, jnm_Chain, fun z => by first | rfl | exact absurd z (by decide), fun z => by first | rfl | exact absurd z (by decide)⟩
theorem jf_Chain_13 : jF "YesNoPowers$Chain" 13 0 5 11 := ⟨jR_Chain, jT_Chain, jt_Chain, by decide, rfl, jin_Chain, by decide, jmem_1 204 (by decide +kernel) rfl, jty_Chain, jnm_Chain, fun z => by first | rfl | exact absurd z (by decide), fun z => by first | rfl | exact absurd z (by decide)⟩
theorem jf_Main_299 : jF "YesNoPowers" 299 0 5 11 := ⟨jR_Chain, jT_Chain, jt_Chain, by decide, rfl, jin_Chain, by decide, jmem_1 205 (by decide +kernel) rfl, jty_Chain, jnm_Chain, fun z => by first | rfl | exact absurd z (by decide), fun z => by first | rfl | exact absurd z (by decide)⟩
theorem jf_Chain_19 : jF "YesNoPowers$Chain" 19 0 6 11 := ⟨jR_Chain, jT_Chain, jt_Chain, by decide, rfl, jin_Chain, by decide, jmem_1 206 (by decide +kernel) rfl, jty_Chain, jnm_Chain, fun z => by first | rfl | exact absurd z (by decide), fun z => by first | rfl | exact absurd z (by decide)⟩
theorem jf_Main_287 : jF "YesNoPowers" 287 0 6 11 := ⟨jR_Chain, jT_Chain, jt_Chain, by decide, rfl, jin_Chain, by decide, jmem_1 207 (by decide +kernel) rfl, jty_Chain, jnm_Chain, fun z => by first | rfl | exact absurd z (by decide), fun z => by first | rfl | exact absurd z (by decide)⟩
theorem jf_Chain_23 : jF "YesNoPowers$Chain" 23 0 7 11 := ⟨jR_Chain, jT_Chain, jt_Chain, by decide, rfl, jin_Chain, by decide, jmem_1 208 (by decide +kernel) rfl, jty_Chain, jnm_Chain, fun z => by first | rfl | exact absurd z (by decide), fun z => by first | rfl | exact absurd z (by decide)⟩
theorem jf_Chain_28 : jF "YesNoPowers$Chain" 28 0 8 11 := ⟨jR_Chain, jT_Chain, jt_Chain, by decide, rfl, jin_Chain, by decide, jmem_1 209 (by decide +kernel) rfl, jty_Chain, jnm_Chain, fun z => by first | rfl | exact absurd z (by decide), fun z => by first | rfl | exact absurd z (by decide)⟩
theorem jf_Chain_32 : jF "YesNoPowers$Chain" 32 0 9 11 := ⟨jR_Chain, jT_Chain, jt_Chain, by decide, rfl, jin_Chain, by decide, jmem_1 210 (by decide +kernel) rfl, jty_Chain, jnm_Chain, fun z => by first | rfl | exact absurd z (by decide), fun z => by first | rfl | exact absurd z (by decide)⟩
theorem jf_Chain_35 : jF "YesNoPowers$Chain" 35 0 10 11 := ⟨jR_Chain, jT_Chain, jt_Chain, by decide, rfl, jin_Chain, by decide, jmem_1 211 (by decide +kernel) rfl, jty_Chain, jnm_Chain, fun z => by first | rfl | exact absurd z (by decide), fun z => by first | rfl | exact absurd z (by decide)⟩
theorem jf_Sheet_7 : jF "YesNoPowers$Sheet" 7 5 0 3 := ⟨jR_Sheet, jT_Sheet, jt_Sheet, by decide, rfl, jin_Sheet, by decide, jmem_2 1 (by decide +kernel) rfl, jty_Sheet, jnm_Sheet, fun z => by first | rfl | exact absurd z (by decide), fun z => by first | rfl | exact absurd z (by decide)⟩
theorem jf_Main_323 : jF "YesNoPowers" 323 5 0 3 := ⟨jR_Sheet, jT_Sheet, jt_Sheet, by decide, rfl, jin_Sheet, by decide, jmem_2 2 (by decide +kernel) rfl, jty_Sheet, jnm_Sheet, fun z => by first | rfl | exact absurd z (by decide), fun z => by first | rfl | exact absurd z (by decide)⟩
theorem jf_Sheet_17 : jF "YesNoPowers$Sheet" 17 5 1 3 := ⟨jR_Sheet, jT_Sheet, jt_Sheet, by decide, rfl, jin_Sheet, by decide, jmem_2 3 (by decide +kernel) rfl, jty_Sheet, jnm_Sheet, fun z => by first | rfl | exact absurd z (by decide), fun z => by first | rfl | exact absurd z (by decide)⟩
theorem jf_Main_153 : jF "YesNoPowers" 153 5 1 3 := ⟨jR_Sheet, jT_Sheet, jt_Sheet, by decide, rfl, jin_Sheet, by decide, jmem_2 4 (by decide +kernel) rfl, jty_Sheet, jnm_Sheet, fun z => by first | rfl | exact absurd z (by decide), fun z => by first | rfl | exact absurd z (by decide)⟩
theorem jf_Sheet_13 : jF "YesNoPowers$Sheet" 13 5 2 3 := ⟨jR_Sheet, jT_Sheet, jt_Sheet, by decide, rfl, jin_Sheet, by decide, jmem_2 5 (by decide +kernel) rfl, jty_Sheet, jnm_Sheet, fun z => by first | rfl | exact absurd z (by decide), fun z => by first | rfl | exact absurd z (by decide)⟩
theorem jf_Main_320 : jF "YesNoPowers" 320 5 2 3 := ⟨jR_Sheet, jT_Sheet, jt_Sheet, by decide, rfl, jin_Sheet, by decide, jmem_2 6 (by decide +kernel) rfl, jty_Sheet, jnm_Sheet, fun z => by first | rfl | exact absurd z (by decide), fun z => by first | rfl | exact absurd z (by decide)⟩
theorem jf_Main_11 : jF "YesNoPowers" 11 8 0 8 := ⟨jR_Main, jT_Main, jt_Main, by decide, rfl, jin_Main, by decide, jmem_2 14 (by decide +kernel) rfl, jty_Main, jnm_Main, fun z => by first | rfl | exact absurd z (by decide), fun z => by first | rfl | exact absurd z (by decide)⟩
theorem jf_Main_17 : jF "YesNoPowers" 17 8 1 8 := ⟨jR_Main, jT_Main, jt_Main, by decide, rfl, jin_Main, by decide, jmem_2 15 (by decide +kernel) rfl, jty_Main, jnm_Main, fun z => by first | rfl | exact absurd z (by decide), fun z => by first | rfl | exact absurd z (by decide)⟩
theorem jf_Main_24 : jF "YesNoPowers" 24 8 2 8 := ⟨jR_Main, jT_Main, jt_Main, by decide, rfl, jin_Main, by decide, jmem_2 16 (by decide +kernel) rfl, jty_Main, jnm_Main, fun z => by first | rfl | exact absurd z (by decide), fun z => by first | rfl | exact absurd z (by decide)⟩
theorem jf_Main_31 : jF "YesNoPowers" 31 8 3 8 := ⟨jR_Main, jT_Main, jt_Main, by decide, rfl, jin_Main, by decide, jmem_2 17 (by decide +kernel) rfl, jty_Main, jnm_Main, fun z => by first | rfl | exact absurd z (by decide), fun z => by first | rfl | exact absurd z (by decide)⟩
theorem jf_Main_38 : jF "YesNoPowers" 38 8 4 8 := ⟨jR_Main, jT_Main, jt_Main, by decide, rfl, jin_Main, by decide, jmem_2 18 (by decide +kernel) rfl, jty_Main, jnm_Main, fun z => by first | rfl | exact absurd z (by decide), fun z => by first | rfl | exact absurd z (by decide)⟩
theorem jf_Main_45 : jF "YesNoPowers" 45 8 5 8 := ⟨jR_Main, jT_Main, jt_Main, by decide, rfl, jin_Main, by decide, jmem_2 19 (by decide +kernel) rfl, jty_Main, jnm_Main, fun z => by first | rfl | exact absurd z (by decide), fun z => by first | rfl | exact absurd z (by decide)⟩
theorem jf_Main_54 : jF "YesNoPowers" 54 8 6 8 := ⟨jR_Main, jT_Main, jt_Main, by decide, rfl, jin_Main, by decide, jmem_2 20 (by decide +kernel) rfl, jty_Main, jnm_Main, fun z => by first | rfl | exact absurd z (by decide), fun z => by first | rfl | exact absurd z (by decide)⟩
theorem jf_Main_59 : jF "YesNoPowers" 59 8 7 8 := ⟨jR_Main, jT_Main, jt_Main, by decide, rfl, jin_Main, by decide, jmem_2 21 (by decide +kernel) rfl, jty_Main, jnm_Main, fun z => by first | rfl | exact absurd z (by decide), fun z => by first | rfl | exact absurd z (by decide)⟩
theorem jk_Law_13 : Cond.methodLink "YesNoPowersLaw" 13 jy_Main_make ∈ jtbl := jmem_2 39 (by decide +kernel) rfl
theorem jk_Main_64 : Cond.methodLink "YesNoPowers" 64 jy_Main_noSlot ∈ jtbl := jmem_2 43 (by decide +kernel) rfl
theorem jk_Main_71 : Cond.methodLink "YesNoPowers" 71 jy_Main_outOf ∈ jtbl := jmem_2 46 (by decide +kernel) rfl
theorem jk_Main_68 : Cond.methodLink "YesNoPowers" 68 jy_Main_noSize ∈ jtbl := jmem_2 49 (by decide +kernel) rfl
theorem jk_Main_75 : Cond.methodLink "YesNoPowers" 75 jy_Table_becomePlain ∈ jtbl := jmem_2 52 (by decide +kernel) rfl
theorem jk_Table_19 : Cond.methodLink "YesNoPowers$Table" 19 jy_Table_allColumns ∈ jtbl := jmem_2 56 (by decide +kernel) rfl
theorem jk_Main_79 : Cond.methodLink "YesNoPowers" 79 jy_Main_hold ∈ jtbl := jmem_2 60 (by decide +kernel) rfl
theorem jk_Main_341 : Cond.methodLink "YesNoPowers" 341 jy_Log_note ∈ jtbl := jmem_2 64 (by decide +kernel) rfl
theorem jk_Log_24 : Cond.methodLink "YesNoPowers$Log" 24 jy_Table_become ∈ jtbl := jmem_2 68 (by decide +kernel) rfl
theorem jk_Log_31 : Cond.methodLink "YesNoPowers$Log" 31 jy_J_min ∈ jtbl := jmem_2 72 (by decide +kernel) rfl
theorem jk_Main_87 : Cond.methodLink "YesNoPowers" 87 jy_Table_become ∈ jtbl := jmem_2 75 (by decide +kernel) rfl
theorem jk_Law_18 : Cond.methodLink "YesNoPowersLaw" 18 jy_Main_put ∈ jtbl := jmem_2 76 (by decide +kernel) rfl
theorem jk_Main_83 : Cond.methodLink "YesNoPowers" 83 jy_Main_noMember ∈ jtbl := jmem_2 80 (by decide +kernel) rfl
theorem jk_Main_105 : Cond.methodLink "YesNoPowers" 105 jy_Main_noTable ∈ jtbl := jmem_2 84 (by decide +kernel) rfl
theorem jk_Main_91 : Cond.methodLink "YesNoPowers" 91 jy_Table_entry ∈ jtbl := jmem_2 88 (by decide +kernel) rfl
theorem jk_Law_23 : Cond.methodLink "YesNoPowersLaw" 23 jy_Main_at ∈ jtbl := jmem_2 92 (by decide +kernel) rfl
theorem jk_Law_27 : Cond.methodLink "YesNoPowersLaw" 27 jy_Main_line ∈ jtbl := jmem_2 96 (by decide +kernel) rfl
theorem jk_Main_99 : Cond.methodLink "YesNoPowers" 99 jy_Table_column ∈ jtbl := jmem_2 100 (by decide +kernel) rfl
theorem jk_Table_23 : Cond.methodLink "YesNoPowers$Table" 23 jy_Table_entry ∈ jtbl := jmem_2 104 (by decide +kernel) rfl
theorem jk_Law_31 : Cond.methodLink "YesNoPowersLaw" 31 jy_Main_setRow ∈ jtbl := jmem_2 105 (by decide +kernel) rfl
theorem jk_Main_102 : Cond.methodLink "YesNoPowers" 102 jy_Table_lacksColumnOf ∈ jtbl := jmem_2 109 (by decide +kernel) rfl
theorem jk_Law_35 : Cond.methodLink "YesNoPowersLaw" 35 jy_Main_times ∈ jtbl := jmem_2 113 (by decide +kernel) rfl
theorem jk_Main_112 : Cond.methodLink "YesNoPowers" 112 jy_Table_multiplyBy ∈ jtbl := jmem_2 117 (by decide +kernel) rfl
theorem jk_Law_39 : Cond.methodLink "YesNoPowersLaw" 39 jy_Main_plus ∈ jtbl := jmem_2 121 (by decide +kernel) rfl
theorem jk_Main_115 : Cond.methodLink "YesNoPowers" 115 jy_Table_join ∈ jtbl := jmem_2 125 (by decide +kernel) rfl
theorem jk_Law_43 : Cond.methodLink "YesNoPowersLaw" 43 jy_Main_power ∈ jtbl := jmem_2 129 (by decide +kernel) rfl
theorem jk_Main_118 : Cond.constant "YesNoPowers" 118 (1000000) ∈ jtbl := jmem_2 133 (by decide +kernel) rfl
theorem jk_Main_119 : Cond.methodLink "YesNoPowers" 119 jy_Powers_raise ∈ jtbl := jmem_2 134 (by decide +kernel) rfl
theorem jk_Powers_23 : Cond.methodLink "YesNoPowers$Powers" 23 jy_Table_becomePlain ∈ jtbl := jmem_2 138 (by decide +kernel) rfl
theorem jk_Powers_27 : Cond.methodLink "YesNoPowers$Powers" 27 jy_Table_become ∈ jtbl := jmem_2 139 (by decide +kernel) rfl
theorem jk_Powers_31 : Cond.methodLink "YesNoPowers$Powers" 31 jy_Table_multiplyBy ∈ jtbl := jmem_2 140 (by decide +kernel) rfl
theorem jk_Law_47 : Cond.methodLink "YesNoPowersLaw" 47 jy_Main_derive ∈ jtbl := jmem_2 141 (by decide +kernel) rfl
theorem jk_Main_123 : Cond.methodLink "YesNoPowers" 123 jy_Table_turn ∈ jtbl := jmem_2 145 (by decide +kernel) rfl
theorem jk_Table_33 : Cond.methodLink "YesNoPowers$Table" 33 jy_Table_column ∈ jtbl := jmem_2 149 (by decide +kernel) rfl
theorem jk_Main_126 : Cond.methodLink "YesNoPowers" 126 jy_Spaces_findGreatest ∈ jtbl := jmem_2 150 (by decide +kernel) rfl
theorem jk_Spaces_55 : Cond.methodLink "YesNoPowers$Spaces" 55 jy_Table_turn ∈ jtbl := jmem_2 154 (by decide +kernel) rfl
theorem jk_Spaces_51 : Cond.methodLink "YesNoPowers$Spaces" 51 jy_Table_become ∈ jtbl := jmem_2 155 (by decide +kernel) rfl
theorem jk_Spaces_62 : Cond.methodLink "YesNoPowers$Spaces" 62 jy_Table_negate ∈ jtbl := jmem_2 156 (by decide +kernel) rfl
theorem jk_Spaces_65 : Cond.methodLink "YesNoPowers$Spaces" 65 jy_Table_multiplyBy ∈ jtbl := jmem_2 160 (by decide +kernel) rfl
theorem jk_Main_130 : Cond.methodLink "YesNoPowers" 130 jy_Table_negate ∈ jtbl := jmem_2 161 (by decide +kernel) rfl
theorem jk_Main_133 : Cond.methodLink "YesNoPowers" 133 jy_Table_close ∈ jtbl := jmem_2 162 (by decide +kernel) rfl
theorem jk_Law_51 : Cond.methodLink "YesNoPowersLaw" 51 jy_Main_clear ∈ jtbl := jmem_2 166 (by decide +kernel) rfl
theorem jk_Law_56 : Cond.methodLink "YesNoPowersLaw" 56 jy_Main_same ∈ jtbl := jmem_2 170 (by decide +kernel) rfl
theorem jk_Main_136 : Cond.methodLink "YesNoPowers" 136 jy_Table_isLike ∈ jtbl := jmem_2 174 (by decide +kernel) rfl
theorem jk_Law_61 : Cond.methodLink "YesNoPowersLaw" 61 jy_Main_load ∈ jtbl := jmem_2 178 (by decide +kernel) rfl
theorem jk_Main_140 : Cond.methodLink "YesNoPowers" 140 jy_Main_noSheet ∈ jtbl := jmem_2 182 (by decide +kernel) rfl
theorem jk_Main_143 : Cond.methodLink "YesNoPowers" 143 jy_Sheet_isMissing ∈ jtbl := jmem_2 185 (by decide +kernel) rfl
theorem jk_Main_147 : Cond.methodLink "YesNoPowers" 147 jy_Sheet_lacks ∈ jtbl := jmem_2 189 (by decide +kernel) rfl
theorem jk_Main_150 : Cond.methodLink "YesNoPowers" 150 jy_Sheet_rowAt ∈ jtbl := jmem_2 193 (by decide +kernel) rfl
theorem jk_Law_65 : Cond.methodLink "YesNoPowersLaw" 65 jy_Main_spill ∈ jtbl := jmem_2 197 (by decide +kernel) rfl
theorem jk_Main_156 : Cond.methodLink "YesNoPowers" 156 jy_J_min ∈ jtbl := jmem_2 201 (by decide +kernel) rfl
theorem jk_Main_161 : Cond.methodLink "YesNoPowers" 161 jy_Sheet_write ∈ jtbl := jmem_2 202 (by decide +kernel) rfl
theorem jk_Law_69 : Cond.methodLink "YesNoPowersLaw" 69 jy_Main_told ∈ jtbl := jmem_2 206 (by decide +kernel) rfl
theorem jk_Main_164 : Cond.methodLink "YesNoPowers" 164 jy_Powers_exponent ∈ jtbl := jmem_2 210 (by decide +kernel) rfl
theorem jk_Powers_50 : Cond.methodLink "YesNoPowers$Powers" 50 jy_Table_isEverywhere ∈ jtbl := jmem_2 214 (by decide +kernel) rfl
theorem jk_Main_168 : Cond.methodLink "YesNoPowers" 168 jy_Table_ones ∈ jtbl := jmem_2 218 (by decide +kernel) rfl
theorem jk_Table_27 : Cond.methodLink "YesNoPowers$Table" 27 jy_J_bitCount ∈ jtbl := jmem_2 222 (by decide +kernel) rfl
theorem jk_JInt_265 : Cond.constant "java/lang/Integer" 265 (1431655765) ∈ jtbl := jmem_2 225 (by decide +kernel) rfl
theorem jk_JInt_266 : Cond.constant "java/lang/Integer" 266 (858993459) ∈ jtbl := jmem_2 226 (by decide +kernel) rfl
theorem jk_JInt_267 : Cond.constant "java/lang/Integer" 267 (252645135) ∈ jtbl := jmem_2 227 (by decide +kernel) rfl
theorem jk_Main_172 : Cond.methodLink "YesNoPowers" 172 jy_Main_isOwnSquare ∈ jtbl := jmem_2 228 (by decide +kernel) rfl
theorem jk_Main_175 : Cond.methodLink "YesNoPowers" 175 jy_Main_isOwnTranspose ∈ jtbl := jmem_2 232 (by decide +kernel) rfl
theorem jk_Main_178 : Cond.methodLink "YesNoPowers" 178 jy_Powers_findCycle ∈ jtbl := jmem_2 236 (by decide +kernel) rfl
theorem jk_Powers_34 : Cond.methodLink "YesNoPowers$Powers" 34 jy_Powers_findPeriod ∈ jtbl := jmem_3 0 (by decide +kernel) rfl
theorem jk_Powers_43 : Cond.methodLink "YesNoPowers$Powers" 43 jy_Table_isLike ∈ jtbl := jmem_3 4 (by decide +kernel) rfl
theorem jk_Powers_37 : Cond.methodLink "YesNoPowers$Powers" 37 jy_Powers_findIndex ∈ jtbl := jmem_3 5 (by decide +kernel) rfl
theorem jk_Main_187 : Cond.methodLink "YesNoPowers" 187 jy_Powers_idempotent ∈ jtbl := jmem_3 9 (by decide +kernel) rfl
theorem jk_Law_73 : Cond.methodLink "YesNoPowersLaw" 73 jy_Main_reaches ∈ jtbl := jmem_3 13 (by decide +kernel) rfl
theorem jk_Main_190 : Cond.methodLink "YesNoPowers" 190 jy_Powers_firstLike ∈ jtbl := jmem_3 17 (by decide +kernel) rfl
theorem jk_Law_77 : Cond.methodLink "YesNoPowersLaw" 77 jy_Main_bound ∈ jtbl := jmem_3 21 (by decide +kernel) rfl
theorem jk_Main_194 : Cond.methodLink "YesNoPowers" 194 jy_Rings_read ∈ jtbl := jmem_3 25 (by decide +kernel) rfl
theorem jk_Rings_44 : Cond.methodLink "YesNoPowers$Rings" 44 jy_Rings_findClasses ∈ jtbl := jmem_3 29 (by decide +kernel) rfl
theorem jk_Rings_69 : Cond.methodLink "YesNoPowers$Rings" 69 jy_Table_become ∈ jtbl := jmem_3 33 (by decide +kernel) rfl
theorem jk_Rings_72 : Cond.methodLink "YesNoPowers$Rings" 72 jy_Table_close ∈ jtbl := jmem_3 34 (by decide +kernel) rfl
theorem jk_Rings_81 : Cond.methodLink "YesNoPowers$Rings" 81 jy_Table_column ∈ jtbl := jmem_3 35 (by decide +kernel) rfl
theorem jk_Rings_85 : Cond.methodLink "YesNoPowers$Rings" 85 jy_Rings_settle ∈ jtbl := jmem_3 36 (by decide +kernel) rfl
theorem jk_Rings_48 : Cond.methodLink "YesNoPowers$Rings" 48 jy_Rings_findGirths ∈ jtbl := jmem_3 40 (by decide +kernel) rfl
theorem jk_Rings_89 : Cond.methodLink "YesNoPowers$Rings" 89 jy_Table_entry ∈ jtbl := jmem_3 44 (by decide +kernel) rfl
theorem jk_Rings_93 : Cond.methodLink "YesNoPowers$Rings" 93 jy_Table_multiplyBy ∈ jtbl := jmem_3 45 (by decide +kernel) rfl
theorem jk_Rings_51 : Cond.methodLink "YesNoPowers$Rings" 51 jy_Rings_findLevels ∈ jtbl := jmem_3 46 (by decide +kernel) rfl
theorem jk_Rings_96 : Cond.methodLink "YesNoPowers$Rings" 96 jy_Rings_raiseLevels ∈ jtbl := jmem_3 50 (by decide +kernel) rfl
theorem jk_Rings_58 : Cond.methodLink "YesNoPowers$Rings" 58 jy_Rings_findDistances ∈ jtbl := jmem_3 54 (by decide +kernel) rfl
theorem jk_Rings_62 : Cond.methodLink "YesNoPowers$Rings" 62 jy_Rings_findPeriod ∈ jtbl := jmem_3 58 (by decide +kernel) rfl
theorem jk_Rings_99 : Cond.methodLink "YesNoPowers$Rings" 99 jy_J_abs ∈ jtbl := jmem_3 62 (by decide +kernel) rfl
theorem jk_Rings_104 : Cond.methodLink "YesNoPowers$Rings" 104 jy_Rings_commonDivisor ∈ jtbl := jmem_3 65 (by decide +kernel) rfl
theorem jk_Rings_65 : Cond.methodLink "YesNoPowers$Rings" 65 jy_Rings_findBelow ∈ jtbl := jmem_3 68 (by decide +kernel) rfl
theorem jk_Main_200 : Cond.methodLink "YesNoPowers" 200 jy_Table_loops ∈ jtbl := jmem_3 72 (by decide +kernel) rfl
theorem jk_Law_81 : Cond.methodLink "YesNoPowersLaw" 81 jy_Main_classes ∈ jtbl := jmem_3 76 (by decide +kernel) rfl
theorem jk_Law_85 : Cond.methodLink "YesNoPowersLaw" 85 jy_Main_classOf ∈ jtbl := jmem_3 80 (by decide +kernel) rfl
theorem jk_Law_89 : Cond.methodLink "YesNoPowersLaw" 89 jy_Main_ofClass ∈ jtbl := jmem_3 84 (by decide +kernel) rfl
theorem jk_Main_209 : Cond.methodLink "YesNoPowers" 209 jy_Main_readsClass ∈ jtbl := jmem_3 88 (by decide +kernel) rfl
theorem jk_Main_218 : Cond.methodLink "YesNoPowers" 218 jy_J_bitCount ∈ jtbl := jmem_3 92 (by decide +kernel) rfl
theorem jk_Law_93 : Cond.methodLink "YesNoPowersLaw" 93 jy_Main_part ∈ jtbl := jmem_3 93 (by decide +kernel) rfl
theorem jk_Main_231 : Cond.methodLink "YesNoPowers" 231 jy_Rings_partOf ∈ jtbl := jmem_3 97 (by decide +kernel) rfl
theorem jk_Law_97 : Cond.methodLink "YesNoPowersLaw" 97 jy_Main_parts ∈ jtbl := jmem_3 101 (by decide +kernel) rfl
theorem jk_Law_101 : Cond.methodLink "YesNoPowersLaw" 101 jy_Main_rest ∈ jtbl := jmem_3 105 (by decide +kernel) rfl
theorem jk_Main_234 : Cond.methodLink "YesNoPowers" 234 jy_J_floorMod ∈ jtbl := jmem_3 109 (by decide +kernel) rfl
theorem jk_Law_105 : Cond.methodLink "YesNoPowersLaw" 105 jy_Main_space ∈ jtbl := jmem_3 112 (by decide +kernel) rfl
theorem jk_Main_237 : Cond.methodLink "YesNoPowers" 237 jy_Spaces_isRegular ∈ jtbl := jmem_3 116 (by decide +kernel) rfl
theorem jk_Spaces_68 : Cond.methodLink "YesNoPowers$Spaces" 68 jy_Spaces_findGreatest ∈ jtbl := jmem_3 120 (by decide +kernel) rfl
theorem jk_Spaces_72 : Cond.methodLink "YesNoPowers$Spaces" 72 jy_Table_isLike ∈ jtbl := jmem_3 121 (by decide +kernel) rfl
theorem jk_Main_240 : Cond.methodLink "YesNoPowers" 240 jy_Spaces_unionsOf ∈ jtbl := jmem_3 122 (by decide +kernel) rfl
theorem jk_Spaces_36 : Cond.methodLink "YesNoPowers$Spaces" 36 jy_Table_allColumns ∈ jtbl := jmem_3 126 (by decide +kernel) rfl
theorem jk_Spaces_40 : Cond.methodLink "YesNoPowers$Spaces" 40 jy_Spaces_hasUnion ∈ jtbl := jmem_3 127 (by decide +kernel) rfl
theorem jk_Main_243 : Cond.methodLink "YesNoPowers" 243 jy_Spaces_basisSize ∈ jtbl := jmem_3 131 (by decide +kernel) rfl
theorem jk_Spaces_44 : Cond.methodLink "YesNoPowers$Spaces" 44 jy_Spaces_nextOfBasis ∈ jtbl := jmem_3 135 (by decide +kernel) rfl
theorem jk_Spaces_48 : Cond.methodLink "YesNoPowers$Spaces" 48 jy_Spaces_isMadeUp ∈ jtbl := jmem_3 139 (by decide +kernel) rfl
theorem jk_Law_109 : Cond.methodLink "YesNoPowersLaw" 109 jy_Main_basis ∈ jtbl := jmem_3 143 (by decide +kernel) rfl
theorem jk_Main_246 : Cond.methodLink "YesNoPowers" 246 jy_Spaces_nextOfBasis ∈ jtbl := jmem_3 147 (by decide +kernel) rfl
theorem jk_Law_113 : Cond.methodLink "YesNoPowersLaw" 113 jy_Main_spans ∈ jtbl := jmem_3 148 (by decide +kernel) rfl
theorem jk_Main_250 : Cond.methodLink "YesNoPowers" 250 jy_Spaces_hasUnion ∈ jtbl := jmem_3 152 (by decide +kernel) rfl
theorem jk_Law_117 : Cond.methodLink "YesNoPowersLaw" 117 jy_Main_alike ∈ jtbl := jmem_3 153 (by decide +kernel) rfl
theorem jk_Main_254 : Cond.methodLink "YesNoPowers" 254 jy_Spaces_areAlike ∈ jtbl := jmem_3 157 (by decide +kernel) rfl
theorem jk_Spaces_58 : Cond.methodLink "YesNoPowers$Spaces" 58 jy_Spaces_spansRows ∈ jtbl := jmem_3 161 (by decide +kernel) rfl
theorem jk_Law_121 : Cond.methodLink "YesNoPowersLaw" 121 jy_Main_roots ∈ jtbl := jmem_3 165 (by decide +kernel) rfl
theorem jk_Main_258 : Cond.methodLink "YesNoPowers" 258 jy_Table_number ∈ jtbl := jmem_3 169 (by decide +kernel) rfl
theorem jk_Main_260 : Cond.methodLink "YesNoPowers" 260 jy_Roots_countOf ∈ jtbl := jmem_3 173 (by decide +kernel) rfl
theorem jk_Roots_7 : Cond.methodLink "YesNoPowers$Roots" 7 jy_Roots_countBelow ∈ jtbl := jmem_3 176 (by decide +kernel) rfl
theorem jk_Roots_16 : Cond.methodLink "YesNoPowers$Roots" 16 jy_Roots_raised ∈ jtbl := jmem_3 179 (by decide +kernel) rfl
theorem jk_Roots_20 : Cond.methodLink "YesNoPowers$Roots" 20 jy_Roots_product ∈ jtbl := jmem_3 182 (by decide +kernel) rfl
theorem jk_Roots_23 : Cond.fieldLink "YesNoPowers$Roots" 23 "YesNoPowers$Roots" "ROW_STARTS" "[I" ∈ jtbl := jmem_3 185 (by decide +kernel) rfl
theorem jk_Law_125 : Cond.methodLink "YesNoPowersLaw" 125 jy_Main_root ∈ jtbl := jmem_3 187 (by decide +kernel) rfl
theorem jk_Main_266 : Cond.methodLink "YesNoPowers" 266 jy_Roots_leastOf ∈ jtbl := jmem_3 191 (by decide +kernel) rfl
theorem jk_Roots_13 : Cond.methodLink "YesNoPowers$Roots" 13 jy_Roots_leastBelow ∈ jtbl := jmem_3 194 (by decide +kernel) rfl
theorem jk_Main_269 : Cond.methodLink "YesNoPowers" 269 jy_Table_becomeNumbered ∈ jtbl := jmem_3 197 (by decide +kernel) rfl
theorem jk_Law_129 : Cond.methodLink "YesNoPowersLaw" 129 jy_Main_link ∈ jtbl := jmem_3 201 (by decide +kernel) rfl
theorem jk_Main_272 : Cond.methodLink "YesNoPowers" 272 jy_Main_badForKind ∈ jtbl := jmem_3 205 (by decide +kernel) rfl
theorem jk_Main_275 : Cond.methodLink "YesNoPowers" 275 jy_Chain_isFull ∈ jtbl := jmem_3 209 (by decide +kernel) rfl
theorem jk_Main_278 : Cond.methodLink "YesNoPowers" 278 jy_Chain_append ∈ jtbl := jmem_3 213 (by decide +kernel) rfl
theorem jk_Chain_44 : Cond.methodLink "YesNoPowers$Chain" 44 jy_Chain_isFull ∈ jtbl := jmem_3 217 (by decide +kernel) rfl
theorem jk_Chain_57 : Cond.methodLink "YesNoPowers$Chain" 57 jy_Table_become ∈ jtbl := jmem_3 218 (by decide +kernel) rfl
theorem jk_Law_133 : Cond.methodLink "YesNoPowersLaw" 133 jy_Main_run ∈ jtbl := jmem_3 219 (by decide +kernel) rfl
theorem jk_Main_283 : Cond.methodLink "YesNoPowers" 283 jy_Chain_pass ∈ jtbl := jmem_3 223 (by decide +kernel) rfl
theorem jk_Chain_70 : Cond.methodLink "YesNoPowers$Chain" 70 jy_Chain_partner ∈ jtbl := jmem_3 227 (by decide +kernel) rfl
theorem jk_Chain_77 : Cond.methodLink "YesNoPowers$Chain" 77 jy_Chain_change ∈ jtbl := jmem_3 231 (by decide +kernel) rfl
theorem jk_Chain_88 : Cond.methodLink "YesNoPowers$Chain" 88 jy_Table_turn ∈ jtbl := jmem_3 235 (by decide +kernel) rfl
theorem jk_Chain_91 : Cond.methodLink "YesNoPowers$Chain" 91 jy_Table_negate ∈ jtbl := jmem_3 236 (by decide +kernel) rfl
theorem jk_Chain_94 : Cond.methodLink "YesNoPowers$Chain" 94 jy_Table_multiplyBy ∈ jtbl := jmem_3 237 (by decide +kernel) rfl
theorem jk_Chain_97 : Cond.methodLink "YesNoPowers$Chain" 97 jy_Table_join ∈ jtbl := jmem_3 238 (by decide +kernel) rfl
theorem jk_Chain_100 : Cond.methodLink "YesNoPowers$Chain" 100 jy_Powers_raise ∈ jtbl := jmem_3 239 (by decide +kernel) rfl
theorem jk_Chain_106 : Cond.methodLink "YesNoPowers$Chain" 106 jy_Table_close ∈ jtbl := jmem_4 0 (by decide +kernel) rfl
theorem jk_Chain_109 : Cond.methodLink "YesNoPowers$Chain" 109 jy_Table_meet ∈ jtbl := jmem_4 1 (by decide +kernel) rfl
theorem jk_Chain_81 : Cond.methodLink "YesNoPowers$Chain" 81 jy_Chain_giveReasons ∈ jtbl := jmem_4 5 (by decide +kernel) rfl
theorem jk_Chain_85 : Cond.methodLink "YesNoPowers$Chain" 85 jy_Chain_giveBack ∈ jtbl := jmem_4 9 (by decide +kernel) rfl
theorem jk_Law_137 : Cond.methodLink "YesNoPowersLaw" 137 jy_Main_would ∈ jtbl := jmem_4 13 (by decide +kernel) rfl
theorem jk_Law_141 : Cond.methodLink "YesNoPowersLaw" 141 jy_Main_closing ∈ jtbl := jmem_4 17 (by decide +kernel) rfl
theorem jk_Law_145 : Cond.methodLink "YesNoPowersLaw" 145 jy_Main_reason ∈ jtbl := jmem_4 21 (by decide +kernel) rfl
theorem jk_Law_149 : Cond.methodLink "YesNoPowersLaw" 149 jy_Main_loosen ∈ jtbl := jmem_4 25 (by decide +kernel) rfl
theorem jk_Law_154 : Cond.methodLink "YesNoPowersLaw" 154 jy_Main_undo ∈ jtbl := jmem_4 29 (by decide +kernel) rfl
theorem jk_Main_305 : Cond.methodLink "YesNoPowers" 305 jy_Log_latestSlot ∈ jtbl := jmem_4 33 (by decide +kernel) rfl
theorem jk_Log_37 : Cond.methodLink "YesNoPowers$Log" 37 jy_Log_latest ∈ jtbl := jmem_4 37 (by decide +kernel) rfl
theorem jk_Main_308 : Cond.methodLink "YesNoPowers" 308 jy_Log_latestTable ∈ jtbl := jmem_4 41 (by decide +kernel) rfl
theorem jk_Main_312 : Cond.methodLink "YesNoPowers" 312 jy_Log_dropLatest ∈ jtbl := jmem_4 45 (by decide +kernel) rfl
theorem jk_Law_158 : Cond.methodLink "YesNoPowersLaw" 158 jy_Main_sheet ∈ jtbl := jmem_4 49 (by decide +kernel) rfl
theorem jk_Main_315 : Cond.methodLink "YesNoPowers" 315 jy_Sheet_begin ∈ jtbl := jmem_4 53 (by decide +kernel) rfl
theorem jk_Law_162 : Cond.methodLink "YesNoPowersLaw" 162 jy_Main_cell ∈ jtbl := jmem_4 57 (by decide +kernel) rfl
theorem jk_Law_166 : Cond.methodLink "YesNoPowersLaw" 166 jy_Main_item ∈ jtbl := jmem_4 61 (by decide +kernel) rfl
theorem jk_Main_318 : Cond.constantLong "YesNoPowers" 318 (-9223372036854775808) ∈ jtbl := jmem_4 65 (by decide +kernel) rfl
theorem jk_Law_171 : Cond.methodLink "YesNoPowersLaw" 171 jy_Main_shift ∈ jtbl := jmem_4 66 (by decide +kernel) rfl
theorem jk_Main_326 : Cond.methodLink "YesNoPowers" 326 arraycopyName ∈ jtbl := jmem_4 70 (by decide +kernel) rfl
theorem jk_Law_176 : Cond.methodLink "YesNoPowersLaw" 176 jy_Main_count ∈ jtbl := jmem_4 73 (by decide +kernel) rfl
theorem jk_Main_332 : Cond.methodLink "YesNoPowers" 332 jy_Main_heldTables ∈ jtbl := jmem_4 77 (by decide +kernel) rfl
theorem jk_Main_335 : Cond.methodLink "YesNoPowers" 335 jy_Main_presentSheets ∈ jtbl := jmem_4 81 (by decide +kernel) rfl
theorem jf_Model_7 : jF "YesNoPowersModel" 7 9 0 24 := ⟨jR_Model, jT_Model, jt_Model, by decide, rfl, jin_Model, by decide, jmem_4 91 (by decide +kernel) rfl, jty_Model, jnm_Model, fun z => by first | rfl | exact absurd z (by decide), fun z => by first | rfl | exact absurd z (by decide)⟩
theorem jf_Model_13 : jF "YesNoPowersModel" 13 9 1 24 := ⟨jR_Model, jT_Model, jt_Model, by decide, rfl, jin_Model, by decide, jmem_4 92 (by decide +kernel) rfl, jty_Model, jnm_Model, fun z => by first | rfl | exact absurd z (by decide), fun z => by first | rfl | exact absurd z (by decide)⟩
theorem jf_Model_59 : jF "YesNoPowersModel" 59 9 2 24 := ⟨jR_Model, jT_Model, jt_Model, by decide, rfl, jin_Model, by decide, jmem_4 93 (by decide +kernel) rfl, jty_Model, jnm_Model, fun z => by first | rfl | exact absurd z (by decide), fun z => by first | rfl | exact absurd z (by decide)⟩
theorem jf_Model_16 : jF "YesNoPowersModel" 16 9 3 24 := ⟨jR_Model, jT_Model, jt_Model, by decide, rfl, jin_Model, by decide, jmem_4 94 (by decide +kernel) rfl, jty_Model, jnm_Model, fun z => by first | rfl | exact absurd z (by decide), fun z => by first | rfl | exact absurd z (by decide)⟩
theorem jf_Model_252 : jF "YesNoPowersModel" 252 9 4 24 := ⟨jR_Model, jT_Model, jt_Model, by decide, rfl, jin_Model, by decide, jmem_4 95 (by decide +kernel) rfl, jty_Model, jnm_Model, fun z => by first | rfl | exact absurd z (by decide), fun z => by first | rfl | exact absurd z (by decide)⟩
theorem jf_Model_19 : jF "YesNoPowersModel" 19 9 5 24 := ⟨jR_Model, jT_Model, jt_Model, by decide, rfl, jin_Model, by decide, jmem_4 96 (by decide +kernel) rfl, jty_Model, jnm_Model, fun z => by first | rfl | exact absurd z (by decide), fun z => by first | rfl | exact absurd z (by decide)⟩
theorem jf_Model_22 : jF "YesNoPowersModel" 22 9 6 24 := ⟨jR_Model, jT_Model, jt_Model, by decide, rfl, jin_Model, by decide, jmem_4 97 (by decide +kernel) rfl, jty_Model, jnm_Model, fun z => by first | rfl | exact absurd z (by decide), fun z => by first | rfl | exact absurd z (by decide)⟩
theorem jf_Model_261 : jF "YesNoPowersModel" 261 9 7 24 := ⟨jR_Model, jT_Model, jt_Model, by decide, rfl, jin_Model, by decide, jmem_4 98 (by decide +kernel) rfl, jty_Model, jnm_Model, fun z => by first | rfl | exact absurd z (by decide), fun z => by first | rfl | exact absurd z (by decide)⟩
theorem jf_Model_264 : jF "YesNoPowersModel" 264 9 8 24 := ⟨jR_Model, jT_Model, jt_Model, by decide, rfl, jin_Model, by decide, jmem_4 99 (by decide +kernel) rfl, jty_Model, jnm_Model, fun z => by first | rfl | exact absurd z (by decide), fun z => by first | rfl | exact absurd z (by decide)⟩
theorem jf_Model_25 : jF "YesNoPowersModel" 25 9 9 24 := ⟨jR_Model, jT_Model, jt_Model, by decide, rfl, jin_Model, by decide, jmem_4 100 (by decide +kernel) rfl, jty_Model, jnm_Model, fun z => by first | rfl | exact absurd z (by decide), fun z => by first | rfl | exact absurd z (by decide)⟩
theorem jf_Model_28 : jF "YesNoPowersModel" 28 9 10 24 := ⟨jR_Model, jT_Model, jt_Model, by decide, rfl, jin_Model, by decide, jmem_4 101 (by decide +kernel) rfl, jty_Model, jnm_Model, fun z => by first | rfl | exact absurd z (by decide), fun z => by first | rfl | exact absurd z (by decide)⟩
theorem jf_Model_147 : jF "YesNoPowersModel" 147 9 11 24 := ⟨jR_Model, jT_Model, jt_Model, by decide, rfl, jin_Model, by decide, jmem_4 102 (by decide +kernel) rfl, jty_Model, jnm_Model, fun z => by first | rfl | exact absurd z (by decide), fun z => by first | rfl | exact absurd z (by decide)⟩
theorem jf_Model_153 : jF "YesNoPowersModel" 153 9 12 24 := ⟨jR_Model, jT_Model, jt_Model, by decide, rfl, jin_Model, by decide, jmem_4 103 (by decide +kernel) rfl, jty_Model, jnm_Model, fun z => by first | rfl | exact absurd z (by decide), fun z => by first | rfl | exact absurd z (by decide)⟩
theorem jf_Model_183 : jF "YesNoPowersModel" 183 9 13 24 := ⟨jR_Model, jT_Model, jt_Model, by decide, rfl, jin_Model, by decide, jmem_4 104 (by decide +kernel) rfl, jty_Model, jnm_Model, fun z => by first | rfl | exact absurd z (by decide), fun z => by first | rfl | exact absurd z (by decide)⟩
theorem jf_Model_31 : jF "YesNoPowersModel" 31 9 14 24 := ⟨jR_Model, jT_Model, jt_Model, by decide, rfl, jin_Model, by decide, jmem_4 105 (by decide +kernel) rfl, jty_Model, jnm_Model, fun z => by first | rfl | exact absurd z (by decide), fun z => by first | rfl | exact absurd z (by decide)⟩
theorem jf_Model_34 : jF "YesNoPowersModel" 34 9 15 24 := ⟨jR_Model, jT_Model, jt_Model, by decide, rfl, jin_Model, by decide, jmem_4 106 (by decide +kernel) rfl, jty_Model, jnm_Model, fun z => by first | rfl | exact absurd z (by decide), fun z => by first | rfl | exact absurd z (by decide)⟩
theorem jf_Model_37 : jF "YesNoPowersModel" 37 9 16 24 := ⟨jR_Model, jT_Model, jt_Model, by decide, rfl, jin_Model, by decide, jmem_4 107 (by decide +kernel) rfl, jty_Model, jnm_Model, fun z => by first | rfl | exact absurd z (by decide), fun z => by first | rfl | exact absurd z (by decide)⟩
theorem jf_Model_40 : jF "YesNoPowersModel" 40 9 17 24 := ⟨jR_Model, jT_Model, jt_Model, by decide, rfl, jin_Model, by decide, jmem_4 108 (by decide +kernel) rfl, jty_Model, jnm_Model, fun z => by first | rfl | exact absurd z (by decide), fun z => by first | rfl | exact absurd z (by decide)⟩
theorem jf_Model_43 : jF "YesNoPowersModel" 43 9 18 24 := ⟨jR_Model, jT_Model, jt_Model, by decide, rfl, jin_Model, by decide, jmem_4 109 (by decide +kernel) rfl, jty_Model, jnm_Model, fun z => by first | rfl | exact absurd z (by decide), fun z => by first | rfl | exact absurd z (by decide)⟩
theorem jf_Model_47 : jF "YesNoPowersModel" 47 9 19 24 := ⟨jR_Model, jT_Model, jt_Model, by decide, rfl, jin_Model, by decide, jmem_4 110 (by decide +kernel) rfl, jty_Model, jnm_Model, fun z => by first | rfl | exact absurd z (by decide), fun z => by first | rfl | exact absurd z (by decide)⟩
theorem jf_Model_219 : jF "YesNoPowersModel" 219 9 20 24 := ⟨jR_Model, jT_Model, jt_Model, by decide, rfl, jin_Model, by decide, jmem_4 111 (by decide +kernel) rfl, jty_Model, jnm_Model, fun z => by first | rfl | exact absurd z (by decide), fun z => by first | rfl | exact absurd z (by decide)⟩
theorem jf_Model_50 : jF "YesNoPowersModel" 50 9 21 24 := ⟨jR_Model, jT_Model, jt_Model, by decide, rfl, jin_Model, by decide, jmem_4 112 (by decide +kernel) rfl, jty_Model, jnm_Model, fun z => by first | rfl | exact absurd z (by decide), fun z => by first | rfl | exact absurd z (by decide)⟩
theorem jf_Model_53 : jF "YesNoPowersModel" 53 9 22 24 := ⟨jR_Model, jT_Model, jt_Model, by decide, rfl, jin_Model, by decide, jmem_4 113 (by decide +kernel) rfl, jty_Model, jnm_Model, fun z => by first | rfl | exact absurd z (by decide), fun z => by first | rfl | exact absurd z (by decide)⟩
theorem jf_Model_56 : jF "YesNoPowersModel" 56 9 23 24 := ⟨jR_Model, jT_Model, jt_Model, by decide, rfl, jin_Model, by decide, jmem_4 114 (by decide +kernel) rfl, jty_Model, jnm_Model, fun z => by first | rfl | exact absurd z (by decide), fun z => by first | rfl | exact absurd z (by decide)⟩
theorem jk_Law_157 : Cond.methodLink "YesNoPowersLaw" 157 jy_Model_undo ∈ jtbl := jmem_4 165 (by decide +kernel) rfl
theorem jk_Model_85 : Cond.methodLink "YesNoPowersModel" 85 jy_Model_copyTo ∈ jtbl := jmem_4 169 (by decide +kernel) rfl
theorem jk_Law_17 : Cond.methodLink "YesNoPowersLaw" 17 jy_Model_make ∈ jtbl := jmem_4 173 (by decide +kernel) rfl
theorem jk_Model_63 : Cond.methodLink "YesNoPowersModel" 63 jy_Model_isSlot ∈ jtbl := jmem_4 177 (by decide +kernel) rfl
theorem jk_Model_105 : Cond.constantLong "YesNoPowersModel" 105 (12) ∈ jtbl := jmem_4 180 (by decide +kernel) rfl
theorem jk_Model_107 : Cond.methodLink "YesNoPowersModel" 107 jy_Model_in ∈ jtbl := jmem_4 181 (by decide +kernel) rfl
theorem jk_Model_111 : Cond.constantLong "YesNoPowersModel" 111 (4) ∈ jtbl := jmem_4 184 (by decide +kernel) rfl
theorem jk_Model_75 : Cond.methodLink "YesNoPowersModel" 75 jy_Model_empty ∈ jtbl := jmem_4 185 (by decide +kernel) rfl
theorem jk_Model_113 : Cond.methodLink "YesNoPowersModel" 113 jy_Model_comes ∈ jtbl := jmem_4 189 (by decide +kernel) rfl
theorem jk_Model_102 : Cond.methodLink "YesNoPowersModel" 102 jy_Model_logs ∈ jtbl := jmem_4 193 (by decide +kernel) rfl
theorem jk_Law_22 : Cond.methodLink "YesNoPowersLaw" 22 jy_Model_put ∈ jtbl := jmem_4 197 (by decide +kernel) rfl
theorem jk_Model_117 : Cond.methodLink "YesNoPowersModel" 117 jy_Model_holds ∈ jtbl := jmem_4 201 (by decide +kernel) rfl
theorem jk_Model_120 : Cond.methodLink "YesNoPowersModel" 120 jy_Model_isMember ∈ jtbl := jmem_4 205 (by decide +kernel) rfl
theorem jk_Model_67 : Cond.methodLink "YesNoPowersModel" 67 jy_Model_leads ∈ jtbl := jmem_4 209 (by decide +kernel) rfl
theorem jk_Model_71 : Cond.methodLink "YesNoPowersModel" 71 jy_Model_row ∈ jtbl := jmem_4 213 (by decide +kernel) rfl
theorem jk_Law_26 : Cond.methodLink "YesNoPowersLaw" 26 jy_Model_at ∈ jtbl := jmem_4 217 (by decide +kernel) rfl
theorem jk_Law_30 : Cond.methodLink "YesNoPowersLaw" 30 jy_Model_line ∈ jtbl := jmem_4 221 (by decide +kernel) rfl
theorem jk_Model_79 : Cond.methodLink "YesNoPowersModel" 79 jy_Model_column ∈ jtbl := jmem_4 225 (by decide +kernel) rfl
theorem jk_Law_34 : Cond.methodLink "YesNoPowersLaw" 34 jy_Model_setRow ∈ jtbl := jmem_4 229 (by decide +kernel) rfl
theorem jk_Model_124 : Cond.methodLink "YesNoPowersModel" 124 jy_Model_isSet ∈ jtbl := jmem_4 233 (by decide +kernel) rfl
theorem jk_Law_38 : Cond.methodLink "YesNoPowersLaw" 38 jy_Model_times ∈ jtbl := jmem_4 237 (by decide +kernel) rfl
theorem jk_Model_88 : Cond.methodLink "YesNoPowersModel" 88 jy_Model_multiply ∈ jtbl := jmem_5 1 (by decide +kernel) rfl
theorem jk_Law_42 : Cond.methodLink "YesNoPowersLaw" 42 jy_Model_plus ∈ jtbl := jmem_5 5 (by decide +kernel) rfl
theorem jk_Model_92 : Cond.methodLink "YesNoPowersModel" 92 jy_Model_addTo ∈ jtbl := jmem_5 9 (by decide +kernel) rfl
theorem jk_Law_46 : Cond.methodLink "YesNoPowersLaw" 46 jy_Model_power ∈ jtbl := jmem_5 13 (by decide +kernel) rfl
theorem jk_Model_127 : Cond.constantLong "YesNoPowersModel" 127 (1000000) ∈ jtbl := jmem_5 17 (by decide +kernel) rfl
theorem jk_Model_129 : Cond.methodLink "YesNoPowersModel" 129 jy_Model_powerTo ∈ jtbl := jmem_5 18 (by decide +kernel) rfl
theorem jk_Model_82 : Cond.methodLink "YesNoPowersModel" 82 jy_Model_unit ∈ jtbl := jmem_5 22 (by decide +kernel) rfl
theorem jk_Law_50 : Cond.methodLink "YesNoPowersLaw" 50 jy_Model_derive ∈ jtbl := jmem_5 26 (by decide +kernel) rfl
theorem jk_Model_95 : Cond.methodLink "YesNoPowersModel" 95 jy_Model_transpose ∈ jtbl := jmem_5 30 (by decide +kernel) rfl
theorem jk_Model_98 : Cond.methodLink "YesNoPowersModel" 98 jy_Model_complement ∈ jtbl := jmem_5 34 (by decide +kernel) rfl
theorem jk_Model_132 : Cond.methodLink "YesNoPowersModel" 132 jy_Model_closureTo ∈ jtbl := jmem_5 38 (by decide +kernel) rfl
theorem jk_Model_135 : Cond.methodLink "YesNoPowersModel" 135 jy_Model_greatestTo ∈ jtbl := jmem_5 42 (by decide +kernel) rfl
theorem jk_Law_55 : Cond.methodLink "YesNoPowersLaw" 55 jy_Model_clear ∈ jtbl := jmem_5 46 (by decide +kernel) rfl
theorem jk_Law_60 : Cond.methodLink "YesNoPowersLaw" 60 jy_Model_same ∈ jtbl := jmem_5 50 (by decide +kernel) rfl
theorem jk_Model_138 : Cond.methodLink "YesNoPowersModel" 138 jy_Model_areSame ∈ jtbl := jmem_5 54 (by decide +kernel) rfl
theorem jk_Law_64 : Cond.methodLink "YesNoPowersLaw" 64 jy_Model_load ∈ jtbl := jmem_5 58 (by decide +kernel) rfl
theorem jk_Model_141 : Cond.methodLink "YesNoPowersModel" 141 jy_Model_isSheet ∈ jtbl := jmem_5 62 (by decide +kernel) rfl
theorem jk_Law_68 : Cond.methodLink "YesNoPowersLaw" 68 jy_Model_spill ∈ jtbl := jmem_5 65 (by decide +kernel) rfl
theorem jk_Model_144 : Cond.methodLink "YesNoPowersModel" 144 jy_Model_lowest ∈ jtbl := jmem_5 69 (by decide +kernel) rfl
theorem jk_Law_72 : Cond.methodLink "YesNoPowersLaw" 72 jy_Model_told ∈ jtbl := jmem_5 73 (by decide +kernel) rfl
theorem jk_Model_162 : Cond.constantLong "YesNoPowersModel" 162 (7) ∈ jtbl := jmem_5 77 (by decide +kernel) rfl
theorem jk_Model_164 : Cond.methodLink "YesNoPowersModel" 164 jy_Model_layPowers ∈ jtbl := jmem_5 78 (by decide +kernel) rfl
theorem jk_Model_150 : Cond.methodLink "YesNoPowersModel" 150 jy_Model_isPower ∈ jtbl := jmem_5 82 (by decide +kernel) rfl
theorem jk_Model_167 : Cond.methodLink "YesNoPowersModel" 167 jy_Model_idempotent ∈ jtbl := jmem_5 86 (by decide +kernel) rfl
theorem jk_Model_156 : Cond.methodLink "YesNoPowersModel" 156 jy_Model_spot ∈ jtbl := jmem_5 90 (by decide +kernel) rfl
theorem jk_Model_171 : Cond.methodLink "YesNoPowersModel" 171 jy_Model_exponent ∈ jtbl := jmem_5 94 (by decide +kernel) rfl
theorem jk_Model_174 : Cond.methodLink "YesNoPowersModel" 174 jy_Model_isOwnSquare ∈ jtbl := jmem_5 98 (by decide +kernel) rfl
theorem jk_Model_177 : Cond.methodLink "YesNoPowersModel" 177 jy_Model_isTurned ∈ jtbl := jmem_5 102 (by decide +kernel) rfl
theorem jk_Model_180 : Cond.methodLink "YesNoPowersModel" 180 jy_Model_onesIn ∈ jtbl := jmem_5 106 (by decide +kernel) rfl
theorem jk_Model_159 : Cond.methodLink "YesNoPowersModel" 159 jy_Model_bits ∈ jtbl := jmem_5 110 (by decide +kernel) rfl
theorem jk_Law_76 : Cond.methodLink "YesNoPowersLaw" 76 jy_Model_reaches ∈ jtbl := jmem_5 113 (by decide +kernel) rfl
theorem jk_Law_84 : Cond.methodLink "YesNoPowersLaw" 84 jy_Model_classes ∈ jtbl := jmem_5 117 (by decide +kernel) rfl
theorem jk_Model_192 : Cond.methodLink "YesNoPowersModel" 192 jy_Model_layWalks ∈ jtbl := jmem_5 121 (by decide +kernel) rfl
theorem jk_Law_88 : Cond.methodLink "YesNoPowersLaw" 88 jy_Model_classOf ∈ jtbl := jmem_5 125 (by decide +kernel) rfl
theorem jk_Law_92 : Cond.methodLink "YesNoPowersLaw" 92 jy_Model_ofClass ∈ jtbl := jmem_5 129 (by decide +kernel) rfl
theorem jk_Model_195 : Cond.methodLink "YesNoPowersModel" 195 jy_Model_isClass ∈ jtbl := jmem_5 133 (by decide +kernel) rfl
theorem jk_Model_189 : Cond.methodLink "YesNoPowersModel" 189 jy_Model_leastOf ∈ jtbl := jmem_5 137 (by decide +kernel) rfl
theorem jk_Model_198 : Cond.methodLink "YesNoPowersModel" 198 jy_Model_membersOf ∈ jtbl := jmem_5 141 (by decide +kernel) rfl
theorem jk_Model_201 : Cond.methodLink "YesNoPowersModel" 201 jy_Model_roundsOf ∈ jtbl := jmem_5 145 (by decide +kernel) rfl
theorem jk_Model_186 : Cond.methodLink "YesNoPowersModel" 186 jy_Model_divisor ∈ jtbl := jmem_5 149 (by decide +kernel) rfl
theorem jk_Model_205 : Cond.methodLink "YesNoPowersModel" 205 jy_Model_levelOf ∈ jtbl := jmem_5 152 (by decide +kernel) rfl
theorem jk_Model_208 : Cond.methodLink "YesNoPowersModel" 208 jy_Model_belowOf ∈ jtbl := jmem_5 156 (by decide +kernel) rfl
theorem jk_Law_96 : Cond.methodLink "YesNoPowersLaw" 96 jy_Model_part ∈ jtbl := jmem_5 160 (by decide +kernel) rfl
theorem jk_Model_211 : Cond.methodLink "YesNoPowersModel" 211 jy_Model_partBy ∈ jtbl := jmem_5 164 (by decide +kernel) rfl
theorem jk_Law_100 : Cond.methodLink "YesNoPowersLaw" 100 jy_Model_parts ∈ jtbl := jmem_5 168 (by decide +kernel) rfl
theorem jk_Law_104 : Cond.methodLink "YesNoPowersLaw" 104 jy_Model_rest ∈ jtbl := jmem_5 172 (by decide +kernel) rfl
theorem jk_Law_80 : Cond.methodLink "YesNoPowersLaw" 80 jy_Model_bound ∈ jtbl := jmem_5 176 (by decide +kernel) rfl
theorem jk_Model_214 : Cond.constantLong "YesNoPowersModel" 214 (3) ∈ jtbl := jmem_5 180 (by decide +kernel) rfl
theorem jk_Model_216 : Cond.methodLink "YesNoPowersModel" 216 jy_Model_leastGirth ∈ jtbl := jmem_5 181 (by decide +kernel) rfl
theorem jk_Law_108 : Cond.methodLink "YesNoPowersLaw" 108 jy_Model_space ∈ jtbl := jmem_5 185 (by decide +kernel) rfl
theorem jk_Model_222 : Cond.methodLink "YesNoPowersModel" 222 jy_Model_isRegular ∈ jtbl := jmem_5 189 (by decide +kernel) rfl
theorem jk_Model_225 : Cond.methodLink "YesNoPowersModel" 225 jy_Model_layBasis ∈ jtbl := jmem_5 193 (by decide +kernel) rfl
theorem jk_Model_228 : Cond.methodLink "YesNoPowersModel" 228 jy_Model_layUnions ∈ jtbl := jmem_5 197 (by decide +kernel) rfl
theorem jk_Law_112 : Cond.methodLink "YesNoPowersLaw" 112 jy_Model_basis ∈ jtbl := jmem_5 201 (by decide +kernel) rfl
theorem jk_Law_116 : Cond.methodLink "YesNoPowersLaw" 116 jy_Model_spans ∈ jtbl := jmem_5 205 (by decide +kernel) rfl
theorem jk_Law_120 : Cond.methodLink "YesNoPowersLaw" 120 jy_Model_alike ∈ jtbl := jmem_5 209 (by decide +kernel) rfl
theorem jk_Model_231 : Cond.methodLink "YesNoPowersModel" 231 jy_Model_isWithin ∈ jtbl := jmem_5 213 (by decide +kernel) rfl
theorem jk_Law_124 : Cond.methodLink "YesNoPowersLaw" 124 jy_Model_roots ∈ jtbl := jmem_5 217 (by decide +kernel) rfl
theorem jk_Model_241 : Cond.methodLink "YesNoPowersModel" 241 jy_Model_isDegree ∈ jtbl := jmem_5 221 (by decide +kernel) rfl
theorem jk_Model_237 : Cond.constantLong "YesNoPowersModel" 237 (2) ∈ jtbl := jmem_5 224 (by decide +kernel) rfl
theorem jk_Model_239 : Cond.constantLong "YesNoPowersModel" 239 (8) ∈ jtbl := jmem_5 225 (by decide +kernel) rfl
theorem jk_Model_244 : Cond.methodLink "YesNoPowersModel" 244 jy_Model_isRoot ∈ jtbl := jmem_5 226 (by decide +kernel) rfl
theorem jk_Model_234 : Cond.methodLink "YesNoPowersModel" 234 jy_Model_layNumber ∈ jtbl := jmem_5 230 (by decide +kernel) rfl
theorem jk_Law_128 : Cond.methodLink "YesNoPowersLaw" 128 jy_Model_root ∈ jtbl := jmem_5 234 (by decide +kernel) rfl
theorem jk_Law_132 : Cond.methodLink "YesNoPowersLaw" 132 jy_Model_link ∈ jtbl := jmem_5 238 (by decide +kernel) rfl
theorem jk_Model_249 : Cond.methodLink "YesNoPowersModel" 249 jy_Model_isLink ∈ jtbl := jmem_6 2 (by decide +kernel) rfl
theorem jk_Model_247 : Cond.constantLong "YesNoPowersModel" 247 (99) ∈ jtbl := jmem_6 6 (by decide +kernel) rfl
theorem jk_Law_136 : Cond.methodLink "YesNoPowersLaw" 136 jy_Model_run ∈ jtbl := jmem_6 7 (by decide +kernel) rfl
theorem jk_Model_273 : Cond.methodLink "YesNoPowersModel" 273 jy_Model_goes ∈ jtbl := jmem_6 11 (by decide +kernel) rfl
theorem jk_Model_267 : Cond.methodLink "YesNoPowersModel" 267 jy_Model_stopsAt ∈ jtbl := jmem_6 15 (by decide +kernel) rfl
theorem jk_Model_255 : Cond.methodLink "YesNoPowersModel" 255 jy_Model_otherOf ∈ jtbl := jmem_6 19 (by decide +kernel) rfl
theorem jk_Model_270 : Cond.methodLink "YesNoPowersModel" 270 jy_Model_goesThrough ∈ jtbl := jmem_6 23 (by decide +kernel) rfl
theorem jk_Model_258 : Cond.methodLink "YesNoPowersModel" 258 jy_Model_meetWith ∈ jtbl := jmem_6 27 (by decide +kernel) rfl
theorem jk_Law_140 : Cond.methodLink "YesNoPowersLaw" 140 jy_Model_would ∈ jtbl := jmem_6 31 (by decide +kernel) rfl
theorem jk_Law_144 : Cond.methodLink "YesNoPowersLaw" 144 jy_Model_closing ∈ jtbl := jmem_6 35 (by decide +kernel) rfl
theorem jk_Law_148 : Cond.methodLink "YesNoPowersLaw" 148 jy_Model_reason ∈ jtbl := jmem_6 39 (by decide +kernel) rfl
theorem jk_Law_153 : Cond.methodLink "YesNoPowersLaw" 153 jy_Model_loosen ∈ jtbl := jmem_6 43 (by decide +kernel) rfl
theorem jk_Law_161 : Cond.methodLink "YesNoPowersLaw" 161 jy_Model_sheet ∈ jtbl := jmem_6 47 (by decide +kernel) rfl
theorem jk_Model_276 : Cond.constantLong "YesNoPowersModel" 276 (-1) ∈ jtbl := jmem_6 51 (by decide +kernel) rfl
theorem jk_Law_165 : Cond.methodLink "YesNoPowersLaw" 165 jy_Model_cell ∈ jtbl := jmem_6 52 (by decide +kernel) rfl
theorem jk_Law_170 : Cond.methodLink "YesNoPowersLaw" 170 jy_Model_item ∈ jtbl := jmem_6 56 (by decide +kernel) rfl
theorem jk_Model_278 : Cond.constantLong "YesNoPowersModel" 278 (-9223372036854775808) ∈ jtbl := jmem_6 60 (by decide +kernel) rfl
theorem jk_Law_175 : Cond.methodLink "YesNoPowersLaw" 175 jy_Model_shift ∈ jtbl := jmem_6 61 (by decide +kernel) rfl
theorem jk_Law_179 : Cond.methodLink "YesNoPowersLaw" 179 jy_Model_count ∈ jtbl := jmem_6 65 (by decide +kernel) rfl
theorem jk_native : Cond.native arraycopyName ∈ jtbl := jmem_4 72 (by decide +kernel) rfl
theorem jk_cstatic : Cond.static arraycopyName ∈ jtbl := jmem_4 71 (by decide +kernel) rfl
theorem jk_csys : Cond.initialized "java/lang/System" ∈ jtbl := jmem_1 14 (by decide +kernel) rfl
end
